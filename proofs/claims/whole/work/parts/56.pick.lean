/-! THE PURE PART: what is picked while a plan is started, as data -/
def t_opc (O : Nat → Bool) (c : Nat) : Prop := O (c / 6) = true ∧ O (6 + c % 6) = true
/-- of the open cells of a line the cheapest, the first -/
def t_ch (cost : Nat → Int32) (O : Nat → Bool) (ln : Nat → Prop) (n c : Nat) : Prop := c < n ∧ t_opc O c ∧ ln c ∧ ∀ d, d < n → t_opc O d → ln d → (cost c).toInt ≤ (cost d).toInt ∧ (cost d = cost c → c ≤ d)
theorem t_ch_uniq {cost : Nat → Int32} {O : Nat → Bool} {ln : Nat → Prop} {n c c' : Nat} (h : t_ch cost O ln n c) (h' : t_ch cost O ln n c') : c = c' := by
  obtain ⟨a1, a2, a3, a4⟩ := h
  obtain ⟨b1, b2, b3, b4⟩ := h'
  obtain ⟨e1, e2⟩ := a4 c' b1 b2 b3
  obtain ⟨f1, f2⟩ := b4 c a1 a2 a3
  have e : cost c = cost c' := by rw [i_eq]; omega
  have := e2 e.symm
  have := f2 e
  omega
theorem t_ch_skip {cost : Nat → Int32} {O : Nat → Bool} {ln : Nat → Prop} {n c : Nat} (h : t_ch cost O ln n c) (h2 : t_opc O n → ln n → (cost c).toInt ≤ (cost n).toInt) : t_ch cost O ln (n + 1) c := by
  obtain ⟨a, b, e, f⟩ := h
  refine ⟨by omega, b, e, fun d hd hp hs => ?_⟩
  by_cases q : d = n
  · rw [q] at hp hs ⊢; exact ⟨h2 hp hs, fun _ => by omega⟩
  · exact f d (by omega) hp hs
theorem t_ch_new {cost : Nat → Int32} {O : Nat → Bool} {ln : Nat → Prop} {n : Nat} (hp : t_opc O n) (hs : ln n) (h : (∀ d, d < n → t_opc O d → ¬ ln d) ∨ ∃ c, t_ch cost O ln n c ∧ (cost n).toInt < (cost c).toInt) : t_ch cost O ln (n + 1) n := by
  refine ⟨by omega, hp, hs, fun d hd hpd hsd => ?_⟩
  by_cases q : d = n
  · rw [q]; exact ⟨Int.le_refl _, fun _ => Nat.le_refl _⟩
  · rcases h with h | ⟨c, hc, hlt⟩
    · exact absurd hsd (h d (by omega) hpd)
    · have := (hc.2.2.2 d (by omega) hpd hsd).1
      refine ⟨by omega, fun e => ?_⟩
      rw [e] at this; omega
theorem t_ch_congr {cost cost' : Nat → Int32} {O : Nat → Bool} {ln : Nat → Prop} {n c : Nat} (hc : ∀ d, d < n → t_opc O d → cost d = cost' d) (h : t_ch cost O ln n c) : t_ch cost' O ln n c := by
  obtain ⟨a1, a2, a3, a4⟩ := h
  refine ⟨a1, a2, a3, fun d hd hp hl => ?_⟩
  rw [← hc c a1 a2, ← hc d hd hp]
  exact a4 d hd hp hl
def t_ln (line : Nat) (c : Nat) : Prop := c / 6 = line ∨ 6 + c % 6 = line
/-- the regret of a line -/
def t_rg (cost : Nat → Int32) (O : Nat → Bool) (line : Nat) (r : Int32) : Prop := ∃ f, t_ch cost O (t_ln line) 36 f ∧
  (((∀ d, d < 36 → t_opc O d → t_ln line d → d = f) ∧ r = cost f) ∨ ∃ s, s < 36 ∧ t_opc O s ∧ t_ln line s ∧ s ≠ f ∧ (∀ d, d < 36 → t_opc O d → t_ln line d → d ≠ f → (cost s).toInt ≤ (cost d).toInt) ∧ r = cost s - cost f)
theorem t_rg_uniq {cost : Nat → Int32} {O : Nat → Bool} {line : Nat} {r r' : Int32} (h : t_rg cost O line r) (h' : t_rg cost O line r') : r = r' := by
  obtain ⟨f, a, b⟩ := h
  obtain ⟨f', a', b'⟩ := h'
  have := t_ch_uniq a a'
  subst this
  rcases b with ⟨b1, b2⟩ | ⟨s, s1, s2, s3, s4, s5, s6⟩ <;> rcases b' with ⟨c1, c2⟩ | ⟨s', u1, u2, u3, u4, u5, u6⟩
  · rw [b2, c2]
  · exact absurd (b1 s' u1 u2 u3) u4
  · exact absurd (c1 s s1 s2 s3) s4
  · have e1 := s5 s' u1 u2 u3 u4
    have e2 := u5 s s1 s2 s3 s4
    have : cost s = cost s' := by rw [i_eq]; omega
    rw [s6, u6, this]
/-- the open line of greatest regret, the first -/
def t_gr (cost : Nat → Int32) (O : Nat → Bool) (n line : Nat) (r : Int32) : Prop := line < n ∧ O line = true ∧ t_rg cost O line r ∧ ∀ l' r', l' < n → O l' = true → t_rg cost O l' r' → r'.toInt ≤ r.toInt ∧ (r' = r → line ≤ l')
theorem t_gr_skip {cost : Nat → Int32} {O : Nat → Bool} {n line : Nat} {r : Int32} (h : t_gr cost O n line r) (h2 : O n = true → ∀ r', t_rg cost O n r' → r'.toInt ≤ r.toInt) : t_gr cost O (n + 1) line r := by
  obtain ⟨a, b, e, f⟩ := h
  refine ⟨by omega, b, e, fun d r' hd hp hs => ?_⟩
  by_cases q : d = n
  · rw [q] at hp hs ⊢; exact ⟨h2 hp r' hs, fun _ => by omega⟩
  · exact f d r' (by omega) hp hs
theorem t_gr_new {cost : Nat → Int32} {O : Nat → Bool} {n : Nat} {r : Int32} (hp : O n = true) (hr : t_rg cost O n r) (h : (∀ l, l < n → O l = false) ∨ ∃ l r0, t_gr cost O n l r0 ∧ r0.toInt < r.toInt) : t_gr cost O (n + 1) n r := by
  refine ⟨by omega, hp, hr, fun d r' hd hpd hsd => ?_⟩
  by_cases q : d = n
  · rw [q] at hsd ⊢
    rw [t_rg_uniq hsd hr]
    exact ⟨Int.le_refl _, fun _ => Nat.le_refl _⟩
  · rcases h with h | ⟨l, r0, hc, hlt⟩
    · rw [h d (by omega)] at hpd; cases hpd
    · have := (hc.2.2.2 d r' (by omega) hpd hsd).1
      refine ⟨by omega, fun e => ?_⟩
      rw [e] at this; omega
theorem t_gr_uniq {cost : Nat → Int32} {O : Nat → Bool} {n line line' : Nat} {r r' : Int32} (h : t_gr cost O n line r) (h' : t_gr cost O n line' r') : line = line' := by
  obtain ⟨a1, a2, a3, a4⟩ := h
  obtain ⟨b1, b2, b3, b4⟩ := h'
  obtain ⟨e1, e2⟩ := a4 line' r' b1 b2 b3
  obtain ⟨f1, f2⟩ := b4 line r a1 a2 a3
  have e : r = r' := by rw [i_eq]; omega
  have := e2 e.symm
  have := f2 e
  omega
def t_pk (rule : Int32) (cost : Nat → Int32) (O : Nat → Bool) (c : Nat) : Prop :=
  if rule = 0 then t_ch (fun _ => 0) O (fun _ => True) 36 c else if rule = 1 then t_ch cost O (fun _ => True) 36 c else ∃ line r, t_gr cost O 12 line r ∧ t_ch cost O (t_ln line) 36 c
theorem t_pk_uniq {rule : Int32} {cost : Nat → Int32} {O : Nat → Bool} {c c' : Nat} (h : t_pk rule cost O c) (h' : t_pk rule cost O c') : c = c' := by
  unfold t_pk at h h'
  by_cases r0 : rule = 0
  · rw [if_pos r0] at h h'; exact t_ch_uniq h h'
  · rw [if_neg r0] at h h'
    by_cases r1 : rule = 1
    · rw [if_pos r1] at h h'; exact t_ch_uniq h h'
    · rw [if_neg r1] at h h'
      obtain ⟨l, r, a, b⟩ := h
      obtain ⟨l', r', a', b'⟩ := h'
      have := t_gr_uniq a a'
      subst this
      exact t_ch_uniq b b'
theorem t_pk_open {rule : Int32} {cost : Nat → Int32} {O : Nat → Bool} {c : Nat} (h : t_pk rule cost O c) : c < 36 ∧ t_opc O c := by
  unfold t_pk at h
  by_cases r0 : rule = 0
  · rw [if_pos r0] at h; exact ⟨h.1, h.2.1⟩
  · rw [if_neg r0] at h
    by_cases r1 : rule = 1
    · rw [if_pos r1] at h; exact ⟨h.1, h.2.1⟩
    · rw [if_neg r1] at h
      obtain ⟨l, r, a, b⟩ := h
      exact ⟨b.1, b.2.1⟩
/-! the data: open, left, basic, loads -/
abbrev TS : Type := (Nat → Bool) × (Nat → Int32) × (Nat → Bool) × (Nat → Int32)
/-- which one closes -/
def t_cl (O : Nat → Bool) (x : Int32) (c : Nat) : Nat := if x = 0 ∧ 1 < t_ctr O 6 then c / 6 else 6 + c % 6
def t_nx (s : TS) (c : Nat) : TS :=
  (t_put s.1 (t_cl s.1 (s.2.1 (c / 6) - mn (s.2.1 (c / 6)) (s.2.1 (6 + c % 6))) c) false,
   upd (upd s.2.1 (c / 6) (s.2.1 (c / 6) - mn (s.2.1 (c / 6)) (s.2.1 (6 + c % 6)))) (6 + c % 6) (s.2.1 (6 + c % 6) - mn (s.2.1 (c / 6)) (s.2.1 (6 + c % 6))),
   t_put s.2.2.1 c true, upd s.2.2.2 c (mn (s.2.1 (c / 6)) (s.2.1 (6 + c % 6))))
def t_sinks (O : Nat → Bool) : Nat := t_ctr (fun v => O (6 + v)) 6
def t_srun (rule : Int32) (cost : Nat → Int32) : Nat → TS → TS → Prop
  | 0, s, s' => t_sinks s.1 = 0 ∧ s' = s
  | f + 1, s, s' => (t_sinks s.1 = 0 ∧ s' = s) ∨ (0 < t_sinks s.1 ∧ ∃ c, t_pk rule cost s.1 c ∧ t_srun rule cost f (t_nx s c) s')
theorem t_srun_det {rule : Int32} {cost : Nat → Int32} : ∀ (f f' : Nat) {s s' s'' : TS}, t_srun rule cost f s s' → t_srun rule cost f' s s'' → s' = s''
  | 0, 0, s, s', s'', h, h' => h.2.trans h'.2.symm
  | 0, f' + 1, s, s', s'', h, h' => by
    rcases h' with ⟨a, b⟩ | ⟨a, b⟩
    · exact h.2.trans b.symm
    · have := h.1; omega
  | f + 1, 0, s, s', s'', h, h' => by
    rcases h with ⟨a, b⟩ | ⟨a, b⟩
    · exact b.trans h'.2.symm
    · have := h'.1; omega
  | f + 1, f' + 1, s, s', s'', h, h' => by
    rcases h with ⟨a, b⟩ | ⟨a, c, b, d⟩ <;> rcases h' with ⟨a', b'⟩ | ⟨a', c', b', d'⟩
    · exact b.trans b'.symm
    · omega
    · omega
    · have := t_pk_uniq b b'
      subst this
      exact t_srun_det f f' d d'
def t_sok (S T : Nat) (s : TS) : Prop := S ≤ 6 ∧ T ≤ 6 ∧ t_op S T s.2.2.1 s.1 ∧ 0 < t_ctr s.1 6 ∧ (∀ v, v < 12 → 0 ≤ (s.2.1 v).toInt) ∧ (∀ v, v < 12 → s.1 v = false → s.2.1 v = 0) ∧
  t_sum (fun v => (s.2.1 v).toInt) 6 = t_sum (fun v => (s.2.1 (6 + v)).toInt) 6 ∧ (∀ c, c < 36 → 0 ≤ (s.2.2.2 c).toInt) ∧ t_sum (fun c => (s.2.2.2 c).toInt) 36 + t_sum (fun v => (s.2.1 v).toInt) 6 ≤ 600 ∧
  (∀ c, c < 36 → s.2.2.1 c = false → s.2.2.2 c = 0) ∧ (∀ c, c < 36 → s.2.2.1 c = true → ¬ t_opc s.1 c) ∧ (∀ c, 36 ≤ c → s.2.2.1 c = false) ∧ (t_sinks s.1 = 0 → t_ctr s.1 6 = 1)
theorem t_ctr_zero {f : Nat → Bool} {n : Nat} (h : t_ctr f n = 0) : ∀ k, k < n → f k = false := by
  intro k hk
  cases q : f k
  · rfl
  · have := t_ctr_pos q n hk; omega
theorem t_ctr_one {f : Nat → Bool} {n a b : Nat} (h : t_ctr f n ≤ 1) (ha : a < n) (hb : b < n) (ea : f a = true) (eb : f b = true) : a = b := by
  apply Classical.byContradiction
  intro hn
  have := t_ctr_put ea n
  rw [if_pos ha] at this
  have := t_ctr_pos (f := t_put f a false) (d := b) (by unfold t_put; rw [if_neg (fun e => hn e.symm)]; exact eb) n hb
  omega
theorem t_sum_up' {f g : Nat → Int} {p n : Nat} (hp : p < n) (hg : ∀ k, k < n → k ≠ p → g k = f k) : t_sum g n = t_sum f n - f p + g p := by
  have e := t_sum_eq (f := g) (g := fun k => if k < n then g k else f k) n (fun k hk => by show g k = if k < n then g k else f k; rw [if_pos hk])
  have e2 := t_sum_up (f := f) (g := fun k => if k < n then g k else f k) (p := p) (fun k hk => by
    show (if k < n then g k else f k) = f k
    by_cases q : k < n
    · rw [if_pos q]; exact hg k q hk
    · rw [if_neg q]) n
  rw [if_pos hp] at e2
  rw [e, e2]
  show _ - _ + (if p < n then g p else f p) = _
  rw [if_pos hp]
theorem t_nx_ok {S T : Nat} {s : TS} {c : Nat} (h : t_sok S T s) (hc : c < 36) (ho : t_opc s.1 c) : t_sok S T (t_nx s c) ∧ t_ctr (t_nx s c).1 12 + 1 = t_ctr s.1 12 := by
  obtain ⟨hS, hT, hop, hpos, hlf, hcl, hbal, hld, hsum, hz, hbo, hB, hlast⟩ := h
  obtain ⟨O, lf, B, ld⟩ := s
  simp only at hop hpos hlf hcl hbal hld hsum hz hbo hB hlast
  obtain ⟨ho1, ho2⟩ := ho
  change O (c / 6) = true at ho1
  change O (6 + c % 6) = true at ho2
  have hi6 : c / 6 < 6 := by omega
  have hj6 : c % 6 < 6 := by omega
  obtain ⟨mi, mj, mo⟩ := mn_le (lf (c / 6)) (lf (6 + c % 6))
  have l1 := hlf (c / 6) (by omega)
  have l2 := hlf (6 + c % 6) (by omega)
  have m0 : 0 ≤ (mn (lf (c / 6)) (lf (6 + c % 6))).toInt := by rcases mo with e | e <;> rw [e] <;> assumption
  generalize em : mn (lf (c / 6)) (lf (6 + c % 6)) = its at *
  have sub1 : (lf (c / 6) - its).toInt = (lf (c / 6)).toInt - its.toInt := by
    have := Int32.toInt_lt (lf (c / 6))
    rw [Int32.toInt_sub]; apply Int.bmod_eq_of_le <;> omega
  have sub2 : (lf (6 + c % 6) - its).toInt = (lf (6 + c % 6)).toInt - its.toInt := by
    have := Int32.toInt_lt (lf (6 + c % 6))
    rw [Int32.toInt_sub]; apply Int.bmod_eq_of_le <;> omega
  have enx : t_nx (O, lf, B, ld) c = (t_put O (t_cl O (lf (c / 6) - its) c) false, upd (upd lf (c / 6) (lf (c / 6) - its)) (6 + c % 6) (lf (6 + c % 6) - its), t_put B c true, upd ld c its) := by
    unfold t_nx
    simp only [em]
  rw [enx]
  -- what is left then
  generalize elf : upd (upd lf (c / 6) (lf (c / 6) - its)) (6 + c % 6) (lf (6 + c % 6) - its) = lf'
  have lf1 : lf' (c / 6) = lf (c / 6) - its := by rw [← elf]; unfold upd; rw [if_neg (by omega), if_pos rfl]
  have lf2 : lf' (6 + c % 6) = lf (6 + c % 6) - its := by rw [← elf]; unfold upd; rw [if_pos rfl]
  have lf3 : ∀ v, v ≠ c / 6 → v ≠ 6 + c % 6 → lf' v = lf v := fun v a b => by rw [← elf]; unfold upd; rw [if_neg b, if_neg a]
  have nn' : ∀ v, v < 12 → 0 ≤ (lf' v).toInt := by
    intro v hv
    by_cases q : v = c / 6
    · rw [q, lf1, sub1]; omega
    · by_cases q2 : v = 6 + c % 6
      · rw [q2, lf2, sub2]; omega
      · rw [lf3 v q q2]; exact hlf v hv
  have su1 : t_sum (fun v => (lf' v).toInt) 6 = t_sum (fun v => (lf v).toInt) 6 - its.toInt := by
    rw [t_sum_up' (f := fun v => (lf v).toInt) (g := fun v => (lf' v).toInt) hi6 (fun k hk hn => by show (lf' k).toInt = _; rw [lf3 k hn (by omega)]), lf1, sub1]
    omega
  have su2 : t_sum (fun v => (lf' (6 + v)).toInt) 6 = t_sum (fun v => (lf (6 + v)).toInt) 6 - its.toInt := by
    rw [t_sum_up' (f := fun v => (lf (6 + v)).toInt) (g := fun v => (lf' (6 + v)).toInt) hj6 (fun k hk hn => by show (lf' (6 + k)).toInt = _; rw [lf3 (6 + k) (by omega) (by omega)]), lf2, sub2]
    omega
  have bal' : t_sum (fun v => (lf' v).toInt) 6 = t_sum (fun v => (lf' (6 + v)).toInt) 6 := by rw [su1, su2, hbal]
  have su3 : t_sum (fun d => (upd ld c its d).toInt) 36 = t_sum (fun d => (ld d).toInt) 36 + its.toInt := by
    have hb : B c = false := by
      cases q : B c
      · rfl
      · exact absurd ⟨ho1, ho2⟩ (hbo c hc q)
    rw [t_sum_up' (f := fun d => (ld d).toInt) (g := fun d => (upd ld c its d).toInt) hc (fun k hk hn => by show (upd ld c its k).toInt = _; unfold upd; rw [if_neg hn])]
    have e0 := hz c hc hb
    have e1 : upd ld c its c = its := by unfold upd; rw [if_pos rfl]
    rw [e0, e1, show (0 : Int32).toInt = 0 from rfl]
    omega
  -- who closes has nothing left, and is open
  generalize ex : t_cl O (lf (c / 6) - its) c = x
  have hx : (x = c / 6 ∧ lf' (c / 6) = 0 ∧ 1 < t_ctr O 6) ∨ (x = 6 + c % 6 ∧ ¬ (lf' (c / 6) = 0 ∧ 1 < t_ctr O 6)) := by
    rw [← ex, lf1]
    unfold t_cl
    by_cases q : lf (c / 6) - its = 0 ∧ 1 < t_ctr O 6
    · rw [if_pos q]; exact Or.inl ⟨rfl, q⟩
    · rw [if_neg q]; exact Or.inr ⟨rfl, q⟩
  have hxO : O x = true := by rcases hx with ⟨e, -⟩ | ⟨e, -⟩ <;> rw [e] <;> assumption
  have hx12 : x < 12 := by rcases hx with ⟨e, -⟩ | ⟨e, -⟩ <;> omega
  have off : ∀ v, v < 12 → O v = false → lf' v = 0 := by
    intro v hv hO
    rw [lf3 v (fun e => by rw [e, ho1] at hO; cases hO) (fun e => by rw [e, ho2] at hO; cases hO)]
    exact hcl v hv hO
  have hx0 : lf' x = 0 := by
    rcases hx with ⟨e, a, -⟩ | ⟨e, a⟩
    · rw [e]; exact a
    · rw [e]
      by_cases q : lf' (c / 6) = 0
      · have h1 : t_ctr O 6 ≤ 1 := Nat.le_of_not_lt (fun r => a ⟨q, r⟩)
        have all0 : ∀ v, v < 6 → lf' v = 0 := by
          intro v hv
          by_cases r : v = c / 6
          · rw [r]; exact q
          · cases hO : O v
            · exact off v (by omega) hO
            · exact absurd (t_ctr_one h1 hv hi6 hO ho1) r
        have s0 : t_sum (fun v => (lf' v).toInt) 6 = 0 := by
          rw [t_sum_eq (g := fun _ => 0) 6 (fun k hk => by show (lf' k).toInt = 0; rw [all0 k hk]; rfl)]
          rfl
        have := t_sum_zero (f := fun v => (lf' (6 + v)).toInt) 6 (fun k hk => nn' _ (by omega)) (by rw [← bal', s0]) (c % 6) hj6
        rw [i_eq]; exact this
      · rcases mo with r | r
        · exfalso; apply q; rw [lf1, ← r, Int32.sub_self]
        · rw [lf2, ← r, Int32.sub_self]
  have cnt12 := t_ctr_put hxO 12
  rw [if_pos hx12] at cnt12
  have kn' : ∀ v, t_put O x false v = true → O v = true ∧ v ≠ x := by
    intro v hv
    unfold t_put at hv
    by_cases q : v = x
    · rw [if_pos q] at hv; cases hv
    · rw [if_neg q] at hv; exact ⟨hv, q⟩
  refine ⟨⟨hS, hT, ?_, ?_, nn', fun v hv hO => ?_, bal', fun d hd => ?_, ?_, fun d hd hb => ?_, fun d hd hb ho => ?_, fun d hd => ?_, fun hno => ?_⟩, cnt12⟩
  · rcases hx with ⟨e, -⟩ | ⟨e, -⟩
    · exact t_op_step hS hop hc ho1 ho2 (Or.inl ⟨e, rfl⟩)
    · exact t_op_step hS hop hc ho1 ho2 (Or.inr ⟨e, rfl⟩)
  · show 0 < t_ctr (t_put O x false) 6
    have := t_ctr_put hxO 6
    rcases hx with ⟨e, -, a⟩ | ⟨e, -⟩
    · rw [if_pos (by omega)] at this; omega
    · rw [if_neg (by omega)] at this; omega
  · change t_put O x false v = false at hO
    show lf' v = 0
    by_cases q : v = x
    · rw [q]; exact hx0
    · unfold t_put at hO
      rw [if_neg q] at hO
      exact off v hv hO
  · show 0 ≤ (upd ld c its d).toInt
    unfold upd
    by_cases q : d = c
    · rw [if_pos q]; exact m0
    · rw [if_neg q]; exact hld d hd
  · show t_sum (fun d => (upd ld c its d).toInt) 36 + t_sum (fun v => (lf' v).toInt) 6 ≤ 600
    rw [su3, su1]; omega
  · change t_put B c true d = false at hb
    show upd ld c its d = 0
    unfold t_put at hb
    unfold upd
    by_cases q : d = c
    · rw [if_pos q] at hb; cases hb
    · rw [if_neg q] at hb
      rw [if_neg q]; exact hz d hd hb
  · change t_put B c true d = true at hb
    obtain ⟨o1, o2⟩ := ho
    have o1 := kn' _ o1
    have o2 := kn' _ o2
    unfold t_put at hb
    by_cases q : d = c
    · rcases hx with ⟨e, -⟩ | ⟨e, -⟩
      · exact o1.2 (by rw [e, q])
      · exact o2.2 (by rw [e, q])
    · rw [if_neg q] at hb
      exact hbo d hd hb ⟨o1.1, o2.1⟩
  · show t_put B c true d = false
    unfold t_put
    rw [if_neg (by omega)]
    exact hB d hd
  · change t_sinks (t_put O x false) = 0 at hno
    show t_ctr (t_put O x false) 6 = 1
    have noO := t_ctr_zero hno
    rcases hx with ⟨e, -⟩ | ⟨e, a⟩
    · have := noO (c % 6) hj6
      change t_put O x false (6 + c % 6) = false at this
      unfold t_put at this
      rw [if_neg (by omega), ho2] at this
      cases this
    · have cnt6 := t_ctr_put hxO 6
      rw [if_neg (by omega), Nat.add_zero] at cnt6
      rw [cnt6]
      -- all sinks are closed: nothing is left
      have s0 : t_sum (fun v => (lf' (6 + v)).toInt) 6 = 0 := by
        rw [t_sum_eq (g := fun _ => 0) 6 (fun k hk => ?_)]
        · rfl
        · show (lf' (6 + k)).toInt = 0
          have r := noO k hk
          change t_put O x false (6 + k) = false at r
          by_cases q : 6 + k = x
          · rw [q, hx0]; rfl
          · unfold t_put at r
            rw [if_neg q] at r
            rw [off _ (by omega) r]; rfl
      have := t_sum_zero (f := fun v => (lf' v).toInt) 6 (fun k hk => nn' _ (by omega)) (by rw [bal', s0]) (c / 6) hi6
      have q : lf' (c / 6) = 0 := by rw [i_eq]; exact this
      have : ¬ 1 < t_ctr O 6 := fun r => a ⟨q, r⟩
      omega
/-- behind all picks there is a tree -/
theorem t_sok_end {S T : Nat} {s : TS} (h : t_sok S T s) (hS : 0 < S) (hT : 0 < T) (h0 : t_sinks s.1 = 0) (cost : Nat → Int32) (hc : t_cok cost S T) (te tg tt : Nat → Int32) : t_ok S T cost (0, s.2.2.2, s.2.2.1, te, tg, tt) := by
  obtain ⟨hS6, hT6, hop, hpos, hlf, hcl, hbal, hld, hsum, hz, hbo, hB, hlast⟩ := h
  have h1 := hlast h0
  obtain ⟨u, hu, hu2⟩ := t_ctr_ex 6 hpos
  have noO := t_ctr_zero h0
  have ht : t_tree S T s.2.2.1 := by
    refine t_op_end hop ⟨hS, hS6⟩ ⟨hT, hT6⟩ (u := u) (fun v hv => ?_)
    have hn := hop.2.1 v hv
    by_cases q : v < 6
    · exact t_ctr_one (by omega) q hu hv hu2
    · have := noO (v - 6) (by rcases hn with r | r <;> omega)
      change s.1 (6 + (v - 6)) = false at this
      rw [show 6 + (v - 6) = v by omega, hv] at this
      cases this
  have nn := (t_sum_ge (f := fun v => (s.2.1 v).toInt) 6 (fun k hk => hlf k (by omega))).1
  exact ⟨ht, hc, hld, by show t_sum (fun c => (s.2.2.2 c).toInt) 36 ≤ 600; omega, hz, hB, by show 0 ≤ 100; omega⟩
