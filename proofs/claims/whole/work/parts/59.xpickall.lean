/-! THE PURE PART: what the class picks, all rules -/
theorem x2_regret {o a1 S T : Nat} {cost : Nat → Int32} {O : Nat → Bool} {μ : Mem} (hp : PX o a1 S T cost O μ) (h1 : 0 < t_ctr O 6) (h2 : 0 < t_sinks O) :
    ∃ c μ', f_X2_pickRegret o a1 36 μ = some μ' ∧ (∃ line r, t_gr cost O 12 line r ∧ t_ch cost O (t_ln line) 36 c) ∧ fr (OA o) μ μ' ∧ μ'.1 o 4 = nI (c / 6) ∧ μ'.1 o 5 = nI (c % 6) := by
  have hp0 := hp
  obtain ⟨p1, p2, p3, p4, p5, p6, p7, p8⟩ := hp
  obtain ⟨i0, i1, i2⟩ := t_ctr_ex 6 h1
  obtain ⟨j0, j1, j2⟩ := t_ctr_ex 6 h2
  have j2' : O (6 + j0) = true := j2
  have hi0 : i0 < S := by rcases p4 _ i2 with r | r <;> omega
  have hj0 : j0 < T := by rcases p4 _ j2' with r | r <;> omega
  have hco : ∀ c, c < 36 → t_opc O c → 0 ≤ (cost c).toInt ∧ (cost c).toInt ≤ 1100 := fun c hc ho => (p8 c hc ho).2
  -- so far
  have P : ∀ (l : Nat) (x : Int32) (s : Mem), Prop := fun _ _ _ => True
  clear P
  -- one more line
  have more : ∀ (l : Nat) (x : Int32) (s : Mem) (z : Int32), fr (OA o) μ s → ((x = -1 ∧ ∀ l', l' < l → O l' = false) ∨ ∃ line, t_gr cost O l line x ∧ ∃ c, t_ch cost O (t_ln line) 36 c ∧ s.1 o 4 = nI (c / 6) ∧ s.1 o 5 = nI (c % 6)) →
      O l = true → t_rg cost O l z → ∀ s', fr (OA o) μ s' → (∃ c, t_ch cost O (t_ln l) 36 c ∧ s'.1 o 4 = nI (c / 6) ∧ s'.1 o 5 = nI (c % 6)) →
      (z ≤ x → ∃ line, t_gr cost O (l + 1) line x ∧ ∃ c, t_ch cost O (t_ln line) 36 c ∧ s.1 o 4 = nI (c / 6) ∧ s.1 o 5 = nI (c % 6)) ∧ (¬ z ≤ x → ∃ line, t_gr cost O (l + 1) line z ∧ ∃ c, t_ch cost O (t_ln line) 36 c ∧ s'.1 o 4 = nI (c / 6) ∧ s'.1 o 5 = nI (c % 6)) := by
    intro l x s z hs hv hl hz s' hs' hc
    have znn := t_rg_nn hco hz
    constructor
    · intro hle
      rcases hv with ⟨a, b⟩ | ⟨line, a, b⟩
      · rw [a, i_le, show (-1 : Int32).toInt = -1 from rfl] at hle; omega
      · exact ⟨line, t_gr_skip a (fun _ r' hr' => by rw [t_rg_uniq hr' hz]; exact i_le.mp hle), b⟩
    · intro hle
      refine ⟨l, t_gr_new hl hz ?_, hc⟩
      rcases hv with ⟨a, b⟩ | ⟨line, a, b⟩
      · exact Or.inl b
      · exact Or.inr ⟨line, x, a, by rw [i_le] at hle; omega⟩
  have skip : ∀ (l : Nat) (x : Int32) (s : Mem), O l = false → ((x = -1 ∧ ∀ l', l' < l → O l' = false) ∨ ∃ line, t_gr cost O l line x ∧ ∃ c, t_ch cost O (t_ln line) 36 c ∧ s.1 o 4 = nI (c / 6) ∧ s.1 o 5 = nI (c % 6)) →
      ((x = -1 ∧ ∀ l', l' < l + 1 → O l' = false) ∨ ∃ line, t_gr cost O (l + 1) line x ∧ ∃ c, t_ch cost O (t_ln line) 36 c ∧ s.1 o 4 = nI (c / 6) ∧ s.1 o 5 = nI (c % 6)) := by
    intro l x s hl hv
    rcases hv with ⟨a, b⟩ | ⟨line, a, b⟩
    · refine Or.inl ⟨a, fun l' h => ?_⟩
      by_cases q : l' = l
      · rw [q]; exact hl
      · exact b l' (by omega)
    · exact Or.inr ⟨line, t_gr_skip a (fun h => by rw [hl] at h; cases h), b⟩
  have skips : ∀ (d l : Nat) (x : Int32) (s : Mem), (∀ l', l ≤ l' → l' < l + d → O l' = false) → ((x = -1 ∧ ∀ l', l' < l → O l' = false) ∨ ∃ line, t_gr cost O l line x ∧ ∃ c, t_ch cost O (t_ln line) 36 c ∧ s.1 o 4 = nI (c / 6) ∧ s.1 o 5 = nI (c % 6)) →
      ((x = -1 ∧ ∀ l', l' < l + d → O l' = false) ∨ ∃ line, t_gr cost O (l + d) line x ∧ ∃ c, t_ch cost O (t_ln line) 36 c ∧ s.1 o 4 = nI (c / 6) ∧ s.1 o 5 = nI (c % 6)) := by
    intro d
    induction d with
    | zero => intro l x s _ h; exact h
    | succ d ih =>
      intro l x s hO h
      exact skip (l + d) x s (hO _ (by omega) (by omega)) (ih l x s (fun l' a b => hO l' a (by omega)) h)
  have zle : ∀ x : Int32, 0 ≤ x.toInt → ((-1 : Int32) ≤ x) := fun x h => by rw [i_le, show (-1 : Int32).toInt = -1 from rfl]; omega
  have xnn : ∀ (l : Nat) (x : Int32) (s : Mem), ((x = -1 ∧ ∀ l', l' < l → O l' = false) ∨ ∃ line, t_gr cost O l line x ∧ ∃ c, t_ch cost O (t_ln line) 36 c ∧ s.1 o 4 = nI (c / 6) ∧ s.1 o 5 = nI (c % 6)) → (-1 : Int32) ≤ x := by
    intro l x s hv
    rcases hv with ⟨a, b⟩ | ⟨line, a, b⟩
    · rw [a]; decide
    · exact zle x (t_rg_nn hco a.2.2.1)
  -- the columns
  have cols : ∀ (x : Int32) (s : Mem), fr (OA o) μ s → ((x = -1 ∧ ∀ l', l' < 6 → O l' = false) ∨ ∃ line, t_gr cost O 6 line x ∧ ∃ c, t_ch cost O (t_ln line) 36 c ∧ s.1 o 4 = nI (c / 6) ∧ s.1 o 5 = nI (c % 6)) →
      ∃ c μ', f_X2_pickRegret_89 o a1 36 FU x 0 s = some μ' ∧ (∃ line r, t_gr cost O 12 line r ∧ t_ch cost O (t_ln line) 36 c) ∧ fr (OA o) μ μ' ∧ μ'.1 o 4 = nI (c / 6) ∧ μ'.1 o 5 = nI (c % 6) := by
    intro x s hs hv
    refine q_loop0 (fun n j (s : Int32 × Mem) => f_X2_pickRegret_89 o a1 36 n s.1 (nI j) s.2) T (by omega)
      (fun j s => fr (OA o) μ s.2 ∧ ((s.1 = -1 ∧ ∀ l', l' < 6 + j → O l' = false) ∨ ∃ line, t_gr cost O (6 + j) line s.1 ∧ ∃ c, t_ch cost O (t_ln line) 36 c ∧ s.2.1 o 4 = nI (c / 6) ∧ s.2.1 o 5 = nI (c % 6)))
      (fun z => ∃ c μ', z = some μ' ∧ (∃ line r, t_gr cost O 12 line r ∧ t_ch cost O (t_ln line) 36 c) ∧ fr (OA o) μ μ' ∧ μ'.1 o 4 = nI (c / 6) ∧ μ'.1 o 5 = nI (c % 6)) ?_ ?_ (x, s) ⟨hs, hv⟩
    · rintro n j ⟨x, s⟩ hj ⟨q1, q2⟩
      right
      change fr (OA o) μ s at q1
      obtain ⟨-, -, -, -, r5, r6, r7, r8⟩ := PX_fr hp0 q1
      have aj := (r5 j (by omega)).2
      cases oj : O (6 + j)
      · rw [oj] at aj
        refine ⟨(x, s), ⟨q1, skip (6 + j) x s oj q2⟩, ?_⟩
        show g_X2_pickRegret_89 o a1 36 _ x (nI j) s = _
        unfold g_X2_pickRegret_89 f_X2_pickRegret_125
        have := xnn _ _ _ q2
        change (-1 : Int32) ≤ x at this
        simp (disch := omega) only [lt_k, bnv_s, bnd_s, grd_t, q_in, q_inb, q_c, q_leT, q_leF, q_ltT, q_ltF, q_neg, q_nn, q_z, q_le0, q_b0, q_b1, nI_add, nI_0, q_off, q_self, q_oth, cst_2, st_2, ↓reduceIte, f_X8_cellAt, f_X8_roadAt, q_le1, q_nle1, q_le2, q_nle2, q_le5, q_nle5, q_le6, q_nle6, q_le8, q_nle8, q_le12, q_nle12, q_le25, q_nle25, q_le36, q_nle36, q_le60, q_nle60, q_le99, q_nle99, q_le100, q_nle100, q_le300, q_nle300, q_le640, q_nle640, q_le411, q_nle411, q_mul2, q_lmul2, q_mul3, q_lmul3, q_mul5, q_lmul5, q_mul6, q_lmul6, q_mul10, q_lmul10, q_add1, q_ladd1, q_add2, q_ladd2, q_add3, q_ladd3, q_add5, q_ladd5, q_add6, q_ladd6, q_add100, q_ladd100, q_div2, q_rem2, q_div3, q_rem3, q_div6, q_rem6, q_div10, q_rem10, r7, aj, b01_f, this]
      · rw [oj] at aj
        have al := t_along_col p2 p3 p4 (show j < 6 by omega) oj
        obtain ⟨a, b, e1, tw⟩ := x2_regretOf (a0 := a1) (a3 := o + 1) (fr0 := j) (sd := 6) (n := S) (g := fun k => cost (j + k * 6)) (op := fun k => O k) (μ := s) p2 (by omega) (by omega) al.2.2.2.2 (fun k hk => (r5 k (by omega)).1)
          (fun k hk ho => by have c0 := al.1 k hk ho; have := r8 _ c0.1 c0.2.1; exact ⟨this.1, this.2.2⟩)
        have rg := t_two_rg al (fun c hc ho => (hco c hc ho).2) ⟨i0, hi0, i2⟩ tw
        change f_X2_regretOf a1 36 (nI j) 6 (o + 1) 6 (nI S) s = _ at e1
        obtain ⟨f, e2, am⟩ := x2_cheapestOf (a0 := a1) (a3 := o + 1) (fr0 := j) (sd := 6) (n := S) (g := fun k => cost (j + k * 6)) (op := fun k => O k) (μ := s) p2 (by omega) (by omega) al.2.2.2.2 (fun k hk => (r5 k (by omega)).1)
          (fun k hk ho => by have c0 := al.1 k hk ho; have := r8 _ c0.1 c0.2.1; exact ⟨this.1, this.2.2⟩) ⟨i0, hi0, i2⟩
        change f_X2_cheapestOf a1 36 (nI j) 6 (o + 1) 6 (nI S) s = _ at e2
        have hf := am.1
        have ch := t_am_ch al am
        generalize (if b = 1000000 then a else b - a) = z at *
        have fs' : fr (OA o) μ (st (st s o 4 (nI f)) o 5 (nI j)) := fr_st' (fr_st' q1 (by unfold OA; omega)) (by unfold OA; omega)
        obtain ⟨m1, m2⟩ := more (6 + j) x s z q1 q2 oj rg (st (st s o 4 (nI f)) o 5 (nI j)) fs' ⟨_, ch, by rw [q_oth _ _ _ (by omega), q_self]; congr 1; omega, by rw [q_self]; congr 1; omega⟩
        by_cases hle : z ≤ x
        · refine ⟨(x, s), ⟨q1, Or.inr (m1 hle)⟩, ?_⟩
          show g_X2_pickRegret_89 o a1 36 _ x (nI j) s = _
          unfold g_X2_pickRegret_89 f_X2_pickRegret_125
          simp (disch := omega) only [lt_k, bnv_s, bnd_s, grd_t, q_in, q_inb, q_c, q_leT, q_leF, q_ltT, q_ltF, q_neg, q_nn, q_z, q_le0, q_b0, q_b1, nI_add, nI_0, q_off, q_self, q_oth, cst_2, st_2, ↓reduceIte, f_X8_cellAt, f_X8_roadAt, q_le1, q_nle1, q_le2, q_nle2, q_le5, q_nle5, q_le6, q_nle6, q_le8, q_nle8, q_le12, q_nle12, q_le25, q_nle25, q_le36, q_nle36, q_le60, q_nle60, q_le99, q_nle99, q_le100, q_nle100, q_le300, q_nle300, q_le640, q_nle640, q_le411, q_nle411, q_mul2, q_lmul2, q_mul3, q_lmul3, q_mul5, q_lmul5, q_mul6, q_lmul6, q_mul10, q_lmul10, q_add1, q_ladd1, q_add2, q_ladd2, q_add3, q_ladd3, q_add5, q_ladd5, q_add6, q_ladd6, q_add100, q_ladd100, q_div2, q_rem2, q_div3, q_rem3, q_div6, q_rem6, q_div10, q_rem10, r7, r6, aj, b01_t, q_10, e1, hle]
        · refine ⟨(z, st (st s o 4 (nI f)) o 5 (nI j)), ⟨fs', Or.inr (m2 hle)⟩, ?_⟩
          show g_X2_pickRegret_89 o a1 36 _ x (nI j) s = _
          unfold g_X2_pickRegret_89 f_X2_pickRegret_125
          simp (disch := omega) only [lt_k, bnv_s, bnd_s, grd_t, q_in, q_inb, q_c, q_leT, q_leF, q_ltT, q_ltF, q_neg, q_nn, q_z, q_le0, q_b0, q_b1, nI_add, nI_0, q_off, q_self, q_oth, cst_2, st_2, ↓reduceIte, f_X8_cellAt, f_X8_roadAt, q_le1, q_nle1, q_le2, q_nle2, q_le5, q_nle5, q_le6, q_nle6, q_le8, q_nle8, q_le12, q_nle12, q_le25, q_nle25, q_le36, q_nle36, q_le60, q_nle60, q_le99, q_nle99, q_le100, q_nle100, q_le300, q_nle300, q_le640, q_nle640, q_le411, q_nle411, q_mul2, q_lmul2, q_mul3, q_lmul3, q_mul5, q_lmul5, q_mul6, q_lmul6, q_mul10, q_lmul10, q_add1, q_ladd1, q_add2, q_ladd2, q_add3, q_ladd3, q_add5, q_ladd5, q_add6, q_ladd6, q_add100, q_ladd100, q_div2, q_rem2, q_div3, q_rem3, q_div6, q_rem6, q_div10, q_rem10, r7, r6, aj, b01_t, q_10, e1, e2, hle]
    · rintro n ⟨x, s⟩ ⟨q1, q2⟩
      change fr (OA o) μ s at q1
      obtain ⟨-, -, -, -, r5, r6, r7, r8⟩ := PX_fr hp0 q1
      have q3 := skips (6 - T) (6 + T) x s (fun l' a b => by
        cases r : O l'
        · rfl
        · rcases p4 _ r with u | u <;> omega) q2
      rw [show 6 + T + (6 - T) = 12 by omega] at q3
      rcases q3 with ⟨a, b⟩ | ⟨line, a, c, b, e⟩
      · rw [b i0 (by omega)] at i2; cases i2
      · refine ⟨c, s, ?_, ⟨line, x, a, b⟩, q1, e⟩
        show g_X2_pickRegret_89 o a1 36 _ x (nI T) s = _
        unfold g_X2_pickRegret_89
        simp (disch := omega) only [lt_k, bnv_s, bnd_s, grd_t, q_in, q_inb, q_c, q_leT, q_leF, q_ltT, q_ltF, q_neg, q_nn, q_z, q_le0, q_b0, q_b1, nI_add, nI_0, q_off, q_self, q_oth, cst_2, st_2, ↓reduceIte, f_X8_cellAt, f_X8_roadAt, q_le1, q_nle1, q_le2, q_nle2, q_le5, q_nle5, q_le6, q_nle6, q_le8, q_nle8, q_le12, q_nle12, q_le25, q_nle25, q_le36, q_nle36, q_le60, q_nle60, q_le99, q_nle99, q_le100, q_nle100, q_le300, q_nle300, q_le640, q_nle640, q_le411, q_nle411, q_mul2, q_lmul2, q_mul3, q_lmul3, q_mul5, q_lmul5, q_mul6, q_lmul6, q_mul10, q_lmul10, q_add1, q_ladd1, q_add2, q_ladd2, q_add3, q_ladd3, q_add5, q_ladd5, q_add6, q_ladd6, q_add100, q_ladd100, q_div2, q_rem2, q_div3, q_rem3, q_div6, q_rem6, q_div10, q_rem10, r7]
  refine q_loop0 (fun n i (s : Int32 × Mem) => f_X2_pickRegret_4 o a1 36 n s.1 (nI i) s.2) S (by omega)
    (fun i s => fr (OA o) μ s.2 ∧ ((s.1 = -1 ∧ ∀ l', l' < i → O l' = false) ∨ ∃ line, t_gr cost O i line s.1 ∧ ∃ c, t_ch cost O (t_ln line) 36 c ∧ s.2.1 o 4 = nI (c / 6) ∧ s.2.1 o 5 = nI (c % 6)))
    (fun z => ∃ c μ', z = some μ' ∧ (∃ line r, t_gr cost O 12 line r ∧ t_ch cost O (t_ln line) 36 c) ∧ fr (OA o) μ μ' ∧ μ'.1 o 4 = nI (c / 6) ∧ μ'.1 o 5 = nI (c % 6)) ?_ ?_ (-1, μ) ⟨fr_refl _ _, Or.inl ⟨rfl, fun l' h => by omega⟩⟩
  · rintro n i ⟨x, s⟩ hi ⟨q1, q2⟩
    right
    change fr (OA o) μ s at q1
    obtain ⟨-, -, -, -, r5, r6, r7, r8⟩ := PX_fr hp0 q1
    have ai := (r5 i (by omega)).1
    cases oi : O i
    · rw [oi] at ai
      refine ⟨(x, s), ⟨q1, skip i x s oi q2⟩, ?_⟩
      show g_X2_pickRegret_4 o a1 36 _ x (nI i) s = _
      unfold g_X2_pickRegret_4 f_X2_pickRegret_43
      have := xnn _ _ _ q2
      change (-1 : Int32) ≤ x at this
      simp (disch := omega) only [lt_k, bnv_s, bnd_s, grd_t, q_in, q_inb, q_c, q_leT, q_leF, q_ltT, q_ltF, q_neg, q_nn, q_z, q_le0, q_b0, q_b1, nI_add, nI_0, q_off, q_self, q_oth, cst_2, st_2, ↓reduceIte, f_X8_cellAt, f_X8_roadAt, q_le1, q_nle1, q_le2, q_nle2, q_le5, q_nle5, q_le6, q_nle6, q_le8, q_nle8, q_le12, q_nle12, q_le25, q_nle25, q_le36, q_nle36, q_le60, q_nle60, q_le99, q_nle99, q_le100, q_nle100, q_le300, q_nle300, q_le640, q_nle640, q_le411, q_nle411, q_mul2, q_lmul2, q_mul3, q_lmul3, q_mul5, q_lmul5, q_mul6, q_lmul6, q_mul10, q_lmul10, q_add1, q_ladd1, q_add2, q_ladd2, q_add3, q_ladd3, q_add5, q_ladd5, q_add6, q_ladd6, q_add100, q_ladd100, q_div2, q_rem2, q_div3, q_rem3, q_div6, q_rem6, q_div10, q_rem10, r6, ai, b01_f, this]
    · rw [oi] at ai
      have al := t_along_row p2 p3 p4 (show i < 6 by omega) oi
      have c60 : nI (i * 6) + 0 = nI (6 * i) := by rw [Int32.add_zero, Nat.mul_comm]
      obtain ⟨a, b, e1, tw⟩ := x2_regretOf (a0 := a1) (a3 := o + 2) (fr0 := 6 * i) (sd := 1) (n := T) (g := fun k => cost (6 * i + k * 1)) (op := fun k => O (6 + k)) (μ := s) p3 (by omega) (by omega) al.2.2.2.2 (fun k hk => (r5 k (by omega)).2)
        (fun k hk ho => by have c0 := al.1 k hk ho; have := r8 _ c0.1 c0.2.1; exact ⟨this.1, this.2.2⟩)
      have rg := t_two_rg al (fun c hc ho => (hco c hc ho).2) ⟨j0, hj0, j2⟩ tw
      change f_X2_regretOf a1 36 (nI (6 * i)) 1 (o + 2) 6 (nI T) s = _ at e1
      have qi : fr (OA o) μ (st s o 4 (nI i)) := fr_st' q1 (by unfold OA; omega)
      obtain ⟨-, -, -, -, u5, u6, u7, u8⟩ := PX_fr hp0 qi
      obtain ⟨f, e2, am⟩ := x2_cheapestOf (a0 := a1) (a3 := o + 2) (fr0 := 6 * i) (sd := 1) (n := T) (g := fun k => cost (6 * i + k * 1)) (op := fun k => O (6 + k)) (μ := st s o 4 (nI i)) p3 (by omega) (by omega) al.2.2.2.2 (fun k hk => (u5 k (by omega)).2)
        (fun k hk ho => by have c0 := al.1 k hk ho; have := u8 _ c0.1 c0.2.1; exact ⟨this.1, this.2.2⟩) ⟨j0, hj0, j2⟩
      change f_X2_cheapestOf a1 36 (nI (6 * i)) 1 (o + 2) 6 (nI T) (st s o 4 (nI i)) = _ at e2
      have hf := am.1
      have ch := t_am_ch al am
      generalize (if b = 1000000 then a else b - a) = z at *
      have fs' : fr (OA o) μ (st (st s o 4 (nI i)) o 5 (nI f)) := fr_st' qi (by unfold OA; omega)
      obtain ⟨m1, m2⟩ := more i x s z q1 q2 oi rg (st (st s o 4 (nI i)) o 5 (nI f)) fs' ⟨_, ch, by rw [q_oth _ _ _ (by omega), q_self]; congr 1; omega, by rw [q_self]; congr 1; omega⟩
      by_cases hle : z ≤ x
      · refine ⟨(x, s), ⟨q1, Or.inr (m1 hle)⟩, ?_⟩
        show g_X2_pickRegret_4 o a1 36 _ x (nI i) s = _
        unfold g_X2_pickRegret_4 f_X2_pickRegret_43
        simp (disch := omega) only [lt_k, bnv_s, bnd_s, grd_t, q_in, q_inb, q_c, q_leT, q_leF, q_ltT, q_ltF, q_neg, q_nn, q_z, q_le0, q_b0, q_b1, nI_add, nI_0, q_off, q_self, q_oth, cst_2, st_2, ↓reduceIte, f_X8_cellAt, f_X8_roadAt, q_le1, q_nle1, q_le2, q_nle2, q_le5, q_nle5, q_le6, q_nle6, q_le8, q_nle8, q_le12, q_nle12, q_le25, q_nle25, q_le36, q_nle36, q_le60, q_nle60, q_le99, q_nle99, q_le100, q_nle100, q_le300, q_nle300, q_le640, q_nle640, q_le411, q_nle411, q_mul2, q_lmul2, q_mul3, q_lmul3, q_mul5, q_lmul5, q_mul6, q_lmul6, q_mul10, q_lmul10, q_add1, q_ladd1, q_add2, q_ladd2, q_add3, q_ladd3, q_add5, q_ladd5, q_add6, q_ladd6, q_add100, q_ladd100, q_div2, q_rem2, q_div3, q_rem3, q_div6, q_rem6, q_div10, q_rem10, r7, r6, ai, b01_t, q_10, c60, e1, hle]
      · refine ⟨(z, st (st s o 4 (nI i)) o 5 (nI f)), ⟨fs', Or.inr (m2 hle)⟩, ?_⟩
        show g_X2_pickRegret_4 o a1 36 _ x (nI i) s = _
        unfold g_X2_pickRegret_4 f_X2_pickRegret_43
        simp (disch := omega) only [lt_k, bnv_s, bnd_s, grd_t, q_in, q_inb, q_c, q_leT, q_leF, q_ltT, q_ltF, q_neg, q_nn, q_z, q_le0, q_b0, q_b1, nI_add, nI_0, q_off, q_self, q_oth, cst_2, st_2, ↓reduceIte, f_X8_cellAt, f_X8_roadAt, q_le1, q_nle1, q_le2, q_nle2, q_le5, q_nle5, q_le6, q_nle6, q_le8, q_nle8, q_le12, q_nle12, q_le25, q_nle25, q_le36, q_nle36, q_le60, q_nle60, q_le99, q_nle99, q_le100, q_nle100, q_le300, q_nle300, q_le640, q_nle640, q_le411, q_nle411, q_mul2, q_lmul2, q_mul3, q_lmul3, q_mul5, q_lmul5, q_mul6, q_lmul6, q_mul10, q_lmul10, q_add1, q_ladd1, q_add2, q_ladd2, q_add3, q_ladd3, q_add5, q_ladd5, q_add6, q_ladd6, q_add100, q_ladd100, q_div2, q_rem2, q_div3, q_rem3, q_div6, q_rem6, q_div10, q_rem10, r7, r6, ai, b01_t, q_10, c60, e1, hle]
        rw [e2]
        simp (disch := omega) only [lt_k, bnv_s, bnd_s, grd_t, q_in, q_inb, q_c, q_leT, q_leF, q_ltT, q_ltF, q_neg, q_nn, q_z, q_le0, q_b0, q_b1, nI_add, nI_0, q_off, q_self, q_oth, cst_2, st_2, ↓reduceIte, f_X8_cellAt, f_X8_roadAt, q_le1, q_nle1, q_le2, q_nle2, q_le5, q_nle5, q_le6, q_nle6, q_le8, q_nle8, q_le12, q_nle12, q_le25, q_nle25, q_le36, q_nle36, q_le60, q_nle60, q_le99, q_nle99, q_le100, q_nle100, q_le300, q_nle300, q_le640, q_nle640, q_le411, q_nle411, q_mul2, q_lmul2, q_mul3, q_lmul3, q_mul5, q_lmul5, q_mul6, q_lmul6, q_mul10, q_lmul10, q_add1, q_ladd1, q_add2, q_ladd2, q_add3, q_ladd3, q_add5, q_ladd5, q_add6, q_ladd6, q_add100, q_ladd100, q_div2, q_rem2, q_div3, q_rem3, q_div6, q_rem6, q_div10, q_rem10, lt_k]
  · rintro n ⟨x, s⟩ ⟨q1, q2⟩
    change fr (OA o) μ s at q1
    obtain ⟨-, -, -, -, r5, r6, r7, r8⟩ := PX_fr hp0 q1
    have q3 := skips (6 - S) S x s (fun l' a b => by
      cases r : O l'
      · rfl
      · rcases p4 _ r with u | u <;> omega) q2
    rw [show S + (6 - S) = 6 by omega] at q3
    have := cols x s q1 q3
    show ∃ c μ', g_X2_pickRegret_4 o a1 36 _ x (nI S) s = some μ' ∧ _
    unfold g_X2_pickRegret_4
    simp (disch := omega) only [lt_k, bnv_s, bnd_s, grd_t, q_in, q_inb, q_c, q_leT, q_leF, q_ltT, q_ltF, q_neg, q_nn, q_z, q_le0, q_b0, q_b1, nI_add, nI_0, q_off, q_self, q_oth, cst_2, st_2, ↓reduceIte, f_X8_cellAt, f_X8_roadAt, q_le1, q_nle1, q_le2, q_nle2, q_le5, q_nle5, q_le6, q_nle6, q_le8, q_nle8, q_le12, q_nle12, q_le25, q_nle25, q_le36, q_nle36, q_le60, q_nle60, q_le99, q_nle99, q_le100, q_nle100, q_le300, q_nle300, q_le640, q_nle640, q_le411, q_nle411, q_mul2, q_lmul2, q_mul3, q_lmul3, q_mul5, q_lmul5, q_mul6, q_lmul6, q_mul10, q_lmul10, q_add1, q_ladd1, q_add2, q_ladd2, q_add3, q_ladd3, q_add5, q_ladd5, q_add6, q_ladd6, q_add100, q_ladd100, q_div2, q_rem2, q_div3, q_rem3, q_div6, q_rem6, q_div10, q_rem10, r6]
    exact this
theorem x2_pickBy {o a1 S T : Nat} {cost : Nat → Int32} {O : Nat → Bool} {μ : Mem} (rule : Int32) (hp : PX o a1 S T cost O μ) (h1 : 0 < t_ctr O 6) (h2 : 0 < t_sinks O) :
    ∃ c μ', f_X2_pickBy o rule a1 36 μ = some μ' ∧ t_pk rule cost O c ∧ fr (OA o) μ μ' ∧ μ'.1 o 4 = nI (c / 6) ∧ μ'.1 o 5 = nI (c % 6) := by
  unfold f_X2_pickBy t_pk
  by_cases r0 : rule = 0
  · obtain ⟨c, μ', e, h⟩ := x2_corner hp h1 h2
    refine ⟨c, μ', ?_, by rw [if_pos r0]; exact h.1, h.2⟩
    rw [if_pos r0, e, bnv_s]
  · by_cases r1 : rule = 1
    · obtain ⟨c, μ', e, h⟩ := x2_least hp h1 h2
      refine ⟨c, μ', ?_, by rw [if_neg r0, if_pos r1]; exact h.1, h.2⟩
      rw [if_neg r0, if_pos r1, e, bnv_s]
    · obtain ⟨c, μ', e, h⟩ := x2_regret hp h1 h2
      refine ⟨c, μ', ?_, by rw [if_neg r0, if_neg r1]; exact h.1, h.2⟩
      rw [if_neg r0, if_neg r1, e, bnv_s]
