/-! THE PURE PART: which cell enters -/
def t_sp (cost w : Nat → Int32) (c : Nat) : Int32 := cost c - w (c / 6) - w (6 + c % 6)
theorem t_P_congr {L cell : Nat} {v v' : Nat → Nat} (h : ∀ k, k < L → v k = v' k) {k : Nat} (hk : k < L) : t_P cell v k = t_P cell v' k := by
  unfold t_P
  by_cases q : k = 0
  · rw [if_pos q, if_pos q]
  · rw [if_neg q, if_neg q, h k hk, h (k - 1) (by omega)]
theorem t_tnf_congr {g g' : Nat → Int32} : ∀ M, (∀ m, m < M → g m = g' m) → t_tnf g M = t_tnf g' M
  | 0, _ => rfl
  | M + 1, h => by
    show mn _ _ = mn _ _
    rw [t_tnf_congr M (fun m hm => h m (by omega)), h M (by omega)]
theorem t_tn_congr {ld ld' : Nat → Int32} {P P' : Nat → Nat} {L : Nat} (hL : L % 2 = 0) (hP : ∀ k, k < L → P k < 36) (h : ∀ k, k < L → P k = P' k) (hl : ∀ c, c < 36 → ld c = ld' c) : t_tn ld P L = t_tn ld' P' L := by
  refine t_tnf_congr _ (fun m hm => ?_)
  rw [← h _ (by omega), hl _ (hP _ (by omega))]
/-- the turn of a cell's loop -/
noncomputable def t_tc (S T : Nat) (B : Nat → Bool) (ld : Nat → Int32) (c : Nat) : Int32 :=
  Classical.epsilon (fun t => ∃ L v, t_way S T B c L v ∧ t = t_tn ld (t_P c v) L)
theorem t_tc_eq {S T : Nat} {B : Nat → Bool} (h : t_tree S T B) (ld : Nat → Int32) {c L : Nat} {v : Nat → Nat} (hc : c < 36) (hb : B c = false) (hw : t_way S T B c L v) : t_tc S T B ld c = t_tn ld (t_P c v) L := by
  have ex : ∃ t, ∃ L v, t_way S T B c L v ∧ t = t_tn ld (t_P c v) L := ⟨_, L, v, hw, rfl⟩
  have := Classical.epsilon_spec ex
  obtain ⟨L', v', hw', e⟩ := this
  show Classical.epsilon _ = _
  rw [e]
  obtain ⟨e1, e2⟩ := t_way_uniq h hb hw' hw
  subst e1
  exact t_tn_congr hw.2.2.1 (fun k hk => t_P_lt h hw' hc hk) (fun k hk => t_P_congr e2 hk) (fun _ _ => rfl)
noncomputable def t_wt (S T : Nat) (B : Nat → Bool) (cost w ld : Nat → Int32) (m : Int32) (c : Nat) : Int32 := if m = 1 then 0 else if m = 2 then t_sp cost w c * t_tc S T B ld c else t_sp cost w c
def t_pl (S T c : Nat) : Prop := c / 6 < S ∧ c % 6 < T
/-- of the first n cells this one enters -/
def t_best (S T : Nat) (sp wt : Nat → Int32) (n c : Nat) : Prop := c < n ∧ t_pl S T c ∧ sp c < 0 ∧ ∀ d, d < n → t_pl S T d → sp d < 0 → (wt c).toInt ≤ (wt d).toInt ∧ (wt d = wt c → c ≤ d)
def t_none (S T : Nat) (sp : Nat → Int32) (n : Nat) : Prop := ∀ c, c < n → t_pl S T c → ¬ sp c < 0
def t_ent (S T : Nat) (sp wt : Nat → Int32) (r : Int32) : Prop := (r = -1 ∧ t_none S T sp 36) ∨ ∃ c, r = nI c ∧ t_best S T sp wt 36 c
theorem t_ent_uniq {S T : Nat} {sp sp' wt wt' : Nat → Int32} {r r' : Int32} (hs : ∀ c, c < 36 → t_pl S T c → sp c = sp' c) (hw : ∀ c, c < 36 → t_pl S T c → sp c < 0 → wt c = wt' c) (h : t_ent S T sp wt r) (h' : t_ent S T sp' wt' r') : r = r' := by
  rcases h with ⟨a, b⟩ | ⟨c, a, b⟩ <;> rcases h' with ⟨a', b'⟩ | ⟨c', a', b'⟩
  · rw [a, a']
  · exact absurd (by rw [hs c' b'.1 b'.2.1]; exact b'.2.2.1) (b c' b'.1 b'.2.1)
  · exact absurd (by rw [← hs c b.1 b.2.1]; exact b.2.2.1) (b' c b.1 b.2.1)
  · obtain ⟨b1, b2, b3, b4⟩ := b
    obtain ⟨c1, c2, c3, c4⟩ := b'
    have d3 : sp c' < 0 := by rw [hs c' c1 c2]; exact c3
    have d4 : sp' c < 0 := by rw [← hs c b1 b2]; exact b3
    obtain ⟨e1, e2⟩ := b4 c' c1 c2 d3
    obtain ⟨f1, f2⟩ := c4 c b1 b2 d4
    rw [hw c' c1 c2 d3, hw c b1 b2 b3] at e1 e2
    have : wt' c = wt' c' := by rw [i_eq]; omega
    have := e2 this.symm
    have := f2 (by assumption)
    rw [a, a']
    congr 1; omega
theorem t_none_skip {S T n : Nat} {sp : Nat → Int32} (h : t_none S T sp n) (h2 : t_pl S T n → ¬ sp n < 0) : t_none S T sp (n + 1) := by
  intro c hc hp
  by_cases q : c = n
  · rw [q] at hp ⊢; exact h2 hp
  · exact h c (by omega) hp
theorem t_best_skip {S T n c : Nat} {sp wt : Nat → Int32} (h : t_best S T sp wt n c) (h2 : t_pl S T n → sp n < 0 → (wt c).toInt ≤ (wt n).toInt) : t_best S T sp wt (n + 1) c := by
  obtain ⟨a, b, e, f⟩ := h
  refine ⟨by omega, b, e, fun d hd hp hs => ?_⟩
  by_cases q : d = n
  · rw [q] at hp hs ⊢; exact ⟨h2 hp hs, fun _ => by omega⟩
  · exact f d (by omega) hp hs
theorem t_best_new {S T n : Nat} {sp wt : Nat → Int32} (hp : t_pl S T n) (hs : sp n < 0) (h : t_none S T sp n ∨ ∃ c, t_best S T sp wt n c ∧ (wt n).toInt < (wt c).toInt) : t_best S T sp wt (n + 1) n := by
  refine ⟨by omega, hp, hs, fun d hd hpd hsd => ?_⟩
  by_cases q : d = n
  · rw [q]; exact ⟨Int.le_refl _, fun _ => Nat.le_refl _⟩
  · rcases h with h | ⟨c, hc, hlt⟩
    · exact absurd hsd (h d (by omega) hpd)
    · have := (hc.2.2.2 d (by omega) hpd hsd).1
      refine ⟨by omega, fun e => ?_⟩
      rw [e] at this; omega
theorem t_basic_0 {S T : Nat} {B : Nat → Bool} {cost w : Nat → Int32} (hW : t_W S T B cost w) {c : Nat} (hc : c < 36) (hb : B c = true) : t_sp cost w c = 0 := by
  have := hW.2.1 c hc hb
  unfold t_sp
  rw [← this, Int32.add_comm, Int32.add_sub_cancel, Int32.sub_self]
theorem t_neg_free {S T : Nat} {B : Nat → Bool} {cost w : Nat → Int32} (hW : t_W S T B cost w) {c : Nat} (hc : c < 36) (hs : t_sp cost w c < 0) : B c = false := by
  cases hb : B c
  · rfl
  · rw [t_basic_0 hW hc hb] at hs; exact absurd hs (by decide)
theorem xs_sp {k c : Nat} (μ : Mem) (hc : c < 36) : xs k μ c = t_sp (μ.1 (k + 1)) (xw k μ) c := by
  unfold xs t_sp xw
  rw [if_pos (show c / 6 < 6 by omega), if_neg (show ¬ 6 + c % 6 < 6 by omega), show 6 + c % 6 - 6 = c % 6 by omega]
/-- what the class's search rests on -/
theorem x3_enter {k S T : Nat} {μ : Mem} (m : Int32) (h1 : μ.1 k 1 = nI S) (h2 : μ.1 k 2 = nI T) (ht : t_tree S T (bb (μ.1 (k + 3)))) (hW : t_W S T (bb (μ.1 (k + 3))) (μ.1 (k + 1)) (xw k μ)) (hld : ∀ c, c < 36 → (μ.1 (k + 2) c).toInt ≤ 1000000) :
    ∃ r μ', f_X3_findEntering k m μ = some (r, μ') ∧ fr (FA (k + 16)) μ μ' ∧ t_ent S T (t_sp (μ.1 (k + 1)) (xw k μ)) (t_wt S T (bb (μ.1 (k + 3))) (μ.1 (k + 1)) (xw k μ) (μ.1 (k + 2)) m) r := by
  have hS := ht.2.1
  have hT := ht.2.2.2.1
  generalize esp : t_sp (μ.1 (k + 1)) (xw k μ) = sp
  generalize ewt : t_wt S T (bb (μ.1 (k + 3))) (μ.1 (k + 1)) (xw k μ) (μ.1 (k + 2)) m = wt
  refine q_dbl (fun n => f_X3_findEntering_7 k m n) (fun q i (s : Int32 × Int32 × Mem) => q s.1 s.2.1 (nI i) s.2.2) (fun q n i j s => f_X3_findEntering_19 k m q n s.1 s.2.1 (nI i) (nI j) s.2.2) hS hT
    (fun c s => fr (FA (k + 16)) μ s.2.2 ∧ ((s.1 = -1 ∧ t_none S T sp c) ∨ ∃ c0, s.1 = nI c0 ∧ s.2.1 = wt c0 ∧ t_best S T sp wt c c0))
    (fun z => ∃ r μ', z = some (r, μ') ∧ fr (FA (k + 16)) μ μ' ∧ t_ent S T sp wt r) ?_ ?_ ?_ ?_ ?_ (-1, 0, μ) ⟨fr_refl _ _, Or.inl ⟨rfl, fun c h => by omega⟩⟩
  · rintro n i ⟨x, y, s⟩ hi ⟨p1, p2⟩
    change fr _ μ s at p1
    have f1 : s.1 k 1 = nI S := by rw [p1.2 k 1 (by unfold FA; omega)]; exact h1
    show g_X3_findEntering_7 k m _ x y (nI i) s = _
    unfold g_X3_findEntering_7
    simp (disch := omega) only [lt_k, bnv_s, bnd_s, grd_t, q_in, q_inb, q_c, q_leT, q_leF, q_ltT, q_ltF, q_neg, q_nn, q_z, q_le0, q_b0, q_b1, nI_add, nI_0, q_off, q_self, q_oth, cst_2, st_2, ↓reduceIte, f_X8_cellAt, f_X8_roadAt, q_le1, q_nle1, q_le2, q_nle2, q_le5, q_nle5, q_le6, q_nle6, q_le8, q_nle8, q_le12, q_nle12, q_le25, q_nle25, q_le36, q_nle36, q_le60, q_nle60, q_le99, q_nle99, q_le100, q_nle100, q_le300, q_nle300, q_le640, q_nle640, q_le411, q_nle411, q_mul2, q_lmul2, q_mul3, q_lmul3, q_mul5, q_lmul5, q_mul6, q_lmul6, q_mul10, q_lmul10, q_add1, q_ladd1, q_add2, q_ladd2, q_add3, q_ladd3, q_add5, q_ladd5, q_add6, q_ladd6, q_add100, q_ladd100, q_div2, q_rem2, q_div3, q_rem3, q_div6, q_rem6, q_div10, q_rem10, f1]
  · rintro q n i j ⟨x, y, s⟩ hi hj ⟨p1, p2⟩
    right
    change fr _ μ s at p1
    have hc : 6 * i + j < 36 := by omega
    have hpl : t_pl S T (6 * i + j) := by unfold t_pl; omega
    have f2 : s.1 k 2 = nI T := by rw [p1.2 k 2 (by unfold FA; omega)]; exact h2
    have fc : s.1 (k + 1) = μ.1 (k + 1) := fr_c p1 (fun j h => by unfold FA at h; omega)
    have fl : s.1 (k + 2) = μ.1 (k + 2) := fr_c p1 (fun j h => by unfold FA at h; omega)
    have fb : s.1 (k + 3) = μ.1 (k + 3) := fr_c p1 (fun j h => by unfold FA at h; omega)
    have fw1 : s.1 (k + 4) = μ.1 (k + 4) := fr_c p1 (fun j h => by unfold FA at h; omega)
    have fw2 : s.1 (k + 5) = μ.1 (k + 5) := fr_c p1 (fun j h => by unfold FA at h; omega)
    have esur : f_X3_surplusAt k (nI i) (nI j) s = some (sp (6 * i + j)) := by
      rw [x3_surplus s (by omega) (by omega), xs_at s (by omega), ← esp, ← xs_sp μ hc]
      unfold xs
      rw [fc, fw1, fw2]
    by_cases hs : sp (6 * i + j) < 0
    · -- the weight, the memory behind
      have hf : bb (μ.1 (k + 3)) (6 * i + j) = false := t_neg_free hW hc (by rw [esp]; exact hs)
      have e100 : ∀ s', fr (FA (k + 16)) μ s' → ∃ s'' : Int32 × Int32 × Mem, (fr (FA (k + 16)) μ s''.2.2 ∧ ((s''.1 = -1 ∧ t_none S T sp (6 * i + j + 1)) ∨ ∃ c0, s''.1 = nI c0 ∧ s''.2.1 = wt c0 ∧ t_best S T sp wt (6 * i + j + 1) c0)) ∧
          f_X3_findEntering_100 k m q (f_X3_findEntering_19 k m q n) x y (nI i) (nI j) (wt (6 * i + j)) s' = f_X3_findEntering_19 k m q n s''.1 s''.2.1 (nI i) (nI (j + 1)) s''.2.2 := by
        intro s' hs'
        unfold f_X3_findEntering_100 f_X3_findEntering_111
        rcases p2 with ⟨a, b⟩ | ⟨c0, a, b, c⟩
        · change x = -1 at a
          refine ⟨(nI (6 * i + j), wt (6 * i + j), s'), ⟨hs', Or.inr ⟨_, rfl, rfl, t_best_new hpl hs (Or.inl b)⟩⟩, ?_⟩
          simp (disch := omega) only [lt_k, bnv_s, bnd_s, grd_t, q_in, q_inb, q_c, q_leT, q_leF, q_ltT, q_ltF, q_neg, q_nn, q_z, q_le0, q_b0, q_b1, nI_add, nI_0, q_off, q_self, q_oth, cst_2, st_2, ↓reduceIte, f_X8_cellAt, f_X8_roadAt, q_le1, q_nle1, q_le2, q_nle2, q_le5, q_nle5, q_le6, q_nle6, q_le8, q_nle8, q_le12, q_nle12, q_le25, q_nle25, q_le36, q_nle36, q_le60, q_nle60, q_le99, q_nle99, q_le100, q_nle100, q_le300, q_nle300, q_le640, q_nle640, q_le411, q_nle411, q_mul2, q_lmul2, q_mul3, q_lmul3, q_mul5, q_lmul5, q_mul6, q_lmul6, q_mul10, q_lmul10, q_add1, q_ladd1, q_add2, q_ladd2, q_add3, q_ladd3, q_add5, q_ladd5, q_add6, q_ladd6, q_add100, q_ladd100, q_div2, q_rem2, q_div3, q_rem3, q_div6, q_rem6, q_div10, q_rem10, a, Nat.mul_comm i 6]
        · change x = nI c0 at a
          change y = wt c0 at b
          have hne : (nI c0 = -1) = False := eq_false (fun e => by
            have := congrArg Int32.toInt e
            rw [nI_i (by have := c.1; omega)] at this
            have h2 : (-1 : Int32).toInt = -1 := rfl
            omega)
          by_cases hle : wt c0 ≤ wt (6 * i + j)
          · refine ⟨(x, y, s'), ⟨hs', Or.inr ⟨c0, a, b, t_best_skip c (fun _ _ => i_le.mp hle)⟩⟩, ?_⟩
            simp (disch := omega) only [lt_k, bnv_s, bnd_s, grd_t, q_in, q_inb, q_c, q_leT, q_leF, q_ltT, q_ltF, q_neg, q_nn, q_z, q_le0, q_b0, q_b1, nI_add, nI_0, q_off, q_self, q_oth, cst_2, st_2, ↓reduceIte, f_X8_cellAt, f_X8_roadAt, q_le1, q_nle1, q_le2, q_nle2, q_le5, q_nle5, q_le6, q_nle6, q_le8, q_nle8, q_le12, q_nle12, q_le25, q_nle25, q_le36, q_nle36, q_le60, q_nle60, q_le99, q_nle99, q_le100, q_nle100, q_le300, q_nle300, q_le640, q_nle640, q_le411, q_nle411, q_mul2, q_lmul2, q_mul3, q_lmul3, q_mul5, q_lmul5, q_mul6, q_lmul6, q_mul10, q_lmul10, q_add1, q_ladd1, q_add2, q_ladd2, q_add3, q_ladd3, q_add5, q_ladd5, q_add6, q_ladd6, q_add100, q_ladd100, q_div2, q_rem2, q_div3, q_rem3, q_div6, q_rem6, q_div10, q_rem10, a, b, hne, hle]
          · refine ⟨(nI (6 * i + j), wt (6 * i + j), s'), ⟨hs', Or.inr ⟨_, rfl, rfl, t_best_new hpl hs (Or.inr ⟨c0, c, by rw [i_le] at hle; omega⟩)⟩⟩, ?_⟩
            simp (disch := omega) only [lt_k, bnv_s, bnd_s, grd_t, q_in, q_inb, q_c, q_leT, q_leF, q_ltT, q_ltF, q_neg, q_nn, q_z, q_le0, q_b0, q_b1, nI_add, nI_0, q_off, q_self, q_oth, cst_2, st_2, ↓reduceIte, f_X8_cellAt, f_X8_roadAt, q_le1, q_nle1, q_le2, q_nle2, q_le5, q_nle5, q_le6, q_nle6, q_le8, q_nle8, q_le12, q_nle12, q_le25, q_nle25, q_le36, q_nle36, q_le60, q_nle60, q_le99, q_nle99, q_le100, q_nle100, q_le300, q_nle300, q_le640, q_nle640, q_le411, q_nle411, q_mul2, q_lmul2, q_mul3, q_lmul3, q_mul5, q_lmul5, q_mul6, q_lmul6, q_mul10, q_lmul10, q_add1, q_ladd1, q_add2, q_ladd2, q_add3, q_ladd3, q_add5, q_ladd5, q_add6, q_ladd6, q_add100, q_ladd100, q_div2, q_rem2, q_div3, q_rem3, q_div6, q_rem6, q_div10, q_rem10, a, b, hne, hle, Nat.mul_comm i 6]
      by_cases m1 : m = 1
      · obtain ⟨s'', a, b⟩ := e100 s p1
        refine ⟨s'', a, ?_⟩
        have ew : wt (6 * i + j) = 0 := by rw [← ewt]; unfold t_wt; rw [if_pos m1]
        rw [ew] at b
        show g_X3_findEntering_19 k m q _ x y (nI i) (nI j) s = _
        unfold g_X3_findEntering_19 f_X3_findEntering_59
        have m2 : ¬ m = 2 := by rw [m1]; decide
        simp (disch := omega) only [lt_k, bnv_s, bnd_s, grd_t, q_in, q_inb, q_c, q_leT, q_leF, q_ltT, q_ltF, q_neg, q_nn, q_z, q_le0, q_b0, q_b1, nI_add, nI_0, q_off, q_self, q_oth, cst_2, st_2, ↓reduceIte, f_X8_cellAt, f_X8_roadAt, q_le1, q_nle1, q_le2, q_nle2, q_le5, q_nle5, q_le6, q_nle6, q_le8, q_nle8, q_le12, q_nle12, q_le25, q_nle25, q_le36, q_nle36, q_le60, q_nle60, q_le99, q_nle99, q_le100, q_nle100, q_le300, q_nle300, q_le640, q_nle640, q_le411, q_nle411, q_mul2, q_lmul2, q_mul3, q_lmul3, q_mul5, q_lmul5, q_mul6, q_lmul6, q_mul10, q_lmul10, q_add1, q_ladd1, q_add2, q_ladd2, q_add3, q_ladd3, q_add5, q_ladd5, q_add6, q_ladd6, q_add100, q_ladd100, q_div2, q_rem2, q_div3, q_rem3, q_div6, q_rem6, q_div10, q_rem10, f2, esur, hs, m1, m2, show ¬ ((1 : Int32) = 2) by decide]
        rw [m1] at b
        exact b
      · by_cases m2 : m = 2
        · obtain ⟨s1, L, v, g1, g2, g3, g4⟩ := x1_follow (k := k + 16) (a2 := k + 3) (S := S) (T := T) (cell := 6 * i + j) (μ := s) (by omega) (by rw [fb]; exact ht) hc hpl.1 hpl.2
          have p1' : fr (FA (k + 16)) μ s1 := fr_then p1 g2
          obtain ⟨s'', a, b⟩ := e100 s1 p1'
          refine ⟨s'', a, ?_⟩
          have g3' := g3
          rw [fb] at g3'
          have fl1 : s1.1 (k + 2) = μ.1 (k + 2) := fr_c p1' (fun j h => by unfold FA at h; omega)
          have etn := x1_turnOf (a1 := k + 2) g4 g3.2.1 g3.1 g3.2.2.1 (fun j hj => t_P_lt (by rw [fb]; exact ht) g3 hc hj) (by rw [fl1]; exact hld)
          rw [fl1, ← t_tc_eq ht _ hc hf g3'] at etn
          have ew : wt (6 * i + j) = sp (6 * i + j) * t_tc S T (bb (μ.1 (k + 3))) (μ.1 (k + 2)) (6 * i + j) := by rw [← ewt, ← esp]; unfold t_wt; rw [if_neg m1, if_pos m2]
          rw [ew] at b
          show g_X3_findEntering_19 k m q _ x y (nI i) (nI j) s = _
          unfold g_X3_findEntering_19 f_X3_findEntering_59
          simp (disch := omega) only [lt_k, bnv_s, bnd_s, grd_t, q_in, q_inb, q_c, q_leT, q_leF, q_ltT, q_ltF, q_neg, q_nn, q_z, q_le0, q_b0, q_b1, nI_add, nI_0, q_off, q_self, q_oth, cst_2, st_2, ↓reduceIte, f_X8_cellAt, f_X8_roadAt, q_le1, q_nle1, q_le2, q_nle2, q_le5, q_nle5, q_le6, q_nle6, q_le8, q_nle8, q_le12, q_nle12, q_le25, q_nle25, q_le36, q_nle36, q_le60, q_nle60, q_le99, q_nle99, q_le100, q_nle100, q_le300, q_nle300, q_le640, q_nle640, q_le411, q_nle411, q_mul2, q_lmul2, q_mul3, q_lmul3, q_mul5, q_lmul5, q_mul6, q_lmul6, q_mul10, q_lmul10, q_add1, q_ladd1, q_add2, q_ladd2, q_add3, q_ladd3, q_add5, q_ladd5, q_add6, q_ladd6, q_add100, q_ladd100, q_div2, q_rem2, q_div3, q_rem3, q_div6, q_rem6, q_div10, q_rem10, f2, esur, hs, m1, m2, Nat.mul_comm i 6, g1, etn, show ¬ ((2 : Int32) = 1) by decide]
          rw [m2] at b
          exact b
        · obtain ⟨s'', a, b⟩ := e100 s p1
          refine ⟨s'', a, ?_⟩
          have ew : wt (6 * i + j) = sp (6 * i + j) := by rw [← ewt, ← esp]; unfold t_wt; rw [if_neg m1, if_neg m2]
          rw [ew] at b
          show g_X3_findEntering_19 k m q _ x y (nI i) (nI j) s = _
          unfold g_X3_findEntering_19 f_X3_findEntering_59
          simp (disch := omega) only [lt_k, bnv_s, bnd_s, grd_t, q_in, q_inb, q_c, q_leT, q_leF, q_ltT, q_ltF, q_neg, q_nn, q_z, q_le0, q_b0, q_b1, nI_add, nI_0, q_off, q_self, q_oth, cst_2, st_2, ↓reduceIte, f_X8_cellAt, f_X8_roadAt, q_le1, q_nle1, q_le2, q_nle2, q_le5, q_nle5, q_le6, q_nle6, q_le8, q_nle8, q_le12, q_nle12, q_le25, q_nle25, q_le36, q_nle36, q_le60, q_nle60, q_le99, q_nle99, q_le100, q_nle100, q_le300, q_nle300, q_le640, q_nle640, q_le411, q_nle411, q_mul2, q_lmul2, q_mul3, q_lmul3, q_mul5, q_lmul5, q_mul6, q_lmul6, q_mul10, q_lmul10, q_add1, q_ladd1, q_add2, q_ladd2, q_add3, q_ladd3, q_add5, q_ladd5, q_add6, q_ladd6, q_add100, q_ladd100, q_div2, q_rem2, q_div3, q_rem3, q_div6, q_rem6, q_div10, q_rem10, f2, esur, hs, m1, m2]
          exact b
    · refine ⟨(x, y, s), ⟨p1, ?_⟩, ?_⟩
      · rcases p2 with ⟨a, b⟩ | ⟨c0, a, b, c⟩
        · exact Or.inl ⟨a, t_none_skip b (fun _ => hs)⟩
        · exact Or.inr ⟨c0, a, b, t_best_skip c (fun _ h => absurd h hs)⟩
      · show g_X3_findEntering_19 k m q _ x y (nI i) (nI j) s = _
        unfold g_X3_findEntering_19
        simp (disch := omega) only [lt_k, bnv_s, bnd_s, grd_t, q_in, q_inb, q_c, q_leT, q_leF, q_ltT, q_ltF, q_neg, q_nn, q_z, q_le0, q_b0, q_b1, nI_add, nI_0, q_off, q_self, q_oth, cst_2, st_2, ↓reduceIte, f_X8_cellAt, f_X8_roadAt, q_le1, q_nle1, q_le2, q_nle2, q_le5, q_nle5, q_le6, q_nle6, q_le8, q_nle8, q_le12, q_nle12, q_le25, q_nle25, q_le36, q_nle36, q_le60, q_nle60, q_le99, q_nle99, q_le100, q_nle100, q_le300, q_nle300, q_le640, q_nle640, q_le411, q_nle411, q_mul2, q_lmul2, q_mul3, q_lmul3, q_mul5, q_lmul5, q_mul6, q_lmul6, q_mul10, q_lmul10, q_add1, q_ladd1, q_add2, q_ladd2, q_add3, q_ladd3, q_add5, q_ladd5, q_add6, q_ladd6, q_add100, q_ladd100, q_div2, q_rem2, q_div3, q_rem3, q_div6, q_rem6, q_div10, q_rem10, f2, esur, hs]
  · rintro q n i ⟨x, y, s⟩ hi ⟨p1, p2⟩
    change fr _ μ s at p1
    have f2 : s.1 k 2 = nI T := by rw [p1.2 k 2 (by unfold FA; omega)]; exact h2
    show g_X3_findEntering_19 k m q _ x y (nI i) (nI T) s = _
    unfold g_X3_findEntering_19
    simp (disch := omega) only [lt_k, bnv_s, bnd_s, grd_t, q_in, q_inb, q_c, q_leT, q_leF, q_ltT, q_ltF, q_neg, q_nn, q_z, q_le0, q_b0, q_b1, nI_add, nI_0, q_off, q_self, q_oth, cst_2, st_2, ↓reduceIte, f_X8_cellAt, f_X8_roadAt, q_le1, q_nle1, q_le2, q_nle2, q_le5, q_nle5, q_le6, q_nle6, q_le8, q_nle8, q_le12, q_nle12, q_le25, q_nle25, q_le36, q_nle36, q_le60, q_nle60, q_le99, q_nle99, q_le100, q_nle100, q_le300, q_nle300, q_le640, q_nle640, q_le411, q_nle411, q_mul2, q_lmul2, q_mul3, q_lmul3, q_mul5, q_lmul5, q_mul6, q_lmul6, q_mul10, q_lmul10, q_add1, q_ladd1, q_add2, q_ladd2, q_add3, q_ladd3, q_add5, q_ladd5, q_add6, q_ladd6, q_add100, q_ladd100, q_div2, q_rem2, q_div3, q_rem3, q_div6, q_rem6, q_div10, q_rem10, f2]
  · rintro i j ⟨x, y, s⟩ hi hj hT2 ⟨p1, p2⟩
    have hpl : ¬ t_pl S T (6 * i + j) := by unfold t_pl; omega
    refine ⟨p1, ?_⟩
    rcases p2 with ⟨a, b⟩ | ⟨c0, a, b, c⟩
    · exact Or.inl ⟨a, t_none_skip b (fun h => absurd h hpl)⟩
    · exact Or.inr ⟨c0, a, b, t_best_skip c (fun h _ => absurd h hpl)⟩
  · rintro n ⟨x, y, s⟩ ⟨p1, p2⟩
    change fr _ μ s at p1
    have f1 : s.1 k 1 = nI S := by rw [p1.2 k 1 (by unfold FA; omega)]; exact h1
    refine ⟨x, s, ?_, p1, ?_⟩
    · show g_X3_findEntering_7 k m _ x y (nI S) s = _
      unfold g_X3_findEntering_7
      simp (disch := omega) only [lt_k, bnv_s, bnd_s, grd_t, q_in, q_inb, q_c, q_leT, q_leF, q_ltT, q_ltF, q_neg, q_nn, q_z, q_le0, q_b0, q_b1, nI_add, nI_0, q_off, q_self, q_oth, cst_2, st_2, ↓reduceIte, f_X8_cellAt, f_X8_roadAt, q_le1, q_nle1, q_le2, q_nle2, q_le5, q_nle5, q_le6, q_nle6, q_le8, q_nle8, q_le12, q_nle12, q_le25, q_nle25, q_le36, q_nle36, q_le60, q_nle60, q_le99, q_nle99, q_le100, q_nle100, q_le300, q_nle300, q_le640, q_nle640, q_le411, q_nle411, q_mul2, q_lmul2, q_mul3, q_lmul3, q_mul5, q_lmul5, q_mul6, q_lmul6, q_mul10, q_lmul10, q_add1, q_ladd1, q_add2, q_ladd2, q_add3, q_ladd3, q_add5, q_ladd5, q_add6, q_ladd6, q_add100, q_ladd100, q_div2, q_rem2, q_div3, q_rem3, q_div6, q_rem6, q_div10, q_rem10, f1]
    · have tail : ∀ d, d < 36 → t_pl S T d → d < 6 * S := fun d _ h => by unfold t_pl at h; omega
      rcases p2 with ⟨a, b⟩ | ⟨c0, a, b, c1, c2, c3, c4⟩
      · exact Or.inl ⟨a, fun c hc hp => b c (tail c hc hp) hp⟩
      · exact Or.inr ⟨c0, a, by omega, c2, c3, fun d hd hp => c4 d (tail d hd hp) hp⟩
