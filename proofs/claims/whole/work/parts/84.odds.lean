/-! THE CALLS: odds, fits */ -/
theorem x9_back {ν m : Mem} {k : Nat} (mi : MI ν m) (f : fr (fun c j => ZX c j ∨ ZA c j ∨ (c = 126 ∧ j = k)) ν m) : ∃ m3, f_X9_forgets m = some m3 ∧ fr ZA ν (st m3 126 k (ν.1 126 k)) := by
  have mi' : MI (st ν 126 k (m.1 126 k)) m := by
    obtain ⟨h0, h1, h2, h3, h4, h5, h6⟩ := mi
    refine ⟨by rw [q_off _ _ _ (by omega)]; exact h0, by rw [q_off _ _ _ (by omega)]; exact h1, by rw [q_off _ _ _ (by omega)]; exact h2, fun j hj => by rw [q_off _ _ _ (by omega)]; exact h3 j hj, fun j hj => by rw [q_off _ _ _ (by omega)]; exact h4 j hj, fun j hj => by rw [q_off _ _ _ (by omega)]; exact h5 j hj, fun j hj => by rw [q_off _ _ _ (by omega)]; exact h6 j hj⟩
  have f' : fr (fun c j => ZX c j ∨ ZA c j) (st ν 126 k (m.1 126 k)) m := by
    refine ⟨f.1, fun c j hn => ?_⟩
    by_cases q : c = 126 ∧ j = k
    · obtain ⟨rfl, rfl⟩ := q
      rw [q_self]
    · rw [f.2 c j (fun z => z.elim (fun z => hn (Or.inl z)) (fun z => z.elim (fun z => hn (Or.inr z)) q))]
      by_cases q2 : c = 126
      · subst q2
        rw [q_at, if_neg (fun z => q ⟨rfl, z⟩)]
      · rw [q_off _ _ _ (by omega)]
  obtain ⟨m3, e3, f3⟩ := x9_forgets mi' f'
  refine ⟨m3, e3, fr_back (a := 126) (k := k) ?_ (by rw [q_self])⟩
  exact fr_st' (fr_trans (fr_st (A := fun c j => ZA c j ∨ (c = 126 ∧ j = k)) (Or.inr ⟨rfl, rfl⟩)) f3 (fun c p h => h) (fun c p h => Or.inl h)) (Or.inr ⟨rfl, rfl⟩)
/-- whether the best plan on the ground with another base cost has something -/
def g_w (G : TG) (k : Nat) (P : TA → Prop) (y : Nat) (b : Bool) : Prop := b = true ↔ ∃ A, g_is (g_bs G k (nI y)) 1 1 A ∧ P A
theorem g_w_ex (G : TG) (k : Nat) (P : TA → Prop) (y : Nat) : ∃ b, g_w G k P y b := by
  by_cases q : ∃ A, g_is (g_bs G k (nI y)) 1 1 A ∧ P A
  · exact ⟨true, by unfold g_w; exact ⟨fun _ => q, fun _ => rfl⟩⟩
  · exact ⟨false, by unfold g_w; exact ⟨fun h => (by cases h), fun h => absurd h q⟩⟩
theorem g_w_at {G : TG} {k : Nat} {P : TA → Prop} {y : Nat} {b : Bool} (h : g_w G k P y b) {A : TA} (a : g_is (g_bs G k (nI y)) 1 1 A) : b = true ↔ P A :=
  ⟨fun q => by obtain ⟨A', a', p⟩ := h.mp q; rw [g_is_det a a']; exact p, fun p => h.mpr ⟨A, a, p⟩⟩
theorem g_w_no {G : TG} {k : Nat} {P : TA → Prop} {y : Nat} {b : Bool} (h : g_w G k P y b) (n : ¬ ∃ A, g_is (g_bs G k (nI y)) 1 1 A) : b = false := by
  cases b
  · rfl
  · obtain ⟨A, a, -⟩ := h.mp rfl
    exact absurd ⟨A, a⟩ n
/-- one more base cost, tried by the class -/
theorem x8_tried {G : TG} {m : Mem} {k : Nat} (hG : g_ok G) (hX : ∀ y, XG 95 (g_bs G k y) (st m 101 k y)) {y : Nat} (hy : y ≤ 99) :
    ∃ r m2, f_X8_tryTheBest (st m 101 k (nI y)) = some (b01 r, m2) ∧ fr SCR m m2 ∧ (∀ z, XG 95 (g_bs G k z) (st m2 101 k z)) ∧ (r = false → ¬ ∃ A, g_is (g_bs G k (nI y)) 1 1 A) ∧ (r = true → ∃ A, g_is (g_bs G k (nI y)) 1 1 A ∧ ∀ c, c < 36 → m2.1 104 c = A.2.1 c) := by
  have hG2 := g_bs_ok hG k (x := nI y) (by rw [nI_i (by omega)]; omega)
  obtain ⟨r, w, m2, e2, f2, b2, p1, p2⟩ := x8_best (hX (nI y)) hG2
  refine ⟨r, m2, e2, fr_trans (fr_st (A := SCR) (by unfold SCR; omega)) f2 (fun c j h => h) (fun c j h => by unfold KB at h; unfold SCR; omega), fun z => ?_, fun h => ?_, fun h => ?_⟩
  · have := XG_bs (XG_fr (hX (nI y)) f2 (fun c j p q => by unfold KB; omega)) k z
    rw [g_bs_bs] at this
    exact this
  · have h5 := p1 h
    subst h5
    rcases b2 with ⟨A, a, e⟩ | ⟨-, n⟩
    · have nn := (g_tot_nn a).1
      rw [← e] at nn
      exact absurd nn (by decide)
    · exact n
  · obtain ⟨-, -, -, A, a, x⟩ := p2 h
    exact ⟨A, a, fun c hc => x.2.2.2.1 c hc⟩
theorem x9_tried {G : TG} {m : Mem} {k : Nat} (hG : g_ok G) (hM : ∀ y, MG (g_bs G k y) (st m 126 k y)) {y : Nat} (hy : y ≤ 99) :
    ∃ r m2, f_X9_thinks 1 1 (st m 126 k (nI y)) = some (r, m2) ∧ fr (fun c j => ZX c j ∨ (c = 126 ∧ j = k)) m m2 ∧ (∀ z, MG (g_bs G k z) (st m2 126 k z)) ∧ ((r < 0 ∧ ¬ ∃ A, g_is (g_bs G k (nI y)) 1 1 A) ∨ (¬ r < 0 ∧ ∃ A, g_is (g_bs G k (nI y)) 1 1 A ∧ ∀ c, c < 36 → m2.1 128 c = A.2.1 c)) := by
  have hG2 := g_bs_ok hG k (x := nI y) (by rw [nI_i (by omega)]; omega)
  obtain ⟨r, m2, e2, f2, ho⟩ := x9_thinks 1 1 (hM (nI y)) hG2
  refine ⟨r, m2, e2, fr_trans (fr_st (A := fun c j => ZX c j ∨ (c = 126 ∧ j = k)) (Or.inr ⟨rfl, rfl⟩)) f2 (fun c j h => h) (fun c j h => Or.inl h), fun z => ?_, ?_⟩
  · have := MG_bs (MG_fr (hM (nI y)) f2 (fun c j q => by unfold ZX; omega)) k z
    rw [g_bs_bs] at this
    exact this
  · rcases ho with ⟨A, a, b, c, d⟩ | ⟨a, b⟩
    · right
      have nn := g_tot_nn (A := A) ⟨a, b⟩
      exact ⟨by rw [d, Int32.lt_iff_toInt_lt, show (0 : Int32).toInt = 0 from rfl]; omega, A, ⟨a, b⟩, fun c' hc => c.2.2.2.1 c' hc⟩
    · left
      exact ⟨by rw [a]; decide, fun ⟨A, q⟩ => b ⟨A, q.1, q.2⟩⟩
theorem c_ctr (f : Nat → Bool) (n : Nat) : t_ctr f (n + 1) = t_ctr f n + if f n = true then 1 else 0 := rfl
theorem x8_oddsG {G : TG} {μ : Mem} (hG : g_ok G) {i j : Nat} (hi : i < 5) (hj : j < 5) (hX : XG 95 G μ) {w : Nat → Bool} (hw : ∀ y, g_w G (5 * i + j) (fun A => ¬ A.2.1 (6 * i + j) ≤ 0) y (w y)) (x : Int32) : ∃ μ', fr SCR μ μ' ∧ ∀ r, f_X8_fractionPart (nI (t_ctr (fun n => w (n * 10)) 10)) 10 x μ' = some r → f_X8_odds_47 (nI i) (nI j) x FU 0 0 μ = some (r, μ') := by
  refine q_loop0 (fun n t (s : Mem × Int32) => f_X8_odds_47 (nI i) (nI j) x n s.2 (nI t) s.1) 10 (by omega)
    (fun t s => fr SCR μ s.1 ∧ (∀ y, XG 95 (g_bs G (5 * i + j) y) (st s.1 101 (5 * i + j) y)) ∧ s.2 = nI (t_ctr (fun n => w (n * 10)) t))
    (fun z => ∃ μ', fr SCR μ μ' ∧ ∀ r, f_X8_fractionPart (nI (t_ctr (fun n => w (n * 10)) 10)) 10 x μ' = some r → z = some (r, μ')) ?_ ?_ (μ, 0) ⟨fr_refl _ _, fun y => XG_bs hX _ y, rfl⟩
  · rintro n t ⟨m, s⟩ ht ⟨f, X, hs⟩
    change s = _ at hs
    right
    obtain ⟨r, m2, e2, f2, X2, p1, p2⟩ := x8_tried hG X (y := t * 10) (by omega)
    have l10 : ¬ (10 : Int32) ≤ nI t := by
      rw [Int32.le_iff_toInt_le, nI_i (by omega), show (10 : Int32).toInt = 10 from rfl]; omega
    cases r
    · have hw0 := g_w_no (hw (t * 10)) (p1 rfl)
      refine ⟨(m2, s), ⟨fr_then f f2, X2, ?_⟩, ?_⟩
      · show s = _
        rw [c_ctr, hw0, if_neg (by decide)]; exact hs
      · show g_X8_odds_47 (nI i) (nI j) x _ s (nI t) m = _
        unfold g_X8_odds_47
        rw [if_neg l10]
        simp (disch := omega) only [lt_k, bnv_s, bnd_s, grd_t, q_in, q_inb, q_c, q_leT, q_leF, q_ltT, q_ltF, q_neg, q_nn, q_z, q_le0, q_b0, q_b1, nI_add, nI_0, q_off, q_self, q_oth, cst_2, st_2, ↓reduceIte, f_X8_cellAt, f_X8_roadAt, q_le1, q_nle1, q_le2, q_nle2, q_le5, q_nle5, q_le6, q_nle6, q_le8, q_nle8, q_le12, q_nle12, q_le25, q_nle25, q_le36, q_nle36, q_le60, q_nle60, q_le99, q_nle99, q_le100, q_nle100, q_le300, q_nle300, q_le640, q_nle640, q_le411, q_nle411, q_mul2, q_lmul2, q_mul3, q_lmul3, q_mul5, q_lmul5, q_mul6, q_lmul6, q_mul10, q_lmul10, q_add1, q_ladd1, q_add2, q_ladd2, q_add3, q_ladd3, q_add5, q_ladd5, q_add6, q_ladd6, q_add100, q_ladd100, q_div2, q_rem2, q_div3, q_rem3, q_div6, q_rem6, q_div10, q_rem10, Nat.mul_comm i 5, e2, b01_f]
    · obtain ⟨A, a, c⟩ := p2 rfl
      have hwA := g_w_at (hw (t * 10)) a
      have c4 := c (6 * i + j) (by omega)
      by_cases z : A.2.1 (6 * i + j) ≤ 0
      · have hw0 : w (t * 10) = false := by
          cases q : w (t * 10)
          · rfl
          · exact absurd z (hwA.mp q)
        refine ⟨(m2, s), ⟨fr_then f f2, X2, ?_⟩, ?_⟩
        · show s = _
          rw [c_ctr, hw0, if_neg (by decide)]; exact hs
        · show g_X8_odds_47 (nI i) (nI j) x _ s (nI t) m = _
          unfold g_X8_odds_47
          rw [if_neg l10]
          simp (disch := omega) only [lt_k, bnv_s, bnd_s, grd_t, q_in, q_inb, q_c, q_leT, q_leF, q_ltT, q_ltF, q_neg, q_nn, q_z, q_le0, q_b0, q_b1, nI_add, nI_0, q_off, q_self, q_oth, cst_2, st_2, ↓reduceIte, f_X8_cellAt, f_X8_roadAt, q_le1, q_nle1, q_le2, q_nle2, q_le5, q_nle5, q_le6, q_nle6, q_le8, q_nle8, q_le12, q_nle12, q_le25, q_nle25, q_le36, q_nle36, q_le60, q_nle60, q_le99, q_nle99, q_le100, q_nle100, q_le300, q_nle300, q_le640, q_nle640, q_le411, q_nle411, q_mul2, q_lmul2, q_mul3, q_lmul3, q_mul5, q_lmul5, q_mul6, q_lmul6, q_mul10, q_lmul10, q_add1, q_ladd1, q_add2, q_ladd2, q_add3, q_ladd3, q_add5, q_ladd5, q_add6, q_ladd6, q_add100, q_ladd100, q_div2, q_rem2, q_div3, q_rem3, q_div6, q_rem6, q_div10, q_rem10, Nat.mul_comm i 5, Nat.mul_comm i 6, e2, show b01 true = 1 from rfl, q_10, c4, z]
      · have hw1 := hwA.mpr z
        refine ⟨(m2, s + 1), ⟨fr_then f f2, X2, ?_⟩, ?_⟩
        · show s + 1 = _
          rw [c_ctr, hw1, if_pos rfl, hs, q_add1]
        · show g_X8_odds_47 (nI i) (nI j) x _ s (nI t) m = _
          unfold g_X8_odds_47
          rw [if_neg l10]
          simp (disch := omega) only [lt_k, bnv_s, bnd_s, grd_t, q_in, q_inb, q_c, q_leT, q_leF, q_ltT, q_ltF, q_neg, q_nn, q_z, q_le0, q_b0, q_b1, nI_add, nI_0, q_off, q_self, q_oth, cst_2, st_2, ↓reduceIte, f_X8_cellAt, f_X8_roadAt, q_le1, q_nle1, q_le2, q_nle2, q_le5, q_nle5, q_le6, q_nle6, q_le8, q_nle8, q_le12, q_nle12, q_le25, q_nle25, q_le36, q_nle36, q_le60, q_nle60, q_le99, q_nle99, q_le100, q_nle100, q_le300, q_nle300, q_le640, q_nle640, q_le411, q_nle411, q_mul2, q_lmul2, q_mul3, q_lmul3, q_mul5, q_lmul5, q_mul6, q_lmul6, q_mul10, q_lmul10, q_add1, q_ladd1, q_add2, q_ladd2, q_add3, q_ladd3, q_add5, q_ladd5, q_add6, q_ladd6, q_add100, q_ladd100, q_div2, q_rem2, q_div3, q_rem3, q_div6, q_rem6, q_div10, q_rem10, Nat.mul_comm i 5, Nat.mul_comm i 6, e2, show b01 true = 1 from rfl, q_10, c4, z]
  · rintro n ⟨m, s⟩ ⟨f, X, hs⟩
    change s = _ at hs
    refine ⟨m, f, fun r hr => ?_⟩
    show g_X8_odds_47 (nI i) (nI j) x _ s (nI 10) m = _
    unfold g_X8_odds_47
    rw [if_pos (by decide), hs, hr, bnv_s]
theorem x9_oddsG {G : TG} {μ : Mem} (hG : g_ok G) {i j : Nat} (hi : i < 5) (hj : j < 5) (hM : MG G μ) {w : Nat → Bool} (hw : ∀ y, g_w G (5 * i + j) (fun A => ¬ A.2.1 (6 * i + j) ≤ 0) y (w y)) (x : Int32) : ∃ m1 μ', f_X9_minds μ = some m1 ∧ fr ZA μ μ' ∧ ∀ r, f_X9_lowest (Int32.toInt64 (nI (t_ctr (fun n => w (n * 10)) 10))) 10 x μ' = some r → f_X9_odds_45 (nI i) (nI j) x FU (μ.1 126 (5 * i + j)) 0 0 m1 = some (r, μ') := by
  obtain ⟨m1, e1, f1, mi⟩ := x9_minds μ
  have M1 := MG_fr hM f1 (fun c j q => by unfold DA; omega)
  have key := q_loop0 (fun n t (s : Mem × Int32) => f_X9_odds_45 (nI i) (nI j) x n (μ.1 126 (5 * i + j)) s.2 (nI (t * 10)) s.1) 10 (by omega)
    (fun t s => fr (fun c p => ZX c p ∨ (c = 126 ∧ p = 5 * i + j)) m1 s.1 ∧ (∀ y, MG (g_bs G (5 * i + j) y) (st s.1 126 (5 * i + j) y)) ∧ s.2 = nI (t_ctr (fun n => w (n * 10)) t))
    (fun z => ∃ μ', fr ZA μ μ' ∧ ∀ r, f_X9_lowest (Int32.toInt64 (nI (t_ctr (fun n => w (n * 10)) 10))) 10 x μ' = some r → z = some (r, μ')) ?_ ?_ (m1, 0) ⟨fr_refl _ _, fun y => MG_bs M1 _ y, rfl⟩
  · obtain ⟨μ', a, b⟩ := key
    exact ⟨m1, μ', e1, a, b⟩
  · rintro n t ⟨m, s⟩ ht ⟨f, X, hs⟩
    change s = _ at hs
    right
    obtain ⟨r, m2, e2, f2, X2, ho⟩ := x9_tried hG X (y := t * 10) (by omega)
    have l10 : ¬ (100 : Int32) ≤ nI (t * 10) := by
      rw [Int32.le_iff_toInt_le, nI_i (by omega), show (100 : Int32).toInt = 100 from rfl]; omega
    have e10 : nI (t * 10) + 10 = nI ((t + 1) * 10) := by rw [show (t + 1) * 10 = t * 10 + 10 by omega]; exact nI_add (t * 10) 10
    rcases ho with ⟨rn, no⟩ | ⟨rn, A, a, c⟩
    · have hw0 := g_w_no (hw (t * 10)) no
      refine ⟨(m2, s), ⟨fr_then f f2, X2, ?_⟩, ?_⟩
      · show s = _
        rw [c_ctr, hw0, if_neg (by decide)]; exact hs
      · show g_X9_odds_45 (nI i) (nI j) x _ (μ.1 126 (5 * i + j)) s (nI (t * 10)) m = _
        unfold g_X9_odds_45
        rw [if_neg l10]
        simp (disch := omega) only [lt_k, bnv_s, bnd_s, grd_t, q_in, q_inb, q_c, q_leT, q_leF, q_ltT, q_ltF, q_neg, q_nn, q_z, q_le0, q_b0, q_b1, nI_add, nI_0, q_off, q_self, q_oth, cst_2, st_2, ↓reduceIte, f_X8_cellAt, f_X8_roadAt, q_le1, q_nle1, q_le2, q_nle2, q_le5, q_nle5, q_le6, q_nle6, q_le8, q_nle8, q_le12, q_nle12, q_le25, q_nle25, q_le36, q_nle36, q_le60, q_nle60, q_le99, q_nle99, q_le100, q_nle100, q_le300, q_nle300, q_le640, q_nle640, q_le411, q_nle411, q_mul2, q_lmul2, q_mul3, q_lmul3, q_mul5, q_lmul5, q_mul6, q_lmul6, q_mul10, q_lmul10, q_add1, q_ladd1, q_add2, q_ladd2, q_add3, q_ladd3, q_add5, q_ladd5, q_add6, q_ladd6, q_add100, q_ladd100, q_div2, q_rem2, q_div3, q_rem3, q_div6, q_rem6, q_div10, q_rem10, e2, rn, e10, Int32.add_zero]
    · have hwA := g_w_at (hw (t * 10)) a
      have c4 := c (6 * i + j) (by omega)
      by_cases z : A.2.1 (6 * i + j) ≤ 0
      · have hw0 : w (t * 10) = false := by
          cases q : w (t * 10)
          · rfl
          · exact absurd z (hwA.mp q)
        refine ⟨(m2, s), ⟨fr_then f f2, X2, ?_⟩, ?_⟩
        · show s = _
          rw [c_ctr, hw0, if_neg (by decide)]; exact hs
        · show g_X9_odds_45 (nI i) (nI j) x _ (μ.1 126 (5 * i + j)) s (nI (t * 10)) m = _
          unfold g_X9_odds_45
          rw [if_neg l10]
          simp (disch := omega) only [lt_k, bnv_s, bnd_s, grd_t, q_in, q_inb, q_c, q_leT, q_leF, q_ltT, q_ltF, q_neg, q_nn, q_z, q_le0, q_b0, q_b1, nI_add, nI_0, q_off, q_self, q_oth, cst_2, st_2, ↓reduceIte, f_X8_cellAt, f_X8_roadAt, q_le1, q_nle1, q_le2, q_nle2, q_le5, q_nle5, q_le6, q_nle6, q_le8, q_nle8, q_le12, q_nle12, q_le25, q_nle25, q_le36, q_nle36, q_le60, q_nle60, q_le99, q_nle99, q_le100, q_nle100, q_le300, q_nle300, q_le640, q_nle640, q_le411, q_nle411, q_mul2, q_lmul2, q_mul3, q_lmul3, q_mul5, q_lmul5, q_mul6, q_lmul6, q_mul10, q_lmul10, q_add1, q_ladd1, q_add2, q_ladd2, q_add3, q_ladd3, q_add5, q_ladd5, q_add6, q_ladd6, q_add100, q_ladd100, q_div2, q_rem2, q_div3, q_rem3, q_div6, q_rem6, q_div10, q_rem10, e2, rn, e10, c4, z, Int32.add_zero]
      · have hw1 := hwA.mpr z
        refine ⟨(m2, s + 1), ⟨fr_then f f2, X2, ?_⟩, ?_⟩
        · show s + 1 = _
          rw [c_ctr, hw1, if_pos rfl, hs, q_add1]
        · show g_X9_odds_45 (nI i) (nI j) x _ (μ.1 126 (5 * i + j)) s (nI (t * 10)) m = _
          unfold g_X9_odds_45
          rw [if_neg l10]
          simp (disch := omega) only [lt_k, bnv_s, bnd_s, grd_t, q_in, q_inb, q_c, q_leT, q_leF, q_ltT, q_ltF, q_neg, q_nn, q_z, q_le0, q_b0, q_b1, nI_add, nI_0, q_off, q_self, q_oth, cst_2, st_2, ↓reduceIte, f_X8_cellAt, f_X8_roadAt, q_le1, q_nle1, q_le2, q_nle2, q_le5, q_nle5, q_le6, q_nle6, q_le8, q_nle8, q_le12, q_nle12, q_le25, q_nle25, q_le36, q_nle36, q_le60, q_nle60, q_le99, q_nle99, q_le100, q_nle100, q_le300, q_nle300, q_le640, q_nle640, q_le411, q_nle411, q_mul2, q_lmul2, q_mul3, q_lmul3, q_mul5, q_lmul5, q_mul6, q_lmul6, q_mul10, q_lmul10, q_add1, q_ladd1, q_add2, q_ladd2, q_add3, q_ladd3, q_add5, q_ladd5, q_add6, q_ladd6, q_add100, q_ladd100, q_div2, q_rem2, q_div3, q_rem3, q_div6, q_rem6, q_div10, q_rem10, e2, rn, e10, c4, z]
  · rintro n ⟨m, s⟩ ⟨f, X, hs⟩
    change s = _ at hs
    change fr (fun c p => ZX c p ∨ (c = 126 ∧ p = 5 * i + j)) m1 m at f
    obtain ⟨m3, e3, f3⟩ := x9_back (k := 5 * i + j) (MI_c mi (fr_c f (fun j => by unfold ZX; omega))) (fr_trans f1 f (fun c p h => by unfold DA at h; unfold ZA; omega) (fun c p h => h.elim Or.inl (fun h => Or.inr (Or.inr h))))
    refine ⟨_, f3, fun r hr => ?_⟩
    show g_X9_odds_45 (nI i) (nI j) x _ (μ.1 126 (5 * i + j)) s (nI 100) m = _
    unfold g_X9_odds_45
    rw [if_pos (by decide), e3]
    simp (disch := omega) only [lt_k, bnv_s, bnd_s, grd_t, q_in, q_inb, q_c, q_leT, q_leF, q_ltT, q_ltF, q_neg, q_nn, q_z, q_le0, q_b0, q_b1, nI_add, nI_0, q_off, q_self, q_oth, cst_2, st_2, ↓reduceIte, f_X8_cellAt, f_X8_roadAt, q_le1, q_nle1, q_le2, q_nle2, q_le5, q_nle5, q_le6, q_nle6, q_le8, q_nle8, q_le12, q_nle12, q_le25, q_nle25, q_le36, q_nle36, q_le60, q_nle60, q_le99, q_nle99, q_le100, q_nle100, q_le300, q_nle300, q_le640, q_nle640, q_le411, q_nle411, q_mul2, q_lmul2, q_mul3, q_lmul3, q_mul5, q_lmul5, q_mul6, q_lmul6, q_mul10, q_lmul10, q_add1, q_ladd1, q_add2, q_ladd2, q_add3, q_ladd3, q_add5, q_ladd5, q_add6, q_ladd6, q_add100, q_ladd100, q_div2, q_rem2, q_div3, q_rem3, q_div6, q_rem6, q_div10, q_rem10, hs, hr]
theorem st_odds {μ : Mem} (hv : Inv μ) (a1 : Int32) (a2 : Int32) (a3 : Int32) : ∃ r μ1 μ2, f_X8_odds a1 a2 a3 μ = some (r, μ1) ∧ f_X9_odds a1 a2 a3 μ1 = some (r, μ2) ∧ Inv μ2 := by
  obtain ⟨⟨D, hD, hX, hM⟩, hR⟩ := id hv
  unfold f_X8_odds f_X9_odds
  have ex := x0_isRoadG (g := 15) (show XG 15 D.1 μ from hX.1) hD.1 a1 a2
  rcases road_cases D.1 hD.1 a1 a2 with ⟨i, j, hi, hj, rfl, rfl, e1⟩ | e1
  · rw [e1] at ex
    have g1 := hD.1.1
    have g2 := hD.1.2.1
    by_cases h3 : inR a3 0 1 = true
    · obtain ⟨m1, c1, x1, f1⟩ := x0_copyFrom (k := 95) (o := 15) (show XG 15 D.1 μ from hX.1) (by omega)
      obtain ⟨w, hw⟩ := Classical.axiomOfChoice (g_w_ex D.1 (5 * i + j) (fun A => ¬ A.2.1 (6 * i + j) ≤ 0))
      obtain ⟨m2, f2, k2⟩ := x8_oddsG hD.1 (i := i) (j := j) (by omega) (by omega) x1 hw a3
      have F : fr SCR μ m2 := fr_trans f1 f2 (fun c j h => by unfold SCR; omega) (fun c j h => h)
      have M := MD_fr hM hD F (fun c j q => by unfold SCR; omega)
      have em := x9_isRoadG M.1 hD.1 (nI i) (nI j)
      rw [e1] at em
      obtain ⟨m3, m4, e3, f4, k4⟩ := x9_oddsG hD.1 (i := i) (j := j) (by omega) (by omega) M.1 hw a3
      have hc : t_ctr (fun n => w (n * 10)) 10 ≤ 10 := t_ctr_le _ _
      obtain ⟨r, t1, t2⟩ := x_frac (a := t_ctr (fun n => w (n * 10)) 10) (b := 10) (by omega) (by omega) (by omega) a3 m2 m4
      refine ⟨r, m2, m4, ?_, ?_, Inv_scr (Inv_scr hv F) (fr_mono f4 (fun c j h => by unfold ZA at h; unfold SCR; omega))⟩
      · rw [ex, bnv_s, if_neg (by decide), u8_1, bnv_s, h3, b2i_t, if_neg (by decide), c1, bnv_s]
        exact k2 r t1
      · rw [em, bnv_s, if_neg (by decide), i9_1, bnv_s, h3, b2i_t, if_neg (by decide)]
        simp (disch := omega) only [lt_k, bnv_s, bnd_s, grd_t, q_in, q_inb, q_c, q_leT, q_leF, q_ltT, q_ltF, q_neg, q_nn, q_z, q_le0, q_b0, q_b1, nI_add, nI_0, q_off, q_self, q_oth, cst_2, st_2, ↓reduceIte, f_X8_cellAt, f_X8_roadAt, q_le1, q_nle1, q_le2, q_nle2, q_le5, q_nle5, q_le6, q_nle6, q_le8, q_nle8, q_le12, q_nle12, q_le25, q_nle25, q_le36, q_nle36, q_le60, q_nle60, q_le99, q_nle99, q_le100, q_nle100, q_le300, q_nle300, q_le640, q_nle640, q_le411, q_nle411, q_mul2, q_lmul2, q_mul3, q_lmul3, q_mul5, q_lmul5, q_mul6, q_lmul6, q_mul10, q_lmul10, q_add1, q_ladd1, q_add2, q_ladd2, q_add3, q_ladd3, q_add5, q_ladd5, q_add6, q_ladd6, q_add100, q_ladd100, q_div2, q_rem2, q_div3, q_rem3, q_div6, q_rem6, q_div10, q_rem10, e3]
        exact k4 r t2
    · have h3' := ff_t h3
      have em := x9_isRoadG hM.1 hD.1 (nI i) (nI j)
      rw [e1] at em
      exact ⟨-9223372036854775808, μ, μ, by rw [ex, bnv_s, if_neg (by decide), u8_1, bnv_s, h3', b2i_f, if_pos rfl], by rw [em, bnv_s, if_neg (by decide), i9_1, bnv_s, h3', b2i_f, if_pos rfl], hv⟩
  · rw [e1] at ex
    have em := x9_isRoadG hM.1 hD.1 a1 a2
    rw [e1] at em
    exact ⟨-9223372036854775808, μ, μ, by rw [ex, bnv_s, if_pos rfl], by rw [em, bnv_s, if_pos rfl], hv⟩
