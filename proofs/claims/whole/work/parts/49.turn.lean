/-! THE PURE PART: turn, who leaves, the loads turned -/
def t_tnf (g : Nat → Int32) : Nat → Int32
  | 0 => 2147483647
  | m + 1 => mn (t_tnf g m) (g m)
def t_tn (ld : Nat → Int32) (P : Nat → Nat) (L : Nat) : Int32 := t_tnf (fun m => ld (P (2 * m + 1))) (L / 2)
theorem mn_le (x y : Int32) : (mn x y).toInt ≤ x.toInt ∧ (mn x y).toInt ≤ y.toInt ∧ (mn x y = x ∨ mn x y = y) := by
  unfold mn
  by_cases h : y < x
  · rw [if_pos h]
    have := i_lt.mp h
    exact ⟨by omega, by omega, Or.inr rfl⟩
  · rw [if_neg h]
    have : ¬ y.toInt < x.toInt := fun q => h (i_lt.mpr q)
    exact ⟨by omega, by omega, Or.inl rfl⟩
theorem t_tnf_le (g : Nat → Int32) : ∀ M m, m < M → (t_tnf g M).toInt ≤ (g m).toInt
  | 0, m, h => by omega
  | M + 1, m, h => by
    obtain ⟨a, b, -⟩ := mn_le (t_tnf g M) (g M)
    show (mn (t_tnf g M) (g M)).toInt ≤ _
    by_cases q : m = M
    · rw [q]; exact b
    · have := t_tnf_le g M m (by omega); omega
theorem t_tnf_is (g : Nat → Int32) : ∀ M, t_tnf g M = 2147483647 ∨ ∃ m, m < M ∧ t_tnf g M = g m
  | 0 => Or.inl rfl
  | M + 1 => by
    show mn (t_tnf g M) (g M) = _ ∨ ∃ m, m < M + 1 ∧ mn (t_tnf g M) (g M) = g m
    rcases (mn_le (t_tnf g M) (g M)).2.2 with e | e
    · rw [e]
      rcases t_tnf_is g M with r | ⟨m, hm, r⟩
      · exact Or.inl r
      · exact Or.inr ⟨m, by omega, r⟩
    · exact Or.inr ⟨M, by omega, e⟩
theorem t_tnf_ex (g : Nat → Int32) {M : Nat} (hM : 0 < M) : ∃ m, m < M ∧ g m = t_tnf g M := by
  rcases t_tnf_is g M with r | ⟨m, hm, r⟩
  · refine ⟨0, hM, ?_⟩
    have a := t_tnf_le g M 0 hM
    rw [r] at a
    have : (2147483647 : Int32).toInt = 2147483647 := rfl
    have b := Int32.toInt_lt (g 0)
    rw [r, i_eq]
    omega
  · exact ⟨m, hm, r.symm⟩
/-- the class begins with less -/
def t_tng (g : Nat → Int32) : Nat → Int32
  | 0 => 1000000
  | m + 1 => mn (t_tng g m) (g m)
theorem mn_i (x y : Int32) : (mn x y).toInt = min x.toInt y.toInt := by
  unfold mn
  by_cases h : y < x
  · rw [if_pos h]
    have := i_lt.mp h
    omega
  · rw [if_neg h]
    have : ¬ y.toInt < x.toInt := fun q => h (i_lt.mpr q)
    omega
theorem t_tng_mn (g : Nat → Int32) : ∀ M, t_tng g M = mn 1000000 (t_tnf g M)
  | 0 => by
    show (1000000 : Int32) = mn 1000000 2147483647
    decide
  | M + 1 => by
    show mn (t_tng g M) (g M) = mn 1000000 (mn (t_tnf g M) (g M))
    rw [t_tng_mn g M, i_eq, mn_i, mn_i, mn_i, mn_i]
    omega
theorem t_tng_eq {g : Nat → Int32} {M : Nat} (hM : 0 < M) (h : ∀ m, m < M → (g m).toInt ≤ 1000000) : t_tng g M = t_tnf g M := by
  obtain ⟨m, hm, e⟩ := t_tnf_ex g hM
  have := h m hm
  have k : (1000000 : Int32).toInt = 1000000 := rfl
  rw [t_tng_mn, ← e, i_eq, mn_i]
  omega
theorem x1_turnOf {k a1 L : Nat} {μ : Mem} {P : Nat → Nat} (hw : FW k P L μ) (hL : L ≤ 12) (hL0 : 2 ≤ L) (hL2 : L % 2 = 0) (hP : ∀ j, j < L → P j < 36) (hb : ∀ c, c < 36 → (μ.1 a1 c).toInt ≤ 1000000) : f_X1_turnOf k a1 36 μ = some (t_tn (μ.1 a1) P L) := by
  have eg : t_tn (μ.1 a1) P L = t_tng (fun m => μ.1 a1 (P (2 * m + 1))) (L / 2) := (t_tng_eq (g := fun m => μ.1 a1 (P (2 * m + 1))) (by omega) (fun m hm => hb _ (hP _ (by omega)))).symm
  rw [eg]
  refine q_loop0 (fun n i s => f_X1_turnOf_5 k a1 36 μ n s (nI (2 * i + 1))) (L / 2) (by omega) (fun i s => s = t_tng (fun m => μ.1 a1 (P (2 * m + 1))) i) (fun z => z = some (t_tng (fun m => μ.1 a1 (P (2 * m + 1))) (L / 2))) (fun n i s hi hv => Or.inr ⟨t_tng (fun m => μ.1 a1 (P (2 * m + 1))) (i + 1), rfl, ?_⟩) (fun n s hv => ?_) 1000000 rfl
  · show g_X1_turnOf_5 k a1 36 μ _ s (nI (2 * i + 1)) = f_X1_turnOf_5 k a1 36 μ n _ (nI (2 * (i + 1) + 1))
    have h1 := hw.2 (2 * i + 1) (by omega)
    have h2 := hP (2 * i + 1) (by omega)
    unfold g_X1_turnOf_5
    simp (disch := omega) only [lt_k, bnv_s, bnd_s, grd_t, q_in, q_inb, q_c, q_leT, q_leF, q_ltT, q_ltF, q_neg, q_nn, q_z, q_le0, q_b0, q_b1, nI_add, nI_0, q_off, q_self, q_oth, cst_2, st_2, ↓reduceIte, f_X8_cellAt, f_X8_roadAt, q_le1, q_nle1, q_le2, q_nle2, q_le5, q_nle5, q_le6, q_nle6, q_le8, q_nle8, q_le12, q_nle12, q_le25, q_nle25, q_le36, q_nle36, q_le60, q_nle60, q_le99, q_nle99, q_le100, q_nle100, q_le300, q_nle300, q_le640, q_nle640, q_le411, q_nle411, q_mul2, q_lmul2, q_mul3, q_lmul3, q_mul5, q_lmul5, q_mul6, q_lmul6, q_mul10, q_lmul10, q_add1, q_ladd1, q_add2, q_ladd2, q_add3, q_ladd3, q_add5, q_ladd5, q_add6, q_ladd6, q_add100, q_ladd100, q_div2, q_rem2, q_div3, q_rem3, q_div6, q_rem6, q_div10, q_rem10, hw.1, h1, hv, show 2 * (i + 1) + 1 = 2 * i + 1 + 2 by omega]
    rfl
  · show g_X1_turnOf_5 k a1 36 μ _ s (nI (2 * (L / 2) + 1)) = _
    unfold g_X1_turnOf_5
    simp (disch := omega) only [lt_k, bnv_s, bnd_s, grd_t, q_in, q_inb, q_c, q_leT, q_leF, q_ltT, q_ltF, q_neg, q_nn, q_z, q_le0, q_b0, q_b1, nI_add, nI_0, q_off, q_self, q_oth, cst_2, st_2, ↓reduceIte, f_X8_cellAt, f_X8_roadAt, q_le1, q_nle1, q_le2, q_nle2, q_le5, q_nle5, q_le6, q_nle6, q_le8, q_nle8, q_le12, q_nle12, q_le25, q_nle25, q_le36, q_nle36, q_le60, q_nle60, q_le99, q_nle99, q_le100, q_nle100, q_le300, q_nle300, q_le640, q_nle640, q_le411, q_nle411, q_mul2, q_lmul2, q_mul3, q_lmul3, q_mul5, q_lmul5, q_mul6, q_lmul6, q_mul10, q_lmul10, q_add1, q_ladd1, q_add2, q_ladd2, q_add3, q_ladd3, q_add5, q_ladd5, q_add6, q_ladd6, q_add100, q_ladd100, q_div2, q_rem2, q_div3, q_rem3, q_div6, q_rem6, q_div10, q_rem10, hw.1, hv]
/-- number 2 m + 1 leaves: the first cell of those that have just tn -/
def t_lv (ld : Nat → Int32) (P : Nat → Nat) (M : Nat) (tn : Int32) (m : Nat) : Prop := m < M ∧ ld (P (2 * m + 1)) = tn ∧ ∀ m', m' < M → ld (P (2 * m' + 1)) = tn → P (2 * m + 1) ≤ P (2 * m' + 1)
theorem t_lv_uniq {ld : Nat → Int32} {P : Nat → Nat} {M : Nat} {tn : Int32} {m m' : Nat} (h : t_lv ld P M tn m) (h' : t_lv ld P M tn m') : P (2 * m + 1) = P (2 * m' + 1) :=
  Nat.le_antisymm (h.2.2 m' h'.1 h'.2.1) (h'.2.2 m h.1 h.2.1)
theorem x1_leave {k a1 L : Nat} {μ : Mem} {P : Nat → Nat} {tn : Int32} (hw : FW k P L μ) (hL : L ≤ 12) (hL0 : 2 ≤ L) (hL2 : L % 2 = 0) (hP : ∀ j, j < L → P j < 36) (hx : ∃ m, m < L / 2 ∧ μ.1 a1 (P (2 * m + 1)) = tn) :
    ∃ m, f_X1_findLeaving k a1 36 tn μ = some (nI (P (2 * m + 1))) ∧ t_lv (μ.1 a1) P (L / 2) tn m := by
  have e1 : grd (inb 1 12) = fun (z : Option Int32) => z := by funext z; rfl
  have e2 : (1 : Int32).toNatClampNeg = 1 := rfl
  have h1 := hw.2 1 (by omega)
  unfold f_X1_findLeaving
  simp only [e1, e2, lt_k, h1]
  refine q_loop0 (fun n i (s : Int32 × Int32) => f_X1_findLeaving_13 k a1 36 tn μ n s.1 s.2 (nI (2 * i + 1))) (L / 2) (by omega)
    (fun i s => (s.2 = 0 ∧ ∀ m, m < i → μ.1 a1 (P (2 * m + 1)) ≠ tn) ∨ (s.2 = 1 ∧ ∃ m, s.1 = nI (P (2 * m + 1)) ∧ t_lv (μ.1 a1) P i tn m))
    (fun z => ∃ m, z = some (nI (P (2 * m + 1))) ∧ t_lv (μ.1 a1) P (L / 2) tn m) ?_ ?_ (nI (P 1), 0) (Or.inl ⟨rfl, fun m h => by omega⟩)
  · rintro n i ⟨x, y⟩ hi hv
    right
    have h1 := hw.2 (2 * i + 1) (by omega)
    have h2 := hP (2 * i + 1) (by omega)
    have ei : 2 * (i + 1) + 1 = 2 * i + 1 + 2 := by omega
    by_cases q : μ.1 a1 (P (2 * i + 1)) = tn
    · -- this one has just tn
      have new : (∀ m, m < i → μ.1 a1 (P (2 * m + 1)) = tn → P (2 * i + 1) ≤ P (2 * m + 1)) → t_lv (μ.1 a1) P (i + 1) tn i := fun hh => ⟨by omega, q, fun m hm e => by
        by_cases r : m = i
        · rw [r]; exact Nat.le_refl _
        · exact hh m (by omega) e⟩
      rcases hv with ⟨v1, v2⟩ | ⟨v1, m, v2, v3⟩
      · change y = 0 at v1
        refine ⟨(nI (P (2 * i + 1)), 1), Or.inr ⟨rfl, i, rfl, new (fun m hm e => absurd e (v2 m hm))⟩, ?_⟩
        show g_X1_findLeaving_13 k a1 36 tn μ _ x y (nI (2 * i + 1)) = f_X1_findLeaving_13 k a1 36 tn μ n _ _ (nI (2 * (i + 1) + 1))
        unfold g_X1_findLeaving_13 f_X1_findLeaving_51
        simp (disch := omega) only [lt_k, bnv_s, bnd_s, grd_t, q_in, q_inb, q_c, q_leT, q_leF, q_ltT, q_ltF, q_neg, q_nn, q_z, q_le0, q_b0, q_b1, nI_add, nI_0, q_off, q_self, q_oth, cst_2, st_2, ↓reduceIte, f_X8_cellAt, f_X8_roadAt, q_le1, q_nle1, q_le2, q_nle2, q_le5, q_nle5, q_le6, q_nle6, q_le8, q_nle8, q_le12, q_nle12, q_le25, q_nle25, q_le36, q_nle36, q_le60, q_nle60, q_le99, q_nle99, q_le100, q_nle100, q_le300, q_nle300, q_le640, q_nle640, q_le411, q_nle411, q_mul2, q_lmul2, q_mul3, q_lmul3, q_mul5, q_lmul5, q_mul6, q_lmul6, q_mul10, q_lmul10, q_add1, q_ladd1, q_add2, q_ladd2, q_add3, q_ladd3, q_add5, q_ladd5, q_add6, q_ladd6, q_add100, q_ladd100, q_div2, q_rem2, q_div3, q_rem3, q_div6, q_rem6, q_div10, q_rem10, hw.1, h1, q, v1, ei]
      · change y = 1 at v1
        change x = _ at v2
        have h3 := hP (2 * m + 1) (by have := v3.1; omega)
        by_cases r : P (2 * m + 1) ≤ P (2 * i + 1)
        · refine ⟨(x, y), Or.inr ⟨v1, m, v2, by have := v3.1; omega, v3.2.1, fun m' hm e => ?_⟩, ?_⟩
          · by_cases r2 : m' = i
            · rw [r2]; exact r
            · exact v3.2.2 m' (by omega) e
          · show g_X1_findLeaving_13 k a1 36 tn μ _ x y (nI (2 * i + 1)) = f_X1_findLeaving_13 k a1 36 tn μ n _ _ (nI (2 * (i + 1) + 1))
            unfold g_X1_findLeaving_13 f_X1_findLeaving_51
            simp (disch := omega) only [lt_k, bnv_s, bnd_s, grd_t, q_in, q_inb, q_c, q_leT, q_leF, q_ltT, q_ltF, q_neg, q_nn, q_z, q_le0, q_b0, q_b1, nI_add, nI_0, q_off, q_self, q_oth, cst_2, st_2, ↓reduceIte, f_X8_cellAt, f_X8_roadAt, q_le1, q_nle1, q_le2, q_nle2, q_le5, q_nle5, q_le6, q_nle6, q_le8, q_nle8, q_le12, q_nle12, q_le25, q_nle25, q_le36, q_nle36, q_le60, q_nle60, q_le99, q_nle99, q_le100, q_nle100, q_le300, q_nle300, q_le640, q_nle640, q_le411, q_nle411, q_mul2, q_lmul2, q_mul3, q_lmul3, q_mul5, q_lmul5, q_mul6, q_lmul6, q_mul10, q_lmul10, q_add1, q_ladd1, q_add2, q_ladd2, q_add3, q_ladd3, q_add5, q_ladd5, q_add6, q_ladd6, q_add100, q_ladd100, q_div2, q_rem2, q_div3, q_rem3, q_div6, q_rem6, q_div10, q_rem10, hw.1, h1, q, v1, v2, q_10, ei]
        · refine ⟨(nI (P (2 * i + 1)), 1), Or.inr ⟨rfl, i, rfl, new (fun m' hm e => by have := v3.2.2 m' hm e; omega)⟩, ?_⟩
          show g_X1_findLeaving_13 k a1 36 tn μ _ x y (nI (2 * i + 1)) = f_X1_findLeaving_13 k a1 36 tn μ n _ _ (nI (2 * (i + 1) + 1))
          unfold g_X1_findLeaving_13 f_X1_findLeaving_51
          simp (disch := omega) only [lt_k, bnv_s, bnd_s, grd_t, q_in, q_inb, q_c, q_leT, q_leF, q_ltT, q_ltF, q_neg, q_nn, q_z, q_le0, q_b0, q_b1, nI_add, nI_0, q_off, q_self, q_oth, cst_2, st_2, ↓reduceIte, f_X8_cellAt, f_X8_roadAt, q_le1, q_nle1, q_le2, q_nle2, q_le5, q_nle5, q_le6, q_nle6, q_le8, q_nle8, q_le12, q_nle12, q_le25, q_nle25, q_le36, q_nle36, q_le60, q_nle60, q_le99, q_nle99, q_le100, q_nle100, q_le300, q_nle300, q_le640, q_nle640, q_le411, q_nle411, q_mul2, q_lmul2, q_mul3, q_lmul3, q_mul5, q_lmul5, q_mul6, q_lmul6, q_mul10, q_lmul10, q_add1, q_ladd1, q_add2, q_ladd2, q_add3, q_ladd3, q_add5, q_ladd5, q_add6, q_ladd6, q_add100, q_ladd100, q_div2, q_rem2, q_div3, q_rem3, q_div6, q_rem6, q_div10, q_rem10, hw.1, h1, q, v1, v2, q_10, ei]
    · refine ⟨(x, y), ?_, ?_⟩
      · rcases hv with ⟨v1, v2⟩ | ⟨v1, m, v2, v3⟩
        · refine Or.inl ⟨v1, fun m hm => ?_⟩
          by_cases r : m = i
          · rw [r]; exact q
          · exact v2 m (by omega)
        · refine Or.inr ⟨v1, m, v2, by have := v3.1; omega, v3.2.1, fun m' hm e => ?_⟩
          by_cases r : m' = i
          · rw [r] at e; exact absurd e q
          · exact v3.2.2 m' (by omega) e
      · show g_X1_findLeaving_13 k a1 36 tn μ _ x y (nI (2 * i + 1)) = f_X1_findLeaving_13 k a1 36 tn μ n _ _ (nI (2 * (i + 1) + 1))
        unfold g_X1_findLeaving_13
        simp (disch := omega) only [lt_k, bnv_s, bnd_s, grd_t, q_in, q_inb, q_c, q_leT, q_leF, q_ltT, q_ltF, q_neg, q_nn, q_z, q_le0, q_b0, q_b1, nI_add, nI_0, q_off, q_self, q_oth, cst_2, st_2, ↓reduceIte, f_X8_cellAt, f_X8_roadAt, q_le1, q_nle1, q_le2, q_nle2, q_le5, q_nle5, q_le6, q_nle6, q_le8, q_nle8, q_le12, q_nle12, q_le25, q_nle25, q_le36, q_nle36, q_le60, q_nle60, q_le99, q_nle99, q_le100, q_nle100, q_le300, q_nle300, q_le640, q_nle640, q_le411, q_nle411, q_mul2, q_lmul2, q_mul3, q_lmul3, q_mul5, q_lmul5, q_mul6, q_lmul6, q_mul10, q_lmul10, q_add1, q_ladd1, q_add2, q_ladd2, q_add3, q_ladd3, q_add5, q_ladd5, q_add6, q_ladd6, q_add100, q_ladd100, q_div2, q_rem2, q_div3, q_rem3, q_div6, q_rem6, q_div10, q_rem10, hw.1, h1, q, ei]
  · rintro n ⟨x, y⟩ hv
    rcases hv with ⟨v1, v2⟩ | ⟨v1, m, v2, v3⟩
    · obtain ⟨m, h3, h4⟩ := hx
      exact absurd h4 (v2 m h3)
    · refine ⟨m, ?_, v3⟩
      change x = _ at v2
      show g_X1_findLeaving_13 k a1 36 tn μ _ x y (nI (2 * (L / 2) + 1)) = _
      unfold g_X1_findLeaving_13
      simp (disch := omega) only [lt_k, bnv_s, bnd_s, grd_t, q_in, q_inb, q_c, q_leT, q_leF, q_ltT, q_ltF, q_neg, q_nn, q_z, q_le0, q_b0, q_b1, nI_add, nI_0, q_off, q_self, q_oth, cst_2, st_2, ↓reduceIte, f_X8_cellAt, f_X8_roadAt, q_le1, q_nle1, q_le2, q_nle2, q_le5, q_nle5, q_le6, q_nle6, q_le8, q_nle8, q_le12, q_nle12, q_le25, q_nle25, q_le36, q_nle36, q_le60, q_nle60, q_le99, q_nle99, q_le100, q_nle100, q_le300, q_nle300, q_le640, q_nle640, q_le411, q_nle411, q_mul2, q_lmul2, q_mul3, q_lmul3, q_mul5, q_lmul5, q_mul6, q_lmul6, q_mul10, q_lmul10, q_add1, q_ladd1, q_add2, q_ladd2, q_add3, q_ladd3, q_add5, q_ladd5, q_add6, q_ladd6, q_add100, q_ladd100, q_div2, q_rem2, q_div3, q_rem3, q_div6, q_rem6, q_div10, q_rem10, hw.1, v2]
theorem t_ld_succ (P : Nat → Nat) (tn : Int32) (f : Nat → Int32) (k : Nat) : t_ld P tn f (k + 1) = upd (t_ld P tn f k) (P k) (t_ld P tn f k (P k) + if k % 2 = 0 then tn else -tn) := rfl
theorem x1_turnLoads {k a1 L : Nat} {μ : Mem} {P : Nat → Nat} (tn : Int32) (ha : a1 < k) (hw : FW k P L μ) (hL : L ≤ 12) (hP : ∀ j, j < L → P j < 36) : f_X1_turnLoads k a1 36 tn μ = some (cst μ a1 (t_ld P tn (μ.1 a1) L)) := by
  refine q_loop0 (fun n i s => f_X1_turnLoads_2 k a1 36 tn n (nI i) s) L (by omega) (fun i s => s = cst μ a1 (t_ld P tn (μ.1 a1) i)) (fun z => z = some (cst μ a1 (t_ld P tn (μ.1 a1) L))) (fun n i s hi hv => Or.inr ⟨cst μ a1 (t_ld P tn (μ.1 a1) (i + 1)), rfl, ?_⟩) (fun n s hv => ?_) μ (cst_self μ a1).symm
  · have h1 := hw.2 i (by omega)
    have h2 := hP i (by omega)
    subst hv
    have r0 : (cst μ a1 (t_ld P tn (μ.1 a1) i)).1 k = μ.1 k := cst_c _ _ _ (by omega)
    have r1 : (cst μ a1 (t_ld P tn (μ.1 a1) i)).1 (k + 1) = μ.1 (k + 1) := cst_c _ _ _ (by omega)
    have r2 : (cst μ a1 (t_ld P tn (μ.1 a1) i)).1 a1 = t_ld P tn (μ.1 a1) i := cst_s _ _ _
    show g_X1_turnLoads_2 k a1 36 tn _ (nI i) _ = _
    unfold g_X1_turnLoads_2
    simp (disch := omega) only [lt_k, bnv_s, bnd_s, grd_t, q_in, q_inb, q_c, q_leT, q_leF, q_ltT, q_ltF, q_neg, q_nn, q_z, q_le0, q_b0, q_b1, nI_add, nI_0, q_off, q_self, q_oth, cst_2, st_2, ↓reduceIte, f_X8_cellAt, f_X8_roadAt, q_le1, q_nle1, q_le2, q_nle2, q_le5, q_nle5, q_le6, q_nle6, q_le8, q_nle8, q_le12, q_nle12, q_le25, q_nle25, q_le36, q_nle36, q_le60, q_nle60, q_le99, q_nle99, q_le100, q_nle100, q_le300, q_nle300, q_le640, q_nle640, q_le411, q_nle411, q_mul2, q_lmul2, q_mul3, q_lmul3, q_mul5, q_lmul5, q_mul6, q_lmul6, q_mul10, q_lmul10, q_add1, q_ladd1, q_add2, q_ladd2, q_add3, q_ladd3, q_add5, q_ladd5, q_add6, q_ladd6, q_add100, q_ladd100, q_div2, q_rem2, q_div3, q_rem3, q_div6, q_rem6, q_div10, q_rem10, r0, r1, r2, hw.1, h1, st_cst]
    by_cases q : i % 2 = 0
    · rw [q, if_pos (by decide), t_ld_succ, if_pos q]
    · rw [show i % 2 = 1 by omega, if_neg (by decide), t_ld_succ, if_neg q]
  · subst hv
    have r0 : (cst μ a1 (t_ld P tn (μ.1 a1) L)).1 k = μ.1 k := cst_c _ _ _ (by omega)
    show g_X1_turnLoads_2 k a1 36 tn _ (nI L) _ = _
    unfold g_X1_turnLoads_2
    simp (disch := omega) only [lt_k, bnv_s, bnd_s, grd_t, q_in, q_inb, q_c, q_leT, q_leF, q_ltT, q_ltF, q_neg, q_nn, q_z, q_le0, q_b0, q_b1, nI_add, nI_0, q_off, q_self, q_oth, cst_2, st_2, ↓reduceIte, f_X8_cellAt, f_X8_roadAt, q_le1, q_nle1, q_le2, q_nle2, q_le5, q_nle5, q_le6, q_nle6, q_le8, q_nle8, q_le12, q_nle12, q_le25, q_nle25, q_le36, q_nle36, q_le60, q_nle60, q_le99, q_nle99, q_le100, q_nle100, q_le300, q_nle300, q_le640, q_nle640, q_le411, q_nle411, q_mul2, q_lmul2, q_mul3, q_lmul3, q_mul5, q_lmul5, q_mul6, q_lmul6, q_mul10, q_lmul10, q_add1, q_ladd1, q_add2, q_ladd2, q_add3, q_ladd3, q_add5, q_ladd5, q_add6, q_ladd6, q_add100, q_ladd100, q_div2, q_rem2, q_div3, q_rem3, q_div6, q_rem6, q_div10, q_rem10, r0, hw.1]
