/-! THE PURE PART: totals and counts read off a plan -/
def bb (f : Nat → Int32) : Nat → Bool := fun c => decide (c < 36 ∧ f c ≠ 0)
theorem bb_eq {f g : Nat → Int32} (h : ∀ c, c < 36 → f c = g c) : bb f = bb g := by
  funext c
  unfold bb
  by_cases q : c < 36
  · rw [h c q]
  · rw [decide_eq_false (fun r => q r.1), decide_eq_false (fun r => q r.1)]
theorem x3_total {k S T : Nat} {μ : Mem} (h1 : μ.1 k 1 = nI S) (h2 : μ.1 k 2 = nI T) (hS : S ≤ 6) (hT : T ≤ 6) : f_X3_total k μ = some (i_sum (i_in S T (fun c => μ.1 (k + 2) c * μ.1 (k + 1) c)) 36) := by
  refine q_dbl (fun n => f_X3_total_4 k μ n) (fun q i s => q s (nI i)) (fun q n i j s => f_X3_total_14 k q μ n s (nI i) (nI j)) hS hT (fun c s => s = i_sum (i_in S T (fun c => μ.1 (k + 2) c * μ.1 (k + 1) c)) c) (fun z => z = some (i_sum (i_in S T (fun c => μ.1 (k + 2) c * μ.1 (k + 1) c)) 36)) ?_ ?_ ?_ ?_ ?_ 0 rfl
  · intro n i s hi hv
    show g_X3_total_4 k μ _ s (nI i) = _
    unfold g_X3_total_4
    simp (disch := omega) only [lt_k, bnv_s, bnd_s, grd_t, q_in, q_inb, q_c, q_leT, q_leF, q_ltT, q_ltF, q_neg, q_nn, q_z, q_le0, q_b0, q_b1, nI_add, nI_0, q_off, q_self, q_oth, cst_2, st_2, ↓reduceIte, f_X8_cellAt, f_X8_roadAt, q_le1, q_nle1, q_le2, q_nle2, q_le5, q_nle5, q_le6, q_nle6, q_le8, q_nle8, q_le12, q_nle12, q_le25, q_nle25, q_le36, q_nle36, q_le60, q_nle60, q_le99, q_nle99, q_le100, q_nle100, q_le300, q_nle300, q_le640, q_nle640, q_le411, q_nle411, q_mul2, q_lmul2, q_mul3, q_lmul3, q_mul5, q_lmul5, q_mul6, q_lmul6, q_mul10, q_lmul10, q_add1, q_ladd1, q_add2, q_ladd2, q_add3, q_ladd3, q_add5, q_ladd5, q_add6, q_ladd6, q_add100, q_ladd100, q_div2, q_rem2, q_div3, q_rem3, q_div6, q_rem6, q_div10, q_rem10, h1]
  · intro q n i j s hi hj hv
    right
    refine ⟨s + μ.1 (k + 2) (6 * i + j) * μ.1 (k + 1) (6 * i + j), ?_, ?_⟩
    · rw [hv]
      show _ = i_sum _ (6 * i + j) + i_in S T _ (6 * i + j)
      rw [i_in_at _ hi hj hT]
    · show g_X3_total_14 k q μ _ s (nI i) (nI j) = _
      unfold g_X3_total_14
      simp (disch := omega) only [lt_k, bnv_s, bnd_s, grd_t, q_in, q_inb, q_c, q_leT, q_leF, q_ltT, q_ltF, q_neg, q_nn, q_z, q_le0, q_b0, q_b1, nI_add, nI_0, q_off, q_self, q_oth, cst_2, st_2, ↓reduceIte, f_X8_cellAt, f_X8_roadAt, q_le1, q_nle1, q_le2, q_nle2, q_le5, q_nle5, q_le6, q_nle6, q_le8, q_nle8, q_le12, q_nle12, q_le25, q_nle25, q_le36, q_nle36, q_le60, q_nle60, q_le99, q_nle99, q_le100, q_nle100, q_le300, q_nle300, q_le640, q_nle640, q_le411, q_nle411, q_mul2, q_lmul2, q_mul3, q_lmul3, q_mul5, q_lmul5, q_mul6, q_lmul6, q_mul10, q_lmul10, q_add1, q_ladd1, q_add2, q_ladd2, q_add3, q_ladd3, q_add5, q_ladd5, q_add6, q_ladd6, q_add100, q_ladd100, q_div2, q_rem2, q_div3, q_rem3, q_div6, q_rem6, q_div10, q_rem10, h2, Nat.mul_comm i 6]
  · intro q n i s hi hv
    show g_X3_total_14 k q μ _ s (nI i) (nI T) = _
    unfold g_X3_total_14
    simp (disch := omega) only [lt_k, bnv_s, bnd_s, grd_t, q_in, q_inb, q_c, q_leT, q_leF, q_ltT, q_ltF, q_neg, q_nn, q_z, q_le0, q_b0, q_b1, nI_add, nI_0, q_off, q_self, q_oth, cst_2, st_2, ↓reduceIte, f_X8_cellAt, f_X8_roadAt, q_le1, q_nle1, q_le2, q_nle2, q_le5, q_nle5, q_le6, q_nle6, q_le8, q_nle8, q_le12, q_nle12, q_le25, q_nle25, q_le36, q_nle36, q_le60, q_nle60, q_le99, q_nle99, q_le100, q_nle100, q_le300, q_nle300, q_le640, q_nle640, q_le411, q_nle411, q_mul2, q_lmul2, q_mul3, q_lmul3, q_mul5, q_lmul5, q_mul6, q_lmul6, q_mul10, q_lmul10, q_add1, q_ladd1, q_add2, q_ladd2, q_add3, q_ladd3, q_add5, q_ladd5, q_add6, q_ladd6, q_add100, q_ladd100, q_div2, q_rem2, q_div3, q_rem3, q_div6, q_rem6, q_div10, q_rem10, h2]
  · intro i j s hi hj hT2 hv
    rw [hv]
    exact (i_sum_skip (i_in_off _ hj hT2)).symm
  · intro n s hv
    show g_X3_total_4 k μ _ s (nI S) = _
    unfold g_X3_total_4
    simp (disch := omega) only [lt_k, bnv_s, bnd_s, grd_t, q_in, q_inb, q_c, q_leT, q_leF, q_ltT, q_ltF, q_neg, q_nn, q_z, q_le0, q_b0, q_b1, nI_add, nI_0, q_off, q_self, q_oth, cst_2, st_2, ↓reduceIte, f_X8_cellAt, f_X8_roadAt, q_le1, q_nle1, q_le2, q_nle2, q_le5, q_nle5, q_le6, q_nle6, q_le8, q_nle8, q_le12, q_nle12, q_le25, q_nle25, q_le36, q_nle36, q_le60, q_nle60, q_le99, q_nle99, q_le100, q_nle100, q_le300, q_nle300, q_le640, q_nle640, q_le411, q_nle411, q_mul2, q_lmul2, q_mul3, q_lmul3, q_mul5, q_lmul5, q_mul6, q_lmul6, q_mul10, q_lmul10, q_add1, q_ladd1, q_add2, q_ladd2, q_add3, q_ladd3, q_add5, q_ladd5, q_add6, q_ladd6, q_add100, q_ladd100, q_div2, q_rem2, q_div3, q_rem3, q_div6, q_rem6, q_div10, q_rem10, h1]
    rw [hv, i_in_tail _ hS]
theorem x3_allLoads {k S T : Nat} {μ : Mem} (h1 : μ.1 k 1 = nI S) (h2 : μ.1 k 2 = nI T) (hS : S ≤ 6) (hT : T ≤ 6) : f_X3_allLoads k μ = some (i_sum (i_in S T (fun c => μ.1 (k + 2) c)) 36) := by
  refine q_dbl (fun n => f_X3_allLoads_4 k μ n) (fun q i s => q s (nI i)) (fun q n i j s => f_X3_allLoads_14 k q μ n s (nI i) (nI j)) hS hT (fun c s => s = i_sum (i_in S T (fun c => μ.1 (k + 2) c)) c) (fun z => z = some (i_sum (i_in S T (fun c => μ.1 (k + 2) c)) 36)) ?_ ?_ ?_ ?_ ?_ 0 rfl
  · intro n i s hi hv
    show g_X3_allLoads_4 k μ _ s (nI i) = _
    unfold g_X3_allLoads_4
    simp (disch := omega) only [lt_k, bnv_s, bnd_s, grd_t, q_in, q_inb, q_c, q_leT, q_leF, q_ltT, q_ltF, q_neg, q_nn, q_z, q_le0, q_b0, q_b1, nI_add, nI_0, q_off, q_self, q_oth, cst_2, st_2, ↓reduceIte, f_X8_cellAt, f_X8_roadAt, q_le1, q_nle1, q_le2, q_nle2, q_le5, q_nle5, q_le6, q_nle6, q_le8, q_nle8, q_le12, q_nle12, q_le25, q_nle25, q_le36, q_nle36, q_le60, q_nle60, q_le99, q_nle99, q_le100, q_nle100, q_le300, q_nle300, q_le640, q_nle640, q_le411, q_nle411, q_mul2, q_lmul2, q_mul3, q_lmul3, q_mul5, q_lmul5, q_mul6, q_lmul6, q_mul10, q_lmul10, q_add1, q_ladd1, q_add2, q_ladd2, q_add3, q_ladd3, q_add5, q_ladd5, q_add6, q_ladd6, q_add100, q_ladd100, q_div2, q_rem2, q_div3, q_rem3, q_div6, q_rem6, q_div10, q_rem10, h1]
  · intro q n i j s hi hj hv
    right
    refine ⟨s + (fun c => μ.1 (k + 2) c) (6 * i + j), ?_, ?_⟩
    · rw [hv]
      show _ = i_sum _ (6 * i + j) + i_in S T _ (6 * i + j)
      rw [i_in_at _ hi hj hT]
    · show g_X3_allLoads_14 k q μ _ s (nI i) (nI j) = _
      unfold g_X3_allLoads_14
      simp (disch := omega) only [lt_k, bnv_s, bnd_s, grd_t, q_in, q_inb, q_c, q_leT, q_leF, q_ltT, q_ltF, q_neg, q_nn, q_z, q_le0, q_b0, q_b1, nI_add, nI_0, q_off, q_self, q_oth, cst_2, st_2, ↓reduceIte, f_X8_cellAt, f_X8_roadAt, q_le1, q_nle1, q_le2, q_nle2, q_le5, q_nle5, q_le6, q_nle6, q_le8, q_nle8, q_le12, q_nle12, q_le25, q_nle25, q_le36, q_nle36, q_le60, q_nle60, q_le99, q_nle99, q_le100, q_nle100, q_le300, q_nle300, q_le640, q_nle640, q_le411, q_nle411, q_mul2, q_lmul2, q_mul3, q_lmul3, q_mul5, q_lmul5, q_mul6, q_lmul6, q_mul10, q_lmul10, q_add1, q_ladd1, q_add2, q_ladd2, q_add3, q_ladd3, q_add5, q_ladd5, q_add6, q_ladd6, q_add100, q_ladd100, q_div2, q_rem2, q_div3, q_rem3, q_div6, q_rem6, q_div10, q_rem10, h2, Nat.mul_comm i 6]
  · intro q n i s hi hv
    show g_X3_allLoads_14 k q μ _ s (nI i) (nI T) = _
    unfold g_X3_allLoads_14
    simp (disch := omega) only [lt_k, bnv_s, bnd_s, grd_t, q_in, q_inb, q_c, q_leT, q_leF, q_ltT, q_ltF, q_neg, q_nn, q_z, q_le0, q_b0, q_b1, nI_add, nI_0, q_off, q_self, q_oth, cst_2, st_2, ↓reduceIte, f_X8_cellAt, f_X8_roadAt, q_le1, q_nle1, q_le2, q_nle2, q_le5, q_nle5, q_le6, q_nle6, q_le8, q_nle8, q_le12, q_nle12, q_le25, q_nle25, q_le36, q_nle36, q_le60, q_nle60, q_le99, q_nle99, q_le100, q_nle100, q_le300, q_nle300, q_le640, q_nle640, q_le411, q_nle411, q_mul2, q_lmul2, q_mul3, q_lmul3, q_mul5, q_lmul5, q_mul6, q_lmul6, q_mul10, q_lmul10, q_add1, q_ladd1, q_add2, q_ladd2, q_add3, q_ladd3, q_add5, q_ladd5, q_add6, q_ladd6, q_add100, q_ladd100, q_div2, q_rem2, q_div3, q_rem3, q_div6, q_rem6, q_div10, q_rem10, h2]
  · intro i j s hi hj hT2 hv
    rw [hv]
    exact (i_sum_skip (i_in_off _ hj hT2)).symm
  · intro n s hv
    show g_X3_allLoads_4 k μ _ s (nI S) = _
    unfold g_X3_allLoads_4
    simp (disch := omega) only [lt_k, bnv_s, bnd_s, grd_t, q_in, q_inb, q_c, q_leT, q_leF, q_ltT, q_ltF, q_neg, q_nn, q_z, q_le0, q_b0, q_b1, nI_add, nI_0, q_off, q_self, q_oth, cst_2, st_2, ↓reduceIte, f_X8_cellAt, f_X8_roadAt, q_le1, q_nle1, q_le2, q_nle2, q_le5, q_nle5, q_le6, q_nle6, q_le8, q_nle8, q_le12, q_nle12, q_le25, q_nle25, q_le36, q_nle36, q_le60, q_nle60, q_le99, q_nle99, q_le100, q_nle100, q_le300, q_nle300, q_le640, q_nle640, q_le411, q_nle411, q_mul2, q_lmul2, q_mul3, q_lmul3, q_mul5, q_lmul5, q_mul6, q_lmul6, q_mul10, q_lmul10, q_add1, q_ladd1, q_add2, q_ladd2, q_add3, q_ladd3, q_add5, q_ladd5, q_add6, q_ladd6, q_add100, q_ladd100, q_div2, q_rem2, q_div3, q_rem3, q_div6, q_rem6, q_div10, q_rem10, h1]
    rw [hv, i_in_tail _ hS]
theorem x3_keptZeros {k S T : Nat} {μ : Mem} (h1 : μ.1 k 1 = nI S) (h2 : μ.1 k 2 = nI T) (hS : S ≤ 6) (hT : T ≤ 6) : f_X3_keptZeros k μ = some (i_sum (i_in S T (fun c => if μ.1 (k + 3) c ≠ 0 ∧ μ.1 (k + 2) c = 0 then 1 else 0)) 36) := by
  refine q_dbl (fun n => f_X3_keptZeros_4 k μ n) (fun q i s => q s (nI i)) (fun q n i j s => f_X3_keptZeros_14 k q μ n s (nI i) (nI j)) hS hT (fun c s => s = i_sum (i_in S T (fun c => if μ.1 (k + 3) c ≠ 0 ∧ μ.1 (k + 2) c = 0 then 1 else 0)) c) (fun z => z = some (i_sum (i_in S T (fun c => if μ.1 (k + 3) c ≠ 0 ∧ μ.1 (k + 2) c = 0 then 1 else 0)) 36)) ?_ ?_ ?_ ?_ ?_ 0 rfl
  · intro n i s hi hv
    show g_X3_keptZeros_4 k μ _ s (nI i) = _
    unfold g_X3_keptZeros_4
    simp (disch := omega) only [lt_k, bnv_s, bnd_s, grd_t, q_in, q_inb, q_c, q_leT, q_leF, q_ltT, q_ltF, q_neg, q_nn, q_z, q_le0, q_b0, q_b1, nI_add, nI_0, q_off, q_self, q_oth, cst_2, st_2, ↓reduceIte, f_X8_cellAt, f_X8_roadAt, q_le1, q_nle1, q_le2, q_nle2, q_le5, q_nle5, q_le6, q_nle6, q_le8, q_nle8, q_le12, q_nle12, q_le25, q_nle25, q_le36, q_nle36, q_le60, q_nle60, q_le99, q_nle99, q_le100, q_nle100, q_le300, q_nle300, q_le640, q_nle640, q_le411, q_nle411, q_mul2, q_lmul2, q_mul3, q_lmul3, q_mul5, q_lmul5, q_mul6, q_lmul6, q_mul10, q_lmul10, q_add1, q_ladd1, q_add2, q_ladd2, q_add3, q_ladd3, q_add5, q_ladd5, q_add6, q_ladd6, q_add100, q_ladd100, q_div2, q_rem2, q_div3, q_rem3, q_div6, q_rem6, q_div10, q_rem10, h1]
  · intro q n i j s hi hj hv
    right
    refine ⟨s + (fun c => if μ.1 (k + 3) c ≠ 0 ∧ μ.1 (k + 2) c = 0 then 1 else 0) (6 * i + j), ?_, ?_⟩
    · rw [hv]
      show _ = i_sum _ (6 * i + j) + i_in S T _ (6 * i + j)
      rw [i_in_at _ hi hj hT]
    · show g_X3_keptZeros_14 k q μ _ s (nI i) (nI j) = _
      unfold g_X3_keptZeros_14
      simp (disch := omega) only [lt_k, bnv_s, bnd_s, grd_t, q_in, q_inb, q_c, q_leT, q_leF, q_ltT, q_ltF, q_neg, q_nn, q_z, q_le0, q_b0, q_b1, nI_add, nI_0, q_off, q_self, q_oth, cst_2, st_2, ↓reduceIte, f_X8_cellAt, f_X8_roadAt, q_le1, q_nle1, q_le2, q_nle2, q_le5, q_nle5, q_le6, q_nle6, q_le8, q_nle8, q_le12, q_nle12, q_le25, q_nle25, q_le36, q_nle36, q_le60, q_nle60, q_le99, q_nle99, q_le100, q_nle100, q_le300, q_nle300, q_le640, q_nle640, q_le411, q_nle411, q_mul2, q_lmul2, q_mul3, q_lmul3, q_mul5, q_lmul5, q_mul6, q_lmul6, q_mul10, q_lmul10, q_add1, q_ladd1, q_add2, q_ladd2, q_add3, q_ladd3, q_add5, q_ladd5, q_add6, q_ladd6, q_add100, q_ladd100, q_div2, q_rem2, q_div3, q_rem3, q_div6, q_rem6, q_div10, q_rem10, h2, Nat.mul_comm i 6]
      by_cases e1 : μ.1 (k + 3) (6 * i + j) = 0
      · rw [if_pos e1, if_neg (fun q => q.1 e1)]
      · rw [if_neg e1]
        by_cases e2 : μ.1 (k + 2) (6 * i + j) = 0
        · rw [if_pos e2, if_pos ⟨e1, e2⟩]
        · rw [if_neg e2, if_neg (fun q => e2 q.2)]
  · intro q n i s hi hv
    show g_X3_keptZeros_14 k q μ _ s (nI i) (nI T) = _
    unfold g_X3_keptZeros_14
    simp (disch := omega) only [lt_k, bnv_s, bnd_s, grd_t, q_in, q_inb, q_c, q_leT, q_leF, q_ltT, q_ltF, q_neg, q_nn, q_z, q_le0, q_b0, q_b1, nI_add, nI_0, q_off, q_self, q_oth, cst_2, st_2, ↓reduceIte, f_X8_cellAt, f_X8_roadAt, q_le1, q_nle1, q_le2, q_nle2, q_le5, q_nle5, q_le6, q_nle6, q_le8, q_nle8, q_le12, q_nle12, q_le25, q_nle25, q_le36, q_nle36, q_le60, q_nle60, q_le99, q_nle99, q_le100, q_nle100, q_le300, q_nle300, q_le640, q_nle640, q_le411, q_nle411, q_mul2, q_lmul2, q_mul3, q_lmul3, q_mul5, q_lmul5, q_mul6, q_lmul6, q_mul10, q_lmul10, q_add1, q_ladd1, q_add2, q_ladd2, q_add3, q_ladd3, q_add5, q_ladd5, q_add6, q_ladd6, q_add100, q_ladd100, q_div2, q_rem2, q_div3, q_rem3, q_div6, q_rem6, q_div10, q_rem10, h2]
  · intro i j s hi hj hT2 hv
    rw [hv]
    exact (i_sum_skip (i_in_off _ hj hT2)).symm
  · intro n s hv
    show g_X3_keptZeros_4 k μ _ s (nI S) = _
    unfold g_X3_keptZeros_4
    simp (disch := omega) only [lt_k, bnv_s, bnd_s, grd_t, q_in, q_inb, q_c, q_leT, q_leF, q_ltT, q_ltF, q_neg, q_nn, q_z, q_le0, q_b0, q_b1, nI_add, nI_0, q_off, q_self, q_oth, cst_2, st_2, ↓reduceIte, f_X8_cellAt, f_X8_roadAt, q_le1, q_nle1, q_le2, q_nle2, q_le5, q_nle5, q_le6, q_nle6, q_le8, q_nle8, q_le12, q_nle12, q_le25, q_nle25, q_le36, q_nle36, q_le60, q_nle60, q_le99, q_nle99, q_le100, q_nle100, q_le300, q_nle300, q_le640, q_nle640, q_le411, q_nle411, q_mul2, q_lmul2, q_mul3, q_lmul3, q_mul5, q_lmul5, q_mul6, q_lmul6, q_mul10, q_lmul10, q_add1, q_ladd1, q_add2, q_ladd2, q_add3, q_ladd3, q_add5, q_ladd5, q_add6, q_ladd6, q_add100, q_ladd100, q_div2, q_rem2, q_div3, q_rem3, q_div6, q_rem6, q_div10, q_rem10, h1]
    rw [hv, i_in_tail _ hS]
theorem x3_surplus {k i j : Nat} (μ : Mem) (hi : i < 6) (hj : j < 6) : f_X3_surplusAt k (nI i) (nI j) μ = some (μ.1 (k + 1) (6 * i + j) - μ.1 (k + 4) i - μ.1 (k + 5) j) := by
  unfold f_X3_surplusAt
  simp (disch := omega) only [lt_k, bnv_s, bnd_s, grd_t, q_in, q_inb, q_c, q_leT, q_leF, q_ltT, q_ltF, q_neg, q_nn, q_z, q_le0, q_b0, q_b1, nI_add, nI_0, q_off, q_self, q_oth, cst_2, st_2, ↓reduceIte, f_X8_cellAt, f_X8_roadAt, q_le1, q_nle1, q_le2, q_nle2, q_le5, q_nle5, q_le6, q_nle6, q_le8, q_nle8, q_le12, q_nle12, q_le25, q_nle25, q_le36, q_nle36, q_le60, q_nle60, q_le99, q_nle99, q_le100, q_nle100, q_le300, q_nle300, q_le640, q_nle640, q_le411, q_nle411, q_mul2, q_lmul2, q_mul3, q_lmul3, q_mul5, q_lmul5, q_mul6, q_lmul6, q_mul10, q_lmul10, q_add1, q_ladd1, q_add2, q_ladd2, q_add3, q_ladd3, q_add5, q_ladd5, q_add6, q_ladd6, q_add100, q_ladd100, q_div2, q_rem2, q_div3, q_rem3, q_div6, q_rem6, q_div10, q_rem10, Nat.mul_comm i 6]
/-- the surplus by the class's rows -/
def xs (k : Nat) (μ : Mem) (c : Nat) : Int32 := μ.1 (k + 1) c - μ.1 (k + 4) (c / 6) - μ.1 (k + 5) (c % 6)
theorem xs_at {k i j : Nat} (μ : Mem) (hj : j < 6) : μ.1 (k + 1) (6 * i + j) - μ.1 (k + 4) i - μ.1 (k + 5) j = xs k μ (6 * i + j) := by
  unfold xs
  rw [show (6 * i + j) / 6 = i by omega, show (6 * i + j) % 6 = j by omega]
theorem j6_cmp (x : Int32) (μ : Mem) : f_J6_compare_7cf53 x 0 μ = some (if x = 0 then 0 else if x < 0 then -1 else 1) := by
  unfold f_J6_compare_7cf53
  by_cases h : (0 : Int32) ≤ x
  · rw [if_pos h]
    by_cases e : x = 0
    · rw [if_pos e, if_pos e]
    · rw [if_neg e, if_neg e, if_neg (by rw [i_lt]; rw [i_le] at h; omega)]
  · rw [if_neg h]
    have h2 : x < 0 := by rw [i_le] at h; rw [i_lt]; omega
    rw [if_neg (fun e => by rw [e] at h; exact h (by decide)), if_pos h2]
theorem j6_m1 {x : Int32} : (if x = 0 then (0 : Int32) else if x < 0 then -1 else 1) = -1 ↔ x < 0 := by
  by_cases e : x = 0
  · rw [if_pos e, e]; decide
  · rw [if_neg e]
    by_cases h : x < 0
    · rw [if_pos h]; exact ⟨fun _ => h, fun _ => rfl⟩
    · rw [if_neg h]; exact ⟨fun q => absurd q (by decide), fun q => absurd q h⟩
theorem j6_00 {x : Int32} : (if x = 0 then (0 : Int32) else if x < 0 then -1 else 1) = 0 ↔ x = 0 := by
  by_cases e : x = 0
  · rw [if_pos e]; exact ⟨fun _ => e, fun _ => rfl⟩
  · rw [if_neg e]
    by_cases h : x < 0
    · rw [if_pos h]; exact ⟨fun q => absurd q (by decide), fun q => absurd q e⟩
    · rw [if_neg h]; exact ⟨fun q => absurd q (by decide), fun q => absurd q e⟩
theorem x3_free0 {k S T : Nat} {μ : Mem} (h1 : μ.1 k 1 = nI S) (h2 : μ.1 k 2 = nI T) (hS : S ≤ 6) (hT : T ≤ 6) : f_X3_freeCells k 0 μ = some (i_sum (i_in S T (fun c => if xs k μ c = 0 ∧ μ.1 (k + 3) c = 0 then 1 else 0)) 36) := by
  refine q_dbl (fun n => f_X3_freeCells_4 k 0 μ n) (fun q i s => q s (nI i)) (fun q n i j s => f_X3_freeCells_15 k 0 q μ n s (nI i) (nI j)) hS hT (fun c s => s = i_sum (i_in S T (fun c => if xs k μ c = 0 ∧ μ.1 (k + 3) c = 0 then 1 else 0)) c) (fun z => z = some (i_sum (i_in S T (fun c => if xs k μ c = 0 ∧ μ.1 (k + 3) c = 0 then 1 else 0)) 36)) ?_ ?_ ?_ ?_ ?_ 0 rfl
  · intro n i s hi hv
    show g_X3_freeCells_4 k 0 μ _ s (nI i) = _
    unfold g_X3_freeCells_4
    simp (disch := omega) only [lt_k, bnv_s, bnd_s, grd_t, q_in, q_inb, q_c, q_leT, q_leF, q_ltT, q_ltF, q_neg, q_nn, q_z, q_le0, q_b0, q_b1, nI_add, nI_0, q_off, q_self, q_oth, cst_2, st_2, ↓reduceIte, f_X8_cellAt, f_X8_roadAt, q_le1, q_nle1, q_le2, q_nle2, q_le5, q_nle5, q_le6, q_nle6, q_le8, q_nle8, q_le12, q_nle12, q_le25, q_nle25, q_le36, q_nle36, q_le60, q_nle60, q_le99, q_nle99, q_le100, q_nle100, q_le300, q_nle300, q_le640, q_nle640, q_le411, q_nle411, q_mul2, q_lmul2, q_mul3, q_lmul3, q_mul5, q_lmul5, q_mul6, q_lmul6, q_mul10, q_lmul10, q_add1, q_ladd1, q_add2, q_ladd2, q_add3, q_ladd3, q_add5, q_ladd5, q_add6, q_ladd6, q_add100, q_ladd100, q_div2, q_rem2, q_div3, q_rem3, q_div6, q_rem6, q_div10, q_rem10, h1]
  · intro q n i j s hi hj hv
    right
    refine ⟨s + (fun c => if xs k μ c = 0 ∧ μ.1 (k + 3) c = 0 then 1 else 0) (6 * i + j), ?_, ?_⟩
    · rw [hv]
      show _ = i_sum _ (6 * i + j) + i_in S T _ (6 * i + j)
      rw [i_in_at _ hi hj hT]
    · show g_X3_freeCells_15 k 0 q μ _ s (nI i) (nI j) = _
      unfold g_X3_freeCells_15
      simp (disch := omega) only [lt_k, bnv_s, bnd_s, grd_t, q_in, q_inb, q_c, q_leT, q_leF, q_ltT, q_ltF, q_neg, q_nn, q_z, q_le0, q_b0, q_b1, nI_add, nI_0, q_off, q_self, q_oth, cst_2, st_2, ↓reduceIte, f_X8_cellAt, f_X8_roadAt, q_le1, q_nle1, q_le2, q_nle2, q_le5, q_nle5, q_le6, q_nle6, q_le8, q_nle8, q_le12, q_nle12, q_le25, q_nle25, q_le36, q_nle36, q_le60, q_nle60, q_le99, q_nle99, q_le100, q_nle100, q_le300, q_nle300, q_le640, q_nle640, q_le411, q_nle411, q_mul2, q_lmul2, q_mul3, q_lmul3, q_mul5, q_lmul5, q_mul6, q_lmul6, q_mul10, q_lmul10, q_add1, q_ladd1, q_add2, q_ladd2, q_add3, q_ladd3, q_add5, q_ladd5, q_add6, q_ladd6, q_add100, q_ladd100, q_div2, q_rem2, q_div3, q_rem3, q_div6, q_rem6, q_div10, q_rem10, h2, Nat.mul_comm i 6, x3_surplus, xs_at, j6_cmp]
      by_cases e1 : xs k μ (6 * i + j) = 0
      · rw [if_pos (j6_00.mpr e1)]
        unfold f_X3_freeCells_44
        simp (disch := omega) only [lt_k, bnv_s, bnd_s, grd_t, q_in, q_inb, q_c, q_leT, q_leF, q_ltT, q_ltF, q_neg, q_nn, q_z, q_le0, q_b0, q_b1, nI_add, nI_0, q_off, q_self, q_oth, cst_2, st_2, ↓reduceIte, f_X8_cellAt, f_X8_roadAt, q_le1, q_nle1, q_le2, q_nle2, q_le5, q_nle5, q_le6, q_nle6, q_le8, q_nle8, q_le12, q_nle12, q_le25, q_nle25, q_le36, q_nle36, q_le60, q_nle60, q_le99, q_nle99, q_le100, q_nle100, q_le300, q_nle300, q_le640, q_nle640, q_le411, q_nle411, q_mul2, q_lmul2, q_mul3, q_lmul3, q_mul5, q_lmul5, q_mul6, q_lmul6, q_mul10, q_lmul10, q_add1, q_ladd1, q_add2, q_ladd2, q_add3, q_ladd3, q_add5, q_ladd5, q_add6, q_ladd6, q_add100, q_ladd100, q_div2, q_rem2, q_div3, q_rem3, q_div6, q_rem6, q_div10, q_rem10, Nat.mul_comm i 6]
        rw [if_neg (by decide)]
        by_cases e2 : μ.1 (k + 3) (6 * i + j) = 0
        · rw [if_pos e2, if_pos ⟨e1, e2⟩]
        · rw [if_neg e2, if_neg (fun q => e2 q.2)]
      · rw [if_neg (fun q => e1 (j6_00.mp q))]
        unfold f_X3_freeCells_44
        simp (disch := omega) only [lt_k, bnv_s, bnd_s, grd_t, q_in, q_inb, q_c, q_leT, q_leF, q_ltT, q_ltF, q_neg, q_nn, q_z, q_le0, q_b0, q_b1, nI_add, nI_0, q_off, q_self, q_oth, cst_2, st_2, ↓reduceIte, f_X8_cellAt, f_X8_roadAt, q_le1, q_nle1, q_le2, q_nle2, q_le5, q_nle5, q_le6, q_nle6, q_le8, q_nle8, q_le12, q_nle12, q_le25, q_nle25, q_le36, q_nle36, q_le60, q_nle60, q_le99, q_nle99, q_le100, q_nle100, q_le300, q_nle300, q_le640, q_nle640, q_le411, q_nle411, q_mul2, q_lmul2, q_mul3, q_lmul3, q_mul5, q_lmul5, q_mul6, q_lmul6, q_mul10, q_lmul10, q_add1, q_ladd1, q_add2, q_ladd2, q_add3, q_ladd3, q_add5, q_ladd5, q_add6, q_ladd6, q_add100, q_ladd100, q_div2, q_rem2, q_div3, q_rem3, q_div6, q_rem6, q_div10, q_rem10, Nat.mul_comm i 6]
        rw [if_neg (fun q => e1 q.1)]
  · intro q n i s hi hv
    show g_X3_freeCells_15 k 0 q μ _ s (nI i) (nI T) = _
    unfold g_X3_freeCells_15
    simp (disch := omega) only [lt_k, bnv_s, bnd_s, grd_t, q_in, q_inb, q_c, q_leT, q_leF, q_ltT, q_ltF, q_neg, q_nn, q_z, q_le0, q_b0, q_b1, nI_add, nI_0, q_off, q_self, q_oth, cst_2, st_2, ↓reduceIte, f_X8_cellAt, f_X8_roadAt, q_le1, q_nle1, q_le2, q_nle2, q_le5, q_nle5, q_le6, q_nle6, q_le8, q_nle8, q_le12, q_nle12, q_le25, q_nle25, q_le36, q_nle36, q_le60, q_nle60, q_le99, q_nle99, q_le100, q_nle100, q_le300, q_nle300, q_le640, q_nle640, q_le411, q_nle411, q_mul2, q_lmul2, q_mul3, q_lmul3, q_mul5, q_lmul5, q_mul6, q_lmul6, q_mul10, q_lmul10, q_add1, q_ladd1, q_add2, q_ladd2, q_add3, q_ladd3, q_add5, q_ladd5, q_add6, q_ladd6, q_add100, q_ladd100, q_div2, q_rem2, q_div3, q_rem3, q_div6, q_rem6, q_div10, q_rem10, h2]
  · intro i j s hi hj hT2 hv
    rw [hv]
    exact (i_sum_skip (i_in_off _ hj hT2)).symm
  · intro n s hv
    show g_X3_freeCells_4 k 0 μ _ s (nI S) = _
    unfold g_X3_freeCells_4
    simp (disch := omega) only [lt_k, bnv_s, bnd_s, grd_t, q_in, q_inb, q_c, q_leT, q_leF, q_ltT, q_ltF, q_neg, q_nn, q_z, q_le0, q_b0, q_b1, nI_add, nI_0, q_off, q_self, q_oth, cst_2, st_2, ↓reduceIte, f_X8_cellAt, f_X8_roadAt, q_le1, q_nle1, q_le2, q_nle2, q_le5, q_nle5, q_le6, q_nle6, q_le8, q_nle8, q_le12, q_nle12, q_le25, q_nle25, q_le36, q_nle36, q_le60, q_nle60, q_le99, q_nle99, q_le100, q_nle100, q_le300, q_nle300, q_le640, q_nle640, q_le411, q_nle411, q_mul2, q_lmul2, q_mul3, q_lmul3, q_mul5, q_lmul5, q_mul6, q_lmul6, q_mul10, q_lmul10, q_add1, q_ladd1, q_add2, q_ladd2, q_add3, q_ladd3, q_add5, q_ladd5, q_add6, q_ladd6, q_add100, q_ladd100, q_div2, q_rem2, q_div3, q_rem3, q_div6, q_rem6, q_div10, q_rem10, h1]
    rw [hv, i_in_tail _ hS]
theorem x3_free1 {k S T : Nat} {μ : Mem} (h1 : μ.1 k 1 = nI S) (h2 : μ.1 k 2 = nI T) (hS : S ≤ 6) (hT : T ≤ 6) : f_X3_freeCells k (-1) μ = some (i_sum (i_in S T (fun c => if xs k μ c < 0 ∧ μ.1 (k + 3) c = 0 then 1 else 0)) 36) := by
  refine q_dbl (fun n => f_X3_freeCells_4 k (-1) μ n) (fun q i s => q s (nI i)) (fun q n i j s => f_X3_freeCells_15 k (-1) q μ n s (nI i) (nI j)) hS hT (fun c s => s = i_sum (i_in S T (fun c => if xs k μ c < 0 ∧ μ.1 (k + 3) c = 0 then 1 else 0)) c) (fun z => z = some (i_sum (i_in S T (fun c => if xs k μ c < 0 ∧ μ.1 (k + 3) c = 0 then 1 else 0)) 36)) ?_ ?_ ?_ ?_ ?_ 0 rfl
  · intro n i s hi hv
    show g_X3_freeCells_4 k (-1) μ _ s (nI i) = _
    unfold g_X3_freeCells_4
    simp (disch := omega) only [lt_k, bnv_s, bnd_s, grd_t, q_in, q_inb, q_c, q_leT, q_leF, q_ltT, q_ltF, q_neg, q_nn, q_z, q_le0, q_b0, q_b1, nI_add, nI_0, q_off, q_self, q_oth, cst_2, st_2, ↓reduceIte, f_X8_cellAt, f_X8_roadAt, q_le1, q_nle1, q_le2, q_nle2, q_le5, q_nle5, q_le6, q_nle6, q_le8, q_nle8, q_le12, q_nle12, q_le25, q_nle25, q_le36, q_nle36, q_le60, q_nle60, q_le99, q_nle99, q_le100, q_nle100, q_le300, q_nle300, q_le640, q_nle640, q_le411, q_nle411, q_mul2, q_lmul2, q_mul3, q_lmul3, q_mul5, q_lmul5, q_mul6, q_lmul6, q_mul10, q_lmul10, q_add1, q_ladd1, q_add2, q_ladd2, q_add3, q_ladd3, q_add5, q_ladd5, q_add6, q_ladd6, q_add100, q_ladd100, q_div2, q_rem2, q_div3, q_rem3, q_div6, q_rem6, q_div10, q_rem10, h1]
  · intro q n i j s hi hj hv
    right
    refine ⟨s + (fun c => if xs k μ c < 0 ∧ μ.1 (k + 3) c = 0 then 1 else 0) (6 * i + j), ?_, ?_⟩
    · rw [hv]
      show _ = i_sum _ (6 * i + j) + i_in S T _ (6 * i + j)
      rw [i_in_at _ hi hj hT]
    · show g_X3_freeCells_15 k (-1) q μ _ s (nI i) (nI j) = _
      unfold g_X3_freeCells_15
      simp (disch := omega) only [lt_k, bnv_s, bnd_s, grd_t, q_in, q_inb, q_c, q_leT, q_leF, q_ltT, q_ltF, q_neg, q_nn, q_z, q_le0, q_b0, q_b1, nI_add, nI_0, q_off, q_self, q_oth, cst_2, st_2, ↓reduceIte, f_X8_cellAt, f_X8_roadAt, q_le1, q_nle1, q_le2, q_nle2, q_le5, q_nle5, q_le6, q_nle6, q_le8, q_nle8, q_le12, q_nle12, q_le25, q_nle25, q_le36, q_nle36, q_le60, q_nle60, q_le99, q_nle99, q_le100, q_nle100, q_le300, q_nle300, q_le640, q_nle640, q_le411, q_nle411, q_mul2, q_lmul2, q_mul3, q_lmul3, q_mul5, q_lmul5, q_mul6, q_lmul6, q_mul10, q_lmul10, q_add1, q_ladd1, q_add2, q_ladd2, q_add3, q_ladd3, q_add5, q_ladd5, q_add6, q_ladd6, q_add100, q_ladd100, q_div2, q_rem2, q_div3, q_rem3, q_div6, q_rem6, q_div10, q_rem10, h2, Nat.mul_comm i 6, x3_surplus, xs_at, j6_cmp]
      by_cases e1 : xs k μ (6 * i + j) < 0
      · rw [if_pos (j6_m1.mpr e1)]
        unfold f_X3_freeCells_44
        simp (disch := omega) only [lt_k, bnv_s, bnd_s, grd_t, q_in, q_inb, q_c, q_leT, q_leF, q_ltT, q_ltF, q_neg, q_nn, q_z, q_le0, q_b0, q_b1, nI_add, nI_0, q_off, q_self, q_oth, cst_2, st_2, ↓reduceIte, f_X8_cellAt, f_X8_roadAt, q_le1, q_nle1, q_le2, q_nle2, q_le5, q_nle5, q_le6, q_nle6, q_le8, q_nle8, q_le12, q_nle12, q_le25, q_nle25, q_le36, q_nle36, q_le60, q_nle60, q_le99, q_nle99, q_le100, q_nle100, q_le300, q_nle300, q_le640, q_nle640, q_le411, q_nle411, q_mul2, q_lmul2, q_mul3, q_lmul3, q_mul5, q_lmul5, q_mul6, q_lmul6, q_mul10, q_lmul10, q_add1, q_ladd1, q_add2, q_ladd2, q_add3, q_ladd3, q_add5, q_ladd5, q_add6, q_ladd6, q_add100, q_ladd100, q_div2, q_rem2, q_div3, q_rem3, q_div6, q_rem6, q_div10, q_rem10, Nat.mul_comm i 6]
        rw [if_neg (by decide)]
        by_cases e2 : μ.1 (k + 3) (6 * i + j) = 0
        · rw [if_pos e2, if_pos ⟨e1, e2⟩]
        · rw [if_neg e2, if_neg (fun q => e2 q.2)]
      · rw [if_neg (fun q => e1 (j6_m1.mp q))]
        unfold f_X3_freeCells_44
        simp (disch := omega) only [lt_k, bnv_s, bnd_s, grd_t, q_in, q_inb, q_c, q_leT, q_leF, q_ltT, q_ltF, q_neg, q_nn, q_z, q_le0, q_b0, q_b1, nI_add, nI_0, q_off, q_self, q_oth, cst_2, st_2, ↓reduceIte, f_X8_cellAt, f_X8_roadAt, q_le1, q_nle1, q_le2, q_nle2, q_le5, q_nle5, q_le6, q_nle6, q_le8, q_nle8, q_le12, q_nle12, q_le25, q_nle25, q_le36, q_nle36, q_le60, q_nle60, q_le99, q_nle99, q_le100, q_nle100, q_le300, q_nle300, q_le640, q_nle640, q_le411, q_nle411, q_mul2, q_lmul2, q_mul3, q_lmul3, q_mul5, q_lmul5, q_mul6, q_lmul6, q_mul10, q_lmul10, q_add1, q_ladd1, q_add2, q_ladd2, q_add3, q_ladd3, q_add5, q_ladd5, q_add6, q_ladd6, q_add100, q_ladd100, q_div2, q_rem2, q_div3, q_rem3, q_div6, q_rem6, q_div10, q_rem10, Nat.mul_comm i 6]
        rw [if_neg (fun q => e1 q.1)]
  · intro q n i s hi hv
    show g_X3_freeCells_15 k (-1) q μ _ s (nI i) (nI T) = _
    unfold g_X3_freeCells_15
    simp (disch := omega) only [lt_k, bnv_s, bnd_s, grd_t, q_in, q_inb, q_c, q_leT, q_leF, q_ltT, q_ltF, q_neg, q_nn, q_z, q_le0, q_b0, q_b1, nI_add, nI_0, q_off, q_self, q_oth, cst_2, st_2, ↓reduceIte, f_X8_cellAt, f_X8_roadAt, q_le1, q_nle1, q_le2, q_nle2, q_le5, q_nle5, q_le6, q_nle6, q_le8, q_nle8, q_le12, q_nle12, q_le25, q_nle25, q_le36, q_nle36, q_le60, q_nle60, q_le99, q_nle99, q_le100, q_nle100, q_le300, q_nle300, q_le640, q_nle640, q_le411, q_nle411, q_mul2, q_lmul2, q_mul3, q_lmul3, q_mul5, q_lmul5, q_mul6, q_lmul6, q_mul10, q_lmul10, q_add1, q_ladd1, q_add2, q_ladd2, q_add3, q_ladd3, q_add5, q_ladd5, q_add6, q_ladd6, q_add100, q_ladd100, q_div2, q_rem2, q_div3, q_rem3, q_div6, q_rem6, q_div10, q_rem10, h2]
  · intro i j s hi hj hT2 hv
    rw [hv]
    exact (i_sum_skip (i_in_off _ hj hT2)).symm
  · intro n s hv
    show g_X3_freeCells_4 k (-1) μ _ s (nI S) = _
    unfold g_X3_freeCells_4
    simp (disch := omega) only [lt_k, bnv_s, bnd_s, grd_t, q_in, q_inb, q_c, q_leT, q_leF, q_ltT, q_ltF, q_neg, q_nn, q_z, q_le0, q_b0, q_b1, nI_add, nI_0, q_off, q_self, q_oth, cst_2, st_2, ↓reduceIte, f_X8_cellAt, f_X8_roadAt, q_le1, q_nle1, q_le2, q_nle2, q_le5, q_nle5, q_le6, q_nle6, q_le8, q_nle8, q_le12, q_nle12, q_le25, q_nle25, q_le36, q_nle36, q_le60, q_nle60, q_le99, q_nle99, q_le100, q_nle100, q_le300, q_nle300, q_le640, q_nle640, q_le411, q_nle411, q_mul2, q_lmul2, q_mul3, q_lmul3, q_mul5, q_lmul5, q_mul6, q_lmul6, q_mul10, q_lmul10, q_add1, q_ladd1, q_add2, q_ladd2, q_add3, q_ladd3, q_add5, q_ladd5, q_add6, q_ladd6, q_add100, q_ladd100, q_div2, q_rem2, q_div3, q_rem3, q_div6, q_rem6, q_div10, q_rem10, h1]
    rw [hv, i_in_tail _ hS]
/-! the model's -/
theorem q_loop0 {σ β : Type} (F : Nat → Nat → σ → Option β) (N : Nat) (hN : N < 1024) (P : Nat → σ → Prop) (R : Option β → Prop)
    (hs : ∀ n i s, i < N → P i s → R (F (n + 1) i s) ∨ ∃ s', P (i + 1) s' ∧ F (n + 1) i s = F n (i + 1) s') (hf : ∀ n s, P N s → R (F (n + 1) N s)) (s : σ) (h0 : P 0 s) : R (F FU 0 s) :=
  q_loop F N P R hs hf N 0 FU s (by omega) (by unfold FU; omega) h0
theorem x9_total (μ : Mem) : f_X9_total μ = some (i_sum (fun c => μ.1 128 c * μ.1 127 c) 36) := by
  refine q_loop0 (fun n i s => f_X9_total_4 μ n s (nI i)) 36 (by omega) (fun i s => s = i_sum (fun c => μ.1 128 c * μ.1 127 c) i) (fun z => z = some (i_sum (fun c => μ.1 128 c * μ.1 127 c) 36)) (fun n i s hi hv => Or.inr ⟨s + μ.1 128 i * μ.1 127 i, ?_, ?_⟩) (fun n s hv => ?_) 0 rfl
  · rw [hv]; rfl
  · show g_X9_total_4 μ _ s (nI i) = _
    unfold g_X9_total_4
    simp (disch := omega) only [lt_k, bnv_s, bnd_s, grd_t, q_in, q_inb, q_c, q_leT, q_leF, q_ltT, q_ltF, q_neg, q_nn, q_z, q_le0, q_b0, q_b1, nI_add, nI_0, q_off, q_self, q_oth, cst_2, st_2, ↓reduceIte, f_X8_cellAt, f_X8_roadAt, q_le1, q_nle1, q_le2, q_nle2, q_le5, q_nle5, q_le6, q_nle6, q_le8, q_nle8, q_le12, q_nle12, q_le25, q_nle25, q_le36, q_nle36, q_le60, q_nle60, q_le99, q_nle99, q_le100, q_nle100, q_le300, q_nle300, q_le640, q_nle640, q_le411, q_nle411, q_mul2, q_lmul2, q_mul3, q_lmul3, q_mul5, q_lmul5, q_mul6, q_lmul6, q_mul10, q_lmul10, q_add1, q_ladd1, q_add2, q_ladd2, q_add3, q_ladd3, q_add5, q_ladd5, q_add6, q_ladd6, q_add100, q_ladd100, q_div2, q_rem2, q_div3, q_rem3, q_div6, q_rem6, q_div10, q_rem10, lt_k]
  · show g_X9_total_4 μ _ s (nI 36) = _
    unfold g_X9_total_4
    simp (disch := omega) only [lt_k, bnv_s, bnd_s, grd_t, q_in, q_inb, q_c, q_leT, q_leF, q_ltT, q_ltF, q_neg, q_nn, q_z, q_le0, q_b0, q_b1, nI_add, nI_0, q_off, q_self, q_oth, cst_2, st_2, ↓reduceIte, f_X8_cellAt, f_X8_roadAt, q_le1, q_nle1, q_le2, q_nle2, q_le5, q_nle5, q_le6, q_nle6, q_le8, q_nle8, q_le12, q_nle12, q_le25, q_nle25, q_le36, q_nle36, q_le60, q_nle60, q_le99, q_nle99, q_le100, q_nle100, q_le300, q_nle300, q_le640, q_nle640, q_le411, q_nle411, q_mul2, q_lmul2, q_mul3, q_lmul3, q_mul5, q_lmul5, q_mul6, q_lmul6, q_mul10, q_lmul10, q_add1, q_ladd1, q_add2, q_ladd2, q_add3, q_ladd3, q_add5, q_ladd5, q_add6, q_ladd6, q_add100, q_ladd100, q_div2, q_rem2, q_div3, q_rem3, q_div6, q_rem6, q_div10, q_rem10, hv]
/-- the surplus by the model's rows -/
def ms (μ : Mem) (c : Nat) : Int32 := μ.1 127 c - μ.1 142 (c / 6) - μ.1 142 (6 + c % 6)
theorem x9_over {c : Nat} (μ : Mem) (h : c < 36) : f_X9_over (nI c) μ = some (ms μ c) := by
  unfold f_X9_over ms
  simp (disch := omega) only [lt_k, bnv_s, bnd_s, grd_t, q_in, q_inb, q_c, q_leT, q_leF, q_ltT, q_ltF, q_neg, q_nn, q_z, q_le0, q_b0, q_b1, nI_add, nI_0, q_off, q_self, q_oth, cst_2, st_2, ↓reduceIte, f_X8_cellAt, f_X8_roadAt, q_le1, q_nle1, q_le2, q_nle2, q_le5, q_nle5, q_le6, q_nle6, q_le8, q_nle8, q_le12, q_nle12, q_le25, q_nle25, q_le36, q_nle36, q_le60, q_nle60, q_le99, q_nle99, q_le100, q_nle100, q_le300, q_nle300, q_le640, q_nle640, q_le411, q_nle411, q_mul2, q_lmul2, q_mul3, q_lmul3, q_mul5, q_lmul5, q_mul6, q_lmul6, q_mul10, q_lmul10, q_add1, q_ladd1, q_add2, q_ladd2, q_add3, q_ladd3, q_add5, q_ladd5, q_add6, q_ladd6, q_add100, q_ladd100, q_div2, q_rem2, q_div3, q_rem3, q_div6, q_rem6, q_div10, q_rem10, q_in]
theorem x9_inPlan {c S T : Nat} {μ : Mem} (h1 : μ.1 122 7 = nI S) (h2 : μ.1 122 8 = nI T) (hS : S ≤ 6) (hT : T ≤ 6) (h : c < 36) : f_X9_isInPlan (nI c) μ = some (if c / 6 < S ∧ c % 6 < T then 1 else 0) := by
  unfold f_X9_isInPlan
  simp (disch := omega) only [lt_k, bnv_s, bnd_s, grd_t, q_in, q_inb, q_c, q_leT, q_leF, q_ltT, q_ltF, q_neg, q_nn, q_z, q_le0, q_b0, q_b1, nI_add, nI_0, q_off, q_self, q_oth, cst_2, st_2, ↓reduceIte, f_X8_cellAt, f_X8_roadAt, q_le1, q_nle1, q_le2, q_nle2, q_le5, q_nle5, q_le6, q_nle6, q_le8, q_nle8, q_le12, q_nle12, q_le25, q_nle25, q_le36, q_nle36, q_le60, q_nle60, q_le99, q_nle99, q_le100, q_nle100, q_le300, q_nle300, q_le640, q_nle640, q_le411, q_nle411, q_mul2, q_lmul2, q_mul3, q_lmul3, q_mul5, q_lmul5, q_mul6, q_lmul6, q_mul10, q_lmul10, q_add1, q_ladd1, q_add2, q_ladd2, q_add3, q_ladd3, q_add5, q_ladd5, q_add6, q_ladd6, q_add100, q_ladd100, q_div2, q_rem2, q_div3, q_rem3, q_div6, q_rem6, q_div10, q_rem10, h1, h2]
  by_cases a : c / 6 < S
  · simp (disch := omega) only [lt_k, bnv_s, bnd_s, grd_t, q_in, q_inb, q_c, q_leT, q_leF, q_ltT, q_ltF, q_neg, q_nn, q_z, q_le0, q_b0, q_b1, nI_add, nI_0, q_off, q_self, q_oth, cst_2, st_2, ↓reduceIte, f_X8_cellAt, f_X8_roadAt, q_le1, q_nle1, q_le2, q_nle2, q_le5, q_nle5, q_le6, q_nle6, q_le8, q_nle8, q_le12, q_nle12, q_le25, q_nle25, q_le36, q_nle36, q_le60, q_nle60, q_le99, q_nle99, q_le100, q_nle100, q_le300, q_nle300, q_le640, q_nle640, q_le411, q_nle411, q_mul2, q_lmul2, q_mul3, q_lmul3, q_mul5, q_lmul5, q_mul6, q_lmul6, q_mul10, q_lmul10, q_add1, q_ladd1, q_add2, q_ladd2, q_add3, q_ladd3, q_add5, q_ladd5, q_add6, q_ladd6, q_add100, q_ladd100, q_div2, q_rem2, q_div3, q_rem3, q_div6, q_rem6, q_div10, q_rem10, ]
    by_cases b : c % 6 < T
    · simp (disch := omega) only [lt_k, bnv_s, bnd_s, grd_t, q_in, q_inb, q_c, q_leT, q_leF, q_ltT, q_ltF, q_neg, q_nn, q_z, q_le0, q_b0, q_b1, nI_add, nI_0, q_off, q_self, q_oth, cst_2, st_2, ↓reduceIte, f_X8_cellAt, f_X8_roadAt, q_le1, q_nle1, q_le2, q_nle2, q_le5, q_nle5, q_le6, q_nle6, q_le8, q_nle8, q_le12, q_nle12, q_le25, q_nle25, q_le36, q_nle36, q_le60, q_nle60, q_le99, q_nle99, q_le100, q_nle100, q_le300, q_nle300, q_le640, q_nle640, q_le411, q_nle411, q_mul2, q_lmul2, q_mul3, q_lmul3, q_mul5, q_lmul5, q_mul6, q_lmul6, q_mul10, q_lmul10, q_add1, q_ladd1, q_add2, q_ladd2, q_add3, q_ladd3, q_add5, q_ladd5, q_add6, q_ladd6, q_add100, q_ladd100, q_div2, q_rem2, q_div3, q_rem3, q_div6, q_rem6, q_div10, q_rem10, ]
      rw [if_pos ⟨a, b⟩]
    · simp (disch := omega) only [lt_k, bnv_s, bnd_s, grd_t, q_in, q_inb, q_c, q_leT, q_leF, q_ltT, q_ltF, q_neg, q_nn, q_z, q_le0, q_b0, q_b1, nI_add, nI_0, q_off, q_self, q_oth, cst_2, st_2, ↓reduceIte, f_X8_cellAt, f_X8_roadAt, q_le1, q_nle1, q_le2, q_nle2, q_le5, q_nle5, q_le6, q_nle6, q_le8, q_nle8, q_le12, q_nle12, q_le25, q_nle25, q_le36, q_nle36, q_le60, q_nle60, q_le99, q_nle99, q_le100, q_nle100, q_le300, q_nle300, q_le640, q_nle640, q_le411, q_nle411, q_mul2, q_lmul2, q_mul3, q_lmul3, q_mul5, q_lmul5, q_mul6, q_lmul6, q_mul10, q_lmul10, q_add1, q_ladd1, q_add2, q_ladd2, q_add3, q_ladd3, q_add5, q_ladd5, q_add6, q_ladd6, q_add100, q_ladd100, q_div2, q_rem2, q_div3, q_rem3, q_div6, q_rem6, q_div10, q_rem10, ]
      rw [if_neg (fun q => b q.2)]
  · simp (disch := omega) only [lt_k, bnv_s, bnd_s, grd_t, q_in, q_inb, q_c, q_leT, q_leF, q_ltT, q_ltF, q_neg, q_nn, q_z, q_le0, q_b0, q_b1, nI_add, nI_0, q_off, q_self, q_oth, cst_2, st_2, ↓reduceIte, f_X8_cellAt, f_X8_roadAt, q_le1, q_nle1, q_le2, q_nle2, q_le5, q_nle5, q_le6, q_nle6, q_le8, q_nle8, q_le12, q_nle12, q_le25, q_nle25, q_le36, q_nle36, q_le60, q_nle60, q_le99, q_nle99, q_le100, q_nle100, q_le300, q_nle300, q_le640, q_nle640, q_le411, q_nle411, q_mul2, q_lmul2, q_mul3, q_lmul3, q_mul5, q_lmul5, q_mul6, q_lmul6, q_mul10, q_lmul10, q_add1, q_ladd1, q_add2, q_ladd2, q_add3, q_ladd3, q_add5, q_ladd5, q_add6, q_ladd6, q_add100, q_ladd100, q_div2, q_rem2, q_div3, q_rem3, q_div6, q_rem6, q_div10, q_rem10, ]
    rw [if_neg (fun q => a q.1)]
/-- what the model counts -/
def mc (what : Int32) (μ : Mem) (c : Nat) : Int32 := if what = 3 then (if μ.1 129 c = 1 ∧ μ.1 128 c = 0 then 1 else 0) else if what = 4 then (if μ.1 129 c = 0 ∧ ms μ c = 0 then 1 else 0) else if ms μ c < 0 then 1 else 0
theorem x9_counted {S T : Nat} {μ μ' : Mem} {what : Int32} (hv : f_X9_values μ = some μ') (h1 : μ'.1 122 7 = nI S) (h2 : μ'.1 122 8 = nI T) (hS : S ≤ 6) (hT : T ≤ 6) :
    f_X9_counted what μ = some (i_sum (i_in S T (mc what μ')) 36, μ') := by
  unfold f_X9_counted
  rw [hv, bnv_s]
  refine q_loop0 (fun n i s => f_X9_counted_8 what n s (nI i) μ') 36 (by omega) (fun i s => s = i_sum (i_in S T (mc what μ')) i) (fun z => z = some (i_sum (i_in S T (mc what μ')) 36, μ')) (fun n i s hi hv => Or.inr ⟨s + i_in S T (mc what μ') i, ?_, ?_⟩) (fun n s hv => ?_) 0 rfl
  · rw [hv]; rfl
  · have e89 : ∀ (q : Int32 → Int32 → Mem → Option (Int32 × Mem)) (z : Int32), f_X9_counted_89 what q s (nI i) z μ' = q (s + if c_in : i / 6 < S ∧ i % 6 < T then (if z = 0 then 0 else 1) else 0) (nI (i + 1)) μ' := by
      intro q z
      unfold f_X9_counted_89
      rw [x9_inPlan h1 h2 hS hT hi]
      by_cases c1 : i / 6 < S ∧ i % 6 < T
      · rw [dif_pos c1, if_pos c1]
        simp (disch := omega) only [lt_k, bnv_s, bnd_s, grd_t, q_in, q_inb, q_c, q_leT, q_leF, q_ltT, q_ltF, q_neg, q_nn, q_z, q_le0, q_b0, q_b1, nI_add, nI_0, q_off, q_self, q_oth, cst_2, st_2, ↓reduceIte, f_X8_cellAt, f_X8_roadAt, q_le1, q_nle1, q_le2, q_nle2, q_le5, q_nle5, q_le6, q_nle6, q_le8, q_nle8, q_le12, q_nle12, q_le25, q_nle25, q_le36, q_nle36, q_le60, q_nle60, q_le99, q_nle99, q_le100, q_nle100, q_le300, q_nle300, q_le640, q_nle640, q_le411, q_nle411, q_mul2, q_lmul2, q_mul3, q_lmul3, q_mul5, q_lmul5, q_mul6, q_lmul6, q_mul10, q_lmul10, q_add1, q_ladd1, q_add2, q_ladd2, q_add3, q_ladd3, q_add5, q_ladd5, q_add6, q_ladd6, q_add100, q_ladd100, q_div2, q_rem2, q_div3, q_rem3, q_div6, q_rem6, q_div10, q_rem10, ]
        rw [if_neg (by decide)]
        by_cases z0 : z = 0
        · rw [if_pos z0, if_pos z0]
        · rw [if_neg z0, if_neg z0]
      · rw [dif_neg c1, if_neg c1]
        simp (disch := omega) only [lt_k, bnv_s, bnd_s, grd_t, q_in, q_inb, q_c, q_leT, q_leF, q_ltT, q_ltF, q_neg, q_nn, q_z, q_le0, q_b0, q_b1, nI_add, nI_0, q_off, q_self, q_oth, cst_2, st_2, ↓reduceIte, f_X8_cellAt, f_X8_roadAt, q_le1, q_nle1, q_le2, q_nle2, q_le5, q_nle5, q_le6, q_nle6, q_le8, q_nle8, q_le12, q_nle12, q_le25, q_nle25, q_le36, q_nle36, q_le60, q_nle60, q_le99, q_nle99, q_le100, q_nle100, q_le300, q_nle300, q_le640, q_nle640, q_le411, q_nle411, q_mul2, q_lmul2, q_mul3, q_lmul3, q_mul5, q_lmul5, q_mul6, q_lmul6, q_mul10, q_lmul10, q_add1, q_ladd1, q_add2, q_ladd2, q_add3, q_ladd3, q_add5, q_ladd5, q_add6, q_ladd6, q_add100, q_ladd100, q_div2, q_rem2, q_div3, q_rem3, q_div6, q_rem6, q_div10, q_rem10, ]
    show g_X9_counted_8 what _ s (nI i) μ' = f_X9_counted_8 what n _ (nI (i + 1)) μ'
    unfold g_X9_counted_8 f_X9_counted_42 f_X9_counted_72 mc i_in
    simp (disch := omega) only [lt_k, bnv_s, bnd_s, grd_t, q_in, q_inb, q_c, q_leT, q_leF, q_ltT, q_ltF, q_neg, q_nn, q_z, q_le0, q_b0, q_b1, nI_add, nI_0, q_off, q_self, q_oth, cst_2, st_2, ↓reduceIte, f_X8_cellAt, f_X8_roadAt, q_le1, q_nle1, q_le2, q_nle2, q_le5, q_nle5, q_le6, q_nle6, q_le8, q_nle8, q_le12, q_nle12, q_le25, q_nle25, q_le36, q_nle36, q_le60, q_nle60, q_le99, q_nle99, q_le100, q_nle100, q_le300, q_nle300, q_le640, q_nle640, q_le411, q_nle411, q_mul2, q_lmul2, q_mul3, q_lmul3, q_mul5, q_lmul5, q_mul6, q_lmul6, q_mul10, q_lmul10, q_add1, q_ladd1, q_add2, q_ladd2, q_add3, q_ladd3, q_add5, q_ladd5, q_add6, q_ladd6, q_add100, q_ladd100, q_div2, q_rem2, q_div3, q_rem3, q_div6, q_rem6, q_div10, q_rem10, e89, x9_over, ↓reduceDIte]
    by_cases c1 : i / 6 < S ∧ i % 6 < T
    · rw [if_pos c1]
      simp only [dif_pos c1]
      by_cases w3 : what = 3
      · rw [if_pos w3, if_pos w3]
        by_cases a : μ'.1 129 i = 1
        · rw [if_pos a]
          by_cases b : μ'.1 128 i = 0
          · rw [if_pos b, if_pos (show μ'.1 129 i = 1 ∧ μ'.1 128 i = 0 from ⟨a, b⟩), if_neg (show ¬ (1 : Int32) = 0 by decide)]
          · rw [if_neg b, if_neg (fun q => b q.2)]
        · rw [if_neg a, if_neg (fun q => a q.1)]
      · rw [if_neg w3, if_neg w3]
        by_cases w4 : what = 4
        · rw [if_pos w4, if_pos w4]
          by_cases a : μ'.1 129 i = 0
          · rw [if_pos a]
            by_cases b : ms μ' i = 0
            · rw [if_pos b, if_pos (show μ'.1 129 i = 0 ∧ ms μ' i = 0 from ⟨a, b⟩), if_neg (show ¬ (1 : Int32) = 0 by decide)]
            · rw [if_neg b, if_neg (fun q => b q.2)]
          · rw [if_neg a, if_neg (fun q => a q.1)]
        · rw [if_neg w4, if_neg w4]
          by_cases b : ms μ' i < 0
          · rw [if_pos b, if_neg (by rw [i_le]; rw [i_lt] at b; omega), if_neg (by decide)]
          · rw [if_neg b, if_pos (by rw [i_le]; rw [i_lt] at b; omega)]
    · rw [if_neg c1]
      simp only [dif_neg c1]
      by_cases w3 : what = 3
      · rw [if_pos w3]
        split <;> (try split) <;> rfl
      · rw [if_neg w3]
        split <;> (try split) <;> (try split) <;> rfl
  · show g_X9_counted_8 what _ s (nI 36) μ' = _
    unfold g_X9_counted_8
    simp (disch := omega) only [lt_k, bnv_s, bnd_s, grd_t, q_in, q_inb, q_c, q_leT, q_leF, q_ltT, q_ltF, q_neg, q_nn, q_z, q_le0, q_b0, q_b1, nI_add, nI_0, q_off, q_self, q_oth, cst_2, st_2, ↓reduceIte, f_X8_cellAt, f_X8_roadAt, q_le1, q_nle1, q_le2, q_nle2, q_le5, q_nle5, q_le6, q_nle6, q_le8, q_nle8, q_le12, q_nle12, q_le25, q_nle25, q_le36, q_nle36, q_le60, q_nle60, q_le99, q_nle99, q_le100, q_nle100, q_le300, q_nle300, q_le640, q_nle640, q_le411, q_nle411, q_mul2, q_lmul2, q_mul3, q_lmul3, q_mul5, q_lmul5, q_mul6, q_lmul6, q_mul10, q_lmul10, q_add1, q_ladd1, q_add2, q_ladd2, q_add3, q_ladd3, q_add5, q_ladd5, q_add6, q_ladd6, q_add100, q_ladd100, q_div2, q_rem2, q_div3, q_rem3, q_div6, q_rem6, q_div10, q_rem10, hv]
