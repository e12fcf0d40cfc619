/-! THE PURE PART: the class's loop followed, its turn, who leaves, the loads turned -/
def FA (k : Nat) : Nat → Nat → Prop := fun c _ => c = k ∨ c = k + 1 ∨ c = k + 2 ∨ c = k + 3
theorem x1_add {k m : Nat} {μ : Mem} (x : Int32) (hm : m < 12) (h : μ.1 k 0 = nI m) : f_X1_add k x μ = some (st (st μ (k + 1) m x) k 0 (nI (m + 1))) := by
  unfold f_X1_add
  simp (disch := omega) only [lt_k, bnv_s, bnd_s, grd_t, q_in, q_inb, q_c, q_leT, q_leF, q_ltT, q_ltF, q_neg, q_nn, q_z, q_le0, q_b0, q_b1, nI_add, nI_0, q_off, q_self, q_oth, cst_2, st_2, ↓reduceIte, f_X8_cellAt, f_X8_roadAt, q_le1, q_nle1, q_le2, q_nle2, q_le5, q_nle5, q_le6, q_nle6, q_le8, q_nle8, q_le12, q_nle12, q_le25, q_nle25, q_le36, q_nle36, q_le60, q_nle60, q_le99, q_nle99, q_le100, q_nle100, q_le300, q_nle300, q_le640, q_nle640, q_le411, q_nle411, q_mul2, q_lmul2, q_mul3, q_lmul3, q_mul5, q_lmul5, q_mul6, q_lmul6, q_mul10, q_lmul10, q_add1, q_ladd1, q_add2, q_ladd2, q_add3, q_ladd3, q_add5, q_ladd5, q_add6, q_ladd6, q_add100, q_ladd100, q_div2, q_rem2, q_div3, q_rem3, q_div6, q_rem6, q_div10, q_rem10, h]
/-- the first n cells of the loop -/
def FW (k : Nat) (P : Nat → Nat) (n : Nat) (μ : Mem) : Prop := μ.1 k 0 = nI n ∧ ∀ j, j < n → μ.1 (k + 1) j = nI (P j)
theorem FW_add {k n : Nat} {P : Nat → Nat} {μ : Mem} (h : FW k P n μ) : FW k P (n + 1) (st (st μ (k + 1) n (nI (P n))) k 0 (nI (n + 1))) := by
  refine ⟨by simp (disch := omega) only [lt_k, bnv_s, bnd_s, grd_t, q_in, q_inb, q_c, q_leT, q_leF, q_ltT, q_ltF, q_neg, q_nn, q_z, q_le0, q_b0, q_b1, nI_add, nI_0, q_off, q_self, q_oth, cst_2, st_2, ↓reduceIte, f_X8_cellAt, f_X8_roadAt, q_le1, q_nle1, q_le2, q_nle2, q_le5, q_nle5, q_le6, q_nle6, q_le8, q_nle8, q_le12, q_nle12, q_le25, q_nle25, q_le36, q_nle36, q_le60, q_nle60, q_le99, q_nle99, q_le100, q_nle100, q_le300, q_nle300, q_le640, q_nle640, q_le411, q_nle411, q_mul2, q_lmul2, q_mul3, q_lmul3, q_mul5, q_lmul5, q_mul6, q_lmul6, q_mul10, q_lmul10, q_add1, q_ladd1, q_add2, q_ladd2, q_add3, q_ladd3, q_add5, q_ladd5, q_add6, q_ladd6, q_add100, q_ladd100, q_div2, q_rem2, q_div3, q_rem3, q_div6, q_rem6, q_div10, q_rem10, lt_k], fun j hj => ?_⟩
  simp (disch := omega) only [lt_k, bnv_s, bnd_s, grd_t, q_in, q_inb, q_c, q_leT, q_leF, q_ltT, q_ltF, q_neg, q_nn, q_z, q_le0, q_b0, q_b1, nI_add, nI_0, q_off, q_self, q_oth, cst_2, st_2, ↓reduceIte, f_X8_cellAt, f_X8_roadAt, q_le1, q_nle1, q_le2, q_nle2, q_le5, q_nle5, q_le6, q_nle6, q_le8, q_nle8, q_le12, q_nle12, q_le25, q_nle25, q_le36, q_nle36, q_le60, q_nle60, q_le99, q_nle99, q_le100, q_nle100, q_le300, q_nle300, q_le640, q_nle640, q_le411, q_nle411, q_mul2, q_lmul2, q_mul3, q_lmul3, q_mul5, q_lmul5, q_mul6, q_lmul6, q_mul10, q_lmul10, q_add1, q_ladd1, q_add2, q_ladd2, q_add3, q_ladd3, q_add5, q_ladd5, q_add6, q_ladd6, q_add100, q_ladd100, q_div2, q_rem2, q_div3, q_rem3, q_div6, q_rem6, q_div10, q_rem10, q_at]
  by_cases q : j = n
  · rw [if_pos q, q]
  · rw [if_neg q]; exact h.2 j (by omega)
theorem x1_follow {k a2 S T cell : Nat} {μ : Mem} (ha : a2 < k) (ht : t_tree S T (bb (μ.1 a2))) (hc : cell < 36) (hS : cell / 6 < S) (hT : cell % 6 < T) :
    ∃ μ' L v, f_X1_follow k (nI cell) a2 36 μ = some μ' ∧ fr (FA k) μ μ' ∧ t_way S T (bb (μ.1 a2)) cell L v ∧ FW k (t_P cell v) L μ' := by
  obtain ⟨μ1, nx, rk, e1, f1, hp, hs, hk⟩ := x1_home ha ht hS
  obtain ⟨L, hw⟩ := t_way_of ht hp hT
  have hS6 := ht.2.1
  have hT6 := ht.2.2.2.1
  have hv := fun j => t_pn nx (6 + cell % 6) j
  have z0 : (st μ1 k 0 0).1 k 0 = nI 0 := by rw [q_self]; rfl
  -- behind the first cell
  have hF1 : FW k (t_P cell (t_pn nx (6 + cell % 6))) 1 (st (st (st μ1 k 0 0) (k + 1) 0 (nI cell)) k 0 (nI (0 + 1))) := FW_add (n := 0) ⟨z0, fun j h => by omega⟩
  have fm : fr (FA k) μ1 (st (st (st μ1 k 0 0) (k + 1) 0 (nI cell)) k 0 (nI (0 + 1))) := fr_st' (fr_st' (fr_st (by unfold FA; omega)) (by unfold FA; omega)) (by unfold FA; omega)
  have f01 : fr (FA k) μ μ1 := fr_mono f1 (fun c j h => by unfold PA at h; unfold FA; omega)
  suffices hg : ∃ μ', f_X1_follow_30 k (nI cell) a2 36 FU (nI (cell / 6)) (nI (cell % 6)) 0 (st (st (st μ1 k 0 0) (k + 1) 0 (nI cell)) k 0 (nI (0 + 1))) = some μ' ∧ fr (FA k) μ μ' ∧ FW k (t_P cell (t_pn nx (6 + cell % 6))) L μ' by
    obtain ⟨μ', g1, g2, g3⟩ := hg
    refine ⟨μ', L, _, ?_, g2, hw, g3⟩
    unfold f_X1_follow
    simp (disch := omega) only [lt_k, bnv_s, bnd_s, grd_t, q_in, q_inb, q_c, q_leT, q_leF, q_ltT, q_ltF, q_neg, q_nn, q_z, q_le0, q_b0, q_b1, nI_add, nI_0, q_off, q_self, q_oth, cst_2, st_2, ↓reduceIte, f_X8_cellAt, f_X8_roadAt, q_le1, q_nle1, q_le2, q_nle2, q_le5, q_nle5, q_le6, q_nle6, q_le8, q_nle8, q_le12, q_nle12, q_le25, q_nle25, q_le36, q_nle36, q_le60, q_nle60, q_le99, q_nle99, q_le100, q_nle100, q_le300, q_nle300, q_le640, q_nle640, q_le411, q_nle411, q_mul2, q_lmul2, q_mul3, q_lmul3, q_mul5, q_lmul5, q_mul6, q_lmul6, q_mul10, q_lmul10, q_add1, q_ladd1, q_add2, q_ladd2, q_add3, q_ladd3, q_add5, q_ladd5, q_add6, q_ladd6, q_add100, q_ladd100, q_div2, q_rem2, q_div3, q_rem3, q_div6, q_rem6, q_div10, q_rem10, e1, x1_add _ _ z0]
    exact g1
  obtain ⟨l1, l2, l3, l4, l5, l6, l7, l8, l9, l10⟩ := id hw
  have hPo := fun {j} (hj : j < L) (ho : j % 2 = 1) => t_P_odd ht hw hj ho
  have hPe := fun {j} (hj : j < L) (ho : j % 2 = 0) (h0 : 0 < j) => t_P_even ht hw hj ho h0
  have hlt : ∀ j, j < L → t_pn nx (6 + cell % 6) j < 12 := fun j hj => t_nd_lt ht (l6 j hj)
  -- rows of pointers stay
  have rows : ∀ m, fr (fun c _ => c = k ∨ c = k + 1) μ1 m → (∀ v, v < S → v ≠ cell / 6 → m.1 (k + 2) v = nI (nx v - 6)) ∧ (∀ v, v < T → m.1 (k + 3) v = nI (nx (6 + v))) := by
    intro m hm
    refine ⟨fun v h1 h2 => ?_, fun v h1 => ?_⟩
    · rw [hm.2 (k + 2) v (by omega)]; exact hs v h1 h2
    · rw [hm.2 (k + 3) v (by omega)]; exact hk v h1
  refine q_loop0 (fun n i (s : Int32 × Mem) => f_X1_follow_30 k (nI cell) a2 36 n (nI (cell / 6)) s.1 (nI i) s.2) 6 (by omega)
    (fun i s => 2 * i + 1 < L ∧ s.1 = nI (t_pn nx (6 + cell % 6) (2 * i) - 6) ∧ fr (fun c _ => c = k ∨ c = k + 1) μ1 s.2 ∧ FW k (t_P cell (t_pn nx (6 + cell % 6))) (2 * i + 1) s.2)
    (fun z => ∃ μ', z = some μ' ∧ fr (FA k) μ μ' ∧ FW k (t_P cell (t_pn nx (6 + cell % 6))) L μ') ?_ ?_ (nI (cell % 6), _)
    ⟨by omega, by show nI (cell % 6) = nI (6 + cell % 6 - 6); congr 1; omega, fr_st' (fr_st' (fr_st (by omega)) (by omega)) (by omega), hF1⟩
  · rintro n i ⟨x, m⟩ hi ⟨p1, p2, p3, p4⟩
    change x = _ at p2
    change fr _ μ1 m at p3
    change FW _ _ _ m at p4
    obtain ⟨r2, r3⟩ := rows m p3
    have n0 := l6 (2 * i) (by omega)
    have s0 := l7 (2 * i) (by omega) (by omega)
    have n1 := l6 (2 * i + 1) p1
    have s1 := l8 (2 * i + 1) p1 (by omega)
    have v0 := hlt (2 * i) (by omega)
    have hvn : nx (t_pn nx (6 + cell % 6) (2 * i)) = t_pn nx (6 + cell % 6) (2 * i + 1) := rfl
    have hsk : m.1 (k + 3) (t_pn nx (6 + cell % 6) (2 * i) - 6) = nI (t_pn nx (6 + cell % 6) (2 * i + 1)) := by
      have := r3 (t_pn nx (6 + cell % 6) (2 * i) - 6) (by unfold t_nd at n0; omega)
      rw [show 6 + (t_pn nx (6 + cell % 6) (2 * i) - 6) = t_pn nx (6 + cell % 6) (2 * i) by omega, hvn] at this
      exact this
    have c1 : t_P cell (t_pn nx (6 + cell % 6)) (2 * i + 1) = t_pn nx (6 + cell % 6) (2 * i + 1) * 6 + (t_pn nx (6 + cell % 6) (2 * i) - 6) := by
      have a := hPo p1 (by omega)
      rw [Nat.add_sub_cancel] at a
      omega
    have F2 := FW_add p4
    have fm2 : fr (fun c _ => c = k ∨ c = k + 1) μ1 (st (st m (k + 1) (2 * i + 1) (nI (t_P cell (t_pn nx (6 + cell % 6)) (2 * i + 1)))) k 0 (nI (2 * i + 1 + 1))) := fr_st' (fr_st' p3 (by omega)) (by omega)
    by_cases hm : 2 * i + 1 = L - 1
    · left
      refine ⟨_, ?_, fr_then f01 (fr_mono fm2 (fun c j h => by unfold FA; omega)), by rw [show L = 2 * i + 1 + 1 by omega]; exact F2⟩
      show g_X1_follow_30 k _ a2 36 _ _ x (nI i) m = _
      unfold g_X1_follow_30
      have eh : t_pn nx (6 + cell % 6) (2 * i + 1) = cell / 6 := by rw [hm]; exact l5
      rw [eh] at hsk c1
      simp (disch := omega) only [lt_k, bnv_s, bnd_s, grd_t, q_in, q_inb, q_c, q_leT, q_leF, q_ltT, q_ltF, q_neg, q_nn, q_z, q_le0, q_b0, q_b1, nI_add, nI_0, q_off, q_self, q_oth, cst_2, st_2, ↓reduceIte, f_X8_cellAt, f_X8_roadAt, q_le1, q_nle1, q_le2, q_nle2, q_le5, q_nle5, q_le6, q_nle6, q_le8, q_nle8, q_le12, q_nle12, q_le25, q_nle25, q_le36, q_nle36, q_le60, q_nle60, q_le99, q_nle99, q_le100, q_nle100, q_le300, q_nle300, q_le640, q_nle640, q_le411, q_nle411, q_mul2, q_lmul2, q_mul3, q_lmul3, q_mul5, q_lmul5, q_mul6, q_lmul6, q_mul10, q_lmul10, q_add1, q_ladd1, q_add2, q_ladd2, q_add3, q_ladd3, q_add5, q_ladd5, q_add6, q_ladd6, q_add100, q_ladd100, q_div2, q_rem2, q_div3, q_rem3, q_div6, q_rem6, q_div10, q_rem10, p2, hsk]
      rw [x1_add _ (by omega) p4.1]
      simp (disch := omega) only [lt_k, bnv_s, bnd_s, grd_t, q_in, q_inb, q_c, q_leT, q_leF, q_ltT, q_ltF, q_neg, q_nn, q_z, q_le0, q_b0, q_b1, nI_add, nI_0, q_off, q_self, q_oth, cst_2, st_2, ↓reduceIte, f_X8_cellAt, f_X8_roadAt, q_le1, q_nle1, q_le2, q_nle2, q_le5, q_nle5, q_le6, q_nle6, q_le8, q_nle8, q_le12, q_nle12, q_le25, q_nle25, q_le36, q_nle36, q_le60, q_nle60, q_le99, q_nle99, q_le100, q_nle100, q_le300, q_nle300, q_le640, q_nle640, q_le411, q_nle411, q_mul2, q_lmul2, q_mul3, q_lmul3, q_mul5, q_lmul5, q_mul6, q_lmul6, q_mul10, q_lmul10, q_add1, q_ladd1, q_add2, q_ladd2, q_add3, q_ladd3, q_add5, q_ladd5, q_add6, q_ladd6, q_add100, q_ladd100, q_div2, q_rem2, q_div3, q_rem3, q_div6, q_rem6, q_div10, q_rem10, c1]
    · right
      have hne : t_pn nx (6 + cell % 6) (2 * i + 1) ≠ cell / 6 := fun e => by have := l9 (2 * i + 1) (L - 1) p1 (by omega) (e.trans l5.symm); omega
      have h22 : 2 * i + 1 + 1 < L := by omega
      have s2 := l7 (2 * i + 1 + 1) h22 (by omega)
      have v2 := hlt (2 * i + 1 + 1) h22
      have hvn2 : nx (t_pn nx (6 + cell % 6) (2 * i + 1)) = t_pn nx (6 + cell % 6) (2 * i + 1 + 1) := rfl
      have hss := (rows _ fm2).1 (t_pn nx (6 + cell % 6) (2 * i + 1)) (by unfold t_nd at n1; omega) hne
      rw [hvn2] at hss
      have c2 : t_P cell (t_pn nx (6 + cell % 6)) (2 * i + 1 + 1) = t_pn nx (6 + cell % 6) (2 * i + 1) * 6 + (t_pn nx (6 + cell % 6) (2 * i + 1 + 1) - 6) := by
        have a := hPe (j := 2 * i + 1 + 1) h22 (by omega) (by omega)
        rw [Nat.add_sub_cancel] at a
        omega
      have F3 := FW_add F2
      refine ⟨(nI (t_pn nx (6 + cell % 6) (2 * i + 1 + 1) - 6), st (st (st (st m (k + 1) (2 * i + 1) (nI (t_P cell (t_pn nx (6 + cell % 6)) (2 * i + 1)))) k 0 (nI (2 * i + 1 + 1))) (k + 1) (2 * i + 1 + 1) (nI (t_P cell (t_pn nx (6 + cell % 6)) (2 * i + 1 + 1)))) k 0 (nI (2 * i + 1 + 1 + 1))), ⟨by omega, by rw [show 2 * (i + 1) = 2 * i + 1 + 1 by omega], fr_st' (fr_st' fm2 (by omega)) (by omega), by rw [show 2 * (i + 1) = 2 * i + 1 + 1 by omega]; exact F3⟩, ?_⟩
      show g_X1_follow_30 k _ a2 36 _ _ x (nI i) m = f_X1_follow_30 k _ a2 36 _ _ _ (nI (i + 1)) _
      unfold g_X1_follow_30
      simp (disch := omega) only [lt_k, bnv_s, bnd_s, grd_t, q_in, q_inb, q_c, q_leT, q_leF, q_ltT, q_ltF, q_neg, q_nn, q_z, q_le0, q_b0, q_b1, nI_add, nI_0, q_off, q_self, q_oth, cst_2, st_2, ↓reduceIte, f_X8_cellAt, f_X8_roadAt, q_le1, q_nle1, q_le2, q_nle2, q_le5, q_nle5, q_le6, q_nle6, q_le8, q_nle8, q_le12, q_nle12, q_le25, q_nle25, q_le36, q_nle36, q_le60, q_nle60, q_le99, q_nle99, q_le100, q_nle100, q_le300, q_nle300, q_le640, q_nle640, q_le411, q_nle411, q_mul2, q_lmul2, q_mul3, q_lmul3, q_mul5, q_lmul5, q_mul6, q_lmul6, q_mul10, q_lmul10, q_add1, q_ladd1, q_add2, q_ladd2, q_add3, q_ladd3, q_add5, q_ladd5, q_add6, q_ladd6, q_add100, q_ladd100, q_div2, q_rem2, q_div3, q_rem3, q_div6, q_rem6, q_div10, q_rem10, p2, hsk, q_eqF]
      rw [x1_add _ (by omega) p4.1, ← c1]
      simp (disch := omega) only [lt_k, bnv_s, bnd_s, grd_t, q_in, q_inb, q_c, q_leT, q_leF, q_ltT, q_ltF, q_neg, q_nn, q_z, q_le0, q_b0, q_b1, nI_add, nI_0, q_off, q_self, q_oth, cst_2, st_2, ↓reduceIte, f_X8_cellAt, f_X8_roadAt, q_le1, q_nle1, q_le2, q_nle2, q_le5, q_nle5, q_le6, q_nle6, q_le8, q_nle8, q_le12, q_nle12, q_le25, q_nle25, q_le36, q_nle36, q_le60, q_nle60, q_le99, q_nle99, q_le100, q_nle100, q_le300, q_nle300, q_le640, q_nle640, q_le411, q_nle411, q_mul2, q_lmul2, q_mul3, q_lmul3, q_mul5, q_lmul5, q_mul6, q_lmul6, q_mul10, q_lmul10, q_add1, q_ladd1, q_add2, q_ladd2, q_add3, q_ladd3, q_add5, q_ladd5, q_add6, q_ladd6, q_add100, q_ladd100, q_div2, q_rem2, q_div3, q_rem3, q_div6, q_rem6, q_div10, q_rem10, hss]
      rw [← c2, x1_add _ (by omega) F2.1]
      simp (disch := omega) only [lt_k, bnv_s, bnd_s, grd_t, q_in, q_inb, q_c, q_leT, q_leF, q_ltT, q_ltF, q_neg, q_nn, q_z, q_le0, q_b0, q_b1, nI_add, nI_0, q_off, q_self, q_oth, cst_2, st_2, ↓reduceIte, f_X8_cellAt, f_X8_roadAt, q_le1, q_nle1, q_le2, q_nle2, q_le5, q_nle5, q_le6, q_nle6, q_le8, q_nle8, q_le12, q_nle12, q_le25, q_nle25, q_le36, q_nle36, q_le60, q_nle60, q_le99, q_nle99, q_le100, q_nle100, q_le300, q_nle300, q_le640, q_nle640, q_le411, q_nle411, q_mul2, q_lmul2, q_mul3, q_lmul3, q_mul5, q_lmul5, q_mul6, q_lmul6, q_mul10, q_lmul10, q_add1, q_ladd1, q_add2, q_ladd2, q_add3, q_ladd3, q_add5, q_ladd5, q_add6, q_ladd6, q_add100, q_ladd100, q_div2, q_rem2, q_div3, q_rem3, q_div6, q_rem6, q_div10, q_rem10, lt_k]
  · rintro n ⟨x, m⟩ ⟨p1, p2, p3, p4⟩
    omega
