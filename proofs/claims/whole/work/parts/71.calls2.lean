/-! THE CALLS: renew (written by gen71.py) -/
theorem q_r01 : inR (0 : Int32) 0 1 = true := by decide
theorem q_r11 : inR (1 : Int32) 0 1 = true := by decide
theorem x_ren00 {D : TD} {μ : Mem} (hD : D_ok D) (hX : XD 14 D μ) (hM : MD D μ) (hR : Rst μ) {i : Nat} (hi : i < D.1.1) {v : Int32} (hin : inR v 0 99 = true) :
    ∃ r μ1 μ2, f_X8_renew 0 (nI i) 0 v μ = some (r, μ1) ∧ f_X9_renew 0 (nI i) 0 v μ1 = some (r, μ2) ∧ Inv μ2 := by
  have hin' := inR_t.mp hin
  obtain ⟨g1, g2, g3, g4, g5, g6⟩ := id hD.1
  have h99 : ∀ i, i < 10 → 0 ≤ (D.1.2.2.1 i).toInt ∧ (D.1.2.2.1 i).toInt ≤ 99 := fun i hi => ⟨(g3 i hi).1, hD.2.1 i hi⟩
  have hok : D_ok (d_G D (D.1.1, D.1.2.1, upd D.1.2.2.1 (i) v, D.1.2.2.2.1, D.1.2.2.2.2)) := d_G_ok hD ⟨g1, g2, upd_bd g3 (by omega), g4, g5, g6⟩ (fun i hi => (upd_bd h99 hin' i hi).2) (Nat.le_refl _) (Nat.le_refl _)
  have s8 := (site0 (g := 15) hX.1 hD.1 (i := i)).1 hi
  obtain ⟨x1, x2, x3, x4⟩ := hX.1
  simp only [Nat.reduceAdd] at x1 x2 x3 x4
  obtain ⟨y1, y2, y3, y4⟩ := x3 i (by omega)
  have f : fr GX μ (st (st μ 16 i v) 22 0 0) := fr_st' (fr_st (by unfold GX; omega)) (by unfold GX; omega)
  have a1 : XD 14 (d_G D (D.1.1, D.1.2.1, upd D.1.2.2.1 (i) v, D.1.2.2.2.1, D.1.2.2.2.2)) (st (st μ 16 i v) 22 0 0) := by
    refine XD_G hX f ⟨by rw [q_off _ _ _ (by omega), q_off _ _ _ (by omega)]; exact x1, by rw [q_off _ _ _ (by omega), q_off _ _ _ (by omega)]; exact x2, fun i' hi' => ?_, fun i' hi' => ?_⟩ (by rw [q_self])
    · obtain ⟨z1, z2, z3, z4⟩ := x3 i' hi'
      simp (disch := omega) only [lt_k, bnv_s, bnd_s, grd_t, q_in, q_inb, q_c, q_leT, q_leF, q_ltT, q_ltF, q_neg, q_nn, q_z, q_le0, q_b0, q_b1, nI_add, nI_0, q_off, q_self, q_oth, cst_2, st_2, ↓reduceIte, f_X8_cellAt, f_X8_roadAt, q_le1, q_nle1, q_le2, q_nle2, q_le5, q_nle5, q_le6, q_nle6, q_le8, q_nle8, q_le12, q_nle12, q_le25, q_nle25, q_le36, q_nle36, q_le60, q_nle60, q_le99, q_nle99, q_le100, q_nle100, q_le300, q_nle300, q_le640, q_nle640, q_le411, q_nle411, q_mul2, q_lmul2, q_mul3, q_lmul3, q_mul5, q_lmul5, q_mul6, q_lmul6, q_mul10, q_lmul10, q_add1, q_ladd1, q_add2, q_ladd2, q_add3, q_ladd3, q_add5, q_ladd5, q_add6, q_ladd6, q_add100, q_ladd100, q_div2, q_rem2, q_div3, q_rem3, q_div6, q_rem6, q_div10, q_rem10, q_at]
      show _ = upd D.1.2.2.1 (i) v i' ∧ _ = D.1.2.2.2.1 i' ∧ _ = upd D.1.2.2.1 (i) v (5 + i') ∧ _ = D.1.2.2.2.1 (5 + i')
      unfold upd
      rw [if_neg (show ¬ 5 + i' = i by omega)]
      by_cases r : i' = i
      · rw [if_pos r, if_pos (show i' = i by omega)]; exact ⟨rfl, z2, z3, z4⟩
      · rw [if_neg r, if_neg (show ¬ i' = i by omega)]; exact ⟨z1, z2, z3, z4⟩
    · rw [q_off _ _ _ (by omega), q_off _ _ _ (by omega), q_off _ _ _ (by omega), q_off _ _ _ (by omega)]; exact x4 i' hi'
  have hM1 := MD_fr hM hD f (fun c j q => by unfold GX; omega)
  have t9 := (thing9 hM1.1 hD.1 (i := i) 0).1 hi
  obtain ⟨m1, m2, m3, m4⟩ := hM1.1
  have u := m3 (i) (by omega)
  have e1 : f_X8_renew 0 (nI i) 0 v μ = some (D.1.2.2.1 (i), st (st μ 16 i v) 22 0 0) := by
    unfold f_X8_renew f_X8_renew_38 f_X6_changeSite f_X0_row
    simp (disch := omega) only [lt_k, bnv_s, bnd_s, grd_t, q_in, q_inb, q_c, q_leT, q_leF, q_ltT, q_ltF, q_neg, q_nn, q_z, q_le0, q_b0, q_b1, nI_add, nI_0, q_off, q_self, q_oth, cst_2, st_2, ↓reduceIte, f_X8_cellAt, f_X8_roadAt, q_le1, q_nle1, q_le2, q_nle2, q_le5, q_nle5, q_le6, q_nle6, q_le8, q_nle8, q_le12, q_nle12, q_le25, q_nle25, q_le36, q_nle36, q_le60, q_nle60, q_le99, q_nle99, q_le100, q_nle100, q_le300, q_nle300, q_le640, q_nle640, q_le411, q_nle411, q_mul2, q_lmul2, q_mul3, q_lmul3, q_mul5, q_lmul5, q_mul6, q_lmul6, q_mul10, q_lmul10, q_add1, q_ladd1, q_add2, q_ladd2, q_add3, q_ladd3, q_add5, q_ladd5, q_add6, q_ladd6, q_add100, q_ladd100, q_div2, q_rem2, q_div3, q_rem3, q_div6, q_rem6, q_div10, q_rem10, s8, q_10, u8_1, q_r01, q_r11, b2i_t, u8_99, hin, y1, Nat.reduceAdd]
  generalize st (st μ 16 i v) 22 0 0 = m at *
  have f2 : fr GM m (st (st m 123 (i) v) 122 6 0) := fr_st' (fr_st (by unfold GM; omega)) (by unfold GM; omega)
  have b1 : MD (d_G D (D.1.1, D.1.2.1, upd D.1.2.2.1 (i) v, D.1.2.2.2.1, D.1.2.2.2.2)) (st (st m 123 (i) v) 122 6 0) := by
    refine MD_G hM1 f2 ⟨by rw [q_oth _ _ _ (by omega), q_off _ _ _ (by omega)]; exact m1, by rw [q_oth _ _ _ (by omega), q_off _ _ _ (by omega)]; exact m2, fun i' hi' => ?_, fun i' hi' => ?_⟩ (by rw [q_self])
    · obtain ⟨z1, z2⟩ := m3 i' hi'
      rw [q_off (st m 123 (i) v) (k := 122) (k' := 123) _ _ (by omega), q_at, q_off (st m 123 (i) v) (k := 122) (k' := 124) _ _ (by omega), q_off m (k := 123) (k' := 124) _ _ (by omega)]
      show _ = upd D.1.2.2.1 (i) v i' ∧ _ = D.1.2.2.2.1 i'
      unfold upd
      by_cases r : i' = i
      · rw [if_pos r, if_pos r]; exact ⟨rfl, z2⟩
      · rw [if_neg r, if_neg r]; exact ⟨z1, z2⟩
    · rw [q_off _ _ _ (by omega), q_off _ _ _ (by omega), q_off _ _ _ (by omega), q_off _ _ _ (by omega)]; exact m4 i' hi'
  refine ⟨D.1.2.2.1 (i), m, _, e1, ?_, Inv_data hR hok a1 f b1 f2⟩
  · unfold f_X9_renew f_X9_renew_29 f_X9_of
    simp (disch := omega) only [lt_k, bnv_s, bnd_s, grd_t, q_in, q_inb, q_c, q_leT, q_leF, q_ltT, q_ltF, q_neg, q_nn, q_z, q_le0, q_b0, q_b1, nI_add, nI_0, q_off, q_self, q_oth, cst_2, st_2, ↓reduceIte, f_X8_cellAt, f_X8_roadAt, q_le1, q_nle1, q_le2, q_nle2, q_le5, q_nle5, q_le6, q_nle6, q_le8, q_nle8, q_le12, q_nle12, q_le25, q_nle25, q_le36, q_nle36, q_le60, q_nle60, q_le99, q_nle99, q_le100, q_nle100, q_le300, q_nle300, q_le640, q_nle640, q_le411, q_nle411, q_mul2, q_lmul2, q_mul3, q_lmul3, q_mul5, q_lmul5, q_mul6, q_lmul6, q_mul10, q_lmul10, q_add1, q_ladd1, q_add2, q_ladd2, q_add3, q_ladd3, q_add5, q_ladd5, q_add6, q_ladd6, q_add100, q_ladd100, q_div2, q_rem2, q_div3, q_rem3, q_div6, q_rem6, q_div10, q_rem10, t9, q_r01, q_r11, b2i_t, q_10, i9_99, hin, q_5z, Int32.zero_add, u.1]
theorem x_ren01 {D : TD} {μ : Mem} (hD : D_ok D) (hX : XD 14 D μ) (hM : MD D μ) (hR : Rst μ) {i : Nat} (hi : i < D.1.1) {v : Int32} (hin : inR v 0 9 = true) :
    ∃ r μ1 μ2, f_X8_renew 0 (nI i) 1 v μ = some (r, μ1) ∧ f_X9_renew 0 (nI i) 1 v μ1 = some (r, μ2) ∧ Inv μ2 := by
  have hin' := inR_t.mp hin
  obtain ⟨g1, g2, g3, g4, g5, g6⟩ := id hD.1
  have h99 : ∀ i, i < 10 → 0 ≤ (D.1.2.2.1 i).toInt ∧ (D.1.2.2.1 i).toInt ≤ 99 := fun i hi => ⟨(g3 i hi).1, hD.2.1 i hi⟩
  have hok : D_ok (d_G D (D.1.1, D.1.2.1, D.1.2.2.1, upd D.1.2.2.2.1 (i) v, D.1.2.2.2.2)) := d_G_ok hD ⟨g1, g2, g3, upd_bd g4 hin', g5, g6⟩ (hD.2.1) (Nat.le_refl _) (Nat.le_refl _)
  have s8 := (site0 (g := 15) hX.1 hD.1 (i := i)).1 hi
  obtain ⟨x1, x2, x3, x4⟩ := hX.1
  simp only [Nat.reduceAdd] at x1 x2 x3 x4
  obtain ⟨y1, y2, y3, y4⟩ := x3 i (by omega)
  have f : fr GX μ (st (st μ 17 i v) 22 0 0) := fr_st' (fr_st (by unfold GX; omega)) (by unfold GX; omega)
  have a1 : XD 14 (d_G D (D.1.1, D.1.2.1, D.1.2.2.1, upd D.1.2.2.2.1 (i) v, D.1.2.2.2.2)) (st (st μ 17 i v) 22 0 0) := by
    refine XD_G hX f ⟨by rw [q_off _ _ _ (by omega), q_off _ _ _ (by omega)]; exact x1, by rw [q_off _ _ _ (by omega), q_off _ _ _ (by omega)]; exact x2, fun i' hi' => ?_, fun i' hi' => ?_⟩ (by rw [q_self])
    · obtain ⟨z1, z2, z3, z4⟩ := x3 i' hi'
      simp (disch := omega) only [lt_k, bnv_s, bnd_s, grd_t, q_in, q_inb, q_c, q_leT, q_leF, q_ltT, q_ltF, q_neg, q_nn, q_z, q_le0, q_b0, q_b1, nI_add, nI_0, q_off, q_self, q_oth, cst_2, st_2, ↓reduceIte, f_X8_cellAt, f_X8_roadAt, q_le1, q_nle1, q_le2, q_nle2, q_le5, q_nle5, q_le6, q_nle6, q_le8, q_nle8, q_le12, q_nle12, q_le25, q_nle25, q_le36, q_nle36, q_le60, q_nle60, q_le99, q_nle99, q_le100, q_nle100, q_le300, q_nle300, q_le640, q_nle640, q_le411, q_nle411, q_mul2, q_lmul2, q_mul3, q_lmul3, q_mul5, q_lmul5, q_mul6, q_lmul6, q_mul10, q_lmul10, q_add1, q_ladd1, q_add2, q_ladd2, q_add3, q_ladd3, q_add5, q_ladd5, q_add6, q_ladd6, q_add100, q_ladd100, q_div2, q_rem2, q_div3, q_rem3, q_div6, q_rem6, q_div10, q_rem10, q_at]
      show _ = D.1.2.2.1 i' ∧ _ = upd D.1.2.2.2.1 (i) v i' ∧ _ = D.1.2.2.1 (5 + i') ∧ _ = upd D.1.2.2.2.1 (i) v (5 + i')
      unfold upd
      rw [if_neg (show ¬ 5 + i' = i by omega)]
      by_cases r : i' = i
      · rw [if_pos r, if_pos (show i' = i by omega)]; exact ⟨z1, rfl, z3, z4⟩
      · rw [if_neg r, if_neg (show ¬ i' = i by omega)]; exact ⟨z1, z2, z3, z4⟩
    · rw [q_off _ _ _ (by omega), q_off _ _ _ (by omega), q_off _ _ _ (by omega), q_off _ _ _ (by omega)]; exact x4 i' hi'
  have hM1 := MD_fr hM hD f (fun c j q => by unfold GX; omega)
  have t9 := (thing9 hM1.1 hD.1 (i := i) 1).1 hi
  obtain ⟨m1, m2, m3, m4⟩ := hM1.1
  have u := m3 (i) (by omega)
  have e1 : f_X8_renew 0 (nI i) 1 v μ = some (D.1.2.2.2.1 (i), st (st μ 17 i v) 22 0 0) := by
    unfold f_X8_renew f_X8_renew_38 f_X6_changeSite f_X0_row
    simp (disch := omega) only [lt_k, bnv_s, bnd_s, grd_t, q_in, q_inb, q_c, q_leT, q_leF, q_ltT, q_ltF, q_neg, q_nn, q_z, q_le0, q_b0, q_b1, nI_add, nI_0, q_off, q_self, q_oth, cst_2, st_2, ↓reduceIte, f_X8_cellAt, f_X8_roadAt, q_le1, q_nle1, q_le2, q_nle2, q_le5, q_nle5, q_le6, q_nle6, q_le8, q_nle8, q_le12, q_nle12, q_le25, q_nle25, q_le36, q_nle36, q_le60, q_nle60, q_le99, q_nle99, q_le100, q_nle100, q_le300, q_nle300, q_le640, q_nle640, q_le411, q_nle411, q_mul2, q_lmul2, q_mul3, q_lmul3, q_mul5, q_lmul5, q_mul6, q_lmul6, q_mul10, q_lmul10, q_add1, q_ladd1, q_add2, q_ladd2, q_add3, q_ladd3, q_add5, q_ladd5, q_add6, q_ladd6, q_add100, q_ladd100, q_div2, q_rem2, q_div3, q_rem3, q_div6, q_rem6, q_div10, q_rem10, s8, q_10, u8_1, q_r01, q_r11, b2i_t, u8_9, hin, y2, Nat.reduceAdd]
  generalize st (st μ 17 i v) 22 0 0 = m at *
  have f2 : fr GM m (st (st m 124 (i) v) 122 6 0) := fr_st' (fr_st (by unfold GM; omega)) (by unfold GM; omega)
  have b1 : MD (d_G D (D.1.1, D.1.2.1, D.1.2.2.1, upd D.1.2.2.2.1 (i) v, D.1.2.2.2.2)) (st (st m 124 (i) v) 122 6 0) := by
    refine MD_G hM1 f2 ⟨by rw [q_oth _ _ _ (by omega), q_off _ _ _ (by omega)]; exact m1, by rw [q_oth _ _ _ (by omega), q_off _ _ _ (by omega)]; exact m2, fun i' hi' => ?_, fun i' hi' => ?_⟩ (by rw [q_self])
    · obtain ⟨z1, z2⟩ := m3 i' hi'
      rw [q_off (st m 124 (i) v) (k := 122) (k' := 123) _ _ (by omega), q_off m (k := 124) (k' := 123) _ _ (by omega), q_off (st m 124 (i) v) (k := 122) (k' := 124) _ _ (by omega), q_at]
      show _ = D.1.2.2.1 i' ∧ _ = upd D.1.2.2.2.1 (i) v i'
      unfold upd
      by_cases r : i' = i
      · rw [if_pos r, if_pos r]; exact ⟨z1, rfl⟩
      · rw [if_neg r, if_neg r]; exact ⟨z1, z2⟩
    · rw [q_off _ _ _ (by omega), q_off _ _ _ (by omega), q_off _ _ _ (by omega), q_off _ _ _ (by omega)]; exact m4 i' hi'
  refine ⟨D.1.2.2.2.1 (i), m, _, e1, ?_, Inv_data hR hok a1 f b1 f2⟩
  · unfold f_X9_renew f_X9_renew_29 f_X9_of
    simp (disch := omega) only [lt_k, bnv_s, bnd_s, grd_t, q_in, q_inb, q_c, q_leT, q_leF, q_ltT, q_ltF, q_neg, q_nn, q_z, q_le0, q_b0, q_b1, nI_add, nI_0, q_off, q_self, q_oth, cst_2, st_2, ↓reduceIte, f_X8_cellAt, f_X8_roadAt, q_le1, q_nle1, q_le2, q_nle2, q_le5, q_nle5, q_le6, q_nle6, q_le8, q_nle8, q_le12, q_nle12, q_le25, q_nle25, q_le36, q_nle36, q_le60, q_nle60, q_le99, q_nle99, q_le100, q_nle100, q_le300, q_nle300, q_le640, q_nle640, q_le411, q_nle411, q_mul2, q_lmul2, q_mul3, q_lmul3, q_mul5, q_lmul5, q_mul6, q_lmul6, q_mul10, q_lmul10, q_add1, q_ladd1, q_add2, q_ladd2, q_add3, q_ladd3, q_add5, q_ladd5, q_add6, q_ladd6, q_add100, q_ladd100, q_div2, q_rem2, q_div3, q_rem3, q_div6, q_rem6, q_div10, q_rem10, t9, q_r01, q_r11, b2i_t, q_10, i9_9, hin, q_5z, Int32.zero_add, u.2]
theorem x_ren10 {D : TD} {μ : Mem} (hD : D_ok D) (hX : XD 14 D μ) (hM : MD D μ) (hR : Rst μ) {i : Nat} (hi : i < D.1.2.1) {v : Int32} (hin : inR v 0 99 = true) :
    ∃ r μ1 μ2, f_X8_renew 1 (nI i) 0 v μ = some (r, μ1) ∧ f_X9_renew 1 (nI i) 0 v μ1 = some (r, μ2) ∧ Inv μ2 := by
  have hin' := inR_t.mp hin
  obtain ⟨g1, g2, g3, g4, g5, g6⟩ := id hD.1
  have h99 : ∀ i, i < 10 → 0 ≤ (D.1.2.2.1 i).toInt ∧ (D.1.2.2.1 i).toInt ≤ 99 := fun i hi => ⟨(g3 i hi).1, hD.2.1 i hi⟩
  have hok : D_ok (d_G D (D.1.1, D.1.2.1, upd D.1.2.2.1 (5 + i) v, D.1.2.2.2.1, D.1.2.2.2.2)) := d_G_ok hD ⟨g1, g2, upd_bd g3 (by omega), g4, g5, g6⟩ (fun i hi => (upd_bd h99 hin' i hi).2) (Nat.le_refl _) (Nat.le_refl _)
  have s8 := (site0 (g := 15) hX.1 hD.1 (i := i)).2 hi
  obtain ⟨x1, x2, x3, x4⟩ := hX.1
  simp only [Nat.reduceAdd] at x1 x2 x3 x4
  obtain ⟨y1, y2, y3, y4⟩ := x3 i (by omega)
  have f : fr GX μ (st (st μ 18 i v) 22 0 0) := fr_st' (fr_st (by unfold GX; omega)) (by unfold GX; omega)
  have a1 : XD 14 (d_G D (D.1.1, D.1.2.1, upd D.1.2.2.1 (5 + i) v, D.1.2.2.2.1, D.1.2.2.2.2)) (st (st μ 18 i v) 22 0 0) := by
    refine XD_G hX f ⟨by rw [q_off _ _ _ (by omega), q_off _ _ _ (by omega)]; exact x1, by rw [q_off _ _ _ (by omega), q_off _ _ _ (by omega)]; exact x2, fun i' hi' => ?_, fun i' hi' => ?_⟩ (by rw [q_self])
    · obtain ⟨z1, z2, z3, z4⟩ := x3 i' hi'
      simp (disch := omega) only [lt_k, bnv_s, bnd_s, grd_t, q_in, q_inb, q_c, q_leT, q_leF, q_ltT, q_ltF, q_neg, q_nn, q_z, q_le0, q_b0, q_b1, nI_add, nI_0, q_off, q_self, q_oth, cst_2, st_2, ↓reduceIte, f_X8_cellAt, f_X8_roadAt, q_le1, q_nle1, q_le2, q_nle2, q_le5, q_nle5, q_le6, q_nle6, q_le8, q_nle8, q_le12, q_nle12, q_le25, q_nle25, q_le36, q_nle36, q_le60, q_nle60, q_le99, q_nle99, q_le100, q_nle100, q_le300, q_nle300, q_le640, q_nle640, q_le411, q_nle411, q_mul2, q_lmul2, q_mul3, q_lmul3, q_mul5, q_lmul5, q_mul6, q_lmul6, q_mul10, q_lmul10, q_add1, q_ladd1, q_add2, q_ladd2, q_add3, q_ladd3, q_add5, q_ladd5, q_add6, q_ladd6, q_add100, q_ladd100, q_div2, q_rem2, q_div3, q_rem3, q_div6, q_rem6, q_div10, q_rem10, q_at]
      show _ = upd D.1.2.2.1 (5 + i) v i' ∧ _ = D.1.2.2.2.1 i' ∧ _ = upd D.1.2.2.1 (5 + i) v (5 + i') ∧ _ = D.1.2.2.2.1 (5 + i')
      unfold upd
      rw [if_neg (show ¬ i' = 5 + i by omega)]
      by_cases r : i' = i
      · rw [if_pos r, if_pos (show 5 + i' = 5 + i by omega)]; exact ⟨z1, z2, rfl, z4⟩
      · rw [if_neg r, if_neg (show ¬ 5 + i' = 5 + i by omega)]; exact ⟨z1, z2, z3, z4⟩
    · rw [q_off _ _ _ (by omega), q_off _ _ _ (by omega), q_off _ _ _ (by omega), q_off _ _ _ (by omega)]; exact x4 i' hi'
  have hM1 := MD_fr hM hD f (fun c j q => by unfold GX; omega)
  have t9 := (thing9 hM1.1 hD.1 (i := i) 0).2 hi
  obtain ⟨m1, m2, m3, m4⟩ := hM1.1
  have u := m3 (5 + i) (by omega)
  have e1 : f_X8_renew 1 (nI i) 0 v μ = some (D.1.2.2.1 (5 + i), st (st μ 18 i v) 22 0 0) := by
    unfold f_X8_renew f_X8_renew_38 f_X6_changeSite f_X0_row
    simp (disch := omega) only [lt_k, bnv_s, bnd_s, grd_t, q_in, q_inb, q_c, q_leT, q_leF, q_ltT, q_ltF, q_neg, q_nn, q_z, q_le0, q_b0, q_b1, nI_add, nI_0, q_off, q_self, q_oth, cst_2, st_2, ↓reduceIte, f_X8_cellAt, f_X8_roadAt, q_le1, q_nle1, q_le2, q_nle2, q_le5, q_nle5, q_le6, q_nle6, q_le8, q_nle8, q_le12, q_nle12, q_le25, q_nle25, q_le36, q_nle36, q_le60, q_nle60, q_le99, q_nle99, q_le100, q_nle100, q_le300, q_nle300, q_le640, q_nle640, q_le411, q_nle411, q_mul2, q_lmul2, q_mul3, q_lmul3, q_mul5, q_lmul5, q_mul6, q_lmul6, q_mul10, q_lmul10, q_add1, q_ladd1, q_add2, q_ladd2, q_add3, q_ladd3, q_add5, q_ladd5, q_add6, q_ladd6, q_add100, q_ladd100, q_div2, q_rem2, q_div3, q_rem3, q_div6, q_rem6, q_div10, q_rem10, s8, q_10, u8_1, q_r01, q_r11, b2i_t, u8_99, hin, y3, Nat.reduceAdd]
  generalize st (st μ 18 i v) 22 0 0 = m at *
  have f2 : fr GM m (st (st m 123 (5 + i) v) 122 6 0) := fr_st' (fr_st (by unfold GM; omega)) (by unfold GM; omega)
  have b1 : MD (d_G D (D.1.1, D.1.2.1, upd D.1.2.2.1 (5 + i) v, D.1.2.2.2.1, D.1.2.2.2.2)) (st (st m 123 (5 + i) v) 122 6 0) := by
    refine MD_G hM1 f2 ⟨by rw [q_oth _ _ _ (by omega), q_off _ _ _ (by omega)]; exact m1, by rw [q_oth _ _ _ (by omega), q_off _ _ _ (by omega)]; exact m2, fun i' hi' => ?_, fun i' hi' => ?_⟩ (by rw [q_self])
    · obtain ⟨z1, z2⟩ := m3 i' hi'
      rw [q_off (st m 123 (5 + i) v) (k := 122) (k' := 123) _ _ (by omega), q_at, q_off (st m 123 (5 + i) v) (k := 122) (k' := 124) _ _ (by omega), q_off m (k := 123) (k' := 124) _ _ (by omega)]
      show _ = upd D.1.2.2.1 (5 + i) v i' ∧ _ = D.1.2.2.2.1 i'
      unfold upd
      by_cases r : i' = 5 + i
      · rw [if_pos r, if_pos r]; exact ⟨rfl, z2⟩
      · rw [if_neg r, if_neg r]; exact ⟨z1, z2⟩
    · rw [q_off _ _ _ (by omega), q_off _ _ _ (by omega), q_off _ _ _ (by omega), q_off _ _ _ (by omega)]; exact m4 i' hi'
  refine ⟨D.1.2.2.1 (5 + i), m, _, e1, ?_, Inv_data hR hok a1 f b1 f2⟩
  · unfold f_X9_renew f_X9_renew_29 f_X9_of
    simp (disch := omega) only [lt_k, bnv_s, bnd_s, grd_t, q_in, q_inb, q_c, q_leT, q_leF, q_ltT, q_ltF, q_neg, q_nn, q_z, q_le0, q_b0, q_b1, nI_add, nI_0, q_off, q_self, q_oth, cst_2, st_2, ↓reduceIte, f_X8_cellAt, f_X8_roadAt, q_le1, q_nle1, q_le2, q_nle2, q_le5, q_nle5, q_le6, q_nle6, q_le8, q_nle8, q_le12, q_nle12, q_le25, q_nle25, q_le36, q_nle36, q_le60, q_nle60, q_le99, q_nle99, q_le100, q_nle100, q_le300, q_nle300, q_le640, q_nle640, q_le411, q_nle411, q_mul2, q_lmul2, q_mul3, q_lmul3, q_mul5, q_lmul5, q_mul6, q_lmul6, q_mul10, q_lmul10, q_add1, q_ladd1, q_add2, q_ladd2, q_add3, q_ladd3, q_add5, q_ladd5, q_add6, q_ladd6, q_add100, q_ladd100, q_div2, q_rem2, q_div3, q_rem3, q_div6, q_rem6, q_div10, q_rem10, t9, q_r01, q_r11, b2i_t, q_10, i9_99, hin, q_5o, u.1]
theorem x_ren11 {D : TD} {μ : Mem} (hD : D_ok D) (hX : XD 14 D μ) (hM : MD D μ) (hR : Rst μ) {i : Nat} (hi : i < D.1.2.1) {v : Int32} (hin : inR v 0 9 = true) :
    ∃ r μ1 μ2, f_X8_renew 1 (nI i) 1 v μ = some (r, μ1) ∧ f_X9_renew 1 (nI i) 1 v μ1 = some (r, μ2) ∧ Inv μ2 := by
  have hin' := inR_t.mp hin
  obtain ⟨g1, g2, g3, g4, g5, g6⟩ := id hD.1
  have h99 : ∀ i, i < 10 → 0 ≤ (D.1.2.2.1 i).toInt ∧ (D.1.2.2.1 i).toInt ≤ 99 := fun i hi => ⟨(g3 i hi).1, hD.2.1 i hi⟩
  have hok : D_ok (d_G D (D.1.1, D.1.2.1, D.1.2.2.1, upd D.1.2.2.2.1 (5 + i) v, D.1.2.2.2.2)) := d_G_ok hD ⟨g1, g2, g3, upd_bd g4 hin', g5, g6⟩ (hD.2.1) (Nat.le_refl _) (Nat.le_refl _)
  have s8 := (site0 (g := 15) hX.1 hD.1 (i := i)).2 hi
  obtain ⟨x1, x2, x3, x4⟩ := hX.1
  simp only [Nat.reduceAdd] at x1 x2 x3 x4
  obtain ⟨y1, y2, y3, y4⟩ := x3 i (by omega)
  have f : fr GX μ (st (st μ 19 i v) 22 0 0) := fr_st' (fr_st (by unfold GX; omega)) (by unfold GX; omega)
  have a1 : XD 14 (d_G D (D.1.1, D.1.2.1, D.1.2.2.1, upd D.1.2.2.2.1 (5 + i) v, D.1.2.2.2.2)) (st (st μ 19 i v) 22 0 0) := by
    refine XD_G hX f ⟨by rw [q_off _ _ _ (by omega), q_off _ _ _ (by omega)]; exact x1, by rw [q_off _ _ _ (by omega), q_off _ _ _ (by omega)]; exact x2, fun i' hi' => ?_, fun i' hi' => ?_⟩ (by rw [q_self])
    · obtain ⟨z1, z2, z3, z4⟩ := x3 i' hi'
      simp (disch := omega) only [lt_k, bnv_s, bnd_s, grd_t, q_in, q_inb, q_c, q_leT, q_leF, q_ltT, q_ltF, q_neg, q_nn, q_z, q_le0, q_b0, q_b1, nI_add, nI_0, q_off, q_self, q_oth, cst_2, st_2, ↓reduceIte, f_X8_cellAt, f_X8_roadAt, q_le1, q_nle1, q_le2, q_nle2, q_le5, q_nle5, q_le6, q_nle6, q_le8, q_nle8, q_le12, q_nle12, q_le25, q_nle25, q_le36, q_nle36, q_le60, q_nle60, q_le99, q_nle99, q_le100, q_nle100, q_le300, q_nle300, q_le640, q_nle640, q_le411, q_nle411, q_mul2, q_lmul2, q_mul3, q_lmul3, q_mul5, q_lmul5, q_mul6, q_lmul6, q_mul10, q_lmul10, q_add1, q_ladd1, q_add2, q_ladd2, q_add3, q_ladd3, q_add5, q_ladd5, q_add6, q_ladd6, q_add100, q_ladd100, q_div2, q_rem2, q_div3, q_rem3, q_div6, q_rem6, q_div10, q_rem10, q_at]
      show _ = D.1.2.2.1 i' ∧ _ = upd D.1.2.2.2.1 (5 + i) v i' ∧ _ = D.1.2.2.1 (5 + i') ∧ _ = upd D.1.2.2.2.1 (5 + i) v (5 + i')
      unfold upd
      rw [if_neg (show ¬ i' = 5 + i by omega)]
      by_cases r : i' = i
      · rw [if_pos r, if_pos (show 5 + i' = 5 + i by omega)]; exact ⟨z1, z2, z3, rfl⟩
      · rw [if_neg r, if_neg (show ¬ 5 + i' = 5 + i by omega)]; exact ⟨z1, z2, z3, z4⟩
    · rw [q_off _ _ _ (by omega), q_off _ _ _ (by omega), q_off _ _ _ (by omega), q_off _ _ _ (by omega)]; exact x4 i' hi'
  have hM1 := MD_fr hM hD f (fun c j q => by unfold GX; omega)
  have t9 := (thing9 hM1.1 hD.1 (i := i) 1).2 hi
  obtain ⟨m1, m2, m3, m4⟩ := hM1.1
  have u := m3 (5 + i) (by omega)
  have e1 : f_X8_renew 1 (nI i) 1 v μ = some (D.1.2.2.2.1 (5 + i), st (st μ 19 i v) 22 0 0) := by
    unfold f_X8_renew f_X8_renew_38 f_X6_changeSite f_X0_row
    simp (disch := omega) only [lt_k, bnv_s, bnd_s, grd_t, q_in, q_inb, q_c, q_leT, q_leF, q_ltT, q_ltF, q_neg, q_nn, q_z, q_le0, q_b0, q_b1, nI_add, nI_0, q_off, q_self, q_oth, cst_2, st_2, ↓reduceIte, f_X8_cellAt, f_X8_roadAt, q_le1, q_nle1, q_le2, q_nle2, q_le5, q_nle5, q_le6, q_nle6, q_le8, q_nle8, q_le12, q_nle12, q_le25, q_nle25, q_le36, q_nle36, q_le60, q_nle60, q_le99, q_nle99, q_le100, q_nle100, q_le300, q_nle300, q_le640, q_nle640, q_le411, q_nle411, q_mul2, q_lmul2, q_mul3, q_lmul3, q_mul5, q_lmul5, q_mul6, q_lmul6, q_mul10, q_lmul10, q_add1, q_ladd1, q_add2, q_ladd2, q_add3, q_ladd3, q_add5, q_ladd5, q_add6, q_ladd6, q_add100, q_ladd100, q_div2, q_rem2, q_div3, q_rem3, q_div6, q_rem6, q_div10, q_rem10, s8, q_10, u8_1, q_r01, q_r11, b2i_t, u8_9, hin, y4, Nat.reduceAdd]
  generalize st (st μ 19 i v) 22 0 0 = m at *
  have f2 : fr GM m (st (st m 124 (5 + i) v) 122 6 0) := fr_st' (fr_st (by unfold GM; omega)) (by unfold GM; omega)
  have b1 : MD (d_G D (D.1.1, D.1.2.1, D.1.2.2.1, upd D.1.2.2.2.1 (5 + i) v, D.1.2.2.2.2)) (st (st m 124 (5 + i) v) 122 6 0) := by
    refine MD_G hM1 f2 ⟨by rw [q_oth _ _ _ (by omega), q_off _ _ _ (by omega)]; exact m1, by rw [q_oth _ _ _ (by omega), q_off _ _ _ (by omega)]; exact m2, fun i' hi' => ?_, fun i' hi' => ?_⟩ (by rw [q_self])
    · obtain ⟨z1, z2⟩ := m3 i' hi'
      rw [q_off (st m 124 (5 + i) v) (k := 122) (k' := 123) _ _ (by omega), q_off m (k := 124) (k' := 123) _ _ (by omega), q_off (st m 124 (5 + i) v) (k := 122) (k' := 124) _ _ (by omega), q_at]
      show _ = D.1.2.2.1 i' ∧ _ = upd D.1.2.2.2.1 (5 + i) v i'
      unfold upd
      by_cases r : i' = 5 + i
      · rw [if_pos r, if_pos r]; exact ⟨z1, rfl⟩
      · rw [if_neg r, if_neg r]; exact ⟨z1, z2⟩
    · rw [q_off _ _ _ (by omega), q_off _ _ _ (by omega), q_off _ _ _ (by omega), q_off _ _ _ (by omega)]; exact m4 i' hi'
  refine ⟨D.1.2.2.2.1 (5 + i), m, _, e1, ?_, Inv_data hR hok a1 f b1 f2⟩
  · unfold f_X9_renew f_X9_renew_29 f_X9_of
    simp (disch := omega) only [lt_k, bnv_s, bnd_s, grd_t, q_in, q_inb, q_c, q_leT, q_leF, q_ltT, q_ltF, q_neg, q_nn, q_z, q_le0, q_b0, q_b1, nI_add, nI_0, q_off, q_self, q_oth, cst_2, st_2, ↓reduceIte, f_X8_cellAt, f_X8_roadAt, q_le1, q_nle1, q_le2, q_nle2, q_le5, q_nle5, q_le6, q_nle6, q_le8, q_nle8, q_le12, q_nle12, q_le25, q_nle25, q_le36, q_nle36, q_le60, q_nle60, q_le99, q_nle99, q_le100, q_nle100, q_le300, q_nle300, q_le640, q_nle640, q_le411, q_nle411, q_mul2, q_lmul2, q_mul3, q_lmul3, q_mul5, q_lmul5, q_mul6, q_lmul6, q_mul10, q_lmul10, q_add1, q_ladd1, q_add2, q_ladd2, q_add3, q_ladd3, q_add5, q_ladd5, q_add6, q_ladd6, q_add100, q_ladd100, q_div2, q_rem2, q_div3, q_rem3, q_div6, q_rem6, q_div10, q_rem10, t9, q_r01, q_r11, b2i_t, q_10, i9_9, hin, q_5o, u.2]
theorem st_renew {μ : Mem} (hv : Inv μ) (a1 : Int32) (a2 : Int32) (a3 : Int32) (a4 : Int32) : ∃ r μ1 μ2, f_X8_renew a1 a2 a3 a4 μ = some (r, μ1) ∧ f_X9_renew a1 a2 a3 a4 μ1 = some (r, μ2) ∧ Inv μ2 := by
  obtain ⟨⟨D, hD, hX, hM⟩, hR⟩ := id hv
  rcases site_cases D.1 hD.1 a1 a2 with ⟨i, hi, rfl, rfl⟩ | ⟨i, hi, rfl, rfl⟩ | ⟨s8, s9⟩
  · have s8 := (site0 (g := 15) hX.1 hD.1 (i := i)).1 hi
    have t9 := fun w => (thing9 hM.1 hD.1 (i := i) w).1 hi
    rcases w_cases a3 with ⟨w, rfl | rfl⟩ | w
    · by_cases hin : inR a4 0 99 = true
      · exact x_ren00 hD hX hM hR hi hin
      · have hin' := ff_t hin
        refine ⟨-2, μ, μ, ?_, ?_, hv⟩
        · unfold f_X8_renew f_X8_renew_38
          simp (disch := omega) only [lt_k, bnv_s, bnd_s, grd_t, q_in, q_inb, q_c, q_leT, q_leF, q_ltT, q_ltF, q_neg, q_nn, q_z, q_le0, q_b0, q_b1, nI_add, nI_0, q_off, q_self, q_oth, cst_2, st_2, ↓reduceIte, f_X8_cellAt, f_X8_roadAt, q_le1, q_nle1, q_le2, q_nle2, q_le5, q_nle5, q_le6, q_nle6, q_le8, q_nle8, q_le12, q_nle12, q_le25, q_nle25, q_le36, q_nle36, q_le60, q_nle60, q_le99, q_nle99, q_le100, q_nle100, q_le300, q_nle300, q_le640, q_nle640, q_le411, q_nle411, q_mul2, q_lmul2, q_mul3, q_lmul3, q_mul5, q_lmul5, q_mul6, q_lmul6, q_mul10, q_lmul10, q_add1, q_ladd1, q_add2, q_ladd2, q_add3, q_ladd3, q_add5, q_ladd5, q_add6, q_ladd6, q_add100, q_ladd100, q_div2, q_rem2, q_div3, q_rem3, q_div6, q_rem6, q_div10, q_rem10, s8, q_10, u8_1, w, b2i_t, b2i_f, u8_99, hin']
        · unfold f_X9_renew f_X9_renew_29
          simp (disch := omega) only [lt_k, bnv_s, bnd_s, grd_t, q_in, q_inb, q_c, q_leT, q_leF, q_ltT, q_ltF, q_neg, q_nn, q_z, q_le0, q_b0, q_b1, nI_add, nI_0, q_off, q_self, q_oth, cst_2, st_2, ↓reduceIte, f_X8_cellAt, f_X8_roadAt, q_le1, q_nle1, q_le2, q_nle2, q_le5, q_nle5, q_le6, q_nle6, q_le8, q_nle8, q_le12, q_nle12, q_le25, q_nle25, q_le36, q_nle36, q_le60, q_nle60, q_le99, q_nle99, q_le100, q_nle100, q_le300, q_nle300, q_le640, q_nle640, q_le411, q_nle411, q_mul2, q_lmul2, q_mul3, q_lmul3, q_mul5, q_lmul5, q_mul6, q_lmul6, q_mul10, q_lmul10, q_add1, q_ladd1, q_add2, q_ladd2, q_add3, q_ladd3, q_add5, q_ladd5, q_add6, q_ladd6, q_add100, q_ladd100, q_div2, q_rem2, q_div3, q_rem3, q_div6, q_rem6, q_div10, q_rem10, t9, q_10, w, b2i_t, b2i_f, i9_99, hin']
    · by_cases hin : inR a4 0 9 = true
      · exact x_ren01 hD hX hM hR hi hin
      · have hin' := ff_t hin
        refine ⟨-2, μ, μ, ?_, ?_, hv⟩
        · unfold f_X8_renew f_X8_renew_38
          simp (disch := omega) only [lt_k, bnv_s, bnd_s, grd_t, q_in, q_inb, q_c, q_leT, q_leF, q_ltT, q_ltF, q_neg, q_nn, q_z, q_le0, q_b0, q_b1, nI_add, nI_0, q_off, q_self, q_oth, cst_2, st_2, ↓reduceIte, f_X8_cellAt, f_X8_roadAt, q_le1, q_nle1, q_le2, q_nle2, q_le5, q_nle5, q_le6, q_nle6, q_le8, q_nle8, q_le12, q_nle12, q_le25, q_nle25, q_le36, q_nle36, q_le60, q_nle60, q_le99, q_nle99, q_le100, q_nle100, q_le300, q_nle300, q_le640, q_nle640, q_le411, q_nle411, q_mul2, q_lmul2, q_mul3, q_lmul3, q_mul5, q_lmul5, q_mul6, q_lmul6, q_mul10, q_lmul10, q_add1, q_ladd1, q_add2, q_ladd2, q_add3, q_ladd3, q_add5, q_ladd5, q_add6, q_ladd6, q_add100, q_ladd100, q_div2, q_rem2, q_div3, q_rem3, q_div6, q_rem6, q_div10, q_rem10, s8, q_10, u8_1, w, b2i_t, b2i_f, u8_9, hin']
        · unfold f_X9_renew f_X9_renew_29
          simp (disch := omega) only [lt_k, bnv_s, bnd_s, grd_t, q_in, q_inb, q_c, q_leT, q_leF, q_ltT, q_ltF, q_neg, q_nn, q_z, q_le0, q_b0, q_b1, nI_add, nI_0, q_off, q_self, q_oth, cst_2, st_2, ↓reduceIte, f_X8_cellAt, f_X8_roadAt, q_le1, q_nle1, q_le2, q_nle2, q_le5, q_nle5, q_le6, q_nle6, q_le8, q_nle8, q_le12, q_nle12, q_le25, q_nle25, q_le36, q_nle36, q_le60, q_nle60, q_le99, q_nle99, q_le100, q_nle100, q_le300, q_nle300, q_le640, q_nle640, q_le411, q_nle411, q_mul2, q_lmul2, q_mul3, q_lmul3, q_mul5, q_lmul5, q_mul6, q_lmul6, q_mul10, q_lmul10, q_add1, q_ladd1, q_add2, q_ladd2, q_add3, q_ladd3, q_add5, q_ladd5, q_add6, q_ladd6, q_add100, q_ladd100, q_div2, q_rem2, q_div3, q_rem3, q_div6, q_rem6, q_div10, q_rem10, t9, q_10, w, b2i_t, b2i_f, i9_9, hin']
    · refine ⟨-1, μ, μ, ?_, ?_, hv⟩
      · unfold f_X8_renew
        simp (disch := omega) only [lt_k, bnv_s, bnd_s, grd_t, q_in, q_inb, q_c, q_leT, q_leF, q_ltT, q_ltF, q_neg, q_nn, q_z, q_le0, q_b0, q_b1, nI_add, nI_0, q_off, q_self, q_oth, cst_2, st_2, ↓reduceIte, f_X8_cellAt, f_X8_roadAt, q_le1, q_nle1, q_le2, q_nle2, q_le5, q_nle5, q_le6, q_nle6, q_le8, q_nle8, q_le12, q_nle12, q_le25, q_nle25, q_le36, q_nle36, q_le60, q_nle60, q_le99, q_nle99, q_le100, q_nle100, q_le300, q_nle300, q_le640, q_nle640, q_le411, q_nle411, q_mul2, q_lmul2, q_mul3, q_lmul3, q_mul5, q_lmul5, q_mul6, q_lmul6, q_mul10, q_lmul10, q_add1, q_ladd1, q_add2, q_ladd2, q_add3, q_ladd3, q_add5, q_ladd5, q_add6, q_ladd6, q_add100, q_ladd100, q_div2, q_rem2, q_div3, q_rem3, q_div6, q_rem6, q_div10, q_rem10, s8, q_10, u8_1, w, b2i_f]
      · unfold f_X9_renew
        simp (disch := omega) only [lt_k, bnv_s, bnd_s, grd_t, q_in, q_inb, q_c, q_leT, q_leF, q_ltT, q_ltF, q_neg, q_nn, q_z, q_le0, q_b0, q_b1, nI_add, nI_0, q_off, q_self, q_oth, cst_2, st_2, ↓reduceIte, f_X8_cellAt, f_X8_roadAt, q_le1, q_nle1, q_le2, q_nle2, q_le5, q_nle5, q_le6, q_nle6, q_le8, q_nle8, q_le12, q_nle12, q_le25, q_nle25, q_le36, q_nle36, q_le60, q_nle60, q_le99, q_nle99, q_le100, q_nle100, q_le300, q_nle300, q_le640, q_nle640, q_le411, q_nle411, q_mul2, q_lmul2, q_mul3, q_lmul3, q_mul5, q_lmul5, q_mul6, q_lmul6, q_mul10, q_lmul10, q_add1, q_ladd1, q_add2, q_ladd2, q_add3, q_ladd3, q_add5, q_ladd5, q_add6, q_ladd6, q_add100, q_ladd100, q_div2, q_rem2, q_div3, q_rem3, q_div6, q_rem6, q_div10, q_rem10, t9, w, b2i_f]
  · have s8 := (site0 (g := 15) hX.1 hD.1 (i := i)).2 hi
    have t9 := fun w => (thing9 hM.1 hD.1 (i := i) w).2 hi
    rcases w_cases a3 with ⟨w, rfl | rfl⟩ | w
    · by_cases hin : inR a4 0 99 = true
      · exact x_ren10 hD hX hM hR hi hin
      · have hin' := ff_t hin
        refine ⟨-2, μ, μ, ?_, ?_, hv⟩
        · unfold f_X8_renew f_X8_renew_38
          simp (disch := omega) only [lt_k, bnv_s, bnd_s, grd_t, q_in, q_inb, q_c, q_leT, q_leF, q_ltT, q_ltF, q_neg, q_nn, q_z, q_le0, q_b0, q_b1, nI_add, nI_0, q_off, q_self, q_oth, cst_2, st_2, ↓reduceIte, f_X8_cellAt, f_X8_roadAt, q_le1, q_nle1, q_le2, q_nle2, q_le5, q_nle5, q_le6, q_nle6, q_le8, q_nle8, q_le12, q_nle12, q_le25, q_nle25, q_le36, q_nle36, q_le60, q_nle60, q_le99, q_nle99, q_le100, q_nle100, q_le300, q_nle300, q_le640, q_nle640, q_le411, q_nle411, q_mul2, q_lmul2, q_mul3, q_lmul3, q_mul5, q_lmul5, q_mul6, q_lmul6, q_mul10, q_lmul10, q_add1, q_ladd1, q_add2, q_ladd2, q_add3, q_ladd3, q_add5, q_ladd5, q_add6, q_ladd6, q_add100, q_ladd100, q_div2, q_rem2, q_div3, q_rem3, q_div6, q_rem6, q_div10, q_rem10, s8, q_10, u8_1, w, b2i_t, b2i_f, u8_99, hin']
        · unfold f_X9_renew f_X9_renew_29
          simp (disch := omega) only [lt_k, bnv_s, bnd_s, grd_t, q_in, q_inb, q_c, q_leT, q_leF, q_ltT, q_ltF, q_neg, q_nn, q_z, q_le0, q_b0, q_b1, nI_add, nI_0, q_off, q_self, q_oth, cst_2, st_2, ↓reduceIte, f_X8_cellAt, f_X8_roadAt, q_le1, q_nle1, q_le2, q_nle2, q_le5, q_nle5, q_le6, q_nle6, q_le8, q_nle8, q_le12, q_nle12, q_le25, q_nle25, q_le36, q_nle36, q_le60, q_nle60, q_le99, q_nle99, q_le100, q_nle100, q_le300, q_nle300, q_le640, q_nle640, q_le411, q_nle411, q_mul2, q_lmul2, q_mul3, q_lmul3, q_mul5, q_lmul5, q_mul6, q_lmul6, q_mul10, q_lmul10, q_add1, q_ladd1, q_add2, q_ladd2, q_add3, q_ladd3, q_add5, q_ladd5, q_add6, q_ladd6, q_add100, q_ladd100, q_div2, q_rem2, q_div3, q_rem3, q_div6, q_rem6, q_div10, q_rem10, t9, q_10, w, b2i_t, b2i_f, i9_99, hin']
    · by_cases hin : inR a4 0 9 = true
      · exact x_ren11 hD hX hM hR hi hin
      · have hin' := ff_t hin
        refine ⟨-2, μ, μ, ?_, ?_, hv⟩
        · unfold f_X8_renew f_X8_renew_38
          simp (disch := omega) only [lt_k, bnv_s, bnd_s, grd_t, q_in, q_inb, q_c, q_leT, q_leF, q_ltT, q_ltF, q_neg, q_nn, q_z, q_le0, q_b0, q_b1, nI_add, nI_0, q_off, q_self, q_oth, cst_2, st_2, ↓reduceIte, f_X8_cellAt, f_X8_roadAt, q_le1, q_nle1, q_le2, q_nle2, q_le5, q_nle5, q_le6, q_nle6, q_le8, q_nle8, q_le12, q_nle12, q_le25, q_nle25, q_le36, q_nle36, q_le60, q_nle60, q_le99, q_nle99, q_le100, q_nle100, q_le300, q_nle300, q_le640, q_nle640, q_le411, q_nle411, q_mul2, q_lmul2, q_mul3, q_lmul3, q_mul5, q_lmul5, q_mul6, q_lmul6, q_mul10, q_lmul10, q_add1, q_ladd1, q_add2, q_ladd2, q_add3, q_ladd3, q_add5, q_ladd5, q_add6, q_ladd6, q_add100, q_ladd100, q_div2, q_rem2, q_div3, q_rem3, q_div6, q_rem6, q_div10, q_rem10, s8, q_10, u8_1, w, b2i_t, b2i_f, u8_9, hin']
        · unfold f_X9_renew f_X9_renew_29
          simp (disch := omega) only [lt_k, bnv_s, bnd_s, grd_t, q_in, q_inb, q_c, q_leT, q_leF, q_ltT, q_ltF, q_neg, q_nn, q_z, q_le0, q_b0, q_b1, nI_add, nI_0, q_off, q_self, q_oth, cst_2, st_2, ↓reduceIte, f_X8_cellAt, f_X8_roadAt, q_le1, q_nle1, q_le2, q_nle2, q_le5, q_nle5, q_le6, q_nle6, q_le8, q_nle8, q_le12, q_nle12, q_le25, q_nle25, q_le36, q_nle36, q_le60, q_nle60, q_le99, q_nle99, q_le100, q_nle100, q_le300, q_nle300, q_le640, q_nle640, q_le411, q_nle411, q_mul2, q_lmul2, q_mul3, q_lmul3, q_mul5, q_lmul5, q_mul6, q_lmul6, q_mul10, q_lmul10, q_add1, q_ladd1, q_add2, q_ladd2, q_add3, q_ladd3, q_add5, q_ladd5, q_add6, q_ladd6, q_add100, q_ladd100, q_div2, q_rem2, q_div3, q_rem3, q_div6, q_rem6, q_div10, q_rem10, t9, q_10, w, b2i_t, b2i_f, i9_9, hin']
    · refine ⟨-1, μ, μ, ?_, ?_, hv⟩
      · unfold f_X8_renew
        simp (disch := omega) only [lt_k, bnv_s, bnd_s, grd_t, q_in, q_inb, q_c, q_leT, q_leF, q_ltT, q_ltF, q_neg, q_nn, q_z, q_le0, q_b0, q_b1, nI_add, nI_0, q_off, q_self, q_oth, cst_2, st_2, ↓reduceIte, f_X8_cellAt, f_X8_roadAt, q_le1, q_nle1, q_le2, q_nle2, q_le5, q_nle5, q_le6, q_nle6, q_le8, q_nle8, q_le12, q_nle12, q_le25, q_nle25, q_le36, q_nle36, q_le60, q_nle60, q_le99, q_nle99, q_le100, q_nle100, q_le300, q_nle300, q_le640, q_nle640, q_le411, q_nle411, q_mul2, q_lmul2, q_mul3, q_lmul3, q_mul5, q_lmul5, q_mul6, q_lmul6, q_mul10, q_lmul10, q_add1, q_ladd1, q_add2, q_ladd2, q_add3, q_ladd3, q_add5, q_ladd5, q_add6, q_ladd6, q_add100, q_ladd100, q_div2, q_rem2, q_div3, q_rem3, q_div6, q_rem6, q_div10, q_rem10, s8, q_10, u8_1, w, b2i_f]
      · unfold f_X9_renew
        simp (disch := omega) only [lt_k, bnv_s, bnd_s, grd_t, q_in, q_inb, q_c, q_leT, q_leF, q_ltT, q_ltF, q_neg, q_nn, q_z, q_le0, q_b0, q_b1, nI_add, nI_0, q_off, q_self, q_oth, cst_2, st_2, ↓reduceIte, f_X8_cellAt, f_X8_roadAt, q_le1, q_nle1, q_le2, q_nle2, q_le5, q_nle5, q_le6, q_nle6, q_le8, q_nle8, q_le12, q_nle12, q_le25, q_nle25, q_le36, q_nle36, q_le60, q_nle60, q_le99, q_nle99, q_le100, q_nle100, q_le300, q_nle300, q_le640, q_nle640, q_le411, q_nle411, q_mul2, q_lmul2, q_mul3, q_lmul3, q_mul5, q_lmul5, q_mul6, q_lmul6, q_mul10, q_lmul10, q_add1, q_ladd1, q_add2, q_ladd2, q_add3, q_ladd3, q_add5, q_ladd5, q_add6, q_ladd6, q_add100, q_ladd100, q_div2, q_rem2, q_div3, q_rem3, q_div6, q_rem6, q_div10, q_rem10, t9, w, b2i_f]
  · refine ⟨-1, μ, μ, ?_, ?_, hv⟩
    · unfold f_X8_renew
      rw [show f_X0_isSite 15 a1 a2 μ = some 0 from s8 _ _ hX.1, bnv_s, if_pos rfl]
    · unfold f_X9_renew
      rw [s9 _ _ hM.1, bnv_s, if_pos rfl]
