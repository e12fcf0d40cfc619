/-! THE CALLS: rows told by hand (written by gen72.py) -/
def r_add (r : TR) (x y : Int32) : TR := (r.1 + 1, upd r.2.1 r.1 x, upd r.2.2 r.1 y)
def r_no (r : TR) : TR := (0, r.2.1, r.2.2)
theorem x4_add {b n0 : Nat} {r : TR} {μ : Mem} (h : XRw b n0 r μ) (hn : n0 ≤ 8) (hr : r.1 ≤ n0) (x y : Int32) : (r.1 < n0 → ∃ μ', f_X4_add b x y μ = some (nI (r.1 + 1), μ') ∧ XRw b n0 (r_add r x y) μ' ∧ fr (fun c _ => b ≤ c ∧ c ≤ b + 2) μ μ') ∧ (¬ r.1 < n0 → f_X4_add b x y μ = some (-4, μ)) := by
  obtain ⟨h1, h2, h3⟩ := h
  constructor
  · intro hlt
    refine ⟨st (st (st μ (b + 1) r.1 x) (b + 2) r.1 y) b 1 (nI (r.1 + 1)), ?_, ⟨?_, ?_, fun j hj => ?_⟩, fr_st' (fr_st' (fr_st (by omega)) (by omega)) (by omega)⟩
    · unfold f_X4_add
      simp (disch := omega) only [lt_k, bnv_s, bnd_s, grd_t, q_in, q_inb, q_c, q_leT, q_leF, q_ltT, q_ltF, q_neg, q_nn, q_z, q_le0, q_b0, q_b1, nI_add, nI_0, q_off, q_self, q_oth, cst_2, st_2, ↓reduceIte, f_X8_cellAt, f_X8_roadAt, q_le1, q_nle1, q_le2, q_nle2, q_le5, q_nle5, q_le6, q_nle6, q_le8, q_nle8, q_le12, q_nle12, q_le25, q_nle25, q_le36, q_nle36, q_le60, q_nle60, q_le99, q_nle99, q_le100, q_nle100, q_le300, q_nle300, q_le640, q_nle640, q_le411, q_nle411, q_mul2, q_lmul2, q_mul3, q_lmul3, q_mul5, q_lmul5, q_mul6, q_lmul6, q_mul10, q_lmul10, q_add1, q_ladd1, q_add2, q_ladd2, q_add3, q_ladd3, q_add5, q_ladd5, q_add6, q_ladd6, q_add100, q_ladd100, q_div2, q_rem2, q_div3, q_rem3, q_div6, q_rem6, q_div10, q_rem10, h1, h2]
    · simp (disch := omega) only [lt_k, bnv_s, bnd_s, grd_t, q_in, q_inb, q_c, q_leT, q_leF, q_ltT, q_ltF, q_neg, q_nn, q_z, q_le0, q_b0, q_b1, nI_add, nI_0, q_off, q_self, q_oth, cst_2, st_2, ↓reduceIte, f_X8_cellAt, f_X8_roadAt, q_le1, q_nle1, q_le2, q_nle2, q_le5, q_nle5, q_le6, q_nle6, q_le8, q_nle8, q_le12, q_nle12, q_le25, q_nle25, q_le36, q_nle36, q_le60, q_nle60, q_le99, q_nle99, q_le100, q_nle100, q_le300, q_nle300, q_le640, q_nle640, q_le411, q_nle411, q_mul2, q_lmul2, q_mul3, q_lmul3, q_mul5, q_lmul5, q_mul6, q_lmul6, q_mul10, q_lmul10, q_add1, q_ladd1, q_add2, q_ladd2, q_add3, q_ladd3, q_add5, q_ladd5, q_add6, q_ladd6, q_add100, q_ladd100, q_div2, q_rem2, q_div3, q_rem3, q_div6, q_rem6, q_div10, q_rem10, h1]
    · rw [q_self]; rfl
    · change j < r.1 + 1 at hj
      simp (disch := omega) only [lt_k, bnv_s, bnd_s, grd_t, q_in, q_inb, q_c, q_leT, q_leF, q_ltT, q_ltF, q_neg, q_nn, q_z, q_le0, q_b0, q_b1, nI_add, nI_0, q_off, q_self, q_oth, cst_2, st_2, ↓reduceIte, f_X8_cellAt, f_X8_roadAt, q_le1, q_nle1, q_le2, q_nle2, q_le5, q_nle5, q_le6, q_nle6, q_le8, q_nle8, q_le12, q_nle12, q_le25, q_nle25, q_le36, q_nle36, q_le60, q_nle60, q_le99, q_nle99, q_le100, q_nle100, q_le300, q_nle300, q_le640, q_nle640, q_le411, q_nle411, q_mul2, q_lmul2, q_mul3, q_lmul3, q_mul5, q_lmul5, q_mul6, q_lmul6, q_mul10, q_lmul10, q_add1, q_ladd1, q_add2, q_ladd2, q_add3, q_ladd3, q_add5, q_ladd5, q_add6, q_ladd6, q_add100, q_ladd100, q_div2, q_rem2, q_div3, q_rem3, q_div6, q_rem6, q_div10, q_rem10, q_at]
      show _ = upd r.2.1 r.1 x j ∧ _ = upd r.2.2 r.1 y j
      unfold upd
      by_cases q : j = r.1
      · rw [if_pos q, if_pos q, if_pos q, if_pos q]; exact ⟨rfl, rfl⟩
      · rw [if_neg q, if_neg q, if_neg q, if_neg q]; exact h3 j (by omega)
  · intro hlt
    unfold f_X4_add
    simp (disch := omega) only [lt_k, bnv_s, bnd_s, grd_t, q_in, q_inb, q_c, q_leT, q_leF, q_ltT, q_ltF, q_neg, q_nn, q_z, q_le0, q_b0, q_b1, nI_add, nI_0, q_off, q_self, q_oth, cst_2, st_2, ↓reduceIte, f_X8_cellAt, f_X8_roadAt, q_le1, q_nle1, q_le2, q_nle2, q_le5, q_nle5, q_le6, q_nle6, q_le8, q_nle8, q_le12, q_nle12, q_le25, q_nle25, q_le36, q_nle36, q_le60, q_nle60, q_le99, q_nle99, q_le100, q_nle100, q_le300, q_nle300, q_le640, q_nle640, q_le411, q_nle411, q_mul2, q_lmul2, q_mul3, q_lmul3, q_mul5, q_lmul5, q_mul6, q_lmul6, q_mul10, q_lmul10, q_add1, q_ladd1, q_add2, q_ladd2, q_add3, q_ladd3, q_add5, q_ladd5, q_add6, q_ladd6, q_add100, q_ladd100, q_div2, q_rem2, q_div3, q_rem3, q_div6, q_rem6, q_div10, q_rem10, h1, h2]
theorem x4_drop {b n0 : Nat} {r : TR} {μ : Mem} (h : XRw b n0 r μ) : ∃ μ', f_X4_drop b μ = some (0, μ') ∧ XRw b n0 (r_no r) μ' ∧ fr (fun c _ => b ≤ c ∧ c ≤ b + 2) μ μ' := by
  obtain ⟨h1, h2, h3⟩ := h
  exact ⟨st μ b 1 0, by unfold f_X4_drop; rw [lt_k], ⟨by rw [q_oth _ _ _ (by omega)]; exact h1, by rw [q_self]; rfl, fun j hj => by change j < 0 at hj; omega⟩, fr_st (by omega)⟩
theorem row_add_ok {r : TR} {c : Nat} (h : row_ok r) (hc : c < 36) (y : Int32) : row_ok (r_add r (nI c) y) := by
  intro j hj
  change j < r.1 + 1 at hj
  show ∃ c', c' < 36 ∧ upd r.2.1 r.1 (nI c) j = nI c'
  unfold upd
  by_cases q : j = r.1
  · rw [if_pos q]; exact ⟨c, hc, rfl⟩
  · rw [if_neg q]; exact h j (by omega)
theorem row_no_ok {r : TR} : row_ok (r_no r) := fun j hj => by change j < 0 at hj; omega
theorem XD_sn {D : TD} {μ μ' : Mem} {r : TR} (h : XD 14 D μ) (hD : D_ok D) (f : fr (fun c _ => 42 ≤ c ∧ c ≤ 42 + 2) μ μ') (hr : XRw 42 5 r μ') : XD 14 (D.1, D.2.1, D.2.2.1, r, D.2.2.2.2) μ' := by
  obtain ⟨h1, h2, h3, h4, h5⟩ := h
  exact ⟨XG_fr h1 f (fun c j p q => by omega), XPl_fr (D := D) h2 hD f (fun c j q => by omega), hr, XRw_fr h4 f (fun c j q => by omega), XRw_fr h5 f (fun c j q => by omega)⟩
theorem MD_sn {D : TD} {μ μ' : Mem} {r : TR} (h : MD D μ) (hD : D_ok D) (f : fr (fun c j => (c = 122 ∧ j = 20) ∨ (131 ≤ c ∧ c ≤ 131 + 1)) μ μ') (hr : MRw 20 131 r μ') : MD (D.1, D.2.1, D.2.2.1, r, D.2.2.2.2) μ' := by
  obtain ⟨h1, h2, h3, h4, h5⟩ := h
  exact ⟨MG_fr h1 f (fun c j q => by omega), MPl_fr (D := D) h2 hD f (fun c j q => by omega), hr, MRw_fr h4 f (fun c j q => by omega), MRw_fr h5 f (fun c j q => by omega)⟩
theorem MR_sn_add {r : TR} {μ : Mem} (h : MRw 20 131 r μ) (hr : r.1 < 5) (x y : Int32) : MRw 20 131 (r_add r x y) (st (st (st μ 131 r.1 x) 132 r.1 y) 122 20 (nI (r.1 + 1))) ∧ fr (fun c j => (c = 122 ∧ j = 20) ∨ (131 ≤ c ∧ c ≤ 131 + 1)) μ (st (st (st μ 131 r.1 x) 132 r.1 y) 122 20 (nI (r.1 + 1))) := by
  obtain ⟨h1, h2⟩ := h
  refine ⟨⟨by rw [q_self]; rfl, fun j hj => ?_⟩, fr_st' (fr_st' (fr_st (by omega)) (by omega)) (by omega)⟩
  change j < r.1 + 1 at hj
  have := h2 j
  simp only [Nat.reduceAdd] at this ⊢
  simp (disch := omega) only [lt_k, bnv_s, bnd_s, grd_t, q_in, q_inb, q_c, q_leT, q_leF, q_ltT, q_ltF, q_neg, q_nn, q_z, q_le0, q_b0, q_b1, nI_add, nI_0, q_off, q_self, q_oth, cst_2, st_2, ↓reduceIte, f_X8_cellAt, f_X8_roadAt, q_le1, q_nle1, q_le2, q_nle2, q_le5, q_nle5, q_le6, q_nle6, q_le8, q_nle8, q_le12, q_nle12, q_le25, q_nle25, q_le36, q_nle36, q_le60, q_nle60, q_le99, q_nle99, q_le100, q_nle100, q_le300, q_nle300, q_le640, q_nle640, q_le411, q_nle411, q_mul2, q_lmul2, q_mul3, q_lmul3, q_mul5, q_lmul5, q_mul6, q_lmul6, q_mul10, q_lmul10, q_add1, q_ladd1, q_add2, q_ladd2, q_add3, q_ladd3, q_add5, q_ladd5, q_add6, q_ladd6, q_add100, q_ladd100, q_div2, q_rem2, q_div3, q_rem3, q_div6, q_rem6, q_div10, q_rem10, q_at]
  show _ = upd r.2.1 r.1 x j ∧ _ = upd r.2.2 r.1 y j
  unfold upd
  by_cases q : j = r.1
  · rw [if_pos q, if_pos q, if_pos q, if_pos q]; exact ⟨rfl, rfl⟩
  · rw [if_neg q, if_neg q, if_neg q, if_neg q]; exact this (by omega)
theorem Inv_sn {D : TD} {μ μ1 μ2 : Mem} {r : TR} (hD : D_ok D) (hX : XD 14 D μ) (hM : MD D μ) (hR : Rst μ) (h' : D_ok (D.1, D.2.1, D.2.2.1, r, D.2.2.2.2)) (f1 : fr (fun c _ => 42 ≤ c ∧ c ≤ 42 + 2) μ μ1) (x1 : XRw 42 5 r μ1) (f2 : fr (fun c j => (c = 122 ∧ j = 20) ∨ (131 ≤ c ∧ c ≤ 131 + 1)) μ1 μ2) (x2 : MRw 20 131 r μ2) : Inv μ2 := by
  have a := XD_sn hX hD f1 x1
  have b := MD_sn (MD_fr hM hD f1 (fun c j q => by omega)) hD f2 x2
  exact ⟨⟨_, h', XD_fr a h' f2 (fun c j q => by omega), b⟩, Rst_fr (Rst_fr hR f1 (fun c j q => by omega)) f2 (fun c j q => by omega)⟩
theorem XD_od {D : TD} {μ μ' : Mem} {r : TR} (h : XD 14 D μ) (hD : D_ok D) (f : fr (fun c _ => 45 ≤ c ∧ c ≤ 45 + 2) μ μ') (hr : XRw 45 8 r μ') : XD 14 (D.1, D.2.1, D.2.2.1, D.2.2.2.1, r, D.2.2.2.2.2) μ' := by
  obtain ⟨h1, h2, h3, h4, h5⟩ := h
  exact ⟨XG_fr h1 f (fun c j p q => by omega), XPl_fr (D := D) h2 hD f (fun c j q => by omega), XRw_fr h3 f (fun c j q => by omega), hr, XRw_fr h5 f (fun c j q => by omega)⟩
theorem MD_od {D : TD} {μ μ' : Mem} {r : TR} (h : MD D μ) (hD : D_ok D) (f : fr (fun c j => (c = 122 ∧ j = 21) ∨ (133 ≤ c ∧ c ≤ 133 + 1)) μ μ') (hr : MRw 21 133 r μ') : MD (D.1, D.2.1, D.2.2.1, D.2.2.2.1, r, D.2.2.2.2.2) μ' := by
  obtain ⟨h1, h2, h3, h4, h5⟩ := h
  exact ⟨MG_fr h1 f (fun c j q => by omega), MPl_fr (D := D) h2 hD f (fun c j q => by omega), MRw_fr h3 f (fun c j q => by omega), hr, MRw_fr h5 f (fun c j q => by omega)⟩
theorem MR_od_add {r : TR} {μ : Mem} (h : MRw 21 133 r μ) (hr : r.1 < 8) (x y : Int32) : MRw 21 133 (r_add r x y) (st (st (st μ 133 r.1 x) 134 r.1 y) 122 21 (nI (r.1 + 1))) ∧ fr (fun c j => (c = 122 ∧ j = 21) ∨ (133 ≤ c ∧ c ≤ 133 + 1)) μ (st (st (st μ 133 r.1 x) 134 r.1 y) 122 21 (nI (r.1 + 1))) := by
  obtain ⟨h1, h2⟩ := h
  refine ⟨⟨by rw [q_self]; rfl, fun j hj => ?_⟩, fr_st' (fr_st' (fr_st (by omega)) (by omega)) (by omega)⟩
  change j < r.1 + 1 at hj
  have := h2 j
  simp only [Nat.reduceAdd] at this ⊢
  simp (disch := omega) only [lt_k, bnv_s, bnd_s, grd_t, q_in, q_inb, q_c, q_leT, q_leF, q_ltT, q_ltF, q_neg, q_nn, q_z, q_le0, q_b0, q_b1, nI_add, nI_0, q_off, q_self, q_oth, cst_2, st_2, ↓reduceIte, f_X8_cellAt, f_X8_roadAt, q_le1, q_nle1, q_le2, q_nle2, q_le5, q_nle5, q_le6, q_nle6, q_le8, q_nle8, q_le12, q_nle12, q_le25, q_nle25, q_le36, q_nle36, q_le60, q_nle60, q_le99, q_nle99, q_le100, q_nle100, q_le300, q_nle300, q_le640, q_nle640, q_le411, q_nle411, q_mul2, q_lmul2, q_mul3, q_lmul3, q_mul5, q_lmul5, q_mul6, q_lmul6, q_mul10, q_lmul10, q_add1, q_ladd1, q_add2, q_ladd2, q_add3, q_ladd3, q_add5, q_ladd5, q_add6, q_ladd6, q_add100, q_ladd100, q_div2, q_rem2, q_div3, q_rem3, q_div6, q_rem6, q_div10, q_rem10, q_at]
  show _ = upd r.2.1 r.1 x j ∧ _ = upd r.2.2 r.1 y j
  unfold upd
  by_cases q : j = r.1
  · rw [if_pos q, if_pos q, if_pos q, if_pos q]; exact ⟨rfl, rfl⟩
  · rw [if_neg q, if_neg q, if_neg q, if_neg q]; exact this (by omega)
theorem Inv_od {D : TD} {μ μ1 μ2 : Mem} {r : TR} (hD : D_ok D) (hX : XD 14 D μ) (hM : MD D μ) (hR : Rst μ) (h' : D_ok (D.1, D.2.1, D.2.2.1, D.2.2.2.1, r, D.2.2.2.2.2)) (f1 : fr (fun c _ => 45 ≤ c ∧ c ≤ 45 + 2) μ μ1) (x1 : XRw 45 8 r μ1) (f2 : fr (fun c j => (c = 122 ∧ j = 21) ∨ (133 ≤ c ∧ c ≤ 133 + 1)) μ1 μ2) (x2 : MRw 21 133 r μ2) : Inv μ2 := by
  have a := XD_od hX hD f1 x1
  have b := MD_od (MD_fr hM hD f1 (fun c j q => by omega)) hD f2 x2
  exact ⟨⟨_, h', XD_fr a h' f2 (fun c j q => by omega), b⟩, Rst_fr (Rst_fr hR f1 (fun c j q => by omega)) f2 (fun c j q => by omega)⟩
theorem XD_bk {D : TD} {μ μ' : Mem} {r : TR} (h : XD 14 D μ) (hD : D_ok D) (f : fr (fun c _ => 48 ≤ c ∧ c ≤ 48 + 2) μ μ') (hr : XRw 48 8 r μ') : XD 14 (D.1, D.2.1, D.2.2.1, D.2.2.2.1, D.2.2.2.2.1, r) μ' := by
  obtain ⟨h1, h2, h3, h4, h5⟩ := h
  exact ⟨XG_fr h1 f (fun c j p q => by omega), XPl_fr (D := D) h2 hD f (fun c j q => by omega), XRw_fr h3 f (fun c j q => by omega), XRw_fr h4 f (fun c j q => by omega), hr⟩
theorem MD_bk {D : TD} {μ μ' : Mem} {r : TR} (h : MD D μ) (hD : D_ok D) (f : fr (fun c j => (c = 122 ∧ j = 22) ∨ (135 ≤ c ∧ c ≤ 135 + 1)) μ μ') (hr : MRw 22 135 r μ') : MD (D.1, D.2.1, D.2.2.1, D.2.2.2.1, D.2.2.2.2.1, r) μ' := by
  obtain ⟨h1, h2, h3, h4, h5⟩ := h
  exact ⟨MG_fr h1 f (fun c j q => by omega), MPl_fr (D := D) h2 hD f (fun c j q => by omega), MRw_fr h3 f (fun c j q => by omega), MRw_fr h4 f (fun c j q => by omega), hr⟩
theorem MR_bk_add {r : TR} {μ : Mem} (h : MRw 22 135 r μ) (hr : r.1 < 8) (x y : Int32) : MRw 22 135 (r_add r x y) (st (st (st μ 135 r.1 x) 136 r.1 y) 122 22 (nI (r.1 + 1))) ∧ fr (fun c j => (c = 122 ∧ j = 22) ∨ (135 ≤ c ∧ c ≤ 135 + 1)) μ (st (st (st μ 135 r.1 x) 136 r.1 y) 122 22 (nI (r.1 + 1))) := by
  obtain ⟨h1, h2⟩ := h
  refine ⟨⟨by rw [q_self]; rfl, fun j hj => ?_⟩, fr_st' (fr_st' (fr_st (by omega)) (by omega)) (by omega)⟩
  change j < r.1 + 1 at hj
  have := h2 j
  simp only [Nat.reduceAdd] at this ⊢
  simp (disch := omega) only [lt_k, bnv_s, bnd_s, grd_t, q_in, q_inb, q_c, q_leT, q_leF, q_ltT, q_ltF, q_neg, q_nn, q_z, q_le0, q_b0, q_b1, nI_add, nI_0, q_off, q_self, q_oth, cst_2, st_2, ↓reduceIte, f_X8_cellAt, f_X8_roadAt, q_le1, q_nle1, q_le2, q_nle2, q_le5, q_nle5, q_le6, q_nle6, q_le8, q_nle8, q_le12, q_nle12, q_le25, q_nle25, q_le36, q_nle36, q_le60, q_nle60, q_le99, q_nle99, q_le100, q_nle100, q_le300, q_nle300, q_le640, q_nle640, q_le411, q_nle411, q_mul2, q_lmul2, q_mul3, q_lmul3, q_mul5, q_lmul5, q_mul6, q_lmul6, q_mul10, q_lmul10, q_add1, q_ladd1, q_add2, q_ladd2, q_add3, q_ladd3, q_add5, q_ladd5, q_add6, q_ladd6, q_add100, q_ladd100, q_div2, q_rem2, q_div3, q_rem3, q_div6, q_rem6, q_div10, q_rem10, q_at]
  show _ = upd r.2.1 r.1 x j ∧ _ = upd r.2.2 r.1 y j
  unfold upd
  by_cases q : j = r.1
  · rw [if_pos q, if_pos q, if_pos q, if_pos q]; exact ⟨rfl, rfl⟩
  · rw [if_neg q, if_neg q, if_neg q, if_neg q]; exact this (by omega)
theorem Inv_bk {D : TD} {μ μ1 μ2 : Mem} {r : TR} (hD : D_ok D) (hX : XD 14 D μ) (hM : MD D μ) (hR : Rst μ) (h' : D_ok (D.1, D.2.1, D.2.2.1, D.2.2.2.1, D.2.2.2.2.1, r)) (f1 : fr (fun c _ => 48 ≤ c ∧ c ≤ 48 + 2) μ μ1) (x1 : XRw 48 8 r μ1) (f2 : fr (fun c j => (c = 122 ∧ j = 22) ∨ (135 ≤ c ∧ c ≤ 135 + 1)) μ1 μ2) (x2 : MRw 22 135 r μ2) : Inv μ2 := by
  have a := XD_bk hX hD f1 x1
  have b := MD_bk (MD_fr hM hD f1 (fun c j q => by omega)) hD f2 x2
  exact ⟨⟨_, h', XD_fr a h' f2 (fun c j q => by omega), b⟩, Rst_fr (Rst_fr hR f1 (fun c j q => by omega)) f2 (fun c j q => by omega)⟩
theorem st_see {μ : Mem} (hv : Inv μ) (a1 : Int32) (a2 : Int32) (a3 : Int32) : ∃ r μ1 μ2, f_X8_see a1 a2 a3 μ = some (r, μ1) ∧ f_X9_see a1 a2 a3 μ1 = some (r, μ2) ∧ Inv μ2 := by
  obtain ⟨⟨D, hD, hX, hM⟩, hR⟩ := id hv
  obtain ⟨d1, d2, d3, d4, d5, d6, d7, d8, d9⟩ := id hD
  by_cases m1 : a1 = -1
  · obtain ⟨μ1, e1, x1, f1⟩ := x4_drop hX.2.2.1
    refine ⟨0, μ1, st μ1 122 20 0, ?_, ?_, Inv_sn hD hX hM hR (r := r_no D.2.2.2.1) ⟨d1, d2, d3, Nat.zero_le _, row_no_ok, d6, d7, d8, d9⟩ f1 x1 (fr_st (by omega)) ⟨by rw [q_self]; rfl, fun j hj => by change j < 0 at hj; omega⟩⟩
    · unfold f_X8_see
      rw [if_pos m1, show f_X4_drop 42 μ = some (0, μ1) from e1, bnd_s]
    · unfold f_X9_see
      rw [if_pos m1, lt_k]
  · have er := x0_isRoadG (g := 15) hX.1 hD.1 a1 a2
    have er9 := x9_isRoadG hM.1 hD.1 a1 a2
    rcases road_cases D.1 hD.1 a1 a2 with ⟨i, j, hi, hj, rfl, rfl, e⟩ | e
    · rw [e] at er er9
      have g1 := hD.1.1
      have g2 := hD.1.2.1
      by_cases hin : inR a3 0 99 = true
      · have hc : 6 * i + j < 36 := by omega
        by_cases hlt : D.2.2.2.1.1 < 5
        · obtain ⟨μ1, e1, x1, f1⟩ := (x4_add hX.2.2.1 (by omega) d4 (nI (6 * i + j)) a3).1 hlt
          have hM1 := MD_fr hM hD f1 (fun c j q => by omega)
          obtain ⟨x2, f2⟩ := MR_sn_add hM1.2.2.1 hlt (nI (6 * i + j)) a3
          have er1 := x9_isRoadG hM1.1 hD.1 (nI i) (nI j)
          rw [e] at er1
          refine ⟨nI (D.2.2.2.1.1 + 1), μ1, _, ?_, ?_, Inv_sn hD hX hM hR (r := r_add D.2.2.2.1 (nI (6 * i + j)) a3) ⟨d1, d2, d3, by show D.2.2.2.1.1 + 1 ≤ 5; omega, row_add_ok d5 hc a3, d6, d7, d8, d9⟩ f1 x1 f2 x2⟩
          · unfold f_X8_see
            simp (disch := omega) only [lt_k, bnv_s, bnd_s, grd_t, q_in, q_inb, q_c, q_leT, q_leF, q_ltT, q_ltF, q_neg, q_nn, q_z, q_le0, q_b0, q_b1, nI_add, nI_0, q_off, q_self, q_oth, cst_2, st_2, ↓reduceIte, f_X8_cellAt, f_X8_roadAt, q_le1, q_nle1, q_le2, q_nle2, q_le5, q_nle5, q_le6, q_nle6, q_le8, q_nle8, q_le12, q_nle12, q_le25, q_nle25, q_le36, q_nle36, q_le60, q_nle60, q_le99, q_nle99, q_le100, q_nle100, q_le300, q_nle300, q_le640, q_nle640, q_le411, q_nle411, q_mul2, q_lmul2, q_mul3, q_lmul3, q_mul5, q_lmul5, q_mul6, q_lmul6, q_mul10, q_lmul10, q_add1, q_ladd1, q_add2, q_ladd2, q_add3, q_ladd3, q_add5, q_ladd5, q_add6, q_ladd6, q_add100, q_ladd100, q_div2, q_rem2, q_div3, q_rem3, q_div6, q_rem6, q_div10, q_rem10, m1, er, q_10, u8_99, hin, b2i_t, Nat.mul_comm i 6]
            rw [show f_X4_add 42 (nI (6 * i + j)) a3 μ = _ from e1, bnd_s]
          · have hf := hM1.2.2.1.1
            have l5 : (nI D.2.2.2.1.1 = 5) = False := eq_false (fun r => by have := (nI_eq (b := 5) (by omega) (by decide)).mp r; omega)
            unfold f_X9_see
            simp (disch := omega) only [lt_k, bnv_s, bnd_s, grd_t, q_in, q_inb, q_c, q_leT, q_leF, q_ltT, q_ltF, q_neg, q_nn, q_z, q_le0, q_b0, q_b1, nI_add, nI_0, q_off, q_self, q_oth, cst_2, st_2, ↓reduceIte, f_X8_cellAt, f_X8_roadAt, q_le1, q_nle1, q_le2, q_nle2, q_le5, q_nle5, q_le6, q_nle6, q_le8, q_nle8, q_le12, q_nle12, q_le25, q_nle25, q_le36, q_nle36, q_le60, q_nle60, q_le99, q_nle99, q_le100, q_nle100, q_le300, q_nle300, q_le640, q_nle640, q_le411, q_nle411, q_mul2, q_lmul2, q_mul3, q_lmul3, q_mul5, q_lmul5, q_mul6, q_lmul6, q_mul10, q_lmul10, q_add1, q_ladd1, q_add2, q_ladd2, q_add3, q_ladd3, q_add5, q_ladd5, q_add6, q_ladd6, q_add100, q_ladd100, q_div2, q_rem2, q_div3, q_rem3, q_div6, q_rem6, q_div10, q_rem10, m1, er1, q_10, i9_99, hin, b2i_t, hf, l5]
        · have e1 := (x4_add hX.2.2.1 (by omega) d4 (nI (6 * i + j)) a3).2 hlt
          refine ⟨-4, μ, μ, ?_, ?_, hv⟩
          · unfold f_X8_see
            simp (disch := omega) only [lt_k, bnv_s, bnd_s, grd_t, q_in, q_inb, q_c, q_leT, q_leF, q_ltT, q_ltF, q_neg, q_nn, q_z, q_le0, q_b0, q_b1, nI_add, nI_0, q_off, q_self, q_oth, cst_2, st_2, ↓reduceIte, f_X8_cellAt, f_X8_roadAt, q_le1, q_nle1, q_le2, q_nle2, q_le5, q_nle5, q_le6, q_nle6, q_le8, q_nle8, q_le12, q_nle12, q_le25, q_nle25, q_le36, q_nle36, q_le60, q_nle60, q_le99, q_nle99, q_le100, q_nle100, q_le300, q_nle300, q_le640, q_nle640, q_le411, q_nle411, q_mul2, q_lmul2, q_mul3, q_lmul3, q_mul5, q_lmul5, q_mul6, q_lmul6, q_mul10, q_lmul10, q_add1, q_ladd1, q_add2, q_ladd2, q_add3, q_ladd3, q_add5, q_ladd5, q_add6, q_ladd6, q_add100, q_ladd100, q_div2, q_rem2, q_div3, q_rem3, q_div6, q_rem6, q_div10, q_rem10, m1, er, q_10, u8_99, hin, b2i_t, Nat.mul_comm i 6]
            rw [show f_X4_add 42 (nI (6 * i + j)) a3 μ = _ from e1, bnd_s]
          · have hf := hM.2.2.1.1
            have l5 : (nI D.2.2.2.1.1 = 5) = True := eq_true (by rw [show D.2.2.2.1.1 = 5 by omega]; rfl)
            unfold f_X9_see
            simp (disch := omega) only [lt_k, bnv_s, bnd_s, grd_t, q_in, q_inb, q_c, q_leT, q_leF, q_ltT, q_ltF, q_neg, q_nn, q_z, q_le0, q_b0, q_b1, nI_add, nI_0, q_off, q_self, q_oth, cst_2, st_2, ↓reduceIte, f_X8_cellAt, f_X8_roadAt, q_le1, q_nle1, q_le2, q_nle2, q_le5, q_nle5, q_le6, q_nle6, q_le8, q_nle8, q_le12, q_nle12, q_le25, q_nle25, q_le36, q_nle36, q_le60, q_nle60, q_le99, q_nle99, q_le100, q_nle100, q_le300, q_nle300, q_le640, q_nle640, q_le411, q_nle411, q_mul2, q_lmul2, q_mul3, q_lmul3, q_mul5, q_lmul5, q_mul6, q_lmul6, q_mul10, q_lmul10, q_add1, q_ladd1, q_add2, q_ladd2, q_add3, q_ladd3, q_add5, q_ladd5, q_add6, q_ladd6, q_add100, q_ladd100, q_div2, q_rem2, q_div3, q_rem3, q_div6, q_rem6, q_div10, q_rem10, m1, er9, q_10, i9_99, hin, b2i_t, hf, l5]
      · have hin' := ff_t hin
        refine ⟨-2, μ, μ, ?_, ?_, hv⟩
        · unfold f_X8_see
          simp (disch := omega) only [lt_k, bnv_s, bnd_s, grd_t, q_in, q_inb, q_c, q_leT, q_leF, q_ltT, q_ltF, q_neg, q_nn, q_z, q_le0, q_b0, q_b1, nI_add, nI_0, q_off, q_self, q_oth, cst_2, st_2, ↓reduceIte, f_X8_cellAt, f_X8_roadAt, q_le1, q_nle1, q_le2, q_nle2, q_le5, q_nle5, q_le6, q_nle6, q_le8, q_nle8, q_le12, q_nle12, q_le25, q_nle25, q_le36, q_nle36, q_le60, q_nle60, q_le99, q_nle99, q_le100, q_nle100, q_le300, q_nle300, q_le640, q_nle640, q_le411, q_nle411, q_mul2, q_lmul2, q_mul3, q_lmul3, q_mul5, q_lmul5, q_mul6, q_lmul6, q_mul10, q_lmul10, q_add1, q_ladd1, q_add2, q_ladd2, q_add3, q_ladd3, q_add5, q_ladd5, q_add6, q_ladd6, q_add100, q_ladd100, q_div2, q_rem2, q_div3, q_rem3, q_div6, q_rem6, q_div10, q_rem10, m1, er, q_10, u8_99, hin', b2i_f]
        · unfold f_X9_see
          simp (disch := omega) only [lt_k, bnv_s, bnd_s, grd_t, q_in, q_inb, q_c, q_leT, q_leF, q_ltT, q_ltF, q_neg, q_nn, q_z, q_le0, q_b0, q_b1, nI_add, nI_0, q_off, q_self, q_oth, cst_2, st_2, ↓reduceIte, f_X8_cellAt, f_X8_roadAt, q_le1, q_nle1, q_le2, q_nle2, q_le5, q_nle5, q_le6, q_nle6, q_le8, q_nle8, q_le12, q_nle12, q_le25, q_nle25, q_le36, q_nle36, q_le60, q_nle60, q_le99, q_nle99, q_le100, q_nle100, q_le300, q_nle300, q_le640, q_nle640, q_le411, q_nle411, q_mul2, q_lmul2, q_mul3, q_lmul3, q_mul5, q_lmul5, q_mul6, q_lmul6, q_mul10, q_lmul10, q_add1, q_ladd1, q_add2, q_ladd2, q_add3, q_ladd3, q_add5, q_ladd5, q_add6, q_ladd6, q_add100, q_ladd100, q_div2, q_rem2, q_div3, q_rem3, q_div6, q_rem6, q_div10, q_rem10, m1, er9, q_10, i9_99, hin', b2i_f]
    · rw [e] at er er9
      refine ⟨-1, μ, μ, ?_, ?_, hv⟩
      · unfold f_X8_see
        simp (disch := omega) only [lt_k, bnv_s, bnd_s, grd_t, q_in, q_inb, q_c, q_leT, q_leF, q_ltT, q_ltF, q_neg, q_nn, q_z, q_le0, q_b0, q_b1, nI_add, nI_0, q_off, q_self, q_oth, cst_2, st_2, ↓reduceIte, f_X8_cellAt, f_X8_roadAt, q_le1, q_nle1, q_le2, q_nle2, q_le5, q_nle5, q_le6, q_nle6, q_le8, q_nle8, q_le12, q_nle12, q_le25, q_nle25, q_le36, q_nle36, q_le60, q_nle60, q_le99, q_nle99, q_le100, q_nle100, q_le300, q_nle300, q_le640, q_nle640, q_le411, q_nle411, q_mul2, q_lmul2, q_mul3, q_lmul3, q_mul5, q_lmul5, q_mul6, q_lmul6, q_mul10, q_lmul10, q_add1, q_ladd1, q_add2, q_ladd2, q_add3, q_ladd3, q_add5, q_ladd5, q_add6, q_ladd6, q_add100, q_ladd100, q_div2, q_rem2, q_div3, q_rem3, q_div6, q_rem6, q_div10, q_rem10, m1, er]
      · unfold f_X9_see
        simp (disch := omega) only [lt_k, bnv_s, bnd_s, grd_t, q_in, q_inb, q_c, q_leT, q_leF, q_ltT, q_ltF, q_neg, q_nn, q_z, q_le0, q_b0, q_b1, nI_add, nI_0, q_off, q_self, q_oth, cst_2, st_2, ↓reduceIte, f_X8_cellAt, f_X8_roadAt, q_le1, q_nle1, q_le2, q_nle2, q_le5, q_nle5, q_le6, q_nle6, q_le8, q_nle8, q_le12, q_nle12, q_le25, q_nle25, q_le36, q_nle36, q_le60, q_nle60, q_le99, q_nle99, q_le100, q_nle100, q_le300, q_nle300, q_le640, q_nle640, q_le411, q_nle411, q_mul2, q_lmul2, q_mul3, q_lmul3, q_mul5, q_lmul5, q_mul6, q_lmul6, q_mul10, q_lmul10, q_add1, q_ladd1, q_add2, q_ladd2, q_add3, q_ladd3, q_add5, q_ladd5, q_add6, q_ladd6, q_add100, q_ladd100, q_div2, q_rem2, q_div3, q_rem3, q_div6, q_rem6, q_div10, q_rem10, m1, er9]
theorem st_book {μ : Mem} (hv : Inv μ) (a1 : Int32) (a2 : Int32) (a3 : Int32) : ∃ r μ1 μ2, f_X8_book a1 a2 a3 μ = some (r, μ1) ∧ f_X9_book a1 a2 a3 μ1 = some (r, μ2) ∧ Inv μ2 := by
  obtain ⟨⟨D, hD, hX, hM⟩, hR⟩ := id hv
  obtain ⟨d1, d2, d3, d4, d5, d6, d7, d8, d9⟩ := id hD
  by_cases m1 : a1 = -1
  · obtain ⟨μ1, e1, x1, f1⟩ := x4_drop hX.2.2.2.2
    refine ⟨0, μ1, st μ1 122 22 0, ?_, ?_, Inv_bk hD hX hM hR (r := r_no D.2.2.2.2.2) ⟨d1, d2, d3, d4, d5, d6, d7, Nat.zero_le _, row_no_ok⟩ f1 x1 (fr_st (by omega)) ⟨by rw [q_self]; rfl, fun j hj => by change j < 0 at hj; omega⟩⟩
    · unfold f_X8_book
      rw [if_pos m1, show f_X4_drop 48 μ = some (0, μ1) from e1, bnd_s]
    · unfold f_X9_book
      rw [if_pos m1, lt_k]
  · have er := x0_isRoadG (g := 15) hX.1 hD.1 a1 a2
    have er9 := x9_isRoadG hM.1 hD.1 a1 a2
    rcases road_cases D.1 hD.1 a1 a2 with ⟨i, j, hi, hj, rfl, rfl, e⟩ | e
    · rw [e] at er er9
      have g1 := hD.1.1
      have g2 := hD.1.2.1
      by_cases hin : inR a3 0 99 = true
      · have hc : 6 * i + j < 36 := by omega
        by_cases hlt : D.2.2.2.2.2.1 < 8
        · obtain ⟨μ1, e1, x1, f1⟩ := (x4_add hX.2.2.2.2 (by omega) d8 (nI (6 * i + j)) a3).1 hlt
          have hM1 := MD_fr hM hD f1 (fun c j q => by omega)
          obtain ⟨x2, f2⟩ := MR_bk_add hM1.2.2.2.2 hlt (nI (6 * i + j)) a3
          have er1 := x9_isRoadG hM1.1 hD.1 (nI i) (nI j)
          rw [e] at er1
          refine ⟨nI (D.2.2.2.2.2.1 + 1), μ1, _, ?_, ?_, Inv_bk hD hX hM hR (r := r_add D.2.2.2.2.2 (nI (6 * i + j)) a3) ⟨d1, d2, d3, d4, d5, d6, d7, by show D.2.2.2.2.2.1 + 1 ≤ 8; omega, row_add_ok d9 hc a3⟩ f1 x1 f2 x2⟩
          · unfold f_X8_book
            simp (disch := omega) only [lt_k, bnv_s, bnd_s, grd_t, q_in, q_inb, q_c, q_leT, q_leF, q_ltT, q_ltF, q_neg, q_nn, q_z, q_le0, q_b0, q_b1, nI_add, nI_0, q_off, q_self, q_oth, cst_2, st_2, ↓reduceIte, f_X8_cellAt, f_X8_roadAt, q_le1, q_nle1, q_le2, q_nle2, q_le5, q_nle5, q_le6, q_nle6, q_le8, q_nle8, q_le12, q_nle12, q_le25, q_nle25, q_le36, q_nle36, q_le60, q_nle60, q_le99, q_nle99, q_le100, q_nle100, q_le300, q_nle300, q_le640, q_nle640, q_le411, q_nle411, q_mul2, q_lmul2, q_mul3, q_lmul3, q_mul5, q_lmul5, q_mul6, q_lmul6, q_mul10, q_lmul10, q_add1, q_ladd1, q_add2, q_ladd2, q_add3, q_ladd3, q_add5, q_ladd5, q_add6, q_ladd6, q_add100, q_ladd100, q_div2, q_rem2, q_div3, q_rem3, q_div6, q_rem6, q_div10, q_rem10, m1, er, q_10, u8_99, hin, b2i_t, Nat.mul_comm i 6]
            rw [show f_X4_add 48 (nI (6 * i + j)) a3 μ = _ from e1, bnd_s]
          · have hf := hM1.2.2.2.2.1
            have l5 : (nI D.2.2.2.2.2.1 = 8) = False := eq_false (fun r => by have := (nI_eq (b := 8) (by omega) (by decide)).mp r; omega)
            unfold f_X9_book
            simp (disch := omega) only [lt_k, bnv_s, bnd_s, grd_t, q_in, q_inb, q_c, q_leT, q_leF, q_ltT, q_ltF, q_neg, q_nn, q_z, q_le0, q_b0, q_b1, nI_add, nI_0, q_off, q_self, q_oth, cst_2, st_2, ↓reduceIte, f_X8_cellAt, f_X8_roadAt, q_le1, q_nle1, q_le2, q_nle2, q_le5, q_nle5, q_le6, q_nle6, q_le8, q_nle8, q_le12, q_nle12, q_le25, q_nle25, q_le36, q_nle36, q_le60, q_nle60, q_le99, q_nle99, q_le100, q_nle100, q_le300, q_nle300, q_le640, q_nle640, q_le411, q_nle411, q_mul2, q_lmul2, q_mul3, q_lmul3, q_mul5, q_lmul5, q_mul6, q_lmul6, q_mul10, q_lmul10, q_add1, q_ladd1, q_add2, q_ladd2, q_add3, q_ladd3, q_add5, q_ladd5, q_add6, q_ladd6, q_add100, q_ladd100, q_div2, q_rem2, q_div3, q_rem3, q_div6, q_rem6, q_div10, q_rem10, m1, er1, q_10, i9_99, hin, b2i_t, hf, l5]
        · have e1 := (x4_add hX.2.2.2.2 (by omega) d8 (nI (6 * i + j)) a3).2 hlt
          refine ⟨-4, μ, μ, ?_, ?_, hv⟩
          · unfold f_X8_book
            simp (disch := omega) only [lt_k, bnv_s, bnd_s, grd_t, q_in, q_inb, q_c, q_leT, q_leF, q_ltT, q_ltF, q_neg, q_nn, q_z, q_le0, q_b0, q_b1, nI_add, nI_0, q_off, q_self, q_oth, cst_2, st_2, ↓reduceIte, f_X8_cellAt, f_X8_roadAt, q_le1, q_nle1, q_le2, q_nle2, q_le5, q_nle5, q_le6, q_nle6, q_le8, q_nle8, q_le12, q_nle12, q_le25, q_nle25, q_le36, q_nle36, q_le60, q_nle60, q_le99, q_nle99, q_le100, q_nle100, q_le300, q_nle300, q_le640, q_nle640, q_le411, q_nle411, q_mul2, q_lmul2, q_mul3, q_lmul3, q_mul5, q_lmul5, q_mul6, q_lmul6, q_mul10, q_lmul10, q_add1, q_ladd1, q_add2, q_ladd2, q_add3, q_ladd3, q_add5, q_ladd5, q_add6, q_ladd6, q_add100, q_ladd100, q_div2, q_rem2, q_div3, q_rem3, q_div6, q_rem6, q_div10, q_rem10, m1, er, q_10, u8_99, hin, b2i_t, Nat.mul_comm i 6]
            rw [show f_X4_add 48 (nI (6 * i + j)) a3 μ = _ from e1, bnd_s]
          · have hf := hM.2.2.2.2.1
            have l5 : (nI D.2.2.2.2.2.1 = 8) = True := eq_true (by rw [show D.2.2.2.2.2.1 = 8 by omega]; rfl)
            unfold f_X9_book
            simp (disch := omega) only [lt_k, bnv_s, bnd_s, grd_t, q_in, q_inb, q_c, q_leT, q_leF, q_ltT, q_ltF, q_neg, q_nn, q_z, q_le0, q_b0, q_b1, nI_add, nI_0, q_off, q_self, q_oth, cst_2, st_2, ↓reduceIte, f_X8_cellAt, f_X8_roadAt, q_le1, q_nle1, q_le2, q_nle2, q_le5, q_nle5, q_le6, q_nle6, q_le8, q_nle8, q_le12, q_nle12, q_le25, q_nle25, q_le36, q_nle36, q_le60, q_nle60, q_le99, q_nle99, q_le100, q_nle100, q_le300, q_nle300, q_le640, q_nle640, q_le411, q_nle411, q_mul2, q_lmul2, q_mul3, q_lmul3, q_mul5, q_lmul5, q_mul6, q_lmul6, q_mul10, q_lmul10, q_add1, q_ladd1, q_add2, q_ladd2, q_add3, q_ladd3, q_add5, q_ladd5, q_add6, q_ladd6, q_add100, q_ladd100, q_div2, q_rem2, q_div3, q_rem3, q_div6, q_rem6, q_div10, q_rem10, m1, er9, q_10, i9_99, hin, b2i_t, hf, l5]
      · have hin' := ff_t hin
        refine ⟨-2, μ, μ, ?_, ?_, hv⟩
        · unfold f_X8_book
          simp (disch := omega) only [lt_k, bnv_s, bnd_s, grd_t, q_in, q_inb, q_c, q_leT, q_leF, q_ltT, q_ltF, q_neg, q_nn, q_z, q_le0, q_b0, q_b1, nI_add, nI_0, q_off, q_self, q_oth, cst_2, st_2, ↓reduceIte, f_X8_cellAt, f_X8_roadAt, q_le1, q_nle1, q_le2, q_nle2, q_le5, q_nle5, q_le6, q_nle6, q_le8, q_nle8, q_le12, q_nle12, q_le25, q_nle25, q_le36, q_nle36, q_le60, q_nle60, q_le99, q_nle99, q_le100, q_nle100, q_le300, q_nle300, q_le640, q_nle640, q_le411, q_nle411, q_mul2, q_lmul2, q_mul3, q_lmul3, q_mul5, q_lmul5, q_mul6, q_lmul6, q_mul10, q_lmul10, q_add1, q_ladd1, q_add2, q_ladd2, q_add3, q_ladd3, q_add5, q_ladd5, q_add6, q_ladd6, q_add100, q_ladd100, q_div2, q_rem2, q_div3, q_rem3, q_div6, q_rem6, q_div10, q_rem10, m1, er, q_10, u8_99, hin', b2i_f]
        · unfold f_X9_book
          simp (disch := omega) only [lt_k, bnv_s, bnd_s, grd_t, q_in, q_inb, q_c, q_leT, q_leF, q_ltT, q_ltF, q_neg, q_nn, q_z, q_le0, q_b0, q_b1, nI_add, nI_0, q_off, q_self, q_oth, cst_2, st_2, ↓reduceIte, f_X8_cellAt, f_X8_roadAt, q_le1, q_nle1, q_le2, q_nle2, q_le5, q_nle5, q_le6, q_nle6, q_le8, q_nle8, q_le12, q_nle12, q_le25, q_nle25, q_le36, q_nle36, q_le60, q_nle60, q_le99, q_nle99, q_le100, q_nle100, q_le300, q_nle300, q_le640, q_nle640, q_le411, q_nle411, q_mul2, q_lmul2, q_mul3, q_lmul3, q_mul5, q_lmul5, q_mul6, q_lmul6, q_mul10, q_lmul10, q_add1, q_ladd1, q_add2, q_ladd2, q_add3, q_ladd3, q_add5, q_ladd5, q_add6, q_ladd6, q_add100, q_ladd100, q_div2, q_rem2, q_div3, q_rem3, q_div6, q_rem6, q_div10, q_rem10, m1, er9, q_10, i9_99, hin', b2i_f]
    · rw [e] at er er9
      refine ⟨-1, μ, μ, ?_, ?_, hv⟩
      · unfold f_X8_book
        simp (disch := omega) only [lt_k, bnv_s, bnd_s, grd_t, q_in, q_inb, q_c, q_leT, q_leF, q_ltT, q_ltF, q_neg, q_nn, q_z, q_le0, q_b0, q_b1, nI_add, nI_0, q_off, q_self, q_oth, cst_2, st_2, ↓reduceIte, f_X8_cellAt, f_X8_roadAt, q_le1, q_nle1, q_le2, q_nle2, q_le5, q_nle5, q_le6, q_nle6, q_le8, q_nle8, q_le12, q_nle12, q_le25, q_nle25, q_le36, q_nle36, q_le60, q_nle60, q_le99, q_nle99, q_le100, q_nle100, q_le300, q_nle300, q_le640, q_nle640, q_le411, q_nle411, q_mul2, q_lmul2, q_mul3, q_lmul3, q_mul5, q_lmul5, q_mul6, q_lmul6, q_mul10, q_lmul10, q_add1, q_ladd1, q_add2, q_ladd2, q_add3, q_ladd3, q_add5, q_ladd5, q_add6, q_ladd6, q_add100, q_ladd100, q_div2, q_rem2, q_div3, q_rem3, q_div6, q_rem6, q_div10, q_rem10, m1, er]
      · unfold f_X9_book
        simp (disch := omega) only [lt_k, bnv_s, bnd_s, grd_t, q_in, q_inb, q_c, q_leT, q_leF, q_ltT, q_ltF, q_neg, q_nn, q_z, q_le0, q_b0, q_b1, nI_add, nI_0, q_off, q_self, q_oth, cst_2, st_2, ↓reduceIte, f_X8_cellAt, f_X8_roadAt, q_le1, q_nle1, q_le2, q_nle2, q_le5, q_nle5, q_le6, q_nle6, q_le8, q_nle8, q_le12, q_nle12, q_le25, q_nle25, q_le36, q_nle36, q_le60, q_nle60, q_le99, q_nle99, q_le100, q_nle100, q_le300, q_nle300, q_le640, q_nle640, q_le411, q_nle411, q_mul2, q_lmul2, q_mul3, q_lmul3, q_mul5, q_lmul5, q_mul6, q_lmul6, q_mul10, q_lmul10, q_add1, q_ladd1, q_add2, q_ladd2, q_add3, q_ladd3, q_add5, q_ladd5, q_add6, q_ladd6, q_add100, q_ladd100, q_div2, q_rem2, q_div3, q_rem3, q_div6, q_rem6, q_div10, q_rem10, m1, er9]
/-! an order there is -/
theorem ord_cases (G : TG) (hG : g_ok G) (w n : Int32) : (ord_ok G w n ∧ (∀ μ, XG 15 G μ → f_X8_isOrder w n μ = some 1) ∧ ∀ μ, MG G μ → w ≠ -1 → f_X9_order w n μ = f_X9_order_68 w n μ) ∨ ((∀ μ, XG 15 G μ → f_X8_isOrder w n μ = some 0) ∧ ∀ μ, MG G μ → w ≠ -1 → f_X9_order w n μ = some (-1, μ)) := by
  have g1 := hG.1
  have g2 := hG.2.1
  have site : ∀ (N : Nat), N ≤ 5 → (∃ k, k < N ∧ n = nI k ∧ inN n N = true) ∨ (inN n N = false ∧ (n < 0 ∨ (¬ n < 0 ∧ nI N ≤ n))) := by
    intro N hN
    rcases q_rng n N (by omega) with ⟨i, hi, e⟩ | ⟨a, b⟩ | ⟨a, b, c⟩
    · exact Or.inl ⟨i, hi, e, by rw [e]; exact inN_n hi (by omega)⟩
    · exact Or.inr ⟨decide_eq_false b, Or.inl a⟩
    · exact Or.inr ⟨decide_eq_false c, Or.inr ⟨a, b⟩⟩
  by_cases w0 : w = 0
  · subst w0
    rcases site G.1 g1 with ⟨k, hk, rfl, hin⟩ | ⟨hin, h⟩
    · refine Or.inl ⟨Or.inl ⟨Or.inl rfl, k, hk, rfl⟩, fun μ h => ?_, fun μ h _ => ?_⟩
      · unfold f_X8_isOrder
        simp (disch := omega) only [lt_k, bnv_s, bnd_s, grd_t, q_in, q_inb, q_c, q_leT, q_leF, q_ltT, q_ltF, q_neg, q_nn, q_z, q_le0, q_b0, q_b1, nI_add, nI_0, q_off, q_self, q_oth, cst_2, st_2, ↓reduceIte, f_X8_cellAt, f_X8_roadAt, q_le1, q_nle1, q_le2, q_nle2, q_le5, q_nle5, q_le6, q_nle6, q_le8, q_nle8, q_le12, q_nle12, q_le25, q_nle25, q_le36, q_nle36, q_le60, q_nle60, q_le99, q_nle99, q_le100, q_nle100, q_le300, q_nle300, q_le640, q_nle640, q_le411, q_nle411, q_mul2, q_lmul2, q_mul3, q_lmul3, q_mul5, q_lmul5, q_mul6, q_lmul6, q_mul10, q_lmul10, q_add1, q_ladd1, q_add2, q_ladd2, q_add3, q_ladd3, q_add5, q_ladd5, q_add6, q_ladd6, q_add100, q_ladd100, q_div2, q_rem2, q_div3, q_rem3, q_div6, q_rem6, q_div10, q_rem10, (site0 (g := 15) h hG (i := k)).1 hk]
      · unfold f_X9_order f_X9_order_54 f_X9_many
        simp (disch := omega) only [lt_k, bnv_s, bnd_s, grd_t, q_in, q_inb, q_c, q_leT, q_leF, q_ltT, q_ltF, q_neg, q_nn, q_z, q_le0, q_b0, q_b1, nI_add, nI_0, q_off, q_self, q_oth, cst_2, st_2, ↓reduceIte, f_X8_cellAt, f_X8_roadAt, q_le1, q_nle1, q_le2, q_nle2, q_le5, q_nle5, q_le6, q_nle6, q_le8, q_nle8, q_le12, q_nle12, q_le25, q_nle25, q_le36, q_nle36, q_le60, q_nle60, q_le99, q_nle99, q_le100, q_nle100, q_le300, q_nle300, q_le640, q_nle640, q_le411, q_nle411, q_mul2, q_lmul2, q_mul3, q_lmul3, q_mul5, q_lmul5, q_mul6, q_lmul6, q_mul10, q_lmul10, q_add1, q_ladd1, q_add2, q_ladd2, q_add3, q_ladd3, q_add5, q_ladd5, q_add6, q_ladd6, q_add100, q_ladd100, q_div2, q_rem2, q_div3, q_rem3, q_div6, q_rem6, q_div10, q_rem10, show ¬ ((0 : Int32) = -1) by decide, i9_3, show inR (0 : Int32) 0 3 = true from by decide, b2i_t, q_10, show ¬ ((0 : Int32) = 2) by decide, show ¬ ((0 : Int32) = 1) by decide, h.1, i9_N, hin]
    · refine Or.inr ⟨fun μ hx => ?_, fun μ hx _ => ?_⟩
      · unfold f_X8_isOrder f_X0_isSite
        rcases h with a | ⟨a, b⟩
        · simp (disch := omega) only [lt_k, bnv_s, bnd_s, grd_t, q_in, q_inb, q_c, q_leT, q_leF, q_ltT, q_ltF, q_neg, q_nn, q_z, q_le0, q_b0, q_b1, nI_add, nI_0, q_off, q_self, q_oth, cst_2, st_2, ↓reduceIte, f_X8_cellAt, f_X8_roadAt, q_le1, q_nle1, q_le2, q_nle2, q_le5, q_nle5, q_le6, q_nle6, q_le8, q_nle8, q_le12, q_nle12, q_le25, q_nle25, q_le36, q_nle36, q_le60, q_nle60, q_le99, q_nle99, q_le100, q_nle100, q_le300, q_nle300, q_le640, q_nle640, q_le411, q_nle411, q_mul2, q_lmul2, q_mul3, q_lmul3, q_mul5, q_lmul5, q_mul6, q_lmul6, q_mul10, q_lmul10, q_add1, q_ladd1, q_add2, q_ladd2, q_add3, q_ladd3, q_add5, q_ladd5, q_add6, q_ladd6, q_add100, q_ladd100, q_div2, q_rem2, q_div3, q_rem3, q_div6, q_rem6, q_div10, q_rem10, a]
        · simp (disch := omega) only [lt_k, bnv_s, bnd_s, grd_t, q_in, q_inb, q_c, q_leT, q_leF, q_ltT, q_ltF, q_neg, q_nn, q_z, q_le0, q_b0, q_b1, nI_add, nI_0, q_off, q_self, q_oth, cst_2, st_2, ↓reduceIte, f_X8_cellAt, f_X8_roadAt, q_le1, q_nle1, q_le2, q_nle2, q_le5, q_nle5, q_le6, q_nle6, q_le8, q_nle8, q_le12, q_nle12, q_le25, q_nle25, q_le36, q_nle36, q_le60, q_nle60, q_le99, q_nle99, q_le100, q_nle100, q_le300, q_nle300, q_le640, q_nle640, q_le411, q_nle411, q_mul2, q_lmul2, q_mul3, q_lmul3, q_mul5, q_lmul5, q_mul6, q_lmul6, q_mul10, q_lmul10, q_add1, q_ladd1, q_add2, q_ladd2, q_add3, q_ladd3, q_add5, q_ladd5, q_add6, q_ladd6, q_add100, q_ladd100, q_div2, q_rem2, q_div3, q_rem3, q_div6, q_rem6, q_div10, q_rem10, a, hx.1, b]
      · unfold f_X9_order f_X9_order_54 f_X9_many
        simp (disch := omega) only [lt_k, bnv_s, bnd_s, grd_t, q_in, q_inb, q_c, q_leT, q_leF, q_ltT, q_ltF, q_neg, q_nn, q_z, q_le0, q_b0, q_b1, nI_add, nI_0, q_off, q_self, q_oth, cst_2, st_2, ↓reduceIte, f_X8_cellAt, f_X8_roadAt, q_le1, q_nle1, q_le2, q_nle2, q_le5, q_nle5, q_le6, q_nle6, q_le8, q_nle8, q_le12, q_nle12, q_le25, q_nle25, q_le36, q_nle36, q_le60, q_nle60, q_le99, q_nle99, q_le100, q_nle100, q_le300, q_nle300, q_le640, q_nle640, q_le411, q_nle411, q_mul2, q_lmul2, q_mul3, q_lmul3, q_mul5, q_lmul5, q_mul6, q_lmul6, q_mul10, q_lmul10, q_add1, q_ladd1, q_add2, q_ladd2, q_add3, q_ladd3, q_add5, q_ladd5, q_add6, q_ladd6, q_add100, q_ladd100, q_div2, q_rem2, q_div3, q_rem3, q_div6, q_rem6, q_div10, q_rem10, show ¬ ((0 : Int32) = -1) by decide, i9_3, show inR (0 : Int32) 0 3 = true from by decide, b2i_t, b2i_f, q_10, show ¬ ((0 : Int32) = 2) by decide, show ¬ ((0 : Int32) = 1) by decide, hx.1, i9_N, hin]
  · by_cases w1 : w = 1
    · subst w1
      rcases site G.2.1 g2 with ⟨k, hk, rfl, hin⟩ | ⟨hin, h⟩
      · refine Or.inl ⟨Or.inr (Or.inl ⟨rfl, k, hk, rfl⟩), fun μ h => ?_, fun μ h _ => ?_⟩
        · unfold f_X8_isOrder
          simp (disch := omega) only [lt_k, bnv_s, bnd_s, grd_t, q_in, q_inb, q_c, q_leT, q_leF, q_ltT, q_ltF, q_neg, q_nn, q_z, q_le0, q_b0, q_b1, nI_add, nI_0, q_off, q_self, q_oth, cst_2, st_2, ↓reduceIte, f_X8_cellAt, f_X8_roadAt, q_le1, q_nle1, q_le2, q_nle2, q_le5, q_nle5, q_le6, q_nle6, q_le8, q_nle8, q_le12, q_nle12, q_le25, q_nle25, q_le36, q_nle36, q_le60, q_nle60, q_le99, q_nle99, q_le100, q_nle100, q_le300, q_nle300, q_le640, q_nle640, q_le411, q_nle411, q_mul2, q_lmul2, q_mul3, q_lmul3, q_mul5, q_lmul5, q_mul6, q_lmul6, q_mul10, q_lmul10, q_add1, q_ladd1, q_add2, q_ladd2, q_add3, q_ladd3, q_add5, q_ladd5, q_add6, q_ladd6, q_add100, q_ladd100, q_div2, q_rem2, q_div3, q_rem3, q_div6, q_rem6, q_div10, q_rem10, q_10, (site0 (g := 15) h hG (i := k)).2 hk]
        · unfold f_X9_order f_X9_order_54 f_X9_many
          simp (disch := omega) only [lt_k, bnv_s, bnd_s, grd_t, q_in, q_inb, q_c, q_leT, q_leF, q_ltT, q_ltF, q_neg, q_nn, q_z, q_le0, q_b0, q_b1, nI_add, nI_0, q_off, q_self, q_oth, cst_2, st_2, ↓reduceIte, f_X8_cellAt, f_X8_roadAt, q_le1, q_nle1, q_le2, q_nle2, q_le5, q_nle5, q_le6, q_nle6, q_le8, q_nle8, q_le12, q_nle12, q_le25, q_nle25, q_le36, q_nle36, q_le60, q_nle60, q_le99, q_nle99, q_le100, q_nle100, q_le300, q_nle300, q_le640, q_nle640, q_le411, q_nle411, q_mul2, q_lmul2, q_mul3, q_lmul3, q_mul5, q_lmul5, q_mul6, q_lmul6, q_mul10, q_lmul10, q_add1, q_ladd1, q_add2, q_ladd2, q_add3, q_ladd3, q_add5, q_ladd5, q_add6, q_ladd6, q_add100, q_ladd100, q_div2, q_rem2, q_div3, q_rem3, q_div6, q_rem6, q_div10, q_rem10, show ¬ ((1 : Int32) = -1) by decide, i9_3, show inR (1 : Int32) 0 3 = true from by decide, b2i_t, q_10, show ¬ ((1 : Int32) = 2) by decide, h.2.1, i9_N, hin]
      · refine Or.inr ⟨fun μ hx => ?_, fun μ hx _ => ?_⟩
        · unfold f_X8_isOrder f_X0_isSite
          rcases h with a | ⟨a, b⟩
          · simp (disch := omega) only [lt_k, bnv_s, bnd_s, grd_t, q_in, q_inb, q_c, q_leT, q_leF, q_ltT, q_ltF, q_neg, q_nn, q_z, q_le0, q_b0, q_b1, nI_add, nI_0, q_off, q_self, q_oth, cst_2, st_2, ↓reduceIte, f_X8_cellAt, f_X8_roadAt, q_le1, q_nle1, q_le2, q_nle2, q_le5, q_nle5, q_le6, q_nle6, q_le8, q_nle8, q_le12, q_nle12, q_le25, q_nle25, q_le36, q_nle36, q_le60, q_nle60, q_le99, q_nle99, q_le100, q_nle100, q_le300, q_nle300, q_le640, q_nle640, q_le411, q_nle411, q_mul2, q_lmul2, q_mul3, q_lmul3, q_mul5, q_lmul5, q_mul6, q_lmul6, q_mul10, q_lmul10, q_add1, q_ladd1, q_add2, q_ladd2, q_add3, q_ladd3, q_add5, q_ladd5, q_add6, q_ladd6, q_add100, q_ladd100, q_div2, q_rem2, q_div3, q_rem3, q_div6, q_rem6, q_div10, q_rem10, q_10, a]
          · simp (disch := omega) only [lt_k, bnv_s, bnd_s, grd_t, q_in, q_inb, q_c, q_leT, q_leF, q_ltT, q_ltF, q_neg, q_nn, q_z, q_le0, q_b0, q_b1, nI_add, nI_0, q_off, q_self, q_oth, cst_2, st_2, ↓reduceIte, f_X8_cellAt, f_X8_roadAt, q_le1, q_nle1, q_le2, q_nle2, q_le5, q_nle5, q_le6, q_nle6, q_le8, q_nle8, q_le12, q_nle12, q_le25, q_nle25, q_le36, q_nle36, q_le60, q_nle60, q_le99, q_nle99, q_le100, q_nle100, q_le300, q_nle300, q_le640, q_nle640, q_le411, q_nle411, q_mul2, q_lmul2, q_mul3, q_lmul3, q_mul5, q_lmul5, q_mul6, q_lmul6, q_mul10, q_lmul10, q_add1, q_ladd1, q_add2, q_ladd2, q_add3, q_ladd3, q_add5, q_ladd5, q_add6, q_ladd6, q_add100, q_ladd100, q_div2, q_rem2, q_div3, q_rem3, q_div6, q_rem6, q_div10, q_rem10, q_10, a, hx.2.1, b]
        · unfold f_X9_order f_X9_order_54 f_X9_many
          simp (disch := omega) only [lt_k, bnv_s, bnd_s, grd_t, q_in, q_inb, q_c, q_leT, q_leF, q_ltT, q_ltF, q_neg, q_nn, q_z, q_le0, q_b0, q_b1, nI_add, nI_0, q_off, q_self, q_oth, cst_2, st_2, ↓reduceIte, f_X8_cellAt, f_X8_roadAt, q_le1, q_nle1, q_le2, q_nle2, q_le5, q_nle5, q_le6, q_nle6, q_le8, q_nle8, q_le12, q_nle12, q_le25, q_nle25, q_le36, q_nle36, q_le60, q_nle60, q_le99, q_nle99, q_le100, q_nle100, q_le300, q_nle300, q_le640, q_nle640, q_le411, q_nle411, q_mul2, q_lmul2, q_mul3, q_lmul3, q_mul5, q_lmul5, q_mul6, q_lmul6, q_mul10, q_lmul10, q_add1, q_ladd1, q_add2, q_ladd2, q_add3, q_ladd3, q_add5, q_ladd5, q_add6, q_ladd6, q_add100, q_ladd100, q_div2, q_rem2, q_div3, q_rem3, q_div6, q_rem6, q_div10, q_rem10, show ¬ ((1 : Int32) = -1) by decide, i9_3, show inR (1 : Int32) 0 3 = true from by decide, b2i_t, b2i_f, q_10, show ¬ ((1 : Int32) = 2) by decide, hx.2.1, i9_N, hin]
    · by_cases w2 : w = 2
      · subst w2
        by_cases nn : n < 0
        · refine Or.inr ⟨fun μ hx => ?_, fun μ hx _ => ?_⟩
          · unfold f_X8_isOrder
            simp (disch := omega) only [lt_k, bnv_s, bnd_s, grd_t, q_in, q_inb, q_c, q_leT, q_leF, q_ltT, q_ltF, q_neg, q_nn, q_z, q_le0, q_b0, q_b1, nI_add, nI_0, q_off, q_self, q_oth, cst_2, st_2, ↓reduceIte, f_X8_cellAt, f_X8_roadAt, q_le1, q_nle1, q_le2, q_nle2, q_le5, q_nle5, q_le6, q_nle6, q_le8, q_nle8, q_le12, q_nle12, q_le25, q_nle25, q_le36, q_nle36, q_le60, q_nle60, q_le99, q_nle99, q_le100, q_nle100, q_le300, q_nle300, q_le640, q_nle640, q_le411, q_nle411, q_mul2, q_lmul2, q_mul3, q_lmul3, q_mul5, q_lmul5, q_mul6, q_lmul6, q_mul10, q_lmul10, q_add1, q_ladd1, q_add2, q_ladd2, q_add3, q_ladd3, q_add5, q_ladd5, q_add6, q_ladd6, q_add100, q_ladd100, q_div2, q_rem2, q_div3, q_rem3, q_div6, q_rem6, q_div10, q_rem10, w0, w1, nn]
          · unfold f_X9_order f_X9_isSpelled
            simp (disch := omega) only [lt_k, bnv_s, bnd_s, grd_t, q_in, q_inb, q_c, q_leT, q_leF, q_ltT, q_ltF, q_neg, q_nn, q_z, q_le0, q_b0, q_b1, nI_add, nI_0, q_off, q_self, q_oth, cst_2, st_2, ↓reduceIte, f_X8_cellAt, f_X8_roadAt, q_le1, q_nle1, q_le2, q_nle2, q_le5, q_nle5, q_le6, q_nle6, q_le8, q_nle8, q_le12, q_nle12, q_le25, q_nle25, q_le36, q_nle36, q_le60, q_nle60, q_le99, q_nle99, q_le100, q_nle100, q_le300, q_nle300, q_le640, q_nle640, q_le411, q_nle411, q_mul2, q_lmul2, q_mul3, q_lmul3, q_mul5, q_lmul5, q_mul6, q_lmul6, q_mul10, q_lmul10, q_add1, q_ladd1, q_add2, q_ladd2, q_add3, q_ladd3, q_add5, q_ladd5, q_add6, q_ladd6, q_add100, q_ladd100, q_div2, q_rem2, q_div3, q_rem3, q_div6, q_rem6, q_div10, q_rem10, show ¬ ((2 : Int32) = -1) by decide, i9_3, show inR (2 : Int32) 0 3 = true from by decide, b2i_t, q_10, nn]
        · obtain ⟨k, hk, rfl⟩ := nI_of nn
          have hk' : k < 2147483648 := hk
          have rc := road_cases G hG (nI (k / 10)) (nI (k % 10))
          rcases rc with ⟨i, j, hi, hj, ei, ej, e⟩ | e
          · have hi' := (nI_eq (by omega) (by omega)).mp ei
            have hj' := (nI_eq (by omega) (by omega)).mp ej
            refine Or.inl ⟨Or.inr (Or.inr ⟨rfl, i, j, hi, hj, by congr 1; omega⟩), fun μ hx => ?_, fun μ hx _ => ?_⟩
            · have er := x0_isRoadG (g := 15) hx hG (nI (k / 10)) (nI (k % 10))
              rw [e] at er
              unfold f_X8_isOrder
              simp (disch := omega) only [lt_k, bnv_s, bnd_s, grd_t, q_in, q_inb, q_c, q_leT, q_leF, q_ltT, q_ltF, q_neg, q_nn, q_z, q_le0, q_b0, q_b1, nI_add, nI_0, q_off, q_self, q_oth, cst_2, st_2, ↓reduceIte, f_X8_cellAt, f_X8_roadAt, q_le1, q_nle1, q_le2, q_nle2, q_le5, q_nle5, q_le6, q_nle6, q_le8, q_nle8, q_le12, q_nle12, q_le25, q_nle25, q_le36, q_nle36, q_le60, q_nle60, q_le99, q_nle99, q_le100, q_nle100, q_le300, q_nle300, q_le640, q_nle640, q_le411, q_nle411, q_mul2, q_lmul2, q_mul3, q_lmul3, q_mul5, q_lmul5, q_mul6, q_lmul6, q_mul10, q_lmul10, q_add1, q_ladd1, q_add2, q_ladd2, q_add3, q_ladd3, q_add5, q_ladd5, q_add6, q_ladd6, q_add100, q_ladd100, q_div2, q_rem2, q_div3, q_rem3, q_div6, q_rem6, q_div10, q_rem10, w0, w1, er, q_10]
            · have er := x9_isRoadG hx hG (nI (k / 10)) (nI (k % 10))
              rw [e] at er
              unfold f_X9_order f_X9_isSpelled
              simp (disch := omega) only [lt_k, bnv_s, bnd_s, grd_t, q_in, q_inb, q_c, q_leT, q_leF, q_ltT, q_ltF, q_neg, q_nn, q_z, q_le0, q_b0, q_b1, nI_add, nI_0, q_off, q_self, q_oth, cst_2, st_2, ↓reduceIte, f_X8_cellAt, f_X8_roadAt, q_le1, q_nle1, q_le2, q_nle2, q_le5, q_nle5, q_le6, q_nle6, q_le8, q_nle8, q_le12, q_nle12, q_le25, q_nle25, q_le36, q_nle36, q_le60, q_nle60, q_le99, q_nle99, q_le100, q_nle100, q_le300, q_nle300, q_le640, q_nle640, q_le411, q_nle411, q_mul2, q_lmul2, q_mul3, q_lmul3, q_mul5, q_lmul5, q_mul6, q_lmul6, q_mul10, q_lmul10, q_add1, q_ladd1, q_add2, q_ladd2, q_add3, q_ladd3, q_add5, q_ladd5, q_add6, q_ladd6, q_add100, q_ladd100, q_div2, q_rem2, q_div3, q_rem3, q_div6, q_rem6, q_div10, q_rem10, show ¬ ((2 : Int32) = -1) by decide, i9_3, show inR (2 : Int32) 0 3 = true from by decide, b2i_t, q_10, er]
          · refine Or.inr ⟨fun μ hx => ?_, fun μ hx _ => ?_⟩
            · have er := x0_isRoadG (g := 15) hx hG (nI (k / 10)) (nI (k % 10))
              rw [e] at er
              unfold f_X8_isOrder
              simp (disch := omega) only [lt_k, bnv_s, bnd_s, grd_t, q_in, q_inb, q_c, q_leT, q_leF, q_ltT, q_ltF, q_neg, q_nn, q_z, q_le0, q_b0, q_b1, nI_add, nI_0, q_off, q_self, q_oth, cst_2, st_2, ↓reduceIte, f_X8_cellAt, f_X8_roadAt, q_le1, q_nle1, q_le2, q_nle2, q_le5, q_nle5, q_le6, q_nle6, q_le8, q_nle8, q_le12, q_nle12, q_le25, q_nle25, q_le36, q_nle36, q_le60, q_nle60, q_le99, q_nle99, q_le100, q_nle100, q_le300, q_nle300, q_le640, q_nle640, q_le411, q_nle411, q_mul2, q_lmul2, q_mul3, q_lmul3, q_mul5, q_lmul5, q_mul6, q_lmul6, q_mul10, q_lmul10, q_add1, q_ladd1, q_add2, q_ladd2, q_add3, q_ladd3, q_add5, q_ladd5, q_add6, q_ladd6, q_add100, q_ladd100, q_div2, q_rem2, q_div3, q_rem3, q_div6, q_rem6, q_div10, q_rem10, w0, w1, er]
            · have er := x9_isRoadG hx hG (nI (k / 10)) (nI (k % 10))
              rw [e] at er
              unfold f_X9_order f_X9_isSpelled
              simp (disch := omega) only [lt_k, bnv_s, bnd_s, grd_t, q_in, q_inb, q_c, q_leT, q_leF, q_ltT, q_ltF, q_neg, q_nn, q_z, q_le0, q_b0, q_b1, nI_add, nI_0, q_off, q_self, q_oth, cst_2, st_2, ↓reduceIte, f_X8_cellAt, f_X8_roadAt, q_le1, q_nle1, q_le2, q_nle2, q_le5, q_nle5, q_le6, q_nle6, q_le8, q_nle8, q_le12, q_nle12, q_le25, q_nle25, q_le36, q_nle36, q_le60, q_nle60, q_le99, q_nle99, q_le100, q_nle100, q_le300, q_nle300, q_le640, q_nle640, q_le411, q_nle411, q_mul2, q_lmul2, q_mul3, q_lmul3, q_mul5, q_lmul5, q_mul6, q_lmul6, q_mul10, q_lmul10, q_add1, q_ladd1, q_add2, q_ladd2, q_add3, q_ladd3, q_add5, q_ladd5, q_add6, q_ladd6, q_add100, q_ladd100, q_div2, q_rem2, q_div3, q_rem3, q_div6, q_rem6, q_div10, q_rem10, show ¬ ((2 : Int32) = -1) by decide, i9_3, show inR (2 : Int32) 0 3 = true from by decide, b2i_t, q_10, er]
      · by_cases w3 : w = 3
        · subst w3
          rcases site G.1 g1 with ⟨k, hk, rfl, hin⟩ | ⟨hin, h⟩
          · refine Or.inl ⟨Or.inl ⟨Or.inr rfl, k, hk, rfl⟩, fun μ h => ?_, fun μ h _ => ?_⟩
            · unfold f_X8_isOrder
              simp (disch := omega) only [lt_k, bnv_s, bnd_s, grd_t, q_in, q_inb, q_c, q_leT, q_leF, q_ltT, q_ltF, q_neg, q_nn, q_z, q_le0, q_b0, q_b1, nI_add, nI_0, q_off, q_self, q_oth, cst_2, st_2, ↓reduceIte, f_X8_cellAt, f_X8_roadAt, q_le1, q_nle1, q_le2, q_nle2, q_le5, q_nle5, q_le6, q_nle6, q_le8, q_nle8, q_le12, q_nle12, q_le25, q_nle25, q_le36, q_nle36, q_le60, q_nle60, q_le99, q_nle99, q_le100, q_nle100, q_le300, q_nle300, q_le640, q_nle640, q_le411, q_nle411, q_mul2, q_lmul2, q_mul3, q_lmul3, q_mul5, q_lmul5, q_mul6, q_lmul6, q_mul10, q_lmul10, q_add1, q_ladd1, q_add2, q_ladd2, q_add3, q_ladd3, q_add5, q_ladd5, q_add6, q_ladd6, q_add100, q_ladd100, q_div2, q_rem2, q_div3, q_rem3, q_div6, q_rem6, q_div10, q_rem10, w0, w1, w2, (site0 (g := 15) h hG (i := k)).1 hk]
            · unfold f_X9_order f_X9_order_54 f_X9_many
              simp (disch := omega) only [lt_k, bnv_s, bnd_s, grd_t, q_in, q_inb, q_c, q_leT, q_leF, q_ltT, q_ltF, q_neg, q_nn, q_z, q_le0, q_b0, q_b1, nI_add, nI_0, q_off, q_self, q_oth, cst_2, st_2, ↓reduceIte, f_X8_cellAt, f_X8_roadAt, q_le1, q_nle1, q_le2, q_nle2, q_le5, q_nle5, q_le6, q_nle6, q_le8, q_nle8, q_le12, q_nle12, q_le25, q_nle25, q_le36, q_nle36, q_le60, q_nle60, q_le99, q_nle99, q_le100, q_nle100, q_le300, q_nle300, q_le640, q_nle640, q_le411, q_nle411, q_mul2, q_lmul2, q_mul3, q_lmul3, q_mul5, q_lmul5, q_mul6, q_lmul6, q_mul10, q_lmul10, q_add1, q_ladd1, q_add2, q_ladd2, q_add3, q_ladd3, q_add5, q_ladd5, q_add6, q_ladd6, q_add100, q_ladd100, q_div2, q_rem2, q_div3, q_rem3, q_div6, q_rem6, q_div10, q_rem10, show ¬ ((3 : Int32) = -1) by decide, i9_3, show inR (3 : Int32) 0 3 = true from by decide, b2i_t, q_10, w2, w1, h.1, i9_N, hin]
          · refine Or.inr ⟨fun μ hx => ?_, fun μ hx _ => ?_⟩
            · unfold f_X8_isOrder f_X0_isSite
              rcases h with a | ⟨a, b⟩
              · simp (disch := omega) only [lt_k, bnv_s, bnd_s, grd_t, q_in, q_inb, q_c, q_leT, q_leF, q_ltT, q_ltF, q_neg, q_nn, q_z, q_le0, q_b0, q_b1, nI_add, nI_0, q_off, q_self, q_oth, cst_2, st_2, ↓reduceIte, f_X8_cellAt, f_X8_roadAt, q_le1, q_nle1, q_le2, q_nle2, q_le5, q_nle5, q_le6, q_nle6, q_le8, q_nle8, q_le12, q_nle12, q_le25, q_nle25, q_le36, q_nle36, q_le60, q_nle60, q_le99, q_nle99, q_le100, q_nle100, q_le300, q_nle300, q_le640, q_nle640, q_le411, q_nle411, q_mul2, q_lmul2, q_mul3, q_lmul3, q_mul5, q_lmul5, q_mul6, q_lmul6, q_mul10, q_lmul10, q_add1, q_ladd1, q_add2, q_ladd2, q_add3, q_ladd3, q_add5, q_ladd5, q_add6, q_ladd6, q_add100, q_ladd100, q_div2, q_rem2, q_div3, q_rem3, q_div6, q_rem6, q_div10, q_rem10, w0, w1, w2, a]
              · simp (disch := omega) only [lt_k, bnv_s, bnd_s, grd_t, q_in, q_inb, q_c, q_leT, q_leF, q_ltT, q_ltF, q_neg, q_nn, q_z, q_le0, q_b0, q_b1, nI_add, nI_0, q_off, q_self, q_oth, cst_2, st_2, ↓reduceIte, f_X8_cellAt, f_X8_roadAt, q_le1, q_nle1, q_le2, q_nle2, q_le5, q_nle5, q_le6, q_nle6, q_le8, q_nle8, q_le12, q_nle12, q_le25, q_nle25, q_le36, q_nle36, q_le60, q_nle60, q_le99, q_nle99, q_le100, q_nle100, q_le300, q_nle300, q_le640, q_nle640, q_le411, q_nle411, q_mul2, q_lmul2, q_mul3, q_lmul3, q_mul5, q_lmul5, q_mul6, q_lmul6, q_mul10, q_lmul10, q_add1, q_ladd1, q_add2, q_ladd2, q_add3, q_ladd3, q_add5, q_ladd5, q_add6, q_ladd6, q_add100, q_ladd100, q_div2, q_rem2, q_div3, q_rem3, q_div6, q_rem6, q_div10, q_rem10, w0, w1, w2, a, hx.1, b]
            · unfold f_X9_order f_X9_order_54 f_X9_many
              simp (disch := omega) only [lt_k, bnv_s, bnd_s, grd_t, q_in, q_inb, q_c, q_leT, q_leF, q_ltT, q_ltF, q_neg, q_nn, q_z, q_le0, q_b0, q_b1, nI_add, nI_0, q_off, q_self, q_oth, cst_2, st_2, ↓reduceIte, f_X8_cellAt, f_X8_roadAt, q_le1, q_nle1, q_le2, q_nle2, q_le5, q_nle5, q_le6, q_nle6, q_le8, q_nle8, q_le12, q_nle12, q_le25, q_nle25, q_le36, q_nle36, q_le60, q_nle60, q_le99, q_nle99, q_le100, q_nle100, q_le300, q_nle300, q_le640, q_nle640, q_le411, q_nle411, q_mul2, q_lmul2, q_mul3, q_lmul3, q_mul5, q_lmul5, q_mul6, q_lmul6, q_mul10, q_lmul10, q_add1, q_ladd1, q_add2, q_ladd2, q_add3, q_ladd3, q_add5, q_ladd5, q_add6, q_ladd6, q_add100, q_ladd100, q_div2, q_rem2, q_div3, q_rem3, q_div6, q_rem6, q_div10, q_rem10, show ¬ ((3 : Int32) = -1) by decide, i9_3, show inR (3 : Int32) 0 3 = true from by decide, b2i_t, b2i_f, q_10, w2, w1, hx.1, i9_N, hin]
        · have hin : inR w 0 3 = false := by
            cases q : inR w 0 3
            · rfl
            · have := inR_t.mp q
              exfalso
              have h0 : ¬ w.toInt = 0 := fun e => w0 (by rw [i_eq]; exact e)
              have h1 : ¬ w.toInt = 1 := fun e => w1 (by rw [i_eq]; exact e)
              have h2 : ¬ w.toInt = 2 := fun e => w2 (by rw [i_eq]; exact e)
              have h3 : ¬ w.toInt = 3 := fun e => w3 (by rw [i_eq]; exact e)
              omega
          refine Or.inr ⟨fun μ hx => ?_, fun μ hx hw => ?_⟩
          · unfold f_X8_isOrder
            rw [if_neg w0, if_neg w1, if_neg w2, if_neg w3]
          · unfold f_X9_order
            simp (disch := omega) only [lt_k, bnv_s, bnd_s, grd_t, q_in, q_inb, q_c, q_leT, q_leF, q_ltT, q_ltF, q_neg, q_nn, q_z, q_le0, q_b0, q_b1, nI_add, nI_0, q_off, q_self, q_oth, cst_2, st_2, ↓reduceIte, f_X8_cellAt, f_X8_roadAt, q_le1, q_nle1, q_le2, q_nle2, q_le5, q_nle5, q_le6, q_nle6, q_le8, q_nle8, q_le12, q_nle12, q_le25, q_nle25, q_le36, q_nle36, q_le60, q_nle60, q_le99, q_nle99, q_le100, q_nle100, q_le300, q_nle300, q_le640, q_nle640, q_le411, q_nle411, q_mul2, q_lmul2, q_mul3, q_lmul3, q_mul5, q_lmul5, q_mul6, q_lmul6, q_mul10, q_lmul10, q_add1, q_ladd1, q_add2, q_ladd2, q_add3, q_ladd3, q_add5, q_ladd5, q_add6, q_ladd6, q_add100, q_ladd100, q_div2, q_rem2, q_div3, q_rem3, q_div6, q_rem6, q_div10, q_rem10, hw, i9_3, hin, b2i_f]
theorem st_order {μ : Mem} (hv : Inv μ) (a1 : Int32) (a2 : Int32) : ∃ r μ1 μ2, f_X8_order a1 a2 μ = some (r, μ1) ∧ f_X9_order a1 a2 μ1 = some (r, μ2) ∧ Inv μ2 := by
  obtain ⟨⟨D, hD, hX, hM⟩, hR⟩ := id hv
  obtain ⟨d1, d2, d3, d4, d5, d6, d7, d8, d9⟩ := id hD
  by_cases m1 : a1 = -1
  · obtain ⟨μ1, e1, x1, f1⟩ := x4_drop hX.2.2.2.1
    refine ⟨0, μ1, st μ1 122 21 0, ?_, ?_, Inv_od hD hX hM hR (r := r_no D.2.2.2.2.1) ⟨d1, d2, d3, d4, d5, Nat.zero_le _, fun j hj => by change j < 0 at hj; omega, d8, d9⟩ f1 x1 (fr_st (by omega)) ⟨by rw [q_self]; rfl, fun j hj => by change j < 0 at hj; omega⟩⟩
    · unfold f_X8_order
      rw [if_pos m1, show f_X4_drop 45 μ = some (0, μ1) from e1, bnd_s]
    · unfold f_X9_order
      rw [if_pos m1, lt_k]
  · rcases ord_cases D.1 hD.1 a1 a2 with ⟨ho, o8, o9⟩ | ⟨o8, o9⟩
    · by_cases hlt : D.2.2.2.2.1.1 < 8
      · obtain ⟨μ1, e1, x1, f1⟩ := (x4_add hX.2.2.2.1 (by omega) d6 a1 a2).1 hlt
        have hM1 := MD_fr hM hD f1 (fun c j q => by omega)
        obtain ⟨x2, f2⟩ := MR_od_add hM1.2.2.2.1 hlt a1 a2
        refine ⟨nI (D.2.2.2.2.1.1 + 1), μ1, _, ?_, ?_, Inv_od hD hX hM hR (r := r_add D.2.2.2.2.1 a1 a2) ⟨d1, d2, d3, d4, d5, by show D.2.2.2.2.1.1 + 1 ≤ 8; omega, fun j hj => ?_, d8, d9⟩ f1 x1 f2 x2⟩
        · unfold f_X8_order
          rw [if_neg m1, o8 μ hX.1, bnv_s, if_neg (by decide), show f_X4_add 45 a1 a2 μ = _ from e1, bnd_s]
        · rw [o9 μ1 hM1.1 m1]
          have hf := hM1.2.2.2.1.1
          have l5 : (nI D.2.2.2.2.1.1 = 8) = False := eq_false (fun r => by have := (nI_eq (b := 8) (by omega) (by decide)).mp r; omega)
          unfold f_X9_order_68
          simp (disch := omega) only [lt_k, bnv_s, bnd_s, grd_t, q_in, q_inb, q_c, q_leT, q_leF, q_ltT, q_ltF, q_neg, q_nn, q_z, q_le0, q_b0, q_b1, nI_add, nI_0, q_off, q_self, q_oth, cst_2, st_2, ↓reduceIte, f_X8_cellAt, f_X8_roadAt, q_le1, q_nle1, q_le2, q_nle2, q_le5, q_nle5, q_le6, q_nle6, q_le8, q_nle8, q_le12, q_nle12, q_le25, q_nle25, q_le36, q_nle36, q_le60, q_nle60, q_le99, q_nle99, q_le100, q_nle100, q_le300, q_nle300, q_le640, q_nle640, q_le411, q_nle411, q_mul2, q_lmul2, q_mul3, q_lmul3, q_mul5, q_lmul5, q_mul6, q_lmul6, q_mul10, q_lmul10, q_add1, q_ladd1, q_add2, q_ladd2, q_add3, q_ladd3, q_add5, q_ladd5, q_add6, q_ladd6, q_add100, q_ladd100, q_div2, q_rem2, q_div3, q_rem3, q_div6, q_rem6, q_div10, q_rem10, hf, l5]
        · change j < D.2.2.2.2.1.1 + 1 at hj
          show ord_ok D.1 (upd D.2.2.2.2.1.2.1 D.2.2.2.2.1.1 a1 j) (upd D.2.2.2.2.1.2.2 D.2.2.2.2.1.1 a2 j)
          unfold upd
          by_cases q : j = D.2.2.2.2.1.1
          · rw [if_pos q, if_pos q]; exact ho
          · rw [if_neg q, if_neg q]; exact d7 j (by omega)
      · have e1 := (x4_add hX.2.2.2.1 (by omega) d6 a1 a2).2 hlt
        refine ⟨-4, μ, μ, ?_, ?_, hv⟩
        · unfold f_X8_order
          rw [if_neg m1, o8 μ hX.1, bnv_s, if_neg (by decide), show f_X4_add 45 a1 a2 μ = _ from e1, bnd_s]
        · rw [o9 μ hM.1 m1]
          unfold f_X9_order_68
          rw [hM.2.2.2.1.1, show D.2.2.2.2.1.1 = 8 by omega, if_pos (by rfl)]
    · refine ⟨-1, μ, μ, ?_, o9 μ hM.1 m1, hv⟩
      unfold f_X8_order
      rw [if_neg m1, o8 μ hX.1, bnv_s, if_pos rfl]
