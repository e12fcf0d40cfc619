/-! THE CALLS: the plan -/
def NS : Nat → Nat → Prop := fun c j => (c = 122 ∧ (j = 6 ∨ j = 7 ∨ j = 8 ∨ j = 9 ∨ j = 30 ∨ j = 41 ∨ j = 42)) ∨ (127 ≤ c ∧ c ≤ 130) ∨ (139 ≤ c ∧ c ≤ 146)
theorem Inv_plan {D : TD} {A' : TA} {μ μ1 μ2 : Mem} (hX : XD 14 D μ) (hM : MD D μ) (hR : Rst μ) (hD : D_ok D) (h' : D_ok (D.1, true, A', D.2.2.2)) (f1 : fr (KB 22) μ μ1) (x1 : XPl 22 (D.1, true, A', D.2.2.2) μ1) (f2 : fr NS μ1 μ2) (x2 : MPl (D.1, true, A', D.2.2.2) μ2) : Inv μ2 := by
  obtain ⟨h1, h2, h3, h4, h5⟩ := hX
  obtain ⟨m1, m2, m3, m4, m5⟩ := hM
  have f : fr (fun c j => KB 22 c j ∨ NS c j) μ μ2 := fr_trans f1 f2 (fun c j h => Or.inl h) (fun c j h => Or.inr h)
  refine ⟨⟨(D.1, true, A', D.2.2.2), h', ⟨XG_fr h1 f (fun c j p q => by unfold KB NS; omega), XPl_fr x1 h' f2 (fun c j q => by unfold NS; omega), XRw_fr h3 f (fun c j q => by unfold KB NS; omega), XRw_fr h4 f (fun c j q => by unfold KB NS; omega), XRw_fr h5 f (fun c j q => by unfold KB NS; omega)⟩,
    ⟨MG_fr m1 f (fun c j q => by unfold KB NS; omega), x2, MRw_fr m3 f (fun c j q => by unfold KB NS; omega), MRw_fr m4 f (fun c j q => by unfold KB NS; omega), MRw_fr m5 f (fun c j q => by unfold KB NS; omega)⟩⟩, Rst_fr hR f (fun c j q => by unfold KB NS; omega)⟩
theorem XPl_of {k : Nat} {D : TD} {μ : Mem} (h1 : D.2.1 = true) (h0 : μ.1 k 0 = 1) (hx : XR k (g_S D.1) (g_T D.1) (g_cost D.1) D.2.2.1 μ) : XPl k D μ := by
  refine ⟨by rw [h1]; exact h0, fun _ => hx, fun c hc => ?_⟩
  rw [hx.2.2.2.2.1 c hc]
  cases D.2.2.1.2.2.1 c
  · exact Or.inl rfl
  · exact Or.inr rfl
theorem st_start {μ : Mem} (hv : Inv μ) (a1 : Int32) : ∃ r μ1 μ2, f_X8_start a1 μ = some (r, μ1) ∧ f_X9_start a1 μ1 = some (r, μ2) ∧ Inv μ2 := by
  obtain ⟨⟨D, hD, hX, hM⟩, hR⟩ := id hv
  have g1 := hD.1.1
  have g2 := hD.1.2.1
  unfold f_X8_start f_X9_start
  by_cases hin : inR a1 0 2 = true
  · have hb := x0_both (g := 15) hX.1 hD.1
    by_cases hQ : 0 < D.1.1 ∧ 0 < D.1.2.1
    · rw [if_pos hQ] at hb
      obtain ⟨m1, s1, e1, f1, ⟨n1, r1⟩, ok1, b1, x1⟩ := x3_startOn (k := 22) (g := 15) a1 hX.1 hD.1 hQ.1 hQ.2 (by omega)
      have hM1 := MD_fr hM hD f1 (fun c j q => by unfold KB; omega)
      obtain ⟨m2, s2, e2, f2, ⟨n2, r2⟩, ok2, x2, -⟩ := x9_starts a1 hM1.1 hD.1 hQ.1 hQ.2
      have := t_srun_det _ _ r1 r2
      subst this
      have x2' : MR (g_S D.1) (g_T D.1) (g_cost D.1) (t_A0 s1) (st m2 122 6 1) := by
        refine MR_fr2 x2 (by show 0 ≤ 100; omega) (fr_st (A := fun c j => c = 122 ∧ j = 6) (by omega)) (fun c j q => by omega)
      have h' : D_ok (D.1, true, t_A0 s1, D.2.2.2) := ⟨hD.1, hD.2.1, fun _ => ⟨hQ.1, hQ.2, ok1⟩, hD.2.2.2⟩
      refine ⟨t_tot (g_cost D.1) (t_A0 s1), m1, st m2 122 6 1, ?_, ?_, Inv_plan hX hM hR hD h' f1 (XPl_of rfl b1 x1) (fr_trans f2 (fr_st (A := NS) (by unfold NS; omega)) (fun c j h => by unfold SA at h; unfold NS; omega) (fun c j h => h)) ⟨by rw [q_self]; rfl, fun _ => x2'⟩⟩
      · rw [u8_2, bnv_s, hin, b2i_t, if_neg (by decide), hb, bnv_s, if_neg (by decide), e1, bnv_s, x3_total' ok1 x1, bnv_s]
      · rw [i9_2, bnv_s, hin, b2i_t, if_neg (by decide), if_neg (by rw [hM1.1.1]; exact nI_ne0 hQ.1 (by omega)), if_neg (by rw [hM1.1.2.1]; exact nI_ne0 hQ.2 (by omega)), e2, bnv_s, lt_k, x9_total' ok1 x2', bnv_s]
    · rw [if_neg hQ] at hb
      refine ⟨-3, μ, μ, ?_, ?_, hv⟩
      · rw [u8_2, bnv_s, hin, b2i_t, if_neg (by decide), hb, bnv_s, if_pos rfl]
      · rw [i9_2, bnv_s, hin, b2i_t, if_neg (by decide)]
        by_cases q : D.1.1 = 0
        · rw [if_pos (by rw [hM.1.1, q]; rfl)]
        · rw [if_neg (by rw [hM.1.1]; exact nI_ne0 (by omega) (by omega)), if_pos (by rw [hM.1.2.1, show D.1.2.1 = 0 by omega]; rfl)]
  · have hin' := ff_t hin
    refine ⟨-2, μ, μ, ?_, ?_, hv⟩
    · rw [u8_2, bnv_s, hin', b2i_f, if_pos rfl]
    · rw [i9_2, bnv_s, hin', b2i_f, if_pos rfl]
theorem st_step {μ : Mem} (hv : Inv μ) (a1 : Int32) (a2 : Int32) : ∃ r μ1 μ2, f_X8_step a1 a2 μ = some (r, μ1) ∧ f_X9_step a1 a2 μ1 = some (r, μ2) ∧ Inv μ2 := by
  obtain ⟨⟨D, hD, hX, hM⟩, hR⟩ := id hv
  have hp : XPl 22 D μ := hX.2.1
  have hq := hM.2.1
  unfold f_X8_step f_X9_step
  by_cases hin : inR a1 0 2 = true
  · by_cases hin2 : inR a2 0 100 = true
    · cases hm : D.2.1
      · have p0 := hp.1
        have q0 := hq.1
        rw [hm] at p0 q0
        refine ⟨-3, μ, μ, ?_, ?_, hv⟩
        · rw [u8_2, bnv_s, hin, b2i_t, if_neg (by decide), u8_100, bnv_s, hin2, b2i_t, if_neg (by decide), p0, b01_f, if_pos rfl]
        · rw [i9_2, bnv_s, hin, b2i_t, if_neg (by decide), i9_100, bnv_s, hin2, b2i_t, if_neg (by decide), q0, b01_f, if_pos rfl]
      · have p0 := hp.1
        have q0 := hq.1
        rw [hm] at p0 q0
        obtain ⟨b1, b2, ok⟩ := hD.2.2.1 hm
        obtain ⟨n, hn, rfl⟩ := nI_ex (N := 101) (inR_t.mp hin2).1 (by have := (inR_t.mp hin2).2; omega)
        obtain ⟨d1, A1, m1, e1, l1, r1, x1, f1⟩ := x3_often a1 n (by omega) ok (hp.2.1 hm)
        have hM1 := MD_fr hM hD f1 (fun c j q => by unfold KA; omega)
        obtain ⟨d2, A2, m2, e2, l2, r2, x2, f2⟩ := x9_goes a1 n (by omega) ok (hM1.2.1.2 hm)
        obtain ⟨ed, eA⟩ := t_run_det n ok r1 r2
        subst ed
        subst eA
        have ok1 := t_run_ok n ok r1
        have h' : D_ok (D.1, true, A1, D.2.2.2) := ⟨hD.1, hD.2.1, fun _ => ⟨b1, b2, ok1⟩, hD.2.2.2⟩
        have q1 := hM1.2.1.1
        rw [hm] at q1
        refine ⟨nI d1, m1, m2, ?_, ?_, Inv_plan hX hM hR hD h' (fr_mono f1 (fun c j h => by unfold KA at h; unfold KB; omega)) (XPl_of rfl (by rw [f1.2 _ _ (by unfold KA; omega)]; exact p0) x1) (fr_mono f2 (fun c j h => by unfold NA at h; unfold NS; omega)) ⟨by rw [f2.2 _ _ (by unfold NA; omega)]; exact q1, fun _ => x2⟩⟩
        · rw [u8_2, bnv_s, hin, b2i_t, if_neg (by decide), u8_100, bnv_s, hin2, b2i_t, if_neg (by decide), p0, if_neg (by decide), e1, bnd_s]
        · rw [i9_2, bnv_s, hin, b2i_t, if_neg (by decide), i9_100, bnv_s, hin2, b2i_t, if_neg (by decide), q1, if_neg (by decide), e2, bnd_s]
    · have hin2' := ff_t hin2
      refine ⟨-2, μ, μ, ?_, ?_, hv⟩
      · rw [u8_2, bnv_s, hin, b2i_t, if_neg (by decide), u8_100, bnv_s, hin2', b2i_f, if_pos rfl]
      · rw [i9_2, bnv_s, hin, b2i_t, if_neg (by decide), i9_100, bnv_s, hin2', b2i_f, if_pos rfl]
  · have hin' := ff_t hin
    refine ⟨-2, μ, μ, ?_, ?_, hv⟩
    · rw [u8_2, bnv_s, hin', b2i_f, if_pos rfl]
    · rw [i9_2, bnv_s, hin', b2i_f, if_pos rfl]
/-- a plan in both -/
theorem plan_both {μ : Mem} (hv : Inv μ) : (μ.1 22 0 = 0 ∧ μ.1 122 6 = 0) ∨ ∃ (D : TD), D_ok D ∧ XD 14 D μ ∧ MD D μ ∧ μ.1 22 0 = 1 ∧ μ.1 122 6 = 1 ∧ t_ok (g_S D.1) (g_T D.1) (g_cost D.1) D.2.2.1 ∧ XR 22 (g_S D.1) (g_T D.1) (g_cost D.1) D.2.2.1 μ ∧ MR (g_S D.1) (g_T D.1) (g_cost D.1) D.2.2.1 μ := by
  obtain ⟨⟨D, hD, hX, hM⟩, hR⟩ := id hv
  have hp : XPl 22 D μ := hX.2.1
  have hq := hM.2.1
  have p0 := hp.1
  have q0 := hq.1
  cases hm : D.2.1
  · rw [hm] at p0 q0
    exact Or.inl ⟨p0, q0⟩
  · rw [hm] at p0 q0
    exact Or.inr ⟨D, hD, hX, hM, p0, q0, (hD.2.2.1 hm).2.2, hp.2.1 hm, hq.2 hm⟩
theorem st_load {μ : Mem} (hv : Inv μ) (a1 : Int32) (a2 : Int32) : ∃ r, f_X8_load a1 a2 μ = some r ∧ f_X9_load a1 a2 μ = some r := by
  unfold f_X8_load f_X9_load
  rcases plan_both hv with ⟨p0, q0⟩ | ⟨D, hD, hX, hM, p0, q0, ok, xr, mr⟩
  · exact ⟨-3, by rw [p0, if_pos rfl], by rw [q0, if_pos rfl]⟩
  · have c9 := x9_isCellG mr.1 mr.2.1 ok.1.2.1 ok.1.2.2.2.1 a1 a2
    have hS := ok.1.2.1
    have hT := ok.1.2.2.2.1
    rcases x3_isCellG (k := 22) xr.1 xr.2.1 ok.1.2.1 ok.1.2.2.2.1 a1 a2 with ⟨i, j, hi, hj, rfl, rfl, c8⟩ | ⟨c8, hn⟩
    · rw [if_pos (by rw [nI_i (by omega), nI_i (by omega)]; omega)] at c9
      refine ⟨D.2.2.1.2.1 (6 * i + j), ?_, ?_⟩
      · have := xr.2.2.2.1 (6 * i + j) (by omega)
        simp (disch := omega) only [lt_k, bnv_s, bnd_s, grd_t, q_in, q_inb, q_c, q_leT, q_leF, q_ltT, q_ltF, q_neg, q_nn, q_z, q_le0, q_b0, q_b1, nI_add, nI_0, q_off, q_self, q_oth, cst_2, st_2, ↓reduceIte, f_X8_cellAt, f_X8_roadAt, q_le1, q_nle1, q_le2, q_nle2, q_le5, q_nle5, q_le6, q_nle6, q_le8, q_nle8, q_le12, q_nle12, q_le25, q_nle25, q_le36, q_nle36, q_le60, q_nle60, q_le99, q_nle99, q_le100, q_nle100, q_le300, q_nle300, q_le640, q_nle640, q_le411, q_nle411, q_mul2, q_lmul2, q_mul3, q_lmul3, q_mul5, q_lmul5, q_mul6, q_lmul6, q_mul10, q_lmul10, q_add1, q_ladd1, q_add2, q_ladd2, q_add3, q_ladd3, q_add5, q_ladd5, q_add6, q_ladd6, q_add100, q_ladd100, q_div2, q_rem2, q_div3, q_rem3, q_div6, q_rem6, q_div10, q_rem10, p0, q_10, c8, Nat.mul_comm i 6]
        exact congrArg some this
      · have := mr.2.2.2.1 (6 * i + j) (by omega)
        simp (disch := omega) only [lt_k, bnv_s, bnd_s, grd_t, q_in, q_inb, q_c, q_leT, q_leF, q_ltT, q_ltF, q_neg, q_nn, q_z, q_le0, q_b0, q_b1, nI_add, nI_0, q_off, q_self, q_oth, cst_2, st_2, ↓reduceIte, f_X8_cellAt, f_X8_roadAt, q_le1, q_nle1, q_le2, q_nle2, q_le5, q_nle5, q_le6, q_nle6, q_le8, q_nle8, q_le12, q_nle12, q_le25, q_nle25, q_le36, q_nle36, q_le60, q_nle60, q_le99, q_nle99, q_le100, q_nle100, q_le300, q_nle300, q_le640, q_nle640, q_le411, q_nle411, q_mul2, q_lmul2, q_mul3, q_lmul3, q_mul5, q_lmul5, q_mul6, q_lmul6, q_mul10, q_lmul10, q_add1, q_ladd1, q_add2, q_ladd2, q_add3, q_ladd3, q_add5, q_ladd5, q_add6, q_ladd6, q_add100, q_ladd100, q_div2, q_rem2, q_div3, q_rem3, q_div6, q_rem6, q_div10, q_rem10, q0, q_10, c9, this]
    · rw [if_neg hn] at c9
      exact ⟨-1, by rw [p0, if_neg (by decide), c8, bnv_s, if_pos rfl], by rw [q0, if_neg (by decide), c9, bnv_s, if_pos rfl]⟩
theorem st_basic {μ : Mem} (hv : Inv μ) (a1 : Int32) (a2 : Int32) : ∃ r, f_X8_basic a1 a2 μ = some r ∧ f_X9_basic a1 a2 μ = some r := by
  unfold f_X8_basic f_X9_basic
  rcases plan_both hv with ⟨p0, q0⟩ | ⟨D, hD, hX, hM, p0, q0, ok, xr, mr⟩
  · exact ⟨-3, by rw [p0, if_pos rfl], by rw [q0, if_pos rfl]⟩
  · have c9 := x9_isCellG mr.1 mr.2.1 ok.1.2.1 ok.1.2.2.2.1 a1 a2
    have hS := ok.1.2.1
    have hT := ok.1.2.2.2.1
    rcases x3_isCellG (k := 22) xr.1 xr.2.1 ok.1.2.1 ok.1.2.2.2.1 a1 a2 with ⟨i, j, hi, hj, rfl, rfl, c8⟩ | ⟨c8, hn⟩
    · rw [if_pos (by rw [nI_i (by omega), nI_i (by omega)]; omega)] at c9
      refine ⟨b01 (D.2.2.1.2.2.1 (6 * i + j)), ?_, ?_⟩
      · have := xr.2.2.2.2.1 (6 * i + j) (by omega)
        simp only [Nat.reduceAdd] at this
        simp (disch := omega) only [lt_k, bnv_s, bnd_s, grd_t, q_in, q_inb, q_c, q_leT, q_leF, q_ltT, q_ltF, q_neg, q_nn, q_z, q_le0, q_b0, q_b1, nI_add, nI_0, q_off, q_self, q_oth, cst_2, st_2, ↓reduceIte, f_X8_cellAt, f_X8_roadAt, q_le1, q_nle1, q_le2, q_nle2, q_le5, q_nle5, q_le6, q_nle6, q_le8, q_nle8, q_le12, q_nle12, q_le25, q_nle25, q_le36, q_nle36, q_le60, q_nle60, q_le99, q_nle99, q_le100, q_nle100, q_le300, q_nle300, q_le640, q_nle640, q_le411, q_nle411, q_mul2, q_lmul2, q_mul3, q_lmul3, q_mul5, q_lmul5, q_mul6, q_lmul6, q_mul10, q_lmul10, q_add1, q_ladd1, q_add2, q_ladd2, q_add3, q_ladd3, q_add5, q_ladd5, q_add6, q_ladd6, q_add100, q_ladd100, q_div2, q_rem2, q_div3, q_rem3, q_div6, q_rem6, q_div10, q_rem10, p0, q_10, c8, Nat.mul_comm i 6, this]
        cases D.2.2.1.2.2.1 (6 * i + j) <;> rfl
      · have := mr.2.2.2.2.1 (6 * i + j) (by omega)
        simp (disch := omega) only [lt_k, bnv_s, bnd_s, grd_t, q_in, q_inb, q_c, q_leT, q_leF, q_ltT, q_ltF, q_neg, q_nn, q_z, q_le0, q_b0, q_b1, nI_add, nI_0, q_off, q_self, q_oth, cst_2, st_2, ↓reduceIte, f_X8_cellAt, f_X8_roadAt, q_le1, q_nle1, q_le2, q_nle2, q_le5, q_nle5, q_le6, q_nle6, q_le8, q_nle8, q_le12, q_nle12, q_le25, q_nle25, q_le36, q_nle36, q_le60, q_nle60, q_le99, q_nle99, q_le100, q_nle100, q_le300, q_nle300, q_le640, q_nle640, q_le411, q_nle411, q_mul2, q_lmul2, q_mul3, q_lmul3, q_mul5, q_lmul5, q_mul6, q_lmul6, q_mul10, q_lmul10, q_add1, q_ladd1, q_add2, q_ladd2, q_add3, q_ladd3, q_add5, q_ladd5, q_add6, q_ladd6, q_add100, q_ladd100, q_div2, q_rem2, q_div3, q_rem3, q_div6, q_rem6, q_div10, q_rem10, q0, q_10, c9, this]
    · rw [if_neg hn] at c9
      exact ⟨-1, by rw [p0, if_neg (by decide), c8, bnv_s, if_pos rfl], by rw [q0, if_neg (by decide), c9, bnv_s, if_pos rfl]⟩
theorem st_trace {μ : Mem} (hv : Inv μ) (a1 : Int32) (a2 : Int32) : ∃ r, f_X8_trace a1 a2 μ = some r ∧ f_X9_trace a1 a2 μ = some r := by
  unfold f_X8_trace f_X9_trace
  rcases plan_both hv with ⟨p0, q0⟩ | ⟨D, hD, hX, hM, p0, q0, ok, xr, mr⟩
  · exact ⟨-3, by rw [p0, if_pos rfl], by rw [q0, if_pos rfl]⟩
  · have h100 := ok.2.2.2.2.2.2
    have x3 : μ.1 22 3 = nI D.2.2.1.1 := xr.2.2.1
    have m9 := mr.2.2.1
    rcases q_rng a1 D.2.2.1.1 (by omega) with ⟨k, hk, rfl⟩ | ⟨a, b⟩ | ⟨a, b, c⟩
    · obtain ⟨t1, t2, t3⟩ := xr.2.2.2.2.2.2.2 k hk
      obtain ⟨u1, u2, u3⟩ := mr.2.2.2.2.2.2 k hk
      simp only [Nat.reduceAdd] at t1 t2 t3
      have hin := inN_n hk (by omega)
      by_cases w0 : a2 = 0
      · subst w0
        refine ⟨t_spl (D.2.2.1.2.2.2.1 k), ?_, ?_⟩
        · unfold f_X8_cellTold
          simp (disch := omega) only [lt_k, bnv_s, bnd_s, grd_t, q_in, q_inb, q_c, q_leT, q_leF, q_ltT, q_ltF, q_neg, q_nn, q_z, q_le0, q_b0, q_b1, nI_add, nI_0, q_off, q_self, q_oth, cst_2, st_2, ↓reduceIte, f_X8_cellAt, f_X8_roadAt, q_le1, q_nle1, q_le2, q_nle2, q_le5, q_nle5, q_le6, q_nle6, q_le8, q_nle8, q_le12, q_nle12, q_le25, q_nle25, q_le36, q_nle36, q_le60, q_nle60, q_le99, q_nle99, q_le100, q_nle100, q_le300, q_nle300, q_le640, q_nle640, q_le411, q_nle411, q_mul2, q_lmul2, q_mul3, q_lmul3, q_mul5, q_lmul5, q_mul6, q_lmul6, q_mul10, q_lmul10, q_add1, q_ladd1, q_add2, q_ladd2, q_add3, q_ladd3, q_add5, q_ladd5, q_add6, q_ladd6, q_add100, q_ladd100, q_div2, q_rem2, q_div3, q_rem3, q_div6, q_rem6, q_div10, q_rem10, p0, q_10, x3, t1]
          rfl
        · have e : nI (3 * k) + 0 = nI (3 * k) := Int32.add_zero _
          simp (disch := omega) only [lt_k, bnv_s, bnd_s, grd_t, q_in, q_inb, q_c, q_leT, q_leF, q_ltT, q_ltF, q_neg, q_nn, q_z, q_le0, q_b0, q_b1, nI_add, nI_0, q_off, q_self, q_oth, cst_2, st_2, ↓reduceIte, f_X8_cellAt, f_X8_roadAt, q_le1, q_nle1, q_le2, q_nle2, q_le5, q_nle5, q_le6, q_nle6, q_le8, q_nle8, q_le12, q_nle12, q_le25, q_nle25, q_le36, q_nle36, q_le60, q_nle60, q_le99, q_nle99, q_le100, q_nle100, q_le300, q_nle300, q_le640, q_nle640, q_le411, q_nle411, q_mul2, q_lmul2, q_mul3, q_lmul3, q_mul5, q_lmul5, q_mul6, q_lmul6, q_mul10, q_lmul10, q_add1, q_ladd1, q_add2, q_ladd2, q_add3, q_ladd3, q_add5, q_ladd5, q_add6, q_ladd6, q_add100, q_ladd100, q_div2, q_rem2, q_div3, q_rem3, q_div6, q_rem6, q_div10, q_rem10, q0, q_10, m9, i9_N, hin, b2i_t, i9_2, show inR (0 : Int32) 0 2 = true from by decide, e, u1]
      · by_cases w1 : a2 = 1
        · subst w1
          refine ⟨t_spl (D.2.2.1.2.2.2.2.1 k), ?_, ?_⟩
          · unfold f_X8_cellTold
            simp (disch := omega) only [lt_k, bnv_s, bnd_s, grd_t, q_in, q_inb, q_c, q_leT, q_leF, q_ltT, q_ltF, q_neg, q_nn, q_z, q_le0, q_b0, q_b1, nI_add, nI_0, q_off, q_self, q_oth, cst_2, st_2, ↓reduceIte, f_X8_cellAt, f_X8_roadAt, q_le1, q_nle1, q_le2, q_nle2, q_le5, q_nle5, q_le6, q_nle6, q_le8, q_nle8, q_le12, q_nle12, q_le25, q_nle25, q_le36, q_nle36, q_le60, q_nle60, q_le99, q_nle99, q_le100, q_nle100, q_le300, q_nle300, q_le640, q_nle640, q_le411, q_nle411, q_mul2, q_lmul2, q_mul3, q_lmul3, q_mul5, q_lmul5, q_mul6, q_lmul6, q_mul10, q_lmul10, q_add1, q_ladd1, q_add2, q_ladd2, q_add3, q_ladd3, q_add5, q_ladd5, q_add6, q_ladd6, q_add100, q_ladd100, q_div2, q_rem2, q_div3, q_rem3, q_div6, q_rem6, q_div10, q_rem10, p0, q_10, x3, t2]
            rfl
          · simp (disch := omega) only [lt_k, bnv_s, bnd_s, grd_t, q_in, q_inb, q_c, q_leT, q_leF, q_ltT, q_ltF, q_neg, q_nn, q_z, q_le0, q_b0, q_b1, nI_add, nI_0, q_off, q_self, q_oth, cst_2, st_2, ↓reduceIte, f_X8_cellAt, f_X8_roadAt, q_le1, q_nle1, q_le2, q_nle2, q_le5, q_nle5, q_le6, q_nle6, q_le8, q_nle8, q_le12, q_nle12, q_le25, q_nle25, q_le36, q_nle36, q_le60, q_nle60, q_le99, q_nle99, q_le100, q_nle100, q_le300, q_nle300, q_le640, q_nle640, q_le411, q_nle411, q_mul2, q_lmul2, q_mul3, q_lmul3, q_mul5, q_lmul5, q_mul6, q_lmul6, q_mul10, q_lmul10, q_add1, q_ladd1, q_add2, q_ladd2, q_add3, q_ladd3, q_add5, q_ladd5, q_add6, q_ladd6, q_add100, q_ladd100, q_div2, q_rem2, q_div3, q_rem3, q_div6, q_rem6, q_div10, q_rem10, q0, q_10, m9, i9_N, hin, b2i_t, i9_2, show inR (1 : Int32) 0 2 = true from by decide, u2]
        · by_cases w2 : a2 = 2
          · subst w2
            refine ⟨D.2.2.1.2.2.2.2.2 k, ?_, ?_⟩
            · simp (disch := omega) only [lt_k, bnv_s, bnd_s, grd_t, q_in, q_inb, q_c, q_leT, q_leF, q_ltT, q_ltF, q_neg, q_nn, q_z, q_le0, q_b0, q_b1, nI_add, nI_0, q_off, q_self, q_oth, cst_2, st_2, ↓reduceIte, f_X8_cellAt, f_X8_roadAt, q_le1, q_nle1, q_le2, q_nle2, q_le5, q_nle5, q_le6, q_nle6, q_le8, q_nle8, q_le12, q_nle12, q_le25, q_nle25, q_le36, q_nle36, q_le60, q_nle60, q_le99, q_nle99, q_le100, q_nle100, q_le300, q_nle300, q_le640, q_nle640, q_le411, q_nle411, q_mul2, q_lmul2, q_mul3, q_lmul3, q_mul5, q_lmul5, q_mul6, q_lmul6, q_mul10, q_lmul10, q_add1, q_ladd1, q_add2, q_ladd2, q_add3, q_ladd3, q_add5, q_ladd5, q_add6, q_ladd6, q_add100, q_ladd100, q_div2, q_rem2, q_div3, q_rem3, q_div6, q_rem6, q_div10, q_rem10, p0, q_10, x3, t3, w0, w1]
            · simp (disch := omega) only [lt_k, bnv_s, bnd_s, grd_t, q_in, q_inb, q_c, q_leT, q_leF, q_ltT, q_ltF, q_neg, q_nn, q_z, q_le0, q_b0, q_b1, nI_add, nI_0, q_off, q_self, q_oth, cst_2, st_2, ↓reduceIte, f_X8_cellAt, f_X8_roadAt, q_le1, q_nle1, q_le2, q_nle2, q_le5, q_nle5, q_le6, q_nle6, q_le8, q_nle8, q_le12, q_nle12, q_le25, q_nle25, q_le36, q_nle36, q_le60, q_nle60, q_le99, q_nle99, q_le100, q_nle100, q_le300, q_nle300, q_le640, q_nle640, q_le411, q_nle411, q_mul2, q_lmul2, q_mul3, q_lmul3, q_mul5, q_lmul5, q_mul6, q_lmul6, q_mul10, q_lmul10, q_add1, q_ladd1, q_add2, q_ladd2, q_add3, q_ladd3, q_add5, q_ladd5, q_add6, q_ladd6, q_add100, q_ladd100, q_div2, q_rem2, q_div3, q_rem3, q_div6, q_rem6, q_div10, q_rem10, q0, q_10, m9, i9_N, hin, b2i_t, i9_2, show inR (2 : Int32) 0 2 = true from by decide, u3]
          · have hin2 : inR a2 0 2 = false := by
              cases q : inR a2 0 2
              · rfl
              · have := inR_t.mp q
                exfalso
                have h0 : ¬ a2.toInt = 0 := fun e => w0 (by rw [i_eq]; exact e)
                have h1 : ¬ a2.toInt = 1 := fun e => w1 (by rw [i_eq]; exact e)
                have h2 : ¬ a2.toInt = 2 := fun e => w2 (by rw [i_eq]; exact e)
                omega
            refine ⟨-1, ?_, ?_⟩
            · simp (disch := omega) only [lt_k, bnv_s, bnd_s, grd_t, q_in, q_inb, q_c, q_leT, q_leF, q_ltT, q_ltF, q_neg, q_nn, q_z, q_le0, q_b0, q_b1, nI_add, nI_0, q_off, q_self, q_oth, cst_2, st_2, ↓reduceIte, f_X8_cellAt, f_X8_roadAt, q_le1, q_nle1, q_le2, q_nle2, q_le5, q_nle5, q_le6, q_nle6, q_le8, q_nle8, q_le12, q_nle12, q_le25, q_nle25, q_le36, q_nle36, q_le60, q_nle60, q_le99, q_nle99, q_le100, q_nle100, q_le300, q_nle300, q_le640, q_nle640, q_le411, q_nle411, q_mul2, q_lmul2, q_mul3, q_lmul3, q_mul5, q_lmul5, q_mul6, q_lmul6, q_mul10, q_lmul10, q_add1, q_ladd1, q_add2, q_ladd2, q_add3, q_ladd3, q_add5, q_ladd5, q_add6, q_ladd6, q_add100, q_ladd100, q_div2, q_rem2, q_div3, q_rem3, q_div6, q_rem6, q_div10, q_rem10, p0, q_10, x3, w0, w1, w2]
            · simp (disch := omega) only [lt_k, bnv_s, bnd_s, grd_t, q_in, q_inb, q_c, q_leT, q_leF, q_ltT, q_ltF, q_neg, q_nn, q_z, q_le0, q_b0, q_b1, nI_add, nI_0, q_off, q_self, q_oth, cst_2, st_2, ↓reduceIte, f_X8_cellAt, f_X8_roadAt, q_le1, q_nle1, q_le2, q_nle2, q_le5, q_nle5, q_le6, q_nle6, q_le8, q_nle8, q_le12, q_nle12, q_le25, q_nle25, q_le36, q_nle36, q_le60, q_nle60, q_le99, q_nle99, q_le100, q_nle100, q_le300, q_nle300, q_le640, q_nle640, q_le411, q_nle411, q_mul2, q_lmul2, q_mul3, q_lmul3, q_mul5, q_lmul5, q_mul6, q_lmul6, q_mul10, q_lmul10, q_add1, q_ladd1, q_add2, q_ladd2, q_add3, q_ladd3, q_add5, q_ladd5, q_add6, q_ladd6, q_add100, q_ladd100, q_div2, q_rem2, q_div3, q_rem3, q_div6, q_rem6, q_div10, q_rem10, q0, q_10, m9, i9_N, hin, b2i_t, b2i_f, i9_2, hin2]
    · have hin : inN a1 D.2.2.1.1 = false := decide_eq_false b
      refine ⟨-1, ?_, ?_⟩
      · rw [p0, if_neg (by decide), if_pos a]
      · rw [q0, if_neg (by decide), m9, i9_N _ _ (by omega), hin, bnv_s, b2i_f, if_pos rfl]
    · have hin : inN a1 D.2.2.1.1 = false := decide_eq_false c
      refine ⟨-1, ?_, ?_⟩
      · rw [p0, if_neg (by decide), if_neg a, x3, if_neg (by rw [i_lt]; rw [i_le] at b; omega)]
      · rw [q0, if_neg (by decide), m9, i9_N _ _ (by omega), hin, bnv_s, b2i_f, if_pos rfl]
