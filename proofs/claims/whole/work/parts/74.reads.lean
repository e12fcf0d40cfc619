/-! THE CALLS: worth, surplus, loop, enters, told, looked */ -/
theorem worths_both {D : TD} {μ : Mem} (ok : t_ok (g_S D.1) (g_T D.1) (g_cost D.1) D.2.2.1) (xr : XR 22 (g_S D.1) (g_T D.1) (g_cost D.1) D.2.2.1 μ) (mr : MR (g_S D.1) (g_T D.1) (g_cost D.1) D.2.2.1 μ) :
    ∃ μ', f_X9_values μ = some μ' ∧ fr MA μ μ' ∧ (∀ v, t_nd (g_S D.1) (g_T D.1) v → xw 22 μ v = μ'.1 142 v) ∧ (∀ c, c < 36 → t_pl (g_S D.1) (g_T D.1) c → xs 22 μ c = ms μ' c) ∧ (∀ c, c < 36 → ms μ' c < 0 → t_pl (g_S D.1) (g_T D.1) c → D.2.2.1.2.2.1 c = false) := by
  obtain ⟨c1, c2, c3, c4⟩ := MR_cost ok mr
  obtain ⟨μ', e1, f1, w1⟩ := x9_values (S := g_S D.1) (T := g_T D.1) (μ := μ) (by rw [c2]; exact ok.1) c1 c3
  rw [c2] at w1
  have w1' := t_W_congr ok.1 (fun c hc hp => mr.2.2.2.2.2.1 c hc hp) w1
  have hu := t_W_uniq ok.1 xr.2.2.2.2.2.2.1 w1'
  have hs : ∀ c, c < 36 → t_pl (g_S D.1) (g_T D.1) c → xs 22 μ c = ms μ' c := by
    intro c hc hp
    rw [xs_sp μ hc, ms_sp]
    unfold t_sp
    rw [xr.2.2.2.2.2.1 c hc hp, f1.2 127 c (by unfold MA; omega), mr.2.2.2.2.2.1 c hc hp, hu _ (Or.inl hp.1), hu _ (Or.inr ⟨by omega, by have := hp.2; omega⟩)]
  refine ⟨μ', e1, f1, hu, hs, fun c hc hlt hp => ?_⟩
  refine t_neg_free w1' hc ?_
  rw [ms_sp] at hlt
  unfold t_sp at hlt ⊢
  rw [← mr.2.2.2.2.2.1 c hc hp, ← f1.2 127 c (by unfold MA; omega)]
  exact hlt
theorem MA_scr {μ μ' : Mem} (f : fr MA μ μ') : fr SCR μ μ' := fr_mono f (fun c j h => by unfold MA at h; unfold SCR; omega)
theorem st_worth {μ : Mem} (hv : Inv μ) (a1 : Int32) (a2 : Int32) : ∃ r μ2, f_X8_worth a1 a2 μ = some r ∧ f_X9_worth a1 a2 μ = some (r, μ2) ∧ Inv μ2 := by
  unfold f_X8_worth f_X9_worth
  rcases plan_both hv with ⟨p0, q0⟩ | ⟨D, hD, hX, hM, p0, q0, ok, xr, mr⟩
  · exact ⟨-9223372036854775808, μ, by rw [p0, if_pos rfl], by rw [q0, if_pos rfl], hv⟩
  · have hS := ok.1.2.1
    have hT := ok.1.2.2.2.1
    have x1 : μ.1 22 1 = nI (g_S D.1) := xr.1
    have x2 : μ.1 22 2 = nI (g_T D.1) := xr.2.1
    have m7 := mr.1
    have m8 := mr.2.1
    obtain ⟨μ', e1, f1, hw, -⟩ := worths_both ok xr mr
    simp only [p0, q0, q_10, ↓reduceIte]
    by_cases s0 : a1 = 0
    · subst s0
      rcases q_rng a2 (g_S D.1) (by omega) with ⟨k, hk, rfl⟩ | ⟨a, b⟩ | ⟨a, b, c⟩
      · have hin := inN_n hk (by omega)
        have := hw k (Or.inl hk)
        unfold xw at this
        rw [if_pos (by omega)] at this
        simp only [Nat.reduceAdd] at this
        refine ⟨Int32.toInt64 (μ'.1 142 k), μ', ?_, ?_, Inv_scr hv (MA_scr f1)⟩
        · simp (disch := omega) only [lt_k, bnv_s, bnd_s, grd_t, q_in, q_inb, q_c, q_leT, q_leF, q_ltT, q_ltF, q_neg, q_nn, q_z, q_le0, q_b0, q_b1, nI_add, nI_0, q_off, q_self, q_oth, cst_2, st_2, ↓reduceIte, f_X8_cellAt, f_X8_roadAt, q_le1, q_nle1, q_le2, q_nle2, q_le5, q_nle5, q_le6, q_nle6, q_le8, q_nle8, q_le12, q_nle12, q_le25, q_nle25, q_le36, q_nle36, q_le60, q_nle60, q_le99, q_nle99, q_le100, q_nle100, q_le300, q_nle300, q_le640, q_nle640, q_le411, q_nle411, q_mul2, q_lmul2, q_mul3, q_lmul3, q_mul5, q_lmul5, q_mul6, q_lmul6, q_mul10, q_lmul10, q_add1, q_ladd1, q_add2, q_ladd2, q_add3, q_ladd3, q_add5, q_ladd5, q_add6, q_ladd6, q_add100, q_ladd100, q_div2, q_rem2, q_div3, q_rem3, q_div6, q_rem6, q_div10, q_rem10, x1, this]
        · unfold f_X9_worth_35
          have z60 : (6 : Int32) * 0 = 0 := by decide
          simp (disch := omega) only [lt_k, bnv_s, bnd_s, grd_t, q_in, q_inb, q_c, q_leT, q_leF, q_ltT, q_ltF, q_neg, q_nn, q_z, q_le0, q_b0, q_b1, nI_add, nI_0, q_off, q_self, q_oth, cst_2, st_2, ↓reduceIte, f_X8_cellAt, f_X8_roadAt, q_le1, q_nle1, q_le2, q_nle2, q_le5, q_nle5, q_le6, q_nle6, q_le8, q_nle8, q_le12, q_nle12, q_le25, q_nle25, q_le36, q_nle36, q_le60, q_nle60, q_le99, q_nle99, q_le100, q_nle100, q_le300, q_nle300, q_le640, q_nle640, q_le411, q_nle411, q_mul2, q_lmul2, q_mul3, q_lmul3, q_mul5, q_lmul5, q_mul6, q_lmul6, q_mul10, q_lmul10, q_add1, q_ladd1, q_add2, q_ladd2, q_add3, q_ladd3, q_add5, q_ladd5, q_add6, q_ladd6, q_add100, q_ladd100, q_div2, q_rem2, q_div3, q_rem3, q_div6, q_rem6, q_div10, q_rem10, i9_1, q_r01, b2i_t, q_10, m7, i9_N, hin, e1, z60, Int32.zero_add]
      · have hin : inN a2 (g_S D.1) = false := decide_eq_false b
        refine ⟨-9223372036854775808, μ, ?_, ?_, hv⟩
        · rw [if_neg (by rw [i_le]; rw [i_lt] at a; omega)]
        · unfold f_X9_worth_35
          simp (disch := omega) only [lt_k, bnv_s, bnd_s, grd_t, q_in, q_inb, q_c, q_leT, q_leF, q_ltT, q_ltF, q_neg, q_nn, q_z, q_le0, q_b0, q_b1, nI_add, nI_0, q_off, q_self, q_oth, cst_2, st_2, ↓reduceIte, f_X8_cellAt, f_X8_roadAt, q_le1, q_nle1, q_le2, q_nle2, q_le5, q_nle5, q_le6, q_nle6, q_le8, q_nle8, q_le12, q_nle12, q_le25, q_nle25, q_le36, q_nle36, q_le60, q_nle60, q_le99, q_nle99, q_le100, q_nle100, q_le300, q_nle300, q_le640, q_nle640, q_le411, q_nle411, q_mul2, q_lmul2, q_mul3, q_lmul3, q_mul5, q_lmul5, q_mul6, q_lmul6, q_mul10, q_lmul10, q_add1, q_ladd1, q_add2, q_ladd2, q_add3, q_ladd3, q_add5, q_ladd5, q_add6, q_ladd6, q_add100, q_ladd100, q_div2, q_rem2, q_div3, q_rem3, q_div6, q_rem6, q_div10, q_rem10, i9_1, q_r01, b2i_t, b2i_f, q_10, m7, i9_N, hin]
      · have hin : inN a2 (g_S D.1) = false := decide_eq_false c
        refine ⟨-9223372036854775808, μ, ?_, ?_, hv⟩
        · unfold f_X8_worth_43
          rw [if_pos (by rw [i_le]; rw [i_lt] at a; omega), if_pos rfl, x1, if_pos b, if_neg (by decide)]
        · unfold f_X9_worth_35
          simp (disch := omega) only [lt_k, bnv_s, bnd_s, grd_t, q_in, q_inb, q_c, q_leT, q_leF, q_ltT, q_ltF, q_neg, q_nn, q_z, q_le0, q_b0, q_b1, nI_add, nI_0, q_off, q_self, q_oth, cst_2, st_2, ↓reduceIte, f_X8_cellAt, f_X8_roadAt, q_le1, q_nle1, q_le2, q_nle2, q_le5, q_nle5, q_le6, q_nle6, q_le8, q_nle8, q_le12, q_nle12, q_le25, q_nle25, q_le36, q_nle36, q_le60, q_nle60, q_le99, q_nle99, q_le100, q_nle100, q_le300, q_nle300, q_le640, q_nle640, q_le411, q_nle411, q_mul2, q_lmul2, q_mul3, q_lmul3, q_mul5, q_lmul5, q_mul6, q_lmul6, q_mul10, q_lmul10, q_add1, q_ladd1, q_add2, q_ladd2, q_add3, q_ladd3, q_add5, q_ladd5, q_add6, q_ladd6, q_add100, q_ladd100, q_div2, q_rem2, q_div3, q_rem3, q_div6, q_rem6, q_div10, q_rem10, i9_1, q_r01, b2i_t, b2i_f, q_10, m7, i9_N, hin]
    · by_cases s1 : a1 = 1
      · subst s1
        rcases q_rng a2 (g_T D.1) (by omega) with ⟨k, hk, rfl⟩ | ⟨a, b⟩ | ⟨a, b, c⟩
        · have hin := inN_n hk (by omega)
          have := hw (6 + k) (Or.inr ⟨by omega, by omega⟩)
          unfold xw at this
          rw [if_neg (by omega), show 6 + k - 6 = k by omega] at this
          simp only [Nat.reduceAdd] at this
          refine ⟨Int32.toInt64 (μ'.1 142 (6 + k)), μ', ?_, ?_, Inv_scr hv (MA_scr f1)⟩
          · unfold f_X8_worth_43
            simp (disch := omega) only [lt_k, bnv_s, bnd_s, grd_t, q_in, q_inb, q_c, q_leT, q_leF, q_ltT, q_ltF, q_neg, q_nn, q_z, q_le0, q_b0, q_b1, nI_add, nI_0, q_off, q_self, q_oth, cst_2, st_2, ↓reduceIte, f_X8_cellAt, f_X8_roadAt, q_le1, q_nle1, q_le2, q_nle2, q_le5, q_nle5, q_le6, q_nle6, q_le8, q_nle8, q_le12, q_nle12, q_le25, q_nle25, q_le36, q_nle36, q_le60, q_nle60, q_le99, q_nle99, q_le100, q_nle100, q_le300, q_nle300, q_le640, q_nle640, q_le411, q_nle411, q_mul2, q_lmul2, q_mul3, q_lmul3, q_mul5, q_lmul5, q_mul6, q_lmul6, q_mul10, q_lmul10, q_add1, q_ladd1, q_add2, q_ladd2, q_add3, q_ladd3, q_add5, q_ladd5, q_add6, q_ladd6, q_add100, q_ladd100, q_div2, q_rem2, q_div3, q_rem3, q_div6, q_rem6, q_div10, q_rem10, x2, q_10, this]
          · unfold f_X9_worth_35
            have z60 : (6 : Int32) * 1 = nI 6 := by decide
            simp (disch := omega) only [lt_k, bnv_s, bnd_s, grd_t, q_in, q_inb, q_c, q_leT, q_leF, q_ltT, q_ltF, q_neg, q_nn, q_z, q_le0, q_b0, q_b1, nI_add, nI_0, q_off, q_self, q_oth, cst_2, st_2, ↓reduceIte, f_X8_cellAt, f_X8_roadAt, q_le1, q_nle1, q_le2, q_nle2, q_le5, q_nle5, q_le6, q_nle6, q_le8, q_nle8, q_le12, q_nle12, q_le25, q_nle25, q_le36, q_nle36, q_le60, q_nle60, q_le99, q_nle99, q_le100, q_nle100, q_le300, q_nle300, q_le640, q_nle640, q_le411, q_nle411, q_mul2, q_lmul2, q_mul3, q_lmul3, q_mul5, q_lmul5, q_mul6, q_lmul6, q_mul10, q_lmul10, q_add1, q_ladd1, q_add2, q_ladd2, q_add3, q_ladd3, q_add5, q_ladd5, q_add6, q_ladd6, q_add100, q_ladd100, q_div2, q_rem2, q_div3, q_rem3, q_div6, q_rem6, q_div10, q_rem10, i9_1, q_r11, b2i_t, q_10, m8, i9_N, hin, e1, z60]
        · have hin : inN a2 (g_T D.1) = false := decide_eq_false b
          refine ⟨-9223372036854775808, μ, ?_, ?_, hv⟩
          · rw [if_neg (by rw [i_le]; rw [i_lt] at a; omega)]
          · unfold f_X9_worth_35
            simp (disch := omega) only [lt_k, bnv_s, bnd_s, grd_t, q_in, q_inb, q_c, q_leT, q_leF, q_ltT, q_ltF, q_neg, q_nn, q_z, q_le0, q_b0, q_b1, nI_add, nI_0, q_off, q_self, q_oth, cst_2, st_2, ↓reduceIte, f_X8_cellAt, f_X8_roadAt, q_le1, q_nle1, q_le2, q_nle2, q_le5, q_nle5, q_le6, q_nle6, q_le8, q_nle8, q_le12, q_nle12, q_le25, q_nle25, q_le36, q_nle36, q_le60, q_nle60, q_le99, q_nle99, q_le100, q_nle100, q_le300, q_nle300, q_le640, q_nle640, q_le411, q_nle411, q_mul2, q_lmul2, q_mul3, q_lmul3, q_mul5, q_lmul5, q_mul6, q_lmul6, q_mul10, q_lmul10, q_add1, q_ladd1, q_add2, q_ladd2, q_add3, q_ladd3, q_add5, q_ladd5, q_add6, q_ladd6, q_add100, q_ladd100, q_div2, q_rem2, q_div3, q_rem3, q_div6, q_rem6, q_div10, q_rem10, i9_1, q_r11, b2i_t, b2i_f, q_10, m8, i9_N, hin]
        · have hin : inN a2 (g_T D.1) = false := decide_eq_false c
          refine ⟨-9223372036854775808, μ, ?_, ?_, hv⟩
          · unfold f_X8_worth_43
            rw [if_pos (by rw [i_le]; rw [i_lt] at a; omega), if_neg s0, if_pos rfl, x2, if_pos b]
          · unfold f_X9_worth_35
            simp (disch := omega) only [lt_k, bnv_s, bnd_s, grd_t, q_in, q_inb, q_c, q_leT, q_leF, q_ltT, q_ltF, q_neg, q_nn, q_z, q_le0, q_b0, q_b1, nI_add, nI_0, q_off, q_self, q_oth, cst_2, st_2, ↓reduceIte, f_X8_cellAt, f_X8_roadAt, q_le1, q_nle1, q_le2, q_nle2, q_le5, q_nle5, q_le6, q_nle6, q_le8, q_nle8, q_le12, q_nle12, q_le25, q_nle25, q_le36, q_nle36, q_le60, q_nle60, q_le99, q_nle99, q_le100, q_nle100, q_le300, q_nle300, q_le640, q_nle640, q_le411, q_nle411, q_mul2, q_lmul2, q_mul3, q_lmul3, q_mul5, q_lmul5, q_mul6, q_lmul6, q_mul10, q_lmul10, q_add1, q_ladd1, q_add2, q_ladd2, q_add3, q_ladd3, q_add5, q_ladd5, q_add6, q_ladd6, q_add100, q_ladd100, q_div2, q_rem2, q_div3, q_rem3, q_div6, q_rem6, q_div10, q_rem10, i9_1, q_r11, b2i_t, b2i_f, q_10, m8, i9_N, hin]
      · have hin : inR a1 0 1 = false := by
          rcases w_cases a1 with ⟨-, h | h⟩ | h
          · exact absurd h s0
          · exact absurd h s1
          · exact h
        refine ⟨-9223372036854775808, μ, ?_, ?_, hv⟩
        · unfold f_X8_worth_43
          rw [if_neg s0, if_neg s1]
          split <;> rfl
        · rw [i9_1, bnv_s, hin, b2i_f, if_pos rfl]
theorem st_surplus {μ : Mem} (hv : Inv μ) (a1 : Int32) (a2 : Int32) : ∃ r μ2, f_X8_surplus a1 a2 μ = some r ∧ f_X9_surplus a1 a2 μ = some (r, μ2) ∧ Inv μ2 := by
  unfold f_X8_surplus f_X9_surplus
  rcases plan_both hv with ⟨p0, q0⟩ | ⟨D, hD, hX, hM, p0, q0, ok, xr, mr⟩
  · exact ⟨-9223372036854775808, μ, by rw [p0, if_pos rfl], by rw [q0, if_pos rfl], hv⟩
  · have hS := ok.1.2.1
    have hT := ok.1.2.2.2.1
    have c9 := x9_isCellG mr.1 mr.2.1 hS hT a1 a2
    obtain ⟨μ', e1, f1, -, hs, -⟩ := worths_both ok xr mr
    simp only [p0, q0, q_10, ↓reduceIte]
    rcases x3_isCellG (k := 22) xr.1 xr.2.1 hS hT a1 a2 with ⟨i, j, hi, hj, rfl, rfl, c8⟩ | ⟨c8, hn⟩
    · rw [if_pos (by rw [nI_i (by omega), nI_i (by omega)]; omega)] at c9
      have hc : 6 * i + j < 36 := by omega
      refine ⟨Int32.toInt64 (ms μ' (6 * i + j)), μ', ?_, ?_, Inv_scr hv (MA_scr f1)⟩
      · rw [c8, bnv_s, if_neg (by decide), x3_surplus μ (by omega) (by omega), xs_at μ (by omega), hs _ hc (by unfold t_pl; omega), bnv_s]
      · rw [c9, bnv_s, if_neg (by decide), e1, bnv_s, q_lmul6, nI_add, x9_over μ' hc, bnv_s]
    · rw [if_neg hn] at c9
      exact ⟨-9223372036854775808, μ, by rw [c8, bnv_s, if_pos rfl], by rw [c9, bnv_s, if_pos rfl], hv⟩
theorem st_loop {μ : Mem} (hv : Inv μ) (a1 : Int32) (a2 : Int32) (a3 : Int32) : ∃ r μ1 μ2, f_X8_loop a1 a2 a3 μ = some (r, μ1) ∧ f_X9_loop a1 a2 a3 μ1 = some (r, μ2) ∧ Inv μ2 := by
  unfold f_X8_loop f_X9_loop
  rcases plan_both hv with ⟨p0, q0⟩ | ⟨D, hD, hX, hM, p0, q0, ok, xr, mr⟩
  · exact ⟨-3, μ, μ, by rw [p0, if_pos rfl], by rw [q0, if_pos rfl], hv⟩
  · have hS := ok.1.2.1
    have hT := ok.1.2.2.2.1
    have c9 := x9_isCellG mr.1 mr.2.1 hS hT a1 a2
    rcases x3_isCellG (k := 22) xr.1 xr.2.1 hS hT a1 a2 with ⟨i, j, hi, hj, rfl, rfl, c8⟩ | ⟨c8, hn⟩
    · rw [if_pos (by rw [nI_i (by omega), nI_i (by omega)]; omega)] at c9
      have hc : 6 * i + j < 36 := by omega
      have xb : μ.1 25 (6 * i + j) = _ := xr.2.2.2.2.1 (6 * i + j) hc
      have mb := mr.2.2.2.2.1 (6 * i + j) hc
      cases hb : D.2.2.1.2.2.1 (6 * i + j)
      · rw [hb] at xb mb
        have eB : bb (μ.1 25) = D.2.2.1.2.2.1 := b01_bb xr.2.2.2.2.1 ok.2.2.2.2.2.1
        obtain ⟨m1, L, v, e1, f1, w1, F1⟩ := x1_follow (k := 38) (a2 := 25) (S := g_S D.1) (T := g_T D.1) (cell := 6 * i + j) (μ := μ) (by omega) (by rw [eB]; exact ok.1) hc (by omega) (by omega)
        rw [eB] at w1
        have s1 : fr SCR μ m1 := fr_mono f1 (fun c j h => by unfold FA at h; unfold SCR; omega)
        have mr1 := MR_fr2 mr ok.2.2.2.2.2.2 f1 (fun c j h => by unfold FA; omega)
        obtain ⟨c1, c2, c3, c4⟩ := MR_cost ok mr1
        obtain ⟨m2, L', v', e2, f2, w2, g41, g145, g42⟩ := x9_loops (S := g_S D.1) (T := g_T D.1) (cell := 6 * i + j) (μ := m1) (by rw [c2]; exact ok.1) c3 hc (by omega) (by omega) (by rw [c2]; exact hb)
        rw [c2] at w2
        obtain ⟨eL, ev⟩ := t_way_uniq ok.1 hb w1 w2
        subst eL
        have hP : ∀ k, k < L → t_P (6 * i + j) v k < 36 := fun k hk => t_P_lt ok.1 w1 hc hk
        have eP : ∀ k, k < L → t_P (6 * i + j) v k = t_P (6 * i + j) v' k := fun k hk => t_P_congr ev hk
        have iv : Inv m2 := Inv_scr (Inv_scr hv s1) (fr_mono f2 (fun c j h => by unfold LA at h; unfold SCR; omega))
        have q1 : m1.1 122 6 = 1 := by rw [f1.2 _ _ (by unfold FA; omega)]; exact q0
        have c91 := x9_isCellG mr1.1 mr1.2.1 hS hT (nI i) (nI j)
        rw [if_pos (by rw [nI_i (by omega), nI_i (by omega)]; omega)] at c91
        have mb1 : m1.1 129 (6 * i + j) = 0 := by rw [f1.2 _ _ (by unfold FA; omega)]; exact mb
        have lead : ∀ r, (if a3 = -1 then some (m1.1 38 0, m1) else if a3 = -2 then bnv (f_X1_turnOf 38 24 36 m1) (fun r21 => some (r21, m1)) else if a3 < 0 then some (-1, m1) else if m1.1 38 0 ≤ a3 then some (-1, m1) else grd (inb a3 12) (bnv (f_X8_cellTold (m1.1 39 a3.toNatClampNeg) m1) (fun r19 => some (r19, m1)))) = some (r, m1) →
            (if a3 = -2 then some (m2.1 122 42, m2) else if a3 = -1 then some (m2.1 122 41, m2) else bnv (f_X9_in (Int32.toInt64 a3) 0 (Int32.toInt64 (m2.1 122 41 - 1)) m2) (fun r12 => if r12 = 0 then some (-1, m2) else grd (inb a3 12) (bnv (f_X9_spelled (m2.1 145 a3.toNatClampNeg) m2) (fun r16 => some (r16, m2))))) = some (r, m2) →
            ∃ r μ1 μ2, (if μ.1 22 0 = 0 then some (-3, μ) else bnv (f_X3_isCell 22 (nI i) (nI j) μ) (fun r3 => if r3 = 0 then some (-1, μ) else bnv (f_X8_cellAt (nI i) (nI j) μ) (fun r6 => grd (inb r6 36) (if μ.1 25 r6.toNatClampNeg = 0 then bnv (f_X8_cellAt (nI i) (nI j) μ) (fun r10 => bnv (f_X1_follow 38 r10 25 36 μ) (fun μ12 => if a3 = -1 then some (μ12.1 38 0, μ12) else if a3 = -2 then bnv (f_X1_turnOf 38 24 36 μ12) (fun r21 => some (r21, μ12)) else if a3 < 0 then some (-1, μ12) else if μ12.1 38 0 ≤ a3 then some (-1, μ12) else grd (inb a3 12) (bnv (f_X8_cellTold (μ12.1 39 a3.toNatClampNeg) μ12) (fun r19 => some (r19, μ12))))) else some (-2, μ))))) = some (r, μ1) ∧
              (if μ1.1 122 6 = 0 then some (-3, μ1) else bnv (f_X9_isCell (nI i) (nI j) μ1) (fun r3 => if r3 = 0 then some (-1, μ1) else grd (inb (6 * nI i + nI j) 36) (if μ1.1 129 (6 * nI i + nI j).toNatClampNeg = 1 then some (-2, μ1) else bnv (f_X9_loops (6 * nI i + nI j) μ1) (fun μ8 => if a3 = -2 then some (μ8.1 122 42, μ8) else if a3 = -1 then some (μ8.1 122 41, μ8) else bnv (f_X9_in (Int32.toInt64 a3) 0 (Int32.toInt64 (μ8.1 122 41 - 1)) μ8) (fun r12 => if r12 = 0 then some (-1, μ8) else grd (inb a3 12) (bnv (f_X9_spelled (μ8.1 145 a3.toNatClampNeg) μ8) (fun r16 => some (r16, μ8)))))))) = some (r, μ2) ∧ Inv μ2 := by
          intro r h8 h9
          refine ⟨r, m1, m2, ?_, ?_, iv⟩
          · rw [p0, if_neg (by decide), c8, bnv_s, if_neg (by decide)]
            unfold f_X8_cellAt
            rw [bnv_s, bnv_s, q_mul6, nI_add, Nat.mul_comm i 6, q_in hc (by omega), nI_c (by omega), xb, b01_f, if_pos rfl, e1, bnv_s]
            exact h8
          · rw [q1, if_neg (by decide), c91, bnv_s, if_neg (by decide), q_lmul6, nI_add, q_in hc (by omega), nI_c (by omega), mb1, if_neg (by decide), e2, bnv_s]
            exact h9
        have hL12 := w1.2.1
        by_cases k1 : a3 = -1
        · refine lead (nI L) ?_ ?_
          · rw [if_pos k1, show m1.1 38 0 = nI L from F1.1]
          · rw [if_neg (by rw [k1]; decide), if_pos k1, g41]
        · by_cases k2 : a3 = -2
          · refine lead (t_tn D.2.2.1.2.1 (t_P (6 * i + j) v) L) ?_ ?_
            · have etn := x1_turnOf (a1 := 24) F1 hL12 w1.1 w1.2.2.1 hP (fun c hc => by rw [f1.2 _ _ (by unfold FA; omega)]; exact XR_ld ok xr c hc)
              rw [if_neg k1, if_pos k2, etn, bnv_s]
              congr 2
              refine t_tn_congr w1.2.2.1 hP (fun _ _ => rfl) (fun c hc => ?_)
              rw [f1.2 _ _ (by unfold FA; omega)]
              exact xr.2.2.2.1 c hc
            · rw [if_pos k2, g42]
              congr 2
              exact (t_tn_congr w1.2.2.1 hP eP (fun c hc => (mr1.2.2.2.1 c hc).symm)).symm
          · rcases q_rng a3 L (by omega) with ⟨k, hk, rfl⟩ | ⟨a, b⟩ | ⟨a, b, c⟩
            · have hin := inN_n hk (by omega)
              refine lead (t_spl (nI (t_P (6 * i + j) v k))) ?_ ?_
              · have := F1.2 k hk
                simp only [Nat.reduceAdd] at this
                unfold f_X8_cellTold
                rw [if_neg k1, if_neg k2, if_neg (nI_pos (by omega)), show m1.1 38 0 = nI L from F1.1, if_neg (by rw [nI_leI (by omega) (by omega)]; omega), q_in (by omega) (by omega), nI_c (by omega), this]
                rfl
              · unfold f_X9_spelled
                rw [if_neg k2, if_neg k1, g41, i9_N _ _ (by omega), hin, bnv_s, b2i_t, if_neg (by decide), q_in (by omega) (by omega), nI_c (by omega), g145 k hk, ← eP k hk]
                rfl
            · have hin : inN a3 L = false := decide_eq_false b
              refine lead (-1) ?_ ?_
              · rw [if_neg k1, if_neg k2, if_pos a]
              · rw [if_neg k2, if_neg k1, g41, i9_N _ _ (by omega), hin, bnv_s, b2i_f, if_pos rfl]
            · have hin : inN a3 L = false := decide_eq_false c
              refine lead (-1) ?_ ?_
              · rw [if_neg k1, if_neg k2, if_neg a, show m1.1 38 0 = nI L from F1.1, if_pos b]
              · rw [if_neg k2, if_neg k1, g41, i9_N _ _ (by omega), hin, bnv_s, b2i_f, if_pos rfl]
      · rw [hb] at xb mb
        refine ⟨-2, μ, μ, ?_, ?_, hv⟩
        · unfold f_X8_cellAt
          rw [p0, if_neg (by decide), c8, bnv_s, if_neg (by decide), bnv_s, q_mul6, nI_add, Nat.mul_comm i 6, q_in hc (by omega), nI_c (by omega), xb, if_neg (by decide)]
        · rw [q0, if_neg (by decide), c9, bnv_s, if_neg (by decide), q_lmul6, nI_add, q_in hc (by omega), nI_c (by omega), mb, if_pos (by decide)]
    · rw [if_neg hn] at c9
      exact ⟨-1, μ, μ, by rw [p0, if_neg (by decide), c8, bnv_s, if_pos rfl], by rw [q0, if_neg (by decide), c9, bnv_s, if_pos rfl], hv⟩
