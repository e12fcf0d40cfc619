/-! THE CALLS: count, feed, best, cheapest */ -/
def g_sh (G : TG) (c : Nat) : Int32 := if G.2.2.2.2.1 (5 * (c / 6) + c % 6) = 3 then 1 else 0
theorem g_sh_at (G : TG) {i j : Nat} (hj : j < 6) : g_sh G (6 * i + j) = if G.2.2.2.2.1 (5 * i + j) = 3 then 1 else 0 := by
  unfold g_sh
  rw [show (6 * i + j) / 6 = i by omega, show (6 * i + j) % 6 = j by omega]
theorem x0_shut {g : Nat} {G : TG} {μ : Mem} (h : XG g G μ) (hG : g_ok G) : f_X0_shutRoads g μ = some (i_sum (i_in G.1 G.2.1 (g_sh G)) 36) := by
  have g1 := hG.1
  have g2 := hG.2.1
  refine q_dbl (fun n => f_X0_shutRoads_4 g μ n) (fun q i s => q s (nI i)) (fun q n i j s => f_X0_shutRoads_14 g q μ n s (nI i) (nI j)) (S := G.1) (T := G.2.1) (by omega) (by omega) (fun c s => s = i_sum (i_in G.1 G.2.1 (g_sh G)) c) (fun z => z = some (i_sum (i_in G.1 G.2.1 (g_sh G)) 36)) ?_ ?_ ?_ ?_ ?_ 0 rfl
  · intro n i s hi hv
    show g_X0_shutRoads_4 g μ _ s (nI i) = _
    unfold g_X0_shutRoads_4
    simp (disch := omega) only [lt_k, bnv_s, bnd_s, grd_t, q_in, q_inb, q_c, q_leT, q_leF, q_ltT, q_ltF, q_neg, q_nn, q_z, q_le0, q_b0, q_b1, nI_add, nI_0, q_off, q_self, q_oth, cst_2, st_2, ↓reduceIte, f_X8_cellAt, f_X8_roadAt, q_le1, q_nle1, q_le2, q_nle2, q_le5, q_nle5, q_le6, q_nle6, q_le8, q_nle8, q_le12, q_nle12, q_le25, q_nle25, q_le36, q_nle36, q_le60, q_nle60, q_le99, q_nle99, q_le100, q_nle100, q_le300, q_nle300, q_le640, q_nle640, q_le411, q_nle411, q_mul2, q_lmul2, q_mul3, q_lmul3, q_mul5, q_lmul5, q_mul6, q_lmul6, q_mul10, q_lmul10, q_add1, q_ladd1, q_add2, q_ladd2, q_add3, q_ladd3, q_add5, q_ladd5, q_add6, q_ladd6, q_add100, q_ladd100, q_div2, q_rem2, q_div3, q_rem3, q_div6, q_rem6, q_div10, q_rem10, h.1]
  · intro q n i j s hi hj hv
    right
    refine ⟨s + (g_sh G) (6 * i + j), ?_, ?_⟩
    · rw [hv]
      show _ = i_sum _ (6 * i + j) + i_in _ _ _ (6 * i + j)
      rw [i_in_at _ hi hj (by omega)]
    · show g_X0_shutRoads_14 g q μ _ s (nI i) (nI j) = _
      unfold g_X0_shutRoads_14
      obtain ⟨u1, u2⟩ := h.2.2.2 (5 * i + j) (by omega)
      rw [g_sh_at G (by omega)]
      by_cases k3 : G.2.2.2.2.1 (5 * i + j) = 3
      · simp (disch := omega) only [lt_k, bnv_s, bnd_s, grd_t, q_in, q_inb, q_c, q_leT, q_leF, q_ltT, q_ltF, q_neg, q_nn, q_z, q_le0, q_b0, q_b1, nI_add, nI_0, q_off, q_self, q_oth, cst_2, st_2, ↓reduceIte, f_X8_cellAt, f_X8_roadAt, q_le1, q_nle1, q_le2, q_nle2, q_le5, q_nle5, q_le6, q_nle6, q_le8, q_nle8, q_le12, q_nle12, q_le25, q_nle25, q_le36, q_nle36, q_le60, q_nle60, q_le99, q_nle99, q_le100, q_nle100, q_le300, q_nle300, q_le640, q_nle640, q_le411, q_nle411, q_mul2, q_lmul2, q_mul3, q_lmul3, q_mul5, q_lmul5, q_mul6, q_lmul6, q_mul10, q_lmul10, q_add1, q_ladd1, q_add2, q_ladd2, q_add3, q_ladd3, q_add5, q_ladd5, q_add6, q_ladd6, q_add100, q_ladd100, q_div2, q_rem2, q_div3, q_rem3, q_div6, q_rem6, q_div10, q_rem10, h.2.1, Nat.mul_comm i 5, u1, k3]
      · simp (disch := omega) only [lt_k, bnv_s, bnd_s, grd_t, q_in, q_inb, q_c, q_leT, q_leF, q_ltT, q_ltF, q_neg, q_nn, q_z, q_le0, q_b0, q_b1, nI_add, nI_0, q_off, q_self, q_oth, cst_2, st_2, ↓reduceIte, f_X8_cellAt, f_X8_roadAt, q_le1, q_nle1, q_le2, q_nle2, q_le5, q_nle5, q_le6, q_nle6, q_le8, q_nle8, q_le12, q_nle12, q_le25, q_nle25, q_le36, q_nle36, q_le60, q_nle60, q_le99, q_nle99, q_le100, q_nle100, q_le300, q_nle300, q_le640, q_nle640, q_le411, q_nle411, q_mul2, q_lmul2, q_mul3, q_lmul3, q_mul5, q_lmul5, q_mul6, q_lmul6, q_mul10, q_lmul10, q_add1, q_ladd1, q_add2, q_ladd2, q_add3, q_ladd3, q_add5, q_ladd5, q_add6, q_ladd6, q_add100, q_ladd100, q_div2, q_rem2, q_div3, q_rem3, q_div6, q_rem6, q_div10, q_rem10, h.2.1, Nat.mul_comm i 5, u1, k3]
  · intro q n i s hi hv
    show g_X0_shutRoads_14 g q μ _ s (nI i) (nI G.2.1) = _
    unfold g_X0_shutRoads_14
    simp (disch := omega) only [lt_k, bnv_s, bnd_s, grd_t, q_in, q_inb, q_c, q_leT, q_leF, q_ltT, q_ltF, q_neg, q_nn, q_z, q_le0, q_b0, q_b1, nI_add, nI_0, q_off, q_self, q_oth, cst_2, st_2, ↓reduceIte, f_X8_cellAt, f_X8_roadAt, q_le1, q_nle1, q_le2, q_nle2, q_le5, q_nle5, q_le6, q_nle6, q_le8, q_nle8, q_le12, q_nle12, q_le25, q_nle25, q_le36, q_nle36, q_le60, q_nle60, q_le99, q_nle99, q_le100, q_nle100, q_le300, q_nle300, q_le640, q_nle640, q_le411, q_nle411, q_mul2, q_lmul2, q_mul3, q_lmul3, q_mul5, q_lmul5, q_mul6, q_lmul6, q_mul10, q_lmul10, q_add1, q_ladd1, q_add2, q_ladd2, q_add3, q_ladd3, q_add5, q_ladd5, q_add6, q_ladd6, q_add100, q_ladd100, q_div2, q_rem2, q_div3, q_rem3, q_div6, q_rem6, q_div10, q_rem10, h.2.1]
  · intro i j s hi hj hT2 hv
    rw [hv]
    exact (i_sum_skip (i_in_off _ hj hT2)).symm
  · intro n s hv
    show g_X0_shutRoads_4 g μ _ s (nI G.1) = _
    unfold g_X0_shutRoads_4
    simp (disch := omega) only [lt_k, bnv_s, bnd_s, grd_t, q_in, q_inb, q_c, q_leT, q_leF, q_ltT, q_ltF, q_neg, q_nn, q_z, q_le0, q_b0, q_b1, nI_add, nI_0, q_off, q_self, q_oth, cst_2, st_2, ↓reduceIte, f_X8_cellAt, f_X8_roadAt, q_le1, q_nle1, q_le2, q_nle2, q_le5, q_nle5, q_le6, q_nle6, q_le8, q_nle8, q_le12, q_nle12, q_le25, q_nle25, q_le36, q_nle36, q_le60, q_nle60, q_le99, q_nle99, q_le100, q_nle100, q_le300, q_nle300, q_le640, q_nle640, q_le411, q_nle411, q_mul2, q_lmul2, q_mul3, q_lmul3, q_mul5, q_lmul5, q_mul6, q_lmul6, q_mul10, q_lmul10, q_add1, q_ladd1, q_add2, q_ladd2, q_add3, q_ladd3, q_add5, q_ladd5, q_add6, q_ladd6, q_add100, q_ladd100, q_div2, q_rem2, q_div3, q_rem3, q_div6, q_rem6, q_div10, q_rem10, h.1]
    rw [hv, i_in_tail _ (by omega)]
theorem x9_shut {G : TG} {μ : Mem} (h : MG G μ) (hG : g_ok G) : f_X9_shutRoads μ = some (i_sum (i_in G.1 G.2.1 (g_sh G)) 36) := by
  have g1 := hG.1
  have g2 := hG.2.1
  refine q_dbl (fun n => f_X9_shutRoads_4 μ n) (fun q i s => q s (nI i)) (fun q n i j s => f_X9_shutRoads_14 q μ n s (nI i) (nI j)) (S := G.1) (T := G.2.1) (by omega) (by omega) (fun c s => s = i_sum (i_in G.1 G.2.1 (g_sh G)) c) (fun z => z = some (i_sum (i_in G.1 G.2.1 (g_sh G)) 36)) ?_ ?_ ?_ ?_ ?_ 0 rfl
  · intro n i s hi hv
    show g_X9_shutRoads_4 μ _ s (nI i) = _
    unfold g_X9_shutRoads_4
    simp (disch := omega) only [lt_k, bnv_s, bnd_s, grd_t, q_in, q_inb, q_c, q_leT, q_leF, q_ltT, q_ltF, q_neg, q_nn, q_z, q_le0, q_b0, q_b1, nI_add, nI_0, q_off, q_self, q_oth, cst_2, st_2, ↓reduceIte, f_X8_cellAt, f_X8_roadAt, q_le1, q_nle1, q_le2, q_nle2, q_le5, q_nle5, q_le6, q_nle6, q_le8, q_nle8, q_le12, q_nle12, q_le25, q_nle25, q_le36, q_nle36, q_le60, q_nle60, q_le99, q_nle99, q_le100, q_nle100, q_le300, q_nle300, q_le640, q_nle640, q_le411, q_nle411, q_mul2, q_lmul2, q_mul3, q_lmul3, q_mul5, q_lmul5, q_mul6, q_lmul6, q_mul10, q_lmul10, q_add1, q_ladd1, q_add2, q_ladd2, q_add3, q_ladd3, q_add5, q_ladd5, q_add6, q_ladd6, q_add100, q_ladd100, q_div2, q_rem2, q_div3, q_rem3, q_div6, q_rem6, q_div10, q_rem10, h.1]
  · intro q n i j s hi hj hv
    right
    refine ⟨s + (g_sh G) (6 * i + j), ?_, ?_⟩
    · rw [hv]
      show _ = i_sum _ (6 * i + j) + i_in _ _ _ (6 * i + j)
      rw [i_in_at _ hi hj (by omega)]
    · show g_X9_shutRoads_14 q μ _ s (nI i) (nI j) = _
      unfold g_X9_shutRoads_14
      obtain ⟨u1, u2⟩ := h.2.2.2 (5 * i + j) (by omega)
      rw [g_sh_at G (by omega)]
      by_cases k3 : G.2.2.2.2.1 (5 * i + j) = 3
      · simp (disch := omega) only [lt_k, bnv_s, bnd_s, grd_t, q_in, q_inb, q_c, q_leT, q_leF, q_ltT, q_ltF, q_neg, q_nn, q_z, q_le0, q_b0, q_b1, nI_add, nI_0, q_off, q_self, q_oth, cst_2, st_2, ↓reduceIte, f_X8_cellAt, f_X8_roadAt, q_le1, q_nle1, q_le2, q_nle2, q_le5, q_nle5, q_le6, q_nle6, q_le8, q_nle8, q_le12, q_nle12, q_le25, q_nle25, q_le36, q_nle36, q_le60, q_nle60, q_le99, q_nle99, q_le100, q_nle100, q_le300, q_nle300, q_le640, q_nle640, q_le411, q_nle411, q_mul2, q_lmul2, q_mul3, q_lmul3, q_mul5, q_lmul5, q_mul6, q_lmul6, q_mul10, q_lmul10, q_add1, q_ladd1, q_add2, q_ladd2, q_add3, q_ladd3, q_add5, q_ladd5, q_add6, q_ladd6, q_add100, q_ladd100, q_div2, q_rem2, q_div3, q_rem3, q_div6, q_rem6, q_div10, q_rem10, h.2.1, u1, k3]
      · simp (disch := omega) only [lt_k, bnv_s, bnd_s, grd_t, q_in, q_inb, q_c, q_leT, q_leF, q_ltT, q_ltF, q_neg, q_nn, q_z, q_le0, q_b0, q_b1, nI_add, nI_0, q_off, q_self, q_oth, cst_2, st_2, ↓reduceIte, f_X8_cellAt, f_X8_roadAt, q_le1, q_nle1, q_le2, q_nle2, q_le5, q_nle5, q_le6, q_nle6, q_le8, q_nle8, q_le12, q_nle12, q_le25, q_nle25, q_le36, q_nle36, q_le60, q_nle60, q_le99, q_nle99, q_le100, q_nle100, q_le300, q_nle300, q_le640, q_nle640, q_le411, q_nle411, q_mul2, q_lmul2, q_mul3, q_lmul3, q_mul5, q_lmul5, q_mul6, q_lmul6, q_mul10, q_lmul10, q_add1, q_ladd1, q_add2, q_ladd2, q_add3, q_ladd3, q_add5, q_ladd5, q_add6, q_ladd6, q_add100, q_ladd100, q_div2, q_rem2, q_div3, q_rem3, q_div6, q_rem6, q_div10, q_rem10, h.2.1, u1, k3]
  · intro q n i s hi hv
    show g_X9_shutRoads_14 q μ _ s (nI i) (nI G.2.1) = _
    unfold g_X9_shutRoads_14
    simp (disch := omega) only [lt_k, bnv_s, bnd_s, grd_t, q_in, q_inb, q_c, q_leT, q_leF, q_ltT, q_ltF, q_neg, q_nn, q_z, q_le0, q_b0, q_b1, nI_add, nI_0, q_off, q_self, q_oth, cst_2, st_2, ↓reduceIte, f_X8_cellAt, f_X8_roadAt, q_le1, q_nle1, q_le2, q_nle2, q_le5, q_nle5, q_le6, q_nle6, q_le8, q_nle8, q_le12, q_nle12, q_le25, q_nle25, q_le36, q_nle36, q_le60, q_nle60, q_le99, q_nle99, q_le100, q_nle100, q_le300, q_nle300, q_le640, q_nle640, q_le411, q_nle411, q_mul2, q_lmul2, q_mul3, q_lmul3, q_mul5, q_lmul5, q_mul6, q_lmul6, q_mul10, q_lmul10, q_add1, q_ladd1, q_add2, q_ladd2, q_add3, q_ladd3, q_add5, q_ladd5, q_add6, q_ladd6, q_add100, q_ladd100, q_div2, q_rem2, q_div3, q_rem3, q_div6, q_rem6, q_div10, q_rem10, h.2.1]
  · intro i j s hi hj hT2 hv
    rw [hv]
    exact (i_sum_skip (i_in_off _ hj hT2)).symm
  · intro n s hv
    show g_X9_shutRoads_4 μ _ s (nI G.1) = _
    unfold g_X9_shutRoads_4
    simp (disch := omega) only [lt_k, bnv_s, bnd_s, grd_t, q_in, q_inb, q_c, q_leT, q_leF, q_ltT, q_ltF, q_neg, q_nn, q_z, q_le0, q_b0, q_b1, nI_add, nI_0, q_off, q_self, q_oth, cst_2, st_2, ↓reduceIte, f_X8_cellAt, f_X8_roadAt, q_le1, q_nle1, q_le2, q_nle2, q_le5, q_nle5, q_le6, q_nle6, q_le8, q_nle8, q_le12, q_nle12, q_le25, q_nle25, q_le36, q_nle36, q_le60, q_nle60, q_le99, q_nle99, q_le100, q_nle100, q_le300, q_nle300, q_le640, q_nle640, q_le411, q_nle411, q_mul2, q_lmul2, q_mul3, q_lmul3, q_mul5, q_lmul5, q_mul6, q_lmul6, q_mul10, q_lmul10, q_add1, q_ladd1, q_add2, q_ladd2, q_add3, q_ladd3, q_add5, q_ladd5, q_add6, q_ladd6, q_add100, q_ladd100, q_div2, q_rem2, q_div3, q_rem3, q_div6, q_rem6, q_div10, q_rem10, h.1]
    rw [hv, i_in_tail _ (by omega)]
theorem st_count {μ : Mem} (hv : Inv μ) (a1 : Int32) : ∃ r, f_X8_count a1 μ = some r ∧ f_X9_count a1 μ = some r := by
  obtain ⟨⟨D, hD, hX, hM⟩, hR⟩ := id hv
  unfold f_X8_count f_X9_count
  by_cases w0 : a1 = 0
  · exact ⟨nI D.1.1, by rw [if_pos w0, show μ.1 15 0 = _ from hX.1.1], by rw [if_pos w0, hM.1.1]⟩
  · by_cases w1 : a1 = 1
    · exact ⟨nI D.1.2.1, by rw [if_neg w0, if_pos w1, show μ.1 15 1 = _ from hX.1.2.1], by rw [if_neg w0, if_pos w1, hM.1.2.1]⟩
    · by_cases w2 : a1 = 2
      · exact ⟨_, by rw [if_neg w0, if_neg w1, if_pos w2, x0_shut (g := 15) hX.1 hD.1, bnv_s], by rw [if_neg w0, if_neg w1, if_pos w2, x9_shut hM.1 hD.1, bnv_s]⟩
      · by_cases w3 : a1 = 3
        · exact ⟨_, by rw [if_neg w0, if_neg w1, if_neg w2, if_pos w3, show μ.1 42 1 = _ from hX.2.2.1.2.1], by rw [if_neg w0, if_neg w1, if_neg w2, if_pos w3, hM.2.2.1.1]⟩
        · by_cases w4 : a1 = 4
          · exact ⟨_, by rw [if_neg w0, if_neg w1, if_neg w2, if_neg w3, if_pos w4, show μ.1 45 1 = _ from hX.2.2.2.1.2.1], by rw [if_neg w0, if_neg w1, if_neg w2, if_neg w3, if_pos w4, hM.2.2.2.1.1]⟩
          · by_cases w5 : a1 = 5
            · exact ⟨_, by rw [if_neg w0, if_neg w1, if_neg w2, if_neg w3, if_neg w4, if_pos w5, show μ.1 48 1 = _ from hX.2.2.2.2.2.1], by rw [if_neg w0, if_neg w1, if_neg w2, if_neg w3, if_neg w4, if_pos w5, hM.2.2.2.2.1]⟩
            · by_cases w6 : a1 = 6
              · obtain ⟨n, h1, h2, h3, h4⟩ := hR.2.1
                exact ⟨_, by rw [if_neg w0, if_neg w1, if_neg w2, if_neg w3, if_neg w4, if_neg w5, if_pos w6, h2], by rw [if_neg w0, if_neg w1, if_neg w2, if_neg w3, if_neg w4, if_neg w5, if_pos w6, h3]⟩
              · by_cases w7 : a1 = 7
                · have p0 : μ.1 22 0 = b01 D.2.1 := hX.2.1.1
                  refine ⟨b01 D.2.1, ?_, by rw [if_neg w0, if_neg w1, if_neg w2, if_neg w3, if_neg w4, if_neg w5, if_neg w6, if_pos w7, hM.2.1.1]⟩
                  rw [if_neg w0, if_neg w1, if_neg w2, if_neg w3, if_neg w4, if_neg w5, if_neg w6, if_pos w7, p0]
                  cases D.2.1 <;> rfl
                · exact ⟨-2, by rw [if_neg w0, if_neg w1, if_neg w2, if_neg w3, if_neg w4, if_neg w5, if_neg w6, if_neg w7], by rw [if_neg w0, if_neg w1, if_neg w2, if_neg w3, if_neg w4, if_neg w5, if_neg w6, if_neg w7]⟩
theorem chr_id : ∀ k, k < 128 → vp_nar .char (n_c (nI k)) = nI k := by decide +kernel
theorem st_feed {μ : Mem} (hv : Inv μ) (a1 : Int32) : ∃ r μ1 μ2, f_X8_feed a1 μ = some (r, μ1) ∧ f_X9_feed a1 μ1 = some (r, μ2) ∧ Inv μ2 := by
  obtain ⟨⟨D, hD, hX, hM⟩, hK, ⟨n, h1, h2, h3, h4⟩, hTP⟩ := id hv
  unfold f_X8_feed f_X9_feed
  by_cases hin : inR a1 0 127 = true
  · have hb := inR_t.mp hin
    obtain ⟨k, hk, rfl⟩ := nI_ex (N := 128) hb.1 (by omega)
    by_cases hlt : n < 100
    · have l1 : (nI n < 100) = True := eq_true ((nI_ltI (b := 100) (by omega) (by decide)).mpr hlt)
      have l2 : (nI n = 100) = False := eq_false (fun r => by have := (nI_eq (b := 100) (by omega) (by decide)).mp r; omega)
      have f1 : fr (fun c j => c = 89 ∨ (c = 88 ∧ j = 0)) μ (st (st μ 89 n (nI k)) 88 0 (nI (n + 1))) := fr_st' (fr_st (by omega)) (by omega)
      have f2 : fr (fun c j => c = 137 ∨ (c = 122 ∧ j = 24)) (st (st μ 89 n (nI k)) 88 0 (nI (n + 1))) (st (st (st (st μ 89 n (nI k)) 88 0 (nI (n + 1))) 137 n (nI k)) 122 24 (nI (n + 1))) := fr_st' (fr_st (by omega)) (by omega)
      have f : fr (fun c j => c = 89 ∨ (c = 88 ∧ j = 0) ∨ c = 137 ∨ (c = 122 ∧ j = 24)) μ (st (st (st (st μ 89 n (nI k)) 88 0 (nI (n + 1))) 137 n (nI k)) 122 24 (nI (n + 1))) := fr_trans f1 f2 (fun c j h => by omega) (fun c j h => by omega)
      refine ⟨nI (n + 1), st (st μ 89 n (nI k)) 88 0 (nI (n + 1)), st (st (st (st μ 89 n (nI k)) 88 0 (nI (n + 1))) 137 n (nI k)) 122 24 (nI (n + 1)), ?_, ?_, ⟨⟨D, hD, XD_fr hX hD f (fun c j q => by omega), MD_fr hM hD f (fun c j q => by omega)⟩, KI_fr hK f (fun c j q => by omega), ⟨n + 1, by omega, ?_, ?_, fun j hj => ?_⟩, TP_fr hTP f (fun c j q => by omega)⟩⟩
      · unfold f_X5_add
        simp (disch := omega) only [lt_k, bnv_s, bnd_s, grd_t, q_in, q_inb, q_c, q_leT, q_leF, q_ltT, q_ltF, q_neg, q_nn, q_z, q_le0, q_b0, q_b1, nI_add, nI_0, q_off, q_self, q_oth, cst_2, st_2, ↓reduceIte, f_X8_cellAt, f_X8_roadAt, q_le1, q_nle1, q_le2, q_nle2, q_le5, q_nle5, q_le6, q_nle6, q_le8, q_nle8, q_le12, q_nle12, q_le25, q_nle25, q_le36, q_nle36, q_le60, q_nle60, q_le99, q_nle99, q_le100, q_nle100, q_le300, q_nle300, q_le640, q_nle640, q_le411, q_nle411, q_mul2, q_lmul2, q_mul3, q_lmul3, q_mul5, q_lmul5, q_mul6, q_lmul6, q_mul10, q_lmul10, q_add1, q_ladd1, q_add2, q_ladd2, q_add3, q_ladd3, q_add5, q_ladd5, q_add6, q_ladd6, q_add100, q_ladd100, q_div2, q_rem2, q_div3, q_rem3, q_div6, q_rem6, q_div10, q_rem10, u8_127, hin, b2i_t, q_10, h2, l1, chr_id]
      · simp (disch := omega) only [lt_k, bnv_s, bnd_s, grd_t, q_in, q_inb, q_c, q_leT, q_leF, q_ltT, q_ltF, q_neg, q_nn, q_z, q_le0, q_b0, q_b1, nI_add, nI_0, q_off, q_self, q_oth, cst_2, st_2, ↓reduceIte, f_X8_cellAt, f_X8_roadAt, q_le1, q_nle1, q_le2, q_nle2, q_le5, q_nle5, q_le6, q_nle6, q_le8, q_nle8, q_le12, q_nle12, q_le25, q_nle25, q_le36, q_nle36, q_le60, q_nle60, q_le99, q_nle99, q_le100, q_nle100, q_le300, q_nle300, q_le640, q_nle640, q_le411, q_nle411, q_mul2, q_lmul2, q_mul3, q_lmul3, q_mul5, q_lmul5, q_mul6, q_lmul6, q_mul10, q_lmul10, q_add1, q_ladd1, q_add2, q_ladd2, q_add3, q_ladd3, q_add5, q_ladd5, q_add6, q_ladd6, q_add100, q_ladd100, q_div2, q_rem2, q_div3, q_rem3, q_div6, q_rem6, q_div10, q_rem10, i9_127, hin, b2i_t, q_10, h3, l2]
      · rw [q_off _ _ _ (by omega), q_off _ _ _ (by omega), q_self]
      · rw [q_self]
      · have e89 : (st (st (st (st μ 89 n (nI k)) 88 0 (nI (n + 1))) 137 n (nI k)) 122 24 (nI (n + 1))).1 89 j = if j = n then nI k else μ.1 89 j := by
          rw [q_off _ _ _ (by omega), q_off _ _ _ (by omega), q_off _ _ _ (by omega), q_at]
        have e137 : (st (st (st (st μ 89 n (nI k)) 88 0 (nI (n + 1))) 137 n (nI k)) 122 24 (nI (n + 1))).1 137 j = if j = n then nI k else μ.1 137 j := by
          rw [q_off _ _ _ (by omega), q_at, q_off _ _ _ (by omega), q_off _ _ _ (by omega)]
        rw [e89, e137]
        by_cases q : j = n
        · rw [if_pos q, if_pos q]; exact ⟨rfl, hb⟩
        · rw [if_neg q, if_neg q]; exact h4 j (by omega)
    · have e100 : n = 100 := by omega
      subst e100
      refine ⟨-4, μ, μ, ?_, ?_, hv⟩
      · unfold f_X5_add
        rw [u8_127, bnv_s, hin, b2i_t, if_neg (by decide), h2, if_neg (by decide), bnd_s]
      · rw [i9_127, bnv_s, hin, b2i_t, if_neg (by decide), h3, if_pos (by decide)]
  · have hin' := ff_t hin
    exact ⟨-2, μ, μ, by rw [u8_127, bnv_s, hin', b2i_f, if_pos rfl], by rw [i9_127, bnv_s, hin', b2i_f, if_pos rfl], hv⟩
/-! the trial ground -/
theorem q_cpy555 : cpyOk 0 0 5 5 5 = true := by decide +kernel
theorem q_cpy25 : cpyOk 0 0 25 25 25 = true := by decide +kernel
theorem q_tn25 : (25 : Int32).toNatClampNeg = 25 := rfl
theorem x0_copyFrom {k o : Nat} {G : TG} {μ : Mem} (h : XG o G μ) (hs : k + 7 ≤ o ∨ o + 7 ≤ k) : ∃ μ', f_X0_copyFrom k o μ = some μ' ∧ XG k G μ' ∧ fr (fun c _ => k ≤ c ∧ c ≤ k + 6) μ μ' := by
  obtain ⟨h1, h2, h3, h4⟩ := h
  unfold f_X0_copyFrom
  simp (disch := omega) only [lt_k, q_cpy555, q_cpy25, grd_t, q_tn0, q_tn5, q_tn25, q_oth, q_off]
  refine ⟨_, rfl, ⟨?_, ?_, fun i hi => ?_, fun i hi => ?_⟩, ?_⟩
  · simp (disch := omega) only [cst_c, q_oth, q_self]; exact h1
  · simp (disch := omega) only [cst_c, q_oth, q_self]; exact h2
  · have := h3 i hi
    simp (disch := omega) only [cst_c, cst_s, q_off, cpy_at, hi, ↓reduceIte]
    exact this
  · have := h4 i hi
    simp (disch := omega) only [cst_c, cst_s, q_off, cpy_at, hi, ↓reduceIte]
    exact this
  · exact fr_cst' (fr_cst' (fr_cst' (fr_cst' (fr_cst' (fr_cst' (fr_st' (fr_st (by omega)) (by omega)) (fun j => by omega)) (fun j => by omega)) (fun j => by omega)) (fun j => by omega)) (fun j => by omega)) (fun j => by omega)
