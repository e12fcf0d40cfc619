/-! THE CALLS: enters, told, looked, count */ -/
theorem FA_scr {μ μ' : Mem} (f : fr (FA 38) μ μ') : fr SCR μ μ' := fr_mono f (fun c j h => by unfold FA at h; unfold SCR; omega)
theorem EA_scr {μ μ' : Mem} (f : fr EA μ μ') : fr SCR μ μ' := fr_mono f (fun c j h => by unfold EA LA at h; unfold SCR; omega)
theorem st_enters {μ : Mem} (hv : Inv μ) (a1 : Int32) : ∃ r μ1 μ2, f_X8_enters a1 μ = some (r, μ1) ∧ f_X9_enters a1 μ1 = some (r, μ2) ∧ Inv μ2 := by
  unfold f_X8_enters f_X9_enters
  by_cases hin : inR a1 0 2 = true
  · rcases plan_both hv with ⟨p0, q0⟩ | ⟨D, hD, hX, hM, p0, q0, ok, xr, mr⟩
    · exact ⟨-3, μ, μ, by rw [u8_2, bnv_s, hin, b2i_t, if_neg (by decide), p0, if_pos rfl], by rw [i9_2, bnv_s, hin, b2i_t, if_neg (by decide), q0, if_pos rfl], hv⟩
    · have ht := ok.1
      obtain ⟨c1, c2, c3⟩ := XR_cost ok xr
      obtain ⟨r, m1, e1, f1, en⟩ := x3_enter (k := 22) (μ := μ) a1 xr.1 xr.2.1 (by rw [c2]; exact ht) (by rw [c2]; exact c3) (XR_ld ok xr)
      rw [c2] at en
      have mr1 := MR_fr2 mr ok.2.2.2.2.2.2 f1 (fun c j h => by unfold FA; omega)
      obtain ⟨d1, d2, d3, d4⟩ := MR_cost ok mr1
      obtain ⟨r', m2, e2, f2, w2, en2⟩ := x9_enter (μ := m1) a1 mr1.1 mr1.2.1 (by rw [d2]; exact ht) d1 d3 d4
      rw [d2] at en2 w2
      have w2' := t_W_congr ht (fun c hc hp => mr1.2.2.2.2.2.1 c hc hp) w2
      have en' : t_ent (g_S D.1) (g_T D.1) (t_sp (g_cost D.1) (xw 22 μ)) (t_wt (g_S D.1) (g_T D.1) D.2.2.1.2.2.1 (g_cost D.1) (xw 22 μ) D.2.2.1.2.1 a1) r := by
        refine t_ent_congr (fun c hc hp => ?_) (fun c hc hp hs => ?_) en
        · unfold t_sp; rw [xr.2.2.2.2.2.1 c hc hp]
        · exact t_wt_congr ht xr.2.2.2.1 hc (xr.2.2.2.2.2.1 c hc hp) hp (t_neg_free c3 hc hs)
      have en2' : t_ent (g_S D.1) (g_T D.1) (t_sp (g_cost D.1) (m2.1 142)) (t_wt (g_S D.1) (g_T D.1) D.2.2.1.2.2.1 (g_cost D.1) (m2.1 142) D.2.2.1.2.1 a1) r' := by
        refine t_ent_congr (fun c hc hp => ?_) (fun c hc hp hs => ?_) en2
        · unfold t_sp; rw [mr1.2.2.2.2.2.1 c hc hp]
        · exact t_wt_congr ht mr1.2.2.2.1 hc (mr1.2.2.2.2.2.1 c hc hp) hp (t_neg_free w2 hc hs)
      have er : r = r' := t_ent_uniq (fun d _ hp => t_sp_eq ht xr.2.2.2.2.2.2.1 w2' hp) (fun d _ hp _ => t_wt_eq ht xr.2.2.2.2.2.2.1 w2' hp) en' en2'
      subst er
      have iv : Inv m2 := Inv_scr (Inv_scr hv (FA_scr f1)) (EA_scr f2)
      have q1 : m1.1 122 6 = 1 := by rw [f1.2 _ _ (by unfold FA; omega)]; exact q0
      rcases en' with ⟨r1, -⟩ | ⟨c, r1, rb⟩
      · refine ⟨-5, m1, m2, ?_, ?_, iv⟩
        · rw [u8_2, bnv_s, hin, b2i_t, if_neg (by decide), p0, if_neg (by decide), e1, bnd_s, if_pos r1]
        · rw [i9_2, bnv_s, hin, b2i_t, if_neg (by decide), q1, if_neg (by decide), e2, bnd_s, r1, if_neg (by decide)]
      · have hc := rb.1
        refine ⟨t_spl (nI c), m1, m2, ?_, ?_, iv⟩
        · unfold f_X8_cellTold
          rw [u8_2, bnv_s, hin, b2i_t, if_neg (by decide), p0, if_neg (by decide), e1, bnd_s, r1, if_neg (fun e => by have := q_cm1 hc; rw [this] at e; exact e)]
          rfl
        · unfold f_X9_spelled
          rw [i9_2, bnv_s, hin, b2i_t, if_neg (by decide), q1, if_neg (by decide), e2, bnd_s, r1, if_pos (nI_pos' (by omega))]
          rfl
  · have hin' := ff_t hin
    exact ⟨-2, μ, μ, by rw [u8_2, bnv_s, hin', b2i_f, if_pos rfl], by rw [i9_2, bnv_s, hin', b2i_f, if_pos rfl], hv⟩
theorem i_in_eq {S T : Nat} {f g : Nat → Int32} (h : ∀ c, c < 36 → t_pl S T c → f c = g c) : i_sum (i_in S T f) 36 = i_sum (i_in S T g) 36 := by
  refine i_sum_eq 36 (fun c hc => ?_)
  unfold i_in
  by_cases q : c / 6 < S ∧ c % 6 < T
  · rw [if_pos q, if_pos q]; exact h c hc q
  · rw [if_neg q, if_neg q]
theorem st_told {μ : Mem} (hv : Inv μ) (a1 : Int32) : ∃ r μ1 μ2, f_X8_told a1 μ = some (r, μ1) ∧ f_X9_told a1 μ1 = some (r, μ2) ∧ Inv μ2 := by
  unfold f_X8_told f_X9_told
  rcases plan_both hv with ⟨p0, q0⟩ | ⟨D, hD, hX, hM, p0, q0, ok, xr, mr⟩
  · exact ⟨-3, μ, μ, by rw [p0, if_pos rfl], by rw [q0, if_pos rfl], hv⟩
  · have hS := ok.1.2.1
    have hT := ok.1.2.2.2.1
    have n10 : ¬ ((1 : Int32) = 0) := by decide
    obtain ⟨m9, e9, f9, hw, hs, hnf⟩ := worths_both ok xr mr
    have iv9 : Inv m9 := Inv_scr hv (MA_scr f9)
    have g7 : m9.1 122 7 = nI (g_S D.1) := by rw [f9.2 _ _ (by unfold MA; omega)]; exact mr.1
    have g8 : m9.1 122 8 = nI (g_T D.1) := by rw [f9.2 _ _ (by unfold MA; omega)]; exact mr.2.1
    have r128 : ∀ c, c < 36 → m9.1 128 c = D.2.2.1.2.1 c := fun c hc => by rw [f9.2 _ _ (by unfold MA; omega)]; exact mr.2.2.2.1 c hc
    have r129 : ∀ c, c < 36 → m9.1 129 c = b01 (D.2.2.1.2.2.1 c) := fun c hc => by rw [f9.2 _ _ (by unfold MA; omega)]; exact mr.2.2.2.2.1 c hc
    have x24 : ∀ c, c < 36 → μ.1 (22 + 2) c = D.2.2.1.2.1 c := xr.2.2.2.1
    have x25 : ∀ c, c < 36 → μ.1 (22 + 3) c = b01 (D.2.2.1.2.2.1 c) := xr.2.2.2.2.1
    simp only [p0, n10, ↓reduceIte]
    by_cases w0 : a1 = 0
    · refine ⟨t_tot (g_cost D.1) D.2.2.1, μ, μ, ?_, ?_, hv⟩
      · rw [if_pos w0, x3_total' ok xr, bnv_s]
      · rw [q0, if_neg n10, if_pos w0, x9_total' ok mr, bnv_s]
    · by_cases w1 : a1 = 1
      · refine ⟨nI D.2.2.1.1, μ, μ, ?_, ?_, hv⟩
        · rw [if_neg w0, if_pos w1, show μ.1 22 3 = _ from xr.2.2.1]
        · rw [q0, if_neg n10, if_neg w0, if_pos w1, mr.2.2.1]
      · by_cases w2 : a1 = 2
        · obtain ⟨r, m1, e1, f1, h1⟩ := x3_proved ok xr
          have mr1 := MR_fr2 mr ok.2.2.2.2.2.2 f1 (fun c j h => by unfold FA; omega)
          obtain ⟨r', m2, e2, f2, h2, -⟩ := x9_proved ok mr1
          have er : r = r' := by
            cases r <;> cases r'
            · rfl
            · exact h1.mpr (h2.mp rfl)
            · exact (h2.mpr (h1.mp rfl)).symm
            · rfl
          subst er
          have q1 : m1.1 122 6 = 1 := by rw [f1.2 _ _ (by unfold FA; omega)]; exact q0
          refine ⟨b01 r, m1, m2, ?_, ?_, Inv_scr (Inv_scr hv (FA_scr f1)) (MA_scr f2)⟩
          · rw [if_neg w0, if_neg w1, if_pos w2, e1, bnd_s]
            cases r <;> rfl
          · rw [q1, if_neg n10, if_neg w0, if_neg w1, if_pos w2, e2, bnd_s]
            cases r <;> rfl
        · by_cases w3 : a1 = 3
          · subst w3
            have e8 := x3_keptZeros (k := 22) (μ := μ) xr.1 xr.2.1 hS hT
            have ec := x9_counted (what := 3) e9 g7 g8 hS hT
            refine ⟨i_sum (i_in (g_S D.1) (g_T D.1) (mc 3 m9)) 36, μ, m9, ?_, ?_, iv9⟩
            rotate_left
            · rw [q0, if_neg n10, if_neg w0, if_neg w1, if_neg w2, if_pos rfl, ec, bnd_s]
            · rw [if_neg w0, if_neg w1, if_neg w2, if_pos rfl, e8, bnv_s]
              refine congrArg (fun z => some (z, μ)) (i_in_eq (fun c hc hp => ?_))
              unfold mc
              rw [if_pos rfl, r128 c hc, r129 c hc, x24 c hc, x25 c hc]
              cases D.2.2.1.2.2.1 c <;> simp [b01]
          · by_cases w4 : a1 = 4
            · subst w4
              have e8 := x3_free0 (k := 22) (μ := μ) xr.1 xr.2.1 hS hT
              have ec := x9_counted (what := 4) e9 g7 g8 hS hT
              refine ⟨i_sum (i_in (g_S D.1) (g_T D.1) (mc 4 m9)) 36, μ, m9, ?_, ?_, iv9⟩
              rotate_left
              · rw [q0, if_neg n10, if_neg w0, if_neg w1, if_neg w2, if_neg w3, if_pos rfl, ec, bnd_s]
              · rw [if_neg w0, if_neg w1, if_neg w2, if_neg w3, if_pos rfl, e8, bnv_s]
                refine congrArg (fun z => some (z, μ)) (i_in_eq (fun c hc hp => ?_))
                unfold mc
                rw [if_neg w3, if_pos rfl, r129 c hc, x25 c hc, hs c hc hp]
                by_cases u : ms m9 c = 0 <;> by_cases v : b01 (D.2.2.1.2.2.1 c) = 0 <;> simp [u, v]
            · by_cases w5 : a1 = 5
              · subst w5
                have e8 := x3_free1 (k := 22) (μ := μ) xr.1 xr.2.1 hS hT
                have ec := x9_counted (what := 5) e9 g7 g8 hS hT
                refine ⟨i_sum (i_in (g_S D.1) (g_T D.1) (mc 5 m9)) 36, μ, m9, ?_, ?_, iv9⟩
                rotate_left
                · rw [q0, if_neg n10, if_neg w0, if_neg w1, if_neg w2, if_neg w3, if_neg w4, if_pos rfl, ec, bnd_s]
                · rw [if_neg w0, if_neg w1, if_neg w2, if_neg w3, if_neg w4, if_pos rfl, e8, bnv_s]
                  refine congrArg (fun z => some (z, μ)) (i_in_eq (fun c hc hp => ?_))
                  unfold mc
                  rw [if_neg w3, if_neg w4, x25 c hc, hs c hc hp]
                  by_cases u : ms m9 c < 0
                  · rw [hnf c hc u hp, if_pos ⟨u, rfl⟩, if_pos u]
                  · rw [if_neg (fun h => u h.1), if_neg u]
              · by_cases w6 : a1 = 6
                · refine ⟨nI (g_S D.1), μ, μ, ?_, ?_, hv⟩
                  · rw [if_neg w0, if_neg w1, if_neg w2, if_neg w3, if_neg w4, if_neg w5, if_pos w6, show μ.1 22 1 = _ from xr.1]
                  · rw [q0, if_neg n10, if_neg w0, if_neg w1, if_neg w2, if_neg w3, if_neg w4, if_neg w5, if_pos w6, mr.1]
                · by_cases w7 : a1 = 7
                  · refine ⟨nI (g_T D.1), μ, μ, ?_, ?_, hv⟩
                    · rw [if_neg w0, if_neg w1, if_neg w2, if_neg w3, if_neg w4, if_neg w5, if_neg w6, if_pos w7, show μ.1 22 2 = _ from xr.2.1]
                    · rw [q0, if_neg n10, if_neg w0, if_neg w1, if_neg w2, if_neg w3, if_neg w4, if_neg w5, if_neg w6, if_pos w7, mr.2.1]
                  · refine ⟨-1, μ, μ, ?_, ?_, hv⟩
                    · rw [if_neg w0, if_neg w1, if_neg w2, if_neg w3, if_neg w4, if_neg w5, if_neg w6, if_neg w7]
                    · rw [q0, if_neg n10, if_neg w0, if_neg w1, if_neg w2, if_neg w3, if_neg w4, if_neg w5, if_neg w6, if_neg w7]
/-- rows of cells, loads looked at -/
def r_look (r : TR) (ld : Nat → Int32) (k : Nat) : Prop := k < r.1 ∧ ld (r.2.1 k).toNatClampNeg ≠ r.2.2 k ∧ ∀ j, j < k → ld (r.2.1 j).toNatClampNeg = r.2.2 j
theorem x4_firstOther {b n0 a1 : Nat} {r : TR} {μ : Mem} {ld : Nat → Int32} (h : XRw b n0 r μ) (hr : r.1 ≤ 8) (hok : row_ok r) (hl : ∀ c, c < 36 → μ.1 a1 c = ld c) : (∃ k, f_X4_firstOther b a1 36 μ = some (nI k) ∧ r_look r ld k) ∨ (f_X4_firstOther b a1 36 μ = some (-5) ∧ ∀ j, j < r.1 → ld (r.2.1 j).toNatClampNeg = r.2.2 j) := by
  obtain ⟨h1, h2, h3⟩ := h
  refine q_loop0 (fun n i (_ : Unit) => f_X4_firstOther_2 b a1 36 μ n (nI i)) r.1 (by omega) (fun i _ => ∀ j, j < i → ld (r.2.1 j).toNatClampNeg = r.2.2 j)
    (fun z => (∃ k, z = some (nI k) ∧ r_look r ld k) ∨ (z = some (-5) ∧ ∀ j, j < r.1 → ld (r.2.1 j).toNatClampNeg = r.2.2 j)) ?_ ?_ () (fun j h => by omega)
  · intro n i _ hi hv
    obtain ⟨t1, t2⟩ := h3 i hi
    obtain ⟨c, hc, ec⟩ := hok i hi
    have el : ld (r.2.1 i).toNatClampNeg = ld c := by rw [ec, nI_c (by omega)]
    by_cases q : ld c = r.2.2 i
    · right
      refine ⟨(), fun j hj => ?_, ?_⟩
      · by_cases e : j = i
        · rw [e, el]; exact q
        · exact hv j (by omega)
      · show g_X4_firstOther_2 b a1 36 μ _ (nI i) = _
        unfold g_X4_firstOther_2
        simp (disch := omega) only [lt_k, bnv_s, bnd_s, grd_t, q_in, q_inb, q_c, q_leT, q_leF, q_ltT, q_ltF, q_neg, q_nn, q_z, q_le0, q_b0, q_b1, nI_add, nI_0, q_off, q_self, q_oth, cst_2, st_2, ↓reduceIte, f_X8_cellAt, f_X8_roadAt, q_le1, q_nle1, q_le2, q_nle2, q_le5, q_nle5, q_le6, q_nle6, q_le8, q_nle8, q_le12, q_nle12, q_le25, q_nle25, q_le36, q_nle36, q_le60, q_nle60, q_le99, q_nle99, q_le100, q_nle100, q_le300, q_nle300, q_le640, q_nle640, q_le411, q_nle411, q_mul2, q_lmul2, q_mul3, q_lmul3, q_mul5, q_lmul5, q_mul6, q_lmul6, q_mul10, q_lmul10, q_add1, q_ladd1, q_add2, q_ladd2, q_add3, q_ladd3, q_add5, q_ladd5, q_add6, q_ladd6, q_add100, q_ladd100, q_div2, q_rem2, q_div3, q_rem3, q_div6, q_rem6, q_div10, q_rem10, h2, t1, t2, ec, hl c hc, q]
    · left
      refine Or.inl ⟨i, ?_, hi, by rw [el]; exact q, hv⟩
      show g_X4_firstOther_2 b a1 36 μ _ (nI i) = _
      unfold g_X4_firstOther_2
      simp (disch := omega) only [lt_k, bnv_s, bnd_s, grd_t, q_in, q_inb, q_c, q_leT, q_leF, q_ltT, q_ltF, q_neg, q_nn, q_z, q_le0, q_b0, q_b1, nI_add, nI_0, q_off, q_self, q_oth, cst_2, st_2, ↓reduceIte, f_X8_cellAt, f_X8_roadAt, q_le1, q_nle1, q_le2, q_nle2, q_le5, q_nle5, q_le6, q_nle6, q_le8, q_nle8, q_le12, q_nle12, q_le25, q_nle25, q_le36, q_nle36, q_le60, q_nle60, q_le99, q_nle99, q_le100, q_nle100, q_le300, q_nle300, q_le640, q_nle640, q_le411, q_nle411, q_mul2, q_lmul2, q_mul3, q_lmul3, q_mul5, q_lmul5, q_mul6, q_lmul6, q_mul10, q_lmul10, q_add1, q_ladd1, q_add2, q_ladd2, q_add3, q_ladd3, q_add5, q_ladd5, q_add6, q_ladd6, q_add100, q_ladd100, q_div2, q_rem2, q_div3, q_rem3, q_div6, q_rem6, q_div10, q_rem10, h2, t1, t2, ec, hl c hc, q]
  · intro n _ hv
    refine Or.inr ⟨?_, hv⟩
    show g_X4_firstOther_2 b a1 36 μ _ (nI r.1) = _
    unfold g_X4_firstOther_2
    simp (disch := omega) only [lt_k, bnv_s, bnd_s, grd_t, q_in, q_inb, q_c, q_leT, q_leF, q_ltT, q_ltF, q_neg, q_nn, q_z, q_le0, q_b0, q_b1, nI_add, nI_0, q_off, q_self, q_oth, cst_2, st_2, ↓reduceIte, f_X8_cellAt, f_X8_roadAt, q_le1, q_nle1, q_le2, q_nle2, q_le5, q_nle5, q_le6, q_nle6, q_le8, q_nle8, q_le12, q_nle12, q_le25, q_nle25, q_le36, q_nle36, q_le60, q_nle60, q_le99, q_nle99, q_le100, q_nle100, q_le300, q_nle300, q_le640, q_nle640, q_le411, q_nle411, q_mul2, q_lmul2, q_mul3, q_lmul3, q_mul5, q_lmul5, q_mul6, q_lmul6, q_mul10, q_lmul10, q_add1, q_ladd1, q_add2, q_ladd2, q_add3, q_ladd3, q_add5, q_ladd5, q_add6, q_ladd6, q_add100, q_ladd100, q_div2, q_rem2, q_div3, q_rem3, q_div6, q_rem6, q_div10, q_rem10, h2]
theorem st_looked {μ : Mem} (hv : Inv μ) : ∃ r, f_X8_looked μ = some r ∧ f_X9_looked μ = some r := by
  unfold f_X8_looked f_X9_looked
  rcases plan_both hv with ⟨p0, q0⟩ | ⟨D, hD, hX, hM, p0, q0, ok, xr, mr⟩
  · exact ⟨-3, by rw [p0, if_pos rfl], by rw [q0, if_pos rfl]⟩
  · have hr := hD.2.2.2.2.2.2.2.1
    have hok := hD.2.2.2.2.2.2.2.2
    obtain ⟨m1, m2⟩ := hM.2.2.2.2
    have nine : ∀ (k : Nat) (z : Option Int32), (∀ j, j < k → D.2.2.1.2.1 (D.2.2.2.2.2.2.1 j).toNatClampNeg = D.2.2.2.2.2.2.2 j) → k ≤ D.2.2.2.2.2.1 → (∀ n, f_X9_looked_12 μ (n + 1) (nI k) = z) → f_X9_looked_12 μ FU 0 = z := by
      intro k z hb hk hz
      refine q_loop0 (fun n i (_ : Unit) => f_X9_looked_12 μ n (nI i)) k (by omega) (fun _ _ => True) (fun w => w = z) (fun n i _ hi _ => Or.inr ⟨(), trivial, ?_⟩) (fun n _ _ => hz n) () trivial
      obtain ⟨t1, t2⟩ := m2 i (by omega)
      obtain ⟨c, hc, ec⟩ := hok i (by omega)
      have el := hb i hi
      rw [ec, nI_c (by omega)] at el
      show g_X9_looked_12 μ _ (nI i) = _
      unfold g_X9_looked_12
      simp only [Nat.reduceAdd] at t2
      simp (disch := omega) only [lt_k, bnv_s, bnd_s, grd_t, q_in, q_inb, q_c, q_leT, q_leF, q_ltT, q_ltF, q_neg, q_nn, q_z, q_le0, q_b0, q_b1, nI_add, nI_0, q_off, q_self, q_oth, cst_2, st_2, ↓reduceIte, f_X8_cellAt, f_X8_roadAt, q_le1, q_nle1, q_le2, q_nle2, q_le5, q_nle5, q_le6, q_nle6, q_le8, q_nle8, q_le12, q_nle12, q_le25, q_nle25, q_le36, q_nle36, q_le60, q_nle60, q_le99, q_nle99, q_le100, q_nle100, q_le300, q_nle300, q_le640, q_nle640, q_le411, q_nle411, q_mul2, q_lmul2, q_mul3, q_lmul3, q_mul5, q_lmul5, q_mul6, q_lmul6, q_mul10, q_lmul10, q_add1, q_ladd1, q_add2, q_ladd2, q_add3, q_ladd3, q_add5, q_ladd5, q_add6, q_ladd6, q_add100, q_ladd100, q_div2, q_rem2, q_div3, q_rem3, q_div6, q_rem6, q_div10, q_rem10, m1, t1, t2, ec, mr.2.2.2.1 c hc, el]
    rcases x4_firstOther (a1 := 24) hX.2.2.2.2 hr hok xr.2.2.2.1 with ⟨k, e8, k1, k2, k3⟩ | ⟨e8, k1⟩
    · refine ⟨nI k, ?_, ?_⟩
      · rw [p0, if_neg (by decide), show f_X4_firstOther 48 24 36 μ = _ from e8, bnv_s]
      · rw [q0, if_neg (by decide)]
        refine nine k _ k3 (by omega) (fun n => ?_)
        obtain ⟨t1, t2⟩ := m2 k k1
        obtain ⟨c, hc, ec⟩ := hok k k1
        rw [ec, nI_c (by omega)] at k2
        show g_X9_looked_12 μ _ (nI k) = _
        unfold g_X9_looked_12
        simp only [Nat.reduceAdd] at t2
        simp (disch := omega) only [lt_k, bnv_s, bnd_s, grd_t, q_in, q_inb, q_c, q_leT, q_leF, q_ltT, q_ltF, q_neg, q_nn, q_z, q_le0, q_b0, q_b1, nI_add, nI_0, q_off, q_self, q_oth, cst_2, st_2, ↓reduceIte, f_X8_cellAt, f_X8_roadAt, q_le1, q_nle1, q_le2, q_nle2, q_le5, q_nle5, q_le6, q_nle6, q_le8, q_nle8, q_le12, q_nle12, q_le25, q_nle25, q_le36, q_nle36, q_le60, q_nle60, q_le99, q_nle99, q_le100, q_nle100, q_le300, q_nle300, q_le640, q_nle640, q_le411, q_nle411, q_mul2, q_lmul2, q_mul3, q_lmul3, q_mul5, q_lmul5, q_mul6, q_lmul6, q_mul10, q_lmul10, q_add1, q_ladd1, q_add2, q_ladd2, q_add3, q_ladd3, q_add5, q_ladd5, q_add6, q_ladd6, q_add100, q_ladd100, q_div2, q_rem2, q_div3, q_rem3, q_div6, q_rem6, q_div10, q_rem10, m1, t1, t2, ec, mr.2.2.2.1 c hc, k2]
    · refine ⟨-5, ?_, ?_⟩
      · rw [p0, if_neg (by decide), show f_X4_firstOther 48 24 36 μ = _ from e8, bnv_s]
      · rw [q0, if_neg (by decide)]
        refine nine _ _ k1 (Nat.le_refl _) (fun n => ?_)
        show g_X9_looked_12 μ _ (nI _) = _
        unfold g_X9_looked_12
        simp (disch := omega) only [lt_k, bnv_s, bnd_s, grd_t, q_in, q_inb, q_c, q_leT, q_leF, q_ltT, q_ltF, q_neg, q_nn, q_z, q_le0, q_b0, q_b1, nI_add, nI_0, q_off, q_self, q_oth, cst_2, st_2, ↓reduceIte, f_X8_cellAt, f_X8_roadAt, q_le1, q_nle1, q_le2, q_nle2, q_le5, q_nle5, q_le6, q_nle6, q_le8, q_nle8, q_le12, q_nle12, q_le25, q_nle25, q_le36, q_nle36, q_le60, q_nle60, q_le99, q_nle99, q_le100, q_nle100, q_le300, q_nle300, q_le640, q_nle640, q_le411, q_nle411, q_mul2, q_lmul2, q_mul3, q_lmul3, q_mul5, q_lmul5, q_mul6, q_lmul6, q_mul10, q_lmul10, q_add1, q_ladd1, q_add2, q_ladd2, q_add3, q_ladd3, q_add5, q_ladd5, q_add6, q_ladd6, q_add100, q_ladd100, q_div2, q_rem2, q_div3, q_rem3, q_div6, q_rem6, q_div10, q_rem10, m1]
