/-! THE CALLS: read */ -/
theorem m9_clause {c : Nat → Nat} {n p w d : Nat} {fl : Bool} {D : TD} {μ : Mem} (h : MTx c n p false μ) (h33 : μ.1 122 33 = nI w) (h34 : μ.1 122 34 = nI d) (hD : fl = true → D_ok D ∧ MD D μ) : m_cl c n fl D (s_cl c n p) (f_X9_clause (b01 fl) μ) μ w d := by
  obtain ⟨r0, a0, b0⟩ := m9_is (a := 113) h (by omega)
  obtain ⟨r1, a1, b1⟩ := m9_is (a := 119) h (by omega)
  obtain ⟨r2, a2, b2⟩ := m9_is (a := 114) h (by omega)
  rw [show r0 = r2 from Option.some.inj (a0.symm.trans a2)] at b0
  rw [show r1 = r2 from Option.some.inj (a1.symm.trans a2)] at b1
  have k1 : nI 113 ≠ nI 114 := by decide
  have k2 : nI 119 ≠ nI 114 := by decide
  have k3 : nI 119 ≠ nI 113 := by decide
  have hok : p < n → s_okr n (s_cl c n p) := fun hp => s_cl_ok (by omega)
  have go : p < n → MTx c n (p + 1) false (st μ 122 31 (nI (p + 1))) ∧ fr RM μ (st μ 122 31 (nI (p + 1))) ∧ (μ.1 122 31) + 1 = nI (p + 1) := fun hp => by
    have f : fr RM μ (st μ 122 31 (nI (p + 1))) := fr_st (by unfold RM; omega)
    exact ⟨MS_to h f (by omega) (q_self _ _ _ _) (by rw [q_oth _ _ _ (by omega)]; exact h.2.2.2.2.2), f, by rw [h.2.2.2.2.1, q_add1]⟩
  -- a letter of a site
  have site : ∀ (L : Nat) (sd : Bool), (L = 113 ∧ sd = false) ∨ (L = 119 ∧ sd = true) → p < n → s_cl c n p = s_st c n L (p + 1) → m_cl c n fl D (s_st c n L (p + 1)) (f_X9_clause_29 (b01 fl) (nI L) μ) μ w d := by
    intro L sd hL hp hs
    have ok := hok hp
    rw [hs] at ok
    obtain ⟨g1, g2, g3⟩ := go hp
    obtain ⟨a, m1, y, m2, b, m3, e1, e2, e3, f3, hm⟩ := m9_site (L := L) g1
    have L114 : ¬ nI L = 114 := by
      rcases hL with ⟨rfl, -⟩ | ⟨rfl, -⟩ <;> decide
    have fm : fr RM μ m3 := fr_then g2 f3
    have j33 : m3.1 122 33 = nI w := by rw [fm.2 _ _ (by unfold RM; omega)]; exact h33
    have j34 : m3.1 122 34 = nI d := by rw [fm.2 _ _ (by unfold RM; omega)]; exact h34
    have head : f_X9_clause_29 (b01 fl) (nI L) μ = if b01 fl = 0 then f_X9_clause_165 (b01 fl) 0 m3 else bnd (f_X9_comes (b01 sd) a b m3) (fun r2 μ3 => f_X9_clause_165 (b01 fl) r2 μ3) := by
      unfold f_X9_clause_29
      rw [lt_k, g3, if_neg L114, e1, bnd_s, show f_X9_takes 44 44 m1 = _ from e2, bnd_s, show f_X9_takes 48 57 m2 = _ from e3, bnd_s]
      unfold f_X9_clause_153 f_X9_clause_164
      rcases hL with ⟨rfl, rfl⟩ | ⟨rfl, rfl⟩
      · rw [if_pos (show nI 113 = 113 from rfl)]; rfl
      · rw [if_neg (show ¬ nI 119 = 113 by decide)]; rfl
    rw [head]
    cases er : s_st c n L (p + 1) with
    | inl q =>
      rw [er] at hm
      intro hf
      subst hf
      rw [b01_f, if_pos rfl]
      obtain ⟨m4, e4, h4, f4⟩ := m9_bad hm 0 0
      exact ⟨m4, e4, h4, fr_trans fm f4 RM4 (fun c j h => h)⟩
    | inr z =>
      obtain ⟨q, x⟩ := z
      rw [er] at hm ok
      obtain ⟨h3, ea, eb⟩ := hm
      have okx : cl_ok x := ok.2
      have x1L : x.1 = L := by
        cases e : s_nm c n (p + 1) with
        | none => rw [s_st_none e] at er; cases er
        | some y =>
          obtain ⟨v, q'⟩ := y
          rw [s_st_some e] at er
          by_cases t1 : q' < n ∧ c q' = 44
          · rw [if_pos t1] at er
            by_cases t2 : q' + 1 < n ∧ 48 ≤ c (q' + 1) ∧ c (q' + 1) ≤ 57
            · rw [if_pos t2] at er; cases er; rfl
            · rw [if_neg t2] at er; cases er
          · rw [if_neg t1] at er; cases er
      have bd : x.2.1 ≤ 99 ∧ x.2.2.1 ≤ 9 := by
        rcases okx with ⟨-, a, b⟩ | ⟨-, a, b⟩ | ⟨z, -⟩
        · exact ⟨a, b⟩
        · exact ⟨a, b⟩
        · rcases hL with ⟨r, -⟩ | ⟨r, -⟩ <;> omega
      cases fl
      · rw [b01_f, if_pos rfl]
        obtain ⟨m4, e4, h4, f4, -, s33, s34⟩ := m9_end h3 j33 j34 0 0
        exact ⟨m4, e4, h4, s33, fun _ => ⟨fr_trans fm f4 RM4 (fun c j h => h), by rw [if_neg (by decide)] at s34; exact s34⟩, fun z => by cases z⟩
      · rw [b01_t, if_neg (by decide)]
        obtain ⟨oD, mD⟩ := hD rfl
        have M3 := MD_fr mD oD fm (fun c j q => by unfold RM; omega)
        rw [ea, eb]
        obtain ⟨m4, e4, x4, f4⟩ := x9_comes oD M3 sd (a := nI x.2.1) (b := nI x.2.2.1) (inR_t.mpr (by rw [nI_i (by omega)]; omega)) (inR_t.mpr (by rw [nI_i (by omega)]; omega))
        have eact : cl_act D x = d_site D sd (nI x.2.1) (nI x.2.2.1) := by
          unfold cl_act
          rcases hL with ⟨r, rfl⟩ | ⟨r, rfl⟩
          · rw [if_pos (by omega)]
          · rw [if_neg (by omega), if_pos (by omega)]
        obtain ⟨m5, e5, h5, f5, f5', s33, s34⟩ := m9_end (MS_fr h3 f4 (fun c j q => by unfold GM; omega)) (by rw [f4.2 _ _ (by unfold GM; omega)]; exact j33) (by rw [f4.2 _ _ (by unfold GM; omega)]; exact j34) (d_site D sd (nI x.2.1) (nI x.2.2.1)).1 1
        rw [e4, bnd_s]
        rw [← eact] at s34
        have oD' := cl_act_ok oD okx
        rw [eact] at oD'
        refine ⟨m5, e5, h5, s33, fun z => (by cases z), fun _ => ⟨?_, ?_, s34⟩⟩
        · exact fr_trans (fr_trans (C := fun c j => R4 c j ∨ GM c j) fm f4 (fun c j h => Or.inl (RM4 c j h)) (fun c j h => Or.inr h)) f5 (fun c j h => h) (fun c j h => Or.inl h)
        · rw [eact]
          exact MD_fr x4 oD' f5' (fun c j q => by omega)
  unfold f_X9_clause s_cl
  rw [a2, bnv_s]
  by_cases g0 : p < n ∧ c p = 113
  · have hs : s_cl c n p = s_st c n 113 (p + 1) := by unfold s_cl; rw [if_pos g0]
    rw [if_pos g0, if_pos (show r2 = 113 from b0.mp g0), b0.mp g0]
    exact site 113 false (Or.inl ⟨rfl, rfl⟩) g0.1 hs
  · rw [if_neg g0, if_neg (show ¬ r2 = 113 from fun e => g0 (b0.mpr e))]
    by_cases g1 : p < n ∧ c p = 119
    · have hs : s_cl c n p = s_st c n 119 (p + 1) := by unfold s_cl; rw [if_neg g0, if_pos g1]
      rw [if_pos g1, if_pos (show r2 = 119 from b1.mp g1), b1.mp g1]
      exact site 119 true (Or.inr ⟨rfl, rfl⟩) g1.1 hs
    · rw [if_neg g1, if_neg (show ¬ r2 = 119 from fun e => g1 (b1.mpr e))]
      by_cases g2 : p < n ∧ c p = 114
      · have hs : s_cl c n p = s_rd c n (p + 1) := by unfold s_cl; rw [if_neg g0, if_neg g1, if_pos g2]
        rw [if_pos g2, if_pos (show r2 = 114 from b2.mp g2), b2.mp g2]
        have ok := hok g2.1
        rw [hs] at ok
        obtain ⟨t1, t2, t3⟩ := go g2.1
        obtain ⟨a, m1, b, m2, kd, m3, v, m4, e1, e2, e3, e4, f4, hm⟩ := m9_road t1
        have fm : fr RM μ m4 := fr_then t2 f4
        have j33 : m4.1 122 33 = nI w := by rw [fm.2 _ _ (by unfold RM; omega)]; exact h33
        have j34 : m4.1 122 34 = nI d := by rw [fm.2 _ _ (by unfold RM; omega)]; exact h34
        have head : f_X9_clause_29 (b01 fl) (nI 114) μ = if b01 fl = 0 then f_X9_clause_165 (b01 fl) 0 m4 else bnd (f_X9_road a b kd v m4) (fun r6 μ7 => f_X9_clause_165 (b01 fl) r6 μ7) := by
          unfold f_X9_clause_29
          rw [lt_k, t3, if_pos (show nI 114 = 114 from rfl), show f_X9_takes 48 57 _ = _ from e1, bnd_s, show f_X9_takes 48 57 m1 = _ from e2, bnd_s]
          unfold f_X9_clause_80 f_X9_clause_108
          rcases e3 with ⟨z, e3⟩ | ⟨z, rfl, rfl⟩
          · rw [if_pos z, e3, bnd_s, e4, bnd_s]
          · rw [if_neg z, e4, bnd_s]
        rw [head]
        cases er : s_rd c n (p + 1) with
        | inl q =>
          rw [er] at hm
          intro hf
          subst hf
          rw [b01_f, if_pos rfl]
          obtain ⟨m5, e5, h5, f5⟩ := m9_bad hm 0 0
          exact ⟨m5, e5, h5, fr_trans fm f5 RM4 (fun c j h => h)⟩
        | inr z =>
          obtain ⟨q, x⟩ := z
          rw [er] at hm ok
          obtain ⟨h3, x114, ea, eb, ek, ev⟩ := hm
          have okx : cl_ok x := ok.2
          have bd : x.2.1 ≤ 9 ∧ x.2.2.1 ≤ 9 ∧ x.2.2.2.1 ≤ 3 ∧ x.2.2.2.2 ≤ 99 := by
            rcases okx with ⟨z, -⟩ | ⟨z, -⟩ | ⟨-, z⟩
            · omega
            · omega
            · exact z
          cases fl
          · rw [b01_f, if_pos rfl]
            obtain ⟨m5, e5, h5, f5, -, s33, s34⟩ := m9_end h3 j33 j34 0 0
            exact ⟨m5, e5, h5, s33, fun _ => ⟨fr_trans fm f5 RM4 (fun c j h => h), by rw [if_neg (by decide)] at s34; exact s34⟩, fun z => by cases z⟩
          · rw [b01_t, if_neg (by decide)]
            obtain ⟨oD, mD⟩ := hD rfl
            have M3 := MD_fr mD oD fm (fun c j q => by unfold RM; omega)
            rw [ea, eb, ek, ev]
            obtain ⟨m5, e5, x5, f5⟩ := x9_road oD M3 (nI x.2.1) (nI x.2.2.1) (kd := nI x.2.2.2.1) (bs := nI x.2.2.2.2) (inR_t.mpr (by rw [nI_i (by omega)]; omega)) (inR_t.mpr (by rw [nI_i (by omega)]; omega))
            have eact : cl_act D x = d_road D (nI x.2.1) (nI x.2.2.1) (nI x.2.2.2.1) (nI x.2.2.2.2) := by
              unfold cl_act
              rw [if_neg (by omega), if_neg (by omega)]
            obtain ⟨m6, e6, h6, f6, f6', s33, s34⟩ := m9_end (MS_fr h3 f5 (fun c j q => by unfold GM; omega)) (by rw [f5.2 _ _ (by unfold GM; omega)]; exact j33) (by rw [f5.2 _ _ (by unfold GM; omega)]; exact j34) (d_road D (nI x.2.1) (nI x.2.2.1) (nI x.2.2.2.1) (nI x.2.2.2.2)).1 1
            rw [e5, bnd_s]
            rw [← eact] at s34
            have oD' := cl_act_ok oD okx
            rw [eact] at oD'
            refine ⟨m6, e6, h6, s33, fun z => (by cases z), fun _ => ⟨?_, ?_, s34⟩⟩
            · exact fr_trans (fr_trans (C := fun c j => R4 c j ∨ GM c j) fm f5 (fun c j h => Or.inl (RM4 c j h)) (fun c j h => Or.inr h)) f6 (fun c j h => h) (fun c j h => Or.inl h)
            · rw [eact]
              exact MD_fr x5 oD' f6' (fun c j q => by omega)
      · rw [if_neg g2, if_neg (show ¬ r2 = 114 from fun e => g2 (b2.mpr e)), lt_k]
        intro hf
        have f : fr RM μ (st μ 122 32 1) := fr_st (by unfold RM; omega)
        exact ⟨_, rfl, MS_to h f h.2.1 (by rw [q_oth _ _ _ (by omega)]; exact h.2.2.2.2.1) (q_self _ _ _ _), fr_mono f RM4⟩
