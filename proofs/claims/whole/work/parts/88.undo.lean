/-! THE CALLS: image, undo */ -/
theorem x6_copyFrom {k o : Nat} {D : TD} {μ : Mem} (h : XD o D μ) (hD : D_ok D) (hc : μ.1 (k + 28) 0 = nI 5 ∧ μ.1 (k + 31) 0 = nI 8 ∧ μ.1 (k + 34) 0 = nI 8) (hs : k + 37 ≤ o ∨ o + 37 ≤ k) : ∃ μ', f_X6_copyFrom k o μ = some μ' ∧ XD k D μ' ∧ fr (fun c _ => (k + 1 ≤ c ∧ c ≤ k + 16) ∨ (k + 28 ≤ c ∧ c ≤ k + 36)) μ μ' := by
  obtain ⟨h1, h2, h3, h4, h5⟩ := h
  obtain ⟨c1, c2, c3⟩ := hc
  have b1 := hD.2.2.2.1
  have b2 := hD.2.2.2.2.2.1
  have b3 := hD.2.2.2.2.2.2.2.1
  obtain ⟨m1, e1, x1, f1⟩ := x0_copyFrom (k := k + 1) (o := o + 1) h1 (by omega)
  obtain ⟨m2, e2, x2, f2⟩ := x3_copyFrom (k := k + 8) (o := o + 8) (XPl_fr h2 hD f1 (fun c j q => by omega)) hD (by omega)
  have f12 : fr (fun c _ => k + 1 ≤ c ∧ c ≤ k + 16) μ m2 := fr_trans f1 f2 (fun c j h => by omega) (fun c j h => by omega)
  obtain ⟨m3, e3, x3, f3⟩ := x4_copyFrom (k := k + 28) (o := o + 28) (XRw_fr h3 f12 (fun c j q => by omega)) (by omega) (by rw [f12.2 _ _ (by omega)]; exact c1) (by omega)
  have f13 : fr (fun c _ => (k + 1 ≤ c ∧ c ≤ k + 16) ∨ (k + 28 ≤ c ∧ c ≤ k + 30)) μ m3 := fr_trans f12 f3 (fun c j h => by omega) (fun c j h => by omega)
  obtain ⟨m4, e4, x4, f4⟩ := x4_copyFrom (k := k + 31) (o := o + 31) (XRw_fr h4 f13 (fun c j q => by omega)) (by omega) (by rw [f13.2 _ _ (by omega)]; exact c2) (by omega)
  have f14 : fr (fun c _ => (k + 1 ≤ c ∧ c ≤ k + 16) ∨ (k + 28 ≤ c ∧ c ≤ k + 33)) μ m4 := fr_trans f13 f4 (fun c j h => by omega) (fun c j h => by omega)
  obtain ⟨m5, e5, x5, f5⟩ := x4_copyFrom (k := k + 34) (o := o + 34) (XRw_fr h5 f14 (fun c j q => by omega)) (by omega) (by rw [f14.2 _ _ (by omega)]; exact c3) (by omega)
  refine ⟨m5, ?_, ⟨?_, ?_, ?_, ?_, x5⟩, fr_trans f14 f5 (fun c j h => by omega) (fun c j h => by omega)⟩
  · unfold f_X6_copyFrom
    rw [e1, bnv_s, e2, bnv_s, e3, bnv_s, e4, bnv_s, e5, bnv_s]
  · exact XG_fr (XG_fr (XG_fr (XG_fr x1 f2 (fun c j p q => by omega)) f3 (fun c j p q => by omega)) f4 (fun c j p q => by omega)) f5 (fun c j p q => by omega)
  · exact XPl_fr (XPl_fr (XPl_fr x2 hD f3 (fun c j q => by omega)) hD f4 (fun c j q => by omega)) hD f5 (fun c j q => by omega)
  · exact XRw_fr (XRw_fr x3 f4 (fun c j q => by omega)) f5 (fun c j q => by omega)
  · exact XRw_fr x4 f5 (fun c j q => by omega)
theorem st_image {μ : Mem} (hv : Inv μ) : ∃ r μ1 μ2, f_X8_image μ = some (r, μ1) ∧ f_X9_image μ1 = some (r, μ2) ∧ Inv μ2 := by
  obtain ⟨⟨D, hD, hX, hM⟩, ⟨hcap, hK⟩, hTX, hTP⟩ := id hv
  obtain ⟨m, e1, x1, f1⟩ := x6_copyFrom (k := 51) (o := 14) hX hD hcap (by omega)
  obtain ⟨m2, e2, s2⟩ := x9_passesAll true (st (st m 0 2 1) 122 26 1)
  obtain ⟨t1, t2, t3, t4, t5, t6⟩ := s2
  have f2 : fr (fun c j => (52 ≤ c ∧ c ≤ 67) ∨ (79 ≤ c ∧ c ≤ 87) ∨ (c = 0 ∧ j = 2) ∨ (c = 122 ∧ j = 26)) μ (st (st m 0 2 1) 122 26 1) := fr_st' (fr_st' (fr_mono f1 (fun c j h => by omega)) (by omega)) (by omega)
  have M1 := MD_fr hM hD f2 (fun c j q => by omega)
  have M2 : MD D m2 := MD_agr M1 hD (fun c j p h => (t4 c j p h (IMR_p h)).1)
  have M3 : MD D (unp m2) := MD_agr M2 hD (fun c j p h => by rw [unp_at h, (t4 c j p h (IMR_p h)).2, (t4 c j p h (IMR_p h)).1])
  have F : fr (fun c j => (52 ≤ c ∧ c ≤ 67) ∨ (79 ≤ c ∧ c ≤ 87) ∨ (c = 0 ∧ j = 2) ∨ (c = 122 ∧ j = 26) ∨ PZ c j) μ m2 := fr_trans f2 t1 (fun c j h => by omega) (fun c j h => Or.inr (Or.inr (Or.inr (Or.inr h))))
  have X51 : XD 51 D m2 := XD_fr (XD_fr (XD_fr x1 hD (fr_st (A := fun c j => c = 0) rfl) (fun c j q => by omega)) hD (fr_st (A := fun c j => c = 122) rfl) (fun c j q => by omega)) hD t1 (fun c j q => by unfold PZ; omega)
  refine ⟨nI D.1.1, st m 0 2 1, m2, ?_, ?_, ⟨⟨D, hD, XD_fr hX hD F (fun c j q => by unfold PZ; omega), M2⟩, ⟨⟨X51.2.2.1.1, X51.2.2.2.1.1, X51.2.2.2.2.1⟩, true, ?_, ?_, fun _ => ⟨D, hD, X51, M3⟩⟩, TX_fr hTX F (fun c j q => by unfold PZ; omega), TP_fr hTP F (fun c j q => by unfold PZ; omega)⟩⟩
  · unfold f_X8_image
    rw [e1, bnv_s, lt_k, q_off _ _ _ (by omega), f1.2 _ _ (by omega), show μ.1 15 0 = _ from hX.1.1]
  · unfold f_X9_image
    rw [lt_k, show f_X9_passesAll 1 _ = _ from e2, bnd_s, M2.1.1]
  · rw [t1.2 _ _ (by unfold PZ; omega), q_off _ _ _ (by omega), q_self]; rfl
  · rw [t1.2 _ _ (by unfold PZ; omega), q_self]; rfl
theorem st_undo {μ : Mem} (hv : Inv μ) : ∃ r μ1 μ2, f_X8_undo μ = some (r, μ1) ∧ f_X9_undo μ1 = some (r, μ2) ∧ Inv μ2 := by
  obtain ⟨⟨D, hD, hX, hM⟩, ⟨hcap, kp, k1, k2, k3⟩, hTX, hTP⟩ := id hv
  cases kp
  · exact ⟨-3, μ, μ, by unfold f_X8_undo; rw [k1, if_pos b01_f], by unfold f_X9_undo; rw [k2, if_pos b01_f], hv⟩
  · obtain ⟨E, hE, xE, uE⟩ := k3 rfl
    obtain ⟨m, e1, x1, f1⟩ := x6_copyFrom (k := 14) (o := 51) xE hE ⟨hX.2.2.1.1, hX.2.2.2.1.1, hX.2.2.2.2.1⟩ (by omega)
    obtain ⟨m2, e2, s2⟩ := x9_passesAll false m
    obtain ⟨t1, t2, t3, t4, t5, t6⟩ := s2
    have M3 : MD E (unp m2) := MD_agr uE hE (fun c j p h => by
      rw [unp_at h, unp_at h, (t4 c j p h (IMR_p h)).2, ← f1.2 138 p (by omega)]; rfl)
    have M2 : MD E m2 := MD_agr M3 hE (fun c j p h => by rw [unp_at h, (t4 c j p h (IMR_p h)).2, (t4 c j p h (IMR_p h)).1])
    have F : fr (fun c j => (15 ≤ c ∧ c ≤ 50) ∨ PZ c j) μ m2 := fr_trans f1 t1 (fun c j h => by omega) (fun c j h => Or.inr h)
    have X14 : XD 14 E m2 := XD_fr x1 hE t1 (fun c j q => by unfold PZ; omega)
    have X51 : XD 51 E m2 := XD_fr xE hE F (fun c j q => by unfold PZ; omega)
    have k2' : m.1 122 26 = 1 := by rw [f1.2 _ _ (by omega)]; exact k2
    refine ⟨nI E.1.1, m, m2, ?_, ?_, ⟨⟨E, hE, X14, M2⟩, ⟨⟨X51.2.2.1.1, X51.2.2.2.1.1, X51.2.2.2.2.1⟩, true, ?_, ?_, fun _ => ⟨E, hE, X51, M3⟩⟩, TX_fr hTX F (fun c j q => by unfold PZ; omega), TP_fr hTP F (fun c j q => by unfold PZ; omega)⟩⟩
    · unfold f_X8_undo
      rw [if_neg (by rw [k1]; decide), e1, bnv_s, show m.1 15 0 = _ from x1.1.1]
    · unfold f_X9_undo
      rw [if_neg (by rw [k2']; decide), show f_X9_passesAll 0 m = _ from e2, bnd_s, M2.1.1]
    · rw [F.2 _ _ (by unfold PZ; omega)]; exact k1
    · rw [F.2 _ _ (by unfold PZ; omega)]; exact k2
