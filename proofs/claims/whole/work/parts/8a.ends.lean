/-! THE CALLS: ends */ -/
theorem x9_putback {ν m : Mem} (h1 : ∀ j, j < 10 → m.1 147 j = ν.1 123 j) (h2 : ∀ j, j < 10 → m.1 148 j = ν.1 124 j) (h3 : ∀ j, j < 25 → m.1 149 j = ν.1 125 j) (f : fr (fun c j => HA c j ∨ SCR c j) ν m) (x z : Int32) : ∃ m', f_X9_ends_117 x z m = some (z, m') ∧ fr SCR ν m' := by
  obtain ⟨a, ea, va, fa⟩ := x9_copies (a := 147) (b := 123) (n := 10) (μ := m) (by omega) (by omega)
  obtain ⟨b, eb, vb, fb⟩ := x9_copies (a := 148) (b := 124) (n := 10) (μ := a) (by omega) (by omega)
  obtain ⟨c, ec, vc, fc⟩ := x9_copies (a := 149) (b := 125) (n := 25) (μ := b) (by omega) (by omega)
  refine ⟨c, by unfold f_X9_ends_117; rw [ea, bnv_s, eb, bnv_s, ec, bnv_s], ?_, fun k j hn => ?_⟩
  · rw [fc.1, fb.1, fa.1]; exact f.1
  · by_cases q3 : k = 125 ∧ j < 25
    · obtain ⟨rfl, q⟩ := q3
      rw [vc j q, fb.2 _ _ (by omega), fa.2 _ _ (by omega), h3 j q]
    · rw [fc.2 _ _ q3]
      by_cases q2 : k = 124 ∧ j < 10
      · obtain ⟨rfl, q⟩ := q2
        rw [vb j q, fa.2 _ _ (by omega), h2 j q]
      · rw [fb.2 _ _ q2]
        by_cases q1 : k = 123 ∧ j < 10
        · obtain ⟨rfl, q⟩ := q1
          rw [va j q, h1 j q]
        · rw [fa.2 _ _ q1]
          refine f.2 _ _ (fun w => w.elim (fun w => ?_) hn)
          unfold HA at w
          omega
theorem st_ends {μ : Mem} (hv : Inv μ) (a1 : Int32) : ∃ r μ1 μ2, f_X8_ends a1 μ = some (r, μ1) ∧ f_X9_ends a1 μ1 = some (r, μ2) ∧ Inv μ2 := by
  obtain ⟨⟨D, hD, hX, hM⟩, hR⟩ := id hv
  by_cases h1 : inR a1 0 2 = true
  · obtain ⟨m1, c1, x1, f1⟩ := x0_copyFrom (k := 95) (o := 15) (show XG 15 D.1 μ from hX.1) (by omega)
    have b8 := hD.2.2.2.2.2.1
    have bo := hD.2.2.2.2.2.2.1
    obtain ⟨m2, e2, x2, R2, f2⟩ := x8_endsG x1 hD.1 (XRw_fr (show XRw 45 8 D.2.2.2.2.1 μ from hX.2.2.2.1) f1 (fun c j q => by omega)) b8 bo a1
    have hE := (c_hp_ok hD.1 D.2.2.2.2.1 D.2.2.2.2.1.1).1
    generalize hEq : c_hp D.1 D.2.2.2.2.1 D.2.2.2.2.1.1 = E at x2 hE
    have F2 : fr SCR μ m2 := fr_trans f1 f2 (fun c j h => by unfold SCR; omega) (fun c j h => h)
    have hc : ∀ z, z = f_X8_ends a1 μ → z = (if a1 = 0 then (bnd (f_X8_tryTheBest m2) (fun r10 μ11 => if r10 = 0 then (some ((-5), μ11)) else (bnv (f_X3_total 102 μ11) (fun r14 => some (r14, μ11))))) else if a1 = 1 then some (mx 0 (g_all E - g_want E), m2) else some (mx 0 (-(g_all E - g_want E)), m2)) := by
      intro z hz
      rw [hz]
      unfold f_X8_ends
      rw [u8_2, bnv_s, h1, b2i_t, if_neg (by decide), c1, bnv_s, e2]
      unfold g_X8_ends_26
      rw [R2.2.1, if_pos (Int32.le_refl _), x0_stones x2 hE, bnv_s, x0_wants x2 hE, bnv_s, lt_k]
    -- the model, from any memory that the class leaves
    have hm : ∀ m, fr SCR μ m → ∃ v m', g_bst E v ∧ Inv m' ∧ f_X9_ends a1 m = some (if a1 = 0 then v else if a1 = 1 then mx 0 (g_all E - g_want E) else mx 0 (-(g_all E - g_want E)), m') := by
      intro m fm
      have M := MD_fr hM hD fm (fun c j q => by unfold SCR; omega)
      obtain ⟨p1, d1, v1, k1⟩ := x9_copies (a := 123) (b := 147) (n := 10) (μ := m) (by omega) (by omega)
      obtain ⟨p2, d2, v2, k2⟩ := x9_copies (a := 124) (b := 148) (n := 10) (μ := p1) (by omega) (by omega)
      obtain ⟨p3, d3, v3, k3⟩ := x9_copies (a := 125) (b := 149) (n := 25) (μ := p2) (by omega) (by omega)
      have k13 : fr (fun c _ => 147 ≤ c ∧ c ≤ 149) m p3 := fr_trans (fr_trans (C := fun c _ => 147 ≤ c ∧ c ≤ 149) k1 k2 (fun c j h => by omega) (fun c j h => by omega)) k3 (fun c j h => h) (fun c j h => by omega)
      obtain ⟨p4, d4, M4, R4, k4⟩ := x9_endsG (MG_fr M.1 k13 (fun c j q => by omega)) hD.1 (MRw_fr M.2.2.2.1 k13 (fun c j q => by omega)) b8 bo a1
      rw [hEq] at M4
      obtain ⟨v, p5, d5, k5, b5⟩ := x9_theBest M4 hE
      have w1 : ∀ j, j < 10 → p4.1 147 j = m.1 123 j := fun j hj => by rw [k4.2 _ _ (by unfold HA; omega), k3.2 _ _ (by omega), k2.2 _ _ (by omega), v1 j hj]
      have w2 : ∀ j, j < 10 → p4.1 148 j = m.1 124 j := fun j hj => by rw [k4.2 _ _ (by unfold HA; omega), k3.2 _ _ (by omega), v2 j hj, k1.2 _ _ (by omega)]
      have w3 : ∀ j, j < 25 → p4.1 149 j = m.1 125 j := fun j hj => by rw [k4.2 _ _ (by unfold HA; omega), v3 j hj, k2.2 _ _ (by omega), k1.2 _ _ (by omega)]
      have k14 : fr (fun c j => HA c j ∨ SCR c j) m p4 := fr_trans k13 k4 (fun c j h => by unfold SCR; omega) (fun c j h => Or.inl h)
      have eh : f_X9_ends a1 m = if a1 = 0 then f_X9_ends_117 a1 v p5 else if a1 = 1 then f_X9_ends_117 a1 (mx 0 (g_all E - g_want E)) p4 else f_X9_ends_117 a1 (mx 0 (-(g_all E - g_want E))) p4 := by
        unfold f_X9_ends
        rw [i9_2, bnv_s, h1, b2i_t, if_neg (by decide), d1, bnv_s, d2, bnv_s, d3, bnv_s, d4]
        unfold g_X9_ends_49 f_X9_ends_114
        rw [R4.1, if_pos (Int32.le_refl _), x9_sum0 M4 hE, bnv_s, x9_sum1 M4 hE, bnv_s, lt_k, d5, bnd_s]
      by_cases z0 : a1 = 0
      · obtain ⟨m', e', f'⟩ := x9_putback (ν := m) (m := p5) (fun j hj => by rw [k5.2 _ _ (by unfold ZA; omega), w1 j hj]) (fun j hj => by rw [k5.2 _ _ (by unfold ZA; omega), w2 j hj]) (fun j hj => by rw [k5.2 _ _ (by unfold ZA; omega), w3 j hj]) (fr_trans k14 k5 (fun c j h => h) (fun c j h => Or.inr (by unfold ZA at h; unfold SCR; omega))) a1 v
        exact ⟨v, m', b5, Inv_scr hv (fr_then fm f'), by rw [eh, if_pos z0, if_pos z0, e']⟩
      · by_cases z1 : a1 = 1
        · obtain ⟨m', e', f'⟩ := x9_putback w1 w2 w3 k14 a1 (mx 0 (g_all E - g_want E))
          exact ⟨v, m', b5, Inv_scr hv (fr_then fm f'), by rw [eh, if_neg z0, if_pos z1, if_neg z0, if_pos z1, e']⟩
        · obtain ⟨m', e', f'⟩ := x9_putback w1 w2 w3 k14 a1 (mx 0 (-(g_all E - g_want E)))
          exact ⟨v, m', b5, Inv_scr hv (fr_then fm f'), by rw [eh, if_neg z0, if_neg z1, if_neg z0, if_neg z1, e']⟩
    by_cases z0 : a1 = 0
    · obtain ⟨rr, v, m3, e3, f3, b3, p1, p2⟩ := x8_best x2 hE
      have F3 : fr SCR μ m3 := fr_trans F2 f3 (fun c j h => h) (fun c j h => by unfold KB at h; unfold SCR; omega)
      obtain ⟨v', m', b', i', em⟩ := hm m3 F3
      have hvv := g_bst_det b' b3
      subst hvv
      refine ⟨v', m3, m', ?_, by rw [em, if_pos z0], i'⟩
      rw [hc _ rfl, if_pos z0, e3, bnd_s]
      cases rr
      · rw [b01_f, if_pos rfl, p1 rfl]
      · rw [show b01 true = 1 from rfl, if_neg (by decide), (p2 rfl).2.2.1, bnv_s]
    · obtain ⟨v', m', b', i', em⟩ := hm m2 F2
      by_cases z1 : a1 = 1
      · exact ⟨mx 0 (g_all E - g_want E), m2, m', by rw [hc _ rfl, if_neg z0, if_pos z1], by rw [em, if_neg z0, if_pos z1], i'⟩
      · exact ⟨mx 0 (-(g_all E - g_want E)), m2, m', by rw [hc _ rfl, if_neg z0, if_neg z1], by rw [em, if_neg z0, if_neg z1], i'⟩
  · have h1' := ff_t h1
    exact ⟨-1, μ, μ, by unfold f_X8_ends; rw [u8_2, bnv_s, h1', b2i_f, if_pos rfl], by unfold f_X9_ends; rw [i9_2, bnv_s, h1', b2i_f, if_pos rfl], hv⟩
