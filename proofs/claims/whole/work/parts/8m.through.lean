/-! THE CALLS: read: through the text, and st_read */ -/
def m_at (c : Nat → Nat) (n : Nat) (fl : Bool) (D : TD) (μ s : Mem) (i : Nat) : Prop := match s_L c n i with
  | .inl q => fl = false ∧ MTx c n q true s ∧ fr R4 μ s
  | .inr (q, _) => MTx c n q false s ∧ s.1 122 33 = nI (i + 1) ∧ (fl = false → fr R4 μ s ∧ s.1 122 34 = nI (i + 1)) ∧ (fl = true → fr (fun c j => R4 c j ∨ GM c j) μ s ∧ MD (a_D c n D (i + 1)) s ∧ D_ok (a_D c n D (i + 1)) ∧ s.1 122 34 = nI (a_ct c n D (i + 1)))
def m_res (c : Nat → Nat) (n : Nat) (fl : Bool) (D : TD) (μ : Mem) (o : Sum Nat Nat) (z : Option Mem) : Prop := match o with
  | .inl q => fl = false ∧ ∃ s, z = some s ∧ MTx c n q true s ∧ fr R4 μ s
  | .inr m => ∃ s q, z = some s ∧ MTx c n q false s ∧ (fl = false → fr R4 μ s) ∧ (fl = true → fr (fun c j => R4 c j ∨ GM c j) μ s ∧ MD (a_D c n D m) s ∧ D_ok (a_D c n D m) ∧ s.1 122 34 = nI (a_ct c n D m))
theorem m_at_of {c : Nat → Nat} {n d i : Nat} {fl : Bool} {D : TD} {μ s : Mem} {z : Option Mem} (hi : i < 12) (hp : s_pos c n i ≤ n) (ho : s_out c n 12 0 = s_out c n (12 - i) i) (hfl : fl = true → ∃ m, s_out c n 12 0 = .inr m) (hd : d = if fl = true then a_ct c n D i else i) (hD : fl = true → D_ok (a_D c n D i)) (f0 : fl = false → fr R4 μ s) (f1 : fl = true → fr (fun c j => R4 c j ∨ GM c j) μ s) (h : m_cl c n fl (a_D c n D i) (s_L c n i) z s i d) : ∃ s', z = some s' ∧ m_at c n fl D μ s' i := by
  have eo : s_out c n (12 - i) i = match s_L c n i with
      | .inl q => .inl q
      | .inr (q, _) => if q = n then .inr (i + 1) else if i + 1 = 12 ∨ ¬ c q = 59 then .inl q else s_out c n (12 - (i + 1)) (i + 1) := by
    rw [show 12 - i = (12 - (i + 1)) + 1 by omega]
    rfl
  unfold m_at
  have e1 : a_D c n D (i + 1) = (cl_act (a_D c n D i) (s_clv (s_L c n i))).2 := rfl
  have e2 : a_ct c n D (i + 1) = a_ct c n D i + if (cl_act (a_D c n D i) (s_clv (s_L c n i))).1 < 0 then 0 else 1 := rfl
  cases er : s_L c n i with
  | inl q =>
    rw [er] at h eo
    have hf : fl = false := by
      cases fl
      · rfl
      · obtain ⟨m, e⟩ := hfl rfl
        rw [ho, eo] at e
        cases e
    obtain ⟨s', a, b, d'⟩ := h hf
    exact ⟨s', a, hf, b, fr_then (f0 hf) d'⟩
  | inr y =>
    obtain ⟨q, x⟩ := y
    rw [er] at h e1 e2
    obtain ⟨s', a, b, b3, b4, b5⟩ := h
    refine ⟨s', a, b, b3, fun hf => ?_, fun hf => ?_⟩
    · obtain ⟨g1, g2⟩ := b4 hf
      rw [hf, if_neg (by decide)] at hd
      rw [hd] at g2
      exact ⟨fr_then (f0 hf) g1, g2⟩
    · obtain ⟨g1, g2, g3⟩ := b5 hf
      rw [if_pos hf] at hd
      rw [hd] at g3
      have ok : cl_ok x := by
        have ok' : s_okr n (s_L c n i) := s_cl_ok hp
        rw [er] at ok'
        exact ok'.2
      refine ⟨fr_then (f1 hf) g1, ?_, ?_, ?_⟩
      · rw [e1]; exact g2
      · rw [e1]; exact cl_act_ok (hD hf) ok
      · rw [e2]; exact g3
theorem x9_through {c : Nat → Nat} {n : Nat} {fl : Bool} {D : TD} {μ : Mem} (ht : TXT c n) (h24 : μ.1 122 24 = nI n) (h137 : ∀ j, j < n → μ.1 137 j = nI (c j)) (hfl : fl = true → D_ok D ∧ MD D μ ∧ ∃ m, s_out c n 12 0 = .inr m) : m_res c n fl D μ (s_out c n 12 0) (f_X9_goesThrough (b01 fl) μ) := by
  unfold f_X9_goesThrough
  rw [lt_k, lt_k, lt_k, lt_k]
  generalize em : st (st (st (st μ 122 31 0) 122 33 0) 122 34 0) 122 32 0 = m0
  have f0 : fr R4 μ m0 := by rw [← em]; exact fr_st' (fr_st' (fr_st' (fr_st (by unfold R4; omega)) (by unfold R4; omega)) (by unfold R4; omega)) (by unfold R4; omega)
  have h0 : MTx c n 0 false m0 := ⟨ht, by omega, by rw [f0.2 _ _ (by unfold R4; omega)]; exact h24, fun j hj => by rw [f0.2 _ _ (by unfold R4; omega)]; exact h137 j hj, by rw [← em, q_oth _ _ _ (by omega), q_oth _ _ _ (by omega), q_oth _ _ _ (by omega), q_self]; rfl, by rw [← em, q_self]; rfl⟩
  have z33 : m0.1 122 33 = nI 0 := by rw [← em, q_oth _ _ _ (by omega), q_oth _ _ _ (by omega), q_self]; rfl
  have z34 : m0.1 122 34 = nI 0 := by rw [← em, q_oth _ _ _ (by omega), q_self]; rfl
  have hfl' : fl = true → ∃ m, s_out c n 12 0 = .inr m := fun hf => (hfl hf).2.2
  have c0 := m9_clause (fl := fl) (D := D) h0 z33 z34 (fun hf => ⟨(hfl hf).1, MD_fr (hfl hf).2.1 (hfl hf).1 f0 (fun c j q => by unfold R4; omega)⟩)
  obtain ⟨s0, e0, t0⟩ := m_at_of (D := D) (i := 0) (μ := μ) (d := 0) (by omega) (by show 0 ≤ n; omega) rfl hfl' (by cases fl <;> rfl) (fun hf => (hfl hf).1) (fun _ => f0) (fun _ => fr_mono f0 (fun c j h => Or.inl h)) c0
  rw [e0, bnv_s]
  refine q_while (fun f (s : Mem × Nat) => f_X9_goesThrough_25 (b01 fl) f s.1) (fun s => s.2) (fun s => (s.2 = 0 ∧ fl = false ∧ ∃ q, s_out c n 12 0 = .inl q ∧ MTx c n q true s.1 ∧ fr R4 μ s.1) ∨ ∃ i, i < 12 ∧ s.2 = 12 - i ∧ s_out c n 12 0 = s_out c n (12 - i) i ∧ m_at c n fl D μ s.1 i)
    (fun z => m_res c n fl D μ (s_out c n 12 0) z) ?_ 12 FU (s0, 12) (Nat.le_refl _) (by unfold FU; omega) (Or.inr ⟨0, by omega, rfl, rfl, t0⟩)
  rintro f ⟨s, ph⟩ hs
  have out : ∀ q, MTx c n q true s → f_X9_goesThrough_25 (b01 fl) (f + 1) s = some s := by
    intro q h
    show g_X9_goesThrough_25 (b01 fl) _ s = _
    unfold g_X9_goesThrough_25
    rw [if_neg (by rw [h.2.2.2.2.2]; decide)]
  rcases hs with ⟨-, hf, q, eo, hm, hfr⟩ | ⟨i, hi, hph, ho, ha⟩
  · left
    rw [eo]
    exact ⟨hf, s, out q hm, hm, hfr⟩
  · change ph = 12 - i at hph
    change m_at c n fl D μ s i at ha
    have eo : s_out c n (12 - i) i = match s_L c n i with
        | .inl q => .inl q
        | .inr (q, _) => if q = n then .inr (i + 1) else if i + 1 = 12 ∨ ¬ c q = 59 then .inl q else s_out c n (12 - (i + 1)) (i + 1) := by
      rw [show 12 - i = (12 - (i + 1)) + 1 by omega]
      rfl
    have ep : s_pos c n (i + 1) = s_end (s_L c n i) + 1 := rfl
    unfold m_at at ha
    cases er : s_L c n i with
    | inl q =>
      rw [er] at ha eo
      obtain ⟨hf, hm, hfr⟩ := ha
      left
      rw [ho, eo]
      exact ⟨hf, s, out q hm, hm, hfr⟩
    | inr y =>
      obtain ⟨q, x⟩ := y
      rw [er] at ha eo ep
      obtain ⟨hm, h33, b0, b1⟩ := ha
      have qn := hm.2.1
      have n100 := hm.1.1
      have e32 : s.1 122 32 = 0 := hm.2.2.2.2.2
      have head : f_X9_goesThrough_25 (b01 fl) (f + 1) s = if nI n ≤ nI q then some s else if nI (i + 1) = 12 then f_X9_goesThrough_62 (b01 fl) (f_X9_goesThrough_25 (b01 fl) f) s else bnv (f_X9_here s) (fun r5 => if r5 = 59 then f_X9_goesThrough_67 (b01 fl) (f_X9_goesThrough_25 (b01 fl) f) 0 s else f_X9_goesThrough_62 (b01 fl) (f_X9_goesThrough_25 (b01 fl) f) s) := by
        show g_X9_goesThrough_25 (b01 fl) _ s = _
        unfold g_X9_goesThrough_25
        rw [if_pos e32, hm.2.2.1, hm.2.2.2.2.1, h33]
      have bad : s_out c n 12 0 = .inl q → f_X9_goesThrough_25 (b01 fl) (f + 1) s = f_X9_goesThrough_62 (b01 fl) (f_X9_goesThrough_25 (b01 fl) f) s → ∃ s' : Mem × Nat, ((s'.2 = 0 ∧ fl = false ∧ ∃ q, s_out c n 12 0 = .inl q ∧ MTx c n q true s'.1 ∧ fr R4 μ s'.1) ∨ ∃ i, i < 12 ∧ s'.2 = 12 - i ∧ s_out c n 12 0 = s_out c n (12 - i) i ∧ m_at c n fl D μ s'.1 i) ∧ s'.2 < ph ∧ f_X9_goesThrough_25 (b01 fl) (f + 1) s = f_X9_goesThrough_25 (b01 fl) f s'.1 := by
        intro e1 e2
        have hf : fl = false := by
          cases fl
          · rfl
          · obtain ⟨m, e⟩ := hfl' rfl
            rw [e1] at e
            cases e
        have ff : fr RM s (st s 122 32 1) := fr_st (by unfold RM; omega)
        refine ⟨(st s 122 32 1, 0), Or.inl ⟨rfl, hf, q, e1, MS_to hm ff qn (by rw [q_oth _ _ _ (by omega)]; exact hm.2.2.2.2.1) (q_self _ _ _ _), fr_then (b0 hf).1 (fr_mono ff RM4)⟩, by show 0 < ph; omega, ?_⟩
        rw [e2]
        unfold f_X9_goesThrough_62 f_X9_goesThrough_67
        rw [grd_of (by decide), lt_k, q_self, if_neg (by decide)]
      by_cases qe : q = n
      · left
        rw [ho, eo]
        show m_res c n fl D μ (if q = n then .inr (i + 1) else _) _
        rw [if_pos qe]
        refine ⟨s, q, ?_, hm, fun hf => (b0 hf).1, b1⟩
        show f_X9_goesThrough_25 (b01 fl) (f + 1) s = _
        rw [head, if_pos (by rw [qe, nI_leI (by omega) (by omega)]; exact Nat.le_refl _)]
      · right
        have lq : ¬ nI n ≤ nI q := by rw [nI_leI (by omega) (by omega)]; omega
        by_cases k12 : i + 1 = 12
        · refine bad ?_ ?_
          · rw [ho, eo]
            show (if q = n then Sum.inr (i + 1) else if i + 1 = 12 ∨ ¬ c q = 59 then Sum.inl q else _ : Sum Nat Nat) = _
            rw [if_neg qe, if_pos (Or.inl k12)]
          · rw [head, if_neg lq, if_pos (show nI (i + 1) = 12 by rw [k12]; rfl)]
        · have kne : ¬ nI (i + 1) = 12 := fun e => k12 ((nI_eq (b := 12) (by omega) (by omega)).mp e)
          obtain ⟨r, a5, b5⟩ := m9_is (a := 59) hm (by omega)
          by_cases c59 : c q = 59
          · have g59 : q < n ∧ c q = 59 := ⟨by omega, c59⟩
            have ff : fr RM s (st (st s 122 32 0) 122 31 (nI (q + 1))) := fr_st' (fr_st (by unfold RM; omega)) (by unfold RM; omega)
            generalize em1 : st (st s 122 32 0) 122 31 (nI (q + 1)) = s1 at ff
            have h1 : MTx c n (q + 1) false s1 := MS_to hm ff (by omega) (by rw [← em1, q_self]) (by rw [← em1, q_oth _ _ _ (by omega), q_self]; rfl)
            have y33 : s1.1 122 33 = nI (i + 1) := by rw [ff.2 _ _ (by unfold RM; omega)]; exact h33
            have y34 : s1.1 122 34 = nI (if fl = true then a_ct c n D (i + 1) else i + 1) := by
              rw [ff.2 _ _ (by unfold RM; omega)]
              cases fl
              · exact (b0 rfl).2
              · exact (b1 rfl).2.2.2
            have cc := m9_clause (fl := fl) (D := a_D c n D (i + 1)) h1 y33 y34 (fun hf => ⟨(b1 hf).2.2.1, MD_fr (b1 hf).2.1 (b1 hf).2.2.1 ff (fun c j q => by unfold RM; omega)⟩)
            have es : s_cl c n (q + 1) = s_L c n (i + 1) := by
              unfold s_L
              rw [ep]
              rfl
            rw [es] at cc
            have ho' : s_out c n 12 0 = s_out c n (12 - (i + 1)) (i + 1) := by
              rw [ho, eo]
              show (if q = n then Sum.inr (i + 1) else if i + 1 = 12 ∨ ¬ c q = 59 then Sum.inl q else _ : Sum Nat Nat) = _
              rw [if_neg qe, if_neg (fun z => by rcases z with z | z; exact k12 z; exact z c59)]
            obtain ⟨s2, e2, t2⟩ := m_at_of (D := D) (i := i + 1) (μ := μ) (d := if fl = true then a_ct c n D (i + 1) else i + 1) (by omega) (by rw [ep]; show q + 1 ≤ n; omega) ho' hfl' rfl (fun hf => (b1 hf).2.2.1) (fun hf => fr_then (b0 hf).1 (fr_mono ff RM4)) (fun hf => fr_then (b1 hf).1 (fr_mono ff (fun c j h => Or.inl (RM4 c j h)))) cc
            refine ⟨(s2, 12 - (i + 1)), Or.inr ⟨i + 1, by omega, rfl, ho', t2⟩, by show 12 - (i + 1) < ph; omega, ?_⟩
            show f_X9_goesThrough_25 (b01 fl) (f + 1) s = f_X9_goesThrough_25 (b01 fl) f s2
            rw [head, if_neg lq, if_neg kne, a5, bnv_s, if_pos (show r = 59 from b5.mp g59)]
            unfold f_X9_goesThrough_67
            rw [grd_of (by decide), lt_k, q_self, if_pos rfl, lt_k, q_oth _ _ _ (by omega), hm.2.2.2.2.1, q_add1, em1, e2, bnv_s]
          · refine bad ?_ ?_
            · rw [ho, eo]
              show (if q = n then Sum.inr (i + 1) else if i + 1 = 12 ∨ ¬ c q = 59 then Sum.inl q else _ : Sum Nat Nat) = _
              rw [if_neg qe, if_pos (Or.inr c59)]
            · rw [head, if_neg lq, if_neg kne, a5, bnv_s, if_neg (show ¬ r = 59 from fun e => c59 (b5.mpr e).2)]
theorem st_read {μ : Mem} (hv : Inv μ) : ∃ r μ1 μ2, f_X8_read μ = some (r, μ1) ∧ f_X9_read μ1 = some (r, μ2) ∧ Inv μ2 := by
  obtain ⟨⟨D, hD, hX, hM⟩, hK, ⟨n, t1, t2, t3, t4⟩, hTP⟩ := id hv
  have hc : ∀ j, j < n → μ.1 89 j = nI (μ.1 89 j).toInt.toNat := fun j hj => (nI_of_toInt (t4 j hj).2.1).1
  generalize ec : (fun j => (μ.1 89 j).toInt.toNat) = c at *
  have hc' : ∀ j, j < n → μ.1 89 j = nI (c j) := fun j hj => by rw [← ec]; exact hc j hj
  have ht : TXT c n := ⟨t1, fun j hj => by rw [← ec]; have := (t4 j hj).2; show (μ.1 89 j).toInt.toNat ≤ 127; omega⟩
  have hm : ∀ j, j < n → μ.1 137 j = nI (c j) := fun j hj => by rw [← (t4 j hj).1]; exact hc' j hj
  have hf := x5_found ht t2 hc'
  unfold f_X8_read
  cases eo : s_out c n 12 0 with
  | inl q =>
    rw [eo] at hf
    obtain ⟨m1, e1, f1, q100⟩ := hf
    generalize em : st m1 88 0 0 = m2
    have f2 : fr (fun c j => RX c j ∨ (c = 88 ∧ j = 0)) μ m2 := by rw [← em]; exact fr_st' (fr_mono f1 (fun c j h => Or.inl h)) (Or.inr ⟨rfl, rfl⟩)
    have r9 := x9_through (fl := false) (D := D) (μ := m2) ht (by rw [f2.2 _ _ (by unfold RX; omega)]; exact t3) (fun j hj => by rw [f2.2 _ _ (by unfold RX; omega)]; exact hm j hj) (fun h => by cases h)
    rw [eo] at r9
    obtain ⟨-, m3, e3, h3, f3⟩ := r9
    generalize em4 : st m3 122 24 0 = m4
    have f4 : fr (fun c j => R4 c j ∨ (c = 122 ∧ j = 24)) m2 m4 := by rw [← em4]; exact fr_st' (fr_mono f3 (fun c j h => Or.inl h)) (Or.inr ⟨rfl, rfl⟩)
    have F : fr (fun c j => (RX c j ∨ (c = 88 ∧ j = 0)) ∨ (R4 c j ∨ (c = 122 ∧ j = 24))) μ m4 := fr_trans f2 f4 (fun c j h => Or.inl h) (fun c j h => Or.inr h)
    refine ⟨-10 - nI q, m2, m4, ?_, ?_, ⟨⟨D, hD, XD_fr hX hD F (fun c j p => by unfold RX R4; omega), MD_fr hM hD F (fun c j p => by unfold RX R4; omega)⟩, KI_fr hK F (fun c j p => by unfold RX R4; omega), ⟨0, by omega, ?_, ?_, fun j h => by omega⟩, TP_fr hTP F (fun c j p => by unfold RX R4; omega)⟩⟩
    · rw [e1, bnd_s, lt_k, em, if_neg (nI_pos (by omega))]
    · unfold f_X9_read
      rw [show f_X9_goesThrough 0 m2 = _ from e3, bnv_s, lt_k, if_neg (by rw [h3.2.2.2.2.2]; decide), lt_k, em4, h3.2.2.2.2.1]
    · rw [f4.2 _ _ (by unfold R4; omega), ← em, q_self]; rfl
    · rw [← em4, q_self]; rfl
  | inr m =>
    rw [eo] at hf
    obtain ⟨m1, e1, f1, m12, h88, rows⟩ := hf
    generalize em : st m1 88 0 0 = m2
    have f12 : fr (fun c j => c = 88 ∧ j = 0) m1 m2 := by rw [← em]; exact fr_st ⟨rfl, rfl⟩
    have f2 : fr (fun c j => RX c j ∨ (c = 88 ∧ j = 0)) μ m2 := fr_trans f1 f12 (fun c j h => Or.inl h) (fun c j h => Or.inr h)
    have X2 := XD_fr hX hD f2 (fun c j p => by unfold RX; omega)
    obtain ⟨m3, e3, X3, D3, f3⟩ := x8_done (c := c) (n := n) hD X2 m12 (by rw [f12.2 _ _ (by omega)]; exact h88) (x_rows_fr rows f12 (fun c j a b => by omega))
    have f23 : fr (fun c j => (RX c j ∨ (c = 88 ∧ j = 0)) ∨ GX c j) μ m3 := fr_trans f2 f3 (fun c j h => Or.inl h) (fun c j h => Or.inr h)
    have M3 := MD_fr hM hD f23 (fun c j p => by unfold RX GX; omega)
    have x24 : m3.1 122 24 = nI n := by rw [f23.2 _ _ (by unfold RX GX; omega)]; exact t3
    have x137 : ∀ j, j < n → m3.1 137 j = nI (c j) := fun j hj => by rw [f23.2 _ _ (by unfold RX GX; omega)]; exact hm j hj
    have r9 := x9_through (fl := false) (D := D) (μ := m3) ht x24 x137 (fun h => by cases h)
    rw [eo] at r9
    obtain ⟨m4, q, e4, h4, f4, -⟩ := r9
    have f4' := f4 rfl
    have M4 := MD_fr M3 hD f4' (fun c j p => by unfold R4; omega)
    have r9' := x9_through (fl := true) (D := D) (μ := m4) ht h4.2.2.1 h4.2.2.2.1 (fun _ => ⟨hD, M4, m, eo⟩)
    rw [eo] at r9'
    obtain ⟨m5, q', e5, h5, -, b5⟩ := r9'
    obtain ⟨f5, M5, D5, s34⟩ := b5 rfl
    generalize em6 : st m5 122 24 0 = m6
    have f6 : fr (fun c j => c = 122 ∧ j = 24) m5 m6 := by rw [← em6]; exact fr_st ⟨rfl, rfl⟩
    have f36 : fr (fun c j => (R4 c j ∨ GM c j) ∨ (c = 122 ∧ j = 24)) m3 m6 := fr_trans (fr_trans (C := fun c j => R4 c j ∨ GM c j) f4' f5 (fun c j h => Or.inl h) (fun c j h => h)) f6 (fun c j h => Or.inl h) (fun c j h => Or.inr h)
    have F : fr (fun c j => ((RX c j ∨ (c = 88 ∧ j = 0)) ∨ GX c j) ∨ ((R4 c j ∨ GM c j) ∨ (c = 122 ∧ j = 24))) μ m6 := fr_trans f23 f36 (fun c j h => Or.inl h) (fun c j h => Or.inr h)
    refine ⟨nI (a_ct c n D m), m3, m6, ?_, ?_, ⟨⟨a_D c n D m, D3, XD_fr X3 D3 f36 (fun c j p => by unfold R4 GM; omega), MD_fr M5 D5 f6 (fun c j p => by omega)⟩, KI_fr hK F (fun c j p => by unfold RX R4 GX GM; omega), ⟨0, by omega, ?_, ?_, fun j h => by omega⟩, TP_fr hTP F (fun c j p => by unfold RX R4 GX GM; omega)⟩⟩
    · rw [e1, bnd_s, lt_k, em, if_pos (by decide), e3]
    · unfold f_X9_read
      rw [show f_X9_goesThrough 0 m3 = _ from e4, bnv_s, lt_k, if_pos (show m4.1 122 32 = 0 from h4.2.2.2.2.2), show f_X9_goesThrough 1 m4 = _ from e5, bnv_s, lt_k, lt_k, em6, s34]
    · rw [f36.2 _ _ (by unfold R4 GM; omega), f3.2 _ _ (by unfold GX; omega), ← em, q_self]; rfl
    · rw [← em6, q_self]; rfl
