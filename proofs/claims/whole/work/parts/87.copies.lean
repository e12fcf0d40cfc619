/-! THE CALLS: image, undo (the class's side) */ -/
theorem q_cpy36 : cpyOk 0 0 36 36 36 = true := by decide +kernel
theorem q_cpy66 : cpyOk 0 0 6 6 6 = true := by decide +kernel
theorem q_cpy100 : cpyOk 0 0 100 100 100 = true := by decide +kernel
theorem q_cpy88 : cpyOk 0 0 8 8 8 = true := by decide +kernel
theorem q_tn36 : (36 : Int32).toNatClampNeg = 36 := rfl
theorem q_tn6 : (6 : Int32).toNatClampNeg = 6 := rfl
theorem q_tn100 : (100 : Int32).toNatClampNeg = 100 := rfl
theorem q_tn8 : (8 : Int32).toNatClampNeg = 8 := rfl
theorem allB_t {f : Nat → Int32} {n : Nat} (h : ∀ c, c < n → f c = 0 ∨ f c = 1) : allB f 0 n = true := by
  unfold allB
  rw [List.all_eq_true]
  intro j hj
  have := h j (List.mem_range.mp hj)
  unfold isB
  rw [Nat.zero_add]
  exact decide_eq_true this
theorem x3_copyFrom {k o : Nat} {D : TD} {μ : Mem} (h : XPl o D μ) (hD : D_ok D) (hs : k + 9 ≤ o ∨ o + 9 ≤ k) : ∃ μ', f_X3_copyFrom k o μ = some μ' ∧ XPl k D μ' ∧ fr (fun c _ => k ≤ c ∧ c ≤ k + 8) μ μ' := by
  obtain ⟨h1, h2, h3⟩ := h
  have hb : isB (μ.1 o 0) = true := by rw [h1]; exact isB_b01 _
  have ha : allB (μ.1 (o + 3)) 0 36 = true := allB_t h3
  unfold f_X3_copyFrom
  simp (disch := omega) only [lt_k, q_cpy36, q_cpy66, q_cpy100, grd_t, hb, ha, q_tn0, q_tn36, q_tn6, q_tn100, q_oth, q_off, cst_c]
  refine ⟨_, rfl, ⟨?_, fun hm => ?_, fun c hc => ?_⟩, ?_⟩
  · simp (disch := omega) only [cst_c, q_oth, q_off, q_at, ↓reduceIte]
    exact h1
  · obtain ⟨r1, r2, r3, r4, r5, r6, r7, r8⟩ := h2 hm
    have b100 : D.2.2.1.1 ≤ 100 := (hD.2.2.1 hm).2.2.2.2.2.2.2.2
    refine ⟨?_, ?_, ?_, fun c hc => ?_, fun c hc => ?_, fun c hc hp => ?_, t_W_of (hD.2.2.1 hm).2.2.1 r7 (fun v hv => ?_), fun j hj => ?_⟩
    · simp (disch := omega) only [cst_c, q_oth, q_off, q_at, ↓reduceIte]
      exact r1
    · simp (disch := omega) only [cst_c, q_oth, q_off, q_at, ↓reduceIte]
      exact r2
    · simp (disch := omega) only [cst_c, q_oth, q_off, q_at, ↓reduceIte]
      exact r3
    · have := r4 c hc
      simp (disch := omega) only [cst_c, cst_s, q_off, cpy_at, hc, ↓reduceIte]
      exact this
    · have := r5 c hc
      simp (disch := omega) only [cst_c, cst_s, q_off, cpy_at, hc, ↓reduceIte]
      exact this
    · have := r6 c hc hp
      simp (disch := omega) only [cst_c, cst_s, q_off, cpy_at, hc, ↓reduceIte]
      exact this
    · unfold xw
      by_cases q : v < 6
      · rw [if_pos q, if_pos q]
        simp (disch := omega) only [cst_c, cst_s, q_off, cpy_at, q, ↓reduceIte]
      · rw [if_neg q, if_neg q]
        have hv' : v - 6 < 6 := by omega
        simp (disch := omega) only [cst_c, cst_s, q_off, cpy_at, hv', ↓reduceIte]
    · have := r8 j hj
      have hj' : j < 100 := by omega
      simp (disch := omega) only [cst_c, cst_s, q_off, cpy_at, hj', ↓reduceIte]
      exact this
  · have := h3 c hc
    simp (disch := omega) only [cst_c, cst_s, q_off, cpy_at, hc, ↓reduceIte]
    exact this
  · exact fr_cst' (fr_cst' (fr_cst' (fr_cst' (fr_cst' (fr_cst' (fr_cst' (fr_cst' (fr_st' (fr_st' (fr_st' (fr_st (by omega)) (by omega)) (by omega)) (by omega)) (fun j => by omega)) (fun j => by omega)) (fun j => by omega)) (fun j => by omega)) (fun j => by omega)) (fun j => by omega)) (fun j => by omega)) (fun j => by omega)
theorem x4_copyFrom {k o n0 : Nat} {r : TR} {μ : Mem} (h : XRw o n0 r μ) (hr : r.1 ≤ 8) (h0 : μ.1 k 0 = nI n0) (hs : k + 3 ≤ o ∨ o + 3 ≤ k) : ∃ μ', f_X4_copyFrom k o μ = some μ' ∧ XRw k n0 r μ' ∧ fr (fun c j => (c = k ∧ j = 1) ∨ c = k + 1 ∨ c = k + 2) μ μ' := by
  obtain ⟨h1, h2, h3⟩ := h
  unfold f_X4_copyFrom
  simp (disch := omega) only [lt_k, q_cpy88, grd_t, q_tn0, q_tn8, q_oth, q_off]
  refine ⟨_, rfl, ⟨?_, ?_, fun j hj => ?_⟩, ?_⟩
  · simp (disch := omega) only [cst_c, q_oth, q_at, ↓reduceIte]
    exact h0
  · simp (disch := omega) only [cst_c, q_oth, q_at, ↓reduceIte]
    exact h2
  · have := h3 j hj
    have hj' : j < 8 := by omega
    simp (disch := omega) only [cst_c, cst_s, q_off, cpy_at, hj', ↓reduceIte]
    exact this
  · exact fr_cst' (fr_cst' (fr_st (by omega)) (fun j => by omega)) (fun j => by omega)
