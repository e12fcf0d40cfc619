/-! THE CALLS: tape, item, peek, shift, judge, count */ -/
theorem stl_1 (μ : Mem) (k j : Nat) (x : Int64) : (stl μ k j x).1 = μ.1 := rfl
theorem clst_1 (μ : Mem) (k : Nat) (f : Nat → Int64) : (clst μ k f).1 = μ.1 := rfl
theorem clst_g (μ : Mem) (k : Nat) (f : Nat → Int64) (k' : Nat) : (clst μ k f).2 k' = if k' = k then f else μ.2 k' := rfl
theorem stl_g (μ : Mem) (k j : Nat) (x : Int64) (k' j' : Nat) : (stl μ k j x).2 k' j' = if k' = k then (if j' = j then x else μ.2 k' j') else μ.2 k' j' := by
  unfold stl
  rw [clst_g]
  by_cases q : k' = k
  · rw [if_pos q, if_pos q, q]; rfl
  · rw [if_neg q, if_neg q]
theorem Inv_tape {μ μ' : Mem} (hv : Inv μ) (h : ∀ c j, ¬ ((2 ≤ c ∧ c ≤ 13) ∨ c = 157 ∨ c = 158) → μ'.1 c j = μ.1 c j) (ht : TP μ') : Inv μ' := by
  obtain ⟨⟨D, hD, hX, hM⟩, hK, hT, -⟩ := hv
  have f : fr (fun c _ => (2 ≤ c ∧ c ≤ 13) ∨ c = 157 ∨ c = 158) μ (μ'.1, μ.2) := ⟨rfl, h⟩
  have a : XD 14 D (μ'.1, μ.2) := XD_fr hX hD f (fun c j q => by omega)
  have b : MD D (μ'.1, μ.2) := MD_fr hM hD f (fun c j q => by omega)
  have c : KI (μ'.1, μ.2) := KI_fr hK f (fun c j q => by omega)
  have d : TX (μ'.1, μ.2) := TX_fr hT f (fun c j q => by omega)
  exact ⟨⟨D, hD, a, b⟩, c, d, ht⟩
theorem tape_cases (x : Int32) : (∃ t, t < 6 ∧ x = nI t ∧ (∀ μ, f_X8_isTape x μ = some 1) ∧ ∀ μ, f_X9_isTape x μ = some 1) ∨ ((∀ μ, f_X8_isTape x μ = some 0) ∧ ∀ μ, f_X9_isTape x μ = some 0) := by
  rcases q_rng x 6 (by omega) with ⟨t, ht, rfl⟩ | ⟨a, b⟩ | ⟨a, b, c⟩
  · refine Or.inl ⟨t, ht, rfl, fun μ => ?_, fun μ => ?_⟩
    · unfold f_X8_isTape
      simp (disch := omega) only [lt_k, bnv_s, bnd_s, grd_t, q_in, q_inb, q_c, q_leT, q_leF, q_ltT, q_ltF, q_neg, q_nn, q_z, q_le0, q_b0, q_b1, nI_add, nI_0, q_off, q_self, q_oth, cst_2, st_2, ↓reduceIte, f_X8_cellAt, f_X8_roadAt, q_le1, q_nle1, q_le2, q_nle2, q_le5, q_nle5, q_le6, q_nle6, q_le8, q_nle8, q_le12, q_nle12, q_le25, q_nle25, q_le36, q_nle36, q_le60, q_nle60, q_le99, q_nle99, q_le100, q_nle100, q_le300, q_nle300, q_le640, q_nle640, q_le411, q_nle411, q_mul2, q_lmul2, q_mul3, q_lmul3, q_mul5, q_lmul5, q_mul6, q_lmul6, q_mul10, q_lmul10, q_add1, q_ladd1, q_add2, q_ladd2, q_add3, q_ladd3, q_add5, q_ladd5, q_add6, q_ladd6, q_add100, q_ladd100, q_div2, q_rem2, q_div3, q_rem3, q_div6, q_rem6, q_div10, q_rem10, lt_k]
    · unfold f_X9_isTape
      rw [i9_5, bnv_s, show inR (nI t) 0 5 = true from inR_t.mpr (by rw [nI_i (by omega)]; omega)]
      rfl
  · refine Or.inr ⟨fun μ => ?_, fun μ => ?_⟩
    · unfold f_X8_isTape
      rw [if_pos a]
    · unfold f_X9_isTape
      rw [i9_5, bnv_s, show inR x 0 5 = false from decide_eq_false (by omega)]
      rfl
  · refine Or.inr ⟨fun μ => ?_, fun μ => ?_⟩
    · unfold f_X8_isTape
      rw [if_neg a, if_pos (show (6 : Int32) ≤ x from b)]
    · unfold f_X9_isTape
      rw [i9_5, bnv_s, show inR x 0 5 = false from decide_eq_false (by omega)]
      rfl
theorem srt_neg {x : Int32} (h1 : -1 ≤ x.toInt) : x = -1 ↔ x < 0 := by
  rw [i_eq, i_lt, show (-1 : Int32).toInt = -1 from rfl, show (0 : Int32).toInt = 0 from rfl]
  omega
theorem x7_place {k n : Nat} {μ : Mem} (h : μ.1 k 1 = nI n) (hn : n ≤ 60) (x : Int32) : f_X7_hasPlace k x μ = some (b2i (inN x n)) := by
  unfold f_X7_hasPlace
  rcases q_rng x n (by omega) with ⟨t, ht, rfl⟩ | ⟨a, b⟩ | ⟨a, b, c⟩
  · rw [inN_n ht (by omega)]
    simp (disch := omega) only [lt_k, bnv_s, bnd_s, grd_t, q_in, q_inb, q_c, q_leT, q_leF, q_ltT, q_ltF, q_neg, q_nn, q_z, q_le0, q_b0, q_b1, nI_add, nI_0, q_off, q_self, q_oth, cst_2, st_2, ↓reduceIte, f_X8_cellAt, f_X8_roadAt, q_le1, q_nle1, q_le2, q_nle2, q_le5, q_nle5, q_le6, q_nle6, q_le8, q_nle8, q_le12, q_nle12, q_le25, q_nle25, q_le36, q_nle36, q_le60, q_nle60, q_le99, q_nle99, q_le100, q_nle100, q_le300, q_nle300, q_le640, q_nle640, q_le411, q_nle411, q_mul2, q_lmul2, q_mul3, q_lmul3, q_mul5, q_lmul5, q_mul6, q_lmul6, q_mul10, q_lmul10, q_add1, q_ladd1, q_add2, q_ladd2, q_add3, q_ladd3, q_add5, q_ladd5, q_add6, q_ladd6, q_add100, q_ladd100, q_div2, q_rem2, q_div3, q_rem3, q_div6, q_rem6, q_div10, q_rem10, h, b2i_t]
  · rw [if_pos a, show inN x n = false from decide_eq_false b]; rfl
  · rw [if_neg a, h, if_pos b, show inN x n = false from decide_eq_false c]; rfl
theorem inN_ex {x : Int32} {n : Nat} (h : inN x n = true) : ∃ t, t < n ∧ x = nI t := nI_ex (of_decide_eq_true h).1 (of_decide_eq_true h).2
theorem st_peek {μ : Mem} (hv : Inv μ) (a1 : Int32) (a2 : Int32) : ∃ r, f_X8_peek a1 a2 μ = some r ∧ f_X9_peek a1 a2 μ = some r := by
  unfold f_X8_peek f_X9_peek
  rcases tape_cases a1 with ⟨t, ht, rfl, t8, t9⟩ | ⟨t8, t9⟩
  · obtain ⟨h1, h2, h3, h4, ⟨n, h5, h6, h7⟩, h8⟩ := hv.2.2.2 t ht
    rw [h6] at h2
    have hp := x7_place h2 h5 a2
    rw [t8, t9, bnv_s, bnv_s, if_neg (show ¬ (1 : Int32) = 0 by decide), if_neg (show ¬ (1 : Int32) = 0 by decide), q_in ht (by omega), q_in ht (by omega), q_in ht (by omega), q_in ht (by omega), q_in ht (by omega), nI_c (by omega), hp, h6, i9_N _ _ (by omega), bnv_s, bnv_s]
    by_cases hs : μ.1 157 t < 0
    · have hn := h7 ((srt_neg h3).mpr hs)
      subst hn
      refine ⟨-9223372036854775808, ?_, by rw [if_pos hs]⟩
      rw [show inN a2 0 = false from decide_eq_false (by omega), b2i_f, if_pos rfl]
    · rw [if_neg hs]
      cases hin : inN a2 n
      · exact ⟨_, rfl, rfl⟩
      · obtain ⟨i, hi, rfl⟩ := inN_ex hin
        refine ⟨μ.2 (3 + 2 * t) i, ?_, ?_⟩
        · rw [b2i_t, if_neg (by decide), q_in (by omega) (by omega), nI_c (by omega), show 2 + 2 * t + 1 = 3 + 2 * t by omega]
        · rw [b2i_t, if_neg (by decide), q_in (by omega) (by omega), nI_c (by omega), h8 i (by omega)]
  · exact ⟨_, by rw [t8, bnv_s, if_pos rfl], by rw [t9, bnv_s, if_pos rfl]⟩
theorem TP_item {μ : Mem} (h : TP μ) {t i : Nat} (ht : t < 6) (x : Int64) : TP (stl (stl μ (3 + 2 * t) i x) (151 + t) i x) := by
  intro t' ht'
  obtain ⟨h1, h2, h3, h4, h5, h8⟩ := h t' ht'
  refine ⟨h1, h2, h3, h4, h5, fun j hj => ?_⟩
  rw [stl_g, stl_g, stl_g, stl_g, h8 j hj]
  by_cases q : t' = t
  · subst q
    simp only [show ¬ 3 + 2 * t' = 151 + t' by omega, show ¬ 151 + t' = 3 + 2 * t' by omega, ↓reduceIte]
  · simp only [show ¬ 3 + 2 * t' = 151 + t by omega, show ¬ 3 + 2 * t' = 3 + 2 * t by omega, show ¬ 151 + t' = 3 + 2 * t by omega, show ¬ 151 + t' = 151 + t by omega, ↓reduceIte]
theorem st_item {μ : Mem} (hv : Inv μ) (a1 : Int32) (a2 : Int32) (a3 : Int64) : ∃ r μ1 μ2, f_X8_item a1 a2 a3 μ = some (r, μ1) ∧ f_X9_item a1 a2 a3 μ1 = some (r, μ2) ∧ Inv μ2 := by
  unfold f_X8_item f_X9_item
  rcases tape_cases a1 with ⟨t, ht, rfl, t8, t9⟩ | ⟨t8, t9⟩
  · obtain ⟨h1, h2, h3, h4, ⟨n, h5, h6, h7⟩, h8⟩ := hv.2.2.2 t ht
    rw [h6] at h2
    have hp := x7_place h2 h5 a2
    have lead8 : ∀ (r : Int32) (m : Mem), (if μ.1 157 t = -1 then some (-11, μ) else bnv (some (b2i (inN a2 n))) (fun r8 => if r8 = 0 then some (-13, μ) else bnv (f_X7_fitted (2 + 2 * t) a3 μ) (fun r11 => grd (inb a2 60) (lt (stl μ (2 + 2 * t + 1) a2.toNatClampNeg r11) (fun μ13 => some (1, μ13)))))) = some (r, m) →
        bnv (f_X8_isTape (nI t) μ) (fun r2 => if r2 = 0 then some (-1, μ) else grd (inb (nI t) 6) (if μ.1 (2 + 2 * (nI t).toNatClampNeg) 0 = -1 then some (-11, μ) else bnv (f_X7_hasPlace (2 + 2 * (nI t).toNatClampNeg) a2 μ) (fun r8 => if r8 = 0 then some (-13, μ) else bnv (f_X7_fitted (2 + 2 * (nI t).toNatClampNeg) a3 μ) (fun r11 => grd (inb a2 60) (lt (stl μ (2 + 2 * (nI t).toNatClampNeg + 1) a2.toNatClampNeg r11) (fun μ13 => some (1, μ13))))))) = some (r, m) := by
      intro r m h
      rw [t8, bnv_s, if_neg (by decide), q_in ht (by omega), nI_c (by omega), h1, hp]
      exact h
    have lead9 : ∀ (m : Mem) (r : Int32) (m' : Mem), m.1 = μ.1 → (if 0 ≤ μ.1 157 t then bnv (some (b2i (inN a2 n))) (fun r8 => if r8 = 0 then some (-13, m) else bnv (f_X9_fit (μ.1 157 t) a3 m) (fun r14 => grd (inb a2 60) (lt (stl m (151 + t) a2.toNatClampNeg r14) (fun μ16 => some (1, μ16))))) else some (-11, m)) = some (r, m') →
        bnv (f_X9_isTape (nI t) m) (fun r2 => if r2 = 0 then some (-1, m) else grd (inb (nI t) 6) (if 0 ≤ m.1 157 (nI t).toNatClampNeg then grd (inb (nI t) 6) (bnv (f_X9_in (Int32.toInt64 a2) 0 (Int32.toInt64 (m.1 158 (nI t).toNatClampNeg - 1)) m) (fun r8 => if r8 = 0 then some (-13, m) else grd (inb (nI t) 6) (grd (inb (nI t) 6) (bnv (f_X9_fit (m.1 157 (nI t).toNatClampNeg) a3 m) (fun r14 => grd (inb a2 60) (lt (stl m (151 + (nI t).toNatClampNeg) a2.toNatClampNeg r14) (fun μ16 => some (1, μ16)))))))) else some (-11, m))) = some (r, m') := by
      intro m r m' e h
      simp (disch := omega) only [t9, bnv_s, q_10, ↓reduceIte, q_in, nI_c, e, h6, i9_N]
      exact h
    by_cases hs : μ.1 157 t = -1
    · refine ⟨-11, μ, μ, lead8 _ _ (by rw [if_pos hs]), lead9 μ _ _ rfl (by rw [if_neg (by rw [hs]; decide)]), hv⟩
    · have hs0 : 0 ≤ μ.1 157 t := by
        rw [i_le, show (0 : Int32).toInt = 0 from rfl]
        have : ¬ (μ.1 157 t).toInt = -1 := fun e => hs (by rw [i_eq]; exact e)
        omega
      cases hin : inN a2 n
      · refine ⟨-13, μ, μ, lead8 _ _ (by rw [if_neg hs, bnv_s, hin]; rfl), lead9 μ _ _ rfl (by rw [if_pos hs0, bnv_s, hin]; rfl), hv⟩
      · obtain ⟨i, hi, rfl⟩ := inN_ex hin
        have efit : ∀ m : Mem, f_X9_fit (μ.1 157 t) a3 m = f_X7_fitted (2 + 2 * t) a3 μ := by
          intro m
          unfold f_X9_fit f_X7_fitted
          rw [h1]
          by_cases s0 : μ.1 157 t = 0
          · rw [if_pos s0, if_pos s0]
          · by_cases s1 : μ.1 157 t = 1
            · rw [if_neg s0, if_neg s0, if_pos s1, if_pos s1]
            · by_cases s2 : μ.1 157 t = 2
              · rw [if_neg s0, if_neg s0, if_neg s1, if_neg s1, if_pos s2, if_pos s2]
              · by_cases s3 : μ.1 157 t = 3
                · rw [if_neg s0, if_neg s0, if_neg s1, if_neg s1, if_neg s2, if_neg s2, if_pos s3, if_pos s3]
                · have s4 : μ.1 157 t = 4 := by
                    have x0 : ¬ (μ.1 157 t).toInt = 0 := fun e => s0 (by rw [i_eq]; exact e)
                    have x1 : ¬ (μ.1 157 t).toInt = 1 := fun e => s1 (by rw [i_eq]; exact e)
                    have x2 : ¬ (μ.1 157 t).toInt = 2 := fun e => s2 (by rw [i_eq]; exact e)
                    have x3 : ¬ (μ.1 157 t).toInt = 3 := fun e => s3 (by rw [i_eq]; exact e)
                    rw [i_le, show (0 : Int32).toInt = 0 from rfl] at hs0
                    rw [i_eq, show (4 : Int32).toInt = 4 from rfl]; omega
                  rw [if_neg s0, if_neg s0, if_neg s1, if_neg s1, if_neg s2, if_neg s2, if_neg s3, if_neg s3, if_pos s4]
        have ev : ∃ x, f_X7_fitted (2 + 2 * t) a3 μ = some x := by
          unfold f_X7_fitted
          split
          · exact ⟨_, rfl⟩
          · split
            · exact ⟨_, rfl⟩
            · split
              · exact ⟨_, rfl⟩
              · split
                · exact ⟨_, rfl⟩
                · split
                  · split
                    · exact ⟨_, rfl⟩
                    · exact ⟨_, rfl⟩
                  · exact ⟨_, rfl⟩
        obtain ⟨x, ex⟩ := ev
        refine ⟨1, stl μ (3 + 2 * t) i x, stl (stl μ (3 + 2 * t) i x) (151 + t) i x, lead8 _ _ ?_, lead9 _ _ _ rfl ?_, Inv_tape hv (fun c j _ => rfl) (TP_item hv.2.2.2 ht x)⟩
        · rw [if_neg hs, bnv_s, inN_n hi (by omega), b2i_t, if_neg (by decide), ex, bnv_s, q_in (by omega) (by omega), lt_k, nI_c (by omega), show 2 + 2 * t + 1 = 3 + 2 * t by omega]
        · rw [if_pos hs0, bnv_s, inN_n hi (by omega), b2i_t, if_neg (by decide), efit, ex, bnv_s, q_in (by omega) (by omega), lt_k, nI_c (by omega)]
  · exact ⟨_, μ, μ, by rw [t8, bnv_s, if_pos rfl], by rw [t9, bnv_s, if_pos rfl], hv⟩
theorem j7_fill {a0 : Nat} (μ : Mem) : ∃ μ', f_J7_fill_d0a16 a0 60 0 μ = some μ' ∧ μ'.1 = μ.1 ∧ (∀ i, i < 60 → μ'.2 a0 i = 0) ∧ ∀ k, k ≠ a0 → μ'.2 k = μ.2 k := by
  unfold f_J7_fill_d0a16
  rw [lt_k]
  refine q_loop0 (fun n i (s : Mem) => f_J7_fill_d0a16_6 a0 60 0 n (nI i) (nI 60) s) 60 (by omega) (fun i s => s.1 = μ.1 ∧ (∀ j, j < i → s.2 a0 j = 0) ∧ ∀ k, k ≠ a0 → s.2 k = μ.2 k)
    (fun z => ∃ μ', z = some μ' ∧ μ'.1 = μ.1 ∧ (∀ i, i < 60 → μ'.2 a0 i = 0) ∧ ∀ k, k ≠ a0 → μ'.2 k = μ.2 k) ?_ ?_ μ ⟨rfl, fun j h => by omega, fun k _ => rfl⟩
  · rintro n i s hi ⟨p1, p2, p3⟩
    right
    refine ⟨stl s a0 i 0, ⟨p1, fun j hj => ?_, fun k hk => ?_⟩, ?_⟩
    · rw [stl_g, if_pos rfl]
      by_cases q : j = i
      · rw [if_pos q]
      · rw [if_neg q]; exact p2 j (by omega)
    · funext j
      rw [stl_g, if_neg hk, p3 k hk]
    · show g_J7_fill_d0a16_6 a0 60 0 _ (nI i) (nI 60) s = _
      unfold g_J7_fill_d0a16_6
      simp (disch := omega) only [lt_k, bnv_s, bnd_s, grd_t, q_in, q_inb, q_c, q_leT, q_leF, q_ltT, q_ltF, q_neg, q_nn, q_z, q_le0, q_b0, q_b1, nI_add, nI_0, q_off, q_self, q_oth, cst_2, st_2, ↓reduceIte, f_X8_cellAt, f_X8_roadAt, q_le1, q_nle1, q_le2, q_nle2, q_le5, q_nle5, q_le6, q_nle6, q_le8, q_nle8, q_le12, q_nle12, q_le25, q_nle25, q_le36, q_nle36, q_le60, q_nle60, q_le99, q_nle99, q_le100, q_nle100, q_le300, q_nle300, q_le640, q_nle640, q_le411, q_nle411, q_mul2, q_lmul2, q_mul3, q_lmul3, q_mul5, q_lmul5, q_mul6, q_lmul6, q_mul10, q_lmul10, q_add1, q_ladd1, q_add2, q_ladd2, q_add3, q_ladd3, q_add5, q_ladd5, q_add6, q_ladd6, q_add100, q_ladd100, q_div2, q_rem2, q_div3, q_rem3, q_div6, q_rem6, q_div10, q_rem10, lt_k]
  · rintro n s ⟨p1, p2, p3⟩
    refine ⟨s, ?_, p1, p2, p3⟩
    show g_J7_fill_d0a16_6 a0 60 0 _ (nI 60) (nI 60) s = _
    unfold g_J7_fill_d0a16_6
    simp (disch := omega) only [lt_k, bnv_s, bnd_s, grd_t, q_in, q_inb, q_c, q_leT, q_leF, q_ltT, q_ltF, q_neg, q_nn, q_z, q_le0, q_b0, q_b1, nI_add, nI_0, q_off, q_self, q_oth, cst_2, st_2, ↓reduceIte, f_X8_cellAt, f_X8_roadAt, q_le1, q_nle1, q_le2, q_nle2, q_le5, q_nle5, q_le6, q_nle6, q_le8, q_nle8, q_le12, q_nle12, q_le25, q_nle25, q_le36, q_nle36, q_le60, q_nle60, q_le99, q_nle99, q_le100, q_nle100, q_le300, q_nle300, q_le640, q_nle640, q_le411, q_nle411, q_mul2, q_lmul2, q_mul3, q_lmul3, q_mul5, q_lmul5, q_mul6, q_lmul6, q_mul10, q_lmul10, q_add1, q_ladd1, q_add2, q_ladd2, q_add3, q_ladd3, q_add5, q_ladd5, q_add6, q_ladd6, q_add100, q_ladd100, q_div2, q_rem2, q_div3, q_rem3, q_div6, q_rem6, q_div10, q_rem10, lt_k]
theorem x9_tape72 {x2 x3 : Int32} {t : Nat} (ht : t < 6) (μ : Mem) : ∃ μ', f_X9_tape_72 (nI t) x2 x3 FU 0 μ = some (1, μ') ∧ μ'.1 = μ.1 ∧ (∀ i, i < 60 → μ'.2 (151 + t) i = 0) ∧ ∀ k, k ≠ 151 + t → μ'.2 k = μ.2 k := by
  refine q_loop0 (fun n i (s : Mem) => f_X9_tape_72 (nI t) x2 x3 n (nI i) s) 60 (by omega) (fun i s => s.1 = μ.1 ∧ (∀ j, j < i → s.2 (151 + t) j = 0) ∧ ∀ k, k ≠ 151 + t → s.2 k = μ.2 k)
    (fun z => ∃ μ', z = some (1, μ') ∧ μ'.1 = μ.1 ∧ (∀ i, i < 60 → μ'.2 (151 + t) i = 0) ∧ ∀ k, k ≠ 151 + t → μ'.2 k = μ.2 k) ?_ ?_ μ ⟨rfl, fun j h => by omega, fun k _ => rfl⟩
  · rintro n i s hi ⟨p1, p2, p3⟩
    right
    refine ⟨stl s (151 + t) i 0, ⟨p1, fun j hj => ?_, fun k hk => ?_⟩, ?_⟩
    · rw [stl_g, if_pos rfl]
      by_cases q : j = i
      · rw [if_pos q]
      · rw [if_neg q]; exact p2 j (by omega)
    · funext j
      rw [stl_g, if_neg hk, p3 k hk]
    · show g_X9_tape_72 (nI t) x2 x3 _ (nI i) s = _
      unfold g_X9_tape_72
      simp (disch := omega) only [lt_k, bnv_s, bnd_s, grd_t, q_in, q_inb, q_c, q_leT, q_leF, q_ltT, q_ltF, q_neg, q_nn, q_z, q_le0, q_b0, q_b1, nI_add, nI_0, q_off, q_self, q_oth, cst_2, st_2, ↓reduceIte, f_X8_cellAt, f_X8_roadAt, q_le1, q_nle1, q_le2, q_nle2, q_le5, q_nle5, q_le6, q_nle6, q_le8, q_nle8, q_le12, q_nle12, q_le25, q_nle25, q_le36, q_nle36, q_le60, q_nle60, q_le99, q_nle99, q_le100, q_nle100, q_le300, q_nle300, q_le640, q_nle640, q_le411, q_nle411, q_mul2, q_lmul2, q_mul3, q_lmul3, q_mul5, q_lmul5, q_mul6, q_lmul6, q_mul10, q_lmul10, q_add1, q_ladd1, q_add2, q_ladd2, q_add3, q_ladd3, q_add5, q_ladd5, q_add6, q_ladd6, q_add100, q_ladd100, q_div2, q_rem2, q_div3, q_rem3, q_div6, q_rem6, q_div10, q_rem10, lt_k]
  · rintro n s ⟨p1, p2, p3⟩
    refine ⟨s, ?_, p1, p2, p3⟩
    show g_X9_tape_72 (nI t) x2 x3 _ (nI 60) s = _
    unfold g_X9_tape_72
    simp (disch := omega) only [lt_k, bnv_s, bnd_s, grd_t, q_in, q_inb, q_c, q_leT, q_leF, q_ltT, q_ltF, q_neg, q_nn, q_z, q_le0, q_b0, q_b1, nI_add, nI_0, q_off, q_self, q_oth, cst_2, st_2, ↓reduceIte, f_X8_cellAt, f_X8_roadAt, q_le1, q_nle1, q_le2, q_nle2, q_le5, q_nle5, q_le6, q_nle6, q_le8, q_nle8, q_le12, q_nle12, q_le25, q_nle25, q_le36, q_nle36, q_le60, q_nle60, q_le99, q_nle99, q_le100, q_nle100, q_le300, q_nle300, q_le640, q_nle640, q_le411, q_nle411, q_mul2, q_lmul2, q_mul3, q_lmul3, q_mul5, q_lmul5, q_mul6, q_lmul6, q_mul10, q_lmul10, q_add1, q_ladd1, q_add2, q_ladd2, q_add3, q_ladd3, q_add5, q_ladd5, q_add6, q_ladd6, q_add100, q_ladd100, q_div2, q_rem2, q_div3, q_rem3, q_div6, q_rem6, q_div10, q_rem10, lt_k]
theorem x_become {μ : Mem} (hv : Inv μ) {t n : Nat} (ht : t < 6) (s x3 : Int32) (hs : -1 ≤ s.toInt) (hs4 : s.toInt ≤ 4) (hn : n ≤ 60) (hn0 : s = -1 → n = 0) (hx : 0 ≤ s → x3 = nI n) :
    ∃ μ1 μ2, f_X7_become (2 + 2 * t) s (nI n) μ = some μ1 ∧ f_X9_tape_47 (nI t) s x3 μ1 = some (1, μ2) ∧ Inv μ2 := by
  obtain ⟨m1, e1, a1, a2, a3⟩ := j7_fill (a0 := 2 + 2 * t + 1) (st (st μ (2 + 2 * t) 0 s) (2 + 2 * t) 1 (nI n))
  obtain ⟨m2, e2, b1, b2, b3⟩ := x9_tape72 (x2 := s) (x3 := x3) ht (st (st m1 157 t s) 158 t (nI n))
  refine ⟨m1, m2, ?_, ?_, Inv_tape hv (fun c j hc => ?_) (fun t' ht' => ?_)⟩
  · unfold f_X7_become
    rw [lt_k, lt_k, e1, bnv_s]
  · unfold f_X9_tape_47
    rw [q_in ht (by omega), nI_c (by omega), lt_k]
    by_cases q : 0 ≤ s
    · rw [if_pos q, q_in ht (by omega), lt_k, hx q]
      rw [hx q] at e2
      exact e2
    · have hs1 : s = -1 := by rw [i_eq]; rw [i_le, show (0 : Int32).toInt = 0 from rfl] at q; rw [show (-1 : Int32).toInt = -1 from rfl]; omega
      rw [if_neg q, q_in ht (by omega), lt_k]
      rw [hn0 hs1] at e2
      exact e2
  · rw [b1, q_off _ _ _ (by omega), q_off _ _ _ (by omega), a1, q_off _ _ _ (by omega), q_off _ _ _ (by omega)]
  · obtain ⟨h1, h2, h3, h4, h5, h8⟩ := hv.2.2.2 t' ht'
    rw [b1, q_off _ _ _ (by omega), q_off _ _ _ (by omega), a1]
    by_cases q : t' = t
    · subst q
      have w1 : (st (st m1 157 t' s) 158 t' (nI n)).1 157 t' = s := by rw [q_off _ _ _ (by omega), q_self]
      have w2 : (st (st m1 157 t' s) 158 t' (nI n)).1 158 t' = nI n := by rw [q_self]
      rw [w1, w2, q_oth _ _ _ (by omega), q_self, q_self]
      refine ⟨rfl, rfl, hs, hs4, ⟨n, hn, rfl, hn0⟩, fun i hi => ?_⟩
      rw [b2 i hi, b3 _ (by omega), show 3 + 2 * t' = 2 + 2 * t' + 1 by omega]
      exact a2 i hi
    · have w1 : (st (st m1 157 t s) 158 t (nI n)).1 157 t' = μ.1 157 t' := by rw [q_off _ _ _ (by omega), q_oth _ _ _ q, a1, q_off _ _ _ (by omega), q_off _ _ _ (by omega)]
      have w2 : (st (st m1 157 t s) 158 t (nI n)).1 158 t' = μ.1 158 t' := by rw [q_oth _ _ _ q, q_off _ _ _ (by omega), a1, q_off _ _ _ (by omega), q_off _ _ _ (by omega)]
      rw [w1, w2, q_off _ _ _ (by omega), q_off _ _ _ (by omega)]
      refine ⟨h1, h2, h3, h4, h5, fun i hi => ?_⟩
      rw [b3 _ (by omega), b3 _ (by omega)]
      have c1 := a3 (3 + 2 * t') (by omega)
      have c2 := a3 (151 + t') (by omega)
      show m1.2 (3 + 2 * t') i = m1.2 (151 + t') i
      rw [c1, c2]
      exact h8 i hi
theorem in14 (x : Int32) (μ : Mem) : f_X9_in (Int32.toInt64 x) (-1) 4 μ = some (b2i (decide (-1 ≤ x.toInt ∧ x.toInt ≤ 4))) := in_32 x (-1) 4 μ
theorem st_tape {μ : Mem} (hv : Inv μ) (a1 : Int32) (a2 : Int32) (a3 : Int32) : ∃ r μ1 μ2, f_X8_tape a1 a2 a3 μ = some (r, μ1) ∧ f_X9_tape a1 a2 a3 μ1 = some (r, μ2) ∧ Inv μ2 := by
  unfold f_X8_tape f_X9_tape
  rcases tape_cases a1 with ⟨t, ht, rfl, t8, t9⟩ | ⟨t8, t9⟩
  · by_cases s1 : a2 = -1
    · subst s1
      obtain ⟨m1, m2, e1, e2, iv⟩ := x_become hv ht (-1) a3 (by decide) (by decide) (Nat.zero_le 60) (fun _ => rfl) (fun h => absurd h (by decide))
      refine ⟨1, m1, m2, ?_, ?_, iv⟩
      · rw [t8, bnv_s, if_neg (by decide), if_pos rfl, q_in ht (by omega), nI_c (by omega), show f_X7_become (2 + 2 * t) (-1) 0 μ = some m1 from e1, bnv_s]
      · unfold f_X9_tape_36
        rw [t9, bnv_s, if_neg (by decide), in14, bnv_s, show decide (-1 ≤ (-1 : Int32).toInt ∧ (-1 : Int32).toInt ≤ 4) = true by decide, b2i_t, if_neg (by decide), if_pos (by decide), if_pos (by decide)]
        exact e2
    · by_cases hin : inR a2 0 4 = true
      · have h04 := inR_t.mp hin
        have d14 : decide (-1 ≤ a2.toInt ∧ a2.toInt ≤ 4) = true := decide_eq_true (by omega)
        have nneg : ¬ a2 < 0 := by rw [i_lt, show (0 : Int32).toInt = 0 from rfl]; omega
        by_cases h60 : a3 ≤ 60
        · by_cases h0 : 0 ≤ a3
          · have h60' : a3.toInt ≤ 60 := i_le.mp h60
            have h0' : 0 ≤ a3.toInt := i_le.mp h0
            obtain ⟨n, hn, rfl⟩ := nI_ex (N := 61) h0' (by omega)
            obtain ⟨m1, m2, e1, e2, iv⟩ := x_become hv ht a2 (nI n) (by omega) h04.2 (n := n) (by omega) (fun e => absurd e s1) (fun _ => rfl)
            refine ⟨1, m1, m2, ?_, ?_, iv⟩
            · rw [t8, bnv_s, if_neg (by decide), if_neg s1, u8_4, bnv_s, hin, b2i_t, if_neg (by decide), if_pos h60, if_pos h0, q_in ht (by omega), nI_c (by omega), e1, bnv_s]
            · unfold f_X9_tape_36
              rw [t9, bnv_s, if_neg (by decide), in14, bnv_s, d14, b2i_t, if_neg (by decide), if_neg nneg, if_pos h60, if_neg nneg, if_pos h0]
              exact e2
          · refine ⟨-14, μ, μ, ?_, ?_, hv⟩
            · rw [t8, bnv_s, if_neg (by decide), if_neg s1, u8_4, bnv_s, hin, b2i_t, if_neg (by decide), if_pos h60, if_neg h0]
            · unfold f_X9_tape_36
              rw [t9, bnv_s, if_neg (by decide), in14, bnv_s, d14, b2i_t, if_neg (by decide), if_neg nneg, if_pos h60, if_neg nneg, if_neg h0]
        · refine ⟨-2, μ, μ, ?_, ?_, hv⟩
          · rw [t8, bnv_s, if_neg (by decide), if_neg s1, u8_4, bnv_s, hin, b2i_t, if_neg (by decide), if_neg h60]
          · rw [t9, bnv_s, if_neg (by decide), in14, bnv_s, d14, b2i_t, if_neg (by decide), if_neg nneg, if_neg h60]
      · have hin' := ff_t hin
        have d14 : decide (-1 ≤ a2.toInt ∧ a2.toInt ≤ 4) = false := by
          apply decide_eq_false
          intro h
          have : ¬ a2.toInt = -1 := fun e => s1 (by rw [i_eq]; exact e)
          exact hin (inR_t.mpr (by omega))
        refine ⟨-2, μ, μ, ?_, ?_, hv⟩
        · rw [t8, bnv_s, if_neg (by decide), if_neg s1, u8_4, bnv_s, hin', b2i_f, if_pos rfl]
        · rw [t9, bnv_s, if_neg (by decide), in14, bnv_s, d14, b2i_f, if_pos rfl]
  · exact ⟨_, μ, μ, by rw [t8, bnv_s, if_pos rfl], by rw [t9, bnv_s, if_pos rfl], hv⟩
