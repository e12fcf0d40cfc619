/-! THE CALLS: shift, judge, count, feed */ -/
theorem x7_run {k n : Nat} {μ : Mem} (h : μ.1 k 1 = nI n) (hn : n ≤ 60) (x m : Int32) : f_X7_hasRun k x m μ = some (b2i (decide (0 ≤ m.toInt ∧ 0 ≤ x.toInt ∧ m.toInt + x.toInt ≤ n))) := by
  unfold f_X7_hasRun
  by_cases a : m < 0
  · rw [if_pos a, decide_eq_false (by rw [i_lt, show (0 : Int32).toInt = 0 from rfl] at a; omega)]; rfl
  · rw [if_neg a]
    by_cases b : x < 0
    · rw [if_pos b, decide_eq_false (by rw [i_lt, show (0 : Int32).toInt = 0 from rfl] at b; omega)]; rfl
    · rw [if_neg b, h]
      rw [i_lt, show (0 : Int32).toInt = 0 from rfl] at a b
      have e : (nI n - x).toInt = n - x.toInt := by
        have := Int32.toInt_lt x
        rw [Int32.toInt_sub, nI_i (by omega)]; apply Int.bmod_eq_of_le <;> omega
      by_cases c : nI n - x < m
      · rw [if_pos c, decide_eq_false (by rw [i_lt, e] at c; omega)]; rfl
      · rw [if_neg c, decide_eq_true (by rw [i_lt, e] at c; omega)]; rfl
theorem x9_shift_loops {x4 : Int32} {μ : Mem} {t u i j n : Nat} (ht : t < 6) (hu : u < 6) (hi : i + n ≤ 60) (hj : j + n ≤ 60) :
    ∃ μ', f_X9_shift_124 (nI t) (nI i) (nI u) (nI j) (nI n) FU 0 μ = some (nI n, μ') ∧ μ'.1 = μ.1 ∧ (∀ k, k < 60 → μ'.2 (151 + u) k = if j ≤ k ∧ k < j + n then μ.2 (151 + t) (i + (k - j)) else μ.2 (151 + u) k) ∧ ∀ c, c ≠ 151 + u → c ≠ 159 → μ'.2 c = μ.2 c := by
  refine q_loop0 (fun f k (s : Mem) => f_X9_shift_124 (nI t) (nI i) (nI u) (nI j) (nI n) f (nI k) s) n (by omega) (fun k s => s.1 = μ.1 ∧ (∀ d, d < k → s.2 159 d = μ.2 (151 + t) (i + d)) ∧ ∀ c, c ≠ 159 → s.2 c = μ.2 c)
    (fun z => ∃ μ', z = some (nI n, μ') ∧ μ'.1 = μ.1 ∧ (∀ k, k < 60 → μ'.2 (151 + u) k = if j ≤ k ∧ k < j + n then μ.2 (151 + t) (i + (k - j)) else μ.2 (151 + u) k) ∧ ∀ c, c ≠ 151 + u → c ≠ 159 → μ'.2 c = μ.2 c) ?_ ?_ μ ⟨rfl, fun d h => by omega, fun c _ => rfl⟩
  · rintro f k s hk ⟨p1, p2, p3⟩
    right
    have e := p3 (151 + t) (by omega)
    refine ⟨stl s 159 k (μ.2 (151 + t) (i + k)), ⟨p1, fun d hd => ?_, fun c hc => ?_⟩, ?_⟩
    · rw [stl_g, if_pos rfl]
      by_cases q : d = k
      · rw [if_pos q, q]
      · rw [if_neg q]; exact p2 d (by omega)
    · funext d
      rw [stl_g, if_neg hc, p3 c hc]
    · show g_X9_shift_124 _ _ _ _ _ _ (nI k) s = _
      unfold g_X9_shift_124
      simp (disch := omega) only [lt_k, bnv_s, bnd_s, grd_t, q_in, q_inb, q_c, q_leT, q_leF, q_ltT, q_ltF, q_neg, q_nn, q_z, q_le0, q_b0, q_b1, nI_add, nI_0, q_off, q_self, q_oth, cst_2, st_2, ↓reduceIte, f_X8_cellAt, f_X8_roadAt, q_le1, q_nle1, q_le2, q_nle2, q_le5, q_nle5, q_le6, q_nle6, q_le8, q_nle8, q_le12, q_nle12, q_le25, q_nle25, q_le36, q_nle36, q_le60, q_nle60, q_le99, q_nle99, q_le100, q_nle100, q_le300, q_nle300, q_le640, q_nle640, q_le411, q_nle411, q_mul2, q_lmul2, q_mul3, q_lmul3, q_mul5, q_lmul5, q_mul6, q_lmul6, q_mul10, q_lmul10, q_add1, q_ladd1, q_add2, q_ladd2, q_add3, q_ladd3, q_add5, q_ladd5, q_add6, q_ladd6, q_add100, q_ladd100, q_div2, q_rem2, q_div3, q_rem3, q_div6, q_rem6, q_div10, q_rem10, e]
  · rintro f s ⟨p1, p2, p3⟩
    show ∃ μ', g_X9_shift_124 _ _ _ _ _ _ (nI n) s = some (nI n, μ') ∧ _
    have ex : g_X9_shift_124 (nI t) (nI i) (nI u) (nI j) (nI n) (f_X9_shift_124 (nI t) (nI i) (nI u) (nI j) (nI n) f) (nI n) s = f_X9_shift_158 (nI t) (nI i) (nI u) (nI j) (nI n) FU 0 s := by
      unfold g_X9_shift_124
      rw [if_pos (nI_le (Nat.le_refl n) (by omega))]
    rw [ex]
    clear ex
    refine q_loop0 (fun f k (s : Mem) => f_X9_shift_158 (nI t) (nI i) (nI u) (nI j) (nI n) f (nI k) s) n (by omega) (fun k m => m.1 = μ.1 ∧ (∀ d, m.2 (151 + u) d = if j ≤ d ∧ d < j + k then μ.2 (151 + t) (i + (d - j)) else μ.2 (151 + u) d) ∧ (∀ d, d < n → m.2 159 d = μ.2 (151 + t) (i + d)) ∧ ∀ c, c ≠ 159 → c ≠ 151 + u → m.2 c = μ.2 c)
      (fun z => ∃ μ', z = some (nI n, μ') ∧ μ'.1 = μ.1 ∧ (∀ k, k < 60 → μ'.2 (151 + u) k = if j ≤ k ∧ k < j + n then μ.2 (151 + t) (i + (k - j)) else μ.2 (151 + u) k) ∧ ∀ c, c ≠ 151 + u → c ≠ 159 → μ'.2 c = μ.2 c) ?_ ?_ s ⟨p1, fun d => by rw [if_neg (by omega), p3 _ (by omega)], p2, fun c hc _ => p3 c hc⟩
    · rintro f k m hk ⟨q1, q2, q3, q4⟩
      right
      have e := q3 k hk
      refine ⟨stl m (151 + u) (j + k) (μ.2 (151 + t) (i + k)), ⟨q1, fun d => ?_, fun d hd => ?_, fun c hc hc2 => ?_⟩, ?_⟩
      · rw [stl_g, if_pos rfl]
        by_cases q : d = j + k
        · subst q; rw [if_pos rfl, if_pos (by omega), Nat.add_sub_cancel_left]
        · rw [if_neg q, q2 d]
          by_cases r : j ≤ d ∧ d < j + k
          · rw [if_pos r, if_pos (by omega)]
          · rw [if_neg r, if_neg (by omega)]
      · rw [stl_g, if_neg (by omega)]; exact q3 d hd
      · funext d
        rw [stl_g, if_neg hc2, q4 c hc hc2]
      · show g_X9_shift_158 _ _ _ _ _ _ (nI k) m = _
        unfold g_X9_shift_158
        simp (disch := omega) only [lt_k, bnv_s, bnd_s, grd_t, q_in, q_inb, q_c, q_leT, q_leF, q_ltT, q_ltF, q_neg, q_nn, q_z, q_le0, q_b0, q_b1, nI_add, nI_0, q_off, q_self, q_oth, cst_2, st_2, ↓reduceIte, f_X8_cellAt, f_X8_roadAt, q_le1, q_nle1, q_le2, q_nle2, q_le5, q_nle5, q_le6, q_nle6, q_le8, q_nle8, q_le12, q_nle12, q_le25, q_nle25, q_le36, q_nle36, q_le60, q_nle60, q_le99, q_nle99, q_le100, q_nle100, q_le300, q_nle300, q_le640, q_nle640, q_le411, q_nle411, q_mul2, q_lmul2, q_mul3, q_lmul3, q_mul5, q_lmul5, q_mul6, q_lmul6, q_mul10, q_lmul10, q_add1, q_ladd1, q_add2, q_ladd2, q_add3, q_ladd3, q_add5, q_ladd5, q_add6, q_ladd6, q_add100, q_ladd100, q_div2, q_rem2, q_div3, q_rem3, q_div6, q_rem6, q_div10, q_rem10, e]
    · rintro f m ⟨q1, q2, q3, q4⟩
      refine ⟨m, ?_, q1, fun k _ => q2 k, fun c h1 h2 => q4 c h2 h1⟩
      show g_X9_shift_158 _ _ _ _ _ _ (nI n) m = _
      unfold g_X9_shift_158
      rw [if_pos (nI_le (Nat.le_refl n) (by omega))]
theorem st_shift {μ : Mem} (hv : Inv μ) (a1 : Int32) (a2 : Int32) (a3 : Int32) (a4 : Int32) (a5 : Int32) : ∃ r μ1 μ2, f_X8_shift a1 a2 a3 a4 a5 μ = some (r, μ1) ∧ f_X9_shift a1 a2 a3 a4 a5 μ1 = some (r, μ2) ∧ Inv μ2 := by
  unfold f_X8_shift f_X9_shift
  rcases tape_cases a1 with ⟨t, ht, rfl, t8, t9⟩ | ⟨t8, t9⟩
  · rcases tape_cases a3 with ⟨u, hu, rfl, u8, u9⟩ | ⟨u8, u9⟩
    · obtain ⟨h1, h2, h3, h4, ⟨n, h5, h6, h7⟩, h8⟩ := hv.2.2.2 t ht
      obtain ⟨k1, k2, k3, k4, ⟨m, k5, k6, k7⟩, k8⟩ := hv.2.2.2 u hu
      rw [h6] at h2
      rw [k6] at k2
      have r1 := x7_run h2 h5 a2 a5
      have r2 := x7_run k2 k5 a4 a5
      have n10 : ¬ ((1 : Int32) = 0) := by decide
      have fin9 : ¬ (0 ≤ a5.toInt ∧ 0 ≤ a2.toInt ∧ 0 ≤ a4.toInt ∧ a5.toInt + a2.toInt ≤ n ∧ a5.toInt + a4.toInt ≤ m) → ∀ z : Option (Int32 × Mem), (if a5 < 0 then some (-13, μ) else if a2 < 0 then some (-13, μ) else if a4 < 0 then some (-13, μ) else if nI n < a5 then some (-13, μ) else if nI m < a5 then some (-13, μ) else if nI n - a5 < a2 then some (-13, μ) else if a4 ≤ nI m - a5 then z else some (-13, μ)) = some (-13, μ) := by
        intro hno z
        have z0 : (0 : Int32).toInt = 0 := rfl
        by_cases n1 : a5 < 0
        · rw [if_pos n1]
        · by_cases n2 : a2 < 0
          · rw [if_neg n1, if_pos n2]
          · by_cases n3 : a4 < 0
            · rw [if_neg n1, if_neg n2, if_pos n3]
            · by_cases n4 : nI n < a5
              · rw [if_neg n1, if_neg n2, if_neg n3, if_pos n4]
              · by_cases n5 : nI m < a5
                · rw [if_neg n1, if_neg n2, if_neg n3, if_neg n4, if_pos n5]
                · rw [if_neg n1, if_neg n2, if_neg n3, if_neg n4, if_neg n5]
                  rw [i_lt, z0] at n1 n2 n3
                  rw [i_lt, nI_i (by omega)] at n4 n5
                  have e1 : (nI n - a5).toInt = n - a5.toInt := by
                    rw [Int32.toInt_sub, nI_i (by omega)]; apply Int.bmod_eq_of_le <;> omega
                  have e2 : (nI m - a5).toInt = m - a5.toInt := by
                    rw [Int32.toInt_sub, nI_i (by omega)]; apply Int.bmod_eq_of_le <;> omega
                  by_cases n6 : nI n - a5 < a2
                  · rw [if_pos n6]
                  · rw [if_neg n6, if_neg]
                    intro n7
                    rw [i_lt, e1] at n6
                    rw [i_le, e2] at n7
                    exact hno (by omega)
      by_cases s1 : μ.1 157 t < 0
      · refine ⟨-11, μ, μ, by rw [t8, bnv_s, if_neg n10, u8, bnv_s, if_neg n10, q_in ht (by omega), q_in hu (by omega), nI_c (by omega), nI_c (by omega), h1, k1, if_pos ((srt_neg h3).mpr s1)], ?_, hv⟩
        rw [t9, bnv_s, if_neg n10, u9, bnv_s, if_neg n10, q_in ht (by omega), nI_c (n := t) (by omega), if_pos s1]
      · have s1' : ¬ μ.1 157 t = -1 := fun e => s1 ((srt_neg h3).mp e)
        by_cases s2 : 0 ≤ μ.1 157 u
        · have s2' : ¬ μ.1 157 u = -1 := fun e => by rw [e] at s2; exact absurd s2 (by decide)
          by_cases s3 : μ.1 157 t = μ.1 157 u
          · have lead8 : ∀ (r : Int32) (M : Mem), bnv (some (b2i (decide (0 ≤ a5.toInt ∧ 0 ≤ a2.toInt ∧ a5.toInt + a2.toInt ≤ n)))) (fun r15 => if r15 = 0 then some (-13, μ) else bnv (some (b2i (decide (0 ≤ a5.toInt ∧ 0 ≤ a4.toInt ∧ a5.toInt + a4.toInt ≤ m)))) (fun r18 => if r18 = 0 then some (-13, μ) else grd (cpyOk a2 a4 a5 60 60) (lt (clst μ (2 + 2 * u + 1) (va_cpy (μ.2 (2 + 2 * t + 1)) (μ.2 (2 + 2 * u + 1)) a2.toNatClampNeg a4.toNatClampNeg a5.toNatClampNeg)) (fun μ21 => some (a5, μ21))))) = some (r, M) → _ := fun r M h => (by unfold f_X8_shift; rw [t8, bnv_s, if_neg n10, u8, bnv_s, if_neg n10, q_in ht (by omega), q_in hu (by omega), nI_c (by omega), nI_c (by omega), h1, k1, if_neg s1', if_neg s2', if_pos s3, r1, r2]; exact h : f_X8_shift (nI t) a2 (nI u) a4 a5 μ = some (r, M))
            unfold f_X8_shift at lead8
            by_cases g1 : 0 ≤ a5.toInt ∧ 0 ≤ a2.toInt ∧ a5.toInt + a2.toInt ≤ n
            · by_cases g2 : 0 ≤ a5.toInt ∧ 0 ≤ a4.toInt ∧ a5.toInt + a4.toInt ≤ m
              · have dg1 := decide_eq_true g1
                have dg2 := decide_eq_true g2
                obtain ⟨l, hl, rfl⟩ := nI_ex (N := 61) g1.1 (by omega)
                obtain ⟨i, hi, rfl⟩ := nI_ex (N := 61) g1.2.1 (by omega)
                obtain ⟨j, hj, rfl⟩ := nI_ex (N := 61) g2.2.1 (by omega)
                rw [nI_i (by omega), nI_i (by omega)] at g1 g2
                have b1 : i + l ≤ n := by omega
                have b2 : j + l ≤ m := by omega
                have b1' : l ≤ n := by omega
                have b2' : l ≤ m := by omega
                generalize em : clst μ (2 + 2 * u + 1) (va_cpy (μ.2 (2 + 2 * t + 1)) (μ.2 (2 + 2 * u + 1)) i j l) = M
                have M1 : M.1 = μ.1 := by rw [← em]; rfl
                have Ma : ∀ q, M.2 (3 + 2 * u) q = if j ≤ q ∧ q < j + l then μ.2 (3 + 2 * t) (i + (q - j)) else μ.2 (3 + 2 * u) q := by
                  intro q
                  rw [← em, clst_g, if_pos (by omega)]
                  unfold va_cpy
                  rw [show 2 + 2 * t + 1 = 3 + 2 * t by omega, show 2 + 2 * u + 1 = 3 + 2 * u by omega]
                have Mb : ∀ c, c ≠ 3 + 2 * u → M.2 c = μ.2 c := by
                  intro c hc
                  rw [← em, clst_g, if_neg (by omega)]
                obtain ⟨M2, e2, w1, w2, w3⟩ := x9_shift_loops (x4 := 0) (μ := M) ht hu (show i + l ≤ 60 by omega) (show j + l ≤ 60 by omega)
                refine ⟨nI l, M, M2, lead8 _ _ ?_, ?_, Inv_tape hv (fun c j _ => by rw [w1, M1]) (fun t' ht' => ?_)⟩
                · have ok : cpyOk (nI i) (nI j) (nI l) 60 60 = true := by
                    unfold cpyOk
                    apply decide_eq_true
                    rw [nI_c (by omega), nI_c (by omega), nI_c (by omega)]
                    exact ⟨nI_pos (by omega), nI_pos (by omega), nI_pos (by omega), by omega, by omega⟩
                  rw [dg1, dg2, bnv_s, b2i_t, if_neg n10, bnv_s, if_neg n10, ok, grd_t, lt_k, nI_c (by omega), nI_c (by omega), nI_c (by omega), em]
                · have d1 : (nI n - nI l) = nI (n - l) := by
                    have : nI n = nI (n - l) + nI l := by rw [nI_add]; congr 1; omega
                    rw [this, Int32.add_sub_cancel]
                  have d2 : (nI m - nI l) = nI (m - l) := by
                    have : nI m = nI (m - l) + nI l := by rw [nI_add]; congr 1; omega
                    rw [this, Int32.add_sub_cancel]
                  rw [M1, t9, bnv_s, if_neg n10, u9, bnv_s, if_neg n10, q_in ht (by omega), nI_c (n := t) (by omega), if_neg s1, q_in hu (by omega), nI_c (n := u) (by omega), if_pos s2, q_in ht (by omega), q_in hu (by omega), if_pos s3, if_neg (nI_pos (by omega)), if_neg (nI_pos (by omega)), if_neg (nI_pos (by omega)), q_in ht (by omega), h6, if_neg (nI_nlt b1' (by omega)), q_in hu (by omega), k6, if_neg (nI_nlt b2' (by omega)), q_in ht (by omega), d1, if_neg (nI_nlt (by omega) (by omega)), q_in hu (by omega), d2, if_pos (nI_le (by omega) (by omega))]
                  exact e2
                · obtain ⟨y1, y2, y3, y4, y5, y8⟩ := hv.2.2.2 t' ht'
                  rw [w1, M1]
                  refine ⟨y1, y2, y3, y4, y5, fun q hq => ?_⟩
                  have m3 : M2.2 (3 + 2 * t') = M.2 (3 + 2 * t') := w3 _ (by omega) (by omega)
                  rw [m3]
                  by_cases e : t' = u
                  · subst e
                    rw [w2 q hq, Ma, Mb _ (by omega), Mb _ (by omega)]
                    by_cases r : j ≤ q ∧ q < j + l
                    · rw [if_pos r, if_pos r]
                      exact h8 _ (by omega)
                    · rw [if_neg r, if_neg r]
                      exact y8 q hq
                  · have m4 : M2.2 (151 + t') = M.2 (151 + t') := w3 _ (by omega) (by omega)
                    rw [m4, Mb _ (by omega), Mb _ (by omega)]
                    exact y8 q hq
              · refine ⟨-13, μ, μ, lead8 _ _ ?_, ?_, hv⟩
                · rw [decide_eq_true g1, decide_eq_false g2]; rfl
                · rw [t9, bnv_s, if_neg n10, u9, bnv_s, if_neg n10, q_in ht (by omega), nI_c (n := t) (by omega), if_neg s1, q_in hu (by omega), nI_c (n := u) (by omega), if_pos s2, q_in ht (by omega), q_in hu (by omega), if_pos s3, h6, k6, q_in ht (by omega), q_in hu (by omega), q_in ht (by omega), q_in hu (by omega)]
                  exact fin9 (fun h => g2 ⟨h.1, h.2.2.1, h.2.2.2.2⟩) _
            · refine ⟨-13, μ, μ, lead8 _ _ ?_, ?_, hv⟩
              · rw [decide_eq_false g1]; rfl
              · rw [t9, bnv_s, if_neg n10, u9, bnv_s, if_neg n10, q_in ht (by omega), nI_c (n := t) (by omega), if_neg s1, q_in hu (by omega), nI_c (n := u) (by omega), if_pos s2, q_in ht (by omega), q_in hu (by omega), if_pos s3, h6, k6, q_in ht (by omega), q_in hu (by omega), q_in ht (by omega), q_in hu (by omega)]
                exact fin9 (fun h => g1 ⟨h.1, h.2.1, h.2.2.2.1⟩) _
          · refine ⟨-12, μ, μ, by rw [t8, bnv_s, if_neg n10, u8, bnv_s, if_neg n10, q_in ht (by omega), q_in hu (by omega), nI_c (by omega), nI_c (by omega), h1, k1, if_neg s1', if_neg s2', if_neg s3], ?_, hv⟩
            rw [t9, bnv_s, if_neg n10, u9, bnv_s, if_neg n10, q_in ht (by omega), nI_c (n := t) (by omega), if_neg s1, q_in hu (by omega), nI_c (n := u) (by omega), if_pos s2, q_in ht (by omega), q_in hu (by omega), if_neg s3]
        · have s2' : μ.1 157 u = -1 := (srt_neg k3).mpr (by rw [i_lt]; rw [i_le] at s2; omega)
          refine ⟨-11, μ, μ, by rw [t8, bnv_s, if_neg n10, u8, bnv_s, if_neg n10, q_in ht (by omega), q_in hu (by omega), nI_c (by omega), nI_c (by omega), h1, k1, if_neg s1', if_pos s2'], ?_, hv⟩
          rw [t9, bnv_s, if_neg n10, u9, bnv_s, if_neg n10, q_in ht (by omega), nI_c (n := t) (by omega), if_neg s1, q_in hu (by omega), nI_c (n := u) (by omega), if_neg s2]
    · refine ⟨-1, μ, μ, ?_, ?_, hv⟩
      · rw [t8, bnv_s, if_neg (by decide), u8, bnv_s, if_pos rfl]
      · rw [t9, bnv_s, if_neg (by decide), u9, bnv_s, if_pos rfl]
  · exact ⟨_, μ, μ, by rw [t8, bnv_s, if_pos rfl], by rw [t9, bnv_s, if_pos rfl], hv⟩
/-! judge, count, feed -/
noncomputable def t_jd (fm : Int32) (sz S T : Nat) (row : Nat → Int64) (ld : Nat → Int32) : Nat → Nat → Nat → Int32
  | 0, _, _ => -5
  | d + 1, c, k => if c / 6 < S ∧ c % 6 < T then (if 0 ≤ fm.toInt ∧ k + 1 + fm.toInt ≤ sz then (if row (fm.toInt.toNat + k) = Int32.toInt64 (ld c) then t_jd fm sz S T row ld d (c + 1) (k + 1) else nI k) else nI (100 + k)) else t_jd fm sz S T row ld d (c + 1) k
theorem lg_0 {x y : Int64} : lg_cmp x y = 0 ↔ x = y := lg_cmp_eq x y
theorem fm_add {fm : Int32} {k sz : Nat} (hs : sz ≤ 60) (h : 0 ≤ fm.toInt ∧ k + 1 + fm.toInt ≤ sz) : fm + nI k = nI (fm.toInt.toNat + k) ∧ fm.toInt.toNat + k < 60 := by
  obtain ⟨h1, h2⟩ := h
  have e := (nI_of_toInt h1).1
  refine ⟨?_, by omega⟩
  rw [e, nI_add, nI_i (by omega), Int.toNat_natCast]
theorem x3_judge {S T sz o1 : Nat} {row : Nat → Int64} {ld : Nat → Int32} {μ : Mem} (fm : Int32) (h1 : μ.1 22 1 = nI S) (h2 : μ.1 22 2 = nI T) (hS : S ≤ 6) (hT : T ≤ 6) (hsz : μ.1 o1 1 = nI sz) (hs : sz ≤ 60) (hl : ∀ c, c < 36 → μ.1 24 c = ld c) (hr : ∀ i, i < 60 → μ.2 (o1 + 1) i = row i) :
    f_X3_judgeRow 22 o1 fm μ = some (t_jd fm sz S T row ld 36 0 0) := by
  refine q_dbl (fun n => f_X3_judgeRow_5 22 o1 fm μ n) (fun q i s => q s (nI i)) (fun q n i j s => f_X3_judgeRow_17 22 o1 fm q μ n s (nI i) (nI j)) hS hT
    (fun c s => ∃ k, s = nI k ∧ k ≤ c ∧ t_jd fm sz S T row ld (36 - c) c k = t_jd fm sz S T row ld 36 0 0) (fun z => z = some (t_jd fm sz S T row ld 36 0 0)) ?_ ?_ ?_ ?_ ?_ 0 ⟨0, rfl, Nat.le_refl _, rfl⟩
  · rintro n i s hi ⟨k, hk, hk2, hk3⟩
    show g_X3_judgeRow_5 22 o1 fm μ _ s (nI i) = _
    unfold g_X3_judgeRow_5
    simp (disch := omega) only [lt_k, bnv_s, bnd_s, grd_t, q_in, q_inb, q_c, q_leT, q_leF, q_ltT, q_ltF, q_neg, q_nn, q_z, q_le0, q_b0, q_b1, nI_add, nI_0, q_off, q_self, q_oth, cst_2, st_2, ↓reduceIte, f_X8_cellAt, f_X8_roadAt, q_le1, q_nle1, q_le2, q_nle2, q_le5, q_nle5, q_le6, q_nle6, q_le8, q_nle8, q_le12, q_nle12, q_le25, q_nle25, q_le36, q_nle36, q_le60, q_nle60, q_le99, q_nle99, q_le100, q_nle100, q_le300, q_nle300, q_le640, q_nle640, q_le411, q_nle411, q_mul2, q_lmul2, q_mul3, q_lmul3, q_mul5, q_lmul5, q_mul6, q_lmul6, q_mul10, q_lmul10, q_add1, q_ladd1, q_add2, q_ladd2, q_add3, q_ladd3, q_add5, q_ladd5, q_add6, q_ladd6, q_add100, q_ladd100, q_div2, q_rem2, q_div3, q_rem3, q_div6, q_rem6, q_div10, q_rem10, h1]
  · rintro q n i j s hi hj ⟨k, rfl, hk2, hk3⟩
    have hc : 6 * i + j < 36 := by omega
    have e36 : 36 - (6 * i + j) = (36 - (6 * i + j + 1)) + 1 := by omega
    have hp : (6 * i + j) / 6 < S ∧ (6 * i + j) % 6 < T := by omega
    rw [e36] at hk3
    unfold t_jd at hk3
    rw [if_pos hp] at hk3
    have er := x7_run hsz hs fm (nI (k + 1))
    rw [nI_i (by omega)] at er
    have ej : ∀ s', g_X3_judgeRow_17 22 o1 fm q μ (f_X3_judgeRow_17 22 o1 fm q μ n) (nI k) (nI i) (nI j) = s' → f_X3_judgeRow_17 22 o1 fm q μ (n + 1) (nI k) (nI i) (nI j) = s' := fun _ h => h
    by_cases ok : 0 ≤ fm.toInt ∧ k + 1 + fm.toInt ≤ sz
    · rw [if_pos ok] at hk3
      have er1 : f_X7_hasRun o1 fm (nI (k + 1)) μ = some 1 := by
        rw [er, show decide (0 ≤ ((k + 1 : Nat) : Int) ∧ 0 ≤ fm.toInt ∧ ((k + 1 : Nat) : Int) + fm.toInt ≤ sz) = true from decide_eq_true (by omega)]; rfl
      obtain ⟨f1, f2⟩ := fm_add hs ok
      by_cases em : row (fm.toInt.toNat + k) = Int32.toInt64 (ld (6 * i + j))
      · right
        rw [if_pos em] at hk3
        refine ⟨nI (k + 1), ⟨k + 1, rfl, by omega, hk3⟩, ej _ ?_⟩
        unfold g_X3_judgeRow_17
        have e0 : (lg_cmp (row (fm.toInt.toNat + k)) (Int32.toInt64 (ld (6 * i + j))) = 0) = True := eq_true (lg_0.mpr em)
        simp (disch := omega) only [lt_k, bnv_s, bnd_s, grd_t, q_in, q_inb, q_c, q_leT, q_leF, q_ltT, q_ltF, q_neg, q_nn, q_z, q_le0, q_b0, q_b1, nI_add, nI_0, q_off, q_self, q_oth, cst_2, st_2, ↓reduceIte, f_X8_cellAt, f_X8_roadAt, q_le1, q_nle1, q_le2, q_nle2, q_le5, q_nle5, q_le6, q_nle6, q_le8, q_nle8, q_le12, q_nle12, q_le25, q_nle25, q_le36, q_nle36, q_le60, q_nle60, q_le99, q_nle99, q_le100, q_nle100, q_le300, q_nle300, q_le640, q_nle640, q_le411, q_nle411, q_mul2, q_lmul2, q_mul3, q_lmul3, q_mul5, q_lmul5, q_mul6, q_lmul6, q_mul10, q_lmul10, q_add1, q_ladd1, q_add2, q_ladd2, q_add3, q_ladd3, q_add5, q_ladd5, q_add6, q_ladd6, q_add100, q_ladd100, q_div2, q_rem2, q_div3, q_rem3, q_div6, q_rem6, q_div10, q_rem10, h2, er1, q_10, f1, Nat.mul_comm i 6, hr, hl, e0, Nat.reduceAdd]
      · left
        rw [if_neg em] at hk3
        refine (ej _ ?_).trans (congrArg some hk3)
        unfold g_X3_judgeRow_17
        have e0 : (lg_cmp (row (fm.toInt.toNat + k)) (Int32.toInt64 (ld (6 * i + j))) = 0) = False := eq_false (fun h => em (lg_0.mp h))
        simp (disch := omega) only [lt_k, bnv_s, bnd_s, grd_t, q_in, q_inb, q_c, q_leT, q_leF, q_ltT, q_ltF, q_neg, q_nn, q_z, q_le0, q_b0, q_b1, nI_add, nI_0, q_off, q_self, q_oth, cst_2, st_2, ↓reduceIte, f_X8_cellAt, f_X8_roadAt, q_le1, q_nle1, q_le2, q_nle2, q_le5, q_nle5, q_le6, q_nle6, q_le8, q_nle8, q_le12, q_nle12, q_le25, q_nle25, q_le36, q_nle36, q_le60, q_nle60, q_le99, q_nle99, q_le100, q_nle100, q_le300, q_nle300, q_le640, q_nle640, q_le411, q_nle411, q_mul2, q_lmul2, q_mul3, q_lmul3, q_mul5, q_lmul5, q_mul6, q_lmul6, q_mul10, q_lmul10, q_add1, q_ladd1, q_add2, q_ladd2, q_add3, q_ladd3, q_add5, q_ladd5, q_add6, q_ladd6, q_add100, q_ladd100, q_div2, q_rem2, q_div3, q_rem3, q_div6, q_rem6, q_div10, q_rem10, h2, er1, q_10, f1, Nat.mul_comm i 6, hr, hl, e0, Nat.reduceAdd]
    · left
      rw [if_neg ok] at hk3
      refine (ej _ ?_).trans (congrArg some hk3)
      have er1 : f_X7_hasRun o1 fm (nI (k + 1)) μ = some 0 := by
        rw [er, show decide (0 ≤ ((k + 1 : Nat) : Int) ∧ 0 ≤ fm.toInt ∧ ((k + 1 : Nat) : Int) + fm.toInt ≤ sz) = false from decide_eq_false (by omega)]; rfl
      unfold g_X3_judgeRow_17
      simp (disch := omega) only [lt_k, bnv_s, bnd_s, grd_t, q_in, q_inb, q_c, q_leT, q_leF, q_ltT, q_ltF, q_neg, q_nn, q_z, q_le0, q_b0, q_b1, nI_add, nI_0, q_off, q_self, q_oth, cst_2, st_2, ↓reduceIte, f_X8_cellAt, f_X8_roadAt, q_le1, q_nle1, q_le2, q_nle2, q_le5, q_nle5, q_le6, q_nle6, q_le8, q_nle8, q_le12, q_nle12, q_le25, q_nle25, q_le36, q_nle36, q_le60, q_nle60, q_le99, q_nle99, q_le100, q_nle100, q_le300, q_nle300, q_le640, q_nle640, q_le411, q_nle411, q_mul2, q_lmul2, q_mul3, q_lmul3, q_mul5, q_lmul5, q_mul6, q_lmul6, q_mul10, q_lmul10, q_add1, q_ladd1, q_add2, q_ladd2, q_add3, q_ladd3, q_add5, q_ladd5, q_add6, q_ladd6, q_add100, q_ladd100, q_div2, q_rem2, q_div3, q_rem3, q_div6, q_rem6, q_div10, q_rem10, h2, er1]
  · rintro q n i s hi ⟨k, hk, hk2, hk3⟩
    show g_X3_judgeRow_17 22 o1 fm q μ _ s (nI i) (nI T) = _
    unfold g_X3_judgeRow_17
    simp (disch := omega) only [lt_k, bnv_s, bnd_s, grd_t, q_in, q_inb, q_c, q_leT, q_leF, q_ltT, q_ltF, q_neg, q_nn, q_z, q_le0, q_b0, q_b1, nI_add, nI_0, q_off, q_self, q_oth, cst_2, st_2, ↓reduceIte, f_X8_cellAt, f_X8_roadAt, q_le1, q_nle1, q_le2, q_nle2, q_le5, q_nle5, q_le6, q_nle6, q_le8, q_nle8, q_le12, q_nle12, q_le25, q_nle25, q_le36, q_nle36, q_le60, q_nle60, q_le99, q_nle99, q_le100, q_nle100, q_le300, q_nle300, q_le640, q_nle640, q_le411, q_nle411, q_mul2, q_lmul2, q_mul3, q_lmul3, q_mul5, q_lmul5, q_mul6, q_lmul6, q_mul10, q_lmul10, q_add1, q_ladd1, q_add2, q_ladd2, q_add3, q_ladd3, q_add5, q_ladd5, q_add6, q_ladd6, q_add100, q_ladd100, q_div2, q_rem2, q_div3, q_rem3, q_div6, q_rem6, q_div10, q_rem10, h2]
  · rintro i j s hi hj hT2 ⟨k, hk, hk2, hk3⟩
    refine ⟨k, hk, by omega, ?_⟩
    have e36 : 36 - (6 * i + j) = (36 - (6 * i + j + 1)) + 1 := by omega
    rw [e36] at hk3
    unfold t_jd at hk3
    rw [if_neg (by omega)] at hk3
    exact hk3
  · rintro n s ⟨k, hk, hk2, hk3⟩
    show g_X3_judgeRow_5 22 o1 fm μ _ s (nI S) = _
    unfold g_X3_judgeRow_5
    simp (disch := omega) only [lt_k, bnv_s, bnd_s, grd_t, q_in, q_inb, q_c, q_leT, q_leF, q_ltT, q_ltF, q_neg, q_nn, q_z, q_le0, q_b0, q_b1, nI_add, nI_0, q_off, q_self, q_oth, cst_2, st_2, ↓reduceIte, f_X8_cellAt, f_X8_roadAt, q_le1, q_nle1, q_le2, q_nle2, q_le5, q_nle5, q_le6, q_nle6, q_le8, q_nle8, q_le12, q_nle12, q_le25, q_nle25, q_le36, q_nle36, q_le60, q_nle60, q_le99, q_nle99, q_le100, q_nle100, q_le300, q_nle300, q_le640, q_nle640, q_le411, q_nle411, q_mul2, q_lmul2, q_mul3, q_lmul3, q_mul5, q_lmul5, q_mul6, q_lmul6, q_mul10, q_lmul10, q_add1, q_ladd1, q_add2, q_ladd2, q_add3, q_ladd3, q_add5, q_ladd5, q_add6, q_ladd6, q_add100, q_ladd100, q_div2, q_rem2, q_div3, q_rem3, q_div6, q_rem6, q_div10, q_rem10, h1]
    rw [← hk3]
    have tail : ∀ d c, 6 * S ≤ c → c + d = 36 → t_jd fm sz S T row ld d c k = -5 := by
      intro d
      induction d with
      | zero => intro c _ _; rfl
      | succ d ih =>
        intro c h1 h2
        unfold t_jd
        rw [if_neg (by omega)]
        exact ih (c + 1) (by omega) (by omega)
    rw [tail _ _ (Nat.le_refl _) (by omega)]
theorem x9_judge {S T sz t : Nat} {row : Nat → Int64} {ld : Nat → Int32} {μ : Mem} (fm : Int32) (ht : t < 6) (h1 : μ.1 122 7 = nI S) (h2 : μ.1 122 8 = nI T) (hS : S ≤ 6) (hT : T ≤ 6) (hsz : μ.1 158 t = nI sz) (hs : sz ≤ 60) (hl : ∀ c, c < 36 → μ.1 128 c = ld c) (hr : ∀ i, i < 60 → μ.2 (151 + t) i = row i) :
    f_X9_judge_46 (nI t) fm μ FU 0 0 = some (t_jd fm sz S T row ld 36 0 0) := by
  refine q_loop0 (fun n c (s : Int32) => f_X9_judge_46 (nI t) fm μ n s (nI c)) 36 (by omega) (fun c s => ∃ k, s = nI k ∧ k ≤ c ∧ t_jd fm sz S T row ld (36 - c) c k = t_jd fm sz S T row ld 36 0 0) (fun z => z = some (t_jd fm sz S T row ld 36 0 0)) ?_ ?_ 0 ⟨0, rfl, Nat.le_refl _, rfl⟩
  · rintro n c s hc ⟨k, rfl, hk2, hk3⟩
    have e36 : 36 - c = (36 - (c + 1)) + 1 := by omega
    rw [e36] at hk3
    unfold t_jd at hk3
    have hin := x9_inPlan h1 h2 hS hT hc
    have ej : ∀ s', g_X9_judge_46 (nI t) fm μ (f_X9_judge_46 (nI t) fm μ n) (nI k) (nI c) = s' → f_X9_judge_46 (nI t) fm μ (n + 1) (nI k) (nI c) = s' := fun _ h => h
    by_cases hp : c / 6 < S ∧ c % 6 < T
    · rw [if_pos hp] at hk3 hin
      have esub : (nI sz - nI k).toInt = (sz : Int) - k := by
        rw [Int32.toInt_sub, nI_i (by omega), nI_i (by omega)]; apply Int.bmod_eq_of_le <;> omega
      by_cases ok : 0 ≤ fm.toInt ∧ k + 1 + fm.toInt ≤ sz
      · rw [if_pos ok] at hk3
        obtain ⟨f1, f2⟩ := fm_add hs ok
        have n1 : (fm < 0) = False := eq_false (by rw [i_lt, show (0 : Int32).toInt = 0 from rfl]; omega)
        have n2 : (fm < nI sz - nI k) = True := eq_true (by rw [i_lt, esub]; omega)
        by_cases em : row (fm.toInt.toNat + k) = Int32.toInt64 (ld c)
        · right
          rw [if_pos em] at hk3
          refine ⟨nI (k + 1), ⟨k + 1, rfl, by omega, hk3⟩, ej _ ?_⟩
          unfold g_X9_judge_46
          have e0 : (lg_cmp (row (fm.toInt.toNat + k)) (Int32.toInt64 (ld c)) = 0) = True := eq_true (lg_0.mpr em)
          simp (disch := omega) only [lt_k, bnv_s, bnd_s, grd_t, q_in, q_inb, q_c, q_leT, q_leF, q_ltT, q_ltF, q_neg, q_nn, q_z, q_le0, q_b0, q_b1, nI_add, nI_0, q_off, q_self, q_oth, cst_2, st_2, ↓reduceIte, f_X8_cellAt, f_X8_roadAt, q_le1, q_nle1, q_le2, q_nle2, q_le5, q_nle5, q_le6, q_nle6, q_le8, q_nle8, q_le12, q_nle12, q_le25, q_nle25, q_le36, q_nle36, q_le60, q_nle60, q_le99, q_nle99, q_le100, q_nle100, q_le300, q_nle300, q_le640, q_nle640, q_le411, q_nle411, q_mul2, q_lmul2, q_mul3, q_lmul3, q_mul5, q_lmul5, q_mul6, q_lmul6, q_mul10, q_lmul10, q_add1, q_ladd1, q_add2, q_ladd2, q_add3, q_ladd3, q_add5, q_ladd5, q_add6, q_ladd6, q_add100, q_ladd100, q_div2, q_rem2, q_div3, q_rem3, q_div6, q_rem6, q_div10, q_rem10, hin, q_10, n1, hsz, n2, f1, hr, hl, e0]
        · left
          rw [if_neg em] at hk3
          refine (ej _ ?_).trans (congrArg some hk3)
          unfold g_X9_judge_46
          have e0 : (lg_cmp (row (fm.toInt.toNat + k)) (Int32.toInt64 (ld c)) = 0) = False := eq_false (fun h => em (lg_0.mp h))
          simp (disch := omega) only [lt_k, bnv_s, bnd_s, grd_t, q_in, q_inb, q_c, q_leT, q_leF, q_ltT, q_ltF, q_neg, q_nn, q_z, q_le0, q_b0, q_b1, nI_add, nI_0, q_off, q_self, q_oth, cst_2, st_2, ↓reduceIte, f_X8_cellAt, f_X8_roadAt, q_le1, q_nle1, q_le2, q_nle2, q_le5, q_nle5, q_le6, q_nle6, q_le8, q_nle8, q_le12, q_nle12, q_le25, q_nle25, q_le36, q_nle36, q_le60, q_nle60, q_le99, q_nle99, q_le100, q_nle100, q_le300, q_nle300, q_le640, q_nle640, q_le411, q_nle411, q_mul2, q_lmul2, q_mul3, q_lmul3, q_mul5, q_lmul5, q_mul6, q_lmul6, q_mul10, q_lmul10, q_add1, q_ladd1, q_add2, q_ladd2, q_add3, q_ladd3, q_add5, q_ladd5, q_add6, q_ladd6, q_add100, q_ladd100, q_div2, q_rem2, q_div3, q_rem3, q_div6, q_rem6, q_div10, q_rem10, hin, q_10, n1, hsz, n2, f1, hr, hl, e0]
      · left
        rw [if_neg ok] at hk3
        refine (ej _ ?_).trans (congrArg some hk3)
        unfold g_X9_judge_46
        by_cases n1 : fm < 0
        · simp (disch := omega) only [lt_k, bnv_s, bnd_s, grd_t, q_in, q_inb, q_c, q_leT, q_leF, q_ltT, q_ltF, q_neg, q_nn, q_z, q_le0, q_b0, q_b1, nI_add, nI_0, q_off, q_self, q_oth, cst_2, st_2, ↓reduceIte, f_X8_cellAt, f_X8_roadAt, q_le1, q_nle1, q_le2, q_nle2, q_le5, q_nle5, q_le6, q_nle6, q_le8, q_nle8, q_le12, q_nle12, q_le25, q_nle25, q_le36, q_nle36, q_le60, q_nle60, q_le99, q_nle99, q_le100, q_nle100, q_le300, q_nle300, q_le640, q_nle640, q_le411, q_nle411, q_mul2, q_lmul2, q_mul3, q_lmul3, q_mul5, q_lmul5, q_mul6, q_lmul6, q_mul10, q_lmul10, q_add1, q_ladd1, q_add2, q_ladd2, q_add3, q_ladd3, q_add5, q_ladd5, q_add6, q_ladd6, q_add100, q_ladd100, q_div2, q_rem2, q_div3, q_rem3, q_div6, q_rem6, q_div10, q_rem10, hin, q_10, n1]
        · have n2 : (fm < nI sz - nI k) = False := eq_false (by rw [i_lt, esub]; rw [i_lt, show (0 : Int32).toInt = 0 from rfl] at n1; omega)
          simp (disch := omega) only [lt_k, bnv_s, bnd_s, grd_t, q_in, q_inb, q_c, q_leT, q_leF, q_ltT, q_ltF, q_neg, q_nn, q_z, q_le0, q_b0, q_b1, nI_add, nI_0, q_off, q_self, q_oth, cst_2, st_2, ↓reduceIte, f_X8_cellAt, f_X8_roadAt, q_le1, q_nle1, q_le2, q_nle2, q_le5, q_nle5, q_le6, q_nle6, q_le8, q_nle8, q_le12, q_nle12, q_le25, q_nle25, q_le36, q_nle36, q_le60, q_nle60, q_le99, q_nle99, q_le100, q_nle100, q_le300, q_nle300, q_le640, q_nle640, q_le411, q_nle411, q_mul2, q_lmul2, q_mul3, q_lmul3, q_mul5, q_lmul5, q_mul6, q_lmul6, q_mul10, q_lmul10, q_add1, q_ladd1, q_add2, q_ladd2, q_add3, q_ladd3, q_add5, q_ladd5, q_add6, q_ladd6, q_add100, q_ladd100, q_div2, q_rem2, q_div3, q_rem3, q_div6, q_rem6, q_div10, q_rem10, hin, q_10, n1, hsz, n2]
    · right
      rw [if_neg hp] at hk3 hin
      refine ⟨nI k, ⟨k, rfl, by omega, hk3⟩, ej _ ?_⟩
      unfold g_X9_judge_46
      simp (disch := omega) only [lt_k, bnv_s, bnd_s, grd_t, q_in, q_inb, q_c, q_leT, q_leF, q_ltT, q_ltF, q_neg, q_nn, q_z, q_le0, q_b0, q_b1, nI_add, nI_0, q_off, q_self, q_oth, cst_2, st_2, ↓reduceIte, f_X8_cellAt, f_X8_roadAt, q_le1, q_nle1, q_le2, q_nle2, q_le5, q_nle5, q_le6, q_nle6, q_le8, q_nle8, q_le12, q_nle12, q_le25, q_nle25, q_le36, q_nle36, q_le60, q_nle60, q_le99, q_nle99, q_le100, q_nle100, q_le300, q_nle300, q_le640, q_nle640, q_le411, q_nle411, q_mul2, q_lmul2, q_mul3, q_lmul3, q_mul5, q_lmul5, q_mul6, q_lmul6, q_mul10, q_lmul10, q_add1, q_ladd1, q_add2, q_ladd2, q_add3, q_ladd3, q_add5, q_ladd5, q_add6, q_ladd6, q_add100, q_ladd100, q_div2, q_rem2, q_div3, q_rem3, q_div6, q_rem6, q_div10, q_rem10, hin]
  · rintro n s ⟨k, hk, hk2, hk3⟩
    show g_X9_judge_46 (nI t) fm μ _ s (nI 36) = _
    unfold g_X9_judge_46
    simp (disch := omega) only [lt_k, bnv_s, bnd_s, grd_t, q_in, q_inb, q_c, q_leT, q_leF, q_ltT, q_ltF, q_neg, q_nn, q_z, q_le0, q_b0, q_b1, nI_add, nI_0, q_off, q_self, q_oth, cst_2, st_2, ↓reduceIte, f_X8_cellAt, f_X8_roadAt, q_le1, q_nle1, q_le2, q_nle2, q_le5, q_nle5, q_le6, q_nle6, q_le8, q_nle8, q_le12, q_nle12, q_le25, q_nle25, q_le36, q_nle36, q_le60, q_nle60, q_le99, q_nle99, q_le100, q_nle100, q_le300, q_nle300, q_le640, q_nle640, q_le411, q_nle411, q_mul2, q_lmul2, q_mul3, q_lmul3, q_mul5, q_lmul5, q_mul6, q_lmul6, q_mul10, q_lmul10, q_add1, q_ladd1, q_add2, q_ladd2, q_add3, q_ladd3, q_add5, q_ladd5, q_add6, q_ladd6, q_add100, q_ladd100, q_div2, q_rem2, q_div3, q_rem3, q_div6, q_rem6, q_div10, q_rem10, lt_k]
    rw [← hk3]
    rfl
theorem st_judge {μ : Mem} (hv : Inv μ) (a1 : Int32) (a2 : Int32) : ∃ r, f_X8_judge a1 a2 μ = some r ∧ f_X9_judge a1 a2 μ = some r := by
  unfold f_X8_judge f_X9_judge
  have n10 : ¬ ((1 : Int32) = 0) := by decide
  rcases tape_cases a1 with ⟨t, ht, rfl, t8, t9⟩ | ⟨t8, t9⟩
  · rw [t8, t9, bnv_s, bnv_s, if_neg n10, if_neg n10]
    rcases plan_both hv with ⟨p0, q0⟩ | ⟨D, hD, hX, hM, p0, q0, ok, xr, mr⟩
    · exact ⟨-3, by rw [if_pos p0], by rw [if_pos q0]⟩
    · obtain ⟨h1, h2, h3, h4, ⟨n, h5, h6, h7⟩, h8⟩ := hv.2.2.2 t ht
      rw [h6] at h2
      have hS := ok.1.2.1
      have hT := ok.1.2.2.2.1
      have e8 := x3_judge (S := g_S D.1) (T := g_T D.1) (sz := n) (o1 := 2 + 2 * t) (row := μ.2 (151 + t)) (ld := D.2.2.1.2.1) (μ := μ) a2 xr.1 xr.2.1 hS hT h2 h5 xr.2.2.2.1 (fun i hi => by rw [show 2 + 2 * t + 1 = 3 + 2 * t by omega]; exact h8 i hi)
      have e9 := x9_judge (t := t) (row := μ.2 (151 + t)) (ld := D.2.2.1.2.1) (μ := μ) a2 ht mr.1 mr.2.1 hS hT h6 h5 mr.2.2.2.1 (fun i hi => rfl)
      rw [if_neg (show ¬ μ.1 22 0 = 0 by rw [p0]; exact n10), if_neg (show ¬ μ.1 122 6 = 0 by rw [q0]; exact n10), q_in ht (by omega), q_in ht (by omega), nI_c (by omega), h1, q_in ht (by omega)]
      by_cases s3 : μ.1 157 t = 3
      · refine ⟨_, by rw [if_pos s3, e8, bnv_s], by rw [if_neg (show ¬ μ.1 157 t < 0 by rw [s3]; decide), if_pos s3, e9]⟩
      · by_cases s1 : μ.1 157 t = -1
        · refine ⟨_, by rw [if_neg s3, if_pos s1, e8, bnv_s], by rw [if_pos ((srt_neg h3).mp s1), e9]⟩
        · exact ⟨-12, by rw [if_neg s3, if_neg s1], by rw [if_neg (fun h => s1 ((srt_neg h3).mpr h)), if_neg s3]⟩
  · exact ⟨_, by rw [t8, bnv_s, if_pos rfl], by rw [t9, bnv_s, if_pos rfl]⟩
