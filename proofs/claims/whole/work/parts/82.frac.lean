/-! THE CALLS: mean (and fractions in their lowest terms) */ -/
theorem v_div {a b : Nat} (ha : a < 2147483648) (hb : b < 2147483648) : nI a / nI b = nI (a / b) := by
  have h := Nat.div_le_self a b
  rw [i_eq, nI_i (by omega), Int32.toInt_div, nI_i ha, nI_i hb]
  rw [show (a : Int).tdiv (b : Int) = ((a / b : Nat) : Int) from rfl]
  generalize a / b = q at h ⊢
  exact Int.bmod_eq_of_le (by omega) (by omega)
theorem v_rem {a b : Nat} (ha : a < 2147483648) (hb : b < 2147483648) : rm32 (nI a) (nI b) = nI (a % b) := by
  unfold rm32
  rw [v_div ha hb, show nI (a / b) * nI b = nI (a / b * b) from (Int32.ofNat_mul _ _).symm]
  have e : nI a = nI (a % b) + nI (a / b * b) := by
    rw [nI_add]; congr 1
    have := Nat.mod_add_div a b
    rw [Nat.mul_comm b (a / b)] at this
    omega
  rw [e, Int32.add_sub_cancel]
def nL (a : Nat) : Int64 := Int32.toInt64 (nI a)
theorem nL_i {a : Nat} (h : a < 2147483648) : (nL a).toInt = a := by unfold nL; rw [Int32.toInt_toInt64, nI_i h]
theorem v_divL {a b : Nat} (ha : a < 2147483648) (hb : b < 2147483648) : nL a / nL b = nL (a / b) := by
  have h := Nat.div_le_self a b
  apply Int64.toInt_inj.mp
  rw [nL_i (by omega), Int64.toInt_div, nL_i ha, nL_i hb]
  rw [show (a : Int).tdiv (b : Int) = ((a / b : Nat) : Int) from rfl]
  generalize a / b = q at h ⊢
  exact Int.bmod_eq_of_le (by omega) (by omega)
theorem v_remL {a b : Nat} (ha : a < 2147483648) (hb : b < 2147483648) : rm64 (nL a) (nL b) = nL (a % b) := by
  unfold rm64
  rw [v_divL ha hb]
  have h := Nat.div_mul_le_self a b
  have h2 := Nat.mod_le a b
  have h3 := Nat.div_le_self a b
  have e1 : (nL (a / b) * nL b).toInt = ((a / b * b : Nat) : Int) := by
    rw [Int64.toInt_mul, nL_i (by omega), nL_i hb]
    rw [show ((a / b : Nat) : Int) * (b : Int) = ((a / b * b : Nat) : Int) from (Int.natCast_mul _ _).symm]
    exact Int.bmod_eq_of_le (by omega) (by omega)
  apply Int64.toInt_inj.mp
  rw [Int64.toInt_sub, e1, nL_i ha, nL_i (by omega)]
  have := Nat.mod_add_div a b
  rw [Nat.mul_comm b (a / b)] at this
  rw [Int.bmod_eq_of_le (by omega) (by omega)]
  omega
theorem v_half {b r : Nat} (h0 : 0 < r) (hr : r < b) {k : Nat} (hk : b < 2 ^ (k + 1)) : b % r < 2 ^ k := by
  rw [Nat.pow_succ] at hk
  by_cases q : 2 * r ≤ b
  · have := Nat.mod_lt b h0
    omega
  · have e : b % r = b - r := by
      rw [Nat.mod_eq_sub_mod (by omega), Nat.mod_eq_of_lt (by omega)]
    omega
theorem v_gcd {a b : Nat} : Nat.gcd b (a % b) = Nat.gcd a b := by
  rw [Nat.gcd_comm b (a % b), ← Nat.gcd_rec, Nat.gcd_comm]
theorem x8_common (μ : Mem) : ∀ k a b i n : Nat, b < 2 ^ k → k ≤ 31 → a < 2147483648 → b < 2147483648 → i + 2 * k < 100 → 2 * k < n → f_X8_commonDivisor_2 μ n (nI a) (nI b) (nI i) = some (nI (Nat.gcd a b)) := by
  have z : ∀ a i n : Nat, i < 100 → 0 < n → f_X8_commonDivisor_2 μ n (nI a) (nI 0) (nI i) = some (nI (Nat.gcd a 0)) := by
    intro a i n hi hn
    obtain ⟨n, rfl⟩ : ∃ m, n = m + 1 := ⟨n - 1, by omega⟩
    show g_X8_commonDivisor_2 μ _ (nI a) (nI 0) (nI i) = _
    unfold g_X8_commonDivisor_2
    rw [if_neg (show ¬ (100 : Int32) ≤ nI i from fun q => by rw [q_nle100 hi] at q; exact q), if_pos nI_0, Nat.gcd_zero_right]
  have s : ∀ a b i n : Nat, i < 100 → 0 < b → a < 2147483648 → b < 2147483648 → f_X8_commonDivisor_2 μ (n + 1) (nI a) (nI b) (nI i) = f_X8_commonDivisor_2 μ n (nI b) (nI (a % b)) (nI (i + 1)) := by
    intro a b i n hi h0 ha hb
    show g_X8_commonDivisor_2 μ _ (nI a) (nI b) (nI i) = _
    unfold g_X8_commonDivisor_2
    have hz := nI_ne0 h0 hb
    rw [if_neg (show ¬ (100 : Int32) ≤ nI i from fun q => by rw [q_nle100 hi] at q; exact q), if_neg hz, decide_eq_true hz, grd_t, lt_k, lt_k, v_rem ha hb, q_add1]
  intro k
  induction k with
  | zero =>
    intro a b i n hb _ _ _ hi hn
    have : b = 0 := by rw [Nat.pow_zero] at hb; omega
    subst this
    exact z a i n (by omega) (by omega)
  | succ k ih =>
    intro a b i n hb hk ha hb2 hi hn
    by_cases b0 : b = 0
    · subst b0
      exact z a i n (by omega) (by omega)
    · obtain ⟨n, rfl⟩ : ∃ m, n = m + 2 := ⟨n - 2, by omega⟩
      have hr := Nat.mod_lt a (show b > 0 by omega)
      rw [show n + 2 = (n + 1) + 1 from rfl, s a b i (n + 1) (by omega) (by omega) ha hb2, ← v_gcd (a := a)]
      by_cases r0 : a % b = 0
      · rw [r0]
        exact z b (i + 1) (n + 1) (by omega) (by omega)
      · rw [s b (a % b) (i + 1) n (by omega) (by omega) hb2 (by omega), ← v_gcd (a := b)]
        have hlt := Nat.mod_lt b (show a % b > 0 by omega)
        exact ih (a % b) (b % (a % b)) (i + 1 + 1) n (v_half (by omega) hr hb) (by omega) (by omega) (by omega) (by omega) (by omega)
theorem x9_lowest (x0 x2 : Int64) (x4 : Int32) (μ : Mem) : ∀ k a b n : Nat, b < 2 ^ k → k ≤ 31 → a < 2147483648 → b < 2147483648 → 0 < Nat.gcd a b → Nat.gcd a b < 2147483648 → 2 * k < n → f_X9_lowest_6 x0 x2 x4 μ n (nL a) (nL b) = some (if x4 = 0 then x0 / nL (Nat.gcd a b) else x2 / nL (Nat.gcd a b)) := by
  have ne : ∀ g : Nat, 0 < g → g < 2147483648 → ¬ nL g = 0 := by
    intro g h0 h q
    have := congrArg Int64.toInt q
    rw [nL_i h, show (0 : Int64).toInt = 0 from rfl] at this
    omega
  have z : ∀ a n : Nat, 0 < Nat.gcd a 0 → Nat.gcd a 0 < 2147483648 → 0 < n → f_X9_lowest_6 x0 x2 x4 μ n (nL a) (nL 0) = some (if x4 = 0 then x0 / nL (Nat.gcd a 0) else x2 / nL (Nat.gcd a 0)) := by
    intro a n h0 h hn
    obtain ⟨n, rfl⟩ : ∃ m, n = m + 1 := ⟨n - 1, by omega⟩
    show g_X9_lowest_6 x0 x2 x4 μ _ (nL a) (nL 0) = _
    unfold g_X9_lowest_6
    rw [Nat.gcd_zero_right] at h0 h ⊢
    have hz := ne a h0 h
    rw [if_pos (lg_0.mpr (show nL 0 = 0 by decide)), decide_eq_true hz, grd_t, grd_t]
    by_cases q : x4 = 0
    · rw [if_pos q, if_pos q]
    · rw [if_neg q, if_neg q]
  have s : ∀ a b n : Nat, 0 < b → a < 2147483648 → b < 2147483648 → f_X9_lowest_6 x0 x2 x4 μ (n + 1) (nL a) (nL b) = f_X9_lowest_6 x0 x2 x4 μ n (nL b) (nL (a % b)) := by
    intro a b n h0 ha hb
    show g_X9_lowest_6 x0 x2 x4 μ _ (nL a) (nL b) = _
    unfold g_X9_lowest_6
    have hz := ne b h0 hb
    rw [if_neg (fun q => hz (lg_0.mp q)), decide_eq_true hz, grd_t, lt_k, v_remL ha hb]
  intro k
  induction k with
  | zero =>
    intro a b n hb _ _ _ g0 g1 hn
    have : b = 0 := by rw [Nat.pow_zero] at hb; omega
    subst this
    exact z a n g0 g1 (by omega)
  | succ k ih =>
    intro a b n hb hk ha hb2 g0 g1 hn
    by_cases b0 : b = 0
    · subst b0
      exact z a n g0 g1 (by omega)
    · obtain ⟨n, rfl⟩ : ∃ m, n = m + 2 := ⟨n - 2, by omega⟩
      have hr := Nat.mod_lt a (show b > 0 by omega)
      rw [show n + 2 = (n + 1) + 1 from rfl, s a b (n + 1) (by omega) ha hb2]
      rw [← v_gcd (a := a)] at g0 g1 ⊢
      by_cases r0 : a % b = 0
      · rw [r0] at g0 g1 ⊢
        exact z b (n + 1) g0 g1 (by omega)
      · rw [s b (a % b) n (by omega) hb2 (by omega)]
        rw [← v_gcd (a := b)] at g0 g1 ⊢
        have hlt := Nat.mod_lt b (show a % b > 0 by omega)
        exact ih (a % b) (b % (a % b)) n (v_half (by omega) hr hb) (by omega) (by omega) (by omega) g0 g1 (by omega)
/-- a fraction in its lowest terms -/
theorem x_frac {a b : Nat} (ha : a < 2147483648) (hb : b < 2147483648) (h0 : 0 < b) (x : Int32) (μ μ' : Mem) : ∃ r, f_X8_fractionPart (nI a) (nI b) x μ = some r ∧ f_X9_lowest (Int32.toInt64 (nI a)) (Int32.toInt64 (nI b)) x μ' = some r := by
  have g0 : 0 < Nat.gcd a b := Nat.gcd_pos_of_pos_right a h0
  have g1 : Nat.gcd a b < 2147483648 := by
    have := Nat.gcd_le_right a h0
    omega
  have e8 := x8_common μ 31 a b 0 FU (by omega) (by omega) ha hb (by omega) (by unfold FU; omega)
  have e9 := x9_lowest (nL a) (nL b) x μ' 31 a b FU (by omega) (by omega) ha hb g0 g1 (by unfold FU; omega)
  refine ⟨if x = 0 then nL (a / Nat.gcd a b) else nL (b / Nat.gcd a b), ?_, ?_⟩
  · unfold f_X8_fractionPart f_X8_commonDivisor
    rw [show f_X8_commonDivisor_2 μ FU (nI a) (nI b) 0 = _ from e8, bnv_s, if_neg (nI_nle h0 hb), if_pos (by rw [Int32.lt_iff_toInt_lt, nI_i g1, show (0 : Int32).toInt = 0 from rfl]; omega), decide_eq_true (nI_ne0 g0 g1), grd_t, grd_t, v_div ha g1, v_div hb g1]
    by_cases q : x = 0
    · rw [if_pos q, if_pos q]; rfl
    · rw [if_neg q, if_neg q]; rfl
  · show f_X9_lowest_6 (nL a) (nL b) x μ' FU (nL a) (nL b) = _
    rw [e9, v_divL ha g1, v_divL hb g1]
theorem x_frac0 (x0 : Int32) {a : Nat} (ha : a < 2147483648) (h : x0 = nI a) (x : Int32) (μ : Mem) : f_X8_fractionPart x0 (nI 0) x μ = some (-9223372036854775808) := by
  have e8 := x8_common μ 31 a 0 0 FU (by omega) (by omega) ha (by omega) (by omega) (by unfold FU; omega)
  unfold f_X8_fractionPart f_X8_commonDivisor
  rw [h, show f_X8_commonDivisor_2 μ FU (nI a) (nI 0) 0 = _ from e8, bnv_s, if_pos (by decide)]
theorem x9_meanG (μ : Mem) (x : Int32) : f_X9_mean x μ = g_X9_mean_4 x μ (f_X9_mean_4 x μ 0) (i_sum (fun c => μ.1 128 c) 36) 36 := by
  unfold f_X9_mean
  refine q_loop0 (fun n i s => f_X9_mean_4 x μ n s (nI i)) 36 (by omega) (fun i s => s = i_sum (fun c => μ.1 128 c) i) (fun z => z = g_X9_mean_4 x μ (f_X9_mean_4 x μ 0) (i_sum (fun c => μ.1 128 c) 36) 36) (fun n i s hi hv => Or.inr ⟨i_sum (fun c => μ.1 128 c) (i + 1), rfl, ?_⟩) (fun n s hv => ?_) 0 rfl
  · show g_X9_mean_4 x μ _ s (nI i) = _
    unfold g_X9_mean_4
    simp (disch := omega) only [lt_k, bnv_s, bnd_s, grd_t, q_in, q_inb, q_c, q_leT, q_leF, q_ltT, q_ltF, q_neg, q_nn, q_z, q_le0, q_b0, q_b1, nI_add, nI_0, q_off, q_self, q_oth, cst_2, st_2, ↓reduceIte, f_X8_cellAt, f_X8_roadAt, q_le1, q_nle1, q_le2, q_nle2, q_le5, q_nle5, q_le6, q_nle6, q_le8, q_nle8, q_le12, q_nle12, q_le25, q_nle25, q_le36, q_nle36, q_le60, q_nle60, q_le99, q_nle99, q_le100, q_nle100, q_le300, q_nle300, q_le640, q_nle640, q_le411, q_nle411, q_mul2, q_lmul2, q_mul3, q_lmul3, q_mul5, q_lmul5, q_mul6, q_lmul6, q_mul10, q_lmul10, q_add1, q_ladd1, q_add2, q_ladd2, q_add3, q_ladd3, q_add5, q_ladd5, q_add6, q_ladd6, q_add100, q_ladd100, q_div2, q_rem2, q_div3, q_rem3, q_div6, q_rem6, q_div10, q_rem10, hv]
    rfl
  · show g_X9_mean_4 x μ _ s (nI 36) = _
    rw [hv]
    unfold g_X9_mean_4
    rw [if_pos (show (36 : Int32) ≤ nI 36 by decide), if_pos (show (36 : Int32) ≤ 36 by decide)]
theorem st_mean {μ : Mem} (hv : Inv μ) (a1 : Int32) : ∃ r, f_X8_mean a1 μ = some r ∧ f_X9_mean a1 μ = some r := by
  rcases plan_both hv with ⟨p0, q0⟩ | ⟨D, hD, hX, hM, p0, q0, ok, xr, mr⟩
  · refine ⟨-9223372036854775808, by unfold f_X8_mean; rw [if_pos p0], ?_⟩
    rw [x9_meanG]
    unfold g_X9_mean_4
    rw [if_pos (by decide), if_neg (by rw [q0]; decide)]
  · have e9 := x9_meanG μ a1
    rw [i_sum_eq (f := fun c => μ.1 128 c) (g := D.2.2.1.2.1) 36 (fun c hc => mr.2.2.2.1 c hc)] at e9
    unfold g_X9_mean_4 at e9
    rw [if_pos (show (36 : Int32) ≤ 36 by decide), if_pos q0] at e9
    have tt := t_tot_nn ok
    obtain ⟨a, ha, ea⟩ := nI_ex (x := t_tot (g_cost D.1) D.2.2.1) (N := 36 * 660000 + 1) tt.1 (by omega)
    have sb := i_sum_bd (f := D.2.2.1.2.1) (m := 600) (by omega) (by omega) 36 (by omega) (fun c hc => t_ok_ld ok c hc)
    obtain ⟨b, hb, eb⟩ := nI_ex (x := i_sum D.2.2.1.2.1 36) (N := 36 * 600 + 1) sb.1 (by omega)
    have e8 : f_X3_allLoads 22 μ = some (nI b) := by
      rw [x3_allLoads xr.1 xr.2.1 ok.1.2.1 ok.1.2.2.2.1, ← eb]
      refine congrArg some (i_sum_eq 36 (fun c hc => ?_))
      unfold i_in
      by_cases q : c / 6 < g_S D.1 ∧ c % 6 < g_T D.1
      · rw [if_pos q]; exact xr.2.2.2.1 c hc
      · rw [if_neg q]; exact (t_out0 ok hc q).symm
    unfold f_X8_mean
    rw [if_neg (by rw [p0]; decide), u8_1, bnv_s]
    rw [i9_1, bnv_s, eb] at e9
    rw [e9]
    by_cases h1 : inR a1 0 1 = true
    · rw [h1, b2i_t, if_neg (by decide), x3_total' ok xr, bnv_s, e8, bnv_s]
      by_cases b0 : b = 0
      · subst b0
        rw [x_frac0 _ (by omega) ea, bnv_s]
        exact ⟨_, rfl, by rw [if_pos (by decide)]⟩
      · obtain ⟨r, t1, t2⟩ := x_frac (a := a) (b := b) (by omega) (by omega) (by omega) a1 μ μ
        refine ⟨r, by rw [ea, t1, bnv_s], ?_⟩
        rw [if_neg (nI_nle (by omega) (by omega)), if_neg (by decide), x9_total' ok mr, bnv_s, ea, t2, bnv_s]
    · rw [ff_t h1, b2i_f, if_pos rfl]
      refine ⟨_, rfl, ?_⟩
      by_cases b0 : b = 0
      · subst b0
        rw [if_pos (by decide)]
      · rw [if_neg (nI_nle (by omega) (by omega)), if_pos rfl]
