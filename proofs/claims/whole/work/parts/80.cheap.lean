/-! THE CALLS: cheapest */ -/
def g_sv (G : TG) (i : Nat) (v : Int32) : Prop := ∃ f s', t_srun (nI i) (g_cost G) f (g_st G) s' ∧ t_ok (g_S G) (g_T G) (g_cost G) (t_A0 s') ∧ v = t_tot (g_cost G) (t_A0 s')
theorem g_sv_det {G : TG} {i : Nat} {v v' : Int32} (h : g_sv G i v) (h' : g_sv G i v') : v = v' := by
  obtain ⟨f, s, a, b, rfl⟩ := h
  obtain ⟨f', s', a', b', rfl⟩ := h'
  rw [t_srun_det f f' a a']
theorem g_sv_nn {G : TG} {i : Nat} {v : Int32} (h : g_sv G i v) : 0 ≤ v.toInt ∧ v.toInt ≤ 36 * 660000 := by
  obtain ⟨f, s, a, b, rfl⟩ := h
  exact t_tot_nn b
theorem x3_sv {G : TG} {μ : Mem} (hX : XG 15 G μ) (hG : g_ok G) (hQ : 0 < G.1) (hW : 0 < G.2.1) (i : Nat) : ∃ v μ', f_X3_startOn 102 15 (nI i) μ = some μ' ∧ fr (KB 102) μ μ' ∧ f_X3_total 102 μ' = some v ∧ g_sv G i v := by
  obtain ⟨m1, s', e1, f1, ⟨f, hr⟩, ok, m0, x1⟩ := x3_startOn (k := 102) (g := 15) (nI i) hX hG hQ hW (by omega)
  exact ⟨_, m1, e1, f1, x3_total' ok x1, f, s', hr, ok, rfl⟩
theorem x9_sv {G : TG} {μ : Mem} (hM : MG G μ) (hG : g_ok G) (hQ : 0 < G.1) (hW : 0 < G.2.1) (i : Nat) : ∃ v μ', f_X9_starts (nI i) μ = some μ' ∧ fr SA μ μ' ∧ f_X9_total μ' = some v ∧ g_sv G i v := by
  obtain ⟨m2, s2, e2, f2, ⟨f', hr'⟩, ok2, x2, -⟩ := x9_starts (nI i) hM hG hQ hW
  exact ⟨_, m2, e2, f2, x9_total' ok2 x2, f', s2, hr', ok2, rfl⟩
def c_ch (v : Nat → Int32) : Nat → Nat
  | 0 => 0
  | k + 1 => if v k < v (c_ch v k) then k else c_ch v k
theorem q_2lt {i : Nat} (h : i < 3) : ¬ (2 : Int32) < nI i := by
  rw [Int32.lt_iff_toInt_lt, nI_i (by omega), show (2 : Int32).toInt = 2 from rfl]; omega
theorem c_ch_lt (v : Nat → Int32) : ∀ k, c_ch v k ≤ k
  | 0 => Nat.le_refl _
  | k + 1 => by
    unfold c_ch
    have := c_ch_lt v k
    by_cases z : v k < v (c_ch v k)
    · rw [if_pos z]; omega
    · rw [if_neg z]; omega
theorem x8_cheapS {G : TG} {μ : Mem} (hX : XG 15 G μ) (hG : g_ok G) (hQ : 0 < G.1) (hW : 0 < G.2.1) {v : Nat → Int32} (hv : ∀ i, g_sv G i (v i)) : ∃ μ', f_X8_cheapestStart μ = some (nI (c_ch v 3), μ') ∧ fr (KB 102) μ μ' := by
  unfold f_X8_cheapestStart
  refine q_loop0 (fun n i (s : Int32 × Int32 × Mem) => f_X8_cheapestStart_7 n s.1 s.2.1 (nI i) s.2.2) 3 (by omega)
    (fun i s => fr (KB 102) μ s.2.2 ∧ ((i = 0 ∧ s.1 = -5) ∨ (0 < i ∧ s.1 = nI (c_ch v i) ∧ s.2.1 = v (c_ch v i))))
    (fun z => ∃ μ', z = some (nI (c_ch v 3), μ') ∧ fr (KB 102) μ μ') ?_ ?_ (-5, 0, μ) ⟨fr_refl _ _, Or.inl ⟨rfl, rfl⟩⟩
  · rintro n i ⟨x1, x2, m⟩ hi ⟨f, h⟩
    change fr (KB 102) μ m at f
    right
    obtain ⟨w, m1, e1, f1, t1, s1⟩ := x3_sv (XG_fr hX f (fun c j p q => by unfold KB; omega)) hG hQ hW i
    have hw := g_sv_det s1 (hv i)
    subst hw
    rcases h with ⟨rfl, a⟩ | ⟨a, b, c⟩
    · change x1 = -5 at a
      refine ⟨(nI 0, v 0, m1), ⟨fr_then f f1, Or.inr ⟨by omega, ?_, ?_⟩⟩, ?_⟩
      · show nI 0 = nI (if v 0 < v 0 then 0 else 0); rw [ite_self]
      · show v 0 = v (if v 0 < v 0 then 0 else 0); rw [ite_self]
      · show g_X8_cheapestStart_7 _ x1 x2 (nI 0) m = _
        unfold g_X8_cheapestStart_7
        rw [if_neg (q_2lt (by omega)), e1, bnv_s, t1, bnv_s, if_pos a, lt_k, q_add1]
    · change x1 = _ at b
      change x2 = _ at c
      have hne : ¬ x1 = -5 := by
        rw [b]; intro q
        have := c_ch_lt v i
        have := congrArg Int32.toInt q
        rw [nI_i (by omega)] at this
        have e5 : (-5 : Int32).toInt = -5 := by decide
        omega
      by_cases z : v i < v (c_ch v i)
      · refine ⟨(nI i, v i, m1), ⟨fr_then f f1, Or.inr ⟨by omega, ?_, ?_⟩⟩, ?_⟩
        · show nI i = nI (if v i < v (c_ch v i) then i else c_ch v i); rw [if_pos z]
        · show v i = v (if v i < v (c_ch v i) then i else c_ch v i); rw [if_pos z]
        · show g_X8_cheapestStart_7 _ x1 x2 (nI i) m = _
          unfold g_X8_cheapestStart_7
          rw [if_neg (q_2lt (by omega)), e1, bnv_s, t1, bnv_s, if_neg hne, if_neg (by rw [c]; exact Int32.not_le.mpr z), lt_k, q_add1]
      · refine ⟨(x1, x2, m1), ⟨fr_then f f1, Or.inr ⟨by omega, ?_, ?_⟩⟩, ?_⟩
        · show x1 = nI (if v i < v (c_ch v i) then i else c_ch v i); rw [if_neg z]; exact b
        · show x2 = v (if v i < v (c_ch v i) then i else c_ch v i); rw [if_neg z]; exact c
        · show g_X8_cheapestStart_7 _ x1 x2 (nI i) m = _
          unfold g_X8_cheapestStart_7
          rw [if_neg (q_2lt (by omega)), e1, bnv_s, t1, bnv_s, if_neg hne, if_pos (by rw [c]; exact Int32.not_lt.mp z), lt_k, q_add1]
  · rintro n ⟨x1, x2, m⟩ ⟨f, h⟩
    rcases h with ⟨a, -⟩ | ⟨a, b, c⟩
    · exact absurd a (by omega)
    · refine ⟨m, ?_, f⟩
      show g_X8_cheapestStart_7 _ x1 x2 (nI 3) m = _
      unfold g_X8_cheapestStart_7
      rw [if_pos (by decide)]
      change x1 = _ at b
      rw [b]
theorem x9_cheapS {G : TG} {μ : Mem} (hM : MG G μ) (hG : g_ok G) (hQ : 0 < G.1) (hW : 0 < G.2.1) {v : Nat → Int32} (hv : ∀ i, g_sv G i (v i)) : ∃ μ', f_X9_cheapestStart μ = some (nI (c_ch v 3), μ') ∧ fr ZA μ μ' := by
  unfold f_X9_cheapestStart
  obtain ⟨m1, e1, f1, mi⟩ := x9_minds μ
  rw [e1, bnv_s]
  have M1 := MG_fr hM f1 (fun c j q => by unfold DA; omega)
  refine q_loop0 (fun n i (s : Int32 × Int32 × Mem) => f_X9_cheapestStart_12 n s.1 s.2.1 (nI i) s.2.2) 3 (by omega)
    (fun i s => fr SA m1 s.2.2 ∧ ((i = 0 ∧ s.1 = 0 ∧ s.2.1 = 2147483647) ∨ (0 < i ∧ s.1 = nI (c_ch v i) ∧ s.2.1 = v (c_ch v i))))
    (fun z => ∃ μ', z = some (nI (c_ch v 3), μ') ∧ fr ZA μ μ') ?_ ?_ (0, 2147483647, m1) ⟨fr_refl _ _, Or.inl ⟨rfl, rfl, rfl⟩⟩
  · rintro n i ⟨x1, x2, m⟩ hi ⟨f, h⟩
    change fr SA m1 m at f
    right
    obtain ⟨w, m2, e2, f2, t2, s2⟩ := x9_sv (MG_fr M1 f (fun c j q => by unfold SA; omega)) hG hQ hW i
    have hw := g_sv_det s2 (hv i)
    subst hw
    have l3 : ¬ (3 : Int32) ≤ nI i := by
      rw [Int32.le_iff_toInt_le, nI_i (by omega), show (3 : Int32).toInt = 3 from rfl]; omega
    rcases h with ⟨rfl, a, b⟩ | ⟨a, b, c⟩
    · change x1 = 0 at a
      change x2 = 2147483647 at b
      have nn := (g_sv_nn (hv 0)).2
      have lt : v 0 < x2 := by rw [b, Int32.lt_iff_toInt_lt, show (2147483647 : Int32).toInt = 2147483647 from rfl]; omega
      refine ⟨(nI 0, v 0, m2), ⟨fr_then f f2, Or.inr ⟨by omega, ?_, ?_⟩⟩, ?_⟩
      · show nI 0 = nI (if v 0 < v 0 then 0 else 0); rw [ite_self]
      · show v 0 = v (if v 0 < v 0 then 0 else 0); rw [ite_self]
      · show g_X9_cheapestStart_12 _ x1 x2 (nI 0) m = _
        unfold g_X9_cheapestStart_12 f_X9_cheapestStart_35
        rw [if_neg l3, e2, bnv_s, t2, bnv_s, if_neg (Int32.not_le.mpr lt), bnv_s, lt_k, lt_k, q_add1]
        show f_X9_cheapestStart_12 n (nI 0) (if v 0 < x2 then v 0 else x2) _ m2 = _
        rw [if_pos lt]
    · change x1 = _ at b
      change x2 = _ at c
      by_cases z : v i < v (c_ch v i)
      · refine ⟨(nI i, v i, m2), ⟨fr_then f f2, Or.inr ⟨by omega, ?_, ?_⟩⟩, ?_⟩
        · show nI i = nI (if v i < v (c_ch v i) then i else c_ch v i); rw [if_pos z]
        · show v i = v (if v i < v (c_ch v i) then i else c_ch v i); rw [if_pos z]
        · show g_X9_cheapestStart_12 _ x1 x2 (nI i) m = _
          unfold g_X9_cheapestStart_12 f_X9_cheapestStart_35
          rw [if_neg l3, e2, bnv_s, t2, bnv_s, if_neg (by rw [c]; exact Int32.not_le.mpr z), bnv_s, lt_k, lt_k, q_add1]
          show f_X9_cheapestStart_12 n (nI i) (if v i < x2 then v i else x2) _ m2 = _
          rw [if_pos (by rw [c]; exact z)]
      · refine ⟨(x1, x2, m2), ⟨fr_then f f2, Or.inr ⟨by omega, ?_, ?_⟩⟩, ?_⟩
        · show x1 = nI (if v i < v (c_ch v i) then i else c_ch v i); rw [if_neg z]; exact b
        · show x2 = v (if v i < v (c_ch v i) then i else c_ch v i); rw [if_neg z]; exact c
        · show g_X9_cheapestStart_12 _ x1 x2 (nI i) m = _
          unfold g_X9_cheapestStart_12 f_X9_cheapestStart_35
          rw [if_neg l3, e2, bnv_s, t2, bnv_s, if_pos (by rw [c]; exact Int32.not_lt.mp z), bnv_s, lt_k, lt_k, q_add1]
          show f_X9_cheapestStart_12 n x1 (if v i < x2 then v i else x2) _ m2 = _
          rw [if_neg (by rw [c]; exact z)]
  · rintro n ⟨x1, x2, m⟩ ⟨f, h⟩
    change fr SA m1 m at f
    rcases h with ⟨a, -⟩ | ⟨a, b, c⟩
    · exact absurd a (by omega)
    · obtain ⟨m3, e3, f3⟩ := x9_forgets (MI_c mi (fr_c f (fun j => by unfold SA; omega))) (fr_trans f1 f (fun c j h => by unfold DA at h; unfold ZA; omega) (fun c j h => Or.inl (by unfold SA at h; unfold ZX; omega)))
      refine ⟨m3, ?_, f3⟩
      show g_X9_cheapestStart_12 _ x1 x2 (nI 3) m = _
      unfold g_X9_cheapestStart_12
      rw [if_pos (by decide), e3, bnv_s]
      change x1 = _ at b
      rw [b]
