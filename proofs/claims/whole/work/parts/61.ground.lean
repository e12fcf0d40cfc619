/-! THE PURE PART: the ground as data; how a start begins -/
abbrev TG : Type := Nat × Nat × (Nat → Int32) × (Nat → Int32) × (Nat → Int32) × (Nat → Int32)
def XG (g : Nat) (G : TG) (μ : Mem) : Prop := μ.1 g 0 = nI G.1 ∧ μ.1 g 1 = nI G.2.1 ∧ (∀ i, i < 5 → μ.1 (g + 1) i = G.2.2.1 i ∧ μ.1 (g + 2) i = G.2.2.2.1 i ∧ μ.1 (g + 3) i = G.2.2.1 (5 + i) ∧ μ.1 (g + 4) i = G.2.2.2.1 (5 + i)) ∧
  ∀ i, i < 25 → μ.1 (g + 5) i = G.2.2.2.2.1 i ∧ μ.1 (g + 6) i = G.2.2.2.2.2 i
def MG (G : TG) (μ : Mem) : Prop := μ.1 122 0 = nI G.1 ∧ μ.1 122 1 = nI G.2.1 ∧ (∀ i, i < 10 → μ.1 123 i = G.2.2.1 i ∧ μ.1 124 i = G.2.2.2.1 i) ∧ ∀ i, i < 25 → μ.1 125 i = G.2.2.2.2.1 i ∧ μ.1 126 i = G.2.2.2.2.2 i
def g_ok (G : TG) : Prop := G.1 ≤ 5 ∧ G.2.1 ≤ 5 ∧ (∀ i, i < 10 → 0 ≤ (G.2.2.1 i).toInt ∧ (G.2.2.1 i).toInt ≤ 100) ∧ (∀ i, i < 10 → 0 ≤ (G.2.2.2.1 i).toInt ∧ (G.2.2.2.1 i).toInt ≤ 9) ∧ (∀ i, i < 25 → 0 ≤ (G.2.2.2.2.1 i).toInt ∧ (G.2.2.2.2.1 i).toInt ≤ 3) ∧ ∀ i, i < 25 → 0 ≤ (G.2.2.2.2.2 i).toInt ∧ (G.2.2.2.2.2 i).toInt ≤ 99
def g_road (G : TG) (i j : Nat) : Int32 := if G.2.2.2.2.1 (5 * i + j) = 0 then G.2.2.2.2.2 (5 * i + j) else if G.2.2.2.2.1 (5 * i + j) = 1 then G.2.2.2.2.2 (5 * i + j) + G.2.2.2.1 i else if G.2.2.2.2.1 (5 * i + j) = 2 then 2 * (G.2.2.2.2.2 (5 * i + j) + G.2.2.2.1 i) + G.2.2.2.1 (5 + j) else 1000
def g_cost (G : TG) (c : Nat) : Int32 := if c / 6 < G.1 ∧ c % 6 < G.2.1 then g_road G (c / 6) (c % 6) else 0
theorem g_road_ok {G : TG} (h : g_ok G) {i j : Nat} (hi : i < 5) (hj : j < 5) : 0 ≤ (g_road G i j).toInt ∧ (g_road G i j).toInt ≤ 1000 := by
  obtain ⟨h1, h2, h3, h4, h5, h6⟩ := h
  have b := h6 (5 * i + j) (by omega)
  have d1 := h4 i (by omega)
  have d2 := h4 (5 + j) (by omega)
  have e1 : (G.2.2.2.2.2 (5 * i + j) + G.2.2.2.1 i).toInt = (G.2.2.2.2.2 (5 * i + j)).toInt + (G.2.2.2.1 i).toInt := by
    rw [Int32.toInt_add]; apply Int.bmod_eq_of_le <;> omega
  have e2 : (2 * (G.2.2.2.2.2 (5 * i + j) + G.2.2.2.1 i)).toInt = 2 * ((G.2.2.2.2.2 (5 * i + j)).toInt + (G.2.2.2.1 i).toInt) := by
    rw [Int32.toInt_mul, e1, show (2 : Int32).toInt = 2 from rfl]; apply Int.bmod_eq_of_le <;> omega
  have e3 : (2 * (G.2.2.2.2.2 (5 * i + j) + G.2.2.2.1 i) + G.2.2.2.1 (5 + j)).toInt = 2 * ((G.2.2.2.2.2 (5 * i + j)).toInt + (G.2.2.2.1 i).toInt) + (G.2.2.2.1 (5 + j)).toInt := by
    rw [Int32.toInt_add, e2]; apply Int.bmod_eq_of_le <;> omega
  unfold g_road
  split
  · omega
  · split
    · rw [e1]; omega
    · split
      · rw [e3]; omega
      · exact ⟨by decide, by decide⟩
theorem g_cost_ok {G : TG} (h : g_ok G) (S T : Nat) : t_cok (g_cost G) S T := by
  intro c hc _ _
  unfold g_cost
  by_cases q : c / 6 < G.1 ∧ c % 6 < G.2.1
  · rw [if_pos q]
    have := h.1
    have := h.2.1
    have := g_road_ok h (i := c / 6) (j := c % 6) (by omega) (by omega)
    omega
  · rw [if_neg q]; exact ⟨by decide, by decide⟩
theorem x0_isRoad {g : Nat} {G : TG} {μ : Mem} (h : XG g G μ) (hG : g_ok G) {i j : Nat} (hi : i < 6) (hj : j < 6) : f_X0_isRoad g (nI i) (nI j) μ = some (if i < G.1 ∧ j < G.2.1 then 1 else 0) := by
  unfold f_X0_isRoad
  have h1 := hG.1
  have h2 := hG.2.1
  by_cases a : i < G.1
  · by_cases b : j < G.2.1
    · rw [if_pos (show i < G.1 ∧ j < G.2.1 from ⟨a, b⟩)]
      simp (disch := omega) only [lt_k, bnv_s, bnd_s, grd_t, q_in, q_inb, q_c, q_leT, q_leF, q_ltT, q_ltF, q_neg, q_nn, q_z, q_le0, q_b0, q_b1, nI_add, nI_0, q_off, q_self, q_oth, cst_2, st_2, ↓reduceIte, f_X8_cellAt, f_X8_roadAt, q_le1, q_nle1, q_le2, q_nle2, q_le5, q_nle5, q_le6, q_nle6, q_le8, q_nle8, q_le12, q_nle12, q_le25, q_nle25, q_le36, q_nle36, q_le60, q_nle60, q_le99, q_nle99, q_le100, q_nle100, q_le300, q_nle300, q_le640, q_nle640, q_le411, q_nle411, q_mul2, q_lmul2, q_mul3, q_lmul3, q_mul5, q_lmul5, q_mul6, q_lmul6, q_mul10, q_lmul10, q_add1, q_ladd1, q_add2, q_ladd2, q_add3, q_ladd3, q_add5, q_ladd5, q_add6, q_ladd6, q_add100, q_ladd100, q_div2, q_rem2, q_div3, q_rem3, q_div6, q_rem6, q_div10, q_rem10, h.1, h.2.1]
    · rw [if_neg (show ¬ (i < G.1 ∧ j < G.2.1) from fun q => b q.2)]
      simp (disch := omega) only [lt_k, bnv_s, bnd_s, grd_t, q_in, q_inb, q_c, q_leT, q_leF, q_ltT, q_ltF, q_neg, q_nn, q_z, q_le0, q_b0, q_b1, nI_add, nI_0, q_off, q_self, q_oth, cst_2, st_2, ↓reduceIte, f_X8_cellAt, f_X8_roadAt, q_le1, q_nle1, q_le2, q_nle2, q_le5, q_nle5, q_le6, q_nle6, q_le8, q_nle8, q_le12, q_nle12, q_le25, q_nle25, q_le36, q_nle36, q_le60, q_nle60, q_le99, q_nle99, q_le100, q_nle100, q_le300, q_nle300, q_le640, q_nle640, q_le411, q_nle411, q_mul2, q_lmul2, q_mul3, q_lmul3, q_mul5, q_lmul5, q_mul6, q_lmul6, q_mul10, q_lmul10, q_add1, q_ladd1, q_add2, q_ladd2, q_add3, q_ladd3, q_add5, q_ladd5, q_add6, q_ladd6, q_add100, q_ladd100, q_div2, q_rem2, q_div3, q_rem3, q_div6, q_rem6, q_div10, q_rem10, h.1, h.2.1]
  · rw [if_neg (show ¬ (i < G.1 ∧ j < G.2.1) from fun q => a q.1)]
    simp (disch := omega) only [lt_k, bnv_s, bnd_s, grd_t, q_in, q_inb, q_c, q_leT, q_leF, q_ltT, q_ltF, q_neg, q_nn, q_z, q_le0, q_b0, q_b1, nI_add, nI_0, q_off, q_self, q_oth, cst_2, st_2, ↓reduceIte, f_X8_cellAt, f_X8_roadAt, q_le1, q_nle1, q_le2, q_nle2, q_le5, q_nle5, q_le6, q_nle6, q_le8, q_nle8, q_le12, q_nle12, q_le25, q_nle25, q_le36, q_nle36, q_le60, q_nle60, q_le99, q_nle99, q_le100, q_nle100, q_le300, q_nle300, q_le640, q_nle640, q_le411, q_nle411, q_mul2, q_lmul2, q_mul3, q_lmul3, q_mul5, q_lmul5, q_mul6, q_lmul6, q_mul10, q_lmul10, q_add1, q_ladd1, q_add2, q_ladd2, q_add3, q_ladd3, q_add5, q_ladd5, q_add6, q_ladd6, q_add100, q_ladd100, q_div2, q_rem2, q_div3, q_rem3, q_div6, q_rem6, q_div10, q_rem10, h.1, h.2.1]
theorem x0_costOf {g : Nat} {G : TG} {μ : Mem} (h : XG g G μ) (hG : g_ok G) {i j : Nat} (hi : i < 6) (hj : j < 6) : f_X0_costOf g (nI i) (nI j) μ = some (g_cost G (6 * i + j)) := by
  unfold f_X0_costOf
  rw [x0_isRoad h hG hi hj]
  unfold g_cost
  rw [show (6 * i + j) / 6 = i by omega, show (6 * i + j) % 6 = j by omega]
  have h1 := hG.1
  have h2 := hG.2.1
  by_cases q : i < G.1 ∧ j < G.2.1
  · rw [if_pos q, if_pos q]
    obtain ⟨r1, r2, r3, r4⟩ := h.2.2.1 i (by omega)
    obtain ⟨s1, s2, s3, s4⟩ := h.2.2.1 j (by omega)
    obtain ⟨u1, u2⟩ := h.2.2.2 (5 * i + j) (by omega)
    unfold g_road
    simp (disch := omega) only [lt_k, bnv_s, bnd_s, grd_t, q_in, q_inb, q_c, q_leT, q_leF, q_ltT, q_ltF, q_neg, q_nn, q_z, q_le0, q_b0, q_b1, nI_add, nI_0, q_off, q_self, q_oth, cst_2, st_2, ↓reduceIte, f_X8_cellAt, f_X8_roadAt, q_le1, q_nle1, q_le2, q_nle2, q_le5, q_nle5, q_le6, q_nle6, q_le8, q_nle8, q_le12, q_nle12, q_le25, q_nle25, q_le36, q_nle36, q_le60, q_nle60, q_le99, q_nle99, q_le100, q_nle100, q_le300, q_nle300, q_le640, q_nle640, q_le411, q_nle411, q_mul2, q_lmul2, q_mul3, q_lmul3, q_mul5, q_lmul5, q_mul6, q_lmul6, q_mul10, q_lmul10, q_add1, q_ladd1, q_add2, q_ladd2, q_add3, q_ladd3, q_add5, q_ladd5, q_add6, q_ladd6, q_add100, q_ladd100, q_div2, q_rem2, q_div3, q_rem3, q_div6, q_rem6, q_div10, q_rem10, q_10, Nat.mul_comm i 5, r2, s4, u1, u2]
    by_cases k0 : G.2.2.2.2.1 (5 * i + j) = 0
    · rw [if_pos k0, if_pos k0]
    · rw [if_neg k0, if_neg k0]
      by_cases k1 : G.2.2.2.2.1 (5 * i + j) = 1
      · rw [if_pos k1, if_pos k1]
      · rw [if_neg k1, if_neg k1]
        by_cases k2 : G.2.2.2.2.1 (5 * i + j) = 2
        · rw [if_pos k2, if_pos k2]
        · rw [if_neg k2, if_neg k2]
  · rw [if_neg q, if_neg q]
    simp (disch := omega) only [lt_k, bnv_s, bnd_s, grd_t, q_in, q_inb, q_c, q_leT, q_leF, q_ltT, q_ltF, q_neg, q_nn, q_z, q_le0, q_b0, q_b1, nI_add, nI_0, q_off, q_self, q_oth, cst_2, st_2, ↓reduceIte, f_X8_cellAt, f_X8_roadAt, q_le1, q_nle1, q_le2, q_nle2, q_le5, q_nle5, q_le6, q_nle6, q_le8, q_nle8, q_le12, q_nle12, q_le25, q_nle25, q_le36, q_nle36, q_le60, q_nle60, q_le99, q_nle99, q_le100, q_nle100, q_le300, q_nle300, q_le640, q_nle640, q_le411, q_nle411, q_mul2, q_lmul2, q_mul3, q_lmul3, q_mul5, q_lmul5, q_mul6, q_lmul6, q_mul10, q_lmul10, q_add1, q_ladd1, q_add2, q_ladd2, q_add3, q_ladd3, q_add5, q_ladd5, q_add6, q_ladd6, q_add100, q_ladd100, q_div2, q_rem2, q_div3, q_rem3, q_div6, q_rem6, q_div10, q_rem10, lt_k]
theorem x9_costOf {G : TG} {μ : Mem} (h : MG G μ) {i j : Nat} (hi : i < 5) (hj : j < 5) : f_X9_costOf (nI i) (nI j) μ = some (g_road G i j) := by
  unfold f_X9_costOf g_road
  obtain ⟨r1, r2⟩ := h.2.2.1 i (by omega)
  obtain ⟨s1, s2⟩ := h.2.2.1 (5 + j) (by omega)
  obtain ⟨u1, u2⟩ := h.2.2.2 (5 * i + j) (by omega)
  simp (disch := omega) only [lt_k, bnv_s, bnd_s, grd_t, q_in, q_inb, q_c, q_leT, q_leF, q_ltT, q_ltF, q_neg, q_nn, q_z, q_le0, q_b0, q_b1, nI_add, nI_0, q_off, q_self, q_oth, cst_2, st_2, ↓reduceIte, f_X8_cellAt, f_X8_roadAt, q_le1, q_nle1, q_le2, q_nle2, q_le5, q_nle5, q_le6, q_nle6, q_le8, q_nle8, q_le12, q_nle12, q_le25, q_nle25, q_le36, q_nle36, q_le60, q_nle60, q_le99, q_nle99, q_le100, q_nle100, q_le300, q_nle300, q_le640, q_nle640, q_le411, q_nle411, q_mul2, q_lmul2, q_mul3, q_lmul3, q_mul5, q_lmul5, q_mul6, q_lmul6, q_mul10, q_lmul10, q_add1, q_ladd1, q_add2, q_ladd2, q_add3, q_ladd3, q_add5, q_ladd5, q_add6, q_ladd6, q_add100, q_ladd100, q_div2, q_rem2, q_div3, q_rem3, q_div6, q_rem6, q_div10, q_rem10, r2, s2, u1, u2]
  by_cases k0 : G.2.2.2.2.1 (5 * i + j) = 0
  · rw [if_pos k0, if_pos k0]
  · rw [if_neg k0, if_neg k0]
    by_cases k1 : G.2.2.2.2.1 (5 * i + j) = 1
    · rw [if_pos k1, if_pos k1]
    · rw [if_neg k1, if_neg k1]
      by_cases k2 : G.2.2.2.2.1 (5 * i + j) = 2
      · rw [if_pos k2, if_pos k2]
      · rw [if_neg k2, if_neg k2]
theorem q_bi {b : Bool} : (b2i b = 0) ↔ b = false := by cases b <;> decide
theorem q_predI {n : Nat} (hn : n ≤ 2147483647) : (nI n - 1).toInt = (n : Int) - 1 := by
  rw [Int32.toInt_sub, nI_i (by omega), show (1 : Int32).toInt = 1 from rfl]
  apply Int.bmod_eq_of_le <;> omega
theorem x9_isRoadG {G : TG} {μ : Mem} (h : MG G μ) (hG : g_ok G) (x y : Int32) : f_X9_isRoad x y μ = some (if (0 ≤ x.toInt ∧ x.toInt < G.1) ∧ (0 ≤ y.toInt ∧ y.toInt < G.2.1) then 1 else 0) := by
  unfold f_X9_isRoad
  have h1 := hG.1
  have h2 := hG.2.1
  rw [h.1, h.2.1, in_32, in_32, Int32.toInt_toInt64, Int32.toInt_toInt64, q_predI (by omega), q_predI (by omega), show (0 : Int64).toInt = 0 from rfl, bnv_s, bnv_s]
  unfold inR
  by_cases a : 0 ≤ x.toInt ∧ x.toInt < G.1
  · rw [decide_eq_true (show 0 ≤ x.toInt ∧ x.toInt ≤ (G.1 : Int) - 1 by omega)]
    by_cases b : 0 ≤ y.toInt ∧ y.toInt < G.2.1
    · rw [decide_eq_true (show 0 ≤ y.toInt ∧ y.toInt ≤ (G.2.1 : Int) - 1 by omega), if_pos (show ((0 ≤ x.toInt ∧ x.toInt < G.1) ∧ (0 ≤ y.toInt ∧ y.toInt < G.2.1)) from ⟨a, b⟩)]; rfl
    · rw [decide_eq_false (show ¬ (0 ≤ y.toInt ∧ y.toInt ≤ (G.2.1 : Int) - 1) by omega), if_neg (show ¬ ((0 ≤ x.toInt ∧ x.toInt < G.1) ∧ (0 ≤ y.toInt ∧ y.toInt < G.2.1)) from fun q => b q.2)]; rfl
  · rw [decide_eq_false (show ¬ (0 ≤ x.toInt ∧ x.toInt ≤ (G.1 : Int) - 1) by omega), if_neg (show ¬ ((0 ≤ x.toInt ∧ x.toInt < G.1) ∧ (0 ≤ y.toInt ∧ y.toInt < G.2.1)) from fun q => a q.1)]; rfl
/-! how much there is -/
theorem i_sum_I {f : Nat → Int32} : ∀ n : Nat, n ≤ 5 → (∀ k, k < n → 0 ≤ (f k).toInt ∧ (f k).toInt ≤ 100) → (i_sum f n).toInt = t_sum (fun k => (f k).toInt) n ∧ 0 ≤ t_sum (fun k => (f k).toInt) n ∧ t_sum (fun k => (f k).toInt) n ≤ 100 * n
  | 0, _, _ => ⟨rfl, Int.le_refl _, Int.le_refl _⟩
  | n + 1, hn, h => by
    obtain ⟨a, b, c⟩ := i_sum_I n (by omega) (fun k hk => h k (by omega))
    have := h n (by omega)
    unfold i_sum t_sum
    refine ⟨?_, by omega, by omega⟩
    rw [Int32.toInt_add, a]
    apply Int.bmod_eq_of_le <;> omega
def g_all (G : TG) : Int32 := i_sum G.2.2.1 G.1
def g_want (G : TG) : Int32 := i_sum (fun i => G.2.2.1 (5 + i)) G.2.1
def g_over (G : TG) : Int32 := g_all G - g_want G
def g_S (G : TG) : Nat := G.1 + if g_over G < 0 then 1 else 0
def g_T (G : TG) : Nat := G.2.1 + if 0 < g_over G then 1 else 0
def g_lf (G : TG) : Nat → Int32 := fun v => if v < 6 then (if v < G.1 then G.2.2.1 v else if v < g_S G then -(g_over G) else 0) else (if v - 6 < G.2.1 then G.2.2.1 (5 + (v - 6)) else if v - 6 < g_T G then g_over G else 0)
def g_O (G : TG) : Nat → Bool := fun v => decide (v < g_S G) || (decide (6 ≤ v) && decide (v < 6 + g_T G))
def g_st (G : TG) : TS := (g_O G, g_lf G, fun _ => false, fun _ => 0)
theorem g_S6 {G : TG} (h : g_ok G) : g_S G ≤ 6 ∧ G.1 ≤ g_S G ∧ g_T G ≤ 6 ∧ G.2.1 ≤ g_T G := by
  have := h.1
  have := h.2.1
  unfold g_S g_T
  split <;> split <;> omega
theorem g_O_nd {G : TG} {v : Nat} : g_O G v = true ↔ t_nd (g_S G) (g_T G) v := by
  unfold g_O t_nd
  simp
theorem t_sum_tail {f : Nat → Int} {m : Nat} : ∀ d, (∀ k, m ≤ k → k < m + d → f k = 0) → t_sum f (m + d) = t_sum f m
  | 0, _ => rfl
  | d + 1, h => by
    show t_sum f (m + d) + f (m + d) = _
    rw [h (m + d) (by omega) (by omega), t_sum_tail d (fun k h1 h2 => h k h1 (by omega))]
    omega
theorem g_over_I {G : TG} (h : g_ok G) : (g_over G).toInt = t_sum (fun k => (G.2.2.1 k).toInt) G.1 - t_sum (fun k => (G.2.2.1 (5 + k)).toInt) G.2.1 ∧ 0 ≤ t_sum (fun k => (G.2.2.1 k).toInt) G.1 ∧ t_sum (fun k => (G.2.2.1 k).toInt) G.1 ≤ 500 ∧ 0 ≤ t_sum (fun k => (G.2.2.1 (5 + k)).toInt) G.2.1 ∧ t_sum (fun k => (G.2.2.1 (5 + k)).toInt) G.2.1 ≤ 500 := by
  obtain ⟨h1, h2, h3, -⟩ := h
  obtain ⟨a, b, c⟩ := i_sum_I (f := G.2.2.1) G.1 h1 (fun k hk => h3 k (by omega))
  obtain ⟨a', b', c'⟩ := i_sum_I (f := fun i => G.2.2.1 (5 + i)) G.2.1 h2 (fun k hk => h3 _ (by omega))
  refine ⟨?_, b, by omega, b', by omega⟩
  unfold g_over g_all g_want
  rw [Int32.toInt_sub, a, a']
  apply Int.bmod_eq_of_le <;> omega
theorem g_neg_I {G : TG} (h : g_ok G) : (-(g_over G)).toInt = -(g_over G).toInt := by
  obtain ⟨a, b, c, d, e⟩ := g_over_I h
  rw [Int32.toInt_neg]
  apply Int.bmod_eq_of_le <;> omega
theorem g_st_ok {G : TG} (h : g_ok G) (hQ : 0 < G.1) (hW : 0 < G.2.1) : t_sok (g_S G) (g_T G) (g_st G) := by
  obtain ⟨s1, s2, s3, s4⟩ := g_S6 h
  obtain ⟨o1, o2, o3, o4, o5⟩ := g_over_I h
  have oneg := g_neg_I h
  have l1 : t_sum (fun v => (g_lf G v).toInt) 6 = t_sum (fun k => (G.2.2.1 k).toInt) G.1 + if g_over G < 0 then -(g_over G).toInt else 0 := by
    have e6 : 6 = g_S G + (6 - g_S G) := by omega
    rw [e6, t_sum_tail (6 - g_S G) (fun k k1 k2 => by show (g_lf G k).toInt = 0; unfold g_lf; rw [if_pos (by omega), if_neg (by omega), if_neg (by omega)]; rfl)]
    have base : t_sum (fun v => (g_lf G v).toInt) G.1 = t_sum (fun k => (G.2.2.1 k).toInt) G.1 := t_sum_eq _ (fun k hk => by show (g_lf G k).toInt = _; unfold g_lf; rw [if_pos (by omega), if_pos hk])
    by_cases q : g_over G < 0
    · have eS : g_S G = G.1 + 1 := by unfold g_S; rw [if_pos q]
      rw [if_pos q, eS]
      show t_sum (fun v => (g_lf G v).toInt) G.1 + (g_lf G G.1).toInt = _
      rw [base, ← oneg]
      congr 2
      unfold g_lf
      rw [if_pos (by omega), if_neg (by omega), if_pos (by omega)]
    · have eS : g_S G = G.1 := by unfold g_S; rw [if_neg q]; rfl
      rw [if_neg q, eS, base]; omega
  have l2 : t_sum (fun v => (g_lf G (6 + v)).toInt) 6 = t_sum (fun k => (G.2.2.1 (5 + k)).toInt) G.2.1 + if 0 < g_over G then (g_over G).toInt else 0 := by
    have e6 : 6 = g_T G + (6 - g_T G) := by omega
    rw [show t_sum (fun v => (g_lf G (6 + v)).toInt) 6 = t_sum (fun v => (g_lf G (6 + v)).toInt) (g_T G + (6 - g_T G)) by rw [← e6], t_sum_tail (6 - g_T G) (fun k k1 k2 => by show (g_lf G (6 + k)).toInt = 0; unfold g_lf; rw [if_neg (by omega), if_neg (by omega), if_neg (by omega)]; rfl)]
    have base : t_sum (fun v => (g_lf G (6 + v)).toInt) G.2.1 = t_sum (fun k => (G.2.2.1 (5 + k)).toInt) G.2.1 := t_sum_eq _ (fun k hk => by show (g_lf G (6 + k)).toInt = _; unfold g_lf; rw [if_neg (by omega), if_pos (by omega), show 6 + k - 6 = k by omega])
    by_cases q : 0 < g_over G
    · have eS : g_T G = G.2.1 + 1 := by unfold g_T; rw [if_pos q]
      rw [if_pos q, eS]
      show t_sum (fun v => (g_lf G (6 + v)).toInt) G.2.1 + (g_lf G (6 + G.2.1)).toInt = _
      rw [base]
      congr 2
      unfold g_lf
      rw [if_neg (by omega), if_neg (by omega), if_pos (by omega)]
    · have eS : g_T G = G.2.1 := by unfold g_T; rw [if_neg q]; rfl
      rw [if_neg q, eS, base]; omega
  have i0 : (0 : Int32).toInt = 0 := rfl
  have zsum : t_sum (fun c => (((fun _ => 0) : Nat → Int32) c).toInt) 36 = 0 := by decide +kernel
  refine ⟨s1, s3, t_op_init _ _ _ (fun u => g_O_nd), t_ctr_pos (d := 0) (g_O_nd.mpr (Or.inl (by omega))) 6 (by omega), fun v hv => ?_, fun v hv hO => ?_, ?_, fun c hc => Int.le_refl _, ?_, fun _ _ _ => rfl, fun _ _ hb => (by cases hb), fun _ _ => rfl, fun h0 => ?_⟩
  · show 0 ≤ (g_lf G v).toInt
    unfold g_lf
    by_cases q : v < 6
    · rw [if_pos q]
      by_cases q2 : v < G.1
      · rw [if_pos q2]; exact (h.2.2.1 v (by omega)).1
      · rw [if_neg q2]
        by_cases q3 : v < g_S G
        · rw [if_pos q3, oneg]
          unfold g_S at q3
          by_cases q4 : g_over G < 0
          · have := i_lt.mp q4; omega
          · rw [if_neg q4] at q3; omega
        · rw [if_neg q3]; decide
    · rw [if_neg q]
      by_cases q2 : v - 6 < G.2.1
      · rw [if_pos q2]; exact (h.2.2.1 _ (by have := h.2.1; omega)).1
      · rw [if_neg q2]
        by_cases q3 : v - 6 < g_T G
        · rw [if_pos q3]
          unfold g_T at q3
          by_cases q4 : 0 < g_over G
          · have := i_lt.mp q4; omega
          · rw [if_neg q4] at q3; omega
        · rw [if_neg q3]; decide
  · change g_O G v = false at hO
    have hn : ¬ t_nd (g_S G) (g_T G) v := fun q => by rw [g_O_nd.mpr q] at hO; cases hO
    unfold t_nd at hn
    show g_lf G v = 0
    unfold g_lf
    by_cases q : v < 6
    · rw [if_pos q, if_neg (by omega), if_neg (by omega)]
    · rw [if_neg q, if_neg (by omega), if_neg (by omega)]
  · show t_sum (fun v => (g_lf G v).toInt) 6 = t_sum (fun v => (g_lf G (6 + v)).toInt) 6
    rw [l1, l2]
    by_cases q : g_over G < 0
    · have := i_lt.mp q
      rw [if_pos q, if_neg (fun r => by have := i_lt.mp r; omega)]; omega
    · rw [if_neg q]
      have q' : ¬ (g_over G).toInt < 0 := fun r => q (i_lt.mpr r)
      by_cases q2 : 0 < g_over G
      · rw [if_pos q2]; omega
      · rw [if_neg q2]
        have : ¬ 0 < (g_over G).toInt := fun r => q2 (i_lt.mpr r)
        omega
  · show t_sum (fun c => (((fun _ => 0) : Nat → Int32) c).toInt) 36 + t_sum (fun v => (g_lf G v).toInt) 6 ≤ 600
    rw [l1, zsum]
    by_cases q : g_over G < 0
    · rw [if_pos q]; omega
    · rw [if_neg q]; omega
  · exfalso
    have := t_ctr_zero h0 0 (by omega)
    change g_O G 6 = false at this
    rw [g_O_nd.mpr (Or.inr ⟨by omega, by omega⟩)] at this
    cases this
