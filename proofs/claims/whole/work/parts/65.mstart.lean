/-! THE PURE PART: the model starts a plan -/
def SA : Nat → Nat → Prop := fun c j => (c = 122 ∧ (j = 7 ∨ j = 8 ∨ j = 9)) ∨ (127 ≤ c ∧ c ≤ 129 ∧ j < 36) ∨ c = 140 ∨ c = 141
theorem MG_fr {G : TG} {A : Nat → Nat → Prop} {μ μ' : Mem} (h : MG G μ) (f : fr A μ μ') (hA : ∀ c j, (c = 122 ∧ j < 2) ∨ (123 ≤ c ∧ c ≤ 126) → ¬ A c j) : MG G μ' := by
  obtain ⟨h1, h2, h3, h4⟩ := h
  refine ⟨by rw [f.2 _ _ (hA _ _ (by omega))]; exact h1, by rw [f.2 _ _ (hA _ _ (by omega))]; exact h2, fun i hi => ?_, fun i hi => ?_⟩
  · rw [f.2 _ _ (hA 123 i (by omega)), f.2 _ _ (hA 124 i (by omega))]; exact h3 i hi
  · rw [f.2 _ _ (hA 125 i (by omega)), f.2 _ _ (hA 126 i (by omega))]; exact h4 i hi
theorem x9_sum0 {G : TG} {μ : Mem} (h : MG G μ) (hG : g_ok G) : f_X9_sum 0 μ = some (g_all G) := by
  have h1 := hG.1
  refine q_loop0 (fun n i s => f_X9_sum_4 0 μ n s (nI i)) G.1 (by omega) (fun i s => s = i_sum G.2.2.1 i) (fun z => z = some (g_all G)) (fun n i s hi hv => Or.inr ⟨i_sum G.2.2.1 (i + 1), rfl, ?_⟩) (fun n s hv => ?_) 0 rfl
  · have := (h.2.2.1 i (by omega)).1
    have e0 : (5 : Int32) * 0 + nI i = nI i := by rw [show (5 : Int32) * 0 = 0 by decide, Int32.zero_add]
    show g_X9_sum_4 0 μ _ s (nI i) = _
    unfold g_X9_sum_4 f_X9_many
    simp (disch := omega) only [lt_k, bnv_s, bnd_s, grd_t, q_in, q_inb, q_c, q_leT, q_leF, q_ltT, q_ltF, q_neg, q_nn, q_z, q_le0, q_b0, q_b1, nI_add, nI_0, q_off, q_self, q_oth, cst_2, st_2, ↓reduceIte, f_X8_cellAt, f_X8_roadAt, q_le1, q_nle1, q_le2, q_nle2, q_le5, q_nle5, q_le6, q_nle6, q_le8, q_nle8, q_le12, q_nle12, q_le25, q_nle25, q_le36, q_nle36, q_le60, q_nle60, q_le99, q_nle99, q_le100, q_nle100, q_le300, q_nle300, q_le640, q_nle640, q_le411, q_nle411, q_mul2, q_lmul2, q_mul3, q_lmul3, q_mul5, q_lmul5, q_mul6, q_lmul6, q_mul10, q_lmul10, q_add1, q_ladd1, q_add2, q_ladd2, q_add3, q_ladd3, q_add5, q_ladd5, q_add6, q_ladd6, q_add100, q_ladd100, q_div2, q_rem2, q_div3, q_rem3, q_div6, q_rem6, q_div10, q_rem10, h.1, e0, this, hv]
    rfl
  · show g_X9_sum_4 0 μ _ s (nI G.1) = _
    unfold g_X9_sum_4 f_X9_many
    simp (disch := omega) only [lt_k, bnv_s, bnd_s, grd_t, q_in, q_inb, q_c, q_leT, q_leF, q_ltT, q_ltF, q_neg, q_nn, q_z, q_le0, q_b0, q_b1, nI_add, nI_0, q_off, q_self, q_oth, cst_2, st_2, ↓reduceIte, f_X8_cellAt, f_X8_roadAt, q_le1, q_nle1, q_le2, q_nle2, q_le5, q_nle5, q_le6, q_nle6, q_le8, q_nle8, q_le12, q_nle12, q_le25, q_nle25, q_le36, q_nle36, q_le60, q_nle60, q_le99, q_nle99, q_le100, q_nle100, q_le300, q_nle300, q_le640, q_nle640, q_le411, q_nle411, q_mul2, q_lmul2, q_mul3, q_lmul3, q_mul5, q_lmul5, q_mul6, q_lmul6, q_mul10, q_lmul10, q_add1, q_ladd1, q_add2, q_ladd2, q_add3, q_ladd3, q_add5, q_ladd5, q_add6, q_ladd6, q_add100, q_ladd100, q_div2, q_rem2, q_div3, q_rem3, q_div6, q_rem6, q_div10, q_rem10, h.1, hv]
    rfl
theorem x9_sum1 {G : TG} {μ : Mem} (h : MG G μ) (hG : g_ok G) : f_X9_sum 1 μ = some (g_want G) := by
  have h1 := hG.2.1
  refine q_loop0 (fun n i s => f_X9_sum_4 1 μ n s (nI i)) G.2.1 (by omega) (fun i s => s = i_sum (fun i => G.2.2.1 (5 + i)) i) (fun z => z = some (g_want G)) (fun n i s hi hv => Or.inr ⟨i_sum (fun i => G.2.2.1 (5 + i)) (i + 1), rfl, ?_⟩) (fun n s hv => ?_) 0 rfl
  · have := (h.2.2.1 (5 + i) (by omega)).1
    have e0 : (5 : Int32) * 1 + nI i = nI (5 + i) := by rw [show (5 : Int32) * 1 = nI 5 by decide, nI_add]
    show g_X9_sum_4 1 μ _ s (nI i) = _
    unfold g_X9_sum_4 f_X9_many
    simp (disch := omega) only [lt_k, bnv_s, bnd_s, grd_t, q_in, q_inb, q_c, q_leT, q_leF, q_ltT, q_ltF, q_neg, q_nn, q_z, q_le0, q_b0, q_b1, nI_add, nI_0, q_off, q_self, q_oth, cst_2, st_2, ↓reduceIte, f_X8_cellAt, f_X8_roadAt, q_le1, q_nle1, q_le2, q_nle2, q_le5, q_nle5, q_le6, q_nle6, q_le8, q_nle8, q_le12, q_nle12, q_le25, q_nle25, q_le36, q_nle36, q_le60, q_nle60, q_le99, q_nle99, q_le100, q_nle100, q_le300, q_nle300, q_le640, q_nle640, q_le411, q_nle411, q_mul2, q_lmul2, q_mul3, q_lmul3, q_mul5, q_lmul5, q_mul6, q_lmul6, q_mul10, q_lmul10, q_add1, q_ladd1, q_add2, q_ladd2, q_add3, q_ladd3, q_add5, q_ladd5, q_add6, q_ladd6, q_add100, q_ladd100, q_div2, q_rem2, q_div3, q_rem3, q_div6, q_rem6, q_div10, q_rem10, h.2.1, e0, this, hv, q_10]
    rfl
  · show g_X9_sum_4 1 μ _ s (nI G.2.1) = _
    unfold g_X9_sum_4 f_X9_many
    simp (disch := omega) only [lt_k, bnv_s, bnd_s, grd_t, q_in, q_inb, q_c, q_leT, q_leF, q_ltT, q_ltF, q_neg, q_nn, q_z, q_le0, q_b0, q_b1, nI_add, nI_0, q_off, q_self, q_oth, cst_2, st_2, ↓reduceIte, f_X8_cellAt, f_X8_roadAt, q_le1, q_nle1, q_le2, q_nle2, q_le5, q_nle5, q_le6, q_nle6, q_le8, q_nle8, q_le12, q_nle12, q_le25, q_nle25, q_le36, q_nle36, q_le60, q_nle60, q_le99, q_nle99, q_le100, q_nle100, q_le300, q_nle300, q_le640, q_nle640, q_le411, q_nle411, q_mul2, q_lmul2, q_mul3, q_lmul3, q_mul5, q_lmul5, q_mul6, q_lmul6, q_mul10, q_lmul10, q_add1, q_ladd1, q_add2, q_ladd2, q_add3, q_ladd3, q_add5, q_ladd5, q_add6, q_ladd6, q_add100, q_ladd100, q_div2, q_rem2, q_div3, q_rem3, q_div6, q_rem6, q_div10, q_rem10, h.2.1, hv, q_10]
    rfl
theorem x9_isRoad6 {G : TG} {μ : Mem} (h : MG G μ) (hG : g_ok G) {i j : Nat} (hi : i < 6) (hj : j < 6) : f_X9_isRoad (nI i) (nI j) μ = some (if i < G.1 ∧ j < G.2.1 then 1 else 0) := by
  rw [x9_isRoadG h hG, nI_i (by omega), nI_i (by omega)]
  by_cases q : i < G.1 ∧ j < G.2.1
  · rw [if_pos q, if_pos (by omega)]
  · rw [if_neg q, if_neg (by omega)]
def MSt (S T : Nat) (cost : Nat → Int32) (s : TS) (μ : Mem) : Prop := μ.1 122 7 = nI S ∧ μ.1 122 8 = nI T ∧ μ.1 122 9 = 0 ∧ (∀ v, t_nd S T v → μ.1 140 v = s.2.1 v) ∧ (∀ v, v < 12 → μ.1 141 v = b01 (s.1 v)) ∧ ∀ c, c < 36 → μ.1 127 c = cost c ∧ μ.1 128 c = s.2.2.2 c ∧ μ.1 129 c = b01 (s.2.2.1 c)
theorem x9_opens164 {G : TG} {μ : Mem} (h : MG G μ) (hG : g_ok G) : ∃ μ', f_X9_opens_164 FU 0 μ = some μ' ∧ fr (fun c j => 127 ≤ c ∧ c ≤ 129 ∧ j < 36) μ μ' ∧ ∀ c, c < 36 → μ'.1 127 c = g_cost G c ∧ μ'.1 128 c = 0 ∧ μ'.1 129 c = 0 := by
  refine q_loop0 (fun n i s => f_X9_opens_164 n (nI i) s) 36 (by omega) (fun i s => fr (fun c j => 127 ≤ c ∧ c ≤ 129 ∧ j < 36) μ s ∧ ∀ c, c < i → s.1 127 c = g_cost G c ∧ s.1 128 c = 0 ∧ s.1 129 c = 0)
    (fun z => ∃ μ', z = some μ' ∧ fr (fun c j => 127 ≤ c ∧ c ≤ 129 ∧ j < 36) μ μ' ∧ ∀ c, c < 36 → μ'.1 127 c = g_cost G c ∧ μ'.1 128 c = 0 ∧ μ'.1 129 c = 0) ?_ ?_ μ ⟨fr_refl _ _, fun c hc => by omega⟩
  · rintro n i s hi ⟨p1, p2⟩
    right
    have hM := MG_fr h p1 (fun c j a => by omega)
    have h1 := hG.1
    have h2 := hG.2.1
    refine ⟨st (st (st s 127 i (g_cost G i)) 128 i 0) 129 i 0, ⟨fr_st' (fr_st' (fr_st' p1 (by omega)) (by omega)) (by omega), fun c hc => ?_⟩, ?_⟩
    · simp (disch := omega) only [lt_k, bnv_s, bnd_s, grd_t, q_in, q_inb, q_c, q_leT, q_leF, q_ltT, q_ltF, q_neg, q_nn, q_z, q_le0, q_b0, q_b1, nI_add, nI_0, q_off, q_self, q_oth, cst_2, st_2, ↓reduceIte, f_X8_cellAt, f_X8_roadAt, q_le1, q_nle1, q_le2, q_nle2, q_le5, q_nle5, q_le6, q_nle6, q_le8, q_nle8, q_le12, q_nle12, q_le25, q_nle25, q_le36, q_nle36, q_le60, q_nle60, q_le99, q_nle99, q_le100, q_nle100, q_le300, q_nle300, q_le640, q_nle640, q_le411, q_nle411, q_mul2, q_lmul2, q_mul3, q_lmul3, q_mul5, q_lmul5, q_mul6, q_lmul6, q_mul10, q_lmul10, q_add1, q_ladd1, q_add2, q_ladd2, q_add3, q_ladd3, q_add5, q_ladd5, q_add6, q_ladd6, q_add100, q_ladd100, q_div2, q_rem2, q_div3, q_rem3, q_div6, q_rem6, q_div10, q_rem10, q_at]
      by_cases q : c = i
      · rw [if_pos q, if_pos q, if_pos q, q]; exact ⟨rfl, rfl, rfl⟩
      · rw [if_neg q, if_neg q, if_neg q]; exact p2 c (by omega)
    · show g_X9_opens_164 _ (nI i) s = _
      have hr := x9_isRoad6 hM hG (i := i / 6) (j := i % 6) (by omega) (by omega)
      unfold g_X9_opens_164 f_X9_opens_206 g_cost
      by_cases q : i / 6 < G.1 ∧ i % 6 < G.2.1
      · rw [if_pos q] at hr
        have hc := x9_costOf hM (i := i / 6) (j := i % 6) (by omega) (by omega)
        simp (disch := omega) only [lt_k, bnv_s, bnd_s, grd_t, q_in, q_inb, q_c, q_leT, q_leF, q_ltT, q_ltF, q_neg, q_nn, q_z, q_le0, q_b0, q_b1, nI_add, nI_0, q_off, q_self, q_oth, cst_2, st_2, ↓reduceIte, f_X8_cellAt, f_X8_roadAt, q_le1, q_nle1, q_le2, q_nle2, q_le5, q_nle5, q_le6, q_nle6, q_le8, q_nle8, q_le12, q_nle12, q_le25, q_nle25, q_le36, q_nle36, q_le60, q_nle60, q_le99, q_nle99, q_le100, q_nle100, q_le300, q_nle300, q_le640, q_nle640, q_le411, q_nle411, q_mul2, q_lmul2, q_mul3, q_lmul3, q_mul5, q_lmul5, q_mul6, q_lmul6, q_mul10, q_lmul10, q_add1, q_ladd1, q_add2, q_ladd2, q_add3, q_ladd3, q_add5, q_ladd5, q_add6, q_ladd6, q_add100, q_ladd100, q_div2, q_rem2, q_div3, q_rem3, q_div6, q_rem6, q_div10, q_rem10, hr, q_10, hc]
        rw [if_pos q]
      · rw [if_neg q] at hr
        simp (disch := omega) only [lt_k, bnv_s, bnd_s, grd_t, q_in, q_inb, q_c, q_leT, q_leF, q_ltT, q_ltF, q_neg, q_nn, q_z, q_le0, q_b0, q_b1, nI_add, nI_0, q_off, q_self, q_oth, cst_2, st_2, ↓reduceIte, f_X8_cellAt, f_X8_roadAt, q_le1, q_nle1, q_le2, q_nle2, q_le5, q_nle5, q_le6, q_nle6, q_le8, q_nle8, q_le12, q_nle12, q_le25, q_nle25, q_le36, q_nle36, q_le60, q_nle60, q_le99, q_nle99, q_le100, q_nle100, q_le300, q_nle300, q_le640, q_nle640, q_le411, q_nle411, q_mul2, q_lmul2, q_mul3, q_lmul3, q_mul5, q_lmul5, q_mul6, q_lmul6, q_mul10, q_lmul10, q_add1, q_ladd1, q_add2, q_ladd2, q_add3, q_ladd3, q_add5, q_ladd5, q_add6, q_ladd6, q_add100, q_ladd100, q_div2, q_rem2, q_div3, q_rem3, q_div6, q_rem6, q_div10, q_rem10, hr]
        rw [if_neg q]
  · rintro n s ⟨p1, p2⟩
    refine ⟨s, ?_, p1, p2⟩
    show g_X9_opens_164 _ (nI 36) s = _
    unfold g_X9_opens_164
    simp (disch := omega) only [lt_k, bnv_s, bnd_s, grd_t, q_in, q_inb, q_c, q_leT, q_leF, q_ltT, q_ltF, q_neg, q_nn, q_z, q_le0, q_b0, q_b1, nI_add, nI_0, q_off, q_self, q_oth, cst_2, st_2, ↓reduceIte, f_X8_cellAt, f_X8_roadAt, q_le1, q_nle1, q_le2, q_nle2, q_le5, q_nle5, q_le6, q_nle6, q_le8, q_nle8, q_le12, q_nle12, q_le25, q_nle25, q_le36, q_nle36, q_le60, q_nle60, q_le99, q_nle99, q_le100, q_nle100, q_le300, q_nle300, q_le640, q_nle640, q_le411, q_nle411, q_mul2, q_lmul2, q_mul3, q_lmul3, q_mul5, q_lmul5, q_mul6, q_lmul6, q_mul10, q_lmul10, q_add1, q_ladd1, q_add2, q_ladd2, q_add3, q_ladd3, q_add5, q_ladd5, q_add6, q_ladd6, q_add100, q_ladd100, q_div2, q_rem2, q_div3, q_rem3, q_div6, q_rem6, q_div10, q_rem10, lt_k]
theorem x9_open55 {G : TG} {m : Mem} (hM : MG G m) (hG : g_ok G) (h7 : m.1 122 7 = nI (g_S G)) (h8 : m.1 122 8 = nI (g_T G)) (F : Nat) (hF : F < 1024 → False) (hF2 : FU = F) :
    ∃ m', f_X9_opens_55 FU (g_over G) 0 m = f_X9_opens_164 F 0 m' ∧ fr (fun c _ => c = 140 ∨ c = 141) m m' ∧ (∀ v, t_nd (g_S G) (g_T G) v → m'.1 140 v = g_lf G v) ∧ ∀ v, v < 12 → m'.1 141 v = b01 (g_O G v) := by
  obtain ⟨s1, s2, s3, s4⟩ := g_S6 hG
  have h1 := hG.1
  have h2 := hG.2.1
  subst hF2
  refine q_loop0 (fun n i s => f_X9_opens_55 n (g_over G) (nI i) s) 6 (by omega)
    (fun i s => fr (fun c _ => c = 140 ∨ c = 141) m s ∧ ∀ v, v < i → (v < g_S G → s.1 140 v = g_lf G v) ∧ (v < g_T G → s.1 140 (6 + v) = g_lf G (6 + v)) ∧ s.1 141 v = b01 (g_O G v) ∧ s.1 141 (6 + v) = b01 (g_O G (6 + v)))
    (fun z => ∃ m', z = f_X9_opens_164 FU 0 m' ∧ fr (fun c _ => c = 140 ∨ c = 141) m m' ∧ (∀ v, t_nd (g_S G) (g_T G) v → m'.1 140 v = g_lf G v) ∧ ∀ v, v < 12 → m'.1 141 v = b01 (g_O G v)) ?_ ?_ m ⟨fr_refl _ _, fun v hv => by omega⟩
  · rintro n i s hi ⟨p1, p2⟩
    right
    have hM' := MG_fr hM p1 (fun c j a => by omega)
    have q7 : s.1 122 7 = nI (g_S G) := by rw [p1.2 _ _ (by omega)]; exact h7
    have q8 : s.1 122 8 = nI (g_T G) := by rw [p1.2 _ _ (by omega)]; exact h8
    have ob1 : b01 (g_O G i) = if i < g_S G then 1 else 0 := by
      by_cases q : i < g_S G
      · rw [if_pos q, g_O_nd.mpr (Or.inl q)]; rfl
      · rw [if_neg q]
        cases r : g_O G i
        · rfl
        · rcases g_O_nd.mp r with u | u <;> omega
    have ob2 : b01 (g_O G (6 + i)) = if i < g_T G then 1 else 0 := by
      by_cases q : i < g_T G
      · rw [if_pos q, g_O_nd.mpr (Or.inr ⟨by omega, by omega⟩)]; rfl
      · rw [if_neg q]
        cases r : g_O G (6 + i)
        · rfl
        · rcases g_O_nd.mp r with u | u <;> omega
    generalize ex1 : (if i < G.1 then G.2.2.1 i else -(g_over G)) = x1
    generalize ex2 : (if i < G.2.1 then G.2.2.1 (5 + i) else g_over G) = x2
    refine ⟨st (st (st (st s 140 i x1) 140 (6 + i) x2) 141 i (b01 (g_O G i))) 141 (6 + i) (b01 (g_O G (6 + i))), ⟨fr_st' (fr_st' (fr_st' (fr_st' p1 (by omega)) (by omega)) (by omega)) (by omega), fun v hv => ?_⟩, ?_⟩
    · simp (disch := omega) only [lt_k, bnv_s, bnd_s, grd_t, q_in, q_inb, q_c, q_leT, q_leF, q_ltT, q_ltF, q_neg, q_nn, q_z, q_le0, q_b0, q_b1, nI_add, nI_0, q_off, q_self, q_oth, cst_2, st_2, ↓reduceIte, f_X8_cellAt, f_X8_roadAt, q_le1, q_nle1, q_le2, q_nle2, q_le5, q_nle5, q_le6, q_nle6, q_le8, q_nle8, q_le12, q_nle12, q_le25, q_nle25, q_le36, q_nle36, q_le60, q_nle60, q_le99, q_nle99, q_le100, q_nle100, q_le300, q_nle300, q_le640, q_nle640, q_le411, q_nle411, q_mul2, q_lmul2, q_mul3, q_lmul3, q_mul5, q_lmul5, q_mul6, q_lmul6, q_mul10, q_lmul10, q_add1, q_ladd1, q_add2, q_ladd2, q_add3, q_ladd3, q_add5, q_ladd5, q_add6, q_ladd6, q_add100, q_ladd100, q_div2, q_rem2, q_div3, q_rem3, q_div6, q_rem6, q_div10, q_rem10, q_at]
      by_cases q : v = i
      · rw [if_pos q, if_pos (show 6 + v = 6 + i by omega), if_pos q, if_pos (show 6 + v = 6 + i by omega), q]
        refine ⟨fun hv => ?_, fun hv => ?_, rfl, rfl⟩
        · rw [← ex1]
          unfold g_lf
          rw [if_pos hi]
          by_cases r : i < G.1
          · rw [if_pos r, if_pos r]
          · rw [if_neg r, if_neg r, if_pos hv]
        · rw [← ex2]
          unfold g_lf
          rw [if_neg (show ¬ 6 + i < 6 by omega), show 6 + i - 6 = i by omega]
          by_cases r : i < G.2.1
          · rw [if_pos r, if_pos r]
          · rw [if_neg r, if_neg r, if_pos hv]
      · rw [if_neg q, if_neg (show ¬ 6 + v = 6 + i by omega), if_neg q, if_neg (show ¬ 6 + v = 6 + i by omega)]
        exact p2 v (by omega)
    · show g_X9_opens_55 _ (g_over G) (nI i) s = f_X9_opens_55 n (g_over G) (nI (i + 1)) _
      rw [ob1, ob2, ← ex1, ← ex2]
      have m1 : i < G.1 → s.1 123 i = G.2.2.1 i := fun r => (hM'.2.2.1 i (by omega)).1
      have m2 : i < G.2.1 → s.1 123 (5 + i) = G.2.2.1 (5 + i) := fun r => (hM'.2.2.1 (5 + i) (by omega)).1
      unfold g_X9_opens_55 f_X9_opens_85 f_X9_opens_114 f_X9_opens_133
      by_cases a : i < G.1 <;> by_cases b : i < G.2.1
      · simp (disch := omega) only [lt_k, bnv_s, bnd_s, grd_t, q_in, q_inb, q_c, q_leT, q_leF, q_ltT, q_ltF, q_neg, q_nn, q_z, q_le0, q_b0, q_b1, nI_add, nI_0, q_off, q_self, q_oth, cst_2, st_2, ↓reduceIte, f_X8_cellAt, f_X8_roadAt, q_le1, q_nle1, q_le2, q_nle2, q_le5, q_nle5, q_le6, q_nle6, q_le8, q_nle8, q_le12, q_nle12, q_le25, q_nle25, q_le36, q_nle36, q_le60, q_nle60, q_le99, q_nle99, q_le100, q_nle100, q_le300, q_nle300, q_le640, q_nle640, q_le411, q_nle411, q_mul2, q_lmul2, q_mul3, q_lmul3, q_mul5, q_lmul5, q_mul6, q_lmul6, q_mul10, q_lmul10, q_add1, q_ladd1, q_add2, q_ladd2, q_add3, q_ladd3, q_add5, q_ladd5, q_add6, q_ladd6, q_add100, q_ladd100, q_div2, q_rem2, q_div3, q_rem3, q_div6, q_rem6, q_div10, q_rem10, hM'.1, hM'.2.1, q7, q8, a, b, m1, m2, if_true, show i < g_S G by omega, show i < g_T G by omega]
      · by_cases d : i < g_T G
        · simp (disch := omega) only [lt_k, bnv_s, bnd_s, grd_t, q_in, q_inb, q_c, q_leT, q_leF, q_ltT, q_ltF, q_neg, q_nn, q_z, q_le0, q_b0, q_b1, nI_add, nI_0, q_off, q_self, q_oth, cst_2, st_2, ↓reduceIte, f_X8_cellAt, f_X8_roadAt, q_le1, q_nle1, q_le2, q_nle2, q_le5, q_nle5, q_le6, q_nle6, q_le8, q_nle8, q_le12, q_nle12, q_le25, q_nle25, q_le36, q_nle36, q_le60, q_nle60, q_le99, q_nle99, q_le100, q_nle100, q_le300, q_nle300, q_le640, q_nle640, q_le411, q_nle411, q_mul2, q_lmul2, q_mul3, q_lmul3, q_mul5, q_lmul5, q_mul6, q_lmul6, q_mul10, q_lmul10, q_add1, q_ladd1, q_add2, q_ladd2, q_add3, q_ladd3, q_add5, q_ladd5, q_add6, q_ladd6, q_add100, q_ladd100, q_div2, q_rem2, q_div3, q_rem3, q_div6, q_rem6, q_div10, q_rem10, hM'.1, hM'.2.1, q7, q8, a, b, m1, show i < g_S G by omega, d]
        · simp (disch := omega) only [lt_k, bnv_s, bnd_s, grd_t, q_in, q_inb, q_c, q_leT, q_leF, q_ltT, q_ltF, q_neg, q_nn, q_z, q_le0, q_b0, q_b1, nI_add, nI_0, q_off, q_self, q_oth, cst_2, st_2, ↓reduceIte, f_X8_cellAt, f_X8_roadAt, q_le1, q_nle1, q_le2, q_nle2, q_le5, q_nle5, q_le6, q_nle6, q_le8, q_nle8, q_le12, q_nle12, q_le25, q_nle25, q_le36, q_nle36, q_le60, q_nle60, q_le99, q_nle99, q_le100, q_nle100, q_le300, q_nle300, q_le640, q_nle640, q_le411, q_nle411, q_mul2, q_lmul2, q_mul3, q_lmul3, q_mul5, q_lmul5, q_mul6, q_lmul6, q_mul10, q_lmul10, q_add1, q_ladd1, q_add2, q_ladd2, q_add3, q_ladd3, q_add5, q_ladd5, q_add6, q_ladd6, q_add100, q_ladd100, q_div2, q_rem2, q_div3, q_rem3, q_div6, q_rem6, q_div10, q_rem10, hM'.1, hM'.2.1, q7, q8, a, b, m1, show i < g_S G by omega, d]
      · by_cases d : i < g_S G
        · simp (disch := omega) only [lt_k, bnv_s, bnd_s, grd_t, q_in, q_inb, q_c, q_leT, q_leF, q_ltT, q_ltF, q_neg, q_nn, q_z, q_le0, q_b0, q_b1, nI_add, nI_0, q_off, q_self, q_oth, cst_2, st_2, ↓reduceIte, f_X8_cellAt, f_X8_roadAt, q_le1, q_nle1, q_le2, q_nle2, q_le5, q_nle5, q_le6, q_nle6, q_le8, q_nle8, q_le12, q_nle12, q_le25, q_nle25, q_le36, q_nle36, q_le60, q_nle60, q_le99, q_nle99, q_le100, q_nle100, q_le300, q_nle300, q_le640, q_nle640, q_le411, q_nle411, q_mul2, q_lmul2, q_mul3, q_lmul3, q_mul5, q_lmul5, q_mul6, q_lmul6, q_mul10, q_lmul10, q_add1, q_ladd1, q_add2, q_ladd2, q_add3, q_ladd3, q_add5, q_ladd5, q_add6, q_ladd6, q_add100, q_ladd100, q_div2, q_rem2, q_div3, q_rem3, q_div6, q_rem6, q_div10, q_rem10, hM'.1, hM'.2.1, q7, q8, a, b, m2, show i < g_T G by omega, d]
        · simp (disch := omega) only [lt_k, bnv_s, bnd_s, grd_t, q_in, q_inb, q_c, q_leT, q_leF, q_ltT, q_ltF, q_neg, q_nn, q_z, q_le0, q_b0, q_b1, nI_add, nI_0, q_off, q_self, q_oth, cst_2, st_2, ↓reduceIte, f_X8_cellAt, f_X8_roadAt, q_le1, q_nle1, q_le2, q_nle2, q_le5, q_nle5, q_le6, q_nle6, q_le8, q_nle8, q_le12, q_nle12, q_le25, q_nle25, q_le36, q_nle36, q_le60, q_nle60, q_le99, q_nle99, q_le100, q_nle100, q_le300, q_nle300, q_le640, q_nle640, q_le411, q_nle411, q_mul2, q_lmul2, q_mul3, q_lmul3, q_mul5, q_lmul5, q_mul6, q_lmul6, q_mul10, q_lmul10, q_add1, q_ladd1, q_add2, q_ladd2, q_add3, q_ladd3, q_add5, q_ladd5, q_add6, q_ladd6, q_add100, q_ladd100, q_div2, q_rem2, q_div3, q_rem3, q_div6, q_rem6, q_div10, q_rem10, hM'.1, hM'.2.1, q7, q8, a, b, m2, show i < g_T G by omega, d]
      · by_cases d : i < g_S G <;> by_cases e : i < g_T G
        · simp (disch := omega) only [lt_k, bnv_s, bnd_s, grd_t, q_in, q_inb, q_c, q_leT, q_leF, q_ltT, q_ltF, q_neg, q_nn, q_z, q_le0, q_b0, q_b1, nI_add, nI_0, q_off, q_self, q_oth, cst_2, st_2, ↓reduceIte, f_X8_cellAt, f_X8_roadAt, q_le1, q_nle1, q_le2, q_nle2, q_le5, q_nle5, q_le6, q_nle6, q_le8, q_nle8, q_le12, q_nle12, q_le25, q_nle25, q_le36, q_nle36, q_le60, q_nle60, q_le99, q_nle99, q_le100, q_nle100, q_le300, q_nle300, q_le640, q_nle640, q_le411, q_nle411, q_mul2, q_lmul2, q_mul3, q_lmul3, q_mul5, q_lmul5, q_mul6, q_lmul6, q_mul10, q_lmul10, q_add1, q_ladd1, q_add2, q_ladd2, q_add3, q_ladd3, q_add5, q_ladd5, q_add6, q_ladd6, q_add100, q_ladd100, q_div2, q_rem2, q_div3, q_rem3, q_div6, q_rem6, q_div10, q_rem10, hM'.1, hM'.2.1, q7, q8, a, b, d, e]
        · simp (disch := omega) only [lt_k, bnv_s, bnd_s, grd_t, q_in, q_inb, q_c, q_leT, q_leF, q_ltT, q_ltF, q_neg, q_nn, q_z, q_le0, q_b0, q_b1, nI_add, nI_0, q_off, q_self, q_oth, cst_2, st_2, ↓reduceIte, f_X8_cellAt, f_X8_roadAt, q_le1, q_nle1, q_le2, q_nle2, q_le5, q_nle5, q_le6, q_nle6, q_le8, q_nle8, q_le12, q_nle12, q_le25, q_nle25, q_le36, q_nle36, q_le60, q_nle60, q_le99, q_nle99, q_le100, q_nle100, q_le300, q_nle300, q_le640, q_nle640, q_le411, q_nle411, q_mul2, q_lmul2, q_mul3, q_lmul3, q_mul5, q_lmul5, q_mul6, q_lmul6, q_mul10, q_lmul10, q_add1, q_ladd1, q_add2, q_ladd2, q_add3, q_ladd3, q_add5, q_ladd5, q_add6, q_ladd6, q_add100, q_ladd100, q_div2, q_rem2, q_div3, q_rem3, q_div6, q_rem6, q_div10, q_rem10, hM'.1, hM'.2.1, q7, q8, a, b, d, e]
        · simp (disch := omega) only [lt_k, bnv_s, bnd_s, grd_t, q_in, q_inb, q_c, q_leT, q_leF, q_ltT, q_ltF, q_neg, q_nn, q_z, q_le0, q_b0, q_b1, nI_add, nI_0, q_off, q_self, q_oth, cst_2, st_2, ↓reduceIte, f_X8_cellAt, f_X8_roadAt, q_le1, q_nle1, q_le2, q_nle2, q_le5, q_nle5, q_le6, q_nle6, q_le8, q_nle8, q_le12, q_nle12, q_le25, q_nle25, q_le36, q_nle36, q_le60, q_nle60, q_le99, q_nle99, q_le100, q_nle100, q_le300, q_nle300, q_le640, q_nle640, q_le411, q_nle411, q_mul2, q_lmul2, q_mul3, q_lmul3, q_mul5, q_lmul5, q_mul6, q_lmul6, q_mul10, q_lmul10, q_add1, q_ladd1, q_add2, q_ladd2, q_add3, q_ladd3, q_add5, q_ladd5, q_add6, q_ladd6, q_add100, q_ladd100, q_div2, q_rem2, q_div3, q_rem3, q_div6, q_rem6, q_div10, q_rem10, hM'.1, hM'.2.1, q7, q8, a, b, d, e]
        · simp (disch := omega) only [lt_k, bnv_s, bnd_s, grd_t, q_in, q_inb, q_c, q_leT, q_leF, q_ltT, q_ltF, q_neg, q_nn, q_z, q_le0, q_b0, q_b1, nI_add, nI_0, q_off, q_self, q_oth, cst_2, st_2, ↓reduceIte, f_X8_cellAt, f_X8_roadAt, q_le1, q_nle1, q_le2, q_nle2, q_le5, q_nle5, q_le6, q_nle6, q_le8, q_nle8, q_le12, q_nle12, q_le25, q_nle25, q_le36, q_nle36, q_le60, q_nle60, q_le99, q_nle99, q_le100, q_nle100, q_le300, q_nle300, q_le640, q_nle640, q_le411, q_nle411, q_mul2, q_lmul2, q_mul3, q_lmul3, q_mul5, q_lmul5, q_mul6, q_lmul6, q_mul10, q_lmul10, q_add1, q_ladd1, q_add2, q_ladd2, q_add3, q_ladd3, q_add5, q_ladd5, q_add6, q_ladd6, q_add100, q_ladd100, q_div2, q_rem2, q_div3, q_rem3, q_div6, q_rem6, q_div10, q_rem10, hM'.1, hM'.2.1, q7, q8, a, b, d, e]
  · rintro n s ⟨p1, p2⟩
    refine ⟨s, ?_, p1, fun v hv => ?_, fun v hv => ?_⟩
    · show g_X9_opens_55 _ (g_over G) (nI 6) s = _
      unfold g_X9_opens_55
      rw [if_pos (by decide)]
    · rcases hv with hv | hv
      · exact (p2 v (by omega)).1 hv
      · have := (p2 (v - 6) (by omega)).2.1 (by omega)
        rw [show 6 + (v - 6) = v by omega] at this
        exact this
    · by_cases q : v < 6
      · exact (p2 v q).2.2.1
      · have := (p2 (v - 6) (by omega)).2.2.2
        rw [show 6 + (v - 6) = v by omega] at this
        exact this
theorem x9_opensHead {G : TG} {μ : Mem} (h : MG G μ) (hG : g_ok G) (F : Nat) :
    lt (g_over G) (fun y5 => if 0 ≤ y5 then (lt (st μ 122 7 (μ.1 122 0 + 0)) (fun μ1 => if y5 ≤ 0 then lt (st μ1 122 8 (μ1.1 122 1 + 0)) (fun μ1 => lt (st μ1 122 9 0) (fun μ2 => f_X9_opens_55 F y5 0 μ2)) else lt (st μ1 122 8 (μ1.1 122 1 + 1)) (fun μ1 => lt (st μ1 122 9 0) (fun μ2 => f_X9_opens_55 F y5 0 μ2)))) else
      (lt (st μ 122 7 (μ.1 122 0 + 1)) (fun μ1 => if y5 ≤ 0 then lt (st μ1 122 8 (μ1.1 122 1 + 0)) (fun μ1 => lt (st μ1 122 9 0) (fun μ2 => f_X9_opens_55 F y5 0 μ2)) else lt (st μ1 122 8 (μ1.1 122 1 + 1)) (fun μ1 => lt (st μ1 122 9 0) (fun μ2 => f_X9_opens_55 F y5 0 μ2))))) = f_X9_opens_55 F (g_over G) 0 (st (st (st μ 122 7 (nI (g_S G))) 122 8 (nI (g_T G))) 122 9 0) := by
  have r0 : ∀ x, (st μ 122 7 x).1 122 1 = nI G.2.1 := fun x => by rw [q_oth _ _ _ (by omega)]; exact h.2.1
  simp only [lt_k, r0, h.1, Int32.add_zero, q_add1]
  unfold g_S g_T
  by_cases a : 0 ≤ g_over G
  · rw [if_pos a, if_neg (show ¬ g_over G < 0 by rw [i_lt]; rw [i_le] at a; omega)]
    by_cases b : g_over G ≤ 0
    · rw [if_pos b, if_neg (show ¬ 0 < g_over G by rw [i_lt]; rw [i_le] at b; omega)]; rfl
    · rw [if_neg b, if_pos (show 0 < g_over G by rw [i_lt]; rw [i_le] at b; omega)]; rfl
  · rw [if_neg a, if_pos (show g_over G < 0 by rw [i_lt]; rw [i_le] at a; omega)]
    have b : g_over G ≤ 0 := by rw [i_le]; rw [i_le] at a; omega
    rw [if_pos b, if_neg (show ¬ 0 < g_over G by rw [i_lt]; rw [i_le] at b; omega)]; rfl
theorem x9_opens {G : TG} {μ : Mem} (h : MG G μ) (hG : g_ok G) : ∃ μ', f_X9_opens μ = some μ' ∧ fr SA μ μ' ∧ MSt (g_S G) (g_T G) (g_cost G) (g_st G) μ' := by
  have e1 : f_X9_opens μ = f_X9_opens_55 FU (g_over G) 0 (st (st (st μ 122 7 (nI (g_S G))) 122 8 (nI (g_T G))) 122 9 0) := by
    rw [← x9_opensHead h hG FU]
    unfold f_X9_opens
    rw [x9_sum0 h hG, bnv_s, x9_sum1 h hG, bnv_s]
    rfl
  rw [e1]
  clear e1
  generalize em : st (st (st μ 122 7 (nI (g_S G))) 122 8 (nI (g_T G))) 122 9 0 = m
  have f0 : fr (fun c j => c = 122 ∧ (j = 7 ∨ j = 8 ∨ j = 9)) μ m := by rw [← em]; exact fr_st' (fr_st' (fr_st (by omega)) (by omega)) (by omega)
  have h7 : m.1 122 7 = nI (g_S G) := by rw [← em]; simp (disch := omega) only [lt_k, bnv_s, bnd_s, grd_t, q_in, q_inb, q_c, q_leT, q_leF, q_ltT, q_ltF, q_neg, q_nn, q_z, q_le0, q_b0, q_b1, nI_add, nI_0, q_off, q_self, q_oth, cst_2, st_2, ↓reduceIte, f_X8_cellAt, f_X8_roadAt, q_le1, q_nle1, q_le2, q_nle2, q_le5, q_nle5, q_le6, q_nle6, q_le8, q_nle8, q_le12, q_nle12, q_le25, q_nle25, q_le36, q_nle36, q_le60, q_nle60, q_le99, q_nle99, q_le100, q_nle100, q_le300, q_nle300, q_le640, q_nle640, q_le411, q_nle411, q_mul2, q_lmul2, q_mul3, q_lmul3, q_mul5, q_lmul5, q_mul6, q_lmul6, q_mul10, q_lmul10, q_add1, q_ladd1, q_add2, q_ladd2, q_add3, q_ladd3, q_add5, q_ladd5, q_add6, q_ladd6, q_add100, q_ladd100, q_div2, q_rem2, q_div3, q_rem3, q_div6, q_rem6, q_div10, q_rem10, lt_k]
  have h8 : m.1 122 8 = nI (g_T G) := by rw [← em]; simp (disch := omega) only [lt_k, bnv_s, bnd_s, grd_t, q_in, q_inb, q_c, q_leT, q_leF, q_ltT, q_ltF, q_neg, q_nn, q_z, q_le0, q_b0, q_b1, nI_add, nI_0, q_off, q_self, q_oth, cst_2, st_2, ↓reduceIte, f_X8_cellAt, f_X8_roadAt, q_le1, q_nle1, q_le2, q_nle2, q_le5, q_nle5, q_le6, q_nle6, q_le8, q_nle8, q_le12, q_nle12, q_le25, q_nle25, q_le36, q_nle36, q_le60, q_nle60, q_le99, q_nle99, q_le100, q_nle100, q_le300, q_nle300, q_le640, q_nle640, q_le411, q_nle411, q_mul2, q_lmul2, q_mul3, q_lmul3, q_mul5, q_lmul5, q_mul6, q_lmul6, q_mul10, q_lmul10, q_add1, q_ladd1, q_add2, q_ladd2, q_add3, q_ladd3, q_add5, q_ladd5, q_add6, q_ladd6, q_add100, q_ladd100, q_div2, q_rem2, q_div3, q_rem3, q_div6, q_rem6, q_div10, q_rem10, lt_k]
  have h9 : m.1 122 9 = 0 := by rw [← em]; simp (disch := omega) only [lt_k, bnv_s, bnd_s, grd_t, q_in, q_inb, q_c, q_leT, q_leF, q_ltT, q_ltF, q_neg, q_nn, q_z, q_le0, q_b0, q_b1, nI_add, nI_0, q_off, q_self, q_oth, cst_2, st_2, ↓reduceIte, f_X8_cellAt, f_X8_roadAt, q_le1, q_nle1, q_le2, q_nle2, q_le5, q_nle5, q_le6, q_nle6, q_le8, q_nle8, q_le12, q_nle12, q_le25, q_nle25, q_le36, q_nle36, q_le60, q_nle60, q_le99, q_nle99, q_le100, q_nle100, q_le300, q_nle300, q_le640, q_nle640, q_le411, q_nle411, q_mul2, q_lmul2, q_mul3, q_lmul3, q_mul5, q_lmul5, q_mul6, q_lmul6, q_mul10, q_lmul10, q_add1, q_ladd1, q_add2, q_ladd2, q_add3, q_ladd3, q_add5, q_ladd5, q_add6, q_ladd6, q_add100, q_ladd100, q_div2, q_rem2, q_div3, q_rem3, q_div6, q_rem6, q_div10, q_rem10, lt_k]
  clear em
  have hM := MG_fr h f0 (fun c j a => by omega)
  obtain ⟨m1, e1, f1, a1, a2⟩ := x9_open55 hM hG h7 h8 FU (fun h => by unfold FU at h; omega) rfl
  have hM1 := MG_fr hM f1 (fun c j a => by omega)
  obtain ⟨m2, e2, f2, b1⟩ := x9_opens164 hM1 hG
  refine ⟨m2, by rw [e1, e2], fr_trans (fr_trans (C := SA) f0 f1 (fun c j h => by unfold SA; omega) (fun c j h => by unfold SA; omega)) f2 (fun c j h => h) (fun c j h => by unfold SA; omega), ?_, ?_, ?_, fun v hv => ?_, fun v hv => ?_, b1⟩
  · rw [f2.2 _ _ (by omega), f1.2 _ _ (by omega)]; exact h7
  · rw [f2.2 _ _ (by omega), f1.2 _ _ (by omega)]; exact h8
  · rw [f2.2 _ _ (by omega), f1.2 _ _ (by omega)]; exact h9
  · rw [f2.2 _ _ (by omega)]; exact a1 v hv
  · rw [f2.2 _ _ (by omega)]; exact a2 v hv
theorem x9_openOnes {O : Nat → Bool} {μ : Mem} (b : Nat) (hb : b ≤ 6) (h : ∀ v, v < 12 → μ.1 141 v = b01 (O v)) : f_X9_openOnes (nI b) μ = some (nI (t_ctr (fun v => O (b + v)) 6)) := by
  unfold f_X9_openOnes
  suffices hg : ∀ z : Option Int32, z = f_X9_openOnes_4 (nI b) μ FU 0 (nI b) → z = some (nI (t_ctr (fun v => O (b + v)) 6)) from hg _ rfl
  intro z hz
  rw [hz]
  refine q_loop (fun n i (s : Int32) => f_X9_openOnes_4 (nI b) μ n s (nI (b + i))) 6 (fun i s => s = nI (t_ctr (fun v => O (b + v)) i)) (fun z => z = some (nI (t_ctr (fun v => O (b + v)) 6))) (fun n i s hi hv => Or.inr ⟨nI (t_ctr (fun v => O (b + v)) (i + 1)), rfl, ?_⟩) (fun n s hv => ?_) 6 0 FU 0 (by omega) (by unfold FU; omega) rfl
  · have a := h (b + i) (by omega)
    show g_X9_openOnes_4 (nI b) μ _ s (nI (b + i)) = _
    unfold g_X9_openOnes_4
    rw [hv]
    show _ = f_X9_openOnes_4 (nI b) μ n (nI (t_ctr (fun v => O (b + v)) i + if O (b + i) = true then 1 else 0)) (nI (b + (i + 1)))
    cases o : O (b + i)
    · rw [o] at a
      simp (disch := omega) only [lt_k, bnv_s, bnd_s, grd_t, q_in, q_inb, q_c, q_leT, q_leF, q_ltT, q_ltF, q_neg, q_nn, q_z, q_le0, q_b0, q_b1, nI_add, nI_0, q_off, q_self, q_oth, cst_2, st_2, ↓reduceIte, f_X8_cellAt, f_X8_roadAt, q_le1, q_nle1, q_le2, q_nle2, q_le5, q_nle5, q_le6, q_nle6, q_le8, q_nle8, q_le12, q_nle12, q_le25, q_nle25, q_le36, q_nle36, q_le60, q_nle60, q_le99, q_nle99, q_le100, q_nle100, q_le300, q_nle300, q_le640, q_nle640, q_le411, q_nle411, q_mul2, q_lmul2, q_mul3, q_lmul3, q_mul5, q_lmul5, q_mul6, q_lmul6, q_mul10, q_lmul10, q_add1, q_ladd1, q_add2, q_ladd2, q_add3, q_ladd3, q_add5, q_ladd5, q_add6, q_ladd6, q_add100, q_ladd100, q_div2, q_rem2, q_div3, q_rem3, q_div6, q_rem6, q_div10, q_rem10, a, b01_f, Int32.add_zero, Bool.false_eq_true, Nat.add_zero, show b + (i + 1) = b + i + 1 by omega]
    · rw [o] at a
      simp (disch := omega) only [lt_k, bnv_s, bnd_s, grd_t, q_in, q_inb, q_c, q_leT, q_leF, q_ltT, q_ltF, q_neg, q_nn, q_z, q_le0, q_b0, q_b1, nI_add, nI_0, q_off, q_self, q_oth, cst_2, st_2, ↓reduceIte, f_X8_cellAt, f_X8_roadAt, q_le1, q_nle1, q_le2, q_nle2, q_le5, q_nle5, q_le6, q_nle6, q_le8, q_nle8, q_le12, q_nle12, q_le25, q_nle25, q_le36, q_nle36, q_le60, q_nle60, q_le99, q_nle99, q_le100, q_nle100, q_le300, q_nle300, q_le640, q_nle640, q_le411, q_nle411, q_mul2, q_lmul2, q_mul3, q_lmul3, q_mul5, q_lmul5, q_mul6, q_lmul6, q_mul10, q_lmul10, q_add1, q_ladd1, q_add2, q_ladd2, q_add3, q_ladd3, q_add5, q_ladd5, q_add6, q_ladd6, q_add100, q_ladd100, q_div2, q_rem2, q_div3, q_rem3, q_div6, q_rem6, q_div10, q_rem10, a, b01_t, q_10, show b + (i + 1) = b + i + 1 by omega]
  · show g_X9_openOnes_4 (nI b) μ _ s (nI (b + 6)) = _
    unfold g_X9_openOnes_4
    simp (disch := omega) only [lt_k, bnv_s, bnd_s, grd_t, q_in, q_inb, q_c, q_leT, q_leF, q_ltT, q_ltF, q_neg, q_nn, q_z, q_le0, q_b0, q_b1, nI_add, nI_0, q_off, q_self, q_oth, cst_2, st_2, ↓reduceIte, f_X8_cellAt, f_X8_roadAt, q_le1, q_nle1, q_le2, q_nle2, q_le5, q_nle5, q_le6, q_nle6, q_le8, q_nle8, q_le12, q_nle12, q_le25, q_nle25, q_le36, q_nle36, q_le60, q_nle60, q_le99, q_nle99, q_le100, q_nle100, q_le300, q_nle300, q_le640, q_nle640, q_le411, q_nle411, q_mul2, q_lmul2, q_mul3, q_lmul3, q_mul5, q_lmul5, q_mul6, q_lmul6, q_mul10, q_lmul10, q_add1, q_ladd1, q_add2, q_ladd2, q_add3, q_ladd3, q_add5, q_ladd5, q_add6, q_ladd6, q_add100, q_ladd100, q_div2, q_rem2, q_div3, q_rem3, q_div6, q_rem6, q_div10, q_rem10, hv]
theorem x9_pick {S T : Nat} {cost : Nat → Int32} {s : TS} {μ : Mem} (rule : Int32) (hk : t_sok S T s) (hc : t_cok cost S T) (hx : MSt S T cost s μ) (h2 : 0 < t_sinks s.1) (q4 : Mem → Option Mem) :
    ∃ c μ', t_pk rule cost s.1 c ∧ g_X9_starts_4 rule q4 μ = q4 μ' ∧ fr SA μ μ' ∧ MSt S T cost (t_nx s c) μ' := by
  obtain ⟨a1, a2, a3, a4, a5, a6⟩ := hx
  have hS := hk.1
  have hT := hk.2.1
  have hnd := hk.2.2.1.2.1
  have hpos := hk.2.2.2.1
  have hpm : PM cost s.1 μ := ⟨a5, fun c hc' ho => by
    have hp := t_opc_pl hS hnd hc' ho
    exact ⟨(a6 c hc').1, hc c hc' hp.1 hp.2⟩⟩
  obtain ⟨c, e1, hpk⟩ := x9_picked rule hpm hpos h2
  obtain ⟨hc36, hopc⟩ := t_pk_open hpk
  have hpl := t_opc_pl hS hnd hc36 hopc
  have o1 := hopc.1
  have o2 := hopc.2
  have ts6 := t_ctr_le (fun v => s.1 (6 + v)) 6
  change t_sinks s.1 ≤ 6 at ts6
  have l1 := a4 (c / 6) (hnd _ o1)
  have l2 := a4 (6 + c % 6) (hnd _ o2)
  generalize emn : mn (s.2.1 (c / 6)) (s.2.1 (6 + c % 6)) = its
  have en : t_nx s c = (t_put s.1 (t_cl s.1 (s.2.1 (c / 6) - its) c) false, upd (upd s.2.1 (c / 6) (s.2.1 (c / 6) - its)) (6 + c % 6) (s.2.1 (6 + c % 6) - its), t_put s.2.2.1 c true, upd s.2.2.2 c its) := by
    unfold t_nx; rw [emn]
  generalize em : st (st (st (st μ 128 c its) 129 c 1) 140 (c / 6) (s.2.1 (c / 6) - its)) 140 (6 + c % 6) (s.2.1 (6 + c % 6) - its) = m2
  have f2 : fr SA μ m2 := by
    rw [← em]
    exact fr_st' (fr_st' (fr_st' (fr_st (by unfold SA; omega)) (by unfold SA; omega)) (by unfold SA; omega)) (by unfold SA; omega)
  have b1 : m2.1 122 = μ.1 122 := by rw [← em]; simp (disch := omega) only [lt_k, bnv_s, bnd_s, grd_t, q_in, q_inb, q_c, q_leT, q_leF, q_ltT, q_ltF, q_neg, q_nn, q_z, q_le0, q_b0, q_b1, nI_add, nI_0, q_off, q_self, q_oth, cst_2, st_2, ↓reduceIte, f_X8_cellAt, f_X8_roadAt, q_le1, q_nle1, q_le2, q_nle2, q_le5, q_nle5, q_le6, q_nle6, q_le8, q_nle8, q_le12, q_nle12, q_le25, q_nle25, q_le36, q_nle36, q_le60, q_nle60, q_le99, q_nle99, q_le100, q_nle100, q_le300, q_nle300, q_le640, q_nle640, q_le411, q_nle411, q_mul2, q_lmul2, q_mul3, q_lmul3, q_mul5, q_lmul5, q_mul6, q_lmul6, q_mul10, q_lmul10, q_add1, q_ladd1, q_add2, q_ladd2, q_add3, q_ladd3, q_add5, q_ladd5, q_add6, q_ladd6, q_add100, q_ladd100, q_div2, q_rem2, q_div3, q_rem3, q_div6, q_rem6, q_div10, q_rem10, lt_k]
  have b5 : ∀ v, v < 12 → m2.1 141 v = b01 (s.1 v) := by intro v hv; rw [← em]; simp (disch := omega) only [lt_k, bnv_s, bnd_s, grd_t, q_in, q_inb, q_c, q_leT, q_leF, q_ltT, q_ltF, q_neg, q_nn, q_z, q_le0, q_b0, q_b1, nI_add, nI_0, q_off, q_self, q_oth, cst_2, st_2, ↓reduceIte, f_X8_cellAt, f_X8_roadAt, q_le1, q_nle1, q_le2, q_nle2, q_le5, q_nle5, q_le6, q_nle6, q_le8, q_nle8, q_le12, q_nle12, q_le25, q_nle25, q_le36, q_nle36, q_le60, q_nle60, q_le99, q_nle99, q_le100, q_nle100, q_le300, q_nle300, q_le640, q_nle640, q_le411, q_nle411, q_mul2, q_lmul2, q_mul3, q_lmul3, q_mul5, q_lmul5, q_mul6, q_lmul6, q_mul10, q_lmul10, q_add1, q_ladd1, q_add2, q_ladd2, q_add3, q_ladd3, q_add5, q_ladd5, q_add6, q_ladd6, q_add100, q_ladd100, q_div2, q_rem2, q_div3, q_rem3, q_div6, q_rem6, q_div10, q_rem10, lt_k]; exact a5 v hv
  have b4 : ∀ v, t_nd S T v → m2.1 140 v = (t_nx s c).2.1 v := by
    intro v hv
    rw [en, ← em]
    simp (disch := omega) only [lt_k, bnv_s, bnd_s, grd_t, q_in, q_inb, q_c, q_leT, q_leF, q_ltT, q_ltF, q_neg, q_nn, q_z, q_le0, q_b0, q_b1, nI_add, nI_0, q_off, q_self, q_oth, cst_2, st_2, ↓reduceIte, f_X8_cellAt, f_X8_roadAt, q_le1, q_nle1, q_le2, q_nle2, q_le5, q_nle5, q_le6, q_nle6, q_le8, q_nle8, q_le12, q_nle12, q_le25, q_nle25, q_le36, q_nle36, q_le60, q_nle60, q_le99, q_nle99, q_le100, q_nle100, q_le300, q_nle300, q_le640, q_nle640, q_le411, q_nle411, q_mul2, q_lmul2, q_mul3, q_lmul3, q_mul5, q_lmul5, q_mul6, q_lmul6, q_mul10, q_lmul10, q_add1, q_ladd1, q_add2, q_ladd2, q_add3, q_ladd3, q_add5, q_ladd5, q_add6, q_ladd6, q_add100, q_ladd100, q_div2, q_rem2, q_div3, q_rem3, q_div6, q_rem6, q_div10, q_rem10, q_at]
    unfold upd
    by_cases q : v = 6 + c % 6
    · rw [if_pos q, if_pos q]
    · rw [if_neg q, if_neg q]
      by_cases q2 : v = c / 6
      · rw [if_pos q2, if_pos q2]
      · rw [if_neg q2, if_neg q2]; exact a4 v hv
  have b6 : ∀ d, d < 36 → m2.1 127 d = cost d ∧ m2.1 128 d = (t_nx s c).2.2.2 d ∧ m2.1 129 d = b01 ((t_nx s c).2.2.1 d) := by
    intro d hd
    rw [en, ← em]
    simp (disch := omega) only [lt_k, bnv_s, bnd_s, grd_t, q_in, q_inb, q_c, q_leT, q_leF, q_ltT, q_ltF, q_neg, q_nn, q_z, q_le0, q_b0, q_b1, nI_add, nI_0, q_off, q_self, q_oth, cst_2, st_2, ↓reduceIte, f_X8_cellAt, f_X8_roadAt, q_le1, q_nle1, q_le2, q_nle2, q_le5, q_nle5, q_le6, q_nle6, q_le8, q_nle8, q_le12, q_nle12, q_le25, q_nle25, q_le36, q_nle36, q_le60, q_nle60, q_le99, q_nle99, q_le100, q_nle100, q_le300, q_nle300, q_le640, q_nle640, q_le411, q_nle411, q_mul2, q_lmul2, q_mul3, q_lmul3, q_mul5, q_lmul5, q_mul6, q_lmul6, q_mul10, q_lmul10, q_add1, q_ladd1, q_add2, q_ladd2, q_add3, q_ladd3, q_add5, q_ladd5, q_add6, q_ladd6, q_add100, q_ladd100, q_div2, q_rem2, q_div3, q_rem3, q_div6, q_rem6, q_div10, q_rem10, q_at]
    unfold upd t_put
    by_cases q : d = c
    · rw [if_pos q, if_pos q, if_pos q, if_pos q]; exact ⟨(a6 d hd).1, rfl, rfl⟩
    · rw [if_neg q, if_neg q, if_neg q, if_neg q]; exact a6 d hd
  have b14 : m2.1 140 (c / 6) = s.2.1 (c / 6) - its := by rw [← em]; simp (disch := omega) only [lt_k, bnv_s, bnd_s, grd_t, q_in, q_inb, q_c, q_leT, q_leF, q_ltT, q_ltF, q_neg, q_nn, q_z, q_le0, q_b0, q_b1, nI_add, nI_0, q_off, q_self, q_oth, cst_2, st_2, ↓reduceIte, f_X8_cellAt, f_X8_roadAt, q_le1, q_nle1, q_le2, q_nle2, q_le5, q_nle5, q_le6, q_nle6, q_le8, q_nle8, q_le12, q_nle12, q_le25, q_nle25, q_le36, q_nle36, q_le60, q_nle60, q_le99, q_nle99, q_le100, q_nle100, q_le300, q_nle300, q_le640, q_nle640, q_le411, q_nle411, q_mul2, q_lmul2, q_mul3, q_lmul3, q_mul5, q_lmul5, q_mul6, q_lmul6, q_mul10, q_lmul10, q_add1, q_ladd1, q_add2, q_ladd2, q_add3, q_ladd3, q_add5, q_ladd5, q_add6, q_ladd6, q_add100, q_ladd100, q_div2, q_rem2, q_div3, q_rem3, q_div6, q_rem6, q_div10, q_rem10, lt_k]
  have e6 : f_X9_openOnes 6 μ = _ := x9_openOnes (O := s.1) 6 (by omega) a5
  change f_X9_openOnes 6 μ = some (nI (t_sinks s.1)) at e6
  have e0 : f_X9_openOnes 0 m2 = _ := x9_openOnes (O := s.1) 0 (by omega) b5
  simp only [Nat.zero_add] at e0
  change f_X9_openOnes 0 m2 = some (nI (t_ctr s.1 6)) at e0
  have ct6 := t_ctr_le s.1 6
  have hgo : ∀ x : Nat, x = t_cl s.1 (s.2.1 (c / 6) - its) c → g_X9_starts_4 rule q4 μ = q4 (st m2 141 x 0) := by
    intro x hxe
    unfold g_X9_starts_4
    simp (disch := omega) only [lt_k, bnv_s, bnd_s, grd_t, q_in, q_inb, q_c, q_leT, q_leF, q_ltT, q_ltF, q_neg, q_nn, q_z, q_le0, q_b0, q_b1, nI_add, nI_0, q_off, q_self, q_oth, cst_2, st_2, ↓reduceIte, f_X8_cellAt, f_X8_roadAt, q_le1, q_nle1, q_le2, q_nle2, q_le5, q_nle5, q_le6, q_nle6, q_le8, q_nle8, q_le12, q_nle12, q_le25, q_nle25, q_le36, q_nle36, q_le60, q_nle60, q_le99, q_nle99, q_le100, q_nle100, q_le300, q_nle300, q_le640, q_nle640, q_le411, q_nle411, q_mul2, q_lmul2, q_mul3, q_lmul3, q_mul5, q_lmul5, q_mul6, q_lmul6, q_mul10, q_lmul10, q_add1, q_ladd1, q_add2, q_ladd2, q_add3, q_ladd3, q_add5, q_ladd5, q_add6, q_ladd6, q_add100, q_ladd100, q_div2, q_rem2, q_div3, q_rem3, q_div6, q_rem6, q_div10, q_rem10, e6, e1, l1, l2, emn]
    rw [em]
    unfold t_cl at hxe
    by_cases q : s.2.1 (c / 6) - its = 0
    · by_cases r : 1 < t_ctr s.1 6
      · rw [if_pos ⟨q, r⟩] at hxe
        have n1 : (nI (t_ctr s.1 6) ≤ 1) = False := eq_false (fun q => by have := (nI_leI (b := 1) (by omega) (by decide)).mp q; omega)
        simp (disch := omega) only [lt_k, bnv_s, bnd_s, grd_t, q_in, q_inb, q_c, q_leT, q_leF, q_ltT, q_ltF, q_neg, q_nn, q_z, q_le0, q_b0, q_b1, nI_add, nI_0, q_off, q_self, q_oth, cst_2, st_2, ↓reduceIte, f_X8_cellAt, f_X8_roadAt, q_le1, q_nle1, q_le2, q_nle2, q_le5, q_nle5, q_le6, q_nle6, q_le8, q_nle8, q_le12, q_nle12, q_le25, q_nle25, q_le36, q_nle36, q_le60, q_nle60, q_le99, q_nle99, q_le100, q_nle100, q_le300, q_nle300, q_le640, q_nle640, q_le411, q_nle411, q_mul2, q_lmul2, q_mul3, q_lmul3, q_mul5, q_lmul5, q_mul6, q_lmul6, q_mul10, q_lmul10, q_add1, q_ladd1, q_add2, q_ladd2, q_add3, q_ladd3, q_add5, q_ladd5, q_add6, q_ladd6, q_add100, q_ladd100, q_div2, q_rem2, q_div3, q_rem3, q_div6, q_rem6, q_div10, q_rem10, b14, q, e0, n1, hxe]
      · rw [if_neg (fun h => r h.2)] at hxe
        have n1 : (nI (t_ctr s.1 6) ≤ 1) = True := eq_true ((nI_leI (b := 1) (by omega) (by decide)).mpr (Nat.le_of_not_lt r))
        simp (disch := omega) only [lt_k, bnv_s, bnd_s, grd_t, q_in, q_inb, q_c, q_leT, q_leF, q_ltT, q_ltF, q_neg, q_nn, q_z, q_le0, q_b0, q_b1, nI_add, nI_0, q_off, q_self, q_oth, cst_2, st_2, ↓reduceIte, f_X8_cellAt, f_X8_roadAt, q_le1, q_nle1, q_le2, q_nle2, q_le5, q_nle5, q_le6, q_nle6, q_le8, q_nle8, q_le12, q_nle12, q_le25, q_nle25, q_le36, q_nle36, q_le60, q_nle60, q_le99, q_nle99, q_le100, q_nle100, q_le300, q_nle300, q_le640, q_nle640, q_le411, q_nle411, q_mul2, q_lmul2, q_mul3, q_lmul3, q_mul5, q_lmul5, q_mul6, q_lmul6, q_mul10, q_lmul10, q_add1, q_ladd1, q_add2, q_ladd2, q_add3, q_ladd3, q_add5, q_ladd5, q_add6, q_ladd6, q_add100, q_ladd100, q_div2, q_rem2, q_div3, q_rem3, q_div6, q_rem6, q_div10, q_rem10, b14, q, e0, n1, hxe]
    · rw [if_neg (fun h => q h.1)] at hxe
      simp (disch := omega) only [lt_k, bnv_s, bnd_s, grd_t, q_in, q_inb, q_c, q_leT, q_leF, q_ltT, q_ltF, q_neg, q_nn, q_z, q_le0, q_b0, q_b1, nI_add, nI_0, q_off, q_self, q_oth, cst_2, st_2, ↓reduceIte, f_X8_cellAt, f_X8_roadAt, q_le1, q_nle1, q_le2, q_nle2, q_le5, q_nle5, q_le6, q_nle6, q_le8, q_nle8, q_le12, q_nle12, q_le25, q_nle25, q_le36, q_nle36, q_le60, q_nle60, q_le99, q_nle99, q_le100, q_nle100, q_le300, q_nle300, q_le640, q_nle640, q_le411, q_nle411, q_mul2, q_lmul2, q_mul3, q_lmul3, q_mul5, q_lmul5, q_mul6, q_lmul6, q_mul10, q_lmul10, q_add1, q_ladd1, q_add2, q_ladd2, q_add3, q_ladd3, q_add5, q_ladd5, q_add6, q_ladd6, q_add100, q_ladd100, q_div2, q_rem2, q_div3, q_rem3, q_div6, q_rem6, q_div10, q_rem10, b14, q, hxe]
  refine ⟨c, st m2 141 (t_cl s.1 (s.2.1 (c / 6) - its) c) 0, hpk, hgo _ rfl, fr_st' f2 (by unfold SA; omega), ?_, ?_, ?_, fun v hv => ?_, fun v hv => ?_, fun d hd => ?_⟩
  · rw [q_off _ _ _ (by omega), b1]; exact a1
  · rw [q_off _ _ _ (by omega), b1]; exact a2
  · rw [q_off _ _ _ (by omega), b1]; exact a3
  · rw [q_off _ _ _ (by omega)]; exact b4 v hv
  · rw [q_at, en]
    show _ = b01 (t_put s.1 (t_cl s.1 (s.2.1 (c / 6) - its) c) false v)
    unfold t_put
    by_cases q : v = t_cl s.1 (s.2.1 (c / 6) - its) c
    · rw [if_pos q, if_pos q]; rfl
    · rw [if_neg q, if_neg q]; exact b5 v hv
  · rw [q_off _ _ _ (by omega), q_off _ _ _ (by omega), q_off _ _ _ (by omega)]; exact b6 d hd
theorem x9_starts {G : TG} {μ : Mem} (rule : Int32) (hM : MG G μ) (hG : g_ok G) (hQ : 0 < G.1) (hW : 0 < G.2.1) :
    ∃ μ' s', f_X9_starts rule μ = some μ' ∧ fr SA μ μ' ∧ (∃ f, t_srun rule (g_cost G) f (g_st G) s') ∧ t_ok (g_S G) (g_T G) (g_cost G) (t_A0 s') ∧ MR (g_S G) (g_T G) (g_cost G) (t_A0 s') μ' ∧ ∀ c, c < 36 → μ'.1 127 c = g_cost G c := by
  obtain ⟨s1, s2, s3, s4⟩ := g_S6 hG
  obtain ⟨m1, e1, f1, x1⟩ := x9_opens hM hG
  have eh : f_X9_starts rule μ = f_X9_starts_4 rule FU m1 := by
    unfold f_X9_starts
    rw [e1, bnv_s]
  rw [eh]
  clear eh
  have hcok := g_cost_ok hG (g_S G) (g_T G)
  refine q_while (fun n (s : Mem × TS) => f_X9_starts_4 rule n s.1) (fun s => t_ctr s.2.1 12)
    (fun p => t_sok (g_S G) (g_T G) p.2 ∧ MSt (g_S G) (g_T G) (g_cost G) p.2 p.1 ∧ fr SA μ p.1 ∧ ∀ f s'', t_srun rule (g_cost G) f p.2 s'' → ∃ f', t_srun rule (g_cost G) f' (g_st G) s'')
    (fun z => ∃ μ' s', z = some μ' ∧ fr SA μ μ' ∧ (∃ f, t_srun rule (g_cost G) f (g_st G) s') ∧ t_ok (g_S G) (g_T G) (g_cost G) (t_A0 s') ∧ MR (g_S G) (g_T G) (g_cost G) (t_A0 s') μ' ∧ ∀ c, c < 36 → μ'.1 127 c = g_cost G c) ?_ 12 FU (m1, g_st G) (t_ctr_le _ _) (by unfold FU; omega) ⟨g_st_ok hG hQ hW, x1, f1, fun f s'' h => ⟨f, h⟩⟩
  rintro n ⟨m, s⟩ ⟨p1, p2, p3, p4⟩
  change t_sok _ _ s at p1
  change MSt _ _ _ s m at p2
  change fr SA μ m at p3
  by_cases h0 : t_sinks s.1 = 0
  · left
    refine ⟨m, s, ?_, p3, p4 0 s ⟨h0, rfl⟩, t_sok_end p1 (by omega) (by omega) h0 (g_cost G) hcok _ _ _, ⟨p2.1, p2.2.1, p2.2.2.1, fun c hc => (p2.2.2.2.2.2 c hc).2.1, fun c hc => (p2.2.2.2.2.2 c hc).2.2, fun c hc hp => (p2.2.2.2.2.2 c hc).1, fun j hj => by change j < 0 at hj; omega⟩, fun c hc => (p2.2.2.2.2.2 c hc).1⟩
    have e6 : f_X9_openOnes 6 m = _ := x9_openOnes (O := s.1) 6 (by omega) p2.2.2.2.2.1
    change f_X9_openOnes 6 m = some (nI (t_sinks s.1)) at e6
    show g_X9_starts_4 rule _ m = _
    unfold g_X9_starts_4
    rw [e6, bnv_s, h0, if_pos (by decide)]
  · right
    obtain ⟨c, m', hpk, e, f, x⟩ := x9_pick rule p1 hcok p2 (by omega) (f_X9_starts_4 rule n)
    obtain ⟨ho1, ho2⟩ := t_pk_open hpk
    obtain ⟨q1, q2⟩ := t_nx_ok p1 ho1 ho2
    refine ⟨(m', t_nx s c), ⟨q1, x, fr_then p3 f, fun f s'' h => p4 (f + 1) s'' (Or.inr ⟨by show 0 < t_sinks s.1; omega, c, hpk, h⟩)⟩, ?_, e⟩
    show t_ctr (t_nx s c).1 12 < t_ctr s.1 12
    omega
