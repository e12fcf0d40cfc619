/-! THE PURE PART: arguments (written by gen68.py) -/
theorem u8_1 (x : Int32) (μ : Mem) : f_X8_isUpTo x 1 μ = some (b2i (inR x 0 1)) := upTo_eq (n := 1) (by decide) μ
theorem u8_2 (x : Int32) (μ : Mem) : f_X8_isUpTo x 2 μ = some (b2i (inR x 0 2)) := upTo_eq (n := 2) (by decide) μ
theorem u8_3 (x : Int32) (μ : Mem) : f_X8_isUpTo x 3 μ = some (b2i (inR x 0 3)) := upTo_eq (n := 3) (by decide) μ
theorem u8_4 (x : Int32) (μ : Mem) : f_X8_isUpTo x 4 μ = some (b2i (inR x 0 4)) := upTo_eq (n := 4) (by decide) μ
theorem u8_9 (x : Int32) (μ : Mem) : f_X8_isUpTo x 9 μ = some (b2i (inR x 0 9)) := upTo_eq (n := 9) (by decide) μ
theorem u8_99 (x : Int32) (μ : Mem) : f_X8_isUpTo x 99 μ = some (b2i (inR x 0 99)) := upTo_eq (n := 99) (by decide) μ
theorem u8_100 (x : Int32) (μ : Mem) : f_X8_isUpTo x 100 μ = some (b2i (inR x 0 100)) := upTo_eq (n := 100) (by decide) μ
theorem u8_127 (x : Int32) (μ : Mem) : f_X8_isUpTo x 127 μ = some (b2i (inR x 0 127)) := upTo_eq (n := 127) (by decide) μ
theorem i9_1 (x : Int32) (μ : Mem) : f_X9_in (Int32.toInt64 x) 0 1 μ = some (b2i (inR x 0 1)) := in_32 x 0 1 μ
theorem i9_2 (x : Int32) (μ : Mem) : f_X9_in (Int32.toInt64 x) 0 2 μ = some (b2i (inR x 0 2)) := in_32 x 0 2 μ
theorem i9_3 (x : Int32) (μ : Mem) : f_X9_in (Int32.toInt64 x) 0 3 μ = some (b2i (inR x 0 3)) := in_32 x 0 3 μ
theorem i9_9 (x : Int32) (μ : Mem) : f_X9_in (Int32.toInt64 x) 0 9 μ = some (b2i (inR x 0 9)) := in_32 x 0 9 μ
theorem i9_99 (x : Int32) (μ : Mem) : f_X9_in (Int32.toInt64 x) 0 99 μ = some (b2i (inR x 0 99)) := in_32 x 0 99 μ
theorem i9_100 (x : Int32) (μ : Mem) : f_X9_in (Int32.toInt64 x) 0 100 μ = some (b2i (inR x 0 100)) := in_32 x 0 100 μ
theorem i9_127 (x : Int32) (μ : Mem) : f_X9_in (Int32.toInt64 x) 0 127 μ = some (b2i (inR x 0 127)) := in_32 x 0 127 μ
theorem i9_5 (x : Int32) (μ : Mem) : f_X9_in (Int32.toInt64 x) 0 5 μ = some (b2i (inR x 0 5)) := in_32 x 0 5 μ
theorem inR_t {x : Int32} {n : Int} : inR x 0 n = true ↔ 0 ≤ x.toInt ∧ x.toInt ≤ n := by unfold inR; exact decide_eq_true_iff
theorem b2i_t : b2i true = 1 := rfl
theorem b2i_f : b2i false = 0 := rfl
theorem nI_ex {x : Int32} {N : Nat} (h0 : 0 ≤ x.toInt) (h : x.toInt < N) : ∃ n, n < N ∧ x = nI n := ⟨x.toInt.toNat, by omega, (nI_of_toInt h0).1⟩
theorem q_rng (x : Int32) (N : Nat) (hN : N < 2147483648) : (∃ n, n < N ∧ x = nI n) ∨ (x < 0 ∧ ¬ (0 ≤ x.toInt ∧ x.toInt < N)) ∨ (¬ x < 0 ∧ nI N ≤ x ∧ ¬ (0 ≤ x.toInt ∧ x.toInt < N)) := by
  by_cases a : x.toInt < 0
  · exact Or.inr (Or.inl ⟨by rw [i_lt]; exact a, by omega⟩)
  · by_cases b : x.toInt < N
    · exact Or.inl (nI_ex (by omega) b)
    · exact Or.inr (Or.inr ⟨fun q => a (i_lt.mp q), by rw [i_le, nI_i hN]; omega, by omega⟩)
def inN (x : Int32) (N : Nat) : Bool := decide (0 ≤ x.toInt ∧ x.toInt < N)
theorem inN_n {n N : Nat} (h : n < N) (hN : N < 2147483648) : inN (nI n) N = true := decide_eq_true (by rw [nI_i (by omega)]; omega)
theorem i9_N (x : Int32) (N : Nat) (hN : N < 2147483648) (μ : Mem) : f_X9_in (Int32.toInt64 x) 0 (Int32.toInt64 (nI N - 1)) μ = some (b2i (inN x N)) := by
  rw [in_32, Int32.toInt_toInt64, q_predI (by omega), show (0 : Int64).toInt = 0 from rfl]
  unfold inR inN
  congr 2
  rw [decide_eq_decide]
  omega
theorem x0_isRoadG {g : Nat} {G : TG} {μ : Mem} (h : XG g G μ) (hG : g_ok G) (x y : Int32) : f_X0_isRoad g x y μ = some (if (0 ≤ x.toInt ∧ x.toInt < G.1) ∧ (0 ≤ y.toInt ∧ y.toInt < G.2.1) then 1 else 0) := by
  have h1 := hG.1
  have h2 := hG.2.1
  unfold f_X0_isRoad
  rcases q_rng x G.1 (by omega) with ⟨i, hi, rfl⟩ | ⟨a, b⟩ | ⟨a, b, c⟩
  · rcases q_rng y G.2.1 (by omega) with ⟨j, hj, rfl⟩ | ⟨a, b⟩ | ⟨a, b, c⟩
    · rw [if_pos (show (0 ≤ (nI i).toInt ∧ (nI i).toInt < G.1) ∧ (0 ≤ (nI j).toInt ∧ (nI j).toInt < G.2.1) by rw [nI_i (by omega), nI_i (by omega)]; omega)]
      simp (disch := omega) only [lt_k, bnv_s, bnd_s, grd_t, q_in, q_inb, q_c, q_leT, q_leF, q_ltT, q_ltF, q_neg, q_nn, q_z, q_le0, q_b0, q_b1, nI_add, nI_0, q_off, q_self, q_oth, cst_2, st_2, ↓reduceIte, f_X8_cellAt, f_X8_roadAt, q_le1, q_nle1, q_le2, q_nle2, q_le5, q_nle5, q_le6, q_nle6, q_le8, q_nle8, q_le12, q_nle12, q_le25, q_nle25, q_le36, q_nle36, q_le60, q_nle60, q_le99, q_nle99, q_le100, q_nle100, q_le300, q_nle300, q_le640, q_nle640, q_le411, q_nle411, q_mul2, q_lmul2, q_mul3, q_lmul3, q_mul5, q_lmul5, q_mul6, q_lmul6, q_mul10, q_lmul10, q_add1, q_ladd1, q_add2, q_ladd2, q_add3, q_ladd3, q_add5, q_ladd5, q_add6, q_ladd6, q_add100, q_ladd100, q_div2, q_rem2, q_div3, q_rem3, q_div6, q_rem6, q_div10, q_rem10, h.1, h.2.1]
    · rw [if_neg (show ¬ ((0 ≤ (nI i).toInt ∧ (nI i).toInt < G.1) ∧ (0 ≤ y.toInt ∧ y.toInt < G.2.1)) from fun q => b q.2)]
      simp (disch := omega) only [lt_k, bnv_s, bnd_s, grd_t, q_in, q_inb, q_c, q_leT, q_leF, q_ltT, q_ltF, q_neg, q_nn, q_z, q_le0, q_b0, q_b1, nI_add, nI_0, q_off, q_self, q_oth, cst_2, st_2, ↓reduceIte, f_X8_cellAt, f_X8_roadAt, q_le1, q_nle1, q_le2, q_nle2, q_le5, q_nle5, q_le6, q_nle6, q_le8, q_nle8, q_le12, q_nle12, q_le25, q_nle25, q_le36, q_nle36, q_le60, q_nle60, q_le99, q_nle99, q_le100, q_nle100, q_le300, q_nle300, q_le640, q_nle640, q_le411, q_nle411, q_mul2, q_lmul2, q_mul3, q_lmul3, q_mul5, q_lmul5, q_mul6, q_lmul6, q_mul10, q_lmul10, q_add1, q_ladd1, q_add2, q_ladd2, q_add3, q_ladd3, q_add5, q_ladd5, q_add6, q_ladd6, q_add100, q_ladd100, q_div2, q_rem2, q_div3, q_rem3, q_div6, q_rem6, q_div10, q_rem10, h.1, h.2.1, a]
    · rw [if_neg (show ¬ ((0 ≤ (nI i).toInt ∧ (nI i).toInt < G.1) ∧ (0 ≤ y.toInt ∧ y.toInt < G.2.1)) from fun q => c q.2)]
      simp (disch := omega) only [lt_k, bnv_s, bnd_s, grd_t, q_in, q_inb, q_c, q_leT, q_leF, q_ltT, q_ltF, q_neg, q_nn, q_z, q_le0, q_b0, q_b1, nI_add, nI_0, q_off, q_self, q_oth, cst_2, st_2, ↓reduceIte, f_X8_cellAt, f_X8_roadAt, q_le1, q_nle1, q_le2, q_nle2, q_le5, q_nle5, q_le6, q_nle6, q_le8, q_nle8, q_le12, q_nle12, q_le25, q_nle25, q_le36, q_nle36, q_le60, q_nle60, q_le99, q_nle99, q_le100, q_nle100, q_le300, q_nle300, q_le640, q_nle640, q_le411, q_nle411, q_mul2, q_lmul2, q_mul3, q_lmul3, q_mul5, q_lmul5, q_mul6, q_lmul6, q_mul10, q_lmul10, q_add1, q_ladd1, q_add2, q_ladd2, q_add3, q_ladd3, q_add5, q_ladd5, q_add6, q_ladd6, q_add100, q_ladd100, q_div2, q_rem2, q_div3, q_rem3, q_div6, q_rem6, q_div10, q_rem10, h.1, h.2.1, a, b]
  · rw [if_neg (show ¬ ((0 ≤ x.toInt ∧ x.toInt < G.1) ∧ (0 ≤ y.toInt ∧ y.toInt < G.2.1)) from fun q => b q.1), if_pos a]
  · rw [if_neg (show ¬ ((0 ≤ x.toInt ∧ x.toInt < G.1) ∧ (0 ≤ y.toInt ∧ y.toInt < G.2.1)) from fun q => c q.1), if_neg a, h.1, if_pos b]
theorem road_cases (G : TG) (hG : g_ok G) (x y : Int32) : (∃ i j, i < G.1 ∧ j < G.2.1 ∧ x = nI i ∧ y = nI j ∧ (if (0 ≤ x.toInt ∧ x.toInt < G.1) ∧ (0 ≤ y.toInt ∧ y.toInt < G.2.1) then (1 : Int32) else 0) = 1) ∨ (if (0 ≤ x.toInt ∧ x.toInt < G.1) ∧ (0 ≤ y.toInt ∧ y.toInt < G.2.1) then (1 : Int32) else 0) = 0 := by
  by_cases q : (0 ≤ x.toInt ∧ x.toInt < G.1) ∧ (0 ≤ y.toInt ∧ y.toInt < G.2.1)
  · obtain ⟨i, hi, e⟩ := nI_ex q.1.1 q.1.2
    obtain ⟨j, hj, e2⟩ := nI_ex q.2.1 q.2.2
    exact Or.inl ⟨i, j, hi, hj, e, e2, if_pos q⟩
  · exact Or.inr (if_neg q)
theorem x3_isCellG {k S T : Nat} {μ : Mem} (h1 : μ.1 k 1 = nI S) (h2 : μ.1 k 2 = nI T) (hS : S ≤ 6) (hT : T ≤ 6) (x y : Int32) : (∃ i j, i < S ∧ j < T ∧ x = nI i ∧ y = nI j ∧ f_X3_isCell k x y μ = some 1) ∨ (f_X3_isCell k x y μ = some 0 ∧ ¬ ((0 ≤ x.toInt ∧ x.toInt < S) ∧ (0 ≤ y.toInt ∧ y.toInt < T))) := by
  unfold f_X3_isCell
  rcases q_rng x S (by omega) with ⟨i, hi, rfl⟩ | ⟨a, b⟩ | ⟨a, b, c⟩
  · rcases q_rng y T (by omega) with ⟨j, hj, rfl⟩ | ⟨a, b⟩ | ⟨a, b, c⟩
    · refine Or.inl ⟨i, j, hi, hj, rfl, rfl, ?_⟩
      simp (disch := omega) only [lt_k, bnv_s, bnd_s, grd_t, q_in, q_inb, q_c, q_leT, q_leF, q_ltT, q_ltF, q_neg, q_nn, q_z, q_le0, q_b0, q_b1, nI_add, nI_0, q_off, q_self, q_oth, cst_2, st_2, ↓reduceIte, f_X8_cellAt, f_X8_roadAt, q_le1, q_nle1, q_le2, q_nle2, q_le5, q_nle5, q_le6, q_nle6, q_le8, q_nle8, q_le12, q_nle12, q_le25, q_nle25, q_le36, q_nle36, q_le60, q_nle60, q_le99, q_nle99, q_le100, q_nle100, q_le300, q_nle300, q_le640, q_nle640, q_le411, q_nle411, q_mul2, q_lmul2, q_mul3, q_lmul3, q_mul5, q_lmul5, q_mul6, q_lmul6, q_mul10, q_lmul10, q_add1, q_ladd1, q_add2, q_ladd2, q_add3, q_ladd3, q_add5, q_ladd5, q_add6, q_ladd6, q_add100, q_ladd100, q_div2, q_rem2, q_div3, q_rem3, q_div6, q_rem6, q_div10, q_rem10, h1, h2]
    · refine Or.inr ⟨?_, fun q => b q.2⟩
      simp (disch := omega) only [lt_k, bnv_s, bnd_s, grd_t, q_in, q_inb, q_c, q_leT, q_leF, q_ltT, q_ltF, q_neg, q_nn, q_z, q_le0, q_b0, q_b1, nI_add, nI_0, q_off, q_self, q_oth, cst_2, st_2, ↓reduceIte, f_X8_cellAt, f_X8_roadAt, q_le1, q_nle1, q_le2, q_nle2, q_le5, q_nle5, q_le6, q_nle6, q_le8, q_nle8, q_le12, q_nle12, q_le25, q_nle25, q_le36, q_nle36, q_le60, q_nle60, q_le99, q_nle99, q_le100, q_nle100, q_le300, q_nle300, q_le640, q_nle640, q_le411, q_nle411, q_mul2, q_lmul2, q_mul3, q_lmul3, q_mul5, q_lmul5, q_mul6, q_lmul6, q_mul10, q_lmul10, q_add1, q_ladd1, q_add2, q_ladd2, q_add3, q_ladd3, q_add5, q_ladd5, q_add6, q_ladd6, q_add100, q_ladd100, q_div2, q_rem2, q_div3, q_rem3, q_div6, q_rem6, q_div10, q_rem10, h1, h2, a]
    · refine Or.inr ⟨?_, fun q => c q.2⟩
      simp (disch := omega) only [lt_k, bnv_s, bnd_s, grd_t, q_in, q_inb, q_c, q_leT, q_leF, q_ltT, q_ltF, q_neg, q_nn, q_z, q_le0, q_b0, q_b1, nI_add, nI_0, q_off, q_self, q_oth, cst_2, st_2, ↓reduceIte, f_X8_cellAt, f_X8_roadAt, q_le1, q_nle1, q_le2, q_nle2, q_le5, q_nle5, q_le6, q_nle6, q_le8, q_nle8, q_le12, q_nle12, q_le25, q_nle25, q_le36, q_nle36, q_le60, q_nle60, q_le99, q_nle99, q_le100, q_nle100, q_le300, q_nle300, q_le640, q_nle640, q_le411, q_nle411, q_mul2, q_lmul2, q_mul3, q_lmul3, q_mul5, q_lmul5, q_mul6, q_lmul6, q_mul10, q_lmul10, q_add1, q_ladd1, q_add2, q_ladd2, q_add3, q_ladd3, q_add5, q_ladd5, q_add6, q_ladd6, q_add100, q_ladd100, q_div2, q_rem2, q_div3, q_rem3, q_div6, q_rem6, q_div10, q_rem10, h1, h2, a, b]
  · exact Or.inr ⟨by rw [if_pos a], fun q => b q.1⟩
  · exact Or.inr ⟨by rw [if_neg a, h1, if_pos b], fun q => c q.1⟩
theorem x9_isCellG {S T : Nat} {μ : Mem} (h1 : μ.1 122 7 = nI S) (h2 : μ.1 122 8 = nI T) (hS : S ≤ 6) (hT : T ≤ 6) (x y : Int32) : f_X9_isCell x y μ = some (if (0 ≤ x.toInt ∧ x.toInt < S) ∧ (0 ≤ y.toInt ∧ y.toInt < T) then 1 else 0) := by
  unfold f_X9_isCell
  rw [h1, h2, i9_N x S (by omega), i9_N y T (by omega), bnv_s, bnv_s]
  unfold inN
  by_cases a : 0 ≤ x.toInt ∧ x.toInt < S
  · rw [decide_eq_true a]
    by_cases b : 0 ≤ y.toInt ∧ y.toInt < T
    · rw [decide_eq_true b, if_pos (show (0 ≤ x.toInt ∧ x.toInt < S) ∧ (0 ≤ y.toInt ∧ y.toInt < T) from ⟨a, b⟩)]; rfl
    · rw [decide_eq_false b, if_neg (show ¬ ((0 ≤ x.toInt ∧ x.toInt < S) ∧ (0 ≤ y.toInt ∧ y.toInt < T)) from fun q => b q.2)]; rfl
  · rw [decide_eq_false a, if_neg (show ¬ ((0 ≤ x.toInt ∧ x.toInt < S) ∧ (0 ≤ y.toInt ∧ y.toInt < T)) from fun q => a q.1)]; rfl
/-! changes of the ground, as data -/
def GX : Nat → Nat → Prop := fun c j => (15 ≤ c ∧ c ≤ 21) ∨ (c = 22 ∧ j = 0)
def GM : Nat → Nat → Prop := fun c j => (c = 122 ∧ (j ≤ 1 ∨ j = 6)) ∨ (123 ≤ c ∧ c ≤ 126)
def d_G (D : TD) (G : TG) : TD := (G, false, D.2.2)
theorem d_G_ok {D : TD} {G : TG} (h : D_ok D) (hG : g_ok G) (h99 : ∀ i, i < 10 → (G.2.2.1 i).toInt ≤ 99) (hQ : D.1.1 ≤ G.1) (hW : D.1.2.1 ≤ G.2.1) : D_ok (d_G D G) := by
  obtain ⟨d1, d2, d3, d4, d5, d6, d7, d8, d9⟩ := h
  refine ⟨hG, h99, fun q => (by cases q), d4, d5, d6, fun j hj => ?_, d8, d9⟩
  rcases d7 j hj with ⟨a, k, b, c⟩ | ⟨a, k, b, c⟩ | ⟨a, i, k, b, c, e⟩
  · exact Or.inl ⟨a, k, by show k < G.1; omega, c⟩
  · exact Or.inr (Or.inl ⟨a, k, by show k < G.2.1; omega, c⟩)
  · exact Or.inr (Or.inr ⟨a, i, k, by show i < G.1; omega, by show k < G.2.1; omega, e⟩)
theorem XD_G {D : TD} {G : TG} {μ μ' : Mem} (h : XD 14 D μ) (f : fr GX μ μ') (hx : XG 15 G μ') (hm : μ'.1 22 0 = 0) : XD 14 (d_G D G) μ' := by
  obtain ⟨h1, h2, h3, h4, h5⟩ := h
  refine ⟨hx, ⟨hm, fun q => (by cases q), fun c hc => ?_⟩, XRw_fr h3 f (fun c j q => by unfold GX; omega), XRw_fr h4 f (fun c j q => by unfold GX; omega), XRw_fr h5 f (fun c j q => by unfold GX; omega)⟩
  rw [f.2 _ _ (by unfold GX; omega)]; exact h2.2.2 c hc
theorem MD_G {D : TD} {G : TG} {μ μ' : Mem} (h : MD D μ) (f : fr GM μ μ') (hx : MG G μ') (hm : μ'.1 122 6 = 0) : MD (d_G D G) μ' := by
  obtain ⟨h1, h2, h3, h4, h5⟩ := h
  exact ⟨hx, ⟨hm, fun q => (by cases q)⟩, MRw_fr h3 f (fun c j q => by unfold GM; omega), MRw_fr h4 f (fun c j q => by unfold GM; omega), MRw_fr h5 f (fun c j q => by unfold GM; omega)⟩
def g_site (G : TG) (sd : Bool) (a b : Int32) : TG := if sd = true then (G.1, G.2.1 + 1, upd G.2.2.1 (5 + G.2.1) a, upd G.2.2.2.1 (5 + G.2.1) b, G.2.2.2.2) else (G.1 + 1, G.2.1, upd G.2.2.1 G.1 a, upd G.2.2.2.1 G.1 b, G.2.2.2.2)
def g_many (G : TG) (sd : Bool) : Nat := if sd = true then G.2.1 else G.1
def d_site (D : TD) (sd : Bool) (a b : Int32) : Int32 × TD := if g_many D.1 sd < 5 then (nI (g_many D.1 sd), d_G D (g_site D.1 sd a b)) else (-4, D)
theorem upd_bd {f : Nat → Int32} {k N : Nat} {x : Int32} {lo hi : Int} (h : ∀ i, i < N → lo ≤ (f i).toInt ∧ (f i).toInt ≤ hi) (hx : lo ≤ x.toInt ∧ x.toInt ≤ hi) : ∀ i, i < N → lo ≤ (upd f k x i).toInt ∧ (upd f k x i).toInt ≤ hi := by
  intro i hi
  unfold upd
  by_cases q : i = k
  · rw [if_pos q]; exact hx
  · rw [if_neg q]; exact h i hi
theorem d_site_ok {D : TD} (h : D_ok D) (sd : Bool) {a b : Int32} (ha : 0 ≤ a.toInt ∧ a.toInt ≤ 99) (hb : 0 ≤ b.toInt ∧ b.toInt ≤ 9) : D_ok (d_site D sd a b).2 := by
  unfold d_site
  by_cases q : g_many D.1 sd < 5
  · rw [if_pos q]
    obtain ⟨g1, g2, g3, g4, g5, g6⟩ := h.1
    have h99 : ∀ i, i < 10 → 0 ≤ (D.1.2.2.1 i).toInt ∧ (D.1.2.2.1 i).toInt ≤ 99 := fun i hi => ⟨(g3 i hi).1, h.2.1 i hi⟩
    unfold g_many at q
    cases sd
    · rw [if_neg (by decide)] at q
      exact d_G_ok h ⟨by show D.1.1 + 1 ≤ 5; omega, g2, upd_bd g3 (by omega), upd_bd g4 hb, g5, g6⟩ (fun i hi => (upd_bd h99 ha i hi).2) (by show D.1.1 ≤ D.1.1 + 1; omega) (Nat.le_refl _)
    · rw [if_pos rfl] at q
      exact d_G_ok h ⟨g1, by show D.1.2.1 + 1 ≤ 5; omega, upd_bd g3 (by omega), upd_bd g4 hb, g5, g6⟩ (fun i hi => (upd_bd h99 ha i hi).2) (Nat.le_refl _) (by show D.1.2.1 ≤ D.1.2.1 + 1; omega)
  · rw [if_neg q]; exact h
theorem x6_addSite {D : TD} {μ : Mem} (h : D_ok D) (hx : XD 14 D μ) (sd : Bool) (a b : Int32) : ∃ μ', f_X6_addSite 14 (b01 sd) a b μ = some ((d_site D sd a b).1, μ') ∧ XD 14 (d_site D sd a b).2 μ' ∧ fr GX μ μ' := by
  obtain ⟨g1, g2, g3, g4, g5, g6⟩ := h.1
  obtain ⟨x1, x2, x3, x4⟩ := hx.1
  unfold d_site
  cases sd
  · have em : g_many D.1 false = D.1.1 := rfl
    rw [em]
    by_cases q : D.1.1 < 5
    · rw [if_pos q]
      refine ⟨st (st (st (st μ 16 D.1.1 a) 17 D.1.1 b) 15 0 (nI (D.1.1 + 1))) 22 0 0, ?_, XD_G hx ?_ ⟨?_, ?_, fun i hi => ?_, fun i hi => ?_⟩ ?_, ?_⟩
      · unfold f_X6_addSite f_X6_addSite_21 f_X6_addSite_91 f_X0_row
        have l5 : (nI D.1.1 < 5) = True := eq_true ((nI_ltI (b := 5) (by omega) (by decide)).mpr q)
        simp (disch := omega) only [lt_k, bnv_s, bnd_s, grd_t, q_in, q_inb, q_c, q_leT, q_leF, q_ltT, q_ltF, q_neg, q_nn, q_z, q_le0, q_b0, q_b1, nI_add, nI_0, q_off, q_self, q_oth, cst_2, st_2, ↓reduceIte, f_X8_cellAt, f_X8_roadAt, q_le1, q_nle1, q_le2, q_nle2, q_le5, q_nle5, q_le6, q_nle6, q_le8, q_nle8, q_le12, q_nle12, q_le25, q_nle25, q_le36, q_nle36, q_le60, q_nle60, q_le99, q_nle99, q_le100, q_nle100, q_le300, q_nle300, q_le640, q_nle640, q_le411, q_nle411, q_mul2, q_lmul2, q_mul3, q_lmul3, q_mul5, q_lmul5, q_mul6, q_lmul6, q_mul10, q_lmul10, q_add1, q_ladd1, q_add2, q_ladd2, q_add3, q_ladd3, q_add5, q_ladd5, q_add6, q_ladd6, q_add100, q_ladd100, q_div2, q_rem2, q_div3, q_rem3, q_div6, q_rem6, q_div10, q_rem10, b01_f, show μ.1 (14 + 1) 0 = nI D.1.1 from x1, l5, show (1 : Int32) = 0 ↔ False from by decide]
      · exact fr_st' (fr_st' (fr_st' (fr_st (by unfold GX; omega)) (by unfold GX; omega)) (by unfold GX; omega)) (by unfold GX; omega)
      · show _ = nI (D.1.1 + 1)
        simp (disch := omega) only [lt_k, bnv_s, bnd_s, grd_t, q_in, q_inb, q_c, q_leT, q_leF, q_ltT, q_ltF, q_neg, q_nn, q_z, q_le0, q_b0, q_b1, nI_add, nI_0, q_off, q_self, q_oth, cst_2, st_2, ↓reduceIte, f_X8_cellAt, f_X8_roadAt, q_le1, q_nle1, q_le2, q_nle2, q_le5, q_nle5, q_le6, q_nle6, q_le8, q_nle8, q_le12, q_nle12, q_le25, q_nle25, q_le36, q_nle36, q_le60, q_nle60, q_le99, q_nle99, q_le100, q_nle100, q_le300, q_nle300, q_le640, q_nle640, q_le411, q_nle411, q_mul2, q_lmul2, q_mul3, q_lmul3, q_mul5, q_lmul5, q_mul6, q_lmul6, q_mul10, q_lmul10, q_add1, q_ladd1, q_add2, q_ladd2, q_add3, q_ladd3, q_add5, q_ladd5, q_add6, q_ladd6, q_add100, q_ladd100, q_div2, q_rem2, q_div3, q_rem3, q_div6, q_rem6, q_div10, q_rem10, lt_k]
      · simp (disch := omega) only [lt_k, bnv_s, bnd_s, grd_t, q_in, q_inb, q_c, q_leT, q_leF, q_ltT, q_ltF, q_neg, q_nn, q_z, q_le0, q_b0, q_b1, nI_add, nI_0, q_off, q_self, q_oth, cst_2, st_2, ↓reduceIte, f_X8_cellAt, f_X8_roadAt, q_le1, q_nle1, q_le2, q_nle2, q_le5, q_nle5, q_le6, q_nle6, q_le8, q_nle8, q_le12, q_nle12, q_le25, q_nle25, q_le36, q_nle36, q_le60, q_nle60, q_le99, q_nle99, q_le100, q_nle100, q_le300, q_nle300, q_le640, q_nle640, q_le411, q_nle411, q_mul2, q_lmul2, q_mul3, q_lmul3, q_mul5, q_lmul5, q_mul6, q_lmul6, q_mul10, q_lmul10, q_add1, q_ladd1, q_add2, q_ladd2, q_add3, q_ladd3, q_add5, q_ladd5, q_add6, q_ladd6, q_add100, q_ladd100, q_div2, q_rem2, q_div3, q_rem3, q_div6, q_rem6, q_div10, q_rem10, lt_k]; exact x2
      · simp (disch := omega) only [lt_k, bnv_s, bnd_s, grd_t, q_in, q_inb, q_c, q_leT, q_leF, q_ltT, q_ltF, q_neg, q_nn, q_z, q_le0, q_b0, q_b1, nI_add, nI_0, q_off, q_self, q_oth, cst_2, st_2, ↓reduceIte, f_X8_cellAt, f_X8_roadAt, q_le1, q_nle1, q_le2, q_nle2, q_le5, q_nle5, q_le6, q_nle6, q_le8, q_nle8, q_le12, q_nle12, q_le25, q_nle25, q_le36, q_nle36, q_le60, q_nle60, q_le99, q_nle99, q_le100, q_nle100, q_le300, q_nle300, q_le640, q_nle640, q_le411, q_nle411, q_mul2, q_lmul2, q_mul3, q_lmul3, q_mul5, q_lmul5, q_mul6, q_lmul6, q_mul10, q_lmul10, q_add1, q_ladd1, q_add2, q_ladd2, q_add3, q_ladd3, q_add5, q_ladd5, q_add6, q_ladd6, q_add100, q_ladd100, q_div2, q_rem2, q_div3, q_rem3, q_div6, q_rem6, q_div10, q_rem10, q_at]
        obtain ⟨y1, y2, y3, y4⟩ := x3 i hi
        show _ = upd D.1.2.2.1 D.1.1 a i ∧ _ = upd D.1.2.2.2.1 D.1.1 b i ∧ _ = upd D.1.2.2.1 D.1.1 a (5 + i) ∧ _ = upd D.1.2.2.2.1 D.1.1 b (5 + i)
        unfold upd
        rw [if_neg (show ¬ 5 + i = D.1.1 by omega), if_neg (show ¬ 5 + i = D.1.1 by omega)]
        by_cases r : i = D.1.1
        · rw [if_pos r, if_pos r, if_pos r, if_pos r]; exact ⟨rfl, rfl, y3, y4⟩
        · rw [if_neg r, if_neg r, if_neg r, if_neg r]; exact ⟨y1, y2, y3, y4⟩
      · simp (disch := omega) only [lt_k, bnv_s, bnd_s, grd_t, q_in, q_inb, q_c, q_leT, q_leF, q_ltT, q_ltF, q_neg, q_nn, q_z, q_le0, q_b0, q_b1, nI_add, nI_0, q_off, q_self, q_oth, cst_2, st_2, ↓reduceIte, f_X8_cellAt, f_X8_roadAt, q_le1, q_nle1, q_le2, q_nle2, q_le5, q_nle5, q_le6, q_nle6, q_le8, q_nle8, q_le12, q_nle12, q_le25, q_nle25, q_le36, q_nle36, q_le60, q_nle60, q_le99, q_nle99, q_le100, q_nle100, q_le300, q_nle300, q_le640, q_nle640, q_le411, q_nle411, q_mul2, q_lmul2, q_mul3, q_lmul3, q_mul5, q_lmul5, q_mul6, q_lmul6, q_mul10, q_lmul10, q_add1, q_ladd1, q_add2, q_ladd2, q_add3, q_ladd3, q_add5, q_ladd5, q_add6, q_ladd6, q_add100, q_ladd100, q_div2, q_rem2, q_div3, q_rem3, q_div6, q_rem6, q_div10, q_rem10, lt_k]; exact x4 i hi
      · simp (disch := omega) only [lt_k, bnv_s, bnd_s, grd_t, q_in, q_inb, q_c, q_leT, q_leF, q_ltT, q_ltF, q_neg, q_nn, q_z, q_le0, q_b0, q_b1, nI_add, nI_0, q_off, q_self, q_oth, cst_2, st_2, ↓reduceIte, f_X8_cellAt, f_X8_roadAt, q_le1, q_nle1, q_le2, q_nle2, q_le5, q_nle5, q_le6, q_nle6, q_le8, q_nle8, q_le12, q_nle12, q_le25, q_nle25, q_le36, q_nle36, q_le60, q_nle60, q_le99, q_nle99, q_le100, q_nle100, q_le300, q_nle300, q_le640, q_nle640, q_le411, q_nle411, q_mul2, q_lmul2, q_mul3, q_lmul3, q_mul5, q_lmul5, q_mul6, q_lmul6, q_mul10, q_lmul10, q_add1, q_ladd1, q_add2, q_ladd2, q_add3, q_ladd3, q_add5, q_ladd5, q_add6, q_ladd6, q_add100, q_ladd100, q_div2, q_rem2, q_div3, q_rem3, q_div6, q_rem6, q_div10, q_rem10, lt_k]
      · exact fr_st' (fr_st' (fr_st' (fr_st (by unfold GX; omega)) (by unfold GX; omega)) (by unfold GX; omega)) (by unfold GX; omega)
    · rw [if_neg q]
      refine ⟨μ, ?_, hx, fr_refl _ _⟩
      unfold f_X6_addSite f_X6_addSite_21
      have l5 : (nI D.1.1 < 5) = False := eq_false (fun r => q ((nI_ltI (b := 5) (by omega) (by decide)).mp r))
      simp (disch := omega) only [lt_k, bnv_s, bnd_s, grd_t, q_in, q_inb, q_c, q_leT, q_leF, q_ltT, q_ltF, q_neg, q_nn, q_z, q_le0, q_b0, q_b1, nI_add, nI_0, q_off, q_self, q_oth, cst_2, st_2, ↓reduceIte, f_X8_cellAt, f_X8_roadAt, q_le1, q_nle1, q_le2, q_nle2, q_le5, q_nle5, q_le6, q_nle6, q_le8, q_nle8, q_le12, q_nle12, q_le25, q_nle25, q_le36, q_nle36, q_le60, q_nle60, q_le99, q_nle99, q_le100, q_nle100, q_le300, q_nle300, q_le640, q_nle640, q_le411, q_nle411, q_mul2, q_lmul2, q_mul3, q_lmul3, q_mul5, q_lmul5, q_mul6, q_lmul6, q_mul10, q_lmul10, q_add1, q_ladd1, q_add2, q_ladd2, q_add3, q_ladd3, q_add5, q_ladd5, q_add6, q_ladd6, q_add100, q_ladd100, q_div2, q_rem2, q_div3, q_rem3, q_div6, q_rem6, q_div10, q_rem10, b01_f, show μ.1 (14 + 1) 0 = nI D.1.1 from x1, l5]
  · have em : g_many D.1 true = D.1.2.1 := rfl
    rw [em]
    by_cases q : D.1.2.1 < 5
    · rw [if_pos q]
      refine ⟨st (st (st (st μ 18 D.1.2.1 a) 19 D.1.2.1 b) 15 1 (nI (D.1.2.1 + 1))) 22 0 0, ?_, XD_G hx ?_ ⟨?_, ?_, fun i hi => ?_, fun i hi => ?_⟩ ?_, ?_⟩
      · unfold f_X6_addSite f_X6_addSite_21 f_X6_addSite_91 f_X0_row
        have l5 : (nI D.1.2.1 < 5) = True := eq_true ((nI_ltI (b := 5) (by omega) (by decide)).mpr q)
        simp (disch := omega) only [lt_k, bnv_s, bnd_s, grd_t, q_in, q_inb, q_c, q_leT, q_leF, q_ltT, q_ltF, q_neg, q_nn, q_z, q_le0, q_b0, q_b1, nI_add, nI_0, q_off, q_self, q_oth, cst_2, st_2, ↓reduceIte, f_X8_cellAt, f_X8_roadAt, q_le1, q_nle1, q_le2, q_nle2, q_le5, q_nle5, q_le6, q_nle6, q_le8, q_nle8, q_le12, q_nle12, q_le25, q_nle25, q_le36, q_nle36, q_le60, q_nle60, q_le99, q_nle99, q_le100, q_nle100, q_le300, q_nle300, q_le640, q_nle640, q_le411, q_nle411, q_mul2, q_lmul2, q_mul3, q_lmul3, q_mul5, q_lmul5, q_mul6, q_lmul6, q_mul10, q_lmul10, q_add1, q_ladd1, q_add2, q_ladd2, q_add3, q_ladd3, q_add5, q_ladd5, q_add6, q_ladd6, q_add100, q_ladd100, q_div2, q_rem2, q_div3, q_rem3, q_div6, q_rem6, q_div10, q_rem10, b01_t, q_10, show μ.1 (14 + 1) 1 = nI D.1.2.1 from x2, l5, show (1 : Int32) = 0 ↔ False from by decide]
      · exact fr_st' (fr_st' (fr_st' (fr_st (by unfold GX; omega)) (by unfold GX; omega)) (by unfold GX; omega)) (by unfold GX; omega)
      · simp (disch := omega) only [lt_k, bnv_s, bnd_s, grd_t, q_in, q_inb, q_c, q_leT, q_leF, q_ltT, q_ltF, q_neg, q_nn, q_z, q_le0, q_b0, q_b1, nI_add, nI_0, q_off, q_self, q_oth, cst_2, st_2, ↓reduceIte, f_X8_cellAt, f_X8_roadAt, q_le1, q_nle1, q_le2, q_nle2, q_le5, q_nle5, q_le6, q_nle6, q_le8, q_nle8, q_le12, q_nle12, q_le25, q_nle25, q_le36, q_nle36, q_le60, q_nle60, q_le99, q_nle99, q_le100, q_nle100, q_le300, q_nle300, q_le640, q_nle640, q_le411, q_nle411, q_mul2, q_lmul2, q_mul3, q_lmul3, q_mul5, q_lmul5, q_mul6, q_lmul6, q_mul10, q_lmul10, q_add1, q_ladd1, q_add2, q_ladd2, q_add3, q_ladd3, q_add5, q_ladd5, q_add6, q_ladd6, q_add100, q_ladd100, q_div2, q_rem2, q_div3, q_rem3, q_div6, q_rem6, q_div10, q_rem10, lt_k]; exact x1
      · show _ = nI (D.1.2.1 + 1)
        simp (disch := omega) only [lt_k, bnv_s, bnd_s, grd_t, q_in, q_inb, q_c, q_leT, q_leF, q_ltT, q_ltF, q_neg, q_nn, q_z, q_le0, q_b0, q_b1, nI_add, nI_0, q_off, q_self, q_oth, cst_2, st_2, ↓reduceIte, f_X8_cellAt, f_X8_roadAt, q_le1, q_nle1, q_le2, q_nle2, q_le5, q_nle5, q_le6, q_nle6, q_le8, q_nle8, q_le12, q_nle12, q_le25, q_nle25, q_le36, q_nle36, q_le60, q_nle60, q_le99, q_nle99, q_le100, q_nle100, q_le300, q_nle300, q_le640, q_nle640, q_le411, q_nle411, q_mul2, q_lmul2, q_mul3, q_lmul3, q_mul5, q_lmul5, q_mul6, q_lmul6, q_mul10, q_lmul10, q_add1, q_ladd1, q_add2, q_ladd2, q_add3, q_ladd3, q_add5, q_ladd5, q_add6, q_ladd6, q_add100, q_ladd100, q_div2, q_rem2, q_div3, q_rem3, q_div6, q_rem6, q_div10, q_rem10, lt_k]
      · simp (disch := omega) only [lt_k, bnv_s, bnd_s, grd_t, q_in, q_inb, q_c, q_leT, q_leF, q_ltT, q_ltF, q_neg, q_nn, q_z, q_le0, q_b0, q_b1, nI_add, nI_0, q_off, q_self, q_oth, cst_2, st_2, ↓reduceIte, f_X8_cellAt, f_X8_roadAt, q_le1, q_nle1, q_le2, q_nle2, q_le5, q_nle5, q_le6, q_nle6, q_le8, q_nle8, q_le12, q_nle12, q_le25, q_nle25, q_le36, q_nle36, q_le60, q_nle60, q_le99, q_nle99, q_le100, q_nle100, q_le300, q_nle300, q_le640, q_nle640, q_le411, q_nle411, q_mul2, q_lmul2, q_mul3, q_lmul3, q_mul5, q_lmul5, q_mul6, q_lmul6, q_mul10, q_lmul10, q_add1, q_ladd1, q_add2, q_ladd2, q_add3, q_ladd3, q_add5, q_ladd5, q_add6, q_ladd6, q_add100, q_ladd100, q_div2, q_rem2, q_div3, q_rem3, q_div6, q_rem6, q_div10, q_rem10, q_at]
        obtain ⟨y1, y2, y3, y4⟩ := x3 i hi
        show _ = upd D.1.2.2.1 (5 + D.1.2.1) a i ∧ _ = upd D.1.2.2.2.1 (5 + D.1.2.1) b i ∧ _ = upd D.1.2.2.1 (5 + D.1.2.1) a (5 + i) ∧ _ = upd D.1.2.2.2.1 (5 + D.1.2.1) b (5 + i)
        unfold upd
        rw [if_neg (show ¬ i = 5 + D.1.2.1 by omega), if_neg (show ¬ i = 5 + D.1.2.1 by omega)]
        by_cases r : i = D.1.2.1
        · rw [if_pos r, if_pos r, if_pos (by omega), if_pos (by omega)]; exact ⟨y1, y2, rfl, rfl⟩
        · rw [if_neg r, if_neg r, if_neg (by omega), if_neg (by omega)]; exact ⟨y1, y2, y3, y4⟩
      · simp (disch := omega) only [lt_k, bnv_s, bnd_s, grd_t, q_in, q_inb, q_c, q_leT, q_leF, q_ltT, q_ltF, q_neg, q_nn, q_z, q_le0, q_b0, q_b1, nI_add, nI_0, q_off, q_self, q_oth, cst_2, st_2, ↓reduceIte, f_X8_cellAt, f_X8_roadAt, q_le1, q_nle1, q_le2, q_nle2, q_le5, q_nle5, q_le6, q_nle6, q_le8, q_nle8, q_le12, q_nle12, q_le25, q_nle25, q_le36, q_nle36, q_le60, q_nle60, q_le99, q_nle99, q_le100, q_nle100, q_le300, q_nle300, q_le640, q_nle640, q_le411, q_nle411, q_mul2, q_lmul2, q_mul3, q_lmul3, q_mul5, q_lmul5, q_mul6, q_lmul6, q_mul10, q_lmul10, q_add1, q_ladd1, q_add2, q_ladd2, q_add3, q_ladd3, q_add5, q_ladd5, q_add6, q_ladd6, q_add100, q_ladd100, q_div2, q_rem2, q_div3, q_rem3, q_div6, q_rem6, q_div10, q_rem10, lt_k]; exact x4 i hi
      · simp (disch := omega) only [lt_k, bnv_s, bnd_s, grd_t, q_in, q_inb, q_c, q_leT, q_leF, q_ltT, q_ltF, q_neg, q_nn, q_z, q_le0, q_b0, q_b1, nI_add, nI_0, q_off, q_self, q_oth, cst_2, st_2, ↓reduceIte, f_X8_cellAt, f_X8_roadAt, q_le1, q_nle1, q_le2, q_nle2, q_le5, q_nle5, q_le6, q_nle6, q_le8, q_nle8, q_le12, q_nle12, q_le25, q_nle25, q_le36, q_nle36, q_le60, q_nle60, q_le99, q_nle99, q_le100, q_nle100, q_le300, q_nle300, q_le640, q_nle640, q_le411, q_nle411, q_mul2, q_lmul2, q_mul3, q_lmul3, q_mul5, q_lmul5, q_mul6, q_lmul6, q_mul10, q_lmul10, q_add1, q_ladd1, q_add2, q_ladd2, q_add3, q_ladd3, q_add5, q_ladd5, q_add6, q_ladd6, q_add100, q_ladd100, q_div2, q_rem2, q_div3, q_rem3, q_div6, q_rem6, q_div10, q_rem10, lt_k]
      · exact fr_st' (fr_st' (fr_st' (fr_st (by unfold GX; omega)) (by unfold GX; omega)) (by unfold GX; omega)) (by unfold GX; omega)
    · rw [if_neg q]
      refine ⟨μ, ?_, hx, fr_refl _ _⟩
      unfold f_X6_addSite f_X6_addSite_21
      have l5 : (nI D.1.2.1 < 5) = False := eq_false (fun r => q ((nI_ltI (b := 5) (by omega) (by decide)).mp r))
      simp (disch := omega) only [lt_k, bnv_s, bnd_s, grd_t, q_in, q_inb, q_c, q_leT, q_leF, q_ltT, q_ltF, q_neg, q_nn, q_z, q_le0, q_b0, q_b1, nI_add, nI_0, q_off, q_self, q_oth, cst_2, st_2, ↓reduceIte, f_X8_cellAt, f_X8_roadAt, q_le1, q_nle1, q_le2, q_nle2, q_le5, q_nle5, q_le6, q_nle6, q_le8, q_nle8, q_le12, q_nle12, q_le25, q_nle25, q_le36, q_nle36, q_le60, q_nle60, q_le99, q_nle99, q_le100, q_nle100, q_le300, q_nle300, q_le640, q_nle640, q_le411, q_nle411, q_mul2, q_lmul2, q_mul3, q_lmul3, q_mul5, q_lmul5, q_mul6, q_lmul6, q_mul10, q_lmul10, q_add1, q_ladd1, q_add2, q_ladd2, q_add3, q_ladd3, q_add5, q_ladd5, q_add6, q_ladd6, q_add100, q_ladd100, q_div2, q_rem2, q_div3, q_rem3, q_div6, q_rem6, q_div10, q_rem10, b01_t, q_10, show μ.1 (14 + 1) 1 = nI D.1.2.1 from x2, l5]
theorem x9_comes {D : TD} {μ : Mem} (h : D_ok D) (hx : MD D μ) (sd : Bool) {a b : Int32} (ha : inR a 0 99 = true) (hb : inR b 0 9 = true) : ∃ μ', f_X9_comes (b01 sd) a b μ = some ((d_site D sd a b).1, μ') ∧ MD (d_site D sd a b).2 μ' ∧ fr GM μ μ' := by
  obtain ⟨g1, g2, g3, g4, g5, g6⟩ := h.1
  obtain ⟨x1, x2, x3, x4⟩ := hx.1
  have z5 : (5 : Int32) * 0 = 0 := by decide
  have z51 : (5 : Int32) * 1 = nI 5 := by decide
  unfold d_site
  cases sd
  · have em : g_many D.1 false = D.1.1 := rfl
    rw [em]
    by_cases q : D.1.1 < 5
    · rw [if_pos q]
      refine ⟨st (st (st (st (st μ 123 D.1.1 a) 124 D.1.1 b) 122 0 (nI (D.1.1 + 1))) 122 1 (nI D.1.2.1)) 122 6 0, ?_, MD_G hx ?_ ⟨?_, ?_, fun i hi => ?_, fun i hi => ?_⟩ ?_, ?_⟩
      · unfold f_X9_comes f_X9_comes_81 f_X9_many
        have l5 : (nI D.1.1 = 5) = False := eq_false (fun r => by have := (nI_eq (b := 5) (by omega) (by decide)).mp r; omega)
        simp (disch := omega) only [lt_k, bnv_s, bnd_s, grd_t, q_in, q_inb, q_c, q_leT, q_leF, q_ltT, q_ltF, q_neg, q_nn, q_z, q_le0, q_b0, q_b1, nI_add, nI_0, q_off, q_self, q_oth, cst_2, st_2, ↓reduceIte, f_X8_cellAt, f_X8_roadAt, q_le1, q_nle1, q_le2, q_nle2, q_le5, q_nle5, q_le6, q_nle6, q_le8, q_nle8, q_le12, q_nle12, q_le25, q_nle25, q_le36, q_nle36, q_le60, q_nle60, q_le99, q_nle99, q_le100, q_nle100, q_le300, q_nle300, q_le640, q_nle640, q_le411, q_nle411, q_mul2, q_lmul2, q_mul3, q_lmul3, q_mul5, q_lmul5, q_mul6, q_lmul6, q_mul10, q_lmul10, q_add1, q_ladd1, q_add2, q_ladd2, q_add3, q_ladd3, q_add5, q_ladd5, q_add6, q_ladd6, q_add100, q_ladd100, q_div2, q_rem2, q_div3, q_rem3, q_div6, q_rem6, q_div10, q_rem10, b01_f, i9_99, i9_9, ha, hb, b2i_t, q_10, x1, x2, l5, z5, Int32.zero_add, Int32.add_zero]
      · exact fr_st' (fr_st' (fr_st' (fr_st' (fr_st (by unfold GM; omega)) (by unfold GM; omega)) (by unfold GM; omega)) (by unfold GM; omega)) (by unfold GM; omega)
      · show _ = nI (D.1.1 + 1)
        simp (disch := omega) only [lt_k, bnv_s, bnd_s, grd_t, q_in, q_inb, q_c, q_leT, q_leF, q_ltT, q_ltF, q_neg, q_nn, q_z, q_le0, q_b0, q_b1, nI_add, nI_0, q_off, q_self, q_oth, cst_2, st_2, ↓reduceIte, f_X8_cellAt, f_X8_roadAt, q_le1, q_nle1, q_le2, q_nle2, q_le5, q_nle5, q_le6, q_nle6, q_le8, q_nle8, q_le12, q_nle12, q_le25, q_nle25, q_le36, q_nle36, q_le60, q_nle60, q_le99, q_nle99, q_le100, q_nle100, q_le300, q_nle300, q_le640, q_nle640, q_le411, q_nle411, q_mul2, q_lmul2, q_mul3, q_lmul3, q_mul5, q_lmul5, q_mul6, q_lmul6, q_mul10, q_lmul10, q_add1, q_ladd1, q_add2, q_ladd2, q_add3, q_ladd3, q_add5, q_ladd5, q_add6, q_ladd6, q_add100, q_ladd100, q_div2, q_rem2, q_div3, q_rem3, q_div6, q_rem6, q_div10, q_rem10, lt_k]
      · show _ = nI D.1.2.1
        simp (disch := omega) only [lt_k, bnv_s, bnd_s, grd_t, q_in, q_inb, q_c, q_leT, q_leF, q_ltT, q_ltF, q_neg, q_nn, q_z, q_le0, q_b0, q_b1, nI_add, nI_0, q_off, q_self, q_oth, cst_2, st_2, ↓reduceIte, f_X8_cellAt, f_X8_roadAt, q_le1, q_nle1, q_le2, q_nle2, q_le5, q_nle5, q_le6, q_nle6, q_le8, q_nle8, q_le12, q_nle12, q_le25, q_nle25, q_le36, q_nle36, q_le60, q_nle60, q_le99, q_nle99, q_le100, q_nle100, q_le300, q_nle300, q_le640, q_nle640, q_le411, q_nle411, q_mul2, q_lmul2, q_mul3, q_lmul3, q_mul5, q_lmul5, q_mul6, q_lmul6, q_mul10, q_lmul10, q_add1, q_ladd1, q_add2, q_ladd2, q_add3, q_ladd3, q_add5, q_ladd5, q_add6, q_ladd6, q_add100, q_ladd100, q_div2, q_rem2, q_div3, q_rem3, q_div6, q_rem6, q_div10, q_rem10, lt_k]
      · simp (disch := omega) only [lt_k, bnv_s, bnd_s, grd_t, q_in, q_inb, q_c, q_leT, q_leF, q_ltT, q_ltF, q_neg, q_nn, q_z, q_le0, q_b0, q_b1, nI_add, nI_0, q_off, q_self, q_oth, cst_2, st_2, ↓reduceIte, f_X8_cellAt, f_X8_roadAt, q_le1, q_nle1, q_le2, q_nle2, q_le5, q_nle5, q_le6, q_nle6, q_le8, q_nle8, q_le12, q_nle12, q_le25, q_nle25, q_le36, q_nle36, q_le60, q_nle60, q_le99, q_nle99, q_le100, q_nle100, q_le300, q_nle300, q_le640, q_nle640, q_le411, q_nle411, q_mul2, q_lmul2, q_mul3, q_lmul3, q_mul5, q_lmul5, q_mul6, q_lmul6, q_mul10, q_lmul10, q_add1, q_ladd1, q_add2, q_ladd2, q_add3, q_ladd3, q_add5, q_ladd5, q_add6, q_ladd6, q_add100, q_ladd100, q_div2, q_rem2, q_div3, q_rem3, q_div6, q_rem6, q_div10, q_rem10, q_at]
        obtain ⟨y1, y2⟩ := x3 i hi
        show _ = upd D.1.2.2.1 D.1.1 a i ∧ _ = upd D.1.2.2.2.1 D.1.1 b i
        unfold upd
        by_cases r : i = D.1.1
        · rw [if_pos r, if_pos r, if_pos r, if_pos r]; exact ⟨rfl, rfl⟩
        · rw [if_neg r, if_neg r, if_neg r, if_neg r]; exact ⟨y1, y2⟩
      · simp (disch := omega) only [lt_k, bnv_s, bnd_s, grd_t, q_in, q_inb, q_c, q_leT, q_leF, q_ltT, q_ltF, q_neg, q_nn, q_z, q_le0, q_b0, q_b1, nI_add, nI_0, q_off, q_self, q_oth, cst_2, st_2, ↓reduceIte, f_X8_cellAt, f_X8_roadAt, q_le1, q_nle1, q_le2, q_nle2, q_le5, q_nle5, q_le6, q_nle6, q_le8, q_nle8, q_le12, q_nle12, q_le25, q_nle25, q_le36, q_nle36, q_le60, q_nle60, q_le99, q_nle99, q_le100, q_nle100, q_le300, q_nle300, q_le640, q_nle640, q_le411, q_nle411, q_mul2, q_lmul2, q_mul3, q_lmul3, q_mul5, q_lmul5, q_mul6, q_lmul6, q_mul10, q_lmul10, q_add1, q_ladd1, q_add2, q_ladd2, q_add3, q_ladd3, q_add5, q_ladd5, q_add6, q_ladd6, q_add100, q_ladd100, q_div2, q_rem2, q_div3, q_rem3, q_div6, q_rem6, q_div10, q_rem10, lt_k]; exact x4 i hi
      · simp (disch := omega) only [lt_k, bnv_s, bnd_s, grd_t, q_in, q_inb, q_c, q_leT, q_leF, q_ltT, q_ltF, q_neg, q_nn, q_z, q_le0, q_b0, q_b1, nI_add, nI_0, q_off, q_self, q_oth, cst_2, st_2, ↓reduceIte, f_X8_cellAt, f_X8_roadAt, q_le1, q_nle1, q_le2, q_nle2, q_le5, q_nle5, q_le6, q_nle6, q_le8, q_nle8, q_le12, q_nle12, q_le25, q_nle25, q_le36, q_nle36, q_le60, q_nle60, q_le99, q_nle99, q_le100, q_nle100, q_le300, q_nle300, q_le640, q_nle640, q_le411, q_nle411, q_mul2, q_lmul2, q_mul3, q_lmul3, q_mul5, q_lmul5, q_mul6, q_lmul6, q_mul10, q_lmul10, q_add1, q_ladd1, q_add2, q_ladd2, q_add3, q_ladd3, q_add5, q_ladd5, q_add6, q_ladd6, q_add100, q_ladd100, q_div2, q_rem2, q_div3, q_rem3, q_div6, q_rem6, q_div10, q_rem10, lt_k]
      · exact fr_st' (fr_st' (fr_st' (fr_st' (fr_st (by unfold GM; omega)) (by unfold GM; omega)) (by unfold GM; omega)) (by unfold GM; omega)) (by unfold GM; omega)
    · rw [if_neg q]
      refine ⟨μ, ?_, hx, fr_refl _ _⟩
      unfold f_X9_comes f_X9_many
      have l5 : (nI D.1.1 = 5) = True := eq_true (by rw [show D.1.1 = 5 by omega]; rfl)
      simp (disch := omega) only [lt_k, bnv_s, bnd_s, grd_t, q_in, q_inb, q_c, q_leT, q_leF, q_ltT, q_ltF, q_neg, q_nn, q_z, q_le0, q_b0, q_b1, nI_add, nI_0, q_off, q_self, q_oth, cst_2, st_2, ↓reduceIte, f_X8_cellAt, f_X8_roadAt, q_le1, q_nle1, q_le2, q_nle2, q_le5, q_nle5, q_le6, q_nle6, q_le8, q_nle8, q_le12, q_nle12, q_le25, q_nle25, q_le36, q_nle36, q_le60, q_nle60, q_le99, q_nle99, q_le100, q_nle100, q_le300, q_nle300, q_le640, q_nle640, q_le411, q_nle411, q_mul2, q_lmul2, q_mul3, q_lmul3, q_mul5, q_lmul5, q_mul6, q_lmul6, q_mul10, q_lmul10, q_add1, q_ladd1, q_add2, q_ladd2, q_add3, q_ladd3, q_add5, q_ladd5, q_add6, q_ladd6, q_add100, q_ladd100, q_div2, q_rem2, q_div3, q_rem3, q_div6, q_rem6, q_div10, q_rem10, b01_f, i9_99, i9_9, ha, hb, b2i_t, q_10, x1, x2, l5]
  · have em : g_many D.1 true = D.1.2.1 := rfl
    rw [em]
    by_cases q : D.1.2.1 < 5
    · rw [if_pos q]
      refine ⟨st (st (st (st (st μ 123 (5 + D.1.2.1) a) 124 (5 + D.1.2.1) b) 122 0 (nI D.1.1)) 122 1 (nI (D.1.2.1 + 1))) 122 6 0, ?_, MD_G hx ?_ ⟨?_, ?_, fun i hi => ?_, fun i hi => ?_⟩ ?_, ?_⟩
      · unfold f_X9_comes f_X9_comes_81 f_X9_many
        have l5 : (nI D.1.2.1 = 5) = False := eq_false (fun r => by have := (nI_eq (b := 5) (by omega) (by decide)).mp r; omega)
        simp (disch := omega) only [lt_k, bnv_s, bnd_s, grd_t, q_in, q_inb, q_c, q_leT, q_leF, q_ltT, q_ltF, q_neg, q_nn, q_z, q_le0, q_b0, q_b1, nI_add, nI_0, q_off, q_self, q_oth, cst_2, st_2, ↓reduceIte, f_X8_cellAt, f_X8_roadAt, q_le1, q_nle1, q_le2, q_nle2, q_le5, q_nle5, q_le6, q_nle6, q_le8, q_nle8, q_le12, q_nle12, q_le25, q_nle25, q_le36, q_nle36, q_le60, q_nle60, q_le99, q_nle99, q_le100, q_nle100, q_le300, q_nle300, q_le640, q_nle640, q_le411, q_nle411, q_mul2, q_lmul2, q_mul3, q_lmul3, q_mul5, q_lmul5, q_mul6, q_lmul6, q_mul10, q_lmul10, q_add1, q_ladd1, q_add2, q_ladd2, q_add3, q_ladd3, q_add5, q_ladd5, q_add6, q_ladd6, q_add100, q_ladd100, q_div2, q_rem2, q_div3, q_rem3, q_div6, q_rem6, q_div10, q_rem10, b01_t, i9_99, i9_9, ha, hb, b2i_t, q_10, x1, x2, l5, z51, Int32.add_zero]
      · exact fr_st' (fr_st' (fr_st' (fr_st' (fr_st (by unfold GM; omega)) (by unfold GM; omega)) (by unfold GM; omega)) (by unfold GM; omega)) (by unfold GM; omega)
      · show _ = nI D.1.1
        simp (disch := omega) only [lt_k, bnv_s, bnd_s, grd_t, q_in, q_inb, q_c, q_leT, q_leF, q_ltT, q_ltF, q_neg, q_nn, q_z, q_le0, q_b0, q_b1, nI_add, nI_0, q_off, q_self, q_oth, cst_2, st_2, ↓reduceIte, f_X8_cellAt, f_X8_roadAt, q_le1, q_nle1, q_le2, q_nle2, q_le5, q_nle5, q_le6, q_nle6, q_le8, q_nle8, q_le12, q_nle12, q_le25, q_nle25, q_le36, q_nle36, q_le60, q_nle60, q_le99, q_nle99, q_le100, q_nle100, q_le300, q_nle300, q_le640, q_nle640, q_le411, q_nle411, q_mul2, q_lmul2, q_mul3, q_lmul3, q_mul5, q_lmul5, q_mul6, q_lmul6, q_mul10, q_lmul10, q_add1, q_ladd1, q_add2, q_ladd2, q_add3, q_ladd3, q_add5, q_ladd5, q_add6, q_ladd6, q_add100, q_ladd100, q_div2, q_rem2, q_div3, q_rem3, q_div6, q_rem6, q_div10, q_rem10, lt_k]
      · show _ = nI (D.1.2.1 + 1)
        simp (disch := omega) only [lt_k, bnv_s, bnd_s, grd_t, q_in, q_inb, q_c, q_leT, q_leF, q_ltT, q_ltF, q_neg, q_nn, q_z, q_le0, q_b0, q_b1, nI_add, nI_0, q_off, q_self, q_oth, cst_2, st_2, ↓reduceIte, f_X8_cellAt, f_X8_roadAt, q_le1, q_nle1, q_le2, q_nle2, q_le5, q_nle5, q_le6, q_nle6, q_le8, q_nle8, q_le12, q_nle12, q_le25, q_nle25, q_le36, q_nle36, q_le60, q_nle60, q_le99, q_nle99, q_le100, q_nle100, q_le300, q_nle300, q_le640, q_nle640, q_le411, q_nle411, q_mul2, q_lmul2, q_mul3, q_lmul3, q_mul5, q_lmul5, q_mul6, q_lmul6, q_mul10, q_lmul10, q_add1, q_ladd1, q_add2, q_ladd2, q_add3, q_ladd3, q_add5, q_ladd5, q_add6, q_ladd6, q_add100, q_ladd100, q_div2, q_rem2, q_div3, q_rem3, q_div6, q_rem6, q_div10, q_rem10, lt_k]
      · simp (disch := omega) only [lt_k, bnv_s, bnd_s, grd_t, q_in, q_inb, q_c, q_leT, q_leF, q_ltT, q_ltF, q_neg, q_nn, q_z, q_le0, q_b0, q_b1, nI_add, nI_0, q_off, q_self, q_oth, cst_2, st_2, ↓reduceIte, f_X8_cellAt, f_X8_roadAt, q_le1, q_nle1, q_le2, q_nle2, q_le5, q_nle5, q_le6, q_nle6, q_le8, q_nle8, q_le12, q_nle12, q_le25, q_nle25, q_le36, q_nle36, q_le60, q_nle60, q_le99, q_nle99, q_le100, q_nle100, q_le300, q_nle300, q_le640, q_nle640, q_le411, q_nle411, q_mul2, q_lmul2, q_mul3, q_lmul3, q_mul5, q_lmul5, q_mul6, q_lmul6, q_mul10, q_lmul10, q_add1, q_ladd1, q_add2, q_ladd2, q_add3, q_ladd3, q_add5, q_ladd5, q_add6, q_ladd6, q_add100, q_ladd100, q_div2, q_rem2, q_div3, q_rem3, q_div6, q_rem6, q_div10, q_rem10, q_at]
        obtain ⟨y1, y2⟩ := x3 i hi
        show _ = upd D.1.2.2.1 (5 + D.1.2.1) a i ∧ _ = upd D.1.2.2.2.1 (5 + D.1.2.1) b i
        unfold upd
        by_cases r : i = 5 + D.1.2.1
        · rw [if_pos r, if_pos r, if_pos r, if_pos r]; exact ⟨rfl, rfl⟩
        · rw [if_neg r, if_neg r, if_neg r, if_neg r]; exact ⟨y1, y2⟩
      · simp (disch := omega) only [lt_k, bnv_s, bnd_s, grd_t, q_in, q_inb, q_c, q_leT, q_leF, q_ltT, q_ltF, q_neg, q_nn, q_z, q_le0, q_b0, q_b1, nI_add, nI_0, q_off, q_self, q_oth, cst_2, st_2, ↓reduceIte, f_X8_cellAt, f_X8_roadAt, q_le1, q_nle1, q_le2, q_nle2, q_le5, q_nle5, q_le6, q_nle6, q_le8, q_nle8, q_le12, q_nle12, q_le25, q_nle25, q_le36, q_nle36, q_le60, q_nle60, q_le99, q_nle99, q_le100, q_nle100, q_le300, q_nle300, q_le640, q_nle640, q_le411, q_nle411, q_mul2, q_lmul2, q_mul3, q_lmul3, q_mul5, q_lmul5, q_mul6, q_lmul6, q_mul10, q_lmul10, q_add1, q_ladd1, q_add2, q_ladd2, q_add3, q_ladd3, q_add5, q_ladd5, q_add6, q_ladd6, q_add100, q_ladd100, q_div2, q_rem2, q_div3, q_rem3, q_div6, q_rem6, q_div10, q_rem10, lt_k]; exact x4 i hi
      · simp (disch := omega) only [lt_k, bnv_s, bnd_s, grd_t, q_in, q_inb, q_c, q_leT, q_leF, q_ltT, q_ltF, q_neg, q_nn, q_z, q_le0, q_b0, q_b1, nI_add, nI_0, q_off, q_self, q_oth, cst_2, st_2, ↓reduceIte, f_X8_cellAt, f_X8_roadAt, q_le1, q_nle1, q_le2, q_nle2, q_le5, q_nle5, q_le6, q_nle6, q_le8, q_nle8, q_le12, q_nle12, q_le25, q_nle25, q_le36, q_nle36, q_le60, q_nle60, q_le99, q_nle99, q_le100, q_nle100, q_le300, q_nle300, q_le640, q_nle640, q_le411, q_nle411, q_mul2, q_lmul2, q_mul3, q_lmul3, q_mul5, q_lmul5, q_mul6, q_lmul6, q_mul10, q_lmul10, q_add1, q_ladd1, q_add2, q_ladd2, q_add3, q_ladd3, q_add5, q_ladd5, q_add6, q_ladd6, q_add100, q_ladd100, q_div2, q_rem2, q_div3, q_rem3, q_div6, q_rem6, q_div10, q_rem10, lt_k]
      · exact fr_st' (fr_st' (fr_st' (fr_st' (fr_st (by unfold GM; omega)) (by unfold GM; omega)) (by unfold GM; omega)) (by unfold GM; omega)) (by unfold GM; omega)
    · rw [if_neg q]
      refine ⟨μ, ?_, hx, fr_refl _ _⟩
      unfold f_X9_comes f_X9_many
      have l5 : (nI D.1.2.1 = 5) = True := eq_true (by rw [show D.1.2.1 = 5 by omega]; rfl)
      simp (disch := omega) only [lt_k, bnv_s, bnd_s, grd_t, q_in, q_inb, q_c, q_leT, q_leF, q_ltT, q_ltF, q_neg, q_nn, q_z, q_le0, q_b0, q_b1, nI_add, nI_0, q_off, q_self, q_oth, cst_2, st_2, ↓reduceIte, f_X8_cellAt, f_X8_roadAt, q_le1, q_nle1, q_le2, q_nle2, q_le5, q_nle5, q_le6, q_nle6, q_le8, q_nle8, q_le12, q_nle12, q_le25, q_nle25, q_le36, q_nle36, q_le60, q_nle60, q_le99, q_nle99, q_le100, q_nle100, q_le300, q_nle300, q_le640, q_nle640, q_le411, q_nle411, q_mul2, q_lmul2, q_mul3, q_lmul3, q_mul5, q_lmul5, q_mul6, q_lmul6, q_mul10, q_lmul10, q_add1, q_ladd1, q_add2, q_ladd2, q_add3, q_ladd3, q_add5, q_ladd5, q_add6, q_ladd6, q_add100, q_ladd100, q_div2, q_rem2, q_div3, q_rem3, q_div6, q_rem6, q_div10, q_rem10, b01_t, i9_99, i9_9, ha, hb, b2i_t, q_10, x1, x2, l5]
theorem Inv_data {μ μ1 μ2 : Mem} {D' : TD} (hR : Rst μ) (h' : D_ok D') (x1 : XD 14 D' μ1) (f1 : fr GX μ μ1) (hm : MD D' μ2) (f2 : fr GM μ1 μ2) : Inv μ2 :=
  ⟨⟨D', h', XD_fr x1 h' f2 (fun c j q => by unfold GM; omega), hm⟩, Rst_fr (Rst_fr hR f1 (fun c j q => by unfold GX; omega)) f2 (fun c j q => by unfold GM; omega)⟩
