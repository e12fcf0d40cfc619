/-! THE PURE PART: what the class picks by regret -/
/-- of the first n the cheapest two -/
def t_am (g : Nat → Int32) (op : Nat → Bool) (n f : Nat) : Prop := f < n ∧ op f = true ∧ ∀ j, j < n → op j = true → (g f).toInt ≤ (g j).toInt ∧ (g j = g f → f ≤ j)
def t_two (g : Nat → Int32) (op : Nat → Bool) (n : Nat) (a b : Int32) : Prop := (a = 1000000 ∧ b = 1000000 ∧ ∀ j, j < n → op j = false) ∨
  ∃ f, t_am g op n f ∧ a = g f ∧ ((b = 1000000 ∧ ∀ j, j < n → op j = true → j = f) ∨ ∃ s, s < n ∧ op s = true ∧ s ≠ f ∧ b = g s ∧ ∀ j, j < n → op j = true → j ≠ f → (g s).toInt ≤ (g j).toInt)
theorem t_am_skip {g : Nat → Int32} {op : Nat → Bool} {n f : Nat} (h : t_am g op n f) (h2 : op n = true → (g f).toInt ≤ (g n).toInt) : t_am g op (n + 1) f := by
  obtain ⟨a, b, e⟩ := h
  refine ⟨by omega, b, fun d hd hp => ?_⟩
  by_cases q : d = n
  · rw [q] at hp ⊢; exact ⟨h2 hp, fun _ => by omega⟩
  · exact e d (by omega) hp
theorem t_am_new {g : Nat → Int32} {op : Nat → Bool} {n : Nat} (hp : op n = true) (h : (∀ j, j < n → op j = false) ∨ ∃ f, t_am g op n f ∧ (g n).toInt < (g f).toInt) : t_am g op (n + 1) n := by
  refine ⟨by omega, hp, fun d hd hpd => ?_⟩
  by_cases q : d = n
  · rw [q]; exact ⟨Int.le_refl _, fun _ => Nat.le_refl _⟩
  · rcases h with h | ⟨c, hc, hlt⟩
    · rw [h d (by omega)] at hpd; cases hpd
    · have := (hc.2.2 d (by omega) hpd).1
      refine ⟨by omega, fun e => ?_⟩
      rw [e] at this; omega
/-- a line as the class goes along it -/
def t_along (O : Nat → Bool) (line : Nat) (fr0 sd n : Nat) (op : Nat → Bool) : Prop := (∀ k, k < n → op k = true → fr0 + k * sd < 36 ∧ t_opc O (fr0 + k * sd) ∧ t_ln line (fr0 + k * sd)) ∧ (∀ d, d < 36 → t_opc O d → t_ln line d → ∃ k, k < n ∧ op k = true ∧ d = fr0 + k * sd) ∧ 0 < sd ∧ n ≤ 6 ∧ (∀ k, k < n → fr0 + k * sd < 36)
theorem t_along_row {O : Nat → Bool} {S T i : Nat} (hS : S ≤ 6) (hT : T ≤ 6) (hO : ∀ u, O u = true → t_nd S T u) (hi : i < 6) (h1 : O i = true) : t_along O i (6 * i) 1 T (fun k => O (6 + k)) := by
  refine ⟨fun k hk ho => ⟨by omega, ⟨?_, ?_⟩, Or.inl (by omega)⟩, fun d hd ho hl => ?_, by omega, hT, fun k hk => by omega⟩
  · rw [show (6 * i + k * 1) / 6 = i by omega]; exact h1
  · rw [show (6 * i + k * 1) % 6 = k by omega]; exact ho
  · have := t_opc_pl hS hO hd ho
    unfold t_pl at this
    unfold t_ln at hl
    exact ⟨d % 6, this.2, ho.2, by omega⟩
theorem t_along_col {O : Nat → Bool} {S T j : Nat} (hS : S ≤ 6) (hT : T ≤ 6) (hO : ∀ u, O u = true → t_nd S T u) (hj : j < 6) (h1 : O (6 + j) = true) : t_along O (6 + j) j 6 S (fun k => O k) := by
  refine ⟨fun k hk ho => ⟨by omega, ⟨?_, ?_⟩, Or.inr (by omega)⟩, fun d hd ho hl => ?_, by omega, hS, fun k hk => by omega⟩
  · rw [show (j + k * 6) / 6 = k by omega]; exact ho
  · rw [show (j + k * 6) % 6 = j by omega]; exact h1
  · have := t_opc_pl hS hO hd ho
    unfold t_pl at this
    unfold t_ln at hl
    exact ⟨d / 6, this.1, ho.1, by omega⟩
theorem t_mul_inj {a j k sd : Nat} (hs : 0 < sd) (h : a + j * sd = a + k * sd) : j = k := Nat.eq_of_mul_eq_mul_right hs (by omega)
theorem t_mul_le {a j k sd : Nat} (hs : 0 < sd) : a + j * sd ≤ a + k * sd ↔ j ≤ k := by
  constructor
  · intro h; exact Nat.le_of_mul_le_mul_right (by omega) hs
  · intro h; have := Nat.mul_le_mul_right sd h; omega
theorem t_am_ch {cost : Nat → Int32} {O : Nat → Bool} {line fr0 sd n f : Nat} {op : Nat → Bool} (ha : t_along O line fr0 sd n op) (h : t_am (fun k => cost (fr0 + k * sd)) op n f) : t_ch cost O (t_ln line) 36 (fr0 + f * sd) := by
  obtain ⟨a1, a2, a3, a4, a5⟩ := ha
  obtain ⟨h1, h2, h3⟩ := h
  obtain ⟨b1, b2, b3⟩ := a1 f h1 h2
  refine ⟨b1, b2, b3, fun d hd ho hl => ?_⟩
  obtain ⟨k, hk, hko, e⟩ := a2 d hd ho hl
  obtain ⟨c1, c2⟩ := h3 k hk hko
  rw [e]
  exact ⟨c1, fun q => (t_mul_le a3).mpr (c2 q)⟩
theorem t_two_rg {cost : Nat → Int32} {O : Nat → Bool} {line fr0 sd n : Nat} {op : Nat → Bool} {a b : Int32} (ha : t_along O line fr0 sd n op) (hco : ∀ c, c < 36 → t_opc O c → (cost c).toInt ≤ 1100) (hex : ∃ k, k < n ∧ op k = true) (h : t_two (fun k => cost (fr0 + k * sd)) op n a b) :
    t_rg cost O line (if b = 1000000 then a else b - a) := by
  rcases h with ⟨-, -, h⟩ | ⟨f, hf, ea, h⟩
  · obtain ⟨k, hk, e⟩ := hex
    rw [h k hk] at e; cases e
  · have hch := t_am_ch ha hf
    obtain ⟨a1, a2, a3, a4, a5⟩ := ha
    refine ⟨_, hch, ?_⟩
    rcases h with ⟨eb, h⟩ | ⟨s, s1, s2, s3, s4, s5⟩
    · rw [if_pos eb]
      refine Or.inl ⟨fun d hd ho hl => ?_, ea⟩
      obtain ⟨k, hk, hko, e⟩ := a2 d hd ho hl
      rw [e, h k hk hko]
    · obtain ⟨b1, b2, b3⟩ := a1 s s1 s2
      have hb : b ≠ 1000000 := fun e => by
        have := hco _ b1 b2
        change b = cost _ at s4
        rw [← s4, e, show (1000000 : Int32).toInt = 1000000 from rfl] at this
        omega
      rw [if_neg hb]
      refine Or.inr ⟨_, b1, b2, b3, fun e => s3 (t_mul_inj a3 e), fun d hd ho hl hn => ?_, by rw [ea, s4]⟩
      obtain ⟨k, hk, hko, e⟩ := a2 d hd ho hl
      rw [e]
      exact s5 k hk hko (fun q => hn (by rw [e, q]))
theorem t_rg_nn {cost : Nat → Int32} {O : Nat → Bool} {line : Nat} {r : Int32} (hco : ∀ c, c < 36 → t_opc O c → 0 ≤ (cost c).toInt ∧ (cost c).toInt ≤ 1100) (h : t_rg cost O line r) : 0 ≤ r.toInt := by
  obtain ⟨f, a, b⟩ := h
  have cf := hco f a.1 a.2.1
  rcases b with ⟨-, e⟩ | ⟨s, s1, s2, s3, s4, s5, e⟩
  · rw [e]; exact cf.1
  · have cs := hco s s1 s2
    have := (a.2.2.2 s s1 s2 s3).1
    rw [e, Int32.toInt_sub]
    rw [Int.bmod_eq_of_le] <;> omega
theorem x2_cheapestOf {a0 a3 fr0 sd n : Nat} {g : Nat → Int32} {op : Nat → Bool} {μ : Mem} (hn : n ≤ 6) (hsd : sd ≤ 6) (hfr : fr0 ≤ 36) (hq : ∀ k, k < n → fr0 + k * sd < 36) (hop : ∀ k, k < n → μ.1 a3 k = b01 (op k)) (hg : ∀ k, k < n → op k = true → μ.1 a0 (fr0 + k * sd) = g k ∧ (g k).toInt ≤ 1100) (hex : ∃ k, k < n ∧ op k = true) :
    ∃ f, f_X2_cheapestOf a0 36 (nI fr0) (nI sd) a3 6 (nI n) μ = some (nI f) ∧ t_am g op n f := by
  refine q_loop0 (fun m i (s : Int32 × Int32) => f_X2_cheapestOf_10 a0 36 (nI fr0) (nI sd) a3 6 (nI n) μ m s.1 s.2 (nI i)) n (by omega)
    (fun i s => (s.2 = 1000000 ∧ ∀ j, j < i → op j = false) ∨ ∃ f, s.1 = nI f ∧ s.2 = g f ∧ t_am g op i f) (fun z => ∃ f, z = some (nI f) ∧ t_am g op n f) ?_ ?_ (0, 1000000) (Or.inl ⟨rfl, fun j h => by omega⟩)
  · rintro m i ⟨x, y⟩ hi hv
    right
    have ho := hop i hi
    have hqi := hq i hi
    cases o1 : op i
    · rw [o1] at ho
      refine ⟨(x, y), ?_, ?_⟩
      · rcases hv with ⟨a, b⟩ | ⟨f, a, b, c⟩
        · refine Or.inl ⟨a, fun j hj => ?_⟩
          by_cases q : j = i
          · rw [q]; exact o1
          · exact b j (by omega)
        · exact Or.inr ⟨f, a, b, t_am_skip c (fun h => by rw [o1] at h; cases h)⟩
      · show g_X2_cheapestOf_10 a0 36 _ _ a3 6 _ μ _ x y (nI i) = _
        unfold g_X2_cheapestOf_10
        simp (disch := omega) only [lt_k, bnv_s, bnd_s, grd_t, q_in, q_inb, q_c, q_leT, q_leF, q_ltT, q_ltF, q_neg, q_nn, q_z, q_le0, q_b0, q_b1, nI_add, nI_0, q_off, q_self, q_oth, cst_2, st_2, ↓reduceIte, f_X8_cellAt, f_X8_roadAt, q_le1, q_nle1, q_le2, q_nle2, q_le5, q_nle5, q_le6, q_nle6, q_le8, q_nle8, q_le12, q_nle12, q_le25, q_nle25, q_le36, q_nle36, q_le60, q_nle60, q_le99, q_nle99, q_le100, q_nle100, q_le300, q_nle300, q_le640, q_nle640, q_le411, q_nle411, q_mul2, q_lmul2, q_mul3, q_lmul3, q_mul5, q_lmul5, q_mul6, q_lmul6, q_mul10, q_lmul10, q_add1, q_ladd1, q_add2, q_ladd2, q_add3, q_ladd3, q_add5, q_ladd5, q_add6, q_ladd6, q_add100, q_ladd100, q_div2, q_rem2, q_div3, q_rem3, q_div6, q_rem6, q_div10, q_rem10, ho, b01_f]
    · rw [o1] at ho
      obtain ⟨hgi, hg1⟩ := hg i hi o1
      by_cases hle : y ≤ g i
      · refine ⟨(x, y), ?_, ?_⟩
        · rcases hv with ⟨a, b⟩ | ⟨f, a, b, c⟩
          · change y = _ at a; rw [a] at hle; exact absurd hle (q_maxlt hg1)
          · change y = _ at b
            exact Or.inr ⟨f, a, b, t_am_skip c (fun _ => by rw [b] at hle; exact i_le.mp hle)⟩
        · show g_X2_cheapestOf_10 a0 36 _ _ a3 6 _ μ _ x y (nI i) = _
          unfold g_X2_cheapestOf_10
          simp (disch := omega) only [lt_k, bnv_s, bnd_s, grd_t, q_in, q_inb, q_c, q_leT, q_leF, q_ltT, q_ltF, q_neg, q_nn, q_z, q_le0, q_b0, q_b1, nI_add, nI_0, q_off, q_self, q_oth, cst_2, st_2, ↓reduceIte, f_X8_cellAt, f_X8_roadAt, q_le1, q_nle1, q_le2, q_nle2, q_le5, q_nle5, q_le6, q_nle6, q_le8, q_nle8, q_le12, q_nle12, q_le25, q_nle25, q_le36, q_nle36, q_le60, q_nle60, q_le99, q_nle99, q_le100, q_nle100, q_le300, q_nle300, q_le640, q_nle640, q_le411, q_nle411, q_mul2, q_lmul2, q_mul3, q_lmul3, q_mul5, q_lmul5, q_mul6, q_lmul6, q_mul10, q_lmul10, q_add1, q_ladd1, q_add2, q_ladd2, q_add3, q_ladd3, q_add5, q_ladd5, q_add6, q_ladd6, q_add100, q_ladd100, q_div2, q_rem2, q_div3, q_rem3, q_div6, q_rem6, q_div10, q_rem10, ho, b01_t, q_10, q_mulg, hgi, hle]
      · refine ⟨(nI i, g i), Or.inr ⟨i, rfl, rfl, t_am_new o1 ?_⟩, ?_⟩
        · rcases hv with ⟨a, b⟩ | ⟨f, a, b, c⟩
          · exact Or.inl b
          · change y = _ at b
            exact Or.inr ⟨f, c, by rw [b, i_le] at hle; omega⟩
        · show g_X2_cheapestOf_10 a0 36 _ _ a3 6 _ μ _ x y (nI i) = _
          unfold g_X2_cheapestOf_10
          simp (disch := omega) only [lt_k, bnv_s, bnd_s, grd_t, q_in, q_inb, q_c, q_leT, q_leF, q_ltT, q_ltF, q_neg, q_nn, q_z, q_le0, q_b0, q_b1, nI_add, nI_0, q_off, q_self, q_oth, cst_2, st_2, ↓reduceIte, f_X8_cellAt, f_X8_roadAt, q_le1, q_nle1, q_le2, q_nle2, q_le5, q_nle5, q_le6, q_nle6, q_le8, q_nle8, q_le12, q_nle12, q_le25, q_nle25, q_le36, q_nle36, q_le60, q_nle60, q_le99, q_nle99, q_le100, q_nle100, q_le300, q_nle300, q_le640, q_nle640, q_le411, q_nle411, q_mul2, q_lmul2, q_mul3, q_lmul3, q_mul5, q_lmul5, q_mul6, q_lmul6, q_mul10, q_lmul10, q_add1, q_ladd1, q_add2, q_ladd2, q_add3, q_ladd3, q_add5, q_ladd5, q_add6, q_ladd6, q_add100, q_ladd100, q_div2, q_rem2, q_div3, q_rem3, q_div6, q_rem6, q_div10, q_rem10, ho, b01_t, q_10, q_mulg, hgi, hle]
  · rintro m ⟨x, y⟩ hv
    rcases hv with ⟨a, b⟩ | ⟨f, a, b, c⟩
    · obtain ⟨k, hk, e⟩ := hex
      rw [b k hk] at e; cases e
    · refine ⟨f, ?_, c⟩
      change x = _ at a
      show g_X2_cheapestOf_10 a0 36 _ _ a3 6 _ μ _ x y (nI n) = _
      unfold g_X2_cheapestOf_10
      simp (disch := omega) only [lt_k, bnv_s, bnd_s, grd_t, q_in, q_inb, q_c, q_leT, q_leF, q_ltT, q_ltF, q_neg, q_nn, q_z, q_le0, q_b0, q_b1, nI_add, nI_0, q_off, q_self, q_oth, cst_2, st_2, ↓reduceIte, f_X8_cellAt, f_X8_roadAt, q_le1, q_nle1, q_le2, q_nle2, q_le5, q_nle5, q_le6, q_nle6, q_le8, q_nle8, q_le12, q_nle12, q_le25, q_nle25, q_le36, q_nle36, q_le60, q_nle60, q_le99, q_nle99, q_le100, q_nle100, q_le300, q_nle300, q_le640, q_nle640, q_le411, q_nle411, q_mul2, q_lmul2, q_mul3, q_lmul3, q_mul5, q_lmul5, q_mul6, q_lmul6, q_mul10, q_lmul10, q_add1, q_ladd1, q_add2, q_ladd2, q_add3, q_ladd3, q_add5, q_ladd5, q_add6, q_ladd6, q_add100, q_ladd100, q_div2, q_rem2, q_div3, q_rem3, q_div6, q_rem6, q_div10, q_rem10, a]
theorem x2_regretOf {a0 a3 fr0 sd n : Nat} {g : Nat → Int32} {op : Nat → Bool} {μ : Mem} (hn : n ≤ 6) (hsd : sd ≤ 6) (hfr : fr0 ≤ 36) (hq : ∀ k, k < n → fr0 + k * sd < 36) (hop : ∀ k, k < n → μ.1 a3 k = b01 (op k)) (hg : ∀ k, k < n → op k = true → μ.1 a0 (fr0 + k * sd) = g k ∧ (g k).toInt ≤ 1100) :
    ∃ a b, f_X2_regretOf a0 36 (nI fr0) (nI sd) a3 6 (nI n) μ = some (if b = 1000000 then a else b - a) ∧ t_two g op n a b := by
  refine q_loop0 (fun m i (s : Int32 × Int32) => f_X2_regretOf_11 a0 36 (nI fr0) (nI sd) a3 6 (nI n) μ m s.1 s.2 (nI i)) n (by omega)
    (fun i s => t_two g op i s.1 s.2) (fun z => ∃ a b, z = some (if b = 1000000 then a else b - a) ∧ t_two g op n a b) ?_ ?_ (1000000, 1000000) (Or.inl ⟨rfl, rfl, fun j h => by omega⟩)
  · rintro m i ⟨x, y⟩ hi hv
    right
    change t_two g op i x y at hv
    have ho := hop i hi
    have hqi := hq i hi
    cases o1 : op i
    · rw [o1] at ho
      refine ⟨(x, y), ?_, ?_⟩
      · show t_two g op (i + 1) x y
        rcases hv with ⟨a, b, c⟩ | ⟨f, a, b, c⟩
        · refine Or.inl ⟨a, b, fun j hj => ?_⟩
          by_cases q : j = i
          · rw [q]; exact o1
          · exact c j (by omega)
        · refine Or.inr ⟨f, t_am_skip a (fun h => by rw [o1] at h; cases h), b, ?_⟩
          rcases c with ⟨c1, c2⟩ | ⟨s, s1, s2, s3, s4, s5⟩
          · refine Or.inl ⟨c1, fun j hj hoj => ?_⟩
            by_cases q : j = i
            · rw [q, o1] at hoj; cases hoj
            · exact c2 j (by omega) hoj
          · refine Or.inr ⟨s, by omega, s2, s3, s4, fun j hj hoj hn => ?_⟩
            by_cases q : j = i
            · rw [q, o1] at hoj; cases hoj
            · exact s5 j (by omega) hoj hn
      · show g_X2_regretOf_11 a0 36 _ _ a3 6 _ μ _ x y (nI i) = _
        unfold g_X2_regretOf_11 f_X2_regretOf_53
        simp (disch := omega) only [lt_k, bnv_s, bnd_s, grd_t, q_in, q_inb, q_c, q_leT, q_leF, q_ltT, q_ltF, q_neg, q_nn, q_z, q_le0, q_b0, q_b1, nI_add, nI_0, q_off, q_self, q_oth, cst_2, st_2, ↓reduceIte, f_X8_cellAt, f_X8_roadAt, q_le1, q_nle1, q_le2, q_nle2, q_le5, q_nle5, q_le6, q_nle6, q_le8, q_nle8, q_le12, q_nle12, q_le25, q_nle25, q_le36, q_nle36, q_le60, q_nle60, q_le99, q_nle99, q_le100, q_nle100, q_le300, q_nle300, q_le640, q_nle640, q_le411, q_nle411, q_mul2, q_lmul2, q_mul3, q_lmul3, q_mul5, q_lmul5, q_mul6, q_lmul6, q_mul10, q_lmul10, q_add1, q_ladd1, q_add2, q_ladd2, q_add3, q_ladd3, q_add5, q_ladd5, q_add6, q_ladd6, q_add100, q_ladd100, q_div2, q_rem2, q_div3, q_rem3, q_div6, q_rem6, q_div10, q_rem10, ho, b01_f, q_mulg]
    · rw [o1] at ho
      obtain ⟨hgi, hg1⟩ := hg i hi o1
      by_cases hle : x ≤ g i
      · -- not the cheapest
        rcases hv with ⟨a, b, c⟩ | ⟨f, a, b, c⟩
        · rw [a] at hle; exact absurd hle (q_maxlt hg1)
        · have hfi : f ≠ i := fun e => by have := a.1; omega
          have ha' := t_am_skip a (fun _ => by rw [b] at hle; exact i_le.mp hle)
          by_cases hle2 : y ≤ g i
          · refine ⟨(x, y), ?_, ?_⟩
            · refine Or.inr ⟨f, ha', b, ?_⟩
              rcases c with ⟨c1, c2⟩ | ⟨s, s1, s2, s3, s4, s5⟩
              · rw [c1] at hle2; exact absurd hle2 (q_maxlt hg1)
              · refine Or.inr ⟨s, by omega, s2, s3, s4, fun j hj hoj hn => ?_⟩
                by_cases q : j = i
                · rw [q]; rw [s4] at hle2; exact i_le.mp hle2
                · exact s5 j (by omega) hoj hn
            · show g_X2_regretOf_11 a0 36 _ _ a3 6 _ μ _ x y (nI i) = _
              unfold g_X2_regretOf_11 f_X2_regretOf_53
              simp (disch := omega) only [lt_k, bnv_s, bnd_s, grd_t, q_in, q_inb, q_c, q_leT, q_leF, q_ltT, q_ltF, q_neg, q_nn, q_z, q_le0, q_b0, q_b1, nI_add, nI_0, q_off, q_self, q_oth, cst_2, st_2, ↓reduceIte, f_X8_cellAt, f_X8_roadAt, q_le1, q_nle1, q_le2, q_nle2, q_le5, q_nle5, q_le6, q_nle6, q_le8, q_nle8, q_le12, q_nle12, q_le25, q_nle25, q_le36, q_nle36, q_le60, q_nle60, q_le99, q_nle99, q_le100, q_nle100, q_le300, q_nle300, q_le640, q_nle640, q_le411, q_nle411, q_mul2, q_lmul2, q_mul3, q_lmul3, q_mul5, q_lmul5, q_mul6, q_lmul6, q_mul10, q_lmul10, q_add1, q_ladd1, q_add2, q_ladd2, q_add3, q_ladd3, q_add5, q_ladd5, q_add6, q_ladd6, q_add100, q_ladd100, q_div2, q_rem2, q_div3, q_rem3, q_div6, q_rem6, q_div10, q_rem10, ho, b01_t, q_10, q_mulg, hgi, hle, hle2]
          · refine ⟨(x, g i), ?_, ?_⟩
            · refine Or.inr ⟨f, ha', b, Or.inr ⟨i, by omega, o1, fun e => hfi e.symm, rfl, fun j hj hoj hn => ?_⟩⟩
              by_cases q : j = i
              · rw [q]; exact Int.le_refl _
              · rcases c with ⟨c1, c2⟩ | ⟨s, s1, s2, s3, s4, s5⟩
                · exact absurd (c2 j (by omega) hoj) hn
                · have := s5 j (by omega) hoj hn
                  rw [s4, i_le] at hle2; omega
            · show g_X2_regretOf_11 a0 36 _ _ a3 6 _ μ _ x y (nI i) = _
              unfold g_X2_regretOf_11 f_X2_regretOf_53
              simp (disch := omega) only [lt_k, bnv_s, bnd_s, grd_t, q_in, q_inb, q_c, q_leT, q_leF, q_ltT, q_ltF, q_neg, q_nn, q_z, q_le0, q_b0, q_b1, nI_add, nI_0, q_off, q_self, q_oth, cst_2, st_2, ↓reduceIte, f_X8_cellAt, f_X8_roadAt, q_le1, q_nle1, q_le2, q_nle2, q_le5, q_nle5, q_le6, q_nle6, q_le8, q_nle8, q_le12, q_nle12, q_le25, q_nle25, q_le36, q_nle36, q_le60, q_nle60, q_le99, q_nle99, q_le100, q_nle100, q_le300, q_nle300, q_le640, q_nle640, q_le411, q_nle411, q_mul2, q_lmul2, q_mul3, q_lmul3, q_mul5, q_lmul5, q_mul6, q_lmul6, q_mul10, q_lmul10, q_add1, q_ladd1, q_add2, q_ladd2, q_add3, q_ladd3, q_add5, q_ladd5, q_add6, q_ladd6, q_add100, q_ladd100, q_div2, q_rem2, q_div3, q_rem3, q_div6, q_rem6, q_div10, q_rem10, ho, b01_t, q_10, q_mulg, hgi, hle, hle2]
      · refine ⟨(g i, x), ?_, ?_⟩
        · show t_two g op (i + 1) (g i) x
          rcases hv with ⟨a, b, c⟩ | ⟨f, a, b, c⟩
          · refine Or.inr ⟨i, t_am_new o1 (Or.inl c), rfl, Or.inl ⟨a, fun j hj hoj => ?_⟩⟩
            by_cases q : j = i
            · exact q
            · rw [c j (by omega)] at hoj; cases hoj
          · rw [b, i_le] at hle
            refine Or.inr ⟨i, t_am_new o1 (Or.inr ⟨f, a, by omega⟩), rfl, Or.inr ⟨f, by have := a.1; omega, a.2.1, by have := a.1; omega, b, fun j hj hoj hn => ?_⟩⟩
            exact (a.2.2 j (by omega) hoj).1
        · show g_X2_regretOf_11 a0 36 _ _ a3 6 _ μ _ x y (nI i) = _
          unfold g_X2_regretOf_11 f_X2_regretOf_53
          simp (disch := omega) only [lt_k, bnv_s, bnd_s, grd_t, q_in, q_inb, q_c, q_leT, q_leF, q_ltT, q_ltF, q_neg, q_nn, q_z, q_le0, q_b0, q_b1, nI_add, nI_0, q_off, q_self, q_oth, cst_2, st_2, ↓reduceIte, f_X8_cellAt, f_X8_roadAt, q_le1, q_nle1, q_le2, q_nle2, q_le5, q_nle5, q_le6, q_nle6, q_le8, q_nle8, q_le12, q_nle12, q_le25, q_nle25, q_le36, q_nle36, q_le60, q_nle60, q_le99, q_nle99, q_le100, q_nle100, q_le300, q_nle300, q_le640, q_nle640, q_le411, q_nle411, q_mul2, q_lmul2, q_mul3, q_lmul3, q_mul5, q_lmul5, q_mul6, q_lmul6, q_mul10, q_lmul10, q_add1, q_ladd1, q_add2, q_ladd2, q_add3, q_ladd3, q_add5, q_ladd5, q_add6, q_ladd6, q_add100, q_ladd100, q_div2, q_rem2, q_div3, q_rem3, q_div6, q_rem6, q_div10, q_rem10, ho, b01_t, q_10, q_mulg, hgi, hle]
  · rintro m ⟨x, y⟩ hv
    refine ⟨x, y, ?_, hv⟩
    show g_X2_regretOf_11 a0 36 _ _ a3 6 _ μ _ x y (nI n) = _
    unfold g_X2_regretOf_11
    simp (disch := omega) only [lt_k, bnv_s, bnd_s, grd_t, q_in, q_inb, q_c, q_leT, q_leF, q_ltT, q_ltF, q_neg, q_nn, q_z, q_le0, q_b0, q_b1, nI_add, nI_0, q_off, q_self, q_oth, cst_2, st_2, ↓reduceIte, f_X8_cellAt, f_X8_roadAt, q_le1, q_nle1, q_le2, q_nle2, q_le5, q_nle5, q_le6, q_nle6, q_le8, q_nle8, q_le12, q_nle12, q_le25, q_nle25, q_le36, q_nle36, q_le60, q_nle60, q_le99, q_nle99, q_le100, q_nle100, q_le300, q_nle300, q_le640, q_nle640, q_le411, q_nle411, q_mul2, q_lmul2, q_mul3, q_lmul3, q_mul5, q_lmul5, q_mul6, q_lmul6, q_mul10, q_lmul10, q_add1, q_ladd1, q_add2, q_ladd2, q_add3, q_ladd3, q_add5, q_ladd5, q_add6, q_ladd6, q_add100, q_ladd100, q_div2, q_rem2, q_div3, q_rem3, q_div6, q_rem6, q_div10, q_rem10, lt_k]
    by_cases q : y = 1000000
    · rw [if_pos q, if_pos q]
    · rw [if_neg q, if_neg q]
