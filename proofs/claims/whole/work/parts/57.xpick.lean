/-! THE PURE PART: what the class picks -/
theorem q_mulg (a b : Nat) : nI a * nI b = nI (a * b) := (Int32.ofNat_mul a b).symm
def XO (o : Nat) (O : Nat → Bool) (μ : Mem) : Prop := ∀ v, v < 6 → μ.1 (o + 1) v = b01 (O v) ∧ μ.1 (o + 2) v = b01 (O (6 + v))
def OA (o : Nat) : Nat → Nat → Prop := fun c j => c = o ∧ (j = 4 ∨ j = 5)
theorem t_first {f : Nat → Bool} : ∀ n, (∃ d, d < n ∧ f d = true) → ∃ v, v < n ∧ f v = true ∧ ∀ u, u < v → f u = false
  | 0, ⟨d, h, _⟩ => by omega
  | n + 1, ⟨d, h, e⟩ => by
    by_cases q : ∃ d, d < n ∧ f d = true
    · obtain ⟨v, a, b, c⟩ := t_first n q
      exact ⟨v, by omega, b, c⟩
    · have : d = n := Classical.byContradiction (fun r => q ⟨d, by omega, e⟩)
      subst this
      refine ⟨d, by omega, e, fun u hu => ?_⟩
      cases r : f u
      · rfl
      · exact absurd ⟨u, hu, r⟩ q
theorem x2_firstOf {a0 v : Nat} {g : Nat → Bool} {μ : Mem} (hr : ∀ u, u < 6 → μ.1 a0 u = b01 (g u)) (hv : v < 6) (h1 : g v = true) (h2 : ∀ u, u < v → g u = false) : f_X2_firstOf a0 6 μ = some (nI v) := by
  refine q_loop0 (fun n i (_ : Unit) => f_X2_firstOf_2 a0 6 μ n (nI i)) v (by omega) (fun _ _ => True) (fun z => z = some (nI v)) (fun n i _ hi _ => Or.inr ⟨(), trivial, ?_⟩) (fun n _ _ => ?_) () trivial
  · show g_X2_firstOf_2 a0 6 μ _ (nI i) = _
    have a := hr i (by omega)
    rw [h2 i hi] at a
    unfold g_X2_firstOf_2
    simp (disch := omega) only [lt_k, bnv_s, bnd_s, grd_t, q_in, q_inb, q_c, q_leT, q_leF, q_ltT, q_ltF, q_neg, q_nn, q_z, q_le0, q_b0, q_b1, nI_add, nI_0, q_off, q_self, q_oth, cst_2, st_2, ↓reduceIte, f_X8_cellAt, f_X8_roadAt, q_le1, q_nle1, q_le2, q_nle2, q_le5, q_nle5, q_le6, q_nle6, q_le8, q_nle8, q_le12, q_nle12, q_le25, q_nle25, q_le36, q_nle36, q_le60, q_nle60, q_le99, q_nle99, q_le100, q_nle100, q_le300, q_nle300, q_le640, q_nle640, q_le411, q_nle411, q_mul2, q_lmul2, q_mul3, q_lmul3, q_mul5, q_lmul5, q_mul6, q_lmul6, q_mul10, q_lmul10, q_add1, q_ladd1, q_add2, q_ladd2, q_add3, q_ladd3, q_add5, q_ladd5, q_add6, q_ladd6, q_add100, q_ladd100, q_div2, q_rem2, q_div3, q_rem3, q_div6, q_rem6, q_div10, q_rem10, a, b01_f]
  · show g_X2_firstOf_2 a0 6 μ _ (nI v) = _
    have a := hr v hv
    rw [h1] at a
    unfold g_X2_firstOf_2
    simp (disch := omega) only [lt_k, bnv_s, bnd_s, grd_t, q_in, q_inb, q_c, q_leT, q_leF, q_ltT, q_ltF, q_neg, q_nn, q_z, q_le0, q_b0, q_b1, nI_add, nI_0, q_off, q_self, q_oth, cst_2, st_2, ↓reduceIte, f_X8_cellAt, f_X8_roadAt, q_le1, q_nle1, q_le2, q_nle2, q_le5, q_nle5, q_le6, q_nle6, q_le8, q_nle8, q_le12, q_nle12, q_le25, q_nle25, q_le36, q_nle36, q_le60, q_nle60, q_le99, q_nle99, q_le100, q_nle100, q_le300, q_nle300, q_le640, q_nle640, q_le411, q_nle411, q_mul2, q_lmul2, q_mul3, q_lmul3, q_mul5, q_lmul5, q_mul6, q_lmul6, q_mul10, q_lmul10, q_add1, q_ladd1, q_add2, q_ladd2, q_add3, q_ladd3, q_add5, q_ladd5, q_add6, q_ladd6, q_add100, q_ladd100, q_div2, q_rem2, q_div3, q_rem3, q_div6, q_rem6, q_div10, q_rem10, a, b01_t, q_10]
/-- what picks rest on -/
def PX (o a1 S T : Nat) (cost : Nat → Int32) (O : Nat → Bool) (μ : Mem) : Prop := a1 ≠ o ∧ S ≤ 6 ∧ T ≤ 6 ∧ (∀ u, O u = true → t_nd S T u) ∧ XO o O μ ∧ μ.1 o 0 = nI S ∧ μ.1 o 1 = nI T ∧ ∀ c, c < 36 → t_opc O c → μ.1 a1 c = cost c ∧ 0 ≤ (cost c).toInt ∧ (cost c).toInt ≤ 1100
theorem PX_fr {o a1 S T : Nat} {cost : Nat → Int32} {O : Nat → Bool} {μ μ' : Mem} (h : PX o a1 S T cost O μ) (f : fr (OA o) μ μ') : PX o a1 S T cost O μ' := by
  obtain ⟨h1, h2, h3, h4, h5, h6, h7, h8⟩ := h
  refine ⟨h1, h2, h3, h4, fun v hv => ?_, ?_, ?_, fun c hc ho => ?_⟩
  · rw [f.2 _ v (by unfold OA; omega), f.2 _ v (by unfold OA; omega)]; exact h5 v hv
  · rw [f.2 _ _ (by unfold OA; omega)]; exact h6
  · rw [f.2 _ _ (by unfold OA; omega)]; exact h7
  · rw [f.2 _ _ (by unfold OA; omega)]; exact h8 c hc ho
theorem t_opc_pl {S T c : Nat} {O : Nat → Bool} (hS : S ≤ 6) (h : ∀ u, O u = true → t_nd S T u) (hc : c < 36) (ho : t_opc O c) : t_pl S T c := by
  have a := h _ ho.1
  have b := h _ ho.2
  unfold t_nd at a b
  unfold t_pl
  omega
theorem x2_corner {o a1 S T : Nat} {cost : Nat → Int32} {O : Nat → Bool} {μ : Mem} (hp : PX o a1 S T cost O μ) (h1 : 0 < t_ctr O 6) (h2 : 0 < t_sinks O) :
    ∃ c μ', f_X2_pickCorner o μ = some μ' ∧ t_ch (fun _ => 0) O (fun _ => True) 36 c ∧ fr (OA o) μ μ' ∧ μ'.1 o 4 = nI (c / 6) ∧ μ'.1 o 5 = nI (c % 6) := by
  obtain ⟨p1, p2, p3, p4, p5, p6, p7, p8⟩ := hp
  obtain ⟨i, i1, i2, i3⟩ := t_first 6 (t_ctr_ex 6 h1)
  obtain ⟨j, j1, j2, j3⟩ := t_first 6 (t_ctr_ex 6 h2)
  have ei := x2_firstOf (a0 := o + 1) (g := O) (μ := μ) (fun u hu => (p5 u hu).1) i1 i2 i3
  have ej := x2_firstOf (a0 := o + 2) (g := fun v => O (6 + v)) (μ := st μ o 4 (nI i)) (fun u hu => by rw [q_off _ _ _ (by omega)]; exact (p5 u hu).2) j1 j2 j3
  refine ⟨6 * i + j, st (st μ o 4 (nI i)) o 5 (nI j), ?_, ⟨by omega, ⟨?_, ?_⟩, trivial, fun d hd ho _ => ⟨Int.le_refl _, fun _ => ?_⟩⟩, fr_st' (fr_st (by unfold OA; omega)) (by unfold OA; omega), ?_, ?_⟩
  · unfold f_X2_pickCorner
    rw [ei, bnv_s, lt_k, ej, bnv_s, lt_k]
  · rw [show (6 * i + j) / 6 = i by omega]; exact i2
  · rw [show (6 * i + j) % 6 = j by omega]; exact j2
  · have d1 : i ≤ d / 6 := Nat.le_of_not_lt (fun q => by have := i3 _ q; rw [ho.1] at this; cases this)
    have d2 : j ≤ d % 6 := Nat.le_of_not_lt (fun q => by have : O (6 + d % 6) = false := j3 _ q; rw [ho.2] at this; cases this)
    omega
  · rw [q_oth _ _ _ (by omega), q_self, show (6 * i + j) / 6 = i by omega]
  · rw [q_self, show (6 * i + j) % 6 = j by omega]
theorem q_maxlt {x : Int32} (h : x.toInt ≤ 1100) : ¬ ((1000000 : Int32) ≤ x) := by
  rw [i_le, show (1000000 : Int32).toInt = 1000000 from rfl]; omega
theorem x2_least {o a1 S T : Nat} {cost : Nat → Int32} {O : Nat → Bool} {μ : Mem} (hp : PX o a1 S T cost O μ) (h1 : 0 < t_ctr O 6) (h2 : 0 < t_sinks O) :
    ∃ c μ', f_X2_pickLeast o a1 36 μ = some μ' ∧ t_ch cost O (fun _ => True) 36 c ∧ fr (OA o) μ μ' ∧ μ'.1 o 4 = nI (c / 6) ∧ μ'.1 o 5 = nI (c % 6) := by
  have hp0 := hp
  obtain ⟨p1, p2, p3, p4, p5, p6, p7, p8⟩ := hp
  obtain ⟨i0, i1, i2⟩ := t_ctr_ex 6 h1
  obtain ⟨j0, j1, j2⟩ := t_ctr_ex 6 h2
  have hop : t_opc O (6 * i0 + j0) := ⟨by rw [show (6 * i0 + j0) / 6 = i0 by omega]; exact i2, by rw [show (6 * i0 + j0) % 6 = j0 by omega]; exact j2⟩
  refine q_dbl (fun n => f_X2_pickLeast_5 o a1 36 n) (fun q i (s : Int32 × Mem) => q s.1 (nI i) s.2) (fun q n i j s => f_X2_pickLeast_16 o a1 36 q n s.1 (nI i) (nI j) s.2) p2 p3
    (fun c s => fr (OA o) μ s.2 ∧ ((s.1 = 1000000 ∧ ∀ d, d < c → ¬ t_opc O d) ∨ ∃ c0, s.1 = cost c0 ∧ t_ch cost O (fun _ => True) c c0 ∧ s.2.1 o 4 = nI (c0 / 6) ∧ s.2.1 o 5 = nI (c0 % 6)))
    (fun z => ∃ c μ', z = some μ' ∧ t_ch cost O (fun _ => True) 36 c ∧ fr (OA o) μ μ' ∧ μ'.1 o 4 = nI (c / 6) ∧ μ'.1 o 5 = nI (c % 6)) ?_ ?_ ?_ ?_ ?_ (1000000, μ) ⟨fr_refl _ _, Or.inl ⟨rfl, fun d h => by omega⟩⟩
  · rintro n i ⟨x, s⟩ hi ⟨q1, q2⟩
    obtain ⟨-, -, -, -, -, r6, -⟩ := PX_fr hp0 q1
    change s.1 o 0 = _ at r6
    show g_X2_pickLeast_5 o a1 36 _ x (nI i) s = _
    unfold g_X2_pickLeast_5
    simp (disch := omega) only [lt_k, bnv_s, bnd_s, grd_t, q_in, q_inb, q_c, q_leT, q_leF, q_ltT, q_ltF, q_neg, q_nn, q_z, q_le0, q_b0, q_b1, nI_add, nI_0, q_off, q_self, q_oth, cst_2, st_2, ↓reduceIte, f_X8_cellAt, f_X8_roadAt, q_le1, q_nle1, q_le2, q_nle2, q_le5, q_nle5, q_le6, q_nle6, q_le8, q_nle8, q_le12, q_nle12, q_le25, q_nle25, q_le36, q_nle36, q_le60, q_nle60, q_le99, q_nle99, q_le100, q_nle100, q_le300, q_nle300, q_le640, q_nle640, q_le411, q_nle411, q_mul2, q_lmul2, q_mul3, q_lmul3, q_mul5, q_lmul5, q_mul6, q_lmul6, q_mul10, q_lmul10, q_add1, q_ladd1, q_add2, q_ladd2, q_add3, q_ladd3, q_add5, q_ladd5, q_add6, q_ladd6, q_add100, q_ladd100, q_div2, q_rem2, q_div3, q_rem3, q_div6, q_rem6, q_div10, q_rem10, r6]
  · rintro q n i j ⟨x, s⟩ hi hj ⟨q1, q2⟩
    right
    change fr (OA o) μ s at q1
    obtain ⟨-, -, -, -, r5, r6, r7, r8⟩ := PX_fr hp0 q1
    have a1' := (r5 i (by omega)).1
    have a2' := (r5 j (by omega)).2
    have d6 : (6 * i + j) / 6 = i := by omega
    have m6 : (6 * i + j) % 6 = j := by omega
    have noop : ¬ t_opc O (6 * i + j) → ((x = 1000000 ∧ ∀ d, d < 6 * i + j + 1 → ¬ t_opc O d) ∨ ∃ c0, x = cost c0 ∧ t_ch cost O (fun _ => True) (6 * i + j + 1) c0 ∧ s.1 o 4 = nI (c0 / 6) ∧ s.1 o 5 = nI (c0 % 6)) := by
      intro hn
      rcases q2 with ⟨a, b⟩ | ⟨c0, a, b, e⟩
      · refine Or.inl ⟨a, fun d hd => ?_⟩
        by_cases r : d = 6 * i + j
        · rw [r]; exact hn
        · exact b d (by omega)
      · exact Or.inr ⟨c0, a, t_ch_skip b (fun h _ => absurd h hn), e⟩
    cases o1 : O i
    · rw [o1] at a1'
      refine ⟨(x, s), ⟨q1, noop (fun h => by have := h.1; rw [d6, o1] at this; cases this)⟩, ?_⟩
      show g_X2_pickLeast_16 o a1 36 q _ x (nI i) (nI j) s = _
      unfold g_X2_pickLeast_16
      simp (disch := omega) only [lt_k, bnv_s, bnd_s, grd_t, q_in, q_inb, q_c, q_leT, q_leF, q_ltT, q_ltF, q_neg, q_nn, q_z, q_le0, q_b0, q_b1, nI_add, nI_0, q_off, q_self, q_oth, cst_2, st_2, ↓reduceIte, f_X8_cellAt, f_X8_roadAt, q_le1, q_nle1, q_le2, q_nle2, q_le5, q_nle5, q_le6, q_nle6, q_le8, q_nle8, q_le12, q_nle12, q_le25, q_nle25, q_le36, q_nle36, q_le60, q_nle60, q_le99, q_nle99, q_le100, q_nle100, q_le300, q_nle300, q_le640, q_nle640, q_le411, q_nle411, q_mul2, q_lmul2, q_mul3, q_lmul3, q_mul5, q_lmul5, q_mul6, q_lmul6, q_mul10, q_lmul10, q_add1, q_ladd1, q_add2, q_ladd2, q_add3, q_ladd3, q_add5, q_ladd5, q_add6, q_ladd6, q_add100, q_ladd100, q_div2, q_rem2, q_div3, q_rem3, q_div6, q_rem6, q_div10, q_rem10, r7, a1', b01_f]
    · rw [o1] at a1'
      cases o2 : O (6 + j)
      · rw [o2] at a2'
        refine ⟨(x, s), ⟨q1, noop (fun h => by have := h.2; rw [m6, o2] at this; cases this)⟩, ?_⟩
        show g_X2_pickLeast_16 o a1 36 q _ x (nI i) (nI j) s = _
        unfold g_X2_pickLeast_16
        simp (disch := omega) only [lt_k, bnv_s, bnd_s, grd_t, q_in, q_inb, q_c, q_leT, q_leF, q_ltT, q_ltF, q_neg, q_nn, q_z, q_le0, q_b0, q_b1, nI_add, nI_0, q_off, q_self, q_oth, cst_2, st_2, ↓reduceIte, f_X8_cellAt, f_X8_roadAt, q_le1, q_nle1, q_le2, q_nle2, q_le5, q_nle5, q_le6, q_nle6, q_le8, q_nle8, q_le12, q_nle12, q_le25, q_nle25, q_le36, q_nle36, q_le60, q_nle60, q_le99, q_nle99, q_le100, q_nle100, q_le300, q_nle300, q_le640, q_nle640, q_le411, q_nle411, q_mul2, q_lmul2, q_mul3, q_lmul3, q_mul5, q_lmul5, q_mul6, q_lmul6, q_mul10, q_lmul10, q_add1, q_ladd1, q_add2, q_ladd2, q_add3, q_ladd3, q_add5, q_ladd5, q_add6, q_ladd6, q_add100, q_ladd100, q_div2, q_rem2, q_div3, q_rem3, q_div6, q_rem6, q_div10, q_rem10, r7, a1', a2', b01_f, b01_t, q_10]
      · rw [o2] at a2'
        have hopc : t_opc O (6 * i + j) := ⟨by rw [d6]; exact o1, by rw [m6]; exact o2⟩
        have hc := r8 (6 * i + j) (by omega) hopc
        by_cases hle : x ≤ cost (6 * i + j)
        · refine ⟨(x, s), ⟨q1, ?_⟩, ?_⟩
          · rcases q2 with ⟨a, b⟩ | ⟨c0, a, b, e⟩
            · change x = _ at a
              rw [a] at hle; exact absurd hle (q_maxlt hc.2.2)
            · change x = _ at a
              exact Or.inr ⟨c0, a, t_ch_skip b (fun _ _ => by rw [a] at hle; exact i_le.mp hle), e⟩
          · show g_X2_pickLeast_16 o a1 36 q _ x (nI i) (nI j) s = _
            unfold g_X2_pickLeast_16
            simp (disch := omega) only [lt_k, bnv_s, bnd_s, grd_t, q_in, q_inb, q_c, q_leT, q_leF, q_ltT, q_ltF, q_neg, q_nn, q_z, q_le0, q_b0, q_b1, nI_add, nI_0, q_off, q_self, q_oth, cst_2, st_2, ↓reduceIte, f_X8_cellAt, f_X8_roadAt, q_le1, q_nle1, q_le2, q_nle2, q_le5, q_nle5, q_le6, q_nle6, q_le8, q_nle8, q_le12, q_nle12, q_le25, q_nle25, q_le36, q_nle36, q_le60, q_nle60, q_le99, q_nle99, q_le100, q_nle100, q_le300, q_nle300, q_le640, q_nle640, q_le411, q_nle411, q_mul2, q_lmul2, q_mul3, q_lmul3, q_mul5, q_lmul5, q_mul6, q_lmul6, q_mul10, q_lmul10, q_add1, q_ladd1, q_add2, q_ladd2, q_add3, q_ladd3, q_add5, q_ladd5, q_add6, q_ladd6, q_add100, q_ladd100, q_div2, q_rem2, q_div3, q_rem3, q_div6, q_rem6, q_div10, q_rem10, r7, a1', a2', b01_t, q_10, Nat.mul_comm i 6, hc.1, hle]
        · refine ⟨(cost (6 * i + j), st (st s o 4 (nI i)) o 5 (nI j)), ⟨fr_st' (fr_st' q1 (by unfold OA; omega)) (by unfold OA; omega), Or.inr ⟨6 * i + j, rfl, t_ch_new hopc trivial ?_, ?_, ?_⟩⟩, ?_⟩
          · rcases q2 with ⟨a, b⟩ | ⟨c0, a, b, e⟩
            · exact Or.inl (fun d hd ho _ => b d hd ho)
            · change x = _ at a
              exact Or.inr ⟨c0, b, by rw [a, i_le] at hle; omega⟩
          · rw [q_oth _ _ _ (by omega), q_self, d6]
          · rw [q_self, m6]
          · show g_X2_pickLeast_16 o a1 36 q _ x (nI i) (nI j) s = _
            unfold g_X2_pickLeast_16
            simp (disch := omega) only [lt_k, bnv_s, bnd_s, grd_t, q_in, q_inb, q_c, q_leT, q_leF, q_ltT, q_ltF, q_neg, q_nn, q_z, q_le0, q_b0, q_b1, nI_add, nI_0, q_off, q_self, q_oth, cst_2, st_2, ↓reduceIte, f_X8_cellAt, f_X8_roadAt, q_le1, q_nle1, q_le2, q_nle2, q_le5, q_nle5, q_le6, q_nle6, q_le8, q_nle8, q_le12, q_nle12, q_le25, q_nle25, q_le36, q_nle36, q_le60, q_nle60, q_le99, q_nle99, q_le100, q_nle100, q_le300, q_nle300, q_le640, q_nle640, q_le411, q_nle411, q_mul2, q_lmul2, q_mul3, q_lmul3, q_mul5, q_lmul5, q_mul6, q_lmul6, q_mul10, q_lmul10, q_add1, q_ladd1, q_add2, q_ladd2, q_add3, q_ladd3, q_add5, q_ladd5, q_add6, q_ladd6, q_add100, q_ladd100, q_div2, q_rem2, q_div3, q_rem3, q_div6, q_rem6, q_div10, q_rem10, r7, a1', a2', b01_t, q_10, Nat.mul_comm i 6, hc.1, hle]
  · rintro q n i ⟨x, s⟩ hi ⟨q1, q2⟩
    change fr (OA o) μ s at q1
    obtain ⟨-, -, -, -, r5, r6, r7, r8⟩ := PX_fr hp0 q1
    show g_X2_pickLeast_16 o a1 36 q _ x (nI i) (nI T) s = _
    unfold g_X2_pickLeast_16
    simp (disch := omega) only [lt_k, bnv_s, bnd_s, grd_t, q_in, q_inb, q_c, q_leT, q_leF, q_ltT, q_ltF, q_neg, q_nn, q_z, q_le0, q_b0, q_b1, nI_add, nI_0, q_off, q_self, q_oth, cst_2, st_2, ↓reduceIte, f_X8_cellAt, f_X8_roadAt, q_le1, q_nle1, q_le2, q_nle2, q_le5, q_nle5, q_le6, q_nle6, q_le8, q_nle8, q_le12, q_nle12, q_le25, q_nle25, q_le36, q_nle36, q_le60, q_nle60, q_le99, q_nle99, q_le100, q_nle100, q_le300, q_nle300, q_le640, q_nle640, q_le411, q_nle411, q_mul2, q_lmul2, q_mul3, q_lmul3, q_mul5, q_lmul5, q_mul6, q_lmul6, q_mul10, q_lmul10, q_add1, q_ladd1, q_add2, q_ladd2, q_add3, q_ladd3, q_add5, q_ladd5, q_add6, q_ladd6, q_add100, q_ladd100, q_div2, q_rem2, q_div3, q_rem3, q_div6, q_rem6, q_div10, q_rem10, r7]
  · rintro i j ⟨x, s⟩ hi hj hT2 ⟨q1, q2⟩
    have hn : ¬ t_opc O (6 * i + j) := fun h => by have := t_opc_pl p2 p4 (by omega) h; unfold t_pl at this; omega
    refine ⟨q1, ?_⟩
    rcases q2 with ⟨a, b⟩ | ⟨c0, a, b, e⟩
    · refine Or.inl ⟨a, fun d hd => ?_⟩
      by_cases r : d = 6 * i + j
      · rw [r]; exact hn
      · exact b d (by omega)
    · exact Or.inr ⟨c0, a, t_ch_skip b (fun h _ => absurd h hn), e⟩
  · rintro n ⟨x, s⟩ ⟨q1, q2⟩
    change fr (OA o) μ s at q1
    obtain ⟨-, -, -, -, r5, r6, r7, r8⟩ := PX_fr hp0 q1
    have tail : ∀ d, d < 36 → t_opc O d → d < 6 * S := fun d hd h => by have := t_opc_pl p2 p4 hd h; unfold t_pl at this; omega
    rcases q2 with ⟨a, b⟩ | ⟨c0, a, b, e⟩
    · exact absurd hop (b _ (tail _ (by omega) hop))
    · refine ⟨c0, s, ?_, ⟨by have := b.1; omega, b.2.1, trivial, fun d hd ho hl => b.2.2.2 d (tail d hd ho) ho hl⟩, q1, e⟩
      show g_X2_pickLeast_5 o a1 36 _ x (nI S) s = _
      unfold g_X2_pickLeast_5
      simp (disch := omega) only [lt_k, bnv_s, bnd_s, grd_t, q_in, q_inb, q_c, q_leT, q_leF, q_ltT, q_ltF, q_neg, q_nn, q_z, q_le0, q_b0, q_b1, nI_add, nI_0, q_off, q_self, q_oth, cst_2, st_2, ↓reduceIte, f_X8_cellAt, f_X8_roadAt, q_le1, q_nle1, q_le2, q_nle2, q_le5, q_nle5, q_le6, q_nle6, q_le8, q_nle8, q_le12, q_nle12, q_le25, q_nle25, q_le36, q_nle36, q_le60, q_nle60, q_le99, q_nle99, q_le100, q_nle100, q_le300, q_nle300, q_le640, q_nle640, q_le411, q_nle411, q_mul2, q_lmul2, q_mul3, q_lmul3, q_mul5, q_lmul5, q_mul6, q_lmul6, q_mul10, q_lmul10, q_add1, q_ladd1, q_add2, q_ladd2, q_add3, q_ladd3, q_add5, q_ladd5, q_add6, q_ladd6, q_add100, q_ladd100, q_div2, q_rem2, q_div3, q_rem3, q_div6, q_rem6, q_div10, q_rem10, r6]
