/-! THE PURE PART: what the model picks -/
def PM (cost : Nat → Int32) (O : Nat → Bool) (μ : Mem) : Prop := (∀ v, v < 12 → μ.1 141 v = b01 (O v)) ∧ ∀ c, c < 36 → t_opc O c → μ.1 127 c = cost c ∧ 0 ≤ (cost c).toInt ∧ (cost c).toInt ≤ 1100
def t_opcB (O : Nat → Bool) (c : Nat) : Bool := O (c / 6) && O (6 + c % 6)
theorem x9_isOpen {O : Nat → Bool} {cost : Nat → Int32} {μ : Mem} (hp : PM cost O μ) {c : Nat} (hc : c < 36) : f_X9_isOpenCell (nI c) μ = some (if t_opcB O c = true then 1 else 0) := by
  have a1 := hp.1 (c / 6) (by omega)
  have a2 := hp.1 (6 + c % 6) (by omega)
  unfold f_X9_isOpenCell t_opcB
  cases o1 : O (c / 6)
  · rw [o1] at a1
    simp (disch := omega) only [lt_k, bnv_s, bnd_s, grd_t, q_in, q_inb, q_c, q_leT, q_leF, q_ltT, q_ltF, q_neg, q_nn, q_z, q_le0, q_b0, q_b1, nI_add, nI_0, q_off, q_self, q_oth, cst_2, st_2, ↓reduceIte, f_X8_cellAt, f_X8_roadAt, q_le1, q_nle1, q_le2, q_nle2, q_le5, q_nle5, q_le6, q_nle6, q_le8, q_nle8, q_le12, q_nle12, q_le25, q_nle25, q_le36, q_nle36, q_le60, q_nle60, q_le99, q_nle99, q_le100, q_nle100, q_le300, q_nle300, q_le640, q_nle640, q_le411, q_nle411, q_mul2, q_lmul2, q_mul3, q_lmul3, q_mul5, q_lmul5, q_mul6, q_lmul6, q_mul10, q_lmul10, q_add1, q_ladd1, q_add2, q_ladd2, q_add3, q_ladd3, q_add5, q_ladd5, q_add6, q_ladd6, q_add100, q_ladd100, q_div2, q_rem2, q_div3, q_rem3, q_div6, q_rem6, q_div10, q_rem10, a1, b01_f, Bool.false_and, Bool.false_eq_true]
  · rw [o1] at a1
    cases o2 : O (6 + c % 6)
    · rw [o2] at a2
      simp (disch := omega) only [lt_k, bnv_s, bnd_s, grd_t, q_in, q_inb, q_c, q_leT, q_leF, q_ltT, q_ltF, q_neg, q_nn, q_z, q_le0, q_b0, q_b1, nI_add, nI_0, q_off, q_self, q_oth, cst_2, st_2, ↓reduceIte, f_X8_cellAt, f_X8_roadAt, q_le1, q_nle1, q_le2, q_nle2, q_le5, q_nle5, q_le6, q_nle6, q_le8, q_nle8, q_le12, q_nle12, q_le25, q_nle25, q_le36, q_nle36, q_le60, q_nle60, q_le99, q_nle99, q_le100, q_nle100, q_le300, q_nle300, q_le640, q_nle640, q_le411, q_nle411, q_mul2, q_lmul2, q_mul3, q_lmul3, q_mul5, q_lmul5, q_mul6, q_lmul6, q_mul10, q_lmul10, q_add1, q_ladd1, q_add2, q_ladd2, q_add3, q_ladd3, q_add5, q_ladd5, q_add6, q_ladd6, q_add100, q_ladd100, q_div2, q_rem2, q_div3, q_rem3, q_div6, q_rem6, q_div10, q_rem10, a1, a2, b01_t, b01_f, q_10, Bool.true_and, Bool.false_eq_true]
    · rw [o2] at a2
      simp (disch := omega) only [lt_k, bnv_s, bnd_s, grd_t, q_in, q_inb, q_c, q_leT, q_leF, q_ltT, q_ltF, q_neg, q_nn, q_z, q_le0, q_b0, q_b1, nI_add, nI_0, q_off, q_self, q_oth, cst_2, st_2, ↓reduceIte, f_X8_cellAt, f_X8_roadAt, q_le1, q_nle1, q_le2, q_nle2, q_le5, q_nle5, q_le6, q_nle6, q_le8, q_nle8, q_le12, q_nle12, q_le25, q_nle25, q_le36, q_nle36, q_le60, q_nle60, q_le99, q_nle99, q_le100, q_nle100, q_le300, q_nle300, q_le640, q_nle640, q_le411, q_nle411, q_mul2, q_lmul2, q_mul3, q_lmul3, q_mul5, q_lmul5, q_mul6, q_lmul6, q_mul10, q_lmul10, q_add1, q_ladd1, q_add2, q_ladd2, q_add3, q_ladd3, q_add5, q_ladd5, q_add6, q_ladd6, q_add100, q_ladd100, q_div2, q_rem2, q_div3, q_rem3, q_div6, q_rem6, q_div10, q_rem10, a1, a2, b01_t, q_10, Bool.true_and]
theorem t_opcB_t {O : Nat → Bool} {c : Nat} : t_opcB O c = true ↔ t_opc O c := by
  unfold t_opcB t_opc
  exact Bool.and_eq_true_iff
/-- a line, or any (all 12 and on) -/
def t_lnA (x1 : Int32) (c : Nat) : Prop := x1 < 0 ∨ nI (c / 6) = x1 ∨ nI (6 + c % 6) = x1
theorem x9_cheap {O : Nat → Bool} {cost : Nat → Int32} {μ : Mem} (hp : PM cost O μ) (x1 : Int32) : ∃ r, f_X9_cheapestCell x1 μ = some r ∧ ((r = -1 ∧ ∀ d, d < 36 → t_opc O d → ¬ t_lnA x1 d) ∨ ∃ c, r = nI c ∧ t_ch cost O (t_lnA x1) 36 c) := by
  refine q_loop0 (fun n i (s : Int32) => f_X9_cheapestCell_4 x1 μ n s (nI i)) 36 (by omega) (fun i s => (s = -1 ∧ ∀ d, d < i → t_opc O d → ¬ t_lnA x1 d) ∨ ∃ c, s = nI c ∧ t_ch cost O (t_lnA x1) i c)
    (fun z => ∃ r, z = some r ∧ ((r = -1 ∧ ∀ d, d < 36 → t_opc O d → ¬ t_lnA x1 d) ∨ ∃ c, r = nI c ∧ t_ch cost O (t_lnA x1) 36 c)) ?_ ?_ (-1) (Or.inl ⟨rfl, fun d h => by omega⟩)
  · intro n i s hi hv
    right
    have hio := x9_isOpen hp hi
    -- in line
    have e38 : t_lnA x1 i → ∃ s', ((s' = -1 ∧ ∀ d, d < i + 1 → t_opc O d → ¬ t_lnA x1 d) ∨ ∃ c, s' = nI c ∧ t_ch cost O (t_lnA x1) (i + 1) c) ∧ f_X9_cheapestCell_38 x1 (f_X9_cheapestCell_4 x1 μ n) μ s (nI i) 1 = f_X9_cheapestCell_4 x1 μ n s' (nI (i + 1)) := by
      intro hl
      unfold f_X9_cheapestCell_38
      by_cases ho : t_opc O i
      · rw [if_pos (t_opcB_t.mpr ho)] at hio
        obtain ⟨g1, g2, g3⟩ := hp.2 i hi ho
        rcases hv with ⟨a, b⟩ | ⟨c, a, b⟩
        · refine ⟨nI i, Or.inr ⟨i, rfl, t_ch_new ho hl (Or.inl (fun d hd hod => b d hd hod))⟩, ?_⟩
          simp (disch := omega) only [lt_k, bnv_s, bnd_s, grd_t, q_in, q_inb, q_c, q_leT, q_leF, q_ltT, q_ltF, q_neg, q_nn, q_z, q_le0, q_b0, q_b1, nI_add, nI_0, q_off, q_self, q_oth, cst_2, st_2, ↓reduceIte, f_X8_cellAt, f_X8_roadAt, q_le1, q_nle1, q_le2, q_nle2, q_le5, q_nle5, q_le6, q_nle6, q_le8, q_nle8, q_le12, q_nle12, q_le25, q_nle25, q_le36, q_nle36, q_le60, q_nle60, q_le99, q_nle99, q_le100, q_nle100, q_le300, q_nle300, q_le640, q_nle640, q_le411, q_nle411, q_mul2, q_lmul2, q_mul3, q_lmul3, q_mul5, q_lmul5, q_mul6, q_lmul6, q_mul10, q_lmul10, q_add1, q_ladd1, q_add2, q_ladd2, q_add3, q_ladd3, q_add5, q_ladd5, q_add6, q_ladd6, q_add100, q_ladd100, q_div2, q_rem2, q_div3, q_rem3, q_div6, q_rem6, q_div10, q_rem10, q_10, hio, a, q_m1]
        · have hc := b.1
          obtain ⟨k1, k2, k3⟩ := hp.2 c (by omega) b.2.1
          by_cases hle : cost c ≤ cost i
          · refine ⟨nI c, Or.inr ⟨c, rfl, t_ch_skip b (fun _ _ => i_le.mp hle)⟩, ?_⟩
            simp (disch := omega) only [lt_k, bnv_s, bnd_s, grd_t, q_in, q_inb, q_c, q_leT, q_leF, q_ltT, q_ltF, q_neg, q_nn, q_z, q_le0, q_b0, q_b1, nI_add, nI_0, q_off, q_self, q_oth, cst_2, st_2, ↓reduceIte, f_X8_cellAt, f_X8_roadAt, q_le1, q_nle1, q_le2, q_nle2, q_le5, q_nle5, q_le6, q_nle6, q_le8, q_nle8, q_le12, q_nle12, q_le25, q_nle25, q_le36, q_nle36, q_le60, q_nle60, q_le99, q_nle99, q_le100, q_nle100, q_le300, q_nle300, q_le640, q_nle640, q_le411, q_nle411, q_mul2, q_lmul2, q_mul3, q_lmul3, q_mul5, q_lmul5, q_mul6, q_lmul6, q_mul10, q_lmul10, q_add1, q_ladd1, q_add2, q_ladd2, q_add3, q_ladd3, q_add5, q_ladd5, q_add6, q_ladd6, q_add100, q_ladd100, q_div2, q_rem2, q_div3, q_rem3, q_div6, q_rem6, q_div10, q_rem10, q_10, hio, a, g1, k1, hle]
          · refine ⟨nI i, Or.inr ⟨i, rfl, t_ch_new ho hl (Or.inr ⟨c, b, by rw [i_le] at hle; omega⟩)⟩, ?_⟩
            simp (disch := omega) only [lt_k, bnv_s, bnd_s, grd_t, q_in, q_inb, q_c, q_leT, q_leF, q_ltT, q_ltF, q_neg, q_nn, q_z, q_le0, q_b0, q_b1, nI_add, nI_0, q_off, q_self, q_oth, cst_2, st_2, ↓reduceIte, f_X8_cellAt, f_X8_roadAt, q_le1, q_nle1, q_le2, q_nle2, q_le5, q_nle5, q_le6, q_nle6, q_le8, q_nle8, q_le12, q_nle12, q_le25, q_nle25, q_le36, q_nle36, q_le60, q_nle60, q_le99, q_nle99, q_le100, q_nle100, q_le300, q_nle300, q_le640, q_nle640, q_le411, q_nle411, q_mul2, q_lmul2, q_mul3, q_lmul3, q_mul5, q_lmul5, q_mul6, q_lmul6, q_mul10, q_lmul10, q_add1, q_ladd1, q_add2, q_ladd2, q_add3, q_ladd3, q_add5, q_ladd5, q_add6, q_ladd6, q_add100, q_ladd100, q_div2, q_rem2, q_div3, q_rem3, q_div6, q_rem6, q_div10, q_rem10, q_10, hio, a, g1, k1, hle]
      · rw [if_neg (fun e => ho (t_opcB_t.mp e))] at hio
        refine ⟨s, ?_, ?_⟩
        · rcases hv with ⟨a, b⟩ | ⟨c, a, b⟩
          · refine Or.inl ⟨a, fun d hd hod => ?_⟩
            by_cases q : d = i
            · rw [q] at hod; exact absurd hod ho
            · exact b d (by omega) hod
          · exact Or.inr ⟨c, a, t_ch_skip b (fun h _ => absurd h ho)⟩
        · simp (disch := omega) only [lt_k, bnv_s, bnd_s, grd_t, q_in, q_inb, q_c, q_leT, q_leF, q_ltT, q_ltF, q_neg, q_nn, q_z, q_le0, q_b0, q_b1, nI_add, nI_0, q_off, q_self, q_oth, cst_2, st_2, ↓reduceIte, f_X8_cellAt, f_X8_roadAt, q_le1, q_nle1, q_le2, q_nle2, q_le5, q_nle5, q_le6, q_nle6, q_le8, q_nle8, q_le12, q_nle12, q_le25, q_nle25, q_le36, q_nle36, q_le60, q_nle60, q_le99, q_nle99, q_le100, q_nle100, q_le300, q_nle300, q_le640, q_nle640, q_le411, q_nle411, q_mul2, q_lmul2, q_mul3, q_lmul3, q_mul5, q_lmul5, q_mul6, q_lmul6, q_mul10, q_lmul10, q_add1, q_ladd1, q_add2, q_ladd2, q_add3, q_ladd3, q_add5, q_ladd5, q_add6, q_ladd6, q_add100, q_ladd100, q_div2, q_rem2, q_div3, q_rem3, q_div6, q_rem6, q_div10, q_rem10, q_10, hio]
    by_cases hl : t_lnA x1 i
    · obtain ⟨s', a, b⟩ := e38 hl
      refine ⟨s', a, ?_⟩
      show g_X9_cheapestCell_4 x1 μ _ s (nI i) = _
      unfold g_X9_cheapestCell_4 f_X9_cheapestCell_33
      rw [← b]
      by_cases l1 : x1 < 0
      · simp (disch := omega) only [lt_k, bnv_s, bnd_s, grd_t, q_in, q_inb, q_c, q_leT, q_leF, q_ltT, q_ltF, q_neg, q_nn, q_z, q_le0, q_b0, q_b1, nI_add, nI_0, q_off, q_self, q_oth, cst_2, st_2, ↓reduceIte, f_X8_cellAt, f_X8_roadAt, q_le1, q_nle1, q_le2, q_nle2, q_le5, q_nle5, q_le6, q_nle6, q_le8, q_nle8, q_le12, q_nle12, q_le25, q_nle25, q_le36, q_nle36, q_le60, q_nle60, q_le99, q_nle99, q_le100, q_nle100, q_le300, q_nle300, q_le640, q_nle640, q_le411, q_nle411, q_mul2, q_lmul2, q_mul3, q_lmul3, q_mul5, q_lmul5, q_mul6, q_lmul6, q_mul10, q_lmul10, q_add1, q_ladd1, q_add2, q_ladd2, q_add3, q_ladd3, q_add5, q_ladd5, q_add6, q_ladd6, q_add100, q_ladd100, q_div2, q_rem2, q_div3, q_rem3, q_div6, q_rem6, q_div10, q_rem10, l1]
      · by_cases l2 : nI (i / 6) = x1
        · simp (disch := omega) only [lt_k, bnv_s, bnd_s, grd_t, q_in, q_inb, q_c, q_leT, q_leF, q_ltT, q_ltF, q_neg, q_nn, q_z, q_le0, q_b0, q_b1, nI_add, nI_0, q_off, q_self, q_oth, cst_2, st_2, ↓reduceIte, f_X8_cellAt, f_X8_roadAt, q_le1, q_nle1, q_le2, q_nle2, q_le5, q_nle5, q_le6, q_nle6, q_le8, q_nle8, q_le12, q_nle12, q_le25, q_nle25, q_le36, q_nle36, q_le60, q_nle60, q_le99, q_nle99, q_le100, q_nle100, q_le300, q_nle300, q_le640, q_nle640, q_le411, q_nle411, q_mul2, q_lmul2, q_mul3, q_lmul3, q_mul5, q_lmul5, q_mul6, q_lmul6, q_mul10, q_lmul10, q_add1, q_ladd1, q_add2, q_ladd2, q_add3, q_ladd3, q_add5, q_ladd5, q_add6, q_ladd6, q_add100, q_ladd100, q_div2, q_rem2, q_div3, q_rem3, q_div6, q_rem6, q_div10, q_rem10, l1, l2]
        · have l3 : nI (6 + i % 6) = x1 := (hl.resolve_left l1).resolve_left l2
          simp (disch := omega) only [lt_k, bnv_s, bnd_s, grd_t, q_in, q_inb, q_c, q_leT, q_leF, q_ltT, q_ltF, q_neg, q_nn, q_z, q_le0, q_b0, q_b1, nI_add, nI_0, q_off, q_self, q_oth, cst_2, st_2, ↓reduceIte, f_X8_cellAt, f_X8_roadAt, q_le1, q_nle1, q_le2, q_nle2, q_le5, q_nle5, q_le6, q_nle6, q_le8, q_nle8, q_le12, q_nle12, q_le25, q_nle25, q_le36, q_nle36, q_le60, q_nle60, q_le99, q_nle99, q_le100, q_nle100, q_le300, q_nle300, q_le640, q_nle640, q_le411, q_nle411, q_mul2, q_lmul2, q_mul3, q_lmul3, q_mul5, q_lmul5, q_mul6, q_lmul6, q_mul10, q_lmul10, q_add1, q_ladd1, q_add2, q_ladd2, q_add3, q_ladd3, q_add5, q_ladd5, q_add6, q_ladd6, q_add100, q_ladd100, q_div2, q_rem2, q_div3, q_rem3, q_div6, q_rem6, q_div10, q_rem10, l1, l2, l3]
    · refine ⟨s, ?_, ?_⟩
      · rcases hv with ⟨a, b⟩ | ⟨c, a, b⟩
        · refine Or.inl ⟨a, fun d hd hod => ?_⟩
          by_cases q : d = i
          · rw [q]; exact hl
          · exact b d (by omega) hod
        · exact Or.inr ⟨c, a, t_ch_skip b (fun _ h => absurd h hl)⟩
      · show g_X9_cheapestCell_4 x1 μ _ s (nI i) = _
        unfold g_X9_cheapestCell_4 f_X9_cheapestCell_38
        have l1 : ¬ x1 < 0 := fun q => hl (Or.inl q)
        have l2 : ¬ nI (i / 6) = x1 := fun q => hl (Or.inr (Or.inl q))
        have l3 : ¬ nI (6 + i % 6) = x1 := fun q => hl (Or.inr (Or.inr q))
        simp (disch := omega) only [lt_k, bnv_s, bnd_s, grd_t, q_in, q_inb, q_c, q_leT, q_leF, q_ltT, q_ltF, q_neg, q_nn, q_z, q_le0, q_b0, q_b1, nI_add, nI_0, q_off, q_self, q_oth, cst_2, st_2, ↓reduceIte, f_X8_cellAt, f_X8_roadAt, q_le1, q_nle1, q_le2, q_nle2, q_le5, q_nle5, q_le6, q_nle6, q_le8, q_nle8, q_le12, q_nle12, q_le25, q_nle25, q_le36, q_nle36, q_le60, q_nle60, q_le99, q_nle99, q_le100, q_nle100, q_le300, q_nle300, q_le640, q_nle640, q_le411, q_nle411, q_mul2, q_lmul2, q_mul3, q_lmul3, q_mul5, q_lmul5, q_mul6, q_lmul6, q_mul10, q_lmul10, q_add1, q_ladd1, q_add2, q_ladd2, q_add3, q_ladd3, q_add5, q_ladd5, q_add6, q_ladd6, q_add100, q_ladd100, q_div2, q_rem2, q_div3, q_rem3, q_div6, q_rem6, q_div10, q_rem10, l1, l2, l3]
  · intro n s hv
    refine ⟨s, ?_, hv⟩
    show g_X9_cheapestCell_4 x1 μ _ s (nI 36) = _
    unfold g_X9_cheapestCell_4
    simp (disch := omega) only [lt_k, bnv_s, bnd_s, grd_t, q_in, q_inb, q_c, q_leT, q_leF, q_ltT, q_ltF, q_neg, q_nn, q_z, q_le0, q_b0, q_b1, nI_add, nI_0, q_off, q_self, q_oth, cst_2, st_2, ↓reduceIte, f_X8_cellAt, f_X8_roadAt, q_le1, q_nle1, q_le2, q_nle2, q_le5, q_nle5, q_le6, q_nle6, q_le8, q_nle8, q_le12, q_nle12, q_le25, q_nle25, q_le36, q_nle36, q_le60, q_nle60, q_le99, q_nle99, q_le100, q_nle100, q_le300, q_nle300, q_le640, q_nle640, q_le411, q_nle411, q_mul2, q_lmul2, q_mul3, q_lmul3, q_mul5, q_lmul5, q_mul6, q_lmul6, q_mul10, q_lmul10, q_add1, q_ladd1, q_add2, q_ladd2, q_add3, q_ladd3, q_add5, q_ladd5, q_add6, q_ladd6, q_add100, q_ladd100, q_div2, q_rem2, q_div3, q_rem3, q_div6, q_rem6, q_div10, q_rem10, lt_k]
theorem t_lnA_n {line c : Nat} (hl : line < 12) (hc : c < 36) : t_lnA (nI line) c ↔ t_ln line c := by
  unfold t_lnA t_ln
  constructor
  · rintro (h | h | h)
    · exact absurd h (nI_pos (by omega))
    · exact Or.inl ((nI_eq (by omega) (by omega)).mp h)
    · exact Or.inr ((nI_eq (by omega) (by omega)).mp h)
  · rintro (h | h)
    · exact Or.inr (Or.inl (by rw [h]))
    · exact Or.inr (Or.inr (by rw [h]))
theorem t_ch_ln {cost : Nat → Int32} {O : Nat → Bool} {ln ln' : Nat → Prop} {n c : Nat} (h : ∀ d, d < n → (ln d ↔ ln' d)) (hc : t_ch cost O ln n c) : t_ch cost O ln' n c := by
  obtain ⟨a, b, e, f⟩ := hc
  exact ⟨a, b, (h c a).mp e, fun d hd ho hl => f d hd ho ((h d hd).mpr hl)⟩
/-- of an open line -/
theorem x9_cheapLn {O : Nat → Bool} {cost : Nat → Int32} {μ : Mem} (hp : PM cost O μ) {line : Nat} (hl : line < 12) (hx : ∃ d, d < 36 ∧ t_opc O d ∧ t_ln line d) : ∃ c, f_X9_cheapestCell (nI line) μ = some (nI c) ∧ t_ch cost O (t_ln line) 36 c := by
  obtain ⟨r, e, h⟩ := x9_cheap hp (nI line)
  rcases h with ⟨a, b⟩ | ⟨c, a, b⟩
  · obtain ⟨d, d1, d2, d3⟩ := hx
    exact absurd ((t_lnA_n hl d1).mpr d3) (b d d1 d2)
  · exact ⟨c, by rw [e, a], t_ch_ln (fun d hd => t_lnA_n hl hd) b⟩
theorem x9_regret {O : Nat → Bool} {cost : Nat → Int32} {μ : Mem} (hp : PM cost O μ) {line : Nat} (hl : line < 12) (hx : ∃ d, d < 36 ∧ t_opc O d ∧ t_ln line d) : ∃ r, f_X9_regret (nI line) μ = some r ∧ t_rg cost O line r := by
  obtain ⟨f, ef, hf⟩ := x9_cheapLn hp hl hx
  have hfc := hf.1
  obtain ⟨f1, f2, f3⟩ := hp.2 f hf.1 hf.2.1
  unfold f_X9_regret
  rw [ef, bnv_s]
  refine q_loop0 (fun n i (s : Int32) => f_X9_regret_11 (nI line) μ n (nI f) s (nI i)) 36 (by omega)
    (fun i s => (s = -1 ∧ ∀ d, d < i → t_opc O d → t_ln line d → d = f) ∨ ∃ c, c < i ∧ t_opc O c ∧ t_ln line c ∧ c ≠ f ∧ s = cost c ∧ ∀ d, d < i → t_opc O d → t_ln line d → d ≠ f → (cost c).toInt ≤ (cost d).toInt)
    (fun z => ∃ r, z = some r ∧ t_rg cost O line r) ?_ ?_ (-1) (Or.inl ⟨rfl, fun d h => by omega⟩)
  · intro n i s hi hv
    right
    have hio := x9_isOpen hp hi
    have sn : ∀ c, c < 36 → t_opc O c → ¬ cost c < 0 := fun c hc ho => by rw [i_lt, show (0 : Int32).toInt = 0 from rfl]; have := (hp.2 c hc ho).2.1; omega
    have stay : (t_opc O i → t_ln line i → i = f) → ((s = -1 ∧ ∀ d, d < i + 1 → t_opc O d → t_ln line d → d = f) ∨ ∃ c, c < i + 1 ∧ t_opc O c ∧ t_ln line c ∧ c ≠ f ∧ s = cost c ∧ ∀ d, d < i + 1 → t_opc O d → t_ln line d → d ≠ f → (cost c).toInt ≤ (cost d).toInt) := by
      intro hs
      rcases hv with ⟨a, b⟩ | ⟨c, a, b1, b2, b3, b4, b5⟩
      · refine Or.inl ⟨a, fun d hd ho hld => ?_⟩
        by_cases q : d = i
        · rw [q] at ho hld ⊢; exact hs ho hld
        · exact b d (by omega) ho hld
      · refine Or.inr ⟨c, by omega, b1, b2, b3, b4, fun d hd ho hld hn => ?_⟩
        by_cases q : d = i
        · rw [q] at ho hld hn; exact absurd (hs ho hld) hn
        · exact b5 d (by omega) ho hld hn
    by_cases hln : t_ln line i
    · have e44 : ∃ s', ((s' = -1 ∧ ∀ d, d < i + 1 → t_opc O d → t_ln line d → d = f) ∨ ∃ c, c < i + 1 ∧ t_opc O c ∧ t_ln line c ∧ c ≠ f ∧ s' = cost c ∧ ∀ d, d < i + 1 → t_opc O d → t_ln line d → d ≠ f → (cost c).toInt ≤ (cost d).toInt) ∧
          f_X9_regret_44 (nI line) (f_X9_regret_11 (nI line) μ n) μ (nI f) s (nI i) 1 = f_X9_regret_11 (nI line) μ n (nI f) s' (nI (i + 1)) := by
        unfold f_X9_regret_44 f_X9_regret_81
        by_cases hif : i = f
        · refine ⟨s, stay (fun _ _ => hif), ?_⟩
          simp (disch := omega) only [lt_k, bnv_s, bnd_s, grd_t, q_in, q_inb, q_c, q_leT, q_leF, q_ltT, q_ltF, q_neg, q_nn, q_z, q_le0, q_b0, q_b1, nI_add, nI_0, q_off, q_self, q_oth, cst_2, st_2, ↓reduceIte, f_X8_cellAt, f_X8_roadAt, q_le1, q_nle1, q_le2, q_nle2, q_le5, q_nle5, q_le6, q_nle6, q_le8, q_nle8, q_le12, q_nle12, q_le25, q_nle25, q_le36, q_nle36, q_le60, q_nle60, q_le99, q_nle99, q_le100, q_nle100, q_le300, q_nle300, q_le640, q_nle640, q_le411, q_nle411, q_mul2, q_lmul2, q_mul3, q_lmul3, q_mul5, q_lmul5, q_mul6, q_lmul6, q_mul10, q_lmul10, q_add1, q_ladd1, q_add2, q_ladd2, q_add3, q_ladd3, q_add5, q_ladd5, q_add6, q_ladd6, q_add100, q_ladd100, q_div2, q_rem2, q_div3, q_rem3, q_div6, q_rem6, q_div10, q_rem10, q_10, hif]
        · by_cases ho : t_opc O i
          · rw [if_pos (t_opcB_t.mpr ho)] at hio
            obtain ⟨g1, g2, g3⟩ := hp.2 i hi ho
            rcases hv with ⟨a, b⟩ | ⟨c, a, b1, b2, b3, b4, b5⟩
            · refine ⟨cost i, Or.inr ⟨i, by omega, ho, hln, hif, rfl, fun d hd hod hld hn => ?_⟩, ?_⟩
              · by_cases q : d = i
                · rw [q]; exact Int.le_refl _
                · exact absurd (b d (by omega) hod hld) hn
              · simp (disch := omega) only [lt_k, bnv_s, bnd_s, grd_t, q_in, q_inb, q_c, q_leT, q_leF, q_ltT, q_ltF, q_neg, q_nn, q_z, q_le0, q_b0, q_b1, nI_add, nI_0, q_off, q_self, q_oth, cst_2, st_2, ↓reduceIte, f_X8_cellAt, f_X8_roadAt, q_le1, q_nle1, q_le2, q_nle2, q_le5, q_nle5, q_le6, q_nle6, q_le8, q_nle8, q_le12, q_nle12, q_le25, q_nle25, q_le36, q_nle36, q_le60, q_nle60, q_le99, q_nle99, q_le100, q_nle100, q_le300, q_nle300, q_le640, q_nle640, q_le411, q_nle411, q_mul2, q_lmul2, q_mul3, q_lmul3, q_mul5, q_lmul5, q_mul6, q_lmul6, q_mul10, q_lmul10, q_add1, q_ladd1, q_add2, q_ladd2, q_add3, q_ladd3, q_add5, q_ladd5, q_add6, q_ladd6, q_add100, q_ladd100, q_div2, q_rem2, q_div3, q_rem3, q_div6, q_rem6, q_div10, q_rem10, q_10, q_eqF, hio, a, q_m1, g1]
            · by_cases hle : cost c ≤ cost i
              · refine ⟨cost c, Or.inr ⟨c, by omega, b1, b2, b3, rfl, fun d hd hod hld hn => ?_⟩, ?_⟩
                · by_cases q : d = i
                  · rw [q]; exact i_le.mp hle
                  · exact b5 d (by omega) hod hld hn
                · simp (disch := omega) only [lt_k, bnv_s, bnd_s, grd_t, q_in, q_inb, q_c, q_leT, q_leF, q_ltT, q_ltF, q_neg, q_nn, q_z, q_le0, q_b0, q_b1, nI_add, nI_0, q_off, q_self, q_oth, cst_2, st_2, ↓reduceIte, f_X8_cellAt, f_X8_roadAt, q_le1, q_nle1, q_le2, q_nle2, q_le5, q_nle5, q_le6, q_nle6, q_le8, q_nle8, q_le12, q_nle12, q_le25, q_nle25, q_le36, q_nle36, q_le60, q_nle60, q_le99, q_nle99, q_le100, q_nle100, q_le300, q_nle300, q_le640, q_nle640, q_le411, q_nle411, q_mul2, q_lmul2, q_mul3, q_lmul3, q_mul5, q_lmul5, q_mul6, q_lmul6, q_mul10, q_lmul10, q_add1, q_ladd1, q_add2, q_ladd2, q_add3, q_ladd3, q_add5, q_ladd5, q_add6, q_ladd6, q_add100, q_ladd100, q_div2, q_rem2, q_div3, q_rem3, q_div6, q_rem6, q_div10, q_rem10, q_10, q_eqF, hio, b4, sn c (by omega) b1, g1, hle]
              · refine ⟨cost i, Or.inr ⟨i, by omega, ho, hln, hif, rfl, fun d hd hod hld hn => ?_⟩, ?_⟩
                · by_cases q : d = i
                  · rw [q]; exact Int.le_refl _
                  · have := b5 d (by omega) hod hld hn
                    rw [i_le] at hle; omega
                · simp (disch := omega) only [lt_k, bnv_s, bnd_s, grd_t, q_in, q_inb, q_c, q_leT, q_leF, q_ltT, q_ltF, q_neg, q_nn, q_z, q_le0, q_b0, q_b1, nI_add, nI_0, q_off, q_self, q_oth, cst_2, st_2, ↓reduceIte, f_X8_cellAt, f_X8_roadAt, q_le1, q_nle1, q_le2, q_nle2, q_le5, q_nle5, q_le6, q_nle6, q_le8, q_nle8, q_le12, q_nle12, q_le25, q_nle25, q_le36, q_nle36, q_le60, q_nle60, q_le99, q_nle99, q_le100, q_nle100, q_le300, q_nle300, q_le640, q_nle640, q_le411, q_nle411, q_mul2, q_lmul2, q_mul3, q_lmul3, q_mul5, q_lmul5, q_mul6, q_lmul6, q_mul10, q_lmul10, q_add1, q_ladd1, q_add2, q_ladd2, q_add3, q_ladd3, q_add5, q_ladd5, q_add6, q_ladd6, q_add100, q_ladd100, q_div2, q_rem2, q_div3, q_rem3, q_div6, q_rem6, q_div10, q_rem10, q_10, q_eqF, hio, b4, sn c (by omega) b1, g1, hle]
          · rw [if_neg (fun e => ho (t_opcB_t.mp e))] at hio
            refine ⟨s, stay (fun h => absurd h ho), ?_⟩
            simp (disch := omega) only [lt_k, bnv_s, bnd_s, grd_t, q_in, q_inb, q_c, q_leT, q_leF, q_ltT, q_ltF, q_neg, q_nn, q_z, q_le0, q_b0, q_b1, nI_add, nI_0, q_off, q_self, q_oth, cst_2, st_2, ↓reduceIte, f_X8_cellAt, f_X8_roadAt, q_le1, q_nle1, q_le2, q_nle2, q_le5, q_nle5, q_le6, q_nle6, q_le8, q_nle8, q_le12, q_nle12, q_le25, q_nle25, q_le36, q_nle36, q_le60, q_nle60, q_le99, q_nle99, q_le100, q_nle100, q_le300, q_nle300, q_le640, q_nle640, q_le411, q_nle411, q_mul2, q_lmul2, q_mul3, q_lmul3, q_mul5, q_lmul5, q_mul6, q_lmul6, q_mul10, q_lmul10, q_add1, q_ladd1, q_add2, q_ladd2, q_add3, q_ladd3, q_add5, q_ladd5, q_add6, q_ladd6, q_add100, q_ladd100, q_div2, q_rem2, q_div3, q_rem3, q_div6, q_rem6, q_div10, q_rem10, q_10, q_eqF, hio]
      obtain ⟨s', a, b⟩ := e44
      refine ⟨s', a, ?_⟩
      show g_X9_regret_11 (nI line) μ _ (nI f) s (nI i) = _
      unfold g_X9_regret_11 f_X9_regret_39
      rw [← b]
      by_cases l2 : i / 6 = line
      · simp (disch := omega) only [lt_k, bnv_s, bnd_s, grd_t, q_in, q_inb, q_c, q_leT, q_leF, q_ltT, q_ltF, q_neg, q_nn, q_z, q_le0, q_b0, q_b1, nI_add, nI_0, q_off, q_self, q_oth, cst_2, st_2, ↓reduceIte, f_X8_cellAt, f_X8_roadAt, q_le1, q_nle1, q_le2, q_nle2, q_le5, q_nle5, q_le6, q_nle6, q_le8, q_nle8, q_le12, q_nle12, q_le25, q_nle25, q_le36, q_nle36, q_le60, q_nle60, q_le99, q_nle99, q_le100, q_nle100, q_le300, q_nle300, q_le640, q_nle640, q_le411, q_nle411, q_mul2, q_lmul2, q_mul3, q_lmul3, q_mul5, q_lmul5, q_mul6, q_lmul6, q_mul10, q_lmul10, q_add1, q_ladd1, q_add2, q_ladd2, q_add3, q_ladd3, q_add5, q_ladd5, q_add6, q_ladd6, q_add100, q_ladd100, q_div2, q_rem2, q_div3, q_rem3, q_div6, q_rem6, q_div10, q_rem10, l2]
      · have l3 : 6 + i % 6 = line := hln.resolve_left l2
        simp (disch := omega) only [lt_k, bnv_s, bnd_s, grd_t, q_in, q_inb, q_c, q_leT, q_leF, q_ltT, q_ltF, q_neg, q_nn, q_z, q_le0, q_b0, q_b1, nI_add, nI_0, q_off, q_self, q_oth, cst_2, st_2, ↓reduceIte, f_X8_cellAt, f_X8_roadAt, q_le1, q_nle1, q_le2, q_nle2, q_le5, q_nle5, q_le6, q_nle6, q_le8, q_nle8, q_le12, q_nle12, q_le25, q_nle25, q_le36, q_nle36, q_le60, q_nle60, q_le99, q_nle99, q_le100, q_nle100, q_le300, q_nle300, q_le640, q_nle640, q_le411, q_nle411, q_mul2, q_lmul2, q_mul3, q_lmul3, q_mul5, q_lmul5, q_mul6, q_lmul6, q_mul10, q_lmul10, q_add1, q_ladd1, q_add2, q_ladd2, q_add3, q_ladd3, q_add5, q_ladd5, q_add6, q_ladd6, q_add100, q_ladd100, q_div2, q_rem2, q_div3, q_rem3, q_div6, q_rem6, q_div10, q_rem10, q_eqF, l3]
    · refine ⟨s, stay (fun _ h => absurd h hln), ?_⟩
      show g_X9_regret_11 (nI line) μ _ (nI f) s (nI i) = _
      unfold g_X9_regret_11 f_X9_regret_44
      have l2 : i / 6 ≠ line := fun q => hln (Or.inl q)
      have l3 : 6 + i % 6 ≠ line := fun q => hln (Or.inr q)
      simp (disch := omega) only [lt_k, bnv_s, bnd_s, grd_t, q_in, q_inb, q_c, q_leT, q_leF, q_ltT, q_ltF, q_neg, q_nn, q_z, q_le0, q_b0, q_b1, nI_add, nI_0, q_off, q_self, q_oth, cst_2, st_2, ↓reduceIte, f_X8_cellAt, f_X8_roadAt, q_le1, q_nle1, q_le2, q_nle2, q_le5, q_nle5, q_le6, q_nle6, q_le8, q_nle8, q_le12, q_nle12, q_le25, q_nle25, q_le36, q_nle36, q_le60, q_nle60, q_le99, q_nle99, q_le100, q_nle100, q_le300, q_nle300, q_le640, q_nle640, q_le411, q_nle411, q_mul2, q_lmul2, q_mul3, q_lmul3, q_mul5, q_lmul5, q_mul6, q_lmul6, q_mul10, q_lmul10, q_add1, q_ladd1, q_add2, q_ladd2, q_add3, q_ladd3, q_add5, q_ladd5, q_add6, q_ladd6, q_add100, q_ladd100, q_div2, q_rem2, q_div3, q_rem3, q_div6, q_rem6, q_div10, q_rem10, q_eqF]
  · intro n s hv
    rcases hv with ⟨a, b⟩ | ⟨c, a, b1, b2, b3, b4, b5⟩
    · refine ⟨cost f, ?_, f, hf, Or.inl ⟨b, rfl⟩⟩
      show g_X9_regret_11 (nI line) μ _ (nI f) s (nI 36) = _
      unfold g_X9_regret_11
      simp (disch := omega) only [lt_k, bnv_s, bnd_s, grd_t, q_in, q_inb, q_c, q_leT, q_leF, q_ltT, q_ltF, q_neg, q_nn, q_z, q_le0, q_b0, q_b1, nI_add, nI_0, q_off, q_self, q_oth, cst_2, st_2, ↓reduceIte, f_X8_cellAt, f_X8_roadAt, q_le1, q_nle1, q_le2, q_nle2, q_le5, q_nle5, q_le6, q_nle6, q_le8, q_nle8, q_le12, q_nle12, q_le25, q_nle25, q_le36, q_nle36, q_le60, q_nle60, q_le99, q_nle99, q_le100, q_nle100, q_le300, q_nle300, q_le640, q_nle640, q_le411, q_nle411, q_mul2, q_lmul2, q_mul3, q_lmul3, q_mul5, q_lmul5, q_mul6, q_lmul6, q_mul10, q_lmul10, q_add1, q_ladd1, q_add2, q_ladd2, q_add3, q_ladd3, q_add5, q_ladd5, q_add6, q_ladd6, q_add100, q_ladd100, q_div2, q_rem2, q_div3, q_rem3, q_div6, q_rem6, q_div10, q_rem10, a, show ¬ ((0 : Int32) ≤ -1) by decide, f1]
    · refine ⟨cost c - cost f, ?_, f, hf, Or.inr ⟨c, a, b1, b2, b3, b5, rfl⟩⟩
      have c0 : (0 : Int32) ≤ cost c := by rw [i_le, show (0 : Int32).toInt = 0 from rfl]; exact (hp.2 c a b1).2.1
      show g_X9_regret_11 (nI line) μ _ (nI f) s (nI 36) = _
      unfold g_X9_regret_11
      simp (disch := omega) only [lt_k, bnv_s, bnd_s, grd_t, q_in, q_inb, q_c, q_leT, q_leF, q_ltT, q_ltF, q_neg, q_nn, q_z, q_le0, q_b0, q_b1, nI_add, nI_0, q_off, q_self, q_oth, cst_2, st_2, ↓reduceIte, f_X8_cellAt, f_X8_roadAt, q_le1, q_nle1, q_le2, q_nle2, q_le5, q_nle5, q_le6, q_nle6, q_le8, q_nle8, q_le12, q_nle12, q_le25, q_nle25, q_le36, q_nle36, q_le60, q_nle60, q_le99, q_nle99, q_le100, q_nle100, q_le300, q_nle300, q_le640, q_nle640, q_le411, q_nle411, q_mul2, q_lmul2, q_mul3, q_lmul3, q_mul5, q_lmul5, q_mul6, q_lmul6, q_mul10, q_lmul10, q_add1, q_ladd1, q_add2, q_ladd2, q_add3, q_ladd3, q_add5, q_ladd5, q_add6, q_ladd6, q_add100, q_ladd100, q_div2, q_rem2, q_div3, q_rem3, q_div6, q_rem6, q_div10, q_rem10, b4, c0, f1]
theorem x9_picked {O : Nat → Bool} {cost : Nat → Int32} {μ : Mem} (rule : Int32) (hp : PM cost O μ) (h1 : 0 < t_ctr O 6) (h2 : 0 < t_sinks O) : ∃ c, f_X9_picked rule μ = some (nI c) ∧ t_pk rule cost O c := by
  obtain ⟨i0, i1, i2⟩ := t_ctr_ex 6 h1
  obtain ⟨j0, j1, j2⟩ := t_ctr_ex 6 h2
  have j2' : O (6 + j0) = true := j2
  have hop : ∀ i j, i < 6 → j < 6 → O i = true → O (6 + j) = true → t_opc O (6 * i + j) := fun i j hi hj a b => ⟨by rw [show (6 * i + j) / 6 = i by omega]; exact a, by rw [show (6 * i + j) % 6 = j by omega]; exact b⟩
  have exl : ∀ l, l < 12 → O l = true → ∃ d, d < 36 ∧ t_opc O d ∧ t_ln l d := by
    intro l hl ho
    by_cases q : l < 6
    · exact ⟨6 * l + j0, by omega, hop l j0 q j1 ho j2', Or.inl (by omega)⟩
    · exact ⟨6 * i0 + (l - 6), by omega, hop i0 (l - 6) i1 (by omega) i2 (by rw [show 6 + (l - 6) = l by omega]; exact ho), Or.inr (by omega)⟩
  unfold f_X9_picked t_pk
  by_cases r0 : rule = 0
  · rw [if_pos r0]
    have hex : ∃ d, d < 36 ∧ t_opcB O d = true := ⟨6 * i0 + j0, by omega, t_opcB_t.mpr (hop i0 j0 i1 j1 i2 j2')⟩
    obtain ⟨c, c1, c2, c3⟩ := t_first 36 hex
    refine ⟨c, ?_, by rw [if_pos r0]; exact ⟨c1, t_opcB_t.mp c2, trivial, fun d hd ho _ => ⟨Int.le_refl _, fun _ => Nat.le_of_not_lt (fun q => by have := c3 d q; rw [t_opcB_t.mpr ho] at this; cases this)⟩⟩⟩
    have : f_X9_corner μ = some (nI c) := by
      refine q_loop0 (fun n i (_ : Unit) => f_X9_corner_2 μ n (nI i)) c (by omega) (fun _ _ => True) (fun z => z = some (nI c)) (fun n i _ hi _ => Or.inr ⟨(), trivial, ?_⟩) (fun n _ _ => ?_) () trivial
      · show g_X9_corner_2 μ _ (nI i) = _
        have hio := x9_isOpen hp (show i < 36 by omega)
        rw [c3 i hi, if_neg (by decide)] at hio
        unfold g_X9_corner_2
        simp (disch := omega) only [lt_k, bnv_s, bnd_s, grd_t, q_in, q_inb, q_c, q_leT, q_leF, q_ltT, q_ltF, q_neg, q_nn, q_z, q_le0, q_b0, q_b1, nI_add, nI_0, q_off, q_self, q_oth, cst_2, st_2, ↓reduceIte, f_X8_cellAt, f_X8_roadAt, q_le1, q_nle1, q_le2, q_nle2, q_le5, q_nle5, q_le6, q_nle6, q_le8, q_nle8, q_le12, q_nle12, q_le25, q_nle25, q_le36, q_nle36, q_le60, q_nle60, q_le99, q_nle99, q_le100, q_nle100, q_le300, q_nle300, q_le640, q_nle640, q_le411, q_nle411, q_mul2, q_lmul2, q_mul3, q_lmul3, q_mul5, q_lmul5, q_mul6, q_lmul6, q_mul10, q_lmul10, q_add1, q_ladd1, q_add2, q_ladd2, q_add3, q_ladd3, q_add5, q_ladd5, q_add6, q_ladd6, q_add100, q_ladd100, q_div2, q_rem2, q_div3, q_rem3, q_div6, q_rem6, q_div10, q_rem10, hio]
      · show g_X9_corner_2 μ _ (nI c) = _
        have hio := x9_isOpen hp c1
        rw [c2, if_pos rfl] at hio
        unfold g_X9_corner_2
        simp (disch := omega) only [lt_k, bnv_s, bnd_s, grd_t, q_in, q_inb, q_c, q_leT, q_leF, q_ltT, q_ltF, q_neg, q_nn, q_z, q_le0, q_b0, q_b1, nI_add, nI_0, q_off, q_self, q_oth, cst_2, st_2, ↓reduceIte, f_X8_cellAt, f_X8_roadAt, q_le1, q_nle1, q_le2, q_nle2, q_le5, q_nle5, q_le6, q_nle6, q_le8, q_nle8, q_le12, q_nle12, q_le25, q_nle25, q_le36, q_nle36, q_le60, q_nle60, q_le99, q_nle99, q_le100, q_nle100, q_le300, q_nle300, q_le640, q_nle640, q_le411, q_nle411, q_mul2, q_lmul2, q_mul3, q_lmul3, q_mul5, q_lmul5, q_mul6, q_lmul6, q_mul10, q_lmul10, q_add1, q_ladd1, q_add2, q_ladd2, q_add3, q_ladd3, q_add5, q_ladd5, q_add6, q_ladd6, q_add100, q_ladd100, q_div2, q_rem2, q_div3, q_rem3, q_div6, q_rem6, q_div10, q_rem10, hio, q_10]
    rw [this, bnv_s]
  · rw [if_neg r0]
    by_cases r1 : rule = 1
    · rw [if_pos r1]
      obtain ⟨r, e, h⟩ := x9_cheap hp (-1)
      have any : ∀ d, t_lnA (-1) d ↔ True := fun d => ⟨fun _ => trivial, fun _ => Or.inl (by decide)⟩
      rcases h with ⟨a, b⟩ | ⟨c, a, b⟩
      · exact absurd ((any _).mpr trivial) (b _ (by omega) (hop i0 j0 i1 j1 i2 j2'))
      · refine ⟨c, by rw [e, bnv_s, a], ?_⟩
        rw [if_neg r0, if_pos r1]
        exact t_ch_ln (fun d _ => any d) b
    · rw [if_neg r1]
      refine q_loop0 (fun n i (s : Int32) => f_X9_picked_24 rule μ n s (nI i)) 12 (by omega) (fun i s => (s = -1 ∧ ∀ l, l < i → O l = false) ∨ ∃ line r, s = nI line ∧ t_gr cost O i line r)
        (fun z => ∃ c, z = some (nI c) ∧ if rule = 0 then t_ch (fun _ => 0) O (fun _ => True) 36 c else if rule = 1 then t_ch cost O (fun _ => True) 36 c else ∃ line r, t_gr cost O 12 line r ∧ t_ch cost O (t_ln line) 36 c) ?_ ?_ (-1) (Or.inl ⟨rfl, fun l h => by omega⟩)
      · intro n i s hi hv
        right
        have a0 := hp.1 i hi
        cases oi : O i
        · rw [oi] at a0
          refine ⟨s, ?_, ?_⟩
          · rcases hv with ⟨a, b⟩ | ⟨line, r, a, b⟩
            · refine Or.inl ⟨a, fun l hl => ?_⟩
              by_cases q : l = i
              · rw [q]; exact oi
              · exact b l (by omega)
            · exact Or.inr ⟨line, r, a, t_gr_skip b (fun h => by rw [oi] at h; cases h)⟩
          · show g_X9_picked_24 rule μ _ s (nI i) = _
            unfold g_X9_picked_24
            simp (disch := omega) only [lt_k, bnv_s, bnd_s, grd_t, q_in, q_inb, q_c, q_leT, q_leF, q_ltT, q_ltF, q_neg, q_nn, q_z, q_le0, q_b0, q_b1, nI_add, nI_0, q_off, q_self, q_oth, cst_2, st_2, ↓reduceIte, f_X8_cellAt, f_X8_roadAt, q_le1, q_nle1, q_le2, q_nle2, q_le5, q_nle5, q_le6, q_nle6, q_le8, q_nle8, q_le12, q_nle12, q_le25, q_nle25, q_le36, q_nle36, q_le60, q_nle60, q_le99, q_nle99, q_le100, q_nle100, q_le300, q_nle300, q_le640, q_nle640, q_le411, q_nle411, q_mul2, q_lmul2, q_mul3, q_lmul3, q_mul5, q_lmul5, q_mul6, q_lmul6, q_mul10, q_lmul10, q_add1, q_ladd1, q_add2, q_ladd2, q_add3, q_ladd3, q_add5, q_ladd5, q_add6, q_ladd6, q_add100, q_ladd100, q_div2, q_rem2, q_div3, q_rem3, q_div6, q_rem6, q_div10, q_rem10, a0, b01_f]
        · rw [oi] at a0
          obtain ⟨r', er, hr⟩ := x9_regret hp hi (exl i hi oi)
          rcases hv with ⟨a, b⟩ | ⟨line, r, a, b⟩
          · refine ⟨nI i, Or.inr ⟨i, r', rfl, t_gr_new oi hr (Or.inl b)⟩, ?_⟩
            show g_X9_picked_24 rule μ _ s (nI i) = _
            unfold g_X9_picked_24
            simp (disch := omega) only [lt_k, bnv_s, bnd_s, grd_t, q_in, q_inb, q_c, q_leT, q_leF, q_ltT, q_ltF, q_neg, q_nn, q_z, q_le0, q_b0, q_b1, nI_add, nI_0, q_off, q_self, q_oth, cst_2, st_2, ↓reduceIte, f_X8_cellAt, f_X8_roadAt, q_le1, q_nle1, q_le2, q_nle2, q_le5, q_nle5, q_le6, q_nle6, q_le8, q_nle8, q_le12, q_nle12, q_le25, q_nle25, q_le36, q_nle36, q_le60, q_nle60, q_le99, q_nle99, q_le100, q_nle100, q_le300, q_nle300, q_le640, q_nle640, q_le411, q_nle411, q_mul2, q_lmul2, q_mul3, q_lmul3, q_mul5, q_lmul5, q_mul6, q_lmul6, q_mul10, q_lmul10, q_add1, q_ladd1, q_add2, q_ladd2, q_add3, q_ladd3, q_add5, q_ladd5, q_add6, q_ladd6, q_add100, q_ladd100, q_div2, q_rem2, q_div3, q_rem3, q_div6, q_rem6, q_div10, q_rem10, a0, b01_t, q_10, a, q_m1]
          · have hline := b.1
            obtain ⟨r2, er2, hr2⟩ := x9_regret hp (show line < 12 by omega) (exl line (by omega) b.2.1)
            have := t_rg_uniq hr2 b.2.2.1
            subst this
            by_cases hle : r' ≤ r2
            · refine ⟨nI line, Or.inr ⟨line, r2, rfl, t_gr_skip b (fun _ r3 hr3 => by rw [t_rg_uniq hr3 hr]; exact i_le.mp hle)⟩, ?_⟩
              show g_X9_picked_24 rule μ _ s (nI i) = _
              unfold g_X9_picked_24
              simp (disch := omega) only [lt_k, bnv_s, bnd_s, grd_t, q_in, q_inb, q_c, q_leT, q_leF, q_ltT, q_ltF, q_neg, q_nn, q_z, q_le0, q_b0, q_b1, nI_add, nI_0, q_off, q_self, q_oth, cst_2, st_2, ↓reduceIte, f_X8_cellAt, f_X8_roadAt, q_le1, q_nle1, q_le2, q_nle2, q_le5, q_nle5, q_le6, q_nle6, q_le8, q_nle8, q_le12, q_nle12, q_le25, q_nle25, q_le36, q_nle36, q_le60, q_nle60, q_le99, q_nle99, q_le100, q_nle100, q_le300, q_nle300, q_le640, q_nle640, q_le411, q_nle411, q_mul2, q_lmul2, q_mul3, q_lmul3, q_mul5, q_lmul5, q_mul6, q_lmul6, q_mul10, q_lmul10, q_add1, q_ladd1, q_add2, q_ladd2, q_add3, q_ladd3, q_add5, q_ladd5, q_add6, q_ladd6, q_add100, q_ladd100, q_div2, q_rem2, q_div3, q_rem3, q_div6, q_rem6, q_div10, q_rem10, a0, b01_t, q_10, a, er, er2, hle]
            · refine ⟨nI i, Or.inr ⟨i, r', rfl, t_gr_new oi hr (Or.inr ⟨line, r2, b, by rw [i_le] at hle; omega⟩)⟩, ?_⟩
              show g_X9_picked_24 rule μ _ s (nI i) = _
              unfold g_X9_picked_24
              simp (disch := omega) only [lt_k, bnv_s, bnd_s, grd_t, q_in, q_inb, q_c, q_leT, q_leF, q_ltT, q_ltF, q_neg, q_nn, q_z, q_le0, q_b0, q_b1, nI_add, nI_0, q_off, q_self, q_oth, cst_2, st_2, ↓reduceIte, f_X8_cellAt, f_X8_roadAt, q_le1, q_nle1, q_le2, q_nle2, q_le5, q_nle5, q_le6, q_nle6, q_le8, q_nle8, q_le12, q_nle12, q_le25, q_nle25, q_le36, q_nle36, q_le60, q_nle60, q_le99, q_nle99, q_le100, q_nle100, q_le300, q_nle300, q_le640, q_nle640, q_le411, q_nle411, q_mul2, q_lmul2, q_mul3, q_lmul3, q_mul5, q_lmul5, q_mul6, q_lmul6, q_mul10, q_lmul10, q_add1, q_ladd1, q_add2, q_ladd2, q_add3, q_ladd3, q_add5, q_ladd5, q_add6, q_ladd6, q_add100, q_ladd100, q_div2, q_rem2, q_div3, q_rem3, q_div6, q_rem6, q_div10, q_rem10, a0, b01_t, q_10, a, er, er2, hle]
      · intro n s hv
        rcases hv with ⟨a, b⟩ | ⟨line, r, a, b⟩
        · rw [b i0 (by omega)] at i2; cases i2
        · obtain ⟨c, ec, hc⟩ := x9_cheapLn hp b.1 (exl line b.1 b.2.1)
          refine ⟨c, ?_, by rw [if_neg r0, if_neg r1]; exact ⟨line, r, b, hc⟩⟩
          show g_X9_picked_24 rule μ _ s (nI 12) = _
          unfold g_X9_picked_24
          simp (disch := omega) only [lt_k, bnv_s, bnd_s, grd_t, q_in, q_inb, q_c, q_leT, q_leF, q_ltT, q_ltF, q_neg, q_nn, q_z, q_le0, q_b0, q_b1, nI_add, nI_0, q_off, q_self, q_oth, cst_2, st_2, ↓reduceIte, f_X8_cellAt, f_X8_roadAt, q_le1, q_nle1, q_le2, q_nle2, q_le5, q_nle5, q_le6, q_nle6, q_le8, q_nle8, q_le12, q_nle12, q_le25, q_nle25, q_le36, q_nle36, q_le60, q_nle60, q_le99, q_nle99, q_le100, q_nle100, q_le300, q_nle300, q_le640, q_nle640, q_le411, q_nle411, q_mul2, q_lmul2, q_mul3, q_lmul3, q_mul5, q_lmul5, q_mul6, q_lmul6, q_mul10, q_lmul10, q_add1, q_ladd1, q_add2, q_ladd2, q_add3, q_ladd3, q_add5, q_ladd5, q_add6, q_ladd6, q_add100, q_ladd100, q_div2, q_rem2, q_div3, q_rem3, q_div6, q_rem6, q_div10, q_rem10, a, ec]
