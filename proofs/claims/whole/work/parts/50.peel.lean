/-! THE PURE PART: the model's loop: what stands alone goes, the walk over what is left -/
def t_ctr (f : Nat → Bool) : Nat → Nat
  | 0 => 0
  | n + 1 => t_ctr f n + if f n = true then 1 else 0
theorem t_ctr_le (f : Nat → Bool) : ∀ n, t_ctr f n ≤ n
  | 0 => Nat.le_refl 0
  | n + 1 => by
    have := t_ctr_le f n
    unfold t_ctr
    split <;> omega
theorem t_ctr_eq {f g : Nat → Bool} : ∀ n, (∀ k, k < n → f k = g k) → t_ctr f n = t_ctr g n
  | 0, _ => rfl
  | n + 1, h => by
    unfold t_ctr
    rw [t_ctr_eq n (fun k hk => h k (by omega)), h n (by omega)]
theorem t_ctr_put {f : Nat → Bool} {p : Nat} (hp : f p = true) : ∀ n, t_ctr (t_put f p false) n + (if p < n then 1 else 0) = t_ctr f n
  | 0 => by rw [if_neg (by omega)]; rfl
  | n + 1 => by
    have ih := t_ctr_put hp n
    unfold t_ctr
    by_cases q : n = p
    · subst q
      rw [if_neg (by omega)] at ih
      rw [if_pos (show n < n + 1 by omega), if_neg (show ¬ t_put f n false n = true by unfold t_put; rw [if_pos rfl]; decide), if_pos hp]
      omega
    · have e : t_put f p false n = f n := by unfold t_put; rw [if_neg q]
      rw [e]
      by_cases r : p < n
      · rw [if_pos r] at ih; rw [if_pos (show p < n + 1 by omega)]; omega
      · rw [if_neg r] at ih; rw [if_neg (show ¬ p < n + 1 by omega)]; omega
theorem t_ctr_pos {f : Nat → Bool} {d : Nat} (hd : f d = true) : ∀ n, d < n → 0 < t_ctr f n
  | 0, h => by omega
  | n + 1, h => by
    unfold t_ctr
    by_cases q : d = n
    · rw [← q, hd, if_pos rfl]; omega
    · have := t_ctr_pos hd n (by omega); omega
theorem t_ctr_ex {f : Nat → Bool} : ∀ n, 0 < t_ctr f n → ∃ d, d < n ∧ f d = true
  | 0, h => by unfold t_ctr at h; omega
  | n + 1, h => by
    unfold t_ctr at h
    by_cases q : f n = true
    · exact ⟨n, by omega, q⟩
    · rw [if_neg q] at h
      obtain ⟨d, h1, h2⟩ := t_ctr_ex n h
      exact ⟨d, by omega, h2⟩
/-- is cell c in this line -/
def t_il (ln c : Nat) : Bool := decide (c / 6 = ln) || decide (6 + c % 6 = ln)
theorem t_il_t {ln c : Nat} : t_il ln c = true ↔ c / 6 = ln ∨ 6 + c % 6 = ln := by unfold t_il; simp
def t_nl (I : Nat → Bool) (ln n : Nat) : Nat := t_ctr (fun c => I c && t_il ln c) n
theorem t_nl_put {I : Nat → Bool} {c ln : Nat} (hc : c < 36) (hi : I c = true) : t_nl (t_put I c false) ln 36 + (if t_il ln c = true then 1 else 0) = t_nl I ln 36 := by
  unfold t_nl
  cases hl : t_il ln c
  · rw [if_neg (by decide), Nat.add_zero]
    refine t_ctr_eq 36 (fun k hk => ?_)
    unfold t_put
    by_cases q : k = c
    · rw [if_pos q, q, hl]; simp
    · rw [if_neg q]
  · have := t_ctr_put (f := fun c => I c && t_il ln c) (p := c) (by show (I c && t_il ln c) = true; rw [hi, hl]; rfl) 36
    rw [if_pos hc] at this
    rw [if_pos rfl, ← this]
    congr 1
    refine t_ctr_eq 36 (fun k hk => ?_)
    unfold t_put
    by_cases q : k = c
    · rw [if_pos q, if_pos q]; rfl
    · rw [if_neg q, if_neg q]
theorem t_nl_two {I : Nat → Bool} {c d ln : Nat} (hc : c < 36) (hd : d < 36) (hne : d ≠ c) (hi : I c = true) (hj : I d = true) (h1 : t_il ln c = true) (h2 : t_il ln d = true) : 2 ≤ t_nl I ln 36 := by
  have a := t_nl_put (ln := ln) hc hi
  rw [if_pos h1] at a
  have : 0 < t_nl (t_put I c false) ln 36 := by
    refine t_ctr_pos (d := d) ?_ 36 hd
    show (t_put I c false d && t_il ln d) = true
    unfold t_put
    rw [if_neg hne, hj, h2]; rfl
  omega
theorem t_nl_oth {I : Nat → Bool} {c ln : Nat} (hc : c < 36) (hi : I c = true) (h1 : t_il ln c = true) (hn : t_nl I ln 36 ≠ 1) : ∃ d, d < 36 ∧ d ≠ c ∧ I d = true ∧ t_il ln d = true := by
  have a := t_nl_put (ln := ln) hc hi
  rw [if_pos h1] at a
  obtain ⟨d, hd, h⟩ := t_ctr_ex (f := fun d => t_put I c false d && t_il ln d) 36 (by unfold t_nl at a; unfold t_nl at hn; omega)
  have h' : (t_put I c false d && t_il ln d) = true := h
  obtain ⟨x, y⟩ := Bool.and_eq_true_iff.mp h'
  unfold t_put at x
  by_cases q : d = c
  · rw [if_pos q] at x; cases x
  · rw [if_neg q] at x; exact ⟨d, hd, q, x, y⟩
theorem q_dec (m : Nat) : nI (m + 1) + -1 = nI m := by
  rw [nI_succ, Int32.add_assoc, show (1 : Int32) + -1 = 0 by decide, Int32.add_zero]
/-- the model's rows of the cells that are in -/
def LW (μ : Mem) (I : Nat → Bool) : Prop := (∀ c, c < 36 → μ.1 144 c = b01 (I c)) ∧ ∀ ln, ln < 12 → μ.1 146 ln = nI (t_nl I ln 36)
def LA : Nat → Nat → Prop := fun c j => c = 144 ∨ c = 145 ∨ c = 146 ∨ (c = 122 ∧ (j = 41 ∨ j = 42))
def LB : Nat → Nat → Prop := fun c _ => c = 144 ∨ c = 146
theorem x9_tie {c m1 m2 : Nat} {μ : Mem} (hc : c < 36) (up : Bool) (h1 : μ.1 146 (c / 6) = nI (if up = true then m1 else m1 + 1)) (h2 : μ.1 146 (6 + c % 6) = nI (if up = true then m2 else m2 + 1)) :
    f_X9_tie (nI c) (if up = true then 1 else -1) μ = some (st (st (st μ 144 c (b01 up)) 146 (c / 6) (nI (if up = true then m1 + 1 else m1))) 146 (6 + c % 6) (nI (if up = true then m2 + 1 else m2))) := by
  have e : (st (st μ 144 c (b01 up)) 146 (c / 6) (nI (if up = true then m1 + 1 else m1))).1 146 (6 + c % 6) = nI (if up = true then m2 else m2 + 1) := by
    simp (disch := omega) only [lt_k, bnv_s, bnd_s, grd_t, q_in, q_inb, q_c, q_leT, q_leF, q_ltT, q_ltF, q_neg, q_nn, q_z, q_le0, q_b0, q_b1, nI_add, nI_0, q_off, q_self, q_oth, cst_2, st_2, ↓reduceIte, f_X8_cellAt, f_X8_roadAt, q_le1, q_nle1, q_le2, q_nle2, q_le5, q_nle5, q_le6, q_nle6, q_le8, q_nle8, q_le12, q_nle12, q_le25, q_nle25, q_le36, q_nle36, q_le60, q_nle60, q_le99, q_nle99, q_le100, q_nle100, q_le300, q_nle300, q_le640, q_nle640, q_le411, q_nle411, q_mul2, q_lmul2, q_mul3, q_lmul3, q_mul5, q_lmul5, q_mul6, q_lmul6, q_mul10, q_lmul10, q_add1, q_ladd1, q_add2, q_ladd2, q_add3, q_ladd3, q_add5, q_ladd5, q_add6, q_ladd6, q_add100, q_ladd100, q_div2, q_rem2, q_div3, q_rem3, q_div6, q_rem6, q_div10, q_rem10, h2]
  have e0 : ((-1 : Int32) ≤ 0) = True := eq_true (by decide)
  have e2 : ((1 : Int32) ≤ 0) = False := eq_false (by decide)
  unfold f_X9_tie f_X9_tie_14
  cases up
  · simp only [Bool.false_eq_true, ↓reduceIte] at h1 h2 e ⊢
    simp (disch := omega) only [e0, ↓reduceIte, q_in, q_b0, grd_t, lt_k, q_c, q_div6, q_rem6, q_ladd6, q_off, h1, h2, q_dec, b01_f]
    rw [show (0 : Int32) = b01 false from rfl, e, q_dec]
  · simp only [↓reduceIte] at h1 h2 e ⊢
    simp (disch := omega) only [e2, ↓reduceIte, q_in, q_b1, grd_t, lt_k, q_c, q_div6, q_rem6, q_ladd6, q_off, h1, h2, q_add1, b01_t]
    rw [show (1 : Int32) = b01 true from rfl, e]
    simp (disch := omega) only [lt_k, bnv_s, bnd_s, grd_t, q_in, q_inb, q_c, q_leT, q_leF, q_ltT, q_ltF, q_neg, q_nn, q_z, q_le0, q_b0, q_b1, nI_add, nI_0, q_off, q_self, q_oth, cst_2, st_2, ↓reduceIte, f_X8_cellAt, f_X8_roadAt, q_le1, q_nle1, q_le2, q_nle2, q_le5, q_nle5, q_le6, q_nle6, q_le8, q_nle8, q_le12, q_nle12, q_le25, q_nle25, q_le36, q_nle36, q_le60, q_nle60, q_le99, q_nle99, q_le100, q_nle100, q_le300, q_nle300, q_le640, q_nle640, q_le411, q_nle411, q_mul2, q_lmul2, q_mul3, q_lmul3, q_mul5, q_lmul5, q_mul6, q_lmul6, q_mul10, q_lmul10, q_add1, q_ladd1, q_add2, q_ladd2, q_add3, q_ladd3, q_add5, q_ladd5, q_add6, q_ladd6, q_add100, q_ladd100, q_div2, q_rem2, q_div3, q_rem3, q_div6, q_rem6, q_div10, q_rem10, b01_t]
theorem t_nl_succ (I : Nat → Bool) (ln n : Nat) : t_nl I ln (n + 1) = t_nl I ln n + if (I n && t_il ln n) = true then 1 else 0 := rfl
/-- filling in -/
theorem x9_fill {cell : Nat} {μ0 : Mem} (h01 : ∀ c, c < 36 → μ0.1 129 c = 0 ∨ μ0.1 129 c = 1) (hcl : cell < 36) : ∃ μ', f_X9_loops (nI cell) μ0 = f_X9_loops_65 (nI cell) FU 1 μ' ∧ fr LB μ0 μ' ∧ LW μ' (fun c => bb (μ0.1 129) c || decide (c = cell)) := by
  unfold f_X9_loops
  refine q_loop0 (fun n i (s : Mem) => f_X9_loops_2 (nI cell) n (nI i) s) 12 (by omega) (fun i s => fr LB μ0 s ∧ ∀ ln, ln < i → s.1 146 ln = 0)
    (fun z => ∃ μ', z = f_X9_loops_65 (nI cell) FU 1 μ' ∧ fr LB μ0 μ' ∧ LW μ' (fun c => bb (μ0.1 129) c || decide (c = cell))) ?_ ?_ μ0 ⟨fr_refl _ _, fun ln h => by omega⟩
  · rintro n i s hi ⟨p1, p2⟩
    right
    refine ⟨st s 146 i 0, ⟨fr_st' p1 (by unfold LB; omega), fun ln hl => ?_⟩, ?_⟩
    · simp (disch := omega) only [lt_k, bnv_s, bnd_s, grd_t, q_in, q_inb, q_c, q_leT, q_leF, q_ltT, q_ltF, q_neg, q_nn, q_z, q_le0, q_b0, q_b1, nI_add, nI_0, q_off, q_self, q_oth, cst_2, st_2, ↓reduceIte, f_X8_cellAt, f_X8_roadAt, q_le1, q_nle1, q_le2, q_nle2, q_le5, q_nle5, q_le6, q_nle6, q_le8, q_nle8, q_le12, q_nle12, q_le25, q_nle25, q_le36, q_nle36, q_le60, q_nle60, q_le99, q_nle99, q_le100, q_nle100, q_le300, q_nle300, q_le640, q_nle640, q_le411, q_nle411, q_mul2, q_lmul2, q_mul3, q_lmul3, q_mul5, q_lmul5, q_mul6, q_lmul6, q_mul10, q_lmul10, q_add1, q_ladd1, q_add2, q_ladd2, q_add3, q_ladd3, q_add5, q_ladd5, q_add6, q_ladd6, q_add100, q_ladd100, q_div2, q_rem2, q_div3, q_rem3, q_div6, q_rem6, q_div10, q_rem10, q_at]
      by_cases q : ln = i
      · rw [if_pos q]
      · rw [if_neg q]; exact p2 ln (by omega)
    · show g_X9_loops_2 _ _ (nI i) s = _
      unfold g_X9_loops_2
      simp (disch := omega) only [lt_k, bnv_s, bnd_s, grd_t, q_in, q_inb, q_c, q_leT, q_leF, q_ltT, q_ltF, q_neg, q_nn, q_z, q_le0, q_b0, q_b1, nI_add, nI_0, q_off, q_self, q_oth, cst_2, st_2, ↓reduceIte, f_X8_cellAt, f_X8_roadAt, q_le1, q_nle1, q_le2, q_nle2, q_le5, q_nle5, q_le6, q_nle6, q_le8, q_nle8, q_le12, q_nle12, q_le25, q_nle25, q_le36, q_nle36, q_le60, q_nle60, q_le99, q_nle99, q_le100, q_nle100, q_le300, q_nle300, q_le640, q_nle640, q_le411, q_nle411, q_mul2, q_lmul2, q_mul3, q_lmul3, q_mul5, q_lmul5, q_mul6, q_lmul6, q_mul10, q_lmul10, q_add1, q_ladd1, q_add2, q_ladd2, q_add3, q_ladd3, q_add5, q_ladd5, q_add6, q_ladd6, q_add100, q_ladd100, q_div2, q_rem2, q_div3, q_rem3, q_div6, q_rem6, q_div10, q_rem10, lt_k]
  · rintro n s ⟨p1, p2⟩
    show ∃ μ', g_X9_loops_2 _ _ (nI 12) s = _ ∧ _
    unfold g_X9_loops_2
    simp (disch := omega) only [lt_k, bnv_s, bnd_s, grd_t, q_in, q_inb, q_c, q_leT, q_leF, q_ltT, q_ltF, q_neg, q_nn, q_z, q_le0, q_b0, q_b1, nI_add, nI_0, q_off, q_self, q_oth, cst_2, st_2, ↓reduceIte, f_X8_cellAt, f_X8_roadAt, q_le1, q_nle1, q_le2, q_nle2, q_le5, q_nle5, q_le6, q_nle6, q_le8, q_nle8, q_le12, q_nle12, q_le25, q_nle25, q_le36, q_nle36, q_le60, q_nle60, q_le99, q_nle99, q_le100, q_nle100, q_le300, q_nle300, q_le640, q_nle640, q_le411, q_nle411, q_mul2, q_lmul2, q_mul3, q_lmul3, q_mul5, q_lmul5, q_mul6, q_lmul6, q_mul10, q_lmul10, q_add1, q_ladd1, q_add2, q_ladd2, q_add3, q_ladd3, q_add5, q_ladd5, q_add6, q_ladd6, q_add100, q_ladd100, q_div2, q_rem2, q_div3, q_rem3, q_div6, q_rem6, q_div10, q_rem10, lt_k]
    refine q_loop0 (fun n i (s : Mem) => f_X9_loops_23 (nI cell) n (nI i) s) 36 (by omega) (fun i s => fr LB μ0 s ∧ (∀ c, c < i → s.1 144 c = b01 (bb (μ0.1 129) c || decide (c = cell))) ∧ ∀ ln, ln < 12 → s.1 146 ln = nI (t_nl (fun c => bb (μ0.1 129) c || decide (c = cell)) ln i))
      (fun z => ∃ μ', z = f_X9_loops_65 (nI cell) FU 1 μ' ∧ fr LB μ0 μ' ∧ LW μ' (fun c => bb (μ0.1 129) c || decide (c = cell))) ?_ ?_ s ⟨p1, fun c h => by omega, fun ln hl => p2 ln hl⟩
    · rintro n i s hi ⟨p1, p2, p3⟩
      right
      have hB : s.1 129 i = μ0.1 129 i := p1.2 _ _ (by unfold LB; omega)
      have ftie : fr LB μ0 (st (st (st (st s 144 i 0) 144 i (b01 true)) 146 (i / 6) (nI (t_nl (fun c => bb (μ0.1 129) c || decide (c = cell)) (i / 6) i + 1))) 146 (6 + i % 6) (nI (t_nl (fun c => bb (μ0.1 129) c || decide (c = cell)) (6 + i % 6) i + 1))) :=
        fr_st' (fr_st' (fr_st' (fr_st' p1 (by unfold LB; omega)) (by unfold LB; omega)) (by unfold LB; omega)) (by unfold LB; omega)
      have htie := x9_tie (c := i) (m1 := t_nl (fun c => bb (μ0.1 129) c || decide (c = cell)) (i / 6) i) (m2 := t_nl (fun c => bb (μ0.1 129) c || decide (c = cell)) (6 + i % 6) i) (μ := st s 144 i 0) hi true
        (by rw [q_off _ _ _ (by omega)]; exact p3 _ (by omega)) (by rw [q_off _ _ _ (by omega)]; exact p3 _ (by omega))
      simp only [↓reduceIte] at htie
      have post : (bb (μ0.1 129) i || decide (i = cell)) = true → (∀ c, c < i + 1 → (st (st (st (st s 144 i 0) 144 i (b01 true)) 146 (i / 6) (nI (t_nl (fun c => bb (μ0.1 129) c || decide (c = cell)) (i / 6) i + 1))) 146 (6 + i % 6) (nI (t_nl (fun c => bb (μ0.1 129) c || decide (c = cell)) (6 + i % 6) i + 1))).1 144 c = b01 (bb (μ0.1 129) c || decide (c = cell))) ∧
          ∀ ln, ln < 12 → (st (st (st (st s 144 i 0) 144 i (b01 true)) 146 (i / 6) (nI (t_nl (fun c => bb (μ0.1 129) c || decide (c = cell)) (i / 6) i + 1))) 146 (6 + i % 6) (nI (t_nl (fun c => bb (μ0.1 129) c || decide (c = cell)) (6 + i % 6) i + 1))).1 146 ln = nI (t_nl (fun c => bb (μ0.1 129) c || decide (c = cell)) ln (i + 1)) := by
        intro hI
        refine ⟨fun c hc => ?_, fun ln hl => ?_⟩
        · simp (disch := omega) only [lt_k, bnv_s, bnd_s, grd_t, q_in, q_inb, q_c, q_leT, q_leF, q_ltT, q_ltF, q_neg, q_nn, q_z, q_le0, q_b0, q_b1, nI_add, nI_0, q_off, q_self, q_oth, cst_2, st_2, ↓reduceIte, f_X8_cellAt, f_X8_roadAt, q_le1, q_nle1, q_le2, q_nle2, q_le5, q_nle5, q_le6, q_nle6, q_le8, q_nle8, q_le12, q_nle12, q_le25, q_nle25, q_le36, q_nle36, q_le60, q_nle60, q_le99, q_nle99, q_le100, q_nle100, q_le300, q_nle300, q_le640, q_nle640, q_le411, q_nle411, q_mul2, q_lmul2, q_mul3, q_lmul3, q_mul5, q_lmul5, q_mul6, q_lmul6, q_mul10, q_lmul10, q_add1, q_ladd1, q_add2, q_ladd2, q_add3, q_ladd3, q_add5, q_ladd5, q_add6, q_ladd6, q_add100, q_ladd100, q_div2, q_rem2, q_div3, q_rem3, q_div6, q_rem6, q_div10, q_rem10, q_at]
          by_cases q : c = i
          · rw [if_pos q, q, hI]
          · rw [if_neg q]; exact p2 c (by omega)
        · simp (disch := omega) only [lt_k, bnv_s, bnd_s, grd_t, q_in, q_inb, q_c, q_leT, q_leF, q_ltT, q_ltF, q_neg, q_nn, q_z, q_le0, q_b0, q_b1, nI_add, nI_0, q_off, q_self, q_oth, cst_2, st_2, ↓reduceIte, f_X8_cellAt, f_X8_roadAt, q_le1, q_nle1, q_le2, q_nle2, q_le5, q_nle5, q_le6, q_nle6, q_le8, q_nle8, q_le12, q_nle12, q_le25, q_nle25, q_le36, q_nle36, q_le60, q_nle60, q_le99, q_nle99, q_le100, q_nle100, q_le300, q_nle300, q_le640, q_nle640, q_le411, q_nle411, q_mul2, q_lmul2, q_mul3, q_lmul3, q_mul5, q_lmul5, q_mul6, q_lmul6, q_mul10, q_lmul10, q_add1, q_ladd1, q_add2, q_ladd2, q_add3, q_ladd3, q_add5, q_ladd5, q_add6, q_ladd6, q_add100, q_ladd100, q_div2, q_rem2, q_div3, q_rem3, q_div6, q_rem6, q_div10, q_rem10, q_at]
          rw [t_nl_succ, hI, Bool.true_and]
          by_cases q : ln = 6 + i % 6
          · rw [if_pos q, if_pos (t_il_t.mpr (Or.inr q.symm)), q]
          · rw [if_neg q]
            by_cases q2 : ln = i / 6
            · rw [if_pos q2, if_pos (t_il_t.mpr (Or.inl q2.symm)), q2]
            · rw [if_neg q2, if_neg (fun r => by rcases t_il_t.mp r with e | e <;> omega)]
              exact p3 ln hl
      by_cases b1 : μ0.1 129 i = 1
      · refine ⟨_, ⟨ftie, post ?_⟩, ?_⟩
        · rw [(bb_1 hi (h01 i hi)).mp b1]; rfl
        · show g_X9_loops_23 _ _ (nI i) s = _
          unfold g_X9_loops_23
          simp (disch := omega) only [lt_k, bnv_s, bnd_s, grd_t, q_in, q_inb, q_c, q_leT, q_leF, q_ltT, q_ltF, q_neg, q_nn, q_z, q_le0, q_b0, q_b1, nI_add, nI_0, q_off, q_self, q_oth, cst_2, st_2, ↓reduceIte, f_X8_cellAt, f_X8_roadAt, q_le1, q_nle1, q_le2, q_nle2, q_le5, q_nle5, q_le6, q_nle6, q_le8, q_nle8, q_le12, q_nle12, q_le25, q_nle25, q_le36, q_nle36, q_le60, q_nle60, q_le99, q_nle99, q_le100, q_nle100, q_le300, q_nle300, q_le640, q_nle640, q_le411, q_nle411, q_mul2, q_lmul2, q_mul3, q_lmul3, q_mul5, q_lmul5, q_mul6, q_lmul6, q_mul10, q_lmul10, q_add1, q_ladd1, q_add2, q_ladd2, q_add3, q_ladd3, q_add5, q_ladd5, q_add6, q_ladd6, q_add100, q_ladd100, q_div2, q_rem2, q_div3, q_rem3, q_div6, q_rem6, q_div10, q_rem10, hB, b1, htie]
      · by_cases b2 : i = cell
        · refine ⟨_, ⟨ftie, post ?_⟩, ?_⟩
          · rw [b2, decide_eq_true rfl, Bool.or_true]
          · show g_X9_loops_23 _ _ (nI i) s = _
            unfold g_X9_loops_23
            have e : (nI i = nI cell) = True := eq_true (congrArg nI b2)
            simp (disch := omega) only [lt_k, bnv_s, bnd_s, grd_t, q_in, q_inb, q_c, q_leT, q_leF, q_ltT, q_ltF, q_neg, q_nn, q_z, q_le0, q_b0, q_b1, nI_add, nI_0, q_off, q_self, q_oth, cst_2, st_2, ↓reduceIte, f_X8_cellAt, f_X8_roadAt, q_le1, q_nle1, q_le2, q_nle2, q_le5, q_nle5, q_le6, q_nle6, q_le8, q_nle8, q_le12, q_nle12, q_le25, q_nle25, q_le36, q_nle36, q_le60, q_nle60, q_le99, q_nle99, q_le100, q_nle100, q_le300, q_nle300, q_le640, q_nle640, q_le411, q_nle411, q_mul2, q_lmul2, q_mul3, q_lmul3, q_mul5, q_lmul5, q_mul6, q_lmul6, q_mul10, q_lmul10, q_add1, q_ladd1, q_add2, q_ladd2, q_add3, q_ladd3, q_add5, q_ladd5, q_add6, q_ladd6, q_add100, q_ladd100, q_div2, q_rem2, q_div3, q_rem3, q_div6, q_rem6, q_div10, q_rem10, hB, b1, e, htie]
        · have hI : (bb (μ0.1 129) i || decide (i = cell)) = false := by
            rw [decide_eq_false b2, Bool.or_false]
            cases r : bb (μ0.1 129) i
            · rfl
            · exact absurd ((bb_1 hi (h01 i hi)).mpr r) b1
          refine ⟨st s 144 i 0, ⟨fr_st' p1 (by unfold LB; omega), fun c hc => ?_, fun ln hl => ?_⟩, ?_⟩
          · simp (disch := omega) only [lt_k, bnv_s, bnd_s, grd_t, q_in, q_inb, q_c, q_leT, q_leF, q_ltT, q_ltF, q_neg, q_nn, q_z, q_le0, q_b0, q_b1, nI_add, nI_0, q_off, q_self, q_oth, cst_2, st_2, ↓reduceIte, f_X8_cellAt, f_X8_roadAt, q_le1, q_nle1, q_le2, q_nle2, q_le5, q_nle5, q_le6, q_nle6, q_le8, q_nle8, q_le12, q_nle12, q_le25, q_nle25, q_le36, q_nle36, q_le60, q_nle60, q_le99, q_nle99, q_le100, q_nle100, q_le300, q_nle300, q_le640, q_nle640, q_le411, q_nle411, q_mul2, q_lmul2, q_mul3, q_lmul3, q_mul5, q_lmul5, q_mul6, q_lmul6, q_mul10, q_lmul10, q_add1, q_ladd1, q_add2, q_ladd2, q_add3, q_ladd3, q_add5, q_ladd5, q_add6, q_ladd6, q_add100, q_ladd100, q_div2, q_rem2, q_div3, q_rem3, q_div6, q_rem6, q_div10, q_rem10, q_at]
            by_cases q : c = i
            · rw [if_pos q, q, hI]; rfl
            · rw [if_neg q]; exact p2 c (by omega)
          · rw [q_off _ _ _ (by omega), t_nl_succ, hI, Bool.false_and, if_neg (by decide)]
            exact p3 ln hl
          · show g_X9_loops_23 _ _ (nI i) s = _
            unfold g_X9_loops_23
            simp (disch := omega) only [lt_k, bnv_s, bnd_s, grd_t, q_in, q_inb, q_c, q_leT, q_leF, q_ltT, q_ltF, q_neg, q_nn, q_z, q_le0, q_b0, q_b1, nI_add, nI_0, q_off, q_self, q_oth, cst_2, st_2, ↓reduceIte, f_X8_cellAt, f_X8_roadAt, q_le1, q_nle1, q_le2, q_nle2, q_le5, q_nle5, q_le6, q_nle6, q_le8, q_nle8, q_le12, q_nle12, q_le25, q_nle25, q_le36, q_nle36, q_le60, q_nle60, q_le99, q_nle99, q_le100, q_nle100, q_le300, q_nle300, q_le640, q_nle640, q_le411, q_nle411, q_mul2, q_lmul2, q_mul3, q_lmul3, q_mul5, q_lmul5, q_mul6, q_lmul6, q_mul10, q_lmul10, q_add1, q_ladd1, q_add2, q_ladd2, q_add3, q_ladd3, q_add5, q_ladd5, q_add6, q_ladd6, q_add100, q_ladd100, q_div2, q_rem2, q_div3, q_rem3, q_div6, q_rem6, q_div10, q_rem10, hB, b1, q_eqF]
    · rintro n s ⟨p1, p2, p3⟩
      refine ⟨s, ?_, p1, p2, p3⟩
      show g_X9_loops_23 _ _ (nI 36) s = _
      unfold g_X9_loops_23
      simp (disch := omega) only [lt_k, bnv_s, bnd_s, grd_t, q_in, q_inb, q_c, q_leT, q_leF, q_ltT, q_ltF, q_neg, q_nn, q_z, q_le0, q_b0, q_b1, nI_add, nI_0, q_off, q_self, q_oth, cst_2, st_2, ↓reduceIte, f_X8_cellAt, f_X8_roadAt, q_le1, q_nle1, q_le2, q_nle2, q_le5, q_nle5, q_le6, q_nle6, q_le8, q_nle8, q_le12, q_nle12, q_le25, q_nle25, q_le36, q_nle36, q_le60, q_nle60, q_le99, q_nle99, q_le100, q_nle100, q_le300, q_nle300, q_le640, q_nle640, q_le411, q_nle411, q_mul2, q_lmul2, q_mul3, q_lmul3, q_mul5, q_lmul5, q_mul6, q_lmul6, q_mul10, q_lmul10, q_add1, q_ladd1, q_add2, q_ladd2, q_add3, q_ladd3, q_add5, q_ladd5, q_add6, q_ladd6, q_add100, q_ladd100, q_div2, q_rem2, q_div3, q_rem3, q_div6, q_rem6, q_div10, q_rem10, lt_k]
/-- one pass of peeling -/
def LPq (cell L : Nat) (v : Nat → Nat) (μ0 μ : Mem) (I : Nat → Bool) : Prop := LW μ I ∧ fr LB μ0 μ ∧ (∀ c, c < 36 → I c = true → bb (μ0.1 129) c = true ∨ c = cell) ∧ ∀ k, k < L → I (t_P cell v k) = true
theorem t_P_mate {S T : Nat} {B : Nat → Bool} (h : t_tree S T B) {cell L : Nat} {v : Nat → Nat} (hw : t_way S T B cell L v) (hc : cell < 36) (hb : B cell = false) {k : Nat} (hk : k < L) :
    (∃ j, j < L ∧ t_P cell v j ≠ t_P cell v k ∧ t_P cell v j / 6 = t_P cell v k / 6) ∧ (∃ j, j < L ∧ t_P cell v j ≠ t_P cell v k ∧ t_P cell v j % 6 = t_P cell v k % 6) := by
  have hL := hw.2.2.1
  have hL2 := hw.1
  have ne : ∀ {i j}, i < L → j < L → i ≠ j → t_P cell v i ≠ t_P cell v j := fun hi hj hn e => hn (t_P_inj h hw hb hi hj e)
  rcases Nat.mod_two_eq_zero_or_one k with e | e
  · constructor
    · by_cases k0 : k = 0
      · have a := (t_P_next h hw (k := L - 1) (by omega)).2.2 (by omega)
        exact ⟨L - 1, by omega, ne (by omega) hk (by omega), by rw [← a, k0]; rfl⟩
      · have a := (t_P_next h hw (k := k - 1) (by omega)).2.1 (by omega) (by omega)
        rw [show k - 1 + 1 = k by omega] at a
        exact ⟨k - 1, by omega, ne (by omega) hk (by omega), a.symm⟩
    · exact ⟨k + 1, by omega, ne (by omega) hk (by omega), (t_P_next h hw hk).1 e⟩
  · constructor
    · by_cases kL : k + 1 = L
      · exact ⟨0, by omega, ne (by omega) hk (by omega), (t_P_next h hw hk).2.2 kL⟩
      · exact ⟨k + 1, by omega, ne (by omega) hk (by omega), (t_P_next h hw hk).2.1 e (by omega)⟩
    · have a := (t_P_next h hw (k := k - 1) (by omega)).1 (by omega)
      rw [show k - 1 + 1 = k by omega] at a
      exact ⟨k - 1, by omega, ne (by omega) hk (by omega), a.symm⟩
theorem x9_peel1 {S T cell L : Nat} {v : Nat → Nat} {μ0 μ : Mem} {I : Nat → Bool} (q65 : Int32 → Mem → Option Mem) (ht : t_tree S T (bb (μ0.1 129))) (hcl : cell < 36) (hb : bb (μ0.1 129) cell = false) (hw : t_way S T (bb (μ0.1 129)) cell L v) (hp : LPq cell L v μ0 μ I) :
    ∃ x μ' I', f_X9_loops_73 (nI cell) q65 FU 0 0 μ = q65 x μ' ∧ LPq cell L v μ0 μ' I' ∧ ((x = 0 ∧ I' = I ∧ ∀ c, c < 36 → I' c = true → t_nl I' (c / 6) 36 ≠ 1 ∧ t_nl I' (6 + c % 6) 36 ≠ 1) ∨ (x = 1 ∧ t_ctr I' 36 < t_ctr I 36)) := by
  refine q_loop0 (fun n i (s : Int32 × Mem) => f_X9_loops_73 (nI cell) q65 n s.1 (nI i) s.2) 36 (by omega)
    (fun i s => ∃ I', LPq cell L v μ0 s.2 I' ∧ ((s.1 = 0 ∧ I' = I ∧ ∀ c, c < i → I' c = true → t_nl I' (c / 6) 36 ≠ 1 ∧ t_nl I' (6 + c % 6) 36 ≠ 1) ∨ (s.1 = 1 ∧ t_ctr I' 36 < t_ctr I 36)))
    (fun z => ∃ x μ' I', z = q65 x μ' ∧ LPq cell L v μ0 μ' I' ∧ ((x = 0 ∧ I' = I ∧ ∀ c, c < 36 → I' c = true → t_nl I' (c / 6) 36 ≠ 1 ∧ t_nl I' (6 + c % 6) 36 ≠ 1) ∨ (x = 1 ∧ t_ctr I' 36 < t_ctr I 36))) ?_ ?_ (0, μ) ⟨I, hp, Or.inl ⟨rfl, rfl, fun c h => by omega⟩⟩
  · rintro n i ⟨x, m⟩ hi ⟨I1, ⟨p1, p2, p3, p4⟩, p5⟩
    right
    change LW m I1 at p1
    change fr LB μ0 m at p2
    obtain ⟨w1, w2⟩ := p1
    have a0 := w1 i hi
    have a1 := w2 (i / 6) (by omega)
    have a2 := w2 (6 + i % 6) (by omega)
    have b1 := t_ctr_le (fun c => I1 c && t_il (i / 6) c) 36
    have b2 := t_ctr_le (fun c => I1 c && t_il (6 + i % 6) c) 36
    change t_nl I1 (i / 6) 36 ≤ 36 at b1
    change t_nl I1 (6 + i % 6) 36 ≤ 36 at b2
    have same : (I1 i = true → t_nl I1 (i / 6) 36 ≠ 1 ∧ t_nl I1 (6 + i % 6) 36 ≠ 1) → ∃ I', LPq cell L v μ0 m I' ∧ ((x = 0 ∧ I' = I ∧ ∀ c, c < i + 1 → I' c = true → t_nl I' (c / 6) 36 ≠ 1 ∧ t_nl I' (6 + c % 6) 36 ≠ 1) ∨ (x = 1 ∧ t_ctr I' 36 < t_ctr I 36)) := by
      intro hs
      refine ⟨I1, ⟨⟨w1, w2⟩, p2, p3, p4⟩, ?_⟩
      rcases p5 with ⟨e1, e2, e3⟩ | e
      · refine Or.inl ⟨e1, e2, fun c hc hI => ?_⟩
        by_cases q : c = i
        · rw [q] at hI; rw [q]; exact hs hI
        · exact e3 c (by omega) hI
      · exact Or.inr e
    have one1 : ∀ y : Nat, (nI y = 1) ↔ nI y = nI 1 := fun y => Iff.rfl
    cases hI : I1 i
    · rw [hI] at a0
      refine ⟨(x, m), same (fun h => by rw [hI] at h; cases h), ?_⟩
      show g_X9_loops_73 _ q65 _ x (nI i) m = _
      unfold g_X9_loops_73
      simp (disch := omega) only [lt_k, bnv_s, bnd_s, grd_t, q_in, q_inb, q_c, q_leT, q_leF, q_ltT, q_ltF, q_neg, q_nn, q_z, q_le0, q_b0, q_b1, nI_add, nI_0, q_off, q_self, q_oth, cst_2, st_2, ↓reduceIte, f_X8_cellAt, f_X8_roadAt, q_le1, q_nle1, q_le2, q_nle2, q_le5, q_nle5, q_le6, q_nle6, q_le8, q_nle8, q_le12, q_nle12, q_le25, q_nle25, q_le36, q_nle36, q_le60, q_nle60, q_le99, q_nle99, q_le100, q_nle100, q_le300, q_nle300, q_le640, q_nle640, q_le411, q_nle411, q_mul2, q_lmul2, q_mul3, q_lmul3, q_mul5, q_lmul5, q_mul6, q_lmul6, q_mul10, q_lmul10, q_add1, q_ladd1, q_add2, q_ladd2, q_add3, q_ladd3, q_add5, q_ladd5, q_add6, q_ladd6, q_add100, q_ladd100, q_div2, q_rem2, q_div3, q_rem3, q_div6, q_rem6, q_div10, q_rem10, a0, b01_f]
    · rw [hI] at a0
      by_cases h2 : t_nl I1 (i / 6) 36 ≠ 1 ∧ t_nl I1 (6 + i % 6) 36 ≠ 1
      · refine ⟨(x, m), same (fun _ => h2), ?_⟩
        show g_X9_loops_73 _ q65 _ x (nI i) m = _
        unfold g_X9_loops_73
        obtain ⟨h2, h3⟩ := h2
        simp (disch := omega) only [lt_k, bnv_s, bnd_s, grd_t, q_in, q_inb, q_c, q_leT, q_leF, q_ltT, q_ltF, q_neg, q_nn, q_z, q_le0, q_b0, q_b1, nI_add, nI_0, q_off, q_self, q_oth, cst_2, st_2, ↓reduceIte, f_X8_cellAt, f_X8_roadAt, q_le1, q_nle1, q_le2, q_nle2, q_le5, q_nle5, q_le6, q_nle6, q_le8, q_nle8, q_le12, q_nle12, q_le25, q_nle25, q_le36, q_nle36, q_le60, q_nle60, q_le99, q_nle99, q_le100, q_nle100, q_le300, q_nle300, q_le640, q_nle640, q_le411, q_nle411, q_mul2, q_lmul2, q_mul3, q_lmul3, q_mul5, q_lmul5, q_mul6, q_lmul6, q_mul10, q_lmul10, q_add1, q_ladd1, q_add2, q_ladd2, q_add3, q_ladd3, q_add5, q_ladd5, q_add6, q_ladd6, q_add100, q_ladd100, q_div2, q_rem2, q_div3, q_rem3, q_div6, q_rem6, q_div10, q_rem10, a0, b01_t, q_10, a1, a2, one1, q_eqF]
      · -- it goes
        have t1 := t_nl_put (ln := i / 6) hi hI
        have t2 := t_nl_put (ln := 6 + i % 6) hi hI
        rw [if_pos (t_il_t.mpr (Or.inl rfl))] at t1
        rw [if_pos (t_il_t.mpr (Or.inr rfl))] at t2
        have htie := x9_tie (c := i) (m1 := t_nl (t_put I1 i false) (i / 6) 36) (m2 := t_nl (t_put I1 i false) (6 + i % 6) 36) (μ := m) hi false (by rw [a1, ← t1]; rfl) (by rw [a2, ← t2]; rfl)
        simp only [Bool.false_eq_true, ↓reduceIte] at htie
        refine ⟨(1, st (st (st m 144 i (b01 false)) 146 (i / 6) (nI (t_nl (t_put I1 i false) (i / 6) 36))) 146 (6 + i % 6) (nI (t_nl (t_put I1 i false) (6 + i % 6) 36))), ⟨t_put I1 i false, ⟨⟨fun c hc => ?_, fun ln hl => ?_⟩, fr_st' (fr_st' (fr_st' p2 (by unfold LB; omega)) (by unfold LB; omega)) (by unfold LB; omega), fun c hc hx => ?_, fun k hk => ?_⟩, Or.inr ⟨rfl, ?_⟩⟩, ?_⟩
        rotate_right
        · show g_X9_loops_73 _ q65 _ x (nI i) m = f_X9_loops_73 _ q65 n 1 (nI (i + 1)) (st (st (st m 144 i (b01 false)) 146 (i / 6) (nI (t_nl (t_put I1 i false) (i / 6) 36))) 146 (6 + i % 6) (nI (t_nl (t_put I1 i false) (6 + i % 6) 36)))
          unfold g_X9_loops_73 f_X9_loops_117
          by_cases h3 : t_nl I1 (i / 6) 36 = 1
          · rw [h3] at a1
            simp (disch := omega) only [lt_k, bnv_s, bnd_s, grd_t, q_in, q_inb, q_c, q_leT, q_leF, q_ltT, q_ltF, q_neg, q_nn, q_z, q_le0, q_b0, q_b1, nI_add, nI_0, q_off, q_self, q_oth, cst_2, st_2, ↓reduceIte, f_X8_cellAt, f_X8_roadAt, q_le1, q_nle1, q_le2, q_nle2, q_le5, q_nle5, q_le6, q_nle6, q_le8, q_nle8, q_le12, q_nle12, q_le25, q_nle25, q_le36, q_nle36, q_le60, q_nle60, q_le99, q_nle99, q_le100, q_nle100, q_le300, q_nle300, q_le640, q_nle640, q_le411, q_nle411, q_mul2, q_lmul2, q_mul3, q_lmul3, q_mul5, q_lmul5, q_mul6, q_lmul6, q_mul10, q_lmul10, q_add1, q_ladd1, q_add2, q_ladd2, q_add3, q_ladd3, q_add5, q_ladd5, q_add6, q_ladd6, q_add100, q_ladd100, q_div2, q_rem2, q_div3, q_rem3, q_div6, q_rem6, q_div10, q_rem10, a0, b01_t, q_10, a1, show nI 1 = 1 from rfl, htie]
          · have h4 : t_nl I1 (6 + i % 6) 36 = 1 := Classical.byContradiction (fun e => h2 ⟨h3, e⟩)
            rw [h4] at a2
            simp (disch := omega) only [lt_k, bnv_s, bnd_s, grd_t, q_in, q_inb, q_c, q_leT, q_leF, q_ltT, q_ltF, q_neg, q_nn, q_z, q_le0, q_b0, q_b1, nI_add, nI_0, q_off, q_self, q_oth, cst_2, st_2, ↓reduceIte, f_X8_cellAt, f_X8_roadAt, q_le1, q_nle1, q_le2, q_nle2, q_le5, q_nle5, q_le6, q_nle6, q_le8, q_nle8, q_le12, q_nle12, q_le25, q_nle25, q_le36, q_nle36, q_le60, q_nle60, q_le99, q_nle99, q_le100, q_nle100, q_le300, q_nle300, q_le640, q_nle640, q_le411, q_nle411, q_mul2, q_lmul2, q_mul3, q_lmul3, q_mul5, q_lmul5, q_mul6, q_lmul6, q_mul10, q_lmul10, q_add1, q_ladd1, q_add2, q_ladd2, q_add3, q_ladd3, q_add5, q_ladd5, q_add6, q_ladd6, q_add100, q_ladd100, q_div2, q_rem2, q_div3, q_rem3, q_div6, q_rem6, q_div10, q_rem10, a0, b01_t, q_10, a1, a2, one1, q_eqF, htie]
        · simp (disch := omega) only [lt_k, bnv_s, bnd_s, grd_t, q_in, q_inb, q_c, q_leT, q_leF, q_ltT, q_ltF, q_neg, q_nn, q_z, q_le0, q_b0, q_b1, nI_add, nI_0, q_off, q_self, q_oth, cst_2, st_2, ↓reduceIte, f_X8_cellAt, f_X8_roadAt, q_le1, q_nle1, q_le2, q_nle2, q_le5, q_nle5, q_le6, q_nle6, q_le8, q_nle8, q_le12, q_nle12, q_le25, q_nle25, q_le36, q_nle36, q_le60, q_nle60, q_le99, q_nle99, q_le100, q_nle100, q_le300, q_nle300, q_le640, q_nle640, q_le411, q_nle411, q_mul2, q_lmul2, q_mul3, q_lmul3, q_mul5, q_lmul5, q_mul6, q_lmul6, q_mul10, q_lmul10, q_add1, q_ladd1, q_add2, q_ladd2, q_add3, q_ladd3, q_add5, q_ladd5, q_add6, q_ladd6, q_add100, q_ladd100, q_div2, q_rem2, q_div3, q_rem3, q_div6, q_rem6, q_div10, q_rem10, q_at]
          unfold t_put
          by_cases q : c = i
          · rw [if_pos q, if_pos q]
          · rw [if_neg q, if_neg q]; exact w1 c hc
        · simp (disch := omega) only [lt_k, bnv_s, bnd_s, grd_t, q_in, q_inb, q_c, q_leT, q_leF, q_ltT, q_ltF, q_neg, q_nn, q_z, q_le0, q_b0, q_b1, nI_add, nI_0, q_off, q_self, q_oth, cst_2, st_2, ↓reduceIte, f_X8_cellAt, f_X8_roadAt, q_le1, q_nle1, q_le2, q_nle2, q_le5, q_nle5, q_le6, q_nle6, q_le8, q_nle8, q_le12, q_nle12, q_le25, q_nle25, q_le36, q_nle36, q_le60, q_nle60, q_le99, q_nle99, q_le100, q_nle100, q_le300, q_nle300, q_le640, q_nle640, q_le411, q_nle411, q_mul2, q_lmul2, q_mul3, q_lmul3, q_mul5, q_lmul5, q_mul6, q_lmul6, q_mul10, q_lmul10, q_add1, q_ladd1, q_add2, q_ladd2, q_add3, q_ladd3, q_add5, q_ladd5, q_add6, q_ladd6, q_add100, q_ladd100, q_div2, q_rem2, q_div3, q_rem3, q_div6, q_rem6, q_div10, q_rem10, q_at]
          have t3 := t_nl_put (ln := ln) hi hI
          by_cases q : ln = 6 + i % 6
          · rw [if_pos q, q]
          · rw [if_neg q]
            by_cases q2 : ln = i / 6
            · rw [if_pos q2, q2]
            · rw [if_neg (fun r => by rcases t_il_t.mp r with e | e <;> omega), Nat.add_zero] at t3
              rw [if_neg q2, t3]
              exact w2 ln hl
        · unfold t_put at hx
          by_cases q : c = i
          · rw [if_pos q] at hx; cases hx
          · rw [if_neg q] at hx; exact p3 c hc hx
        · unfold t_put
          by_cases q : t_P cell v k = i
          · exfalso
            obtain ⟨⟨j1, j2, j3, j4⟩, ⟨k1, k2, k3, k4⟩⟩ := t_P_mate ht hw hcl hb hk
            rw [q] at j3 j4 k3 k4
            have c1 := t_nl_two (ln := i / 6) hi (t_P_lt ht hw hcl j2) j3 hI (p4 _ j2) (t_il_t.mpr (Or.inl rfl)) (t_il_t.mpr (Or.inl j4))
            have c2 := t_nl_two (ln := 6 + i % 6) hi (t_P_lt ht hw hcl k2) k3 hI (p4 _ k2) (t_il_t.mpr (Or.inr rfl)) (t_il_t.mpr (Or.inr (by rw [k4])))
            exact h2 ⟨by omega, by omega⟩
          · rw [if_neg q]; exact p4 k hk
        · have := t_ctr_put hI 36
          rw [if_pos hi] at this
          rcases p5 with ⟨-, r, -⟩ | ⟨-, r⟩
          · rw [← r]; omega
          · omega
  · rintro n ⟨x, m⟩ ⟨I1, p, p5⟩
    refine ⟨x, m, I1, ?_, p, p5⟩
    show g_X9_loops_73 _ q65 _ x (nI 36) m = _
    unfold g_X9_loops_73
    simp (disch := omega) only [lt_k, bnv_s, bnd_s, grd_t, q_in, q_inb, q_c, q_leT, q_leF, q_ltT, q_ltF, q_neg, q_nn, q_z, q_le0, q_b0, q_b1, nI_add, nI_0, q_off, q_self, q_oth, cst_2, st_2, ↓reduceIte, f_X8_cellAt, f_X8_roadAt, q_le1, q_nle1, q_le2, q_nle2, q_le5, q_nle5, q_le6, q_nle6, q_le8, q_nle8, q_le12, q_nle12, q_le25, q_nle25, q_le36, q_nle36, q_le60, q_nle60, q_le99, q_nle99, q_le100, q_nle100, q_le300, q_nle300, q_le640, q_nle640, q_le411, q_nle411, q_mul2, q_lmul2, q_mul3, q_lmul3, q_mul5, q_lmul5, q_mul6, q_lmul6, q_mul10, q_lmul10, q_add1, q_ladd1, q_add2, q_ladd2, q_add3, q_ladd3, q_add5, q_ladd5, q_add6, q_ladd6, q_add100, q_ladd100, q_div2, q_rem2, q_div3, q_rem3, q_div6, q_rem6, q_div10, q_rem10, lt_k]

/-- the walk -/
theorem x9_otherIn {ln c d0 : Nat} {μ : Mem} {I : Nat → Bool} (hw : LW μ I) (hc : c < 36) (hl : ln < 12) (hd : d0 < 36) (hn : d0 ≠ c) (hI : I d0 = true) (hil : t_il ln d0 = true) (hu : ∀ d, d < 36 → d ≠ c → I d = true → t_il ln d = true → d = d0) :
    f_X9_otherIn (nI ln) (nI c) μ = some (nI d0) := by
  refine q_loop0 (fun n i (_ : Unit) => f_X9_otherIn_2 (nI ln) (nI c) μ n (nI i)) d0 (by omega) (fun _ _ => True) (fun z => z = some (nI d0)) (fun n i _ hi _ => Or.inr ⟨(), trivial, ?_⟩) (fun n _ _ => ?_) () trivial
  · show g_X9_otherIn_2 _ _ μ _ (nI i) = _
    unfold g_X9_otherIn_2
    by_cases q : i = c
    · simp (disch := omega) only [lt_k, bnv_s, bnd_s, grd_t, q_in, q_inb, q_c, q_leT, q_leF, q_ltT, q_ltF, q_neg, q_nn, q_z, q_le0, q_b0, q_b1, nI_add, nI_0, q_off, q_self, q_oth, cst_2, st_2, ↓reduceIte, f_X8_cellAt, f_X8_roadAt, q_le1, q_nle1, q_le2, q_nle2, q_le5, q_nle5, q_le6, q_nle6, q_le8, q_nle8, q_le12, q_nle12, q_le25, q_nle25, q_le36, q_nle36, q_le60, q_nle60, q_le99, q_nle99, q_le100, q_nle100, q_le300, q_nle300, q_le640, q_nle640, q_le411, q_nle411, q_mul2, q_lmul2, q_mul3, q_lmul3, q_mul5, q_lmul5, q_mul6, q_lmul6, q_mul10, q_lmul10, q_add1, q_ladd1, q_add2, q_ladd2, q_add3, q_ladd3, q_add5, q_ladd5, q_add6, q_ladd6, q_add100, q_ladd100, q_div2, q_rem2, q_div3, q_rem3, q_div6, q_rem6, q_div10, q_rem10, q]
    · have a := hw.1 i (by omega)
      cases r : I i
      · rw [r] at a
        simp (disch := omega) only [lt_k, bnv_s, bnd_s, grd_t, q_in, q_inb, q_c, q_leT, q_leF, q_ltT, q_ltF, q_neg, q_nn, q_z, q_le0, q_b0, q_b1, nI_add, nI_0, q_off, q_self, q_oth, cst_2, st_2, ↓reduceIte, f_X8_cellAt, f_X8_roadAt, q_le1, q_nle1, q_le2, q_nle2, q_le5, q_nle5, q_le6, q_nle6, q_le8, q_nle8, q_le12, q_nle12, q_le25, q_nle25, q_le36, q_nle36, q_le60, q_nle60, q_le99, q_nle99, q_le100, q_nle100, q_le300, q_nle300, q_le640, q_nle640, q_le411, q_nle411, q_mul2, q_lmul2, q_mul3, q_lmul3, q_mul5, q_lmul5, q_mul6, q_lmul6, q_mul10, q_lmul10, q_add1, q_ladd1, q_add2, q_ladd2, q_add3, q_ladd3, q_add5, q_ladd5, q_add6, q_ladd6, q_add100, q_ladd100, q_div2, q_rem2, q_div3, q_rem3, q_div6, q_rem6, q_div10, q_rem10, q_eqF, a, b01_f]
      · rw [r] at a
        have : ¬ t_il ln i = true := fun e => by have := hu i (by omega) q r e; omega
        have n1 : i / 6 ≠ ln := fun e => this (t_il_t.mpr (Or.inl e))
        have n2 : 6 + i % 6 ≠ ln := fun e => this (t_il_t.mpr (Or.inr e))
        simp (disch := omega) only [lt_k, bnv_s, bnd_s, grd_t, q_in, q_inb, q_c, q_leT, q_leF, q_ltT, q_ltF, q_neg, q_nn, q_z, q_le0, q_b0, q_b1, nI_add, nI_0, q_off, q_self, q_oth, cst_2, st_2, ↓reduceIte, f_X8_cellAt, f_X8_roadAt, q_le1, q_nle1, q_le2, q_nle2, q_le5, q_nle5, q_le6, q_nle6, q_le8, q_nle8, q_le12, q_nle12, q_le25, q_nle25, q_le36, q_nle36, q_le60, q_nle60, q_le99, q_nle99, q_le100, q_nle100, q_le300, q_nle300, q_le640, q_nle640, q_le411, q_nle411, q_mul2, q_lmul2, q_mul3, q_lmul3, q_mul5, q_lmul5, q_mul6, q_lmul6, q_mul10, q_lmul10, q_add1, q_ladd1, q_add2, q_ladd2, q_add3, q_ladd3, q_add5, q_ladd5, q_add6, q_ladd6, q_add100, q_ladd100, q_div2, q_rem2, q_div3, q_rem3, q_div6, q_rem6, q_div10, q_rem10, q_eqF, a, b01_t, q_10]
  · show g_X9_otherIn_2 _ _ μ _ (nI d0) = _
    unfold g_X9_otherIn_2
    have a := hw.1 d0 hd
    rw [hI] at a
    rcases t_il_t.mp hil with e | e
    · simp (disch := omega) only [lt_k, bnv_s, bnd_s, grd_t, q_in, q_inb, q_c, q_leT, q_leF, q_ltT, q_ltF, q_neg, q_nn, q_z, q_le0, q_b0, q_b1, nI_add, nI_0, q_off, q_self, q_oth, cst_2, st_2, ↓reduceIte, f_X8_cellAt, f_X8_roadAt, q_le1, q_nle1, q_le2, q_nle2, q_le5, q_nle5, q_le6, q_nle6, q_le8, q_nle8, q_le12, q_nle12, q_le25, q_nle25, q_le36, q_nle36, q_le60, q_nle60, q_le99, q_nle99, q_le100, q_nle100, q_le300, q_nle300, q_le640, q_nle640, q_le411, q_nle411, q_mul2, q_lmul2, q_mul3, q_lmul3, q_mul5, q_lmul5, q_mul6, q_lmul6, q_mul10, q_lmul10, q_add1, q_ladd1, q_add2, q_ladd2, q_add3, q_ladd3, q_add5, q_ladd5, q_add6, q_ladd6, q_add100, q_ladd100, q_div2, q_rem2, q_div3, q_rem3, q_div6, q_rem6, q_div10, q_rem10, q_eqF, a, b01_t, q_10, e]
    · have n1 : d0 / 6 ≠ ln := by omega
      simp (disch := omega) only [lt_k, bnv_s, bnd_s, grd_t, q_in, q_inb, q_c, q_leT, q_leF, q_ltT, q_ltF, q_neg, q_nn, q_z, q_le0, q_b0, q_b1, nI_add, nI_0, q_off, q_self, q_oth, cst_2, st_2, ↓reduceIte, f_X8_cellAt, f_X8_roadAt, q_le1, q_nle1, q_le2, q_nle2, q_le5, q_nle5, q_le6, q_nle6, q_le8, q_nle8, q_le12, q_nle12, q_le25, q_nle25, q_le36, q_nle36, q_le60, q_nle60, q_le99, q_nle99, q_le100, q_nle100, q_le300, q_nle300, q_le640, q_nle640, q_le411, q_nle411, q_mul2, q_lmul2, q_mul3, q_lmul3, q_mul5, q_lmul5, q_mul6, q_lmul6, q_mul10, q_lmul10, q_add1, q_ladd1, q_add2, q_ladd2, q_add3, q_ladd3, q_add5, q_ladd5, q_add6, q_ladd6, q_add100, q_ladd100, q_div2, q_rem2, q_div3, q_rem3, q_div6, q_rem6, q_div10, q_rem10, q_eqF, a, b01_t, q_10, e]
theorem x9_loops {S T cell : Nat} {μ : Mem} (ht : t_tree S T (bb (μ.1 129))) (h01 : ∀ c, c < 36 → μ.1 129 c = 0 ∨ μ.1 129 c = 1) (hcl : cell < 36) (hS : cell / 6 < S) (hT : cell % 6 < T) (hb : bb (μ.1 129) cell = false) :
    ∃ μ' L v, f_X9_loops (nI cell) μ = some μ' ∧ fr LA μ μ' ∧ t_way S T (bb (μ.1 129)) cell L v ∧ μ'.1 122 41 = nI L ∧ (∀ j, j < L → μ'.1 145 j = nI (t_P cell v j)) ∧ μ'.1 122 42 = t_tn (μ.1 128) (t_P cell v) L := by
  obtain ⟨nx, rk, L, hp, hw⟩ := t_way_ex ht hS hT
  obtain ⟨μ1, e1, f1, w1⟩ := x9_fill (cell := cell) h01 hcl
  rw [e1]
  -- the walk, when only the loop is left
  have walk : ∀ m I, LPq cell L (t_pn nx (6 + cell % 6)) μ m I → (∀ c, c < 36 → I c = true → ∃ k, k < L ∧ c = t_P cell (t_pn nx (6 + cell % 6)) k) →
      ∃ μ' L v, f_X9_loops_148 (nI cell) FU (nI cell) (st (st m 122 41 0) 122 42 2147483647) = some μ' ∧ fr LA μ μ' ∧ t_way S T (bb (μ.1 129)) cell L v ∧ μ'.1 122 41 = nI L ∧ (∀ j, j < L → μ'.1 145 j = nI (t_P cell v j)) ∧ μ'.1 122 42 = t_tn (μ.1 128) (t_P cell v) L := by
    intro m I hL hon
    obtain ⟨l1, l2, l3, -⟩ := id hw
    refine q_loop (fun n r (s : Int32 × Mem) => f_X9_loops_148 (nI cell) n s.1 s.2) L
      (fun r s => (s.1 = nI (t_P cell (t_pn nx (6 + cell % 6)) (if r = L then 0 else r))) ∧ fr LA μ s.2 ∧ LW s.2 I ∧ s.2.1 122 41 = nI r ∧ (∀ j, j < r → s.2.1 145 j = nI (t_P cell (t_pn nx (6 + cell % 6)) j)) ∧ s.2.1 122 42 = t_tnf (fun m => μ.1 128 (t_P cell (t_pn nx (6 + cell % 6)) (2 * m + 1))) (r / 2))
      (fun z => ∃ μ' L v, z = some μ' ∧ fr LA μ μ' ∧ t_way S T (bb (μ.1 129)) cell L v ∧ μ'.1 122 41 = nI L ∧ (∀ j, j < L → μ'.1 145 j = nI (t_P cell v j)) ∧ μ'.1 122 42 = t_tn (μ.1 128) (t_P cell v) L) ?_ ?_ L 0 FU (nI cell, st (st m 122 41 0) 122 42 2147483647) (by omega) (by unfold FU; omega) ⟨?_, ?_, ?_, ?_, ?_, ?_⟩
    · rintro n r ⟨x, s⟩ hr ⟨p1, p2, p3, p4, p5, p6⟩
      right
      change x = _ at p1
      change fr LA μ s at p2
      change LW s I at p3
      change s.1 122 41 = nI r at p4
      change s.1 122 42 = _ at p6
      rw [if_neg (by omega)] at p1
      have hc := t_P_lt ht hw hcl hr
      -- the next one
      have nxt : ∀ ln, ln < 12 → (ln = if r % 2 = 0 then 6 + t_P cell (t_pn nx (6 + cell % 6)) r % 6 else t_P cell (t_pn nx (6 + cell % 6)) r / 6) → ∀ s', LW s' I →
          f_X9_otherIn (nI ln) (nI (t_P cell (t_pn nx (6 + cell % 6)) r)) s' = some (nI (t_P cell (t_pn nx (6 + cell % 6)) (if r + 1 = L then 0 else r + 1))) := by
        intro ln hln hle s' hs'
        have hnr : (if r + 1 = L then 0 else r + 1) < L := by split <;> omega
        have hne : (if r + 1 = L then 0 else r + 1) ≠ r := by split <;> omega
        refine x9_otherIn hs' hc hln (t_P_lt ht hw hcl hnr) (fun e => hne (t_P_inj ht hw hb hnr hr e)) (hL.2.2.2 _ hnr) ?_ (fun d hd hdn hdI hdl => ?_)
        · apply t_il_t.mpr
          by_cases r2 : r % 2 = 0
          · rw [if_pos r2] at hle
            right
            rw [if_neg (by omega), (t_P_next ht hw hr).1 r2, hle]
          · rw [if_neg r2] at hle
            left
            by_cases q : r + 1 = L
            · rw [if_pos q, hle]; exact (t_P_next ht hw hr).2.2 q
            · rw [if_neg q, hle]; exact (t_P_next ht hw hr).2.1 (by omega) (by omega)
        · obtain ⟨k, hk, e⟩ := hon d hd hdI
          rw [e] at hdl hdn ⊢
          have hkr : k ≠ r := fun q => hdn (by rw [q])
          have hkc := t_P_lt ht hw hcl hk
          rcases t_il_t.mp hdl with e2 | e2
          · have r2 : ¬ r % 2 = 0 := fun q => by rw [if_pos q] at hle; omega
            rw [if_neg r2] at hle
            rcases t_P_row ht hw hcl hr hk (by omega) (e2.trans hle) with q | q | ⟨q, q2⟩
            · exact absurd q hkr
            · rw [if_neg (by omega), q]
            · rw [if_pos q2, q]
          · have r2 : r % 2 = 0 := by
              by_cases q : r % 2 = 0
              · exact q
              · rw [if_neg q] at hle; omega
            rw [if_pos r2] at hle
            rcases t_P_col ht hw hcl hr hk r2 (by omega) with q | q
            · exact absurd q hkr
            · rw [if_neg (by omega), q]
      have h148 : g_X9_loops_148 (nI cell) (f_X9_loops_148 (nI cell) n) x s = f_X9_loops_160 (nI cell) (f_X9_loops_148 (nI cell) n) x s := by
        unfold g_X9_loops_148
        by_cases r0 : r = 0
        · rw [if_pos (by rw [p4, r0]; rfl)]
        · rw [if_neg (by rw [p4]; exact nI_ne0 (by omega) (by omega)), if_neg]
          rw [p1, nI_eq (by omega) (by omega)]
          intro e
          have := t_P_inj ht hw hb hr (by omega : 0 < L) (by rw [e]; rfl)
          omega
      have hload : s.1 128 = μ.1 128 := fr_c p2 (fun j h => by unfold LA at h; omega)
      -- behind it
      refine ⟨(nI (t_P cell (t_pn nx (6 + cell % 6)) (if r + 1 = L then 0 else r + 1)), st (st (st s 145 r (nI (t_P cell (t_pn nx (6 + cell % 6)) r))) 122 42 (t_tnf (fun m => μ.1 128 (t_P cell (t_pn nx (6 + cell % 6)) (2 * m + 1))) ((r + 1) / 2))) 122 41 (nI (r + 1))), ⟨rfl, ?_, ?_, ?_, ?_, ?_⟩, ?_⟩
      · exact fr_st' (fr_st' (fr_st' p2 (by unfold LA; omega)) (by unfold LA; omega)) (by unfold LA; omega)
      · refine ⟨fun c hc => ?_, fun ln hl => ?_⟩
        · simp (disch := omega) only [lt_k, bnv_s, bnd_s, grd_t, q_in, q_inb, q_c, q_leT, q_leF, q_ltT, q_ltF, q_neg, q_nn, q_z, q_le0, q_b0, q_b1, nI_add, nI_0, q_off, q_self, q_oth, cst_2, st_2, ↓reduceIte, f_X8_cellAt, f_X8_roadAt, q_le1, q_nle1, q_le2, q_nle2, q_le5, q_nle5, q_le6, q_nle6, q_le8, q_nle8, q_le12, q_nle12, q_le25, q_nle25, q_le36, q_nle36, q_le60, q_nle60, q_le99, q_nle99, q_le100, q_nle100, q_le300, q_nle300, q_le640, q_nle640, q_le411, q_nle411, q_mul2, q_lmul2, q_mul3, q_lmul3, q_mul5, q_lmul5, q_mul6, q_lmul6, q_mul10, q_lmul10, q_add1, q_ladd1, q_add2, q_ladd2, q_add3, q_ladd3, q_add5, q_ladd5, q_add6, q_ladd6, q_add100, q_ladd100, q_div2, q_rem2, q_div3, q_rem3, q_div6, q_rem6, q_div10, q_rem10, lt_k]; exact p3.1 c hc
        · simp (disch := omega) only [lt_k, bnv_s, bnd_s, grd_t, q_in, q_inb, q_c, q_leT, q_leF, q_ltT, q_ltF, q_neg, q_nn, q_z, q_le0, q_b0, q_b1, nI_add, nI_0, q_off, q_self, q_oth, cst_2, st_2, ↓reduceIte, f_X8_cellAt, f_X8_roadAt, q_le1, q_nle1, q_le2, q_nle2, q_le5, q_nle5, q_le6, q_nle6, q_le8, q_nle8, q_le12, q_nle12, q_le25, q_nle25, q_le36, q_nle36, q_le60, q_nle60, q_le99, q_nle99, q_le100, q_nle100, q_le300, q_nle300, q_le640, q_nle640, q_le411, q_nle411, q_mul2, q_lmul2, q_mul3, q_lmul3, q_mul5, q_lmul5, q_mul6, q_lmul6, q_mul10, q_lmul10, q_add1, q_ladd1, q_add2, q_ladd2, q_add3, q_ladd3, q_add5, q_ladd5, q_add6, q_ladd6, q_add100, q_ladd100, q_div2, q_rem2, q_div3, q_rem3, q_div6, q_rem6, q_div10, q_rem10, lt_k]; exact p3.2 ln hl
      · simp (disch := omega) only [lt_k, bnv_s, bnd_s, grd_t, q_in, q_inb, q_c, q_leT, q_leF, q_ltT, q_ltF, q_neg, q_nn, q_z, q_le0, q_b0, q_b1, nI_add, nI_0, q_off, q_self, q_oth, cst_2, st_2, ↓reduceIte, f_X8_cellAt, f_X8_roadAt, q_le1, q_nle1, q_le2, q_nle2, q_le5, q_nle5, q_le6, q_nle6, q_le8, q_nle8, q_le12, q_nle12, q_le25, q_nle25, q_le36, q_nle36, q_le60, q_nle60, q_le99, q_nle99, q_le100, q_nle100, q_le300, q_nle300, q_le640, q_nle640, q_le411, q_nle411, q_mul2, q_lmul2, q_mul3, q_lmul3, q_mul5, q_lmul5, q_mul6, q_lmul6, q_mul10, q_lmul10, q_add1, q_ladd1, q_add2, q_ladd2, q_add3, q_ladd3, q_add5, q_ladd5, q_add6, q_ladd6, q_add100, q_ladd100, q_div2, q_rem2, q_div3, q_rem3, q_div6, q_rem6, q_div10, q_rem10, lt_k]
      · intro j hj
        simp (disch := omega) only [lt_k, bnv_s, bnd_s, grd_t, q_in, q_inb, q_c, q_leT, q_leF, q_ltT, q_ltF, q_neg, q_nn, q_z, q_le0, q_b0, q_b1, nI_add, nI_0, q_off, q_self, q_oth, cst_2, st_2, ↓reduceIte, f_X8_cellAt, f_X8_roadAt, q_le1, q_nle1, q_le2, q_nle2, q_le5, q_nle5, q_le6, q_nle6, q_le8, q_nle8, q_le12, q_nle12, q_le25, q_nle25, q_le36, q_nle36, q_le60, q_nle60, q_le99, q_nle99, q_le100, q_nle100, q_le300, q_nle300, q_le640, q_nle640, q_le411, q_nle411, q_mul2, q_lmul2, q_mul3, q_lmul3, q_mul5, q_lmul5, q_mul6, q_lmul6, q_mul10, q_lmul10, q_add1, q_ladd1, q_add2, q_ladd2, q_add3, q_ladd3, q_add5, q_ladd5, q_add6, q_ladd6, q_add100, q_ladd100, q_div2, q_rem2, q_div3, q_rem3, q_div6, q_rem6, q_div10, q_rem10, q_at]
        by_cases q : j = r
        · rw [if_pos q, q]
        · rw [if_neg q]; exact p5 j (by omega)
      · simp (disch := omega) only [lt_k, bnv_s, bnd_s, grd_t, q_in, q_inb, q_c, q_leT, q_leF, q_ltT, q_ltF, q_neg, q_nn, q_z, q_le0, q_b0, q_b1, nI_add, nI_0, q_off, q_self, q_oth, cst_2, st_2, ↓reduceIte, f_X8_cellAt, f_X8_roadAt, q_le1, q_nle1, q_le2, q_nle2, q_le5, q_nle5, q_le6, q_nle6, q_le8, q_nle8, q_le12, q_nle12, q_le25, q_nle25, q_le36, q_nle36, q_le60, q_nle60, q_le99, q_nle99, q_le100, q_nle100, q_le300, q_nle300, q_le640, q_nle640, q_le411, q_nle411, q_mul2, q_lmul2, q_mul3, q_lmul3, q_mul5, q_lmul5, q_mul6, q_lmul6, q_mul10, q_lmul10, q_add1, q_ladd1, q_add2, q_ladd2, q_add3, q_ladd3, q_add5, q_ladd5, q_add6, q_ladd6, q_add100, q_ladd100, q_div2, q_rem2, q_div3, q_rem3, q_div6, q_rem6, q_div10, q_rem10, lt_k]
      · show g_X9_loops_148 (nI cell) _ x s = _
        rw [h148, p1]
        have hLW : LW (st (st s 145 r (nI (t_P cell (t_pn nx (6 + cell % 6)) r))) 122 42 (t_tnf (fun m => μ.1 128 (t_P cell (t_pn nx (6 + cell % 6)) (2 * m + 1))) ((r + 1) / 2))) I := by
          refine ⟨fun c hc => ?_, fun ln hl => ?_⟩
          · simp (disch := omega) only [lt_k, bnv_s, bnd_s, grd_t, q_in, q_inb, q_c, q_leT, q_leF, q_ltT, q_ltF, q_neg, q_nn, q_z, q_le0, q_b0, q_b1, nI_add, nI_0, q_off, q_self, q_oth, cst_2, st_2, ↓reduceIte, f_X8_cellAt, f_X8_roadAt, q_le1, q_nle1, q_le2, q_nle2, q_le5, q_nle5, q_le6, q_nle6, q_le8, q_nle8, q_le12, q_nle12, q_le25, q_nle25, q_le36, q_nle36, q_le60, q_nle60, q_le99, q_nle99, q_le100, q_nle100, q_le300, q_nle300, q_le640, q_nle640, q_le411, q_nle411, q_mul2, q_lmul2, q_mul3, q_lmul3, q_mul5, q_lmul5, q_mul6, q_lmul6, q_mul10, q_lmul10, q_add1, q_ladd1, q_add2, q_ladd2, q_add3, q_ladd3, q_add5, q_ladd5, q_add6, q_ladd6, q_add100, q_ladd100, q_div2, q_rem2, q_div3, q_rem3, q_div6, q_rem6, q_div10, q_rem10, lt_k]; exact p3.1 c hc
          · simp (disch := omega) only [lt_k, bnv_s, bnd_s, grd_t, q_in, q_inb, q_c, q_leT, q_leF, q_ltT, q_ltF, q_neg, q_nn, q_z, q_le0, q_b0, q_b1, nI_add, nI_0, q_off, q_self, q_oth, cst_2, st_2, ↓reduceIte, f_X8_cellAt, f_X8_roadAt, q_le1, q_nle1, q_le2, q_nle2, q_le5, q_nle5, q_le6, q_nle6, q_le8, q_nle8, q_le12, q_nle12, q_le25, q_nle25, q_le36, q_nle36, q_le60, q_nle60, q_le99, q_nle99, q_le100, q_nle100, q_le300, q_nle300, q_le640, q_nle640, q_le411, q_nle411, q_mul2, q_lmul2, q_mul3, q_lmul3, q_mul5, q_lmul5, q_mul6, q_lmul6, q_mul10, q_lmul10, q_add1, q_ladd1, q_add2, q_ladd2, q_add3, q_ladd3, q_add5, q_ladd5, q_add6, q_ladd6, q_add100, q_ladd100, q_div2, q_rem2, q_div3, q_rem3, q_div6, q_rem6, q_div10, q_rem10, lt_k]; exact p3.2 ln hl
        unfold f_X9_loops_160 f_X9_loops_201 f_X9_loops_228
        by_cases r2 : r % 2 = 0
        · have ht2 : (r + 1) / 2 = r / 2 := by omega
          have ln0 := nxt (6 + t_P cell (t_pn nx (6 + cell % 6)) r % 6) (by omega) (by rw [if_pos r2]) _ hLW
          rw [ht2] at ln0 ⊢
          simp (disch := omega) only [lt_k, bnv_s, bnd_s, grd_t, q_in, q_inb, q_c, q_leT, q_leF, q_ltT, q_ltF, q_neg, q_nn, q_z, q_le0, q_b0, q_b1, nI_add, nI_0, q_off, q_self, q_oth, cst_2, st_2, ↓reduceIte, f_X8_cellAt, f_X8_roadAt, q_le1, q_nle1, q_le2, q_nle2, q_le5, q_nle5, q_le6, q_nle6, q_le8, q_nle8, q_le12, q_nle12, q_le25, q_nle25, q_le36, q_nle36, q_le60, q_nle60, q_le99, q_nle99, q_le100, q_nle100, q_le300, q_nle300, q_le640, q_nle640, q_le411, q_nle411, q_mul2, q_lmul2, q_mul3, q_lmul3, q_mul5, q_lmul5, q_mul6, q_lmul6, q_mul10, q_lmul10, q_add1, q_ladd1, q_add2, q_ladd2, q_add3, q_ladd3, q_add5, q_ladd5, q_add6, q_ladd6, q_add100, q_ladd100, q_div2, q_rem2, q_div3, q_rem3, q_div6, q_rem6, q_div10, q_rem10, p4, r2, p6, q_01, ln0]
        · have r2' : r % 2 = 1 := by omega
          have ht2 : (r + 1) / 2 = r / 2 + 1 := by omega
          have ln0 := nxt (t_P cell (t_pn nx (6 + cell % 6)) r / 6) (by omega) (by rw [if_neg r2]) _ hLW
          have e3 : t_tnf (fun m => μ.1 128 (t_P cell (t_pn nx (6 + cell % 6)) (2 * m + 1))) ((r + 1) / 2) = mn (t_tnf (fun m => μ.1 128 (t_P cell (t_pn nx (6 + cell % 6)) (2 * m + 1))) (r / 2)) (μ.1 128 (t_P cell (t_pn nx (6 + cell % 6)) r)) := by
            rw [ht2]
            show mn _ (μ.1 128 (t_P cell _ (2 * (r / 2) + 1))) = _
            rw [show 2 * (r / 2) + 1 = r by omega]
          rw [e3] at ln0 ⊢
          simp (disch := omega) only [lt_k, bnv_s, bnd_s, grd_t, q_in, q_inb, q_c, q_leT, q_leF, q_ltT, q_ltF, q_neg, q_nn, q_z, q_le0, q_b0, q_b1, nI_add, nI_0, q_off, q_self, q_oth, cst_2, st_2, ↓reduceIte, f_X8_cellAt, f_X8_roadAt, q_le1, q_nle1, q_le2, q_nle2, q_le5, q_nle5, q_le6, q_nle6, q_le8, q_nle8, q_le12, q_nle12, q_le25, q_nle25, q_le36, q_nle36, q_le60, q_nle60, q_le99, q_nle99, q_le100, q_nle100, q_le300, q_nle300, q_le640, q_nle640, q_le411, q_nle411, q_mul2, q_lmul2, q_mul3, q_lmul3, q_mul5, q_lmul5, q_mul6, q_lmul6, q_mul10, q_lmul10, q_add1, q_ladd1, q_add2, q_ladd2, q_add3, q_ladd3, q_add5, q_ladd5, q_add6, q_ladd6, q_add100, q_ladd100, q_div2, q_rem2, q_div3, q_rem3, q_div6, q_rem6, q_div10, q_rem10, p4, r2', p6, hload, show (nI 1 = 1) = True from eq_true rfl, show (nI 1 = 0) = False from eq_false (by decide), ln0]
    · rintro n ⟨x, s⟩ ⟨p1, p2, p3, p4, p5, p6⟩
      change x = _ at p1
      rw [if_pos rfl] at p1
      refine ⟨s, L, _, ?_, p2, hw, p4, p5, p6⟩
      show g_X9_loops_148 (nI cell) _ x s = _
      unfold g_X9_loops_148
      rw [if_neg (by rw [show s.1 122 41 = nI L from p4]; exact nI_ne0 (by omega) (by omega)), if_pos (by rw [p1]; rfl)]
    · rw [if_neg (by omega)]; rfl
    · exact fr_then (fr_mono hL.2.1 (fun c j h => by unfold LB at h; unfold LA; omega)) (fr_st' (fr_st (by unfold LA; omega)) (by unfold LA; omega))
    · refine ⟨fun c hc => ?_, fun ln hl => ?_⟩
      · simp (disch := omega) only [lt_k, bnv_s, bnd_s, grd_t, q_in, q_inb, q_c, q_leT, q_leF, q_ltT, q_ltF, q_neg, q_nn, q_z, q_le0, q_b0, q_b1, nI_add, nI_0, q_off, q_self, q_oth, cst_2, st_2, ↓reduceIte, f_X8_cellAt, f_X8_roadAt, q_le1, q_nle1, q_le2, q_nle2, q_le5, q_nle5, q_le6, q_nle6, q_le8, q_nle8, q_le12, q_nle12, q_le25, q_nle25, q_le36, q_nle36, q_le60, q_nle60, q_le99, q_nle99, q_le100, q_nle100, q_le300, q_nle300, q_le640, q_nle640, q_le411, q_nle411, q_mul2, q_lmul2, q_mul3, q_lmul3, q_mul5, q_lmul5, q_mul6, q_lmul6, q_mul10, q_lmul10, q_add1, q_ladd1, q_add2, q_ladd2, q_add3, q_ladd3, q_add5, q_ladd5, q_add6, q_ladd6, q_add100, q_ladd100, q_div2, q_rem2, q_div3, q_rem3, q_div6, q_rem6, q_div10, q_rem10, lt_k]; exact hL.1.1 c hc
      · simp (disch := omega) only [lt_k, bnv_s, bnd_s, grd_t, q_in, q_inb, q_c, q_leT, q_leF, q_ltT, q_ltF, q_neg, q_nn, q_z, q_le0, q_b0, q_b1, nI_add, nI_0, q_off, q_self, q_oth, cst_2, st_2, ↓reduceIte, f_X8_cellAt, f_X8_roadAt, q_le1, q_nle1, q_le2, q_nle2, q_le5, q_nle5, q_le6, q_nle6, q_le8, q_nle8, q_le12, q_nle12, q_le25, q_nle25, q_le36, q_nle36, q_le60, q_nle60, q_le99, q_nle99, q_le100, q_nle100, q_le300, q_nle300, q_le640, q_nle640, q_le411, q_nle411, q_mul2, q_lmul2, q_mul3, q_lmul3, q_mul5, q_lmul5, q_mul6, q_lmul6, q_mul10, q_lmul10, q_add1, q_ladd1, q_add2, q_ladd2, q_add3, q_ladd3, q_add5, q_ladd5, q_add6, q_ladd6, q_add100, q_ladd100, q_div2, q_rem2, q_div3, q_rem3, q_div6, q_rem6, q_div10, q_rem10, lt_k]; exact hL.1.2 ln hl
    · simp (disch := omega) only [lt_k, bnv_s, bnd_s, grd_t, q_in, q_inb, q_c, q_leT, q_leF, q_ltT, q_ltF, q_neg, q_nn, q_z, q_le0, q_b0, q_b1, nI_add, nI_0, q_off, q_self, q_oth, cst_2, st_2, ↓reduceIte, f_X8_cellAt, f_X8_roadAt, q_le1, q_nle1, q_le2, q_nle2, q_le5, q_nle5, q_le6, q_nle6, q_le8, q_nle8, q_le12, q_nle12, q_le25, q_nle25, q_le36, q_nle36, q_le60, q_nle60, q_le99, q_nle99, q_le100, q_nle100, q_le300, q_nle300, q_le640, q_nle640, q_le411, q_nle411, q_mul2, q_lmul2, q_mul3, q_lmul3, q_mul5, q_lmul5, q_mul6, q_lmul6, q_mul10, q_lmul10, q_add1, q_ladd1, q_add2, q_ladd2, q_add3, q_ladd3, q_add5, q_ladd5, q_add6, q_ladd6, q_add100, q_ladd100, q_div2, q_rem2, q_div3, q_rem3, q_div6, q_rem6, q_div10, q_rem10, lt_k]
    · intro j hj; omega
    · simp (disch := omega) only [lt_k, bnv_s, bnd_s, grd_t, q_in, q_inb, q_c, q_leT, q_leF, q_ltT, q_ltF, q_neg, q_nn, q_z, q_le0, q_b0, q_b1, nI_add, nI_0, q_off, q_self, q_oth, cst_2, st_2, ↓reduceIte, f_X8_cellAt, f_X8_roadAt, q_le1, q_nle1, q_le2, q_nle2, q_le5, q_nle5, q_le6, q_nle6, q_le8, q_nle8, q_le12, q_nle12, q_le25, q_nle25, q_le36, q_nle36, q_le60, q_nle60, q_le99, q_nle99, q_le100, q_nle100, q_le300, q_nle300, q_le640, q_nle640, q_le411, q_nle411, q_mul2, q_lmul2, q_mul3, q_lmul3, q_mul5, q_lmul5, q_mul6, q_lmul6, q_mul10, q_lmul10, q_add1, q_ladd1, q_add2, q_ladd2, q_add3, q_ladd3, q_add5, q_ladd5, q_add6, q_ladd6, q_add100, q_ladd100, q_div2, q_rem2, q_div3, q_rem3, q_div6, q_rem6, q_div10, q_rem10, lt_k]; rfl
  refine q_while (fun n (s : Int32 × Mem × (Nat → Bool)) => f_X9_loops_65 (nI cell) n s.1 s.2.1) (fun s => t_ctr s.2.2 36 + if s.1 = 0 then 0 else 1)
    (fun s => LPq cell L (t_pn nx (6 + cell % 6)) μ s.2.1 s.2.2 ∧ ((s.1 = 0 ∧ ∀ c, c < 36 → s.2.2 c = true → t_nl s.2.2 (c / 6) 36 ≠ 1 ∧ t_nl s.2.2 (6 + c % 6) 36 ≠ 1) ∨ s.1 = 1))
    (fun z => ∃ μ' L v, z = some μ' ∧ fr LA μ μ' ∧ t_way S T (bb (μ.1 129)) cell L v ∧ μ'.1 122 41 = nI L ∧ (∀ j, j < L → μ'.1 145 j = nI (t_P cell v j)) ∧ μ'.1 122 42 = t_tn (μ.1 128) (t_P cell v) L) ?_ 37 FU (1, μ1, fun c => bb (μ.1 129) c || decide (c = cell)) ?_ (by unfold FU; omega) ⟨⟨w1, f1, fun c hc h => ?_, fun k hk => ?_⟩, Or.inr rfl⟩
  · rintro n ⟨x, m, I⟩ ⟨p, r⟩
    change LPq cell L _ μ m I at p
    by_cases x0 : x = 0
    · left
      have r2 : ∀ c, c < 36 → I c = true → t_nl I (c / 6) 36 ≠ 1 ∧ t_nl I (6 + c % 6) 36 ≠ 1 := by
        rcases r with ⟨-, r⟩ | r
        · exact r
        · change x = 1 at r; rw [x0] at r; exact absurd r (by decide)
      have := walk m I p (t_peel ht hcl hp hw p.2.2.1 (fun c hc hI => ?_) (fun c hc hI => ?_))
      · show ∃ μ' L v, g_X9_loops_65 (nI cell) _ x m = some μ' ∧ _
        unfold g_X9_loops_65
        rw [if_pos x0]
        exact this
      · obtain ⟨d, d1, d2, d3, d4⟩ := t_nl_oth hc hI (t_il_t.mpr (Or.inl rfl)) (r2 c hc hI).1
        refine ⟨d, d1, d2, d3, ?_⟩
        rcases t_il_t.mp d4 with e | e <;> omega
      · obtain ⟨d, d1, d2, d3, d4⟩ := t_nl_oth hc hI (t_il_t.mpr (Or.inr rfl)) (r2 c hc hI).2
        refine ⟨d, d1, d2, d3, ?_⟩
        rcases t_il_t.mp d4 with e | e <;> omega
    · right
      obtain ⟨x', μ', I', e2, e3, e4⟩ := x9_peel1 (f_X9_loops_65 (nI cell) n) ht hcl hb hw p
      refine ⟨(x', μ', I'), ⟨e3, ?_⟩, ?_, ?_⟩
      · rcases e4 with ⟨a, -, b⟩ | ⟨a, -⟩
        · exact Or.inl ⟨a, b⟩
        · exact Or.inr a
      · show t_ctr I' 36 + (if x' = 0 then 0 else 1) < t_ctr I 36 + (if x = 0 then 0 else 1)
        rw [if_neg x0]
        rcases e4 with ⟨a, b, -⟩ | ⟨a, b⟩
        · rw [if_pos a, b]; omega
        · rw [if_neg (by rw [a]; decide)]; omega
      · show g_X9_loops_65 (nI cell) _ x m = _
        unfold g_X9_loops_65
        rw [if_neg x0]
        exact e2
  · show t_ctr (fun c => bb (μ.1 129) c || decide (c = cell)) 36 + (if (1 : Int32) = 0 then 0 else 1) ≤ 37
    have := t_ctr_le (fun c => bb (μ.1 129) c || decide (c = cell)) 36
    rw [if_neg (show ¬ (1 : Int32) = 0 by decide)]
    omega
  · cases r : bb (μ.1 129) c
    · right
      have h' : (bb (μ.1 129) c || decide (c = cell)) = true := h
      rw [r, Bool.false_or] at h'
      exact of_decide_eq_true h'
    · exact Or.inl rfl
  · show (bb (μ.1 129) _ || decide (_ = cell)) = true
    by_cases k0 : k = 0
    · rw [k0, show t_P cell (t_pn nx (6 + cell % 6)) 0 = cell from rfl, decide_eq_true rfl, Bool.or_true]
    · rw [(t_P_B ht hw hk (by omega)).2]; rfl
