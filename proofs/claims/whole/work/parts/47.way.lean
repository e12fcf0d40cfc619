/-! THE PURE PART: the class's loop: pointers home, the way -/
def PW (k home : Nat) (μ : Mem) (kn : Nat → Bool) (nx : Nat → Nat) : Prop := ∀ v, v < 6 → μ.1 (k + 2) v = (if kn v = true ∧ v ≠ home then nI (nx v - 6) else -1) ∧ μ.1 (k + 3) v = (if kn (6 + v) = true then nI (nx (6 + v)) else -1)
def PA (k : Nat) : Nat → Nat → Prop := fun c _ => c = k + 2 ∨ c = k + 3
def PP (k a2 S T home : Nat) (μ0 μ : Mem) (kn : Nat → Bool) (nx rk : Nat → Nat) : Prop := PW k home μ kn nx ∧ t_pi S T (bb (μ0.1 a2)) home kn nx rk ∧ fr (PA k) μ0 μ
theorem q_m1 : ((-1 : Int32) < 0) = True := eq_true (by decide)
theorem x1_pt117 {k home : Nat} {a2 : Nat} {q33 : Int32 → Int32 → Mem → Option Mem} {q49 : Int32 → Int32 → Int32 → Mem → Option Mem} {x3 x4 : Int32} {i : Nat} {μ : Mem} {kn : Nat → Bool} {nx : Nat → Nat} (hh : home < 6) (hi : i < 36) (hp : PW k home μ kn nx)
    (hk : kn home = true) (hn : ∀ v, kn v = true → v ≠ home → nx v < 12) :
    g_X1_pointHome_49 k (nI home) a2 36 q33 q49 x3 x4 (nI i) μ = if μ.1 a2 i = 0 then q49 x3 x4 (nI (i + 1)) μ else if kn (i / 6) = kn (6 + i % 6) then q49 x3 x4 (nI (i + 1)) μ else
      if kn (i / 6) = true then q49 1 x4 (nI (i + 1)) (st μ (k + 3) (i % 6) (nI (i / 6))) else q49 1 x4 (nI (i + 1)) (st μ (k + 2) (i / 6) (nI (i % 6))) := by
  have e91 : ∀ b : Bool, kn (i / 6) = b → f_X1_pointHome_91 k (nI home) a2 36 q33 q49 x3 x4 (nI i) (nI (i / 6)) (nI (i % 6)) (b01 b) μ = if μ.1 a2 i = 0 then q49 x3 x4 (nI (i + 1)) μ else if kn (i / 6) = kn (6 + i % 6) then q49 x3 x4 (nI (i + 1)) μ else
      if kn (i / 6) = true then q49 1 x4 (nI (i + 1)) (st μ (k + 3) (i % 6) (nI (i / 6))) else q49 1 x4 (nI (i + 1)) (st μ (k + 2) (i / 6) (nI (i % 6))) := by
    intro b hb
    unfold f_X1_pointHome_91 f_X1_pointHome_117
    have h3 := (hp (i % 6) (by omega)).2
    rw [hb]
    cases h6 : kn (6 + i % 6)
    · rw [h6, if_neg (by decide)] at h3
      cases b <;> simp (disch := omega) only [lt_k, bnv_s, bnd_s, grd_t, q_in, q_inb, q_c, q_leT, q_leF, q_ltT, q_ltF, q_neg, q_nn, q_z, q_le0, q_b0, q_b1, nI_add, nI_0, q_off, q_self, q_oth, cst_2, st_2, ↓reduceIte, f_X8_cellAt, f_X8_roadAt, q_le1, q_nle1, q_le2, q_nle2, q_le5, q_nle5, q_le6, q_nle6, q_le8, q_nle8, q_le12, q_nle12, q_le25, q_nle25, q_le36, q_nle36, q_le60, q_nle60, q_le99, q_nle99, q_le100, q_nle100, q_le300, q_nle300, q_le640, q_nle640, q_le411, q_nle411, q_mul2, q_lmul2, q_mul3, q_lmul3, q_mul5, q_lmul5, q_mul6, q_lmul6, q_mul10, q_lmul10, q_add1, q_ladd1, q_add2, q_ladd2, q_add3, q_ladd3, q_add5, q_ladd5, q_add6, q_ladd6, q_add100, q_ladd100, q_div2, q_rem2, q_div3, q_rem3, q_div6, q_rem6, q_div10, q_rem10, h3, q_m1, b01_t, b01_f, q_01, q_10, Bool.false_eq_true, Bool.true_eq_false]
    · rw [h6, if_pos rfl] at h3
      have := hn (6 + i % 6) h6
      have := this (by omega)
      cases b <;> simp (disch := omega) only [lt_k, bnv_s, bnd_s, grd_t, q_in, q_inb, q_c, q_leT, q_leF, q_ltT, q_ltF, q_neg, q_nn, q_z, q_le0, q_b0, q_b1, nI_add, nI_0, q_off, q_self, q_oth, cst_2, st_2, ↓reduceIte, f_X8_cellAt, f_X8_roadAt, q_le1, q_nle1, q_le2, q_nle2, q_le5, q_nle5, q_le6, q_nle6, q_le8, q_nle8, q_le12, q_nle12, q_le25, q_nle25, q_le36, q_nle36, q_le60, q_nle60, q_le99, q_nle99, q_le100, q_nle100, q_le300, q_nle300, q_le640, q_nle640, q_le411, q_nle411, q_mul2, q_lmul2, q_mul3, q_lmul3, q_mul5, q_lmul5, q_mul6, q_lmul6, q_mul10, q_lmul10, q_add1, q_ladd1, q_add2, q_ladd2, q_add3, q_ladd3, q_add5, q_ladd5, q_add6, q_ladd6, q_add100, q_ladd100, q_div2, q_rem2, q_div3, q_rem3, q_div6, q_rem6, q_div10, q_rem10, h3, q_m1, b01_t, b01_f, q_01, q_10, Bool.false_eq_true, Bool.true_eq_false]
  unfold g_X1_pointHome_49
  have h2 := (hp (i / 6) (by omega)).1
  by_cases q : i / 6 = home
  · have := e91 true (by rw [q]; exact hk)
    unfold f_X1_pointHome_86
    simp (disch := omega) only [lt_k, bnv_s, bnd_s, grd_t, q_in, q_inb, q_c, q_leT, q_leF, q_ltT, q_ltF, q_neg, q_nn, q_z, q_le0, q_b0, q_b1, nI_add, nI_0, q_off, q_self, q_oth, cst_2, st_2, ↓reduceIte, f_X8_cellAt, f_X8_roadAt, q_le1, q_nle1, q_le2, q_nle2, q_le5, q_nle5, q_le6, q_nle6, q_le8, q_nle8, q_le12, q_nle12, q_le25, q_nle25, q_le36, q_nle36, q_le60, q_nle60, q_le99, q_nle99, q_le100, q_nle100, q_le300, q_nle300, q_le640, q_nle640, q_le411, q_nle411, q_mul2, q_lmul2, q_mul3, q_lmul3, q_mul5, q_lmul5, q_mul6, q_lmul6, q_mul10, q_lmul10, q_add1, q_ladd1, q_add2, q_ladd2, q_add3, q_ladd3, q_add5, q_ladd5, q_add6, q_ladd6, q_add100, q_ladd100, q_div2, q_rem2, q_div3, q_rem3, q_div6, q_rem6, q_div10, q_rem10, q]
    rw [← q]
    rw [b01_t, ← q] at this
    exact this
  · cases h6 : kn (i / 6)
    · rw [h6, if_neg (fun r => by cases r.1)] at h2
      have := e91 false h6
      rw [h6] at this
      simp (disch := omega) only [lt_k, bnv_s, bnd_s, grd_t, q_in, q_inb, q_c, q_leT, q_leF, q_ltT, q_ltF, q_neg, q_nn, q_z, q_le0, q_b0, q_b1, nI_add, nI_0, q_off, q_self, q_oth, cst_2, st_2, ↓reduceIte, f_X8_cellAt, f_X8_roadAt, q_le1, q_nle1, q_le2, q_nle2, q_le5, q_nle5, q_le6, q_nle6, q_le8, q_nle8, q_le12, q_nle12, q_le25, q_nle25, q_le36, q_nle36, q_le60, q_nle60, q_le99, q_nle99, q_le100, q_nle100, q_le300, q_nle300, q_le640, q_nle640, q_le411, q_nle411, q_mul2, q_lmul2, q_mul3, q_lmul3, q_mul5, q_lmul5, q_mul6, q_lmul6, q_mul10, q_lmul10, q_add1, q_ladd1, q_add2, q_ladd2, q_add3, q_ladd3, q_add5, q_ladd5, q_add6, q_ladd6, q_add100, q_ladd100, q_div2, q_rem2, q_div3, q_rem3, q_div6, q_rem6, q_div10, q_rem10, q_eqF, h2, q_m1]
      exact this
    · rw [h6, if_pos ⟨rfl, q⟩] at h2
      have := e91 true h6
      rw [h6] at this
      have hb := hn _ h6 q
      unfold f_X1_pointHome_86
      simp (disch := omega) only [lt_k, bnv_s, bnd_s, grd_t, q_in, q_inb, q_c, q_leT, q_leF, q_ltT, q_ltF, q_neg, q_nn, q_z, q_le0, q_b0, q_b1, nI_add, nI_0, q_off, q_self, q_oth, cst_2, st_2, ↓reduceIte, f_X8_cellAt, f_X8_roadAt, q_le1, q_nle1, q_le2, q_nle2, q_le5, q_nle5, q_le6, q_nle6, q_le8, q_nle8, q_le12, q_nle12, q_le25, q_nle25, q_le36, q_nle36, q_le60, q_nle60, q_le99, q_nle99, q_le100, q_nle100, q_le300, q_nle300, q_le640, q_nle640, q_le411, q_nle411, q_mul2, q_lmul2, q_mul3, q_lmul3, q_mul5, q_lmul5, q_mul6, q_lmul6, q_mul10, q_lmul10, q_add1, q_ladd1, q_add2, q_ladd2, q_add3, q_ladd3, q_add5, q_ladd5, q_add6, q_ladd6, q_add100, q_ladd100, q_div2, q_rem2, q_div3, q_rem3, q_div6, q_rem6, q_div10, q_rem10, q_eqF, h2]
      exact this
theorem x1_pass {k a2 S T home : Nat} {μ0 μ : Mem} {kn : Nat → Bool} {nx rk : Nat → Nat} (q33 : Int32 → Int32 → Mem → Option Mem) (x4 : Nat) (ha : a2 < k) (ht : t_tree S T (bb (μ0.1 a2))) (hp : PP k a2 S T home μ0 μ kn nx rk) :
    ∃ x μ' kn' nx' rk', f_X1_pointHome_49 k (nI home) a2 36 q33 FU 0 (nI x4) 0 μ = q33 x (nI (x4 + 1)) μ' ∧ PP k a2 S T home μ0 μ' kn' nx' rk' ∧ ((x = 0 ∧ t_res (bb (μ0.1 a2)) kn') ∨ (x = 1 ∧ t_cnt kn' 12 < t_cnt kn 12)) := by
  refine q_loop0 (fun n i (s : Int32 × Mem) => f_X1_pointHome_49 k (nI home) a2 36 q33 n s.1 (nI x4) (nI i) s.2) 36 (by omega)
    (fun i s => ∃ kn' nx' rk', PP k a2 S T home μ0 s.2 kn' nx' rk' ∧ ((s.1 = 0 ∧ kn' = kn ∧ ∀ c, c < i → bb (μ0.1 a2) c = true → kn' (c / 6) = kn' (6 + c % 6)) ∨ (s.1 = 1 ∧ t_cnt kn' 12 < t_cnt kn 12)))
    (fun z => ∃ x μ' kn' nx' rk', z = q33 x (nI (x4 + 1)) μ' ∧ PP k a2 S T home μ0 μ' kn' nx' rk' ∧ ((x = 0 ∧ t_res (bb (μ0.1 a2)) kn') ∨ (x = 1 ∧ t_cnt kn' 12 < t_cnt kn 12))) ?_ ?_ (0, μ) ⟨kn, nx, rk, hp, Or.inl ⟨rfl, rfl, fun c h => by omega⟩⟩
  · rintro n i ⟨x1, m⟩ hi ⟨kn1, nx1, rk1, ⟨p1, p2, p3⟩, p5⟩
    right
    change PW k home m kn1 nx1 at p1
    change fr (PA k) μ0 m at p3
    have hS := ht.2.1
    have hT := ht.2.2.2.1
    have hB : m.1 a2 i = μ0.1 a2 i := p3.2 _ _ (by unfold PA; omega)
    have hh : home < 6 := by have := p2.1; omega
    have hnd : ∀ v, kn1 v = true → v < 12 := fun v hv => by rcases p2.2.2.1 v hv with r | r <;> omega
    have hpt := x1_pt117 (a2 := a2) (q33 := q33) (q49 := f_X1_pointHome_49 k (nI home) a2 36 q33 n) (x3 := x1) (x4 := nI x4) hh hi p1 p2.2.1 (fun v hv hn => hnd _ (p2.2.2.2.2 v hv hn).1)
    rw [hB] at hpt
    have same : μ0.1 a2 i = 0 ∨ kn1 (i / 6) = kn1 (6 + i % 6) → ∃ kn' nx' rk', PP k a2 S T home μ0 m kn' nx' rk' ∧ ((x1 = 0 ∧ kn' = kn ∧ ∀ c, c < i + 1 → bb (μ0.1 a2) c = true → kn' (c / 6) = kn' (6 + c % 6)) ∨ (x1 = 1 ∧ t_cnt kn' 12 < t_cnt kn 12)) := by
      intro hs
      refine ⟨kn1, nx1, rk1, ⟨p1, p2, p3⟩, ?_⟩
      rcases p5 with ⟨e1, e2, e3⟩ | e
      · refine Or.inl ⟨e1, e2, fun c hci hb => ?_⟩
        by_cases q : c = i
        · subst q
          rcases hs with r | r
          · exact absurd r (bb_f hb)
          · exact r
        · exact e3 c (by omega) hb
      · exact Or.inr e
    by_cases b0 : μ0.1 a2 i = 0
    · refine ⟨(x1, m), same (Or.inl b0), ?_⟩
      show g_X1_pointHome_49 k _ a2 36 q33 _ x1 _ (nI i) m = _
      rw [hpt, if_pos b0]
    · rw [if_neg b0] at hpt
      by_cases b1 : kn1 (i / 6) = kn1 (6 + i % 6)
      · refine ⟨(x1, m), same (Or.inr b1), ?_⟩
        show g_X1_pointHome_49 k _ a2 36 q33 _ x1 _ (nI i) m = _
        rw [hpt, if_pos b1]
      · rw [if_neg b1] at hpt
        have hb := bb_t hi b0
        have fin : ∀ x y, ((x = i / 6 ∧ y = 6 + i % 6) ∨ (x = 6 + i % 6 ∧ y = i / 6)) → kn1 x = false → kn1 y = true → ∀ m', fr (PA k) μ0 m' → PW k home m' (t_put kn1 x true) (t_setN nx1 x y) →
            ∃ kn' nx' rk', PP k a2 S T home μ0 m' kn' nx' rk' ∧ (((1 : Int32) = 0 ∧ kn' = kn ∧ ∀ c, c < i + 1 → bb (μ0.1 a2) c = true → kn' (c / 6) = kn' (6 + c % 6)) ∨ ((1 : Int32) = 1 ∧ t_cnt kn' 12 < t_cnt kn 12)) := by
          intro x y hxy hx hy m' q1 q2
          have e := t_pi_ext ht p2 hi hb hxy hx hy
          refine ⟨_, _, _, ⟨q2, e.1, q1⟩, Or.inr ⟨rfl, ?_⟩⟩
          have e2 := e.2
          rcases p5 with ⟨-, r, -⟩ | ⟨-, r⟩
          · rw [← r]; omega
          · omega
        by_cases b2 : kn1 (i / 6) = true
        · rw [if_pos b2] at hpt
          have b3 : kn1 (6 + i % 6) = false := by cases r : kn1 (6 + i % 6); rfl; exact absurd (b2.trans r.symm) b1
          refine ⟨(1, st m (k + 3) (i % 6) (nI (i / 6))), fin (6 + i % 6) (i / 6) (Or.inr ⟨rfl, rfl⟩) b3 b2 _ (fr_st' p3 (by unfold PA; omega)) (fun v hv => ?_), hpt⟩
          obtain ⟨r1, r2⟩ := p1 v hv
          simp (disch := omega) only [lt_k, bnv_s, bnd_s, grd_t, q_in, q_inb, q_c, q_leT, q_leF, q_ltT, q_ltF, q_neg, q_nn, q_z, q_le0, q_b0, q_b1, nI_add, nI_0, q_off, q_self, q_oth, cst_2, st_2, ↓reduceIte, f_X8_cellAt, f_X8_roadAt, q_le1, q_nle1, q_le2, q_nle2, q_le5, q_nle5, q_le6, q_nle6, q_le8, q_nle8, q_le12, q_nle12, q_le25, q_nle25, q_le36, q_nle36, q_le60, q_nle60, q_le99, q_nle99, q_le100, q_nle100, q_le300, q_nle300, q_le640, q_nle640, q_le411, q_nle411, q_mul2, q_lmul2, q_mul3, q_lmul3, q_mul5, q_lmul5, q_mul6, q_lmul6, q_mul10, q_lmul10, q_add1, q_ladd1, q_add2, q_ladd2, q_add3, q_ladd3, q_add5, q_ladd5, q_add6, q_ladd6, q_add100, q_ladd100, q_div2, q_rem2, q_div3, q_rem3, q_div6, q_rem6, q_div10, q_rem10, q_at, r1, r2]
          unfold t_put t_setN
          rw [if_neg (show ¬ v = 6 + i % 6 by omega), if_neg (show ¬ v = 6 + i % 6 by omega)]
          refine ⟨rfl, ?_⟩
          by_cases q : v = i % 6
          · have e6 : 6 + v = 6 + i % 6 := by omega
            simp only [q, ↓reduceIte]
          · rw [if_neg q, if_neg (show ¬ 6 + v = 6 + i % 6 by omega), if_neg (show ¬ 6 + v = 6 + i % 6 by omega)]
        · rw [if_neg b2] at hpt
          have b2' : kn1 (i / 6) = false := by cases r : kn1 (i / 6); rfl; exact absurd r b2
          have b3 : kn1 (6 + i % 6) = true := by cases r : kn1 (6 + i % 6); exact absurd (b2'.trans r.symm) b1; rfl
          refine ⟨(1, st m (k + 2) (i / 6) (nI (i % 6))), fin (i / 6) (6 + i % 6) (Or.inl ⟨rfl, rfl⟩) b2' b3 _ (fr_st' p3 (by unfold PA; omega)) (fun v hv => ?_), hpt⟩
          obtain ⟨r1, r2⟩ := p1 v hv
          simp (disch := omega) only [lt_k, bnv_s, bnd_s, grd_t, q_in, q_inb, q_c, q_leT, q_leF, q_ltT, q_ltF, q_neg, q_nn, q_z, q_le0, q_b0, q_b1, nI_add, nI_0, q_off, q_self, q_oth, cst_2, st_2, ↓reduceIte, f_X8_cellAt, f_X8_roadAt, q_le1, q_nle1, q_le2, q_nle2, q_le5, q_nle5, q_le6, q_nle6, q_le8, q_nle8, q_le12, q_nle12, q_le25, q_nle25, q_le36, q_nle36, q_le60, q_nle60, q_le99, q_nle99, q_le100, q_nle100, q_le300, q_nle300, q_le640, q_nle640, q_le411, q_nle411, q_mul2, q_lmul2, q_mul3, q_lmul3, q_mul5, q_lmul5, q_mul6, q_lmul6, q_mul10, q_lmul10, q_add1, q_ladd1, q_add2, q_ladd2, q_add3, q_ladd3, q_add5, q_ladd5, q_add6, q_ladd6, q_add100, q_ladd100, q_div2, q_rem2, q_div3, q_rem3, q_div6, q_rem6, q_div10, q_rem10, q_at, r1, r2]
          unfold t_put t_setN
          rw [if_neg (show ¬ 6 + v = i / 6 by omega), if_neg (show ¬ 6 + v = i / 6 by omega)]
          refine ⟨?_, rfl⟩
          by_cases q : v = i / 6
          · have : i / 6 ≠ home := fun e => by rw [e, p2.2.1] at b2'; cases b2'
            rw [if_pos q, if_pos q, if_pos ⟨rfl, by omega⟩, if_pos q]
            congr 1; omega
          · rw [if_neg q, if_neg q, if_neg q]
  · rintro n ⟨x1, m⟩ ⟨kn1, nx1, rk1, p, p5⟩
    refine ⟨x1, m, kn1, nx1, rk1, ?_, p, ?_⟩
    · show g_X1_pointHome_49 k _ a2 36 q33 _ x1 _ (nI 36) m = _
      unfold g_X1_pointHome_49
      simp (disch := omega) only [lt_k, bnv_s, bnd_s, grd_t, q_in, q_inb, q_c, q_leT, q_leF, q_ltT, q_ltF, q_neg, q_nn, q_z, q_le0, q_b0, q_b1, nI_add, nI_0, q_off, q_self, q_oth, cst_2, st_2, ↓reduceIte, f_X8_cellAt, f_X8_roadAt, q_le1, q_nle1, q_le2, q_nle2, q_le5, q_nle5, q_le6, q_nle6, q_le8, q_nle8, q_le12, q_nle12, q_le25, q_nle25, q_le36, q_nle36, q_le60, q_nle60, q_le99, q_nle99, q_le100, q_nle100, q_le300, q_nle300, q_le640, q_nle640, q_le411, q_nle411, q_mul2, q_lmul2, q_mul3, q_lmul3, q_mul5, q_lmul5, q_mul6, q_lmul6, q_mul10, q_lmul10, q_add1, q_ladd1, q_add2, q_ladd2, q_add3, q_ladd3, q_add5, q_ladd5, q_add6, q_ladd6, q_add100, q_ladd100, q_div2, q_rem2, q_div3, q_rem3, q_div6, q_rem6, q_div10, q_rem10, lt_k]
    · rcases p5 with ⟨e1, e2, e3⟩ | e
      · exact Or.inl ⟨e1, e3⟩
      · exact Or.inr e
theorem x1_home {k a2 S T home : Nat} {μ : Mem} (ha : a2 < k) (ht : t_tree S T (bb (μ.1 a2))) (hh : home < S) :
    ∃ μ' nx rk, f_X1_pointHome k (nI home) a2 36 μ = some μ' ∧ fr (PA k) μ μ' ∧ t_ptr S T (bb (μ.1 a2)) home nx rk ∧ (∀ v, v < S → v ≠ home → μ'.1 (k + 2) v = nI (nx v - 6)) ∧ (∀ v, v < T → μ'.1 (k + 3) v = nI (nx (6 + v))) := by
  have hS := ht.2.1
  have hT := ht.2.2.2.1
  have rounds : ∀ m, PP k a2 S T home μ m (fun v => decide (v = home)) (fun _ => 0) (fun _ => 0) → ∃ μ' nx rk, f_X1_pointHome_33 k (nI home) a2 36 FU 1 0 m = some μ' ∧ fr (PA k) μ μ' ∧ t_ptr S T (bb (μ.1 a2)) home nx rk ∧ (∀ v, v < S → v ≠ home → μ'.1 (k + 2) v = nI (nx v - 6)) ∧ (∀ v, v < T → μ'.1 (k + 3) v = nI (nx (6 + v))) := by
    intro m hp
    have done : ∀ (s : Mem) kn1 nx1 rk1, PP k a2 S T home μ s kn1 nx1 rk1 → t_res (bb (μ.1 a2)) kn1 → fr (PA k) μ s ∧ t_ptr S T (bb (μ.1 a2)) home nx1 rk1 ∧ (∀ v, v < S → v ≠ home → s.1 (k + 2) v = nI (nx1 v - 6)) ∧ (∀ v, v < T → s.1 (k + 3) v = nI (nx1 (6 + v))) := by
      intro s kn1 nx1 rk1 p hr
      obtain ⟨a, b⟩ := t_pi_all ht p.2.1 hr
      refine ⟨p.2.2, b, fun v hv hn => ?_, fun v hv => ?_⟩
      · have := (p.1 v (by omega)).1
        rw [if_pos ⟨a v (Or.inl hv), hn⟩] at this
        exact this
      · have := (p.1 v (by omega)).2
        rw [if_pos (a _ (Or.inr ⟨by omega, by omega⟩))] at this
        exact this
    refine q_loop0 (fun n i (s : Int32 × Mem) => f_X1_pointHome_33 k (nI home) a2 36 n s.1 (nI i) s.2) 12 (by omega)
      (fun i s => ∃ kn' nx' rk', PP k a2 S T home μ s.2 kn' nx' rk' ∧ ((s.1 = 0 ∧ t_res (bb (μ.1 a2)) kn') ∨ (s.1 = 1 ∧ t_cnt kn' 12 + i ≤ 11)))
      (fun z => ∃ μ' nx rk, z = some μ' ∧ fr (PA k) μ μ' ∧ t_ptr S T (bb (μ.1 a2)) home nx rk ∧ (∀ v, v < S → v ≠ home → μ'.1 (k + 2) v = nI (nx v - 6)) ∧ (∀ v, v < T → μ'.1 (k + 3) v = nI (nx (6 + v)))) ?_ ?_ (1, m)
      ⟨_, _, _, hp, Or.inr ⟨rfl, by have := (t_pi_init (T := T) (B := fun _ => true) hh hS (fun _ => 0) (fun _ => 0) rfl).2; omega⟩⟩
    · rintro n i ⟨x, s⟩ hi ⟨kn1, nx1, rk1, p, r⟩
      change PP k a2 S T home μ s kn1 nx1 rk1 at p
      rcases r with ⟨r1, r2⟩ | ⟨r1, r2⟩
      · left
        refine ⟨s, nx1, rk1, ?_, done s kn1 nx1 rk1 p r2⟩
        change x = 0 at r1
        show g_X1_pointHome_33 k _ a2 36 _ x (nI i) s = _
        unfold g_X1_pointHome_33
        simp (disch := omega) only [lt_k, bnv_s, bnd_s, grd_t, q_in, q_inb, q_c, q_leT, q_leF, q_ltT, q_ltF, q_neg, q_nn, q_z, q_le0, q_b0, q_b1, nI_add, nI_0, q_off, q_self, q_oth, cst_2, st_2, ↓reduceIte, f_X8_cellAt, f_X8_roadAt, q_le1, q_nle1, q_le2, q_nle2, q_le5, q_nle5, q_le6, q_nle6, q_le8, q_nle8, q_le12, q_nle12, q_le25, q_nle25, q_le36, q_nle36, q_le60, q_nle60, q_le99, q_nle99, q_le100, q_nle100, q_le300, q_nle300, q_le640, q_nle640, q_le411, q_nle411, q_mul2, q_lmul2, q_mul3, q_lmul3, q_mul5, q_lmul5, q_mul6, q_lmul6, q_mul10, q_lmul10, q_add1, q_ladd1, q_add2, q_ladd2, q_add3, q_ladd3, q_add5, q_ladd5, q_add6, q_ladd6, q_add100, q_ladd100, q_div2, q_rem2, q_div3, q_rem3, q_div6, q_rem6, q_div10, q_rem10, r1]
      · right
        change x = 1 at r1
        obtain ⟨x', μ', kn', nx', rk', e1, e2, e3⟩ := x1_pass (f_X1_pointHome_33 k (nI home) a2 36 n) i ha ht p
        refine ⟨(x', μ'), ⟨kn', nx', rk', e2, ?_⟩, ?_⟩
        · rcases e3 with e | ⟨a, b⟩
          · exact Or.inl e
          · exact Or.inr ⟨a, by omega⟩
        · show g_X1_pointHome_33 k _ a2 36 _ x (nI i) s = _
          unfold g_X1_pointHome_33
          simp (disch := omega) only [lt_k, bnv_s, bnd_s, grd_t, q_in, q_inb, q_c, q_leT, q_leF, q_ltT, q_ltF, q_neg, q_nn, q_z, q_le0, q_b0, q_b1, nI_add, nI_0, q_off, q_self, q_oth, cst_2, st_2, ↓reduceIte, f_X8_cellAt, f_X8_roadAt, q_le1, q_nle1, q_le2, q_nle2, q_le5, q_nle5, q_le6, q_nle6, q_le8, q_nle8, q_le12, q_nle12, q_le25, q_nle25, q_le36, q_nle36, q_le60, q_nle60, q_le99, q_nle99, q_le100, q_nle100, q_le300, q_nle300, q_le640, q_nle640, q_le411, q_nle411, q_mul2, q_lmul2, q_mul3, q_lmul3, q_mul5, q_lmul5, q_mul6, q_lmul6, q_mul10, q_lmul10, q_add1, q_ladd1, q_add2, q_ladd2, q_add3, q_ladd3, q_add5, q_ladd5, q_add6, q_ladd6, q_add100, q_ladd100, q_div2, q_rem2, q_div3, q_rem3, q_div6, q_rem6, q_div10, q_rem10, r1, q_10]
          exact e1
    · rintro n ⟨x, s⟩ ⟨kn1, nx1, rk1, p, r⟩
      change PP k a2 S T home μ s kn1 nx1 rk1 at p
      rcases r with ⟨r1, r2⟩ | ⟨r1, r2⟩
      · refine ⟨s, nx1, rk1, ?_, done s kn1 nx1 rk1 p r2⟩
        show g_X1_pointHome_33 k _ a2 36 _ x (nI 12) s = _
        unfold g_X1_pointHome_33
        simp (disch := omega) only [lt_k, bnv_s, bnd_s, grd_t, q_in, q_inb, q_c, q_leT, q_leF, q_ltT, q_ltF, q_neg, q_nn, q_z, q_le0, q_b0, q_b1, nI_add, nI_0, q_off, q_self, q_oth, cst_2, st_2, ↓reduceIte, f_X8_cellAt, f_X8_roadAt, q_le1, q_nle1, q_le2, q_nle2, q_le5, q_nle5, q_le6, q_nle6, q_le8, q_nle8, q_le12, q_nle12, q_le25, q_nle25, q_le36, q_nle36, q_le60, q_nle60, q_le99, q_nle99, q_le100, q_nle100, q_le300, q_nle300, q_le640, q_nle640, q_le411, q_nle411, q_mul2, q_lmul2, q_mul3, q_lmul3, q_mul5, q_lmul5, q_mul6, q_lmul6, q_mul10, q_lmul10, q_add1, q_ladd1, q_add2, q_ladd2, q_add3, q_ladd3, q_add5, q_ladd5, q_add6, q_ladd6, q_add100, q_ladd100, q_div2, q_rem2, q_div3, q_rem3, q_div6, q_rem6, q_div10, q_rem10, lt_k]
      · omega
  unfold f_X1_pointHome
  refine q_loop0 (fun n i (s : Mem) => f_X1_pointHome_2 k (nI home) a2 36 n (nI i) s) 6 (by omega) (fun i s => fr (PA k) μ s ∧ ∀ v, v < i → s.1 (k + 2) v = -1 ∧ s.1 (k + 3) v = -1)
    (fun z => ∃ μ' nx rk, z = some μ' ∧ fr (PA k) μ μ' ∧ t_ptr S T (bb (μ.1 a2)) home nx rk ∧ (∀ v, v < S → v ≠ home → μ'.1 (k + 2) v = nI (nx v - 6)) ∧ (∀ v, v < T → μ'.1 (k + 3) v = nI (nx (6 + v)))) ?_ ?_ μ ⟨fr_refl _ _, fun v h => by omega⟩
  · rintro n i s hi ⟨p1, p2⟩
    right
    refine ⟨st (st s (k + 2) i (-1)) (k + 3) i (-1), ⟨fr_st' (fr_st' p1 (by unfold PA; omega)) (by unfold PA; omega), fun v hv => ?_⟩, ?_⟩
    · simp (disch := omega) only [lt_k, bnv_s, bnd_s, grd_t, q_in, q_inb, q_c, q_leT, q_leF, q_ltT, q_ltF, q_neg, q_nn, q_z, q_le0, q_b0, q_b1, nI_add, nI_0, q_off, q_self, q_oth, cst_2, st_2, ↓reduceIte, f_X8_cellAt, f_X8_roadAt, q_le1, q_nle1, q_le2, q_nle2, q_le5, q_nle5, q_le6, q_nle6, q_le8, q_nle8, q_le12, q_nle12, q_le25, q_nle25, q_le36, q_nle36, q_le60, q_nle60, q_le99, q_nle99, q_le100, q_nle100, q_le300, q_nle300, q_le640, q_nle640, q_le411, q_nle411, q_mul2, q_lmul2, q_mul3, q_lmul3, q_mul5, q_lmul5, q_mul6, q_lmul6, q_mul10, q_lmul10, q_add1, q_ladd1, q_add2, q_ladd2, q_add3, q_ladd3, q_add5, q_ladd5, q_add6, q_ladd6, q_add100, q_ladd100, q_div2, q_rem2, q_div3, q_rem3, q_div6, q_rem6, q_div10, q_rem10, q_at]
      by_cases q : v = i
      · rw [if_pos q, if_pos q]; exact ⟨rfl, rfl⟩
      · rw [if_neg q, if_neg q]; exact p2 v (by omega)
    · show g_X1_pointHome_2 k _ a2 36 _ (nI i) s = _
      unfold g_X1_pointHome_2
      simp (disch := omega) only [lt_k, bnv_s, bnd_s, grd_t, q_in, q_inb, q_c, q_leT, q_leF, q_ltT, q_ltF, q_neg, q_nn, q_z, q_le0, q_b0, q_b1, nI_add, nI_0, q_off, q_self, q_oth, cst_2, st_2, ↓reduceIte, f_X8_cellAt, f_X8_roadAt, q_le1, q_nle1, q_le2, q_nle2, q_le5, q_nle5, q_le6, q_nle6, q_le8, q_nle8, q_le12, q_nle12, q_le25, q_nle25, q_le36, q_nle36, q_le60, q_nle60, q_le99, q_nle99, q_le100, q_nle100, q_le300, q_nle300, q_le640, q_nle640, q_le411, q_nle411, q_mul2, q_lmul2, q_mul3, q_lmul3, q_mul5, q_lmul5, q_mul6, q_lmul6, q_mul10, q_lmul10, q_add1, q_ladd1, q_add2, q_ladd2, q_add3, q_ladd3, q_add5, q_ladd5, q_add6, q_ladd6, q_add100, q_ladd100, q_div2, q_rem2, q_div3, q_rem3, q_div6, q_rem6, q_div10, q_rem10, lt_k]
  · rintro n s ⟨p1, p2⟩
    have hp : PP k a2 S T home μ s (fun v => decide (v = home)) (fun _ => 0) (fun _ => 0) := by
      refine ⟨fun v hv => ?_, (t_pi_init hh hS (fun _ => 0) (fun _ => 0) rfl).1, p1⟩
      rw [(p2 v hv).1, (p2 v hv).2, if_neg (fun r => r.2 (of_decide_eq_true r.1)), if_neg (fun r => by have := of_decide_eq_true r; omega)]
      exact ⟨rfl, rfl⟩
    obtain ⟨μ', nx, rk, r1, r2⟩ := rounds s hp
    refine ⟨μ', nx, rk, ?_, r2⟩
    show g_X1_pointHome_2 k _ a2 36 _ (nI 6) s = _
    unfold g_X1_pointHome_2
    simp (disch := omega) only [lt_k, bnv_s, bnd_s, grd_t, q_in, q_inb, q_c, q_leT, q_leF, q_ltT, q_ltF, q_neg, q_nn, q_z, q_le0, q_b0, q_b1, nI_add, nI_0, q_off, q_self, q_oth, cst_2, st_2, ↓reduceIte, f_X8_cellAt, f_X8_roadAt, q_le1, q_nle1, q_le2, q_nle2, q_le5, q_nle5, q_le6, q_nle6, q_le8, q_nle8, q_le12, q_nle12, q_le25, q_nle25, q_le36, q_nle36, q_le60, q_nle60, q_le99, q_nle99, q_le100, q_nle100, q_le300, q_nle300, q_le640, q_nle640, q_le411, q_nle411, q_mul2, q_lmul2, q_mul3, q_lmul3, q_mul5, q_lmul5, q_mul6, q_lmul6, q_mul10, q_lmul10, q_add1, q_ladd1, q_add2, q_ladd2, q_add3, q_ladd3, q_add5, q_ladd5, q_add6, q_ladd6, q_add100, q_ladd100, q_div2, q_rem2, q_div3, q_rem3, q_div6, q_rem6, q_div10, q_rem10, lt_k]
    exact r1
