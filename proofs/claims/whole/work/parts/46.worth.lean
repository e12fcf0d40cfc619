/-! THE PURE PART: the class's worths, the model's worths -/
theorem q_10 : ((1 : Int32) = 0) = False := eq_false (by decide)
theorem q_01 : ((0 : Int32) = 1) = False := eq_false (by decide)
def b01 (b : Bool) : Int32 := if b = true then 1 else 0
theorem b01_t : b01 true = 1 := rfl
theorem b01_f : b01 false = 0 := rfl
theorem b01_z {b : Bool} : b01 b = 0 ↔ b = false := by cases b <;> decide
/-- the class's rows of worths -/
def XW (k : Nat) (μ : Mem) (kn : Nat → Bool) (w : Nat → Int32) : Prop := ∀ v, v < 6 → μ.1 (k + 9) v = b01 (kn v) ∧ μ.1 (k + 10) v = b01 (kn (6 + v)) ∧ μ.1 (k + 4) v = w v ∧ μ.1 (k + 5) v = w (6 + v)
def XA (k : Nat) : Nat → Nat → Prop := fun c _ => c = k + 4 ∨ c = k + 5 ∨ c = k + 9 ∨ c = k + 10
def XP (k S T : Nat) (μ0 μ : Mem) (kn : Nat → Bool) (w : Nat → Int32) : Prop := XW k μ kn w ∧ t_wi (bb (μ0.1 (k + 3))) (μ0.1 (k + 1)) kn w ∧ fr (XA k) μ0 μ ∧ ∀ v, kn v = true → t_nd S T v
def t_cok (cost : Nat → Int32) (S T : Nat) : Prop := ∀ c, c < 36 → c / 6 < S → c % 6 < T → 0 ≤ (cost c).toInt ∧ (cost c).toInt ≤ 1100
theorem bb_t {f : Nat → Int32} {c : Nat} (hc : c < 36) (h : ¬ f c = 0) : bb f c = true := decide_eq_true ⟨hc, h⟩
theorem bb_f {f : Nat → Int32} {c : Nat} (h : bb f c = true) : ¬ f c = 0 := (of_decide_eq_true h).2
theorem x3_spread {k S T : Nat} {μ0 μ : Mem} {kn : Nat → Bool} {w : Nat → Int32} (ht : t_tree S T (bb (μ0.1 (k + 3)))) (hc : t_cok (μ0.1 (k + 1)) S T) (hp : XP k S T μ0 μ kn w) :
    ∃ x μ' kn' w', f_X3_spreadWorths k μ = some (x, μ') ∧ XP k S T μ0 μ' kn' w' ∧ ((x = 0 ∧ t_res (bb (μ0.1 (k + 3))) kn') ∨ (x = 1 ∧ t_cnt kn' 12 < t_cnt kn 12)) := by
  refine q_loop0 (fun n i (s : Int32 × Mem) => f_X3_spreadWorths_4 k n s.1 (nI i) s.2) 36 (by omega)
    (fun i s => ∃ kn' w', XP k S T μ0 s.2 kn' w' ∧ ((s.1 = 0 ∧ kn' = kn ∧ ∀ c, c < i → bb (μ0.1 (k + 3)) c = true → kn' (c / 6) = kn' (6 + c % 6)) ∨ (s.1 = 1 ∧ t_cnt kn' 12 < t_cnt kn 12)))
    (fun z => ∃ x μ' kn' w', z = some (x, μ') ∧ XP k S T μ0 μ' kn' w' ∧ ((x = 0 ∧ t_res (bb (μ0.1 (k + 3))) kn') ∨ (x = 1 ∧ t_cnt kn' 12 < t_cnt kn 12))) ?_ ?_ (0, μ) ⟨kn, w, hp, Or.inl ⟨rfl, rfl, fun c h => by omega⟩⟩
  · rintro n i ⟨x1, m⟩ hi ⟨kn1, w1, ⟨p1, p2, p3, p4⟩, p5⟩
    right
    change XW k m kn1 w1 at p1
    change fr (XA k) μ0 m at p3
    have hB : m.1 (k + 3) i = μ0.1 (k + 3) i := p3.2 _ _ (by unfold XA; omega)
    have hC : m.1 (k + 1) i = μ0.1 (k + 1) i := p3.2 _ _ (by unfold XA; omega)
    obtain ⟨a1, -, a3, -⟩ := p1 (i / 6) (by omega)
    obtain ⟨-, a2, -, a4⟩ := p1 (i % 6) (by omega)
    by_cases b0 : μ0.1 (k + 3) i = 0
    · refine ⟨(x1, m), ⟨kn1, w1, ⟨p1, p2, p3, p4⟩, ?_⟩, ?_⟩
      · rcases p5 with ⟨e1, e2, e3⟩ | e
        · refine Or.inl ⟨e1, e2, fun c hci hb => ?_⟩
          by_cases q : c = i
          · subst q; exact absurd b0 (bb_f hb)
          · exact e3 c (by omega) hb
        · exact Or.inr e
      · show g_X3_spreadWorths_4 k _ x1 (nI i) m = _
        unfold g_X3_spreadWorths_4
        simp (disch := omega) only [lt_k, bnv_s, bnd_s, grd_t, q_in, q_inb, q_c, q_leT, q_leF, q_ltT, q_ltF, q_neg, q_nn, q_z, q_le0, q_b0, q_b1, nI_add, nI_0, q_off, q_self, q_oth, cst_2, st_2, ↓reduceIte, f_X8_cellAt, f_X8_roadAt, q_le1, q_nle1, q_le2, q_nle2, q_le5, q_nle5, q_le6, q_nle6, q_le8, q_nle8, q_le12, q_nle12, q_le25, q_nle25, q_le36, q_nle36, q_le60, q_nle60, q_le99, q_nle99, q_le100, q_nle100, q_le300, q_nle300, q_le640, q_nle640, q_le411, q_nle411, q_mul2, q_lmul2, q_mul3, q_lmul3, q_mul5, q_lmul5, q_mul6, q_lmul6, q_mul10, q_lmul10, q_add1, q_ladd1, q_add2, q_ladd2, q_add3, q_ladd3, q_add5, q_ladd5, q_add6, q_ladd6, q_add100, q_ladd100, q_div2, q_rem2, q_div3, q_rem3, q_div6, q_rem6, q_div10, q_rem10, hB, b0]
    · have hb := bb_t hi b0
      have hin := ht.2.2.2.2.1 i hi hb
      have hci := hc i hi hin.1 hin.2
      -- one comes to be known
      have ext : ∀ x y, ((x = i / 6 ∧ y = 6 + i % 6) ∨ (x = 6 + i % 6 ∧ y = i / 6)) → kn1 x = false → kn1 y = true →
          ∀ m', XW k m' (t_put kn1 x true) (upd w1 x (μ0.1 (k + 1) i - w1 y)) → fr (XA k) μ0 m' → ∃ kn' w', XP k S T μ0 m' kn' w' ∧ ((1 : Int32) = 0 ∧ kn' = kn ∧ (∀ c, c < i + 1 → bb (μ0.1 (k + 3)) c = true → kn' (c / 6) = kn' (6 + c % 6)) ∨ (1 : Int32) = 1 ∧ t_cnt kn' 12 < t_cnt kn 12) := by
        intro x y hxy hx hy m' q1 q2
        have e := t_wi_ext p2 hi hb hci.1 hci.2 hxy hx hy
        refine ⟨_, _, ⟨q1, e.1, q2, fun v hv => ?_⟩, Or.inr ⟨rfl, ?_⟩⟩
        · unfold t_put at hv
          by_cases q : v = x
          · rw [q]
            rcases hxy with ⟨r, -⟩ | ⟨r, -⟩
            · rw [r]; exact Or.inl hin.1
            · rw [r]; exact Or.inr ⟨by omega, by omega⟩
          · rw [if_neg q] at hv; exact p4 v hv
        · have e2 := e.2
          rcases p5 with ⟨-, r, -⟩ | ⟨-, r⟩
          · rw [← r]; omega
          · omega
      cases e1 : kn1 (i / 6) <;> cases e2 : kn1 (6 + i % 6) <;> rw [e1] at a1 <;> rw [e2] at a2
      · refine ⟨(x1, m), ⟨kn1, w1, ⟨p1, p2, p3, p4⟩, ?_⟩, ?_⟩
        · rcases p5 with ⟨f1, f2, f3⟩ | e
          · refine Or.inl ⟨f1, f2, fun c hci hb => ?_⟩
            by_cases q : c = i
            · subst q; rw [e1, e2]
            · exact f3 c (by omega) hb
          · exact Or.inr e
        · show g_X3_spreadWorths_4 k _ x1 (nI i) m = _
          unfold g_X3_spreadWorths_4
          simp (disch := omega) only [lt_k, bnv_s, bnd_s, grd_t, q_in, q_inb, q_c, q_leT, q_leF, q_ltT, q_ltF, q_neg, q_nn, q_z, q_le0, q_b0, q_b1, nI_add, nI_0, q_off, q_self, q_oth, cst_2, st_2, ↓reduceIte, f_X8_cellAt, f_X8_roadAt, q_le1, q_nle1, q_le2, q_nle2, q_le5, q_nle5, q_le6, q_nle6, q_le8, q_nle8, q_le12, q_nle12, q_le25, q_nle25, q_le36, q_nle36, q_le60, q_nle60, q_le99, q_nle99, q_le100, q_nle100, q_le300, q_nle300, q_le640, q_nle640, q_le411, q_nle411, q_mul2, q_lmul2, q_mul3, q_lmul3, q_mul5, q_lmul5, q_mul6, q_lmul6, q_mul10, q_lmul10, q_add1, q_ladd1, q_add2, q_ladd2, q_add3, q_ladd3, q_add5, q_ladd5, q_add6, q_ladd6, q_add100, q_ladd100, q_div2, q_rem2, q_div3, q_rem3, q_div6, q_rem6, q_div10, q_rem10, hB, b0, a1, a2]
      · refine ⟨(1, st (st (st m (k + 4) (i / 6) (μ0.1 (k + 1) i - w1 (6 + i % 6))) (k + 9) (i / 6) 1) (k + 10) (i % 6) 1), ext (i / 6) (6 + i % 6) (Or.inl ⟨rfl, rfl⟩) e1 e2 _ (fun v hv => ?_) (fr_st' (fr_st' (fr_st' p3 ?_) ?_) ?_), ?_⟩
        · obtain ⟨r1, r2, r3, r4⟩ := p1 v hv
          simp (disch := omega) only [lt_k, bnv_s, bnd_s, grd_t, q_in, q_inb, q_c, q_leT, q_leF, q_ltT, q_ltF, q_neg, q_nn, q_z, q_le0, q_b0, q_b1, nI_add, nI_0, q_off, q_self, q_oth, cst_2, st_2, ↓reduceIte, f_X8_cellAt, f_X8_roadAt, q_le1, q_nle1, q_le2, q_nle2, q_le5, q_nle5, q_le6, q_nle6, q_le8, q_nle8, q_le12, q_nle12, q_le25, q_nle25, q_le36, q_nle36, q_le60, q_nle60, q_le99, q_nle99, q_le100, q_nle100, q_le300, q_nle300, q_le640, q_nle640, q_le411, q_nle411, q_mul2, q_lmul2, q_mul3, q_lmul3, q_mul5, q_lmul5, q_mul6, q_lmul6, q_mul10, q_lmul10, q_add1, q_ladd1, q_add2, q_ladd2, q_add3, q_ladd3, q_add5, q_ladd5, q_add6, q_ladd6, q_add100, q_ladd100, q_div2, q_rem2, q_div3, q_rem3, q_div6, q_rem6, q_div10, q_rem10, q_at, r1, r2, r3, r4]
          unfold t_put upd
          rw [if_neg (show ¬ 6 + v = i / 6 by omega), if_neg (show ¬ 6 + v = i / 6 by omega)]
          refine ⟨?_, ?_, rfl, rfl⟩
          · by_cases q : v = i / 6
            · rw [if_pos q, if_pos q]; rfl
            · rw [if_neg q, if_neg q]
          · by_cases q : v = i % 6
            · rw [if_pos q, q, e2]; rfl
            · rw [if_neg q]
        all_goals try (unfold XA; omega)
        show g_X3_spreadWorths_4 k _ x1 (nI i) m = _
        unfold g_X3_spreadWorths_4 f_X3_spreadWorths_101
        simp (disch := omega) only [lt_k, bnv_s, bnd_s, grd_t, q_in, q_inb, q_c, q_leT, q_leF, q_ltT, q_ltF, q_neg, q_nn, q_z, q_le0, q_b0, q_b1, nI_add, nI_0, q_off, q_self, q_oth, cst_2, st_2, ↓reduceIte, f_X8_cellAt, f_X8_roadAt, q_le1, q_nle1, q_le2, q_nle2, q_le5, q_nle5, q_le6, q_nle6, q_le8, q_nle8, q_le12, q_nle12, q_le25, q_nle25, q_le36, q_nle36, q_le60, q_nle60, q_le99, q_nle99, q_le100, q_nle100, q_le300, q_nle300, q_le640, q_nle640, q_le411, q_nle411, q_mul2, q_lmul2, q_mul3, q_lmul3, q_mul5, q_lmul5, q_mul6, q_lmul6, q_mul10, q_lmul10, q_add1, q_ladd1, q_add2, q_ladd2, q_add3, q_ladd3, q_add5, q_ladd5, q_add6, q_ladd6, q_add100, q_ladd100, q_div2, q_rem2, q_div3, q_rem3, q_div6, q_rem6, q_div10, q_rem10, hB, b0, a1, a2, hC, a4, b01_t, b01_f, q_01]
      · refine ⟨(1, st (st (st m (k + 5) (i % 6) (μ0.1 (k + 1) i - w1 (i / 6))) (k + 9) (i / 6) 1) (k + 10) (i % 6) 1), ext (6 + i % 6) (i / 6) (Or.inr ⟨rfl, rfl⟩) e2 e1 _ (fun v hv => ?_) (fr_st' (fr_st' (fr_st' p3 ?_) ?_) ?_), ?_⟩
        · obtain ⟨r1, r2, r3, r4⟩ := p1 v hv
          simp (disch := omega) only [lt_k, bnv_s, bnd_s, grd_t, q_in, q_inb, q_c, q_leT, q_leF, q_ltT, q_ltF, q_neg, q_nn, q_z, q_le0, q_b0, q_b1, nI_add, nI_0, q_off, q_self, q_oth, cst_2, st_2, ↓reduceIte, f_X8_cellAt, f_X8_roadAt, q_le1, q_nle1, q_le2, q_nle2, q_le5, q_nle5, q_le6, q_nle6, q_le8, q_nle8, q_le12, q_nle12, q_le25, q_nle25, q_le36, q_nle36, q_le60, q_nle60, q_le99, q_nle99, q_le100, q_nle100, q_le300, q_nle300, q_le640, q_nle640, q_le411, q_nle411, q_mul2, q_lmul2, q_mul3, q_lmul3, q_mul5, q_lmul5, q_mul6, q_lmul6, q_mul10, q_lmul10, q_add1, q_ladd1, q_add2, q_ladd2, q_add3, q_ladd3, q_add5, q_ladd5, q_add6, q_ladd6, q_add100, q_ladd100, q_div2, q_rem2, q_div3, q_rem3, q_div6, q_rem6, q_div10, q_rem10, q_at, r1, r2, r3, r4]
          unfold t_put upd
          rw [if_neg (show ¬ v = 6 + i % 6 by omega), if_neg (show ¬ v = 6 + i % 6 by omega)]
          refine ⟨?_, ?_, rfl, ?_⟩
          · by_cases q : v = i / 6
            · rw [if_pos q, q, e1]; rfl
            · rw [if_neg q]
          · by_cases q : v = i % 6
            · rw [if_pos q, if_pos (by omega)]; rfl
            · rw [if_neg q, if_neg (by omega)]
          · by_cases q : v = i % 6
            · rw [if_pos q, if_pos (by omega)]
            · rw [if_neg q, if_neg (by omega)]
        all_goals try (unfold XA; omega)
        show g_X3_spreadWorths_4 k _ x1 (nI i) m = _
        unfold g_X3_spreadWorths_4 f_X3_spreadWorths_101
        simp (disch := omega) only [lt_k, bnv_s, bnd_s, grd_t, q_in, q_inb, q_c, q_leT, q_leF, q_ltT, q_ltF, q_neg, q_nn, q_z, q_le0, q_b0, q_b1, nI_add, nI_0, q_off, q_self, q_oth, cst_2, st_2, ↓reduceIte, f_X8_cellAt, f_X8_roadAt, q_le1, q_nle1, q_le2, q_nle2, q_le5, q_nle5, q_le6, q_nle6, q_le8, q_nle8, q_le12, q_nle12, q_le25, q_nle25, q_le36, q_nle36, q_le60, q_nle60, q_le99, q_nle99, q_le100, q_nle100, q_le300, q_nle300, q_le640, q_nle640, q_le411, q_nle411, q_mul2, q_lmul2, q_mul3, q_lmul3, q_mul5, q_lmul5, q_mul6, q_lmul6, q_mul10, q_lmul10, q_add1, q_ladd1, q_add2, q_ladd2, q_add3, q_ladd3, q_add5, q_ladd5, q_add6, q_ladd6, q_add100, q_ladd100, q_div2, q_rem2, q_div3, q_rem3, q_div6, q_rem6, q_div10, q_rem10, hB, b0, a1, a2, hC, a3, b01_t, b01_f, q_10]
      · refine ⟨(x1, m), ⟨kn1, w1, ⟨p1, p2, p3, p4⟩, ?_⟩, ?_⟩
        · rcases p5 with ⟨f1, f2, f3⟩ | e
          · refine Or.inl ⟨f1, f2, fun c hci hb => ?_⟩
            by_cases q : c = i
            · subst q; rw [e1, e2]
            · exact f3 c (by omega) hb
          · exact Or.inr e
        · show g_X3_spreadWorths_4 k _ x1 (nI i) m = _
          unfold g_X3_spreadWorths_4
          simp (disch := omega) only [lt_k, bnv_s, bnd_s, grd_t, q_in, q_inb, q_c, q_leT, q_leF, q_ltT, q_ltF, q_neg, q_nn, q_z, q_le0, q_b0, q_b1, nI_add, nI_0, q_off, q_self, q_oth, cst_2, st_2, ↓reduceIte, f_X8_cellAt, f_X8_roadAt, q_le1, q_nle1, q_le2, q_nle2, q_le5, q_nle5, q_le6, q_nle6, q_le8, q_nle8, q_le12, q_nle12, q_le25, q_nle25, q_le36, q_nle36, q_le60, q_nle60, q_le99, q_nle99, q_le100, q_nle100, q_le300, q_nle300, q_le640, q_nle640, q_le411, q_nle411, q_mul2, q_lmul2, q_mul3, q_lmul3, q_mul5, q_lmul5, q_mul6, q_lmul6, q_mul10, q_lmul10, q_add1, q_ladd1, q_add2, q_ladd2, q_add3, q_ladd3, q_add5, q_ladd5, q_add6, q_ladd6, q_add100, q_ladd100, q_div2, q_rem2, q_div3, q_rem3, q_div6, q_rem6, q_div10, q_rem10, hB, b0, a1, a2]
  · rintro n ⟨x1, m⟩ ⟨kn1, w1, p, p5⟩
    refine ⟨x1, m, kn1, w1, ?_, p, ?_⟩
    · show g_X3_spreadWorths_4 k _ x1 (nI 36) m = _
      unfold g_X3_spreadWorths_4
      rcases p5 with ⟨e, -⟩ | ⟨e, -⟩ <;> subst e <;> simp (disch := omega) only [lt_k, bnv_s, bnd_s, grd_t, q_in, q_inb, q_c, q_leT, q_leF, q_ltT, q_ltF, q_neg, q_nn, q_z, q_le0, q_b0, q_b1, nI_add, nI_0, q_off, q_self, q_oth, cst_2, st_2, ↓reduceIte, f_X8_cellAt, f_X8_roadAt, q_le1, q_nle1, q_le2, q_nle2, q_le5, q_nle5, q_le6, q_nle6, q_le8, q_nle8, q_le12, q_nle12, q_le25, q_nle25, q_le36, q_nle36, q_le60, q_nle60, q_le99, q_nle99, q_le100, q_nle100, q_le300, q_nle300, q_le640, q_nle640, q_le411, q_nle411, q_mul2, q_lmul2, q_mul3, q_lmul3, q_mul5, q_lmul5, q_mul6, q_lmul6, q_mul10, q_lmul10, q_add1, q_ladd1, q_add2, q_ladd2, q_add3, q_ladd3, q_add5, q_ladd5, q_add6, q_ladd6, q_add100, q_ladd100, q_div2, q_rem2, q_div3, q_rem3, q_div6, q_rem6, q_div10, q_rem10, lt_k]
    · rcases p5 with ⟨e1, e2, e3⟩ | e
      · exact Or.inl ⟨e1, e3⟩
      · exact Or.inr e
/-- the class's worths -/
def xw (k : Nat) (μ : Mem) : Nat → Int32 := fun v => if v < 6 then μ.1 (k + 4) v else μ.1 (k + 5) (v - 6)
theorem xw_of {k : Nat} {μ : Mem} {kn : Nat → Bool} {w : Nat → Int32} (h : XW k μ kn w) : ∀ v, v < 12 → xw k μ v = w v := by
  intro v hv
  unfold xw
  by_cases q : v < 6
  · rw [if_pos q]; exact (h v q).2.2.1
  · rw [if_neg q, (h (v - 6) (by omega)).2.2.2]
    congr 1; omega
theorem t_W_of {S T : Nat} {B : Nat → Bool} (h : t_tree S T B) {cost w w' : Nat → Int32} (a : t_W S T B cost w) (e : ∀ v, v < 12 → w' v = w v) : t_W S T B cost w' := by
  refine ⟨by rw [e 0 (by omega)]; exact a.1, fun c hc hb => ?_, fun v hv => ?_⟩
  · rw [e _ (by omega), e _ (by omega)]; exact a.2.1 c hc hb
  · rw [e v (t_nd_lt h hv)]; exact a.2.2 v hv
theorem x3_reckon {k S T : Nat} {μ : Mem} (h1 : μ.1 k 1 = nI S) (h2 : μ.1 k 2 = nI T) (ht : t_tree S T (bb (μ.1 (k + 3)))) (hc : t_cok (μ.1 (k + 1)) S T) :
    ∃ μ', f_X3_reckonWorths k μ = some μ' ∧ fr (XA k) μ μ' ∧ t_W S T (bb (μ.1 (k + 3))) (μ.1 (k + 1)) (xw k μ') := by
  have rounds : ∀ kn w m, XP k S T μ m kn w → t_cnt kn 12 = 11 → ∃ μ', f_X3_reckonWorths_44 k FU 0 m = some μ' ∧ fr (XA k) μ μ' ∧ t_W S T (bb (μ.1 (k + 3))) (μ.1 (k + 1)) (xw k μ') := by
    intro kn w m hp hcnt
    have hS := ht.2.1
    have hT := ht.2.2.2.1
    refine q_loop0 (fun n i (s : Mem) => f_X3_reckonWorths_44 k n (nI i) s) (S + T) (by omega) (fun i s => ∃ kn' w', XP k S T μ s kn' w' ∧ t_cnt kn' 12 + i ≤ 11)
      (fun z => ∃ μ', z = some μ' ∧ fr (XA k) μ μ' ∧ t_W S T (bb (μ.1 (k + 3))) (μ.1 (k + 1)) (xw k μ')) ?_ ?_ m ⟨kn, w, hp, by omega⟩
    · rintro n i s hi ⟨kn1, w1, p, pc⟩
      obtain ⟨x, μ', kn2, w2, e, p', r⟩ := x3_spread ht hc p
      have f1 : s.1 k 1 = nI S := by rw [p.2.2.1.2 k 1 (by unfold XA; omega)]; exact h1
      have f2 : s.1 k 2 = nI T := by rw [p.2.2.1.2 k 2 (by unfold XA; omega)]; exact h2
      rcases r with ⟨r1, r2⟩ | ⟨r1, r2⟩
      · left
        refine ⟨μ', ?_, p'.2.2.1, t_W_of ht (t_wi_all ht p'.2.1 r2) (xw_of p'.1)⟩
        show g_X3_reckonWorths_44 k _ (nI i) s = _
        unfold g_X3_reckonWorths_44
        simp (disch := omega) only [lt_k, bnv_s, bnd_s, grd_t, q_in, q_inb, q_c, q_leT, q_leF, q_ltT, q_ltF, q_neg, q_nn, q_z, q_le0, q_b0, q_b1, nI_add, nI_0, q_off, q_self, q_oth, cst_2, st_2, ↓reduceIte, f_X8_cellAt, f_X8_roadAt, q_le1, q_nle1, q_le2, q_nle2, q_le5, q_nle5, q_le6, q_nle6, q_le8, q_nle8, q_le12, q_nle12, q_le25, q_nle25, q_le36, q_nle36, q_le60, q_nle60, q_le99, q_nle99, q_le100, q_nle100, q_le300, q_nle300, q_le640, q_nle640, q_le411, q_nle411, q_mul2, q_lmul2, q_mul3, q_lmul3, q_mul5, q_lmul5, q_mul6, q_lmul6, q_mul10, q_lmul10, q_add1, q_ladd1, q_add2, q_ladd2, q_add3, q_ladd3, q_add5, q_ladd5, q_add6, q_ladd6, q_add100, q_ladd100, q_div2, q_rem2, q_div3, q_rem3, q_div6, q_rem6, q_div10, q_rem10, f1, f2, e, r1]
      · right
        refine ⟨μ', ⟨kn2, w2, p', by omega⟩, ?_⟩
        show g_X3_reckonWorths_44 k _ (nI i) s = _
        unfold g_X3_reckonWorths_44
        simp (disch := omega) only [lt_k, bnv_s, bnd_s, grd_t, q_in, q_inb, q_c, q_leT, q_leF, q_ltT, q_ltF, q_neg, q_nn, q_z, q_le0, q_b0, q_b1, nI_add, nI_0, q_off, q_self, q_oth, cst_2, st_2, ↓reduceIte, f_X8_cellAt, f_X8_roadAt, q_le1, q_nle1, q_le2, q_nle2, q_le5, q_nle5, q_le6, q_nle6, q_le8, q_nle8, q_le12, q_nle12, q_le25, q_nle25, q_le36, q_nle36, q_le60, q_nle60, q_le99, q_nle99, q_le100, q_nle100, q_le300, q_nle300, q_le640, q_nle640, q_le411, q_nle411, q_mul2, q_lmul2, q_mul3, q_lmul3, q_mul5, q_lmul5, q_mul6, q_lmul6, q_mul10, q_lmul10, q_add1, q_ladd1, q_add2, q_ladd2, q_add3, q_ladd3, q_add5, q_ladd5, q_add6, q_ladd6, q_add100, q_ladd100, q_div2, q_rem2, q_div3, q_rem3, q_div6, q_rem6, q_div10, q_rem10, f1, f2, e, r1, q_10]
    · rintro n s ⟨kn1, w1, p, pc⟩
      have := t_cnt_in hS hT p.2.2.2
      omega
  unfold f_X3_reckonWorths
  refine q_loop0 (fun n i (s : Mem) => f_X3_reckonWorths_2 k n (nI i) s) 6 (by omega) (fun i s => fr (XA k) μ s ∧ ∀ v, v < i → s.1 (k + 9) v = 0 ∧ s.1 (k + 10) v = 0)
    (fun z => ∃ μ', z = some μ' ∧ fr (XA k) μ μ' ∧ t_W S T (bb (μ.1 (k + 3))) (μ.1 (k + 1)) (xw k μ')) ?_ ?_ μ ⟨fr_refl _ _, fun v h => by omega⟩
  · rintro n i s hi ⟨p1, p2⟩
    right
    refine ⟨st (st s (k + 9) i 0) (k + 10) i 0, ⟨fr_st' (fr_st' p1 (by unfold XA; omega)) (by unfold XA; omega), fun v hv => ?_⟩, ?_⟩
    · simp (disch := omega) only [lt_k, bnv_s, bnd_s, grd_t, q_in, q_inb, q_c, q_leT, q_leF, q_ltT, q_ltF, q_neg, q_nn, q_z, q_le0, q_b0, q_b1, nI_add, nI_0, q_off, q_self, q_oth, cst_2, st_2, ↓reduceIte, f_X8_cellAt, f_X8_roadAt, q_le1, q_nle1, q_le2, q_nle2, q_le5, q_nle5, q_le6, q_nle6, q_le8, q_nle8, q_le12, q_nle12, q_le25, q_nle25, q_le36, q_nle36, q_le60, q_nle60, q_le99, q_nle99, q_le100, q_nle100, q_le300, q_nle300, q_le640, q_nle640, q_le411, q_nle411, q_mul2, q_lmul2, q_mul3, q_lmul3, q_mul5, q_lmul5, q_mul6, q_lmul6, q_mul10, q_lmul10, q_add1, q_ladd1, q_add2, q_ladd2, q_add3, q_ladd3, q_add5, q_ladd5, q_add6, q_ladd6, q_add100, q_ladd100, q_div2, q_rem2, q_div3, q_rem3, q_div6, q_rem6, q_div10, q_rem10, q_at]
      by_cases q : v = i
      · rw [if_pos q, if_pos q]; exact ⟨rfl, rfl⟩
      · rw [if_neg q, if_neg q]; exact p2 v (by omega)
    · show g_X3_reckonWorths_2 k _ (nI i) s = _
      unfold g_X3_reckonWorths_2
      simp (disch := omega) only [lt_k, bnv_s, bnd_s, grd_t, q_in, q_inb, q_c, q_leT, q_leF, q_ltT, q_ltF, q_neg, q_nn, q_z, q_le0, q_b0, q_b1, nI_add, nI_0, q_off, q_self, q_oth, cst_2, st_2, ↓reduceIte, f_X8_cellAt, f_X8_roadAt, q_le1, q_nle1, q_le2, q_nle2, q_le5, q_nle5, q_le6, q_nle6, q_le8, q_nle8, q_le12, q_nle12, q_le25, q_nle25, q_le36, q_nle36, q_le60, q_nle60, q_le99, q_nle99, q_le100, q_nle100, q_le300, q_nle300, q_le640, q_nle640, q_le411, q_nle411, q_mul2, q_lmul2, q_mul3, q_lmul3, q_mul5, q_lmul5, q_mul6, q_lmul6, q_mul10, q_lmul10, q_add1, q_ladd1, q_add2, q_ladd2, q_add3, q_ladd3, q_add5, q_ladd5, q_add6, q_ladd6, q_add100, q_ladd100, q_div2, q_rem2, q_div3, q_rem3, q_div6, q_rem6, q_div10, q_rem10, lt_k]
  · rintro n s ⟨p1, p2⟩
    have e0 : grd (inb 0 6) = fun (z : Option Mem) => z := by funext z; rfl
    have e1 : (0 : Int32).toNatClampNeg = 0 := rfl
    have hr := rounds (fun v => decide (v = 0)) (xw k (st (st s (k + 4) 0 0) (k + 9) 0 1)) (st (st s (k + 4) 0 0) (k + 9) 0 1) ⟨fun v hv => ?_, t_wi_init ?_, fr_st' (fr_st' p1 (by unfold XA; omega)) (by unfold XA; omega), fun v hv => ?_⟩ ((t_pi_init (T := T) (B := fun _ => true) ht.1 ht.2.1 (fun _ => 0) (fun _ => 0) rfl).2)
    · obtain ⟨μ', r1, r2⟩ := hr
      refine ⟨μ', ?_, r2⟩
      show g_X3_reckonWorths_2 k _ (nI 6) s = _
      unfold g_X3_reckonWorths_2
      simp (disch := omega) only [lt_k, bnv_s, bnd_s, grd_t, q_in, q_inb, q_c, q_leT, q_leF, q_ltT, q_ltF, q_neg, q_nn, q_z, q_le0, q_b0, q_b1, nI_add, nI_0, q_off, q_self, q_oth, cst_2, st_2, ↓reduceIte, f_X8_cellAt, f_X8_roadAt, q_le1, q_nle1, q_le2, q_nle2, q_le5, q_nle5, q_le6, q_nle6, q_le8, q_nle8, q_le12, q_nle12, q_le25, q_nle25, q_le36, q_nle36, q_le60, q_nle60, q_le99, q_nle99, q_le100, q_nle100, q_le300, q_nle300, q_le640, q_nle640, q_le411, q_nle411, q_mul2, q_lmul2, q_mul3, q_lmul3, q_mul5, q_lmul5, q_mul6, q_lmul6, q_mul10, q_lmul10, q_add1, q_ladd1, q_add2, q_ladd2, q_add3, q_ladd3, q_add5, q_ladd5, q_add6, q_ladd6, q_add100, q_ladd100, q_div2, q_rem2, q_div3, q_rem3, q_div6, q_rem6, q_div10, q_rem10, e0, e1]
      exact r1
    · unfold xw
      rw [if_pos hv, if_neg (by omega), show 6 + v - 6 = v by omega]
      simp (disch := omega) only [lt_k, bnv_s, bnd_s, grd_t, q_in, q_inb, q_c, q_leT, q_leF, q_ltT, q_ltF, q_neg, q_nn, q_z, q_le0, q_b0, q_b1, nI_add, nI_0, q_off, q_self, q_oth, cst_2, st_2, ↓reduceIte, f_X8_cellAt, f_X8_roadAt, q_le1, q_nle1, q_le2, q_nle2, q_le5, q_nle5, q_le6, q_nle6, q_le8, q_nle8, q_le12, q_nle12, q_le25, q_nle25, q_le36, q_nle36, q_le60, q_nle60, q_le99, q_nle99, q_le100, q_nle100, q_le300, q_nle300, q_le640, q_nle640, q_le411, q_nle411, q_mul2, q_lmul2, q_mul3, q_lmul3, q_mul5, q_lmul5, q_mul6, q_lmul6, q_mul10, q_lmul10, q_add1, q_ladd1, q_add2, q_ladd2, q_add3, q_ladd3, q_add5, q_ladd5, q_add6, q_ladd6, q_add100, q_ladd100, q_div2, q_rem2, q_div3, q_rem3, q_div6, q_rem6, q_div10, q_rem10, q_at]
      refine ⟨?_, ?_, trivial, trivial⟩
      · by_cases q : v = 0
        · rw [if_pos q, q]; rfl
        · rw [if_neg q, (p2 v hv).1, decide_eq_false q]; rfl
      · rw [(p2 v hv).2, decide_eq_false (by omega)]; rfl
    · unfold xw
      rw [if_pos (by omega)]
      simp (disch := omega) only [lt_k, bnv_s, bnd_s, grd_t, q_in, q_inb, q_c, q_leT, q_leF, q_ltT, q_ltF, q_neg, q_nn, q_z, q_le0, q_b0, q_b1, nI_add, nI_0, q_off, q_self, q_oth, cst_2, st_2, ↓reduceIte, f_X8_cellAt, f_X8_roadAt, q_le1, q_nle1, q_le2, q_nle2, q_le5, q_nle5, q_le6, q_nle6, q_le8, q_nle8, q_le12, q_nle12, q_le25, q_nle25, q_le36, q_nle36, q_le60, q_nle60, q_le99, q_nle99, q_le100, q_nle100, q_le300, q_nle300, q_le640, q_nle640, q_le411, q_nle411, q_mul2, q_lmul2, q_mul3, q_lmul3, q_mul5, q_lmul5, q_mul6, q_lmul6, q_mul10, q_lmul10, q_add1, q_ladd1, q_add2, q_ladd2, q_add3, q_ladd3, q_add5, q_ladd5, q_add6, q_ladd6, q_add100, q_ladd100, q_div2, q_rem2, q_div3, q_rem3, q_div6, q_rem6, q_div10, q_rem10, q_at]
    · rw [of_decide_eq_true hv]; exact Or.inl ht.1

/-! the model's worths -/
def MW (μ : Mem) (kn : Nat → Bool) : Prop := ∀ v, v < 12 → μ.1 143 v = b01 (kn v)
def MA : Nat → Nat → Prop := fun c _ => c = 142 ∨ c = 143
def MP (S T : Nat) (μ0 μ : Mem) (kn : Nat → Bool) : Prop := MW μ kn ∧ t_wi (bb (μ0.1 129)) (μ0.1 127) kn (μ.1 142) ∧ fr MA μ0 μ ∧ ∀ v, kn v = true → t_nd S T v
theorem bb_1 {f : Nat → Int32} {c : Nat} (hc : c < 36) (hb : f c = 0 ∨ f c = 1) : (f c = 1) ↔ bb f c = true := by
  unfold bb
  rcases hb with e | e <;> rw [e]
  · rw [decide_eq_false (fun q => q.2 rfl)]; decide
  · rw [decide_eq_true ⟨hc, (by decide)⟩]; decide
theorem x9_valpass {S T : Nat} {μ0 : Mem} {kn : Nat → Bool} (q38 : Int32 → Mem → Option Mem) (ht : t_tree S T (bb (μ0.1 129))) (hc : t_cok (μ0.1 127) S T) (h01 : ∀ c, c < 36 → μ0.1 129 c = 0 ∨ μ0.1 129 c = 1) {μ : Mem} (hp : MP S T μ0 μ kn) :
    ∃ x μ' kn', f_X9_values_46 q38 FU 0 0 μ = q38 x μ' ∧ MP S T μ0 μ' kn' ∧ ((x = 0 ∧ kn' = kn ∧ t_res (bb (μ0.1 129)) kn') ∨ (x = 1 ∧ t_cnt kn' 12 < t_cnt kn 12)) := by
  refine q_loop0 (fun n i (s : Int32 × Mem) => f_X9_values_46 q38 n s.1 (nI i) s.2) 36 (by omega)
    (fun i s => ∃ kn', MP S T μ0 s.2 kn' ∧ ((s.1 = 0 ∧ kn' = kn ∧ ∀ c, c < i → bb (μ0.1 129) c = true → kn' (c / 6) = kn' (6 + c % 6)) ∨ (s.1 = 1 ∧ t_cnt kn' 12 < t_cnt kn 12)))
    (fun z => ∃ x μ' kn', z = q38 x μ' ∧ MP S T μ0 μ' kn' ∧ ((x = 0 ∧ kn' = kn ∧ t_res (bb (μ0.1 129)) kn') ∨ (x = 1 ∧ t_cnt kn' 12 < t_cnt kn 12))) ?_ ?_ (0, μ) ⟨kn, hp, Or.inl ⟨rfl, rfl, fun c h => by omega⟩⟩
  · rintro n i ⟨x1, m⟩ hi ⟨kn1, ⟨p1, p2, p3, p4⟩, p5⟩
    right
    change MW m kn1 at p1
    change fr MA μ0 m at p3
    change t_wi _ _ kn1 (m.1 142) at p2
    have hB : m.1 129 i = μ0.1 129 i := p3.2 _ _ (by unfold MA; omega)
    have hC : m.1 127 i = μ0.1 127 i := p3.2 _ _ (by unfold MA; omega)
    have a1 := p1 (i / 6) (by omega)
    have a2 := p1 (6 + i % 6) (by omega)
    have same : bb (μ0.1 129) i = false ∨ kn1 (i / 6) = kn1 (6 + i % 6) → ∃ kn', MP S T μ0 m kn' ∧ ((x1 = 0 ∧ kn' = kn ∧ ∀ c, c < i + 1 → bb (μ0.1 129) c = true → kn' (c / 6) = kn' (6 + c % 6)) ∨ (x1 = 1 ∧ t_cnt kn' 12 < t_cnt kn 12)) := by
      intro hs
      refine ⟨kn1, ⟨p1, p2, p3, p4⟩, ?_⟩
      rcases p5 with ⟨e1, e2, e3⟩ | e
      · refine Or.inl ⟨e1, e2, fun c hci hb => ?_⟩
        by_cases q : c = i
        · subst q
          rcases hs with r | r
          · rw [r] at hb; cases hb
          · exact r
        · exact e3 c (by omega) hb
      · exact Or.inr e
    cases hb : bb (μ0.1 129) i
    · refine ⟨(x1, m), same (Or.inl hb), ?_⟩
      show g_X9_values_46 q38 _ x1 (nI i) m = _
      unfold g_X9_values_46
      have : ¬ μ0.1 129 i = 1 := fun e => by rw [(bb_1 hi (h01 i hi)).mp e] at hb; cases hb
      simp (disch := omega) only [lt_k, bnv_s, bnd_s, grd_t, q_in, q_inb, q_c, q_leT, q_leF, q_ltT, q_ltF, q_neg, q_nn, q_z, q_le0, q_b0, q_b1, nI_add, nI_0, q_off, q_self, q_oth, cst_2, st_2, ↓reduceIte, f_X8_cellAt, f_X8_roadAt, q_le1, q_nle1, q_le2, q_nle2, q_le5, q_nle5, q_le6, q_nle6, q_le8, q_nle8, q_le12, q_nle12, q_le25, q_nle25, q_le36, q_nle36, q_le60, q_nle60, q_le99, q_nle99, q_le100, q_nle100, q_le300, q_nle300, q_le640, q_nle640, q_le411, q_nle411, q_mul2, q_lmul2, q_mul3, q_lmul3, q_mul5, q_lmul5, q_mul6, q_lmul6, q_mul10, q_lmul10, q_add1, q_ladd1, q_add2, q_ladd2, q_add3, q_ladd3, q_add5, q_ladd5, q_add6, q_ladd6, q_add100, q_ladd100, q_div2, q_rem2, q_div3, q_rem3, q_div6, q_rem6, q_div10, q_rem10, hB, this]
    · have hb1 := (bb_1 hi (h01 i hi)).mpr hb
      have hin := ht.2.2.2.2.1 i hi hb
      have hci := hc i hi hin.1 hin.2
      have ext : ∀ x y, ((x = i / 6 ∧ y = 6 + i % 6) ∨ (x = 6 + i % 6 ∧ y = i / 6)) → kn1 x = false → kn1 y = true →
          ∃ kn', MP S T μ0 (st (st m 142 x (μ0.1 127 i - m.1 142 y)) 143 x 1) kn' ∧ ((1 : Int32) = 0 ∧ kn' = kn ∧ (∀ c, c < i + 1 → bb (μ0.1 129) c = true → kn' (c / 6) = kn' (6 + c % 6)) ∨ (1 : Int32) = 1 ∧ t_cnt kn' 12 < t_cnt kn 12) := by
        intro x y hxy hx hy
        have e := t_wi_ext p2 hi hb hci.1 hci.2 hxy hx hy
        refine ⟨t_put kn1 x true, ⟨fun v hv => ?_, ?_, fr_st' (fr_st' p3 (by unfold MA; omega)) (by unfold MA; omega), fun v hv => ?_⟩, Or.inr ⟨rfl, ?_⟩⟩
        · simp (disch := omega) only [lt_k, bnv_s, bnd_s, grd_t, q_in, q_inb, q_c, q_leT, q_leF, q_ltT, q_ltF, q_neg, q_nn, q_z, q_le0, q_b0, q_b1, nI_add, nI_0, q_off, q_self, q_oth, cst_2, st_2, ↓reduceIte, f_X8_cellAt, f_X8_roadAt, q_le1, q_nle1, q_le2, q_nle2, q_le5, q_nle5, q_le6, q_nle6, q_le8, q_nle8, q_le12, q_nle12, q_le25, q_nle25, q_le36, q_nle36, q_le60, q_nle60, q_le99, q_nle99, q_le100, q_nle100, q_le300, q_nle300, q_le640, q_nle640, q_le411, q_nle411, q_mul2, q_lmul2, q_mul3, q_lmul3, q_mul5, q_lmul5, q_mul6, q_lmul6, q_mul10, q_lmul10, q_add1, q_ladd1, q_add2, q_ladd2, q_add3, q_ladd3, q_add5, q_ladd5, q_add6, q_ladd6, q_add100, q_ladd100, q_div2, q_rem2, q_div3, q_rem3, q_div6, q_rem6, q_div10, q_rem10, q_at, p1 v hv]
          unfold t_put
          by_cases q : v = x
          · rw [if_pos q, if_pos q]; rfl
          · rw [if_neg q, if_neg q]
        · have ew : (st (st m 142 x (μ0.1 127 i - m.1 142 y)) 143 x 1).1 142 = upd (m.1 142) x (μ0.1 127 i - m.1 142 y) := by
            funext v
            simp (disch := omega) only [lt_k, bnv_s, bnd_s, grd_t, q_in, q_inb, q_c, q_leT, q_leF, q_ltT, q_ltF, q_neg, q_nn, q_z, q_le0, q_b0, q_b1, nI_add, nI_0, q_off, q_self, q_oth, cst_2, st_2, ↓reduceIte, f_X8_cellAt, f_X8_roadAt, q_le1, q_nle1, q_le2, q_nle2, q_le5, q_nle5, q_le6, q_nle6, q_le8, q_nle8, q_le12, q_nle12, q_le25, q_nle25, q_le36, q_nle36, q_le60, q_nle60, q_le99, q_nle99, q_le100, q_nle100, q_le300, q_nle300, q_le640, q_nle640, q_le411, q_nle411, q_mul2, q_lmul2, q_mul3, q_lmul3, q_mul5, q_lmul5, q_mul6, q_lmul6, q_mul10, q_lmul10, q_add1, q_ladd1, q_add2, q_ladd2, q_add3, q_ladd3, q_add5, q_ladd5, q_add6, q_ladd6, q_add100, q_ladd100, q_div2, q_rem2, q_div3, q_rem3, q_div6, q_rem6, q_div10, q_rem10, q_at]
            rfl
          rw [ew]
          exact e.1
        · unfold t_put at hv
          by_cases q : v = x
          · rw [q]
            rcases hxy with ⟨r, -⟩ | ⟨r, -⟩
            · rw [r]; exact Or.inl hin.1
            · rw [r]; exact Or.inr ⟨by omega, by omega⟩
          · rw [if_neg q] at hv; exact p4 v hv
        · have e2 := e.2
          rcases p5 with ⟨-, r, -⟩ | ⟨-, r⟩
          · rw [← r]; omega
          · omega
      have e1m : nI (i / 6) + nI (6 + i % 6) - nI (i / 6) = nI (6 + i % 6) := by rw [Int32.add_comm, Int32.add_sub_cancel]
      have e2m : nI (i / 6) + nI (6 + i % 6) - nI (6 + i % 6) = nI (i / 6) := Int32.add_sub_cancel _ _
      cases e1 : kn1 (i / 6) <;> cases e2 : kn1 (6 + i % 6) <;> rw [e1] at a1 <;> rw [e2] at a2
      · refine ⟨(x1, m), same (Or.inr (e1.trans e2.symm)), ?_⟩
        show g_X9_values_46 q38 _ x1 (nI i) m = _
        unfold g_X9_values_46
        simp (disch := omega) only [lt_k, bnv_s, bnd_s, grd_t, q_in, q_inb, q_c, q_leT, q_leF, q_ltT, q_ltF, q_neg, q_nn, q_z, q_le0, q_b0, q_b1, nI_add, nI_0, q_off, q_self, q_oth, cst_2, st_2, ↓reduceIte, f_X8_cellAt, f_X8_roadAt, q_le1, q_nle1, q_le2, q_nle2, q_le5, q_nle5, q_le6, q_nle6, q_le8, q_nle8, q_le12, q_nle12, q_le25, q_nle25, q_le36, q_nle36, q_le60, q_nle60, q_le99, q_nle99, q_le100, q_nle100, q_le300, q_nle300, q_le640, q_nle640, q_le411, q_nle411, q_mul2, q_lmul2, q_mul3, q_lmul3, q_mul5, q_lmul5, q_mul6, q_lmul6, q_mul10, q_lmul10, q_add1, q_ladd1, q_add2, q_ladd2, q_add3, q_ladd3, q_add5, q_ladd5, q_add6, q_ladd6, q_add100, q_ladd100, q_div2, q_rem2, q_div3, q_rem3, q_div6, q_rem6, q_div10, q_rem10, hB, hb1, a1, a2]
      · refine ⟨(1, st (st m 142 (i / 6) (μ0.1 127 i - m.1 142 (6 + i % 6))) 143 (i / 6) 1), ext (i / 6) (6 + i % 6) (Or.inl ⟨rfl, rfl⟩) e1 e2, ?_⟩
        show g_X9_values_46 q38 _ x1 (nI i) m = f_X9_values_46 q38 n 1 (nI (i + 1)) _
        unfold g_X9_values_46 f_X9_values_107
        simp (disch := omega) only [lt_k, bnv_s, grd_t, q_in, q_inb, q_c, q_nle36, q_div6, q_rem6, q_ladd6, q_add1, hB, hb1, a1, a2, hC, b01_t, b01_f, q_01, ↓reduceIte, e1m]
      · refine ⟨(1, st (st m 142 (6 + i % 6) (μ0.1 127 i - m.1 142 (i / 6))) 143 (6 + i % 6) 1), ext (6 + i % 6) (i / 6) (Or.inr ⟨rfl, rfl⟩) e2 e1, ?_⟩
        show g_X9_values_46 q38 _ x1 (nI i) m = f_X9_values_46 q38 n 1 (nI (i + 1)) _
        unfold g_X9_values_46 f_X9_values_107
        simp (disch := omega) only [lt_k, bnv_s, grd_t, q_in, q_inb, q_c, q_nle36, q_div6, q_rem6, q_ladd6, q_add1, hB, hb1, a1, a2, hC, b01_t, b01_f, q_10, ↓reduceIte, e2m]
      · refine ⟨(x1, m), same (Or.inr (e1.trans e2.symm)), ?_⟩
        show g_X9_values_46 q38 _ x1 (nI i) m = _
        unfold g_X9_values_46
        simp (disch := omega) only [lt_k, bnv_s, bnd_s, grd_t, q_in, q_inb, q_c, q_leT, q_leF, q_ltT, q_ltF, q_neg, q_nn, q_z, q_le0, q_b0, q_b1, nI_add, nI_0, q_off, q_self, q_oth, cst_2, st_2, ↓reduceIte, f_X8_cellAt, f_X8_roadAt, q_le1, q_nle1, q_le2, q_nle2, q_le5, q_nle5, q_le6, q_nle6, q_le8, q_nle8, q_le12, q_nle12, q_le25, q_nle25, q_le36, q_nle36, q_le60, q_nle60, q_le99, q_nle99, q_le100, q_nle100, q_le300, q_nle300, q_le640, q_nle640, q_le411, q_nle411, q_mul2, q_lmul2, q_mul3, q_lmul3, q_mul5, q_lmul5, q_mul6, q_lmul6, q_mul10, q_lmul10, q_add1, q_ladd1, q_add2, q_ladd2, q_add3, q_ladd3, q_add5, q_ladd5, q_add6, q_ladd6, q_add100, q_ladd100, q_div2, q_rem2, q_div3, q_rem3, q_div6, q_rem6, q_div10, q_rem10, hB, hb1, a1, a2]
  · rintro n ⟨x1, m⟩ ⟨kn1, p, p5⟩
    refine ⟨x1, m, kn1, ?_, p, ?_⟩
    · show g_X9_values_46 q38 _ x1 (nI 36) m = _
      unfold g_X9_values_46
      simp (disch := omega) only [lt_k, bnv_s, bnd_s, grd_t, q_in, q_inb, q_c, q_leT, q_leF, q_ltT, q_ltF, q_neg, q_nn, q_z, q_le0, q_b0, q_b1, nI_add, nI_0, q_off, q_self, q_oth, cst_2, st_2, ↓reduceIte, f_X8_cellAt, f_X8_roadAt, q_le1, q_nle1, q_le2, q_nle2, q_le5, q_nle5, q_le6, q_nle6, q_le8, q_nle8, q_le12, q_nle12, q_le25, q_nle25, q_le36, q_nle36, q_le60, q_nle60, q_le99, q_nle99, q_le100, q_nle100, q_le300, q_nle300, q_le640, q_nle640, q_le411, q_nle411, q_mul2, q_lmul2, q_mul3, q_lmul3, q_mul5, q_lmul5, q_mul6, q_lmul6, q_mul10, q_lmul10, q_add1, q_ladd1, q_add2, q_ladd2, q_add3, q_ladd3, q_add5, q_ladd5, q_add6, q_ladd6, q_add100, q_ladd100, q_div2, q_rem2, q_div3, q_rem3, q_div6, q_rem6, q_div10, q_rem10, lt_k]
    · rcases p5 with ⟨e1, e2, e3⟩ | e
      · exact Or.inl ⟨e1, e2, e3⟩
      · exact Or.inr e
theorem x9_values {S T : Nat} {μ : Mem} (ht : t_tree S T (bb (μ.1 129))) (hc : t_cok (μ.1 127) S T) (h01 : ∀ c, c < 36 → μ.1 129 c = 0 ∨ μ.1 129 c = 1) :
    ∃ μ', f_X9_values μ = some μ' ∧ fr MA μ μ' ∧ t_W S T (bb (μ.1 129)) (μ.1 127) (μ'.1 142) := by
  have rounds : ∀ kn m, MP S T μ m kn → ∃ μ', f_X9_values_38 FU 1 m = some μ' ∧ fr MA μ μ' ∧ t_W S T (bb (μ.1 129)) (μ.1 127) (μ'.1 142) := by
    intro kn m hp
    refine q_while (fun n (s : Int32 × Mem × (Nat → Bool)) => f_X9_values_38 n s.1 s.2.1) (fun s => t_cnt s.2.2 12 + if s.1 = 0 then 0 else 1) (fun s => MP S T μ s.2.1 s.2.2 ∧ (s.1 = 0 → t_res (bb (μ.1 129)) s.2.2) ∧ (s.1 = 0 ∨ s.1 = 1))
      (fun z => ∃ μ', z = some μ' ∧ fr MA μ μ' ∧ t_W S T (bb (μ.1 129)) (μ.1 127) (μ'.1 142)) ?_ 13 FU (1, m, kn) (by show t_cnt kn 12 + (if (1 : Int32) = 0 then 0 else 1) ≤ 13; have := t_cnt_le kn 12; rw [if_neg (show ¬ (1 : Int32) = 0 by decide)]; omega) (by unfold FU; omega) ⟨hp, fun h => absurd (show (1 : Int32) = 0 from h) (by decide), Or.inr rfl⟩
    rintro n ⟨x, s, kn1⟩ ⟨p1, p2, p3⟩
    change MP S T μ s kn1 at p1
    change x = 0 → t_res _ kn1 at p2
    change x = 0 ∨ x = 1 at p3
    by_cases x0 : x = 0
    · left
      refine ⟨s, ?_, p1.2.2.1, t_wi_all ht p1.2.1 (p2 x0)⟩
      show g_X9_values_38 _ x s = _
      unfold g_X9_values_38
      rw [if_pos x0]
    · right
      obtain ⟨x', μ', kn', e1, e2, e3⟩ := x9_valpass (f_X9_values_38 n) ht hc h01 p1
      refine ⟨(x', μ', kn'), ⟨e2, fun h => ?_, ?_⟩, ?_, ?_⟩
      · rcases e3 with ⟨a, b⟩ | ⟨a, b⟩
        · exact b.2
        · change x' = 0 at h; rw [a] at h; exact absurd h (by decide)
      · rcases e3 with ⟨a, -⟩ | ⟨a, -⟩
        · exact Or.inl a
        · exact Or.inr a
      · show t_cnt kn' 12 + (if x' = 0 then 0 else 1) < t_cnt kn1 12 + (if x = 0 then 0 else 1)
        rw [if_neg x0]
        rcases e3 with ⟨a, b⟩ | ⟨a, b⟩
        · rw [if_pos a]
          rw [b.1]; omega
        · rw [if_neg (by rw [a]; decide)]; omega
      · show g_X9_values_38 _ x s = _
        unfold g_X9_values_38
        rw [if_neg x0]
        exact e1
  unfold f_X9_values
  refine q_loop0 (fun n i (s : Mem) => f_X9_values_2 n (nI i) s) 12 (by omega) (fun i s => fr MA μ s ∧ ∀ v, v < i → s.1 143 v = b01 (decide (v = 0)) ∧ s.1 142 v = 0)
    (fun z => ∃ μ', z = some μ' ∧ fr MA μ μ' ∧ t_W S T (bb (μ.1 129)) (μ.1 127) (μ'.1 142)) ?_ ?_ μ ⟨fr_refl _ _, fun v h => by omega⟩
  · rintro n i s hi ⟨p1, p2⟩
    right
    refine ⟨st (st s 143 i (b01 (decide (i = 0)))) 142 i 0, ⟨fr_st' (fr_st' p1 (by unfold MA; omega)) (by unfold MA; omega), fun v hv => ?_⟩, ?_⟩
    · simp (disch := omega) only [lt_k, bnv_s, bnd_s, grd_t, q_in, q_inb, q_c, q_leT, q_leF, q_ltT, q_ltF, q_neg, q_nn, q_z, q_le0, q_b0, q_b1, nI_add, nI_0, q_off, q_self, q_oth, cst_2, st_2, ↓reduceIte, f_X8_cellAt, f_X8_roadAt, q_le1, q_nle1, q_le2, q_nle2, q_le5, q_nle5, q_le6, q_nle6, q_le8, q_nle8, q_le12, q_nle12, q_le25, q_nle25, q_le36, q_nle36, q_le60, q_nle60, q_le99, q_nle99, q_le100, q_nle100, q_le300, q_nle300, q_le640, q_nle640, q_le411, q_nle411, q_mul2, q_lmul2, q_mul3, q_lmul3, q_mul5, q_lmul5, q_mul6, q_lmul6, q_mul10, q_lmul10, q_add1, q_ladd1, q_add2, q_ladd2, q_add3, q_ladd3, q_add5, q_ladd5, q_add6, q_ladd6, q_add100, q_ladd100, q_div2, q_rem2, q_div3, q_rem3, q_div6, q_rem6, q_div10, q_rem10, q_at]
      by_cases q : v = i
      · rw [if_pos q, if_pos q, q]; exact ⟨rfl, rfl⟩
      · rw [if_neg q, if_neg q]; exact p2 v (by omega)
    · show g_X9_values_2 _ (nI i) s = _
      unfold g_X9_values_2 f_X9_values_22
      by_cases q : i = 0
      · subst q
        simp (disch := omega) only [lt_k, bnv_s, bnd_s, grd_t, q_in, q_inb, q_c, q_leT, q_leF, q_ltT, q_ltF, q_neg, q_nn, q_z, q_le0, q_b0, q_b1, nI_add, nI_0, q_off, q_self, q_oth, cst_2, st_2, ↓reduceIte, f_X8_cellAt, f_X8_roadAt, q_le1, q_nle1, q_le2, q_nle2, q_le5, q_nle5, q_le6, q_nle6, q_le8, q_nle8, q_le12, q_nle12, q_le25, q_nle25, q_le36, q_nle36, q_le60, q_nle60, q_le99, q_nle99, q_le100, q_nle100, q_le300, q_nle300, q_le640, q_nle640, q_le411, q_nle411, q_mul2, q_lmul2, q_mul3, q_lmul3, q_mul5, q_lmul5, q_mul6, q_lmul6, q_mul10, q_lmul10, q_add1, q_ladd1, q_add2, q_ladd2, q_add3, q_ladd3, q_add5, q_ladd5, q_add6, q_ladd6, q_add100, q_ladd100, q_div2, q_rem2, q_div3, q_rem3, q_div6, q_rem6, q_div10, q_rem10, lt_k]
        rfl
      · simp (disch := omega) only [lt_k, bnv_s, bnd_s, grd_t, q_in, q_inb, q_c, q_leT, q_leF, q_ltT, q_ltF, q_neg, q_nn, q_z, q_le0, q_b0, q_b1, nI_add, nI_0, q_off, q_self, q_oth, cst_2, st_2, ↓reduceIte, f_X8_cellAt, f_X8_roadAt, q_le1, q_nle1, q_le2, q_nle2, q_le5, q_nle5, q_le6, q_nle6, q_le8, q_nle8, q_le12, q_nle12, q_le25, q_nle25, q_le36, q_nle36, q_le60, q_nle60, q_le99, q_nle99, q_le100, q_nle100, q_le300, q_nle300, q_le640, q_nle640, q_le411, q_nle411, q_mul2, q_lmul2, q_mul3, q_lmul3, q_mul5, q_lmul5, q_mul6, q_lmul6, q_mul10, q_lmul10, q_add1, q_ladd1, q_add2, q_ladd2, q_add3, q_ladd3, q_add5, q_ladd5, q_add6, q_ladd6, q_add100, q_ladd100, q_div2, q_rem2, q_div3, q_rem3, q_div6, q_rem6, q_div10, q_rem10, lt_k]
        rw [decide_eq_false q]
        rfl
  · rintro n s ⟨p1, p2⟩
    obtain ⟨μ', r1, r2⟩ := rounds (fun v => decide (v = 0)) s ⟨fun v hv => (p2 v hv).1, t_wi_init (p2 0 (by omega)).2, p1, fun v hv => by rw [of_decide_eq_true hv]; exact Or.inl ht.1⟩
    refine ⟨μ', ?_, r2⟩
    show g_X9_values_2 _ (nI 12) s = _
    unfold g_X9_values_2
    simp (disch := omega) only [lt_k, bnv_s, bnd_s, grd_t, q_in, q_inb, q_c, q_leT, q_leF, q_ltT, q_ltF, q_neg, q_nn, q_z, q_le0, q_b0, q_b1, nI_add, nI_0, q_off, q_self, q_oth, cst_2, st_2, ↓reduceIte, f_X8_cellAt, f_X8_roadAt, q_le1, q_nle1, q_le2, q_nle2, q_le5, q_nle5, q_le6, q_nle6, q_le8, q_nle8, q_le12, q_nle12, q_le25, q_nle25, q_le36, q_nle36, q_le60, q_nle60, q_le99, q_nle99, q_le100, q_nle100, q_le300, q_nle300, q_le640, q_nle640, q_le411, q_nle411, q_mul2, q_lmul2, q_mul3, q_lmul3, q_mul5, q_lmul5, q_mul6, q_lmul6, q_mul10, q_lmul10, q_add1, q_ladd1, q_add2, q_ladd2, q_add3, q_ladd3, q_add5, q_ladd5, q_add6, q_ladd6, q_add100, q_ladd100, q_div2, q_rem2, q_div3, q_rem3, q_div6, q_rem6, q_div10, q_rem10, lt_k]
    exact r1
