/-! THE CALLS: ends: what happens on a ground */ -/
def g_hap (G : TG) (w n : Int32) : TG := if w = 2 then g_kd G (5 * (n.toNatClampNeg / 10) + n.toNatClampNeg % 10) 3 else if w = 3 then (G.1, G.2.1, G.2.2.1, upd G.2.2.2.1 n.toNatClampNeg 0, G.2.2.2.2) else (G.1, G.2.1, upd G.2.2.1 (5 * w.toNatClampNeg + n.toNatClampNeg) (mn 99 (G.2.2.1 (5 * w.toNatClampNeg + n.toNatClampNeg) + 1)), G.2.2.2)
theorem g_hap_S (G : TG) (w n : Int32) : (g_hap G w n).1 = G.1 ∧ (g_hap G w n).2.1 = G.2.1 := by
  unfold g_hap
  by_cases a : w = 2
  · rw [if_pos a]; exact ⟨rfl, rfl⟩
  · rw [if_neg a]
    by_cases b : w = 3
    · rw [if_pos b]; exact ⟨rfl, rfl⟩
    · rw [if_neg b]; exact ⟨rfl, rfl⟩
theorem mn99_ok {x : Int32} (h : 0 ≤ x.toInt ∧ x.toInt ≤ 100) : 0 ≤ (mn 99 (x + 1)).toInt ∧ (mn 99 (x + 1)).toInt ≤ 100 := by
  have e : (x + 1).toInt = x.toInt + 1 := by
    rw [Int32.toInt_add, show (1 : Int32).toInt = 1 from rfl]; apply Int.bmod_eq_of_le <;> omega
  show 0 ≤ (if x + 1 < 99 then x + 1 else (99 : Int32)).toInt ∧ (if x + 1 < 99 then x + 1 else (99 : Int32)).toInt ≤ 100
  have e99 : (99 : Int32).toInt = 99 := rfl
  by_cases q : x + 1 < 99
  · rw [if_pos q]
    rw [Int32.lt_iff_toInt_lt, e99] at q
    omega
  · rw [if_neg q, e99]; omega
theorem g_hap_ok {G : TG} (h : g_ok G) (w n : Int32) : g_ok (g_hap G w n) := by
  unfold g_hap
  by_cases a : w = 2
  · rw [if_pos a]; exact g_kd_ok h _ ⟨by decide, by decide⟩
  · rw [if_neg a]
    obtain ⟨g1, g2, g3, g4, g5, g6⟩ := h
    by_cases b : w = 3
    · rw [if_pos b]; exact ⟨g1, g2, g3, upd_bd g4 ⟨by decide, by decide⟩, g5, g6⟩
    · rw [if_neg b]
      refine ⟨g1, g2, fun i hi => ?_, g4, g5, g6⟩
      show 0 ≤ (upd G.2.2.1 _ _ i).toInt ∧ (upd G.2.2.1 _ _ i).toInt ≤ 100
      unfold upd
      by_cases q : i = 5 * w.toNatClampNeg + n.toNatClampNeg
      · rw [if_pos q, ← q]; exact mn99_ok (g3 i hi)
      · rw [if_neg q]; exact g3 i hi
theorem XG_much {g : Nat} {G : TG} {μ : Mem} (h : XG g G μ) {i : Nat} (x : Int32) (hi : i < 5) : XG g (G.1, G.2.1, upd G.2.2.1 i x, G.2.2.2) (st μ (g + 1) i x) := by
  obtain ⟨h1, h2, h3, h4⟩ := h
  refine ⟨by rw [q_off _ _ _ (by omega)]; exact h1, by rw [q_off _ _ _ (by omega)]; exact h2, fun k hk => ⟨?_, ?_, ?_, ?_⟩, fun k hk => ?_⟩
  · rw [q_at, (h3 k hk).1]; rfl
  · rw [q_off _ _ _ (by omega)]; exact (h3 k hk).2.1
  · rw [q_off _ _ _ (by omega), (h3 k hk).2.2.1]
    show _ = upd G.2.2.1 i x (5 + k)
    unfold upd
    rw [if_neg (by omega)]
  · rw [q_off _ _ _ (by omega)]; exact (h3 k hk).2.2.2
  · rw [q_off _ _ _ (by omega), q_off _ _ _ (by omega)]; exact h4 k hk
theorem XG_want {g : Nat} {G : TG} {μ : Mem} (h : XG g G μ) {i : Nat} (x : Int32) : XG g (G.1, G.2.1, upd G.2.2.1 (5 + i) x, G.2.2.2) (st μ (g + 3) i x) := by
  obtain ⟨h1, h2, h3, h4⟩ := h
  refine ⟨by rw [q_off _ _ _ (by omega)]; exact h1, by rw [q_off _ _ _ (by omega)]; exact h2, fun k hk => ⟨?_, ?_, ?_, ?_⟩, fun k hk => ?_⟩
  · rw [q_off _ _ _ (by omega), (h3 k hk).1]
    show _ = upd G.2.2.1 (5 + i) x k
    unfold upd
    rw [if_neg (by omega)]
  · rw [q_off _ _ _ (by omega)]; exact (h3 k hk).2.1
  · rw [q_at, (h3 k hk).2.2.1]
    show _ = upd G.2.2.1 (5 + i) x (5 + k)
    unfold upd
    by_cases q : k = i
    · rw [if_pos q, if_pos (by omega)]
    · rw [if_neg q, if_neg (by omega)]
  · rw [q_off _ _ _ (by omega)]; exact (h3 k hk).2.2.2
  · rw [q_off _ _ _ (by omega), q_off _ _ _ (by omega)]; exact h4 k hk
theorem XG_toll {g : Nat} {G : TG} {μ : Mem} (h : XG g G μ) {i : Nat} (x : Int32) (hi : i < 5) : XG g (G.1, G.2.1, G.2.2.1, upd G.2.2.2.1 i x, G.2.2.2.2) (st μ (g + 2) i x) := by
  obtain ⟨h1, h2, h3, h4⟩ := h
  refine ⟨by rw [q_off _ _ _ (by omega)]; exact h1, by rw [q_off _ _ _ (by omega)]; exact h2, fun k hk => ⟨?_, ?_, ?_, ?_⟩, fun k hk => ?_⟩
  · rw [q_off _ _ _ (by omega)]; exact (h3 k hk).1
  · rw [q_at, (h3 k hk).2.1]; rfl
  · rw [q_off _ _ _ (by omega)]; exact (h3 k hk).2.2.1
  · rw [q_off _ _ _ (by omega), (h3 k hk).2.2.2]
    show _ = upd G.2.2.2.1 i x (5 + k)
    unfold upd
    rw [if_neg (by omega)]
  · rw [q_off _ _ _ (by omega), q_off _ _ _ (by omega)]; exact h4 k hk
theorem upd_same (f : Nat → Int32) (k : Nat) : upd f k (f k) = f := by
  funext i
  unfold upd
  by_cases q : i = k
  · rw [if_pos q, q]
  · rw [if_neg q]
theorem x0_happen {G : TG} {μ : Mem} (hX : XG 95 G μ) (hG : g_ok G) {w n : Int32} (ho : ord_ok G w n) : ∃ μ', f_X0_happen 95 w n μ = some μ' ∧ XG 95 (g_hap G w n) μ' ∧ fr SCR μ μ' := by
  have g1 := hG.1
  have g2 := hG.2.1
  rcases ho with ⟨h0 | h3, k, hk, rfl⟩ | ⟨h1, k, hk, rfl⟩ | ⟨h2, i, j, hi, hj, rfl⟩
  · subst h0
    refine ⟨st μ 96 k (mn 99 (G.2.2.1 k + 1)), ?_, ?_, fr_st (by unfold SCR; omega)⟩
    · unfold f_X0_happen
      rw [if_pos rfl, (site0 hX hG).1 hk, bnv_s, if_neg (by decide), show μ.1 (95 + 1) = μ.1 96 from rfl]
      simp (disch := omega) only [lt_k, bnv_s, bnd_s, grd_t, q_in, q_inb, q_c, q_leT, q_leF, q_ltT, q_ltF, q_neg, q_nn, q_z, q_le0, q_b0, q_b1, nI_add, nI_0, q_off, q_self, q_oth, cst_2, st_2, ↓reduceIte, f_X8_cellAt, f_X8_roadAt, q_le1, q_nle1, q_le2, q_nle2, q_le5, q_nle5, q_le6, q_nle6, q_le8, q_nle8, q_le12, q_nle12, q_le25, q_nle25, q_le36, q_nle36, q_le60, q_nle60, q_le99, q_nle99, q_le100, q_nle100, q_le300, q_nle300, q_le640, q_nle640, q_le411, q_nle411, q_mul2, q_lmul2, q_mul3, q_lmul3, q_mul5, q_lmul5, q_mul6, q_lmul6, q_mul10, q_lmul10, q_add1, q_ladd1, q_add2, q_ladd2, q_add3, q_ladd3, q_add5, q_ladd5, q_add6, q_ladd6, q_add100, q_ladd100, q_div2, q_rem2, q_div3, q_rem3, q_div6, q_rem6, q_div10, q_rem10, (hX.2.2.1 k (by omega)).1]
    · have := XG_much hX (i := k) (mn 99 (G.2.2.1 k + 1)) (by omega)
      unfold g_hap
      rw [if_neg (by decide), if_neg (by decide), q_c (by omega), show 5 * (0 : Int32).toNatClampNeg + k = k from Nat.zero_add k]
      exact this
  · subst h3
    refine ⟨st μ 97 k 0, ?_, ?_, fr_st (by unfold SCR; omega)⟩
    · unfold f_X0_happen f_X0_happen_35 f_X0_happen_71
      rw [if_neg (by decide), if_neg (by decide), if_neg (by decide), if_pos rfl, (site0 hX hG).1 hk, bnv_s, if_neg (by decide)]
      simp (disch := omega) only [lt_k, bnv_s, bnd_s, grd_t, q_in, q_inb, q_c, q_leT, q_leF, q_ltT, q_ltF, q_neg, q_nn, q_z, q_le0, q_b0, q_b1, nI_add, nI_0, q_off, q_self, q_oth, cst_2, st_2, ↓reduceIte, f_X8_cellAt, f_X8_roadAt, q_le1, q_nle1, q_le2, q_nle2, q_le5, q_nle5, q_le6, q_nle6, q_le8, q_nle8, q_le12, q_nle12, q_le25, q_nle25, q_le36, q_nle36, q_le60, q_nle60, q_le99, q_nle99, q_le100, q_nle100, q_le300, q_nle300, q_le640, q_nle640, q_le411, q_nle411, q_mul2, q_lmul2, q_mul3, q_lmul3, q_mul5, q_lmul5, q_mul6, q_lmul6, q_mul10, q_lmul10, q_add1, q_ladd1, q_add2, q_ladd2, q_add3, q_ladd3, q_add5, q_ladd5, q_add6, q_ladd6, q_add100, q_ladd100, q_div2, q_rem2, q_div3, q_rem3, q_div6, q_rem6, q_div10, q_rem10, ]
    · have := XG_toll hX (i := k) 0 (by omega)
      unfold g_hap
      rw [if_neg (by decide), if_pos rfl, q_c (by omega)]
      exact this
  · subst h1
    refine ⟨st μ 98 k (mn 99 (G.2.2.1 (5 + k) + 1)), ?_, ?_, fr_st (by unfold SCR; omega)⟩
    · unfold f_X0_happen f_X0_happen_35
      rw [if_neg (by decide), if_pos rfl, (site0 hX hG).2 hk, bnv_s, if_neg (by decide)]
      simp (disch := omega) only [lt_k, bnv_s, bnd_s, grd_t, q_in, q_inb, q_c, q_leT, q_leF, q_ltT, q_ltF, q_neg, q_nn, q_z, q_le0, q_b0, q_b1, nI_add, nI_0, q_off, q_self, q_oth, cst_2, st_2, ↓reduceIte, f_X8_cellAt, f_X8_roadAt, q_le1, q_nle1, q_le2, q_nle2, q_le5, q_nle5, q_le6, q_nle6, q_le8, q_nle8, q_le12, q_nle12, q_le25, q_nle25, q_le36, q_nle36, q_le60, q_nle60, q_le99, q_nle99, q_le100, q_nle100, q_le300, q_nle300, q_le640, q_nle640, q_le411, q_nle411, q_mul2, q_lmul2, q_mul3, q_lmul3, q_mul5, q_lmul5, q_mul6, q_lmul6, q_mul10, q_lmul10, q_add1, q_ladd1, q_add2, q_ladd2, q_add3, q_ladd3, q_add5, q_ladd5, q_add6, q_ladd6, q_add100, q_ladd100, q_div2, q_rem2, q_div3, q_rem3, q_div6, q_rem6, q_div10, q_rem10, ]
      rw [show μ.1 (95 + 3) k = _ from (hX.2.2.1 k (by omega)).2.2.1]
    · have := XG_want hX (i := k) (mn 99 (G.2.2.1 (5 + k) + 1))
      unfold g_hap
      rw [if_neg (by decide), if_neg (by decide), q_c (by omega), show 5 * (1 : Int32).toNatClampNeg + k = 5 + k from rfl]
      exact this
  · subst h2
    have er := x0_isRoad (g := 95) hX hG (i := i) (j := j) (by omega) (by omega)
    rw [if_pos ⟨hi, hj⟩] at er
    have k1 : μ.1 (95 + 5) (5 * i + j) = G.2.2.2.2.1 (5 * i + j) := (hX.2.2.2 (5 * i + j) (by omega)).1
    have ed : nI (10 * i + j) / 10 = nI i := by rw [q_div10 (by omega)]; congr 1; omega
    have em : rm32 (nI (10 * i + j)) 10 = nI j := by rw [q_rem10 (by omega)]; congr 1; omega
    have eg : g_hap G 2 (nI (10 * i + j)) = g_kd G (5 * i + j) 3 := by
      unfold g_hap
      rw [if_pos rfl, q_c (by omega), show (10 * i + j) / 10 = i by omega, show (10 * i + j) % 10 = j by omega]
    rw [eg]
    by_cases z : G.2.2.2.2.1 (5 * i + j) = 3
    · refine ⟨μ, ?_, ?_, fr_refl _ _⟩
      · unfold f_X0_happen f_X0_happen_35 f_X0_happen_71 f_X0_shutRoad
        rw [if_neg (by decide), if_neg (by decide), if_pos rfl, ed, em]
        simp (disch := omega) only [lt_k, bnv_s, bnd_s, grd_t, q_in, q_inb, q_c, q_leT, q_leF, q_ltT, q_ltF, q_neg, q_nn, q_z, q_le0, q_b0, q_b1, nI_add, nI_0, q_off, q_self, q_oth, cst_2, st_2, ↓reduceIte, f_X8_cellAt, f_X8_roadAt, q_le1, q_nle1, q_le2, q_nle2, q_le5, q_nle5, q_le6, q_nle6, q_le8, q_nle8, q_le12, q_nle12, q_le25, q_nle25, q_le36, q_nle36, q_le60, q_nle60, q_le99, q_nle99, q_le100, q_nle100, q_le300, q_nle300, q_le640, q_nle640, q_le411, q_nle411, q_mul2, q_lmul2, q_mul3, q_lmul3, q_mul5, q_lmul5, q_mul6, q_lmul6, q_mul10, q_lmul10, q_add1, q_ladd1, q_add2, q_ladd2, q_add3, q_ladd3, q_add5, q_ladd5, q_add6, q_ladd6, q_add100, q_ladd100, q_div2, q_rem2, q_div3, q_rem3, q_div6, q_rem6, q_div10, q_rem10, er, q_10, Nat.mul_comm i 5, k1, z]
      · unfold g_kd
        rw [← z, upd_same]
        exact hX
    · refine ⟨st μ 100 (5 * i + j) 3, ?_, XG_kd hX _ 3, fr_st (by unfold SCR; omega)⟩
      unfold f_X0_happen f_X0_happen_35 f_X0_happen_71 f_X0_shutRoad
      rw [if_neg (by decide), if_neg (by decide), if_pos rfl, ed, em]
      simp (disch := omega) only [lt_k, bnv_s, bnd_s, grd_t, q_in, q_inb, q_c, q_leT, q_leF, q_ltT, q_ltF, q_neg, q_nn, q_z, q_le0, q_b0, q_b1, nI_add, nI_0, q_off, q_self, q_oth, cst_2, st_2, ↓reduceIte, f_X8_cellAt, f_X8_roadAt, q_le1, q_nle1, q_le2, q_nle2, q_le5, q_nle5, q_le6, q_nle6, q_le8, q_nle8, q_le12, q_nle12, q_le25, q_nle25, q_le36, q_nle36, q_le60, q_nle60, q_le99, q_nle99, q_le100, q_nle100, q_le300, q_nle300, q_le640, q_nle640, q_le411, q_nle411, q_mul2, q_lmul2, q_mul3, q_lmul3, q_mul5, q_lmul5, q_mul6, q_lmul6, q_mul10, q_lmul10, q_add1, q_ladd1, q_add2, q_ladd2, q_add3, q_ladd3, q_add5, q_ladd5, q_add6, q_ladd6, q_add100, q_ladd100, q_div2, q_rem2, q_div3, q_rem3, q_div6, q_rem6, q_div10, q_rem10, er, q_10, Nat.mul_comm i 5, k1, z]

def HA : Nat → Nat → Prop := fun c j => (c = 123 ∧ j < 10) ∨ (c = 124 ∧ j < 10) ∨ (c = 125 ∧ j < 25)
theorem x9_happens {G : TG} {μ : Mem} (hM : MG G μ) (hG : g_ok G) {w n : Int32} (ho : ord_ok G w n) : ∃ μ', f_X9_happens w n μ = some μ' ∧ MG (g_hap G w n) μ' ∧ fr HA μ μ' := by
  have g1 := hG.1
  have g2 := hG.2.1
  have much : ∀ (i : Nat) (x : Int32), MG (G.1, G.2.1, upd G.2.2.1 i x, G.2.2.2) (st μ 123 i x) := by
    intro i x
    obtain ⟨h1, h2, h3, h4⟩ := hM
    refine ⟨by rw [q_off _ _ _ (by omega)]; exact h1, by rw [q_off _ _ _ (by omega)]; exact h2, fun k hk => ⟨?_, ?_⟩, fun k hk => ?_⟩
    · rw [q_at, (h3 k hk).1]; rfl
    · rw [q_off _ _ _ (by omega)]; exact (h3 k hk).2
    · rw [q_off _ _ _ (by omega), q_off _ _ _ (by omega)]; exact h4 k hk
  rcases ho with ⟨h0 | h3, k, hk, rfl⟩ | ⟨h1, k, hk, rfl⟩ | ⟨h2, i, j, hi, hj, rfl⟩
  · subst h0
    refine ⟨st μ 123 k (mn 99 (G.2.2.1 k + 1)), ?_, ?_, fr_st (by unfold HA; omega)⟩
    · unfold f_X9_happens
      rw [if_neg (by decide), show (5 : Int32) * 0 = nI 0 by decide, nI_add, Nat.zero_add]
      simp (disch := omega) only [lt_k, bnv_s, bnd_s, grd_t, q_in, q_inb, q_c, q_leT, q_leF, q_ltT, q_ltF, q_neg, q_nn, q_z, q_le0, q_b0, q_b1, nI_add, nI_0, q_off, q_self, q_oth, cst_2, st_2, ↓reduceIte, f_X8_cellAt, f_X8_roadAt, q_le1, q_nle1, q_le2, q_nle2, q_le5, q_nle5, q_le6, q_nle6, q_le8, q_nle8, q_le12, q_nle12, q_le25, q_nle25, q_le36, q_nle36, q_le60, q_nle60, q_le99, q_nle99, q_le100, q_nle100, q_le300, q_nle300, q_le640, q_nle640, q_le411, q_nle411, q_mul2, q_lmul2, q_mul3, q_lmul3, q_mul5, q_lmul5, q_mul6, q_lmul6, q_mul10, q_lmul10, q_add1, q_ladd1, q_add2, q_ladd2, q_add3, q_ladd3, q_add5, q_ladd5, q_add6, q_ladd6, q_add100, q_ladd100, q_div2, q_rem2, q_div3, q_rem3, q_div6, q_rem6, q_div10, q_rem10, (hM.2.2.1 k (by omega)).1]
    · have := much k (mn 99 (G.2.2.1 k + 1))
      unfold g_hap
      rw [if_neg (by decide), if_neg (by decide), q_c (by omega), show 5 * (0 : Int32).toNatClampNeg + k = k from Nat.zero_add k]
      exact this
  · subst h3
    refine ⟨st μ 124 k 0, ?_, ?_, fr_st (by unfold HA; omega)⟩
    · unfold f_X9_happens
      rw [if_pos (by decide), if_neg (by decide)]
      simp (disch := omega) only [lt_k, bnv_s, bnd_s, grd_t, q_in, q_inb, q_c, q_leT, q_leF, q_ltT, q_ltF, q_neg, q_nn, q_z, q_le0, q_b0, q_b1, nI_add, nI_0, q_off, q_self, q_oth, cst_2, st_2, ↓reduceIte, f_X8_cellAt, f_X8_roadAt, q_le1, q_nle1, q_le2, q_nle2, q_le5, q_nle5, q_le6, q_nle6, q_le8, q_nle8, q_le12, q_nle12, q_le25, q_nle25, q_le36, q_nle36, q_le60, q_nle60, q_le99, q_nle99, q_le100, q_nle100, q_le300, q_nle300, q_le640, q_nle640, q_le411, q_nle411, q_mul2, q_lmul2, q_mul3, q_lmul3, q_mul5, q_lmul5, q_mul6, q_lmul6, q_mul10, q_lmul10, q_add1, q_ladd1, q_add2, q_ladd2, q_add3, q_ladd3, q_add5, q_ladd5, q_add6, q_ladd6, q_add100, q_ladd100, q_div2, q_rem2, q_div3, q_rem3, q_div6, q_rem6, q_div10, q_rem10, ]
    · unfold g_hap
      rw [if_neg (by decide), if_pos rfl, q_c (by omega)]
      obtain ⟨h1, h2, h3, h4⟩ := hM
      refine ⟨by rw [q_off _ _ _ (by omega)]; exact h1, by rw [q_off _ _ _ (by omega)]; exact h2, fun i hi => ⟨?_, ?_⟩, fun i hi => ?_⟩
      · rw [q_off _ _ _ (by omega)]; exact (h3 i hi).1
      · rw [q_at, (h3 i hi).2]; rfl
      · rw [q_off _ _ _ (by omega), q_off _ _ _ (by omega)]; exact h4 i hi
  · subst h1
    refine ⟨st μ 123 (5 + k) (mn 99 (G.2.2.1 (5 + k) + 1)), ?_, ?_, fr_st (by unfold HA; omega)⟩
    · unfold f_X9_happens
      rw [if_neg (by decide), show (5 : Int32) * 1 = nI 5 by decide, nI_add]
      simp (disch := omega) only [lt_k, bnv_s, bnd_s, grd_t, q_in, q_inb, q_c, q_leT, q_leF, q_ltT, q_ltF, q_neg, q_nn, q_z, q_le0, q_b0, q_b1, nI_add, nI_0, q_off, q_self, q_oth, cst_2, st_2, ↓reduceIte, f_X8_cellAt, f_X8_roadAt, q_le1, q_nle1, q_le2, q_nle2, q_le5, q_nle5, q_le6, q_nle6, q_le8, q_nle8, q_le12, q_nle12, q_le25, q_nle25, q_le36, q_nle36, q_le60, q_nle60, q_le99, q_nle99, q_le100, q_nle100, q_le300, q_nle300, q_le640, q_nle640, q_le411, q_nle411, q_mul2, q_lmul2, q_mul3, q_lmul3, q_mul5, q_lmul5, q_mul6, q_lmul6, q_mul10, q_lmul10, q_add1, q_ladd1, q_add2, q_ladd2, q_add3, q_ladd3, q_add5, q_ladd5, q_add6, q_ladd6, q_add100, q_ladd100, q_div2, q_rem2, q_div3, q_rem3, q_div6, q_rem6, q_div10, q_rem10, (hM.2.2.1 (5 + k) (by omega)).1]
    · have := much (5 + k) (mn 99 (G.2.2.1 (5 + k) + 1))
      unfold g_hap
      rw [if_neg (by decide), if_neg (by decide), q_c (by omega), show 5 * (1 : Int32).toNatClampNeg + k = 5 + k from rfl]
      exact this
  · subst h2
    have ed : nI (10 * i + j) / 10 = nI i := by rw [q_div10 (by omega)]; congr 1; omega
    have em : rm32 (nI (10 * i + j)) 10 = nI j := by rw [q_rem10 (by omega)]; congr 1; omega
    have eg : g_hap G 2 (nI (10 * i + j)) = g_kd G (5 * i + j) 3 := by
      unfold g_hap
      rw [if_pos rfl, q_c (by omega), show (10 * i + j) / 10 = i by omega, show (10 * i + j) % 10 = j by omega]
    rw [eg]
    refine ⟨st μ 125 (5 * i + j) 3, ?_, MG_kd hM _ 3, fr_st (by unfold HA; omega)⟩
    unfold f_X9_happens
    rw [if_pos (by decide), if_pos rfl, ed, em]
    simp (disch := omega) only [lt_k, bnv_s, bnd_s, grd_t, q_in, q_inb, q_c, q_leT, q_leF, q_ltT, q_ltF, q_neg, q_nn, q_z, q_le0, q_b0, q_b1, nI_add, nI_0, q_off, q_self, q_oth, cst_2, st_2, ↓reduceIte, f_X8_cellAt, f_X8_roadAt, q_le1, q_nle1, q_le2, q_nle2, q_le5, q_nle5, q_le6, q_nle6, q_le8, q_nle8, q_le12, q_nle12, q_le25, q_nle25, q_le36, q_nle36, q_le60, q_nle60, q_le99, q_nle99, q_le100, q_nle100, q_le300, q_nle300, q_le640, q_nle640, q_le411, q_nle411, q_mul2, q_lmul2, q_mul3, q_lmul3, q_mul5, q_lmul5, q_mul6, q_lmul6, q_mul10, q_lmul10, q_add1, q_ladd1, q_add2, q_ladd2, q_add3, q_ladd3, q_add5, q_ladd5, q_add6, q_ladd6, q_add100, q_ladd100, q_div2, q_rem2, q_div3, q_rem3, q_div6, q_rem6, q_div10, q_rem10, ]
theorem x9_copies {a b n : Nat} {μ : Mem} (hab : a ≠ b) (hn : n < 1024) : ∃ μ', f_X9_copies a n b n μ = some μ' ∧ (∀ j, j < n → μ'.1 b j = μ.1 a j) ∧ fr (fun c j => c = b ∧ j < n) μ μ' := by
  refine q_loop0 (fun k i m => f_X9_copies_2 a n b n k (nI i) m) n hn (fun i m => (∀ j, j < i → m.1 b j = μ.1 a j) ∧ fr (fun c j => c = b ∧ j < n) μ m) (fun z => ∃ μ', z = some μ' ∧ (∀ j, j < n → μ'.1 b j = μ.1 a j) ∧ fr (fun c j => c = b ∧ j < n) μ μ') ?_ ?_ μ ⟨fun j h => by omega, fr_refl _ _⟩
  · rintro k i m hlt ⟨h, f⟩
    right
    refine ⟨st m b i (m.1 a i), ⟨fun j hj => ?_, fr_st' f ⟨rfl, hlt⟩⟩, ?_⟩
    · rw [q_at]
      by_cases q : j = i
      · rw [if_pos q, q, f.2 _ _ (fun z => hab z.1)]
      · rw [if_neg q]; exact h j (by omega)
    · show g_X9_copies_2 a n b n _ (nI i) m = _
      unfold g_X9_copies_2
      have lT : ¬ nI n ≤ nI i := fun q => by have := (nI_leI (by omega) (by omega)).mp q; omega
      rw [if_neg lT, q_in hlt (by omega), q_in hlt (by omega), q_c (by omega), lt_k, lt_k, q_add1]
  · rintro k m ⟨h, f⟩
    refine ⟨m, ?_, h, f⟩
    show g_X9_copies_2 a n b n _ (nI n) m = _
    unfold g_X9_copies_2
    rw [if_pos (Int32.le_refl _)]
def c_hp (G : TG) (r : TR) : Nat → TG
  | 0 => G
  | t + 1 => g_hap (c_hp G r t) (r.2.1 t) (r.2.2 t)
theorem c_hp_ok {G : TG} (h : g_ok G) (r : TR) : ∀ t, g_ok (c_hp G r t) ∧ (c_hp G r t).1 = G.1 ∧ (c_hp G r t).2.1 = G.2.1
  | 0 => ⟨h, rfl, rfl⟩
  | t + 1 => by
    obtain ⟨a, b, c⟩ := c_hp_ok h r t
    have := g_hap_S (c_hp G r t) (r.2.1 t) (r.2.2 t)
    exact ⟨g_hap_ok a _ _, this.1.trans b, this.2.trans c⟩
theorem ord_S {G G' : TG} {w n : Int32} (h : ord_ok G w n) (a : G'.1 = G.1) (b : G'.2.1 = G.2.1) : ord_ok G' w n := by
  unfold ord_ok
  rw [a, b]
  exact h
theorem x8_endsG {G : TG} {r : TR} {μ : Mem} (hX : XG 95 G μ) (hG : g_ok G) (hR : XRw 45 8 r μ) (hr : r.1 ≤ 8) (ho : ∀ j, j < r.1 → ord_ok G (r.2.1 j) (r.2.2 j)) (x : Int32) : ∃ μ', f_X8_ends_26 x FU 0 μ = g_X8_ends_26 x (f_X8_ends_26 x 0) (nI r.1) μ' ∧ XG 95 (c_hp G r r.1) μ' ∧ XRw 45 8 r μ' ∧ fr SCR μ μ' := by
  refine q_loop0 (fun k i m => f_X8_ends_26 x k (nI i) m) r.1 (by omega) (fun i m => XG 95 (c_hp G r i) m ∧ fr SCR μ m) (fun z => ∃ μ', z = g_X8_ends_26 x (f_X8_ends_26 x 0) (nI r.1) μ' ∧ XG 95 (c_hp G r r.1) μ' ∧ XRw 45 8 r μ' ∧ fr SCR μ μ') ?_ ?_ μ ⟨hX, fr_refl _ _⟩
  · rintro k i m hlt ⟨h, f⟩
    right
    have R := XRw_fr hR f (fun c j q => by unfold SCR; omega)
    obtain ⟨a, b, c⟩ := c_hp_ok hG r i
    obtain ⟨m2, e2, x2, f2⟩ := x0_happen h a (ord_S (ho i hlt) b c)
    refine ⟨m2, ⟨x2, fr_then f f2⟩, ?_⟩
    show g_X8_ends_26 x _ (nI i) m = _
    unfold g_X8_ends_26
    have lT : ¬ nI r.1 ≤ nI i := fun q => by have := (nI_leI (by omega) (by omega)).mp q; omega
    rw [R.2.1, if_neg lT, q_in (by omega) (by omega), q_in (by omega) (by omega), q_c (by omega), show m.1 46 i = _ from (R.2.2 i hlt).1, show m.1 47 i = _ from (R.2.2 i hlt).2, e2, bnv_s, lt_k, q_add1]
  · rintro k m ⟨h, f⟩
    have R := XRw_fr hR f (fun c j q => by unfold SCR; omega)
    refine ⟨m, ?_, h, R, f⟩
    show g_X8_ends_26 x _ (nI r.1) m = _
    unfold g_X8_ends_26
    rw [R.2.1, if_pos (Int32.le_refl _), if_pos (Int32.le_refl _)]
theorem x9_endsG {G : TG} {r : TR} {μ : Mem} (hM : MG G μ) (hG : g_ok G) (hR : MRw 21 133 r μ) (hr : r.1 ≤ 8) (ho : ∀ j, j < r.1 → ord_ok G (r.2.1 j) (r.2.2 j)) (x : Int32) : ∃ μ', f_X9_ends_49 x FU 0 μ = g_X9_ends_49 x (f_X9_ends_49 x 0) (nI r.1) μ' ∧ MG (c_hp G r r.1) μ' ∧ MRw 21 133 r μ' ∧ fr HA μ μ' := by
  refine q_loop0 (fun k i m => f_X9_ends_49 x k (nI i) m) r.1 (by omega) (fun i m => MG (c_hp G r i) m ∧ fr HA μ m) (fun z => ∃ μ', z = g_X9_ends_49 x (f_X9_ends_49 x 0) (nI r.1) μ' ∧ MG (c_hp G r r.1) μ' ∧ MRw 21 133 r μ' ∧ fr HA μ μ') ?_ ?_ μ ⟨hM, fr_refl _ _⟩
  · rintro k i m hlt ⟨h, f⟩
    right
    have R := MRw_fr hR f (fun c j q => by unfold HA; omega)
    obtain ⟨a, b, c⟩ := c_hp_ok hG r i
    obtain ⟨m2, e2, x2, f2⟩ := x9_happens h a (ord_S (ho i hlt) b c)
    refine ⟨m2, ⟨x2, fr_then f f2⟩, ?_⟩
    show g_X9_ends_49 x _ (nI i) m = _
    unfold g_X9_ends_49
    have lT : ¬ nI r.1 ≤ nI i := fun q => by have := (nI_leI (by omega) (by omega)).mp q; omega
    rw [R.1, if_neg lT, q_in (by omega) (by omega), q_in (by omega) (by omega), q_c (by omega), show m.1 133 i = _ from (R.2 i hlt).1, show m.1 134 i = _ from (R.2 i hlt).2, e2, bnv_s, lt_k, q_add1]
  · rintro k m ⟨h, f⟩
    have R := MRw_fr hR f (fun c j q => by unfold HA; omega)
    refine ⟨m, ?_, h, R, f⟩
    show g_X9_ends_49 x _ (nI r.1) m = _
    unfold g_X9_ends_49
    rw [R.1, if_pos (Int32.le_refl _), if_pos (Int32.le_refl _)]
