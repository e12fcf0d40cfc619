/-! THE CALLS: missed */ -/
def g_kd (G : TG) (k : Nat) (x : Int32) : TG := (G.1, G.2.1, G.2.2.1, G.2.2.2.1, upd G.2.2.2.2.1 k x, G.2.2.2.2.2)
def g_bs (G : TG) (k : Nat) (x : Int32) : TG := (G.1, G.2.1, G.2.2.1, G.2.2.2.1, G.2.2.2.2.1, upd G.2.2.2.2.2 k x)
theorem g_kd_ok {G : TG} (h : g_ok G) (k : Nat) {x : Int32} (hx : 0 ≤ x.toInt ∧ x.toInt ≤ 3) : g_ok (g_kd G k x) := by
  obtain ⟨g1, g2, g3, g4, g5, g6⟩ := h
  exact ⟨g1, g2, g3, g4, upd_bd g5 hx, g6⟩
theorem g_bs_ok {G : TG} (h : g_ok G) (k : Nat) {x : Int32} (hx : 0 ≤ x.toInt ∧ x.toInt ≤ 99) : g_ok (g_bs G k x) := by
  obtain ⟨g1, g2, g3, g4, g5, g6⟩ := h
  exact ⟨g1, g2, g3, g4, g5, upd_bd g6 hx⟩
theorem XG_kd {g : Nat} {G : TG} {μ : Mem} (h : XG g G μ) (k : Nat) (x : Int32) : XG g (g_kd G k x) (st μ (g + 5) k x) := by
  obtain ⟨h1, h2, h3, h4⟩ := h
  refine ⟨by rw [q_off _ _ _ (by omega)]; exact h1, by rw [q_off _ _ _ (by omega)]; exact h2, fun i hi => ?_, fun i hi => ⟨?_, ?_⟩⟩
  · rw [q_off _ _ _ (by omega), q_off _ _ _ (by omega), q_off _ _ _ (by omega), q_off _ _ _ (by omega)]; exact h3 i hi
  · rw [q_at, (h4 i hi).1]; rfl
  · rw [q_off _ _ _ (by omega)]; exact (h4 i hi).2
theorem XG_bs {g : Nat} {G : TG} {μ : Mem} (h : XG g G μ) (k : Nat) (x : Int32) : XG g (g_bs G k x) (st μ (g + 6) k x) := by
  obtain ⟨h1, h2, h3, h4⟩ := h
  refine ⟨by rw [q_off _ _ _ (by omega)]; exact h1, by rw [q_off _ _ _ (by omega)]; exact h2, fun i hi => ?_, fun i hi => ⟨?_, ?_⟩⟩
  · rw [q_off _ _ _ (by omega), q_off _ _ _ (by omega), q_off _ _ _ (by omega), q_off _ _ _ (by omega)]; exact h3 i hi
  · rw [q_off _ _ _ (by omega)]; exact (h4 i hi).1
  · rw [q_at, (h4 i hi).2]; rfl
theorem MG_kd {G : TG} {μ : Mem} (h : MG G μ) (k : Nat) (x : Int32) : MG (g_kd G k x) (st μ 125 k x) := by
  obtain ⟨h1, h2, h3, h4⟩ := h
  refine ⟨by rw [q_off _ _ _ (by omega)]; exact h1, by rw [q_off _ _ _ (by omega)]; exact h2, fun i hi => ?_, fun i hi => ⟨?_, ?_⟩⟩
  · rw [q_off _ _ _ (by omega), q_off _ _ _ (by omega)]; exact h3 i hi
  · rw [q_at, (h4 i hi).1]; rfl
  · rw [q_off _ _ _ (by omega)]; exact (h4 i hi).2
theorem MG_bs {G : TG} {μ : Mem} (h : MG G μ) (k : Nat) (x : Int32) : MG (g_bs G k x) (st μ 126 k x) := by
  obtain ⟨h1, h2, h3, h4⟩ := h
  refine ⟨by rw [q_off _ _ _ (by omega)]; exact h1, by rw [q_off _ _ _ (by omega)]; exact h2, fun i hi => ?_, fun i hi => ⟨?_, ?_⟩⟩
  · rw [q_off _ _ _ (by omega), q_off _ _ _ (by omega)]; exact h3 i hi
  · rw [q_off _ _ _ (by omega)]; exact (h4 i hi).1
  · rw [q_at, (h4 i hi).2]; rfl
theorem g_bs_bs (G : TG) (k : Nat) (x y : Int32) : g_bs (g_bs G k x) k y = g_bs G k y := by
  unfold g_bs
  congr 5
  funext i
  unfold upd
  by_cases q : i = k
  · rw [if_pos q, if_pos q]
  · rw [if_neg q, if_neg q]
    show (if i = k then x else _) = _
    rw [if_neg q]
theorem g_bst_ex (G : TG) : ∃ r, g_bst G r := by
  by_cases q : ∃ A, g_is G 1 1 A
  · obtain ⟨A, a⟩ := q
    exact ⟨_, Or.inl ⟨A, a, rfl⟩⟩
  · exact ⟨-5, Or.inr ⟨rfl, q⟩⟩
def g_ms (G : TG) (c : Nat) (r : Int32) : Prop := (G.2.2.2.2.1 (5 * (c / 6) + c % 6) = 3 ∧ r = -5) ∨ (¬ G.2.2.2.2.1 (5 * (c / 6) + c % 6) = 3 ∧ g_bst (g_kd G (5 * (c / 6) + c % 6) 3) r)
theorem g_ms_ex (G : TG) (c : Nat) : ∃ r, g_ms G c r := by
  by_cases q : G.2.2.2.2.1 (5 * (c / 6) + c % 6) = 3
  · exact ⟨-5, Or.inl ⟨q, rfl⟩⟩
  · obtain ⟨r, h⟩ := g_bst_ex (g_kd G (5 * (c / 6) + c % 6) 3)
    exact ⟨r, Or.inr ⟨q, h⟩⟩
def c_ms (S T : Nat) (v : Nat → Int32) : Nat → Int32 × Int32
  | 0 => (-5, -5)
  | c + 1 => if c / 6 < S ∧ c % 6 < T then (if v c ≤ (c_ms S T v c).1 then c_ms S T v c else (v c, nI (10 * (c / 6) + c % 6))) else c_ms S T v c
theorem c_ms_at {S T : Nat} {v : Nat → Int32} {i j : Nat} (hi : i < S) (hj : j < T) (hT : T ≤ 6) : c_ms S T v (6 * i + j + 1) = if v (6 * i + j) ≤ (c_ms S T v (6 * i + j)).1 then c_ms S T v (6 * i + j) else (v (6 * i + j), nI (10 * i + j)) := by
  show (if (6 * i + j) / 6 < S ∧ (6 * i + j) % 6 < T then _ else _) = _
  rw [if_pos (by omega), show (6 * i + j) / 6 = i by omega, show (6 * i + j) % 6 = j by omega]
theorem c_ms_off {S T : Nat} {v : Nat → Int32} {i j : Nat} (hj : j < 6) (hT : T ≤ j) : c_ms S T v (6 * i + j + 1) = c_ms S T v (6 * i + j) := by
  show (if (6 * i + j) / 6 < S ∧ (6 * i + j) % 6 < T then _ else _) = _
  rw [if_neg (by omega)]
theorem c_ms_5 (S T : Nat) (v : Nat → Int32) : ∀ c, (-5 : Int32) ≤ (c_ms S T v c).1
  | 0 => show (-5 : Int32) ≤ -5 by decide
  | c + 1 => by
    have ih := c_ms_5 S T v c
    unfold c_ms
    by_cases q : c / 6 < S ∧ c % 6 < T
    · rw [if_pos q]
      by_cases z : v c ≤ (c_ms S T v c).1
      · rw [if_pos z]; exact ih
      · rw [if_neg z]; exact Int32.le_trans ih (Int32.le_of_lt (Int32.not_le.mp z))
    · rw [if_neg q]; exact ih
theorem x8_missedG {G : TG} {μ : Mem} (hX : XG 15 G μ) (hG : g_ok G) {v : Nat → Int32} (hv : ∀ c, g_ms G c (v c)) (x : Int32) : ∃ μ', f_X8_missed_19 x FU (-5) (-5) 0 μ = some (if x = 0 then (c_ms G.1 G.2.1 v (6 * G.1)).2 else (c_ms G.1 G.2.1 v (6 * G.1)).1, μ') ∧ fr SCR μ μ' := by
  have g1 := hG.1
  have g2 := hG.2.1
  refine q_dbl (fun n => f_X8_missed_19 x n) (fun q i (s : Mem × Int32 × Int32) => q s.2.1 s.2.2 (nI i) s.1) (fun q n i j s => f_X8_missed_37 x q n s.2.1 s.2.2 (nI i) (nI j) s.1) (S := G.1) (T := G.2.1) (by omega) (by omega)
    (fun c s => fr SCR μ s.1 ∧ s.2 = c_ms G.1 G.2.1 v c) (fun z => ∃ μ', z = some (if x = 0 then (c_ms G.1 G.2.1 v (6 * G.1)).2 else (c_ms G.1 G.2.1 v (6 * G.1)).1, μ') ∧ fr SCR μ μ') ?_ ?_ ?_ ?_ ?_ (μ, -5, -5) ⟨fr_refl _ _, rfl⟩
  · rintro n i ⟨m, x2, x3⟩ hi ⟨f, h⟩
    change fr SCR μ m at f
    have X := XG_fr hX f (fun c j p q => by unfold SCR; omega)
    show g_X8_missed_19 x _ x2 x3 (nI i) m = _
    unfold g_X8_missed_19
    rw [X.1, if_neg (fun q => by have := (nI_leI (by omega) (by omega)).mp q; omega)]
    rfl
  · rintro q n i j ⟨m, x2, x3⟩ hi hj ⟨f, h⟩
    change fr SCR μ m at f
    change (x2, x3) = _ at h
    right
    have X := XG_fr hX f (fun c j p q => by unfold SCR; omega)
    obtain ⟨m1, e1, X1, f1⟩ := x0_copyFrom (k := 95) (o := 15) X (by omega)
    have F1 : fr SCR μ m1 := fr_trans f f1 (fun c j h => h) (fun c j h => by unfold SCR; omega)
    have er := x0_isRoad (g := 95) X1 hG (i := i) (j := j) (by omega) (by omega)
    rw [if_pos ⟨hi, hj⟩] at er
    have hk := hv (6 * i + j)
    unfold g_ms at hk
    rw [show (6 * i + j) / 6 = i by omega, show (6 * i + j) % 6 = j by omega] at hk
    have k1 : m1.1 (95 + 5) (5 * i + j) = G.2.2.2.2.1 (5 * i + j) := (X1.2.2.2 (5 * i + j) (by omega)).1
    have low := c_ms_5 G.1 G.2.1 v (6 * i + j)
    rw [← h] at low
    change (-5 : Int32) ≤ x2 at low
    have skip : ∀ m2, fr SCR μ m2 → v (6 * i + j) = -5 → f_X8_missed_37 x q (n + 1) x2 x3 (nI i) (nI j) m = f_X8_missed_37 x q n x2 x3 (nI i) (nI (j + 1)) m2 → ∃ s' : Mem × Int32 × Int32, (fr SCR μ s'.1 ∧ s'.2 = c_ms G.1 G.2.1 v (6 * i + j + 1)) ∧ f_X8_missed_37 x q (n + 1) x2 x3 (nI i) (nI j) m = f_X8_missed_37 x q n s'.2.1 s'.2.2 (nI i) (nI (j + 1)) s'.1 := by
      intro m2 f2 hv5 he
      refine ⟨(m2, x2, x3), ⟨f2, ?_⟩, he⟩
      rw [c_ms_at hi hj (by omega), hv5, ← h, if_pos low]
    have lT : ¬ nI G.2.1 ≤ nI j := fun q => by have := (nI_leI (by omega) (by omega)).mp q; omega
    rcases hk with ⟨k3, v5⟩ | ⟨k3, vb⟩
    · refine skip m1 F1 v5 ?_
      show g_X8_missed_37 x q _ x2 x3 (nI i) (nI j) m = _
      unfold g_X8_missed_37 f_X0_shutRoad
      rw [X.2.1, if_neg lT]
      simp (disch := omega) only [lt_k, bnv_s, bnd_s, grd_t, q_in, q_inb, q_c, q_leT, q_leF, q_ltT, q_ltF, q_neg, q_nn, q_z, q_le0, q_b0, q_b1, nI_add, nI_0, q_off, q_self, q_oth, cst_2, st_2, ↓reduceIte, f_X8_cellAt, f_X8_roadAt, q_le1, q_nle1, q_le2, q_nle2, q_le5, q_nle5, q_le6, q_nle6, q_le8, q_nle8, q_le12, q_nle12, q_le25, q_nle25, q_le36, q_nle36, q_le60, q_nle60, q_le99, q_nle99, q_le100, q_nle100, q_le300, q_nle300, q_le640, q_nle640, q_le411, q_nle411, q_mul2, q_lmul2, q_mul3, q_lmul3, q_mul5, q_lmul5, q_mul6, q_lmul6, q_mul10, q_lmul10, q_add1, q_ladd1, q_add2, q_ladd2, q_add3, q_ladd3, q_add5, q_ladd5, q_add6, q_ladd6, q_add100, q_ladd100, q_div2, q_rem2, q_div3, q_rem3, q_div6, q_rem6, q_div10, q_rem10, e1, er, q_10, Nat.mul_comm i 5, k1, k3]
    · have X2 := XG_kd X1 (5 * i + j) 3
      have hG2 := g_kd_ok hG (5 * i + j) (x := 3) ⟨by decide, by decide⟩
      obtain ⟨r, w, m2, e2, f2, b2, p1, p2⟩ := x8_best X2 hG2
      have hw := g_bst_det b2 vb
      subst hw
      have F2 : fr SCR μ m2 := fr_trans (fr_st' F1 (by unfold SCR; omega)) f2 (fun c j h => h) (fun c j h => by unfold KB at h; unfold SCR; omega)
      cases r
      · refine skip m2 F2 (p1 rfl) ?_
        show g_X8_missed_37 x q _ x2 x3 (nI i) (nI j) m = _
        unfold g_X8_missed_37 f_X0_shutRoad
        rw [X.2.1, if_neg lT]
        simp (disch := omega) only [lt_k, bnv_s, bnd_s, grd_t, q_in, q_inb, q_c, q_leT, q_leF, q_ltT, q_ltF, q_neg, q_nn, q_z, q_le0, q_b0, q_b1, nI_add, nI_0, q_off, q_self, q_oth, cst_2, st_2, ↓reduceIte, f_X8_cellAt, f_X8_roadAt, q_le1, q_nle1, q_le2, q_nle2, q_le5, q_nle5, q_le6, q_nle6, q_le8, q_nle8, q_le12, q_nle12, q_le25, q_nle25, q_le36, q_nle36, q_le60, q_nle60, q_le99, q_nle99, q_le100, q_nle100, q_le300, q_nle300, q_le640, q_nle640, q_le411, q_nle411, q_mul2, q_lmul2, q_mul3, q_lmul3, q_mul5, q_lmul5, q_mul6, q_lmul6, q_mul10, q_lmul10, q_add1, q_ladd1, q_add2, q_ladd2, q_add3, q_ladd3, q_add5, q_ladd5, q_add6, q_ladd6, q_add100, q_ladd100, q_div2, q_rem2, q_div3, q_rem3, q_div6, q_rem6, q_div10, q_rem10, e1, er, q_10, Nat.mul_comm i 5, k1, k3, e2, b01_f]
      · obtain ⟨nn1, nn2, tt, -⟩ := p2 rfl
        by_cases z : v (6 * i + j) ≤ x2
        · refine ⟨(m2, x2, x3), ⟨F2, ?_⟩, ?_⟩
          · rw [c_ms_at hi hj (by omega), ← h, if_pos z]
          · show g_X8_missed_37 x q _ x2 x3 (nI i) (nI j) m = _
            unfold g_X8_missed_37 f_X0_shutRoad
            rw [X.2.1, if_neg lT]
            simp (disch := omega) only [lt_k, bnv_s, bnd_s, grd_t, q_in, q_inb, q_c, q_leT, q_leF, q_ltT, q_ltF, q_neg, q_nn, q_z, q_le0, q_b0, q_b1, nI_add, nI_0, q_off, q_self, q_oth, cst_2, st_2, ↓reduceIte, f_X8_cellAt, f_X8_roadAt, q_le1, q_nle1, q_le2, q_nle2, q_le5, q_nle5, q_le6, q_nle6, q_le8, q_nle8, q_le12, q_nle12, q_le25, q_nle25, q_le36, q_nle36, q_le60, q_nle60, q_le99, q_nle99, q_le100, q_nle100, q_le300, q_nle300, q_le640, q_nle640, q_le411, q_nle411, q_mul2, q_lmul2, q_mul3, q_lmul3, q_mul5, q_lmul5, q_mul6, q_lmul6, q_mul10, q_lmul10, q_add1, q_ladd1, q_add2, q_ladd2, q_add3, q_ladd3, q_add5, q_ladd5, q_add6, q_ladd6, q_add100, q_ladd100, q_div2, q_rem2, q_div3, q_rem3, q_div6, q_rem6, q_div10, q_rem10, e1, er, q_10, Nat.mul_comm i 5, k1, k3, e2, show b01 true = 1 from rfl, tt, z]
        · refine ⟨(m2, v (6 * i + j), nI (10 * i + j)), ⟨F2, ?_⟩, ?_⟩
          · rw [c_ms_at hi hj (by omega), ← h, if_neg z]
          · show g_X8_missed_37 x q _ x2 x3 (nI i) (nI j) m = _
            unfold g_X8_missed_37 f_X0_shutRoad
            rw [X.2.1, if_neg lT]
            simp (disch := omega) only [lt_k, bnv_s, bnd_s, grd_t, q_in, q_inb, q_c, q_leT, q_leF, q_ltT, q_ltF, q_neg, q_nn, q_z, q_le0, q_b0, q_b1, nI_add, nI_0, q_off, q_self, q_oth, cst_2, st_2, ↓reduceIte, f_X8_cellAt, f_X8_roadAt, q_le1, q_nle1, q_le2, q_nle2, q_le5, q_nle5, q_le6, q_nle6, q_le8, q_nle8, q_le12, q_nle12, q_le25, q_nle25, q_le36, q_nle36, q_le60, q_nle60, q_le99, q_nle99, q_le100, q_nle100, q_le300, q_nle300, q_le640, q_nle640, q_le411, q_nle411, q_mul2, q_lmul2, q_mul3, q_lmul3, q_mul5, q_lmul5, q_mul6, q_lmul6, q_mul10, q_lmul10, q_add1, q_ladd1, q_add2, q_ladd2, q_add3, q_ladd3, q_add5, q_ladd5, q_add6, q_ladd6, q_add100, q_ladd100, q_div2, q_rem2, q_div3, q_rem3, q_div6, q_rem6, q_div10, q_rem10, e1, er, q_10, Nat.mul_comm i 5, k1, k3, e2, show b01 true = 1 from rfl, tt, z]
  · rintro q n i ⟨m, x2, x3⟩ hi ⟨f, h⟩
    change fr SCR μ m at f
    have X := XG_fr hX f (fun c j p q => by unfold SCR; omega)
    show g_X8_missed_37 x q _ x2 x3 (nI i) (nI G.2.1) m = _
    unfold g_X8_missed_37
    rw [X.2.1, if_pos (Int32.le_refl _), lt_k, q_add1]
  · rintro i j ⟨m, x2, x3⟩ hi hj hT2 ⟨f, h⟩
    exact ⟨f, by rw [c_ms_off hj hT2]; exact h⟩
  · rintro n ⟨m, x2, x3⟩ ⟨f, h⟩
    change fr SCR μ m at f
    change (x2, x3) = _ at h
    have X := XG_fr hX f (fun c j p q => by unfold SCR; omega)
    refine ⟨m, ?_, f⟩
    show g_X8_missed_19 x _ x2 x3 (nI G.1) m = _
    unfold g_X8_missed_19
    rw [X.1, if_pos (Int32.le_refl _), ← h]
    by_cases z : x = 0
    · rw [if_pos z, if_pos z]
    · rw [if_neg z, if_neg z]
theorem x9_missedG {G : TG} {μ : Mem} (hM : MG G μ) (hG : g_ok G) {v : Nat → Int32} (hv : ∀ c, g_ms G c (v c)) (x : Int32) : ∃ μ', f_X9_missed_21 x FU (-5) (-5) 0 μ = some (if x = 0 then (c_ms G.1 G.2.1 v (6 * G.1)).2 else (c_ms G.1 G.2.1 v (6 * G.1)).1, μ') ∧ fr ZA μ μ' := by
  have g1 := hG.1
  have g2 := hG.2.1
  refine q_dbl (fun n => f_X9_missed_21 x n) (fun q i (s : Mem × Int32 × Int32) => q s.2.2 s.2.1 (nI i) s.1) (fun q n i j s => f_X9_missed_33 x q n s.2.2 s.2.1 (nI i) (nI j) s.1) (S := G.1) (T := G.2.1) (by omega) (by omega)
    (fun c s => fr ZA μ s.1 ∧ s.2 = c_ms G.1 G.2.1 v c) (fun z => ∃ μ', z = some (if x = 0 then (c_ms G.1 G.2.1 v (6 * G.1)).2 else (c_ms G.1 G.2.1 v (6 * G.1)).1, μ') ∧ fr ZA μ μ') ?_ ?_ ?_ ?_ ?_ (μ, -5, -5) ⟨fr_refl _ _, rfl⟩
  · rintro n i ⟨m, x2, x3⟩ hi ⟨f, h⟩
    change fr ZA μ m at f
    have X := MG_fr hM f (fun c j q => by unfold ZA; omega)
    show g_X9_missed_21 x _ x3 x2 (nI i) m = _
    unfold g_X9_missed_21
    rw [X.1, if_neg (fun q => by have := (nI_leI (by omega) (by omega)).mp q; omega)]
    rfl
  · rintro q n i j ⟨m, x2, x3⟩ hi hj ⟨f, h⟩
    change fr ZA μ m at f
    change (x2, x3) = _ at h
    right
    have X := MG_fr hM f (fun c j q => by unfold ZA; omega)
    have hk := hv (6 * i + j)
    unfold g_ms at hk
    rw [show (6 * i + j) / 6 = i by omega, show (6 * i + j) % 6 = j by omega] at hk
    have k1 : m.1 125 (5 * i + j) = G.2.2.2.2.1 (5 * i + j) := (X.2.2.2 (5 * i + j) (by omega)).1
    have lT : ¬ nI G.2.1 ≤ nI j := fun q => by have := (nI_leI (by omega) (by omega)).mp q; omega
    -- what the rest does with a value
    have fin : ∀ m2 m3, m3 = st m2 125 (5 * i + j) (G.2.2.2.2.1 (5 * i + j)) → fr (fun c p => ZA c p ∨ (c = 125 ∧ p = 5 * i + j)) m m2 → f_X9_missed_33 x q (n + 1) x3 x2 (nI i) (nI j) m = (if v (6 * i + j) ≤ x2 then f_X9_missed_118 x q (f_X9_missed_33 x q n) x2 (nI i) (nI j) (v (6 * i + j)) x3 m3 else f_X9_missed_118 x q (f_X9_missed_33 x q n) x2 (nI i) (nI j) (v (6 * i + j)) (10 * nI i + nI j) m3) → ∃ s' : Mem × Int32 × Int32, (fr ZA μ s'.1 ∧ s'.2 = c_ms G.1 G.2.1 v (6 * i + j + 1)) ∧ f_X9_missed_33 x q (n + 1) x3 x2 (nI i) (nI j) m = f_X9_missed_33 x q n s'.2.2 s'.2.1 (nI i) (nI (j + 1)) s'.1 := by
      intro m2 m3 e3 f2 he
      have f3 : fr ZA μ m3 := by
        refine fr_then f (fr_back (a := 125) (k := 5 * i + j) ?_ ?_)
        · rw [e3]; exact fr_st' f2 (Or.inr ⟨rfl, rfl⟩)
        · rw [e3, q_self]; exact k1.symm
      by_cases z : v (6 * i + j) ≤ x2
      · refine ⟨(m3, x2, x3), ⟨f3, ?_⟩, ?_⟩
        · rw [c_ms_at hi hj (by omega), ← h, if_pos z]
        · rw [he, if_pos z]
          unfold f_X9_missed_118
          rw [lt_k, lt_k, q_add1, show mx x2 (v (6 * i + j)) = if x2 < v (6 * i + j) then v (6 * i + j) else x2 from rfl, if_neg (Int32.not_lt.mpr z)]
      · refine ⟨(m3, v (6 * i + j), nI (10 * i + j)), ⟨f3, ?_⟩, ?_⟩
        · rw [c_ms_at hi hj (by omega), ← h, if_neg z]
        · rw [he, if_neg z]
          unfold f_X9_missed_118
          rw [lt_k, lt_k, q_add1, q_lmul10, nI_add, show mx x2 (v (6 * i + j)) = if x2 < v (6 * i + j) then v (6 * i + j) else x2 from rfl, if_pos (Int32.not_le.mp z)]
    rcases hk with ⟨k3, v5⟩ | ⟨k3, vb⟩
    · refine fin (st m 125 (5 * i + j) 3) (st (st m 125 (5 * i + j) 3) 125 (5 * i + j) (G.2.2.2.2.1 (5 * i + j))) rfl (fr_st (Or.inr ⟨rfl, rfl⟩)) ?_
      show g_X9_missed_33 x q _ x3 x2 (nI i) (nI j) m = _
      unfold g_X9_missed_33 f_X9_missed_84
      rw [X.2.1, if_neg lT]
      simp (disch := omega) only [lt_k, bnv_s, bnd_s, grd_t, q_in, q_inb, q_c, q_leT, q_leF, q_ltT, q_ltF, q_neg, q_nn, q_z, q_le0, q_b0, q_b1, nI_add, nI_0, q_off, q_self, q_oth, cst_2, st_2, ↓reduceIte, f_X8_cellAt, f_X8_roadAt, q_le1, q_nle1, q_le2, q_nle2, q_le5, q_nle5, q_le6, q_nle6, q_le8, q_nle8, q_le12, q_nle12, q_le25, q_nle25, q_le36, q_nle36, q_le60, q_nle60, q_le99, q_nle99, q_le100, q_nle100, q_le300, q_nle300, q_le640, q_nle640, q_le411, q_nle411, q_mul2, q_lmul2, q_mul3, q_lmul3, q_mul5, q_lmul5, q_mul6, q_lmul6, q_mul10, q_lmul10, q_add1, q_ladd1, q_add2, q_ladd2, q_add3, q_ladd3, q_add5, q_ladd5, q_add6, q_ladd6, q_add100, q_ladd100, q_div2, q_rem2, q_div3, q_rem3, q_div6, q_rem6, q_div10, q_rem10, k1, k3, v5]
    · have X2 := MG_kd X (5 * i + j) 3
      have hG2 := g_kd_ok hG (5 * i + j) (x := 3) ⟨by decide, by decide⟩
      obtain ⟨w, m2, e2, f2, b2⟩ := x9_theBest X2 hG2
      have hw := g_bst_det b2 vb
      subst hw
      refine fin m2 (st m2 125 (5 * i + j) (G.2.2.2.2.1 (5 * i + j))) rfl (fr_trans (fr_st (A := fun c p => ZA c p ∨ (c = 125 ∧ p = 5 * i + j)) (Or.inr ⟨rfl, rfl⟩)) f2 (fun c p h => h) (fun c p h => Or.inl h)) ?_
      show g_X9_missed_33 x q _ x3 x2 (nI i) (nI j) m = _
      unfold g_X9_missed_33 f_X9_missed_84
      rw [X.2.1, if_neg lT]
      simp (disch := omega) only [lt_k, bnv_s, bnd_s, grd_t, q_in, q_inb, q_c, q_leT, q_leF, q_ltT, q_ltF, q_neg, q_nn, q_z, q_le0, q_b0, q_b1, nI_add, nI_0, q_off, q_self, q_oth, cst_2, st_2, ↓reduceIte, f_X8_cellAt, f_X8_roadAt, q_le1, q_nle1, q_le2, q_nle2, q_le5, q_nle5, q_le6, q_nle6, q_le8, q_nle8, q_le12, q_nle12, q_le25, q_nle25, q_le36, q_nle36, q_le60, q_nle60, q_le99, q_nle99, q_le100, q_nle100, q_le300, q_nle300, q_le640, q_nle640, q_le411, q_nle411, q_mul2, q_lmul2, q_mul3, q_lmul3, q_mul5, q_lmul5, q_mul6, q_lmul6, q_mul10, q_lmul10, q_add1, q_ladd1, q_add2, q_ladd2, q_add3, q_ladd3, q_add5, q_ladd5, q_add6, q_ladd6, q_add100, q_ladd100, q_div2, q_rem2, q_div3, q_rem3, q_div6, q_rem6, q_div10, q_rem10, k1, k3, e2]
  · rintro q n i ⟨m, x2, x3⟩ hi ⟨f, h⟩
    change fr ZA μ m at f
    have X := MG_fr hM f (fun c j q => by unfold ZA; omega)
    show g_X9_missed_33 x q _ x3 x2 (nI i) (nI G.2.1) m = _
    unfold g_X9_missed_33
    rw [X.2.1, if_pos (Int32.le_refl _), lt_k, q_add1]
  · rintro i j ⟨m, x2, x3⟩ hi hj hT2 ⟨f, h⟩
    exact ⟨f, by rw [c_ms_off hj hT2]; exact h⟩
  · rintro n ⟨m, x2, x3⟩ ⟨f, h⟩
    change fr ZA μ m at f
    change (x2, x3) = _ at h
    have X := MG_fr hM f (fun c j q => by unfold ZA; omega)
    refine ⟨m, ?_, f⟩
    show g_X9_missed_21 x _ x3 x2 (nI G.1) m = _
    unfold g_X9_missed_21
    rw [X.1, if_pos (Int32.le_refl _), ← h]
    by_cases z : x = 0
    · rw [if_pos z, if_pos z]
    · rw [if_neg z, if_neg z]
theorem st_missed {μ : Mem} (hv : Inv μ) (a1 : Int32) : ∃ r μ1 μ2, f_X8_missed a1 μ = some (r, μ1) ∧ f_X9_missed a1 μ1 = some (r, μ2) ∧ Inv μ2 := by
  obtain ⟨⟨D, hD, hX, hM⟩, hR⟩ := id hv
  unfold f_X8_missed f_X9_missed
  by_cases h1 : inR a1 0 1 = true
  · obtain ⟨v, hv'⟩ := Classical.axiomOfChoice (g_ms_ex D.1)
    obtain ⟨m1, e1, f1⟩ := x8_missedG (show XG 15 D.1 μ from hX.1) hD.1 hv' a1
    have M1 := MD_fr hM hD f1 (fun c j q => by unfold SCR; omega)
    obtain ⟨m2, e2, f2⟩ := x9_missedG M1.1 hD.1 hv' a1
    refine ⟨_, m1, m2, by rw [u8_1, bnv_s, h1, b2i_t, if_neg (by decide)]; exact e1, by rw [i9_1, bnv_s, h1, b2i_t, if_neg (by decide)]; exact e2, Inv_scr (Inv_scr hv f1) (fr_mono f2 (fun c j h => by unfold ZA at h; unfold SCR; omega))⟩
  · have h1' := ff_t h1
    exact ⟨-1, μ, μ, by rw [u8_1, bnv_s, h1', b2i_f, if_pos rfl], by rw [i9_1, bnv_s, h1', b2i_f, if_pos rfl], hv⟩
