/-! THE PURE PART: the class's steps -/
def XR (k S T : Nat) (cost : Nat → Int32) (A : TA) (μ : Mem) : Prop := μ.1 k 1 = nI S ∧ μ.1 k 2 = nI T ∧ μ.1 k 3 = nI A.1 ∧ (∀ c, c < 36 → μ.1 (k + 2) c = A.2.1 c) ∧ (∀ c, c < 36 → μ.1 (k + 3) c = b01 (A.2.2.1 c)) ∧ (∀ c, c < 36 → t_pl S T c → μ.1 (k + 1) c = cost c) ∧ t_W S T A.2.2.1 cost (xw k μ) ∧
  (∀ j, j < A.1 → μ.1 (k + 6) j = A.2.2.2.1 j ∧ μ.1 (k + 7) j = A.2.2.2.2.1 j ∧ μ.1 (k + 8) j = A.2.2.2.2.2 j)
def KA (k : Nat) : Nat → Nat → Prop := fun c j => (c = k ∧ j = 3) ∨ (k < c ∧ c < k + 20)
theorem b01_bb {f : Nat → Int32} {B : Nat → Bool} (h : ∀ c, c < 36 → f c = b01 (B c)) (hB : ∀ c, 36 ≤ c → B c = false) : bb f = B := by
  funext c
  unfold bb
  by_cases q : c < 36
  · rw [h c q]
    cases B c
    · exact decide_eq_false (fun r => r.2 rfl)
    · exact decide_eq_true ⟨q, by decide⟩
  · rw [hB c (by omega)]
    exact decide_eq_false (fun r => q r.1)
theorem XR_cost {k S T : Nat} {cost : Nat → Int32} {A : TA} {μ : Mem} (hk : t_ok S T cost A) (h : XR k S T cost A μ) : t_cok (μ.1 (k + 1)) S T ∧ bb (μ.1 (k + 3)) = A.2.2.1 ∧ t_W S T A.2.2.1 (μ.1 (k + 1)) (xw k μ) := by
  obtain ⟨h1, h2, h3, h4, h5, h6, h7, h8⟩ := h
  refine ⟨fun c hc a b => ?_, b01_bb h5 hk.2.2.2.2.2.1, t_W_congr hk.1 (fun c hc hp => (h6 c hc hp).symm) h7⟩
  rw [h6 c hc ⟨a, b⟩]; exact hk.2.1 c hc a b
theorem XR_ld {k S T : Nat} {cost : Nat → Int32} {A : TA} {μ : Mem} (hk : t_ok S T cost A) (h : XR k S T cost A μ) : ∀ c, c < 36 → (μ.1 (k + 2) c).toInt ≤ 1000000 := by
  intro c hc
  rw [h.2.2.2.1 c hc]
  have := (t_ok_ld hk c hc).2
  omega
theorem t_ld_pt {P : Nat → Nat} {tn : Int32} {f g : Nat → Int32} (h : ∀ c, c < 36 → f c = g c) : ∀ n, (∀ k, k < n → P k < 36) → ∀ c, c < 36 → t_ld P tn f n c = t_ld P tn g n c
  | 0, _, c, hc => h c hc
  | n + 1, hP, c, hc => by
    have ih := t_ld_pt (tn := tn) h n (fun k hk => hP k (by omega))
    rw [t_ld_succ, t_ld_succ]
    unfold upd
    rw [ih c hc, ih _ (hP n (by omega))]
theorem x3_turnWay {k S T L c l : Nat} {v : Nat → Nat} {cost : Nat → Int32} {A : TA} {μ : Mem} (hk : t_ok S T cost A) (hn : A.1 < 100) (h1 : μ.1 k 1 = nI S) (h2 : μ.1 k 2 = nI T) (h3 : μ.1 k 3 = nI A.1) (h4 : ∀ c, c < 36 → μ.1 (k + 2) c = A.2.1 c) (h5 : ∀ c, c < 36 → μ.1 (k + 3) c = b01 (A.2.2.1 c))
    (h8 : ∀ j, j < A.1 → μ.1 (k + 6) j = A.2.2.2.1 j ∧ μ.1 (k + 7) j = A.2.2.2.2.1 j ∧ μ.1 (k + 8) j = A.2.2.2.2.2 j) (hc : c < 36) (hb : A.2.2.1 c = false) (hw : t_way S T A.2.2.1 c L v) (hF : FW (k + 16) (t_P c v) L μ) :
    ∃ μ' l, f_X3_turnWay k (nI c) μ = some μ' ∧ fr (KA k) μ μ' ∧ t_lv A.2.1 (t_P c v) (L / 2) (t_tn A.2.1 (t_P c v) L) l ∧ μ'.1 k 3 = nI (A.1 + 1) ∧ μ'.1 (k + 1) = μ.1 (k + 1) ∧
      (∀ d, d < 36 → μ'.1 (k + 2) d = t_ld (t_P c v) (t_tn A.2.1 (t_P c v) L) A.2.1 L d) ∧ (∀ d, d < 36 → μ'.1 (k + 3) d = b01 (t_swap A.2.2.1 c (t_P c v (2 * l + 1)) d)) ∧
      (∀ j, j < A.1 + 1 → μ'.1 (k + 6) j = upd A.2.2.2.1 A.1 (nI c) j ∧ μ'.1 (k + 7) j = upd A.2.2.2.2.1 A.1 (nI (t_P c v (2 * l + 1))) j ∧ μ'.1 (k + 8) j = upd A.2.2.2.2.2 A.1 (t_tn A.2.1 (t_P c v) L) j) := by
  have ht := hk.1
  have hP : ∀ j, j < L → t_P c v j < 36 := fun j hj => t_P_lt ht hw hc hj
  have hL2 := hw.2.2.1
  have hL1 := hw.1
  have etn : t_tn (μ.1 (k + 2)) (t_P c v) L = t_tn A.2.1 (t_P c v) L := t_tn_congr hL2 hP (fun _ _ => rfl) h4
  have e1 := x1_turnOf (a1 := k + 2) hF hw.2.1 hL1 hL2 hP (fun c hc => by rw [h4 c hc]; have := (t_ok_ld hk c hc).2; omega)
  rw [etn] at e1
  obtain ⟨l, e2, hl⟩ := x1_leave (a1 := k + 2) (tn := t_tn A.2.1 (t_P c v) L) hF hw.2.1 hL1 hL2 hP (by
    obtain ⟨m, hm, e⟩ := t_tnf_ex (fun m => μ.1 (k + 2) (t_P c v (2 * m + 1))) (M := L / 2) (by omega)
    exact ⟨m, hm, e.trans etn⟩)
  have hl' : t_lv A.2.1 (t_P c v) (L / 2) (t_tn A.2.1 (t_P c v) L) l := by
    obtain ⟨x, y, z⟩ := hl
    refine ⟨x, by rw [← h4 _ (hP _ (by omega))]; exact y, fun m' hm' e => z m' hm' (by rw [h4 _ (hP _ (by omega))]; exact e)⟩
  have e3 := x1_turnLoads (a1 := k + 2) (t_tn A.2.1 (t_P c v) L) (by omega) hF hw.2.1 hP
  have hlv := hP (2 * l + 1) (by have := hl'.1; omega)
  generalize ePl : t_P c v (2 * l + 1) = pl at *
  generalize etl : t_tn A.2.1 (t_P c v) L = tn at *
  generalize emm : cst μ (k + 2) (t_ld (t_P c v) tn (μ.1 (k + 2)) L) = m6 at *
  have m6o : ∀ c', c' ≠ k + 2 → m6.1 c' = μ.1 c' := fun c' h => by rw [← emm]; exact cst_c _ _ _ h
  have m6s : m6.1 (k + 2) = t_ld (t_P c v) tn (μ.1 (k + 2)) L := by rw [← emm]; exact cst_s _ _ _
  have m6f : fr (KA k) μ m6 := by rw [← emm]; exact fr_cst (fun j => by unfold KA; omega)
  refine ⟨st (st (st (st (st (st m6 (k + 3) c 1) (k + 3) pl 0) (k + 6) A.1 (nI c)) (k + 7) A.1 (nI pl)) (k + 8) A.1 tn) k 3 (nI (A.1 + 1)), l, ?_, ?_, hl', ?_, ?_, ?_, ?_, ?_⟩
  · unfold f_X3_turnWay
    have g3 : m6.1 k 3 = nI A.1 := by rw [m6o k (by omega)]; exact h3
    simp (disch := omega) only [lt_k, bnv_s, bnd_s, grd_t, q_in, q_inb, q_c, q_leT, q_leF, q_ltT, q_ltF, q_neg, q_nn, q_z, q_le0, q_b0, q_b1, nI_add, nI_0, q_off, q_self, q_oth, cst_2, st_2, ↓reduceIte, f_X8_cellAt, f_X8_roadAt, q_le1, q_nle1, q_le2, q_nle2, q_le5, q_nle5, q_le6, q_nle6, q_le8, q_nle8, q_le12, q_nle12, q_le25, q_nle25, q_le36, q_nle36, q_le60, q_nle60, q_le99, q_nle99, q_le100, q_nle100, q_le300, q_nle300, q_le640, q_nle640, q_le411, q_nle411, q_mul2, q_lmul2, q_mul3, q_lmul3, q_mul5, q_lmul5, q_mul6, q_lmul6, q_mul10, q_lmul10, q_add1, q_ladd1, q_add2, q_ladd2, q_add3, q_ladd3, q_add5, q_ladd5, q_add6, q_ladd6, q_add100, q_ladd100, q_div2, q_rem2, q_div3, q_rem3, q_div6, q_rem6, q_div10, q_rem10, e1, e2, e3, g3]
  · exact fr_st' (fr_st' (fr_st' (fr_st' (fr_st' (fr_st' m6f (by unfold KA; omega)) (by unfold KA; omega)) (by unfold KA; omega)) (by unfold KA; omega)) (by unfold KA; omega)) (by unfold KA; omega)
  · simp (disch := omega) only [lt_k, bnv_s, bnd_s, grd_t, q_in, q_inb, q_c, q_leT, q_leF, q_ltT, q_ltF, q_neg, q_nn, q_z, q_le0, q_b0, q_b1, nI_add, nI_0, q_off, q_self, q_oth, cst_2, st_2, ↓reduceIte, f_X8_cellAt, f_X8_roadAt, q_le1, q_nle1, q_le2, q_nle2, q_le5, q_nle5, q_le6, q_nle6, q_le8, q_nle8, q_le12, q_nle12, q_le25, q_nle25, q_le36, q_nle36, q_le60, q_nle60, q_le99, q_nle99, q_le100, q_nle100, q_le300, q_nle300, q_le640, q_nle640, q_le411, q_nle411, q_mul2, q_lmul2, q_mul3, q_lmul3, q_mul5, q_lmul5, q_mul6, q_lmul6, q_mul10, q_lmul10, q_add1, q_ladd1, q_add2, q_ladd2, q_add3, q_ladd3, q_add5, q_ladd5, q_add6, q_ladd6, q_add100, q_ladd100, q_div2, q_rem2, q_div3, q_rem3, q_div6, q_rem6, q_div10, q_rem10, lt_k]
  · simp (disch := omega) only [lt_k, bnv_s, bnd_s, grd_t, q_in, q_inb, q_c, q_leT, q_leF, q_ltT, q_ltF, q_neg, q_nn, q_z, q_le0, q_b0, q_b1, nI_add, nI_0, q_off, q_self, q_oth, cst_2, st_2, ↓reduceIte, f_X8_cellAt, f_X8_roadAt, q_le1, q_nle1, q_le2, q_nle2, q_le5, q_nle5, q_le6, q_nle6, q_le8, q_nle8, q_le12, q_nle12, q_le25, q_nle25, q_le36, q_nle36, q_le60, q_nle60, q_le99, q_nle99, q_le100, q_nle100, q_le300, q_nle300, q_le640, q_nle640, q_le411, q_nle411, q_mul2, q_lmul2, q_mul3, q_lmul3, q_mul5, q_lmul5, q_mul6, q_lmul6, q_mul10, q_lmul10, q_add1, q_ladd1, q_add2, q_ladd2, q_add3, q_ladd3, q_add5, q_ladd5, q_add6, q_ladd6, q_add100, q_ladd100, q_div2, q_rem2, q_div3, q_rem3, q_div6, q_rem6, q_div10, q_rem10, lt_k]
    exact m6o _ (by omega)
  · intro d hd
    simp (disch := omega) only [lt_k, bnv_s, bnd_s, grd_t, q_in, q_inb, q_c, q_leT, q_leF, q_ltT, q_ltF, q_neg, q_nn, q_z, q_le0, q_b0, q_b1, nI_add, nI_0, q_off, q_self, q_oth, cst_2, st_2, ↓reduceIte, f_X8_cellAt, f_X8_roadAt, q_le1, q_nle1, q_le2, q_nle2, q_le5, q_nle5, q_le6, q_nle6, q_le8, q_nle8, q_le12, q_nle12, q_le25, q_nle25, q_le36, q_nle36, q_le60, q_nle60, q_le99, q_nle99, q_le100, q_nle100, q_le300, q_nle300, q_le640, q_nle640, q_le411, q_nle411, q_mul2, q_lmul2, q_mul3, q_lmul3, q_mul5, q_lmul5, q_mul6, q_lmul6, q_mul10, q_lmul10, q_add1, q_ladd1, q_add2, q_ladd2, q_add3, q_ladd3, q_add5, q_ladd5, q_add6, q_ladd6, q_add100, q_ladd100, q_div2, q_rem2, q_div3, q_rem3, q_div6, q_rem6, q_div10, q_rem10, m6s]
    exact t_ld_pt h4 L hP d hd
  · intro d hd
    simp (disch := omega) only [lt_k, bnv_s, bnd_s, grd_t, q_in, q_inb, q_c, q_leT, q_leF, q_ltT, q_ltF, q_neg, q_nn, q_z, q_le0, q_b0, q_b1, nI_add, nI_0, q_off, q_self, q_oth, cst_2, st_2, ↓reduceIte, f_X8_cellAt, f_X8_roadAt, q_le1, q_nle1, q_le2, q_nle2, q_le5, q_nle5, q_le6, q_nle6, q_le8, q_nle8, q_le12, q_nle12, q_le25, q_nle25, q_le36, q_nle36, q_le60, q_nle60, q_le99, q_nle99, q_le100, q_nle100, q_le300, q_nle300, q_le640, q_nle640, q_le411, q_nle411, q_mul2, q_lmul2, q_mul3, q_lmul3, q_mul5, q_lmul5, q_mul6, q_lmul6, q_mul10, q_lmul10, q_add1, q_ladd1, q_add2, q_ladd2, q_add3, q_ladd3, q_add5, q_ladd5, q_add6, q_ladd6, q_add100, q_ladd100, q_div2, q_rem2, q_div3, q_rem3, q_div6, q_rem6, q_div10, q_rem10, q_at]
    rw [ePl]
    unfold t_swap
    by_cases q : d = pl
    · rw [if_pos q, if_pos q]
      by_cases q2 : d = c
      · exfalso
        have := (t_P_B ht hw (k := 2 * l + 1) (by have := hl'.1; omega) (by omega)).2
        rw [ePl, ← q, q2, hb] at this
        cases this
      · rw [if_neg q2]; rfl
    · rw [if_neg q, if_neg q]
      by_cases q2 : d = c
      · rw [if_pos q2, if_pos q2]; rfl
      · rw [if_neg q2, if_neg q2, m6o _ (by omega)]; exact h5 d hd
  · intro j hj
    simp (disch := omega) only [lt_k, bnv_s, bnd_s, grd_t, q_in, q_inb, q_c, q_leT, q_leF, q_ltT, q_ltF, q_neg, q_nn, q_z, q_le0, q_b0, q_b1, nI_add, nI_0, q_off, q_self, q_oth, cst_2, st_2, ↓reduceIte, f_X8_cellAt, f_X8_roadAt, q_le1, q_nle1, q_le2, q_nle2, q_le5, q_nle5, q_le6, q_nle6, q_le8, q_nle8, q_le12, q_nle12, q_le25, q_nle25, q_le36, q_nle36, q_le60, q_nle60, q_le99, q_nle99, q_le100, q_nle100, q_le300, q_nle300, q_le640, q_nle640, q_le411, q_nle411, q_mul2, q_lmul2, q_mul3, q_lmul3, q_mul5, q_lmul5, q_mul6, q_lmul6, q_mul10, q_lmul10, q_add1, q_ladd1, q_add2, q_ladd2, q_add3, q_ladd3, q_add5, q_ladd5, q_add6, q_ladd6, q_add100, q_ladd100, q_div2, q_rem2, q_div3, q_rem3, q_div6, q_rem6, q_div10, q_rem10, q_at]
    rw [ePl]
    unfold upd
    rw [m6o _ (by omega), m6o _ (by omega), m6o _ (by omega)]
    by_cases q : j = A.1
    · rw [if_pos q, if_pos q, if_pos q, if_pos q, if_pos q, if_pos q]; exact ⟨rfl, rfl, rfl⟩
    · rw [if_neg q, if_neg q, if_neg q, if_neg q, if_neg q, if_neg q]; exact h8 j (by omega)
theorem x3_often {k S T : Nat} {cost : Nat → Int32} {A : TA} {μ : Mem} (m : Int32) (n : Nat) (hn : n ≤ 100) (hk : t_ok S T cost A) (hx : XR k S T cost A μ) :
    ∃ d A' μ', f_X3_stepOften k m (nI n) μ = some (nI d, μ') ∧ d ≤ n ∧ t_run S T cost m n A d A' ∧ XR k S T cost A' μ' ∧ fr (KA k) μ μ' := by
  refine q_loop0 (fun f i (s : Mem) => f_X3_stepOften_2 k m (nI n) f (nI i) s) n (by omega)
    (fun i s => ∃ Ai, t_ok S T cost Ai ∧ XR k S T cost Ai s ∧ fr (KA k) μ s ∧ ∀ d A', t_run S T cost m (n - i) Ai d A' → t_run S T cost m n A (i + d) A')
    (fun z => ∃ d A' μ', z = some (nI d, μ') ∧ d ≤ n ∧ t_run S T cost m n A d A' ∧ XR k S T cost A' μ' ∧ fr (KA k) μ μ') ?_ ?_ μ ⟨A, hk, hx, fr_refl _ _, fun d A' h => by rw [Nat.zero_add]; exact h⟩
  · rintro f i s hi ⟨Ai, p1, p2, p3, p4⟩
    obtain ⟨c1, c2, c3⟩ := XR_cost p1 p2
    obtain ⟨h1, h2, h3, h4, h5, h6, h7, h8⟩ := id p2
    have ht := p1.1
    obtain ⟨r, s1, e1, f1, en⟩ := x3_enter (k := k) (μ := s) m h1 h2 (by rw [c2]; exact ht) (by rw [c2]; exact c3) (XR_ld p1 p2)
    rw [c2] at en
    -- by the data
    have en' : t_ent S T (t_sp cost (xw k s)) (t_wt S T Ai.2.2.1 cost (xw k s) Ai.2.1 m) r := by
      refine t_ent_congr (fun c hc hp => ?_) (fun c hc hp hs => ?_) en
      · unfold t_sp; rw [h6 c hc hp]
      · exact t_wt_congr ht h4 hc (h6 c hc hp) hp (t_neg_free c3 hc hs)
    have ff : fr (KA k) s s1 := fr_mono f1 (fun c j h => by unfold FA at h; unfold KA; omega)
    have g3 : s1.1 k 3 = nI Ai.1 := by rw [f1.2 k 3 (by unfold FA; omega)]; exact h3
    have stay : XR k S T cost Ai s1 := by
      refine ⟨by rw [f1.2 k 1 (by unfold FA; omega)]; exact h1, by rw [f1.2 k 2 (by unfold FA; omega)]; exact h2, g3, fun c hc => by rw [f1.2 _ c (by unfold FA; omega)]; exact h4 c hc, fun c hc => by rw [f1.2 _ c (by unfold FA; omega)]; exact h5 c hc,
        fun c hc hp => by rw [f1.2 _ c (by unfold FA; omega)]; exact h6 c hc hp, ?_, fun j hj => ?_⟩
      · have : xw k s1 = xw k s := by
          funext v
          unfold xw
          rw [f1.2 (k + 4) v (by unfold FA; omega), f1.2 (k + 5) (v - 6) (by unfold FA; omega)]
        rw [this]; exact h7
      · rw [f1.2 (k + 6) j (by unfold FA; omega), f1.2 (k + 7) j (by unfold FA; omega), f1.2 (k + 8) j (by unfold FA; omega)]; exact h8 j hj
    have runS : n - i = (n - i - 1) + 1 := by omega
    rcases en' with ⟨r1, r2⟩ | ⟨c, r1, r2⟩
    · left
      refine ⟨i, Ai, s1, ?_, by omega, ?_, stay, fr_then p3 ff⟩
      · show g_X3_stepOften_2 k m (nI n) _ (nI i) s = _
        unfold g_X3_stepOften_2
        simp (disch := omega) only [lt_k, bnv_s, bnd_s, grd_t, q_in, q_inb, q_c, q_leT, q_leF, q_ltT, q_ltF, q_neg, q_nn, q_z, q_le0, q_b0, q_b1, nI_add, nI_0, q_off, q_self, q_oth, cst_2, st_2, ↓reduceIte, f_X8_cellAt, f_X8_roadAt, q_le1, q_nle1, q_le2, q_nle2, q_le5, q_nle5, q_le6, q_nle6, q_le8, q_nle8, q_le12, q_nle12, q_le25, q_nle25, q_le36, q_nle36, q_le60, q_nle60, q_le99, q_nle99, q_le100, q_nle100, q_le300, q_nle300, q_le640, q_nle640, q_le411, q_nle411, q_mul2, q_lmul2, q_mul3, q_lmul3, q_mul5, q_lmul5, q_mul6, q_lmul6, q_mul10, q_lmul10, q_add1, q_ladd1, q_add2, q_ladd2, q_add3, q_ladd3, q_add5, q_ladd5, q_add6, q_ladd6, q_add100, q_ladd100, q_div2, q_rem2, q_div3, q_rem3, q_div6, q_rem6, q_div10, q_rem10, e1, r1]
      · have := p4 0 Ai (by rw [runS]; exact Or.inl ⟨rfl, rfl, Or.inl ⟨_, h7, r2⟩⟩)
        rw [Nat.add_zero] at this; exact this
    · have hc := r2.1
      have hpl := r2.2.1
      have hb := t_neg_free h7 hc r2.2.2.1
      by_cases h100 : Ai.1 < 100
      · right
        have hb3 : s1.1 (k + 3) = s.1 (k + 3) := fr_c f1 (fun j h => by unfold FA at h; omega)
        obtain ⟨s2, L, v, e2, f2, w2, F2⟩ := x1_follow (k := k + 16) (a2 := k + 3) (S := S) (T := T) (cell := c) (μ := s1) (by omega) (by rw [hb3, c2]; exact ht) hc hpl.1 hpl.2
        rw [hb3, c2] at w2
        obtain ⟨x1, x2, x3, x4, x5, x6, x7, x8⟩ := stay
        obtain ⟨s3, l, e3, f3, t1, t2, t3, t4, t5, t6⟩ := x3_turnWay (k := k) (S := S) (T := T) (L := L) (c := c) (l := 0) (v := v) (μ := s2) p1 h100 (by rw [f2.2 k 1 (by unfold FA; omega)]; exact x1) (by rw [f2.2 k 2 (by unfold FA; omega)]; exact x2) (by rw [f2.2 k 3 (by unfold FA; omega)]; exact x3)
          (fun c hc => by rw [f2.2 _ c (by unfold FA; omega)]; exact x4 c hc) (fun c hc => by rw [f2.2 _ c (by unfold FA; omega)]; exact x5 c hc) (fun j hj => by rw [f2.2 (k + 6) j (by unfold FA; omega), f2.2 (k + 7) j (by unfold FA; omega), f2.2 (k + 8) j (by unfold FA; omega)]; exact x8 j hj) hc hb w2 F2
        have stp : t_stp S T cost m Ai (Ai.1 + 1, t_ld (t_P c v) (t_tn Ai.2.1 (t_P c v) L) Ai.2.1 L, t_swap Ai.2.2.1 c (t_P c v (2 * l + 1)), upd Ai.2.2.2.1 Ai.1 (nI c), upd Ai.2.2.2.2.1 Ai.1 (nI (t_P c v (2 * l + 1))), upd Ai.2.2.2.2.2 Ai.1 (t_tn Ai.2.1 (t_P c v) L)) := ⟨xw k s, c, L, v, l, h7, r2, w2, t1, rfl⟩
        have ok1 := t_stp_ok p1 h100 stp
        generalize eA : ((Ai.1 + 1, t_ld (t_P c v) (t_tn Ai.2.1 (t_P c v) L) Ai.2.1 L, t_swap Ai.2.2.1 c (t_P c v (2 * l + 1)), upd Ai.2.2.2.1 Ai.1 (nI c), upd Ai.2.2.2.2.1 Ai.1 (nI (t_P c v (2 * l + 1))), upd Ai.2.2.2.2.2 Ai.1 (t_tn Ai.2.1 (t_P c v) L)) : TA) = A1 at *
        have q1 : A1.1 = Ai.1 + 1 := by rw [← eA]
        have hs3 : bb (s3.1 (k + 3)) = A1.2.2.1 := b01_bb (fun d hd => by rw [t5 d hd, ← eA]) ok1.2.2.2.2.2.1
        have fc3 : s3.1 (k + 1) = s.1 (k + 1) := by
          rw [t3, fr_c f2 (fun j h => by unfold FA at h; omega), fr_c f1 (fun j h => by unfold FA at h; omega)]
        have cok3 : t_cok (s3.1 (k + 1)) S T := by rw [fc3]; exact c1
        have y1 : s3.1 k 1 = nI S := by rw [f3.2 k 1 (by unfold KA; omega), f2.2 k 1 (by unfold FA; omega)]; exact x1
        have y2 : s3.1 k 2 = nI T := by rw [f3.2 k 2 (by unfold KA; omega), f2.2 k 2 (by unfold FA; omega)]; exact x2
        obtain ⟨s4, e4, f4, w4⟩ := x3_reckon y1 y2 (by rw [hs3]; exact ok1.1) cok3
        rw [hs3, fc3] at w4
        have f4' : fr (KA k) s3 s4 := fr_mono f4 (fun c j h => by unfold XA at h; unfold KA; omega)
        refine ⟨s4, ⟨A1, ok1, ⟨?_, ?_, ?_, fun d hd => ?_, fun d hd => ?_, fun d hd hp => ?_, t_W_congr ok1.1 h6 w4, fun j hj => ?_⟩, ?_, fun d A' hr => ?_⟩, ?_⟩
        · rw [f4.2 k 1 (by unfold XA; omega)]; exact y1
        · rw [f4.2 k 2 (by unfold XA; omega)]; exact y2
        · rw [f4.2 k 3 (by unfold XA; omega), q1]; exact t2
        · rw [f4.2 _ d (by unfold XA; omega), t4 d hd, ← eA]
        · rw [f4.2 _ d (by unfold XA; omega), t5 d hd, ← eA]
        · rw [f4.2 _ d (by unfold XA; omega), fc3]; exact h6 d hd hp
        · rw [f4.2 (k + 6) j (by unfold XA; omega), f4.2 (k + 7) j (by unfold XA; omega), f4.2 (k + 8) j (by unfold XA; omega), ← eA]
          exact t6 j (by rw [← q1]; exact hj)
        · exact fr_then p3 (fr_then ff (fr_then (fr_mono f2 (fun c j h => by unfold FA at h; unfold KA; omega)) (fr_then f3 f4')))
        · have := p4 (d + 1) A' (by rw [runS]; exact Or.inr ⟨A1, d, h100, stp, by rw [show n - i - 1 = n - (i + 1) by omega]; exact hr, rfl⟩)
          rw [show i + 1 + d = i + (d + 1) by omega]; exact this
        · show g_X3_stepOften_2 k m (nI n) _ (nI i) s = _
          unfold g_X3_stepOften_2
          have lt100 : (nI Ai.1 < 100) = True := eq_true ((nI_ltI (b := 100) (by omega) (by decide)).mpr h100)
          simp (disch := omega) only [lt_k, bnv_s, bnd_s, grd_t, q_in, q_inb, q_c, q_leT, q_leF, q_ltT, q_ltF, q_neg, q_nn, q_z, q_le0, q_b0, q_b1, nI_add, nI_0, q_off, q_self, q_oth, cst_2, st_2, ↓reduceIte, f_X8_cellAt, f_X8_roadAt, q_le1, q_nle1, q_le2, q_nle2, q_le5, q_nle5, q_le6, q_nle6, q_le8, q_nle8, q_le12, q_nle12, q_le25, q_nle25, q_le36, q_nle36, q_le60, q_nle60, q_le99, q_nle99, q_le100, q_nle100, q_le300, q_nle300, q_le640, q_nle640, q_le411, q_nle411, q_mul2, q_lmul2, q_mul3, q_lmul3, q_mul5, q_lmul5, q_mul6, q_lmul6, q_mul10, q_lmul10, q_add1, q_ladd1, q_add2, q_ladd2, q_add3, q_ladd3, q_add5, q_ladd5, q_add6, q_ladd6, q_add100, q_ladd100, q_div2, q_rem2, q_div3, q_rem3, q_div6, q_rem6, q_div10, q_rem10, e1, r1, q_cm1 hc, g3, lt100, e2, e3, e4]
      · left
        have lt100 : (nI Ai.1 < 100) = False := eq_false (fun q => h100 ((nI_ltI (b := 100) (by have := p1.2.2.2.2.2.2; omega) (by decide)).mp q))
        refine ⟨i, Ai, s1, ?_, by omega, ?_, stay, fr_then p3 ff⟩
        · show g_X3_stepOften_2 k m (nI n) _ (nI i) s = _
          unfold g_X3_stepOften_2
          simp (disch := omega) only [lt_k, bnv_s, bnd_s, grd_t, q_in, q_inb, q_c, q_leT, q_leF, q_ltT, q_ltF, q_neg, q_nn, q_z, q_le0, q_b0, q_b1, nI_add, nI_0, q_off, q_self, q_oth, cst_2, st_2, ↓reduceIte, f_X8_cellAt, f_X8_roadAt, q_le1, q_nle1, q_le2, q_nle2, q_le5, q_nle5, q_le6, q_nle6, q_le8, q_nle8, q_le12, q_nle12, q_le25, q_nle25, q_le36, q_nle36, q_le60, q_nle60, q_le99, q_nle99, q_le100, q_nle100, q_le300, q_nle300, q_le640, q_nle640, q_le411, q_nle411, q_mul2, q_lmul2, q_mul3, q_lmul3, q_mul5, q_lmul5, q_mul6, q_lmul6, q_mul10, q_lmul10, q_add1, q_ladd1, q_add2, q_ladd2, q_add3, q_ladd3, q_add5, q_ladd5, q_add6, q_ladd6, q_add100, q_ladd100, q_div2, q_rem2, q_div3, q_rem3, q_div6, q_rem6, q_div10, q_rem10, e1, r1, q_cm1 hc, g3, lt100]
        · have := p4 0 Ai (by rw [runS]; exact Or.inl ⟨rfl, rfl, Or.inr (by omega)⟩)
          rw [Nat.add_zero] at this; exact this
  · rintro f s ⟨Ai, p1, p2, p3, p4⟩
    refine ⟨n, Ai, s, ?_, Nat.le_refl n, ?_, p2, p3⟩
    · show g_X3_stepOften_2 k m (nI n) _ (nI n) s = _
      unfold g_X3_stepOften_2
      simp (disch := omega) only [lt_k, bnv_s, bnd_s, grd_t, q_in, q_inb, q_c, q_leT, q_leF, q_ltT, q_ltF, q_neg, q_nn, q_z, q_le0, q_b0, q_b1, nI_add, nI_0, q_off, q_self, q_oth, cst_2, st_2, ↓reduceIte, f_X8_cellAt, f_X8_roadAt, q_le1, q_nle1, q_le2, q_nle2, q_le5, q_nle5, q_le6, q_nle6, q_le8, q_nle8, q_le12, q_nle12, q_le25, q_nle25, q_le36, q_nle36, q_le60, q_nle60, q_le99, q_nle99, q_le100, q_nle100, q_le300, q_nle300, q_le640, q_nle640, q_le411, q_nle411, q_mul2, q_lmul2, q_mul3, q_lmul3, q_mul5, q_lmul5, q_mul6, q_lmul6, q_mul10, q_lmul10, q_add1, q_ladd1, q_add2, q_ladd2, q_add3, q_ladd3, q_add5, q_ladd5, q_add6, q_ladd6, q_add100, q_ladd100, q_div2, q_rem2, q_div3, q_rem3, q_div6, q_rem6, q_div10, q_rem10, lt_k]
    · have := p4 0 Ai (by rw [Nat.sub_self]; exact ⟨rfl, rfl⟩)
      rw [Nat.add_zero] at this; exact this
