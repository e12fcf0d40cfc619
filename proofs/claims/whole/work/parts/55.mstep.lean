/-! THE PURE PART: the model's steps -/
def t_spl (x : Int32) : Int32 := (10 * (x / 6)) + rm32 x 6
def MR (S T : Nat) (cost : Nat → Int32) (A : TA) (μ : Mem) : Prop := μ.1 122 7 = nI S ∧ μ.1 122 8 = nI T ∧ μ.1 122 9 = nI A.1 ∧ (∀ c, c < 36 → μ.1 128 c = A.2.1 c) ∧ (∀ c, c < 36 → μ.1 129 c = b01 (A.2.2.1 c)) ∧ (∀ c, c < 36 → t_pl S T c → μ.1 127 c = cost c) ∧
  (∀ j, j < A.1 → μ.1 130 (3 * j) = t_spl (A.2.2.2.1 j) ∧ μ.1 130 (3 * j + 1) = t_spl (A.2.2.2.2.1 j) ∧ μ.1 130 (3 * j + 2) = A.2.2.2.2.2 j)
/-- what steps change -/
def NA : Nat → Nat → Prop := fun c j => (c = 122 ∧ (j = 9 ∨ j = 41 ∨ j = 42)) ∨ (c = 128 ∧ j < 36) ∨ (c = 129 ∧ j < 36) ∨ (c = 130 ∧ j < 300) ∨ (142 ≤ c ∧ c ≤ 146)
theorem fr_cstp {A : Nat → Nat → Prop} {μ : Mem} {k : Nat} {f : Nat → Int32} (h : ∀ j, ¬ A k j → f j = μ.1 k j) : fr A μ (cst μ k f) := by
  refine ⟨rfl, fun k' j' hn => ?_⟩
  by_cases q : k' = k
  · subst q; rw [cst_s]; exact h j' hn
  · rw [cst_c μ k f q]
theorem MR_cost {S T : Nat} {cost : Nat → Int32} {A : TA} {μ : Mem} (hk : t_ok S T cost A) (h : MR S T cost A μ) : t_cok (μ.1 127) S T ∧ bb (μ.1 129) = A.2.2.1 ∧ (∀ c, c < 36 → μ.1 129 c = 0 ∨ μ.1 129 c = 1) ∧ t_ldok (μ.1 128) := by
  obtain ⟨h1, h2, h3, h4, h5, h6, h7⟩ := h
  refine ⟨fun c hc a b => ?_, b01_bb h5 hk.2.2.2.2.2.1, fun c hc => ?_, fun c hc => ?_⟩
  · rw [h6 c hc ⟨a, b⟩]; exact hk.2.1 c hc a b
  · rw [h5 c hc]; cases A.2.2.1 c
    · exact Or.inl rfl
    · exact Or.inr rfl
  · rw [h4 c hc]; exact t_ok_ld hk c hc
theorem MR_fr {S T : Nat} {cost : Nat → Int32} {A : TA} {μ μ' : Mem} (h : MR S T cost A μ) (f : fr EA μ μ') : MR S T cost A μ' := by
  obtain ⟨h1, h2, h3, h4, h5, h6, h7⟩ := h
  refine ⟨by rw [f.2 122 7 (by unfold EA LA; omega)]; exact h1, by rw [f.2 122 8 (by unfold EA LA; omega)]; exact h2, by rw [f.2 122 9 (by unfold EA LA; omega)]; exact h3, fun c hc => by rw [f.2 128 c (by unfold EA LA; omega)]; exact h4 c hc,
    fun c hc => by rw [f.2 129 c (by unfold EA LA; omega)]; exact h5 c hc, fun c hc hp => by rw [f.2 127 c (by unfold EA LA; omega)]; exact h6 c hc hp, fun j hj => ?_⟩
  rw [f.2 130 _ (by unfold EA LA; omega), f.2 130 _ (by unfold EA LA; omega), f.2 130 _ (by unfold EA LA; omega)]
  exact h7 j hj
theorem q_mn {a b : Nat} (ha : a < 2147483648) (hb : b < 2147483648) : mn (nI a) (nI b) = if b < a then nI b else nI a := by
  unfold mn
  by_cases h : b < a
  · rw [if_pos h, if_pos ((nI_ltI hb ha).mpr h)]
  · rw [if_neg h, if_neg (fun q => h ((nI_ltI hb ha).mp q))]
theorem q_subz {x y : Int32} : x + -y = 0 ↔ x = y := by
  rw [← Int32.sub_eq_add_neg]
  constructor
  · intro h
    have : x - y + y = 0 + y := by rw [h]
    rw [Int32.sub_add_cancel, Int32.zero_add] at this
    exact this
  · intro h; rw [h, Int32.sub_self]
theorem t_spl_n {c : Nat} (h : c < 36) : t_spl (nI c) = nI (10 * (c / 6) + c % 6) := by
  unfold t_spl
  simp (disch := omega) only [lt_k, bnv_s, bnd_s, grd_t, q_in, q_inb, q_c, q_leT, q_leF, q_ltT, q_ltF, q_neg, q_nn, q_z, q_le0, q_b0, q_b1, nI_add, nI_0, q_off, q_self, q_oth, cst_2, st_2, ↓reduceIte, f_X8_cellAt, f_X8_roadAt, q_le1, q_nle1, q_le2, q_nle2, q_le5, q_nle5, q_le6, q_nle6, q_le8, q_nle8, q_le12, q_nle12, q_le25, q_nle25, q_le36, q_nle36, q_le60, q_nle60, q_le99, q_nle99, q_le100, q_nle100, q_le300, q_nle300, q_le640, q_nle640, q_le411, q_nle411, q_mul2, q_lmul2, q_mul3, q_lmul3, q_mul5, q_lmul5, q_mul6, q_lmul6, q_mul10, q_lmul10, q_add1, q_ladd1, q_add2, q_ladd2, q_add3, q_ladd3, q_add5, q_ladd5, q_add6, q_ladd6, q_add100, q_ladd100, q_div2, q_rem2, q_div3, q_rem3, q_div6, q_rem6, q_div10, q_rem10, lt_k]
theorem x9_turn {S T L c : Nat} {v : Nat → Nat} {cost : Nat → Int32} {A : TA} {μ : Mem} (m : Int32) (hk : t_ok S T cost A) (hn : A.1 < 100) (hx : MR S T cost A μ) (hc : c < 36) (hb : A.2.2.1 c = false) (hw : t_way S T A.2.2.1 c L v)
    (h41 : μ.1 122 41 = nI L) (h145 : ∀ j, j < L → μ.1 145 j = nI (t_P c v j)) (h42 : μ.1 122 42 = t_tn A.2.1 (t_P c v) L) :
    ∃ μ' l, f_X9_moves_23 m FU (nI c) 36 0 μ = some (1, μ') ∧ t_lv A.2.1 (t_P c v) (L / 2) (t_tn A.2.1 (t_P c v) L) l ∧ fr NA μ μ' ∧
      MR S T cost (A.1 + 1, t_ld (t_P c v) (t_tn A.2.1 (t_P c v) L) A.2.1 L, t_swap A.2.2.1 c (t_P c v (2 * l + 1)), upd A.2.2.2.1 A.1 (nI c), upd A.2.2.2.2.1 A.1 (nI (t_P c v (2 * l + 1))), upd A.2.2.2.2.2 A.1 (t_tn A.2.1 (t_P c v) L)) μ' := by
  have ht := hk.1
  obtain ⟨h1, h2, h3, h4, h5, h6, h7⟩ := hx
  have hP : ∀ j, j < L → t_P c v j < 36 := fun j hj => t_P_lt ht hw hc hj
  have inj : ∀ j k, j < L → k < L → t_P c v j = t_P c v k → j = k := fun j k hj hk e => t_P_inj ht hw hb hj hk e
  have hL2 := hw.2.2.1
  have hL1 := hw.1
  have hL12 := hw.2.1
  obtain ⟨m0, hm0, em0⟩ := t_tnf_ex (fun m => A.2.1 (t_P c v (2 * m + 1))) (M := L / 2) (by omega)
  change A.2.1 (t_P c v (2 * m0 + 1)) = t_tn A.2.1 (t_P c v) L at em0
  generalize etl : t_tn A.2.1 (t_P c v) L = tn at *
  have hld : ∀ i, i ≤ L → ∀ d, d < 36 → t_ld (t_P c v) tn (μ.1 128) i d = t_ld (t_P c v) tn A.2.1 i d := fun i hi d hd => t_ld_pt h4 i (fun k hk => hP k (by omega)) d hd
  refine q_loop0 (fun n i (s : Int32 × Mem) => f_X9_moves_23 m n (nI c) s.1 (nI i) s.2) L (by omega)
    (fun i s => s.2 = cst μ 128 (t_ld (t_P c v) tn (μ.1 128) i) ∧ ((s.1 = nI 36 ∧ ∀ j, 2 * j + 1 < i → A.2.1 (t_P c v (2 * j + 1)) ≠ tn) ∨ ∃ l, s.1 = nI (t_P c v (2 * l + 1)) ∧ 2 * l + 1 < i ∧ A.2.1 (t_P c v (2 * l + 1)) = tn ∧ ∀ j, 2 * j + 1 < i → A.2.1 (t_P c v (2 * j + 1)) = tn → t_P c v (2 * l + 1) ≤ t_P c v (2 * j + 1)))
    (fun z => ∃ μ' l, z = some (1, μ') ∧ t_lv A.2.1 (t_P c v) (L / 2) tn l ∧ fr NA μ μ' ∧
      MR S T cost (A.1 + 1, t_ld (t_P c v) tn A.2.1 L, t_swap A.2.2.1 c (t_P c v (2 * l + 1)), upd A.2.2.2.1 A.1 (nI c), upd A.2.2.2.2.1 A.1 (nI (t_P c v (2 * l + 1))), upd A.2.2.2.2.2 A.1 tn) μ') ?_ ?_ (36, μ) ⟨(cst_self μ 128).symm, Or.inl ⟨rfl, fun j h => by omega⟩⟩
  · rintro n i ⟨x, s⟩ hi ⟨p1, p2⟩
    right
    change s = _ at p1
    have r41 : s.1 122 41 = nI L := by rw [p1, cst_c _ _ _ (by omega)]; exact h41
    have r42 : s.1 122 42 = tn := by rw [p1, cst_c _ _ _ (by omega)]; exact h42
    have r145 : s.1 145 = μ.1 145 := by rw [p1, cst_c _ _ _ (by omega)]
    have r128 : s.1 128 = t_ld (t_P c v) tn (μ.1 128) i := by rw [p1, cst_s]
    have h145i := h145 i hi
    have hPi := hP i hi
    have eold : t_ld (t_P c v) tn (μ.1 128) i (t_P c v i) = A.2.1 (t_P c v i) := by
      rw [hld i (by omega) _ hPi]
      exact t_ld_off i (fun k hk e => by have := inj k i (by omega) hi e; omega)
    have est : st s 128 (t_P c v i) (A.2.1 (t_P c v i) + if i % 2 = 0 then tn else -tn) = cst μ 128 (t_ld (t_P c v) tn (μ.1 128) (i + 1)) := by
      rw [p1, st_cst, t_ld_succ, eold]
    have enew : (cst μ 128 (t_ld (t_P c v) tn (μ.1 128) (i + 1))).1 128 (t_P c v i) = A.2.1 (t_P c v i) + if i % 2 = 0 then tn else -tn := by
      rw [cst_s, t_ld_succ, eold]
      unfold upd
      rw [if_pos rfl]
    have n145 : (cst μ 128 (t_ld (t_P c v) tn (μ.1 128) (i + 1))).1 145 = μ.1 145 := cst_c _ _ _ (by omega)
    by_cases i2 : i % 2 = 0
    · rw [if_pos i2] at est
      refine ⟨(x, cst μ 128 (t_ld (t_P c v) tn (μ.1 128) (i + 1))), ⟨rfl, ?_⟩, ?_⟩
      · rcases p2 with ⟨a, b⟩ | ⟨l, a, b1, b2, b3⟩
        · exact Or.inl ⟨a, fun j hj => b j (by omega)⟩
        · exact Or.inr ⟨l, a, by omega, b2, fun j hj => b3 j (by omega)⟩
      · show g_X9_moves_23 m _ (nI c) x (nI i) s = _
        unfold g_X9_moves_23 f_X9_moves_64
        simp (disch := omega) only [lt_k, bnv_s, bnd_s, grd_t, q_in, q_inb, q_c, q_leT, q_leF, q_ltT, q_ltF, q_neg, q_nn, q_z, q_le0, q_b0, q_b1, nI_add, nI_0, q_off, q_self, q_oth, cst_2, st_2, ↓reduceIte, f_X8_cellAt, f_X8_roadAt, q_le1, q_nle1, q_le2, q_nle2, q_le5, q_nle5, q_le6, q_nle6, q_le8, q_nle8, q_le12, q_nle12, q_le25, q_nle25, q_le36, q_nle36, q_le60, q_nle60, q_le99, q_nle99, q_le100, q_nle100, q_le300, q_nle300, q_le640, q_nle640, q_le411, q_nle411, q_mul2, q_lmul2, q_mul3, q_lmul3, q_mul5, q_lmul5, q_mul6, q_lmul6, q_mul10, q_lmul10, q_add1, q_ladd1, q_add2, q_ladd2, q_add3, q_ladd3, q_add5, q_ladd5, q_add6, q_ladd6, q_add100, q_ladd100, q_div2, q_rem2, q_div3, q_rem3, q_div6, q_rem6, q_div10, q_rem10, r41, r42, r145, h145i, r128, eold, i2, est, q_01]
    · rw [if_neg i2] at est enew
      have i1 : i % 2 = 1 := by omega
      have ei : 2 * (i / 2) + 1 = i := by omega
      by_cases q : A.2.1 (t_P c v i) = tn
      · have ez : (cst μ 128 (t_ld (t_P c v) tn (μ.1 128) (i + 1))).1 128 (t_P c v i) = 0 := by rw [enew]; exact q_subz.mpr q
        rcases p2 with ⟨a, b⟩ | ⟨l, a, b1, b2, b3⟩
        · change x = nI 36 at a
          refine ⟨(nI (t_P c v i), cst μ 128 (t_ld (t_P c v) tn (μ.1 128) (i + 1))), ⟨rfl, Or.inr ⟨i / 2, by rw [ei], by omega, by rw [ei]; exact q, fun j hj e => ?_⟩⟩, ?_⟩
          · by_cases r : j = i / 2
            · rw [r]; exact Nat.le_refl _
            · exact absurd e (b j (by omega))
          · show g_X9_moves_23 m _ (nI c) x (nI i) s = _
            unfold g_X9_moves_23 f_X9_moves_64
            simp (disch := omega) only [lt_k, bnv_s, bnd_s, grd_t, q_in, q_inb, q_c, q_leT, q_leF, q_ltT, q_ltF, q_neg, q_nn, q_z, q_le0, q_b0, q_b1, nI_add, nI_0, q_off, q_self, q_oth, cst_2, st_2, ↓reduceIte, f_X8_cellAt, f_X8_roadAt, q_le1, q_nle1, q_le2, q_nle2, q_le5, q_nle5, q_le6, q_nle6, q_le8, q_nle8, q_le12, q_nle12, q_le25, q_nle25, q_le36, q_nle36, q_le60, q_nle60, q_le99, q_nle99, q_le100, q_nle100, q_le300, q_nle300, q_le640, q_nle640, q_le411, q_nle411, q_mul2, q_lmul2, q_mul3, q_lmul3, q_mul5, q_lmul5, q_mul6, q_lmul6, q_mul10, q_lmul10, q_add1, q_ladd1, q_add2, q_ladd2, q_add3, q_ladd3, q_add5, q_ladd5, q_add6, q_ladd6, q_add100, q_ladd100, q_div2, q_rem2, q_div3, q_rem3, q_div6, q_rem6, q_div10, q_rem10, r41, r42, r145, h145i, r128, eold, i1, est, q_10, n145, ez, a, q_mn, show nI 1 = 1 from rfl, show t_P c v i < 36 from hPi]
        · change x = nI _ at a
          have hPl := hP (2 * l + 1) (by omega)
          by_cases r : t_P c v i < t_P c v (2 * l + 1)
          · refine ⟨(nI (t_P c v i), cst μ 128 (t_ld (t_P c v) tn (μ.1 128) (i + 1))), ⟨rfl, Or.inr ⟨i / 2, by rw [ei], by omega, by rw [ei]; exact q, fun j hj e => ?_⟩⟩, ?_⟩
            · by_cases r2 : j = i / 2
              · rw [r2]; exact Nat.le_refl _
              · rw [ei]; have := b3 j (by omega) e; omega
            · show g_X9_moves_23 m _ (nI c) x (nI i) s = _
              unfold g_X9_moves_23 f_X9_moves_64
              simp (disch := omega) only [lt_k, bnv_s, bnd_s, grd_t, q_in, q_inb, q_c, q_leT, q_leF, q_ltT, q_ltF, q_neg, q_nn, q_z, q_le0, q_b0, q_b1, nI_add, nI_0, q_off, q_self, q_oth, cst_2, st_2, ↓reduceIte, f_X8_cellAt, f_X8_roadAt, q_le1, q_nle1, q_le2, q_nle2, q_le5, q_nle5, q_le6, q_nle6, q_le8, q_nle8, q_le12, q_nle12, q_le25, q_nle25, q_le36, q_nle36, q_le60, q_nle60, q_le99, q_nle99, q_le100, q_nle100, q_le300, q_nle300, q_le640, q_nle640, q_le411, q_nle411, q_mul2, q_lmul2, q_mul3, q_lmul3, q_mul5, q_lmul5, q_mul6, q_lmul6, q_mul10, q_lmul10, q_add1, q_ladd1, q_add2, q_ladd2, q_add3, q_ladd3, q_add5, q_ladd5, q_add6, q_ladd6, q_add100, q_ladd100, q_div2, q_rem2, q_div3, q_rem3, q_div6, q_rem6, q_div10, q_rem10, r41, r42, r145, h145i, r128, eold, i1, est, q_10, n145, ez, a, q_mn, show nI 1 = 1 from rfl, r]
          · refine ⟨(nI (t_P c v (2 * l + 1)), cst μ 128 (t_ld (t_P c v) tn (μ.1 128) (i + 1))), ⟨rfl, Or.inr ⟨l, rfl, by omega, b2, fun j hj e => ?_⟩⟩, ?_⟩
            · by_cases r2 : j = i / 2
              · rw [r2, ei]; omega
              · exact b3 j (by omega) e
            · show g_X9_moves_23 m _ (nI c) x (nI i) s = _
              unfold g_X9_moves_23 f_X9_moves_64
              simp (disch := omega) only [lt_k, bnv_s, bnd_s, grd_t, q_in, q_inb, q_c, q_leT, q_leF, q_ltT, q_ltF, q_neg, q_nn, q_z, q_le0, q_b0, q_b1, nI_add, nI_0, q_off, q_self, q_oth, cst_2, st_2, ↓reduceIte, f_X8_cellAt, f_X8_roadAt, q_le1, q_nle1, q_le2, q_nle2, q_le5, q_nle5, q_le6, q_nle6, q_le8, q_nle8, q_le12, q_nle12, q_le25, q_nle25, q_le36, q_nle36, q_le60, q_nle60, q_le99, q_nle99, q_le100, q_nle100, q_le300, q_nle300, q_le640, q_nle640, q_le411, q_nle411, q_mul2, q_lmul2, q_mul3, q_lmul3, q_mul5, q_lmul5, q_mul6, q_lmul6, q_mul10, q_lmul10, q_add1, q_ladd1, q_add2, q_ladd2, q_add3, q_ladd3, q_add5, q_ladd5, q_add6, q_ladd6, q_add100, q_ladd100, q_div2, q_rem2, q_div3, q_rem3, q_div6, q_rem6, q_div10, q_rem10, r41, r42, r145, h145i, r128, eold, i1, est, q_10, n145, ez, a, q_mn, show nI 1 = 1 from rfl, r]
      · have ez : ¬ (cst μ 128 (t_ld (t_P c v) tn (μ.1 128) (i + 1))).1 128 (t_P c v i) = 0 := by rw [enew]; exact fun e => q (q_subz.mp e)
        refine ⟨(x, cst μ 128 (t_ld (t_P c v) tn (μ.1 128) (i + 1))), ⟨rfl, ?_⟩, ?_⟩
        · rcases p2 with ⟨a, b⟩ | ⟨l, a, b1, b2, b3⟩
          · refine Or.inl ⟨a, fun j hj => ?_⟩
            by_cases r2 : j = i / 2
            · rw [r2, ei]; exact q
            · exact b j (by omega)
          · refine Or.inr ⟨l, a, by omega, b2, fun j hj e => ?_⟩
            by_cases r2 : j = i / 2
            · rw [r2, ei] at e; exact absurd e q
            · exact b3 j (by omega) e
        · show g_X9_moves_23 m _ (nI c) x (nI i) s = _
          unfold g_X9_moves_23 f_X9_moves_64
          simp (disch := omega) only [lt_k, bnv_s, bnd_s, grd_t, q_in, q_inb, q_c, q_leT, q_leF, q_ltT, q_ltF, q_neg, q_nn, q_z, q_le0, q_b0, q_b1, nI_add, nI_0, q_off, q_self, q_oth, cst_2, st_2, ↓reduceIte, f_X8_cellAt, f_X8_roadAt, q_le1, q_nle1, q_le2, q_nle2, q_le5, q_nle5, q_le6, q_nle6, q_le8, q_nle8, q_le12, q_nle12, q_le25, q_nle25, q_le36, q_nle36, q_le60, q_nle60, q_le99, q_nle99, q_le100, q_nle100, q_le300, q_nle300, q_le640, q_nle640, q_le411, q_nle411, q_mul2, q_lmul2, q_mul3, q_lmul3, q_mul5, q_lmul5, q_mul6, q_lmul6, q_mul10, q_lmul10, q_add1, q_ladd1, q_add2, q_ladd2, q_add3, q_ladd3, q_add5, q_ladd5, q_add6, q_ladd6, q_add100, q_ladd100, q_div2, q_rem2, q_div3, q_rem3, q_div6, q_rem6, q_div10, q_rem10, r41, r42, r145, h145i, r128, eold, i1, est, q_10, n145, ez, show nI 1 = 1 from rfl]
  · rintro n ⟨x, s⟩ ⟨p1, p2⟩
    change s = _ at p1
    rcases p2 with ⟨a, b⟩ | ⟨l, a, b1, b2, b3⟩
    · exact absurd em0 (b m0 (by omega))
    · change x = nI _ at a
      have hPl := hP (2 * l + 1) (by omega)
      have so : ∀ c', c' ≠ 128 → s.1 c' = μ.1 c' := fun c' h => by rw [p1]; exact cst_c _ _ _ h
      have r128 : s.1 128 = t_ld (t_P c v) tn (μ.1 128) L := by rw [p1, cst_s]
      have r122 := so 122 (by omega)
      have fs : fr NA μ s := by
        rw [p1]
        refine fr_cstp (fun j hj => t_ld_off L (fun k hk e => ?_))
        have := hP k hk
        unfold NA at hj
        omega
      refine ⟨st (st (st (st (st (st s 129 c 1) 129 (t_P c v (2 * l + 1)) 0) 130 (3 * A.1) (t_spl (nI c))) 130 (3 * A.1 + 1) (t_spl (nI (t_P c v (2 * l + 1))))) 130 (3 * A.1 + 2) tn) 122 9 (nI (A.1 + 1)), l, ?_, ⟨by omega, b2, fun j hj e => b3 j (by omega) e⟩, ?_, ?_, ?_, ?_, ?_, ?_, ?_, ?_⟩
      · show g_X9_moves_23 m _ (nI c) x (nI L) s = _
        unfold g_X9_moves_23 f_X9_spelled
        simp (disch := omega) only [lt_k, bnv_s, bnd_s, grd_t, q_in, q_inb, q_c, q_leT, q_leF, q_ltT, q_ltF, q_neg, q_nn, q_z, q_le0, q_b0, q_b1, nI_add, nI_0, q_off, q_self, q_oth, cst_2, st_2, ↓reduceIte, f_X8_cellAt, f_X8_roadAt, q_le1, q_nle1, q_le2, q_nle2, q_le5, q_nle5, q_le6, q_nle6, q_le8, q_nle8, q_le12, q_nle12, q_le25, q_nle25, q_le36, q_nle36, q_le60, q_nle60, q_le99, q_nle99, q_le100, q_nle100, q_le300, q_nle300, q_le640, q_nle640, q_le411, q_nle411, q_mul2, q_lmul2, q_mul3, q_lmul3, q_mul5, q_lmul5, q_mul6, q_lmul6, q_mul10, q_lmul10, q_add1, q_ladd1, q_add2, q_ladd2, q_add3, q_ladd3, q_add5, q_ladd5, q_add6, q_ladd6, q_add100, q_ladd100, q_div2, q_rem2, q_div3, q_rem3, q_div6, q_rem6, q_div10, q_rem10, r122, h41, a, h3, h42]
        rw [t_spl_n hc, t_spl_n hPl]
      · exact fr_st' (fr_st' (fr_st' (fr_st' (fr_st' (fr_st' fs (by unfold NA; omega)) (by unfold NA; omega)) (by unfold NA; omega)) (by unfold NA; omega)) (by unfold NA; omega)) (by unfold NA; omega)
      · simp (disch := omega) only [lt_k, bnv_s, bnd_s, grd_t, q_in, q_inb, q_c, q_leT, q_leF, q_ltT, q_ltF, q_neg, q_nn, q_z, q_le0, q_b0, q_b1, nI_add, nI_0, q_off, q_self, q_oth, cst_2, st_2, ↓reduceIte, f_X8_cellAt, f_X8_roadAt, q_le1, q_nle1, q_le2, q_nle2, q_le5, q_nle5, q_le6, q_nle6, q_le8, q_nle8, q_le12, q_nle12, q_le25, q_nle25, q_le36, q_nle36, q_le60, q_nle60, q_le99, q_nle99, q_le100, q_nle100, q_le300, q_nle300, q_le640, q_nle640, q_le411, q_nle411, q_mul2, q_lmul2, q_mul3, q_lmul3, q_mul5, q_lmul5, q_mul6, q_lmul6, q_mul10, q_lmul10, q_add1, q_ladd1, q_add2, q_ladd2, q_add3, q_ladd3, q_add5, q_ladd5, q_add6, q_ladd6, q_add100, q_ladd100, q_div2, q_rem2, q_div3, q_rem3, q_div6, q_rem6, q_div10, q_rem10, r122]; exact h1
      · simp (disch := omega) only [lt_k, bnv_s, bnd_s, grd_t, q_in, q_inb, q_c, q_leT, q_leF, q_ltT, q_ltF, q_neg, q_nn, q_z, q_le0, q_b0, q_b1, nI_add, nI_0, q_off, q_self, q_oth, cst_2, st_2, ↓reduceIte, f_X8_cellAt, f_X8_roadAt, q_le1, q_nle1, q_le2, q_nle2, q_le5, q_nle5, q_le6, q_nle6, q_le8, q_nle8, q_le12, q_nle12, q_le25, q_nle25, q_le36, q_nle36, q_le60, q_nle60, q_le99, q_nle99, q_le100, q_nle100, q_le300, q_nle300, q_le640, q_nle640, q_le411, q_nle411, q_mul2, q_lmul2, q_mul3, q_lmul3, q_mul5, q_lmul5, q_mul6, q_lmul6, q_mul10, q_lmul10, q_add1, q_ladd1, q_add2, q_ladd2, q_add3, q_ladd3, q_add5, q_ladd5, q_add6, q_ladd6, q_add100, q_ladd100, q_div2, q_rem2, q_div3, q_rem3, q_div6, q_rem6, q_div10, q_rem10, r122]; exact h2
      · simp (disch := omega) only [lt_k, bnv_s, bnd_s, grd_t, q_in, q_inb, q_c, q_leT, q_leF, q_ltT, q_ltF, q_neg, q_nn, q_z, q_le0, q_b0, q_b1, nI_add, nI_0, q_off, q_self, q_oth, cst_2, st_2, ↓reduceIte, f_X8_cellAt, f_X8_roadAt, q_le1, q_nle1, q_le2, q_nle2, q_le5, q_nle5, q_le6, q_nle6, q_le8, q_nle8, q_le12, q_nle12, q_le25, q_nle25, q_le36, q_nle36, q_le60, q_nle60, q_le99, q_nle99, q_le100, q_nle100, q_le300, q_nle300, q_le640, q_nle640, q_le411, q_nle411, q_mul2, q_lmul2, q_mul3, q_lmul3, q_mul5, q_lmul5, q_mul6, q_lmul6, q_mul10, q_lmul10, q_add1, q_ladd1, q_add2, q_ladd2, q_add3, q_ladd3, q_add5, q_ladd5, q_add6, q_ladd6, q_add100, q_ladd100, q_div2, q_rem2, q_div3, q_rem3, q_div6, q_rem6, q_div10, q_rem10, lt_k]
      · intro d hd
        simp (disch := omega) only [lt_k, bnv_s, bnd_s, grd_t, q_in, q_inb, q_c, q_leT, q_leF, q_ltT, q_ltF, q_neg, q_nn, q_z, q_le0, q_b0, q_b1, nI_add, nI_0, q_off, q_self, q_oth, cst_2, st_2, ↓reduceIte, f_X8_cellAt, f_X8_roadAt, q_le1, q_nle1, q_le2, q_nle2, q_le5, q_nle5, q_le6, q_nle6, q_le8, q_nle8, q_le12, q_nle12, q_le25, q_nle25, q_le36, q_nle36, q_le60, q_nle60, q_le99, q_nle99, q_le100, q_nle100, q_le300, q_nle300, q_le640, q_nle640, q_le411, q_nle411, q_mul2, q_lmul2, q_mul3, q_lmul3, q_mul5, q_lmul5, q_mul6, q_lmul6, q_mul10, q_lmul10, q_add1, q_ladd1, q_add2, q_ladd2, q_add3, q_ladd3, q_add5, q_ladd5, q_add6, q_ladd6, q_add100, q_ladd100, q_div2, q_rem2, q_div3, q_rem3, q_div6, q_rem6, q_div10, q_rem10, r128]
        exact hld L (Nat.le_refl L) d hd
      · intro d hd
        simp (disch := omega) only [lt_k, bnv_s, bnd_s, grd_t, q_in, q_inb, q_c, q_leT, q_leF, q_ltT, q_ltF, q_neg, q_nn, q_z, q_le0, q_b0, q_b1, nI_add, nI_0, q_off, q_self, q_oth, cst_2, st_2, ↓reduceIte, f_X8_cellAt, f_X8_roadAt, q_le1, q_nle1, q_le2, q_nle2, q_le5, q_nle5, q_le6, q_nle6, q_le8, q_nle8, q_le12, q_nle12, q_le25, q_nle25, q_le36, q_nle36, q_le60, q_nle60, q_le99, q_nle99, q_le100, q_nle100, q_le300, q_nle300, q_le640, q_nle640, q_le411, q_nle411, q_mul2, q_lmul2, q_mul3, q_lmul3, q_mul5, q_lmul5, q_mul6, q_lmul6, q_mul10, q_lmul10, q_add1, q_ladd1, q_add2, q_ladd2, q_add3, q_ladd3, q_add5, q_ladd5, q_add6, q_ladd6, q_add100, q_ladd100, q_div2, q_rem2, q_div3, q_rem3, q_div6, q_rem6, q_div10, q_rem10, q_at]
        show _ = b01 (t_swap A.2.2.1 c (t_P c v (2 * l + 1)) d)
        unfold t_swap
        by_cases q : d = t_P c v (2 * l + 1)
        · rw [if_pos q]
          by_cases q2 : d = c
          · exfalso
            have := (t_P_B ht hw (k := 2 * l + 1) (by omega) (by omega)).2
            rw [← q, q2, hb] at this
            cases this
          · rw [if_neg q2, if_pos q]; rfl
        · rw [if_neg q]
          by_cases q2 : d = c
          · rw [if_pos q2, if_pos q2]; rfl
          · rw [if_neg q2, if_neg q2, if_neg q, so _ (by omega)]; exact h5 d hd
      · intro d hd hp
        rw [q_off _ _ _ (by omega), q_off _ _ _ (by omega), q_off _ _ _ (by omega), q_off _ _ _ (by omega), q_off _ _ _ (by omega), q_off _ _ _ (by omega), so _ (by omega)]
        exact h6 d hd hp
      · intro j hj
        change j < A.1 + 1 at hj
        show _ = t_spl (upd A.2.2.2.1 A.1 (nI c) j) ∧ _ = t_spl (upd A.2.2.2.2.1 A.1 (nI (t_P c v (2 * l + 1))) j) ∧ _ = upd A.2.2.2.2.2 A.1 tn j
        unfold upd
        by_cases q : j = A.1
        · subst q
          simp only [↓reduceIte]
          refine ⟨?_, ?_, ?_⟩
          · rw [q_off _ _ _ (by omega), q_oth _ _ _ (by omega), q_oth _ _ _ (by omega), q_self]
          · rw [q_off _ _ _ (by omega), q_oth _ _ _ (by omega), q_self]
          · rw [q_off _ _ _ (by omega), q_self]
        · rw [if_neg q, if_neg q, if_neg q]
          have one : ∀ y, y ≠ 3 * A.1 → y ≠ 3 * A.1 + 1 → y ≠ 3 * A.1 + 2 → (st (st (st (st (st (st s 129 c 1) 129 (t_P c v (2 * l + 1)) 0) 130 (3 * A.1) (t_spl (nI c))) 130 (3 * A.1 + 1) (t_spl (nI (t_P c v (2 * l + 1))))) 130 (3 * A.1 + 2) tn) 122 9 (nI (A.1 + 1))).1 130 y = μ.1 130 y := by
            intro y y1 y2 y3
            rw [q_off _ _ _ (by omega), q_oth _ _ _ y3, q_oth _ _ _ y2, q_oth _ _ _ y1, q_off _ _ _ (by omega), q_off _ _ _ (by omega), so _ (by omega)]
          rw [one _ (by omega) (by omega) (by omega), one _ (by omega) (by omega) (by omega), one _ (by omega) (by omega) (by omega)]
          exact h7 j (by omega)
theorem x9_goes {S T : Nat} {cost : Nat → Int32} {A : TA} {μ : Mem} (m : Int32) (n : Nat) (hn : n ≤ 100) (hk : t_ok S T cost A) (hx : MR S T cost A μ) :
    ∃ d A' μ', f_X9_goes m (nI n) μ = some (nI d, μ') ∧ d ≤ n ∧ t_run S T cost m n A d A' ∧ MR S T cost A' μ' ∧ fr NA μ μ' := by
  refine q_loop0 (fun f i (s : Mem) => f_X9_goes_2 m (nI n) f (nI i) s) n (by omega)
    (fun i s => ∃ Ai, t_ok S T cost Ai ∧ MR S T cost Ai s ∧ fr NA μ s ∧ ∀ d A', t_run S T cost m (n - i) Ai d A' → t_run S T cost m n A (i + d) A')
    (fun z => ∃ d A' μ', z = some (nI d, μ') ∧ d ≤ n ∧ t_run S T cost m n A d A' ∧ MR S T cost A' μ' ∧ fr NA μ μ') ?_ ?_ μ ⟨A, hk, hx, fr_refl _ _, fun d A' h => by rw [Nat.zero_add]; exact h⟩
  · rintro f i s hi ⟨Ai, p1, p2, p3, p4⟩
    have runS : n - i = (n - i - 1) + 1 := by omega
    have h3 := p2.2.2.1
    by_cases h100 : Ai.1 < 100
    · obtain ⟨c1, c2, c3, c4⟩ := MR_cost p1 p2
      have ht := p1.1
      obtain ⟨r, s1, e1, f1, w1, en⟩ := x9_enter (μ := s) m p2.1 p2.2.1 (by rw [c2]; exact ht) c1 c3 c4
      rw [c2] at en w1
      have w1' := t_W_congr ht (fun c hc hp => p2.2.2.2.2.2.1 c hc hp) w1
      have en' : t_ent S T (t_sp cost (s1.1 142)) (t_wt S T Ai.2.2.1 cost (s1.1 142) Ai.2.1 m) r := by
        refine t_ent_congr (fun c hc hp => ?_) (fun c hc hp hs => ?_) en
        · unfold t_sp; rw [p2.2.2.2.2.2.1 c hc hp]
        · exact t_wt_congr ht p2.2.2.2.1 hc (p2.2.2.2.2.2.1 c hc hp) hp (t_neg_free w1 hc hs)
      have stay := MR_fr p2 f1
      have ff : fr NA s s1 := fr_mono f1 (fun c j h => by unfold EA LA at h; unfold NA; omega)
      have e100 : ((100 : Int32) ≤ s.1 122 9) = False := by rw [h3]; exact q_nle100 h100
      rcases en' with ⟨r1, r2⟩ | ⟨c, r1, r2⟩
      · left
        refine ⟨i, Ai, s1, ?_, by omega, ?_, stay, fr_then p3 ff⟩
        · show g_X9_goes_2 m (nI n) _ (nI i) s = _
          unfold g_X9_goes_2 f_X9_moves
          simp (disch := omega) only [lt_k, bnv_s, bnd_s, grd_t, q_in, q_inb, q_c, q_leT, q_leF, q_ltT, q_ltF, q_neg, q_nn, q_z, q_le0, q_b0, q_b1, nI_add, nI_0, q_off, q_self, q_oth, cst_2, st_2, ↓reduceIte, f_X8_cellAt, f_X8_roadAt, q_le1, q_nle1, q_le2, q_nle2, q_le5, q_nle5, q_le6, q_nle6, q_le8, q_nle8, q_le12, q_nle12, q_le25, q_nle25, q_le36, q_nle36, q_le60, q_nle60, q_le99, q_nle99, q_le100, q_nle100, q_le300, q_nle300, q_le640, q_nle640, q_le411, q_nle411, q_mul2, q_lmul2, q_mul3, q_lmul3, q_mul5, q_lmul5, q_mul6, q_lmul6, q_mul10, q_lmul10, q_add1, q_ladd1, q_add2, q_ladd2, q_add3, q_ladd3, q_add5, q_ladd5, q_add6, q_ladd6, q_add100, q_ladd100, q_div2, q_rem2, q_div3, q_rem3, q_div6, q_rem6, q_div10, q_rem10, e100, e1, r1, show ¬ ((0 : Int32) ≤ -1) by decide]
        · have := p4 0 Ai (by rw [runS]; exact Or.inl ⟨rfl, rfl, Or.inl ⟨_, w1', r2⟩⟩)
          rw [Nat.add_zero] at this; exact this
      · right
        have hc := r2.1
        have hpl := r2.2.1
        have hb := t_neg_free w1' hc r2.2.2.1
        obtain ⟨d1, d2, d3, d4⟩ := MR_cost p1 stay
        obtain ⟨s2, L, v, e2, f2, w2, g41, g145, g42⟩ := x9_loops (S := S) (T := T) (cell := c) (μ := s1) (by rw [d2]; exact ht) d3 hc hpl.1 hpl.2 (by rw [d2]; exact hb)
        rw [d2] at w2
        have g42' : s2.1 122 42 = t_tn Ai.2.1 (t_P c v) L := by rw [g42]; exact t_tn_congr w2.2.2.1 (fun j hj => t_P_lt ht w2 hc hj) (fun _ _ => rfl) stay.2.2.2.1
        have stay2 := MR_fr stay (fr_mono f2 (fun c j h => by unfold EA; exact Or.inr (Or.inr h)))
        obtain ⟨s3, l, e3, t1, f3, x3⟩ := x9_turn m p1 h100 stay2 hc hb w2 g41 g145 g42'
        have stp : t_stp S T cost m Ai (Ai.1 + 1, t_ld (t_P c v) (t_tn Ai.2.1 (t_P c v) L) Ai.2.1 L, t_swap Ai.2.2.1 c (t_P c v (2 * l + 1)), upd Ai.2.2.2.1 Ai.1 (nI c), upd Ai.2.2.2.2.1 Ai.1 (nI (t_P c v (2 * l + 1))), upd Ai.2.2.2.2.2 Ai.1 (t_tn Ai.2.1 (t_P c v) L)) := ⟨s1.1 142, c, L, v, l, w1', r2, w2, t1, rfl⟩
        refine ⟨s3, ⟨_, t_stp_ok p1 h100 stp, x3, fr_then p3 (fr_then ff (fr_then (fr_mono f2 (fun c j h => by unfold LA at h; unfold NA; omega)) f3)), fun d A' hr => ?_⟩, ?_⟩
        · have := p4 (d + 1) A' (by rw [runS]; exact Or.inr ⟨_, d, h100, stp, by rw [show n - i - 1 = n - (i + 1) by omega]; exact hr, rfl⟩)
          rw [show i + 1 + d = i + (d + 1) by omega]; exact this
        · show g_X9_goes_2 m (nI n) _ (nI i) s = _
          unfold g_X9_goes_2 f_X9_moves
          simp (disch := omega) only [lt_k, bnv_s, bnd_s, grd_t, q_in, q_inb, q_c, q_leT, q_leF, q_ltT, q_ltF, q_neg, q_nn, q_z, q_le0, q_b0, q_b1, nI_add, nI_0, q_off, q_self, q_oth, cst_2, st_2, ↓reduceIte, f_X8_cellAt, f_X8_roadAt, q_le1, q_nle1, q_le2, q_nle2, q_le5, q_nle5, q_le6, q_nle6, q_le8, q_nle8, q_le12, q_nle12, q_le25, q_nle25, q_le36, q_nle36, q_le60, q_nle60, q_le99, q_nle99, q_le100, q_nle100, q_le300, q_nle300, q_le640, q_nle640, q_le411, q_nle411, q_mul2, q_lmul2, q_mul3, q_lmul3, q_mul5, q_lmul5, q_mul6, q_lmul6, q_mul10, q_lmul10, q_add1, q_ladd1, q_add2, q_ladd2, q_add3, q_ladd3, q_add5, q_ladd5, q_add6, q_ladd6, q_add100, q_ladd100, q_div2, q_rem2, q_div3, q_rem3, q_div6, q_rem6, q_div10, q_rem10, e100, e1, r1, e2, e3, q_10]
    · left
      have h100' := p1.2.2.2.2.2.2
      have e100 : ((100 : Int32) ≤ s.1 122 9) = True := by rw [h3]; exact q_le100 (by omega) (by omega)
      refine ⟨i, Ai, s, ?_, by omega, ?_, p2, p3⟩
      · show g_X9_goes_2 m (nI n) _ (nI i) s = _
        unfold g_X9_goes_2
        simp (disch := omega) only [lt_k, bnv_s, bnd_s, grd_t, q_in, q_inb, q_c, q_leT, q_leF, q_ltT, q_ltF, q_neg, q_nn, q_z, q_le0, q_b0, q_b1, nI_add, nI_0, q_off, q_self, q_oth, cst_2, st_2, ↓reduceIte, f_X8_cellAt, f_X8_roadAt, q_le1, q_nle1, q_le2, q_nle2, q_le5, q_nle5, q_le6, q_nle6, q_le8, q_nle8, q_le12, q_nle12, q_le25, q_nle25, q_le36, q_nle36, q_le60, q_nle60, q_le99, q_nle99, q_le100, q_nle100, q_le300, q_nle300, q_le640, q_nle640, q_le411, q_nle411, q_mul2, q_lmul2, q_mul3, q_lmul3, q_mul5, q_lmul5, q_mul6, q_lmul6, q_mul10, q_lmul10, q_add1, q_ladd1, q_add2, q_ladd2, q_add3, q_ladd3, q_add5, q_ladd5, q_add6, q_ladd6, q_add100, q_ladd100, q_div2, q_rem2, q_div3, q_rem3, q_div6, q_rem6, q_div10, q_rem10, e100]
      · have := p4 0 Ai (by rw [runS]; exact Or.inl ⟨rfl, rfl, Or.inr (by omega)⟩)
        rw [Nat.add_zero] at this; exact this
  · rintro f s ⟨Ai, p1, p2, p3, p4⟩
    refine ⟨n, Ai, s, ?_, Nat.le_refl n, ?_, p2, p3⟩
    · show g_X9_goes_2 m (nI n) _ (nI n) s = _
      unfold g_X9_goes_2
      simp (disch := omega) only [lt_k, bnv_s, bnd_s, grd_t, q_in, q_inb, q_c, q_leT, q_leF, q_ltT, q_ltF, q_neg, q_nn, q_z, q_le0, q_b0, q_b1, nI_add, nI_0, q_off, q_self, q_oth, cst_2, st_2, ↓reduceIte, f_X8_cellAt, f_X8_roadAt, q_le1, q_nle1, q_le2, q_nle2, q_le5, q_nle5, q_le6, q_nle6, q_le8, q_nle8, q_le12, q_nle12, q_le25, q_nle25, q_le36, q_nle36, q_le60, q_nle60, q_le99, q_nle99, q_le100, q_nle100, q_le300, q_nle300, q_le640, q_nle640, q_le411, q_nle411, q_mul2, q_lmul2, q_mul3, q_lmul3, q_mul5, q_lmul5, q_mul6, q_lmul6, q_mul10, q_lmul10, q_add1, q_ladd1, q_add2, q_ladd2, q_add3, q_ladd3, q_add5, q_ladd5, q_add6, q_ladd6, q_add100, q_ladd100, q_div2, q_rem2, q_div3, q_rem3, q_div6, q_rem6, q_div10, q_rem10, lt_k]
    · have := p4 0 Ai (by rw [Nat.sub_self]; exact ⟨rfl, rfl⟩)
      rw [Nat.add_zero] at this; exact this
