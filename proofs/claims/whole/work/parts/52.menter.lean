/-! THE PURE PART: which cell enters, the model's search -/
def EA : Nat → Nat → Prop := fun c j => c = 142 ∨ c = 143 ∨ LA c j
def t_ldok (ld : Nat → Int32) : Prop := ∀ c, c < 36 → 0 ≤ (ld c).toInt ∧ (ld c).toInt ≤ 600
theorem t_sp_ex {S T : Nat} {B : Nat → Bool} {cost w : Nat → Int32} (ht : t_tree S T B) (hW : t_W S T B cost w) (hc : t_cok cost S T) {c : Nat} (h : c < 36) (hp : t_pl S T c) :
    (t_sp cost w c).toInt = (cost c).toInt - (w (c / 6)).toInt - (w (6 + c % 6)).toInt ∧ -27500 ≤ (t_sp cost w c).toInt ∧ (t_sp cost w c).toInt ≤ 27500 := by
  have a := hc c h hp.1 hp.2
  have b := hW.2.2 (c / 6) (Or.inl hp.1)
  have d := hW.2.2 (6 + c % 6) (Or.inr ⟨by omega, by have := hp.2; omega⟩)
  unfold t_wb at b d
  have e1 : (cost c - w (c / 6)).toInt = (cost c).toInt - (w (c / 6)).toInt := by
    rw [Int32.toInt_sub]; apply Int.bmod_eq_of_le <;> omega
  have e2 : (t_sp cost w c).toInt = (cost c).toInt - (w (c / 6)).toInt - (w (6 + c % 6)).toInt := by
    unfold t_sp
    rw [Int32.toInt_sub, e1]; apply Int.bmod_eq_of_le <;> omega
  rw [e2]
  exact ⟨rfl, by omega, by omega⟩
theorem t_tn_ok {ld : Nat → Int32} (hl : t_ldok ld) {P : Nat → Nat} {L : Nat} (hL : 2 ≤ L) (hP : ∀ k, k < L → P k < 36) : 0 ≤ (t_tn ld P L).toInt ∧ (t_tn ld P L).toInt ≤ 600 := by
  obtain ⟨m, hm, e⟩ := t_tnf_ex (fun m => ld (P (2 * m + 1))) (M := L / 2) (by omega)
  unfold t_tn
  rw [← e]
  exact hl _ (hP _ (by omega))
theorem t_tc_ok {S T : Nat} {B : Nat → Bool} {ld : Nat → Int32} (ht : t_tree S T B) (hl : t_ldok ld) {c : Nat} (hc : c < 36) (hp : t_pl S T c) (hb : B c = false) : 0 ≤ (t_tc S T B ld c).toInt ∧ (t_tc S T B ld c).toInt ≤ 600 := by
  obtain ⟨nx, rk, L, h1, h2⟩ := t_way_ex ht hp.1 hp.2
  rw [t_tc_eq ht ld hc hb h2]
  exact t_tn_ok hl h2.1 (fun k hk => t_P_lt ht h2 hc hk)
theorem t_mul_np {a b : Int32} (h1 : -27500 ≤ a.toInt) (h2 : a.toInt < 0) (h3 : 0 ≤ b.toInt) (h4 : b.toInt ≤ 600) : (a * b).toInt ≤ 0 := by
  have p1 : a.toInt * b.toInt ≤ 0 := Int.mul_nonpos_of_nonpos_of_nonneg (by omega) h3
  have p2 : 0 ≤ (a.toInt + 27500) * b.toInt := Int.mul_nonneg (by omega) h3
  rw [Int.add_mul] at p2
  rw [Int32.toInt_mul]
  rw [Int.bmod_eq_of_le] <;> omega
theorem t_succ_gt {x : Int32} (h : x.toInt ≤ 0) : ¬ (x + 1 ≤ x) ∧ mn (x + 1) x = x := by
  have e : (x + 1).toInt = x.toInt + 1 := by
    have := Int32.le_toInt x
    have h1 : (1 : Int32).toInt = 1 := rfl
    rw [Int32.toInt_add, h1]; apply Int.bmod_eq_of_le <;> omega
  refine ⟨fun q => by rw [i_le] at q; omega, ?_⟩
  unfold mn
  rw [if_pos (by rw [i_lt]; omega)]
theorem ms_sp {μ : Mem} {c : Nat} : ms μ c = t_sp (μ.1 127) (μ.1 142) c := rfl
theorem q_cm1 {c : Nat} (h : c < 36) : (nI c = -1) = False := eq_false (fun e => by
  have := congrArg Int32.toInt e
  rw [nI_i (by omega)] at this
  have h2 : (-1 : Int32).toInt = -1 := rfl
  omega)
theorem x9_enter {S T : Nat} {μ : Mem} (m : Int32) (h1 : μ.1 122 7 = nI S) (h2 : μ.1 122 8 = nI T) (ht : t_tree S T (bb (μ.1 129))) (hc : t_cok (μ.1 127) S T) (h01 : ∀ c, c < 36 → μ.1 129 c = 0 ∨ μ.1 129 c = 1) (hl : t_ldok (μ.1 128)) :
    ∃ r μ', f_X9_enterer m μ = some (r, μ') ∧ fr EA μ μ' ∧ t_W S T (bb (μ.1 129)) (μ.1 127) (μ'.1 142) ∧ t_ent S T (t_sp (μ.1 127) (μ'.1 142)) (t_wt S T (bb (μ.1 129)) (μ.1 127) (μ'.1 142) (μ.1 128) m) r := by
  have hS := ht.2.1
  have hT := ht.2.2.2.1
  obtain ⟨μ2, e1, f1, hW⟩ := x9_values ht hc h01
  unfold f_X9_enterer
  rw [e1, bnv_s]
  generalize esp : t_sp (μ.1 127) (μ2.1 142) = sp
  generalize ewt : t_wt S T (bb (μ.1 129)) (μ.1 127) (μ2.1 142) (μ.1 128) m = wt
  refine q_loop0 (fun n i (s : Int32 × Int32 × Mem) => f_X9_enterer_11 m n s.1 s.2.1 (nI i) s.2.2) 36 (by omega)
    (fun c s => fr LA μ2 s.2.2 ∧ ((s.1 = -1 ∧ t_none S T sp c) ∨ ∃ c0, s.1 = nI c0 ∧ (m ≠ 1 → s.2.1 = wt c0) ∧ t_best S T sp wt c c0))
    (fun z => ∃ r μ', z = some (r, μ') ∧ fr EA μ μ' ∧ t_W S T (bb (μ.1 129)) (μ.1 127) (μ'.1 142) ∧ t_ent S T (t_sp (μ.1 127) (μ'.1 142)) (t_wt S T (bb (μ.1 129)) (μ.1 127) (μ'.1 142) (μ.1 128) m) r) ?_ ?_ (-1, 0, μ2) ⟨fr_refl _ _, Or.inl ⟨rfl, fun c h => by omega⟩⟩
  · rintro n i ⟨x, y, s⟩ hi ⟨p1, p2⟩
    right
    change fr LA μ2 s at p1
    have fx : fr EA μ s := fr_trans f1 p1 (fun c j h => by unfold MA at h; unfold EA; omega) (fun c j h => by unfold EA; exact Or.inr (Or.inr h))
    have g1 : s.1 122 7 = nI S := by rw [fx.2 122 7 (by unfold EA LA; omega)]; exact h1
    have g2 : s.1 122 8 = nI T := by rw [fx.2 122 8 (by unfold EA LA; omega)]; exact h2
    have gc : s.1 127 = μ.1 127 := fr_c fx (fun j h => by unfold EA LA at h; omega)
    have gl : s.1 128 = μ.1 128 := fr_c fx (fun j h => by unfold EA LA at h; omega)
    have gb : s.1 129 = μ.1 129 := fr_c fx (fun j h => by unfold EA LA at h; omega)
    have gw : s.1 142 = μ2.1 142 := fr_c p1 (fun j h => by unfold LA at h; omega)
    have eov : f_X9_over (nI i) s = some (sp i) := by rw [x9_over s hi, ms_sp, gc, gw, esp]
    have epl := x9_inPlan g1 g2 hS hT hi
    by_cases hpl : t_pl S T i
    · rw [if_pos (show i / 6 < S ∧ i % 6 < T from hpl)] at epl
      by_cases hs : sp i < 0
      · have hs0 : ¬ (0 : Int32) ≤ sp i := by rw [i_le]; rw [i_lt] at hs; omega
        have hf : bb (μ.1 129) i = false := t_neg_free hW hi (by rw [esp]; exact hs)
        obtain ⟨sx1, sx2, sx3⟩ := t_sp_ex ht hW hc hi hpl
        rw [esp] at sx2 sx3
        have hs' := i_lt.mp hs
        rw [show (0 : Int32).toInt = 0 from rfl] at hs'
        -- behind the search of its own weight
        have e73 : ∀ its s', fr LA μ2 s' → its.toInt ≤ 0 → (m ≠ 1 → its = wt i) → (x < 0 ∨ m ≠ 1) → ∃ s'' : Int32 × Int32 × Mem, (fr LA μ2 s''.2.2 ∧ ((s''.1 = -1 ∧ t_none S T sp (i + 1)) ∨ ∃ c0, s''.1 = nI c0 ∧ (m ≠ 1 → s''.2.1 = wt c0) ∧ t_best S T sp wt (i + 1) c0)) ∧
            f_X9_enterer_73 m (f_X9_enterer_11 m n) x y (nI i) its s' = f_X9_enterer_11 m n s''.1 s''.2.1 (nI (i + 1)) s''.2.2 := by
          intro its s' hs' hi0 hwt hx
          obtain ⟨u1, u2⟩ := t_succ_gt hi0
          unfold f_X9_enterer_73 f_X9_enterer_85 f_X9_enterer_98
          rcases p2 with ⟨a, b⟩ | ⟨c0, a, b, c⟩
          · change x = -1 at a
            refine ⟨(nI i, its, s'), ⟨hs', Or.inr ⟨i, rfl, hwt, t_best_new hpl hs (Or.inl b)⟩⟩, ?_⟩
            simp (disch := omega) only [lt_k, bnv_s, bnd_s, grd_t, q_in, q_inb, q_c, q_leT, q_leF, q_ltT, q_ltF, q_neg, q_nn, q_z, q_le0, q_b0, q_b1, nI_add, nI_0, q_off, q_self, q_oth, cst_2, st_2, ↓reduceIte, f_X8_cellAt, f_X8_roadAt, q_le1, q_nle1, q_le2, q_nle2, q_le5, q_nle5, q_le6, q_nle6, q_le8, q_nle8, q_le12, q_nle12, q_le25, q_nle25, q_le36, q_nle36, q_le60, q_nle60, q_le99, q_nle99, q_le100, q_nle100, q_le300, q_nle300, q_le640, q_nle640, q_le411, q_nle411, q_mul2, q_lmul2, q_mul3, q_lmul3, q_mul5, q_lmul5, q_mul6, q_lmul6, q_mul10, q_lmul10, q_add1, q_ladd1, q_add2, q_ladd2, q_add3, q_ladd3, q_add5, q_ladd5, q_add6, q_ladd6, q_add100, q_ladd100, q_div2, q_rem2, q_div3, q_rem3, q_div6, q_rem6, q_div10, q_rem10, a, show ¬ ((0 : Int32) ≤ -1) by decide, u1, u2]
          · change x = nI c0 at a
            change m ≠ 1 → y = wt c0 at b
            have hc0 : c0 < 36 := by have := c.1; omega
            have m1 : m ≠ 1 := by
              rcases hx with q | q
              · rw [a] at q; exact absurd q (nI_pos (by omega))
              · exact q
            have b := b m1
            have hwt := hwt m1
            by_cases hle : wt c0 ≤ wt i
            · refine ⟨(nI c0, wt c0, s'), ⟨hs', Or.inr ⟨c0, rfl, fun _ => rfl, t_best_skip c (fun _ _ => i_le.mp hle)⟩⟩, ?_⟩
              have : mn (wt c0) (wt i) = wt c0 := by unfold mn; rw [if_neg (by rw [i_lt]; rw [i_le] at hle; omega)]
              simp (disch := omega) only [lt_k, bnv_s, bnd_s, grd_t, q_in, q_inb, q_c, q_leT, q_leF, q_ltT, q_ltF, q_neg, q_nn, q_z, q_le0, q_b0, q_b1, nI_add, nI_0, q_off, q_self, q_oth, cst_2, st_2, ↓reduceIte, f_X8_cellAt, f_X8_roadAt, q_le1, q_nle1, q_le2, q_nle2, q_le5, q_nle5, q_le6, q_nle6, q_le8, q_nle8, q_le12, q_nle12, q_le25, q_nle25, q_le36, q_nle36, q_le60, q_nle60, q_le99, q_nle99, q_le100, q_nle100, q_le300, q_nle300, q_le640, q_nle640, q_le411, q_nle411, q_mul2, q_lmul2, q_mul3, q_lmul3, q_mul5, q_lmul5, q_mul6, q_lmul6, q_mul10, q_lmul10, q_add1, q_ladd1, q_add2, q_ladd2, q_add3, q_ladd3, q_add5, q_ladd5, q_add6, q_ladd6, q_add100, q_ladd100, q_div2, q_rem2, q_div3, q_rem3, q_div6, q_rem6, q_div10, q_rem10, a, b, hwt, hle, this]
            · refine ⟨(nI i, wt i, s'), ⟨hs', Or.inr ⟨i, rfl, fun _ => rfl, t_best_new hpl hs (Or.inr ⟨c0, c, by rw [i_le] at hle; omega⟩)⟩⟩, ?_⟩
              have : mn (wt c0) (wt i) = wt i := by unfold mn; rw [if_pos (by rw [i_lt]; rw [i_le] at hle; omega)]
              simp (disch := omega) only [lt_k, bnv_s, bnd_s, grd_t, q_in, q_inb, q_c, q_leT, q_leF, q_ltT, q_ltF, q_neg, q_nn, q_z, q_le0, q_b0, q_b1, nI_add, nI_0, q_off, q_self, q_oth, cst_2, st_2, ↓reduceIte, f_X8_cellAt, f_X8_roadAt, q_le1, q_nle1, q_le2, q_nle2, q_le5, q_nle5, q_le6, q_nle6, q_le8, q_nle8, q_le12, q_nle12, q_le25, q_nle25, q_le36, q_nle36, q_le60, q_nle60, q_le99, q_nle99, q_le100, q_nle100, q_le300, q_nle300, q_le640, q_nle640, q_le411, q_nle411, q_mul2, q_lmul2, q_mul3, q_lmul3, q_mul5, q_lmul5, q_mul6, q_lmul6, q_mul10, q_lmul10, q_add1, q_ladd1, q_add2, q_ladd2, q_add3, q_ladd3, q_add5, q_ladd5, q_add6, q_ladd6, q_add100, q_ladd100, q_div2, q_rem2, q_div3, q_rem3, q_div6, q_rem6, q_div10, q_rem10, a, b, hwt, hle, this]
        have e45 : (x < 0 ∨ m ≠ 1) → ∃ s'' : Int32 × Int32 × Mem, (fr LA μ2 s''.2.2 ∧ ((s''.1 = -1 ∧ t_none S T sp (i + 1)) ∨ ∃ c0, s''.1 = nI c0 ∧ (m ≠ 1 → s''.2.1 = wt c0) ∧ t_best S T sp wt (i + 1) c0)) ∧
            f_X9_enterer_45 m (f_X9_enterer_11 m n) x y (nI i) s = f_X9_enterer_11 m n s''.1 s''.2.1 (nI (i + 1)) s''.2.2 := by
          intro hx
          unfold f_X9_enterer_45
          simp (disch := omega) only [lt_k, bnv_s, bnd_s, grd_t, q_in, q_inb, q_c, q_leT, q_leF, q_ltT, q_ltF, q_neg, q_nn, q_z, q_le0, q_b0, q_b1, nI_add, nI_0, q_off, q_self, q_oth, cst_2, st_2, ↓reduceIte, f_X8_cellAt, f_X8_roadAt, q_le1, q_nle1, q_le2, q_nle2, q_le5, q_nle5, q_le6, q_nle6, q_le8, q_nle8, q_le12, q_nle12, q_le25, q_nle25, q_le36, q_nle36, q_le60, q_nle60, q_le99, q_nle99, q_le100, q_nle100, q_le300, q_nle300, q_le640, q_nle640, q_le411, q_nle411, q_mul2, q_lmul2, q_mul3, q_lmul3, q_mul5, q_lmul5, q_mul6, q_lmul6, q_mul10, q_lmul10, q_add1, q_ladd1, q_add2, q_ladd2, q_add3, q_ladd3, q_add5, q_ladd5, q_add6, q_ladd6, q_add100, q_ladd100, q_div2, q_rem2, q_div3, q_rem3, q_div6, q_rem6, q_div10, q_rem10, eov]
          by_cases m2 : m = 2
          · obtain ⟨s1, L, v, l1, l2, l3, l4, l5, l6⟩ := x9_loops (S := S) (T := T) (cell := i) (μ := s) (by rw [gb]; exact ht) (by rw [gb]; exact h01) hi hpl.1 hpl.2 (by rw [gb]; exact hf)
            rw [gb] at l3
            rw [gl, ← t_tc_eq ht _ hi hf l3] at l6
            have tk := t_tc_ok ht hl hi hpl hf
            obtain ⟨s'', a, b⟩ := e73 (sp i * t_tc S T (bb (μ.1 129)) (μ.1 128) i) s1 (fr_then p1 l2) (t_mul_np sx2 hs' tk.1 tk.2) (fun m1 => by rw [← ewt, ← esp]; unfold t_wt; rw [if_neg m1, if_pos m2]) hx
            refine ⟨s'', a, ?_⟩
            rw [if_pos m2, l1, bnv_s]
            rw [l6]
            exact b
          · obtain ⟨s'', a, b⟩ := e73 (sp i) s p1 (by omega) (fun m1 => by rw [← ewt, ← esp]; unfold t_wt; rw [if_neg m1, if_neg m2]) hx
            refine ⟨s'', a, ?_⟩
            rw [if_neg m2]
            exact b
        by_cases hx : x < 0 ∨ m ≠ 1
        · obtain ⟨s'', a, b⟩ := e45 hx
          refine ⟨s'', a, ?_⟩
          show g_X9_enterer_11 m _ x y (nI i) s = _
          unfold g_X9_enterer_11
          by_cases x0 : x < 0
          · simp (disch := omega) only [lt_k, bnv_s, bnd_s, grd_t, q_in, q_inb, q_c, q_leT, q_leF, q_ltT, q_ltF, q_neg, q_nn, q_z, q_le0, q_b0, q_b1, nI_add, nI_0, q_off, q_self, q_oth, cst_2, st_2, ↓reduceIte, f_X8_cellAt, f_X8_roadAt, q_le1, q_nle1, q_le2, q_nle2, q_le5, q_nle5, q_le6, q_nle6, q_le8, q_nle8, q_le12, q_nle12, q_le25, q_nle25, q_le36, q_nle36, q_le60, q_nle60, q_le99, q_nle99, q_le100, q_nle100, q_le300, q_nle300, q_le640, q_nle640, q_le411, q_nle411, q_mul2, q_lmul2, q_mul3, q_lmul3, q_mul5, q_lmul5, q_mul6, q_lmul6, q_mul10, q_lmul10, q_add1, q_ladd1, q_add2, q_ladd2, q_add3, q_ladd3, q_add5, q_ladd5, q_add6, q_ladd6, q_add100, q_ladd100, q_div2, q_rem2, q_div3, q_rem3, q_div6, q_rem6, q_div10, q_rem10, epl, q_10, eov, hs0, x0]
            exact b
          · have m1 := hx.resolve_left x0
            simp (disch := omega) only [lt_k, bnv_s, bnd_s, grd_t, q_in, q_inb, q_c, q_leT, q_leF, q_ltT, q_ltF, q_neg, q_nn, q_z, q_le0, q_b0, q_b1, nI_add, nI_0, q_off, q_self, q_oth, cst_2, st_2, ↓reduceIte, f_X8_cellAt, f_X8_roadAt, q_le1, q_nle1, q_le2, q_nle2, q_le5, q_nle5, q_le6, q_nle6, q_le8, q_nle8, q_le12, q_nle12, q_le25, q_nle25, q_le36, q_nle36, q_le60, q_nle60, q_le99, q_nle99, q_le100, q_nle100, q_le300, q_nle300, q_le640, q_nle640, q_le411, q_nle411, q_mul2, q_lmul2, q_mul3, q_lmul3, q_mul5, q_lmul5, q_mul6, q_lmul6, q_mul10, q_lmul10, q_add1, q_ladd1, q_add2, q_ladd2, q_add3, q_ladd3, q_add5, q_ladd5, q_add6, q_ladd6, q_add100, q_ladd100, q_div2, q_rem2, q_div3, q_rem3, q_div6, q_rem6, q_div10, q_rem10, epl, q_10, eov, hs0, x0, m1]
            exact b
        · have x0 : ¬ x < 0 := fun q => hx (Or.inl q)
          have m1 : m = 1 := Classical.byContradiction (fun q => hx (Or.inr q))
          refine ⟨(x, y, s), ⟨p1, ?_⟩, ?_⟩
          · rcases p2 with ⟨a, b⟩ | ⟨c0, a, b, c⟩
            · change x = -1 at a; rw [a] at x0; exact absurd (show (-1 : Int32) < 0 by decide) x0
            · refine Or.inr ⟨c0, a, b, t_best_skip c (fun _ _ => ?_)⟩
              have w1 : ∀ c, wt c = 0 := fun c => by rw [← ewt]; unfold t_wt; rw [if_pos m1]
              rw [w1, w1]; exact Int.le_refl _
          · show g_X9_enterer_11 m _ x y (nI i) s = _
            unfold g_X9_enterer_11
            simp (disch := omega) only [lt_k, bnv_s, bnd_s, grd_t, q_in, q_inb, q_c, q_leT, q_leF, q_ltT, q_ltF, q_neg, q_nn, q_z, q_le0, q_b0, q_b1, nI_add, nI_0, q_off, q_self, q_oth, cst_2, st_2, ↓reduceIte, f_X8_cellAt, f_X8_roadAt, q_le1, q_nle1, q_le2, q_nle2, q_le5, q_nle5, q_le6, q_nle6, q_le8, q_nle8, q_le12, q_nle12, q_le25, q_nle25, q_le36, q_nle36, q_le60, q_nle60, q_le99, q_nle99, q_le100, q_nle100, q_le300, q_nle300, q_le640, q_nle640, q_le411, q_nle411, q_mul2, q_lmul2, q_mul3, q_lmul3, q_mul5, q_lmul5, q_mul6, q_lmul6, q_mul10, q_lmul10, q_add1, q_ladd1, q_add2, q_ladd2, q_add3, q_ladd3, q_add5, q_ladd5, q_add6, q_ladd6, q_add100, q_ladd100, q_div2, q_rem2, q_div3, q_rem3, q_div6, q_rem6, q_div10, q_rem10, epl, q_10, eov, hs0, x0, m1]
      · have hs0 : (0 : Int32) ≤ sp i := by rw [i_le]; rw [i_lt] at hs; omega
        refine ⟨(x, y, s), ⟨p1, ?_⟩, ?_⟩
        · rcases p2 with ⟨a, b⟩ | ⟨c0, a, b, c⟩
          · exact Or.inl ⟨a, t_none_skip b (fun _ => hs)⟩
          · exact Or.inr ⟨c0, a, b, t_best_skip c (fun _ h => absurd h hs)⟩
        · show g_X9_enterer_11 m _ x y (nI i) s = _
          unfold g_X9_enterer_11
          simp (disch := omega) only [lt_k, bnv_s, bnd_s, grd_t, q_in, q_inb, q_c, q_leT, q_leF, q_ltT, q_ltF, q_neg, q_nn, q_z, q_le0, q_b0, q_b1, nI_add, nI_0, q_off, q_self, q_oth, cst_2, st_2, ↓reduceIte, f_X8_cellAt, f_X8_roadAt, q_le1, q_nle1, q_le2, q_nle2, q_le5, q_nle5, q_le6, q_nle6, q_le8, q_nle8, q_le12, q_nle12, q_le25, q_nle25, q_le36, q_nle36, q_le60, q_nle60, q_le99, q_nle99, q_le100, q_nle100, q_le300, q_nle300, q_le640, q_nle640, q_le411, q_nle411, q_mul2, q_lmul2, q_mul3, q_lmul3, q_mul5, q_lmul5, q_mul6, q_lmul6, q_mul10, q_lmul10, q_add1, q_ladd1, q_add2, q_ladd2, q_add3, q_ladd3, q_add5, q_ladd5, q_add6, q_ladd6, q_add100, q_ladd100, q_div2, q_rem2, q_div3, q_rem3, q_div6, q_rem6, q_div10, q_rem10, epl, q_10, eov, hs0]
    · rw [if_neg (show ¬ (i / 6 < S ∧ i % 6 < T) from hpl)] at epl
      refine ⟨(x, y, s), ⟨p1, ?_⟩, ?_⟩
      · rcases p2 with ⟨a, b⟩ | ⟨c0, a, b, c⟩
        · exact Or.inl ⟨a, t_none_skip b (fun h => absurd h hpl)⟩
        · exact Or.inr ⟨c0, a, b, t_best_skip c (fun h _ => absurd h hpl)⟩
      · show g_X9_enterer_11 m _ x y (nI i) s = _
        unfold g_X9_enterer_11
        simp (disch := omega) only [lt_k, bnv_s, bnd_s, grd_t, q_in, q_inb, q_c, q_leT, q_leF, q_ltT, q_ltF, q_neg, q_nn, q_z, q_le0, q_b0, q_b1, nI_add, nI_0, q_off, q_self, q_oth, cst_2, st_2, ↓reduceIte, f_X8_cellAt, f_X8_roadAt, q_le1, q_nle1, q_le2, q_nle2, q_le5, q_nle5, q_le6, q_nle6, q_le8, q_nle8, q_le12, q_nle12, q_le25, q_nle25, q_le36, q_nle36, q_le60, q_nle60, q_le99, q_nle99, q_le100, q_nle100, q_le300, q_nle300, q_le640, q_nle640, q_le411, q_nle411, q_mul2, q_lmul2, q_mul3, q_lmul3, q_mul5, q_lmul5, q_mul6, q_lmul6, q_mul10, q_lmul10, q_add1, q_ladd1, q_add2, q_ladd2, q_add3, q_ladd3, q_add5, q_ladd5, q_add6, q_ladd6, q_add100, q_ladd100, q_div2, q_rem2, q_div3, q_rem3, q_div6, q_rem6, q_div10, q_rem10, epl]
  · rintro n ⟨x, y, s⟩ ⟨p1, p2⟩
    change fr LA μ2 s at p1
    have fx : fr EA μ s := fr_trans f1 p1 (fun c j h => by unfold MA at h; unfold EA; omega) (fun c j h => by unfold EA; exact Or.inr (Or.inr h))
    have gw : s.1 142 = μ2.1 142 := fr_c p1 (fun j h => by unfold LA at h; omega)
    refine ⟨x, s, ?_, fx, by rw [gw]; exact hW, ?_⟩
    · show g_X9_enterer_11 m _ x y (nI 36) s = _
      unfold g_X9_enterer_11
      simp (disch := omega) only [lt_k, bnv_s, bnd_s, grd_t, q_in, q_inb, q_c, q_leT, q_leF, q_ltT, q_ltF, q_neg, q_nn, q_z, q_le0, q_b0, q_b1, nI_add, nI_0, q_off, q_self, q_oth, cst_2, st_2, ↓reduceIte, f_X8_cellAt, f_X8_roadAt, q_le1, q_nle1, q_le2, q_nle2, q_le5, q_nle5, q_le6, q_nle6, q_le8, q_nle8, q_le12, q_nle12, q_le25, q_nle25, q_le36, q_nle36, q_le60, q_nle60, q_le99, q_nle99, q_le100, q_nle100, q_le300, q_nle300, q_le640, q_nle640, q_le411, q_nle411, q_mul2, q_lmul2, q_mul3, q_lmul3, q_mul5, q_lmul5, q_mul6, q_lmul6, q_mul10, q_lmul10, q_add1, q_ladd1, q_add2, q_ladd2, q_add3, q_ladd3, q_add5, q_ladd5, q_add6, q_ladd6, q_add100, q_ladd100, q_div2, q_rem2, q_div3, q_rem3, q_div6, q_rem6, q_div10, q_rem10, lt_k]
    · rw [gw, esp, ewt]
      rcases p2 with ⟨a, b⟩ | ⟨c0, a, b, c⟩
      · exact Or.inl ⟨a, b⟩
      · exact Or.inr ⟨c0, a, c⟩
