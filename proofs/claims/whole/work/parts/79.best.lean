/-! THE CALLS: best, more */ -/
def g_is (G : TG) (rule m : Int32) (A : TA) : Prop := t_th G rule m A ∧ t_stop (g_S G) (g_T G) (g_cost G) A
theorem g_is_det {G : TG} {rule m : Int32} {A A' : TA} (h : g_is G rule m A) (h' : g_is G rule m A') : A = A' := t_th_det h.1 h'.1
theorem MI_c {ν μ μ' : Mem} (h : MI ν μ) (e : μ'.1 139 = μ.1 139) : MI ν μ' := by
  obtain ⟨h0, h1, h2, h3, h4, h5, h6⟩ := h
  exact ⟨by rw [e]; exact h0, by rw [e]; exact h1, by rw [e]; exact h2, fun j hj => by rw [e]; exact h3 j hj, fun j hj => by rw [e]; exact h4 j hj, fun j hj => by rw [e]; exact h5 j hj, fun j hj => by rw [e]; exact h6 j hj⟩
theorem x9_asked {G : TG} {μ : Mem} (rule m : Int32) (hM : MG G μ) (hG : g_ok G) :
    ∃ m1 r m2 m3, f_X9_minds μ = some m1 ∧ f_X9_thinks rule m m1 = some (r, m2) ∧ f_X9_forgets m2 = some m3 ∧ fr ZA μ m3 ∧ ((∃ A, g_is G rule m A ∧ MR (g_S G) (g_T G) (g_cost G) A m2 ∧ r = t_tot (g_cost G) A) ∨ (r = -5 ∧ ¬ ∃ A, g_is G rule m A)) := by
  obtain ⟨m1, e1, f1, mi⟩ := x9_minds μ
  have M1 := MG_fr hM f1 (fun c j q => by unfold DA; omega)
  obtain ⟨r, m2, e2, f2, ho⟩ := x9_thinks rule m M1 hG
  have mi2 : MI μ m2 := MI_c mi (fr_c f2 (fun j => by unfold ZX; omega))
  obtain ⟨m3, e3, f3⟩ := x9_forgets mi2 (fr_trans f1 f2 (fun c j h => by unfold DA at h; unfold ZA; omega) (fun c j h => Or.inl h))
  refine ⟨m1, r, m2, m3, e1, e2, e3, f3, ?_⟩
  rcases ho with ⟨A, a, b, c, d⟩ | ⟨a, b⟩
  · exact Or.inl ⟨A, ⟨a, b⟩, c, d⟩
  · exact Or.inr ⟨a, fun ⟨A, q⟩ => b ⟨A, q.1, q.2⟩⟩
/-- what the best plan costs, or that there is none -/
def g_bst (G : TG) (r : Int32) : Prop := (∃ A, g_is G 1 1 A ∧ r = t_tot (g_cost G) A) ∨ (r = -5 ∧ ¬ ∃ A, g_is G 1 1 A)
theorem g_bst_det {G : TG} {r r' : Int32} (h : g_bst G r) (h' : g_bst G r') : r = r' := by
  rcases h with ⟨A, a, rfl⟩ | ⟨rfl, a⟩
  · rcases h' with ⟨A', a', rfl⟩ | ⟨rfl, a'⟩
    · rw [g_is_det a a']
    · exact absurd ⟨A, a⟩ a'
  · rcases h' with ⟨A', a', rfl⟩ | ⟨rfl, a'⟩
    · exact absurd ⟨A', a'⟩ a
    · rfl
theorem g_tot_nn {G : TG} {rule m : Int32} {A : TA} (h : g_is G rule m A) : 0 ≤ (t_tot (g_cost G) A).toInt ∧ (t_tot (g_cost G) A).toInt ≤ 36 * 660000 := t_tot_nn (t_th_ok h.1)
theorem x9_theBest {G : TG} {μ : Mem} (hM : MG G μ) (hG : g_ok G) : ∃ r μ', f_X9_theBest μ = some (r, μ') ∧ fr ZA μ μ' ∧ g_bst G r := by
  obtain ⟨m1, r, m2, m3, e1, e2, e3, f3, ho⟩ := x9_asked 1 1 hM hG
  refine ⟨r, m3, by unfold f_X9_theBest; rw [e1, bnv_s, e2, bnd_s, e3, bnv_s], f3, ?_⟩
  rcases ho with ⟨A, a, -, c⟩ | ⟨a, b⟩
  · exact Or.inl ⟨A, a, c⟩
  · exact Or.inr ⟨a, b⟩
theorem isB_b01 (b : Bool) : isB (b01 b) = true := by cases b <;> decide +kernel
theorem x8_best {G : TG} {μ : Mem} (hX : XG 95 G μ) (hG : g_ok G) :
    ∃ r v μ', f_X8_tryTheBest μ = some (b01 r, μ') ∧ fr (KB 102) μ μ' ∧ g_bst G v ∧ (r = false → v = -5) ∧ (r = true → 0 ≤ v.toInt ∧ v.toInt ≤ 36 * 660000 ∧ f_X3_total 102 μ' = some v ∧ ∃ A, g_is G 1 1 A ∧ XR 102 (g_S G) (g_T G) (g_cost G) A μ') := by
  obtain ⟨r, m2, e2, f2, p1, p2⟩ := x8_tryBest 1 1 hX hG
  have eh : f_X8_tryTheBest μ = some (b01 r, m2) := by
    unfold f_X8_tryTheBest
    rw [e2, bnd_s, isB_b01, grd_t]
  cases r
  · exact ⟨false, -5, m2, eh, f2, Or.inr ⟨rfl, fun ⟨A, q⟩ => p2 rfl ⟨A, q.1, q.2⟩⟩, fun _ => rfl, fun h => (by cases h)⟩
  · obtain ⟨A, a, b, c⟩ := p1 rfl
    have nn := g_tot_nn (A := A) ⟨a, b⟩
    exact ⟨true, t_tot (g_cost G) A, m2, eh, f2, Or.inl ⟨A, ⟨a, b⟩, rfl⟩, fun h => (by cases h), fun _ => ⟨nn.1, nn.2, x3_total' (t_th_ok a) c, A, ⟨a, b⟩, c⟩⟩
theorem st_best {μ : Mem} (hv : Inv μ) (a1 : Int32) (a2 : Int32) (a3 : Int32) : ∃ r μ1 μ2, f_X8_best a1 a2 a3 μ = some (r, μ1) ∧ f_X9_best a1 a2 a3 μ1 = some (r, μ2) ∧ Inv μ2 := by
  obtain ⟨⟨D, hD, hX, hM⟩, hR⟩ := id hv
  unfold f_X8_best f_X9_best
  by_cases h1 : inR a1 0 2 = true
  · by_cases h2 : inR a2 0 2 = true
    · by_cases h3 : inR a3 0 1 = true
      · obtain ⟨m1, e1, x1, f1⟩ := x0_copyFrom (k := 95) (o := 15) (show XG 15 D.1 μ from hX.1) (by omega)
        obtain ⟨r, m2, e2, f2, p1, p2⟩ := x8_tryBest a1 a2 x1 hD.1
        have f12 : fr SCR μ m2 := fr_trans f1 f2 (fun c j h => by unfold SCR; omega) (fun c j h => by unfold KB at h; unfold SCR; omega)
        have M2 := MD_fr hM hD f12 (fun c j q => by unfold SCR; omega)
        obtain ⟨m3, r', m4, m5, e3, e4, e5, f5, ho⟩ := x9_asked a1 a2 M2.1 hD.1
        have i5 := Inv_scr (Inv_scr hv f12) (fr_mono f5 (fun c j h => by unfold ZA at h; unfold SCR; omega))
        simp only [u8_2, u8_1, i9_2, i9_1, bnv_s, h1, h2, h3, b2i_t, q_10, ↓reduceIte, e1, e2, bnd_s, e3, e4, e5, lt_k]
        cases r
        · rcases ho with ⟨A, a, -, -⟩ | ⟨a, b⟩
          · exact absurd ⟨A, a.1, a.2⟩ (p2 rfl)
          · subst a
            refine ⟨-5, m2, m5, by rw [b01_f, if_pos rfl], ?_, i5⟩
            by_cases z : a3 = 0
            · simp only [e3, e4, e5, bnv_s, bnd_s]
              rw [if_pos z]
            · simp only [e3, e4, e5, bnv_s, bnd_s]
              rw [if_neg z, if_neg (by decide)]
        · obtain ⟨A, a, b, c⟩ := p1 rfl
          rcases ho with ⟨A', a', b', c'⟩ | ⟨a', b'⟩
          · have hA : A' = A := t_th_det a'.1 a
            subst hA
            rw [show b01 true = 1 from rfl, if_neg (by decide)]
            have nn := g_tot_nn (A := A') ⟨a, b⟩
            by_cases z : a3 = 0
            · refine ⟨t_tot (g_cost D.1) A', m2, m5, ?_, ?_, i5⟩
              · rw [if_pos z, x3_total' (t_th_ok a) c, bnv_s]
              · simp only [e3, e4, e5, bnv_s, bnd_s]
                rw [if_pos z, c']
            · refine ⟨nI A'.1, m2, m5, ?_, ?_, i5⟩
              · rw [if_neg z, c.2.2.1]
              · simp only [e3, e4, e5, bnv_s, bnd_s]
                rw [if_neg z, c', if_pos (by rw [Int32.le_iff_toInt_le]; exact nn.1), b'.2.2.1]
          · exact absurd ⟨A, a, b⟩ b'
      · have h3' := ff_t h3
        exact ⟨-1, μ, μ, by simp only [u8_2, u8_1, bnv_s, h1, h2, h3', b2i_t, b2i_f, q_10, ↓reduceIte], by simp only [i9_2, i9_1, bnv_s, h1, h2, h3', b2i_t, b2i_f, q_10, ↓reduceIte], hv⟩
    · have h2' := ff_t h2
      exact ⟨-2, μ, μ, by simp only [u8_2, u8_1, bnv_s, h1, h2', b2i_t, b2i_f, q_10, ↓reduceIte], by simp only [i9_2, i9_1, bnv_s, h1, h2', b2i_t, b2i_f, q_10, ↓reduceIte], hv⟩
  · have h1' := ff_t h1
    exact ⟨-2, μ, μ, by simp only [u8_2, u8_1, bnv_s, h1', b2i_t, b2i_f, q_10, ↓reduceIte], by simp only [i9_2, i9_1, bnv_s, h1', b2i_t, b2i_f, q_10, ↓reduceIte], hv⟩
theorem q_sub64 {a b : Int32} (ha : 0 ≤ a.toInt ∧ a.toInt ≤ 36 * 660000) (hb : 0 ≤ b.toInt ∧ b.toInt ≤ 36 * 660000) : Int32.toInt64 (a - b) = Int32.toInt64 a - Int32.toInt64 b := by
  apply Int64.toInt_inj.mp
  have e : (a - b).toInt = a.toInt - b.toInt := by
    rw [Int32.toInt_sub]; apply Int.bmod_eq_of_le <;> omega
  rw [Int64.toInt_sub, Int32.toInt_toInt64, Int32.toInt_toInt64, Int32.toInt_toInt64, e, Int.bmod_eq_of_le] <;> omega
theorem fr_back {A : Nat → Nat → Prop} {μ μ' : Mem} {a k : Nat} (f : fr (fun c j => A c j ∨ (c = a ∧ j = k)) μ μ') (h : μ'.1 a k = μ.1 a k) : fr A μ μ' := by
  refine ⟨f.1, fun c j hn => ?_⟩
  by_cases q : c = a ∧ j = k
  · obtain ⟨rfl, rfl⟩ := q; exact h
  · exact f.2 c j (fun z => z.elim hn q)

theorem q_apm (x : Int32) : x + 1 - 1 = x := Int32.add_sub_cancel x 1
def g_more (G : TG) (i j : Nat) : TG := (G.1, G.2.1, upd (upd G.2.2.1 i (G.2.2.1 i + 1)) (5 + j) (G.2.2.1 (5 + j) + 1), G.2.2.2)
theorem g_more_ok {G : TG} (h : g_ok G) (h9 : ∀ i, i < 10 → (G.2.2.1 i).toInt ≤ 99) {i j : Nat} (hi : i < 5) (hj : j < 5) : g_ok (g_more G i j) := by
  obtain ⟨g1, g2, g3, g4, g5, g6⟩ := h
  have e : ∀ i, i < 10 → 0 ≤ (G.2.2.1 i + 1).toInt ∧ (G.2.2.1 i + 1).toInt ≤ 100 := by
    intro i hi
    have a := g3 i hi
    have b := h9 i hi
    have : (G.2.2.1 i + 1).toInt = (G.2.2.1 i).toInt + 1 := by
      rw [Int32.toInt_add, show (1 : Int32).toInt = 1 from rfl]; apply Int.bmod_eq_of_le <;> omega
    omega
  exact ⟨g1, g2, upd_bd (upd_bd g3 (e i (by omega))) (e (5 + j) (by omega)), g4, g5, g6⟩
theorem st_more {μ : Mem} (hv : Inv μ) (a1 : Int32) (a2 : Int32) : ∃ r μ1 μ2, f_X8_more a1 a2 μ = some (r, μ1) ∧ f_X9_more a1 a2 μ1 = some (r, μ2) ∧ Inv μ2 := by
  obtain ⟨⟨D, hD, hX, hM⟩, hR⟩ := id hv
  unfold f_X8_more
  have ex := x0_isRoadG (g := 15) (show XG 15 D.1 μ from hX.1) hD.1 a1 a2
  rcases road_cases D.1 hD.1 a1 a2 with ⟨i, j, hi, hj, rfl, rfl, e1⟩ | e1
  · rw [e1] at ex
    have g1 := hD.1.1
    have g2 := hD.1.2.1
    obtain ⟨m1, c1, x1, f1⟩ := x0_copyFrom (k := 95) (o := 15) (show XG 15 D.1 μ from hX.1) (by omega)
    obtain ⟨r, v, m2, c2, f2, b, p1, p2⟩ := x8_best x1 hD.1
    have f12 : fr SCR μ m2 := fr_trans f1 f2 (fun c j h => by unfold SCR; omega) (fun c j h => by unfold KB at h; unfold SCR; omega)
    have x2 := XG_fr x1 f2 (fun c j p q => by unfold KB; omega)
    have hG' := g_more_ok hD.1 hD.2.1 (i := i) (j := j) (by omega) (by omega)
    -- the model, from any memory that the class leaves
    have hm : ∀ (m : Mem), fr SCR μ m → ∃ v' m', g_bst (g_more D.1 i j) v' ∧ Inv m' ∧ f_X9_more (nI i) (nI j) m = some (if v < 0 then -9223372036854775808 else if 0 ≤ v' then Int32.toInt64 (v' - v) else -9223372036854775808, m') := by
      intro m fm
      unfold f_X9_more
      have M := MD_fr hM hD fm (fun c j q => by unfold SCR; omega)
      have em := x9_isRoadG M.1 hD.1 (nI i) (nI j)
      rw [e1] at em
      obtain ⟨w, m1, t1, k1, b1⟩ := x9_theBest M.1 hD.1
      have hw := g_bst_det b1 b
      subst hw
      have M1 := MG_fr M.1 k1 (fun c j q => by unfold ZA; omega)
      obtain ⟨n1, n2, n3, n4⟩ := M1
      generalize em2 : st (st m1 123 i (D.1.2.2.1 i + 1)) 123 (5 + j) (D.1.2.2.1 (5 + j) + 1) = m2
      have M2 : MG (g_more D.1 i j) m2 := by
        rw [← em2]
        refine ⟨by rw [q_off _ _ _ (by omega), q_off _ _ _ (by omega)]; exact n1, by rw [q_off _ _ _ (by omega), q_off _ _ _ (by omega)]; exact n2, fun k hk => ⟨?_, ?_⟩, fun k hk => ?_⟩
        · rw [q_at, q_at, (n3 k hk).1]; rfl
        · rw [q_off _ _ _ (by omega), q_off _ _ _ (by omega)]; exact (n3 k hk).2
        · rw [q_off _ _ _ (by omega), q_off _ _ _ (by omega), q_off _ _ _ (by omega), q_off _ _ _ (by omega)]; exact n4 k hk
      obtain ⟨v', m3, t2, k2, b2⟩ := x9_theBest M2 hG'
      have y1 : m3.1 123 i = D.1.2.2.1 i + 1 := by
        rw [k2.2 _ _ (by unfold ZA; omega), ← em2, q_at, if_neg (by omega), q_self]
      have y2 : m3.1 123 (5 + j) = D.1.2.2.1 (5 + j) + 1 := by
        rw [k2.2 _ _ (by unfold ZA; omega), ← em2, q_self]
      refine ⟨v', st (st m3 123 i (D.1.2.2.1 i)) 123 (5 + j) (D.1.2.2.1 (5 + j)), b2, Inv_scr hv (fr_then fm ?_), ?_⟩
      · refine fr_back (a := 123) (k := i) (fr_back (a := 123) (k := 5 + j) ?_ ?_) ?_
        · refine fr_st' (fr_st' ?_ (Or.inl (Or.inr ⟨rfl, rfl⟩))) (Or.inr ⟨rfl, rfl⟩)
          refine fr_trans (fr_trans (fr_mono k1 (B := fun c q => (SCR c q ∨ (c = 123 ∧ q = i)) ∨ (c = 123 ∧ q = 5 + j)) (fun c j h => by unfold ZA at h; unfold SCR; omega)) (by rw [← em2]; exact fr_st' (fr_st (Or.inl (Or.inr ⟨rfl, rfl⟩))) (Or.inr ⟨rfl, rfl⟩)) (fun c j h => h) (fun c j h => h)) k2 (fun c j h => h) (fun c j h => by unfold ZA at h; unfold SCR; omega)
        · rw [q_self]; exact (M.1.2.2.1 _ (by omega)).1.symm
        · rw [q_at, if_neg (by omega), q_self]; exact (M.1.2.2.1 _ (by omega)).1.symm
      · simp (disch := omega) only [lt_k, bnv_s, bnd_s, grd_t, q_in, q_inb, q_c, q_leT, q_leF, q_ltT, q_ltF, q_neg, q_nn, q_z, q_le0, q_b0, q_b1, nI_add, nI_0, q_off, q_self, q_oth, cst_2, st_2, ↓reduceIte, f_X8_cellAt, f_X8_roadAt, q_le1, q_nle1, q_le2, q_nle2, q_le5, q_nle5, q_le6, q_nle6, q_le8, q_nle8, q_le12, q_nle12, q_le25, q_nle25, q_le36, q_nle36, q_le60, q_nle60, q_le99, q_nle99, q_le100, q_nle100, q_le300, q_nle300, q_le640, q_nle640, q_le411, q_nle411, q_mul2, q_lmul2, q_mul3, q_lmul3, q_mul5, q_lmul5, q_mul6, q_lmul6, q_mul10, q_lmul10, q_add1, q_ladd1, q_add2, q_ladd2, q_add3, q_ladd3, q_add5, q_ladd5, q_add6, q_ladd6, q_add100, q_ladd100, q_div2, q_rem2, q_div3, q_rem3, q_div6, q_rem6, q_div10, q_rem10, em, q_10, t1, (n3 i (by omega)).1, q_at, show 5 + j ≠ i by omega, show i ≠ 5 + j by omega, (n3 (5 + j) (by omega)).1, em2, t2, y1, y2, q_apm]
        by_cases z : w < 0
        · rw [if_pos z, if_pos z]
        · rw [if_neg z, if_neg z]
          by_cases z2 : 0 ≤ v'
          · rw [if_pos z2, if_pos z2]
          · rw [if_neg z2, if_neg z2]
    cases r
    · obtain ⟨v', m', -, i', em⟩ := hm m2 f12
      refine ⟨-9223372036854775808, m2, m', ?_, ?_, i'⟩
      · simp only [ex, bnv_s, q_10, ↓reduceIte, c1, c2, bnd_s, b01_f]
      · rw [em, p1 rfl, if_pos (by decide)]
    · obtain ⟨nn1, nn2, tt, -⟩ := p2 rfl
      generalize em2 : st (st m2 96 i (D.1.2.2.1 i + 1)) 98 j (D.1.2.2.1 (5 + j) + 1) = m3
      have x3 : XG 95 (g_more D.1 i j) m3 := by
        obtain ⟨n1, n2, n3, n4⟩ := x2
        rw [← em2]
        refine ⟨by rw [q_off _ _ _ (by omega), q_off _ _ _ (by omega)]; exact n1, by rw [q_off _ _ _ (by omega), q_off _ _ _ (by omega)]; exact n2, fun k hk => ⟨?_, ?_, ?_, ?_⟩, fun k hk => ?_⟩
        · have := (n3 k hk).1
          rw [q_off _ _ _ (by omega), q_at]
          show _ = upd (upd D.1.2.2.1 i _) (5 + j) _ k
          unfold upd
          rw [if_neg (show ¬ k = 5 + j by omega)]
          by_cases z : k = i
          · rw [if_pos z, if_pos z]
          · rw [if_neg z, if_neg z]; exact this
        · rw [q_off _ _ _ (by omega), q_off _ _ _ (by omega)]; exact (n3 k hk).2.1
        · have := (n3 k hk).2.2.1
          rw [q_at, q_off _ _ _ (by omega)]
          show _ = upd (upd D.1.2.2.1 i _) (5 + j) _ (5 + k)
          unfold upd
          by_cases z : k = j
          · rw [if_pos z, if_pos (by omega)]
          · rw [if_neg z, if_neg (by omega), if_neg (by omega)]; exact this
        · rw [q_off _ _ _ (by omega), q_off _ _ _ (by omega)]; exact (n3 k hk).2.2.2
        · rw [q_off _ _ _ (by omega), q_off _ _ _ (by omega), q_off _ _ _ (by omega), q_off _ _ _ (by omega)]; exact n4 k hk
      obtain ⟨r, v2, m4, c4, f4, b4, p3, p4⟩ := x8_best x3 hG'
      have f14 : fr SCR μ m4 := fr_trans f12 (fr_trans (C := SCR) (show fr SCR m2 m3 from by rw [← em2]; exact fr_st' (fr_st (by unfold SCR; omega)) (by unfold SCR; omega)) f4 (fun c j h => h) (fun c j h => by unfold KB at h; unfold SCR; omega)) (fun c j h => h) (fun c j h => h)
      obtain ⟨v', m', b', i', em⟩ := hm m4 f14
      have hv' := g_bst_det b' b4
      subst hv'
      have w1 : m2.1 96 i = D.1.2.2.1 i := (x2.2.2.1 i (by omega)).1
      have w2 : m2.1 98 j = D.1.2.2.1 (5 + j) := (x2.2.2.1 j (by omega)).2.2.1
      have nl : ¬ v < 0 := by rw [Int32.lt_iff_toInt_lt, show (0 : Int32).toInt = 0 from rfl]; omega
      cases r
      · refine ⟨-9223372036854775808, m4, m', ?_, ?_, i'⟩
        · simp (disch := omega) only [lt_k, bnv_s, bnd_s, grd_t, q_in, q_inb, q_c, q_leT, q_leF, q_ltT, q_ltF, q_neg, q_nn, q_z, q_le0, q_b0, q_b1, nI_add, nI_0, q_off, q_self, q_oth, cst_2, st_2, ↓reduceIte, f_X8_cellAt, f_X8_roadAt, q_le1, q_nle1, q_le2, q_nle2, q_le5, q_nle5, q_le6, q_nle6, q_le8, q_nle8, q_le12, q_nle12, q_le25, q_nle25, q_le36, q_nle36, q_le60, q_nle60, q_le99, q_nle99, q_le100, q_nle100, q_le300, q_nle300, q_le640, q_nle640, q_le411, q_nle411, q_mul2, q_lmul2, q_mul3, q_lmul3, q_mul5, q_lmul5, q_mul6, q_lmul6, q_mul10, q_lmul10, q_add1, q_ladd1, q_add2, q_ladd2, q_add3, q_ladd3, q_add5, q_ladd5, q_add6, q_ladd6, q_add100, q_ladd100, q_div2, q_rem2, q_div3, q_rem3, q_div6, q_rem6, q_div10, q_rem10, ex, q_10, c1, c2, tt, w1, w2, em2, c4, b01_f, show b01 true = 1 from rfl]
        · rw [em, if_neg nl, p3 rfl, if_neg (by decide)]
      · obtain ⟨nn3, nn4, tt2, -⟩ := p4 rfl
        refine ⟨Int32.toInt64 (v' - v), m4, m', ?_, ?_, i'⟩
        · simp (disch := omega) only [lt_k, bnv_s, bnd_s, grd_t, q_in, q_inb, q_c, q_leT, q_leF, q_ltT, q_ltF, q_neg, q_nn, q_z, q_le0, q_b0, q_b1, nI_add, nI_0, q_off, q_self, q_oth, cst_2, st_2, ↓reduceIte, f_X8_cellAt, f_X8_roadAt, q_le1, q_nle1, q_le2, q_nle2, q_le5, q_nle5, q_le6, q_nle6, q_le8, q_nle8, q_le12, q_nle12, q_le25, q_nle25, q_le36, q_nle36, q_le60, q_nle60, q_le99, q_nle99, q_le100, q_nle100, q_le300, q_nle300, q_le640, q_nle640, q_le411, q_nle411, q_mul2, q_lmul2, q_mul3, q_lmul3, q_mul5, q_lmul5, q_mul6, q_lmul6, q_mul10, q_lmul10, q_add1, q_ladd1, q_add2, q_ladd2, q_add3, q_ladd3, q_add5, q_ladd5, q_add6, q_ladd6, q_add100, q_ladd100, q_div2, q_rem2, q_div3, q_rem3, q_div6, q_rem6, q_div10, q_rem10, ex, q_10, c1, c2, tt, w1, w2, em2, c4, show b01 true = 1 from rfl, tt2]
          rw [q_sub64 ⟨nn3, nn4⟩ ⟨nn1, nn2⟩]
        · rw [em, if_neg nl, if_pos (by rw [Int32.le_iff_toInt_le]; exact nn3)]
  · rw [e1] at ex
    have em := x9_isRoadG hM.1 hD.1 a1 a2
    rw [e1] at em
    exact ⟨-9223372036854775808, μ, μ, by rw [ex, bnv_s, if_pos rfl], by unfold f_X9_more; rw [em, bnv_s, if_pos rfl], hv⟩
