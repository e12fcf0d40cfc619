/-! THE CALLS: read: the class looks for the fault -/
theorem vp_113 : vp_nar .char 113 = nI 113 := by decide +kernel
theorem vp_119 : vp_nar .char 119 = nI 119 := by decide +kernel
theorem vp_114 : vp_nar .char 114 = nI 114 := by decide +kernel
theorem x_cl_B {c : Nat → Nat} {n k : Nat} {r : SR} {z : Option (Int32 × Mem)} {μ μ0 : Mem} (h : x_cl c n k r z μ) (f : fr (RW k) μ0 μ) : x_cl c n k r (bnd z (fun r16 μ17 => grd (isB r16) (some (r16, μ17)))) μ0 := by
  cases r with
  | inl q =>
    obtain ⟨m, e, a, b⟩ := h
    rw [e, bnd_s]
    exact ⟨m, rfl, a, fr_then f b⟩
  | inr y =>
    obtain ⟨q, x⟩ := y
    obtain ⟨m, e, a, b, d⟩ := h
    rw [e, bnd_s]
    exact ⟨m, rfl, a, fr_then f b, d⟩
theorem x5_clause {c : Nat → Nat} {n p k : Nat} {μ : Mem} (h : XSt c n p μ) (hk : k < 12) : x_cl c n k (s_cl c n p) (f_X5_takeClause (nI k) μ) μ := by
  have t0 := x5_take h (a := 113) (by omega)
  have t1 := x5_take h (a := 119) (by omega)
  have t2 := x5_take h (a := 114) (by omega)
  have go : ∀ L, p < n → XSt c n (p + 1) (st (st μ 88 3 (nI (p + 1))) 90 k (nI L)) ∧ fr (RW k) μ (st (st μ 88 3 (nI (p + 1))) 90 k (nI L)) ∧ (st (st μ 88 3 (nI (p + 1))) 90 k (nI L)).1 90 k = nI L := fun L hp =>
    ⟨XS_fr (XS_mv h (p + 1) (by omega)) (fr_st (A := fun c j => c = 90) rfl) (fun c j q => by omega), fr_st' (fr_st (by unfold RW; omega)) (by unfold RW; omega), q_self _ _ _ _⟩
  unfold s_cl f_X5_takeClause
  by_cases g0 : p < n ∧ c p = 113
  · obtain ⟨a1, a2, a3⟩ := go 113 g0.1
    rw [if_pos g0, show f_X5_take 113 μ = _ from t0.1 g0, bnd_s, if_neg (by decide), q_in hk (by omega), lt_k, nI_c (by omega), vp_113]
    exact x_cl_B (x5_site a1 hk (Or.inl rfl) a3) a2
  · rw [if_neg g0, show f_X5_take 113 μ = _ from t0.2 g0, bnd_s, if_pos rfl]
    by_cases g1 : p < n ∧ c p = 119
    · obtain ⟨a1, a2, a3⟩ := go 119 g1.1
      rw [if_pos g1, show f_X5_take 119 μ = _ from t1.1 g1, bnd_s, if_neg (by decide), q_in hk (by omega), lt_k, nI_c (by omega), vp_119]
      exact x_cl_B (x5_site a1 hk (Or.inr rfl) a3) a2
    · rw [if_neg g1, show f_X5_take 119 μ = _ from t1.2 g1, bnd_s, if_pos rfl]
      by_cases g2 : p < n ∧ c p = 114
      · obtain ⟨a1, a2, a3⟩ := go 114 g2.1
        rw [if_pos g2, show f_X5_take 114 μ = _ from t2.1 g2, bnd_s, if_neg (by decide), q_in hk (by omega), lt_k, nI_c (by omega), vp_114]
        exact x_cl_B (x5_road a1 hk a3) a2
      · rw [if_neg g2, show f_X5_take 114 μ = _ from t2.2 g2, bnd_s, if_pos rfl]
        exact ⟨μ, rfl, h, fr_refl _ _⟩
def RX : Nat → Nat → Prop := fun c j => (c = 88 ∧ (j = 1 ∨ j = 3)) ∨ (90 ≤ c ∧ c ≤ 94)
theorem RW_RX {k : Nat} : ∀ c j, RW k c j → RX c j := fun c j h => by unfold RW at h; unfold RX; omega
/-- the rows of the clauses before k stand, and those clauses have no fault -/
def x_rows (c : Nat → Nat) (n k : Nat) (μ : Mem) : Prop := ∀ j, j < k → ∃ q x, s_L c n j = .inr (q, x) ∧ cl_ok x ∧ x_row j x μ
theorem x_row_fr {A : Nat → Nat → Prop} {k : Nat} {x : CLa} {μ μ' : Mem} (h : x_row k x μ) (f : fr A μ μ') (hA : ∀ c, 90 ≤ c ∧ c ≤ 94 → ¬ A c k) : x_row k x μ' := by
  obtain ⟨h1, h2, h3, h4⟩ := h
  exact ⟨by rw [f.2 _ _ (hA _ (by omega))]; exact h1, by rw [f.2 _ _ (hA _ (by omega))]; exact h2, by rw [f.2 _ _ (hA _ (by omega))]; exact h3, fun w => by rw [f.2 _ _ (hA _ (by omega)), f.2 _ _ (hA _ (by omega))]; exact h4 w⟩
theorem x_rows_fr {A : Nat → Nat → Prop} {c : Nat → Nat} {n k : Nat} {μ μ' : Mem} (h : x_rows c n k μ) (f : fr A μ μ') (hA : ∀ c j, 90 ≤ c ∧ c ≤ 94 → j < k → ¬ A c j) : x_rows c n k μ' := by
  intro j hj
  obtain ⟨q, x, a, b, d⟩ := h j hj
  exact ⟨q, x, a, b, x_row_fr d f (fun c hc => hA c j hc hj)⟩
def x_found (c : Nat → Nat) (n : Nat) (μ : Mem) (o : Sum Nat Nat) (z : Option (Int32 × Mem)) : Prop := match o with
  | .inl q => ∃ μ', z = some (nI q, μ') ∧ fr RX μ μ' ∧ q ≤ 100
  | .inr m => ∃ μ', z = some (-1, μ') ∧ fr RX μ μ' ∧ m ≤ 12 ∧ μ'.1 88 1 = nI m ∧ x_rows c n m μ'
theorem x5_found {c : Nat → Nat} {n : Nat} {μ : Mem} (ht : TXT c n) (h0 : μ.1 88 0 = nI n) (h9 : ∀ j, j < n → μ.1 89 j = nI (c j)) : x_found c n μ (s_out c n 12 0) (f_X5_findFault μ) := by
  unfold f_X5_findFault
  rw [lt_k, lt_k]
  generalize em : st (st μ 88 3 0) 88 1 0 = m0
  have f0 : fr RX μ m0 := by rw [← em]; exact fr_st' (fr_st (by unfold RX; omega)) (by unfold RX; omega)
  have hX : XSt c n 0 m0 := ⟨ht, by omega, by rw [f0.2 _ _ (by unfold RX; omega)]; exact h0, fun j hj => by rw [f0.2 _ _ (by unfold RX; omega)]; exact h9 j hj, by rw [← em, q_oth _ _ _ (by omega), q_self]; rfl⟩
  have n100 := ht.1
  refine q_loop0 (fun f k s => f_X5_findFault_12 f (nI k) s) 12 (by omega) (fun k s => k < 12 ∧ XSt c n (s_pos c n k) s ∧ fr RX μ s ∧ x_rows c n k s ∧ s_out c n 12 0 = s_out c n (12 - k) k)
    (fun z => x_found c n μ (s_out c n 12 0) z) ?_ ?_ m0 ⟨by omega, hX, f0, fun j h => by omega, rfl⟩
  · rintro f k s hk ⟨-, p1, p2, p3, p4⟩
    have hc := x5_clause p1 hk
    have hok : s_okr n (s_cl c n (s_pos c n k)) := s_cl_ok p1.2.1
    have eo : s_out c n (12 - k) k = match s_L c n k with
        | .inl q => .inl q
        | .inr (q, _) => if q = n then .inr (k + 1) else if k + 1 = 12 ∨ ¬ c q = 59 then .inl q else s_out c n (12 - (k + 1)) (k + 1) := by
      rw [show 12 - k = (12 - (k + 1)) + 1 by omega]
      rfl
    have l12 : ¬ (12 : Int32) ≤ nI k := by rw [q_nle12 hk]; exact id
    have ep : s_pos c n (k + 1) = s_end (s_L c n k) + 1 := rfl
    change x_cl c n k (s_L c n k) _ s at hc
    change s_okr n (s_L c n k) at hok
    cases er : s_L c n k with
    | inl q =>
      left
      rw [er] at hc eo hok
      obtain ⟨m1, e1, h1, f1⟩ := hc
      rw [p4, eo]
      refine ⟨m1, ?_, fr_then p2 (fr_mono f1 RW_RX), by have : q ≤ n := hok; omega⟩
      show g_X5_findFault_12 _ (nI k) s = _
      unfold g_X5_findFault_12
      rw [if_neg l12, e1, bnd_s, if_pos rfl, h1.2.2.2.2]
    | inr y =>
      obtain ⟨q, x⟩ := y
      rw [er] at hc eo hok ep
      obtain ⟨m1, e1, h1, f1, r1⟩ := hc
      have qn : q ≤ n := hok.1
      generalize em1 : st m1 88 1 (nI (k + 1)) = m2
      have f2 : fr (fun c j => c = 88 ∧ j = 1) m1 m2 := by rw [← em1]; exact fr_st (by omega)
      have h2 : XSt c n q m2 := XS_fr h1 f2 (fun c j q => by omega)
      have g2 : fr RX μ m2 := fr_then p2 (fr_trans f1 f2 RW_RX (fun c j h => by unfold RX; omega))
      have s1 : m2.1 88 1 = nI (k + 1) := by rw [← em1]; exact q_self _ _ _ _
      have rows : x_rows c n (k + 1) m2 := by
        intro j hj
        by_cases q' : j = k
        · subst q'
          exact ⟨q, x, er, hok.2, x_row_fr r1 f2 (fun c hc => by omega)⟩
        · exact x_rows_fr (x_rows_fr p3 f1 (fun c j a b => by unfold RW; omega)) f2 (fun c j a b => by omega) j (by omega)
      have head : f_X5_findFault_12 (f + 1) (nI k) s = if nI q = nI n then some (-1, m2) else if nI (k + 1) = 12 then some (nI q, m2) else bnd (f_X5_take 59 m2) (fun r10 μ11 => if r10 = 0 then some (μ11.1 88 3, μ11) else lt (nI k + 1) (fun y13 => f_X5_findFault_12 f y13 μ11)) := by
        show g_X5_findFault_12 _ (nI k) s = _
        unfold g_X5_findFault_12
        rw [if_neg l12, e1, bnd_s, if_neg (by decide), lt_k, q_add1, em1, h2.2.2.2.2, h2.2.2.1, s1]
      by_cases qe : q = n
      · left
        rw [p4, eo]
        show x_found c n μ (if q = n then .inr (k + 1) else _) _
        rw [if_pos qe]
        refine ⟨m2, ?_, g2, by omega, s1, rows⟩
        show f_X5_findFault_12 (f + 1) (nI k) s = _
        rw [head, if_pos (by rw [qe])]
      · have qne : ¬ nI q = nI n := fun e => qe ((nI_eq (by omega) (by omega)).mp e)
        by_cases k12 : k + 1 = 12
        · left
          rw [p4, eo]
          show x_found c n μ (if q = n then .inr (k + 1) else if k + 1 = 12 ∨ ¬ c q = 59 then .inl q else _) _
          rw [if_neg qe, if_pos (Or.inl k12)]
          refine ⟨m2, ?_, g2, by omega⟩
          show f_X5_findFault_12 (f + 1) (nI k) s = _
          rw [head, if_neg qne, if_pos (by rw [k12]; rfl)]
        · have kne : ¬ nI (k + 1) = 12 := fun e => k12 ((nI_eq (b := 12) (by omega) (by omega)).mp e)
          have t := x5_take h2 (a := 59) (by omega)
          by_cases c59 : c q = 59
          · right
            refine ⟨st m2 88 3 (nI (q + 1)), ⟨by omega, ?_, fr_st' g2 (by unfold RX; omega), x_rows_fr rows (fr_st (A := fun c j => c = 88) rfl) (fun c j a b => by omega), ?_⟩, ?_⟩
            · rw [ep]
              exact XS_mv h2 (q + 1) (by omega)
            · rw [p4, eo]
              show (if q = n then Sum.inr (k + 1) else if k + 1 = 12 ∨ ¬ c q = 59 then Sum.inl q else _ : Sum Nat Nat) = _
              rw [if_neg qe, if_neg (fun z => by rcases z with z | z; exact k12 z; exact z c59)]
            · show f_X5_findFault_12 (f + 1) (nI k) s = f_X5_findFault_12 f (nI (k + 1)) _
              rw [head, if_neg qne, if_neg kne, show f_X5_take 59 m2 = _ from t.1 ⟨by omega, c59⟩, bnd_s, if_neg (by decide), lt_k, q_add1]
          · left
            rw [p4, eo]
            show x_found c n μ (if q = n then .inr (k + 1) else if k + 1 = 12 ∨ ¬ c q = 59 then .inl q else _) _
            rw [if_neg qe, if_pos (Or.inr c59)]
            refine ⟨m2, ?_, g2, by omega⟩
            show f_X5_findFault_12 (f + 1) (nI k) s = _
            rw [head, if_neg qne, if_neg kne, show f_X5_take 59 m2 = _ from t.2 (fun z => c59 z.2), bnd_s, if_pos rfl, h2.2.2.2.2]
  · rintro f s ⟨p0, -⟩
    omega
/-! the class does the clauses -/
def cl_act (D : TD) (x : CLa) : Int32 × TD := if x.1 = 113 then d_site D false (nI x.2.1) (nI x.2.2.1) else if x.1 = 119 then d_site D true (nI x.2.1) (nI x.2.2.1) else d_road D (nI x.2.1) (nI x.2.2.1) (nI x.2.2.2.1) (nI x.2.2.2.2)
def a_D (c : Nat → Nat) (n : Nat) (D : TD) : Nat → TD
  | 0 => D
  | k + 1 => (cl_act (a_D c n D k) (s_clv (s_L c n k))).2
def a_ct (c : Nat → Nat) (n : Nat) (D : TD) : Nat → Nat
  | 0 => 0
  | k + 1 => a_ct c n D k + if (cl_act (a_D c n D k) (s_clv (s_L c n k))).1 < 0 then 0 else 1
theorem cl_act_ok {D : TD} {x : CLa} (h : D_ok D) (hx : cl_ok x) : D_ok (cl_act D x).2 := by
  unfold cl_act
  rcases hx with ⟨a, b, d⟩ | ⟨a, b, d⟩ | ⟨a, b, d, e, g⟩
  · rw [if_pos a]
    exact d_site_ok h false (by rw [nI_i (by omega)]; omega) (by rw [nI_i (by omega)]; omega)
  · rw [if_neg (by omega), if_pos a]
    exact d_site_ok h true (by rw [nI_i (by omega)]; omega) (by rw [nI_i (by omega)]; omega)
  · rw [if_neg (by omega), if_neg (by omega)]
    exact d_road_ok h _ _ (by rw [nI_i (by omega)]; omega) (by rw [nI_i (by omega)]; omega)
theorem x5_perform {D : TD} {x : CLa} {k m : Nat} {μ : Mem} (h : D_ok D) (hx : XD 14 D μ) (hk : k < m) (hm : m ≤ 12) (h1 : μ.1 88 1 = nI m) (hok : cl_ok x) (hr : x_row k x μ) : ∃ μ', f_X5_perform (nI k) 14 μ = some ((cl_act D x).1, μ') ∧ XD 14 (cl_act D x).2 μ' ∧ fr GX μ μ' := by
  obtain ⟨r1, r2, r3, r4⟩ := hr
  unfold f_X5_perform
  rw [if_neg (nI_pos (by omega)), h1, if_pos ((nI_ltI (by omega) (by omega)).mpr hk), q_in (by omega) (by omega), nI_c (by omega), r1, r2, r3]
  unfold cl_act
  rcases hok with ⟨a, b, d⟩ | ⟨a, b, d⟩ | ⟨a, b, d, e, g⟩
  · obtain ⟨m1, e1, x1, f1⟩ := x6_addSite h hx false (nI x.2.1) (nI x.2.2.1)
    rw [if_pos a, if_pos (by rw [a]; rfl), q_in (by omega) (by omega), q_in (by omega) (by omega), show f_X6_addSite 14 0 _ _ μ = _ from e1, bnd_s]
    exact ⟨m1, rfl, x1, f1⟩
  · obtain ⟨m1, e1, x1, f1⟩ := x6_addSite h hx true (nI x.2.1) (nI x.2.2.1)
    rw [if_neg (show ¬ x.1 = 113 by omega), if_pos a, if_neg (by rw [a]; decide), q_in (by omega) (by omega), if_pos (by rw [a]; rfl), q_in (by omega) (by omega), q_in (by omega) (by omega), show f_X6_addSite 14 1 _ _ μ = _ from e1, bnd_s]
    exact ⟨m1, rfl, x1, f1⟩
  · obtain ⟨r4a, r4b⟩ := r4 a
    obtain ⟨m1, e1, x1, f1⟩ := x6_changeRoad h hx (nI x.2.1) (nI x.2.2.1) (nI x.2.2.2.1) (nI x.2.2.2.2)
    rw [if_neg (show ¬ x.1 = 113 by omega), if_neg (show ¬ x.1 = 119 by omega), if_neg (by rw [a]; decide), q_in (by omega) (by omega), if_neg (by rw [a]; decide), q_in (by omega) (by omega), q_in (by omega) (by omega), q_in (by omega) (by omega), q_in (by omega) (by omega), r4a, r4b, e1, bnd_s]
    exact ⟨m1, rfl, x1, f1⟩
theorem x8_done {c : Nat → Nat} {n m : Nat} {D : TD} {μ : Mem} (h : D_ok D) (hx : XD 14 D μ) (hm : m ≤ 12) (h1 : μ.1 88 1 = nI m) (hr : x_rows c n m μ) : ∃ μ', f_X8_read_29 FU 0 0 μ = some (nI (a_ct c n D m), μ') ∧ XD 14 (a_D c n D m) μ' ∧ D_ok (a_D c n D m) ∧ fr GX μ μ' := by
  refine q_loop0 (fun f k (s : Int32 × Mem) => f_X8_read_29 f s.1 (nI k) s.2) m (by omega) (fun k s => s.1 = nI (a_ct c n D k) ∧ XD 14 (a_D c n D k) s.2 ∧ D_ok (a_D c n D k) ∧ fr GX μ s.2)
    (fun z => ∃ μ', z = some (nI (a_ct c n D m), μ') ∧ XD 14 (a_D c n D m) μ' ∧ D_ok (a_D c n D m) ∧ fr GX μ μ') ?_ ?_ (0, μ) ⟨rfl, hx, h, fr_refl _ _⟩
  · rintro f k ⟨y, s⟩ hk ⟨p1, p2, p3, p4⟩
    right
    change y = _ at p1
    subst p1
    change fr GX μ s at p4
    have h1' : s.1 88 1 = nI m := by rw [p4.2 _ _ (by unfold GX; omega)]; exact h1
    obtain ⟨q, x, e, ok, row⟩ := hr k hk
    obtain ⟨m1, e1, x1, f1⟩ := x5_perform p3 p2 hk hm h1' ok (x_row_fr row p4 (fun c hc => by unfold GX; omega))
    have ex : s_clv (s_L c n k) = x := by rw [e]; rfl
    have eD : a_D c n D (k + 1) = (cl_act (a_D c n D k) x).2 := by rw [← ex]; rfl
    have en : a_ct c n D (k + 1) = a_ct c n D k + if (cl_act (a_D c n D k) x).1 < 0 then 0 else 1 := by rw [← ex]; rfl
    refine ⟨(nI (a_ct c n D (k + 1)), m1), ⟨rfl, by rw [eD]; exact x1, by rw [eD]; exact cl_act_ok p3 ok, fr_then p4 f1⟩, ?_⟩
    show g_X8_read_29 _ (nI (a_ct c n D k)) (nI k) s = f_X8_read_29 f (nI (a_ct c n D (k + 1))) (nI (k + 1)) m1
    unfold g_X8_read_29
    rw [h1', if_neg (by rw [nI_leI (by omega) (by omega)]; omega), e1, bnd_s, en]
    by_cases g : (cl_act (a_D c n D k) x).1 < 0
    · rw [if_pos g, if_pos g, lt_k, q_add1]
      rfl
    · rw [if_neg g, if_neg g, lt_k, lt_k, q_add1, q_add1]
  · rintro f ⟨y, s⟩ ⟨p1, p2, p3, p4⟩
    change y = _ at p1
    subst p1
    change fr GX μ s at p4
    have h1' : s.1 88 1 = nI m := by rw [p4.2 _ _ (by unfold GX; omega)]; exact h1
    refine ⟨s, ?_, p2, p3, p4⟩
    show g_X8_read_29 _ (nI (a_ct c n D m)) (nI m) s = _
    unfold g_X8_read_29
    rw [h1', if_pos (by rw [nI_leI (by omega) (by omega)]; exact Nat.le_refl _)]
