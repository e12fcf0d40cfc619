/-! THE CALLS: read: what a text spells; how the class takes it -/
abbrev CLa : Type := Nat × Nat × Nat × Nat × Nat
abbrev SR : Type := Sum Nat (Nat × CLa)
def s_dg (c : Nat → Nat) (n p : Nat) : Prop := p < n ∧ 48 ≤ c p ∧ c p ≤ 57
def s_nm (c : Nat → Nat) (n p : Nat) : Option (Nat × Nat) := if p < n ∧ 48 ≤ c p ∧ c p ≤ 57 then (if p + 1 < n ∧ 48 ≤ c (p + 1) ∧ c (p + 1) ≤ 57 then some (10 * (c p - 48) + (c (p + 1) - 48), p + 2) else some (c p - 48, p + 1)) else none
def s_kd (c : Nat → Nat) (n p : Nat) : Option Nat := if p < n ∧ c p = 112 then some 0 else if p < n ∧ c p = 116 then some 1 else if p < n ∧ c p = 115 then some 2 else if p < n ∧ c p = 120 then some 3 else none
def s_st (c : Nat → Nat) (n L p : Nat) : SR := match s_nm c n p with
  | none => .inl p
  | some (v, q) => if q < n ∧ c q = 44 then (if q + 1 < n ∧ 48 ≤ c (q + 1) ∧ c (q + 1) ≤ 57 then .inr (q + 2, L, v, c (q + 1) - 48, 0, 0) else .inl (q + 1)) else .inl q
def s_rd (c : Nat → Nat) (n p : Nat) : SR := if p < n ∧ 48 ≤ c p ∧ c p ≤ 57 then (if p + 1 < n ∧ 48 ≤ c (p + 1) ∧ c (p + 1) ≤ 57 then (match s_kd c n (p + 2) with
  | none => .inl (p + 2)
  | some k => match s_nm c n (p + 3) with
    | none => .inl (p + 3)
    | some (v, q) => .inr (q, 114, c p - 48, c (p + 1) - 48, k, v)) else .inl (p + 1)) else .inl p
def s_cl (c : Nat → Nat) (n p : Nat) : SR := if p < n ∧ c p = 113 then s_st c n 113 (p + 1) else if p < n ∧ c p = 119 then s_st c n 119 (p + 1) else if p < n ∧ c p = 114 then s_rd c n (p + 1) else .inl p
def s_end : SR → Nat
  | .inl q => q
  | .inr (q, _) => q
def s_clv : SR → CLa
  | .inl _ => (0, 0, 0, 0, 0)
  | .inr (_, x) => x
def s_pos (c : Nat → Nat) (n : Nat) : Nat → Nat
  | 0 => 0
  | k + 1 => s_end (s_cl c n (s_pos c n k)) + 1
def s_L (c : Nat → Nat) (n k : Nat) : SR := s_cl c n (s_pos c n k)
def s_out (c : Nat → Nat) (n : Nat) : Nat → Nat → Sum Nat Nat
  | 0, _ => .inl 0
  | f + 1, k => match s_L c n k with
    | .inl q => .inl q
    | .inr (q, _) => if q = n then .inr (k + 1) else if k + 1 = 12 ∨ ¬ c q = 59 then .inl q else s_out c n f (k + 1)
def cl_ok (x : CLa) : Prop := (x.1 = 113 ∧ x.2.1 ≤ 99 ∧ x.2.2.1 ≤ 9) ∨ (x.1 = 119 ∧ x.2.1 ≤ 99 ∧ x.2.2.1 ≤ 9) ∨ (x.1 = 114 ∧ x.2.1 ≤ 9 ∧ x.2.2.1 ≤ 9 ∧ x.2.2.2.1 ≤ 3 ∧ x.2.2.2.2 ≤ 99)
theorem s_nm_ok {c : Nat → Nat} {n p v q : Nat} (h : s_nm c n p = some (v, q)) : v ≤ 99 ∧ q ≤ n ∧ p < q := by
  unfold s_nm at h
  split at h
  · split at h
    · cases h; omega
    · cases h; omega
  · cases h
theorem s_kd_ok {c : Nat → Nat} {n p k : Nat} (h : s_kd c n p = some k) : k ≤ 3 ∧ p < n := by
  unfold s_kd at h
  split at h
  · cases h; omega
  · split at h
    · cases h; omega
    · split at h
      · cases h; omega
      · split at h
        · cases h; omega
        · cases h
def s_okr (n : Nat) : SR → Prop
  | .inl q => q ≤ n
  | .inr (q, x) => q ≤ n ∧ cl_ok x
theorem s_st_ok {c : Nat → Nat} {n L p : Nat} (hL : L = 113 ∨ L = 119) (hp : p ≤ n) : s_okr n (s_st c n L p) := by
  unfold s_st
  cases e : s_nm c n p with
  | none => exact hp
  | some x =>
    obtain ⟨v, q⟩ := x
    obtain ⟨a, b, d⟩ := s_nm_ok e
    show s_okr n (if q < n ∧ c q = 44 then _ else _)
    by_cases h : q < n ∧ c q = 44
    · rw [if_pos h]
      by_cases h2 : q + 1 < n ∧ 48 ≤ c (q + 1) ∧ c (q + 1) ≤ 57
      · rw [if_pos h2]
        refine ⟨by omega, ?_⟩
        rcases hL with r | r
        · exact Or.inl ⟨r, a, by show c (q + 1) - 48 ≤ 9; omega⟩
        · exact Or.inr (Or.inl ⟨r, a, by show c (q + 1) - 48 ≤ 9; omega⟩)
      · rw [if_neg h2]; show q + 1 ≤ n; omega
    · rw [if_neg h]; exact b
theorem s_rd_ok {c : Nat → Nat} {n p : Nat} (hp : p ≤ n) : s_okr n (s_rd c n p) := by
  unfold s_rd
  by_cases h1 : p < n ∧ 48 ≤ c p ∧ c p ≤ 57
  · rw [if_pos h1]
    by_cases h2 : p + 1 < n ∧ 48 ≤ c (p + 1) ∧ c (p + 1) ≤ 57
    · rw [if_pos h2]
      cases e : s_kd c n (p + 2) with
      | none => show p + 2 ≤ n; omega
      | some k =>
        have hk := s_kd_ok e
        cases e2 : s_nm c n (p + 3) with
        | none => show p + 3 ≤ n; omega
        | some x =>
          obtain ⟨v, q⟩ := x
          obtain ⟨a, b, d⟩ := s_nm_ok e2
          exact ⟨b, Or.inr (Or.inr ⟨rfl, by show c p - 48 ≤ 9; omega, by show c (p + 1) - 48 ≤ 9; omega, hk.1, a⟩)⟩
    · rw [if_neg h2]; show p + 1 ≤ n; omega
  · rw [if_neg h1]; exact hp
theorem s_cl_ok {c : Nat → Nat} {n p : Nat} (hp : p ≤ n) : s_okr n (s_cl c n p) := by
  unfold s_cl
  by_cases h1 : p < n ∧ c p = 113
  · rw [if_pos h1]; exact s_st_ok (Or.inl rfl) (by omega)
  · rw [if_neg h1]
    by_cases h2 : p < n ∧ c p = 119
    · rw [if_pos h2]; exact s_st_ok (Or.inr rfl) (by omega)
    · rw [if_neg h2]
      by_cases h3 : p < n ∧ c p = 114
      · rw [if_pos h3]; exact s_rd_ok (by omega)
      · rw [if_neg h3]; exact hp
/-! the class -/
def TXT (c : Nat → Nat) (n : Nat) : Prop := n ≤ 100 ∧ ∀ j, j < n → c j ≤ 127
def XSt (c : Nat → Nat) (n p : Nat) (μ : Mem) : Prop := TXT c n ∧ p ≤ n ∧ μ.1 88 0 = nI n ∧ (∀ j, j < n → μ.1 89 j = nI (c j)) ∧ μ.1 88 3 = nI p
def A3 : Nat → Nat → Prop := fun c j => c = 88 ∧ j = 3
theorem XS_mv {c : Nat → Nat} {n p : Nat} {μ : Mem} (h : XSt c n p μ) (q : Nat) (hq : q ≤ n) : XSt c n q (st μ 88 3 (nI q)) := by
  obtain ⟨h1, h2, h3, h4, h5⟩ := h
  exact ⟨h1, hq, by rw [q_oth _ _ _ (by omega)]; exact h3, fun j hj => by rw [q_off _ _ _ (by omega)]; exact h4 j hj, q_self _ _ _ _⟩
theorem XS_fr {A : Nat → Nat → Prop} {c : Nat → Nat} {n p : Nat} {μ μ' : Mem} (h : XSt c n p μ) (f : fr A μ μ') (hA : ∀ k j, (k = 88 ∧ (j = 0 ∨ j = 3)) ∨ k = 89 → ¬ A k j) : XSt c n p μ' := by
  obtain ⟨h1, h2, h3, h4, h5⟩ := h
  exact ⟨h1, h2, by rw [f.2 _ _ (hA _ _ (by omega))]; exact h3, fun j hj => by rw [f.2 _ _ (hA _ _ (by omega))]; exact h4 j hj, by rw [f.2 _ _ (hA _ _ (by omega))]; exact h5⟩
theorem x5_take {c : Nat → Nat} {n p : Nat} {μ : Mem} (h : XSt c n p μ) {a : Nat} (ha : a < 128) :
    (p < n ∧ c p = a → f_X5_take (nI a) μ = some (1, st μ 88 3 (nI (p + 1)))) ∧ (¬ (p < n ∧ c p = a) → f_X5_take (nI a) μ = some (0, μ)) := by
  obtain ⟨⟨h1, h1'⟩, h2, h3, h4, h5⟩ := h
  unfold f_X5_take
  rw [h3, h5]
  constructor
  · rintro ⟨g1, g2⟩
    rw [if_neg (by rw [nI_leI (by omega) (by omega)]; omega), q_in (by omega) (by omega), nI_c (by omega), h4 p g1, g2, if_pos rfl, lt_k, q_add1]
  · intro g
    by_cases g1 : p < n
    · have := h1' p g1
      rw [if_neg (by rw [nI_leI (by omega) (by omega)]; omega), q_in (by omega) (by omega), nI_c (by omega), h4 p g1, if_neg (fun e => g ⟨g1, (nI_eq (by omega) (by omega)).mp e⟩)]
    · rw [if_pos (by rw [nI_leI (by omega) (by omega)]; omega)]
theorem nI_s48 {a : Nat} (h : 48 ≤ a) : nI a - 48 = nI (a - 48) := by
  have e : nI (a - 48) + nI 48 = nI a := by rw [nI_add, Nat.sub_add_cancel h]
  rw [← e]
  exact Int32.add_sub_cancel _ _
theorem x5_dig {c : Nat → Nat} {n p : Nat} {μ : Mem} (h : XSt c n p μ) :
    (p < n ∧ 48 ≤ c p ∧ c p ≤ 57 → f_X5_takeDigit μ = some (nI (c p - 48), st μ 88 3 (nI (p + 1)))) ∧ (¬ (p < n ∧ 48 ≤ c p ∧ c p ≤ 57) → f_X5_takeDigit μ = some (-1, μ)) := by
  obtain ⟨⟨h1, h1'⟩, h2, h3, h4, h5⟩ := h
  unfold f_X5_takeDigit
  rw [h3, h5]
  by_cases g1 : p < n
  · have hc := h1' p g1
    have l48 : nI (c p) < 48 ↔ c p < 48 := nI_ltI (b := 48) (by omega) (by decide)
    have l57 : nI (c p) ≤ 57 ↔ c p ≤ 57 := nI_leI (b := 57) (by omega) (by decide)
    rw [if_neg (by rw [nI_leI (by omega) (by omega)]; omega), q_in (by omega) (by omega), nI_c (by omega), h4 p g1]
    constructor
    · rintro ⟨-, g2, g3⟩
      rw [if_neg (by rw [l48]; omega), q_in (by omega) (by omega), if_pos (by rw [l57]; omega), q_in (by omega) (by omega), lt_k, lt_k, nI_s48 g2, q_add1]
    · intro g
      by_cases g2 : c p < 48
      · rw [if_pos (l48.mpr g2)]
      · rw [if_neg (by rw [l48]; omega), q_in (by omega) (by omega), if_neg (by rw [l57]; omega)]
  · refine ⟨fun g => absurd g.1 g1, fun _ => ?_⟩
    rw [if_pos (by rw [nI_leI (by omega) (by omega)]; omega)]
theorem x5_kd {c : Nat → Nat} {n p : Nat} {μ : Mem} (h : XSt c n p μ) :
    (∀ k, s_kd c n p = some k → f_X5_takeKind μ = some (nI k, st μ 88 3 (nI (p + 1)))) ∧ (s_kd c n p = none → f_X5_takeKind μ = some (-1, μ)) := by
  have t0 := x5_take h (a := 112) (by omega)
  have t1 := x5_take h (a := 116) (by omega)
  have t2 := x5_take h (a := 115) (by omega)
  have t3 := x5_take h (a := 120) (by omega)
  unfold s_kd f_X5_takeKind
  by_cases g0 : p < n ∧ c p = 112
  · rw [if_pos g0, show f_X5_take 112 μ = _ from t0.1 g0, bnd_s, if_neg (by decide)]
    exact ⟨fun k e => by cases e; rfl, fun e => by cases e⟩
  · rw [if_neg g0, show f_X5_take 112 μ = _ from t0.2 g0, bnd_s, if_pos rfl]
    by_cases g1 : p < n ∧ c p = 116
    · rw [if_pos g1, show f_X5_take 116 μ = _ from t1.1 g1, bnd_s, if_neg (by decide)]
      exact ⟨fun k e => by cases e; rfl, fun e => by cases e⟩
    · rw [if_neg g1, show f_X5_take 116 μ = _ from t1.2 g1, bnd_s, if_pos rfl]
      by_cases g2 : p < n ∧ c p = 115
      · rw [if_pos g2, show f_X5_take 115 μ = _ from t2.1 g2, bnd_s, if_neg (by decide)]
        exact ⟨fun k e => by cases e; rfl, fun e => by cases e⟩
      · rw [if_neg g2, show f_X5_take 115 μ = _ from t2.2 g2, bnd_s, if_pos rfl]
        by_cases g3 : p < n ∧ c p = 120
        · rw [if_pos g3, show f_X5_take 120 μ = _ from t3.1 g3, bnd_s, if_neg (by decide)]
          exact ⟨fun k e => by cases e; rfl, fun e => by cases e⟩
        · rw [if_neg g3, show f_X5_take 120 μ = _ from t3.2 g3, bnd_s, if_pos rfl]
          exact ⟨fun k e => (by cases e), fun _ => rfl⟩
theorem x5_num {c : Nat → Nat} {n p : Nat} {μ : Mem} (h : XSt c n p μ) :
    (∀ v q, s_nm c n p = some (v, q) → ∃ μ', f_X5_takeNumber μ = some (nI v, μ') ∧ XSt c n q μ' ∧ fr A3 μ μ') ∧ (s_nm c n p = none → f_X5_takeNumber μ = some (-1, μ)) := by
  have d0 := x5_dig h
  unfold s_nm f_X5_takeNumber
  by_cases g : p < n ∧ 48 ≤ c p ∧ c p ≤ 57
  · have hm := XS_mv h (p + 1) (by omega)
    have d1 := x5_dig hm
    have f1 : fr A3 μ (st μ 88 3 (nI (p + 1))) := fr_st ⟨rfl, rfl⟩
    rw [if_pos g, d0.1 g, bnd_s, if_pos (nI_pos' (by omega))]
    by_cases g2 : p + 1 < n ∧ 48 ≤ c (p + 1) ∧ c (p + 1) ≤ 57
    · rw [if_pos g2, d1.1 g2, bnd_s, if_pos (nI_pos' (by omega))]
      refine ⟨fun v q e => ?_, fun e => (by cases e)⟩
      cases e
      exact ⟨_, by rw [q_lmul10, nI_add], XS_mv hm (p + 2) (by omega), fr_st' f1 ⟨rfl, rfl⟩⟩
    · rw [if_neg g2, d1.2 g2, bnd_s, if_neg (by decide)]
      refine ⟨fun v q e => ?_, fun e => (by cases e)⟩
      cases e
      exact ⟨_, rfl, hm, f1⟩
  · rw [if_neg g, d0.2 g, bnd_s, if_neg (by decide)]
    exact ⟨fun v q e => (by cases e), fun _ => rfl⟩
def RW (k : Nat) : Nat → Nat → Prop := fun c j => (c = 88 ∧ j = 3) ∨ (90 ≤ c ∧ c ≤ 94 ∧ j = k)
def x_row (k : Nat) (x : CLa) (μ : Mem) : Prop := μ.1 90 k = nI x.1 ∧ μ.1 91 k = nI x.2.1 ∧ μ.1 92 k = nI x.2.2.1 ∧ (x.1 = 114 → μ.1 93 k = nI x.2.2.2.1 ∧ μ.1 94 k = nI x.2.2.2.2)
/-- what taking a clause gives -/
def x_cl (c : Nat → Nat) (n k : Nat) (r : SR) (z : Option (Int32 × Mem)) (μ : Mem) : Prop := match r with
  | .inl q => ∃ μ', z = some (0, μ') ∧ XSt c n q μ' ∧ fr (RW k) μ μ'
  | .inr (q, x) => ∃ μ', z = some (1, μ') ∧ XSt c n q μ' ∧ fr (RW k) μ μ' ∧ x_row k x μ'
theorem RW3 {k : Nat} : ∀ c j, A3 c j → RW k c j := fun c j h => Or.inl h
theorem x5_site {c : Nat → Nat} {n p k L : Nat} {μ : Mem} (h : XSt c n p μ) (hk : k < 12) (hL : L = 113 ∨ L = 119) (h90 : μ.1 90 k = nI L) : x_cl c n k (s_st c n L p) (f_X5_takeSite (nI k) μ) μ := by
  have d0 := x5_num h
  unfold s_st f_X5_takeSite
  cases e : s_nm c n p with
  | none =>
    rw [d0.2 e, bnd_s]
    refine ⟨st μ 91 k (-1), ?_, XS_fr h (fr_st (A := fun c j => c = 91) rfl) (fun c j q => by omega), fr_st (by unfold RW; omega)⟩
    rw [q_in hk (by omega), lt_k, q_in hk (by omega), nI_c (by omega), q_self, if_pos (by decide)]
  | some x =>
    obtain ⟨v, q⟩ := x
    obtain ⟨v99, qn, -⟩ := s_nm_ok e
    obtain ⟨m1, e1, h1, f1⟩ := d0.1 v q e
    rw [e1, bnd_s, q_in hk (by omega), lt_k, q_in hk (by omega), nI_c (by omega), q_self, if_neg (nI_pos (by omega))]
    generalize em : st m1 91 k (nI v) = m2
    have h2 : XSt c n q m2 := by rw [← em]; exact XS_fr h1 (fr_st (A := fun c j => c = 91) rfl) (fun c j q => by omega)
    have f2 : fr (RW k) μ m2 := by rw [← em]; exact fr_st' (fr_mono f1 RW3) (by unfold RW; omega)
    have r91 : m2.1 91 k = nI v := by rw [← em]; exact q_self _ _ _ _
    have r90 : m2.1 90 k = nI L := by rw [← em, q_off _ _ _ (by omega), f1.2 _ _ (by unfold A3; omega)]; exact h90
    have t := x5_take h2 (a := 44) (by omega)
    show x_cl c n k (if q < n ∧ c q = 44 then _ else _) _ μ
    by_cases g : q < n ∧ c q = 44
    · rw [if_pos g, show f_X5_take 44 m2 = _ from t.1 g, bnd_s, if_neg (show ¬ (1 : Int32) = 0 by decide)]
      have h3 := XS_mv h2 (q + 1) (by omega)
      have d3 := x5_dig h3
      by_cases g2 : q + 1 < n ∧ 48 ≤ c (q + 1) ∧ c (q + 1) ≤ 57
      · rw [if_pos g2, d3.1 g2, bnd_s, q_in hk (by omega), lt_k, q_in hk (by omega), q_self, if_neg (nI_pos (by omega))]
        have h4 := XS_mv h3 (q + 2) (by omega)
        refine ⟨_, rfl, XS_fr h4 (fr_st (A := fun c j => c = 92) rfl) (fun c j q => by omega), fr_st' (fr_st' (fr_st' f2 (by unfold RW; omega)) (by unfold RW; omega)) (by unfold RW; omega), ?_, ?_, ?_, ?_⟩
        · rw [q_off _ _ _ (by omega), q_off _ _ _ (by omega), q_off _ _ _ (by omega)]; exact r90
        · rw [q_off _ _ _ (by omega), q_off _ _ _ (by omega), q_off _ _ _ (by omega)]; exact r91
        · exact q_self _ _ _ _
        · intro w
          change L = 114 at w
          omega
      · rw [if_neg g2, d3.2 g2, bnd_s, q_in hk (by omega), lt_k, q_in hk (by omega), q_self, if_pos (by decide)]
        exact ⟨_, rfl, XS_fr h3 (fr_st (A := fun c j => c = 92) rfl) (fun c j q => by omega), fr_st' (fr_st' f2 (by unfold RW; omega)) (by unfold RW; omega)⟩
    · rw [if_neg g, show f_X5_take 44 m2 = _ from t.2 g, bnd_s, if_pos rfl]
      exact ⟨_, rfl, h2, f2⟩
theorem x5_road {c : Nat → Nat} {n p k : Nat} {μ : Mem} (h : XSt c n p μ) (hk : k < 12) (h90 : μ.1 90 k = nI 114) : x_cl c n k (s_rd c n p) (f_X5_takeRoad (nI k) μ) μ := by
  have d0 := x5_dig h
  have lm : ¬ (0 : Int32) ≤ -1 := by decide
  unfold s_rd f_X5_takeRoad
  by_cases g1 : p < n ∧ 48 ≤ c p ∧ c p ≤ 57
  · rw [if_pos g1, d0.1 g1, bnd_s, q_in hk (by omega), lt_k, q_in hk (by omega), nI_c (by omega), q_self, if_pos (nI_pos' (by omega))]
    generalize em1 : st (st μ 88 3 (nI (p + 1))) 91 k (nI (c p - 48)) = m1
    have h1 : XSt c n (p + 1) m1 := by rw [← em1]; exact XS_fr (XS_mv h (p + 1) (by omega)) (fr_st (A := fun c j => c = 91) rfl) (fun c j q => by omega)
    have f1 : fr (RW k) μ m1 := by rw [← em1]; exact fr_st' (fr_st (by unfold RW; omega)) (by unfold RW; omega)
    have r91 : m1.1 91 k = nI (c p - 48) := by rw [← em1]; exact q_self _ _ _ _
    have r90 : m1.1 90 k = nI 114 := by rw [← em1, q_off _ _ _ (by omega), q_off _ _ _ (by omega)]; exact h90
    have d1 := x5_dig h1
    by_cases g2 : p + 1 < n ∧ 48 ≤ c (p + 1) ∧ c (p + 1) ≤ 57
    · rw [if_pos g2, d1.1 g2, bnd_s, q_in hk (by omega), lt_k, q_in hk (by omega), q_self, if_pos (nI_pos' (by omega))]
      generalize em2 : st (st m1 88 3 (nI (p + 1 + 1))) 92 k (nI (c (p + 1) - 48)) = m2
      have h2 : XSt c n (p + 2) m2 := by rw [← em2]; exact XS_fr (XS_mv h1 (p + 2) (by omega)) (fr_st (A := fun c j => c = 92) rfl) (fun c j q => by omega)
      have f2 : fr (RW k) μ m2 := by rw [← em2]; exact fr_st' (fr_st' f1 (by unfold RW; omega)) (by unfold RW; omega)
      have s92 : m2.1 92 k = nI (c (p + 1) - 48) := by rw [← em2]; exact q_self _ _ _ _
      have s91 : m2.1 91 k = nI (c p - 48) := by rw [← em2, q_off _ _ _ (by omega), q_off _ _ _ (by omega)]; exact r91
      have s90 : m2.1 90 k = nI 114 := by rw [← em2, q_off _ _ _ (by omega), q_off _ _ _ (by omega)]; exact r90
      have d2 := x5_kd h2
      cases e : s_kd c n (p + 2) with
      | none =>
        rw [d2.2 e, bnd_s, q_in hk (by omega), lt_k, q_in hk (by omega), q_self, if_neg lm]
        exact ⟨_, rfl, XS_fr h2 (fr_st (A := fun c j => c = 93) rfl) (fun c j q => by omega), fr_st' f2 (by unfold RW; omega)⟩
      | some kd =>
        have hkd := s_kd_ok e
        rw [d2.1 kd e, bnd_s, q_in hk (by omega), lt_k, q_in hk (by omega), q_self, if_pos (nI_pos' (by omega))]
        generalize em3 : st (st m2 88 3 (nI (p + 2 + 1))) 93 k (nI kd) = m3
        have h3 : XSt c n (p + 3) m3 := by rw [← em3]; exact XS_fr (XS_mv h2 (p + 3) (by omega)) (fr_st (A := fun c j => c = 93) rfl) (fun c j q => by omega)
        have f3 : fr (RW k) μ m3 := by rw [← em3]; exact fr_st' (fr_st' f2 (by unfold RW; omega)) (by unfold RW; omega)
        have t93 : m3.1 93 k = nI kd := by rw [← em3]; exact q_self _ _ _ _
        have t92 : m3.1 92 k = nI (c (p + 1) - 48) := by rw [← em3, q_off _ _ _ (by omega), q_off _ _ _ (by omega)]; exact s92
        have t91 : m3.1 91 k = nI (c p - 48) := by rw [← em3, q_off _ _ _ (by omega), q_off _ _ _ (by omega)]; exact s91
        have t90 : m3.1 90 k = nI 114 := by rw [← em3, q_off _ _ _ (by omega), q_off _ _ _ (by omega)]; exact s90
        have d3 := x5_num h3
        show x_cl c n k (match s_nm c n (p + 3) with | none => .inl (p + 3) | some (v, q) => .inr (q, 114, c p - 48, c (p + 1) - 48, kd, v)) _ μ
        cases e2 : s_nm c n (p + 3) with
        | none =>
          rw [d3.2 e2, bnd_s, q_in hk (by omega), lt_k, q_in hk (by omega), q_self, if_pos (by decide)]
          exact ⟨_, rfl, XS_fr h3 (fr_st (A := fun c j => c = 94) rfl) (fun c j q => by omega), fr_st' f3 (by unfold RW; omega)⟩
        | some x =>
          obtain ⟨v, q⟩ := x
          obtain ⟨v99, qn, -⟩ := s_nm_ok e2
          obtain ⟨m4, e4, h4, f4⟩ := d3.1 v q e2
          rw [e4, bnd_s, q_in hk (by omega), lt_k, q_in hk (by omega), q_self, if_neg (nI_pos (by omega))]
          refine ⟨_, rfl, XS_fr h4 (fr_st (A := fun c j => c = 94) rfl) (fun c j q => by omega), fr_st' (fr_then f3 (fr_mono f4 RW3)) (by unfold RW; omega), ?_, ?_, ?_, fun _ => ⟨?_, ?_⟩⟩
          · rw [q_off _ _ _ (by omega), f4.2 _ _ (by unfold A3; omega)]; exact t90
          · rw [q_off _ _ _ (by omega), f4.2 _ _ (by unfold A3; omega)]; exact t91
          · rw [q_off _ _ _ (by omega), f4.2 _ _ (by unfold A3; omega)]; exact t92
          · rw [q_off _ _ _ (by omega), f4.2 _ _ (by unfold A3; omega)]; exact t93
          · exact q_self _ _ _ _
    · rw [if_neg g2, d1.2 g2, bnd_s, q_in hk (by omega), lt_k, q_in hk (by omega), q_self, if_neg lm]
      exact ⟨_, rfl, XS_fr h1 (fr_st (A := fun c j => c = 92) rfl) (fun c j q => by omega), fr_st' f1 (by unfold RW; omega)⟩
  · rw [if_neg g1, d0.2 g1, bnd_s, q_in hk (by omega), lt_k, q_in hk (by omega), nI_c (by omega), q_self, if_neg lm]
    exact ⟨_, rfl, XS_fr h (fr_st (A := fun c j => c = 91) rfl) (fun c j q => by omega), fr_st (by unfold RW; omega)⟩
