/-! THE CALLS: read: the model goes through a text */ -/
def R4 : Nat → Nat → Prop := fun c j => c = 122 ∧ (j = 31 ∨ j = 32 ∨ j = 33 ∨ j = 34)
theorem RM4 : ∀ c j, RM c j → R4 c j := fun c j h => by unfold RM at h; unfold R4; omega
/-- what a clause gives when it is only looked at (fl false), or done -/
def m_cl (c : Nat → Nat) (n : Nat) (fl : Bool) (D : TD) (r : SR) (z : Option Mem) (μ : Mem) (w d : Nat) : Prop := match r with
  | .inl q => fl = false → ∃ μ', z = some μ' ∧ MTx c n q true μ' ∧ fr R4 μ μ'
  | .inr (q, x) => ∃ μ', z = some μ' ∧ MTx c n q false μ' ∧ μ'.1 122 33 = nI (w + 1) ∧ (fl = false → fr R4 μ μ' ∧ μ'.1 122 34 = nI (d + 1)) ∧ (fl = true → fr (fun c j => R4 c j ∨ GM c j) μ μ' ∧ MD (cl_act D x).2 μ' ∧ μ'.1 122 34 = nI (d + if (cl_act D x).1 < 0 then 0 else 1))
theorem m9_end {c : Nat → Nat} {n q w d : Nat} {μ : Mem} (h : MTx c n q false μ) (h33 : μ.1 122 33 = nI w) (h34 : μ.1 122 34 = nI d) (r : Int32) (x1 : Int32) : ∃ μ', f_X9_clause_165 x1 r μ = some μ' ∧ MTx c n q false μ' ∧ fr R4 μ μ' ∧ fr (fun c j => c = 122 ∧ (j = 33 ∨ j = 34)) μ μ' ∧ μ'.1 122 33 = nI (w + 1) ∧ μ'.1 122 34 = nI (d + if r < 0 then 0 else 1) := by
  have e32 : μ.1 122 32 = 0 := h.2.2.2.2.2
  have go : ∀ k : Nat, fr R4 μ (st (st μ 122 33 (nI (w + 1))) 122 34 (nI (d + k))) ∧ fr (fun c j => c = 122 ∧ (j = 33 ∨ j = 34)) μ (st (st μ 122 33 (nI (w + 1))) 122 34 (nI (d + k))) := fun k =>
    ⟨fr_st' (fr_st (by unfold R4; omega)) (by unfold R4; omega), fr_st' (fr_st (by omega)) (by omega)⟩
  by_cases g : r < 0
  · refine ⟨_, ?_, MS_fr h (go 0).2 (fun k j q => by omega), (go 0).1, (go 0).2, by rw [q_oth _ _ _ (by omega), q_self], by rw [if_pos g, q_self]⟩
    unfold f_X9_clause_165 f_X9_clause_182
    rw [if_pos e32, h33, lt_k, q_add1, if_pos g, lt_k, q_oth _ _ _ (by omega), h34]
    rw [Int32.add_zero]
    rfl
  · refine ⟨_, ?_, MS_fr h (go 1).2 (fun k j q => by omega), (go 1).1, (go 1).2, by rw [q_oth _ _ _ (by omega), q_self], by rw [if_neg g, q_self]⟩
    unfold f_X9_clause_165 f_X9_clause_182
    rw [if_pos e32, h33, lt_k, q_add1, if_neg g, lt_k, q_oth _ _ _ (by omega), h34, q_add1]
/-- the end of a clause with a fault: the fault stays -/
theorem m9_bad {c : Nat → Nat} {n q : Nat} {μ : Mem} (h : MTx c n q true μ) (r : Int32) (x1 : Int32) : ∃ μ', f_X9_clause_165 x1 r μ = some μ' ∧ MTx c n q true μ' ∧ fr R4 μ μ' := by
  have e32 : ¬ μ.1 122 32 = 0 := by rw [h.2.2.2.2.2]; decide
  have go : ∀ x y : Int32, fr R4 μ (st (st μ 122 33 x) 122 34 y) ∧ fr (fun c j => c = 122 ∧ (j = 33 ∨ j = 34)) μ (st (st μ 122 33 x) 122 34 y) := fun x y =>
    ⟨fr_st' (fr_st (by unfold R4; omega)) (by unfold R4; omega), fr_st' (fr_st (by omega)) (by omega)⟩
  by_cases g : r < 0
  · refine ⟨_, ?_, MS_fr h (go (μ.1 122 33 + 0) ((st μ 122 33 (μ.1 122 33 + 0)).1 122 34 + 0)).2 (fun k j q => by omega), (go (μ.1 122 33 + 0) ((st μ 122 33 (μ.1 122 33 + 0)).1 122 34 + 0)).1⟩
    unfold f_X9_clause_165 f_X9_clause_182
    rw [if_neg e32, lt_k, if_pos g, lt_k]
  · refine ⟨_, ?_, MS_fr h (go (μ.1 122 33 + 0) ((st μ 122 33 (μ.1 122 33 + 0)).1 122 34 + 1)).2 (fun k j q => by omega), (go (μ.1 122 33 + 0) ((st μ 122 33 (μ.1 122 33 + 0)).1 122 34 + 1)).1⟩
    unfold f_X9_clause_165 f_X9_clause_182
    rw [if_neg e32, lt_k, if_neg g, lt_k]
/-- a site taken -/
def m_st (c : Nat → Nat) (n : Nat) (r : SR) (μ m : Mem) (a b : Int32) : Prop := fr RM μ m ∧ match r with
  | .inl q => MTx c n q true m
  | .inr (q, x) => MTx c n q false m ∧ a = nI x.2.1 ∧ b = nI x.2.2.1
theorem s_st_none {c : Nat → Nat} {n L p : Nat} (e : s_nm c n p = none) : s_st c n L p = .inl p := by
  unfold s_st
  simp only [e]
theorem s_st_some {c : Nat → Nat} {n L p v q : Nat} (e : s_nm c n p = some (v, q)) : s_st c n L p = if q < n ∧ c q = 44 then (if q + 1 < n ∧ 48 ≤ c (q + 1) ∧ c (q + 1) ≤ 57 then .inr (q + 2, L, v, c (q + 1) - 48, 0, 0) else .inl (q + 1)) else .inl q := by
  unfold s_st
  simp only [e]
theorem m9_site {c : Nat → Nat} {n p L : Nat} {μ : Mem} (h : MTx c n p false μ) : ∃ a m1 y m2 b m3, f_X9_takesNumber μ = some (a, m1) ∧ f_X9_takes 44 44 m1 = some (y, m2) ∧ f_X9_takes 48 57 m2 = some (b, m3) ∧ m_st c n (s_st c n L p) μ m3 a b := by
  have d0 := m9_nm h
  cases e : s_nm c n p with
  | none =>
    obtain ⟨m1, e1, h1, f1⟩ := d0.2 (Or.inr e)
    rw [s_st_none e]
    obtain ⟨m2, e2, h2, f2⟩ := m9_f (lo := 44) (hi := 44) h1 (by omega) (by omega) (Or.inl rfl)
    obtain ⟨m3, e3, h3, f3⟩ := m9_f (lo := 48) (hi := 57) h2 (by omega) (by omega) (Or.inl rfl)
    exact ⟨_, m1, _, m2, _, m3, e1, e2, e3, fr_then (fr_then f1 f2) f3, h3⟩
  | some x =>
    obtain ⟨v, q⟩ := x
    obtain ⟨m1, e1, h1, f1⟩ := d0.1 rfl v q e
    rw [s_st_some e]
    by_cases g : q < n ∧ c q = 44
    · obtain ⟨m2, e2, h2, f2⟩ := m9_t (lo := 44) (hi := 44) h1 (by omega) (by omega) (by omega)
      by_cases g2 : q + 1 < n ∧ 48 ≤ c (q + 1) ∧ c (q + 1) ≤ 57
      · obtain ⟨m3, e3, h3, f3⟩ := m9_t (lo := 48) (hi := 57) h2 (by omega) (by omega) g2
        rw [if_pos g, if_pos g2]
        exact ⟨_, m1, _, m2, _, m3, e1, e2, e3, fr_then (fr_then f1 f2) f3, ⟨h3, rfl, rfl⟩⟩
      · obtain ⟨m3, e3, h3, f3⟩ := m9_f (lo := 48) (hi := 57) h2 (by omega) (by omega) (Or.inr g2)
        rw [if_pos g, if_neg g2]
        exact ⟨_, m1, _, m2, _, m3, e1, e2, e3, fr_then (fr_then f1 f2) f3, h3⟩
    · obtain ⟨m2, e2, h2, f2⟩ := m9_f (lo := 44) (hi := 44) h1 (by omega) (by omega) (Or.inr (by omega))
      obtain ⟨m3, e3, h3, f3⟩ := m9_f (lo := 48) (hi := 57) h2 (by omega) (by omega) (Or.inl rfl)
      rw [if_neg g]
      exact ⟨_, m1, _, m2, _, m3, e1, e2, e3, fr_then (fr_then f1 f2) f3, h3⟩
/-- a road taken: what stands before the base -/
theorem m9_road {c : Nat → Nat} {n p : Nat} {μ : Mem} (h : MTx c n p false μ) : ∃ a m1 b m2 kd m3 v m4, f_X9_takes 48 57 μ = some (a, m1) ∧ f_X9_takes 48 57 m1 = some (b, m2) ∧ ((m2.1 122 32 = 0 ∧ f_X9_takesKind m2 = some (kd, m3)) ∨ (¬ m2.1 122 32 = 0 ∧ kd = 0 ∧ m3 = m2)) ∧ f_X9_takesNumber m3 = some (v, m4) ∧ fr RM μ m4 ∧ (match s_rd c n p with
    | .inl q => MTx c n q true m4
    | .inr (q, x) => MTx c n q false m4 ∧ x.1 = 114 ∧ a = nI x.2.1 ∧ b = nI x.2.2.1 ∧ kd = nI x.2.2.2.1 ∧ v = nI x.2.2.2.2) := by
  unfold s_rd
  by_cases g1 : p < n ∧ 48 ≤ c p ∧ c p ≤ 57
  · obtain ⟨m1, e1, h1, f1⟩ := m9_t (lo := 48) (hi := 57) h (by omega) (by omega) g1
    by_cases g2 : p + 1 < n ∧ 48 ≤ c (p + 1) ∧ c (p + 1) ≤ 57
    · obtain ⟨m2, e2, h2, f2⟩ := m9_t (lo := 48) (hi := 57) h1 (by omega) (by omega) g2
      have z2 : m2.1 122 32 = 0 := h2.2.2.2.2.2
      have d2 := m9_kd h2
      rw [if_pos g1, if_pos g2]
      cases e : s_kd c n (p + 2) with
      | none =>
        obtain ⟨m3, e3, h3, f3⟩ := d2.2 e
        obtain ⟨m4, e4, h4, f4⟩ := (m9_nm h3).2 (Or.inl rfl)
        exact ⟨_, m1, _, m2, _, m3, _, m4, e1, e2, Or.inl ⟨z2, e3⟩, e4, fr_then (fr_then (fr_then f1 f2) f3) f4, h4⟩
      | some k =>
        obtain ⟨m3, e3, h3, f3⟩ := d2.1 k e
        have d3 := m9_nm h3
        cases e' : s_nm c n (p + 3) with
        | none =>
          obtain ⟨m4, e4, h4, f4⟩ := d3.2 (Or.inr e')
          exact ⟨_, m1, _, m2, _, m3, _, m4, e1, e2, Or.inl ⟨z2, e3⟩, e4, fr_then (fr_then (fr_then f1 f2) f3) f4, h4⟩
        | some y =>
          obtain ⟨v, q⟩ := y
          obtain ⟨m4, e4, h4, f4⟩ := d3.1 rfl v q e'
          exact ⟨_, m1, _, m2, _, m3, _, m4, e1, e2, Or.inl ⟨z2, e3⟩, e4, fr_then (fr_then (fr_then f1 f2) f3) f4, ⟨h4, rfl, rfl, rfl, rfl, rfl⟩⟩
    · obtain ⟨m2, e2, h2, f2⟩ := m9_f (lo := 48) (hi := 57) h1 (by omega) (by omega) (Or.inr g2)
      have z2 : ¬ m2.1 122 32 = 0 := by rw [h2.2.2.2.2.2]; decide
      obtain ⟨m4, e4, h4, f4⟩ := (m9_nm h2).2 (Or.inl rfl)
      rw [if_pos g1, if_neg g2]
      exact ⟨_, m1, _, m2, 0, m2, _, m4, e1, e2, Or.inr ⟨z2, rfl, rfl⟩, e4, fr_then (fr_then f1 f2) f4, h4⟩
  · obtain ⟨m1, e1, h1, f1⟩ := m9_f (lo := 48) (hi := 57) h (by omega) (by omega) (Or.inr g1)
    obtain ⟨m2, e2, h2, f2⟩ := m9_f (lo := 48) (hi := 57) h1 (by omega) (by omega) (Or.inl rfl)
    have z2 : ¬ m2.1 122 32 = 0 := by rw [h2.2.2.2.2.2]; decide
    obtain ⟨m4, e4, h4, f4⟩ := (m9_nm h2).2 (Or.inl rfl)
    rw [if_neg g1]
    exact ⟨_, m1, _, m2, 0, m2, _, m4, e1, e2, Or.inr ⟨z2, rfl, rfl⟩, e4, fr_then (fr_then f1 f2) f4, h4⟩
