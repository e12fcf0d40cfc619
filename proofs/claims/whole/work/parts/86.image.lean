/-! THE CALLS: image, undo */ -/
/-- where a place of the model's state lies in the image -/
def IMR (c j p : Nat) : Prop := (c = 122 ∧ ((j ≤ 1 ∧ p = j) ∨ (6 ≤ j ∧ j ≤ 9 ∧ p = j - 4) ∨ (20 ≤ j ∧ j ≤ 22 ∧ p = j - 14))) ∨ (c = 123 ∧ j < 10 ∧ p = 9 + j) ∨ (c = 124 ∧ j < 10 ∧ p = 19 + j) ∨ (c = 125 ∧ j < 25 ∧ p = 29 + j) ∨ (c = 126 ∧ j < 25 ∧ p = 54 + j) ∨ (c = 127 ∧ j < 36 ∧ p = 79 + j) ∨ (c = 128 ∧ j < 36 ∧ p = 115 + j) ∨ (c = 129 ∧ j < 36 ∧ p = 151 + j) ∨ (c = 130 ∧ j < 300 ∧ p = 187 + j) ∨ (c = 131 ∧ j < 5 ∧ p = 487 + j) ∨ (c = 132 ∧ j < 5 ∧ p = 492 + j) ∨ (c = 133 ∧ j < 8 ∧ p = 497 + j) ∨ (c = 134 ∧ j < 8 ∧ p = 505 + j) ∨ (c = 135 ∧ j < 8 ∧ p = 513 + j) ∨ (c = 136 ∧ j < 8 ∧ p = 521 + j)
theorem IMR_123 {j p : Nat} (h : j < 10) (e : p = 9 + j) : IMR 123 j p := Or.inr (Or.inl ⟨rfl, h, e⟩)
theorem IMR_124 {j p : Nat} (h : j < 10) (e : p = 19 + j) : IMR 124 j p := Or.inr (Or.inr (Or.inl ⟨rfl, h, e⟩))
theorem IMR_125 {j p : Nat} (h : j < 25) (e : p = 29 + j) : IMR 125 j p := Or.inr (Or.inr (Or.inr (Or.inl ⟨rfl, h, e⟩)))
theorem IMR_126 {j p : Nat} (h : j < 25) (e : p = 54 + j) : IMR 126 j p := Or.inr (Or.inr (Or.inr (Or.inr (Or.inl ⟨rfl, h, e⟩))))
theorem IMR_127 {j p : Nat} (h : j < 36) (e : p = 79 + j) : IMR 127 j p := Or.inr (Or.inr (Or.inr (Or.inr (Or.inr (Or.inl ⟨rfl, h, e⟩)))))
theorem IMR_128 {j p : Nat} (h : j < 36) (e : p = 115 + j) : IMR 128 j p := Or.inr (Or.inr (Or.inr (Or.inr (Or.inr (Or.inr (Or.inl ⟨rfl, h, e⟩))))))
theorem IMR_129 {j p : Nat} (h : j < 36) (e : p = 151 + j) : IMR 129 j p := Or.inr (Or.inr (Or.inr (Or.inr (Or.inr (Or.inr (Or.inr (Or.inl ⟨rfl, h, e⟩)))))))
theorem IMR_130 {j p : Nat} (h : j < 300) (e : p = 187 + j) : IMR 130 j p := Or.inr (Or.inr (Or.inr (Or.inr (Or.inr (Or.inr (Or.inr (Or.inr (Or.inl ⟨rfl, h, e⟩))))))))
theorem IMR_131 {j p : Nat} (h : j < 5) (e : p = 487 + j) : IMR 131 j p := Or.inr (Or.inr (Or.inr (Or.inr (Or.inr (Or.inr (Or.inr (Or.inr (Or.inr (Or.inl ⟨rfl, h, e⟩)))))))))
theorem IMR_132 {j p : Nat} (h : j < 5) (e : p = 492 + j) : IMR 132 j p := Or.inr (Or.inr (Or.inr (Or.inr (Or.inr (Or.inr (Or.inr (Or.inr (Or.inr (Or.inr (Or.inl ⟨rfl, h, e⟩))))))))))
theorem IMR_133 {j p : Nat} (h : j < 8) (e : p = 497 + j) : IMR 133 j p := Or.inr (Or.inr (Or.inr (Or.inr (Or.inr (Or.inr (Or.inr (Or.inr (Or.inr (Or.inr (Or.inr (Or.inl ⟨rfl, h, e⟩)))))))))))
theorem IMR_134 {j p : Nat} (h : j < 8) (e : p = 505 + j) : IMR 134 j p := Or.inr (Or.inr (Or.inr (Or.inr (Or.inr (Or.inr (Or.inr (Or.inr (Or.inr (Or.inr (Or.inr (Or.inr (Or.inl ⟨rfl, h, e⟩))))))))))))
theorem IMR_135 {j p : Nat} (h : j < 8) (e : p = 513 + j) : IMR 135 j p := Or.inr (Or.inr (Or.inr (Or.inr (Or.inr (Or.inr (Or.inr (Or.inr (Or.inr (Or.inr (Or.inr (Or.inr (Or.inr (Or.inl ⟨rfl, h, e⟩)))))))))))))
theorem IMR_136 {j p : Nat} (h : j < 8) (e : p = 521 + j) : IMR 136 j p := Or.inr (Or.inr (Or.inr (Or.inr (Or.inr (Or.inr (Or.inr (Or.inr (Or.inr (Or.inr (Or.inr (Or.inr (Or.inr (Or.inr (⟨rfl, h, e⟩))))))))))))))
theorem IMR_122 {j p : Nat} (e : (j ≤ 1 ∧ p = j) ∨ (6 ≤ j ∧ j ≤ 9 ∧ p = j - 4) ∨ (20 ≤ j ∧ j ≤ 22 ∧ p = j - 14)) : IMR 122 j p := Or.inl ⟨rfl, e⟩
theorem IMR_cell {c j p : Nat} (h : IMR c j p) : (c = 122 ∧ (j ≤ 1 ∨ (6 ≤ j ∧ j ≤ 9) ∨ (20 ≤ j ∧ j ≤ 22))) ∨ (123 ≤ c ∧ c ≤ 136) := by unfold IMR at h; omega
theorem IMR_p {c j p : Nat} (h : IMR c j p) : p < 529 := by unfold IMR at h; omega
theorem IMR_inj {c j c' j' p : Nat} (h : IMR c j p) (h' : IMR c' j' p) : c = c' ∧ j = j' := by
  unfold IMR at h h'
  rcases h with ⟨a, h⟩ | h | h | h | h | h | h | h | h | h | h | h | h | h | h <;> omega
theorem unp_at {μ : Mem} {c j p : Nat} (h : IMR c j p) : (unp μ).1 c j = μ.1 138 p := by
  unfold unp
  unfold IMR at h
  rcases h with ⟨rfl, ⟨a, rfl⟩ | ⟨a, b, rfl⟩ | ⟨a, b, rfl⟩⟩ | h | h | h | h | h | h | h | h | h | h | h | h | h | h
  · show (if _ then _ else _) = _
    rw [if_pos a]
  · show (if _ then _ else _) = _
    rw [if_neg (by omega), if_pos ⟨a, b⟩]
  · show (if _ then _ else _) = _
    rw [if_neg (by omega), if_neg (by omega), if_pos ⟨a, b⟩]
  all_goals (obtain ⟨rfl, a, rfl⟩ := h; rfl)
/-- the same state elsewhere -/
theorem MD_agr {D : TD} {μ μ' : Mem} (h : MD D μ) (hD : D_ok D) (e : ∀ c j p, IMR c j p → μ'.1 c j = μ.1 c j) : MD D μ' := by
  have e0 : ∀ j, (j ≤ 1 ∨ (6 ≤ j ∧ j ≤ 9) ∨ (20 ≤ j ∧ j ≤ 22)) → μ'.1 122 j = μ.1 122 j := fun j hj => e 122 j (if j ≤ 1 then j else if j ≤ 9 then j - 4 else j - 14) (by
    refine IMR_122 ?_
    by_cases a : j ≤ 1
    · rw [if_pos a]; omega
    · rw [if_neg a]
      by_cases b : j ≤ 9
      · rw [if_pos b]; omega
      · rw [if_neg b]; omega)
  have e1 : ∀ j, j < 10 → μ'.1 123 j = μ.1 123 j := fun j hj => e 123 j (9 + j) (IMR_123 hj rfl)
  have e2 : ∀ j, j < 10 → μ'.1 124 j = μ.1 124 j := fun j hj => e 124 j (19 + j) (IMR_124 hj rfl)
  have e3 : ∀ j, j < 25 → μ'.1 125 j = μ.1 125 j := fun j hj => e 125 j (29 + j) (IMR_125 hj rfl)
  have e4 : ∀ j, j < 25 → μ'.1 126 j = μ.1 126 j := fun j hj => e 126 j (54 + j) (IMR_126 hj rfl)
  have e5 : ∀ j, j < 36 → μ'.1 127 j = μ.1 127 j := fun j hj => e 127 j (79 + j) (IMR_127 hj rfl)
  have e6 : ∀ j, j < 36 → μ'.1 128 j = μ.1 128 j := fun j hj => e 128 j (115 + j) (IMR_128 hj rfl)
  have e7 : ∀ j, j < 36 → μ'.1 129 j = μ.1 129 j := fun j hj => e 129 j (151 + j) (IMR_129 hj rfl)
  have e8 : ∀ j, j < 300 → μ'.1 130 j = μ.1 130 j := fun j hj => e 130 j (187 + j) (IMR_130 hj rfl)
  have e9 : ∀ j, j < 5 → μ'.1 131 j = μ.1 131 j := fun j hj => e 131 j (487 + j) (IMR_131 hj rfl)
  have e10 : ∀ j, j < 5 → μ'.1 132 j = μ.1 132 j := fun j hj => e 132 j (492 + j) (IMR_132 hj rfl)
  have e11 : ∀ j, j < 8 → μ'.1 133 j = μ.1 133 j := fun j hj => e 133 j (497 + j) (IMR_133 hj rfl)
  have e12 : ∀ j, j < 8 → μ'.1 134 j = μ.1 134 j := fun j hj => e 134 j (505 + j) (IMR_134 hj rfl)
  have e13 : ∀ j, j < 8 → μ'.1 135 j = μ.1 135 j := fun j hj => e 135 j (513 + j) (IMR_135 hj rfl)
  have e14 : ∀ j, j < 8 → μ'.1 136 j = μ.1 136 j := fun j hj => e 136 j (521 + j) (IMR_136 hj rfl)
  obtain ⟨⟨h1, h2, h3, h4⟩, ⟨p1, p2⟩, ⟨r1, r2⟩, ⟨s1, s2⟩, ⟨t1, t2⟩⟩ := h
  have b5 := hD.2.2.2.1
  have b8 := hD.2.2.2.2.2.1
  have b9 := hD.2.2.2.2.2.2.2.1
  refine ⟨⟨by rw [e0 0 (by omega)]; exact h1, by rw [e0 1 (by omega)]; exact h2, fun i hi => by rw [e1 i hi, e2 i hi]; exact h3 i hi, fun i hi => by rw [e3 i hi, e4 i hi]; exact h4 i hi⟩, ⟨by rw [e0 6 (by omega)]; exact p1, fun hm => ?_⟩,
    ⟨by rw [e0 20 (by omega)]; exact r1, fun j hj => by rw [e9 j (by omega), e10 j (by omega)]; exact r2 j hj⟩, ⟨by rw [e0 21 (by omega)]; exact s1, fun j hj => by rw [e11 j (by omega), e12 j (by omega)]; exact s2 j hj⟩, ⟨by rw [e0 22 (by omega)]; exact t1, fun j hj => by rw [e13 j (by omega), e14 j (by omega)]; exact t2 j hj⟩⟩
  obtain ⟨q1, q2, q3, q4, q5, q6, q7⟩ := p2 hm
  have b100 : D.2.2.1.1 ≤ 100 := (hD.2.2.1 hm).2.2.2.2.2.2.2.2
  exact ⟨by rw [e0 7 (by omega)]; exact q1, by rw [e0 8 (by omega)]; exact q2, by rw [e0 9 (by omega)]; exact q3, fun c hc => by rw [e6 c hc]; exact q4 c hc, fun c hc => by rw [e7 c hc]; exact q5 c hc, fun c hc hp => by rw [e5 c hc]; exact q6 c hc hp,
    fun j hj => by rw [e8 _ (by omega), e8 _ (by omega), e8 _ (by omega)]; exact q7 j hj⟩
/-- a passing under way -/
def PV (kp : Bool) (ν : Mem) (c j p : Nat) : Int32 := if kp = true then ν.1 c j else ν.1 138 p
def PZ : Nat → Nat → Prop := fun c j => (c = 122 ∧ (j ≤ 1 ∨ (6 ≤ j ∧ j ≤ 9) ∨ (20 ≤ j ∧ j ≤ 22) ∨ j = 27 ∨ j = 28)) ∨ (123 ≤ c ∧ c ≤ 136) ∨ c = 138
def PS (kp : Bool) (p : Nat) (ν μ : Mem) : Prop := fr PZ ν μ ∧ μ.1 122 28 = b01 kp ∧ μ.1 122 27 = nI p ∧ (∀ c j q, IMR c j q → q < p → μ.1 c j = PV kp ν c j q ∧ μ.1 138 q = PV kp ν c j q) ∧ (∀ c j q, IMR c j q → p ≤ q → μ.1 c j = ν.1 c j) ∧ ∀ q, p ≤ q → μ.1 138 q = ν.1 138 q
theorem PS_step {kp : Bool} {c j p : Nat} {ν μ : Mem} (h : PS kp p ν μ) (hi : IMR c j p) : ∃ v μ1, f_X9_passes (μ.1 c j) μ = some (v, μ1) ∧ PS kp (p + 1) ν (st μ1 c j v) := by
  obtain ⟨h1, h2, h3, h4, h5, h6⟩ := h
  have hp := IMR_p hi
  have hc := IMR_cell hi
  have e1 : μ.1 c j = ν.1 c j := h5 c j p hi (by omega)
  have e2 : μ.1 138 p = ν.1 138 p := h6 p (by omega)
  refine ⟨PV kp ν c j p, st (st μ 138 p (PV kp ν c j p)) 122 27 (nI (p + 1)), ?_, ?_, ?_, ?_, ?_, ?_, ?_⟩
  · unfold f_X9_passes
    cases kp
    · rw [h2, if_pos b01_f, h3, q_in (by omega) (by omega), q_c (by omega)]
      unfold f_X9_passes_20
      rw [h3, q_in (by omega) (by omega), q_c (by omega), lt_k, lt_k, q_off _ _ _ (by omega), h3, q_add1, e2]
      rfl
    · rw [h2, if_neg (by decide)]
      unfold f_X9_passes_20
      rw [h3, q_in (by omega) (by omega), q_c (by omega), lt_k, lt_k, q_off _ _ _ (by omega), h3, q_add1, e1]
      rfl
  · exact fr_st' (fr_st' (fr_st' h1 (by unfold PZ; omega)) (by unfold PZ; omega)) (by unfold PZ; omega)
  · by_cases q : c = 122
    · subst q
      rw [q_at, if_neg (by omega), q_at, if_neg (by omega), q_off _ _ _ (by omega)]; exact h2
    · rw [q_off _ _ _ (by omega), q_at, if_neg (by omega), q_off _ _ _ (by omega)]; exact h2
  · by_cases q : c = 122
    · subst q
      rw [q_at, if_neg (by omega), q_self]
    · rw [q_off _ _ _ (by omega), q_self]
  · intro c' j' q hq hlt
    have hc' := IMR_cell hq
    by_cases z : q = p
    · subst z
      obtain ⟨rfl, rfl⟩ := IMR_inj hq hi
      refine ⟨by rw [q_self], ?_⟩
      rw [q_off _ _ _ (by omega), q_off _ _ _ (by omega), q_self]
    · have hne : ¬ (c' = c ∧ j' = j) := by
        rintro ⟨rfl, rfl⟩
        apply z
        unfold IMR at hq hi
        omega
      obtain ⟨a, b⟩ := h4 c' j' q hq (by omega)
      refine ⟨?_, ?_⟩
      · rw [← a]
        by_cases y : c' = c
        · subst y
          rw [q_at, if_neg (fun w => hne ⟨rfl, w⟩)]
          by_cases y2 : c' = 122
          · subst y2; rw [q_at, if_neg (by omega), q_off _ _ _ (by omega)]
          · rw [q_off _ _ _ (by omega), q_off _ _ _ (by omega)]
        · rw [q_off _ _ _ y]
          by_cases y2 : c' = 122
          · subst y2; rw [q_at, if_neg (by omega), q_off _ _ _ (by omega)]
          · rw [q_off _ _ _ (by omega), q_off _ _ _ (by omega)]
      · rw [← b, q_off _ _ _ (by omega), q_off _ _ _ (by omega), q_at, if_neg z]
  · intro c' j' q hq hle
    have hc' := IMR_cell hq
    have hne : ¬ (c' = c ∧ j' = j) := by
      rintro ⟨rfl, rfl⟩
      unfold IMR at hq hi
      omega
    rw [← h5 c' j' q hq (by omega)]
    by_cases y : c' = c
    · subst y
      rw [q_at, if_neg (fun w => hne ⟨rfl, w⟩)]
      by_cases y2 : c' = 122
      · subst y2; rw [q_at, if_neg (by omega), q_off _ _ _ (by omega)]
      · rw [q_off _ _ _ (by omega), q_off _ _ _ (by omega)]
    · rw [q_off _ _ _ y]
      by_cases y2 : c' = 122
      · subst y2; rw [q_at, if_neg (by omega), q_off _ _ _ (by omega)]
      · rw [q_off _ _ _ (by omega), q_off _ _ _ (by omega)]
  · intro q hq
    rw [← h6 q (by omega), q_off _ _ _ (by omega), q_off _ _ _ (by omega), q_at, if_neg (by omega)]
theorem PS_row {kp : Bool} {a n p : Nat} {ν μ : Mem} (h : PS kp p ν μ) (hi : ∀ i, i < n → IMR a i (p + i)) (hn : n < 1024) : ∃ μ', f_X9_passesRow a n μ = some μ' ∧ PS kp (p + n) ν μ' := by
  refine q_loop0 (fun k i m => f_X9_passesRow_2 a n k (nI i) m) n hn (fun i m => PS kp (p + i) ν m) (fun z => ∃ μ', z = some μ' ∧ PS kp (p + n) ν μ') ?_ ?_ μ h
  · intro k i m hlt hv
    right
    obtain ⟨v, m1, e1, s1⟩ := PS_step hv (hi i hlt)
    refine ⟨st m1 a i v, s1, ?_⟩
    show g_X9_passesRow_2 a n _ (nI i) m = _
    unfold g_X9_passesRow_2
    have lT : ¬ nI n ≤ nI i := fun q => by have := (nI_leI (by omega) (by omega)).mp q; omega
    rw [if_neg lT, q_in hlt (by omega), q_c (by omega), e1, bnd_s, q_in hlt (by omega), lt_k, lt_k, q_add1]
  · intro k m hv
    refine ⟨m, ?_, hv⟩
    show g_X9_passesRow_2 a n _ (nI n) m = _
    unfold g_X9_passesRow_2
    rw [if_pos (Int32.le_refl _)]
theorem x9_passesAll (kp : Bool) (ν : Mem) : ∃ μ', f_X9_passesAll (b01 kp) ν = some (μ'.1 122 0, μ') ∧ PS kp 529 ν μ' := by
  have s0 : PS kp 0 ν (st (st ν 122 28 (b01 kp)) 122 27 0) := by
    refine ⟨fr_st' (fr_st (by unfold PZ; omega)) (by unfold PZ; omega), by rw [q_at, if_neg (by omega), q_self], by rw [q_self]; rfl, fun c j q _ h => by omega, fun c j q hq _ => ?_, fun q _ => by rw [q_off _ _ _ (by omega), q_off _ _ _ (by omega)]⟩
    have hc := IMR_cell hq
    by_cases y : c = 122
    · subst y; rw [q_at, if_neg (by omega), q_at, if_neg (by omega)]
    · rw [q_off _ _ _ y, q_off _ _ _ y]
  unfold f_X9_passesAll
  rw [isB_b01, grd_t, lt_k, lt_k]
  obtain ⟨v, m, e, s1⟩ := PS_step (c := 122) (j := 0) s0 (IMR_122 (by omega))
  rw [e, bnd_s, lt_k]
  obtain ⟨v, m, e, s2⟩ := PS_step (c := 122) (j := 1) s1 (IMR_122 (by omega))
  rw [e, bnd_s, lt_k]
  obtain ⟨v, m, e, s3⟩ := PS_step (c := 122) (j := 6) s2 (IMR_122 (by omega))
  rw [e, bnd_s, lt_k]
  obtain ⟨v, m, e, s4⟩ := PS_step (c := 122) (j := 7) s3 (IMR_122 (by omega))
  rw [e, bnd_s, lt_k]
  obtain ⟨v, m, e, s5⟩ := PS_step (c := 122) (j := 8) s4 (IMR_122 (by omega))
  rw [e, bnd_s, lt_k]
  obtain ⟨v, m, e, s6⟩ := PS_step (c := 122) (j := 9) s5 (IMR_122 (by omega))
  rw [e, bnd_s, lt_k]
  obtain ⟨v, m, e, s7⟩ := PS_step (c := 122) (j := 20) s6 (IMR_122 (by omega))
  rw [e, bnd_s, lt_k]
  obtain ⟨v, m, e, s8⟩ := PS_step (c := 122) (j := 21) s7 (IMR_122 (by omega))
  rw [e, bnd_s, lt_k]
  obtain ⟨v, m, e, s9⟩ := PS_step (c := 122) (j := 22) s8 (IMR_122 (by omega))
  rw [e, bnd_s, lt_k]
  obtain ⟨m, e, t1⟩ := PS_row (a := 123) (n := 10) s9 (fun i hi => IMR_123 hi (by omega)) (by omega)
  rw [e, bnv_s]
  obtain ⟨m, e, t2⟩ := PS_row (a := 124) (n := 10) t1 (fun i hi => IMR_124 hi (by omega)) (by omega)
  rw [e, bnv_s]
  obtain ⟨m, e, t3⟩ := PS_row (a := 125) (n := 25) t2 (fun i hi => IMR_125 hi (by omega)) (by omega)
  rw [e, bnv_s]
  obtain ⟨m, e, t4⟩ := PS_row (a := 126) (n := 25) t3 (fun i hi => IMR_126 hi (by omega)) (by omega)
  rw [e, bnv_s]
  obtain ⟨m, e, t5⟩ := PS_row (a := 127) (n := 36) t4 (fun i hi => IMR_127 hi (by omega)) (by omega)
  rw [e, bnv_s]
  obtain ⟨m, e, t6⟩ := PS_row (a := 128) (n := 36) t5 (fun i hi => IMR_128 hi (by omega)) (by omega)
  rw [e, bnv_s]
  obtain ⟨m, e, t7⟩ := PS_row (a := 129) (n := 36) t6 (fun i hi => IMR_129 hi (by omega)) (by omega)
  rw [e, bnv_s]
  obtain ⟨m, e, t8⟩ := PS_row (a := 130) (n := 300) t7 (fun i hi => IMR_130 hi (by omega)) (by omega)
  rw [e, bnv_s]
  obtain ⟨m, e, t9⟩ := PS_row (a := 131) (n := 5) t8 (fun i hi => IMR_131 hi (by omega)) (by omega)
  rw [e, bnv_s]
  obtain ⟨m, e, t10⟩ := PS_row (a := 132) (n := 5) t9 (fun i hi => IMR_132 hi (by omega)) (by omega)
  rw [e, bnv_s]
  obtain ⟨m, e, t11⟩ := PS_row (a := 133) (n := 8) t10 (fun i hi => IMR_133 hi (by omega)) (by omega)
  rw [e, bnv_s]
  obtain ⟨m, e, t12⟩ := PS_row (a := 134) (n := 8) t11 (fun i hi => IMR_134 hi (by omega)) (by omega)
  rw [e, bnv_s]
  obtain ⟨m, e, t13⟩ := PS_row (a := 135) (n := 8) t12 (fun i hi => IMR_135 hi (by omega)) (by omega)
  rw [e, bnv_s]
  obtain ⟨m, e, t14⟩ := PS_row (a := 136) (n := 8) t13 (fun i hi => IMR_136 hi (by omega)) (by omega)
  rw [e, bnv_s]
  exact ⟨m, rfl, t14⟩
