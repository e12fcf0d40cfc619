/-! THE CALLS: read: the model takes a text -/
def MTx (c : Nat → Nat) (n p : Nat) (b : Bool) (μ : Mem) : Prop := TXT c n ∧ p ≤ n ∧ μ.1 122 24 = nI n ∧ (∀ j, j < n → μ.1 137 j = nI (c j)) ∧ μ.1 122 31 = nI p ∧ μ.1 122 32 = b01 b
def RM : Nat → Nat → Prop := fun c j => c = 122 ∧ (j = 31 ∨ j = 32)
theorem MS_fr {A : Nat → Nat → Prop} {c : Nat → Nat} {n p : Nat} {b : Bool} {μ μ' : Mem} (h : MTx c n p b μ) (f : fr A μ μ') (hA : ∀ k j, (k = 122 ∧ (j = 24 ∨ j = 31 ∨ j = 32)) ∨ k = 137 → ¬ A k j) : MTx c n p b μ' := by
  obtain ⟨h1, h2, h3, h4, h5, h6⟩ := h
  exact ⟨h1, h2, by rw [f.2 _ _ (hA _ _ (by omega))]; exact h3, fun j hj => by rw [f.2 _ _ (hA _ _ (by omega))]; exact h4 j hj, by rw [f.2 _ _ (hA _ _ (by omega))]; exact h5, by rw [f.2 _ _ (hA _ _ (by omega))]; exact h6⟩
/-- the two cells set -/
theorem MS_to {c : Nat → Nat} {n p : Nat} {b : Bool} {μ μ' : Mem} (h : MTx c n p b μ) (f : fr RM μ μ') {q : Nat} {b' : Bool} (hq : q ≤ n) (e1 : μ'.1 122 31 = nI q) (e2 : μ'.1 122 32 = b01 b') : MTx c n q b' μ' := by
  obtain ⟨h1, h2, h3, h4, h5, h6⟩ := h
  exact ⟨h1, hq, by rw [f.2 _ _ (by unfold RM; omega)]; exact h3, fun j hj => by rw [f.2 _ _ (by unfold RM; omega)]; exact h4 j hj, e1, e2⟩
theorem m9_here {c : Nat → Nat} {n p : Nat} {b : Bool} {μ : Mem} (h : MTx c n p b μ) : (p < n → f_X9_here μ = some (nI (c p)) ∧ c p ≤ 127) ∧ (¬ p < n → f_X9_here μ = some (-1)) := by
  obtain ⟨⟨h1, h1'⟩, h2, h3, h4, h5, h6⟩ := h
  unfold f_X9_here
  rw [h3, h5]
  constructor
  · intro g
    rw [if_neg (by rw [nI_leI (by omega) (by omega)]; omega), q_in (by omega) (by omega), nI_c (by omega), h4 p g]
    exact ⟨rfl, h1' p g⟩
  · intro g
    rw [if_pos (by rw [nI_leI (by omega) (by omega)]; omega)]
theorem m9_is {c : Nat → Nat} {n p a : Nat} {b : Bool} {μ : Mem} (h : MTx c n p b μ) (ha : a < 128) : ∃ r, f_X9_here μ = some r ∧ ((p < n ∧ c p = a) ↔ r = nI a) := by
  obtain ⟨t1, t2⟩ := m9_here h
  by_cases g : p < n
  · obtain ⟨e, hc⟩ := t1 g
    exact ⟨_, e, ⟨fun z => by rw [z.2], fun z => ⟨g, (nI_eq (by omega) (by omega)).mp z⟩⟩⟩
  · refine ⟨_, t2 g, ⟨fun z => absurd z.1 g, fun z => ?_⟩⟩
    have : (-1 : Int32).toInt = (nI a).toInt := by rw [z]
    rw [nI_i (by omega), show (-1 : Int32).toInt = -1 from rfl] at this
    omega
theorem o_00 : (0 : Int32) ||| 0 = 0 := by decide
theorem o_01 : (0 : Int32) ||| 1 = 1 := by decide
theorem o_10 : (1 : Int32) ||| 0 = 1 := by decide
theorem o_11 : (1 : Int32) ||| 1 = 1 := by decide
theorem m9_in {c : Nat → Nat} {n p lo hi : Nat} {b : Bool} {μ : Mem} (h : MTx c n p b μ) (hl : lo < 128) (hh : hi < 128) : ∃ r, f_X9_here μ = some r ∧ (p < n → r = nI (c p)) ∧ ∀ m, f_X9_in (Int32.toInt64 r) (Int32.toInt64 (nI lo)) (Int32.toInt64 (nI hi)) m = some (b2i (decide (p < n ∧ lo ≤ c p ∧ c p ≤ hi))) := by
  obtain ⟨t1, t2⟩ := m9_here h
  by_cases g : p < n
  · obtain ⟨e, hc⟩ := t1 g
    refine ⟨_, e, fun _ => rfl, fun m => ?_⟩
    rw [in_32]
    unfold inR
    rw [Int32.toInt_toInt64, Int32.toInt_toInt64, nI_i (by omega), nI_i (by omega), nI_i (by omega)]
    refine congrArg (fun b => some (b2i b)) ?_
    rw [decide_eq_decide]
    omega
  · refine ⟨_, t2 g, fun z => absurd z g, fun m => ?_⟩
    rw [in_32]
    unfold inR
    rw [Int32.toInt_toInt64, Int32.toInt_toInt64, nI_i (by omega), nI_i (by omega), show (-1 : Int32).toInt = -1 from rfl]
    refine congrArg (fun b => some (b2i b)) ?_
    rw [decide_eq_decide]
    omega
theorem nI_sub {a k : Nat} (h : k ≤ a) : nI a - nI k = nI (a - k) := by
  have e : nI (a - k) + nI k = nI a := by rw [nI_add, Nat.sub_add_cancel h]
  rw [← e]
  exact Int32.add_sub_cancel _ _
theorem m9_t {c : Nat → Nat} {n p lo hi : Nat} {μ : Mem} (h : MTx c n p false μ) (hl : lo < 128) (hh : hi < 128) (g : p < n ∧ lo ≤ c p ∧ c p ≤ hi) : ∃ μ', f_X9_takes (nI lo) (nI hi) μ = some (nI (c p - lo), μ') ∧ MTx c n (p + 1) false μ' ∧ fr RM μ μ' := by
  obtain ⟨r, e1, e2, e3⟩ := m9_in h hl hh
  obtain ⟨⟨h1, h1'⟩, h2, h3, h4, h5, h6⟩ := id h
  have hb : μ.1 122 32 = 0 := h6
  refine ⟨st (st μ 122 32 0) 122 31 (nI (p + 1)), ?_, MS_to h (fr_st' (fr_st (by unfold RM; omega)) (by unfold RM; omega)) (by omega) (q_self _ _ _ _) ?_, fr_st' (fr_st (by unfold RM; omega)) (by unfold RM; omega)⟩
  · have h' : MTx c n p false (st μ 122 32 0) := MS_to h (fr_st (by unfold RM; omega)) h2 (by rw [q_oth _ _ _ (by omega)]; exact h5) (q_self _ _ _ _)
    obtain ⟨e1', -⟩ := (m9_here h').1 g.1
    unfold f_X9_takes
    rw [e1, bnv_s, e3, bnv_s, decide_eq_true g, b2i_t, if_neg (by decide), hb]
    unfold f_X9_takes_25
    rw [o_00, grd_of (by decide), lt_k, q_self, if_pos rfl, e1', bnv_s]
    unfold f_X9_takes_46
    rw [q_self, if_pos rfl, lt_k, nI_sub g.2.1, q_oth _ _ _ (by omega), h5, q_add1]
  · rw [q_oth _ _ _ (by omega), q_self]; rfl
theorem m9_f {c : Nat → Nat} {n p lo hi : Nat} {b : Bool} {μ : Mem} (h : MTx c n p b μ) (hl : lo < 128) (hh : hi < 128) (g : b = true ∨ ¬ (p < n ∧ lo ≤ c p ∧ c p ≤ hi)) : ∃ μ', f_X9_takes (nI lo) (nI hi) μ = some (0, μ') ∧ MTx c n p true μ' ∧ fr RM μ μ' := by
  obtain ⟨r, e1, e2, e3⟩ := m9_in h hl hh
  obtain ⟨⟨h1, h1'⟩, h2, h3, h4, h5, h6⟩ := id h
  have ff : fr RM μ (st (st μ 122 32 1) 122 31 (nI p)) := fr_st' (fr_st (by unfold RM; omega)) (by unfold RM; omega)
  refine ⟨st (st μ 122 32 1) 122 31 (nI p), ?_, MS_to h ff h2 (q_self _ _ _ _) ?_, ff⟩
  · unfold f_X9_takes
    rw [e1, bnv_s, e3, bnv_s, h6]
    have or1 : ∀ z : Int32, b01 b ||| z = 1 → f_X9_takes_25 (nI lo) (nI hi) (b01 b) z μ = some (0, st (st μ 122 32 1) 122 31 (nI p)) := by
      intro z hz
      unfold f_X9_takes_25
      rw [hz, grd_of (by decide), lt_k, q_self, if_neg (by decide)]
      unfold f_X9_takes_46
      rw [q_self, if_neg (by decide), lt_k, q_oth _ _ _ (by omega), h5, Int32.add_zero]
    by_cases q : p < n ∧ lo ≤ c p ∧ c p ≤ hi
    · rcases g with g | g
      · subst g
        rw [decide_eq_true q, b2i_t, if_neg (by decide)]
        exact or1 0 o_10
      · exact absurd q g
    · rw [decide_eq_false q, b2i_f, if_pos rfl]
      refine or1 1 ?_
      cases b
      · exact o_01
      · exact o_11
  · rw [q_oth _ _ _ (by omega), q_self]; rfl
def RMT {α : Type} (c : Nat → Nat) (n : Nat) (z : Option (α × Mem)) (μ : Mem) (v : α) (q : Nat) (b : Bool) : Prop := ∃ μ', z = some (v, μ') ∧ MTx c n q b μ' ∧ fr RM μ μ'
theorem m9_nm {c : Nat → Nat} {n p : Nat} {b : Bool} {μ : Mem} (h : MTx c n p b μ) :
    (b = false → ∀ v q, s_nm c n p = some (v, q) → RMT c n (f_X9_takesNumber μ) μ (nI v) q false) ∧ (b = true ∨ s_nm c n p = none → RMT c n (f_X9_takesNumber μ) μ 0 p true) := by
  have bad : (b = true ∨ ¬ (p < n ∧ 48 ≤ c p ∧ c p ≤ 57)) → RMT c n (f_X9_takesNumber μ) μ 0 p true := by
    intro g
    obtain ⟨m1, e1, h1, f1⟩ := m9_f (lo := 48) (hi := 57) h (by omega) (by omega) g
    refine ⟨m1, ?_, h1, f1⟩
    unfold f_X9_takesNumber
    rw [show f_X9_takes 48 57 μ = _ from e1, bnd_s, h1.2.2.2.2.2, if_neg (by decide)]
  unfold s_nm
  by_cases g : p < n ∧ 48 ≤ c p ∧ c p ≤ 57
  · rw [if_pos g]
    refine ⟨fun hb v q e => ?_, fun z => ?_⟩
    · subst hb
      obtain ⟨m1, e1, h1, f1⟩ := m9_t (lo := 48) (hi := 57) h (by omega) (by omega) g
      obtain ⟨r, e2, e3, e4⟩ := m9_in (lo := 48) (hi := 57) h1 (by omega) (by omega)
      have e4' : f_X9_in (Int32.toInt64 r) 48 57 m1 = _ := e4 m1
      by_cases g2 : p + 1 < n ∧ 48 ≤ c (p + 1) ∧ c (p + 1) ≤ 57
      · rw [if_pos g2] at e
        cases e
        obtain ⟨m2, e5, h2, f2⟩ := m9_t (lo := 48) (hi := 57) h1 (by omega) (by omega) g2
        refine ⟨m2, ?_, h2, fr_then f1 f2⟩
        unfold f_X9_takesNumber
        rw [show f_X9_takes 48 57 μ = _ from e1, bnd_s, show m1.1 122 32 = 0 from h1.2.2.2.2.2, if_pos rfl, e2, bnv_s, e4', bnv_s, decide_eq_true g2, b2i_t, if_neg (by decide), show f_X9_takes 48 57 m1 = _ from e5, bnd_s, q_lmul10, nI_add]
      · rw [if_neg g2] at e
        cases e
        refine ⟨m1, ?_, h1, f1⟩
        unfold f_X9_takesNumber
        rw [show f_X9_takes 48 57 μ = _ from e1, bnd_s, show m1.1 122 32 = 0 from h1.2.2.2.2.2, if_pos rfl, e2, bnv_s, e4', bnv_s, decide_eq_false g2, b2i_f, if_pos rfl]
    · rcases z with z | z
      · exact bad (Or.inl z)
      · by_cases g2 : p + 1 < n ∧ 48 ≤ c (p + 1) ∧ c (p + 1) ≤ 57
        · rw [if_pos g2] at z; cases z
        · rw [if_neg g2] at z; cases z
  · rw [if_neg g]
    exact ⟨fun _ v q e => (by cases e), fun _ => bad (Or.inr g)⟩
theorem m9_kd {c : Nat → Nat} {n p : Nat} {μ : Mem} (h : MTx c n p false μ) :
    (∀ k, s_kd c n p = some k → RMT c n (f_X9_takesKind μ) μ (nI k) (p + 1) false) ∧ (s_kd c n p = none → RMT c n (f_X9_takesKind μ) μ (-1) p true) := by
  obtain ⟨⟨h1, h1'⟩, h2, h3, h4, h5, h6⟩ := id h
  have hb : μ.1 122 32 = 0 := h6
  have good : ∀ k : Nat, k ≤ 3 → p < n → RMT c n (f_X9_takesKind_46 (nI k) μ) μ (nI k) (p + 1) false := by
    intro k hk hp
    have ff : fr RM μ (st (st μ 122 32 0) 122 31 (nI (p + 1))) := fr_st' (fr_st (by unfold RM; omega)) (by unfold RM; omega)
    refine ⟨_, ?_, MS_to h ff (by omega) (q_self _ _ _ _) (by rw [q_oth _ _ _ (by omega), q_self]; rfl), ff⟩
    unfold f_X9_takesKind_46 f_X9_takesKind_61
    rw [if_pos (nI_pos' (by omega)), hb, o_00, grd_of (by decide), lt_k, q_self, if_pos rfl, lt_k, q_oth _ _ _ (by omega), h5, q_add1]
  have bad : RMT c n (f_X9_takesKind_46 (-1) μ) μ (-1) p true := by
    have ff : fr RM μ (st (st μ 122 32 1) 122 31 (nI p)) := fr_st' (fr_st (by unfold RM; omega)) (by unfold RM; omega)
    refine ⟨_, ?_, MS_to h ff h2 (q_self _ _ _ _) (by rw [q_oth _ _ _ (by omega), q_self]; rfl), ff⟩
    unfold f_X9_takesKind_46 f_X9_takesKind_61
    rw [if_neg (by decide), hb, o_01, grd_of (by decide), lt_k, q_self, if_neg (by decide), lt_k, q_oth _ _ _ (by omega), h5, Int32.add_zero]
  obtain ⟨r0, a0, b0⟩ := m9_is (a := 112) h (by omega)
  obtain ⟨r1, a1, b1⟩ := m9_is (a := 116) h (by omega)
  obtain ⟨r2, a2, b2⟩ := m9_is (a := 115) h (by omega)
  obtain ⟨r3, a3, b3⟩ := m9_is (a := 120) h (by omega)
  rw [show r0 = r3 from Option.some.inj (a0.symm.trans a3)] at b0
  rw [show r1 = r3 from Option.some.inj (a1.symm.trans a3)] at b1
  rw [show r2 = r3 from Option.some.inj (a2.symm.trans a3)] at b2
  unfold s_kd f_X9_takesKind
  rw [a3, bnv_s]
  by_cases g0 : p < n ∧ c p = 112
  · rw [if_pos g0, if_pos (show r3 = 112 from b0.mp g0)]
    exact ⟨fun k e => by cases e; exact good 0 (by omega) g0.1, fun e => by cases e⟩
  · rw [if_neg g0, if_neg (show ¬ r3 = 112 from fun e => g0 (b0.mpr e))]
    by_cases g1 : p < n ∧ c p = 116
    · rw [if_pos g1, if_pos (show r3 = 116 from b1.mp g1)]
      exact ⟨fun k e => by cases e; exact good 1 (by omega) g1.1, fun e => by cases e⟩
    · rw [if_neg g1, if_neg (show ¬ r3 = 116 from fun e => g1 (b1.mpr e))]
      by_cases g2 : p < n ∧ c p = 115
      · rw [if_pos g2, if_pos (show r3 = 115 from b2.mp g2)]
        exact ⟨fun k e => by cases e; exact good 2 (by omega) g2.1, fun e => by cases e⟩
      · rw [if_neg g2, if_neg (show ¬ r3 = 115 from fun e => g2 (b2.mpr e))]
        by_cases g3 : p < n ∧ c p = 120
        · rw [if_pos g3, if_pos (show r3 = 120 from b3.mp g3)]
          exact ⟨fun k e => by cases e; exact good 3 (by omega) g3.1, fun e => by cases e⟩
        · rw [if_neg g3, if_neg (show ¬ r3 = 120 from fun e => g3 (b3.mpr e))]
          exact ⟨fun k e => (by cases e), fun _ => bad⟩
