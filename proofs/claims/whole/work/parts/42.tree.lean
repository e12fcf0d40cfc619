/-! THE PURE PART: basic cells as a tree; nodes 0..5 sources, 6..11 sinks; cell c joins c / 6 and 6 + c % 6 -/
def t_nd (S T v : Nat) : Prop := v < S ∨ (6 ≤ v ∧ v < 6 + T)
def t_res (B K : Nat → Bool) : Prop := ∀ c, c < 36 → B c = true → K (c / 6) = K (6 + c % 6)
def t_in (S T : Nat) (B : Nat → Bool) : Prop := ∀ c, c < 36 → B c = true → c / 6 < S ∧ c % 6 < T
def t_conn (S T : Nat) (B : Nat → Bool) : Prop := ∀ K : Nat → Bool, t_res B K → ∀ v, t_nd S T v → K v = K 0
def t_brk (B : Nat → Bool) (e : Nat) (K : Nat → Bool) : Prop := K (e / 6) ≠ K (6 + e % 6) ∧ ∀ c, c < 36 → B c = true → c ≠ e → K (c / 6) = K (6 + c % 6)
def t_bridge (B : Nat → Bool) : Prop := ∀ e, e < 36 → B e = true → ∃ K : Nat → Bool, t_brk B e K
def t_tree (S T : Nat) (B : Nat → Bool) : Prop := 0 < S ∧ S ≤ 6 ∧ 0 < T ∧ T ≤ 6 ∧ t_in S T B ∧ t_conn S T B ∧ t_bridge B
theorem i_cancel {a b x y : Int32} (h : a + b = x + y) : a = x ↔ b = y := by
  constructor
  · intro e
    subst e
    have h2 : a + b - a = a + y - a := by rw [h]
    have e1 : a + b - a = b := by rw [Int32.add_comm]; exact Int32.add_sub_cancel b a
    have e2 : a + y - a = y := by rw [Int32.add_comm]; exact Int32.add_sub_cancel y a
    rw [e1, e2] at h2
    exact h2
  · intro e
    subst e
    have h2 : a + b - b = x + b - b := by rw [h]
    rw [Int32.add_sub_cancel, Int32.add_sub_cancel] at h2
    exact h2
theorem t_uniq {S T : Nat} {B : Nat → Bool} (h : t_tree S T B) {cost w w' : Nat → Int32} (h0 : w 0 = w' 0) (e : ∀ c, c < 36 → B c = true → w (c / 6) + w (6 + c % 6) = cost c)
    (e' : ∀ c, c < 36 → B c = true → w' (c / 6) + w' (6 + c % 6) = cost c) : ∀ v, t_nd S T v → w v = w' v := by
  intro v hv
  have hK := h.2.2.2.2.2.1 (fun v => decide (w v = w' v)) (fun c hc hb => by
    have := i_cancel ((e c hc hb).trans (e' c hc hb).symm)
    exact decide_eq_decide.mpr this) v hv
  simp only [h0, decide_true] at hK
  exact of_decide_eq_true hK
/-! pointers home -/
def t_cell (u v : Nat) : Nat := if u < 6 then 6 * u + (v - 6) else 6 * v + (u - 6)
theorem t_cell_lt {u v : Nat} (h : (u < 6 ∧ 6 ≤ v ∧ v < 12) ∨ (v < 6 ∧ 6 ≤ u ∧ u < 12)) : t_cell u v < 36 := by
  unfold t_cell
  split <;> omega
theorem t_cell_a {u v : Nat} (h : u < 6) (hv : 6 ≤ v ∧ v < 12) : t_cell u v / 6 = u ∧ 6 + t_cell u v % 6 = v := by
  unfold t_cell
  rw [if_pos h]
  omega
theorem t_cell_b {u v : Nat} (h : v < 6) (hv : 6 ≤ u ∧ u < 12) : t_cell u v / 6 = v ∧ 6 + t_cell u v % 6 = u := by
  unfold t_cell
  rw [if_neg (by omega)]
  omega
theorem t_cell_of {c : Nat} (h : c < 36) : t_cell (c / 6) (6 + c % 6) = c ∧ t_cell (6 + c % 6) (c / 6) = c := by
  unfold t_cell
  rw [if_pos (by omega), if_neg (by omega)]
  omega
def t_ptr (S T : Nat) (B : Nat → Bool) (home : Nat) (nx rk : Nat → Nat) : Prop := home < S ∧ ∀ v, t_nd S T v → v ≠ home → t_nd S T (nx v) ∧ rk (nx v) < rk v ∧ rk v < 12 ∧ (v < 6 → 6 ≤ nx v) ∧ (6 ≤ v → nx v < 6) ∧ B (t_cell v (nx v)) = true
theorem t_par {S T : Nat} {B : Nat → Bool} (h : t_tree S T B) {home : Nat} {nx rk : Nat → Nat} (hp : t_ptr S T B home nx rk) (c : Nat) (hc : c < 36) (hb : B c = true) :
    (c / 6 ≠ home ∧ nx (c / 6) = 6 + c % 6) ∨ nx (6 + c % 6) = c / 6 := by
  apply Classical.byContradiction
  intro hn
  obtain ⟨hS0, hS, hT0, hT, hin, -, hbr⟩ := h
  obtain ⟨hh, hp⟩ := hp
  obtain ⟨K, hK, hK2⟩ := hbr c hc hb
  have key : ∀ n v, t_nd S T v → rk v < n → K v = K home := by
    intro n
    induction n with
    | zero => intro v _ h; omega
    | succ n ih =>
      intro v hv hr
      by_cases he : v = home
      · rw [he]
      · obtain ⟨p1, p2, p3, p4, p5, p6⟩ := hp v hv he
        rw [← ih (nx v) p1 (by omega)]
        have hvv : v < 12 := by rcases hv with h | h <;> omega
        have hnn : nx v < 12 := by rcases p1 with h | h <;> omega
        by_cases hv6 : v < 6
        · have q := t_cell_a hv6 ⟨p4 hv6, hnn⟩
          have := hK2 _ (t_cell_lt (Or.inl ⟨hv6, p4 hv6, hnn⟩)) p6 (fun e => hn (Or.inl ⟨by rw [← e, q.1]; exact he, by rw [← e, q.1, q.2]⟩))
          rw [q.1, q.2] at this
          exact this
        · have hn6 := p5 (by omega)
          have q := t_cell_b hn6 ⟨by omega, hvv⟩
          have := hK2 _ (t_cell_lt (Or.inr ⟨hn6, by omega, hvv⟩)) p6 (fun e => hn (Or.inr (by rw [← e, q.2, q.1])))
          rw [q.1, q.2] at this
          exact this.symm
  obtain ⟨q1, q2⟩ := hin c hc hb
  exact hK ((key _ _ (Or.inl q1) (Nat.lt_succ_self _)).trans (key _ _ (Or.inr ⟨by omega, by omega⟩) (Nat.lt_succ_self _)).symm)
/-- the nodes of a way home -/
def t_pn (nx : Nat → Nat) (v : Nat) : Nat → Nat
  | 0 => v
  | k + 1 => nx (t_pn nx v k)
/-- the loop of a cell by the nodes of its way: number k joins node k - 1 and node k -/
def t_P (cell : Nat) (v : Nat → Nat) (k : Nat) : Nat := if k = 0 then cell else t_cell (v (k - 1)) (v k)
def t_way (S T : Nat) (B : Nat → Bool) (cell L : Nat) (v : Nat → Nat) : Prop :=
  2 ≤ L ∧ L ≤ 12 ∧ L % 2 = 0 ∧ v 0 = 6 + cell % 6 ∧ v (L - 1) = cell / 6 ∧ (∀ k, k < L → t_nd S T (v k)) ∧ (∀ k, k < L → k % 2 = 0 → 6 ≤ v k) ∧ (∀ k, k < L → k % 2 = 1 → v k < 6) ∧
  (∀ j k, j < L → k < L → v j = v k → j = k) ∧ (∀ k, k + 1 < L → B (t_cell (v k) (v (k + 1))) = true)
theorem t_way_of {S T : Nat} {B : Nat → Bool} (h : t_tree S T B) {cell : Nat} {nx rk : Nat → Nat} (hp : t_ptr S T B (cell / 6) nx rk) (hc : cell % 6 < T) :
    ∃ L, t_way S T B cell L (t_pn nx (6 + cell % 6)) := by
  obtain ⟨hS0, hS, hT0, hT, hin, -, hbr⟩ := h
  obtain ⟨hh, hp⟩ := hp
  -- so far: no home among the first k
  have walk : ∀ k, (∀ j, j < k → t_pn nx (6 + cell % 6) j ≠ cell / 6) → t_nd S T (t_pn nx (6 + cell % 6) k) ∧ (k % 2 = 0 → 6 ≤ t_pn nx (6 + cell % 6) k) ∧ (k % 2 = 1 → t_pn nx (6 + cell % 6) k < 6) ∧
      (∀ j, j < k → rk (t_pn nx (6 + cell % 6) k) + (k - j) ≤ rk (t_pn nx (6 + cell % 6) j) ∧ rk (t_pn nx (6 + cell % 6) j) < 12) := by
    intro k
    induction k with
    | zero => intro _; exact ⟨Or.inr ⟨by show 6 ≤ 6 + cell % 6; omega, by show 6 + cell % 6 < _; omega⟩, fun _ => by show 6 ≤ 6 + cell % 6; omega, fun h => by omega, fun j h => by omega⟩
    | succ k ih =>
      intro hj
      obtain ⟨i1, i2, i3, i4⟩ := ih (fun j h => hj j (by omega))
      obtain ⟨p1, p2, p3, p4, p5, p6⟩ := hp _ i1 (hj k (by omega))
      refine ⟨p1, fun h => p4 (i3 (by omega)), fun h => p5 (i2 (by omega)), fun j hjk => ?_⟩
      show rk (nx (t_pn nx (6 + cell % 6) k)) + _ ≤ _ ∧ _
      by_cases e : j = k
      · subst e; omega
      · have := i4 j (by omega); omega
  have ex : ∃ m, t_pn nx (6 + cell % 6) m = cell / 6 ∧ ∀ j, j < m → t_pn nx (6 + cell % 6) j ≠ cell / 6 := by
    apply Classical.byContradiction
    intro hn
    have all : ∀ k j, j < k → t_pn nx (6 + cell % 6) j ≠ cell / 6 := by
      intro k
      induction k with
      | zero => intro j h; omega
      | succ k ih =>
        intro j hj e
        by_cases q : j = k
        · subst q; exact hn ⟨j, e, ih⟩
        · exact ih j (by omega) e
    have := (walk 13 (all 13)).2.2.2 0 (by omega)
    omega
  obtain ⟨m, hm, hj⟩ := ex
  obtain ⟨w1, w2, w3, w4⟩ := walk m hj
  have hodd : m % 2 = 1 := by
    rcases Nat.mod_two_eq_zero_or_one m with e | e
    · have := w2 e; omega
    · exact e
  have hm12 : m < 12 := by
    have := w4 0 (by omega)
    omega
  refine ⟨m + 1, by omega, by omega, by omega, rfl, hm, fun k hk => (walk k (fun j h => hj j (by omega))).1, fun k hk => (walk k (fun j h => hj j (by omega))).2.1, fun k hk => (walk k (fun j h => hj j (by omega))).2.2.1, ?_, ?_⟩
  · have lt : ∀ j k, j < k → k < m + 1 → t_pn nx (6 + cell % 6) j ≠ t_pn nx (6 + cell % 6) k := by
      intro j k hjk hk e
      have := (walk k (fun j h => hj j (by omega))).2.2.2 j hjk
      rw [e] at this
      omega
    intro j k h1 h2 e
    rcases Nat.lt_trichotomy j k with q | q | q
    · exact absurd e (lt j k q h2)
    · exact q
    · exact absurd e.symm (lt k j q h1)
  · intro k hk
    exact (hp _ (walk k (fun j h => hj j (by omega))).1 (hj k (by omega))).2.2.2.2.2
/-- what is left when nothing stands alone is the loop -/
theorem t_peel {S T : Nat} {B : Nat → Bool} (h : t_tree S T B) {cell L : Nat} {nx rk : Nat → Nat} (hcl : cell < 36) (hp : t_ptr S T B (cell / 6) nx rk) (hw : t_way S T B cell L (t_pn nx (6 + cell % 6)))
    {I : Nat → Bool} (hI : ∀ c, c < 36 → I c = true → B c = true ∨ c = cell) (h1 : ∀ c, c < 36 → I c = true → ∃ d, d < 36 ∧ d ≠ c ∧ I d = true ∧ d / 6 = c / 6)
    (h2 : ∀ c, c < 36 → I c = true → ∃ d, d < 36 ∧ d ≠ c ∧ I d = true ∧ d % 6 = c % 6) :
    ∀ c, c < 36 → I c = true → ∃ k, k < L ∧ c = t_P cell (t_pn nx (6 + cell % 6)) k := by
  obtain ⟨l1, l2, l3, l4, l5, l6, l7, l8, l9, l10⟩ := hw
  have hpar := t_par h hp
  obtain ⟨hS0, hS, hT0, hT, hin, -, hbr⟩ := h
  obtain ⟨hh, hp⟩ := hp
  have onw : ∀ k, k < L → t_pn nx (6 + cell % 6) k = cell / 6 → k = L - 1 := fun k hk e => l9 k (L - 1) hk (by omega) (e.trans l5.symm)
  have key : ∀ n u, t_nd S T u → u ≠ cell / 6 → 12 ≤ rk u + n → I (t_cell u (nx u)) = true → ∃ k, k + 1 < L ∧ u = t_pn nx (6 + cell % 6) k := by
    intro n
    induction n with
    | zero =>
      intro u hu hne hr
      have := (hp u hu hne).2.2.1
      omega
    | succ n ih =>
      intro u hu hne hr hi
      obtain ⟨p1, p2, p3, p4, p5, p6⟩ := hp u hu hne
      have huu : u < 12 := by rcases hu with h | h <;> omega
      have hnn : nx u < 12 := by rcases p1 with h | h <;> omega
      by_cases hu6 : u < 6
      · have q := t_cell_a hu6 ⟨p4 hu6, hnn⟩
        obtain ⟨d, hd, hdc, hdi, hdr⟩ := h1 _ (t_cell_lt (Or.inl ⟨hu6, p4 hu6, hnn⟩)) hi
        rw [q.1] at hdr
        rcases hI d hd hdi with hb | hb
        · rcases hpar d hd hb with ⟨e1, e2⟩ | e
          · exfalso
            apply hdc
            rw [hdr] at e2
            rw [e2, ← hdr]
            exact (t_cell_of hd).1.symm
          · rw [hdr] at e
            have hw2 : t_nd S T (6 + d % 6) := Or.inr ⟨by omega, by have := (hin d hd hb).2; omega⟩
            have hpw := hp _ hw2 (by omega)
            obtain ⟨k, hk, hku⟩ := ih _ hw2 (by omega) (by rw [e] at hpw; omega) (by rw [e, ← hdr, (t_cell_of hd).2]; exact hdi)
            refine ⟨k + 1, ?_, by show u = nx _; rw [← hku, e]⟩
            apply Nat.lt_of_le_of_ne hk
            intro he
            have := onw (k + 1) hk (by rw [show k + 1 = L - 1 by omega]; exact l5)
            apply hne
            rw [← l5, show L - 1 = k + 1 by omega]
            show u = nx _
            rw [← hku, e]
        · subst hb; exact absurd hdr.symm hne
      · have hn6 := p5 (by omega)
        have q := t_cell_b hn6 ⟨by omega, huu⟩
        obtain ⟨d, hd, hdc, hdi, hdr⟩ := h2 _ (t_cell_lt (Or.inr ⟨hn6, by omega, huu⟩)) hi
        have hdr2 : 6 + d % 6 = u := by omega
        rcases hI d hd hdi with hb | hb
        · rcases hpar d hd hb with ⟨e1, e2⟩ | e
          · rw [hdr2] at e2
            have hw2 : t_nd S T (d / 6) := Or.inl (hin d hd hb).1
            have hpw := hp _ hw2 e1
            obtain ⟨k, hk, hku⟩ := ih _ hw2 e1 (by rw [e2] at hpw; omega) (by rw [e2, ← hdr2, (t_cell_of hd).1]; exact hdi)
            refine ⟨k + 1, ?_, by show u = nx _; rw [← hku, e2]⟩
            apply Nat.lt_of_le_of_ne hk
            intro he
            apply hne
            rw [← l5, show L - 1 = k + 1 by omega]
            show u = nx _
            rw [← hku, e2]
          · exfalso
            apply hdc
            rw [hdr2] at e
            rw [e, ← hdr2]
            exact (t_cell_of hd).2.symm
        · subst hb
          exact ⟨0, by omega, by show u = 6 + d % 6; omega⟩
  intro c hc hi
  rcases hI c hc hi with hb | hb
  · have hr := hin c hc hb
    rcases hpar c hc hb with ⟨e1, e2⟩ | e
    · obtain ⟨k, hk, hku⟩ := key 12 (c / 6) (Or.inl hr.1) e1 (by omega) (by rw [e2, (t_cell_of hc).1]; exact hi)
      refine ⟨k + 1, hk, ?_⟩
      unfold t_P
      rw [if_neg (by omega), Nat.add_sub_cancel]
      show c = t_cell _ (nx _)
      rw [← hku, e2, (t_cell_of hc).1]
    · obtain ⟨k, hk, hku⟩ := key 12 (6 + c % 6) (Or.inr ⟨by omega, by omega⟩) (by omega) (by omega) (by rw [e, (t_cell_of hc).2]; exact hi)
      refine ⟨k + 1, hk, ?_⟩
      unfold t_P
      rw [if_neg (by omega), Nat.add_sub_cancel]
      show c = t_cell _ (nx _)
      rw [← hku, e, (t_cell_of hc).2]
  · exact ⟨0, by omega, by rw [hb]; rfl⟩
/-! the loop's cells -/
theorem t_nd_lt {S T : Nat} {B : Nat → Bool} (h : t_tree S T B) {v : Nat} (hv : t_nd S T v) : v < 12 := by
  obtain ⟨a, b, c, d, -⟩ := h
  rcases hv with h | h <;> omega
theorem t_P_odd {S T : Nat} {B : Nat → Bool} (h : t_tree S T B) {cell L : Nat} {v : Nat → Nat} (hw : t_way S T B cell L v) {k : Nat} (hk : k < L) (ho : k % 2 = 1) :
    t_P cell v k < 36 ∧ t_P cell v k / 6 = v k ∧ 6 + t_P cell v k % 6 = v (k - 1) ∧ B (t_P cell v k) = true := by
  obtain ⟨l1, l2, l3, l4, l5, l6, l7, l8, l9, l10⟩ := hw
  have a1 := l8 k hk ho
  have a2 := l7 (k - 1) (by omega) (by omega)
  have a3 := t_nd_lt h (l6 (k - 1) (by omega))
  have a4 := l10 (k - 1) (by omega)
  rw [show k - 1 + 1 = k by omega] at a4
  unfold t_P
  rw [if_neg (by omega)]
  exact ⟨t_cell_lt (Or.inr ⟨a1, a2, a3⟩), (t_cell_b a1 ⟨a2, a3⟩).1, (t_cell_b a1 ⟨a2, a3⟩).2, a4⟩
theorem t_P_even {S T : Nat} {B : Nat → Bool} (h : t_tree S T B) {cell L : Nat} {v : Nat → Nat} (hw : t_way S T B cell L v) {k : Nat} (hk : k < L) (ho : k % 2 = 0) (h0 : 0 < k) :
    t_P cell v k < 36 ∧ t_P cell v k / 6 = v (k - 1) ∧ 6 + t_P cell v k % 6 = v k ∧ B (t_P cell v k) = true := by
  obtain ⟨l1, l2, l3, l4, l5, l6, l7, l8, l9, l10⟩ := hw
  have a1 := l8 (k - 1) (by omega) (by omega)
  have a2 := l7 k hk ho
  have a3 := t_nd_lt h (l6 k hk)
  have a4 := l10 (k - 1) (by omega)
  rw [show k - 1 + 1 = k by omega] at a4
  unfold t_P
  rw [if_neg (by omega)]
  exact ⟨t_cell_lt (Or.inl ⟨a1, a2, a3⟩), (t_cell_a a1 ⟨a2, a3⟩).1, (t_cell_a a1 ⟨a2, a3⟩).2, a4⟩
theorem t_P_B {S T : Nat} {B : Nat → Bool} (h : t_tree S T B) {cell L : Nat} {v : Nat → Nat} (hw : t_way S T B cell L v) {k : Nat} (hk : k < L) (h0 : 0 < k) : t_P cell v k < 36 ∧ B (t_P cell v k) = true := by
  rcases Nat.mod_two_eq_zero_or_one k with e | e
  · have := t_P_even h hw hk e h0
    exact ⟨this.1, this.2.2.2⟩
  · have := t_P_odd h hw hk e
    exact ⟨this.1, this.2.2.2⟩
theorem t_P_lt {S T : Nat} {B : Nat → Bool} (h : t_tree S T B) {cell L : Nat} {v : Nat → Nat} (hw : t_way S T B cell L v) (hc : cell < 36) {k : Nat} (hk : k < L) : t_P cell v k < 36 := by
  by_cases h0 : k = 0
  · subst h0; exact hc
  · exact (t_P_B h hw hk (by omega)).1
theorem t_P_inj {S T : Nat} {B : Nat → Bool} (h : t_tree S T B) {cell L : Nat} {v : Nat → Nat} (hw : t_way S T B cell L v) (hb : B cell = false) {j k : Nat} (hj : j < L) (hk : k < L) (e : t_P cell v j = t_P cell v k) : j = k := by
  have h9 := hw.2.2.2.2.2.2.2.2.1
  by_cases j0 : j = 0
  · by_cases k0 : k = 0
    · omega
    · have := (t_P_B h hw hk (by omega)).2
      rw [← e, j0] at this
      rw [show t_P cell v 0 = cell from rfl, hb] at this
      cases this
  · by_cases k0 : k = 0
    · have := (t_P_B h hw hj (by omega)).2
      rw [e, k0] at this
      rw [show t_P cell v 0 = cell from rfl, hb] at this
      cases this
    · rcases Nat.mod_two_eq_zero_or_one j with ej | ej <;> rcases Nat.mod_two_eq_zero_or_one k with ek | ek
      · have a := t_P_even h hw hj ej (by omega)
        have b := t_P_even h hw hk ek (by omega)
        exact h9 j k hj hk (by rw [← a.2.2.1, ← b.2.2.1, e])
      · have a := t_P_even h hw hj ej (by omega)
        have b := t_P_odd h hw hk ek
        have c1 := h9 (j - 1) k (by omega) hk (by rw [← a.2.1, ← b.2.1, e])
        have c2 := h9 j (k - 1) hj (by omega) (by rw [← a.2.2.1, ← b.2.2.1, e])
        omega
      · have a := t_P_odd h hw hj ej
        have b := t_P_even h hw hk ek (by omega)
        have c1 := h9 j (k - 1) hj (by omega) (by rw [← a.2.1, ← b.2.1, e])
        have c2 := h9 (j - 1) k (by omega) hk (by rw [← a.2.2.1, ← b.2.2.1, e])
        omega
      · have a := t_P_odd h hw hj ej
        have b := t_P_odd h hw hk ek
        exact h9 j k hj hk (by rw [← a.2.1, ← b.2.1, e])
/-- the two cells of the loop in a line of it -/
theorem t_P_col {S T : Nat} {B : Nat → Bool} (h : t_tree S T B) {cell L : Nat} {v : Nat → Nat} (hw : t_way S T B cell L v) (hc : cell < 36) {k j : Nat} (hk : k < L) (hj : j < L) (ho : k % 2 = 0)
    (e : t_P cell v j % 6 = t_P cell v k % 6) : j = k ∨ j = k + 1 := by
  have h9 := hw.2.2.2.2.2.2.2.2.1
  have ek : 6 + t_P cell v k % 6 = v k := by
    by_cases k0 : k = 0
    · subst k0; exact hw.2.2.2.1.symm
    · exact (t_P_even h hw hk ho (by omega)).2.2.1
  by_cases j0 : j = 0
  · subst j0
    left
    exact h9 0 k hj hk (by rw [← ek, hw.2.2.2.1, ← e]; rfl)
  · rcases Nat.mod_two_eq_zero_or_one j with ej | ej
    · left
      have a := t_P_even h hw hj ej (by omega)
      exact h9 j k hj hk (by rw [← a.2.2.1, ← ek, e])
    · right
      have a := t_P_odd h hw hj ej
      have := h9 (j - 1) k (by omega) hk (by rw [← a.2.2.1, ← ek, e])
      omega
theorem t_P_row {S T : Nat} {B : Nat → Bool} (h : t_tree S T B) {cell L : Nat} {v : Nat → Nat} (hw : t_way S T B cell L v) (hc : cell < 36) {k j : Nat} (hk : k < L) (hj : j < L) (ho : k % 2 = 1)
    (e : t_P cell v j / 6 = t_P cell v k / 6) : j = k ∨ (j = k + 1 ∨ (j = 0 ∧ k + 1 = L)) := by
  have h9 := hw.2.2.2.2.2.2.2.2.1
  have ek := (t_P_odd h hw hk ho).2.1
  by_cases j0 : j = 0
  · subst j0
    have := h9 (L - 1) k (by omega) hk (by rw [← ek, hw.2.2.2.2.1, ← e]; rfl)
    omega
  · rcases Nat.mod_two_eq_zero_or_one j with ej | ej
    · have a := t_P_even h hw hj ej (by omega)
      have := h9 (j - 1) k (by omega) hk (by rw [← a.2.1, ← ek, e])
      omega
    · left
      have a := t_P_odd h hw hj ej
      exact h9 j k hj hk (by rw [← a.2.1, ← ek, e])
theorem t_P_next {S T : Nat} {B : Nat → Bool} (h : t_tree S T B) {cell L : Nat} {v : Nat → Nat} (hw : t_way S T B cell L v) {k : Nat} (hk : k < L) :
    (k % 2 = 0 → t_P cell v (k + 1) % 6 = t_P cell v k % 6) ∧ (k % 2 = 1 → k + 1 < L → t_P cell v (k + 1) / 6 = t_P cell v k / 6) ∧ (k + 1 = L → cell / 6 = t_P cell v k / 6) := by
  have hL := hw.2.2.1
  refine ⟨fun e => ?_, fun e h1 => ?_, fun e => ?_⟩
  · have a := t_P_odd h hw (k := k + 1) (by omega) (by omega)
    rw [Nat.add_sub_cancel] at a
    by_cases k0 : k = 0
    · subst k0
      have := hw.2.2.2.1
      show _ = cell % 6
      omega
    · have b := t_P_even h hw hk e (by omega)
      omega
  · have a := t_P_even h hw (k := k + 1) (by omega) (by omega) (by omega)
    rw [Nat.add_sub_cancel] at a
    have b := t_P_odd h hw hk e
    omega
  · have b := t_P_odd h hw hk (by omega)
    rw [b.2.1, ← hw.2.2.2.2.1]
    congr 1
    omega
/-! a step keeps the tree -/
theorem t_seg (K : Nat → Bool) (v : Nat → Nat) : ∀ (d a : Nat), (∀ t, a ≤ t → t < a + d → K (v t) = K (v (t + 1))) → K (v a) = K (v (a + d)) := by
  intro d
  induction d with
  | zero => intro a _; rfl
  | succ d ih =>
    intro a h
    rw [ih a (fun t h1 h2 => h t h1 (by omega))]
    exact h (a + d) (by omega) (by omega)
def t_swap (B : Nat → Bool) (cell lv : Nat) : Nat → Bool := fun c => if c = cell then true else if c = lv then false else B c
theorem t_step {S T : Nat} {B : Nat → Bool} (h : t_tree S T B) {cell L : Nat} {v : Nat → Nat} (hw : t_way S T B cell L v) (hcl : cell < 36) (hb : B cell = false) (h1 : cell / 6 < S) (h2 : cell % 6 < T) {l : Nat} (hl : l < L) (ho : l % 2 = 1) :
    t_tree S T (t_swap B cell (t_P cell v l)) := by
  have hP := fun {k} (hk : k < L) (h0 : 0 < k) => t_P_B h hw hk h0
  have inj := fun {j k} (hj : j < L) (hk : k < L) (e : t_P cell v j = t_P cell v k) => t_P_inj h hw hb hj hk e
  have odd := fun {k} (hk : k < L) (ho : k % 2 = 1) => t_P_odd h hw hk ho
  have even := fun {k} (hk : k < L) (ho : k % 2 = 0) (h0 : 0 < k) => t_P_even h hw hk ho h0
  have hw4 := hw.2.2.2.1
  have hw5 := hw.2.2.2.2.1
  obtain ⟨hS0, hS, hT0, hT, hin, hcn, hbr⟩ := h
  have hlB := hP hl (by omega)
  have hne : ∀ {k}, k < L → 0 < k → t_P cell v k ≠ cell := fun hk h0 e => by have := (hP hk h0).2; rw [e, hb] at this; cases this
  -- any K that is equal over all of the loop's basic cells but l
  have segs : ∀ K : Nat → Bool, (∀ c, c < 36 → B c = true → c ≠ t_P cell v l → K (c / 6) = K (6 + c % 6)) → K (v 0) = K (v (l - 1)) ∧ K (v l) = K (v (L - 1)) := by
    intro K hK
    have one : ∀ t, t + 1 < L → t + 1 ≠ l → K (v t) = K (v (t + 1)) := by
      intro t ht hn
      have q := hP ht (by omega)
      have := hK _ q.1 q.2 (fun e => hn (inj ht hl e))
      rcases Nat.mod_two_eq_zero_or_one (t + 1) with e | e
      · have a := even ht e (by omega)
        rw [a.2.1, a.2.2.1, Nat.add_sub_cancel] at this
        exact this
      · have a := odd ht e
        rw [a.2.1, a.2.2.1, Nat.add_sub_cancel] at this
        exact this.symm
    constructor
    · have := t_seg K v (l - 1) 0 (fun t _ h2 => one t (by omega) (by omega))
      rw [Nat.zero_add] at this
      exact this
    · have := t_seg K v (L - 1 - l) l (fun t h1 h2 => one t (by omega) (by omega))
      rw [show l + (L - 1 - l) = L - 1 by omega] at this
      exact this
  have hodd := odd hl ho
  refine ⟨hS0, hS, hT0, hT, fun c hc hx => ?_, fun K hK => hcn K (fun c hc hx => ?_), fun e he hx => ?_⟩
  · unfold t_swap at hx
    by_cases q : c = cell
    · subst q; exact ⟨h1, h2⟩
    · rw [if_neg q] at hx
      by_cases q2 : c = t_P cell v l
      · rw [if_pos q2] at hx; cases hx
      · rw [if_neg q2] at hx; exact hin c hc hx
  · have oth : ∀ c, c < 36 → B c = true → c ≠ t_P cell v l → K (c / 6) = K (6 + c % 6) := by
      intro c hc hx hn
      refine hK c hc ?_
      unfold t_swap
      by_cases q : c = cell
      · rw [if_pos q]
      · rw [if_neg q, if_neg hn]; exact hx
    by_cases q : c = t_P cell v l
    · obtain ⟨s1, s2⟩ := segs K oth
      have s3 := hK cell hcl (by unfold t_swap; rw [if_pos rfl])
      rw [q, hodd.2.1, hodd.2.2.1, s2, ← s1, hw4, hw5]
      exact s3
    · exact oth c hc hx q
  · obtain ⟨Kf, kf1, kf2⟩ := hbr _ hlB.1 hlB.2
    have s := segs Kf kf2
    have kfc : Kf (cell / 6) ≠ Kf (6 + cell % 6) := by
      rw [← hw4, ← hw5, s.1, ← s.2]
      rw [hodd.2.1, hodd.2.2.1] at kf1
      exact kf1
    by_cases q : e = cell
    · subst q
      refine ⟨Kf, kfc, fun c hc hx hn => ?_⟩
      unfold t_swap at hx
      rw [if_neg hn] at hx
      by_cases q2 : c = t_P e v l
      · rw [if_pos q2] at hx; cases hx
      · rw [if_neg q2] at hx; exact kf2 c hc hx q2
    · unfold t_swap at hx
      rw [if_neg q] at hx
      by_cases q2 : e = t_P cell v l
      · rw [if_pos q2] at hx; cases hx
      · rw [if_neg q2] at hx
        obtain ⟨Ke, ke1, ke2⟩ := hbr e he hx
        by_cases q3 : Ke (cell / 6) = Ke (6 + cell % 6)
        · refine ⟨Ke, ke1, fun c hc hx hn => ?_⟩
          unfold t_swap at hx
          by_cases q4 : c = cell
          · rw [q4]; exact q3
          · rw [if_neg q4] at hx
            by_cases q5 : c = t_P cell v l
            · rw [if_pos q5] at hx; cases hx
            · rw [if_neg q5] at hx; exact ke2 c hc hx hn
        · refine ⟨fun u => xor (Ke u) (Kf u), ?_, fun c hc hx hn => ?_⟩
          · have := kf2 e he hx q2
            show xor (Ke (e / 6)) (Kf (e / 6)) ≠ xor (Ke (6 + e % 6)) (Kf (6 + e % 6))
            rw [this]
            intro hh
            exact ke1 (Bool.xor_right_inj.mp (by rw [Bool.xor_comm, hh, Bool.xor_comm]))
          · show xor (Ke (c / 6)) (Kf (c / 6)) = xor (Ke (6 + c % 6)) (Kf (6 + c % 6))
            unfold t_swap at hx
            by_cases q4 : c = cell
            · subst q4
              revert q3 kfc
              cases Ke (c / 6) <;> cases Ke (6 + c % 6) <;> cases Kf (c / 6) <;> cases Kf (6 + c % 6) <;> simp
            · rw [if_neg q4] at hx
              by_cases q5 : c = t_P cell v l
              · rw [if_pos q5] at hx; cases hx
              · rw [if_neg q5] at hx
                rw [ke2 c hc hx hn, kf2 c hc hx q5]
/-- there is one way only -/
theorem t_way_uniq {S T : Nat} {B : Nat → Bool} (h : t_tree S T B) {cell L L' : Nat} {v v' : Nat → Nat} (hb : B cell = false) (hw : t_way S T B cell L v) (hw' : t_way S T B cell L' v') : L = L' ∧ ∀ k, k < L → v k = v' k := by
  have segs : ∀ (K : Nat → Bool) (L : Nat) (v : Nat → Nat), t_way S T B cell L v → (∀ k, k + 1 < L → K (v k) = K (v (k + 1))) → K (6 + cell % 6) = K (cell / 6) := by
    intro K L v hw hk
    have := t_seg K v (L - 1) 0 (fun t _ h2 => hk t (by omega))
    rw [Nat.zero_add, hw.2.2.2.2.1, hw.2.2.2.1] at this
    exact this
  have ends : ∀ (K : Nat → Bool) (L : Nat) (v : Nat → Nat), t_way S T B cell L v → ∀ k, k + 1 < L → (K (v k) = K (v (k + 1)) ↔ K (t_P cell v (k + 1) / 6) = K (6 + t_P cell v (k + 1) % 6)) := by
    intro K L v hw k hk
    rcases Nat.mod_two_eq_zero_or_one (k + 1) with e | e
    · have a := t_P_even h hw hk e (by omega)
      rw [a.2.1, a.2.2.1, Nat.add_sub_cancel]
    · have a := t_P_odd h hw hk e
      rw [a.2.1, a.2.2.1, Nat.add_sub_cancel]
      exact eq_comm
  have hbr := h.2.2.2.2.2.2
  have step : ∀ k, (∀ j, j ≤ k → v j = v' j) → k + 1 < L → k + 1 < L' → v (k + 1) = v' (k + 1) := by
    intro k hj h1 h2
    apply Classical.byContradiction
    intro hne
    have q := t_P_B h hw h1 (by omega)
    obtain ⟨K, k1, k2⟩ := hbr _ q.1 q.2
    -- over the first way K is equal but at k + 1
    have one : ∀ t, t + 1 < L → t ≠ k → K (v t) = K (v (t + 1)) := by
      intro t ht hn
      have q2 := t_P_B h hw ht (by omega)
      exact (ends K L v hw t ht).mpr (k2 _ q2.1 q2.2 (fun e => hn (by have := t_P_inj h hw hb ht h1 e; omega)))
    have d1 : K (v k) ≠ K (v (k + 1)) := fun e => k1 ((ends K L v hw k h1).mp e)
    have s1 := t_seg K v k 0 (fun t _ h3 => one t (by omega) (by omega))
    have s2 := t_seg K v (L - 1 - (k + 1)) (k + 1) (fun t h3 h4 => one t (by omega) (by omega))
    rw [Nat.zero_add, hw.2.2.2.1] at s1
    rw [show k + 1 + (L - 1 - (k + 1)) = L - 1 by omega, hw.2.2.2.2.1] at s2
    have d2 : K (6 + cell % 6) ≠ K (cell / 6) := by rw [s1, ← s2]; exact d1
    apply d2
    refine segs K L' v' hw' (fun t ht => (ends K L' v' hw' t ht).mpr ?_)
    have q2 := t_P_B h hw' ht (by omega)
    refine k2 _ q2.1 q2.2 (fun e => ?_)
    -- the other way has this cell, too
    have h9 := hw'.2.2.2.2.2.2.2.2.1
    have h9v := hw.2.2.2.2.2.2.2.2.1
    have eqs : (v' t = v k ∧ v' (t + 1) = v (k + 1)) ∨ (v' t = v (k + 1) ∧ v' (t + 1) = v k) := by
      rcases Nat.mod_two_eq_zero_or_one (t + 1) with e1 | e1 <;> rcases Nat.mod_two_eq_zero_or_one (k + 1) with e2 | e2
      · have a := t_P_even h hw' ht e1 (by omega)
        have b := t_P_even h hw h1 e2 (by omega)
        rw [Nat.add_sub_cancel, e] at a
        rw [Nat.add_sub_cancel] at b
        exact Or.inl ⟨a.2.1.symm.trans b.2.1, a.2.2.1.symm.trans b.2.2.1⟩
      · have a := t_P_even h hw' ht e1 (by omega)
        have b := t_P_odd h hw h1 e2
        rw [Nat.add_sub_cancel, e] at a
        rw [Nat.add_sub_cancel] at b
        exact Or.inr ⟨a.2.1.symm.trans b.2.1, a.2.2.1.symm.trans b.2.2.1⟩
      · have a := t_P_odd h hw' ht e1
        have b := t_P_even h hw h1 e2 (by omega)
        rw [Nat.add_sub_cancel, e] at a
        rw [Nat.add_sub_cancel] at b
        exact Or.inr ⟨a.2.2.1.symm.trans b.2.2.1, a.2.1.symm.trans b.2.1⟩
      · have a := t_P_odd h hw' ht e1
        have b := t_P_odd h hw h1 e2
        rw [Nat.add_sub_cancel, e] at a
        rw [Nat.add_sub_cancel] at b
        exact Or.inl ⟨a.2.2.1.symm.trans b.2.2.1, a.2.1.symm.trans b.2.1⟩
    rcases eqs with ⟨a, b⟩ | ⟨a, b⟩
    · have := h9 t k (by omega) (by omega) (a.trans (hj k (by omega)))
      subst this
      exact hne b.symm
    · have e3 := h9 (t + 1) k (by omega) (by omega) (b.trans (hj k (by omega)))
      have e4 := h9v t (k + 1) (by omega) h1 ((hj t (by omega)).trans a)
      omega
  have all : ∀ k, k < L → k < L' → ∀ j, j ≤ k → v j = v' j := by
    intro k
    induction k with
    | zero =>
      intro _ _ j hj
      have : j = 0 := by omega
      subst this
      rw [hw.2.2.2.1, hw'.2.2.2.1]
    | succ k ih =>
      intro h1 h2 j hj
      have i1 := ih (by omega) (by omega)
      by_cases q : j = k + 1
      · subst q; exact step k i1 h1 h2
      · exact i1 j (by omega)
  have hL : L = L' := by
    rcases Nat.lt_trichotomy L L' with q | q | q
    · have := all (L - 1) (by have := hw.1; omega) (by have := hw.1; omega) (L - 1) (Nat.le_refl _)
      rw [hw.2.2.2.2.1, ← hw'.2.2.2.2.1] at this
      have := hw'.2.2.2.2.2.2.2.2.1 _ _ (by have := hw'.1; omega) (by have := hw.1; omega) this
      have := hw.1
      omega
    · exact q
    · have := all (L' - 1) (by have := hw'.1; omega) (by have := hw'.1; omega) (L' - 1) (Nat.le_refl _)
      rw [hw'.2.2.2.2.1, ← hw.2.2.2.2.1] at this
      have := hw.2.2.2.2.2.2.2.2.1 _ _ (by have := hw'.1; omega) (by have := hw.1; omega) this
      have := hw'.1
      omega
  exact ⟨hL, fun k hk => all k hk (by omega) k (Nat.le_refl _)⟩
