/-! THE PURE PART: what comes to be known along basic cells -/
/-- how many of the first n aren't known -/
def t_cnt (f : Nat → Bool) : Nat → Nat
  | 0 => 0
  | n + 1 => t_cnt f n + if f n = true then 0 else 1
theorem t_cnt_le (f : Nat → Bool) : ∀ n, t_cnt f n ≤ n
  | 0 => Nat.le_refl 0
  | n + 1 => by
    have := t_cnt_le f n
    unfold t_cnt
    split <;> omega
theorem t_cnt_set {f : Nat → Bool} {p : Nat} (hp : f p = false) : ∀ n, t_cnt (t_put f p true) n + (if p < n then 1 else 0) = t_cnt f n
  | 0 => by rw [if_neg (by omega)]; rfl
  | n + 1 => by
    have ih := t_cnt_set hp n
    unfold t_cnt
    by_cases q : n = p
    · subst q
      rw [if_neg (by omega)] at ih
      rw [if_pos (show n < n + 1 by omega), if_pos (show t_put f n true n = true by unfold t_put; rw [if_pos rfl]), if_neg (show ¬ f n = true by rw [hp]; decide)]
      omega
    · have e : t_put f p true n = f n := by unfold t_put; rw [if_neg q]
      rw [e]
      by_cases r : p < n
      · rw [if_pos r] at ih; rw [if_pos (show p < n + 1 by omega)]; omega
      · rw [if_neg r] at ih; rw [if_neg (show ¬ p < n + 1 by omega)]; omega
theorem t_cnt_mono {f g : Nat → Bool} : ∀ n, (∀ k, k < n → f k = true → g k = true) → t_cnt g n ≤ t_cnt f n
  | 0, _ => Nat.le_refl 0
  | n + 1, h => by
    have ih := t_cnt_mono n (fun k hk => h k (by omega))
    have := h n (by omega)
    unfold t_cnt
    by_cases q : f n = true
    · rw [if_pos q, if_pos (this q)]; omega
    · rw [if_neg q]
      split <;> omega
theorem t_cnt_eq {f g : Nat → Bool} (n : Nat) (h : ∀ k, k < n → f k = g k) : t_cnt f n = t_cnt g n :=
  Nat.le_antisymm (t_cnt_mono n (fun k hk e => by rw [h k hk]; exact e)) (t_cnt_mono n (fun k hk e => by rw [← h k hk]; exact e))
theorem t_cnt_nd {S T : Nat} (hS : S ≤ 6) (hT : T ≤ 6) : t_cnt (fun v => decide (v < S) || (decide (6 ≤ v) && decide (v < 6 + T))) 12 + S + T = 12 := by
  rcases (show S = 0 ∨ S = 1 ∨ S = 2 ∨ S = 3 ∨ S = 4 ∨ S = 5 ∨ S = 6 by omega) with rfl | rfl | rfl | rfl | rfl | rfl | rfl <;>
  rcases (show T = 0 ∨ T = 1 ∨ T = 2 ∨ T = 3 ∨ T = 4 ∨ T = 5 ∨ T = 6 by omega) with rfl | rfl | rfl | rfl | rfl | rfl | rfl <;> decide +kernel
theorem t_cnt_in {S T : Nat} (hS : S ≤ 6) (hT : T ≤ 6) {f : Nat → Bool} (h : ∀ v, f v = true → t_nd S T v) : 12 ≤ t_cnt f 12 + S + T := by
  have a := t_cnt_nd hS hT
  have b := t_cnt_mono (f := f) (g := fun v => decide (v < S) || (decide (6 ≤ v) && decide (v < 6 + T))) 12 (fun k _ e => by
    rcases h k e with q | q
    · simp [q]
    · simp [q.1, q.2])
  omega
/-- pointers so far -/
def t_pi (S T : Nat) (B : Nat → Bool) (home : Nat) (kn : Nat → Bool) (nx rk : Nat → Nat) : Prop :=
  home < S ∧ kn home = true ∧ (∀ v, kn v = true → t_nd S T v) ∧ (∀ v, kn v = true → rk v + t_cnt kn 12 < 12) ∧
  (∀ v, kn v = true → v ≠ home → kn (nx v) = true ∧ rk (nx v) < rk v ∧ (v < 6 → 6 ≤ nx v) ∧ (6 ≤ v → nx v < 6) ∧ B (t_cell v (nx v)) = true)
def t_setN (f : Nat → Nat) (k x : Nat) : Nat → Nat := fun j => if j = k then x else f j
theorem t_pi_ext {S T : Nat} {B : Nat → Bool} (h : t_tree S T B) {home : Nat} {kn : Nat → Bool} {nx rk : Nat → Nat} (hi : t_pi S T B home kn nx rk) {c x y : Nat} (hc : c < 36) (hb : B c = true)
    (hxy : (x = c / 6 ∧ y = 6 + c % 6) ∨ (x = 6 + c % 6 ∧ y = c / 6)) (hx : kn x = false) (hy : kn y = true) :
    t_pi S T B home (t_put kn x true) (t_setN nx x y) (t_setN rk x (12 - t_cnt kn 12)) ∧ t_cnt (t_put kn x true) 12 + 1 = t_cnt kn 12 := by
  obtain ⟨h1, h2, h3, h4, h5⟩ := hi
  have hin := h.2.2.2.2.1 c hc hb
  have hS := h.2.1
  have hT := h.2.2.2.1
  have hxl : x < 12 := by rcases hxy with ⟨e, -⟩ | ⟨e, -⟩ <;> omega
  have hxn : t_nd S T x := by rcases hxy with ⟨e, -⟩ | ⟨e, -⟩ <;> unfold t_nd <;> omega
  have hcnt := t_cnt_set hx 12
  rw [if_pos hxl] at hcnt
  have hne : y ≠ x := fun e => by rw [e, hx] at hy; cases hy
  have hhx : home ≠ x := fun e => by rw [← e, h2] at hx; cases hx
  have kn' : ∀ v, t_put kn x true v = true ↔ (v = x ∨ kn v = true) := by
    intro v
    unfold t_put
    by_cases q : v = x
    · rw [if_pos q]; exact ⟨fun _ => Or.inl q, fun _ => rfl⟩
    · rw [if_neg q]; exact ⟨fun e => Or.inr e, fun e => e.resolve_left q⟩
  refine ⟨⟨h1, (kn' home).mpr (Or.inr h2), fun v hv => ?_, fun v hv => ?_, fun v hv hn => ?_⟩, hcnt⟩
  · rcases (kn' v).mp hv with e | e
    · rw [e]; exact hxn
    · exact h3 v e
  · unfold t_setN
    by_cases q : v = x
    · rw [if_pos q]
      have := h4 y hy
      omega
    · rw [if_neg q]
      have := h4 v (((kn' v).mp hv).resolve_left q)
      omega
  · by_cases q : v = x
    · subst q
      have e1 : t_setN nx v y v = y := by unfold t_setN; rw [if_pos rfl]
      have e2 : t_setN rk v (12 - t_cnt kn 12) v = 12 - t_cnt kn 12 := by unfold t_setN; rw [if_pos rfl]
      have e3 : t_setN rk v (12 - t_cnt kn 12) y = rk y := by unfold t_setN; rw [if_neg hne]
      rw [e1, e2, e3]
      have := h4 y hy
      refine ⟨(kn' y).mpr (Or.inr hy), by omega, fun _ => by omega, fun _ => by omega, ?_⟩
      rcases hxy with ⟨a, b⟩ | ⟨a, b⟩
      · rw [a, b, (t_cell_of hc).1]; exact hb
      · rw [a, b, (t_cell_of hc).2]; exact hb
    · have hv2 := ((kn' v).mp hv).resolve_left q
      obtain ⟨p1, p2, p3, p4, p5⟩ := h5 v hv2 hn
      have hnx : nx v ≠ x := fun e => by rw [e, hx] at p1; cases p1
      have e1 : t_setN nx x y v = nx v := by unfold t_setN; rw [if_neg q]
      have e2 : ∀ z, z ≠ x → t_setN rk x (12 - t_cnt kn 12) z = rk z := fun z hz => by unfold t_setN; rw [if_neg hz]
      rw [e1, e2 v q, e2 _ hnx]
      exact ⟨(kn' _).mpr (Or.inr p1), p2, p3, p4, p5⟩
theorem t_pi_init {S T home : Nat} {B : Nat → Bool} (hh : home < S) (hS : S ≤ 6) (nx rk : Nat → Nat) (h0 : rk home = 0) : t_pi S T B home (fun v => decide (v = home)) nx rk ∧ t_cnt (fun v => decide (v = home)) 12 = 11 := by
  have e : t_cnt (fun v => decide (v = home)) 12 = 11 := by
    rcases (show home = 0 ∨ home = 1 ∨ home = 2 ∨ home = 3 ∨ home = 4 ∨ home = 5 by omega) with rfl | rfl | rfl | rfl | rfl | rfl <;> decide +kernel
  refine ⟨⟨hh, decide_eq_true rfl, fun v hv => ?_, fun v hv => ?_, fun v hv hn => absurd (of_decide_eq_true hv) hn⟩, e⟩
  · rw [of_decide_eq_true hv]; exact Or.inl hh
  · rw [of_decide_eq_true hv, h0, e]; omega
theorem t_pi_all {S T : Nat} {B : Nat → Bool} (h : t_tree S T B) {home : Nat} {kn : Nat → Bool} {nx rk : Nat → Nat} (hi : t_pi S T B home kn nx rk) (hc : t_res B kn) : (∀ v, t_nd S T v → kn v = true) ∧ t_ptr S T B home nx rk := by
  obtain ⟨h1, h2, h3, h4, h5⟩ := hi
  have all : ∀ v, t_nd S T v → kn v = true := by
    intro v hv
    rw [h.2.2.2.2.2.1 kn hc v hv, ← h.2.2.2.2.2.1 kn hc home (Or.inl h1)]
    exact h2
  refine ⟨all, h1, fun v hv hn => ?_⟩
  obtain ⟨p1, p2, p3, p4, p5⟩ := h5 v (all v hv) hn
  have := h4 v (all v hv)
  exact ⟨h3 _ p1, p2, by omega, p3, p4, p5⟩
theorem t_ptr_ex {S T : Nat} {B : Nat → Bool} (h : t_tree S T B) {home : Nat} (hh : home < S) : ∃ nx rk, t_ptr S T B home nx rk := by
  have go : ∀ n kn nx rk, t_pi S T B home kn nx rk → t_cnt kn 12 ≤ n → ∃ nx rk, t_ptr S T B home nx rk := by
    intro n
    induction n with
    | zero =>
      intro kn nx rk hi hn
      refine ⟨nx, rk, (t_pi_all h hi (fun c hc hb => ?_)).2⟩
      apply Classical.byContradiction
      intro hne
      cases e1 : kn (c / 6) <;> cases e2 : kn (6 + c % 6)
      · exact hne (e1.trans e2.symm)
      · have := (t_pi_ext h hi hc hb (Or.inl ⟨rfl, rfl⟩) e1 e2).2; omega
      · have := (t_pi_ext h hi hc hb (Or.inr ⟨rfl, rfl⟩) e2 e1).2; omega
      · exact hne (e1.trans e2.symm)
    | succ n ih =>
      intro kn nx rk hi hn
      by_cases q : t_res B kn
      · exact ⟨nx, rk, (t_pi_all h hi q).2⟩
      · obtain ⟨c, hc, hb, hne⟩ : ∃ c, c < 36 ∧ B c = true ∧ kn (c / 6) ≠ kn (6 + c % 6) := by
          apply Classical.byContradiction
          intro hx
          exact q (fun c hc hb => Classical.byContradiction (fun e => hx ⟨c, hc, hb, e⟩))
        cases e1 : kn (c / 6) <;> cases e2 : kn (6 + c % 6)
        · exact absurd (e1.trans e2.symm) hne
        · have := t_pi_ext h hi hc hb (Or.inl ⟨rfl, rfl⟩) e1 e2
          exact ih _ _ _ this.1 (by omega)
        · have := t_pi_ext h hi hc hb (Or.inr ⟨rfl, rfl⟩) e2 e1
          exact ih _ _ _ this.1 (by omega)
        · exact absurd (e1.trans e2.symm) hne
  have i := t_pi_init (T := T) (B := B) hh h.2.1 (fun _ => 0) (fun _ => 0) rfl
  exact go 12 _ _ _ i.1 (t_cnt_le _ _)
theorem t_way_ex {S T : Nat} {B : Nat → Bool} (h : t_tree S T B) {cell : Nat} (h1 : cell / 6 < S) (h2 : cell % 6 < T) : ∃ nx rk L, t_ptr S T B (cell / 6) nx rk ∧ t_way S T B cell L (t_pn nx (6 + cell % 6)) := by
  obtain ⟨nx, rk, hp⟩ := t_ptr_ex h h1
  obtain ⟨L, hw⟩ := t_way_of h hp h2
  exact ⟨nx, rk, L, hp, hw⟩
/-! worths so far: U is by which cells they came -/
def t_wb (x : Int32) (m : Nat) : Prop := -(1100 * m : Int) ≤ x.toInt ∧ x.toInt ≤ 1100 * m
def t_wi (B : Nat → Bool) (cost : Nat → Int32) (kn : Nat → Bool) (w : Nat → Int32) : Prop :=
  kn 0 = true ∧ w 0 = 0 ∧ (∀ v, kn v = true → t_wb (w v) (12 - t_cnt kn 12)) ∧
  ∃ U : Nat → Bool, (∀ c, U c = true → c < 36 ∧ B c = true ∧ kn (c / 6) = true ∧ kn (6 + c % 6) = true ∧ w (c / 6) + w (6 + c % 6) = cost c) ∧
    ∀ K : Nat → Bool, (∀ c, U c = true → K (c / 6) = K (6 + c % 6)) → ∀ v, kn v = true → K v = K 0
theorem t_wb_sub {a b : Int32} {m : Nat} (hm : m ≤ 12) (hb : t_wb b m) (ha0 : 0 ≤ a.toInt) (ha : a.toInt ≤ 1100) : t_wb (a - b) (m + 1) := by
  obtain ⟨b1, b2⟩ := hb
  unfold t_wb
  have e : (a - b).toInt = a.toInt - b.toInt := by
    rw [Int32.toInt_sub]
    apply Int.bmod_eq_of_le <;> omega
  rw [e]
  omega
theorem t_wb_mono {a : Int32} {m n : Nat} (h : m ≤ n) (ha : t_wb a m) : t_wb a n := by
  unfold t_wb at *
  omega
theorem t_wi_ext {B : Nat → Bool} {cost : Nat → Int32} {kn : Nat → Bool} {w : Nat → Int32} (hi : t_wi B cost kn w) {c x y : Nat} (hc : c < 36) (hb : B c = true) (hc0 : 0 ≤ (cost c).toInt) (hc1 : (cost c).toInt ≤ 1100)
    (hxy : (x = c / 6 ∧ y = 6 + c % 6) ∨ (x = 6 + c % 6 ∧ y = c / 6)) (hx : kn x = false) (hy : kn y = true) :
    t_wi B cost (t_put kn x true) (upd w x (cost c - w y)) ∧ t_cnt (t_put kn x true) 12 + 1 = t_cnt kn 12 := by
  obtain ⟨h1, h2, h3, U, h4, h5⟩ := hi
  have hxl : x < 12 := by rcases hxy with ⟨e, -⟩ | ⟨e, -⟩ <;> omega
  have hcnt := t_cnt_set hx 12
  rw [if_pos hxl] at hcnt
  have hle := t_cnt_le kn 12
  have hne : y ≠ x := fun e => by rw [e, hx] at hy; cases hy
  have h0x : 0 ≠ x := fun e => by rw [← e, h1] at hx; cases hx
  have kn' : ∀ v, t_put kn x true v = true ↔ (v = x ∨ kn v = true) := by
    intro v
    unfold t_put
    by_cases q : v = x
    · rw [if_pos q]; exact ⟨fun _ => Or.inl q, fun _ => rfl⟩
    · rw [if_neg q]; exact ⟨fun e => Or.inr e, fun e => e.resolve_left q⟩
  have w' : ∀ v, kn v = true → upd w x (cost c - w y) v = w v := by
    intro v hv
    unfold upd
    rw [if_neg (fun e => by rw [e, hx] at hv; cases hv)]
  have wx : upd w x (cost c - w y) x = cost c - w y := by unfold upd; rw [if_pos rfl]
  refine ⟨⟨(kn' 0).mpr (Or.inr h1), by rw [w' 0 h1]; exact h2, fun v hv => ?_, t_put U c true, fun d hd => ?_, fun K hK v hv => ?_⟩, hcnt⟩
  · by_cases q : v = x
    · subst q
      rw [wx]
      have := t_wb_sub (m := 12 - t_cnt kn 12) (by omega) (h3 y hy) hc0 hc1
      exact t_wb_mono (by omega) this
    · have hv2 := ((kn' v).mp hv).resolve_left q
      rw [w' v hv2]
      exact t_wb_mono (by omega) (h3 v hv2)
  · by_cases q : d = c
    · subst q
      refine ⟨hc, hb, ?_, ?_, ?_⟩
      · rcases hxy with ⟨a, b⟩ | ⟨a, b⟩
        · exact (kn' _).mpr (Or.inl a.symm)
        · exact (kn' _).mpr (Or.inr (by rw [← b]; exact hy))
      · rcases hxy with ⟨a, b⟩ | ⟨a, b⟩
        · exact (kn' _).mpr (Or.inr (by rw [← b]; exact hy))
        · exact (kn' _).mpr (Or.inl a.symm)
      · rcases hxy with ⟨a, b⟩ | ⟨a, b⟩
        · rw [← a, ← b, wx, w' y hy, Int32.sub_add_cancel]
        · rw [← a, ← b, wx, w' y hy, Int32.add_comm, Int32.sub_add_cancel]
    · have hd2 : U d = true := by unfold t_put at hd; rw [if_neg q] at hd; exact hd
      obtain ⟨a1, a2, a3, a4, a5⟩ := h4 d hd2
      refine ⟨a1, a2, (kn' _).mpr (Or.inr a3), (kn' _).mpr (Or.inr a4), ?_⟩
      rw [w' _ a3, w' _ a4]; exact a5
  · have hU : ∀ d, U d = true → K (d / 6) = K (6 + d % 6) := fun d hd => hK d (by
      unfold t_put
      by_cases q : d = c
      · rw [if_pos q]
      · rw [if_neg q]; exact hd)
    have hKc := hK c (by unfold t_put; rw [if_pos rfl])
    have base := h5 K hU
    by_cases q : v = x
    · subst q
      rw [← base y hy]
      rcases hxy with ⟨a, b⟩ | ⟨a, b⟩
      · rw [a, b]; exact hKc
      · rw [a, b]; exact hKc.symm
    · exact base v (((kn' v).mp hv).resolve_left q)
/-- the worths of a plan -/
def t_W (S T : Nat) (B : Nat → Bool) (cost w : Nat → Int32) : Prop := w 0 = 0 ∧ (∀ c, c < 36 → B c = true → w (c / 6) + w (6 + c % 6) = cost c) ∧ ∀ v, t_nd S T v → t_wb (w v) 12
theorem t_wi_init {B : Nat → Bool} {cost : Nat → Int32} {w : Nat → Int32} (h : w 0 = 0) : t_wi B cost (fun v => decide (v = 0)) w := by
  refine ⟨rfl, h, fun v hv => ?_, fun _ => false, fun c hc => (by cases hc), fun K _ v hv => by rw [of_decide_eq_true hv]⟩
  rw [of_decide_eq_true hv, h]
  unfold t_wb
  have : (0 : Int32).toInt = 0 := rfl
  omega
theorem t_wi_all {S T : Nat} {B : Nat → Bool} (h : t_tree S T B) {cost : Nat → Int32} {kn : Nat → Bool} {w : Nat → Int32} (hi : t_wi B cost kn w) (hc : t_res B kn) : t_W S T B cost w := by
  obtain ⟨h1, h2, h3, U, h4, h5⟩ := hi
  have all : ∀ v, t_nd S T v → kn v = true := fun v hv => by rw [h.2.2.2.2.2.1 kn hc v hv]; exact h1
  refine ⟨h2, fun c hc hb => ?_, fun v hv => t_wb_mono (by omega) (h3 v (all v hv))⟩
  by_cases q : U c = true
  · exact (h4 c q).2.2.2.2
  · exfalso
    obtain ⟨K, k1, k2⟩ := h.2.2.2.2.2.2 c hc hb
    have hin := h.2.2.2.2.1 c hc hb
    have base := h5 K (fun d hd => k2 d (h4 d hd).1 (h4 d hd).2.1 (fun e => q (by rw [← e]; exact hd)))
    exact k1 ((base _ (all _ (Or.inl hin.1))).trans (base _ (all _ (Or.inr ⟨by omega, by omega⟩))).symm)
theorem t_W_uniq {S T : Nat} {B : Nat → Bool} (h : t_tree S T B) {cost w w' : Nat → Int32} (a : t_W S T B cost w) (b : t_W S T B cost w') : ∀ v, t_nd S T v → w v = w' v :=
  t_uniq h (a.1.trans b.1.symm) a.2.1 b.2.1
