/-! THE PURE PART: how a plan is started: what is open (O), what is basic so far (B) -/
def t_op (S T : Nat) (B O : Nat → Bool) : Prop :=
  t_in S T B ∧ (∀ u, O u = true → t_nd S T u) ∧ (∀ u, O u = true → ∃ K : Nat → Bool, K u = true ∧ (∀ v, O v = true → v ≠ u → K v = false) ∧ t_res B K) ∧
  (∀ e, e < 36 → B e = true → ∃ K : Nat → Bool, t_brk B e K ∧ ∀ v, O v = true → K v = false) ∧ (∀ v, t_nd S T v → ∃ u, O u = true ∧ ∀ K, t_res B K → K v = K u)
def t_put (f : Nat → Bool) (k : Nat) (x : Bool) : Nat → Bool := fun j => if j = k then x else f j
theorem t_op_init (S T : Nat) (O : Nat → Bool) (hO : ∀ u, O u = true ↔ t_nd S T u) : t_op S T (fun _ => false) O := by
  refine ⟨fun c _ h => (by cases h), fun u h => (hO u).mp h, fun u h => ⟨fun v => decide (v = u), decide_eq_true rfl, fun v _ hn => decide_eq_false hn, fun c _ h => (by cases h)⟩, fun e _ h => (by cases h), fun v hv => ⟨v, (hO v).mpr hv, fun _ _ => rfl⟩⟩
theorem t_op_step {S T : Nat} {B O : Nat → Bool} (hS6 : S ≤ 6) (h : t_op S T B O) {c x y : Nat} (hc : c < 36) (ho : O (c / 6) = true) (ho2 : O (6 + c % 6) = true) (hxy : (x = c / 6 ∧ y = 6 + c % 6) ∨ (x = 6 + c % 6 ∧ y = c / 6)) :
    t_op S T (t_put B c true) (t_put O x false) := by
  obtain ⟨hin, hnd, hH, hBr, hC⟩ := h
  have hT : 6 + c % 6 < 6 + T := by
    rcases hnd _ ho2 with q | q
    · have := hnd _ ho
      rcases hnd _ ho with r | r <;> omega
    · exact q.2
  have hS : c / 6 < S := by
    rcases hnd _ ho with q | q
    · exact q
    · omega
  have hx : O x = true := by rcases hxy with ⟨e, -⟩ | ⟨e, -⟩ <;> rw [e] <;> assumption
  have hy : O y = true := by rcases hxy with ⟨-, e⟩ | ⟨-, e⟩ <;> rw [e] <;> assumption
  have hne : y ≠ x := by rcases hxy with ⟨e, f⟩ | ⟨e, f⟩ <;> omega
  have hcK : ∀ K : Nat → Bool, K (c / 6) = K (6 + c % 6) ↔ K x = K y := by
    intro K
    rcases hxy with ⟨e, f⟩ | ⟨e, f⟩
    · rw [e, f]
    · rw [e, f]; exact eq_comm
  have hO : ∀ v, t_put O x false v = true → O v = true ∧ v ≠ x := by
    intro v hv
    unfold t_put at hv
    by_cases q : v = x
    · rw [if_pos q] at hv; cases hv
    · rw [if_neg q] at hv; exact ⟨hv, q⟩
  have hB : ∀ d, t_put B c true d = true → d = c ∨ (d ≠ c ∧ B d = true) := by
    intro d hd
    unfold t_put at hd
    by_cases q : d = c
    · exact Or.inl q
    · rw [if_neg q] at hd; exact Or.inr ⟨q, hd⟩
  have res' : ∀ K, t_res B K → K x = K y → t_res (t_put B c true) K := by
    intro K hK hxy d hd hb
    rcases hB d hb with q | q
    · rw [q]; exact (hcK K).mpr hxy
    · exact hK d hd q.2
  refine ⟨fun d hd hb => ?_, fun u hu => hnd u (hO u hu).1, fun u hu => ?_, fun e he hb => ?_, fun v hv => ?_⟩
  · rcases hB d hb with q | q
    · subst q; exact ⟨hS, by omega⟩
    · exact hin d hd q.2
  · obtain ⟨hu1, hu2⟩ := hO u hu
    obtain ⟨K, k1, k2, k3⟩ := hH u hu1
    by_cases q : u = y
    · subst q
      obtain ⟨Kx, x1, x2, x3⟩ := hH x hx
      refine ⟨fun v => K v || Kx v, ?_, fun v hv hn => ?_, ?_⟩
      · show (K u || Kx u) = true
        rw [k1]; rfl
      · obtain ⟨hv1, hv2⟩ := hO v hv
        show (K v || Kx v) = false
        rw [k2 v hv1 hn, x2 v hv1 hv2]; rfl
      · refine res' _ (fun d hd hb => ?_) ?_
        · show (K _ || Kx _) = (K _ || Kx _)
          rw [k3 d hd hb, x3 d hd hb]
        · show (K x || Kx x) = (K u || Kx u)
          rw [k1, x1, Bool.or_true, Bool.true_or]
    · refine ⟨K, k1, fun v hv hn => k2 v (hO v hv).1 hn, res' K k3 ?_⟩
      rw [k2 x hx (fun e => hu2 e.symm), k2 y hy (fun e => q e.symm)]
  · rcases hB e hb with q | q
    · subst q
      obtain ⟨K, k1, k2, k3⟩ := hH x hx
      refine ⟨K, ⟨fun hh => ?_, fun d hd hb2 hn => ?_⟩, fun v hv => k2 v (hO v hv).1 (hO v hv).2⟩
      · have := (hcK K).mp hh
        rw [k1, k2 y hy hne] at this
        cases this
      · rcases hB d hb2 with r | r
        · exact absurd r hn
        · exact k3 d hd r.2
    · obtain ⟨K, ⟨k1, k2⟩, k3⟩ := hBr e he q.2
      refine ⟨K, ⟨k1, fun d hd hb2 hn => ?_⟩, fun v hv => k3 v (hO v hv).1⟩
      rcases hB d hb2 with r | r
      · rw [r]
        rw [k3 _ ho, k3 _ ho2]
      · exact k2 d hd r.2 hn
  · obtain ⟨u, hu, hK⟩ := hC v hv
    have sub : ∀ K, t_res (t_put B c true) K → t_res B K ∧ K x = K y := by
      intro K hK
      refine ⟨fun d hd hb => hK d hd ?_, (hcK K).mp (hK c hc ?_)⟩
      · unfold t_put
        by_cases q : d = c
        · rw [if_pos q]
        · rw [if_neg q]; exact hb
      · unfold t_put; rw [if_pos rfl]
    by_cases q : u = x
    · refine ⟨y, ?_, fun K hk => ?_⟩
      · unfold t_put; rw [if_neg hne]; exact hy
      · rw [hK K (sub K hk).1, q]; exact (sub K hk).2
    · refine ⟨u, ?_, fun K hk => hK K (sub K hk).1⟩
      unfold t_put; rw [if_neg q]; exact hu
theorem t_op_end {S T : Nat} {B O : Nat → Bool} (h : t_op S T B O) (hS : 0 < S ∧ S ≤ 6) (hT : 0 < T ∧ T ≤ 6) {u : Nat} (hu : ∀ v, O v = true → v = u) : t_tree S T B := by
  obtain ⟨hin, hnd, hH, hBr, hC⟩ := h
  refine ⟨hS.1, hS.2, hT.1, hT.2, hin, fun K hK v hv => ?_, fun e he hb => ?_⟩
  · obtain ⟨a, a1, a2⟩ := hC v hv
    obtain ⟨b, b1, b2⟩ := hC 0 (Or.inl hS.1)
    rw [a2 K hK, b2 K hK, hu a a1, hu b b1]
  · obtain ⟨K, hK, -⟩ := hBr e he hb
    exact ⟨K, hK⟩
/-! sums -/
def t_sum (f : Nat → Int) : Nat → Int
  | 0 => 0
  | n + 1 => t_sum f n + f n
theorem t_sum_eq {f g : Nat → Int} : ∀ n, (∀ k, k < n → f k = g k) → t_sum f n = t_sum g n
  | 0, _ => rfl
  | n + 1, h => by
    unfold t_sum
    rw [t_sum_eq n (fun k hk => h k (by omega)), h n (by omega)]
theorem t_sum_ge {f : Nat → Int} : ∀ n, (∀ k, k < n → 0 ≤ f k) → 0 ≤ t_sum f n ∧ ∀ k, k < n → f k ≤ t_sum f n
  | 0, _ => ⟨Int.le_refl 0, fun k h => by omega⟩
  | n + 1, h => by
    obtain ⟨a, b⟩ := t_sum_ge n (fun k hk => h k (by omega))
    have := h n (by omega)
    unfold t_sum
    refine ⟨by omega, fun k hk => ?_⟩
    by_cases q : k = n
    · subst q; omega
    · have := b k (by omega); omega
theorem t_sum_le {f : Nat → Int} {m : Int} : ∀ n : Nat, (∀ k, k < n → f k ≤ m) → t_sum f n ≤ n * m
  | 0, _ => by unfold t_sum; omega
  | n + 1, h => by
    have a := t_sum_le n (fun k hk => h k (by omega))
    have := h n (by omega)
    unfold t_sum
    have e : ((n + 1 : Nat) : Int) * m = n * m + m := by rw [Int.natCast_add, Int.add_mul]; simp
    omega
theorem t_sum_up {f g : Nat → Int} {p : Nat} (hg : ∀ k, k ≠ p → g k = f k) : ∀ n, t_sum g n = if p < n then t_sum f n - f p + g p else t_sum f n
  | 0 => by rw [if_neg (by omega)]; rfl
  | n + 1 => by
    have ih := t_sum_up hg n
    unfold t_sum
    by_cases q : p < n
    · rw [if_pos (by omega), ih, if_pos q, hg n (by omega)]; omega
    · rw [if_neg q] at ih
      by_cases e : p = n
      · subst e
        rw [if_pos (by omega), ih]; omega
      · rw [if_neg (by omega), ih, hg n (fun h => e h.symm)]
theorem t_sum_zero {f : Nat → Int} : ∀ n, (∀ k, k < n → 0 ≤ f k) → t_sum f n = 0 → ∀ k, k < n → f k = 0 := by
  intro n h e k hk
  have a := (t_sum_ge n h).2 k hk
  have b := h k hk
  omega
/-! the loads behind a step -/
def t_ld (P : Nat → Nat) (tn : Int32) (f : Nat → Int32) : Nat → Nat → Int32
  | 0 => f
  | k + 1 => upd (t_ld P tn f k) (P k) (t_ld P tn f k (P k) + if k % 2 = 0 then tn else -tn)
theorem t_ld_off {P : Nat → Nat} {tn : Int32} {f : Nat → Int32} {c : Nat} : ∀ n, (∀ k, k < n → P k ≠ c) → t_ld P tn f n c = f c
  | 0, _ => rfl
  | n + 1, h => by
    unfold t_ld upd
    rw [if_neg (fun e => h n (by omega) e.symm)]
    exact t_ld_off n (fun k hk => h k (by omega))
theorem t_ld_on {P : Nat → Nat} {tn : Int32} {f : Nat → Int32} {L : Nat} (inj : ∀ j k, j < L → k < L → P j = P k → j = k) : ∀ n, n ≤ L → ∀ j, j < n → t_ld P tn f n (P j) = f (P j) + if j % 2 = 0 then tn else -tn
  | 0, _, _, h => by omega
  | n + 1, hn, j, hj => by
    unfold t_ld upd
    by_cases q : j = n
    · subst q
      rw [if_pos rfl, t_ld_off j (fun k hk e => by have := inj k j (by omega) (by omega) e; omega)]
    · rw [if_neg (fun e => q (inj j n (by omega) (by omega) e))]
      exact t_ld_on inj n (by omega) j (by omega)
/-- what a step does to loads that are in 0 .. 600, all together at most 600 -/
theorem t_ld_ok {P : Nat → Nat} {tn : Int32} {f : Nat → Int32} {L : Nat} (inj : ∀ j k, j < L → k < L → P j = P k → j = k) (hP : ∀ k, k < L → P k < 36) (hL : L % 2 = 0) (h0 : ∀ c, c < 36 → 0 ≤ (f c).toInt)
    (hs : t_sum (fun c => (f c).toInt) 36 ≤ 600) (ht0 : 0 ≤ tn.toInt) (ht : ∀ k, k < L → k % 2 = 1 → tn.toInt ≤ (f (P k)).toInt) (ht6 : tn.toInt ≤ 600) :
    (∀ c, c < 36 → 0 ≤ (t_ld P tn f L c).toInt) ∧ t_sum (fun c => (t_ld P tn f L c).toInt) 36 = t_sum (fun c => (f c).toInt) 36 := by
  have hb := (t_sum_ge (f := fun c => (f c).toInt) 36 h0).2
  have addI : ∀ c, c < 36 → (f c + tn).toInt = (f c).toInt + tn.toInt := by
    intro c hc
    have := hb c hc
    have := h0 c hc
    rw [Int32.toInt_add]
    apply Int.bmod_eq_of_le <;> omega
  have subI : ∀ c, c < 36 → (f c + -tn).toInt = (f c).toInt - tn.toInt := by
    intro c hc
    have := hb c hc
    have := h0 c hc
    rw [← Int32.sub_eq_add_neg, Int32.toInt_sub]
    apply Int.bmod_eq_of_le <;> omega
  have val : ∀ n, n ≤ L → ∀ c, c < 36 → ((∀ k, k < n → P k ≠ c) ∧ t_ld P tn f n c = f c) ∨ (∃ j, j < n ∧ P j = c ∧ (t_ld P tn f n c).toInt = (f c).toInt + if j % 2 = 0 then tn.toInt else -tn.toInt) := by
    intro n hn c hc
    by_cases q : ∃ j, j < n ∧ P j = c
    · obtain ⟨j, hj, e⟩ := q
      refine Or.inr ⟨j, hj, e, ?_⟩
      rw [← e, t_ld_on inj n hn j hj]
      by_cases r : j % 2 = 0
      · rw [if_pos r, if_pos r, addI _ (hP j (by omega))]
      · rw [if_neg r, if_neg r, subI _ (hP j (by omega))]; omega
    · have q2 : ∀ k, k < n → P k ≠ c := fun k hk e => q ⟨k, hk, e⟩
      exact Or.inl ⟨q2, t_ld_off n q2⟩
  constructor
  · intro c hc
    rcases val L (Nat.le_refl L) c hc with ⟨-, e⟩ | ⟨j, hj, e, e2⟩
    · rw [e]; exact h0 c hc
    · rw [e2]
      have := h0 c hc
      by_cases r : j % 2 = 0
      · rw [if_pos r]; omega
      · rw [if_neg r]
        have := ht j hj (by omega)
        rw [e] at this
        omega
  · have sums : ∀ n, n ≤ L → t_sum (fun c => (t_ld P tn f n c).toInt) 36 = t_sum (fun c => (f c).toInt) 36 + if n % 2 = 0 then 0 else tn.toInt := by
      intro n
      induction n with
      | zero => intro _; rw [if_pos rfl, Int.add_zero]; rfl
      | succ n ih =>
        intro hn
        have i1 := ih (by omega)
        have e1 : ∀ k, k ≠ P n → (fun c => (t_ld P tn f (n + 1) c).toInt) k = (fun c => (t_ld P tn f n c).toInt) k := by
          intro k hk
          show (upd (t_ld P tn f n) (P n) _ k).toInt = (t_ld P tn f n k).toInt
          unfold upd
          rw [if_neg hk]
        rw [t_sum_up e1 36, if_pos (hP n (by omega))]
        have e2 : (t_ld P tn f (n + 1) (P n)).toInt = (f (P n)).toInt + if n % 2 = 0 then tn.toInt else -tn.toInt := by
          rw [t_ld_on inj (n + 1) hn n (by omega)]
          by_cases r : n % 2 = 0
          · rw [if_pos r, if_pos r, addI _ (hP n (by omega))]
          · rw [if_neg r, if_neg r, subI _ (hP n (by omega))]; omega
        have e3 : t_ld P tn f n (P n) = f (P n) := t_ld_off n (fun k hk e => by have := inj k n (by omega) (by omega) e; omega)
        show _ - (t_ld P tn f n (P n)).toInt + (t_ld P tn f (n + 1) (P n)).toInt = _
        rw [e2, e3, i1]
        by_cases r : n % 2 = 0
        · rw [if_pos r, if_pos r, if_neg (by omega)]; omega
        · rw [if_neg r, if_neg r, if_pos (by omega)]; omega
    have := sums L (Nat.le_refl L)
    rw [if_pos hL] at this
    omega
