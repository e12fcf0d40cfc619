/-! THE CALLS: rise: what a dearer basic cell does to worths and spares */ -/
theorem a_sr (x y r : Int32) : (x - r) + (y + r) = x + y := by
  rw [Int32.sub_eq_add_neg, Int32.add_assoc, ← Int32.add_assoc (-r) y r, Int32.add_comm (-r) y, Int32.add_assoc y, Int32.add_comm (-r) r, ← Int32.sub_eq_add_neg, Int32.sub_self, Int32.add_zero]
theorem a_rs (x y r : Int32) : (x + r) + (y - r) = x + y := by
  rw [Int32.add_comm, a_sr, Int32.add_comm]
def rs_w (K : Nat → Bool) (e : Nat) (r : Int32) (w : Nat → Int32) : Nat → Int32 := fun v => if K 0 = K (e / 6) then (if K v = K (e / 6) then w v else if v < 6 then w v - r else w v + r) else (if K v = K (e / 6) then (if v < 6 then w v + r else w v - r) else w v)
theorem rs_eq {S T : Nat} {B K : Nat → Bool} {cost w w' : Nat → Int32} {e : Nat} {r : Int32} (ht : t_tree S T B) (he : e < 36) (hK : t_brk B e K) (h0 : w 0 = 0) (hw : ∀ c, c < 36 → B c = true → w (c / 6) + w (6 + c % 6) = cost c) (h0' : w' 0 = 0) (hw' : ∀ c, c < 36 → B c = true → w' (c / 6) + w' (6 + c % 6) = upd cost e (cost e + r) c) : ∀ v, t_nd S T v → w' v = rs_w K e r w v := by
  have r0 : rs_w K e r w 0 = 0 := by
    unfold rs_w
    by_cases q : K 0 = K (e / 6)
    · rw [if_pos q, if_pos q]; exact h0
    · rw [if_neg q, if_neg q]; exact h0
  refine t_uniq ht (h0'.trans r0.symm) hw' (fun c hc hb => ?_)
  have s1 : c / 6 < 6 := by omega
  have s2 : ¬ 6 + c % 6 < 6 := by omega
  unfold rs_w upd
  by_cases ce : c = e
  · subst ce
    have ne : ¬ K (6 + c % 6) = K (c / 6) := fun z => hK.1 z.symm
    rw [if_pos rfl, if_pos rfl, if_neg ne, if_neg ne, if_neg s2, if_pos s1, if_pos rfl, ← hw c hc hb]
    by_cases q : K 0 = K (c / 6)
    · rw [if_pos q, if_pos q, Int32.add_assoc]
    · rw [if_neg q, if_neg q, Int32.add_assoc, Int32.add_comm r, Int32.add_assoc]
  · have eq := hK.2 c hc hb ce
    rw [if_neg ce, if_pos s1, if_pos s1, if_neg s2, if_neg s2, ← eq, ← hw c hc hb]
    by_cases q : K 0 = K (e / 6)
    · rw [if_pos q, if_pos q]
      by_cases p : K (c / 6) = K (e / 6)
      · rw [if_pos p, if_pos p]
      · rw [if_neg p, if_neg p, a_sr]
    · rw [if_neg q, if_neg q]
      by_cases p : K (c / 6) = K (e / 6)
      · rw [if_pos p, if_pos p, a_rs]
      · rw [if_neg p, if_neg p]
theorem b_sub (a b c : Int32) : a - b - c = a - (b + c) := by
  rw [Int32.sub_eq_add_neg, Int32.sub_eq_add_neg, Int32.sub_eq_add_neg, Int32.neg_add, Int32.sub_eq_add_neg, Int32.add_assoc]
theorem b_ss (a b c : Int32) : a - (b - c) = a - b + c := by
  rw [Int32.sub_eq_add_neg a (b - c), Int32.neg_sub, Int32.sub_eq_add_neg c b, Int32.sub_eq_add_neg a b, Int32.add_assoc, Int32.add_comm (-b) c]
theorem b_rc (y r z : Int32) : y - r + z = y + z - r := by
  rw [Int32.sub_eq_add_neg, Int32.sub_eq_add_neg, Int32.add_assoc, Int32.add_comm (-r) z, ← Int32.add_assoc]
theorem rs_sp (K : Nat → Bool) {e c : Nat} (r : Int32) (cost w : Nat → Int32) (hc : c < 36) (ne : c ≠ e) : t_sp (upd cost e (cost e + r)) (rs_w K e r w) c = if K (c / 6) = K (e / 6) ∧ ¬ K (6 + c % 6) = K (e / 6) then t_sp cost w c - r else if ¬ K (c / 6) = K (e / 6) ∧ K (6 + c % 6) = K (e / 6) then t_sp cost w c + r else t_sp cost w c := by
  have s1 : c / 6 < 6 := by omega
  have s2 : ¬ 6 + c % 6 < 6 := by omega
  have e1 : ∀ a b d : Int32, a - (b + d) = a - b - d := fun a b d => (b_sub a b d).symm
  have e2 : ∀ x r : Int32, x = x + r - r := fun x r => (Int32.add_sub_cancel x r).symm
  have e3 : ∀ x r : Int32, x = x - r + r := fun x r => (Int32.sub_add_cancel x r).symm
  unfold t_sp rs_w upd
  rw [if_neg ne, if_pos s1, if_pos s1, if_neg s2, if_neg s2]
  generalize w (c / 6) = y
  generalize w (6 + c % 6) = z
  generalize cost c = x
  by_cases q : K 0 = K (e / 6) <;> by_cases p : K (c / 6) = K (e / 6) <;> by_cases t : K (6 + c % 6) = K (e / 6) <;> simp only [q, p, t, if_true, if_false, and_self, and_true, and_false, not_true_eq_false, not_false_eq_true, true_and, false_and, ↓reduceIte]
  · rw [e1]
  · rw [b_sub, b_sub, b_rc, b_ss]
  · rw [b_sub, b_sub, a_sr]
  · rw [b_sub, b_sub, a_rs]
  · rw [b_sub, b_sub, b_sub, Int32.add_assoc, Int32.add_comm r z]
  · rw [b_ss]
/-- the cells that a dearer e makes dear stay at r or above -/
def rs_at (S T : Nat) (K : Nat → Bool) (e : Nat) (sp : Nat → Int32) (r : Nat) : Prop := ∀ c, c < 36 → t_pl S T c → c ≠ e → K (c / 6) = K (e / 6) → ¬ K (6 + c % 6) = K (e / 6) → (r : Int) ≤ (sp c).toInt
theorem rs_none {S T : Nat} {K : Nat → Bool} {e r : Nat} {cost w : Nat → Int32} (hr : r ≤ 100) (hn : t_none S T (t_sp cost w) 36) (hb : ∀ c, c < 36 → t_pl S T c → -27500 ≤ (t_sp cost w c).toInt ∧ (t_sp cost w c).toInt ≤ 27500) (he : t_sp (upd cost e (cost e + nI r)) (rs_w K e (nI r) w) e = 0) :
    t_none S T (t_sp (upd cost e (cost e + nI r)) (rs_w K e (nI r) w)) 36 ↔ rs_at S T K e (t_sp cost w) r := by
  have er : (nI r).toInt = r := nI_i (by omega)
  have e0 : (0 : Int32).toInt = 0 := rfl
  have sb : ∀ x : Int32, -27500 ≤ x.toInt ∧ x.toInt ≤ 27500 → (x - nI r).toInt = x.toInt - r ∧ (x + nI r).toInt = x.toInt + r := by
    intro x hx
    refine ⟨?_, ?_⟩
    · rw [Int32.toInt_sub, er]; apply Int.bmod_eq_of_le <;> omega
    · rw [Int32.toInt_add, er]; apply Int.bmod_eq_of_le <;> omega
  constructor
  · intro h c hc hp ne k1 k2
    have := h c hc hp
    rw [rs_sp K (nI r) cost w hc ne, if_pos ⟨k1, k2⟩, Int32.lt_iff_toInt_lt, (sb _ (hb c hc hp)).1, e0] at this
    omega
  · intro h c hc hp
    by_cases ne : c = e
    · subst ne
      rw [he]; decide
    · have nn := hn c hc hp
      rw [Int32.lt_iff_toInt_lt, e0] at nn
      have b := sb _ (hb c hc hp)
      rw [rs_sp K (nI r) cost w hc ne]
      by_cases q : K (c / 6) = K (e / 6) ∧ ¬ K (6 + c % 6) = K (e / 6)
      · rw [if_pos q, Int32.lt_iff_toInt_lt, b.1, e0]
        have := h c hc hp ne q.1 q.2
        omega
      · rw [if_neg q]
        by_cases q2 : ¬ K (c / 6) = K (e / 6) ∧ K (6 + c % 6) = K (e / 6)
        · rw [if_pos q2, Int32.lt_iff_toInt_lt, b.2, e0]
          omega
        · rw [if_neg q2, Int32.lt_iff_toInt_lt, e0]
          exact nn
