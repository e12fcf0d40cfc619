/-! THE CALLS: rise: when the dearer plan is still proved -/
theorem rs_stop {S T e r : Nat} {cost w w' : Nat → Int32} {A : TA} {K : Nat → Bool} (ok : t_ok S T cost A) (he : e < 36) (hB : A.2.2.1 e = true) (hK : t_brk A.2.2.1 e K) (W : t_W S T A.2.2.1 cost w) (hn : t_none S T (t_sp cost w) 36) (hr : r ≤ 100) (W' : t_W S T A.2.2.1 (upd cost e (cost e + nI r)) w') :
    t_stop S T (upd cost e (cost e + nI r)) A ↔ rs_at S T K e (t_sp cost w) r := by
  have eqs : ∀ v, t_nd S T v → w' v = rs_w K e (nI r) w v := rs_eq ok.1 he hK W.1 W.2.1 W'.1 W'.2.1
  have nds : ∀ c, c < 36 → t_pl S T c → t_nd S T (c / 6) ∧ t_nd S T (6 + c % 6) := fun c hc hp => ⟨Or.inl hp.1, Or.inr ⟨by omega, by have := hp.2; omega⟩⟩
  have spe : ∀ c, c < 36 → t_pl S T c → t_sp (upd cost e (cost e + nI r)) w' c = t_sp (upd cost e (cost e + nI r)) (rs_w K e (nI r) w) c := by
    intro c hc hp
    unfold t_sp
    rw [eqs _ (nds c hc hp).1, eqs _ (nds c hc hp).2]
  have pe : t_pl S T e := ok.1.2.2.2.2.1 e he hB
  have he0 : t_sp (upd cost e (cost e + nI r)) (rs_w K e (nI r) w) e = 0 := by
    rw [← spe e he pe]
    unfold t_sp
    rw [← W'.2.1 e he hB, b_sub, Int32.sub_self]
  have key := rs_none (S := S) (T := T) (K := K) hr hn (fun c hc hp => (t_sp_ex ok.1 W ok.2.1 hc hp).2) he0
  rw [← key]
  constructor
  · rintro ⟨w2, W2, n2⟩ c hc hp
    rw [← spe c hc hp]
    have := n2 c hc hp
    rw [t_sp_eq ok.1 W2 W' hp] at this
    exact this
  · intro h
    refine ⟨w', W', fun c hc hp => ?_⟩
    rw [spe c hc hp]
    exact h c hc hp
