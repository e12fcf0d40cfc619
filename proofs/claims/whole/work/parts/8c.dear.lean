/-! THE CALLS: rise: one round of the class */ -/
theorem x3_dear {S T e r : Nat} {cost : Nat → Int32} {A : TA} {m : Mem} (ok : t_ok S T cost A) (he : e < 36) (hB : A.2.2.1 e = true) (h1000 : (cost e).toInt ≤ 1000) (hr : r < 99) (x : XR 102 S T (upd cost e (cost e + nI r)) A m) :
    ∃ m1 b m2, f_X3_reckonWorths 102 (st m 103 e ((m.1 103 e) + 1)) = some m1 ∧ f_X3_isProved 102 m1 = some (b01 b, m2) ∧ XR 102 S T (upd cost e (cost e + nI (r + 1))) A m2 ∧ fr SCR m m2 ∧ (b = true ↔ t_stop S T (upd cost e (cost e + nI (r + 1))) A) := by
  have pe : t_pl S T e := ok.1.2.2.2.2.1 e he hB
  have up : ∀ y, upd cost e y e = y := fun y => by unfold upd; rw [if_pos rfl]
  have un : ∀ y c, c ≠ e → upd cost e y c = cost c := fun y c h => by unfold upd; rw [if_neg h]
  have c0 := ok.2.1 e he pe.1 pe.2
  have er : (cost e + nI (r + 1)).toInt = (cost e).toInt + (r + 1 : Nat) := by
    rw [Int32.toInt_add, nI_i (by omega)]; apply Int.bmod_eq_of_le <;> omega
  have cok : t_cok (upd cost e (cost e + nI (r + 1))) S T := by
    intro c hc a b
    by_cases q : c = e
    · subst q; rw [up, er]; omega
    · rw [un _ c q]; exact ok.2.1 c hc a b
  have okr : t_ok S T (upd cost e (cost e + nI (r + 1))) A := ⟨ok.1, cok, ok.2.2⟩
  obtain ⟨x1, x2, x3, x4, x5, x6, x7, x8⟩ := id x
  have xc : m.1 103 e + 1 = cost e + nI (r + 1) := by
    rw [show m.1 103 e = _ from x6 e he pe, up, Int32.add_assoc, q_add1]
  rw [xc]
  generalize em : st m 103 e (cost e + nI (r + 1)) = m0
  have f0 : fr (fun c _ => c = 103) m m0 := by rw [← em]; exact fr_st rfl
  have y6 : ∀ c, c < 36 → t_pl S T c → m0.1 (102 + 1) c = upd cost e (cost e + nI (r + 1)) c := by
    intro c hc hp
    rw [← em, q_at]
    by_cases q : c = e
    · rw [if_pos q, q, up]
    · rw [if_neg q, un _ c q, show m.1 103 c = _ from x6 c hc hp, un _ c q]
  have y5 : ∀ c, c < 36 → m0.1 (102 + 3) c = b01 (A.2.2.1 c) := fun c hc => by rw [f0.2 _ _ (by omega)]; exact x5 c hc
  have yb : bb (m0.1 (102 + 3)) = A.2.2.1 := b01_bb y5 ok.2.2.2.2.2.1
  obtain ⟨m1, e1, f1, w1⟩ := x3_reckon (k := 102) (μ := m0) (by rw [f0.2 _ _ (by omega)]; exact x1) (by rw [f0.2 _ _ (by omega)]; exact x2) (by rw [yb]; exact ok.1) (fun c hc a b => by rw [y6 c hc ⟨a, b⟩]; exact cok c hc a b)
  rw [yb] at w1
  have X1 : XR 102 S T (upd cost e (cost e + nI (r + 1))) A m1 := by
    refine ⟨?_, ?_, ?_, fun c hc => ?_, fun c hc => ?_, fun c hc hp => ?_, t_W_congr ok.1 y6 w1, fun j hj => ?_⟩
    · rw [f1.2 _ _ (by unfold XA; omega), f0.2 _ _ (by omega)]; exact x1
    · rw [f1.2 _ _ (by unfold XA; omega), f0.2 _ _ (by omega)]; exact x2
    · rw [f1.2 _ _ (by unfold XA; omega), f0.2 _ _ (by omega)]; exact x3
    · rw [f1.2 _ _ (by unfold XA; omega), f0.2 _ _ (by omega)]; exact x4 c hc
    · rw [f1.2 _ _ (by unfold XA; omega)]; exact y5 c hc
    · rw [f1.2 _ _ (by unfold XA; omega)]; exact y6 c hc hp
    · rw [f1.2 _ _ (by unfold XA; omega), f1.2 _ _ (by unfold XA; omega), f1.2 _ _ (by unfold XA; omega), f0.2 _ _ (by omega), f0.2 _ _ (by omega), f0.2 _ _ (by omega)]; exact x8 j hj
  obtain ⟨b, m2, e2, f2, hp⟩ := x3_proved okr X1
  refine ⟨m1, b, m2, e1, e2, XR_fr X1 ok.1 f2 (fun c j q => by unfold FA; omega), ?_, hp⟩
  exact fr_trans (fr_trans (C := SCR) f0 f1 (fun c j h => by unfold SCR; omega) (fun c j h => by unfold XA at h; unfold SCR; omega)) f2 (fun c j h => h) (fun c j h => by unfold FA at h; unfold SCR; omega)
