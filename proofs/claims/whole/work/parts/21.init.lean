def mz : Mem := (fun _ _ => 0, fun _ _ => 0)
def m0 : Mem := (fun k => match k with
  | 6 => (fun j => if j < 25 then 10 else 0)
  | _ => (fun _ => 0), fun _ _ => 0)
def m4 (x : Int32) : Mem := (fun k j => match k, j with
  | 0, 0 => mn x 8
  | _, _ => 0, fun _ _ => 0)
def m7 : Mem := (fun k j => match k, j with
  | 0, 0 => -1
  | _, _ => 0, fun _ _ => 0)
def m6 : Mem := (fun k => if k < 1 then (fun _ => 0) else if k < 8 then m0.1 (k - 1) else if k < 28 then (fun _ => 0) else if k < 31 then (m4 5).1 (k - 28) else if k < 34 then (m4 8).1 (k - 31) else (m4 8).1 (k - 34), fun _ _ => 0)
theorem dfl_0 : ∀ j, j < 8 → defaultValue (tyX0 j) = vp_V [.int 0, .int 0, .null, .null, .null, .null, .null, .null] j := by
  intro j hj
  rcases (show j = 0 ∨ j = 1 ∨ j = 2 ∨ j = 3 ∨ j = 4 ∨ j = 5 ∨ j = 6 ∨ j = 7 by omega) with rfl | rfl | rfl | rfl | rfl | rfl | rfl | rfl <;> rfl
theorem MN_X0 : MN yX0_init cX0_init 1 0 := ⟨u1_32, u1_3, u1_33, rfl, by decide, by decide, by decide +kernel⟩
theorem dfl_1 : ∀ j, j < 4 → defaultValue (tyX1 j) = vp_V [.int 0, .null, .null, .null] j := by
  intro j hj
  rcases (show j = 0 ∨ j = 1 ∨ j = 2 ∨ j = 3 by omega) with rfl | rfl | rfl | rfl <;> rfl
theorem MN_X1 : MN yX1_init cX1_init 1 0 := ⟨u1_130, u1_7, u1_131, rfl, by decide, by decide, by decide +kernel⟩
theorem dfl_2 : ∀ j, j < 10 → defaultValue (tyX2 j) = vp_V [.int 0, .int 0, .int 0, .int 0, .int 0, .int 0, .null, .null, .null, .null] j := by
  intro j hj
  rcases (show j = 0 ∨ j = 1 ∨ j = 2 ∨ j = 3 ∨ j = 4 ∨ j = 5 ∨ j = 6 ∨ j = 7 ∨ j = 8 ∨ j = 9 by omega) with rfl | rfl | rfl | rfl | rfl | rfl | rfl | rfl | rfl | rfl <;> rfl
theorem MN_X2 : MN yX2_init cX2_init 1 0 := ⟨u1_87, u1_6, u1_88, rfl, by decide, by decide, by decide +kernel⟩
theorem dfl_3 : ∀ j, j < 16 → defaultValue (tyX3 j) = vp_V [.int 0, .int 0, .int 0, .int 0, .null, .null, .null, .null, .null, .null, .null, .null, .null, .null, .null, .null] j := by
  intro j hj
  rcases (show j = 0 ∨ j = 1 ∨ j = 2 ∨ j = 3 ∨ j = 4 ∨ j = 5 ∨ j = 6 ∨ j = 7 ∨ j = 8 ∨ j = 9 ∨ j = 10 ∨ j = 11 ∨ j = 12 ∨ j = 13 ∨ j = 14 ∨ j = 15 by omega) with rfl | rfl | rfl | rfl | rfl | rfl | rfl | rfl | rfl | rfl | rfl | rfl | rfl | rfl | rfl | rfl <;> rfl
theorem MN_X3 : MN yX3_init cX3_init 1 0 := ⟨u1_81, u1_5, u1_82, rfl, by decide, by decide, by decide +kernel⟩
theorem dfl_4 : ∀ j, j < 4 → defaultValue (tyX4 j) = vp_V [.int 0, .int 0, .null, .null] j := by
  intro j hj
  rcases (show j = 0 ∨ j = 1 ∨ j = 2 ∨ j = 3 by omega) with rfl | rfl | rfl | rfl <;> rfl
theorem MN_X4 : MN yX4_init cX4_init 2 1 := ⟨u1_214, u1_8, u1_215, rfl, by decide, by decide, by decide +kernel⟩
theorem dfl_5 : ∀ j, j < 9 → defaultValue (tyX5 j) = vp_V [.int 0, .int 0, .null, .int 0, .null, .null, .null, .null, .null] j := by
  intro j hj
  rcases (show j = 0 ∨ j = 1 ∨ j = 2 ∨ j = 3 ∨ j = 4 ∨ j = 5 ∨ j = 6 ∨ j = 7 ∨ j = 8 by omega) with rfl | rfl | rfl | rfl | rfl | rfl | rfl | rfl | rfl <;> rfl
theorem MN_X5 : MN yX5_init cX5_init 1 0 := ⟨u2_20, u1_10, u2_21, rfl, by decide, by decide, by decide +kernel⟩
theorem dfl_6 : ∀ j, j < 5 → defaultValue (tyX6 j) = vp_V [.null, .null, .null, .null, .null] j := by
  intro j hj
  rcases (show j = 0 ∨ j = 1 ∨ j = 2 ∨ j = 3 ∨ j = 4 by omega) with rfl | rfl | rfl | rfl | rfl <;> rfl
theorem MN_X6 : MN yX6_init cX6_init 1 0 := ⟨u1_26, u1_2, u1_27, rfl, by decide, by decide, by decide +kernel⟩
theorem dfl_7 : ∀ j, j < 3 → defaultValue (tyX7 j) = vp_V [.int 0, .int 0, .null] j := by
  intro j hj
  rcases (show j = 0 ∨ j = 1 ∨ j = 2 by omega) with rfl | rfl | rfl <;> rfl
theorem MN_X7 : MN yX7_init cX7_init 1 0 := ⟨u2_62, u1_11, u2_63, rfl, by decide, by decide, by decide +kernel⟩
theorem dfl_8 : ∀ j, j < 7 → defaultValue (tyX8 j) = vp_V [.null, .null, .int 0, .null, .null, .null, .null] j := by
  intro j hj
  rcases (show j = 0 ∨ j = 1 ∨ j = 2 ∨ j = 3 ∨ j = 4 ∨ j = 5 ∨ j = 6 by omega) with rfl | rfl | rfl | rfl | rfl | rfl | rfl <;> rfl
theorem MN_X8 : MN yX8_init cX8_init 2 0 := ⟨u1_18, u1_1, u1_19, rfl, by decide, by decide, by decide +kernel⟩
theorem dfl_9 : ∀ j, j < 51 → defaultValue (tyX9 j) = vp_V [.int 0, .int 0, .null, .null, .null, .null, .int 0, .int 0, .int 0, .int 0, .null, .null, .null, .null, .null, .null, .null, .null, .null, .null, .int 0, .int 0, .int 0, .null, .int 0, .null, .int 0, .int 0, .int 0, .null, .int 0, .int 0, .int 0, .int 0, .int 0, .null, .null, .null, .null, .null, .null, .int 0, .int 0, .null, .null, .null, .null, .null, .null, .null, .null] j := by
  intro j hj
  rcases (show j = 0 ∨ j = 1 ∨ j = 2 ∨ j = 3 ∨ j = 4 ∨ j = 5 ∨ j = 6 ∨ j = 7 ∨ j = 8 ∨ j = 9 ∨ j = 10 ∨ j = 11 ∨ j = 12 ∨ j = 13 ∨ j = 14 ∨ j = 15 ∨ j = 16 ∨ j = 17 ∨ j = 18 ∨ j = 19 ∨ j = 20 ∨ j = 21 ∨ j = 22 ∨ j = 23 ∨ j = 24 ∨ j = 25 ∨ j = 26 ∨ j = 27 ∨ j = 28 ∨ j = 29 ∨ j = 30 ∨ j = 31 ∨ j = 32 ∨ j = 33 ∨ j = 34 ∨ j = 35 ∨ j = 36 ∨ j = 37 ∨ j = 38 ∨ j = 39 ∨ j = 40 ∨ j = 41 ∨ j = 42 ∨ j = 43 ∨ j = 44 ∨ j = 45 ∨ j = 46 ∨ j = 47 ∨ j = 48 ∨ j = 49 ∨ j = 50 by omega) with rfl | rfl | rfl | rfl | rfl | rfl | rfl | rfl | rfl | rfl | rfl | rfl | rfl | rfl | rfl | rfl | rfl | rfl | rfl | rfl | rfl | rfl | rfl | rfl | rfl | rfl | rfl | rfl | rfl | rfl | rfl | rfl | rfl | rfl | rfl | rfl | rfl | rfl | rfl | rfl | rfl | rfl | rfl | rfl | rfl | rfl | rfl | rfl | rfl | rfl | rfl <;> rfl
theorem MN_X9 : MN yX9_init cX9_init 2 0 := ⟨u4_124, u1_12, u4_125, rfl, by decide, by decide, by decide +kernel⟩
section NM
variable {p : Program} {l : Launch} {e : Env} {R : Room} {s : State} {m : MethodId} {args : Array Value} {below : List Frame} {meth : Method} {c : Code} {H : Heap} {locs : List Loc} {cells slots : Nat} {Q : State → Prop}
variable {cc : ByteArray} {nL : Nat} {own : String} {D : va_G} {cy : Nat → ClassId} {A : Nat → Prop}
variable {pc : Nat} {ls : Array Slot} {rest : List Value}
theorem n_min {idx : Nat} {x y : Int32} (u : Cond.methodLink own idx Lib.Math.min.name ∈ UU) (C : Cg p s m args meth c cc nL own D cy A) (hl : ls.size = nL) (hR : 1 ≤ R.frames) (hR2 : (rest.map fun v => v.category).sum + 13 ≤ R.locals) (hc : cells ≤ R.cells) (hs : slots ≤ R.slots) (hdg : decode cc pc = .ok (.invokestatic idx, 3))
    (kk : W p l e R s m args below meth c H locs cells slots Q (F0 m (pc + 3) ls (.int (mn x y) :: rest))) : W p l e R s m args below meth c H locs cells slots Q (F0 m pc ls (.int y :: .int x :: rest)) :=
  va_mmin C.x C.b (by rw [C.n]; exact hl.symm) C.o (C.t _ u) (C.t _ um_min_s) (C.t _ um_math) (C.t _ um_min_c) hR hR2 hc hs hdg kk
end NM
set_option maxRecDepth 100000 in
set_option maxHeartbeats 8000000 in
theorem n_X1 {l : Launch} {D : va_G} {cy : Nat → ClassId} : CK l yX1_init cX1_init 1 1 20 3 24 D cy 1 [.int 0, .null, .null, .null] [] sLoop mz := by
  refine e_new (lv := (fun h0 => [(0, .ref h0)])) (by decide) (fun _ => Nat.le_of_ble_eq_true rfl) (fun _ => rfl) (fun h0 p e s m args below meth c ls A C I hAe hP hD hS hl => ?_) rfl
  have hP : va_P D vwCl ((h0, .inr (1, [.int 0, .null, .null, .null])) :: []) s.heap := hP
  have hD : va_D A ((h0, .inr (1, [.int 0, .null, .null, .null])) :: []) := hD
  refine lv_aload_n C.x C.b dX1_init_0 rfl (lv_at hl 0 rfl) ?_
  refine w_objInit u1_132 u1_21 u1_22 C hl.1 dX1_init_1 (by decide) (by decide) ?_
  refine lv_aload_n C.x C.b dX1_init_4 rfl (lv_at hl 0 rfl) ?_
  refine lv_iconst (v := 0) C.x C.b dX1_init_5 (by decide) ?_
  refine q_put (j := 0) (ty := .int) (v := .int 0) C rfl cw1 tyX1_ok nmX1 (by decide) u1_133 rfl rfl (by decide +kernel) rfl rfl (Nat.le_of_ble_eq_true rfl) hP hD hS dX1_init_6 (fun H locs hP hD hS => ?_)
  have hP : va_P D vwCl ((h0, .inr (1, [.int 0, .null, .null, .null])) :: []) H := hP
  have hD : va_D A ((h0, .inr (1, [.int 0, .null, .null, .null])) :: []) := hD
  refine lv_aload_n C.x C.b dX1_init_9 rfl (lv_at hl 0 rfl) ?_
  refine lv_bipush (v := 12) C.x C.b dX1_init_10 (by decide) ?_
  refine n_int (N' := 12) (cells' := 1) (slots' := 12) C (by decide) (by decide) (by decide) rfl rfl (Nat.le_of_ble_eq_true rfl) (Nat.le_of_ble_eq_true rfl) hP hD hS dX1_init_12 (fun q1 H hP hD hS => ?_)
  have hP : va_P D vwCl ((h0, .inr (1, [.int 0, .null, .null, .null])) :: ([] ++ [(q1, .inl (cy 0, 12, .inl (fun _ => 0)))])) H := hP
  have hD : va_D A ((h0, .inr (1, [.int 0, .null, .null, .null])) :: ([] ++ [(q1, .inl (cy 0, 12, .inl (fun _ => 0)))])) := hD
  refine q_fin (j := 1) (ty := .array .int) (v := .ref q1) C I.2.2 rfl cw1 tyX1_ok nmX1 (by decide) u1_135 rfl rfl (by decide +kernel) rfl rfl (Nat.le_of_ble_eq_true rfl) hP hD hS dX1_init_14 (fun H locs hP hD hS => ?_)
  have hP : va_P D vwCl ((h0, .inr (1, [.int 0, .ref q1, .null, .null])) :: ([] ++ [(q1, .inl (cy 0, 12, .inl (fun _ => 0)))])) H := hP
  have hD : va_D A ((h0, .inr (1, [.int 0, .ref q1, .null, .null])) :: ([] ++ [(q1, .inl (cy 0, 12, .inl (fun _ => 0)))])) := hD
  refine lv_aload_n C.x C.b dX1_init_17 rfl (lv_at hl 0 rfl) ?_
  refine lv_bipush (v := 6) C.x C.b dX1_init_18 (by decide) ?_
  refine n_int (N' := 6) (cells' := 2) (slots' := 18) C (by decide) (by decide) (by decide) rfl rfl (Nat.le_of_ble_eq_true rfl) (Nat.le_of_ble_eq_true rfl) hP hD hS dX1_init_20 (fun q2 H hP hD hS => ?_)
  have hP : va_P D vwCl ((h0, .inr (1, [.int 0, .ref q1, .null, .null])) :: (([] ++ [(q1, .inl (cy 0, 12, .inl (fun _ => 0)))]) ++ [(q2, .inl (cy 0, 6, .inl (fun _ => 0)))])) H := hP
  have hD : va_D A ((h0, .inr (1, [.int 0, .ref q1, .null, .null])) :: (([] ++ [(q1, .inl (cy 0, 12, .inl (fun _ => 0)))]) ++ [(q2, .inl (cy 0, 6, .inl (fun _ => 0)))])) := hD
  refine q_fin (j := 2) (ty := .array .int) (v := .ref q2) C I.2.2 rfl cw1 tyX1_ok nmX1 (by decide) u1_137 rfl rfl (by decide +kernel) rfl rfl (Nat.le_of_ble_eq_true rfl) hP hD hS dX1_init_22 (fun H locs hP hD hS => ?_)
  have hP : va_P D vwCl ((h0, .inr (1, [.int 0, .ref q1, .ref q2, .null])) :: (([] ++ [(q1, .inl (cy 0, 12, .inl (fun _ => 0)))]) ++ [(q2, .inl (cy 0, 6, .inl (fun _ => 0)))])) H := hP
  have hD : va_D A ((h0, .inr (1, [.int 0, .ref q1, .ref q2, .null])) :: (([] ++ [(q1, .inl (cy 0, 12, .inl (fun _ => 0)))]) ++ [(q2, .inl (cy 0, 6, .inl (fun _ => 0)))])) := hD
  refine lv_aload_n C.x C.b dX1_init_25 rfl (lv_at hl 0 rfl) ?_
  refine lv_bipush (v := 6) C.x C.b dX1_init_26 (by decide) ?_
  refine n_int (N' := 6) (cells' := 3) (slots' := 24) C (by decide) (by decide) (by decide) rfl rfl (Nat.le_of_ble_eq_true rfl) (Nat.le_of_ble_eq_true rfl) hP hD hS dX1_init_28 (fun q3 H hP hD hS => ?_)
  have hP : va_P D vwCl ((h0, .inr (1, [.int 0, .ref q1, .ref q2, .null])) :: ((([] ++ [(q1, .inl (cy 0, 12, .inl (fun _ => 0)))]) ++ [(q2, .inl (cy 0, 6, .inl (fun _ => 0)))]) ++ [(q3, .inl (cy 0, 6, .inl (fun _ => 0)))])) H := hP
  have hD : va_D A ((h0, .inr (1, [.int 0, .ref q1, .ref q2, .null])) :: ((([] ++ [(q1, .inl (cy 0, 12, .inl (fun _ => 0)))]) ++ [(q2, .inl (cy 0, 6, .inl (fun _ => 0)))]) ++ [(q3, .inl (cy 0, 6, .inl (fun _ => 0)))])) := hD
  refine q_fin (j := 3) (ty := .array .int) (v := .ref q3) C I.2.2 rfl cw1 tyX1_ok nmX1 (by decide) u1_138 rfl rfl (by decide +kernel) rfl rfl (Nat.le_of_ble_eq_true rfl) hP hD hS dX1_init_30 (fun H locs hP hD hS => ?_)
  have hP : va_P D vwCl ((h0, .inr (1, [.int 0, .ref q1, .ref q2, .ref q3])) :: ((([] ++ [(q1, .inl (cy 0, 12, .inl (fun _ => 0)))]) ++ [(q2, .inl (cy 0, 6, .inl (fun _ => 0)))]) ++ [(q3, .inl (cy 0, 6, .inl (fun _ => 0)))])) H := hP
  have hD : va_D A ((h0, .inr (1, [.int 0, .ref q1, .ref q2, .ref q3])) :: ((([] ++ [(q1, .inl (cy 0, 12, .inl (fun _ => 0)))]) ++ [(q2, .inl (cy 0, 6, .inl (fun _ => 0)))]) ++ [(q3, .inl (cy 0, 6, .inl (fun _ => 0)))])) := hD
  exact r_new (ad := (fun k => if k < 1 then h0 else if k < 2 then q1 else if k < 3 then q2 else if k < 4 then q3 else 0)) rfl (by rfl) (Nat.le_of_ble_eq_true rfl) (Nat.le_of_ble_eq_true rfl) C I hP hD hS dX1_init_33
