theorem len_sGround : sGround.length = 7 := rfl
theorem len_sLoop : sLoop.length = 4 := rfl
theorem len_sOpening : sOpening.length = 5 := rfl
theorem len_sPlan : sPlan.length = 20 := rfl
theorem len_sRows : sRows.length = 3 := rfl
theorem len_sSetUp : sSetUp.length = 7 := rfl
theorem len_sState : sState.length = 37 := rfl
theorem len_sTape : sTape.length = 2 := rfl
def mz : Mem := (fun _ _ => 0, fun _ _ => 0)
def m0 : Mem := (fun k => match k with
  | 6 => (fun j => if j < 25 then 10 else 0)
  | _ => (fun _ => 0), fun _ _ => 0)
def m4 (x : Int32) : Mem := (fun k j => match k, j with
  | 0, 0 => mn x 8
  | _, _ => 0, fun _ _ => 0)
def m7 : Mem := (fun k j => match k, j with
  | 0, 0 => -1
  | _, _ => 0, fun _ _ => 0)
def m6 : Mem := (fun k => if k < 1 then (fun _ => 0) else if k < 8 then m0.1 (k - 1) else if k < 28 then (fun _ => 0) else if k < 31 then (m4 5).1 (k - 28) else if k < 34 then (m4 8).1 (k - 31) else (m4 8).1 (k - 34), fun _ _ => 0)
theorem dfl_0 : ∀ j, j < 8 → defaultValue (tyX0 j) = vp_V [.int 0, .int 0, .null, .null, .null, .null, .null, .null] j := by
  intro j hj
  rcases (show j = 0 ∨ j = 1 ∨ j = 2 ∨ j = 3 ∨ j = 4 ∨ j = 5 ∨ j = 6 ∨ j = 7 by omega) with rfl | rfl | rfl | rfl | rfl | rfl | rfl | rfl <;> rfl
theorem MN_X0 : MN yX0_init cX0_init 1 0 := ⟨u1_32, u1_3, u1_33, rfl, by decide, by decide, by decide +kernel⟩
theorem dfl_1 : ∀ j, j < 4 → defaultValue (tyX1 j) = vp_V [.int 0, .null, .null, .null] j := by
  intro j hj
  rcases (show j = 0 ∨ j = 1 ∨ j = 2 ∨ j = 3 by omega) with rfl | rfl | rfl | rfl <;> rfl
theorem MN_X1 : MN yX1_init cX1_init 1 0 := ⟨u1_130, u1_7, u1_131, rfl, by decide, by decide, by decide +kernel⟩
theorem dfl_2 : ∀ j, j < 10 → defaultValue (tyX2 j) = vp_V [.int 0, .int 0, .int 0, .int 0, .int 0, .int 0, .null, .null, .null, .null] j := by
  intro j hj
  rcases (show j = 0 ∨ j = 1 ∨ j = 2 ∨ j = 3 ∨ j = 4 ∨ j = 5 ∨ j = 6 ∨ j = 7 ∨ j = 8 ∨ j = 9 by omega) with rfl | rfl | rfl | rfl | rfl | rfl | rfl | rfl | rfl | rfl <;> rfl
theorem MN_X2 : MN yX2_init cX2_init 1 0 := ⟨u1_87, u1_6, u1_88, rfl, by decide, by decide, by decide +kernel⟩
theorem dfl_3 : ∀ j, j < 16 → defaultValue (tyX3 j) = vp_V [.int 0, .int 0, .int 0, .int 0, .null, .null, .null, .null, .null, .null, .null, .null, .null, .null, .null, .null] j := by
  intro j hj
  rcases (show j = 0 ∨ j = 1 ∨ j = 2 ∨ j = 3 ∨ j = 4 ∨ j = 5 ∨ j = 6 ∨ j = 7 ∨ j = 8 ∨ j = 9 ∨ j = 10 ∨ j = 11 ∨ j = 12 ∨ j = 13 ∨ j = 14 ∨ j = 15 by omega) with rfl | rfl | rfl | rfl | rfl | rfl | rfl | rfl | rfl | rfl | rfl | rfl | rfl | rfl | rfl | rfl <;> rfl
theorem MN_X3 : MN yX3_init cX3_init 1 0 := ⟨u1_81, u1_5, u1_82, rfl, by decide, by decide, by decide +kernel⟩
theorem dfl_4 : ∀ j, j < 4 → defaultValue (tyX4 j) = vp_V [.int 0, .int 0, .null, .null] j := by
  intro j hj
  rcases (show j = 0 ∨ j = 1 ∨ j = 2 ∨ j = 3 by omega) with rfl | rfl | rfl | rfl <;> rfl
theorem MN_X4 : MN yX4_init cX4_init 2 1 := ⟨u1_214, u1_8, u1_215, rfl, by decide, by decide, by decide +kernel⟩
theorem dfl_5 : ∀ j, j < 9 → defaultValue (tyX5 j) = vp_V [.int 0, .int 0, .null, .int 0, .null, .null, .null, .null, .null] j := by
  intro j hj
  rcases (show j = 0 ∨ j = 1 ∨ j = 2 ∨ j = 3 ∨ j = 4 ∨ j = 5 ∨ j = 6 ∨ j = 7 ∨ j = 8 by omega) with rfl | rfl | rfl | rfl | rfl | rfl | rfl | rfl | rfl <;> rfl
theorem MN_X5 : MN yX5_init cX5_init 1 0 := ⟨u2_20, u1_10, u2_21, rfl, by decide, by decide, by decide +kernel⟩
theorem dfl_6 : ∀ j, j < 5 → defaultValue (tyX6 j) = vp_V [.null, .null, .null, .null, .null] j := by
  intro j hj
  rcases (show j = 0 ∨ j = 1 ∨ j = 2 ∨ j = 3 ∨ j = 4 by omega) with rfl | rfl | rfl | rfl | rfl <;> rfl
theorem MN_X6 : MN yX6_init cX6_init 1 0 := ⟨u1_26, u1_2, u1_27, rfl, by decide, by decide, by decide +kernel⟩
theorem dfl_7 : ∀ j, j < 3 → defaultValue (tyX7 j) = vp_V [.int 0, .int 0, .null] j := by
  intro j hj
  rcases (show j = 0 ∨ j = 1 ∨ j = 2 by omega) with rfl | rfl | rfl <;> rfl
theorem MN_X7 : MN yX7_init cX7_init 1 0 := ⟨u2_62, u1_11, u2_63, rfl, by decide, by decide, by decide +kernel⟩
theorem dfl_8 : ∀ j, j < 7 → defaultValue (tyX8 j) = vp_V [.null, .null, .int 0, .null, .null, .null, .null] j := by
  intro j hj
  rcases (show j = 0 ∨ j = 1 ∨ j = 2 ∨ j = 3 ∨ j = 4 ∨ j = 5 ∨ j = 6 by omega) with rfl | rfl | rfl | rfl | rfl | rfl | rfl <;> rfl
theorem MN_X8 : MN yX8_init cX8_init 2 0 := ⟨u1_18, u1_1, u1_19, rfl, by decide, by decide, by decide +kernel⟩
theorem dfl_9 : ∀ j, j < 51 → defaultValue (tyX9 j) = vp_V [.int 0, .int 0, .null, .null, .null, .null, .int 0, .int 0, .int 0, .int 0, .null, .null, .null, .null, .null, .null, .null, .null, .null, .null, .int 0, .int 0, .int 0, .null, .int 0, .null, .int 0, .int 0, .int 0, .null, .int 0, .int 0, .int 0, .int 0, .int 0, .null, .null, .null, .null, .null, .null, .int 0, .int 0, .null, .null, .null, .null, .null, .null, .null, .null] j := by
  intro j hj
  rcases (show j = 0 ∨ j = 1 ∨ j = 2 ∨ j = 3 ∨ j = 4 ∨ j = 5 ∨ j = 6 ∨ j = 7 ∨ j = 8 ∨ j = 9 ∨ j = 10 ∨ j = 11 ∨ j = 12 ∨ j = 13 ∨ j = 14 ∨ j = 15 ∨ j = 16 ∨ j = 17 ∨ j = 18 ∨ j = 19 ∨ j = 20 ∨ j = 21 ∨ j = 22 ∨ j = 23 ∨ j = 24 ∨ j = 25 ∨ j = 26 ∨ j = 27 ∨ j = 28 ∨ j = 29 ∨ j = 30 ∨ j = 31 ∨ j = 32 ∨ j = 33 ∨ j = 34 ∨ j = 35 ∨ j = 36 ∨ j = 37 ∨ j = 38 ∨ j = 39 ∨ j = 40 ∨ j = 41 ∨ j = 42 ∨ j = 43 ∨ j = 44 ∨ j = 45 ∨ j = 46 ∨ j = 47 ∨ j = 48 ∨ j = 49 ∨ j = 50 by omega) with rfl | rfl | rfl | rfl | rfl | rfl | rfl | rfl | rfl | rfl | rfl | rfl | rfl | rfl | rfl | rfl | rfl | rfl | rfl | rfl | rfl | rfl | rfl | rfl | rfl | rfl | rfl | rfl | rfl | rfl | rfl | rfl | rfl | rfl | rfl | rfl | rfl | rfl | rfl | rfl | rfl | rfl | rfl | rfl | rfl | rfl | rfl | rfl | rfl | rfl | rfl <;> rfl
theorem MN_X9 : MN yX9_init cX9_init 2 0 := ⟨u4_124, u1_12, u4_125, rfl, by decide, by decide, by decide +kernel⟩
section NM
variable {p : Program} {l : Launch} {e : Env} {R : Room} {s : State} {m : MethodId} {args : Array Value} {below : List Frame} {meth : Method} {c : Code} {H : Heap} {locs : List Loc} {cells slots : Nat} {Q : State → Prop}
variable {cc : ByteArray} {nL : Nat} {own : String} {D : va_G} {cy : Nat → ClassId} {A : Nat → Prop}
variable {pc : Nat} {ls : Array Slot} {rest : List Value}
theorem n_min {idx : Nat} {x y : Int32} (u : Cond.methodLink own idx Lib.Math.min.name ∈ UU) (C : Cg p s m args meth c cc nL own D cy A) (hl : ls.size = nL) (hR : 1 ≤ R.frames) (hR2 : (rest.map fun v => v.category).sum + 13 ≤ R.locals) (hc : cells ≤ R.cells) (hs : slots ≤ R.slots) (hdg : decode cc pc = .ok (.invokestatic idx, 3))
    (kk : W p l e R s m args below meth c H locs cells slots Q (F0 m (pc + 3) ls (.int (mn x y) :: rest))) : W p l e R s m args below meth c H locs cells slots Q (F0 m pc ls (.int y :: .int x :: rest)) :=
  va_mmin C.x C.b (by rw [C.n]; exact hl.symm) C.o (C.t _ u) (C.t _ um_min_s) (C.t _ um_math) (C.t _ um_min_c) hR hR2 hc hs hdg kk
end NM
set_option maxRecDepth 100000 in
set_option maxHeartbeats 8000000 in
theorem n_X1 {l : Launch} {D : va_G} {cy : Nat → ClassId} : CK l yX1_init cX1_init 1 1 20 3 24 D cy 1 [.int 0, .null, .null, .null] [] sLoop mz := by
  refine e_new (lv := (fun h0 => [(0, .ref h0)])) (by decide) (fun _ => Nat.le_of_ble_eq_true rfl) (fun _ => rfl) (fun h0 p e s m args below meth c ls A C I hAe hP hD hS hl => ?_) rfl
  have hP : va_P D vwCl ((h0, .inr (1, [.int 0, .null, .null, .null])) :: []) s.heap := hP
  have hD : va_D A ((h0, .inr (1, [.int 0, .null, .null, .null])) :: []) := hD
  refine lv_aload_n C.x C.b dX1_init_0 rfl (lv_at hl 0 rfl) ?_
  refine w_objInit u1_132 u1_21 u1_22 C hl.1 dX1_init_1 (by decide) (by decide) ?_
  refine lv_aload_n C.x C.b dX1_init_4 rfl (lv_at hl 0 rfl) ?_
  refine lv_iconst (v := 0) C.x C.b dX1_init_5 (by decide) ?_
  refine q_put (j := 0) (ty := .int) (v := .int 0) C rfl cw1 tyX1_ok nmX1 (by decide) u1_133 rfl rfl (by decide +kernel) rfl rfl (Nat.le_of_ble_eq_true rfl) (fs' := [.int 0, .null, .null, .null]) rfl hP hD hS dX1_init_6 (fun H locs hP hD hS => ?_)
  refine lv_aload_n C.x C.b dX1_init_9 rfl (lv_at hl 0 rfl) ?_
  refine lv_bipush (v := 12) C.x C.b dX1_init_10 (by decide) ?_
  refine h_int (N' := 12) (cells' := 1) (slots' := 12) C (by decide) (by decide) (by decide) rfl rfl (Nat.le_of_ble_eq_true rfl) (Nat.le_of_ble_eq_true rfl) hP hD hS dX1_init_12 (fun q1 H hP hD hS => ?_)
  refine q_fin (j := 1) (ty := .array .int) (v := .ref q1) C I.2.2 rfl cw1 tyX1_ok nmX1 (by decide) u1_135 rfl rfl (by decide +kernel) rfl rfl (Nat.le_of_ble_eq_true rfl) (fs' := [.int 0, .ref q1, .null, .null]) rfl hP hD hS dX1_init_14 (fun H locs hP hD hS => ?_)
  refine lv_aload_n C.x C.b dX1_init_17 rfl (lv_at hl 0 rfl) ?_
  refine lv_bipush (v := 6) C.x C.b dX1_init_18 (by decide) ?_
  refine h_int (N' := 6) (cells' := 2) (slots' := 18) C (by decide) (by decide) (by decide) rfl rfl (Nat.le_of_ble_eq_true rfl) (Nat.le_of_ble_eq_true rfl) hP hD hS dX1_init_20 (fun q2 H hP hD hS => ?_)
  refine q_fin (j := 2) (ty := .array .int) (v := .ref q2) C I.2.2 rfl cw1 tyX1_ok nmX1 (by decide) u1_137 rfl rfl (by decide +kernel) rfl rfl (Nat.le_of_ble_eq_true rfl) (fs' := [.int 0, .ref q1, .ref q2, .null]) rfl hP hD hS dX1_init_22 (fun H locs hP hD hS => ?_)
  refine lv_aload_n C.x C.b dX1_init_25 rfl (lv_at hl 0 rfl) ?_
  refine lv_bipush (v := 6) C.x C.b dX1_init_26 (by decide) ?_
  refine h_int (N' := 6) (cells' := 3) (slots' := 24) C (by decide) (by decide) (by decide) rfl rfl (Nat.le_of_ble_eq_true rfl) (Nat.le_of_ble_eq_true rfl) hP hD hS dX1_init_28 (fun q3 H hP hD hS => ?_)
  refine q_fin (j := 3) (ty := .array .int) (v := .ref q3) C I.2.2 rfl cw1 tyX1_ok nmX1 (by decide) u1_138 rfl rfl (by decide +kernel) rfl rfl (Nat.le_of_ble_eq_true rfl) (fs' := [.int 0, .ref q1, .ref q2, .ref q3]) rfl hP hD hS dX1_init_30 (fun H locs hP hD hS => ?_)
  exact r_new (ad := (fun k => if k < 1 then h0 else if k < 2 then q1 else if k < 3 then q2 else if k < 4 then q3 else 0)) rfl (by simp only [List.nil_append, List.cons_append, List.append_assoc]; rfl) (Nat.le_of_ble_eq_true rfl) (Nat.le_of_ble_eq_true rfl) C I hP hD hS dX1_init_33
set_option maxRecDepth 100000 in
set_option maxHeartbeats 8000000 in
theorem n_X2 {l : Launch} {D : va_G} {cy : Nat → ClassId} : CK l yX2_init cX2_init 1 1 20 4 24 D cy 2 [.int 0, .int 0, .int 0, .int 0, .int 0, .int 0, .null, .null, .null, .null] [] sOpening mz := by
  refine e_new (lv := (fun h0 => [(0, .ref h0)])) (by decide) (fun _ => Nat.le_of_ble_eq_true rfl) (fun _ => rfl) (fun h0 p e s m args below meth c ls A C I hAe hP hD hS hl => ?_) rfl
  have hP : va_P D vwCl ((h0, .inr (2, [.int 0, .int 0, .int 0, .int 0, .int 0, .int 0, .null, .null, .null, .null])) :: []) s.heap := hP
  have hD : va_D A ((h0, .inr (2, [.int 0, .int 0, .int 0, .int 0, .int 0, .int 0, .null, .null, .null, .null])) :: []) := hD
  refine lv_aload_n C.x C.b dX2_init_0 rfl (lv_at hl 0 rfl) ?_
  refine w_objInit u1_89 u1_21 u1_22 C hl.1 dX2_init_1 (by decide) (by decide) ?_
  refine lv_aload_n C.x C.b dX2_init_4 rfl (lv_at hl 0 rfl) ?_
  refine lv_iconst (v := 0) C.x C.b dX2_init_5 (by decide) ?_
  refine q_put (j := 0) (ty := .int) (v := .int 0) C rfl cw2 tyX2_ok nmX2 (by decide) u1_90 rfl rfl (by decide +kernel) rfl rfl (Nat.le_of_ble_eq_true rfl) (fs' := [.int 0, .int 0, .int 0, .int 0, .int 0, .int 0, .null, .null, .null, .null]) rfl hP hD hS dX2_init_6 (fun H locs hP hD hS => ?_)
  refine lv_aload_n C.x C.b dX2_init_9 rfl (lv_at hl 0 rfl) ?_
  refine lv_iconst (v := 0) C.x C.b dX2_init_10 (by decide) ?_
  refine q_put (j := 1) (ty := .int) (v := .int 0) C rfl cw2 tyX2_ok nmX2 (by decide) u1_92 rfl rfl (by decide +kernel) rfl rfl (Nat.le_of_ble_eq_true rfl) (fs' := [.int 0, .int 0, .int 0, .int 0, .int 0, .int 0, .null, .null, .null, .null]) rfl hP hD hS dX2_init_11 (fun H locs hP hD hS => ?_)
  refine lv_aload_n C.x C.b dX2_init_14 rfl (lv_at hl 0 rfl) ?_
  refine lv_iconst (v := 0) C.x C.b dX2_init_15 (by decide) ?_
  refine q_put (j := 2) (ty := .int) (v := .int 0) C rfl cw2 tyX2_ok nmX2 (by decide) u1_94 rfl rfl (by decide +kernel) rfl rfl (Nat.le_of_ble_eq_true rfl) (fs' := [.int 0, .int 0, .int 0, .int 0, .int 0, .int 0, .null, .null, .null, .null]) rfl hP hD hS dX2_init_16 (fun H locs hP hD hS => ?_)
  refine lv_aload_n C.x C.b dX2_init_19 rfl (lv_at hl 0 rfl) ?_
  refine lv_iconst (v := 0) C.x C.b dX2_init_20 (by decide) ?_
  refine q_put (j := 3) (ty := .int) (v := .int 0) C rfl cw2 tyX2_ok nmX2 (by decide) u1_95 rfl rfl (by decide +kernel) rfl rfl (Nat.le_of_ble_eq_true rfl) (fs' := [.int 0, .int 0, .int 0, .int 0, .int 0, .int 0, .null, .null, .null, .null]) rfl hP hD hS dX2_init_21 (fun H locs hP hD hS => ?_)
  refine lv_aload_n C.x C.b dX2_init_24 rfl (lv_at hl 0 rfl) ?_
  refine lv_iconst (v := 0) C.x C.b dX2_init_25 (by decide) ?_
  refine q_put (j := 4) (ty := .int) (v := .int 0) C rfl cw2 tyX2_ok nmX2 (by decide) u1_97 rfl rfl (by decide +kernel) rfl rfl (Nat.le_of_ble_eq_true rfl) (fs' := [.int 0, .int 0, .int 0, .int 0, .int 0, .int 0, .null, .null, .null, .null]) rfl hP hD hS dX2_init_26 (fun H locs hP hD hS => ?_)
  refine lv_aload_n C.x C.b dX2_init_29 rfl (lv_at hl 0 rfl) ?_
  refine lv_iconst (v := 0) C.x C.b dX2_init_30 (by decide) ?_
  refine q_put (j := 5) (ty := .int) (v := .int 0) C rfl cw2 tyX2_ok nmX2 (by decide) u1_99 rfl rfl (by decide +kernel) rfl rfl (Nat.le_of_ble_eq_true rfl) (fs' := [.int 0, .int 0, .int 0, .int 0, .int 0, .int 0, .null, .null, .null, .null]) rfl hP hD hS dX2_init_31 (fun H locs hP hD hS => ?_)
  refine lv_aload_n C.x C.b dX2_init_34 rfl (lv_at hl 0 rfl) ?_
  refine lv_bipush (v := 6) C.x C.b dX2_init_35 (by decide) ?_
  refine h_boo (N' := 6) (cells' := 1) (slots' := 6) C (by decide) (by decide) (by decide) rfl rfl (Nat.le_of_ble_eq_true rfl) (Nat.le_of_ble_eq_true rfl) hP hD hS dX2_init_37 (fun q1 H hP hD hS => ?_)
  refine q_fin (j := 6) (ty := .array .boolean) (v := .ref q1) C I.2.2 rfl cw2 tyX2_ok nmX2 (by decide) u1_101 rfl rfl (by decide +kernel) rfl rfl (Nat.le_of_ble_eq_true rfl) (fs' := [.int 0, .int 0, .int 0, .int 0, .int 0, .int 0, .ref q1, .null, .null, .null]) rfl hP hD hS dX2_init_39 (fun H locs hP hD hS => ?_)
  refine lv_aload_n C.x C.b dX2_init_42 rfl (lv_at hl 0 rfl) ?_
  refine lv_bipush (v := 6) C.x C.b dX2_init_43 (by decide) ?_
  refine h_boo (N' := 6) (cells' := 2) (slots' := 12) C (by decide) (by decide) (by decide) rfl rfl (Nat.le_of_ble_eq_true rfl) (Nat.le_of_ble_eq_true rfl) hP hD hS dX2_init_45 (fun q2 H hP hD hS => ?_)
  refine q_fin (j := 7) (ty := .array .boolean) (v := .ref q2) C I.2.2 rfl cw2 tyX2_ok nmX2 (by decide) u1_102 rfl rfl (by decide +kernel) rfl rfl (Nat.le_of_ble_eq_true rfl) (fs' := [.int 0, .int 0, .int 0, .int 0, .int 0, .int 0, .ref q1, .ref q2, .null, .null]) rfl hP hD hS dX2_init_47 (fun H locs hP hD hS => ?_)
  refine lv_aload_n C.x C.b dX2_init_50 rfl (lv_at hl 0 rfl) ?_
  refine lv_bipush (v := 6) C.x C.b dX2_init_51 (by decide) ?_
  refine h_int (N' := 6) (cells' := 3) (slots' := 18) C (by decide) (by decide) (by decide) rfl rfl (Nat.le_of_ble_eq_true rfl) (Nat.le_of_ble_eq_true rfl) hP hD hS dX2_init_53 (fun q3 H hP hD hS => ?_)
  refine q_fin (j := 8) (ty := .array .int) (v := .ref q3) C I.2.2 rfl cw2 tyX2_ok nmX2 (by decide) u1_103 rfl rfl (by decide +kernel) rfl rfl (Nat.le_of_ble_eq_true rfl) (fs' := [.int 0, .int 0, .int 0, .int 0, .int 0, .int 0, .ref q1, .ref q2, .ref q3, .null]) rfl hP hD hS dX2_init_55 (fun H locs hP hD hS => ?_)
  refine lv_aload_n C.x C.b dX2_init_58 rfl (lv_at hl 0 rfl) ?_
  refine lv_bipush (v := 6) C.x C.b dX2_init_59 (by decide) ?_
  refine h_int (N' := 6) (cells' := 4) (slots' := 24) C (by decide) (by decide) (by decide) rfl rfl (Nat.le_of_ble_eq_true rfl) (Nat.le_of_ble_eq_true rfl) hP hD hS dX2_init_61 (fun q4 H hP hD hS => ?_)
  refine q_fin (j := 9) (ty := .array .int) (v := .ref q4) C I.2.2 rfl cw2 tyX2_ok nmX2 (by decide) u1_104 rfl rfl (by decide +kernel) rfl rfl (Nat.le_of_ble_eq_true rfl) (fs' := [.int 0, .int 0, .int 0, .int 0, .int 0, .int 0, .ref q1, .ref q2, .ref q3, .ref q4]) rfl hP hD hS dX2_init_63 (fun H locs hP hD hS => ?_)
  exact r_new (ad := (fun k => if k < 1 then h0 else if k < 2 then q1 else if k < 3 then q2 else if k < 4 then q3 else if k < 5 then q4 else 0)) rfl (by simp only [List.nil_append, List.cons_append, List.append_assoc]; rfl) (Nat.le_of_ble_eq_true rfl) (Nat.le_of_ble_eq_true rfl) C I hP hD hS dX2_init_66
set_option maxRecDepth 100000 in
set_option maxHeartbeats 8000000 in
theorem n_X7 {l : Launch} {D : va_G} {cy : Nat → ClassId} : CK l yX7_init cX7_init 1 1 20 1 60 D cy 7 [.int 0, .int 0, .null] [] sTape m7 := by
  refine e_new (lv := (fun h0 => [(0, .ref h0)])) (by decide) (fun _ => Nat.le_of_ble_eq_true rfl) (fun _ => rfl) (fun h0 p e s m args below meth c ls A C I hAe hP hD hS hl => ?_) rfl
  have hP : va_P D vwCl ((h0, .inr (7, [.int 0, .int 0, .null])) :: []) s.heap := hP
  have hD : va_D A ((h0, .inr (7, [.int 0, .int 0, .null])) :: []) := hD
  refine lv_aload_n C.x C.b dX7_init_0 rfl (lv_at hl 0 rfl) ?_
  refine w_objInit u2_64 u1_21 u1_22 C hl.1 dX7_init_1 (by decide) (by decide) ?_
  refine lv_aload_n C.x C.b dX7_init_4 rfl (lv_at hl 0 rfl) ?_
  refine lv_iconst (v := (-1)) C.x C.b dX7_init_5 (by decide) ?_
  refine q_put (j := 0) (ty := .int) (v := .int (-1)) C rfl cw7 tyX7_ok nmX7 (by decide) u2_65 rfl rfl (by decide +kernel) rfl rfl (Nat.le_of_ble_eq_true rfl) (fs' := [.int (-1), .int 0, .null]) rfl hP hD hS dX7_init_6 (fun H locs hP hD hS => ?_)
  refine lv_aload_n C.x C.b dX7_init_9 rfl (lv_at hl 0 rfl) ?_
  refine lv_iconst (v := 0) C.x C.b dX7_init_10 (by decide) ?_
  refine q_put (j := 1) (ty := .int) (v := .int 0) C rfl cw7 tyX7_ok nmX7 (by decide) u2_67 rfl rfl (by decide +kernel) rfl rfl (Nat.le_of_ble_eq_true rfl) (fs' := [.int (-1), .int 0, .null]) rfl hP hD hS dX7_init_11 (fun H locs hP hD hS => ?_)
  refine lv_aload_n C.x C.b dX7_init_14 rfl (lv_at hl 0 rfl) ?_
  refine lv_bipush (v := 60) C.x C.b dX7_init_15 (by decide) ?_
  refine h_lng (N' := 60) (cells' := 1) (slots' := 60) C (by decide) (by decide) (by decide) rfl rfl (Nat.le_of_ble_eq_true rfl) (Nat.le_of_ble_eq_true rfl) hP hD hS dX7_init_17 (fun q1 H hP hD hS => ?_)
  refine q_fin (j := 2) (ty := .array .long) (v := .ref q1) C I.2.2 rfl cw7 tyX7_ok nmX7 (by decide) u2_68 rfl rfl (by decide +kernel) rfl rfl (Nat.le_of_ble_eq_true rfl) (fs' := [.int (-1), .int 0, .ref q1]) rfl hP hD hS dX7_init_19 (fun H locs hP hD hS => ?_)
  exact r_new (ad := (fun k => if k < 1 then h0 else if k < 2 then q1 else 0)) rfl (by simp only [List.nil_append, List.cons_append, List.append_assoc]; rfl) (Nat.le_of_ble_eq_true rfl) (Nat.le_of_ble_eq_true rfl) C I hP hD hS dX7_init_22
set_option maxRecDepth 100000 in
set_option maxHeartbeats 8000000 in
theorem n_X4 {l : Launch} {D : va_G} {cy : Nat → ClassId} (x1 : Int32) : CK l yX4_init cX4_init 2 1 21 2 16 D cy 4 [.int 0, .int 0, .null, .null] [.int x1] sRows (m4 x1) := by
  refine e_new (lv := (fun h0 => [(0, .ref h0), (1, .int x1)])) (by decide) (fun _ => Nat.le_of_ble_eq_true rfl) (fun _ => rfl) (fun h0 p e s m args below meth c ls A C I hAe hP hD hS hl => ?_) rfl
  have hP : va_P D vwCl ((h0, .inr (4, [.int 0, .int 0, .null, .null])) :: []) s.heap := hP
  have hD : va_D A ((h0, .inr (4, [.int 0, .int 0, .null, .null])) :: []) := hD
  refine lv_aload_n C.x C.b dX4_init_0 rfl (lv_at hl 0 rfl) ?_
  refine w_objInit u1_216 u1_21 u1_22 C hl.1 dX4_init_1 (by decide) (by decide) ?_
  refine lv_aload_n C.x C.b dX4_init_4 rfl (lv_at hl 0 rfl) ?_
  refine lv_iconst (v := 0) C.x C.b dX4_init_5 (by decide) ?_
  refine q_put (j := 1) (ty := .int) (v := .int 0) C rfl cw4 tyX4_ok nmX4 (by decide) u1_221 rfl rfl (by decide +kernel) rfl rfl (Nat.le_of_ble_eq_true rfl) (fs' := [.int 0, .int 0, .null, .null]) rfl hP hD hS dX4_init_6 (fun H locs hP hD hS => ?_)
  refine lv_aload_n C.x C.b dX4_init_9 rfl (lv_at hl 0 rfl) ?_
  refine lv_bipush (v := 8) C.x C.b dX4_init_10 (by decide) ?_
  refine h_int (N' := 8) (cells' := 1) (slots' := 8) C (by decide) (by decide) (by decide) rfl rfl (Nat.le_of_ble_eq_true rfl) (Nat.le_of_ble_eq_true rfl) hP hD hS dX4_init_12 (fun q1 H hP hD hS => ?_)
  refine q_fin (j := 2) (ty := .array .int) (v := .ref q1) C I.2.2 rfl cw4 tyX4_ok nmX4 (by decide) u1_223 rfl rfl (by decide +kernel) rfl rfl (Nat.le_of_ble_eq_true rfl) (fs' := [.int 0, .int 0, .ref q1, .null]) rfl hP hD hS dX4_init_14 (fun H locs hP hD hS => ?_)
  refine lv_aload_n C.x C.b dX4_init_17 rfl (lv_at hl 0 rfl) ?_
  refine lv_bipush (v := 8) C.x C.b dX4_init_18 (by decide) ?_
  refine h_int (N' := 8) (cells' := 2) (slots' := 16) C (by decide) (by decide) (by decide) rfl rfl (Nat.le_of_ble_eq_true rfl) (Nat.le_of_ble_eq_true rfl) hP hD hS dX4_init_20 (fun q2 H hP hD hS => ?_)
  refine q_fin (j := 3) (ty := .array .int) (v := .ref q2) C I.2.2 rfl cw4 tyX4_ok nmX4 (by decide) u1_225 rfl rfl (by decide +kernel) rfl rfl (Nat.le_of_ble_eq_true rfl) (fs' := [.int 0, .int 0, .ref q1, .ref q2]) rfl hP hD hS dX4_init_22 (fun H locs hP hD hS => ?_)
  refine lv_aload_n C.x C.b dX4_init_25 rfl (lv_at hl 0 rfl) ?_
  refine lv_iload_n C.x C.b dX4_init_26 rfl (lv_at hl 1 rfl) ?_
  refine lv_bipush (v := 8) C.x C.b dX4_init_27 (by decide) ?_
  refine n_min u1_217 C hl.1 (by decide) (Nat.le_of_ble_eq_true rfl) (Nat.le_of_ble_eq_true rfl) (Nat.le_of_ble_eq_true rfl) dX4_init_29 ?_
  refine q_fin (j := 0) (ty := .int) (v := .int (mn x1 8)) C I.2.2 rfl cw4 tyX4_ok nmX4 (by decide) u1_220 rfl rfl (by decide +kernel) rfl rfl (Nat.le_of_ble_eq_true rfl) (fs' := [.int (mn x1 8), .int 0, .ref q1, .ref q2]) rfl hP hD hS dX4_init_32 (fun H locs hP hD hS => ?_)
  exact r_new (ad := (fun k => if k < 1 then h0 else if k < 2 then q1 else if k < 3 then q2 else 0)) rfl (by simp only [List.nil_append, List.cons_append, List.append_assoc]; rfl) (Nat.le_of_ble_eq_true rfl) (Nat.le_of_ble_eq_true rfl) C I hP hD hS dX4_init_35
set_option maxRecDepth 100000 in
set_option maxHeartbeats 8000000 in
theorem n_X5 {l : Launch} {D : va_G} {cy : Nat → ClassId} : CK l yX5_init cX5_init 1 1 20 6 160 D cy 5 [.int 0, .int 0, .null, .int 0, .null, .null, .null, .null, .null] [] sSetUp mz := by
  refine e_new (lv := (fun h0 => [(0, .ref h0)])) (by decide) (fun _ => Nat.le_of_ble_eq_true rfl) (fun _ => rfl) (fun h0 p e s m args below meth c ls A C I hAe hP hD hS hl => ?_) rfl
  have hP : va_P D vwCl ((h0, .inr (5, [.int 0, .int 0, .null, .int 0, .null, .null, .null, .null, .null])) :: []) s.heap := hP
  have hD : va_D A ((h0, .inr (5, [.int 0, .int 0, .null, .int 0, .null, .null, .null, .null, .null])) :: []) := hD
  refine lv_aload_n C.x C.b dX5_init_0 rfl (lv_at hl 0 rfl) ?_
  refine w_objInit u2_22 u1_21 u1_22 C hl.1 dX5_init_1 (by decide) (by decide) ?_
  refine lv_aload_n C.x C.b dX5_init_4 rfl (lv_at hl 0 rfl) ?_
  refine lv_iconst (v := 0) C.x C.b dX5_init_5 (by decide) ?_
  refine q_put (j := 0) (ty := .int) (v := .int 0) C rfl cw5 tyX5_ok nmX5 (by decide) u2_23 rfl rfl (by decide +kernel) rfl rfl (Nat.le_of_ble_eq_true rfl) (fs' := [.int 0, .int 0, .null, .int 0, .null, .null, .null, .null, .null]) rfl hP hD hS dX5_init_6 (fun H locs hP hD hS => ?_)
  refine lv_aload_n C.x C.b dX5_init_9 rfl (lv_at hl 0 rfl) ?_
  refine lv_iconst (v := 0) C.x C.b dX5_init_10 (by decide) ?_
  refine q_put (j := 1) (ty := .int) (v := .int 0) C rfl cw5 tyX5_ok nmX5 (by decide) u2_25 rfl rfl (by decide +kernel) rfl rfl (Nat.le_of_ble_eq_true rfl) (fs' := [.int 0, .int 0, .null, .int 0, .null, .null, .null, .null, .null]) rfl hP hD hS dX5_init_11 (fun H locs hP hD hS => ?_)
  refine lv_aload_n C.x C.b dX5_init_14 rfl (lv_at hl 0 rfl) ?_
  refine lv_bipush (v := 100) C.x C.b dX5_init_15 (by decide) ?_
  refine h_chr (N' := 100) (cells' := 1) (slots' := 100) C (by decide) (by decide) (by decide) rfl rfl (Nat.le_of_ble_eq_true rfl) (Nat.le_of_ble_eq_true rfl) hP hD hS dX5_init_17 (fun q1 H hP hD hS => ?_)
  refine q_fin (j := 2) (ty := .array .char) (v := .ref q1) C I.2.2 rfl cw5 tyX5_ok nmX5 (by decide) u2_27 rfl rfl (by decide +kernel) rfl rfl (Nat.le_of_ble_eq_true rfl) (fs' := [.int 0, .int 0, .ref q1, .int 0, .null, .null, .null, .null, .null]) rfl hP hD hS dX5_init_19 (fun H locs hP hD hS => ?_)
  refine lv_aload_n C.x C.b dX5_init_22 rfl (lv_at hl 0 rfl) ?_
  refine lv_iconst (v := 0) C.x C.b dX5_init_23 (by decide) ?_
  refine q_put (j := 3) (ty := .int) (v := .int 0) C rfl cw5 tyX5_ok nmX5 (by decide) u2_28 rfl rfl (by decide +kernel) rfl rfl (Nat.le_of_ble_eq_true rfl) (fs' := [.int 0, .int 0, .ref q1, .int 0, .null, .null, .null, .null, .null]) rfl hP hD hS dX5_init_24 (fun H locs hP hD hS => ?_)
  refine lv_aload_n C.x C.b dX5_init_27 rfl (lv_at hl 0 rfl) ?_
  refine lv_bipush (v := 12) C.x C.b dX5_init_28 (by decide) ?_
  refine h_chr (N' := 12) (cells' := 2) (slots' := 112) C (by decide) (by decide) (by decide) rfl rfl (Nat.le_of_ble_eq_true rfl) (Nat.le_of_ble_eq_true rfl) hP hD hS dX5_init_30 (fun q2 H hP hD hS => ?_)
  refine q_fin (j := 4) (ty := .array .char) (v := .ref q2) C I.2.2 rfl cw5 tyX5_ok nmX5 (by decide) u2_29 rfl rfl (by decide +kernel) rfl rfl (Nat.le_of_ble_eq_true rfl) (fs' := [.int 0, .int 0, .ref q1, .int 0, .ref q2, .null, .null, .null, .null]) rfl hP hD hS dX5_init_32 (fun H locs hP hD hS => ?_)
  refine lv_aload_n C.x C.b dX5_init_35 rfl (lv_at hl 0 rfl) ?_
  refine lv_bipush (v := 12) C.x C.b dX5_init_36 (by decide) ?_
  refine h_int (N' := 12) (cells' := 3) (slots' := 124) C (by decide) (by decide) (by decide) rfl rfl (Nat.le_of_ble_eq_true rfl) (Nat.le_of_ble_eq_true rfl) hP hD hS dX5_init_38 (fun q3 H hP hD hS => ?_)
  refine q_fin (j := 5) (ty := .array .int) (v := .ref q3) C I.2.2 rfl cw5 tyX5_ok nmX5 (by decide) u2_30 rfl rfl (by decide +kernel) rfl rfl (Nat.le_of_ble_eq_true rfl) (fs' := [.int 0, .int 0, .ref q1, .int 0, .ref q2, .ref q3, .null, .null, .null]) rfl hP hD hS dX5_init_40 (fun H locs hP hD hS => ?_)
  refine lv_aload_n C.x C.b dX5_init_43 rfl (lv_at hl 0 rfl) ?_
  refine lv_bipush (v := 12) C.x C.b dX5_init_44 (by decide) ?_
  refine h_int (N' := 12) (cells' := 4) (slots' := 136) C (by decide) (by decide) (by decide) rfl rfl (Nat.le_of_ble_eq_true rfl) (Nat.le_of_ble_eq_true rfl) hP hD hS dX5_init_46 (fun q4 H hP hD hS => ?_)
  refine q_fin (j := 6) (ty := .array .int) (v := .ref q4) C I.2.2 rfl cw5 tyX5_ok nmX5 (by decide) u2_31 rfl rfl (by decide +kernel) rfl rfl (Nat.le_of_ble_eq_true rfl) (fs' := [.int 0, .int 0, .ref q1, .int 0, .ref q2, .ref q3, .ref q4, .null, .null]) rfl hP hD hS dX5_init_48 (fun H locs hP hD hS => ?_)
  refine lv_aload_n C.x C.b dX5_init_51 rfl (lv_at hl 0 rfl) ?_
  refine lv_bipush (v := 12) C.x C.b dX5_init_52 (by decide) ?_
  refine h_int (N' := 12) (cells' := 5) (slots' := 148) C (by decide) (by decide) (by decide) rfl rfl (Nat.le_of_ble_eq_true rfl) (Nat.le_of_ble_eq_true rfl) hP hD hS dX5_init_54 (fun q5 H hP hD hS => ?_)
  refine q_fin (j := 7) (ty := .array .int) (v := .ref q5) C I.2.2 rfl cw5 tyX5_ok nmX5 (by decide) u2_32 rfl rfl (by decide +kernel) rfl rfl (Nat.le_of_ble_eq_true rfl) (fs' := [.int 0, .int 0, .ref q1, .int 0, .ref q2, .ref q3, .ref q4, .ref q5, .null]) rfl hP hD hS dX5_init_56 (fun H locs hP hD hS => ?_)
  refine lv_aload_n C.x C.b dX5_init_59 rfl (lv_at hl 0 rfl) ?_
  refine lv_bipush (v := 12) C.x C.b dX5_init_60 (by decide) ?_
  refine h_int (N' := 12) (cells' := 6) (slots' := 160) C (by decide) (by decide) (by decide) rfl rfl (Nat.le_of_ble_eq_true rfl) (Nat.le_of_ble_eq_true rfl) hP hD hS dX5_init_62 (fun q6 H hP hD hS => ?_)
  refine q_fin (j := 8) (ty := .array .int) (v := .ref q6) C I.2.2 rfl cw5 tyX5_ok nmX5 (by decide) u2_33 rfl rfl (by decide +kernel) rfl rfl (Nat.le_of_ble_eq_true rfl) (fs' := [.int 0, .int 0, .ref q1, .int 0, .ref q2, .ref q3, .ref q4, .ref q5, .ref q6]) rfl hP hD hS dX5_init_64 (fun H locs hP hD hS => ?_)
  exact r_new (ad := (fun k => if k < 1 then h0 else if k < 2 then q1 else if k < 3 then q2 else if k < 4 then q3 else if k < 5 then q4 else if k < 6 then q5 else if k < 7 then q6 else 0)) rfl (by simp only [List.nil_append, List.cons_append, List.append_assoc]; rfl) (Nat.le_of_ble_eq_true rfl) (Nat.le_of_ble_eq_true rfl) C I hP hD hS dX5_init_67
set_option maxRecDepth 100000 in
set_option maxHeartbeats 8000000 in
theorem wteq_3 {D : va_G} {cy : Nat → ClassId} (h0 q1 q2 q3 q4 q5 q6 q7 q8 q9 q10 : Nat) (ad12 ad14 : Nat → Nat) : (((h0, .inr (3, [.int 0, .int 0, .int 0, .int 0, .ref q1, .ref q2, .ref q3, .ref q4, .ref q5, .ref q6, .ref q7, .ref q8, .ref q9, .ref q10, .ref (ad12 0), .ref (ad14 0)])) :: (((((((((((([] ++ [(q1, .inl (cy 0, 36, .inl (fun _ => 0)))]) ++ [(q2, .inl (cy 0, 36, .inl (fun _ => 0)))]) ++ [(q3, .inl (cy 1, 36, .inl (fun _ => 0)))]) ++ [(q4, .inl (cy 0, 6, .inl (fun _ => 0)))]) ++ [(q5, .inl (cy 0, 6, .inl (fun _ => 0)))]) ++ [(q6, .inl (cy 0, 100, .inl (fun _ => 0)))]) ++ [(q7, .inl (cy 0, 100, .inl (fun _ => 0)))]) ++ [(q8, .inl (cy 0, 100, .inl (fun _ => 0)))]) ++ [(q9, .inl (cy 1, 6, .inl (fun _ => 0)))]) ++ [(q10, .inl (cy 1, 6, .inl (fun _ => 0)))]) ++ wt D cy ad12 mz sOpening) ++ wt D cy ad14 mz sLoop)) : va_W) = wt D cy (fun k => ([h0, q1, q2, q3, q4, q5, q6, q7, q8, q9, q10] : List Nat).getD k (if k < 16 then ad12 (k - 11) else ad14 (k - 16))) mz sPlan := by
      rw [wt_wtf (D := D) (cy := cy) (ad := (fun k => ([h0, q1, q2, q3, q4, q5, q6, q7, q8, q9, q10] : List Nat).getD k (if k < 16 then ad12 (k - 11) else ad14 (k - 16)))) (μ := mz) sPlan]
      rw [show sPlan = ([.inl (3, fs3), .inr (0, 36), .inr (0, 36), .inr (1, 36), .inr (0, 6), .inr (0, 6), .inr (0, 100), .inr (0, 100), .inr (0, 100), .inr (1, 6), .inr (1, 6)] ++ (sOpening ++ sLoop) : List Shp) from rfl]
      rw [wtf_app, wtf_app]
      simp only [List.length_cons, List.length_nil, len_sGround, len_sLoop, len_sOpening, len_sPlan, len_sRows, len_sSetUp, len_sState, len_sTape, Nat.zero_add, Nat.reduceAdd]
      have hs0 : wtf D cy (fun k => ([h0, q1, q2, q3, q4, q5, q6, q7, q8, q9, q10] : List Nat).getD k (if k < 16 then ad12 (k - 11) else ad14 (k - 16))) mz 11 sOpening = wt D cy ad12 mz sOpening := by
        refine wtf_sub sOpening (by decide +kernel) (fun k hk => ?_) (fun k hk => ?_) (fun k hk => ?_)
        · replace hk : k < 5 := hk
          show ([h0, q1, q2, q3, q4, q5, q6, q7, q8, q9, q10] : List Nat).getD (11 + k) (if 11 + k < 16 then ad12 (11 + k - 11) else ad14 (11 + k - 16)) = ad12 k
          rw [getD_tail (by show 11 ≤ 11 + k; omega)]
          (repeat (first | rw [if_pos (by omega)] | rw [if_neg (by omega)])) <;> exact congrArg ad12 (by omega)
        · replace hk : k < 5 := hk
          show mz.1 (11 + k) = mz.1 k
          rfl
        · rfl
      have hs1 : wtf D cy (fun k => ([h0, q1, q2, q3, q4, q5, q6, q7, q8, q9, q10] : List Nat).getD k (if k < 16 then ad12 (k - 11) else ad14 (k - 16))) mz 16 sLoop = wt D cy ad14 mz sLoop := by
        refine wtf_sub sLoop (by decide +kernel) (fun k hk => ?_) (fun k hk => ?_) (fun k hk => ?_)
        · replace hk : k < 4 := hk
          show ([h0, q1, q2, q3, q4, q5, q6, q7, q8, q9, q10] : List Nat).getD (16 + k) (if 16 + k < 16 then ad12 (16 + k - 11) else ad14 (16 + k - 16)) = ad14 k
          rw [getD_tail (by show 11 ≤ 16 + k; omega)]
          (repeat (first | rw [if_pos (by omega)] | rw [if_neg (by omega)])) <;> exact congrArg ad14 (by omega)
        · replace hk : k < 4 := hk
          show mz.1 (16 + k) = mz.1 k
          rfl
        · rfl
      rw [hs0, hs1]
      simp only [wtf_cons, wtf_nil, List.nil_append, List.cons_append, List.append_assoc]
      rfl
set_option maxRecDepth 100000 in
set_option maxHeartbeats 8000000 in
theorem n_X3 {l : Launch} {D : va_G} {cy : Nat → ClassId} : CK l yX3_init cX3_init 1 2 40 19 494 D cy 3 [.int 0, .int 0, .int 0, .int 0, .null, .null, .null, .null, .null, .null, .null, .null, .null, .null, .null, .null] [] sPlan mz := by
  refine e_new (lv := (fun h0 => [(0, .ref h0)])) (by decide) (fun _ => Nat.le_of_ble_eq_true rfl) (fun _ => rfl) (fun h0 p e s m args below meth c ls A C I hAe hP hD hS hl => ?_) rfl
  have hP : va_P D vwCl ((h0, .inr (3, [.int 0, .int 0, .int 0, .int 0, .null, .null, .null, .null, .null, .null, .null, .null, .null, .null, .null, .null])) :: []) s.heap := hP
  have hD : va_D A ((h0, .inr (3, [.int 0, .int 0, .int 0, .int 0, .null, .null, .null, .null, .null, .null, .null, .null, .null, .null, .null, .null])) :: []) := hD
  refine lv_aload_n C.x C.b dX3_init_0 rfl (lv_at hl 0 rfl) ?_
  refine w_objInit u1_83 u1_21 u1_22 C hl.1 dX3_init_1 (by decide) (by decide) ?_
  refine lv_aload_n C.x C.b dX3_init_4 rfl (lv_at hl 0 rfl) ?_
  refine lv_iconst (v := 0) C.x C.b dX3_init_5 (by decide) ?_
  refine q_put (j := 0) (ty := .boolean) (v := .int 0) C rfl cw3 tyX3_ok nmX3 (by decide) u1_148 rfl rfl (by decide +kernel) rfl rfl (Nat.le_of_ble_eq_true rfl) (fs' := [.int 0, .int 0, .int 0, .int 0, .null, .null, .null, .null, .null, .null, .null, .null, .null, .null, .null, .null]) rfl hP hD hS dX3_init_6 (fun H locs hP hD hS => ?_)
  refine lv_aload_n C.x C.b dX3_init_9 rfl (lv_at hl 0 rfl) ?_
  refine lv_iconst (v := 0) C.x C.b dX3_init_10 (by decide) ?_
  refine q_put (j := 1) (ty := .int) (v := .int 0) C rfl cw3 tyX3_ok nmX3 (by decide) u1_151 rfl rfl (by decide +kernel) rfl rfl (Nat.le_of_ble_eq_true rfl) (fs' := [.int 0, .int 0, .int 0, .int 0, .null, .null, .null, .null, .null, .null, .null, .null, .null, .null, .null, .null]) rfl hP hD hS dX3_init_11 (fun H locs hP hD hS => ?_)
  refine lv_aload_n C.x C.b dX3_init_14 rfl (lv_at hl 0 rfl) ?_
  refine lv_iconst (v := 0) C.x C.b dX3_init_15 (by decide) ?_
  refine q_put (j := 2) (ty := .int) (v := .int 0) C rfl cw3 tyX3_ok nmX3 (by decide) u1_153 rfl rfl (by decide +kernel) rfl rfl (Nat.le_of_ble_eq_true rfl) (fs' := [.int 0, .int 0, .int 0, .int 0, .null, .null, .null, .null, .null, .null, .null, .null, .null, .null, .null, .null]) rfl hP hD hS dX3_init_16 (fun H locs hP hD hS => ?_)
  refine lv_aload_n C.x C.b dX3_init_19 rfl (lv_at hl 0 rfl) ?_
  refine lv_iconst (v := 0) C.x C.b dX3_init_20 (by decide) ?_
  refine q_put (j := 3) (ty := .int) (v := .int 0) C rfl cw3 tyX3_ok nmX3 (by decide) u1_155 rfl rfl (by decide +kernel) rfl rfl (Nat.le_of_ble_eq_true rfl) (fs' := [.int 0, .int 0, .int 0, .int 0, .null, .null, .null, .null, .null, .null, .null, .null, .null, .null, .null, .null]) rfl hP hD hS dX3_init_21 (fun H locs hP hD hS => ?_)
  refine lv_aload_n C.x C.b dX3_init_24 rfl (lv_at hl 0 rfl) ?_
  refine lv_bipush (v := 36) C.x C.b dX3_init_25 (by decide) ?_
  refine h_int (N' := 36) (cells' := 1) (slots' := 36) C (by decide) (by decide) (by decide) rfl rfl (Nat.le_of_ble_eq_true rfl) (Nat.le_of_ble_eq_true rfl) hP hD hS dX3_init_27 (fun q1 H hP hD hS => ?_)
  refine q_fin (j := 4) (ty := .array .int) (v := .ref q1) C I.2.2 rfl cw3 tyX3_ok nmX3 (by decide) u1_157 rfl rfl (by decide +kernel) rfl rfl (Nat.le_of_ble_eq_true rfl) (fs' := [.int 0, .int 0, .int 0, .int 0, .ref q1, .null, .null, .null, .null, .null, .null, .null, .null, .null, .null, .null]) rfl hP hD hS dX3_init_29 (fun H locs hP hD hS => ?_)
  refine lv_aload_n C.x C.b dX3_init_32 rfl (lv_at hl 0 rfl) ?_
  refine lv_bipush (v := 36) C.x C.b dX3_init_33 (by decide) ?_
  refine h_int (N' := 36) (cells' := 2) (slots' := 72) C (by decide) (by decide) (by decide) rfl rfl (Nat.le_of_ble_eq_true rfl) (Nat.le_of_ble_eq_true rfl) hP hD hS dX3_init_35 (fun q2 H hP hD hS => ?_)
  refine q_fin (j := 5) (ty := .array .int) (v := .ref q2) C I.2.2 rfl cw3 tyX3_ok nmX3 (by decide) u1_159 rfl rfl (by decide +kernel) rfl rfl (Nat.le_of_ble_eq_true rfl) (fs' := [.int 0, .int 0, .int 0, .int 0, .ref q1, .ref q2, .null, .null, .null, .null, .null, .null, .null, .null, .null, .null]) rfl hP hD hS dX3_init_37 (fun H locs hP hD hS => ?_)
  refine lv_aload_n C.x C.b dX3_init_40 rfl (lv_at hl 0 rfl) ?_
  refine lv_bipush (v := 36) C.x C.b dX3_init_41 (by decide) ?_
  refine h_boo (N' := 36) (cells' := 3) (slots' := 108) C (by decide) (by decide) (by decide) rfl rfl (Nat.le_of_ble_eq_true rfl) (Nat.le_of_ble_eq_true rfl) hP hD hS dX3_init_43 (fun q3 H hP hD hS => ?_)
  refine q_fin (j := 6) (ty := .array .boolean) (v := .ref q3) C I.2.2 rfl cw3 tyX3_ok nmX3 (by decide) u1_161 rfl rfl (by decide +kernel) rfl rfl (Nat.le_of_ble_eq_true rfl) (fs' := [.int 0, .int 0, .int 0, .int 0, .ref q1, .ref q2, .ref q3, .null, .null, .null, .null, .null, .null, .null, .null, .null]) rfl hP hD hS dX3_init_45 (fun H locs hP hD hS => ?_)
  refine lv_aload_n C.x C.b dX3_init_48 rfl (lv_at hl 0 rfl) ?_
  refine lv_bipush (v := 6) C.x C.b dX3_init_49 (by decide) ?_
  refine h_int (N' := 6) (cells' := 4) (slots' := 114) C (by decide) (by decide) (by decide) rfl rfl (Nat.le_of_ble_eq_true rfl) (Nat.le_of_ble_eq_true rfl) hP hD hS dX3_init_51 (fun q4 H hP hD hS => ?_)
  refine q_fin (j := 7) (ty := .array .int) (v := .ref q4) C I.2.2 rfl cw3 tyX3_ok nmX3 (by decide) u1_163 rfl rfl (by decide +kernel) rfl rfl (Nat.le_of_ble_eq_true rfl) (fs' := [.int 0, .int 0, .int 0, .int 0, .ref q1, .ref q2, .ref q3, .ref q4, .null, .null, .null, .null, .null, .null, .null, .null]) rfl hP hD hS dX3_init_53 (fun H locs hP hD hS => ?_)
  refine lv_aload_n C.x C.b dX3_init_56 rfl (lv_at hl 0 rfl) ?_
  refine lv_bipush (v := 6) C.x C.b dX3_init_57 (by decide) ?_
  refine h_int (N' := 6) (cells' := 5) (slots' := 120) C (by decide) (by decide) (by decide) rfl rfl (Nat.le_of_ble_eq_true rfl) (Nat.le_of_ble_eq_true rfl) hP hD hS dX3_init_59 (fun q5 H hP hD hS => ?_)
  refine q_fin (j := 8) (ty := .array .int) (v := .ref q5) C I.2.2 rfl cw3 tyX3_ok nmX3 (by decide) u1_165 rfl rfl (by decide +kernel) rfl rfl (Nat.le_of_ble_eq_true rfl) (fs' := [.int 0, .int 0, .int 0, .int 0, .ref q1, .ref q2, .ref q3, .ref q4, .ref q5, .null, .null, .null, .null, .null, .null, .null]) rfl hP hD hS dX3_init_61 (fun H locs hP hD hS => ?_)
  refine lv_aload_n C.x C.b dX3_init_64 rfl (lv_at hl 0 rfl) ?_
  refine lv_bipush (v := 100) C.x C.b dX3_init_65 (by decide) ?_
  refine h_int (N' := 100) (cells' := 6) (slots' := 220) C (by decide) (by decide) (by decide) rfl rfl (Nat.le_of_ble_eq_true rfl) (Nat.le_of_ble_eq_true rfl) hP hD hS dX3_init_67 (fun q6 H hP hD hS => ?_)
  refine q_fin (j := 9) (ty := .array .int) (v := .ref q6) C I.2.2 rfl cw3 tyX3_ok nmX3 (by decide) u1_167 rfl rfl (by decide +kernel) rfl rfl (Nat.le_of_ble_eq_true rfl) (fs' := [.int 0, .int 0, .int 0, .int 0, .ref q1, .ref q2, .ref q3, .ref q4, .ref q5, .ref q6, .null, .null, .null, .null, .null, .null]) rfl hP hD hS dX3_init_69 (fun H locs hP hD hS => ?_)
  refine lv_aload_n C.x C.b dX3_init_72 rfl (lv_at hl 0 rfl) ?_
  refine lv_bipush (v := 100) C.x C.b dX3_init_73 (by decide) ?_
  refine h_int (N' := 100) (cells' := 7) (slots' := 320) C (by decide) (by decide) (by decide) rfl rfl (Nat.le_of_ble_eq_true rfl) (Nat.le_of_ble_eq_true rfl) hP hD hS dX3_init_75 (fun q7 H hP hD hS => ?_)
  refine q_fin (j := 10) (ty := .array .int) (v := .ref q7) C I.2.2 rfl cw3 tyX3_ok nmX3 (by decide) u1_169 rfl rfl (by decide +kernel) rfl rfl (Nat.le_of_ble_eq_true rfl) (fs' := [.int 0, .int 0, .int 0, .int 0, .ref q1, .ref q2, .ref q3, .ref q4, .ref q5, .ref q6, .ref q7, .null, .null, .null, .null, .null]) rfl hP hD hS dX3_init_77 (fun H locs hP hD hS => ?_)
  refine lv_aload_n C.x C.b dX3_init_80 rfl (lv_at hl 0 rfl) ?_
  refine lv_bipush (v := 100) C.x C.b dX3_init_81 (by decide) ?_
  refine h_int (N' := 100) (cells' := 8) (slots' := 420) C (by decide) (by decide) (by decide) rfl rfl (Nat.le_of_ble_eq_true rfl) (Nat.le_of_ble_eq_true rfl) hP hD hS dX3_init_83 (fun q8 H hP hD hS => ?_)
  refine q_fin (j := 11) (ty := .array .int) (v := .ref q8) C I.2.2 rfl cw3 tyX3_ok nmX3 (by decide) u1_171 rfl rfl (by decide +kernel) rfl rfl (Nat.le_of_ble_eq_true rfl) (fs' := [.int 0, .int 0, .int 0, .int 0, .ref q1, .ref q2, .ref q3, .ref q4, .ref q5, .ref q6, .ref q7, .ref q8, .null, .null, .null, .null]) rfl hP hD hS dX3_init_85 (fun H locs hP hD hS => ?_)
  refine lv_aload_n C.x C.b dX3_init_88 rfl (lv_at hl 0 rfl) ?_
  refine lv_bipush (v := 6) C.x C.b dX3_init_89 (by decide) ?_
  refine h_boo (N' := 6) (cells' := 9) (slots' := 426) C (by decide) (by decide) (by decide) rfl rfl (Nat.le_of_ble_eq_true rfl) (Nat.le_of_ble_eq_true rfl) hP hD hS dX3_init_91 (fun q9 H hP hD hS => ?_)
  refine q_fin (j := 12) (ty := .array .boolean) (v := .ref q9) C I.2.2 rfl cw3 tyX3_ok nmX3 (by decide) u1_173 rfl rfl (by decide +kernel) rfl rfl (Nat.le_of_ble_eq_true rfl) (fs' := [.int 0, .int 0, .int 0, .int 0, .ref q1, .ref q2, .ref q3, .ref q4, .ref q5, .ref q6, .ref q7, .ref q8, .ref q9, .null, .null, .null]) rfl hP hD hS dX3_init_93 (fun H locs hP hD hS => ?_)
  refine lv_aload_n C.x C.b dX3_init_96 rfl (lv_at hl 0 rfl) ?_
  refine lv_bipush (v := 6) C.x C.b dX3_init_97 (by decide) ?_
  refine h_boo (N' := 6) (cells' := 10) (slots' := 432) C (by decide) (by decide) (by decide) rfl rfl (Nat.le_of_ble_eq_true rfl) (Nat.le_of_ble_eq_true rfl) hP hD hS dX3_init_99 (fun q10 H hP hD hS => ?_)
  refine q_fin (j := 13) (ty := .array .boolean) (v := .ref q10) C I.2.2 rfl cw3 tyX3_ok nmX3 (by decide) u1_174 rfl rfl (by decide +kernel) rfl rfl (Nat.le_of_ble_eq_true rfl) (fs' := [.int 0, .int 0, .int 0, .int 0, .ref q1, .ref q2, .ref q3, .ref q4, .ref q5, .ref q6, .ref q7, .ref q8, .ref q9, .ref q10, .null, .null]) rfl hP hD hS dX3_init_101 (fun H locs hP hD hS => ?_)
  refine lv_aload_n C.x C.b dX3_init_104 rfl (lv_at hl 0 rfl) ?_
  refine n_obj (ci := 2) (dflt := [.int 0, .int 0, .int 0, .int 0, .int 0, .int 0, .null, .null, .null, .null]) (cells' := 11) (slots' := 442) C rfl cw2 tyX2 tyX2_ok (fun j hj => dfl_2 j hj) u1_84 u1_85 u1_6 rfl rfl (Nat.le_of_ble_eq_true rfl) (Nat.le_of_ble_eq_true rfl) hP hD hS dX3_init_105 (fun q11 H hP hD hS => ?_)
  refine lv_dup C.x C.b dX3_init_108 rfl ?_
  refine h_newN (q := q11) (as := []) (cells' := 15) (slots' := 466) (rest := [.ref q11, .ref h0]) (n_X2) MN_X2 n_RX3_59 C hP hD hS rfl (by decide) hl.1 rfl (Nat.le_of_ble_eq_true rfl) rfl rfl (Nat.le_of_ble_eq_true rfl) (Nat.le_of_ble_eq_true rfl) dX3_init_109 (fun ad12 H locs hadad12 hP1 hD1 hS1 => ?_)
  subst hadad12
  have hP := hP1; have hD := hD1; have hS := hS1; clear hP1 hD1 hS1
  refine q_fin (j := 14) (ty := .object "StoneRoads$Opening") (v := .ref (ad12 0)) C I.2.2 rfl cw3 tyX3_ok nmX3 (by decide) u1_175 rfl rfl (by decide +kernel) rfl rfl (Nat.le_of_ble_eq_true rfl) (fs' := [.int 0, .int 0, .int 0, .int 0, .ref q1, .ref q2, .ref q3, .ref q4, .ref q5, .ref q6, .ref q7, .ref q8, .ref q9, .ref q10, .ref (ad12 0), .null]) rfl hP hD hS dX3_init_112 (fun H locs hP hD hS => ?_)
  refine lv_aload_n C.x C.b dX3_init_115 rfl (lv_at hl 0 rfl) ?_
  refine n_obj (ci := 1) (dflt := [.int 0, .null, .null, .null]) (cells' := 16) (slots' := 470) C rfl cw1 tyX1 tyX1_ok (fun j hj => dfl_1 j hj) u1_127 u1_128 u1_7 rfl rfl (Nat.le_of_ble_eq_true rfl) (Nat.le_of_ble_eq_true rfl) hP hD hS dX3_init_116 (fun q13 H hP hD hS => ?_)
  refine lv_dup C.x C.b dX3_init_119 rfl ?_
  refine h_newN (q := q13) (as := []) (cells' := 19) (slots' := 494) (rest := [.ref q13, .ref h0]) (n_X1) MN_X1 n_RX3_66 C hP hD hS rfl (by decide) hl.1 rfl (Nat.le_of_ble_eq_true rfl) rfl rfl (Nat.le_of_ble_eq_true rfl) (Nat.le_of_ble_eq_true rfl) dX3_init_120 (fun ad14 H locs hadad14 hP1 hD1 hS1 => ?_)
  subst hadad14
  have hP := hP1; have hD := hD1; have hS := hS1; clear hP1 hD1 hS1
  refine q_fin (j := 15) (ty := .object "StoneRoads$Loop") (v := .ref (ad14 0)) C I.2.2 rfl cw3 tyX3_ok nmX3 (by decide) u1_176 rfl rfl (by decide +kernel) rfl rfl (Nat.le_of_ble_eq_true rfl) (fs' := [.int 0, .int 0, .int 0, .int 0, .ref q1, .ref q2, .ref q3, .ref q4, .ref q5, .ref q6, .ref q7, .ref q8, .ref q9, .ref q10, .ref (ad12 0), .ref (ad14 0)]) rfl hP hD hS dX3_init_123 (fun H locs hP hD hS => ?_)
  exact r_new (ad := (fun k => ([h0, q1, q2, q3, q4, q5, q6, q7, q8, q9, q10] : List Nat).getD k (if k < 16 then ad12 (k - 11) else ad14 (k - 16)))) rfl (wteq_3 h0 q1 q2 q3 q4 q5 q6 q7 q8 q9 q10 ad12 ad14) (Nat.le_of_ble_eq_true rfl) (Nat.le_of_ble_eq_true rfl) C I hP hD hS dX3_init_126
set_option maxRecDepth 100000 in
set_option maxHeartbeats 8000000 in
theorem n_X0 {l : Launch} {D : va_G} {cy : Nat → ClassId} : CK l yX0_init cX0_init 1 1 43 6 70 D cy 0 [.int 0, .int 0, .null, .null, .null, .null, .null, .null] [] sGround m0 := by
  refine e_new (lv := (fun h0 => [(0, .ref h0)])) (by decide) (fun _ => Nat.le_of_ble_eq_true rfl) (fun _ => rfl) (fun h0 p e s m args below meth c ls A C I hAe hP hD hS hl => ?_) rfl
  have hP : va_P D vwCl ((h0, .inr (0, [.int 0, .int 0, .null, .null, .null, .null, .null, .null])) :: []) s.heap := hP
  have hD : va_D A ((h0, .inr (0, [.int 0, .int 0, .null, .null, .null, .null, .null, .null])) :: []) := hD
  refine lv_aload_n C.x C.b dX0_init_0 rfl (lv_at hl 0 rfl) ?_
  refine w_objInit u1_34 u1_21 u1_22 C hl.1 dX0_init_1 (by decide) (by decide) ?_
  refine lv_aload_n C.x C.b dX0_init_4 rfl (lv_at hl 0 rfl) ?_
  refine lv_iconst (v := 0) C.x C.b dX0_init_5 (by decide) ?_
  refine q_put (j := 0) (ty := .int) (v := .int 0) C rfl cw0 tyX0_ok nmX0 (by decide) u1_38 rfl rfl (by decide +kernel) rfl rfl (Nat.le_of_ble_eq_true rfl) (fs' := [.int 0, .int 0, .null, .null, .null, .null, .null, .null]) rfl hP hD hS dX0_init_6 (fun H locs hP hD hS => ?_)
  refine lv_aload_n C.x C.b dX0_init_9 rfl (lv_at hl 0 rfl) ?_
  refine lv_iconst (v := 0) C.x C.b dX0_init_10 (by decide) ?_
  refine q_put (j := 1) (ty := .int) (v := .int 0) C rfl cw0 tyX0_ok nmX0 (by decide) u1_42 rfl rfl (by decide +kernel) rfl rfl (Nat.le_of_ble_eq_true rfl) (fs' := [.int 0, .int 0, .null, .null, .null, .null, .null, .null]) rfl hP hD hS dX0_init_11 (fun H locs hP hD hS => ?_)
  refine lv_aload_n C.x C.b dX0_init_14 rfl (lv_at hl 0 rfl) ?_
  refine lv_iconst (v := 5) C.x C.b dX0_init_15 (by decide) ?_
  refine h_int (N' := 5) (cells' := 1) (slots' := 5) C (by decide) (by decide) (by decide) rfl rfl (Nat.le_of_ble_eq_true rfl) (Nat.le_of_ble_eq_true rfl) hP hD hS dX0_init_16 (fun q1 H hP hD hS => ?_)
  refine q_fin (j := 2) (ty := .array .int) (v := .ref q1) C I.2.2 rfl cw0 tyX0_ok nmX0 (by decide) u1_46 rfl rfl (by decide +kernel) rfl rfl (Nat.le_of_ble_eq_true rfl) (fs' := [.int 0, .int 0, .ref q1, .null, .null, .null, .null, .null]) rfl hP hD hS dX0_init_18 (fun H locs hP hD hS => ?_)
  refine lv_aload_n C.x C.b dX0_init_21 rfl (lv_at hl 0 rfl) ?_
  refine lv_iconst (v := 5) C.x C.b dX0_init_22 (by decide) ?_
  refine h_int (N' := 5) (cells' := 2) (slots' := 10) C (by decide) (by decide) (by decide) rfl rfl (Nat.le_of_ble_eq_true rfl) (Nat.le_of_ble_eq_true rfl) hP hD hS dX0_init_23 (fun q2 H hP hD hS => ?_)
  refine q_fin (j := 3) (ty := .array .int) (v := .ref q2) C I.2.2 rfl cw0 tyX0_ok nmX0 (by decide) u1_49 rfl rfl (by decide +kernel) rfl rfl (Nat.le_of_ble_eq_true rfl) (fs' := [.int 0, .int 0, .ref q1, .ref q2, .null, .null, .null, .null]) rfl hP hD hS dX0_init_25 (fun H locs hP hD hS => ?_)
  refine lv_aload_n C.x C.b dX0_init_28 rfl (lv_at hl 0 rfl) ?_
  refine lv_iconst (v := 5) C.x C.b dX0_init_29 (by decide) ?_
  refine h_int (N' := 5) (cells' := 3) (slots' := 15) C (by decide) (by decide) (by decide) rfl rfl (Nat.le_of_ble_eq_true rfl) (Nat.le_of_ble_eq_true rfl) hP hD hS dX0_init_30 (fun q3 H hP hD hS => ?_)
  refine q_fin (j := 4) (ty := .array .int) (v := .ref q3) C I.2.2 rfl cw0 tyX0_ok nmX0 (by decide) u1_50 rfl rfl (by decide +kernel) rfl rfl (Nat.le_of_ble_eq_true rfl) (fs' := [.int 0, .int 0, .ref q1, .ref q2, .ref q3, .null, .null, .null]) rfl hP hD hS dX0_init_32 (fun H locs hP hD hS => ?_)
  refine lv_aload_n C.x C.b dX0_init_35 rfl (lv_at hl 0 rfl) ?_
  refine lv_iconst (v := 5) C.x C.b dX0_init_36 (by decide) ?_
  refine h_int (N' := 5) (cells' := 4) (slots' := 20) C (by decide) (by decide) (by decide) rfl rfl (Nat.le_of_ble_eq_true rfl) (Nat.le_of_ble_eq_true rfl) hP hD hS dX0_init_37 (fun q4 H hP hD hS => ?_)
  refine q_fin (j := 5) (ty := .array .int) (v := .ref q4) C I.2.2 rfl cw0 tyX0_ok nmX0 (by decide) u1_53 rfl rfl (by decide +kernel) rfl rfl (Nat.le_of_ble_eq_true rfl) (fs' := [.int 0, .int 0, .ref q1, .ref q2, .ref q3, .ref q4, .null, .null]) rfl hP hD hS dX0_init_39 (fun H locs hP hD hS => ?_)
  refine lv_aload_n C.x C.b dX0_init_42 rfl (lv_at hl 0 rfl) ?_
  refine lv_bipush (v := 25) C.x C.b dX0_init_43 (by decide) ?_
  refine h_int (N' := 25) (cells' := 5) (slots' := 45) C (by decide) (by decide) (by decide) rfl rfl (Nat.le_of_ble_eq_true rfl) (Nat.le_of_ble_eq_true rfl) hP hD hS dX0_init_45 (fun q5 H hP hD hS => ?_)
  refine q_fin (j := 6) (ty := .array .int) (v := .ref q5) C I.2.2 rfl cw0 tyX0_ok nmX0 (by decide) u1_54 rfl rfl (by decide +kernel) rfl rfl (Nat.le_of_ble_eq_true rfl) (fs' := [.int 0, .int 0, .ref q1, .ref q2, .ref q3, .ref q4, .ref q5, .null]) rfl hP hD hS dX0_init_47 (fun H locs hP hD hS => ?_)
  refine lv_aload_n C.x C.b dX0_init_50 rfl (lv_at hl 0 rfl) ?_
  refine lv_bipush (v := 25) C.x C.b dX0_init_51 (by decide) ?_
  refine h_int (N' := 25) (cells' := 6) (slots' := 70) C (by decide) (by decide) (by decide) rfl rfl (Nat.le_of_ble_eq_true rfl) (Nat.le_of_ble_eq_true rfl) hP hD hS dX0_init_53 (fun q6 H hP hD hS => ?_)
  refine q_fin (j := 7) (ty := .array .int) (v := .ref q6) C I.2.2 rfl cw0 tyX0_ok nmX0 (by decide) u1_57 rfl rfl (by decide +kernel) rfl rfl (Nat.le_of_ble_eq_true rfl) (fs' := [.int 0, .int 0, .ref q1, .ref q2, .ref q3, .ref q4, .ref q5, .ref q6]) rfl hP hD hS dX0_init_55 (fun H locs hP hD hS => ?_)
  refine lv_aload_n C.x C.b dX0_init_58 rfl (lv_at hl 0 rfl) ?_
  refine q_get (j := 7) (v := .ref q6) C rfl cw0 (by decide) u1_57 rfl rfl hP dX0_init_59 ?_
  refine lv_bipush (v := 10) C.x C.b dX0_init_62 (by decide) ?_
  refine h_fill (v := 10) (rest := []) u1_35 C (by decide) hP hD hS (by decide) hl.1 (Nat.le_of_ble_eq_true rfl) (Nat.le_of_ble_eq_true rfl) (Nat.le_of_ble_eq_true rfl) dX0_init_64 (fun H locs hP hD hS => ?_)
  exact r_new (ad := (fun k => ([h0, q1, q2, q3, q4, q5, q6] : List Nat).getD k 0)) rfl (by
      rw [wt_wtf (D := D) (cy := cy) (ad := (fun k => ([h0, q1, q2, q3, q4, q5, q6] : List Nat).getD k 0)) (μ := m0) sGround]
      unfold sGround
      simp only [wtf_cons, wtf_nil, List.nil_append, List.cons_append, List.append_assoc]
      rfl) (Nat.le_of_ble_eq_true rfl) (Nat.le_of_ble_eq_true rfl) C I hP hD hS dX0_init_67
set_option maxRecDepth 100000 in
set_option maxHeartbeats 8000000 in
theorem wteq_6 {D : va_G} {cy : Nat → ClassId} (h0 : Nat) (ad2 ad4 ad6 ad8 ad10 : Nat → Nat) : (((h0, .inr (6, [.ref (ad2 0), .ref (ad4 0), .ref (ad6 0), .ref (ad8 0), .ref (ad10 0)])) :: ((((([] ++ wt D cy ad2 m0 sGround) ++ wt D cy ad4 mz sPlan) ++ wt D cy ad6 (m4 5) sRows) ++ wt D cy ad8 (m4 8) sRows) ++ wt D cy ad10 (m4 8) sRows)) : va_W) = wt D cy (fun k => ([h0] : List Nat).getD k (if k < 8 then ad2 (k - 1) else if k < 28 then ad4 (k - 8) else if k < 31 then ad6 (k - 28) else if k < 34 then ad8 (k - 31) else ad10 (k - 34))) m6 sState := by
      rw [wt_wtf (D := D) (cy := cy) (ad := (fun k => ([h0] : List Nat).getD k (if k < 8 then ad2 (k - 1) else if k < 28 then ad4 (k - 8) else if k < 31 then ad6 (k - 28) else if k < 34 then ad8 (k - 31) else ad10 (k - 34)))) (μ := m6) sState]
      rw [show sState = ([.inl (6, fs6)] ++ (sGround ++ (sPlan ++ (sRows ++ (sRows ++ sRows)))) : List Shp) from rfl]
      rw [wtf_app, wtf_app, wtf_app, wtf_app, wtf_app]
      simp only [List.length_cons, List.length_nil, len_sGround, len_sLoop, len_sOpening, len_sPlan, len_sRows, len_sSetUp, len_sState, len_sTape, Nat.zero_add, Nat.reduceAdd]
      have hs0 : wtf D cy (fun k => ([h0] : List Nat).getD k (if k < 8 then ad2 (k - 1) else if k < 28 then ad4 (k - 8) else if k < 31 then ad6 (k - 28) else if k < 34 then ad8 (k - 31) else ad10 (k - 34))) m6 1 sGround = wt D cy ad2 m0 sGround := by
        refine wtf_sub sGround (by decide +kernel) (fun k hk => ?_) (fun k hk => ?_) (fun k hk => ?_)
        · replace hk : k < 7 := hk
          show ([h0] : List Nat).getD (1 + k) (if 1 + k < 8 then ad2 (1 + k - 1) else if 1 + k < 28 then ad4 (1 + k - 8) else if 1 + k < 31 then ad6 (1 + k - 28) else if 1 + k < 34 then ad8 (1 + k - 31) else ad10 (1 + k - 34)) = ad2 k
          rw [getD_tail (by show 1 ≤ 1 + k; omega)]
          (repeat (first | rw [if_pos (by omega)] | rw [if_neg (by omega)])) <;> exact congrArg ad2 (by omega)
        · replace hk : k < 7 := hk
          show m6.1 (1 + k) = m0.1 k
          (simp only [m6]; (repeat (first | rw [if_pos (by omega)] | rw [if_neg (by omega)])) <;> exact congrArg m0.1 (by omega))
        · rfl
      have hs1 : wtf D cy (fun k => ([h0] : List Nat).getD k (if k < 8 then ad2 (k - 1) else if k < 28 then ad4 (k - 8) else if k < 31 then ad6 (k - 28) else if k < 34 then ad8 (k - 31) else ad10 (k - 34))) m6 8 sPlan = wt D cy ad4 mz sPlan := by
        refine wtf_sub sPlan (by decide +kernel) (fun k hk => ?_) (fun k hk => ?_) (fun k hk => ?_)
        · replace hk : k < 20 := hk
          show ([h0] : List Nat).getD (8 + k) (if 8 + k < 8 then ad2 (8 + k - 1) else if 8 + k < 28 then ad4 (8 + k - 8) else if 8 + k < 31 then ad6 (8 + k - 28) else if 8 + k < 34 then ad8 (8 + k - 31) else ad10 (8 + k - 34)) = ad4 k
          rw [getD_tail (by show 1 ≤ 8 + k; omega)]
          (repeat (first | rw [if_pos (by omega)] | rw [if_neg (by omega)])) <;> exact congrArg ad4 (by omega)
        · replace hk : k < 20 := hk
          show m6.1 (8 + k) = mz.1 k
          (simp only [m6]; (repeat (first | rw [if_pos (by omega)] | rw [if_neg (by omega)])) <;> rfl)
        · rfl
      have hs2 : wtf D cy (fun k => ([h0] : List Nat).getD k (if k < 8 then ad2 (k - 1) else if k < 28 then ad4 (k - 8) else if k < 31 then ad6 (k - 28) else if k < 34 then ad8 (k - 31) else ad10 (k - 34))) m6 28 sRows = wt D cy ad6 (m4 5) sRows := by
        refine wtf_sub sRows (by decide +kernel) (fun k hk => ?_) (fun k hk => ?_) (fun k hk => ?_)
        · replace hk : k < 3 := hk
          show ([h0] : List Nat).getD (28 + k) (if 28 + k < 8 then ad2 (28 + k - 1) else if 28 + k < 28 then ad4 (28 + k - 8) else if 28 + k < 31 then ad6 (28 + k - 28) else if 28 + k < 34 then ad8 (28 + k - 31) else ad10 (28 + k - 34)) = ad6 k
          rw [getD_tail (by show 1 ≤ 28 + k; omega)]
          (repeat (first | rw [if_pos (by omega)] | rw [if_neg (by omega)])) <;> exact congrArg ad6 (by omega)
        · replace hk : k < 3 := hk
          show m6.1 (28 + k) = (m4 5).1 k
          (simp only [m6]; (repeat (first | rw [if_pos (by omega)] | rw [if_neg (by omega)])) <;> exact congrArg (m4 5).1 (by omega))
        · rfl
      have hs3 : wtf D cy (fun k => ([h0] : List Nat).getD k (if k < 8 then ad2 (k - 1) else if k < 28 then ad4 (k - 8) else if k < 31 then ad6 (k - 28) else if k < 34 then ad8 (k - 31) else ad10 (k - 34))) m6 31 sRows = wt D cy ad8 (m4 8) sRows := by
        refine wtf_sub sRows (by decide +kernel) (fun k hk => ?_) (fun k hk => ?_) (fun k hk => ?_)
        · replace hk : k < 3 := hk
          show ([h0] : List Nat).getD (31 + k) (if 31 + k < 8 then ad2 (31 + k - 1) else if 31 + k < 28 then ad4 (31 + k - 8) else if 31 + k < 31 then ad6 (31 + k - 28) else if 31 + k < 34 then ad8 (31 + k - 31) else ad10 (31 + k - 34)) = ad8 k
          rw [getD_tail (by show 1 ≤ 31 + k; omega)]
          (repeat (first | rw [if_pos (by omega)] | rw [if_neg (by omega)])) <;> exact congrArg ad8 (by omega)
        · replace hk : k < 3 := hk
          show m6.1 (31 + k) = (m4 8).1 k
          (simp only [m6]; (repeat (first | rw [if_pos (by omega)] | rw [if_neg (by omega)])) <;> exact congrArg (m4 8).1 (by omega))
        · rfl
      have hs4 : wtf D cy (fun k => ([h0] : List Nat).getD k (if k < 8 then ad2 (k - 1) else if k < 28 then ad4 (k - 8) else if k < 31 then ad6 (k - 28) else if k < 34 then ad8 (k - 31) else ad10 (k - 34))) m6 34 sRows = wt D cy ad10 (m4 8) sRows := by
        refine wtf_sub sRows (by decide +kernel) (fun k hk => ?_) (fun k hk => ?_) (fun k hk => ?_)
        · replace hk : k < 3 := hk
          show ([h0] : List Nat).getD (34 + k) (if 34 + k < 8 then ad2 (34 + k - 1) else if 34 + k < 28 then ad4 (34 + k - 8) else if 34 + k < 31 then ad6 (34 + k - 28) else if 34 + k < 34 then ad8 (34 + k - 31) else ad10 (34 + k - 34)) = ad10 k
          rw [getD_tail (by show 1 ≤ 34 + k; omega)]
          (repeat (first | rw [if_pos (by omega)] | rw [if_neg (by omega)])) <;> exact congrArg ad10 (by omega)
        · replace hk : k < 3 := hk
          show m6.1 (34 + k) = (m4 8).1 k
          (simp only [m6]; (repeat (first | rw [if_pos (by omega)] | rw [if_neg (by omega)])) <;> exact congrArg (m4 8).1 (by omega))
        · rfl
      rw [hs0, hs1, hs2, hs3, hs4]
      simp only [wtf_cons, wtf_nil, List.nil_append, List.cons_append, List.append_assoc]
      rfl
set_option maxRecDepth 100000 in
set_option maxHeartbeats 8000000 in
theorem n_X6 {l : Launch} {D : va_G} {cy : Nat → ClassId} : CK l yX6_init cX6_init 1 3 63 36 648 D cy 6 [.null, .null, .null, .null, .null] [] sState m6 := by
  refine e_new (lv := (fun h0 => [(0, .ref h0)])) (by decide) (fun _ => Nat.le_of_ble_eq_true rfl) (fun _ => rfl) (fun h0 p e s m args below meth c ls A C I hAe hP hD hS hl => ?_) rfl
  have hP : va_P D vwCl ((h0, .inr (6, [.null, .null, .null, .null, .null])) :: []) s.heap := hP
  have hD : va_D A ((h0, .inr (6, [.null, .null, .null, .null, .null])) :: []) := hD
  refine lv_aload_n C.x C.b dX6_init_0 rfl (lv_at hl 0 rfl) ?_
  refine w_objInit u1_28 u1_21 u1_22 C hl.1 dX6_init_1 (by decide) (by decide) ?_
  refine lv_aload_n C.x C.b dX6_init_4 rfl (lv_at hl 0 rfl) ?_
  refine n_obj (ci := 0) (dflt := [.int 0, .int 0, .null, .null, .null, .null, .null, .null]) (cells' := 1) (slots' := 8) C rfl cw0 tyX0 tyX0_ok (fun j hj => dfl_0 j hj) u1_29 u1_30 u1_3 rfl rfl (Nat.le_of_ble_eq_true rfl) (Nat.le_of_ble_eq_true rfl) hP hD hS dX6_init_5 (fun q1 H hP hD hS => ?_)
  refine lv_dup C.x C.b dX6_init_8 rfl ?_
  refine h_new (q := q1) (as := []) (cells' := 7) (slots' := 78) (rest := [.ref q1, .ref h0]) (n_X0) MN_X0 u1_31 C hP hD hS rfl (by decide) hl.1 rfl (Nat.le_of_ble_eq_true rfl) rfl rfl (Nat.le_of_ble_eq_true rfl) (Nat.le_of_ble_eq_true rfl) dX6_init_9 (fun ad2 H locs hadad2 hP1 hD1 hS1 => ?_)
  subst hadad2
  have hP := hP1; have hD := hD1; have hS := hS1; clear hP1 hD1 hS1
  refine q_fin (j := 0) (ty := .object "StoneRoads$Ground") (v := .ref (ad2 0)) C I.2.2 rfl cw6 tyX6_ok nmX6 (by decide) u1_236 rfl rfl (by decide +kernel) rfl rfl (Nat.le_of_ble_eq_true rfl) (fs' := [.ref (ad2 0), .null, .null, .null, .null]) rfl hP hD hS dX6_init_12 (fun H locs hP hD hS => ?_)
  refine lv_aload_n C.x C.b dX6_init_15 rfl (lv_at hl 0 rfl) ?_
  refine n_obj (ci := 3) (dflt := [.int 0, .int 0, .int 0, .int 0, .null, .null, .null, .null, .null, .null, .null, .null, .null, .null, .null, .null]) (cells' := 8) (slots' := 94) C rfl cw3 tyX3 tyX3_ok (fun j hj => dfl_3 j hj) u1_78 u1_79 u1_5 rfl rfl (Nat.le_of_ble_eq_true rfl) (Nat.le_of_ble_eq_true rfl) hP hD hS dX6_init_16 (fun q3 H hP hD hS => ?_)
  refine lv_dup C.x C.b dX6_init_19 rfl ?_
  refine h_newN (q := q3) (as := []) (cells' := 27) (slots' := 588) (rest := [.ref q3, .ref h0]) (n_X3) MN_X3 n_RX6_20 C hP hD hS rfl (by decide) hl.1 rfl (Nat.le_of_ble_eq_true rfl) rfl rfl (Nat.le_of_ble_eq_true rfl) (Nat.le_of_ble_eq_true rfl) dX6_init_20 (fun ad4 H locs hadad4 hP1 hD1 hS1 => ?_)
  subst hadad4
  have hP := hP1; have hD := hD1; have hS := hS1; clear hP1 hD1 hS1
  refine q_fin (j := 1) (ty := .object "StoneRoads$Plan") (v := .ref (ad4 0)) C I.2.2 rfl cw6 tyX6_ok nmX6 (by decide) u1_238 rfl rfl (by decide +kernel) rfl rfl (Nat.le_of_ble_eq_true rfl) (fs' := [.ref (ad2 0), .ref (ad4 0), .null, .null, .null]) rfl hP hD hS dX6_init_23 (fun H locs hP hD hS => ?_)
  refine lv_aload_n C.x C.b dX6_init_26 rfl (lv_at hl 0 rfl) ?_
  refine n_obj (ci := 4) (dflt := [.int 0, .int 0, .null, .null]) (cells' := 28) (slots' := 592) C rfl cw4 tyX4 tyX4_ok (fun j hj => dfl_4 j hj) u1_211 u1_212 u1_8 rfl rfl (Nat.le_of_ble_eq_true rfl) (Nat.le_of_ble_eq_true rfl) hP hD hS dX6_init_27 (fun q5 H hP hD hS => ?_)
  refine lv_dup C.x C.b dX6_init_30 rfl ?_
  refine lv_iconst (v := 5) C.x C.b dX6_init_31 (by decide) ?_
  refine h_new (q := q5) (as := [.int 5]) (cells' := 30) (slots' := 608) (rest := [.ref q5, .ref h0]) (n_X4 5) MN_X4 u1_213 C hP hD hS rfl (by decide) hl.1 rfl (Nat.le_of_ble_eq_true rfl) rfl rfl (Nat.le_of_ble_eq_true rfl) (Nat.le_of_ble_eq_true rfl) dX6_init_32 (fun ad6 H locs hadad6 hP1 hD1 hS1 => ?_)
  subst hadad6
  have hP := hP1; have hD := hD1; have hS := hS1; clear hP1 hD1 hS1
  refine q_fin (j := 2) (ty := .object "StoneRoads$Rows") (v := .ref (ad6 0)) C I.2.2 rfl cw6 tyX6_ok nmX6 (by decide) u2_0 rfl rfl (by decide +kernel) rfl rfl (Nat.le_of_ble_eq_true rfl) (fs' := [.ref (ad2 0), .ref (ad4 0), .ref (ad6 0), .null, .null]) rfl hP hD hS dX6_init_35 (fun H locs hP hD hS => ?_)
  refine lv_aload_n C.x C.b dX6_init_38 rfl (lv_at hl 0 rfl) ?_
  refine n_obj (ci := 4) (dflt := [.int 0, .int 0, .null, .null]) (cells' := 31) (slots' := 612) C rfl cw4 tyX4 tyX4_ok (fun j hj => dfl_4 j hj) u1_211 u1_212 u1_8 rfl rfl (Nat.le_of_ble_eq_true rfl) (Nat.le_of_ble_eq_true rfl) hP hD hS dX6_init_39 (fun q7 H hP hD hS => ?_)
  refine lv_dup C.x C.b dX6_init_42 rfl ?_
  refine lv_bipush (v := 8) C.x C.b dX6_init_43 (by decide) ?_
  refine h_new (q := q7) (as := [.int 8]) (cells' := 33) (slots' := 628) (rest := [.ref q7, .ref h0]) (n_X4 8) MN_X4 u1_213 C hP hD hS rfl (by decide) hl.1 rfl (Nat.le_of_ble_eq_true rfl) rfl rfl (Nat.le_of_ble_eq_true rfl) (Nat.le_of_ble_eq_true rfl) dX6_init_45 (fun ad8 H locs hadad8 hP1 hD1 hS1 => ?_)
  subst hadad8
  have hP := hP1; have hD := hD1; have hS := hS1; clear hP1 hD1 hS1
  refine q_fin (j := 3) (ty := .object "StoneRoads$Rows") (v := .ref (ad8 0)) C I.2.2 rfl cw6 tyX6_ok nmX6 (by decide) u2_2 rfl rfl (by decide +kernel) rfl rfl (Nat.le_of_ble_eq_true rfl) (fs' := [.ref (ad2 0), .ref (ad4 0), .ref (ad6 0), .ref (ad8 0), .null]) rfl hP hD hS dX6_init_48 (fun H locs hP hD hS => ?_)
  refine lv_aload_n C.x C.b dX6_init_51 rfl (lv_at hl 0 rfl) ?_
  refine n_obj (ci := 4) (dflt := [.int 0, .int 0, .null, .null]) (cells' := 34) (slots' := 632) C rfl cw4 tyX4 tyX4_ok (fun j hj => dfl_4 j hj) u1_211 u1_212 u1_8 rfl rfl (Nat.le_of_ble_eq_true rfl) (Nat.le_of_ble_eq_true rfl) hP hD hS dX6_init_52 (fun q9 H hP hD hS => ?_)
  refine lv_dup C.x C.b dX6_init_55 rfl ?_
  refine lv_bipush (v := 8) C.x C.b dX6_init_56 (by decide) ?_
  refine h_new (q := q9) (as := [.int 8]) (cells' := 36) (slots' := 648) (rest := [.ref q9, .ref h0]) (n_X4 8) MN_X4 u1_213 C hP hD hS rfl (by decide) hl.1 rfl (Nat.le_of_ble_eq_true rfl) rfl rfl (Nat.le_of_ble_eq_true rfl) (Nat.le_of_ble_eq_true rfl) dX6_init_58 (fun ad10 H locs hadad10 hP1 hD1 hS1 => ?_)
  subst hadad10
  have hP := hP1; have hD := hD1; have hS := hS1; clear hP1 hD1 hS1
  refine q_fin (j := 4) (ty := .object "StoneRoads$Rows") (v := .ref (ad10 0)) C I.2.2 rfl cw6 tyX6_ok nmX6 (by decide) u2_4 rfl rfl (by decide +kernel) rfl rfl (Nat.le_of_ble_eq_true rfl) (fs' := [.ref (ad2 0), .ref (ad4 0), .ref (ad6 0), .ref (ad8 0), .ref (ad10 0)]) rfl hP hD hS dX6_init_61 (fun H locs hP hD hS => ?_)
  exact r_new (ad := (fun k => ([h0] : List Nat).getD k (if k < 8 then ad2 (k - 1) else if k < 28 then ad4 (k - 8) else if k < 31 then ad6 (k - 28) else if k < 34 then ad8 (k - 31) else ad10 (k - 34)))) rfl (wteq_6 h0 ad2 ad4 ad6 ad8 ad10) (Nat.le_of_ble_eq_true rfl) (Nat.le_of_ble_eq_true rfl) C I hP hD hS dX6_init_64
