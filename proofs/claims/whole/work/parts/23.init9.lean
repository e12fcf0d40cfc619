theorem h_mulc {p : Program} {l : Launch} {e : Env} {R : Room} {s : State} {m : MethodId} {args : Array Value} {below : List Frame} {meth : Method} {c : Code} {H : Heap} {locs : List Loc} {cells slots : Nat} {Q : State → Prop} {cc : ByteArray} {nL : Nat} {own : String} {D : va_G} {cy : Nat → ClassId} {A : Nat → Prop} {h0 : Nat} {e0 : va_E} {rw : va_W} {pc : Nat} {ls : Array Slot} {rest : List Value} {idx : Nat} {n k : Int32} {N' K' cells' slots' : Nat} (C : Cg p s m args meth c cc nL own D cy A) (u : Cond.classLink own idx "[[J" ∈ UU) (hn : ¬ n < 0) (hk : ¬ k < 0) (hN : n.toNatClampNeg = N') (hM : k.toNatClampNeg = K')
    (hb1 : N' * 4 ≤ 536870912) (hb2 : K' * 8 ≤ 536870912) (hb3 : K' ≤ 536870912) (hcR : cells + (1 + N') ≤ R.cells) (hsR : slots + (N' + N' * K') ≤ R.slots) (hc : cells + 1 + N' = cells') (hs : slots + N' + N' * K' = slots')
    (hP : va_P D vwCl ((h0, e0) :: rw) H) (hD : va_D A ((h0, e0) :: rw)) (hS : va_S A s.heap H locs) (hdg : decode cc pc = .ok (.multianewarray idx 2, 4))
    (kk : ∀ (q : Nat) (H1 : Heap), va_P D vwCl ((h0, e0) :: (rw ++ ((q, .inl (cy 5, N', vq (fun i => if i < N' then some (q + 1 + i) else none))) :: (List.range N').map (fun i => (q + 1 + i, .inl (cy 3, K', .inr (.inl (fun _ => 0)))))))) H1 →
      va_D A ((h0, e0) :: (rw ++ ((q, .inl (cy 5, N', vq (fun i => if i < N' then some (q + 1 + i) else none))) :: (List.range N').map (fun i => (q + 1 + i, .inl (cy 3, K', .inr (.inl (fun _ => 0)))))))) → va_S A s.heap H1 locs →
      W p l e R s m args below meth c H1 locs cells' slots' Q (F0 m (pc + 4) ls (.ref q :: rest))) : W p l e R s m args below meth c H locs cells slots Q (F0 m pc ls (.int k :: .int n :: rest)) :=
  h_mul C u hn hk hN hM hb1 hb2 hb3 hcR hsR hc hs hP hD hS hdg (fun q H1 h1 h2 h3 => kk q H1 h1 h2 h3)
def ts9 : Nat → Int32 := upd (upd (upd (upd (upd (upd (fun _ => 0) (0 : Int32).toNatClampNeg (-1)) (1 : Int32).toNatClampNeg (-1)) (2 : Int32).toNatClampNeg (-1)) (3 : Int32).toNatClampNeg (-1)) (4 : Int32).toNatClampNeg (-1)) (5 : Int32).toNatClampNeg (-1)
def m9 : Mem := (fun k => if k = 4 then (fun j => if j < 25 then 10 else 0) else if k = 35 then ts9 else (fun _ => 0), fun _ _ => 0)
set_option maxHeartbeats 4000000 in
theorem x9_loop {p : Program} {l : Launch} {e : Env} {R : Room} {s : State} {m : MethodId} {args : Array Value} {below : List Frame} {meth : Method} {c : Code} {cells slots : Nat} {Q : State → Prop} {D : va_G} {cy : Nat → ClassId} {A : Nat → Prop} {h0 q4 : Nat} {fs : List Value} {x1 x2 x3 : Nat × va_E} {W2 : va_W}
    (C : Cg p s m args meth c cX9_init 2 RX9 D cy A) (hfs : fs[5]? = some (.ref q4))
    (fin : ∀ (H : Heap) (locs : List Loc) (ls : Array Slot), va_P D vwCl ((h0, .inr (9, fs)) :: x1 :: x2 :: x3 :: (q4, .inl (cy 0, 25, .inl (fun j => if j < 25 then 10 else 0))) :: W2) H → va_D A ((h0, .inr (9, fs)) :: x1 :: x2 :: x3 :: (q4, .inl (cy 0, 25, .inl (fun j => if j < 25 then 10 else 0))) :: W2) → va_S A s.heap H locs → W p l e R s m args below meth c H locs cells slots Q (F0 m 303 ls [])) :
    ∀ (k i : Nat), i + k = 25 → ∀ (g : Nat → Int32), (∀ j, g j = if j < i then 10 else 0) → ∀ (H : Heap) (locs : List Loc) (ls : Array Slot), va_P D vwCl ((h0, .inr (9, fs)) :: x1 :: x2 :: x3 :: (q4, .inl (cy 0, 25, .inl g)) :: W2) H → va_D A ((h0, .inr (9, fs)) :: x1 :: x2 :: x3 :: (q4, .inl (cy 0, 25, .inl g)) :: W2) → va_S A s.heap H locs → lv_has ls 2 [(1, .int (nI i)), (0, .ref h0)] → W p l e R s m args below meth c H locs cells slots Q (F0 m 283 ls []) := by
  intro k
  induction k with
  | zero =>
    intro i hi g hg H locs ls hP hD hS hl
    refine lv_iload_n C.x C.b dX9_init_283 rfl (lv_at hl 0 rfl) ?_
    refine lv_bipush (v := 25) C.x C.b dX9_init_284 (by decide) ?_
    refine lv_icmp_ge (tgt := 303) C.x C.b dX9_init_286 (by decide) (fun _ => ?_) (fun c1 => absurd (by rw [show i = 25 by omega]; decide) c1)
    have e : g = fun j => if j < 25 then 10 else 0 := by funext j; rw [hg]; rw [show i = 25 by omega]
    subst e
    exact fin H locs ls hP hD hS
  | succ k ih =>
    intro i hi g hg H locs ls hP hD hS hl
    refine lv_iload_n C.x C.b dX9_init_283 rfl (lv_at hl 0 rfl) ?_
    refine lv_bipush (v := 25) C.x C.b dX9_init_284 (by decide) ?_
    refine lv_icmp_ge (tgt := 303) C.x C.b dX9_init_286 (by decide) (fun c1 => absurd c1 (nI_ge (a := i) (b := 25) (by omega) (by omega))) (fun _ => ?_)
    refine lv_aload_n C.x C.b dX9_init_289 rfl (lv_at hl 1 rfl) ?_
    refine q_get (j := 5) (v := .ref q4) C rfl cw9 (by decide) u4_134 rfl hfs hP dX9_init_290 ?_
    refine lv_iload_n C.x C.b dX9_init_293 rfl (lv_at hl 0 rfl) ?_
    refine lv_bipush (v := 10) C.x C.b dX9_init_294 (by decide) ?_
    refine va_iast C.x C.b C.k.1.1 hP hD hS 4 0 rfl rfl (nI_in (by omega) (by omega)) dX9_init_296 (fun H locs hP hD hS => ?_)
    refine lv_iinc (v := nI (i + 1)) (lv' := [(1, .int (nI (i + 1))), (0, .ref h0)]) C.x C.b dX9_init_297 hl (k := 0) rfl (by rw [nI_succ]; rfl) (by decide) rfl (fun ls hl => ?_)
    refine lv_goto (tgt := 283) C.x C.b dX9_init_300 (by decide) ?_
    refine ih (i + 1) (by omega) (upd g (nI i).toNatClampNeg 10) (fun j => ?_) H locs ls hP hD hS hl
    rw [nI_clamp (by omega)]
    unfold upd
    by_cases hj : j = i
    · subst hj; simp
    · rw [if_neg hj, hg]
      by_cases h : j < i
      · rw [if_pos h, if_pos (by omega)]
      · rw [if_neg h, if_neg (by omega)]
set_option maxRecDepth 100000 in
set_option maxHeartbeats 8000000 in
theorem n_X9 {l : Launch} {D : va_G} {cy : Nat → ClassId} : CK l yX9_init cX9_init 2 1 20 37 2262 D cy 9 [.int 0, .int 0, .null, .null, .null, .null, .int 0, .int 0, .int 0, .int 0, .null, .null, .null, .null, .null, .null, .null, .null, .null, .null, .int 0, .int 0, .int 0, .null, .int 0, .null, .int 0, .int 0, .int 0, .null, .int 0, .int 0, .int 0, .int 0, .int 0, .null, .null, .null, .null, .null, .null, .int 0, .int 0, .null, .null, .null, .null, .null, .null, .null, .null] [] sModel m9 := by
  refine e_new (lv := (fun h0 => [(0, .ref h0)])) (by decide) (fun _ => Nat.le_of_ble_eq_true rfl) (fun _ => rfl) (fun h0 p e s m args below meth c ls A C I hAe hP hD hS hl => ?_) rfl
  have hP : va_P D vwCl ((h0, .inr (9, [.int 0, .int 0, .null, .null, .null, .null, .int 0, .int 0, .int 0, .int 0, .null, .null, .null, .null, .null, .null, .null, .null, .null, .null, .int 0, .int 0, .int 0, .null, .int 0, .null, .int 0, .int 0, .int 0, .null, .int 0, .int 0, .int 0, .int 0, .int 0, .null, .null, .null, .null, .null, .null, .int 0, .int 0, .null, .null, .null, .null, .null, .null, .null, .null])) :: []) s.heap := hP
  have hD : va_D A ((h0, .inr (9, [.int 0, .int 0, .null, .null, .null, .null, .int 0, .int 0, .int 0, .int 0, .null, .null, .null, .null, .null, .null, .null, .null, .null, .null, .int 0, .int 0, .int 0, .null, .int 0, .null, .int 0, .int 0, .int 0, .null, .int 0, .int 0, .int 0, .int 0, .int 0, .null, .null, .null, .null, .null, .null, .int 0, .int 0, .null, .null, .null, .null, .null, .null, .null, .null])) :: []) := hD
  refine lv_aload_n C.x C.b dX9_init_0 rfl (lv_at hl 0 rfl) ?_
  refine w_objInit u4_126 u1_21 u1_22 C hl.1 dX9_init_1 (by decide) (by decide) ?_
  refine lv_aload_n C.x C.b dX9_init_4 rfl (lv_at hl 0 rfl) ?_
  refine lv_bipush (v := 10) C.x C.b dX9_init_5 (by decide) ?_
  refine h_int (N' := 10) (cells' := 1) (slots' := 10) C (by decide) (by decide) (by decide) rfl rfl (Nat.le_of_ble_eq_true rfl) (Nat.le_of_ble_eq_true rfl) hP hD hS dX9_init_7 (fun q1 H hP hD hS => ?_)
  refine q_fin (j := 2) (ty := .array .int) (v := .ref q1) C I.2.2 rfl cw9 tyX9_ok nmX9 (by decide) u4_131 rfl rfl (by decide +kernel) rfl rfl (Nat.le_of_ble_eq_true rfl) (fs' := [.int 0, .int 0, .ref q1, .null, .null, .null, .int 0, .int 0, .int 0, .int 0, .null, .null, .null, .null, .null, .null, .null, .null, .null, .null, .int 0, .int 0, .int 0, .null, .int 0, .null, .int 0, .int 0, .int 0, .null, .int 0, .int 0, .int 0, .int 0, .int 0, .null, .null, .null, .null, .null, .null, .int 0, .int 0, .null, .null, .null, .null, .null, .null, .null, .null]) rfl hP hD hS dX9_init_9 (fun H locs hP hD hS => ?_)
  refine lv_aload_n C.x C.b dX9_init_12 rfl (lv_at hl 0 rfl) ?_
  refine lv_bipush (v := 10) C.x C.b dX9_init_13 (by decide) ?_
  refine h_int (N' := 10) (cells' := 2) (slots' := 20) C (by decide) (by decide) (by decide) rfl rfl (Nat.le_of_ble_eq_true rfl) (Nat.le_of_ble_eq_true rfl) hP hD hS dX9_init_15 (fun q2 H hP hD hS => ?_)
  refine q_fin (j := 3) (ty := .array .int) (v := .ref q2) C I.2.2 rfl cw9 tyX9_ok nmX9 (by decide) u4_132 rfl rfl (by decide +kernel) rfl rfl (Nat.le_of_ble_eq_true rfl) (fs' := [.int 0, .int 0, .ref q1, .ref q2, .null, .null, .int 0, .int 0, .int 0, .int 0, .null, .null, .null, .null, .null, .null, .null, .null, .null, .null, .int 0, .int 0, .int 0, .null, .int 0, .null, .int 0, .int 0, .int 0, .null, .int 0, .int 0, .int 0, .int 0, .int 0, .null, .null, .null, .null, .null, .null, .int 0, .int 0, .null, .null, .null, .null, .null, .null, .null, .null]) rfl hP hD hS dX9_init_17 (fun H locs hP hD hS => ?_)
  refine lv_aload_n C.x C.b dX9_init_20 rfl (lv_at hl 0 rfl) ?_
  refine lv_bipush (v := 25) C.x C.b dX9_init_21 (by decide) ?_
  refine h_int (N' := 25) (cells' := 3) (slots' := 45) C (by decide) (by decide) (by decide) rfl rfl (Nat.le_of_ble_eq_true rfl) (Nat.le_of_ble_eq_true rfl) hP hD hS dX9_init_23 (fun q3 H hP hD hS => ?_)
  refine q_fin (j := 4) (ty := .array .int) (v := .ref q3) C I.2.2 rfl cw9 tyX9_ok nmX9 (by decide) u4_133 rfl rfl (by decide +kernel) rfl rfl (Nat.le_of_ble_eq_true rfl) (fs' := [.int 0, .int 0, .ref q1, .ref q2, .ref q3, .null, .int 0, .int 0, .int 0, .int 0, .null, .null, .null, .null, .null, .null, .null, .null, .null, .null, .int 0, .int 0, .int 0, .null, .int 0, .null, .int 0, .int 0, .int 0, .null, .int 0, .int 0, .int 0, .int 0, .int 0, .null, .null, .null, .null, .null, .null, .int 0, .int 0, .null, .null, .null, .null, .null, .null, .null, .null]) rfl hP hD hS dX9_init_25 (fun H locs hP hD hS => ?_)
  refine lv_aload_n C.x C.b dX9_init_28 rfl (lv_at hl 0 rfl) ?_
  refine lv_bipush (v := 25) C.x C.b dX9_init_29 (by decide) ?_
  refine h_int (N' := 25) (cells' := 4) (slots' := 70) C (by decide) (by decide) (by decide) rfl rfl (Nat.le_of_ble_eq_true rfl) (Nat.le_of_ble_eq_true rfl) hP hD hS dX9_init_31 (fun q4 H hP hD hS => ?_)
  refine q_fin (j := 5) (ty := .array .int) (v := .ref q4) C I.2.2 rfl cw9 tyX9_ok nmX9 (by decide) u4_134 rfl rfl (by decide +kernel) rfl rfl (Nat.le_of_ble_eq_true rfl) (fs' := [.int 0, .int 0, .ref q1, .ref q2, .ref q3, .ref q4, .int 0, .int 0, .int 0, .int 0, .null, .null, .null, .null, .null, .null, .null, .null, .null, .null, .int 0, .int 0, .int 0, .null, .int 0, .null, .int 0, .int 0, .int 0, .null, .int 0, .int 0, .int 0, .int 0, .int 0, .null, .null, .null, .null, .null, .null, .int 0, .int 0, .null, .null, .null, .null, .null, .null, .null, .null]) rfl hP hD hS dX9_init_33 (fun H locs hP hD hS => ?_)
  refine lv_aload_n C.x C.b dX9_init_36 rfl (lv_at hl 0 rfl) ?_
  refine lv_bipush (v := 36) C.x C.b dX9_init_37 (by decide) ?_
  refine h_int (N' := 36) (cells' := 5) (slots' := 106) C (by decide) (by decide) (by decide) rfl rfl (Nat.le_of_ble_eq_true rfl) (Nat.le_of_ble_eq_true rfl) hP hD hS dX9_init_39 (fun q5 H hP hD hS => ?_)
  refine q_fin (j := 10) (ty := .array .int) (v := .ref q5) C I.2.2 rfl cw9 tyX9_ok nmX9 (by decide) u4_139 rfl rfl (by decide +kernel) rfl rfl (Nat.le_of_ble_eq_true rfl) (fs' := [.int 0, .int 0, .ref q1, .ref q2, .ref q3, .ref q4, .int 0, .int 0, .int 0, .int 0, .ref q5, .null, .null, .null, .null, .null, .null, .null, .null, .null, .int 0, .int 0, .int 0, .null, .int 0, .null, .int 0, .int 0, .int 0, .null, .int 0, .int 0, .int 0, .int 0, .int 0, .null, .null, .null, .null, .null, .null, .int 0, .int 0, .null, .null, .null, .null, .null, .null, .null, .null]) rfl hP hD hS dX9_init_41 (fun H locs hP hD hS => ?_)
  refine lv_aload_n C.x C.b dX9_init_44 rfl (lv_at hl 0 rfl) ?_
  refine lv_bipush (v := 36) C.x C.b dX9_init_45 (by decide) ?_
  refine h_int (N' := 36) (cells' := 6) (slots' := 142) C (by decide) (by decide) (by decide) rfl rfl (Nat.le_of_ble_eq_true rfl) (Nat.le_of_ble_eq_true rfl) hP hD hS dX9_init_47 (fun q6 H hP hD hS => ?_)
  refine q_fin (j := 11) (ty := .array .int) (v := .ref q6) C I.2.2 rfl cw9 tyX9_ok nmX9 (by decide) u4_140 rfl rfl (by decide +kernel) rfl rfl (Nat.le_of_ble_eq_true rfl) (fs' := [.int 0, .int 0, .ref q1, .ref q2, .ref q3, .ref q4, .int 0, .int 0, .int 0, .int 0, .ref q5, .ref q6, .null, .null, .null, .null, .null, .null, .null, .null, .int 0, .int 0, .int 0, .null, .int 0, .null, .int 0, .int 0, .int 0, .null, .int 0, .int 0, .int 0, .int 0, .int 0, .null, .null, .null, .null, .null, .null, .int 0, .int 0, .null, .null, .null, .null, .null, .null, .null, .null]) rfl hP hD hS dX9_init_49 (fun H locs hP hD hS => ?_)
  refine lv_aload_n C.x C.b dX9_init_52 rfl (lv_at hl 0 rfl) ?_
  refine lv_bipush (v := 36) C.x C.b dX9_init_53 (by decide) ?_
  refine h_int (N' := 36) (cells' := 7) (slots' := 178) C (by decide) (by decide) (by decide) rfl rfl (Nat.le_of_ble_eq_true rfl) (Nat.le_of_ble_eq_true rfl) hP hD hS dX9_init_55 (fun q7 H hP hD hS => ?_)
  refine q_fin (j := 12) (ty := .array .int) (v := .ref q7) C I.2.2 rfl cw9 tyX9_ok nmX9 (by decide) u4_141 rfl rfl (by decide +kernel) rfl rfl (Nat.le_of_ble_eq_true rfl) (fs' := [.int 0, .int 0, .ref q1, .ref q2, .ref q3, .ref q4, .int 0, .int 0, .int 0, .int 0, .ref q5, .ref q6, .ref q7, .null, .null, .null, .null, .null, .null, .null, .int 0, .int 0, .int 0, .null, .int 0, .null, .int 0, .int 0, .int 0, .null, .int 0, .int 0, .int 0, .int 0, .int 0, .null, .null, .null, .null, .null, .null, .int 0, .int 0, .null, .null, .null, .null, .null, .null, .null, .null]) rfl hP hD hS dX9_init_57 (fun H locs hP hD hS => ?_)
  refine lv_aload_n C.x C.b dX9_init_60 rfl (lv_at hl 0 rfl) ?_
  refine lv_sipush (v := 300) C.x C.b dX9_init_61 (by decide) ?_
  refine h_int (N' := 300) (cells' := 8) (slots' := 478) C (by decide) (by decide) (by decide) rfl rfl (Nat.le_of_ble_eq_true rfl) (Nat.le_of_ble_eq_true rfl) hP hD hS dX9_init_64 (fun q8 H hP hD hS => ?_)
  refine q_fin (j := 13) (ty := .array .int) (v := .ref q8) C I.2.2 rfl cw9 tyX9_ok nmX9 (by decide) u4_142 rfl rfl (by decide +kernel) rfl rfl (Nat.le_of_ble_eq_true rfl) (fs' := [.int 0, .int 0, .ref q1, .ref q2, .ref q3, .ref q4, .int 0, .int 0, .int 0, .int 0, .ref q5, .ref q6, .ref q7, .ref q8, .null, .null, .null, .null, .null, .null, .int 0, .int 0, .int 0, .null, .int 0, .null, .int 0, .int 0, .int 0, .null, .int 0, .int 0, .int 0, .int 0, .int 0, .null, .null, .null, .null, .null, .null, .int 0, .int 0, .null, .null, .null, .null, .null, .null, .null, .null]) rfl hP hD hS dX9_init_66 (fun H locs hP hD hS => ?_)
  refine lv_aload_n C.x C.b dX9_init_69 rfl (lv_at hl 0 rfl) ?_
  refine lv_iconst (v := 5) C.x C.b dX9_init_70 (by decide) ?_
  refine h_int (N' := 5) (cells' := 9) (slots' := 483) C (by decide) (by decide) (by decide) rfl rfl (Nat.le_of_ble_eq_true rfl) (Nat.le_of_ble_eq_true rfl) hP hD hS dX9_init_71 (fun q9 H hP hD hS => ?_)
  refine q_fin (j := 14) (ty := .array .int) (v := .ref q9) C I.2.2 rfl cw9 tyX9_ok nmX9 (by decide) u4_143 rfl rfl (by decide +kernel) rfl rfl (Nat.le_of_ble_eq_true rfl) (fs' := [.int 0, .int 0, .ref q1, .ref q2, .ref q3, .ref q4, .int 0, .int 0, .int 0, .int 0, .ref q5, .ref q6, .ref q7, .ref q8, .ref q9, .null, .null, .null, .null, .null, .int 0, .int 0, .int 0, .null, .int 0, .null, .int 0, .int 0, .int 0, .null, .int 0, .int 0, .int 0, .int 0, .int 0, .null, .null, .null, .null, .null, .null, .int 0, .int 0, .null, .null, .null, .null, .null, .null, .null, .null]) rfl hP hD hS dX9_init_73 (fun H locs hP hD hS => ?_)
  refine lv_aload_n C.x C.b dX9_init_76 rfl (lv_at hl 0 rfl) ?_
  refine lv_iconst (v := 5) C.x C.b dX9_init_77 (by decide) ?_
  refine h_int (N' := 5) (cells' := 10) (slots' := 488) C (by decide) (by decide) (by decide) rfl rfl (Nat.le_of_ble_eq_true rfl) (Nat.le_of_ble_eq_true rfl) hP hD hS dX9_init_78 (fun q10 H hP hD hS => ?_)
  refine q_fin (j := 15) (ty := .array .int) (v := .ref q10) C I.2.2 rfl cw9 tyX9_ok nmX9 (by decide) u4_144 rfl rfl (by decide +kernel) rfl rfl (Nat.le_of_ble_eq_true rfl) (fs' := [.int 0, .int 0, .ref q1, .ref q2, .ref q3, .ref q4, .int 0, .int 0, .int 0, .int 0, .ref q5, .ref q6, .ref q7, .ref q8, .ref q9, .ref q10, .null, .null, .null, .null, .int 0, .int 0, .int 0, .null, .int 0, .null, .int 0, .int 0, .int 0, .null, .int 0, .int 0, .int 0, .int 0, .int 0, .null, .null, .null, .null, .null, .null, .int 0, .int 0, .null, .null, .null, .null, .null, .null, .null, .null]) rfl hP hD hS dX9_init_80 (fun H locs hP hD hS => ?_)
  refine lv_aload_n C.x C.b dX9_init_83 rfl (lv_at hl 0 rfl) ?_
  refine lv_bipush (v := 8) C.x C.b dX9_init_84 (by decide) ?_
  refine h_int (N' := 8) (cells' := 11) (slots' := 496) C (by decide) (by decide) (by decide) rfl rfl (Nat.le_of_ble_eq_true rfl) (Nat.le_of_ble_eq_true rfl) hP hD hS dX9_init_86 (fun q11 H hP hD hS => ?_)
  refine q_fin (j := 16) (ty := .array .int) (v := .ref q11) C I.2.2 rfl cw9 tyX9_ok nmX9 (by decide) u4_145 rfl rfl (by decide +kernel) rfl rfl (Nat.le_of_ble_eq_true rfl) (fs' := [.int 0, .int 0, .ref q1, .ref q2, .ref q3, .ref q4, .int 0, .int 0, .int 0, .int 0, .ref q5, .ref q6, .ref q7, .ref q8, .ref q9, .ref q10, .ref q11, .null, .null, .null, .int 0, .int 0, .int 0, .null, .int 0, .null, .int 0, .int 0, .int 0, .null, .int 0, .int 0, .int 0, .int 0, .int 0, .null, .null, .null, .null, .null, .null, .int 0, .int 0, .null, .null, .null, .null, .null, .null, .null, .null]) rfl hP hD hS dX9_init_88 (fun H locs hP hD hS => ?_)
  refine lv_aload_n C.x C.b dX9_init_91 rfl (lv_at hl 0 rfl) ?_
  refine lv_bipush (v := 8) C.x C.b dX9_init_92 (by decide) ?_
  refine h_int (N' := 8) (cells' := 12) (slots' := 504) C (by decide) (by decide) (by decide) rfl rfl (Nat.le_of_ble_eq_true rfl) (Nat.le_of_ble_eq_true rfl) hP hD hS dX9_init_94 (fun q12 H hP hD hS => ?_)
  refine q_fin (j := 17) (ty := .array .int) (v := .ref q12) C I.2.2 rfl cw9 tyX9_ok nmX9 (by decide) u4_146 rfl rfl (by decide +kernel) rfl rfl (Nat.le_of_ble_eq_true rfl) (fs' := [.int 0, .int 0, .ref q1, .ref q2, .ref q3, .ref q4, .int 0, .int 0, .int 0, .int 0, .ref q5, .ref q6, .ref q7, .ref q8, .ref q9, .ref q10, .ref q11, .ref q12, .null, .null, .int 0, .int 0, .int 0, .null, .int 0, .null, .int 0, .int 0, .int 0, .null, .int 0, .int 0, .int 0, .int 0, .int 0, .null, .null, .null, .null, .null, .null, .int 0, .int 0, .null, .null, .null, .null, .null, .null, .null, .null]) rfl hP hD hS dX9_init_96 (fun H locs hP hD hS => ?_)
  refine lv_aload_n C.x C.b dX9_init_99 rfl (lv_at hl 0 rfl) ?_
  refine lv_bipush (v := 8) C.x C.b dX9_init_100 (by decide) ?_
  refine h_int (N' := 8) (cells' := 13) (slots' := 512) C (by decide) (by decide) (by decide) rfl rfl (Nat.le_of_ble_eq_true rfl) (Nat.le_of_ble_eq_true rfl) hP hD hS dX9_init_102 (fun q13 H hP hD hS => ?_)
  refine q_fin (j := 18) (ty := .array .int) (v := .ref q13) C I.2.2 rfl cw9 tyX9_ok nmX9 (by decide) u4_147 rfl rfl (by decide +kernel) rfl rfl (Nat.le_of_ble_eq_true rfl) (fs' := [.int 0, .int 0, .ref q1, .ref q2, .ref q3, .ref q4, .int 0, .int 0, .int 0, .int 0, .ref q5, .ref q6, .ref q7, .ref q8, .ref q9, .ref q10, .ref q11, .ref q12, .ref q13, .null, .int 0, .int 0, .int 0, .null, .int 0, .null, .int 0, .int 0, .int 0, .null, .int 0, .int 0, .int 0, .int 0, .int 0, .null, .null, .null, .null, .null, .null, .int 0, .int 0, .null, .null, .null, .null, .null, .null, .null, .null]) rfl hP hD hS dX9_init_104 (fun H locs hP hD hS => ?_)
  refine lv_aload_n C.x C.b dX9_init_107 rfl (lv_at hl 0 rfl) ?_
  refine lv_bipush (v := 8) C.x C.b dX9_init_108 (by decide) ?_
  refine h_int (N' := 8) (cells' := 14) (slots' := 520) C (by decide) (by decide) (by decide) rfl rfl (Nat.le_of_ble_eq_true rfl) (Nat.le_of_ble_eq_true rfl) hP hD hS dX9_init_110 (fun q14 H hP hD hS => ?_)
  refine q_fin (j := 19) (ty := .array .int) (v := .ref q14) C I.2.2 rfl cw9 tyX9_ok nmX9 (by decide) u4_148 rfl rfl (by decide +kernel) rfl rfl (Nat.le_of_ble_eq_true rfl) (fs' := [.int 0, .int 0, .ref q1, .ref q2, .ref q3, .ref q4, .int 0, .int 0, .int 0, .int 0, .ref q5, .ref q6, .ref q7, .ref q8, .ref q9, .ref q10, .ref q11, .ref q12, .ref q13, .ref q14, .int 0, .int 0, .int 0, .null, .int 0, .null, .int 0, .int 0, .int 0, .null, .int 0, .int 0, .int 0, .int 0, .int 0, .null, .null, .null, .null, .null, .null, .int 0, .int 0, .null, .null, .null, .null, .null, .null, .null, .null]) rfl hP hD hS dX9_init_112 (fun H locs hP hD hS => ?_)
  refine lv_aload_n C.x C.b dX9_init_115 rfl (lv_at hl 0 rfl) ?_
  refine lv_bipush (v := 100) C.x C.b dX9_init_116 (by decide) ?_
  refine h_int (N' := 100) (cells' := 15) (slots' := 620) C (by decide) (by decide) (by decide) rfl rfl (Nat.le_of_ble_eq_true rfl) (Nat.le_of_ble_eq_true rfl) hP hD hS dX9_init_118 (fun q15 H hP hD hS => ?_)
  refine q_fin (j := 23) (ty := .array .int) (v := .ref q15) C I.2.2 rfl cw9 tyX9_ok nmX9 (by decide) u4_152 rfl rfl (by decide +kernel) rfl rfl (Nat.le_of_ble_eq_true rfl) (fs' := [.int 0, .int 0, .ref q1, .ref q2, .ref q3, .ref q4, .int 0, .int 0, .int 0, .int 0, .ref q5, .ref q6, .ref q7, .ref q8, .ref q9, .ref q10, .ref q11, .ref q12, .ref q13, .ref q14, .int 0, .int 0, .int 0, .ref q15, .int 0, .null, .int 0, .int 0, .int 0, .null, .int 0, .int 0, .int 0, .int 0, .int 0, .null, .null, .null, .null, .null, .null, .int 0, .int 0, .null, .null, .null, .null, .null, .null, .null, .null]) rfl hP hD hS dX9_init_120 (fun H locs hP hD hS => ?_)
  refine lv_aload_n C.x C.b dX9_init_123 rfl (lv_at hl 0 rfl) ?_
  refine lv_sipush (v := 640) C.x C.b dX9_init_124 (by decide) ?_
  refine h_int (N' := 640) (cells' := 16) (slots' := 1260) C (by decide) (by decide) (by decide) rfl rfl (Nat.le_of_ble_eq_true rfl) (Nat.le_of_ble_eq_true rfl) hP hD hS dX9_init_127 (fun q16 H hP hD hS => ?_)
  refine q_fin (j := 25) (ty := .array .int) (v := .ref q16) C I.2.2 rfl cw9 tyX9_ok nmX9 (by decide) u4_154 rfl rfl (by decide +kernel) rfl rfl (Nat.le_of_ble_eq_true rfl) (fs' := [.int 0, .int 0, .ref q1, .ref q2, .ref q3, .ref q4, .int 0, .int 0, .int 0, .int 0, .ref q5, .ref q6, .ref q7, .ref q8, .ref q9, .ref q10, .ref q11, .ref q12, .ref q13, .ref q14, .int 0, .int 0, .int 0, .ref q15, .int 0, .ref q16, .int 0, .int 0, .int 0, .null, .int 0, .int 0, .int 0, .int 0, .int 0, .null, .null, .null, .null, .null, .null, .int 0, .int 0, .null, .null, .null, .null, .null, .null, .null, .null]) rfl hP hD hS dX9_init_129 (fun H locs hP hD hS => ?_)
  refine lv_aload_n C.x C.b dX9_init_132 rfl (lv_at hl 0 rfl) ?_
  refine lv_sipush (v := 411) C.x C.b dX9_init_133 (by decide) ?_
  refine h_int (N' := 411) (cells' := 17) (slots' := 1671) C (by decide) (by decide) (by decide) rfl rfl (Nat.le_of_ble_eq_true rfl) (Nat.le_of_ble_eq_true rfl) hP hD hS dX9_init_136 (fun q17 H hP hD hS => ?_)
  refine q_fin (j := 29) (ty := .array .int) (v := .ref q17) C I.2.2 rfl cw9 tyX9_ok nmX9 (by decide) u4_158 rfl rfl (by decide +kernel) rfl rfl (Nat.le_of_ble_eq_true rfl) (fs' := [.int 0, .int 0, .ref q1, .ref q2, .ref q3, .ref q4, .int 0, .int 0, .int 0, .int 0, .ref q5, .ref q6, .ref q7, .ref q8, .ref q9, .ref q10, .ref q11, .ref q12, .ref q13, .ref q14, .int 0, .int 0, .int 0, .ref q15, .int 0, .ref q16, .int 0, .int 0, .int 0, .ref q17, .int 0, .int 0, .int 0, .int 0, .int 0, .null, .null, .null, .null, .null, .null, .int 0, .int 0, .null, .null, .null, .null, .null, .null, .null, .null]) rfl hP hD hS dX9_init_138 (fun H locs hP hD hS => ?_)
  refine lv_aload_n C.x C.b dX9_init_141 rfl (lv_at hl 0 rfl) ?_
  refine lv_bipush (v := 12) C.x C.b dX9_init_142 (by decide) ?_
  refine h_int (N' := 12) (cells' := 18) (slots' := 1683) C (by decide) (by decide) (by decide) rfl rfl (Nat.le_of_ble_eq_true rfl) (Nat.le_of_ble_eq_true rfl) hP hD hS dX9_init_144 (fun q18 H hP hD hS => ?_)
  refine q_fin (j := 35) (ty := .array .int) (v := .ref q18) C I.2.2 rfl cw9 tyX9_ok nmX9 (by decide) u4_164 rfl rfl (by decide +kernel) rfl rfl (Nat.le_of_ble_eq_true rfl) (fs' := [.int 0, .int 0, .ref q1, .ref q2, .ref q3, .ref q4, .int 0, .int 0, .int 0, .int 0, .ref q5, .ref q6, .ref q7, .ref q8, .ref q9, .ref q10, .ref q11, .ref q12, .ref q13, .ref q14, .int 0, .int 0, .int 0, .ref q15, .int 0, .ref q16, .int 0, .int 0, .int 0, .ref q17, .int 0, .int 0, .int 0, .int 0, .int 0, .ref q18, .null, .null, .null, .null, .null, .int 0, .int 0, .null, .null, .null, .null, .null, .null, .null, .null]) rfl hP hD hS dX9_init_146 (fun H locs hP hD hS => ?_)
  refine lv_aload_n C.x C.b dX9_init_149 rfl (lv_at hl 0 rfl) ?_
  refine lv_bipush (v := 12) C.x C.b dX9_init_150 (by decide) ?_
  refine h_boo (N' := 12) (cells' := 19) (slots' := 1695) C (by decide) (by decide) (by decide) rfl rfl (Nat.le_of_ble_eq_true rfl) (Nat.le_of_ble_eq_true rfl) hP hD hS dX9_init_152 (fun q19 H hP hD hS => ?_)
  refine q_fin (j := 36) (ty := .array .boolean) (v := .ref q19) C I.2.2 rfl cw9 tyX9_ok nmX9 (by decide) u4_165 rfl rfl (by decide +kernel) rfl rfl (Nat.le_of_ble_eq_true rfl) (fs' := [.int 0, .int 0, .ref q1, .ref q2, .ref q3, .ref q4, .int 0, .int 0, .int 0, .int 0, .ref q5, .ref q6, .ref q7, .ref q8, .ref q9, .ref q10, .ref q11, .ref q12, .ref q13, .ref q14, .int 0, .int 0, .int 0, .ref q15, .int 0, .ref q16, .int 0, .int 0, .int 0, .ref q17, .int 0, .int 0, .int 0, .int 0, .int 0, .ref q18, .ref q19, .null, .null, .null, .null, .int 0, .int 0, .null, .null, .null, .null, .null, .null, .null, .null]) rfl hP hD hS dX9_init_154 (fun H locs hP hD hS => ?_)
  refine lv_aload_n C.x C.b dX9_init_157 rfl (lv_at hl 0 rfl) ?_
  refine lv_bipush (v := 12) C.x C.b dX9_init_158 (by decide) ?_
  refine h_int (N' := 12) (cells' := 20) (slots' := 1707) C (by decide) (by decide) (by decide) rfl rfl (Nat.le_of_ble_eq_true rfl) (Nat.le_of_ble_eq_true rfl) hP hD hS dX9_init_160 (fun q20 H hP hD hS => ?_)
  refine q_fin (j := 37) (ty := .array .int) (v := .ref q20) C I.2.2 rfl cw9 tyX9_ok nmX9 (by decide) u4_166 rfl rfl (by decide +kernel) rfl rfl (Nat.le_of_ble_eq_true rfl) (fs' := [.int 0, .int 0, .ref q1, .ref q2, .ref q3, .ref q4, .int 0, .int 0, .int 0, .int 0, .ref q5, .ref q6, .ref q7, .ref q8, .ref q9, .ref q10, .ref q11, .ref q12, .ref q13, .ref q14, .int 0, .int 0, .int 0, .ref q15, .int 0, .ref q16, .int 0, .int 0, .int 0, .ref q17, .int 0, .int 0, .int 0, .int 0, .int 0, .ref q18, .ref q19, .ref q20, .null, .null, .null, .int 0, .int 0, .null, .null, .null, .null, .null, .null, .null, .null]) rfl hP hD hS dX9_init_162 (fun H locs hP hD hS => ?_)
  refine lv_aload_n C.x C.b dX9_init_165 rfl (lv_at hl 0 rfl) ?_
  refine lv_bipush (v := 12) C.x C.b dX9_init_166 (by decide) ?_
  refine h_boo (N' := 12) (cells' := 21) (slots' := 1719) C (by decide) (by decide) (by decide) rfl rfl (Nat.le_of_ble_eq_true rfl) (Nat.le_of_ble_eq_true rfl) hP hD hS dX9_init_168 (fun q21 H hP hD hS => ?_)
  refine q_fin (j := 38) (ty := .array .boolean) (v := .ref q21) C I.2.2 rfl cw9 tyX9_ok nmX9 (by decide) u4_167 rfl rfl (by decide +kernel) rfl rfl (Nat.le_of_ble_eq_true rfl) (fs' := [.int 0, .int 0, .ref q1, .ref q2, .ref q3, .ref q4, .int 0, .int 0, .int 0, .int 0, .ref q5, .ref q6, .ref q7, .ref q8, .ref q9, .ref q10, .ref q11, .ref q12, .ref q13, .ref q14, .int 0, .int 0, .int 0, .ref q15, .int 0, .ref q16, .int 0, .int 0, .int 0, .ref q17, .int 0, .int 0, .int 0, .int 0, .int 0, .ref q18, .ref q19, .ref q20, .ref q21, .null, .null, .int 0, .int 0, .null, .null, .null, .null, .null, .null, .null, .null]) rfl hP hD hS dX9_init_170 (fun H locs hP hD hS => ?_)
  refine lv_aload_n C.x C.b dX9_init_173 rfl (lv_at hl 0 rfl) ?_
  refine lv_bipush (v := 36) C.x C.b dX9_init_174 (by decide) ?_
  refine h_boo (N' := 36) (cells' := 22) (slots' := 1755) C (by decide) (by decide) (by decide) rfl rfl (Nat.le_of_ble_eq_true rfl) (Nat.le_of_ble_eq_true rfl) hP hD hS dX9_init_176 (fun q22 H hP hD hS => ?_)
  refine q_fin (j := 39) (ty := .array .boolean) (v := .ref q22) C I.2.2 rfl cw9 tyX9_ok nmX9 (by decide) u4_168 rfl rfl (by decide +kernel) rfl rfl (Nat.le_of_ble_eq_true rfl) (fs' := [.int 0, .int 0, .ref q1, .ref q2, .ref q3, .ref q4, .int 0, .int 0, .int 0, .int 0, .ref q5, .ref q6, .ref q7, .ref q8, .ref q9, .ref q10, .ref q11, .ref q12, .ref q13, .ref q14, .int 0, .int 0, .int 0, .ref q15, .int 0, .ref q16, .int 0, .int 0, .int 0, .ref q17, .int 0, .int 0, .int 0, .int 0, .int 0, .ref q18, .ref q19, .ref q20, .ref q21, .ref q22, .null, .int 0, .int 0, .null, .null, .null, .null, .null, .null, .null, .null]) rfl hP hD hS dX9_init_178 (fun H locs hP hD hS => ?_)
  refine lv_aload_n C.x C.b dX9_init_181 rfl (lv_at hl 0 rfl) ?_
  refine lv_bipush (v := 12) C.x C.b dX9_init_182 (by decide) ?_
  refine h_int (N' := 12) (cells' := 23) (slots' := 1767) C (by decide) (by decide) (by decide) rfl rfl (Nat.le_of_ble_eq_true rfl) (Nat.le_of_ble_eq_true rfl) hP hD hS dX9_init_184 (fun q23 H hP hD hS => ?_)
  refine q_fin (j := 40) (ty := .array .int) (v := .ref q23) C I.2.2 rfl cw9 tyX9_ok nmX9 (by decide) u4_169 rfl rfl (by decide +kernel) rfl rfl (Nat.le_of_ble_eq_true rfl) (fs' := [.int 0, .int 0, .ref q1, .ref q2, .ref q3, .ref q4, .int 0, .int 0, .int 0, .int 0, .ref q5, .ref q6, .ref q7, .ref q8, .ref q9, .ref q10, .ref q11, .ref q12, .ref q13, .ref q14, .int 0, .int 0, .int 0, .ref q15, .int 0, .ref q16, .int 0, .int 0, .int 0, .ref q17, .int 0, .int 0, .int 0, .int 0, .int 0, .ref q18, .ref q19, .ref q20, .ref q21, .ref q22, .ref q23, .int 0, .int 0, .null, .null, .null, .null, .null, .null, .null, .null]) rfl hP hD hS dX9_init_186 (fun H locs hP hD hS => ?_)
  refine lv_aload_n C.x C.b dX9_init_189 rfl (lv_at hl 0 rfl) ?_
  refine lv_bipush (v := 12) C.x C.b dX9_init_190 (by decide) ?_
  refine h_int (N' := 12) (cells' := 24) (slots' := 1779) C (by decide) (by decide) (by decide) rfl rfl (Nat.le_of_ble_eq_true rfl) (Nat.le_of_ble_eq_true rfl) hP hD hS dX9_init_192 (fun q24 H hP hD hS => ?_)
  refine q_fin (j := 43) (ty := .array .int) (v := .ref q24) C I.2.2 rfl cw9 tyX9_ok nmX9 (by decide) u4_172 rfl rfl (by decide +kernel) rfl rfl (Nat.le_of_ble_eq_true rfl) (fs' := [.int 0, .int 0, .ref q1, .ref q2, .ref q3, .ref q4, .int 0, .int 0, .int 0, .int 0, .ref q5, .ref q6, .ref q7, .ref q8, .ref q9, .ref q10, .ref q11, .ref q12, .ref q13, .ref q14, .int 0, .int 0, .int 0, .ref q15, .int 0, .ref q16, .int 0, .int 0, .int 0, .ref q17, .int 0, .int 0, .int 0, .int 0, .int 0, .ref q18, .ref q19, .ref q20, .ref q21, .ref q22, .ref q23, .int 0, .int 0, .ref q24, .null, .null, .null, .null, .null, .null, .null]) rfl hP hD hS dX9_init_194 (fun H locs hP hD hS => ?_)
  refine lv_aload_n C.x C.b dX9_init_197 rfl (lv_at hl 0 rfl) ?_
  refine lv_bipush (v := 10) C.x C.b dX9_init_198 (by decide) ?_
  refine h_int (N' := 10) (cells' := 25) (slots' := 1789) C (by decide) (by decide) (by decide) rfl rfl (Nat.le_of_ble_eq_true rfl) (Nat.le_of_ble_eq_true rfl) hP hD hS dX9_init_200 (fun q25 H hP hD hS => ?_)
  refine q_fin (j := 44) (ty := .array .int) (v := .ref q25) C I.2.2 rfl cw9 tyX9_ok nmX9 (by decide) u4_173 rfl rfl (by decide +kernel) rfl rfl (Nat.le_of_ble_eq_true rfl) (fs' := [.int 0, .int 0, .ref q1, .ref q2, .ref q3, .ref q4, .int 0, .int 0, .int 0, .int 0, .ref q5, .ref q6, .ref q7, .ref q8, .ref q9, .ref q10, .ref q11, .ref q12, .ref q13, .ref q14, .int 0, .int 0, .int 0, .ref q15, .int 0, .ref q16, .int 0, .int 0, .int 0, .ref q17, .int 0, .int 0, .int 0, .int 0, .int 0, .ref q18, .ref q19, .ref q20, .ref q21, .ref q22, .ref q23, .int 0, .int 0, .ref q24, .ref q25, .null, .null, .null, .null, .null, .null]) rfl hP hD hS dX9_init_202 (fun H locs hP hD hS => ?_)
  refine lv_aload_n C.x C.b dX9_init_205 rfl (lv_at hl 0 rfl) ?_
  refine lv_bipush (v := 10) C.x C.b dX9_init_206 (by decide) ?_
  refine h_int (N' := 10) (cells' := 26) (slots' := 1799) C (by decide) (by decide) (by decide) rfl rfl (Nat.le_of_ble_eq_true rfl) (Nat.le_of_ble_eq_true rfl) hP hD hS dX9_init_208 (fun q26 H hP hD hS => ?_)
  refine q_fin (j := 45) (ty := .array .int) (v := .ref q26) C I.2.2 rfl cw9 tyX9_ok nmX9 (by decide) u4_174 rfl rfl (by decide +kernel) rfl rfl (Nat.le_of_ble_eq_true rfl) (fs' := [.int 0, .int 0, .ref q1, .ref q2, .ref q3, .ref q4, .int 0, .int 0, .int 0, .int 0, .ref q5, .ref q6, .ref q7, .ref q8, .ref q9, .ref q10, .ref q11, .ref q12, .ref q13, .ref q14, .int 0, .int 0, .int 0, .ref q15, .int 0, .ref q16, .int 0, .int 0, .int 0, .ref q17, .int 0, .int 0, .int 0, .int 0, .int 0, .ref q18, .ref q19, .ref q20, .ref q21, .ref q22, .ref q23, .int 0, .int 0, .ref q24, .ref q25, .ref q26, .null, .null, .null, .null, .null]) rfl hP hD hS dX9_init_210 (fun H locs hP hD hS => ?_)
  refine lv_aload_n C.x C.b dX9_init_213 rfl (lv_at hl 0 rfl) ?_
  refine lv_bipush (v := 25) C.x C.b dX9_init_214 (by decide) ?_
  refine h_int (N' := 25) (cells' := 27) (slots' := 1824) C (by decide) (by decide) (by decide) rfl rfl (Nat.le_of_ble_eq_true rfl) (Nat.le_of_ble_eq_true rfl) hP hD hS dX9_init_216 (fun q27 H hP hD hS => ?_)
  refine q_fin (j := 46) (ty := .array .int) (v := .ref q27) C I.2.2 rfl cw9 tyX9_ok nmX9 (by decide) u4_175 rfl rfl (by decide +kernel) rfl rfl (Nat.le_of_ble_eq_true rfl) (fs' := [.int 0, .int 0, .ref q1, .ref q2, .ref q3, .ref q4, .int 0, .int 0, .int 0, .int 0, .ref q5, .ref q6, .ref q7, .ref q8, .ref q9, .ref q10, .ref q11, .ref q12, .ref q13, .ref q14, .int 0, .int 0, .int 0, .ref q15, .int 0, .ref q16, .int 0, .int 0, .int 0, .ref q17, .int 0, .int 0, .int 0, .int 0, .int 0, .ref q18, .ref q19, .ref q20, .ref q21, .ref q22, .ref q23, .int 0, .int 0, .ref q24, .ref q25, .ref q26, .ref q27, .null, .null, .null, .null]) rfl hP hD hS dX9_init_218 (fun H locs hP hD hS => ?_)
  refine lv_aload_n C.x C.b dX9_init_221 rfl (lv_at hl 0 rfl) ?_
  refine lv_bipush (v := 6) C.x C.b dX9_init_222 (by decide) ?_
  refine lv_bipush (v := 60) C.x C.b dX9_init_224 (by decide) ?_
  refine h_mulc (N' := 6) (K' := 60) (cells' := 34) (slots' := 2190) C u4_127 (by decide) (by decide) (by decide) (by decide) (by decide) (by decide) (by decide) (Nat.le_of_ble_eq_true rfl) (Nat.le_of_ble_eq_true rfl) rfl rfl hP hD hS dX9_init_226 (fun qm H hP hD hS => ?_)
  refine q_fin (j := 47) (ty := .array (.array .long)) (v := .ref qm) C I.2.2 rfl cw9 tyX9_ok nmX9 (by decide) u4_176 rfl rfl (by decide +kernel) rfl rfl (Nat.le_of_ble_eq_true rfl) (fs' := [.int 0, .int 0, .ref q1, .ref q2, .ref q3, .ref q4, .int 0, .int 0, .int 0, .int 0, .ref q5, .ref q6, .ref q7, .ref q8, .ref q9, .ref q10, .ref q11, .ref q12, .ref q13, .ref q14, .int 0, .int 0, .int 0, .ref q15, .int 0, .ref q16, .int 0, .int 0, .int 0, .ref q17, .int 0, .int 0, .int 0, .int 0, .int 0, .ref q18, .ref q19, .ref q20, .ref q21, .ref q22, .ref q23, .int 0, .int 0, .ref q24, .ref q25, .ref q26, .ref q27, .ref qm, .null, .null, .null]) rfl hP hD hS dX9_init_230 (fun H locs hP hD hS => ?_)
  refine lv_aload_n C.x C.b dX9_init_233 rfl (lv_at hl 0 rfl) ?_
  refine lv_bipush (v := 6) C.x C.b dX9_init_234 (by decide) ?_
  refine h_int (N' := 6) (cells' := 35) (slots' := 2196) C (by decide) (by decide) (by decide) rfl rfl (Nat.le_of_ble_eq_true rfl) (Nat.le_of_ble_eq_true rfl) hP hD hS dX9_init_236 (fun q28 H hP hD hS => ?_)
  refine lv_dup C.x C.b dX9_init_238 rfl ?_
  refine lv_iconst (v := 0) C.x C.b dX9_init_239 (by decide) ?_
  refine lv_iconst (v := (-1)) C.x C.b dX9_init_240 (by decide) ?_
  refine h_ast C (inb_in (i := 0) (n := 6) (by decide)) hP hD hS dX9_init_241 (fun H locs hP hD hS => ?_)
  refine lv_dup C.x C.b dX9_init_242 rfl ?_
  refine lv_iconst (v := 1) C.x C.b dX9_init_243 (by decide) ?_
  refine lv_iconst (v := (-1)) C.x C.b dX9_init_244 (by decide) ?_
  refine h_ast C (inb_in (i := 1) (n := 6) (by decide)) hP hD hS dX9_init_245 (fun H locs hP hD hS => ?_)
  refine lv_dup C.x C.b dX9_init_246 rfl ?_
  refine lv_iconst (v := 2) C.x C.b dX9_init_247 (by decide) ?_
  refine lv_iconst (v := (-1)) C.x C.b dX9_init_248 (by decide) ?_
  refine h_ast C (inb_in (i := 2) (n := 6) (by decide)) hP hD hS dX9_init_249 (fun H locs hP hD hS => ?_)
  refine lv_dup C.x C.b dX9_init_250 rfl ?_
  refine lv_iconst (v := 3) C.x C.b dX9_init_251 (by decide) ?_
  refine lv_iconst (v := (-1)) C.x C.b dX9_init_252 (by decide) ?_
  refine h_ast C (inb_in (i := 3) (n := 6) (by decide)) hP hD hS dX9_init_253 (fun H locs hP hD hS => ?_)
  refine lv_dup C.x C.b dX9_init_254 rfl ?_
  refine lv_iconst (v := 4) C.x C.b dX9_init_255 (by decide) ?_
  refine lv_iconst (v := (-1)) C.x C.b dX9_init_256 (by decide) ?_
  refine h_ast C (inb_in (i := 4) (n := 6) (by decide)) hP hD hS dX9_init_257 (fun H locs hP hD hS => ?_)
  refine lv_dup C.x C.b dX9_init_258 rfl ?_
  refine lv_iconst (v := 5) C.x C.b dX9_init_259 (by decide) ?_
  refine lv_iconst (v := (-1)) C.x C.b dX9_init_260 (by decide) ?_
  refine h_ast C (inb_in (i := 5) (n := 6) (by decide)) hP hD hS dX9_init_261 (fun H locs hP hD hS => ?_)
  refine q_fin (j := 48) (ty := .array .int) (v := .ref q28) C I.2.2 rfl cw9 tyX9_ok nmX9 (by decide) u4_177 rfl rfl (by decide +kernel) rfl rfl (Nat.le_of_ble_eq_true rfl) (fs' := [.int 0, .int 0, .ref q1, .ref q2, .ref q3, .ref q4, .int 0, .int 0, .int 0, .int 0, .ref q5, .ref q6, .ref q7, .ref q8, .ref q9, .ref q10, .ref q11, .ref q12, .ref q13, .ref q14, .int 0, .int 0, .int 0, .ref q15, .int 0, .ref q16, .int 0, .int 0, .int 0, .ref q17, .int 0, .int 0, .int 0, .int 0, .int 0, .ref q18, .ref q19, .ref q20, .ref q21, .ref q22, .ref q23, .int 0, .int 0, .ref q24, .ref q25, .ref q26, .ref q27, .ref qm, .ref q28, .null, .null]) rfl hP hD hS dX9_init_262 (fun H locs hP hD hS => ?_)
  refine lv_aload_n C.x C.b dX9_init_265 rfl (lv_at hl 0 rfl) ?_
  refine lv_bipush (v := 6) C.x C.b dX9_init_266 (by decide) ?_
  refine h_int (N' := 6) (cells' := 36) (slots' := 2202) C (by decide) (by decide) (by decide) rfl rfl (Nat.le_of_ble_eq_true rfl) (Nat.le_of_ble_eq_true rfl) hP hD hS dX9_init_268 (fun q29 H hP hD hS => ?_)
  refine q_fin (j := 49) (ty := .array .int) (v := .ref q29) C I.2.2 rfl cw9 tyX9_ok nmX9 (by decide) u4_178 rfl rfl (by decide +kernel) rfl rfl (Nat.le_of_ble_eq_true rfl) (fs' := [.int 0, .int 0, .ref q1, .ref q2, .ref q3, .ref q4, .int 0, .int 0, .int 0, .int 0, .ref q5, .ref q6, .ref q7, .ref q8, .ref q9, .ref q10, .ref q11, .ref q12, .ref q13, .ref q14, .int 0, .int 0, .int 0, .ref q15, .int 0, .ref q16, .int 0, .int 0, .int 0, .ref q17, .int 0, .int 0, .int 0, .int 0, .int 0, .ref q18, .ref q19, .ref q20, .ref q21, .ref q22, .ref q23, .int 0, .int 0, .ref q24, .ref q25, .ref q26, .ref q27, .ref qm, .ref q28, .ref q29, .null]) rfl hP hD hS dX9_init_270 (fun H locs hP hD hS => ?_)
  refine lv_aload_n C.x C.b dX9_init_273 rfl (lv_at hl 0 rfl) ?_
  refine lv_bipush (v := 60) C.x C.b dX9_init_274 (by decide) ?_
  refine h_lng (N' := 60) (cells' := 37) (slots' := 2262) C (by decide) (by decide) (by decide) rfl rfl (Nat.le_of_ble_eq_true rfl) (Nat.le_of_ble_eq_true rfl) hP hD hS dX9_init_276 (fun q30 H hP hD hS => ?_)
  refine q_fin (j := 50) (ty := .array .long) (v := .ref q30) C I.2.2 rfl cw9 tyX9_ok nmX9 (by decide) u4_179 rfl rfl (by decide +kernel) rfl rfl (Nat.le_of_ble_eq_true rfl) (fs' := [.int 0, .int 0, .ref q1, .ref q2, .ref q3, .ref q4, .int 0, .int 0, .int 0, .int 0, .ref q5, .ref q6, .ref q7, .ref q8, .ref q9, .ref q10, .ref q11, .ref q12, .ref q13, .ref q14, .int 0, .int 0, .int 0, .ref q15, .int 0, .ref q16, .int 0, .int 0, .int 0, .ref q17, .int 0, .int 0, .int 0, .int 0, .int 0, .ref q18, .ref q19, .ref q20, .ref q21, .ref q22, .ref q23, .int 0, .int 0, .ref q24, .ref q25, .ref q26, .ref q27, .ref qm, .ref q28, .ref q29, .ref q30]) rfl hP hD hS dX9_init_278 (fun H locs hP hD hS => ?_)
  refine lv_iconst (v := 0) C.x C.b dX9_init_281 (by decide) ?_
  refine lv_istore_n (lv' := [(1, .int 0), (0, .ref h0)]) C.x C.b dX9_init_282 rfl hl (by decide) rfl (fun ls hl => ?_)
  simp only [List.nil_append, List.cons_append, List.append_assoc] at hP hD
  refine x9_loop C (by rfl) (fun H locs ls hP hD hS => ?_) 25 0 rfl (fun _ => 0) (fun j => by simp) H locs ls hP hD hS hl
  obtain ⟨hP, hD⟩ := conv_q (k := 28) (g := fun i => if i < 6 then some ((fun k => ([h0, q1, q2, q3, q4, q5, q6, q7, q8, q9, q10, q11, q12, q13, q14, q15, q16, q17, q18, q19, q20, q21, q22, q23, q24, q25, q26, q27, qm, (qm + 1 + 0), (qm + 1 + 1), (qm + 1 + 2), (qm + 1 + 3), (qm + 1 + 4), (qm + 1 + 5), q28, q29, q30] : List Nat).getD k 0) (28 + 1 + i)) else none) rfl (fun i hi => by rcases (show i = 0 ∨ i = 1 ∨ i = 2 ∨ i = 3 ∨ i = 4 ∨ i = 5 by omega) with rfl | rfl | rfl | rfl | rfl | rfl <;> rfl) hP hD
  exact r_new (ad := (fun k => ([h0, q1, q2, q3, q4, q5, q6, q7, q8, q9, q10, q11, q12, q13, q14, q15, q16, q17, q18, q19, q20, q21, q22, q23, q24, q25, q26, q27, qm, (qm + 1 + 0), (qm + 1 + 1), (qm + 1 + 2), (qm + 1 + 3), (qm + 1 + 4), (qm + 1 + 5), q28, q29, q30] : List Nat).getD k 0)) rfl (by
    unfold wt
    apply List.ext_getElem?
    intro k
    rw [List.getElem?_mapIdx]
    rcases Nat.lt_or_ge k 38 with hk | hk
    · rcases (show k = 0 ∨ k = 1 ∨ k = 2 ∨ k = 3 ∨ k = 4 ∨ k = 5 ∨ k = 6 ∨ k = 7 ∨ k = 8 ∨ k = 9 ∨ k = 10 ∨ k = 11 ∨ k = 12 ∨ k = 13 ∨ k = 14 ∨ k = 15 ∨ k = 16 ∨ k = 17 ∨ k = 18 ∨ k = 19 ∨ k = 20 ∨ k = 21 ∨ k = 22 ∨ k = 23 ∨ k = 24 ∨ k = 25 ∨ k = 26 ∨ k = 27 ∨ k = 28 ∨ k = 29 ∨ k = 30 ∨ k = 31 ∨ k = 32 ∨ k = 33 ∨ k = 34 ∨ k = 35 ∨ k = 36 ∨ k = 37 by omega) with rfl | rfl | rfl | rfl | rfl | rfl | rfl | rfl | rfl | rfl | rfl | rfl | rfl | rfl | rfl | rfl | rfl | rfl | rfl | rfl | rfl | rfl | rfl | rfl | rfl | rfl | rfl | rfl | rfl | rfl | rfl | rfl | rfl | rfl | rfl | rfl | rfl | rfl <;> rfl
    · rw [List.getElem?_eq_none (l := sModel) hk, List.getElem?_eq_none]
      · rfl
      · rw [List.length_set]; exact hk) (Nat.le_of_ble_eq_true rfl) (Nat.le_of_ble_eq_true rfl) C I hP hD hS dX9_init_303
