def g_X3_stepOften_2 (k : Nat) (x1 : Int32) (x2 : Int32)  (q2 : Int32 → Mem → Option (Int32 × Mem)) (x3 : Int32) (μ : Mem) : Option (Int32 × Mem) := if x2 ≤ x3 then (some (x2, μ)) else (bnd (f_X3_findEntering k x1 μ) (fun r3 μ4 => if r3 = ((-1)) then (some (x3, μ4)) else (if (μ4.1 k 3) < 100 then (bnv (f_X1_follow (k + 16) r3 (k + 3) 36 μ4) (fun μ8 => bnv (f_X3_turnWay k r3 μ8) (fun μ10 => bnv (f_X3_reckonWorths k μ10) (fun μ12 => lt (x3 + 1) (fun y13 => q2 y13 μ12))))) else (some (x3, μ4)))))
def f_X3_stepOften_2 (k : Nat) (x1 : Int32) (x2 : Int32)  : Nat → Int32 → Mem → Option (Int32 × Mem)
  | 0, _, _ => none
  | n + 1, x3, μ => g_X3_stepOften_2 k x1 x2 (f_X3_stepOften_2 k x1 x2 n) x3 μ
set_option maxRecDepth 100000 in
set_option maxHeartbeats 4000000 in
theorem w_X3_stepOften_2 {p : Program} {l : Launch} {e : Env} {s : State} {m : MethodId} {args : Array Value} {below : List Frame} {meth : Method} {c : Code} {G : Gp} {O : (Int32 × Mem)} (C : Cx p s m args meth c cX3_stepOften 5 RX3 (some .int) G) {k : Nat} {x1 : Int32} {x2 : Int32} (hA : At sPlan k) {q2 : Int32 → Mem → Option (Int32 × Mem)} (hq2 : ∀ (x3 : Int32) (μ : Mem), q2 x3 μ = some O → ∀ (H : Heap) (locs : List Loc) (ls : Array Slot), Wm G μ H → va_S (wA G) s.heap H locs → lv_has ls 5 [(0, .ref (G.2.2 k)), (1, .int x1), (2, .int x2), (3, .int x3)] → W p l e (rmm 3 80) s m args below meth c H locs 0 0 (QI below args s G O) (F0 m 2 ls [])) : ∀ (x3 : Int32) (μ : Mem), g_X3_stepOften_2 k x1 x2 q2 x3 μ = some O → ∀ (H : Heap) (locs : List Loc) (ls : Array Slot), Wm G μ H → va_S (wA G) s.heap H locs → lv_has ls 5 [(0, .ref (G.2.2 k)), (1, .int x1), (2, .int x2), (3, .int x3)] → W p l e (rmm 3 80) s m args below meth c H locs 0 0 (QI below args s G O) (F0 m 2 ls []) := by
  intro x3 μ h H locs ls hP hS hl
  unfold g_X3_stepOften_2 at h
  have q_k_0 : shp[k]? = some (.inl (3, fs3)) := hA 0 _ rfl
  have q_k_3 : shp[k + 3]? = some (.inr (1, 36)) := hA 3 _ rfl
  have q_k_16 : shp[k + 16]? = some (.inl (1, fs1)) := hA 16 _ rfl
  refine lv_iload_n C.x C.b dX3_stepOften_2 rfl (lv_at hl 3 rfl) ?_
  refine lv_iload_n C.x C.b dX3_stepOften_3 rfl (lv_at hl 2 rfl) ?_
  refine lv_icmp_ge (tgt := 60) C.x C.b dX3_stepOften_4 (by decide) (fun c1 => ?_) (fun c1 => ?_)
  · have h := (if_pos c1).symm.trans h
    refine lv_iload_n C.x C.b dX3_stepOften_60 rfl (lv_at hl 2 rfl) ?_
    exact r_i h C hP hS dX3_stepOften_61
  · have h := (if_neg c1).symm.trans h
    refine lv_aload_n C.x C.b dX3_stepOften_7 rfl (lv_at hl 0 rfl) ?_
    refine lv_iload_n C.x C.b dX3_stepOften_8 rfl (lv_at hl 1 rfl) ?_
    obtain ⟨r3, μ4, e2, h⟩ := bnd_some h
    refine k_vi (k := k) (as := [.int x1]) (rest := []) (c_X3_findEntering C.i hA e2) M_X3_findEntering u3_68 C hP hS q_k_0 rfl rfl (by decide) hl.1 rfl (Nat.le_of_ble_eq_true rfl) dX3_stepOften_9 (fun H locs hP hS => ?_)
    refine lv_istore (lv' := [(4, .int r3), (0, .ref (G.2.2 k)), (1, .int x1), (2, .int x2), (3, .int x3)]) C.x C.b dX3_stepOften_12 hl (by decide) rfl (fun ls hl => ?_)
    refine lv_iload C.x C.b dX3_stepOften_14 (lv_at hl 0 rfl) ?_
    refine lv_iconst (v := (-1)) C.x C.b dX3_stepOften_16 (by decide) ?_
    refine lv_icmp_eq (tgt := 29) C.x C.b dX3_stepOften_17 (by decide) (fun c5 => ?_) (fun c5 => ?_)
    · have h := (if_pos c5).symm.trans h
      refine lv_iload_n C.x C.b dX3_stepOften_29 rfl (lv_at hl 4 rfl) ?_
      exact r_i h C hP hS dX3_stepOften_30
    · have h := (if_neg c5).symm.trans h
      refine lv_aload_n C.x C.b dX3_stepOften_20 rfl (lv_at hl 1 rfl) ?_
      refine g_int F_3_3 u1_155 C hP q_k_0 dX3_stepOften_21 ?_
      refine lv_bipush (v := 100) C.x C.b dX3_stepOften_24 (by decide) ?_
      refine lv_icmp_lt (tgt := 31) C.x C.b dX3_stepOften_26 (by decide) (fun c6 => ?_) (fun c6 => ?_)
      · have h := (if_pos c6).symm.trans h
        refine lv_aload_n C.x C.b dX3_stepOften_31 rfl (lv_at hl 1 rfl) ?_
        refine g_ref (k' := k + 16) F_3_15 u1_176 C hP q_k_0 rfl dX3_stepOften_32 ?_
        refine lv_iload C.x C.b dX3_stepOften_35 (lv_at hl 0 rfl) ?_
        refine lv_aload_n C.x C.b dX3_stepOften_37 rfl (lv_at hl 1 rfl) ?_
        refine g_ref (k' := k + 3) F_3_6 u1_161 C hP q_k_0 rfl dX3_stepOften_38 ?_
        obtain ⟨μ8, e7, h⟩ := bnv_some h
        refine k_vv (k := k + 16) (as := [.int r3, .ref (G.2.2 (k + 3))]) (rest := []) (c_X1_follow C.i (hA.sub (M := sLoop) 16 (by decide +kernel)) q_k_3 e7) M_X1_follow u3_76 C hP hS q_k_16 rfl rfl (by decide) hl.1 rfl (Nat.le_of_ble_eq_true rfl) dX3_stepOften_41 (fun H locs hP hS => ?_)
        refine lv_aload_n C.x C.b dX3_stepOften_44 rfl (lv_at hl 1 rfl) ?_
        refine lv_iload C.x C.b dX3_stepOften_45 (lv_at hl 0 rfl) ?_
        obtain ⟨μ10, e9, h⟩ := bnv_some h
        refine k_vv (k := k) (as := [.int r3]) (rest := []) (c_X3_turnWay C.i hA e9) M_X3_turnWay u3_95 C hP hS q_k_0 rfl rfl (by decide) hl.1 rfl (Nat.le_of_ble_eq_true rfl) dX3_stepOften_47 (fun H locs hP hS => ?_)
        refine lv_aload_n C.x C.b dX3_stepOften_50 rfl (lv_at hl 1 rfl) ?_
        obtain ⟨μ12, e11, h⟩ := bnv_some h
        refine k_vv (k := k) (as := []) (rest := []) (c_X3_reckonWorths C.i hA e11) M_X3_reckonWorths u3_48 C hP hS q_k_0 rfl rfl (by decide) hl.1 rfl (Nat.le_of_ble_eq_true rfl) dX3_stepOften_51 (fun H locs hP hS => ?_)
        obtain ⟨y13, e_y13, h⟩ := lt_ex h
        refine lv_iinc (v := y13) (lv' := [(3, .int y13), (4, .int r3), (0, .ref (G.2.2 k)), (1, .int x1), (2, .int x2)]) C.x C.b dX3_stepOften_54 hl (k := 4) rfl (by rw [e_y13]; rfl) (by decide) rfl (fun ls hl => ?_)
        refine lv_goto (tgt := 2) C.x C.b dX3_stepOften_57 (by decide) ?_
        exact hq2 y13 μ12 h _ _ _ hP hS (lv_sub hl [2, 3, 4, 0] rfl)
      · have h := (if_neg c6).symm.trans h
        refine lv_iload_n C.x C.b dX3_stepOften_29 rfl (lv_at hl 4 rfl) ?_
        exact r_i h C hP hS dX3_stepOften_30

set_option maxRecDepth 100000 in
set_option maxHeartbeats 4000000 in
theorem b_X3_stepOften_2 {p : Program} {l : Launch} {e : Env} {s : State} {m : MethodId} {args : Array Value} {below : List Frame} {meth : Method} {c : Code} {G : Gp} {O : (Int32 × Mem)} (C : Cx p s m args meth c cX3_stepOften 5 RX3 (some .int) G) {k : Nat} {x1 : Int32} {x2 : Int32} (hA : At sPlan k) : ∀ (n : Nat) (x3 : Int32) (μ : Mem), f_X3_stepOften_2 k x1 x2 n x3 μ = some O → ∀ (H : Heap) (locs : List Loc) (ls : Array Slot), Wm G μ H → va_S (wA G) s.heap H locs → lv_has ls 5 [(0, .ref (G.2.2 k)), (1, .int x1), (2, .int x2), (3, .int x3)] → W p l e (rmm 3 80) s m args below meth c H locs 0 0 (QI below args s G O) (F0 m 2 ls []) := by
  intro n
  induction n with
  | zero => intro x3 μ h; cases h
  | succ n ih => intro x3 μ h; exact w_X3_stepOften_2 C hA (q2 := f_X3_stepOften_2 k x1 x2 n) ih x3 μ h

def f_X3_stepOften (k : Nat) (x1 : Int32) (x2 : Int32) (μ : Mem) : Option (Int32 × Mem) := f_X3_stepOften_2 k x1 x2 FU 0 μ
set_option maxRecDepth 100000 in
set_option maxHeartbeats 4000000 in
theorem b_X3_stepOften {p : Program} {l : Launch} {e : Env} {s : State} {m : MethodId} {args : Array Value} {below : List Frame} {meth : Method} {c : Code} {G : Gp} {O : (Int32 × Mem)} (C : Cx p s m args meth c cX3_stepOften 5 RX3 (some .int) G) {k : Nat} {x1 : Int32} {x2 : Int32} (hA : At sPlan k) {μ : Mem} (h : f_X3_stepOften k x1 x2 μ = some O) : ∀ (H : Heap) (locs : List Loc) (ls : Array Slot), Wm G μ H → va_S (wA G) s.heap H locs → lv_has ls 5 [(0, .ref (G.2.2 k)), (1, .int x1), (2, .int x2)] → W p l e (rmm 3 80) s m args below meth c H locs 0 0 (QI below args s G O) (F0 m 0 ls []) := by
  unfold f_X3_stepOften at h
  intro H locs ls hP hS hl
  refine lv_iconst (v := 0) C.x C.b dX3_stepOften_0 (by decide) ?_
  refine lv_istore_n (lv' := [(3, .int 0), (0, .ref (G.2.2 k)), (1, .int x1), (2, .int x2)]) C.x C.b dX3_stepOften_1 rfl hl (by decide) rfl (fun ls hl => ?_)
  exact b_X3_stepOften_2 C hA FU 0 μ h _ _ _ hP hS (lv_sub hl [1, 2, 3, 0] rfl)

set_option maxRecDepth 100000 in
set_option maxHeartbeats 4000000 in
theorem c_X3_stepOften {l : Launch} {G : Gp} (hI : Wi G) {k : Nat} {x1 : Int32} {x2 : Int32} (hA : At sPlan k) {μ : Mem} {r : Int32} {μ' : Mem} (h : f_X3_stepOften k x1 x2 μ = some (r, μ')) : CI l yX3_stepOften cX3_stepOften 5 (some .int) 3 80 G [.ref (G.2.2 k), .int x1, .int x2] μ r μ' :=
  e_all (lv := [(0, .ref (G.2.2 k)), (1, .int x1), (2, .int x2)]) hI (by decide) (Nat.le_of_ble_eq_true rfl) rfl (fun p e s m args below meth c ls C hP hS hl => b_X3_stepOften C hA h _ _ _ hP hS hl)


def g_X3_total_14 (k : Nat) (q4 : Int32 → Int32 → Option Int32) (μ : Mem) (q14 : Int32 → Int32 → Int32 → Option Int32) (x1 : Int32) (x2 : Int32) (x3 : Int32) : Option Int32 := if (μ.1 k 2) ≤ x3 then (lt (x2 + 1) (fun y2 => q4 x1 y2)) else (bnv (f_X8_cellAt x2 x3 μ) (fun r4 => grd (inb r4 36) (bnv (f_X8_cellAt x2 x3 μ) (fun r7 => grd (inb r7 36) (lt (x1 + ((μ.1 (k + 2) r4.toNatClampNeg) * (μ.1 (k + 1) r7.toNatClampNeg))) (fun y9 => lt (x3 + 1) (fun y10 => q14 y9 x2 y10)))))))
def f_X3_total_14 (k : Nat) (q4 : Int32 → Int32 → Option Int32) (μ : Mem) : Nat → Int32 → Int32 → Int32 → Option Int32
  | 0, _, _, _ => none
  | n + 1, x1, x2, x3 => g_X3_total_14 k q4 μ (f_X3_total_14 k q4 μ n) x1 x2 x3
set_option maxRecDepth 100000 in
set_option maxHeartbeats 4000000 in
theorem w_X3_total_14 {p : Program} {l : Launch} {e : Env} {s : State} {m : MethodId} {args : Array Value} {below : List Frame} {meth : Method} {c : Code} {G : Gp} {O : Int32} (C : Cx p s m args meth c cX3_total 4 RX3 (some .int) G) {k : Nat} {μ : Mem} (hA : At sPlan k) {q4 : Int32 → Int32 → Option Int32} (hq4 : ∀ (x1 : Int32) (x2 : Int32), q4 x1 x2 = some O → ∀ (H : Heap) (locs : List Loc) (ls : Array Slot), Wm G μ H → va_S (wA G) s.heap H locs → lv_has ls 4 [(0, .ref (G.2.2 k)), (1, .int x1), (2, .int x2)] → W p l e (rmm 1 21) s m args below meth c H locs 0 0 (QI below args s G (O, μ)) (F0 m 4 ls [])) {q14 : Int32 → Int32 → Int32 → Option Int32} (hq14 : ∀ (x1 : Int32) (x2 : Int32) (x3 : Int32), q14 x1 x2 x3 = some O → ∀ (H : Heap) (locs : List Loc) (ls : Array Slot), Wm G μ H → va_S (wA G) s.heap H locs → lv_has ls 4 [(0, .ref (G.2.2 k)), (1, .int x1), (2, .int x2), (3, .int x3)] → W p l e (rmm 1 21) s m args below meth c H locs 0 0 (QI below args s G (O, μ)) (F0 m 14 ls [])) : ∀ (x1 : Int32) (x2 : Int32) (x3 : Int32), g_X3_total_14 k q4 μ q14 x1 x2 x3 = some O → ∀ (H : Heap) (locs : List Loc) (ls : Array Slot), Wm G μ H → va_S (wA G) s.heap H locs → lv_has ls 4 [(0, .ref (G.2.2 k)), (1, .int x1), (2, .int x2), (3, .int x3)] → W p l e (rmm 1 21) s m args below meth c H locs 0 0 (QI below args s G (O, μ)) (F0 m 14 ls []) := by
  intro x1 x2 x3 h H locs ls hP hS hl
  unfold g_X3_total_14 at h
  have q_k_0 : shp[k]? = some (.inl (3, fs3)) := hA 0 _ rfl
  have q_k_1 : shp[k + 1]? = some (.inr (0, 36)) := hA 1 _ rfl
  have q_k_2 : shp[k + 2]? = some (.inr (0, 36)) := hA 2 _ rfl
  refine lv_iload_n C.x C.b dX3_total_14 rfl (lv_at hl 3 rfl) ?_
  refine lv_aload_n C.x C.b dX3_total_15 rfl (lv_at hl 0 rfl) ?_
  refine g_int F_3_2 u1_153 C hP q_k_0 dX3_total_16 ?_
  refine lv_icmp_ge (tgt := 52) C.x C.b dX3_total_19 (by decide) (fun c1 => ?_) (fun c1 => ?_)
  · have h := (if_pos c1).symm.trans h
    obtain ⟨y2, e_y2, h⟩ := lt_ex h
    refine lv_iinc (v := y2) (lv' := [(2, .int y2), (0, .ref (G.2.2 k)), (1, .int x1), (3, .int x3)]) C.x C.b dX3_total_52 hl (k := 2) rfl (by rw [e_y2]; rfl) (by decide) rfl (fun ls hl => ?_)
    refine lv_goto (tgt := 4) C.x C.b dX3_total_55 (by decide) ?_
    exact hq4 x1 y2 h _ _ _ hP hS (lv_sub hl [1, 2, 0] rfl)
  · have h := (if_neg c1).symm.trans h
    refine lv_iload_n C.x C.b dX3_total_22 rfl (lv_at hl 1 rfl) ?_
    refine lv_aload_n C.x C.b dX3_total_23 rfl (lv_at hl 0 rfl) ?_
    refine g_ref (k' := k + 2) F_3_5 u1_159 C hP q_k_0 rfl dX3_total_24 ?_
    refine lv_iload_n C.x C.b dX3_total_27 rfl (lv_at hl 2 rfl) ?_
    refine lv_iload_n C.x C.b dX3_total_28 rfl (lv_at hl 3 rfl) ?_
    obtain ⟨r4, e3, h⟩ := bnv_some h
    refine k_ni (as := [.int x2, .int x3]) (rest := [.ref (G.2.2 (k + 2)), .int x1]) (c_X8_cellAt C.i e3) M_X8_cellAt n_RX3_97 C hP hS rfl (by decide) hl.1 rfl (Nat.le_of_ble_eq_true rfl) dX3_total_29 (fun H locs hP hS => ?_)
    obtain ⟨g5, h⟩ := grd_some h
    refine a_i C hP q_k_2 g5 dX3_total_32 ?_
    refine lv_aload_n C.x C.b dX3_total_33 rfl (lv_at hl 0 rfl) ?_
    refine g_ref (k' := k + 1) F_3_4 u1_157 C hP q_k_0 rfl dX3_total_34 ?_
    refine lv_iload_n C.x C.b dX3_total_37 rfl (lv_at hl 2 rfl) ?_
    refine lv_iload_n C.x C.b dX3_total_38 rfl (lv_at hl 3 rfl) ?_
    obtain ⟨r7, e6, h⟩ := bnv_some h
    refine k_ni (as := [.int x2, .int x3]) (rest := [.ref (G.2.2 (k + 1)), .int (μ.1 (k + 2) r4.toNatClampNeg), .int x1]) (c_X8_cellAt C.i e6) M_X8_cellAt n_RX3_97 C hP hS rfl (by decide) hl.1 rfl (Nat.le_of_ble_eq_true rfl) dX3_total_39 (fun H locs hP hS => ?_)
    obtain ⟨g8, h⟩ := grd_some h
    refine a_i C hP q_k_1 g8 dX3_total_42 ?_
    refine lv_imul C.x C.b dX3_total_43 ?_
    refine lv_iadd C.x C.b dX3_total_44 ?_
    refine lv_topi (fun y9 e_y9 => ?_)
    have h := lt_at h e_y9
    refine lv_istore_n (lv' := [(1, .int y9), (0, .ref (G.2.2 k)), (2, .int x2), (3, .int x3)]) C.x C.b dX3_total_45 rfl hl (by decide) rfl (fun ls hl => ?_)
    obtain ⟨y10, e_y10, h⟩ := lt_ex h
    refine lv_iinc (v := y10) (lv' := [(3, .int y10), (1, .int y9), (0, .ref (G.2.2 k)), (2, .int x2)]) C.x C.b dX3_total_46 hl (k := 3) rfl (by rw [e_y10]; rfl) (by decide) rfl (fun ls hl => ?_)
    refine lv_goto (tgt := 14) C.x C.b dX3_total_49 (by decide) ?_
    exact hq14 y9 x2 y10 h _ _ _ hP hS (lv_sub hl [2, 1, 3, 0] rfl)

set_option maxRecDepth 100000 in
set_option maxHeartbeats 4000000 in
theorem b_X3_total_14 {p : Program} {l : Launch} {e : Env} {s : State} {m : MethodId} {args : Array Value} {below : List Frame} {meth : Method} {c : Code} {G : Gp} {O : Int32} (C : Cx p s m args meth c cX3_total 4 RX3 (some .int) G) {k : Nat} {μ : Mem} (hA : At sPlan k) {q4 : Int32 → Int32 → Option Int32} (hq4 : ∀ (x1 : Int32) (x2 : Int32), q4 x1 x2 = some O → ∀ (H : Heap) (locs : List Loc) (ls : Array Slot), Wm G μ H → va_S (wA G) s.heap H locs → lv_has ls 4 [(0, .ref (G.2.2 k)), (1, .int x1), (2, .int x2)] → W p l e (rmm 1 21) s m args below meth c H locs 0 0 (QI below args s G (O, μ)) (F0 m 4 ls [])) : ∀ (n : Nat) (x1 : Int32) (x2 : Int32) (x3 : Int32), f_X3_total_14 k q4 μ n x1 x2 x3 = some O → ∀ (H : Heap) (locs : List Loc) (ls : Array Slot), Wm G μ H → va_S (wA G) s.heap H locs → lv_has ls 4 [(0, .ref (G.2.2 k)), (1, .int x1), (2, .int x2), (3, .int x3)] → W p l e (rmm 1 21) s m args below meth c H locs 0 0 (QI below args s G (O, μ)) (F0 m 14 ls []) := by
  intro n
  induction n with
  | zero => intro x1 x2 x3 h; cases h
  | succ n ih => intro x1 x2 x3 h; exact w_X3_total_14 C hA hq4 (q14 := f_X3_total_14 k q4 μ n) ih x1 x2 x3 h

def g_X3_total_4 (k : Nat)  (μ : Mem) (q4 : Int32 → Int32 → Option Int32) (x1 : Int32) (x2 : Int32) : Option Int32 := if (μ.1 k 1) ≤ x2 then (some x1) else (f_X3_total_14 k q4 μ FU x1 x2 0)
def f_X3_total_4 (k : Nat)  (μ : Mem) : Nat → Int32 → Int32 → Option Int32
  | 0, _, _ => none
  | n + 1, x1, x2 => g_X3_total_4 k μ (f_X3_total_4 k μ n) x1 x2
set_option maxRecDepth 100000 in
set_option maxHeartbeats 4000000 in
theorem w_X3_total_4 {p : Program} {l : Launch} {e : Env} {s : State} {m : MethodId} {args : Array Value} {below : List Frame} {meth : Method} {c : Code} {G : Gp} {O : Int32} (C : Cx p s m args meth c cX3_total 4 RX3 (some .int) G) {k : Nat} {μ : Mem} (hA : At sPlan k) {q4 : Int32 → Int32 → Option Int32} (hq4 : ∀ (x1 : Int32) (x2 : Int32), q4 x1 x2 = some O → ∀ (H : Heap) (locs : List Loc) (ls : Array Slot), Wm G μ H → va_S (wA G) s.heap H locs → lv_has ls 4 [(0, .ref (G.2.2 k)), (1, .int x1), (2, .int x2)] → W p l e (rmm 1 21) s m args below meth c H locs 0 0 (QI below args s G (O, μ)) (F0 m 4 ls [])) : ∀ (x1 : Int32) (x2 : Int32), g_X3_total_4 k μ q4 x1 x2 = some O → ∀ (H : Heap) (locs : List Loc) (ls : Array Slot), Wm G μ H → va_S (wA G) s.heap H locs → lv_has ls 4 [(0, .ref (G.2.2 k)), (1, .int x1), (2, .int x2)] → W p l e (rmm 1 21) s m args below meth c H locs 0 0 (QI below args s G (O, μ)) (F0 m 4 ls []) := by
  intro x1 x2 h H locs ls hP hS hl
  unfold g_X3_total_4 at h
  have q_k_0 : shp[k]? = some (.inl (3, fs3)) := hA 0 _ rfl
  refine lv_iload_n C.x C.b dX3_total_4 rfl (lv_at hl 2 rfl) ?_
  refine lv_aload_n C.x C.b dX3_total_5 rfl (lv_at hl 0 rfl) ?_
  refine g_int F_3_1 u1_151 C hP q_k_0 dX3_total_6 ?_
  refine lv_icmp_ge (tgt := 58) C.x C.b dX3_total_9 (by decide) (fun c1 => ?_) (fun c1 => ?_)
  · have h := (if_pos c1).symm.trans h
    refine lv_iload_n C.x C.b dX3_total_58 rfl (lv_at hl 1 rfl) ?_
    exact r_i (pr_some h) C hP hS dX3_total_59
  · have h := (if_neg c1).symm.trans h
    refine lv_iconst (v := 0) C.x C.b dX3_total_12 (by decide) ?_
    refine lv_istore_n (lv' := [(3, .int 0), (0, .ref (G.2.2 k)), (1, .int x1), (2, .int x2)]) C.x C.b dX3_total_13 rfl hl (by decide) rfl (fun ls hl => ?_)
    exact b_X3_total_14 C hA hq4 FU x1 x2 0 h _ _ _ hP hS (lv_sub hl [1, 2, 3, 0] rfl)

set_option maxRecDepth 100000 in
set_option maxHeartbeats 4000000 in
theorem b_X3_total_4 {p : Program} {l : Launch} {e : Env} {s : State} {m : MethodId} {args : Array Value} {below : List Frame} {meth : Method} {c : Code} {G : Gp} {O : Int32} (C : Cx p s m args meth c cX3_total 4 RX3 (some .int) G) {k : Nat} {μ : Mem} (hA : At sPlan k) : ∀ (n : Nat) (x1 : Int32) (x2 : Int32), f_X3_total_4 k μ n x1 x2 = some O → ∀ (H : Heap) (locs : List Loc) (ls : Array Slot), Wm G μ H → va_S (wA G) s.heap H locs → lv_has ls 4 [(0, .ref (G.2.2 k)), (1, .int x1), (2, .int x2)] → W p l e (rmm 1 21) s m args below meth c H locs 0 0 (QI below args s G (O, μ)) (F0 m 4 ls []) := by
  intro n
  induction n with
  | zero => intro x1 x2 h; cases h
  | succ n ih => intro x1 x2 h; exact w_X3_total_4 C hA (q4 := f_X3_total_4 k μ n) ih x1 x2 h

def f_X3_total (k : Nat) (μ : Mem) : Option Int32 := f_X3_total_4 k μ FU 0 0
set_option maxRecDepth 100000 in
set_option maxHeartbeats 4000000 in
theorem b_X3_total {p : Program} {l : Launch} {e : Env} {s : State} {m : MethodId} {args : Array Value} {below : List Frame} {meth : Method} {c : Code} {G : Gp} {O : Int32} (C : Cx p s m args meth c cX3_total 4 RX3 (some .int) G) {k : Nat} {μ : Mem} (hA : At sPlan k) (h : f_X3_total k μ = some O) : ∀ (H : Heap) (locs : List Loc) (ls : Array Slot), Wm G μ H → va_S (wA G) s.heap H locs → lv_has ls 4 [(0, .ref (G.2.2 k))] → W p l e (rmm 1 21) s m args below meth c H locs 0 0 (QI below args s G (O, μ)) (F0 m 0 ls []) := by
  unfold f_X3_total at h
  intro H locs ls hP hS hl
  refine lv_iconst (v := 0) C.x C.b dX3_total_0 (by decide) ?_
  refine lv_istore_n (lv' := [(1, .int 0), (0, .ref (G.2.2 k))]) C.x C.b dX3_total_1 rfl hl (by decide) rfl (fun ls hl => ?_)
  refine lv_iconst (v := 0) C.x C.b dX3_total_2 (by decide) ?_
  refine lv_istore_n (lv' := [(2, .int 0), (1, .int 0), (0, .ref (G.2.2 k))]) C.x C.b dX3_total_3 rfl hl (by decide) rfl (fun ls hl => ?_)
  exact b_X3_total_4 C hA FU 0 0 h _ _ _ hP hS (lv_sub hl [2, 1, 0] rfl)

set_option maxRecDepth 100000 in
set_option maxHeartbeats 4000000 in
theorem c_X3_total {l : Launch} {G : Gp} (hI : Wi G) {k : Nat} (hA : At sPlan k) {μ : Mem} {r : Int32} (h : f_X3_total k μ = some r) : CI l yX3_total cX3_total 4 (some .int) 1 21 G [.ref (G.2.2 k)] μ r μ :=
  e_all (lv := [(0, .ref (G.2.2 k))]) hI (by decide) (Nat.le_of_ble_eq_true rfl) rfl (fun p e s m args below meth c ls C hP hS hl => b_X3_total C hA h _ _ _ hP hS hl)


def g_X3_allLoads_14 (k : Nat) (q4 : Int32 → Int32 → Option Int32) (μ : Mem) (q14 : Int32 → Int32 → Int32 → Option Int32) (x1 : Int32) (x2 : Int32) (x3 : Int32) : Option Int32 := if (μ.1 k 2) ≤ x3 then (lt (x2 + 1) (fun y2 => q4 x1 y2)) else (bnv (f_X8_cellAt x2 x3 μ) (fun r4 => grd (inb r4 36) (lt (x1 + (μ.1 (k + 2) r4.toNatClampNeg)) (fun y6 => lt (x3 + 1) (fun y7 => q14 y6 x2 y7)))))
def f_X3_allLoads_14 (k : Nat) (q4 : Int32 → Int32 → Option Int32) (μ : Mem) : Nat → Int32 → Int32 → Int32 → Option Int32
  | 0, _, _, _ => none
  | n + 1, x1, x2, x3 => g_X3_allLoads_14 k q4 μ (f_X3_allLoads_14 k q4 μ n) x1 x2 x3
set_option maxRecDepth 100000 in
set_option maxHeartbeats 4000000 in
theorem w_X3_allLoads_14 {p : Program} {l : Launch} {e : Env} {s : State} {m : MethodId} {args : Array Value} {below : List Frame} {meth : Method} {c : Code} {G : Gp} {O : Int32} (C : Cx p s m args meth c cX3_allLoads 4 RX3 (some .int) G) {k : Nat} {μ : Mem} (hA : At sPlan k) {q4 : Int32 → Int32 → Option Int32} (hq4 : ∀ (x1 : Int32) (x2 : Int32), q4 x1 x2 = some O → ∀ (H : Heap) (locs : List Loc) (ls : Array Slot), Wm G μ H → va_S (wA G) s.heap H locs → lv_has ls 4 [(0, .ref (G.2.2 k)), (1, .int x1), (2, .int x2)] → W p l e (rmm 1 21) s m args below meth c H locs 0 0 (QI below args s G (O, μ)) (F0 m 4 ls [])) {q14 : Int32 → Int32 → Int32 → Option Int32} (hq14 : ∀ (x1 : Int32) (x2 : Int32) (x3 : Int32), q14 x1 x2 x3 = some O → ∀ (H : Heap) (locs : List Loc) (ls : Array Slot), Wm G μ H → va_S (wA G) s.heap H locs → lv_has ls 4 [(0, .ref (G.2.2 k)), (1, .int x1), (2, .int x2), (3, .int x3)] → W p l e (rmm 1 21) s m args below meth c H locs 0 0 (QI below args s G (O, μ)) (F0 m 14 ls [])) : ∀ (x1 : Int32) (x2 : Int32) (x3 : Int32), g_X3_allLoads_14 k q4 μ q14 x1 x2 x3 = some O → ∀ (H : Heap) (locs : List Loc) (ls : Array Slot), Wm G μ H → va_S (wA G) s.heap H locs → lv_has ls 4 [(0, .ref (G.2.2 k)), (1, .int x1), (2, .int x2), (3, .int x3)] → W p l e (rmm 1 21) s m args below meth c H locs 0 0 (QI below args s G (O, μ)) (F0 m 14 ls []) := by
  intro x1 x2 x3 h H locs ls hP hS hl
  unfold g_X3_allLoads_14 at h
  have q_k_0 : shp[k]? = some (.inl (3, fs3)) := hA 0 _ rfl
  have q_k_2 : shp[k + 2]? = some (.inr (0, 36)) := hA 2 _ rfl
  refine lv_iload_n C.x C.b dX3_allLoads_14 rfl (lv_at hl 3 rfl) ?_
  refine lv_aload_n C.x C.b dX3_allLoads_15 rfl (lv_at hl 0 rfl) ?_
  refine g_int F_3_2 u1_153 C hP q_k_0 dX3_allLoads_16 ?_
  refine lv_icmp_ge (tgt := 41) C.x C.b dX3_allLoads_19 (by decide) (fun c1 => ?_) (fun c1 => ?_)
  · have h := (if_pos c1).symm.trans h
    obtain ⟨y2, e_y2, h⟩ := lt_ex h
    refine lv_iinc (v := y2) (lv' := [(2, .int y2), (0, .ref (G.2.2 k)), (1, .int x1), (3, .int x3)]) C.x C.b dX3_allLoads_41 hl (k := 2) rfl (by rw [e_y2]; rfl) (by decide) rfl (fun ls hl => ?_)
    refine lv_goto (tgt := 4) C.x C.b dX3_allLoads_44 (by decide) ?_
    exact hq4 x1 y2 h _ _ _ hP hS (lv_sub hl [1, 2, 0] rfl)
  · have h := (if_neg c1).symm.trans h
    refine lv_iload_n C.x C.b dX3_allLoads_22 rfl (lv_at hl 1 rfl) ?_
    refine lv_aload_n C.x C.b dX3_allLoads_23 rfl (lv_at hl 0 rfl) ?_
    refine g_ref (k' := k + 2) F_3_5 u1_159 C hP q_k_0 rfl dX3_allLoads_24 ?_
    refine lv_iload_n C.x C.b dX3_allLoads_27 rfl (lv_at hl 2 rfl) ?_
    refine lv_iload_n C.x C.b dX3_allLoads_28 rfl (lv_at hl 3 rfl) ?_
    obtain ⟨r4, e3, h⟩ := bnv_some h
    refine k_ni (as := [.int x2, .int x3]) (rest := [.ref (G.2.2 (k + 2)), .int x1]) (c_X8_cellAt C.i e3) M_X8_cellAt n_RX3_97 C hP hS rfl (by decide) hl.1 rfl (Nat.le_of_ble_eq_true rfl) dX3_allLoads_29 (fun H locs hP hS => ?_)
    obtain ⟨g5, h⟩ := grd_some h
    refine a_i C hP q_k_2 g5 dX3_allLoads_32 ?_
    refine lv_iadd C.x C.b dX3_allLoads_33 ?_
    refine lv_topi (fun y6 e_y6 => ?_)
    have h := lt_at h e_y6
    refine lv_istore_n (lv' := [(1, .int y6), (0, .ref (G.2.2 k)), (2, .int x2), (3, .int x3)]) C.x C.b dX3_allLoads_34 rfl hl (by decide) rfl (fun ls hl => ?_)
    obtain ⟨y7, e_y7, h⟩ := lt_ex h
    refine lv_iinc (v := y7) (lv' := [(3, .int y7), (1, .int y6), (0, .ref (G.2.2 k)), (2, .int x2)]) C.x C.b dX3_allLoads_35 hl (k := 3) rfl (by rw [e_y7]; rfl) (by decide) rfl (fun ls hl => ?_)
    refine lv_goto (tgt := 14) C.x C.b dX3_allLoads_38 (by decide) ?_
    exact hq14 y6 x2 y7 h _ _ _ hP hS (lv_sub hl [2, 1, 3, 0] rfl)

set_option maxRecDepth 100000 in
set_option maxHeartbeats 4000000 in
theorem b_X3_allLoads_14 {p : Program} {l : Launch} {e : Env} {s : State} {m : MethodId} {args : Array Value} {below : List Frame} {meth : Method} {c : Code} {G : Gp} {O : Int32} (C : Cx p s m args meth c cX3_allLoads 4 RX3 (some .int) G) {k : Nat} {μ : Mem} (hA : At sPlan k) {q4 : Int32 → Int32 → Option Int32} (hq4 : ∀ (x1 : Int32) (x2 : Int32), q4 x1 x2 = some O → ∀ (H : Heap) (locs : List Loc) (ls : Array Slot), Wm G μ H → va_S (wA G) s.heap H locs → lv_has ls 4 [(0, .ref (G.2.2 k)), (1, .int x1), (2, .int x2)] → W p l e (rmm 1 21) s m args below meth c H locs 0 0 (QI below args s G (O, μ)) (F0 m 4 ls [])) : ∀ (n : Nat) (x1 : Int32) (x2 : Int32) (x3 : Int32), f_X3_allLoads_14 k q4 μ n x1 x2 x3 = some O → ∀ (H : Heap) (locs : List Loc) (ls : Array Slot), Wm G μ H → va_S (wA G) s.heap H locs → lv_has ls 4 [(0, .ref (G.2.2 k)), (1, .int x1), (2, .int x2), (3, .int x3)] → W p l e (rmm 1 21) s m args below meth c H locs 0 0 (QI below args s G (O, μ)) (F0 m 14 ls []) := by
  intro n
  induction n with
  | zero => intro x1 x2 x3 h; cases h
  | succ n ih => intro x1 x2 x3 h; exact w_X3_allLoads_14 C hA hq4 (q14 := f_X3_allLoads_14 k q4 μ n) ih x1 x2 x3 h

def g_X3_allLoads_4 (k : Nat)  (μ : Mem) (q4 : Int32 → Int32 → Option Int32) (x1 : Int32) (x2 : Int32) : Option Int32 := if (μ.1 k 1) ≤ x2 then (some x1) else (f_X3_allLoads_14 k q4 μ FU x1 x2 0)
def f_X3_allLoads_4 (k : Nat)  (μ : Mem) : Nat → Int32 → Int32 → Option Int32
  | 0, _, _ => none
  | n + 1, x1, x2 => g_X3_allLoads_4 k μ (f_X3_allLoads_4 k μ n) x1 x2
set_option maxRecDepth 100000 in
set_option maxHeartbeats 4000000 in
theorem w_X3_allLoads_4 {p : Program} {l : Launch} {e : Env} {s : State} {m : MethodId} {args : Array Value} {below : List Frame} {meth : Method} {c : Code} {G : Gp} {O : Int32} (C : Cx p s m args meth c cX3_allLoads 4 RX3 (some .int) G) {k : Nat} {μ : Mem} (hA : At sPlan k) {q4 : Int32 → Int32 → Option Int32} (hq4 : ∀ (x1 : Int32) (x2 : Int32), q4 x1 x2 = some O → ∀ (H : Heap) (locs : List Loc) (ls : Array Slot), Wm G μ H → va_S (wA G) s.heap H locs → lv_has ls 4 [(0, .ref (G.2.2 k)), (1, .int x1), (2, .int x2)] → W p l e (rmm 1 21) s m args below meth c H locs 0 0 (QI below args s G (O, μ)) (F0 m 4 ls [])) : ∀ (x1 : Int32) (x2 : Int32), g_X3_allLoads_4 k μ q4 x1 x2 = some O → ∀ (H : Heap) (locs : List Loc) (ls : Array Slot), Wm G μ H → va_S (wA G) s.heap H locs → lv_has ls 4 [(0, .ref (G.2.2 k)), (1, .int x1), (2, .int x2)] → W p l e (rmm 1 21) s m args below meth c H locs 0 0 (QI below args s G (O, μ)) (F0 m 4 ls []) := by
  intro x1 x2 h H locs ls hP hS hl
  unfold g_X3_allLoads_4 at h
  have q_k_0 : shp[k]? = some (.inl (3, fs3)) := hA 0 _ rfl
  refine lv_iload_n C.x C.b dX3_allLoads_4 rfl (lv_at hl 2 rfl) ?_
  refine lv_aload_n C.x C.b dX3_allLoads_5 rfl (lv_at hl 0 rfl) ?_
  refine g_int F_3_1 u1_151 C hP q_k_0 dX3_allLoads_6 ?_
  refine lv_icmp_ge (tgt := 47) C.x C.b dX3_allLoads_9 (by decide) (fun c1 => ?_) (fun c1 => ?_)
  · have h := (if_pos c1).symm.trans h
    refine lv_iload_n C.x C.b dX3_allLoads_47 rfl (lv_at hl 1 rfl) ?_
    exact r_i (pr_some h) C hP hS dX3_allLoads_48
  · have h := (if_neg c1).symm.trans h
    refine lv_iconst (v := 0) C.x C.b dX3_allLoads_12 (by decide) ?_
    refine lv_istore_n (lv' := [(3, .int 0), (0, .ref (G.2.2 k)), (1, .int x1), (2, .int x2)]) C.x C.b dX3_allLoads_13 rfl hl (by decide) rfl (fun ls hl => ?_)
    exact b_X3_allLoads_14 C hA hq4 FU x1 x2 0 h _ _ _ hP hS (lv_sub hl [1, 2, 3, 0] rfl)

set_option maxRecDepth 100000 in
set_option maxHeartbeats 4000000 in
theorem b_X3_allLoads_4 {p : Program} {l : Launch} {e : Env} {s : State} {m : MethodId} {args : Array Value} {below : List Frame} {meth : Method} {c : Code} {G : Gp} {O : Int32} (C : Cx p s m args meth c cX3_allLoads 4 RX3 (some .int) G) {k : Nat} {μ : Mem} (hA : At sPlan k) : ∀ (n : Nat) (x1 : Int32) (x2 : Int32), f_X3_allLoads_4 k μ n x1 x2 = some O → ∀ (H : Heap) (locs : List Loc) (ls : Array Slot), Wm G μ H → va_S (wA G) s.heap H locs → lv_has ls 4 [(0, .ref (G.2.2 k)), (1, .int x1), (2, .int x2)] → W p l e (rmm 1 21) s m args below meth c H locs 0 0 (QI below args s G (O, μ)) (F0 m 4 ls []) := by
  intro n
  induction n with
  | zero => intro x1 x2 h; cases h
  | succ n ih => intro x1 x2 h; exact w_X3_allLoads_4 C hA (q4 := f_X3_allLoads_4 k μ n) ih x1 x2 h

def f_X3_allLoads (k : Nat) (μ : Mem) : Option Int32 := f_X3_allLoads_4 k μ FU 0 0
set_option maxRecDepth 100000 in
set_option maxHeartbeats 4000000 in
theorem b_X3_allLoads {p : Program} {l : Launch} {e : Env} {s : State} {m : MethodId} {args : Array Value} {below : List Frame} {meth : Method} {c : Code} {G : Gp} {O : Int32} (C : Cx p s m args meth c cX3_allLoads 4 RX3 (some .int) G) {k : Nat} {μ : Mem} (hA : At sPlan k) (h : f_X3_allLoads k μ = some O) : ∀ (H : Heap) (locs : List Loc) (ls : Array Slot), Wm G μ H → va_S (wA G) s.heap H locs → lv_has ls 4 [(0, .ref (G.2.2 k))] → W p l e (rmm 1 21) s m args below meth c H locs 0 0 (QI below args s G (O, μ)) (F0 m 0 ls []) := by
  unfold f_X3_allLoads at h
  intro H locs ls hP hS hl
  refine lv_iconst (v := 0) C.x C.b dX3_allLoads_0 (by decide) ?_
  refine lv_istore_n (lv' := [(1, .int 0), (0, .ref (G.2.2 k))]) C.x C.b dX3_allLoads_1 rfl hl (by decide) rfl (fun ls hl => ?_)
  refine lv_iconst (v := 0) C.x C.b dX3_allLoads_2 (by decide) ?_
  refine lv_istore_n (lv' := [(2, .int 0), (1, .int 0), (0, .ref (G.2.2 k))]) C.x C.b dX3_allLoads_3 rfl hl (by decide) rfl (fun ls hl => ?_)
  exact b_X3_allLoads_4 C hA FU 0 0 h _ _ _ hP hS (lv_sub hl [2, 1, 0] rfl)

set_option maxRecDepth 100000 in
set_option maxHeartbeats 4000000 in
theorem c_X3_allLoads {l : Launch} {G : Gp} (hI : Wi G) {k : Nat} (hA : At sPlan k) {μ : Mem} {r : Int32} (h : f_X3_allLoads k μ = some r) : CI l yX3_allLoads cX3_allLoads 4 (some .int) 1 21 G [.ref (G.2.2 k)] μ r μ :=
  e_all (lv := [(0, .ref (G.2.2 k))]) hI (by decide) (Nat.le_of_ble_eq_true rfl) rfl (fun p e s m args below meth c ls C hP hS hl => b_X3_allLoads C hA h _ _ _ hP hS hl)


def g_X3_keptZeros_14 (k : Nat) (q4 : Int32 → Int32 → Option Int32) (μ : Mem) (q14 : Int32 → Int32 → Int32 → Option Int32) (x1 : Int32) (x2 : Int32) (x3 : Int32) : Option Int32 := if (μ.1 k 2) ≤ x3 then (lt (x2 + 1) (fun y2 => q4 x1 y2)) else (bnv (f_X8_cellAt x2 x3 μ) (fun r4 => grd (inb r4 36) (if (μ.1 (k + 3) r4.toNatClampNeg) = 0 then (lt (x1 + 0) (fun y7 => lt (x3 + 1) (fun y8 => q14 y7 x2 y8))) else (bnv (f_X8_cellAt x2 x3 μ) (fun r10 => grd (inb r10 36) (if (μ.1 (k + 2) r10.toNatClampNeg) = 0 then (lt (x1 + 1) (fun y15 => lt (x3 + 1) (fun y16 => q14 y15 x2 y16))) else (lt (x1 + 0) (fun y13 => lt (x3 + 1) (fun y14 => q14 y13 x2 y14)))))))))
def f_X3_keptZeros_14 (k : Nat) (q4 : Int32 → Int32 → Option Int32) (μ : Mem) : Nat → Int32 → Int32 → Int32 → Option Int32
  | 0, _, _, _ => none
  | n + 1, x1, x2, x3 => g_X3_keptZeros_14 k q4 μ (f_X3_keptZeros_14 k q4 μ n) x1 x2 x3
set_option maxRecDepth 100000 in
set_option maxHeartbeats 4000000 in
theorem w_X3_keptZeros_14 {p : Program} {l : Launch} {e : Env} {s : State} {m : MethodId} {args : Array Value} {below : List Frame} {meth : Method} {c : Code} {G : Gp} {O : Int32} (C : Cx p s m args meth c cX3_keptZeros 4 RX3 (some .int) G) {k : Nat} {μ : Mem} (hA : At sPlan k) {q4 : Int32 → Int32 → Option Int32} (hq4 : ∀ (x1 : Int32) (x2 : Int32), q4 x1 x2 = some O → ∀ (H : Heap) (locs : List Loc) (ls : Array Slot), Wm G μ H → va_S (wA G) s.heap H locs → lv_has ls 4 [(0, .ref (G.2.2 k)), (1, .int x1), (2, .int x2)] → W p l e (rmm 1 21) s m args below meth c H locs 0 0 (QI below args s G (O, μ)) (F0 m 4 ls [])) {q14 : Int32 → Int32 → Int32 → Option Int32} (hq14 : ∀ (x1 : Int32) (x2 : Int32) (x3 : Int32), q14 x1 x2 x3 = some O → ∀ (H : Heap) (locs : List Loc) (ls : Array Slot), Wm G μ H → va_S (wA G) s.heap H locs → lv_has ls 4 [(0, .ref (G.2.2 k)), (1, .int x1), (2, .int x2), (3, .int x3)] → W p l e (rmm 1 21) s m args below meth c H locs 0 0 (QI below args s G (O, μ)) (F0 m 14 ls [])) : ∀ (x1 : Int32) (x2 : Int32) (x3 : Int32), g_X3_keptZeros_14 k q4 μ q14 x1 x2 x3 = some O → ∀ (H : Heap) (locs : List Loc) (ls : Array Slot), Wm G μ H → va_S (wA G) s.heap H locs → lv_has ls 4 [(0, .ref (G.2.2 k)), (1, .int x1), (2, .int x2), (3, .int x3)] → W p l e (rmm 1 21) s m args below meth c H locs 0 0 (QI below args s G (O, μ)) (F0 m 14 ls []) := by
  intro x1 x2 x3 h H locs ls hP hS hl
  unfold g_X3_keptZeros_14 at h
  have q_k_0 : shp[k]? = some (.inl (3, fs3)) := hA 0 _ rfl
  have q_k_2 : shp[k + 2]? = some (.inr (0, 36)) := hA 2 _ rfl
  have q_k_3 : shp[k + 3]? = some (.inr (1, 36)) := hA 3 _ rfl
  refine lv_iload_n C.x C.b dX3_keptZeros_14 rfl (lv_at hl 3 rfl) ?_
  refine lv_aload_n C.x C.b dX3_keptZeros_15 rfl (lv_at hl 0 rfl) ?_
  refine g_int F_3_2 u1_153 C hP q_k_0 dX3_keptZeros_16 ?_
  refine lv_icmp_ge (tgt := 62) C.x C.b dX3_keptZeros_19 (by decide) (fun c1 => ?_) (fun c1 => ?_)
  · have h := (if_pos c1).symm.trans h
    obtain ⟨y2, e_y2, h⟩ := lt_ex h
    refine lv_iinc (v := y2) (lv' := [(2, .int y2), (0, .ref (G.2.2 k)), (1, .int x1), (3, .int x3)]) C.x C.b dX3_keptZeros_62 hl (k := 2) rfl (by rw [e_y2]; rfl) (by decide) rfl (fun ls hl => ?_)
    refine lv_goto (tgt := 4) C.x C.b dX3_keptZeros_65 (by decide) ?_
    exact hq4 x1 y2 h _ _ _ hP hS (lv_sub hl [1, 2, 0] rfl)
  · have h := (if_neg c1).symm.trans h
    refine lv_iload_n C.x C.b dX3_keptZeros_22 rfl (lv_at hl 1 rfl) ?_
    refine lv_aload_n C.x C.b dX3_keptZeros_23 rfl (lv_at hl 0 rfl) ?_
    refine g_ref (k' := k + 3) F_3_6 u1_161 C hP q_k_0 rfl dX3_keptZeros_24 ?_
    refine lv_iload_n C.x C.b dX3_keptZeros_27 rfl (lv_at hl 2 rfl) ?_
    refine lv_iload_n C.x C.b dX3_keptZeros_28 rfl (lv_at hl 3 rfl) ?_
    obtain ⟨r4, e3, h⟩ := bnv_some h
    refine k_ni (as := [.int x2, .int x3]) (rest := [.ref (G.2.2 (k + 3)), .int x1]) (c_X8_cellAt C.i e3) M_X8_cellAt n_RX3_97 C hP hS rfl (by decide) hl.1 rfl (Nat.le_of_ble_eq_true rfl) dX3_keptZeros_29 (fun H locs hP hS => ?_)
    obtain ⟨g5, h⟩ := grd_some h
    refine a_z C hP q_k_3 g5 dX3_keptZeros_32 ?_
    refine lv_if_eq (tgt := 53) C.x C.b dX3_keptZeros_33 (by decide) (fun c6 => ?_) (fun c6 => ?_)
    · have h := (if_pos c6).symm.trans h
      refine lv_iconst (v := 0) C.x C.b dX3_keptZeros_53 (by decide) ?_
      refine lv_iadd C.x C.b dX3_keptZeros_54 ?_
      refine lv_topi (fun y7 e_y7 => ?_)
      have h := lt_at h e_y7
      refine lv_istore_n (lv' := [(1, .int y7), (0, .ref (G.2.2 k)), (2, .int x2), (3, .int x3)]) C.x C.b dX3_keptZeros_55 rfl hl (by decide) rfl (fun ls hl => ?_)
      obtain ⟨y8, e_y8, h⟩ := lt_ex h
      refine lv_iinc (v := y8) (lv' := [(3, .int y8), (1, .int y7), (0, .ref (G.2.2 k)), (2, .int x2)]) C.x C.b dX3_keptZeros_56 hl (k := 3) rfl (by rw [e_y8]; rfl) (by decide) rfl (fun ls hl => ?_)
      refine lv_goto (tgt := 14) C.x C.b dX3_keptZeros_59 (by decide) ?_
      exact hq14 y7 x2 y8 h _ _ _ hP hS (lv_sub hl [2, 1, 3, 0] rfl)
    · have h := (if_neg c6).symm.trans h
      refine lv_aload_n C.x C.b dX3_keptZeros_36 rfl (lv_at hl 0 rfl) ?_
      refine g_ref (k' := k + 2) F_3_5 u1_159 C hP q_k_0 rfl dX3_keptZeros_37 ?_
      refine lv_iload_n C.x C.b dX3_keptZeros_40 rfl (lv_at hl 2 rfl) ?_
      refine lv_iload_n C.x C.b dX3_keptZeros_41 rfl (lv_at hl 3 rfl) ?_
      obtain ⟨r10, e9, h⟩ := bnv_some h
      refine k_ni (as := [.int x2, .int x3]) (rest := [.ref (G.2.2 (k + 2)), .int x1]) (c_X8_cellAt C.i e9) M_X8_cellAt n_RX3_97 C hP hS rfl (by decide) hl.1 rfl (Nat.le_of_ble_eq_true rfl) dX3_keptZeros_42 (fun H locs hP hS => ?_)
      obtain ⟨g11, h⟩ := grd_some h
      refine a_i C hP q_k_2 g11 dX3_keptZeros_45 ?_
      refine lv_if_ne (tgt := 53) C.x C.b dX3_keptZeros_46 (by decide) (fun c12 => ?_) (fun c12 => ?_)
      · have h := (if_neg c12).symm.trans h
        refine lv_iconst (v := 0) C.x C.b dX3_keptZeros_53 (by decide) ?_
        refine lv_iadd C.x C.b dX3_keptZeros_54 ?_
        refine lv_topi (fun y13 e_y13 => ?_)
        have h := lt_at h e_y13
        refine lv_istore_n (lv' := [(1, .int y13), (0, .ref (G.2.2 k)), (2, .int x2), (3, .int x3)]) C.x C.b dX3_keptZeros_55 rfl hl (by decide) rfl (fun ls hl => ?_)
        obtain ⟨y14, e_y14, h⟩ := lt_ex h
        refine lv_iinc (v := y14) (lv' := [(3, .int y14), (1, .int y13), (0, .ref (G.2.2 k)), (2, .int x2)]) C.x C.b dX3_keptZeros_56 hl (k := 3) rfl (by rw [e_y14]; rfl) (by decide) rfl (fun ls hl => ?_)
        refine lv_goto (tgt := 14) C.x C.b dX3_keptZeros_59 (by decide) ?_
        exact hq14 y13 x2 y14 h _ _ _ hP hS (lv_sub hl [2, 1, 3, 0] rfl)
      · have h := (if_pos c12).symm.trans h
        refine lv_iconst (v := 1) C.x C.b dX3_keptZeros_49 (by decide) ?_
        refine lv_goto (tgt := 54) C.x C.b dX3_keptZeros_50 (by decide) ?_
        refine lv_iadd C.x C.b dX3_keptZeros_54 ?_
        refine lv_topi (fun y15 e_y15 => ?_)
        have h := lt_at h e_y15
        refine lv_istore_n (lv' := [(1, .int y15), (0, .ref (G.2.2 k)), (2, .int x2), (3, .int x3)]) C.x C.b dX3_keptZeros_55 rfl hl (by decide) rfl (fun ls hl => ?_)
        obtain ⟨y16, e_y16, h⟩ := lt_ex h
        refine lv_iinc (v := y16) (lv' := [(3, .int y16), (1, .int y15), (0, .ref (G.2.2 k)), (2, .int x2)]) C.x C.b dX3_keptZeros_56 hl (k := 3) rfl (by rw [e_y16]; rfl) (by decide) rfl (fun ls hl => ?_)
        refine lv_goto (tgt := 14) C.x C.b dX3_keptZeros_59 (by decide) ?_
        exact hq14 y15 x2 y16 h _ _ _ hP hS (lv_sub hl [2, 1, 3, 0] rfl)

set_option maxRecDepth 100000 in
set_option maxHeartbeats 4000000 in
theorem b_X3_keptZeros_14 {p : Program} {l : Launch} {e : Env} {s : State} {m : MethodId} {args : Array Value} {below : List Frame} {meth : Method} {c : Code} {G : Gp} {O : Int32} (C : Cx p s m args meth c cX3_keptZeros 4 RX3 (some .int) G) {k : Nat} {μ : Mem} (hA : At sPlan k) {q4 : Int32 → Int32 → Option Int32} (hq4 : ∀ (x1 : Int32) (x2 : Int32), q4 x1 x2 = some O → ∀ (H : Heap) (locs : List Loc) (ls : Array Slot), Wm G μ H → va_S (wA G) s.heap H locs → lv_has ls 4 [(0, .ref (G.2.2 k)), (1, .int x1), (2, .int x2)] → W p l e (rmm 1 21) s m args below meth c H locs 0 0 (QI below args s G (O, μ)) (F0 m 4 ls [])) : ∀ (n : Nat) (x1 : Int32) (x2 : Int32) (x3 : Int32), f_X3_keptZeros_14 k q4 μ n x1 x2 x3 = some O → ∀ (H : Heap) (locs : List Loc) (ls : Array Slot), Wm G μ H → va_S (wA G) s.heap H locs → lv_has ls 4 [(0, .ref (G.2.2 k)), (1, .int x1), (2, .int x2), (3, .int x3)] → W p l e (rmm 1 21) s m args below meth c H locs 0 0 (QI below args s G (O, μ)) (F0 m 14 ls []) := by
  intro n
  induction n with
  | zero => intro x1 x2 x3 h; cases h
  | succ n ih => intro x1 x2 x3 h; exact w_X3_keptZeros_14 C hA hq4 (q14 := f_X3_keptZeros_14 k q4 μ n) ih x1 x2 x3 h

def g_X3_keptZeros_4 (k : Nat)  (μ : Mem) (q4 : Int32 → Int32 → Option Int32) (x1 : Int32) (x2 : Int32) : Option Int32 := if (μ.1 k 1) ≤ x2 then (some x1) else (f_X3_keptZeros_14 k q4 μ FU x1 x2 0)
def f_X3_keptZeros_4 (k : Nat)  (μ : Mem) : Nat → Int32 → Int32 → Option Int32
  | 0, _, _ => none
  | n + 1, x1, x2 => g_X3_keptZeros_4 k μ (f_X3_keptZeros_4 k μ n) x1 x2
set_option maxRecDepth 100000 in
set_option maxHeartbeats 4000000 in
theorem w_X3_keptZeros_4 {p : Program} {l : Launch} {e : Env} {s : State} {m : MethodId} {args : Array Value} {below : List Frame} {meth : Method} {c : Code} {G : Gp} {O : Int32} (C : Cx p s m args meth c cX3_keptZeros 4 RX3 (some .int) G) {k : Nat} {μ : Mem} (hA : At sPlan k) {q4 : Int32 → Int32 → Option Int32} (hq4 : ∀ (x1 : Int32) (x2 : Int32), q4 x1 x2 = some O → ∀ (H : Heap) (locs : List Loc) (ls : Array Slot), Wm G μ H → va_S (wA G) s.heap H locs → lv_has ls 4 [(0, .ref (G.2.2 k)), (1, .int x1), (2, .int x2)] → W p l e (rmm 1 21) s m args below meth c H locs 0 0 (QI below args s G (O, μ)) (F0 m 4 ls [])) : ∀ (x1 : Int32) (x2 : Int32), g_X3_keptZeros_4 k μ q4 x1 x2 = some O → ∀ (H : Heap) (locs : List Loc) (ls : Array Slot), Wm G μ H → va_S (wA G) s.heap H locs → lv_has ls 4 [(0, .ref (G.2.2 k)), (1, .int x1), (2, .int x2)] → W p l e (rmm 1 21) s m args below meth c H locs 0 0 (QI below args s G (O, μ)) (F0 m 4 ls []) := by
  intro x1 x2 h H locs ls hP hS hl
  unfold g_X3_keptZeros_4 at h
  have q_k_0 : shp[k]? = some (.inl (3, fs3)) := hA 0 _ rfl
  refine lv_iload_n C.x C.b dX3_keptZeros_4 rfl (lv_at hl 2 rfl) ?_
  refine lv_aload_n C.x C.b dX3_keptZeros_5 rfl (lv_at hl 0 rfl) ?_
  refine g_int F_3_1 u1_151 C hP q_k_0 dX3_keptZeros_6 ?_
  refine lv_icmp_ge (tgt := 68) C.x C.b dX3_keptZeros_9 (by decide) (fun c1 => ?_) (fun c1 => ?_)
  · have h := (if_pos c1).symm.trans h
    refine lv_iload_n C.x C.b dX3_keptZeros_68 rfl (lv_at hl 1 rfl) ?_
    exact r_i (pr_some h) C hP hS dX3_keptZeros_69
  · have h := (if_neg c1).symm.trans h
    refine lv_iconst (v := 0) C.x C.b dX3_keptZeros_12 (by decide) ?_
    refine lv_istore_n (lv' := [(3, .int 0), (0, .ref (G.2.2 k)), (1, .int x1), (2, .int x2)]) C.x C.b dX3_keptZeros_13 rfl hl (by decide) rfl (fun ls hl => ?_)
    exact b_X3_keptZeros_14 C hA hq4 FU x1 x2 0 h _ _ _ hP hS (lv_sub hl [1, 2, 3, 0] rfl)

set_option maxRecDepth 100000 in
set_option maxHeartbeats 4000000 in
theorem b_X3_keptZeros_4 {p : Program} {l : Launch} {e : Env} {s : State} {m : MethodId} {args : Array Value} {below : List Frame} {meth : Method} {c : Code} {G : Gp} {O : Int32} (C : Cx p s m args meth c cX3_keptZeros 4 RX3 (some .int) G) {k : Nat} {μ : Mem} (hA : At sPlan k) : ∀ (n : Nat) (x1 : Int32) (x2 : Int32), f_X3_keptZeros_4 k μ n x1 x2 = some O → ∀ (H : Heap) (locs : List Loc) (ls : Array Slot), Wm G μ H → va_S (wA G) s.heap H locs → lv_has ls 4 [(0, .ref (G.2.2 k)), (1, .int x1), (2, .int x2)] → W p l e (rmm 1 21) s m args below meth c H locs 0 0 (QI below args s G (O, μ)) (F0 m 4 ls []) := by
  intro n
  induction n with
  | zero => intro x1 x2 h; cases h
  | succ n ih => intro x1 x2 h; exact w_X3_keptZeros_4 C hA (q4 := f_X3_keptZeros_4 k μ n) ih x1 x2 h

def f_X3_keptZeros (k : Nat) (μ : Mem) : Option Int32 := f_X3_keptZeros_4 k μ FU 0 0
set_option maxRecDepth 100000 in
set_option maxHeartbeats 4000000 in
theorem b_X3_keptZeros {p : Program} {l : Launch} {e : Env} {s : State} {m : MethodId} {args : Array Value} {below : List Frame} {meth : Method} {c : Code} {G : Gp} {O : Int32} (C : Cx p s m args meth c cX3_keptZeros 4 RX3 (some .int) G) {k : Nat} {μ : Mem} (hA : At sPlan k) (h : f_X3_keptZeros k μ = some O) : ∀ (H : Heap) (locs : List Loc) (ls : Array Slot), Wm G μ H → va_S (wA G) s.heap H locs → lv_has ls 4 [(0, .ref (G.2.2 k))] → W p l e (rmm 1 21) s m args below meth c H locs 0 0 (QI below args s G (O, μ)) (F0 m 0 ls []) := by
  unfold f_X3_keptZeros at h
  intro H locs ls hP hS hl
  refine lv_iconst (v := 0) C.x C.b dX3_keptZeros_0 (by decide) ?_
  refine lv_istore_n (lv' := [(1, .int 0), (0, .ref (G.2.2 k))]) C.x C.b dX3_keptZeros_1 rfl hl (by decide) rfl (fun ls hl => ?_)
  refine lv_iconst (v := 0) C.x C.b dX3_keptZeros_2 (by decide) ?_
  refine lv_istore_n (lv' := [(2, .int 0), (1, .int 0), (0, .ref (G.2.2 k))]) C.x C.b dX3_keptZeros_3 rfl hl (by decide) rfl (fun ls hl => ?_)
  exact b_X3_keptZeros_4 C hA FU 0 0 h _ _ _ hP hS (lv_sub hl [2, 1, 0] rfl)

set_option maxRecDepth 100000 in
set_option maxHeartbeats 4000000 in
theorem c_X3_keptZeros {l : Launch} {G : Gp} (hI : Wi G) {k : Nat} (hA : At sPlan k) {μ : Mem} {r : Int32} (h : f_X3_keptZeros k μ = some r) : CI l yX3_keptZeros cX3_keptZeros 4 (some .int) 1 21 G [.ref (G.2.2 k)] μ r μ :=
  e_all (lv := [(0, .ref (G.2.2 k))]) hI (by decide) (Nat.le_of_ble_eq_true rfl) rfl (fun p e s m args below meth c ls C hP hS hl => b_X3_keptZeros C hA h _ _ _ hP hS hl)


def f_X3_freeCells_44 (k : Nat) (x1 : Int32) (q4 : Int32 → Int32 → Option Int32) (q15 : Int32 → Int32 → Int32 → Option Int32) (μ : Mem) (x2 : Int32) (x3 : Int32) (x4 : Int32) (z0 : Int32) : Option Int32 := if z0 = 0 then (lt (x2 + 0) (fun y2 => lt (x4 + 1) (fun y3 => q15 y2 x3 y3))) else (bnv (f_X8_cellAt x3 x4 μ) (fun r5 => grd (inb r5 36) (if (μ.1 (k + 3) r5.toNatClampNeg) = 0 then (lt (x2 + 1) (fun y10 => lt (x4 + 1) (fun y11 => q15 y10 x3 y11))) else (lt (x2 + 0) (fun y8 => lt (x4 + 1) (fun y9 => q15 y8 x3 y9))))))
set_option maxRecDepth 100000 in
set_option maxHeartbeats 4000000 in
theorem b_X3_freeCells_44 {p : Program} {l : Launch} {e : Env} {s : State} {m : MethodId} {args : Array Value} {below : List Frame} {meth : Method} {c : Code} {G : Gp} {O : Int32} (C : Cx p s m args meth c cX3_freeCells 6 RX3 (some .int) G) {k : Nat} {x1 : Int32} {μ : Mem} (hA : At sPlan k) {q4 : Int32 → Int32 → Option Int32} {q15 : Int32 → Int32 → Int32 → Option Int32} (hq4 : ∀ (x2 : Int32) (x3 : Int32), q4 x2 x3 = some O → ∀ (H : Heap) (locs : List Loc) (ls : Array Slot), Wm G μ H → va_S (wA G) s.heap H locs → lv_has ls 6 [(0, .ref (G.2.2 k)), (1, .int x1), (2, .int x2), (3, .int x3)] → W p l e (rmm 2 43) s m args below meth c H locs 0 0 (QI below args s G (O, μ)) (F0 m 4 ls [])) (hq15 : ∀ (x2 : Int32) (x3 : Int32) (x4 : Int32), q15 x2 x3 x4 = some O → ∀ (H : Heap) (locs : List Loc) (ls : Array Slot), Wm G μ H → va_S (wA G) s.heap H locs → lv_has ls 6 [(0, .ref (G.2.2 k)), (1, .int x1), (2, .int x2), (3, .int x3), (4, .int x4)] → W p l e (rmm 2 43) s m args below meth c H locs 0 0 (QI below args s G (O, μ)) (F0 m 15 ls [])) : ∀ (x2 : Int32) (x3 : Int32) (x4 : Int32) (z0 : Int32), f_X3_freeCells_44 k x1 q4 q15 μ x2 x3 x4 z0 = some O → ∀ (H : Heap) (locs : List Loc) (ls : Array Slot), Wm G μ H → va_S (wA G) s.heap H locs → lv_has ls 6 [(0, .ref (G.2.2 k)), (1, .int x1), (2, .int x2), (3, .int x3), (4, .int x4)] → W p l e (rmm 2 43) s m args below meth c H locs 0 0 (QI below args s G (O, μ)) (F0 m 44 ls [.int z0]) := by
  intro x2 x3 x4 z0 h H locs ls hP hS hl
  unfold f_X3_freeCells_44 at h
  have q_k_0 : shp[k]? = some (.inl (3, fs3)) := hA 0 _ rfl
  have q_k_3 : shp[k + 3]? = some (.inr (1, 36)) := hA 3 _ rfl
  refine lv_istore (lv' := [(5, .int z0), (0, .ref (G.2.2 k)), (1, .int x1), (2, .int x2), (3, .int x3), (4, .int x4)]) C.x C.b dX3_freeCells_44 hl (by decide) rfl (fun ls hl => ?_)
  refine lv_iload_n C.x C.b dX3_freeCells_46 rfl (lv_at hl 3 rfl) ?_
  refine lv_iload C.x C.b dX3_freeCells_47 (lv_at hl 0 rfl) ?_
  refine lv_if_eq (tgt := 70) C.x C.b dX3_freeCells_49 (by decide) (fun c1 => ?_) (fun c1 => ?_)
  · have h := (if_pos c1).symm.trans h
    refine lv_iconst (v := 0) C.x C.b dX3_freeCells_70 (by decide) ?_
    refine lv_iadd C.x C.b dX3_freeCells_71 ?_
    refine lv_topi (fun y2 e_y2 => ?_)
    have h := lt_at h e_y2
    refine lv_istore_n (lv' := [(2, .int y2), (5, .int z0), (0, .ref (G.2.2 k)), (1, .int x1), (3, .int x3), (4, .int x4)]) C.x C.b dX3_freeCells_72 rfl hl (by decide) rfl (fun ls hl => ?_)
    obtain ⟨y3, e_y3, h⟩ := lt_ex h
    refine lv_iinc (v := y3) (lv' := [(4, .int y3), (2, .int y2), (5, .int z0), (0, .ref (G.2.2 k)), (1, .int x1), (3, .int x3)]) C.x C.b dX3_freeCells_73 hl (k := 5) rfl (by rw [e_y3]; rfl) (by decide) rfl (fun ls hl => ?_)
    refine lv_goto (tgt := 15) C.x C.b dX3_freeCells_76 (by decide) ?_
    exact hq15 y2 x3 y3 h _ _ _ hP hS (lv_sub hl [3, 4, 1, 5, 0] rfl)
  · have h := (if_neg c1).symm.trans h
    refine lv_aload_n C.x C.b dX3_freeCells_52 rfl (lv_at hl 1 rfl) ?_
    refine g_ref (k' := k + 3) F_3_6 u1_161 C hP q_k_0 rfl dX3_freeCells_53 ?_
    refine lv_iload_n C.x C.b dX3_freeCells_56 rfl (lv_at hl 4 rfl) ?_
    refine lv_iload C.x C.b dX3_freeCells_57 (lv_at hl 5 rfl) ?_
    obtain ⟨r5, e4, h⟩ := bnv_some h
    refine k_ni (as := [.int x3, .int x4]) (rest := [.ref (G.2.2 (k + 3)), .int x2]) (c_X8_cellAt C.i e4) M_X8_cellAt n_RX3_97 C hP hS rfl (by decide) hl.1 rfl (Nat.le_of_ble_eq_true rfl) dX3_freeCells_59 (fun H locs hP hS => ?_)
    obtain ⟨g6, h⟩ := grd_some h
    refine a_z C hP q_k_3 g6 dX3_freeCells_62 ?_
    refine lv_if_ne (tgt := 70) C.x C.b dX3_freeCells_63 (by decide) (fun c7 => ?_) (fun c7 => ?_)
    · have h := (if_neg c7).symm.trans h
      refine lv_iconst (v := 0) C.x C.b dX3_freeCells_70 (by decide) ?_
      refine lv_iadd C.x C.b dX3_freeCells_71 ?_
      refine lv_topi (fun y8 e_y8 => ?_)
      have h := lt_at h e_y8
      refine lv_istore_n (lv' := [(2, .int y8), (5, .int z0), (0, .ref (G.2.2 k)), (1, .int x1), (3, .int x3), (4, .int x4)]) C.x C.b dX3_freeCells_72 rfl hl (by decide) rfl (fun ls hl => ?_)
      obtain ⟨y9, e_y9, h⟩ := lt_ex h
      refine lv_iinc (v := y9) (lv' := [(4, .int y9), (2, .int y8), (5, .int z0), (0, .ref (G.2.2 k)), (1, .int x1), (3, .int x3)]) C.x C.b dX3_freeCells_73 hl (k := 5) rfl (by rw [e_y9]; rfl) (by decide) rfl (fun ls hl => ?_)
      refine lv_goto (tgt := 15) C.x C.b dX3_freeCells_76 (by decide) ?_
      exact hq15 y8 x3 y9 h _ _ _ hP hS (lv_sub hl [3, 4, 1, 5, 0] rfl)
    · have h := (if_pos c7).symm.trans h
      refine lv_iconst (v := 1) C.x C.b dX3_freeCells_66 (by decide) ?_
      refine lv_goto (tgt := 71) C.x C.b dX3_freeCells_67 (by decide) ?_
      refine lv_iadd C.x C.b dX3_freeCells_71 ?_
      refine lv_topi (fun y10 e_y10 => ?_)
      have h := lt_at h e_y10
      refine lv_istore_n (lv' := [(2, .int y10), (5, .int z0), (0, .ref (G.2.2 k)), (1, .int x1), (3, .int x3), (4, .int x4)]) C.x C.b dX3_freeCells_72 rfl hl (by decide) rfl (fun ls hl => ?_)
      obtain ⟨y11, e_y11, h⟩ := lt_ex h
      refine lv_iinc (v := y11) (lv' := [(4, .int y11), (2, .int y10), (5, .int z0), (0, .ref (G.2.2 k)), (1, .int x1), (3, .int x3)]) C.x C.b dX3_freeCells_73 hl (k := 5) rfl (by rw [e_y11]; rfl) (by decide) rfl (fun ls hl => ?_)
      refine lv_goto (tgt := 15) C.x C.b dX3_freeCells_76 (by decide) ?_
      exact hq15 y10 x3 y11 h _ _ _ hP hS (lv_sub hl [3, 4, 1, 5, 0] rfl)

def g_X3_freeCells_15 (k : Nat) (x1 : Int32) (q4 : Int32 → Int32 → Option Int32) (μ : Mem) (q15 : Int32 → Int32 → Int32 → Option Int32) (x2 : Int32) (x3 : Int32) (x4 : Int32) : Option Int32 := if (μ.1 k 2) ≤ x4 then (lt (x3 + 1) (fun y2 => q4 x2 y2)) else (bnv (f_X3_surplusAt k x3 x4 μ) (fun r4 => bnv (f_J6_compare_7cf53 r4 0 μ) (fun r6 => if r6 = x1 then (f_X3_freeCells_44 k x1 q4 q15 μ x2 x3 x4 1) else (f_X3_freeCells_44 k x1 q4 q15 μ x2 x3 x4 0))))
def f_X3_freeCells_15 (k : Nat) (x1 : Int32) (q4 : Int32 → Int32 → Option Int32) (μ : Mem) : Nat → Int32 → Int32 → Int32 → Option Int32
  | 0, _, _, _ => none
  | n + 1, x2, x3, x4 => g_X3_freeCells_15 k x1 q4 μ (f_X3_freeCells_15 k x1 q4 μ n) x2 x3 x4
set_option maxRecDepth 100000 in
set_option maxHeartbeats 4000000 in
theorem w_X3_freeCells_15 {p : Program} {l : Launch} {e : Env} {s : State} {m : MethodId} {args : Array Value} {below : List Frame} {meth : Method} {c : Code} {G : Gp} {O : Int32} (C : Cx p s m args meth c cX3_freeCells 6 RX3 (some .int) G) {k : Nat} {x1 : Int32} {μ : Mem} (hA : At sPlan k) {q4 : Int32 → Int32 → Option Int32} (hq4 : ∀ (x2 : Int32) (x3 : Int32), q4 x2 x3 = some O → ∀ (H : Heap) (locs : List Loc) (ls : Array Slot), Wm G μ H → va_S (wA G) s.heap H locs → lv_has ls 6 [(0, .ref (G.2.2 k)), (1, .int x1), (2, .int x2), (3, .int x3)] → W p l e (rmm 2 43) s m args below meth c H locs 0 0 (QI below args s G (O, μ)) (F0 m 4 ls [])) {q15 : Int32 → Int32 → Int32 → Option Int32} (hq15 : ∀ (x2 : Int32) (x3 : Int32) (x4 : Int32), q15 x2 x3 x4 = some O → ∀ (H : Heap) (locs : List Loc) (ls : Array Slot), Wm G μ H → va_S (wA G) s.heap H locs → lv_has ls 6 [(0, .ref (G.2.2 k)), (1, .int x1), (2, .int x2), (3, .int x3), (4, .int x4)] → W p l e (rmm 2 43) s m args below meth c H locs 0 0 (QI below args s G (O, μ)) (F0 m 15 ls [])) : ∀ (x2 : Int32) (x3 : Int32) (x4 : Int32), g_X3_freeCells_15 k x1 q4 μ q15 x2 x3 x4 = some O → ∀ (H : Heap) (locs : List Loc) (ls : Array Slot), Wm G μ H → va_S (wA G) s.heap H locs → lv_has ls 6 [(0, .ref (G.2.2 k)), (1, .int x1), (2, .int x2), (3, .int x3), (4, .int x4)] → W p l e (rmm 2 43) s m args below meth c H locs 0 0 (QI below args s G (O, μ)) (F0 m 15 ls []) := by
  intro x2 x3 x4 h H locs ls hP hS hl
  unfold g_X3_freeCells_15 at h
  have q_k_0 : shp[k]? = some (.inl (3, fs3)) := hA 0 _ rfl
  refine lv_iload C.x C.b dX3_freeCells_15 (lv_at hl 4 rfl) ?_
  refine lv_aload_n C.x C.b dX3_freeCells_17 rfl (lv_at hl 0 rfl) ?_
  refine g_int F_3_2 u1_153 C hP q_k_0 dX3_freeCells_18 ?_
  refine lv_icmp_ge (tgt := 79) C.x C.b dX3_freeCells_21 (by decide) (fun c1 => ?_) (fun c1 => ?_)
  · have h := (if_pos c1).symm.trans h
    obtain ⟨y2, e_y2, h⟩ := lt_ex h
    refine lv_iinc (v := y2) (lv' := [(3, .int y2), (0, .ref (G.2.2 k)), (1, .int x1), (2, .int x2), (4, .int x4)]) C.x C.b dX3_freeCells_79 hl (k := 3) rfl (by rw [e_y2]; rfl) (by decide) rfl (fun ls hl => ?_)
    refine lv_goto (tgt := 4) C.x C.b dX3_freeCells_82 (by decide) ?_
    exact hq4 x2 y2 h _ _ _ hP hS (lv_sub hl [1, 2, 3, 0] rfl)
  · have h := (if_neg c1).symm.trans h
    refine lv_aload_n C.x C.b dX3_freeCells_24 rfl (lv_at hl 0 rfl) ?_
    refine lv_iload_n C.x C.b dX3_freeCells_25 rfl (lv_at hl 3 rfl) ?_
    refine lv_iload C.x C.b dX3_freeCells_26 (lv_at hl 4 rfl) ?_
    obtain ⟨r4, e3, h⟩ := bnv_some h
    refine k_vi (k := k) (as := [.int x3, .int x4]) (rest := []) (c_X3_surplusAt C.i hA e3) M_X3_surplusAt u3_72 C hP hS q_k_0 rfl rfl (by decide) hl.1 rfl (Nat.le_of_ble_eq_true rfl) dX3_freeCells_28 (fun H locs hP hS => ?_)
    refine lv_iconst (v := 0) C.x C.b dX3_freeCells_31 (by decide) ?_
    obtain ⟨r6, e5, h⟩ := bnv_some h
    refine k_si (as := [.int r4, .int 0]) (rest := []) (c_J6_compare_7cf53 C.i e5) M_J6_compare_7cf53 u3_160 C hP hS rfl (by decide) hl.1 rfl (Nat.le_of_ble_eq_true rfl) dX3_freeCells_32 (fun H locs hP hS => ?_)
    refine lv_iload_n C.x C.b dX3_freeCells_35 rfl (lv_at hl 1 rfl) ?_
    refine lv_icmp_ne (tgt := 43) C.x C.b dX3_freeCells_36 (by decide) (fun c7 => ?_) (fun c7 => ?_)
    · have h := (if_neg c7).symm.trans h
      refine lv_iconst (v := 0) C.x C.b dX3_freeCells_43 (by decide) ?_
      exact b_X3_freeCells_44 C hA hq4 hq15 x2 x3 x4 0 h _ _ _ hP hS (lv_sub hl [0, 1, 2, 3, 4] rfl)
    · have h := (if_pos c7).symm.trans h
      refine lv_iconst (v := 1) C.x C.b dX3_freeCells_39 (by decide) ?_
      refine lv_goto (tgt := 44) C.x C.b dX3_freeCells_40 (by decide) ?_
      exact b_X3_freeCells_44 C hA hq4 hq15 x2 x3 x4 1 h _ _ _ hP hS (lv_sub hl [0, 1, 2, 3, 4] rfl)

set_option maxRecDepth 100000 in
set_option maxHeartbeats 4000000 in
theorem b_X3_freeCells_15 {p : Program} {l : Launch} {e : Env} {s : State} {m : MethodId} {args : Array Value} {below : List Frame} {meth : Method} {c : Code} {G : Gp} {O : Int32} (C : Cx p s m args meth c cX3_freeCells 6 RX3 (some .int) G) {k : Nat} {x1 : Int32} {μ : Mem} (hA : At sPlan k) {q4 : Int32 → Int32 → Option Int32} (hq4 : ∀ (x2 : Int32) (x3 : Int32), q4 x2 x3 = some O → ∀ (H : Heap) (locs : List Loc) (ls : Array Slot), Wm G μ H → va_S (wA G) s.heap H locs → lv_has ls 6 [(0, .ref (G.2.2 k)), (1, .int x1), (2, .int x2), (3, .int x3)] → W p l e (rmm 2 43) s m args below meth c H locs 0 0 (QI below args s G (O, μ)) (F0 m 4 ls [])) : ∀ (n : Nat) (x2 : Int32) (x3 : Int32) (x4 : Int32), f_X3_freeCells_15 k x1 q4 μ n x2 x3 x4 = some O → ∀ (H : Heap) (locs : List Loc) (ls : Array Slot), Wm G μ H → va_S (wA G) s.heap H locs → lv_has ls 6 [(0, .ref (G.2.2 k)), (1, .int x1), (2, .int x2), (3, .int x3), (4, .int x4)] → W p l e (rmm 2 43) s m args below meth c H locs 0 0 (QI below args s G (O, μ)) (F0 m 15 ls []) := by
  intro n
  induction n with
  | zero => intro x2 x3 x4 h; cases h
  | succ n ih => intro x2 x3 x4 h; exact w_X3_freeCells_15 C hA hq4 (q15 := f_X3_freeCells_15 k x1 q4 μ n) ih x2 x3 x4 h

def g_X3_freeCells_4 (k : Nat) (x1 : Int32)  (μ : Mem) (q4 : Int32 → Int32 → Option Int32) (x2 : Int32) (x3 : Int32) : Option Int32 := if (μ.1 k 1) ≤ x3 then (some x2) else (f_X3_freeCells_15 k x1 q4 μ FU x2 x3 0)
def f_X3_freeCells_4 (k : Nat) (x1 : Int32)  (μ : Mem) : Nat → Int32 → Int32 → Option Int32
  | 0, _, _ => none
  | n + 1, x2, x3 => g_X3_freeCells_4 k x1 μ (f_X3_freeCells_4 k x1 μ n) x2 x3
set_option maxRecDepth 100000 in
set_option maxHeartbeats 4000000 in
theorem w_X3_freeCells_4 {p : Program} {l : Launch} {e : Env} {s : State} {m : MethodId} {args : Array Value} {below : List Frame} {meth : Method} {c : Code} {G : Gp} {O : Int32} (C : Cx p s m args meth c cX3_freeCells 6 RX3 (some .int) G) {k : Nat} {x1 : Int32} {μ : Mem} (hA : At sPlan k) {q4 : Int32 → Int32 → Option Int32} (hq4 : ∀ (x2 : Int32) (x3 : Int32), q4 x2 x3 = some O → ∀ (H : Heap) (locs : List Loc) (ls : Array Slot), Wm G μ H → va_S (wA G) s.heap H locs → lv_has ls 6 [(0, .ref (G.2.2 k)), (1, .int x1), (2, .int x2), (3, .int x3)] → W p l e (rmm 2 43) s m args below meth c H locs 0 0 (QI below args s G (O, μ)) (F0 m 4 ls [])) : ∀ (x2 : Int32) (x3 : Int32), g_X3_freeCells_4 k x1 μ q4 x2 x3 = some O → ∀ (H : Heap) (locs : List Loc) (ls : Array Slot), Wm G μ H → va_S (wA G) s.heap H locs → lv_has ls 6 [(0, .ref (G.2.2 k)), (1, .int x1), (2, .int x2), (3, .int x3)] → W p l e (rmm 2 43) s m args below meth c H locs 0 0 (QI below args s G (O, μ)) (F0 m 4 ls []) := by
  intro x2 x3 h H locs ls hP hS hl
  unfold g_X3_freeCells_4 at h
  have q_k_0 : shp[k]? = some (.inl (3, fs3)) := hA 0 _ rfl
  refine lv_iload_n C.x C.b dX3_freeCells_4 rfl (lv_at hl 3 rfl) ?_
  refine lv_aload_n C.x C.b dX3_freeCells_5 rfl (lv_at hl 0 rfl) ?_
  refine g_int F_3_1 u1_151 C hP q_k_0 dX3_freeCells_6 ?_
  refine lv_icmp_ge (tgt := 85) C.x C.b dX3_freeCells_9 (by decide) (fun c1 => ?_) (fun c1 => ?_)
  · have h := (if_pos c1).symm.trans h
    refine lv_iload_n C.x C.b dX3_freeCells_85 rfl (lv_at hl 2 rfl) ?_
    exact r_i (pr_some h) C hP hS dX3_freeCells_86
  · have h := (if_neg c1).symm.trans h
    refine lv_iconst (v := 0) C.x C.b dX3_freeCells_12 (by decide) ?_
    refine lv_istore (lv' := [(4, .int 0), (0, .ref (G.2.2 k)), (1, .int x1), (2, .int x2), (3, .int x3)]) C.x C.b dX3_freeCells_13 hl (by decide) rfl (fun ls hl => ?_)
    exact b_X3_freeCells_15 C hA hq4 FU x2 x3 0 h _ _ _ hP hS (lv_sub hl [1, 2, 3, 4, 0] rfl)

set_option maxRecDepth 100000 in
set_option maxHeartbeats 4000000 in
theorem b_X3_freeCells_4 {p : Program} {l : Launch} {e : Env} {s : State} {m : MethodId} {args : Array Value} {below : List Frame} {meth : Method} {c : Code} {G : Gp} {O : Int32} (C : Cx p s m args meth c cX3_freeCells 6 RX3 (some .int) G) {k : Nat} {x1 : Int32} {μ : Mem} (hA : At sPlan k) : ∀ (n : Nat) (x2 : Int32) (x3 : Int32), f_X3_freeCells_4 k x1 μ n x2 x3 = some O → ∀ (H : Heap) (locs : List Loc) (ls : Array Slot), Wm G μ H → va_S (wA G) s.heap H locs → lv_has ls 6 [(0, .ref (G.2.2 k)), (1, .int x1), (2, .int x2), (3, .int x3)] → W p l e (rmm 2 43) s m args below meth c H locs 0 0 (QI below args s G (O, μ)) (F0 m 4 ls []) := by
  intro n
  induction n with
  | zero => intro x2 x3 h; cases h
  | succ n ih => intro x2 x3 h; exact w_X3_freeCells_4 C hA (q4 := f_X3_freeCells_4 k x1 μ n) ih x2 x3 h

def f_X3_freeCells (k : Nat) (x1 : Int32) (μ : Mem) : Option Int32 := f_X3_freeCells_4 k x1 μ FU 0 0
set_option maxRecDepth 100000 in
set_option maxHeartbeats 4000000 in
theorem b_X3_freeCells {p : Program} {l : Launch} {e : Env} {s : State} {m : MethodId} {args : Array Value} {below : List Frame} {meth : Method} {c : Code} {G : Gp} {O : Int32} (C : Cx p s m args meth c cX3_freeCells 6 RX3 (some .int) G) {k : Nat} {x1 : Int32} {μ : Mem} (hA : At sPlan k) (h : f_X3_freeCells k x1 μ = some O) : ∀ (H : Heap) (locs : List Loc) (ls : Array Slot), Wm G μ H → va_S (wA G) s.heap H locs → lv_has ls 6 [(0, .ref (G.2.2 k)), (1, .int x1)] → W p l e (rmm 2 43) s m args below meth c H locs 0 0 (QI below args s G (O, μ)) (F0 m 0 ls []) := by
  unfold f_X3_freeCells at h
  intro H locs ls hP hS hl
  refine lv_iconst (v := 0) C.x C.b dX3_freeCells_0 (by decide) ?_
  refine lv_istore_n (lv' := [(2, .int 0), (0, .ref (G.2.2 k)), (1, .int x1)]) C.x C.b dX3_freeCells_1 rfl hl (by decide) rfl (fun ls hl => ?_)
  refine lv_iconst (v := 0) C.x C.b dX3_freeCells_2 (by decide) ?_
  refine lv_istore_n (lv' := [(3, .int 0), (2, .int 0), (0, .ref (G.2.2 k)), (1, .int x1)]) C.x C.b dX3_freeCells_3 rfl hl (by decide) rfl (fun ls hl => ?_)
  exact b_X3_freeCells_4 C hA FU 0 0 h _ _ _ hP hS (lv_sub hl [2, 3, 1, 0] rfl)

set_option maxRecDepth 100000 in
set_option maxHeartbeats 4000000 in
theorem c_X3_freeCells {l : Launch} {G : Gp} (hI : Wi G) {k : Nat} {x1 : Int32} (hA : At sPlan k) {μ : Mem} {r : Int32} (h : f_X3_freeCells k x1 μ = some r) : CI l yX3_freeCells cX3_freeCells 6 (some .int) 2 43 G [.ref (G.2.2 k), .int x1] μ r μ :=
  e_all (lv := [(0, .ref (G.2.2 k)), (1, .int x1)]) hI (by decide) (Nat.le_of_ble_eq_true rfl) rfl (fun p e s m args below meth c ls C hP hS hl => b_X3_freeCells C hA h _ _ _ hP hS hl)


def g_X3_judgeRow_17 (k : Nat) (o1 : Nat) (x2 : Int32) (q5 : Int32 → Int32 → Option Int32) (μ : Mem) (q17 : Int32 → Int32 → Int32 → Option Int32) (x3 : Int32) (x4 : Int32) (x5 : Int32) : Option Int32 := if (μ.1 k 2) ≤ x5 then (lt (x4 + 1) (fun y2 => q5 x3 y2)) else (bnv (f_X7_hasRun o1 x2 (x3 + 1) μ) (fun r4 => if r4 = 0 then (some (100 + x3)) else (grd (inb (x2 + x3) 60) (bnv (f_X8_cellAt x4 x5 μ) (fun r8 => grd (inb r8 36) (if (lg_cmp (μ.2 (o1 + 1) (x2 + x3).toNatClampNeg) (Int32.toInt64 (μ.1 (k + 2) r8.toNatClampNeg))) = 0 then (lt (x3 + 1) (fun y11 => lt (x5 + 1) (fun y12 => q17 y11 x4 y12))) else (some x3)))))))
def f_X3_judgeRow_17 (k : Nat) (o1 : Nat) (x2 : Int32) (q5 : Int32 → Int32 → Option Int32) (μ : Mem) : Nat → Int32 → Int32 → Int32 → Option Int32
  | 0, _, _, _ => none
  | n + 1, x3, x4, x5 => g_X3_judgeRow_17 k o1 x2 q5 μ (f_X3_judgeRow_17 k o1 x2 q5 μ n) x3 x4 x5
set_option maxRecDepth 100000 in
set_option maxHeartbeats 4000000 in
theorem w_X3_judgeRow_17 {p : Program} {l : Launch} {e : Env} {s : State} {m : MethodId} {args : Array Value} {below : List Frame} {meth : Method} {c : Code} {G : Gp} {O : Int32} (C : Cx p s m args meth c cX3_judgeRow 6 RX3 (some .int) G) {k : Nat} {o1 : Nat} {x2 : Int32} {μ : Mem} (hA : At sPlan k) (hB1 : At sTape o1) {q5 : Int32 → Int32 → Option Int32} (hq5 : ∀ (x3 : Int32) (x4 : Int32), q5 x3 x4 = some O → ∀ (H : Heap) (locs : List Loc) (ls : Array Slot), Wm G μ H → va_S (wA G) s.heap H locs → lv_has ls 6 [(0, .ref (G.2.2 k)), (1, .ref (G.2.2 o1)), (2, .int x2), (3, .int x3), (4, .int x4)] → W p l e (rmm 1 22) s m args below meth c H locs 0 0 (QI below args s G (O, μ)) (F0 m 5 ls [])) {q17 : Int32 → Int32 → Int32 → Option Int32} (hq17 : ∀ (x3 : Int32) (x4 : Int32) (x5 : Int32), q17 x3 x4 x5 = some O → ∀ (H : Heap) (locs : List Loc) (ls : Array Slot), Wm G μ H → va_S (wA G) s.heap H locs → lv_has ls 6 [(0, .ref (G.2.2 k)), (1, .ref (G.2.2 o1)), (2, .int x2), (3, .int x3), (4, .int x4), (5, .int x5)] → W p l e (rmm 1 22) s m args below meth c H locs 0 0 (QI below args s G (O, μ)) (F0 m 17 ls [])) : ∀ (x3 : Int32) (x4 : Int32) (x5 : Int32), g_X3_judgeRow_17 k o1 x2 q5 μ q17 x3 x4 x5 = some O → ∀ (H : Heap) (locs : List Loc) (ls : Array Slot), Wm G μ H → va_S (wA G) s.heap H locs → lv_has ls 6 [(0, .ref (G.2.2 k)), (1, .ref (G.2.2 o1)), (2, .int x2), (3, .int x3), (4, .int x4), (5, .int x5)] → W p l e (rmm 1 22) s m args below meth c H locs 0 0 (QI below args s G (O, μ)) (F0 m 17 ls []) := by
  intro x3 x4 x5 h H locs ls hP hS hl
  unfold g_X3_judgeRow_17 at h
  have q_k_0 : shp[k]? = some (.inl (3, fs3)) := hA 0 _ rfl
  have q_k_2 : shp[k + 2]? = some (.inr (0, 36)) := hA 2 _ rfl
  have q_o1_0 : shp[o1]? = some (.inl (7, fs7)) := hB1 0 _ rfl
  have q_o1_1 : shp[o1 + 1]? = some (.inr (3, 60)) := hB1 1 _ rfl
  refine lv_iload C.x C.b dX3_judgeRow_17 (lv_at hl 5 rfl) ?_
  refine lv_aload_n C.x C.b dX3_judgeRow_19 rfl (lv_at hl 0 rfl) ?_
  refine g_int F_3_2 u1_153 C hP q_k_0 dX3_judgeRow_20 ?_
  refine lv_icmp_ge (tgt := 78) C.x C.b dX3_judgeRow_23 (by decide) (fun c1 => ?_) (fun c1 => ?_)
  · have h := (if_pos c1).symm.trans h
    obtain ⟨y2, e_y2, h⟩ := lt_ex h
    refine lv_iinc (v := y2) (lv' := [(4, .int y2), (0, .ref (G.2.2 k)), (1, .ref (G.2.2 o1)), (2, .int x2), (3, .int x3), (5, .int x5)]) C.x C.b dX3_judgeRow_78 hl (k := 4) rfl (by rw [e_y2]; rfl) (by decide) rfl (fun ls hl => ?_)
    refine lv_goto (tgt := 5) C.x C.b dX3_judgeRow_81 (by decide) ?_
    exact hq5 x3 y2 h _ _ _ hP hS (lv_sub hl [1, 2, 3, 4, 0] rfl)
  · have h := (if_neg c1).symm.trans h
    refine lv_aload_n C.x C.b dX3_judgeRow_26 rfl (lv_at hl 1 rfl) ?_
    refine lv_iload_n C.x C.b dX3_judgeRow_27 rfl (lv_at hl 2 rfl) ?_
    refine lv_iload_n C.x C.b dX3_judgeRow_28 rfl (lv_at hl 3 rfl) ?_
    refine lv_iconst (v := 1) C.x C.b dX3_judgeRow_29 (by decide) ?_
    refine lv_iadd C.x C.b dX3_judgeRow_30 ?_
    obtain ⟨r4, e3, h⟩ := bnv_some h
    refine k_vi (k := o1) (as := [.int x2, .int (x3 + 1)]) (rest := []) (c_X7_hasRun C.i hB1 e3) M_X7_hasRun u4_57 C hP hS q_o1_0 rfl rfl (by decide) hl.1 rfl (Nat.le_of_ble_eq_true rfl) dX3_judgeRow_31 (fun H locs hP hS => ?_)
    refine lv_if_ne (tgt := 42) C.x C.b dX3_judgeRow_34 (by decide) (fun c5 => ?_) (fun c5 => ?_)
    · have h := (if_neg c5).symm.trans h
      refine lv_aload_n C.x C.b dX3_judgeRow_42 rfl (lv_at hl 1 rfl) ?_
      refine g_ref (k' := o1 + 1) F_7_2 u2_69 C hP q_o1_0 rfl dX3_judgeRow_43 ?_
      refine lv_iload_n C.x C.b dX3_judgeRow_46 rfl (lv_at hl 2 rfl) ?_
      refine lv_iload_n C.x C.b dX3_judgeRow_47 rfl (lv_at hl 3 rfl) ?_
      refine lv_iadd C.x C.b dX3_judgeRow_48 ?_
      obtain ⟨g6, h⟩ := grd_some h
      refine a_l C hP q_o1_1 g6 dX3_judgeRow_49 ?_
      refine lv_aload_n C.x C.b dX3_judgeRow_50 rfl (lv_at hl 0 rfl) ?_
      refine g_ref (k' := k + 2) F_3_5 u1_159 C hP q_k_0 rfl dX3_judgeRow_51 ?_
      refine lv_iload C.x C.b dX3_judgeRow_54 (lv_at hl 4 rfl) ?_
      refine lv_iload C.x C.b dX3_judgeRow_56 (lv_at hl 5 rfl) ?_
      obtain ⟨r8, e7, h⟩ := bnv_some h
      refine k_ni (as := [.int x4, .int x5]) (rest := [.ref (G.2.2 (k + 2)), .long (μ.2 (o1 + 1) (x2 + x3).toNatClampNeg)]) (c_X8_cellAt C.i e7) M_X8_cellAt n_RX3_97 C hP hS rfl (by decide) hl.1 rfl (Nat.le_of_ble_eq_true rfl) dX3_judgeRow_58 (fun H locs hP hS => ?_)
      obtain ⟨g9, h⟩ := grd_some h
      refine a_i C hP q_k_2 g9 dX3_judgeRow_61 ?_
      refine lv_i2l (v := Int32.toInt64 (μ.1 (k + 2) r8.toNatClampNeg)) C.x C.b dX3_judgeRow_62 rfl ?_
      refine W.lcmp C.x C.b dX3_judgeRow_63 ?_
      refine lv_if_eq (tgt := 69) C.x C.b dX3_judgeRow_64 (by decide) (fun c10 => ?_) (fun c10 => ?_)
      · have h := (if_pos c10).symm.trans h
        obtain ⟨y11, e_y11, h⟩ := lt_ex h
        refine lv_iinc (v := y11) (lv' := [(3, .int y11), (0, .ref (G.2.2 k)), (1, .ref (G.2.2 o1)), (2, .int x2), (4, .int x4), (5, .int x5)]) C.x C.b dX3_judgeRow_69 hl (k := 3) rfl (by rw [e_y11]; rfl) (by decide) rfl (fun ls hl => ?_)
        obtain ⟨y12, e_y12, h⟩ := lt_ex h
        refine lv_iinc (v := y12) (lv' := [(5, .int y12), (3, .int y11), (0, .ref (G.2.2 k)), (1, .ref (G.2.2 o1)), (2, .int x2), (4, .int x4)]) C.x C.b dX3_judgeRow_72 hl (k := 5) rfl (by rw [e_y12]; rfl) (by decide) rfl (fun ls hl => ?_)
        refine lv_goto (tgt := 17) C.x C.b dX3_judgeRow_75 (by decide) ?_
        exact hq17 y11 x4 y12 h _ _ _ hP hS (lv_sub hl [2, 3, 4, 1, 5, 0] rfl)
      · have h := (if_neg c10).symm.trans h
        refine lv_iload_n C.x C.b dX3_judgeRow_67 rfl (lv_at hl 3 rfl) ?_
        exact r_i (pr_some h) C hP hS dX3_judgeRow_68
    · have h := (if_pos c5).symm.trans h
      refine lv_bipush (v := 100) C.x C.b dX3_judgeRow_37 (by decide) ?_
      refine lv_iload_n C.x C.b dX3_judgeRow_39 rfl (lv_at hl 3 rfl) ?_
      refine lv_iadd C.x C.b dX3_judgeRow_40 ?_
      exact r_i (pr_some h) C hP hS dX3_judgeRow_41

set_option maxRecDepth 100000 in
set_option maxHeartbeats 4000000 in
theorem b_X3_judgeRow_17 {p : Program} {l : Launch} {e : Env} {s : State} {m : MethodId} {args : Array Value} {below : List Frame} {meth : Method} {c : Code} {G : Gp} {O : Int32} (C : Cx p s m args meth c cX3_judgeRow 6 RX3 (some .int) G) {k : Nat} {o1 : Nat} {x2 : Int32} {μ : Mem} (hA : At sPlan k) (hB1 : At sTape o1) {q5 : Int32 → Int32 → Option Int32} (hq5 : ∀ (x3 : Int32) (x4 : Int32), q5 x3 x4 = some O → ∀ (H : Heap) (locs : List Loc) (ls : Array Slot), Wm G μ H → va_S (wA G) s.heap H locs → lv_has ls 6 [(0, .ref (G.2.2 k)), (1, .ref (G.2.2 o1)), (2, .int x2), (3, .int x3), (4, .int x4)] → W p l e (rmm 1 22) s m args below meth c H locs 0 0 (QI below args s G (O, μ)) (F0 m 5 ls [])) : ∀ (n : Nat) (x3 : Int32) (x4 : Int32) (x5 : Int32), f_X3_judgeRow_17 k o1 x2 q5 μ n x3 x4 x5 = some O → ∀ (H : Heap) (locs : List Loc) (ls : Array Slot), Wm G μ H → va_S (wA G) s.heap H locs → lv_has ls 6 [(0, .ref (G.2.2 k)), (1, .ref (G.2.2 o1)), (2, .int x2), (3, .int x3), (4, .int x4), (5, .int x5)] → W p l e (rmm 1 22) s m args below meth c H locs 0 0 (QI below args s G (O, μ)) (F0 m 17 ls []) := by
  intro n
  induction n with
  | zero => intro x3 x4 x5 h; cases h
  | succ n ih => intro x3 x4 x5 h; exact w_X3_judgeRow_17 C hA hB1 hq5 (q17 := f_X3_judgeRow_17 k o1 x2 q5 μ n) ih x3 x4 x5 h

def g_X3_judgeRow_5 (k : Nat) (o1 : Nat) (x2 : Int32)  (μ : Mem) (q5 : Int32 → Int32 → Option Int32) (x3 : Int32) (x4 : Int32) : Option Int32 := if (μ.1 k 1) ≤ x4 then (some ((-5))) else (f_X3_judgeRow_17 k o1 x2 q5 μ FU x3 x4 0)
def f_X3_judgeRow_5 (k : Nat) (o1 : Nat) (x2 : Int32)  (μ : Mem) : Nat → Int32 → Int32 → Option Int32
  | 0, _, _ => none
  | n + 1, x3, x4 => g_X3_judgeRow_5 k o1 x2 μ (f_X3_judgeRow_5 k o1 x2 μ n) x3 x4
set_option maxRecDepth 100000 in
set_option maxHeartbeats 4000000 in
theorem w_X3_judgeRow_5 {p : Program} {l : Launch} {e : Env} {s : State} {m : MethodId} {args : Array Value} {below : List Frame} {meth : Method} {c : Code} {G : Gp} {O : Int32} (C : Cx p s m args meth c cX3_judgeRow 6 RX3 (some .int) G) {k : Nat} {o1 : Nat} {x2 : Int32} {μ : Mem} (hA : At sPlan k) (hB1 : At sTape o1) {q5 : Int32 → Int32 → Option Int32} (hq5 : ∀ (x3 : Int32) (x4 : Int32), q5 x3 x4 = some O → ∀ (H : Heap) (locs : List Loc) (ls : Array Slot), Wm G μ H → va_S (wA G) s.heap H locs → lv_has ls 6 [(0, .ref (G.2.2 k)), (1, .ref (G.2.2 o1)), (2, .int x2), (3, .int x3), (4, .int x4)] → W p l e (rmm 1 22) s m args below meth c H locs 0 0 (QI below args s G (O, μ)) (F0 m 5 ls [])) : ∀ (x3 : Int32) (x4 : Int32), g_X3_judgeRow_5 k o1 x2 μ q5 x3 x4 = some O → ∀ (H : Heap) (locs : List Loc) (ls : Array Slot), Wm G μ H → va_S (wA G) s.heap H locs → lv_has ls 6 [(0, .ref (G.2.2 k)), (1, .ref (G.2.2 o1)), (2, .int x2), (3, .int x3), (4, .int x4)] → W p l e (rmm 1 22) s m args below meth c H locs 0 0 (QI below args s G (O, μ)) (F0 m 5 ls []) := by
  intro x3 x4 h H locs ls hP hS hl
  unfold g_X3_judgeRow_5 at h
  have q_k_0 : shp[k]? = some (.inl (3, fs3)) := hA 0 _ rfl
  refine lv_iload C.x C.b dX3_judgeRow_5 (lv_at hl 4 rfl) ?_
  refine lv_aload_n C.x C.b dX3_judgeRow_7 rfl (lv_at hl 0 rfl) ?_
  refine g_int F_3_1 u1_151 C hP q_k_0 dX3_judgeRow_8 ?_
  refine lv_icmp_ge (tgt := 84) C.x C.b dX3_judgeRow_11 (by decide) (fun c1 => ?_) (fun c1 => ?_)
  · have h := (if_pos c1).symm.trans h
    refine lv_bipush (v := (-5)) C.x C.b dX3_judgeRow_84 (by decide) ?_
    exact r_i (pr_some h) C hP hS dX3_judgeRow_86
  · have h := (if_neg c1).symm.trans h
    refine lv_iconst (v := 0) C.x C.b dX3_judgeRow_14 (by decide) ?_
    refine lv_istore (lv' := [(5, .int 0), (0, .ref (G.2.2 k)), (1, .ref (G.2.2 o1)), (2, .int x2), (3, .int x3), (4, .int x4)]) C.x C.b dX3_judgeRow_15 hl (by decide) rfl (fun ls hl => ?_)
    exact b_X3_judgeRow_17 C hA hB1 hq5 FU x3 x4 0 h _ _ _ hP hS (lv_sub hl [1, 2, 3, 4, 5, 0] rfl)

set_option maxRecDepth 100000 in
set_option maxHeartbeats 4000000 in
theorem b_X3_judgeRow_5 {p : Program} {l : Launch} {e : Env} {s : State} {m : MethodId} {args : Array Value} {below : List Frame} {meth : Method} {c : Code} {G : Gp} {O : Int32} (C : Cx p s m args meth c cX3_judgeRow 6 RX3 (some .int) G) {k : Nat} {o1 : Nat} {x2 : Int32} {μ : Mem} (hA : At sPlan k) (hB1 : At sTape o1) : ∀ (n : Nat) (x3 : Int32) (x4 : Int32), f_X3_judgeRow_5 k o1 x2 μ n x3 x4 = some O → ∀ (H : Heap) (locs : List Loc) (ls : Array Slot), Wm G μ H → va_S (wA G) s.heap H locs → lv_has ls 6 [(0, .ref (G.2.2 k)), (1, .ref (G.2.2 o1)), (2, .int x2), (3, .int x3), (4, .int x4)] → W p l e (rmm 1 22) s m args below meth c H locs 0 0 (QI below args s G (O, μ)) (F0 m 5 ls []) := by
  intro n
  induction n with
  | zero => intro x3 x4 h; cases h
  | succ n ih => intro x3 x4 h; exact w_X3_judgeRow_5 C hA hB1 (q5 := f_X3_judgeRow_5 k o1 x2 μ n) ih x3 x4 h

def f_X3_judgeRow (k : Nat) (o1 : Nat) (x2 : Int32) (μ : Mem) : Option Int32 := f_X3_judgeRow_5 k o1 x2 μ FU 0 0
set_option maxRecDepth 100000 in
set_option maxHeartbeats 4000000 in
theorem b_X3_judgeRow {p : Program} {l : Launch} {e : Env} {s : State} {m : MethodId} {args : Array Value} {below : List Frame} {meth : Method} {c : Code} {G : Gp} {O : Int32} (C : Cx p s m args meth c cX3_judgeRow 6 RX3 (some .int) G) {k : Nat} {o1 : Nat} {x2 : Int32} {μ : Mem} (hA : At sPlan k) (hB1 : At sTape o1) (h : f_X3_judgeRow k o1 x2 μ = some O) : ∀ (H : Heap) (locs : List Loc) (ls : Array Slot), Wm G μ H → va_S (wA G) s.heap H locs → lv_has ls 6 [(0, .ref (G.2.2 k)), (1, .ref (G.2.2 o1)), (2, .int x2)] → W p l e (rmm 1 22) s m args below meth c H locs 0 0 (QI below args s G (O, μ)) (F0 m 0 ls []) := by
  unfold f_X3_judgeRow at h
  intro H locs ls hP hS hl
  refine lv_iconst (v := 0) C.x C.b dX3_judgeRow_0 (by decide) ?_
  refine lv_istore_n (lv' := [(3, .int 0), (0, .ref (G.2.2 k)), (1, .ref (G.2.2 o1)), (2, .int x2)]) C.x C.b dX3_judgeRow_1 rfl hl (by decide) rfl (fun ls hl => ?_)
  refine lv_iconst (v := 0) C.x C.b dX3_judgeRow_2 (by decide) ?_
  refine lv_istore (lv' := [(4, .int 0), (3, .int 0), (0, .ref (G.2.2 k)), (1, .ref (G.2.2 o1)), (2, .int x2)]) C.x C.b dX3_judgeRow_3 hl (by decide) rfl (fun ls hl => ?_)
  exact b_X3_judgeRow_5 C hA hB1 FU 0 0 h _ _ _ hP hS (lv_sub hl [2, 3, 4, 1, 0] rfl)

set_option maxRecDepth 100000 in
set_option maxHeartbeats 4000000 in
theorem c_X3_judgeRow {l : Launch} {G : Gp} (hI : Wi G) {k : Nat} {o1 : Nat} {x2 : Int32} (hA : At sPlan k) (hB1 : At sTape o1) {μ : Mem} {r : Int32} (h : f_X3_judgeRow k o1 x2 μ = some r) : CI l yX3_judgeRow cX3_judgeRow 6 (some .int) 1 22 G [.ref (G.2.2 k), .ref (G.2.2 o1), .int x2] μ r μ :=
  e_all (lv := [(0, .ref (G.2.2 k)), (1, .ref (G.2.2 o1)), (2, .int x2)]) hI (by decide) (Nat.le_of_ble_eq_true rfl) rfl (fun p e s m args below meth c ls C hP hS hl => b_X3_judgeRow C hA hB1 h _ _ _ hP hS hl)


def f_X6_copyFrom (k : Nat) (o1 : Nat) (μ : Mem) : Option Mem := bnv (f_X0_copyFrom (k + 1) (o1 + 1) μ) (fun μ2 => bnv (f_X3_copyFrom (k + 8) (o1 + 8) μ2) (fun μ4 => bnv (f_X4_copyFrom (k + 28) (o1 + 28) μ4) (fun μ6 => bnv (f_X4_copyFrom (k + 31) (o1 + 31) μ6) (fun μ8 => bnv (f_X4_copyFrom (k + 34) (o1 + 34) μ8) (fun μ10 => some μ10)))))
set_option maxRecDepth 100000 in
set_option maxHeartbeats 4000000 in
theorem b_X6_copyFrom {p : Program} {l : Launch} {e : Env} {s : State} {m : MethodId} {args : Array Value} {below : List Frame} {meth : Method} {c : Code} {G : Gp} {O : Mem} (C : Cx p s m args meth c cX6_copyFrom 2 RX6 none G) {k : Nat} {o1 : Nat} (hA : At sState k) (hB1 : At sState o1) {μ : Mem} (h : f_X6_copyFrom k o1 μ = some O) : ∀ (H : Heap) (locs : List Loc) (ls : Array Slot), Wm G μ H → va_S (wA G) s.heap H locs → lv_has ls 2 [(0, .ref (G.2.2 k)), (1, .ref (G.2.2 o1))] → W p l e (rmm 2 47) s m args below meth c H locs 0 0 (QV below args s G O) (F0 m 0 ls []) := by
  unfold f_X6_copyFrom at h
  intro H locs ls hP hS hl
  have q_k_0 : shp[k]? = some (.inl (6, fs6)) := hA 0 _ rfl
  have q_k_1 : shp[k + 1]? = some (.inl (0, fs0)) := hA 1 _ rfl
  have q_k_8 : shp[k + 8]? = some (.inl (3, fs3)) := hA 8 _ rfl
  have q_k_28 : shp[k + 28]? = some (.inl (4, fs4)) := hA 28 _ rfl
  have q_k_31 : shp[k + 31]? = some (.inl (4, fs4)) := hA 31 _ rfl
  have q_k_34 : shp[k + 34]? = some (.inl (4, fs4)) := hA 34 _ rfl
  have q_o1_0 : shp[o1]? = some (.inl (6, fs6)) := hB1 0 _ rfl
  refine lv_aload_n C.x C.b dX6_copyFrom_0 rfl (lv_at hl 0 rfl) ?_
  refine g_ref (k' := k + 1) F_6_0 u1_236 C hP q_k_0 rfl dX6_copyFrom_1 ?_
  refine lv_aload_n C.x C.b dX6_copyFrom_4 rfl (lv_at hl 1 rfl) ?_
  refine g_ref (k' := o1 + 1) F_6_0 u1_236 C hP q_o1_0 rfl dX6_copyFrom_5 ?_
  obtain ⟨μ2, e1, h⟩ := bnv_some h
  refine k_vv (k := k + 1) (as := [.ref (G.2.2 (o1 + 1))]) (rest := []) (c_X0_copyFrom C.i (hA.sub (M := sGround) 1 (by decide +kernel)) (hB1.sub (M := sGround) 1 (by decide +kernel)) e1) M_X0_copyFrom u4_69 C hP hS q_k_1 rfl rfl (by decide) hl.1 rfl (Nat.le_of_ble_eq_true rfl) dX6_copyFrom_8 (fun H locs hP hS => ?_)
  refine lv_aload_n C.x C.b dX6_copyFrom_11 rfl (lv_at hl 0 rfl) ?_
  refine g_ref (k' := k + 8) F_6_1 u1_238 C hP q_k_0 rfl dX6_copyFrom_12 ?_
  refine lv_aload_n C.x C.b dX6_copyFrom_15 rfl (lv_at hl 1 rfl) ?_
  refine g_ref (k' := o1 + 8) F_6_1 u1_238 C hP q_o1_0 rfl dX6_copyFrom_16 ?_
  obtain ⟨μ4, e3, h⟩ := bnv_some h
  refine k_vv (k := k + 8) (as := [.ref (G.2.2 (o1 + 8))]) (rest := []) (c_X3_copyFrom C.i (hA.sub (M := sPlan) 8 (by decide +kernel)) (hB1.sub (M := sPlan) 8 (by decide +kernel)) e3) M_X3_copyFrom u4_70 C hP hS q_k_8 rfl rfl (by decide) hl.1 rfl (Nat.le_of_ble_eq_true rfl) dX6_copyFrom_19 (fun H locs hP hS => ?_)
  refine lv_aload_n C.x C.b dX6_copyFrom_22 rfl (lv_at hl 0 rfl) ?_
  refine g_ref (k' := k + 28) F_6_2 u2_0 C hP q_k_0 rfl dX6_copyFrom_23 ?_
  refine lv_aload_n C.x C.b dX6_copyFrom_26 rfl (lv_at hl 1 rfl) ?_
  refine g_ref (k' := o1 + 28) F_6_2 u2_0 C hP q_o1_0 rfl dX6_copyFrom_27 ?_
  obtain ⟨μ6, e5, h⟩ := bnv_some h
  refine k_vv (k := k + 28) (as := [.ref (G.2.2 (o1 + 28))]) (rest := []) (c_X4_copyFrom C.i (hA.sub (M := sRows) 28 (by decide +kernel)) (hB1.sub (M := sRows) 28 (by decide +kernel)) e5) M_X4_copyFrom u4_71 C hP hS q_k_28 rfl rfl (by decide) hl.1 rfl (Nat.le_of_ble_eq_true rfl) dX6_copyFrom_30 (fun H locs hP hS => ?_)
  refine lv_aload_n C.x C.b dX6_copyFrom_33 rfl (lv_at hl 0 rfl) ?_
  refine g_ref (k' := k + 31) F_6_3 u2_2 C hP q_k_0 rfl dX6_copyFrom_34 ?_
  refine lv_aload_n C.x C.b dX6_copyFrom_37 rfl (lv_at hl 1 rfl) ?_
  refine g_ref (k' := o1 + 31) F_6_3 u2_2 C hP q_o1_0 rfl dX6_copyFrom_38 ?_
  obtain ⟨μ8, e7, h⟩ := bnv_some h
  refine k_vv (k := k + 31) (as := [.ref (G.2.2 (o1 + 31))]) (rest := []) (c_X4_copyFrom C.i (hA.sub (M := sRows) 31 (by decide +kernel)) (hB1.sub (M := sRows) 31 (by decide +kernel)) e7) M_X4_copyFrom u4_71 C hP hS q_k_31 rfl rfl (by decide) hl.1 rfl (Nat.le_of_ble_eq_true rfl) dX6_copyFrom_41 (fun H locs hP hS => ?_)
  refine lv_aload_n C.x C.b dX6_copyFrom_44 rfl (lv_at hl 0 rfl) ?_
  refine g_ref (k' := k + 34) F_6_4 u2_4 C hP q_k_0 rfl dX6_copyFrom_45 ?_
  refine lv_aload_n C.x C.b dX6_copyFrom_48 rfl (lv_at hl 1 rfl) ?_
  refine g_ref (k' := o1 + 34) F_6_4 u2_4 C hP q_o1_0 rfl dX6_copyFrom_49 ?_
  obtain ⟨μ10, e9, h⟩ := bnv_some h
  refine k_vv (k := k + 34) (as := [.ref (G.2.2 (o1 + 34))]) (rest := []) (c_X4_copyFrom C.i (hA.sub (M := sRows) 34 (by decide +kernel)) (hB1.sub (M := sRows) 34 (by decide +kernel)) e9) M_X4_copyFrom u4_71 C hP hS q_k_34 rfl rfl (by decide) hl.1 rfl (Nat.le_of_ble_eq_true rfl) dX6_copyFrom_52 (fun H locs hP hS => ?_)
  exact r_v h C hP hS dX6_copyFrom_55

set_option maxRecDepth 100000 in
set_option maxHeartbeats 4000000 in
theorem c_X6_copyFrom {l : Launch} {G : Gp} (hI : Wi G) {k : Nat} {o1 : Nat} (hA : At sState k) (hB1 : At sState o1) {μ : Mem} {μ' : Mem} (h : f_X6_copyFrom k o1 μ = some μ') : CV l yX6_copyFrom cX6_copyFrom 2 none 2 47 G [.ref (G.2.2 k), .ref (G.2.2 o1)] μ μ' :=
  e_all (lv := [(0, .ref (G.2.2 k)), (1, .ref (G.2.2 o1))]) hI (by decide) (Nat.le_of_ble_eq_true rfl) rfl (fun p e s m args below meth c ls C hP hS hl => b_X6_copyFrom C hA hB1 h _ _ _ hP hS hl)


def f_X6_addSite_91 (k : Nat) (x1 : Int32) (x2 : Int32) (x3 : Int32)  (x4 : Int32) (μ : Mem) : Option (Int32 × Mem) := lt (st μ (k + 8) 0 0) (fun μ1 => some (x4, μ1))
set_option maxRecDepth 100000 in
set_option maxHeartbeats 4000000 in
theorem b_X6_addSite_91 {p : Program} {l : Launch} {e : Env} {s : State} {m : MethodId} {args : Array Value} {below : List Frame} {meth : Method} {c : Code} {G : Gp} {O : (Int32 × Mem)} (C : Cx p s m args meth c cX6_addSite 5 RX6 (some .int) G) {k : Nat} {x1 : Int32} {x2 : Int32} {x3 : Int32} (hA : At sState k) : ∀ (x4 : Int32) (μ : Mem), f_X6_addSite_91 k x1 x2 x3 x4 μ = some O → ∀ (H : Heap) (locs : List Loc) (ls : Array Slot), Wm G μ H → va_S (wA G) s.heap H locs → lv_has ls 5 [(0, .ref (G.2.2 k)), (4, .int x4)] → W p l e (rmm 1 22) s m args below meth c H locs 0 0 (QI below args s G O) (F0 m 91 ls []) := by
  intro x4 μ h H locs ls hP hS hl
  unfold f_X6_addSite_91 at h
  have q_k_0 : shp[k]? = some (.inl (6, fs6)) := hA 0 _ rfl
  have q_k_8 : shp[k + 8]? = some (.inl (3, fs3)) := hA 8 _ rfl
  refine lv_aload_n C.x C.b dX6_addSite_91 rfl (lv_at hl 0 rfl) ?_
  refine g_ref (k' := k + 8) F_6_1 u1_238 C hP q_k_0 rfl dX6_addSite_92 ?_
  refine lv_iconst (v := 0) C.x C.b dX6_addSite_95 (by decide) ?_
  refine p_boo F_3_0 P_3_0 u1_149 (by decide) C hP hS q_k_8 dX6_addSite_96 (fun H locs hP hS => ?_)
  obtain ⟨μ1, m_μ1, h⟩ := lt_ex h
  have hP : Wm G μ1 H := by rw [m_μ1]; exact hP
  refine lv_iload C.x C.b dX6_addSite_99 (lv_at hl 1 rfl) ?_
  exact r_i h C hP hS dX6_addSite_101

def f_X6_addSite_21 (k : Nat) (x1 : Int32) (x2 : Int32) (x3 : Int32)  (z0 : Int32) (μ : Mem) : Option (Int32 × Mem) := if z0 < 5 then (bnv (f_X0_row (k + 1) x1 0 μ) (fun r3 => grd (inb z0 5) (lt (st μ r3 z0.toNatClampNeg x2) (fun μ6 => bnv (f_X0_row (k + 1) x1 1 μ6) (fun r8 => grd (inb z0 5) (lt (st μ6 r8 z0.toNatClampNeg x3) (fun μ11 => if x1 = 0 then (lt (st μ11 (k + 1) 0 ((μ11.1 (k + 1) 0) + 1)) (fun μ14 => f_X6_addSite_91 k x1 x2 x3 z0 μ14)) else (lt (st μ11 (k + 1) 1 ((μ11.1 (k + 1) 1) + 1)) (fun μ13 => f_X6_addSite_91 k x1 x2 x3 z0 μ13))))))))) else (some ((-4), μ))
set_option maxRecDepth 100000 in
set_option maxHeartbeats 4000000 in
theorem b_X6_addSite_21 {p : Program} {l : Launch} {e : Env} {s : State} {m : MethodId} {args : Array Value} {below : List Frame} {meth : Method} {c : Code} {G : Gp} {O : (Int32 × Mem)} (C : Cx p s m args meth c cX6_addSite 5 RX6 (some .int) G) {k : Nat} {x1 : Int32} {x2 : Int32} {x3 : Int32} (hA : At sState k) : ∀ (z0 : Int32) (μ : Mem), f_X6_addSite_21 k x1 x2 x3 z0 μ = some O → ∀ (H : Heap) (locs : List Loc) (ls : Array Slot), Wm G μ H → va_S (wA G) s.heap H locs → lv_has ls 5 [(0, .ref (G.2.2 k)), (1, .int x1), (2, .int x2), (3, .int x3)] → W p l e (rmm 1 22) s m args below meth c H locs 0 0 (QI below args s G O) (F0 m 21 ls [.int z0]) := by
  intro z0 μ h H locs ls hP hS hl
  unfold f_X6_addSite_21 at h
  have q_k_0 : shp[k]? = some (.inl (6, fs6)) := hA 0 _ rfl
  have q_k_1 : shp[k + 1]? = some (.inl (0, fs0)) := hA 1 _ rfl
  refine lv_istore (lv' := [(4, .int z0), (0, .ref (G.2.2 k)), (1, .int x1), (2, .int x2), (3, .int x3)]) C.x C.b dX6_addSite_21 hl (by decide) rfl (fun ls hl => ?_)
  refine lv_iload C.x C.b dX6_addSite_23 (lv_at hl 0 rfl) ?_
  refine lv_iconst (v := 5) C.x C.b dX6_addSite_25 (by decide) ?_
  refine lv_icmp_lt (tgt := 32) C.x C.b dX6_addSite_26 (by decide) (fun c1 => ?_) (fun c1 => ?_)
  · have h := (if_pos c1).symm.trans h
    refine lv_aload_n C.x C.b dX6_addSite_32 rfl (lv_at hl 1 rfl) ?_
    refine g_ref (k' := k + 1) F_6_0 u1_236 C hP q_k_0 rfl dX6_addSite_33 ?_
    refine lv_iload_n C.x C.b dX6_addSite_36 rfl (lv_at hl 2 rfl) ?_
    refine lv_iconst (v := 0) C.x C.b dX6_addSite_37 (by decide) ?_
    obtain ⟨r3, e2, h⟩ := bnv_some h
    refine k_vr (k := k + 1) (as := [.int x1, .int 0]) (rest := []) (c_X0_row C.i (hA.sub (M := sGround) 1 (by decide +kernel)) e2) M_X0_row u2_112 C hP hS q_k_1 rfl rfl (by decide) hl.1 rfl (Nat.le_of_ble_eq_true rfl) dX6_addSite_38 (fun H locs hP hS => ?_)
    have ht4 : shp[r3]? = some (.inr (0, 5)) := row_at (hA.sub (M := sGround) 1 (by decide +kernel)) e2
    refine lv_iload C.x C.b dX6_addSite_41 (lv_at hl 0 rfl) ?_
    refine lv_iload_n C.x C.b dX6_addSite_43 rfl (lv_at hl 3 rfl) ?_
    obtain ⟨g5, h⟩ := grd_some h
    refine as_i C hP hS ht4 g5 dX6_addSite_44 (fun H locs hP hS => ?_)
    obtain ⟨μ6, m_μ6, h⟩ := lt_ex h
    have hP : Wm G μ6 H := by rw [m_μ6]; exact hP
    refine lv_aload_n C.x C.b dX6_addSite_45 rfl (lv_at hl 1 rfl) ?_
    refine g_ref (k' := k + 1) F_6_0 u1_236 C hP q_k_0 rfl dX6_addSite_46 ?_
    refine lv_iload_n C.x C.b dX6_addSite_49 rfl (lv_at hl 2 rfl) ?_
    refine lv_iconst (v := 1) C.x C.b dX6_addSite_50 (by decide) ?_
    obtain ⟨r8, e7, h⟩ := bnv_some h
    refine k_vr (k := k + 1) (as := [.int x1, .int 1]) (rest := []) (c_X0_row C.i (hA.sub (M := sGround) 1 (by decide +kernel)) e7) M_X0_row u2_112 C hP hS q_k_1 rfl rfl (by decide) hl.1 rfl (Nat.le_of_ble_eq_true rfl) dX6_addSite_51 (fun H locs hP hS => ?_)
    have ht9 : shp[r8]? = some (.inr (0, 5)) := row_at (hA.sub (M := sGround) 1 (by decide +kernel)) e7
    refine lv_iload C.x C.b dX6_addSite_54 (lv_at hl 0 rfl) ?_
    refine lv_iload_n C.x C.b dX6_addSite_56 rfl (lv_at hl 4 rfl) ?_
    obtain ⟨g10, h⟩ := grd_some h
    refine as_i C hP hS ht9 g10 dX6_addSite_57 (fun H locs hP hS => ?_)
    obtain ⟨μ11, m_μ11, h⟩ := lt_ex h
    have hP : Wm G μ11 H := by rw [m_μ11]; exact hP
    refine lv_iload_n C.x C.b dX6_addSite_58 rfl (lv_at hl 2 rfl) ?_
    refine lv_if_ne (tgt := 78) C.x C.b dX6_addSite_59 (by decide) (fun c12 => ?_) (fun c12 => ?_)
    · have h := (if_neg c12).symm.trans h
      refine lv_aload_n C.x C.b dX6_addSite_78 rfl (lv_at hl 1 rfl) ?_
      refine g_ref (k' := k + 1) F_6_0 u1_236 C hP q_k_0 rfl dX6_addSite_79 ?_
      refine lv_dup C.x C.b dX6_addSite_82 rfl ?_
      refine g_int F_0_1 u1_44 C hP q_k_1 dX6_addSite_83 ?_
      refine lv_iconst (v := 1) C.x C.b dX6_addSite_86 (by decide) ?_
      refine lv_iadd C.x C.b dX6_addSite_87 ?_
      refine p_int F_0_1 P_0_1 u1_44 C hP hS q_k_1 dX6_addSite_88 (fun H locs hP hS => ?_)
      obtain ⟨μ13, m_μ13, h⟩ := lt_ex h
      have hP : Wm G μ13 H := by rw [m_μ13]; exact hP
      exact b_X6_addSite_91 C hA z0 μ13 h _ _ _ hP hS (lv_sub hl [1, 0] rfl)
    · have h := (if_pos c12).symm.trans h
      refine lv_aload_n C.x C.b dX6_addSite_62 rfl (lv_at hl 1 rfl) ?_
      refine g_ref (k' := k + 1) F_6_0 u1_236 C hP q_k_0 rfl dX6_addSite_63 ?_
      refine lv_dup C.x C.b dX6_addSite_66 rfl ?_
      refine g_int F_0_0 u1_40 C hP q_k_1 dX6_addSite_67 ?_
      refine lv_iconst (v := 1) C.x C.b dX6_addSite_70 (by decide) ?_
      refine lv_iadd C.x C.b dX6_addSite_71 ?_
      refine p_int F_0_0 P_0_0 u1_40 C hP hS q_k_1 dX6_addSite_72 (fun H locs hP hS => ?_)
      obtain ⟨μ14, m_μ14, h⟩ := lt_ex h
      have hP : Wm G μ14 H := by rw [m_μ14]; exact hP
      refine lv_goto (tgt := 91) C.x C.b dX6_addSite_75 (by decide) ?_
      exact b_X6_addSite_91 C hA z0 μ14 h _ _ _ hP hS (lv_sub hl [1, 0] rfl)
  · have h := (if_neg c1).symm.trans h
    refine lv_bipush (v := (-4)) C.x C.b dX6_addSite_29 (by decide) ?_
    exact r_i h C hP hS dX6_addSite_31

def f_X6_addSite (k : Nat) (x1 : Int32) (x2 : Int32) (x3 : Int32) (μ : Mem) : Option (Int32 × Mem) := if x1 = 0 then (f_X6_addSite_21 k x1 x2 x3 (μ.1 (k + 1) 0) μ) else (f_X6_addSite_21 k x1 x2 x3 (μ.1 (k + 1) 1) μ)
set_option maxRecDepth 100000 in
set_option maxHeartbeats 4000000 in
theorem b_X6_addSite {p : Program} {l : Launch} {e : Env} {s : State} {m : MethodId} {args : Array Value} {below : List Frame} {meth : Method} {c : Code} {G : Gp} {O : (Int32 × Mem)} (C : Cx p s m args meth c cX6_addSite 5 RX6 (some .int) G) {k : Nat} {x1 : Int32} {x2 : Int32} {x3 : Int32} (hA : At sState k) {μ : Mem} (h : f_X6_addSite k x1 x2 x3 μ = some O) : ∀ (H : Heap) (locs : List Loc) (ls : Array Slot), Wm G μ H → va_S (wA G) s.heap H locs → lv_has ls 5 [(0, .ref (G.2.2 k)), (1, .int x1), (2, .int x2), (3, .int x3)] → W p l e (rmm 1 22) s m args below meth c H locs 0 0 (QI below args s G O) (F0 m 0 ls []) := by
  unfold f_X6_addSite at h
  intro H locs ls hP hS hl
  have q_k_0 : shp[k]? = some (.inl (6, fs6)) := hA 0 _ rfl
  have q_k_1 : shp[k + 1]? = some (.inl (0, fs0)) := hA 1 _ rfl
  refine lv_iload_n C.x C.b dX6_addSite_0 rfl (lv_at hl 1 rfl) ?_
  refine lv_if_ne (tgt := 14) C.x C.b dX6_addSite_1 (by decide) (fun c1 => ?_) (fun c1 => ?_)
  · have h := (if_neg c1).symm.trans h
    refine lv_aload_n C.x C.b dX6_addSite_14 rfl (lv_at hl 0 rfl) ?_
    refine g_ref (k' := k + 1) F_6_0 u1_236 C hP q_k_0 rfl dX6_addSite_15 ?_
    refine g_int F_0_1 u1_44 C hP q_k_1 dX6_addSite_18 ?_
    exact b_X6_addSite_21 C hA (μ.1 (k + 1) 1) μ h _ _ _ hP hS (lv_sub hl [0, 1, 2, 3] rfl)
  · have h := (if_pos c1).symm.trans h
    refine lv_aload_n C.x C.b dX6_addSite_4 rfl (lv_at hl 0 rfl) ?_
    refine g_ref (k' := k + 1) F_6_0 u1_236 C hP q_k_0 rfl dX6_addSite_5 ?_
    refine g_int F_0_0 u1_40 C hP q_k_1 dX6_addSite_8 ?_
    refine lv_goto (tgt := 21) C.x C.b dX6_addSite_11 (by decide) ?_
    exact b_X6_addSite_21 C hA (μ.1 (k + 1) 0) μ h _ _ _ hP hS (lv_sub hl [0, 1, 2, 3] rfl)

set_option maxRecDepth 100000 in
set_option maxHeartbeats 4000000 in
theorem c_X6_addSite {l : Launch} {G : Gp} (hI : Wi G) {k : Nat} {x1 : Int32} {x2 : Int32} {x3 : Int32} (hA : At sState k) {μ : Mem} {r : Int32} {μ' : Mem} (h : f_X6_addSite k x1 x2 x3 μ = some (r, μ')) : CI l yX6_addSite cX6_addSite 5 (some .int) 1 22 G [.ref (G.2.2 k), .int x1, .int x2, .int x3] μ r μ' :=
  e_all (lv := [(0, .ref (G.2.2 k)), (1, .int x1), (2, .int x2), (3, .int x3)]) hI (by decide) (Nat.le_of_ble_eq_true rfl) rfl (fun p e s m args below meth c ls C hP hS hl => b_X6_addSite C hA h _ _ _ hP hS hl)


def f_X6_changeSite (k : Nat) (x1 : Int32) (x2 : Int32) (x3 : Int32) (x4 : Int32) (μ : Mem) : Option (Int32 × Mem) := bnv (f_X0_row (k + 1) x1 x3 μ) (fun r2 => grd (inb x2 5) (lt (μ.1 r2 x2.toNatClampNeg) (fun y5 => grd (inb x2 5) (lt (st μ r2 x2.toNatClampNeg x4) (fun μ7 => lt (st μ7 (k + 8) 0 0) (fun μ8 => some (y5, μ8)))))))
set_option maxRecDepth 100000 in
set_option maxHeartbeats 4000000 in
theorem b_X6_changeSite {p : Program} {l : Launch} {e : Env} {s : State} {m : MethodId} {args : Array Value} {below : List Frame} {meth : Method} {c : Code} {G : Gp} {O : (Int32 × Mem)} (C : Cx p s m args meth c cX6_changeSite 7 RX6 (some .int) G) {k : Nat} {x1 : Int32} {x2 : Int32} {x3 : Int32} {x4 : Int32} (hA : At sState k) {μ : Mem} (h : f_X6_changeSite k x1 x2 x3 x4 μ = some O) : ∀ (H : Heap) (locs : List Loc) (ls : Array Slot), Wm G μ H → va_S (wA G) s.heap H locs → lv_has ls 7 [(0, .ref (G.2.2 k)), (1, .int x1), (2, .int x2), (3, .int x3), (4, .int x4)] → W p l e (rmm 1 22) s m args below meth c H locs 0 0 (QI below args s G O) (F0 m 0 ls []) := by
  unfold f_X6_changeSite at h
  intro H locs ls hP hS hl
  have q_k_0 : shp[k]? = some (.inl (6, fs6)) := hA 0 _ rfl
  have q_k_1 : shp[k + 1]? = some (.inl (0, fs0)) := hA 1 _ rfl
  have q_k_8 : shp[k + 8]? = some (.inl (3, fs3)) := hA 8 _ rfl
  refine lv_aload_n C.x C.b dX6_changeSite_0 rfl (lv_at hl 0 rfl) ?_
  refine g_ref (k' := k + 1) F_6_0 u1_236 C hP q_k_0 rfl dX6_changeSite_1 ?_
  refine lv_iload_n C.x C.b dX6_changeSite_4 rfl (lv_at hl 1 rfl) ?_
  refine lv_iload_n C.x C.b dX6_changeSite_5 rfl (lv_at hl 3 rfl) ?_
  obtain ⟨r2, e1, h⟩ := bnv_some h
  refine k_vr (k := k + 1) (as := [.int x1, .int x3]) (rest := []) (c_X0_row C.i (hA.sub (M := sGround) 1 (by decide +kernel)) e1) M_X0_row u2_112 C hP hS q_k_1 rfl rfl (by decide) hl.1 rfl (Nat.le_of_ble_eq_true rfl) dX6_changeSite_6 (fun H locs hP hS => ?_)
  have ht3 : shp[r2]? = some (.inr (0, 5)) := row_at (hA.sub (M := sGround) 1 (by decide +kernel)) e1
  refine lv_astore (lv' := [(5, .ref (G.2.2 r2)), (0, .ref (G.2.2 k)), (1, .int x1), (2, .int x2), (3, .int x3), (4, .int x4)]) C.x C.b dX6_changeSite_9 hl (by decide) rfl (fun ls hl => ?_)
  refine lv_aload C.x C.b dX6_changeSite_11 (lv_at hl 0 rfl) ?_
  refine lv_iload_n C.x C.b dX6_changeSite_13 rfl (lv_at hl 3 rfl) ?_
  obtain ⟨g4, h⟩ := grd_some h
  refine a_i C hP ht3 g4 dX6_changeSite_14 ?_
  refine lv_topi (fun y5 e_y5 => ?_)
  have h := lt_at h e_y5
  refine lv_istore (lv' := [(6, .int y5), (5, .ref (G.2.2 r2)), (0, .ref (G.2.2 k)), (1, .int x1), (2, .int x2), (3, .int x3), (4, .int x4)]) C.x C.b dX6_changeSite_15 hl (by decide) rfl (fun ls hl => ?_)
  refine lv_aload C.x C.b dX6_changeSite_17 (lv_at hl 1 rfl) ?_
  refine lv_iload_n C.x C.b dX6_changeSite_19 rfl (lv_at hl 4 rfl) ?_
  refine lv_iload C.x C.b dX6_changeSite_20 (lv_at hl 6 rfl) ?_
  obtain ⟨g6, h⟩ := grd_some h
  refine as_i C hP hS ht3 g6 dX6_changeSite_22 (fun H locs hP hS => ?_)
  obtain ⟨μ7, m_μ7, h⟩ := lt_ex h
  have hP : Wm G μ7 H := by rw [m_μ7]; exact hP
  refine lv_aload_n C.x C.b dX6_changeSite_23 rfl (lv_at hl 2 rfl) ?_
  refine g_ref (k' := k + 8) F_6_1 u1_238 C hP q_k_0 rfl dX6_changeSite_24 ?_
  refine lv_iconst (v := 0) C.x C.b dX6_changeSite_27 (by decide) ?_
  refine p_boo F_3_0 P_3_0 u1_149 (by decide) C hP hS q_k_8 dX6_changeSite_28 (fun H locs hP hS => ?_)
  obtain ⟨μ8, m_μ8, h⟩ := lt_ex h
  have hP : Wm G μ8 H := by rw [m_μ8]; exact hP
  refine lv_iload C.x C.b dX6_changeSite_31 (lv_at hl 0 rfl) ?_
  exact r_i h C hP hS dX6_changeSite_33

set_option maxRecDepth 100000 in
set_option maxHeartbeats 4000000 in
theorem c_X6_changeSite {l : Launch} {G : Gp} (hI : Wi G) {k : Nat} {x1 : Int32} {x2 : Int32} {x3 : Int32} {x4 : Int32} (hA : At sState k) {μ : Mem} {r : Int32} {μ' : Mem} (h : f_X6_changeSite k x1 x2 x3 x4 μ = some (r, μ')) : CI l yX6_changeSite cX6_changeSite 7 (some .int) 1 22 G [.ref (G.2.2 k), .int x1, .int x2, .int x3, .int x4] μ r μ' :=
  e_all (lv := [(0, .ref (G.2.2 k)), (1, .int x1), (2, .int x2), (3, .int x3), (4, .int x4)]) hI (by decide) (Nat.le_of_ble_eq_true rfl) rfl (fun p e s m args below meth c ls C hP hS hl => b_X6_changeSite C hA h _ _ _ hP hS hl)


def f_X6_changeRoad (k : Nat) (x1 : Int32) (x2 : Int32) (x3 : Int32) (x4 : Int32) (μ : Mem) : Option (Int32 × Mem) := bnv (f_X0_isRoad (k + 1) x1 x2 μ) (fun r2 => if r2 = 0 then (some ((-1), μ)) else (bnv (f_X8_roadAt x1 x2 μ) (fun r5 => grd (inb r5 25) (grd (inb r5 25) (lt ((100 * (μ.1 (k + 6) r5.toNatClampNeg)) + (μ.1 (k + 7) r5.toNatClampNeg)) (fun y8 => grd (inb r5 25) (lt (st μ (k + 6) r5.toNatClampNeg x3) (fun μ10 => grd (inb r5 25) (lt (st μ10 (k + 7) r5.toNatClampNeg x4) (fun μ12 => lt (st μ12 (k + 8) 0 0) (fun μ13 => some (y8, μ13))))))))))))
set_option maxRecDepth 100000 in
set_option maxHeartbeats 4000000 in
theorem b_X6_changeRoad {p : Program} {l : Launch} {e : Env} {s : State} {m : MethodId} {args : Array Value} {below : List Frame} {meth : Method} {c : Code} {G : Gp} {O : (Int32 × Mem)} (C : Cx p s m args meth c cX6_changeRoad 7 RX6 (some .int) G) {k : Nat} {x1 : Int32} {x2 : Int32} {x3 : Int32} {x4 : Int32} (hA : At sState k) {μ : Mem} (h : f_X6_changeRoad k x1 x2 x3 x4 μ = some O) : ∀ (H : Heap) (locs : List Loc) (ls : Array Slot), Wm G μ H → va_S (wA G) s.heap H locs → lv_has ls 7 [(0, .ref (G.2.2 k)), (1, .int x1), (2, .int x2), (3, .int x3), (4, .int x4)] → W p l e (rmm 1 22) s m args below meth c H locs 0 0 (QI below args s G O) (F0 m 0 ls []) := by
  unfold f_X6_changeRoad at h
  intro H locs ls hP hS hl
  have q_k_0 : shp[k]? = some (.inl (6, fs6)) := hA 0 _ rfl
  have q_k_1 : shp[k + 1]? = some (.inl (0, fs0)) := hA 1 _ rfl
  have q_k_6 : shp[k + 6]? = some (.inr (0, 25)) := hA 6 _ rfl
  have q_k_7 : shp[k + 7]? = some (.inr (0, 25)) := hA 7 _ rfl
  have q_k_8 : shp[k + 8]? = some (.inl (3, fs3)) := hA 8 _ rfl
  refine lv_aload_n C.x C.b dX6_changeRoad_0 rfl (lv_at hl 0 rfl) ?_
  refine g_ref (k' := k + 1) F_6_0 u1_236 C hP q_k_0 rfl dX6_changeRoad_1 ?_
  refine lv_iload_n C.x C.b dX6_changeRoad_4 rfl (lv_at hl 1 rfl) ?_
  refine lv_iload_n C.x C.b dX6_changeRoad_5 rfl (lv_at hl 2 rfl) ?_
  obtain ⟨r2, e1, h⟩ := bnv_some h
  refine k_vi (k := k + 1) (as := [.int x1, .int x2]) (rest := []) (c_X0_isRoad C.i (hA.sub (M := sGround) 1 (by decide +kernel)) e1) M_X0_isRoad u2_144 C hP hS q_k_1 rfl rfl (by decide) hl.1 rfl (Nat.le_of_ble_eq_true rfl) dX6_changeRoad_6 (fun H locs hP hS => ?_)
  refine lv_if_ne (tgt := 14) C.x C.b dX6_changeRoad_9 (by decide) (fun c3 => ?_) (fun c3 => ?_)
  · have h := (if_neg c3).symm.trans h
    refine lv_iload_n C.x C.b dX6_changeRoad_14 rfl (lv_at hl 1 rfl) ?_
    refine lv_iload_n C.x C.b dX6_changeRoad_15 rfl (lv_at hl 2 rfl) ?_
    obtain ⟨r5, e4, h⟩ := bnv_some h
    refine k_ni (as := [.int x1, .int x2]) (rest := []) (c_X8_roadAt C.i e4) M_X8_roadAt n_RX6_69 C hP hS rfl (by decide) hl.1 rfl (Nat.le_of_ble_eq_true rfl) dX6_changeRoad_16 (fun H locs hP hS => ?_)
    refine lv_istore (lv' := [(5, .int r5), (0, .ref (G.2.2 k)), (1, .int x1), (2, .int x2), (3, .int x3), (4, .int x4)]) C.x C.b dX6_changeRoad_19 hl (by decide) rfl (fun ls hl => ?_)
    refine lv_bipush (v := 100) C.x C.b dX6_changeRoad_21 (by decide) ?_
    refine lv_aload_n C.x C.b dX6_changeRoad_23 rfl (lv_at hl 1 rfl) ?_
    refine g_ref (k' := k + 1) F_6_0 u1_236 C hP q_k_0 rfl dX6_changeRoad_24 ?_
    refine g_ref (k' := k + 6) F_0_6 u1_55 C hP q_k_1 rfl dX6_changeRoad_27 ?_
    refine lv_iload C.x C.b dX6_changeRoad_30 (lv_at hl 0 rfl) ?_
    obtain ⟨g6, h⟩ := grd_some h
    refine a_i C hP q_k_6 g6 dX6_changeRoad_32 ?_
    refine lv_imul C.x C.b dX6_changeRoad_33 ?_
    refine lv_aload_n C.x C.b dX6_changeRoad_34 rfl (lv_at hl 1 rfl) ?_
    refine g_ref (k' := k + 1) F_6_0 u1_236 C hP q_k_0 rfl dX6_changeRoad_35 ?_
    refine g_ref (k' := k + 7) F_0_7 u1_58 C hP q_k_1 rfl dX6_changeRoad_38 ?_
    refine lv_iload C.x C.b dX6_changeRoad_41 (lv_at hl 0 rfl) ?_
    obtain ⟨g7, h⟩ := grd_some h
    refine a_i C hP q_k_7 g7 dX6_changeRoad_43 ?_
    refine lv_iadd C.x C.b dX6_changeRoad_44 ?_
    refine lv_topi (fun y8 e_y8 => ?_)
    have h := lt_at h e_y8
    refine lv_istore (lv' := [(6, .int y8), (5, .int r5), (0, .ref (G.2.2 k)), (1, .int x1), (2, .int x2), (3, .int x3), (4, .int x4)]) C.x C.b dX6_changeRoad_45 hl (by decide) rfl (fun ls hl => ?_)
    refine lv_aload_n C.x C.b dX6_changeRoad_47 rfl (lv_at hl 2 rfl) ?_
    refine g_ref (k' := k + 1) F_6_0 u1_236 C hP q_k_0 rfl dX6_changeRoad_48 ?_
    refine g_ref (k' := k + 6) F_0_6 u1_55 C hP q_k_1 rfl dX6_changeRoad_51 ?_
    refine lv_iload C.x C.b dX6_changeRoad_54 (lv_at hl 1 rfl) ?_
    refine lv_iload_n C.x C.b dX6_changeRoad_56 rfl (lv_at hl 5 rfl) ?_
    obtain ⟨g9, h⟩ := grd_some h
    refine as_i C hP hS q_k_6 g9 dX6_changeRoad_57 (fun H locs hP hS => ?_)
    obtain ⟨μ10, m_μ10, h⟩ := lt_ex h
    have hP : Wm G μ10 H := by rw [m_μ10]; exact hP
    refine lv_aload_n C.x C.b dX6_changeRoad_58 rfl (lv_at hl 2 rfl) ?_
    refine g_ref (k' := k + 1) F_6_0 u1_236 C hP q_k_0 rfl dX6_changeRoad_59 ?_
    refine g_ref (k' := k + 7) F_0_7 u1_58 C hP q_k_1 rfl dX6_changeRoad_62 ?_
    refine lv_iload C.x C.b dX6_changeRoad_65 (lv_at hl 1 rfl) ?_
    refine lv_iload C.x C.b dX6_changeRoad_67 (lv_at hl 6 rfl) ?_
    obtain ⟨g11, h⟩ := grd_some h
    refine as_i C hP hS q_k_7 g11 dX6_changeRoad_69 (fun H locs hP hS => ?_)
    obtain ⟨μ12, m_μ12, h⟩ := lt_ex h
    have hP : Wm G μ12 H := by rw [m_μ12]; exact hP
    refine lv_aload_n C.x C.b dX6_changeRoad_70 rfl (lv_at hl 2 rfl) ?_
    refine g_ref (k' := k + 8) F_6_1 u1_238 C hP q_k_0 rfl dX6_changeRoad_71 ?_
    refine lv_iconst (v := 0) C.x C.b dX6_changeRoad_74 (by decide) ?_
    refine p_boo F_3_0 P_3_0 u1_149 (by decide) C hP hS q_k_8 dX6_changeRoad_75 (fun H locs hP hS => ?_)
    obtain ⟨μ13, m_μ13, h⟩ := lt_ex h
    have hP : Wm G μ13 H := by rw [m_μ13]; exact hP
    refine lv_iload C.x C.b dX6_changeRoad_78 (lv_at hl 0 rfl) ?_
    exact r_i h C hP hS dX6_changeRoad_80
  · have h := (if_pos c3).symm.trans h
    refine lv_iconst (v := (-1)) C.x C.b dX6_changeRoad_12 (by decide) ?_
    exact r_i h C hP hS dX6_changeRoad_13

set_option maxRecDepth 100000 in
set_option maxHeartbeats 4000000 in
theorem c_X6_changeRoad {l : Launch} {G : Gp} (hI : Wi G) {k : Nat} {x1 : Int32} {x2 : Int32} {x3 : Int32} {x4 : Int32} (hA : At sState k) {μ : Mem} {r : Int32} {μ' : Mem} (h : f_X6_changeRoad k x1 x2 x3 x4 μ = some (r, μ')) : CI l yX6_changeRoad cX6_changeRoad 7 (some .int) 1 22 G [.ref (G.2.2 k), .int x1, .int x2, .int x3, .int x4] μ r μ' :=
  e_all (lv := [(0, .ref (G.2.2 k)), (1, .int x1), (2, .int x2), (3, .int x3), (4, .int x4)]) hI (by decide) (Nat.le_of_ble_eq_true rfl) rfl (fun p e s m args below meth c ls C hP hS hl => b_X6_changeRoad C hA h _ _ _ hP hS hl)


def f_X5_add (x1 : Int32) (μ : Mem) : Option (Int32 × Mem) := if (μ.1 88 0) < 100 then (grd (inb (μ.1 88 0) 100) (lt (st μ 89 (μ.1 88 0).toNatClampNeg (vp_nar .char (n_c x1))) (fun μ3 => lt (st μ3 88 0 ((μ3.1 88 0) + 1)) (fun μ4 => some (μ4.1 88 0, μ4))))) else (some ((-4), μ))
set_option maxRecDepth 100000 in
set_option maxHeartbeats 4000000 in
theorem b_X5_add {p : Program} {l : Launch} {e : Env} {s : State} {m : MethodId} {args : Array Value} {below : List Frame} {meth : Method} {c : Code} {G : Gp} {O : (Int32 × Mem)} (C : Cx p s m args meth c cX5_add 2 RX5 (some .int) G) {x1 : Int32} {μ : Mem} (h : f_X5_add x1 μ = some O) : ∀ (H : Heap) (locs : List Loc) (ls : Array Slot), Wm G μ H → va_S (wA G) s.heap H locs → lv_has ls 2 [(0, .ref (G.2.2 88)), (1, .int x1)] → W p l e (rmm 0 0) s m args below meth c H locs 0 0 (QI below args s G O) (F0 m 0 ls []) := by
  unfold f_X5_add at h
  intro H locs ls hP hS hl
  refine lv_aload_n C.x C.b dX5_add_0 rfl (lv_at hl 0 rfl) ?_
  refine g_int F_5_0 u2_23 C hP sh_88 dX5_add_1 ?_
  refine lv_bipush (v := 100) C.x C.b dX5_add_4 (by decide) ?_
  refine lv_icmp_lt (tgt := 12) C.x C.b dX5_add_6 (by decide) (fun c1 => ?_) (fun c1 => ?_)
  · have h := (if_pos c1).symm.trans h
    refine lv_aload_n C.x C.b dX5_add_12 rfl (lv_at hl 0 rfl) ?_
    refine g_ref (k' := 89) F_5_2 u2_27 C hP sh_88 rfl dX5_add_13 ?_
    refine lv_aload_n C.x C.b dX5_add_16 rfl (lv_at hl 0 rfl) ?_
    refine g_int F_5_0 u2_23 C hP sh_88 dX5_add_17 ?_
    refine lv_iload_n C.x C.b dX5_add_20 rfl (lv_at hl 1 rfl) ?_
    refine lv_i2c (v := n_c x1) C.x C.b dX5_add_21 rfl ?_
    obtain ⟨g2, h⟩ := grd_some h
    refine as_c C hP hS sh_89 g2 dX5_add_22 (fun H locs hP hS => ?_)
    obtain ⟨μ3, m_μ3, h⟩ := lt_ex h
    have hP : Wm G μ3 H := by rw [m_μ3]; exact hP
    refine lv_aload_n C.x C.b dX5_add_23 rfl (lv_at hl 0 rfl) ?_
    refine lv_dup C.x C.b dX5_add_24 rfl ?_
    refine g_int F_5_0 u2_23 C hP sh_88 dX5_add_25 ?_
    refine lv_iconst (v := 1) C.x C.b dX5_add_28 (by decide) ?_
    refine lv_iadd C.x C.b dX5_add_29 ?_
    refine p_int F_5_0 P_5_0 u2_23 C hP hS sh_88 dX5_add_30 (fun H locs hP hS => ?_)
    obtain ⟨μ4, m_μ4, h⟩ := lt_ex h
    have hP : Wm G μ4 H := by rw [m_μ4]; exact hP
    refine lv_aload_n C.x C.b dX5_add_33 rfl (lv_at hl 0 rfl) ?_
    refine g_int F_5_0 u2_23 C hP sh_88 dX5_add_34 ?_
    exact r_i h C hP hS dX5_add_37
  · have h := (if_neg c1).symm.trans h
    refine lv_bipush (v := (-4)) C.x C.b dX5_add_9 (by decide) ?_
    exact r_i h C hP hS dX5_add_11

set_option maxRecDepth 100000 in
set_option maxHeartbeats 4000000 in
theorem c_X5_add {l : Launch} {G : Gp} (hI : Wi G) {x1 : Int32} {μ : Mem} {r : Int32} {μ' : Mem} (h : f_X5_add x1 μ = some (r, μ')) : CI l yX5_add cX5_add 2 (some .int) 0 0 G [.ref (G.2.2 88), .int x1] μ r μ' :=
  e_all (lv := [(0, .ref (G.2.2 88)), (1, .int x1)]) hI (by decide) (Nat.le_of_ble_eq_true rfl) rfl (fun p e s m args below meth c ls C hP hS hl => b_X5_add C h _ _ _ hP hS hl)


def f_X5_take (x1 : Int32) (μ : Mem) : Option (Int32 × Mem) := if (μ.1 88 0) ≤ (μ.1 88 3) then (some (0, μ)) else (grd (inb (μ.1 88 3) 100) (if (μ.1 89 (μ.1 88 3).toNatClampNeg) = x1 then (lt (st μ 88 3 ((μ.1 88 3) + 1)) (fun μ4 => some (1, μ4))) else (some (0, μ))))
set_option maxRecDepth 100000 in
set_option maxHeartbeats 4000000 in
theorem b_X5_take {p : Program} {l : Launch} {e : Env} {s : State} {m : MethodId} {args : Array Value} {below : List Frame} {meth : Method} {c : Code} {G : Gp} {O : (Int32 × Mem)} (C : Cx p s m args meth c cX5_take 2 RX5 (some .boolean) G) {x1 : Int32} {μ : Mem} (h : f_X5_take x1 μ = some O) : ∀ (H : Heap) (locs : List Loc) (ls : Array Slot), Wm G μ H → va_S (wA G) s.heap H locs → lv_has ls 2 [(0, .ref (G.2.2 88)), (1, .int x1)] → W p l e (rmm 0 0) s m args below meth c H locs 0 0 (QI below args s G O) (F0 m 0 ls []) := by
  unfold f_X5_take at h
  intro H locs ls hP hS hl
  refine lv_aload_n C.x C.b dX5_take_0 rfl (lv_at hl 0 rfl) ?_
  refine g_int F_5_3 u2_28 C hP sh_88 dX5_take_1 ?_
  refine lv_aload_n C.x C.b dX5_take_4 rfl (lv_at hl 0 rfl) ?_
  refine g_int F_5_0 u2_23 C hP sh_88 dX5_take_5 ?_
  refine lv_icmp_ge (tgt := 24) C.x C.b dX5_take_8 (by decide) (fun c1 => ?_) (fun c1 => ?_)
  · have h := (if_pos c1).symm.trans h
    refine lv_iconst (v := 0) C.x C.b dX5_take_24 (by decide) ?_
    exact r_z h (by decide) C hP hS dX5_take_25
  · have h := (if_neg c1).symm.trans h
    refine lv_aload_n C.x C.b dX5_take_11 rfl (lv_at hl 0 rfl) ?_
    refine g_ref (k' := 89) F_5_2 u2_27 C hP sh_88 rfl dX5_take_12 ?_
    refine lv_aload_n C.x C.b dX5_take_15 rfl (lv_at hl 0 rfl) ?_
    refine g_int F_5_3 u2_28 C hP sh_88 dX5_take_16 ?_
    obtain ⟨g2, h⟩ := grd_some h
    refine a_c C hP sh_89 g2 dX5_take_19 ?_
    refine lv_iload_n C.x C.b dX5_take_20 rfl (lv_at hl 1 rfl) ?_
    refine lv_icmp_eq (tgt := 26) C.x C.b dX5_take_21 (by decide) (fun c3 => ?_) (fun c3 => ?_)
    · have h := (if_pos c3).symm.trans h
      refine lv_aload_n C.x C.b dX5_take_26 rfl (lv_at hl 0 rfl) ?_
      refine lv_dup C.x C.b dX5_take_27 rfl ?_
      refine g_int F_5_3 u2_28 C hP sh_88 dX5_take_28 ?_
      refine lv_iconst (v := 1) C.x C.b dX5_take_31 (by decide) ?_
      refine lv_iadd C.x C.b dX5_take_32 ?_
      refine p_int F_5_3 P_5_3 u2_28 C hP hS sh_88 dX5_take_33 (fun H locs hP hS => ?_)
      obtain ⟨μ4, m_μ4, h⟩ := lt_ex h
      have hP : Wm G μ4 H := by rw [m_μ4]; exact hP
      refine lv_iconst (v := 1) C.x C.b dX5_take_36 (by decide) ?_
      exact r_z h (by decide) C hP hS dX5_take_37
    · have h := (if_neg c3).symm.trans h
      refine lv_iconst (v := 0) C.x C.b dX5_take_24 (by decide) ?_
      exact r_z h (by decide) C hP hS dX5_take_25

set_option maxRecDepth 100000 in
set_option maxHeartbeats 4000000 in
theorem c_X5_take {l : Launch} {G : Gp} (hI : Wi G) {x1 : Int32} {μ : Mem} {r : Int32} {μ' : Mem} (h : f_X5_take x1 μ = some (r, μ')) : CI l yX5_take cX5_take 2 (some .boolean) 0 0 G [.ref (G.2.2 88), .int x1] μ r μ' :=
  e_all (lv := [(0, .ref (G.2.2 88)), (1, .int x1)]) hI (by decide) (Nat.le_of_ble_eq_true rfl) rfl (fun p e s m args below meth c ls C hP hS hl => b_X5_take C h _ _ _ hP hS hl)


def f_X5_takeDigit  (μ : Mem) : Option (Int32 × Mem) := if (μ.1 88 0) ≤ (μ.1 88 3) then (some ((-1), μ)) else (grd (inb (μ.1 88 3) 100) (if (μ.1 89 (μ.1 88 3).toNatClampNeg) < 48 then (some ((-1), μ)) else (grd (inb (μ.1 88 3) 100) (if (μ.1 89 (μ.1 88 3).toNatClampNeg) ≤ 57 then (grd (inb (μ.1 88 3) 100) (lt ((μ.1 89 (μ.1 88 3).toNatClampNeg) - 48) (fun y7 => lt (st μ 88 3 ((μ.1 88 3) + 1)) (fun μ8 => some (y7, μ8))))) else (some ((-1), μ))))))
set_option maxRecDepth 100000 in
set_option maxHeartbeats 4000000 in
theorem b_X5_takeDigit {p : Program} {l : Launch} {e : Env} {s : State} {m : MethodId} {args : Array Value} {below : List Frame} {meth : Method} {c : Code} {G : Gp} {O : (Int32 × Mem)} (C : Cx p s m args meth c cX5_takeDigit 2 RX5 (some .int) G) {μ : Mem} (h : f_X5_takeDigit μ = some O) : ∀ (H : Heap) (locs : List Loc) (ls : Array Slot), Wm G μ H → va_S (wA G) s.heap H locs → lv_has ls 2 [(0, .ref (G.2.2 88))] → W p l e (rmm 0 0) s m args below meth c H locs 0 0 (QI below args s G O) (F0 m 0 ls []) := by
  unfold f_X5_takeDigit at h
  intro H locs ls hP hS hl
  refine lv_aload_n C.x C.b dX5_takeDigit_0 rfl (lv_at hl 0 rfl) ?_
  refine g_int F_5_3 u2_28 C hP sh_88 dX5_takeDigit_1 ?_
  refine lv_aload_n C.x C.b dX5_takeDigit_4 rfl (lv_at hl 0 rfl) ?_
  refine g_int F_5_0 u2_23 C hP sh_88 dX5_takeDigit_5 ?_
  refine lv_icmp_ge (tgt := 39) C.x C.b dX5_takeDigit_8 (by decide) (fun c1 => ?_) (fun c1 => ?_)
  · have h := (if_pos c1).symm.trans h
    refine lv_iconst (v := (-1)) C.x C.b dX5_takeDigit_39 (by decide) ?_
    exact r_i h C hP hS dX5_takeDigit_40
  · have h := (if_neg c1).symm.trans h
    refine lv_aload_n C.x C.b dX5_takeDigit_11 rfl (lv_at hl 0 rfl) ?_
    refine g_ref (k' := 89) F_5_2 u2_27 C hP sh_88 rfl dX5_takeDigit_12 ?_
    refine lv_aload_n C.x C.b dX5_takeDigit_15 rfl (lv_at hl 0 rfl) ?_
    refine g_int F_5_3 u2_28 C hP sh_88 dX5_takeDigit_16 ?_
    obtain ⟨g2, h⟩ := grd_some h
    refine a_c C hP sh_89 g2 dX5_takeDigit_19 ?_
    refine lv_bipush (v := 48) C.x C.b dX5_takeDigit_20 (by decide) ?_
    refine lv_icmp_lt (tgt := 39) C.x C.b dX5_takeDigit_22 (by decide) (fun c3 => ?_) (fun c3 => ?_)
    · have h := (if_pos c3).symm.trans h
      refine lv_iconst (v := (-1)) C.x C.b dX5_takeDigit_39 (by decide) ?_
      exact r_i h C hP hS dX5_takeDigit_40
    · have h := (if_neg c3).symm.trans h
      refine lv_aload_n C.x C.b dX5_takeDigit_25 rfl (lv_at hl 0 rfl) ?_
      refine g_ref (k' := 89) F_5_2 u2_27 C hP sh_88 rfl dX5_takeDigit_26 ?_
      refine lv_aload_n C.x C.b dX5_takeDigit_29 rfl (lv_at hl 0 rfl) ?_
      refine g_int F_5_3 u2_28 C hP sh_88 dX5_takeDigit_30 ?_
      obtain ⟨g4, h⟩ := grd_some h
      refine a_c C hP sh_89 g4 dX5_takeDigit_33 ?_
      refine lv_bipush (v := 57) C.x C.b dX5_takeDigit_34 (by decide) ?_
      refine lv_icmp_le (tgt := 41) C.x C.b dX5_takeDigit_36 (by decide) (fun c5 => ?_) (fun c5 => ?_)
      · have h := (if_pos c5).symm.trans h
        refine lv_aload_n C.x C.b dX5_takeDigit_41 rfl (lv_at hl 0 rfl) ?_
        refine g_ref (k' := 89) F_5_2 u2_27 C hP sh_88 rfl dX5_takeDigit_42 ?_
        refine lv_aload_n C.x C.b dX5_takeDigit_45 rfl (lv_at hl 0 rfl) ?_
        refine g_int F_5_3 u2_28 C hP sh_88 dX5_takeDigit_46 ?_
        obtain ⟨g6, h⟩ := grd_some h
        refine a_c C hP sh_89 g6 dX5_takeDigit_49 ?_
        refine lv_bipush (v := 48) C.x C.b dX5_takeDigit_50 (by decide) ?_
        refine lv_isub C.x C.b dX5_takeDigit_52 ?_
        refine lv_topi (fun y7 e_y7 => ?_)
        have h := lt_at h e_y7
        refine lv_istore_n (lv' := [(1, .int y7), (0, .ref (G.2.2 88))]) C.x C.b dX5_takeDigit_53 rfl hl (by decide) rfl (fun ls hl => ?_)
        refine lv_aload_n C.x C.b dX5_takeDigit_54 rfl (lv_at hl 1 rfl) ?_
        refine lv_dup C.x C.b dX5_takeDigit_55 rfl ?_
        refine g_int F_5_3 u2_28 C hP sh_88 dX5_takeDigit_56 ?_
        refine lv_iconst (v := 1) C.x C.b dX5_takeDigit_59 (by decide) ?_
        refine lv_iadd C.x C.b dX5_takeDigit_60 ?_
        refine p_int F_5_3 P_5_3 u2_28 C hP hS sh_88 dX5_takeDigit_61 (fun H locs hP hS => ?_)
        obtain ⟨μ8, m_μ8, h⟩ := lt_ex h
        have hP : Wm G μ8 H := by rw [m_μ8]; exact hP
        refine lv_iload_n C.x C.b dX5_takeDigit_64 rfl (lv_at hl 0 rfl) ?_
        exact r_i h C hP hS dX5_takeDigit_65
      · have h := (if_neg c5).symm.trans h
        refine lv_iconst (v := (-1)) C.x C.b dX5_takeDigit_39 (by decide) ?_
        exact r_i h C hP hS dX5_takeDigit_40

set_option maxRecDepth 100000 in
set_option maxHeartbeats 4000000 in
theorem c_X5_takeDigit {l : Launch} {G : Gp} (hI : Wi G) {μ : Mem} {r : Int32} {μ' : Mem} (h : f_X5_takeDigit μ = some (r, μ')) : CI l yX5_takeDigit cX5_takeDigit 2 (some .int) 0 0 G [.ref (G.2.2 88)] μ r μ' :=
  e_all (lv := [(0, .ref (G.2.2 88))]) hI (by decide) (Nat.le_of_ble_eq_true rfl) rfl (fun p e s m args below meth c ls C hP hS hl => b_X5_takeDigit C h _ _ _ hP hS hl)


def f_X5_takeKind  (μ : Mem) : Option (Int32 × Mem) := bnd (f_X5_take 112 μ) (fun r2 μ3 => if r2 = 0 then (bnd (f_X5_take 116 μ3) (fun r6 μ7 => if r6 = 0 then (bnd (f_X5_take 115 μ7) (fun r10 μ11 => if r10 = 0 then (bnd (f_X5_take 120 μ11) (fun r14 μ15 => if r14 = 0 then (some ((-1), μ15)) else (some (3, μ15)))) else (some (2, μ11)))) else (some (1, μ7)))) else (some (0, μ3)))
set_option maxRecDepth 100000 in
set_option maxHeartbeats 4000000 in
theorem b_X5_takeKind {p : Program} {l : Launch} {e : Env} {s : State} {m : MethodId} {args : Array Value} {below : List Frame} {meth : Method} {c : Code} {G : Gp} {O : (Int32 × Mem)} (C : Cx p s m args meth c cX5_takeKind 1 RX5 (some .int) G) {μ : Mem} (h : f_X5_takeKind μ = some O) : ∀ (H : Heap) (locs : List Loc) (ls : Array Slot), Wm G μ H → va_S (wA G) s.heap H locs → lv_has ls 1 [(0, .ref (G.2.2 88))] → W p l e (rmm 1 21) s m args below meth c H locs 0 0 (QI below args s G O) (F0 m 0 ls []) := by
  unfold f_X5_takeKind at h
  intro H locs ls hP hS hl
  refine lv_aload_n C.x C.b dX5_takeKind_0 rfl (lv_at hl 0 rfl) ?_
  refine lv_bipush (v := 112) C.x C.b dX5_takeKind_1 (by decide) ?_
  obtain ⟨r2, μ3, e1, h⟩ := bnd_some h
  refine k_vi (k := 88) (as := [.int 112]) (rest := []) (c_X5_take C.i e1) M_X5_take u2_184 C hP hS sh_88 rfl rfl (by decide) hl.1 rfl (Nat.le_of_ble_eq_true rfl) dX5_takeKind_3 (fun H locs hP hS => ?_)
  refine lv_if_eq (tgt := 11) C.x C.b dX5_takeKind_6 (by decide) (fun c4 => ?_) (fun c4 => ?_)
  · have h := (if_pos c4).symm.trans h
    refine lv_aload_n C.x C.b dX5_takeKind_11 rfl (lv_at hl 0 rfl) ?_
    refine lv_bipush (v := 116) C.x C.b dX5_takeKind_12 (by decide) ?_
    obtain ⟨r6, μ7, e5, h⟩ := bnd_some h
    refine k_vi (k := 88) (as := [.int 116]) (rest := []) (c_X5_take C.i e5) M_X5_take u2_184 C hP hS sh_88 rfl rfl (by decide) hl.1 rfl (Nat.le_of_ble_eq_true rfl) dX5_takeKind_14 (fun H locs hP hS => ?_)
    refine lv_if_eq (tgt := 22) C.x C.b dX5_takeKind_17 (by decide) (fun c8 => ?_) (fun c8 => ?_)
    · have h := (if_pos c8).symm.trans h
      refine lv_aload_n C.x C.b dX5_takeKind_22 rfl (lv_at hl 0 rfl) ?_
      refine lv_bipush (v := 115) C.x C.b dX5_takeKind_23 (by decide) ?_
      obtain ⟨r10, μ11, e9, h⟩ := bnd_some h
      refine k_vi (k := 88) (as := [.int 115]) (rest := []) (c_X5_take C.i e9) M_X5_take u2_184 C hP hS sh_88 rfl rfl (by decide) hl.1 rfl (Nat.le_of_ble_eq_true rfl) dX5_takeKind_25 (fun H locs hP hS => ?_)
      refine lv_if_eq (tgt := 33) C.x C.b dX5_takeKind_28 (by decide) (fun c12 => ?_) (fun c12 => ?_)
      · have h := (if_pos c12).symm.trans h
        refine lv_aload_n C.x C.b dX5_takeKind_33 rfl (lv_at hl 0 rfl) ?_
        refine lv_bipush (v := 120) C.x C.b dX5_takeKind_34 (by decide) ?_
        obtain ⟨r14, μ15, e13, h⟩ := bnd_some h
        refine k_vi (k := 88) (as := [.int 120]) (rest := []) (c_X5_take C.i e13) M_X5_take u2_184 C hP hS sh_88 rfl rfl (by decide) hl.1 rfl (Nat.le_of_ble_eq_true rfl) dX5_takeKind_36 (fun H locs hP hS => ?_)
        refine lv_if_eq (tgt := 46) C.x C.b dX5_takeKind_39 (by decide) (fun c16 => ?_) (fun c16 => ?_)
        · have h := (if_pos c16).symm.trans h
          refine lv_iconst (v := (-1)) C.x C.b dX5_takeKind_46 (by decide) ?_
          exact r_i h C hP hS dX5_takeKind_47
        · have h := (if_neg c16).symm.trans h
          refine lv_iconst (v := 3) C.x C.b dX5_takeKind_42 (by decide) ?_
          refine lv_goto (tgt := 47) C.x C.b dX5_takeKind_43 (by decide) ?_
          exact r_i h C hP hS dX5_takeKind_47
      · have h := (if_neg c12).symm.trans h
        refine lv_iconst (v := 2) C.x C.b dX5_takeKind_31 (by decide) ?_
        exact r_i h C hP hS dX5_takeKind_32
    · have h := (if_neg c8).symm.trans h
      refine lv_iconst (v := 1) C.x C.b dX5_takeKind_20 (by decide) ?_
      exact r_i h C hP hS dX5_takeKind_21
  · have h := (if_neg c4).symm.trans h
    refine lv_iconst (v := 0) C.x C.b dX5_takeKind_9 (by decide) ?_
    exact r_i h C hP hS dX5_takeKind_10

set_option maxRecDepth 100000 in
set_option maxHeartbeats 4000000 in
theorem c_X5_takeKind {l : Launch} {G : Gp} (hI : Wi G) {μ : Mem} {r : Int32} {μ' : Mem} (h : f_X5_takeKind μ = some (r, μ')) : CI l yX5_takeKind cX5_takeKind 1 (some .int) 1 21 G [.ref (G.2.2 88)] μ r μ' :=
  e_all (lv := [(0, .ref (G.2.2 88))]) hI (by decide) (Nat.le_of_ble_eq_true rfl) rfl (fun p e s m args below meth c ls C hP hS hl => b_X5_takeKind C h _ _ _ hP hS hl)


def f_X5_takeNumber  (μ : Mem) : Option (Int32 × Mem) := bnd (f_X5_takeDigit μ) (fun r2 μ3 => if 0 ≤ r2 then (bnd (f_X5_takeDigit μ3) (fun r6 μ7 => if 0 ≤ r6 then (some ((10 * r2) + r6, μ7)) else (some (r2, μ7)))) else (some ((-1), μ3)))
set_option maxRecDepth 100000 in
set_option maxHeartbeats 4000000 in
theorem b_X5_takeNumber {p : Program} {l : Launch} {e : Env} {s : State} {m : MethodId} {args : Array Value} {below : List Frame} {meth : Method} {c : Code} {G : Gp} {O : (Int32 × Mem)} (C : Cx p s m args meth c cX5_takeNumber 3 RX5 (some .int) G) {μ : Mem} (h : f_X5_takeNumber μ = some O) : ∀ (H : Heap) (locs : List Loc) (ls : Array Slot), Wm G μ H → va_S (wA G) s.heap H locs → lv_has ls 3 [(0, .ref (G.2.2 88))] → W p l e (rmm 1 21) s m args below meth c H locs 0 0 (QI below args s G O) (F0 m 0 ls []) := by
  unfold f_X5_takeNumber at h
  intro H locs ls hP hS hl
  refine lv_aload_n C.x C.b dX5_takeNumber_0 rfl (lv_at hl 0 rfl) ?_
  obtain ⟨r2, μ3, e1, h⟩ := bnd_some h
  refine k_vi (k := 88) (as := []) (rest := []) (c_X5_takeDigit C.i e1) M_X5_takeDigit u2_196 C hP hS sh_88 rfl rfl (by decide) hl.1 rfl (Nat.le_of_ble_eq_true rfl) dX5_takeNumber_1 (fun H locs hP hS => ?_)
  refine lv_istore_n (lv' := [(1, .int r2), (0, .ref (G.2.2 88))]) C.x C.b dX5_takeNumber_4 rfl hl (by decide) rfl (fun ls hl => ?_)
  refine lv_iload_n C.x C.b dX5_takeNumber_5 rfl (lv_at hl 0 rfl) ?_
  refine lv_if_ge (tgt := 11) C.x C.b dX5_takeNumber_6 (by decide) (fun c4 => ?_) (fun c4 => ?_)
  · have h := (if_pos c4).symm.trans h
    refine lv_aload_n C.x C.b dX5_takeNumber_11 rfl (lv_at hl 1 rfl) ?_
    obtain ⟨r6, μ7, e5, h⟩ := bnd_some h
    refine k_vi (k := 88) (as := []) (rest := []) (c_X5_takeDigit C.i e5) M_X5_takeDigit u2_196 C hP hS sh_88 rfl rfl (by decide) hl.1 rfl (Nat.le_of_ble_eq_true rfl) dX5_takeNumber_12 (fun H locs hP hS => ?_)
    refine lv_istore_n (lv' := [(2, .int r6), (1, .int r2), (0, .ref (G.2.2 88))]) C.x C.b dX5_takeNumber_15 rfl hl (by decide) rfl (fun ls hl => ?_)
    refine lv_iload_n C.x C.b dX5_takeNumber_16 rfl (lv_at hl 0 rfl) ?_
    refine lv_if_ge (tgt := 24) C.x C.b dX5_takeNumber_17 (by decide) (fun c8 => ?_) (fun c8 => ?_)
    · have h := (if_pos c8).symm.trans h
      refine lv_bipush (v := 10) C.x C.b dX5_takeNumber_24 (by decide) ?_
      refine lv_iload_n C.x C.b dX5_takeNumber_26 rfl (lv_at hl 1 rfl) ?_
      refine lv_imul C.x C.b dX5_takeNumber_27 ?_
      refine lv_iload_n C.x C.b dX5_takeNumber_28 rfl (lv_at hl 0 rfl) ?_
      refine lv_iadd C.x C.b dX5_takeNumber_29 ?_
      exact r_i h C hP hS dX5_takeNumber_30
    · have h := (if_neg c8).symm.trans h
      refine lv_iload_n C.x C.b dX5_takeNumber_20 rfl (lv_at hl 1 rfl) ?_
      refine lv_goto (tgt := 30) C.x C.b dX5_takeNumber_21 (by decide) ?_
      exact r_i h C hP hS dX5_takeNumber_30
  · have h := (if_neg c4).symm.trans h
    refine lv_iconst (v := (-1)) C.x C.b dX5_takeNumber_9 (by decide) ?_
    exact r_i h C hP hS dX5_takeNumber_10

set_option maxRecDepth 100000 in
set_option maxHeartbeats 4000000 in
theorem c_X5_takeNumber {l : Launch} {G : Gp} (hI : Wi G) {μ : Mem} {r : Int32} {μ' : Mem} (h : f_X5_takeNumber μ = some (r, μ')) : CI l yX5_takeNumber cX5_takeNumber 3 (some .int) 1 21 G [.ref (G.2.2 88)] μ r μ' :=
  e_all (lv := [(0, .ref (G.2.2 88))]) hI (by decide) (Nat.le_of_ble_eq_true rfl) rfl (fun p e s m args below meth c ls C hP hS hl => b_X5_takeNumber C h _ _ _ hP hS hl)


def f_X5_takeRoad (x1 : Int32) (μ : Mem) : Option (Int32 × Mem) := bnd (f_X5_takeDigit μ) (fun r2 μ3 => grd (inb x1 12) (lt (st μ3 91 x1.toNatClampNeg r2) (fun μ5 => grd (inb x1 12) (if 0 ≤ (μ5.1 91 x1.toNatClampNeg) then (bnd (f_X5_takeDigit μ5) (fun r9 μ10 => grd (inb x1 12) (lt (st μ10 92 x1.toNatClampNeg r9) (fun μ12 => grd (inb x1 12) (if 0 ≤ (μ12.1 92 x1.toNatClampNeg) then (bnd (f_X5_takeKind μ12) (fun r16 μ17 => grd (inb x1 12) (lt (st μ17 93 x1.toNatClampNeg r16) (fun μ19 => grd (inb x1 12) (if 0 ≤ (μ19.1 93 x1.toNatClampNeg) then (bnd (f_X5_takeNumber μ19) (fun r23 μ24 => grd (inb x1 12) (lt (st μ24 94 x1.toNatClampNeg r23) (fun μ26 => grd (inb x1 12) (if (μ26.1 94 x1.toNatClampNeg) < 0 then (some (0, μ26)) else (some (1, μ26))))))) else (some (0, μ19))))))) else (some (0, μ12))))))) else (some (0, μ5))))))
set_option maxRecDepth 100000 in
set_option maxHeartbeats 4000000 in
theorem b_X5_takeRoad {p : Program} {l : Launch} {e : Env} {s : State} {m : MethodId} {args : Array Value} {below : List Frame} {meth : Method} {c : Code} {G : Gp} {O : (Int32 × Mem)} (C : Cx p s m args meth c cX5_takeRoad 2 RX5 (some .boolean) G) {x1 : Int32} {μ : Mem} (h : f_X5_takeRoad x1 μ = some O) : ∀ (H : Heap) (locs : List Loc) (ls : Array Slot), Wm G μ H → va_S (wA G) s.heap H locs → lv_has ls 2 [(0, .ref (G.2.2 88)), (1, .int x1)] → W p l e (rmm 2 43) s m args below meth c H locs 0 0 (QI below args s G O) (F0 m 0 ls []) := by
  unfold f_X5_takeRoad at h
  intro H locs ls hP hS hl
  refine lv_aload_n C.x C.b dX5_takeRoad_0 rfl (lv_at hl 0 rfl) ?_
  refine g_ref (k' := 91) F_5_5 u2_30 C hP sh_88 rfl dX5_takeRoad_1 ?_
  refine lv_iload_n C.x C.b dX5_takeRoad_4 rfl (lv_at hl 1 rfl) ?_
  refine lv_aload_n C.x C.b dX5_takeRoad_5 rfl (lv_at hl 0 rfl) ?_
  obtain ⟨r2, μ3, e1, h⟩ := bnd_some h
  refine k_vi (k := 88) (as := []) (rest := [.int x1, .ref (G.2.2 91)]) (c_X5_takeDigit C.i e1) M_X5_takeDigit u2_196 C hP hS sh_88 rfl rfl (by decide) hl.1 rfl (Nat.le_of_ble_eq_true rfl) dX5_takeRoad_6 (fun H locs hP hS => ?_)
  obtain ⟨g4, h⟩ := grd_some h
  refine as_i C hP hS sh_91 g4 dX5_takeRoad_9 (fun H locs hP hS => ?_)
  obtain ⟨μ5, m_μ5, h⟩ := lt_ex h
  have hP : Wm G μ5 H := by rw [m_μ5]; exact hP
  refine lv_aload_n C.x C.b dX5_takeRoad_10 rfl (lv_at hl 0 rfl) ?_
  refine g_ref (k' := 91) F_5_5 u2_30 C hP sh_88 rfl dX5_takeRoad_11 ?_
  refine lv_iload_n C.x C.b dX5_takeRoad_14 rfl (lv_at hl 1 rfl) ?_
  obtain ⟨g6, h⟩ := grd_some h
  refine a_i C hP sh_91 g6 dX5_takeRoad_15 ?_
  refine lv_if_ge (tgt := 21) C.x C.b dX5_takeRoad_16 (by decide) (fun c7 => ?_) (fun c7 => ?_)
  · have h := (if_pos c7).symm.trans h
    refine lv_aload_n C.x C.b dX5_takeRoad_21 rfl (lv_at hl 0 rfl) ?_
    refine g_ref (k' := 92) F_5_6 u2_31 C hP sh_88 rfl dX5_takeRoad_22 ?_
    refine lv_iload_n C.x C.b dX5_takeRoad_25 rfl (lv_at hl 1 rfl) ?_
    refine lv_aload_n C.x C.b dX5_takeRoad_26 rfl (lv_at hl 0 rfl) ?_
    obtain ⟨r9, μ10, e8, h⟩ := bnd_some h
    refine k_vi (k := 88) (as := []) (rest := [.int x1, .ref (G.2.2 92)]) (c_X5_takeDigit C.i e8) M_X5_takeDigit u2_196 C hP hS sh_88 rfl rfl (by decide) hl.1 rfl (Nat.le_of_ble_eq_true rfl) dX5_takeRoad_27 (fun H locs hP hS => ?_)
    obtain ⟨g11, h⟩ := grd_some h
    refine as_i C hP hS sh_92 g11 dX5_takeRoad_30 (fun H locs hP hS => ?_)
    obtain ⟨μ12, m_μ12, h⟩ := lt_ex h
    have hP : Wm G μ12 H := by rw [m_μ12]; exact hP
    refine lv_aload_n C.x C.b dX5_takeRoad_31 rfl (lv_at hl 0 rfl) ?_
    refine g_ref (k' := 92) F_5_6 u2_31 C hP sh_88 rfl dX5_takeRoad_32 ?_
    refine lv_iload_n C.x C.b dX5_takeRoad_35 rfl (lv_at hl 1 rfl) ?_
    obtain ⟨g13, h⟩ := grd_some h
    refine a_i C hP sh_92 g13 dX5_takeRoad_36 ?_
    refine lv_if_ge (tgt := 42) C.x C.b dX5_takeRoad_37 (by decide) (fun c14 => ?_) (fun c14 => ?_)
    · have h := (if_pos c14).symm.trans h
      refine lv_aload_n C.x C.b dX5_takeRoad_42 rfl (lv_at hl 0 rfl) ?_
      refine g_ref (k' := 93) F_5_7 u2_32 C hP sh_88 rfl dX5_takeRoad_43 ?_
      refine lv_iload_n C.x C.b dX5_takeRoad_46 rfl (lv_at hl 1 rfl) ?_
      refine lv_aload_n C.x C.b dX5_takeRoad_47 rfl (lv_at hl 0 rfl) ?_
      obtain ⟨r16, μ17, e15, h⟩ := bnd_some h
      refine k_vi (k := 88) (as := []) (rest := [.int x1, .ref (G.2.2 93)]) (c_X5_takeKind C.i e15) M_X5_takeKind u2_204 C hP hS sh_88 rfl rfl (by decide) hl.1 rfl (Nat.le_of_ble_eq_true rfl) dX5_takeRoad_48 (fun H locs hP hS => ?_)
      obtain ⟨g18, h⟩ := grd_some h
      refine as_i C hP hS sh_93 g18 dX5_takeRoad_51 (fun H locs hP hS => ?_)
      obtain ⟨μ19, m_μ19, h⟩ := lt_ex h
      have hP : Wm G μ19 H := by rw [m_μ19]; exact hP
      refine lv_aload_n C.x C.b dX5_takeRoad_52 rfl (lv_at hl 0 rfl) ?_
      refine g_ref (k' := 93) F_5_7 u2_32 C hP sh_88 rfl dX5_takeRoad_53 ?_
      refine lv_iload_n C.x C.b dX5_takeRoad_56 rfl (lv_at hl 1 rfl) ?_
      obtain ⟨g20, h⟩ := grd_some h
      refine a_i C hP sh_93 g20 dX5_takeRoad_57 ?_
      refine lv_if_ge (tgt := 63) C.x C.b dX5_takeRoad_58 (by decide) (fun c21 => ?_) (fun c21 => ?_)
      · have h := (if_pos c21).symm.trans h
        refine lv_aload_n C.x C.b dX5_takeRoad_63 rfl (lv_at hl 0 rfl) ?_
        refine g_ref (k' := 94) F_5_8 u2_33 C hP sh_88 rfl dX5_takeRoad_64 ?_
        refine lv_iload_n C.x C.b dX5_takeRoad_67 rfl (lv_at hl 1 rfl) ?_
        refine lv_aload_n C.x C.b dX5_takeRoad_68 rfl (lv_at hl 0 rfl) ?_
        obtain ⟨r23, μ24, e22, h⟩ := bnd_some h
        refine k_vi (k := 88) (as := []) (rest := [.int x1, .ref (G.2.2 94)]) (c_X5_takeNumber C.i e22) M_X5_takeNumber u2_192 C hP hS sh_88 rfl rfl (by decide) hl.1 rfl (Nat.le_of_ble_eq_true rfl) dX5_takeRoad_69 (fun H locs hP hS => ?_)
        obtain ⟨g25, h⟩ := grd_some h
        refine as_i C hP hS sh_94 g25 dX5_takeRoad_72 (fun H locs hP hS => ?_)
        obtain ⟨μ26, m_μ26, h⟩ := lt_ex h
        have hP : Wm G μ26 H := by rw [m_μ26]; exact hP
        refine lv_aload_n C.x C.b dX5_takeRoad_73 rfl (lv_at hl 0 rfl) ?_
        refine g_ref (k' := 94) F_5_8 u2_33 C hP sh_88 rfl dX5_takeRoad_74 ?_
        refine lv_iload_n C.x C.b dX5_takeRoad_77 rfl (lv_at hl 1 rfl) ?_
        obtain ⟨g27, h⟩ := grd_some h
        refine a_i C hP sh_94 g27 dX5_takeRoad_78 ?_
        refine lv_if_lt (tgt := 86) C.x C.b dX5_takeRoad_79 (by decide) (fun c28 => ?_) (fun c28 => ?_)
        · have h := (if_pos c28).symm.trans h
          refine lv_iconst (v := 0) C.x C.b dX5_takeRoad_86 (by decide) ?_
          exact r_z h (by decide) C hP hS dX5_takeRoad_87
        · have h := (if_neg c28).symm.trans h
          refine lv_iconst (v := 1) C.x C.b dX5_takeRoad_82 (by decide) ?_
          refine lv_goto (tgt := 87) C.x C.b dX5_takeRoad_83 (by decide) ?_
          exact r_z h (by decide) C hP hS dX5_takeRoad_87
      · have h := (if_neg c21).symm.trans h
        refine lv_iconst (v := 0) C.x C.b dX5_takeRoad_61 (by decide) ?_
        exact r_z h (by decide) C hP hS dX5_takeRoad_62
    · have h := (if_neg c14).symm.trans h
      refine lv_iconst (v := 0) C.x C.b dX5_takeRoad_40 (by decide) ?_
      exact r_z h (by decide) C hP hS dX5_takeRoad_41
  · have h := (if_neg c7).symm.trans h
    refine lv_iconst (v := 0) C.x C.b dX5_takeRoad_19 (by decide) ?_
    exact r_z h (by decide) C hP hS dX5_takeRoad_20

set_option maxRecDepth 100000 in
set_option maxHeartbeats 4000000 in
theorem c_X5_takeRoad {l : Launch} {G : Gp} (hI : Wi G) {x1 : Int32} {μ : Mem} {r : Int32} {μ' : Mem} (h : f_X5_takeRoad x1 μ = some (r, μ')) : CI l yX5_takeRoad cX5_takeRoad 2 (some .boolean) 2 43 G [.ref (G.2.2 88), .int x1] μ r μ' :=
  e_all (lv := [(0, .ref (G.2.2 88)), (1, .int x1)]) hI (by decide) (Nat.le_of_ble_eq_true rfl) rfl (fun p e s m args below meth c ls C hP hS hl => b_X5_takeRoad C h _ _ _ hP hS hl)


def f_X5_takeSite (x1 : Int32) (μ : Mem) : Option (Int32 × Mem) := bnd (f_X5_takeNumber μ) (fun r2 μ3 => grd (inb x1 12) (lt (st μ3 91 x1.toNatClampNeg r2) (fun μ5 => grd (inb x1 12) (if (μ5.1 91 x1.toNatClampNeg) < 0 then (some (0, μ5)) else (bnd (f_X5_take 44 μ5) (fun r9 μ10 => if r9 = 0 then (some (0, μ10)) else (bnd (f_X5_takeDigit μ10) (fun r13 μ14 => grd (inb x1 12) (lt (st μ14 92 x1.toNatClampNeg r13) (fun μ16 => grd (inb x1 12) (if (μ16.1 92 x1.toNatClampNeg) < 0 then (some (0, μ16)) else (some (1, μ16)))))))))))))
set_option maxRecDepth 100000 in
set_option maxHeartbeats 4000000 in
theorem b_X5_takeSite {p : Program} {l : Launch} {e : Env} {s : State} {m : MethodId} {args : Array Value} {below : List Frame} {meth : Method} {c : Code} {G : Gp} {O : (Int32 × Mem)} (C : Cx p s m args meth c cX5_takeSite 2 RX5 (some .boolean) G) {x1 : Int32} {μ : Mem} (h : f_X5_takeSite x1 μ = some O) : ∀ (H : Heap) (locs : List Loc) (ls : Array Slot), Wm G μ H → va_S (wA G) s.heap H locs → lv_has ls 2 [(0, .ref (G.2.2 88)), (1, .int x1)] → W p l e (rmm 2 43) s m args below meth c H locs 0 0 (QI below args s G O) (F0 m 0 ls []) := by
  unfold f_X5_takeSite at h
  intro H locs ls hP hS hl
  refine lv_aload_n C.x C.b dX5_takeSite_0 rfl (lv_at hl 0 rfl) ?_
  refine g_ref (k' := 91) F_5_5 u2_30 C hP sh_88 rfl dX5_takeSite_1 ?_
  refine lv_iload_n C.x C.b dX5_takeSite_4 rfl (lv_at hl 1 rfl) ?_
  refine lv_aload_n C.x C.b dX5_takeSite_5 rfl (lv_at hl 0 rfl) ?_
  obtain ⟨r2, μ3, e1, h⟩ := bnd_some h
  refine k_vi (k := 88) (as := []) (rest := [.int x1, .ref (G.2.2 91)]) (c_X5_takeNumber C.i e1) M_X5_takeNumber u2_192 C hP hS sh_88 rfl rfl (by decide) hl.1 rfl (Nat.le_of_ble_eq_true rfl) dX5_takeSite_6 (fun H locs hP hS => ?_)
  obtain ⟨g4, h⟩ := grd_some h
  refine as_i C hP hS sh_91 g4 dX5_takeSite_9 (fun H locs hP hS => ?_)
  obtain ⟨μ5, m_μ5, h⟩ := lt_ex h
  have hP : Wm G μ5 H := by rw [m_μ5]; exact hP
  refine lv_aload_n C.x C.b dX5_takeSite_10 rfl (lv_at hl 0 rfl) ?_
  refine g_ref (k' := 91) F_5_5 u2_30 C hP sh_88 rfl dX5_takeSite_11 ?_
  refine lv_iload_n C.x C.b dX5_takeSite_14 rfl (lv_at hl 1 rfl) ?_
  obtain ⟨g6, h⟩ := grd_some h
  refine a_i C hP sh_91 g6 dX5_takeSite_15 ?_
  refine lv_if_lt (tgt := 28) C.x C.b dX5_takeSite_16 (by decide) (fun c7 => ?_) (fun c7 => ?_)
  · have h := (if_pos c7).symm.trans h
    refine lv_iconst (v := 0) C.x C.b dX5_takeSite_28 (by decide) ?_
    exact r_z h (by decide) C hP hS dX5_takeSite_29
  · have h := (if_neg c7).symm.trans h
    refine lv_aload_n C.x C.b dX5_takeSite_19 rfl (lv_at hl 0 rfl) ?_
    refine lv_bipush (v := 44) C.x C.b dX5_takeSite_20 (by decide) ?_
    obtain ⟨r9, μ10, e8, h⟩ := bnd_some h
    refine k_vi (k := 88) (as := [.int 44]) (rest := []) (c_X5_take C.i e8) M_X5_take u2_184 C hP hS sh_88 rfl rfl (by decide) hl.1 rfl (Nat.le_of_ble_eq_true rfl) dX5_takeSite_22 (fun H locs hP hS => ?_)
    refine lv_if_ne (tgt := 30) C.x C.b dX5_takeSite_25 (by decide) (fun c11 => ?_) (fun c11 => ?_)
    · have h := (if_neg c11).symm.trans h
      refine lv_aload_n C.x C.b dX5_takeSite_30 rfl (lv_at hl 0 rfl) ?_
      refine g_ref (k' := 92) F_5_6 u2_31 C hP sh_88 rfl dX5_takeSite_31 ?_
      refine lv_iload_n C.x C.b dX5_takeSite_34 rfl (lv_at hl 1 rfl) ?_
      refine lv_aload_n C.x C.b dX5_takeSite_35 rfl (lv_at hl 0 rfl) ?_
      obtain ⟨r13, μ14, e12, h⟩ := bnd_some h
      refine k_vi (k := 88) (as := []) (rest := [.int x1, .ref (G.2.2 92)]) (c_X5_takeDigit C.i e12) M_X5_takeDigit u2_196 C hP hS sh_88 rfl rfl (by decide) hl.1 rfl (Nat.le_of_ble_eq_true rfl) dX5_takeSite_36 (fun H locs hP hS => ?_)
      obtain ⟨g15, h⟩ := grd_some h
      refine as_i C hP hS sh_92 g15 dX5_takeSite_39 (fun H locs hP hS => ?_)
      obtain ⟨μ16, m_μ16, h⟩ := lt_ex h
      have hP : Wm G μ16 H := by rw [m_μ16]; exact hP
      refine lv_aload_n C.x C.b dX5_takeSite_40 rfl (lv_at hl 0 rfl) ?_
      refine g_ref (k' := 92) F_5_6 u2_31 C hP sh_88 rfl dX5_takeSite_41 ?_
      refine lv_iload_n C.x C.b dX5_takeSite_44 rfl (lv_at hl 1 rfl) ?_
      obtain ⟨g17, h⟩ := grd_some h
      refine a_i C hP sh_92 g17 dX5_takeSite_45 ?_
      refine lv_if_lt (tgt := 53) C.x C.b dX5_takeSite_46 (by decide) (fun c18 => ?_) (fun c18 => ?_)
      · have h := (if_pos c18).symm.trans h
        refine lv_iconst (v := 0) C.x C.b dX5_takeSite_53 (by decide) ?_
        exact r_z h (by decide) C hP hS dX5_takeSite_54
      · have h := (if_neg c18).symm.trans h
        refine lv_iconst (v := 1) C.x C.b dX5_takeSite_49 (by decide) ?_
        refine lv_goto (tgt := 54) C.x C.b dX5_takeSite_50 (by decide) ?_
        exact r_z h (by decide) C hP hS dX5_takeSite_54
    · have h := (if_pos c11).symm.trans h
      refine lv_iconst (v := 0) C.x C.b dX5_takeSite_28 (by decide) ?_
      exact r_z h (by decide) C hP hS dX5_takeSite_29

set_option maxRecDepth 100000 in
set_option maxHeartbeats 4000000 in
theorem c_X5_takeSite {l : Launch} {G : Gp} (hI : Wi G) {x1 : Int32} {μ : Mem} {r : Int32} {μ' : Mem} (h : f_X5_takeSite x1 μ = some (r, μ')) : CI l yX5_takeSite cX5_takeSite 2 (some .boolean) 2 43 G [.ref (G.2.2 88), .int x1] μ r μ' :=
  e_all (lv := [(0, .ref (G.2.2 88)), (1, .int x1)]) hI (by decide) (Nat.le_of_ble_eq_true rfl) rfl (fun p e s m args below meth c ls C hP hS hl => b_X5_takeSite C h _ _ _ hP hS hl)


def f_X5_takeClause (x1 : Int32) (μ : Mem) : Option (Int32 × Mem) := bnd (f_X5_take 113 μ) (fun r2 μ3 => if r2 = 0 then (bnd (f_X5_take 119 μ3) (fun r6 μ7 => if r6 = 0 then (bnd (f_X5_take 114 μ7) (fun r10 μ11 => if r10 = 0 then (some (0, μ11)) else (grd (inb x1 12) (lt (st μ11 90 x1.toNatClampNeg (vp_nar .char 114)) (fun μ14 => bnd (f_X5_takeRoad x1 μ14) (fun r16 μ17 => grd (isB r16) (some (r16, μ17)))))))) else (grd (inb x1 12) (lt (st μ7 90 x1.toNatClampNeg (vp_nar .char 119)) (fun μ20 => bnd (f_X5_takeSite x1 μ20) (fun r22 μ23 => grd (isB r22) (some (r22, μ23)))))))) else (grd (inb x1 12) (lt (st μ3 90 x1.toNatClampNeg (vp_nar .char 113)) (fun μ26 => bnd (f_X5_takeSite x1 μ26) (fun r28 μ29 => grd (isB r28) (some (r28, μ29)))))))
set_option maxRecDepth 100000 in
set_option maxHeartbeats 4000000 in
theorem b_X5_takeClause {p : Program} {l : Launch} {e : Env} {s : State} {m : MethodId} {args : Array Value} {below : List Frame} {meth : Method} {c : Code} {G : Gp} {O : (Int32 × Mem)} (C : Cx p s m args meth c cX5_takeClause 2 RX5 (some .boolean) G) {x1 : Int32} {μ : Mem} (h : f_X5_takeClause x1 μ = some O) : ∀ (H : Heap) (locs : List Loc) (ls : Array Slot), Wm G μ H → va_S (wA G) s.heap H locs → lv_has ls 2 [(0, .ref (G.2.2 88)), (1, .int x1)] → W p l e (rmm 3 64) s m args below meth c H locs 0 0 (QI below args s G O) (F0 m 0 ls []) := by
  unfold f_X5_takeClause at h
  intro H locs ls hP hS hl
  refine lv_aload_n C.x C.b dX5_takeClause_0 rfl (lv_at hl 0 rfl) ?_
  refine lv_bipush (v := 113) C.x C.b dX5_takeClause_1 (by decide) ?_
  obtain ⟨r2, μ3, e1, h⟩ := bnd_some h
  refine k_vi (k := 88) (as := [.int 113]) (rest := []) (c_X5_take C.i e1) M_X5_take u2_184 C hP hS sh_88 rfl rfl (by decide) hl.1 rfl (Nat.le_of_ble_eq_true rfl) dX5_takeClause_3 (fun H locs hP hS => ?_)
  refine lv_if_eq (tgt := 23) C.x C.b dX5_takeClause_6 (by decide) (fun c4 => ?_) (fun c4 => ?_)
  · have h := (if_pos c4).symm.trans h
    refine lv_aload_n C.x C.b dX5_takeClause_23 rfl (lv_at hl 0 rfl) ?_
    refine lv_bipush (v := 119) C.x C.b dX5_takeClause_24 (by decide) ?_
    obtain ⟨r6, μ7, e5, h⟩ := bnd_some h
    refine k_vi (k := 88) (as := [.int 119]) (rest := []) (c_X5_take C.i e5) M_X5_take u2_184 C hP hS sh_88 rfl rfl (by decide) hl.1 rfl (Nat.le_of_ble_eq_true rfl) dX5_takeClause_26 (fun H locs hP hS => ?_)
    refine lv_if_eq (tgt := 46) C.x C.b dX5_takeClause_29 (by decide) (fun c8 => ?_) (fun c8 => ?_)
    · have h := (if_pos c8).symm.trans h
      refine lv_aload_n C.x C.b dX5_takeClause_46 rfl (lv_at hl 0 rfl) ?_
      refine lv_bipush (v := 114) C.x C.b dX5_takeClause_47 (by decide) ?_
      obtain ⟨r10, μ11, e9, h⟩ := bnd_some h
      refine k_vi (k := 88) (as := [.int 114]) (rest := []) (c_X5_take C.i e9) M_X5_take u2_184 C hP hS sh_88 rfl rfl (by decide) hl.1 rfl (Nat.le_of_ble_eq_true rfl) dX5_takeClause_49 (fun H locs hP hS => ?_)
      refine lv_if_eq (tgt := 69) C.x C.b dX5_takeClause_52 (by decide) (fun c12 => ?_) (fun c12 => ?_)
      · have h := (if_pos c12).symm.trans h
        refine lv_iconst (v := 0) C.x C.b dX5_takeClause_69 (by decide) ?_
        exact r_z h (by decide) C hP hS dX5_takeClause_70
      · have h := (if_neg c12).symm.trans h
        refine lv_aload_n C.x C.b dX5_takeClause_55 rfl (lv_at hl 0 rfl) ?_
        refine g_ref (k' := 90) F_5_4 u2_29 C hP sh_88 rfl dX5_takeClause_56 ?_
        refine lv_iload_n C.x C.b dX5_takeClause_59 rfl (lv_at hl 1 rfl) ?_
        refine lv_bipush (v := 114) C.x C.b dX5_takeClause_60 (by decide) ?_
        obtain ⟨g13, h⟩ := grd_some h
        refine as_c C hP hS sh_90 g13 dX5_takeClause_62 (fun H locs hP hS => ?_)
        obtain ⟨μ14, m_μ14, h⟩ := lt_ex h
        have hP : Wm G μ14 H := by rw [m_μ14]; exact hP
        refine lv_aload_n C.x C.b dX5_takeClause_63 rfl (lv_at hl 0 rfl) ?_
        refine lv_iload_n C.x C.b dX5_takeClause_64 rfl (lv_at hl 1 rfl) ?_
        obtain ⟨r16, μ17, e15, h⟩ := bnd_some h
        refine k_vi (k := 88) (as := [.int x1]) (rest := []) (c_X5_takeRoad C.i e15) M_X5_takeRoad u2_200 C hP hS sh_88 rfl rfl (by decide) hl.1 rfl (Nat.le_of_ble_eq_true rfl) dX5_takeClause_65 (fun H locs hP hS => ?_)
        obtain ⟨g18, h⟩ := grd_some h
        exact r_z h g18 C hP hS dX5_takeClause_68
    · have h := (if_neg c8).symm.trans h
      refine lv_aload_n C.x C.b dX5_takeClause_32 rfl (lv_at hl 0 rfl) ?_
      refine g_ref (k' := 90) F_5_4 u2_29 C hP sh_88 rfl dX5_takeClause_33 ?_
      refine lv_iload_n C.x C.b dX5_takeClause_36 rfl (lv_at hl 1 rfl) ?_
      refine lv_bipush (v := 119) C.x C.b dX5_takeClause_37 (by decide) ?_
      obtain ⟨g19, h⟩ := grd_some h
      refine as_c C hP hS sh_90 g19 dX5_takeClause_39 (fun H locs hP hS => ?_)
      obtain ⟨μ20, m_μ20, h⟩ := lt_ex h
      have hP : Wm G μ20 H := by rw [m_μ20]; exact hP
      refine lv_aload_n C.x C.b dX5_takeClause_40 rfl (lv_at hl 0 rfl) ?_
      refine lv_iload_n C.x C.b dX5_takeClause_41 rfl (lv_at hl 1 rfl) ?_
      obtain ⟨r22, μ23, e21, h⟩ := bnd_some h
      refine k_vi (k := 88) (as := [.int x1]) (rest := []) (c_X5_takeSite C.i e21) M_X5_takeSite u2_188 C hP hS sh_88 rfl rfl (by decide) hl.1 rfl (Nat.le_of_ble_eq_true rfl) dX5_takeClause_42 (fun H locs hP hS => ?_)
      obtain ⟨g24, h⟩ := grd_some h
      exact r_z h g24 C hP hS dX5_takeClause_45
  · have h := (if_neg c4).symm.trans h
    refine lv_aload_n C.x C.b dX5_takeClause_9 rfl (lv_at hl 0 rfl) ?_
    refine g_ref (k' := 90) F_5_4 u2_29 C hP sh_88 rfl dX5_takeClause_10 ?_
    refine lv_iload_n C.x C.b dX5_takeClause_13 rfl (lv_at hl 1 rfl) ?_
    refine lv_bipush (v := 113) C.x C.b dX5_takeClause_14 (by decide) ?_
    obtain ⟨g25, h⟩ := grd_some h
    refine as_c C hP hS sh_90 g25 dX5_takeClause_16 (fun H locs hP hS => ?_)
    obtain ⟨μ26, m_μ26, h⟩ := lt_ex h
    have hP : Wm G μ26 H := by rw [m_μ26]; exact hP
    refine lv_aload_n C.x C.b dX5_takeClause_17 rfl (lv_at hl 0 rfl) ?_
    refine lv_iload_n C.x C.b dX5_takeClause_18 rfl (lv_at hl 1 rfl) ?_
    obtain ⟨r28, μ29, e27, h⟩ := bnd_some h
    refine k_vi (k := 88) (as := [.int x1]) (rest := []) (c_X5_takeSite C.i e27) M_X5_takeSite u2_188 C hP hS sh_88 rfl rfl (by decide) hl.1 rfl (Nat.le_of_ble_eq_true rfl) dX5_takeClause_19 (fun H locs hP hS => ?_)
    obtain ⟨g30, h⟩ := grd_some h
    exact r_z h g30 C hP hS dX5_takeClause_22

set_option maxRecDepth 100000 in
set_option maxHeartbeats 4000000 in
theorem c_X5_takeClause {l : Launch} {G : Gp} (hI : Wi G) {x1 : Int32} {μ : Mem} {r : Int32} {μ' : Mem} (h : f_X5_takeClause x1 μ = some (r, μ')) : CI l yX5_takeClause cX5_takeClause 2 (some .boolean) 3 64 G [.ref (G.2.2 88), .int x1] μ r μ' :=
  e_all (lv := [(0, .ref (G.2.2 88)), (1, .int x1)]) hI (by decide) (Nat.le_of_ble_eq_true rfl) rfl (fun p e s m args below meth c ls C hP hS hl => b_X5_takeClause C h _ _ _ hP hS hl)


def g_X5_findFault_12   (q12 : Int32 → Mem → Option (Int32 × Mem)) (x1 : Int32) (μ : Mem) : Option (Int32 × Mem) := if 12 ≤ x1 then (some (μ.1 88 3, μ)) else (bnd (f_X5_takeClause x1 μ) (fun r3 μ4 => if r3 = 0 then (some (μ4.1 88 3, μ4)) else (lt (st μ4 88 1 (x1 + 1)) (fun μ6 => if (μ6.1 88 3) = (μ6.1 88 0) then (some ((-1), μ6)) else (if (μ6.1 88 1) = 12 then (some (μ6.1 88 3, μ6)) else (bnd (f_X5_take 59 μ6) (fun r10 μ11 => if r10 = 0 then (some (μ11.1 88 3, μ11)) else (lt (x1 + 1) (fun y13 => q12 y13 μ11)))))))))
def f_X5_findFault_12   : Nat → Int32 → Mem → Option (Int32 × Mem)
  | 0, _, _ => none
  | n + 1, x1, μ => g_X5_findFault_12  (f_X5_findFault_12  n) x1 μ
set_option maxRecDepth 100000 in
set_option maxHeartbeats 4000000 in
theorem w_X5_findFault_12 {p : Program} {l : Launch} {e : Env} {s : State} {m : MethodId} {args : Array Value} {below : List Frame} {meth : Method} {c : Code} {G : Gp} {O : (Int32 × Mem)} (C : Cx p s m args meth c cX5_findFault 2 RX5 (some .int) G) {q12 : Int32 → Mem → Option (Int32 × Mem)} (hq12 : ∀ (x1 : Int32) (μ : Mem), q12 x1 μ = some O → ∀ (H : Heap) (locs : List Loc) (ls : Array Slot), Wm G μ H → va_S (wA G) s.heap H locs → lv_has ls 2 [(0, .ref (G.2.2 88)), (1, .int x1)] → W p l e (rmm 4 85) s m args below meth c H locs 0 0 (QI below args s G O) (F0 m 12 ls [])) : ∀ (x1 : Int32) (μ : Mem), g_X5_findFault_12 q12 x1 μ = some O → ∀ (H : Heap) (locs : List Loc) (ls : Array Slot), Wm G μ H → va_S (wA G) s.heap H locs → lv_has ls 2 [(0, .ref (G.2.2 88)), (1, .int x1)] → W p l e (rmm 4 85) s m args below meth c H locs 0 0 (QI below args s G O) (F0 m 12 ls []) := by
  intro x1 μ h H locs ls hP hS hl
  unfold g_X5_findFault_12 at h
  refine lv_iload_n C.x C.b dX5_findFault_12 rfl (lv_at hl 1 rfl) ?_
  refine lv_bipush (v := 12) C.x C.b dX5_findFault_13 (by decide) ?_
  refine lv_icmp_ge (tgt := 80) C.x C.b dX5_findFault_15 (by decide) (fun c1 => ?_) (fun c1 => ?_)
  · have h := (if_pos c1).symm.trans h
    refine lv_aload_n C.x C.b dX5_findFault_80 rfl (lv_at hl 0 rfl) ?_
    refine g_int F_5_3 u2_28 C hP sh_88 dX5_findFault_81 ?_
    exact r_i h C hP hS dX5_findFault_84
  · have h := (if_neg c1).symm.trans h
    refine lv_aload_n C.x C.b dX5_findFault_18 rfl (lv_at hl 0 rfl) ?_
    refine lv_iload_n C.x C.b dX5_findFault_19 rfl (lv_at hl 1 rfl) ?_
    obtain ⟨r3, μ4, e2, h⟩ := bnd_some h
    refine k_vi (k := 88) (as := [.int x1]) (rest := []) (c_X5_takeClause C.i e2) M_X5_takeClause u2_180 C hP hS sh_88 rfl rfl (by decide) hl.1 rfl (Nat.le_of_ble_eq_true rfl) dX5_findFault_20 (fun H locs hP hS => ?_)
    refine lv_if_ne (tgt := 31) C.x C.b dX5_findFault_23 (by decide) (fun c5 => ?_) (fun c5 => ?_)
    · have h := (if_neg c5).symm.trans h
      refine lv_aload_n C.x C.b dX5_findFault_31 rfl (lv_at hl 0 rfl) ?_
      refine lv_iload_n C.x C.b dX5_findFault_32 rfl (lv_at hl 1 rfl) ?_
      refine lv_iconst (v := 1) C.x C.b dX5_findFault_33 (by decide) ?_
      refine lv_iadd C.x C.b dX5_findFault_34 ?_
      refine p_int F_5_1 P_5_1 u2_25 C hP hS sh_88 dX5_findFault_35 (fun H locs hP hS => ?_)
      obtain ⟨μ6, m_μ6, h⟩ := lt_ex h
      have hP : Wm G μ6 H := by rw [m_μ6]; exact hP
      refine lv_aload_n C.x C.b dX5_findFault_38 rfl (lv_at hl 0 rfl) ?_
      refine g_int F_5_3 u2_28 C hP sh_88 dX5_findFault_39 ?_
      refine lv_aload_n C.x C.b dX5_findFault_42 rfl (lv_at hl 0 rfl) ?_
      refine g_int F_5_0 u2_23 C hP sh_88 dX5_findFault_43 ?_
      refine lv_icmp_ne (tgt := 51) C.x C.b dX5_findFault_46 (by decide) (fun c7 => ?_) (fun c7 => ?_)
      · have h := (if_neg c7).symm.trans h
        refine lv_aload_n C.x C.b dX5_findFault_51 rfl (lv_at hl 0 rfl) ?_
        refine g_int F_5_1 u2_25 C hP sh_88 dX5_findFault_52 ?_
        refine lv_bipush (v := 12) C.x C.b dX5_findFault_55 (by decide) ?_
        refine lv_icmp_eq (tgt := 69) C.x C.b dX5_findFault_57 (by decide) (fun c8 => ?_) (fun c8 => ?_)
        · have h := (if_pos c8).symm.trans h
          refine lv_aload_n C.x C.b dX5_findFault_69 rfl (lv_at hl 0 rfl) ?_
          refine g_int F_5_3 u2_28 C hP sh_88 dX5_findFault_70 ?_
          exact r_i h C hP hS dX5_findFault_73
        · have h := (if_neg c8).symm.trans h
          refine lv_aload_n C.x C.b dX5_findFault_60 rfl (lv_at hl 0 rfl) ?_
          refine lv_bipush (v := 59) C.x C.b dX5_findFault_61 (by decide) ?_
          obtain ⟨r10, μ11, e9, h⟩ := bnd_some h
          refine k_vi (k := 88) (as := [.int 59]) (rest := []) (c_X5_take C.i e9) M_X5_take u2_184 C hP hS sh_88 rfl rfl (by decide) hl.1 rfl (Nat.le_of_ble_eq_true rfl) dX5_findFault_63 (fun H locs hP hS => ?_)
          refine lv_if_ne (tgt := 74) C.x C.b dX5_findFault_66 (by decide) (fun c12 => ?_) (fun c12 => ?_)
          · have h := (if_neg c12).symm.trans h
            obtain ⟨y13, e_y13, h⟩ := lt_ex h
            refine lv_iinc (v := y13) (lv' := [(1, .int y13), (0, .ref (G.2.2 88))]) C.x C.b dX5_findFault_74 hl (k := 1) rfl (by rw [e_y13]; rfl) (by decide) rfl (fun ls hl => ?_)
            refine lv_goto (tgt := 12) C.x C.b dX5_findFault_77 (by decide) ?_
            exact hq12 y13 μ11 h _ _ _ hP hS (lv_sub hl [1, 0] rfl)
          · have h := (if_pos c12).symm.trans h
            refine lv_aload_n C.x C.b dX5_findFault_69 rfl (lv_at hl 0 rfl) ?_
            refine g_int F_5_3 u2_28 C hP sh_88 dX5_findFault_70 ?_
            exact r_i h C hP hS dX5_findFault_73
      · have h := (if_pos c7).symm.trans h
        refine lv_iconst (v := (-1)) C.x C.b dX5_findFault_49 (by decide) ?_
        exact r_i h C hP hS dX5_findFault_50
    · have h := (if_pos c5).symm.trans h
      refine lv_aload_n C.x C.b dX5_findFault_26 rfl (lv_at hl 0 rfl) ?_
      refine g_int F_5_3 u2_28 C hP sh_88 dX5_findFault_27 ?_
      exact r_i h C hP hS dX5_findFault_30

set_option maxRecDepth 100000 in
set_option maxHeartbeats 4000000 in
theorem b_X5_findFault_12 {p : Program} {l : Launch} {e : Env} {s : State} {m : MethodId} {args : Array Value} {below : List Frame} {meth : Method} {c : Code} {G : Gp} {O : (Int32 × Mem)} (C : Cx p s m args meth c cX5_findFault 2 RX5 (some .int) G) : ∀ (n : Nat) (x1 : Int32) (μ : Mem), f_X5_findFault_12 n x1 μ = some O → ∀ (H : Heap) (locs : List Loc) (ls : Array Slot), Wm G μ H → va_S (wA G) s.heap H locs → lv_has ls 2 [(0, .ref (G.2.2 88)), (1, .int x1)] → W p l e (rmm 4 85) s m args below meth c H locs 0 0 (QI below args s G O) (F0 m 12 ls []) := by
  intro n
  induction n with
  | zero => intro x1 μ h; cases h
  | succ n ih => intro x1 μ h; exact w_X5_findFault_12 C (q12 := f_X5_findFault_12 n) ih x1 μ h

def f_X5_findFault  (μ : Mem) : Option (Int32 × Mem) := lt (st μ 88 3 0) (fun μ1 => lt (st μ1 88 1 0) (fun μ2 => f_X5_findFault_12 FU 0 μ2))
set_option maxRecDepth 100000 in
set_option maxHeartbeats 4000000 in
theorem b_X5_findFault {p : Program} {l : Launch} {e : Env} {s : State} {m : MethodId} {args : Array Value} {below : List Frame} {meth : Method} {c : Code} {G : Gp} {O : (Int32 × Mem)} (C : Cx p s m args meth c cX5_findFault 2 RX5 (some .int) G) {μ : Mem} (h : f_X5_findFault μ = some O) : ∀ (H : Heap) (locs : List Loc) (ls : Array Slot), Wm G μ H → va_S (wA G) s.heap H locs → lv_has ls 2 [(0, .ref (G.2.2 88))] → W p l e (rmm 4 85) s m args below meth c H locs 0 0 (QI below args s G O) (F0 m 0 ls []) := by
  unfold f_X5_findFault at h
  intro H locs ls hP hS hl
  refine lv_aload_n C.x C.b dX5_findFault_0 rfl (lv_at hl 0 rfl) ?_
  refine lv_iconst (v := 0) C.x C.b dX5_findFault_1 (by decide) ?_
  refine p_int F_5_3 P_5_3 u2_28 C hP hS sh_88 dX5_findFault_2 (fun H locs hP hS => ?_)
  obtain ⟨μ1, m_μ1, h⟩ := lt_ex h
  have hP : Wm G μ1 H := by rw [m_μ1]; exact hP
  refine lv_aload_n C.x C.b dX5_findFault_5 rfl (lv_at hl 0 rfl) ?_
  refine lv_iconst (v := 0) C.x C.b dX5_findFault_6 (by decide) ?_
  refine p_int F_5_1 P_5_1 u2_25 C hP hS sh_88 dX5_findFault_7 (fun H locs hP hS => ?_)
  obtain ⟨μ2, m_μ2, h⟩ := lt_ex h
  have hP : Wm G μ2 H := by rw [m_μ2]; exact hP
  refine lv_iconst (v := 0) C.x C.b dX5_findFault_10 (by decide) ?_
  refine lv_istore_n (lv' := [(1, .int 0), (0, .ref (G.2.2 88))]) C.x C.b dX5_findFault_11 rfl hl (by decide) rfl (fun ls hl => ?_)
  exact b_X5_findFault_12 C FU 0 μ2 h _ _ _ hP hS (lv_sub hl [1, 0] rfl)

set_option maxRecDepth 100000 in
set_option maxHeartbeats 4000000 in
theorem c_X5_findFault {l : Launch} {G : Gp} (hI : Wi G) {μ : Mem} {r : Int32} {μ' : Mem} (h : f_X5_findFault μ = some (r, μ')) : CI l yX5_findFault cX5_findFault 2 (some .int) 4 85 G [.ref (G.2.2 88)] μ r μ' :=
  e_all (lv := [(0, .ref (G.2.2 88))]) hI (by decide) (Nat.le_of_ble_eq_true rfl) rfl (fun p e s m args below meth c ls C hP hS hl => b_X5_findFault C h _ _ _ hP hS hl)


def f_X5_perform (x1 : Int32) (o2 : Nat) (μ : Mem) : Option (Int32 × Mem) := if x1 < 0 then (some ((-1), μ)) else (if x1 < (μ.1 88 1) then (grd (inb x1 12) (if (μ.1 90 x1.toNatClampNeg) = 113 then (grd (inb x1 12) (grd (inb x1 12) (bnd (f_X6_addSite o2 0 (μ.1 91 x1.toNatClampNeg) (μ.1 92 x1.toNatClampNeg) μ) (fun r22 μ23 => some (r22, μ23))))) else (grd (inb x1 12) (if (μ.1 90 x1.toNatClampNeg) = 119 then (grd (inb x1 12) (grd (inb x1 12) (bnd (f_X6_addSite o2 1 (μ.1 91 x1.toNatClampNeg) (μ.1 92 x1.toNatClampNeg) μ) (fun r17 μ18 => some (r17, μ18))))) else (grd (inb x1 12) (grd (inb x1 12) (grd (inb x1 12) (grd (inb x1 12) (bnd (f_X6_changeRoad o2 (μ.1 91 x1.toNatClampNeg) (μ.1 92 x1.toNatClampNeg) (μ.1 93 x1.toNatClampNeg) (μ.1 94 x1.toNatClampNeg) μ) (fun r12 μ13 => some (r12, μ13))))))))))) else (some ((-1), μ)))
set_option maxRecDepth 100000 in
set_option maxHeartbeats 4000000 in
theorem b_X5_perform {p : Program} {l : Launch} {e : Env} {s : State} {m : MethodId} {args : Array Value} {below : List Frame} {meth : Method} {c : Code} {G : Gp} {O : (Int32 × Mem)} (C : Cx p s m args meth c cX5_perform 3 RX5 (some .int) G) {x1 : Int32} {o2 : Nat} (hB2 : At sState o2) {μ : Mem} (h : f_X5_perform x1 o2 μ = some O) : ∀ (H : Heap) (locs : List Loc) (ls : Array Slot), Wm G μ H → va_S (wA G) s.heap H locs → lv_has ls 3 [(0, .ref (G.2.2 88)), (1, .int x1), (2, .ref (G.2.2 o2))] → W p l e (rmm 2 48) s m args below meth c H locs 0 0 (QI below args s G O) (F0 m 0 ls []) := by
  unfold f_X5_perform at h
  intro H locs ls hP hS hl
  have q_o2_0 : shp[o2]? = some (.inl (6, fs6)) := hB2 0 _ rfl
  refine lv_iload_n C.x C.b dX5_perform_0 rfl (lv_at hl 1 rfl) ?_
  refine lv_if_lt (tgt := 12) C.x C.b dX5_perform_1 (by decide) (fun c1 => ?_) (fun c1 => ?_)
  · have h := (if_pos c1).symm.trans h
    refine lv_iconst (v := (-1)) C.x C.b dX5_perform_12 (by decide) ?_
    exact r_i h C hP hS dX5_perform_13
  · have h := (if_neg c1).symm.trans h
    refine lv_iload_n C.x C.b dX5_perform_4 rfl (lv_at hl 1 rfl) ?_
    refine lv_aload_n C.x C.b dX5_perform_5 rfl (lv_at hl 0 rfl) ?_
    refine g_int F_5_1 u2_25 C hP sh_88 dX5_perform_6 ?_
    refine lv_icmp_lt (tgt := 14) C.x C.b dX5_perform_9 (by decide) (fun c2 => ?_) (fun c2 => ?_)
    · have h := (if_pos c2).symm.trans h
      refine lv_aload_n C.x C.b dX5_perform_14 rfl (lv_at hl 0 rfl) ?_
      refine g_ref (k' := 90) F_5_4 u2_29 C hP sh_88 rfl dX5_perform_15 ?_
      refine lv_iload_n C.x C.b dX5_perform_18 rfl (lv_at hl 1 rfl) ?_
      obtain ⟨g3, h⟩ := grd_some h
      refine a_c C hP sh_90 g3 dX5_perform_19 ?_
      refine lv_bipush (v := 113) C.x C.b dX5_perform_20 (by decide) ?_
      refine lv_icmp_ne (tgt := 43) C.x C.b dX5_perform_22 (by decide) (fun c4 => ?_) (fun c4 => ?_)
      · have h := (if_neg c4).symm.trans h
        refine lv_aload_n C.x C.b dX5_perform_43 rfl (lv_at hl 0 rfl) ?_
        refine g_ref (k' := 90) F_5_4 u2_29 C hP sh_88 rfl dX5_perform_44 ?_
        refine lv_iload_n C.x C.b dX5_perform_47 rfl (lv_at hl 1 rfl) ?_
        obtain ⟨g5, h⟩ := grd_some h
        refine a_c C hP sh_90 g5 dX5_perform_48 ?_
        refine lv_bipush (v := 119) C.x C.b dX5_perform_49 (by decide) ?_
        refine lv_icmp_ne (tgt := 72) C.x C.b dX5_perform_51 (by decide) (fun c6 => ?_) (fun c6 => ?_)
        · have h := (if_neg c6).symm.trans h
          refine lv_aload_n C.x C.b dX5_perform_72 rfl (lv_at hl 2 rfl) ?_
          refine lv_aload_n C.x C.b dX5_perform_73 rfl (lv_at hl 0 rfl) ?_
          refine g_ref (k' := 91) F_5_5 u2_30 C hP sh_88 rfl dX5_perform_74 ?_
          refine lv_iload_n C.x C.b dX5_perform_77 rfl (lv_at hl 1 rfl) ?_
          obtain ⟨g7, h⟩ := grd_some h
          refine a_i C hP sh_91 g7 dX5_perform_78 ?_
          refine lv_aload_n C.x C.b dX5_perform_79 rfl (lv_at hl 0 rfl) ?_
          refine g_ref (k' := 92) F_5_6 u2_31 C hP sh_88 rfl dX5_perform_80 ?_
          refine lv_iload_n C.x C.b dX5_perform_83 rfl (lv_at hl 1 rfl) ?_
          obtain ⟨g8, h⟩ := grd_some h
          refine a_i C hP sh_92 g8 dX5_perform_84 ?_
          refine lv_aload_n C.x C.b dX5_perform_85 rfl (lv_at hl 0 rfl) ?_
          refine g_ref (k' := 93) F_5_7 u2_32 C hP sh_88 rfl dX5_perform_86 ?_
          refine lv_iload_n C.x C.b dX5_perform_89 rfl (lv_at hl 1 rfl) ?_
          obtain ⟨g9, h⟩ := grd_some h
          refine a_i C hP sh_93 g9 dX5_perform_90 ?_
          refine lv_aload_n C.x C.b dX5_perform_91 rfl (lv_at hl 0 rfl) ?_
          refine g_ref (k' := 94) F_5_8 u2_33 C hP sh_88 rfl dX5_perform_92 ?_
          refine lv_iload_n C.x C.b dX5_perform_95 rfl (lv_at hl 1 rfl) ?_
          obtain ⟨g10, h⟩ := grd_some h
          refine a_i C hP sh_94 g10 dX5_perform_96 ?_
          obtain ⟨r12, μ13, e11, h⟩ := bnd_some h
          refine k_vi (k := o2) (as := [.int (μ.1 91 x1.toNatClampNeg), .int (μ.1 92 x1.toNatClampNeg), .int (μ.1 93 x1.toNatClampNeg), .int (μ.1 94 x1.toNatClampNeg)]) (rest := []) (c_X6_changeRoad C.i hB2 e11) M_X6_changeRoad u2_213 C hP hS q_o2_0 rfl rfl (by decide) hl.1 rfl (Nat.le_of_ble_eq_true rfl) dX5_perform_97 (fun H locs hP hS => ?_)
          exact r_i h C hP hS dX5_perform_100
        · have h := (if_pos c6).symm.trans h
          refine lv_aload_n C.x C.b dX5_perform_54 rfl (lv_at hl 2 rfl) ?_
          refine lv_iconst (v := 1) C.x C.b dX5_perform_55 (by decide) ?_
          refine lv_aload_n C.x C.b dX5_perform_56 rfl (lv_at hl 0 rfl) ?_
          refine g_ref (k' := 91) F_5_5 u2_30 C hP sh_88 rfl dX5_perform_57 ?_
          refine lv_iload_n C.x C.b dX5_perform_60 rfl (lv_at hl 1 rfl) ?_
          obtain ⟨g14, h⟩ := grd_some h
          refine a_i C hP sh_91 g14 dX5_perform_61 ?_
          refine lv_aload_n C.x C.b dX5_perform_62 rfl (lv_at hl 0 rfl) ?_
          refine g_ref (k' := 92) F_5_6 u2_31 C hP sh_88 rfl dX5_perform_63 ?_
          refine lv_iload_n C.x C.b dX5_perform_66 rfl (lv_at hl 1 rfl) ?_
          obtain ⟨g15, h⟩ := grd_some h
          refine a_i C hP sh_92 g15 dX5_perform_67 ?_
          obtain ⟨r17, μ18, e16, h⟩ := bnd_some h
          refine k_vi (k := o2) (as := [.int 1, .int (μ.1 91 x1.toNatClampNeg), .int (μ.1 92 x1.toNatClampNeg)]) (rest := []) (c_X6_addSite C.i hB2 e16) M_X6_addSite u2_212 C hP hS q_o2_0 rfl rfl (by decide) hl.1 rfl (Nat.le_of_ble_eq_true rfl) dX5_perform_68 (fun H locs hP hS => ?_)
          exact r_i h C hP hS dX5_perform_71
      · have h := (if_pos c4).symm.trans h
        refine lv_aload_n C.x C.b dX5_perform_25 rfl (lv_at hl 2 rfl) ?_
        refine lv_iconst (v := 0) C.x C.b dX5_perform_26 (by decide) ?_
        refine lv_aload_n C.x C.b dX5_perform_27 rfl (lv_at hl 0 rfl) ?_
        refine g_ref (k' := 91) F_5_5 u2_30 C hP sh_88 rfl dX5_perform_28 ?_
        refine lv_iload_n C.x C.b dX5_perform_31 rfl (lv_at hl 1 rfl) ?_
        obtain ⟨g19, h⟩ := grd_some h
        refine a_i C hP sh_91 g19 dX5_perform_32 ?_
        refine lv_aload_n C.x C.b dX5_perform_33 rfl (lv_at hl 0 rfl) ?_
        refine g_ref (k' := 92) F_5_6 u2_31 C hP sh_88 rfl dX5_perform_34 ?_
        refine lv_iload_n C.x C.b dX5_perform_37 rfl (lv_at hl 1 rfl) ?_
        obtain ⟨g20, h⟩ := grd_some h
        refine a_i C hP sh_92 g20 dX5_perform_38 ?_
        obtain ⟨r22, μ23, e21, h⟩ := bnd_some h
        refine k_vi (k := o2) (as := [.int 0, .int (μ.1 91 x1.toNatClampNeg), .int (μ.1 92 x1.toNatClampNeg)]) (rest := []) (c_X6_addSite C.i hB2 e21) M_X6_addSite u2_212 C hP hS q_o2_0 rfl rfl (by decide) hl.1 rfl (Nat.le_of_ble_eq_true rfl) dX5_perform_39 (fun H locs hP hS => ?_)
        exact r_i h C hP hS dX5_perform_42
    · have h := (if_neg c2).symm.trans h
      refine lv_iconst (v := (-1)) C.x C.b dX5_perform_12 (by decide) ?_
      exact r_i h C hP hS dX5_perform_13

set_option maxRecDepth 100000 in
set_option maxHeartbeats 4000000 in
theorem c_X5_perform {l : Launch} {G : Gp} (hI : Wi G) {x1 : Int32} {o2 : Nat} (hB2 : At sState o2) {μ : Mem} {r : Int32} {μ' : Mem} (h : f_X5_perform x1 o2 μ = some (r, μ')) : CI l yX5_perform cX5_perform 3 (some .int) 2 48 G [.ref (G.2.2 88), .int x1, .ref (G.2.2 o2)] μ r μ' :=
  e_all (lv := [(0, .ref (G.2.2 88)), (1, .int x1), (2, .ref (G.2.2 o2))]) hI (by decide) (Nat.le_of_ble_eq_true rfl) rfl (fun p e s m args below meth c ls C hP hS hl => b_X5_perform C hB2 h _ _ _ hP hS hl)


def f_X8_isUpTo (x0 : Int32) (x1 : Int32) (μ : Mem) : Option Int32 := if x0 < 0 then (some 0) else (if x1 < x0 then (some 0) else (some 1))
set_option maxRecDepth 100000 in
set_option maxHeartbeats 4000000 in
theorem b_X8_isUpTo {p : Program} {l : Launch} {e : Env} {s : State} {m : MethodId} {args : Array Value} {below : List Frame} {meth : Method} {c : Code} {G : Gp} {O : Int32} (C : Cx p s m args meth c cX8_isUpTo 2 RX8 (some .boolean) G) {x0 : Int32} {x1 : Int32} {μ : Mem} (h : f_X8_isUpTo x0 x1 μ = some O) : ∀ (H : Heap) (locs : List Loc) (ls : Array Slot), Wm G μ H → va_S (wA G) s.heap H locs → lv_has ls 2 [(0, .int x0), (1, .int x1)] → W p l e (rmm 0 0) s m args below meth c H locs 0 0 (QI below args s G (O, μ)) (F0 m 0 ls []) := by
  unfold f_X8_isUpTo at h
  intro H locs ls hP hS hl
  refine lv_iload_n C.x C.b dX8_isUpTo_0 rfl (lv_at hl 0 rfl) ?_
  refine lv_if_lt (tgt := 13) C.x C.b dX8_isUpTo_1 (by decide) (fun c1 => ?_) (fun c1 => ?_)
  · have h := (if_pos c1).symm.trans h
    refine lv_iconst (v := 0) C.x C.b dX8_isUpTo_13 (by decide) ?_
    exact r_z (pr_some h) (by decide) C hP hS dX8_isUpTo_14
  · have h := (if_neg c1).symm.trans h
    refine lv_iload_n C.x C.b dX8_isUpTo_4 rfl (lv_at hl 0 rfl) ?_
    refine lv_iload_n C.x C.b dX8_isUpTo_5 rfl (lv_at hl 1 rfl) ?_
    refine lv_icmp_gt (tgt := 13) C.x C.b dX8_isUpTo_6 (by decide) (fun c2 => ?_) (fun c2 => ?_)
    · have h := (if_pos c2).symm.trans h
      refine lv_iconst (v := 0) C.x C.b dX8_isUpTo_13 (by decide) ?_
      exact r_z (pr_some h) (by decide) C hP hS dX8_isUpTo_14
    · have h := (if_neg c2).symm.trans h
      refine lv_iconst (v := 1) C.x C.b dX8_isUpTo_9 (by decide) ?_
      refine lv_goto (tgt := 14) C.x C.b dX8_isUpTo_10 (by decide) ?_
      exact r_z (pr_some h) (by decide) C hP hS dX8_isUpTo_14

set_option maxRecDepth 100000 in
set_option maxHeartbeats 4000000 in
theorem c_X8_isUpTo {l : Launch} {G : Gp} (hI : Wi G) {x0 : Int32} {x1 : Int32} {μ : Mem} {r : Int32} (h : f_X8_isUpTo x0 x1 μ = some r) : CI l yX8_isUpTo cX8_isUpTo 2 (some .boolean) 0 0 G [.int x0, .int x1] μ r μ :=
  e_all (lv := [(0, .int x0), (1, .int x1)]) hI (by decide) (Nat.le_of_ble_eq_true rfl) rfl (fun p e s m args below meth c ls C hP hS hl => b_X8_isUpTo C h _ _ _ hP hS hl)


def f_X8_quarry (x1 : Int32) (x2 : Int32) (μ : Mem) : Option (Int32 × Mem) := bnv (f_X8_isUpTo x1 99 μ) (fun r2 => if r2 = 0 then (some ((-2), μ)) else (bnv (f_X8_isUpTo x2 9 μ) (fun r5 => if r5 = 0 then (some ((-2), μ)) else (bnd (f_X6_addSite 14 0 x1 x2 μ) (fun r8 μ9 => some (r8, μ9))))))
set_option maxRecDepth 100000 in
set_option maxHeartbeats 4000000 in
theorem b_X8_quarry {p : Program} {l : Launch} {e : Env} {s : State} {m : MethodId} {args : Array Value} {below : List Frame} {meth : Method} {c : Code} {G : Gp} {O : (Int32 × Mem)} (C : Cx p s m args meth c cX8_quarry 3 RX8 (some .int) G) {x1 : Int32} {x2 : Int32} {μ : Mem} (h : f_X8_quarry x1 x2 μ = some O) : ∀ (H : Heap) (locs : List Loc) (ls : Array Slot), Wm G μ H → va_S (wA G) s.heap H locs → lv_has ls 3 [(0, .ref (G.2.2 0)), (1, .int x1), (2, .int x2)] → W p l e (rmm 2 46) s m args below meth c H locs 0 0 (QI below args s G O) (F0 m 0 ls []) := by
  unfold f_X8_quarry at h
  intro H locs ls hP hS hl
  refine lv_iload_n C.x C.b dX8_quarry_0 rfl (lv_at hl 1 rfl) ?_
  refine lv_bipush (v := 99) C.x C.b dX8_quarry_1 (by decide) ?_
  obtain ⟨r2, e1, h⟩ := bnv_some h
  refine k_si (as := [.int x1, .int 99]) (rest := []) (c_X8_isUpTo C.i e1) M_X8_isUpTo u2_105 C hP hS rfl (by decide) hl.1 rfl (Nat.le_of_ble_eq_true rfl) dX8_quarry_3 (fun H locs hP hS => ?_)
  refine lv_if_eq (tgt := 18) C.x C.b dX8_quarry_6 (by decide) (fun c3 => ?_) (fun c3 => ?_)
  · have h := (if_pos c3).symm.trans h
    refine lv_bipush (v := (-2)) C.x C.b dX8_quarry_18 (by decide) ?_
    exact r_i h C hP hS dX8_quarry_20
  · have h := (if_neg c3).symm.trans h
    refine lv_iload_n C.x C.b dX8_quarry_9 rfl (lv_at hl 2 rfl) ?_
    refine lv_bipush (v := 9) C.x C.b dX8_quarry_10 (by decide) ?_
    obtain ⟨r5, e4, h⟩ := bnv_some h
    refine k_si (as := [.int x2, .int 9]) (rest := []) (c_X8_isUpTo C.i e4) M_X8_isUpTo u2_105 C hP hS rfl (by decide) hl.1 rfl (Nat.le_of_ble_eq_true rfl) dX8_quarry_12 (fun H locs hP hS => ?_)
    refine lv_if_ne (tgt := 21) C.x C.b dX8_quarry_15 (by decide) (fun c6 => ?_) (fun c6 => ?_)
    · have h := (if_neg c6).symm.trans h
      refine lv_aload_n C.x C.b dX8_quarry_21 rfl (lv_at hl 0 rfl) ?_
      refine g_ref (k' := 14) F_8_0 u2_79 C hP sh_0 rfl dX8_quarry_22 ?_
      refine lv_iconst (v := 0) C.x C.b dX8_quarry_25 (by decide) ?_
      refine lv_iload_n C.x C.b dX8_quarry_26 rfl (lv_at hl 1 rfl) ?_
      refine lv_iload_n C.x C.b dX8_quarry_27 rfl (lv_at hl 2 rfl) ?_
      obtain ⟨r8, μ9, e7, h⟩ := bnd_some h
      refine k_vi (k := 14) (as := [.int 0, .int x1, .int x2]) (rest := []) (c_X6_addSite C.i at_sState_14 e7) M_X6_addSite u2_108 C hP hS sh_14 rfl rfl (by decide) hl.1 rfl (Nat.le_of_ble_eq_true rfl) dX8_quarry_28 (fun H locs hP hS => ?_)
      exact r_i h C hP hS dX8_quarry_31
    · have h := (if_pos c6).symm.trans h
      refine lv_bipush (v := (-2)) C.x C.b dX8_quarry_18 (by decide) ?_
      exact r_i h C hP hS dX8_quarry_20

set_option maxRecDepth 100000 in
set_option maxHeartbeats 4000000 in
theorem c_X8_quarry {l : Launch} {G : Gp} (hI : Wi G) {x1 : Int32} {x2 : Int32} {μ : Mem} {r : Int32} {μ' : Mem} (h : f_X8_quarry x1 x2 μ = some (r, μ')) : CI l yX8_quarry cX8_quarry 3 (some .int) 2 46 G [.ref (G.2.2 0), .int x1, .int x2] μ r μ' :=
  e_all (lv := [(0, .ref (G.2.2 0)), (1, .int x1), (2, .int x2)]) hI (by decide) (Nat.le_of_ble_eq_true rfl) rfl (fun p e s m args below meth c ls C hP hS hl => b_X8_quarry C h _ _ _ hP hS hl)


def f_X8_work (x1 : Int32) (x2 : Int32) (μ : Mem) : Option (Int32 × Mem) := bnv (f_X8_isUpTo x1 99 μ) (fun r2 => if r2 = 0 then (some ((-2), μ)) else (bnv (f_X8_isUpTo x2 9 μ) (fun r5 => if r5 = 0 then (some ((-2), μ)) else (bnd (f_X6_addSite 14 1 x1 x2 μ) (fun r8 μ9 => some (r8, μ9))))))
set_option maxRecDepth 100000 in
set_option maxHeartbeats 4000000 in
theorem b_X8_work {p : Program} {l : Launch} {e : Env} {s : State} {m : MethodId} {args : Array Value} {below : List Frame} {meth : Method} {c : Code} {G : Gp} {O : (Int32 × Mem)} (C : Cx p s m args meth c cX8_work 3 RX8 (some .int) G) {x1 : Int32} {x2 : Int32} {μ : Mem} (h : f_X8_work x1 x2 μ = some O) : ∀ (H : Heap) (locs : List Loc) (ls : Array Slot), Wm G μ H → va_S (wA G) s.heap H locs → lv_has ls 3 [(0, .ref (G.2.2 0)), (1, .int x1), (2, .int x2)] → W p l e (rmm 2 46) s m args below meth c H locs 0 0 (QI below args s G O) (F0 m 0 ls []) := by
  unfold f_X8_work at h
  intro H locs ls hP hS hl
  refine lv_iload_n C.x C.b dX8_work_0 rfl (lv_at hl 1 rfl) ?_
  refine lv_bipush (v := 99) C.x C.b dX8_work_1 (by decide) ?_
  obtain ⟨r2, e1, h⟩ := bnv_some h
  refine k_si (as := [.int x1, .int 99]) (rest := []) (c_X8_isUpTo C.i e1) M_X8_isUpTo u2_105 C hP hS rfl (by decide) hl.1 rfl (Nat.le_of_ble_eq_true rfl) dX8_work_3 (fun H locs hP hS => ?_)
  refine lv_if_eq (tgt := 18) C.x C.b dX8_work_6 (by decide) (fun c3 => ?_) (fun c3 => ?_)
  · have h := (if_pos c3).symm.trans h
    refine lv_bipush (v := (-2)) C.x C.b dX8_work_18 (by decide) ?_
    exact r_i h C hP hS dX8_work_20
  · have h := (if_neg c3).symm.trans h
    refine lv_iload_n C.x C.b dX8_work_9 rfl (lv_at hl 2 rfl) ?_
    refine lv_bipush (v := 9) C.x C.b dX8_work_10 (by decide) ?_
    obtain ⟨r5, e4, h⟩ := bnv_some h
    refine k_si (as := [.int x2, .int 9]) (rest := []) (c_X8_isUpTo C.i e4) M_X8_isUpTo u2_105 C hP hS rfl (by decide) hl.1 rfl (Nat.le_of_ble_eq_true rfl) dX8_work_12 (fun H locs hP hS => ?_)
    refine lv_if_ne (tgt := 21) C.x C.b dX8_work_15 (by decide) (fun c6 => ?_) (fun c6 => ?_)
    · have h := (if_neg c6).symm.trans h
      refine lv_aload_n C.x C.b dX8_work_21 rfl (lv_at hl 0 rfl) ?_
      refine g_ref (k' := 14) F_8_0 u2_79 C hP sh_0 rfl dX8_work_22 ?_
      refine lv_iconst (v := 1) C.x C.b dX8_work_25 (by decide) ?_
      refine lv_iload_n C.x C.b dX8_work_26 rfl (lv_at hl 1 rfl) ?_
      refine lv_iload_n C.x C.b dX8_work_27 rfl (lv_at hl 2 rfl) ?_
      obtain ⟨r8, μ9, e7, h⟩ := bnd_some h
      refine k_vi (k := 14) (as := [.int 1, .int x1, .int x2]) (rest := []) (c_X6_addSite C.i at_sState_14 e7) M_X6_addSite u2_108 C hP hS sh_14 rfl rfl (by decide) hl.1 rfl (Nat.le_of_ble_eq_true rfl) dX8_work_28 (fun H locs hP hS => ?_)
      exact r_i h C hP hS dX8_work_31
    · have h := (if_pos c6).symm.trans h
      refine lv_bipush (v := (-2)) C.x C.b dX8_work_18 (by decide) ?_
      exact r_i h C hP hS dX8_work_20

set_option maxRecDepth 100000 in
set_option maxHeartbeats 4000000 in
theorem c_X8_work {l : Launch} {G : Gp} (hI : Wi G) {x1 : Int32} {x2 : Int32} {μ : Mem} {r : Int32} {μ' : Mem} (h : f_X8_work x1 x2 μ = some (r, μ')) : CI l yX8_work cX8_work 3 (some .int) 2 46 G [.ref (G.2.2 0), .int x1, .int x2] μ r μ' :=
  e_all (lv := [(0, .ref (G.2.2 0)), (1, .int x1), (2, .int x2)]) hI (by decide) (Nat.le_of_ble_eq_true rfl) rfl (fun p e s m args below meth c ls C hP hS hl => b_X8_work C h _ _ _ hP hS hl)


def f_X8_renew_38 (x1 : Int32) (x2 : Int32) (x3 : Int32) (x4 : Int32)  (z1 : Int32) (μ : Mem) : Option (Int32 × Mem) := bnv (f_X8_isUpTo x4 z1 μ) (fun r2 => if r2 = 0 then (some ((-2), μ)) else (bnd (f_X6_changeSite 14 x1 x2 x3 x4 μ) (fun r5 μ6 => some (r5, μ6))))
set_option maxRecDepth 100000 in
set_option maxHeartbeats 4000000 in
theorem b_X8_renew_38 {p : Program} {l : Launch} {e : Env} {s : State} {m : MethodId} {args : Array Value} {below : List Frame} {meth : Method} {c : Code} {G : Gp} {O : (Int32 × Mem)} (C : Cx p s m args meth c cX8_renew 5 RX8 (some .int) G) {x1 : Int32} {x2 : Int32} {x3 : Int32} {x4 : Int32} : ∀ (z1 : Int32) (μ : Mem), f_X8_renew_38 x1 x2 x3 x4 z1 μ = some O → ∀ (H : Heap) (locs : List Loc) (ls : Array Slot), Wm G μ H → va_S (wA G) s.heap H locs → lv_has ls 5 [(0, .ref (G.2.2 0)), (1, .int x1), (2, .int x2), (3, .int x3), (4, .int x4)] → W p l e (rmm 2 48) s m args below meth c H locs 0 0 (QI below args s G O) (F0 m 38 ls [.int z1, .int x4]) := by
  intro z1 μ h H locs ls hP hS hl
  unfold f_X8_renew_38 at h
  obtain ⟨r2, e1, h⟩ := bnv_some h
  refine k_si (as := [.int x4, .int z1]) (rest := []) (c_X8_isUpTo C.i e1) M_X8_isUpTo u2_105 C hP hS rfl (by decide) hl.1 rfl (Nat.le_of_ble_eq_true rfl) dX8_renew_38 (fun H locs hP hS => ?_)
  refine lv_if_ne (tgt := 47) C.x C.b dX8_renew_41 (by decide) (fun c3 => ?_) (fun c3 => ?_)
  · have h := (if_neg c3).symm.trans h
    refine lv_aload_n C.x C.b dX8_renew_47 rfl (lv_at hl 0 rfl) ?_
    refine g_ref (k' := 14) F_8_0 u2_79 C hP sh_0 rfl dX8_renew_48 ?_
    refine lv_iload_n C.x C.b dX8_renew_51 rfl (lv_at hl 1 rfl) ?_
    refine lv_iload_n C.x C.b dX8_renew_52 rfl (lv_at hl 2 rfl) ?_
    refine lv_iload_n C.x C.b dX8_renew_53 rfl (lv_at hl 3 rfl) ?_
    refine lv_iload C.x C.b dX8_renew_54 (lv_at hl 4 rfl) ?_
    obtain ⟨r5, μ6, e4, h⟩ := bnd_some h
    refine k_vi (k := 14) (as := [.int x1, .int x2, .int x3, .int x4]) (rest := []) (c_X6_changeSite C.i at_sState_14 e4) M_X6_changeSite u2_128 C hP hS sh_14 rfl rfl (by decide) hl.1 rfl (Nat.le_of_ble_eq_true rfl) dX8_renew_56 (fun H locs hP hS => ?_)
    exact r_i h C hP hS dX8_renew_59
  · have h := (if_pos c3).symm.trans h
    refine lv_bipush (v := (-2)) C.x C.b dX8_renew_44 (by decide) ?_
    exact r_i h C hP hS dX8_renew_46

def f_X8_renew (x1 : Int32) (x2 : Int32) (x3 : Int32) (x4 : Int32) (μ : Mem) : Option (Int32 × Mem) := bnv (f_X0_isSite 15 x1 x2 μ) (fun r2 => if r2 = 0 then (some ((-1), μ)) else (bnv (f_X8_isUpTo x3 1 μ) (fun r5 => if r5 = 0 then (some ((-1), μ)) else (if x3 = 0 then (f_X8_renew_38 x1 x2 x3 x4 99 μ) else (f_X8_renew_38 x1 x2 x3 x4 9 μ)))))
set_option maxRecDepth 100000 in
set_option maxHeartbeats 4000000 in
theorem b_X8_renew {p : Program} {l : Launch} {e : Env} {s : State} {m : MethodId} {args : Array Value} {below : List Frame} {meth : Method} {c : Code} {G : Gp} {O : (Int32 × Mem)} (C : Cx p s m args meth c cX8_renew 5 RX8 (some .int) G) {x1 : Int32} {x2 : Int32} {x3 : Int32} {x4 : Int32} {μ : Mem} (h : f_X8_renew x1 x2 x3 x4 μ = some O) : ∀ (H : Heap) (locs : List Loc) (ls : Array Slot), Wm G μ H → va_S (wA G) s.heap H locs → lv_has ls 5 [(0, .ref (G.2.2 0)), (1, .int x1), (2, .int x2), (3, .int x3), (4, .int x4)] → W p l e (rmm 2 48) s m args below meth c H locs 0 0 (QI below args s G O) (F0 m 0 ls []) := by
  unfold f_X8_renew at h
  intro H locs ls hP hS hl
  refine lv_aload_n C.x C.b dX8_renew_0 rfl (lv_at hl 0 rfl) ?_
  refine g_ref (k' := 14) F_8_0 u2_79 C hP sh_0 rfl dX8_renew_1 ?_
  refine g_ref (k' := 15) F_6_0 u1_237 C hP sh_14 rfl dX8_renew_4 ?_
  refine lv_iload_n C.x C.b dX8_renew_7 rfl (lv_at hl 1 rfl) ?_
  refine lv_iload_n C.x C.b dX8_renew_8 rfl (lv_at hl 2 rfl) ?_
  obtain ⟨r2, e1, h⟩ := bnv_some h
  refine k_vi (k := 15) (as := [.int x1, .int x2]) (rest := []) (c_X0_isSite C.i at_sGround_15 e1) M_X0_isSite u2_124 C hP hS sh_15 rfl rfl (by decide) hl.1 rfl (Nat.le_of_ble_eq_true rfl) dX8_renew_9 (fun H locs hP hS => ?_)
  refine lv_if_eq (tgt := 23) C.x C.b dX8_renew_12 (by decide) (fun c3 => ?_) (fun c3 => ?_)
  · have h := (if_pos c3).symm.trans h
    refine lv_iconst (v := (-1)) C.x C.b dX8_renew_23 (by decide) ?_
    exact r_i h C hP hS dX8_renew_24
  · have h := (if_neg c3).symm.trans h
    refine lv_iload_n C.x C.b dX8_renew_15 rfl (lv_at hl 3 rfl) ?_
    refine lv_iconst (v := 1) C.x C.b dX8_renew_16 (by decide) ?_
    obtain ⟨r5, e4, h⟩ := bnv_some h
    refine k_si (as := [.int x3, .int 1]) (rest := []) (c_X8_isUpTo C.i e4) M_X8_isUpTo u2_105 C hP hS rfl (by decide) hl.1 rfl (Nat.le_of_ble_eq_true rfl) dX8_renew_17 (fun H locs hP hS => ?_)
    refine lv_if_ne (tgt := 25) C.x C.b dX8_renew_20 (by decide) (fun c6 => ?_) (fun c6 => ?_)
    · have h := (if_neg c6).symm.trans h
      refine lv_iload C.x C.b dX8_renew_25 (lv_at hl 4 rfl) ?_
      refine lv_iload_n C.x C.b dX8_renew_27 rfl (lv_at hl 3 rfl) ?_
      refine lv_if_ne (tgt := 36) C.x C.b dX8_renew_28 (by decide) (fun c7 => ?_) (fun c7 => ?_)
      · have h := (if_neg c7).symm.trans h
        refine lv_bipush (v := 9) C.x C.b dX8_renew_36 (by decide) ?_
        exact b_X8_renew_38 C 9 μ h _ _ _ hP hS (lv_sub hl [0, 1, 2, 3, 4] rfl)
      · have h := (if_pos c7).symm.trans h
        refine lv_bipush (v := 99) C.x C.b dX8_renew_31 (by decide) ?_
        refine lv_goto (tgt := 38) C.x C.b dX8_renew_33 (by decide) ?_
        exact b_X8_renew_38 C 99 μ h _ _ _ hP hS (lv_sub hl [0, 1, 2, 3, 4] rfl)
    · have h := (if_pos c6).symm.trans h
      refine lv_iconst (v := (-1)) C.x C.b dX8_renew_23 (by decide) ?_
      exact r_i h C hP hS dX8_renew_24

set_option maxRecDepth 100000 in
set_option maxHeartbeats 4000000 in
theorem c_X8_renew {l : Launch} {G : Gp} (hI : Wi G) {x1 : Int32} {x2 : Int32} {x3 : Int32} {x4 : Int32} {μ : Mem} {r : Int32} {μ' : Mem} (h : f_X8_renew x1 x2 x3 x4 μ = some (r, μ')) : CI l yX8_renew cX8_renew 5 (some .int) 2 48 G [.ref (G.2.2 0), .int x1, .int x2, .int x3, .int x4] μ r μ' :=
  e_all (lv := [(0, .ref (G.2.2 0)), (1, .int x1), (2, .int x2), (3, .int x3), (4, .int x4)]) hI (by decide) (Nat.le_of_ble_eq_true rfl) rfl (fun p e s m args below meth c ls C hP hS hl => b_X8_renew C h _ _ _ hP hS hl)

