def g_X2_firstOf_2 (a0 : Nat) (n0 : Nat)  (μ : Mem) (q2 : Int32 → Option Int32) (x1 : Int32) : Option Int32 := if 6 ≤ x1 then (some 0) else (grd (inb x1 n0) (if (μ.1 a0 x1.toNatClampNeg) = 0 then (lt (x1 + 1) (fun y4 => q2 y4)) else (some x1)))
def f_X2_firstOf_2 (a0 : Nat) (n0 : Nat)  (μ : Mem) : Nat → Int32 → Option Int32
  | 0, _ => none
  | n + 1, x1 => g_X2_firstOf_2 a0 n0 μ (f_X2_firstOf_2 a0 n0 μ n) x1
set_option maxRecDepth 100000 in
set_option maxHeartbeats 4000000 in
theorem w_X2_firstOf_2 {p : Program} {l : Launch} {e : Env} {s : State} {m : MethodId} {args : Array Value} {below : List Frame} {meth : Method} {c : Code} {G : Gp} {O : Int32} (C : Cx p s m args meth c cX2_firstOf 2 RX2 (some .int) G) {a0 : Nat} {n0 : Nat} {μ : Mem} (hs0 : shp[a0]? = some (.inr (1, n0))) {q2 : Int32 → Option Int32} (hq2 : ∀ (x1 : Int32), q2 x1 = some O → ∀ (H : Heap) (locs : List Loc) (ls : Array Slot), Wm G μ H → va_S (wA G) s.heap H locs → lv_has ls 2 [(0, .ref (G.2.2 a0)), (1, .int x1)] → W p l e (rmm 0 0) s m args below meth c H locs 0 0 (QI below args s G (O, μ)) (F0 m 2 ls [])) : ∀ (x1 : Int32), g_X2_firstOf_2 a0 n0 μ q2 x1 = some O → ∀ (H : Heap) (locs : List Loc) (ls : Array Slot), Wm G μ H → va_S (wA G) s.heap H locs → lv_has ls 2 [(0, .ref (G.2.2 a0)), (1, .int x1)] → W p l e (rmm 0 0) s m args below meth c H locs 0 0 (QI below args s G (O, μ)) (F0 m 2 ls []) := by
  intro x1 h H locs ls hP hS hl
  unfold g_X2_firstOf_2 at h
  refine lv_iload_n C.x C.b dX2_firstOf_2 rfl (lv_at hl 1 rfl) ?_
  refine lv_bipush (v := 6) C.x C.b dX2_firstOf_3 (by decide) ?_
  refine lv_icmp_ge (tgt := 22) C.x C.b dX2_firstOf_5 (by decide) (fun c1 => ?_) (fun c1 => ?_)
  · have h := (if_pos c1).symm.trans h
    refine lv_iconst (v := 0) C.x C.b dX2_firstOf_22 (by decide) ?_
    exact r_i (pr_some h) C hP hS dX2_firstOf_23
  · have h := (if_neg c1).symm.trans h
    refine lv_aload_n C.x C.b dX2_firstOf_8 rfl (lv_at hl 0 rfl) ?_
    refine lv_iload_n C.x C.b dX2_firstOf_9 rfl (lv_at hl 1 rfl) ?_
    obtain ⟨g2, h⟩ := grd_some h
    refine a_z C hP hs0 g2 dX2_firstOf_10 ?_
    refine lv_if_eq (tgt := 16) C.x C.b dX2_firstOf_11 (by decide) (fun c3 => ?_) (fun c3 => ?_)
    · have h := (if_pos c3).symm.trans h
      obtain ⟨y4, e_y4, h⟩ := lt_ex h
      refine lv_iinc (v := y4) (lv' := [(1, .int y4), (0, .ref (G.2.2 a0))]) C.x C.b dX2_firstOf_16 hl (k := 1) rfl (by rw [e_y4]; rfl) (by decide) rfl (fun ls hl => ?_)
      refine lv_goto (tgt := 2) C.x C.b dX2_firstOf_19 (by decide) ?_
      exact hq2 y4 h _ _ _ hP hS (lv_sub hl [1, 0] rfl)
    · have h := (if_neg c3).symm.trans h
      refine lv_iload_n C.x C.b dX2_firstOf_14 rfl (lv_at hl 1 rfl) ?_
      exact r_i (pr_some h) C hP hS dX2_firstOf_15

set_option maxRecDepth 100000 in
set_option maxHeartbeats 4000000 in
theorem b_X2_firstOf_2 {p : Program} {l : Launch} {e : Env} {s : State} {m : MethodId} {args : Array Value} {below : List Frame} {meth : Method} {c : Code} {G : Gp} {O : Int32} (C : Cx p s m args meth c cX2_firstOf 2 RX2 (some .int) G) {a0 : Nat} {n0 : Nat} {μ : Mem} (hs0 : shp[a0]? = some (.inr (1, n0))) : ∀ (n : Nat) (x1 : Int32), f_X2_firstOf_2 a0 n0 μ n x1 = some O → ∀ (H : Heap) (locs : List Loc) (ls : Array Slot), Wm G μ H → va_S (wA G) s.heap H locs → lv_has ls 2 [(0, .ref (G.2.2 a0)), (1, .int x1)] → W p l e (rmm 0 0) s m args below meth c H locs 0 0 (QI below args s G (O, μ)) (F0 m 2 ls []) := by
  intro n
  induction n with
  | zero => intro x1 h; cases h
  | succ n ih => intro x1 h; exact w_X2_firstOf_2 C hs0 (q2 := f_X2_firstOf_2 a0 n0 μ n) ih x1 h

def f_X2_firstOf (a0 : Nat) (n0 : Nat) (μ : Mem) : Option Int32 := f_X2_firstOf_2 a0 n0 μ FU 0
set_option maxRecDepth 100000 in
set_option maxHeartbeats 4000000 in
theorem b_X2_firstOf {p : Program} {l : Launch} {e : Env} {s : State} {m : MethodId} {args : Array Value} {below : List Frame} {meth : Method} {c : Code} {G : Gp} {O : Int32} (C : Cx p s m args meth c cX2_firstOf 2 RX2 (some .int) G) {a0 : Nat} {n0 : Nat} {μ : Mem} (hs0 : shp[a0]? = some (.inr (1, n0))) (h : f_X2_firstOf a0 n0 μ = some O) : ∀ (H : Heap) (locs : List Loc) (ls : Array Slot), Wm G μ H → va_S (wA G) s.heap H locs → lv_has ls 2 [(0, .ref (G.2.2 a0))] → W p l e (rmm 0 0) s m args below meth c H locs 0 0 (QI below args s G (O, μ)) (F0 m 0 ls []) := by
  unfold f_X2_firstOf at h
  intro H locs ls hP hS hl
  refine lv_iconst (v := 0) C.x C.b dX2_firstOf_0 (by decide) ?_
  refine lv_istore_n (lv' := [(1, .int 0), (0, .ref (G.2.2 a0))]) C.x C.b dX2_firstOf_1 rfl hl (by decide) rfl (fun ls hl => ?_)
  exact b_X2_firstOf_2 C hs0 FU 0 h _ _ _ hP hS (lv_sub hl [1, 0] rfl)

set_option maxRecDepth 100000 in
set_option maxHeartbeats 4000000 in
theorem c_X2_firstOf {l : Launch} {G : Gp} (hI : Wi G) {a0 : Nat} {n0 : Nat} (hs0 : shp[a0]? = some (.inr (1, n0))) {μ : Mem} {r : Int32} (h : f_X2_firstOf a0 n0 μ = some r) : CI l yX2_firstOf cX2_firstOf 2 (some .int) 0 0 G [.ref (G.2.2 a0)] μ r μ :=
  e_all (lv := [(0, .ref (G.2.2 a0))]) hI (by decide) (Nat.le_of_ble_eq_true rfl) rfl (fun p e s m args below meth c ls C hP hS hl => b_X2_firstOf C hs0 h _ _ _ hP hS hl)


def f_X2_pickCorner (k : Nat) (μ : Mem) : Option Mem := bnv (f_X2_firstOf (k + 1) 6 μ) (fun r2 => lt (st μ k 4 r2) (fun μ3 => bnv (f_X2_firstOf (k + 2) 6 μ3) (fun r5 => lt (st μ3 k 5 r5) (fun μ6 => some μ6))))
set_option maxRecDepth 100000 in
set_option maxHeartbeats 4000000 in
theorem b_X2_pickCorner {p : Program} {l : Launch} {e : Env} {s : State} {m : MethodId} {args : Array Value} {below : List Frame} {meth : Method} {c : Code} {G : Gp} {O : Mem} (C : Cx p s m args meth c cX2_pickCorner 1 RX2 none G) {k : Nat} (hA : At sOpening k) {μ : Mem} (h : f_X2_pickCorner k μ = some O) : ∀ (H : Heap) (locs : List Loc) (ls : Array Slot), Wm G μ H → va_S (wA G) s.heap H locs → lv_has ls 1 [(0, .ref (G.2.2 k))] → W p l e (rmm 1 21) s m args below meth c H locs 0 0 (QV below args s G O) (F0 m 0 ls []) := by
  unfold f_X2_pickCorner at h
  intro H locs ls hP hS hl
  have q_k_0 : shp[k]? = some (.inl (2, fs2)) := hA 0 _ rfl
  have q_k_1 : shp[k + 1]? = some (.inr (1, 6)) := hA 1 _ rfl
  have q_k_2 : shp[k + 2]? = some (.inr (1, 6)) := hA 2 _ rfl
  refine lv_aload_n C.x C.b dX2_pickCorner_0 rfl (lv_at hl 0 rfl) ?_
  refine lv_aload_n C.x C.b dX2_pickCorner_1 rfl (lv_at hl 0 rfl) ?_
  refine g_ref (k' := k + 1) F_2_6 u1_101 C hP q_k_0 rfl dX2_pickCorner_2 ?_
  obtain ⟨r2, e1, h⟩ := bnv_some h
  refine k_si (as := [.ref (G.2.2 (k + 1))]) (rest := [.ref (G.2.2 k)]) (c_X2_firstOf C.i q_k_1 e1) M_X2_firstOf u3_20 C hP hS rfl (by decide) hl.1 rfl (Nat.le_of_ble_eq_true rfl) dX2_pickCorner_5 (fun H locs hP hS => ?_)
  refine p_int F_2_4 P_2_4 u1_97 C hP hS q_k_0 dX2_pickCorner_8 (fun H locs hP hS => ?_)
  obtain ⟨μ3, m_μ3, h⟩ := lt_ex h
  have hP : Wm G μ3 H := by rw [m_μ3]; exact hP
  refine lv_aload_n C.x C.b dX2_pickCorner_11 rfl (lv_at hl 0 rfl) ?_
  refine lv_aload_n C.x C.b dX2_pickCorner_12 rfl (lv_at hl 0 rfl) ?_
  refine g_ref (k' := k + 2) F_2_7 u1_102 C hP q_k_0 rfl dX2_pickCorner_13 ?_
  obtain ⟨r5, e4, h⟩ := bnv_some h
  refine k_si (as := [.ref (G.2.2 (k + 2))]) (rest := [.ref (G.2.2 k)]) (c_X2_firstOf C.i q_k_2 e4) M_X2_firstOf u3_20 C hP hS rfl (by decide) hl.1 rfl (Nat.le_of_ble_eq_true rfl) dX2_pickCorner_16 (fun H locs hP hS => ?_)
  refine p_int F_2_5 P_2_5 u1_99 C hP hS q_k_0 dX2_pickCorner_19 (fun H locs hP hS => ?_)
  obtain ⟨μ6, m_μ6, h⟩ := lt_ex h
  have hP : Wm G μ6 H := by rw [m_μ6]; exact hP
  exact r_v h C hP hS dX2_pickCorner_22

set_option maxRecDepth 100000 in
set_option maxHeartbeats 4000000 in
theorem c_X2_pickCorner {l : Launch} {G : Gp} (hI : Wi G) {k : Nat} (hA : At sOpening k) {μ : Mem} {μ' : Mem} (h : f_X2_pickCorner k μ = some μ') : CV l yX2_pickCorner cX2_pickCorner 1 none 1 21 G [.ref (G.2.2 k)] μ μ' :=
  e_all (lv := [(0, .ref (G.2.2 k))]) hI (by decide) (Nat.le_of_ble_eq_true rfl) rfl (fun p e s m args below meth c ls C hP hS hl => b_X2_pickCorner C hA h _ _ _ hP hS hl)


def g_X2_pickLeast_16 (k : Nat) (a1 : Nat) (n1 : Nat) (q5 : Int32 → Int32 → Mem → Option Mem) (q16 : Int32 → Int32 → Int32 → Mem → Option Mem) (x2 : Int32) (x3 : Int32) (x4 : Int32) (μ : Mem) : Option Mem := if (μ.1 k 1) ≤ x4 then (lt (x3 + 1) (fun y2 => q5 x2 y2 μ)) else (grd (inb x3 6) (if (μ.1 (k + 1) x3.toNatClampNeg) = 0 then (lt (x4 + 1) (fun y5 => q16 x2 x3 y5 μ)) else (grd (inb x4 6) (if (μ.1 (k + 2) x4.toNatClampNeg) = 0 then (lt (x4 + 1) (fun y8 => q16 x2 x3 y8 μ)) else (bnv (f_X8_cellAt x3 x4 μ) (fun r10 => grd (inb r10 n1) (if x2 ≤ (μ.1 a1 r10.toNatClampNeg) then (lt (x4 + 1) (fun y13 => q16 x2 x3 y13 μ)) else (bnv (f_X8_cellAt x3 x4 μ) (fun r15 => grd (inb r15 n1) (lt (μ.1 a1 r15.toNatClampNeg) (fun y17 => lt (st μ k 4 x3) (fun μ18 => lt (st μ18 k 5 x4) (fun μ19 => lt (x4 + 1) (fun y20 => q16 y17 x3 y20 μ19))))))))))))))
def f_X2_pickLeast_16 (k : Nat) (a1 : Nat) (n1 : Nat) (q5 : Int32 → Int32 → Mem → Option Mem) : Nat → Int32 → Int32 → Int32 → Mem → Option Mem
  | 0, _, _, _, _ => none
  | n + 1, x2, x3, x4, μ => g_X2_pickLeast_16 k a1 n1 q5 (f_X2_pickLeast_16 k a1 n1 q5 n) x2 x3 x4 μ
set_option maxRecDepth 100000 in
set_option maxHeartbeats 4000000 in
theorem w_X2_pickLeast_16 {p : Program} {l : Launch} {e : Env} {s : State} {m : MethodId} {args : Array Value} {below : List Frame} {meth : Method} {c : Code} {G : Gp} {O : Mem} (C : Cx p s m args meth c cX2_pickLeast 5 RX2 none G) {k : Nat} {a1 : Nat} {n1 : Nat} (hA : At sOpening k) (hs1 : shp[a1]? = some (.inr (0, n1))) {q5 : Int32 → Int32 → Mem → Option Mem} (hq5 : ∀ (x2 : Int32) (x3 : Int32) (μ : Mem), q5 x2 x3 μ = some O → ∀ (H : Heap) (locs : List Loc) (ls : Array Slot), Wm G μ H → va_S (wA G) s.heap H locs → lv_has ls 5 [(0, .ref (G.2.2 k)), (1, .ref (G.2.2 a1)), (2, .int x2), (3, .int x3)] → W p l e (rmm 1 21) s m args below meth c H locs 0 0 (QV below args s G O) (F0 m 5 ls [])) {q16 : Int32 → Int32 → Int32 → Mem → Option Mem} (hq16 : ∀ (x2 : Int32) (x3 : Int32) (x4 : Int32) (μ : Mem), q16 x2 x3 x4 μ = some O → ∀ (H : Heap) (locs : List Loc) (ls : Array Slot), Wm G μ H → va_S (wA G) s.heap H locs → lv_has ls 5 [(0, .ref (G.2.2 k)), (1, .ref (G.2.2 a1)), (2, .int x2), (3, .int x3), (4, .int x4)] → W p l e (rmm 1 21) s m args below meth c H locs 0 0 (QV below args s G O) (F0 m 16 ls [])) : ∀ (x2 : Int32) (x3 : Int32) (x4 : Int32) (μ : Mem), g_X2_pickLeast_16 k a1 n1 q5 q16 x2 x3 x4 μ = some O → ∀ (H : Heap) (locs : List Loc) (ls : Array Slot), Wm G μ H → va_S (wA G) s.heap H locs → lv_has ls 5 [(0, .ref (G.2.2 k)), (1, .ref (G.2.2 a1)), (2, .int x2), (3, .int x3), (4, .int x4)] → W p l e (rmm 1 21) s m args below meth c H locs 0 0 (QV below args s G O) (F0 m 16 ls []) := by
  intro x2 x3 x4 μ h H locs ls hP hS hl
  unfold g_X2_pickLeast_16 at h
  have q_k_0 : shp[k]? = some (.inl (2, fs2)) := hA 0 _ rfl
  have q_k_1 : shp[k + 1]? = some (.inr (1, 6)) := hA 1 _ rfl
  have q_k_2 : shp[k + 2]? = some (.inr (1, 6)) := hA 2 _ rfl
  refine lv_iload C.x C.b dX2_pickLeast_16 (lv_at hl 4 rfl) ?_
  refine lv_aload_n C.x C.b dX2_pickLeast_18 rfl (lv_at hl 0 rfl) ?_
  refine g_int F_2_1 u1_92 C hP q_k_0 dX2_pickLeast_19 ?_
  refine lv_icmp_ge (tgt := 82) C.x C.b dX2_pickLeast_22 (by decide) (fun c1 => ?_) (fun c1 => ?_)
  · have h := (if_pos c1).symm.trans h
    obtain ⟨y2, e_y2, h⟩ := lt_ex h
    refine lv_iinc (v := y2) (lv' := [(3, .int y2), (0, .ref (G.2.2 k)), (1, .ref (G.2.2 a1)), (2, .int x2), (4, .int x4)]) C.x C.b dX2_pickLeast_82 hl (k := 3) rfl (by rw [e_y2]; rfl) (by decide) rfl (fun ls hl => ?_)
    refine lv_goto (tgt := 5) C.x C.b dX2_pickLeast_85 (by decide) ?_
    exact hq5 x2 y2 μ h _ _ _ hP hS (lv_sub hl [1, 2, 3, 0] rfl)
  · have h := (if_neg c1).symm.trans h
    refine lv_aload_n C.x C.b dX2_pickLeast_25 rfl (lv_at hl 0 rfl) ?_
    refine g_ref (k' := k + 1) F_2_6 u1_101 C hP q_k_0 rfl dX2_pickLeast_26 ?_
    refine lv_iload_n C.x C.b dX2_pickLeast_29 rfl (lv_at hl 3 rfl) ?_
    obtain ⟨g3, h⟩ := grd_some h
    refine a_z C hP q_k_1 g3 dX2_pickLeast_30 ?_
    refine lv_if_eq (tgt := 76) C.x C.b dX2_pickLeast_31 (by decide) (fun c4 => ?_) (fun c4 => ?_)
    · have h := (if_pos c4).symm.trans h
      obtain ⟨y5, e_y5, h⟩ := lt_ex h
      refine lv_iinc (v := y5) (lv' := [(4, .int y5), (0, .ref (G.2.2 k)), (1, .ref (G.2.2 a1)), (2, .int x2), (3, .int x3)]) C.x C.b dX2_pickLeast_76 hl (k := 4) rfl (by rw [e_y5]; rfl) (by decide) rfl (fun ls hl => ?_)
      refine lv_goto (tgt := 16) C.x C.b dX2_pickLeast_79 (by decide) ?_
      exact hq16 x2 x3 y5 μ h _ _ _ hP hS (lv_sub hl [1, 2, 3, 4, 0] rfl)
    · have h := (if_neg c4).symm.trans h
      refine lv_aload_n C.x C.b dX2_pickLeast_34 rfl (lv_at hl 0 rfl) ?_
      refine g_ref (k' := k + 2) F_2_7 u1_102 C hP q_k_0 rfl dX2_pickLeast_35 ?_
      refine lv_iload C.x C.b dX2_pickLeast_38 (lv_at hl 4 rfl) ?_
      obtain ⟨g6, h⟩ := grd_some h
      refine a_z C hP q_k_2 g6 dX2_pickLeast_40 ?_
      refine lv_if_eq (tgt := 76) C.x C.b dX2_pickLeast_41 (by decide) (fun c7 => ?_) (fun c7 => ?_)
      · have h := (if_pos c7).symm.trans h
        obtain ⟨y8, e_y8, h⟩ := lt_ex h
        refine lv_iinc (v := y8) (lv' := [(4, .int y8), (0, .ref (G.2.2 k)), (1, .ref (G.2.2 a1)), (2, .int x2), (3, .int x3)]) C.x C.b dX2_pickLeast_76 hl (k := 4) rfl (by rw [e_y8]; rfl) (by decide) rfl (fun ls hl => ?_)
        refine lv_goto (tgt := 16) C.x C.b dX2_pickLeast_79 (by decide) ?_
        exact hq16 x2 x3 y8 μ h _ _ _ hP hS (lv_sub hl [1, 2, 3, 4, 0] rfl)
      · have h := (if_neg c7).symm.trans h
        refine lv_aload_n C.x C.b dX2_pickLeast_44 rfl (lv_at hl 1 rfl) ?_
        refine lv_iload_n C.x C.b dX2_pickLeast_45 rfl (lv_at hl 3 rfl) ?_
        refine lv_iload C.x C.b dX2_pickLeast_46 (lv_at hl 4 rfl) ?_
        obtain ⟨r10, e9, h⟩ := bnv_some h
        refine k_ni (as := [.int x3, .int x4]) (rest := [.ref (G.2.2 a1)]) (c_X8_cellAt C.i e9) M_X8_cellAt n_RX2_92 C hP hS rfl (by decide) hl.1 rfl (Nat.le_of_ble_eq_true rfl) dX2_pickLeast_48 (fun H locs hP hS => ?_)
        obtain ⟨g11, h⟩ := grd_some h
        refine a_i C hP hs1 g11 dX2_pickLeast_51 ?_
        refine lv_iload_n C.x C.b dX2_pickLeast_52 rfl (lv_at hl 2 rfl) ?_
        refine lv_icmp_ge (tgt := 76) C.x C.b dX2_pickLeast_53 (by decide) (fun c12 => ?_) (fun c12 => ?_)
        · have h := (if_pos c12).symm.trans h
          obtain ⟨y13, e_y13, h⟩ := lt_ex h
          refine lv_iinc (v := y13) (lv' := [(4, .int y13), (0, .ref (G.2.2 k)), (1, .ref (G.2.2 a1)), (2, .int x2), (3, .int x3)]) C.x C.b dX2_pickLeast_76 hl (k := 4) rfl (by rw [e_y13]; rfl) (by decide) rfl (fun ls hl => ?_)
          refine lv_goto (tgt := 16) C.x C.b dX2_pickLeast_79 (by decide) ?_
          exact hq16 x2 x3 y13 μ h _ _ _ hP hS (lv_sub hl [1, 2, 3, 4, 0] rfl)
        · have h := (if_neg c12).symm.trans h
          refine lv_aload_n C.x C.b dX2_pickLeast_56 rfl (lv_at hl 1 rfl) ?_
          refine lv_iload_n C.x C.b dX2_pickLeast_57 rfl (lv_at hl 3 rfl) ?_
          refine lv_iload C.x C.b dX2_pickLeast_58 (lv_at hl 4 rfl) ?_
          obtain ⟨r15, e14, h⟩ := bnv_some h
          refine k_ni (as := [.int x3, .int x4]) (rest := [.ref (G.2.2 a1)]) (c_X8_cellAt C.i e14) M_X8_cellAt n_RX2_92 C hP hS rfl (by decide) hl.1 rfl (Nat.le_of_ble_eq_true rfl) dX2_pickLeast_60 (fun H locs hP hS => ?_)
          obtain ⟨g16, h⟩ := grd_some h
          refine a_i C hP hs1 g16 dX2_pickLeast_63 ?_
          refine lv_topi (fun y17 e_y17 => ?_)
          have h := lt_at h e_y17
          refine lv_istore_n (lv' := [(2, .int y17), (0, .ref (G.2.2 k)), (1, .ref (G.2.2 a1)), (3, .int x3), (4, .int x4)]) C.x C.b dX2_pickLeast_64 rfl hl (by decide) rfl (fun ls hl => ?_)
          refine lv_aload_n C.x C.b dX2_pickLeast_65 rfl (lv_at hl 1 rfl) ?_
          refine lv_iload_n C.x C.b dX2_pickLeast_66 rfl (lv_at hl 3 rfl) ?_
          refine p_int F_2_4 P_2_4 u1_97 C hP hS q_k_0 dX2_pickLeast_67 (fun H locs hP hS => ?_)
          obtain ⟨μ18, m_μ18, h⟩ := lt_ex h
          have hP : Wm G μ18 H := by rw [m_μ18]; exact hP
          refine lv_aload_n C.x C.b dX2_pickLeast_70 rfl (lv_at hl 1 rfl) ?_
          refine lv_iload C.x C.b dX2_pickLeast_71 (lv_at hl 4 rfl) ?_
          refine p_int F_2_5 P_2_5 u1_99 C hP hS q_k_0 dX2_pickLeast_73 (fun H locs hP hS => ?_)
          obtain ⟨μ19, m_μ19, h⟩ := lt_ex h
          have hP : Wm G μ19 H := by rw [m_μ19]; exact hP
          obtain ⟨y20, e_y20, h⟩ := lt_ex h
          refine lv_iinc (v := y20) (lv' := [(4, .int y20), (2, .int y17), (0, .ref (G.2.2 k)), (1, .ref (G.2.2 a1)), (3, .int x3)]) C.x C.b dX2_pickLeast_76 hl (k := 4) rfl (by rw [e_y20]; rfl) (by decide) rfl (fun ls hl => ?_)
          refine lv_goto (tgt := 16) C.x C.b dX2_pickLeast_79 (by decide) ?_
          exact hq16 y17 x3 y20 μ19 h _ _ _ hP hS (lv_sub hl [2, 3, 1, 4, 0] rfl)

set_option maxRecDepth 100000 in
set_option maxHeartbeats 4000000 in
theorem b_X2_pickLeast_16 {p : Program} {l : Launch} {e : Env} {s : State} {m : MethodId} {args : Array Value} {below : List Frame} {meth : Method} {c : Code} {G : Gp} {O : Mem} (C : Cx p s m args meth c cX2_pickLeast 5 RX2 none G) {k : Nat} {a1 : Nat} {n1 : Nat} (hA : At sOpening k) (hs1 : shp[a1]? = some (.inr (0, n1))) {q5 : Int32 → Int32 → Mem → Option Mem} (hq5 : ∀ (x2 : Int32) (x3 : Int32) (μ : Mem), q5 x2 x3 μ = some O → ∀ (H : Heap) (locs : List Loc) (ls : Array Slot), Wm G μ H → va_S (wA G) s.heap H locs → lv_has ls 5 [(0, .ref (G.2.2 k)), (1, .ref (G.2.2 a1)), (2, .int x2), (3, .int x3)] → W p l e (rmm 1 21) s m args below meth c H locs 0 0 (QV below args s G O) (F0 m 5 ls [])) : ∀ (n : Nat) (x2 : Int32) (x3 : Int32) (x4 : Int32) (μ : Mem), f_X2_pickLeast_16 k a1 n1 q5 n x2 x3 x4 μ = some O → ∀ (H : Heap) (locs : List Loc) (ls : Array Slot), Wm G μ H → va_S (wA G) s.heap H locs → lv_has ls 5 [(0, .ref (G.2.2 k)), (1, .ref (G.2.2 a1)), (2, .int x2), (3, .int x3), (4, .int x4)] → W p l e (rmm 1 21) s m args below meth c H locs 0 0 (QV below args s G O) (F0 m 16 ls []) := by
  intro n
  induction n with
  | zero => intro x2 x3 x4 μ h; cases h
  | succ n ih => intro x2 x3 x4 μ h; exact w_X2_pickLeast_16 C hA hs1 hq5 (q16 := f_X2_pickLeast_16 k a1 n1 q5 n) ih x2 x3 x4 μ h

def g_X2_pickLeast_5 (k : Nat) (a1 : Nat) (n1 : Nat)  (q5 : Int32 → Int32 → Mem → Option Mem) (x2 : Int32) (x3 : Int32) (μ : Mem) : Option Mem := if (μ.1 k 0) ≤ x3 then (some μ) else (f_X2_pickLeast_16 k a1 n1 q5 FU x2 x3 0 μ)
def f_X2_pickLeast_5 (k : Nat) (a1 : Nat) (n1 : Nat)  : Nat → Int32 → Int32 → Mem → Option Mem
  | 0, _, _, _ => none
  | n + 1, x2, x3, μ => g_X2_pickLeast_5 k a1 n1 (f_X2_pickLeast_5 k a1 n1 n) x2 x3 μ
set_option maxRecDepth 100000 in
set_option maxHeartbeats 4000000 in
theorem w_X2_pickLeast_5 {p : Program} {l : Launch} {e : Env} {s : State} {m : MethodId} {args : Array Value} {below : List Frame} {meth : Method} {c : Code} {G : Gp} {O : Mem} (C : Cx p s m args meth c cX2_pickLeast 5 RX2 none G) {k : Nat} {a1 : Nat} {n1 : Nat} (hA : At sOpening k) (hs1 : shp[a1]? = some (.inr (0, n1))) {q5 : Int32 → Int32 → Mem → Option Mem} (hq5 : ∀ (x2 : Int32) (x3 : Int32) (μ : Mem), q5 x2 x3 μ = some O → ∀ (H : Heap) (locs : List Loc) (ls : Array Slot), Wm G μ H → va_S (wA G) s.heap H locs → lv_has ls 5 [(0, .ref (G.2.2 k)), (1, .ref (G.2.2 a1)), (2, .int x2), (3, .int x3)] → W p l e (rmm 1 21) s m args below meth c H locs 0 0 (QV below args s G O) (F0 m 5 ls [])) : ∀ (x2 : Int32) (x3 : Int32) (μ : Mem), g_X2_pickLeast_5 k a1 n1 q5 x2 x3 μ = some O → ∀ (H : Heap) (locs : List Loc) (ls : Array Slot), Wm G μ H → va_S (wA G) s.heap H locs → lv_has ls 5 [(0, .ref (G.2.2 k)), (1, .ref (G.2.2 a1)), (2, .int x2), (3, .int x3)] → W p l e (rmm 1 21) s m args below meth c H locs 0 0 (QV below args s G O) (F0 m 5 ls []) := by
  intro x2 x3 μ h H locs ls hP hS hl
  unfold g_X2_pickLeast_5 at h
  have q_k_0 : shp[k]? = some (.inl (2, fs2)) := hA 0 _ rfl
  refine lv_iload_n C.x C.b dX2_pickLeast_5 rfl (lv_at hl 3 rfl) ?_
  refine lv_aload_n C.x C.b dX2_pickLeast_6 rfl (lv_at hl 0 rfl) ?_
  refine g_int F_2_0 u1_90 C hP q_k_0 dX2_pickLeast_7 ?_
  refine lv_icmp_ge (tgt := 88) C.x C.b dX2_pickLeast_10 (by decide) (fun c1 => ?_) (fun c1 => ?_)
  · have h := (if_pos c1).symm.trans h
    exact r_v h C hP hS dX2_pickLeast_88
  · have h := (if_neg c1).symm.trans h
    refine lv_iconst (v := 0) C.x C.b dX2_pickLeast_13 (by decide) ?_
    refine lv_istore (lv' := [(4, .int 0), (0, .ref (G.2.2 k)), (1, .ref (G.2.2 a1)), (2, .int x2), (3, .int x3)]) C.x C.b dX2_pickLeast_14 hl (by decide) rfl (fun ls hl => ?_)
    exact b_X2_pickLeast_16 C hA hs1 hq5 FU x2 x3 0 μ h _ _ _ hP hS (lv_sub hl [1, 2, 3, 4, 0] rfl)

set_option maxRecDepth 100000 in
set_option maxHeartbeats 4000000 in
theorem b_X2_pickLeast_5 {p : Program} {l : Launch} {e : Env} {s : State} {m : MethodId} {args : Array Value} {below : List Frame} {meth : Method} {c : Code} {G : Gp} {O : Mem} (C : Cx p s m args meth c cX2_pickLeast 5 RX2 none G) {k : Nat} {a1 : Nat} {n1 : Nat} (hA : At sOpening k) (hs1 : shp[a1]? = some (.inr (0, n1))) : ∀ (n : Nat) (x2 : Int32) (x3 : Int32) (μ : Mem), f_X2_pickLeast_5 k a1 n1 n x2 x3 μ = some O → ∀ (H : Heap) (locs : List Loc) (ls : Array Slot), Wm G μ H → va_S (wA G) s.heap H locs → lv_has ls 5 [(0, .ref (G.2.2 k)), (1, .ref (G.2.2 a1)), (2, .int x2), (3, .int x3)] → W p l e (rmm 1 21) s m args below meth c H locs 0 0 (QV below args s G O) (F0 m 5 ls []) := by
  intro n
  induction n with
  | zero => intro x2 x3 μ h; cases h
  | succ n ih => intro x2 x3 μ h; exact w_X2_pickLeast_5 C hA hs1 (q5 := f_X2_pickLeast_5 k a1 n1 n) ih x2 x3 μ h

def f_X2_pickLeast (k : Nat) (a1 : Nat) (n1 : Nat) (μ : Mem) : Option Mem := f_X2_pickLeast_5 k a1 n1 FU 1000000 0 μ
set_option maxRecDepth 100000 in
set_option maxHeartbeats 4000000 in
theorem b_X2_pickLeast {p : Program} {l : Launch} {e : Env} {s : State} {m : MethodId} {args : Array Value} {below : List Frame} {meth : Method} {c : Code} {G : Gp} {O : Mem} (C : Cx p s m args meth c cX2_pickLeast 5 RX2 none G) {k : Nat} {a1 : Nat} {n1 : Nat} (hA : At sOpening k) (hs1 : shp[a1]? = some (.inr (0, n1))) {μ : Mem} (h : f_X2_pickLeast k a1 n1 μ = some O) : ∀ (H : Heap) (locs : List Loc) (ls : Array Slot), Wm G μ H → va_S (wA G) s.heap H locs → lv_has ls 5 [(0, .ref (G.2.2 k)), (1, .ref (G.2.2 a1))] → W p l e (rmm 1 21) s m args below meth c H locs 0 0 (QV below args s G O) (F0 m 0 ls []) := by
  unfold f_X2_pickLeast at h
  intro H locs ls hP hS hl
  refine lv_ldc (own := RX2) (v := 1000000) C.x C.b C.o (C.t _ u3_27) dX2_pickLeast_0 ?_
  refine lv_istore_n (lv' := [(2, .int 1000000), (0, .ref (G.2.2 k)), (1, .ref (G.2.2 a1))]) C.x C.b dX2_pickLeast_2 rfl hl (by decide) rfl (fun ls hl => ?_)
  refine lv_iconst (v := 0) C.x C.b dX2_pickLeast_3 (by decide) ?_
  refine lv_istore_n (lv' := [(3, .int 0), (2, .int 1000000), (0, .ref (G.2.2 k)), (1, .ref (G.2.2 a1))]) C.x C.b dX2_pickLeast_4 rfl hl (by decide) rfl (fun ls hl => ?_)
  exact b_X2_pickLeast_5 C hA hs1 FU 1000000 0 μ h _ _ _ hP hS (lv_sub hl [2, 3, 1, 0] rfl)

set_option maxRecDepth 100000 in
set_option maxHeartbeats 4000000 in
theorem c_X2_pickLeast {l : Launch} {G : Gp} (hI : Wi G) {k : Nat} {a1 : Nat} {n1 : Nat} (hA : At sOpening k) (hs1 : shp[a1]? = some (.inr (0, n1))) {μ : Mem} {μ' : Mem} (h : f_X2_pickLeast k a1 n1 μ = some μ') : CV l yX2_pickLeast cX2_pickLeast 5 none 1 21 G [.ref (G.2.2 k), .ref (G.2.2 a1)] μ μ' :=
  e_all (lv := [(0, .ref (G.2.2 k)), (1, .ref (G.2.2 a1))]) hI (by decide) (Nat.le_of_ble_eq_true rfl) rfl (fun p e s m args below meth c ls C hP hS hl => b_X2_pickLeast C hA hs1 h _ _ _ hP hS hl)


def g_X2_cheapestOf_10 (a0 : Nat) (n0 : Nat) (x1 : Int32) (x2 : Int32) (a3 : Nat) (n3 : Nat) (x4 : Int32)  (μ : Mem) (q10 : Int32 → Int32 → Int32 → Option Int32) (x5 : Int32) (x6 : Int32) (x7 : Int32) : Option Int32 := if x4 ≤ x7 then (some x5) else (grd (inb x7 n3) (if (μ.1 a3 x7.toNatClampNeg) = 0 then (lt (x7 + 1) (fun y4 => q10 x5 x6 y4)) else (grd (inb (x1 + (x7 * x2)) n0) (if x6 ≤ (μ.1 a0 (x1 + (x7 * x2)).toNatClampNeg) then (lt (x7 + 1) (fun y7 => q10 x5 x6 y7)) else (grd (inb (x1 + (x7 * x2)) n0) (lt (μ.1 a0 (x1 + (x7 * x2)).toNatClampNeg) (fun y9 => lt (x7 + 1) (fun y10 => q10 x7 y9 y10))))))))
def f_X2_cheapestOf_10 (a0 : Nat) (n0 : Nat) (x1 : Int32) (x2 : Int32) (a3 : Nat) (n3 : Nat) (x4 : Int32)  (μ : Mem) : Nat → Int32 → Int32 → Int32 → Option Int32
  | 0, _, _, _ => none
  | n + 1, x5, x6, x7 => g_X2_cheapestOf_10 a0 n0 x1 x2 a3 n3 x4 μ (f_X2_cheapestOf_10 a0 n0 x1 x2 a3 n3 x4 μ n) x5 x6 x7
set_option maxRecDepth 100000 in
set_option maxHeartbeats 4000000 in
theorem w_X2_cheapestOf_10 {p : Program} {l : Launch} {e : Env} {s : State} {m : MethodId} {args : Array Value} {below : List Frame} {meth : Method} {c : Code} {G : Gp} {O : Int32} (C : Cx p s m args meth c cX2_cheapestOf 8 RX2 (some .int) G) {a0 : Nat} {n0 : Nat} {x1 : Int32} {x2 : Int32} {a3 : Nat} {n3 : Nat} {x4 : Int32} {μ : Mem} (hs0 : shp[a0]? = some (.inr (0, n0))) (hs3 : shp[a3]? = some (.inr (1, n3))) {q10 : Int32 → Int32 → Int32 → Option Int32} (hq10 : ∀ (x5 : Int32) (x6 : Int32) (x7 : Int32), q10 x5 x6 x7 = some O → ∀ (H : Heap) (locs : List Loc) (ls : Array Slot), Wm G μ H → va_S (wA G) s.heap H locs → lv_has ls 8 [(0, .ref (G.2.2 a0)), (1, .int x1), (2, .int x2), (3, .ref (G.2.2 a3)), (4, .int x4), (5, .int x5), (6, .int x6), (7, .int x7)] → W p l e (rmm 0 0) s m args below meth c H locs 0 0 (QI below args s G (O, μ)) (F0 m 10 ls [])) : ∀ (x5 : Int32) (x6 : Int32) (x7 : Int32), g_X2_cheapestOf_10 a0 n0 x1 x2 a3 n3 x4 μ q10 x5 x6 x7 = some O → ∀ (H : Heap) (locs : List Loc) (ls : Array Slot), Wm G μ H → va_S (wA G) s.heap H locs → lv_has ls 8 [(0, .ref (G.2.2 a0)), (1, .int x1), (2, .int x2), (3, .ref (G.2.2 a3)), (4, .int x4), (5, .int x5), (6, .int x6), (7, .int x7)] → W p l e (rmm 0 0) s m args below meth c H locs 0 0 (QI below args s G (O, μ)) (F0 m 10 ls []) := by
  intro x5 x6 x7 h H locs ls hP hS hl
  unfold g_X2_cheapestOf_10 at h
  refine lv_iload C.x C.b dX2_cheapestOf_10 (lv_at hl 7 rfl) ?_
  refine lv_iload C.x C.b dX2_cheapestOf_12 (lv_at hl 4 rfl) ?_
  refine lv_icmp_ge (tgt := 57) C.x C.b dX2_cheapestOf_14 (by decide) (fun c1 => ?_) (fun c1 => ?_)
  · have h := (if_pos c1).symm.trans h
    refine lv_iload C.x C.b dX2_cheapestOf_57 (lv_at hl 5 rfl) ?_
    exact r_i (pr_some h) C hP hS dX2_cheapestOf_59
  · have h := (if_neg c1).symm.trans h
    refine lv_aload_n C.x C.b dX2_cheapestOf_17 rfl (lv_at hl 3 rfl) ?_
    refine lv_iload C.x C.b dX2_cheapestOf_18 (lv_at hl 7 rfl) ?_
    obtain ⟨g2, h⟩ := grd_some h
    refine a_z C hP hs3 g2 dX2_cheapestOf_20 ?_
    refine lv_if_eq (tgt := 51) C.x C.b dX2_cheapestOf_21 (by decide) (fun c3 => ?_) (fun c3 => ?_)
    · have h := (if_pos c3).symm.trans h
      obtain ⟨y4, e_y4, h⟩ := lt_ex h
      refine lv_iinc (v := y4) (lv' := [(7, .int y4), (0, .ref (G.2.2 a0)), (1, .int x1), (2, .int x2), (3, .ref (G.2.2 a3)), (4, .int x4), (5, .int x5), (6, .int x6)]) C.x C.b dX2_cheapestOf_51 hl (k := 7) rfl (by rw [e_y4]; rfl) (by decide) rfl (fun ls hl => ?_)
      refine lv_goto (tgt := 10) C.x C.b dX2_cheapestOf_54 (by decide) ?_
      exact hq10 x5 x6 y4 h _ _ _ hP hS (lv_sub hl [1, 2, 3, 4, 5, 6, 7, 0] rfl)
    · have h := (if_neg c3).symm.trans h
      refine lv_aload_n C.x C.b dX2_cheapestOf_24 rfl (lv_at hl 0 rfl) ?_
      refine lv_iload_n C.x C.b dX2_cheapestOf_25 rfl (lv_at hl 1 rfl) ?_
      refine lv_iload C.x C.b dX2_cheapestOf_26 (lv_at hl 7 rfl) ?_
      refine lv_iload_n C.x C.b dX2_cheapestOf_28 rfl (lv_at hl 2 rfl) ?_
      refine lv_imul C.x C.b dX2_cheapestOf_29 ?_
      refine lv_iadd C.x C.b dX2_cheapestOf_30 ?_
      obtain ⟨g5, h⟩ := grd_some h
      refine a_i C hP hs0 g5 dX2_cheapestOf_31 ?_
      refine lv_iload C.x C.b dX2_cheapestOf_32 (lv_at hl 6 rfl) ?_
      refine lv_icmp_ge (tgt := 51) C.x C.b dX2_cheapestOf_34 (by decide) (fun c6 => ?_) (fun c6 => ?_)
      · have h := (if_pos c6).symm.trans h
        obtain ⟨y7, e_y7, h⟩ := lt_ex h
        refine lv_iinc (v := y7) (lv' := [(7, .int y7), (0, .ref (G.2.2 a0)), (1, .int x1), (2, .int x2), (3, .ref (G.2.2 a3)), (4, .int x4), (5, .int x5), (6, .int x6)]) C.x C.b dX2_cheapestOf_51 hl (k := 7) rfl (by rw [e_y7]; rfl) (by decide) rfl (fun ls hl => ?_)
        refine lv_goto (tgt := 10) C.x C.b dX2_cheapestOf_54 (by decide) ?_
        exact hq10 x5 x6 y7 h _ _ _ hP hS (lv_sub hl [1, 2, 3, 4, 5, 6, 7, 0] rfl)
      · have h := (if_neg c6).symm.trans h
        refine lv_aload_n C.x C.b dX2_cheapestOf_37 rfl (lv_at hl 0 rfl) ?_
        refine lv_iload_n C.x C.b dX2_cheapestOf_38 rfl (lv_at hl 1 rfl) ?_
        refine lv_iload C.x C.b dX2_cheapestOf_39 (lv_at hl 7 rfl) ?_
        refine lv_iload_n C.x C.b dX2_cheapestOf_41 rfl (lv_at hl 2 rfl) ?_
        refine lv_imul C.x C.b dX2_cheapestOf_42 ?_
        refine lv_iadd C.x C.b dX2_cheapestOf_43 ?_
        obtain ⟨g8, h⟩ := grd_some h
        refine a_i C hP hs0 g8 dX2_cheapestOf_44 ?_
        refine lv_topi (fun y9 e_y9 => ?_)
        have h := lt_at h e_y9
        refine lv_istore (lv' := [(6, .int y9), (0, .ref (G.2.2 a0)), (1, .int x1), (2, .int x2), (3, .ref (G.2.2 a3)), (4, .int x4), (5, .int x5), (7, .int x7)]) C.x C.b dX2_cheapestOf_45 hl (by decide) rfl (fun ls hl => ?_)
        refine lv_iload C.x C.b dX2_cheapestOf_47 (lv_at hl 7 rfl) ?_
        refine lv_istore (lv' := [(5, .int x7), (6, .int y9), (0, .ref (G.2.2 a0)), (1, .int x1), (2, .int x2), (3, .ref (G.2.2 a3)), (4, .int x4), (7, .int x7)]) C.x C.b dX2_cheapestOf_49 hl (by decide) rfl (fun ls hl => ?_)
        obtain ⟨y10, e_y10, h⟩ := lt_ex h
        refine lv_iinc (v := y10) (lv' := [(7, .int y10), (5, .int x7), (6, .int y9), (0, .ref (G.2.2 a0)), (1, .int x1), (2, .int x2), (3, .ref (G.2.2 a3)), (4, .int x4)]) C.x C.b dX2_cheapestOf_51 hl (k := 7) rfl (by rw [e_y10]; rfl) (by decide) rfl (fun ls hl => ?_)
        refine lv_goto (tgt := 10) C.x C.b dX2_cheapestOf_54 (by decide) ?_
        exact hq10 x7 y9 y10 h _ _ _ hP hS (lv_sub hl [3, 4, 5, 6, 7, 1, 2, 0] rfl)

set_option maxRecDepth 100000 in
set_option maxHeartbeats 4000000 in
theorem b_X2_cheapestOf_10 {p : Program} {l : Launch} {e : Env} {s : State} {m : MethodId} {args : Array Value} {below : List Frame} {meth : Method} {c : Code} {G : Gp} {O : Int32} (C : Cx p s m args meth c cX2_cheapestOf 8 RX2 (some .int) G) {a0 : Nat} {n0 : Nat} {x1 : Int32} {x2 : Int32} {a3 : Nat} {n3 : Nat} {x4 : Int32} {μ : Mem} (hs0 : shp[a0]? = some (.inr (0, n0))) (hs3 : shp[a3]? = some (.inr (1, n3))) : ∀ (n : Nat) (x5 : Int32) (x6 : Int32) (x7 : Int32), f_X2_cheapestOf_10 a0 n0 x1 x2 a3 n3 x4 μ n x5 x6 x7 = some O → ∀ (H : Heap) (locs : List Loc) (ls : Array Slot), Wm G μ H → va_S (wA G) s.heap H locs → lv_has ls 8 [(0, .ref (G.2.2 a0)), (1, .int x1), (2, .int x2), (3, .ref (G.2.2 a3)), (4, .int x4), (5, .int x5), (6, .int x6), (7, .int x7)] → W p l e (rmm 0 0) s m args below meth c H locs 0 0 (QI below args s G (O, μ)) (F0 m 10 ls []) := by
  intro n
  induction n with
  | zero => intro x5 x6 x7 h; cases h
  | succ n ih => intro x5 x6 x7 h; exact w_X2_cheapestOf_10 C hs0 hs3 (q10 := f_X2_cheapestOf_10 a0 n0 x1 x2 a3 n3 x4 μ n) ih x5 x6 x7 h

def f_X2_cheapestOf (a0 : Nat) (n0 : Nat) (x1 : Int32) (x2 : Int32) (a3 : Nat) (n3 : Nat) (x4 : Int32) (μ : Mem) : Option Int32 := f_X2_cheapestOf_10 a0 n0 x1 x2 a3 n3 x4 μ FU 0 1000000 0
set_option maxRecDepth 100000 in
set_option maxHeartbeats 4000000 in
theorem b_X2_cheapestOf {p : Program} {l : Launch} {e : Env} {s : State} {m : MethodId} {args : Array Value} {below : List Frame} {meth : Method} {c : Code} {G : Gp} {O : Int32} (C : Cx p s m args meth c cX2_cheapestOf 8 RX2 (some .int) G) {a0 : Nat} {n0 : Nat} {x1 : Int32} {x2 : Int32} {a3 : Nat} {n3 : Nat} {x4 : Int32} {μ : Mem} (hs0 : shp[a0]? = some (.inr (0, n0))) (hs3 : shp[a3]? = some (.inr (1, n3))) (h : f_X2_cheapestOf a0 n0 x1 x2 a3 n3 x4 μ = some O) : ∀ (H : Heap) (locs : List Loc) (ls : Array Slot), Wm G μ H → va_S (wA G) s.heap H locs → lv_has ls 8 [(0, .ref (G.2.2 a0)), (1, .int x1), (2, .int x2), (3, .ref (G.2.2 a3)), (4, .int x4)] → W p l e (rmm 0 0) s m args below meth c H locs 0 0 (QI below args s G (O, μ)) (F0 m 0 ls []) := by
  unfold f_X2_cheapestOf at h
  intro H locs ls hP hS hl
  refine lv_iconst (v := 0) C.x C.b dX2_cheapestOf_0 (by decide) ?_
  refine lv_istore (lv' := [(5, .int 0), (0, .ref (G.2.2 a0)), (1, .int x1), (2, .int x2), (3, .ref (G.2.2 a3)), (4, .int x4)]) C.x C.b dX2_cheapestOf_1 hl (by decide) rfl (fun ls hl => ?_)
  refine lv_ldc (own := RX2) (v := 1000000) C.x C.b C.o (C.t _ u3_27) dX2_cheapestOf_3 ?_
  refine lv_istore (lv' := [(6, .int 1000000), (5, .int 0), (0, .ref (G.2.2 a0)), (1, .int x1), (2, .int x2), (3, .ref (G.2.2 a3)), (4, .int x4)]) C.x C.b dX2_cheapestOf_5 hl (by decide) rfl (fun ls hl => ?_)
  refine lv_iconst (v := 0) C.x C.b dX2_cheapestOf_7 (by decide) ?_
  refine lv_istore (lv' := [(7, .int 0), (6, .int 1000000), (5, .int 0), (0, .ref (G.2.2 a0)), (1, .int x1), (2, .int x2), (3, .ref (G.2.2 a3)), (4, .int x4)]) C.x C.b dX2_cheapestOf_8 hl (by decide) rfl (fun ls hl => ?_)
  exact b_X2_cheapestOf_10 C hs0 hs3 FU 0 1000000 0 h _ _ _ hP hS (lv_sub hl [3, 4, 5, 6, 7, 2, 1, 0] rfl)

set_option maxRecDepth 100000 in
set_option maxHeartbeats 4000000 in
theorem c_X2_cheapestOf {l : Launch} {G : Gp} (hI : Wi G) {a0 : Nat} {n0 : Nat} {x1 : Int32} {x2 : Int32} {a3 : Nat} {n3 : Nat} {x4 : Int32} (hs0 : shp[a0]? = some (.inr (0, n0))) (hs3 : shp[a3]? = some (.inr (1, n3))) {μ : Mem} {r : Int32} (h : f_X2_cheapestOf a0 n0 x1 x2 a3 n3 x4 μ = some r) : CI l yX2_cheapestOf cX2_cheapestOf 8 (some .int) 0 0 G [.ref (G.2.2 a0), .int x1, .int x2, .ref (G.2.2 a3), .int x4] μ r μ :=
  e_all (lv := [(0, .ref (G.2.2 a0)), (1, .int x1), (2, .int x2), (3, .ref (G.2.2 a3)), (4, .int x4)]) hI (by decide) (Nat.le_of_ble_eq_true rfl) rfl (fun p e s m args below meth c ls C hP hS hl => b_X2_cheapestOf C hs0 hs3 h _ _ _ hP hS hl)


def f_X2_regretOf_53 (a0 : Nat) (n0 : Nat) (x1 : Int32) (x2 : Int32) (a3 : Nat) (n3 : Nat) (x4 : Int32) (q11 : Int32 → Int32 → Int32 → Option Int32) (μ : Mem) (x5 : Int32) (x6 : Int32) (x7 : Int32) (x8 : Int32) : Option Int32 := grd (inb x7 n3) (if (μ.1 a3 x7.toNatClampNeg) = 0 then (lt (x7 + 1) (fun y3 => q11 x5 x6 y3)) else (if x6 ≤ x8 then (lt (x7 + 1) (fun y5 => q11 x5 x6 y5)) else (lt (x7 + 1) (fun y6 => q11 x5 x8 y6))))
set_option maxRecDepth 100000 in
set_option maxHeartbeats 4000000 in
theorem b_X2_regretOf_53 {p : Program} {l : Launch} {e : Env} {s : State} {m : MethodId} {args : Array Value} {below : List Frame} {meth : Method} {c : Code} {G : Gp} {O : Int32} (C : Cx p s m args meth c cX2_regretOf 9 RX2 (some .int) G) {a0 : Nat} {n0 : Nat} {x1 : Int32} {x2 : Int32} {a3 : Nat} {n3 : Nat} {x4 : Int32} {μ : Mem} (hs0 : shp[a0]? = some (.inr (0, n0))) (hs3 : shp[a3]? = some (.inr (1, n3))) {q11 : Int32 → Int32 → Int32 → Option Int32} (hq11 : ∀ (x5 : Int32) (x6 : Int32) (x7 : Int32), q11 x5 x6 x7 = some O → ∀ (H : Heap) (locs : List Loc) (ls : Array Slot), Wm G μ H → va_S (wA G) s.heap H locs → lv_has ls 9 [(0, .ref (G.2.2 a0)), (1, .int x1), (2, .int x2), (3, .ref (G.2.2 a3)), (4, .int x4), (5, .int x5), (6, .int x6), (7, .int x7)] → W p l e (rmm 0 0) s m args below meth c H locs 0 0 (QI below args s G (O, μ)) (F0 m 11 ls [])) : ∀ (x5 : Int32) (x6 : Int32) (x7 : Int32) (x8 : Int32), f_X2_regretOf_53 a0 n0 x1 x2 a3 n3 x4 q11 μ x5 x6 x7 x8 = some O → ∀ (H : Heap) (locs : List Loc) (ls : Array Slot), Wm G μ H → va_S (wA G) s.heap H locs → lv_has ls 9 [(0, .ref (G.2.2 a0)), (1, .int x1), (2, .int x2), (3, .ref (G.2.2 a3)), (4, .int x4), (5, .int x5), (6, .int x6), (7, .int x7), (8, .int x8)] → W p l e (rmm 0 0) s m args below meth c H locs 0 0 (QI below args s G (O, μ)) (F0 m 53 ls []) := by
  intro x5 x6 x7 x8 h H locs ls hP hS hl
  unfold f_X2_regretOf_53 at h
  refine lv_aload_n C.x C.b dX2_regretOf_53 rfl (lv_at hl 3 rfl) ?_
  refine lv_iload C.x C.b dX2_regretOf_54 (lv_at hl 7 rfl) ?_
  obtain ⟨g1, h⟩ := grd_some h
  refine a_z C hP hs3 g1 dX2_regretOf_56 ?_
  refine lv_if_eq (tgt := 71) C.x C.b dX2_regretOf_57 (by decide) (fun c2 => ?_) (fun c2 => ?_)
  · have h := (if_pos c2).symm.trans h
    obtain ⟨y3, e_y3, h⟩ := lt_ex h
    refine lv_iinc (v := y3) (lv' := [(7, .int y3), (0, .ref (G.2.2 a0)), (1, .int x1), (2, .int x2), (3, .ref (G.2.2 a3)), (4, .int x4), (5, .int x5), (6, .int x6), (8, .int x8)]) C.x C.b dX2_regretOf_71 hl (k := 7) rfl (by rw [e_y3]; rfl) (by decide) rfl (fun ls hl => ?_)
    refine lv_goto (tgt := 11) C.x C.b dX2_regretOf_74 (by decide) ?_
    exact hq11 x5 x6 y3 h _ _ _ hP hS (lv_sub hl [1, 2, 3, 4, 5, 6, 7, 0] rfl)
  · have h := (if_neg c2).symm.trans h
    refine lv_iload C.x C.b dX2_regretOf_60 (lv_at hl 8 rfl) ?_
    refine lv_iload C.x C.b dX2_regretOf_62 (lv_at hl 6 rfl) ?_
    refine lv_icmp_ge (tgt := 71) C.x C.b dX2_regretOf_64 (by decide) (fun c4 => ?_) (fun c4 => ?_)
    · have h := (if_pos c4).symm.trans h
      obtain ⟨y5, e_y5, h⟩ := lt_ex h
      refine lv_iinc (v := y5) (lv' := [(7, .int y5), (0, .ref (G.2.2 a0)), (1, .int x1), (2, .int x2), (3, .ref (G.2.2 a3)), (4, .int x4), (5, .int x5), (6, .int x6), (8, .int x8)]) C.x C.b dX2_regretOf_71 hl (k := 7) rfl (by rw [e_y5]; rfl) (by decide) rfl (fun ls hl => ?_)
      refine lv_goto (tgt := 11) C.x C.b dX2_regretOf_74 (by decide) ?_
      exact hq11 x5 x6 y5 h _ _ _ hP hS (lv_sub hl [1, 2, 3, 4, 5, 6, 7, 0] rfl)
    · have h := (if_neg c4).symm.trans h
      refine lv_iload C.x C.b dX2_regretOf_67 (lv_at hl 8 rfl) ?_
      refine lv_istore (lv' := [(6, .int x8), (0, .ref (G.2.2 a0)), (1, .int x1), (2, .int x2), (3, .ref (G.2.2 a3)), (4, .int x4), (5, .int x5), (7, .int x7), (8, .int x8)]) C.x C.b dX2_regretOf_69 hl (by decide) rfl (fun ls hl => ?_)
      obtain ⟨y6, e_y6, h⟩ := lt_ex h
      refine lv_iinc (v := y6) (lv' := [(7, .int y6), (6, .int x8), (0, .ref (G.2.2 a0)), (1, .int x1), (2, .int x2), (3, .ref (G.2.2 a3)), (4, .int x4), (5, .int x5), (8, .int x8)]) C.x C.b dX2_regretOf_71 hl (k := 7) rfl (by rw [e_y6]; rfl) (by decide) rfl (fun ls hl => ?_)
      refine lv_goto (tgt := 11) C.x C.b dX2_regretOf_74 (by decide) ?_
      exact hq11 x5 x8 y6 h _ _ _ hP hS (lv_sub hl [2, 3, 4, 5, 6, 7, 1, 0] rfl)

def g_X2_regretOf_11 (a0 : Nat) (n0 : Nat) (x1 : Int32) (x2 : Int32) (a3 : Nat) (n3 : Nat) (x4 : Int32)  (μ : Mem) (q11 : Int32 → Int32 → Int32 → Option Int32) (x5 : Int32) (x6 : Int32) (x7 : Int32) : Option Int32 := if x4 ≤ x7 then (if x6 = 1000000 then (some x5) else (some (x6 - x5))) else (grd (inb (x1 + (x7 * x2)) n0) (lt (μ.1 a0 (x1 + (x7 * x2)).toNatClampNeg) (fun y4 => grd (inb x7 n3) (if (μ.1 a3 x7.toNatClampNeg) = 0 then (f_X2_regretOf_53 a0 n0 x1 x2 a3 n3 x4 q11 μ x5 x6 x7 y4) else (if x5 ≤ y4 then (f_X2_regretOf_53 a0 n0 x1 x2 a3 n3 x4 q11 μ x5 x6 x7 y4) else (lt (x7 + 1) (fun y8 => q11 y4 x5 y8)))))))
def f_X2_regretOf_11 (a0 : Nat) (n0 : Nat) (x1 : Int32) (x2 : Int32) (a3 : Nat) (n3 : Nat) (x4 : Int32)  (μ : Mem) : Nat → Int32 → Int32 → Int32 → Option Int32
  | 0, _, _, _ => none
  | n + 1, x5, x6, x7 => g_X2_regretOf_11 a0 n0 x1 x2 a3 n3 x4 μ (f_X2_regretOf_11 a0 n0 x1 x2 a3 n3 x4 μ n) x5 x6 x7
set_option maxRecDepth 100000 in
set_option maxHeartbeats 4000000 in
theorem w_X2_regretOf_11 {p : Program} {l : Launch} {e : Env} {s : State} {m : MethodId} {args : Array Value} {below : List Frame} {meth : Method} {c : Code} {G : Gp} {O : Int32} (C : Cx p s m args meth c cX2_regretOf 9 RX2 (some .int) G) {a0 : Nat} {n0 : Nat} {x1 : Int32} {x2 : Int32} {a3 : Nat} {n3 : Nat} {x4 : Int32} {μ : Mem} (hs0 : shp[a0]? = some (.inr (0, n0))) (hs3 : shp[a3]? = some (.inr (1, n3))) {q11 : Int32 → Int32 → Int32 → Option Int32} (hq11 : ∀ (x5 : Int32) (x6 : Int32) (x7 : Int32), q11 x5 x6 x7 = some O → ∀ (H : Heap) (locs : List Loc) (ls : Array Slot), Wm G μ H → va_S (wA G) s.heap H locs → lv_has ls 9 [(0, .ref (G.2.2 a0)), (1, .int x1), (2, .int x2), (3, .ref (G.2.2 a3)), (4, .int x4), (5, .int x5), (6, .int x6), (7, .int x7)] → W p l e (rmm 0 0) s m args below meth c H locs 0 0 (QI below args s G (O, μ)) (F0 m 11 ls [])) : ∀ (x5 : Int32) (x6 : Int32) (x7 : Int32), g_X2_regretOf_11 a0 n0 x1 x2 a3 n3 x4 μ q11 x5 x6 x7 = some O → ∀ (H : Heap) (locs : List Loc) (ls : Array Slot), Wm G μ H → va_S (wA G) s.heap H locs → lv_has ls 9 [(0, .ref (G.2.2 a0)), (1, .int x1), (2, .int x2), (3, .ref (G.2.2 a3)), (4, .int x4), (5, .int x5), (6, .int x6), (7, .int x7)] → W p l e (rmm 0 0) s m args below meth c H locs 0 0 (QI below args s G (O, μ)) (F0 m 11 ls []) := by
  intro x5 x6 x7 h H locs ls hP hS hl
  unfold g_X2_regretOf_11 at h
  refine lv_iload C.x C.b dX2_regretOf_11 (lv_at hl 7 rfl) ?_
  refine lv_iload C.x C.b dX2_regretOf_13 (lv_at hl 4 rfl) ?_
  refine lv_icmp_ge (tgt := 77) C.x C.b dX2_regretOf_15 (by decide) (fun c1 => ?_) (fun c1 => ?_)
  · have h := (if_pos c1).symm.trans h
    refine lv_iload C.x C.b dX2_regretOf_77 (lv_at hl 6 rfl) ?_
    refine lv_ldc (own := RX2) (v := 1000000) C.x C.b C.o (C.t _ u3_27) dX2_regretOf_79 ?_
    refine lv_icmp_ne (tgt := 89) C.x C.b dX2_regretOf_81 (by decide) (fun c2 => ?_) (fun c2 => ?_)
    · have h := (if_neg c2).symm.trans h
      refine lv_iload C.x C.b dX2_regretOf_89 (lv_at hl 6 rfl) ?_
      refine lv_iload C.x C.b dX2_regretOf_91 (lv_at hl 5 rfl) ?_
      refine lv_isub C.x C.b dX2_regretOf_93 ?_
      exact r_i (pr_some h) C hP hS dX2_regretOf_94
    · have h := (if_pos c2).symm.trans h
      refine lv_iload C.x C.b dX2_regretOf_84 (lv_at hl 5 rfl) ?_
      refine lv_goto (tgt := 94) C.x C.b dX2_regretOf_86 (by decide) ?_
      exact r_i (pr_some h) C hP hS dX2_regretOf_94
  · have h := (if_neg c1).symm.trans h
    refine lv_aload_n C.x C.b dX2_regretOf_18 rfl (lv_at hl 0 rfl) ?_
    refine lv_iload_n C.x C.b dX2_regretOf_19 rfl (lv_at hl 1 rfl) ?_
    refine lv_iload C.x C.b dX2_regretOf_20 (lv_at hl 7 rfl) ?_
    refine lv_iload_n C.x C.b dX2_regretOf_22 rfl (lv_at hl 2 rfl) ?_
    refine lv_imul C.x C.b dX2_regretOf_23 ?_
    refine lv_iadd C.x C.b dX2_regretOf_24 ?_
    obtain ⟨g3, h⟩ := grd_some h
    refine a_i C hP hs0 g3 dX2_regretOf_25 ?_
    refine lv_topi (fun y4 e_y4 => ?_)
    have h := lt_at h e_y4
    refine lv_istore (lv' := [(8, .int y4), (0, .ref (G.2.2 a0)), (1, .int x1), (2, .int x2), (3, .ref (G.2.2 a3)), (4, .int x4), (5, .int x5), (6, .int x6), (7, .int x7)]) C.x C.b dX2_regretOf_26 hl (by decide) rfl (fun ls hl => ?_)
    refine lv_aload_n C.x C.b dX2_regretOf_28 rfl (lv_at hl 4 rfl) ?_
    refine lv_iload C.x C.b dX2_regretOf_29 (lv_at hl 8 rfl) ?_
    obtain ⟨g5, h⟩ := grd_some h
    refine a_z C hP hs3 g5 dX2_regretOf_31 ?_
    refine lv_if_eq (tgt := 53) C.x C.b dX2_regretOf_32 (by decide) (fun c6 => ?_) (fun c6 => ?_)
    · have h := (if_pos c6).symm.trans h
      exact b_X2_regretOf_53 C hs0 hs3 hq11 x5 x6 x7 y4 h _ _ _ hP hS (lv_sub hl [1, 2, 3, 4, 5, 6, 7, 8, 0] rfl)
    · have h := (if_neg c6).symm.trans h
      refine lv_iload C.x C.b dX2_regretOf_35 (lv_at hl 0 rfl) ?_
      refine lv_iload C.x C.b dX2_regretOf_37 (lv_at hl 6 rfl) ?_
      refine lv_icmp_ge (tgt := 53) C.x C.b dX2_regretOf_39 (by decide) (fun c7 => ?_) (fun c7 => ?_)
      · have h := (if_pos c7).symm.trans h
        exact b_X2_regretOf_53 C hs0 hs3 hq11 x5 x6 x7 y4 h _ _ _ hP hS (lv_sub hl [1, 2, 3, 4, 5, 6, 7, 8, 0] rfl)
      · have h := (if_neg c7).symm.trans h
        refine lv_iload C.x C.b dX2_regretOf_42 (lv_at hl 6 rfl) ?_
        refine lv_istore (lv' := [(6, .int x5), (8, .int y4), (0, .ref (G.2.2 a0)), (1, .int x1), (2, .int x2), (3, .ref (G.2.2 a3)), (4, .int x4), (5, .int x5), (7, .int x7)]) C.x C.b dX2_regretOf_44 hl (by decide) rfl (fun ls hl => ?_)
        refine lv_iload C.x C.b dX2_regretOf_46 (lv_at hl 1 rfl) ?_
        refine lv_istore (lv' := [(5, .int y4), (6, .int x5), (8, .int y4), (0, .ref (G.2.2 a0)), (1, .int x1), (2, .int x2), (3, .ref (G.2.2 a3)), (4, .int x4), (7, .int x7)]) C.x C.b dX2_regretOf_48 hl (by decide) rfl (fun ls hl => ?_)
        refine lv_goto (tgt := 71) C.x C.b dX2_regretOf_50 (by decide) ?_
        obtain ⟨y8, e_y8, h⟩ := lt_ex h
        refine lv_iinc (v := y8) (lv' := [(7, .int y8), (5, .int y4), (6, .int x5), (8, .int y4), (0, .ref (G.2.2 a0)), (1, .int x1), (2, .int x2), (3, .ref (G.2.2 a3)), (4, .int x4)]) C.x C.b dX2_regretOf_71 hl (k := 8) rfl (by rw [e_y8]; rfl) (by decide) rfl (fun ls hl => ?_)
        refine lv_goto (tgt := 11) C.x C.b dX2_regretOf_74 (by decide) ?_
        exact hq11 y4 x5 y8 h _ _ _ hP hS (lv_sub hl [4, 5, 6, 7, 8, 1, 2, 0] rfl)

set_option maxRecDepth 100000 in
set_option maxHeartbeats 4000000 in
theorem b_X2_regretOf_11 {p : Program} {l : Launch} {e : Env} {s : State} {m : MethodId} {args : Array Value} {below : List Frame} {meth : Method} {c : Code} {G : Gp} {O : Int32} (C : Cx p s m args meth c cX2_regretOf 9 RX2 (some .int) G) {a0 : Nat} {n0 : Nat} {x1 : Int32} {x2 : Int32} {a3 : Nat} {n3 : Nat} {x4 : Int32} {μ : Mem} (hs0 : shp[a0]? = some (.inr (0, n0))) (hs3 : shp[a3]? = some (.inr (1, n3))) : ∀ (n : Nat) (x5 : Int32) (x6 : Int32) (x7 : Int32), f_X2_regretOf_11 a0 n0 x1 x2 a3 n3 x4 μ n x5 x6 x7 = some O → ∀ (H : Heap) (locs : List Loc) (ls : Array Slot), Wm G μ H → va_S (wA G) s.heap H locs → lv_has ls 9 [(0, .ref (G.2.2 a0)), (1, .int x1), (2, .int x2), (3, .ref (G.2.2 a3)), (4, .int x4), (5, .int x5), (6, .int x6), (7, .int x7)] → W p l e (rmm 0 0) s m args below meth c H locs 0 0 (QI below args s G (O, μ)) (F0 m 11 ls []) := by
  intro n
  induction n with
  | zero => intro x5 x6 x7 h; cases h
  | succ n ih => intro x5 x6 x7 h; exact w_X2_regretOf_11 C hs0 hs3 (q11 := f_X2_regretOf_11 a0 n0 x1 x2 a3 n3 x4 μ n) ih x5 x6 x7 h

def f_X2_regretOf (a0 : Nat) (n0 : Nat) (x1 : Int32) (x2 : Int32) (a3 : Nat) (n3 : Nat) (x4 : Int32) (μ : Mem) : Option Int32 := f_X2_regretOf_11 a0 n0 x1 x2 a3 n3 x4 μ FU 1000000 1000000 0
set_option maxRecDepth 100000 in
set_option maxHeartbeats 4000000 in
theorem b_X2_regretOf {p : Program} {l : Launch} {e : Env} {s : State} {m : MethodId} {args : Array Value} {below : List Frame} {meth : Method} {c : Code} {G : Gp} {O : Int32} (C : Cx p s m args meth c cX2_regretOf 9 RX2 (some .int) G) {a0 : Nat} {n0 : Nat} {x1 : Int32} {x2 : Int32} {a3 : Nat} {n3 : Nat} {x4 : Int32} {μ : Mem} (hs0 : shp[a0]? = some (.inr (0, n0))) (hs3 : shp[a3]? = some (.inr (1, n3))) (h : f_X2_regretOf a0 n0 x1 x2 a3 n3 x4 μ = some O) : ∀ (H : Heap) (locs : List Loc) (ls : Array Slot), Wm G μ H → va_S (wA G) s.heap H locs → lv_has ls 9 [(0, .ref (G.2.2 a0)), (1, .int x1), (2, .int x2), (3, .ref (G.2.2 a3)), (4, .int x4)] → W p l e (rmm 0 0) s m args below meth c H locs 0 0 (QI below args s G (O, μ)) (F0 m 0 ls []) := by
  unfold f_X2_regretOf at h
  intro H locs ls hP hS hl
  refine lv_ldc (own := RX2) (v := 1000000) C.x C.b C.o (C.t _ u3_27) dX2_regretOf_0 ?_
  refine lv_istore (lv' := [(5, .int 1000000), (0, .ref (G.2.2 a0)), (1, .int x1), (2, .int x2), (3, .ref (G.2.2 a3)), (4, .int x4)]) C.x C.b dX2_regretOf_2 hl (by decide) rfl (fun ls hl => ?_)
  refine lv_ldc (own := RX2) (v := 1000000) C.x C.b C.o (C.t _ u3_27) dX2_regretOf_4 ?_
  refine lv_istore (lv' := [(6, .int 1000000), (5, .int 1000000), (0, .ref (G.2.2 a0)), (1, .int x1), (2, .int x2), (3, .ref (G.2.2 a3)), (4, .int x4)]) C.x C.b dX2_regretOf_6 hl (by decide) rfl (fun ls hl => ?_)
  refine lv_iconst (v := 0) C.x C.b dX2_regretOf_8 (by decide) ?_
  refine lv_istore (lv' := [(7, .int 0), (6, .int 1000000), (5, .int 1000000), (0, .ref (G.2.2 a0)), (1, .int x1), (2, .int x2), (3, .ref (G.2.2 a3)), (4, .int x4)]) C.x C.b dX2_regretOf_9 hl (by decide) rfl (fun ls hl => ?_)
  exact b_X2_regretOf_11 C hs0 hs3 FU 1000000 1000000 0 h _ _ _ hP hS (lv_sub hl [3, 4, 5, 6, 7, 2, 1, 0] rfl)

set_option maxRecDepth 100000 in
set_option maxHeartbeats 4000000 in
theorem c_X2_regretOf {l : Launch} {G : Gp} (hI : Wi G) {a0 : Nat} {n0 : Nat} {x1 : Int32} {x2 : Int32} {a3 : Nat} {n3 : Nat} {x4 : Int32} (hs0 : shp[a0]? = some (.inr (0, n0))) (hs3 : shp[a3]? = some (.inr (1, n3))) {μ : Mem} {r : Int32} (h : f_X2_regretOf a0 n0 x1 x2 a3 n3 x4 μ = some r) : CI l yX2_regretOf cX2_regretOf 9 (some .int) 0 0 G [.ref (G.2.2 a0), .int x1, .int x2, .ref (G.2.2 a3), .int x4] μ r μ :=
  e_all (lv := [(0, .ref (G.2.2 a0)), (1, .int x1), (2, .int x2), (3, .ref (G.2.2 a3)), (4, .int x4)]) hI (by decide) (Nat.le_of_ble_eq_true rfl) rfl (fun p e s m args below meth c ls C hP hS hl => b_X2_regretOf C hs0 hs3 h _ _ _ hP hS hl)


def f_X2_pickRegret_43 (k : Nat) (a1 : Nat) (n1 : Nat) (q4 : Int32 → Int32 → Mem → Option Mem) (x2 : Int32) (x3 : Int32) (z0 : Int32) (μ : Mem) : Option Mem := if z0 ≤ x2 then (lt (x3 + 1) (fun y2 => q4 x2 y2 μ)) else (lt (st μ k 4 x3) (fun μ3 => bnv (f_X8_cellAt x3 0 μ3) (fun r5 => bnv (f_X2_cheapestOf a1 n1 r5 1 (k + 2) 6 (μ3.1 k 1) μ3) (fun r7 => lt (st μ3 k 5 r7) (fun μ8 => lt (x3 + 1) (fun y9 => q4 z0 y9 μ8))))))
set_option maxRecDepth 100000 in
set_option maxHeartbeats 4000000 in
theorem b_X2_pickRegret_43 {p : Program} {l : Launch} {e : Env} {s : State} {m : MethodId} {args : Array Value} {below : List Frame} {meth : Method} {c : Code} {G : Gp} {O : Mem} (C : Cx p s m args meth c cX2_pickRegret 5 RX2 none G) {k : Nat} {a1 : Nat} {n1 : Nat} (hA : At sOpening k) (hs1 : shp[a1]? = some (.inr (0, n1))) {q4 : Int32 → Int32 → Mem → Option Mem} (hq4 : ∀ (x2 : Int32) (x3 : Int32) (μ : Mem), q4 x2 x3 μ = some O → ∀ (H : Heap) (locs : List Loc) (ls : Array Slot), Wm G μ H → va_S (wA G) s.heap H locs → lv_has ls 5 [(0, .ref (G.2.2 k)), (1, .ref (G.2.2 a1)), (2, .int x2), (3, .int x3)] → W p l e (rmm 1 28) s m args below meth c H locs 0 0 (QV below args s G O) (F0 m 4 ls [])) : ∀ (x2 : Int32) (x3 : Int32) (z0 : Int32) (μ : Mem), f_X2_pickRegret_43 k a1 n1 q4 x2 x3 z0 μ = some O → ∀ (H : Heap) (locs : List Loc) (ls : Array Slot), Wm G μ H → va_S (wA G) s.heap H locs → lv_has ls 5 [(0, .ref (G.2.2 k)), (1, .ref (G.2.2 a1)), (2, .int x2), (3, .int x3)] → W p l e (rmm 1 28) s m args below meth c H locs 0 0 (QV below args s G O) (F0 m 43 ls [.int z0]) := by
  intro x2 x3 z0 μ h H locs ls hP hS hl
  unfold f_X2_pickRegret_43 at h
  have q_k_0 : shp[k]? = some (.inl (2, fs2)) := hA 0 _ rfl
  have q_k_2 : shp[k + 2]? = some (.inr (1, 6)) := hA 2 _ rfl
  refine lv_istore (lv' := [(4, .int z0), (0, .ref (G.2.2 k)), (1, .ref (G.2.2 a1)), (2, .int x2), (3, .int x3)]) C.x C.b dX2_pickRegret_43 hl (by decide) rfl (fun ls hl => ?_)
  refine lv_iload C.x C.b dX2_pickRegret_45 (lv_at hl 0 rfl) ?_
  refine lv_iload_n C.x C.b dX2_pickRegret_47 rfl (lv_at hl 3 rfl) ?_
  refine lv_icmp_le (tgt := 81) C.x C.b dX2_pickRegret_48 (by decide) (fun c1 => ?_) (fun c1 => ?_)
  · have h := (if_pos c1).symm.trans h
    obtain ⟨y2, e_y2, h⟩ := lt_ex h
    refine lv_iinc (v := y2) (lv' := [(3, .int y2), (4, .int z0), (0, .ref (G.2.2 k)), (1, .ref (G.2.2 a1)), (2, .int x2)]) C.x C.b dX2_pickRegret_81 hl (k := 4) rfl (by rw [e_y2]; rfl) (by decide) rfl (fun ls hl => ?_)
    refine lv_goto (tgt := 4) C.x C.b dX2_pickRegret_84 (by decide) ?_
    exact hq4 x2 y2 μ h _ _ _ hP hS (lv_sub hl [2, 3, 4, 0] rfl)
  · have h := (if_neg c1).symm.trans h
    refine lv_iload C.x C.b dX2_pickRegret_51 (lv_at hl 0 rfl) ?_
    refine lv_istore_n (lv' := [(2, .int z0), (4, .int z0), (0, .ref (G.2.2 k)), (1, .ref (G.2.2 a1)), (3, .int x3)]) C.x C.b dX2_pickRegret_53 rfl hl (by decide) rfl (fun ls hl => ?_)
    refine lv_aload_n C.x C.b dX2_pickRegret_54 rfl (lv_at hl 2 rfl) ?_
    refine lv_iload_n C.x C.b dX2_pickRegret_55 rfl (lv_at hl 4 rfl) ?_
    refine p_int F_2_4 P_2_4 u1_97 C hP hS q_k_0 dX2_pickRegret_56 (fun H locs hP hS => ?_)
    obtain ⟨μ3, m_μ3, h⟩ := lt_ex h
    have hP : Wm G μ3 H := by rw [m_μ3]; exact hP
    refine lv_aload_n C.x C.b dX2_pickRegret_59 rfl (lv_at hl 2 rfl) ?_
    refine lv_aload_n C.x C.b dX2_pickRegret_60 rfl (lv_at hl 3 rfl) ?_
    refine lv_iload_n C.x C.b dX2_pickRegret_61 rfl (lv_at hl 4 rfl) ?_
    refine lv_iconst (v := 0) C.x C.b dX2_pickRegret_62 (by decide) ?_
    obtain ⟨r5, e4, h⟩ := bnv_some h
    refine k_ni (as := [.int x3, .int 0]) (rest := [.ref (G.2.2 a1), .ref (G.2.2 k)]) (c_X8_cellAt C.i e4) M_X8_cellAt n_RX2_92 C hP hS rfl (by decide) hl.1 rfl (Nat.le_of_ble_eq_true rfl) dX2_pickRegret_63 (fun H locs hP hS => ?_)
    refine lv_iconst (v := 1) C.x C.b dX2_pickRegret_66 (by decide) ?_
    refine lv_aload_n C.x C.b dX2_pickRegret_67 rfl (lv_at hl 2 rfl) ?_
    refine g_ref (k' := k + 2) F_2_7 u1_102 C hP q_k_0 rfl dX2_pickRegret_68 ?_
    refine lv_aload_n C.x C.b dX2_pickRegret_71 rfl (lv_at hl 2 rfl) ?_
    refine g_int F_2_1 u1_92 C hP q_k_0 dX2_pickRegret_72 ?_
    obtain ⟨r7, e6, h⟩ := bnv_some h
    refine k_si (as := [.ref (G.2.2 a1), .int r5, .int 1, .ref (G.2.2 (k + 2)), .int (μ3.1 k 1)]) (rest := [.ref (G.2.2 k)]) (c_X2_cheapestOf C.i hs1 q_k_2 e6) M_X2_cheapestOf u3_36 C hP hS rfl (by decide) hl.1 rfl (Nat.le_of_ble_eq_true rfl) dX2_pickRegret_75 (fun H locs hP hS => ?_)
    refine p_int F_2_5 P_2_5 u1_99 C hP hS q_k_0 dX2_pickRegret_78 (fun H locs hP hS => ?_)
    obtain ⟨μ8, m_μ8, h⟩ := lt_ex h
    have hP : Wm G μ8 H := by rw [m_μ8]; exact hP
    obtain ⟨y9, e_y9, h⟩ := lt_ex h
    refine lv_iinc (v := y9) (lv' := [(3, .int y9), (2, .int z0), (4, .int z0), (0, .ref (G.2.2 k)), (1, .ref (G.2.2 a1))]) C.x C.b dX2_pickRegret_81 hl (k := 4) rfl (by rw [e_y9]; rfl) (by decide) rfl (fun ls hl => ?_)
    refine lv_goto (tgt := 4) C.x C.b dX2_pickRegret_84 (by decide) ?_
    exact hq4 z0 y9 μ8 h _ _ _ hP hS (lv_sub hl [3, 4, 1, 0] rfl)

def f_X2_pickRegret_125 (k : Nat) (a1 : Nat) (n1 : Nat) (q89 : Int32 → Int32 → Mem → Option Mem) (x2 : Int32) (x3 : Int32) (z0 : Int32) (μ : Mem) : Option Mem := if z0 ≤ x2 then (lt (x3 + 1) (fun y2 => q89 x2 y2 μ)) else (bnv (f_X2_cheapestOf a1 n1 x3 6 (k + 1) 6 (μ.1 k 0) μ) (fun r4 => lt (st μ k 4 r4) (fun μ5 => lt (st μ5 k 5 x3) (fun μ6 => lt (x3 + 1) (fun y7 => q89 z0 y7 μ6)))))
set_option maxRecDepth 100000 in
set_option maxHeartbeats 4000000 in
theorem b_X2_pickRegret_125 {p : Program} {l : Launch} {e : Env} {s : State} {m : MethodId} {args : Array Value} {below : List Frame} {meth : Method} {c : Code} {G : Gp} {O : Mem} (C : Cx p s m args meth c cX2_pickRegret 5 RX2 none G) {k : Nat} {a1 : Nat} {n1 : Nat} (hA : At sOpening k) (hs1 : shp[a1]? = some (.inr (0, n1))) {q89 : Int32 → Int32 → Mem → Option Mem} (hq89 : ∀ (x2 : Int32) (x3 : Int32) (μ : Mem), q89 x2 x3 μ = some O → ∀ (H : Heap) (locs : List Loc) (ls : Array Slot), Wm G μ H → va_S (wA G) s.heap H locs → lv_has ls 5 [(0, .ref (G.2.2 k)), (1, .ref (G.2.2 a1)), (2, .int x2), (3, .int x3)] → W p l e (rmm 1 28) s m args below meth c H locs 0 0 (QV below args s G O) (F0 m 89 ls [])) : ∀ (x2 : Int32) (x3 : Int32) (z0 : Int32) (μ : Mem), f_X2_pickRegret_125 k a1 n1 q89 x2 x3 z0 μ = some O → ∀ (H : Heap) (locs : List Loc) (ls : Array Slot), Wm G μ H → va_S (wA G) s.heap H locs → lv_has ls 5 [(0, .ref (G.2.2 k)), (1, .ref (G.2.2 a1)), (2, .int x2), (3, .int x3)] → W p l e (rmm 1 28) s m args below meth c H locs 0 0 (QV below args s G O) (F0 m 125 ls [.int z0]) := by
  intro x2 x3 z0 μ h H locs ls hP hS hl
  unfold f_X2_pickRegret_125 at h
  have q_k_0 : shp[k]? = some (.inl (2, fs2)) := hA 0 _ rfl
  have q_k_1 : shp[k + 1]? = some (.inr (1, 6)) := hA 1 _ rfl
  refine lv_istore (lv' := [(4, .int z0), (0, .ref (G.2.2 k)), (1, .ref (G.2.2 a1)), (2, .int x2), (3, .int x3)]) C.x C.b dX2_pickRegret_125 hl (by decide) rfl (fun ls hl => ?_)
  refine lv_iload C.x C.b dX2_pickRegret_127 (lv_at hl 0 rfl) ?_
  refine lv_iload_n C.x C.b dX2_pickRegret_129 rfl (lv_at hl 3 rfl) ?_
  refine lv_icmp_le (tgt := 160) C.x C.b dX2_pickRegret_130 (by decide) (fun c1 => ?_) (fun c1 => ?_)
  · have h := (if_pos c1).symm.trans h
    obtain ⟨y2, e_y2, h⟩ := lt_ex h
    refine lv_iinc (v := y2) (lv' := [(3, .int y2), (4, .int z0), (0, .ref (G.2.2 k)), (1, .ref (G.2.2 a1)), (2, .int x2)]) C.x C.b dX2_pickRegret_160 hl (k := 4) rfl (by rw [e_y2]; rfl) (by decide) rfl (fun ls hl => ?_)
    refine lv_goto (tgt := 89) C.x C.b dX2_pickRegret_163 (by decide) ?_
    exact hq89 x2 y2 μ h _ _ _ hP hS (lv_sub hl [2, 3, 4, 0] rfl)
  · have h := (if_neg c1).symm.trans h
    refine lv_iload C.x C.b dX2_pickRegret_133 (lv_at hl 0 rfl) ?_
    refine lv_istore_n (lv' := [(2, .int z0), (4, .int z0), (0, .ref (G.2.2 k)), (1, .ref (G.2.2 a1)), (3, .int x3)]) C.x C.b dX2_pickRegret_135 rfl hl (by decide) rfl (fun ls hl => ?_)
    refine lv_aload_n C.x C.b dX2_pickRegret_136 rfl (lv_at hl 2 rfl) ?_
    refine lv_aload_n C.x C.b dX2_pickRegret_137 rfl (lv_at hl 3 rfl) ?_
    refine lv_iload_n C.x C.b dX2_pickRegret_138 rfl (lv_at hl 4 rfl) ?_
    refine lv_bipush (v := 6) C.x C.b dX2_pickRegret_139 (by decide) ?_
    refine lv_aload_n C.x C.b dX2_pickRegret_141 rfl (lv_at hl 2 rfl) ?_
    refine g_ref (k' := k + 1) F_2_6 u1_101 C hP q_k_0 rfl dX2_pickRegret_142 ?_
    refine lv_aload_n C.x C.b dX2_pickRegret_145 rfl (lv_at hl 2 rfl) ?_
    refine g_int F_2_0 u1_90 C hP q_k_0 dX2_pickRegret_146 ?_
    obtain ⟨r4, e3, h⟩ := bnv_some h
    refine k_si (as := [.ref (G.2.2 a1), .int x3, .int 6, .ref (G.2.2 (k + 1)), .int (μ.1 k 0)]) (rest := [.ref (G.2.2 k)]) (c_X2_cheapestOf C.i hs1 q_k_1 e3) M_X2_cheapestOf u3_36 C hP hS rfl (by decide) hl.1 rfl (Nat.le_of_ble_eq_true rfl) dX2_pickRegret_149 (fun H locs hP hS => ?_)
    refine p_int F_2_4 P_2_4 u1_97 C hP hS q_k_0 dX2_pickRegret_152 (fun H locs hP hS => ?_)
    obtain ⟨μ5, m_μ5, h⟩ := lt_ex h
    have hP : Wm G μ5 H := by rw [m_μ5]; exact hP
    refine lv_aload_n C.x C.b dX2_pickRegret_155 rfl (lv_at hl 2 rfl) ?_
    refine lv_iload_n C.x C.b dX2_pickRegret_156 rfl (lv_at hl 4 rfl) ?_
    refine p_int F_2_5 P_2_5 u1_99 C hP hS q_k_0 dX2_pickRegret_157 (fun H locs hP hS => ?_)
    obtain ⟨μ6, m_μ6, h⟩ := lt_ex h
    have hP : Wm G μ6 H := by rw [m_μ6]; exact hP
    obtain ⟨y7, e_y7, h⟩ := lt_ex h
    refine lv_iinc (v := y7) (lv' := [(3, .int y7), (2, .int z0), (4, .int z0), (0, .ref (G.2.2 k)), (1, .ref (G.2.2 a1))]) C.x C.b dX2_pickRegret_160 hl (k := 4) rfl (by rw [e_y7]; rfl) (by decide) rfl (fun ls hl => ?_)
    refine lv_goto (tgt := 89) C.x C.b dX2_pickRegret_163 (by decide) ?_
    exact hq89 z0 y7 μ6 h _ _ _ hP hS (lv_sub hl [3, 4, 1, 0] rfl)

def g_X2_pickRegret_89 (k : Nat) (a1 : Nat) (n1 : Nat)  (q89 : Int32 → Int32 → Mem → Option Mem) (x2 : Int32) (x3 : Int32) (μ : Mem) : Option Mem := if (μ.1 k 1) ≤ x3 then (some μ) else (grd (inb x3 6) (if (μ.1 (k + 2) x3.toNatClampNeg) = 0 then (f_X2_pickRegret_125 k a1 n1 q89 x2 x3 ((-1)) μ) else (bnv (f_X2_regretOf a1 n1 x3 6 (k + 1) 6 (μ.1 k 0) μ) (fun r5 => f_X2_pickRegret_125 k a1 n1 q89 x2 x3 r5 μ))))
def f_X2_pickRegret_89 (k : Nat) (a1 : Nat) (n1 : Nat)  : Nat → Int32 → Int32 → Mem → Option Mem
  | 0, _, _, _ => none
  | n + 1, x2, x3, μ => g_X2_pickRegret_89 k a1 n1 (f_X2_pickRegret_89 k a1 n1 n) x2 x3 μ
set_option maxRecDepth 100000 in
set_option maxHeartbeats 4000000 in
theorem w_X2_pickRegret_89 {p : Program} {l : Launch} {e : Env} {s : State} {m : MethodId} {args : Array Value} {below : List Frame} {meth : Method} {c : Code} {G : Gp} {O : Mem} (C : Cx p s m args meth c cX2_pickRegret 5 RX2 none G) {k : Nat} {a1 : Nat} {n1 : Nat} (hA : At sOpening k) (hs1 : shp[a1]? = some (.inr (0, n1))) {q89 : Int32 → Int32 → Mem → Option Mem} (hq89 : ∀ (x2 : Int32) (x3 : Int32) (μ : Mem), q89 x2 x3 μ = some O → ∀ (H : Heap) (locs : List Loc) (ls : Array Slot), Wm G μ H → va_S (wA G) s.heap H locs → lv_has ls 5 [(0, .ref (G.2.2 k)), (1, .ref (G.2.2 a1)), (2, .int x2), (3, .int x3)] → W p l e (rmm 1 28) s m args below meth c H locs 0 0 (QV below args s G O) (F0 m 89 ls [])) : ∀ (x2 : Int32) (x3 : Int32) (μ : Mem), g_X2_pickRegret_89 k a1 n1 q89 x2 x3 μ = some O → ∀ (H : Heap) (locs : List Loc) (ls : Array Slot), Wm G μ H → va_S (wA G) s.heap H locs → lv_has ls 5 [(0, .ref (G.2.2 k)), (1, .ref (G.2.2 a1)), (2, .int x2), (3, .int x3)] → W p l e (rmm 1 28) s m args below meth c H locs 0 0 (QV below args s G O) (F0 m 89 ls []) := by
  intro x2 x3 μ h H locs ls hP hS hl
  unfold g_X2_pickRegret_89 at h
  have q_k_0 : shp[k]? = some (.inl (2, fs2)) := hA 0 _ rfl
  have q_k_1 : shp[k + 1]? = some (.inr (1, 6)) := hA 1 _ rfl
  have q_k_2 : shp[k + 2]? = some (.inr (1, 6)) := hA 2 _ rfl
  refine lv_iload_n C.x C.b dX2_pickRegret_89 rfl (lv_at hl 3 rfl) ?_
  refine lv_aload_n C.x C.b dX2_pickRegret_90 rfl (lv_at hl 0 rfl) ?_
  refine g_int F_2_1 u1_92 C hP q_k_0 dX2_pickRegret_91 ?_
  refine lv_icmp_ge (tgt := 166) C.x C.b dX2_pickRegret_94 (by decide) (fun c1 => ?_) (fun c1 => ?_)
  · have h := (if_pos c1).symm.trans h
    exact r_v h C hP hS dX2_pickRegret_166
  · have h := (if_neg c1).symm.trans h
    refine lv_aload_n C.x C.b dX2_pickRegret_97 rfl (lv_at hl 0 rfl) ?_
    refine g_ref (k' := k + 2) F_2_7 u1_102 C hP q_k_0 rfl dX2_pickRegret_98 ?_
    refine lv_iload_n C.x C.b dX2_pickRegret_101 rfl (lv_at hl 3 rfl) ?_
    obtain ⟨g2, h⟩ := grd_some h
    refine a_z C hP q_k_2 g2 dX2_pickRegret_102 ?_
    refine lv_if_eq (tgt := 124) C.x C.b dX2_pickRegret_103 (by decide) (fun c3 => ?_) (fun c3 => ?_)
    · have h := (if_pos c3).symm.trans h
      refine lv_iconst (v := (-1)) C.x C.b dX2_pickRegret_124 (by decide) ?_
      exact b_X2_pickRegret_125 C hA hs1 hq89 x2 x3 ((-1)) μ h _ _ _ hP hS (lv_sub hl [0, 1, 2, 3] rfl)
    · have h := (if_neg c3).symm.trans h
      refine lv_aload_n C.x C.b dX2_pickRegret_106 rfl (lv_at hl 1 rfl) ?_
      refine lv_iload_n C.x C.b dX2_pickRegret_107 rfl (lv_at hl 3 rfl) ?_
      refine lv_bipush (v := 6) C.x C.b dX2_pickRegret_108 (by decide) ?_
      refine lv_aload_n C.x C.b dX2_pickRegret_110 rfl (lv_at hl 0 rfl) ?_
      refine g_ref (k' := k + 1) F_2_6 u1_101 C hP q_k_0 rfl dX2_pickRegret_111 ?_
      refine lv_aload_n C.x C.b dX2_pickRegret_114 rfl (lv_at hl 0 rfl) ?_
      refine g_int F_2_0 u1_90 C hP q_k_0 dX2_pickRegret_115 ?_
      obtain ⟨r5, e4, h⟩ := bnv_some h
      refine k_si (as := [.ref (G.2.2 a1), .int x3, .int 6, .ref (G.2.2 (k + 1)), .int (μ.1 k 0)]) (rest := []) (c_X2_regretOf C.i hs1 q_k_1 e4) M_X2_regretOf u3_33 C hP hS rfl (by decide) hl.1 rfl (Nat.le_of_ble_eq_true rfl) dX2_pickRegret_118 (fun H locs hP hS => ?_)
      refine lv_goto (tgt := 125) C.x C.b dX2_pickRegret_121 (by decide) ?_
      exact b_X2_pickRegret_125 C hA hs1 hq89 x2 x3 r5 μ h _ _ _ hP hS (lv_sub hl [0, 1, 2, 3] rfl)

set_option maxRecDepth 100000 in
set_option maxHeartbeats 4000000 in
theorem b_X2_pickRegret_89 {p : Program} {l : Launch} {e : Env} {s : State} {m : MethodId} {args : Array Value} {below : List Frame} {meth : Method} {c : Code} {G : Gp} {O : Mem} (C : Cx p s m args meth c cX2_pickRegret 5 RX2 none G) {k : Nat} {a1 : Nat} {n1 : Nat} (hA : At sOpening k) (hs1 : shp[a1]? = some (.inr (0, n1))) : ∀ (n : Nat) (x2 : Int32) (x3 : Int32) (μ : Mem), f_X2_pickRegret_89 k a1 n1 n x2 x3 μ = some O → ∀ (H : Heap) (locs : List Loc) (ls : Array Slot), Wm G μ H → va_S (wA G) s.heap H locs → lv_has ls 5 [(0, .ref (G.2.2 k)), (1, .ref (G.2.2 a1)), (2, .int x2), (3, .int x3)] → W p l e (rmm 1 28) s m args below meth c H locs 0 0 (QV below args s G O) (F0 m 89 ls []) := by
  intro n
  induction n with
  | zero => intro x2 x3 μ h; cases h
  | succ n ih => intro x2 x3 μ h; exact w_X2_pickRegret_89 C hA hs1 (q89 := f_X2_pickRegret_89 k a1 n1 n) ih x2 x3 μ h

def g_X2_pickRegret_4 (k : Nat) (a1 : Nat) (n1 : Nat)  (q4 : Int32 → Int32 → Mem → Option Mem) (x2 : Int32) (x3 : Int32) (μ : Mem) : Option Mem := if (μ.1 k 0) ≤ x3 then (f_X2_pickRegret_89 k a1 n1 FU x2 0 μ) else (grd (inb x3 6) (if (μ.1 (k + 1) x3.toNatClampNeg) = 0 then (f_X2_pickRegret_43 k a1 n1 q4 x2 x3 ((-1)) μ) else (bnv (f_X8_cellAt x3 0 μ) (fun r5 => bnv (f_X2_regretOf a1 n1 r5 1 (k + 2) 6 (μ.1 k 1) μ) (fun r7 => f_X2_pickRegret_43 k a1 n1 q4 x2 x3 r7 μ)))))
def f_X2_pickRegret_4 (k : Nat) (a1 : Nat) (n1 : Nat)  : Nat → Int32 → Int32 → Mem → Option Mem
  | 0, _, _, _ => none
  | n + 1, x2, x3, μ => g_X2_pickRegret_4 k a1 n1 (f_X2_pickRegret_4 k a1 n1 n) x2 x3 μ
set_option maxRecDepth 100000 in
set_option maxHeartbeats 4000000 in
theorem w_X2_pickRegret_4 {p : Program} {l : Launch} {e : Env} {s : State} {m : MethodId} {args : Array Value} {below : List Frame} {meth : Method} {c : Code} {G : Gp} {O : Mem} (C : Cx p s m args meth c cX2_pickRegret 5 RX2 none G) {k : Nat} {a1 : Nat} {n1 : Nat} (hA : At sOpening k) (hs1 : shp[a1]? = some (.inr (0, n1))) {q4 : Int32 → Int32 → Mem → Option Mem} (hq4 : ∀ (x2 : Int32) (x3 : Int32) (μ : Mem), q4 x2 x3 μ = some O → ∀ (H : Heap) (locs : List Loc) (ls : Array Slot), Wm G μ H → va_S (wA G) s.heap H locs → lv_has ls 5 [(0, .ref (G.2.2 k)), (1, .ref (G.2.2 a1)), (2, .int x2), (3, .int x3)] → W p l e (rmm 1 28) s m args below meth c H locs 0 0 (QV below args s G O) (F0 m 4 ls [])) : ∀ (x2 : Int32) (x3 : Int32) (μ : Mem), g_X2_pickRegret_4 k a1 n1 q4 x2 x3 μ = some O → ∀ (H : Heap) (locs : List Loc) (ls : Array Slot), Wm G μ H → va_S (wA G) s.heap H locs → lv_has ls 5 [(0, .ref (G.2.2 k)), (1, .ref (G.2.2 a1)), (2, .int x2), (3, .int x3)] → W p l e (rmm 1 28) s m args below meth c H locs 0 0 (QV below args s G O) (F0 m 4 ls []) := by
  intro x2 x3 μ h H locs ls hP hS hl
  unfold g_X2_pickRegret_4 at h
  have q_k_0 : shp[k]? = some (.inl (2, fs2)) := hA 0 _ rfl
  have q_k_1 : shp[k + 1]? = some (.inr (1, 6)) := hA 1 _ rfl
  have q_k_2 : shp[k + 2]? = some (.inr (1, 6)) := hA 2 _ rfl
  refine lv_iload_n C.x C.b dX2_pickRegret_4 rfl (lv_at hl 3 rfl) ?_
  refine lv_aload_n C.x C.b dX2_pickRegret_5 rfl (lv_at hl 0 rfl) ?_
  refine g_int F_2_0 u1_90 C hP q_k_0 dX2_pickRegret_6 ?_
  refine lv_icmp_ge (tgt := 87) C.x C.b dX2_pickRegret_9 (by decide) (fun c1 => ?_) (fun c1 => ?_)
  · have h := (if_pos c1).symm.trans h
    refine lv_iconst (v := 0) C.x C.b dX2_pickRegret_87 (by decide) ?_
    refine lv_istore_n (lv' := [(3, .int 0), (0, .ref (G.2.2 k)), (1, .ref (G.2.2 a1)), (2, .int x2)]) C.x C.b dX2_pickRegret_88 rfl hl (by decide) rfl (fun ls hl => ?_)
    exact b_X2_pickRegret_89 C hA hs1 FU x2 0 μ h _ _ _ hP hS (lv_sub hl [1, 2, 3, 0] rfl)
  · have h := (if_neg c1).symm.trans h
    refine lv_aload_n C.x C.b dX2_pickRegret_12 rfl (lv_at hl 0 rfl) ?_
    refine g_ref (k' := k + 1) F_2_6 u1_101 C hP q_k_0 rfl dX2_pickRegret_13 ?_
    refine lv_iload_n C.x C.b dX2_pickRegret_16 rfl (lv_at hl 3 rfl) ?_
    obtain ⟨g2, h⟩ := grd_some h
    refine a_z C hP q_k_1 g2 dX2_pickRegret_17 ?_
    refine lv_if_eq (tgt := 42) C.x C.b dX2_pickRegret_18 (by decide) (fun c3 => ?_) (fun c3 => ?_)
    · have h := (if_pos c3).symm.trans h
      refine lv_iconst (v := (-1)) C.x C.b dX2_pickRegret_42 (by decide) ?_
      exact b_X2_pickRegret_43 C hA hs1 hq4 x2 x3 ((-1)) μ h _ _ _ hP hS (lv_sub hl [0, 1, 2, 3] rfl)
    · have h := (if_neg c3).symm.trans h
      refine lv_aload_n C.x C.b dX2_pickRegret_21 rfl (lv_at hl 1 rfl) ?_
      refine lv_iload_n C.x C.b dX2_pickRegret_22 rfl (lv_at hl 3 rfl) ?_
      refine lv_iconst (v := 0) C.x C.b dX2_pickRegret_23 (by decide) ?_
      obtain ⟨r5, e4, h⟩ := bnv_some h
      refine k_ni (as := [.int x3, .int 0]) (rest := [.ref (G.2.2 a1)]) (c_X8_cellAt C.i e4) M_X8_cellAt n_RX2_92 C hP hS rfl (by decide) hl.1 rfl (Nat.le_of_ble_eq_true rfl) dX2_pickRegret_24 (fun H locs hP hS => ?_)
      refine lv_iconst (v := 1) C.x C.b dX2_pickRegret_27 (by decide) ?_
      refine lv_aload_n C.x C.b dX2_pickRegret_28 rfl (lv_at hl 0 rfl) ?_
      refine g_ref (k' := k + 2) F_2_7 u1_102 C hP q_k_0 rfl dX2_pickRegret_29 ?_
      refine lv_aload_n C.x C.b dX2_pickRegret_32 rfl (lv_at hl 0 rfl) ?_
      refine g_int F_2_1 u1_92 C hP q_k_0 dX2_pickRegret_33 ?_
      obtain ⟨r7, e6, h⟩ := bnv_some h
      refine k_si (as := [.ref (G.2.2 a1), .int r5, .int 1, .ref (G.2.2 (k + 2)), .int (μ.1 k 1)]) (rest := []) (c_X2_regretOf C.i hs1 q_k_2 e6) M_X2_regretOf u3_33 C hP hS rfl (by decide) hl.1 rfl (Nat.le_of_ble_eq_true rfl) dX2_pickRegret_36 (fun H locs hP hS => ?_)
      refine lv_goto (tgt := 43) C.x C.b dX2_pickRegret_39 (by decide) ?_
      exact b_X2_pickRegret_43 C hA hs1 hq4 x2 x3 r7 μ h _ _ _ hP hS (lv_sub hl [0, 1, 2, 3] rfl)

set_option maxRecDepth 100000 in
set_option maxHeartbeats 4000000 in
theorem b_X2_pickRegret_4 {p : Program} {l : Launch} {e : Env} {s : State} {m : MethodId} {args : Array Value} {below : List Frame} {meth : Method} {c : Code} {G : Gp} {O : Mem} (C : Cx p s m args meth c cX2_pickRegret 5 RX2 none G) {k : Nat} {a1 : Nat} {n1 : Nat} (hA : At sOpening k) (hs1 : shp[a1]? = some (.inr (0, n1))) : ∀ (n : Nat) (x2 : Int32) (x3 : Int32) (μ : Mem), f_X2_pickRegret_4 k a1 n1 n x2 x3 μ = some O → ∀ (H : Heap) (locs : List Loc) (ls : Array Slot), Wm G μ H → va_S (wA G) s.heap H locs → lv_has ls 5 [(0, .ref (G.2.2 k)), (1, .ref (G.2.2 a1)), (2, .int x2), (3, .int x3)] → W p l e (rmm 1 28) s m args below meth c H locs 0 0 (QV below args s G O) (F0 m 4 ls []) := by
  intro n
  induction n with
  | zero => intro x2 x3 μ h; cases h
  | succ n ih => intro x2 x3 μ h; exact w_X2_pickRegret_4 C hA hs1 (q4 := f_X2_pickRegret_4 k a1 n1 n) ih x2 x3 μ h

def f_X2_pickRegret (k : Nat) (a1 : Nat) (n1 : Nat) (μ : Mem) : Option Mem := f_X2_pickRegret_4 k a1 n1 FU ((-1)) 0 μ
set_option maxRecDepth 100000 in
set_option maxHeartbeats 4000000 in
theorem b_X2_pickRegret {p : Program} {l : Launch} {e : Env} {s : State} {m : MethodId} {args : Array Value} {below : List Frame} {meth : Method} {c : Code} {G : Gp} {O : Mem} (C : Cx p s m args meth c cX2_pickRegret 5 RX2 none G) {k : Nat} {a1 : Nat} {n1 : Nat} (hA : At sOpening k) (hs1 : shp[a1]? = some (.inr (0, n1))) {μ : Mem} (h : f_X2_pickRegret k a1 n1 μ = some O) : ∀ (H : Heap) (locs : List Loc) (ls : Array Slot), Wm G μ H → va_S (wA G) s.heap H locs → lv_has ls 5 [(0, .ref (G.2.2 k)), (1, .ref (G.2.2 a1))] → W p l e (rmm 1 28) s m args below meth c H locs 0 0 (QV below args s G O) (F0 m 0 ls []) := by
  unfold f_X2_pickRegret at h
  intro H locs ls hP hS hl
  refine lv_iconst (v := (-1)) C.x C.b dX2_pickRegret_0 (by decide) ?_
  refine lv_istore_n (lv' := [(2, .int ((-1))), (0, .ref (G.2.2 k)), (1, .ref (G.2.2 a1))]) C.x C.b dX2_pickRegret_1 rfl hl (by decide) rfl (fun ls hl => ?_)
  refine lv_iconst (v := 0) C.x C.b dX2_pickRegret_2 (by decide) ?_
  refine lv_istore_n (lv' := [(3, .int 0), (2, .int ((-1))), (0, .ref (G.2.2 k)), (1, .ref (G.2.2 a1))]) C.x C.b dX2_pickRegret_3 rfl hl (by decide) rfl (fun ls hl => ?_)
  exact b_X2_pickRegret_4 C hA hs1 FU ((-1)) 0 μ h _ _ _ hP hS (lv_sub hl [2, 3, 1, 0] rfl)

set_option maxRecDepth 100000 in
set_option maxHeartbeats 4000000 in
theorem c_X2_pickRegret {l : Launch} {G : Gp} (hI : Wi G) {k : Nat} {a1 : Nat} {n1 : Nat} (hA : At sOpening k) (hs1 : shp[a1]? = some (.inr (0, n1))) {μ : Mem} {μ' : Mem} (h : f_X2_pickRegret k a1 n1 μ = some μ') : CV l yX2_pickRegret cX2_pickRegret 5 none 1 28 G [.ref (G.2.2 k), .ref (G.2.2 a1)] μ μ' :=
  e_all (lv := [(0, .ref (G.2.2 k)), (1, .ref (G.2.2 a1))]) hI (by decide) (Nat.le_of_ble_eq_true rfl) rfl (fun p e s m args below meth c ls C hP hS hl => b_X2_pickRegret C hA hs1 h _ _ _ hP hS hl)


def f_X2_pickBy (k : Nat) (x1 : Int32) (a2 : Nat) (n2 : Nat) (μ : Mem) : Option Mem := if x1 = 0 then (bnv (f_X2_pickCorner k μ) (fun μ3 => some μ3)) else (if x1 = 1 then (bnv (f_X2_pickLeast k a2 n2 μ) (fun μ6 => some μ6)) else ((bnv (f_X2_pickRegret k a2 n2 μ) (fun μ8 => some μ8))))
set_option maxRecDepth 100000 in
set_option maxHeartbeats 4000000 in
theorem b_X2_pickBy {p : Program} {l : Launch} {e : Env} {s : State} {m : MethodId} {args : Array Value} {below : List Frame} {meth : Method} {c : Code} {G : Gp} {O : Mem} (C : Cx p s m args meth c cX2_pickBy 3 RX2 none G) {k : Nat} {x1 : Int32} {a2 : Nat} {n2 : Nat} (hA : At sOpening k) (hs2 : shp[a2]? = some (.inr (0, n2))) {μ : Mem} (h : f_X2_pickBy k x1 a2 n2 μ = some O) : ∀ (H : Heap) (locs : List Loc) (ls : Array Slot), Wm G μ H → va_S (wA G) s.heap H locs → lv_has ls 3 [(0, .ref (G.2.2 k)), (1, .int x1), (2, .ref (G.2.2 a2))] → W p l e (rmm 2 52) s m args below meth c H locs 0 0 (QV below args s G O) (F0 m 0 ls []) := by
  unfold f_X2_pickBy at h
  intro H locs ls hP hS hl
  have q_k_0 : shp[k]? = some (.inl (2, fs2)) := hA 0 _ rfl
  refine lv_iload_n C.x C.b dX2_pickBy_0 rfl (lv_at hl 1 rfl) ?_
  by_cases c1 : x1 = 0
  · have h := (if_pos c1).symm.trans h
    refine lv_lookup (off := 27) (tgt := 28) C.x C.b dX2_pickBy_1 (by decide) (by rw [c1]; decide) (by decide) ?_
    refine lv_aload_n C.x C.b dX2_pickBy_28 rfl (lv_at hl 0 rfl) ?_
    obtain ⟨μ3, e2, h⟩ := bnv_some h
    refine k_vv (k := k) (as := []) (rest := []) (c_X2_pickCorner C.i hA e2) M_X2_pickCorner u3_16 C hP hS q_k_0 rfl rfl (by decide) hl.1 rfl (Nat.le_of_ble_eq_true rfl) dX2_pickBy_29 (fun H locs hP hS => ?_)
    refine lv_goto (tgt := 48) C.x C.b dX2_pickBy_32 (by decide) ?_
    exact r_v h C hP hS dX2_pickBy_48
  · have h := (if_neg c1).symm.trans h
    by_cases c4 : x1 = 1
    · have h := (if_pos c4).symm.trans h
      refine lv_lookup (off := 34) (tgt := 35) C.x C.b dX2_pickBy_1 (by decide) (by rw [c4]; decide) (by decide) ?_
      refine lv_aload_n C.x C.b dX2_pickBy_35 rfl (lv_at hl 0 rfl) ?_
      refine lv_aload_n C.x C.b dX2_pickBy_36 rfl (lv_at hl 2 rfl) ?_
      obtain ⟨μ6, e5, h⟩ := bnv_some h
      refine k_vv (k := k) (as := [.ref (G.2.2 a2)]) (rest := []) (c_X2_pickLeast C.i hA hs2 e5) M_X2_pickLeast u3_23 C hP hS q_k_0 rfl rfl (by decide) hl.1 rfl (Nat.le_of_ble_eq_true rfl) dX2_pickBy_37 (fun H locs hP hS => ?_)
      refine lv_goto (tgt := 48) C.x C.b dX2_pickBy_40 (by decide) ?_
      exact r_v h C hP hS dX2_pickBy_48
    · have h := (if_neg c4).symm.trans h
      refine lv_lookup (off := 42) (tgt := 43) C.x C.b dX2_pickBy_1 (by decide) (by first | (rw [lv_osw (a := 0) c1 (by decide), lv_osw (a := 1) c4 (by decide)]; rfl) | (show Op.lookupswitch.offset [(0, 27), (1, 34)] 42 _ = _; rw [lv_osw (a := 0) c1 (by decide), lv_osw (a := 1) c4 (by decide)]; rfl)) (by decide) ?_
      refine lv_aload_n C.x C.b dX2_pickBy_43 rfl (lv_at hl 0 rfl) ?_
      refine lv_aload_n C.x C.b dX2_pickBy_44 rfl (lv_at hl 2 rfl) ?_
      obtain ⟨μ8, e7, h⟩ := bnv_some h
      refine k_vv (k := k) (as := [.ref (G.2.2 a2)]) (rest := []) (c_X2_pickRegret C.i hA hs2 e7) M_X2_pickRegret u3_29 C hP hS q_k_0 rfl rfl (by decide) hl.1 rfl (Nat.le_of_ble_eq_true rfl) dX2_pickBy_45 (fun H locs hP hS => ?_)
      exact r_v h C hP hS dX2_pickBy_48

set_option maxRecDepth 100000 in
set_option maxHeartbeats 4000000 in
theorem c_X2_pickBy {l : Launch} {G : Gp} (hI : Wi G) {k : Nat} {x1 : Int32} {a2 : Nat} {n2 : Nat} (hA : At sOpening k) (hs2 : shp[a2]? = some (.inr (0, n2))) {μ : Mem} {μ' : Mem} (h : f_X2_pickBy k x1 a2 n2 μ = some μ') : CV l yX2_pickBy cX2_pickBy 3 none 2 52 G [.ref (G.2.2 k), .int x1, .ref (G.2.2 a2)] μ μ' :=
  e_all (lv := [(0, .ref (G.2.2 k)), (1, .int x1), (2, .ref (G.2.2 a2))]) hI (by decide) (Nat.le_of_ble_eq_true rfl) rfl (fun p e s m args below meth c ls C hP hS hl => b_X2_pickBy C hA hs2 h _ _ _ hP hS hl)


def f_X2_takeLesser (k : Nat) (μ : Mem) : Option (Int32 × Mem) := grd (inb (μ.1 k 4) 6) (grd (inb (μ.1 k 5) 6) (lt (mn (μ.1 (k + 3) (μ.1 k 4).toNatClampNeg) (μ.1 (k + 4) (μ.1 k 5).toNatClampNeg)) (fun y3 => grd (inb (μ.1 k 4) 6) (grd (inb (μ.1 k 4) 6) (lt (st μ (k + 3) (μ.1 k 4).toNatClampNeg ((μ.1 (k + 3) (μ.1 k 4).toNatClampNeg) - y3)) (fun μ6 => grd (inb (μ6.1 k 5) 6) (grd (inb (μ6.1 k 5) 6) (lt (st μ6 (k + 4) (μ6.1 k 5).toNatClampNeg ((μ6.1 (k + 4) (μ6.1 k 5).toNatClampNeg) - y3)) (fun μ9 => some (y3, μ9))))))))))
set_option maxRecDepth 100000 in
set_option maxHeartbeats 4000000 in
theorem b_X2_takeLesser {p : Program} {l : Launch} {e : Env} {s : State} {m : MethodId} {args : Array Value} {below : List Frame} {meth : Method} {c : Code} {G : Gp} {O : (Int32 × Mem)} (C : Cx p s m args meth c cX2_takeLesser 2 RX2 (some .int) G) {k : Nat} (hA : At sOpening k) {μ : Mem} (h : f_X2_takeLesser k μ = some O) : ∀ (H : Heap) (locs : List Loc) (ls : Array Slot), Wm G μ H → va_S (wA G) s.heap H locs → lv_has ls 2 [(0, .ref (G.2.2 k))] → W p l e (rmm 1 21) s m args below meth c H locs 0 0 (QI below args s G O) (F0 m 0 ls []) := by
  unfold f_X2_takeLesser at h
  intro H locs ls hP hS hl
  have q_k_0 : shp[k]? = some (.inl (2, fs2)) := hA 0 _ rfl
  have q_k_3 : shp[k + 3]? = some (.inr (0, 6)) := hA 3 _ rfl
  have q_k_4 : shp[k + 4]? = some (.inr (0, 6)) := hA 4 _ rfl
  refine lv_aload_n C.x C.b dX2_takeLesser_0 rfl (lv_at hl 0 rfl) ?_
  refine g_ref (k' := k + 3) F_2_8 u1_103 C hP q_k_0 rfl dX2_takeLesser_1 ?_
  refine lv_aload_n C.x C.b dX2_takeLesser_4 rfl (lv_at hl 0 rfl) ?_
  refine g_int F_2_4 u1_97 C hP q_k_0 dX2_takeLesser_5 ?_
  obtain ⟨g1, h⟩ := grd_some h
  refine a_i C hP q_k_3 g1 dX2_takeLesser_8 ?_
  refine lv_aload_n C.x C.b dX2_takeLesser_9 rfl (lv_at hl 0 rfl) ?_
  refine g_ref (k' := k + 4) F_2_9 u1_104 C hP q_k_0 rfl dX2_takeLesser_10 ?_
  refine lv_aload_n C.x C.b dX2_takeLesser_13 rfl (lv_at hl 0 rfl) ?_
  refine g_int F_2_5 u1_99 C hP q_k_0 dX2_takeLesser_14 ?_
  obtain ⟨g2, h⟩ := grd_some h
  refine a_i C hP q_k_4 g2 dX2_takeLesser_17 ?_
  refine k_min u3_43 C hl.1 ⟨by decide, Nat.le_of_ble_eq_true rfl⟩ dX2_takeLesser_18 ?_
  refine lv_topi (fun y3 e_y3 => ?_)
  have h := lt_at h e_y3
  refine lv_istore_n (lv' := [(1, .int y3), (0, .ref (G.2.2 k))]) C.x C.b dX2_takeLesser_21 rfl hl (by decide) rfl (fun ls hl => ?_)
  refine lv_aload_n C.x C.b dX2_takeLesser_22 rfl (lv_at hl 1 rfl) ?_
  refine g_ref (k' := k + 3) F_2_8 u1_103 C hP q_k_0 rfl dX2_takeLesser_23 ?_
  refine lv_aload_n C.x C.b dX2_takeLesser_26 rfl (lv_at hl 1 rfl) ?_
  refine g_int F_2_4 u1_97 C hP q_k_0 dX2_takeLesser_27 ?_
  refine lv_dup2_11 C.x C.b dX2_takeLesser_30 rfl rfl ?_
  obtain ⟨g4, h⟩ := grd_some h
  refine a_i C hP q_k_3 g4 dX2_takeLesser_31 ?_
  refine lv_iload_n C.x C.b dX2_takeLesser_32 rfl (lv_at hl 0 rfl) ?_
  refine lv_isub C.x C.b dX2_takeLesser_33 ?_
  obtain ⟨g5, h⟩ := grd_some h
  refine as_i C hP hS q_k_3 g5 dX2_takeLesser_34 (fun H locs hP hS => ?_)
  obtain ⟨μ6, m_μ6, h⟩ := lt_ex h
  have hP : Wm G μ6 H := by rw [m_μ6]; exact hP
  refine lv_aload_n C.x C.b dX2_takeLesser_35 rfl (lv_at hl 1 rfl) ?_
  refine g_ref (k' := k + 4) F_2_9 u1_104 C hP q_k_0 rfl dX2_takeLesser_36 ?_
  refine lv_aload_n C.x C.b dX2_takeLesser_39 rfl (lv_at hl 1 rfl) ?_
  refine g_int F_2_5 u1_99 C hP q_k_0 dX2_takeLesser_40 ?_
  refine lv_dup2_11 C.x C.b dX2_takeLesser_43 rfl rfl ?_
  obtain ⟨g7, h⟩ := grd_some h
  refine a_i C hP q_k_4 g7 dX2_takeLesser_44 ?_
  refine lv_iload_n C.x C.b dX2_takeLesser_45 rfl (lv_at hl 0 rfl) ?_
  refine lv_isub C.x C.b dX2_takeLesser_46 ?_
  obtain ⟨g8, h⟩ := grd_some h
  refine as_i C hP hS q_k_4 g8 dX2_takeLesser_47 (fun H locs hP hS => ?_)
  obtain ⟨μ9, m_μ9, h⟩ := lt_ex h
  have hP : Wm G μ9 H := by rw [m_μ9]; exact hP
  refine lv_iload_n C.x C.b dX2_takeLesser_48 rfl (lv_at hl 0 rfl) ?_
  exact r_i h C hP hS dX2_takeLesser_49

set_option maxRecDepth 100000 in
set_option maxHeartbeats 4000000 in
theorem c_X2_takeLesser {l : Launch} {G : Gp} (hI : Wi G) {k : Nat} (hA : At sOpening k) {μ : Mem} {r : Int32} {μ' : Mem} (h : f_X2_takeLesser k μ = some (r, μ')) : CI l yX2_takeLesser cX2_takeLesser 2 (some .int) 1 21 G [.ref (G.2.2 k)] μ r μ' :=
  e_all (lv := [(0, .ref (G.2.2 k))]) hI (by decide) (Nat.le_of_ble_eq_true rfl) rfl (fun p e s m args below meth c ls C hP hS hl => b_X2_takeLesser C hA h _ _ _ hP hS hl)


def f_X2_closeOne_43 (k : Nat)   (μ : Mem) : Option Mem := grd (inb (μ.1 k 5) 6) (lt (st μ (k + 2) (μ.1 k 5).toNatClampNeg 0) (fun μ2 => lt (st μ2 k 3 ((μ2.1 k 3) - 1)) (fun μ3 => some μ3)))
set_option maxRecDepth 100000 in
set_option maxHeartbeats 4000000 in
theorem b_X2_closeOne_43 {p : Program} {l : Launch} {e : Env} {s : State} {m : MethodId} {args : Array Value} {below : List Frame} {meth : Method} {c : Code} {G : Gp} {O : Mem} (C : Cx p s m args meth c cX2_closeOne 1 RX2 none G) {k : Nat} (hA : At sOpening k) : ∀ (μ : Mem), f_X2_closeOne_43 k μ = some O → ∀ (H : Heap) (locs : List Loc) (ls : Array Slot), Wm G μ H → va_S (wA G) s.heap H locs → lv_has ls 1 [(0, .ref (G.2.2 k))] → W p l e (rmm 0 0) s m args below meth c H locs 0 0 (QV below args s G O) (F0 m 43 ls []) := by
  intro μ h H locs ls hP hS hl
  unfold f_X2_closeOne_43 at h
  have q_k_0 : shp[k]? = some (.inl (2, fs2)) := hA 0 _ rfl
  have q_k_2 : shp[k + 2]? = some (.inr (1, 6)) := hA 2 _ rfl
  refine lv_aload_n C.x C.b dX2_closeOne_43 rfl (lv_at hl 0 rfl) ?_
  refine g_ref (k' := k + 2) F_2_7 u1_102 C hP q_k_0 rfl dX2_closeOne_44 ?_
  refine lv_aload_n C.x C.b dX2_closeOne_47 rfl (lv_at hl 0 rfl) ?_
  refine g_int F_2_5 u1_99 C hP q_k_0 dX2_closeOne_48 ?_
  refine lv_iconst (v := 0) C.x C.b dX2_closeOne_51 (by decide) ?_
  obtain ⟨g1, h⟩ := grd_some h
  refine as_z C hP hS q_k_2 g1 (by decide) dX2_closeOne_52 (fun H locs hP hS => ?_)
  obtain ⟨μ2, m_μ2, h⟩ := lt_ex h
  have hP : Wm G μ2 H := by rw [m_μ2]; exact hP
  refine lv_aload_n C.x C.b dX2_closeOne_53 rfl (lv_at hl 0 rfl) ?_
  refine lv_dup C.x C.b dX2_closeOne_54 rfl ?_
  refine g_int F_2_3 u1_95 C hP q_k_0 dX2_closeOne_55 ?_
  refine lv_iconst (v := 1) C.x C.b dX2_closeOne_58 (by decide) ?_
  refine lv_isub C.x C.b dX2_closeOne_59 ?_
  refine p_int F_2_3 P_2_3 u1_95 C hP hS q_k_0 dX2_closeOne_60 (fun H locs hP hS => ?_)
  obtain ⟨μ3, m_μ3, h⟩ := lt_ex h
  have hP : Wm G μ3 H := by rw [m_μ3]; exact hP
  exact r_v h C hP hS dX2_closeOne_63

def f_X2_closeOne (k : Nat) (μ : Mem) : Option Mem := grd (inb (μ.1 k 4) 6) (if (μ.1 (k + 3) (μ.1 k 4).toNatClampNeg) = 0 then (if (μ.1 k 2) ≤ 1 then (f_X2_closeOne_43 k μ) else (grd (inb (μ.1 k 4) 6) (lt (st μ (k + 1) (μ.1 k 4).toNatClampNeg 0) (fun μ5 => lt (st μ5 k 2 ((μ5.1 k 2) - 1)) (fun μ6 => some μ6))))) else (f_X2_closeOne_43 k μ))
set_option maxRecDepth 100000 in
set_option maxHeartbeats 4000000 in
theorem b_X2_closeOne {p : Program} {l : Launch} {e : Env} {s : State} {m : MethodId} {args : Array Value} {below : List Frame} {meth : Method} {c : Code} {G : Gp} {O : Mem} (C : Cx p s m args meth c cX2_closeOne 1 RX2 none G) {k : Nat} (hA : At sOpening k) {μ : Mem} (h : f_X2_closeOne k μ = some O) : ∀ (H : Heap) (locs : List Loc) (ls : Array Slot), Wm G μ H → va_S (wA G) s.heap H locs → lv_has ls 1 [(0, .ref (G.2.2 k))] → W p l e (rmm 0 0) s m args below meth c H locs 0 0 (QV below args s G O) (F0 m 0 ls []) := by
  unfold f_X2_closeOne at h
  intro H locs ls hP hS hl
  have q_k_0 : shp[k]? = some (.inl (2, fs2)) := hA 0 _ rfl
  have q_k_1 : shp[k + 1]? = some (.inr (1, 6)) := hA 1 _ rfl
  have q_k_3 : shp[k + 3]? = some (.inr (0, 6)) := hA 3 _ rfl
  refine lv_aload_n C.x C.b dX2_closeOne_0 rfl (lv_at hl 0 rfl) ?_
  refine g_ref (k' := k + 3) F_2_8 u1_103 C hP q_k_0 rfl dX2_closeOne_1 ?_
  refine lv_aload_n C.x C.b dX2_closeOne_4 rfl (lv_at hl 0 rfl) ?_
  refine g_int F_2_4 u1_97 C hP q_k_0 dX2_closeOne_5 ?_
  obtain ⟨g1, h⟩ := grd_some h
  refine a_i C hP q_k_3 g1 dX2_closeOne_8 ?_
  refine lv_if_ne (tgt := 43) C.x C.b dX2_closeOne_9 (by decide) (fun c2 => ?_) (fun c2 => ?_)
  · have h := (if_neg c2).symm.trans h
    exact b_X2_closeOne_43 C hA μ h _ _ _ hP hS (lv_sub hl [0] rfl)
  · have h := (if_pos c2).symm.trans h
    refine lv_aload_n C.x C.b dX2_closeOne_12 rfl (lv_at hl 0 rfl) ?_
    refine g_int F_2_2 u1_94 C hP q_k_0 dX2_closeOne_13 ?_
    refine lv_iconst (v := 1) C.x C.b dX2_closeOne_16 (by decide) ?_
    refine lv_icmp_le (tgt := 43) C.x C.b dX2_closeOne_17 (by decide) (fun c3 => ?_) (fun c3 => ?_)
    · have h := (if_pos c3).symm.trans h
      exact b_X2_closeOne_43 C hA μ h _ _ _ hP hS (lv_sub hl [0] rfl)
    · have h := (if_neg c3).symm.trans h
      refine lv_aload_n C.x C.b dX2_closeOne_20 rfl (lv_at hl 0 rfl) ?_
      refine g_ref (k' := k + 1) F_2_6 u1_101 C hP q_k_0 rfl dX2_closeOne_21 ?_
      refine lv_aload_n C.x C.b dX2_closeOne_24 rfl (lv_at hl 0 rfl) ?_
      refine g_int F_2_4 u1_97 C hP q_k_0 dX2_closeOne_25 ?_
      refine lv_iconst (v := 0) C.x C.b dX2_closeOne_28 (by decide) ?_
      obtain ⟨g4, h⟩ := grd_some h
      refine as_z C hP hS q_k_1 g4 (by decide) dX2_closeOne_29 (fun H locs hP hS => ?_)
      obtain ⟨μ5, m_μ5, h⟩ := lt_ex h
      have hP : Wm G μ5 H := by rw [m_μ5]; exact hP
      refine lv_aload_n C.x C.b dX2_closeOne_30 rfl (lv_at hl 0 rfl) ?_
      refine lv_dup C.x C.b dX2_closeOne_31 rfl ?_
      refine g_int F_2_2 u1_94 C hP q_k_0 dX2_closeOne_32 ?_
      refine lv_iconst (v := 1) C.x C.b dX2_closeOne_35 (by decide) ?_
      refine lv_isub C.x C.b dX2_closeOne_36 ?_
      refine p_int F_2_2 P_2_2 u1_94 C hP hS q_k_0 dX2_closeOne_37 (fun H locs hP hS => ?_)
      obtain ⟨μ6, m_μ6, h⟩ := lt_ex h
      have hP : Wm G μ6 H := by rw [m_μ6]; exact hP
      refine lv_goto (tgt := 63) C.x C.b dX2_closeOne_40 (by decide) ?_
      exact r_v h C hP hS dX2_closeOne_63

set_option maxRecDepth 100000 in
set_option maxHeartbeats 4000000 in
theorem c_X2_closeOne {l : Launch} {G : Gp} (hI : Wi G) {k : Nat} (hA : At sOpening k) {μ : Mem} {μ' : Mem} (h : f_X2_closeOne k μ = some μ') : CV l yX2_closeOne cX2_closeOne 1 none 0 0 G [.ref (G.2.2 k)] μ μ' :=
  e_all (lv := [(0, .ref (G.2.2 k))]) hI (by decide) (Nat.le_of_ble_eq_true rfl) rfl (fun p e s m args below meth c ls C hP hS hl => b_X2_closeOne C hA h _ _ _ hP hS hl)


def f_X3_copyFrom (k : Nat) (o1 : Nat) (μ : Mem) : Option Mem := grd (isB (μ.1 o1 0)) (lt (st μ k 0 (μ.1 o1 0)) (fun μ2 => lt (st μ2 k 1 (μ2.1 o1 1)) (fun μ3 => lt (st μ3 k 2 (μ3.1 o1 2)) (fun μ4 => lt (st μ4 k 3 (μ4.1 o1 3)) (fun μ5 => grd (cpyOk 0 0 36 36 36) (lt (cst μ5 (k + 1) (va_cpy (μ5.1 (o1 + 1)) (μ5.1 (k + 1)) (0 : Int32).toNatClampNeg (0 : Int32).toNatClampNeg (36 : Int32).toNatClampNeg)) (fun μ7 => grd (cpyOk 0 0 36 36 36) (lt (cst μ7 (k + 2) (va_cpy (μ7.1 (o1 + 2)) (μ7.1 (k + 2)) (0 : Int32).toNatClampNeg (0 : Int32).toNatClampNeg (36 : Int32).toNatClampNeg)) (fun μ9 => grd (cpyOk 0 0 36 36 36) (grd (allB (μ9.1 (o1 + 3)) (0 : Int32).toNatClampNeg (36 : Int32).toNatClampNeg) (lt (cst μ9 (k + 3) (va_cpy (μ9.1 (o1 + 3)) (μ9.1 (k + 3)) (0 : Int32).toNatClampNeg (0 : Int32).toNatClampNeg (36 : Int32).toNatClampNeg)) (fun μ12 => grd (cpyOk 0 0 6 6 6) (lt (cst μ12 (k + 4) (va_cpy (μ12.1 (o1 + 4)) (μ12.1 (k + 4)) (0 : Int32).toNatClampNeg (0 : Int32).toNatClampNeg (6 : Int32).toNatClampNeg)) (fun μ14 => grd (cpyOk 0 0 6 6 6) (lt (cst μ14 (k + 5) (va_cpy (μ14.1 (o1 + 5)) (μ14.1 (k + 5)) (0 : Int32).toNatClampNeg (0 : Int32).toNatClampNeg (6 : Int32).toNatClampNeg)) (fun μ16 => grd (cpyOk 0 0 100 100 100) (lt (cst μ16 (k + 6) (va_cpy (μ16.1 (o1 + 6)) (μ16.1 (k + 6)) (0 : Int32).toNatClampNeg (0 : Int32).toNatClampNeg (100 : Int32).toNatClampNeg)) (fun μ18 => grd (cpyOk 0 0 100 100 100) (lt (cst μ18 (k + 7) (va_cpy (μ18.1 (o1 + 7)) (μ18.1 (k + 7)) (0 : Int32).toNatClampNeg (0 : Int32).toNatClampNeg (100 : Int32).toNatClampNeg)) (fun μ20 => grd (cpyOk 0 0 100 100 100) (lt (cst μ20 (k + 8) (va_cpy (μ20.1 (o1 + 8)) (μ20.1 (k + 8)) (0 : Int32).toNatClampNeg (0 : Int32).toNatClampNeg (100 : Int32).toNatClampNeg)) (fun μ22 => some μ22))))))))))))))))))))))
set_option maxRecDepth 100000 in
set_option maxHeartbeats 4000000 in
theorem b_X3_copyFrom {p : Program} {l : Launch} {e : Env} {s : State} {m : MethodId} {args : Array Value} {below : List Frame} {meth : Method} {c : Code} {G : Gp} {O : Mem} (C : Cx p s m args meth c cX3_copyFrom 2 RX3 none G) {k : Nat} {o1 : Nat} (hA : At sPlan k) (hB1 : At sPlan o1) {μ : Mem} (h : f_X3_copyFrom k o1 μ = some O) : ∀ (H : Heap) (locs : List Loc) (ls : Array Slot), Wm G μ H → va_S (wA G) s.heap H locs → lv_has ls 2 [(0, .ref (G.2.2 k)), (1, .ref (G.2.2 o1))] → W p l e (rmm 1 26) s m args below meth c H locs 0 0 (QV below args s G O) (F0 m 0 ls []) := by
  unfold f_X3_copyFrom at h
  intro H locs ls hP hS hl
  have q_k_0 : shp[k]? = some (.inl (3, fs3)) := hA 0 _ rfl
  have q_k_1 : shp[k + 1]? = some (.inr (0, 36)) := hA 1 _ rfl
  have q_k_2 : shp[k + 2]? = some (.inr (0, 36)) := hA 2 _ rfl
  have q_k_3 : shp[k + 3]? = some (.inr (1, 36)) := hA 3 _ rfl
  have q_k_4 : shp[k + 4]? = some (.inr (0, 6)) := hA 4 _ rfl
  have q_k_5 : shp[k + 5]? = some (.inr (0, 6)) := hA 5 _ rfl
  have q_k_6 : shp[k + 6]? = some (.inr (0, 100)) := hA 6 _ rfl
  have q_k_7 : shp[k + 7]? = some (.inr (0, 100)) := hA 7 _ rfl
  have q_k_8 : shp[k + 8]? = some (.inr (0, 100)) := hA 8 _ rfl
  have q_o1_0 : shp[o1]? = some (.inl (3, fs3)) := hB1 0 _ rfl
  have q_o1_1 : shp[o1 + 1]? = some (.inr (0, 36)) := hB1 1 _ rfl
  have q_o1_2 : shp[o1 + 2]? = some (.inr (0, 36)) := hB1 2 _ rfl
  have q_o1_3 : shp[o1 + 3]? = some (.inr (1, 36)) := hB1 3 _ rfl
  have q_o1_4 : shp[o1 + 4]? = some (.inr (0, 6)) := hB1 4 _ rfl
  have q_o1_5 : shp[o1 + 5]? = some (.inr (0, 6)) := hB1 5 _ rfl
  have q_o1_6 : shp[o1 + 6]? = some (.inr (0, 100)) := hB1 6 _ rfl
  have q_o1_7 : shp[o1 + 7]? = some (.inr (0, 100)) := hB1 7 _ rfl
  have q_o1_8 : shp[o1 + 8]? = some (.inr (0, 100)) := hB1 8 _ rfl
  refine lv_aload_n C.x C.b dX3_copyFrom_0 rfl (lv_at hl 0 rfl) ?_
  refine lv_aload_n C.x C.b dX3_copyFrom_1 rfl (lv_at hl 1 rfl) ?_
  refine g_int F_3_0 u1_148 C hP q_o1_0 dX3_copyFrom_2 ?_
  obtain ⟨g1, h⟩ := grd_some h
  refine p_boo F_3_0 P_3_0 u1_148 g1 C hP hS q_k_0 dX3_copyFrom_5 (fun H locs hP hS => ?_)
  obtain ⟨μ2, m_μ2, h⟩ := lt_ex h
  have hP : Wm G μ2 H := by rw [m_μ2]; exact hP
  refine lv_aload_n C.x C.b dX3_copyFrom_8 rfl (lv_at hl 0 rfl) ?_
  refine lv_aload_n C.x C.b dX3_copyFrom_9 rfl (lv_at hl 1 rfl) ?_
  refine g_int F_3_1 u1_151 C hP q_o1_0 dX3_copyFrom_10 ?_
  refine p_int F_3_1 P_3_1 u1_151 C hP hS q_k_0 dX3_copyFrom_13 (fun H locs hP hS => ?_)
  obtain ⟨μ3, m_μ3, h⟩ := lt_ex h
  have hP : Wm G μ3 H := by rw [m_μ3]; exact hP
  refine lv_aload_n C.x C.b dX3_copyFrom_16 rfl (lv_at hl 0 rfl) ?_
  refine lv_aload_n C.x C.b dX3_copyFrom_17 rfl (lv_at hl 1 rfl) ?_
  refine g_int F_3_2 u1_153 C hP q_o1_0 dX3_copyFrom_18 ?_
  refine p_int F_3_2 P_3_2 u1_153 C hP hS q_k_0 dX3_copyFrom_21 (fun H locs hP hS => ?_)
  obtain ⟨μ4, m_μ4, h⟩ := lt_ex h
  have hP : Wm G μ4 H := by rw [m_μ4]; exact hP
  refine lv_aload_n C.x C.b dX3_copyFrom_24 rfl (lv_at hl 0 rfl) ?_
  refine lv_aload_n C.x C.b dX3_copyFrom_25 rfl (lv_at hl 1 rfl) ?_
  refine g_int F_3_3 u1_155 C hP q_o1_0 dX3_copyFrom_26 ?_
  refine p_int F_3_3 P_3_3 u1_155 C hP hS q_k_0 dX3_copyFrom_29 (fun H locs hP hS => ?_)
  obtain ⟨μ5, m_μ5, h⟩ := lt_ex h
  have hP : Wm G μ5 H := by rw [m_μ5]; exact hP
  refine lv_aload_n C.x C.b dX3_copyFrom_32 rfl (lv_at hl 1 rfl) ?_
  refine g_ref (k' := o1 + 1) F_3_4 u1_157 C hP q_o1_0 rfl dX3_copyFrom_33 ?_
  refine lv_iconst (v := 0) C.x C.b dX3_copyFrom_36 (by decide) ?_
  refine lv_aload_n C.x C.b dX3_copyFrom_37 rfl (lv_at hl 0 rfl) ?_
  refine g_ref (k' := k + 1) F_3_4 u1_157 C hP q_k_0 rfl dX3_copyFrom_38 ?_
  refine lv_iconst (v := 0) C.x C.b dX3_copyFrom_41 (by decide) ?_
  refine lv_bipush (v := 36) C.x C.b dX3_copyFrom_42 (by decide) ?_
  obtain ⟨g6, h⟩ := grd_some h
  refine k_cpy u3_208 C hP hS hl.1 q_o1_1 q_k_1 g6 ⟨by decide, Nat.le_of_ble_eq_true rfl⟩ dX3_copyFrom_44 (fun H locs hP hS => ?_)
  obtain ⟨μ7, m_μ7, h⟩ := lt_ex h
  have hP : Wm G μ7 H := by rw [m_μ7]; exact hP
  refine lv_aload_n C.x C.b dX3_copyFrom_47 rfl (lv_at hl 1 rfl) ?_
  refine g_ref (k' := o1 + 2) F_3_5 u1_159 C hP q_o1_0 rfl dX3_copyFrom_48 ?_
  refine lv_iconst (v := 0) C.x C.b dX3_copyFrom_51 (by decide) ?_
  refine lv_aload_n C.x C.b dX3_copyFrom_52 rfl (lv_at hl 0 rfl) ?_
  refine g_ref (k' := k + 2) F_3_5 u1_159 C hP q_k_0 rfl dX3_copyFrom_53 ?_
  refine lv_iconst (v := 0) C.x C.b dX3_copyFrom_56 (by decide) ?_
  refine lv_bipush (v := 36) C.x C.b dX3_copyFrom_57 (by decide) ?_
  obtain ⟨g8, h⟩ := grd_some h
  refine k_cpy u3_208 C hP hS hl.1 q_o1_2 q_k_2 g8 ⟨by decide, Nat.le_of_ble_eq_true rfl⟩ dX3_copyFrom_59 (fun H locs hP hS => ?_)
  obtain ⟨μ9, m_μ9, h⟩ := lt_ex h
  have hP : Wm G μ9 H := by rw [m_μ9]; exact hP
  refine lv_aload_n C.x C.b dX3_copyFrom_62 rfl (lv_at hl 1 rfl) ?_
  refine g_ref (k' := o1 + 3) F_3_6 u1_161 C hP q_o1_0 rfl dX3_copyFrom_63 ?_
  refine lv_iconst (v := 0) C.x C.b dX3_copyFrom_66 (by decide) ?_
  refine lv_aload_n C.x C.b dX3_copyFrom_67 rfl (lv_at hl 0 rfl) ?_
  refine g_ref (k' := k + 3) F_3_6 u1_161 C hP q_k_0 rfl dX3_copyFrom_68 ?_
  refine lv_iconst (v := 0) C.x C.b dX3_copyFrom_71 (by decide) ?_
  refine lv_bipush (v := 36) C.x C.b dX3_copyFrom_72 (by decide) ?_
  obtain ⟨g10, h⟩ := grd_some h
  obtain ⟨g11, h⟩ := grd_some h
  refine k_cpz u3_208 C hP hS hl.1 q_o1_3 q_k_3 g10 g11 ⟨by decide, Nat.le_of_ble_eq_true rfl⟩ dX3_copyFrom_74 (fun H locs hP hS => ?_)
  obtain ⟨μ12, m_μ12, h⟩ := lt_ex h
  have hP : Wm G μ12 H := by rw [m_μ12]; exact hP
  refine lv_aload_n C.x C.b dX3_copyFrom_77 rfl (lv_at hl 1 rfl) ?_
  refine g_ref (k' := o1 + 4) F_3_7 u1_163 C hP q_o1_0 rfl dX3_copyFrom_78 ?_
  refine lv_iconst (v := 0) C.x C.b dX3_copyFrom_81 (by decide) ?_
  refine lv_aload_n C.x C.b dX3_copyFrom_82 rfl (lv_at hl 0 rfl) ?_
  refine g_ref (k' := k + 4) F_3_7 u1_163 C hP q_k_0 rfl dX3_copyFrom_83 ?_
  refine lv_iconst (v := 0) C.x C.b dX3_copyFrom_86 (by decide) ?_
  refine lv_bipush (v := 6) C.x C.b dX3_copyFrom_87 (by decide) ?_
  obtain ⟨g13, h⟩ := grd_some h
  refine k_cpy u3_208 C hP hS hl.1 q_o1_4 q_k_4 g13 ⟨by decide, Nat.le_of_ble_eq_true rfl⟩ dX3_copyFrom_89 (fun H locs hP hS => ?_)
  obtain ⟨μ14, m_μ14, h⟩ := lt_ex h
  have hP : Wm G μ14 H := by rw [m_μ14]; exact hP
  refine lv_aload_n C.x C.b dX3_copyFrom_92 rfl (lv_at hl 1 rfl) ?_
  refine g_ref (k' := o1 + 5) F_3_8 u1_165 C hP q_o1_0 rfl dX3_copyFrom_93 ?_
  refine lv_iconst (v := 0) C.x C.b dX3_copyFrom_96 (by decide) ?_
  refine lv_aload_n C.x C.b dX3_copyFrom_97 rfl (lv_at hl 0 rfl) ?_
  refine g_ref (k' := k + 5) F_3_8 u1_165 C hP q_k_0 rfl dX3_copyFrom_98 ?_
  refine lv_iconst (v := 0) C.x C.b dX3_copyFrom_101 (by decide) ?_
  refine lv_bipush (v := 6) C.x C.b dX3_copyFrom_102 (by decide) ?_
  obtain ⟨g15, h⟩ := grd_some h
  refine k_cpy u3_208 C hP hS hl.1 q_o1_5 q_k_5 g15 ⟨by decide, Nat.le_of_ble_eq_true rfl⟩ dX3_copyFrom_104 (fun H locs hP hS => ?_)
  obtain ⟨μ16, m_μ16, h⟩ := lt_ex h
  have hP : Wm G μ16 H := by rw [m_μ16]; exact hP
  refine lv_aload_n C.x C.b dX3_copyFrom_107 rfl (lv_at hl 1 rfl) ?_
  refine g_ref (k' := o1 + 6) F_3_9 u1_167 C hP q_o1_0 rfl dX3_copyFrom_108 ?_
  refine lv_iconst (v := 0) C.x C.b dX3_copyFrom_111 (by decide) ?_
  refine lv_aload_n C.x C.b dX3_copyFrom_112 rfl (lv_at hl 0 rfl) ?_
  refine g_ref (k' := k + 6) F_3_9 u1_167 C hP q_k_0 rfl dX3_copyFrom_113 ?_
  refine lv_iconst (v := 0) C.x C.b dX3_copyFrom_116 (by decide) ?_
  refine lv_bipush (v := 100) C.x C.b dX3_copyFrom_117 (by decide) ?_
  obtain ⟨g17, h⟩ := grd_some h
  refine k_cpy u3_208 C hP hS hl.1 q_o1_6 q_k_6 g17 ⟨by decide, Nat.le_of_ble_eq_true rfl⟩ dX3_copyFrom_119 (fun H locs hP hS => ?_)
  obtain ⟨μ18, m_μ18, h⟩ := lt_ex h
  have hP : Wm G μ18 H := by rw [m_μ18]; exact hP
  refine lv_aload_n C.x C.b dX3_copyFrom_122 rfl (lv_at hl 1 rfl) ?_
  refine g_ref (k' := o1 + 7) F_3_10 u1_169 C hP q_o1_0 rfl dX3_copyFrom_123 ?_
  refine lv_iconst (v := 0) C.x C.b dX3_copyFrom_126 (by decide) ?_
  refine lv_aload_n C.x C.b dX3_copyFrom_127 rfl (lv_at hl 0 rfl) ?_
  refine g_ref (k' := k + 7) F_3_10 u1_169 C hP q_k_0 rfl dX3_copyFrom_128 ?_
  refine lv_iconst (v := 0) C.x C.b dX3_copyFrom_131 (by decide) ?_
  refine lv_bipush (v := 100) C.x C.b dX3_copyFrom_132 (by decide) ?_
  obtain ⟨g19, h⟩ := grd_some h
  refine k_cpy u3_208 C hP hS hl.1 q_o1_7 q_k_7 g19 ⟨by decide, Nat.le_of_ble_eq_true rfl⟩ dX3_copyFrom_134 (fun H locs hP hS => ?_)
  obtain ⟨μ20, m_μ20, h⟩ := lt_ex h
  have hP : Wm G μ20 H := by rw [m_μ20]; exact hP
  refine lv_aload_n C.x C.b dX3_copyFrom_137 rfl (lv_at hl 1 rfl) ?_
  refine g_ref (k' := o1 + 8) F_3_11 u1_171 C hP q_o1_0 rfl dX3_copyFrom_138 ?_
  refine lv_iconst (v := 0) C.x C.b dX3_copyFrom_141 (by decide) ?_
  refine lv_aload_n C.x C.b dX3_copyFrom_142 rfl (lv_at hl 0 rfl) ?_
  refine g_ref (k' := k + 8) F_3_11 u1_171 C hP q_k_0 rfl dX3_copyFrom_143 ?_
  refine lv_iconst (v := 0) C.x C.b dX3_copyFrom_146 (by decide) ?_
  refine lv_bipush (v := 100) C.x C.b dX3_copyFrom_147 (by decide) ?_
  obtain ⟨g21, h⟩ := grd_some h
  refine k_cpy u3_208 C hP hS hl.1 q_o1_8 q_k_8 g21 ⟨by decide, Nat.le_of_ble_eq_true rfl⟩ dX3_copyFrom_149 (fun H locs hP hS => ?_)
  obtain ⟨μ22, m_μ22, h⟩ := lt_ex h
  have hP : Wm G μ22 H := by rw [m_μ22]; exact hP
  exact r_v h C hP hS dX3_copyFrom_152

set_option maxRecDepth 100000 in
set_option maxHeartbeats 4000000 in
theorem c_X3_copyFrom {l : Launch} {G : Gp} (hI : Wi G) {k : Nat} {o1 : Nat} (hA : At sPlan k) (hB1 : At sPlan o1) {μ : Mem} {μ' : Mem} (h : f_X3_copyFrom k o1 μ = some μ') : CV l yX3_copyFrom cX3_copyFrom 2 none 1 26 G [.ref (G.2.2 k), .ref (G.2.2 o1)] μ μ' :=
  e_all (lv := [(0, .ref (G.2.2 k)), (1, .ref (G.2.2 o1))]) hI (by decide) (Nat.le_of_ble_eq_true rfl) rfl (fun p e s m args below meth c ls C hP hS hl => b_X3_copyFrom C hA hB1 h _ _ _ hP hS hl)


def f_X3_isCell (k : Nat) (x1 : Int32) (x2 : Int32) (μ : Mem) : Option Int32 := if x1 < 0 then (some 0) else (if (μ.1 k 1) ≤ x1 then (some 0) else (if x2 < 0 then (some 0) else (if (μ.1 k 2) ≤ x2 then (some 0) else (some 1))))
set_option maxRecDepth 100000 in
set_option maxHeartbeats 4000000 in
theorem b_X3_isCell {p : Program} {l : Launch} {e : Env} {s : State} {m : MethodId} {args : Array Value} {below : List Frame} {meth : Method} {c : Code} {G : Gp} {O : Int32} (C : Cx p s m args meth c cX3_isCell 3 RX3 (some .boolean) G) {k : Nat} {x1 : Int32} {x2 : Int32} {μ : Mem} (hA : At sPlan k) (h : f_X3_isCell k x1 x2 μ = some O) : ∀ (H : Heap) (locs : List Loc) (ls : Array Slot), Wm G μ H → va_S (wA G) s.heap H locs → lv_has ls 3 [(0, .ref (G.2.2 k)), (1, .int x1), (2, .int x2)] → W p l e (rmm 0 0) s m args below meth c H locs 0 0 (QI below args s G (O, μ)) (F0 m 0 ls []) := by
  unfold f_X3_isCell at h
  intro H locs ls hP hS hl
  have q_k_0 : shp[k]? = some (.inl (3, fs3)) := hA 0 _ rfl
  refine lv_iload_n C.x C.b dX3_isCell_0 rfl (lv_at hl 1 rfl) ?_
  refine lv_if_lt (tgt := 28) C.x C.b dX3_isCell_1 (by decide) (fun c1 => ?_) (fun c1 => ?_)
  · have h := (if_pos c1).symm.trans h
    refine lv_iconst (v := 0) C.x C.b dX3_isCell_28 (by decide) ?_
    exact r_z (pr_some h) (by decide) C hP hS dX3_isCell_29
  · have h := (if_neg c1).symm.trans h
    refine lv_iload_n C.x C.b dX3_isCell_4 rfl (lv_at hl 1 rfl) ?_
    refine lv_aload_n C.x C.b dX3_isCell_5 rfl (lv_at hl 0 rfl) ?_
    refine g_int F_3_1 u1_151 C hP q_k_0 dX3_isCell_6 ?_
    refine lv_icmp_ge (tgt := 28) C.x C.b dX3_isCell_9 (by decide) (fun c2 => ?_) (fun c2 => ?_)
    · have h := (if_pos c2).symm.trans h
      refine lv_iconst (v := 0) C.x C.b dX3_isCell_28 (by decide) ?_
      exact r_z (pr_some h) (by decide) C hP hS dX3_isCell_29
    · have h := (if_neg c2).symm.trans h
      refine lv_iload_n C.x C.b dX3_isCell_12 rfl (lv_at hl 2 rfl) ?_
      refine lv_if_lt (tgt := 28) C.x C.b dX3_isCell_13 (by decide) (fun c3 => ?_) (fun c3 => ?_)
      · have h := (if_pos c3).symm.trans h
        refine lv_iconst (v := 0) C.x C.b dX3_isCell_28 (by decide) ?_
        exact r_z (pr_some h) (by decide) C hP hS dX3_isCell_29
      · have h := (if_neg c3).symm.trans h
        refine lv_iload_n C.x C.b dX3_isCell_16 rfl (lv_at hl 2 rfl) ?_
        refine lv_aload_n C.x C.b dX3_isCell_17 rfl (lv_at hl 0 rfl) ?_
        refine g_int F_3_2 u1_153 C hP q_k_0 dX3_isCell_18 ?_
        refine lv_icmp_ge (tgt := 28) C.x C.b dX3_isCell_21 (by decide) (fun c4 => ?_) (fun c4 => ?_)
        · have h := (if_pos c4).symm.trans h
          refine lv_iconst (v := 0) C.x C.b dX3_isCell_28 (by decide) ?_
          exact r_z (pr_some h) (by decide) C hP hS dX3_isCell_29
        · have h := (if_neg c4).symm.trans h
          refine lv_iconst (v := 1) C.x C.b dX3_isCell_24 (by decide) ?_
          refine lv_goto (tgt := 29) C.x C.b dX3_isCell_25 (by decide) ?_
          exact r_z (pr_some h) (by decide) C hP hS dX3_isCell_29

set_option maxRecDepth 100000 in
set_option maxHeartbeats 4000000 in
theorem c_X3_isCell {l : Launch} {G : Gp} (hI : Wi G) {k : Nat} {x1 : Int32} {x2 : Int32} (hA : At sPlan k) {μ : Mem} {r : Int32} (h : f_X3_isCell k x1 x2 μ = some r) : CI l yX3_isCell cX3_isCell 3 (some .boolean) 0 0 G [.ref (G.2.2 k), .int x1, .int x2] μ r μ :=
  e_all (lv := [(0, .ref (G.2.2 k)), (1, .int x1), (2, .int x2)]) hI (by decide) (Nat.le_of_ble_eq_true rfl) rfl (fun p e s m args below meth c ls C hP hS hl => b_X3_isCell C hA h _ _ _ hP hS hl)


def g_X3_layCells_67 (k : Nat) (o1 : Nat) (q57 : Int32 → Mem → Option Mem) (q67 : Int32 → Int32 → Mem → Option Mem) (x2 : Int32) (x3 : Int32) (μ : Mem) : Option Mem := if (μ.1 k 2) ≤ x3 then (lt (x2 + 1) (fun y2 => q57 y2 μ)) else (bnv (f_X8_cellAt x2 x3 μ) (fun r4 => bnv (f_X0_costOf o1 x2 x3 μ) (fun r6 => grd (inb r4 36) (lt (st μ (k + 1) r4.toNatClampNeg r6) (fun μ8 => lt (x3 + 1) (fun y9 => q67 x2 y9 μ8))))))
def f_X3_layCells_67 (k : Nat) (o1 : Nat) (q57 : Int32 → Mem → Option Mem) : Nat → Int32 → Int32 → Mem → Option Mem
  | 0, _, _, _ => none
  | n + 1, x2, x3, μ => g_X3_layCells_67 k o1 q57 (f_X3_layCells_67 k o1 q57 n) x2 x3 μ
set_option maxRecDepth 100000 in
set_option maxHeartbeats 4000000 in
theorem w_X3_layCells_67 {p : Program} {l : Launch} {e : Env} {s : State} {m : MethodId} {args : Array Value} {below : List Frame} {meth : Method} {c : Code} {G : Gp} {O : Mem} (C : Cx p s m args meth c cX3_layCells 4 RX3 none G) {k : Nat} {o1 : Nat} (hA : At sPlan k) (hB1 : At sGround o1) {q57 : Int32 → Mem → Option Mem} (hq57 : ∀ (x2 : Int32) (μ : Mem), q57 x2 μ = some O → ∀ (H : Heap) (locs : List Loc) (ls : Array Slot), Wm G μ H → va_S (wA G) s.heap H locs → lv_has ls 4 [(0, .ref (G.2.2 k)), (1, .ref (G.2.2 o1)), (2, .int x2)] → W p l e (rmm 2 46) s m args below meth c H locs 0 0 (QV below args s G O) (F0 m 57 ls [])) {q67 : Int32 → Int32 → Mem → Option Mem} (hq67 : ∀ (x2 : Int32) (x3 : Int32) (μ : Mem), q67 x2 x3 μ = some O → ∀ (H : Heap) (locs : List Loc) (ls : Array Slot), Wm G μ H → va_S (wA G) s.heap H locs → lv_has ls 4 [(0, .ref (G.2.2 k)), (1, .ref (G.2.2 o1)), (2, .int x2), (3, .int x3)] → W p l e (rmm 2 46) s m args below meth c H locs 0 0 (QV below args s G O) (F0 m 67 ls [])) : ∀ (x2 : Int32) (x3 : Int32) (μ : Mem), g_X3_layCells_67 k o1 q57 q67 x2 x3 μ = some O → ∀ (H : Heap) (locs : List Loc) (ls : Array Slot), Wm G μ H → va_S (wA G) s.heap H locs → lv_has ls 4 [(0, .ref (G.2.2 k)), (1, .ref (G.2.2 o1)), (2, .int x2), (3, .int x3)] → W p l e (rmm 2 46) s m args below meth c H locs 0 0 (QV below args s G O) (F0 m 67 ls []) := by
  intro x2 x3 μ h H locs ls hP hS hl
  unfold g_X3_layCells_67 at h
  have q_k_0 : shp[k]? = some (.inl (3, fs3)) := hA 0 _ rfl
  have q_k_1 : shp[k + 1]? = some (.inr (0, 36)) := hA 1 _ rfl
  have q_o1_0 : shp[o1]? = some (.inl (0, fs0)) := hB1 0 _ rfl
  refine lv_iload_n C.x C.b dX3_layCells_67 rfl (lv_at hl 3 rfl) ?_
  refine lv_aload_n C.x C.b dX3_layCells_68 rfl (lv_at hl 0 rfl) ?_
  refine g_int F_3_2 u1_153 C hP q_k_0 dX3_layCells_69 ?_
  refine lv_icmp_ge (tgt := 97) C.x C.b dX3_layCells_72 (by decide) (fun c1 => ?_) (fun c1 => ?_)
  · have h := (if_pos c1).symm.trans h
    obtain ⟨y2, e_y2, h⟩ := lt_ex h
    refine lv_iinc (v := y2) (lv' := [(2, .int y2), (0, .ref (G.2.2 k)), (1, .ref (G.2.2 o1)), (3, .int x3)]) C.x C.b dX3_layCells_97 hl (k := 2) rfl (by rw [e_y2]; rfl) (by decide) rfl (fun ls hl => ?_)
    refine lv_goto (tgt := 57) C.x C.b dX3_layCells_100 (by decide) ?_
    exact hq57 y2 μ h _ _ _ hP hS (lv_sub hl [1, 2, 0] rfl)
  · have h := (if_neg c1).symm.trans h
    refine lv_aload_n C.x C.b dX3_layCells_75 rfl (lv_at hl 0 rfl) ?_
    refine g_ref (k' := k + 1) F_3_4 u1_157 C hP q_k_0 rfl dX3_layCells_76 ?_
    refine lv_iload_n C.x C.b dX3_layCells_79 rfl (lv_at hl 2 rfl) ?_
    refine lv_iload_n C.x C.b dX3_layCells_80 rfl (lv_at hl 3 rfl) ?_
    obtain ⟨r4, e3, h⟩ := bnv_some h
    refine k_ni (as := [.int x2, .int x3]) (rest := [.ref (G.2.2 (k + 1))]) (c_X8_cellAt C.i e3) M_X8_cellAt n_RX3_97 C hP hS rfl (by decide) hl.1 rfl (Nat.le_of_ble_eq_true rfl) dX3_layCells_81 (fun H locs hP hS => ?_)
    refine lv_aload_n C.x C.b dX3_layCells_84 rfl (lv_at hl 1 rfl) ?_
    refine lv_iload_n C.x C.b dX3_layCells_85 rfl (lv_at hl 2 rfl) ?_
    refine lv_iload_n C.x C.b dX3_layCells_86 rfl (lv_at hl 3 rfl) ?_
    obtain ⟨r6, e5, h⟩ := bnv_some h
    refine k_vi (k := o1) (as := [.int x2, .int x3]) (rest := [.int r4, .ref (G.2.2 (k + 1))]) (c_X0_costOf C.i hB1 e5) M_X0_costOf u3_11 C hP hS q_o1_0 rfl rfl (by decide) hl.1 rfl (Nat.le_of_ble_eq_true rfl) dX3_layCells_87 (fun H locs hP hS => ?_)
    obtain ⟨g7, h⟩ := grd_some h
    refine as_i C hP hS q_k_1 g7 dX3_layCells_90 (fun H locs hP hS => ?_)
    obtain ⟨μ8, m_μ8, h⟩ := lt_ex h
    have hP : Wm G μ8 H := by rw [m_μ8]; exact hP
    obtain ⟨y9, e_y9, h⟩ := lt_ex h
    refine lv_iinc (v := y9) (lv' := [(3, .int y9), (0, .ref (G.2.2 k)), (1, .ref (G.2.2 o1)), (2, .int x2)]) C.x C.b dX3_layCells_91 hl (k := 3) rfl (by rw [e_y9]; rfl) (by decide) rfl (fun ls hl => ?_)
    refine lv_goto (tgt := 67) C.x C.b dX3_layCells_94 (by decide) ?_
    exact hq67 x2 y9 μ8 h _ _ _ hP hS (lv_sub hl [1, 2, 3, 0] rfl)

set_option maxRecDepth 100000 in
set_option maxHeartbeats 4000000 in
theorem b_X3_layCells_67 {p : Program} {l : Launch} {e : Env} {s : State} {m : MethodId} {args : Array Value} {below : List Frame} {meth : Method} {c : Code} {G : Gp} {O : Mem} (C : Cx p s m args meth c cX3_layCells 4 RX3 none G) {k : Nat} {o1 : Nat} (hA : At sPlan k) (hB1 : At sGround o1) {q57 : Int32 → Mem → Option Mem} (hq57 : ∀ (x2 : Int32) (μ : Mem), q57 x2 μ = some O → ∀ (H : Heap) (locs : List Loc) (ls : Array Slot), Wm G μ H → va_S (wA G) s.heap H locs → lv_has ls 4 [(0, .ref (G.2.2 k)), (1, .ref (G.2.2 o1)), (2, .int x2)] → W p l e (rmm 2 46) s m args below meth c H locs 0 0 (QV below args s G O) (F0 m 57 ls [])) : ∀ (n : Nat) (x2 : Int32) (x3 : Int32) (μ : Mem), f_X3_layCells_67 k o1 q57 n x2 x3 μ = some O → ∀ (H : Heap) (locs : List Loc) (ls : Array Slot), Wm G μ H → va_S (wA G) s.heap H locs → lv_has ls 4 [(0, .ref (G.2.2 k)), (1, .ref (G.2.2 o1)), (2, .int x2), (3, .int x3)] → W p l e (rmm 2 46) s m args below meth c H locs 0 0 (QV below args s G O) (F0 m 67 ls []) := by
  intro n
  induction n with
  | zero => intro x2 x3 μ h; cases h
  | succ n ih => intro x2 x3 μ h; exact w_X3_layCells_67 C hA hB1 hq57 (q67 := f_X3_layCells_67 k o1 q57 n) ih x2 x3 μ h

def g_X3_layCells_57 (k : Nat) (o1 : Nat)  (q57 : Int32 → Mem → Option Mem) (x2 : Int32) (μ : Mem) : Option Mem := if (μ.1 k 1) ≤ x2 then (some μ) else (f_X3_layCells_67 k o1 q57 FU x2 0 μ)
def f_X3_layCells_57 (k : Nat) (o1 : Nat)  : Nat → Int32 → Mem → Option Mem
  | 0, _, _ => none
  | n + 1, x2, μ => g_X3_layCells_57 k o1 (f_X3_layCells_57 k o1 n) x2 μ
set_option maxRecDepth 100000 in
set_option maxHeartbeats 4000000 in
theorem w_X3_layCells_57 {p : Program} {l : Launch} {e : Env} {s : State} {m : MethodId} {args : Array Value} {below : List Frame} {meth : Method} {c : Code} {G : Gp} {O : Mem} (C : Cx p s m args meth c cX3_layCells 4 RX3 none G) {k : Nat} {o1 : Nat} (hA : At sPlan k) (hB1 : At sGround o1) {q57 : Int32 → Mem → Option Mem} (hq57 : ∀ (x2 : Int32) (μ : Mem), q57 x2 μ = some O → ∀ (H : Heap) (locs : List Loc) (ls : Array Slot), Wm G μ H → va_S (wA G) s.heap H locs → lv_has ls 4 [(0, .ref (G.2.2 k)), (1, .ref (G.2.2 o1)), (2, .int x2)] → W p l e (rmm 2 46) s m args below meth c H locs 0 0 (QV below args s G O) (F0 m 57 ls [])) : ∀ (x2 : Int32) (μ : Mem), g_X3_layCells_57 k o1 q57 x2 μ = some O → ∀ (H : Heap) (locs : List Loc) (ls : Array Slot), Wm G μ H → va_S (wA G) s.heap H locs → lv_has ls 4 [(0, .ref (G.2.2 k)), (1, .ref (G.2.2 o1)), (2, .int x2)] → W p l e (rmm 2 46) s m args below meth c H locs 0 0 (QV below args s G O) (F0 m 57 ls []) := by
  intro x2 μ h H locs ls hP hS hl
  unfold g_X3_layCells_57 at h
  have q_k_0 : shp[k]? = some (.inl (3, fs3)) := hA 0 _ rfl
  refine lv_iload_n C.x C.b dX3_layCells_57 rfl (lv_at hl 2 rfl) ?_
  refine lv_aload_n C.x C.b dX3_layCells_58 rfl (lv_at hl 0 rfl) ?_
  refine g_int F_3_1 u1_151 C hP q_k_0 dX3_layCells_59 ?_
  refine lv_icmp_ge (tgt := 103) C.x C.b dX3_layCells_62 (by decide) (fun c1 => ?_) (fun c1 => ?_)
  · have h := (if_pos c1).symm.trans h
    exact r_v h C hP hS dX3_layCells_103
  · have h := (if_neg c1).symm.trans h
    refine lv_iconst (v := 0) C.x C.b dX3_layCells_65 (by decide) ?_
    refine lv_istore_n (lv' := [(3, .int 0), (0, .ref (G.2.2 k)), (1, .ref (G.2.2 o1)), (2, .int x2)]) C.x C.b dX3_layCells_66 rfl hl (by decide) rfl (fun ls hl => ?_)
    exact b_X3_layCells_67 C hA hB1 hq57 FU x2 0 μ h _ _ _ hP hS (lv_sub hl [1, 2, 3, 0] rfl)

set_option maxRecDepth 100000 in
set_option maxHeartbeats 4000000 in
theorem b_X3_layCells_57 {p : Program} {l : Launch} {e : Env} {s : State} {m : MethodId} {args : Array Value} {below : List Frame} {meth : Method} {c : Code} {G : Gp} {O : Mem} (C : Cx p s m args meth c cX3_layCells 4 RX3 none G) {k : Nat} {o1 : Nat} (hA : At sPlan k) (hB1 : At sGround o1) : ∀ (n : Nat) (x2 : Int32) (μ : Mem), f_X3_layCells_57 k o1 n x2 μ = some O → ∀ (H : Heap) (locs : List Loc) (ls : Array Slot), Wm G μ H → va_S (wA G) s.heap H locs → lv_has ls 4 [(0, .ref (G.2.2 k)), (1, .ref (G.2.2 o1)), (2, .int x2)] → W p l e (rmm 2 46) s m args below meth c H locs 0 0 (QV below args s G O) (F0 m 57 ls []) := by
  intro n
  induction n with
  | zero => intro x2 μ h; cases h
  | succ n ih => intro x2 μ h; exact w_X3_layCells_57 C hA hB1 (q57 := f_X3_layCells_57 k o1 n) ih x2 μ h

def g_X3_layCells_29 (k : Nat) (o1 : Nat)  (q29 : Int32 → Mem → Option Mem) (x2 : Int32) (μ : Mem) : Option Mem := if 36 ≤ x2 then (f_X3_layCells_57 k o1 FU 0 μ) else (grd (inb x2 36) (lt (st μ (k + 2) x2.toNatClampNeg 0) (fun μ3 => grd (inb x2 36) (lt (st μ3 (k + 3) x2.toNatClampNeg 0) (fun μ5 => lt (x2 + 1) (fun y6 => q29 y6 μ5))))))
def f_X3_layCells_29 (k : Nat) (o1 : Nat)  : Nat → Int32 → Mem → Option Mem
  | 0, _, _ => none
  | n + 1, x2, μ => g_X3_layCells_29 k o1 (f_X3_layCells_29 k o1 n) x2 μ
set_option maxRecDepth 100000 in
set_option maxHeartbeats 4000000 in
theorem w_X3_layCells_29 {p : Program} {l : Launch} {e : Env} {s : State} {m : MethodId} {args : Array Value} {below : List Frame} {meth : Method} {c : Code} {G : Gp} {O : Mem} (C : Cx p s m args meth c cX3_layCells 4 RX3 none G) {k : Nat} {o1 : Nat} (hA : At sPlan k) (hB1 : At sGround o1) {q29 : Int32 → Mem → Option Mem} (hq29 : ∀ (x2 : Int32) (μ : Mem), q29 x2 μ = some O → ∀ (H : Heap) (locs : List Loc) (ls : Array Slot), Wm G μ H → va_S (wA G) s.heap H locs → lv_has ls 4 [(0, .ref (G.2.2 k)), (1, .ref (G.2.2 o1)), (2, .int x2)] → W p l e (rmm 2 46) s m args below meth c H locs 0 0 (QV below args s G O) (F0 m 29 ls [])) : ∀ (x2 : Int32) (μ : Mem), g_X3_layCells_29 k o1 q29 x2 μ = some O → ∀ (H : Heap) (locs : List Loc) (ls : Array Slot), Wm G μ H → va_S (wA G) s.heap H locs → lv_has ls 4 [(0, .ref (G.2.2 k)), (1, .ref (G.2.2 o1)), (2, .int x2)] → W p l e (rmm 2 46) s m args below meth c H locs 0 0 (QV below args s G O) (F0 m 29 ls []) := by
  intro x2 μ h H locs ls hP hS hl
  unfold g_X3_layCells_29 at h
  have q_k_0 : shp[k]? = some (.inl (3, fs3)) := hA 0 _ rfl
  have q_k_2 : shp[k + 2]? = some (.inr (0, 36)) := hA 2 _ rfl
  have q_k_3 : shp[k + 3]? = some (.inr (1, 36)) := hA 3 _ rfl
  refine lv_iload_n C.x C.b dX3_layCells_29 rfl (lv_at hl 2 rfl) ?_
  refine lv_bipush (v := 36) C.x C.b dX3_layCells_30 (by decide) ?_
  refine lv_icmp_ge (tgt := 55) C.x C.b dX3_layCells_32 (by decide) (fun c1 => ?_) (fun c1 => ?_)
  · have h := (if_pos c1).symm.trans h
    refine lv_iconst (v := 0) C.x C.b dX3_layCells_55 (by decide) ?_
    refine lv_istore_n (lv' := [(2, .int 0), (0, .ref (G.2.2 k)), (1, .ref (G.2.2 o1))]) C.x C.b dX3_layCells_56 rfl hl (by decide) rfl (fun ls hl => ?_)
    exact b_X3_layCells_57 C hA hB1 FU 0 μ h _ _ _ hP hS (lv_sub hl [1, 2, 0] rfl)
  · have h := (if_neg c1).symm.trans h
    refine lv_aload_n C.x C.b dX3_layCells_35 rfl (lv_at hl 0 rfl) ?_
    refine g_ref (k' := k + 2) F_3_5 u1_159 C hP q_k_0 rfl dX3_layCells_36 ?_
    refine lv_iload_n C.x C.b dX3_layCells_39 rfl (lv_at hl 2 rfl) ?_
    refine lv_iconst (v := 0) C.x C.b dX3_layCells_40 (by decide) ?_
    obtain ⟨g2, h⟩ := grd_some h
    refine as_i C hP hS q_k_2 g2 dX3_layCells_41 (fun H locs hP hS => ?_)
    obtain ⟨μ3, m_μ3, h⟩ := lt_ex h
    have hP : Wm G μ3 H := by rw [m_μ3]; exact hP
    refine lv_aload_n C.x C.b dX3_layCells_42 rfl (lv_at hl 0 rfl) ?_
    refine g_ref (k' := k + 3) F_3_6 u1_161 C hP q_k_0 rfl dX3_layCells_43 ?_
    refine lv_iload_n C.x C.b dX3_layCells_46 rfl (lv_at hl 2 rfl) ?_
    refine lv_iconst (v := 0) C.x C.b dX3_layCells_47 (by decide) ?_
    obtain ⟨g4, h⟩ := grd_some h
    refine as_z C hP hS q_k_3 g4 (by decide) dX3_layCells_48 (fun H locs hP hS => ?_)
    obtain ⟨μ5, m_μ5, h⟩ := lt_ex h
    have hP : Wm G μ5 H := by rw [m_μ5]; exact hP
    obtain ⟨y6, e_y6, h⟩ := lt_ex h
    refine lv_iinc (v := y6) (lv' := [(2, .int y6), (0, .ref (G.2.2 k)), (1, .ref (G.2.2 o1))]) C.x C.b dX3_layCells_49 hl (k := 2) rfl (by rw [e_y6]; rfl) (by decide) rfl (fun ls hl => ?_)
    refine lv_goto (tgt := 29) C.x C.b dX3_layCells_52 (by decide) ?_
    exact hq29 y6 μ5 h _ _ _ hP hS (lv_sub hl [1, 2, 0] rfl)

set_option maxRecDepth 100000 in
set_option maxHeartbeats 4000000 in
theorem b_X3_layCells_29 {p : Program} {l : Launch} {e : Env} {s : State} {m : MethodId} {args : Array Value} {below : List Frame} {meth : Method} {c : Code} {G : Gp} {O : Mem} (C : Cx p s m args meth c cX3_layCells 4 RX3 none G) {k : Nat} {o1 : Nat} (hA : At sPlan k) (hB1 : At sGround o1) : ∀ (n : Nat) (x2 : Int32) (μ : Mem), f_X3_layCells_29 k o1 n x2 μ = some O → ∀ (H : Heap) (locs : List Loc) (ls : Array Slot), Wm G μ H → va_S (wA G) s.heap H locs → lv_has ls 4 [(0, .ref (G.2.2 k)), (1, .ref (G.2.2 o1)), (2, .int x2)] → W p l e (rmm 2 46) s m args below meth c H locs 0 0 (QV below args s G O) (F0 m 29 ls []) := by
  intro n
  induction n with
  | zero => intro x2 μ h; cases h
  | succ n ih => intro x2 μ h; exact w_X3_layCells_29 C hA hB1 (q29 := f_X3_layCells_29 k o1 n) ih x2 μ h

def f_X3_layCells (k : Nat) (o1 : Nat) (μ : Mem) : Option Mem := lt (st μ k 1 (μ.1 (k + 11) 0)) (fun μ1 => lt (st μ1 k 2 (μ1.1 (k + 11) 1)) (fun μ2 => lt (st μ2 k 3 0) (fun μ3 => f_X3_layCells_29 k o1 FU 0 μ3)))
set_option maxRecDepth 100000 in
set_option maxHeartbeats 4000000 in
theorem b_X3_layCells {p : Program} {l : Launch} {e : Env} {s : State} {m : MethodId} {args : Array Value} {below : List Frame} {meth : Method} {c : Code} {G : Gp} {O : Mem} (C : Cx p s m args meth c cX3_layCells 4 RX3 none G) {k : Nat} {o1 : Nat} (hA : At sPlan k) (hB1 : At sGround o1) {μ : Mem} (h : f_X3_layCells k o1 μ = some O) : ∀ (H : Heap) (locs : List Loc) (ls : Array Slot), Wm G μ H → va_S (wA G) s.heap H locs → lv_has ls 4 [(0, .ref (G.2.2 k)), (1, .ref (G.2.2 o1))] → W p l e (rmm 2 46) s m args below meth c H locs 0 0 (QV below args s G O) (F0 m 0 ls []) := by
  unfold f_X3_layCells at h
  intro H locs ls hP hS hl
  have q_k_0 : shp[k]? = some (.inl (3, fs3)) := hA 0 _ rfl
  have q_k_11 : shp[k + 11]? = some (.inl (2, fs2)) := hA 11 _ rfl
  refine lv_aload_n C.x C.b dX3_layCells_0 rfl (lv_at hl 0 rfl) ?_
  refine lv_aload_n C.x C.b dX3_layCells_1 rfl (lv_at hl 0 rfl) ?_
  refine g_ref (k' := k + 11) F_3_14 u1_175 C hP q_k_0 rfl dX3_layCells_2 ?_
  refine g_int F_2_0 u1_91 C hP q_k_11 dX3_layCells_5 ?_
  refine p_int F_3_1 P_3_1 u1_151 C hP hS q_k_0 dX3_layCells_8 (fun H locs hP hS => ?_)
  obtain ⟨μ1, m_μ1, h⟩ := lt_ex h
  have hP : Wm G μ1 H := by rw [m_μ1]; exact hP
  refine lv_aload_n C.x C.b dX3_layCells_11 rfl (lv_at hl 0 rfl) ?_
  refine lv_aload_n C.x C.b dX3_layCells_12 rfl (lv_at hl 0 rfl) ?_
  refine g_ref (k' := k + 11) F_3_14 u1_175 C hP q_k_0 rfl dX3_layCells_13 ?_
  refine g_int F_2_1 u1_93 C hP q_k_11 dX3_layCells_16 ?_
  refine p_int F_3_2 P_3_2 u1_153 C hP hS q_k_0 dX3_layCells_19 (fun H locs hP hS => ?_)
  obtain ⟨μ2, m_μ2, h⟩ := lt_ex h
  have hP : Wm G μ2 H := by rw [m_μ2]; exact hP
  refine lv_aload_n C.x C.b dX3_layCells_22 rfl (lv_at hl 0 rfl) ?_
  refine lv_iconst (v := 0) C.x C.b dX3_layCells_23 (by decide) ?_
  refine p_int F_3_3 P_3_3 u1_155 C hP hS q_k_0 dX3_layCells_24 (fun H locs hP hS => ?_)
  obtain ⟨μ3, m_μ3, h⟩ := lt_ex h
  have hP : Wm G μ3 H := by rw [m_μ3]; exact hP
  refine lv_iconst (v := 0) C.x C.b dX3_layCells_27 (by decide) ?_
  refine lv_istore_n (lv' := [(2, .int 0), (0, .ref (G.2.2 k)), (1, .ref (G.2.2 o1))]) C.x C.b dX3_layCells_28 rfl hl (by decide) rfl (fun ls hl => ?_)
  exact b_X3_layCells_29 C hA hB1 FU 0 μ3 h _ _ _ hP hS (lv_sub hl [1, 2, 0] rfl)

set_option maxRecDepth 100000 in
set_option maxHeartbeats 4000000 in
theorem c_X3_layCells {l : Launch} {G : Gp} (hI : Wi G) {k : Nat} {o1 : Nat} (hA : At sPlan k) (hB1 : At sGround o1) {μ : Mem} {μ' : Mem} (h : f_X3_layCells k o1 μ = some μ') : CV l yX3_layCells cX3_layCells 4 none 2 46 G [.ref (G.2.2 k), .ref (G.2.2 o1)] μ μ' :=
  e_all (lv := [(0, .ref (G.2.2 k)), (1, .ref (G.2.2 o1))]) hI (by decide) (Nat.le_of_ble_eq_true rfl) rfl (fun p e s m args below meth c ls C hP hS hl => b_X3_layCells C hA hB1 h _ _ _ hP hS hl)


def f_X3_spreadWorths_101 (k : Nat) (q4 : Int32 → Int32 → Mem → Option (Int32 × Mem)) (x2 : Int32) (x3 : Int32) (x4 : Int32) (μ : Mem) : Option (Int32 × Mem) := grd (inb x3 6) (lt (st μ (k + 9) x3.toNatClampNeg 1) (fun μ2 => grd (inb x4 6) (lt (st μ2 (k + 10) x4.toNatClampNeg 1) (fun μ4 => lt (x2 + 1) (fun y5 => q4 1 y5 μ4)))))
set_option maxRecDepth 100000 in
set_option maxHeartbeats 4000000 in
theorem b_X3_spreadWorths_101 {p : Program} {l : Launch} {e : Env} {s : State} {m : MethodId} {args : Array Value} {below : List Frame} {meth : Method} {c : Code} {G : Gp} {O : (Int32 × Mem)} (C : Cx p s m args meth c cX3_spreadWorths 5 RX3 (some .boolean) G) {k : Nat} (hA : At sPlan k) {q4 : Int32 → Int32 → Mem → Option (Int32 × Mem)} (hq4 : ∀ (x1 : Int32) (x2 : Int32) (μ : Mem), q4 x1 x2 μ = some O → ∀ (H : Heap) (locs : List Loc) (ls : Array Slot), Wm G μ H → va_S (wA G) s.heap H locs → lv_has ls 5 [(0, .ref (G.2.2 k)), (1, .int x1), (2, .int x2)] → W p l e (rmm 0 0) s m args below meth c H locs 0 0 (QI below args s G O) (F0 m 4 ls [])) : ∀ (x2 : Int32) (x3 : Int32) (x4 : Int32) (μ : Mem), f_X3_spreadWorths_101 k q4 x2 x3 x4 μ = some O → ∀ (H : Heap) (locs : List Loc) (ls : Array Slot), Wm G μ H → va_S (wA G) s.heap H locs → lv_has ls 5 [(0, .ref (G.2.2 k)), (2, .int x2), (3, .int x3), (4, .int x4)] → W p l e (rmm 0 0) s m args below meth c H locs 0 0 (QI below args s G O) (F0 m 101 ls []) := by
  intro x2 x3 x4 μ h H locs ls hP hS hl
  unfold f_X3_spreadWorths_101 at h
  have q_k_0 : shp[k]? = some (.inl (3, fs3)) := hA 0 _ rfl
  have q_k_9 : shp[k + 9]? = some (.inr (1, 6)) := hA 9 _ rfl
  have q_k_10 : shp[k + 10]? = some (.inr (1, 6)) := hA 10 _ rfl
  refine lv_aload_n C.x C.b dX3_spreadWorths_101 rfl (lv_at hl 0 rfl) ?_
  refine g_ref (k' := k + 9) F_3_12 u1_173 C hP q_k_0 rfl dX3_spreadWorths_102 ?_
  refine lv_iload_n C.x C.b dX3_spreadWorths_105 rfl (lv_at hl 2 rfl) ?_
  refine lv_iconst (v := 1) C.x C.b dX3_spreadWorths_106 (by decide) ?_
  obtain ⟨g1, h⟩ := grd_some h
  refine as_z C hP hS q_k_9 g1 (by decide) dX3_spreadWorths_107 (fun H locs hP hS => ?_)
  obtain ⟨μ2, m_μ2, h⟩ := lt_ex h
  have hP : Wm G μ2 H := by rw [m_μ2]; exact hP
  refine lv_aload_n C.x C.b dX3_spreadWorths_108 rfl (lv_at hl 0 rfl) ?_
  refine g_ref (k' := k + 10) F_3_13 u1_174 C hP q_k_0 rfl dX3_spreadWorths_109 ?_
  refine lv_iload C.x C.b dX3_spreadWorths_112 (lv_at hl 3 rfl) ?_
  refine lv_iconst (v := 1) C.x C.b dX3_spreadWorths_114 (by decide) ?_
  obtain ⟨g3, h⟩ := grd_some h
  refine as_z C hP hS q_k_10 g3 (by decide) dX3_spreadWorths_115 (fun H locs hP hS => ?_)
  obtain ⟨μ4, m_μ4, h⟩ := lt_ex h
  have hP : Wm G μ4 H := by rw [m_μ4]; exact hP
  refine lv_iconst (v := 1) C.x C.b dX3_spreadWorths_116 (by decide) ?_
  refine lv_istore_n (lv' := [(1, .int 1), (0, .ref (G.2.2 k)), (2, .int x2), (3, .int x3), (4, .int x4)]) C.x C.b dX3_spreadWorths_117 rfl hl (by decide) rfl (fun ls hl => ?_)
  obtain ⟨y5, e_y5, h⟩ := lt_ex h
  refine lv_iinc (v := y5) (lv' := [(2, .int y5), (1, .int 1), (0, .ref (G.2.2 k)), (3, .int x3), (4, .int x4)]) C.x C.b dX3_spreadWorths_118 hl (k := 2) rfl (by rw [e_y5]; rfl) (by decide) rfl (fun ls hl => ?_)
  refine lv_goto (tgt := 4) C.x C.b dX3_spreadWorths_121 (by decide) ?_
  exact hq4 1 y5 μ4 h _ _ _ hP hS (lv_sub hl [2, 1, 0] rfl)

def g_X3_spreadWorths_4 (k : Nat)  (q4 : Int32 → Int32 → Mem → Option (Int32 × Mem)) (x1 : Int32) (x2 : Int32) (μ : Mem) : Option (Int32 × Mem) := if 36 ≤ x2 then (grd (isB x1) (some (x1, μ))) else (lt (x2 / 6) (fun y3 => lt (rm32 x2 6) (fun y4 => grd (inb x2 36) (if (μ.1 (k + 3) x2.toNatClampNeg) = 0 then (lt (x2 + 1) (fun y7 => q4 x1 y7 μ)) else (grd (inb y3 6) (grd (inb y4 6) (if (μ.1 (k + 9) y3.toNatClampNeg) = (μ.1 (k + 10) y4.toNatClampNeg) then (lt (x2 + 1) (fun y21 => q4 x1 y21 μ)) else (grd (inb y3 6) (if (μ.1 (k + 9) y3.toNatClampNeg) = 0 then (grd (inb x2 36) (grd (inb y4 6) (grd (inb y3 6) (lt (st μ (k + 4) y3.toNatClampNeg ((μ.1 (k + 1) x2.toNatClampNeg) - (μ.1 (k + 5) y4.toNatClampNeg))) (fun μ16 => f_X3_spreadWorths_101 k q4 x2 y3 y4 μ16))))) else (grd (inb x2 36) (grd (inb y3 6) (grd (inb y4 6) (lt (st μ (k + 5) y4.toNatClampNeg ((μ.1 (k + 1) x2.toNatClampNeg) - (μ.1 (k + 4) y3.toNatClampNeg))) (fun μ20 => f_X3_spreadWorths_101 k q4 x2 y3 y4 μ20))))))))))))))
def f_X3_spreadWorths_4 (k : Nat)  : Nat → Int32 → Int32 → Mem → Option (Int32 × Mem)
  | 0, _, _, _ => none
  | n + 1, x1, x2, μ => g_X3_spreadWorths_4 k (f_X3_spreadWorths_4 k n) x1 x2 μ
set_option maxRecDepth 100000 in
set_option maxHeartbeats 4000000 in
theorem w_X3_spreadWorths_4 {p : Program} {l : Launch} {e : Env} {s : State} {m : MethodId} {args : Array Value} {below : List Frame} {meth : Method} {c : Code} {G : Gp} {O : (Int32 × Mem)} (C : Cx p s m args meth c cX3_spreadWorths 5 RX3 (some .boolean) G) {k : Nat} (hA : At sPlan k) {q4 : Int32 → Int32 → Mem → Option (Int32 × Mem)} (hq4 : ∀ (x1 : Int32) (x2 : Int32) (μ : Mem), q4 x1 x2 μ = some O → ∀ (H : Heap) (locs : List Loc) (ls : Array Slot), Wm G μ H → va_S (wA G) s.heap H locs → lv_has ls 5 [(0, .ref (G.2.2 k)), (1, .int x1), (2, .int x2)] → W p l e (rmm 0 0) s m args below meth c H locs 0 0 (QI below args s G O) (F0 m 4 ls [])) : ∀ (x1 : Int32) (x2 : Int32) (μ : Mem), g_X3_spreadWorths_4 k q4 x1 x2 μ = some O → ∀ (H : Heap) (locs : List Loc) (ls : Array Slot), Wm G μ H → va_S (wA G) s.heap H locs → lv_has ls 5 [(0, .ref (G.2.2 k)), (1, .int x1), (2, .int x2)] → W p l e (rmm 0 0) s m args below meth c H locs 0 0 (QI below args s G O) (F0 m 4 ls []) := by
  intro x1 x2 μ h H locs ls hP hS hl
  unfold g_X3_spreadWorths_4 at h
  have q_k_0 : shp[k]? = some (.inl (3, fs3)) := hA 0 _ rfl
  have q_k_1 : shp[k + 1]? = some (.inr (0, 36)) := hA 1 _ rfl
  have q_k_3 : shp[k + 3]? = some (.inr (1, 36)) := hA 3 _ rfl
  have q_k_4 : shp[k + 4]? = some (.inr (0, 6)) := hA 4 _ rfl
  have q_k_5 : shp[k + 5]? = some (.inr (0, 6)) := hA 5 _ rfl
  have q_k_9 : shp[k + 9]? = some (.inr (1, 6)) := hA 9 _ rfl
  have q_k_10 : shp[k + 10]? = some (.inr (1, 6)) := hA 10 _ rfl
  refine lv_iload_n C.x C.b dX3_spreadWorths_4 rfl (lv_at hl 2 rfl) ?_
  refine lv_bipush (v := 36) C.x C.b dX3_spreadWorths_5 (by decide) ?_
  refine lv_icmp_ge (tgt := 124) C.x C.b dX3_spreadWorths_7 (by decide) (fun c1 => ?_) (fun c1 => ?_)
  · have h := (if_pos c1).symm.trans h
    refine lv_iload_n C.x C.b dX3_spreadWorths_124 rfl (lv_at hl 1 rfl) ?_
    obtain ⟨g2, h⟩ := grd_some h
    exact r_z h g2 C hP hS dX3_spreadWorths_125
  · have h := (if_neg c1).symm.trans h
    refine lv_iload_n C.x C.b dX3_spreadWorths_10 rfl (lv_at hl 2 rfl) ?_
    refine lv_bipush (v := 6) C.x C.b dX3_spreadWorths_11 (by decide) ?_
    refine lv_idiv C.x C.b dX3_spreadWorths_13 (by decide) ?_
    refine lv_topi (fun y3 e_y3 => ?_)
    have h := lt_at h e_y3
    refine lv_istore_n (lv' := [(3, .int y3), (0, .ref (G.2.2 k)), (1, .int x1), (2, .int x2)]) C.x C.b dX3_spreadWorths_14 rfl hl (by decide) rfl (fun ls hl => ?_)
    refine lv_iload_n C.x C.b dX3_spreadWorths_15 rfl (lv_at hl 3 rfl) ?_
    refine lv_bipush (v := 6) C.x C.b dX3_spreadWorths_16 (by decide) ?_
    refine lv_irem C.x C.b dX3_spreadWorths_18 (by decide) ?_
    refine lv_topi (fun y4 e_y4 => ?_)
    have h := lt_at h e_y4
    refine lv_istore (lv' := [(4, .int y4), (3, .int y3), (0, .ref (G.2.2 k)), (1, .int x1), (2, .int x2)]) C.x C.b dX3_spreadWorths_19 hl (by decide) rfl (fun ls hl => ?_)
    refine lv_aload_n C.x C.b dX3_spreadWorths_21 rfl (lv_at hl 2 rfl) ?_
    refine g_ref (k' := k + 3) F_3_6 u1_161 C hP q_k_0 rfl dX3_spreadWorths_22 ?_
    refine lv_iload_n C.x C.b dX3_spreadWorths_25 rfl (lv_at hl 4 rfl) ?_
    obtain ⟨g5, h⟩ := grd_some h
    refine a_z C hP q_k_3 g5 dX3_spreadWorths_26 ?_
    refine lv_if_eq (tgt := 118) C.x C.b dX3_spreadWorths_27 (by decide) (fun c6 => ?_) (fun c6 => ?_)
    · have h := (if_pos c6).symm.trans h
      obtain ⟨y7, e_y7, h⟩ := lt_ex h
      refine lv_iinc (v := y7) (lv' := [(2, .int y7), (4, .int y4), (3, .int y3), (0, .ref (G.2.2 k)), (1, .int x1)]) C.x C.b dX3_spreadWorths_118 hl (k := 4) rfl (by rw [e_y7]; rfl) (by decide) rfl (fun ls hl => ?_)
      refine lv_goto (tgt := 4) C.x C.b dX3_spreadWorths_121 (by decide) ?_
      exact hq4 x1 y7 μ h _ _ _ hP hS (lv_sub hl [3, 4, 0] rfl)
    · have h := (if_neg c6).symm.trans h
      refine lv_aload_n C.x C.b dX3_spreadWorths_30 rfl (lv_at hl 2 rfl) ?_
      refine g_ref (k' := k + 9) F_3_12 u1_173 C hP q_k_0 rfl dX3_spreadWorths_31 ?_
      refine lv_iload_n C.x C.b dX3_spreadWorths_34 rfl (lv_at hl 1 rfl) ?_
      obtain ⟨g8, h⟩ := grd_some h
      refine a_z C hP q_k_9 g8 dX3_spreadWorths_35 ?_
      refine lv_aload_n C.x C.b dX3_spreadWorths_36 rfl (lv_at hl 2 rfl) ?_
      refine g_ref (k' := k + 10) F_3_13 u1_174 C hP q_k_0 rfl dX3_spreadWorths_37 ?_
      refine lv_iload C.x C.b dX3_spreadWorths_40 (lv_at hl 0 rfl) ?_
      obtain ⟨g9, h⟩ := grd_some h
      refine a_z C hP q_k_10 g9 dX3_spreadWorths_42 ?_
      refine lv_icmp_ne (tgt := 49) C.x C.b dX3_spreadWorths_43 (by decide) (fun c10 => ?_) (fun c10 => ?_)
      · have h := (if_neg c10).symm.trans h
        refine lv_aload_n C.x C.b dX3_spreadWorths_49 rfl (lv_at hl 2 rfl) ?_
        refine g_ref (k' := k + 9) F_3_12 u1_173 C hP q_k_0 rfl dX3_spreadWorths_50 ?_
        refine lv_iload_n C.x C.b dX3_spreadWorths_53 rfl (lv_at hl 1 rfl) ?_
        obtain ⟨g11, h⟩ := grd_some h
        refine a_z C hP q_k_9 g11 dX3_spreadWorths_54 ?_
        refine lv_if_eq (tgt := 81) C.x C.b dX3_spreadWorths_55 (by decide) (fun c12 => ?_) (fun c12 => ?_)
        · have h := (if_pos c12).symm.trans h
          refine lv_aload_n C.x C.b dX3_spreadWorths_81 rfl (lv_at hl 2 rfl) ?_
          refine g_ref (k' := k + 4) F_3_7 u1_163 C hP q_k_0 rfl dX3_spreadWorths_82 ?_
          refine lv_iload_n C.x C.b dX3_spreadWorths_85 rfl (lv_at hl 1 rfl) ?_
          refine lv_aload_n C.x C.b dX3_spreadWorths_86 rfl (lv_at hl 2 rfl) ?_
          refine g_ref (k' := k + 1) F_3_4 u1_157 C hP q_k_0 rfl dX3_spreadWorths_87 ?_
          refine lv_iload_n C.x C.b dX3_spreadWorths_90 rfl (lv_at hl 4 rfl) ?_
          obtain ⟨g13, h⟩ := grd_some h
          refine a_i C hP q_k_1 g13 dX3_spreadWorths_91 ?_
          refine lv_aload_n C.x C.b dX3_spreadWorths_92 rfl (lv_at hl 2 rfl) ?_
          refine g_ref (k' := k + 5) F_3_8 u1_165 C hP q_k_0 rfl dX3_spreadWorths_93 ?_
          refine lv_iload C.x C.b dX3_spreadWorths_96 (lv_at hl 0 rfl) ?_
          obtain ⟨g14, h⟩ := grd_some h
          refine a_i C hP q_k_5 g14 dX3_spreadWorths_98 ?_
          refine lv_isub C.x C.b dX3_spreadWorths_99 ?_
          obtain ⟨g15, h⟩ := grd_some h
          refine as_i C hP hS q_k_4 g15 dX3_spreadWorths_100 (fun H locs hP hS => ?_)
          obtain ⟨μ16, m_μ16, h⟩ := lt_ex h
          have hP : Wm G μ16 H := by rw [m_μ16]; exact hP
          exact b_X3_spreadWorths_101 C hA hq4 x2 y3 y4 μ16 h _ _ _ hP hS (lv_sub hl [2, 4, 1, 0] rfl)
        · have h := (if_neg c12).symm.trans h
          refine lv_aload_n C.x C.b dX3_spreadWorths_58 rfl (lv_at hl 2 rfl) ?_
          refine g_ref (k' := k + 5) F_3_8 u1_165 C hP q_k_0 rfl dX3_spreadWorths_59 ?_
          refine lv_iload C.x C.b dX3_spreadWorths_62 (lv_at hl 0 rfl) ?_
          refine lv_aload_n C.x C.b dX3_spreadWorths_64 rfl (lv_at hl 2 rfl) ?_
          refine g_ref (k' := k + 1) F_3_4 u1_157 C hP q_k_0 rfl dX3_spreadWorths_65 ?_
          refine lv_iload_n C.x C.b dX3_spreadWorths_68 rfl (lv_at hl 4 rfl) ?_
          obtain ⟨g17, h⟩ := grd_some h
          refine a_i C hP q_k_1 g17 dX3_spreadWorths_69 ?_
          refine lv_aload_n C.x C.b dX3_spreadWorths_70 rfl (lv_at hl 2 rfl) ?_
          refine g_ref (k' := k + 4) F_3_7 u1_163 C hP q_k_0 rfl dX3_spreadWorths_71 ?_
          refine lv_iload_n C.x C.b dX3_spreadWorths_74 rfl (lv_at hl 1 rfl) ?_
          obtain ⟨g18, h⟩ := grd_some h
          refine a_i C hP q_k_4 g18 dX3_spreadWorths_75 ?_
          refine lv_isub C.x C.b dX3_spreadWorths_76 ?_
          obtain ⟨g19, h⟩ := grd_some h
          refine as_i C hP hS q_k_5 g19 dX3_spreadWorths_77 (fun H locs hP hS => ?_)
          obtain ⟨μ20, m_μ20, h⟩ := lt_ex h
          have hP : Wm G μ20 H := by rw [m_μ20]; exact hP
          refine lv_goto (tgt := 101) C.x C.b dX3_spreadWorths_78 (by decide) ?_
          exact b_X3_spreadWorths_101 C hA hq4 x2 y3 y4 μ20 h _ _ _ hP hS (lv_sub hl [2, 4, 1, 0] rfl)
      · have h := (if_pos c10).symm.trans h
        refine lv_goto (tgt := 118) C.x C.b dX3_spreadWorths_46 (by decide) ?_
        obtain ⟨y21, e_y21, h⟩ := lt_ex h
        refine lv_iinc (v := y21) (lv' := [(2, .int y21), (4, .int y4), (3, .int y3), (0, .ref (G.2.2 k)), (1, .int x1)]) C.x C.b dX3_spreadWorths_118 hl (k := 4) rfl (by rw [e_y21]; rfl) (by decide) rfl (fun ls hl => ?_)
        refine lv_goto (tgt := 4) C.x C.b dX3_spreadWorths_121 (by decide) ?_
        exact hq4 x1 y21 μ h _ _ _ hP hS (lv_sub hl [3, 4, 0] rfl)

set_option maxRecDepth 100000 in
set_option maxHeartbeats 4000000 in
theorem b_X3_spreadWorths_4 {p : Program} {l : Launch} {e : Env} {s : State} {m : MethodId} {args : Array Value} {below : List Frame} {meth : Method} {c : Code} {G : Gp} {O : (Int32 × Mem)} (C : Cx p s m args meth c cX3_spreadWorths 5 RX3 (some .boolean) G) {k : Nat} (hA : At sPlan k) : ∀ (n : Nat) (x1 : Int32) (x2 : Int32) (μ : Mem), f_X3_spreadWorths_4 k n x1 x2 μ = some O → ∀ (H : Heap) (locs : List Loc) (ls : Array Slot), Wm G μ H → va_S (wA G) s.heap H locs → lv_has ls 5 [(0, .ref (G.2.2 k)), (1, .int x1), (2, .int x2)] → W p l e (rmm 0 0) s m args below meth c H locs 0 0 (QI below args s G O) (F0 m 4 ls []) := by
  intro n
  induction n with
  | zero => intro x1 x2 μ h; cases h
  | succ n ih => intro x1 x2 μ h; exact w_X3_spreadWorths_4 C hA (q4 := f_X3_spreadWorths_4 k n) ih x1 x2 μ h

def f_X3_spreadWorths (k : Nat) (μ : Mem) : Option (Int32 × Mem) := f_X3_spreadWorths_4 k FU 0 0 μ
set_option maxRecDepth 100000 in
set_option maxHeartbeats 4000000 in
theorem b_X3_spreadWorths {p : Program} {l : Launch} {e : Env} {s : State} {m : MethodId} {args : Array Value} {below : List Frame} {meth : Method} {c : Code} {G : Gp} {O : (Int32 × Mem)} (C : Cx p s m args meth c cX3_spreadWorths 5 RX3 (some .boolean) G) {k : Nat} (hA : At sPlan k) {μ : Mem} (h : f_X3_spreadWorths k μ = some O) : ∀ (H : Heap) (locs : List Loc) (ls : Array Slot), Wm G μ H → va_S (wA G) s.heap H locs → lv_has ls 5 [(0, .ref (G.2.2 k))] → W p l e (rmm 0 0) s m args below meth c H locs 0 0 (QI below args s G O) (F0 m 0 ls []) := by
  unfold f_X3_spreadWorths at h
  intro H locs ls hP hS hl
  refine lv_iconst (v := 0) C.x C.b dX3_spreadWorths_0 (by decide) ?_
  refine lv_istore_n (lv' := [(1, .int 0), (0, .ref (G.2.2 k))]) C.x C.b dX3_spreadWorths_1 rfl hl (by decide) rfl (fun ls hl => ?_)
  refine lv_iconst (v := 0) C.x C.b dX3_spreadWorths_2 (by decide) ?_
  refine lv_istore_n (lv' := [(2, .int 0), (1, .int 0), (0, .ref (G.2.2 k))]) C.x C.b dX3_spreadWorths_3 rfl hl (by decide) rfl (fun ls hl => ?_)
  exact b_X3_spreadWorths_4 C hA FU 0 0 μ h _ _ _ hP hS (lv_sub hl [2, 1, 0] rfl)

set_option maxRecDepth 100000 in
set_option maxHeartbeats 4000000 in
theorem c_X3_spreadWorths {l : Launch} {G : Gp} (hI : Wi G) {k : Nat} (hA : At sPlan k) {μ : Mem} {r : Int32} {μ' : Mem} (h : f_X3_spreadWorths k μ = some (r, μ')) : CI l yX3_spreadWorths cX3_spreadWorths 5 (some .boolean) 0 0 G [.ref (G.2.2 k)] μ r μ' :=
  e_all (lv := [(0, .ref (G.2.2 k))]) hI (by decide) (Nat.le_of_ble_eq_true rfl) rfl (fun p e s m args below meth c ls C hP hS hl => b_X3_spreadWorths C hA h _ _ _ hP hS hl)


def g_X3_reckonWorths_44 (k : Nat)  (q44 : Int32 → Mem → Option Mem) (x1 : Int32) (μ : Mem) : Option Mem := if ((μ.1 k 1) + (μ.1 k 2)) ≤ x1 then (some μ) else (bnd (f_X3_spreadWorths k μ) (fun r3 μ4 => if r3 = 0 then (some μ4) else (lt (x1 + 1) (fun y6 => q44 y6 μ4))))
def f_X3_reckonWorths_44 (k : Nat)  : Nat → Int32 → Mem → Option Mem
  | 0, _, _ => none
  | n + 1, x1, μ => g_X3_reckonWorths_44 k (f_X3_reckonWorths_44 k n) x1 μ
set_option maxRecDepth 100000 in
set_option maxHeartbeats 4000000 in
theorem w_X3_reckonWorths_44 {p : Program} {l : Launch} {e : Env} {s : State} {m : MethodId} {args : Array Value} {below : List Frame} {meth : Method} {c : Code} {G : Gp} {O : Mem} (C : Cx p s m args meth c cX3_reckonWorths 2 RX3 none G) {k : Nat} (hA : At sPlan k) {q44 : Int32 → Mem → Option Mem} (hq44 : ∀ (x1 : Int32) (μ : Mem), q44 x1 μ = some O → ∀ (H : Heap) (locs : List Loc) (ls : Array Slot), Wm G μ H → va_S (wA G) s.heap H locs → lv_has ls 2 [(0, .ref (G.2.2 k)), (1, .int x1)] → W p l e (rmm 1 24) s m args below meth c H locs 0 0 (QV below args s G O) (F0 m 44 ls [])) : ∀ (x1 : Int32) (μ : Mem), g_X3_reckonWorths_44 k q44 x1 μ = some O → ∀ (H : Heap) (locs : List Loc) (ls : Array Slot), Wm G μ H → va_S (wA G) s.heap H locs → lv_has ls 2 [(0, .ref (G.2.2 k)), (1, .int x1)] → W p l e (rmm 1 24) s m args below meth c H locs 0 0 (QV below args s G O) (F0 m 44 ls []) := by
  intro x1 μ h H locs ls hP hS hl
  unfold g_X3_reckonWorths_44 at h
  have q_k_0 : shp[k]? = some (.inl (3, fs3)) := hA 0 _ rfl
  refine lv_iload_n C.x C.b dX3_reckonWorths_44 rfl (lv_at hl 1 rfl) ?_
  refine lv_aload_n C.x C.b dX3_reckonWorths_45 rfl (lv_at hl 0 rfl) ?_
  refine g_int F_3_1 u1_151 C hP q_k_0 dX3_reckonWorths_46 ?_
  refine lv_aload_n C.x C.b dX3_reckonWorths_49 rfl (lv_at hl 0 rfl) ?_
  refine g_int F_3_2 u1_153 C hP q_k_0 dX3_reckonWorths_50 ?_
  refine lv_iadd C.x C.b dX3_reckonWorths_53 ?_
  refine lv_icmp_ge (tgt := 71) C.x C.b dX3_reckonWorths_54 (by decide) (fun c1 => ?_) (fun c1 => ?_)
  · have h := (if_pos c1).symm.trans h
    exact r_v h C hP hS dX3_reckonWorths_71
  · have h := (if_neg c1).symm.trans h
    refine lv_aload_n C.x C.b dX3_reckonWorths_57 rfl (lv_at hl 0 rfl) ?_
    obtain ⟨r3, μ4, e2, h⟩ := bnd_some h
    refine k_vi (k := k) (as := []) (rest := []) (c_X3_spreadWorths C.i hA e2) M_X3_spreadWorths u3_52 C hP hS q_k_0 rfl rfl (by decide) hl.1 rfl (Nat.le_of_ble_eq_true rfl) dX3_reckonWorths_58 (fun H locs hP hS => ?_)
    refine lv_if_ne (tgt := 65) C.x C.b dX3_reckonWorths_61 (by decide) (fun c5 => ?_) (fun c5 => ?_)
    · have h := (if_neg c5).symm.trans h
      obtain ⟨y6, e_y6, h⟩ := lt_ex h
      refine lv_iinc (v := y6) (lv' := [(1, .int y6), (0, .ref (G.2.2 k))]) C.x C.b dX3_reckonWorths_65 hl (k := 1) rfl (by rw [e_y6]; rfl) (by decide) rfl (fun ls hl => ?_)
      refine lv_goto (tgt := 44) C.x C.b dX3_reckonWorths_68 (by decide) ?_
      exact hq44 y6 μ4 h _ _ _ hP hS (lv_sub hl [1, 0] rfl)
    · have h := (if_pos c5).symm.trans h
      exact r_v h C hP hS dX3_reckonWorths_64

set_option maxRecDepth 100000 in
set_option maxHeartbeats 4000000 in
theorem b_X3_reckonWorths_44 {p : Program} {l : Launch} {e : Env} {s : State} {m : MethodId} {args : Array Value} {below : List Frame} {meth : Method} {c : Code} {G : Gp} {O : Mem} (C : Cx p s m args meth c cX3_reckonWorths 2 RX3 none G) {k : Nat} (hA : At sPlan k) : ∀ (n : Nat) (x1 : Int32) (μ : Mem), f_X3_reckonWorths_44 k n x1 μ = some O → ∀ (H : Heap) (locs : List Loc) (ls : Array Slot), Wm G μ H → va_S (wA G) s.heap H locs → lv_has ls 2 [(0, .ref (G.2.2 k)), (1, .int x1)] → W p l e (rmm 1 24) s m args below meth c H locs 0 0 (QV below args s G O) (F0 m 44 ls []) := by
  intro n
  induction n with
  | zero => intro x1 μ h; cases h
  | succ n ih => intro x1 μ h; exact w_X3_reckonWorths_44 C hA (q44 := f_X3_reckonWorths_44 k n) ih x1 μ h

def g_X3_reckonWorths_2 (k : Nat)  (q2 : Int32 → Mem → Option Mem) (x1 : Int32) (μ : Mem) : Option Mem := if 6 ≤ x1 then (grd (inb 0 6) (lt (st μ (k + 4) (0 : Int32).toNatClampNeg 0) (fun μ3 => grd (inb 0 6) (lt (st μ3 (k + 9) (0 : Int32).toNatClampNeg 1) (fun μ5 => f_X3_reckonWorths_44 k FU 0 μ5))))) else (grd (inb x1 6) (lt (st μ (k + 9) x1.toNatClampNeg 0) (fun μ7 => grd (inb x1 6) (lt (st μ7 (k + 10) x1.toNatClampNeg 0) (fun μ9 => lt (x1 + 1) (fun y10 => q2 y10 μ9))))))
def f_X3_reckonWorths_2 (k : Nat)  : Nat → Int32 → Mem → Option Mem
  | 0, _, _ => none
  | n + 1, x1, μ => g_X3_reckonWorths_2 k (f_X3_reckonWorths_2 k n) x1 μ
set_option maxRecDepth 100000 in
set_option maxHeartbeats 4000000 in
theorem w_X3_reckonWorths_2 {p : Program} {l : Launch} {e : Env} {s : State} {m : MethodId} {args : Array Value} {below : List Frame} {meth : Method} {c : Code} {G : Gp} {O : Mem} (C : Cx p s m args meth c cX3_reckonWorths 2 RX3 none G) {k : Nat} (hA : At sPlan k) {q2 : Int32 → Mem → Option Mem} (hq2 : ∀ (x1 : Int32) (μ : Mem), q2 x1 μ = some O → ∀ (H : Heap) (locs : List Loc) (ls : Array Slot), Wm G μ H → va_S (wA G) s.heap H locs → lv_has ls 2 [(0, .ref (G.2.2 k)), (1, .int x1)] → W p l e (rmm 1 24) s m args below meth c H locs 0 0 (QV below args s G O) (F0 m 2 ls [])) : ∀ (x1 : Int32) (μ : Mem), g_X3_reckonWorths_2 k q2 x1 μ = some O → ∀ (H : Heap) (locs : List Loc) (ls : Array Slot), Wm G μ H → va_S (wA G) s.heap H locs → lv_has ls 2 [(0, .ref (G.2.2 k)), (1, .int x1)] → W p l e (rmm 1 24) s m args below meth c H locs 0 0 (QV below args s G O) (F0 m 2 ls []) := by
  intro x1 μ h H locs ls hP hS hl
  unfold g_X3_reckonWorths_2 at h
  have q_k_0 : shp[k]? = some (.inl (3, fs3)) := hA 0 _ rfl
  have q_k_4 : shp[k + 4]? = some (.inr (0, 6)) := hA 4 _ rfl
  have q_k_9 : shp[k + 9]? = some (.inr (1, 6)) := hA 9 _ rfl
  have q_k_10 : shp[k + 10]? = some (.inr (1, 6)) := hA 10 _ rfl
  refine lv_iload_n C.x C.b dX3_reckonWorths_2 rfl (lv_at hl 1 rfl) ?_
  refine lv_bipush (v := 6) C.x C.b dX3_reckonWorths_3 (by decide) ?_
  refine lv_icmp_ge (tgt := 28) C.x C.b dX3_reckonWorths_5 (by decide) (fun c1 => ?_) (fun c1 => ?_)
  · have h := (if_pos c1).symm.trans h
    refine lv_aload_n C.x C.b dX3_reckonWorths_28 rfl (lv_at hl 0 rfl) ?_
    refine g_ref (k' := k + 4) F_3_7 u1_163 C hP q_k_0 rfl dX3_reckonWorths_29 ?_
    refine lv_iconst (v := 0) C.x C.b dX3_reckonWorths_32 (by decide) ?_
    refine lv_iconst (v := 0) C.x C.b dX3_reckonWorths_33 (by decide) ?_
    obtain ⟨g2, h⟩ := grd_some h
    refine as_i C hP hS q_k_4 g2 dX3_reckonWorths_34 (fun H locs hP hS => ?_)
    obtain ⟨μ3, m_μ3, h⟩ := lt_ex h
    have hP : Wm G μ3 H := by rw [m_μ3]; exact hP
    refine lv_aload_n C.x C.b dX3_reckonWorths_35 rfl (lv_at hl 0 rfl) ?_
    refine g_ref (k' := k + 9) F_3_12 u1_173 C hP q_k_0 rfl dX3_reckonWorths_36 ?_
    refine lv_iconst (v := 0) C.x C.b dX3_reckonWorths_39 (by decide) ?_
    refine lv_iconst (v := 1) C.x C.b dX3_reckonWorths_40 (by decide) ?_
    obtain ⟨g4, h⟩ := grd_some h
    refine as_z C hP hS q_k_9 g4 (by decide) dX3_reckonWorths_41 (fun H locs hP hS => ?_)
    obtain ⟨μ5, m_μ5, h⟩ := lt_ex h
    have hP : Wm G μ5 H := by rw [m_μ5]; exact hP
    refine lv_iconst (v := 0) C.x C.b dX3_reckonWorths_42 (by decide) ?_
    refine lv_istore_n (lv' := [(1, .int 0), (0, .ref (G.2.2 k))]) C.x C.b dX3_reckonWorths_43 rfl hl (by decide) rfl (fun ls hl => ?_)
    exact b_X3_reckonWorths_44 C hA FU 0 μ5 h _ _ _ hP hS (lv_sub hl [1, 0] rfl)
  · have h := (if_neg c1).symm.trans h
    refine lv_aload_n C.x C.b dX3_reckonWorths_8 rfl (lv_at hl 0 rfl) ?_
    refine g_ref (k' := k + 9) F_3_12 u1_173 C hP q_k_0 rfl dX3_reckonWorths_9 ?_
    refine lv_iload_n C.x C.b dX3_reckonWorths_12 rfl (lv_at hl 1 rfl) ?_
    refine lv_iconst (v := 0) C.x C.b dX3_reckonWorths_13 (by decide) ?_
    obtain ⟨g6, h⟩ := grd_some h
    refine as_z C hP hS q_k_9 g6 (by decide) dX3_reckonWorths_14 (fun H locs hP hS => ?_)
    obtain ⟨μ7, m_μ7, h⟩ := lt_ex h
    have hP : Wm G μ7 H := by rw [m_μ7]; exact hP
    refine lv_aload_n C.x C.b dX3_reckonWorths_15 rfl (lv_at hl 0 rfl) ?_
    refine g_ref (k' := k + 10) F_3_13 u1_174 C hP q_k_0 rfl dX3_reckonWorths_16 ?_
    refine lv_iload_n C.x C.b dX3_reckonWorths_19 rfl (lv_at hl 1 rfl) ?_
    refine lv_iconst (v := 0) C.x C.b dX3_reckonWorths_20 (by decide) ?_
    obtain ⟨g8, h⟩ := grd_some h
    refine as_z C hP hS q_k_10 g8 (by decide) dX3_reckonWorths_21 (fun H locs hP hS => ?_)
    obtain ⟨μ9, m_μ9, h⟩ := lt_ex h
    have hP : Wm G μ9 H := by rw [m_μ9]; exact hP
    obtain ⟨y10, e_y10, h⟩ := lt_ex h
    refine lv_iinc (v := y10) (lv' := [(1, .int y10), (0, .ref (G.2.2 k))]) C.x C.b dX3_reckonWorths_22 hl (k := 1) rfl (by rw [e_y10]; rfl) (by decide) rfl (fun ls hl => ?_)
    refine lv_goto (tgt := 2) C.x C.b dX3_reckonWorths_25 (by decide) ?_
    exact hq2 y10 μ9 h _ _ _ hP hS (lv_sub hl [1, 0] rfl)

set_option maxRecDepth 100000 in
set_option maxHeartbeats 4000000 in
theorem b_X3_reckonWorths_2 {p : Program} {l : Launch} {e : Env} {s : State} {m : MethodId} {args : Array Value} {below : List Frame} {meth : Method} {c : Code} {G : Gp} {O : Mem} (C : Cx p s m args meth c cX3_reckonWorths 2 RX3 none G) {k : Nat} (hA : At sPlan k) : ∀ (n : Nat) (x1 : Int32) (μ : Mem), f_X3_reckonWorths_2 k n x1 μ = some O → ∀ (H : Heap) (locs : List Loc) (ls : Array Slot), Wm G μ H → va_S (wA G) s.heap H locs → lv_has ls 2 [(0, .ref (G.2.2 k)), (1, .int x1)] → W p l e (rmm 1 24) s m args below meth c H locs 0 0 (QV below args s G O) (F0 m 2 ls []) := by
  intro n
  induction n with
  | zero => intro x1 μ h; cases h
  | succ n ih => intro x1 μ h; exact w_X3_reckonWorths_2 C hA (q2 := f_X3_reckonWorths_2 k n) ih x1 μ h

def f_X3_reckonWorths (k : Nat) (μ : Mem) : Option Mem := f_X3_reckonWorths_2 k FU 0 μ
set_option maxRecDepth 100000 in
set_option maxHeartbeats 4000000 in
theorem b_X3_reckonWorths {p : Program} {l : Launch} {e : Env} {s : State} {m : MethodId} {args : Array Value} {below : List Frame} {meth : Method} {c : Code} {G : Gp} {O : Mem} (C : Cx p s m args meth c cX3_reckonWorths 2 RX3 none G) {k : Nat} (hA : At sPlan k) {μ : Mem} (h : f_X3_reckonWorths k μ = some O) : ∀ (H : Heap) (locs : List Loc) (ls : Array Slot), Wm G μ H → va_S (wA G) s.heap H locs → lv_has ls 2 [(0, .ref (G.2.2 k))] → W p l e (rmm 1 24) s m args below meth c H locs 0 0 (QV below args s G O) (F0 m 0 ls []) := by
  unfold f_X3_reckonWorths at h
  intro H locs ls hP hS hl
  refine lv_iconst (v := 0) C.x C.b dX3_reckonWorths_0 (by decide) ?_
  refine lv_istore_n (lv' := [(1, .int 0), (0, .ref (G.2.2 k))]) C.x C.b dX3_reckonWorths_1 rfl hl (by decide) rfl (fun ls hl => ?_)
  exact b_X3_reckonWorths_2 C hA FU 0 μ h _ _ _ hP hS (lv_sub hl [1, 0] rfl)

set_option maxRecDepth 100000 in
set_option maxHeartbeats 4000000 in
theorem c_X3_reckonWorths {l : Launch} {G : Gp} (hI : Wi G) {k : Nat} (hA : At sPlan k) {μ : Mem} {μ' : Mem} (h : f_X3_reckonWorths k μ = some μ') : CV l yX3_reckonWorths cX3_reckonWorths 2 none 1 24 G [.ref (G.2.2 k)] μ μ' :=
  e_all (lv := [(0, .ref (G.2.2 k))]) hI (by decide) (Nat.le_of_ble_eq_true rfl) rfl (fun p e s m args below meth c ls C hP hS hl => b_X3_reckonWorths C hA h _ _ _ hP hS hl)


def g_X3_startOn_15 (k : Nat) (o1 : Nat) (x2 : Int32)  (q15 : Int32 → Mem → Option Mem) (x3 : Int32) (μ : Mem) : Option Mem := if ((μ.1 k 1) + (μ.1 k 2)) ≤ x3 then (lt (st μ k 0 1) (fun μ2 => bnv (f_X3_reckonWorths k μ2) (fun μ4 => some μ4))) else (if (μ.1 (k + 11) 3) ≤ 0 then (lt (st μ k 0 1) (fun μ6 => bnv (f_X3_reckonWorths k μ6) (fun μ8 => some μ8))) else (bnv (f_X2_pickBy (k + 11) x2 (k + 1) 36 μ) (fun μ10 => bnv (f_X8_cellAt (μ10.1 (k + 11) 4) (μ10.1 (k + 11) 5) μ10) (fun r12 => grd (inb r12 36) (lt (st μ10 (k + 3) r12.toNatClampNeg 1) (fun μ14 => bnd (f_X2_takeLesser (k + 11) μ14) (fun r16 μ17 => grd (inb r12 36) (lt (st μ17 (k + 2) r12.toNatClampNeg r16) (fun μ19 => bnv (f_X2_closeOne (k + 11) μ19) (fun μ21 => lt (x3 + 1) (fun y22 => q15 y22 μ21)))))))))))
def f_X3_startOn_15 (k : Nat) (o1 : Nat) (x2 : Int32)  : Nat → Int32 → Mem → Option Mem
  | 0, _, _ => none
  | n + 1, x3, μ => g_X3_startOn_15 k o1 x2 (f_X3_startOn_15 k o1 x2 n) x3 μ
set_option maxRecDepth 100000 in
set_option maxHeartbeats 4000000 in
theorem w_X3_startOn_15 {p : Program} {l : Launch} {e : Env} {s : State} {m : MethodId} {args : Array Value} {below : List Frame} {meth : Method} {c : Code} {G : Gp} {O : Mem} (C : Cx p s m args meth c cX3_startOn 5 RX3 none G) {k : Nat} {o1 : Nat} {x2 : Int32} (hA : At sPlan k) (hB1 : At sGround o1) {q15 : Int32 → Mem → Option Mem} (hq15 : ∀ (x3 : Int32) (μ : Mem), q15 x3 μ = some O → ∀ (H : Heap) (locs : List Loc) (ls : Array Slot), Wm G μ H → va_S (wA G) s.heap H locs → lv_has ls 5 [(0, .ref (G.2.2 k)), (2, .int x2), (3, .int x3)] → W p l e (rmm 3 74) s m args below meth c H locs 0 0 (QV below args s G O) (F0 m 15 ls [])) : ∀ (x3 : Int32) (μ : Mem), g_X3_startOn_15 k o1 x2 q15 x3 μ = some O → ∀ (H : Heap) (locs : List Loc) (ls : Array Slot), Wm G μ H → va_S (wA G) s.heap H locs → lv_has ls 5 [(0, .ref (G.2.2 k)), (2, .int x2), (3, .int x3)] → W p l e (rmm 3 74) s m args below meth c H locs 0 0 (QV below args s G O) (F0 m 15 ls []) := by
  intro x3 μ h H locs ls hP hS hl
  unfold g_X3_startOn_15 at h
  have q_k_0 : shp[k]? = some (.inl (3, fs3)) := hA 0 _ rfl
  have q_k_1 : shp[k + 1]? = some (.inr (0, 36)) := hA 1 _ rfl
  have q_k_2 : shp[k + 2]? = some (.inr (0, 36)) := hA 2 _ rfl
  have q_k_3 : shp[k + 3]? = some (.inr (1, 36)) := hA 3 _ rfl
  have q_k_11 : shp[k + 11]? = some (.inl (2, fs2)) := hA 11 _ rfl
  refine lv_iload_n C.x C.b dX3_startOn_15 rfl (lv_at hl 2 rfl) ?_
  refine lv_aload_n C.x C.b dX3_startOn_16 rfl (lv_at hl 0 rfl) ?_
  refine g_int F_3_1 u1_151 C hP q_k_0 dX3_startOn_17 ?_
  refine lv_aload_n C.x C.b dX3_startOn_20 rfl (lv_at hl 0 rfl) ?_
  refine g_int F_3_2 u1_153 C hP q_k_0 dX3_startOn_21 ?_
  refine lv_iadd C.x C.b dX3_startOn_24 ?_
  refine lv_icmp_ge (tgt := 104) C.x C.b dX3_startOn_25 (by decide) (fun c1 => ?_) (fun c1 => ?_)
  · have h := (if_pos c1).symm.trans h
    refine lv_aload_n C.x C.b dX3_startOn_104 rfl (lv_at hl 0 rfl) ?_
    refine lv_iconst (v := 1) C.x C.b dX3_startOn_105 (by decide) ?_
    refine p_boo F_3_0 P_3_0 u1_148 (by decide) C hP hS q_k_0 dX3_startOn_106 (fun H locs hP hS => ?_)
    obtain ⟨μ2, m_μ2, h⟩ := lt_ex h
    have hP : Wm G μ2 H := by rw [m_μ2]; exact hP
    refine lv_aload_n C.x C.b dX3_startOn_109 rfl (lv_at hl 0 rfl) ?_
    obtain ⟨μ4, e3, h⟩ := bnv_some h
    refine k_vv (k := k) (as := []) (rest := []) (c_X3_reckonWorths C.i hA e3) M_X3_reckonWorths u3_48 C hP hS q_k_0 rfl rfl (by decide) hl.1 rfl (Nat.le_of_ble_eq_true rfl) dX3_startOn_110 (fun H locs hP hS => ?_)
    exact r_v h C hP hS dX3_startOn_113
  · have h := (if_neg c1).symm.trans h
    refine lv_aload_n C.x C.b dX3_startOn_28 rfl (lv_at hl 0 rfl) ?_
    refine g_ref (k' := k + 11) F_3_14 u1_175 C hP q_k_0 rfl dX3_startOn_29 ?_
    refine g_int F_2_3 u1_96 C hP q_k_11 dX3_startOn_32 ?_
    refine lv_if_le (tgt := 104) C.x C.b dX3_startOn_35 (by decide) (fun c5 => ?_) (fun c5 => ?_)
    · have h := (if_pos c5).symm.trans h
      refine lv_aload_n C.x C.b dX3_startOn_104 rfl (lv_at hl 0 rfl) ?_
      refine lv_iconst (v := 1) C.x C.b dX3_startOn_105 (by decide) ?_
      refine p_boo F_3_0 P_3_0 u1_148 (by decide) C hP hS q_k_0 dX3_startOn_106 (fun H locs hP hS => ?_)
      obtain ⟨μ6, m_μ6, h⟩ := lt_ex h
      have hP : Wm G μ6 H := by rw [m_μ6]; exact hP
      refine lv_aload_n C.x C.b dX3_startOn_109 rfl (lv_at hl 0 rfl) ?_
      obtain ⟨μ8, e7, h⟩ := bnv_some h
      refine k_vv (k := k) (as := []) (rest := []) (c_X3_reckonWorths C.i hA e7) M_X3_reckonWorths u3_48 C hP hS q_k_0 rfl rfl (by decide) hl.1 rfl (Nat.le_of_ble_eq_true rfl) dX3_startOn_110 (fun H locs hP hS => ?_)
      exact r_v h C hP hS dX3_startOn_113
    · have h := (if_neg c5).symm.trans h
      refine lv_aload_n C.x C.b dX3_startOn_38 rfl (lv_at hl 0 rfl) ?_
      refine g_ref (k' := k + 11) F_3_14 u1_175 C hP q_k_0 rfl dX3_startOn_39 ?_
      refine lv_iload_n C.x C.b dX3_startOn_42 rfl (lv_at hl 1 rfl) ?_
      refine lv_aload_n C.x C.b dX3_startOn_43 rfl (lv_at hl 0 rfl) ?_
      refine g_ref (k' := k + 1) F_3_4 u1_157 C hP q_k_0 rfl dX3_startOn_44 ?_
      obtain ⟨μ10, e9, h⟩ := bnv_some h
      refine k_vv (k := k + 11) (as := [.int x2, .ref (G.2.2 (k + 1))]) (rest := []) (c_X2_pickBy C.i (hA.sub (M := sOpening) 11 (by decide +kernel)) q_k_1 e9) M_X2_pickBy u3_12 C hP hS q_k_11 rfl rfl (by decide) hl.1 rfl (Nat.le_of_ble_eq_true rfl) dX3_startOn_47 (fun H locs hP hS => ?_)
      refine lv_aload_n C.x C.b dX3_startOn_50 rfl (lv_at hl 0 rfl) ?_
      refine g_ref (k' := k + 11) F_3_14 u1_175 C hP q_k_0 rfl dX3_startOn_51 ?_
      refine g_int F_2_4 u1_98 C hP q_k_11 dX3_startOn_54 ?_
      refine lv_aload_n C.x C.b dX3_startOn_57 rfl (lv_at hl 0 rfl) ?_
      refine g_ref (k' := k + 11) F_3_14 u1_175 C hP q_k_0 rfl dX3_startOn_58 ?_
      refine g_int F_2_5 u1_100 C hP q_k_11 dX3_startOn_61 ?_
      obtain ⟨r12, e11, h⟩ := bnv_some h
      refine k_ni (as := [.int (μ10.1 (k + 11) 4), .int (μ10.1 (k + 11) 5)]) (rest := []) (c_X8_cellAt C.i e11) M_X8_cellAt n_RX3_97 C hP hS rfl (by decide) hl.1 rfl (Nat.le_of_ble_eq_true rfl) dX3_startOn_64 (fun H locs hP hS => ?_)
      refine lv_istore (lv' := [(4, .int r12), (0, .ref (G.2.2 k)), (2, .int x2), (3, .int x3)]) C.x C.b dX3_startOn_67 hl (by decide) rfl (fun ls hl => ?_)
      refine lv_aload_n C.x C.b dX3_startOn_69 rfl (lv_at hl 1 rfl) ?_
      refine g_ref (k' := k + 3) F_3_6 u1_161 C hP q_k_0 rfl dX3_startOn_70 ?_
      refine lv_iload C.x C.b dX3_startOn_73 (lv_at hl 0 rfl) ?_
      refine lv_iconst (v := 1) C.x C.b dX3_startOn_75 (by decide) ?_
      obtain ⟨g13, h⟩ := grd_some h
      refine as_z C hP hS q_k_3 g13 (by decide) dX3_startOn_76 (fun H locs hP hS => ?_)
      obtain ⟨μ14, m_μ14, h⟩ := lt_ex h
      have hP : Wm G μ14 H := by rw [m_μ14]; exact hP
      refine lv_aload_n C.x C.b dX3_startOn_77 rfl (lv_at hl 1 rfl) ?_
      refine g_ref (k' := k + 2) F_3_5 u1_159 C hP q_k_0 rfl dX3_startOn_78 ?_
      refine lv_iload C.x C.b dX3_startOn_81 (lv_at hl 0 rfl) ?_
      refine lv_aload_n C.x C.b dX3_startOn_83 rfl (lv_at hl 1 rfl) ?_
      refine g_ref (k' := k + 11) F_3_14 u1_175 C hP q_k_0 rfl dX3_startOn_84 ?_
      obtain ⟨r16, μ17, e15, h⟩ := bnd_some h
      refine k_vi (k := k + 11) (as := []) (rest := [.int r12, .ref (G.2.2 (k + 2))]) (c_X2_takeLesser C.i (hA.sub (M := sOpening) 11 (by decide +kernel)) e15) M_X2_takeLesser u3_39 C hP hS q_k_11 rfl rfl (by decide) hl.1 rfl (Nat.le_of_ble_eq_true rfl) dX3_startOn_87 (fun H locs hP hS => ?_)
      obtain ⟨g18, h⟩ := grd_some h
      refine as_i C hP hS q_k_2 g18 dX3_startOn_90 (fun H locs hP hS => ?_)
      obtain ⟨μ19, m_μ19, h⟩ := lt_ex h
      have hP : Wm G μ19 H := by rw [m_μ19]; exact hP
      refine lv_aload_n C.x C.b dX3_startOn_91 rfl (lv_at hl 1 rfl) ?_
      refine g_ref (k' := k + 11) F_3_14 u1_175 C hP q_k_0 rfl dX3_startOn_92 ?_
      obtain ⟨μ21, e20, h⟩ := bnv_some h
      refine k_vv (k := k + 11) (as := []) (rest := []) (c_X2_closeOne C.i (hA.sub (M := sOpening) 11 (by decide +kernel)) e20) M_X2_closeOne u3_44 C hP hS q_k_11 rfl rfl (by decide) hl.1 rfl (Nat.le_of_ble_eq_true rfl) dX3_startOn_95 (fun H locs hP hS => ?_)
      obtain ⟨y22, e_y22, h⟩ := lt_ex h
      refine lv_iinc (v := y22) (lv' := [(3, .int y22), (4, .int r12), (0, .ref (G.2.2 k)), (2, .int x2)]) C.x C.b dX3_startOn_98 hl (k := 3) rfl (by rw [e_y22]; rfl) (by decide) rfl (fun ls hl => ?_)
      refine lv_goto (tgt := 15) C.x C.b dX3_startOn_101 (by decide) ?_
      exact hq15 y22 μ21 h _ _ _ hP hS (lv_sub hl [2, 3, 0] rfl)

set_option maxRecDepth 100000 in
set_option maxHeartbeats 4000000 in
theorem b_X3_startOn_15 {p : Program} {l : Launch} {e : Env} {s : State} {m : MethodId} {args : Array Value} {below : List Frame} {meth : Method} {c : Code} {G : Gp} {O : Mem} (C : Cx p s m args meth c cX3_startOn 5 RX3 none G) {k : Nat} {o1 : Nat} {x2 : Int32} (hA : At sPlan k) (hB1 : At sGround o1) : ∀ (n : Nat) (x3 : Int32) (μ : Mem), f_X3_startOn_15 k o1 x2 n x3 μ = some O → ∀ (H : Heap) (locs : List Loc) (ls : Array Slot), Wm G μ H → va_S (wA G) s.heap H locs → lv_has ls 5 [(0, .ref (G.2.2 k)), (2, .int x2), (3, .int x3)] → W p l e (rmm 3 74) s m args below meth c H locs 0 0 (QV below args s G O) (F0 m 15 ls []) := by
  intro n
  induction n with
  | zero => intro x3 μ h; cases h
  | succ n ih => intro x3 μ h; exact w_X3_startOn_15 C hA hB1 (q15 := f_X3_startOn_15 k o1 x2 n) ih x3 μ h

def f_X3_startOn (k : Nat) (o1 : Nat) (x2 : Int32) (μ : Mem) : Option Mem := bnv (f_X2_openAll (k + 11) o1 μ) (fun μ2 => bnv (f_X3_layCells k o1 μ2) (fun μ4 => f_X3_startOn_15 k o1 x2 FU 0 μ4))
set_option maxRecDepth 100000 in
set_option maxHeartbeats 4000000 in
theorem b_X3_startOn {p : Program} {l : Launch} {e : Env} {s : State} {m : MethodId} {args : Array Value} {below : List Frame} {meth : Method} {c : Code} {G : Gp} {O : Mem} (C : Cx p s m args meth c cX3_startOn 5 RX3 none G) {k : Nat} {o1 : Nat} {x2 : Int32} (hA : At sPlan k) (hB1 : At sGround o1) {μ : Mem} (h : f_X3_startOn k o1 x2 μ = some O) : ∀ (H : Heap) (locs : List Loc) (ls : Array Slot), Wm G μ H → va_S (wA G) s.heap H locs → lv_has ls 5 [(0, .ref (G.2.2 k)), (1, .ref (G.2.2 o1)), (2, .int x2)] → W p l e (rmm 3 74) s m args below meth c H locs 0 0 (QV below args s G O) (F0 m 0 ls []) := by
  unfold f_X3_startOn at h
  intro H locs ls hP hS hl
  have q_k_0 : shp[k]? = some (.inl (3, fs3)) := hA 0 _ rfl
  have q_k_11 : shp[k + 11]? = some (.inl (2, fs2)) := hA 11 _ rfl
  refine lv_aload_n C.x C.b dX3_startOn_0 rfl (lv_at hl 0 rfl) ?_
  refine g_ref (k' := k + 11) F_3_14 u1_175 C hP q_k_0 rfl dX3_startOn_1 ?_
  refine lv_aload_n C.x C.b dX3_startOn_4 rfl (lv_at hl 1 rfl) ?_
  obtain ⟨μ2, e1, h⟩ := bnv_some h
  refine k_vv (k := k + 11) (as := [.ref (G.2.2 o1)]) (rest := []) (c_X2_openAll C.i (hA.sub (M := sOpening) 11 (by decide +kernel)) hB1 e1) M_X2_openAll u2_226 C hP hS q_k_11 rfl rfl (by decide) hl.1 rfl (Nat.le_of_ble_eq_true rfl) dX3_startOn_5 (fun H locs hP hS => ?_)
  refine lv_aload_n C.x C.b dX3_startOn_8 rfl (lv_at hl 0 rfl) ?_
  refine lv_aload_n C.x C.b dX3_startOn_9 rfl (lv_at hl 1 rfl) ?_
  obtain ⟨μ4, e3, h⟩ := bnv_some h
  refine k_vv (k := k) (as := [.ref (G.2.2 o1)]) (rest := []) (c_X3_layCells C.i hA hB1 e3) M_X3_layCells u3_4 C hP hS q_k_0 rfl rfl (by decide) hl.1 rfl (Nat.le_of_ble_eq_true rfl) dX3_startOn_10 (fun H locs hP hS => ?_)
  refine lv_iconst (v := 0) C.x C.b dX3_startOn_13 (by decide) ?_
  refine lv_istore_n (lv' := [(3, .int 0), (0, .ref (G.2.2 k)), (1, .ref (G.2.2 o1)), (2, .int x2)]) C.x C.b dX3_startOn_14 rfl hl (by decide) rfl (fun ls hl => ?_)
  exact b_X3_startOn_15 C hA hB1 FU 0 μ4 h _ _ _ hP hS (lv_sub hl [1, 3, 0] rfl)

set_option maxRecDepth 100000 in
set_option maxHeartbeats 4000000 in
theorem c_X3_startOn {l : Launch} {G : Gp} (hI : Wi G) {k : Nat} {o1 : Nat} {x2 : Int32} (hA : At sPlan k) (hB1 : At sGround o1) {μ : Mem} {μ' : Mem} (h : f_X3_startOn k o1 x2 μ = some μ') : CV l yX3_startOn cX3_startOn 5 none 3 74 G [.ref (G.2.2 k), .ref (G.2.2 o1), .int x2] μ μ' :=
  e_all (lv := [(0, .ref (G.2.2 k)), (1, .ref (G.2.2 o1)), (2, .int x2)]) hI (by decide) (Nat.le_of_ble_eq_true rfl) rfl (fun p e s m args below meth c ls C hP hS hl => b_X3_startOn C hA hB1 h _ _ _ hP hS hl)


def f_X3_surplusAt (k : Nat) (x1 : Int32) (x2 : Int32) (μ : Mem) : Option Int32 := bnv (f_X8_cellAt x1 x2 μ) (fun r2 => grd (inb r2 36) (grd (inb x1 6) (grd (inb x2 6) (some (((μ.1 (k + 1) r2.toNatClampNeg) - (μ.1 (k + 4) x1.toNatClampNeg)) - (μ.1 (k + 5) x2.toNatClampNeg))))))
set_option maxRecDepth 100000 in
set_option maxHeartbeats 4000000 in
theorem b_X3_surplusAt {p : Program} {l : Launch} {e : Env} {s : State} {m : MethodId} {args : Array Value} {below : List Frame} {meth : Method} {c : Code} {G : Gp} {O : Int32} (C : Cx p s m args meth c cX3_surplusAt 3 RX3 (some .int) G) {k : Nat} {x1 : Int32} {x2 : Int32} {μ : Mem} (hA : At sPlan k) (h : f_X3_surplusAt k x1 x2 μ = some O) : ∀ (H : Heap) (locs : List Loc) (ls : Array Slot), Wm G μ H → va_S (wA G) s.heap H locs → lv_has ls 3 [(0, .ref (G.2.2 k)), (1, .int x1), (2, .int x2)] → W p l e (rmm 1 21) s m args below meth c H locs 0 0 (QI below args s G (O, μ)) (F0 m 0 ls []) := by
  unfold f_X3_surplusAt at h
  intro H locs ls hP hS hl
  have q_k_0 : shp[k]? = some (.inl (3, fs3)) := hA 0 _ rfl
  have q_k_1 : shp[k + 1]? = some (.inr (0, 36)) := hA 1 _ rfl
  have q_k_4 : shp[k + 4]? = some (.inr (0, 6)) := hA 4 _ rfl
  have q_k_5 : shp[k + 5]? = some (.inr (0, 6)) := hA 5 _ rfl
  refine lv_aload_n C.x C.b dX3_surplusAt_0 rfl (lv_at hl 0 rfl) ?_
  refine g_ref (k' := k + 1) F_3_4 u1_157 C hP q_k_0 rfl dX3_surplusAt_1 ?_
  refine lv_iload_n C.x C.b dX3_surplusAt_4 rfl (lv_at hl 1 rfl) ?_
  refine lv_iload_n C.x C.b dX3_surplusAt_5 rfl (lv_at hl 2 rfl) ?_
  obtain ⟨r2, e1, h⟩ := bnv_some h
  refine k_ni (as := [.int x1, .int x2]) (rest := [.ref (G.2.2 (k + 1))]) (c_X8_cellAt C.i e1) M_X8_cellAt n_RX3_97 C hP hS rfl (by decide) hl.1 rfl (Nat.le_of_ble_eq_true rfl) dX3_surplusAt_6 (fun H locs hP hS => ?_)
  obtain ⟨g3, h⟩ := grd_some h
  refine a_i C hP q_k_1 g3 dX3_surplusAt_9 ?_
  refine lv_aload_n C.x C.b dX3_surplusAt_10 rfl (lv_at hl 0 rfl) ?_
  refine g_ref (k' := k + 4) F_3_7 u1_163 C hP q_k_0 rfl dX3_surplusAt_11 ?_
  refine lv_iload_n C.x C.b dX3_surplusAt_14 rfl (lv_at hl 1 rfl) ?_
  obtain ⟨g4, h⟩ := grd_some h
  refine a_i C hP q_k_4 g4 dX3_surplusAt_15 ?_
  refine lv_isub C.x C.b dX3_surplusAt_16 ?_
  refine lv_aload_n C.x C.b dX3_surplusAt_17 rfl (lv_at hl 0 rfl) ?_
  refine g_ref (k' := k + 5) F_3_8 u1_165 C hP q_k_0 rfl dX3_surplusAt_18 ?_
  refine lv_iload_n C.x C.b dX3_surplusAt_21 rfl (lv_at hl 2 rfl) ?_
  obtain ⟨g5, h⟩ := grd_some h
  refine a_i C hP q_k_5 g5 dX3_surplusAt_22 ?_
  refine lv_isub C.x C.b dX3_surplusAt_23 ?_
  exact r_i (pr_some h) C hP hS dX3_surplusAt_24

set_option maxRecDepth 100000 in
set_option maxHeartbeats 4000000 in
theorem c_X3_surplusAt {l : Launch} {G : Gp} (hI : Wi G) {k : Nat} {x1 : Int32} {x2 : Int32} (hA : At sPlan k) {μ : Mem} {r : Int32} (h : f_X3_surplusAt k x1 x2 μ = some r) : CI l yX3_surplusAt cX3_surplusAt 3 (some .int) 1 21 G [.ref (G.2.2 k), .int x1, .int x2] μ r μ :=
  e_all (lv := [(0, .ref (G.2.2 k)), (1, .int x1), (2, .int x2)]) hI (by decide) (Nat.le_of_ble_eq_true rfl) rfl (fun p e s m args below meth c ls C hP hS hl => b_X3_surplusAt C hA h _ _ _ hP hS hl)


def f_X3_findEntering_111 (k : Nat) (x1 : Int32) (q7 : Int32 → Int32 → Int32 → Mem → Option (Int32 × Mem)) (q19 : Int32 → Int32 → Int32 → Int32 → Mem → Option (Int32 × Mem)) (x4 : Int32) (x5 : Int32) (x6 : Int32) (μ : Mem) : Option (Int32 × Mem) := bnv (f_X8_cellAt x4 x5 μ) (fun r2 => lt (x5 + 1) (fun y3 => q19 r2 x6 x4 y3 μ))
set_option maxRecDepth 100000 in
set_option maxHeartbeats 4000000 in
theorem b_X3_findEntering_111 {p : Program} {l : Launch} {e : Env} {s : State} {m : MethodId} {args : Array Value} {below : List Frame} {meth : Method} {c : Code} {G : Gp} {O : (Int32 × Mem)} (C : Cx p s m args meth c cX3_findEntering 7 RX3 (some .int) G) {k : Nat} {x1 : Int32} (hA : At sPlan k) {q7 : Int32 → Int32 → Int32 → Mem → Option (Int32 × Mem)} {q19 : Int32 → Int32 → Int32 → Int32 → Mem → Option (Int32 × Mem)} (hq7 : ∀ (x2 : Int32) (x3 : Int32) (x4 : Int32) (μ : Mem), q7 x2 x3 x4 μ = some O → ∀ (H : Heap) (locs : List Loc) (ls : Array Slot), Wm G μ H → va_S (wA G) s.heap H locs → lv_has ls 7 [(0, .ref (G.2.2 k)), (1, .int x1), (2, .int x2), (3, .int x3), (4, .int x4)] → W p l e (rmm 2 54) s m args below meth c H locs 0 0 (QI below args s G O) (F0 m 7 ls [])) (hq19 : ∀ (x2 : Int32) (x3 : Int32) (x4 : Int32) (x5 : Int32) (μ : Mem), q19 x2 x3 x4 x5 μ = some O → ∀ (H : Heap) (locs : List Loc) (ls : Array Slot), Wm G μ H → va_S (wA G) s.heap H locs → lv_has ls 7 [(0, .ref (G.2.2 k)), (1, .int x1), (2, .int x2), (3, .int x3), (4, .int x4), (5, .int x5)] → W p l e (rmm 2 54) s m args below meth c H locs 0 0 (QI below args s G O) (F0 m 19 ls [])) : ∀ (x4 : Int32) (x5 : Int32) (x6 : Int32) (μ : Mem), f_X3_findEntering_111 k x1 q7 q19 x4 x5 x6 μ = some O → ∀ (H : Heap) (locs : List Loc) (ls : Array Slot), Wm G μ H → va_S (wA G) s.heap H locs → lv_has ls 7 [(0, .ref (G.2.2 k)), (1, .int x1), (4, .int x4), (5, .int x5), (6, .int x6)] → W p l e (rmm 2 54) s m args below meth c H locs 0 0 (QI below args s G O) (F0 m 111 ls []) := by
  intro x4 x5 x6 μ h H locs ls hP hS hl
  unfold f_X3_findEntering_111 at h
  refine lv_iload C.x C.b dX3_findEntering_111 (lv_at hl 2 rfl) ?_
  refine lv_iload C.x C.b dX3_findEntering_113 (lv_at hl 3 rfl) ?_
  obtain ⟨r2, e1, h⟩ := bnv_some h
  refine k_ni (as := [.int x4, .int x5]) (rest := []) (c_X8_cellAt C.i e1) M_X8_cellAt n_RX3_97 C hP hS rfl (by decide) hl.1 rfl (Nat.le_of_ble_eq_true rfl) dX3_findEntering_115 (fun H locs hP hS => ?_)
  refine lv_istore_n (lv' := [(2, .int r2), (0, .ref (G.2.2 k)), (1, .int x1), (4, .int x4), (5, .int x5), (6, .int x6)]) C.x C.b dX3_findEntering_118 rfl hl (by decide) rfl (fun ls hl => ?_)
  refine lv_iload C.x C.b dX3_findEntering_119 (lv_at hl 5 rfl) ?_
  refine lv_istore_n (lv' := [(3, .int x6), (2, .int r2), (0, .ref (G.2.2 k)), (1, .int x1), (4, .int x4), (5, .int x5), (6, .int x6)]) C.x C.b dX3_findEntering_121 rfl hl (by decide) rfl (fun ls hl => ?_)
  obtain ⟨y3, e_y3, h⟩ := lt_ex h
  refine lv_iinc (v := y3) (lv' := [(5, .int y3), (3, .int x6), (2, .int r2), (0, .ref (G.2.2 k)), (1, .int x1), (4, .int x4), (6, .int x6)]) C.x C.b dX3_findEntering_122 hl (k := 5) rfl (by rw [e_y3]; rfl) (by decide) rfl (fun ls hl => ?_)
  refine lv_goto (tgt := 19) C.x C.b dX3_findEntering_125 (by decide) ?_
  exact hq19 r2 x6 x4 y3 μ h _ _ _ hP hS (lv_sub hl [3, 4, 2, 1, 5, 0] rfl)

def f_X3_findEntering_100 (k : Nat) (x1 : Int32) (q7 : Int32 → Int32 → Int32 → Mem → Option (Int32 × Mem)) (q19 : Int32 → Int32 → Int32 → Int32 → Mem → Option (Int32 × Mem)) (x2 : Int32) (x3 : Int32) (x4 : Int32) (x5 : Int32) (x6 : Int32) (μ : Mem) : Option (Int32 × Mem) := if x2 = ((-1)) then (f_X3_findEntering_111 k x1 q7 q19 x4 x5 x6 μ) else (if x3 ≤ x6 then (lt (x5 + 1) (fun y3 => q19 x2 x3 x4 y3 μ)) else (f_X3_findEntering_111 k x1 q7 q19 x4 x5 x6 μ))
set_option maxRecDepth 100000 in
set_option maxHeartbeats 4000000 in
theorem b_X3_findEntering_100 {p : Program} {l : Launch} {e : Env} {s : State} {m : MethodId} {args : Array Value} {below : List Frame} {meth : Method} {c : Code} {G : Gp} {O : (Int32 × Mem)} (C : Cx p s m args meth c cX3_findEntering 7 RX3 (some .int) G) {k : Nat} {x1 : Int32} (hA : At sPlan k) {q7 : Int32 → Int32 → Int32 → Mem → Option (Int32 × Mem)} {q19 : Int32 → Int32 → Int32 → Int32 → Mem → Option (Int32 × Mem)} (hq7 : ∀ (x2 : Int32) (x3 : Int32) (x4 : Int32) (μ : Mem), q7 x2 x3 x4 μ = some O → ∀ (H : Heap) (locs : List Loc) (ls : Array Slot), Wm G μ H → va_S (wA G) s.heap H locs → lv_has ls 7 [(0, .ref (G.2.2 k)), (1, .int x1), (2, .int x2), (3, .int x3), (4, .int x4)] → W p l e (rmm 2 54) s m args below meth c H locs 0 0 (QI below args s G O) (F0 m 7 ls [])) (hq19 : ∀ (x2 : Int32) (x3 : Int32) (x4 : Int32) (x5 : Int32) (μ : Mem), q19 x2 x3 x4 x5 μ = some O → ∀ (H : Heap) (locs : List Loc) (ls : Array Slot), Wm G μ H → va_S (wA G) s.heap H locs → lv_has ls 7 [(0, .ref (G.2.2 k)), (1, .int x1), (2, .int x2), (3, .int x3), (4, .int x4), (5, .int x5)] → W p l e (rmm 2 54) s m args below meth c H locs 0 0 (QI below args s G O) (F0 m 19 ls [])) : ∀ (x2 : Int32) (x3 : Int32) (x4 : Int32) (x5 : Int32) (x6 : Int32) (μ : Mem), f_X3_findEntering_100 k x1 q7 q19 x2 x3 x4 x5 x6 μ = some O → ∀ (H : Heap) (locs : List Loc) (ls : Array Slot), Wm G μ H → va_S (wA G) s.heap H locs → lv_has ls 7 [(0, .ref (G.2.2 k)), (1, .int x1), (2, .int x2), (3, .int x3), (4, .int x4), (5, .int x5), (6, .int x6)] → W p l e (rmm 2 54) s m args below meth c H locs 0 0 (QI below args s G O) (F0 m 100 ls []) := by
  intro x2 x3 x4 x5 x6 μ h H locs ls hP hS hl
  unfold f_X3_findEntering_100 at h
  refine lv_iload_n C.x C.b dX3_findEntering_100 rfl (lv_at hl 2 rfl) ?_
  refine lv_iconst (v := (-1)) C.x C.b dX3_findEntering_101 (by decide) ?_
  refine lv_icmp_eq (tgt := 111) C.x C.b dX3_findEntering_102 (by decide) (fun c1 => ?_) (fun c1 => ?_)
  · have h := (if_pos c1).symm.trans h
    exact b_X3_findEntering_111 C hA hq7 hq19 x4 x5 x6 μ h _ _ _ hP hS (lv_sub hl [0, 1, 4, 5, 6] rfl)
  · have h := (if_neg c1).symm.trans h
    refine lv_iload C.x C.b dX3_findEntering_105 (lv_at hl 6 rfl) ?_
    refine lv_iload_n C.x C.b dX3_findEntering_107 rfl (lv_at hl 3 rfl) ?_
    refine lv_icmp_ge (tgt := 122) C.x C.b dX3_findEntering_108 (by decide) (fun c2 => ?_) (fun c2 => ?_)
    · have h := (if_pos c2).symm.trans h
      obtain ⟨y3, e_y3, h⟩ := lt_ex h
      refine lv_iinc (v := y3) (lv' := [(5, .int y3), (0, .ref (G.2.2 k)), (1, .int x1), (2, .int x2), (3, .int x3), (4, .int x4), (6, .int x6)]) C.x C.b dX3_findEntering_122 hl (k := 5) rfl (by rw [e_y3]; rfl) (by decide) rfl (fun ls hl => ?_)
      refine lv_goto (tgt := 19) C.x C.b dX3_findEntering_125 (by decide) ?_
      exact hq19 x2 x3 x4 y3 μ h _ _ _ hP hS (lv_sub hl [1, 2, 3, 4, 5, 0] rfl)
    · have h := (if_neg c2).symm.trans h
      exact b_X3_findEntering_111 C hA hq7 hq19 x4 x5 x6 μ h _ _ _ hP hS (lv_sub hl [0, 1, 4, 5, 6] rfl)

def f_X3_findEntering_59 (k : Nat) (x1 : Int32) (q7 : Int32 → Int32 → Int32 → Mem → Option (Int32 × Mem)) (q19 : Int32 → Int32 → Int32 → Int32 → Mem → Option (Int32 × Mem)) (x2 : Int32) (x3 : Int32) (x4 : Int32) (x5 : Int32) (z0 : Int32) (μ : Mem) : Option (Int32 × Mem) := if x1 = 2 then (bnv (f_X8_cellAt x4 x5 μ) (fun r3 => bnv (f_X1_follow (k + 16) r3 (k + 3) 36 μ) (fun μ5 => bnv (f_X1_turnOf (k + 16) (k + 2) 36 μ5) (fun r7 => lt (z0 * r7) (fun y8 => f_X3_findEntering_100 k x1 q7 q19 x2 x3 x4 x5 y8 μ5))))) else (f_X3_findEntering_100 k x1 q7 q19 x2 x3 x4 x5 z0 μ)
set_option maxRecDepth 100000 in
set_option maxHeartbeats 4000000 in
theorem b_X3_findEntering_59 {p : Program} {l : Launch} {e : Env} {s : State} {m : MethodId} {args : Array Value} {below : List Frame} {meth : Method} {c : Code} {G : Gp} {O : (Int32 × Mem)} (C : Cx p s m args meth c cX3_findEntering 7 RX3 (some .int) G) {k : Nat} {x1 : Int32} (hA : At sPlan k) {q7 : Int32 → Int32 → Int32 → Mem → Option (Int32 × Mem)} {q19 : Int32 → Int32 → Int32 → Int32 → Mem → Option (Int32 × Mem)} (hq7 : ∀ (x2 : Int32) (x3 : Int32) (x4 : Int32) (μ : Mem), q7 x2 x3 x4 μ = some O → ∀ (H : Heap) (locs : List Loc) (ls : Array Slot), Wm G μ H → va_S (wA G) s.heap H locs → lv_has ls 7 [(0, .ref (G.2.2 k)), (1, .int x1), (2, .int x2), (3, .int x3), (4, .int x4)] → W p l e (rmm 2 54) s m args below meth c H locs 0 0 (QI below args s G O) (F0 m 7 ls [])) (hq19 : ∀ (x2 : Int32) (x3 : Int32) (x4 : Int32) (x5 : Int32) (μ : Mem), q19 x2 x3 x4 x5 μ = some O → ∀ (H : Heap) (locs : List Loc) (ls : Array Slot), Wm G μ H → va_S (wA G) s.heap H locs → lv_has ls 7 [(0, .ref (G.2.2 k)), (1, .int x1), (2, .int x2), (3, .int x3), (4, .int x4), (5, .int x5)] → W p l e (rmm 2 54) s m args below meth c H locs 0 0 (QI below args s G O) (F0 m 19 ls [])) : ∀ (x2 : Int32) (x3 : Int32) (x4 : Int32) (x5 : Int32) (z0 : Int32) (μ : Mem), f_X3_findEntering_59 k x1 q7 q19 x2 x3 x4 x5 z0 μ = some O → ∀ (H : Heap) (locs : List Loc) (ls : Array Slot), Wm G μ H → va_S (wA G) s.heap H locs → lv_has ls 7 [(0, .ref (G.2.2 k)), (1, .int x1), (2, .int x2), (3, .int x3), (4, .int x4), (5, .int x5)] → W p l e (rmm 2 54) s m args below meth c H locs 0 0 (QI below args s G O) (F0 m 59 ls [.int z0]) := by
  intro x2 x3 x4 x5 z0 μ h H locs ls hP hS hl
  unfold f_X3_findEntering_59 at h
  have q_k_0 : shp[k]? = some (.inl (3, fs3)) := hA 0 _ rfl
  have q_k_2 : shp[k + 2]? = some (.inr (0, 36)) := hA 2 _ rfl
  have q_k_3 : shp[k + 3]? = some (.inr (1, 36)) := hA 3 _ rfl
  have q_k_16 : shp[k + 16]? = some (.inl (1, fs1)) := hA 16 _ rfl
  refine lv_istore (lv' := [(6, .int z0), (0, .ref (G.2.2 k)), (1, .int x1), (2, .int x2), (3, .int x3), (4, .int x4), (5, .int x5)]) C.x C.b dX3_findEntering_59 hl (by decide) rfl (fun ls hl => ?_)
  refine lv_iload_n C.x C.b dX3_findEntering_61 rfl (lv_at hl 2 rfl) ?_
  refine lv_iconst (v := 2) C.x C.b dX3_findEntering_62 (by decide) ?_
  refine lv_icmp_ne (tgt := 100) C.x C.b dX3_findEntering_63 (by decide) (fun c1 => ?_) (fun c1 => ?_)
  · have h := (if_neg c1).symm.trans h
    exact b_X3_findEntering_100 C hA hq7 hq19 x2 x3 x4 x5 z0 μ h _ _ _ hP hS (lv_sub hl [1, 2, 3, 4, 5, 6, 0] rfl)
  · have h := (if_pos c1).symm.trans h
    refine lv_aload_n C.x C.b dX3_findEntering_66 rfl (lv_at hl 1 rfl) ?_
    refine g_ref (k' := k + 16) F_3_15 u1_176 C hP q_k_0 rfl dX3_findEntering_67 ?_
    refine lv_iload C.x C.b dX3_findEntering_70 (lv_at hl 5 rfl) ?_
    refine lv_iload C.x C.b dX3_findEntering_72 (lv_at hl 6 rfl) ?_
    obtain ⟨r3, e2, h⟩ := bnv_some h
    refine k_ni (as := [.int x4, .int x5]) (rest := [.ref (G.2.2 (k + 16))]) (c_X8_cellAt C.i e2) M_X8_cellAt n_RX3_97 C hP hS rfl (by decide) hl.1 rfl (Nat.le_of_ble_eq_true rfl) dX3_findEntering_74 (fun H locs hP hS => ?_)
    refine lv_aload_n C.x C.b dX3_findEntering_77 rfl (lv_at hl 1 rfl) ?_
    refine g_ref (k' := k + 3) F_3_6 u1_161 C hP q_k_0 rfl dX3_findEntering_78 ?_
    obtain ⟨μ5, e4, h⟩ := bnv_some h
    refine k_vv (k := k + 16) (as := [.int r3, .ref (G.2.2 (k + 3))]) (rest := []) (c_X1_follow C.i (hA.sub (M := sLoop) 16 (by decide +kernel)) q_k_3 e4) M_X1_follow u3_76 C hP hS q_k_16 rfl rfl (by decide) hl.1 rfl (Nat.le_of_ble_eq_true rfl) dX3_findEntering_81 (fun H locs hP hS => ?_)
    refine lv_iload C.x C.b dX3_findEntering_84 (lv_at hl 0 rfl) ?_
    refine lv_aload_n C.x C.b dX3_findEntering_86 rfl (lv_at hl 1 rfl) ?_
    refine g_ref (k' := k + 16) F_3_15 u1_176 C hP q_k_0 rfl dX3_findEntering_87 ?_
    refine lv_aload_n C.x C.b dX3_findEntering_90 rfl (lv_at hl 1 rfl) ?_
    refine g_ref (k' := k + 2) F_3_5 u1_159 C hP q_k_0 rfl dX3_findEntering_91 ?_
    obtain ⟨r7, e6, h⟩ := bnv_some h
    refine k_vi (k := k + 16) (as := [.ref (G.2.2 (k + 2))]) (rest := [.int z0]) (c_X1_turnOf C.i (hA.sub (M := sLoop) 16 (by decide +kernel)) q_k_2 e6) M_X1_turnOf u3_89 C hP hS q_k_16 rfl rfl (by decide) hl.1 rfl (Nat.le_of_ble_eq_true rfl) dX3_findEntering_94 (fun H locs hP hS => ?_)
    refine lv_imul C.x C.b dX3_findEntering_97 ?_
    refine lv_topi (fun y8 e_y8 => ?_)
    have h := lt_at h e_y8
    refine lv_istore (lv' := [(6, .int y8), (0, .ref (G.2.2 k)), (1, .int x1), (2, .int x2), (3, .int x3), (4, .int x4), (5, .int x5)]) C.x C.b dX3_findEntering_98 hl (by decide) rfl (fun ls hl => ?_)
    exact b_X3_findEntering_100 C hA hq7 hq19 x2 x3 x4 x5 y8 μ5 h _ _ _ hP hS (lv_sub hl [1, 2, 3, 4, 5, 6, 0] rfl)

def g_X3_findEntering_19 (k : Nat) (x1 : Int32) (q7 : Int32 → Int32 → Int32 → Mem → Option (Int32 × Mem)) (q19 : Int32 → Int32 → Int32 → Int32 → Mem → Option (Int32 × Mem)) (x2 : Int32) (x3 : Int32) (x4 : Int32) (x5 : Int32) (μ : Mem) : Option (Int32 × Mem) := if (μ.1 k 2) ≤ x5 then (lt (x4 + 1) (fun y2 => q7 x2 x3 y2 μ)) else (bnv (f_X3_surplusAt k x4 x5 μ) (fun r4 => if r4 < 0 then (if x1 = 1 then (f_X3_findEntering_59 k x1 q7 q19 x2 x3 x4 x5 0 μ) else (bnv (f_X3_surplusAt k x4 x5 μ) (fun r8 => f_X3_findEntering_59 k x1 q7 q19 x2 x3 x4 x5 r8 μ))) else (lt (x5 + 1) (fun y9 => q19 x2 x3 x4 y9 μ))))
def f_X3_findEntering_19 (k : Nat) (x1 : Int32) (q7 : Int32 → Int32 → Int32 → Mem → Option (Int32 × Mem)) : Nat → Int32 → Int32 → Int32 → Int32 → Mem → Option (Int32 × Mem)
  | 0, _, _, _, _, _ => none
  | n + 1, x2, x3, x4, x5, μ => g_X3_findEntering_19 k x1 q7 (f_X3_findEntering_19 k x1 q7 n) x2 x3 x4 x5 μ
set_option maxRecDepth 100000 in
set_option maxHeartbeats 4000000 in
theorem w_X3_findEntering_19 {p : Program} {l : Launch} {e : Env} {s : State} {m : MethodId} {args : Array Value} {below : List Frame} {meth : Method} {c : Code} {G : Gp} {O : (Int32 × Mem)} (C : Cx p s m args meth c cX3_findEntering 7 RX3 (some .int) G) {k : Nat} {x1 : Int32} (hA : At sPlan k) {q7 : Int32 → Int32 → Int32 → Mem → Option (Int32 × Mem)} (hq7 : ∀ (x2 : Int32) (x3 : Int32) (x4 : Int32) (μ : Mem), q7 x2 x3 x4 μ = some O → ∀ (H : Heap) (locs : List Loc) (ls : Array Slot), Wm G μ H → va_S (wA G) s.heap H locs → lv_has ls 7 [(0, .ref (G.2.2 k)), (1, .int x1), (2, .int x2), (3, .int x3), (4, .int x4)] → W p l e (rmm 2 54) s m args below meth c H locs 0 0 (QI below args s G O) (F0 m 7 ls [])) {q19 : Int32 → Int32 → Int32 → Int32 → Mem → Option (Int32 × Mem)} (hq19 : ∀ (x2 : Int32) (x3 : Int32) (x4 : Int32) (x5 : Int32) (μ : Mem), q19 x2 x3 x4 x5 μ = some O → ∀ (H : Heap) (locs : List Loc) (ls : Array Slot), Wm G μ H → va_S (wA G) s.heap H locs → lv_has ls 7 [(0, .ref (G.2.2 k)), (1, .int x1), (2, .int x2), (3, .int x3), (4, .int x4), (5, .int x5)] → W p l e (rmm 2 54) s m args below meth c H locs 0 0 (QI below args s G O) (F0 m 19 ls [])) : ∀ (x2 : Int32) (x3 : Int32) (x4 : Int32) (x5 : Int32) (μ : Mem), g_X3_findEntering_19 k x1 q7 q19 x2 x3 x4 x5 μ = some O → ∀ (H : Heap) (locs : List Loc) (ls : Array Slot), Wm G μ H → va_S (wA G) s.heap H locs → lv_has ls 7 [(0, .ref (G.2.2 k)), (1, .int x1), (2, .int x2), (3, .int x3), (4, .int x4), (5, .int x5)] → W p l e (rmm 2 54) s m args below meth c H locs 0 0 (QI below args s G O) (F0 m 19 ls []) := by
  intro x2 x3 x4 x5 μ h H locs ls hP hS hl
  unfold g_X3_findEntering_19 at h
  have q_k_0 : shp[k]? = some (.inl (3, fs3)) := hA 0 _ rfl
  refine lv_iload C.x C.b dX3_findEntering_19 (lv_at hl 5 rfl) ?_
  refine lv_aload_n C.x C.b dX3_findEntering_21 rfl (lv_at hl 0 rfl) ?_
  refine g_int F_3_2 u1_153 C hP q_k_0 dX3_findEntering_22 ?_
  refine lv_icmp_ge (tgt := 128) C.x C.b dX3_findEntering_25 (by decide) (fun c1 => ?_) (fun c1 => ?_)
  · have h := (if_pos c1).symm.trans h
    obtain ⟨y2, e_y2, h⟩ := lt_ex h
    refine lv_iinc (v := y2) (lv' := [(4, .int y2), (0, .ref (G.2.2 k)), (1, .int x1), (2, .int x2), (3, .int x3), (5, .int x5)]) C.x C.b dX3_findEntering_128 hl (k := 4) rfl (by rw [e_y2]; rfl) (by decide) rfl (fun ls hl => ?_)
    refine lv_goto (tgt := 7) C.x C.b dX3_findEntering_131 (by decide) ?_
    exact hq7 x2 x3 y2 μ h _ _ _ hP hS (lv_sub hl [1, 2, 3, 4, 0] rfl)
  · have h := (if_neg c1).symm.trans h
    refine lv_aload_n C.x C.b dX3_findEntering_28 rfl (lv_at hl 0 rfl) ?_
    refine lv_iload C.x C.b dX3_findEntering_29 (lv_at hl 4 rfl) ?_
    refine lv_iload C.x C.b dX3_findEntering_31 (lv_at hl 5 rfl) ?_
    obtain ⟨r4, e3, h⟩ := bnv_some h
    refine k_vi (k := k) (as := [.int x4, .int x5]) (rest := []) (c_X3_surplusAt C.i hA e3) M_X3_surplusAt u3_72 C hP hS q_k_0 rfl rfl (by decide) hl.1 rfl (Nat.le_of_ble_eq_true rfl) dX3_findEntering_33 (fun H locs hP hS => ?_)
    refine lv_if_lt (tgt := 42) C.x C.b dX3_findEntering_36 (by decide) (fun c5 => ?_) (fun c5 => ?_)
    · have h := (if_pos c5).symm.trans h
      refine lv_iload_n C.x C.b dX3_findEntering_42 rfl (lv_at hl 1 rfl) ?_
      refine lv_iconst (v := 1) C.x C.b dX3_findEntering_43 (by decide) ?_
      refine lv_icmp_ne (tgt := 51) C.x C.b dX3_findEntering_44 (by decide) (fun c6 => ?_) (fun c6 => ?_)
      · have h := (if_neg c6).symm.trans h
        refine lv_aload_n C.x C.b dX3_findEntering_51 rfl (lv_at hl 0 rfl) ?_
        refine lv_iload C.x C.b dX3_findEntering_52 (lv_at hl 4 rfl) ?_
        refine lv_iload C.x C.b dX3_findEntering_54 (lv_at hl 5 rfl) ?_
        obtain ⟨r8, e7, h⟩ := bnv_some h
        refine k_vi (k := k) (as := [.int x4, .int x5]) (rest := []) (c_X3_surplusAt C.i hA e7) M_X3_surplusAt u3_72 C hP hS q_k_0 rfl rfl (by decide) hl.1 rfl (Nat.le_of_ble_eq_true rfl) dX3_findEntering_56 (fun H locs hP hS => ?_)
        exact b_X3_findEntering_59 C hA hq7 hq19 x2 x3 x4 x5 r8 μ h _ _ _ hP hS (lv_sub hl [0, 1, 2, 3, 4, 5] rfl)
      · have h := (if_pos c6).symm.trans h
        refine lv_iconst (v := 0) C.x C.b dX3_findEntering_47 (by decide) ?_
        refine lv_goto (tgt := 59) C.x C.b dX3_findEntering_48 (by decide) ?_
        exact b_X3_findEntering_59 C hA hq7 hq19 x2 x3 x4 x5 0 μ h _ _ _ hP hS (lv_sub hl [0, 1, 2, 3, 4, 5] rfl)
    · have h := (if_neg c5).symm.trans h
      refine lv_goto (tgt := 122) C.x C.b dX3_findEntering_39 (by decide) ?_
      obtain ⟨y9, e_y9, h⟩ := lt_ex h
      refine lv_iinc (v := y9) (lv' := [(5, .int y9), (0, .ref (G.2.2 k)), (1, .int x1), (2, .int x2), (3, .int x3), (4, .int x4)]) C.x C.b dX3_findEntering_122 hl (k := 5) rfl (by rw [e_y9]; rfl) (by decide) rfl (fun ls hl => ?_)
      refine lv_goto (tgt := 19) C.x C.b dX3_findEntering_125 (by decide) ?_
      exact hq19 x2 x3 x4 y9 μ h _ _ _ hP hS (lv_sub hl [1, 2, 3, 4, 5, 0] rfl)

set_option maxRecDepth 100000 in
set_option maxHeartbeats 4000000 in
theorem b_X3_findEntering_19 {p : Program} {l : Launch} {e : Env} {s : State} {m : MethodId} {args : Array Value} {below : List Frame} {meth : Method} {c : Code} {G : Gp} {O : (Int32 × Mem)} (C : Cx p s m args meth c cX3_findEntering 7 RX3 (some .int) G) {k : Nat} {x1 : Int32} (hA : At sPlan k) {q7 : Int32 → Int32 → Int32 → Mem → Option (Int32 × Mem)} (hq7 : ∀ (x2 : Int32) (x3 : Int32) (x4 : Int32) (μ : Mem), q7 x2 x3 x4 μ = some O → ∀ (H : Heap) (locs : List Loc) (ls : Array Slot), Wm G μ H → va_S (wA G) s.heap H locs → lv_has ls 7 [(0, .ref (G.2.2 k)), (1, .int x1), (2, .int x2), (3, .int x3), (4, .int x4)] → W p l e (rmm 2 54) s m args below meth c H locs 0 0 (QI below args s G O) (F0 m 7 ls [])) : ∀ (n : Nat) (x2 : Int32) (x3 : Int32) (x4 : Int32) (x5 : Int32) (μ : Mem), f_X3_findEntering_19 k x1 q7 n x2 x3 x4 x5 μ = some O → ∀ (H : Heap) (locs : List Loc) (ls : Array Slot), Wm G μ H → va_S (wA G) s.heap H locs → lv_has ls 7 [(0, .ref (G.2.2 k)), (1, .int x1), (2, .int x2), (3, .int x3), (4, .int x4), (5, .int x5)] → W p l e (rmm 2 54) s m args below meth c H locs 0 0 (QI below args s G O) (F0 m 19 ls []) := by
  intro n
  induction n with
  | zero => intro x2 x3 x4 x5 μ h; cases h
  | succ n ih => intro x2 x3 x4 x5 μ h; exact w_X3_findEntering_19 C hA hq7 (q19 := f_X3_findEntering_19 k x1 q7 n) ih x2 x3 x4 x5 μ h

def g_X3_findEntering_7 (k : Nat) (x1 : Int32)  (q7 : Int32 → Int32 → Int32 → Mem → Option (Int32 × Mem)) (x2 : Int32) (x3 : Int32) (x4 : Int32) (μ : Mem) : Option (Int32 × Mem) := if (μ.1 k 1) ≤ x4 then (some (x2, μ)) else (f_X3_findEntering_19 k x1 q7 FU x2 x3 x4 0 μ)
def f_X3_findEntering_7 (k : Nat) (x1 : Int32)  : Nat → Int32 → Int32 → Int32 → Mem → Option (Int32 × Mem)
  | 0, _, _, _, _ => none
  | n + 1, x2, x3, x4, μ => g_X3_findEntering_7 k x1 (f_X3_findEntering_7 k x1 n) x2 x3 x4 μ
set_option maxRecDepth 100000 in
set_option maxHeartbeats 4000000 in
theorem w_X3_findEntering_7 {p : Program} {l : Launch} {e : Env} {s : State} {m : MethodId} {args : Array Value} {below : List Frame} {meth : Method} {c : Code} {G : Gp} {O : (Int32 × Mem)} (C : Cx p s m args meth c cX3_findEntering 7 RX3 (some .int) G) {k : Nat} {x1 : Int32} (hA : At sPlan k) {q7 : Int32 → Int32 → Int32 → Mem → Option (Int32 × Mem)} (hq7 : ∀ (x2 : Int32) (x3 : Int32) (x4 : Int32) (μ : Mem), q7 x2 x3 x4 μ = some O → ∀ (H : Heap) (locs : List Loc) (ls : Array Slot), Wm G μ H → va_S (wA G) s.heap H locs → lv_has ls 7 [(0, .ref (G.2.2 k)), (1, .int x1), (2, .int x2), (3, .int x3), (4, .int x4)] → W p l e (rmm 2 54) s m args below meth c H locs 0 0 (QI below args s G O) (F0 m 7 ls [])) : ∀ (x2 : Int32) (x3 : Int32) (x4 : Int32) (μ : Mem), g_X3_findEntering_7 k x1 q7 x2 x3 x4 μ = some O → ∀ (H : Heap) (locs : List Loc) (ls : Array Slot), Wm G μ H → va_S (wA G) s.heap H locs → lv_has ls 7 [(0, .ref (G.2.2 k)), (1, .int x1), (2, .int x2), (3, .int x3), (4, .int x4)] → W p l e (rmm 2 54) s m args below meth c H locs 0 0 (QI below args s G O) (F0 m 7 ls []) := by
  intro x2 x3 x4 μ h H locs ls hP hS hl
  unfold g_X3_findEntering_7 at h
  have q_k_0 : shp[k]? = some (.inl (3, fs3)) := hA 0 _ rfl
  refine lv_iload C.x C.b dX3_findEntering_7 (lv_at hl 4 rfl) ?_
  refine lv_aload_n C.x C.b dX3_findEntering_9 rfl (lv_at hl 0 rfl) ?_
  refine g_int F_3_1 u1_151 C hP q_k_0 dX3_findEntering_10 ?_
  refine lv_icmp_ge (tgt := 134) C.x C.b dX3_findEntering_13 (by decide) (fun c1 => ?_) (fun c1 => ?_)
  · have h := (if_pos c1).symm.trans h
    refine lv_iload_n C.x C.b dX3_findEntering_134 rfl (lv_at hl 2 rfl) ?_
    exact r_i h C hP hS dX3_findEntering_135
  · have h := (if_neg c1).symm.trans h
    refine lv_iconst (v := 0) C.x C.b dX3_findEntering_16 (by decide) ?_
    refine lv_istore (lv' := [(5, .int 0), (0, .ref (G.2.2 k)), (1, .int x1), (2, .int x2), (3, .int x3), (4, .int x4)]) C.x C.b dX3_findEntering_17 hl (by decide) rfl (fun ls hl => ?_)
    exact b_X3_findEntering_19 C hA hq7 FU x2 x3 x4 0 μ h _ _ _ hP hS (lv_sub hl [1, 2, 3, 4, 5, 0] rfl)

set_option maxRecDepth 100000 in
set_option maxHeartbeats 4000000 in
theorem b_X3_findEntering_7 {p : Program} {l : Launch} {e : Env} {s : State} {m : MethodId} {args : Array Value} {below : List Frame} {meth : Method} {c : Code} {G : Gp} {O : (Int32 × Mem)} (C : Cx p s m args meth c cX3_findEntering 7 RX3 (some .int) G) {k : Nat} {x1 : Int32} (hA : At sPlan k) : ∀ (n : Nat) (x2 : Int32) (x3 : Int32) (x4 : Int32) (μ : Mem), f_X3_findEntering_7 k x1 n x2 x3 x4 μ = some O → ∀ (H : Heap) (locs : List Loc) (ls : Array Slot), Wm G μ H → va_S (wA G) s.heap H locs → lv_has ls 7 [(0, .ref (G.2.2 k)), (1, .int x1), (2, .int x2), (3, .int x3), (4, .int x4)] → W p l e (rmm 2 54) s m args below meth c H locs 0 0 (QI below args s G O) (F0 m 7 ls []) := by
  intro n
  induction n with
  | zero => intro x2 x3 x4 μ h; cases h
  | succ n ih => intro x2 x3 x4 μ h; exact w_X3_findEntering_7 C hA (q7 := f_X3_findEntering_7 k x1 n) ih x2 x3 x4 μ h

def f_X3_findEntering (k : Nat) (x1 : Int32) (μ : Mem) : Option (Int32 × Mem) := f_X3_findEntering_7 k x1 FU ((-1)) 0 0 μ
set_option maxRecDepth 100000 in
set_option maxHeartbeats 4000000 in
theorem b_X3_findEntering {p : Program} {l : Launch} {e : Env} {s : State} {m : MethodId} {args : Array Value} {below : List Frame} {meth : Method} {c : Code} {G : Gp} {O : (Int32 × Mem)} (C : Cx p s m args meth c cX3_findEntering 7 RX3 (some .int) G) {k : Nat} {x1 : Int32} (hA : At sPlan k) {μ : Mem} (h : f_X3_findEntering k x1 μ = some O) : ∀ (H : Heap) (locs : List Loc) (ls : Array Slot), Wm G μ H → va_S (wA G) s.heap H locs → lv_has ls 7 [(0, .ref (G.2.2 k)), (1, .int x1)] → W p l e (rmm 2 54) s m args below meth c H locs 0 0 (QI below args s G O) (F0 m 0 ls []) := by
  unfold f_X3_findEntering at h
  intro H locs ls hP hS hl
  refine lv_iconst (v := (-1)) C.x C.b dX3_findEntering_0 (by decide) ?_
  refine lv_istore_n (lv' := [(2, .int ((-1))), (0, .ref (G.2.2 k)), (1, .int x1)]) C.x C.b dX3_findEntering_1 rfl hl (by decide) rfl (fun ls hl => ?_)
  refine lv_iconst (v := 0) C.x C.b dX3_findEntering_2 (by decide) ?_
  refine lv_istore_n (lv' := [(3, .int 0), (2, .int ((-1))), (0, .ref (G.2.2 k)), (1, .int x1)]) C.x C.b dX3_findEntering_3 rfl hl (by decide) rfl (fun ls hl => ?_)
  refine lv_iconst (v := 0) C.x C.b dX3_findEntering_4 (by decide) ?_
  refine lv_istore (lv' := [(4, .int 0), (3, .int 0), (2, .int ((-1))), (0, .ref (G.2.2 k)), (1, .int x1)]) C.x C.b dX3_findEntering_5 hl (by decide) rfl (fun ls hl => ?_)
  exact b_X3_findEntering_7 C hA FU ((-1)) 0 0 μ h _ _ _ hP hS (lv_sub hl [3, 4, 2, 1, 0] rfl)

set_option maxRecDepth 100000 in
set_option maxHeartbeats 4000000 in
theorem c_X3_findEntering {l : Launch} {G : Gp} (hI : Wi G) {k : Nat} {x1 : Int32} (hA : At sPlan k) {μ : Mem} {r : Int32} {μ' : Mem} (h : f_X3_findEntering k x1 μ = some (r, μ')) : CI l yX3_findEntering cX3_findEntering 7 (some .int) 2 54 G [.ref (G.2.2 k), .int x1] μ r μ' :=
  e_all (lv := [(0, .ref (G.2.2 k)), (1, .int x1)]) hI (by decide) (Nat.le_of_ble_eq_true rfl) rfl (fun p e s m args below meth c ls C hP hS hl => b_X3_findEntering C hA h _ _ _ hP hS hl)


def f_X3_isProved (k : Nat) (μ : Mem) : Option (Int32 × Mem) := bnd (f_X3_findEntering k 1 μ) (fun r2 μ3 => if r2 = ((-1)) then (some (1, μ3)) else (some (0, μ3)))
set_option maxRecDepth 100000 in
set_option maxHeartbeats 4000000 in
theorem b_X3_isProved {p : Program} {l : Launch} {e : Env} {s : State} {m : MethodId} {args : Array Value} {below : List Frame} {meth : Method} {c : Code} {G : Gp} {O : (Int32 × Mem)} (C : Cx p s m args meth c cX3_isProved 1 RX3 (some .boolean) G) {k : Nat} (hA : At sPlan k) {μ : Mem} (h : f_X3_isProved k μ = some O) : ∀ (H : Heap) (locs : List Loc) (ls : Array Slot), Wm G μ H → va_S (wA G) s.heap H locs → lv_has ls 1 [(0, .ref (G.2.2 k))] → W p l e (rmm 3 80) s m args below meth c H locs 0 0 (QI below args s G O) (F0 m 0 ls []) := by
  unfold f_X3_isProved at h
  intro H locs ls hP hS hl
  have q_k_0 : shp[k]? = some (.inl (3, fs3)) := hA 0 _ rfl
  refine lv_aload_n C.x C.b dX3_isProved_0 rfl (lv_at hl 0 rfl) ?_
  refine lv_iconst (v := 1) C.x C.b dX3_isProved_1 (by decide) ?_
  obtain ⟨r2, μ3, e1, h⟩ := bnd_some h
  refine k_vi (k := k) (as := [.int 1]) (rest := []) (c_X3_findEntering C.i hA e1) M_X3_findEntering u3_68 C hP hS q_k_0 rfl rfl (by decide) hl.1 rfl (Nat.le_of_ble_eq_true rfl) dX3_isProved_2 (fun H locs hP hS => ?_)
  refine lv_iconst (v := (-1)) C.x C.b dX3_isProved_5 (by decide) ?_
  refine lv_icmp_ne (tgt := 13) C.x C.b dX3_isProved_6 (by decide) (fun c4 => ?_) (fun c4 => ?_)
  · have h := (if_neg c4).symm.trans h
    refine lv_iconst (v := 0) C.x C.b dX3_isProved_13 (by decide) ?_
    exact r_z h (by decide) C hP hS dX3_isProved_14
  · have h := (if_pos c4).symm.trans h
    refine lv_iconst (v := 1) C.x C.b dX3_isProved_9 (by decide) ?_
    refine lv_goto (tgt := 14) C.x C.b dX3_isProved_10 (by decide) ?_
    exact r_z h (by decide) C hP hS dX3_isProved_14

set_option maxRecDepth 100000 in
set_option maxHeartbeats 4000000 in
theorem c_X3_isProved {l : Launch} {G : Gp} (hI : Wi G) {k : Nat} (hA : At sPlan k) {μ : Mem} {r : Int32} {μ' : Mem} (h : f_X3_isProved k μ = some (r, μ')) : CI l yX3_isProved cX3_isProved 1 (some .boolean) 3 80 G [.ref (G.2.2 k)] μ r μ' :=
  e_all (lv := [(0, .ref (G.2.2 k))]) hI (by decide) (Nat.le_of_ble_eq_true rfl) rfl (fun p e s m args below meth c ls C hP hS hl => b_X3_isProved C hA h _ _ _ hP hS hl)


def f_X3_turnWay (k : Nat) (x1 : Int32) (μ : Mem) : Option Mem := bnv (f_X1_turnOf (k + 16) (k + 2) 36 μ) (fun r2 => bnv (f_X1_findLeaving (k + 16) (k + 2) 36 r2 μ) (fun r4 => bnv (f_X1_turnLoads (k + 16) (k + 2) 36 r2 μ) (fun μ6 => grd (inb x1 36) (lt (st μ6 (k + 3) x1.toNatClampNeg 1) (fun μ8 => grd (inb r4 36) (lt (st μ8 (k + 3) r4.toNatClampNeg 0) (fun μ10 => grd (inb (μ10.1 k 3) 100) (lt (st μ10 (k + 6) (μ10.1 k 3).toNatClampNeg x1) (fun μ12 => grd (inb (μ12.1 k 3) 100) (lt (st μ12 (k + 7) (μ12.1 k 3).toNatClampNeg r4) (fun μ14 => grd (inb (μ14.1 k 3) 100) (lt (st μ14 (k + 8) (μ14.1 k 3).toNatClampNeg r2) (fun μ16 => lt (st μ16 k 3 ((μ16.1 k 3) + 1)) (fun μ17 => some μ17))))))))))))))
set_option maxRecDepth 100000 in
set_option maxHeartbeats 4000000 in
theorem b_X3_turnWay {p : Program} {l : Launch} {e : Env} {s : State} {m : MethodId} {args : Array Value} {below : List Frame} {meth : Method} {c : Code} {G : Gp} {O : Mem} (C : Cx p s m args meth c cX3_turnWay 4 RX3 none G) {k : Nat} {x1 : Int32} (hA : At sPlan k) {μ : Mem} (h : f_X3_turnWay k x1 μ = some O) : ∀ (H : Heap) (locs : List Loc) (ls : Array Slot), Wm G μ H → va_S (wA G) s.heap H locs → lv_has ls 4 [(0, .ref (G.2.2 k)), (1, .int x1)] → W p l e (rmm 2 44) s m args below meth c H locs 0 0 (QV below args s G O) (F0 m 0 ls []) := by
  unfold f_X3_turnWay at h
  intro H locs ls hP hS hl
  have q_k_0 : shp[k]? = some (.inl (3, fs3)) := hA 0 _ rfl
  have q_k_2 : shp[k + 2]? = some (.inr (0, 36)) := hA 2 _ rfl
  have q_k_3 : shp[k + 3]? = some (.inr (1, 36)) := hA 3 _ rfl
  have q_k_6 : shp[k + 6]? = some (.inr (0, 100)) := hA 6 _ rfl
  have q_k_7 : shp[k + 7]? = some (.inr (0, 100)) := hA 7 _ rfl
  have q_k_8 : shp[k + 8]? = some (.inr (0, 100)) := hA 8 _ rfl
  have q_k_16 : shp[k + 16]? = some (.inl (1, fs1)) := hA 16 _ rfl
  refine lv_aload_n C.x C.b dX3_turnWay_0 rfl (lv_at hl 0 rfl) ?_
  refine g_ref (k' := k + 16) F_3_15 u1_176 C hP q_k_0 rfl dX3_turnWay_1 ?_
  refine lv_aload_n C.x C.b dX3_turnWay_4 rfl (lv_at hl 0 rfl) ?_
  refine g_ref (k' := k + 2) F_3_5 u1_159 C hP q_k_0 rfl dX3_turnWay_5 ?_
  obtain ⟨r2, e1, h⟩ := bnv_some h
  refine k_vi (k := k + 16) (as := [.ref (G.2.2 (k + 2))]) (rest := []) (c_X1_turnOf C.i (hA.sub (M := sLoop) 16 (by decide +kernel)) q_k_2 e1) M_X1_turnOf u3_89 C hP hS q_k_16 rfl rfl (by decide) hl.1 rfl (Nat.le_of_ble_eq_true rfl) dX3_turnWay_8 (fun H locs hP hS => ?_)
  refine lv_istore_n (lv' := [(2, .int r2), (0, .ref (G.2.2 k)), (1, .int x1)]) C.x C.b dX3_turnWay_11 rfl hl (by decide) rfl (fun ls hl => ?_)
  refine lv_aload_n C.x C.b dX3_turnWay_12 rfl (lv_at hl 1 rfl) ?_
  refine g_ref (k' := k + 16) F_3_15 u1_176 C hP q_k_0 rfl dX3_turnWay_13 ?_
  refine lv_aload_n C.x C.b dX3_turnWay_16 rfl (lv_at hl 1 rfl) ?_
  refine g_ref (k' := k + 2) F_3_5 u1_159 C hP q_k_0 rfl dX3_turnWay_17 ?_
  refine lv_iload_n C.x C.b dX3_turnWay_20 rfl (lv_at hl 0 rfl) ?_
  obtain ⟨r4, e3, h⟩ := bnv_some h
  refine k_vi (k := k + 16) (as := [.ref (G.2.2 (k + 2)), .int r2]) (rest := []) (c_X1_findLeaving C.i (hA.sub (M := sLoop) 16 (by decide +kernel)) q_k_2 e3) M_X1_findLeaving u3_99 C hP hS q_k_16 rfl rfl (by decide) hl.1 rfl (Nat.le_of_ble_eq_true rfl) dX3_turnWay_21 (fun H locs hP hS => ?_)
  refine lv_istore_n (lv' := [(3, .int r4), (2, .int r2), (0, .ref (G.2.2 k)), (1, .int x1)]) C.x C.b dX3_turnWay_24 rfl hl (by decide) rfl (fun ls hl => ?_)
  refine lv_aload_n C.x C.b dX3_turnWay_25 rfl (lv_at hl 2 rfl) ?_
  refine g_ref (k' := k + 16) F_3_15 u1_176 C hP q_k_0 rfl dX3_turnWay_26 ?_
  refine lv_aload_n C.x C.b dX3_turnWay_29 rfl (lv_at hl 2 rfl) ?_
  refine g_ref (k' := k + 2) F_3_5 u1_159 C hP q_k_0 rfl dX3_turnWay_30 ?_
  refine lv_iload_n C.x C.b dX3_turnWay_33 rfl (lv_at hl 1 rfl) ?_
  obtain ⟨μ6, e5, h⟩ := bnv_some h
  refine k_vv (k := k + 16) (as := [.ref (G.2.2 (k + 2)), .int r2]) (rest := []) (c_X1_turnLoads C.i (hA.sub (M := sLoop) 16 (by decide +kernel)) q_k_2 e5) M_X1_turnLoads u3_103 C hP hS q_k_16 rfl rfl (by decide) hl.1 rfl (Nat.le_of_ble_eq_true rfl) dX3_turnWay_34 (fun H locs hP hS => ?_)
  refine lv_aload_n C.x C.b dX3_turnWay_37 rfl (lv_at hl 2 rfl) ?_
  refine g_ref (k' := k + 3) F_3_6 u1_161 C hP q_k_0 rfl dX3_turnWay_38 ?_
  refine lv_iload_n C.x C.b dX3_turnWay_41 rfl (lv_at hl 3 rfl) ?_
  refine lv_iconst (v := 1) C.x C.b dX3_turnWay_42 (by decide) ?_
  obtain ⟨g7, h⟩ := grd_some h
  refine as_z C hP hS q_k_3 g7 (by decide) dX3_turnWay_43 (fun H locs hP hS => ?_)
  obtain ⟨μ8, m_μ8, h⟩ := lt_ex h
  have hP : Wm G μ8 H := by rw [m_μ8]; exact hP
  refine lv_aload_n C.x C.b dX3_turnWay_44 rfl (lv_at hl 2 rfl) ?_
  refine g_ref (k' := k + 3) F_3_6 u1_161 C hP q_k_0 rfl dX3_turnWay_45 ?_
  refine lv_iload_n C.x C.b dX3_turnWay_48 rfl (lv_at hl 0 rfl) ?_
  refine lv_iconst (v := 0) C.x C.b dX3_turnWay_49 (by decide) ?_
  obtain ⟨g9, h⟩ := grd_some h
  refine as_z C hP hS q_k_3 g9 (by decide) dX3_turnWay_50 (fun H locs hP hS => ?_)
  obtain ⟨μ10, m_μ10, h⟩ := lt_ex h
  have hP : Wm G μ10 H := by rw [m_μ10]; exact hP
  refine lv_aload_n C.x C.b dX3_turnWay_51 rfl (lv_at hl 2 rfl) ?_
  refine g_ref (k' := k + 6) F_3_9 u1_167 C hP q_k_0 rfl dX3_turnWay_52 ?_
  refine lv_aload_n C.x C.b dX3_turnWay_55 rfl (lv_at hl 2 rfl) ?_
  refine g_int F_3_3 u1_155 C hP q_k_0 dX3_turnWay_56 ?_
  refine lv_iload_n C.x C.b dX3_turnWay_59 rfl (lv_at hl 3 rfl) ?_
  obtain ⟨g11, h⟩ := grd_some h
  refine as_i C hP hS q_k_6 g11 dX3_turnWay_60 (fun H locs hP hS => ?_)
  obtain ⟨μ12, m_μ12, h⟩ := lt_ex h
  have hP : Wm G μ12 H := by rw [m_μ12]; exact hP
  refine lv_aload_n C.x C.b dX3_turnWay_61 rfl (lv_at hl 2 rfl) ?_
  refine g_ref (k' := k + 7) F_3_10 u1_169 C hP q_k_0 rfl dX3_turnWay_62 ?_
  refine lv_aload_n C.x C.b dX3_turnWay_65 rfl (lv_at hl 2 rfl) ?_
  refine g_int F_3_3 u1_155 C hP q_k_0 dX3_turnWay_66 ?_
  refine lv_iload_n C.x C.b dX3_turnWay_69 rfl (lv_at hl 0 rfl) ?_
  obtain ⟨g13, h⟩ := grd_some h
  refine as_i C hP hS q_k_7 g13 dX3_turnWay_70 (fun H locs hP hS => ?_)
  obtain ⟨μ14, m_μ14, h⟩ := lt_ex h
  have hP : Wm G μ14 H := by rw [m_μ14]; exact hP
  refine lv_aload_n C.x C.b dX3_turnWay_71 rfl (lv_at hl 2 rfl) ?_
  refine g_ref (k' := k + 8) F_3_11 u1_171 C hP q_k_0 rfl dX3_turnWay_72 ?_
  refine lv_aload_n C.x C.b dX3_turnWay_75 rfl (lv_at hl 2 rfl) ?_
  refine g_int F_3_3 u1_155 C hP q_k_0 dX3_turnWay_76 ?_
  refine lv_iload_n C.x C.b dX3_turnWay_79 rfl (lv_at hl 1 rfl) ?_
  obtain ⟨g15, h⟩ := grd_some h
  refine as_i C hP hS q_k_8 g15 dX3_turnWay_80 (fun H locs hP hS => ?_)
  obtain ⟨μ16, m_μ16, h⟩ := lt_ex h
  have hP : Wm G μ16 H := by rw [m_μ16]; exact hP
  refine lv_aload_n C.x C.b dX3_turnWay_81 rfl (lv_at hl 2 rfl) ?_
  refine lv_dup C.x C.b dX3_turnWay_82 rfl ?_
  refine g_int F_3_3 u1_155 C hP q_k_0 dX3_turnWay_83 ?_
  refine lv_iconst (v := 1) C.x C.b dX3_turnWay_86 (by decide) ?_
  refine lv_iadd C.x C.b dX3_turnWay_87 ?_
  refine p_int F_3_3 P_3_3 u1_155 C hP hS q_k_0 dX3_turnWay_88 (fun H locs hP hS => ?_)
  obtain ⟨μ17, m_μ17, h⟩ := lt_ex h
  have hP : Wm G μ17 H := by rw [m_μ17]; exact hP
  exact r_v h C hP hS dX3_turnWay_91

set_option maxRecDepth 100000 in
set_option maxHeartbeats 4000000 in
theorem c_X3_turnWay {l : Launch} {G : Gp} (hI : Wi G) {k : Nat} {x1 : Int32} (hA : At sPlan k) {μ : Mem} {μ' : Mem} (h : f_X3_turnWay k x1 μ = some μ') : CV l yX3_turnWay cX3_turnWay 4 none 2 44 G [.ref (G.2.2 k), .int x1] μ μ' :=
  e_all (lv := [(0, .ref (G.2.2 k)), (1, .int x1)]) hI (by decide) (Nat.le_of_ble_eq_true rfl) rfl (fun p e s m args below meth c ls C hP hS hl => b_X3_turnWay C hA h _ _ _ hP hS hl)

