def f_X9_image  (μ : Mem) : Option (Int32 × Mem) := lt (st μ 122 26 1) (fun μ1 => bnd (f_X9_passesAll 1 μ1) (fun r3 μ4 => some (r3, μ4)))
set_option maxRecDepth 100000 in
set_option maxHeartbeats 4000000 in
theorem b_X9_image {p : Program} {l : Launch} {e : Env} {s : State} {m : MethodId} {args : Array Value} {below : List Frame} {meth : Method} {c : Code} {G : Gp} {O : (Int32 × Mem)} (C : Cx p s m args meth c cX9_image 1 RX9 (some .int) G) {μ : Mem} (h : f_X9_image μ = some O) : ∀ (H : Heap) (locs : List Loc) (ls : Array Slot), Wm G μ H → va_S (wA G) s.heap H locs → lv_has ls 1 [(0, .ref (G.2.2 122))] → W p l e (rmm 3 65) s m args below meth c H locs 0 0 (QI below args s G O) (F0 m 0 ls []) := by
  unfold f_X9_image at h
  intro H locs ls hP hS hl
  refine lv_aload_n C.x C.b dX9_image_0 rfl (lv_at hl 0 rfl) ?_
  refine lv_iconst (v := 1) C.x C.b dX9_image_1 (by decide) ?_
  refine p_boo F_9_26 P_9_26 u4_155 (by decide) C hP hS sh_122 dX9_image_2 (fun H locs hP hS => ?_)
  obtain ⟨μ1, m_μ1, h⟩ := lt_ex h
  have hP : Wm G μ1 H := by rw [m_μ1]; exact hP
  refine lv_aload_n C.x C.b dX9_image_5 rfl (lv_at hl 0 rfl) ?_
  refine lv_iconst (v := 1) C.x C.b dX9_image_6 (by decide) ?_
  obtain ⟨r3, μ4, e2, h⟩ := bnd_some h
  refine k_vi (k := 122) (as := [.int 1]) (rest := []) (c_X9_passesAll C.i e2) M_X9_passesAll u5_47 C hP hS sh_122 rfl rfl (by decide) hl.1 rfl (Nat.le_of_ble_eq_true rfl) dX9_image_7 (fun H locs hP hS => ?_)
  exact r_i h C hP hS dX9_image_10

set_option maxRecDepth 100000 in
set_option maxHeartbeats 4000000 in
theorem c_X9_image {l : Launch} {G : Gp} (hI : Wi G) {μ : Mem} {r : Int32} {μ' : Mem} (h : f_X9_image μ = some (r, μ')) : CI l yX9_image cX9_image 1 (some .int) 3 65 G [.ref (G.2.2 122)] μ r μ' :=
  e_all (lv := [(0, .ref (G.2.2 122))]) hI (by decide) (Nat.le_of_ble_eq_true rfl) rfl (fun p e s m args below meth c ls C hP hS hl => b_X9_image C h _ _ _ hP hS hl)


def f_X9_undo  (μ : Mem) : Option (Int32 × Mem) := if (μ.1 122 26) = 0 then (some ((-3), μ)) else (bnd (f_X9_passesAll 0 μ) (fun r3 μ4 => some (r3, μ4)))
set_option maxRecDepth 100000 in
set_option maxHeartbeats 4000000 in
theorem b_X9_undo {p : Program} {l : Launch} {e : Env} {s : State} {m : MethodId} {args : Array Value} {below : List Frame} {meth : Method} {c : Code} {G : Gp} {O : (Int32 × Mem)} (C : Cx p s m args meth c cX9_undo 1 RX9 (some .int) G) {μ : Mem} (h : f_X9_undo μ = some O) : ∀ (H : Heap) (locs : List Loc) (ls : Array Slot), Wm G μ H → va_S (wA G) s.heap H locs → lv_has ls 1 [(0, .ref (G.2.2 122))] → W p l e (rmm 3 65) s m args below meth c H locs 0 0 (QI below args s G O) (F0 m 0 ls []) := by
  unfold f_X9_undo at h
  intro H locs ls hP hS hl
  refine lv_aload_n C.x C.b dX9_undo_0 rfl (lv_at hl 0 rfl) ?_
  refine g_int F_9_26 u4_155 C hP sh_122 dX9_undo_1 ?_
  refine lv_if_eq (tgt := 15) C.x C.b dX9_undo_4 (by decide) (fun c1 => ?_) (fun c1 => ?_)
  · have h := (if_pos c1).symm.trans h
    refine lv_bipush (v := (-3)) C.x C.b dX9_undo_15 (by decide) ?_
    exact r_i h C hP hS dX9_undo_17
  · have h := (if_neg c1).symm.trans h
    refine lv_aload_n C.x C.b dX9_undo_7 rfl (lv_at hl 0 rfl) ?_
    refine lv_iconst (v := 0) C.x C.b dX9_undo_8 (by decide) ?_
    obtain ⟨r3, μ4, e2, h⟩ := bnd_some h
    refine k_vi (k := 122) (as := [.int 0]) (rest := []) (c_X9_passesAll C.i e2) M_X9_passesAll u5_47 C hP hS sh_122 rfl rfl (by decide) hl.1 rfl (Nat.le_of_ble_eq_true rfl) dX9_undo_9 (fun H locs hP hS => ?_)
    refine lv_goto (tgt := 17) C.x C.b dX9_undo_12 (by decide) ?_
    exact r_i h C hP hS dX9_undo_17

set_option maxRecDepth 100000 in
set_option maxHeartbeats 4000000 in
theorem c_X9_undo {l : Launch} {G : Gp} (hI : Wi G) {μ : Mem} {r : Int32} {μ' : Mem} (h : f_X9_undo μ = some (r, μ')) : CI l yX9_undo cX9_undo 1 (some .int) 3 65 G [.ref (G.2.2 122)] μ r μ' :=
  e_all (lv := [(0, .ref (G.2.2 122))]) hI (by decide) (Nat.le_of_ble_eq_true rfl) rfl (fun p e s m args below meth c ls C hP hS hl => b_X9_undo C h _ _ _ hP hS hl)


def g_X9_lays_2 (a1 : Nat) (n1 : Nat)  (q2 : Int32 → Mem → Option Mem) (x2 : Int32) (μ : Mem) : Option Mem := if (nI n1) ≤ x2 then (some μ) else (grd (inb x2 n1) (grd (inb (μ.1 122 30) 411) (lt (st μ 139 (μ.1 122 30).toNatClampNeg (μ.1 a1 x2.toNatClampNeg)) (fun μ4 => lt (st μ4 122 30 ((μ4.1 122 30) + 1)) (fun μ5 => lt (x2 + 1) (fun y6 => q2 y6 μ5))))))
def f_X9_lays_2 (a1 : Nat) (n1 : Nat)  : Nat → Int32 → Mem → Option Mem
  | 0, _, _ => none
  | n + 1, x2, μ => g_X9_lays_2 a1 n1 (f_X9_lays_2 a1 n1 n) x2 μ
set_option maxRecDepth 100000 in
set_option maxHeartbeats 4000000 in
theorem w_X9_lays_2 {p : Program} {l : Launch} {e : Env} {s : State} {m : MethodId} {args : Array Value} {below : List Frame} {meth : Method} {c : Code} {G : Gp} {O : Mem} (C : Cx p s m args meth c cX9_lays 3 RX9 none G) {a1 : Nat} {n1 : Nat} (hs1 : shp[a1]? = some (.inr (0, n1))) {q2 : Int32 → Mem → Option Mem} (hq2 : ∀ (x2 : Int32) (μ : Mem), q2 x2 μ = some O → ∀ (H : Heap) (locs : List Loc) (ls : Array Slot), Wm G μ H → va_S (wA G) s.heap H locs → lv_has ls 3 [(0, .ref (G.2.2 122)), (1, .ref (G.2.2 a1)), (2, .int x2)] → W p l e (rmm 0 0) s m args below meth c H locs 0 0 (QV below args s G O) (F0 m 2 ls [])) : ∀ (x2 : Int32) (μ : Mem), g_X9_lays_2 a1 n1 q2 x2 μ = some O → ∀ (H : Heap) (locs : List Loc) (ls : Array Slot), Wm G μ H → va_S (wA G) s.heap H locs → lv_has ls 3 [(0, .ref (G.2.2 122)), (1, .ref (G.2.2 a1)), (2, .int x2)] → W p l e (rmm 0 0) s m args below meth c H locs 0 0 (QV below args s G O) (F0 m 2 ls []) := by
  intro x2 μ h H locs ls hP hS hl
  unfold g_X9_lays_2 at h
  refine lv_iload_n C.x C.b dX9_lays_2 rfl (lv_at hl 2 rfl) ?_
  refine lv_aload_n C.x C.b dX9_lays_3 rfl (lv_at hl 1 rfl) ?_
  refine a_n (v := nI n1) C hP hs1 (by decide) (by first | rfl | decide) dX9_lays_4 ?_
  refine lv_icmp_ge (tgt := 36) C.x C.b dX9_lays_5 (by decide) (fun c1 => ?_) (fun c1 => ?_)
  · have h := (if_pos c1).symm.trans h
    exact r_v h C hP hS dX9_lays_36
  · have h := (if_neg c1).symm.trans h
    refine lv_aload_n C.x C.b dX9_lays_8 rfl (lv_at hl 0 rfl) ?_
    refine g_ref (k' := 139) F_9_29 u4_158 C hP sh_122 rfl dX9_lays_9 ?_
    refine lv_aload_n C.x C.b dX9_lays_12 rfl (lv_at hl 0 rfl) ?_
    refine g_int F_9_30 u4_159 C hP sh_122 dX9_lays_13 ?_
    refine lv_aload_n C.x C.b dX9_lays_16 rfl (lv_at hl 1 rfl) ?_
    refine lv_iload_n C.x C.b dX9_lays_17 rfl (lv_at hl 2 rfl) ?_
    obtain ⟨g2, h⟩ := grd_some h
    refine a_i C hP hs1 g2 dX9_lays_18 ?_
    obtain ⟨g3, h⟩ := grd_some h
    refine as_i C hP hS sh_139 g3 dX9_lays_19 (fun H locs hP hS => ?_)
    obtain ⟨μ4, m_μ4, h⟩ := lt_ex h
    have hP : Wm G μ4 H := by rw [m_μ4]; exact hP
    refine lv_aload_n C.x C.b dX9_lays_20 rfl (lv_at hl 0 rfl) ?_
    refine lv_dup C.x C.b dX9_lays_21 rfl ?_
    refine g_int F_9_30 u4_159 C hP sh_122 dX9_lays_22 ?_
    refine lv_iconst (v := 1) C.x C.b dX9_lays_25 (by decide) ?_
    refine lv_iadd C.x C.b dX9_lays_26 ?_
    refine p_int F_9_30 P_9_30 u4_159 C hP hS sh_122 dX9_lays_27 (fun H locs hP hS => ?_)
    obtain ⟨μ5, m_μ5, h⟩ := lt_ex h
    have hP : Wm G μ5 H := by rw [m_μ5]; exact hP
    obtain ⟨y6, e_y6, h⟩ := lt_ex h
    refine lv_iinc (v := y6) (lv' := [(2, .int y6), (0, .ref (G.2.2 122)), (1, .ref (G.2.2 a1))]) C.x C.b dX9_lays_30 hl (k := 2) rfl (by rw [e_y6]; rfl) (by decide) rfl (fun ls hl => ?_)
    refine lv_goto (tgt := 2) C.x C.b dX9_lays_33 (by decide) ?_
    exact hq2 y6 μ5 h _ _ _ hP hS (lv_sub hl [1, 2, 0] rfl)

set_option maxRecDepth 100000 in
set_option maxHeartbeats 4000000 in
theorem b_X9_lays_2 {p : Program} {l : Launch} {e : Env} {s : State} {m : MethodId} {args : Array Value} {below : List Frame} {meth : Method} {c : Code} {G : Gp} {O : Mem} (C : Cx p s m args meth c cX9_lays 3 RX9 none G) {a1 : Nat} {n1 : Nat} (hs1 : shp[a1]? = some (.inr (0, n1))) : ∀ (n : Nat) (x2 : Int32) (μ : Mem), f_X9_lays_2 a1 n1 n x2 μ = some O → ∀ (H : Heap) (locs : List Loc) (ls : Array Slot), Wm G μ H → va_S (wA G) s.heap H locs → lv_has ls 3 [(0, .ref (G.2.2 122)), (1, .ref (G.2.2 a1)), (2, .int x2)] → W p l e (rmm 0 0) s m args below meth c H locs 0 0 (QV below args s G O) (F0 m 2 ls []) := by
  intro n
  induction n with
  | zero => intro x2 μ h; cases h
  | succ n ih => intro x2 μ h; exact w_X9_lays_2 C hs1 (q2 := f_X9_lays_2 a1 n1 n) ih x2 μ h

def f_X9_lays (a1 : Nat) (n1 : Nat) (μ : Mem) : Option Mem := f_X9_lays_2 a1 n1 FU 0 μ
set_option maxRecDepth 100000 in
set_option maxHeartbeats 4000000 in
theorem b_X9_lays {p : Program} {l : Launch} {e : Env} {s : State} {m : MethodId} {args : Array Value} {below : List Frame} {meth : Method} {c : Code} {G : Gp} {O : Mem} (C : Cx p s m args meth c cX9_lays 3 RX9 none G) {a1 : Nat} {n1 : Nat} (hs1 : shp[a1]? = some (.inr (0, n1))) {μ : Mem} (h : f_X9_lays a1 n1 μ = some O) : ∀ (H : Heap) (locs : List Loc) (ls : Array Slot), Wm G μ H → va_S (wA G) s.heap H locs → lv_has ls 3 [(0, .ref (G.2.2 122)), (1, .ref (G.2.2 a1))] → W p l e (rmm 0 0) s m args below meth c H locs 0 0 (QV below args s G O) (F0 m 0 ls []) := by
  unfold f_X9_lays at h
  intro H locs ls hP hS hl
  refine lv_iconst (v := 0) C.x C.b dX9_lays_0 (by decide) ?_
  refine lv_istore_n (lv' := [(2, .int 0), (0, .ref (G.2.2 122)), (1, .ref (G.2.2 a1))]) C.x C.b dX9_lays_1 rfl hl (by decide) rfl (fun ls hl => ?_)
  exact b_X9_lays_2 C hs1 FU 0 μ h _ _ _ hP hS (lv_sub hl [1, 2, 0] rfl)

set_option maxRecDepth 100000 in
set_option maxHeartbeats 4000000 in
theorem c_X9_lays {l : Launch} {G : Gp} (hI : Wi G) {a1 : Nat} {n1 : Nat} (hs1 : shp[a1]? = some (.inr (0, n1))) {μ : Mem} {μ' : Mem} (h : f_X9_lays a1 n1 μ = some μ') : CV l yX9_lays cX9_lays 3 none 0 0 G [.ref (G.2.2 122), .ref (G.2.2 a1)] μ μ' :=
  e_all (lv := [(0, .ref (G.2.2 122)), (1, .ref (G.2.2 a1))]) hI (by decide) (Nat.le_of_ble_eq_true rfl) rfl (fun p e s m args below meth c ls C hP hS hl => b_X9_lays C hs1 h _ _ _ hP hS hl)


def g_X9_takesBack_2 (a1 : Nat) (n1 : Nat)  (q2 : Int32 → Mem → Option Mem) (x2 : Int32) (μ : Mem) : Option Mem := if (nI n1) ≤ x2 then (some μ) else (grd (inb (μ.1 122 30) 411) (grd (inb x2 n1) (lt (st μ a1 x2.toNatClampNeg (μ.1 139 (μ.1 122 30).toNatClampNeg)) (fun μ4 => lt (st μ4 122 30 ((μ4.1 122 30) + 1)) (fun μ5 => lt (x2 + 1) (fun y6 => q2 y6 μ5))))))
def f_X9_takesBack_2 (a1 : Nat) (n1 : Nat)  : Nat → Int32 → Mem → Option Mem
  | 0, _, _ => none
  | n + 1, x2, μ => g_X9_takesBack_2 a1 n1 (f_X9_takesBack_2 a1 n1 n) x2 μ
set_option maxRecDepth 100000 in
set_option maxHeartbeats 4000000 in
theorem w_X9_takesBack_2 {p : Program} {l : Launch} {e : Env} {s : State} {m : MethodId} {args : Array Value} {below : List Frame} {meth : Method} {c : Code} {G : Gp} {O : Mem} (C : Cx p s m args meth c cX9_takesBack 3 RX9 none G) {a1 : Nat} {n1 : Nat} (hs1 : shp[a1]? = some (.inr (0, n1))) {q2 : Int32 → Mem → Option Mem} (hq2 : ∀ (x2 : Int32) (μ : Mem), q2 x2 μ = some O → ∀ (H : Heap) (locs : List Loc) (ls : Array Slot), Wm G μ H → va_S (wA G) s.heap H locs → lv_has ls 3 [(0, .ref (G.2.2 122)), (1, .ref (G.2.2 a1)), (2, .int x2)] → W p l e (rmm 0 0) s m args below meth c H locs 0 0 (QV below args s G O) (F0 m 2 ls [])) : ∀ (x2 : Int32) (μ : Mem), g_X9_takesBack_2 a1 n1 q2 x2 μ = some O → ∀ (H : Heap) (locs : List Loc) (ls : Array Slot), Wm G μ H → va_S (wA G) s.heap H locs → lv_has ls 3 [(0, .ref (G.2.2 122)), (1, .ref (G.2.2 a1)), (2, .int x2)] → W p l e (rmm 0 0) s m args below meth c H locs 0 0 (QV below args s G O) (F0 m 2 ls []) := by
  intro x2 μ h H locs ls hP hS hl
  unfold g_X9_takesBack_2 at h
  refine lv_iload_n C.x C.b dX9_takesBack_2 rfl (lv_at hl 2 rfl) ?_
  refine lv_aload_n C.x C.b dX9_takesBack_3 rfl (lv_at hl 1 rfl) ?_
  refine a_n (v := nI n1) C hP hs1 (by decide) (by first | rfl | decide) dX9_takesBack_4 ?_
  refine lv_icmp_ge (tgt := 36) C.x C.b dX9_takesBack_5 (by decide) (fun c1 => ?_) (fun c1 => ?_)
  · have h := (if_pos c1).symm.trans h
    exact r_v h C hP hS dX9_takesBack_36
  · have h := (if_neg c1).symm.trans h
    refine lv_aload_n C.x C.b dX9_takesBack_8 rfl (lv_at hl 1 rfl) ?_
    refine lv_iload_n C.x C.b dX9_takesBack_9 rfl (lv_at hl 2 rfl) ?_
    refine lv_aload_n C.x C.b dX9_takesBack_10 rfl (lv_at hl 0 rfl) ?_
    refine g_ref (k' := 139) F_9_29 u4_158 C hP sh_122 rfl dX9_takesBack_11 ?_
    refine lv_aload_n C.x C.b dX9_takesBack_14 rfl (lv_at hl 0 rfl) ?_
    refine g_int F_9_30 u4_159 C hP sh_122 dX9_takesBack_15 ?_
    obtain ⟨g2, h⟩ := grd_some h
    refine a_i C hP sh_139 g2 dX9_takesBack_18 ?_
    obtain ⟨g3, h⟩ := grd_some h
    refine as_i C hP hS hs1 g3 dX9_takesBack_19 (fun H locs hP hS => ?_)
    obtain ⟨μ4, m_μ4, h⟩ := lt_ex h
    have hP : Wm G μ4 H := by rw [m_μ4]; exact hP
    refine lv_aload_n C.x C.b dX9_takesBack_20 rfl (lv_at hl 0 rfl) ?_
    refine lv_dup C.x C.b dX9_takesBack_21 rfl ?_
    refine g_int F_9_30 u4_159 C hP sh_122 dX9_takesBack_22 ?_
    refine lv_iconst (v := 1) C.x C.b dX9_takesBack_25 (by decide) ?_
    refine lv_iadd C.x C.b dX9_takesBack_26 ?_
    refine p_int F_9_30 P_9_30 u4_159 C hP hS sh_122 dX9_takesBack_27 (fun H locs hP hS => ?_)
    obtain ⟨μ5, m_μ5, h⟩ := lt_ex h
    have hP : Wm G μ5 H := by rw [m_μ5]; exact hP
    obtain ⟨y6, e_y6, h⟩ := lt_ex h
    refine lv_iinc (v := y6) (lv' := [(2, .int y6), (0, .ref (G.2.2 122)), (1, .ref (G.2.2 a1))]) C.x C.b dX9_takesBack_30 hl (k := 2) rfl (by rw [e_y6]; rfl) (by decide) rfl (fun ls hl => ?_)
    refine lv_goto (tgt := 2) C.x C.b dX9_takesBack_33 (by decide) ?_
    exact hq2 y6 μ5 h _ _ _ hP hS (lv_sub hl [1, 2, 0] rfl)

set_option maxRecDepth 100000 in
set_option maxHeartbeats 4000000 in
theorem b_X9_takesBack_2 {p : Program} {l : Launch} {e : Env} {s : State} {m : MethodId} {args : Array Value} {below : List Frame} {meth : Method} {c : Code} {G : Gp} {O : Mem} (C : Cx p s m args meth c cX9_takesBack 3 RX9 none G) {a1 : Nat} {n1 : Nat} (hs1 : shp[a1]? = some (.inr (0, n1))) : ∀ (n : Nat) (x2 : Int32) (μ : Mem), f_X9_takesBack_2 a1 n1 n x2 μ = some O → ∀ (H : Heap) (locs : List Loc) (ls : Array Slot), Wm G μ H → va_S (wA G) s.heap H locs → lv_has ls 3 [(0, .ref (G.2.2 122)), (1, .ref (G.2.2 a1)), (2, .int x2)] → W p l e (rmm 0 0) s m args below meth c H locs 0 0 (QV below args s G O) (F0 m 2 ls []) := by
  intro n
  induction n with
  | zero => intro x2 μ h; cases h
  | succ n ih => intro x2 μ h; exact w_X9_takesBack_2 C hs1 (q2 := f_X9_takesBack_2 a1 n1 n) ih x2 μ h

def f_X9_takesBack (a1 : Nat) (n1 : Nat) (μ : Mem) : Option Mem := f_X9_takesBack_2 a1 n1 FU 0 μ
set_option maxRecDepth 100000 in
set_option maxHeartbeats 4000000 in
theorem b_X9_takesBack {p : Program} {l : Launch} {e : Env} {s : State} {m : MethodId} {args : Array Value} {below : List Frame} {meth : Method} {c : Code} {G : Gp} {O : Mem} (C : Cx p s m args meth c cX9_takesBack 3 RX9 none G) {a1 : Nat} {n1 : Nat} (hs1 : shp[a1]? = some (.inr (0, n1))) {μ : Mem} (h : f_X9_takesBack a1 n1 μ = some O) : ∀ (H : Heap) (locs : List Loc) (ls : Array Slot), Wm G μ H → va_S (wA G) s.heap H locs → lv_has ls 3 [(0, .ref (G.2.2 122)), (1, .ref (G.2.2 a1))] → W p l e (rmm 0 0) s m args below meth c H locs 0 0 (QV below args s G O) (F0 m 0 ls []) := by
  unfold f_X9_takesBack at h
  intro H locs ls hP hS hl
  refine lv_iconst (v := 0) C.x C.b dX9_takesBack_0 (by decide) ?_
  refine lv_istore_n (lv' := [(2, .int 0), (0, .ref (G.2.2 122)), (1, .ref (G.2.2 a1))]) C.x C.b dX9_takesBack_1 rfl hl (by decide) rfl (fun ls hl => ?_)
  exact b_X9_takesBack_2 C hs1 FU 0 μ h _ _ _ hP hS (lv_sub hl [1, 2, 0] rfl)

set_option maxRecDepth 100000 in
set_option maxHeartbeats 4000000 in
theorem c_X9_takesBack {l : Launch} {G : Gp} (hI : Wi G) {a1 : Nat} {n1 : Nat} (hs1 : shp[a1]? = some (.inr (0, n1))) {μ : Mem} {μ' : Mem} (h : f_X9_takesBack a1 n1 μ = some μ') : CV l yX9_takesBack cX9_takesBack 3 none 0 0 G [.ref (G.2.2 122), .ref (G.2.2 a1)] μ μ' :=
  e_all (lv := [(0, .ref (G.2.2 122)), (1, .ref (G.2.2 a1))]) hI (by decide) (Nat.le_of_ble_eq_true rfl) rfl (fun p e s m args below meth c ls C hP hS hl => b_X9_takesBack C hs1 h _ _ _ hP hS hl)


def f_X9_minds  (μ : Mem) : Option Mem := grd (inb 0 411) (lt (st μ 139 (0 : Int32).toNatClampNeg (μ.1 122 7)) (fun μ2 => grd (inb 1 411) (lt (st μ2 139 (1 : Int32).toNatClampNeg (μ2.1 122 8)) (fun μ4 => grd (inb 2 411) (lt (st μ4 139 (2 : Int32).toNatClampNeg (μ4.1 122 9)) (fun μ6 => lt (st μ6 122 30 3) (fun μ7 => bnv (f_X9_lays 127 36 μ7) (fun μ9 => bnv (f_X9_lays 128 36 μ9) (fun μ11 => bnv (f_X9_lays 129 36 μ11) (fun μ13 => bnv (f_X9_lays 130 300 μ13) (fun μ15 => some μ15)))))))))))
set_option maxRecDepth 100000 in
set_option maxHeartbeats 4000000 in
theorem b_X9_minds {p : Program} {l : Launch} {e : Env} {s : State} {m : MethodId} {args : Array Value} {below : List Frame} {meth : Method} {c : Code} {G : Gp} {O : Mem} (C : Cx p s m args meth c cX9_minds 1 RX9 none G) {μ : Mem} (h : f_X9_minds μ = some O) : ∀ (H : Heap) (locs : List Loc) (ls : Array Slot), Wm G μ H → va_S (wA G) s.heap H locs → lv_has ls 1 [(0, .ref (G.2.2 122))] → W p l e (rmm 1 22) s m args below meth c H locs 0 0 (QV below args s G O) (F0 m 0 ls []) := by
  unfold f_X9_minds at h
  intro H locs ls hP hS hl
  refine lv_aload_n C.x C.b dX9_minds_0 rfl (lv_at hl 0 rfl) ?_
  refine g_ref (k' := 139) F_9_29 u4_158 C hP sh_122 rfl dX9_minds_1 ?_
  refine lv_iconst (v := 0) C.x C.b dX9_minds_4 (by decide) ?_
  refine lv_aload_n C.x C.b dX9_minds_5 rfl (lv_at hl 0 rfl) ?_
  refine g_int F_9_7 u4_136 C hP sh_122 dX9_minds_6 ?_
  obtain ⟨g1, h⟩ := grd_some h
  refine as_i C hP hS sh_139 g1 dX9_minds_9 (fun H locs hP hS => ?_)
  obtain ⟨μ2, m_μ2, h⟩ := lt_ex h
  have hP : Wm G μ2 H := by rw [m_μ2]; exact hP
  refine lv_aload_n C.x C.b dX9_minds_10 rfl (lv_at hl 0 rfl) ?_
  refine g_ref (k' := 139) F_9_29 u4_158 C hP sh_122 rfl dX9_minds_11 ?_
  refine lv_iconst (v := 1) C.x C.b dX9_minds_14 (by decide) ?_
  refine lv_aload_n C.x C.b dX9_minds_15 rfl (lv_at hl 0 rfl) ?_
  refine g_int F_9_8 u4_137 C hP sh_122 dX9_minds_16 ?_
  obtain ⟨g3, h⟩ := grd_some h
  refine as_i C hP hS sh_139 g3 dX9_minds_19 (fun H locs hP hS => ?_)
  obtain ⟨μ4, m_μ4, h⟩ := lt_ex h
  have hP : Wm G μ4 H := by rw [m_μ4]; exact hP
  refine lv_aload_n C.x C.b dX9_minds_20 rfl (lv_at hl 0 rfl) ?_
  refine g_ref (k' := 139) F_9_29 u4_158 C hP sh_122 rfl dX9_minds_21 ?_
  refine lv_iconst (v := 2) C.x C.b dX9_minds_24 (by decide) ?_
  refine lv_aload_n C.x C.b dX9_minds_25 rfl (lv_at hl 0 rfl) ?_
  refine g_int F_9_9 u4_138 C hP sh_122 dX9_minds_26 ?_
  obtain ⟨g5, h⟩ := grd_some h
  refine as_i C hP hS sh_139 g5 dX9_minds_29 (fun H locs hP hS => ?_)
  obtain ⟨μ6, m_μ6, h⟩ := lt_ex h
  have hP : Wm G μ6 H := by rw [m_μ6]; exact hP
  refine lv_aload_n C.x C.b dX9_minds_30 rfl (lv_at hl 0 rfl) ?_
  refine lv_iconst (v := 3) C.x C.b dX9_minds_31 (by decide) ?_
  refine p_int F_9_30 P_9_30 u4_159 C hP hS sh_122 dX9_minds_32 (fun H locs hP hS => ?_)
  obtain ⟨μ7, m_μ7, h⟩ := lt_ex h
  have hP : Wm G μ7 H := by rw [m_μ7]; exact hP
  refine lv_aload_n C.x C.b dX9_minds_35 rfl (lv_at hl 0 rfl) ?_
  refine lv_aload_n C.x C.b dX9_minds_36 rfl (lv_at hl 0 rfl) ?_
  refine g_ref (k' := 127) F_9_10 u4_139 C hP sh_122 rfl dX9_minds_37 ?_
  obtain ⟨μ9, e8, h⟩ := bnv_some h
  refine k_vv (k := 122) (as := [.ref (G.2.2 127)]) (rest := []) (c_X9_lays C.i sh_127 e8) M_X9_lays u6_54 C hP hS sh_122 rfl rfl (by decide) hl.1 rfl (Nat.le_of_ble_eq_true rfl) dX9_minds_40 (fun H locs hP hS => ?_)
  refine lv_aload_n C.x C.b dX9_minds_43 rfl (lv_at hl 0 rfl) ?_
  refine lv_aload_n C.x C.b dX9_minds_44 rfl (lv_at hl 0 rfl) ?_
  refine g_ref (k' := 128) F_9_11 u4_140 C hP sh_122 rfl dX9_minds_45 ?_
  obtain ⟨μ11, e10, h⟩ := bnv_some h
  refine k_vv (k := 122) (as := [.ref (G.2.2 128)]) (rest := []) (c_X9_lays C.i sh_128 e10) M_X9_lays u6_54 C hP hS sh_122 rfl rfl (by decide) hl.1 rfl (Nat.le_of_ble_eq_true rfl) dX9_minds_48 (fun H locs hP hS => ?_)
  refine lv_aload_n C.x C.b dX9_minds_51 rfl (lv_at hl 0 rfl) ?_
  refine lv_aload_n C.x C.b dX9_minds_52 rfl (lv_at hl 0 rfl) ?_
  refine g_ref (k' := 129) F_9_12 u4_141 C hP sh_122 rfl dX9_minds_53 ?_
  obtain ⟨μ13, e12, h⟩ := bnv_some h
  refine k_vv (k := 122) (as := [.ref (G.2.2 129)]) (rest := []) (c_X9_lays C.i sh_129 e12) M_X9_lays u6_54 C hP hS sh_122 rfl rfl (by decide) hl.1 rfl (Nat.le_of_ble_eq_true rfl) dX9_minds_56 (fun H locs hP hS => ?_)
  refine lv_aload_n C.x C.b dX9_minds_59 rfl (lv_at hl 0 rfl) ?_
  refine lv_aload_n C.x C.b dX9_minds_60 rfl (lv_at hl 0 rfl) ?_
  refine g_ref (k' := 130) F_9_13 u4_142 C hP sh_122 rfl dX9_minds_61 ?_
  obtain ⟨μ15, e14, h⟩ := bnv_some h
  refine k_vv (k := 122) (as := [.ref (G.2.2 130)]) (rest := []) (c_X9_lays C.i sh_130 e14) M_X9_lays u6_54 C hP hS sh_122 rfl rfl (by decide) hl.1 rfl (Nat.le_of_ble_eq_true rfl) dX9_minds_64 (fun H locs hP hS => ?_)
  exact r_v h C hP hS dX9_minds_67

set_option maxRecDepth 100000 in
set_option maxHeartbeats 4000000 in
theorem c_X9_minds {l : Launch} {G : Gp} (hI : Wi G) {μ : Mem} {μ' : Mem} (h : f_X9_minds μ = some μ') : CV l yX9_minds cX9_minds 1 none 1 22 G [.ref (G.2.2 122)] μ μ' :=
  e_all (lv := [(0, .ref (G.2.2 122))]) hI (by decide) (Nat.le_of_ble_eq_true rfl) rfl (fun p e s m args below meth c ls C hP hS hl => b_X9_minds C h _ _ _ hP hS hl)


def f_X9_forgets  (μ : Mem) : Option Mem := grd (inb 0 411) (lt (st μ 122 7 (μ.1 139 (0 : Int32).toNatClampNeg)) (fun μ2 => grd (inb 1 411) (lt (st μ2 122 8 (μ2.1 139 (1 : Int32).toNatClampNeg)) (fun μ4 => grd (inb 2 411) (lt (st μ4 122 9 (μ4.1 139 (2 : Int32).toNatClampNeg)) (fun μ6 => lt (st μ6 122 30 3) (fun μ7 => bnv (f_X9_takesBack 127 36 μ7) (fun μ9 => bnv (f_X9_takesBack 128 36 μ9) (fun μ11 => bnv (f_X9_takesBack 129 36 μ11) (fun μ13 => bnv (f_X9_takesBack 130 300 μ13) (fun μ15 => some μ15)))))))))))
set_option maxRecDepth 100000 in
set_option maxHeartbeats 4000000 in
theorem b_X9_forgets {p : Program} {l : Launch} {e : Env} {s : State} {m : MethodId} {args : Array Value} {below : List Frame} {meth : Method} {c : Code} {G : Gp} {O : Mem} (C : Cx p s m args meth c cX9_forgets 1 RX9 none G) {μ : Mem} (h : f_X9_forgets μ = some O) : ∀ (H : Heap) (locs : List Loc) (ls : Array Slot), Wm G μ H → va_S (wA G) s.heap H locs → lv_has ls 1 [(0, .ref (G.2.2 122))] → W p l e (rmm 1 22) s m args below meth c H locs 0 0 (QV below args s G O) (F0 m 0 ls []) := by
  unfold f_X9_forgets at h
  intro H locs ls hP hS hl
  refine lv_aload_n C.x C.b dX9_forgets_0 rfl (lv_at hl 0 rfl) ?_
  refine lv_aload_n C.x C.b dX9_forgets_1 rfl (lv_at hl 0 rfl) ?_
  refine g_ref (k' := 139) F_9_29 u4_158 C hP sh_122 rfl dX9_forgets_2 ?_
  refine lv_iconst (v := 0) C.x C.b dX9_forgets_5 (by decide) ?_
  obtain ⟨g1, h⟩ := grd_some h
  refine a_i C hP sh_139 g1 dX9_forgets_6 ?_
  refine p_int F_9_7 P_9_7 u4_136 C hP hS sh_122 dX9_forgets_7 (fun H locs hP hS => ?_)
  obtain ⟨μ2, m_μ2, h⟩ := lt_ex h
  have hP : Wm G μ2 H := by rw [m_μ2]; exact hP
  refine lv_aload_n C.x C.b dX9_forgets_10 rfl (lv_at hl 0 rfl) ?_
  refine lv_aload_n C.x C.b dX9_forgets_11 rfl (lv_at hl 0 rfl) ?_
  refine g_ref (k' := 139) F_9_29 u4_158 C hP sh_122 rfl dX9_forgets_12 ?_
  refine lv_iconst (v := 1) C.x C.b dX9_forgets_15 (by decide) ?_
  obtain ⟨g3, h⟩ := grd_some h
  refine a_i C hP sh_139 g3 dX9_forgets_16 ?_
  refine p_int F_9_8 P_9_8 u4_137 C hP hS sh_122 dX9_forgets_17 (fun H locs hP hS => ?_)
  obtain ⟨μ4, m_μ4, h⟩ := lt_ex h
  have hP : Wm G μ4 H := by rw [m_μ4]; exact hP
  refine lv_aload_n C.x C.b dX9_forgets_20 rfl (lv_at hl 0 rfl) ?_
  refine lv_aload_n C.x C.b dX9_forgets_21 rfl (lv_at hl 0 rfl) ?_
  refine g_ref (k' := 139) F_9_29 u4_158 C hP sh_122 rfl dX9_forgets_22 ?_
  refine lv_iconst (v := 2) C.x C.b dX9_forgets_25 (by decide) ?_
  obtain ⟨g5, h⟩ := grd_some h
  refine a_i C hP sh_139 g5 dX9_forgets_26 ?_
  refine p_int F_9_9 P_9_9 u4_138 C hP hS sh_122 dX9_forgets_27 (fun H locs hP hS => ?_)
  obtain ⟨μ6, m_μ6, h⟩ := lt_ex h
  have hP : Wm G μ6 H := by rw [m_μ6]; exact hP
  refine lv_aload_n C.x C.b dX9_forgets_30 rfl (lv_at hl 0 rfl) ?_
  refine lv_iconst (v := 3) C.x C.b dX9_forgets_31 (by decide) ?_
  refine p_int F_9_30 P_9_30 u4_159 C hP hS sh_122 dX9_forgets_32 (fun H locs hP hS => ?_)
  obtain ⟨μ7, m_μ7, h⟩ := lt_ex h
  have hP : Wm G μ7 H := by rw [m_μ7]; exact hP
  refine lv_aload_n C.x C.b dX9_forgets_35 rfl (lv_at hl 0 rfl) ?_
  refine lv_aload_n C.x C.b dX9_forgets_36 rfl (lv_at hl 0 rfl) ?_
  refine g_ref (k' := 127) F_9_10 u4_139 C hP sh_122 rfl dX9_forgets_37 ?_
  obtain ⟨μ9, e8, h⟩ := bnv_some h
  refine k_vv (k := 122) (as := [.ref (G.2.2 127)]) (rest := []) (c_X9_takesBack C.i sh_127 e8) M_X9_takesBack u6_66 C hP hS sh_122 rfl rfl (by decide) hl.1 rfl (Nat.le_of_ble_eq_true rfl) dX9_forgets_40 (fun H locs hP hS => ?_)
  refine lv_aload_n C.x C.b dX9_forgets_43 rfl (lv_at hl 0 rfl) ?_
  refine lv_aload_n C.x C.b dX9_forgets_44 rfl (lv_at hl 0 rfl) ?_
  refine g_ref (k' := 128) F_9_11 u4_140 C hP sh_122 rfl dX9_forgets_45 ?_
  obtain ⟨μ11, e10, h⟩ := bnv_some h
  refine k_vv (k := 122) (as := [.ref (G.2.2 128)]) (rest := []) (c_X9_takesBack C.i sh_128 e10) M_X9_takesBack u6_66 C hP hS sh_122 rfl rfl (by decide) hl.1 rfl (Nat.le_of_ble_eq_true rfl) dX9_forgets_48 (fun H locs hP hS => ?_)
  refine lv_aload_n C.x C.b dX9_forgets_51 rfl (lv_at hl 0 rfl) ?_
  refine lv_aload_n C.x C.b dX9_forgets_52 rfl (lv_at hl 0 rfl) ?_
  refine g_ref (k' := 129) F_9_12 u4_141 C hP sh_122 rfl dX9_forgets_53 ?_
  obtain ⟨μ13, e12, h⟩ := bnv_some h
  refine k_vv (k := 122) (as := [.ref (G.2.2 129)]) (rest := []) (c_X9_takesBack C.i sh_129 e12) M_X9_takesBack u6_66 C hP hS sh_122 rfl rfl (by decide) hl.1 rfl (Nat.le_of_ble_eq_true rfl) dX9_forgets_56 (fun H locs hP hS => ?_)
  refine lv_aload_n C.x C.b dX9_forgets_59 rfl (lv_at hl 0 rfl) ?_
  refine lv_aload_n C.x C.b dX9_forgets_60 rfl (lv_at hl 0 rfl) ?_
  refine g_ref (k' := 130) F_9_13 u4_142 C hP sh_122 rfl dX9_forgets_61 ?_
  obtain ⟨μ15, e14, h⟩ := bnv_some h
  refine k_vv (k := 122) (as := [.ref (G.2.2 130)]) (rest := []) (c_X9_takesBack C.i sh_130 e14) M_X9_takesBack u6_66 C hP hS sh_122 rfl rfl (by decide) hl.1 rfl (Nat.le_of_ble_eq_true rfl) dX9_forgets_64 (fun H locs hP hS => ?_)
  exact r_v h C hP hS dX9_forgets_67

set_option maxRecDepth 100000 in
set_option maxHeartbeats 4000000 in
theorem c_X9_forgets {l : Launch} {G : Gp} (hI : Wi G) {μ : Mem} {μ' : Mem} (h : f_X9_forgets μ = some μ') : CV l yX9_forgets cX9_forgets 1 none 1 22 G [.ref (G.2.2 122)] μ μ' :=
  e_all (lv := [(0, .ref (G.2.2 122))]) hI (by decide) (Nat.le_of_ble_eq_true rfl) rfl (fun p e s m args below meth c ls C hP hS hl => b_X9_forgets C h _ _ _ hP hS hl)


def f_X9_comes_81 (x1 : Int32) (x2 : Int32) (x3 : Int32)  (x4 : Int32) (z1 : Int32) (z2 : Int32) (μ : Mem) : Option (Int32 × Mem) := lt (st μ 122 0 (z1 + z2)) (fun μ1 => if x1 = 0 then (lt (st μ1 122 1 ((μ1.1 122 1) + 0)) (fun μ5 => lt (st μ5 122 6 0) (fun μ6 => some (x4, μ6)))) else (lt (st μ1 122 1 ((μ1.1 122 1) + 1)) (fun μ3 => lt (st μ3 122 6 0) (fun μ4 => some (x4, μ4)))))
set_option maxRecDepth 100000 in
set_option maxHeartbeats 4000000 in
theorem b_X9_comes_81 {p : Program} {l : Launch} {e : Env} {s : State} {m : MethodId} {args : Array Value} {below : List Frame} {meth : Method} {c : Code} {G : Gp} {O : (Int32 × Mem)} (C : Cx p s m args meth c cX9_comes 5 RX9 (some .int) G) {x1 : Int32} {x2 : Int32} {x3 : Int32} : ∀ (x4 : Int32) (z1 : Int32) (z2 : Int32) (μ : Mem), f_X9_comes_81 x1 x2 x3 x4 z1 z2 μ = some O → ∀ (H : Heap) (locs : List Loc) (ls : Array Slot), Wm G μ H → va_S (wA G) s.heap H locs → lv_has ls 5 [(0, .ref (G.2.2 122)), (1, .int x1), (4, .int x4)] → W p l e (rmm 1 25) s m args below meth c H locs 0 0 (QI below args s G O) (F0 m 81 ls [.int z2, .int z1, .ref (G.2.2 122)]) := by
  intro x4 z1 z2 μ h H locs ls hP hS hl
  unfold f_X9_comes_81 at h
  refine lv_iadd C.x C.b dX9_comes_81 ?_
  refine p_int F_9_0 P_9_0 u4_129 C hP hS sh_122 dX9_comes_82 (fun H locs hP hS => ?_)
  obtain ⟨μ1, m_μ1, h⟩ := lt_ex h
  have hP : Wm G μ1 H := by rw [m_μ1]; exact hP
  refine lv_aload_n C.x C.b dX9_comes_85 rfl (lv_at hl 0 rfl) ?_
  refine lv_dup C.x C.b dX9_comes_86 rfl ?_
  refine g_int F_9_1 u4_130 C hP sh_122 dX9_comes_87 ?_
  refine lv_iload_n C.x C.b dX9_comes_90 rfl (lv_at hl 1 rfl) ?_
  refine lv_if_ne (tgt := 98) C.x C.b dX9_comes_91 (by decide) (fun c2 => ?_) (fun c2 => ?_)
  · have h := (if_neg c2).symm.trans h
    refine lv_iconst (v := 1) C.x C.b dX9_comes_98 (by decide) ?_
    refine lv_iadd C.x C.b dX9_comes_99 ?_
    refine p_int F_9_1 P_9_1 u4_130 C hP hS sh_122 dX9_comes_100 (fun H locs hP hS => ?_)
    obtain ⟨μ3, m_μ3, h⟩ := lt_ex h
    have hP : Wm G μ3 H := by rw [m_μ3]; exact hP
    refine lv_aload_n C.x C.b dX9_comes_103 rfl (lv_at hl 0 rfl) ?_
    refine lv_iconst (v := 0) C.x C.b dX9_comes_104 (by decide) ?_
    refine p_int F_9_6 P_9_6 u4_135 C hP hS sh_122 dX9_comes_105 (fun H locs hP hS => ?_)
    obtain ⟨μ4, m_μ4, h⟩ := lt_ex h
    have hP : Wm G μ4 H := by rw [m_μ4]; exact hP
    refine lv_iload C.x C.b dX9_comes_108 (lv_at hl 2 rfl) ?_
    exact r_i h C hP hS dX9_comes_110
  · have h := (if_pos c2).symm.trans h
    refine lv_iconst (v := 0) C.x C.b dX9_comes_94 (by decide) ?_
    refine lv_goto (tgt := 99) C.x C.b dX9_comes_95 (by decide) ?_
    refine lv_iadd C.x C.b dX9_comes_99 ?_
    refine p_int F_9_1 P_9_1 u4_130 C hP hS sh_122 dX9_comes_100 (fun H locs hP hS => ?_)
    obtain ⟨μ5, m_μ5, h⟩ := lt_ex h
    have hP : Wm G μ5 H := by rw [m_μ5]; exact hP
    refine lv_aload_n C.x C.b dX9_comes_103 rfl (lv_at hl 0 rfl) ?_
    refine lv_iconst (v := 0) C.x C.b dX9_comes_104 (by decide) ?_
    refine p_int F_9_6 P_9_6 u4_135 C hP hS sh_122 dX9_comes_105 (fun H locs hP hS => ?_)
    obtain ⟨μ6, m_μ6, h⟩ := lt_ex h
    have hP : Wm G μ6 H := by rw [m_μ6]; exact hP
    refine lv_iload C.x C.b dX9_comes_108 (lv_at hl 2 rfl) ?_
    exact r_i h C hP hS dX9_comes_110

def f_X9_comes (x1 : Int32) (x2 : Int32) (x3 : Int32) (μ : Mem) : Option (Int32 × Mem) := bnv (f_X9_in (Int32.toInt64 x2) 0 99 μ) (fun r2 => if r2 = 0 then (some ((-2), μ)) else (bnv (f_X9_in (Int32.toInt64 x3) 0 9 μ) (fun r5 => if r5 = 0 then (some ((-2), μ)) else (bnv (f_X9_many x1 μ) (fun r8 => if r8 = 5 then (some ((-4), μ)) else (grd (inb ((5 * x1) + r8) 10) (lt (st μ 123 ((5 * x1) + r8).toNatClampNeg x2) (fun μ11 => grd (inb ((5 * x1) + r8) 10) (lt (st μ11 124 ((5 * x1) + r8).toNatClampNeg x3) (fun μ13 => if x1 = 0 then (f_X9_comes_81 x1 x2 x3 r8 (μ13.1 122 0) 1 μ13) else (f_X9_comes_81 x1 x2 x3 r8 (μ13.1 122 0) 0 μ13)))))))))))
set_option maxRecDepth 100000 in
set_option maxHeartbeats 4000000 in
theorem b_X9_comes {p : Program} {l : Launch} {e : Env} {s : State} {m : MethodId} {args : Array Value} {below : List Frame} {meth : Method} {c : Code} {G : Gp} {O : (Int32 × Mem)} (C : Cx p s m args meth c cX9_comes 5 RX9 (some .int) G) {x1 : Int32} {x2 : Int32} {x3 : Int32} {μ : Mem} (h : f_X9_comes x1 x2 x3 μ = some O) : ∀ (H : Heap) (locs : List Loc) (ls : Array Slot), Wm G μ H → va_S (wA G) s.heap H locs → lv_has ls 5 [(0, .ref (G.2.2 122)), (1, .int x1), (2, .int x2), (3, .int x3)] → W p l e (rmm 1 25) s m args below meth c H locs 0 0 (QI below args s G O) (F0 m 0 ls []) := by
  unfold f_X9_comes at h
  intro H locs ls hP hS hl
  refine lv_iload_n C.x C.b dX9_comes_0 rfl (lv_at hl 2 rfl) ?_
  refine lv_i2l (v := Int32.toInt64 x2) C.x C.b dX9_comes_1 rfl ?_
  refine lv_lconst (v := 0) C.x C.b dX9_comes_2 (by decide) ?_
  refine lv_ldc2 (own := RX9) (v := 99) C.x C.b C.o (C.t _ u5_71) dX9_comes_3 ?_
  obtain ⟨r2, e1, h⟩ := bnv_some h
  refine k_si (as := [.long (Int32.toInt64 x2), .long 0, .long 99]) (rest := []) (c_X9_in C.i e1) M_X9_in u5_72 C hP hS rfl (by decide) hl.1 rfl (Nat.le_of_ble_eq_true rfl) dX9_comes_6 (fun H locs hP hS => ?_)
  refine lv_if_eq (tgt := 24) C.x C.b dX9_comes_9 (by decide) (fun c3 => ?_) (fun c3 => ?_)
  · have h := (if_pos c3).symm.trans h
    refine lv_bipush (v := (-2)) C.x C.b dX9_comes_24 (by decide) ?_
    exact r_i h C hP hS dX9_comes_26
  · have h := (if_neg c3).symm.trans h
    refine lv_iload_n C.x C.b dX9_comes_12 rfl (lv_at hl 3 rfl) ?_
    refine lv_i2l (v := Int32.toInt64 x3) C.x C.b dX9_comes_13 rfl ?_
    refine lv_lconst (v := 0) C.x C.b dX9_comes_14 (by decide) ?_
    refine lv_ldc2 (own := RX9) (v := 9) C.x C.b C.o (C.t _ u5_75) dX9_comes_15 ?_
    obtain ⟨r5, e4, h⟩ := bnv_some h
    refine k_si (as := [.long (Int32.toInt64 x3), .long 0, .long 9]) (rest := []) (c_X9_in C.i e4) M_X9_in u5_72 C hP hS rfl (by decide) hl.1 rfl (Nat.le_of_ble_eq_true rfl) dX9_comes_18 (fun H locs hP hS => ?_)
    refine lv_if_ne (tgt := 27) C.x C.b dX9_comes_21 (by decide) (fun c6 => ?_) (fun c6 => ?_)
    · have h := (if_neg c6).symm.trans h
      refine lv_aload_n C.x C.b dX9_comes_27 rfl (lv_at hl 0 rfl) ?_
      refine lv_iload_n C.x C.b dX9_comes_28 rfl (lv_at hl 1 rfl) ?_
      obtain ⟨r8, e7, h⟩ := bnv_some h
      refine k_vi (k := 122) (as := [.int x1]) (rest := []) (c_X9_many C.i e7) M_X9_many u5_76 C hP hS sh_122 rfl rfl (by decide) hl.1 rfl (Nat.le_of_ble_eq_true rfl) dX9_comes_29 (fun H locs hP hS => ?_)
      refine lv_istore (lv' := [(4, .int r8), (0, .ref (G.2.2 122)), (1, .int x1), (2, .int x2), (3, .int x3)]) C.x C.b dX9_comes_32 hl (by decide) rfl (fun ls hl => ?_)
      refine lv_iload C.x C.b dX9_comes_34 (lv_at hl 0 rfl) ?_
      refine lv_iconst (v := 5) C.x C.b dX9_comes_36 (by decide) ?_
      refine lv_icmp_ne (tgt := 43) C.x C.b dX9_comes_37 (by decide) (fun c9 => ?_) (fun c9 => ?_)
      · have h := (if_neg c9).symm.trans h
        refine lv_aload_n C.x C.b dX9_comes_43 rfl (lv_at hl 1 rfl) ?_
        refine g_ref (k' := 123) F_9_2 u4_131 C hP sh_122 rfl dX9_comes_44 ?_
        refine lv_iconst (v := 5) C.x C.b dX9_comes_47 (by decide) ?_
        refine lv_iload_n C.x C.b dX9_comes_48 rfl (lv_at hl 2 rfl) ?_
        refine lv_imul C.x C.b dX9_comes_49 ?_
        refine lv_iload C.x C.b dX9_comes_50 (lv_at hl 0 rfl) ?_
        refine lv_iadd C.x C.b dX9_comes_52 ?_
        refine lv_iload_n C.x C.b dX9_comes_53 rfl (lv_at hl 3 rfl) ?_
        obtain ⟨g10, h⟩ := grd_some h
        refine as_i C hP hS sh_123 g10 dX9_comes_54 (fun H locs hP hS => ?_)
        obtain ⟨μ11, m_μ11, h⟩ := lt_ex h
        have hP : Wm G μ11 H := by rw [m_μ11]; exact hP
        refine lv_aload_n C.x C.b dX9_comes_55 rfl (lv_at hl 1 rfl) ?_
        refine g_ref (k' := 124) F_9_3 u4_132 C hP sh_122 rfl dX9_comes_56 ?_
        refine lv_iconst (v := 5) C.x C.b dX9_comes_59 (by decide) ?_
        refine lv_iload_n C.x C.b dX9_comes_60 rfl (lv_at hl 2 rfl) ?_
        refine lv_imul C.x C.b dX9_comes_61 ?_
        refine lv_iload C.x C.b dX9_comes_62 (lv_at hl 0 rfl) ?_
        refine lv_iadd C.x C.b dX9_comes_64 ?_
        refine lv_iload_n C.x C.b dX9_comes_65 rfl (lv_at hl 4 rfl) ?_
        obtain ⟨g12, h⟩ := grd_some h
        refine as_i C hP hS sh_124 g12 dX9_comes_66 (fun H locs hP hS => ?_)
        obtain ⟨μ13, m_μ13, h⟩ := lt_ex h
        have hP : Wm G μ13 H := by rw [m_μ13]; exact hP
        refine lv_aload_n C.x C.b dX9_comes_67 rfl (lv_at hl 1 rfl) ?_
        refine lv_dup C.x C.b dX9_comes_68 rfl ?_
        refine g_int F_9_0 u4_129 C hP sh_122 dX9_comes_69 ?_
        refine lv_iload_n C.x C.b dX9_comes_72 rfl (lv_at hl 2 rfl) ?_
        refine lv_if_ne (tgt := 80) C.x C.b dX9_comes_73 (by decide) (fun c14 => ?_) (fun c14 => ?_)
        · have h := (if_neg c14).symm.trans h
          refine lv_iconst (v := 0) C.x C.b dX9_comes_80 (by decide) ?_
          exact b_X9_comes_81 C r8 (μ13.1 122 0) 0 μ13 h _ _ _ hP hS (lv_sub hl [1, 2, 0] rfl)
        · have h := (if_pos c14).symm.trans h
          refine lv_iconst (v := 1) C.x C.b dX9_comes_76 (by decide) ?_
          refine lv_goto (tgt := 81) C.x C.b dX9_comes_77 (by decide) ?_
          exact b_X9_comes_81 C r8 (μ13.1 122 0) 1 μ13 h _ _ _ hP hS (lv_sub hl [1, 2, 0] rfl)
      · have h := (if_pos c9).symm.trans h
        refine lv_bipush (v := (-4)) C.x C.b dX9_comes_40 (by decide) ?_
        exact r_i h C hP hS dX9_comes_42
    · have h := (if_pos c6).symm.trans h
      refine lv_bipush (v := (-2)) C.x C.b dX9_comes_24 (by decide) ?_
      exact r_i h C hP hS dX9_comes_26

set_option maxRecDepth 100000 in
set_option maxHeartbeats 4000000 in
theorem c_X9_comes {l : Launch} {G : Gp} (hI : Wi G) {x1 : Int32} {x2 : Int32} {x3 : Int32} {μ : Mem} {r : Int32} {μ' : Mem} (h : f_X9_comes x1 x2 x3 μ = some (r, μ')) : CI l yX9_comes cX9_comes 5 (some .int) 1 25 G [.ref (G.2.2 122), .int x1, .int x2, .int x3] μ r μ' :=
  e_all (lv := [(0, .ref (G.2.2 122)), (1, .int x1), (2, .int x2), (3, .int x3)]) hI (by decide) (Nat.le_of_ble_eq_true rfl) rfl (fun p e s m args below meth c ls C hP hS hl => b_X9_comes C h _ _ _ hP hS hl)


def f_X9_quarry (x1 : Int32) (x2 : Int32) (μ : Mem) : Option (Int32 × Mem) := bnd (f_X9_comes 0 x1 x2 μ) (fun r2 μ3 => some (r2, μ3))
set_option maxRecDepth 100000 in
set_option maxHeartbeats 4000000 in
theorem b_X9_quarry {p : Program} {l : Launch} {e : Env} {s : State} {m : MethodId} {args : Array Value} {below : List Frame} {meth : Method} {c : Code} {G : Gp} {O : (Int32 × Mem)} (C : Cx p s m args meth c cX9_quarry 3 RX9 (some .int) G) {x1 : Int32} {x2 : Int32} {μ : Mem} (h : f_X9_quarry x1 x2 μ = some O) : ∀ (H : Heap) (locs : List Loc) (ls : Array Slot), Wm G μ H → va_S (wA G) s.heap H locs → lv_has ls 3 [(0, .ref (G.2.2 122)), (1, .int x1), (2, .int x2)] → W p l e (rmm 2 49) s m args below meth c H locs 0 0 (QI below args s G O) (F0 m 0 ls []) := by
  unfold f_X9_quarry at h
  intro H locs ls hP hS hl
  refine lv_aload_n C.x C.b dX9_quarry_0 rfl (lv_at hl 0 rfl) ?_
  refine lv_iconst (v := 0) C.x C.b dX9_quarry_1 (by decide) ?_
  refine lv_iload_n C.x C.b dX9_quarry_2 rfl (lv_at hl 1 rfl) ?_
  refine lv_iload_n C.x C.b dX9_quarry_3 rfl (lv_at hl 2 rfl) ?_
  obtain ⟨r2, μ3, e1, h⟩ := bnd_some h
  refine k_vi (k := 122) (as := [.int 0, .int x1, .int x2]) (rest := []) (c_X9_comes C.i e1) M_X9_comes u5_67 C hP hS sh_122 rfl rfl (by decide) hl.1 rfl (Nat.le_of_ble_eq_true rfl) dX9_quarry_4 (fun H locs hP hS => ?_)
  exact r_i h C hP hS dX9_quarry_7

set_option maxRecDepth 100000 in
set_option maxHeartbeats 4000000 in
theorem c_X9_quarry {l : Launch} {G : Gp} (hI : Wi G) {x1 : Int32} {x2 : Int32} {μ : Mem} {r : Int32} {μ' : Mem} (h : f_X9_quarry x1 x2 μ = some (r, μ')) : CI l yX9_quarry cX9_quarry 3 (some .int) 2 49 G [.ref (G.2.2 122), .int x1, .int x2] μ r μ' :=
  e_all (lv := [(0, .ref (G.2.2 122)), (1, .int x1), (2, .int x2)]) hI (by decide) (Nat.le_of_ble_eq_true rfl) rfl (fun p e s m args below meth c ls C hP hS hl => b_X9_quarry C h _ _ _ hP hS hl)


def f_X9_work (x1 : Int32) (x2 : Int32) (μ : Mem) : Option (Int32 × Mem) := bnd (f_X9_comes 1 x1 x2 μ) (fun r2 μ3 => some (r2, μ3))
set_option maxRecDepth 100000 in
set_option maxHeartbeats 4000000 in
theorem b_X9_work {p : Program} {l : Launch} {e : Env} {s : State} {m : MethodId} {args : Array Value} {below : List Frame} {meth : Method} {c : Code} {G : Gp} {O : (Int32 × Mem)} (C : Cx p s m args meth c cX9_work 3 RX9 (some .int) G) {x1 : Int32} {x2 : Int32} {μ : Mem} (h : f_X9_work x1 x2 μ = some O) : ∀ (H : Heap) (locs : List Loc) (ls : Array Slot), Wm G μ H → va_S (wA G) s.heap H locs → lv_has ls 3 [(0, .ref (G.2.2 122)), (1, .int x1), (2, .int x2)] → W p l e (rmm 2 49) s m args below meth c H locs 0 0 (QI below args s G O) (F0 m 0 ls []) := by
  unfold f_X9_work at h
  intro H locs ls hP hS hl
  refine lv_aload_n C.x C.b dX9_work_0 rfl (lv_at hl 0 rfl) ?_
  refine lv_iconst (v := 1) C.x C.b dX9_work_1 (by decide) ?_
  refine lv_iload_n C.x C.b dX9_work_2 rfl (lv_at hl 1 rfl) ?_
  refine lv_iload_n C.x C.b dX9_work_3 rfl (lv_at hl 2 rfl) ?_
  obtain ⟨r2, μ3, e1, h⟩ := bnd_some h
  refine k_vi (k := 122) (as := [.int 1, .int x1, .int x2]) (rest := []) (c_X9_comes C.i e1) M_X9_comes u5_67 C hP hS sh_122 rfl rfl (by decide) hl.1 rfl (Nat.le_of_ble_eq_true rfl) dX9_work_4 (fun H locs hP hS => ?_)
  exact r_i h C hP hS dX9_work_7

set_option maxRecDepth 100000 in
set_option maxHeartbeats 4000000 in
theorem c_X9_work {l : Launch} {G : Gp} (hI : Wi G) {x1 : Int32} {x2 : Int32} {μ : Mem} {r : Int32} {μ' : Mem} (h : f_X9_work x1 x2 μ = some (r, μ')) : CI l yX9_work cX9_work 3 (some .int) 2 49 G [.ref (G.2.2 122), .int x1, .int x2] μ r μ' :=
  e_all (lv := [(0, .ref (G.2.2 122)), (1, .int x1), (2, .int x2)]) hI (by decide) (Nat.le_of_ble_eq_true rfl) rfl (fun p e s m args below meth c ls C hP hS hl => b_X9_work C h _ _ _ hP hS hl)


def f_X9_isThing (x1 : Int32) (x2 : Int32) (x3 : Int32) (μ : Mem) : Option Int32 := bnv (f_X9_in (Int32.toInt64 x1) 0 1 μ) (fun r2 => if r2 = 0 then (some 0) else (bnv (f_X9_many x1 μ) (fun r5 => bnv (f_X9_in (Int32.toInt64 x2) 0 (Int32.toInt64 (r5 - 1)) μ) (fun r7 => if r7 = 0 then (some 0) else (bnv (f_X9_in (Int32.toInt64 x3) 0 1 μ) (fun r10 => if r10 = 0 then (some 0) else (some 1)))))))
set_option maxRecDepth 100000 in
set_option maxHeartbeats 4000000 in
theorem b_X9_isThing {p : Program} {l : Launch} {e : Env} {s : State} {m : MethodId} {args : Array Value} {below : List Frame} {meth : Method} {c : Code} {G : Gp} {O : Int32} (C : Cx p s m args meth c cX9_isThing 4 RX9 (some .boolean) G) {x1 : Int32} {x2 : Int32} {x3 : Int32} {μ : Mem} (h : f_X9_isThing x1 x2 x3 μ = some O) : ∀ (H : Heap) (locs : List Loc) (ls : Array Slot), Wm G μ H → va_S (wA G) s.heap H locs → lv_has ls 4 [(0, .ref (G.2.2 122)), (1, .int x1), (2, .int x2), (3, .int x3)] → W p l e (rmm 1 25) s m args below meth c H locs 0 0 (QI below args s G (O, μ)) (F0 m 0 ls []) := by
  unfold f_X9_isThing at h
  intro H locs ls hP hS hl
  refine lv_iload_n C.x C.b dX9_isThing_0 rfl (lv_at hl 1 rfl) ?_
  refine lv_i2l (v := Int32.toInt64 x1) C.x C.b dX9_isThing_1 rfl ?_
  refine lv_lconst (v := 0) C.x C.b dX9_isThing_2 (by decide) ?_
  refine lv_lconst (v := 1) C.x C.b dX9_isThing_3 (by decide) ?_
  obtain ⟨r2, e1, h⟩ := bnv_some h
  refine k_si (as := [.long (Int32.toInt64 x1), .long 0, .long 1]) (rest := []) (c_X9_in C.i e1) M_X9_in u5_72 C hP hS rfl (by decide) hl.1 rfl (Nat.le_of_ble_eq_true rfl) dX9_isThing_4 (fun H locs hP hS => ?_)
  refine lv_if_eq (tgt := 41) C.x C.b dX9_isThing_7 (by decide) (fun c3 => ?_) (fun c3 => ?_)
  · have h := (if_pos c3).symm.trans h
    refine lv_iconst (v := 0) C.x C.b dX9_isThing_41 (by decide) ?_
    exact r_z (pr_some h) (by decide) C hP hS dX9_isThing_42
  · have h := (if_neg c3).symm.trans h
    refine lv_iload_n C.x C.b dX9_isThing_10 rfl (lv_at hl 2 rfl) ?_
    refine lv_i2l (v := Int32.toInt64 x2) C.x C.b dX9_isThing_11 rfl ?_
    refine lv_lconst (v := 0) C.x C.b dX9_isThing_12 (by decide) ?_
    refine lv_aload_n C.x C.b dX9_isThing_13 rfl (lv_at hl 0 rfl) ?_
    refine lv_iload_n C.x C.b dX9_isThing_14 rfl (lv_at hl 1 rfl) ?_
    obtain ⟨r5, e4, h⟩ := bnv_some h
    refine k_vi (k := 122) (as := [.int x1]) (rest := [.long 0, .long (Int32.toInt64 x2)]) (c_X9_many C.i e4) M_X9_many u5_76 C hP hS sh_122 rfl rfl (by decide) hl.1 rfl (Nat.le_of_ble_eq_true rfl) dX9_isThing_15 (fun H locs hP hS => ?_)
    refine lv_iconst (v := 1) C.x C.b dX9_isThing_18 (by decide) ?_
    refine lv_isub C.x C.b dX9_isThing_19 ?_
    refine lv_i2l (v := Int32.toInt64 (r5 - 1)) C.x C.b dX9_isThing_20 rfl ?_
    obtain ⟨r7, e6, h⟩ := bnv_some h
    refine k_si (as := [.long (Int32.toInt64 x2), .long 0, .long (Int32.toInt64 (r5 - 1))]) (rest := []) (c_X9_in C.i e6) M_X9_in u5_72 C hP hS rfl (by decide) hl.1 rfl (Nat.le_of_ble_eq_true rfl) dX9_isThing_21 (fun H locs hP hS => ?_)
    refine lv_if_eq (tgt := 41) C.x C.b dX9_isThing_24 (by decide) (fun c8 => ?_) (fun c8 => ?_)
    · have h := (if_pos c8).symm.trans h
      refine lv_iconst (v := 0) C.x C.b dX9_isThing_41 (by decide) ?_
      exact r_z (pr_some h) (by decide) C hP hS dX9_isThing_42
    · have h := (if_neg c8).symm.trans h
      refine lv_iload_n C.x C.b dX9_isThing_27 rfl (lv_at hl 3 rfl) ?_
      refine lv_i2l (v := Int32.toInt64 x3) C.x C.b dX9_isThing_28 rfl ?_
      refine lv_lconst (v := 0) C.x C.b dX9_isThing_29 (by decide) ?_
      refine lv_lconst (v := 1) C.x C.b dX9_isThing_30 (by decide) ?_
      obtain ⟨r10, e9, h⟩ := bnv_some h
      refine k_si (as := [.long (Int32.toInt64 x3), .long 0, .long 1]) (rest := []) (c_X9_in C.i e9) M_X9_in u5_72 C hP hS rfl (by decide) hl.1 rfl (Nat.le_of_ble_eq_true rfl) dX9_isThing_31 (fun H locs hP hS => ?_)
      refine lv_if_eq (tgt := 41) C.x C.b dX9_isThing_34 (by decide) (fun c11 => ?_) (fun c11 => ?_)
      · have h := (if_pos c11).symm.trans h
        refine lv_iconst (v := 0) C.x C.b dX9_isThing_41 (by decide) ?_
        exact r_z (pr_some h) (by decide) C hP hS dX9_isThing_42
      · have h := (if_neg c11).symm.trans h
        refine lv_iconst (v := 1) C.x C.b dX9_isThing_37 (by decide) ?_
        refine lv_goto (tgt := 42) C.x C.b dX9_isThing_38 (by decide) ?_
        exact r_z (pr_some h) (by decide) C hP hS dX9_isThing_42

set_option maxRecDepth 100000 in
set_option maxHeartbeats 4000000 in
theorem c_X9_isThing {l : Launch} {G : Gp} (hI : Wi G) {x1 : Int32} {x2 : Int32} {x3 : Int32} {μ : Mem} {r : Int32} (h : f_X9_isThing x1 x2 x3 μ = some r) : CI l yX9_isThing cX9_isThing 4 (some .boolean) 1 25 G [.ref (G.2.2 122), .int x1, .int x2, .int x3] μ r μ :=
  e_all (lv := [(0, .ref (G.2.2 122)), (1, .int x1), (2, .int x2), (3, .int x3)]) hI (by decide) (Nat.le_of_ble_eq_true rfl) rfl (fun p e s m args below meth c ls C hP hS hl => b_X9_isThing C h _ _ _ hP hS hl)


def f_X9_of (x1 : Int32) (x2 : Int32) (x3 : Int32) (μ : Mem) : Option Int32 := bnv (f_X9_isThing x1 x2 x3 μ) (fun r2 => if r2 = 0 then (some ((-1))) else (if x3 = 0 then (grd (inb ((5 * x1) + x2) 10) (some (μ.1 123 ((5 * x1) + x2).toNatClampNeg))) else (grd (inb ((5 * x1) + x2) 10) (some (μ.1 124 ((5 * x1) + x2).toNatClampNeg)))))
set_option maxRecDepth 100000 in
set_option maxHeartbeats 4000000 in
theorem b_X9_of {p : Program} {l : Launch} {e : Env} {s : State} {m : MethodId} {args : Array Value} {below : List Frame} {meth : Method} {c : Code} {G : Gp} {O : Int32} (C : Cx p s m args meth c cX9_of 4 RX9 (some .int) G) {x1 : Int32} {x2 : Int32} {x3 : Int32} {μ : Mem} (h : f_X9_of x1 x2 x3 μ = some O) : ∀ (H : Heap) (locs : List Loc) (ls : Array Slot), Wm G μ H → va_S (wA G) s.heap H locs → lv_has ls 4 [(0, .ref (G.2.2 122)), (1, .int x1), (2, .int x2), (3, .int x3)] → W p l e (rmm 2 48) s m args below meth c H locs 0 0 (QI below args s G (O, μ)) (F0 m 0 ls []) := by
  unfold f_X9_of at h
  intro H locs ls hP hS hl
  refine lv_aload_n C.x C.b dX9_of_0 rfl (lv_at hl 0 rfl) ?_
  refine lv_iload_n C.x C.b dX9_of_1 rfl (lv_at hl 1 rfl) ?_
  refine lv_iload_n C.x C.b dX9_of_2 rfl (lv_at hl 2 rfl) ?_
  refine lv_iload_n C.x C.b dX9_of_3 rfl (lv_at hl 3 rfl) ?_
  obtain ⟨r2, e1, h⟩ := bnv_some h
  refine k_vi (k := 122) (as := [.int x1, .int x2, .int x3]) (rest := []) (c_X9_isThing C.i e1) M_X9_isThing u5_88 C hP hS sh_122 rfl rfl (by decide) hl.1 rfl (Nat.le_of_ble_eq_true rfl) dX9_of_4 (fun H locs hP hS => ?_)
  refine lv_if_ne (tgt := 12) C.x C.b dX9_of_7 (by decide) (fun c3 => ?_) (fun c3 => ?_)
  · have h := (if_neg c3).symm.trans h
    refine lv_iload_n C.x C.b dX9_of_12 rfl (lv_at hl 3 rfl) ?_
    refine lv_if_ne (tgt := 29) C.x C.b dX9_of_13 (by decide) (fun c4 => ?_) (fun c4 => ?_)
    · have h := (if_neg c4).symm.trans h
      refine lv_aload_n C.x C.b dX9_of_29 rfl (lv_at hl 0 rfl) ?_
      refine g_ref (k' := 124) F_9_3 u4_132 C hP sh_122 rfl dX9_of_30 ?_
      refine lv_iconst (v := 5) C.x C.b dX9_of_33 (by decide) ?_
      refine lv_iload_n C.x C.b dX9_of_34 rfl (lv_at hl 1 rfl) ?_
      refine lv_imul C.x C.b dX9_of_35 ?_
      refine lv_iload_n C.x C.b dX9_of_36 rfl (lv_at hl 2 rfl) ?_
      refine lv_iadd C.x C.b dX9_of_37 ?_
      obtain ⟨g5, h⟩ := grd_some h
      refine a_i C hP sh_124 g5 dX9_of_38 ?_
      exact r_i (pr_some h) C hP hS dX9_of_39
    · have h := (if_pos c4).symm.trans h
      refine lv_aload_n C.x C.b dX9_of_16 rfl (lv_at hl 0 rfl) ?_
      refine g_ref (k' := 123) F_9_2 u4_131 C hP sh_122 rfl dX9_of_17 ?_
      refine lv_iconst (v := 5) C.x C.b dX9_of_20 (by decide) ?_
      refine lv_iload_n C.x C.b dX9_of_21 rfl (lv_at hl 1 rfl) ?_
      refine lv_imul C.x C.b dX9_of_22 ?_
      refine lv_iload_n C.x C.b dX9_of_23 rfl (lv_at hl 2 rfl) ?_
      refine lv_iadd C.x C.b dX9_of_24 ?_
      obtain ⟨g6, h⟩ := grd_some h
      refine a_i C hP sh_123 g6 dX9_of_25 ?_
      refine lv_goto (tgt := 39) C.x C.b dX9_of_26 (by decide) ?_
      exact r_i (pr_some h) C hP hS dX9_of_39
  · have h := (if_pos c3).symm.trans h
    refine lv_iconst (v := (-1)) C.x C.b dX9_of_10 (by decide) ?_
    exact r_i (pr_some h) C hP hS dX9_of_11

set_option maxRecDepth 100000 in
set_option maxHeartbeats 4000000 in
theorem c_X9_of {l : Launch} {G : Gp} (hI : Wi G) {x1 : Int32} {x2 : Int32} {x3 : Int32} {μ : Mem} {r : Int32} (h : f_X9_of x1 x2 x3 μ = some r) : CI l yX9_of cX9_of 4 (some .int) 2 48 G [.ref (G.2.2 122), .int x1, .int x2, .int x3] μ r μ :=
  e_all (lv := [(0, .ref (G.2.2 122)), (1, .int x1), (2, .int x2), (3, .int x3)]) hI (by decide) (Nat.le_of_ble_eq_true rfl) rfl (fun p e s m args below meth c ls C hP hS hl => b_X9_of C h _ _ _ hP hS hl)


def f_X9_renew_29 (x1 : Int32) (x2 : Int32) (x3 : Int32) (x4 : Int32)  (z0 : Int64) (z1 : Int64) (z2 : Int64) (μ : Mem) : Option (Int32 × Mem) := bnv (f_X9_in z0 z1 z2 μ) (fun r2 => if r2 = 0 then (some ((-2), μ)) else (bnv (f_X9_of x1 x2 x3 μ) (fun r5 => if x3 = 0 then (grd (inb ((5 * x1) + x2) 10) (lt (st μ 123 ((5 * x1) + x2).toNatClampNeg x4) (fun μ11 => lt (st μ11 122 6 0) (fun μ12 => some (r5, μ12))))) else (grd (inb ((5 * x1) + x2) 10) (lt (st μ 124 ((5 * x1) + x2).toNatClampNeg x4) (fun μ8 => lt (st μ8 122 6 0) (fun μ9 => some (r5, μ9))))))))
set_option maxRecDepth 100000 in
set_option maxHeartbeats 4000000 in
theorem b_X9_renew_29 {p : Program} {l : Launch} {e : Env} {s : State} {m : MethodId} {args : Array Value} {below : List Frame} {meth : Method} {c : Code} {G : Gp} {O : (Int32 × Mem)} (C : Cx p s m args meth c cX9_renew 6 RX9 (some .int) G) {x1 : Int32} {x2 : Int32} {x3 : Int32} {x4 : Int32} : ∀ (z0 : Int64) (z1 : Int64) (z2 : Int64) (μ : Mem), f_X9_renew_29 x1 x2 x3 x4 z0 z1 z2 μ = some O → ∀ (H : Heap) (locs : List Loc) (ls : Array Slot), Wm G μ H → va_S (wA G) s.heap H locs → lv_has ls 6 [(0, .ref (G.2.2 122)), (1, .int x1), (2, .int x2), (3, .int x3), (4, .int x4)] → W p l e (rmm 3 71) s m args below meth c H locs 0 0 (QI below args s G O) (F0 m 29 ls [.long z2, .long z1, .long z0]) := by
  intro z0 z1 z2 μ h H locs ls hP hS hl
  unfold f_X9_renew_29 at h
  obtain ⟨r2, e1, h⟩ := bnv_some h
  refine k_si (as := [.long z0, .long z1, .long z2]) (rest := []) (c_X9_in C.i e1) M_X9_in u5_72 C hP hS rfl (by decide) hl.1 rfl (Nat.le_of_ble_eq_true rfl) dX9_renew_29 (fun H locs hP hS => ?_)
  refine lv_if_ne (tgt := 38) C.x C.b dX9_renew_32 (by decide) (fun c3 => ?_) (fun c3 => ?_)
  · have h := (if_neg c3).symm.trans h
    refine lv_aload_n C.x C.b dX9_renew_38 rfl (lv_at hl 0 rfl) ?_
    refine lv_iload_n C.x C.b dX9_renew_39 rfl (lv_at hl 1 rfl) ?_
    refine lv_iload_n C.x C.b dX9_renew_40 rfl (lv_at hl 2 rfl) ?_
    refine lv_iload_n C.x C.b dX9_renew_41 rfl (lv_at hl 3 rfl) ?_
    obtain ⟨r5, e4, h⟩ := bnv_some h
    refine k_vi (k := 122) (as := [.int x1, .int x2, .int x3]) (rest := []) (c_X9_of C.i e4) M_X9_of u5_92 C hP hS sh_122 rfl rfl (by decide) hl.1 rfl (Nat.le_of_ble_eq_true rfl) dX9_renew_42 (fun H locs hP hS => ?_)
    refine lv_istore (lv' := [(5, .int r5), (0, .ref (G.2.2 122)), (1, .int x1), (2, .int x2), (3, .int x3), (4, .int x4)]) C.x C.b dX9_renew_45 hl (by decide) rfl (fun ls hl => ?_)
    refine lv_iload_n C.x C.b dX9_renew_47 rfl (lv_at hl 4 rfl) ?_
    refine lv_if_ne (tgt := 66) C.x C.b dX9_renew_48 (by decide) (fun c6 => ?_) (fun c6 => ?_)
    · have h := (if_neg c6).symm.trans h
      refine lv_aload_n C.x C.b dX9_renew_66 rfl (lv_at hl 1 rfl) ?_
      refine g_ref (k' := 124) F_9_3 u4_132 C hP sh_122 rfl dX9_renew_67 ?_
      refine lv_iconst (v := 5) C.x C.b dX9_renew_70 (by decide) ?_
      refine lv_iload_n C.x C.b dX9_renew_71 rfl (lv_at hl 2 rfl) ?_
      refine lv_imul C.x C.b dX9_renew_72 ?_
      refine lv_iload_n C.x C.b dX9_renew_73 rfl (lv_at hl 3 rfl) ?_
      refine lv_iadd C.x C.b dX9_renew_74 ?_
      refine lv_iload C.x C.b dX9_renew_75 (lv_at hl 5 rfl) ?_
      obtain ⟨g7, h⟩ := grd_some h
      refine as_i C hP hS sh_124 g7 dX9_renew_77 (fun H locs hP hS => ?_)
      obtain ⟨μ8, m_μ8, h⟩ := lt_ex h
      have hP : Wm G μ8 H := by rw [m_μ8]; exact hP
      refine lv_aload_n C.x C.b dX9_renew_78 rfl (lv_at hl 1 rfl) ?_
      refine lv_iconst (v := 0) C.x C.b dX9_renew_79 (by decide) ?_
      refine p_int F_9_6 P_9_6 u4_135 C hP hS sh_122 dX9_renew_80 (fun H locs hP hS => ?_)
      obtain ⟨μ9, m_μ9, h⟩ := lt_ex h
      have hP : Wm G μ9 H := by rw [m_μ9]; exact hP
      refine lv_iload C.x C.b dX9_renew_83 (lv_at hl 0 rfl) ?_
      exact r_i h C hP hS dX9_renew_85
    · have h := (if_pos c6).symm.trans h
      refine lv_aload_n C.x C.b dX9_renew_51 rfl (lv_at hl 1 rfl) ?_
      refine g_ref (k' := 123) F_9_2 u4_131 C hP sh_122 rfl dX9_renew_52 ?_
      refine lv_iconst (v := 5) C.x C.b dX9_renew_55 (by decide) ?_
      refine lv_iload_n C.x C.b dX9_renew_56 rfl (lv_at hl 2 rfl) ?_
      refine lv_imul C.x C.b dX9_renew_57 ?_
      refine lv_iload_n C.x C.b dX9_renew_58 rfl (lv_at hl 3 rfl) ?_
      refine lv_iadd C.x C.b dX9_renew_59 ?_
      refine lv_iload C.x C.b dX9_renew_60 (lv_at hl 5 rfl) ?_
      obtain ⟨g10, h⟩ := grd_some h
      refine as_i C hP hS sh_123 g10 dX9_renew_62 (fun H locs hP hS => ?_)
      obtain ⟨μ11, m_μ11, h⟩ := lt_ex h
      have hP : Wm G μ11 H := by rw [m_μ11]; exact hP
      refine lv_goto (tgt := 78) C.x C.b dX9_renew_63 (by decide) ?_
      refine lv_aload_n C.x C.b dX9_renew_78 rfl (lv_at hl 1 rfl) ?_
      refine lv_iconst (v := 0) C.x C.b dX9_renew_79 (by decide) ?_
      refine p_int F_9_6 P_9_6 u4_135 C hP hS sh_122 dX9_renew_80 (fun H locs hP hS => ?_)
      obtain ⟨μ12, m_μ12, h⟩ := lt_ex h
      have hP : Wm G μ12 H := by rw [m_μ12]; exact hP
      refine lv_iload C.x C.b dX9_renew_83 (lv_at hl 0 rfl) ?_
      exact r_i h C hP hS dX9_renew_85
  · have h := (if_pos c3).symm.trans h
    refine lv_bipush (v := (-2)) C.x C.b dX9_renew_35 (by decide) ?_
    exact r_i h C hP hS dX9_renew_37

def f_X9_renew (x1 : Int32) (x2 : Int32) (x3 : Int32) (x4 : Int32) (μ : Mem) : Option (Int32 × Mem) := bnv (f_X9_isThing x1 x2 x3 μ) (fun r2 => if r2 = 0 then (some ((-1), μ)) else (if x3 = 0 then (f_X9_renew_29 x1 x2 x3 x4 (Int32.toInt64 x4) 0 99 μ) else (f_X9_renew_29 x1 x2 x3 x4 (Int32.toInt64 x4) 0 9 μ)))
set_option maxRecDepth 100000 in
set_option maxHeartbeats 4000000 in
theorem b_X9_renew {p : Program} {l : Launch} {e : Env} {s : State} {m : MethodId} {args : Array Value} {below : List Frame} {meth : Method} {c : Code} {G : Gp} {O : (Int32 × Mem)} (C : Cx p s m args meth c cX9_renew 6 RX9 (some .int) G) {x1 : Int32} {x2 : Int32} {x3 : Int32} {x4 : Int32} {μ : Mem} (h : f_X9_renew x1 x2 x3 x4 μ = some O) : ∀ (H : Heap) (locs : List Loc) (ls : Array Slot), Wm G μ H → va_S (wA G) s.heap H locs → lv_has ls 6 [(0, .ref (G.2.2 122)), (1, .int x1), (2, .int x2), (3, .int x3), (4, .int x4)] → W p l e (rmm 3 71) s m args below meth c H locs 0 0 (QI below args s G O) (F0 m 0 ls []) := by
  unfold f_X9_renew at h
  intro H locs ls hP hS hl
  refine lv_aload_n C.x C.b dX9_renew_0 rfl (lv_at hl 0 rfl) ?_
  refine lv_iload_n C.x C.b dX9_renew_1 rfl (lv_at hl 1 rfl) ?_
  refine lv_iload_n C.x C.b dX9_renew_2 rfl (lv_at hl 2 rfl) ?_
  refine lv_iload_n C.x C.b dX9_renew_3 rfl (lv_at hl 3 rfl) ?_
  obtain ⟨r2, e1, h⟩ := bnv_some h
  refine k_vi (k := 122) (as := [.int x1, .int x2, .int x3]) (rest := []) (c_X9_isThing C.i e1) M_X9_isThing u5_88 C hP hS sh_122 rfl rfl (by decide) hl.1 rfl (Nat.le_of_ble_eq_true rfl) dX9_renew_4 (fun H locs hP hS => ?_)
  refine lv_if_ne (tgt := 12) C.x C.b dX9_renew_7 (by decide) (fun c3 => ?_) (fun c3 => ?_)
  · have h := (if_neg c3).symm.trans h
    refine lv_iload C.x C.b dX9_renew_12 (lv_at hl 4 rfl) ?_
    refine lv_i2l (v := Int32.toInt64 x4) C.x C.b dX9_renew_14 rfl ?_
    refine lv_lconst (v := 0) C.x C.b dX9_renew_15 (by decide) ?_
    refine lv_iload_n C.x C.b dX9_renew_16 rfl (lv_at hl 3 rfl) ?_
    refine lv_if_ne (tgt := 26) C.x C.b dX9_renew_17 (by decide) (fun c4 => ?_) (fun c4 => ?_)
    · have h := (if_neg c4).symm.trans h
      refine lv_ldc2 (own := RX9) (v := 9) C.x C.b C.o (C.t _ u5_75) dX9_renew_26 ?_
      exact b_X9_renew_29 C (Int32.toInt64 x4) 0 9 μ h _ _ _ hP hS (lv_sub hl [0, 1, 2, 3, 4] rfl)
    · have h := (if_pos c4).symm.trans h
      refine lv_ldc2 (own := RX9) (v := 99) C.x C.b C.o (C.t _ u5_71) dX9_renew_20 ?_
      refine lv_goto (tgt := 29) C.x C.b dX9_renew_23 (by decide) ?_
      exact b_X9_renew_29 C (Int32.toInt64 x4) 0 99 μ h _ _ _ hP hS (lv_sub hl [0, 1, 2, 3, 4] rfl)
  · have h := (if_pos c3).symm.trans h
    refine lv_iconst (v := (-1)) C.x C.b dX9_renew_10 (by decide) ?_
    exact r_i h C hP hS dX9_renew_11

set_option maxRecDepth 100000 in
set_option maxHeartbeats 4000000 in
theorem c_X9_renew {l : Launch} {G : Gp} (hI : Wi G) {x1 : Int32} {x2 : Int32} {x3 : Int32} {x4 : Int32} {μ : Mem} {r : Int32} {μ' : Mem} (h : f_X9_renew x1 x2 x3 x4 μ = some (r, μ')) : CI l yX9_renew cX9_renew 6 (some .int) 3 71 G [.ref (G.2.2 122), .int x1, .int x2, .int x3, .int x4] μ r μ' :=
  e_all (lv := [(0, .ref (G.2.2 122)), (1, .int x1), (2, .int x2), (3, .int x3), (4, .int x4)]) hI (by decide) (Nat.le_of_ble_eq_true rfl) rfl (fun p e s m args below meth c ls C hP hS hl => b_X9_renew C h _ _ _ hP hS hl)


def f_X9_road (x1 : Int32) (x2 : Int32) (x3 : Int32) (x4 : Int32) (μ : Mem) : Option (Int32 × Mem) := bnv (f_X9_isRoad x1 x2 μ) (fun r2 => if r2 = 0 then (some ((-1), μ)) else (bnv (f_X9_in (Int32.toInt64 x3) 0 3 μ) (fun r5 => if r5 = 0 then (some ((-2), μ)) else (bnv (f_X9_in (Int32.toInt64 x4) 0 99 μ) (fun r8 => if r8 = 0 then (some ((-2), μ)) else (grd (inb ((5 * x1) + x2) 25) (grd (inb ((5 * x1) + x2) 25) (lt ((100 * (μ.1 125 ((5 * x1) + x2).toNatClampNeg)) + (μ.1 126 ((5 * x1) + x2).toNatClampNeg)) (fun y12 => grd (inb ((5 * x1) + x2) 25) (lt (st μ 125 ((5 * x1) + x2).toNatClampNeg x3) (fun μ14 => grd (inb ((5 * x1) + x2) 25) (lt (st μ14 126 ((5 * x1) + x2).toNatClampNeg x4) (fun μ16 => lt (st μ16 122 6 0) (fun μ17 => some (y12, μ17)))))))))))))))
set_option maxRecDepth 100000 in
set_option maxHeartbeats 4000000 in
theorem b_X9_road {p : Program} {l : Launch} {e : Env} {s : State} {m : MethodId} {args : Array Value} {below : List Frame} {meth : Method} {c : Code} {G : Gp} {O : (Int32 × Mem)} (C : Cx p s m args meth c cX9_road 6 RX9 (some .int) G) {x1 : Int32} {x2 : Int32} {x3 : Int32} {x4 : Int32} {μ : Mem} (h : f_X9_road x1 x2 x3 x4 μ = some O) : ∀ (H : Heap) (locs : List Loc) (ls : Array Slot), Wm G μ H → va_S (wA G) s.heap H locs → lv_has ls 6 [(0, .ref (G.2.2 122)), (1, .int x1), (2, .int x2), (3, .int x3), (4, .int x4)] → W p l e (rmm 2 47) s m args below meth c H locs 0 0 (QI below args s G O) (F0 m 0 ls []) := by
  unfold f_X9_road at h
  intro H locs ls hP hS hl
  refine lv_aload_n C.x C.b dX9_road_0 rfl (lv_at hl 0 rfl) ?_
  refine lv_iload_n C.x C.b dX9_road_1 rfl (lv_at hl 1 rfl) ?_
  refine lv_iload_n C.x C.b dX9_road_2 rfl (lv_at hl 2 rfl) ?_
  obtain ⟨r2, e1, h⟩ := bnv_some h
  refine k_vi (k := 122) (as := [.int x1, .int x2]) (rest := []) (c_X9_isRoad C.i e1) M_X9_isRoad u5_101 C hP hS sh_122 rfl rfl (by decide) hl.1 rfl (Nat.le_of_ble_eq_true rfl) dX9_road_3 (fun H locs hP hS => ?_)
  refine lv_if_ne (tgt := 11) C.x C.b dX9_road_6 (by decide) (fun c3 => ?_) (fun c3 => ?_)
  · have h := (if_neg c3).symm.trans h
    refine lv_iload_n C.x C.b dX9_road_11 rfl (lv_at hl 3 rfl) ?_
    refine lv_i2l (v := Int32.toInt64 x3) C.x C.b dX9_road_12 rfl ?_
    refine lv_lconst (v := 0) C.x C.b dX9_road_13 (by decide) ?_
    refine lv_ldc2 (own := RX9) (v := 3) C.x C.b C.o (C.t _ u5_105) dX9_road_14 ?_
    obtain ⟨r5, e4, h⟩ := bnv_some h
    refine k_si (as := [.long (Int32.toInt64 x3), .long 0, .long 3]) (rest := []) (c_X9_in C.i e4) M_X9_in u5_72 C hP hS rfl (by decide) hl.1 rfl (Nat.le_of_ble_eq_true rfl) dX9_road_17 (fun H locs hP hS => ?_)
    refine lv_if_eq (tgt := 36) C.x C.b dX9_road_20 (by decide) (fun c6 => ?_) (fun c6 => ?_)
    · have h := (if_pos c6).symm.trans h
      refine lv_bipush (v := (-2)) C.x C.b dX9_road_36 (by decide) ?_
      exact r_i h C hP hS dX9_road_38
    · have h := (if_neg c6).symm.trans h
      refine lv_iload C.x C.b dX9_road_23 (lv_at hl 4 rfl) ?_
      refine lv_i2l (v := Int32.toInt64 x4) C.x C.b dX9_road_25 rfl ?_
      refine lv_lconst (v := 0) C.x C.b dX9_road_26 (by decide) ?_
      refine lv_ldc2 (own := RX9) (v := 99) C.x C.b C.o (C.t _ u5_71) dX9_road_27 ?_
      obtain ⟨r8, e7, h⟩ := bnv_some h
      refine k_si (as := [.long (Int32.toInt64 x4), .long 0, .long 99]) (rest := []) (c_X9_in C.i e7) M_X9_in u5_72 C hP hS rfl (by decide) hl.1 rfl (Nat.le_of_ble_eq_true rfl) dX9_road_30 (fun H locs hP hS => ?_)
      refine lv_if_ne (tgt := 39) C.x C.b dX9_road_33 (by decide) (fun c9 => ?_) (fun c9 => ?_)
      · have h := (if_neg c9).symm.trans h
        refine lv_bipush (v := 100) C.x C.b dX9_road_39 (by decide) ?_
        refine lv_aload_n C.x C.b dX9_road_41 rfl (lv_at hl 0 rfl) ?_
        refine g_ref (k' := 125) F_9_4 u4_133 C hP sh_122 rfl dX9_road_42 ?_
        refine lv_iconst (v := 5) C.x C.b dX9_road_45 (by decide) ?_
        refine lv_iload_n C.x C.b dX9_road_46 rfl (lv_at hl 1 rfl) ?_
        refine lv_imul C.x C.b dX9_road_47 ?_
        refine lv_iload_n C.x C.b dX9_road_48 rfl (lv_at hl 2 rfl) ?_
        refine lv_iadd C.x C.b dX9_road_49 ?_
        obtain ⟨g10, h⟩ := grd_some h
        refine a_i C hP sh_125 g10 dX9_road_50 ?_
        refine lv_imul C.x C.b dX9_road_51 ?_
        refine lv_aload_n C.x C.b dX9_road_52 rfl (lv_at hl 0 rfl) ?_
        refine g_ref (k' := 126) F_9_5 u4_134 C hP sh_122 rfl dX9_road_53 ?_
        refine lv_iconst (v := 5) C.x C.b dX9_road_56 (by decide) ?_
        refine lv_iload_n C.x C.b dX9_road_57 rfl (lv_at hl 1 rfl) ?_
        refine lv_imul C.x C.b dX9_road_58 ?_
        refine lv_iload_n C.x C.b dX9_road_59 rfl (lv_at hl 2 rfl) ?_
        refine lv_iadd C.x C.b dX9_road_60 ?_
        obtain ⟨g11, h⟩ := grd_some h
        refine a_i C hP sh_126 g11 dX9_road_61 ?_
        refine lv_iadd C.x C.b dX9_road_62 ?_
        refine lv_topi (fun y12 e_y12 => ?_)
        have h := lt_at h e_y12
        refine lv_istore (lv' := [(5, .int y12), (0, .ref (G.2.2 122)), (1, .int x1), (2, .int x2), (3, .int x3), (4, .int x4)]) C.x C.b dX9_road_63 hl (by decide) rfl (fun ls hl => ?_)
        refine lv_aload_n C.x C.b dX9_road_65 rfl (lv_at hl 1 rfl) ?_
        refine g_ref (k' := 125) F_9_4 u4_133 C hP sh_122 rfl dX9_road_66 ?_
        refine lv_iconst (v := 5) C.x C.b dX9_road_69 (by decide) ?_
        refine lv_iload_n C.x C.b dX9_road_70 rfl (lv_at hl 2 rfl) ?_
        refine lv_imul C.x C.b dX9_road_71 ?_
        refine lv_iload_n C.x C.b dX9_road_72 rfl (lv_at hl 3 rfl) ?_
        refine lv_iadd C.x C.b dX9_road_73 ?_
        refine lv_iload_n C.x C.b dX9_road_74 rfl (lv_at hl 4 rfl) ?_
        obtain ⟨g13, h⟩ := grd_some h
        refine as_i C hP hS sh_125 g13 dX9_road_75 (fun H locs hP hS => ?_)
        obtain ⟨μ14, m_μ14, h⟩ := lt_ex h
        have hP : Wm G μ14 H := by rw [m_μ14]; exact hP
        refine lv_aload_n C.x C.b dX9_road_76 rfl (lv_at hl 1 rfl) ?_
        refine g_ref (k' := 126) F_9_5 u4_134 C hP sh_122 rfl dX9_road_77 ?_
        refine lv_iconst (v := 5) C.x C.b dX9_road_80 (by decide) ?_
        refine lv_iload_n C.x C.b dX9_road_81 rfl (lv_at hl 2 rfl) ?_
        refine lv_imul C.x C.b dX9_road_82 ?_
        refine lv_iload_n C.x C.b dX9_road_83 rfl (lv_at hl 3 rfl) ?_
        refine lv_iadd C.x C.b dX9_road_84 ?_
        refine lv_iload C.x C.b dX9_road_85 (lv_at hl 5 rfl) ?_
        obtain ⟨g15, h⟩ := grd_some h
        refine as_i C hP hS sh_126 g15 dX9_road_87 (fun H locs hP hS => ?_)
        obtain ⟨μ16, m_μ16, h⟩ := lt_ex h
        have hP : Wm G μ16 H := by rw [m_μ16]; exact hP
        refine lv_aload_n C.x C.b dX9_road_88 rfl (lv_at hl 1 rfl) ?_
        refine lv_iconst (v := 0) C.x C.b dX9_road_89 (by decide) ?_
        refine p_int F_9_6 P_9_6 u4_135 C hP hS sh_122 dX9_road_90 (fun H locs hP hS => ?_)
        obtain ⟨μ17, m_μ17, h⟩ := lt_ex h
        have hP : Wm G μ17 H := by rw [m_μ17]; exact hP
        refine lv_iload C.x C.b dX9_road_93 (lv_at hl 0 rfl) ?_
        exact r_i h C hP hS dX9_road_95
      · have h := (if_pos c9).symm.trans h
        refine lv_bipush (v := (-2)) C.x C.b dX9_road_36 (by decide) ?_
        exact r_i h C hP hS dX9_road_38
  · have h := (if_pos c3).symm.trans h
    refine lv_iconst (v := (-1)) C.x C.b dX9_road_9 (by decide) ?_
    exact r_i h C hP hS dX9_road_10

set_option maxRecDepth 100000 in
set_option maxHeartbeats 4000000 in
theorem c_X9_road {l : Launch} {G : Gp} (hI : Wi G) {x1 : Int32} {x2 : Int32} {x3 : Int32} {x4 : Int32} {μ : Mem} {r : Int32} {μ' : Mem} (h : f_X9_road x1 x2 x3 x4 μ = some (r, μ')) : CI l yX9_road cX9_road 6 (some .int) 2 47 G [.ref (G.2.2 122), .int x1, .int x2, .int x3, .int x4] μ r μ' :=
  e_all (lv := [(0, .ref (G.2.2 122)), (1, .int x1), (2, .int x2), (3, .int x3), (4, .int x4)]) hI (by decide) (Nat.le_of_ble_eq_true rfl) rfl (fun p e s m args below meth c ls C hP hS hl => b_X9_road C h _ _ _ hP hS hl)


def f_X9_costOf (x1 : Int32) (x2 : Int32) (μ : Mem) : Option Int32 := grd (inb ((5 * x1) + x2) 25) (lt (μ.1 126 ((5 * x1) + x2).toNatClampNeg) (fun y2 => grd (inb ((5 * x1) + x2) 25) (if (μ.1 125 ((5 * x1) + x2).toNatClampNeg) = 0 then (some y2) else (if (μ.1 125 ((5 * x1) + x2).toNatClampNeg) = 1 then (grd (inb x1 10) (some (y2 + (μ.1 124 x1.toNatClampNeg)))) else (if (μ.1 125 ((5 * x1) + x2).toNatClampNeg) = 2 then (grd (inb x1 10) (grd (inb (5 + x2) 10) (some ((2 * (y2 + (μ.1 124 x1.toNatClampNeg))) + (μ.1 124 (5 + x2).toNatClampNeg))))) else ((some 1000)))))))
set_option maxRecDepth 100000 in
set_option maxHeartbeats 4000000 in
theorem b_X9_costOf {p : Program} {l : Launch} {e : Env} {s : State} {m : MethodId} {args : Array Value} {below : List Frame} {meth : Method} {c : Code} {G : Gp} {O : Int32} (C : Cx p s m args meth c cX9_costOf 4 RX9 (some .int) G) {x1 : Int32} {x2 : Int32} {μ : Mem} (h : f_X9_costOf x1 x2 μ = some O) : ∀ (H : Heap) (locs : List Loc) (ls : Array Slot), Wm G μ H → va_S (wA G) s.heap H locs → lv_has ls 4 [(0, .ref (G.2.2 122)), (1, .int x1), (2, .int x2)] → W p l e (rmm 0 0) s m args below meth c H locs 0 0 (QI below args s G (O, μ)) (F0 m 0 ls []) := by
  unfold f_X9_costOf at h
  intro H locs ls hP hS hl
  refine lv_aload_n C.x C.b dX9_costOf_0 rfl (lv_at hl 0 rfl) ?_
  refine g_ref (k' := 126) F_9_5 u4_134 C hP sh_122 rfl dX9_costOf_1 ?_
  refine lv_iconst (v := 5) C.x C.b dX9_costOf_4 (by decide) ?_
  refine lv_iload_n C.x C.b dX9_costOf_5 rfl (lv_at hl 1 rfl) ?_
  refine lv_imul C.x C.b dX9_costOf_6 ?_
  refine lv_iload_n C.x C.b dX9_costOf_7 rfl (lv_at hl 2 rfl) ?_
  refine lv_iadd C.x C.b dX9_costOf_8 ?_
  obtain ⟨g1, h⟩ := grd_some h
  refine a_i C hP sh_126 g1 dX9_costOf_9 ?_
  refine lv_topi (fun y2 e_y2 => ?_)
  have h := lt_at h e_y2
  refine lv_istore_n (lv' := [(3, .int y2), (0, .ref (G.2.2 122)), (1, .int x1), (2, .int x2)]) C.x C.b dX9_costOf_10 rfl hl (by decide) rfl (fun ls hl => ?_)
  refine lv_aload_n C.x C.b dX9_costOf_11 rfl (lv_at hl 1 rfl) ?_
  refine g_ref (k' := 125) F_9_4 u4_133 C hP sh_122 rfl dX9_costOf_12 ?_
  refine lv_iconst (v := 5) C.x C.b dX9_costOf_15 (by decide) ?_
  refine lv_iload_n C.x C.b dX9_costOf_16 rfl (lv_at hl 2 rfl) ?_
  refine lv_imul C.x C.b dX9_costOf_17 ?_
  refine lv_iload_n C.x C.b dX9_costOf_18 rfl (lv_at hl 3 rfl) ?_
  refine lv_iadd C.x C.b dX9_costOf_19 ?_
  obtain ⟨g3, h⟩ := grd_some h
  refine a_i C hP sh_125 g3 dX9_costOf_20 ?_
  by_cases c4 : (μ.1 125 ((5 * x1) + x2).toNatClampNeg) = 0
  · have h := (if_pos c4).symm.trans h
    refine lv_tableIn (off := 27) (tgt := 48) C.x C.b dX9_costOf_21 (by rw [c4]; decide) (by rw [c4]; decide) (by rw [c4]; rfl) (by decide) ?_
    refine lv_iload_n C.x C.b dX9_costOf_48 rfl (lv_at hl 0 rfl) ?_
    exact r_i (pr_some h) C hP hS dX9_costOf_49
  · have h := (if_neg c4).symm.trans h
    by_cases c5 : (μ.1 125 ((5 * x1) + x2).toNatClampNeg) = 1
    · have h := (if_pos c5).symm.trans h
      refine lv_tableIn (off := 29) (tgt := 50) C.x C.b dX9_costOf_21 (by rw [c5]; decide) (by rw [c5]; decide) (by rw [c5]; rfl) (by decide) ?_
      refine lv_iload_n C.x C.b dX9_costOf_50 rfl (lv_at hl 0 rfl) ?_
      refine lv_aload_n C.x C.b dX9_costOf_51 rfl (lv_at hl 1 rfl) ?_
      refine g_ref (k' := 124) F_9_3 u4_132 C hP sh_122 rfl dX9_costOf_52 ?_
      refine lv_iload_n C.x C.b dX9_costOf_55 rfl (lv_at hl 2 rfl) ?_
      obtain ⟨g6, h⟩ := grd_some h
      refine a_i C hP sh_124 g6 dX9_costOf_56 ?_
      refine lv_iadd C.x C.b dX9_costOf_57 ?_
      exact r_i (pr_some h) C hP hS dX9_costOf_58
    · have h := (if_neg c5).symm.trans h
      by_cases c7 : (μ.1 125 ((5 * x1) + x2).toNatClampNeg) = 2
      · have h := (if_pos c7).symm.trans h
        refine lv_tableIn (off := 38) (tgt := 59) C.x C.b dX9_costOf_21 (by rw [c7]; decide) (by rw [c7]; decide) (by rw [c7]; rfl) (by decide) ?_
        refine lv_iconst (v := 2) C.x C.b dX9_costOf_59 (by decide) ?_
        refine lv_iload_n C.x C.b dX9_costOf_60 rfl (lv_at hl 0 rfl) ?_
        refine lv_aload_n C.x C.b dX9_costOf_61 rfl (lv_at hl 1 rfl) ?_
        refine g_ref (k' := 124) F_9_3 u4_132 C hP sh_122 rfl dX9_costOf_62 ?_
        refine lv_iload_n C.x C.b dX9_costOf_65 rfl (lv_at hl 2 rfl) ?_
        obtain ⟨g8, h⟩ := grd_some h
        refine a_i C hP sh_124 g8 dX9_costOf_66 ?_
        refine lv_iadd C.x C.b dX9_costOf_67 ?_
        refine lv_imul C.x C.b dX9_costOf_68 ?_
        refine lv_aload_n C.x C.b dX9_costOf_69 rfl (lv_at hl 1 rfl) ?_
        refine g_ref (k' := 124) F_9_3 u4_132 C hP sh_122 rfl dX9_costOf_70 ?_
        refine lv_iconst (v := 5) C.x C.b dX9_costOf_73 (by decide) ?_
        refine lv_iload_n C.x C.b dX9_costOf_74 rfl (lv_at hl 3 rfl) ?_
        refine lv_iadd C.x C.b dX9_costOf_75 ?_
        obtain ⟨g9, h⟩ := grd_some h
        refine a_i C hP sh_124 g9 dX9_costOf_76 ?_
        refine lv_iadd C.x C.b dX9_costOf_77 ?_
        exact r_i (pr_some h) C hP hS dX9_costOf_78
      · have h := (if_neg c7).symm.trans h
        have t_c4 := lv_neT (a := 0) c4 (by decide)
        have t_c5 := lv_neT (a := 1) c5 (by decide)
        have t_c7 := lv_neT (a := 2) c7 (by decide)
        refine lv_tableOut (tgt := 79) C.x C.b dX9_costOf_21 (by omega) (by decide) ?_
        refine lv_sipush (v := 1000) C.x C.b dX9_costOf_79 (by decide) ?_
        exact r_i (pr_some h) C hP hS dX9_costOf_82

set_option maxRecDepth 100000 in
set_option maxHeartbeats 4000000 in
theorem c_X9_costOf {l : Launch} {G : Gp} (hI : Wi G) {x1 : Int32} {x2 : Int32} {μ : Mem} {r : Int32} (h : f_X9_costOf x1 x2 μ = some r) : CI l yX9_costOf cX9_costOf 4 (some .int) 0 0 G [.ref (G.2.2 122), .int x1, .int x2] μ r μ :=
  e_all (lv := [(0, .ref (G.2.2 122)), (1, .int x1), (2, .int x2)]) hI (by decide) (Nat.le_of_ble_eq_true rfl) rfl (fun p e s m args below meth c ls C hP hS hl => b_X9_costOf C h _ _ _ hP hS hl)


def f_X9_roadOf (x1 : Int32) (x2 : Int32) (x3 : Int32) (μ : Mem) : Option Int32 := bnv (f_X9_isRoad x1 x2 μ) (fun r2 => if r2 = 0 then (some ((-1))) else (bnv (f_X9_in (Int32.toInt64 x3) 0 2 μ) (fun r5 => if r5 = 0 then (some ((-1))) else (if x3 = 0 then (grd (inb ((5 * x1) + x2) 25) (some (μ.1 125 ((5 * x1) + x2).toNatClampNeg))) else (if x3 = 1 then (grd (inb ((5 * x1) + x2) 25) (some (μ.1 126 ((5 * x1) + x2).toNatClampNeg))) else (bnv (f_X9_costOf x1 x2 μ) (fun r10 => some r10)))))))
set_option maxRecDepth 100000 in
set_option maxHeartbeats 4000000 in
theorem b_X9_roadOf {p : Program} {l : Launch} {e : Env} {s : State} {m : MethodId} {args : Array Value} {below : List Frame} {meth : Method} {c : Code} {G : Gp} {O : Int32} (C : Cx p s m args meth c cX9_roadOf 4 RX9 (some .int) G) {x1 : Int32} {x2 : Int32} {x3 : Int32} {μ : Mem} (h : f_X9_roadOf x1 x2 x3 μ = some O) : ∀ (H : Heap) (locs : List Loc) (ls : Array Slot), Wm G μ H → va_S (wA G) s.heap H locs → lv_has ls 4 [(0, .ref (G.2.2 122)), (1, .int x1), (2, .int x2), (3, .int x3)] → W p l e (rmm 2 47) s m args below meth c H locs 0 0 (QI below args s G (O, μ)) (F0 m 0 ls []) := by
  unfold f_X9_roadOf at h
  intro H locs ls hP hS hl
  refine lv_aload_n C.x C.b dX9_roadOf_0 rfl (lv_at hl 0 rfl) ?_
  refine lv_iload_n C.x C.b dX9_roadOf_1 rfl (lv_at hl 1 rfl) ?_
  refine lv_iload_n C.x C.b dX9_roadOf_2 rfl (lv_at hl 2 rfl) ?_
  obtain ⟨r2, e1, h⟩ := bnv_some h
  refine k_vi (k := 122) (as := [.int x1, .int x2]) (rest := []) (c_X9_isRoad C.i e1) M_X9_isRoad u5_101 C hP hS sh_122 rfl rfl (by decide) hl.1 rfl (Nat.le_of_ble_eq_true rfl) dX9_roadOf_3 (fun H locs hP hS => ?_)
  refine lv_if_eq (tgt := 21) C.x C.b dX9_roadOf_6 (by decide) (fun c3 => ?_) (fun c3 => ?_)
  · have h := (if_pos c3).symm.trans h
    refine lv_iconst (v := (-1)) C.x C.b dX9_roadOf_21 (by decide) ?_
    exact r_i (pr_some h) C hP hS dX9_roadOf_22
  · have h := (if_neg c3).symm.trans h
    refine lv_iload_n C.x C.b dX9_roadOf_9 rfl (lv_at hl 3 rfl) ?_
    refine lv_i2l (v := Int32.toInt64 x3) C.x C.b dX9_roadOf_10 rfl ?_
    refine lv_lconst (v := 0) C.x C.b dX9_roadOf_11 (by decide) ?_
    refine lv_ldc2 (own := RX9) (v := 2) C.x C.b C.o (C.t _ u5_110) dX9_roadOf_12 ?_
    obtain ⟨r5, e4, h⟩ := bnv_some h
    refine k_si (as := [.long (Int32.toInt64 x3), .long 0, .long 2]) (rest := []) (c_X9_in C.i e4) M_X9_in u5_72 C hP hS rfl (by decide) hl.1 rfl (Nat.le_of_ble_eq_true rfl) dX9_roadOf_15 (fun H locs hP hS => ?_)
    refine lv_if_ne (tgt := 23) C.x C.b dX9_roadOf_18 (by decide) (fun c6 => ?_) (fun c6 => ?_)
    · have h := (if_neg c6).symm.trans h
      refine lv_iload_n C.x C.b dX9_roadOf_23 rfl (lv_at hl 3 rfl) ?_
      refine lv_if_ne (tgt := 40) C.x C.b dX9_roadOf_24 (by decide) (fun c7 => ?_) (fun c7 => ?_)
      · have h := (if_neg c7).symm.trans h
        refine lv_iload_n C.x C.b dX9_roadOf_40 rfl (lv_at hl 3 rfl) ?_
        refine lv_iconst (v := 1) C.x C.b dX9_roadOf_41 (by decide) ?_
        refine lv_icmp_ne (tgt := 58) C.x C.b dX9_roadOf_42 (by decide) (fun c8 => ?_) (fun c8 => ?_)
        · have h := (if_neg c8).symm.trans h
          refine lv_aload_n C.x C.b dX9_roadOf_58 rfl (lv_at hl 0 rfl) ?_
          refine lv_iload_n C.x C.b dX9_roadOf_59 rfl (lv_at hl 1 rfl) ?_
          refine lv_iload_n C.x C.b dX9_roadOf_60 rfl (lv_at hl 2 rfl) ?_
          obtain ⟨r10, e9, h⟩ := bnv_some h
          refine k_vi (k := 122) (as := [.int x1, .int x2]) (rest := []) (c_X9_costOf C.i e9) M_X9_costOf u5_111 C hP hS sh_122 rfl rfl (by decide) hl.1 rfl (Nat.le_of_ble_eq_true rfl) dX9_roadOf_61 (fun H locs hP hS => ?_)
          exact r_i (pr_some h) C hP hS dX9_roadOf_64
        · have h := (if_pos c8).symm.trans h
          refine lv_aload_n C.x C.b dX9_roadOf_45 rfl (lv_at hl 0 rfl) ?_
          refine g_ref (k' := 126) F_9_5 u4_134 C hP sh_122 rfl dX9_roadOf_46 ?_
          refine lv_iconst (v := 5) C.x C.b dX9_roadOf_49 (by decide) ?_
          refine lv_iload_n C.x C.b dX9_roadOf_50 rfl (lv_at hl 1 rfl) ?_
          refine lv_imul C.x C.b dX9_roadOf_51 ?_
          refine lv_iload_n C.x C.b dX9_roadOf_52 rfl (lv_at hl 2 rfl) ?_
          refine lv_iadd C.x C.b dX9_roadOf_53 ?_
          obtain ⟨g11, h⟩ := grd_some h
          refine a_i C hP sh_126 g11 dX9_roadOf_54 ?_
          refine lv_goto (tgt := 64) C.x C.b dX9_roadOf_55 (by decide) ?_
          exact r_i (pr_some h) C hP hS dX9_roadOf_64
      · have h := (if_pos c7).symm.trans h
        refine lv_aload_n C.x C.b dX9_roadOf_27 rfl (lv_at hl 0 rfl) ?_
        refine g_ref (k' := 125) F_9_4 u4_133 C hP sh_122 rfl dX9_roadOf_28 ?_
        refine lv_iconst (v := 5) C.x C.b dX9_roadOf_31 (by decide) ?_
        refine lv_iload_n C.x C.b dX9_roadOf_32 rfl (lv_at hl 1 rfl) ?_
        refine lv_imul C.x C.b dX9_roadOf_33 ?_
        refine lv_iload_n C.x C.b dX9_roadOf_34 rfl (lv_at hl 2 rfl) ?_
        refine lv_iadd C.x C.b dX9_roadOf_35 ?_
        obtain ⟨g12, h⟩ := grd_some h
        refine a_i C hP sh_125 g12 dX9_roadOf_36 ?_
        refine lv_goto (tgt := 64) C.x C.b dX9_roadOf_37 (by decide) ?_
        exact r_i (pr_some h) C hP hS dX9_roadOf_64
    · have h := (if_pos c6).symm.trans h
      refine lv_iconst (v := (-1)) C.x C.b dX9_roadOf_21 (by decide) ?_
      exact r_i (pr_some h) C hP hS dX9_roadOf_22

set_option maxRecDepth 100000 in
set_option maxHeartbeats 4000000 in
theorem c_X9_roadOf {l : Launch} {G : Gp} (hI : Wi G) {x1 : Int32} {x2 : Int32} {x3 : Int32} {μ : Mem} {r : Int32} (h : f_X9_roadOf x1 x2 x3 μ = some r) : CI l yX9_roadOf cX9_roadOf 4 (some .int) 2 47 G [.ref (G.2.2 122), .int x1, .int x2, .int x3] μ r μ :=
  e_all (lv := [(0, .ref (G.2.2 122)), (1, .int x1), (2, .int x2), (3, .int x3)]) hI (by decide) (Nat.le_of_ble_eq_true rfl) rfl (fun p e s m args below meth c ls C hP hS hl => b_X9_roadOf C h _ _ _ hP hS hl)


def f_X9_here  (μ : Mem) : Option Int32 := if (μ.1 122 24) ≤ (μ.1 122 31) then (some ((-1))) else (grd (inb (μ.1 122 31) 100) (some (μ.1 137 (μ.1 122 31).toNatClampNeg)))
set_option maxRecDepth 100000 in
set_option maxHeartbeats 4000000 in
theorem b_X9_here {p : Program} {l : Launch} {e : Env} {s : State} {m : MethodId} {args : Array Value} {below : List Frame} {meth : Method} {c : Code} {G : Gp} {O : Int32} (C : Cx p s m args meth c cX9_here 1 RX9 (some .int) G) {μ : Mem} (h : f_X9_here μ = some O) : ∀ (H : Heap) (locs : List Loc) (ls : Array Slot), Wm G μ H → va_S (wA G) s.heap H locs → lv_has ls 1 [(0, .ref (G.2.2 122))] → W p l e (rmm 0 0) s m args below meth c H locs 0 0 (QI below args s G (O, μ)) (F0 m 0 ls []) := by
  unfold f_X9_here at h
  intro H locs ls hP hS hl
  refine lv_aload_n C.x C.b dX9_here_0 rfl (lv_at hl 0 rfl) ?_
  refine g_int F_9_31 u4_160 C hP sh_122 dX9_here_1 ?_
  refine lv_aload_n C.x C.b dX9_here_4 rfl (lv_at hl 0 rfl) ?_
  refine g_int F_9_24 u4_153 C hP sh_122 dX9_here_5 ?_
  refine lv_icmp_ge (tgt := 23) C.x C.b dX9_here_8 (by decide) (fun c1 => ?_) (fun c1 => ?_)
  · have h := (if_pos c1).symm.trans h
    refine lv_iconst (v := (-1)) C.x C.b dX9_here_23 (by decide) ?_
    exact r_i (pr_some h) C hP hS dX9_here_24
  · have h := (if_neg c1).symm.trans h
    refine lv_aload_n C.x C.b dX9_here_11 rfl (lv_at hl 0 rfl) ?_
    refine g_ref (k' := 137) F_9_23 u4_152 C hP sh_122 rfl dX9_here_12 ?_
    refine lv_aload_n C.x C.b dX9_here_15 rfl (lv_at hl 0 rfl) ?_
    refine g_int F_9_31 u4_160 C hP sh_122 dX9_here_16 ?_
    obtain ⟨g2, h⟩ := grd_some h
    refine a_i C hP sh_137 g2 dX9_here_19 ?_
    refine lv_goto (tgt := 24) C.x C.b dX9_here_20 (by decide) ?_
    exact r_i (pr_some h) C hP hS dX9_here_24

set_option maxRecDepth 100000 in
set_option maxHeartbeats 4000000 in
theorem c_X9_here {l : Launch} {G : Gp} (hI : Wi G) {μ : Mem} {r : Int32} (h : f_X9_here μ = some r) : CI l yX9_here cX9_here 1 (some .int) 0 0 G [.ref (G.2.2 122)] μ r μ :=
  e_all (lv := [(0, .ref (G.2.2 122))]) hI (by decide) (Nat.le_of_ble_eq_true rfl) rfl (fun p e s m args below meth c ls C hP hS hl => b_X9_here C h _ _ _ hP hS hl)


def f_X9_takes_46 (x1 : Int32) (x2 : Int32)  (z0 : Int32) (μ : Mem) : Option (Int32 × Mem) := if (μ.1 122 32) = 0 then (lt (st μ 122 31 ((μ.1 122 31) + 1)) (fun μ2 => some (z0, μ2))) else (lt (st μ 122 31 ((μ.1 122 31) + 0)) (fun μ3 => some (z0, μ3)))
set_option maxRecDepth 100000 in
set_option maxHeartbeats 4000000 in
theorem b_X9_takes_46 {p : Program} {l : Launch} {e : Env} {s : State} {m : MethodId} {args : Array Value} {below : List Frame} {meth : Method} {c : Code} {G : Gp} {O : (Int32 × Mem)} (C : Cx p s m args meth c cX9_takes 4 RX9 (some .int) G) {x1 : Int32} {x2 : Int32} : ∀ (z0 : Int32) (μ : Mem), f_X9_takes_46 x1 x2 z0 μ = some O → ∀ (H : Heap) (locs : List Loc) (ls : Array Slot), Wm G μ H → va_S (wA G) s.heap H locs → lv_has ls 4 [(0, .ref (G.2.2 122))] → W p l e (rmm 1 25) s m args below meth c H locs 0 0 (QI below args s G O) (F0 m 46 ls [.int z0]) := by
  intro z0 μ h H locs ls hP hS hl
  unfold f_X9_takes_46 at h
  refine lv_istore_n (lv' := [(3, .int z0), (0, .ref (G.2.2 122))]) C.x C.b dX9_takes_46 rfl hl (by decide) rfl (fun ls hl => ?_)
  refine lv_aload_n C.x C.b dX9_takes_47 rfl (lv_at hl 1 rfl) ?_
  refine lv_dup C.x C.b dX9_takes_48 rfl ?_
  refine g_int F_9_31 u4_160 C hP sh_122 dX9_takes_49 ?_
  refine lv_aload_n C.x C.b dX9_takes_52 rfl (lv_at hl 1 rfl) ?_
  refine g_int F_9_32 u4_161 C hP sh_122 dX9_takes_53 ?_
  refine lv_if_eq (tgt := 63) C.x C.b dX9_takes_56 (by decide) (fun c1 => ?_) (fun c1 => ?_)
  · have h := (if_pos c1).symm.trans h
    refine lv_iconst (v := 1) C.x C.b dX9_takes_63 (by decide) ?_
    refine lv_iadd C.x C.b dX9_takes_64 ?_
    refine p_int F_9_31 P_9_31 u4_160 C hP hS sh_122 dX9_takes_65 (fun H locs hP hS => ?_)
    obtain ⟨μ2, m_μ2, h⟩ := lt_ex h
    have hP : Wm G μ2 H := by rw [m_μ2]; exact hP
    refine lv_iload_n C.x C.b dX9_takes_68 rfl (lv_at hl 0 rfl) ?_
    exact r_i h C hP hS dX9_takes_69
  · have h := (if_neg c1).symm.trans h
    refine lv_iconst (v := 0) C.x C.b dX9_takes_59 (by decide) ?_
    refine lv_goto (tgt := 64) C.x C.b dX9_takes_60 (by decide) ?_
    refine lv_iadd C.x C.b dX9_takes_64 ?_
    refine p_int F_9_31 P_9_31 u4_160 C hP hS sh_122 dX9_takes_65 (fun H locs hP hS => ?_)
    obtain ⟨μ3, m_μ3, h⟩ := lt_ex h
    have hP : Wm G μ3 H := by rw [m_μ3]; exact hP
    refine lv_iload_n C.x C.b dX9_takes_68 rfl (lv_at hl 0 rfl) ?_
    exact r_i h C hP hS dX9_takes_69

def f_X9_takes_25 (x1 : Int32) (x2 : Int32)  (z1 : Int32) (z2 : Int32) (μ : Mem) : Option (Int32 × Mem) := grd (isB (z1 ||| z2)) (lt (st μ 122 32 (z1 ||| z2)) (fun μ2 => if (μ2.1 122 32) = 0 then (bnv (f_X9_here μ2) (fun r5 => f_X9_takes_46 x1 x2 (r5 - x1) μ2)) else (f_X9_takes_46 x1 x2 0 μ2)))
set_option maxRecDepth 100000 in
set_option maxHeartbeats 4000000 in
theorem b_X9_takes_25 {p : Program} {l : Launch} {e : Env} {s : State} {m : MethodId} {args : Array Value} {below : List Frame} {meth : Method} {c : Code} {G : Gp} {O : (Int32 × Mem)} (C : Cx p s m args meth c cX9_takes 4 RX9 (some .int) G) {x1 : Int32} {x2 : Int32} : ∀ (z1 : Int32) (z2 : Int32) (μ : Mem), f_X9_takes_25 x1 x2 z1 z2 μ = some O → ∀ (H : Heap) (locs : List Loc) (ls : Array Slot), Wm G μ H → va_S (wA G) s.heap H locs → lv_has ls 4 [(0, .ref (G.2.2 122)), (1, .int x1)] → W p l e (rmm 1 25) s m args below meth c H locs 0 0 (QI below args s G O) (F0 m 25 ls [.int z2, .int z1, .ref (G.2.2 122)]) := by
  intro z1 z2 μ h H locs ls hP hS hl
  unfold f_X9_takes_25 at h
  refine lv_ior C.x C.b dX9_takes_25 ?_
  obtain ⟨g1, h⟩ := grd_some h
  refine p_boo F_9_32 P_9_32 u4_161 g1 C hP hS sh_122 dX9_takes_26 (fun H locs hP hS => ?_)
  obtain ⟨μ2, m_μ2, h⟩ := lt_ex h
  have hP : Wm G μ2 H := by rw [m_μ2]; exact hP
  refine lv_aload_n C.x C.b dX9_takes_29 rfl (lv_at hl 0 rfl) ?_
  refine g_int F_9_32 u4_161 C hP sh_122 dX9_takes_30 ?_
  refine lv_if_eq (tgt := 40) C.x C.b dX9_takes_33 (by decide) (fun c3 => ?_) (fun c3 => ?_)
  · have h := (if_pos c3).symm.trans h
    refine lv_aload_n C.x C.b dX9_takes_40 rfl (lv_at hl 0 rfl) ?_
    obtain ⟨r5, e4, h⟩ := bnv_some h
    refine k_vi (k := 122) (as := []) (rest := []) (c_X9_here C.i e4) M_X9_here u5_132 C hP hS sh_122 rfl rfl (by decide) hl.1 rfl (Nat.le_of_ble_eq_true rfl) dX9_takes_41 (fun H locs hP hS => ?_)
    refine lv_iload_n C.x C.b dX9_takes_44 rfl (lv_at hl 1 rfl) ?_
    refine lv_isub C.x C.b dX9_takes_45 ?_
    exact b_X9_takes_46 C (r5 - x1) μ2 h _ _ _ hP hS (lv_sub hl [0] rfl)
  · have h := (if_neg c3).symm.trans h
    refine lv_iconst (v := 0) C.x C.b dX9_takes_36 (by decide) ?_
    refine lv_goto (tgt := 46) C.x C.b dX9_takes_37 (by decide) ?_
    exact b_X9_takes_46 C 0 μ2 h _ _ _ hP hS (lv_sub hl [0] rfl)

def f_X9_takes (x1 : Int32) (x2 : Int32) (μ : Mem) : Option (Int32 × Mem) := bnv (f_X9_here μ) (fun r2 => bnv (f_X9_in (Int32.toInt64 r2) (Int32.toInt64 x1) (Int32.toInt64 x2) μ) (fun r4 => if r4 = 0 then (f_X9_takes_25 x1 x2 (μ.1 122 32) 1 μ) else (f_X9_takes_25 x1 x2 (μ.1 122 32) 0 μ)))
set_option maxRecDepth 100000 in
set_option maxHeartbeats 4000000 in
theorem b_X9_takes {p : Program} {l : Launch} {e : Env} {s : State} {m : MethodId} {args : Array Value} {below : List Frame} {meth : Method} {c : Code} {G : Gp} {O : (Int32 × Mem)} (C : Cx p s m args meth c cX9_takes 4 RX9 (some .int) G) {x1 : Int32} {x2 : Int32} {μ : Mem} (h : f_X9_takes x1 x2 μ = some O) : ∀ (H : Heap) (locs : List Loc) (ls : Array Slot), Wm G μ H → va_S (wA G) s.heap H locs → lv_has ls 4 [(0, .ref (G.2.2 122)), (1, .int x1), (2, .int x2)] → W p l e (rmm 1 25) s m args below meth c H locs 0 0 (QI below args s G O) (F0 m 0 ls []) := by
  unfold f_X9_takes at h
  intro H locs ls hP hS hl
  refine lv_aload_n C.x C.b dX9_takes_0 rfl (lv_at hl 0 rfl) ?_
  refine lv_dup C.x C.b dX9_takes_1 rfl ?_
  refine g_int F_9_32 u4_161 C hP sh_122 dX9_takes_2 ?_
  refine lv_aload_n C.x C.b dX9_takes_5 rfl (lv_at hl 0 rfl) ?_
  obtain ⟨r2, e1, h⟩ := bnv_some h
  refine k_vi (k := 122) (as := []) (rest := [.int (μ.1 122 32), .ref (G.2.2 122)]) (c_X9_here C.i e1) M_X9_here u5_132 C hP hS sh_122 rfl rfl (by decide) hl.1 rfl (Nat.le_of_ble_eq_true rfl) dX9_takes_6 (fun H locs hP hS => ?_)
  refine lv_i2l (v := Int32.toInt64 r2) C.x C.b dX9_takes_9 rfl ?_
  refine lv_iload_n C.x C.b dX9_takes_10 rfl (lv_at hl 1 rfl) ?_
  refine lv_i2l (v := Int32.toInt64 x1) C.x C.b dX9_takes_11 rfl ?_
  refine lv_iload_n C.x C.b dX9_takes_12 rfl (lv_at hl 2 rfl) ?_
  refine lv_i2l (v := Int32.toInt64 x2) C.x C.b dX9_takes_13 rfl ?_
  obtain ⟨r4, e3, h⟩ := bnv_some h
  refine k_si (as := [.long (Int32.toInt64 r2), .long (Int32.toInt64 x1), .long (Int32.toInt64 x2)]) (rest := [.int (μ.1 122 32), .ref (G.2.2 122)]) (c_X9_in C.i e3) M_X9_in u5_72 C hP hS rfl (by decide) hl.1 rfl (Nat.le_of_ble_eq_true rfl) dX9_takes_14 (fun H locs hP hS => ?_)
  refine lv_if_ne (tgt := 24) C.x C.b dX9_takes_17 (by decide) (fun c5 => ?_) (fun c5 => ?_)
  · have h := (if_neg c5).symm.trans h
    refine lv_iconst (v := 0) C.x C.b dX9_takes_24 (by decide) ?_
    exact b_X9_takes_25 C (μ.1 122 32) 0 μ h _ _ _ hP hS (lv_sub hl [0, 1] rfl)
  · have h := (if_pos c5).symm.trans h
    refine lv_iconst (v := 1) C.x C.b dX9_takes_20 (by decide) ?_
    refine lv_goto (tgt := 25) C.x C.b dX9_takes_21 (by decide) ?_
    exact b_X9_takes_25 C (μ.1 122 32) 1 μ h _ _ _ hP hS (lv_sub hl [0, 1] rfl)

set_option maxRecDepth 100000 in
set_option maxHeartbeats 4000000 in
theorem c_X9_takes {l : Launch} {G : Gp} (hI : Wi G) {x1 : Int32} {x2 : Int32} {μ : Mem} {r : Int32} {μ' : Mem} (h : f_X9_takes x1 x2 μ = some (r, μ')) : CI l yX9_takes cX9_takes 4 (some .int) 1 25 G [.ref (G.2.2 122), .int x1, .int x2] μ r μ' :=
  e_all (lv := [(0, .ref (G.2.2 122)), (1, .int x1), (2, .int x2)]) hI (by decide) (Nat.le_of_ble_eq_true rfl) rfl (fun p e s m args below meth c ls C hP hS hl => b_X9_takes C h _ _ _ hP hS hl)


def f_X9_takesNumber  (μ : Mem) : Option (Int32 × Mem) := bnd (f_X9_takes 48 57 μ) (fun r2 μ3 => if (μ3.1 122 32) = 0 then (bnv (f_X9_here μ3) (fun r6 => bnv (f_X9_in (Int32.toInt64 r6) 48 57 μ3) (fun r8 => if r8 = 0 then (some (r2, μ3)) else (bnd (f_X9_takes 48 57 μ3) (fun r11 μ12 => some ((10 * r2) + r11, μ12)))))) else (some (r2, μ3)))
set_option maxRecDepth 100000 in
set_option maxHeartbeats 4000000 in
theorem b_X9_takesNumber {p : Program} {l : Launch} {e : Env} {s : State} {m : MethodId} {args : Array Value} {below : List Frame} {meth : Method} {c : Code} {G : Gp} {O : (Int32 × Mem)} (C : Cx p s m args meth c cX9_takesNumber 2 RX9 (some .int) G) {μ : Mem} (h : f_X9_takesNumber μ = some O) : ∀ (H : Heap) (locs : List Loc) (ls : Array Slot), Wm G μ H → va_S (wA G) s.heap H locs → lv_has ls 2 [(0, .ref (G.2.2 122))] → W p l e (rmm 2 48) s m args below meth c H locs 0 0 (QI below args s G O) (F0 m 0 ls []) := by
  unfold f_X9_takesNumber at h
  intro H locs ls hP hS hl
  refine lv_aload_n C.x C.b dX9_takesNumber_0 rfl (lv_at hl 0 rfl) ?_
  refine lv_bipush (v := 48) C.x C.b dX9_takesNumber_1 (by decide) ?_
  refine lv_bipush (v := 57) C.x C.b dX9_takesNumber_3 (by decide) ?_
  obtain ⟨r2, μ3, e1, h⟩ := bnd_some h
  refine k_vi (k := 122) (as := [.int 48, .int 57]) (rest := []) (c_X9_takes C.i e1) M_X9_takes u5_136 C hP hS sh_122 rfl rfl (by decide) hl.1 rfl (Nat.le_of_ble_eq_true rfl) dX9_takesNumber_5 (fun H locs hP hS => ?_)
  refine lv_istore_n (lv' := [(1, .int r2), (0, .ref (G.2.2 122))]) C.x C.b dX9_takesNumber_8 rfl hl (by decide) rfl (fun ls hl => ?_)
  refine lv_aload_n C.x C.b dX9_takesNumber_9 rfl (lv_at hl 1 rfl) ?_
  refine g_int F_9_32 u4_161 C hP sh_122 dX9_takesNumber_10 ?_
  refine lv_if_ne (tgt := 49) C.x C.b dX9_takesNumber_13 (by decide) (fun c4 => ?_) (fun c4 => ?_)
  · have h := (if_neg c4).symm.trans h
    refine lv_iload_n C.x C.b dX9_takesNumber_49 rfl (lv_at hl 0 rfl) ?_
    exact r_i h C hP hS dX9_takesNumber_50
  · have h := (if_pos c4).symm.trans h
    refine lv_aload_n C.x C.b dX9_takesNumber_16 rfl (lv_at hl 1 rfl) ?_
    obtain ⟨r6, e5, h⟩ := bnv_some h
    refine k_vi (k := 122) (as := []) (rest := []) (c_X9_here C.i e5) M_X9_here u5_132 C hP hS sh_122 rfl rfl (by decide) hl.1 rfl (Nat.le_of_ble_eq_true rfl) dX9_takesNumber_17 (fun H locs hP hS => ?_)
    refine lv_i2l (v := Int32.toInt64 r6) C.x C.b dX9_takesNumber_20 rfl ?_
    refine lv_ldc2 (own := RX9) (v := 48) C.x C.b C.o (C.t _ u5_148) dX9_takesNumber_21 ?_
    refine lv_ldc2 (own := RX9) (v := 57) C.x C.b C.o (C.t _ u5_149) dX9_takesNumber_24 ?_
    obtain ⟨r8, e7, h⟩ := bnv_some h
    refine k_si (as := [.long (Int32.toInt64 r6), .long 48, .long 57]) (rest := []) (c_X9_in C.i e7) M_X9_in u5_72 C hP hS rfl (by decide) hl.1 rfl (Nat.le_of_ble_eq_true rfl) dX9_takesNumber_27 (fun H locs hP hS => ?_)
    refine lv_if_eq (tgt := 49) C.x C.b dX9_takesNumber_30 (by decide) (fun c9 => ?_) (fun c9 => ?_)
    · have h := (if_pos c9).symm.trans h
      refine lv_iload_n C.x C.b dX9_takesNumber_49 rfl (lv_at hl 0 rfl) ?_
      exact r_i h C hP hS dX9_takesNumber_50
    · have h := (if_neg c9).symm.trans h
      refine lv_bipush (v := 10) C.x C.b dX9_takesNumber_33 (by decide) ?_
      refine lv_iload_n C.x C.b dX9_takesNumber_35 rfl (lv_at hl 0 rfl) ?_
      refine lv_imul C.x C.b dX9_takesNumber_36 ?_
      refine lv_aload_n C.x C.b dX9_takesNumber_37 rfl (lv_at hl 1 rfl) ?_
      refine lv_bipush (v := 48) C.x C.b dX9_takesNumber_38 (by decide) ?_
      refine lv_bipush (v := 57) C.x C.b dX9_takesNumber_40 (by decide) ?_
      obtain ⟨r11, μ12, e10, h⟩ := bnd_some h
      refine k_vi (k := 122) (as := [.int 48, .int 57]) (rest := [.int (10 * r2)]) (c_X9_takes C.i e10) M_X9_takes u5_136 C hP hS sh_122 rfl rfl (by decide) hl.1 rfl (Nat.le_of_ble_eq_true rfl) dX9_takesNumber_42 (fun H locs hP hS => ?_)
      refine lv_iadd C.x C.b dX9_takesNumber_45 ?_
      refine lv_goto (tgt := 50) C.x C.b dX9_takesNumber_46 (by decide) ?_
      exact r_i h C hP hS dX9_takesNumber_50

set_option maxRecDepth 100000 in
set_option maxHeartbeats 4000000 in
theorem c_X9_takesNumber {l : Launch} {G : Gp} (hI : Wi G) {μ : Mem} {r : Int32} {μ' : Mem} (h : f_X9_takesNumber μ = some (r, μ')) : CI l yX9_takesNumber cX9_takesNumber 2 (some .int) 2 48 G [.ref (G.2.2 122)] μ r μ' :=
  e_all (lv := [(0, .ref (G.2.2 122))]) hI (by decide) (Nat.le_of_ble_eq_true rfl) rfl (fun p e s m args below meth c ls C hP hS hl => b_X9_takesNumber C h _ _ _ hP hS hl)


def f_X9_takesKind_61   (x2 : Int32) (z1 : Int32) (z2 : Int32) (μ : Mem) : Option (Int32 × Mem) := grd (isB (z1 ||| z2)) (lt (st μ 122 32 (z1 ||| z2)) (fun μ2 => if (μ2.1 122 32) = 0 then (lt (st μ2 122 31 ((μ2.1 122 31) + 1)) (fun μ4 => some (x2, μ4))) else (lt (st μ2 122 31 ((μ2.1 122 31) + 0)) (fun μ5 => some (x2, μ5)))))
set_option maxRecDepth 100000 in
set_option maxHeartbeats 4000000 in
theorem b_X9_takesKind_61 {p : Program} {l : Launch} {e : Env} {s : State} {m : MethodId} {args : Array Value} {below : List Frame} {meth : Method} {c : Code} {G : Gp} {O : (Int32 × Mem)} (C : Cx p s m args meth c cX9_takesKind 3 RX9 (some .int) G) : ∀ (x2 : Int32) (z1 : Int32) (z2 : Int32) (μ : Mem), f_X9_takesKind_61 x2 z1 z2 μ = some O → ∀ (H : Heap) (locs : List Loc) (ls : Array Slot), Wm G μ H → va_S (wA G) s.heap H locs → lv_has ls 3 [(0, .ref (G.2.2 122)), (2, .int x2)] → W p l e (rmm 1 20) s m args below meth c H locs 0 0 (QI below args s G O) (F0 m 61 ls [.int z2, .int z1, .ref (G.2.2 122)]) := by
  intro x2 z1 z2 μ h H locs ls hP hS hl
  unfold f_X9_takesKind_61 at h
  refine lv_ior C.x C.b dX9_takesKind_61 ?_
  obtain ⟨g1, h⟩ := grd_some h
  refine p_boo F_9_32 P_9_32 u4_161 g1 C hP hS sh_122 dX9_takesKind_62 (fun H locs hP hS => ?_)
  obtain ⟨μ2, m_μ2, h⟩ := lt_ex h
  have hP : Wm G μ2 H := by rw [m_μ2]; exact hP
  refine lv_aload_n C.x C.b dX9_takesKind_65 rfl (lv_at hl 0 rfl) ?_
  refine lv_dup C.x C.b dX9_takesKind_66 rfl ?_
  refine g_int F_9_31 u4_160 C hP sh_122 dX9_takesKind_67 ?_
  refine lv_aload_n C.x C.b dX9_takesKind_70 rfl (lv_at hl 0 rfl) ?_
  refine g_int F_9_32 u4_161 C hP sh_122 dX9_takesKind_71 ?_
  refine lv_if_eq (tgt := 81) C.x C.b dX9_takesKind_74 (by decide) (fun c3 => ?_) (fun c3 => ?_)
  · have h := (if_pos c3).symm.trans h
    refine lv_iconst (v := 1) C.x C.b dX9_takesKind_81 (by decide) ?_
    refine lv_iadd C.x C.b dX9_takesKind_82 ?_
    refine p_int F_9_31 P_9_31 u4_160 C hP hS sh_122 dX9_takesKind_83 (fun H locs hP hS => ?_)
    obtain ⟨μ4, m_μ4, h⟩ := lt_ex h
    have hP : Wm G μ4 H := by rw [m_μ4]; exact hP
    refine lv_iload_n C.x C.b dX9_takesKind_86 rfl (lv_at hl 1 rfl) ?_
    exact r_i h C hP hS dX9_takesKind_87
  · have h := (if_neg c3).symm.trans h
    refine lv_iconst (v := 0) C.x C.b dX9_takesKind_77 (by decide) ?_
    refine lv_goto (tgt := 82) C.x C.b dX9_takesKind_78 (by decide) ?_
    refine lv_iadd C.x C.b dX9_takesKind_82 ?_
    refine p_int F_9_31 P_9_31 u4_160 C hP hS sh_122 dX9_takesKind_83 (fun H locs hP hS => ?_)
    obtain ⟨μ5, m_μ5, h⟩ := lt_ex h
    have hP : Wm G μ5 H := by rw [m_μ5]; exact hP
    refine lv_iload_n C.x C.b dX9_takesKind_86 rfl (lv_at hl 1 rfl) ?_
    exact r_i h C hP hS dX9_takesKind_87

def f_X9_takesKind_46   (z0 : Int32) (μ : Mem) : Option (Int32 × Mem) := if 0 ≤ z0 then (f_X9_takesKind_61 z0 (μ.1 122 32) 0 μ) else (f_X9_takesKind_61 z0 (μ.1 122 32) 1 μ)
set_option maxRecDepth 100000 in
set_option maxHeartbeats 4000000 in
theorem b_X9_takesKind_46 {p : Program} {l : Launch} {e : Env} {s : State} {m : MethodId} {args : Array Value} {below : List Frame} {meth : Method} {c : Code} {G : Gp} {O : (Int32 × Mem)} (C : Cx p s m args meth c cX9_takesKind 3 RX9 (some .int) G) : ∀ (z0 : Int32) (μ : Mem), f_X9_takesKind_46 z0 μ = some O → ∀ (H : Heap) (locs : List Loc) (ls : Array Slot), Wm G μ H → va_S (wA G) s.heap H locs → lv_has ls 3 [(0, .ref (G.2.2 122))] → W p l e (rmm 1 20) s m args below meth c H locs 0 0 (QI below args s G O) (F0 m 46 ls [.int z0]) := by
  intro z0 μ h H locs ls hP hS hl
  unfold f_X9_takesKind_46 at h
  refine lv_istore_n (lv' := [(2, .int z0), (0, .ref (G.2.2 122))]) C.x C.b dX9_takesKind_46 rfl hl (by decide) rfl (fun ls hl => ?_)
  refine lv_aload_n C.x C.b dX9_takesKind_47 rfl (lv_at hl 1 rfl) ?_
  refine lv_dup C.x C.b dX9_takesKind_48 rfl ?_
  refine g_int F_9_32 u4_161 C hP sh_122 dX9_takesKind_49 ?_
  refine lv_iload_n C.x C.b dX9_takesKind_52 rfl (lv_at hl 0 rfl) ?_
  refine lv_if_ge (tgt := 60) C.x C.b dX9_takesKind_53 (by decide) (fun c1 => ?_) (fun c1 => ?_)
  · have h := (if_pos c1).symm.trans h
    refine lv_iconst (v := 0) C.x C.b dX9_takesKind_60 (by decide) ?_
    exact b_X9_takesKind_61 C z0 (μ.1 122 32) 0 μ h _ _ _ hP hS (lv_sub hl [1, 0] rfl)
  · have h := (if_neg c1).symm.trans h
    refine lv_iconst (v := 1) C.x C.b dX9_takesKind_56 (by decide) ?_
    refine lv_goto (tgt := 61) C.x C.b dX9_takesKind_57 (by decide) ?_
    exact b_X9_takesKind_61 C z0 (μ.1 122 32) 1 μ h _ _ _ hP hS (lv_sub hl [1, 0] rfl)

def f_X9_takesKind  (μ : Mem) : Option (Int32 × Mem) := bnv (f_X9_here μ) (fun r2 => if r2 = 112 then (f_X9_takesKind_46 0 μ) else (if r2 = 116 then (f_X9_takesKind_46 1 μ) else (if r2 = 115 then (f_X9_takesKind_46 2 μ) else (if r2 = 120 then (f_X9_takesKind_46 3 μ) else (f_X9_takesKind_46 ((-1)) μ)))))
set_option maxRecDepth 100000 in
set_option maxHeartbeats 4000000 in
theorem b_X9_takesKind {p : Program} {l : Launch} {e : Env} {s : State} {m : MethodId} {args : Array Value} {below : List Frame} {meth : Method} {c : Code} {G : Gp} {O : (Int32 × Mem)} (C : Cx p s m args meth c cX9_takesKind 3 RX9 (some .int) G) {μ : Mem} (h : f_X9_takesKind μ = some O) : ∀ (H : Heap) (locs : List Loc) (ls : Array Slot), Wm G μ H → va_S (wA G) s.heap H locs → lv_has ls 3 [(0, .ref (G.2.2 122))] → W p l e (rmm 1 20) s m args below meth c H locs 0 0 (QI below args s G O) (F0 m 0 ls []) := by
  unfold f_X9_takesKind at h
  intro H locs ls hP hS hl
  refine lv_aload_n C.x C.b dX9_takesKind_0 rfl (lv_at hl 0 rfl) ?_
  obtain ⟨r2, e1, h⟩ := bnv_some h
  refine k_vi (k := 122) (as := []) (rest := []) (c_X9_here C.i e1) M_X9_here u5_132 C hP hS sh_122 rfl rfl (by decide) hl.1 rfl (Nat.le_of_ble_eq_true rfl) dX9_takesKind_1 (fun H locs hP hS => ?_)
  refine lv_istore_n (lv' := [(1, .int r2), (0, .ref (G.2.2 122))]) C.x C.b dX9_takesKind_4 rfl hl (by decide) rfl (fun ls hl => ?_)
  refine lv_iload_n C.x C.b dX9_takesKind_5 rfl (lv_at hl 0 rfl) ?_
  refine lv_bipush (v := 112) C.x C.b dX9_takesKind_6 (by decide) ?_
  refine lv_icmp_ne (tgt := 15) C.x C.b dX9_takesKind_8 (by decide) (fun c3 => ?_) (fun c3 => ?_)
  · have h := (if_neg c3).symm.trans h
    refine lv_iload_n C.x C.b dX9_takesKind_15 rfl (lv_at hl 0 rfl) ?_
    refine lv_bipush (v := 116) C.x C.b dX9_takesKind_16 (by decide) ?_
    refine lv_icmp_ne (tgt := 25) C.x C.b dX9_takesKind_18 (by decide) (fun c4 => ?_) (fun c4 => ?_)
    · have h := (if_neg c4).symm.trans h
      refine lv_iload_n C.x C.b dX9_takesKind_25 rfl (lv_at hl 0 rfl) ?_
      refine lv_bipush (v := 115) C.x C.b dX9_takesKind_26 (by decide) ?_
      refine lv_icmp_ne (tgt := 35) C.x C.b dX9_takesKind_28 (by decide) (fun c5 => ?_) (fun c5 => ?_)
      · have h := (if_neg c5).symm.trans h
        refine lv_iload_n C.x C.b dX9_takesKind_35 rfl (lv_at hl 0 rfl) ?_
        refine lv_bipush (v := 120) C.x C.b dX9_takesKind_36 (by decide) ?_
        refine lv_icmp_ne (tgt := 45) C.x C.b dX9_takesKind_38 (by decide) (fun c6 => ?_) (fun c6 => ?_)
        · have h := (if_neg c6).symm.trans h
          refine lv_iconst (v := (-1)) C.x C.b dX9_takesKind_45 (by decide) ?_
          exact b_X9_takesKind_46 C ((-1)) μ h _ _ _ hP hS (lv_sub hl [1] rfl)
        · have h := (if_pos c6).symm.trans h
          refine lv_iconst (v := 3) C.x C.b dX9_takesKind_41 (by decide) ?_
          refine lv_goto (tgt := 46) C.x C.b dX9_takesKind_42 (by decide) ?_
          exact b_X9_takesKind_46 C 3 μ h _ _ _ hP hS (lv_sub hl [1] rfl)
      · have h := (if_pos c5).symm.trans h
        refine lv_iconst (v := 2) C.x C.b dX9_takesKind_31 (by decide) ?_
        refine lv_goto (tgt := 46) C.x C.b dX9_takesKind_32 (by decide) ?_
        exact b_X9_takesKind_46 C 2 μ h _ _ _ hP hS (lv_sub hl [1] rfl)
    · have h := (if_pos c4).symm.trans h
      refine lv_iconst (v := 1) C.x C.b dX9_takesKind_21 (by decide) ?_
      refine lv_goto (tgt := 46) C.x C.b dX9_takesKind_22 (by decide) ?_
      exact b_X9_takesKind_46 C 1 μ h _ _ _ hP hS (lv_sub hl [1] rfl)
  · have h := (if_pos c3).symm.trans h
    refine lv_iconst (v := 0) C.x C.b dX9_takesKind_11 (by decide) ?_
    refine lv_goto (tgt := 46) C.x C.b dX9_takesKind_12 (by decide) ?_
    exact b_X9_takesKind_46 C 0 μ h _ _ _ hP hS (lv_sub hl [1] rfl)

set_option maxRecDepth 100000 in
set_option maxHeartbeats 4000000 in
theorem c_X9_takesKind {l : Launch} {G : Gp} (hI : Wi G) {μ : Mem} {r : Int32} {μ' : Mem} (h : f_X9_takesKind μ = some (r, μ')) : CI l yX9_takesKind cX9_takesKind 3 (some .int) 1 20 G [.ref (G.2.2 122)] μ r μ' :=
  e_all (lv := [(0, .ref (G.2.2 122))]) hI (by decide) (Nat.le_of_ble_eq_true rfl) rfl (fun p e s m args below meth c ls C hP hS hl => b_X9_takesKind C h _ _ _ hP hS hl)


def f_X9_clause_182 (x1 : Int32)  (x3 : Int32) (z1 : Int32) (z2 : Int32) (μ : Mem) : Option Mem := lt (st μ 122 33 (z1 + z2)) (fun μ1 => if x3 < 0 then (lt (st μ1 122 34 ((μ1.1 122 34) + 0)) (fun μ3 => some μ3)) else (lt (st μ1 122 34 ((μ1.1 122 34) + 1)) (fun μ4 => some μ4)))
set_option maxRecDepth 100000 in
set_option maxHeartbeats 4000000 in
theorem b_X9_clause_182 {p : Program} {l : Launch} {e : Env} {s : State} {m : MethodId} {args : Array Value} {below : List Frame} {meth : Method} {c : Code} {G : Gp} {O : Mem} (C : Cx p s m args meth c cX9_clause 8 RX9 none G) {x1 : Int32} : ∀ (x3 : Int32) (z1 : Int32) (z2 : Int32) (μ : Mem), f_X9_clause_182 x1 x3 z1 z2 μ = some O → ∀ (H : Heap) (locs : List Loc) (ls : Array Slot), Wm G μ H → va_S (wA G) s.heap H locs → lv_has ls 8 [(0, .ref (G.2.2 122)), (3, .int x3)] → W p l e (rmm 3 72) s m args below meth c H locs 0 0 (QV below args s G O) (F0 m 182 ls [.int z2, .int z1, .ref (G.2.2 122)]) := by
  intro x3 z1 z2 μ h H locs ls hP hS hl
  unfold f_X9_clause_182 at h
  refine lv_iadd C.x C.b dX9_clause_182 ?_
  refine p_int F_9_33 P_9_33 u4_162 C hP hS sh_122 dX9_clause_183 (fun H locs hP hS => ?_)
  obtain ⟨μ1, m_μ1, h⟩ := lt_ex h
  have hP : Wm G μ1 H := by rw [m_μ1]; exact hP
  refine lv_aload_n C.x C.b dX9_clause_186 rfl (lv_at hl 0 rfl) ?_
  refine lv_dup C.x C.b dX9_clause_187 rfl ?_
  refine g_int F_9_34 u4_163 C hP sh_122 dX9_clause_188 ?_
  refine lv_iload_n C.x C.b dX9_clause_191 rfl (lv_at hl 1 rfl) ?_
  refine lv_if_lt (tgt := 199) C.x C.b dX9_clause_192 (by decide) (fun c2 => ?_) (fun c2 => ?_)
  · have h := (if_pos c2).symm.trans h
    refine lv_iconst (v := 0) C.x C.b dX9_clause_199 (by decide) ?_
    refine lv_iadd C.x C.b dX9_clause_200 ?_
    refine p_int F_9_34 P_9_34 u4_163 C hP hS sh_122 dX9_clause_201 (fun H locs hP hS => ?_)
    obtain ⟨μ3, m_μ3, h⟩ := lt_ex h
    have hP : Wm G μ3 H := by rw [m_μ3]; exact hP
    exact r_v h C hP hS dX9_clause_204
  · have h := (if_neg c2).symm.trans h
    refine lv_iconst (v := 1) C.x C.b dX9_clause_195 (by decide) ?_
    refine lv_goto (tgt := 200) C.x C.b dX9_clause_196 (by decide) ?_
    refine lv_iadd C.x C.b dX9_clause_200 ?_
    refine p_int F_9_34 P_9_34 u4_163 C hP hS sh_122 dX9_clause_201 (fun H locs hP hS => ?_)
    obtain ⟨μ4, m_μ4, h⟩ := lt_ex h
    have hP : Wm G μ4 H := by rw [m_μ4]; exact hP
    exact r_v h C hP hS dX9_clause_204

def f_X9_clause_165 (x1 : Int32)  (x3 : Int32) (μ : Mem) : Option Mem := if (μ.1 122 32) = 0 then (f_X9_clause_182 x1 x3 (μ.1 122 33) 1 μ) else (f_X9_clause_182 x1 x3 (μ.1 122 33) 0 μ)
set_option maxRecDepth 100000 in
set_option maxHeartbeats 4000000 in
theorem b_X9_clause_165 {p : Program} {l : Launch} {e : Env} {s : State} {m : MethodId} {args : Array Value} {below : List Frame} {meth : Method} {c : Code} {G : Gp} {O : Mem} (C : Cx p s m args meth c cX9_clause 8 RX9 none G) {x1 : Int32} : ∀ (x3 : Int32) (μ : Mem), f_X9_clause_165 x1 x3 μ = some O → ∀ (H : Heap) (locs : List Loc) (ls : Array Slot), Wm G μ H → va_S (wA G) s.heap H locs → lv_has ls 8 [(0, .ref (G.2.2 122)), (3, .int x3)] → W p l e (rmm 3 72) s m args below meth c H locs 0 0 (QV below args s G O) (F0 m 165 ls []) := by
  intro x3 μ h H locs ls hP hS hl
  unfold f_X9_clause_165 at h
  refine lv_aload_n C.x C.b dX9_clause_165 rfl (lv_at hl 0 rfl) ?_
  refine lv_dup C.x C.b dX9_clause_166 rfl ?_
  refine g_int F_9_33 u4_162 C hP sh_122 dX9_clause_167 ?_
  refine lv_aload_n C.x C.b dX9_clause_170 rfl (lv_at hl 0 rfl) ?_
  refine g_int F_9_32 u4_161 C hP sh_122 dX9_clause_171 ?_
  refine lv_if_eq (tgt := 181) C.x C.b dX9_clause_174 (by decide) (fun c1 => ?_) (fun c1 => ?_)
  · have h := (if_pos c1).symm.trans h
    refine lv_iconst (v := 1) C.x C.b dX9_clause_181 (by decide) ?_
    exact b_X9_clause_182 C x3 (μ.1 122 33) 1 μ h _ _ _ hP hS (lv_sub hl [0, 1] rfl)
  · have h := (if_neg c1).symm.trans h
    refine lv_iconst (v := 0) C.x C.b dX9_clause_177 (by decide) ?_
    refine lv_goto (tgt := 182) C.x C.b dX9_clause_178 (by decide) ?_
    exact b_X9_clause_182 C x3 (μ.1 122 33) 0 μ h _ _ _ hP hS (lv_sub hl [0, 1] rfl)

def f_X9_clause_108 (x1 : Int32)  (z0 : Int32) (μ : Mem) : Option Mem := f_X9_clause_165 x1 z0 μ
set_option maxRecDepth 100000 in
set_option maxHeartbeats 4000000 in
theorem b_X9_clause_108 {p : Program} {l : Launch} {e : Env} {s : State} {m : MethodId} {args : Array Value} {below : List Frame} {meth : Method} {c : Code} {G : Gp} {O : Mem} (C : Cx p s m args meth c cX9_clause 8 RX9 none G) {x1 : Int32} : ∀ (z0 : Int32) (μ : Mem), f_X9_clause_108 x1 z0 μ = some O → ∀ (H : Heap) (locs : List Loc) (ls : Array Slot), Wm G μ H → va_S (wA G) s.heap H locs → lv_has ls 8 [(0, .ref (G.2.2 122))] → W p l e (rmm 3 72) s m args below meth c H locs 0 0 (QV below args s G O) (F0 m 108 ls [.int z0]) := by
  intro z0 μ h H locs ls hP hS hl
  unfold f_X9_clause_108 at h
  refine lv_istore_n (lv' := [(3, .int z0), (0, .ref (G.2.2 122))]) C.x C.b dX9_clause_108 rfl hl (by decide) rfl (fun ls hl => ?_)
  refine lv_goto (tgt := 165) C.x C.b dX9_clause_109 (by decide) ?_
  exact b_X9_clause_165 C z0 μ h _ _ _ hP hS (lv_sub hl [1, 0] rfl)

def f_X9_clause_80 (x1 : Int32)  (x4 : Int32) (x5 : Int32) (z0 : Int32) (μ : Mem) : Option Mem := bnd (f_X9_takesNumber μ) (fun r2 μ3 => if x1 = 0 then (f_X9_clause_108 x1 0 μ3) else (bnd (f_X9_road x4 x5 z0 r2 μ3) (fun r6 μ7 => f_X9_clause_108 x1 r6 μ7)))
set_option maxRecDepth 100000 in
set_option maxHeartbeats 4000000 in
theorem b_X9_clause_80 {p : Program} {l : Launch} {e : Env} {s : State} {m : MethodId} {args : Array Value} {below : List Frame} {meth : Method} {c : Code} {G : Gp} {O : Mem} (C : Cx p s m args meth c cX9_clause 8 RX9 none G) {x1 : Int32} : ∀ (x4 : Int32) (x5 : Int32) (z0 : Int32) (μ : Mem), f_X9_clause_80 x1 x4 x5 z0 μ = some O → ∀ (H : Heap) (locs : List Loc) (ls : Array Slot), Wm G μ H → va_S (wA G) s.heap H locs → lv_has ls 8 [(0, .ref (G.2.2 122)), (1, .int x1), (4, .int x4), (5, .int x5)] → W p l e (rmm 3 72) s m args below meth c H locs 0 0 (QV below args s G O) (F0 m 80 ls [.int z0]) := by
  intro x4 x5 z0 μ h H locs ls hP hS hl
  unfold f_X9_clause_80 at h
  refine lv_istore (lv' := [(6, .int z0), (0, .ref (G.2.2 122)), (1, .int x1), (4, .int x4), (5, .int x5)]) C.x C.b dX9_clause_80 hl (by decide) rfl (fun ls hl => ?_)
  refine lv_aload_n C.x C.b dX9_clause_82 rfl (lv_at hl 1 rfl) ?_
  obtain ⟨r2, μ3, e1, h⟩ := bnd_some h
  refine k_vi (k := 122) (as := []) (rest := []) (c_X9_takesNumber C.i e1) M_X9_takesNumber u5_144 C hP hS sh_122 rfl rfl (by decide) hl.1 rfl (Nat.le_of_ble_eq_true rfl) dX9_clause_83 (fun H locs hP hS => ?_)
  refine lv_istore (lv' := [(7, .int r2), (6, .int z0), (0, .ref (G.2.2 122)), (1, .int x1), (4, .int x4), (5, .int x5)]) C.x C.b dX9_clause_86 hl (by decide) rfl (fun ls hl => ?_)
  refine lv_iload_n C.x C.b dX9_clause_88 rfl (lv_at hl 3 rfl) ?_
  refine lv_if_eq (tgt := 107) C.x C.b dX9_clause_89 (by decide) (fun c4 => ?_) (fun c4 => ?_)
  · have h := (if_pos c4).symm.trans h
    refine lv_iconst (v := 0) C.x C.b dX9_clause_107 (by decide) ?_
    exact b_X9_clause_108 C 0 μ3 h _ _ _ hP hS (lv_sub hl [2] rfl)
  · have h := (if_neg c4).symm.trans h
    refine lv_aload_n C.x C.b dX9_clause_92 rfl (lv_at hl 2 rfl) ?_
    refine lv_iload C.x C.b dX9_clause_93 (lv_at hl 4 rfl) ?_
    refine lv_iload C.x C.b dX9_clause_95 (lv_at hl 5 rfl) ?_
    refine lv_iload C.x C.b dX9_clause_97 (lv_at hl 1 rfl) ?_
    refine lv_iload C.x C.b dX9_clause_99 (lv_at hl 0 rfl) ?_
    obtain ⟨r6, μ7, e5, h⟩ := bnd_some h
    refine k_vi (k := 122) (as := [.int x4, .int x5, .int z0, .int r2]) (rest := []) (c_X9_road C.i e5) M_X9_road u5_150 C hP hS sh_122 rfl rfl (by decide) hl.1 rfl (Nat.le_of_ble_eq_true rfl) dX9_clause_101 (fun H locs hP hS => ?_)
    refine lv_goto (tgt := 108) C.x C.b dX9_clause_104 (by decide) ?_
    exact b_X9_clause_108 C r6 μ7 h _ _ _ hP hS (lv_sub hl [2] rfl)

def f_X9_clause_164 (x1 : Int32)  (z0 : Int32) (μ : Mem) : Option Mem := f_X9_clause_165 x1 z0 μ
set_option maxRecDepth 100000 in
set_option maxHeartbeats 4000000 in
theorem b_X9_clause_164 {p : Program} {l : Launch} {e : Env} {s : State} {m : MethodId} {args : Array Value} {below : List Frame} {meth : Method} {c : Code} {G : Gp} {O : Mem} (C : Cx p s m args meth c cX9_clause 8 RX9 none G) {x1 : Int32} : ∀ (z0 : Int32) (μ : Mem), f_X9_clause_164 x1 z0 μ = some O → ∀ (H : Heap) (locs : List Loc) (ls : Array Slot), Wm G μ H → va_S (wA G) s.heap H locs → lv_has ls 8 [(0, .ref (G.2.2 122))] → W p l e (rmm 3 72) s m args below meth c H locs 0 0 (QV below args s G O) (F0 m 164 ls [.int z0]) := by
  intro z0 μ h H locs ls hP hS hl
  unfold f_X9_clause_164 at h
  refine lv_istore_n (lv' := [(3, .int z0), (0, .ref (G.2.2 122))]) C.x C.b dX9_clause_164 rfl hl (by decide) rfl (fun ls hl => ?_)
  exact b_X9_clause_165 C z0 μ h _ _ _ hP hS (lv_sub hl [1, 0] rfl)

def f_X9_clause_153 (x1 : Int32)  (x4 : Int32) (x5 : Int32) (z1 : Int32) (μ : Mem) : Option Mem := bnd (f_X9_comes z1 x4 x5 μ) (fun r2 μ3 => f_X9_clause_164 x1 r2 μ3)
set_option maxRecDepth 100000 in
set_option maxHeartbeats 4000000 in
theorem b_X9_clause_153 {p : Program} {l : Launch} {e : Env} {s : State} {m : MethodId} {args : Array Value} {below : List Frame} {meth : Method} {c : Code} {G : Gp} {O : Mem} (C : Cx p s m args meth c cX9_clause 8 RX9 none G) {x1 : Int32} : ∀ (x4 : Int32) (x5 : Int32) (z1 : Int32) (μ : Mem), f_X9_clause_153 x1 x4 x5 z1 μ = some O → ∀ (H : Heap) (locs : List Loc) (ls : Array Slot), Wm G μ H → va_S (wA G) s.heap H locs → lv_has ls 8 [(0, .ref (G.2.2 122)), (4, .int x4), (5, .int x5)] → W p l e (rmm 3 72) s m args below meth c H locs 0 0 (QV below args s G O) (F0 m 153 ls [.int z1, .ref (G.2.2 122)]) := by
  intro x4 x5 z1 μ h H locs ls hP hS hl
  unfold f_X9_clause_153 at h
  refine lv_iload C.x C.b dX9_clause_153 (lv_at hl 1 rfl) ?_
  refine lv_iload C.x C.b dX9_clause_155 (lv_at hl 2 rfl) ?_
  obtain ⟨r2, μ3, e1, h⟩ := bnd_some h
  refine k_vi (k := 122) (as := [.int z1, .int x4, .int x5]) (rest := []) (c_X9_comes C.i e1) M_X9_comes u5_67 C hP hS sh_122 rfl rfl (by decide) hl.1 rfl (Nat.le_of_ble_eq_true rfl) dX9_clause_157 (fun H locs hP hS => ?_)
  refine lv_goto (tgt := 164) C.x C.b dX9_clause_160 (by decide) ?_
  exact b_X9_clause_164 C r2 μ3 h _ _ _ hP hS (lv_sub hl [0] rfl)

def f_X9_clause_29 (x1 : Int32)  (x2 : Int32) (μ : Mem) : Option Mem := lt (st μ 122 31 ((μ.1 122 31) + 1)) (fun μ1 => if x2 = 114 then (bnd (f_X9_takes 48 57 μ1) (fun r15 μ16 => bnd (f_X9_takes 48 57 μ16) (fun r18 μ19 => if (μ19.1 122 32) = 0 then (bnd (f_X9_takesKind μ19) (fun r22 μ23 => f_X9_clause_80 x1 r15 r18 r22 μ23)) else (f_X9_clause_80 x1 r15 r18 0 μ19)))) else (bnd (f_X9_takesNumber μ1) (fun r4 μ5 => bnd (f_X9_takes 44 44 μ5) (fun r7 μ8 => bnd (f_X9_takes 48 57 μ8) (fun r10 μ11 => if x1 = 0 then (f_X9_clause_164 x1 0 μ11) else (if x2 = 113 then (f_X9_clause_153 x1 r4 r10 0 μ11) else (f_X9_clause_153 x1 r4 r10 1 μ11)))))))
set_option maxRecDepth 100000 in
set_option maxHeartbeats 4000000 in
theorem b_X9_clause_29 {p : Program} {l : Launch} {e : Env} {s : State} {m : MethodId} {args : Array Value} {below : List Frame} {meth : Method} {c : Code} {G : Gp} {O : Mem} (C : Cx p s m args meth c cX9_clause 8 RX9 none G) {x1 : Int32} : ∀ (x2 : Int32) (μ : Mem), f_X9_clause_29 x1 x2 μ = some O → ∀ (H : Heap) (locs : List Loc) (ls : Array Slot), Wm G μ H → va_S (wA G) s.heap H locs → lv_has ls 8 [(0, .ref (G.2.2 122)), (1, .int x1), (2, .int x2)] → W p l e (rmm 3 72) s m args below meth c H locs 0 0 (QV below args s G O) (F0 m 29 ls []) := by
  intro x2 μ h H locs ls hP hS hl
  unfold f_X9_clause_29 at h
  refine lv_aload_n C.x C.b dX9_clause_29 rfl (lv_at hl 0 rfl) ?_
  refine lv_dup C.x C.b dX9_clause_30 rfl ?_
  refine g_int F_9_31 u4_160 C hP sh_122 dX9_clause_31 ?_
  refine lv_iconst (v := 1) C.x C.b dX9_clause_34 (by decide) ?_
  refine lv_iadd C.x C.b dX9_clause_35 ?_
  refine p_int F_9_31 P_9_31 u4_160 C hP hS sh_122 dX9_clause_36 (fun H locs hP hS => ?_)
  obtain ⟨μ1, m_μ1, h⟩ := lt_ex h
  have hP : Wm G μ1 H := by rw [m_μ1]; exact hP
  refine lv_iload_n C.x C.b dX9_clause_39 rfl (lv_at hl 2 rfl) ?_
  refine lv_bipush (v := 114) C.x C.b dX9_clause_40 (by decide) ?_
  refine lv_icmp_ne (tgt := 112) C.x C.b dX9_clause_42 (by decide) (fun c2 => ?_) (fun c2 => ?_)
  · have h := (if_neg c2).symm.trans h
    refine lv_aload_n C.x C.b dX9_clause_112 rfl (lv_at hl 0 rfl) ?_
    obtain ⟨r4, μ5, e3, h⟩ := bnd_some h
    refine k_vi (k := 122) (as := []) (rest := []) (c_X9_takesNumber C.i e3) M_X9_takesNumber u5_144 C hP hS sh_122 rfl rfl (by decide) hl.1 rfl (Nat.le_of_ble_eq_true rfl) dX9_clause_113 (fun H locs hP hS => ?_)
    refine lv_istore (lv' := [(4, .int r4), (0, .ref (G.2.2 122)), (1, .int x1), (2, .int x2)]) C.x C.b dX9_clause_116 hl (by decide) rfl (fun ls hl => ?_)
    refine lv_aload_n C.x C.b dX9_clause_118 rfl (lv_at hl 1 rfl) ?_
    refine lv_bipush (v := 44) C.x C.b dX9_clause_119 (by decide) ?_
    refine lv_bipush (v := 44) C.x C.b dX9_clause_121 (by decide) ?_
    obtain ⟨r7, μ8, e6, h⟩ := bnd_some h
    refine k_vi (k := 122) (as := [.int 44, .int 44]) (rest := []) (c_X9_takes C.i e6) M_X9_takes u5_136 C hP hS sh_122 rfl rfl (by decide) hl.1 rfl (Nat.le_of_ble_eq_true rfl) dX9_clause_123 (fun H locs hP hS => ?_)
    refine lv_pop C.x C.b dX9_clause_126 rfl ?_
    refine lv_aload_n C.x C.b dX9_clause_127 rfl (lv_at hl 1 rfl) ?_
    refine lv_bipush (v := 48) C.x C.b dX9_clause_128 (by decide) ?_
    refine lv_bipush (v := 57) C.x C.b dX9_clause_130 (by decide) ?_
    obtain ⟨r10, μ11, e9, h⟩ := bnd_some h
    refine k_vi (k := 122) (as := [.int 48, .int 57]) (rest := []) (c_X9_takes C.i e9) M_X9_takes u5_136 C hP hS sh_122 rfl rfl (by decide) hl.1 rfl (Nat.le_of_ble_eq_true rfl) dX9_clause_132 (fun H locs hP hS => ?_)
    refine lv_istore (lv' := [(5, .int r10), (4, .int r4), (0, .ref (G.2.2 122)), (1, .int x1), (2, .int x2)]) C.x C.b dX9_clause_135 hl (by decide) rfl (fun ls hl => ?_)
    refine lv_iload_n C.x C.b dX9_clause_137 rfl (lv_at hl 3 rfl) ?_
    refine lv_if_eq (tgt := 163) C.x C.b dX9_clause_138 (by decide) (fun c12 => ?_) (fun c12 => ?_)
    · have h := (if_pos c12).symm.trans h
      refine lv_iconst (v := 0) C.x C.b dX9_clause_163 (by decide) ?_
      exact b_X9_clause_164 C 0 μ11 h _ _ _ hP hS (lv_sub hl [2] rfl)
    · have h := (if_neg c12).symm.trans h
      refine lv_aload_n C.x C.b dX9_clause_141 rfl (lv_at hl 2 rfl) ?_
      refine lv_iload_n C.x C.b dX9_clause_142 rfl (lv_at hl 4 rfl) ?_
      refine lv_bipush (v := 113) C.x C.b dX9_clause_143 (by decide) ?_
      refine lv_icmp_ne (tgt := 152) C.x C.b dX9_clause_145 (by decide) (fun c13 => ?_) (fun c13 => ?_)
      · have h := (if_neg c13).symm.trans h
        refine lv_iconst (v := 1) C.x C.b dX9_clause_152 (by decide) ?_
        exact b_X9_clause_153 C r4 r10 1 μ11 h _ _ _ hP hS (lv_sub hl [2, 1, 0] rfl)
      · have h := (if_pos c13).symm.trans h
        refine lv_iconst (v := 0) C.x C.b dX9_clause_148 (by decide) ?_
        refine lv_goto (tgt := 153) C.x C.b dX9_clause_149 (by decide) ?_
        exact b_X9_clause_153 C r4 r10 0 μ11 h _ _ _ hP hS (lv_sub hl [2, 1, 0] rfl)
  · have h := (if_pos c2).symm.trans h
    refine lv_aload_n C.x C.b dX9_clause_45 rfl (lv_at hl 0 rfl) ?_
    refine lv_bipush (v := 48) C.x C.b dX9_clause_46 (by decide) ?_
    refine lv_bipush (v := 57) C.x C.b dX9_clause_48 (by decide) ?_
    obtain ⟨r15, μ16, e14, h⟩ := bnd_some h
    refine k_vi (k := 122) (as := [.int 48, .int 57]) (rest := []) (c_X9_takes C.i e14) M_X9_takes u5_136 C hP hS sh_122 rfl rfl (by decide) hl.1 rfl (Nat.le_of_ble_eq_true rfl) dX9_clause_50 (fun H locs hP hS => ?_)
    refine lv_istore (lv' := [(4, .int r15), (0, .ref (G.2.2 122)), (1, .int x1), (2, .int x2)]) C.x C.b dX9_clause_53 hl (by decide) rfl (fun ls hl => ?_)
    refine lv_aload_n C.x C.b dX9_clause_55 rfl (lv_at hl 1 rfl) ?_
    refine lv_bipush (v := 48) C.x C.b dX9_clause_56 (by decide) ?_
    refine lv_bipush (v := 57) C.x C.b dX9_clause_58 (by decide) ?_
    obtain ⟨r18, μ19, e17, h⟩ := bnd_some h
    refine k_vi (k := 122) (as := [.int 48, .int 57]) (rest := []) (c_X9_takes C.i e17) M_X9_takes u5_136 C hP hS sh_122 rfl rfl (by decide) hl.1 rfl (Nat.le_of_ble_eq_true rfl) dX9_clause_60 (fun H locs hP hS => ?_)
    refine lv_istore (lv' := [(5, .int r18), (4, .int r15), (0, .ref (G.2.2 122)), (1, .int x1), (2, .int x2)]) C.x C.b dX9_clause_63 hl (by decide) rfl (fun ls hl => ?_)
    refine lv_aload_n C.x C.b dX9_clause_65 rfl (lv_at hl 2 rfl) ?_
    refine g_int F_9_32 u4_161 C hP sh_122 dX9_clause_66 ?_
    refine lv_if_eq (tgt := 76) C.x C.b dX9_clause_69 (by decide) (fun c20 => ?_) (fun c20 => ?_)
    · have h := (if_pos c20).symm.trans h
      refine lv_aload_n C.x C.b dX9_clause_76 rfl (lv_at hl 2 rfl) ?_
      obtain ⟨r22, μ23, e21, h⟩ := bnd_some h
      refine k_vi (k := 122) (as := []) (rest := []) (c_X9_takesKind C.i e21) M_X9_takesKind u5_140 C hP hS sh_122 rfl rfl (by decide) hl.1 rfl (Nat.le_of_ble_eq_true rfl) dX9_clause_77 (fun H locs hP hS => ?_)
      exact b_X9_clause_80 C r15 r18 r22 μ23 h _ _ _ hP hS (lv_sub hl [2, 3, 1, 0] rfl)
    · have h := (if_neg c20).symm.trans h
      refine lv_iconst (v := 0) C.x C.b dX9_clause_72 (by decide) ?_
      refine lv_goto (tgt := 80) C.x C.b dX9_clause_73 (by decide) ?_
      exact b_X9_clause_80 C r15 r18 0 μ19 h _ _ _ hP hS (lv_sub hl [2, 3, 1, 0] rfl)

def f_X9_clause (x1 : Int32) (μ : Mem) : Option Mem := bnv (f_X9_here μ) (fun r2 => if r2 = 113 then (f_X9_clause_29 x1 r2 μ) else (if r2 = 119 then (f_X9_clause_29 x1 r2 μ) else (if r2 = 114 then (f_X9_clause_29 x1 r2 μ) else (lt (st μ 122 32 1) (fun μ6 => some μ6)))))
set_option maxRecDepth 100000 in
set_option maxHeartbeats 4000000 in
theorem b_X9_clause {p : Program} {l : Launch} {e : Env} {s : State} {m : MethodId} {args : Array Value} {below : List Frame} {meth : Method} {c : Code} {G : Gp} {O : Mem} (C : Cx p s m args meth c cX9_clause 8 RX9 none G) {x1 : Int32} {μ : Mem} (h : f_X9_clause x1 μ = some O) : ∀ (H : Heap) (locs : List Loc) (ls : Array Slot), Wm G μ H → va_S (wA G) s.heap H locs → lv_has ls 8 [(0, .ref (G.2.2 122)), (1, .int x1)] → W p l e (rmm 3 72) s m args below meth c H locs 0 0 (QV below args s G O) (F0 m 0 ls []) := by
  unfold f_X9_clause at h
  intro H locs ls hP hS hl
  refine lv_aload_n C.x C.b dX9_clause_0 rfl (lv_at hl 0 rfl) ?_
  obtain ⟨r2, e1, h⟩ := bnv_some h
  refine k_vi (k := 122) (as := []) (rest := []) (c_X9_here C.i e1) M_X9_here u5_132 C hP hS sh_122 rfl rfl (by decide) hl.1 rfl (Nat.le_of_ble_eq_true rfl) dX9_clause_1 (fun H locs hP hS => ?_)
  refine lv_istore_n (lv' := [(2, .int r2), (0, .ref (G.2.2 122)), (1, .int x1)]) C.x C.b dX9_clause_4 rfl hl (by decide) rfl (fun ls hl => ?_)
  refine lv_iload_n C.x C.b dX9_clause_5 rfl (lv_at hl 0 rfl) ?_
  refine lv_bipush (v := 113) C.x C.b dX9_clause_6 (by decide) ?_
  refine lv_icmp_eq (tgt := 29) C.x C.b dX9_clause_8 (by decide) (fun c3 => ?_) (fun c3 => ?_)
  · have h := (if_pos c3).symm.trans h
    exact b_X9_clause_29 C r2 μ h _ _ _ hP hS (lv_sub hl [1, 2, 0] rfl)
  · have h := (if_neg c3).symm.trans h
    refine lv_iload_n C.x C.b dX9_clause_11 rfl (lv_at hl 0 rfl) ?_
    refine lv_bipush (v := 119) C.x C.b dX9_clause_12 (by decide) ?_
    refine lv_icmp_eq (tgt := 29) C.x C.b dX9_clause_14 (by decide) (fun c4 => ?_) (fun c4 => ?_)
    · have h := (if_pos c4).symm.trans h
      exact b_X9_clause_29 C r2 μ h _ _ _ hP hS (lv_sub hl [1, 2, 0] rfl)
    · have h := (if_neg c4).symm.trans h
      refine lv_iload_n C.x C.b dX9_clause_17 rfl (lv_at hl 0 rfl) ?_
      refine lv_bipush (v := 114) C.x C.b dX9_clause_18 (by decide) ?_
      refine lv_icmp_eq (tgt := 29) C.x C.b dX9_clause_20 (by decide) (fun c5 => ?_) (fun c5 => ?_)
      · have h := (if_pos c5).symm.trans h
        exact b_X9_clause_29 C r2 μ h _ _ _ hP hS (lv_sub hl [1, 2, 0] rfl)
      · have h := (if_neg c5).symm.trans h
        refine lv_aload_n C.x C.b dX9_clause_23 rfl (lv_at hl 1 rfl) ?_
        refine lv_iconst (v := 1) C.x C.b dX9_clause_24 (by decide) ?_
        refine p_boo F_9_32 P_9_32 u4_161 (by decide) C hP hS sh_122 dX9_clause_25 (fun H locs hP hS => ?_)
        obtain ⟨μ6, m_μ6, h⟩ := lt_ex h
        have hP : Wm G μ6 H := by rw [m_μ6]; exact hP
        exact r_v h C hP hS dX9_clause_28

set_option maxRecDepth 100000 in
set_option maxHeartbeats 4000000 in
theorem c_X9_clause {l : Launch} {G : Gp} (hI : Wi G) {x1 : Int32} {μ : Mem} {μ' : Mem} (h : f_X9_clause x1 μ = some μ') : CV l yX9_clause cX9_clause 8 none 3 72 G [.ref (G.2.2 122), .int x1] μ μ' :=
  e_all (lv := [(0, .ref (G.2.2 122)), (1, .int x1)]) hI (by decide) (Nat.le_of_ble_eq_true rfl) rfl (fun p e s m args below meth c ls C hP hS hl => b_X9_clause C h _ _ _ hP hS hl)


def f_X9_goesThrough_67 (x1 : Int32) (q25 : Mem → Option Mem) (z1 : Int32) (μ : Mem) : Option Mem := grd (isB z1) (lt (st μ 122 32 z1) (fun μ2 => if (μ2.1 122 32) = 0 then (lt (st μ2 122 31 ((μ2.1 122 31) + 1)) (fun μ4 => bnv (f_X9_clause x1 μ4) (fun μ6 => q25 μ6))) else (q25 μ2)))
set_option maxRecDepth 100000 in
set_option maxHeartbeats 4000000 in
theorem b_X9_goesThrough_67 {p : Program} {l : Launch} {e : Env} {s : State} {m : MethodId} {args : Array Value} {below : List Frame} {meth : Method} {c : Code} {G : Gp} {O : Mem} (C : Cx p s m args meth c cX9_goesThrough 2 RX9 none G) {x1 : Int32} {q25 : Mem → Option Mem} (hq25 : ∀ (μ : Mem), q25 μ = some O → ∀ (H : Heap) (locs : List Loc) (ls : Array Slot), Wm G μ H → va_S (wA G) s.heap H locs → lv_has ls 2 [(0, .ref (G.2.2 122)), (1, .int x1)] → W p l e (rmm 4 99) s m args below meth c H locs 0 0 (QV below args s G O) (F0 m 25 ls [])) : ∀ (z1 : Int32) (μ : Mem), f_X9_goesThrough_67 x1 q25 z1 μ = some O → ∀ (H : Heap) (locs : List Loc) (ls : Array Slot), Wm G μ H → va_S (wA G) s.heap H locs → lv_has ls 2 [(0, .ref (G.2.2 122)), (1, .int x1)] → W p l e (rmm 4 99) s m args below meth c H locs 0 0 (QV below args s G O) (F0 m 67 ls [.int z1, .ref (G.2.2 122)]) := by
  intro z1 μ h H locs ls hP hS hl
  unfold f_X9_goesThrough_67 at h
  obtain ⟨g1, h⟩ := grd_some h
  refine p_boo F_9_32 P_9_32 u4_161 g1 C hP hS sh_122 dX9_goesThrough_67 (fun H locs hP hS => ?_)
  obtain ⟨μ2, m_μ2, h⟩ := lt_ex h
  have hP : Wm G μ2 H := by rw [m_μ2]; exact hP
  refine lv_aload_n C.x C.b dX9_goesThrough_70 rfl (lv_at hl 0 rfl) ?_
  refine g_int F_9_32 u4_161 C hP sh_122 dX9_goesThrough_71 ?_
  refine lv_if_ne (tgt := 25) C.x C.b dX9_goesThrough_74 (by decide) (fun c3 => ?_) (fun c3 => ?_)
  · have h := (if_neg c3).symm.trans h
    exact hq25 μ2 h _ _ _ hP hS (lv_sub hl [0, 1] rfl)
  · have h := (if_pos c3).symm.trans h
    refine lv_aload_n C.x C.b dX9_goesThrough_77 rfl (lv_at hl 0 rfl) ?_
    refine lv_dup C.x C.b dX9_goesThrough_78 rfl ?_
    refine g_int F_9_31 u4_160 C hP sh_122 dX9_goesThrough_79 ?_
    refine lv_iconst (v := 1) C.x C.b dX9_goesThrough_82 (by decide) ?_
    refine lv_iadd C.x C.b dX9_goesThrough_83 ?_
    refine p_int F_9_31 P_9_31 u4_160 C hP hS sh_122 dX9_goesThrough_84 (fun H locs hP hS => ?_)
    obtain ⟨μ4, m_μ4, h⟩ := lt_ex h
    have hP : Wm G μ4 H := by rw [m_μ4]; exact hP
    refine lv_aload_n C.x C.b dX9_goesThrough_87 rfl (lv_at hl 0 rfl) ?_
    refine lv_iload_n C.x C.b dX9_goesThrough_88 rfl (lv_at hl 1 rfl) ?_
    obtain ⟨μ6, e5, h⟩ := bnv_some h
    refine k_vv (k := 122) (as := [.int x1]) (rest := []) (c_X9_clause C.i e5) M_X9_clause u5_128 C hP hS sh_122 rfl rfl (by decide) hl.1 rfl (Nat.le_of_ble_eq_true rfl) dX9_goesThrough_89 (fun H locs hP hS => ?_)
    refine lv_goto (tgt := 25) C.x C.b dX9_goesThrough_92 (by decide) ?_
    exact hq25 μ6 h _ _ _ hP hS (lv_sub hl [0, 1] rfl)

def f_X9_goesThrough_62 (x1 : Int32) (q25 : Mem → Option Mem)  (μ : Mem) : Option Mem := f_X9_goesThrough_67 x1 q25 1 μ
set_option maxRecDepth 100000 in
set_option maxHeartbeats 4000000 in
theorem b_X9_goesThrough_62 {p : Program} {l : Launch} {e : Env} {s : State} {m : MethodId} {args : Array Value} {below : List Frame} {meth : Method} {c : Code} {G : Gp} {O : Mem} (C : Cx p s m args meth c cX9_goesThrough 2 RX9 none G) {x1 : Int32} {q25 : Mem → Option Mem} (hq25 : ∀ (μ : Mem), q25 μ = some O → ∀ (H : Heap) (locs : List Loc) (ls : Array Slot), Wm G μ H → va_S (wA G) s.heap H locs → lv_has ls 2 [(0, .ref (G.2.2 122)), (1, .int x1)] → W p l e (rmm 4 99) s m args below meth c H locs 0 0 (QV below args s G O) (F0 m 25 ls [])) : ∀ (μ : Mem), f_X9_goesThrough_62 x1 q25 μ = some O → ∀ (H : Heap) (locs : List Loc) (ls : Array Slot), Wm G μ H → va_S (wA G) s.heap H locs → lv_has ls 2 [(0, .ref (G.2.2 122)), (1, .int x1)] → W p l e (rmm 4 99) s m args below meth c H locs 0 0 (QV below args s G O) (F0 m 62 ls [.ref (G.2.2 122)]) := by
  intro μ h H locs ls hP hS hl
  unfold f_X9_goesThrough_62 at h
  refine lv_iconst (v := 1) C.x C.b dX9_goesThrough_62 (by decide) ?_
  refine lv_goto (tgt := 67) C.x C.b dX9_goesThrough_63 (by decide) ?_
  exact b_X9_goesThrough_67 C hq25 1 μ h _ _ _ hP hS (lv_sub hl [0, 1] rfl)

def g_X9_goesThrough_25 (x1 : Int32)  (q25 : Mem → Option Mem)  (μ : Mem) : Option Mem := if (μ.1 122 32) = 0 then (if (μ.1 122 24) ≤ (μ.1 122 31) then (some μ) else (if (μ.1 122 33) = 12 then (f_X9_goesThrough_62 x1 q25 μ) else (bnv (f_X9_here μ) (fun r5 => if r5 = 59 then (f_X9_goesThrough_67 x1 q25 0 μ) else (f_X9_goesThrough_62 x1 q25 μ))))) else (some μ)
def f_X9_goesThrough_25 (x1 : Int32)  : Nat → Mem → Option Mem
  | 0, _ => none
  | n + 1, μ => g_X9_goesThrough_25 x1 (f_X9_goesThrough_25 x1 n) μ
set_option maxRecDepth 100000 in
set_option maxHeartbeats 4000000 in
theorem w_X9_goesThrough_25 {p : Program} {l : Launch} {e : Env} {s : State} {m : MethodId} {args : Array Value} {below : List Frame} {meth : Method} {c : Code} {G : Gp} {O : Mem} (C : Cx p s m args meth c cX9_goesThrough 2 RX9 none G) {x1 : Int32} {q25 : Mem → Option Mem} (hq25 : ∀ (μ : Mem), q25 μ = some O → ∀ (H : Heap) (locs : List Loc) (ls : Array Slot), Wm G μ H → va_S (wA G) s.heap H locs → lv_has ls 2 [(0, .ref (G.2.2 122)), (1, .int x1)] → W p l e (rmm 4 99) s m args below meth c H locs 0 0 (QV below args s G O) (F0 m 25 ls [])) : ∀ (μ : Mem), g_X9_goesThrough_25 x1 q25 μ = some O → ∀ (H : Heap) (locs : List Loc) (ls : Array Slot), Wm G μ H → va_S (wA G) s.heap H locs → lv_has ls 2 [(0, .ref (G.2.2 122)), (1, .int x1)] → W p l e (rmm 4 99) s m args below meth c H locs 0 0 (QV below args s G O) (F0 m 25 ls []) := by
  intro μ h H locs ls hP hS hl
  unfold g_X9_goesThrough_25 at h
  refine lv_aload_n C.x C.b dX9_goesThrough_25 rfl (lv_at hl 0 rfl) ?_
  refine g_int F_9_32 u4_161 C hP sh_122 dX9_goesThrough_26 ?_
  refine lv_if_ne (tgt := 95) C.x C.b dX9_goesThrough_29 (by decide) (fun c1 => ?_) (fun c1 => ?_)
  · have h := (if_neg c1).symm.trans h
    exact r_v h C hP hS dX9_goesThrough_95
  · have h := (if_pos c1).symm.trans h
    refine lv_aload_n C.x C.b dX9_goesThrough_32 rfl (lv_at hl 0 rfl) ?_
    refine g_int F_9_31 u4_160 C hP sh_122 dX9_goesThrough_33 ?_
    refine lv_aload_n C.x C.b dX9_goesThrough_36 rfl (lv_at hl 0 rfl) ?_
    refine g_int F_9_24 u4_153 C hP sh_122 dX9_goesThrough_37 ?_
    refine lv_icmp_ge (tgt := 95) C.x C.b dX9_goesThrough_40 (by decide) (fun c2 => ?_) (fun c2 => ?_)
    · have h := (if_pos c2).symm.trans h
      exact r_v h C hP hS dX9_goesThrough_95
    · have h := (if_neg c2).symm.trans h
      refine lv_aload_n C.x C.b dX9_goesThrough_43 rfl (lv_at hl 0 rfl) ?_
      refine lv_aload_n C.x C.b dX9_goesThrough_44 rfl (lv_at hl 0 rfl) ?_
      refine g_int F_9_33 u4_162 C hP sh_122 dX9_goesThrough_45 ?_
      refine lv_bipush (v := 12) C.x C.b dX9_goesThrough_48 (by decide) ?_
      refine lv_icmp_eq (tgt := 62) C.x C.b dX9_goesThrough_50 (by decide) (fun c3 => ?_) (fun c3 => ?_)
      · have h := (if_pos c3).symm.trans h
        exact b_X9_goesThrough_62 C hq25 μ h _ _ _ hP hS (lv_sub hl [0, 1] rfl)
      · have h := (if_neg c3).symm.trans h
        refine lv_aload_n C.x C.b dX9_goesThrough_53 rfl (lv_at hl 0 rfl) ?_
        obtain ⟨r5, e4, h⟩ := bnv_some h
        refine k_vi (k := 122) (as := []) (rest := [.ref (G.2.2 122)]) (c_X9_here C.i e4) M_X9_here u5_132 C hP hS sh_122 rfl rfl (by decide) hl.1 rfl (Nat.le_of_ble_eq_true rfl) dX9_goesThrough_54 (fun H locs hP hS => ?_)
        refine lv_bipush (v := 59) C.x C.b dX9_goesThrough_57 (by decide) ?_
        refine lv_icmp_eq (tgt := 66) C.x C.b dX9_goesThrough_59 (by decide) (fun c6 => ?_) (fun c6 => ?_)
        · have h := (if_pos c6).symm.trans h
          refine lv_iconst (v := 0) C.x C.b dX9_goesThrough_66 (by decide) ?_
          exact b_X9_goesThrough_67 C hq25 0 μ h _ _ _ hP hS (lv_sub hl [0, 1] rfl)
        · have h := (if_neg c6).symm.trans h
          exact b_X9_goesThrough_62 C hq25 μ h _ _ _ hP hS (lv_sub hl [0, 1] rfl)

set_option maxRecDepth 100000 in
set_option maxHeartbeats 4000000 in
theorem b_X9_goesThrough_25 {p : Program} {l : Launch} {e : Env} {s : State} {m : MethodId} {args : Array Value} {below : List Frame} {meth : Method} {c : Code} {G : Gp} {O : Mem} (C : Cx p s m args meth c cX9_goesThrough 2 RX9 none G) {x1 : Int32} : ∀ (n : Nat) (μ : Mem), f_X9_goesThrough_25 x1 n μ = some O → ∀ (H : Heap) (locs : List Loc) (ls : Array Slot), Wm G μ H → va_S (wA G) s.heap H locs → lv_has ls 2 [(0, .ref (G.2.2 122)), (1, .int x1)] → W p l e (rmm 4 99) s m args below meth c H locs 0 0 (QV below args s G O) (F0 m 25 ls []) := by
  intro n
  induction n with
  | zero => intro μ h; cases h
  | succ n ih => intro μ h; exact w_X9_goesThrough_25 C (q25 := f_X9_goesThrough_25 x1 n) ih μ h

def f_X9_goesThrough (x1 : Int32) (μ : Mem) : Option Mem := lt (st μ 122 31 0) (fun μ1 => lt (st μ1 122 33 0) (fun μ2 => lt (st μ2 122 34 0) (fun μ3 => lt (st μ3 122 32 0) (fun μ4 => bnv (f_X9_clause x1 μ4) (fun μ6 => f_X9_goesThrough_25 x1 FU μ6)))))
set_option maxRecDepth 100000 in
set_option maxHeartbeats 4000000 in
theorem b_X9_goesThrough {p : Program} {l : Launch} {e : Env} {s : State} {m : MethodId} {args : Array Value} {below : List Frame} {meth : Method} {c : Code} {G : Gp} {O : Mem} (C : Cx p s m args meth c cX9_goesThrough 2 RX9 none G) {x1 : Int32} {μ : Mem} (h : f_X9_goesThrough x1 μ = some O) : ∀ (H : Heap) (locs : List Loc) (ls : Array Slot), Wm G μ H → va_S (wA G) s.heap H locs → lv_has ls 2 [(0, .ref (G.2.2 122)), (1, .int x1)] → W p l e (rmm 4 99) s m args below meth c H locs 0 0 (QV below args s G O) (F0 m 0 ls []) := by
  unfold f_X9_goesThrough at h
  intro H locs ls hP hS hl
  refine lv_aload_n C.x C.b dX9_goesThrough_0 rfl (lv_at hl 0 rfl) ?_
  refine lv_iconst (v := 0) C.x C.b dX9_goesThrough_1 (by decide) ?_
  refine p_int F_9_31 P_9_31 u4_160 C hP hS sh_122 dX9_goesThrough_2 (fun H locs hP hS => ?_)
  obtain ⟨μ1, m_μ1, h⟩ := lt_ex h
  have hP : Wm G μ1 H := by rw [m_μ1]; exact hP
  refine lv_aload_n C.x C.b dX9_goesThrough_5 rfl (lv_at hl 0 rfl) ?_
  refine lv_iconst (v := 0) C.x C.b dX9_goesThrough_6 (by decide) ?_
  refine p_int F_9_33 P_9_33 u4_162 C hP hS sh_122 dX9_goesThrough_7 (fun H locs hP hS => ?_)
  obtain ⟨μ2, m_μ2, h⟩ := lt_ex h
  have hP : Wm G μ2 H := by rw [m_μ2]; exact hP
  refine lv_aload_n C.x C.b dX9_goesThrough_10 rfl (lv_at hl 0 rfl) ?_
  refine lv_iconst (v := 0) C.x C.b dX9_goesThrough_11 (by decide) ?_
  refine p_int F_9_34 P_9_34 u4_163 C hP hS sh_122 dX9_goesThrough_12 (fun H locs hP hS => ?_)
  obtain ⟨μ3, m_μ3, h⟩ := lt_ex h
  have hP : Wm G μ3 H := by rw [m_μ3]; exact hP
  refine lv_aload_n C.x C.b dX9_goesThrough_15 rfl (lv_at hl 0 rfl) ?_
  refine lv_iconst (v := 0) C.x C.b dX9_goesThrough_16 (by decide) ?_
  refine p_boo F_9_32 P_9_32 u4_161 (by decide) C hP hS sh_122 dX9_goesThrough_17 (fun H locs hP hS => ?_)
  obtain ⟨μ4, m_μ4, h⟩ := lt_ex h
  have hP : Wm G μ4 H := by rw [m_μ4]; exact hP
  refine lv_aload_n C.x C.b dX9_goesThrough_20 rfl (lv_at hl 0 rfl) ?_
  refine lv_iload_n C.x C.b dX9_goesThrough_21 rfl (lv_at hl 1 rfl) ?_
  obtain ⟨μ6, e5, h⟩ := bnv_some h
  refine k_vv (k := 122) (as := [.int x1]) (rest := []) (c_X9_clause C.i e5) M_X9_clause u5_128 C hP hS sh_122 rfl rfl (by decide) hl.1 rfl (Nat.le_of_ble_eq_true rfl) dX9_goesThrough_22 (fun H locs hP hS => ?_)
  exact b_X9_goesThrough_25 C FU μ6 h _ _ _ hP hS (lv_sub hl [0, 1] rfl)

set_option maxRecDepth 100000 in
set_option maxHeartbeats 4000000 in
theorem c_X9_goesThrough {l : Launch} {G : Gp} (hI : Wi G) {x1 : Int32} {μ : Mem} {μ' : Mem} (h : f_X9_goesThrough x1 μ = some μ') : CV l yX9_goesThrough cX9_goesThrough 2 none 4 99 G [.ref (G.2.2 122), .int x1] μ μ' :=
  e_all (lv := [(0, .ref (G.2.2 122)), (1, .int x1)]) hI (by decide) (Nat.le_of_ble_eq_true rfl) rfl (fun p e s m args below meth c ls C hP hS hl => b_X9_goesThrough C h _ _ _ hP hS hl)


def f_X9_feed (x1 : Int32) (μ : Mem) : Option (Int32 × Mem) := bnv (f_X9_in (Int32.toInt64 x1) 0 127 μ) (fun r2 => if r2 = 0 then (some ((-2), μ)) else (if (μ.1 122 24) = 100 then (some ((-4), μ)) else (grd (inb (μ.1 122 24) 100) (lt (st μ 137 (μ.1 122 24).toNatClampNeg x1) (fun μ6 => lt (st μ6 122 24 ((μ6.1 122 24) + 1)) (fun μ7 => some (μ7.1 122 24, μ7)))))))
set_option maxRecDepth 100000 in
set_option maxHeartbeats 4000000 in
theorem b_X9_feed {p : Program} {l : Launch} {e : Env} {s : State} {m : MethodId} {args : Array Value} {below : List Frame} {meth : Method} {c : Code} {G : Gp} {O : (Int32 × Mem)} (C : Cx p s m args meth c cX9_feed 2 RX9 (some .int) G) {x1 : Int32} {μ : Mem} (h : f_X9_feed x1 μ = some O) : ∀ (H : Heap) (locs : List Loc) (ls : Array Slot), Wm G μ H → va_S (wA G) s.heap H locs → lv_has ls 2 [(0, .ref (G.2.2 122)), (1, .int x1)] → W p l e (rmm 1 25) s m args below meth c H locs 0 0 (QI below args s G O) (F0 m 0 ls []) := by
  unfold f_X9_feed at h
  intro H locs ls hP hS hl
  refine lv_iload_n C.x C.b dX9_feed_0 rfl (lv_at hl 1 rfl) ?_
  refine lv_i2l (v := Int32.toInt64 x1) C.x C.b dX9_feed_1 rfl ?_
  refine lv_lconst (v := 0) C.x C.b dX9_feed_2 (by decide) ?_
  refine lv_ldc2 (own := RX9) (v := 127) C.x C.b C.o (C.t _ u5_119) dX9_feed_3 ?_
  obtain ⟨r2, e1, h⟩ := bnv_some h
  refine k_si (as := [.long (Int32.toInt64 x1), .long 0, .long 127]) (rest := []) (c_X9_in C.i e1) M_X9_in u5_72 C hP hS rfl (by decide) hl.1 rfl (Nat.le_of_ble_eq_true rfl) dX9_feed_6 (fun H locs hP hS => ?_)
  refine lv_if_ne (tgt := 15) C.x C.b dX9_feed_9 (by decide) (fun c3 => ?_) (fun c3 => ?_)
  · have h := (if_neg c3).symm.trans h
    refine lv_aload_n C.x C.b dX9_feed_15 rfl (lv_at hl 0 rfl) ?_
    refine g_int F_9_24 u4_153 C hP sh_122 dX9_feed_16 ?_
    refine lv_bipush (v := 100) C.x C.b dX9_feed_19 (by decide) ?_
    refine lv_icmp_ne (tgt := 27) C.x C.b dX9_feed_21 (by decide) (fun c4 => ?_) (fun c4 => ?_)
    · have h := (if_neg c4).symm.trans h
      refine lv_aload_n C.x C.b dX9_feed_27 rfl (lv_at hl 0 rfl) ?_
      refine g_ref (k' := 137) F_9_23 u4_152 C hP sh_122 rfl dX9_feed_28 ?_
      refine lv_aload_n C.x C.b dX9_feed_31 rfl (lv_at hl 0 rfl) ?_
      refine g_int F_9_24 u4_153 C hP sh_122 dX9_feed_32 ?_
      refine lv_iload_n C.x C.b dX9_feed_35 rfl (lv_at hl 1 rfl) ?_
      obtain ⟨g5, h⟩ := grd_some h
      refine as_i C hP hS sh_137 g5 dX9_feed_36 (fun H locs hP hS => ?_)
      obtain ⟨μ6, m_μ6, h⟩ := lt_ex h
      have hP : Wm G μ6 H := by rw [m_μ6]; exact hP
      refine lv_aload_n C.x C.b dX9_feed_37 rfl (lv_at hl 0 rfl) ?_
      refine lv_dup C.x C.b dX9_feed_38 rfl ?_
      refine g_int F_9_24 u4_153 C hP sh_122 dX9_feed_39 ?_
      refine lv_iconst (v := 1) C.x C.b dX9_feed_42 (by decide) ?_
      refine lv_iadd C.x C.b dX9_feed_43 ?_
      refine p_int F_9_24 P_9_24 u4_153 C hP hS sh_122 dX9_feed_44 (fun H locs hP hS => ?_)
      obtain ⟨μ7, m_μ7, h⟩ := lt_ex h
      have hP : Wm G μ7 H := by rw [m_μ7]; exact hP
      refine lv_aload_n C.x C.b dX9_feed_47 rfl (lv_at hl 0 rfl) ?_
      refine g_int F_9_24 u4_153 C hP sh_122 dX9_feed_48 ?_
      exact r_i h C hP hS dX9_feed_51
    · have h := (if_pos c4).symm.trans h
      refine lv_bipush (v := (-4)) C.x C.b dX9_feed_24 (by decide) ?_
      exact r_i h C hP hS dX9_feed_26
  · have h := (if_pos c3).symm.trans h
    refine lv_bipush (v := (-2)) C.x C.b dX9_feed_12 (by decide) ?_
    exact r_i h C hP hS dX9_feed_14

set_option maxRecDepth 100000 in
set_option maxHeartbeats 4000000 in
theorem c_X9_feed {l : Launch} {G : Gp} (hI : Wi G) {x1 : Int32} {μ : Mem} {r : Int32} {μ' : Mem} (h : f_X9_feed x1 μ = some (r, μ')) : CI l yX9_feed cX9_feed 2 (some .int) 1 25 G [.ref (G.2.2 122), .int x1] μ r μ' :=
  e_all (lv := [(0, .ref (G.2.2 122)), (1, .int x1)]) hI (by decide) (Nat.le_of_ble_eq_true rfl) rfl (fun p e s m args below meth c ls C hP hS hl => b_X9_feed C h _ _ _ hP hS hl)


def f_X9_read  (μ : Mem) : Option (Int32 × Mem) := bnv (f_X9_goesThrough 0 μ) (fun μ2 => lt (((-10)) - (μ2.1 122 31)) (fun y3 => if (μ2.1 122 32) = 0 then (bnv (f_X9_goesThrough 1 μ2) (fun μ7 => lt (μ7.1 122 34) (fun y8 => lt (st μ7 122 24 0) (fun μ9 => some (y8, μ9))))) else (lt (st μ2 122 24 0) (fun μ5 => some (y3, μ5)))))
set_option maxRecDepth 100000 in
set_option maxHeartbeats 4000000 in
theorem b_X9_read {p : Program} {l : Launch} {e : Env} {s : State} {m : MethodId} {args : Array Value} {below : List Frame} {meth : Method} {c : Code} {G : Gp} {O : (Int32 × Mem)} (C : Cx p s m args meth c cX9_read 2 RX9 (some .int) G) {μ : Mem} (h : f_X9_read μ = some O) : ∀ (H : Heap) (locs : List Loc) (ls : Array Slot), Wm G μ H → va_S (wA G) s.heap H locs → lv_has ls 2 [(0, .ref (G.2.2 122))] → W p l e (rmm 5 120) s m args below meth c H locs 0 0 (QI below args s G O) (F0 m 0 ls []) := by
  unfold f_X9_read at h
  intro H locs ls hP hS hl
  refine lv_aload_n C.x C.b dX9_read_0 rfl (lv_at hl 0 rfl) ?_
  refine lv_iconst (v := 0) C.x C.b dX9_read_1 (by decide) ?_
  obtain ⟨μ2, e1, h⟩ := bnv_some h
  refine k_vv (k := 122) (as := [.int 0]) (rest := []) (c_X9_goesThrough C.i e1) M_X9_goesThrough u5_124 C hP hS sh_122 rfl rfl (by decide) hl.1 rfl (Nat.le_of_ble_eq_true rfl) dX9_read_2 (fun H locs hP hS => ?_)
  refine lv_bipush (v := (-10)) C.x C.b dX9_read_5 (by decide) ?_
  refine lv_aload_n C.x C.b dX9_read_7 rfl (lv_at hl 0 rfl) ?_
  refine g_int F_9_31 u4_160 C hP sh_122 dX9_read_8 ?_
  refine lv_isub C.x C.b dX9_read_11 ?_
  refine lv_topi (fun y3 e_y3 => ?_)
  have h := lt_at h e_y3
  refine lv_istore_n (lv' := [(1, .int y3), (0, .ref (G.2.2 122))]) C.x C.b dX9_read_12 rfl hl (by decide) rfl (fun ls hl => ?_)
  refine lv_aload_n C.x C.b dX9_read_13 rfl (lv_at hl 1 rfl) ?_
  refine g_int F_9_32 u4_161 C hP sh_122 dX9_read_14 ?_
  refine lv_if_ne (tgt := 30) C.x C.b dX9_read_17 (by decide) (fun c4 => ?_) (fun c4 => ?_)
  · have h := (if_neg c4).symm.trans h
    refine lv_aload_n C.x C.b dX9_read_30 rfl (lv_at hl 1 rfl) ?_
    refine lv_iconst (v := 0) C.x C.b dX9_read_31 (by decide) ?_
    refine p_int F_9_24 P_9_24 u4_153 C hP hS sh_122 dX9_read_32 (fun H locs hP hS => ?_)
    obtain ⟨μ5, m_μ5, h⟩ := lt_ex h
    have hP : Wm G μ5 H := by rw [m_μ5]; exact hP
    refine lv_iload_n C.x C.b dX9_read_35 rfl (lv_at hl 0 rfl) ?_
    exact r_i h C hP hS dX9_read_36
  · have h := (if_pos c4).symm.trans h
    refine lv_aload_n C.x C.b dX9_read_20 rfl (lv_at hl 1 rfl) ?_
    refine lv_iconst (v := 1) C.x C.b dX9_read_21 (by decide) ?_
    obtain ⟨μ7, e6, h⟩ := bnv_some h
    refine k_vv (k := 122) (as := [.int 1]) (rest := []) (c_X9_goesThrough C.i e6) M_X9_goesThrough u5_124 C hP hS sh_122 rfl rfl (by decide) hl.1 rfl (Nat.le_of_ble_eq_true rfl) dX9_read_22 (fun H locs hP hS => ?_)
    refine lv_aload_n C.x C.b dX9_read_25 rfl (lv_at hl 1 rfl) ?_
    refine g_int F_9_34 u4_163 C hP sh_122 dX9_read_26 ?_
    refine lv_topi (fun y8 e_y8 => ?_)
    have h := lt_at h e_y8
    refine lv_istore_n (lv' := [(1, .int y8), (0, .ref (G.2.2 122))]) C.x C.b dX9_read_29 rfl hl (by decide) rfl (fun ls hl => ?_)
    refine lv_aload_n C.x C.b dX9_read_30 rfl (lv_at hl 1 rfl) ?_
    refine lv_iconst (v := 0) C.x C.b dX9_read_31 (by decide) ?_
    refine p_int F_9_24 P_9_24 u4_153 C hP hS sh_122 dX9_read_32 (fun H locs hP hS => ?_)
    obtain ⟨μ9, m_μ9, h⟩ := lt_ex h
    have hP : Wm G μ9 H := by rw [m_μ9]; exact hP
    refine lv_iload_n C.x C.b dX9_read_35 rfl (lv_at hl 0 rfl) ?_
    exact r_i h C hP hS dX9_read_36

set_option maxRecDepth 100000 in
set_option maxHeartbeats 4000000 in
theorem c_X9_read {l : Launch} {G : Gp} (hI : Wi G) {μ : Mem} {r : Int32} {μ' : Mem} (h : f_X9_read μ = some (r, μ')) : CI l yX9_read cX9_read 2 (some .int) 5 120 G [.ref (G.2.2 122)] μ r μ' :=
  e_all (lv := [(0, .ref (G.2.2 122))]) hI (by decide) (Nat.le_of_ble_eq_true rfl) rfl (fun p e s m args below meth c ls C hP hS hl => b_X9_read C h _ _ _ hP hS hl)

