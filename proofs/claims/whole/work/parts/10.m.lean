def f_J6_compare_7cf53 (x0 : Int32) (x1 : Int32) (μ : Mem) : Option Int32 := if x1 ≤ x0 then (if x0 = x1 then (some 0) else (some 1)) else (some ((-1)))
set_option maxRecDepth 100000 in
set_option maxHeartbeats 4000000 in
theorem b_J6_compare_7cf53 {p : Program} {l : Launch} {e : Env} {s : State} {m : MethodId} {args : Array Value} {below : List Frame} {meth : Method} {c : Code} {G : Gp} {O : Int32} (C : Cx p s m args meth c cJ6_compare_7cf53 2 RJ6 (some .int) G) {x0 : Int32} {x1 : Int32} {μ : Mem} (h : f_J6_compare_7cf53 x0 x1 μ = some O) : ∀ (H : Heap) (locs : List Loc) (ls : Array Slot), Wm G μ H → va_S (wA G) s.heap H locs → lv_has ls 2 [(0, .int x0), (1, .int x1)] → W p l e (rmm 0 0) s m args below meth c H locs 0 0 (QI below args s G (O, μ)) (F0 m 0 ls []) := by
  unfold f_J6_compare_7cf53 at h
  intro H locs ls hP hS hl
  refine lv_iload_n C.x C.b dJ6_compare_7cf53_0 rfl (lv_at hl 0 rfl) ?_
  refine lv_iload_n C.x C.b dJ6_compare_7cf53_1 rfl (lv_at hl 1 rfl) ?_
  refine lv_icmp_ge (tgt := 9) C.x C.b dJ6_compare_7cf53_2 (by decide) (fun c1 => ?_) (fun c1 => ?_)
  · have h := (if_pos c1).symm.trans h
    refine lv_iload_n C.x C.b dJ6_compare_7cf53_9 rfl (lv_at hl 0 rfl) ?_
    refine lv_iload_n C.x C.b dJ6_compare_7cf53_10 rfl (lv_at hl 1 rfl) ?_
    refine lv_icmp_ne (tgt := 18) C.x C.b dJ6_compare_7cf53_11 (by decide) (fun c2 => ?_) (fun c2 => ?_)
    · have h := (if_neg c2).symm.trans h
      refine lv_iconst (v := 1) C.x C.b dJ6_compare_7cf53_18 (by decide) ?_
      exact r_i (pr_some h) C hP hS dJ6_compare_7cf53_19
    · have h := (if_pos c2).symm.trans h
      refine lv_iconst (v := 0) C.x C.b dJ6_compare_7cf53_14 (by decide) ?_
      refine lv_goto (tgt := 19) C.x C.b dJ6_compare_7cf53_15 (by decide) ?_
      exact r_i (pr_some h) C hP hS dJ6_compare_7cf53_19
  · have h := (if_neg c1).symm.trans h
    refine lv_iconst (v := (-1)) C.x C.b dJ6_compare_7cf53_5 (by decide) ?_
    refine lv_goto (tgt := 19) C.x C.b dJ6_compare_7cf53_6 (by decide) ?_
    exact r_i (pr_some h) C hP hS dJ6_compare_7cf53_19

set_option maxRecDepth 100000 in
set_option maxHeartbeats 4000000 in
theorem c_J6_compare_7cf53 {l : Launch} {G : Gp} (hI : Wi G) {x0 : Int32} {x1 : Int32} {μ : Mem} {r : Int32} (h : f_J6_compare_7cf53 x0 x1 μ = some r) : CI l yJ6_compare_7cf53 cJ6_compare_7cf53 2 (some .int) 0 0 G [.int x0, .int x1] μ r μ :=
  e_all (lv := [(0, .int x0), (1, .int x1)]) hI (by decide) (Nat.le_of_ble_eq_true rfl) rfl (fun p e s m args below meth c ls C hP hS hl => b_J6_compare_7cf53 C h _ _ _ hP hS hl)


def g_J7_fill_d0a16_6 (a0 : Nat) (n0 : Nat) (x1 : Int64)  (q6 : Int32 → Int32 → Mem → Option Mem) (x3 : Int32) (x4 : Int32) (μ : Mem) : Option Mem := if x4 ≤ x3 then (some μ) else (grd (inb x3 n0) (lt (stl μ a0 x3.toNatClampNeg x1) (fun μ3 => lt (x3 + 1) (fun y4 => q6 y4 x4 μ3))))
def f_J7_fill_d0a16_6 (a0 : Nat) (n0 : Nat) (x1 : Int64)  : Nat → Int32 → Int32 → Mem → Option Mem
  | 0, _, _, _ => none
  | n + 1, x3, x4, μ => g_J7_fill_d0a16_6 a0 n0 x1 (f_J7_fill_d0a16_6 a0 n0 x1 n) x3 x4 μ
set_option maxRecDepth 100000 in
set_option maxHeartbeats 4000000 in
theorem w_J7_fill_d0a16_6 {p : Program} {l : Launch} {e : Env} {s : State} {m : MethodId} {args : Array Value} {below : List Frame} {meth : Method} {c : Code} {G : Gp} {O : Mem} (C : Cx p s m args meth c cJ7_fill_d0a16 5 RJ7 none G) {a0 : Nat} {n0 : Nat} {x1 : Int64} (hs0 : shp[a0]? = some (.inr (3, n0))) {q6 : Int32 → Int32 → Mem → Option Mem} (hq6 : ∀ (x3 : Int32) (x4 : Int32) (μ : Mem), q6 x3 x4 μ = some O → ∀ (H : Heap) (locs : List Loc) (ls : Array Slot), Wm G μ H → va_S (wA G) s.heap H locs → lv_has ls 5 [(0, .ref (G.2.2 a0)), (1, .long x1), (3, .int x3), (4, .int x4)] → W p l e (rmm 0 0) s m args below meth c H locs 0 0 (QV below args s G O) (F0 m 6 ls [])) : ∀ (x3 : Int32) (x4 : Int32) (μ : Mem), g_J7_fill_d0a16_6 a0 n0 x1 q6 x3 x4 μ = some O → ∀ (H : Heap) (locs : List Loc) (ls : Array Slot), Wm G μ H → va_S (wA G) s.heap H locs → lv_has ls 5 [(0, .ref (G.2.2 a0)), (1, .long x1), (3, .int x3), (4, .int x4)] → W p l e (rmm 0 0) s m args below meth c H locs 0 0 (QV below args s G O) (F0 m 6 ls []) := by
  intro x3 x4 μ h H locs ls hP hS hl
  unfold g_J7_fill_d0a16_6 at h
  refine lv_iload_n C.x C.b dJ7_fill_d0a16_6 rfl (lv_at hl 2 rfl) ?_
  refine lv_iload C.x C.b dJ7_fill_d0a16_7 (lv_at hl 3 rfl) ?_
  refine lv_icmp_ge (tgt := 22) C.x C.b dJ7_fill_d0a16_9 (by decide) (fun c1 => ?_) (fun c1 => ?_)
  · have h := (if_pos c1).symm.trans h
    exact r_v h C hP hS dJ7_fill_d0a16_22
  · have h := (if_neg c1).symm.trans h
    refine lv_aload_n C.x C.b dJ7_fill_d0a16_12 rfl (lv_at hl 0 rfl) ?_
    refine lv_iload_n C.x C.b dJ7_fill_d0a16_13 rfl (lv_at hl 2 rfl) ?_
    refine lv_lload_n C.x C.b dJ7_fill_d0a16_14 rfl (lv_at hl 1 rfl) ?_
    obtain ⟨g2, h⟩ := grd_some h
    refine as_l C hP hS hs0 g2 dJ7_fill_d0a16_15 (fun H locs hP hS => ?_)
    obtain ⟨μ3, m_μ3, h⟩ := lt_ex h
    have hP : Wm G μ3 H := by rw [m_μ3]; exact hP
    obtain ⟨y4, e_y4, h⟩ := lt_ex h
    refine lv_iinc (v := y4) (lv' := [(3, .int y4), (0, .ref (G.2.2 a0)), (1, .long x1), (4, .int x4)]) C.x C.b dJ7_fill_d0a16_16 hl (k := 2) rfl (by rw [e_y4]; rfl) (by decide) rfl (fun ls hl => ?_)
    refine lv_goto (tgt := 6) C.x C.b dJ7_fill_d0a16_19 (by decide) ?_
    exact hq6 y4 x4 μ3 h _ _ _ hP hS (lv_sub hl [1, 2, 0, 3] rfl)

set_option maxRecDepth 100000 in
set_option maxHeartbeats 4000000 in
theorem b_J7_fill_d0a16_6 {p : Program} {l : Launch} {e : Env} {s : State} {m : MethodId} {args : Array Value} {below : List Frame} {meth : Method} {c : Code} {G : Gp} {O : Mem} (C : Cx p s m args meth c cJ7_fill_d0a16 5 RJ7 none G) {a0 : Nat} {n0 : Nat} {x1 : Int64} (hs0 : shp[a0]? = some (.inr (3, n0))) : ∀ (n : Nat) (x3 : Int32) (x4 : Int32) (μ : Mem), f_J7_fill_d0a16_6 a0 n0 x1 n x3 x4 μ = some O → ∀ (H : Heap) (locs : List Loc) (ls : Array Slot), Wm G μ H → va_S (wA G) s.heap H locs → lv_has ls 5 [(0, .ref (G.2.2 a0)), (1, .long x1), (3, .int x3), (4, .int x4)] → W p l e (rmm 0 0) s m args below meth c H locs 0 0 (QV below args s G O) (F0 m 6 ls []) := by
  intro n
  induction n with
  | zero => intro x3 x4 μ h; cases h
  | succ n ih => intro x3 x4 μ h; exact w_J7_fill_d0a16_6 C hs0 (q6 := f_J7_fill_d0a16_6 a0 n0 x1 n) ih x3 x4 μ h

def f_J7_fill_d0a16 (a0 : Nat) (n0 : Nat) (x1 : Int64) (μ : Mem) : Option Mem := lt (nI n0) (fun y1 => f_J7_fill_d0a16_6 a0 n0 x1 FU 0 y1 μ)
set_option maxRecDepth 100000 in
set_option maxHeartbeats 4000000 in
theorem b_J7_fill_d0a16 {p : Program} {l : Launch} {e : Env} {s : State} {m : MethodId} {args : Array Value} {below : List Frame} {meth : Method} {c : Code} {G : Gp} {O : Mem} (C : Cx p s m args meth c cJ7_fill_d0a16 5 RJ7 none G) {a0 : Nat} {n0 : Nat} {x1 : Int64} (hs0 : shp[a0]? = some (.inr (3, n0))) {μ : Mem} (h : f_J7_fill_d0a16 a0 n0 x1 μ = some O) : ∀ (H : Heap) (locs : List Loc) (ls : Array Slot), Wm G μ H → va_S (wA G) s.heap H locs → lv_has ls 5 [(0, .ref (G.2.2 a0)), (1, .long x1)] → W p l e (rmm 0 0) s m args below meth c H locs 0 0 (QV below args s G O) (F0 m 0 ls []) := by
  unfold f_J7_fill_d0a16 at h
  intro H locs ls hP hS hl
  refine lv_iconst (v := 0) C.x C.b dJ7_fill_d0a16_0 (by decide) ?_
  refine lv_istore_n (lv' := [(3, .int 0), (0, .ref (G.2.2 a0)), (1, .long x1)]) C.x C.b dJ7_fill_d0a16_1 rfl hl (by decide) rfl (fun ls hl => ?_)
  refine lv_aload_n C.x C.b dJ7_fill_d0a16_2 rfl (lv_at hl 1 rfl) ?_
  refine a_n (v := nI n0) C hP hs0 (by decide) (by first | rfl | decide) dJ7_fill_d0a16_3 ?_
  refine lv_topi (fun y1 e_y1 => ?_)
  have h := lt_at h e_y1
  refine lv_istore (lv' := [(4, .int y1), (3, .int 0), (0, .ref (G.2.2 a0)), (1, .long x1)]) C.x C.b dJ7_fill_d0a16_4 hl (by decide) rfl (fun ls hl => ?_)
  exact b_J7_fill_d0a16_6 C hs0 FU 0 y1 μ h _ _ _ hP hS (lv_sub hl [2, 3, 1, 0] rfl)

set_option maxRecDepth 100000 in
set_option maxHeartbeats 4000000 in
theorem c_J7_fill_d0a16 {l : Launch} {G : Gp} (hI : Wi G) {a0 : Nat} {n0 : Nat} {x1 : Int64} (hs0 : shp[a0]? = some (.inr (3, n0))) {μ : Mem} {μ' : Mem} (h : f_J7_fill_d0a16 a0 n0 x1 μ = some μ') : CV l yJ7_fill_d0a16 cJ7_fill_d0a16 5 none 0 0 G [.ref (G.2.2 a0), .long x1] μ μ' :=
  e_all (lv := [(0, .ref (G.2.2 a0)), (1, .long x1)]) hI (by decide) (Nat.le_of_ble_eq_true rfl) rfl (fun p e s m args below meth c ls C hP hS hl => b_J7_fill_d0a16 C hs0 h _ _ _ hP hS hl)


def f_X4_copyFrom (k : Nat) (o1 : Nat) (μ : Mem) : Option Mem := lt (st μ k 1 (μ.1 o1 1)) (fun μ1 => grd (cpyOk 0 0 8 8 8) (lt (cst μ1 (k + 1) (va_cpy (μ1.1 (o1 + 1)) (μ1.1 (k + 1)) (0 : Int32).toNatClampNeg (0 : Int32).toNatClampNeg (8 : Int32).toNatClampNeg)) (fun μ3 => grd (cpyOk 0 0 8 8 8) (lt (cst μ3 (k + 2) (va_cpy (μ3.1 (o1 + 2)) (μ3.1 (k + 2)) (0 : Int32).toNatClampNeg (0 : Int32).toNatClampNeg (8 : Int32).toNatClampNeg)) (fun μ5 => some μ5)))))
set_option maxRecDepth 100000 in
set_option maxHeartbeats 4000000 in
theorem b_X4_copyFrom {p : Program} {l : Launch} {e : Env} {s : State} {m : MethodId} {args : Array Value} {below : List Frame} {meth : Method} {c : Code} {G : Gp} {O : Mem} (C : Cx p s m args meth c cX4_copyFrom 2 RX4 none G) {k : Nat} {o1 : Nat} (hA : At sRows k) (hB1 : At sRows o1) {μ : Mem} (h : f_X4_copyFrom k o1 μ = some O) : ∀ (H : Heap) (locs : List Loc) (ls : Array Slot), Wm G μ H → va_S (wA G) s.heap H locs → lv_has ls 2 [(0, .ref (G.2.2 k)), (1, .ref (G.2.2 o1))] → W p l e (rmm 1 26) s m args below meth c H locs 0 0 (QV below args s G O) (F0 m 0 ls []) := by
  unfold f_X4_copyFrom at h
  intro H locs ls hP hS hl
  have q_k_0 : shp[k]? = some (.inl (4, fs4)) := hA 0 _ rfl
  have q_k_1 : shp[k + 1]? = some (.inr (0, 8)) := hA 1 _ rfl
  have q_k_2 : shp[k + 2]? = some (.inr (0, 8)) := hA 2 _ rfl
  have q_o1_0 : shp[o1]? = some (.inl (4, fs4)) := hB1 0 _ rfl
  have q_o1_1 : shp[o1 + 1]? = some (.inr (0, 8)) := hB1 1 _ rfl
  have q_o1_2 : shp[o1 + 2]? = some (.inr (0, 8)) := hB1 2 _ rfl
  refine lv_aload_n C.x C.b dX4_copyFrom_0 rfl (lv_at hl 0 rfl) ?_
  refine lv_aload_n C.x C.b dX4_copyFrom_1 rfl (lv_at hl 1 rfl) ?_
  refine g_int F_4_1 u1_221 C hP q_o1_0 dX4_copyFrom_2 ?_
  refine p_int F_4_1 P_4_1 u1_221 C hP hS q_k_0 dX4_copyFrom_5 (fun H locs hP hS => ?_)
  obtain ⟨μ1, m_μ1, h⟩ := lt_ex h
  have hP : Wm G μ1 H := by rw [m_μ1]; exact hP
  refine lv_aload_n C.x C.b dX4_copyFrom_8 rfl (lv_at hl 1 rfl) ?_
  refine g_ref (k' := o1 + 1) F_4_2 u1_223 C hP q_o1_0 rfl dX4_copyFrom_9 ?_
  refine lv_iconst (v := 0) C.x C.b dX4_copyFrom_12 (by decide) ?_
  refine lv_aload_n C.x C.b dX4_copyFrom_13 rfl (lv_at hl 0 rfl) ?_
  refine g_ref (k' := k + 1) F_4_2 u1_223 C hP q_k_0 rfl dX4_copyFrom_14 ?_
  refine lv_iconst (v := 0) C.x C.b dX4_copyFrom_17 (by decide) ?_
  refine lv_bipush (v := 8) C.x C.b dX4_copyFrom_18 (by decide) ?_
  obtain ⟨g2, h⟩ := grd_some h
  refine k_cpy u4_75 C hP hS hl.1 q_o1_1 q_k_1 g2 ⟨by decide, Nat.le_of_ble_eq_true rfl⟩ dX4_copyFrom_20 (fun H locs hP hS => ?_)
  obtain ⟨μ3, m_μ3, h⟩ := lt_ex h
  have hP : Wm G μ3 H := by rw [m_μ3]; exact hP
  refine lv_aload_n C.x C.b dX4_copyFrom_23 rfl (lv_at hl 1 rfl) ?_
  refine g_ref (k' := o1 + 2) F_4_3 u1_225 C hP q_o1_0 rfl dX4_copyFrom_24 ?_
  refine lv_iconst (v := 0) C.x C.b dX4_copyFrom_27 (by decide) ?_
  refine lv_aload_n C.x C.b dX4_copyFrom_28 rfl (lv_at hl 0 rfl) ?_
  refine g_ref (k' := k + 2) F_4_3 u1_225 C hP q_k_0 rfl dX4_copyFrom_29 ?_
  refine lv_iconst (v := 0) C.x C.b dX4_copyFrom_32 (by decide) ?_
  refine lv_bipush (v := 8) C.x C.b dX4_copyFrom_33 (by decide) ?_
  obtain ⟨g4, h⟩ := grd_some h
  refine k_cpy u4_75 C hP hS hl.1 q_o1_2 q_k_2 g4 ⟨by decide, Nat.le_of_ble_eq_true rfl⟩ dX4_copyFrom_35 (fun H locs hP hS => ?_)
  obtain ⟨μ5, m_μ5, h⟩ := lt_ex h
  have hP : Wm G μ5 H := by rw [m_μ5]; exact hP
  exact r_v h C hP hS dX4_copyFrom_38

set_option maxRecDepth 100000 in
set_option maxHeartbeats 4000000 in
theorem c_X4_copyFrom {l : Launch} {G : Gp} (hI : Wi G) {k : Nat} {o1 : Nat} (hA : At sRows k) (hB1 : At sRows o1) {μ : Mem} {μ' : Mem} (h : f_X4_copyFrom k o1 μ = some μ') : CV l yX4_copyFrom cX4_copyFrom 2 none 1 26 G [.ref (G.2.2 k), .ref (G.2.2 o1)] μ μ' :=
  e_all (lv := [(0, .ref (G.2.2 k)), (1, .ref (G.2.2 o1))]) hI (by decide) (Nat.le_of_ble_eq_true rfl) rfl (fun p e s m args below meth c ls C hP hS hl => b_X4_copyFrom C hA hB1 h _ _ _ hP hS hl)


def f_X4_drop (k : Nat) (μ : Mem) : Option (Int32 × Mem) := lt (st μ k 1 0) (fun μ1 => some (0, μ1))
set_option maxRecDepth 100000 in
set_option maxHeartbeats 4000000 in
theorem b_X4_drop {p : Program} {l : Launch} {e : Env} {s : State} {m : MethodId} {args : Array Value} {below : List Frame} {meth : Method} {c : Code} {G : Gp} {O : (Int32 × Mem)} (C : Cx p s m args meth c cX4_drop 1 RX4 (some .int) G) {k : Nat} (hA : At sRows k) {μ : Mem} (h : f_X4_drop k μ = some O) : ∀ (H : Heap) (locs : List Loc) (ls : Array Slot), Wm G μ H → va_S (wA G) s.heap H locs → lv_has ls 1 [(0, .ref (G.2.2 k))] → W p l e (rmm 0 0) s m args below meth c H locs 0 0 (QI below args s G O) (F0 m 0 ls []) := by
  unfold f_X4_drop at h
  intro H locs ls hP hS hl
  have q_k_0 : shp[k]? = some (.inl (4, fs4)) := hA 0 _ rfl
  refine lv_aload_n C.x C.b dX4_drop_0 rfl (lv_at hl 0 rfl) ?_
  refine lv_iconst (v := 0) C.x C.b dX4_drop_1 (by decide) ?_
  refine p_int F_4_1 P_4_1 u1_221 C hP hS q_k_0 dX4_drop_2 (fun H locs hP hS => ?_)
  obtain ⟨μ1, m_μ1, h⟩ := lt_ex h
  have hP : Wm G μ1 H := by rw [m_μ1]; exact hP
  refine lv_iconst (v := 0) C.x C.b dX4_drop_5 (by decide) ?_
  exact r_i h C hP hS dX4_drop_6

set_option maxRecDepth 100000 in
set_option maxHeartbeats 4000000 in
theorem c_X4_drop {l : Launch} {G : Gp} (hI : Wi G) {k : Nat} (hA : At sRows k) {μ : Mem} {r : Int32} {μ' : Mem} (h : f_X4_drop k μ = some (r, μ')) : CI l yX4_drop cX4_drop 1 (some .int) 0 0 G [.ref (G.2.2 k)] μ r μ' :=
  e_all (lv := [(0, .ref (G.2.2 k))]) hI (by decide) (Nat.le_of_ble_eq_true rfl) rfl (fun p e s m args below meth c ls C hP hS hl => b_X4_drop C hA h _ _ _ hP hS hl)


def f_X4_add (k : Nat) (x1 : Int32) (x2 : Int32) (μ : Mem) : Option (Int32 × Mem) := if (μ.1 k 1) < (μ.1 k 0) then (grd (inb (μ.1 k 1) 8) (lt (st μ (k + 1) (μ.1 k 1).toNatClampNeg x1) (fun μ3 => grd (inb (μ3.1 k 1) 8) (lt (st μ3 (k + 2) (μ3.1 k 1).toNatClampNeg x2) (fun μ5 => lt (st μ5 k 1 ((μ5.1 k 1) + 1)) (fun μ6 => some (μ6.1 k 1, μ6))))))) else (some ((-4), μ))
set_option maxRecDepth 100000 in
set_option maxHeartbeats 4000000 in
theorem b_X4_add {p : Program} {l : Launch} {e : Env} {s : State} {m : MethodId} {args : Array Value} {below : List Frame} {meth : Method} {c : Code} {G : Gp} {O : (Int32 × Mem)} (C : Cx p s m args meth c cX4_add 3 RX4 (some .int) G) {k : Nat} {x1 : Int32} {x2 : Int32} (hA : At sRows k) {μ : Mem} (h : f_X4_add k x1 x2 μ = some O) : ∀ (H : Heap) (locs : List Loc) (ls : Array Slot), Wm G μ H → va_S (wA G) s.heap H locs → lv_has ls 3 [(0, .ref (G.2.2 k)), (1, .int x1), (2, .int x2)] → W p l e (rmm 0 0) s m args below meth c H locs 0 0 (QI below args s G O) (F0 m 0 ls []) := by
  unfold f_X4_add at h
  intro H locs ls hP hS hl
  have q_k_0 : shp[k]? = some (.inl (4, fs4)) := hA 0 _ rfl
  have q_k_1 : shp[k + 1]? = some (.inr (0, 8)) := hA 1 _ rfl
  have q_k_2 : shp[k + 2]? = some (.inr (0, 8)) := hA 2 _ rfl
  refine lv_aload_n C.x C.b dX4_add_0 rfl (lv_at hl 0 rfl) ?_
  refine g_int F_4_1 u1_221 C hP q_k_0 dX4_add_1 ?_
  refine lv_aload_n C.x C.b dX4_add_4 rfl (lv_at hl 0 rfl) ?_
  refine g_int F_4_0 u1_220 C hP q_k_0 dX4_add_5 ?_
  refine lv_icmp_lt (tgt := 14) C.x C.b dX4_add_8 (by decide) (fun c1 => ?_) (fun c1 => ?_)
  · have h := (if_pos c1).symm.trans h
    refine lv_aload_n C.x C.b dX4_add_14 rfl (lv_at hl 0 rfl) ?_
    refine g_ref (k' := k + 1) F_4_2 u1_223 C hP q_k_0 rfl dX4_add_15 ?_
    refine lv_aload_n C.x C.b dX4_add_18 rfl (lv_at hl 0 rfl) ?_
    refine g_int F_4_1 u1_221 C hP q_k_0 dX4_add_19 ?_
    refine lv_iload_n C.x C.b dX4_add_22 rfl (lv_at hl 1 rfl) ?_
    obtain ⟨g2, h⟩ := grd_some h
    refine as_i C hP hS q_k_1 g2 dX4_add_23 (fun H locs hP hS => ?_)
    obtain ⟨μ3, m_μ3, h⟩ := lt_ex h
    have hP : Wm G μ3 H := by rw [m_μ3]; exact hP
    refine lv_aload_n C.x C.b dX4_add_24 rfl (lv_at hl 0 rfl) ?_
    refine g_ref (k' := k + 2) F_4_3 u1_225 C hP q_k_0 rfl dX4_add_25 ?_
    refine lv_aload_n C.x C.b dX4_add_28 rfl (lv_at hl 0 rfl) ?_
    refine g_int F_4_1 u1_221 C hP q_k_0 dX4_add_29 ?_
    refine lv_iload_n C.x C.b dX4_add_32 rfl (lv_at hl 2 rfl) ?_
    obtain ⟨g4, h⟩ := grd_some h
    refine as_i C hP hS q_k_2 g4 dX4_add_33 (fun H locs hP hS => ?_)
    obtain ⟨μ5, m_μ5, h⟩ := lt_ex h
    have hP : Wm G μ5 H := by rw [m_μ5]; exact hP
    refine lv_aload_n C.x C.b dX4_add_34 rfl (lv_at hl 0 rfl) ?_
    refine lv_dup C.x C.b dX4_add_35 rfl ?_
    refine g_int F_4_1 u1_221 C hP q_k_0 dX4_add_36 ?_
    refine lv_iconst (v := 1) C.x C.b dX4_add_39 (by decide) ?_
    refine lv_iadd C.x C.b dX4_add_40 ?_
    refine p_int F_4_1 P_4_1 u1_221 C hP hS q_k_0 dX4_add_41 (fun H locs hP hS => ?_)
    obtain ⟨μ6, m_μ6, h⟩ := lt_ex h
    have hP : Wm G μ6 H := by rw [m_μ6]; exact hP
    refine lv_aload_n C.x C.b dX4_add_44 rfl (lv_at hl 0 rfl) ?_
    refine g_int F_4_1 u1_221 C hP q_k_0 dX4_add_45 ?_
    exact r_i h C hP hS dX4_add_48
  · have h := (if_neg c1).symm.trans h
    refine lv_bipush (v := (-4)) C.x C.b dX4_add_11 (by decide) ?_
    exact r_i h C hP hS dX4_add_13

set_option maxRecDepth 100000 in
set_option maxHeartbeats 4000000 in
theorem c_X4_add {l : Launch} {G : Gp} (hI : Wi G) {k : Nat} {x1 : Int32} {x2 : Int32} (hA : At sRows k) {μ : Mem} {r : Int32} {μ' : Mem} (h : f_X4_add k x1 x2 μ = some (r, μ')) : CI l yX4_add cX4_add 3 (some .int) 0 0 G [.ref (G.2.2 k), .int x1, .int x2] μ r μ' :=
  e_all (lv := [(0, .ref (G.2.2 k)), (1, .int x1), (2, .int x2)]) hI (by decide) (Nat.le_of_ble_eq_true rfl) rfl (fun p e s m args below meth c ls C hP hS hl => b_X4_add C hA h _ _ _ hP hS hl)


def g_X4_firstOther_2 (k : Nat) (a1 : Nat) (n1 : Nat)  (μ : Mem) (q2 : Int32 → Option Int32) (x2 : Int32) : Option Int32 := if (μ.1 k 1) ≤ x2 then (some ((-5))) else (grd (inb x2 8) (grd (inb (μ.1 (k + 1) x2.toNatClampNeg) n1) (grd (inb x2 8) (if (μ.1 a1 (μ.1 (k + 1) x2.toNatClampNeg).toNatClampNeg) = (μ.1 (k + 2) x2.toNatClampNeg) then (lt (x2 + 1) (fun y6 => q2 y6)) else (some x2)))))
def f_X4_firstOther_2 (k : Nat) (a1 : Nat) (n1 : Nat)  (μ : Mem) : Nat → Int32 → Option Int32
  | 0, _ => none
  | n + 1, x2 => g_X4_firstOther_2 k a1 n1 μ (f_X4_firstOther_2 k a1 n1 μ n) x2
set_option maxRecDepth 100000 in
set_option maxHeartbeats 4000000 in
theorem w_X4_firstOther_2 {p : Program} {l : Launch} {e : Env} {s : State} {m : MethodId} {args : Array Value} {below : List Frame} {meth : Method} {c : Code} {G : Gp} {O : Int32} (C : Cx p s m args meth c cX4_firstOther 3 RX4 (some .int) G) {k : Nat} {a1 : Nat} {n1 : Nat} {μ : Mem} (hA : At sRows k) (hs1 : shp[a1]? = some (.inr (0, n1))) {q2 : Int32 → Option Int32} (hq2 : ∀ (x2 : Int32), q2 x2 = some O → ∀ (H : Heap) (locs : List Loc) (ls : Array Slot), Wm G μ H → va_S (wA G) s.heap H locs → lv_has ls 3 [(0, .ref (G.2.2 k)), (1, .ref (G.2.2 a1)), (2, .int x2)] → W p l e (rmm 0 0) s m args below meth c H locs 0 0 (QI below args s G (O, μ)) (F0 m 2 ls [])) : ∀ (x2 : Int32), g_X4_firstOther_2 k a1 n1 μ q2 x2 = some O → ∀ (H : Heap) (locs : List Loc) (ls : Array Slot), Wm G μ H → va_S (wA G) s.heap H locs → lv_has ls 3 [(0, .ref (G.2.2 k)), (1, .ref (G.2.2 a1)), (2, .int x2)] → W p l e (rmm 0 0) s m args below meth c H locs 0 0 (QI below args s G (O, μ)) (F0 m 2 ls []) := by
  intro x2 h H locs ls hP hS hl
  unfold g_X4_firstOther_2 at h
  have q_k_0 : shp[k]? = some (.inl (4, fs4)) := hA 0 _ rfl
  have q_k_1 : shp[k + 1]? = some (.inr (0, 8)) := hA 1 _ rfl
  have q_k_2 : shp[k + 2]? = some (.inr (0, 8)) := hA 2 _ rfl
  refine lv_iload_n C.x C.b dX4_firstOther_2 rfl (lv_at hl 2 rfl) ?_
  refine lv_aload_n C.x C.b dX4_firstOther_3 rfl (lv_at hl 0 rfl) ?_
  refine g_int F_4_1 u1_221 C hP q_k_0 dX4_firstOther_4 ?_
  refine lv_icmp_ge (tgt := 35) C.x C.b dX4_firstOther_7 (by decide) (fun c1 => ?_) (fun c1 => ?_)
  · have h := (if_pos c1).symm.trans h
    refine lv_bipush (v := (-5)) C.x C.b dX4_firstOther_35 (by decide) ?_
    exact r_i (pr_some h) C hP hS dX4_firstOther_37
  · have h := (if_neg c1).symm.trans h
    refine lv_aload_n C.x C.b dX4_firstOther_10 rfl (lv_at hl 1 rfl) ?_
    refine lv_aload_n C.x C.b dX4_firstOther_11 rfl (lv_at hl 0 rfl) ?_
    refine g_ref (k' := k + 1) F_4_2 u1_223 C hP q_k_0 rfl dX4_firstOther_12 ?_
    refine lv_iload_n C.x C.b dX4_firstOther_15 rfl (lv_at hl 2 rfl) ?_
    obtain ⟨g2, h⟩ := grd_some h
    refine a_i C hP q_k_1 g2 dX4_firstOther_16 ?_
    obtain ⟨g3, h⟩ := grd_some h
    refine a_i C hP hs1 g3 dX4_firstOther_17 ?_
    refine lv_aload_n C.x C.b dX4_firstOther_18 rfl (lv_at hl 0 rfl) ?_
    refine g_ref (k' := k + 2) F_4_3 u1_225 C hP q_k_0 rfl dX4_firstOther_19 ?_
    refine lv_iload_n C.x C.b dX4_firstOther_22 rfl (lv_at hl 2 rfl) ?_
    obtain ⟨g4, h⟩ := grd_some h
    refine a_i C hP q_k_2 g4 dX4_firstOther_23 ?_
    refine lv_icmp_eq (tgt := 29) C.x C.b dX4_firstOther_24 (by decide) (fun c5 => ?_) (fun c5 => ?_)
    · have h := (if_pos c5).symm.trans h
      obtain ⟨y6, e_y6, h⟩ := lt_ex h
      refine lv_iinc (v := y6) (lv' := [(2, .int y6), (0, .ref (G.2.2 k)), (1, .ref (G.2.2 a1))]) C.x C.b dX4_firstOther_29 hl (k := 2) rfl (by rw [e_y6]; rfl) (by decide) rfl (fun ls hl => ?_)
      refine lv_goto (tgt := 2) C.x C.b dX4_firstOther_32 (by decide) ?_
      exact hq2 y6 h _ _ _ hP hS (lv_sub hl [1, 2, 0] rfl)
    · have h := (if_neg c5).symm.trans h
      refine lv_iload_n C.x C.b dX4_firstOther_27 rfl (lv_at hl 2 rfl) ?_
      exact r_i (pr_some h) C hP hS dX4_firstOther_28

set_option maxRecDepth 100000 in
set_option maxHeartbeats 4000000 in
theorem b_X4_firstOther_2 {p : Program} {l : Launch} {e : Env} {s : State} {m : MethodId} {args : Array Value} {below : List Frame} {meth : Method} {c : Code} {G : Gp} {O : Int32} (C : Cx p s m args meth c cX4_firstOther 3 RX4 (some .int) G) {k : Nat} {a1 : Nat} {n1 : Nat} {μ : Mem} (hA : At sRows k) (hs1 : shp[a1]? = some (.inr (0, n1))) : ∀ (n : Nat) (x2 : Int32), f_X4_firstOther_2 k a1 n1 μ n x2 = some O → ∀ (H : Heap) (locs : List Loc) (ls : Array Slot), Wm G μ H → va_S (wA G) s.heap H locs → lv_has ls 3 [(0, .ref (G.2.2 k)), (1, .ref (G.2.2 a1)), (2, .int x2)] → W p l e (rmm 0 0) s m args below meth c H locs 0 0 (QI below args s G (O, μ)) (F0 m 2 ls []) := by
  intro n
  induction n with
  | zero => intro x2 h; cases h
  | succ n ih => intro x2 h; exact w_X4_firstOther_2 C hA hs1 (q2 := f_X4_firstOther_2 k a1 n1 μ n) ih x2 h

def f_X4_firstOther (k : Nat) (a1 : Nat) (n1 : Nat) (μ : Mem) : Option Int32 := f_X4_firstOther_2 k a1 n1 μ FU 0
set_option maxRecDepth 100000 in
set_option maxHeartbeats 4000000 in
theorem b_X4_firstOther {p : Program} {l : Launch} {e : Env} {s : State} {m : MethodId} {args : Array Value} {below : List Frame} {meth : Method} {c : Code} {G : Gp} {O : Int32} (C : Cx p s m args meth c cX4_firstOther 3 RX4 (some .int) G) {k : Nat} {a1 : Nat} {n1 : Nat} {μ : Mem} (hA : At sRows k) (hs1 : shp[a1]? = some (.inr (0, n1))) (h : f_X4_firstOther k a1 n1 μ = some O) : ∀ (H : Heap) (locs : List Loc) (ls : Array Slot), Wm G μ H → va_S (wA G) s.heap H locs → lv_has ls 3 [(0, .ref (G.2.2 k)), (1, .ref (G.2.2 a1))] → W p l e (rmm 0 0) s m args below meth c H locs 0 0 (QI below args s G (O, μ)) (F0 m 0 ls []) := by
  unfold f_X4_firstOther at h
  intro H locs ls hP hS hl
  refine lv_iconst (v := 0) C.x C.b dX4_firstOther_0 (by decide) ?_
  refine lv_istore_n (lv' := [(2, .int 0), (0, .ref (G.2.2 k)), (1, .ref (G.2.2 a1))]) C.x C.b dX4_firstOther_1 rfl hl (by decide) rfl (fun ls hl => ?_)
  exact b_X4_firstOther_2 C hA hs1 FU 0 h _ _ _ hP hS (lv_sub hl [1, 2, 0] rfl)

set_option maxRecDepth 100000 in
set_option maxHeartbeats 4000000 in
theorem c_X4_firstOther {l : Launch} {G : Gp} (hI : Wi G) {k : Nat} {a1 : Nat} {n1 : Nat} (hA : At sRows k) (hs1 : shp[a1]? = some (.inr (0, n1))) {μ : Mem} {r : Int32} (h : f_X4_firstOther k a1 n1 μ = some r) : CI l yX4_firstOther cX4_firstOther 3 (some .int) 0 0 G [.ref (G.2.2 k), .ref (G.2.2 a1)] μ r μ :=
  e_all (lv := [(0, .ref (G.2.2 k)), (1, .ref (G.2.2 a1))]) hI (by decide) (Nat.le_of_ble_eq_true rfl) rfl (fun p e s m args below meth c ls C hP hS hl => b_X4_firstOther C hA hs1 h _ _ _ hP hS hl)


def f_X7_become (k : Nat) (x1 : Int32) (x2 : Int32) (μ : Mem) : Option Mem := lt (st μ k 0 x1) (fun μ1 => lt (st μ1 k 1 x2) (fun μ2 => bnv (f_J7_fill_d0a16 (k + 1) 60 0 μ2) (fun μ4 => some μ4)))
set_option maxRecDepth 100000 in
set_option maxHeartbeats 4000000 in
theorem b_X7_become {p : Program} {l : Launch} {e : Env} {s : State} {m : MethodId} {args : Array Value} {below : List Frame} {meth : Method} {c : Code} {G : Gp} {O : Mem} (C : Cx p s m args meth c cX7_become 3 RX7 none G) {k : Nat} {x1 : Int32} {x2 : Int32} (hA : At sTape k) {μ : Mem} (h : f_X7_become k x1 x2 μ = some O) : ∀ (H : Heap) (locs : List Loc) (ls : Array Slot), Wm G μ H → va_S (wA G) s.heap H locs → lv_has ls 3 [(0, .ref (G.2.2 k)), (1, .int x1), (2, .int x2)] → W p l e (rmm 1 24) s m args below meth c H locs 0 0 (QV below args s G O) (F0 m 0 ls []) := by
  unfold f_X7_become at h
  intro H locs ls hP hS hl
  have q_k_0 : shp[k]? = some (.inl (7, fs7)) := hA 0 _ rfl
  have q_k_1 : shp[k + 1]? = some (.inr (3, 60)) := hA 1 _ rfl
  refine lv_aload_n C.x C.b dX7_become_0 rfl (lv_at hl 0 rfl) ?_
  refine lv_iload_n C.x C.b dX7_become_1 rfl (lv_at hl 1 rfl) ?_
  refine p_int F_7_0 P_7_0 u2_65 C hP hS q_k_0 dX7_become_2 (fun H locs hP hS => ?_)
  obtain ⟨μ1, m_μ1, h⟩ := lt_ex h
  have hP : Wm G μ1 H := by rw [m_μ1]; exact hP
  refine lv_aload_n C.x C.b dX7_become_5 rfl (lv_at hl 0 rfl) ?_
  refine lv_iload_n C.x C.b dX7_become_6 rfl (lv_at hl 2 rfl) ?_
  refine p_int F_7_1 P_7_1 u2_67 C hP hS q_k_0 dX7_become_7 (fun H locs hP hS => ?_)
  obtain ⟨μ2, m_μ2, h⟩ := lt_ex h
  have hP : Wm G μ2 H := by rw [m_μ2]; exact hP
  refine lv_aload_n C.x C.b dX7_become_10 rfl (lv_at hl 0 rfl) ?_
  refine g_ref (k' := k + 1) F_7_2 u2_68 C hP q_k_0 rfl dX7_become_11 ?_
  refine lv_lconst (v := 0) C.x C.b dX7_become_14 (by decide) ?_
  obtain ⟨μ4, e3, h⟩ := bnv_some h
  refine k_sv (as := [.ref (G.2.2 (k + 1)), .long 0]) (rest := []) (c_J7_fill_d0a16 C.i q_k_1 e3) M_J7_fill_d0a16 u4_96 C hP hS rfl (by decide) hl.1 rfl (Nat.le_of_ble_eq_true rfl) dX7_become_15 (fun H locs hP hS => ?_)
  exact r_v h C hP hS dX7_become_18

set_option maxRecDepth 100000 in
set_option maxHeartbeats 4000000 in
theorem c_X7_become {l : Launch} {G : Gp} (hI : Wi G) {k : Nat} {x1 : Int32} {x2 : Int32} (hA : At sTape k) {μ : Mem} {μ' : Mem} (h : f_X7_become k x1 x2 μ = some μ') : CV l yX7_become cX7_become 3 none 1 24 G [.ref (G.2.2 k), .int x1, .int x2] μ μ' :=
  e_all (lv := [(0, .ref (G.2.2 k)), (1, .int x1), (2, .int x2)]) hI (by decide) (Nat.le_of_ble_eq_true rfl) rfl (fun p e s m args below meth c ls C hP hS hl => b_X7_become C hA h _ _ _ hP hS hl)


def f_X7_hasPlace (k : Nat) (x1 : Int32) (μ : Mem) : Option Int32 := if x1 < 0 then (some 0) else (if (μ.1 k 1) ≤ x1 then (some 0) else (some 1))
set_option maxRecDepth 100000 in
set_option maxHeartbeats 4000000 in
theorem b_X7_hasPlace {p : Program} {l : Launch} {e : Env} {s : State} {m : MethodId} {args : Array Value} {below : List Frame} {meth : Method} {c : Code} {G : Gp} {O : Int32} (C : Cx p s m args meth c cX7_hasPlace 2 RX7 (some .boolean) G) {k : Nat} {x1 : Int32} {μ : Mem} (hA : At sTape k) (h : f_X7_hasPlace k x1 μ = some O) : ∀ (H : Heap) (locs : List Loc) (ls : Array Slot), Wm G μ H → va_S (wA G) s.heap H locs → lv_has ls 2 [(0, .ref (G.2.2 k)), (1, .int x1)] → W p l e (rmm 0 0) s m args below meth c H locs 0 0 (QI below args s G (O, μ)) (F0 m 0 ls []) := by
  unfold f_X7_hasPlace at h
  intro H locs ls hP hS hl
  have q_k_0 : shp[k]? = some (.inl (7, fs7)) := hA 0 _ rfl
  refine lv_iload_n C.x C.b dX7_hasPlace_0 rfl (lv_at hl 1 rfl) ?_
  refine lv_if_lt (tgt := 16) C.x C.b dX7_hasPlace_1 (by decide) (fun c1 => ?_) (fun c1 => ?_)
  · have h := (if_pos c1).symm.trans h
    refine lv_iconst (v := 0) C.x C.b dX7_hasPlace_16 (by decide) ?_
    exact r_z (pr_some h) (by decide) C hP hS dX7_hasPlace_17
  · have h := (if_neg c1).symm.trans h
    refine lv_iload_n C.x C.b dX7_hasPlace_4 rfl (lv_at hl 1 rfl) ?_
    refine lv_aload_n C.x C.b dX7_hasPlace_5 rfl (lv_at hl 0 rfl) ?_
    refine g_int F_7_1 u2_67 C hP q_k_0 dX7_hasPlace_6 ?_
    refine lv_icmp_ge (tgt := 16) C.x C.b dX7_hasPlace_9 (by decide) (fun c2 => ?_) (fun c2 => ?_)
    · have h := (if_pos c2).symm.trans h
      refine lv_iconst (v := 0) C.x C.b dX7_hasPlace_16 (by decide) ?_
      exact r_z (pr_some h) (by decide) C hP hS dX7_hasPlace_17
    · have h := (if_neg c2).symm.trans h
      refine lv_iconst (v := 1) C.x C.b dX7_hasPlace_12 (by decide) ?_
      refine lv_goto (tgt := 17) C.x C.b dX7_hasPlace_13 (by decide) ?_
      exact r_z (pr_some h) (by decide) C hP hS dX7_hasPlace_17

set_option maxRecDepth 100000 in
set_option maxHeartbeats 4000000 in
theorem c_X7_hasPlace {l : Launch} {G : Gp} (hI : Wi G) {k : Nat} {x1 : Int32} (hA : At sTape k) {μ : Mem} {r : Int32} (h : f_X7_hasPlace k x1 μ = some r) : CI l yX7_hasPlace cX7_hasPlace 2 (some .boolean) 0 0 G [.ref (G.2.2 k), .int x1] μ r μ :=
  e_all (lv := [(0, .ref (G.2.2 k)), (1, .int x1)]) hI (by decide) (Nat.le_of_ble_eq_true rfl) rfl (fun p e s m args below meth c ls C hP hS hl => b_X7_hasPlace C hA h _ _ _ hP hS hl)


def f_X7_hasRun (k : Nat) (x1 : Int32) (x2 : Int32) (μ : Mem) : Option Int32 := if x2 < 0 then (some 0) else (if x1 < 0 then (some 0) else (if ((μ.1 k 1) - x1) < x2 then (some 0) else (some 1)))
set_option maxRecDepth 100000 in
set_option maxHeartbeats 4000000 in
theorem b_X7_hasRun {p : Program} {l : Launch} {e : Env} {s : State} {m : MethodId} {args : Array Value} {below : List Frame} {meth : Method} {c : Code} {G : Gp} {O : Int32} (C : Cx p s m args meth c cX7_hasRun 3 RX7 (some .boolean) G) {k : Nat} {x1 : Int32} {x2 : Int32} {μ : Mem} (hA : At sTape k) (h : f_X7_hasRun k x1 x2 μ = some O) : ∀ (H : Heap) (locs : List Loc) (ls : Array Slot), Wm G μ H → va_S (wA G) s.heap H locs → lv_has ls 3 [(0, .ref (G.2.2 k)), (1, .int x1), (2, .int x2)] → W p l e (rmm 0 0) s m args below meth c H locs 0 0 (QI below args s G (O, μ)) (F0 m 0 ls []) := by
  unfold f_X7_hasRun at h
  intro H locs ls hP hS hl
  have q_k_0 : shp[k]? = some (.inl (7, fs7)) := hA 0 _ rfl
  refine lv_iload_n C.x C.b dX7_hasRun_0 rfl (lv_at hl 2 rfl) ?_
  refine lv_if_lt (tgt := 22) C.x C.b dX7_hasRun_1 (by decide) (fun c1 => ?_) (fun c1 => ?_)
  · have h := (if_pos c1).symm.trans h
    refine lv_iconst (v := 0) C.x C.b dX7_hasRun_22 (by decide) ?_
    exact r_z (pr_some h) (by decide) C hP hS dX7_hasRun_23
  · have h := (if_neg c1).symm.trans h
    refine lv_iload_n C.x C.b dX7_hasRun_4 rfl (lv_at hl 1 rfl) ?_
    refine lv_if_lt (tgt := 22) C.x C.b dX7_hasRun_5 (by decide) (fun c2 => ?_) (fun c2 => ?_)
    · have h := (if_pos c2).symm.trans h
      refine lv_iconst (v := 0) C.x C.b dX7_hasRun_22 (by decide) ?_
      exact r_z (pr_some h) (by decide) C hP hS dX7_hasRun_23
    · have h := (if_neg c2).symm.trans h
      refine lv_iload_n C.x C.b dX7_hasRun_8 rfl (lv_at hl 2 rfl) ?_
      refine lv_aload_n C.x C.b dX7_hasRun_9 rfl (lv_at hl 0 rfl) ?_
      refine g_int F_7_1 u2_67 C hP q_k_0 dX7_hasRun_10 ?_
      refine lv_iload_n C.x C.b dX7_hasRun_13 rfl (lv_at hl 1 rfl) ?_
      refine lv_isub C.x C.b dX7_hasRun_14 ?_
      refine lv_icmp_gt (tgt := 22) C.x C.b dX7_hasRun_15 (by decide) (fun c3 => ?_) (fun c3 => ?_)
      · have h := (if_pos c3).symm.trans h
        refine lv_iconst (v := 0) C.x C.b dX7_hasRun_22 (by decide) ?_
        exact r_z (pr_some h) (by decide) C hP hS dX7_hasRun_23
      · have h := (if_neg c3).symm.trans h
        refine lv_iconst (v := 1) C.x C.b dX7_hasRun_18 (by decide) ?_
        refine lv_goto (tgt := 23) C.x C.b dX7_hasRun_19 (by decide) ?_
        exact r_z (pr_some h) (by decide) C hP hS dX7_hasRun_23

set_option maxRecDepth 100000 in
set_option maxHeartbeats 4000000 in
theorem c_X7_hasRun {l : Launch} {G : Gp} (hI : Wi G) {k : Nat} {x1 : Int32} {x2 : Int32} (hA : At sTape k) {μ : Mem} {r : Int32} (h : f_X7_hasRun k x1 x2 μ = some r) : CI l yX7_hasRun cX7_hasRun 3 (some .boolean) 0 0 G [.ref (G.2.2 k), .int x1, .int x2] μ r μ :=
  e_all (lv := [(0, .ref (G.2.2 k)), (1, .int x1), (2, .int x2)]) hI (by decide) (Nat.le_of_ble_eq_true rfl) rfl (fun p e s m args below meth c ls C hP hS hl => b_X7_hasRun C hA h _ _ _ hP hS hl)


def f_X7_fitted (k : Nat) (x1 : Int64) (μ : Mem) : Option Int64 := if (μ.1 k 0) = 0 then (some (Int32.toInt64 (n_b (Int64.toInt32 x1)))) else (if (μ.1 k 0) = 1 then (some (Int32.toInt64 (n_s (Int64.toInt32 x1)))) else (if (μ.1 k 0) = 2 then (some (Int32.toInt64 (Int64.toInt32 x1))) else (if (μ.1 k 0) = 3 then (some x1) else (if (μ.1 k 0) = 4 then (if (lg_cmp x1 0) = 0 then (some 0) else (some 1)) else ((some x1))))))
set_option maxRecDepth 100000 in
set_option maxHeartbeats 4000000 in
theorem b_X7_fitted {p : Program} {l : Launch} {e : Env} {s : State} {m : MethodId} {args : Array Value} {below : List Frame} {meth : Method} {c : Code} {G : Gp} {O : Int64} (C : Cx p s m args meth c cX7_fitted 3 RX7 (some .long) G) {k : Nat} {x1 : Int64} {μ : Mem} (hA : At sTape k) (h : f_X7_fitted k x1 μ = some O) : ∀ (H : Heap) (locs : List Loc) (ls : Array Slot), Wm G μ H → va_S (wA G) s.heap H locs → lv_has ls 3 [(0, .ref (G.2.2 k)), (1, .long x1)] → W p l e (rmm 0 0) s m args below meth c H locs 0 0 (QL below args s G (O, μ)) (F0 m 0 ls []) := by
  unfold f_X7_fitted at h
  intro H locs ls hP hS hl
  have q_k_0 : shp[k]? = some (.inl (7, fs7)) := hA 0 _ rfl
  refine lv_aload_n C.x C.b dX7_fitted_0 rfl (lv_at hl 0 rfl) ?_
  refine g_int F_7_0 u2_65 C hP q_k_0 dX7_fitted_1 ?_
  by_cases c1 : (μ.1 k 0) = 0
  · have h := (if_pos c1).symm.trans h
    refine lv_tableIn (off := 36) (tgt := 40) C.x C.b dX7_fitted_4 (by rw [c1]; decide) (by rw [c1]; decide) (by rw [c1]; rfl) (by decide) ?_
    refine lv_lload_n C.x C.b dX7_fitted_40 rfl (lv_at hl 1 rfl) ?_
    refine lv_l2i (v := Int64.toInt32 x1) C.x C.b dX7_fitted_41 rfl ?_
    refine lv_i2b (v := n_b (Int64.toInt32 x1)) C.x C.b dX7_fitted_42 rfl ?_
    refine lv_i2l (v := Int32.toInt64 (n_b (Int64.toInt32 x1))) C.x C.b dX7_fitted_43 rfl ?_
    exact r_l (pr_some h) C hP hS dX7_fitted_44
  · have h := (if_neg c1).symm.trans h
    by_cases c2 : (μ.1 k 0) = 1
    · have h := (if_pos c2).symm.trans h
      refine lv_tableIn (off := 41) (tgt := 45) C.x C.b dX7_fitted_4 (by rw [c2]; decide) (by rw [c2]; decide) (by rw [c2]; rfl) (by decide) ?_
      refine lv_lload_n C.x C.b dX7_fitted_45 rfl (lv_at hl 1 rfl) ?_
      refine lv_l2i (v := Int64.toInt32 x1) C.x C.b dX7_fitted_46 rfl ?_
      refine lv_i2s (v := n_s (Int64.toInt32 x1)) C.x C.b dX7_fitted_47 rfl ?_
      refine lv_i2l (v := Int32.toInt64 (n_s (Int64.toInt32 x1))) C.x C.b dX7_fitted_48 rfl ?_
      exact r_l (pr_some h) C hP hS dX7_fitted_49
    · have h := (if_neg c2).symm.trans h
      by_cases c3 : (μ.1 k 0) = 2
      · have h := (if_pos c3).symm.trans h
        refine lv_tableIn (off := 46) (tgt := 50) C.x C.b dX7_fitted_4 (by rw [c3]; decide) (by rw [c3]; decide) (by rw [c3]; rfl) (by decide) ?_
        refine lv_lload_n C.x C.b dX7_fitted_50 rfl (lv_at hl 1 rfl) ?_
        refine lv_l2i (v := Int64.toInt32 x1) C.x C.b dX7_fitted_51 rfl ?_
        refine lv_i2l (v := Int32.toInt64 (Int64.toInt32 x1)) C.x C.b dX7_fitted_52 rfl ?_
        exact r_l (pr_some h) C hP hS dX7_fitted_53
      · have h := (if_neg c3).symm.trans h
        by_cases c4 : (μ.1 k 0) = 3
        · have h := (if_pos c4).symm.trans h
          refine lv_tableIn (off := 62) (tgt := 66) C.x C.b dX7_fitted_4 (by rw [c4]; decide) (by rw [c4]; decide) (by rw [c4]; rfl) (by decide) ?_
          refine lv_lload_n C.x C.b dX7_fitted_66 rfl (lv_at hl 1 rfl) ?_
          exact r_l (pr_some h) C hP hS dX7_fitted_67
        · have h := (if_neg c4).symm.trans h
          by_cases c5 : (μ.1 k 0) = 4
          · have h := (if_pos c5).symm.trans h
            refine lv_tableIn (off := 50) (tgt := 54) C.x C.b dX7_fitted_4 (by rw [c5]; decide) (by rw [c5]; decide) (by rw [c5]; rfl) (by decide) ?_
            refine lv_lload_n C.x C.b dX7_fitted_54 rfl (lv_at hl 1 rfl) ?_
            refine lv_lconst (v := 0) C.x C.b dX7_fitted_55 (by decide) ?_
            refine W.lcmp C.x C.b dX7_fitted_56 ?_
            refine lv_if_eq (tgt := 64) C.x C.b dX7_fitted_57 (by decide) (fun c6 => ?_) (fun c6 => ?_)
            · have h := (if_pos c6).symm.trans h
              refine lv_lconst (v := 0) C.x C.b dX7_fitted_64 (by decide) ?_
              exact r_l (pr_some h) C hP hS dX7_fitted_65
            · have h := (if_neg c6).symm.trans h
              refine lv_lconst (v := 1) C.x C.b dX7_fitted_60 (by decide) ?_
              refine lv_goto (tgt := 65) C.x C.b dX7_fitted_61 (by decide) ?_
              exact r_l (pr_some h) C hP hS dX7_fitted_65
          · have h := (if_neg c5).symm.trans h
            have t_c1 := lv_neT (a := 0) c1 (by decide)
            have t_c2 := lv_neT (a := 1) c2 (by decide)
            have t_c3 := lv_neT (a := 2) c3 (by decide)
            have t_c4 := lv_neT (a := 3) c4 (by decide)
            have t_c5 := lv_neT (a := 4) c5 (by decide)
            refine lv_tableOut (tgt := 66) C.x C.b dX7_fitted_4 (by omega) (by decide) ?_
            refine lv_lload_n C.x C.b dX7_fitted_66 rfl (lv_at hl 1 rfl) ?_
            exact r_l (pr_some h) C hP hS dX7_fitted_67

set_option maxRecDepth 100000 in
set_option maxHeartbeats 4000000 in
theorem c_X7_fitted {l : Launch} {G : Gp} (hI : Wi G) {k : Nat} {x1 : Int64} (hA : At sTape k) {μ : Mem} {r : Int64} (h : f_X7_fitted k x1 μ = some r) : CL l yX7_fitted cX7_fitted 3 (some .long) 0 0 G [.ref (G.2.2 k), .long x1] μ r μ :=
  e_all (lv := [(0, .ref (G.2.2 k)), (1, .long x1)]) hI (by decide) (Nat.le_of_ble_eq_true rfl) rfl (fun p e s m args below meth c ls C hP hS hl => b_X7_fitted C hA h _ _ _ hP hS hl)


def f_X0_copyFrom (k : Nat) (o1 : Nat) (μ : Mem) : Option Mem := lt (st μ k 0 (μ.1 o1 0)) (fun μ1 => lt (st μ1 k 1 (μ1.1 o1 1)) (fun μ2 => grd (cpyOk 0 0 5 5 5) (lt (cst μ2 (k + 1) (va_cpy (μ2.1 (o1 + 1)) (μ2.1 (k + 1)) (0 : Int32).toNatClampNeg (0 : Int32).toNatClampNeg (5 : Int32).toNatClampNeg)) (fun μ4 => grd (cpyOk 0 0 5 5 5) (lt (cst μ4 (k + 2) (va_cpy (μ4.1 (o1 + 2)) (μ4.1 (k + 2)) (0 : Int32).toNatClampNeg (0 : Int32).toNatClampNeg (5 : Int32).toNatClampNeg)) (fun μ6 => grd (cpyOk 0 0 5 5 5) (lt (cst μ6 (k + 3) (va_cpy (μ6.1 (o1 + 3)) (μ6.1 (k + 3)) (0 : Int32).toNatClampNeg (0 : Int32).toNatClampNeg (5 : Int32).toNatClampNeg)) (fun μ8 => grd (cpyOk 0 0 5 5 5) (lt (cst μ8 (k + 4) (va_cpy (μ8.1 (o1 + 4)) (μ8.1 (k + 4)) (0 : Int32).toNatClampNeg (0 : Int32).toNatClampNeg (5 : Int32).toNatClampNeg)) (fun μ10 => grd (cpyOk 0 0 25 25 25) (lt (cst μ10 (k + 5) (va_cpy (μ10.1 (o1 + 5)) (μ10.1 (k + 5)) (0 : Int32).toNatClampNeg (0 : Int32).toNatClampNeg (25 : Int32).toNatClampNeg)) (fun μ12 => grd (cpyOk 0 0 25 25 25) (lt (cst μ12 (k + 6) (va_cpy (μ12.1 (o1 + 6)) (μ12.1 (k + 6)) (0 : Int32).toNatClampNeg (0 : Int32).toNatClampNeg (25 : Int32).toNatClampNeg)) (fun μ14 => some μ14))))))))))))))
set_option maxRecDepth 100000 in
set_option maxHeartbeats 4000000 in
theorem b_X0_copyFrom {p : Program} {l : Launch} {e : Env} {s : State} {m : MethodId} {args : Array Value} {below : List Frame} {meth : Method} {c : Code} {G : Gp} {O : Mem} (C : Cx p s m args meth c cX0_copyFrom 2 RX0 none G) {k : Nat} {o1 : Nat} (hA : At sGround k) (hB1 : At sGround o1) {μ : Mem} (h : f_X0_copyFrom k o1 μ = some O) : ∀ (H : Heap) (locs : List Loc) (ls : Array Slot), Wm G μ H → va_S (wA G) s.heap H locs → lv_has ls 2 [(0, .ref (G.2.2 k)), (1, .ref (G.2.2 o1))] → W p l e (rmm 1 26) s m args below meth c H locs 0 0 (QV below args s G O) (F0 m 0 ls []) := by
  unfold f_X0_copyFrom at h
  intro H locs ls hP hS hl
  have q_k_0 : shp[k]? = some (.inl (0, fs0)) := hA 0 _ rfl
  have q_k_1 : shp[k + 1]? = some (.inr (0, 5)) := hA 1 _ rfl
  have q_k_2 : shp[k + 2]? = some (.inr (0, 5)) := hA 2 _ rfl
  have q_k_3 : shp[k + 3]? = some (.inr (0, 5)) := hA 3 _ rfl
  have q_k_4 : shp[k + 4]? = some (.inr (0, 5)) := hA 4 _ rfl
  have q_k_5 : shp[k + 5]? = some (.inr (0, 25)) := hA 5 _ rfl
  have q_k_6 : shp[k + 6]? = some (.inr (0, 25)) := hA 6 _ rfl
  have q_o1_0 : shp[o1]? = some (.inl (0, fs0)) := hB1 0 _ rfl
  have q_o1_1 : shp[o1 + 1]? = some (.inr (0, 5)) := hB1 1 _ rfl
  have q_o1_2 : shp[o1 + 2]? = some (.inr (0, 5)) := hB1 2 _ rfl
  have q_o1_3 : shp[o1 + 3]? = some (.inr (0, 5)) := hB1 3 _ rfl
  have q_o1_4 : shp[o1 + 4]? = some (.inr (0, 5)) := hB1 4 _ rfl
  have q_o1_5 : shp[o1 + 5]? = some (.inr (0, 25)) := hB1 5 _ rfl
  have q_o1_6 : shp[o1 + 6]? = some (.inr (0, 25)) := hB1 6 _ rfl
  refine lv_aload_n C.x C.b dX0_copyFrom_0 rfl (lv_at hl 0 rfl) ?_
  refine lv_aload_n C.x C.b dX0_copyFrom_1 rfl (lv_at hl 1 rfl) ?_
  refine g_int F_0_0 u1_38 C hP q_o1_0 dX0_copyFrom_2 ?_
  refine p_int F_0_0 P_0_0 u1_38 C hP hS q_k_0 dX0_copyFrom_5 (fun H locs hP hS => ?_)
  obtain ⟨μ1, m_μ1, h⟩ := lt_ex h
  have hP : Wm G μ1 H := by rw [m_μ1]; exact hP
  refine lv_aload_n C.x C.b dX0_copyFrom_8 rfl (lv_at hl 0 rfl) ?_
  refine lv_aload_n C.x C.b dX0_copyFrom_9 rfl (lv_at hl 1 rfl) ?_
  refine g_int F_0_1 u1_42 C hP q_o1_0 dX0_copyFrom_10 ?_
  refine p_int F_0_1 P_0_1 u1_42 C hP hS q_k_0 dX0_copyFrom_13 (fun H locs hP hS => ?_)
  obtain ⟨μ2, m_μ2, h⟩ := lt_ex h
  have hP : Wm G μ2 H := by rw [m_μ2]; exact hP
  refine lv_aload_n C.x C.b dX0_copyFrom_16 rfl (lv_at hl 1 rfl) ?_
  refine g_ref (k' := o1 + 1) F_0_2 u1_46 C hP q_o1_0 rfl dX0_copyFrom_17 ?_
  refine lv_iconst (v := 0) C.x C.b dX0_copyFrom_20 (by decide) ?_
  refine lv_aload_n C.x C.b dX0_copyFrom_21 rfl (lv_at hl 0 rfl) ?_
  refine g_ref (k' := k + 1) F_0_2 u1_46 C hP q_k_0 rfl dX0_copyFrom_22 ?_
  refine lv_iconst (v := 0) C.x C.b dX0_copyFrom_25 (by decide) ?_
  refine lv_iconst (v := 5) C.x C.b dX0_copyFrom_26 (by decide) ?_
  obtain ⟨g3, h⟩ := grd_some h
  refine k_cpy u3_175 C hP hS hl.1 q_o1_1 q_k_1 g3 ⟨by decide, Nat.le_of_ble_eq_true rfl⟩ dX0_copyFrom_27 (fun H locs hP hS => ?_)
  obtain ⟨μ4, m_μ4, h⟩ := lt_ex h
  have hP : Wm G μ4 H := by rw [m_μ4]; exact hP
  refine lv_aload_n C.x C.b dX0_copyFrom_30 rfl (lv_at hl 1 rfl) ?_
  refine g_ref (k' := o1 + 2) F_0_3 u1_49 C hP q_o1_0 rfl dX0_copyFrom_31 ?_
  refine lv_iconst (v := 0) C.x C.b dX0_copyFrom_34 (by decide) ?_
  refine lv_aload_n C.x C.b dX0_copyFrom_35 rfl (lv_at hl 0 rfl) ?_
  refine g_ref (k' := k + 2) F_0_3 u1_49 C hP q_k_0 rfl dX0_copyFrom_36 ?_
  refine lv_iconst (v := 0) C.x C.b dX0_copyFrom_39 (by decide) ?_
  refine lv_iconst (v := 5) C.x C.b dX0_copyFrom_40 (by decide) ?_
  obtain ⟨g5, h⟩ := grd_some h
  refine k_cpy u3_175 C hP hS hl.1 q_o1_2 q_k_2 g5 ⟨by decide, Nat.le_of_ble_eq_true rfl⟩ dX0_copyFrom_41 (fun H locs hP hS => ?_)
  obtain ⟨μ6, m_μ6, h⟩ := lt_ex h
  have hP : Wm G μ6 H := by rw [m_μ6]; exact hP
  refine lv_aload_n C.x C.b dX0_copyFrom_44 rfl (lv_at hl 1 rfl) ?_
  refine g_ref (k' := o1 + 3) F_0_4 u1_50 C hP q_o1_0 rfl dX0_copyFrom_45 ?_
  refine lv_iconst (v := 0) C.x C.b dX0_copyFrom_48 (by decide) ?_
  refine lv_aload_n C.x C.b dX0_copyFrom_49 rfl (lv_at hl 0 rfl) ?_
  refine g_ref (k' := k + 3) F_0_4 u1_50 C hP q_k_0 rfl dX0_copyFrom_50 ?_
  refine lv_iconst (v := 0) C.x C.b dX0_copyFrom_53 (by decide) ?_
  refine lv_iconst (v := 5) C.x C.b dX0_copyFrom_54 (by decide) ?_
  obtain ⟨g7, h⟩ := grd_some h
  refine k_cpy u3_175 C hP hS hl.1 q_o1_3 q_k_3 g7 ⟨by decide, Nat.le_of_ble_eq_true rfl⟩ dX0_copyFrom_55 (fun H locs hP hS => ?_)
  obtain ⟨μ8, m_μ8, h⟩ := lt_ex h
  have hP : Wm G μ8 H := by rw [m_μ8]; exact hP
  refine lv_aload_n C.x C.b dX0_copyFrom_58 rfl (lv_at hl 1 rfl) ?_
  refine g_ref (k' := o1 + 4) F_0_5 u1_53 C hP q_o1_0 rfl dX0_copyFrom_59 ?_
  refine lv_iconst (v := 0) C.x C.b dX0_copyFrom_62 (by decide) ?_
  refine lv_aload_n C.x C.b dX0_copyFrom_63 rfl (lv_at hl 0 rfl) ?_
  refine g_ref (k' := k + 4) F_0_5 u1_53 C hP q_k_0 rfl dX0_copyFrom_64 ?_
  refine lv_iconst (v := 0) C.x C.b dX0_copyFrom_67 (by decide) ?_
  refine lv_iconst (v := 5) C.x C.b dX0_copyFrom_68 (by decide) ?_
  obtain ⟨g9, h⟩ := grd_some h
  refine k_cpy u3_175 C hP hS hl.1 q_o1_4 q_k_4 g9 ⟨by decide, Nat.le_of_ble_eq_true rfl⟩ dX0_copyFrom_69 (fun H locs hP hS => ?_)
  obtain ⟨μ10, m_μ10, h⟩ := lt_ex h
  have hP : Wm G μ10 H := by rw [m_μ10]; exact hP
  refine lv_aload_n C.x C.b dX0_copyFrom_72 rfl (lv_at hl 1 rfl) ?_
  refine g_ref (k' := o1 + 5) F_0_6 u1_54 C hP q_o1_0 rfl dX0_copyFrom_73 ?_
  refine lv_iconst (v := 0) C.x C.b dX0_copyFrom_76 (by decide) ?_
  refine lv_aload_n C.x C.b dX0_copyFrom_77 rfl (lv_at hl 0 rfl) ?_
  refine g_ref (k' := k + 5) F_0_6 u1_54 C hP q_k_0 rfl dX0_copyFrom_78 ?_
  refine lv_iconst (v := 0) C.x C.b dX0_copyFrom_81 (by decide) ?_
  refine lv_bipush (v := 25) C.x C.b dX0_copyFrom_82 (by decide) ?_
  obtain ⟨g11, h⟩ := grd_some h
  refine k_cpy u3_175 C hP hS hl.1 q_o1_5 q_k_5 g11 ⟨by decide, Nat.le_of_ble_eq_true rfl⟩ dX0_copyFrom_84 (fun H locs hP hS => ?_)
  obtain ⟨μ12, m_μ12, h⟩ := lt_ex h
  have hP : Wm G μ12 H := by rw [m_μ12]; exact hP
  refine lv_aload_n C.x C.b dX0_copyFrom_87 rfl (lv_at hl 1 rfl) ?_
  refine g_ref (k' := o1 + 6) F_0_7 u1_57 C hP q_o1_0 rfl dX0_copyFrom_88 ?_
  refine lv_iconst (v := 0) C.x C.b dX0_copyFrom_91 (by decide) ?_
  refine lv_aload_n C.x C.b dX0_copyFrom_92 rfl (lv_at hl 0 rfl) ?_
  refine g_ref (k' := k + 6) F_0_7 u1_57 C hP q_k_0 rfl dX0_copyFrom_93 ?_
  refine lv_iconst (v := 0) C.x C.b dX0_copyFrom_96 (by decide) ?_
  refine lv_bipush (v := 25) C.x C.b dX0_copyFrom_97 (by decide) ?_
  obtain ⟨g13, h⟩ := grd_some h
  refine k_cpy u3_175 C hP hS hl.1 q_o1_6 q_k_6 g13 ⟨by decide, Nat.le_of_ble_eq_true rfl⟩ dX0_copyFrom_99 (fun H locs hP hS => ?_)
  obtain ⟨μ14, m_μ14, h⟩ := lt_ex h
  have hP : Wm G μ14 H := by rw [m_μ14]; exact hP
  exact r_v h C hP hS dX0_copyFrom_102

set_option maxRecDepth 100000 in
set_option maxHeartbeats 4000000 in
theorem c_X0_copyFrom {l : Launch} {G : Gp} (hI : Wi G) {k : Nat} {o1 : Nat} (hA : At sGround k) (hB1 : At sGround o1) {μ : Mem} {μ' : Mem} (h : f_X0_copyFrom k o1 μ = some μ') : CV l yX0_copyFrom cX0_copyFrom 2 none 1 26 G [.ref (G.2.2 k), .ref (G.2.2 o1)] μ μ' :=
  e_all (lv := [(0, .ref (G.2.2 k)), (1, .ref (G.2.2 o1))]) hI (by decide) (Nat.le_of_ble_eq_true rfl) rfl (fun p e s m args below meth c ls C hP hS hl => b_X0_copyFrom C hA hB1 h _ _ _ hP hS hl)


def f_X0_hasBothSides (k : Nat) (μ : Mem) : Option Int32 := if (μ.1 k 0) ≤ 0 then (some 0) else (if (μ.1 k 1) ≤ 0 then (some 0) else (some 1))
set_option maxRecDepth 100000 in
set_option maxHeartbeats 4000000 in
theorem b_X0_hasBothSides {p : Program} {l : Launch} {e : Env} {s : State} {m : MethodId} {args : Array Value} {below : List Frame} {meth : Method} {c : Code} {G : Gp} {O : Int32} (C : Cx p s m args meth c cX0_hasBothSides 1 RX0 (some .boolean) G) {k : Nat} {μ : Mem} (hA : At sGround k) (h : f_X0_hasBothSides k μ = some O) : ∀ (H : Heap) (locs : List Loc) (ls : Array Slot), Wm G μ H → va_S (wA G) s.heap H locs → lv_has ls 1 [(0, .ref (G.2.2 k))] → W p l e (rmm 0 0) s m args below meth c H locs 0 0 (QI below args s G (O, μ)) (F0 m 0 ls []) := by
  unfold f_X0_hasBothSides at h
  intro H locs ls hP hS hl
  have q_k_0 : shp[k]? = some (.inl (0, fs0)) := hA 0 _ rfl
  refine lv_aload_n C.x C.b dX0_hasBothSides_0 rfl (lv_at hl 0 rfl) ?_
  refine g_int F_0_0 u1_38 C hP q_k_0 dX0_hasBothSides_1 ?_
  refine lv_if_le (tgt := 18) C.x C.b dX0_hasBothSides_4 (by decide) (fun c1 => ?_) (fun c1 => ?_)
  · have h := (if_pos c1).symm.trans h
    refine lv_iconst (v := 0) C.x C.b dX0_hasBothSides_18 (by decide) ?_
    exact r_z (pr_some h) (by decide) C hP hS dX0_hasBothSides_19
  · have h := (if_neg c1).symm.trans h
    refine lv_aload_n C.x C.b dX0_hasBothSides_7 rfl (lv_at hl 0 rfl) ?_
    refine g_int F_0_1 u1_42 C hP q_k_0 dX0_hasBothSides_8 ?_
    refine lv_if_le (tgt := 18) C.x C.b dX0_hasBothSides_11 (by decide) (fun c2 => ?_) (fun c2 => ?_)
    · have h := (if_pos c2).symm.trans h
      refine lv_iconst (v := 0) C.x C.b dX0_hasBothSides_18 (by decide) ?_
      exact r_z (pr_some h) (by decide) C hP hS dX0_hasBothSides_19
    · have h := (if_neg c2).symm.trans h
      refine lv_iconst (v := 1) C.x C.b dX0_hasBothSides_14 (by decide) ?_
      refine lv_goto (tgt := 19) C.x C.b dX0_hasBothSides_15 (by decide) ?_
      exact r_z (pr_some h) (by decide) C hP hS dX0_hasBothSides_19

set_option maxRecDepth 100000 in
set_option maxHeartbeats 4000000 in
theorem c_X0_hasBothSides {l : Launch} {G : Gp} (hI : Wi G) {k : Nat} (hA : At sGround k) {μ : Mem} {r : Int32} (h : f_X0_hasBothSides k μ = some r) : CI l yX0_hasBothSides cX0_hasBothSides 1 (some .boolean) 0 0 G [.ref (G.2.2 k)] μ r μ :=
  e_all (lv := [(0, .ref (G.2.2 k))]) hI (by decide) (Nat.le_of_ble_eq_true rfl) rfl (fun p e s m args below meth c ls C hP hS hl => b_X0_hasBothSides C hA h _ _ _ hP hS hl)


def f_X0_isSite (k : Nat) (x1 : Int32) (x2 : Int32) (μ : Mem) : Option Int32 := if x1 = 0 then (if x2 < 0 then (some 0) else (if (μ.1 k 0) ≤ x2 then (some 0) else (some 1))) else (if x1 = 1 then (if x2 < 0 then (some 0) else (if (μ.1 k 1) ≤ x2 then (some 0) else (some 1))) else (some 0))
set_option maxRecDepth 100000 in
set_option maxHeartbeats 4000000 in
theorem b_X0_isSite {p : Program} {l : Launch} {e : Env} {s : State} {m : MethodId} {args : Array Value} {below : List Frame} {meth : Method} {c : Code} {G : Gp} {O : Int32} (C : Cx p s m args meth c cX0_isSite 3 RX0 (some .boolean) G) {k : Nat} {x1 : Int32} {x2 : Int32} {μ : Mem} (hA : At sGround k) (h : f_X0_isSite k x1 x2 μ = some O) : ∀ (H : Heap) (locs : List Loc) (ls : Array Slot), Wm G μ H → va_S (wA G) s.heap H locs → lv_has ls 3 [(0, .ref (G.2.2 k)), (1, .int x1), (2, .int x2)] → W p l e (rmm 0 0) s m args below meth c H locs 0 0 (QI below args s G (O, μ)) (F0 m 0 ls []) := by
  unfold f_X0_isSite at h
  intro H locs ls hP hS hl
  have q_k_0 : shp[k]? = some (.inl (0, fs0)) := hA 0 _ rfl
  refine lv_iload_n C.x C.b dX0_isSite_0 rfl (lv_at hl 1 rfl) ?_
  refine lv_if_ne (tgt := 22) C.x C.b dX0_isSite_1 (by decide) (fun c1 => ?_) (fun c1 => ?_)
  · have h := (if_neg c1).symm.trans h
    refine lv_iload_n C.x C.b dX0_isSite_22 rfl (lv_at hl 1 rfl) ?_
    refine lv_iconst (v := 1) C.x C.b dX0_isSite_23 (by decide) ?_
    refine lv_icmp_ne (tgt := 43) C.x C.b dX0_isSite_24 (by decide) (fun c2 => ?_) (fun c2 => ?_)
    · have h := (if_neg c2).symm.trans h
      refine lv_iconst (v := 0) C.x C.b dX0_isSite_43 (by decide) ?_
      exact r_z (pr_some h) (by decide) C hP hS dX0_isSite_44
    · have h := (if_pos c2).symm.trans h
      refine lv_iload_n C.x C.b dX0_isSite_27 rfl (lv_at hl 2 rfl) ?_
      refine lv_if_lt (tgt := 43) C.x C.b dX0_isSite_28 (by decide) (fun c3 => ?_) (fun c3 => ?_)
      · have h := (if_pos c3).symm.trans h
        refine lv_iconst (v := 0) C.x C.b dX0_isSite_43 (by decide) ?_
        exact r_z (pr_some h) (by decide) C hP hS dX0_isSite_44
      · have h := (if_neg c3).symm.trans h
        refine lv_iload_n C.x C.b dX0_isSite_31 rfl (lv_at hl 2 rfl) ?_
        refine lv_aload_n C.x C.b dX0_isSite_32 rfl (lv_at hl 0 rfl) ?_
        refine g_int F_0_1 u1_42 C hP q_k_0 dX0_isSite_33 ?_
        refine lv_icmp_ge (tgt := 43) C.x C.b dX0_isSite_36 (by decide) (fun c4 => ?_) (fun c4 => ?_)
        · have h := (if_pos c4).symm.trans h
          refine lv_iconst (v := 0) C.x C.b dX0_isSite_43 (by decide) ?_
          exact r_z (pr_some h) (by decide) C hP hS dX0_isSite_44
        · have h := (if_neg c4).symm.trans h
          refine lv_iconst (v := 1) C.x C.b dX0_isSite_39 (by decide) ?_
          refine lv_goto (tgt := 44) C.x C.b dX0_isSite_40 (by decide) ?_
          exact r_z (pr_some h) (by decide) C hP hS dX0_isSite_44
  · have h := (if_pos c1).symm.trans h
    refine lv_iload_n C.x C.b dX0_isSite_4 rfl (lv_at hl 2 rfl) ?_
    refine lv_if_lt (tgt := 20) C.x C.b dX0_isSite_5 (by decide) (fun c5 => ?_) (fun c5 => ?_)
    · have h := (if_pos c5).symm.trans h
      refine lv_iconst (v := 0) C.x C.b dX0_isSite_20 (by decide) ?_
      exact r_z (pr_some h) (by decide) C hP hS dX0_isSite_21
    · have h := (if_neg c5).symm.trans h
      refine lv_iload_n C.x C.b dX0_isSite_8 rfl (lv_at hl 2 rfl) ?_
      refine lv_aload_n C.x C.b dX0_isSite_9 rfl (lv_at hl 0 rfl) ?_
      refine g_int F_0_0 u1_38 C hP q_k_0 dX0_isSite_10 ?_
      refine lv_icmp_ge (tgt := 20) C.x C.b dX0_isSite_13 (by decide) (fun c6 => ?_) (fun c6 => ?_)
      · have h := (if_pos c6).symm.trans h
        refine lv_iconst (v := 0) C.x C.b dX0_isSite_20 (by decide) ?_
        exact r_z (pr_some h) (by decide) C hP hS dX0_isSite_21
      · have h := (if_neg c6).symm.trans h
        refine lv_iconst (v := 1) C.x C.b dX0_isSite_16 (by decide) ?_
        refine lv_goto (tgt := 21) C.x C.b dX0_isSite_17 (by decide) ?_
        exact r_z (pr_some h) (by decide) C hP hS dX0_isSite_21

set_option maxRecDepth 100000 in
set_option maxHeartbeats 4000000 in
theorem c_X0_isSite {l : Launch} {G : Gp} (hI : Wi G) {k : Nat} {x1 : Int32} {x2 : Int32} (hA : At sGround k) {μ : Mem} {r : Int32} (h : f_X0_isSite k x1 x2 μ = some r) : CI l yX0_isSite cX0_isSite 3 (some .boolean) 0 0 G [.ref (G.2.2 k), .int x1, .int x2] μ r μ :=
  e_all (lv := [(0, .ref (G.2.2 k)), (1, .int x1), (2, .int x2)]) hI (by decide) (Nat.le_of_ble_eq_true rfl) rfl (fun p e s m args below meth c ls C hP hS hl => b_X0_isSite C hA h _ _ _ hP hS hl)


def f_X0_isRoad (k : Nat) (x1 : Int32) (x2 : Int32) (μ : Mem) : Option Int32 := if x1 < 0 then (some 0) else (if (μ.1 k 0) ≤ x1 then (some 0) else (if x2 < 0 then (some 0) else (if (μ.1 k 1) ≤ x2 then (some 0) else (some 1))))
set_option maxRecDepth 100000 in
set_option maxHeartbeats 4000000 in
theorem b_X0_isRoad {p : Program} {l : Launch} {e : Env} {s : State} {m : MethodId} {args : Array Value} {below : List Frame} {meth : Method} {c : Code} {G : Gp} {O : Int32} (C : Cx p s m args meth c cX0_isRoad 3 RX0 (some .boolean) G) {k : Nat} {x1 : Int32} {x2 : Int32} {μ : Mem} (hA : At sGround k) (h : f_X0_isRoad k x1 x2 μ = some O) : ∀ (H : Heap) (locs : List Loc) (ls : Array Slot), Wm G μ H → va_S (wA G) s.heap H locs → lv_has ls 3 [(0, .ref (G.2.2 k)), (1, .int x1), (2, .int x2)] → W p l e (rmm 0 0) s m args below meth c H locs 0 0 (QI below args s G (O, μ)) (F0 m 0 ls []) := by
  unfold f_X0_isRoad at h
  intro H locs ls hP hS hl
  have q_k_0 : shp[k]? = some (.inl (0, fs0)) := hA 0 _ rfl
  refine lv_iload_n C.x C.b dX0_isRoad_0 rfl (lv_at hl 1 rfl) ?_
  refine lv_if_lt (tgt := 28) C.x C.b dX0_isRoad_1 (by decide) (fun c1 => ?_) (fun c1 => ?_)
  · have h := (if_pos c1).symm.trans h
    refine lv_iconst (v := 0) C.x C.b dX0_isRoad_28 (by decide) ?_
    exact r_z (pr_some h) (by decide) C hP hS dX0_isRoad_29
  · have h := (if_neg c1).symm.trans h
    refine lv_iload_n C.x C.b dX0_isRoad_4 rfl (lv_at hl 1 rfl) ?_
    refine lv_aload_n C.x C.b dX0_isRoad_5 rfl (lv_at hl 0 rfl) ?_
    refine g_int F_0_0 u1_38 C hP q_k_0 dX0_isRoad_6 ?_
    refine lv_icmp_ge (tgt := 28) C.x C.b dX0_isRoad_9 (by decide) (fun c2 => ?_) (fun c2 => ?_)
    · have h := (if_pos c2).symm.trans h
      refine lv_iconst (v := 0) C.x C.b dX0_isRoad_28 (by decide) ?_
      exact r_z (pr_some h) (by decide) C hP hS dX0_isRoad_29
    · have h := (if_neg c2).symm.trans h
      refine lv_iload_n C.x C.b dX0_isRoad_12 rfl (lv_at hl 2 rfl) ?_
      refine lv_if_lt (tgt := 28) C.x C.b dX0_isRoad_13 (by decide) (fun c3 => ?_) (fun c3 => ?_)
      · have h := (if_pos c3).symm.trans h
        refine lv_iconst (v := 0) C.x C.b dX0_isRoad_28 (by decide) ?_
        exact r_z (pr_some h) (by decide) C hP hS dX0_isRoad_29
      · have h := (if_neg c3).symm.trans h
        refine lv_iload_n C.x C.b dX0_isRoad_16 rfl (lv_at hl 2 rfl) ?_
        refine lv_aload_n C.x C.b dX0_isRoad_17 rfl (lv_at hl 0 rfl) ?_
        refine g_int F_0_1 u1_42 C hP q_k_0 dX0_isRoad_18 ?_
        refine lv_icmp_ge (tgt := 28) C.x C.b dX0_isRoad_21 (by decide) (fun c4 => ?_) (fun c4 => ?_)
        · have h := (if_pos c4).symm.trans h
          refine lv_iconst (v := 0) C.x C.b dX0_isRoad_28 (by decide) ?_
          exact r_z (pr_some h) (by decide) C hP hS dX0_isRoad_29
        · have h := (if_neg c4).symm.trans h
          refine lv_iconst (v := 1) C.x C.b dX0_isRoad_24 (by decide) ?_
          refine lv_goto (tgt := 29) C.x C.b dX0_isRoad_25 (by decide) ?_
          exact r_z (pr_some h) (by decide) C hP hS dX0_isRoad_29

set_option maxRecDepth 100000 in
set_option maxHeartbeats 4000000 in
theorem c_X0_isRoad {l : Launch} {G : Gp} (hI : Wi G) {k : Nat} {x1 : Int32} {x2 : Int32} (hA : At sGround k) {μ : Mem} {r : Int32} (h : f_X0_isRoad k x1 x2 μ = some r) : CI l yX0_isRoad cX0_isRoad 3 (some .boolean) 0 0 G [.ref (G.2.2 k), .int x1, .int x2] μ r μ :=
  e_all (lv := [(0, .ref (G.2.2 k)), (1, .int x1), (2, .int x2)]) hI (by decide) (Nat.le_of_ble_eq_true rfl) rfl (fun p e s m args below meth c ls C hP hS hl => b_X0_isRoad C hA h _ _ _ hP hS hl)


def f_X0_row (k : Nat) (x1 : Int32) (x2 : Int32) (μ : Mem) : Option Nat := if x1 = 0 then (if x2 = 0 then (some (k + 1)) else (some (k + 2))) else (if x2 = 0 then (some (k + 3)) else (some (k + 4)))
set_option maxRecDepth 100000 in
set_option maxHeartbeats 4000000 in
theorem b_X0_row {p : Program} {l : Launch} {e : Env} {s : State} {m : MethodId} {args : Array Value} {below : List Frame} {meth : Method} {c : Code} {G : Gp} {O : Nat} (C : Cx p s m args meth c cX0_row 3 RX0 (some (.array .int)) G) {k : Nat} {x1 : Int32} {x2 : Int32} {μ : Mem} (hA : At sGround k) (h : f_X0_row k x1 x2 μ = some O) : ∀ (H : Heap) (locs : List Loc) (ls : Array Slot), Wm G μ H → va_S (wA G) s.heap H locs → lv_has ls 3 [(0, .ref (G.2.2 k)), (1, .int x1), (2, .int x2)] → W p l e (rmm 0 0) s m args below meth c H locs 0 0 (QR below args s G (O, μ)) (F0 m 0 ls []) := by
  unfold f_X0_row at h
  intro H locs ls hP hS hl
  have q_k_0 : shp[k]? = some (.inl (0, fs0)) := hA 0 _ rfl
  refine lv_iload_n C.x C.b dX0_row_0 rfl (lv_at hl 1 rfl) ?_
  refine lv_if_ne (tgt := 20) C.x C.b dX0_row_1 (by decide) (fun c1 => ?_) (fun c1 => ?_)
  · have h := (if_neg c1).symm.trans h
    refine lv_iload_n C.x C.b dX0_row_20 rfl (lv_at hl 2 rfl) ?_
    refine lv_if_ne (tgt := 31) C.x C.b dX0_row_21 (by decide) (fun c2 => ?_) (fun c2 => ?_)
    · have h := (if_neg c2).symm.trans h
      refine lv_aload_n C.x C.b dX0_row_31 rfl (lv_at hl 0 rfl) ?_
      refine g_ref (k' := k + 4) F_0_5 u1_53 C hP q_k_0 rfl dX0_row_32 ?_
      exact r_a (pr_some h) C hP hS dX0_row_35
    · have h := (if_pos c2).symm.trans h
      refine lv_aload_n C.x C.b dX0_row_24 rfl (lv_at hl 0 rfl) ?_
      refine g_ref (k' := k + 3) F_0_4 u1_50 C hP q_k_0 rfl dX0_row_25 ?_
      refine lv_goto (tgt := 35) C.x C.b dX0_row_28 (by decide) ?_
      exact r_a (pr_some h) C hP hS dX0_row_35
  · have h := (if_pos c1).symm.trans h
    refine lv_iload_n C.x C.b dX0_row_4 rfl (lv_at hl 2 rfl) ?_
    refine lv_if_ne (tgt := 15) C.x C.b dX0_row_5 (by decide) (fun c3 => ?_) (fun c3 => ?_)
    · have h := (if_neg c3).symm.trans h
      refine lv_aload_n C.x C.b dX0_row_15 rfl (lv_at hl 0 rfl) ?_
      refine g_ref (k' := k + 2) F_0_3 u1_49 C hP q_k_0 rfl dX0_row_16 ?_
      exact r_a (pr_some h) C hP hS dX0_row_19
    · have h := (if_pos c3).symm.trans h
      refine lv_aload_n C.x C.b dX0_row_8 rfl (lv_at hl 0 rfl) ?_
      refine g_ref (k' := k + 1) F_0_2 u1_46 C hP q_k_0 rfl dX0_row_9 ?_
      refine lv_goto (tgt := 19) C.x C.b dX0_row_12 (by decide) ?_
      exact r_a (pr_some h) C hP hS dX0_row_19

set_option maxRecDepth 100000 in
set_option maxHeartbeats 4000000 in
theorem c_X0_row {l : Launch} {G : Gp} (hI : Wi G) {k : Nat} {x1 : Int32} {x2 : Int32} (hA : At sGround k) {μ : Mem} {r : Nat} (h : f_X0_row k x1 x2 μ = some r) : CR l yX0_row cX0_row 3 (some (.array .int)) 0 0 G [.ref (G.2.2 k), .int x1, .int x2] μ r μ :=
  e_all (lv := [(0, .ref (G.2.2 k)), (1, .int x1), (2, .int x2)]) hI (by decide) (Nat.le_of_ble_eq_true rfl) rfl (fun p e s m args below meth c ls C hP hS hl => b_X0_row C hA h _ _ _ hP hS hl)

theorem row_at {k : Nat} {x1 x2 : Int32} {μ : Mem} {r : Nat} (hA : At sGround k) (h : f_X0_row k x1 x2 μ = some r) : shp[r]? = some (.inr (0, 5)) := by
  unfold f_X0_row at h
  split at h <;> split at h <;> cases h <;> exact hA _ _ rfl

def f_X8_roadAt (x0 : Int32) (x1 : Int32) (μ : Mem) : Option Int32 := some ((x0 * 5) + x1)
set_option maxRecDepth 100000 in
set_option maxHeartbeats 4000000 in
theorem b_X8_roadAt {p : Program} {l : Launch} {e : Env} {s : State} {m : MethodId} {args : Array Value} {below : List Frame} {meth : Method} {c : Code} {G : Gp} {O : Int32} (C : Cx p s m args meth c cX8_roadAt 2 RX8 (some .int) G) {x0 : Int32} {x1 : Int32} {μ : Mem} (h : f_X8_roadAt x0 x1 μ = some O) : ∀ (H : Heap) (locs : List Loc) (ls : Array Slot), Wm G μ H → va_S (wA G) s.heap H locs → lv_has ls 2 [(0, .int x0), (1, .int x1)] → W p l e (rmm 0 0) s m args below meth c H locs 0 0 (QI below args s G (O, μ)) (F0 m 0 ls []) := by
  unfold f_X8_roadAt at h
  intro H locs ls hP hS hl
  refine lv_iload_n C.x C.b dX8_roadAt_0 rfl (lv_at hl 0 rfl) ?_
  refine lv_iconst (v := 5) C.x C.b dX8_roadAt_1 (by decide) ?_
  refine lv_imul C.x C.b dX8_roadAt_2 ?_
  refine lv_iload_n C.x C.b dX8_roadAt_3 rfl (lv_at hl 1 rfl) ?_
  refine lv_iadd C.x C.b dX8_roadAt_4 ?_
  exact r_i (pr_some h) C hP hS dX8_roadAt_5

set_option maxRecDepth 100000 in
set_option maxHeartbeats 4000000 in
theorem c_X8_roadAt {l : Launch} {G : Gp} (hI : Wi G) {x0 : Int32} {x1 : Int32} {μ : Mem} {r : Int32} (h : f_X8_roadAt x0 x1 μ = some r) : CI l yX8_roadAt cX8_roadAt 2 (some .int) 0 0 G [.int x0, .int x1] μ r μ :=
  e_all (lv := [(0, .int x0), (1, .int x1)]) hI (by decide) (Nat.le_of_ble_eq_true rfl) rfl (fun p e s m args below meth c ls C hP hS hl => b_X8_roadAt C h _ _ _ hP hS hl)


def f_X0_costOf (k : Nat) (x1 : Int32) (x2 : Int32) (μ : Mem) : Option Int32 := bnv (f_X0_isRoad k x1 x2 μ) (fun r2 => if r2 = 0 then (some 0) else (bnv (f_X8_roadAt x1 x2 μ) (fun r5 => grd (inb r5 25) (lt (μ.1 (k + 6) r5.toNatClampNeg) (fun y7 => grd (inb x1 5) (lt (y7 + (μ.1 (k + 2) x1.toNatClampNeg)) (fun y9 => bnv (f_X8_roadAt x1 x2 μ) (fun r11 => grd (inb r11 25) (if (μ.1 (k + 5) r11.toNatClampNeg) = 0 then (some y7) else (if (μ.1 (k + 5) r11.toNatClampNeg) = 1 then (some y9) else (if (μ.1 (k + 5) r11.toNatClampNeg) = 2 then (grd (inb x2 5) (some ((2 * y9) + (μ.1 (k + 4) x2.toNatClampNeg)))) else ((some 1000)))))))))))))
set_option maxRecDepth 100000 in
set_option maxHeartbeats 4000000 in
theorem b_X0_costOf {p : Program} {l : Launch} {e : Env} {s : State} {m : MethodId} {args : Array Value} {below : List Frame} {meth : Method} {c : Code} {G : Gp} {O : Int32} (C : Cx p s m args meth c cX0_costOf 5 RX0 (some .int) G) {k : Nat} {x1 : Int32} {x2 : Int32} {μ : Mem} (hA : At sGround k) (h : f_X0_costOf k x1 x2 μ = some O) : ∀ (H : Heap) (locs : List Loc) (ls : Array Slot), Wm G μ H → va_S (wA G) s.heap H locs → lv_has ls 5 [(0, .ref (G.2.2 k)), (1, .int x1), (2, .int x2)] → W p l e (rmm 1 22) s m args below meth c H locs 0 0 (QI below args s G (O, μ)) (F0 m 0 ls []) := by
  unfold f_X0_costOf at h
  intro H locs ls hP hS hl
  have q_k_0 : shp[k]? = some (.inl (0, fs0)) := hA 0 _ rfl
  have q_k_2 : shp[k + 2]? = some (.inr (0, 5)) := hA 2 _ rfl
  have q_k_4 : shp[k + 4]? = some (.inr (0, 5)) := hA 4 _ rfl
  have q_k_5 : shp[k + 5]? = some (.inr (0, 25)) := hA 5 _ rfl
  have q_k_6 : shp[k + 6]? = some (.inr (0, 25)) := hA 6 _ rfl
  refine lv_aload_n C.x C.b dX0_costOf_0 rfl (lv_at hl 0 rfl) ?_
  refine lv_iload_n C.x C.b dX0_costOf_1 rfl (lv_at hl 1 rfl) ?_
  refine lv_iload_n C.x C.b dX0_costOf_2 rfl (lv_at hl 2 rfl) ?_
  obtain ⟨r2, e1, h⟩ := bnv_some h
  refine k_vi (k := k) (as := [.int x1, .int x2]) (rest := []) (c_X0_isRoad C.i hA e1) M_X0_isRoad u2_162 C hP hS q_k_0 rfl rfl (by decide) hl.1 rfl (Nat.le_of_ble_eq_true rfl) dX0_costOf_3 (fun H locs hP hS => ?_)
  refine lv_if_ne (tgt := 11) C.x C.b dX0_costOf_6 (by decide) (fun c3 => ?_) (fun c3 => ?_)
  · have h := (if_neg c3).symm.trans h
    refine lv_aload_n C.x C.b dX0_costOf_11 rfl (lv_at hl 0 rfl) ?_
    refine g_ref (k' := k + 6) F_0_7 u1_57 C hP q_k_0 rfl dX0_costOf_12 ?_
    refine lv_iload_n C.x C.b dX0_costOf_15 rfl (lv_at hl 1 rfl) ?_
    refine lv_iload_n C.x C.b dX0_costOf_16 rfl (lv_at hl 2 rfl) ?_
    obtain ⟨r5, e4, h⟩ := bnv_some h
    refine k_ni (as := [.int x1, .int x2]) (rest := [.ref (G.2.2 (k + 6))]) (c_X8_roadAt C.i e4) M_X8_roadAt n_RX0_53 C hP hS rfl (by decide) hl.1 rfl (Nat.le_of_ble_eq_true rfl) dX0_costOf_17 (fun H locs hP hS => ?_)
    obtain ⟨g6, h⟩ := grd_some h
    refine a_i C hP q_k_6 g6 dX0_costOf_20 ?_
    refine lv_topi (fun y7 e_y7 => ?_)
    have h := lt_at h e_y7
    refine lv_istore_n (lv' := [(3, .int y7), (0, .ref (G.2.2 k)), (1, .int x1), (2, .int x2)]) C.x C.b dX0_costOf_21 rfl hl (by decide) rfl (fun ls hl => ?_)
    refine lv_iload_n C.x C.b dX0_costOf_22 rfl (lv_at hl 0 rfl) ?_
    refine lv_aload_n C.x C.b dX0_costOf_23 rfl (lv_at hl 1 rfl) ?_
    refine g_ref (k' := k + 2) F_0_3 u1_49 C hP q_k_0 rfl dX0_costOf_24 ?_
    refine lv_iload_n C.x C.b dX0_costOf_27 rfl (lv_at hl 2 rfl) ?_
    obtain ⟨g8, h⟩ := grd_some h
    refine a_i C hP q_k_2 g8 dX0_costOf_28 ?_
    refine lv_iadd C.x C.b dX0_costOf_29 ?_
    refine lv_topi (fun y9 e_y9 => ?_)
    have h := lt_at h e_y9
    refine lv_istore (lv' := [(4, .int y9), (3, .int y7), (0, .ref (G.2.2 k)), (1, .int x1), (2, .int x2)]) C.x C.b dX0_costOf_30 hl (by decide) rfl (fun ls hl => ?_)
    refine lv_aload_n C.x C.b dX0_costOf_32 rfl (lv_at hl 2 rfl) ?_
    refine g_ref (k' := k + 5) F_0_6 u1_54 C hP q_k_0 rfl dX0_costOf_33 ?_
    refine lv_iload_n C.x C.b dX0_costOf_36 rfl (lv_at hl 3 rfl) ?_
    refine lv_iload_n C.x C.b dX0_costOf_37 rfl (lv_at hl 4 rfl) ?_
    obtain ⟨r11, e10, h⟩ := bnv_some h
    refine k_ni (as := [.int x1, .int x2]) (rest := [.ref (G.2.2 (k + 5))]) (c_X8_roadAt C.i e10) M_X8_roadAt n_RX0_53 C hP hS rfl (by decide) hl.1 rfl (Nat.le_of_ble_eq_true rfl) dX0_costOf_38 (fun H locs hP hS => ?_)
    obtain ⟨g12, h⟩ := grd_some h
    refine a_i C hP q_k_5 g12 dX0_costOf_41 ?_
    by_cases c13 : (μ.1 (k + 5) r11.toNatClampNeg) = 0
    · have h := (if_pos c13).symm.trans h
      refine lv_tableIn (off := 26) (tgt := 68) C.x C.b dX0_costOf_42 (by rw [c13]; decide) (by rw [c13]; decide) (by rw [c13]; rfl) (by decide) ?_
      refine lv_iload_n C.x C.b dX0_costOf_68 rfl (lv_at hl 1 rfl) ?_
      exact r_i (pr_some h) C hP hS dX0_costOf_69
    · have h := (if_neg c13).symm.trans h
      by_cases c14 : (μ.1 (k + 5) r11.toNatClampNeg) = 1
      · have h := (if_pos c14).symm.trans h
        refine lv_tableIn (off := 28) (tgt := 70) C.x C.b dX0_costOf_42 (by rw [c14]; decide) (by rw [c14]; decide) (by rw [c14]; rfl) (by decide) ?_
        refine lv_iload C.x C.b dX0_costOf_70 (lv_at hl 0 rfl) ?_
        exact r_i (pr_some h) C hP hS dX0_costOf_72
      · have h := (if_neg c14).symm.trans h
        by_cases c15 : (μ.1 (k + 5) r11.toNatClampNeg) = 2
        · have h := (if_pos c15).symm.trans h
          refine lv_tableIn (off := 31) (tgt := 73) C.x C.b dX0_costOf_42 (by rw [c15]; decide) (by rw [c15]; decide) (by rw [c15]; rfl) (by decide) ?_
          refine lv_iconst (v := 2) C.x C.b dX0_costOf_73 (by decide) ?_
          refine lv_iload C.x C.b dX0_costOf_74 (lv_at hl 0 rfl) ?_
          refine lv_imul C.x C.b dX0_costOf_76 ?_
          refine lv_aload_n C.x C.b dX0_costOf_77 rfl (lv_at hl 2 rfl) ?_
          refine g_ref (k' := k + 4) F_0_5 u1_53 C hP q_k_0 rfl dX0_costOf_78 ?_
          refine lv_iload_n C.x C.b dX0_costOf_81 rfl (lv_at hl 4 rfl) ?_
          obtain ⟨g16, h⟩ := grd_some h
          refine a_i C hP q_k_4 g16 dX0_costOf_82 ?_
          refine lv_iadd C.x C.b dX0_costOf_83 ?_
          exact r_i (pr_some h) C hP hS dX0_costOf_84
        · have h := (if_neg c15).symm.trans h
          have t_c13 := lv_neT (a := 0) c13 (by decide)
          have t_c14 := lv_neT (a := 1) c14 (by decide)
          have t_c15 := lv_neT (a := 2) c15 (by decide)
          refine lv_tableOut (tgt := 85) C.x C.b dX0_costOf_42 (by omega) (by decide) ?_
          refine lv_sipush (v := 1000) C.x C.b dX0_costOf_85 (by decide) ?_
          exact r_i (pr_some h) C hP hS dX0_costOf_88
  · have h := (if_pos c3).symm.trans h
    refine lv_iconst (v := 0) C.x C.b dX0_costOf_9 (by decide) ?_
    exact r_i (pr_some h) C hP hS dX0_costOf_10

set_option maxRecDepth 100000 in
set_option maxHeartbeats 4000000 in
theorem c_X0_costOf {l : Launch} {G : Gp} (hI : Wi G) {k : Nat} {x1 : Int32} {x2 : Int32} (hA : At sGround k) {μ : Mem} {r : Int32} (h : f_X0_costOf k x1 x2 μ = some r) : CI l yX0_costOf cX0_costOf 5 (some .int) 1 22 G [.ref (G.2.2 k), .int x1, .int x2] μ r μ :=
  e_all (lv := [(0, .ref (G.2.2 k)), (1, .int x1), (2, .int x2)]) hI (by decide) (Nat.le_of_ble_eq_true rfl) rfl (fun p e s m args below meth c ls C hP hS hl => b_X0_costOf C hA h _ _ _ hP hS hl)


def g_X0_allStones_4 (k : Nat)  (μ : Mem) (q4 : Int32 → Int32 → Option Int32) (x1 : Int32) (x2 : Int32) : Option Int32 := if (μ.1 k 0) ≤ x2 then (some x1) else (grd (inb x2 5) (lt (x1 + (μ.1 (k + 1) x2.toNatClampNeg)) (fun y3 => lt (x2 + 1) (fun y4 => q4 y3 y4))))
def f_X0_allStones_4 (k : Nat)  (μ : Mem) : Nat → Int32 → Int32 → Option Int32
  | 0, _, _ => none
  | n + 1, x1, x2 => g_X0_allStones_4 k μ (f_X0_allStones_4 k μ n) x1 x2
set_option maxRecDepth 100000 in
set_option maxHeartbeats 4000000 in
theorem w_X0_allStones_4 {p : Program} {l : Launch} {e : Env} {s : State} {m : MethodId} {args : Array Value} {below : List Frame} {meth : Method} {c : Code} {G : Gp} {O : Int32} (C : Cx p s m args meth c cX0_allStones 3 RX0 (some .int) G) {k : Nat} {μ : Mem} (hA : At sGround k) {q4 : Int32 → Int32 → Option Int32} (hq4 : ∀ (x1 : Int32) (x2 : Int32), q4 x1 x2 = some O → ∀ (H : Heap) (locs : List Loc) (ls : Array Slot), Wm G μ H → va_S (wA G) s.heap H locs → lv_has ls 3 [(0, .ref (G.2.2 k)), (1, .int x1), (2, .int x2)] → W p l e (rmm 0 0) s m args below meth c H locs 0 0 (QI below args s G (O, μ)) (F0 m 4 ls [])) : ∀ (x1 : Int32) (x2 : Int32), g_X0_allStones_4 k μ q4 x1 x2 = some O → ∀ (H : Heap) (locs : List Loc) (ls : Array Slot), Wm G μ H → va_S (wA G) s.heap H locs → lv_has ls 3 [(0, .ref (G.2.2 k)), (1, .int x1), (2, .int x2)] → W p l e (rmm 0 0) s m args below meth c H locs 0 0 (QI below args s G (O, μ)) (F0 m 4 ls []) := by
  intro x1 x2 h H locs ls hP hS hl
  unfold g_X0_allStones_4 at h
  have q_k_0 : shp[k]? = some (.inl (0, fs0)) := hA 0 _ rfl
  have q_k_1 : shp[k + 1]? = some (.inr (0, 5)) := hA 1 _ rfl
  refine lv_iload_n C.x C.b dX0_allStones_4 rfl (lv_at hl 2 rfl) ?_
  refine lv_aload_n C.x C.b dX0_allStones_5 rfl (lv_at hl 0 rfl) ?_
  refine g_int F_0_0 u1_38 C hP q_k_0 dX0_allStones_6 ?_
  refine lv_icmp_ge (tgt := 27) C.x C.b dX0_allStones_9 (by decide) (fun c1 => ?_) (fun c1 => ?_)
  · have h := (if_pos c1).symm.trans h
    refine lv_iload_n C.x C.b dX0_allStones_27 rfl (lv_at hl 1 rfl) ?_
    exact r_i (pr_some h) C hP hS dX0_allStones_28
  · have h := (if_neg c1).symm.trans h
    refine lv_iload_n C.x C.b dX0_allStones_12 rfl (lv_at hl 1 rfl) ?_
    refine lv_aload_n C.x C.b dX0_allStones_13 rfl (lv_at hl 0 rfl) ?_
    refine g_ref (k' := k + 1) F_0_2 u1_46 C hP q_k_0 rfl dX0_allStones_14 ?_
    refine lv_iload_n C.x C.b dX0_allStones_17 rfl (lv_at hl 2 rfl) ?_
    obtain ⟨g2, h⟩ := grd_some h
    refine a_i C hP q_k_1 g2 dX0_allStones_18 ?_
    refine lv_iadd C.x C.b dX0_allStones_19 ?_
    refine lv_topi (fun y3 e_y3 => ?_)
    have h := lt_at h e_y3
    refine lv_istore_n (lv' := [(1, .int y3), (0, .ref (G.2.2 k)), (2, .int x2)]) C.x C.b dX0_allStones_20 rfl hl (by decide) rfl (fun ls hl => ?_)
    obtain ⟨y4, e_y4, h⟩ := lt_ex h
    refine lv_iinc (v := y4) (lv' := [(2, .int y4), (1, .int y3), (0, .ref (G.2.2 k))]) C.x C.b dX0_allStones_21 hl (k := 2) rfl (by rw [e_y4]; rfl) (by decide) rfl (fun ls hl => ?_)
    refine lv_goto (tgt := 4) C.x C.b dX0_allStones_24 (by decide) ?_
    exact hq4 y3 y4 h _ _ _ hP hS (lv_sub hl [2, 1, 0] rfl)

set_option maxRecDepth 100000 in
set_option maxHeartbeats 4000000 in
theorem b_X0_allStones_4 {p : Program} {l : Launch} {e : Env} {s : State} {m : MethodId} {args : Array Value} {below : List Frame} {meth : Method} {c : Code} {G : Gp} {O : Int32} (C : Cx p s m args meth c cX0_allStones 3 RX0 (some .int) G) {k : Nat} {μ : Mem} (hA : At sGround k) : ∀ (n : Nat) (x1 : Int32) (x2 : Int32), f_X0_allStones_4 k μ n x1 x2 = some O → ∀ (H : Heap) (locs : List Loc) (ls : Array Slot), Wm G μ H → va_S (wA G) s.heap H locs → lv_has ls 3 [(0, .ref (G.2.2 k)), (1, .int x1), (2, .int x2)] → W p l e (rmm 0 0) s m args below meth c H locs 0 0 (QI below args s G (O, μ)) (F0 m 4 ls []) := by
  intro n
  induction n with
  | zero => intro x1 x2 h; cases h
  | succ n ih => intro x1 x2 h; exact w_X0_allStones_4 C hA (q4 := f_X0_allStones_4 k μ n) ih x1 x2 h

def f_X0_allStones (k : Nat) (μ : Mem) : Option Int32 := f_X0_allStones_4 k μ FU 0 0
set_option maxRecDepth 100000 in
set_option maxHeartbeats 4000000 in
theorem b_X0_allStones {p : Program} {l : Launch} {e : Env} {s : State} {m : MethodId} {args : Array Value} {below : List Frame} {meth : Method} {c : Code} {G : Gp} {O : Int32} (C : Cx p s m args meth c cX0_allStones 3 RX0 (some .int) G) {k : Nat} {μ : Mem} (hA : At sGround k) (h : f_X0_allStones k μ = some O) : ∀ (H : Heap) (locs : List Loc) (ls : Array Slot), Wm G μ H → va_S (wA G) s.heap H locs → lv_has ls 3 [(0, .ref (G.2.2 k))] → W p l e (rmm 0 0) s m args below meth c H locs 0 0 (QI below args s G (O, μ)) (F0 m 0 ls []) := by
  unfold f_X0_allStones at h
  intro H locs ls hP hS hl
  refine lv_iconst (v := 0) C.x C.b dX0_allStones_0 (by decide) ?_
  refine lv_istore_n (lv' := [(1, .int 0), (0, .ref (G.2.2 k))]) C.x C.b dX0_allStones_1 rfl hl (by decide) rfl (fun ls hl => ?_)
  refine lv_iconst (v := 0) C.x C.b dX0_allStones_2 (by decide) ?_
  refine lv_istore_n (lv' := [(2, .int 0), (1, .int 0), (0, .ref (G.2.2 k))]) C.x C.b dX0_allStones_3 rfl hl (by decide) rfl (fun ls hl => ?_)
  exact b_X0_allStones_4 C hA FU 0 0 h _ _ _ hP hS (lv_sub hl [2, 1, 0] rfl)

set_option maxRecDepth 100000 in
set_option maxHeartbeats 4000000 in
theorem c_X0_allStones {l : Launch} {G : Gp} (hI : Wi G) {k : Nat} (hA : At sGround k) {μ : Mem} {r : Int32} (h : f_X0_allStones k μ = some r) : CI l yX0_allStones cX0_allStones 3 (some .int) 0 0 G [.ref (G.2.2 k)] μ r μ :=
  e_all (lv := [(0, .ref (G.2.2 k))]) hI (by decide) (Nat.le_of_ble_eq_true rfl) rfl (fun p e s m args below meth c ls C hP hS hl => b_X0_allStones C hA h _ _ _ hP hS hl)


def g_X0_allWants_4 (k : Nat)  (μ : Mem) (q4 : Int32 → Int32 → Option Int32) (x1 : Int32) (x2 : Int32) : Option Int32 := if (μ.1 k 1) ≤ x2 then (some x1) else (grd (inb x2 5) (lt (x1 + (μ.1 (k + 3) x2.toNatClampNeg)) (fun y3 => lt (x2 + 1) (fun y4 => q4 y3 y4))))
def f_X0_allWants_4 (k : Nat)  (μ : Mem) : Nat → Int32 → Int32 → Option Int32
  | 0, _, _ => none
  | n + 1, x1, x2 => g_X0_allWants_4 k μ (f_X0_allWants_4 k μ n) x1 x2
set_option maxRecDepth 100000 in
set_option maxHeartbeats 4000000 in
theorem w_X0_allWants_4 {p : Program} {l : Launch} {e : Env} {s : State} {m : MethodId} {args : Array Value} {below : List Frame} {meth : Method} {c : Code} {G : Gp} {O : Int32} (C : Cx p s m args meth c cX0_allWants 3 RX0 (some .int) G) {k : Nat} {μ : Mem} (hA : At sGround k) {q4 : Int32 → Int32 → Option Int32} (hq4 : ∀ (x1 : Int32) (x2 : Int32), q4 x1 x2 = some O → ∀ (H : Heap) (locs : List Loc) (ls : Array Slot), Wm G μ H → va_S (wA G) s.heap H locs → lv_has ls 3 [(0, .ref (G.2.2 k)), (1, .int x1), (2, .int x2)] → W p l e (rmm 0 0) s m args below meth c H locs 0 0 (QI below args s G (O, μ)) (F0 m 4 ls [])) : ∀ (x1 : Int32) (x2 : Int32), g_X0_allWants_4 k μ q4 x1 x2 = some O → ∀ (H : Heap) (locs : List Loc) (ls : Array Slot), Wm G μ H → va_S (wA G) s.heap H locs → lv_has ls 3 [(0, .ref (G.2.2 k)), (1, .int x1), (2, .int x2)] → W p l e (rmm 0 0) s m args below meth c H locs 0 0 (QI below args s G (O, μ)) (F0 m 4 ls []) := by
  intro x1 x2 h H locs ls hP hS hl
  unfold g_X0_allWants_4 at h
  have q_k_0 : shp[k]? = some (.inl (0, fs0)) := hA 0 _ rfl
  have q_k_3 : shp[k + 3]? = some (.inr (0, 5)) := hA 3 _ rfl
  refine lv_iload_n C.x C.b dX0_allWants_4 rfl (lv_at hl 2 rfl) ?_
  refine lv_aload_n C.x C.b dX0_allWants_5 rfl (lv_at hl 0 rfl) ?_
  refine g_int F_0_1 u1_42 C hP q_k_0 dX0_allWants_6 ?_
  refine lv_icmp_ge (tgt := 27) C.x C.b dX0_allWants_9 (by decide) (fun c1 => ?_) (fun c1 => ?_)
  · have h := (if_pos c1).symm.trans h
    refine lv_iload_n C.x C.b dX0_allWants_27 rfl (lv_at hl 1 rfl) ?_
    exact r_i (pr_some h) C hP hS dX0_allWants_28
  · have h := (if_neg c1).symm.trans h
    refine lv_iload_n C.x C.b dX0_allWants_12 rfl (lv_at hl 1 rfl) ?_
    refine lv_aload_n C.x C.b dX0_allWants_13 rfl (lv_at hl 0 rfl) ?_
    refine g_ref (k' := k + 3) F_0_4 u1_50 C hP q_k_0 rfl dX0_allWants_14 ?_
    refine lv_iload_n C.x C.b dX0_allWants_17 rfl (lv_at hl 2 rfl) ?_
    obtain ⟨g2, h⟩ := grd_some h
    refine a_i C hP q_k_3 g2 dX0_allWants_18 ?_
    refine lv_iadd C.x C.b dX0_allWants_19 ?_
    refine lv_topi (fun y3 e_y3 => ?_)
    have h := lt_at h e_y3
    refine lv_istore_n (lv' := [(1, .int y3), (0, .ref (G.2.2 k)), (2, .int x2)]) C.x C.b dX0_allWants_20 rfl hl (by decide) rfl (fun ls hl => ?_)
    obtain ⟨y4, e_y4, h⟩ := lt_ex h
    refine lv_iinc (v := y4) (lv' := [(2, .int y4), (1, .int y3), (0, .ref (G.2.2 k))]) C.x C.b dX0_allWants_21 hl (k := 2) rfl (by rw [e_y4]; rfl) (by decide) rfl (fun ls hl => ?_)
    refine lv_goto (tgt := 4) C.x C.b dX0_allWants_24 (by decide) ?_
    exact hq4 y3 y4 h _ _ _ hP hS (lv_sub hl [2, 1, 0] rfl)

set_option maxRecDepth 100000 in
set_option maxHeartbeats 4000000 in
theorem b_X0_allWants_4 {p : Program} {l : Launch} {e : Env} {s : State} {m : MethodId} {args : Array Value} {below : List Frame} {meth : Method} {c : Code} {G : Gp} {O : Int32} (C : Cx p s m args meth c cX0_allWants 3 RX0 (some .int) G) {k : Nat} {μ : Mem} (hA : At sGround k) : ∀ (n : Nat) (x1 : Int32) (x2 : Int32), f_X0_allWants_4 k μ n x1 x2 = some O → ∀ (H : Heap) (locs : List Loc) (ls : Array Slot), Wm G μ H → va_S (wA G) s.heap H locs → lv_has ls 3 [(0, .ref (G.2.2 k)), (1, .int x1), (2, .int x2)] → W p l e (rmm 0 0) s m args below meth c H locs 0 0 (QI below args s G (O, μ)) (F0 m 4 ls []) := by
  intro n
  induction n with
  | zero => intro x1 x2 h; cases h
  | succ n ih => intro x1 x2 h; exact w_X0_allWants_4 C hA (q4 := f_X0_allWants_4 k μ n) ih x1 x2 h

def f_X0_allWants (k : Nat) (μ : Mem) : Option Int32 := f_X0_allWants_4 k μ FU 0 0
set_option maxRecDepth 100000 in
set_option maxHeartbeats 4000000 in
theorem b_X0_allWants {p : Program} {l : Launch} {e : Env} {s : State} {m : MethodId} {args : Array Value} {below : List Frame} {meth : Method} {c : Code} {G : Gp} {O : Int32} (C : Cx p s m args meth c cX0_allWants 3 RX0 (some .int) G) {k : Nat} {μ : Mem} (hA : At sGround k) (h : f_X0_allWants k μ = some O) : ∀ (H : Heap) (locs : List Loc) (ls : Array Slot), Wm G μ H → va_S (wA G) s.heap H locs → lv_has ls 3 [(0, .ref (G.2.2 k))] → W p l e (rmm 0 0) s m args below meth c H locs 0 0 (QI below args s G (O, μ)) (F0 m 0 ls []) := by
  unfold f_X0_allWants at h
  intro H locs ls hP hS hl
  refine lv_iconst (v := 0) C.x C.b dX0_allWants_0 (by decide) ?_
  refine lv_istore_n (lv' := [(1, .int 0), (0, .ref (G.2.2 k))]) C.x C.b dX0_allWants_1 rfl hl (by decide) rfl (fun ls hl => ?_)
  refine lv_iconst (v := 0) C.x C.b dX0_allWants_2 (by decide) ?_
  refine lv_istore_n (lv' := [(2, .int 0), (1, .int 0), (0, .ref (G.2.2 k))]) C.x C.b dX0_allWants_3 rfl hl (by decide) rfl (fun ls hl => ?_)
  exact b_X0_allWants_4 C hA FU 0 0 h _ _ _ hP hS (lv_sub hl [2, 1, 0] rfl)

set_option maxRecDepth 100000 in
set_option maxHeartbeats 4000000 in
theorem c_X0_allWants {l : Launch} {G : Gp} (hI : Wi G) {k : Nat} (hA : At sGround k) {μ : Mem} {r : Int32} (h : f_X0_allWants k μ = some r) : CI l yX0_allWants cX0_allWants 3 (some .int) 0 0 G [.ref (G.2.2 k)] μ r μ :=
  e_all (lv := [(0, .ref (G.2.2 k))]) hI (by decide) (Nat.le_of_ble_eq_true rfl) rfl (fun p e s m args below meth c ls C hP hS hl => b_X0_allWants C hA h _ _ _ hP hS hl)


def f_X0_shutRoad (k : Nat) (x1 : Int32) (x2 : Int32) (μ : Mem) : Option (Int32 × Mem) := bnv (f_X0_isRoad k x1 x2 μ) (fun r2 => if r2 = 0 then (some (0, μ)) else (bnv (f_X8_roadAt x1 x2 μ) (fun r5 => grd (inb r5 25) (if (μ.1 (k + 5) r5.toNatClampNeg) = 3 then (some (0, μ)) else (bnv (f_X8_roadAt x1 x2 μ) (fun r9 => grd (inb r9 25) (lt (st μ (k + 5) r9.toNatClampNeg 3) (fun μ11 => some (1, μ11)))))))))
set_option maxRecDepth 100000 in
set_option maxHeartbeats 4000000 in
theorem b_X0_shutRoad {p : Program} {l : Launch} {e : Env} {s : State} {m : MethodId} {args : Array Value} {below : List Frame} {meth : Method} {c : Code} {G : Gp} {O : (Int32 × Mem)} (C : Cx p s m args meth c cX0_shutRoad 3 RX0 (some .boolean) G) {k : Nat} {x1 : Int32} {x2 : Int32} (hA : At sGround k) {μ : Mem} (h : f_X0_shutRoad k x1 x2 μ = some O) : ∀ (H : Heap) (locs : List Loc) (ls : Array Slot), Wm G μ H → va_S (wA G) s.heap H locs → lv_has ls 3 [(0, .ref (G.2.2 k)), (1, .int x1), (2, .int x2)] → W p l e (rmm 1 22) s m args below meth c H locs 0 0 (QI below args s G O) (F0 m 0 ls []) := by
  unfold f_X0_shutRoad at h
  intro H locs ls hP hS hl
  have q_k_0 : shp[k]? = some (.inl (0, fs0)) := hA 0 _ rfl
  have q_k_5 : shp[k + 5]? = some (.inr (0, 25)) := hA 5 _ rfl
  refine lv_aload_n C.x C.b dX0_shutRoad_0 rfl (lv_at hl 0 rfl) ?_
  refine lv_iload_n C.x C.b dX0_shutRoad_1 rfl (lv_at hl 1 rfl) ?_
  refine lv_iload_n C.x C.b dX0_shutRoad_2 rfl (lv_at hl 2 rfl) ?_
  obtain ⟨r2, e1, h⟩ := bnv_some h
  refine k_vi (k := k) (as := [.int x1, .int x2]) (rest := []) (c_X0_isRoad C.i hA e1) M_X0_isRoad u2_162 C hP hS q_k_0 rfl rfl (by decide) hl.1 rfl (Nat.le_of_ble_eq_true rfl) dX0_shutRoad_3 (fun H locs hP hS => ?_)
  refine lv_if_eq (tgt := 23) C.x C.b dX0_shutRoad_6 (by decide) (fun c3 => ?_) (fun c3 => ?_)
  · have h := (if_pos c3).symm.trans h
    refine lv_iconst (v := 0) C.x C.b dX0_shutRoad_23 (by decide) ?_
    exact r_z h (by decide) C hP hS dX0_shutRoad_24
  · have h := (if_neg c3).symm.trans h
    refine lv_aload_n C.x C.b dX0_shutRoad_9 rfl (lv_at hl 0 rfl) ?_
    refine g_ref (k' := k + 5) F_0_6 u1_54 C hP q_k_0 rfl dX0_shutRoad_10 ?_
    refine lv_iload_n C.x C.b dX0_shutRoad_13 rfl (lv_at hl 1 rfl) ?_
    refine lv_iload_n C.x C.b dX0_shutRoad_14 rfl (lv_at hl 2 rfl) ?_
    obtain ⟨r5, e4, h⟩ := bnv_some h
    refine k_ni (as := [.int x1, .int x2]) (rest := [.ref (G.2.2 (k + 5))]) (c_X8_roadAt C.i e4) M_X8_roadAt n_RX0_53 C hP hS rfl (by decide) hl.1 rfl (Nat.le_of_ble_eq_true rfl) dX0_shutRoad_15 (fun H locs hP hS => ?_)
    obtain ⟨g6, h⟩ := grd_some h
    refine a_i C hP q_k_5 g6 dX0_shutRoad_18 ?_
    refine lv_iconst (v := 3) C.x C.b dX0_shutRoad_19 (by decide) ?_
    refine lv_icmp_ne (tgt := 25) C.x C.b dX0_shutRoad_20 (by decide) (fun c7 => ?_) (fun c7 => ?_)
    · have h := (if_neg c7).symm.trans h
      refine lv_aload_n C.x C.b dX0_shutRoad_25 rfl (lv_at hl 0 rfl) ?_
      refine g_ref (k' := k + 5) F_0_6 u1_54 C hP q_k_0 rfl dX0_shutRoad_26 ?_
      refine lv_iload_n C.x C.b dX0_shutRoad_29 rfl (lv_at hl 1 rfl) ?_
      refine lv_iload_n C.x C.b dX0_shutRoad_30 rfl (lv_at hl 2 rfl) ?_
      obtain ⟨r9, e8, h⟩ := bnv_some h
      refine k_ni (as := [.int x1, .int x2]) (rest := [.ref (G.2.2 (k + 5))]) (c_X8_roadAt C.i e8) M_X8_roadAt n_RX0_53 C hP hS rfl (by decide) hl.1 rfl (Nat.le_of_ble_eq_true rfl) dX0_shutRoad_31 (fun H locs hP hS => ?_)
      refine lv_iconst (v := 3) C.x C.b dX0_shutRoad_34 (by decide) ?_
      obtain ⟨g10, h⟩ := grd_some h
      refine as_i C hP hS q_k_5 g10 dX0_shutRoad_35 (fun H locs hP hS => ?_)
      obtain ⟨μ11, m_μ11, h⟩ := lt_ex h
      have hP : Wm G μ11 H := by rw [m_μ11]; exact hP
      refine lv_iconst (v := 1) C.x C.b dX0_shutRoad_36 (by decide) ?_
      exact r_z h (by decide) C hP hS dX0_shutRoad_37
    · have h := (if_pos c7).symm.trans h
      refine lv_iconst (v := 0) C.x C.b dX0_shutRoad_23 (by decide) ?_
      exact r_z h (by decide) C hP hS dX0_shutRoad_24

set_option maxRecDepth 100000 in
set_option maxHeartbeats 4000000 in
theorem c_X0_shutRoad {l : Launch} {G : Gp} (hI : Wi G) {k : Nat} {x1 : Int32} {x2 : Int32} (hA : At sGround k) {μ : Mem} {r : Int32} {μ' : Mem} (h : f_X0_shutRoad k x1 x2 μ = some (r, μ')) : CI l yX0_shutRoad cX0_shutRoad 3 (some .boolean) 1 22 G [.ref (G.2.2 k), .int x1, .int x2] μ r μ' :=
  e_all (lv := [(0, .ref (G.2.2 k)), (1, .int x1), (2, .int x2)]) hI (by decide) (Nat.le_of_ble_eq_true rfl) rfl (fun p e s m args below meth c ls C hP hS hl => b_X0_shutRoad C hA h _ _ _ hP hS hl)


def g_X0_shutRoads_14 (k : Nat) (q4 : Int32 → Int32 → Option Int32) (μ : Mem) (q14 : Int32 → Int32 → Int32 → Option Int32) (x1 : Int32) (x2 : Int32) (x3 : Int32) : Option Int32 := if (μ.1 k 1) ≤ x3 then (lt (x2 + 1) (fun y2 => q4 x1 y2)) else (bnv (f_X8_roadAt x2 x3 μ) (fun r4 => grd (inb r4 25) (if (μ.1 (k + 5) r4.toNatClampNeg) = 3 then (lt (x1 + 1) (fun y9 => lt (x3 + 1) (fun y10 => q14 y9 x2 y10))) else (lt (x1 + 0) (fun y7 => lt (x3 + 1) (fun y8 => q14 y7 x2 y8))))))
def f_X0_shutRoads_14 (k : Nat) (q4 : Int32 → Int32 → Option Int32) (μ : Mem) : Nat → Int32 → Int32 → Int32 → Option Int32
  | 0, _, _, _ => none
  | n + 1, x1, x2, x3 => g_X0_shutRoads_14 k q4 μ (f_X0_shutRoads_14 k q4 μ n) x1 x2 x3
set_option maxRecDepth 100000 in
set_option maxHeartbeats 4000000 in
theorem w_X0_shutRoads_14 {p : Program} {l : Launch} {e : Env} {s : State} {m : MethodId} {args : Array Value} {below : List Frame} {meth : Method} {c : Code} {G : Gp} {O : Int32} (C : Cx p s m args meth c cX0_shutRoads 4 RX0 (some .int) G) {k : Nat} {μ : Mem} (hA : At sGround k) {q4 : Int32 → Int32 → Option Int32} (hq4 : ∀ (x1 : Int32) (x2 : Int32), q4 x1 x2 = some O → ∀ (H : Heap) (locs : List Loc) (ls : Array Slot), Wm G μ H → va_S (wA G) s.heap H locs → lv_has ls 4 [(0, .ref (G.2.2 k)), (1, .int x1), (2, .int x2)] → W p l e (rmm 1 21) s m args below meth c H locs 0 0 (QI below args s G (O, μ)) (F0 m 4 ls [])) {q14 : Int32 → Int32 → Int32 → Option Int32} (hq14 : ∀ (x1 : Int32) (x2 : Int32) (x3 : Int32), q14 x1 x2 x3 = some O → ∀ (H : Heap) (locs : List Loc) (ls : Array Slot), Wm G μ H → va_S (wA G) s.heap H locs → lv_has ls 4 [(0, .ref (G.2.2 k)), (1, .int x1), (2, .int x2), (3, .int x3)] → W p l e (rmm 1 21) s m args below meth c H locs 0 0 (QI below args s G (O, μ)) (F0 m 14 ls [])) : ∀ (x1 : Int32) (x2 : Int32) (x3 : Int32), g_X0_shutRoads_14 k q4 μ q14 x1 x2 x3 = some O → ∀ (H : Heap) (locs : List Loc) (ls : Array Slot), Wm G μ H → va_S (wA G) s.heap H locs → lv_has ls 4 [(0, .ref (G.2.2 k)), (1, .int x1), (2, .int x2), (3, .int x3)] → W p l e (rmm 1 21) s m args below meth c H locs 0 0 (QI below args s G (O, μ)) (F0 m 14 ls []) := by
  intro x1 x2 x3 h H locs ls hP hS hl
  unfold g_X0_shutRoads_14 at h
  have q_k_0 : shp[k]? = some (.inl (0, fs0)) := hA 0 _ rfl
  have q_k_5 : shp[k + 5]? = some (.inr (0, 25)) := hA 5 _ rfl
  refine lv_iload_n C.x C.b dX0_shutRoads_14 rfl (lv_at hl 3 rfl) ?_
  refine lv_aload_n C.x C.b dX0_shutRoads_15 rfl (lv_at hl 0 rfl) ?_
  refine g_int F_0_1 u1_42 C hP q_k_0 dX0_shutRoads_16 ?_
  refine lv_icmp_ge (tgt := 50) C.x C.b dX0_shutRoads_19 (by decide) (fun c1 => ?_) (fun c1 => ?_)
  · have h := (if_pos c1).symm.trans h
    obtain ⟨y2, e_y2, h⟩ := lt_ex h
    refine lv_iinc (v := y2) (lv' := [(2, .int y2), (0, .ref (G.2.2 k)), (1, .int x1), (3, .int x3)]) C.x C.b dX0_shutRoads_50 hl (k := 2) rfl (by rw [e_y2]; rfl) (by decide) rfl (fun ls hl => ?_)
    refine lv_goto (tgt := 4) C.x C.b dX0_shutRoads_53 (by decide) ?_
    exact hq4 x1 y2 h _ _ _ hP hS (lv_sub hl [1, 2, 0] rfl)
  · have h := (if_neg c1).symm.trans h
    refine lv_iload_n C.x C.b dX0_shutRoads_22 rfl (lv_at hl 1 rfl) ?_
    refine lv_aload_n C.x C.b dX0_shutRoads_23 rfl (lv_at hl 0 rfl) ?_
    refine g_ref (k' := k + 5) F_0_6 u1_54 C hP q_k_0 rfl dX0_shutRoads_24 ?_
    refine lv_iload_n C.x C.b dX0_shutRoads_27 rfl (lv_at hl 2 rfl) ?_
    refine lv_iload_n C.x C.b dX0_shutRoads_28 rfl (lv_at hl 3 rfl) ?_
    obtain ⟨r4, e3, h⟩ := bnv_some h
    refine k_ni (as := [.int x2, .int x3]) (rest := [.ref (G.2.2 (k + 5)), .int x1]) (c_X8_roadAt C.i e3) M_X8_roadAt n_RX0_53 C hP hS rfl (by decide) hl.1 rfl (Nat.le_of_ble_eq_true rfl) dX0_shutRoads_29 (fun H locs hP hS => ?_)
    obtain ⟨g5, h⟩ := grd_some h
    refine a_i C hP q_k_5 g5 dX0_shutRoads_32 ?_
    refine lv_iconst (v := 3) C.x C.b dX0_shutRoads_33 (by decide) ?_
    refine lv_icmp_ne (tgt := 41) C.x C.b dX0_shutRoads_34 (by decide) (fun c6 => ?_) (fun c6 => ?_)
    · have h := (if_neg c6).symm.trans h
      refine lv_iconst (v := 0) C.x C.b dX0_shutRoads_41 (by decide) ?_
      refine lv_iadd C.x C.b dX0_shutRoads_42 ?_
      refine lv_topi (fun y7 e_y7 => ?_)
      have h := lt_at h e_y7
      refine lv_istore_n (lv' := [(1, .int y7), (0, .ref (G.2.2 k)), (2, .int x2), (3, .int x3)]) C.x C.b dX0_shutRoads_43 rfl hl (by decide) rfl (fun ls hl => ?_)
      obtain ⟨y8, e_y8, h⟩ := lt_ex h
      refine lv_iinc (v := y8) (lv' := [(3, .int y8), (1, .int y7), (0, .ref (G.2.2 k)), (2, .int x2)]) C.x C.b dX0_shutRoads_44 hl (k := 3) rfl (by rw [e_y8]; rfl) (by decide) rfl (fun ls hl => ?_)
      refine lv_goto (tgt := 14) C.x C.b dX0_shutRoads_47 (by decide) ?_
      exact hq14 y7 x2 y8 h _ _ _ hP hS (lv_sub hl [2, 1, 3, 0] rfl)
    · have h := (if_pos c6).symm.trans h
      refine lv_iconst (v := 1) C.x C.b dX0_shutRoads_37 (by decide) ?_
      refine lv_goto (tgt := 42) C.x C.b dX0_shutRoads_38 (by decide) ?_
      refine lv_iadd C.x C.b dX0_shutRoads_42 ?_
      refine lv_topi (fun y9 e_y9 => ?_)
      have h := lt_at h e_y9
      refine lv_istore_n (lv' := [(1, .int y9), (0, .ref (G.2.2 k)), (2, .int x2), (3, .int x3)]) C.x C.b dX0_shutRoads_43 rfl hl (by decide) rfl (fun ls hl => ?_)
      obtain ⟨y10, e_y10, h⟩ := lt_ex h
      refine lv_iinc (v := y10) (lv' := [(3, .int y10), (1, .int y9), (0, .ref (G.2.2 k)), (2, .int x2)]) C.x C.b dX0_shutRoads_44 hl (k := 3) rfl (by rw [e_y10]; rfl) (by decide) rfl (fun ls hl => ?_)
      refine lv_goto (tgt := 14) C.x C.b dX0_shutRoads_47 (by decide) ?_
      exact hq14 y9 x2 y10 h _ _ _ hP hS (lv_sub hl [2, 1, 3, 0] rfl)

set_option maxRecDepth 100000 in
set_option maxHeartbeats 4000000 in
theorem b_X0_shutRoads_14 {p : Program} {l : Launch} {e : Env} {s : State} {m : MethodId} {args : Array Value} {below : List Frame} {meth : Method} {c : Code} {G : Gp} {O : Int32} (C : Cx p s m args meth c cX0_shutRoads 4 RX0 (some .int) G) {k : Nat} {μ : Mem} (hA : At sGround k) {q4 : Int32 → Int32 → Option Int32} (hq4 : ∀ (x1 : Int32) (x2 : Int32), q4 x1 x2 = some O → ∀ (H : Heap) (locs : List Loc) (ls : Array Slot), Wm G μ H → va_S (wA G) s.heap H locs → lv_has ls 4 [(0, .ref (G.2.2 k)), (1, .int x1), (2, .int x2)] → W p l e (rmm 1 21) s m args below meth c H locs 0 0 (QI below args s G (O, μ)) (F0 m 4 ls [])) : ∀ (n : Nat) (x1 : Int32) (x2 : Int32) (x3 : Int32), f_X0_shutRoads_14 k q4 μ n x1 x2 x3 = some O → ∀ (H : Heap) (locs : List Loc) (ls : Array Slot), Wm G μ H → va_S (wA G) s.heap H locs → lv_has ls 4 [(0, .ref (G.2.2 k)), (1, .int x1), (2, .int x2), (3, .int x3)] → W p l e (rmm 1 21) s m args below meth c H locs 0 0 (QI below args s G (O, μ)) (F0 m 14 ls []) := by
  intro n
  induction n with
  | zero => intro x1 x2 x3 h; cases h
  | succ n ih => intro x1 x2 x3 h; exact w_X0_shutRoads_14 C hA hq4 (q14 := f_X0_shutRoads_14 k q4 μ n) ih x1 x2 x3 h

def g_X0_shutRoads_4 (k : Nat)  (μ : Mem) (q4 : Int32 → Int32 → Option Int32) (x1 : Int32) (x2 : Int32) : Option Int32 := if (μ.1 k 0) ≤ x2 then (some x1) else (f_X0_shutRoads_14 k q4 μ FU x1 x2 0)
def f_X0_shutRoads_4 (k : Nat)  (μ : Mem) : Nat → Int32 → Int32 → Option Int32
  | 0, _, _ => none
  | n + 1, x1, x2 => g_X0_shutRoads_4 k μ (f_X0_shutRoads_4 k μ n) x1 x2
set_option maxRecDepth 100000 in
set_option maxHeartbeats 4000000 in
theorem w_X0_shutRoads_4 {p : Program} {l : Launch} {e : Env} {s : State} {m : MethodId} {args : Array Value} {below : List Frame} {meth : Method} {c : Code} {G : Gp} {O : Int32} (C : Cx p s m args meth c cX0_shutRoads 4 RX0 (some .int) G) {k : Nat} {μ : Mem} (hA : At sGround k) {q4 : Int32 → Int32 → Option Int32} (hq4 : ∀ (x1 : Int32) (x2 : Int32), q4 x1 x2 = some O → ∀ (H : Heap) (locs : List Loc) (ls : Array Slot), Wm G μ H → va_S (wA G) s.heap H locs → lv_has ls 4 [(0, .ref (G.2.2 k)), (1, .int x1), (2, .int x2)] → W p l e (rmm 1 21) s m args below meth c H locs 0 0 (QI below args s G (O, μ)) (F0 m 4 ls [])) : ∀ (x1 : Int32) (x2 : Int32), g_X0_shutRoads_4 k μ q4 x1 x2 = some O → ∀ (H : Heap) (locs : List Loc) (ls : Array Slot), Wm G μ H → va_S (wA G) s.heap H locs → lv_has ls 4 [(0, .ref (G.2.2 k)), (1, .int x1), (2, .int x2)] → W p l e (rmm 1 21) s m args below meth c H locs 0 0 (QI below args s G (O, μ)) (F0 m 4 ls []) := by
  intro x1 x2 h H locs ls hP hS hl
  unfold g_X0_shutRoads_4 at h
  have q_k_0 : shp[k]? = some (.inl (0, fs0)) := hA 0 _ rfl
  refine lv_iload_n C.x C.b dX0_shutRoads_4 rfl (lv_at hl 2 rfl) ?_
  refine lv_aload_n C.x C.b dX0_shutRoads_5 rfl (lv_at hl 0 rfl) ?_
  refine g_int F_0_0 u1_38 C hP q_k_0 dX0_shutRoads_6 ?_
  refine lv_icmp_ge (tgt := 56) C.x C.b dX0_shutRoads_9 (by decide) (fun c1 => ?_) (fun c1 => ?_)
  · have h := (if_pos c1).symm.trans h
    refine lv_iload_n C.x C.b dX0_shutRoads_56 rfl (lv_at hl 1 rfl) ?_
    exact r_i (pr_some h) C hP hS dX0_shutRoads_57
  · have h := (if_neg c1).symm.trans h
    refine lv_iconst (v := 0) C.x C.b dX0_shutRoads_12 (by decide) ?_
    refine lv_istore_n (lv' := [(3, .int 0), (0, .ref (G.2.2 k)), (1, .int x1), (2, .int x2)]) C.x C.b dX0_shutRoads_13 rfl hl (by decide) rfl (fun ls hl => ?_)
    exact b_X0_shutRoads_14 C hA hq4 FU x1 x2 0 h _ _ _ hP hS (lv_sub hl [1, 2, 3, 0] rfl)

set_option maxRecDepth 100000 in
set_option maxHeartbeats 4000000 in
theorem b_X0_shutRoads_4 {p : Program} {l : Launch} {e : Env} {s : State} {m : MethodId} {args : Array Value} {below : List Frame} {meth : Method} {c : Code} {G : Gp} {O : Int32} (C : Cx p s m args meth c cX0_shutRoads 4 RX0 (some .int) G) {k : Nat} {μ : Mem} (hA : At sGround k) : ∀ (n : Nat) (x1 : Int32) (x2 : Int32), f_X0_shutRoads_4 k μ n x1 x2 = some O → ∀ (H : Heap) (locs : List Loc) (ls : Array Slot), Wm G μ H → va_S (wA G) s.heap H locs → lv_has ls 4 [(0, .ref (G.2.2 k)), (1, .int x1), (2, .int x2)] → W p l e (rmm 1 21) s m args below meth c H locs 0 0 (QI below args s G (O, μ)) (F0 m 4 ls []) := by
  intro n
  induction n with
  | zero => intro x1 x2 h; cases h
  | succ n ih => intro x1 x2 h; exact w_X0_shutRoads_4 C hA (q4 := f_X0_shutRoads_4 k μ n) ih x1 x2 h

def f_X0_shutRoads (k : Nat) (μ : Mem) : Option Int32 := f_X0_shutRoads_4 k μ FU 0 0
set_option maxRecDepth 100000 in
set_option maxHeartbeats 4000000 in
theorem b_X0_shutRoads {p : Program} {l : Launch} {e : Env} {s : State} {m : MethodId} {args : Array Value} {below : List Frame} {meth : Method} {c : Code} {G : Gp} {O : Int32} (C : Cx p s m args meth c cX0_shutRoads 4 RX0 (some .int) G) {k : Nat} {μ : Mem} (hA : At sGround k) (h : f_X0_shutRoads k μ = some O) : ∀ (H : Heap) (locs : List Loc) (ls : Array Slot), Wm G μ H → va_S (wA G) s.heap H locs → lv_has ls 4 [(0, .ref (G.2.2 k))] → W p l e (rmm 1 21) s m args below meth c H locs 0 0 (QI below args s G (O, μ)) (F0 m 0 ls []) := by
  unfold f_X0_shutRoads at h
  intro H locs ls hP hS hl
  refine lv_iconst (v := 0) C.x C.b dX0_shutRoads_0 (by decide) ?_
  refine lv_istore_n (lv' := [(1, .int 0), (0, .ref (G.2.2 k))]) C.x C.b dX0_shutRoads_1 rfl hl (by decide) rfl (fun ls hl => ?_)
  refine lv_iconst (v := 0) C.x C.b dX0_shutRoads_2 (by decide) ?_
  refine lv_istore_n (lv' := [(2, .int 0), (1, .int 0), (0, .ref (G.2.2 k))]) C.x C.b dX0_shutRoads_3 rfl hl (by decide) rfl (fun ls hl => ?_)
  exact b_X0_shutRoads_4 C hA FU 0 0 h _ _ _ hP hS (lv_sub hl [2, 1, 0] rfl)

set_option maxRecDepth 100000 in
set_option maxHeartbeats 4000000 in
theorem c_X0_shutRoads {l : Launch} {G : Gp} (hI : Wi G) {k : Nat} (hA : At sGround k) {μ : Mem} {r : Int32} (h : f_X0_shutRoads k μ = some r) : CI l yX0_shutRoads cX0_shutRoads 4 (some .int) 1 21 G [.ref (G.2.2 k)] μ r μ :=
  e_all (lv := [(0, .ref (G.2.2 k))]) hI (by decide) (Nat.le_of_ble_eq_true rfl) rfl (fun p e s m args below meth c ls C hP hS hl => b_X0_shutRoads C hA h _ _ _ hP hS hl)


def f_X0_happen_71 (k : Nat) (x1 : Int32) (x2 : Int32)   (μ : Mem) : Option Mem := if x1 = 2 then (bnd (f_X0_shutRoad k (x2 / 10) (rm32 x2 10) μ) (fun r9 μ10 => some μ10)) else (if x1 = 3 then (bnv (f_X0_isSite k 0 x2 μ) (fun r4 => if r4 = 0 then (some μ) else (grd (inb x2 5) (lt (st μ (k + 2) x2.toNatClampNeg 0) (fun μ7 => some μ7))))) else (some μ))
set_option maxRecDepth 100000 in
set_option maxHeartbeats 4000000 in
theorem b_X0_happen_71 {p : Program} {l : Launch} {e : Env} {s : State} {m : MethodId} {args : Array Value} {below : List Frame} {meth : Method} {c : Code} {G : Gp} {O : Mem} (C : Cx p s m args meth c cX0_happen 3 RX0 none G) {k : Nat} {x1 : Int32} {x2 : Int32} (hA : At sGround k) : ∀ (μ : Mem), f_X0_happen_71 k x1 x2 μ = some O → ∀ (H : Heap) (locs : List Loc) (ls : Array Slot), Wm G μ H → va_S (wA G) s.heap H locs → lv_has ls 3 [(0, .ref (G.2.2 k)), (1, .int x1), (2, .int x2)] → W p l e (rmm 2 44) s m args below meth c H locs 0 0 (QV below args s G O) (F0 m 71 ls []) := by
  intro μ h H locs ls hP hS hl
  unfold f_X0_happen_71 at h
  have q_k_0 : shp[k]? = some (.inl (0, fs0)) := hA 0 _ rfl
  have q_k_2 : shp[k + 2]? = some (.inr (0, 5)) := hA 2 _ rfl
  refine lv_iload_n C.x C.b dX0_happen_71 rfl (lv_at hl 1 rfl) ?_
  refine lv_iconst (v := 2) C.x C.b dX0_happen_72 (by decide) ?_
  refine lv_icmp_ne (tgt := 92) C.x C.b dX0_happen_73 (by decide) (fun c1 => ?_) (fun c1 => ?_)
  · have h := (if_neg c1).symm.trans h
    refine lv_iload_n C.x C.b dX0_happen_92 rfl (lv_at hl 1 rfl) ?_
    refine lv_iconst (v := 3) C.x C.b dX0_happen_93 (by decide) ?_
    refine lv_icmp_ne (tgt := 113) C.x C.b dX0_happen_94 (by decide) (fun c2 => ?_) (fun c2 => ?_)
    · have h := (if_neg c2).symm.trans h
      exact r_v h C hP hS dX0_happen_113
    · have h := (if_pos c2).symm.trans h
      refine lv_aload_n C.x C.b dX0_happen_97 rfl (lv_at hl 0 rfl) ?_
      refine lv_iconst (v := 0) C.x C.b dX0_happen_98 (by decide) ?_
      refine lv_iload_n C.x C.b dX0_happen_99 rfl (lv_at hl 2 rfl) ?_
      obtain ⟨r4, e3, h⟩ := bnv_some h
      refine k_vi (k := k) (as := [.int 0, .int x2]) (rest := []) (c_X0_isSite C.i hA e3) M_X0_isSite u4_32 C hP hS q_k_0 rfl rfl (by decide) hl.1 rfl (Nat.le_of_ble_eq_true rfl) dX0_happen_100 (fun H locs hP hS => ?_)
      refine lv_if_eq (tgt := 113) C.x C.b dX0_happen_103 (by decide) (fun c5 => ?_) (fun c5 => ?_)
      · have h := (if_pos c5).symm.trans h
        exact r_v h C hP hS dX0_happen_113
      · have h := (if_neg c5).symm.trans h
        refine lv_aload_n C.x C.b dX0_happen_106 rfl (lv_at hl 0 rfl) ?_
        refine g_ref (k' := k + 2) F_0_3 u1_49 C hP q_k_0 rfl dX0_happen_107 ?_
        refine lv_iload_n C.x C.b dX0_happen_110 rfl (lv_at hl 2 rfl) ?_
        refine lv_iconst (v := 0) C.x C.b dX0_happen_111 (by decide) ?_
        obtain ⟨g6, h⟩ := grd_some h
        refine as_i C hP hS q_k_2 g6 dX0_happen_112 (fun H locs hP hS => ?_)
        obtain ⟨μ7, m_μ7, h⟩ := lt_ex h
        have hP : Wm G μ7 H := by rw [m_μ7]; exact hP
        exact r_v h C hP hS dX0_happen_113
  · have h := (if_pos c1).symm.trans h
    refine lv_aload_n C.x C.b dX0_happen_76 rfl (lv_at hl 0 rfl) ?_
    refine lv_iload_n C.x C.b dX0_happen_77 rfl (lv_at hl 2 rfl) ?_
    refine lv_bipush (v := 10) C.x C.b dX0_happen_78 (by decide) ?_
    refine lv_idiv C.x C.b dX0_happen_80 (by decide) ?_
    refine lv_iload_n C.x C.b dX0_happen_81 rfl (lv_at hl 2 rfl) ?_
    refine lv_bipush (v := 10) C.x C.b dX0_happen_82 (by decide) ?_
    refine lv_irem C.x C.b dX0_happen_84 (by decide) ?_
    obtain ⟨r9, μ10, e8, h⟩ := bnd_some h
    refine k_vi (k := k) (as := [.int (x2 / 10), .int (rm32 x2 10)]) (rest := []) (c_X0_shutRoad C.i hA e8) M_X0_shutRoad u4_34 C hP hS q_k_0 rfl rfl (by decide) hl.1 rfl (Nat.le_of_ble_eq_true rfl) dX0_happen_85 (fun H locs hP hS => ?_)
    refine lv_pop C.x C.b dX0_happen_88 rfl ?_
    refine lv_goto (tgt := 113) C.x C.b dX0_happen_89 (by decide) ?_
    exact r_v h C hP hS dX0_happen_113

def f_X0_happen_35 (k : Nat) (x1 : Int32) (x2 : Int32)   (μ : Mem) : Option Mem := if x1 = 1 then (bnv (f_X0_isSite k 1 x2 μ) (fun r3 => if r3 = 0 then (f_X0_happen_71 k x1 x2 μ) else (grd (inb x2 5) (grd (inb x2 5) (lt (st μ (k + 3) x2.toNatClampNeg (mn 99 ((μ.1 (k + 3) x2.toNatClampNeg) + 1))) (fun μ7 => some μ7)))))) else (f_X0_happen_71 k x1 x2 μ)
set_option maxRecDepth 100000 in
set_option maxHeartbeats 4000000 in
theorem b_X0_happen_35 {p : Program} {l : Launch} {e : Env} {s : State} {m : MethodId} {args : Array Value} {below : List Frame} {meth : Method} {c : Code} {G : Gp} {O : Mem} (C : Cx p s m args meth c cX0_happen 3 RX0 none G) {k : Nat} {x1 : Int32} {x2 : Int32} (hA : At sGround k) : ∀ (μ : Mem), f_X0_happen_35 k x1 x2 μ = some O → ∀ (H : Heap) (locs : List Loc) (ls : Array Slot), Wm G μ H → va_S (wA G) s.heap H locs → lv_has ls 3 [(0, .ref (G.2.2 k)), (1, .int x1), (2, .int x2)] → W p l e (rmm 2 44) s m args below meth c H locs 0 0 (QV below args s G O) (F0 m 35 ls []) := by
  intro μ h H locs ls hP hS hl
  unfold f_X0_happen_35 at h
  have q_k_0 : shp[k]? = some (.inl (0, fs0)) := hA 0 _ rfl
  have q_k_3 : shp[k + 3]? = some (.inr (0, 5)) := hA 3 _ rfl
  refine lv_iload_n C.x C.b dX0_happen_35 rfl (lv_at hl 1 rfl) ?_
  refine lv_iconst (v := 1) C.x C.b dX0_happen_36 (by decide) ?_
  refine lv_icmp_ne (tgt := 71) C.x C.b dX0_happen_37 (by decide) (fun c1 => ?_) (fun c1 => ?_)
  · have h := (if_neg c1).symm.trans h
    exact b_X0_happen_71 C hA μ h _ _ _ hP hS (lv_sub hl [0, 1, 2] rfl)
  · have h := (if_pos c1).symm.trans h
    refine lv_aload_n C.x C.b dX0_happen_40 rfl (lv_at hl 0 rfl) ?_
    refine lv_iconst (v := 1) C.x C.b dX0_happen_41 (by decide) ?_
    refine lv_iload_n C.x C.b dX0_happen_42 rfl (lv_at hl 2 rfl) ?_
    obtain ⟨r3, e2, h⟩ := bnv_some h
    refine k_vi (k := k) (as := [.int 1, .int x2]) (rest := []) (c_X0_isSite C.i hA e2) M_X0_isSite u4_32 C hP hS q_k_0 rfl rfl (by decide) hl.1 rfl (Nat.le_of_ble_eq_true rfl) dX0_happen_43 (fun H locs hP hS => ?_)
    refine lv_if_eq (tgt := 71) C.x C.b dX0_happen_46 (by decide) (fun c4 => ?_) (fun c4 => ?_)
    · have h := (if_pos c4).symm.trans h
      exact b_X0_happen_71 C hA μ h _ _ _ hP hS (lv_sub hl [0, 1, 2] rfl)
    · have h := (if_neg c4).symm.trans h
      refine lv_aload_n C.x C.b dX0_happen_49 rfl (lv_at hl 0 rfl) ?_
      refine g_ref (k' := k + 3) F_0_4 u1_50 C hP q_k_0 rfl dX0_happen_50 ?_
      refine lv_iload_n C.x C.b dX0_happen_53 rfl (lv_at hl 2 rfl) ?_
      refine lv_bipush (v := 99) C.x C.b dX0_happen_54 (by decide) ?_
      refine lv_aload_n C.x C.b dX0_happen_56 rfl (lv_at hl 0 rfl) ?_
      refine g_ref (k' := k + 3) F_0_4 u1_50 C hP q_k_0 rfl dX0_happen_57 ?_
      refine lv_iload_n C.x C.b dX0_happen_60 rfl (lv_at hl 2 rfl) ?_
      obtain ⟨g5, h⟩ := grd_some h
      refine a_i C hP q_k_3 g5 dX0_happen_61 ?_
      refine lv_iconst (v := 1) C.x C.b dX0_happen_62 (by decide) ?_
      refine lv_iadd C.x C.b dX0_happen_63 ?_
      refine k_min u4_33 C hl.1 ⟨by decide, Nat.le_of_ble_eq_true rfl⟩ dX0_happen_64 ?_
      obtain ⟨g6, h⟩ := grd_some h
      refine as_i C hP hS q_k_3 g6 dX0_happen_67 (fun H locs hP hS => ?_)
      obtain ⟨μ7, m_μ7, h⟩ := lt_ex h
      have hP : Wm G μ7 H := by rw [m_μ7]; exact hP
      refine lv_goto (tgt := 113) C.x C.b dX0_happen_68 (by decide) ?_
      exact r_v h C hP hS dX0_happen_113

def f_X0_happen (k : Nat) (x1 : Int32) (x2 : Int32) (μ : Mem) : Option Mem := if x1 = 0 then (bnv (f_X0_isSite k 0 x2 μ) (fun r3 => if r3 = 0 then (f_X0_happen_35 k x1 x2 μ) else (grd (inb x2 5) (grd (inb x2 5) (lt (st μ (k + 1) x2.toNatClampNeg (mn 99 ((μ.1 (k + 1) x2.toNatClampNeg) + 1))) (fun μ7 => some μ7)))))) else (f_X0_happen_35 k x1 x2 μ)
set_option maxRecDepth 100000 in
set_option maxHeartbeats 4000000 in
theorem b_X0_happen {p : Program} {l : Launch} {e : Env} {s : State} {m : MethodId} {args : Array Value} {below : List Frame} {meth : Method} {c : Code} {G : Gp} {O : Mem} (C : Cx p s m args meth c cX0_happen 3 RX0 none G) {k : Nat} {x1 : Int32} {x2 : Int32} (hA : At sGround k) {μ : Mem} (h : f_X0_happen k x1 x2 μ = some O) : ∀ (H : Heap) (locs : List Loc) (ls : Array Slot), Wm G μ H → va_S (wA G) s.heap H locs → lv_has ls 3 [(0, .ref (G.2.2 k)), (1, .int x1), (2, .int x2)] → W p l e (rmm 2 44) s m args below meth c H locs 0 0 (QV below args s G O) (F0 m 0 ls []) := by
  unfold f_X0_happen at h
  intro H locs ls hP hS hl
  have q_k_0 : shp[k]? = some (.inl (0, fs0)) := hA 0 _ rfl
  have q_k_1 : shp[k + 1]? = some (.inr (0, 5)) := hA 1 _ rfl
  refine lv_iload_n C.x C.b dX0_happen_0 rfl (lv_at hl 1 rfl) ?_
  refine lv_if_ne (tgt := 35) C.x C.b dX0_happen_1 (by decide) (fun c1 => ?_) (fun c1 => ?_)
  · have h := (if_neg c1).symm.trans h
    exact b_X0_happen_35 C hA μ h _ _ _ hP hS (lv_sub hl [0, 1, 2] rfl)
  · have h := (if_pos c1).symm.trans h
    refine lv_aload_n C.x C.b dX0_happen_4 rfl (lv_at hl 0 rfl) ?_
    refine lv_iconst (v := 0) C.x C.b dX0_happen_5 (by decide) ?_
    refine lv_iload_n C.x C.b dX0_happen_6 rfl (lv_at hl 2 rfl) ?_
    obtain ⟨r3, e2, h⟩ := bnv_some h
    refine k_vi (k := k) (as := [.int 0, .int x2]) (rest := []) (c_X0_isSite C.i hA e2) M_X0_isSite u4_32 C hP hS q_k_0 rfl rfl (by decide) hl.1 rfl (Nat.le_of_ble_eq_true rfl) dX0_happen_7 (fun H locs hP hS => ?_)
    refine lv_if_eq (tgt := 35) C.x C.b dX0_happen_10 (by decide) (fun c4 => ?_) (fun c4 => ?_)
    · have h := (if_pos c4).symm.trans h
      exact b_X0_happen_35 C hA μ h _ _ _ hP hS (lv_sub hl [0, 1, 2] rfl)
    · have h := (if_neg c4).symm.trans h
      refine lv_aload_n C.x C.b dX0_happen_13 rfl (lv_at hl 0 rfl) ?_
      refine g_ref (k' := k + 1) F_0_2 u1_46 C hP q_k_0 rfl dX0_happen_14 ?_
      refine lv_iload_n C.x C.b dX0_happen_17 rfl (lv_at hl 2 rfl) ?_
      refine lv_bipush (v := 99) C.x C.b dX0_happen_18 (by decide) ?_
      refine lv_aload_n C.x C.b dX0_happen_20 rfl (lv_at hl 0 rfl) ?_
      refine g_ref (k' := k + 1) F_0_2 u1_46 C hP q_k_0 rfl dX0_happen_21 ?_
      refine lv_iload_n C.x C.b dX0_happen_24 rfl (lv_at hl 2 rfl) ?_
      obtain ⟨g5, h⟩ := grd_some h
      refine a_i C hP q_k_1 g5 dX0_happen_25 ?_
      refine lv_iconst (v := 1) C.x C.b dX0_happen_26 (by decide) ?_
      refine lv_iadd C.x C.b dX0_happen_27 ?_
      refine k_min u4_33 C hl.1 ⟨by decide, Nat.le_of_ble_eq_true rfl⟩ dX0_happen_28 ?_
      obtain ⟨g6, h⟩ := grd_some h
      refine as_i C hP hS q_k_1 g6 dX0_happen_31 (fun H locs hP hS => ?_)
      obtain ⟨μ7, m_μ7, h⟩ := lt_ex h
      have hP : Wm G μ7 H := by rw [m_μ7]; exact hP
      refine lv_goto (tgt := 113) C.x C.b dX0_happen_32 (by decide) ?_
      exact r_v h C hP hS dX0_happen_113

set_option maxRecDepth 100000 in
set_option maxHeartbeats 4000000 in
theorem c_X0_happen {l : Launch} {G : Gp} (hI : Wi G) {k : Nat} {x1 : Int32} {x2 : Int32} (hA : At sGround k) {μ : Mem} {μ' : Mem} (h : f_X0_happen k x1 x2 μ = some μ') : CV l yX0_happen cX0_happen 3 none 2 44 G [.ref (G.2.2 k), .int x1, .int x2] μ μ' :=
  e_all (lv := [(0, .ref (G.2.2 k)), (1, .int x1), (2, .int x2)]) hI (by decide) (Nat.le_of_ble_eq_true rfl) rfl (fun p e s m args below meth c ls C hP hS hl => b_X0_happen C hA h _ _ _ hP hS hl)


def f_X1_add (k : Nat) (x1 : Int32) (μ : Mem) : Option Mem := if 12 ≤ (μ.1 k 0) then (some μ) else (grd (inb (μ.1 k 0) 12) (lt (st μ (k + 1) (μ.1 k 0).toNatClampNeg x1) (fun μ3 => lt (st μ3 k 0 ((μ3.1 k 0) + 1)) (fun μ4 => some μ4))))
set_option maxRecDepth 100000 in
set_option maxHeartbeats 4000000 in
theorem b_X1_add {p : Program} {l : Launch} {e : Env} {s : State} {m : MethodId} {args : Array Value} {below : List Frame} {meth : Method} {c : Code} {G : Gp} {O : Mem} (C : Cx p s m args meth c cX1_add 2 RX1 none G) {k : Nat} {x1 : Int32} (hA : At sLoop k) {μ : Mem} (h : f_X1_add k x1 μ = some O) : ∀ (H : Heap) (locs : List Loc) (ls : Array Slot), Wm G μ H → va_S (wA G) s.heap H locs → lv_has ls 2 [(0, .ref (G.2.2 k)), (1, .int x1)] → W p l e (rmm 0 0) s m args below meth c H locs 0 0 (QV below args s G O) (F0 m 0 ls []) := by
  unfold f_X1_add at h
  intro H locs ls hP hS hl
  have q_k_0 : shp[k]? = some (.inl (1, fs1)) := hA 0 _ rfl
  have q_k_1 : shp[k + 1]? = some (.inr (0, 12)) := hA 1 _ rfl
  refine lv_aload_n C.x C.b dX1_add_0 rfl (lv_at hl 0 rfl) ?_
  refine g_int F_1_0 u1_133 C hP q_k_0 dX1_add_1 ?_
  refine lv_aload_n C.x C.b dX1_add_4 rfl (lv_at hl 0 rfl) ?_
  refine g_ref (k' := k + 1) F_1_1 u1_135 C hP q_k_0 rfl dX1_add_5 ?_
  refine a_n (v := 12) C hP q_k_1 (by decide) (by first | rfl | decide) dX1_add_8 ?_
  refine lv_icmp_ge (tgt := 32) C.x C.b dX1_add_9 (by decide) (fun c1 => ?_) (fun c1 => ?_)
  · have h := (if_pos c1).symm.trans h
    exact r_v h C hP hS dX1_add_32
  · have h := (if_neg c1).symm.trans h
    refine lv_aload_n C.x C.b dX1_add_12 rfl (lv_at hl 0 rfl) ?_
    refine g_ref (k' := k + 1) F_1_1 u1_135 C hP q_k_0 rfl dX1_add_13 ?_
    refine lv_aload_n C.x C.b dX1_add_16 rfl (lv_at hl 0 rfl) ?_
    refine g_int F_1_0 u1_133 C hP q_k_0 dX1_add_17 ?_
    refine lv_iload_n C.x C.b dX1_add_20 rfl (lv_at hl 1 rfl) ?_
    obtain ⟨g2, h⟩ := grd_some h
    refine as_i C hP hS q_k_1 g2 dX1_add_21 (fun H locs hP hS => ?_)
    obtain ⟨μ3, m_μ3, h⟩ := lt_ex h
    have hP : Wm G μ3 H := by rw [m_μ3]; exact hP
    refine lv_aload_n C.x C.b dX1_add_22 rfl (lv_at hl 0 rfl) ?_
    refine lv_dup C.x C.b dX1_add_23 rfl ?_
    refine g_int F_1_0 u1_133 C hP q_k_0 dX1_add_24 ?_
    refine lv_iconst (v := 1) C.x C.b dX1_add_27 (by decide) ?_
    refine lv_iadd C.x C.b dX1_add_28 ?_
    refine p_int F_1_0 P_1_0 u1_133 C hP hS q_k_0 dX1_add_29 (fun H locs hP hS => ?_)
    obtain ⟨μ4, m_μ4, h⟩ := lt_ex h
    have hP : Wm G μ4 H := by rw [m_μ4]; exact hP
    exact r_v h C hP hS dX1_add_32

set_option maxRecDepth 100000 in
set_option maxHeartbeats 4000000 in
theorem c_X1_add {l : Launch} {G : Gp} (hI : Wi G) {k : Nat} {x1 : Int32} (hA : At sLoop k) {μ : Mem} {μ' : Mem} (h : f_X1_add k x1 μ = some μ') : CV l yX1_add cX1_add 2 none 0 0 G [.ref (G.2.2 k), .int x1] μ μ' :=
  e_all (lv := [(0, .ref (G.2.2 k)), (1, .int x1)]) hI (by decide) (Nat.le_of_ble_eq_true rfl) rfl (fun p e s m args below meth c ls C hP hS hl => b_X1_add C hA h _ _ _ hP hS hl)


def f_X1_pointHome_117 (k : Nat) (x1 : Int32) (a2 : Nat) (n2 : Nat) (q33 : Int32 → Int32 → Mem → Option Mem) (q49 : Int32 → Int32 → Int32 → Mem → Option Mem) (x3 : Int32) (x4 : Int32) (x5 : Int32) (x6 : Int32) (x7 : Int32) (x8 : Int32) (z0 : Int32) (z1 : Int32) (μ : Mem) : Option Mem := if z0 = z1 then (lt (x5 + 1) (fun y9 => q49 x3 x4 y9 μ)) else (if x8 = 0 then (grd (inb x6 6) (lt (st μ (k + 2) x6.toNatClampNeg x7) (fun μ4 => lt (x5 + 1) (fun y5 => q49 1 x4 y5 μ4)))) else (grd (inb x7 6) (lt (st μ (k + 3) x7.toNatClampNeg x6) (fun μ7 => lt (x5 + 1) (fun y8 => q49 1 x4 y8 μ7)))))
set_option maxRecDepth 100000 in
set_option maxHeartbeats 4000000 in
theorem b_X1_pointHome_117 {p : Program} {l : Launch} {e : Env} {s : State} {m : MethodId} {args : Array Value} {below : List Frame} {meth : Method} {c : Code} {G : Gp} {O : Mem} (C : Cx p s m args meth c cX1_pointHome 9 RX1 none G) {k : Nat} {x1 : Int32} {a2 : Nat} {n2 : Nat} (hA : At sLoop k) (hs2 : shp[a2]? = some (.inr (1, n2))) {q33 : Int32 → Int32 → Mem → Option Mem} {q49 : Int32 → Int32 → Int32 → Mem → Option Mem} (hq33 : ∀ (x3 : Int32) (x4 : Int32) (μ : Mem), q33 x3 x4 μ = some O → ∀ (H : Heap) (locs : List Loc) (ls : Array Slot), Wm G μ H → va_S (wA G) s.heap H locs → lv_has ls 9 [(0, .ref (G.2.2 k)), (1, .int x1), (2, .ref (G.2.2 a2)), (3, .int x3), (4, .int x4)] → W p l e (rmm 0 0) s m args below meth c H locs 0 0 (QV below args s G O) (F0 m 33 ls [])) (hq49 : ∀ (x3 : Int32) (x4 : Int32) (x5 : Int32) (μ : Mem), q49 x3 x4 x5 μ = some O → ∀ (H : Heap) (locs : List Loc) (ls : Array Slot), Wm G μ H → va_S (wA G) s.heap H locs → lv_has ls 9 [(0, .ref (G.2.2 k)), (1, .int x1), (2, .ref (G.2.2 a2)), (3, .int x3), (4, .int x4), (5, .int x5)] → W p l e (rmm 0 0) s m args below meth c H locs 0 0 (QV below args s G O) (F0 m 49 ls [])) : ∀ (x3 : Int32) (x4 : Int32) (x5 : Int32) (x6 : Int32) (x7 : Int32) (x8 : Int32) (z0 : Int32) (z1 : Int32) (μ : Mem), f_X1_pointHome_117 k x1 a2 n2 q33 q49 x3 x4 x5 x6 x7 x8 z0 z1 μ = some O → ∀ (H : Heap) (locs : List Loc) (ls : Array Slot), Wm G μ H → va_S (wA G) s.heap H locs → lv_has ls 9 [(0, .ref (G.2.2 k)), (1, .int x1), (2, .ref (G.2.2 a2)), (3, .int x3), (4, .int x4), (5, .int x5), (6, .int x6), (7, .int x7), (8, .int x8)] → W p l e (rmm 0 0) s m args below meth c H locs 0 0 (QV below args s G O) (F0 m 117 ls [.int z1, .int z0]) := by
  intro x3 x4 x5 x6 x7 x8 z0 z1 μ h H locs ls hP hS hl
  unfold f_X1_pointHome_117 at h
  have q_k_0 : shp[k]? = some (.inl (1, fs1)) := hA 0 _ rfl
  have q_k_2 : shp[k + 2]? = some (.inr (0, 6)) := hA 2 _ rfl
  have q_k_3 : shp[k + 3]? = some (.inr (0, 6)) := hA 3 _ rfl
  refine lv_icmp_ne (tgt := 123) C.x C.b dX1_pointHome_117 (by decide) (fun c1 => ?_) (fun c1 => ?_)
  · have h := (if_neg c1).symm.trans h
    refine lv_iload C.x C.b dX1_pointHome_123 (lv_at hl 8 rfl) ?_
    refine lv_if_eq (tgt := 140) C.x C.b dX1_pointHome_125 (by decide) (fun c2 => ?_) (fun c2 => ?_)
    · have h := (if_pos c2).symm.trans h
      refine lv_aload_n C.x C.b dX1_pointHome_140 rfl (lv_at hl 0 rfl) ?_
      refine g_ref (k' := k + 2) F_1_2 u1_137 C hP q_k_0 rfl dX1_pointHome_141 ?_
      refine lv_iload C.x C.b dX1_pointHome_144 (lv_at hl 6 rfl) ?_
      refine lv_iload C.x C.b dX1_pointHome_146 (lv_at hl 7 rfl) ?_
      obtain ⟨g3, h⟩ := grd_some h
      refine as_i C hP hS q_k_2 g3 dX1_pointHome_148 (fun H locs hP hS => ?_)
      obtain ⟨μ4, m_μ4, h⟩ := lt_ex h
      have hP : Wm G μ4 H := by rw [m_μ4]; exact hP
      refine lv_iconst (v := 1) C.x C.b dX1_pointHome_149 (by decide) ?_
      refine lv_istore_n (lv' := [(3, .int 1), (0, .ref (G.2.2 k)), (1, .int x1), (2, .ref (G.2.2 a2)), (4, .int x4), (5, .int x5), (6, .int x6), (7, .int x7), (8, .int x8)]) C.x C.b dX1_pointHome_150 rfl hl (by decide) rfl (fun ls hl => ?_)
      obtain ⟨y5, e_y5, h⟩ := lt_ex h
      refine lv_iinc (v := y5) (lv' := [(5, .int y5), (3, .int 1), (0, .ref (G.2.2 k)), (1, .int x1), (2, .ref (G.2.2 a2)), (4, .int x4), (6, .int x6), (7, .int x7), (8, .int x8)]) C.x C.b dX1_pointHome_151 hl (k := 5) rfl (by rw [e_y5]; rfl) (by decide) rfl (fun ls hl => ?_)
      refine lv_goto (tgt := 49) C.x C.b dX1_pointHome_154 (by decide) ?_
      exact hq49 1 x4 y5 μ4 h _ _ _ hP hS (lv_sub hl [2, 3, 4, 1, 5, 0] rfl)
    · have h := (if_neg c2).symm.trans h
      refine lv_aload_n C.x C.b dX1_pointHome_128 rfl (lv_at hl 0 rfl) ?_
      refine g_ref (k' := k + 3) F_1_3 u1_138 C hP q_k_0 rfl dX1_pointHome_129 ?_
      refine lv_iload C.x C.b dX1_pointHome_132 (lv_at hl 7 rfl) ?_
      refine lv_iload C.x C.b dX1_pointHome_134 (lv_at hl 6 rfl) ?_
      obtain ⟨g6, h⟩ := grd_some h
      refine as_i C hP hS q_k_3 g6 dX1_pointHome_136 (fun H locs hP hS => ?_)
      obtain ⟨μ7, m_μ7, h⟩ := lt_ex h
      have hP : Wm G μ7 H := by rw [m_μ7]; exact hP
      refine lv_goto (tgt := 149) C.x C.b dX1_pointHome_137 (by decide) ?_
      refine lv_iconst (v := 1) C.x C.b dX1_pointHome_149 (by decide) ?_
      refine lv_istore_n (lv' := [(3, .int 1), (0, .ref (G.2.2 k)), (1, .int x1), (2, .ref (G.2.2 a2)), (4, .int x4), (5, .int x5), (6, .int x6), (7, .int x7), (8, .int x8)]) C.x C.b dX1_pointHome_150 rfl hl (by decide) rfl (fun ls hl => ?_)
      obtain ⟨y8, e_y8, h⟩ := lt_ex h
      refine lv_iinc (v := y8) (lv' := [(5, .int y8), (3, .int 1), (0, .ref (G.2.2 k)), (1, .int x1), (2, .ref (G.2.2 a2)), (4, .int x4), (6, .int x6), (7, .int x7), (8, .int x8)]) C.x C.b dX1_pointHome_151 hl (k := 5) rfl (by rw [e_y8]; rfl) (by decide) rfl (fun ls hl => ?_)
      refine lv_goto (tgt := 49) C.x C.b dX1_pointHome_154 (by decide) ?_
      exact hq49 1 x4 y8 μ7 h _ _ _ hP hS (lv_sub hl [2, 3, 4, 1, 5, 0] rfl)
  · have h := (if_pos c1).symm.trans h
    refine lv_goto (tgt := 151) C.x C.b dX1_pointHome_120 (by decide) ?_
    obtain ⟨y9, e_y9, h⟩ := lt_ex h
    refine lv_iinc (v := y9) (lv' := [(5, .int y9), (0, .ref (G.2.2 k)), (1, .int x1), (2, .ref (G.2.2 a2)), (3, .int x3), (4, .int x4), (6, .int x6), (7, .int x7), (8, .int x8)]) C.x C.b dX1_pointHome_151 hl (k := 5) rfl (by rw [e_y9]; rfl) (by decide) rfl (fun ls hl => ?_)
    refine lv_goto (tgt := 49) C.x C.b dX1_pointHome_154 (by decide) ?_
    exact hq49 x3 x4 y9 μ h _ _ _ hP hS (lv_sub hl [1, 2, 3, 4, 5, 0] rfl)

def f_X1_pointHome_91 (k : Nat) (x1 : Int32) (a2 : Nat) (n2 : Nat) (q33 : Int32 → Int32 → Mem → Option Mem) (q49 : Int32 → Int32 → Int32 → Mem → Option Mem) (x3 : Int32) (x4 : Int32) (x5 : Int32) (x6 : Int32) (x7 : Int32) (z0 : Int32) (μ : Mem) : Option Mem := grd (inb x5 n2) (if (μ.1 a2 x5.toNatClampNeg) = 0 then (lt (x5 + 1) (fun y3 => q49 x3 x4 y3 μ)) else (grd (inb x7 6) (if (μ.1 (k + 3) x7.toNatClampNeg) < 0 then (f_X1_pointHome_117 k x1 a2 n2 q33 q49 x3 x4 x5 x6 x7 z0 z0 0 μ) else (f_X1_pointHome_117 k x1 a2 n2 q33 q49 x3 x4 x5 x6 x7 z0 z0 1 μ))))
set_option maxRecDepth 100000 in
set_option maxHeartbeats 4000000 in
theorem b_X1_pointHome_91 {p : Program} {l : Launch} {e : Env} {s : State} {m : MethodId} {args : Array Value} {below : List Frame} {meth : Method} {c : Code} {G : Gp} {O : Mem} (C : Cx p s m args meth c cX1_pointHome 9 RX1 none G) {k : Nat} {x1 : Int32} {a2 : Nat} {n2 : Nat} (hA : At sLoop k) (hs2 : shp[a2]? = some (.inr (1, n2))) {q33 : Int32 → Int32 → Mem → Option Mem} {q49 : Int32 → Int32 → Int32 → Mem → Option Mem} (hq33 : ∀ (x3 : Int32) (x4 : Int32) (μ : Mem), q33 x3 x4 μ = some O → ∀ (H : Heap) (locs : List Loc) (ls : Array Slot), Wm G μ H → va_S (wA G) s.heap H locs → lv_has ls 9 [(0, .ref (G.2.2 k)), (1, .int x1), (2, .ref (G.2.2 a2)), (3, .int x3), (4, .int x4)] → W p l e (rmm 0 0) s m args below meth c H locs 0 0 (QV below args s G O) (F0 m 33 ls [])) (hq49 : ∀ (x3 : Int32) (x4 : Int32) (x5 : Int32) (μ : Mem), q49 x3 x4 x5 μ = some O → ∀ (H : Heap) (locs : List Loc) (ls : Array Slot), Wm G μ H → va_S (wA G) s.heap H locs → lv_has ls 9 [(0, .ref (G.2.2 k)), (1, .int x1), (2, .ref (G.2.2 a2)), (3, .int x3), (4, .int x4), (5, .int x5)] → W p l e (rmm 0 0) s m args below meth c H locs 0 0 (QV below args s G O) (F0 m 49 ls [])) : ∀ (x3 : Int32) (x4 : Int32) (x5 : Int32) (x6 : Int32) (x7 : Int32) (z0 : Int32) (μ : Mem), f_X1_pointHome_91 k x1 a2 n2 q33 q49 x3 x4 x5 x6 x7 z0 μ = some O → ∀ (H : Heap) (locs : List Loc) (ls : Array Slot), Wm G μ H → va_S (wA G) s.heap H locs → lv_has ls 9 [(0, .ref (G.2.2 k)), (1, .int x1), (2, .ref (G.2.2 a2)), (3, .int x3), (4, .int x4), (5, .int x5), (6, .int x6), (7, .int x7)] → W p l e (rmm 0 0) s m args below meth c H locs 0 0 (QV below args s G O) (F0 m 91 ls [.int z0]) := by
  intro x3 x4 x5 x6 x7 z0 μ h H locs ls hP hS hl
  unfold f_X1_pointHome_91 at h
  have q_k_0 : shp[k]? = some (.inl (1, fs1)) := hA 0 _ rfl
  have q_k_3 : shp[k + 3]? = some (.inr (0, 6)) := hA 3 _ rfl
  refine lv_istore (lv' := [(8, .int z0), (0, .ref (G.2.2 k)), (1, .int x1), (2, .ref (G.2.2 a2)), (3, .int x3), (4, .int x4), (5, .int x5), (6, .int x6), (7, .int x7)]) C.x C.b dX1_pointHome_91 hl (by decide) rfl (fun ls hl => ?_)
  refine lv_aload_n C.x C.b dX1_pointHome_93 rfl (lv_at hl 3 rfl) ?_
  refine lv_iload C.x C.b dX1_pointHome_94 (lv_at hl 6 rfl) ?_
  obtain ⟨g1, h⟩ := grd_some h
  refine a_z C hP hs2 g1 dX1_pointHome_96 ?_
  refine lv_if_eq (tgt := 151) C.x C.b dX1_pointHome_97 (by decide) (fun c2 => ?_) (fun c2 => ?_)
  · have h := (if_pos c2).symm.trans h
    obtain ⟨y3, e_y3, h⟩ := lt_ex h
    refine lv_iinc (v := y3) (lv' := [(5, .int y3), (8, .int z0), (0, .ref (G.2.2 k)), (1, .int x1), (2, .ref (G.2.2 a2)), (3, .int x3), (4, .int x4), (6, .int x6), (7, .int x7)]) C.x C.b dX1_pointHome_151 hl (k := 6) rfl (by rw [e_y3]; rfl) (by decide) rfl (fun ls hl => ?_)
    refine lv_goto (tgt := 49) C.x C.b dX1_pointHome_154 (by decide) ?_
    exact hq49 x3 x4 y3 μ h _ _ _ hP hS (lv_sub hl [2, 3, 4, 5, 6, 0] rfl)
  · have h := (if_neg c2).symm.trans h
    refine lv_iload C.x C.b dX1_pointHome_100 (lv_at hl 0 rfl) ?_
    refine lv_aload_n C.x C.b dX1_pointHome_102 rfl (lv_at hl 1 rfl) ?_
    refine g_ref (k' := k + 3) F_1_3 u1_138 C hP q_k_0 rfl dX1_pointHome_103 ?_
    refine lv_iload C.x C.b dX1_pointHome_106 (lv_at hl 8 rfl) ?_
    obtain ⟨g4, h⟩ := grd_some h
    refine a_i C hP q_k_3 g4 dX1_pointHome_108 ?_
    refine lv_if_lt (tgt := 116) C.x C.b dX1_pointHome_109 (by decide) (fun c5 => ?_) (fun c5 => ?_)
    · have h := (if_pos c5).symm.trans h
      refine lv_iconst (v := 0) C.x C.b dX1_pointHome_116 (by decide) ?_
      exact b_X1_pointHome_117 C hA hs2 hq33 hq49 x3 x4 x5 x6 x7 z0 z0 0 μ h _ _ _ hP hS (lv_sub hl [1, 2, 3, 4, 5, 6, 7, 8, 0] rfl)
    · have h := (if_neg c5).symm.trans h
      refine lv_iconst (v := 1) C.x C.b dX1_pointHome_112 (by decide) ?_
      refine lv_goto (tgt := 117) C.x C.b dX1_pointHome_113 (by decide) ?_
      exact b_X1_pointHome_117 C hA hs2 hq33 hq49 x3 x4 x5 x6 x7 z0 z0 1 μ h _ _ _ hP hS (lv_sub hl [1, 2, 3, 4, 5, 6, 7, 8, 0] rfl)

def f_X1_pointHome_86 (k : Nat) (x1 : Int32) (a2 : Nat) (n2 : Nat) (q33 : Int32 → Int32 → Mem → Option Mem) (q49 : Int32 → Int32 → Int32 → Mem → Option Mem) (x3 : Int32) (x4 : Int32) (x5 : Int32) (x6 : Int32) (x7 : Int32) (μ : Mem) : Option Mem := f_X1_pointHome_91 k x1 a2 n2 q33 q49 x3 x4 x5 x6 x7 1 μ
set_option maxRecDepth 100000 in
set_option maxHeartbeats 4000000 in
theorem b_X1_pointHome_86 {p : Program} {l : Launch} {e : Env} {s : State} {m : MethodId} {args : Array Value} {below : List Frame} {meth : Method} {c : Code} {G : Gp} {O : Mem} (C : Cx p s m args meth c cX1_pointHome 9 RX1 none G) {k : Nat} {x1 : Int32} {a2 : Nat} {n2 : Nat} (hA : At sLoop k) (hs2 : shp[a2]? = some (.inr (1, n2))) {q33 : Int32 → Int32 → Mem → Option Mem} {q49 : Int32 → Int32 → Int32 → Mem → Option Mem} (hq33 : ∀ (x3 : Int32) (x4 : Int32) (μ : Mem), q33 x3 x4 μ = some O → ∀ (H : Heap) (locs : List Loc) (ls : Array Slot), Wm G μ H → va_S (wA G) s.heap H locs → lv_has ls 9 [(0, .ref (G.2.2 k)), (1, .int x1), (2, .ref (G.2.2 a2)), (3, .int x3), (4, .int x4)] → W p l e (rmm 0 0) s m args below meth c H locs 0 0 (QV below args s G O) (F0 m 33 ls [])) (hq49 : ∀ (x3 : Int32) (x4 : Int32) (x5 : Int32) (μ : Mem), q49 x3 x4 x5 μ = some O → ∀ (H : Heap) (locs : List Loc) (ls : Array Slot), Wm G μ H → va_S (wA G) s.heap H locs → lv_has ls 9 [(0, .ref (G.2.2 k)), (1, .int x1), (2, .ref (G.2.2 a2)), (3, .int x3), (4, .int x4), (5, .int x5)] → W p l e (rmm 0 0) s m args below meth c H locs 0 0 (QV below args s G O) (F0 m 49 ls [])) : ∀ (x3 : Int32) (x4 : Int32) (x5 : Int32) (x6 : Int32) (x7 : Int32) (μ : Mem), f_X1_pointHome_86 k x1 a2 n2 q33 q49 x3 x4 x5 x6 x7 μ = some O → ∀ (H : Heap) (locs : List Loc) (ls : Array Slot), Wm G μ H → va_S (wA G) s.heap H locs → lv_has ls 9 [(0, .ref (G.2.2 k)), (1, .int x1), (2, .ref (G.2.2 a2)), (3, .int x3), (4, .int x4), (5, .int x5), (6, .int x6), (7, .int x7)] → W p l e (rmm 0 0) s m args below meth c H locs 0 0 (QV below args s G O) (F0 m 86 ls []) := by
  intro x3 x4 x5 x6 x7 μ h H locs ls hP hS hl
  unfold f_X1_pointHome_86 at h
  refine lv_iconst (v := 1) C.x C.b dX1_pointHome_86 (by decide) ?_
  refine lv_goto (tgt := 91) C.x C.b dX1_pointHome_87 (by decide) ?_
  exact b_X1_pointHome_91 C hA hs2 hq33 hq49 x3 x4 x5 x6 x7 1 μ h _ _ _ hP hS (lv_sub hl [0, 1, 2, 3, 4, 5, 6, 7] rfl)

def g_X1_pointHome_49 (k : Nat) (x1 : Int32) (a2 : Nat) (n2 : Nat) (q33 : Int32 → Int32 → Mem → Option Mem) (q49 : Int32 → Int32 → Int32 → Mem → Option Mem) (x3 : Int32) (x4 : Int32) (x5 : Int32) (μ : Mem) : Option Mem := if 36 ≤ x5 then (lt (x4 + 1) (fun y2 => q33 x3 y2 μ)) else (lt (x5 / 6) (fun y3 => lt (rm32 x5 6) (fun y4 => if y3 = x1 then (f_X1_pointHome_86 k x1 a2 n2 q33 q49 x3 x4 x5 y3 y4 μ) else (grd (inb y3 6) (if (μ.1 (k + 2) y3.toNatClampNeg) < 0 then (f_X1_pointHome_91 k x1 a2 n2 q33 q49 x3 x4 x5 y3 y4 0 μ) else (f_X1_pointHome_86 k x1 a2 n2 q33 q49 x3 x4 x5 y3 y4 μ))))))
def f_X1_pointHome_49 (k : Nat) (x1 : Int32) (a2 : Nat) (n2 : Nat) (q33 : Int32 → Int32 → Mem → Option Mem) : Nat → Int32 → Int32 → Int32 → Mem → Option Mem
  | 0, _, _, _, _ => none
  | n + 1, x3, x4, x5, μ => g_X1_pointHome_49 k x1 a2 n2 q33 (f_X1_pointHome_49 k x1 a2 n2 q33 n) x3 x4 x5 μ
set_option maxRecDepth 100000 in
set_option maxHeartbeats 4000000 in
theorem w_X1_pointHome_49 {p : Program} {l : Launch} {e : Env} {s : State} {m : MethodId} {args : Array Value} {below : List Frame} {meth : Method} {c : Code} {G : Gp} {O : Mem} (C : Cx p s m args meth c cX1_pointHome 9 RX1 none G) {k : Nat} {x1 : Int32} {a2 : Nat} {n2 : Nat} (hA : At sLoop k) (hs2 : shp[a2]? = some (.inr (1, n2))) {q33 : Int32 → Int32 → Mem → Option Mem} (hq33 : ∀ (x3 : Int32) (x4 : Int32) (μ : Mem), q33 x3 x4 μ = some O → ∀ (H : Heap) (locs : List Loc) (ls : Array Slot), Wm G μ H → va_S (wA G) s.heap H locs → lv_has ls 9 [(0, .ref (G.2.2 k)), (1, .int x1), (2, .ref (G.2.2 a2)), (3, .int x3), (4, .int x4)] → W p l e (rmm 0 0) s m args below meth c H locs 0 0 (QV below args s G O) (F0 m 33 ls [])) {q49 : Int32 → Int32 → Int32 → Mem → Option Mem} (hq49 : ∀ (x3 : Int32) (x4 : Int32) (x5 : Int32) (μ : Mem), q49 x3 x4 x5 μ = some O → ∀ (H : Heap) (locs : List Loc) (ls : Array Slot), Wm G μ H → va_S (wA G) s.heap H locs → lv_has ls 9 [(0, .ref (G.2.2 k)), (1, .int x1), (2, .ref (G.2.2 a2)), (3, .int x3), (4, .int x4), (5, .int x5)] → W p l e (rmm 0 0) s m args below meth c H locs 0 0 (QV below args s G O) (F0 m 49 ls [])) : ∀ (x3 : Int32) (x4 : Int32) (x5 : Int32) (μ : Mem), g_X1_pointHome_49 k x1 a2 n2 q33 q49 x3 x4 x5 μ = some O → ∀ (H : Heap) (locs : List Loc) (ls : Array Slot), Wm G μ H → va_S (wA G) s.heap H locs → lv_has ls 9 [(0, .ref (G.2.2 k)), (1, .int x1), (2, .ref (G.2.2 a2)), (3, .int x3), (4, .int x4), (5, .int x5)] → W p l e (rmm 0 0) s m args below meth c H locs 0 0 (QV below args s G O) (F0 m 49 ls []) := by
  intro x3 x4 x5 μ h H locs ls hP hS hl
  unfold g_X1_pointHome_49 at h
  have q_k_0 : shp[k]? = some (.inl (1, fs1)) := hA 0 _ rfl
  have q_k_2 : shp[k + 2]? = some (.inr (0, 6)) := hA 2 _ rfl
  refine lv_iload C.x C.b dX1_pointHome_49 (lv_at hl 5 rfl) ?_
  refine lv_bipush (v := 36) C.x C.b dX1_pointHome_51 (by decide) ?_
  refine lv_icmp_ge (tgt := 157) C.x C.b dX1_pointHome_53 (by decide) (fun c1 => ?_) (fun c1 => ?_)
  · have h := (if_pos c1).symm.trans h
    obtain ⟨y2, e_y2, h⟩ := lt_ex h
    refine lv_iinc (v := y2) (lv' := [(4, .int y2), (0, .ref (G.2.2 k)), (1, .int x1), (2, .ref (G.2.2 a2)), (3, .int x3), (5, .int x5)]) C.x C.b dX1_pointHome_157 hl (k := 4) rfl (by rw [e_y2]; rfl) (by decide) rfl (fun ls hl => ?_)
    refine lv_goto (tgt := 33) C.x C.b dX1_pointHome_160 (by decide) ?_
    exact hq33 x3 y2 μ h _ _ _ hP hS (lv_sub hl [1, 2, 3, 4, 0] rfl)
  · have h := (if_neg c1).symm.trans h
    refine lv_iload C.x C.b dX1_pointHome_56 (lv_at hl 5 rfl) ?_
    refine lv_bipush (v := 6) C.x C.b dX1_pointHome_58 (by decide) ?_
    refine lv_idiv C.x C.b dX1_pointHome_60 (by decide) ?_
    refine lv_topi (fun y3 e_y3 => ?_)
    have h := lt_at h e_y3
    refine lv_istore (lv' := [(6, .int y3), (0, .ref (G.2.2 k)), (1, .int x1), (2, .ref (G.2.2 a2)), (3, .int x3), (4, .int x4), (5, .int x5)]) C.x C.b dX1_pointHome_61 hl (by decide) rfl (fun ls hl => ?_)
    refine lv_iload C.x C.b dX1_pointHome_63 (lv_at hl 6 rfl) ?_
    refine lv_bipush (v := 6) C.x C.b dX1_pointHome_65 (by decide) ?_
    refine lv_irem C.x C.b dX1_pointHome_67 (by decide) ?_
    refine lv_topi (fun y4 e_y4 => ?_)
    have h := lt_at h e_y4
    refine lv_istore (lv' := [(7, .int y4), (6, .int y3), (0, .ref (G.2.2 k)), (1, .int x1), (2, .ref (G.2.2 a2)), (3, .int x3), (4, .int x4), (5, .int x5)]) C.x C.b dX1_pointHome_68 hl (by decide) rfl (fun ls hl => ?_)
    refine lv_iload C.x C.b dX1_pointHome_70 (lv_at hl 1 rfl) ?_
    refine lv_iload_n C.x C.b dX1_pointHome_72 rfl (lv_at hl 3 rfl) ?_
    refine lv_icmp_eq (tgt := 86) C.x C.b dX1_pointHome_73 (by decide) (fun c5 => ?_) (fun c5 => ?_)
    · have h := (if_pos c5).symm.trans h
      exact b_X1_pointHome_86 C hA hs2 hq33 hq49 x3 x4 x5 y3 y4 μ h _ _ _ hP hS (lv_sub hl [2, 3, 4, 5, 6, 7, 1, 0] rfl)
    · have h := (if_neg c5).symm.trans h
      refine lv_aload_n C.x C.b dX1_pointHome_76 rfl (lv_at hl 2 rfl) ?_
      refine g_ref (k' := k + 2) F_1_2 u1_137 C hP q_k_0 rfl dX1_pointHome_77 ?_
      refine lv_iload C.x C.b dX1_pointHome_80 (lv_at hl 1 rfl) ?_
      obtain ⟨g6, h⟩ := grd_some h
      refine a_i C hP q_k_2 g6 dX1_pointHome_82 ?_
      refine lv_if_lt (tgt := 90) C.x C.b dX1_pointHome_83 (by decide) (fun c7 => ?_) (fun c7 => ?_)
      · have h := (if_pos c7).symm.trans h
        refine lv_iconst (v := 0) C.x C.b dX1_pointHome_90 (by decide) ?_
        exact b_X1_pointHome_91 C hA hs2 hq33 hq49 x3 x4 x5 y3 y4 0 μ h _ _ _ hP hS (lv_sub hl [2, 3, 4, 5, 6, 7, 1, 0] rfl)
      · have h := (if_neg c7).symm.trans h
        exact b_X1_pointHome_86 C hA hs2 hq33 hq49 x3 x4 x5 y3 y4 μ h _ _ _ hP hS (lv_sub hl [2, 3, 4, 5, 6, 7, 1, 0] rfl)

set_option maxRecDepth 100000 in
set_option maxHeartbeats 4000000 in
theorem b_X1_pointHome_49 {p : Program} {l : Launch} {e : Env} {s : State} {m : MethodId} {args : Array Value} {below : List Frame} {meth : Method} {c : Code} {G : Gp} {O : Mem} (C : Cx p s m args meth c cX1_pointHome 9 RX1 none G) {k : Nat} {x1 : Int32} {a2 : Nat} {n2 : Nat} (hA : At sLoop k) (hs2 : shp[a2]? = some (.inr (1, n2))) {q33 : Int32 → Int32 → Mem → Option Mem} (hq33 : ∀ (x3 : Int32) (x4 : Int32) (μ : Mem), q33 x3 x4 μ = some O → ∀ (H : Heap) (locs : List Loc) (ls : Array Slot), Wm G μ H → va_S (wA G) s.heap H locs → lv_has ls 9 [(0, .ref (G.2.2 k)), (1, .int x1), (2, .ref (G.2.2 a2)), (3, .int x3), (4, .int x4)] → W p l e (rmm 0 0) s m args below meth c H locs 0 0 (QV below args s G O) (F0 m 33 ls [])) : ∀ (n : Nat) (x3 : Int32) (x4 : Int32) (x5 : Int32) (μ : Mem), f_X1_pointHome_49 k x1 a2 n2 q33 n x3 x4 x5 μ = some O → ∀ (H : Heap) (locs : List Loc) (ls : Array Slot), Wm G μ H → va_S (wA G) s.heap H locs → lv_has ls 9 [(0, .ref (G.2.2 k)), (1, .int x1), (2, .ref (G.2.2 a2)), (3, .int x3), (4, .int x4), (5, .int x5)] → W p l e (rmm 0 0) s m args below meth c H locs 0 0 (QV below args s G O) (F0 m 49 ls []) := by
  intro n
  induction n with
  | zero => intro x3 x4 x5 μ h; cases h
  | succ n ih => intro x3 x4 x5 μ h; exact w_X1_pointHome_49 C hA hs2 hq33 (q49 := f_X1_pointHome_49 k x1 a2 n2 q33 n) ih x3 x4 x5 μ h

def g_X1_pointHome_33 (k : Nat) (x1 : Int32) (a2 : Nat) (n2 : Nat)  (q33 : Int32 → Int32 → Mem → Option Mem) (x3 : Int32) (x4 : Int32) (μ : Mem) : Option Mem := if 12 ≤ x4 then (some μ) else (if x3 = 0 then (some μ) else (f_X1_pointHome_49 k x1 a2 n2 q33 FU 0 x4 0 μ))
def f_X1_pointHome_33 (k : Nat) (x1 : Int32) (a2 : Nat) (n2 : Nat)  : Nat → Int32 → Int32 → Mem → Option Mem
  | 0, _, _, _ => none
  | n + 1, x3, x4, μ => g_X1_pointHome_33 k x1 a2 n2 (f_X1_pointHome_33 k x1 a2 n2 n) x3 x4 μ
set_option maxRecDepth 100000 in
set_option maxHeartbeats 4000000 in
theorem w_X1_pointHome_33 {p : Program} {l : Launch} {e : Env} {s : State} {m : MethodId} {args : Array Value} {below : List Frame} {meth : Method} {c : Code} {G : Gp} {O : Mem} (C : Cx p s m args meth c cX1_pointHome 9 RX1 none G) {k : Nat} {x1 : Int32} {a2 : Nat} {n2 : Nat} (hA : At sLoop k) (hs2 : shp[a2]? = some (.inr (1, n2))) {q33 : Int32 → Int32 → Mem → Option Mem} (hq33 : ∀ (x3 : Int32) (x4 : Int32) (μ : Mem), q33 x3 x4 μ = some O → ∀ (H : Heap) (locs : List Loc) (ls : Array Slot), Wm G μ H → va_S (wA G) s.heap H locs → lv_has ls 9 [(0, .ref (G.2.2 k)), (1, .int x1), (2, .ref (G.2.2 a2)), (3, .int x3), (4, .int x4)] → W p l e (rmm 0 0) s m args below meth c H locs 0 0 (QV below args s G O) (F0 m 33 ls [])) : ∀ (x3 : Int32) (x4 : Int32) (μ : Mem), g_X1_pointHome_33 k x1 a2 n2 q33 x3 x4 μ = some O → ∀ (H : Heap) (locs : List Loc) (ls : Array Slot), Wm G μ H → va_S (wA G) s.heap H locs → lv_has ls 9 [(0, .ref (G.2.2 k)), (1, .int x1), (2, .ref (G.2.2 a2)), (3, .int x3), (4, .int x4)] → W p l e (rmm 0 0) s m args below meth c H locs 0 0 (QV below args s G O) (F0 m 33 ls []) := by
  intro x3 x4 μ h H locs ls hP hS hl
  unfold g_X1_pointHome_33 at h
  refine lv_iload C.x C.b dX1_pointHome_33 (lv_at hl 4 rfl) ?_
  refine lv_bipush (v := 12) C.x C.b dX1_pointHome_35 (by decide) ?_
  refine lv_icmp_ge (tgt := 163) C.x C.b dX1_pointHome_37 (by decide) (fun c1 => ?_) (fun c1 => ?_)
  · have h := (if_pos c1).symm.trans h
    exact r_v h C hP hS dX1_pointHome_163
  · have h := (if_neg c1).symm.trans h
    refine lv_iload_n C.x C.b dX1_pointHome_40 rfl (lv_at hl 3 rfl) ?_
    refine lv_if_eq (tgt := 163) C.x C.b dX1_pointHome_41 (by decide) (fun c2 => ?_) (fun c2 => ?_)
    · have h := (if_pos c2).symm.trans h
      exact r_v h C hP hS dX1_pointHome_163
    · have h := (if_neg c2).symm.trans h
      refine lv_iconst (v := 0) C.x C.b dX1_pointHome_44 (by decide) ?_
      refine lv_istore_n (lv' := [(3, .int 0), (0, .ref (G.2.2 k)), (1, .int x1), (2, .ref (G.2.2 a2)), (4, .int x4)]) C.x C.b dX1_pointHome_45 rfl hl (by decide) rfl (fun ls hl => ?_)
      refine lv_iconst (v := 0) C.x C.b dX1_pointHome_46 (by decide) ?_
      refine lv_istore (lv' := [(5, .int 0), (3, .int 0), (0, .ref (G.2.2 k)), (1, .int x1), (2, .ref (G.2.2 a2)), (4, .int x4)]) C.x C.b dX1_pointHome_47 hl (by decide) rfl (fun ls hl => ?_)
      exact b_X1_pointHome_49 C hA hs2 hq33 FU 0 x4 0 μ h _ _ _ hP hS (lv_sub hl [2, 3, 4, 1, 5, 0] rfl)

set_option maxRecDepth 100000 in
set_option maxHeartbeats 4000000 in
theorem b_X1_pointHome_33 {p : Program} {l : Launch} {e : Env} {s : State} {m : MethodId} {args : Array Value} {below : List Frame} {meth : Method} {c : Code} {G : Gp} {O : Mem} (C : Cx p s m args meth c cX1_pointHome 9 RX1 none G) {k : Nat} {x1 : Int32} {a2 : Nat} {n2 : Nat} (hA : At sLoop k) (hs2 : shp[a2]? = some (.inr (1, n2))) : ∀ (n : Nat) (x3 : Int32) (x4 : Int32) (μ : Mem), f_X1_pointHome_33 k x1 a2 n2 n x3 x4 μ = some O → ∀ (H : Heap) (locs : List Loc) (ls : Array Slot), Wm G μ H → va_S (wA G) s.heap H locs → lv_has ls 9 [(0, .ref (G.2.2 k)), (1, .int x1), (2, .ref (G.2.2 a2)), (3, .int x3), (4, .int x4)] → W p l e (rmm 0 0) s m args below meth c H locs 0 0 (QV below args s G O) (F0 m 33 ls []) := by
  intro n
  induction n with
  | zero => intro x3 x4 μ h; cases h
  | succ n ih => intro x3 x4 μ h; exact w_X1_pointHome_33 C hA hs2 (q33 := f_X1_pointHome_33 k x1 a2 n2 n) ih x3 x4 μ h

def g_X1_pointHome_2 (k : Nat) (x1 : Int32) (a2 : Nat) (n2 : Nat)  (q2 : Int32 → Mem → Option Mem) (x3 : Int32) (μ : Mem) : Option Mem := if 6 ≤ x3 then (f_X1_pointHome_33 k x1 a2 n2 FU 1 0 μ) else (grd (inb x3 6) (lt (st μ (k + 2) x3.toNatClampNeg ((-1))) (fun μ3 => grd (inb x3 6) (lt (st μ3 (k + 3) x3.toNatClampNeg ((-1))) (fun μ5 => lt (x3 + 1) (fun y6 => q2 y6 μ5))))))
def f_X1_pointHome_2 (k : Nat) (x1 : Int32) (a2 : Nat) (n2 : Nat)  : Nat → Int32 → Mem → Option Mem
  | 0, _, _ => none
  | n + 1, x3, μ => g_X1_pointHome_2 k x1 a2 n2 (f_X1_pointHome_2 k x1 a2 n2 n) x3 μ
set_option maxRecDepth 100000 in
set_option maxHeartbeats 4000000 in
theorem w_X1_pointHome_2 {p : Program} {l : Launch} {e : Env} {s : State} {m : MethodId} {args : Array Value} {below : List Frame} {meth : Method} {c : Code} {G : Gp} {O : Mem} (C : Cx p s m args meth c cX1_pointHome 9 RX1 none G) {k : Nat} {x1 : Int32} {a2 : Nat} {n2 : Nat} (hA : At sLoop k) (hs2 : shp[a2]? = some (.inr (1, n2))) {q2 : Int32 → Mem → Option Mem} (hq2 : ∀ (x3 : Int32) (μ : Mem), q2 x3 μ = some O → ∀ (H : Heap) (locs : List Loc) (ls : Array Slot), Wm G μ H → va_S (wA G) s.heap H locs → lv_has ls 9 [(0, .ref (G.2.2 k)), (1, .int x1), (2, .ref (G.2.2 a2)), (3, .int x3)] → W p l e (rmm 0 0) s m args below meth c H locs 0 0 (QV below args s G O) (F0 m 2 ls [])) : ∀ (x3 : Int32) (μ : Mem), g_X1_pointHome_2 k x1 a2 n2 q2 x3 μ = some O → ∀ (H : Heap) (locs : List Loc) (ls : Array Slot), Wm G μ H → va_S (wA G) s.heap H locs → lv_has ls 9 [(0, .ref (G.2.2 k)), (1, .int x1), (2, .ref (G.2.2 a2)), (3, .int x3)] → W p l e (rmm 0 0) s m args below meth c H locs 0 0 (QV below args s G O) (F0 m 2 ls []) := by
  intro x3 μ h H locs ls hP hS hl
  unfold g_X1_pointHome_2 at h
  have q_k_0 : shp[k]? = some (.inl (1, fs1)) := hA 0 _ rfl
  have q_k_2 : shp[k + 2]? = some (.inr (0, 6)) := hA 2 _ rfl
  have q_k_3 : shp[k + 3]? = some (.inr (0, 6)) := hA 3 _ rfl
  refine lv_iload_n C.x C.b dX1_pointHome_2 rfl (lv_at hl 3 rfl) ?_
  refine lv_bipush (v := 6) C.x C.b dX1_pointHome_3 (by decide) ?_
  refine lv_icmp_ge (tgt := 28) C.x C.b dX1_pointHome_5 (by decide) (fun c1 => ?_) (fun c1 => ?_)
  · have h := (if_pos c1).symm.trans h
    refine lv_iconst (v := 1) C.x C.b dX1_pointHome_28 (by decide) ?_
    refine lv_istore_n (lv' := [(3, .int 1), (0, .ref (G.2.2 k)), (1, .int x1), (2, .ref (G.2.2 a2))]) C.x C.b dX1_pointHome_29 rfl hl (by decide) rfl (fun ls hl => ?_)
    refine lv_iconst (v := 0) C.x C.b dX1_pointHome_30 (by decide) ?_
    refine lv_istore (lv' := [(4, .int 0), (3, .int 1), (0, .ref (G.2.2 k)), (1, .int x1), (2, .ref (G.2.2 a2))]) C.x C.b dX1_pointHome_31 hl (by decide) rfl (fun ls hl => ?_)
    exact b_X1_pointHome_33 C hA hs2 FU 1 0 μ h _ _ _ hP hS (lv_sub hl [2, 3, 4, 1, 0] rfl)
  · have h := (if_neg c1).symm.trans h
    refine lv_aload_n C.x C.b dX1_pointHome_8 rfl (lv_at hl 0 rfl) ?_
    refine g_ref (k' := k + 2) F_1_2 u1_137 C hP q_k_0 rfl dX1_pointHome_9 ?_
    refine lv_iload_n C.x C.b dX1_pointHome_12 rfl (lv_at hl 3 rfl) ?_
    refine lv_iconst (v := (-1)) C.x C.b dX1_pointHome_13 (by decide) ?_
    obtain ⟨g2, h⟩ := grd_some h
    refine as_i C hP hS q_k_2 g2 dX1_pointHome_14 (fun H locs hP hS => ?_)
    obtain ⟨μ3, m_μ3, h⟩ := lt_ex h
    have hP : Wm G μ3 H := by rw [m_μ3]; exact hP
    refine lv_aload_n C.x C.b dX1_pointHome_15 rfl (lv_at hl 0 rfl) ?_
    refine g_ref (k' := k + 3) F_1_3 u1_138 C hP q_k_0 rfl dX1_pointHome_16 ?_
    refine lv_iload_n C.x C.b dX1_pointHome_19 rfl (lv_at hl 3 rfl) ?_
    refine lv_iconst (v := (-1)) C.x C.b dX1_pointHome_20 (by decide) ?_
    obtain ⟨g4, h⟩ := grd_some h
    refine as_i C hP hS q_k_3 g4 dX1_pointHome_21 (fun H locs hP hS => ?_)
    obtain ⟨μ5, m_μ5, h⟩ := lt_ex h
    have hP : Wm G μ5 H := by rw [m_μ5]; exact hP
    obtain ⟨y6, e_y6, h⟩ := lt_ex h
    refine lv_iinc (v := y6) (lv' := [(3, .int y6), (0, .ref (G.2.2 k)), (1, .int x1), (2, .ref (G.2.2 a2))]) C.x C.b dX1_pointHome_22 hl (k := 3) rfl (by rw [e_y6]; rfl) (by decide) rfl (fun ls hl => ?_)
    refine lv_goto (tgt := 2) C.x C.b dX1_pointHome_25 (by decide) ?_
    exact hq2 y6 μ5 h _ _ _ hP hS (lv_sub hl [1, 2, 3, 0] rfl)

set_option maxRecDepth 100000 in
set_option maxHeartbeats 4000000 in
theorem b_X1_pointHome_2 {p : Program} {l : Launch} {e : Env} {s : State} {m : MethodId} {args : Array Value} {below : List Frame} {meth : Method} {c : Code} {G : Gp} {O : Mem} (C : Cx p s m args meth c cX1_pointHome 9 RX1 none G) {k : Nat} {x1 : Int32} {a2 : Nat} {n2 : Nat} (hA : At sLoop k) (hs2 : shp[a2]? = some (.inr (1, n2))) : ∀ (n : Nat) (x3 : Int32) (μ : Mem), f_X1_pointHome_2 k x1 a2 n2 n x3 μ = some O → ∀ (H : Heap) (locs : List Loc) (ls : Array Slot), Wm G μ H → va_S (wA G) s.heap H locs → lv_has ls 9 [(0, .ref (G.2.2 k)), (1, .int x1), (2, .ref (G.2.2 a2)), (3, .int x3)] → W p l e (rmm 0 0) s m args below meth c H locs 0 0 (QV below args s G O) (F0 m 2 ls []) := by
  intro n
  induction n with
  | zero => intro x3 μ h; cases h
  | succ n ih => intro x3 μ h; exact w_X1_pointHome_2 C hA hs2 (q2 := f_X1_pointHome_2 k x1 a2 n2 n) ih x3 μ h

def f_X1_pointHome (k : Nat) (x1 : Int32) (a2 : Nat) (n2 : Nat) (μ : Mem) : Option Mem := f_X1_pointHome_2 k x1 a2 n2 FU 0 μ
set_option maxRecDepth 100000 in
set_option maxHeartbeats 4000000 in
theorem b_X1_pointHome {p : Program} {l : Launch} {e : Env} {s : State} {m : MethodId} {args : Array Value} {below : List Frame} {meth : Method} {c : Code} {G : Gp} {O : Mem} (C : Cx p s m args meth c cX1_pointHome 9 RX1 none G) {k : Nat} {x1 : Int32} {a2 : Nat} {n2 : Nat} (hA : At sLoop k) (hs2 : shp[a2]? = some (.inr (1, n2))) {μ : Mem} (h : f_X1_pointHome k x1 a2 n2 μ = some O) : ∀ (H : Heap) (locs : List Loc) (ls : Array Slot), Wm G μ H → va_S (wA G) s.heap H locs → lv_has ls 9 [(0, .ref (G.2.2 k)), (1, .int x1), (2, .ref (G.2.2 a2))] → W p l e (rmm 0 0) s m args below meth c H locs 0 0 (QV below args s G O) (F0 m 0 ls []) := by
  unfold f_X1_pointHome at h
  intro H locs ls hP hS hl
  refine lv_iconst (v := 0) C.x C.b dX1_pointHome_0 (by decide) ?_
  refine lv_istore_n (lv' := [(3, .int 0), (0, .ref (G.2.2 k)), (1, .int x1), (2, .ref (G.2.2 a2))]) C.x C.b dX1_pointHome_1 rfl hl (by decide) rfl (fun ls hl => ?_)
  exact b_X1_pointHome_2 C hA hs2 FU 0 μ h _ _ _ hP hS (lv_sub hl [1, 2, 3, 0] rfl)

set_option maxRecDepth 100000 in
set_option maxHeartbeats 4000000 in
theorem c_X1_pointHome {l : Launch} {G : Gp} (hI : Wi G) {k : Nat} {x1 : Int32} {a2 : Nat} {n2 : Nat} (hA : At sLoop k) (hs2 : shp[a2]? = some (.inr (1, n2))) {μ : Mem} {μ' : Mem} (h : f_X1_pointHome k x1 a2 n2 μ = some μ') : CV l yX1_pointHome cX1_pointHome 9 none 0 0 G [.ref (G.2.2 k), .int x1, .ref (G.2.2 a2)] μ μ' :=
  e_all (lv := [(0, .ref (G.2.2 k)), (1, .int x1), (2, .ref (G.2.2 a2))]) hI (by decide) (Nat.le_of_ble_eq_true rfl) rfl (fun p e s m args below meth c ls C hP hS hl => b_X1_pointHome C hA hs2 h _ _ _ hP hS hl)


def f_X8_cellAt (x0 : Int32) (x1 : Int32) (μ : Mem) : Option Int32 := some ((x0 * 6) + x1)
set_option maxRecDepth 100000 in
set_option maxHeartbeats 4000000 in
theorem b_X8_cellAt {p : Program} {l : Launch} {e : Env} {s : State} {m : MethodId} {args : Array Value} {below : List Frame} {meth : Method} {c : Code} {G : Gp} {O : Int32} (C : Cx p s m args meth c cX8_cellAt 2 RX8 (some .int) G) {x0 : Int32} {x1 : Int32} {μ : Mem} (h : f_X8_cellAt x0 x1 μ = some O) : ∀ (H : Heap) (locs : List Loc) (ls : Array Slot), Wm G μ H → va_S (wA G) s.heap H locs → lv_has ls 2 [(0, .int x0), (1, .int x1)] → W p l e (rmm 0 0) s m args below meth c H locs 0 0 (QI below args s G (O, μ)) (F0 m 0 ls []) := by
  unfold f_X8_cellAt at h
  intro H locs ls hP hS hl
  refine lv_iload_n C.x C.b dX8_cellAt_0 rfl (lv_at hl 0 rfl) ?_
  refine lv_bipush (v := 6) C.x C.b dX8_cellAt_1 (by decide) ?_
  refine lv_imul C.x C.b dX8_cellAt_3 ?_
  refine lv_iload_n C.x C.b dX8_cellAt_4 rfl (lv_at hl 1 rfl) ?_
  refine lv_iadd C.x C.b dX8_cellAt_5 ?_
  exact r_i (pr_some h) C hP hS dX8_cellAt_6

set_option maxRecDepth 100000 in
set_option maxHeartbeats 4000000 in
theorem c_X8_cellAt {l : Launch} {G : Gp} (hI : Wi G) {x0 : Int32} {x1 : Int32} {μ : Mem} {r : Int32} (h : f_X8_cellAt x0 x1 μ = some r) : CI l yX8_cellAt cX8_cellAt 2 (some .int) 0 0 G [.int x0, .int x1] μ r μ :=
  e_all (lv := [(0, .int x0), (1, .int x1)]) hI (by decide) (Nat.le_of_ble_eq_true rfl) rfl (fun p e s m args below meth c ls C hP hS hl => b_X8_cellAt C h _ _ _ hP hS hl)


def g_X1_follow_30 (k : Nat) (x1 : Int32) (a2 : Nat) (n2 : Nat)  (q30 : Int32 → Int32 → Int32 → Mem → Option Mem) (x3 : Int32) (x4 : Int32) (x5 : Int32) (μ : Mem) : Option Mem := if 6 ≤ x5 then (some μ) else (grd (inb x4 6) (if (μ.1 (k + 3) x4.toNatClampNeg) < 0 then (some μ) else (grd (inb x4 6) (lt (μ.1 (k + 3) x4.toNatClampNeg) (fun y5 => bnv (f_X8_cellAt y5 x4 μ) (fun r7 => bnv (f_X1_add k r7 μ) (fun μ9 => if y5 = x3 then (some μ9) else (grd (inb y5 6) (if 0 ≤ (μ9.1 (k + 2) y5.toNatClampNeg) then (grd (inb y5 6) (lt (μ9.1 (k + 2) y5.toNatClampNeg) (fun y14 => bnv (f_X8_cellAt y5 y14 μ9) (fun r16 => bnv (f_X1_add k r16 μ9) (fun μ18 => lt (x5 + 1) (fun y19 => q30 x3 y14 y19 μ18)))))) else (some μ9))))))))))
def f_X1_follow_30 (k : Nat) (x1 : Int32) (a2 : Nat) (n2 : Nat)  : Nat → Int32 → Int32 → Int32 → Mem → Option Mem
  | 0, _, _, _, _ => none
  | n + 1, x3, x4, x5, μ => g_X1_follow_30 k x1 a2 n2 (f_X1_follow_30 k x1 a2 n2 n) x3 x4 x5 μ
set_option maxRecDepth 100000 in
set_option maxHeartbeats 4000000 in
theorem w_X1_follow_30 {p : Program} {l : Launch} {e : Env} {s : State} {m : MethodId} {args : Array Value} {below : List Frame} {meth : Method} {c : Code} {G : Gp} {O : Mem} (C : Cx p s m args meth c cX1_follow 7 RX1 none G) {k : Nat} {x1 : Int32} {a2 : Nat} {n2 : Nat} (hA : At sLoop k) (hs2 : shp[a2]? = some (.inr (1, n2))) {q30 : Int32 → Int32 → Int32 → Mem → Option Mem} (hq30 : ∀ (x3 : Int32) (x4 : Int32) (x5 : Int32) (μ : Mem), q30 x3 x4 x5 μ = some O → ∀ (H : Heap) (locs : List Loc) (ls : Array Slot), Wm G μ H → va_S (wA G) s.heap H locs → lv_has ls 7 [(0, .ref (G.2.2 k)), (3, .int x3), (4, .int x4), (5, .int x5)] → W p l e (rmm 1 28) s m args below meth c H locs 0 0 (QV below args s G O) (F0 m 30 ls [])) : ∀ (x3 : Int32) (x4 : Int32) (x5 : Int32) (μ : Mem), g_X1_follow_30 k x1 a2 n2 q30 x3 x4 x5 μ = some O → ∀ (H : Heap) (locs : List Loc) (ls : Array Slot), Wm G μ H → va_S (wA G) s.heap H locs → lv_has ls 7 [(0, .ref (G.2.2 k)), (3, .int x3), (4, .int x4), (5, .int x5)] → W p l e (rmm 1 28) s m args below meth c H locs 0 0 (QV below args s G O) (F0 m 30 ls []) := by
  intro x3 x4 x5 μ h H locs ls hP hS hl
  unfold g_X1_follow_30 at h
  have q_k_0 : shp[k]? = some (.inl (1, fs1)) := hA 0 _ rfl
  have q_k_2 : shp[k + 2]? = some (.inr (0, 6)) := hA 2 _ rfl
  have q_k_3 : shp[k + 3]? = some (.inr (0, 6)) := hA 3 _ rfl
  refine lv_iload C.x C.b dX1_follow_30 (lv_at hl 3 rfl) ?_
  refine lv_bipush (v := 6) C.x C.b dX1_follow_32 (by decide) ?_
  refine lv_icmp_ge (tgt := 110) C.x C.b dX1_follow_34 (by decide) (fun c1 => ?_) (fun c1 => ?_)
  · have h := (if_pos c1).symm.trans h
    exact r_v h C hP hS dX1_follow_110
  · have h := (if_neg c1).symm.trans h
    refine lv_aload_n C.x C.b dX1_follow_37 rfl (lv_at hl 0 rfl) ?_
    refine g_ref (k' := k + 3) F_1_3 u1_138 C hP q_k_0 rfl dX1_follow_38 ?_
    refine lv_iload C.x C.b dX1_follow_41 (lv_at hl 2 rfl) ?_
    obtain ⟨g2, h⟩ := grd_some h
    refine a_i C hP q_k_3 g2 dX1_follow_43 ?_
    refine lv_if_lt (tgt := 110) C.x C.b dX1_follow_44 (by decide) (fun c3 => ?_) (fun c3 => ?_)
    · have h := (if_pos c3).symm.trans h
      exact r_v h C hP hS dX1_follow_110
    · have h := (if_neg c3).symm.trans h
      refine lv_aload_n C.x C.b dX1_follow_47 rfl (lv_at hl 0 rfl) ?_
      refine g_ref (k' := k + 3) F_1_3 u1_138 C hP q_k_0 rfl dX1_follow_48 ?_
      refine lv_iload C.x C.b dX1_follow_51 (lv_at hl 2 rfl) ?_
      obtain ⟨g4, h⟩ := grd_some h
      refine a_i C hP q_k_3 g4 dX1_follow_53 ?_
      refine lv_topi (fun y5 e_y5 => ?_)
      have h := lt_at h e_y5
      refine lv_istore (lv' := [(6, .int y5), (0, .ref (G.2.2 k)), (3, .int x3), (4, .int x4), (5, .int x5)]) C.x C.b dX1_follow_54 hl (by decide) rfl (fun ls hl => ?_)
      refine lv_aload_n C.x C.b dX1_follow_56 rfl (lv_at hl 1 rfl) ?_
      refine lv_iload C.x C.b dX1_follow_57 (lv_at hl 0 rfl) ?_
      refine lv_iload C.x C.b dX1_follow_59 (lv_at hl 3 rfl) ?_
      obtain ⟨r7, e6, h⟩ := bnv_some h
      refine k_ni (as := [.int y5, .int x4]) (rest := [.ref (G.2.2 k)]) (c_X8_cellAt C.i e6) M_X8_cellAt n_RX1_33 C hP hS rfl (by decide) hl.1 rfl (Nat.le_of_ble_eq_true rfl) dX1_follow_61 (fun H locs hP hS => ?_)
      obtain ⟨μ9, e8, h⟩ := bnv_some h
      refine k_vv (k := k) (as := [.int r7]) (rest := []) (c_X1_add C.i hA e8) M_X1_add u3_84 C hP hS q_k_0 rfl rfl (by decide) hl.1 rfl (Nat.le_of_ble_eq_true rfl) dX1_follow_64 (fun H locs hP hS => ?_)
      refine lv_iload C.x C.b dX1_follow_67 (lv_at hl 0 rfl) ?_
      refine lv_iload_n C.x C.b dX1_follow_69 rfl (lv_at hl 2 rfl) ?_
      refine lv_icmp_eq (tgt := 83) C.x C.b dX1_follow_70 (by decide) (fun c10 => ?_) (fun c10 => ?_)
      · have h := (if_pos c10).symm.trans h
        exact r_v h C hP hS dX1_follow_83
      · have h := (if_neg c10).symm.trans h
        refine lv_aload_n C.x C.b dX1_follow_73 rfl (lv_at hl 1 rfl) ?_
        refine g_ref (k' := k + 2) F_1_2 u1_137 C hP q_k_0 rfl dX1_follow_74 ?_
        refine lv_iload C.x C.b dX1_follow_77 (lv_at hl 0 rfl) ?_
        obtain ⟨g11, h⟩ := grd_some h
        refine a_i C hP q_k_2 g11 dX1_follow_79 ?_
        refine lv_if_ge (tgt := 84) C.x C.b dX1_follow_80 (by decide) (fun c12 => ?_) (fun c12 => ?_)
        · have h := (if_pos c12).symm.trans h
          refine lv_aload_n C.x C.b dX1_follow_84 rfl (lv_at hl 1 rfl) ?_
          refine g_ref (k' := k + 2) F_1_2 u1_137 C hP q_k_0 rfl dX1_follow_85 ?_
          refine lv_iload C.x C.b dX1_follow_88 (lv_at hl 0 rfl) ?_
          obtain ⟨g13, h⟩ := grd_some h
          refine a_i C hP q_k_2 g13 dX1_follow_90 ?_
          refine lv_topi (fun y14 e_y14 => ?_)
          have h := lt_at h e_y14
          refine lv_istore (lv' := [(4, .int y14), (6, .int y5), (0, .ref (G.2.2 k)), (3, .int x3), (5, .int x5)]) C.x C.b dX1_follow_91 hl (by decide) rfl (fun ls hl => ?_)
          refine lv_aload_n C.x C.b dX1_follow_93 rfl (lv_at hl 2 rfl) ?_
          refine lv_iload C.x C.b dX1_follow_94 (lv_at hl 1 rfl) ?_
          refine lv_iload C.x C.b dX1_follow_96 (lv_at hl 0 rfl) ?_
          obtain ⟨r16, e15, h⟩ := bnv_some h
          refine k_ni (as := [.int y5, .int y14]) (rest := [.ref (G.2.2 k)]) (c_X8_cellAt C.i e15) M_X8_cellAt n_RX1_33 C hP hS rfl (by decide) hl.1 rfl (Nat.le_of_ble_eq_true rfl) dX1_follow_98 (fun H locs hP hS => ?_)
          obtain ⟨μ18, e17, h⟩ := bnv_some h
          refine k_vv (k := k) (as := [.int r16]) (rest := []) (c_X1_add C.i hA e17) M_X1_add u3_84 C hP hS q_k_0 rfl rfl (by decide) hl.1 rfl (Nat.le_of_ble_eq_true rfl) dX1_follow_101 (fun H locs hP hS => ?_)
          obtain ⟨y19, e_y19, h⟩ := lt_ex h
          refine lv_iinc (v := y19) (lv' := [(5, .int y19), (4, .int y14), (6, .int y5), (0, .ref (G.2.2 k)), (3, .int x3)]) C.x C.b dX1_follow_104 hl (k := 4) rfl (by rw [e_y19]; rfl) (by decide) rfl (fun ls hl => ?_)
          refine lv_goto (tgt := 30) C.x C.b dX1_follow_107 (by decide) ?_
          exact hq30 x3 y14 y19 μ18 h _ _ _ hP hS (lv_sub hl [3, 4, 1, 0] rfl)
        · have h := (if_neg c12).symm.trans h
          exact r_v h C hP hS dX1_follow_83

set_option maxRecDepth 100000 in
set_option maxHeartbeats 4000000 in
theorem b_X1_follow_30 {p : Program} {l : Launch} {e : Env} {s : State} {m : MethodId} {args : Array Value} {below : List Frame} {meth : Method} {c : Code} {G : Gp} {O : Mem} (C : Cx p s m args meth c cX1_follow 7 RX1 none G) {k : Nat} {x1 : Int32} {a2 : Nat} {n2 : Nat} (hA : At sLoop k) (hs2 : shp[a2]? = some (.inr (1, n2))) : ∀ (n : Nat) (x3 : Int32) (x4 : Int32) (x5 : Int32) (μ : Mem), f_X1_follow_30 k x1 a2 n2 n x3 x4 x5 μ = some O → ∀ (H : Heap) (locs : List Loc) (ls : Array Slot), Wm G μ H → va_S (wA G) s.heap H locs → lv_has ls 7 [(0, .ref (G.2.2 k)), (3, .int x3), (4, .int x4), (5, .int x5)] → W p l e (rmm 1 28) s m args below meth c H locs 0 0 (QV below args s G O) (F0 m 30 ls []) := by
  intro n
  induction n with
  | zero => intro x3 x4 x5 μ h; cases h
  | succ n ih => intro x3 x4 x5 μ h; exact w_X1_follow_30 C hA hs2 (q30 := f_X1_follow_30 k x1 a2 n2 n) ih x3 x4 x5 μ h

def f_X1_follow (k : Nat) (x1 : Int32) (a2 : Nat) (n2 : Nat) (μ : Mem) : Option Mem := lt (x1 / 6) (fun y1 => bnv (f_X1_pointHome k y1 a2 n2 μ) (fun μ3 => lt (st μ3 k 0 0) (fun μ4 => bnv (f_X1_add k x1 μ4) (fun μ6 => lt (rm32 x1 6) (fun y7 => f_X1_follow_30 k x1 a2 n2 FU y1 y7 0 μ6)))))
set_option maxRecDepth 100000 in
set_option maxHeartbeats 4000000 in
theorem b_X1_follow {p : Program} {l : Launch} {e : Env} {s : State} {m : MethodId} {args : Array Value} {below : List Frame} {meth : Method} {c : Code} {G : Gp} {O : Mem} (C : Cx p s m args meth c cX1_follow 7 RX1 none G) {k : Nat} {x1 : Int32} {a2 : Nat} {n2 : Nat} (hA : At sLoop k) (hs2 : shp[a2]? = some (.inr (1, n2))) {μ : Mem} (h : f_X1_follow k x1 a2 n2 μ = some O) : ∀ (H : Heap) (locs : List Loc) (ls : Array Slot), Wm G μ H → va_S (wA G) s.heap H locs → lv_has ls 7 [(0, .ref (G.2.2 k)), (1, .int x1), (2, .ref (G.2.2 a2))] → W p l e (rmm 1 28) s m args below meth c H locs 0 0 (QV below args s G O) (F0 m 0 ls []) := by
  unfold f_X1_follow at h
  intro H locs ls hP hS hl
  have q_k_0 : shp[k]? = some (.inl (1, fs1)) := hA 0 _ rfl
  refine lv_iload_n C.x C.b dX1_follow_0 rfl (lv_at hl 1 rfl) ?_
  refine lv_bipush (v := 6) C.x C.b dX1_follow_1 (by decide) ?_
  refine lv_idiv C.x C.b dX1_follow_3 (by decide) ?_
  refine lv_topi (fun y1 e_y1 => ?_)
  have h := lt_at h e_y1
  refine lv_istore_n (lv' := [(3, .int y1), (0, .ref (G.2.2 k)), (1, .int x1), (2, .ref (G.2.2 a2))]) C.x C.b dX1_follow_4 rfl hl (by decide) rfl (fun ls hl => ?_)
  refine lv_aload_n C.x C.b dX1_follow_5 rfl (lv_at hl 1 rfl) ?_
  refine lv_iload_n C.x C.b dX1_follow_6 rfl (lv_at hl 0 rfl) ?_
  refine lv_aload_n C.x C.b dX1_follow_7 rfl (lv_at hl 3 rfl) ?_
  obtain ⟨μ3, e2, h⟩ := bnv_some h
  refine k_vv (k := k) (as := [.int y1, .ref (G.2.2 a2)]) (rest := []) (c_X1_pointHome C.i hA hs2 e2) M_X1_pointHome u3_80 C hP hS q_k_0 rfl rfl (by decide) hl.1 rfl (Nat.le_of_ble_eq_true rfl) dX1_follow_8 (fun H locs hP hS => ?_)
  refine lv_aload_n C.x C.b dX1_follow_11 rfl (lv_at hl 1 rfl) ?_
  refine lv_iconst (v := 0) C.x C.b dX1_follow_12 (by decide) ?_
  refine p_int F_1_0 P_1_0 u1_133 C hP hS q_k_0 dX1_follow_13 (fun H locs hP hS => ?_)
  obtain ⟨μ4, m_μ4, h⟩ := lt_ex h
  have hP : Wm G μ4 H := by rw [m_μ4]; exact hP
  refine lv_aload_n C.x C.b dX1_follow_16 rfl (lv_at hl 1 rfl) ?_
  refine lv_iload_n C.x C.b dX1_follow_17 rfl (lv_at hl 2 rfl) ?_
  obtain ⟨μ6, e5, h⟩ := bnv_some h
  refine k_vv (k := k) (as := [.int x1]) (rest := []) (c_X1_add C.i hA e5) M_X1_add u3_84 C hP hS q_k_0 rfl rfl (by decide) hl.1 rfl (Nat.le_of_ble_eq_true rfl) dX1_follow_18 (fun H locs hP hS => ?_)
  refine lv_iload_n C.x C.b dX1_follow_21 rfl (lv_at hl 2 rfl) ?_
  refine lv_bipush (v := 6) C.x C.b dX1_follow_22 (by decide) ?_
  refine lv_irem C.x C.b dX1_follow_24 (by decide) ?_
  refine lv_topi (fun y7 e_y7 => ?_)
  have h := lt_at h e_y7
  refine lv_istore (lv' := [(4, .int y7), (3, .int y1), (0, .ref (G.2.2 k)), (1, .int x1), (2, .ref (G.2.2 a2))]) C.x C.b dX1_follow_25 hl (by decide) rfl (fun ls hl => ?_)
  refine lv_iconst (v := 0) C.x C.b dX1_follow_27 (by decide) ?_
  refine lv_istore (lv' := [(5, .int 0), (4, .int y7), (3, .int y1), (0, .ref (G.2.2 k)), (1, .int x1), (2, .ref (G.2.2 a2))]) C.x C.b dX1_follow_28 hl (by decide) rfl (fun ls hl => ?_)
  exact b_X1_follow_30 C hA hs2 FU y1 y7 0 μ6 h _ _ _ hP hS (lv_sub hl [3, 2, 1, 0] rfl)

set_option maxRecDepth 100000 in
set_option maxHeartbeats 4000000 in
theorem c_X1_follow {l : Launch} {G : Gp} (hI : Wi G) {k : Nat} {x1 : Int32} {a2 : Nat} {n2 : Nat} (hA : At sLoop k) (hs2 : shp[a2]? = some (.inr (1, n2))) {μ : Mem} {μ' : Mem} (h : f_X1_follow k x1 a2 n2 μ = some μ') : CV l yX1_follow cX1_follow 7 none 1 28 G [.ref (G.2.2 k), .int x1, .ref (G.2.2 a2)] μ μ' :=
  e_all (lv := [(0, .ref (G.2.2 k)), (1, .int x1), (2, .ref (G.2.2 a2))]) hI (by decide) (Nat.le_of_ble_eq_true rfl) rfl (fun p e s m args below meth c ls C hP hS hl => b_X1_follow C hA hs2 h _ _ _ hP hS hl)


def g_X1_turnOf_5 (k : Nat) (a1 : Nat) (n1 : Nat)  (μ : Mem) (q5 : Int32 → Int32 → Option Int32) (x2 : Int32) (x3 : Int32) : Option Int32 := if (μ.1 k 0) ≤ x3 then (some x2) else (grd (inb x3 12) (grd (inb (μ.1 (k + 1) x3.toNatClampNeg) n1) (lt (mn x2 (μ.1 a1 (μ.1 (k + 1) x3.toNatClampNeg).toNatClampNeg)) (fun y4 => lt (x3 + 2) (fun y5 => q5 y4 y5)))))
def f_X1_turnOf_5 (k : Nat) (a1 : Nat) (n1 : Nat)  (μ : Mem) : Nat → Int32 → Int32 → Option Int32
  | 0, _, _ => none
  | n + 1, x2, x3 => g_X1_turnOf_5 k a1 n1 μ (f_X1_turnOf_5 k a1 n1 μ n) x2 x3
set_option maxRecDepth 100000 in
set_option maxHeartbeats 4000000 in
theorem w_X1_turnOf_5 {p : Program} {l : Launch} {e : Env} {s : State} {m : MethodId} {args : Array Value} {below : List Frame} {meth : Method} {c : Code} {G : Gp} {O : Int32} (C : Cx p s m args meth c cX1_turnOf 4 RX1 (some .int) G) {k : Nat} {a1 : Nat} {n1 : Nat} {μ : Mem} (hA : At sLoop k) (hs1 : shp[a1]? = some (.inr (0, n1))) {q5 : Int32 → Int32 → Option Int32} (hq5 : ∀ (x2 : Int32) (x3 : Int32), q5 x2 x3 = some O → ∀ (H : Heap) (locs : List Loc) (ls : Array Slot), Wm G μ H → va_S (wA G) s.heap H locs → lv_has ls 4 [(0, .ref (G.2.2 k)), (1, .ref (G.2.2 a1)), (2, .int x2), (3, .int x3)] → W p l e (rmm 1 21) s m args below meth c H locs 0 0 (QI below args s G (O, μ)) (F0 m 5 ls [])) : ∀ (x2 : Int32) (x3 : Int32), g_X1_turnOf_5 k a1 n1 μ q5 x2 x3 = some O → ∀ (H : Heap) (locs : List Loc) (ls : Array Slot), Wm G μ H → va_S (wA G) s.heap H locs → lv_has ls 4 [(0, .ref (G.2.2 k)), (1, .ref (G.2.2 a1)), (2, .int x2), (3, .int x3)] → W p l e (rmm 1 21) s m args below meth c H locs 0 0 (QI below args s G (O, μ)) (F0 m 5 ls []) := by
  intro x2 x3 h H locs ls hP hS hl
  unfold g_X1_turnOf_5 at h
  have q_k_0 : shp[k]? = some (.inl (1, fs1)) := hA 0 _ rfl
  have q_k_1 : shp[k + 1]? = some (.inr (0, 12)) := hA 1 _ rfl
  refine lv_iload_n C.x C.b dX1_turnOf_5 rfl (lv_at hl 3 rfl) ?_
  refine lv_aload_n C.x C.b dX1_turnOf_6 rfl (lv_at hl 0 rfl) ?_
  refine g_int F_1_0 u1_133 C hP q_k_0 dX1_turnOf_7 ?_
  refine lv_icmp_ge (tgt := 32) C.x C.b dX1_turnOf_10 (by decide) (fun c1 => ?_) (fun c1 => ?_)
  · have h := (if_pos c1).symm.trans h
    refine lv_iload_n C.x C.b dX1_turnOf_32 rfl (lv_at hl 2 rfl) ?_
    exact r_i (pr_some h) C hP hS dX1_turnOf_33
  · have h := (if_neg c1).symm.trans h
    refine lv_iload_n C.x C.b dX1_turnOf_13 rfl (lv_at hl 2 rfl) ?_
    refine lv_aload_n C.x C.b dX1_turnOf_14 rfl (lv_at hl 1 rfl) ?_
    refine lv_aload_n C.x C.b dX1_turnOf_15 rfl (lv_at hl 0 rfl) ?_
    refine g_ref (k' := k + 1) F_1_1 u1_135 C hP q_k_0 rfl dX1_turnOf_16 ?_
    refine lv_iload_n C.x C.b dX1_turnOf_19 rfl (lv_at hl 3 rfl) ?_
    obtain ⟨g2, h⟩ := grd_some h
    refine a_i C hP q_k_1 g2 dX1_turnOf_20 ?_
    obtain ⟨g3, h⟩ := grd_some h
    refine a_i C hP hs1 g3 dX1_turnOf_21 ?_
    refine k_min u3_94 C hl.1 ⟨by decide, Nat.le_of_ble_eq_true rfl⟩ dX1_turnOf_22 ?_
    refine lv_topi (fun y4 e_y4 => ?_)
    have h := lt_at h e_y4
    refine lv_istore_n (lv' := [(2, .int y4), (0, .ref (G.2.2 k)), (1, .ref (G.2.2 a1)), (3, .int x3)]) C.x C.b dX1_turnOf_25 rfl hl (by decide) rfl (fun ls hl => ?_)
    obtain ⟨y5, e_y5, h⟩ := lt_ex h
    refine lv_iinc (v := y5) (lv' := [(3, .int y5), (2, .int y4), (0, .ref (G.2.2 k)), (1, .ref (G.2.2 a1))]) C.x C.b dX1_turnOf_26 hl (k := 3) rfl (by rw [e_y5]; rfl) (by decide) rfl (fun ls hl => ?_)
    refine lv_goto (tgt := 5) C.x C.b dX1_turnOf_29 (by decide) ?_
    exact hq5 y4 y5 h _ _ _ hP hS (lv_sub hl [2, 3, 1, 0] rfl)

set_option maxRecDepth 100000 in
set_option maxHeartbeats 4000000 in
theorem b_X1_turnOf_5 {p : Program} {l : Launch} {e : Env} {s : State} {m : MethodId} {args : Array Value} {below : List Frame} {meth : Method} {c : Code} {G : Gp} {O : Int32} (C : Cx p s m args meth c cX1_turnOf 4 RX1 (some .int) G) {k : Nat} {a1 : Nat} {n1 : Nat} {μ : Mem} (hA : At sLoop k) (hs1 : shp[a1]? = some (.inr (0, n1))) : ∀ (n : Nat) (x2 : Int32) (x3 : Int32), f_X1_turnOf_5 k a1 n1 μ n x2 x3 = some O → ∀ (H : Heap) (locs : List Loc) (ls : Array Slot), Wm G μ H → va_S (wA G) s.heap H locs → lv_has ls 4 [(0, .ref (G.2.2 k)), (1, .ref (G.2.2 a1)), (2, .int x2), (3, .int x3)] → W p l e (rmm 1 21) s m args below meth c H locs 0 0 (QI below args s G (O, μ)) (F0 m 5 ls []) := by
  intro n
  induction n with
  | zero => intro x2 x3 h; cases h
  | succ n ih => intro x2 x3 h; exact w_X1_turnOf_5 C hA hs1 (q5 := f_X1_turnOf_5 k a1 n1 μ n) ih x2 x3 h

def f_X1_turnOf (k : Nat) (a1 : Nat) (n1 : Nat) (μ : Mem) : Option Int32 := f_X1_turnOf_5 k a1 n1 μ FU 1000000 1
set_option maxRecDepth 100000 in
set_option maxHeartbeats 4000000 in
theorem b_X1_turnOf {p : Program} {l : Launch} {e : Env} {s : State} {m : MethodId} {args : Array Value} {below : List Frame} {meth : Method} {c : Code} {G : Gp} {O : Int32} (C : Cx p s m args meth c cX1_turnOf 4 RX1 (some .int) G) {k : Nat} {a1 : Nat} {n1 : Nat} {μ : Mem} (hA : At sLoop k) (hs1 : shp[a1]? = some (.inr (0, n1))) (h : f_X1_turnOf k a1 n1 μ = some O) : ∀ (H : Heap) (locs : List Loc) (ls : Array Slot), Wm G μ H → va_S (wA G) s.heap H locs → lv_has ls 4 [(0, .ref (G.2.2 k)), (1, .ref (G.2.2 a1))] → W p l e (rmm 1 21) s m args below meth c H locs 0 0 (QI below args s G (O, μ)) (F0 m 0 ls []) := by
  unfold f_X1_turnOf at h
  intro H locs ls hP hS hl
  refine lv_ldc (own := RX1) (v := 1000000) C.x C.b C.o (C.t _ u3_93) dX1_turnOf_0 ?_
  refine lv_istore_n (lv' := [(2, .int 1000000), (0, .ref (G.2.2 k)), (1, .ref (G.2.2 a1))]) C.x C.b dX1_turnOf_2 rfl hl (by decide) rfl (fun ls hl => ?_)
  refine lv_iconst (v := 1) C.x C.b dX1_turnOf_3 (by decide) ?_
  refine lv_istore_n (lv' := [(3, .int 1), (2, .int 1000000), (0, .ref (G.2.2 k)), (1, .ref (G.2.2 a1))]) C.x C.b dX1_turnOf_4 rfl hl (by decide) rfl (fun ls hl => ?_)
  exact b_X1_turnOf_5 C hA hs1 FU 1000000 1 h _ _ _ hP hS (lv_sub hl [2, 3, 1, 0] rfl)

set_option maxRecDepth 100000 in
set_option maxHeartbeats 4000000 in
theorem c_X1_turnOf {l : Launch} {G : Gp} (hI : Wi G) {k : Nat} {a1 : Nat} {n1 : Nat} (hA : At sLoop k) (hs1 : shp[a1]? = some (.inr (0, n1))) {μ : Mem} {r : Int32} (h : f_X1_turnOf k a1 n1 μ = some r) : CI l yX1_turnOf cX1_turnOf 4 (some .int) 1 21 G [.ref (G.2.2 k), .ref (G.2.2 a1)] μ r μ :=
  e_all (lv := [(0, .ref (G.2.2 k)), (1, .ref (G.2.2 a1))]) hI (by decide) (Nat.le_of_ble_eq_true rfl) rfl (fun p e s m args below meth c ls C hP hS hl => b_X1_turnOf C hA hs1 h _ _ _ hP hS hl)


def f_X1_findLeaving_51 (k : Nat) (a1 : Nat) (n1 : Nat) (x2 : Int32) (q13 : Int32 → Int32 → Int32 → Option Int32) (μ : Mem) (x5 : Int32) : Option Int32 := grd (inb x5 12) (lt (μ.1 (k + 1) x5.toNatClampNeg) (fun y2 => lt (x5 + 2) (fun y3 => q13 y2 1 y3)))
set_option maxRecDepth 100000 in
set_option maxHeartbeats 4000000 in
theorem b_X1_findLeaving_51 {p : Program} {l : Launch} {e : Env} {s : State} {m : MethodId} {args : Array Value} {below : List Frame} {meth : Method} {c : Code} {G : Gp} {O : Int32} (C : Cx p s m args meth c cX1_findLeaving 6 RX1 (some .int) G) {k : Nat} {a1 : Nat} {n1 : Nat} {x2 : Int32} {μ : Mem} (hA : At sLoop k) (hs1 : shp[a1]? = some (.inr (0, n1))) {q13 : Int32 → Int32 → Int32 → Option Int32} (hq13 : ∀ (x3 : Int32) (x4 : Int32) (x5 : Int32), q13 x3 x4 x5 = some O → ∀ (H : Heap) (locs : List Loc) (ls : Array Slot), Wm G μ H → va_S (wA G) s.heap H locs → lv_has ls 6 [(0, .ref (G.2.2 k)), (1, .ref (G.2.2 a1)), (2, .int x2), (3, .int x3), (4, .int x4), (5, .int x5)] → W p l e (rmm 0 0) s m args below meth c H locs 0 0 (QI below args s G (O, μ)) (F0 m 13 ls [])) : ∀ (x5 : Int32), f_X1_findLeaving_51 k a1 n1 x2 q13 μ x5 = some O → ∀ (H : Heap) (locs : List Loc) (ls : Array Slot), Wm G μ H → va_S (wA G) s.heap H locs → lv_has ls 6 [(0, .ref (G.2.2 k)), (1, .ref (G.2.2 a1)), (2, .int x2), (5, .int x5)] → W p l e (rmm 0 0) s m args below meth c H locs 0 0 (QI below args s G (O, μ)) (F0 m 51 ls []) := by
  intro x5 h H locs ls hP hS hl
  unfold f_X1_findLeaving_51 at h
  have q_k_0 : shp[k]? = some (.inl (1, fs1)) := hA 0 _ rfl
  have q_k_1 : shp[k + 1]? = some (.inr (0, 12)) := hA 1 _ rfl
  refine lv_aload_n C.x C.b dX1_findLeaving_51 rfl (lv_at hl 0 rfl) ?_
  refine g_ref (k' := k + 1) F_1_1 u1_135 C hP q_k_0 rfl dX1_findLeaving_52 ?_
  refine lv_iload C.x C.b dX1_findLeaving_55 (lv_at hl 3 rfl) ?_
  obtain ⟨g1, h⟩ := grd_some h
  refine a_i C hP q_k_1 g1 dX1_findLeaving_57 ?_
  refine lv_topi (fun y2 e_y2 => ?_)
  have h := lt_at h e_y2
  refine lv_istore_n (lv' := [(3, .int y2), (0, .ref (G.2.2 k)), (1, .ref (G.2.2 a1)), (2, .int x2), (5, .int x5)]) C.x C.b dX1_findLeaving_58 rfl hl (by decide) rfl (fun ls hl => ?_)
  refine lv_iconst (v := 1) C.x C.b dX1_findLeaving_59 (by decide) ?_
  refine lv_istore (lv' := [(4, .int 1), (3, .int y2), (0, .ref (G.2.2 k)), (1, .ref (G.2.2 a1)), (2, .int x2), (5, .int x5)]) C.x C.b dX1_findLeaving_60 hl (by decide) rfl (fun ls hl => ?_)
  obtain ⟨y3, e_y3, h⟩ := lt_ex h
  refine lv_iinc (v := y3) (lv' := [(5, .int y3), (4, .int 1), (3, .int y2), (0, .ref (G.2.2 k)), (1, .ref (G.2.2 a1)), (2, .int x2)]) C.x C.b dX1_findLeaving_62 hl (k := 5) rfl (by rw [e_y3]; rfl) (by decide) rfl (fun ls hl => ?_)
  refine lv_goto (tgt := 13) C.x C.b dX1_findLeaving_65 (by decide) ?_
  exact hq13 y2 1 y3 h _ _ _ hP hS (lv_sub hl [3, 4, 5, 2, 1, 0] rfl)

def g_X1_findLeaving_13 (k : Nat) (a1 : Nat) (n1 : Nat) (x2 : Int32)  (μ : Mem) (q13 : Int32 → Int32 → Int32 → Option Int32) (x3 : Int32) (x4 : Int32) (x5 : Int32) : Option Int32 := if (μ.1 k 0) ≤ x5 then (some x3) else (grd (inb x5 12) (grd (inb (μ.1 (k + 1) x5.toNatClampNeg) n1) (if (μ.1 a1 (μ.1 (k + 1) x5.toNatClampNeg).toNatClampNeg) = x2 then (if x4 = 0 then (f_X1_findLeaving_51 k a1 n1 x2 q13 μ x5) else (grd (inb x5 12) (if x3 ≤ (μ.1 (k + 1) x5.toNatClampNeg) then (lt (x5 + 2) (fun y9 => q13 x3 x4 y9)) else (f_X1_findLeaving_51 k a1 n1 x2 q13 μ x5)))) else (lt (x5 + 2) (fun y5 => q13 x3 x4 y5)))))
def f_X1_findLeaving_13 (k : Nat) (a1 : Nat) (n1 : Nat) (x2 : Int32)  (μ : Mem) : Nat → Int32 → Int32 → Int32 → Option Int32
  | 0, _, _, _ => none
  | n + 1, x3, x4, x5 => g_X1_findLeaving_13 k a1 n1 x2 μ (f_X1_findLeaving_13 k a1 n1 x2 μ n) x3 x4 x5
set_option maxRecDepth 100000 in
set_option maxHeartbeats 4000000 in
theorem w_X1_findLeaving_13 {p : Program} {l : Launch} {e : Env} {s : State} {m : MethodId} {args : Array Value} {below : List Frame} {meth : Method} {c : Code} {G : Gp} {O : Int32} (C : Cx p s m args meth c cX1_findLeaving 6 RX1 (some .int) G) {k : Nat} {a1 : Nat} {n1 : Nat} {x2 : Int32} {μ : Mem} (hA : At sLoop k) (hs1 : shp[a1]? = some (.inr (0, n1))) {q13 : Int32 → Int32 → Int32 → Option Int32} (hq13 : ∀ (x3 : Int32) (x4 : Int32) (x5 : Int32), q13 x3 x4 x5 = some O → ∀ (H : Heap) (locs : List Loc) (ls : Array Slot), Wm G μ H → va_S (wA G) s.heap H locs → lv_has ls 6 [(0, .ref (G.2.2 k)), (1, .ref (G.2.2 a1)), (2, .int x2), (3, .int x3), (4, .int x4), (5, .int x5)] → W p l e (rmm 0 0) s m args below meth c H locs 0 0 (QI below args s G (O, μ)) (F0 m 13 ls [])) : ∀ (x3 : Int32) (x4 : Int32) (x5 : Int32), g_X1_findLeaving_13 k a1 n1 x2 μ q13 x3 x4 x5 = some O → ∀ (H : Heap) (locs : List Loc) (ls : Array Slot), Wm G μ H → va_S (wA G) s.heap H locs → lv_has ls 6 [(0, .ref (G.2.2 k)), (1, .ref (G.2.2 a1)), (2, .int x2), (3, .int x3), (4, .int x4), (5, .int x5)] → W p l e (rmm 0 0) s m args below meth c H locs 0 0 (QI below args s G (O, μ)) (F0 m 13 ls []) := by
  intro x3 x4 x5 h H locs ls hP hS hl
  unfold g_X1_findLeaving_13 at h
  have q_k_0 : shp[k]? = some (.inl (1, fs1)) := hA 0 _ rfl
  have q_k_1 : shp[k + 1]? = some (.inr (0, 12)) := hA 1 _ rfl
  refine lv_iload C.x C.b dX1_findLeaving_13 (lv_at hl 5 rfl) ?_
  refine lv_aload_n C.x C.b dX1_findLeaving_15 rfl (lv_at hl 0 rfl) ?_
  refine g_int F_1_0 u1_133 C hP q_k_0 dX1_findLeaving_16 ?_
  refine lv_icmp_ge (tgt := 68) C.x C.b dX1_findLeaving_19 (by decide) (fun c1 => ?_) (fun c1 => ?_)
  · have h := (if_pos c1).symm.trans h
    refine lv_iload_n C.x C.b dX1_findLeaving_68 rfl (lv_at hl 3 rfl) ?_
    exact r_i (pr_some h) C hP hS dX1_findLeaving_69
  · have h := (if_neg c1).symm.trans h
    refine lv_aload_n C.x C.b dX1_findLeaving_22 rfl (lv_at hl 1 rfl) ?_
    refine lv_aload_n C.x C.b dX1_findLeaving_23 rfl (lv_at hl 0 rfl) ?_
    refine g_ref (k' := k + 1) F_1_1 u1_135 C hP q_k_0 rfl dX1_findLeaving_24 ?_
    refine lv_iload C.x C.b dX1_findLeaving_27 (lv_at hl 5 rfl) ?_
    obtain ⟨g2, h⟩ := grd_some h
    refine a_i C hP q_k_1 g2 dX1_findLeaving_29 ?_
    obtain ⟨g3, h⟩ := grd_some h
    refine a_i C hP hs1 g3 dX1_findLeaving_30 ?_
    refine lv_iload_n C.x C.b dX1_findLeaving_31 rfl (lv_at hl 2 rfl) ?_
    refine lv_icmp_ne (tgt := 62) C.x C.b dX1_findLeaving_32 (by decide) (fun c4 => ?_) (fun c4 => ?_)
    · have h := (if_neg c4).symm.trans h
      obtain ⟨y5, e_y5, h⟩ := lt_ex h
      refine lv_iinc (v := y5) (lv' := [(5, .int y5), (0, .ref (G.2.2 k)), (1, .ref (G.2.2 a1)), (2, .int x2), (3, .int x3), (4, .int x4)]) C.x C.b dX1_findLeaving_62 hl (k := 5) rfl (by rw [e_y5]; rfl) (by decide) rfl (fun ls hl => ?_)
      refine lv_goto (tgt := 13) C.x C.b dX1_findLeaving_65 (by decide) ?_
      exact hq13 x3 x4 y5 h _ _ _ hP hS (lv_sub hl [1, 2, 3, 4, 5, 0] rfl)
    · have h := (if_pos c4).symm.trans h
      refine lv_iload C.x C.b dX1_findLeaving_35 (lv_at hl 4 rfl) ?_
      refine lv_if_eq (tgt := 51) C.x C.b dX1_findLeaving_37 (by decide) (fun c6 => ?_) (fun c6 => ?_)
      · have h := (if_pos c6).symm.trans h
        exact b_X1_findLeaving_51 C hA hs1 hq13 x5 h _ _ _ hP hS (lv_sub hl [0, 1, 2, 5] rfl)
      · have h := (if_neg c6).symm.trans h
        refine lv_aload_n C.x C.b dX1_findLeaving_40 rfl (lv_at hl 0 rfl) ?_
        refine g_ref (k' := k + 1) F_1_1 u1_135 C hP q_k_0 rfl dX1_findLeaving_41 ?_
        refine lv_iload C.x C.b dX1_findLeaving_44 (lv_at hl 5 rfl) ?_
        obtain ⟨g7, h⟩ := grd_some h
        refine a_i C hP q_k_1 g7 dX1_findLeaving_46 ?_
        refine lv_iload_n C.x C.b dX1_findLeaving_47 rfl (lv_at hl 3 rfl) ?_
        refine lv_icmp_ge (tgt := 62) C.x C.b dX1_findLeaving_48 (by decide) (fun c8 => ?_) (fun c8 => ?_)
        · have h := (if_pos c8).symm.trans h
          obtain ⟨y9, e_y9, h⟩ := lt_ex h
          refine lv_iinc (v := y9) (lv' := [(5, .int y9), (0, .ref (G.2.2 k)), (1, .ref (G.2.2 a1)), (2, .int x2), (3, .int x3), (4, .int x4)]) C.x C.b dX1_findLeaving_62 hl (k := 5) rfl (by rw [e_y9]; rfl) (by decide) rfl (fun ls hl => ?_)
          refine lv_goto (tgt := 13) C.x C.b dX1_findLeaving_65 (by decide) ?_
          exact hq13 x3 x4 y9 h _ _ _ hP hS (lv_sub hl [1, 2, 3, 4, 5, 0] rfl)
        · have h := (if_neg c8).symm.trans h
          exact b_X1_findLeaving_51 C hA hs1 hq13 x5 h _ _ _ hP hS (lv_sub hl [0, 1, 2, 5] rfl)

set_option maxRecDepth 100000 in
set_option maxHeartbeats 4000000 in
theorem b_X1_findLeaving_13 {p : Program} {l : Launch} {e : Env} {s : State} {m : MethodId} {args : Array Value} {below : List Frame} {meth : Method} {c : Code} {G : Gp} {O : Int32} (C : Cx p s m args meth c cX1_findLeaving 6 RX1 (some .int) G) {k : Nat} {a1 : Nat} {n1 : Nat} {x2 : Int32} {μ : Mem} (hA : At sLoop k) (hs1 : shp[a1]? = some (.inr (0, n1))) : ∀ (n : Nat) (x3 : Int32) (x4 : Int32) (x5 : Int32), f_X1_findLeaving_13 k a1 n1 x2 μ n x3 x4 x5 = some O → ∀ (H : Heap) (locs : List Loc) (ls : Array Slot), Wm G μ H → va_S (wA G) s.heap H locs → lv_has ls 6 [(0, .ref (G.2.2 k)), (1, .ref (G.2.2 a1)), (2, .int x2), (3, .int x3), (4, .int x4), (5, .int x5)] → W p l e (rmm 0 0) s m args below meth c H locs 0 0 (QI below args s G (O, μ)) (F0 m 13 ls []) := by
  intro n
  induction n with
  | zero => intro x3 x4 x5 h; cases h
  | succ n ih => intro x3 x4 x5 h; exact w_X1_findLeaving_13 C hA hs1 (q13 := f_X1_findLeaving_13 k a1 n1 x2 μ n) ih x3 x4 x5 h

def f_X1_findLeaving (k : Nat) (a1 : Nat) (n1 : Nat) (x2 : Int32) (μ : Mem) : Option Int32 := grd (inb 1 12) (lt (μ.1 (k + 1) (1 : Int32).toNatClampNeg) (fun y2 => f_X1_findLeaving_13 k a1 n1 x2 μ FU y2 0 1))
set_option maxRecDepth 100000 in
set_option maxHeartbeats 4000000 in
theorem b_X1_findLeaving {p : Program} {l : Launch} {e : Env} {s : State} {m : MethodId} {args : Array Value} {below : List Frame} {meth : Method} {c : Code} {G : Gp} {O : Int32} (C : Cx p s m args meth c cX1_findLeaving 6 RX1 (some .int) G) {k : Nat} {a1 : Nat} {n1 : Nat} {x2 : Int32} {μ : Mem} (hA : At sLoop k) (hs1 : shp[a1]? = some (.inr (0, n1))) (h : f_X1_findLeaving k a1 n1 x2 μ = some O) : ∀ (H : Heap) (locs : List Loc) (ls : Array Slot), Wm G μ H → va_S (wA G) s.heap H locs → lv_has ls 6 [(0, .ref (G.2.2 k)), (1, .ref (G.2.2 a1)), (2, .int x2)] → W p l e (rmm 0 0) s m args below meth c H locs 0 0 (QI below args s G (O, μ)) (F0 m 0 ls []) := by
  unfold f_X1_findLeaving at h
  intro H locs ls hP hS hl
  have q_k_0 : shp[k]? = some (.inl (1, fs1)) := hA 0 _ rfl
  have q_k_1 : shp[k + 1]? = some (.inr (0, 12)) := hA 1 _ rfl
  refine lv_aload_n C.x C.b dX1_findLeaving_0 rfl (lv_at hl 0 rfl) ?_
  refine g_ref (k' := k + 1) F_1_1 u1_135 C hP q_k_0 rfl dX1_findLeaving_1 ?_
  refine lv_iconst (v := 1) C.x C.b dX1_findLeaving_4 (by decide) ?_
  obtain ⟨g1, h⟩ := grd_some h
  refine a_i C hP q_k_1 g1 dX1_findLeaving_5 ?_
  refine lv_topi (fun y2 e_y2 => ?_)
  have h := lt_at h e_y2
  refine lv_istore_n (lv' := [(3, .int y2), (0, .ref (G.2.2 k)), (1, .ref (G.2.2 a1)), (2, .int x2)]) C.x C.b dX1_findLeaving_6 rfl hl (by decide) rfl (fun ls hl => ?_)
  refine lv_iconst (v := 0) C.x C.b dX1_findLeaving_7 (by decide) ?_
  refine lv_istore (lv' := [(4, .int 0), (3, .int y2), (0, .ref (G.2.2 k)), (1, .ref (G.2.2 a1)), (2, .int x2)]) C.x C.b dX1_findLeaving_8 hl (by decide) rfl (fun ls hl => ?_)
  refine lv_iconst (v := 1) C.x C.b dX1_findLeaving_10 (by decide) ?_
  refine lv_istore (lv' := [(5, .int 1), (4, .int 0), (3, .int y2), (0, .ref (G.2.2 k)), (1, .ref (G.2.2 a1)), (2, .int x2)]) C.x C.b dX1_findLeaving_11 hl (by decide) rfl (fun ls hl => ?_)
  exact b_X1_findLeaving_13 C hA hs1 FU y2 0 1 h _ _ _ hP hS (lv_sub hl [3, 4, 5, 2, 1, 0] rfl)

set_option maxRecDepth 100000 in
set_option maxHeartbeats 4000000 in
theorem c_X1_findLeaving {l : Launch} {G : Gp} (hI : Wi G) {k : Nat} {a1 : Nat} {n1 : Nat} {x2 : Int32} (hA : At sLoop k) (hs1 : shp[a1]? = some (.inr (0, n1))) {μ : Mem} {r : Int32} (h : f_X1_findLeaving k a1 n1 x2 μ = some r) : CI l yX1_findLeaving cX1_findLeaving 6 (some .int) 0 0 G [.ref (G.2.2 k), .ref (G.2.2 a1), .int x2] μ r μ :=
  e_all (lv := [(0, .ref (G.2.2 k)), (1, .ref (G.2.2 a1)), (2, .int x2)]) hI (by decide) (Nat.le_of_ble_eq_true rfl) rfl (fun p e s m args below meth c ls C hP hS hl => b_X1_findLeaving C hA hs1 h _ _ _ hP hS hl)


def g_X1_turnLoads_2 (k : Nat) (a1 : Nat) (n1 : Nat) (x2 : Int32)  (q2 : Int32 → Mem → Option Mem) (x3 : Int32) (μ : Mem) : Option Mem := if (μ.1 k 0) ≤ x3 then (some μ) else (grd (inb x3 12) (grd (inb (μ.1 (k + 1) x3.toNatClampNeg) n1) (if (rm32 x3 2) = 0 then (grd (inb (μ.1 (k + 1) x3.toNatClampNeg) n1) (lt (st μ a1 (μ.1 (k + 1) x3.toNatClampNeg).toNatClampNeg ((μ.1 a1 (μ.1 (k + 1) x3.toNatClampNeg).toNatClampNeg) + x2)) (fun μ9 => lt (x3 + 1) (fun y10 => q2 y10 μ9)))) else (grd (inb (μ.1 (k + 1) x3.toNatClampNeg) n1) (lt (st μ a1 (μ.1 (k + 1) x3.toNatClampNeg).toNatClampNeg ((μ.1 a1 (μ.1 (k + 1) x3.toNatClampNeg).toNatClampNeg) + (-x2))) (fun μ6 => lt (x3 + 1) (fun y7 => q2 y7 μ6)))))))
def f_X1_turnLoads_2 (k : Nat) (a1 : Nat) (n1 : Nat) (x2 : Int32)  : Nat → Int32 → Mem → Option Mem
  | 0, _, _ => none
  | n + 1, x3, μ => g_X1_turnLoads_2 k a1 n1 x2 (f_X1_turnLoads_2 k a1 n1 x2 n) x3 μ
set_option maxRecDepth 100000 in
set_option maxHeartbeats 4000000 in
theorem w_X1_turnLoads_2 {p : Program} {l : Launch} {e : Env} {s : State} {m : MethodId} {args : Array Value} {below : List Frame} {meth : Method} {c : Code} {G : Gp} {O : Mem} (C : Cx p s m args meth c cX1_turnLoads 4 RX1 none G) {k : Nat} {a1 : Nat} {n1 : Nat} {x2 : Int32} (hA : At sLoop k) (hs1 : shp[a1]? = some (.inr (0, n1))) {q2 : Int32 → Mem → Option Mem} (hq2 : ∀ (x3 : Int32) (μ : Mem), q2 x3 μ = some O → ∀ (H : Heap) (locs : List Loc) (ls : Array Slot), Wm G μ H → va_S (wA G) s.heap H locs → lv_has ls 4 [(0, .ref (G.2.2 k)), (1, .ref (G.2.2 a1)), (2, .int x2), (3, .int x3)] → W p l e (rmm 0 0) s m args below meth c H locs 0 0 (QV below args s G O) (F0 m 2 ls [])) : ∀ (x3 : Int32) (μ : Mem), g_X1_turnLoads_2 k a1 n1 x2 q2 x3 μ = some O → ∀ (H : Heap) (locs : List Loc) (ls : Array Slot), Wm G μ H → va_S (wA G) s.heap H locs → lv_has ls 4 [(0, .ref (G.2.2 k)), (1, .ref (G.2.2 a1)), (2, .int x2), (3, .int x3)] → W p l e (rmm 0 0) s m args below meth c H locs 0 0 (QV below args s G O) (F0 m 2 ls []) := by
  intro x3 μ h H locs ls hP hS hl
  unfold g_X1_turnLoads_2 at h
  have q_k_0 : shp[k]? = some (.inl (1, fs1)) := hA 0 _ rfl
  have q_k_1 : shp[k + 1]? = some (.inr (0, 12)) := hA 1 _ rfl
  refine lv_iload_n C.x C.b dX1_turnLoads_2 rfl (lv_at hl 3 rfl) ?_
  refine lv_aload_n C.x C.b dX1_turnLoads_3 rfl (lv_at hl 0 rfl) ?_
  refine g_int F_1_0 u1_133 C hP q_k_0 dX1_turnLoads_4 ?_
  refine lv_icmp_ge (tgt := 39) C.x C.b dX1_turnLoads_7 (by decide) (fun c1 => ?_) (fun c1 => ?_)
  · have h := (if_pos c1).symm.trans h
    exact r_v h C hP hS dX1_turnLoads_39
  · have h := (if_neg c1).symm.trans h
    refine lv_aload_n C.x C.b dX1_turnLoads_10 rfl (lv_at hl 1 rfl) ?_
    refine lv_aload_n C.x C.b dX1_turnLoads_11 rfl (lv_at hl 0 rfl) ?_
    refine g_ref (k' := k + 1) F_1_1 u1_135 C hP q_k_0 rfl dX1_turnLoads_12 ?_
    refine lv_iload_n C.x C.b dX1_turnLoads_15 rfl (lv_at hl 3 rfl) ?_
    obtain ⟨g2, h⟩ := grd_some h
    refine a_i C hP q_k_1 g2 dX1_turnLoads_16 ?_
    refine lv_dup2_11 C.x C.b dX1_turnLoads_17 rfl rfl ?_
    obtain ⟨g3, h⟩ := grd_some h
    refine a_i C hP hs1 g3 dX1_turnLoads_18 ?_
    refine lv_iload_n C.x C.b dX1_turnLoads_19 rfl (lv_at hl 3 rfl) ?_
    refine lv_iconst (v := 2) C.x C.b dX1_turnLoads_20 (by decide) ?_
    refine lv_irem C.x C.b dX1_turnLoads_21 (by decide) ?_
    refine lv_if_ne (tgt := 29) C.x C.b dX1_turnLoads_22 (by decide) (fun c4 => ?_) (fun c4 => ?_)
    · have h := (if_neg c4).symm.trans h
      refine lv_iload_n C.x C.b dX1_turnLoads_29 rfl (lv_at hl 2 rfl) ?_
      refine lv_ineg C.x C.b dX1_turnLoads_30 ?_
      refine lv_iadd C.x C.b dX1_turnLoads_31 ?_
      obtain ⟨g5, h⟩ := grd_some h
      refine as_i C hP hS hs1 g5 dX1_turnLoads_32 (fun H locs hP hS => ?_)
      obtain ⟨μ6, m_μ6, h⟩ := lt_ex h
      have hP : Wm G μ6 H := by rw [m_μ6]; exact hP
      obtain ⟨y7, e_y7, h⟩ := lt_ex h
      refine lv_iinc (v := y7) (lv' := [(3, .int y7), (0, .ref (G.2.2 k)), (1, .ref (G.2.2 a1)), (2, .int x2)]) C.x C.b dX1_turnLoads_33 hl (k := 3) rfl (by rw [e_y7]; rfl) (by decide) rfl (fun ls hl => ?_)
      refine lv_goto (tgt := 2) C.x C.b dX1_turnLoads_36 (by decide) ?_
      exact hq2 y7 μ6 h _ _ _ hP hS (lv_sub hl [1, 2, 3, 0] rfl)
    · have h := (if_pos c4).symm.trans h
      refine lv_iload_n C.x C.b dX1_turnLoads_25 rfl (lv_at hl 2 rfl) ?_
      refine lv_goto (tgt := 31) C.x C.b dX1_turnLoads_26 (by decide) ?_
      refine lv_iadd C.x C.b dX1_turnLoads_31 ?_
      obtain ⟨g8, h⟩ := grd_some h
      refine as_i C hP hS hs1 g8 dX1_turnLoads_32 (fun H locs hP hS => ?_)
      obtain ⟨μ9, m_μ9, h⟩ := lt_ex h
      have hP : Wm G μ9 H := by rw [m_μ9]; exact hP
      obtain ⟨y10, e_y10, h⟩ := lt_ex h
      refine lv_iinc (v := y10) (lv' := [(3, .int y10), (0, .ref (G.2.2 k)), (1, .ref (G.2.2 a1)), (2, .int x2)]) C.x C.b dX1_turnLoads_33 hl (k := 3) rfl (by rw [e_y10]; rfl) (by decide) rfl (fun ls hl => ?_)
      refine lv_goto (tgt := 2) C.x C.b dX1_turnLoads_36 (by decide) ?_
      exact hq2 y10 μ9 h _ _ _ hP hS (lv_sub hl [1, 2, 3, 0] rfl)

set_option maxRecDepth 100000 in
set_option maxHeartbeats 4000000 in
theorem b_X1_turnLoads_2 {p : Program} {l : Launch} {e : Env} {s : State} {m : MethodId} {args : Array Value} {below : List Frame} {meth : Method} {c : Code} {G : Gp} {O : Mem} (C : Cx p s m args meth c cX1_turnLoads 4 RX1 none G) {k : Nat} {a1 : Nat} {n1 : Nat} {x2 : Int32} (hA : At sLoop k) (hs1 : shp[a1]? = some (.inr (0, n1))) : ∀ (n : Nat) (x3 : Int32) (μ : Mem), f_X1_turnLoads_2 k a1 n1 x2 n x3 μ = some O → ∀ (H : Heap) (locs : List Loc) (ls : Array Slot), Wm G μ H → va_S (wA G) s.heap H locs → lv_has ls 4 [(0, .ref (G.2.2 k)), (1, .ref (G.2.2 a1)), (2, .int x2), (3, .int x3)] → W p l e (rmm 0 0) s m args below meth c H locs 0 0 (QV below args s G O) (F0 m 2 ls []) := by
  intro n
  induction n with
  | zero => intro x3 μ h; cases h
  | succ n ih => intro x3 μ h; exact w_X1_turnLoads_2 C hA hs1 (q2 := f_X1_turnLoads_2 k a1 n1 x2 n) ih x3 μ h

def f_X1_turnLoads (k : Nat) (a1 : Nat) (n1 : Nat) (x2 : Int32) (μ : Mem) : Option Mem := f_X1_turnLoads_2 k a1 n1 x2 FU 0 μ
set_option maxRecDepth 100000 in
set_option maxHeartbeats 4000000 in
theorem b_X1_turnLoads {p : Program} {l : Launch} {e : Env} {s : State} {m : MethodId} {args : Array Value} {below : List Frame} {meth : Method} {c : Code} {G : Gp} {O : Mem} (C : Cx p s m args meth c cX1_turnLoads 4 RX1 none G) {k : Nat} {a1 : Nat} {n1 : Nat} {x2 : Int32} (hA : At sLoop k) (hs1 : shp[a1]? = some (.inr (0, n1))) {μ : Mem} (h : f_X1_turnLoads k a1 n1 x2 μ = some O) : ∀ (H : Heap) (locs : List Loc) (ls : Array Slot), Wm G μ H → va_S (wA G) s.heap H locs → lv_has ls 4 [(0, .ref (G.2.2 k)), (1, .ref (G.2.2 a1)), (2, .int x2)] → W p l e (rmm 0 0) s m args below meth c H locs 0 0 (QV below args s G O) (F0 m 0 ls []) := by
  unfold f_X1_turnLoads at h
  intro H locs ls hP hS hl
  refine lv_iconst (v := 0) C.x C.b dX1_turnLoads_0 (by decide) ?_
  refine lv_istore_n (lv' := [(3, .int 0), (0, .ref (G.2.2 k)), (1, .ref (G.2.2 a1)), (2, .int x2)]) C.x C.b dX1_turnLoads_1 rfl hl (by decide) rfl (fun ls hl => ?_)
  exact b_X1_turnLoads_2 C hA hs1 FU 0 μ h _ _ _ hP hS (lv_sub hl [1, 2, 3, 0] rfl)

set_option maxRecDepth 100000 in
set_option maxHeartbeats 4000000 in
theorem c_X1_turnLoads {l : Launch} {G : Gp} (hI : Wi G) {k : Nat} {a1 : Nat} {n1 : Nat} {x2 : Int32} (hA : At sLoop k) (hs1 : shp[a1]? = some (.inr (0, n1))) {μ : Mem} {μ' : Mem} (h : f_X1_turnLoads k a1 n1 x2 μ = some μ') : CV l yX1_turnLoads cX1_turnLoads 4 none 0 0 G [.ref (G.2.2 k), .ref (G.2.2 a1), .int x2] μ μ' :=
  e_all (lv := [(0, .ref (G.2.2 k)), (1, .ref (G.2.2 a1)), (2, .int x2)]) hI (by decide) (Nat.le_of_ble_eq_true rfl) rfl (fun p e s m args below meth c ls C hP hS hl => b_X1_turnLoads C hA hs1 h _ _ _ hP hS hl)


def f_X2_openAll_145 (k : Nat) (o1 : Nat) (q121 : Int32 → Mem → Option Mem) (x3 : Int32) (z1 : Int32) (z2 : Int32) (μ : Mem) : Option Mem := grd (inb z1 6) (grd (isB z2) (lt (st μ (k + 1) z1.toNatClampNeg z2) (fun μ3 => if (μ3.1 k 1) ≤ x3 then (grd (inb x3 6) (lt (st μ3 (k + 2) x3.toNatClampNeg 0) (fun μ6 => lt (x3 + 1) (fun y7 => q121 y7 μ6)))) else (grd (inb x3 6) (lt (st μ3 (k + 2) x3.toNatClampNeg 1) (fun μ9 => lt (x3 + 1) (fun y10 => q121 y10 μ9)))))))
set_option maxRecDepth 100000 in
set_option maxHeartbeats 4000000 in
theorem b_X2_openAll_145 {p : Program} {l : Launch} {e : Env} {s : State} {m : MethodId} {args : Array Value} {below : List Frame} {meth : Method} {c : Code} {G : Gp} {O : Mem} (C : Cx p s m args meth c cX2_openAll 4 RX2 none G) {k : Nat} {o1 : Nat} (hA : At sOpening k) (hB1 : At sGround o1) {q121 : Int32 → Mem → Option Mem} (hq121 : ∀ (x3 : Int32) (μ : Mem), q121 x3 μ = some O → ∀ (H : Heap) (locs : List Loc) (ls : Array Slot), Wm G μ H → va_S (wA G) s.heap H locs → lv_has ls 4 [(0, .ref (G.2.2 k)), (3, .int x3)] → W p l e (rmm 1 26) s m args below meth c H locs 0 0 (QV below args s G O) (F0 m 121 ls [])) : ∀ (x3 : Int32) (z1 : Int32) (z2 : Int32) (μ : Mem), f_X2_openAll_145 k o1 q121 x3 z1 z2 μ = some O → ∀ (H : Heap) (locs : List Loc) (ls : Array Slot), Wm G μ H → va_S (wA G) s.heap H locs → lv_has ls 4 [(0, .ref (G.2.2 k)), (3, .int x3)] → W p l e (rmm 1 26) s m args below meth c H locs 0 0 (QV below args s G O) (F0 m 145 ls [.int z2, .int z1, .ref (G.2.2 (k + 1))]) := by
  intro x3 z1 z2 μ h H locs ls hP hS hl
  unfold f_X2_openAll_145 at h
  have q_k_0 : shp[k]? = some (.inl (2, fs2)) := hA 0 _ rfl
  have q_k_1 : shp[k + 1]? = some (.inr (1, 6)) := hA 1 _ rfl
  have q_k_2 : shp[k + 2]? = some (.inr (1, 6)) := hA 2 _ rfl
  obtain ⟨g1, h⟩ := grd_some h
  obtain ⟨g2, h⟩ := grd_some h
  refine as_z C hP hS q_k_1 g1 g2 dX2_openAll_145 (fun H locs hP hS => ?_)
  obtain ⟨μ3, m_μ3, h⟩ := lt_ex h
  have hP : Wm G μ3 H := by rw [m_μ3]; exact hP
  refine lv_aload_n C.x C.b dX2_openAll_146 rfl (lv_at hl 0 rfl) ?_
  refine g_ref (k' := k + 2) F_2_7 u1_102 C hP q_k_0 rfl dX2_openAll_147 ?_
  refine lv_iload_n C.x C.b dX2_openAll_150 rfl (lv_at hl 1 rfl) ?_
  refine lv_iload_n C.x C.b dX2_openAll_151 rfl (lv_at hl 1 rfl) ?_
  refine lv_aload_n C.x C.b dX2_openAll_152 rfl (lv_at hl 0 rfl) ?_
  refine g_int F_2_1 u1_92 C hP q_k_0 dX2_openAll_153 ?_
  refine lv_icmp_ge (tgt := 163) C.x C.b dX2_openAll_156 (by decide) (fun c4 => ?_) (fun c4 => ?_)
  · have h := (if_pos c4).symm.trans h
    refine lv_iconst (v := 0) C.x C.b dX2_openAll_163 (by decide) ?_
    obtain ⟨g5, h⟩ := grd_some h
    refine as_z C hP hS q_k_2 g5 (by decide) dX2_openAll_164 (fun H locs hP hS => ?_)
    obtain ⟨μ6, m_μ6, h⟩ := lt_ex h
    have hP : Wm G μ6 H := by rw [m_μ6]; exact hP
    obtain ⟨y7, e_y7, h⟩ := lt_ex h
    refine lv_iinc (v := y7) (lv' := [(3, .int y7), (0, .ref (G.2.2 k))]) C.x C.b dX2_openAll_165 hl (k := 1) rfl (by rw [e_y7]; rfl) (by decide) rfl (fun ls hl => ?_)
    refine lv_goto (tgt := 121) C.x C.b dX2_openAll_168 (by decide) ?_
    exact hq121 y7 μ6 h _ _ _ hP hS (lv_sub hl [1, 0] rfl)
  · have h := (if_neg c4).symm.trans h
    refine lv_iconst (v := 1) C.x C.b dX2_openAll_159 (by decide) ?_
    refine lv_goto (tgt := 164) C.x C.b dX2_openAll_160 (by decide) ?_
    obtain ⟨g8, h⟩ := grd_some h
    refine as_z C hP hS q_k_2 g8 (by decide) dX2_openAll_164 (fun H locs hP hS => ?_)
    obtain ⟨μ9, m_μ9, h⟩ := lt_ex h
    have hP : Wm G μ9 H := by rw [m_μ9]; exact hP
    obtain ⟨y10, e_y10, h⟩ := lt_ex h
    refine lv_iinc (v := y10) (lv' := [(3, .int y10), (0, .ref (G.2.2 k))]) C.x C.b dX2_openAll_165 hl (k := 1) rfl (by rw [e_y10]; rfl) (by decide) rfl (fun ls hl => ?_)
    refine lv_goto (tgt := 121) C.x C.b dX2_openAll_168 (by decide) ?_
    exact hq121 y10 μ9 h _ _ _ hP hS (lv_sub hl [1, 0] rfl)

def g_X2_openAll_121 (k : Nat) (o1 : Nat)  (q121 : Int32 → Mem → Option Mem) (x3 : Int32) (μ : Mem) : Option Mem := if 6 ≤ x3 then (some μ) else (if (μ.1 k 0) ≤ x3 then (f_X2_openAll_145 k o1 q121 x3 x3 0 μ) else (f_X2_openAll_145 k o1 q121 x3 x3 1 μ))
def f_X2_openAll_121 (k : Nat) (o1 : Nat)  : Nat → Int32 → Mem → Option Mem
  | 0, _, _ => none
  | n + 1, x3, μ => g_X2_openAll_121 k o1 (f_X2_openAll_121 k o1 n) x3 μ
set_option maxRecDepth 100000 in
set_option maxHeartbeats 4000000 in
theorem w_X2_openAll_121 {p : Program} {l : Launch} {e : Env} {s : State} {m : MethodId} {args : Array Value} {below : List Frame} {meth : Method} {c : Code} {G : Gp} {O : Mem} (C : Cx p s m args meth c cX2_openAll 4 RX2 none G) {k : Nat} {o1 : Nat} (hA : At sOpening k) (hB1 : At sGround o1) {q121 : Int32 → Mem → Option Mem} (hq121 : ∀ (x3 : Int32) (μ : Mem), q121 x3 μ = some O → ∀ (H : Heap) (locs : List Loc) (ls : Array Slot), Wm G μ H → va_S (wA G) s.heap H locs → lv_has ls 4 [(0, .ref (G.2.2 k)), (3, .int x3)] → W p l e (rmm 1 26) s m args below meth c H locs 0 0 (QV below args s G O) (F0 m 121 ls [])) : ∀ (x3 : Int32) (μ : Mem), g_X2_openAll_121 k o1 q121 x3 μ = some O → ∀ (H : Heap) (locs : List Loc) (ls : Array Slot), Wm G μ H → va_S (wA G) s.heap H locs → lv_has ls 4 [(0, .ref (G.2.2 k)), (3, .int x3)] → W p l e (rmm 1 26) s m args below meth c H locs 0 0 (QV below args s G O) (F0 m 121 ls []) := by
  intro x3 μ h H locs ls hP hS hl
  unfold g_X2_openAll_121 at h
  have q_k_0 : shp[k]? = some (.inl (2, fs2)) := hA 0 _ rfl
  refine lv_iload_n C.x C.b dX2_openAll_121 rfl (lv_at hl 1 rfl) ?_
  refine lv_bipush (v := 6) C.x C.b dX2_openAll_122 (by decide) ?_
  refine lv_icmp_ge (tgt := 171) C.x C.b dX2_openAll_124 (by decide) (fun c1 => ?_) (fun c1 => ?_)
  · have h := (if_pos c1).symm.trans h
    exact r_v h C hP hS dX2_openAll_171
  · have h := (if_neg c1).symm.trans h
    refine lv_aload_n C.x C.b dX2_openAll_127 rfl (lv_at hl 0 rfl) ?_
    refine g_ref (k' := k + 1) F_2_6 u1_101 C hP q_k_0 rfl dX2_openAll_128 ?_
    refine lv_iload_n C.x C.b dX2_openAll_131 rfl (lv_at hl 1 rfl) ?_
    refine lv_iload_n C.x C.b dX2_openAll_132 rfl (lv_at hl 1 rfl) ?_
    refine lv_aload_n C.x C.b dX2_openAll_133 rfl (lv_at hl 0 rfl) ?_
    refine g_int F_2_0 u1_90 C hP q_k_0 dX2_openAll_134 ?_
    refine lv_icmp_ge (tgt := 144) C.x C.b dX2_openAll_137 (by decide) (fun c2 => ?_) (fun c2 => ?_)
    · have h := (if_pos c2).symm.trans h
      refine lv_iconst (v := 0) C.x C.b dX2_openAll_144 (by decide) ?_
      exact b_X2_openAll_145 C hA hB1 hq121 x3 x3 0 μ h _ _ _ hP hS (lv_sub hl [0, 1] rfl)
    · have h := (if_neg c2).symm.trans h
      refine lv_iconst (v := 1) C.x C.b dX2_openAll_140 (by decide) ?_
      refine lv_goto (tgt := 145) C.x C.b dX2_openAll_141 (by decide) ?_
      exact b_X2_openAll_145 C hA hB1 hq121 x3 x3 1 μ h _ _ _ hP hS (lv_sub hl [0, 1] rfl)

set_option maxRecDepth 100000 in
set_option maxHeartbeats 4000000 in
theorem b_X2_openAll_121 {p : Program} {l : Launch} {e : Env} {s : State} {m : MethodId} {args : Array Value} {below : List Frame} {meth : Method} {c : Code} {G : Gp} {O : Mem} (C : Cx p s m args meth c cX2_openAll 4 RX2 none G) {k : Nat} {o1 : Nat} (hA : At sOpening k) (hB1 : At sGround o1) : ∀ (n : Nat) (x3 : Int32) (μ : Mem), f_X2_openAll_121 k o1 n x3 μ = some O → ∀ (H : Heap) (locs : List Loc) (ls : Array Slot), Wm G μ H → va_S (wA G) s.heap H locs → lv_has ls 4 [(0, .ref (G.2.2 k)), (3, .int x3)] → W p l e (rmm 1 26) s m args below meth c H locs 0 0 (QV below args s G O) (F0 m 121 ls []) := by
  intro n
  induction n with
  | zero => intro x3 μ h; cases h
  | succ n ih => intro x3 μ h; exact w_X2_openAll_121 C hA hB1 (q121 := f_X2_openAll_121 k o1 n) ih x3 μ h

def f_X2_openAll_99 (k : Nat) (o1 : Nat)  (z1 : Int32) (z2 : Int32) (μ : Mem) : Option Mem := lt (st μ k 1 (z1 + z2)) (fun μ1 => lt (st μ1 k 2 (μ1.1 k 0)) (fun μ2 => lt (st μ2 k 3 (μ2.1 k 1)) (fun μ3 => f_X2_openAll_121 k o1 FU 0 μ3)))
set_option maxRecDepth 100000 in
set_option maxHeartbeats 4000000 in
theorem b_X2_openAll_99 {p : Program} {l : Launch} {e : Env} {s : State} {m : MethodId} {args : Array Value} {below : List Frame} {meth : Method} {c : Code} {G : Gp} {O : Mem} (C : Cx p s m args meth c cX2_openAll 4 RX2 none G) {k : Nat} {o1 : Nat} (hA : At sOpening k) (hB1 : At sGround o1) : ∀ (z1 : Int32) (z2 : Int32) (μ : Mem), f_X2_openAll_99 k o1 z1 z2 μ = some O → ∀ (H : Heap) (locs : List Loc) (ls : Array Slot), Wm G μ H → va_S (wA G) s.heap H locs → lv_has ls 4 [(0, .ref (G.2.2 k))] → W p l e (rmm 1 26) s m args below meth c H locs 0 0 (QV below args s G O) (F0 m 99 ls [.int z2, .int z1, .ref (G.2.2 k)]) := by
  intro z1 z2 μ h H locs ls hP hS hl
  unfold f_X2_openAll_99 at h
  have q_k_0 : shp[k]? = some (.inl (2, fs2)) := hA 0 _ rfl
  refine lv_iadd C.x C.b dX2_openAll_99 ?_
  refine p_int F_2_1 P_2_1 u1_92 C hP hS q_k_0 dX2_openAll_100 (fun H locs hP hS => ?_)
  obtain ⟨μ1, m_μ1, h⟩ := lt_ex h
  have hP : Wm G μ1 H := by rw [m_μ1]; exact hP
  refine lv_aload_n C.x C.b dX2_openAll_103 rfl (lv_at hl 0 rfl) ?_
  refine lv_aload_n C.x C.b dX2_openAll_104 rfl (lv_at hl 0 rfl) ?_
  refine g_int F_2_0 u1_90 C hP q_k_0 dX2_openAll_105 ?_
  refine p_int F_2_2 P_2_2 u1_94 C hP hS q_k_0 dX2_openAll_108 (fun H locs hP hS => ?_)
  obtain ⟨μ2, m_μ2, h⟩ := lt_ex h
  have hP : Wm G μ2 H := by rw [m_μ2]; exact hP
  refine lv_aload_n C.x C.b dX2_openAll_111 rfl (lv_at hl 0 rfl) ?_
  refine lv_aload_n C.x C.b dX2_openAll_112 rfl (lv_at hl 0 rfl) ?_
  refine g_int F_2_1 u1_92 C hP q_k_0 dX2_openAll_113 ?_
  refine p_int F_2_3 P_2_3 u1_95 C hP hS q_k_0 dX2_openAll_116 (fun H locs hP hS => ?_)
  obtain ⟨μ3, m_μ3, h⟩ := lt_ex h
  have hP : Wm G μ3 H := by rw [m_μ3]; exact hP
  refine lv_iconst (v := 0) C.x C.b dX2_openAll_119 (by decide) ?_
  refine lv_istore_n (lv' := [(3, .int 0), (0, .ref (G.2.2 k))]) C.x C.b dX2_openAll_120 rfl hl (by decide) rfl (fun ls hl => ?_)
  exact b_X2_openAll_121 C hA hB1 FU 0 μ3 h _ _ _ hP hS (lv_sub hl [1, 0] rfl)

def f_X2_openAll_81 (k : Nat) (o1 : Nat)  (x2 : Int32) (z1 : Int32) (z2 : Int32) (μ : Mem) : Option Mem := lt (st μ k 0 (z1 + z2)) (fun μ1 => if x2 ≤ 0 then (f_X2_openAll_99 k o1 (μ1.1 o1 1) 0 μ1) else (f_X2_openAll_99 k o1 (μ1.1 o1 1) 1 μ1))
set_option maxRecDepth 100000 in
set_option maxHeartbeats 4000000 in
theorem b_X2_openAll_81 {p : Program} {l : Launch} {e : Env} {s : State} {m : MethodId} {args : Array Value} {below : List Frame} {meth : Method} {c : Code} {G : Gp} {O : Mem} (C : Cx p s m args meth c cX2_openAll 4 RX2 none G) {k : Nat} {o1 : Nat} (hA : At sOpening k) (hB1 : At sGround o1) : ∀ (x2 : Int32) (z1 : Int32) (z2 : Int32) (μ : Mem), f_X2_openAll_81 k o1 x2 z1 z2 μ = some O → ∀ (H : Heap) (locs : List Loc) (ls : Array Slot), Wm G μ H → va_S (wA G) s.heap H locs → lv_has ls 4 [(0, .ref (G.2.2 k)), (1, .ref (G.2.2 o1)), (2, .int x2)] → W p l e (rmm 1 26) s m args below meth c H locs 0 0 (QV below args s G O) (F0 m 81 ls [.int z2, .int z1, .ref (G.2.2 k)]) := by
  intro x2 z1 z2 μ h H locs ls hP hS hl
  unfold f_X2_openAll_81 at h
  have q_k_0 : shp[k]? = some (.inl (2, fs2)) := hA 0 _ rfl
  have q_o1_0 : shp[o1]? = some (.inl (0, fs0)) := hB1 0 _ rfl
  refine lv_iadd C.x C.b dX2_openAll_81 ?_
  refine p_int F_2_0 P_2_0 u1_90 C hP hS q_k_0 dX2_openAll_82 (fun H locs hP hS => ?_)
  obtain ⟨μ1, m_μ1, h⟩ := lt_ex h
  have hP : Wm G μ1 H := by rw [m_μ1]; exact hP
  refine lv_aload_n C.x C.b dX2_openAll_85 rfl (lv_at hl 0 rfl) ?_
  refine lv_aload_n C.x C.b dX2_openAll_86 rfl (lv_at hl 1 rfl) ?_
  refine g_int F_0_1 u1_43 C hP q_o1_0 dX2_openAll_87 ?_
  refine lv_iload_n C.x C.b dX2_openAll_90 rfl (lv_at hl 2 rfl) ?_
  refine lv_if_le (tgt := 98) C.x C.b dX2_openAll_91 (by decide) (fun c2 => ?_) (fun c2 => ?_)
  · have h := (if_pos c2).symm.trans h
    refine lv_iconst (v := 0) C.x C.b dX2_openAll_98 (by decide) ?_
    exact b_X2_openAll_99 C hA hB1 (μ1.1 o1 1) 0 μ1 h _ _ _ hP hS (lv_sub hl [0] rfl)
  · have h := (if_neg c2).symm.trans h
    refine lv_iconst (v := 1) C.x C.b dX2_openAll_94 (by decide) ?_
    refine lv_goto (tgt := 99) C.x C.b dX2_openAll_95 (by decide) ?_
    exact b_X2_openAll_99 C hA hB1 (μ1.1 o1 1) 1 μ1 h _ _ _ hP hS (lv_sub hl [0] rfl)

def f_X2_openAll (k : Nat) (o1 : Nat) (μ : Mem) : Option Mem := bnv (f_X0_allStones o1 μ) (fun r2 => bnv (f_X0_allWants o1 μ) (fun r4 => lt (r2 - r4) (fun y5 => grd (cpyOk 0 0 5 5 6) (lt (cst μ (k + 3) (va_cpy (μ.1 (o1 + 1)) (μ.1 (k + 3)) (0 : Int32).toNatClampNeg (0 : Int32).toNatClampNeg (5 : Int32).toNatClampNeg)) (fun μ7 => grd (cpyOk 0 0 5 5 6) (lt (cst μ7 (k + 4) (va_cpy (μ7.1 (o1 + 3)) (μ7.1 (k + 4)) (0 : Int32).toNatClampNeg (0 : Int32).toNatClampNeg (5 : Int32).toNatClampNeg)) (fun μ9 => grd (inb (μ9.1 o1 0) 6) (lt (st μ9 (k + 3) (μ9.1 o1 0).toNatClampNeg (mx 0 (-y5))) (fun μ11 => grd (inb (μ11.1 o1 1) 6) (lt (st μ11 (k + 4) (μ11.1 o1 1).toNatClampNeg (mx 0 y5)) (fun μ13 => if 0 ≤ y5 then (f_X2_openAll_81 k o1 y5 (μ13.1 o1 0) 0 μ13) else (f_X2_openAll_81 k o1 y5 (μ13.1 o1 0) 1 μ13))))))))))))
set_option maxRecDepth 100000 in
set_option maxHeartbeats 4000000 in
theorem b_X2_openAll {p : Program} {l : Launch} {e : Env} {s : State} {m : MethodId} {args : Array Value} {below : List Frame} {meth : Method} {c : Code} {G : Gp} {O : Mem} (C : Cx p s m args meth c cX2_openAll 4 RX2 none G) {k : Nat} {o1 : Nat} (hA : At sOpening k) (hB1 : At sGround o1) {μ : Mem} (h : f_X2_openAll k o1 μ = some O) : ∀ (H : Heap) (locs : List Loc) (ls : Array Slot), Wm G μ H → va_S (wA G) s.heap H locs → lv_has ls 4 [(0, .ref (G.2.2 k)), (1, .ref (G.2.2 o1))] → W p l e (rmm 1 26) s m args below meth c H locs 0 0 (QV below args s G O) (F0 m 0 ls []) := by
  unfold f_X2_openAll at h
  intro H locs ls hP hS hl
  have q_k_0 : shp[k]? = some (.inl (2, fs2)) := hA 0 _ rfl
  have q_k_3 : shp[k + 3]? = some (.inr (0, 6)) := hA 3 _ rfl
  have q_k_4 : shp[k + 4]? = some (.inr (0, 6)) := hA 4 _ rfl
  have q_o1_0 : shp[o1]? = some (.inl (0, fs0)) := hB1 0 _ rfl
  have q_o1_1 : shp[o1 + 1]? = some (.inr (0, 5)) := hB1 1 _ rfl
  have q_o1_3 : shp[o1 + 3]? = some (.inr (0, 5)) := hB1 3 _ rfl
  refine lv_aload_n C.x C.b dX2_openAll_0 rfl (lv_at hl 1 rfl) ?_
  obtain ⟨r2, e1, h⟩ := bnv_some h
  refine k_vi (k := o1) (as := []) (rest := []) (c_X0_allStones C.i hB1 e1) M_X0_allStones u2_230 C hP hS q_o1_0 rfl rfl (by decide) hl.1 rfl (Nat.le_of_ble_eq_true rfl) dX2_openAll_1 (fun H locs hP hS => ?_)
  refine lv_aload_n C.x C.b dX2_openAll_4 rfl (lv_at hl 1 rfl) ?_
  obtain ⟨r4, e3, h⟩ := bnv_some h
  refine k_vi (k := o1) (as := []) (rest := [.int r2]) (c_X0_allWants C.i hB1 e3) M_X0_allWants u2_234 C hP hS q_o1_0 rfl rfl (by decide) hl.1 rfl (Nat.le_of_ble_eq_true rfl) dX2_openAll_5 (fun H locs hP hS => ?_)
  refine lv_isub C.x C.b dX2_openAll_8 ?_
  refine lv_topi (fun y5 e_y5 => ?_)
  have h := lt_at h e_y5
  refine lv_istore_n (lv' := [(2, .int y5), (0, .ref (G.2.2 k)), (1, .ref (G.2.2 o1))]) C.x C.b dX2_openAll_9 rfl hl (by decide) rfl (fun ls hl => ?_)
  refine lv_aload_n C.x C.b dX2_openAll_10 rfl (lv_at hl 2 rfl) ?_
  refine g_ref (k' := o1 + 1) F_0_2 u1_47 C hP q_o1_0 rfl dX2_openAll_11 ?_
  refine lv_iconst (v := 0) C.x C.b dX2_openAll_14 (by decide) ?_
  refine lv_aload_n C.x C.b dX2_openAll_15 rfl (lv_at hl 1 rfl) ?_
  refine g_ref (k' := k + 3) F_2_8 u1_103 C hP q_k_0 rfl dX2_openAll_16 ?_
  refine lv_iconst (v := 0) C.x C.b dX2_openAll_19 (by decide) ?_
  refine lv_iconst (v := 5) C.x C.b dX2_openAll_20 (by decide) ?_
  obtain ⟨g6, h⟩ := grd_some h
  refine k_cpy u2_238 C hP hS hl.1 q_o1_1 q_k_3 g6 ⟨by decide, Nat.le_of_ble_eq_true rfl⟩ dX2_openAll_21 (fun H locs hP hS => ?_)
  obtain ⟨μ7, m_μ7, h⟩ := lt_ex h
  have hP : Wm G μ7 H := by rw [m_μ7]; exact hP
  refine lv_aload_n C.x C.b dX2_openAll_24 rfl (lv_at hl 2 rfl) ?_
  refine g_ref (k' := o1 + 3) F_0_4 u1_51 C hP q_o1_0 rfl dX2_openAll_25 ?_
  refine lv_iconst (v := 0) C.x C.b dX2_openAll_28 (by decide) ?_
  refine lv_aload_n C.x C.b dX2_openAll_29 rfl (lv_at hl 1 rfl) ?_
  refine g_ref (k' := k + 4) F_2_9 u1_104 C hP q_k_0 rfl dX2_openAll_30 ?_
  refine lv_iconst (v := 0) C.x C.b dX2_openAll_33 (by decide) ?_
  refine lv_iconst (v := 5) C.x C.b dX2_openAll_34 (by decide) ?_
  obtain ⟨g8, h⟩ := grd_some h
  refine k_cpy u2_238 C hP hS hl.1 q_o1_3 q_k_4 g8 ⟨by decide, Nat.le_of_ble_eq_true rfl⟩ dX2_openAll_35 (fun H locs hP hS => ?_)
  obtain ⟨μ9, m_μ9, h⟩ := lt_ex h
  have hP : Wm G μ9 H := by rw [m_μ9]; exact hP
  refine lv_aload_n C.x C.b dX2_openAll_38 rfl (lv_at hl 1 rfl) ?_
  refine g_ref (k' := k + 3) F_2_8 u1_103 C hP q_k_0 rfl dX2_openAll_39 ?_
  refine lv_aload_n C.x C.b dX2_openAll_42 rfl (lv_at hl 2 rfl) ?_
  refine g_int F_0_0 u1_39 C hP q_o1_0 dX2_openAll_43 ?_
  refine lv_iconst (v := 0) C.x C.b dX2_openAll_46 (by decide) ?_
  refine lv_iload_n C.x C.b dX2_openAll_47 rfl (lv_at hl 0 rfl) ?_
  refine lv_ineg C.x C.b dX2_openAll_48 ?_
  refine k_max u3_1 C hl.1 ⟨by decide, Nat.le_of_ble_eq_true rfl⟩ dX2_openAll_49 ?_
  obtain ⟨g10, h⟩ := grd_some h
  refine as_i C hP hS q_k_3 g10 dX2_openAll_52 (fun H locs hP hS => ?_)
  obtain ⟨μ11, m_μ11, h⟩ := lt_ex h
  have hP : Wm G μ11 H := by rw [m_μ11]; exact hP
  refine lv_aload_n C.x C.b dX2_openAll_53 rfl (lv_at hl 1 rfl) ?_
  refine g_ref (k' := k + 4) F_2_9 u1_104 C hP q_k_0 rfl dX2_openAll_54 ?_
  refine lv_aload_n C.x C.b dX2_openAll_57 rfl (lv_at hl 2 rfl) ?_
  refine g_int F_0_1 u1_43 C hP q_o1_0 dX2_openAll_58 ?_
  refine lv_iconst (v := 0) C.x C.b dX2_openAll_61 (by decide) ?_
  refine lv_iload_n C.x C.b dX2_openAll_62 rfl (lv_at hl 0 rfl) ?_
  refine k_max u3_1 C hl.1 ⟨by decide, Nat.le_of_ble_eq_true rfl⟩ dX2_openAll_63 ?_
  obtain ⟨g12, h⟩ := grd_some h
  refine as_i C hP hS q_k_4 g12 dX2_openAll_66 (fun H locs hP hS => ?_)
  obtain ⟨μ13, m_μ13, h⟩ := lt_ex h
  have hP : Wm G μ13 H := by rw [m_μ13]; exact hP
  refine lv_aload_n C.x C.b dX2_openAll_67 rfl (lv_at hl 1 rfl) ?_
  refine lv_aload_n C.x C.b dX2_openAll_68 rfl (lv_at hl 2 rfl) ?_
  refine g_int F_0_0 u1_39 C hP q_o1_0 dX2_openAll_69 ?_
  refine lv_iload_n C.x C.b dX2_openAll_72 rfl (lv_at hl 0 rfl) ?_
  refine lv_if_ge (tgt := 80) C.x C.b dX2_openAll_73 (by decide) (fun c14 => ?_) (fun c14 => ?_)
  · have h := (if_pos c14).symm.trans h
    refine lv_iconst (v := 0) C.x C.b dX2_openAll_80 (by decide) ?_
    exact b_X2_openAll_81 C hA hB1 y5 (μ13.1 o1 0) 0 μ13 h _ _ _ hP hS (lv_sub hl [1, 2, 0] rfl)
  · have h := (if_neg c14).symm.trans h
    refine lv_iconst (v := 1) C.x C.b dX2_openAll_76 (by decide) ?_
    refine lv_goto (tgt := 81) C.x C.b dX2_openAll_77 (by decide) ?_
    exact b_X2_openAll_81 C hA hB1 y5 (μ13.1 o1 0) 1 μ13 h _ _ _ hP hS (lv_sub hl [1, 2, 0] rfl)

set_option maxRecDepth 100000 in
set_option maxHeartbeats 4000000 in
theorem c_X2_openAll {l : Launch} {G : Gp} (hI : Wi G) {k : Nat} {o1 : Nat} (hA : At sOpening k) (hB1 : At sGround o1) {μ : Mem} {μ' : Mem} (h : f_X2_openAll k o1 μ = some μ') : CV l yX2_openAll cX2_openAll 4 none 1 26 G [.ref (G.2.2 k), .ref (G.2.2 o1)] μ μ' :=
  e_all (lv := [(0, .ref (G.2.2 k)), (1, .ref (G.2.2 o1))]) hI (by decide) (Nat.le_of_ble_eq_true rfl) rfl (fun p e s m args below meth c ls C hP hS hl => b_X2_openAll C hA hB1 h _ _ _ hP hS hl)

