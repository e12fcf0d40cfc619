def g_X9_sum_4 (x1 : Int32)  (μ : Mem) (q4 : Int32 → Int32 → Option Int32) (x2 : Int32) (x3 : Int32) : Option Int32 := bnv (f_X9_many x1 μ) (fun r2 => if r2 ≤ x3 then (some x2) else (grd (inb ((5 * x1) + x3) 10) (lt (x2 + (μ.1 123 ((5 * x1) + x3).toNatClampNeg)) (fun y5 => lt (x3 + 1) (fun y6 => q4 y5 y6)))))
def f_X9_sum_4 (x1 : Int32)  (μ : Mem) : Nat → Int32 → Int32 → Option Int32
  | 0, _, _ => none
  | n + 1, x2, x3 => g_X9_sum_4 x1 μ (f_X9_sum_4 x1 μ n) x2 x3
set_option maxRecDepth 100000 in
set_option maxHeartbeats 4000000 in
theorem w_X9_sum_4 {p : Program} {l : Launch} {e : Env} {s : State} {m : MethodId} {args : Array Value} {below : List Frame} {meth : Method} {c : Code} {G : Gp} {O : Int32} (C : Cx p s m args meth c cX9_sum 4 RX9 (some .int) G) {x1 : Int32} {μ : Mem} {q4 : Int32 → Int32 → Option Int32} (hq4 : ∀ (x2 : Int32) (x3 : Int32), q4 x2 x3 = some O → ∀ (H : Heap) (locs : List Loc) (ls : Array Slot), Wm G μ H → va_S (wA G) s.heap H locs → lv_has ls 4 [(0, .ref (G.2.2 122)), (1, .int x1), (2, .int x2), (3, .int x3)] → W p l e (rmm 1 21) s m args below meth c H locs 0 0 (QI below args s G (O, μ)) (F0 m 4 ls [])) : ∀ (x2 : Int32) (x3 : Int32), g_X9_sum_4 x1 μ q4 x2 x3 = some O → ∀ (H : Heap) (locs : List Loc) (ls : Array Slot), Wm G μ H → va_S (wA G) s.heap H locs → lv_has ls 4 [(0, .ref (G.2.2 122)), (1, .int x1), (2, .int x2), (3, .int x3)] → W p l e (rmm 1 21) s m args below meth c H locs 0 0 (QI below args s G (O, μ)) (F0 m 4 ls []) := by
  intro x2 x3 h H locs ls hP hS hl
  unfold g_X9_sum_4 at h
  refine lv_iload_n C.x C.b dX9_sum_4 rfl (lv_at hl 3 rfl) ?_
  refine lv_aload_n C.x C.b dX9_sum_5 rfl (lv_at hl 0 rfl) ?_
  refine lv_iload_n C.x C.b dX9_sum_6 rfl (lv_at hl 1 rfl) ?_
  obtain ⟨r2, e1, h⟩ := bnv_some h
  refine k_vi (k := 122) (as := [.int x1]) (rest := [.int x3]) (c_X9_many C.i e1) M_X9_many u5_76 C hP hS sh_122 rfl rfl (by decide) hl.1 rfl (Nat.le_of_ble_eq_true rfl) dX9_sum_7 (fun H locs hP hS => ?_)
  refine lv_icmp_ge (tgt := 32) C.x C.b dX9_sum_10 (by decide) (fun c3 => ?_) (fun c3 => ?_)
  · have h := (if_pos c3).symm.trans h
    refine lv_iload_n C.x C.b dX9_sum_32 rfl (lv_at hl 2 rfl) ?_
    exact r_i (pr_some h) C hP hS dX9_sum_33
  · have h := (if_neg c3).symm.trans h
    refine lv_iload_n C.x C.b dX9_sum_13 rfl (lv_at hl 2 rfl) ?_
    refine lv_aload_n C.x C.b dX9_sum_14 rfl (lv_at hl 0 rfl) ?_
    refine g_ref (k' := 123) F_9_2 u4_131 C hP sh_122 rfl dX9_sum_15 ?_
    refine lv_iconst (v := 5) C.x C.b dX9_sum_18 (by decide) ?_
    refine lv_iload_n C.x C.b dX9_sum_19 rfl (lv_at hl 1 rfl) ?_
    refine lv_imul C.x C.b dX9_sum_20 ?_
    refine lv_iload_n C.x C.b dX9_sum_21 rfl (lv_at hl 3 rfl) ?_
    refine lv_iadd C.x C.b dX9_sum_22 ?_
    obtain ⟨g4, h⟩ := grd_some h
    refine a_i C hP sh_123 g4 dX9_sum_23 ?_
    refine lv_iadd C.x C.b dX9_sum_24 ?_
    refine lv_topi (fun y5 e_y5 => ?_)
    have h := lt_at h e_y5
    refine lv_istore_n (lv' := [(2, .int y5), (0, .ref (G.2.2 122)), (1, .int x1), (3, .int x3)]) C.x C.b dX9_sum_25 rfl hl (by decide) rfl (fun ls hl => ?_)
    obtain ⟨y6, e_y6, h⟩ := lt_ex h
    refine lv_iinc (v := y6) (lv' := [(3, .int y6), (2, .int y5), (0, .ref (G.2.2 122)), (1, .int x1)]) C.x C.b dX9_sum_26 hl (k := 3) rfl (by rw [e_y6]; rfl) (by decide) rfl (fun ls hl => ?_)
    refine lv_goto (tgt := 4) C.x C.b dX9_sum_29 (by decide) ?_
    exact hq4 y5 y6 h _ _ _ hP hS (lv_sub hl [2, 3, 1, 0] rfl)

set_option maxRecDepth 100000 in
set_option maxHeartbeats 4000000 in
theorem b_X9_sum_4 {p : Program} {l : Launch} {e : Env} {s : State} {m : MethodId} {args : Array Value} {below : List Frame} {meth : Method} {c : Code} {G : Gp} {O : Int32} (C : Cx p s m args meth c cX9_sum 4 RX9 (some .int) G) {x1 : Int32} {μ : Mem} : ∀ (n : Nat) (x2 : Int32) (x3 : Int32), f_X9_sum_4 x1 μ n x2 x3 = some O → ∀ (H : Heap) (locs : List Loc) (ls : Array Slot), Wm G μ H → va_S (wA G) s.heap H locs → lv_has ls 4 [(0, .ref (G.2.2 122)), (1, .int x1), (2, .int x2), (3, .int x3)] → W p l e (rmm 1 21) s m args below meth c H locs 0 0 (QI below args s G (O, μ)) (F0 m 4 ls []) := by
  intro n
  induction n with
  | zero => intro x2 x3 h; cases h
  | succ n ih => intro x2 x3 h; exact w_X9_sum_4 C (q4 := f_X9_sum_4 x1 μ n) ih x2 x3 h

def f_X9_sum (x1 : Int32) (μ : Mem) : Option Int32 := f_X9_sum_4 x1 μ FU 0 0
set_option maxRecDepth 100000 in
set_option maxHeartbeats 4000000 in
theorem b_X9_sum {p : Program} {l : Launch} {e : Env} {s : State} {m : MethodId} {args : Array Value} {below : List Frame} {meth : Method} {c : Code} {G : Gp} {O : Int32} (C : Cx p s m args meth c cX9_sum 4 RX9 (some .int) G) {x1 : Int32} {μ : Mem} (h : f_X9_sum x1 μ = some O) : ∀ (H : Heap) (locs : List Loc) (ls : Array Slot), Wm G μ H → va_S (wA G) s.heap H locs → lv_has ls 4 [(0, .ref (G.2.2 122)), (1, .int x1)] → W p l e (rmm 1 21) s m args below meth c H locs 0 0 (QI below args s G (O, μ)) (F0 m 0 ls []) := by
  unfold f_X9_sum at h
  intro H locs ls hP hS hl
  refine lv_iconst (v := 0) C.x C.b dX9_sum_0 (by decide) ?_
  refine lv_istore_n (lv' := [(2, .int 0), (0, .ref (G.2.2 122)), (1, .int x1)]) C.x C.b dX9_sum_1 rfl hl (by decide) rfl (fun ls hl => ?_)
  refine lv_iconst (v := 0) C.x C.b dX9_sum_2 (by decide) ?_
  refine lv_istore_n (lv' := [(3, .int 0), (2, .int 0), (0, .ref (G.2.2 122)), (1, .int x1)]) C.x C.b dX9_sum_3 rfl hl (by decide) rfl (fun ls hl => ?_)
  exact b_X9_sum_4 C FU 0 0 h _ _ _ hP hS (lv_sub hl [2, 3, 1, 0] rfl)

set_option maxRecDepth 100000 in
set_option maxHeartbeats 4000000 in
theorem c_X9_sum {l : Launch} {G : Gp} (hI : Wi G) {x1 : Int32} {μ : Mem} {r : Int32} (h : f_X9_sum x1 μ = some r) : CI l yX9_sum cX9_sum 4 (some .int) 1 21 G [.ref (G.2.2 122), .int x1] μ r μ :=
  e_all (lv := [(0, .ref (G.2.2 122)), (1, .int x1)]) hI (by decide) (Nat.le_of_ble_eq_true rfl) rfl (fun p e s m args below meth c ls C hP hS hl => b_X9_sum C h _ _ _ hP hS hl)


def f_X9_opens_133  (q55 : Int32 → Int32 → Mem → Option Mem) (x1 : Int32) (x2 : Int32) (z1 : Int32) (z2 : Int32) (μ : Mem) : Option Mem := grd (inb z1 12) (grd (isB z2) (lt (st μ 141 z1.toNatClampNeg z2) (fun μ3 => if (μ3.1 122 8) ≤ x2 then (grd (inb (6 + x2) 12) (lt (st μ3 141 (6 + x2).toNatClampNeg 0) (fun μ6 => lt (x2 + 1) (fun y7 => q55 x1 y7 μ6)))) else (grd (inb (6 + x2) 12) (lt (st μ3 141 (6 + x2).toNatClampNeg 1) (fun μ9 => lt (x2 + 1) (fun y10 => q55 x1 y10 μ9)))))))
set_option maxRecDepth 100000 in
set_option maxHeartbeats 4000000 in
theorem b_X9_opens_133 {p : Program} {l : Launch} {e : Env} {s : State} {m : MethodId} {args : Array Value} {below : List Frame} {meth : Method} {c : Code} {G : Gp} {O : Mem} (C : Cx p s m args meth c cX9_opens 3 RX9 none G) {q55 : Int32 → Int32 → Mem → Option Mem} (hq55 : ∀ (x1 : Int32) (x2 : Int32) (μ : Mem), q55 x1 x2 μ = some O → ∀ (H : Heap) (locs : List Loc) (ls : Array Slot), Wm G μ H → va_S (wA G) s.heap H locs → lv_has ls 3 [(0, .ref (G.2.2 122)), (1, .int x1), (2, .int x2)] → W p l e (rmm 2 47) s m args below meth c H locs 0 0 (QV below args s G O) (F0 m 55 ls [])) : ∀ (x1 : Int32) (x2 : Int32) (z1 : Int32) (z2 : Int32) (μ : Mem), f_X9_opens_133 q55 x1 x2 z1 z2 μ = some O → ∀ (H : Heap) (locs : List Loc) (ls : Array Slot), Wm G μ H → va_S (wA G) s.heap H locs → lv_has ls 3 [(0, .ref (G.2.2 122)), (1, .int x1), (2, .int x2)] → W p l e (rmm 2 47) s m args below meth c H locs 0 0 (QV below args s G O) (F0 m 133 ls [.int z2, .int z1, .ref (G.2.2 141)]) := by
  intro x1 x2 z1 z2 μ h H locs ls hP hS hl
  unfold f_X9_opens_133 at h
  obtain ⟨g1, h⟩ := grd_some h
  obtain ⟨g2, h⟩ := grd_some h
  refine as_z C hP hS sh_141 g1 g2 dX9_opens_133 (fun H locs hP hS => ?_)
  obtain ⟨μ3, m_μ3, h⟩ := lt_ex h
  have hP : Wm G μ3 H := by rw [m_μ3]; exact hP
  refine lv_aload_n C.x C.b dX9_opens_134 rfl (lv_at hl 0 rfl) ?_
  refine g_ref (k' := 141) F_9_36 u4_165 C hP sh_122 rfl dX9_opens_135 ?_
  refine lv_bipush (v := 6) C.x C.b dX9_opens_138 (by decide) ?_
  refine lv_iload_n C.x C.b dX9_opens_140 rfl (lv_at hl 2 rfl) ?_
  refine lv_iadd C.x C.b dX9_opens_141 ?_
  refine lv_iload_n C.x C.b dX9_opens_142 rfl (lv_at hl 2 rfl) ?_
  refine lv_aload_n C.x C.b dX9_opens_143 rfl (lv_at hl 0 rfl) ?_
  refine g_int F_9_8 u4_137 C hP sh_122 dX9_opens_144 ?_
  refine lv_icmp_ge (tgt := 154) C.x C.b dX9_opens_147 (by decide) (fun c4 => ?_) (fun c4 => ?_)
  · have h := (if_pos c4).symm.trans h
    refine lv_iconst (v := 0) C.x C.b dX9_opens_154 (by decide) ?_
    obtain ⟨g5, h⟩ := grd_some h
    refine as_z C hP hS sh_141 g5 (by decide) dX9_opens_155 (fun H locs hP hS => ?_)
    obtain ⟨μ6, m_μ6, h⟩ := lt_ex h
    have hP : Wm G μ6 H := by rw [m_μ6]; exact hP
    obtain ⟨y7, e_y7, h⟩ := lt_ex h
    refine lv_iinc (v := y7) (lv' := [(2, .int y7), (0, .ref (G.2.2 122)), (1, .int x1)]) C.x C.b dX9_opens_156 hl (k := 2) rfl (by rw [e_y7]; rfl) (by decide) rfl (fun ls hl => ?_)
    refine lv_goto (tgt := 55) C.x C.b dX9_opens_159 (by decide) ?_
    exact hq55 x1 y7 μ6 h _ _ _ hP hS (lv_sub hl [1, 2, 0] rfl)
  · have h := (if_neg c4).symm.trans h
    refine lv_iconst (v := 1) C.x C.b dX9_opens_150 (by decide) ?_
    refine lv_goto (tgt := 155) C.x C.b dX9_opens_151 (by decide) ?_
    obtain ⟨g8, h⟩ := grd_some h
    refine as_z C hP hS sh_141 g8 (by decide) dX9_opens_155 (fun H locs hP hS => ?_)
    obtain ⟨μ9, m_μ9, h⟩ := lt_ex h
    have hP : Wm G μ9 H := by rw [m_μ9]; exact hP
    obtain ⟨y10, e_y10, h⟩ := lt_ex h
    refine lv_iinc (v := y10) (lv' := [(2, .int y10), (0, .ref (G.2.2 122)), (1, .int x1)]) C.x C.b dX9_opens_156 hl (k := 2) rfl (by rw [e_y10]; rfl) (by decide) rfl (fun ls hl => ?_)
    refine lv_goto (tgt := 55) C.x C.b dX9_opens_159 (by decide) ?_
    exact hq55 x1 y10 μ9 h _ _ _ hP hS (lv_sub hl [1, 2, 0] rfl)

def f_X9_opens_114  (q55 : Int32 → Int32 → Mem → Option Mem) (x1 : Int32) (x2 : Int32) (z1 : Int32) (z2 : Int32) (μ : Mem) : Option Mem := grd (inb z1 12) (lt (st μ 140 z1.toNatClampNeg z2) (fun μ2 => if (μ2.1 122 7) ≤ x2 then (f_X9_opens_133 q55 x1 x2 x2 0 μ2) else (f_X9_opens_133 q55 x1 x2 x2 1 μ2)))
set_option maxRecDepth 100000 in
set_option maxHeartbeats 4000000 in
theorem b_X9_opens_114 {p : Program} {l : Launch} {e : Env} {s : State} {m : MethodId} {args : Array Value} {below : List Frame} {meth : Method} {c : Code} {G : Gp} {O : Mem} (C : Cx p s m args meth c cX9_opens 3 RX9 none G) {q55 : Int32 → Int32 → Mem → Option Mem} (hq55 : ∀ (x1 : Int32) (x2 : Int32) (μ : Mem), q55 x1 x2 μ = some O → ∀ (H : Heap) (locs : List Loc) (ls : Array Slot), Wm G μ H → va_S (wA G) s.heap H locs → lv_has ls 3 [(0, .ref (G.2.2 122)), (1, .int x1), (2, .int x2)] → W p l e (rmm 2 47) s m args below meth c H locs 0 0 (QV below args s G O) (F0 m 55 ls [])) : ∀ (x1 : Int32) (x2 : Int32) (z1 : Int32) (z2 : Int32) (μ : Mem), f_X9_opens_114 q55 x1 x2 z1 z2 μ = some O → ∀ (H : Heap) (locs : List Loc) (ls : Array Slot), Wm G μ H → va_S (wA G) s.heap H locs → lv_has ls 3 [(0, .ref (G.2.2 122)), (1, .int x1), (2, .int x2)] → W p l e (rmm 2 47) s m args below meth c H locs 0 0 (QV below args s G O) (F0 m 114 ls [.int z2, .int z1, .ref (G.2.2 140)]) := by
  intro x1 x2 z1 z2 μ h H locs ls hP hS hl
  unfold f_X9_opens_114 at h
  obtain ⟨g1, h⟩ := grd_some h
  refine as_i C hP hS sh_140 g1 dX9_opens_114 (fun H locs hP hS => ?_)
  obtain ⟨μ2, m_μ2, h⟩ := lt_ex h
  have hP : Wm G μ2 H := by rw [m_μ2]; exact hP
  refine lv_aload_n C.x C.b dX9_opens_115 rfl (lv_at hl 0 rfl) ?_
  refine g_ref (k' := 141) F_9_36 u4_165 C hP sh_122 rfl dX9_opens_116 ?_
  refine lv_iload_n C.x C.b dX9_opens_119 rfl (lv_at hl 2 rfl) ?_
  refine lv_iload_n C.x C.b dX9_opens_120 rfl (lv_at hl 2 rfl) ?_
  refine lv_aload_n C.x C.b dX9_opens_121 rfl (lv_at hl 0 rfl) ?_
  refine g_int F_9_7 u4_136 C hP sh_122 dX9_opens_122 ?_
  refine lv_icmp_ge (tgt := 132) C.x C.b dX9_opens_125 (by decide) (fun c3 => ?_) (fun c3 => ?_)
  · have h := (if_pos c3).symm.trans h
    refine lv_iconst (v := 0) C.x C.b dX9_opens_132 (by decide) ?_
    exact b_X9_opens_133 C hq55 x1 x2 x2 0 μ2 h _ _ _ hP hS (lv_sub hl [0, 1, 2] rfl)
  · have h := (if_neg c3).symm.trans h
    refine lv_iconst (v := 1) C.x C.b dX9_opens_128 (by decide) ?_
    refine lv_goto (tgt := 133) C.x C.b dX9_opens_129 (by decide) ?_
    exact b_X9_opens_133 C hq55 x1 x2 x2 1 μ2 h _ _ _ hP hS (lv_sub hl [0, 1, 2] rfl)

def f_X9_opens_85  (q55 : Int32 → Int32 → Mem → Option Mem) (x1 : Int32) (x2 : Int32) (z1 : Int32) (z2 : Int32) (μ : Mem) : Option Mem := grd (inb z1 12) (lt (st μ 140 z1.toNatClampNeg z2) (fun μ2 => if (μ2.1 122 1) ≤ x2 then (f_X9_opens_114 q55 x1 x2 (6 + x2) x1 μ2) else (grd (inb (5 + x2) 10) (f_X9_opens_114 q55 x1 x2 (6 + x2) (μ2.1 123 (5 + x2).toNatClampNeg) μ2))))
set_option maxRecDepth 100000 in
set_option maxHeartbeats 4000000 in
theorem b_X9_opens_85 {p : Program} {l : Launch} {e : Env} {s : State} {m : MethodId} {args : Array Value} {below : List Frame} {meth : Method} {c : Code} {G : Gp} {O : Mem} (C : Cx p s m args meth c cX9_opens 3 RX9 none G) {q55 : Int32 → Int32 → Mem → Option Mem} (hq55 : ∀ (x1 : Int32) (x2 : Int32) (μ : Mem), q55 x1 x2 μ = some O → ∀ (H : Heap) (locs : List Loc) (ls : Array Slot), Wm G μ H → va_S (wA G) s.heap H locs → lv_has ls 3 [(0, .ref (G.2.2 122)), (1, .int x1), (2, .int x2)] → W p l e (rmm 2 47) s m args below meth c H locs 0 0 (QV below args s G O) (F0 m 55 ls [])) : ∀ (x1 : Int32) (x2 : Int32) (z1 : Int32) (z2 : Int32) (μ : Mem), f_X9_opens_85 q55 x1 x2 z1 z2 μ = some O → ∀ (H : Heap) (locs : List Loc) (ls : Array Slot), Wm G μ H → va_S (wA G) s.heap H locs → lv_has ls 3 [(0, .ref (G.2.2 122)), (1, .int x1), (2, .int x2)] → W p l e (rmm 2 47) s m args below meth c H locs 0 0 (QV below args s G O) (F0 m 85 ls [.int z2, .int z1, .ref (G.2.2 140)]) := by
  intro x1 x2 z1 z2 μ h H locs ls hP hS hl
  unfold f_X9_opens_85 at h
  obtain ⟨g1, h⟩ := grd_some h
  refine as_i C hP hS sh_140 g1 dX9_opens_85 (fun H locs hP hS => ?_)
  obtain ⟨μ2, m_μ2, h⟩ := lt_ex h
  have hP : Wm G μ2 H := by rw [m_μ2]; exact hP
  refine lv_aload_n C.x C.b dX9_opens_86 rfl (lv_at hl 0 rfl) ?_
  refine g_ref (k' := 140) F_9_35 u4_164 C hP sh_122 rfl dX9_opens_87 ?_
  refine lv_bipush (v := 6) C.x C.b dX9_opens_90 (by decide) ?_
  refine lv_iload_n C.x C.b dX9_opens_92 rfl (lv_at hl 2 rfl) ?_
  refine lv_iadd C.x C.b dX9_opens_93 ?_
  refine lv_iload_n C.x C.b dX9_opens_94 rfl (lv_at hl 2 rfl) ?_
  refine lv_aload_n C.x C.b dX9_opens_95 rfl (lv_at hl 0 rfl) ?_
  refine g_int F_9_1 u4_130 C hP sh_122 dX9_opens_96 ?_
  refine lv_icmp_ge (tgt := 113) C.x C.b dX9_opens_99 (by decide) (fun c3 => ?_) (fun c3 => ?_)
  · have h := (if_pos c3).symm.trans h
    refine lv_iload_n C.x C.b dX9_opens_113 rfl (lv_at hl 1 rfl) ?_
    exact b_X9_opens_114 C hq55 x1 x2 (6 + x2) x1 μ2 h _ _ _ hP hS (lv_sub hl [0, 1, 2] rfl)
  · have h := (if_neg c3).symm.trans h
    refine lv_aload_n C.x C.b dX9_opens_102 rfl (lv_at hl 0 rfl) ?_
    refine g_ref (k' := 123) F_9_2 u4_131 C hP sh_122 rfl dX9_opens_103 ?_
    refine lv_iconst (v := 5) C.x C.b dX9_opens_106 (by decide) ?_
    refine lv_iload_n C.x C.b dX9_opens_107 rfl (lv_at hl 2 rfl) ?_
    refine lv_iadd C.x C.b dX9_opens_108 ?_
    obtain ⟨g4, h⟩ := grd_some h
    refine a_i C hP sh_123 g4 dX9_opens_109 ?_
    refine lv_goto (tgt := 114) C.x C.b dX9_opens_110 (by decide) ?_
    exact b_X9_opens_114 C hq55 x1 x2 (6 + x2) (μ2.1 123 (5 + x2).toNatClampNeg) μ2 h _ _ _ hP hS (lv_sub hl [0, 1, 2] rfl)

def f_X9_opens_206  (q164 : Int32 → Mem → Option Mem) (x2 : Int32) (z1 : Int32) (z2 : Int32) (μ : Mem) : Option Mem := grd (inb z1 36) (lt (st μ 127 z1.toNatClampNeg z2) (fun μ2 => grd (inb x2 36) (lt (st μ2 128 x2.toNatClampNeg 0) (fun μ4 => grd (inb x2 36) (lt (st μ4 129 x2.toNatClampNeg 0) (fun μ6 => lt (x2 + 1) (fun y7 => q164 y7 μ6)))))))
set_option maxRecDepth 100000 in
set_option maxHeartbeats 4000000 in
theorem b_X9_opens_206 {p : Program} {l : Launch} {e : Env} {s : State} {m : MethodId} {args : Array Value} {below : List Frame} {meth : Method} {c : Code} {G : Gp} {O : Mem} (C : Cx p s m args meth c cX9_opens 3 RX9 none G) {q164 : Int32 → Mem → Option Mem} (hq164 : ∀ (x2 : Int32) (μ : Mem), q164 x2 μ = some O → ∀ (H : Heap) (locs : List Loc) (ls : Array Slot), Wm G μ H → va_S (wA G) s.heap H locs → lv_has ls 3 [(0, .ref (G.2.2 122)), (2, .int x2)] → W p l e (rmm 2 47) s m args below meth c H locs 0 0 (QV below args s G O) (F0 m 164 ls [])) : ∀ (x2 : Int32) (z1 : Int32) (z2 : Int32) (μ : Mem), f_X9_opens_206 q164 x2 z1 z2 μ = some O → ∀ (H : Heap) (locs : List Loc) (ls : Array Slot), Wm G μ H → va_S (wA G) s.heap H locs → lv_has ls 3 [(0, .ref (G.2.2 122)), (2, .int x2)] → W p l e (rmm 2 47) s m args below meth c H locs 0 0 (QV below args s G O) (F0 m 206 ls [.int z2, .int z1, .ref (G.2.2 127)]) := by
  intro x2 z1 z2 μ h H locs ls hP hS hl
  unfold f_X9_opens_206 at h
  obtain ⟨g1, h⟩ := grd_some h
  refine as_i C hP hS sh_127 g1 dX9_opens_206 (fun H locs hP hS => ?_)
  obtain ⟨μ2, m_μ2, h⟩ := lt_ex h
  have hP : Wm G μ2 H := by rw [m_μ2]; exact hP
  refine lv_aload_n C.x C.b dX9_opens_207 rfl (lv_at hl 0 rfl) ?_
  refine g_ref (k' := 128) F_9_11 u4_140 C hP sh_122 rfl dX9_opens_208 ?_
  refine lv_iload_n C.x C.b dX9_opens_211 rfl (lv_at hl 1 rfl) ?_
  refine lv_iconst (v := 0) C.x C.b dX9_opens_212 (by decide) ?_
  obtain ⟨g3, h⟩ := grd_some h
  refine as_i C hP hS sh_128 g3 dX9_opens_213 (fun H locs hP hS => ?_)
  obtain ⟨μ4, m_μ4, h⟩ := lt_ex h
  have hP : Wm G μ4 H := by rw [m_μ4]; exact hP
  refine lv_aload_n C.x C.b dX9_opens_214 rfl (lv_at hl 0 rfl) ?_
  refine g_ref (k' := 129) F_9_12 u4_141 C hP sh_122 rfl dX9_opens_215 ?_
  refine lv_iload_n C.x C.b dX9_opens_218 rfl (lv_at hl 1 rfl) ?_
  refine lv_iconst (v := 0) C.x C.b dX9_opens_219 (by decide) ?_
  obtain ⟨g5, h⟩ := grd_some h
  refine as_i C hP hS sh_129 g5 dX9_opens_220 (fun H locs hP hS => ?_)
  obtain ⟨μ6, m_μ6, h⟩ := lt_ex h
  have hP : Wm G μ6 H := by rw [m_μ6]; exact hP
  obtain ⟨y7, e_y7, h⟩ := lt_ex h
  refine lv_iinc (v := y7) (lv' := [(2, .int y7), (0, .ref (G.2.2 122))]) C.x C.b dX9_opens_221 hl (k := 1) rfl (by rw [e_y7]; rfl) (by decide) rfl (fun ls hl => ?_)
  refine lv_goto (tgt := 164) C.x C.b dX9_opens_224 (by decide) ?_
  exact hq164 y7 μ6 h _ _ _ hP hS (lv_sub hl [1, 0] rfl)

def g_X9_opens_164   (q164 : Int32 → Mem → Option Mem) (x2 : Int32) (μ : Mem) : Option Mem := if 36 ≤ x2 then (some μ) else (bnv (f_X9_isRoad (x2 / 6) (rm32 x2 6) μ) (fun r3 => if r3 = 0 then (f_X9_opens_206 q164 x2 x2 0 μ) else (bnv (f_X9_costOf (x2 / 6) (rm32 x2 6) μ) (fun r6 => f_X9_opens_206 q164 x2 x2 r6 μ))))
def f_X9_opens_164   : Nat → Int32 → Mem → Option Mem
  | 0, _, _ => none
  | n + 1, x2, μ => g_X9_opens_164  (f_X9_opens_164  n) x2 μ
set_option maxRecDepth 100000 in
set_option maxHeartbeats 4000000 in
theorem w_X9_opens_164 {p : Program} {l : Launch} {e : Env} {s : State} {m : MethodId} {args : Array Value} {below : List Frame} {meth : Method} {c : Code} {G : Gp} {O : Mem} (C : Cx p s m args meth c cX9_opens 3 RX9 none G) {q164 : Int32 → Mem → Option Mem} (hq164 : ∀ (x2 : Int32) (μ : Mem), q164 x2 μ = some O → ∀ (H : Heap) (locs : List Loc) (ls : Array Slot), Wm G μ H → va_S (wA G) s.heap H locs → lv_has ls 3 [(0, .ref (G.2.2 122)), (2, .int x2)] → W p l e (rmm 2 47) s m args below meth c H locs 0 0 (QV below args s G O) (F0 m 164 ls [])) : ∀ (x2 : Int32) (μ : Mem), g_X9_opens_164 q164 x2 μ = some O → ∀ (H : Heap) (locs : List Loc) (ls : Array Slot), Wm G μ H → va_S (wA G) s.heap H locs → lv_has ls 3 [(0, .ref (G.2.2 122)), (2, .int x2)] → W p l e (rmm 2 47) s m args below meth c H locs 0 0 (QV below args s G O) (F0 m 164 ls []) := by
  intro x2 μ h H locs ls hP hS hl
  unfold g_X9_opens_164 at h
  refine lv_iload_n C.x C.b dX9_opens_164 rfl (lv_at hl 1 rfl) ?_
  refine lv_bipush (v := 36) C.x C.b dX9_opens_165 (by decide) ?_
  refine lv_icmp_ge (tgt := 227) C.x C.b dX9_opens_167 (by decide) (fun c1 => ?_) (fun c1 => ?_)
  · have h := (if_pos c1).symm.trans h
    exact r_v h C hP hS dX9_opens_227
  · have h := (if_neg c1).symm.trans h
    refine lv_aload_n C.x C.b dX9_opens_170 rfl (lv_at hl 0 rfl) ?_
    refine g_ref (k' := 127) F_9_10 u4_139 C hP sh_122 rfl dX9_opens_171 ?_
    refine lv_iload_n C.x C.b dX9_opens_174 rfl (lv_at hl 1 rfl) ?_
    refine lv_aload_n C.x C.b dX9_opens_175 rfl (lv_at hl 0 rfl) ?_
    refine lv_iload_n C.x C.b dX9_opens_176 rfl (lv_at hl 1 rfl) ?_
    refine lv_bipush (v := 6) C.x C.b dX9_opens_177 (by decide) ?_
    refine lv_idiv C.x C.b dX9_opens_179 (by decide) ?_
    refine lv_iload_n C.x C.b dX9_opens_180 rfl (lv_at hl 1 rfl) ?_
    refine lv_bipush (v := 6) C.x C.b dX9_opens_181 (by decide) ?_
    refine lv_irem C.x C.b dX9_opens_183 (by decide) ?_
    obtain ⟨r3, e2, h⟩ := bnv_some h
    refine k_vi (k := 122) (as := [.int (x2 / 6), .int (rm32 x2 6)]) (rest := [.int x2, .ref (G.2.2 127)]) (c_X9_isRoad C.i e2) M_X9_isRoad u5_101 C hP hS sh_122 rfl rfl (by decide) hl.1 rfl (Nat.le_of_ble_eq_true rfl) dX9_opens_184 (fun H locs hP hS => ?_)
    refine lv_if_eq (tgt := 205) C.x C.b dX9_opens_187 (by decide) (fun c4 => ?_) (fun c4 => ?_)
    · have h := (if_pos c4).symm.trans h
      refine lv_iconst (v := 0) C.x C.b dX9_opens_205 (by decide) ?_
      exact b_X9_opens_206 C hq164 x2 x2 0 μ h _ _ _ hP hS (lv_sub hl [0, 1] rfl)
    · have h := (if_neg c4).symm.trans h
      refine lv_aload_n C.x C.b dX9_opens_190 rfl (lv_at hl 0 rfl) ?_
      refine lv_iload_n C.x C.b dX9_opens_191 rfl (lv_at hl 1 rfl) ?_
      refine lv_bipush (v := 6) C.x C.b dX9_opens_192 (by decide) ?_
      refine lv_idiv C.x C.b dX9_opens_194 (by decide) ?_
      refine lv_iload_n C.x C.b dX9_opens_195 rfl (lv_at hl 1 rfl) ?_
      refine lv_bipush (v := 6) C.x C.b dX9_opens_196 (by decide) ?_
      refine lv_irem C.x C.b dX9_opens_198 (by decide) ?_
      obtain ⟨r6, e5, h⟩ := bnv_some h
      refine k_vi (k := 122) (as := [.int (x2 / 6), .int (rm32 x2 6)]) (rest := [.int x2, .ref (G.2.2 127)]) (c_X9_costOf C.i e5) M_X9_costOf u5_111 C hP hS sh_122 rfl rfl (by decide) hl.1 rfl (Nat.le_of_ble_eq_true rfl) dX9_opens_199 (fun H locs hP hS => ?_)
      refine lv_goto (tgt := 206) C.x C.b dX9_opens_202 (by decide) ?_
      exact b_X9_opens_206 C hq164 x2 x2 r6 μ h _ _ _ hP hS (lv_sub hl [0, 1] rfl)

set_option maxRecDepth 100000 in
set_option maxHeartbeats 4000000 in
theorem b_X9_opens_164 {p : Program} {l : Launch} {e : Env} {s : State} {m : MethodId} {args : Array Value} {below : List Frame} {meth : Method} {c : Code} {G : Gp} {O : Mem} (C : Cx p s m args meth c cX9_opens 3 RX9 none G) : ∀ (n : Nat) (x2 : Int32) (μ : Mem), f_X9_opens_164 n x2 μ = some O → ∀ (H : Heap) (locs : List Loc) (ls : Array Slot), Wm G μ H → va_S (wA G) s.heap H locs → lv_has ls 3 [(0, .ref (G.2.2 122)), (2, .int x2)] → W p l e (rmm 2 47) s m args below meth c H locs 0 0 (QV below args s G O) (F0 m 164 ls []) := by
  intro n
  induction n with
  | zero => intro x2 μ h; cases h
  | succ n ih => intro x2 μ h; exact w_X9_opens_164 C (q164 := f_X9_opens_164 n) ih x2 μ h

def g_X9_opens_55   (q55 : Int32 → Int32 → Mem → Option Mem) (x1 : Int32) (x2 : Int32) (μ : Mem) : Option Mem := if 6 ≤ x2 then (f_X9_opens_164 FU 0 μ) else (if (μ.1 122 0) ≤ x2 then (f_X9_opens_85 q55 x1 x2 x2 (-x1) μ) else (grd (inb x2 10) (f_X9_opens_85 q55 x1 x2 x2 (μ.1 123 x2.toNatClampNeg) μ)))
def f_X9_opens_55   : Nat → Int32 → Int32 → Mem → Option Mem
  | 0, _, _, _ => none
  | n + 1, x1, x2, μ => g_X9_opens_55  (f_X9_opens_55  n) x1 x2 μ
set_option maxRecDepth 100000 in
set_option maxHeartbeats 4000000 in
theorem w_X9_opens_55 {p : Program} {l : Launch} {e : Env} {s : State} {m : MethodId} {args : Array Value} {below : List Frame} {meth : Method} {c : Code} {G : Gp} {O : Mem} (C : Cx p s m args meth c cX9_opens 3 RX9 none G) {q55 : Int32 → Int32 → Mem → Option Mem} (hq55 : ∀ (x1 : Int32) (x2 : Int32) (μ : Mem), q55 x1 x2 μ = some O → ∀ (H : Heap) (locs : List Loc) (ls : Array Slot), Wm G μ H → va_S (wA G) s.heap H locs → lv_has ls 3 [(0, .ref (G.2.2 122)), (1, .int x1), (2, .int x2)] → W p l e (rmm 2 47) s m args below meth c H locs 0 0 (QV below args s G O) (F0 m 55 ls [])) : ∀ (x1 : Int32) (x2 : Int32) (μ : Mem), g_X9_opens_55 q55 x1 x2 μ = some O → ∀ (H : Heap) (locs : List Loc) (ls : Array Slot), Wm G μ H → va_S (wA G) s.heap H locs → lv_has ls 3 [(0, .ref (G.2.2 122)), (1, .int x1), (2, .int x2)] → W p l e (rmm 2 47) s m args below meth c H locs 0 0 (QV below args s G O) (F0 m 55 ls []) := by
  intro x1 x2 μ h H locs ls hP hS hl
  unfold g_X9_opens_55 at h
  refine lv_iload_n C.x C.b dX9_opens_55 rfl (lv_at hl 2 rfl) ?_
  refine lv_bipush (v := 6) C.x C.b dX9_opens_56 (by decide) ?_
  refine lv_icmp_ge (tgt := 162) C.x C.b dX9_opens_58 (by decide) (fun c1 => ?_) (fun c1 => ?_)
  · have h := (if_pos c1).symm.trans h
    refine lv_iconst (v := 0) C.x C.b dX9_opens_162 (by decide) ?_
    refine lv_istore_n (lv' := [(2, .int 0), (0, .ref (G.2.2 122)), (1, .int x1)]) C.x C.b dX9_opens_163 rfl hl (by decide) rfl (fun ls hl => ?_)
    exact b_X9_opens_164 C FU 0 μ h _ _ _ hP hS (lv_sub hl [1, 0] rfl)
  · have h := (if_neg c1).symm.trans h
    refine lv_aload_n C.x C.b dX9_opens_61 rfl (lv_at hl 0 rfl) ?_
    refine g_ref (k' := 140) F_9_35 u4_164 C hP sh_122 rfl dX9_opens_62 ?_
    refine lv_iload_n C.x C.b dX9_opens_65 rfl (lv_at hl 2 rfl) ?_
    refine lv_iload_n C.x C.b dX9_opens_66 rfl (lv_at hl 2 rfl) ?_
    refine lv_aload_n C.x C.b dX9_opens_67 rfl (lv_at hl 0 rfl) ?_
    refine g_int F_9_0 u4_129 C hP sh_122 dX9_opens_68 ?_
    refine lv_icmp_ge (tgt := 83) C.x C.b dX9_opens_71 (by decide) (fun c2 => ?_) (fun c2 => ?_)
    · have h := (if_pos c2).symm.trans h
      refine lv_iload_n C.x C.b dX9_opens_83 rfl (lv_at hl 1 rfl) ?_
      refine lv_ineg C.x C.b dX9_opens_84 ?_
      exact b_X9_opens_85 C hq55 x1 x2 x2 (-x1) μ h _ _ _ hP hS (lv_sub hl [0, 1, 2] rfl)
    · have h := (if_neg c2).symm.trans h
      refine lv_aload_n C.x C.b dX9_opens_74 rfl (lv_at hl 0 rfl) ?_
      refine g_ref (k' := 123) F_9_2 u4_131 C hP sh_122 rfl dX9_opens_75 ?_
      refine lv_iload_n C.x C.b dX9_opens_78 rfl (lv_at hl 2 rfl) ?_
      obtain ⟨g3, h⟩ := grd_some h
      refine a_i C hP sh_123 g3 dX9_opens_79 ?_
      refine lv_goto (tgt := 85) C.x C.b dX9_opens_80 (by decide) ?_
      exact b_X9_opens_85 C hq55 x1 x2 x2 (μ.1 123 x2.toNatClampNeg) μ h _ _ _ hP hS (lv_sub hl [0, 1, 2] rfl)

set_option maxRecDepth 100000 in
set_option maxHeartbeats 4000000 in
theorem b_X9_opens_55 {p : Program} {l : Launch} {e : Env} {s : State} {m : MethodId} {args : Array Value} {below : List Frame} {meth : Method} {c : Code} {G : Gp} {O : Mem} (C : Cx p s m args meth c cX9_opens 3 RX9 none G) : ∀ (n : Nat) (x1 : Int32) (x2 : Int32) (μ : Mem), f_X9_opens_55 n x1 x2 μ = some O → ∀ (H : Heap) (locs : List Loc) (ls : Array Slot), Wm G μ H → va_S (wA G) s.heap H locs → lv_has ls 3 [(0, .ref (G.2.2 122)), (1, .int x1), (2, .int x2)] → W p l e (rmm 2 47) s m args below meth c H locs 0 0 (QV below args s G O) (F0 m 55 ls []) := by
  intro n
  induction n with
  | zero => intro x1 x2 μ h; cases h
  | succ n ih => intro x1 x2 μ h; exact w_X9_opens_55 C (q55 := f_X9_opens_55 n) ih x1 x2 μ h

def f_X9_opens_44   (x1 : Int32) (z1 : Int32) (z2 : Int32) (μ : Mem) : Option Mem := lt (st μ 122 8 (z1 + z2)) (fun μ1 => lt (st μ1 122 9 0) (fun μ2 => f_X9_opens_55 FU x1 0 μ2))
set_option maxRecDepth 100000 in
set_option maxHeartbeats 4000000 in
theorem b_X9_opens_44 {p : Program} {l : Launch} {e : Env} {s : State} {m : MethodId} {args : Array Value} {below : List Frame} {meth : Method} {c : Code} {G : Gp} {O : Mem} (C : Cx p s m args meth c cX9_opens 3 RX9 none G) : ∀ (x1 : Int32) (z1 : Int32) (z2 : Int32) (μ : Mem), f_X9_opens_44 x1 z1 z2 μ = some O → ∀ (H : Heap) (locs : List Loc) (ls : Array Slot), Wm G μ H → va_S (wA G) s.heap H locs → lv_has ls 3 [(0, .ref (G.2.2 122)), (1, .int x1)] → W p l e (rmm 2 47) s m args below meth c H locs 0 0 (QV below args s G O) (F0 m 44 ls [.int z2, .int z1, .ref (G.2.2 122)]) := by
  intro x1 z1 z2 μ h H locs ls hP hS hl
  unfold f_X9_opens_44 at h
  refine lv_iadd C.x C.b dX9_opens_44 ?_
  refine p_int F_9_8 P_9_8 u4_137 C hP hS sh_122 dX9_opens_45 (fun H locs hP hS => ?_)
  obtain ⟨μ1, m_μ1, h⟩ := lt_ex h
  have hP : Wm G μ1 H := by rw [m_μ1]; exact hP
  refine lv_aload_n C.x C.b dX9_opens_48 rfl (lv_at hl 0 rfl) ?_
  refine lv_iconst (v := 0) C.x C.b dX9_opens_49 (by decide) ?_
  refine p_int F_9_9 P_9_9 u4_138 C hP hS sh_122 dX9_opens_50 (fun H locs hP hS => ?_)
  obtain ⟨μ2, m_μ2, h⟩ := lt_ex h
  have hP : Wm G μ2 H := by rw [m_μ2]; exact hP
  refine lv_iconst (v := 0) C.x C.b dX9_opens_53 (by decide) ?_
  refine lv_istore_n (lv' := [(2, .int 0), (0, .ref (G.2.2 122)), (1, .int x1)]) C.x C.b dX9_opens_54 rfl hl (by decide) rfl (fun ls hl => ?_)
  exact b_X9_opens_55 C FU x1 0 μ2 h _ _ _ hP hS (lv_sub hl [1, 2, 0] rfl)

def f_X9_opens_26   (x1 : Int32) (z1 : Int32) (z2 : Int32) (μ : Mem) : Option Mem := lt (st μ 122 7 (z1 + z2)) (fun μ1 => if x1 ≤ 0 then (f_X9_opens_44 x1 (μ1.1 122 1) 0 μ1) else (f_X9_opens_44 x1 (μ1.1 122 1) 1 μ1))
set_option maxRecDepth 100000 in
set_option maxHeartbeats 4000000 in
theorem b_X9_opens_26 {p : Program} {l : Launch} {e : Env} {s : State} {m : MethodId} {args : Array Value} {below : List Frame} {meth : Method} {c : Code} {G : Gp} {O : Mem} (C : Cx p s m args meth c cX9_opens 3 RX9 none G) : ∀ (x1 : Int32) (z1 : Int32) (z2 : Int32) (μ : Mem), f_X9_opens_26 x1 z1 z2 μ = some O → ∀ (H : Heap) (locs : List Loc) (ls : Array Slot), Wm G μ H → va_S (wA G) s.heap H locs → lv_has ls 3 [(0, .ref (G.2.2 122)), (1, .int x1)] → W p l e (rmm 2 47) s m args below meth c H locs 0 0 (QV below args s G O) (F0 m 26 ls [.int z2, .int z1, .ref (G.2.2 122)]) := by
  intro x1 z1 z2 μ h H locs ls hP hS hl
  unfold f_X9_opens_26 at h
  refine lv_iadd C.x C.b dX9_opens_26 ?_
  refine p_int F_9_7 P_9_7 u4_136 C hP hS sh_122 dX9_opens_27 (fun H locs hP hS => ?_)
  obtain ⟨μ1, m_μ1, h⟩ := lt_ex h
  have hP : Wm G μ1 H := by rw [m_μ1]; exact hP
  refine lv_aload_n C.x C.b dX9_opens_30 rfl (lv_at hl 0 rfl) ?_
  refine lv_aload_n C.x C.b dX9_opens_31 rfl (lv_at hl 0 rfl) ?_
  refine g_int F_9_1 u4_130 C hP sh_122 dX9_opens_32 ?_
  refine lv_iload_n C.x C.b dX9_opens_35 rfl (lv_at hl 1 rfl) ?_
  refine lv_if_le (tgt := 43) C.x C.b dX9_opens_36 (by decide) (fun c2 => ?_) (fun c2 => ?_)
  · have h := (if_pos c2).symm.trans h
    refine lv_iconst (v := 0) C.x C.b dX9_opens_43 (by decide) ?_
    exact b_X9_opens_44 C x1 (μ1.1 122 1) 0 μ1 h _ _ _ hP hS (lv_sub hl [0, 1] rfl)
  · have h := (if_neg c2).symm.trans h
    refine lv_iconst (v := 1) C.x C.b dX9_opens_39 (by decide) ?_
    refine lv_goto (tgt := 44) C.x C.b dX9_opens_40 (by decide) ?_
    exact b_X9_opens_44 C x1 (μ1.1 122 1) 1 μ1 h _ _ _ hP hS (lv_sub hl [0, 1] rfl)

def f_X9_opens  (μ : Mem) : Option Mem := bnv (f_X9_sum 0 μ) (fun r2 => bnv (f_X9_sum 1 μ) (fun r4 => lt (r2 - r4) (fun y5 => if 0 ≤ y5 then (f_X9_opens_26 y5 (μ.1 122 0) 0 μ) else (f_X9_opens_26 y5 (μ.1 122 0) 1 μ))))
set_option maxRecDepth 100000 in
set_option maxHeartbeats 4000000 in
theorem b_X9_opens {p : Program} {l : Launch} {e : Env} {s : State} {m : MethodId} {args : Array Value} {below : List Frame} {meth : Method} {c : Code} {G : Gp} {O : Mem} (C : Cx p s m args meth c cX9_opens 3 RX9 none G) {μ : Mem} (h : f_X9_opens μ = some O) : ∀ (H : Heap) (locs : List Loc) (ls : Array Slot), Wm G μ H → va_S (wA G) s.heap H locs → lv_has ls 3 [(0, .ref (G.2.2 122))] → W p l e (rmm 2 47) s m args below meth c H locs 0 0 (QV below args s G O) (F0 m 0 ls []) := by
  unfold f_X9_opens at h
  intro H locs ls hP hS hl
  refine lv_aload_n C.x C.b dX9_opens_0 rfl (lv_at hl 0 rfl) ?_
  refine lv_iconst (v := 0) C.x C.b dX9_opens_1 (by decide) ?_
  obtain ⟨r2, e1, h⟩ := bnv_some h
  refine k_vi (k := 122) (as := [.int 0]) (rest := []) (c_X9_sum C.i e1) M_X9_sum u5_163 C hP hS sh_122 rfl rfl (by decide) hl.1 rfl (Nat.le_of_ble_eq_true rfl) dX9_opens_2 (fun H locs hP hS => ?_)
  refine lv_aload_n C.x C.b dX9_opens_5 rfl (lv_at hl 0 rfl) ?_
  refine lv_iconst (v := 1) C.x C.b dX9_opens_6 (by decide) ?_
  obtain ⟨r4, e3, h⟩ := bnv_some h
  refine k_vi (k := 122) (as := [.int 1]) (rest := [.int r2]) (c_X9_sum C.i e3) M_X9_sum u5_163 C hP hS sh_122 rfl rfl (by decide) hl.1 rfl (Nat.le_of_ble_eq_true rfl) dX9_opens_7 (fun H locs hP hS => ?_)
  refine lv_isub C.x C.b dX9_opens_10 ?_
  refine lv_topi (fun y5 e_y5 => ?_)
  have h := lt_at h e_y5
  refine lv_istore_n (lv' := [(1, .int y5), (0, .ref (G.2.2 122))]) C.x C.b dX9_opens_11 rfl hl (by decide) rfl (fun ls hl => ?_)
  refine lv_aload_n C.x C.b dX9_opens_12 rfl (lv_at hl 1 rfl) ?_
  refine lv_aload_n C.x C.b dX9_opens_13 rfl (lv_at hl 1 rfl) ?_
  refine g_int F_9_0 u4_129 C hP sh_122 dX9_opens_14 ?_
  refine lv_iload_n C.x C.b dX9_opens_17 rfl (lv_at hl 0 rfl) ?_
  refine lv_if_ge (tgt := 25) C.x C.b dX9_opens_18 (by decide) (fun c6 => ?_) (fun c6 => ?_)
  · have h := (if_pos c6).symm.trans h
    refine lv_iconst (v := 0) C.x C.b dX9_opens_25 (by decide) ?_
    exact b_X9_opens_26 C y5 (μ.1 122 0) 0 μ h _ _ _ hP hS (lv_sub hl [1, 0] rfl)
  · have h := (if_neg c6).symm.trans h
    refine lv_iconst (v := 1) C.x C.b dX9_opens_21 (by decide) ?_
    refine lv_goto (tgt := 26) C.x C.b dX9_opens_22 (by decide) ?_
    exact b_X9_opens_26 C y5 (μ.1 122 0) 1 μ h _ _ _ hP hS (lv_sub hl [1, 0] rfl)

set_option maxRecDepth 100000 in
set_option maxHeartbeats 4000000 in
theorem c_X9_opens {l : Launch} {G : Gp} (hI : Wi G) {μ : Mem} {μ' : Mem} (h : f_X9_opens μ = some μ') : CV l yX9_opens cX9_opens 3 none 2 47 G [.ref (G.2.2 122)] μ μ' :=
  e_all (lv := [(0, .ref (G.2.2 122))]) hI (by decide) (Nat.le_of_ble_eq_true rfl) rfl (fun p e s m args below meth c ls C hP hS hl => b_X9_opens C h _ _ _ hP hS hl)


def g_X9_openOnes_4 (x1 : Int32)  (μ : Mem) (q4 : Int32 → Int32 → Option Int32) (x2 : Int32) (x3 : Int32) : Option Int32 := if (x1 + 6) ≤ x3 then (some x2) else (grd (inb x3 12) (if (μ.1 141 x3.toNatClampNeg) = 0 then (lt (x2 + 0) (fun y4 => lt (x3 + 1) (fun y5 => q4 y4 y5))) else (lt (x2 + 1) (fun y6 => lt (x3 + 1) (fun y7 => q4 y6 y7)))))
def f_X9_openOnes_4 (x1 : Int32)  (μ : Mem) : Nat → Int32 → Int32 → Option Int32
  | 0, _, _ => none
  | n + 1, x2, x3 => g_X9_openOnes_4 x1 μ (f_X9_openOnes_4 x1 μ n) x2 x3
set_option maxRecDepth 100000 in
set_option maxHeartbeats 4000000 in
theorem w_X9_openOnes_4 {p : Program} {l : Launch} {e : Env} {s : State} {m : MethodId} {args : Array Value} {below : List Frame} {meth : Method} {c : Code} {G : Gp} {O : Int32} (C : Cx p s m args meth c cX9_openOnes 4 RX9 (some .int) G) {x1 : Int32} {μ : Mem} {q4 : Int32 → Int32 → Option Int32} (hq4 : ∀ (x2 : Int32) (x3 : Int32), q4 x2 x3 = some O → ∀ (H : Heap) (locs : List Loc) (ls : Array Slot), Wm G μ H → va_S (wA G) s.heap H locs → lv_has ls 4 [(0, .ref (G.2.2 122)), (1, .int x1), (2, .int x2), (3, .int x3)] → W p l e (rmm 0 0) s m args below meth c H locs 0 0 (QI below args s G (O, μ)) (F0 m 4 ls [])) : ∀ (x2 : Int32) (x3 : Int32), g_X9_openOnes_4 x1 μ q4 x2 x3 = some O → ∀ (H : Heap) (locs : List Loc) (ls : Array Slot), Wm G μ H → va_S (wA G) s.heap H locs → lv_has ls 4 [(0, .ref (G.2.2 122)), (1, .int x1), (2, .int x2), (3, .int x3)] → W p l e (rmm 0 0) s m args below meth c H locs 0 0 (QI below args s G (O, μ)) (F0 m 4 ls []) := by
  intro x2 x3 h H locs ls hP hS hl
  unfold g_X9_openOnes_4 at h
  refine lv_iload_n C.x C.b dX9_openOnes_4 rfl (lv_at hl 3 rfl) ?_
  refine lv_iload_n C.x C.b dX9_openOnes_5 rfl (lv_at hl 1 rfl) ?_
  refine lv_bipush (v := 6) C.x C.b dX9_openOnes_6 (by decide) ?_
  refine lv_iadd C.x C.b dX9_openOnes_8 ?_
  refine lv_icmp_ge (tgt := 35) C.x C.b dX9_openOnes_9 (by decide) (fun c1 => ?_) (fun c1 => ?_)
  · have h := (if_pos c1).symm.trans h
    refine lv_iload_n C.x C.b dX9_openOnes_35 rfl (lv_at hl 2 rfl) ?_
    exact r_i (pr_some h) C hP hS dX9_openOnes_36
  · have h := (if_neg c1).symm.trans h
    refine lv_iload_n C.x C.b dX9_openOnes_12 rfl (lv_at hl 2 rfl) ?_
    refine lv_aload_n C.x C.b dX9_openOnes_13 rfl (lv_at hl 0 rfl) ?_
    refine g_ref (k' := 141) F_9_36 u4_165 C hP sh_122 rfl dX9_openOnes_14 ?_
    refine lv_iload_n C.x C.b dX9_openOnes_17 rfl (lv_at hl 3 rfl) ?_
    obtain ⟨g2, h⟩ := grd_some h
    refine a_z C hP sh_141 g2 dX9_openOnes_18 ?_
    refine lv_if_eq (tgt := 26) C.x C.b dX9_openOnes_19 (by decide) (fun c3 => ?_) (fun c3 => ?_)
    · have h := (if_pos c3).symm.trans h
      refine lv_iconst (v := 0) C.x C.b dX9_openOnes_26 (by decide) ?_
      refine lv_iadd C.x C.b dX9_openOnes_27 ?_
      refine lv_topi (fun y4 e_y4 => ?_)
      have h := lt_at h e_y4
      refine lv_istore_n (lv' := [(2, .int y4), (0, .ref (G.2.2 122)), (1, .int x1), (3, .int x3)]) C.x C.b dX9_openOnes_28 rfl hl (by decide) rfl (fun ls hl => ?_)
      obtain ⟨y5, e_y5, h⟩ := lt_ex h
      refine lv_iinc (v := y5) (lv' := [(3, .int y5), (2, .int y4), (0, .ref (G.2.2 122)), (1, .int x1)]) C.x C.b dX9_openOnes_29 hl (k := 3) rfl (by rw [e_y5]; rfl) (by decide) rfl (fun ls hl => ?_)
      refine lv_goto (tgt := 4) C.x C.b dX9_openOnes_32 (by decide) ?_
      exact hq4 y4 y5 h _ _ _ hP hS (lv_sub hl [2, 3, 1, 0] rfl)
    · have h := (if_neg c3).symm.trans h
      refine lv_iconst (v := 1) C.x C.b dX9_openOnes_22 (by decide) ?_
      refine lv_goto (tgt := 27) C.x C.b dX9_openOnes_23 (by decide) ?_
      refine lv_iadd C.x C.b dX9_openOnes_27 ?_
      refine lv_topi (fun y6 e_y6 => ?_)
      have h := lt_at h e_y6
      refine lv_istore_n (lv' := [(2, .int y6), (0, .ref (G.2.2 122)), (1, .int x1), (3, .int x3)]) C.x C.b dX9_openOnes_28 rfl hl (by decide) rfl (fun ls hl => ?_)
      obtain ⟨y7, e_y7, h⟩ := lt_ex h
      refine lv_iinc (v := y7) (lv' := [(3, .int y7), (2, .int y6), (0, .ref (G.2.2 122)), (1, .int x1)]) C.x C.b dX9_openOnes_29 hl (k := 3) rfl (by rw [e_y7]; rfl) (by decide) rfl (fun ls hl => ?_)
      refine lv_goto (tgt := 4) C.x C.b dX9_openOnes_32 (by decide) ?_
      exact hq4 y6 y7 h _ _ _ hP hS (lv_sub hl [2, 3, 1, 0] rfl)

set_option maxRecDepth 100000 in
set_option maxHeartbeats 4000000 in
theorem b_X9_openOnes_4 {p : Program} {l : Launch} {e : Env} {s : State} {m : MethodId} {args : Array Value} {below : List Frame} {meth : Method} {c : Code} {G : Gp} {O : Int32} (C : Cx p s m args meth c cX9_openOnes 4 RX9 (some .int) G) {x1 : Int32} {μ : Mem} : ∀ (n : Nat) (x2 : Int32) (x3 : Int32), f_X9_openOnes_4 x1 μ n x2 x3 = some O → ∀ (H : Heap) (locs : List Loc) (ls : Array Slot), Wm G μ H → va_S (wA G) s.heap H locs → lv_has ls 4 [(0, .ref (G.2.2 122)), (1, .int x1), (2, .int x2), (3, .int x3)] → W p l e (rmm 0 0) s m args below meth c H locs 0 0 (QI below args s G (O, μ)) (F0 m 4 ls []) := by
  intro n
  induction n with
  | zero => intro x2 x3 h; cases h
  | succ n ih => intro x2 x3 h; exact w_X9_openOnes_4 C (q4 := f_X9_openOnes_4 x1 μ n) ih x2 x3 h

def f_X9_openOnes (x1 : Int32) (μ : Mem) : Option Int32 := f_X9_openOnes_4 x1 μ FU 0 x1
set_option maxRecDepth 100000 in
set_option maxHeartbeats 4000000 in
theorem b_X9_openOnes {p : Program} {l : Launch} {e : Env} {s : State} {m : MethodId} {args : Array Value} {below : List Frame} {meth : Method} {c : Code} {G : Gp} {O : Int32} (C : Cx p s m args meth c cX9_openOnes 4 RX9 (some .int) G) {x1 : Int32} {μ : Mem} (h : f_X9_openOnes x1 μ = some O) : ∀ (H : Heap) (locs : List Loc) (ls : Array Slot), Wm G μ H → va_S (wA G) s.heap H locs → lv_has ls 4 [(0, .ref (G.2.2 122)), (1, .int x1)] → W p l e (rmm 0 0) s m args below meth c H locs 0 0 (QI below args s G (O, μ)) (F0 m 0 ls []) := by
  unfold f_X9_openOnes at h
  intro H locs ls hP hS hl
  refine lv_iconst (v := 0) C.x C.b dX9_openOnes_0 (by decide) ?_
  refine lv_istore_n (lv' := [(2, .int 0), (0, .ref (G.2.2 122)), (1, .int x1)]) C.x C.b dX9_openOnes_1 rfl hl (by decide) rfl (fun ls hl => ?_)
  refine lv_iload_n C.x C.b dX9_openOnes_2 rfl (lv_at hl 2 rfl) ?_
  refine lv_istore_n (lv' := [(3, .int x1), (2, .int 0), (0, .ref (G.2.2 122)), (1, .int x1)]) C.x C.b dX9_openOnes_3 rfl hl (by decide) rfl (fun ls hl => ?_)
  exact b_X9_openOnes_4 C FU 0 x1 h _ _ _ hP hS (lv_sub hl [2, 3, 1, 0] rfl)

set_option maxRecDepth 100000 in
set_option maxHeartbeats 4000000 in
theorem c_X9_openOnes {l : Launch} {G : Gp} (hI : Wi G) {x1 : Int32} {μ : Mem} {r : Int32} (h : f_X9_openOnes x1 μ = some r) : CI l yX9_openOnes cX9_openOnes 4 (some .int) 0 0 G [.ref (G.2.2 122), .int x1] μ r μ :=
  e_all (lv := [(0, .ref (G.2.2 122)), (1, .int x1)]) hI (by decide) (Nat.le_of_ble_eq_true rfl) rfl (fun p e s m args below meth c ls C hP hS hl => b_X9_openOnes C h _ _ _ hP hS hl)


def f_X9_isOpenCell (x1 : Int32) (μ : Mem) : Option Int32 := grd (inb (x1 / 6) 12) (if (μ.1 141 (x1 / 6).toNatClampNeg) = 0 then (some 0) else (grd (inb (6 + (rm32 x1 6)) 12) (if (μ.1 141 (6 + (rm32 x1 6)).toNatClampNeg) = 0 then (some 0) else (some 1))))
set_option maxRecDepth 100000 in
set_option maxHeartbeats 4000000 in
theorem b_X9_isOpenCell {p : Program} {l : Launch} {e : Env} {s : State} {m : MethodId} {args : Array Value} {below : List Frame} {meth : Method} {c : Code} {G : Gp} {O : Int32} (C : Cx p s m args meth c cX9_isOpenCell 2 RX9 (some .boolean) G) {x1 : Int32} {μ : Mem} (h : f_X9_isOpenCell x1 μ = some O) : ∀ (H : Heap) (locs : List Loc) (ls : Array Slot), Wm G μ H → va_S (wA G) s.heap H locs → lv_has ls 2 [(0, .ref (G.2.2 122)), (1, .int x1)] → W p l e (rmm 0 0) s m args below meth c H locs 0 0 (QI below args s G (O, μ)) (F0 m 0 ls []) := by
  unfold f_X9_isOpenCell at h
  intro H locs ls hP hS hl
  refine lv_aload_n C.x C.b dX9_isOpenCell_0 rfl (lv_at hl 0 rfl) ?_
  refine g_ref (k' := 141) F_9_36 u4_165 C hP sh_122 rfl dX9_isOpenCell_1 ?_
  refine lv_iload_n C.x C.b dX9_isOpenCell_4 rfl (lv_at hl 1 rfl) ?_
  refine lv_bipush (v := 6) C.x C.b dX9_isOpenCell_5 (by decide) ?_
  refine lv_idiv C.x C.b dX9_isOpenCell_7 (by decide) ?_
  obtain ⟨g1, h⟩ := grd_some h
  refine a_z C hP sh_141 g1 dX9_isOpenCell_8 ?_
  refine lv_if_eq (tgt := 31) C.x C.b dX9_isOpenCell_9 (by decide) (fun c2 => ?_) (fun c2 => ?_)
  · have h := (if_pos c2).symm.trans h
    refine lv_iconst (v := 0) C.x C.b dX9_isOpenCell_31 (by decide) ?_
    exact r_z (pr_some h) (by decide) C hP hS dX9_isOpenCell_32
  · have h := (if_neg c2).symm.trans h
    refine lv_aload_n C.x C.b dX9_isOpenCell_12 rfl (lv_at hl 0 rfl) ?_
    refine g_ref (k' := 141) F_9_36 u4_165 C hP sh_122 rfl dX9_isOpenCell_13 ?_
    refine lv_bipush (v := 6) C.x C.b dX9_isOpenCell_16 (by decide) ?_
    refine lv_iload_n C.x C.b dX9_isOpenCell_18 rfl (lv_at hl 1 rfl) ?_
    refine lv_bipush (v := 6) C.x C.b dX9_isOpenCell_19 (by decide) ?_
    refine lv_irem C.x C.b dX9_isOpenCell_21 (by decide) ?_
    refine lv_iadd C.x C.b dX9_isOpenCell_22 ?_
    obtain ⟨g3, h⟩ := grd_some h
    refine a_z C hP sh_141 g3 dX9_isOpenCell_23 ?_
    refine lv_if_eq (tgt := 31) C.x C.b dX9_isOpenCell_24 (by decide) (fun c4 => ?_) (fun c4 => ?_)
    · have h := (if_pos c4).symm.trans h
      refine lv_iconst (v := 0) C.x C.b dX9_isOpenCell_31 (by decide) ?_
      exact r_z (pr_some h) (by decide) C hP hS dX9_isOpenCell_32
    · have h := (if_neg c4).symm.trans h
      refine lv_iconst (v := 1) C.x C.b dX9_isOpenCell_27 (by decide) ?_
      refine lv_goto (tgt := 32) C.x C.b dX9_isOpenCell_28 (by decide) ?_
      exact r_z (pr_some h) (by decide) C hP hS dX9_isOpenCell_32

set_option maxRecDepth 100000 in
set_option maxHeartbeats 4000000 in
theorem c_X9_isOpenCell {l : Launch} {G : Gp} (hI : Wi G) {x1 : Int32} {μ : Mem} {r : Int32} (h : f_X9_isOpenCell x1 μ = some r) : CI l yX9_isOpenCell cX9_isOpenCell 2 (some .boolean) 0 0 G [.ref (G.2.2 122), .int x1] μ r μ :=
  e_all (lv := [(0, .ref (G.2.2 122)), (1, .int x1)]) hI (by decide) (Nat.le_of_ble_eq_true rfl) rfl (fun p e s m args below meth c ls C hP hS hl => b_X9_isOpenCell C h _ _ _ hP hS hl)


def f_X9_cheapestCell_38 (x1 : Int32) (q4 : Int32 → Int32 → Option Int32) (μ : Mem) (x2 : Int32) (x3 : Int32) (z0 : Int32) : Option Int32 := if z0 = 0 then (lt (x3 + 1) (fun y2 => q4 x2 y2)) else (bnv (f_X9_isOpenCell x3 μ) (fun r4 => if r4 = 0 then (lt (x3 + 1) (fun y6 => q4 x2 y6)) else (if x2 < 0 then (lt (x3 + 1) (fun y8 => q4 x3 y8)) else (grd (inb x3 36) (grd (inb x2 36) (if (μ.1 127 x2.toNatClampNeg) ≤ (μ.1 127 x3.toNatClampNeg) then (lt (x3 + 1) (fun y12 => q4 x2 y12)) else (lt (x3 + 1) (fun y13 => q4 x3 y13))))))))
set_option maxRecDepth 100000 in
set_option maxHeartbeats 4000000 in
theorem b_X9_cheapestCell_38 {p : Program} {l : Launch} {e : Env} {s : State} {m : MethodId} {args : Array Value} {below : List Frame} {meth : Method} {c : Code} {G : Gp} {O : Int32} (C : Cx p s m args meth c cX9_cheapestCell 5 RX9 (some .int) G) {x1 : Int32} {μ : Mem} {q4 : Int32 → Int32 → Option Int32} (hq4 : ∀ (x2 : Int32) (x3 : Int32), q4 x2 x3 = some O → ∀ (H : Heap) (locs : List Loc) (ls : Array Slot), Wm G μ H → va_S (wA G) s.heap H locs → lv_has ls 5 [(0, .ref (G.2.2 122)), (1, .int x1), (2, .int x2), (3, .int x3)] → W p l e (rmm 1 21) s m args below meth c H locs 0 0 (QI below args s G (O, μ)) (F0 m 4 ls [])) : ∀ (x2 : Int32) (x3 : Int32) (z0 : Int32), f_X9_cheapestCell_38 x1 q4 μ x2 x3 z0 = some O → ∀ (H : Heap) (locs : List Loc) (ls : Array Slot), Wm G μ H → va_S (wA G) s.heap H locs → lv_has ls 5 [(0, .ref (G.2.2 122)), (1, .int x1), (2, .int x2), (3, .int x3)] → W p l e (rmm 1 21) s m args below meth c H locs 0 0 (QI below args s G (O, μ)) (F0 m 38 ls [.int z0]) := by
  intro x2 x3 z0 h H locs ls hP hS hl
  unfold f_X9_cheapestCell_38 at h
  refine lv_istore (lv' := [(4, .int z0), (0, .ref (G.2.2 122)), (1, .int x1), (2, .int x2), (3, .int x3)]) C.x C.b dX9_cheapestCell_38 hl (by decide) rfl (fun ls hl => ?_)
  refine lv_iload C.x C.b dX9_cheapestCell_40 (lv_at hl 0 rfl) ?_
  refine lv_if_eq (tgt := 74) C.x C.b dX9_cheapestCell_42 (by decide) (fun c1 => ?_) (fun c1 => ?_)
  · have h := (if_pos c1).symm.trans h
    obtain ⟨y2, e_y2, h⟩ := lt_ex h
    refine lv_iinc (v := y2) (lv' := [(3, .int y2), (4, .int z0), (0, .ref (G.2.2 122)), (1, .int x1), (2, .int x2)]) C.x C.b dX9_cheapestCell_74 hl (k := 4) rfl (by rw [e_y2]; rfl) (by decide) rfl (fun ls hl => ?_)
    refine lv_goto (tgt := 4) C.x C.b dX9_cheapestCell_77 (by decide) ?_
    exact hq4 x2 y2 h _ _ _ hP hS (lv_sub hl [2, 3, 4, 0] rfl)
  · have h := (if_neg c1).symm.trans h
    refine lv_aload_n C.x C.b dX9_cheapestCell_45 rfl (lv_at hl 1 rfl) ?_
    refine lv_iload_n C.x C.b dX9_cheapestCell_46 rfl (lv_at hl 4 rfl) ?_
    obtain ⟨r4, e3, h⟩ := bnv_some h
    refine k_vi (k := 122) (as := [.int x3]) (rest := []) (c_X9_isOpenCell C.i e3) M_X9_isOpenCell u5_179 C hP hS sh_122 rfl rfl (by decide) hl.1 rfl (Nat.le_of_ble_eq_true rfl) dX9_cheapestCell_47 (fun H locs hP hS => ?_)
    refine lv_if_eq (tgt := 74) C.x C.b dX9_cheapestCell_50 (by decide) (fun c5 => ?_) (fun c5 => ?_)
    · have h := (if_pos c5).symm.trans h
      obtain ⟨y6, e_y6, h⟩ := lt_ex h
      refine lv_iinc (v := y6) (lv' := [(3, .int y6), (4, .int z0), (0, .ref (G.2.2 122)), (1, .int x1), (2, .int x2)]) C.x C.b dX9_cheapestCell_74 hl (k := 4) rfl (by rw [e_y6]; rfl) (by decide) rfl (fun ls hl => ?_)
      refine lv_goto (tgt := 4) C.x C.b dX9_cheapestCell_77 (by decide) ?_
      exact hq4 x2 y6 h _ _ _ hP hS (lv_sub hl [2, 3, 4, 0] rfl)
    · have h := (if_neg c5).symm.trans h
      refine lv_iload_n C.x C.b dX9_cheapestCell_53 rfl (lv_at hl 3 rfl) ?_
      refine lv_if_lt (tgt := 72) C.x C.b dX9_cheapestCell_54 (by decide) (fun c7 => ?_) (fun c7 => ?_)
      · have h := (if_pos c7).symm.trans h
        refine lv_iload_n C.x C.b dX9_cheapestCell_72 rfl (lv_at hl 4 rfl) ?_
        refine lv_istore_n (lv' := [(2, .int x3), (4, .int z0), (0, .ref (G.2.2 122)), (1, .int x1), (3, .int x3)]) C.x C.b dX9_cheapestCell_73 rfl hl (by decide) rfl (fun ls hl => ?_)
        obtain ⟨y8, e_y8, h⟩ := lt_ex h
        refine lv_iinc (v := y8) (lv' := [(3, .int y8), (2, .int x3), (4, .int z0), (0, .ref (G.2.2 122)), (1, .int x1)]) C.x C.b dX9_cheapestCell_74 hl (k := 4) rfl (by rw [e_y8]; rfl) (by decide) rfl (fun ls hl => ?_)
        refine lv_goto (tgt := 4) C.x C.b dX9_cheapestCell_77 (by decide) ?_
        exact hq4 x3 y8 h _ _ _ hP hS (lv_sub hl [3, 4, 1, 0] rfl)
      · have h := (if_neg c7).symm.trans h
        refine lv_aload_n C.x C.b dX9_cheapestCell_57 rfl (lv_at hl 1 rfl) ?_
        refine g_ref (k' := 127) F_9_10 u4_139 C hP sh_122 rfl dX9_cheapestCell_58 ?_
        refine lv_iload_n C.x C.b dX9_cheapestCell_61 rfl (lv_at hl 4 rfl) ?_
        obtain ⟨g9, h⟩ := grd_some h
        refine a_i C hP sh_127 g9 dX9_cheapestCell_62 ?_
        refine lv_aload_n C.x C.b dX9_cheapestCell_63 rfl (lv_at hl 1 rfl) ?_
        refine g_ref (k' := 127) F_9_10 u4_139 C hP sh_122 rfl dX9_cheapestCell_64 ?_
        refine lv_iload_n C.x C.b dX9_cheapestCell_67 rfl (lv_at hl 3 rfl) ?_
        obtain ⟨g10, h⟩ := grd_some h
        refine a_i C hP sh_127 g10 dX9_cheapestCell_68 ?_
        refine lv_icmp_ge (tgt := 74) C.x C.b dX9_cheapestCell_69 (by decide) (fun c11 => ?_) (fun c11 => ?_)
        · have h := (if_pos c11).symm.trans h
          obtain ⟨y12, e_y12, h⟩ := lt_ex h
          refine lv_iinc (v := y12) (lv' := [(3, .int y12), (4, .int z0), (0, .ref (G.2.2 122)), (1, .int x1), (2, .int x2)]) C.x C.b dX9_cheapestCell_74 hl (k := 4) rfl (by rw [e_y12]; rfl) (by decide) rfl (fun ls hl => ?_)
          refine lv_goto (tgt := 4) C.x C.b dX9_cheapestCell_77 (by decide) ?_
          exact hq4 x2 y12 h _ _ _ hP hS (lv_sub hl [2, 3, 4, 0] rfl)
        · have h := (if_neg c11).symm.trans h
          refine lv_iload_n C.x C.b dX9_cheapestCell_72 rfl (lv_at hl 4 rfl) ?_
          refine lv_istore_n (lv' := [(2, .int x3), (4, .int z0), (0, .ref (G.2.2 122)), (1, .int x1), (3, .int x3)]) C.x C.b dX9_cheapestCell_73 rfl hl (by decide) rfl (fun ls hl => ?_)
          obtain ⟨y13, e_y13, h⟩ := lt_ex h
          refine lv_iinc (v := y13) (lv' := [(3, .int y13), (2, .int x3), (4, .int z0), (0, .ref (G.2.2 122)), (1, .int x1)]) C.x C.b dX9_cheapestCell_74 hl (k := 4) rfl (by rw [e_y13]; rfl) (by decide) rfl (fun ls hl => ?_)
          refine lv_goto (tgt := 4) C.x C.b dX9_cheapestCell_77 (by decide) ?_
          exact hq4 x3 y13 h _ _ _ hP hS (lv_sub hl [3, 4, 1, 0] rfl)

def f_X9_cheapestCell_33 (x1 : Int32) (q4 : Int32 → Int32 → Option Int32) (μ : Mem) (x2 : Int32) (x3 : Int32) : Option Int32 := f_X9_cheapestCell_38 x1 q4 μ x2 x3 1
set_option maxRecDepth 100000 in
set_option maxHeartbeats 4000000 in
theorem b_X9_cheapestCell_33 {p : Program} {l : Launch} {e : Env} {s : State} {m : MethodId} {args : Array Value} {below : List Frame} {meth : Method} {c : Code} {G : Gp} {O : Int32} (C : Cx p s m args meth c cX9_cheapestCell 5 RX9 (some .int) G) {x1 : Int32} {μ : Mem} {q4 : Int32 → Int32 → Option Int32} (hq4 : ∀ (x2 : Int32) (x3 : Int32), q4 x2 x3 = some O → ∀ (H : Heap) (locs : List Loc) (ls : Array Slot), Wm G μ H → va_S (wA G) s.heap H locs → lv_has ls 5 [(0, .ref (G.2.2 122)), (1, .int x1), (2, .int x2), (3, .int x3)] → W p l e (rmm 1 21) s m args below meth c H locs 0 0 (QI below args s G (O, μ)) (F0 m 4 ls [])) : ∀ (x2 : Int32) (x3 : Int32), f_X9_cheapestCell_33 x1 q4 μ x2 x3 = some O → ∀ (H : Heap) (locs : List Loc) (ls : Array Slot), Wm G μ H → va_S (wA G) s.heap H locs → lv_has ls 5 [(0, .ref (G.2.2 122)), (1, .int x1), (2, .int x2), (3, .int x3)] → W p l e (rmm 1 21) s m args below meth c H locs 0 0 (QI below args s G (O, μ)) (F0 m 33 ls []) := by
  intro x2 x3 h H locs ls hP hS hl
  unfold f_X9_cheapestCell_33 at h
  refine lv_iconst (v := 1) C.x C.b dX9_cheapestCell_33 (by decide) ?_
  refine lv_goto (tgt := 38) C.x C.b dX9_cheapestCell_34 (by decide) ?_
  exact b_X9_cheapestCell_38 C hq4 x2 x3 1 h _ _ _ hP hS (lv_sub hl [0, 1, 2, 3] rfl)

def g_X9_cheapestCell_4 (x1 : Int32)  (μ : Mem) (q4 : Int32 → Int32 → Option Int32) (x2 : Int32) (x3 : Int32) : Option Int32 := if 36 ≤ x3 then (some x2) else (if x1 < 0 then (f_X9_cheapestCell_33 x1 q4 μ x2 x3) else (if (x3 / 6) = x1 then (f_X9_cheapestCell_33 x1 q4 μ x2 x3) else (if (6 + (rm32 x3 6)) = x1 then (f_X9_cheapestCell_33 x1 q4 μ x2 x3) else (f_X9_cheapestCell_38 x1 q4 μ x2 x3 0))))
def f_X9_cheapestCell_4 (x1 : Int32)  (μ : Mem) : Nat → Int32 → Int32 → Option Int32
  | 0, _, _ => none
  | n + 1, x2, x3 => g_X9_cheapestCell_4 x1 μ (f_X9_cheapestCell_4 x1 μ n) x2 x3
set_option maxRecDepth 100000 in
set_option maxHeartbeats 4000000 in
theorem w_X9_cheapestCell_4 {p : Program} {l : Launch} {e : Env} {s : State} {m : MethodId} {args : Array Value} {below : List Frame} {meth : Method} {c : Code} {G : Gp} {O : Int32} (C : Cx p s m args meth c cX9_cheapestCell 5 RX9 (some .int) G) {x1 : Int32} {μ : Mem} {q4 : Int32 → Int32 → Option Int32} (hq4 : ∀ (x2 : Int32) (x3 : Int32), q4 x2 x3 = some O → ∀ (H : Heap) (locs : List Loc) (ls : Array Slot), Wm G μ H → va_S (wA G) s.heap H locs → lv_has ls 5 [(0, .ref (G.2.2 122)), (1, .int x1), (2, .int x2), (3, .int x3)] → W p l e (rmm 1 21) s m args below meth c H locs 0 0 (QI below args s G (O, μ)) (F0 m 4 ls [])) : ∀ (x2 : Int32) (x3 : Int32), g_X9_cheapestCell_4 x1 μ q4 x2 x3 = some O → ∀ (H : Heap) (locs : List Loc) (ls : Array Slot), Wm G μ H → va_S (wA G) s.heap H locs → lv_has ls 5 [(0, .ref (G.2.2 122)), (1, .int x1), (2, .int x2), (3, .int x3)] → W p l e (rmm 1 21) s m args below meth c H locs 0 0 (QI below args s G (O, μ)) (F0 m 4 ls []) := by
  intro x2 x3 h H locs ls hP hS hl
  unfold g_X9_cheapestCell_4 at h
  refine lv_iload_n C.x C.b dX9_cheapestCell_4 rfl (lv_at hl 3 rfl) ?_
  refine lv_bipush (v := 36) C.x C.b dX9_cheapestCell_5 (by decide) ?_
  refine lv_icmp_ge (tgt := 80) C.x C.b dX9_cheapestCell_7 (by decide) (fun c1 => ?_) (fun c1 => ?_)
  · have h := (if_pos c1).symm.trans h
    refine lv_iload_n C.x C.b dX9_cheapestCell_80 rfl (lv_at hl 2 rfl) ?_
    exact r_i (pr_some h) C hP hS dX9_cheapestCell_81
  · have h := (if_neg c1).symm.trans h
    refine lv_iload_n C.x C.b dX9_cheapestCell_10 rfl (lv_at hl 1 rfl) ?_
    refine lv_if_lt (tgt := 33) C.x C.b dX9_cheapestCell_11 (by decide) (fun c2 => ?_) (fun c2 => ?_)
    · have h := (if_pos c2).symm.trans h
      exact b_X9_cheapestCell_33 C hq4 x2 x3 h _ _ _ hP hS (lv_sub hl [0, 1, 2, 3] rfl)
    · have h := (if_neg c2).symm.trans h
      refine lv_iload_n C.x C.b dX9_cheapestCell_14 rfl (lv_at hl 3 rfl) ?_
      refine lv_bipush (v := 6) C.x C.b dX9_cheapestCell_15 (by decide) ?_
      refine lv_idiv C.x C.b dX9_cheapestCell_17 (by decide) ?_
      refine lv_iload_n C.x C.b dX9_cheapestCell_18 rfl (lv_at hl 1 rfl) ?_
      refine lv_icmp_eq (tgt := 33) C.x C.b dX9_cheapestCell_19 (by decide) (fun c3 => ?_) (fun c3 => ?_)
      · have h := (if_pos c3).symm.trans h
        exact b_X9_cheapestCell_33 C hq4 x2 x3 h _ _ _ hP hS (lv_sub hl [0, 1, 2, 3] rfl)
      · have h := (if_neg c3).symm.trans h
        refine lv_bipush (v := 6) C.x C.b dX9_cheapestCell_22 (by decide) ?_
        refine lv_iload_n C.x C.b dX9_cheapestCell_24 rfl (lv_at hl 3 rfl) ?_
        refine lv_bipush (v := 6) C.x C.b dX9_cheapestCell_25 (by decide) ?_
        refine lv_irem C.x C.b dX9_cheapestCell_27 (by decide) ?_
        refine lv_iadd C.x C.b dX9_cheapestCell_28 ?_
        refine lv_iload_n C.x C.b dX9_cheapestCell_29 rfl (lv_at hl 1 rfl) ?_
        refine lv_icmp_ne (tgt := 37) C.x C.b dX9_cheapestCell_30 (by decide) (fun c4 => ?_) (fun c4 => ?_)
        · have h := (if_neg c4).symm.trans h
          refine lv_iconst (v := 0) C.x C.b dX9_cheapestCell_37 (by decide) ?_
          exact b_X9_cheapestCell_38 C hq4 x2 x3 0 h _ _ _ hP hS (lv_sub hl [0, 1, 2, 3] rfl)
        · have h := (if_pos c4).symm.trans h
          exact b_X9_cheapestCell_33 C hq4 x2 x3 h _ _ _ hP hS (lv_sub hl [0, 1, 2, 3] rfl)

set_option maxRecDepth 100000 in
set_option maxHeartbeats 4000000 in
theorem b_X9_cheapestCell_4 {p : Program} {l : Launch} {e : Env} {s : State} {m : MethodId} {args : Array Value} {below : List Frame} {meth : Method} {c : Code} {G : Gp} {O : Int32} (C : Cx p s m args meth c cX9_cheapestCell 5 RX9 (some .int) G) {x1 : Int32} {μ : Mem} : ∀ (n : Nat) (x2 : Int32) (x3 : Int32), f_X9_cheapestCell_4 x1 μ n x2 x3 = some O → ∀ (H : Heap) (locs : List Loc) (ls : Array Slot), Wm G μ H → va_S (wA G) s.heap H locs → lv_has ls 5 [(0, .ref (G.2.2 122)), (1, .int x1), (2, .int x2), (3, .int x3)] → W p l e (rmm 1 21) s m args below meth c H locs 0 0 (QI below args s G (O, μ)) (F0 m 4 ls []) := by
  intro n
  induction n with
  | zero => intro x2 x3 h; cases h
  | succ n ih => intro x2 x3 h; exact w_X9_cheapestCell_4 C (q4 := f_X9_cheapestCell_4 x1 μ n) ih x2 x3 h

def f_X9_cheapestCell (x1 : Int32) (μ : Mem) : Option Int32 := f_X9_cheapestCell_4 x1 μ FU ((-1)) 0
set_option maxRecDepth 100000 in
set_option maxHeartbeats 4000000 in
theorem b_X9_cheapestCell {p : Program} {l : Launch} {e : Env} {s : State} {m : MethodId} {args : Array Value} {below : List Frame} {meth : Method} {c : Code} {G : Gp} {O : Int32} (C : Cx p s m args meth c cX9_cheapestCell 5 RX9 (some .int) G) {x1 : Int32} {μ : Mem} (h : f_X9_cheapestCell x1 μ = some O) : ∀ (H : Heap) (locs : List Loc) (ls : Array Slot), Wm G μ H → va_S (wA G) s.heap H locs → lv_has ls 5 [(0, .ref (G.2.2 122)), (1, .int x1)] → W p l e (rmm 1 21) s m args below meth c H locs 0 0 (QI below args s G (O, μ)) (F0 m 0 ls []) := by
  unfold f_X9_cheapestCell at h
  intro H locs ls hP hS hl
  refine lv_iconst (v := (-1)) C.x C.b dX9_cheapestCell_0 (by decide) ?_
  refine lv_istore_n (lv' := [(2, .int ((-1))), (0, .ref (G.2.2 122)), (1, .int x1)]) C.x C.b dX9_cheapestCell_1 rfl hl (by decide) rfl (fun ls hl => ?_)
  refine lv_iconst (v := 0) C.x C.b dX9_cheapestCell_2 (by decide) ?_
  refine lv_istore_n (lv' := [(3, .int 0), (2, .int ((-1))), (0, .ref (G.2.2 122)), (1, .int x1)]) C.x C.b dX9_cheapestCell_3 rfl hl (by decide) rfl (fun ls hl => ?_)
  exact b_X9_cheapestCell_4 C FU ((-1)) 0 h _ _ _ hP hS (lv_sub hl [2, 3, 1, 0] rfl)

set_option maxRecDepth 100000 in
set_option maxHeartbeats 4000000 in
theorem c_X9_cheapestCell {l : Launch} {G : Gp} (hI : Wi G) {x1 : Int32} {μ : Mem} {r : Int32} (h : f_X9_cheapestCell x1 μ = some r) : CI l yX9_cheapestCell cX9_cheapestCell 5 (some .int) 1 21 G [.ref (G.2.2 122), .int x1] μ r μ :=
  e_all (lv := [(0, .ref (G.2.2 122)), (1, .int x1)]) hI (by decide) (Nat.le_of_ble_eq_true rfl) rfl (fun p e s m args below meth c ls C hP hS hl => b_X9_cheapestCell C h _ _ _ hP hS hl)


def f_X9_regret_81 (x1 : Int32) (q11 : Int32 → Int32 → Int32 → Option Int32) (μ : Mem) (x2 : Int32) (x4 : Int32) : Option Int32 := grd (inb x4 36) (lt (μ.1 127 x4.toNatClampNeg) (fun y2 => lt (x4 + 1) (fun y3 => q11 x2 y2 y3)))
set_option maxRecDepth 100000 in
set_option maxHeartbeats 4000000 in
theorem b_X9_regret_81 {p : Program} {l : Launch} {e : Env} {s : State} {m : MethodId} {args : Array Value} {below : List Frame} {meth : Method} {c : Code} {G : Gp} {O : Int32} (C : Cx p s m args meth c cX9_regret 6 RX9 (some .int) G) {x1 : Int32} {μ : Mem} {q11 : Int32 → Int32 → Int32 → Option Int32} (hq11 : ∀ (x2 : Int32) (x3 : Int32) (x4 : Int32), q11 x2 x3 x4 = some O → ∀ (H : Heap) (locs : List Loc) (ls : Array Slot), Wm G μ H → va_S (wA G) s.heap H locs → lv_has ls 6 [(0, .ref (G.2.2 122)), (1, .int x1), (2, .int x2), (3, .int x3), (4, .int x4)] → W p l e (rmm 2 45) s m args below meth c H locs 0 0 (QI below args s G (O, μ)) (F0 m 11 ls [])) : ∀ (x2 : Int32) (x4 : Int32), f_X9_regret_81 x1 q11 μ x2 x4 = some O → ∀ (H : Heap) (locs : List Loc) (ls : Array Slot), Wm G μ H → va_S (wA G) s.heap H locs → lv_has ls 6 [(0, .ref (G.2.2 122)), (1, .int x1), (2, .int x2), (4, .int x4)] → W p l e (rmm 2 45) s m args below meth c H locs 0 0 (QI below args s G (O, μ)) (F0 m 81 ls []) := by
  intro x2 x4 h H locs ls hP hS hl
  unfold f_X9_regret_81 at h
  refine lv_aload_n C.x C.b dX9_regret_81 rfl (lv_at hl 0 rfl) ?_
  refine g_ref (k' := 127) F_9_10 u4_139 C hP sh_122 rfl dX9_regret_82 ?_
  refine lv_iload C.x C.b dX9_regret_85 (lv_at hl 3 rfl) ?_
  obtain ⟨g1, h⟩ := grd_some h
  refine a_i C hP sh_127 g1 dX9_regret_87 ?_
  refine lv_topi (fun y2 e_y2 => ?_)
  have h := lt_at h e_y2
  refine lv_istore_n (lv' := [(3, .int y2), (0, .ref (G.2.2 122)), (1, .int x1), (2, .int x2), (4, .int x4)]) C.x C.b dX9_regret_88 rfl hl (by decide) rfl (fun ls hl => ?_)
  obtain ⟨y3, e_y3, h⟩ := lt_ex h
  refine lv_iinc (v := y3) (lv' := [(4, .int y3), (3, .int y2), (0, .ref (G.2.2 122)), (1, .int x1), (2, .int x2)]) C.x C.b dX9_regret_89 hl (k := 4) rfl (by rw [e_y3]; rfl) (by decide) rfl (fun ls hl => ?_)
  refine lv_goto (tgt := 11) C.x C.b dX9_regret_92 (by decide) ?_
  exact hq11 x2 y2 y3 h _ _ _ hP hS (lv_sub hl [2, 3, 4, 1, 0] rfl)

def f_X9_regret_44 (x1 : Int32) (q11 : Int32 → Int32 → Int32 → Option Int32) (μ : Mem) (x2 : Int32) (x3 : Int32) (x4 : Int32) (z0 : Int32) : Option Int32 := if z0 = 0 then (lt (x4 + 1) (fun y2 => q11 x2 x3 y2)) else (if x4 = x2 then (lt (x4 + 1) (fun y4 => q11 x2 x3 y4)) else (bnv (f_X9_isOpenCell x4 μ) (fun r6 => if r6 = 0 then (lt (x4 + 1) (fun y8 => q11 x2 x3 y8)) else (if x3 < 0 then (f_X9_regret_81 x1 q11 μ x2 x4) else (grd (inb x4 36) (if x3 ≤ (μ.1 127 x4.toNatClampNeg) then (lt (x4 + 1) (fun y12 => q11 x2 x3 y12)) else (f_X9_regret_81 x1 q11 μ x2 x4)))))))
set_option maxRecDepth 100000 in
set_option maxHeartbeats 4000000 in
theorem b_X9_regret_44 {p : Program} {l : Launch} {e : Env} {s : State} {m : MethodId} {args : Array Value} {below : List Frame} {meth : Method} {c : Code} {G : Gp} {O : Int32} (C : Cx p s m args meth c cX9_regret 6 RX9 (some .int) G) {x1 : Int32} {μ : Mem} {q11 : Int32 → Int32 → Int32 → Option Int32} (hq11 : ∀ (x2 : Int32) (x3 : Int32) (x4 : Int32), q11 x2 x3 x4 = some O → ∀ (H : Heap) (locs : List Loc) (ls : Array Slot), Wm G μ H → va_S (wA G) s.heap H locs → lv_has ls 6 [(0, .ref (G.2.2 122)), (1, .int x1), (2, .int x2), (3, .int x3), (4, .int x4)] → W p l e (rmm 2 45) s m args below meth c H locs 0 0 (QI below args s G (O, μ)) (F0 m 11 ls [])) : ∀ (x2 : Int32) (x3 : Int32) (x4 : Int32) (z0 : Int32), f_X9_regret_44 x1 q11 μ x2 x3 x4 z0 = some O → ∀ (H : Heap) (locs : List Loc) (ls : Array Slot), Wm G μ H → va_S (wA G) s.heap H locs → lv_has ls 6 [(0, .ref (G.2.2 122)), (1, .int x1), (2, .int x2), (3, .int x3), (4, .int x4)] → W p l e (rmm 2 45) s m args below meth c H locs 0 0 (QI below args s G (O, μ)) (F0 m 44 ls [.int z0]) := by
  intro x2 x3 x4 z0 h H locs ls hP hS hl
  unfold f_X9_regret_44 at h
  refine lv_istore (lv' := [(5, .int z0), (0, .ref (G.2.2 122)), (1, .int x1), (2, .int x2), (3, .int x3), (4, .int x4)]) C.x C.b dX9_regret_44 hl (by decide) rfl (fun ls hl => ?_)
  refine lv_iload C.x C.b dX9_regret_46 (lv_at hl 0 rfl) ?_
  refine lv_if_eq (tgt := 89) C.x C.b dX9_regret_48 (by decide) (fun c1 => ?_) (fun c1 => ?_)
  · have h := (if_pos c1).symm.trans h
    obtain ⟨y2, e_y2, h⟩ := lt_ex h
    refine lv_iinc (v := y2) (lv' := [(4, .int y2), (5, .int z0), (0, .ref (G.2.2 122)), (1, .int x1), (2, .int x2), (3, .int x3)]) C.x C.b dX9_regret_89 hl (k := 5) rfl (by rw [e_y2]; rfl) (by decide) rfl (fun ls hl => ?_)
    refine lv_goto (tgt := 11) C.x C.b dX9_regret_92 (by decide) ?_
    exact hq11 x2 x3 y2 h _ _ _ hP hS (lv_sub hl [2, 3, 4, 5, 0] rfl)
  · have h := (if_neg c1).symm.trans h
    refine lv_iload C.x C.b dX9_regret_51 (lv_at hl 5 rfl) ?_
    refine lv_iload_n C.x C.b dX9_regret_53 rfl (lv_at hl 3 rfl) ?_
    refine lv_icmp_eq (tgt := 89) C.x C.b dX9_regret_54 (by decide) (fun c3 => ?_) (fun c3 => ?_)
    · have h := (if_pos c3).symm.trans h
      obtain ⟨y4, e_y4, h⟩ := lt_ex h
      refine lv_iinc (v := y4) (lv' := [(4, .int y4), (5, .int z0), (0, .ref (G.2.2 122)), (1, .int x1), (2, .int x2), (3, .int x3)]) C.x C.b dX9_regret_89 hl (k := 5) rfl (by rw [e_y4]; rfl) (by decide) rfl (fun ls hl => ?_)
      refine lv_goto (tgt := 11) C.x C.b dX9_regret_92 (by decide) ?_
      exact hq11 x2 x3 y4 h _ _ _ hP hS (lv_sub hl [2, 3, 4, 5, 0] rfl)
    · have h := (if_neg c3).symm.trans h
      refine lv_aload_n C.x C.b dX9_regret_57 rfl (lv_at hl 1 rfl) ?_
      refine lv_iload C.x C.b dX9_regret_58 (lv_at hl 5 rfl) ?_
      obtain ⟨r6, e5, h⟩ := bnv_some h
      refine k_vi (k := 122) (as := [.int x4]) (rest := []) (c_X9_isOpenCell C.i e5) M_X9_isOpenCell u5_179 C hP hS sh_122 rfl rfl (by decide) hl.1 rfl (Nat.le_of_ble_eq_true rfl) dX9_regret_60 (fun H locs hP hS => ?_)
      refine lv_if_eq (tgt := 89) C.x C.b dX9_regret_63 (by decide) (fun c7 => ?_) (fun c7 => ?_)
      · have h := (if_pos c7).symm.trans h
        obtain ⟨y8, e_y8, h⟩ := lt_ex h
        refine lv_iinc (v := y8) (lv' := [(4, .int y8), (5, .int z0), (0, .ref (G.2.2 122)), (1, .int x1), (2, .int x2), (3, .int x3)]) C.x C.b dX9_regret_89 hl (k := 5) rfl (by rw [e_y8]; rfl) (by decide) rfl (fun ls hl => ?_)
        refine lv_goto (tgt := 11) C.x C.b dX9_regret_92 (by decide) ?_
        exact hq11 x2 x3 y8 h _ _ _ hP hS (lv_sub hl [2, 3, 4, 5, 0] rfl)
      · have h := (if_neg c7).symm.trans h
        refine lv_iload_n C.x C.b dX9_regret_66 rfl (lv_at hl 4 rfl) ?_
        refine lv_if_lt (tgt := 81) C.x C.b dX9_regret_67 (by decide) (fun c9 => ?_) (fun c9 => ?_)
        · have h := (if_pos c9).symm.trans h
          exact b_X9_regret_81 C hq11 x2 x4 h _ _ _ hP hS (lv_sub hl [1, 2, 3, 5] rfl)
        · have h := (if_neg c9).symm.trans h
          refine lv_aload_n C.x C.b dX9_regret_70 rfl (lv_at hl 1 rfl) ?_
          refine g_ref (k' := 127) F_9_10 u4_139 C hP sh_122 rfl dX9_regret_71 ?_
          refine lv_iload C.x C.b dX9_regret_74 (lv_at hl 5 rfl) ?_
          obtain ⟨g10, h⟩ := grd_some h
          refine a_i C hP sh_127 g10 dX9_regret_76 ?_
          refine lv_iload_n C.x C.b dX9_regret_77 rfl (lv_at hl 4 rfl) ?_
          refine lv_icmp_ge (tgt := 89) C.x C.b dX9_regret_78 (by decide) (fun c11 => ?_) (fun c11 => ?_)
          · have h := (if_pos c11).symm.trans h
            obtain ⟨y12, e_y12, h⟩ := lt_ex h
            refine lv_iinc (v := y12) (lv' := [(4, .int y12), (5, .int z0), (0, .ref (G.2.2 122)), (1, .int x1), (2, .int x2), (3, .int x3)]) C.x C.b dX9_regret_89 hl (k := 5) rfl (by rw [e_y12]; rfl) (by decide) rfl (fun ls hl => ?_)
            refine lv_goto (tgt := 11) C.x C.b dX9_regret_92 (by decide) ?_
            exact hq11 x2 x3 y12 h _ _ _ hP hS (lv_sub hl [2, 3, 4, 5, 0] rfl)
          · have h := (if_neg c11).symm.trans h
            exact b_X9_regret_81 C hq11 x2 x4 h _ _ _ hP hS (lv_sub hl [1, 2, 3, 5] rfl)

def f_X9_regret_39 (x1 : Int32) (q11 : Int32 → Int32 → Int32 → Option Int32) (μ : Mem) (x2 : Int32) (x3 : Int32) (x4 : Int32) : Option Int32 := f_X9_regret_44 x1 q11 μ x2 x3 x4 1
set_option maxRecDepth 100000 in
set_option maxHeartbeats 4000000 in
theorem b_X9_regret_39 {p : Program} {l : Launch} {e : Env} {s : State} {m : MethodId} {args : Array Value} {below : List Frame} {meth : Method} {c : Code} {G : Gp} {O : Int32} (C : Cx p s m args meth c cX9_regret 6 RX9 (some .int) G) {x1 : Int32} {μ : Mem} {q11 : Int32 → Int32 → Int32 → Option Int32} (hq11 : ∀ (x2 : Int32) (x3 : Int32) (x4 : Int32), q11 x2 x3 x4 = some O → ∀ (H : Heap) (locs : List Loc) (ls : Array Slot), Wm G μ H → va_S (wA G) s.heap H locs → lv_has ls 6 [(0, .ref (G.2.2 122)), (1, .int x1), (2, .int x2), (3, .int x3), (4, .int x4)] → W p l e (rmm 2 45) s m args below meth c H locs 0 0 (QI below args s G (O, μ)) (F0 m 11 ls [])) : ∀ (x2 : Int32) (x3 : Int32) (x4 : Int32), f_X9_regret_39 x1 q11 μ x2 x3 x4 = some O → ∀ (H : Heap) (locs : List Loc) (ls : Array Slot), Wm G μ H → va_S (wA G) s.heap H locs → lv_has ls 6 [(0, .ref (G.2.2 122)), (1, .int x1), (2, .int x2), (3, .int x3), (4, .int x4)] → W p l e (rmm 2 45) s m args below meth c H locs 0 0 (QI below args s G (O, μ)) (F0 m 39 ls []) := by
  intro x2 x3 x4 h H locs ls hP hS hl
  unfold f_X9_regret_39 at h
  refine lv_iconst (v := 1) C.x C.b dX9_regret_39 (by decide) ?_
  refine lv_goto (tgt := 44) C.x C.b dX9_regret_40 (by decide) ?_
  exact b_X9_regret_44 C hq11 x2 x3 x4 1 h _ _ _ hP hS (lv_sub hl [0, 1, 2, 3, 4] rfl)

def g_X9_regret_11 (x1 : Int32)  (μ : Mem) (q11 : Int32 → Int32 → Int32 → Option Int32) (x2 : Int32) (x3 : Int32) (x4 : Int32) : Option Int32 := if 36 ≤ x4 then (if 0 ≤ x3 then (grd (inb x2 36) (some (x3 - (μ.1 127 x2.toNatClampNeg)))) else (grd (inb x2 36) (some (μ.1 127 x2.toNatClampNeg)))) else (if (x4 / 6) = x1 then (f_X9_regret_39 x1 q11 μ x2 x3 x4) else (if (6 + (rm32 x4 6)) = x1 then (f_X9_regret_39 x1 q11 μ x2 x3 x4) else (f_X9_regret_44 x1 q11 μ x2 x3 x4 0)))
def f_X9_regret_11 (x1 : Int32)  (μ : Mem) : Nat → Int32 → Int32 → Int32 → Option Int32
  | 0, _, _, _ => none
  | n + 1, x2, x3, x4 => g_X9_regret_11 x1 μ (f_X9_regret_11 x1 μ n) x2 x3 x4
set_option maxRecDepth 100000 in
set_option maxHeartbeats 4000000 in
theorem w_X9_regret_11 {p : Program} {l : Launch} {e : Env} {s : State} {m : MethodId} {args : Array Value} {below : List Frame} {meth : Method} {c : Code} {G : Gp} {O : Int32} (C : Cx p s m args meth c cX9_regret 6 RX9 (some .int) G) {x1 : Int32} {μ : Mem} {q11 : Int32 → Int32 → Int32 → Option Int32} (hq11 : ∀ (x2 : Int32) (x3 : Int32) (x4 : Int32), q11 x2 x3 x4 = some O → ∀ (H : Heap) (locs : List Loc) (ls : Array Slot), Wm G μ H → va_S (wA G) s.heap H locs → lv_has ls 6 [(0, .ref (G.2.2 122)), (1, .int x1), (2, .int x2), (3, .int x3), (4, .int x4)] → W p l e (rmm 2 45) s m args below meth c H locs 0 0 (QI below args s G (O, μ)) (F0 m 11 ls [])) : ∀ (x2 : Int32) (x3 : Int32) (x4 : Int32), g_X9_regret_11 x1 μ q11 x2 x3 x4 = some O → ∀ (H : Heap) (locs : List Loc) (ls : Array Slot), Wm G μ H → va_S (wA G) s.heap H locs → lv_has ls 6 [(0, .ref (G.2.2 122)), (1, .int x1), (2, .int x2), (3, .int x3), (4, .int x4)] → W p l e (rmm 2 45) s m args below meth c H locs 0 0 (QI below args s G (O, μ)) (F0 m 11 ls []) := by
  intro x2 x3 x4 h H locs ls hP hS hl
  unfold g_X9_regret_11 at h
  refine lv_iload C.x C.b dX9_regret_11 (lv_at hl 4 rfl) ?_
  refine lv_bipush (v := 36) C.x C.b dX9_regret_13 (by decide) ?_
  refine lv_icmp_ge (tgt := 95) C.x C.b dX9_regret_15 (by decide) (fun c1 => ?_) (fun c1 => ?_)
  · have h := (if_pos c1).symm.trans h
    refine lv_iload_n C.x C.b dX9_regret_95 rfl (lv_at hl 3 rfl) ?_
    refine lv_if_ge (tgt := 108) C.x C.b dX9_regret_96 (by decide) (fun c2 => ?_) (fun c2 => ?_)
    · have h := (if_pos c2).symm.trans h
      refine lv_iload_n C.x C.b dX9_regret_108 rfl (lv_at hl 3 rfl) ?_
      refine lv_aload_n C.x C.b dX9_regret_109 rfl (lv_at hl 0 rfl) ?_
      refine g_ref (k' := 127) F_9_10 u4_139 C hP sh_122 rfl dX9_regret_110 ?_
      refine lv_iload_n C.x C.b dX9_regret_113 rfl (lv_at hl 2 rfl) ?_
      obtain ⟨g3, h⟩ := grd_some h
      refine a_i C hP sh_127 g3 dX9_regret_114 ?_
      refine lv_isub C.x C.b dX9_regret_115 ?_
      exact r_i (pr_some h) C hP hS dX9_regret_116
    · have h := (if_neg c2).symm.trans h
      refine lv_aload_n C.x C.b dX9_regret_99 rfl (lv_at hl 0 rfl) ?_
      refine g_ref (k' := 127) F_9_10 u4_139 C hP sh_122 rfl dX9_regret_100 ?_
      refine lv_iload_n C.x C.b dX9_regret_103 rfl (lv_at hl 2 rfl) ?_
      obtain ⟨g4, h⟩ := grd_some h
      refine a_i C hP sh_127 g4 dX9_regret_104 ?_
      refine lv_goto (tgt := 116) C.x C.b dX9_regret_105 (by decide) ?_
      exact r_i (pr_some h) C hP hS dX9_regret_116
  · have h := (if_neg c1).symm.trans h
    refine lv_iload C.x C.b dX9_regret_18 (lv_at hl 4 rfl) ?_
    refine lv_bipush (v := 6) C.x C.b dX9_regret_20 (by decide) ?_
    refine lv_idiv C.x C.b dX9_regret_22 (by decide) ?_
    refine lv_iload_n C.x C.b dX9_regret_23 rfl (lv_at hl 1 rfl) ?_
    refine lv_icmp_eq (tgt := 39) C.x C.b dX9_regret_24 (by decide) (fun c5 => ?_) (fun c5 => ?_)
    · have h := (if_pos c5).symm.trans h
      exact b_X9_regret_39 C hq11 x2 x3 x4 h _ _ _ hP hS (lv_sub hl [0, 1, 2, 3, 4] rfl)
    · have h := (if_neg c5).symm.trans h
      refine lv_bipush (v := 6) C.x C.b dX9_regret_27 (by decide) ?_
      refine lv_iload C.x C.b dX9_regret_29 (lv_at hl 4 rfl) ?_
      refine lv_bipush (v := 6) C.x C.b dX9_regret_31 (by decide) ?_
      refine lv_irem C.x C.b dX9_regret_33 (by decide) ?_
      refine lv_iadd C.x C.b dX9_regret_34 ?_
      refine lv_iload_n C.x C.b dX9_regret_35 rfl (lv_at hl 1 rfl) ?_
      refine lv_icmp_ne (tgt := 43) C.x C.b dX9_regret_36 (by decide) (fun c6 => ?_) (fun c6 => ?_)
      · have h := (if_neg c6).symm.trans h
        refine lv_iconst (v := 0) C.x C.b dX9_regret_43 (by decide) ?_
        exact b_X9_regret_44 C hq11 x2 x3 x4 0 h _ _ _ hP hS (lv_sub hl [0, 1, 2, 3, 4] rfl)
      · have h := (if_pos c6).symm.trans h
        exact b_X9_regret_39 C hq11 x2 x3 x4 h _ _ _ hP hS (lv_sub hl [0, 1, 2, 3, 4] rfl)

set_option maxRecDepth 100000 in
set_option maxHeartbeats 4000000 in
theorem b_X9_regret_11 {p : Program} {l : Launch} {e : Env} {s : State} {m : MethodId} {args : Array Value} {below : List Frame} {meth : Method} {c : Code} {G : Gp} {O : Int32} (C : Cx p s m args meth c cX9_regret 6 RX9 (some .int) G) {x1 : Int32} {μ : Mem} : ∀ (n : Nat) (x2 : Int32) (x3 : Int32) (x4 : Int32), f_X9_regret_11 x1 μ n x2 x3 x4 = some O → ∀ (H : Heap) (locs : List Loc) (ls : Array Slot), Wm G μ H → va_S (wA G) s.heap H locs → lv_has ls 6 [(0, .ref (G.2.2 122)), (1, .int x1), (2, .int x2), (3, .int x3), (4, .int x4)] → W p l e (rmm 2 45) s m args below meth c H locs 0 0 (QI below args s G (O, μ)) (F0 m 11 ls []) := by
  intro n
  induction n with
  | zero => intro x2 x3 x4 h; cases h
  | succ n ih => intro x2 x3 x4 h; exact w_X9_regret_11 C (q11 := f_X9_regret_11 x1 μ n) ih x2 x3 x4 h

def f_X9_regret (x1 : Int32) (μ : Mem) : Option Int32 := bnv (f_X9_cheapestCell x1 μ) (fun r2 => f_X9_regret_11 x1 μ FU r2 ((-1)) 0)
set_option maxRecDepth 100000 in
set_option maxHeartbeats 4000000 in
theorem b_X9_regret {p : Program} {l : Launch} {e : Env} {s : State} {m : MethodId} {args : Array Value} {below : List Frame} {meth : Method} {c : Code} {G : Gp} {O : Int32} (C : Cx p s m args meth c cX9_regret 6 RX9 (some .int) G) {x1 : Int32} {μ : Mem} (h : f_X9_regret x1 μ = some O) : ∀ (H : Heap) (locs : List Loc) (ls : Array Slot), Wm G μ H → va_S (wA G) s.heap H locs → lv_has ls 6 [(0, .ref (G.2.2 122)), (1, .int x1)] → W p l e (rmm 2 45) s m args below meth c H locs 0 0 (QI below args s G (O, μ)) (F0 m 0 ls []) := by
  unfold f_X9_regret at h
  intro H locs ls hP hS hl
  refine lv_aload_n C.x C.b dX9_regret_0 rfl (lv_at hl 0 rfl) ?_
  refine lv_iload_n C.x C.b dX9_regret_1 rfl (lv_at hl 1 rfl) ?_
  obtain ⟨r2, e1, h⟩ := bnv_some h
  refine k_vi (k := 122) (as := [.int x1]) (rest := []) (c_X9_cheapestCell C.i e1) M_X9_cheapestCell u5_183 C hP hS sh_122 rfl rfl (by decide) hl.1 rfl (Nat.le_of_ble_eq_true rfl) dX9_regret_2 (fun H locs hP hS => ?_)
  refine lv_istore_n (lv' := [(2, .int r2), (0, .ref (G.2.2 122)), (1, .int x1)]) C.x C.b dX9_regret_5 rfl hl (by decide) rfl (fun ls hl => ?_)
  refine lv_iconst (v := (-1)) C.x C.b dX9_regret_6 (by decide) ?_
  refine lv_istore_n (lv' := [(3, .int ((-1))), (2, .int r2), (0, .ref (G.2.2 122)), (1, .int x1)]) C.x C.b dX9_regret_7 rfl hl (by decide) rfl (fun ls hl => ?_)
  refine lv_iconst (v := 0) C.x C.b dX9_regret_8 (by decide) ?_
  refine lv_istore (lv' := [(4, .int 0), (3, .int ((-1))), (2, .int r2), (0, .ref (G.2.2 122)), (1, .int x1)]) C.x C.b dX9_regret_9 hl (by decide) rfl (fun ls hl => ?_)
  exact b_X9_regret_11 C FU r2 ((-1)) 0 h _ _ _ hP hS (lv_sub hl [3, 4, 2, 1, 0] rfl)

set_option maxRecDepth 100000 in
set_option maxHeartbeats 4000000 in
theorem c_X9_regret {l : Launch} {G : Gp} (hI : Wi G) {x1 : Int32} {μ : Mem} {r : Int32} (h : f_X9_regret x1 μ = some r) : CI l yX9_regret cX9_regret 6 (some .int) 2 45 G [.ref (G.2.2 122), .int x1] μ r μ :=
  e_all (lv := [(0, .ref (G.2.2 122)), (1, .int x1)]) hI (by decide) (Nat.le_of_ble_eq_true rfl) rfl (fun p e s m args below meth c ls C hP hS hl => b_X9_regret C h _ _ _ hP hS hl)


def g_X9_corner_2   (μ : Mem) (q2 : Int32 → Option Int32) (x1 : Int32) : Option Int32 := bnv (f_X9_isOpenCell x1 μ) (fun r2 => if r2 = 0 then (lt (x1 + 1) (fun y4 => q2 y4)) else (some x1))
def f_X9_corner_2   (μ : Mem) : Nat → Int32 → Option Int32
  | 0, _ => none
  | n + 1, x1 => g_X9_corner_2  μ (f_X9_corner_2  μ n) x1
set_option maxRecDepth 100000 in
set_option maxHeartbeats 4000000 in
theorem w_X9_corner_2 {p : Program} {l : Launch} {e : Env} {s : State} {m : MethodId} {args : Array Value} {below : List Frame} {meth : Method} {c : Code} {G : Gp} {O : Int32} (C : Cx p s m args meth c cX9_corner 2 RX9 (some .int) G) {μ : Mem} {q2 : Int32 → Option Int32} (hq2 : ∀ (x1 : Int32), q2 x1 = some O → ∀ (H : Heap) (locs : List Loc) (ls : Array Slot), Wm G μ H → va_S (wA G) s.heap H locs → lv_has ls 2 [(0, .ref (G.2.2 122)), (1, .int x1)] → W p l e (rmm 1 21) s m args below meth c H locs 0 0 (QI below args s G (O, μ)) (F0 m 2 ls [])) : ∀ (x1 : Int32), g_X9_corner_2 μ q2 x1 = some O → ∀ (H : Heap) (locs : List Loc) (ls : Array Slot), Wm G μ H → va_S (wA G) s.heap H locs → lv_has ls 2 [(0, .ref (G.2.2 122)), (1, .int x1)] → W p l e (rmm 1 21) s m args below meth c H locs 0 0 (QI below args s G (O, μ)) (F0 m 2 ls []) := by
  intro x1 h H locs ls hP hS hl
  unfold g_X9_corner_2 at h
  refine lv_aload_n C.x C.b dX9_corner_2 rfl (lv_at hl 0 rfl) ?_
  refine lv_iload_n C.x C.b dX9_corner_3 rfl (lv_at hl 1 rfl) ?_
  obtain ⟨r2, e1, h⟩ := bnv_some h
  refine k_vi (k := 122) (as := [.int x1]) (rest := []) (c_X9_isOpenCell C.i e1) M_X9_isOpenCell u5_179 C hP hS sh_122 rfl rfl (by decide) hl.1 rfl (Nat.le_of_ble_eq_true rfl) dX9_corner_4 (fun H locs hP hS => ?_)
  refine lv_if_ne (tgt := 16) C.x C.b dX9_corner_7 (by decide) (fun c3 => ?_) (fun c3 => ?_)
  · have h := (if_neg c3).symm.trans h
    refine lv_iload_n C.x C.b dX9_corner_16 rfl (lv_at hl 1 rfl) ?_
    exact r_i (pr_some h) C hP hS dX9_corner_17
  · have h := (if_pos c3).symm.trans h
    obtain ⟨y4, e_y4, h⟩ := lt_ex h
    refine lv_iinc (v := y4) (lv' := [(1, .int y4), (0, .ref (G.2.2 122))]) C.x C.b dX9_corner_10 hl (k := 1) rfl (by rw [e_y4]; rfl) (by decide) rfl (fun ls hl => ?_)
    refine lv_goto (tgt := 2) C.x C.b dX9_corner_13 (by decide) ?_
    exact hq2 y4 h _ _ _ hP hS (lv_sub hl [1, 0] rfl)

set_option maxRecDepth 100000 in
set_option maxHeartbeats 4000000 in
theorem b_X9_corner_2 {p : Program} {l : Launch} {e : Env} {s : State} {m : MethodId} {args : Array Value} {below : List Frame} {meth : Method} {c : Code} {G : Gp} {O : Int32} (C : Cx p s m args meth c cX9_corner 2 RX9 (some .int) G) {μ : Mem} : ∀ (n : Nat) (x1 : Int32), f_X9_corner_2 μ n x1 = some O → ∀ (H : Heap) (locs : List Loc) (ls : Array Slot), Wm G μ H → va_S (wA G) s.heap H locs → lv_has ls 2 [(0, .ref (G.2.2 122)), (1, .int x1)] → W p l e (rmm 1 21) s m args below meth c H locs 0 0 (QI below args s G (O, μ)) (F0 m 2 ls []) := by
  intro n
  induction n with
  | zero => intro x1 h; cases h
  | succ n ih => intro x1 h; exact w_X9_corner_2 C (q2 := f_X9_corner_2 μ n) ih x1 h

def f_X9_corner  (μ : Mem) : Option Int32 := f_X9_corner_2 μ FU 0
set_option maxRecDepth 100000 in
set_option maxHeartbeats 4000000 in
theorem b_X9_corner {p : Program} {l : Launch} {e : Env} {s : State} {m : MethodId} {args : Array Value} {below : List Frame} {meth : Method} {c : Code} {G : Gp} {O : Int32} (C : Cx p s m args meth c cX9_corner 2 RX9 (some .int) G) {μ : Mem} (h : f_X9_corner μ = some O) : ∀ (H : Heap) (locs : List Loc) (ls : Array Slot), Wm G μ H → va_S (wA G) s.heap H locs → lv_has ls 2 [(0, .ref (G.2.2 122))] → W p l e (rmm 1 21) s m args below meth c H locs 0 0 (QI below args s G (O, μ)) (F0 m 0 ls []) := by
  unfold f_X9_corner at h
  intro H locs ls hP hS hl
  refine lv_iconst (v := 0) C.x C.b dX9_corner_0 (by decide) ?_
  refine lv_istore_n (lv' := [(1, .int 0), (0, .ref (G.2.2 122))]) C.x C.b dX9_corner_1 rfl hl (by decide) rfl (fun ls hl => ?_)
  exact b_X9_corner_2 C FU 0 h _ _ _ hP hS (lv_sub hl [1, 0] rfl)

set_option maxRecDepth 100000 in
set_option maxHeartbeats 4000000 in
theorem c_X9_corner {l : Launch} {G : Gp} (hI : Wi G) {μ : Mem} {r : Int32} (h : f_X9_corner μ = some r) : CI l yX9_corner cX9_corner 2 (some .int) 1 21 G [.ref (G.2.2 122)] μ r μ :=
  e_all (lv := [(0, .ref (G.2.2 122))]) hI (by decide) (Nat.le_of_ble_eq_true rfl) rfl (fun p e s m args below meth c ls C hP hS hl => b_X9_corner C h _ _ _ hP hS hl)


def g_X9_picked_24 (x1 : Int32)  (μ : Mem) (q24 : Int32 → Int32 → Option Int32) (x2 : Int32) (x3 : Int32) : Option Int32 := if 12 ≤ x3 then (bnv (f_X9_cheapestCell x2 μ) (fun r3 => some r3)) else (grd (inb x3 12) (if (μ.1 141 x3.toNatClampNeg) = 0 then (lt (x3 + 1) (fun y6 => q24 x2 y6)) else (if x2 < 0 then (lt (x3 + 1) (fun y8 => q24 x3 y8)) else (bnv (f_X9_regret x3 μ) (fun r10 => bnv (f_X9_regret x2 μ) (fun r12 => if r10 ≤ r12 then (lt (x3 + 1) (fun y14 => q24 x2 y14)) else (lt (x3 + 1) (fun y15 => q24 x3 y15))))))))
def f_X9_picked_24 (x1 : Int32)  (μ : Mem) : Nat → Int32 → Int32 → Option Int32
  | 0, _, _ => none
  | n + 1, x2, x3 => g_X9_picked_24 x1 μ (f_X9_picked_24 x1 μ n) x2 x3
set_option maxRecDepth 100000 in
set_option maxHeartbeats 4000000 in
theorem w_X9_picked_24 {p : Program} {l : Launch} {e : Env} {s : State} {m : MethodId} {args : Array Value} {below : List Frame} {meth : Method} {c : Code} {G : Gp} {O : Int32} (C : Cx p s m args meth c cX9_picked 4 RX9 (some .int) G) {x1 : Int32} {μ : Mem} {q24 : Int32 → Int32 → Option Int32} (hq24 : ∀ (x2 : Int32) (x3 : Int32), q24 x2 x3 = some O → ∀ (H : Heap) (locs : List Loc) (ls : Array Slot), Wm G μ H → va_S (wA G) s.heap H locs → lv_has ls 4 [(0, .ref (G.2.2 122)), (2, .int x2), (3, .int x3)] → W p l e (rmm 3 70) s m args below meth c H locs 0 0 (QI below args s G (O, μ)) (F0 m 24 ls [])) : ∀ (x2 : Int32) (x3 : Int32), g_X9_picked_24 x1 μ q24 x2 x3 = some O → ∀ (H : Heap) (locs : List Loc) (ls : Array Slot), Wm G μ H → va_S (wA G) s.heap H locs → lv_has ls 4 [(0, .ref (G.2.2 122)), (2, .int x2), (3, .int x3)] → W p l e (rmm 3 70) s m args below meth c H locs 0 0 (QI below args s G (O, μ)) (F0 m 24 ls []) := by
  intro x2 x3 h H locs ls hP hS hl
  unfold g_X9_picked_24 at h
  refine lv_iload_n C.x C.b dX9_picked_24 rfl (lv_at hl 2 rfl) ?_
  refine lv_bipush (v := 12) C.x C.b dX9_picked_25 (by decide) ?_
  refine lv_icmp_ge (tgt := 64) C.x C.b dX9_picked_27 (by decide) (fun c1 => ?_) (fun c1 => ?_)
  · have h := (if_pos c1).symm.trans h
    refine lv_aload_n C.x C.b dX9_picked_64 rfl (lv_at hl 0 rfl) ?_
    refine lv_iload_n C.x C.b dX9_picked_65 rfl (lv_at hl 1 rfl) ?_
    obtain ⟨r3, e2, h⟩ := bnv_some h
    refine k_vi (k := 122) (as := [.int x2]) (rest := []) (c_X9_cheapestCell C.i e2) M_X9_cheapestCell u5_183 C hP hS sh_122 rfl rfl (by decide) hl.1 rfl (Nat.le_of_ble_eq_true rfl) dX9_picked_66 (fun H locs hP hS => ?_)
    exact r_i (pr_some h) C hP hS dX9_picked_69
  · have h := (if_neg c1).symm.trans h
    refine lv_aload_n C.x C.b dX9_picked_30 rfl (lv_at hl 0 rfl) ?_
    refine g_ref (k' := 141) F_9_36 u4_165 C hP sh_122 rfl dX9_picked_31 ?_
    refine lv_iload_n C.x C.b dX9_picked_34 rfl (lv_at hl 2 rfl) ?_
    obtain ⟨g4, h⟩ := grd_some h
    refine a_z C hP sh_141 g4 dX9_picked_35 ?_
    refine lv_if_eq (tgt := 58) C.x C.b dX9_picked_36 (by decide) (fun c5 => ?_) (fun c5 => ?_)
    · have h := (if_pos c5).symm.trans h
      obtain ⟨y6, e_y6, h⟩ := lt_ex h
      refine lv_iinc (v := y6) (lv' := [(3, .int y6), (0, .ref (G.2.2 122)), (2, .int x2)]) C.x C.b dX9_picked_58 hl (k := 2) rfl (by rw [e_y6]; rfl) (by decide) rfl (fun ls hl => ?_)
      refine lv_goto (tgt := 24) C.x C.b dX9_picked_61 (by decide) ?_
      exact hq24 x2 y6 h _ _ _ hP hS (lv_sub hl [1, 2, 0] rfl)
    · have h := (if_neg c5).symm.trans h
      refine lv_iload_n C.x C.b dX9_picked_39 rfl (lv_at hl 1 rfl) ?_
      refine lv_if_lt (tgt := 56) C.x C.b dX9_picked_40 (by decide) (fun c7 => ?_) (fun c7 => ?_)
      · have h := (if_pos c7).symm.trans h
        refine lv_iload_n C.x C.b dX9_picked_56 rfl (lv_at hl 2 rfl) ?_
        refine lv_istore_n (lv' := [(2, .int x3), (0, .ref (G.2.2 122)), (3, .int x3)]) C.x C.b dX9_picked_57 rfl hl (by decide) rfl (fun ls hl => ?_)
        obtain ⟨y8, e_y8, h⟩ := lt_ex h
        refine lv_iinc (v := y8) (lv' := [(3, .int y8), (2, .int x3), (0, .ref (G.2.2 122))]) C.x C.b dX9_picked_58 hl (k := 2) rfl (by rw [e_y8]; rfl) (by decide) rfl (fun ls hl => ?_)
        refine lv_goto (tgt := 24) C.x C.b dX9_picked_61 (by decide) ?_
        exact hq24 x3 y8 h _ _ _ hP hS (lv_sub hl [2, 1, 0] rfl)
      · have h := (if_neg c7).symm.trans h
        refine lv_aload_n C.x C.b dX9_picked_43 rfl (lv_at hl 0 rfl) ?_
        refine lv_iload_n C.x C.b dX9_picked_44 rfl (lv_at hl 2 rfl) ?_
        obtain ⟨r10, e9, h⟩ := bnv_some h
        refine k_vi (k := 122) (as := [.int x3]) (rest := []) (c_X9_regret C.i e9) M_X9_regret u5_187 C hP hS sh_122 rfl rfl (by decide) hl.1 rfl (Nat.le_of_ble_eq_true rfl) dX9_picked_45 (fun H locs hP hS => ?_)
        refine lv_aload_n C.x C.b dX9_picked_48 rfl (lv_at hl 0 rfl) ?_
        refine lv_iload_n C.x C.b dX9_picked_49 rfl (lv_at hl 1 rfl) ?_
        obtain ⟨r12, e11, h⟩ := bnv_some h
        refine k_vi (k := 122) (as := [.int x2]) (rest := [.int r10]) (c_X9_regret C.i e11) M_X9_regret u5_187 C hP hS sh_122 rfl rfl (by decide) hl.1 rfl (Nat.le_of_ble_eq_true rfl) dX9_picked_50 (fun H locs hP hS => ?_)
        refine lv_icmp_le (tgt := 58) C.x C.b dX9_picked_53 (by decide) (fun c13 => ?_) (fun c13 => ?_)
        · have h := (if_pos c13).symm.trans h
          obtain ⟨y14, e_y14, h⟩ := lt_ex h
          refine lv_iinc (v := y14) (lv' := [(3, .int y14), (0, .ref (G.2.2 122)), (2, .int x2)]) C.x C.b dX9_picked_58 hl (k := 2) rfl (by rw [e_y14]; rfl) (by decide) rfl (fun ls hl => ?_)
          refine lv_goto (tgt := 24) C.x C.b dX9_picked_61 (by decide) ?_
          exact hq24 x2 y14 h _ _ _ hP hS (lv_sub hl [1, 2, 0] rfl)
        · have h := (if_neg c13).symm.trans h
          refine lv_iload_n C.x C.b dX9_picked_56 rfl (lv_at hl 2 rfl) ?_
          refine lv_istore_n (lv' := [(2, .int x3), (0, .ref (G.2.2 122)), (3, .int x3)]) C.x C.b dX9_picked_57 rfl hl (by decide) rfl (fun ls hl => ?_)
          obtain ⟨y15, e_y15, h⟩ := lt_ex h
          refine lv_iinc (v := y15) (lv' := [(3, .int y15), (2, .int x3), (0, .ref (G.2.2 122))]) C.x C.b dX9_picked_58 hl (k := 2) rfl (by rw [e_y15]; rfl) (by decide) rfl (fun ls hl => ?_)
          refine lv_goto (tgt := 24) C.x C.b dX9_picked_61 (by decide) ?_
          exact hq24 x3 y15 h _ _ _ hP hS (lv_sub hl [2, 1, 0] rfl)

set_option maxRecDepth 100000 in
set_option maxHeartbeats 4000000 in
theorem b_X9_picked_24 {p : Program} {l : Launch} {e : Env} {s : State} {m : MethodId} {args : Array Value} {below : List Frame} {meth : Method} {c : Code} {G : Gp} {O : Int32} (C : Cx p s m args meth c cX9_picked 4 RX9 (some .int) G) {x1 : Int32} {μ : Mem} : ∀ (n : Nat) (x2 : Int32) (x3 : Int32), f_X9_picked_24 x1 μ n x2 x3 = some O → ∀ (H : Heap) (locs : List Loc) (ls : Array Slot), Wm G μ H → va_S (wA G) s.heap H locs → lv_has ls 4 [(0, .ref (G.2.2 122)), (2, .int x2), (3, .int x3)] → W p l e (rmm 3 70) s m args below meth c H locs 0 0 (QI below args s G (O, μ)) (F0 m 24 ls []) := by
  intro n
  induction n with
  | zero => intro x2 x3 h; cases h
  | succ n ih => intro x2 x3 h; exact w_X9_picked_24 C (q24 := f_X9_picked_24 x1 μ n) ih x2 x3 h

def f_X9_picked (x1 : Int32) (μ : Mem) : Option Int32 := if x1 = 0 then (bnv (f_X9_corner μ) (fun r6 => some r6)) else (if x1 = 1 then (bnv (f_X9_cheapestCell ((-1)) μ) (fun r4 => some r4)) else (f_X9_picked_24 x1 μ FU ((-1)) 0))
set_option maxRecDepth 100000 in
set_option maxHeartbeats 4000000 in
theorem b_X9_picked {p : Program} {l : Launch} {e : Env} {s : State} {m : MethodId} {args : Array Value} {below : List Frame} {meth : Method} {c : Code} {G : Gp} {O : Int32} (C : Cx p s m args meth c cX9_picked 4 RX9 (some .int) G) {x1 : Int32} {μ : Mem} (h : f_X9_picked x1 μ = some O) : ∀ (H : Heap) (locs : List Loc) (ls : Array Slot), Wm G μ H → va_S (wA G) s.heap H locs → lv_has ls 4 [(0, .ref (G.2.2 122)), (1, .int x1)] → W p l e (rmm 3 70) s m args below meth c H locs 0 0 (QI below args s G (O, μ)) (F0 m 0 ls []) := by
  unfold f_X9_picked at h
  intro H locs ls hP hS hl
  refine lv_iload_n C.x C.b dX9_picked_0 rfl (lv_at hl 1 rfl) ?_
  refine lv_if_ne (tgt := 9) C.x C.b dX9_picked_1 (by decide) (fun c1 => ?_) (fun c1 => ?_)
  · have h := (if_neg c1).symm.trans h
    refine lv_iload_n C.x C.b dX9_picked_9 rfl (lv_at hl 1 rfl) ?_
    refine lv_iconst (v := 1) C.x C.b dX9_picked_10 (by decide) ?_
    refine lv_icmp_ne (tgt := 20) C.x C.b dX9_picked_11 (by decide) (fun c2 => ?_) (fun c2 => ?_)
    · have h := (if_neg c2).symm.trans h
      refine lv_iconst (v := (-1)) C.x C.b dX9_picked_20 (by decide) ?_
      refine lv_istore_n (lv' := [(2, .int ((-1))), (0, .ref (G.2.2 122)), (1, .int x1)]) C.x C.b dX9_picked_21 rfl hl (by decide) rfl (fun ls hl => ?_)
      refine lv_iconst (v := 0) C.x C.b dX9_picked_22 (by decide) ?_
      refine lv_istore_n (lv' := [(3, .int 0), (2, .int ((-1))), (0, .ref (G.2.2 122)), (1, .int x1)]) C.x C.b dX9_picked_23 rfl hl (by decide) rfl (fun ls hl => ?_)
      exact b_X9_picked_24 C FU ((-1)) 0 h _ _ _ hP hS (lv_sub hl [2, 1, 0] rfl)
    · have h := (if_pos c2).symm.trans h
      refine lv_aload_n C.x C.b dX9_picked_14 rfl (lv_at hl 0 rfl) ?_
      refine lv_iconst (v := (-1)) C.x C.b dX9_picked_15 (by decide) ?_
      obtain ⟨r4, e3, h⟩ := bnv_some h
      refine k_vi (k := 122) (as := [.int ((-1))]) (rest := []) (c_X9_cheapestCell C.i e3) M_X9_cheapestCell u5_183 C hP hS sh_122 rfl rfl (by decide) hl.1 rfl (Nat.le_of_ble_eq_true rfl) dX9_picked_16 (fun H locs hP hS => ?_)
      exact r_i (pr_some h) C hP hS dX9_picked_19
  · have h := (if_pos c1).symm.trans h
    refine lv_aload_n C.x C.b dX9_picked_4 rfl (lv_at hl 0 rfl) ?_
    obtain ⟨r6, e5, h⟩ := bnv_some h
    refine k_vi (k := 122) (as := []) (rest := []) (c_X9_corner C.i e5) M_X9_corner u5_175 C hP hS sh_122 rfl rfl (by decide) hl.1 rfl (Nat.le_of_ble_eq_true rfl) dX9_picked_5 (fun H locs hP hS => ?_)
    exact r_i (pr_some h) C hP hS dX9_picked_8

set_option maxRecDepth 100000 in
set_option maxHeartbeats 4000000 in
theorem c_X9_picked {l : Launch} {G : Gp} (hI : Wi G) {x1 : Int32} {μ : Mem} {r : Int32} (h : f_X9_picked x1 μ = some r) : CI l yX9_picked cX9_picked 4 (some .int) 3 70 G [.ref (G.2.2 122), .int x1] μ r μ :=
  e_all (lv := [(0, .ref (G.2.2 122)), (1, .int x1)]) hI (by decide) (Nat.le_of_ble_eq_true rfl) rfl (fun p e s m args below meth c ls C hP hS hl => b_X9_picked C h _ _ _ hP hS hl)


def g_X9_starts_4 (x1 : Int32)  (q4 : Mem → Option Mem)  (μ : Mem) : Option Mem := bnv (f_X9_openOnes 6 μ) (fun r2 => if r2 ≤ 0 then (some μ) else (bnv (f_X9_picked x1 μ) (fun r5 => lt (r5 / 6) (fun y6 => lt (6 + (rm32 r5 6)) (fun y7 => grd (inb y6 12) (grd (inb y7 12) (lt (mn (μ.1 140 y6.toNatClampNeg) (μ.1 140 y7.toNatClampNeg)) (fun y10 => grd (inb r5 36) (lt (st μ 128 r5.toNatClampNeg y10) (fun μ12 => grd (inb r5 36) (lt (st μ12 129 r5.toNatClampNeg 1) (fun μ14 => grd (inb y6 12) (grd (inb y6 12) (lt (st μ14 140 y6.toNatClampNeg ((μ14.1 140 y6.toNatClampNeg) - y10)) (fun μ17 => grd (inb y7 12) (grd (inb y7 12) (lt (st μ17 140 y7.toNatClampNeg ((μ17.1 140 y7.toNatClampNeg) - y10)) (fun μ20 => grd (inb y6 12) (if (μ20.1 140 y6.toNatClampNeg) = 0 then (bnv (f_X9_openOnes 0 μ20) (fun r26 => if r26 ≤ 1 then (grd (inb y7 12) (lt (st μ20 141 y7.toNatClampNeg 0) (fun μ29 => q4 μ29))) else (grd (inb y6 12) (lt (st μ20 141 y6.toNatClampNeg 0) (fun μ31 => q4 μ31))))) else (grd (inb y7 12) (lt (st μ20 141 y7.toNatClampNeg 0) (fun μ24 => q4 μ24))))))))))))))))))))))
def f_X9_starts_4 (x1 : Int32)  : Nat → Mem → Option Mem
  | 0, _ => none
  | n + 1, μ => g_X9_starts_4 x1 (f_X9_starts_4 x1 n) μ
set_option maxRecDepth 100000 in
set_option maxHeartbeats 4000000 in
theorem w_X9_starts_4 {p : Program} {l : Launch} {e : Env} {s : State} {m : MethodId} {args : Array Value} {below : List Frame} {meth : Method} {c : Code} {G : Gp} {O : Mem} (C : Cx p s m args meth c cX9_starts 6 RX9 none G) {x1 : Int32} {q4 : Mem → Option Mem} (hq4 : ∀ (μ : Mem), q4 μ = some O → ∀ (H : Heap) (locs : List Loc) (ls : Array Slot), Wm G μ H → va_S (wA G) s.heap H locs → lv_has ls 6 [(0, .ref (G.2.2 122)), (1, .int x1)] → W p l e (rmm 4 93) s m args below meth c H locs 0 0 (QV below args s G O) (F0 m 4 ls [])) : ∀ (μ : Mem), g_X9_starts_4 x1 q4 μ = some O → ∀ (H : Heap) (locs : List Loc) (ls : Array Slot), Wm G μ H → va_S (wA G) s.heap H locs → lv_has ls 6 [(0, .ref (G.2.2 122)), (1, .int x1)] → W p l e (rmm 4 93) s m args below meth c H locs 0 0 (QV below args s G O) (F0 m 4 ls []) := by
  intro μ h H locs ls hP hS hl
  unfold g_X9_starts_4 at h
  refine lv_aload_n C.x C.b dX9_starts_4 rfl (lv_at hl 0 rfl) ?_
  refine lv_bipush (v := 6) C.x C.b dX9_starts_5 (by decide) ?_
  obtain ⟨r2, e1, h⟩ := bnv_some h
  refine k_vi (k := 122) (as := [.int 6]) (rest := []) (c_X9_openOnes C.i e1) M_X9_openOnes u5_167 C hP hS sh_122 rfl rfl (by decide) hl.1 rfl (Nat.le_of_ble_eq_true rfl) dX9_starts_7 (fun H locs hP hS => ?_)
  refine lv_if_le (tgt := 122) C.x C.b dX9_starts_10 (by decide) (fun c3 => ?_) (fun c3 => ?_)
  · have h := (if_pos c3).symm.trans h
    exact r_v h C hP hS dX9_starts_122
  · have h := (if_neg c3).symm.trans h
    refine lv_aload_n C.x C.b dX9_starts_13 rfl (lv_at hl 0 rfl) ?_
    refine lv_iload_n C.x C.b dX9_starts_14 rfl (lv_at hl 1 rfl) ?_
    obtain ⟨r5, e4, h⟩ := bnv_some h
    refine k_vi (k := 122) (as := [.int x1]) (rest := []) (c_X9_picked C.i e4) M_X9_picked u5_171 C hP hS sh_122 rfl rfl (by decide) hl.1 rfl (Nat.le_of_ble_eq_true rfl) dX9_starts_15 (fun H locs hP hS => ?_)
    refine lv_istore_n (lv' := [(2, .int r5), (0, .ref (G.2.2 122)), (1, .int x1)]) C.x C.b dX9_starts_18 rfl hl (by decide) rfl (fun ls hl => ?_)
    refine lv_iload_n C.x C.b dX9_starts_19 rfl (lv_at hl 0 rfl) ?_
    refine lv_bipush (v := 6) C.x C.b dX9_starts_20 (by decide) ?_
    refine lv_idiv C.x C.b dX9_starts_22 (by decide) ?_
    refine lv_topi (fun y6 e_y6 => ?_)
    have h := lt_at h e_y6
    refine lv_istore_n (lv' := [(3, .int y6), (2, .int r5), (0, .ref (G.2.2 122)), (1, .int x1)]) C.x C.b dX9_starts_23 rfl hl (by decide) rfl (fun ls hl => ?_)
    refine lv_bipush (v := 6) C.x C.b dX9_starts_24 (by decide) ?_
    refine lv_iload_n C.x C.b dX9_starts_26 rfl (lv_at hl 1 rfl) ?_
    refine lv_bipush (v := 6) C.x C.b dX9_starts_27 (by decide) ?_
    refine lv_irem C.x C.b dX9_starts_29 (by decide) ?_
    refine lv_iadd C.x C.b dX9_starts_30 ?_
    refine lv_topi (fun y7 e_y7 => ?_)
    have h := lt_at h e_y7
    refine lv_istore (lv' := [(4, .int y7), (3, .int y6), (2, .int r5), (0, .ref (G.2.2 122)), (1, .int x1)]) C.x C.b dX9_starts_31 hl (by decide) rfl (fun ls hl => ?_)
    refine lv_aload_n C.x C.b dX9_starts_33 rfl (lv_at hl 3 rfl) ?_
    refine g_ref (k' := 140) F_9_35 u4_164 C hP sh_122 rfl dX9_starts_34 ?_
    refine lv_iload_n C.x C.b dX9_starts_37 rfl (lv_at hl 1 rfl) ?_
    obtain ⟨g8, h⟩ := grd_some h
    refine a_i C hP sh_140 g8 dX9_starts_38 ?_
    refine lv_aload_n C.x C.b dX9_starts_39 rfl (lv_at hl 3 rfl) ?_
    refine g_ref (k' := 140) F_9_35 u4_164 C hP sh_122 rfl dX9_starts_40 ?_
    refine lv_iload C.x C.b dX9_starts_43 (lv_at hl 0 rfl) ?_
    obtain ⟨g9, h⟩ := grd_some h
    refine a_i C hP sh_140 g9 dX9_starts_45 ?_
    refine k_min u5_191 C hl.1 ⟨by decide, Nat.le_of_ble_eq_true rfl⟩ dX9_starts_46 ?_
    refine lv_topi (fun y10 e_y10 => ?_)
    have h := lt_at h e_y10
    refine lv_istore (lv' := [(5, .int y10), (4, .int y7), (3, .int y6), (2, .int r5), (0, .ref (G.2.2 122)), (1, .int x1)]) C.x C.b dX9_starts_49 hl (by decide) rfl (fun ls hl => ?_)
    refine lv_aload_n C.x C.b dX9_starts_51 rfl (lv_at hl 4 rfl) ?_
    refine g_ref (k' := 128) F_9_11 u4_140 C hP sh_122 rfl dX9_starts_52 ?_
    refine lv_iload_n C.x C.b dX9_starts_55 rfl (lv_at hl 3 rfl) ?_
    refine lv_iload C.x C.b dX9_starts_56 (lv_at hl 0 rfl) ?_
    obtain ⟨g11, h⟩ := grd_some h
    refine as_i C hP hS sh_128 g11 dX9_starts_58 (fun H locs hP hS => ?_)
    obtain ⟨μ12, m_μ12, h⟩ := lt_ex h
    have hP : Wm G μ12 H := by rw [m_μ12]; exact hP
    refine lv_aload_n C.x C.b dX9_starts_59 rfl (lv_at hl 4 rfl) ?_
    refine g_ref (k' := 129) F_9_12 u4_141 C hP sh_122 rfl dX9_starts_60 ?_
    refine lv_iload_n C.x C.b dX9_starts_63 rfl (lv_at hl 3 rfl) ?_
    refine lv_iconst (v := 1) C.x C.b dX9_starts_64 (by decide) ?_
    obtain ⟨g13, h⟩ := grd_some h
    refine as_i C hP hS sh_129 g13 dX9_starts_65 (fun H locs hP hS => ?_)
    obtain ⟨μ14, m_μ14, h⟩ := lt_ex h
    have hP : Wm G μ14 H := by rw [m_μ14]; exact hP
    refine lv_aload_n C.x C.b dX9_starts_66 rfl (lv_at hl 4 rfl) ?_
    refine g_ref (k' := 140) F_9_35 u4_164 C hP sh_122 rfl dX9_starts_67 ?_
    refine lv_iload_n C.x C.b dX9_starts_70 rfl (lv_at hl 2 rfl) ?_
    refine lv_dup2_11 C.x C.b dX9_starts_71 rfl rfl ?_
    obtain ⟨g15, h⟩ := grd_some h
    refine a_i C hP sh_140 g15 dX9_starts_72 ?_
    refine lv_iload C.x C.b dX9_starts_73 (lv_at hl 0 rfl) ?_
    refine lv_isub C.x C.b dX9_starts_75 ?_
    obtain ⟨g16, h⟩ := grd_some h
    refine as_i C hP hS sh_140 g16 dX9_starts_76 (fun H locs hP hS => ?_)
    obtain ⟨μ17, m_μ17, h⟩ := lt_ex h
    have hP : Wm G μ17 H := by rw [m_μ17]; exact hP
    refine lv_aload_n C.x C.b dX9_starts_77 rfl (lv_at hl 4 rfl) ?_
    refine g_ref (k' := 140) F_9_35 u4_164 C hP sh_122 rfl dX9_starts_78 ?_
    refine lv_iload C.x C.b dX9_starts_81 (lv_at hl 1 rfl) ?_
    refine lv_dup2_11 C.x C.b dX9_starts_83 rfl rfl ?_
    obtain ⟨g18, h⟩ := grd_some h
    refine a_i C hP sh_140 g18 dX9_starts_84 ?_
    refine lv_iload C.x C.b dX9_starts_85 (lv_at hl 0 rfl) ?_
    refine lv_isub C.x C.b dX9_starts_87 ?_
    obtain ⟨g19, h⟩ := grd_some h
    refine as_i C hP hS sh_140 g19 dX9_starts_88 (fun H locs hP hS => ?_)
    obtain ⟨μ20, m_μ20, h⟩ := lt_ex h
    have hP : Wm G μ20 H := by rw [m_μ20]; exact hP
    refine lv_aload_n C.x C.b dX9_starts_89 rfl (lv_at hl 4 rfl) ?_
    refine g_ref (k' := 141) F_9_36 u4_165 C hP sh_122 rfl dX9_starts_90 ?_
    refine lv_aload_n C.x C.b dX9_starts_93 rfl (lv_at hl 4 rfl) ?_
    refine g_ref (k' := 140) F_9_35 u4_164 C hP sh_122 rfl dX9_starts_94 ?_
    refine lv_iload_n C.x C.b dX9_starts_97 rfl (lv_at hl 2 rfl) ?_
    obtain ⟨g21, h⟩ := grd_some h
    refine a_i C hP sh_140 g21 dX9_starts_98 ?_
    refine lv_if_ne (tgt := 115) C.x C.b dX9_starts_99 (by decide) (fun c22 => ?_) (fun c22 => ?_)
    · have h := (if_neg c22).symm.trans h
      refine lv_iload C.x C.b dX9_starts_115 (lv_at hl 1 rfl) ?_
      refine lv_iconst (v := 0) C.x C.b dX9_starts_117 (by decide) ?_
      obtain ⟨g23, h⟩ := grd_some h
      refine as_z C hP hS sh_141 g23 (by decide) dX9_starts_118 (fun H locs hP hS => ?_)
      obtain ⟨μ24, m_μ24, h⟩ := lt_ex h
      have hP : Wm G μ24 H := by rw [m_μ24]; exact hP
      refine lv_goto (tgt := 4) C.x C.b dX9_starts_119 (by decide) ?_
      exact hq4 μ24 h _ _ _ hP hS (lv_sub hl [4, 5] rfl)
    · have h := (if_pos c22).symm.trans h
      refine lv_aload_n C.x C.b dX9_starts_102 rfl (lv_at hl 4 rfl) ?_
      refine lv_iconst (v := 0) C.x C.b dX9_starts_103 (by decide) ?_
      obtain ⟨r26, e25, h⟩ := bnv_some h
      refine k_vi (k := 122) (as := [.int 0]) (rest := [.ref (G.2.2 141)]) (c_X9_openOnes C.i e25) M_X9_openOnes u5_167 C hP hS sh_122 rfl rfl (by decide) hl.1 rfl (Nat.le_of_ble_eq_true rfl) dX9_starts_104 (fun H locs hP hS => ?_)
      refine lv_iconst (v := 1) C.x C.b dX9_starts_107 (by decide) ?_
      refine lv_icmp_le (tgt := 115) C.x C.b dX9_starts_108 (by decide) (fun c27 => ?_) (fun c27 => ?_)
      · have h := (if_pos c27).symm.trans h
        refine lv_iload C.x C.b dX9_starts_115 (lv_at hl 1 rfl) ?_
        refine lv_iconst (v := 0) C.x C.b dX9_starts_117 (by decide) ?_
        obtain ⟨g28, h⟩ := grd_some h
        refine as_z C hP hS sh_141 g28 (by decide) dX9_starts_118 (fun H locs hP hS => ?_)
        obtain ⟨μ29, m_μ29, h⟩ := lt_ex h
        have hP : Wm G μ29 H := by rw [m_μ29]; exact hP
        refine lv_goto (tgt := 4) C.x C.b dX9_starts_119 (by decide) ?_
        exact hq4 μ29 h _ _ _ hP hS (lv_sub hl [4, 5] rfl)
      · have h := (if_neg c27).symm.trans h
        refine lv_iload_n C.x C.b dX9_starts_111 rfl (lv_at hl 2 rfl) ?_
        refine lv_goto (tgt := 117) C.x C.b dX9_starts_112 (by decide) ?_
        refine lv_iconst (v := 0) C.x C.b dX9_starts_117 (by decide) ?_
        obtain ⟨g30, h⟩ := grd_some h
        refine as_z C hP hS sh_141 g30 (by decide) dX9_starts_118 (fun H locs hP hS => ?_)
        obtain ⟨μ31, m_μ31, h⟩ := lt_ex h
        have hP : Wm G μ31 H := by rw [m_μ31]; exact hP
        refine lv_goto (tgt := 4) C.x C.b dX9_starts_119 (by decide) ?_
        exact hq4 μ31 h _ _ _ hP hS (lv_sub hl [4, 5] rfl)

set_option maxRecDepth 100000 in
set_option maxHeartbeats 4000000 in
theorem b_X9_starts_4 {p : Program} {l : Launch} {e : Env} {s : State} {m : MethodId} {args : Array Value} {below : List Frame} {meth : Method} {c : Code} {G : Gp} {O : Mem} (C : Cx p s m args meth c cX9_starts 6 RX9 none G) {x1 : Int32} : ∀ (n : Nat) (μ : Mem), f_X9_starts_4 x1 n μ = some O → ∀ (H : Heap) (locs : List Loc) (ls : Array Slot), Wm G μ H → va_S (wA G) s.heap H locs → lv_has ls 6 [(0, .ref (G.2.2 122)), (1, .int x1)] → W p l e (rmm 4 93) s m args below meth c H locs 0 0 (QV below args s G O) (F0 m 4 ls []) := by
  intro n
  induction n with
  | zero => intro μ h; cases h
  | succ n ih => intro μ h; exact w_X9_starts_4 C (q4 := f_X9_starts_4 x1 n) ih μ h

def f_X9_starts (x1 : Int32) (μ : Mem) : Option Mem := bnv (f_X9_opens μ) (fun μ2 => f_X9_starts_4 x1 FU μ2)
set_option maxRecDepth 100000 in
set_option maxHeartbeats 4000000 in
theorem b_X9_starts {p : Program} {l : Launch} {e : Env} {s : State} {m : MethodId} {args : Array Value} {below : List Frame} {meth : Method} {c : Code} {G : Gp} {O : Mem} (C : Cx p s m args meth c cX9_starts 6 RX9 none G) {x1 : Int32} {μ : Mem} (h : f_X9_starts x1 μ = some O) : ∀ (H : Heap) (locs : List Loc) (ls : Array Slot), Wm G μ H → va_S (wA G) s.heap H locs → lv_has ls 6 [(0, .ref (G.2.2 122)), (1, .int x1)] → W p l e (rmm 4 93) s m args below meth c H locs 0 0 (QV below args s G O) (F0 m 0 ls []) := by
  unfold f_X9_starts at h
  intro H locs ls hP hS hl
  refine lv_aload_n C.x C.b dX9_starts_0 rfl (lv_at hl 0 rfl) ?_
  obtain ⟨μ2, e1, h⟩ := bnv_some h
  refine k_vv (k := 122) (as := []) (rest := []) (c_X9_opens C.i e1) M_X9_opens u5_159 C hP hS sh_122 rfl rfl (by decide) hl.1 rfl (Nat.le_of_ble_eq_true rfl) dX9_starts_1 (fun H locs hP hS => ?_)
  exact b_X9_starts_4 C FU μ2 h _ _ _ hP hS (lv_sub hl [0, 1] rfl)

set_option maxRecDepth 100000 in
set_option maxHeartbeats 4000000 in
theorem c_X9_starts {l : Launch} {G : Gp} (hI : Wi G) {x1 : Int32} {μ : Mem} {μ' : Mem} (h : f_X9_starts x1 μ = some μ') : CV l yX9_starts cX9_starts 6 none 4 93 G [.ref (G.2.2 122), .int x1] μ μ' :=
  e_all (lv := [(0, .ref (G.2.2 122)), (1, .int x1)]) hI (by decide) (Nat.le_of_ble_eq_true rfl) rfl (fun p e s m args below meth c ls C hP hS hl => b_X9_starts C h _ _ _ hP hS hl)


def g_X9_total_4   (μ : Mem) (q4 : Int32 → Int32 → Option Int32) (x1 : Int32) (x2 : Int32) : Option Int32 := if 36 ≤ x2 then (some x1) else (grd (inb x2 36) (grd (inb x2 36) (lt (x1 + ((μ.1 128 x2.toNatClampNeg) * (μ.1 127 x2.toNatClampNeg))) (fun y4 => lt (x2 + 1) (fun y5 => q4 y4 y5)))))
def f_X9_total_4   (μ : Mem) : Nat → Int32 → Int32 → Option Int32
  | 0, _, _ => none
  | n + 1, x1, x2 => g_X9_total_4  μ (f_X9_total_4  μ n) x1 x2
set_option maxRecDepth 100000 in
set_option maxHeartbeats 4000000 in
theorem w_X9_total_4 {p : Program} {l : Launch} {e : Env} {s : State} {m : MethodId} {args : Array Value} {below : List Frame} {meth : Method} {c : Code} {G : Gp} {O : Int32} (C : Cx p s m args meth c cX9_total 3 RX9 (some .int) G) {μ : Mem} {q4 : Int32 → Int32 → Option Int32} (hq4 : ∀ (x1 : Int32) (x2 : Int32), q4 x1 x2 = some O → ∀ (H : Heap) (locs : List Loc) (ls : Array Slot), Wm G μ H → va_S (wA G) s.heap H locs → lv_has ls 3 [(0, .ref (G.2.2 122)), (1, .int x1), (2, .int x2)] → W p l e (rmm 0 0) s m args below meth c H locs 0 0 (QI below args s G (O, μ)) (F0 m 4 ls [])) : ∀ (x1 : Int32) (x2 : Int32), g_X9_total_4 μ q4 x1 x2 = some O → ∀ (H : Heap) (locs : List Loc) (ls : Array Slot), Wm G μ H → va_S (wA G) s.heap H locs → lv_has ls 3 [(0, .ref (G.2.2 122)), (1, .int x1), (2, .int x2)] → W p l e (rmm 0 0) s m args below meth c H locs 0 0 (QI below args s G (O, μ)) (F0 m 4 ls []) := by
  intro x1 x2 h H locs ls hP hS hl
  unfold g_X9_total_4 at h
  refine lv_iload_n C.x C.b dX9_total_4 rfl (lv_at hl 2 rfl) ?_
  refine lv_bipush (v := 36) C.x C.b dX9_total_5 (by decide) ?_
  refine lv_icmp_ge (tgt := 32) C.x C.b dX9_total_7 (by decide) (fun c1 => ?_) (fun c1 => ?_)
  · have h := (if_pos c1).symm.trans h
    refine lv_iload_n C.x C.b dX9_total_32 rfl (lv_at hl 1 rfl) ?_
    exact r_i (pr_some h) C hP hS dX9_total_33
  · have h := (if_neg c1).symm.trans h
    refine lv_iload_n C.x C.b dX9_total_10 rfl (lv_at hl 1 rfl) ?_
    refine lv_aload_n C.x C.b dX9_total_11 rfl (lv_at hl 0 rfl) ?_
    refine g_ref (k' := 128) F_9_11 u4_140 C hP sh_122 rfl dX9_total_12 ?_
    refine lv_iload_n C.x C.b dX9_total_15 rfl (lv_at hl 2 rfl) ?_
    obtain ⟨g2, h⟩ := grd_some h
    refine a_i C hP sh_128 g2 dX9_total_16 ?_
    refine lv_aload_n C.x C.b dX9_total_17 rfl (lv_at hl 0 rfl) ?_
    refine g_ref (k' := 127) F_9_10 u4_139 C hP sh_122 rfl dX9_total_18 ?_
    refine lv_iload_n C.x C.b dX9_total_21 rfl (lv_at hl 2 rfl) ?_
    obtain ⟨g3, h⟩ := grd_some h
    refine a_i C hP sh_127 g3 dX9_total_22 ?_
    refine lv_imul C.x C.b dX9_total_23 ?_
    refine lv_iadd C.x C.b dX9_total_24 ?_
    refine lv_topi (fun y4 e_y4 => ?_)
    have h := lt_at h e_y4
    refine lv_istore_n (lv' := [(1, .int y4), (0, .ref (G.2.2 122)), (2, .int x2)]) C.x C.b dX9_total_25 rfl hl (by decide) rfl (fun ls hl => ?_)
    obtain ⟨y5, e_y5, h⟩ := lt_ex h
    refine lv_iinc (v := y5) (lv' := [(2, .int y5), (1, .int y4), (0, .ref (G.2.2 122))]) C.x C.b dX9_total_26 hl (k := 2) rfl (by rw [e_y5]; rfl) (by decide) rfl (fun ls hl => ?_)
    refine lv_goto (tgt := 4) C.x C.b dX9_total_29 (by decide) ?_
    exact hq4 y4 y5 h _ _ _ hP hS (lv_sub hl [2, 1, 0] rfl)

set_option maxRecDepth 100000 in
set_option maxHeartbeats 4000000 in
theorem b_X9_total_4 {p : Program} {l : Launch} {e : Env} {s : State} {m : MethodId} {args : Array Value} {below : List Frame} {meth : Method} {c : Code} {G : Gp} {O : Int32} (C : Cx p s m args meth c cX9_total 3 RX9 (some .int) G) {μ : Mem} : ∀ (n : Nat) (x1 : Int32) (x2 : Int32), f_X9_total_4 μ n x1 x2 = some O → ∀ (H : Heap) (locs : List Loc) (ls : Array Slot), Wm G μ H → va_S (wA G) s.heap H locs → lv_has ls 3 [(0, .ref (G.2.2 122)), (1, .int x1), (2, .int x2)] → W p l e (rmm 0 0) s m args below meth c H locs 0 0 (QI below args s G (O, μ)) (F0 m 4 ls []) := by
  intro n
  induction n with
  | zero => intro x1 x2 h; cases h
  | succ n ih => intro x1 x2 h; exact w_X9_total_4 C (q4 := f_X9_total_4 μ n) ih x1 x2 h

def f_X9_total  (μ : Mem) : Option Int32 := f_X9_total_4 μ FU 0 0
set_option maxRecDepth 100000 in
set_option maxHeartbeats 4000000 in
theorem b_X9_total {p : Program} {l : Launch} {e : Env} {s : State} {m : MethodId} {args : Array Value} {below : List Frame} {meth : Method} {c : Code} {G : Gp} {O : Int32} (C : Cx p s m args meth c cX9_total 3 RX9 (some .int) G) {μ : Mem} (h : f_X9_total μ = some O) : ∀ (H : Heap) (locs : List Loc) (ls : Array Slot), Wm G μ H → va_S (wA G) s.heap H locs → lv_has ls 3 [(0, .ref (G.2.2 122))] → W p l e (rmm 0 0) s m args below meth c H locs 0 0 (QI below args s G (O, μ)) (F0 m 0 ls []) := by
  unfold f_X9_total at h
  intro H locs ls hP hS hl
  refine lv_iconst (v := 0) C.x C.b dX9_total_0 (by decide) ?_
  refine lv_istore_n (lv' := [(1, .int 0), (0, .ref (G.2.2 122))]) C.x C.b dX9_total_1 rfl hl (by decide) rfl (fun ls hl => ?_)
  refine lv_iconst (v := 0) C.x C.b dX9_total_2 (by decide) ?_
  refine lv_istore_n (lv' := [(2, .int 0), (1, .int 0), (0, .ref (G.2.2 122))]) C.x C.b dX9_total_3 rfl hl (by decide) rfl (fun ls hl => ?_)
  exact b_X9_total_4 C FU 0 0 h _ _ _ hP hS (lv_sub hl [2, 1, 0] rfl)

set_option maxRecDepth 100000 in
set_option maxHeartbeats 4000000 in
theorem c_X9_total {l : Launch} {G : Gp} (hI : Wi G) {μ : Mem} {r : Int32} (h : f_X9_total μ = some r) : CI l yX9_total cX9_total 3 (some .int) 0 0 G [.ref (G.2.2 122)] μ r μ :=
  e_all (lv := [(0, .ref (G.2.2 122))]) hI (by decide) (Nat.le_of_ble_eq_true rfl) rfl (fun p e s m args below meth c ls C hP hS hl => b_X9_total C h _ _ _ hP hS hl)


def f_X9_start (x1 : Int32) (μ : Mem) : Option (Int32 × Mem) := bnv (f_X9_in (Int32.toInt64 x1) 0 2 μ) (fun r2 => if r2 = 0 then (some ((-2), μ)) else (if (μ.1 122 0) = 0 then (some ((-3), μ)) else (if (μ.1 122 1) = 0 then (some ((-3), μ)) else (bnv (f_X9_starts x1 μ) (fun μ7 => lt (st μ7 122 6 1) (fun μ8 => bnv (f_X9_total μ8) (fun r10 => some (r10, μ8))))))))
set_option maxRecDepth 100000 in
set_option maxHeartbeats 4000000 in
theorem b_X9_start {p : Program} {l : Launch} {e : Env} {s : State} {m : MethodId} {args : Array Value} {below : List Frame} {meth : Method} {c : Code} {G : Gp} {O : (Int32 × Mem)} (C : Cx p s m args meth c cX9_start 2 RX9 (some .int) G) {x1 : Int32} {μ : Mem} (h : f_X9_start x1 μ = some O) : ∀ (H : Heap) (locs : List Loc) (ls : Array Slot), Wm G μ H → va_S (wA G) s.heap H locs → lv_has ls 2 [(0, .ref (G.2.2 122)), (1, .int x1)] → W p l e (rmm 5 118) s m args below meth c H locs 0 0 (QI below args s G O) (F0 m 0 ls []) := by
  unfold f_X9_start at h
  intro H locs ls hP hS hl
  refine lv_iload_n C.x C.b dX9_start_0 rfl (lv_at hl 1 rfl) ?_
  refine lv_i2l (v := Int32.toInt64 x1) C.x C.b dX9_start_1 rfl ?_
  refine lv_lconst (v := 0) C.x C.b dX9_start_2 (by decide) ?_
  refine lv_ldc2 (own := RX9) (v := 2) C.x C.b C.o (C.t _ u5_110) dX9_start_3 ?_
  obtain ⟨r2, e1, h⟩ := bnv_some h
  refine k_si (as := [.long (Int32.toInt64 x1), .long 0, .long 2]) (rest := []) (c_X9_in C.i e1) M_X9_in u5_72 C hP hS rfl (by decide) hl.1 rfl (Nat.le_of_ble_eq_true rfl) dX9_start_6 (fun H locs hP hS => ?_)
  refine lv_if_ne (tgt := 15) C.x C.b dX9_start_9 (by decide) (fun c3 => ?_) (fun c3 => ?_)
  · have h := (if_neg c3).symm.trans h
    refine lv_aload_n C.x C.b dX9_start_15 rfl (lv_at hl 0 rfl) ?_
    refine g_int F_9_0 u4_129 C hP sh_122 dX9_start_16 ?_
    refine lv_if_eq (tgt := 29) C.x C.b dX9_start_19 (by decide) (fun c4 => ?_) (fun c4 => ?_)
    · have h := (if_pos c4).symm.trans h
      refine lv_bipush (v := (-3)) C.x C.b dX9_start_29 (by decide) ?_
      exact r_i h C hP hS dX9_start_31
    · have h := (if_neg c4).symm.trans h
      refine lv_aload_n C.x C.b dX9_start_22 rfl (lv_at hl 0 rfl) ?_
      refine g_int F_9_1 u4_130 C hP sh_122 dX9_start_23 ?_
      refine lv_if_ne (tgt := 32) C.x C.b dX9_start_26 (by decide) (fun c5 => ?_) (fun c5 => ?_)
      · have h := (if_neg c5).symm.trans h
        refine lv_aload_n C.x C.b dX9_start_32 rfl (lv_at hl 0 rfl) ?_
        refine lv_iload_n C.x C.b dX9_start_33 rfl (lv_at hl 1 rfl) ?_
        obtain ⟨μ7, e6, h⟩ := bnv_some h
        refine k_vv (k := 122) (as := [.int x1]) (rest := []) (c_X9_starts C.i e6) M_X9_starts u5_155 C hP hS sh_122 rfl rfl (by decide) hl.1 rfl (Nat.le_of_ble_eq_true rfl) dX9_start_34 (fun H locs hP hS => ?_)
        refine lv_aload_n C.x C.b dX9_start_37 rfl (lv_at hl 0 rfl) ?_
        refine lv_iconst (v := 1) C.x C.b dX9_start_38 (by decide) ?_
        refine p_int F_9_6 P_9_6 u4_135 C hP hS sh_122 dX9_start_39 (fun H locs hP hS => ?_)
        obtain ⟨μ8, m_μ8, h⟩ := lt_ex h
        have hP : Wm G μ8 H := by rw [m_μ8]; exact hP
        refine lv_aload_n C.x C.b dX9_start_42 rfl (lv_at hl 0 rfl) ?_
        obtain ⟨r10, e9, h⟩ := bnv_some h
        refine k_vi (k := 122) (as := []) (rest := []) (c_X9_total C.i e9) M_X9_total u5_192 C hP hS sh_122 rfl rfl (by decide) hl.1 rfl (Nat.le_of_ble_eq_true rfl) dX9_start_43 (fun H locs hP hS => ?_)
        exact r_i h C hP hS dX9_start_46
      · have h := (if_pos c5).symm.trans h
        refine lv_bipush (v := (-3)) C.x C.b dX9_start_29 (by decide) ?_
        exact r_i h C hP hS dX9_start_31
  · have h := (if_pos c3).symm.trans h
    refine lv_bipush (v := (-2)) C.x C.b dX9_start_12 (by decide) ?_
    exact r_i h C hP hS dX9_start_14

set_option maxRecDepth 100000 in
set_option maxHeartbeats 4000000 in
theorem c_X9_start {l : Launch} {G : Gp} (hI : Wi G) {x1 : Int32} {μ : Mem} {r : Int32} {μ' : Mem} (h : f_X9_start x1 μ = some (r, μ')) : CI l yX9_start cX9_start 2 (some .int) 5 118 G [.ref (G.2.2 122), .int x1] μ r μ' :=
  e_all (lv := [(0, .ref (G.2.2 122)), (1, .int x1)]) hI (by decide) (Nat.le_of_ble_eq_true rfl) rfl (fun p e s m args below meth c ls C hP hS hl => b_X9_start C h _ _ _ hP hS hl)


def f_X9_values_22  (q2 : Int32 → Mem → Option Mem) (x1 : Int32) (z1 : Int32) (z2 : Int32) (μ : Mem) : Option Mem := grd (inb z1 12) (grd (isB z2) (lt (st μ 143 z1.toNatClampNeg z2) (fun μ3 => grd (inb x1 12) (lt (st μ3 142 x1.toNatClampNeg 0) (fun μ5 => lt (x1 + 1) (fun y6 => q2 y6 μ5))))))
set_option maxRecDepth 100000 in
set_option maxHeartbeats 4000000 in
theorem b_X9_values_22 {p : Program} {l : Launch} {e : Env} {s : State} {m : MethodId} {args : Array Value} {below : List Frame} {meth : Method} {c : Code} {G : Gp} {O : Mem} (C : Cx p s m args meth c cX9_values 6 RX9 none G) {q2 : Int32 → Mem → Option Mem} (hq2 : ∀ (x1 : Int32) (μ : Mem), q2 x1 μ = some O → ∀ (H : Heap) (locs : List Loc) (ls : Array Slot), Wm G μ H → va_S (wA G) s.heap H locs → lv_has ls 6 [(0, .ref (G.2.2 122)), (1, .int x1)] → W p l e (rmm 0 0) s m args below meth c H locs 0 0 (QV below args s G O) (F0 m 2 ls [])) : ∀ (x1 : Int32) (z1 : Int32) (z2 : Int32) (μ : Mem), f_X9_values_22 q2 x1 z1 z2 μ = some O → ∀ (H : Heap) (locs : List Loc) (ls : Array Slot), Wm G μ H → va_S (wA G) s.heap H locs → lv_has ls 6 [(0, .ref (G.2.2 122)), (1, .int x1)] → W p l e (rmm 0 0) s m args below meth c H locs 0 0 (QV below args s G O) (F0 m 22 ls [.int z2, .int z1, .ref (G.2.2 143)]) := by
  intro x1 z1 z2 μ h H locs ls hP hS hl
  unfold f_X9_values_22 at h
  obtain ⟨g1, h⟩ := grd_some h
  obtain ⟨g2, h⟩ := grd_some h
  refine as_z C hP hS sh_143 g1 g2 dX9_values_22 (fun H locs hP hS => ?_)
  obtain ⟨μ3, m_μ3, h⟩ := lt_ex h
  have hP : Wm G μ3 H := by rw [m_μ3]; exact hP
  refine lv_aload_n C.x C.b dX9_values_23 rfl (lv_at hl 0 rfl) ?_
  refine g_ref (k' := 142) F_9_37 u4_166 C hP sh_122 rfl dX9_values_24 ?_
  refine lv_iload_n C.x C.b dX9_values_27 rfl (lv_at hl 1 rfl) ?_
  refine lv_iconst (v := 0) C.x C.b dX9_values_28 (by decide) ?_
  obtain ⟨g4, h⟩ := grd_some h
  refine as_i C hP hS sh_142 g4 dX9_values_29 (fun H locs hP hS => ?_)
  obtain ⟨μ5, m_μ5, h⟩ := lt_ex h
  have hP : Wm G μ5 H := by rw [m_μ5]; exact hP
  obtain ⟨y6, e_y6, h⟩ := lt_ex h
  refine lv_iinc (v := y6) (lv' := [(1, .int y6), (0, .ref (G.2.2 122))]) C.x C.b dX9_values_30 hl (k := 1) rfl (by rw [e_y6]; rfl) (by decide) rfl (fun ls hl => ?_)
  refine lv_goto (tgt := 2) C.x C.b dX9_values_33 (by decide) ?_
  exact hq2 y6 μ5 h _ _ _ hP hS (lv_sub hl [1, 0] rfl)

def f_X9_values_107  (q38 : Int32 → Mem → Option Mem) (q46 : Int32 → Int32 → Mem → Option Mem) (x2 : Int32) (x3 : Int32) (x4 : Int32) (z0 : Int32) (μ : Mem) : Option Mem := grd (inb x2 36) (grd (inb ((x3 + x4) - z0) 12) (grd (inb z0 12) (lt (st μ 142 z0.toNatClampNeg ((μ.1 127 x2.toNatClampNeg) - (μ.1 142 ((x3 + x4) - z0).toNatClampNeg))) (fun μ4 => grd (inb z0 12) (lt (st μ4 143 z0.toNatClampNeg 1) (fun μ6 => lt (x2 + 1) (fun y7 => q46 1 y7 μ6)))))))
set_option maxRecDepth 100000 in
set_option maxHeartbeats 4000000 in
theorem b_X9_values_107 {p : Program} {l : Launch} {e : Env} {s : State} {m : MethodId} {args : Array Value} {below : List Frame} {meth : Method} {c : Code} {G : Gp} {O : Mem} (C : Cx p s m args meth c cX9_values 6 RX9 none G) {q38 : Int32 → Mem → Option Mem} {q46 : Int32 → Int32 → Mem → Option Mem} (hq38 : ∀ (x1 : Int32) (μ : Mem), q38 x1 μ = some O → ∀ (H : Heap) (locs : List Loc) (ls : Array Slot), Wm G μ H → va_S (wA G) s.heap H locs → lv_has ls 6 [(0, .ref (G.2.2 122)), (1, .int x1)] → W p l e (rmm 0 0) s m args below meth c H locs 0 0 (QV below args s G O) (F0 m 38 ls [])) (hq46 : ∀ (x1 : Int32) (x2 : Int32) (μ : Mem), q46 x1 x2 μ = some O → ∀ (H : Heap) (locs : List Loc) (ls : Array Slot), Wm G μ H → va_S (wA G) s.heap H locs → lv_has ls 6 [(0, .ref (G.2.2 122)), (1, .int x1), (2, .int x2)] → W p l e (rmm 0 0) s m args below meth c H locs 0 0 (QV below args s G O) (F0 m 46 ls [])) : ∀ (x2 : Int32) (x3 : Int32) (x4 : Int32) (z0 : Int32) (μ : Mem), f_X9_values_107 q38 q46 x2 x3 x4 z0 μ = some O → ∀ (H : Heap) (locs : List Loc) (ls : Array Slot), Wm G μ H → va_S (wA G) s.heap H locs → lv_has ls 6 [(0, .ref (G.2.2 122)), (2, .int x2), (3, .int x3), (4, .int x4)] → W p l e (rmm 0 0) s m args below meth c H locs 0 0 (QV below args s G O) (F0 m 107 ls [.int z0]) := by
  intro x2 x3 x4 z0 μ h H locs ls hP hS hl
  unfold f_X9_values_107 at h
  refine lv_istore (lv' := [(5, .int z0), (0, .ref (G.2.2 122)), (2, .int x2), (3, .int x3), (4, .int x4)]) C.x C.b dX9_values_107 hl (by decide) rfl (fun ls hl => ?_)
  refine lv_aload_n C.x C.b dX9_values_109 rfl (lv_at hl 1 rfl) ?_
  refine g_ref (k' := 142) F_9_37 u4_166 C hP sh_122 rfl dX9_values_110 ?_
  refine lv_iload C.x C.b dX9_values_113 (lv_at hl 0 rfl) ?_
  refine lv_aload_n C.x C.b dX9_values_115 rfl (lv_at hl 1 rfl) ?_
  refine g_ref (k' := 127) F_9_10 u4_139 C hP sh_122 rfl dX9_values_116 ?_
  refine lv_iload_n C.x C.b dX9_values_119 rfl (lv_at hl 2 rfl) ?_
  obtain ⟨g1, h⟩ := grd_some h
  refine a_i C hP sh_127 g1 dX9_values_120 ?_
  refine lv_aload_n C.x C.b dX9_values_121 rfl (lv_at hl 1 rfl) ?_
  refine g_ref (k' := 142) F_9_37 u4_166 C hP sh_122 rfl dX9_values_122 ?_
  refine lv_iload_n C.x C.b dX9_values_125 rfl (lv_at hl 3 rfl) ?_
  refine lv_iload C.x C.b dX9_values_126 (lv_at hl 4 rfl) ?_
  refine lv_iadd C.x C.b dX9_values_128 ?_
  refine lv_iload C.x C.b dX9_values_129 (lv_at hl 0 rfl) ?_
  refine lv_isub C.x C.b dX9_values_131 ?_
  obtain ⟨g2, h⟩ := grd_some h
  refine a_i C hP sh_142 g2 dX9_values_132 ?_
  refine lv_isub C.x C.b dX9_values_133 ?_
  obtain ⟨g3, h⟩ := grd_some h
  refine as_i C hP hS sh_142 g3 dX9_values_134 (fun H locs hP hS => ?_)
  obtain ⟨μ4, m_μ4, h⟩ := lt_ex h
  have hP : Wm G μ4 H := by rw [m_μ4]; exact hP
  refine lv_aload_n C.x C.b dX9_values_135 rfl (lv_at hl 1 rfl) ?_
  refine g_ref (k' := 143) F_9_38 u4_167 C hP sh_122 rfl dX9_values_136 ?_
  refine lv_iload C.x C.b dX9_values_139 (lv_at hl 0 rfl) ?_
  refine lv_iconst (v := 1) C.x C.b dX9_values_141 (by decide) ?_
  obtain ⟨g5, h⟩ := grd_some h
  refine as_z C hP hS sh_143 g5 (by decide) dX9_values_142 (fun H locs hP hS => ?_)
  obtain ⟨μ6, m_μ6, h⟩ := lt_ex h
  have hP : Wm G μ6 H := by rw [m_μ6]; exact hP
  refine lv_iconst (v := 1) C.x C.b dX9_values_143 (by decide) ?_
  refine lv_istore_n (lv' := [(1, .int 1), (5, .int z0), (0, .ref (G.2.2 122)), (2, .int x2), (3, .int x3), (4, .int x4)]) C.x C.b dX9_values_144 rfl hl (by decide) rfl (fun ls hl => ?_)
  obtain ⟨y7, e_y7, h⟩ := lt_ex h
  refine lv_iinc (v := y7) (lv' := [(2, .int y7), (1, .int 1), (5, .int z0), (0, .ref (G.2.2 122)), (3, .int x3), (4, .int x4)]) C.x C.b dX9_values_145 hl (k := 3) rfl (by rw [e_y7]; rfl) (by decide) rfl (fun ls hl => ?_)
  refine lv_goto (tgt := 46) C.x C.b dX9_values_148 (by decide) ?_
  exact hq46 1 y7 μ6 h _ _ _ hP hS (lv_sub hl [3, 1, 0] rfl)

def g_X9_values_46  (q38 : Int32 → Mem → Option Mem) (q46 : Int32 → Int32 → Mem → Option Mem) (x1 : Int32) (x2 : Int32) (μ : Mem) : Option Mem := if 36 ≤ x2 then (q38 x1 μ) else (lt (x2 / 6) (fun y2 => lt (6 + (rm32 x2 6)) (fun y3 => grd (inb x2 36) (if (μ.1 129 x2.toNatClampNeg) = 1 then (grd (inb y2 12) (grd (inb y3 12) (if (μ.1 143 y2.toNatClampNeg) = (μ.1 143 y3.toNatClampNeg) then (lt (x2 + 1) (fun y10 => q46 x1 y10 μ)) else (grd (inb y2 12) (if (μ.1 143 y2.toNatClampNeg) = 0 then (f_X9_values_107 q38 q46 x2 y2 y3 y2 μ) else (f_X9_values_107 q38 q46 x2 y2 y3 y3 μ)))))) else (lt (x2 + 1) (fun y6 => q46 x1 y6 μ))))))
def f_X9_values_46  (q38 : Int32 → Mem → Option Mem) : Nat → Int32 → Int32 → Mem → Option Mem
  | 0, _, _, _ => none
  | n + 1, x1, x2, μ => g_X9_values_46  q38 (f_X9_values_46  q38 n) x1 x2 μ
set_option maxRecDepth 100000 in
set_option maxHeartbeats 4000000 in
theorem w_X9_values_46 {p : Program} {l : Launch} {e : Env} {s : State} {m : MethodId} {args : Array Value} {below : List Frame} {meth : Method} {c : Code} {G : Gp} {O : Mem} (C : Cx p s m args meth c cX9_values 6 RX9 none G) {q38 : Int32 → Mem → Option Mem} (hq38 : ∀ (x1 : Int32) (μ : Mem), q38 x1 μ = some O → ∀ (H : Heap) (locs : List Loc) (ls : Array Slot), Wm G μ H → va_S (wA G) s.heap H locs → lv_has ls 6 [(0, .ref (G.2.2 122)), (1, .int x1)] → W p l e (rmm 0 0) s m args below meth c H locs 0 0 (QV below args s G O) (F0 m 38 ls [])) {q46 : Int32 → Int32 → Mem → Option Mem} (hq46 : ∀ (x1 : Int32) (x2 : Int32) (μ : Mem), q46 x1 x2 μ = some O → ∀ (H : Heap) (locs : List Loc) (ls : Array Slot), Wm G μ H → va_S (wA G) s.heap H locs → lv_has ls 6 [(0, .ref (G.2.2 122)), (1, .int x1), (2, .int x2)] → W p l e (rmm 0 0) s m args below meth c H locs 0 0 (QV below args s G O) (F0 m 46 ls [])) : ∀ (x1 : Int32) (x2 : Int32) (μ : Mem), g_X9_values_46 q38 q46 x1 x2 μ = some O → ∀ (H : Heap) (locs : List Loc) (ls : Array Slot), Wm G μ H → va_S (wA G) s.heap H locs → lv_has ls 6 [(0, .ref (G.2.2 122)), (1, .int x1), (2, .int x2)] → W p l e (rmm 0 0) s m args below meth c H locs 0 0 (QV below args s G O) (F0 m 46 ls []) := by
  intro x1 x2 μ h H locs ls hP hS hl
  unfold g_X9_values_46 at h
  refine lv_iload_n C.x C.b dX9_values_46 rfl (lv_at hl 2 rfl) ?_
  refine lv_bipush (v := 36) C.x C.b dX9_values_47 (by decide) ?_
  refine lv_icmp_ge (tgt := 151) C.x C.b dX9_values_49 (by decide) (fun c1 => ?_) (fun c1 => ?_)
  · have h := (if_pos c1).symm.trans h
    refine lv_goto (tgt := 38) C.x C.b dX9_values_151 (by decide) ?_
    exact hq38 x1 μ h _ _ _ hP hS (lv_sub hl [0, 1] rfl)
  · have h := (if_neg c1).symm.trans h
    refine lv_iload_n C.x C.b dX9_values_52 rfl (lv_at hl 2 rfl) ?_
    refine lv_bipush (v := 6) C.x C.b dX9_values_53 (by decide) ?_
    refine lv_idiv C.x C.b dX9_values_55 (by decide) ?_
    refine lv_topi (fun y2 e_y2 => ?_)
    have h := lt_at h e_y2
    refine lv_istore_n (lv' := [(3, .int y2), (0, .ref (G.2.2 122)), (1, .int x1), (2, .int x2)]) C.x C.b dX9_values_56 rfl hl (by decide) rfl (fun ls hl => ?_)
    refine lv_bipush (v := 6) C.x C.b dX9_values_57 (by decide) ?_
    refine lv_iload_n C.x C.b dX9_values_59 rfl (lv_at hl 3 rfl) ?_
    refine lv_bipush (v := 6) C.x C.b dX9_values_60 (by decide) ?_
    refine lv_irem C.x C.b dX9_values_62 (by decide) ?_
    refine lv_iadd C.x C.b dX9_values_63 ?_
    refine lv_topi (fun y3 e_y3 => ?_)
    have h := lt_at h e_y3
    refine lv_istore (lv' := [(4, .int y3), (3, .int y2), (0, .ref (G.2.2 122)), (1, .int x1), (2, .int x2)]) C.x C.b dX9_values_64 hl (by decide) rfl (fun ls hl => ?_)
    refine lv_aload_n C.x C.b dX9_values_66 rfl (lv_at hl 2 rfl) ?_
    refine g_ref (k' := 129) F_9_12 u4_141 C hP sh_122 rfl dX9_values_67 ?_
    refine lv_iload_n C.x C.b dX9_values_70 rfl (lv_at hl 4 rfl) ?_
    obtain ⟨g4, h⟩ := grd_some h
    refine a_i C hP sh_129 g4 dX9_values_71 ?_
    refine lv_iconst (v := 1) C.x C.b dX9_values_72 (by decide) ?_
    refine lv_icmp_ne (tgt := 145) C.x C.b dX9_values_73 (by decide) (fun c5 => ?_) (fun c5 => ?_)
    · have h := (if_neg c5).symm.trans h
      obtain ⟨y6, e_y6, h⟩ := lt_ex h
      refine lv_iinc (v := y6) (lv' := [(2, .int y6), (4, .int y3), (3, .int y2), (0, .ref (G.2.2 122)), (1, .int x1)]) C.x C.b dX9_values_145 hl (k := 4) rfl (by rw [e_y6]; rfl) (by decide) rfl (fun ls hl => ?_)
      refine lv_goto (tgt := 46) C.x C.b dX9_values_148 (by decide) ?_
      exact hq46 x1 y6 μ h _ _ _ hP hS (lv_sub hl [3, 4, 0] rfl)
    · have h := (if_pos c5).symm.trans h
      refine lv_aload_n C.x C.b dX9_values_76 rfl (lv_at hl 2 rfl) ?_
      refine g_ref (k' := 143) F_9_38 u4_167 C hP sh_122 rfl dX9_values_77 ?_
      refine lv_iload_n C.x C.b dX9_values_80 rfl (lv_at hl 1 rfl) ?_
      obtain ⟨g7, h⟩ := grd_some h
      refine a_z C hP sh_143 g7 dX9_values_81 ?_
      refine lv_aload_n C.x C.b dX9_values_82 rfl (lv_at hl 2 rfl) ?_
      refine g_ref (k' := 143) F_9_38 u4_167 C hP sh_122 rfl dX9_values_83 ?_
      refine lv_iload C.x C.b dX9_values_86 (lv_at hl 0 rfl) ?_
      obtain ⟨g8, h⟩ := grd_some h
      refine a_z C hP sh_143 g8 dX9_values_88 ?_
      refine lv_icmp_eq (tgt := 145) C.x C.b dX9_values_89 (by decide) (fun c9 => ?_) (fun c9 => ?_)
      · have h := (if_pos c9).symm.trans h
        obtain ⟨y10, e_y10, h⟩ := lt_ex h
        refine lv_iinc (v := y10) (lv' := [(2, .int y10), (4, .int y3), (3, .int y2), (0, .ref (G.2.2 122)), (1, .int x1)]) C.x C.b dX9_values_145 hl (k := 4) rfl (by rw [e_y10]; rfl) (by decide) rfl (fun ls hl => ?_)
        refine lv_goto (tgt := 46) C.x C.b dX9_values_148 (by decide) ?_
        exact hq46 x1 y10 μ h _ _ _ hP hS (lv_sub hl [3, 4, 0] rfl)
      · have h := (if_neg c9).symm.trans h
        refine lv_aload_n C.x C.b dX9_values_92 rfl (lv_at hl 2 rfl) ?_
        refine g_ref (k' := 143) F_9_38 u4_167 C hP sh_122 rfl dX9_values_93 ?_
        refine lv_iload_n C.x C.b dX9_values_96 rfl (lv_at hl 1 rfl) ?_
        obtain ⟨g11, h⟩ := grd_some h
        refine a_z C hP sh_143 g11 dX9_values_97 ?_
        refine lv_if_eq (tgt := 106) C.x C.b dX9_values_98 (by decide) (fun c12 => ?_) (fun c12 => ?_)
        · have h := (if_pos c12).symm.trans h
          refine lv_iload_n C.x C.b dX9_values_106 rfl (lv_at hl 1 rfl) ?_
          exact b_X9_values_107 C hq38 hq46 x2 y2 y3 y2 μ h _ _ _ hP hS (lv_sub hl [2, 4, 1, 0] rfl)
        · have h := (if_neg c12).symm.trans h
          refine lv_iload C.x C.b dX9_values_101 (lv_at hl 0 rfl) ?_
          refine lv_goto (tgt := 107) C.x C.b dX9_values_103 (by decide) ?_
          exact b_X9_values_107 C hq38 hq46 x2 y2 y3 y3 μ h _ _ _ hP hS (lv_sub hl [2, 4, 1, 0] rfl)

set_option maxRecDepth 100000 in
set_option maxHeartbeats 4000000 in
theorem b_X9_values_46 {p : Program} {l : Launch} {e : Env} {s : State} {m : MethodId} {args : Array Value} {below : List Frame} {meth : Method} {c : Code} {G : Gp} {O : Mem} (C : Cx p s m args meth c cX9_values 6 RX9 none G) {q38 : Int32 → Mem → Option Mem} (hq38 : ∀ (x1 : Int32) (μ : Mem), q38 x1 μ = some O → ∀ (H : Heap) (locs : List Loc) (ls : Array Slot), Wm G μ H → va_S (wA G) s.heap H locs → lv_has ls 6 [(0, .ref (G.2.2 122)), (1, .int x1)] → W p l e (rmm 0 0) s m args below meth c H locs 0 0 (QV below args s G O) (F0 m 38 ls [])) : ∀ (n : Nat) (x1 : Int32) (x2 : Int32) (μ : Mem), f_X9_values_46 q38 n x1 x2 μ = some O → ∀ (H : Heap) (locs : List Loc) (ls : Array Slot), Wm G μ H → va_S (wA G) s.heap H locs → lv_has ls 6 [(0, .ref (G.2.2 122)), (1, .int x1), (2, .int x2)] → W p l e (rmm 0 0) s m args below meth c H locs 0 0 (QV below args s G O) (F0 m 46 ls []) := by
  intro n
  induction n with
  | zero => intro x1 x2 μ h; cases h
  | succ n ih => intro x1 x2 μ h; exact w_X9_values_46 C hq38 (q46 := f_X9_values_46 q38 n) ih x1 x2 μ h

def g_X9_values_38   (q38 : Int32 → Mem → Option Mem) (x1 : Int32) (μ : Mem) : Option Mem := if x1 = 0 then (some μ) else (f_X9_values_46 q38 FU 0 0 μ)
def f_X9_values_38   : Nat → Int32 → Mem → Option Mem
  | 0, _, _ => none
  | n + 1, x1, μ => g_X9_values_38  (f_X9_values_38  n) x1 μ
set_option maxRecDepth 100000 in
set_option maxHeartbeats 4000000 in
theorem w_X9_values_38 {p : Program} {l : Launch} {e : Env} {s : State} {m : MethodId} {args : Array Value} {below : List Frame} {meth : Method} {c : Code} {G : Gp} {O : Mem} (C : Cx p s m args meth c cX9_values 6 RX9 none G) {q38 : Int32 → Mem → Option Mem} (hq38 : ∀ (x1 : Int32) (μ : Mem), q38 x1 μ = some O → ∀ (H : Heap) (locs : List Loc) (ls : Array Slot), Wm G μ H → va_S (wA G) s.heap H locs → lv_has ls 6 [(0, .ref (G.2.2 122)), (1, .int x1)] → W p l e (rmm 0 0) s m args below meth c H locs 0 0 (QV below args s G O) (F0 m 38 ls [])) : ∀ (x1 : Int32) (μ : Mem), g_X9_values_38 q38 x1 μ = some O → ∀ (H : Heap) (locs : List Loc) (ls : Array Slot), Wm G μ H → va_S (wA G) s.heap H locs → lv_has ls 6 [(0, .ref (G.2.2 122)), (1, .int x1)] → W p l e (rmm 0 0) s m args below meth c H locs 0 0 (QV below args s G O) (F0 m 38 ls []) := by
  intro x1 μ h H locs ls hP hS hl
  unfold g_X9_values_38 at h
  refine lv_iload_n C.x C.b dX9_values_38 rfl (lv_at hl 1 rfl) ?_
  refine lv_if_eq (tgt := 154) C.x C.b dX9_values_39 (by decide) (fun c1 => ?_) (fun c1 => ?_)
  · have h := (if_pos c1).symm.trans h
    exact r_v h C hP hS dX9_values_154
  · have h := (if_neg c1).symm.trans h
    refine lv_iconst (v := 0) C.x C.b dX9_values_42 (by decide) ?_
    refine lv_istore_n (lv' := [(1, .int 0), (0, .ref (G.2.2 122))]) C.x C.b dX9_values_43 rfl hl (by decide) rfl (fun ls hl => ?_)
    refine lv_iconst (v := 0) C.x C.b dX9_values_44 (by decide) ?_
    refine lv_istore_n (lv' := [(2, .int 0), (1, .int 0), (0, .ref (G.2.2 122))]) C.x C.b dX9_values_45 rfl hl (by decide) rfl (fun ls hl => ?_)
    exact b_X9_values_46 C hq38 FU 0 0 μ h _ _ _ hP hS (lv_sub hl [2, 1, 0] rfl)

set_option maxRecDepth 100000 in
set_option maxHeartbeats 4000000 in
theorem b_X9_values_38 {p : Program} {l : Launch} {e : Env} {s : State} {m : MethodId} {args : Array Value} {below : List Frame} {meth : Method} {c : Code} {G : Gp} {O : Mem} (C : Cx p s m args meth c cX9_values 6 RX9 none G) : ∀ (n : Nat) (x1 : Int32) (μ : Mem), f_X9_values_38 n x1 μ = some O → ∀ (H : Heap) (locs : List Loc) (ls : Array Slot), Wm G μ H → va_S (wA G) s.heap H locs → lv_has ls 6 [(0, .ref (G.2.2 122)), (1, .int x1)] → W p l e (rmm 0 0) s m args below meth c H locs 0 0 (QV below args s G O) (F0 m 38 ls []) := by
  intro n
  induction n with
  | zero => intro x1 μ h; cases h
  | succ n ih => intro x1 μ h; exact w_X9_values_38 C (q38 := f_X9_values_38 n) ih x1 μ h

def g_X9_values_2   (q2 : Int32 → Mem → Option Mem) (x1 : Int32) (μ : Mem) : Option Mem := if 12 ≤ x1 then (f_X9_values_38 FU 1 μ) else (if x1 = 0 then (f_X9_values_22 q2 x1 x1 1 μ) else (f_X9_values_22 q2 x1 x1 0 μ))
def f_X9_values_2   : Nat → Int32 → Mem → Option Mem
  | 0, _, _ => none
  | n + 1, x1, μ => g_X9_values_2  (f_X9_values_2  n) x1 μ
set_option maxRecDepth 100000 in
set_option maxHeartbeats 4000000 in
theorem w_X9_values_2 {p : Program} {l : Launch} {e : Env} {s : State} {m : MethodId} {args : Array Value} {below : List Frame} {meth : Method} {c : Code} {G : Gp} {O : Mem} (C : Cx p s m args meth c cX9_values 6 RX9 none G) {q2 : Int32 → Mem → Option Mem} (hq2 : ∀ (x1 : Int32) (μ : Mem), q2 x1 μ = some O → ∀ (H : Heap) (locs : List Loc) (ls : Array Slot), Wm G μ H → va_S (wA G) s.heap H locs → lv_has ls 6 [(0, .ref (G.2.2 122)), (1, .int x1)] → W p l e (rmm 0 0) s m args below meth c H locs 0 0 (QV below args s G O) (F0 m 2 ls [])) : ∀ (x1 : Int32) (μ : Mem), g_X9_values_2 q2 x1 μ = some O → ∀ (H : Heap) (locs : List Loc) (ls : Array Slot), Wm G μ H → va_S (wA G) s.heap H locs → lv_has ls 6 [(0, .ref (G.2.2 122)), (1, .int x1)] → W p l e (rmm 0 0) s m args below meth c H locs 0 0 (QV below args s G O) (F0 m 2 ls []) := by
  intro x1 μ h H locs ls hP hS hl
  unfold g_X9_values_2 at h
  refine lv_iload_n C.x C.b dX9_values_2 rfl (lv_at hl 1 rfl) ?_
  refine lv_bipush (v := 12) C.x C.b dX9_values_3 (by decide) ?_
  refine lv_icmp_ge (tgt := 36) C.x C.b dX9_values_5 (by decide) (fun c1 => ?_) (fun c1 => ?_)
  · have h := (if_pos c1).symm.trans h
    refine lv_iconst (v := 1) C.x C.b dX9_values_36 (by decide) ?_
    refine lv_istore_n (lv' := [(1, .int 1), (0, .ref (G.2.2 122))]) C.x C.b dX9_values_37 rfl hl (by decide) rfl (fun ls hl => ?_)
    exact b_X9_values_38 C FU 1 μ h _ _ _ hP hS (lv_sub hl [1, 0] rfl)
  · have h := (if_neg c1).symm.trans h
    refine lv_aload_n C.x C.b dX9_values_8 rfl (lv_at hl 0 rfl) ?_
    refine g_ref (k' := 143) F_9_38 u4_167 C hP sh_122 rfl dX9_values_9 ?_
    refine lv_iload_n C.x C.b dX9_values_12 rfl (lv_at hl 1 rfl) ?_
    refine lv_iload_n C.x C.b dX9_values_13 rfl (lv_at hl 1 rfl) ?_
    refine lv_if_ne (tgt := 21) C.x C.b dX9_values_14 (by decide) (fun c2 => ?_) (fun c2 => ?_)
    · have h := (if_neg c2).symm.trans h
      refine lv_iconst (v := 0) C.x C.b dX9_values_21 (by decide) ?_
      exact b_X9_values_22 C hq2 x1 x1 0 μ h _ _ _ hP hS (lv_sub hl [0, 1] rfl)
    · have h := (if_pos c2).symm.trans h
      refine lv_iconst (v := 1) C.x C.b dX9_values_17 (by decide) ?_
      refine lv_goto (tgt := 22) C.x C.b dX9_values_18 (by decide) ?_
      exact b_X9_values_22 C hq2 x1 x1 1 μ h _ _ _ hP hS (lv_sub hl [0, 1] rfl)

set_option maxRecDepth 100000 in
set_option maxHeartbeats 4000000 in
theorem b_X9_values_2 {p : Program} {l : Launch} {e : Env} {s : State} {m : MethodId} {args : Array Value} {below : List Frame} {meth : Method} {c : Code} {G : Gp} {O : Mem} (C : Cx p s m args meth c cX9_values 6 RX9 none G) : ∀ (n : Nat) (x1 : Int32) (μ : Mem), f_X9_values_2 n x1 μ = some O → ∀ (H : Heap) (locs : List Loc) (ls : Array Slot), Wm G μ H → va_S (wA G) s.heap H locs → lv_has ls 6 [(0, .ref (G.2.2 122)), (1, .int x1)] → W p l e (rmm 0 0) s m args below meth c H locs 0 0 (QV below args s G O) (F0 m 2 ls []) := by
  intro n
  induction n with
  | zero => intro x1 μ h; cases h
  | succ n ih => intro x1 μ h; exact w_X9_values_2 C (q2 := f_X9_values_2 n) ih x1 μ h

def f_X9_values  (μ : Mem) : Option Mem := f_X9_values_2 FU 0 μ
set_option maxRecDepth 100000 in
set_option maxHeartbeats 4000000 in
theorem b_X9_values {p : Program} {l : Launch} {e : Env} {s : State} {m : MethodId} {args : Array Value} {below : List Frame} {meth : Method} {c : Code} {G : Gp} {O : Mem} (C : Cx p s m args meth c cX9_values 6 RX9 none G) {μ : Mem} (h : f_X9_values μ = some O) : ∀ (H : Heap) (locs : List Loc) (ls : Array Slot), Wm G μ H → va_S (wA G) s.heap H locs → lv_has ls 6 [(0, .ref (G.2.2 122))] → W p l e (rmm 0 0) s m args below meth c H locs 0 0 (QV below args s G O) (F0 m 0 ls []) := by
  unfold f_X9_values at h
  intro H locs ls hP hS hl
  refine lv_iconst (v := 0) C.x C.b dX9_values_0 (by decide) ?_
  refine lv_istore_n (lv' := [(1, .int 0), (0, .ref (G.2.2 122))]) C.x C.b dX9_values_1 rfl hl (by decide) rfl (fun ls hl => ?_)
  exact b_X9_values_2 C FU 0 μ h _ _ _ hP hS (lv_sub hl [1, 0] rfl)

set_option maxRecDepth 100000 in
set_option maxHeartbeats 4000000 in
theorem c_X9_values {l : Launch} {G : Gp} (hI : Wi G) {μ : Mem} {μ' : Mem} (h : f_X9_values μ = some μ') : CV l yX9_values cX9_values 6 none 0 0 G [.ref (G.2.2 122)] μ μ' :=
  e_all (lv := [(0, .ref (G.2.2 122))]) hI (by decide) (Nat.le_of_ble_eq_true rfl) rfl (fun p e s m args below meth c ls C hP hS hl => b_X9_values C h _ _ _ hP hS hl)


def f_X9_over (x1 : Int32) (μ : Mem) : Option Int32 := grd (inb x1 36) (grd (inb (x1 / 6) 12) (grd (inb (6 + (rm32 x1 6)) 12) (some (((μ.1 127 x1.toNatClampNeg) - (μ.1 142 (x1 / 6).toNatClampNeg)) - (μ.1 142 (6 + (rm32 x1 6)).toNatClampNeg)))))
set_option maxRecDepth 100000 in
set_option maxHeartbeats 4000000 in
theorem b_X9_over {p : Program} {l : Launch} {e : Env} {s : State} {m : MethodId} {args : Array Value} {below : List Frame} {meth : Method} {c : Code} {G : Gp} {O : Int32} (C : Cx p s m args meth c cX9_over 2 RX9 (some .int) G) {x1 : Int32} {μ : Mem} (h : f_X9_over x1 μ = some O) : ∀ (H : Heap) (locs : List Loc) (ls : Array Slot), Wm G μ H → va_S (wA G) s.heap H locs → lv_has ls 2 [(0, .ref (G.2.2 122)), (1, .int x1)] → W p l e (rmm 0 0) s m args below meth c H locs 0 0 (QI below args s G (O, μ)) (F0 m 0 ls []) := by
  unfold f_X9_over at h
  intro H locs ls hP hS hl
  refine lv_aload_n C.x C.b dX9_over_0 rfl (lv_at hl 0 rfl) ?_
  refine g_ref (k' := 127) F_9_10 u4_139 C hP sh_122 rfl dX9_over_1 ?_
  refine lv_iload_n C.x C.b dX9_over_4 rfl (lv_at hl 1 rfl) ?_
  obtain ⟨g1, h⟩ := grd_some h
  refine a_i C hP sh_127 g1 dX9_over_5 ?_
  refine lv_aload_n C.x C.b dX9_over_6 rfl (lv_at hl 0 rfl) ?_
  refine g_ref (k' := 142) F_9_37 u4_166 C hP sh_122 rfl dX9_over_7 ?_
  refine lv_iload_n C.x C.b dX9_over_10 rfl (lv_at hl 1 rfl) ?_
  refine lv_bipush (v := 6) C.x C.b dX9_over_11 (by decide) ?_
  refine lv_idiv C.x C.b dX9_over_13 (by decide) ?_
  obtain ⟨g2, h⟩ := grd_some h
  refine a_i C hP sh_142 g2 dX9_over_14 ?_
  refine lv_isub C.x C.b dX9_over_15 ?_
  refine lv_aload_n C.x C.b dX9_over_16 rfl (lv_at hl 0 rfl) ?_
  refine g_ref (k' := 142) F_9_37 u4_166 C hP sh_122 rfl dX9_over_17 ?_
  refine lv_bipush (v := 6) C.x C.b dX9_over_20 (by decide) ?_
  refine lv_iload_n C.x C.b dX9_over_22 rfl (lv_at hl 1 rfl) ?_
  refine lv_bipush (v := 6) C.x C.b dX9_over_23 (by decide) ?_
  refine lv_irem C.x C.b dX9_over_25 (by decide) ?_
  refine lv_iadd C.x C.b dX9_over_26 ?_
  obtain ⟨g3, h⟩ := grd_some h
  refine a_i C hP sh_142 g3 dX9_over_27 ?_
  refine lv_isub C.x C.b dX9_over_28 ?_
  exact r_i (pr_some h) C hP hS dX9_over_29

set_option maxRecDepth 100000 in
set_option maxHeartbeats 4000000 in
theorem c_X9_over {l : Launch} {G : Gp} (hI : Wi G) {x1 : Int32} {μ : Mem} {r : Int32} (h : f_X9_over x1 μ = some r) : CI l yX9_over cX9_over 2 (some .int) 0 0 G [.ref (G.2.2 122), .int x1] μ r μ :=
  e_all (lv := [(0, .ref (G.2.2 122)), (1, .int x1)]) hI (by decide) (Nat.le_of_ble_eq_true rfl) rfl (fun p e s m args below meth c ls C hP hS hl => b_X9_over C h _ _ _ hP hS hl)


def f_X9_isInPlan (x1 : Int32) (μ : Mem) : Option Int32 := if (μ.1 122 7) ≤ (x1 / 6) then (some 0) else (if (μ.1 122 8) ≤ (rm32 x1 6) then (some 0) else (some 1))
set_option maxRecDepth 100000 in
set_option maxHeartbeats 4000000 in
theorem b_X9_isInPlan {p : Program} {l : Launch} {e : Env} {s : State} {m : MethodId} {args : Array Value} {below : List Frame} {meth : Method} {c : Code} {G : Gp} {O : Int32} (C : Cx p s m args meth c cX9_isInPlan 2 RX9 (some .boolean) G) {x1 : Int32} {μ : Mem} (h : f_X9_isInPlan x1 μ = some O) : ∀ (H : Heap) (locs : List Loc) (ls : Array Slot), Wm G μ H → va_S (wA G) s.heap H locs → lv_has ls 2 [(0, .ref (G.2.2 122)), (1, .int x1)] → W p l e (rmm 0 0) s m args below meth c H locs 0 0 (QI below args s G (O, μ)) (F0 m 0 ls []) := by
  unfold f_X9_isInPlan at h
  intro H locs ls hP hS hl
  refine lv_iload_n C.x C.b dX9_isInPlan_0 rfl (lv_at hl 1 rfl) ?_
  refine lv_bipush (v := 6) C.x C.b dX9_isInPlan_1 (by decide) ?_
  refine lv_idiv C.x C.b dX9_isInPlan_3 (by decide) ?_
  refine lv_aload_n C.x C.b dX9_isInPlan_4 rfl (lv_at hl 0 rfl) ?_
  refine g_int F_9_7 u4_136 C hP sh_122 dX9_isInPlan_5 ?_
  refine lv_icmp_ge (tgt := 26) C.x C.b dX9_isInPlan_8 (by decide) (fun c1 => ?_) (fun c1 => ?_)
  · have h := (if_pos c1).symm.trans h
    refine lv_iconst (v := 0) C.x C.b dX9_isInPlan_26 (by decide) ?_
    exact r_z (pr_some h) (by decide) C hP hS dX9_isInPlan_27
  · have h := (if_neg c1).symm.trans h
    refine lv_iload_n C.x C.b dX9_isInPlan_11 rfl (lv_at hl 1 rfl) ?_
    refine lv_bipush (v := 6) C.x C.b dX9_isInPlan_12 (by decide) ?_
    refine lv_irem C.x C.b dX9_isInPlan_14 (by decide) ?_
    refine lv_aload_n C.x C.b dX9_isInPlan_15 rfl (lv_at hl 0 rfl) ?_
    refine g_int F_9_8 u4_137 C hP sh_122 dX9_isInPlan_16 ?_
    refine lv_icmp_ge (tgt := 26) C.x C.b dX9_isInPlan_19 (by decide) (fun c2 => ?_) (fun c2 => ?_)
    · have h := (if_pos c2).symm.trans h
      refine lv_iconst (v := 0) C.x C.b dX9_isInPlan_26 (by decide) ?_
      exact r_z (pr_some h) (by decide) C hP hS dX9_isInPlan_27
    · have h := (if_neg c2).symm.trans h
      refine lv_iconst (v := 1) C.x C.b dX9_isInPlan_22 (by decide) ?_
      refine lv_goto (tgt := 27) C.x C.b dX9_isInPlan_23 (by decide) ?_
      exact r_z (pr_some h) (by decide) C hP hS dX9_isInPlan_27

set_option maxRecDepth 100000 in
set_option maxHeartbeats 4000000 in
theorem c_X9_isInPlan {l : Launch} {G : Gp} (hI : Wi G) {x1 : Int32} {μ : Mem} {r : Int32} (h : f_X9_isInPlan x1 μ = some r) : CI l yX9_isInPlan cX9_isInPlan 2 (some .boolean) 0 0 G [.ref (G.2.2 122), .int x1] μ r μ :=
  e_all (lv := [(0, .ref (G.2.2 122)), (1, .int x1)]) hI (by decide) (Nat.le_of_ble_eq_true rfl) rfl (fun p e s m args below meth c ls C hP hS hl => b_X9_isInPlan C h _ _ _ hP hS hl)


def f_X9_counted_89 (x1 : Int32) (q8 : Int32 → Int32 → Mem → Option (Int32 × Mem)) (x2 : Int32) (x3 : Int32) (z0 : Int32) (μ : Mem) : Option (Int32 × Mem) := bnv (f_X9_isInPlan x3 μ) (fun r2 => if r2 = 0 then (lt (x2 + 0) (fun y4 => lt (x3 + 1) (fun y5 => q8 y4 y5 μ))) else (if z0 = 0 then (lt (x2 + 0) (fun y7 => lt (x3 + 1) (fun y8 => q8 y7 y8 μ))) else (lt (x2 + 1) (fun y9 => lt (x3 + 1) (fun y10 => q8 y9 y10 μ)))))
set_option maxRecDepth 100000 in
set_option maxHeartbeats 4000000 in
theorem b_X9_counted_89 {p : Program} {l : Launch} {e : Env} {s : State} {m : MethodId} {args : Array Value} {below : List Frame} {meth : Method} {c : Code} {G : Gp} {O : (Int32 × Mem)} (C : Cx p s m args meth c cX9_counted 5 RX9 (some .int) G) {x1 : Int32} {q8 : Int32 → Int32 → Mem → Option (Int32 × Mem)} (hq8 : ∀ (x2 : Int32) (x3 : Int32) (μ : Mem), q8 x2 x3 μ = some O → ∀ (H : Heap) (locs : List Loc) (ls : Array Slot), Wm G μ H → va_S (wA G) s.heap H locs → lv_has ls 5 [(0, .ref (G.2.2 122)), (1, .int x1), (2, .int x2), (3, .int x3)] → W p l e (rmm 1 25) s m args below meth c H locs 0 0 (QI below args s G O) (F0 m 8 ls [])) : ∀ (x2 : Int32) (x3 : Int32) (z0 : Int32) (μ : Mem), f_X9_counted_89 x1 q8 x2 x3 z0 μ = some O → ∀ (H : Heap) (locs : List Loc) (ls : Array Slot), Wm G μ H → va_S (wA G) s.heap H locs → lv_has ls 5 [(0, .ref (G.2.2 122)), (1, .int x1), (2, .int x2), (3, .int x3)] → W p l e (rmm 1 25) s m args below meth c H locs 0 0 (QI below args s G O) (F0 m 89 ls [.int z0]) := by
  intro x2 x3 z0 μ h H locs ls hP hS hl
  unfold f_X9_counted_89 at h
  refine lv_istore (lv' := [(4, .int z0), (0, .ref (G.2.2 122)), (1, .int x1), (2, .int x2), (3, .int x3)]) C.x C.b dX9_counted_89 hl (by decide) rfl (fun ls hl => ?_)
  refine lv_iload_n C.x C.b dX9_counted_91 rfl (lv_at hl 3 rfl) ?_
  refine lv_aload_n C.x C.b dX9_counted_92 rfl (lv_at hl 1 rfl) ?_
  refine lv_iload_n C.x C.b dX9_counted_93 rfl (lv_at hl 4 rfl) ?_
  obtain ⟨r2, e1, h⟩ := bnv_some h
  refine k_vi (k := 122) (as := [.int x3]) (rest := [.int x2]) (c_X9_isInPlan C.i e1) M_X9_isInPlan u5_217 C hP hS sh_122 rfl rfl (by decide) hl.1 rfl (Nat.le_of_ble_eq_true rfl) dX9_counted_94 (fun H locs hP hS => ?_)
  refine lv_if_eq (tgt := 109) C.x C.b dX9_counted_97 (by decide) (fun c3 => ?_) (fun c3 => ?_)
  · have h := (if_pos c3).symm.trans h
    refine lv_iconst (v := 0) C.x C.b dX9_counted_109 (by decide) ?_
    refine lv_iadd C.x C.b dX9_counted_110 ?_
    refine lv_topi (fun y4 e_y4 => ?_)
    have h := lt_at h e_y4
    refine lv_istore_n (lv' := [(2, .int y4), (4, .int z0), (0, .ref (G.2.2 122)), (1, .int x1), (3, .int x3)]) C.x C.b dX9_counted_111 rfl hl (by decide) rfl (fun ls hl => ?_)
    obtain ⟨y5, e_y5, h⟩ := lt_ex h
    refine lv_iinc (v := y5) (lv' := [(3, .int y5), (2, .int y4), (4, .int z0), (0, .ref (G.2.2 122)), (1, .int x1)]) C.x C.b dX9_counted_112 hl (k := 4) rfl (by rw [e_y5]; rfl) (by decide) rfl (fun ls hl => ?_)
    refine lv_goto (tgt := 8) C.x C.b dX9_counted_115 (by decide) ?_
    exact hq8 y4 y5 μ h _ _ _ hP hS (lv_sub hl [3, 4, 1, 0] rfl)
  · have h := (if_neg c3).symm.trans h
    refine lv_iload C.x C.b dX9_counted_100 (lv_at hl 0 rfl) ?_
    refine lv_if_eq (tgt := 109) C.x C.b dX9_counted_102 (by decide) (fun c6 => ?_) (fun c6 => ?_)
    · have h := (if_pos c6).symm.trans h
      refine lv_iconst (v := 0) C.x C.b dX9_counted_109 (by decide) ?_
      refine lv_iadd C.x C.b dX9_counted_110 ?_
      refine lv_topi (fun y7 e_y7 => ?_)
      have h := lt_at h e_y7
      refine lv_istore_n (lv' := [(2, .int y7), (4, .int z0), (0, .ref (G.2.2 122)), (1, .int x1), (3, .int x3)]) C.x C.b dX9_counted_111 rfl hl (by decide) rfl (fun ls hl => ?_)
      obtain ⟨y8, e_y8, h⟩ := lt_ex h
      refine lv_iinc (v := y8) (lv' := [(3, .int y8), (2, .int y7), (4, .int z0), (0, .ref (G.2.2 122)), (1, .int x1)]) C.x C.b dX9_counted_112 hl (k := 4) rfl (by rw [e_y8]; rfl) (by decide) rfl (fun ls hl => ?_)
      refine lv_goto (tgt := 8) C.x C.b dX9_counted_115 (by decide) ?_
      exact hq8 y7 y8 μ h _ _ _ hP hS (lv_sub hl [3, 4, 1, 0] rfl)
    · have h := (if_neg c6).symm.trans h
      refine lv_iconst (v := 1) C.x C.b dX9_counted_105 (by decide) ?_
      refine lv_goto (tgt := 110) C.x C.b dX9_counted_106 (by decide) ?_
      refine lv_iadd C.x C.b dX9_counted_110 ?_
      refine lv_topi (fun y9 e_y9 => ?_)
      have h := lt_at h e_y9
      refine lv_istore_n (lv' := [(2, .int y9), (4, .int z0), (0, .ref (G.2.2 122)), (1, .int x1), (3, .int x3)]) C.x C.b dX9_counted_111 rfl hl (by decide) rfl (fun ls hl => ?_)
      obtain ⟨y10, e_y10, h⟩ := lt_ex h
      refine lv_iinc (v := y10) (lv' := [(3, .int y10), (2, .int y9), (4, .int z0), (0, .ref (G.2.2 122)), (1, .int x1)]) C.x C.b dX9_counted_112 hl (k := 4) rfl (by rw [e_y10]; rfl) (by decide) rfl (fun ls hl => ?_)
      refine lv_goto (tgt := 8) C.x C.b dX9_counted_115 (by decide) ?_
      exact hq8 y9 y10 μ h _ _ _ hP hS (lv_sub hl [3, 4, 1, 0] rfl)

def f_X9_counted_42 (x1 : Int32) (q8 : Int32 → Int32 → Mem → Option (Int32 × Mem)) (x2 : Int32) (x3 : Int32) (μ : Mem) : Option (Int32 × Mem) := f_X9_counted_89 x1 q8 x2 x3 0 μ
set_option maxRecDepth 100000 in
set_option maxHeartbeats 4000000 in
theorem b_X9_counted_42 {p : Program} {l : Launch} {e : Env} {s : State} {m : MethodId} {args : Array Value} {below : List Frame} {meth : Method} {c : Code} {G : Gp} {O : (Int32 × Mem)} (C : Cx p s m args meth c cX9_counted 5 RX9 (some .int) G) {x1 : Int32} {q8 : Int32 → Int32 → Mem → Option (Int32 × Mem)} (hq8 : ∀ (x2 : Int32) (x3 : Int32) (μ : Mem), q8 x2 x3 μ = some O → ∀ (H : Heap) (locs : List Loc) (ls : Array Slot), Wm G μ H → va_S (wA G) s.heap H locs → lv_has ls 5 [(0, .ref (G.2.2 122)), (1, .int x1), (2, .int x2), (3, .int x3)] → W p l e (rmm 1 25) s m args below meth c H locs 0 0 (QI below args s G O) (F0 m 8 ls [])) : ∀ (x2 : Int32) (x3 : Int32) (μ : Mem), f_X9_counted_42 x1 q8 x2 x3 μ = some O → ∀ (H : Heap) (locs : List Loc) (ls : Array Slot), Wm G μ H → va_S (wA G) s.heap H locs → lv_has ls 5 [(0, .ref (G.2.2 122)), (1, .int x1), (2, .int x2), (3, .int x3)] → W p l e (rmm 1 25) s m args below meth c H locs 0 0 (QI below args s G O) (F0 m 42 ls []) := by
  intro x2 x3 μ h H locs ls hP hS hl
  unfold f_X9_counted_42 at h
  refine lv_iconst (v := 0) C.x C.b dX9_counted_42 (by decide) ?_
  refine lv_goto (tgt := 89) C.x C.b dX9_counted_43 (by decide) ?_
  exact b_X9_counted_89 C hq8 x2 x3 0 μ h _ _ _ hP hS (lv_sub hl [0, 1, 2, 3] rfl)

def f_X9_counted_72 (x1 : Int32) (q8 : Int32 → Int32 → Mem → Option (Int32 × Mem)) (x2 : Int32) (x3 : Int32) (μ : Mem) : Option (Int32 × Mem) := f_X9_counted_89 x1 q8 x2 x3 0 μ
set_option maxRecDepth 100000 in
set_option maxHeartbeats 4000000 in
theorem b_X9_counted_72 {p : Program} {l : Launch} {e : Env} {s : State} {m : MethodId} {args : Array Value} {below : List Frame} {meth : Method} {c : Code} {G : Gp} {O : (Int32 × Mem)} (C : Cx p s m args meth c cX9_counted 5 RX9 (some .int) G) {x1 : Int32} {q8 : Int32 → Int32 → Mem → Option (Int32 × Mem)} (hq8 : ∀ (x2 : Int32) (x3 : Int32) (μ : Mem), q8 x2 x3 μ = some O → ∀ (H : Heap) (locs : List Loc) (ls : Array Slot), Wm G μ H → va_S (wA G) s.heap H locs → lv_has ls 5 [(0, .ref (G.2.2 122)), (1, .int x1), (2, .int x2), (3, .int x3)] → W p l e (rmm 1 25) s m args below meth c H locs 0 0 (QI below args s G O) (F0 m 8 ls [])) : ∀ (x2 : Int32) (x3 : Int32) (μ : Mem), f_X9_counted_72 x1 q8 x2 x3 μ = some O → ∀ (H : Heap) (locs : List Loc) (ls : Array Slot), Wm G μ H → va_S (wA G) s.heap H locs → lv_has ls 5 [(0, .ref (G.2.2 122)), (1, .int x1), (2, .int x2), (3, .int x3)] → W p l e (rmm 1 25) s m args below meth c H locs 0 0 (QI below args s G O) (F0 m 72 ls []) := by
  intro x2 x3 μ h H locs ls hP hS hl
  unfold f_X9_counted_72 at h
  refine lv_iconst (v := 0) C.x C.b dX9_counted_72 (by decide) ?_
  refine lv_goto (tgt := 89) C.x C.b dX9_counted_73 (by decide) ?_
  exact b_X9_counted_89 C hq8 x2 x3 0 μ h _ _ _ hP hS (lv_sub hl [0, 1, 2, 3] rfl)

def g_X9_counted_8 (x1 : Int32)  (q8 : Int32 → Int32 → Mem → Option (Int32 × Mem)) (x2 : Int32) (x3 : Int32) (μ : Mem) : Option (Int32 × Mem) := if 36 ≤ x3 then (some (x2, μ)) else (if x1 = 3 then (grd (inb x3 36) (if (μ.1 129 x3.toNatClampNeg) = 1 then (grd (inb x3 36) (if (μ.1 128 x3.toNatClampNeg) = 0 then (f_X9_counted_89 x1 q8 x2 x3 1 μ) else (f_X9_counted_42 x1 q8 x2 x3 μ))) else (f_X9_counted_42 x1 q8 x2 x3 μ))) else (if x1 = 4 then (grd (inb x3 36) (if (μ.1 129 x3.toNatClampNeg) = 0 then (bnv (f_X9_over x3 μ) (fun r10 => if r10 = 0 then (f_X9_counted_89 x1 q8 x2 x3 1 μ) else (f_X9_counted_72 x1 q8 x2 x3 μ))) else (f_X9_counted_72 x1 q8 x2 x3 μ))) else (bnv (f_X9_over x3 μ) (fun r5 => if 0 ≤ r5 then (f_X9_counted_89 x1 q8 x2 x3 0 μ) else (f_X9_counted_89 x1 q8 x2 x3 1 μ)))))
def f_X9_counted_8 (x1 : Int32)  : Nat → Int32 → Int32 → Mem → Option (Int32 × Mem)
  | 0, _, _, _ => none
  | n + 1, x2, x3, μ => g_X9_counted_8 x1 (f_X9_counted_8 x1 n) x2 x3 μ
set_option maxRecDepth 100000 in
set_option maxHeartbeats 4000000 in
theorem w_X9_counted_8 {p : Program} {l : Launch} {e : Env} {s : State} {m : MethodId} {args : Array Value} {below : List Frame} {meth : Method} {c : Code} {G : Gp} {O : (Int32 × Mem)} (C : Cx p s m args meth c cX9_counted 5 RX9 (some .int) G) {x1 : Int32} {q8 : Int32 → Int32 → Mem → Option (Int32 × Mem)} (hq8 : ∀ (x2 : Int32) (x3 : Int32) (μ : Mem), q8 x2 x3 μ = some O → ∀ (H : Heap) (locs : List Loc) (ls : Array Slot), Wm G μ H → va_S (wA G) s.heap H locs → lv_has ls 5 [(0, .ref (G.2.2 122)), (1, .int x1), (2, .int x2), (3, .int x3)] → W p l e (rmm 1 25) s m args below meth c H locs 0 0 (QI below args s G O) (F0 m 8 ls [])) : ∀ (x2 : Int32) (x3 : Int32) (μ : Mem), g_X9_counted_8 x1 q8 x2 x3 μ = some O → ∀ (H : Heap) (locs : List Loc) (ls : Array Slot), Wm G μ H → va_S (wA G) s.heap H locs → lv_has ls 5 [(0, .ref (G.2.2 122)), (1, .int x1), (2, .int x2), (3, .int x3)] → W p l e (rmm 1 25) s m args below meth c H locs 0 0 (QI below args s G O) (F0 m 8 ls []) := by
  intro x2 x3 μ h H locs ls hP hS hl
  unfold g_X9_counted_8 at h
  refine lv_iload_n C.x C.b dX9_counted_8 rfl (lv_at hl 3 rfl) ?_
  refine lv_bipush (v := 36) C.x C.b dX9_counted_9 (by decide) ?_
  refine lv_icmp_ge (tgt := 118) C.x C.b dX9_counted_11 (by decide) (fun c1 => ?_) (fun c1 => ?_)
  · have h := (if_pos c1).symm.trans h
    refine lv_iload_n C.x C.b dX9_counted_118 rfl (lv_at hl 2 rfl) ?_
    exact r_i h C hP hS dX9_counted_119
  · have h := (if_neg c1).symm.trans h
    refine lv_iload_n C.x C.b dX9_counted_14 rfl (lv_at hl 1 rfl) ?_
    refine lv_iconst (v := 3) C.x C.b dX9_counted_15 (by decide) ?_
    refine lv_icmp_ne (tgt := 46) C.x C.b dX9_counted_16 (by decide) (fun c2 => ?_) (fun c2 => ?_)
    · have h := (if_neg c2).symm.trans h
      refine lv_iload_n C.x C.b dX9_counted_46 rfl (lv_at hl 1 rfl) ?_
      refine lv_iconst (v := 4) C.x C.b dX9_counted_47 (by decide) ?_
      refine lv_icmp_ne (tgt := 76) C.x C.b dX9_counted_48 (by decide) (fun c3 => ?_) (fun c3 => ?_)
      · have h := (if_neg c3).symm.trans h
        refine lv_aload_n C.x C.b dX9_counted_76 rfl (lv_at hl 0 rfl) ?_
        refine lv_iload_n C.x C.b dX9_counted_77 rfl (lv_at hl 3 rfl) ?_
        obtain ⟨r5, e4, h⟩ := bnv_some h
        refine k_vi (k := 122) (as := [.int x3]) (rest := []) (c_X9_over C.i e4) M_X9_over u5_221 C hP hS sh_122 rfl rfl (by decide) hl.1 rfl (Nat.le_of_ble_eq_true rfl) dX9_counted_78 (fun H locs hP hS => ?_)
        refine lv_if_ge (tgt := 88) C.x C.b dX9_counted_81 (by decide) (fun c6 => ?_) (fun c6 => ?_)
        · have h := (if_pos c6).symm.trans h
          refine lv_iconst (v := 0) C.x C.b dX9_counted_88 (by decide) ?_
          exact b_X9_counted_89 C hq8 x2 x3 0 μ h _ _ _ hP hS (lv_sub hl [0, 1, 2, 3] rfl)
        · have h := (if_neg c6).symm.trans h
          refine lv_iconst (v := 1) C.x C.b dX9_counted_84 (by decide) ?_
          refine lv_goto (tgt := 89) C.x C.b dX9_counted_85 (by decide) ?_
          exact b_X9_counted_89 C hq8 x2 x3 1 μ h _ _ _ hP hS (lv_sub hl [0, 1, 2, 3] rfl)
      · have h := (if_pos c3).symm.trans h
        refine lv_aload_n C.x C.b dX9_counted_51 rfl (lv_at hl 0 rfl) ?_
        refine g_ref (k' := 129) F_9_12 u4_141 C hP sh_122 rfl dX9_counted_52 ?_
        refine lv_iload_n C.x C.b dX9_counted_55 rfl (lv_at hl 3 rfl) ?_
        obtain ⟨g7, h⟩ := grd_some h
        refine a_i C hP sh_129 g7 dX9_counted_56 ?_
        refine lv_if_ne (tgt := 72) C.x C.b dX9_counted_57 (by decide) (fun c8 => ?_) (fun c8 => ?_)
        · have h := (if_neg c8).symm.trans h
          exact b_X9_counted_72 C hq8 x2 x3 μ h _ _ _ hP hS (lv_sub hl [0, 1, 2, 3] rfl)
        · have h := (if_pos c8).symm.trans h
          refine lv_aload_n C.x C.b dX9_counted_60 rfl (lv_at hl 0 rfl) ?_
          refine lv_iload_n C.x C.b dX9_counted_61 rfl (lv_at hl 3 rfl) ?_
          obtain ⟨r10, e9, h⟩ := bnv_some h
          refine k_vi (k := 122) (as := [.int x3]) (rest := []) (c_X9_over C.i e9) M_X9_over u5_221 C hP hS sh_122 rfl rfl (by decide) hl.1 rfl (Nat.le_of_ble_eq_true rfl) dX9_counted_62 (fun H locs hP hS => ?_)
          refine lv_if_ne (tgt := 72) C.x C.b dX9_counted_65 (by decide) (fun c11 => ?_) (fun c11 => ?_)
          · have h := (if_neg c11).symm.trans h
            exact b_X9_counted_72 C hq8 x2 x3 μ h _ _ _ hP hS (lv_sub hl [0, 1, 2, 3] rfl)
          · have h := (if_pos c11).symm.trans h
            refine lv_iconst (v := 1) C.x C.b dX9_counted_68 (by decide) ?_
            refine lv_goto (tgt := 89) C.x C.b dX9_counted_69 (by decide) ?_
            exact b_X9_counted_89 C hq8 x2 x3 1 μ h _ _ _ hP hS (lv_sub hl [0, 1, 2, 3] rfl)
    · have h := (if_pos c2).symm.trans h
      refine lv_aload_n C.x C.b dX9_counted_19 rfl (lv_at hl 0 rfl) ?_
      refine g_ref (k' := 129) F_9_12 u4_141 C hP sh_122 rfl dX9_counted_20 ?_
      refine lv_iload_n C.x C.b dX9_counted_23 rfl (lv_at hl 3 rfl) ?_
      obtain ⟨g12, h⟩ := grd_some h
      refine a_i C hP sh_129 g12 dX9_counted_24 ?_
      refine lv_iconst (v := 1) C.x C.b dX9_counted_25 (by decide) ?_
      refine lv_icmp_ne (tgt := 42) C.x C.b dX9_counted_26 (by decide) (fun c13 => ?_) (fun c13 => ?_)
      · have h := (if_neg c13).symm.trans h
        exact b_X9_counted_42 C hq8 x2 x3 μ h _ _ _ hP hS (lv_sub hl [0, 1, 2, 3] rfl)
      · have h := (if_pos c13).symm.trans h
        refine lv_aload_n C.x C.b dX9_counted_29 rfl (lv_at hl 0 rfl) ?_
        refine g_ref (k' := 128) F_9_11 u4_140 C hP sh_122 rfl dX9_counted_30 ?_
        refine lv_iload_n C.x C.b dX9_counted_33 rfl (lv_at hl 3 rfl) ?_
        obtain ⟨g14, h⟩ := grd_some h
        refine a_i C hP sh_128 g14 dX9_counted_34 ?_
        refine lv_if_ne (tgt := 42) C.x C.b dX9_counted_35 (by decide) (fun c15 => ?_) (fun c15 => ?_)
        · have h := (if_neg c15).symm.trans h
          exact b_X9_counted_42 C hq8 x2 x3 μ h _ _ _ hP hS (lv_sub hl [0, 1, 2, 3] rfl)
        · have h := (if_pos c15).symm.trans h
          refine lv_iconst (v := 1) C.x C.b dX9_counted_38 (by decide) ?_
          refine lv_goto (tgt := 89) C.x C.b dX9_counted_39 (by decide) ?_
          exact b_X9_counted_89 C hq8 x2 x3 1 μ h _ _ _ hP hS (lv_sub hl [0, 1, 2, 3] rfl)

set_option maxRecDepth 100000 in
set_option maxHeartbeats 4000000 in
theorem b_X9_counted_8 {p : Program} {l : Launch} {e : Env} {s : State} {m : MethodId} {args : Array Value} {below : List Frame} {meth : Method} {c : Code} {G : Gp} {O : (Int32 × Mem)} (C : Cx p s m args meth c cX9_counted 5 RX9 (some .int) G) {x1 : Int32} : ∀ (n : Nat) (x2 : Int32) (x3 : Int32) (μ : Mem), f_X9_counted_8 x1 n x2 x3 μ = some O → ∀ (H : Heap) (locs : List Loc) (ls : Array Slot), Wm G μ H → va_S (wA G) s.heap H locs → lv_has ls 5 [(0, .ref (G.2.2 122)), (1, .int x1), (2, .int x2), (3, .int x3)] → W p l e (rmm 1 25) s m args below meth c H locs 0 0 (QI below args s G O) (F0 m 8 ls []) := by
  intro n
  induction n with
  | zero => intro x2 x3 μ h; cases h
  | succ n ih => intro x2 x3 μ h; exact w_X9_counted_8 C (q8 := f_X9_counted_8 x1 n) ih x2 x3 μ h

def f_X9_counted (x1 : Int32) (μ : Mem) : Option (Int32 × Mem) := bnv (f_X9_values μ) (fun μ2 => f_X9_counted_8 x1 FU 0 0 μ2)
set_option maxRecDepth 100000 in
set_option maxHeartbeats 4000000 in
theorem b_X9_counted {p : Program} {l : Launch} {e : Env} {s : State} {m : MethodId} {args : Array Value} {below : List Frame} {meth : Method} {c : Code} {G : Gp} {O : (Int32 × Mem)} (C : Cx p s m args meth c cX9_counted 5 RX9 (some .int) G) {x1 : Int32} {μ : Mem} (h : f_X9_counted x1 μ = some O) : ∀ (H : Heap) (locs : List Loc) (ls : Array Slot), Wm G μ H → va_S (wA G) s.heap H locs → lv_has ls 5 [(0, .ref (G.2.2 122)), (1, .int x1)] → W p l e (rmm 1 25) s m args below meth c H locs 0 0 (QI below args s G O) (F0 m 0 ls []) := by
  unfold f_X9_counted at h
  intro H locs ls hP hS hl
  refine lv_aload_n C.x C.b dX9_counted_0 rfl (lv_at hl 0 rfl) ?_
  obtain ⟨μ2, e1, h⟩ := bnv_some h
  refine k_vv (k := 122) (as := []) (rest := []) (c_X9_values C.i e1) M_X9_values u5_213 C hP hS sh_122 rfl rfl (by decide) hl.1 rfl (Nat.le_of_ble_eq_true rfl) dX9_counted_1 (fun H locs hP hS => ?_)
  refine lv_iconst (v := 0) C.x C.b dX9_counted_4 (by decide) ?_
  refine lv_istore_n (lv' := [(2, .int 0), (0, .ref (G.2.2 122)), (1, .int x1)]) C.x C.b dX9_counted_5 rfl hl (by decide) rfl (fun ls hl => ?_)
  refine lv_iconst (v := 0) C.x C.b dX9_counted_6 (by decide) ?_
  refine lv_istore_n (lv' := [(3, .int 0), (2, .int 0), (0, .ref (G.2.2 122)), (1, .int x1)]) C.x C.b dX9_counted_7 rfl hl (by decide) rfl (fun ls hl => ?_)
  exact b_X9_counted_8 C FU 0 0 μ2 h _ _ _ hP hS (lv_sub hl [2, 3, 1, 0] rfl)

set_option maxRecDepth 100000 in
set_option maxHeartbeats 4000000 in
theorem c_X9_counted {l : Launch} {G : Gp} (hI : Wi G) {x1 : Int32} {μ : Mem} {r : Int32} {μ' : Mem} (h : f_X9_counted x1 μ = some (r, μ')) : CI l yX9_counted cX9_counted 5 (some .int) 1 25 G [.ref (G.2.2 122), .int x1] μ r μ' :=
  e_all (lv := [(0, .ref (G.2.2 122)), (1, .int x1)]) hI (by decide) (Nat.le_of_ble_eq_true rfl) rfl (fun p e s m args below meth c ls C hP hS hl => b_X9_counted C h _ _ _ hP hS hl)


def f_X9_isProved  (μ : Mem) : Option (Int32 × Mem) := bnd (f_X9_counted 5 μ) (fun r2 μ3 => if r2 = 0 then (some (1, μ3)) else (some (0, μ3)))
set_option maxRecDepth 100000 in
set_option maxHeartbeats 4000000 in
theorem b_X9_isProved {p : Program} {l : Launch} {e : Env} {s : State} {m : MethodId} {args : Array Value} {below : List Frame} {meth : Method} {c : Code} {G : Gp} {O : (Int32 × Mem)} (C : Cx p s m args meth c cX9_isProved 1 RX9 (some .boolean) G) {μ : Mem} (h : f_X9_isProved μ = some O) : ∀ (H : Heap) (locs : List Loc) (ls : Array Slot), Wm G μ H → va_S (wA G) s.heap H locs → lv_has ls 1 [(0, .ref (G.2.2 122))] → W p l e (rmm 2 49) s m args below meth c H locs 0 0 (QI below args s G O) (F0 m 0 ls []) := by
  unfold f_X9_isProved at h
  intro H locs ls hP hS hl
  refine lv_aload_n C.x C.b dX9_isProved_0 rfl (lv_at hl 0 rfl) ?_
  refine lv_iconst (v := 5) C.x C.b dX9_isProved_1 (by decide) ?_
  obtain ⟨r2, μ3, e1, h⟩ := bnd_some h
  refine k_vi (k := 122) (as := [.int 5]) (rest := []) (c_X9_counted C.i e1) M_X9_counted u6_38 C hP hS sh_122 rfl rfl (by decide) hl.1 rfl (Nat.le_of_ble_eq_true rfl) dX9_isProved_2 (fun H locs hP hS => ?_)
  refine lv_if_ne (tgt := 12) C.x C.b dX9_isProved_5 (by decide) (fun c4 => ?_) (fun c4 => ?_)
  · have h := (if_neg c4).symm.trans h
    refine lv_iconst (v := 0) C.x C.b dX9_isProved_12 (by decide) ?_
    exact r_z h (by decide) C hP hS dX9_isProved_13
  · have h := (if_pos c4).symm.trans h
    refine lv_iconst (v := 1) C.x C.b dX9_isProved_8 (by decide) ?_
    refine lv_goto (tgt := 13) C.x C.b dX9_isProved_9 (by decide) ?_
    exact r_z h (by decide) C hP hS dX9_isProved_13

set_option maxRecDepth 100000 in
set_option maxHeartbeats 4000000 in
theorem c_X9_isProved {l : Launch} {G : Gp} (hI : Wi G) {μ : Mem} {r : Int32} {μ' : Mem} (h : f_X9_isProved μ = some (r, μ')) : CI l yX9_isProved cX9_isProved 1 (some .boolean) 2 49 G [.ref (G.2.2 122)] μ r μ' :=
  e_all (lv := [(0, .ref (G.2.2 122))]) hI (by decide) (Nat.le_of_ble_eq_true rfl) rfl (fun p e s m args below meth c ls C hP hS hl => b_X9_isProved C h _ _ _ hP hS hl)


def f_X9_tie_14 (x1 : Int32) (x2 : Int32)  (z2 : Int32) (μ : Mem) : Option Mem := grd (inb x1 36) (grd (isB z2) (lt (st μ 144 x1.toNatClampNeg z2) (fun μ3 => grd (inb (x1 / 6) 12) (grd (inb (x1 / 6) 12) (lt (st μ3 146 (x1 / 6).toNatClampNeg ((μ3.1 146 (x1 / 6).toNatClampNeg) + x2)) (fun μ6 => grd (inb (6 + (rm32 x1 6)) 12) (grd (inb (6 + (rm32 x1 6)) 12) (lt (st μ6 146 (6 + (rm32 x1 6)).toNatClampNeg ((μ6.1 146 (6 + (rm32 x1 6)).toNatClampNeg) + x2)) (fun μ9 => some μ9)))))))))
set_option maxRecDepth 100000 in
set_option maxHeartbeats 4000000 in
theorem b_X9_tie_14 {p : Program} {l : Launch} {e : Env} {s : State} {m : MethodId} {args : Array Value} {below : List Frame} {meth : Method} {c : Code} {G : Gp} {O : Mem} (C : Cx p s m args meth c cX9_tie 3 RX9 none G) {x1 : Int32} {x2 : Int32} : ∀ (z2 : Int32) (μ : Mem), f_X9_tie_14 x1 x2 z2 μ = some O → ∀ (H : Heap) (locs : List Loc) (ls : Array Slot), Wm G μ H → va_S (wA G) s.heap H locs → lv_has ls 3 [(0, .ref (G.2.2 122)), (1, .int x1), (2, .int x2)] → W p l e (rmm 0 0) s m args below meth c H locs 0 0 (QV below args s G O) (F0 m 14 ls [.int z2, .int x1, .ref (G.2.2 144)]) := by
  intro z2 μ h H locs ls hP hS hl
  unfold f_X9_tie_14 at h
  obtain ⟨g1, h⟩ := grd_some h
  obtain ⟨g2, h⟩ := grd_some h
  refine as_z C hP hS sh_144 g1 g2 dX9_tie_14 (fun H locs hP hS => ?_)
  obtain ⟨μ3, m_μ3, h⟩ := lt_ex h
  have hP : Wm G μ3 H := by rw [m_μ3]; exact hP
  refine lv_aload_n C.x C.b dX9_tie_15 rfl (lv_at hl 0 rfl) ?_
  refine g_ref (k' := 146) F_9_43 u4_172 C hP sh_122 rfl dX9_tie_16 ?_
  refine lv_iload_n C.x C.b dX9_tie_19 rfl (lv_at hl 1 rfl) ?_
  refine lv_bipush (v := 6) C.x C.b dX9_tie_20 (by decide) ?_
  refine lv_idiv C.x C.b dX9_tie_22 (by decide) ?_
  refine lv_dup2_11 C.x C.b dX9_tie_23 rfl rfl ?_
  obtain ⟨g4, h⟩ := grd_some h
  refine a_i C hP sh_146 g4 dX9_tie_24 ?_
  refine lv_iload_n C.x C.b dX9_tie_25 rfl (lv_at hl 2 rfl) ?_
  refine lv_iadd C.x C.b dX9_tie_26 ?_
  obtain ⟨g5, h⟩ := grd_some h
  refine as_i C hP hS sh_146 g5 dX9_tie_27 (fun H locs hP hS => ?_)
  obtain ⟨μ6, m_μ6, h⟩ := lt_ex h
  have hP : Wm G μ6 H := by rw [m_μ6]; exact hP
  refine lv_aload_n C.x C.b dX9_tie_28 rfl (lv_at hl 0 rfl) ?_
  refine g_ref (k' := 146) F_9_43 u4_172 C hP sh_122 rfl dX9_tie_29 ?_
  refine lv_bipush (v := 6) C.x C.b dX9_tie_32 (by decide) ?_
  refine lv_iload_n C.x C.b dX9_tie_34 rfl (lv_at hl 1 rfl) ?_
  refine lv_bipush (v := 6) C.x C.b dX9_tie_35 (by decide) ?_
  refine lv_irem C.x C.b dX9_tie_37 (by decide) ?_
  refine lv_iadd C.x C.b dX9_tie_38 ?_
  refine lv_dup2_11 C.x C.b dX9_tie_39 rfl rfl ?_
  obtain ⟨g7, h⟩ := grd_some h
  refine a_i C hP sh_146 g7 dX9_tie_40 ?_
  refine lv_iload_n C.x C.b dX9_tie_41 rfl (lv_at hl 2 rfl) ?_
  refine lv_iadd C.x C.b dX9_tie_42 ?_
  obtain ⟨g8, h⟩ := grd_some h
  refine as_i C hP hS sh_146 g8 dX9_tie_43 (fun H locs hP hS => ?_)
  obtain ⟨μ9, m_μ9, h⟩ := lt_ex h
  have hP : Wm G μ9 H := by rw [m_μ9]; exact hP
  exact r_v h C hP hS dX9_tie_44

def f_X9_tie (x1 : Int32) (x2 : Int32) (μ : Mem) : Option Mem := if x2 ≤ 0 then (f_X9_tie_14 x1 x2 0 μ) else (f_X9_tie_14 x1 x2 1 μ)
set_option maxRecDepth 100000 in
set_option maxHeartbeats 4000000 in
theorem b_X9_tie {p : Program} {l : Launch} {e : Env} {s : State} {m : MethodId} {args : Array Value} {below : List Frame} {meth : Method} {c : Code} {G : Gp} {O : Mem} (C : Cx p s m args meth c cX9_tie 3 RX9 none G) {x1 : Int32} {x2 : Int32} {μ : Mem} (h : f_X9_tie x1 x2 μ = some O) : ∀ (H : Heap) (locs : List Loc) (ls : Array Slot), Wm G μ H → va_S (wA G) s.heap H locs → lv_has ls 3 [(0, .ref (G.2.2 122)), (1, .int x1), (2, .int x2)] → W p l e (rmm 0 0) s m args below meth c H locs 0 0 (QV below args s G O) (F0 m 0 ls []) := by
  unfold f_X9_tie at h
  intro H locs ls hP hS hl
  refine lv_aload_n C.x C.b dX9_tie_0 rfl (lv_at hl 0 rfl) ?_
  refine g_ref (k' := 144) F_9_39 u4_168 C hP sh_122 rfl dX9_tie_1 ?_
  refine lv_iload_n C.x C.b dX9_tie_4 rfl (lv_at hl 1 rfl) ?_
  refine lv_iload_n C.x C.b dX9_tie_5 rfl (lv_at hl 2 rfl) ?_
  refine lv_if_le (tgt := 13) C.x C.b dX9_tie_6 (by decide) (fun c1 => ?_) (fun c1 => ?_)
  · have h := (if_pos c1).symm.trans h
    refine lv_iconst (v := 0) C.x C.b dX9_tie_13 (by decide) ?_
    exact b_X9_tie_14 C 0 μ h _ _ _ hP hS (lv_sub hl [0, 1, 2] rfl)
  · have h := (if_neg c1).symm.trans h
    refine lv_iconst (v := 1) C.x C.b dX9_tie_9 (by decide) ?_
    refine lv_goto (tgt := 14) C.x C.b dX9_tie_10 (by decide) ?_
    exact b_X9_tie_14 C 1 μ h _ _ _ hP hS (lv_sub hl [0, 1, 2] rfl)

set_option maxRecDepth 100000 in
set_option maxHeartbeats 4000000 in
theorem c_X9_tie {l : Launch} {G : Gp} (hI : Wi G) {x1 : Int32} {x2 : Int32} {μ : Mem} {μ' : Mem} (h : f_X9_tie x1 x2 μ = some μ') : CV l yX9_tie cX9_tie 3 none 0 0 G [.ref (G.2.2 122), .int x1, .int x2] μ μ' :=
  e_all (lv := [(0, .ref (G.2.2 122)), (1, .int x1), (2, .int x2)]) hI (by decide) (Nat.le_of_ble_eq_true rfl) rfl (fun p e s m args below meth c ls C hP hS hl => b_X9_tie C h _ _ _ hP hS hl)


def g_X9_otherIn_2 (x1 : Int32) (x2 : Int32)  (μ : Mem) (q2 : Int32 → Option Int32) (x3 : Int32) : Option Int32 := if 36 ≤ x3 then (some x2) else (if x3 = x2 then (lt (x3 + 1) (fun y3 => q2 y3)) else (grd (inb x3 36) (if (μ.1 144 x3.toNatClampNeg) = 0 then (lt (x3 + 1) (fun y6 => q2 y6)) else (if (x3 / 6) = x1 then (some x3) else (if (6 + (rm32 x3 6)) = x1 then (some x3) else (lt (x3 + 1) (fun y9 => q2 y9)))))))
def f_X9_otherIn_2 (x1 : Int32) (x2 : Int32)  (μ : Mem) : Nat → Int32 → Option Int32
  | 0, _ => none
  | n + 1, x3 => g_X9_otherIn_2 x1 x2 μ (f_X9_otherIn_2 x1 x2 μ n) x3
set_option maxRecDepth 100000 in
set_option maxHeartbeats 4000000 in
theorem w_X9_otherIn_2 {p : Program} {l : Launch} {e : Env} {s : State} {m : MethodId} {args : Array Value} {below : List Frame} {meth : Method} {c : Code} {G : Gp} {O : Int32} (C : Cx p s m args meth c cX9_otherIn 4 RX9 (some .int) G) {x1 : Int32} {x2 : Int32} {μ : Mem} {q2 : Int32 → Option Int32} (hq2 : ∀ (x3 : Int32), q2 x3 = some O → ∀ (H : Heap) (locs : List Loc) (ls : Array Slot), Wm G μ H → va_S (wA G) s.heap H locs → lv_has ls 4 [(0, .ref (G.2.2 122)), (1, .int x1), (2, .int x2), (3, .int x3)] → W p l e (rmm 0 0) s m args below meth c H locs 0 0 (QI below args s G (O, μ)) (F0 m 2 ls [])) : ∀ (x3 : Int32), g_X9_otherIn_2 x1 x2 μ q2 x3 = some O → ∀ (H : Heap) (locs : List Loc) (ls : Array Slot), Wm G μ H → va_S (wA G) s.heap H locs → lv_has ls 4 [(0, .ref (G.2.2 122)), (1, .int x1), (2, .int x2), (3, .int x3)] → W p l e (rmm 0 0) s m args below meth c H locs 0 0 (QI below args s G (O, μ)) (F0 m 2 ls []) := by
  intro x3 h H locs ls hP hS hl
  unfold g_X9_otherIn_2 at h
  refine lv_iload_n C.x C.b dX9_otherIn_2 rfl (lv_at hl 3 rfl) ?_
  refine lv_bipush (v := 36) C.x C.b dX9_otherIn_3 (by decide) ?_
  refine lv_icmp_ge (tgt := 49) C.x C.b dX9_otherIn_5 (by decide) (fun c1 => ?_) (fun c1 => ?_)
  · have h := (if_pos c1).symm.trans h
    refine lv_iload_n C.x C.b dX9_otherIn_49 rfl (lv_at hl 2 rfl) ?_
    exact r_i (pr_some h) C hP hS dX9_otherIn_50
  · have h := (if_neg c1).symm.trans h
    refine lv_iload_n C.x C.b dX9_otherIn_8 rfl (lv_at hl 3 rfl) ?_
    refine lv_iload_n C.x C.b dX9_otherIn_9 rfl (lv_at hl 2 rfl) ?_
    refine lv_icmp_eq (tgt := 43) C.x C.b dX9_otherIn_10 (by decide) (fun c2 => ?_) (fun c2 => ?_)
    · have h := (if_pos c2).symm.trans h
      obtain ⟨y3, e_y3, h⟩ := lt_ex h
      refine lv_iinc (v := y3) (lv' := [(3, .int y3), (0, .ref (G.2.2 122)), (1, .int x1), (2, .int x2)]) C.x C.b dX9_otherIn_43 hl (k := 3) rfl (by rw [e_y3]; rfl) (by decide) rfl (fun ls hl => ?_)
      refine lv_goto (tgt := 2) C.x C.b dX9_otherIn_46 (by decide) ?_
      exact hq2 y3 h _ _ _ hP hS (lv_sub hl [1, 2, 3, 0] rfl)
    · have h := (if_neg c2).symm.trans h
      refine lv_aload_n C.x C.b dX9_otherIn_13 rfl (lv_at hl 0 rfl) ?_
      refine g_ref (k' := 144) F_9_39 u4_168 C hP sh_122 rfl dX9_otherIn_14 ?_
      refine lv_iload_n C.x C.b dX9_otherIn_17 rfl (lv_at hl 3 rfl) ?_
      obtain ⟨g4, h⟩ := grd_some h
      refine a_z C hP sh_144 g4 dX9_otherIn_18 ?_
      refine lv_if_eq (tgt := 43) C.x C.b dX9_otherIn_19 (by decide) (fun c5 => ?_) (fun c5 => ?_)
      · have h := (if_pos c5).symm.trans h
        obtain ⟨y6, e_y6, h⟩ := lt_ex h
        refine lv_iinc (v := y6) (lv' := [(3, .int y6), (0, .ref (G.2.2 122)), (1, .int x1), (2, .int x2)]) C.x C.b dX9_otherIn_43 hl (k := 3) rfl (by rw [e_y6]; rfl) (by decide) rfl (fun ls hl => ?_)
        refine lv_goto (tgt := 2) C.x C.b dX9_otherIn_46 (by decide) ?_
        exact hq2 y6 h _ _ _ hP hS (lv_sub hl [1, 2, 3, 0] rfl)
      · have h := (if_neg c5).symm.trans h
        refine lv_iload_n C.x C.b dX9_otherIn_22 rfl (lv_at hl 3 rfl) ?_
        refine lv_bipush (v := 6) C.x C.b dX9_otherIn_23 (by decide) ?_
        refine lv_idiv C.x C.b dX9_otherIn_25 (by decide) ?_
        refine lv_iload_n C.x C.b dX9_otherIn_26 rfl (lv_at hl 1 rfl) ?_
        refine lv_icmp_eq (tgt := 41) C.x C.b dX9_otherIn_27 (by decide) (fun c7 => ?_) (fun c7 => ?_)
        · have h := (if_pos c7).symm.trans h
          refine lv_iload_n C.x C.b dX9_otherIn_41 rfl (lv_at hl 3 rfl) ?_
          exact r_i (pr_some h) C hP hS dX9_otherIn_42
        · have h := (if_neg c7).symm.trans h
          refine lv_bipush (v := 6) C.x C.b dX9_otherIn_30 (by decide) ?_
          refine lv_iload_n C.x C.b dX9_otherIn_32 rfl (lv_at hl 3 rfl) ?_
          refine lv_bipush (v := 6) C.x C.b dX9_otherIn_33 (by decide) ?_
          refine lv_irem C.x C.b dX9_otherIn_35 (by decide) ?_
          refine lv_iadd C.x C.b dX9_otherIn_36 ?_
          refine lv_iload_n C.x C.b dX9_otherIn_37 rfl (lv_at hl 1 rfl) ?_
          refine lv_icmp_ne (tgt := 43) C.x C.b dX9_otherIn_38 (by decide) (fun c8 => ?_) (fun c8 => ?_)
          · have h := (if_neg c8).symm.trans h
            obtain ⟨y9, e_y9, h⟩ := lt_ex h
            refine lv_iinc (v := y9) (lv' := [(3, .int y9), (0, .ref (G.2.2 122)), (1, .int x1), (2, .int x2)]) C.x C.b dX9_otherIn_43 hl (k := 3) rfl (by rw [e_y9]; rfl) (by decide) rfl (fun ls hl => ?_)
            refine lv_goto (tgt := 2) C.x C.b dX9_otherIn_46 (by decide) ?_
            exact hq2 y9 h _ _ _ hP hS (lv_sub hl [1, 2, 3, 0] rfl)
          · have h := (if_pos c8).symm.trans h
            refine lv_iload_n C.x C.b dX9_otherIn_41 rfl (lv_at hl 3 rfl) ?_
            exact r_i (pr_some h) C hP hS dX9_otherIn_42

set_option maxRecDepth 100000 in
set_option maxHeartbeats 4000000 in
theorem b_X9_otherIn_2 {p : Program} {l : Launch} {e : Env} {s : State} {m : MethodId} {args : Array Value} {below : List Frame} {meth : Method} {c : Code} {G : Gp} {O : Int32} (C : Cx p s m args meth c cX9_otherIn 4 RX9 (some .int) G) {x1 : Int32} {x2 : Int32} {μ : Mem} : ∀ (n : Nat) (x3 : Int32), f_X9_otherIn_2 x1 x2 μ n x3 = some O → ∀ (H : Heap) (locs : List Loc) (ls : Array Slot), Wm G μ H → va_S (wA G) s.heap H locs → lv_has ls 4 [(0, .ref (G.2.2 122)), (1, .int x1), (2, .int x2), (3, .int x3)] → W p l e (rmm 0 0) s m args below meth c H locs 0 0 (QI below args s G (O, μ)) (F0 m 2 ls []) := by
  intro n
  induction n with
  | zero => intro x3 h; cases h
  | succ n ih => intro x3 h; exact w_X9_otherIn_2 C (q2 := f_X9_otherIn_2 x1 x2 μ n) ih x3 h

def f_X9_otherIn (x1 : Int32) (x2 : Int32) (μ : Mem) : Option Int32 := f_X9_otherIn_2 x1 x2 μ FU 0
set_option maxRecDepth 100000 in
set_option maxHeartbeats 4000000 in
theorem b_X9_otherIn {p : Program} {l : Launch} {e : Env} {s : State} {m : MethodId} {args : Array Value} {below : List Frame} {meth : Method} {c : Code} {G : Gp} {O : Int32} (C : Cx p s m args meth c cX9_otherIn 4 RX9 (some .int) G) {x1 : Int32} {x2 : Int32} {μ : Mem} (h : f_X9_otherIn x1 x2 μ = some O) : ∀ (H : Heap) (locs : List Loc) (ls : Array Slot), Wm G μ H → va_S (wA G) s.heap H locs → lv_has ls 4 [(0, .ref (G.2.2 122)), (1, .int x1), (2, .int x2)] → W p l e (rmm 0 0) s m args below meth c H locs 0 0 (QI below args s G (O, μ)) (F0 m 0 ls []) := by
  unfold f_X9_otherIn at h
  intro H locs ls hP hS hl
  refine lv_iconst (v := 0) C.x C.b dX9_otherIn_0 (by decide) ?_
  refine lv_istore_n (lv' := [(3, .int 0), (0, .ref (G.2.2 122)), (1, .int x1), (2, .int x2)]) C.x C.b dX9_otherIn_1 rfl hl (by decide) rfl (fun ls hl => ?_)
  exact b_X9_otherIn_2 C FU 0 h _ _ _ hP hS (lv_sub hl [1, 2, 3, 0] rfl)

set_option maxRecDepth 100000 in
set_option maxHeartbeats 4000000 in
theorem c_X9_otherIn {l : Launch} {G : Gp} (hI : Wi G) {x1 : Int32} {x2 : Int32} {μ : Mem} {r : Int32} (h : f_X9_otherIn x1 x2 μ = some r) : CI l yX9_otherIn cX9_otherIn 4 (some .int) 0 0 G [.ref (G.2.2 122), .int x1, .int x2] μ r μ :=
  e_all (lv := [(0, .ref (G.2.2 122)), (1, .int x1), (2, .int x2)]) hI (by decide) (Nat.le_of_ble_eq_true rfl) rfl (fun p e s m args below meth c ls C hP hS hl => b_X9_otherIn C h _ _ _ hP hS hl)


def f_X9_loops_117 (x1 : Int32) (q65 : Int32 → Mem → Option Mem) (q73 : Int32 → Int32 → Mem → Option Mem) (x3 : Int32) (μ : Mem) : Option Mem := bnv (f_X9_tie x3 ((-1)) μ) (fun μ2 => lt (x3 + 1) (fun y3 => q73 1 y3 μ2))
set_option maxRecDepth 100000 in
set_option maxHeartbeats 4000000 in
theorem b_X9_loops_117 {p : Program} {l : Launch} {e : Env} {s : State} {m : MethodId} {args : Array Value} {below : List Frame} {meth : Method} {c : Code} {G : Gp} {O : Mem} (C : Cx p s m args meth c cX9_loops 4 RX9 none G) {x1 : Int32} {q65 : Int32 → Mem → Option Mem} {q73 : Int32 → Int32 → Mem → Option Mem} (hq65 : ∀ (x2 : Int32) (μ : Mem), q65 x2 μ = some O → ∀ (H : Heap) (locs : List Loc) (ls : Array Slot), Wm G μ H → va_S (wA G) s.heap H locs → lv_has ls 4 [(0, .ref (G.2.2 122)), (1, .int x1), (2, .int x2)] → W p l e (rmm 1 23) s m args below meth c H locs 0 0 (QV below args s G O) (F0 m 65 ls [])) (hq73 : ∀ (x2 : Int32) (x3 : Int32) (μ : Mem), q73 x2 x3 μ = some O → ∀ (H : Heap) (locs : List Loc) (ls : Array Slot), Wm G μ H → va_S (wA G) s.heap H locs → lv_has ls 4 [(0, .ref (G.2.2 122)), (1, .int x1), (2, .int x2), (3, .int x3)] → W p l e (rmm 1 23) s m args below meth c H locs 0 0 (QV below args s G O) (F0 m 73 ls [])) : ∀ (x3 : Int32) (μ : Mem), f_X9_loops_117 x1 q65 q73 x3 μ = some O → ∀ (H : Heap) (locs : List Loc) (ls : Array Slot), Wm G μ H → va_S (wA G) s.heap H locs → lv_has ls 4 [(0, .ref (G.2.2 122)), (1, .int x1), (3, .int x3)] → W p l e (rmm 1 23) s m args below meth c H locs 0 0 (QV below args s G O) (F0 m 117 ls []) := by
  intro x3 μ h H locs ls hP hS hl
  unfold f_X9_loops_117 at h
  refine lv_aload_n C.x C.b dX9_loops_117 rfl (lv_at hl 0 rfl) ?_
  refine lv_iload_n C.x C.b dX9_loops_118 rfl (lv_at hl 2 rfl) ?_
  refine lv_iconst (v := (-1)) C.x C.b dX9_loops_119 (by decide) ?_
  obtain ⟨μ2, e1, h⟩ := bnv_some h
  refine k_vv (k := 122) (as := [.int x3, .int ((-1))]) (rest := []) (c_X9_tie C.i e1) M_X9_tie u5_229 C hP hS sh_122 rfl rfl (by decide) hl.1 rfl (Nat.le_of_ble_eq_true rfl) dX9_loops_120 (fun H locs hP hS => ?_)
  refine lv_iconst (v := 1) C.x C.b dX9_loops_123 (by decide) ?_
  refine lv_istore_n (lv' := [(2, .int 1), (0, .ref (G.2.2 122)), (1, .int x1), (3, .int x3)]) C.x C.b dX9_loops_124 rfl hl (by decide) rfl (fun ls hl => ?_)
  obtain ⟨y3, e_y3, h⟩ := lt_ex h
  refine lv_iinc (v := y3) (lv' := [(3, .int y3), (2, .int 1), (0, .ref (G.2.2 122)), (1, .int x1)]) C.x C.b dX9_loops_125 hl (k := 3) rfl (by rw [e_y3]; rfl) (by decide) rfl (fun ls hl => ?_)
  refine lv_goto (tgt := 73) C.x C.b dX9_loops_128 (by decide) ?_
  exact hq73 1 y3 μ2 h _ _ _ hP hS (lv_sub hl [2, 3, 1, 0] rfl)

def g_X9_loops_73 (x1 : Int32) (q65 : Int32 → Mem → Option Mem) (q73 : Int32 → Int32 → Mem → Option Mem) (x2 : Int32) (x3 : Int32) (μ : Mem) : Option Mem := if 36 ≤ x3 then (q65 x2 μ) else (grd (inb x3 36) (if (μ.1 144 x3.toNatClampNeg) = 0 then (lt (x3 + 1) (fun y4 => q73 x2 y4 μ)) else (grd (inb (x3 / 6) 12) (if (μ.1 146 (x3 / 6).toNatClampNeg) = 1 then (f_X9_loops_117 x1 q65 q73 x3 μ) else (grd (inb (6 + (rm32 x3 6)) 12) (if (μ.1 146 (6 + (rm32 x3 6)).toNatClampNeg) = 1 then (f_X9_loops_117 x1 q65 q73 x3 μ) else (lt (x3 + 1) (fun y9 => q73 x2 y9 μ))))))))
def f_X9_loops_73 (x1 : Int32) (q65 : Int32 → Mem → Option Mem) : Nat → Int32 → Int32 → Mem → Option Mem
  | 0, _, _, _ => none
  | n + 1, x2, x3, μ => g_X9_loops_73 x1 q65 (f_X9_loops_73 x1 q65 n) x2 x3 μ
set_option maxRecDepth 100000 in
set_option maxHeartbeats 4000000 in
theorem w_X9_loops_73 {p : Program} {l : Launch} {e : Env} {s : State} {m : MethodId} {args : Array Value} {below : List Frame} {meth : Method} {c : Code} {G : Gp} {O : Mem} (C : Cx p s m args meth c cX9_loops 4 RX9 none G) {x1 : Int32} {q65 : Int32 → Mem → Option Mem} (hq65 : ∀ (x2 : Int32) (μ : Mem), q65 x2 μ = some O → ∀ (H : Heap) (locs : List Loc) (ls : Array Slot), Wm G μ H → va_S (wA G) s.heap H locs → lv_has ls 4 [(0, .ref (G.2.2 122)), (1, .int x1), (2, .int x2)] → W p l e (rmm 1 23) s m args below meth c H locs 0 0 (QV below args s G O) (F0 m 65 ls [])) {q73 : Int32 → Int32 → Mem → Option Mem} (hq73 : ∀ (x2 : Int32) (x3 : Int32) (μ : Mem), q73 x2 x3 μ = some O → ∀ (H : Heap) (locs : List Loc) (ls : Array Slot), Wm G μ H → va_S (wA G) s.heap H locs → lv_has ls 4 [(0, .ref (G.2.2 122)), (1, .int x1), (2, .int x2), (3, .int x3)] → W p l e (rmm 1 23) s m args below meth c H locs 0 0 (QV below args s G O) (F0 m 73 ls [])) : ∀ (x2 : Int32) (x3 : Int32) (μ : Mem), g_X9_loops_73 x1 q65 q73 x2 x3 μ = some O → ∀ (H : Heap) (locs : List Loc) (ls : Array Slot), Wm G μ H → va_S (wA G) s.heap H locs → lv_has ls 4 [(0, .ref (G.2.2 122)), (1, .int x1), (2, .int x2), (3, .int x3)] → W p l e (rmm 1 23) s m args below meth c H locs 0 0 (QV below args s G O) (F0 m 73 ls []) := by
  intro x2 x3 μ h H locs ls hP hS hl
  unfold g_X9_loops_73 at h
  refine lv_iload_n C.x C.b dX9_loops_73 rfl (lv_at hl 3 rfl) ?_
  refine lv_bipush (v := 36) C.x C.b dX9_loops_74 (by decide) ?_
  refine lv_icmp_ge (tgt := 131) C.x C.b dX9_loops_76 (by decide) (fun c1 => ?_) (fun c1 => ?_)
  · have h := (if_pos c1).symm.trans h
    refine lv_goto (tgt := 65) C.x C.b dX9_loops_131 (by decide) ?_
    exact hq65 x2 μ h _ _ _ hP hS (lv_sub hl [0, 1, 2] rfl)
  · have h := (if_neg c1).symm.trans h
    refine lv_aload_n C.x C.b dX9_loops_79 rfl (lv_at hl 0 rfl) ?_
    refine g_ref (k' := 144) F_9_39 u4_168 C hP sh_122 rfl dX9_loops_80 ?_
    refine lv_iload_n C.x C.b dX9_loops_83 rfl (lv_at hl 3 rfl) ?_
    obtain ⟨g2, h⟩ := grd_some h
    refine a_z C hP sh_144 g2 dX9_loops_84 ?_
    refine lv_if_eq (tgt := 125) C.x C.b dX9_loops_85 (by decide) (fun c3 => ?_) (fun c3 => ?_)
    · have h := (if_pos c3).symm.trans h
      obtain ⟨y4, e_y4, h⟩ := lt_ex h
      refine lv_iinc (v := y4) (lv' := [(3, .int y4), (0, .ref (G.2.2 122)), (1, .int x1), (2, .int x2)]) C.x C.b dX9_loops_125 hl (k := 3) rfl (by rw [e_y4]; rfl) (by decide) rfl (fun ls hl => ?_)
      refine lv_goto (tgt := 73) C.x C.b dX9_loops_128 (by decide) ?_
      exact hq73 x2 y4 μ h _ _ _ hP hS (lv_sub hl [1, 2, 3, 0] rfl)
    · have h := (if_neg c3).symm.trans h
      refine lv_aload_n C.x C.b dX9_loops_88 rfl (lv_at hl 0 rfl) ?_
      refine g_ref (k' := 146) F_9_43 u4_172 C hP sh_122 rfl dX9_loops_89 ?_
      refine lv_iload_n C.x C.b dX9_loops_92 rfl (lv_at hl 3 rfl) ?_
      refine lv_bipush (v := 6) C.x C.b dX9_loops_93 (by decide) ?_
      refine lv_idiv C.x C.b dX9_loops_95 (by decide) ?_
      obtain ⟨g5, h⟩ := grd_some h
      refine a_i C hP sh_146 g5 dX9_loops_96 ?_
      refine lv_iconst (v := 1) C.x C.b dX9_loops_97 (by decide) ?_
      refine lv_icmp_eq (tgt := 117) C.x C.b dX9_loops_98 (by decide) (fun c6 => ?_) (fun c6 => ?_)
      · have h := (if_pos c6).symm.trans h
        exact b_X9_loops_117 C hq65 hq73 x3 μ h _ _ _ hP hS (lv_sub hl [0, 1, 3] rfl)
      · have h := (if_neg c6).symm.trans h
        refine lv_aload_n C.x C.b dX9_loops_101 rfl (lv_at hl 0 rfl) ?_
        refine g_ref (k' := 146) F_9_43 u4_172 C hP sh_122 rfl dX9_loops_102 ?_
        refine lv_bipush (v := 6) C.x C.b dX9_loops_105 (by decide) ?_
        refine lv_iload_n C.x C.b dX9_loops_107 rfl (lv_at hl 3 rfl) ?_
        refine lv_bipush (v := 6) C.x C.b dX9_loops_108 (by decide) ?_
        refine lv_irem C.x C.b dX9_loops_110 (by decide) ?_
        refine lv_iadd C.x C.b dX9_loops_111 ?_
        obtain ⟨g7, h⟩ := grd_some h
        refine a_i C hP sh_146 g7 dX9_loops_112 ?_
        refine lv_iconst (v := 1) C.x C.b dX9_loops_113 (by decide) ?_
        refine lv_icmp_ne (tgt := 125) C.x C.b dX9_loops_114 (by decide) (fun c8 => ?_) (fun c8 => ?_)
        · have h := (if_neg c8).symm.trans h
          obtain ⟨y9, e_y9, h⟩ := lt_ex h
          refine lv_iinc (v := y9) (lv' := [(3, .int y9), (0, .ref (G.2.2 122)), (1, .int x1), (2, .int x2)]) C.x C.b dX9_loops_125 hl (k := 3) rfl (by rw [e_y9]; rfl) (by decide) rfl (fun ls hl => ?_)
          refine lv_goto (tgt := 73) C.x C.b dX9_loops_128 (by decide) ?_
          exact hq73 x2 y9 μ h _ _ _ hP hS (lv_sub hl [1, 2, 3, 0] rfl)
        · have h := (if_pos c8).symm.trans h
          exact b_X9_loops_117 C hq65 hq73 x3 μ h _ _ _ hP hS (lv_sub hl [0, 1, 3] rfl)

set_option maxRecDepth 100000 in
set_option maxHeartbeats 4000000 in
theorem b_X9_loops_73 {p : Program} {l : Launch} {e : Env} {s : State} {m : MethodId} {args : Array Value} {below : List Frame} {meth : Method} {c : Code} {G : Gp} {O : Mem} (C : Cx p s m args meth c cX9_loops 4 RX9 none G) {x1 : Int32} {q65 : Int32 → Mem → Option Mem} (hq65 : ∀ (x2 : Int32) (μ : Mem), q65 x2 μ = some O → ∀ (H : Heap) (locs : List Loc) (ls : Array Slot), Wm G μ H → va_S (wA G) s.heap H locs → lv_has ls 4 [(0, .ref (G.2.2 122)), (1, .int x1), (2, .int x2)] → W p l e (rmm 1 23) s m args below meth c H locs 0 0 (QV below args s G O) (F0 m 65 ls [])) : ∀ (n : Nat) (x2 : Int32) (x3 : Int32) (μ : Mem), f_X9_loops_73 x1 q65 n x2 x3 μ = some O → ∀ (H : Heap) (locs : List Loc) (ls : Array Slot), Wm G μ H → va_S (wA G) s.heap H locs → lv_has ls 4 [(0, .ref (G.2.2 122)), (1, .int x1), (2, .int x2), (3, .int x3)] → W p l e (rmm 1 23) s m args below meth c H locs 0 0 (QV below args s G O) (F0 m 73 ls []) := by
  intro n
  induction n with
  | zero => intro x2 x3 μ h; cases h
  | succ n ih => intro x2 x3 μ h; exact w_X9_loops_73 C hq65 (q73 := f_X9_loops_73 x1 q65 n) ih x2 x3 μ h

def f_X9_loops_228 (x1 : Int32) (q148 : Int32 → Mem → Option Mem) (x3 : Int32) (z1 : Int32) (μ : Mem) : Option Mem := bnv (f_X9_otherIn z1 x3 μ) (fun r2 => lt (st μ 122 41 ((μ.1 122 41) + 1)) (fun μ3 => q148 r2 μ3))
set_option maxRecDepth 100000 in
set_option maxHeartbeats 4000000 in
theorem b_X9_loops_228 {p : Program} {l : Launch} {e : Env} {s : State} {m : MethodId} {args : Array Value} {below : List Frame} {meth : Method} {c : Code} {G : Gp} {O : Mem} (C : Cx p s m args meth c cX9_loops 4 RX9 none G) {x1 : Int32} {q148 : Int32 → Mem → Option Mem} (hq148 : ∀ (x3 : Int32) (μ : Mem), q148 x3 μ = some O → ∀ (H : Heap) (locs : List Loc) (ls : Array Slot), Wm G μ H → va_S (wA G) s.heap H locs → lv_has ls 4 [(0, .ref (G.2.2 122)), (1, .int x1), (3, .int x3)] → W p l e (rmm 1 23) s m args below meth c H locs 0 0 (QV below args s G O) (F0 m 148 ls [])) : ∀ (x3 : Int32) (z1 : Int32) (μ : Mem), f_X9_loops_228 x1 q148 x3 z1 μ = some O → ∀ (H : Heap) (locs : List Loc) (ls : Array Slot), Wm G μ H → va_S (wA G) s.heap H locs → lv_has ls 4 [(0, .ref (G.2.2 122)), (1, .int x1), (3, .int x3)] → W p l e (rmm 1 23) s m args below meth c H locs 0 0 (QV below args s G O) (F0 m 228 ls [.int z1, .ref (G.2.2 122)]) := by
  intro x3 z1 μ h H locs ls hP hS hl
  unfold f_X9_loops_228 at h
  refine lv_iload_n C.x C.b dX9_loops_228 rfl (lv_at hl 2 rfl) ?_
  obtain ⟨r2, e1, h⟩ := bnv_some h
  refine k_vi (k := 122) (as := [.int z1, .int x3]) (rest := []) (c_X9_otherIn C.i e1) M_X9_otherIn u5_234 C hP hS sh_122 rfl rfl (by decide) hl.1 rfl (Nat.le_of_ble_eq_true rfl) dX9_loops_229 (fun H locs hP hS => ?_)
  refine lv_istore_n (lv' := [(3, .int r2), (0, .ref (G.2.2 122)), (1, .int x1)]) C.x C.b dX9_loops_232 rfl hl (by decide) rfl (fun ls hl => ?_)
  refine lv_aload_n C.x C.b dX9_loops_233 rfl (lv_at hl 1 rfl) ?_
  refine lv_dup C.x C.b dX9_loops_234 rfl ?_
  refine g_int F_9_41 u4_170 C hP sh_122 dX9_loops_235 ?_
  refine lv_iconst (v := 1) C.x C.b dX9_loops_238 (by decide) ?_
  refine lv_iadd C.x C.b dX9_loops_239 ?_
  refine p_int F_9_41 P_9_41 u4_170 C hP hS sh_122 dX9_loops_240 (fun H locs hP hS => ?_)
  obtain ⟨μ3, m_μ3, h⟩ := lt_ex h
  have hP : Wm G μ3 H := by rw [m_μ3]; exact hP
  refine lv_goto (tgt := 148) C.x C.b dX9_loops_243 (by decide) ?_
  exact hq148 r2 μ3 h _ _ _ hP hS (lv_sub hl [1, 2, 0] rfl)

def f_X9_loops_201 (x1 : Int32) (q148 : Int32 → Mem → Option Mem) (x3 : Int32) (z1 : Int32) (μ : Mem) : Option Mem := lt (st μ 122 42 z1) (fun μ1 => if (rm32 (μ1.1 122 41) 2) = 0 then (f_X9_loops_228 x1 q148 x3 (6 + (rm32 x3 6)) μ1) else (f_X9_loops_228 x1 q148 x3 (x3 / 6) μ1))
set_option maxRecDepth 100000 in
set_option maxHeartbeats 4000000 in
theorem b_X9_loops_201 {p : Program} {l : Launch} {e : Env} {s : State} {m : MethodId} {args : Array Value} {below : List Frame} {meth : Method} {c : Code} {G : Gp} {O : Mem} (C : Cx p s m args meth c cX9_loops 4 RX9 none G) {x1 : Int32} {q148 : Int32 → Mem → Option Mem} (hq148 : ∀ (x3 : Int32) (μ : Mem), q148 x3 μ = some O → ∀ (H : Heap) (locs : List Loc) (ls : Array Slot), Wm G μ H → va_S (wA G) s.heap H locs → lv_has ls 4 [(0, .ref (G.2.2 122)), (1, .int x1), (3, .int x3)] → W p l e (rmm 1 23) s m args below meth c H locs 0 0 (QV below args s G O) (F0 m 148 ls [])) : ∀ (x3 : Int32) (z1 : Int32) (μ : Mem), f_X9_loops_201 x1 q148 x3 z1 μ = some O → ∀ (H : Heap) (locs : List Loc) (ls : Array Slot), Wm G μ H → va_S (wA G) s.heap H locs → lv_has ls 4 [(0, .ref (G.2.2 122)), (1, .int x1), (3, .int x3)] → W p l e (rmm 1 23) s m args below meth c H locs 0 0 (QV below args s G O) (F0 m 201 ls [.int z1, .ref (G.2.2 122)]) := by
  intro x3 z1 μ h H locs ls hP hS hl
  unfold f_X9_loops_201 at h
  refine p_int F_9_42 P_9_42 u4_171 C hP hS sh_122 dX9_loops_201 (fun H locs hP hS => ?_)
  obtain ⟨μ1, m_μ1, h⟩ := lt_ex h
  have hP : Wm G μ1 H := by rw [m_μ1]; exact hP
  refine lv_aload_n C.x C.b dX9_loops_204 rfl (lv_at hl 0 rfl) ?_
  refine lv_aload_n C.x C.b dX9_loops_205 rfl (lv_at hl 0 rfl) ?_
  refine g_int F_9_41 u4_170 C hP sh_122 dX9_loops_206 ?_
  refine lv_iconst (v := 2) C.x C.b dX9_loops_209 (by decide) ?_
  refine lv_irem C.x C.b dX9_loops_210 (by decide) ?_
  refine lv_if_ne (tgt := 224) C.x C.b dX9_loops_211 (by decide) (fun c2 => ?_) (fun c2 => ?_)
  · have h := (if_neg c2).symm.trans h
    refine lv_iload_n C.x C.b dX9_loops_224 rfl (lv_at hl 2 rfl) ?_
    refine lv_bipush (v := 6) C.x C.b dX9_loops_225 (by decide) ?_
    refine lv_idiv C.x C.b dX9_loops_227 (by decide) ?_
    exact b_X9_loops_228 C hq148 x3 (x3 / 6) μ1 h _ _ _ hP hS (lv_sub hl [0, 1, 2] rfl)
  · have h := (if_pos c2).symm.trans h
    refine lv_bipush (v := 6) C.x C.b dX9_loops_214 (by decide) ?_
    refine lv_iload_n C.x C.b dX9_loops_216 rfl (lv_at hl 2 rfl) ?_
    refine lv_bipush (v := 6) C.x C.b dX9_loops_217 (by decide) ?_
    refine lv_irem C.x C.b dX9_loops_219 (by decide) ?_
    refine lv_iadd C.x C.b dX9_loops_220 ?_
    refine lv_goto (tgt := 228) C.x C.b dX9_loops_221 (by decide) ?_
    exact b_X9_loops_228 C hq148 x3 (6 + (rm32 x3 6)) μ1 h _ _ _ hP hS (lv_sub hl [0, 1, 2] rfl)

def f_X9_loops_160 (x1 : Int32) (q148 : Int32 → Mem → Option Mem) (x3 : Int32) (μ : Mem) : Option Mem := grd (inb (μ.1 122 41) 12) (lt (st μ 145 (μ.1 122 41).toNatClampNeg x3) (fun μ2 => if (rm32 (μ2.1 122 41) 2) = 1 then (grd (inb x3 36) (f_X9_loops_201 x1 q148 x3 (mn (μ2.1 122 42) (μ2.1 128 x3.toNatClampNeg)) μ2)) else (f_X9_loops_201 x1 q148 x3 (μ2.1 122 42) μ2)))
set_option maxRecDepth 100000 in
set_option maxHeartbeats 4000000 in
theorem b_X9_loops_160 {p : Program} {l : Launch} {e : Env} {s : State} {m : MethodId} {args : Array Value} {below : List Frame} {meth : Method} {c : Code} {G : Gp} {O : Mem} (C : Cx p s m args meth c cX9_loops 4 RX9 none G) {x1 : Int32} {q148 : Int32 → Mem → Option Mem} (hq148 : ∀ (x3 : Int32) (μ : Mem), q148 x3 μ = some O → ∀ (H : Heap) (locs : List Loc) (ls : Array Slot), Wm G μ H → va_S (wA G) s.heap H locs → lv_has ls 4 [(0, .ref (G.2.2 122)), (1, .int x1), (3, .int x3)] → W p l e (rmm 1 23) s m args below meth c H locs 0 0 (QV below args s G O) (F0 m 148 ls [])) : ∀ (x3 : Int32) (μ : Mem), f_X9_loops_160 x1 q148 x3 μ = some O → ∀ (H : Heap) (locs : List Loc) (ls : Array Slot), Wm G μ H → va_S (wA G) s.heap H locs → lv_has ls 4 [(0, .ref (G.2.2 122)), (1, .int x1), (3, .int x3)] → W p l e (rmm 1 23) s m args below meth c H locs 0 0 (QV below args s G O) (F0 m 160 ls []) := by
  intro x3 μ h H locs ls hP hS hl
  unfold f_X9_loops_160 at h
  refine lv_aload_n C.x C.b dX9_loops_160 rfl (lv_at hl 0 rfl) ?_
  refine g_ref (k' := 145) F_9_40 u4_169 C hP sh_122 rfl dX9_loops_161 ?_
  refine lv_aload_n C.x C.b dX9_loops_164 rfl (lv_at hl 0 rfl) ?_
  refine g_int F_9_41 u4_170 C hP sh_122 dX9_loops_165 ?_
  refine lv_iload_n C.x C.b dX9_loops_168 rfl (lv_at hl 2 rfl) ?_
  obtain ⟨g1, h⟩ := grd_some h
  refine as_i C hP hS sh_145 g1 dX9_loops_169 (fun H locs hP hS => ?_)
  obtain ⟨μ2, m_μ2, h⟩ := lt_ex h
  have hP : Wm G μ2 H := by rw [m_μ2]; exact hP
  refine lv_aload_n C.x C.b dX9_loops_170 rfl (lv_at hl 0 rfl) ?_
  refine lv_aload_n C.x C.b dX9_loops_171 rfl (lv_at hl 0 rfl) ?_
  refine g_int F_9_41 u4_170 C hP sh_122 dX9_loops_172 ?_
  refine lv_iconst (v := 2) C.x C.b dX9_loops_175 (by decide) ?_
  refine lv_irem C.x C.b dX9_loops_176 (by decide) ?_
  refine lv_iconst (v := 1) C.x C.b dX9_loops_177 (by decide) ?_
  refine lv_icmp_ne (tgt := 197) C.x C.b dX9_loops_178 (by decide) (fun c3 => ?_) (fun c3 => ?_)
  · have h := (if_neg c3).symm.trans h
    refine lv_aload_n C.x C.b dX9_loops_197 rfl (lv_at hl 0 rfl) ?_
    refine g_int F_9_42 u4_171 C hP sh_122 dX9_loops_198 ?_
    exact b_X9_loops_201 C hq148 x3 (μ2.1 122 42) μ2 h _ _ _ hP hS (lv_sub hl [0, 1, 2] rfl)
  · have h := (if_pos c3).symm.trans h
    refine lv_aload_n C.x C.b dX9_loops_181 rfl (lv_at hl 0 rfl) ?_
    refine g_int F_9_42 u4_171 C hP sh_122 dX9_loops_182 ?_
    refine lv_aload_n C.x C.b dX9_loops_185 rfl (lv_at hl 0 rfl) ?_
    refine g_ref (k' := 128) F_9_11 u4_140 C hP sh_122 rfl dX9_loops_186 ?_
    refine lv_iload_n C.x C.b dX9_loops_189 rfl (lv_at hl 2 rfl) ?_
    obtain ⟨g4, h⟩ := grd_some h
    refine a_i C hP sh_128 g4 dX9_loops_190 ?_
    refine k_min u5_191 C hl.1 ⟨by decide, Nat.le_of_ble_eq_true rfl⟩ dX9_loops_191 ?_
    refine lv_goto (tgt := 201) C.x C.b dX9_loops_194 (by decide) ?_
    exact b_X9_loops_201 C hq148 x3 (mn (μ2.1 122 42) (μ2.1 128 x3.toNatClampNeg)) μ2 h _ _ _ hP hS (lv_sub hl [0, 1, 2] rfl)

def g_X9_loops_148 (x1 : Int32)  (q148 : Int32 → Mem → Option Mem) (x3 : Int32) (μ : Mem) : Option Mem := if (μ.1 122 41) = 0 then (f_X9_loops_160 x1 q148 x3 μ) else (if x3 = x1 then (some μ) else (f_X9_loops_160 x1 q148 x3 μ))
def f_X9_loops_148 (x1 : Int32)  : Nat → Int32 → Mem → Option Mem
  | 0, _, _ => none
  | n + 1, x3, μ => g_X9_loops_148 x1 (f_X9_loops_148 x1 n) x3 μ
set_option maxRecDepth 100000 in
set_option maxHeartbeats 4000000 in
theorem w_X9_loops_148 {p : Program} {l : Launch} {e : Env} {s : State} {m : MethodId} {args : Array Value} {below : List Frame} {meth : Method} {c : Code} {G : Gp} {O : Mem} (C : Cx p s m args meth c cX9_loops 4 RX9 none G) {x1 : Int32} {q148 : Int32 → Mem → Option Mem} (hq148 : ∀ (x3 : Int32) (μ : Mem), q148 x3 μ = some O → ∀ (H : Heap) (locs : List Loc) (ls : Array Slot), Wm G μ H → va_S (wA G) s.heap H locs → lv_has ls 4 [(0, .ref (G.2.2 122)), (1, .int x1), (3, .int x3)] → W p l e (rmm 1 23) s m args below meth c H locs 0 0 (QV below args s G O) (F0 m 148 ls [])) : ∀ (x3 : Int32) (μ : Mem), g_X9_loops_148 x1 q148 x3 μ = some O → ∀ (H : Heap) (locs : List Loc) (ls : Array Slot), Wm G μ H → va_S (wA G) s.heap H locs → lv_has ls 4 [(0, .ref (G.2.2 122)), (1, .int x1), (3, .int x3)] → W p l e (rmm 1 23) s m args below meth c H locs 0 0 (QV below args s G O) (F0 m 148 ls []) := by
  intro x3 μ h H locs ls hP hS hl
  unfold g_X9_loops_148 at h
  refine lv_aload_n C.x C.b dX9_loops_148 rfl (lv_at hl 0 rfl) ?_
  refine g_int F_9_41 u4_170 C hP sh_122 dX9_loops_149 ?_
  refine lv_if_eq (tgt := 160) C.x C.b dX9_loops_152 (by decide) (fun c1 => ?_) (fun c1 => ?_)
  · have h := (if_pos c1).symm.trans h
    exact b_X9_loops_160 C hq148 x3 μ h _ _ _ hP hS (lv_sub hl [0, 1, 2] rfl)
  · have h := (if_neg c1).symm.trans h
    refine lv_iload_n C.x C.b dX9_loops_155 rfl (lv_at hl 2 rfl) ?_
    refine lv_iload_n C.x C.b dX9_loops_156 rfl (lv_at hl 1 rfl) ?_
    refine lv_icmp_eq (tgt := 246) C.x C.b dX9_loops_157 (by decide) (fun c2 => ?_) (fun c2 => ?_)
    · have h := (if_pos c2).symm.trans h
      exact r_v h C hP hS dX9_loops_246
    · have h := (if_neg c2).symm.trans h
      exact b_X9_loops_160 C hq148 x3 μ h _ _ _ hP hS (lv_sub hl [0, 1, 2] rfl)

set_option maxRecDepth 100000 in
set_option maxHeartbeats 4000000 in
theorem b_X9_loops_148 {p : Program} {l : Launch} {e : Env} {s : State} {m : MethodId} {args : Array Value} {below : List Frame} {meth : Method} {c : Code} {G : Gp} {O : Mem} (C : Cx p s m args meth c cX9_loops 4 RX9 none G) {x1 : Int32} : ∀ (n : Nat) (x3 : Int32) (μ : Mem), f_X9_loops_148 x1 n x3 μ = some O → ∀ (H : Heap) (locs : List Loc) (ls : Array Slot), Wm G μ H → va_S (wA G) s.heap H locs → lv_has ls 4 [(0, .ref (G.2.2 122)), (1, .int x1), (3, .int x3)] → W p l e (rmm 1 23) s m args below meth c H locs 0 0 (QV below args s G O) (F0 m 148 ls []) := by
  intro n
  induction n with
  | zero => intro x3 μ h; cases h
  | succ n ih => intro x3 μ h; exact w_X9_loops_148 C (q148 := f_X9_loops_148 x1 n) ih x3 μ h

def g_X9_loops_65 (x1 : Int32)  (q65 : Int32 → Mem → Option Mem) (x2 : Int32) (μ : Mem) : Option Mem := if x2 = 0 then (lt (st μ 122 41 0) (fun μ2 => lt (st μ2 122 42 2147483647) (fun μ3 => f_X9_loops_148 x1 FU x1 μ3))) else (f_X9_loops_73 x1 q65 FU 0 0 μ)
def f_X9_loops_65 (x1 : Int32)  : Nat → Int32 → Mem → Option Mem
  | 0, _, _ => none
  | n + 1, x2, μ => g_X9_loops_65 x1 (f_X9_loops_65 x1 n) x2 μ
set_option maxRecDepth 100000 in
set_option maxHeartbeats 4000000 in
theorem w_X9_loops_65 {p : Program} {l : Launch} {e : Env} {s : State} {m : MethodId} {args : Array Value} {below : List Frame} {meth : Method} {c : Code} {G : Gp} {O : Mem} (C : Cx p s m args meth c cX9_loops 4 RX9 none G) {x1 : Int32} {q65 : Int32 → Mem → Option Mem} (hq65 : ∀ (x2 : Int32) (μ : Mem), q65 x2 μ = some O → ∀ (H : Heap) (locs : List Loc) (ls : Array Slot), Wm G μ H → va_S (wA G) s.heap H locs → lv_has ls 4 [(0, .ref (G.2.2 122)), (1, .int x1), (2, .int x2)] → W p l e (rmm 1 23) s m args below meth c H locs 0 0 (QV below args s G O) (F0 m 65 ls [])) : ∀ (x2 : Int32) (μ : Mem), g_X9_loops_65 x1 q65 x2 μ = some O → ∀ (H : Heap) (locs : List Loc) (ls : Array Slot), Wm G μ H → va_S (wA G) s.heap H locs → lv_has ls 4 [(0, .ref (G.2.2 122)), (1, .int x1), (2, .int x2)] → W p l e (rmm 1 23) s m args below meth c H locs 0 0 (QV below args s G O) (F0 m 65 ls []) := by
  intro x2 μ h H locs ls hP hS hl
  unfold g_X9_loops_65 at h
  refine lv_iload_n C.x C.b dX9_loops_65 rfl (lv_at hl 2 rfl) ?_
  refine lv_if_eq (tgt := 134) C.x C.b dX9_loops_66 (by decide) (fun c1 => ?_) (fun c1 => ?_)
  · have h := (if_pos c1).symm.trans h
    refine lv_aload_n C.x C.b dX9_loops_134 rfl (lv_at hl 0 rfl) ?_
    refine lv_iconst (v := 0) C.x C.b dX9_loops_135 (by decide) ?_
    refine p_int F_9_41 P_9_41 u4_170 C hP hS sh_122 dX9_loops_136 (fun H locs hP hS => ?_)
    obtain ⟨μ2, m_μ2, h⟩ := lt_ex h
    have hP : Wm G μ2 H := by rw [m_μ2]; exact hP
    refine lv_aload_n C.x C.b dX9_loops_139 rfl (lv_at hl 0 rfl) ?_
    refine lv_ldcw (own := RX9) (v := 2147483647) C.x C.b C.o (C.t _ u5_233) dX9_loops_140 ?_
    refine p_int F_9_42 P_9_42 u4_171 C hP hS sh_122 dX9_loops_143 (fun H locs hP hS => ?_)
    obtain ⟨μ3, m_μ3, h⟩ := lt_ex h
    have hP : Wm G μ3 H := by rw [m_μ3]; exact hP
    refine lv_iload_n C.x C.b dX9_loops_146 rfl (lv_at hl 1 rfl) ?_
    refine lv_istore_n (lv' := [(3, .int x1), (0, .ref (G.2.2 122)), (1, .int x1), (2, .int x2)]) C.x C.b dX9_loops_147 rfl hl (by decide) rfl (fun ls hl => ?_)
    exact b_X9_loops_148 C FU x1 μ3 h _ _ _ hP hS (lv_sub hl [1, 2, 0] rfl)
  · have h := (if_neg c1).symm.trans h
    refine lv_iconst (v := 0) C.x C.b dX9_loops_69 (by decide) ?_
    refine lv_istore_n (lv' := [(2, .int 0), (0, .ref (G.2.2 122)), (1, .int x1)]) C.x C.b dX9_loops_70 rfl hl (by decide) rfl (fun ls hl => ?_)
    refine lv_iconst (v := 0) C.x C.b dX9_loops_71 (by decide) ?_
    refine lv_istore_n (lv' := [(3, .int 0), (2, .int 0), (0, .ref (G.2.2 122)), (1, .int x1)]) C.x C.b dX9_loops_72 rfl hl (by decide) rfl (fun ls hl => ?_)
    exact b_X9_loops_73 C hq65 FU 0 0 μ h _ _ _ hP hS (lv_sub hl [2, 3, 1, 0] rfl)

set_option maxRecDepth 100000 in
set_option maxHeartbeats 4000000 in
theorem b_X9_loops_65 {p : Program} {l : Launch} {e : Env} {s : State} {m : MethodId} {args : Array Value} {below : List Frame} {meth : Method} {c : Code} {G : Gp} {O : Mem} (C : Cx p s m args meth c cX9_loops 4 RX9 none G) {x1 : Int32} : ∀ (n : Nat) (x2 : Int32) (μ : Mem), f_X9_loops_65 x1 n x2 μ = some O → ∀ (H : Heap) (locs : List Loc) (ls : Array Slot), Wm G μ H → va_S (wA G) s.heap H locs → lv_has ls 4 [(0, .ref (G.2.2 122)), (1, .int x1), (2, .int x2)] → W p l e (rmm 1 23) s m args below meth c H locs 0 0 (QV below args s G O) (F0 m 65 ls []) := by
  intro n
  induction n with
  | zero => intro x2 μ h; cases h
  | succ n ih => intro x2 μ h; exact w_X9_loops_65 C (q65 := f_X9_loops_65 x1 n) ih x2 μ h

def g_X9_loops_23 (x1 : Int32)  (q23 : Int32 → Mem → Option Mem) (x2 : Int32) (μ : Mem) : Option Mem := if 36 ≤ x2 then (f_X9_loops_65 x1 FU 1 μ) else (grd (inb x2 36) (lt (st μ 144 x2.toNatClampNeg 0) (fun μ3 => grd (inb x2 36) (if (μ3.1 129 x2.toNatClampNeg) = 1 then (bnv (f_X9_tie x2 1 μ3) (fun μ7 => lt (x2 + 1) (fun y8 => q23 y8 μ7))) else (if x2 = x1 then (bnv (f_X9_tie x2 1 μ3) (fun μ12 => lt (x2 + 1) (fun y13 => q23 y13 μ12))) else (lt (x2 + 1) (fun y10 => q23 y10 μ3)))))))
def f_X9_loops_23 (x1 : Int32)  : Nat → Int32 → Mem → Option Mem
  | 0, _, _ => none
  | n + 1, x2, μ => g_X9_loops_23 x1 (f_X9_loops_23 x1 n) x2 μ
set_option maxRecDepth 100000 in
set_option maxHeartbeats 4000000 in
theorem w_X9_loops_23 {p : Program} {l : Launch} {e : Env} {s : State} {m : MethodId} {args : Array Value} {below : List Frame} {meth : Method} {c : Code} {G : Gp} {O : Mem} (C : Cx p s m args meth c cX9_loops 4 RX9 none G) {x1 : Int32} {q23 : Int32 → Mem → Option Mem} (hq23 : ∀ (x2 : Int32) (μ : Mem), q23 x2 μ = some O → ∀ (H : Heap) (locs : List Loc) (ls : Array Slot), Wm G μ H → va_S (wA G) s.heap H locs → lv_has ls 4 [(0, .ref (G.2.2 122)), (1, .int x1), (2, .int x2)] → W p l e (rmm 1 23) s m args below meth c H locs 0 0 (QV below args s G O) (F0 m 23 ls [])) : ∀ (x2 : Int32) (μ : Mem), g_X9_loops_23 x1 q23 x2 μ = some O → ∀ (H : Heap) (locs : List Loc) (ls : Array Slot), Wm G μ H → va_S (wA G) s.heap H locs → lv_has ls 4 [(0, .ref (G.2.2 122)), (1, .int x1), (2, .int x2)] → W p l e (rmm 1 23) s m args below meth c H locs 0 0 (QV below args s G O) (F0 m 23 ls []) := by
  intro x2 μ h H locs ls hP hS hl
  unfold g_X9_loops_23 at h
  refine lv_iload_n C.x C.b dX9_loops_23 rfl (lv_at hl 2 rfl) ?_
  refine lv_bipush (v := 36) C.x C.b dX9_loops_24 (by decide) ?_
  refine lv_icmp_ge (tgt := 63) C.x C.b dX9_loops_26 (by decide) (fun c1 => ?_) (fun c1 => ?_)
  · have h := (if_pos c1).symm.trans h
    refine lv_iconst (v := 1) C.x C.b dX9_loops_63 (by decide) ?_
    refine lv_istore_n (lv' := [(2, .int 1), (0, .ref (G.2.2 122)), (1, .int x1)]) C.x C.b dX9_loops_64 rfl hl (by decide) rfl (fun ls hl => ?_)
    exact b_X9_loops_65 C FU 1 μ h _ _ _ hP hS (lv_sub hl [1, 2, 0] rfl)
  · have h := (if_neg c1).symm.trans h
    refine lv_aload_n C.x C.b dX9_loops_29 rfl (lv_at hl 0 rfl) ?_
    refine g_ref (k' := 144) F_9_39 u4_168 C hP sh_122 rfl dX9_loops_30 ?_
    refine lv_iload_n C.x C.b dX9_loops_33 rfl (lv_at hl 2 rfl) ?_
    refine lv_iconst (v := 0) C.x C.b dX9_loops_34 (by decide) ?_
    obtain ⟨g2, h⟩ := grd_some h
    refine as_z C hP hS sh_144 g2 (by decide) dX9_loops_35 (fun H locs hP hS => ?_)
    obtain ⟨μ3, m_μ3, h⟩ := lt_ex h
    have hP : Wm G μ3 H := by rw [m_μ3]; exact hP
    refine lv_aload_n C.x C.b dX9_loops_36 rfl (lv_at hl 0 rfl) ?_
    refine g_ref (k' := 129) F_9_12 u4_141 C hP sh_122 rfl dX9_loops_37 ?_
    refine lv_iload_n C.x C.b dX9_loops_40 rfl (lv_at hl 2 rfl) ?_
    obtain ⟨g4, h⟩ := grd_some h
    refine a_i C hP sh_129 g4 dX9_loops_41 ?_
    refine lv_iconst (v := 1) C.x C.b dX9_loops_42 (by decide) ?_
    refine lv_icmp_eq (tgt := 51) C.x C.b dX9_loops_43 (by decide) (fun c5 => ?_) (fun c5 => ?_)
    · have h := (if_pos c5).symm.trans h
      refine lv_aload_n C.x C.b dX9_loops_51 rfl (lv_at hl 0 rfl) ?_
      refine lv_iload_n C.x C.b dX9_loops_52 rfl (lv_at hl 2 rfl) ?_
      refine lv_iconst (v := 1) C.x C.b dX9_loops_53 (by decide) ?_
      obtain ⟨μ7, e6, h⟩ := bnv_some h
      refine k_vv (k := 122) (as := [.int x2, .int 1]) (rest := []) (c_X9_tie C.i e6) M_X9_tie u5_229 C hP hS sh_122 rfl rfl (by decide) hl.1 rfl (Nat.le_of_ble_eq_true rfl) dX9_loops_54 (fun H locs hP hS => ?_)
      obtain ⟨y8, e_y8, h⟩ := lt_ex h
      refine lv_iinc (v := y8) (lv' := [(2, .int y8), (0, .ref (G.2.2 122)), (1, .int x1)]) C.x C.b dX9_loops_57 hl (k := 2) rfl (by rw [e_y8]; rfl) (by decide) rfl (fun ls hl => ?_)
      refine lv_goto (tgt := 23) C.x C.b dX9_loops_60 (by decide) ?_
      exact hq23 y8 μ7 h _ _ _ hP hS (lv_sub hl [1, 2, 0] rfl)
    · have h := (if_neg c5).symm.trans h
      refine lv_iload_n C.x C.b dX9_loops_46 rfl (lv_at hl 2 rfl) ?_
      refine lv_iload_n C.x C.b dX9_loops_47 rfl (lv_at hl 1 rfl) ?_
      refine lv_icmp_ne (tgt := 57) C.x C.b dX9_loops_48 (by decide) (fun c9 => ?_) (fun c9 => ?_)
      · have h := (if_neg c9).symm.trans h
        obtain ⟨y10, e_y10, h⟩ := lt_ex h
        refine lv_iinc (v := y10) (lv' := [(2, .int y10), (0, .ref (G.2.2 122)), (1, .int x1)]) C.x C.b dX9_loops_57 hl (k := 2) rfl (by rw [e_y10]; rfl) (by decide) rfl (fun ls hl => ?_)
        refine lv_goto (tgt := 23) C.x C.b dX9_loops_60 (by decide) ?_
        exact hq23 y10 μ3 h _ _ _ hP hS (lv_sub hl [1, 2, 0] rfl)
      · have h := (if_pos c9).symm.trans h
        refine lv_aload_n C.x C.b dX9_loops_51 rfl (lv_at hl 0 rfl) ?_
        refine lv_iload_n C.x C.b dX9_loops_52 rfl (lv_at hl 2 rfl) ?_
        refine lv_iconst (v := 1) C.x C.b dX9_loops_53 (by decide) ?_
        obtain ⟨μ12, e11, h⟩ := bnv_some h
        refine k_vv (k := 122) (as := [.int x2, .int 1]) (rest := []) (c_X9_tie C.i e11) M_X9_tie u5_229 C hP hS sh_122 rfl rfl (by decide) hl.1 rfl (Nat.le_of_ble_eq_true rfl) dX9_loops_54 (fun H locs hP hS => ?_)
        obtain ⟨y13, e_y13, h⟩ := lt_ex h
        refine lv_iinc (v := y13) (lv' := [(2, .int y13), (0, .ref (G.2.2 122)), (1, .int x1)]) C.x C.b dX9_loops_57 hl (k := 2) rfl (by rw [e_y13]; rfl) (by decide) rfl (fun ls hl => ?_)
        refine lv_goto (tgt := 23) C.x C.b dX9_loops_60 (by decide) ?_
        exact hq23 y13 μ12 h _ _ _ hP hS (lv_sub hl [1, 2, 0] rfl)

set_option maxRecDepth 100000 in
set_option maxHeartbeats 4000000 in
theorem b_X9_loops_23 {p : Program} {l : Launch} {e : Env} {s : State} {m : MethodId} {args : Array Value} {below : List Frame} {meth : Method} {c : Code} {G : Gp} {O : Mem} (C : Cx p s m args meth c cX9_loops 4 RX9 none G) {x1 : Int32} : ∀ (n : Nat) (x2 : Int32) (μ : Mem), f_X9_loops_23 x1 n x2 μ = some O → ∀ (H : Heap) (locs : List Loc) (ls : Array Slot), Wm G μ H → va_S (wA G) s.heap H locs → lv_has ls 4 [(0, .ref (G.2.2 122)), (1, .int x1), (2, .int x2)] → W p l e (rmm 1 23) s m args below meth c H locs 0 0 (QV below args s G O) (F0 m 23 ls []) := by
  intro n
  induction n with
  | zero => intro x2 μ h; cases h
  | succ n ih => intro x2 μ h; exact w_X9_loops_23 C (q23 := f_X9_loops_23 x1 n) ih x2 μ h

def g_X9_loops_2 (x1 : Int32)  (q2 : Int32 → Mem → Option Mem) (x2 : Int32) (μ : Mem) : Option Mem := if 12 ≤ x2 then (f_X9_loops_23 x1 FU 0 μ) else (grd (inb x2 12) (lt (st μ 146 x2.toNatClampNeg 0) (fun μ3 => lt (x2 + 1) (fun y4 => q2 y4 μ3))))
def f_X9_loops_2 (x1 : Int32)  : Nat → Int32 → Mem → Option Mem
  | 0, _, _ => none
  | n + 1, x2, μ => g_X9_loops_2 x1 (f_X9_loops_2 x1 n) x2 μ
set_option maxRecDepth 100000 in
set_option maxHeartbeats 4000000 in
theorem w_X9_loops_2 {p : Program} {l : Launch} {e : Env} {s : State} {m : MethodId} {args : Array Value} {below : List Frame} {meth : Method} {c : Code} {G : Gp} {O : Mem} (C : Cx p s m args meth c cX9_loops 4 RX9 none G) {x1 : Int32} {q2 : Int32 → Mem → Option Mem} (hq2 : ∀ (x2 : Int32) (μ : Mem), q2 x2 μ = some O → ∀ (H : Heap) (locs : List Loc) (ls : Array Slot), Wm G μ H → va_S (wA G) s.heap H locs → lv_has ls 4 [(0, .ref (G.2.2 122)), (1, .int x1), (2, .int x2)] → W p l e (rmm 1 23) s m args below meth c H locs 0 0 (QV below args s G O) (F0 m 2 ls [])) : ∀ (x2 : Int32) (μ : Mem), g_X9_loops_2 x1 q2 x2 μ = some O → ∀ (H : Heap) (locs : List Loc) (ls : Array Slot), Wm G μ H → va_S (wA G) s.heap H locs → lv_has ls 4 [(0, .ref (G.2.2 122)), (1, .int x1), (2, .int x2)] → W p l e (rmm 1 23) s m args below meth c H locs 0 0 (QV below args s G O) (F0 m 2 ls []) := by
  intro x2 μ h H locs ls hP hS hl
  unfold g_X9_loops_2 at h
  refine lv_iload_n C.x C.b dX9_loops_2 rfl (lv_at hl 2 rfl) ?_
  refine lv_bipush (v := 12) C.x C.b dX9_loops_3 (by decide) ?_
  refine lv_icmp_ge (tgt := 21) C.x C.b dX9_loops_5 (by decide) (fun c1 => ?_) (fun c1 => ?_)
  · have h := (if_pos c1).symm.trans h
    refine lv_iconst (v := 0) C.x C.b dX9_loops_21 (by decide) ?_
    refine lv_istore_n (lv' := [(2, .int 0), (0, .ref (G.2.2 122)), (1, .int x1)]) C.x C.b dX9_loops_22 rfl hl (by decide) rfl (fun ls hl => ?_)
    exact b_X9_loops_23 C FU 0 μ h _ _ _ hP hS (lv_sub hl [1, 2, 0] rfl)
  · have h := (if_neg c1).symm.trans h
    refine lv_aload_n C.x C.b dX9_loops_8 rfl (lv_at hl 0 rfl) ?_
    refine g_ref (k' := 146) F_9_43 u4_172 C hP sh_122 rfl dX9_loops_9 ?_
    refine lv_iload_n C.x C.b dX9_loops_12 rfl (lv_at hl 2 rfl) ?_
    refine lv_iconst (v := 0) C.x C.b dX9_loops_13 (by decide) ?_
    obtain ⟨g2, h⟩ := grd_some h
    refine as_i C hP hS sh_146 g2 dX9_loops_14 (fun H locs hP hS => ?_)
    obtain ⟨μ3, m_μ3, h⟩ := lt_ex h
    have hP : Wm G μ3 H := by rw [m_μ3]; exact hP
    obtain ⟨y4, e_y4, h⟩ := lt_ex h
    refine lv_iinc (v := y4) (lv' := [(2, .int y4), (0, .ref (G.2.2 122)), (1, .int x1)]) C.x C.b dX9_loops_15 hl (k := 2) rfl (by rw [e_y4]; rfl) (by decide) rfl (fun ls hl => ?_)
    refine lv_goto (tgt := 2) C.x C.b dX9_loops_18 (by decide) ?_
    exact hq2 y4 μ3 h _ _ _ hP hS (lv_sub hl [1, 2, 0] rfl)

set_option maxRecDepth 100000 in
set_option maxHeartbeats 4000000 in
theorem b_X9_loops_2 {p : Program} {l : Launch} {e : Env} {s : State} {m : MethodId} {args : Array Value} {below : List Frame} {meth : Method} {c : Code} {G : Gp} {O : Mem} (C : Cx p s m args meth c cX9_loops 4 RX9 none G) {x1 : Int32} : ∀ (n : Nat) (x2 : Int32) (μ : Mem), f_X9_loops_2 x1 n x2 μ = some O → ∀ (H : Heap) (locs : List Loc) (ls : Array Slot), Wm G μ H → va_S (wA G) s.heap H locs → lv_has ls 4 [(0, .ref (G.2.2 122)), (1, .int x1), (2, .int x2)] → W p l e (rmm 1 23) s m args below meth c H locs 0 0 (QV below args s G O) (F0 m 2 ls []) := by
  intro n
  induction n with
  | zero => intro x2 μ h; cases h
  | succ n ih => intro x2 μ h; exact w_X9_loops_2 C (q2 := f_X9_loops_2 x1 n) ih x2 μ h

def f_X9_loops (x1 : Int32) (μ : Mem) : Option Mem := f_X9_loops_2 x1 FU 0 μ
set_option maxRecDepth 100000 in
set_option maxHeartbeats 4000000 in
theorem b_X9_loops {p : Program} {l : Launch} {e : Env} {s : State} {m : MethodId} {args : Array Value} {below : List Frame} {meth : Method} {c : Code} {G : Gp} {O : Mem} (C : Cx p s m args meth c cX9_loops 4 RX9 none G) {x1 : Int32} {μ : Mem} (h : f_X9_loops x1 μ = some O) : ∀ (H : Heap) (locs : List Loc) (ls : Array Slot), Wm G μ H → va_S (wA G) s.heap H locs → lv_has ls 4 [(0, .ref (G.2.2 122)), (1, .int x1)] → W p l e (rmm 1 23) s m args below meth c H locs 0 0 (QV below args s G O) (F0 m 0 ls []) := by
  unfold f_X9_loops at h
  intro H locs ls hP hS hl
  refine lv_iconst (v := 0) C.x C.b dX9_loops_0 (by decide) ?_
  refine lv_istore_n (lv' := [(2, .int 0), (0, .ref (G.2.2 122)), (1, .int x1)]) C.x C.b dX9_loops_1 rfl hl (by decide) rfl (fun ls hl => ?_)
  exact b_X9_loops_2 C FU 0 μ h _ _ _ hP hS (lv_sub hl [1, 2, 0] rfl)

set_option maxRecDepth 100000 in
set_option maxHeartbeats 4000000 in
theorem c_X9_loops {l : Launch} {G : Gp} (hI : Wi G) {x1 : Int32} {μ : Mem} {μ' : Mem} (h : f_X9_loops x1 μ = some μ') : CV l yX9_loops cX9_loops 4 none 1 23 G [.ref (G.2.2 122), .int x1] μ μ' :=
  e_all (lv := [(0, .ref (G.2.2 122)), (1, .int x1)]) hI (by decide) (Nat.le_of_ble_eq_true rfl) rfl (fun p e s m args below meth c ls C hP hS hl => b_X9_loops C h _ _ _ hP hS hl)

