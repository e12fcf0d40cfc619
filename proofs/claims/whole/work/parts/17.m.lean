def f_X9_enterer_98 (x1 : Int32) (q11 : Int32 → Int32 → Int32 → Mem → Option (Int32 × Mem)) (x3 : Int32) (x4 : Int32) (x5 : Int32) (z0 : Int32) (μ : Mem) : Option (Int32 × Mem) := lt (mn x3 x5) (fun y1 => lt (x4 + 1) (fun y2 => q11 z0 y1 y2 μ))
set_option maxRecDepth 100000 in
set_option maxHeartbeats 4000000 in
theorem b_X9_enterer_98 {p : Program} {l : Launch} {e : Env} {s : State} {m : MethodId} {args : Array Value} {below : List Frame} {meth : Method} {c : Code} {G : Gp} {O : (Int32 × Mem)} (C : Cx p s m args meth c cX9_enterer 6 RX9 (some .int) G) {x1 : Int32} {q11 : Int32 → Int32 → Int32 → Mem → Option (Int32 × Mem)} (hq11 : ∀ (x2 : Int32) (x3 : Int32) (x4 : Int32) (μ : Mem), q11 x2 x3 x4 μ = some O → ∀ (H : Heap) (locs : List Loc) (ls : Array Slot), Wm G μ H → va_S (wA G) s.heap H locs → lv_has ls 6 [(0, .ref (G.2.2 122)), (1, .int x1), (2, .int x2), (3, .int x3), (4, .int x4)] → W p l e (rmm 2 46) s m args below meth c H locs 0 0 (QI below args s G O) (F0 m 11 ls [])) : ∀ (x3 : Int32) (x4 : Int32) (x5 : Int32) (z0 : Int32) (μ : Mem), f_X9_enterer_98 x1 q11 x3 x4 x5 z0 μ = some O → ∀ (H : Heap) (locs : List Loc) (ls : Array Slot), Wm G μ H → va_S (wA G) s.heap H locs → lv_has ls 6 [(0, .ref (G.2.2 122)), (1, .int x1), (3, .int x3), (4, .int x4), (5, .int x5)] → W p l e (rmm 2 46) s m args below meth c H locs 0 0 (QI below args s G O) (F0 m 98 ls [.int z0]) := by
  intro x3 x4 x5 z0 μ h H locs ls hP hS hl
  unfold f_X9_enterer_98 at h
  refine lv_istore_n (lv' := [(2, .int z0), (0, .ref (G.2.2 122)), (1, .int x1), (3, .int x3), (4, .int x4), (5, .int x5)]) C.x C.b dX9_enterer_98 rfl hl (by decide) rfl (fun ls hl => ?_)
  refine lv_iload_n C.x C.b dX9_enterer_99 rfl (lv_at hl 3 rfl) ?_
  refine lv_iload C.x C.b dX9_enterer_100 (lv_at hl 5 rfl) ?_
  refine k_min u5_191 C hl.1 ⟨by decide, Nat.le_of_ble_eq_true rfl⟩ dX9_enterer_102 ?_
  refine lv_topi (fun y1 e_y1 => ?_)
  have h := lt_at h e_y1
  refine lv_istore_n (lv' := [(3, .int y1), (2, .int z0), (0, .ref (G.2.2 122)), (1, .int x1), (4, .int x4), (5, .int x5)]) C.x C.b dX9_enterer_105 rfl hl (by decide) rfl (fun ls hl => ?_)
  obtain ⟨y2, e_y2, h⟩ := lt_ex h
  refine lv_iinc (v := y2) (lv' := [(4, .int y2), (3, .int y1), (2, .int z0), (0, .ref (G.2.2 122)), (1, .int x1), (5, .int x5)]) C.x C.b dX9_enterer_106 hl (k := 4) rfl (by rw [e_y2]; rfl) (by decide) rfl (fun ls hl => ?_)
  refine lv_goto (tgt := 11) C.x C.b dX9_enterer_109 (by decide) ?_
  exact hq11 z0 y1 y2 μ h _ _ _ hP hS (lv_sub hl [3, 4, 2, 1, 0] rfl)

def f_X9_enterer_85 (x1 : Int32) (q11 : Int32 → Int32 → Int32 → Mem → Option (Int32 × Mem)) (x2 : Int32) (x4 : Int32) (x5 : Int32) (z0 : Int32) (μ : Mem) : Option (Int32 × Mem) := if z0 ≤ x5 then (f_X9_enterer_98 x1 q11 z0 x4 x5 x2 μ) else (f_X9_enterer_98 x1 q11 z0 x4 x5 x4 μ)
set_option maxRecDepth 100000 in
set_option maxHeartbeats 4000000 in
theorem b_X9_enterer_85 {p : Program} {l : Launch} {e : Env} {s : State} {m : MethodId} {args : Array Value} {below : List Frame} {meth : Method} {c : Code} {G : Gp} {O : (Int32 × Mem)} (C : Cx p s m args meth c cX9_enterer 6 RX9 (some .int) G) {x1 : Int32} {q11 : Int32 → Int32 → Int32 → Mem → Option (Int32 × Mem)} (hq11 : ∀ (x2 : Int32) (x3 : Int32) (x4 : Int32) (μ : Mem), q11 x2 x3 x4 μ = some O → ∀ (H : Heap) (locs : List Loc) (ls : Array Slot), Wm G μ H → va_S (wA G) s.heap H locs → lv_has ls 6 [(0, .ref (G.2.2 122)), (1, .int x1), (2, .int x2), (3, .int x3), (4, .int x4)] → W p l e (rmm 2 46) s m args below meth c H locs 0 0 (QI below args s G O) (F0 m 11 ls [])) : ∀ (x2 : Int32) (x4 : Int32) (x5 : Int32) (z0 : Int32) (μ : Mem), f_X9_enterer_85 x1 q11 x2 x4 x5 z0 μ = some O → ∀ (H : Heap) (locs : List Loc) (ls : Array Slot), Wm G μ H → va_S (wA G) s.heap H locs → lv_has ls 6 [(0, .ref (G.2.2 122)), (1, .int x1), (2, .int x2), (4, .int x4), (5, .int x5)] → W p l e (rmm 2 46) s m args below meth c H locs 0 0 (QI below args s G O) (F0 m 85 ls [.int z0]) := by
  intro x2 x4 x5 z0 μ h H locs ls hP hS hl
  unfold f_X9_enterer_85 at h
  refine lv_istore_n (lv' := [(3, .int z0), (0, .ref (G.2.2 122)), (1, .int x1), (2, .int x2), (4, .int x4), (5, .int x5)]) C.x C.b dX9_enterer_85 rfl hl (by decide) rfl (fun ls hl => ?_)
  refine lv_iload C.x C.b dX9_enterer_86 (lv_at hl 5 rfl) ?_
  refine lv_iload_n C.x C.b dX9_enterer_88 rfl (lv_at hl 0 rfl) ?_
  refine lv_icmp_ge (tgt := 97) C.x C.b dX9_enterer_89 (by decide) (fun c1 => ?_) (fun c1 => ?_)
  · have h := (if_pos c1).symm.trans h
    refine lv_iload_n C.x C.b dX9_enterer_97 rfl (lv_at hl 3 rfl) ?_
    exact b_X9_enterer_98 C hq11 z0 x4 x5 x2 μ h _ _ _ hP hS (lv_sub hl [1, 2, 0, 4, 5] rfl)
  · have h := (if_neg c1).symm.trans h
    refine lv_iload C.x C.b dX9_enterer_92 (lv_at hl 4 rfl) ?_
    refine lv_goto (tgt := 98) C.x C.b dX9_enterer_94 (by decide) ?_
    exact b_X9_enterer_98 C hq11 z0 x4 x5 x4 μ h _ _ _ hP hS (lv_sub hl [1, 2, 0, 4, 5] rfl)

def f_X9_enterer_73 (x1 : Int32) (q11 : Int32 → Int32 → Int32 → Mem → Option (Int32 × Mem)) (x2 : Int32) (x3 : Int32) (x4 : Int32) (x5 : Int32) (μ : Mem) : Option (Int32 × Mem) := if 0 ≤ x2 then (f_X9_enterer_85 x1 q11 x2 x4 x5 x3 μ) else (f_X9_enterer_85 x1 q11 x2 x4 x5 (x5 + 1) μ)
set_option maxRecDepth 100000 in
set_option maxHeartbeats 4000000 in
theorem b_X9_enterer_73 {p : Program} {l : Launch} {e : Env} {s : State} {m : MethodId} {args : Array Value} {below : List Frame} {meth : Method} {c : Code} {G : Gp} {O : (Int32 × Mem)} (C : Cx p s m args meth c cX9_enterer 6 RX9 (some .int) G) {x1 : Int32} {q11 : Int32 → Int32 → Int32 → Mem → Option (Int32 × Mem)} (hq11 : ∀ (x2 : Int32) (x3 : Int32) (x4 : Int32) (μ : Mem), q11 x2 x3 x4 μ = some O → ∀ (H : Heap) (locs : List Loc) (ls : Array Slot), Wm G μ H → va_S (wA G) s.heap H locs → lv_has ls 6 [(0, .ref (G.2.2 122)), (1, .int x1), (2, .int x2), (3, .int x3), (4, .int x4)] → W p l e (rmm 2 46) s m args below meth c H locs 0 0 (QI below args s G O) (F0 m 11 ls [])) : ∀ (x2 : Int32) (x3 : Int32) (x4 : Int32) (x5 : Int32) (μ : Mem), f_X9_enterer_73 x1 q11 x2 x3 x4 x5 μ = some O → ∀ (H : Heap) (locs : List Loc) (ls : Array Slot), Wm G μ H → va_S (wA G) s.heap H locs → lv_has ls 6 [(0, .ref (G.2.2 122)), (1, .int x1), (2, .int x2), (3, .int x3), (4, .int x4), (5, .int x5)] → W p l e (rmm 2 46) s m args below meth c H locs 0 0 (QI below args s G O) (F0 m 73 ls []) := by
  intro x2 x3 x4 x5 μ h H locs ls hP hS hl
  unfold f_X9_enterer_73 at h
  refine lv_iload_n C.x C.b dX9_enterer_73 rfl (lv_at hl 2 rfl) ?_
  refine lv_if_ge (tgt := 84) C.x C.b dX9_enterer_74 (by decide) (fun c1 => ?_) (fun c1 => ?_)
  · have h := (if_pos c1).symm.trans h
    refine lv_iload_n C.x C.b dX9_enterer_84 rfl (lv_at hl 3 rfl) ?_
    exact b_X9_enterer_85 C hq11 x2 x4 x5 x3 μ h _ _ _ hP hS (lv_sub hl [0, 1, 2, 4, 5] rfl)
  · have h := (if_neg c1).symm.trans h
    refine lv_iload C.x C.b dX9_enterer_77 (lv_at hl 5 rfl) ?_
    refine lv_iconst (v := 1) C.x C.b dX9_enterer_79 (by decide) ?_
    refine lv_iadd C.x C.b dX9_enterer_80 ?_
    refine lv_goto (tgt := 85) C.x C.b dX9_enterer_81 (by decide) ?_
    exact b_X9_enterer_85 C hq11 x2 x4 x5 (x5 + 1) μ h _ _ _ hP hS (lv_sub hl [0, 1, 2, 4, 5] rfl)

def f_X9_enterer_45 (x1 : Int32) (q11 : Int32 → Int32 → Int32 → Mem → Option (Int32 × Mem)) (x2 : Int32) (x3 : Int32) (x4 : Int32) (μ : Mem) : Option (Int32 × Mem) := bnv (f_X9_over x4 μ) (fun r2 => if x1 = 2 then (bnv (f_X9_loops x4 μ) (fun μ5 => lt (r2 * (μ5.1 122 42)) (fun y6 => f_X9_enterer_73 x1 q11 x2 x3 x4 y6 μ5))) else (f_X9_enterer_73 x1 q11 x2 x3 x4 r2 μ))
set_option maxRecDepth 100000 in
set_option maxHeartbeats 4000000 in
theorem b_X9_enterer_45 {p : Program} {l : Launch} {e : Env} {s : State} {m : MethodId} {args : Array Value} {below : List Frame} {meth : Method} {c : Code} {G : Gp} {O : (Int32 × Mem)} (C : Cx p s m args meth c cX9_enterer 6 RX9 (some .int) G) {x1 : Int32} {q11 : Int32 → Int32 → Int32 → Mem → Option (Int32 × Mem)} (hq11 : ∀ (x2 : Int32) (x3 : Int32) (x4 : Int32) (μ : Mem), q11 x2 x3 x4 μ = some O → ∀ (H : Heap) (locs : List Loc) (ls : Array Slot), Wm G μ H → va_S (wA G) s.heap H locs → lv_has ls 6 [(0, .ref (G.2.2 122)), (1, .int x1), (2, .int x2), (3, .int x3), (4, .int x4)] → W p l e (rmm 2 46) s m args below meth c H locs 0 0 (QI below args s G O) (F0 m 11 ls [])) : ∀ (x2 : Int32) (x3 : Int32) (x4 : Int32) (μ : Mem), f_X9_enterer_45 x1 q11 x2 x3 x4 μ = some O → ∀ (H : Heap) (locs : List Loc) (ls : Array Slot), Wm G μ H → va_S (wA G) s.heap H locs → lv_has ls 6 [(0, .ref (G.2.2 122)), (1, .int x1), (2, .int x2), (3, .int x3), (4, .int x4)] → W p l e (rmm 2 46) s m args below meth c H locs 0 0 (QI below args s G O) (F0 m 45 ls []) := by
  intro x2 x3 x4 μ h H locs ls hP hS hl
  unfold f_X9_enterer_45 at h
  refine lv_aload_n C.x C.b dX9_enterer_45 rfl (lv_at hl 0 rfl) ?_
  refine lv_iload C.x C.b dX9_enterer_46 (lv_at hl 4 rfl) ?_
  obtain ⟨r2, e1, h⟩ := bnv_some h
  refine k_vi (k := 122) (as := [.int x4]) (rest := []) (c_X9_over C.i e1) M_X9_over u5_221 C hP hS sh_122 rfl rfl (by decide) hl.1 rfl (Nat.le_of_ble_eq_true rfl) dX9_enterer_48 (fun H locs hP hS => ?_)
  refine lv_istore (lv' := [(5, .int r2), (0, .ref (G.2.2 122)), (1, .int x1), (2, .int x2), (3, .int x3), (4, .int x4)]) C.x C.b dX9_enterer_51 hl (by decide) rfl (fun ls hl => ?_)
  refine lv_iload_n C.x C.b dX9_enterer_53 rfl (lv_at hl 2 rfl) ?_
  refine lv_iconst (v := 2) C.x C.b dX9_enterer_54 (by decide) ?_
  refine lv_icmp_ne (tgt := 73) C.x C.b dX9_enterer_55 (by decide) (fun c3 => ?_) (fun c3 => ?_)
  · have h := (if_neg c3).symm.trans h
    exact b_X9_enterer_73 C hq11 x2 x3 x4 r2 μ h _ _ _ hP hS (lv_sub hl [1, 2, 3, 4, 5, 0] rfl)
  · have h := (if_pos c3).symm.trans h
    refine lv_aload_n C.x C.b dX9_enterer_58 rfl (lv_at hl 1 rfl) ?_
    refine lv_iload C.x C.b dX9_enterer_59 (lv_at hl 5 rfl) ?_
    obtain ⟨μ5, e4, h⟩ := bnv_some h
    refine k_vv (k := 122) (as := [.int x4]) (rest := []) (c_X9_loops C.i e4) M_X9_loops u5_225 C hP hS sh_122 rfl rfl (by decide) hl.1 rfl (Nat.le_of_ble_eq_true rfl) dX9_enterer_61 (fun H locs hP hS => ?_)
    refine lv_iload C.x C.b dX9_enterer_64 (lv_at hl 0 rfl) ?_
    refine lv_aload_n C.x C.b dX9_enterer_66 rfl (lv_at hl 1 rfl) ?_
    refine g_int F_9_42 u4_171 C hP sh_122 dX9_enterer_67 ?_
    refine lv_imul C.x C.b dX9_enterer_70 ?_
    refine lv_topi (fun y6 e_y6 => ?_)
    have h := lt_at h e_y6
    refine lv_istore (lv' := [(5, .int y6), (0, .ref (G.2.2 122)), (1, .int x1), (2, .int x2), (3, .int x3), (4, .int x4)]) C.x C.b dX9_enterer_71 hl (by decide) rfl (fun ls hl => ?_)
    exact b_X9_enterer_73 C hq11 x2 x3 x4 y6 μ5 h _ _ _ hP hS (lv_sub hl [1, 2, 3, 4, 5, 0] rfl)

def g_X9_enterer_11 (x1 : Int32)  (q11 : Int32 → Int32 → Int32 → Mem → Option (Int32 × Mem)) (x2 : Int32) (x3 : Int32) (x4 : Int32) (μ : Mem) : Option (Int32 × Mem) := if 36 ≤ x4 then (some (x2, μ)) else (bnv (f_X9_isInPlan x4 μ) (fun r3 => if r3 = 0 then (lt (x4 + 1) (fun y5 => q11 x2 x3 y5 μ)) else (bnv (f_X9_over x4 μ) (fun r7 => if 0 ≤ r7 then (lt (x4 + 1) (fun y9 => q11 x2 x3 y9 μ)) else (if x2 < 0 then (f_X9_enterer_45 x1 q11 x2 x3 x4 μ) else (if x1 = 1 then (lt (x4 + 1) (fun y12 => q11 x2 x3 y12 μ)) else (f_X9_enterer_45 x1 q11 x2 x3 x4 μ)))))))
def f_X9_enterer_11 (x1 : Int32)  : Nat → Int32 → Int32 → Int32 → Mem → Option (Int32 × Mem)
  | 0, _, _, _, _ => none
  | n + 1, x2, x3, x4, μ => g_X9_enterer_11 x1 (f_X9_enterer_11 x1 n) x2 x3 x4 μ
set_option maxRecDepth 100000 in
set_option maxHeartbeats 4000000 in
theorem w_X9_enterer_11 {p : Program} {l : Launch} {e : Env} {s : State} {m : MethodId} {args : Array Value} {below : List Frame} {meth : Method} {c : Code} {G : Gp} {O : (Int32 × Mem)} (C : Cx p s m args meth c cX9_enterer 6 RX9 (some .int) G) {x1 : Int32} {q11 : Int32 → Int32 → Int32 → Mem → Option (Int32 × Mem)} (hq11 : ∀ (x2 : Int32) (x3 : Int32) (x4 : Int32) (μ : Mem), q11 x2 x3 x4 μ = some O → ∀ (H : Heap) (locs : List Loc) (ls : Array Slot), Wm G μ H → va_S (wA G) s.heap H locs → lv_has ls 6 [(0, .ref (G.2.2 122)), (1, .int x1), (2, .int x2), (3, .int x3), (4, .int x4)] → W p l e (rmm 2 46) s m args below meth c H locs 0 0 (QI below args s G O) (F0 m 11 ls [])) : ∀ (x2 : Int32) (x3 : Int32) (x4 : Int32) (μ : Mem), g_X9_enterer_11 x1 q11 x2 x3 x4 μ = some O → ∀ (H : Heap) (locs : List Loc) (ls : Array Slot), Wm G μ H → va_S (wA G) s.heap H locs → lv_has ls 6 [(0, .ref (G.2.2 122)), (1, .int x1), (2, .int x2), (3, .int x3), (4, .int x4)] → W p l e (rmm 2 46) s m args below meth c H locs 0 0 (QI below args s G O) (F0 m 11 ls []) := by
  intro x2 x3 x4 μ h H locs ls hP hS hl
  unfold g_X9_enterer_11 at h
  refine lv_iload C.x C.b dX9_enterer_11 (lv_at hl 4 rfl) ?_
  refine lv_bipush (v := 36) C.x C.b dX9_enterer_13 (by decide) ?_
  refine lv_icmp_ge (tgt := 112) C.x C.b dX9_enterer_15 (by decide) (fun c1 => ?_) (fun c1 => ?_)
  · have h := (if_pos c1).symm.trans h
    refine lv_iload_n C.x C.b dX9_enterer_112 rfl (lv_at hl 2 rfl) ?_
    exact r_i h C hP hS dX9_enterer_113
  · have h := (if_neg c1).symm.trans h
    refine lv_aload_n C.x C.b dX9_enterer_18 rfl (lv_at hl 0 rfl) ?_
    refine lv_iload C.x C.b dX9_enterer_19 (lv_at hl 4 rfl) ?_
    obtain ⟨r3, e2, h⟩ := bnv_some h
    refine k_vi (k := 122) (as := [.int x4]) (rest := []) (c_X9_isInPlan C.i e2) M_X9_isInPlan u5_217 C hP hS sh_122 rfl rfl (by decide) hl.1 rfl (Nat.le_of_ble_eq_true rfl) dX9_enterer_21 (fun H locs hP hS => ?_)
    refine lv_if_eq (tgt := 106) C.x C.b dX9_enterer_24 (by decide) (fun c4 => ?_) (fun c4 => ?_)
    · have h := (if_pos c4).symm.trans h
      obtain ⟨y5, e_y5, h⟩ := lt_ex h
      refine lv_iinc (v := y5) (lv' := [(4, .int y5), (0, .ref (G.2.2 122)), (1, .int x1), (2, .int x2), (3, .int x3)]) C.x C.b dX9_enterer_106 hl (k := 4) rfl (by rw [e_y5]; rfl) (by decide) rfl (fun ls hl => ?_)
      refine lv_goto (tgt := 11) C.x C.b dX9_enterer_109 (by decide) ?_
      exact hq11 x2 x3 y5 μ h _ _ _ hP hS (lv_sub hl [1, 2, 3, 4, 0] rfl)
    · have h := (if_neg c4).symm.trans h
      refine lv_aload_n C.x C.b dX9_enterer_27 rfl (lv_at hl 0 rfl) ?_
      refine lv_iload C.x C.b dX9_enterer_28 (lv_at hl 4 rfl) ?_
      obtain ⟨r7, e6, h⟩ := bnv_some h
      refine k_vi (k := 122) (as := [.int x4]) (rest := []) (c_X9_over C.i e6) M_X9_over u5_221 C hP hS sh_122 rfl rfl (by decide) hl.1 rfl (Nat.le_of_ble_eq_true rfl) dX9_enterer_30 (fun H locs hP hS => ?_)
      refine lv_if_ge (tgt := 106) C.x C.b dX9_enterer_33 (by decide) (fun c8 => ?_) (fun c8 => ?_)
      · have h := (if_pos c8).symm.trans h
        obtain ⟨y9, e_y9, h⟩ := lt_ex h
        refine lv_iinc (v := y9) (lv' := [(4, .int y9), (0, .ref (G.2.2 122)), (1, .int x1), (2, .int x2), (3, .int x3)]) C.x C.b dX9_enterer_106 hl (k := 4) rfl (by rw [e_y9]; rfl) (by decide) rfl (fun ls hl => ?_)
        refine lv_goto (tgt := 11) C.x C.b dX9_enterer_109 (by decide) ?_
        exact hq11 x2 x3 y9 μ h _ _ _ hP hS (lv_sub hl [1, 2, 3, 4, 0] rfl)
      · have h := (if_neg c8).symm.trans h
        refine lv_iload_n C.x C.b dX9_enterer_36 rfl (lv_at hl 2 rfl) ?_
        refine lv_if_lt (tgt := 45) C.x C.b dX9_enterer_37 (by decide) (fun c10 => ?_) (fun c10 => ?_)
        · have h := (if_pos c10).symm.trans h
          exact b_X9_enterer_45 C hq11 x2 x3 x4 μ h _ _ _ hP hS (lv_sub hl [0, 1, 2, 3, 4] rfl)
        · have h := (if_neg c10).symm.trans h
          refine lv_iload_n C.x C.b dX9_enterer_40 rfl (lv_at hl 1 rfl) ?_
          refine lv_iconst (v := 1) C.x C.b dX9_enterer_41 (by decide) ?_
          refine lv_icmp_eq (tgt := 106) C.x C.b dX9_enterer_42 (by decide) (fun c11 => ?_) (fun c11 => ?_)
          · have h := (if_pos c11).symm.trans h
            obtain ⟨y12, e_y12, h⟩ := lt_ex h
            refine lv_iinc (v := y12) (lv' := [(4, .int y12), (0, .ref (G.2.2 122)), (1, .int x1), (2, .int x2), (3, .int x3)]) C.x C.b dX9_enterer_106 hl (k := 4) rfl (by rw [e_y12]; rfl) (by decide) rfl (fun ls hl => ?_)
            refine lv_goto (tgt := 11) C.x C.b dX9_enterer_109 (by decide) ?_
            exact hq11 x2 x3 y12 μ h _ _ _ hP hS (lv_sub hl [1, 2, 3, 4, 0] rfl)
          · have h := (if_neg c11).symm.trans h
            exact b_X9_enterer_45 C hq11 x2 x3 x4 μ h _ _ _ hP hS (lv_sub hl [0, 1, 2, 3, 4] rfl)

set_option maxRecDepth 100000 in
set_option maxHeartbeats 4000000 in
theorem b_X9_enterer_11 {p : Program} {l : Launch} {e : Env} {s : State} {m : MethodId} {args : Array Value} {below : List Frame} {meth : Method} {c : Code} {G : Gp} {O : (Int32 × Mem)} (C : Cx p s m args meth c cX9_enterer 6 RX9 (some .int) G) {x1 : Int32} : ∀ (n : Nat) (x2 : Int32) (x3 : Int32) (x4 : Int32) (μ : Mem), f_X9_enterer_11 x1 n x2 x3 x4 μ = some O → ∀ (H : Heap) (locs : List Loc) (ls : Array Slot), Wm G μ H → va_S (wA G) s.heap H locs → lv_has ls 6 [(0, .ref (G.2.2 122)), (1, .int x1), (2, .int x2), (3, .int x3), (4, .int x4)] → W p l e (rmm 2 46) s m args below meth c H locs 0 0 (QI below args s G O) (F0 m 11 ls []) := by
  intro n
  induction n with
  | zero => intro x2 x3 x4 μ h; cases h
  | succ n ih => intro x2 x3 x4 μ h; exact w_X9_enterer_11 C (q11 := f_X9_enterer_11 x1 n) ih x2 x3 x4 μ h

def f_X9_enterer (x1 : Int32) (μ : Mem) : Option (Int32 × Mem) := bnv (f_X9_values μ) (fun μ2 => f_X9_enterer_11 x1 FU ((-1)) 0 0 μ2)
set_option maxRecDepth 100000 in
set_option maxHeartbeats 4000000 in
theorem b_X9_enterer {p : Program} {l : Launch} {e : Env} {s : State} {m : MethodId} {args : Array Value} {below : List Frame} {meth : Method} {c : Code} {G : Gp} {O : (Int32 × Mem)} (C : Cx p s m args meth c cX9_enterer 6 RX9 (some .int) G) {x1 : Int32} {μ : Mem} (h : f_X9_enterer x1 μ = some O) : ∀ (H : Heap) (locs : List Loc) (ls : Array Slot), Wm G μ H → va_S (wA G) s.heap H locs → lv_has ls 6 [(0, .ref (G.2.2 122)), (1, .int x1)] → W p l e (rmm 2 46) s m args below meth c H locs 0 0 (QI below args s G O) (F0 m 0 ls []) := by
  unfold f_X9_enterer at h
  intro H locs ls hP hS hl
  refine lv_aload_n C.x C.b dX9_enterer_0 rfl (lv_at hl 0 rfl) ?_
  obtain ⟨μ2, e1, h⟩ := bnv_some h
  refine k_vv (k := 122) (as := []) (rest := []) (c_X9_values C.i e1) M_X9_values u5_213 C hP hS sh_122 rfl rfl (by decide) hl.1 rfl (Nat.le_of_ble_eq_true rfl) dX9_enterer_1 (fun H locs hP hS => ?_)
  refine lv_iconst (v := (-1)) C.x C.b dX9_enterer_4 (by decide) ?_
  refine lv_istore_n (lv' := [(2, .int ((-1))), (0, .ref (G.2.2 122)), (1, .int x1)]) C.x C.b dX9_enterer_5 rfl hl (by decide) rfl (fun ls hl => ?_)
  refine lv_iconst (v := 0) C.x C.b dX9_enterer_6 (by decide) ?_
  refine lv_istore_n (lv' := [(3, .int 0), (2, .int ((-1))), (0, .ref (G.2.2 122)), (1, .int x1)]) C.x C.b dX9_enterer_7 rfl hl (by decide) rfl (fun ls hl => ?_)
  refine lv_iconst (v := 0) C.x C.b dX9_enterer_8 (by decide) ?_
  refine lv_istore (lv' := [(4, .int 0), (3, .int 0), (2, .int ((-1))), (0, .ref (G.2.2 122)), (1, .int x1)]) C.x C.b dX9_enterer_9 hl (by decide) rfl (fun ls hl => ?_)
  exact b_X9_enterer_11 C FU ((-1)) 0 0 μ2 h _ _ _ hP hS (lv_sub hl [3, 4, 2, 1, 0] rfl)

set_option maxRecDepth 100000 in
set_option maxHeartbeats 4000000 in
theorem c_X9_enterer {l : Launch} {G : Gp} (hI : Wi G) {x1 : Int32} {μ : Mem} {r : Int32} {μ' : Mem} (h : f_X9_enterer x1 μ = some (r, μ')) : CI l yX9_enterer cX9_enterer 6 (some .int) 2 46 G [.ref (G.2.2 122), .int x1] μ r μ' :=
  e_all (lv := [(0, .ref (G.2.2 122)), (1, .int x1)]) hI (by decide) (Nat.le_of_ble_eq_true rfl) rfl (fun p e s m args below meth c ls C hP hS hl => b_X9_enterer C h _ _ _ hP hS hl)


def f_X9_spelled (x0 : Int32) (μ : Mem) : Option Int32 := some ((10 * (x0 / 6)) + (rm32 x0 6))
set_option maxRecDepth 100000 in
set_option maxHeartbeats 4000000 in
theorem b_X9_spelled {p : Program} {l : Launch} {e : Env} {s : State} {m : MethodId} {args : Array Value} {below : List Frame} {meth : Method} {c : Code} {G : Gp} {O : Int32} (C : Cx p s m args meth c cX9_spelled 1 RX9 (some .int) G) {x0 : Int32} {μ : Mem} (h : f_X9_spelled x0 μ = some O) : ∀ (H : Heap) (locs : List Loc) (ls : Array Slot), Wm G μ H → va_S (wA G) s.heap H locs → lv_has ls 1 [(0, .int x0)] → W p l e (rmm 0 0) s m args below meth c H locs 0 0 (QI below args s G (O, μ)) (F0 m 0 ls []) := by
  unfold f_X9_spelled at h
  intro H locs ls hP hS hl
  refine lv_bipush (v := 10) C.x C.b dX9_spelled_0 (by decide) ?_
  refine lv_iload_n C.x C.b dX9_spelled_2 rfl (lv_at hl 0 rfl) ?_
  refine lv_bipush (v := 6) C.x C.b dX9_spelled_3 (by decide) ?_
  refine lv_idiv C.x C.b dX9_spelled_5 (by decide) ?_
  refine lv_imul C.x C.b dX9_spelled_6 ?_
  refine lv_iload_n C.x C.b dX9_spelled_7 rfl (lv_at hl 0 rfl) ?_
  refine lv_bipush (v := 6) C.x C.b dX9_spelled_8 (by decide) ?_
  refine lv_irem C.x C.b dX9_spelled_10 (by decide) ?_
  refine lv_iadd C.x C.b dX9_spelled_11 ?_
  exact r_i (pr_some h) C hP hS dX9_spelled_12

set_option maxRecDepth 100000 in
set_option maxHeartbeats 4000000 in
theorem c_X9_spelled {l : Launch} {G : Gp} (hI : Wi G) {x0 : Int32} {μ : Mem} {r : Int32} (h : f_X9_spelled x0 μ = some r) : CI l yX9_spelled cX9_spelled 1 (some .int) 0 0 G [.int x0] μ r μ :=
  e_all (lv := [(0, .int x0)]) hI (by decide) (Nat.le_of_ble_eq_true rfl) rfl (fun p e s m args below meth c ls C hP hS hl => b_X9_spelled C h _ _ _ hP hS hl)


def f_X9_moves_64 (x1 : Int32) (q23 : Int32 → Int32 → Int32 → Mem → Option (Int32 × Mem)) (x2 : Int32) (x3 : Int32) (x4 : Int32) (z1 : Int32) (z2 : Int32) (z3 : Int32) (μ : Mem) : Option (Int32 × Mem) := grd (inb z1 36) (lt (st μ 128 z1.toNatClampNeg (z2 + z3)) (fun μ2 => if (rm32 x4 2) = 1 then (grd (inb x4 12) (grd (inb (μ2.1 145 x4.toNatClampNeg) 36) (if (μ2.1 128 (μ2.1 145 x4.toNatClampNeg).toNatClampNeg) = 0 then (grd (inb x4 12) (lt (mn x3 (μ2.1 145 x4.toNatClampNeg)) (fun y10 => lt (x4 + 1) (fun y11 => q23 x2 y10 y11 μ2)))) else (lt (x4 + 1) (fun y8 => q23 x2 x3 y8 μ2))))) else (lt (x4 + 1) (fun y4 => q23 x2 x3 y4 μ2))))
set_option maxRecDepth 100000 in
set_option maxHeartbeats 4000000 in
theorem b_X9_moves_64 {p : Program} {l : Launch} {e : Env} {s : State} {m : MethodId} {args : Array Value} {below : List Frame} {meth : Method} {c : Code} {G : Gp} {O : (Int32 × Mem)} (C : Cx p s m args meth c cX9_moves 5 RX9 (some .boolean) G) {x1 : Int32} {q23 : Int32 → Int32 → Int32 → Mem → Option (Int32 × Mem)} (hq23 : ∀ (x2 : Int32) (x3 : Int32) (x4 : Int32) (μ : Mem), q23 x2 x3 x4 μ = some O → ∀ (H : Heap) (locs : List Loc) (ls : Array Slot), Wm G μ H → va_S (wA G) s.heap H locs → lv_has ls 5 [(0, .ref (G.2.2 122)), (2, .int x2), (3, .int x3), (4, .int x4)] → W p l e (rmm 3 71) s m args below meth c H locs 0 0 (QI below args s G O) (F0 m 23 ls [])) : ∀ (x2 : Int32) (x3 : Int32) (x4 : Int32) (z1 : Int32) (z2 : Int32) (z3 : Int32) (μ : Mem), f_X9_moves_64 x1 q23 x2 x3 x4 z1 z2 z3 μ = some O → ∀ (H : Heap) (locs : List Loc) (ls : Array Slot), Wm G μ H → va_S (wA G) s.heap H locs → lv_has ls 5 [(0, .ref (G.2.2 122)), (2, .int x2), (3, .int x3), (4, .int x4)] → W p l e (rmm 3 71) s m args below meth c H locs 0 0 (QI below args s G O) (F0 m 64 ls [.int z3, .int z2, .int z1, .ref (G.2.2 128)]) := by
  intro x2 x3 x4 z1 z2 z3 μ h H locs ls hP hS hl
  unfold f_X9_moves_64 at h
  refine lv_iadd C.x C.b dX9_moves_64 ?_
  obtain ⟨g1, h⟩ := grd_some h
  refine as_i C hP hS sh_128 g1 dX9_moves_65 (fun H locs hP hS => ?_)
  obtain ⟨μ2, m_μ2, h⟩ := lt_ex h
  have hP : Wm G μ2 H := by rw [m_μ2]; exact hP
  refine lv_iload C.x C.b dX9_moves_66 (lv_at hl 3 rfl) ?_
  refine lv_iconst (v := 2) C.x C.b dX9_moves_68 (by decide) ?_
  refine lv_irem C.x C.b dX9_moves_69 (by decide) ?_
  refine lv_iconst (v := 1) C.x C.b dX9_moves_70 (by decide) ?_
  refine lv_icmp_ne (tgt := 103) C.x C.b dX9_moves_71 (by decide) (fun c3 => ?_) (fun c3 => ?_)
  · have h := (if_neg c3).symm.trans h
    refine lv_iload_n C.x C.b dX9_moves_103 rfl (lv_at hl 2 rfl) ?_
    refine lv_istore_n (lv' := [(3, .int x3), (0, .ref (G.2.2 122)), (2, .int x2), (4, .int x4)]) C.x C.b dX9_moves_104 rfl hl (by decide) rfl (fun ls hl => ?_)
    obtain ⟨y4, e_y4, h⟩ := lt_ex h
    refine lv_iinc (v := y4) (lv' := [(4, .int y4), (3, .int x3), (0, .ref (G.2.2 122)), (2, .int x2)]) C.x C.b dX9_moves_105 hl (k := 3) rfl (by rw [e_y4]; rfl) (by decide) rfl (fun ls hl => ?_)
    refine lv_goto (tgt := 23) C.x C.b dX9_moves_108 (by decide) ?_
    exact hq23 x2 x3 y4 μ2 h _ _ _ hP hS (lv_sub hl [2, 3, 1, 0] rfl)
  · have h := (if_pos c3).symm.trans h
    refine lv_aload_n C.x C.b dX9_moves_74 rfl (lv_at hl 0 rfl) ?_
    refine g_ref (k' := 128) F_9_11 u4_140 C hP sh_122 rfl dX9_moves_75 ?_
    refine lv_aload_n C.x C.b dX9_moves_78 rfl (lv_at hl 0 rfl) ?_
    refine g_ref (k' := 145) F_9_40 u4_169 C hP sh_122 rfl dX9_moves_79 ?_
    refine lv_iload C.x C.b dX9_moves_82 (lv_at hl 3 rfl) ?_
    obtain ⟨g5, h⟩ := grd_some h
    refine a_i C hP sh_145 g5 dX9_moves_84 ?_
    obtain ⟨g6, h⟩ := grd_some h
    refine a_i C hP sh_128 g6 dX9_moves_85 ?_
    refine lv_if_ne (tgt := 103) C.x C.b dX9_moves_86 (by decide) (fun c7 => ?_) (fun c7 => ?_)
    · have h := (if_neg c7).symm.trans h
      refine lv_iload_n C.x C.b dX9_moves_103 rfl (lv_at hl 2 rfl) ?_
      refine lv_istore_n (lv' := [(3, .int x3), (0, .ref (G.2.2 122)), (2, .int x2), (4, .int x4)]) C.x C.b dX9_moves_104 rfl hl (by decide) rfl (fun ls hl => ?_)
      obtain ⟨y8, e_y8, h⟩ := lt_ex h
      refine lv_iinc (v := y8) (lv' := [(4, .int y8), (3, .int x3), (0, .ref (G.2.2 122)), (2, .int x2)]) C.x C.b dX9_moves_105 hl (k := 3) rfl (by rw [e_y8]; rfl) (by decide) rfl (fun ls hl => ?_)
      refine lv_goto (tgt := 23) C.x C.b dX9_moves_108 (by decide) ?_
      exact hq23 x2 x3 y8 μ2 h _ _ _ hP hS (lv_sub hl [2, 3, 1, 0] rfl)
    · have h := (if_pos c7).symm.trans h
      refine lv_iload_n C.x C.b dX9_moves_89 rfl (lv_at hl 2 rfl) ?_
      refine lv_aload_n C.x C.b dX9_moves_90 rfl (lv_at hl 0 rfl) ?_
      refine g_ref (k' := 145) F_9_40 u4_169 C hP sh_122 rfl dX9_moves_91 ?_
      refine lv_iload C.x C.b dX9_moves_94 (lv_at hl 3 rfl) ?_
      obtain ⟨g9, h⟩ := grd_some h
      refine a_i C hP sh_145 g9 dX9_moves_96 ?_
      refine k_min u5_191 C hl.1 ⟨by decide, Nat.le_of_ble_eq_true rfl⟩ dX9_moves_97 ?_
      refine lv_goto (tgt := 104) C.x C.b dX9_moves_100 (by decide) ?_
      refine lv_topi (fun y10 e_y10 => ?_)
      have h := lt_at h e_y10
      refine lv_istore_n (lv' := [(3, .int y10), (0, .ref (G.2.2 122)), (2, .int x2), (4, .int x4)]) C.x C.b dX9_moves_104 rfl hl (by decide) rfl (fun ls hl => ?_)
      obtain ⟨y11, e_y11, h⟩ := lt_ex h
      refine lv_iinc (v := y11) (lv' := [(4, .int y11), (3, .int y10), (0, .ref (G.2.2 122)), (2, .int x2)]) C.x C.b dX9_moves_105 hl (k := 3) rfl (by rw [e_y11]; rfl) (by decide) rfl (fun ls hl => ?_)
      refine lv_goto (tgt := 23) C.x C.b dX9_moves_108 (by decide) ?_
      exact hq23 x2 y10 y11 μ2 h _ _ _ hP hS (lv_sub hl [2, 3, 1, 0] rfl)

def g_X9_moves_23 (x1 : Int32)  (q23 : Int32 → Int32 → Int32 → Mem → Option (Int32 × Mem)) (x2 : Int32) (x3 : Int32) (x4 : Int32) (μ : Mem) : Option (Int32 × Mem) := if (μ.1 122 41) ≤ x4 then (grd (inb x2 36) (lt (st μ 129 x2.toNatClampNeg 1) (fun μ3 => grd (inb x3 36) (lt (st μ3 129 x3.toNatClampNeg 0) (fun μ5 => bnv (f_X9_spelled x2 μ5) (fun r7 => grd (inb (3 * (μ5.1 122 9)) 300) (lt (st μ5 130 (3 * (μ5.1 122 9)).toNatClampNeg r7) (fun μ9 => bnv (f_X9_spelled x3 μ9) (fun r11 => grd (inb ((3 * (μ9.1 122 9)) + 1) 300) (lt (st μ9 130 ((3 * (μ9.1 122 9)) + 1).toNatClampNeg r11) (fun μ13 => grd (inb ((3 * (μ13.1 122 9)) + 2) 300) (lt (st μ13 130 ((3 * (μ13.1 122 9)) + 2).toNatClampNeg (μ13.1 122 42)) (fun μ15 => lt (st μ15 122 9 ((μ15.1 122 9) + 1)) (fun μ16 => some (1, μ16))))))))))))))) else (grd (inb x4 12) (grd (inb (μ.1 145 x4.toNatClampNeg) 36) (if (rm32 x4 2) = 0 then (f_X9_moves_64 x1 q23 x2 x3 x4 (μ.1 145 x4.toNatClampNeg) (μ.1 128 (μ.1 145 x4.toNatClampNeg).toNatClampNeg) (μ.1 122 42) μ) else (f_X9_moves_64 x1 q23 x2 x3 x4 (μ.1 145 x4.toNatClampNeg) (μ.1 128 (μ.1 145 x4.toNatClampNeg).toNatClampNeg) (-(μ.1 122 42)) μ))))
def f_X9_moves_23 (x1 : Int32)  : Nat → Int32 → Int32 → Int32 → Mem → Option (Int32 × Mem)
  | 0, _, _, _, _ => none
  | n + 1, x2, x3, x4, μ => g_X9_moves_23 x1 (f_X9_moves_23 x1 n) x2 x3 x4 μ
set_option maxRecDepth 100000 in
set_option maxHeartbeats 4000000 in
theorem w_X9_moves_23 {p : Program} {l : Launch} {e : Env} {s : State} {m : MethodId} {args : Array Value} {below : List Frame} {meth : Method} {c : Code} {G : Gp} {O : (Int32 × Mem)} (C : Cx p s m args meth c cX9_moves 5 RX9 (some .boolean) G) {x1 : Int32} {q23 : Int32 → Int32 → Int32 → Mem → Option (Int32 × Mem)} (hq23 : ∀ (x2 : Int32) (x3 : Int32) (x4 : Int32) (μ : Mem), q23 x2 x3 x4 μ = some O → ∀ (H : Heap) (locs : List Loc) (ls : Array Slot), Wm G μ H → va_S (wA G) s.heap H locs → lv_has ls 5 [(0, .ref (G.2.2 122)), (2, .int x2), (3, .int x3), (4, .int x4)] → W p l e (rmm 3 71) s m args below meth c H locs 0 0 (QI below args s G O) (F0 m 23 ls [])) : ∀ (x2 : Int32) (x3 : Int32) (x4 : Int32) (μ : Mem), g_X9_moves_23 x1 q23 x2 x3 x4 μ = some O → ∀ (H : Heap) (locs : List Loc) (ls : Array Slot), Wm G μ H → va_S (wA G) s.heap H locs → lv_has ls 5 [(0, .ref (G.2.2 122)), (2, .int x2), (3, .int x3), (4, .int x4)] → W p l e (rmm 3 71) s m args below meth c H locs 0 0 (QI below args s G O) (F0 m 23 ls []) := by
  intro x2 x3 x4 μ h H locs ls hP hS hl
  unfold g_X9_moves_23 at h
  refine lv_iload C.x C.b dX9_moves_23 (lv_at hl 3 rfl) ?_
  refine lv_aload_n C.x C.b dX9_moves_25 rfl (lv_at hl 0 rfl) ?_
  refine g_int F_9_41 u4_170 C hP sh_122 dX9_moves_26 ?_
  refine lv_icmp_ge (tgt := 111) C.x C.b dX9_moves_29 (by decide) (fun c1 => ?_) (fun c1 => ?_)
  · have h := (if_pos c1).symm.trans h
    refine lv_aload_n C.x C.b dX9_moves_111 rfl (lv_at hl 0 rfl) ?_
    refine g_ref (k' := 129) F_9_12 u4_141 C hP sh_122 rfl dX9_moves_112 ?_
    refine lv_iload_n C.x C.b dX9_moves_115 rfl (lv_at hl 1 rfl) ?_
    refine lv_iconst (v := 1) C.x C.b dX9_moves_116 (by decide) ?_
    obtain ⟨g2, h⟩ := grd_some h
    refine as_i C hP hS sh_129 g2 dX9_moves_117 (fun H locs hP hS => ?_)
    obtain ⟨μ3, m_μ3, h⟩ := lt_ex h
    have hP : Wm G μ3 H := by rw [m_μ3]; exact hP
    refine lv_aload_n C.x C.b dX9_moves_118 rfl (lv_at hl 0 rfl) ?_
    refine g_ref (k' := 129) F_9_12 u4_141 C hP sh_122 rfl dX9_moves_119 ?_
    refine lv_iload_n C.x C.b dX9_moves_122 rfl (lv_at hl 2 rfl) ?_
    refine lv_iconst (v := 0) C.x C.b dX9_moves_123 (by decide) ?_
    obtain ⟨g4, h⟩ := grd_some h
    refine as_i C hP hS sh_129 g4 dX9_moves_124 (fun H locs hP hS => ?_)
    obtain ⟨μ5, m_μ5, h⟩ := lt_ex h
    have hP : Wm G μ5 H := by rw [m_μ5]; exact hP
    refine lv_aload_n C.x C.b dX9_moves_125 rfl (lv_at hl 0 rfl) ?_
    refine g_ref (k' := 130) F_9_13 u4_142 C hP sh_122 rfl dX9_moves_126 ?_
    refine lv_iconst (v := 3) C.x C.b dX9_moves_129 (by decide) ?_
    refine lv_aload_n C.x C.b dX9_moves_130 rfl (lv_at hl 0 rfl) ?_
    refine g_int F_9_9 u4_138 C hP sh_122 dX9_moves_131 ?_
    refine lv_imul C.x C.b dX9_moves_134 ?_
    refine lv_iload_n C.x C.b dX9_moves_135 rfl (lv_at hl 1 rfl) ?_
    obtain ⟨r7, e6, h⟩ := bnv_some h
    refine k_si (as := [.int x2]) (rest := [.int (3 * (μ5.1 122 9)), .ref (G.2.2 130)]) (c_X9_spelled C.i e6) M_X9_spelled u5_238 C hP hS rfl (by decide) hl.1 rfl (Nat.le_of_ble_eq_true rfl) dX9_moves_136 (fun H locs hP hS => ?_)
    obtain ⟨g8, h⟩ := grd_some h
    refine as_i C hP hS sh_130 g8 dX9_moves_139 (fun H locs hP hS => ?_)
    obtain ⟨μ9, m_μ9, h⟩ := lt_ex h
    have hP : Wm G μ9 H := by rw [m_μ9]; exact hP
    refine lv_aload_n C.x C.b dX9_moves_140 rfl (lv_at hl 0 rfl) ?_
    refine g_ref (k' := 130) F_9_13 u4_142 C hP sh_122 rfl dX9_moves_141 ?_
    refine lv_iconst (v := 3) C.x C.b dX9_moves_144 (by decide) ?_
    refine lv_aload_n C.x C.b dX9_moves_145 rfl (lv_at hl 0 rfl) ?_
    refine g_int F_9_9 u4_138 C hP sh_122 dX9_moves_146 ?_
    refine lv_imul C.x C.b dX9_moves_149 ?_
    refine lv_iconst (v := 1) C.x C.b dX9_moves_150 (by decide) ?_
    refine lv_iadd C.x C.b dX9_moves_151 ?_
    refine lv_iload_n C.x C.b dX9_moves_152 rfl (lv_at hl 2 rfl) ?_
    obtain ⟨r11, e10, h⟩ := bnv_some h
    refine k_si (as := [.int x3]) (rest := [.int ((3 * (μ9.1 122 9)) + 1), .ref (G.2.2 130)]) (c_X9_spelled C.i e10) M_X9_spelled u5_238 C hP hS rfl (by decide) hl.1 rfl (Nat.le_of_ble_eq_true rfl) dX9_moves_153 (fun H locs hP hS => ?_)
    obtain ⟨g12, h⟩ := grd_some h
    refine as_i C hP hS sh_130 g12 dX9_moves_156 (fun H locs hP hS => ?_)
    obtain ⟨μ13, m_μ13, h⟩ := lt_ex h
    have hP : Wm G μ13 H := by rw [m_μ13]; exact hP
    refine lv_aload_n C.x C.b dX9_moves_157 rfl (lv_at hl 0 rfl) ?_
    refine g_ref (k' := 130) F_9_13 u4_142 C hP sh_122 rfl dX9_moves_158 ?_
    refine lv_iconst (v := 3) C.x C.b dX9_moves_161 (by decide) ?_
    refine lv_aload_n C.x C.b dX9_moves_162 rfl (lv_at hl 0 rfl) ?_
    refine g_int F_9_9 u4_138 C hP sh_122 dX9_moves_163 ?_
    refine lv_imul C.x C.b dX9_moves_166 ?_
    refine lv_iconst (v := 2) C.x C.b dX9_moves_167 (by decide) ?_
    refine lv_iadd C.x C.b dX9_moves_168 ?_
    refine lv_aload_n C.x C.b dX9_moves_169 rfl (lv_at hl 0 rfl) ?_
    refine g_int F_9_42 u4_171 C hP sh_122 dX9_moves_170 ?_
    obtain ⟨g14, h⟩ := grd_some h
    refine as_i C hP hS sh_130 g14 dX9_moves_173 (fun H locs hP hS => ?_)
    obtain ⟨μ15, m_μ15, h⟩ := lt_ex h
    have hP : Wm G μ15 H := by rw [m_μ15]; exact hP
    refine lv_aload_n C.x C.b dX9_moves_174 rfl (lv_at hl 0 rfl) ?_
    refine lv_dup C.x C.b dX9_moves_175 rfl ?_
    refine g_int F_9_9 u4_138 C hP sh_122 dX9_moves_176 ?_
    refine lv_iconst (v := 1) C.x C.b dX9_moves_179 (by decide) ?_
    refine lv_iadd C.x C.b dX9_moves_180 ?_
    refine p_int F_9_9 P_9_9 u4_138 C hP hS sh_122 dX9_moves_181 (fun H locs hP hS => ?_)
    obtain ⟨μ16, m_μ16, h⟩ := lt_ex h
    have hP : Wm G μ16 H := by rw [m_μ16]; exact hP
    refine lv_iconst (v := 1) C.x C.b dX9_moves_184 (by decide) ?_
    exact r_z h (by decide) C hP hS dX9_moves_185
  · have h := (if_neg c1).symm.trans h
    refine lv_aload_n C.x C.b dX9_moves_32 rfl (lv_at hl 0 rfl) ?_
    refine g_ref (k' := 128) F_9_11 u4_140 C hP sh_122 rfl dX9_moves_33 ?_
    refine lv_aload_n C.x C.b dX9_moves_36 rfl (lv_at hl 0 rfl) ?_
    refine g_ref (k' := 145) F_9_40 u4_169 C hP sh_122 rfl dX9_moves_37 ?_
    refine lv_iload C.x C.b dX9_moves_40 (lv_at hl 3 rfl) ?_
    obtain ⟨g17, h⟩ := grd_some h
    refine a_i C hP sh_145 g17 dX9_moves_42 ?_
    refine lv_dup2_11 C.x C.b dX9_moves_43 rfl rfl ?_
    obtain ⟨g18, h⟩ := grd_some h
    refine a_i C hP sh_128 g18 dX9_moves_44 ?_
    refine lv_iload C.x C.b dX9_moves_45 (lv_at hl 3 rfl) ?_
    refine lv_iconst (v := 2) C.x C.b dX9_moves_47 (by decide) ?_
    refine lv_irem C.x C.b dX9_moves_48 (by decide) ?_
    refine lv_if_ne (tgt := 59) C.x C.b dX9_moves_49 (by decide) (fun c19 => ?_) (fun c19 => ?_)
    · have h := (if_neg c19).symm.trans h
      refine lv_aload_n C.x C.b dX9_moves_59 rfl (lv_at hl 0 rfl) ?_
      refine g_int F_9_42 u4_171 C hP sh_122 dX9_moves_60 ?_
      refine lv_ineg C.x C.b dX9_moves_63 ?_
      exact b_X9_moves_64 C hq23 x2 x3 x4 (μ.1 145 x4.toNatClampNeg) (μ.1 128 (μ.1 145 x4.toNatClampNeg).toNatClampNeg) (-(μ.1 122 42)) μ h _ _ _ hP hS (lv_sub hl [0, 1, 2, 3] rfl)
    · have h := (if_pos c19).symm.trans h
      refine lv_aload_n C.x C.b dX9_moves_52 rfl (lv_at hl 0 rfl) ?_
      refine g_int F_9_42 u4_171 C hP sh_122 dX9_moves_53 ?_
      refine lv_goto (tgt := 64) C.x C.b dX9_moves_56 (by decide) ?_
      exact b_X9_moves_64 C hq23 x2 x3 x4 (μ.1 145 x4.toNatClampNeg) (μ.1 128 (μ.1 145 x4.toNatClampNeg).toNatClampNeg) (μ.1 122 42) μ h _ _ _ hP hS (lv_sub hl [0, 1, 2, 3] rfl)

set_option maxRecDepth 100000 in
set_option maxHeartbeats 4000000 in
theorem b_X9_moves_23 {p : Program} {l : Launch} {e : Env} {s : State} {m : MethodId} {args : Array Value} {below : List Frame} {meth : Method} {c : Code} {G : Gp} {O : (Int32 × Mem)} (C : Cx p s m args meth c cX9_moves 5 RX9 (some .boolean) G) {x1 : Int32} : ∀ (n : Nat) (x2 : Int32) (x3 : Int32) (x4 : Int32) (μ : Mem), f_X9_moves_23 x1 n x2 x3 x4 μ = some O → ∀ (H : Heap) (locs : List Loc) (ls : Array Slot), Wm G μ H → va_S (wA G) s.heap H locs → lv_has ls 5 [(0, .ref (G.2.2 122)), (2, .int x2), (3, .int x3), (4, .int x4)] → W p l e (rmm 3 71) s m args below meth c H locs 0 0 (QI below args s G O) (F0 m 23 ls []) := by
  intro n
  induction n with
  | zero => intro x2 x3 x4 μ h; cases h
  | succ n ih => intro x2 x3 x4 μ h; exact w_X9_moves_23 C (q23 := f_X9_moves_23 x1 n) ih x2 x3 x4 μ h

def f_X9_moves (x1 : Int32) (μ : Mem) : Option (Int32 × Mem) := bnd (f_X9_enterer x1 μ) (fun r2 μ3 => if 0 ≤ r2 then (bnv (f_X9_loops r2 μ3) (fun μ6 => f_X9_moves_23 x1 FU r2 36 0 μ6)) else (some (0, μ3)))
set_option maxRecDepth 100000 in
set_option maxHeartbeats 4000000 in
theorem b_X9_moves {p : Program} {l : Launch} {e : Env} {s : State} {m : MethodId} {args : Array Value} {below : List Frame} {meth : Method} {c : Code} {G : Gp} {O : (Int32 × Mem)} (C : Cx p s m args meth c cX9_moves 5 RX9 (some .boolean) G) {x1 : Int32} {μ : Mem} (h : f_X9_moves x1 μ = some O) : ∀ (H : Heap) (locs : List Loc) (ls : Array Slot), Wm G μ H → va_S (wA G) s.heap H locs → lv_has ls 5 [(0, .ref (G.2.2 122)), (1, .int x1)] → W p l e (rmm 3 71) s m args below meth c H locs 0 0 (QI below args s G O) (F0 m 0 ls []) := by
  unfold f_X9_moves at h
  intro H locs ls hP hS hl
  refine lv_aload_n C.x C.b dX9_moves_0 rfl (lv_at hl 0 rfl) ?_
  refine lv_iload_n C.x C.b dX9_moves_1 rfl (lv_at hl 1 rfl) ?_
  obtain ⟨r2, μ3, e1, h⟩ := bnd_some h
  refine k_vi (k := 122) (as := [.int x1]) (rest := []) (c_X9_enterer C.i e1) M_X9_enterer u5_209 C hP hS sh_122 rfl rfl (by decide) hl.1 rfl (Nat.le_of_ble_eq_true rfl) dX9_moves_2 (fun H locs hP hS => ?_)
  refine lv_istore_n (lv' := [(2, .int r2), (0, .ref (G.2.2 122)), (1, .int x1)]) C.x C.b dX9_moves_5 rfl hl (by decide) rfl (fun ls hl => ?_)
  refine lv_iload_n C.x C.b dX9_moves_6 rfl (lv_at hl 0 rfl) ?_
  refine lv_if_ge (tgt := 12) C.x C.b dX9_moves_7 (by decide) (fun c4 => ?_) (fun c4 => ?_)
  · have h := (if_pos c4).symm.trans h
    refine lv_aload_n C.x C.b dX9_moves_12 rfl (lv_at hl 1 rfl) ?_
    refine lv_iload_n C.x C.b dX9_moves_13 rfl (lv_at hl 0 rfl) ?_
    obtain ⟨μ6, e5, h⟩ := bnv_some h
    refine k_vv (k := 122) (as := [.int r2]) (rest := []) (c_X9_loops C.i e5) M_X9_loops u5_225 C hP hS sh_122 rfl rfl (by decide) hl.1 rfl (Nat.le_of_ble_eq_true rfl) dX9_moves_14 (fun H locs hP hS => ?_)
    refine lv_bipush (v := 36) C.x C.b dX9_moves_17 (by decide) ?_
    refine lv_istore_n (lv' := [(3, .int 36), (2, .int r2), (0, .ref (G.2.2 122)), (1, .int x1)]) C.x C.b dX9_moves_19 rfl hl (by decide) rfl (fun ls hl => ?_)
    refine lv_iconst (v := 0) C.x C.b dX9_moves_20 (by decide) ?_
    refine lv_istore (lv' := [(4, .int 0), (3, .int 36), (2, .int r2), (0, .ref (G.2.2 122)), (1, .int x1)]) C.x C.b dX9_moves_21 hl (by decide) rfl (fun ls hl => ?_)
    exact b_X9_moves_23 C FU r2 36 0 μ6 h _ _ _ hP hS (lv_sub hl [3, 2, 1, 0] rfl)
  · have h := (if_neg c4).symm.trans h
    refine lv_iconst (v := 0) C.x C.b dX9_moves_10 (by decide) ?_
    exact r_z h (by decide) C hP hS dX9_moves_11

set_option maxRecDepth 100000 in
set_option maxHeartbeats 4000000 in
theorem c_X9_moves {l : Launch} {G : Gp} (hI : Wi G) {x1 : Int32} {μ : Mem} {r : Int32} {μ' : Mem} (h : f_X9_moves x1 μ = some (r, μ')) : CI l yX9_moves cX9_moves 5 (some .boolean) 3 71 G [.ref (G.2.2 122), .int x1] μ r μ' :=
  e_all (lv := [(0, .ref (G.2.2 122)), (1, .int x1)]) hI (by decide) (Nat.le_of_ble_eq_true rfl) rfl (fun p e s m args below meth c ls C hP hS hl => b_X9_moves C h _ _ _ hP hS hl)


def g_X9_goes_2 (x1 : Int32) (x2 : Int32)  (q2 : Int32 → Mem → Option (Int32 × Mem)) (x3 : Int32) (μ : Mem) : Option (Int32 × Mem) := if x2 ≤ x3 then (some (x3, μ)) else (if 100 ≤ (μ.1 122 9) then (some (x3, μ)) else (bnd (f_X9_moves x1 μ) (fun r4 μ5 => if r4 = 0 then (some (x3, μ5)) else (lt (x3 + 1) (fun y7 => q2 y7 μ5)))))
def f_X9_goes_2 (x1 : Int32) (x2 : Int32)  : Nat → Int32 → Mem → Option (Int32 × Mem)
  | 0, _, _ => none
  | n + 1, x3, μ => g_X9_goes_2 x1 x2 (f_X9_goes_2 x1 x2 n) x3 μ
set_option maxRecDepth 100000 in
set_option maxHeartbeats 4000000 in
theorem w_X9_goes_2 {p : Program} {l : Launch} {e : Env} {s : State} {m : MethodId} {args : Array Value} {below : List Frame} {meth : Method} {c : Code} {G : Gp} {O : (Int32 × Mem)} (C : Cx p s m args meth c cX9_goes 4 RX9 (some .int) G) {x1 : Int32} {x2 : Int32} {q2 : Int32 → Mem → Option (Int32 × Mem)} (hq2 : ∀ (x3 : Int32) (μ : Mem), q2 x3 μ = some O → ∀ (H : Heap) (locs : List Loc) (ls : Array Slot), Wm G μ H → va_S (wA G) s.heap H locs → lv_has ls 4 [(0, .ref (G.2.2 122)), (1, .int x1), (2, .int x2), (3, .int x3)] → W p l e (rmm 4 95) s m args below meth c H locs 0 0 (QI below args s G O) (F0 m 2 ls [])) : ∀ (x3 : Int32) (μ : Mem), g_X9_goes_2 x1 x2 q2 x3 μ = some O → ∀ (H : Heap) (locs : List Loc) (ls : Array Slot), Wm G μ H → va_S (wA G) s.heap H locs → lv_has ls 4 [(0, .ref (G.2.2 122)), (1, .int x1), (2, .int x2), (3, .int x3)] → W p l e (rmm 4 95) s m args below meth c H locs 0 0 (QI below args s G O) (F0 m 2 ls []) := by
  intro x3 μ h H locs ls hP hS hl
  unfold g_X9_goes_2 at h
  refine lv_iload_n C.x C.b dX9_goes_2 rfl (lv_at hl 3 rfl) ?_
  refine lv_iload_n C.x C.b dX9_goes_3 rfl (lv_at hl 2 rfl) ?_
  refine lv_icmp_ge (tgt := 30) C.x C.b dX9_goes_4 (by decide) (fun c1 => ?_) (fun c1 => ?_)
  · have h := (if_pos c1).symm.trans h
    refine lv_iload_n C.x C.b dX9_goes_30 rfl (lv_at hl 3 rfl) ?_
    exact r_i h C hP hS dX9_goes_31
  · have h := (if_neg c1).symm.trans h
    refine lv_aload_n C.x C.b dX9_goes_7 rfl (lv_at hl 0 rfl) ?_
    refine g_int F_9_9 u4_138 C hP sh_122 dX9_goes_8 ?_
    refine lv_bipush (v := 100) C.x C.b dX9_goes_11 (by decide) ?_
    refine lv_icmp_ge (tgt := 30) C.x C.b dX9_goes_13 (by decide) (fun c2 => ?_) (fun c2 => ?_)
    · have h := (if_pos c2).symm.trans h
      refine lv_iload_n C.x C.b dX9_goes_30 rfl (lv_at hl 3 rfl) ?_
      exact r_i h C hP hS dX9_goes_31
    · have h := (if_neg c2).symm.trans h
      refine lv_aload_n C.x C.b dX9_goes_16 rfl (lv_at hl 0 rfl) ?_
      refine lv_iload_n C.x C.b dX9_goes_17 rfl (lv_at hl 1 rfl) ?_
      obtain ⟨r4, μ5, e3, h⟩ := bnd_some h
      refine k_vi (k := 122) (as := [.int x1]) (rest := []) (c_X9_moves C.i e3) M_X9_moves u5_205 C hP hS sh_122 rfl rfl (by decide) hl.1 rfl (Nat.le_of_ble_eq_true rfl) dX9_goes_18 (fun H locs hP hS => ?_)
      refine lv_if_eq (tgt := 30) C.x C.b dX9_goes_21 (by decide) (fun c6 => ?_) (fun c6 => ?_)
      · have h := (if_pos c6).symm.trans h
        refine lv_iload_n C.x C.b dX9_goes_30 rfl (lv_at hl 3 rfl) ?_
        exact r_i h C hP hS dX9_goes_31
      · have h := (if_neg c6).symm.trans h
        obtain ⟨y7, e_y7, h⟩ := lt_ex h
        refine lv_iinc (v := y7) (lv' := [(3, .int y7), (0, .ref (G.2.2 122)), (1, .int x1), (2, .int x2)]) C.x C.b dX9_goes_24 hl (k := 3) rfl (by rw [e_y7]; rfl) (by decide) rfl (fun ls hl => ?_)
        refine lv_goto (tgt := 2) C.x C.b dX9_goes_27 (by decide) ?_
        exact hq2 y7 μ5 h _ _ _ hP hS (lv_sub hl [1, 2, 3, 0] rfl)

set_option maxRecDepth 100000 in
set_option maxHeartbeats 4000000 in
theorem b_X9_goes_2 {p : Program} {l : Launch} {e : Env} {s : State} {m : MethodId} {args : Array Value} {below : List Frame} {meth : Method} {c : Code} {G : Gp} {O : (Int32 × Mem)} (C : Cx p s m args meth c cX9_goes 4 RX9 (some .int) G) {x1 : Int32} {x2 : Int32} : ∀ (n : Nat) (x3 : Int32) (μ : Mem), f_X9_goes_2 x1 x2 n x3 μ = some O → ∀ (H : Heap) (locs : List Loc) (ls : Array Slot), Wm G μ H → va_S (wA G) s.heap H locs → lv_has ls 4 [(0, .ref (G.2.2 122)), (1, .int x1), (2, .int x2), (3, .int x3)] → W p l e (rmm 4 95) s m args below meth c H locs 0 0 (QI below args s G O) (F0 m 2 ls []) := by
  intro n
  induction n with
  | zero => intro x3 μ h; cases h
  | succ n ih => intro x3 μ h; exact w_X9_goes_2 C (q2 := f_X9_goes_2 x1 x2 n) ih x3 μ h

def f_X9_goes (x1 : Int32) (x2 : Int32) (μ : Mem) : Option (Int32 × Mem) := f_X9_goes_2 x1 x2 FU 0 μ
set_option maxRecDepth 100000 in
set_option maxHeartbeats 4000000 in
theorem b_X9_goes {p : Program} {l : Launch} {e : Env} {s : State} {m : MethodId} {args : Array Value} {below : List Frame} {meth : Method} {c : Code} {G : Gp} {O : (Int32 × Mem)} (C : Cx p s m args meth c cX9_goes 4 RX9 (some .int) G) {x1 : Int32} {x2 : Int32} {μ : Mem} (h : f_X9_goes x1 x2 μ = some O) : ∀ (H : Heap) (locs : List Loc) (ls : Array Slot), Wm G μ H → va_S (wA G) s.heap H locs → lv_has ls 4 [(0, .ref (G.2.2 122)), (1, .int x1), (2, .int x2)] → W p l e (rmm 4 95) s m args below meth c H locs 0 0 (QI below args s G O) (F0 m 0 ls []) := by
  unfold f_X9_goes at h
  intro H locs ls hP hS hl
  refine lv_iconst (v := 0) C.x C.b dX9_goes_0 (by decide) ?_
  refine lv_istore_n (lv' := [(3, .int 0), (0, .ref (G.2.2 122)), (1, .int x1), (2, .int x2)]) C.x C.b dX9_goes_1 rfl hl (by decide) rfl (fun ls hl => ?_)
  exact b_X9_goes_2 C FU 0 μ h _ _ _ hP hS (lv_sub hl [1, 2, 3, 0] rfl)

set_option maxRecDepth 100000 in
set_option maxHeartbeats 4000000 in
theorem c_X9_goes {l : Launch} {G : Gp} (hI : Wi G) {x1 : Int32} {x2 : Int32} {μ : Mem} {r : Int32} {μ' : Mem} (h : f_X9_goes x1 x2 μ = some (r, μ')) : CI l yX9_goes cX9_goes 4 (some .int) 4 95 G [.ref (G.2.2 122), .int x1, .int x2] μ r μ' :=
  e_all (lv := [(0, .ref (G.2.2 122)), (1, .int x1), (2, .int x2)]) hI (by decide) (Nat.le_of_ble_eq_true rfl) rfl (fun p e s m args below meth c ls C hP hS hl => b_X9_goes C h _ _ _ hP hS hl)


def f_X9_step (x1 : Int32) (x2 : Int32) (μ : Mem) : Option (Int32 × Mem) := bnv (f_X9_in (Int32.toInt64 x1) 0 2 μ) (fun r2 => if r2 = 0 then (some ((-2), μ)) else (bnv (f_X9_in (Int32.toInt64 x2) 0 100 μ) (fun r5 => if r5 = 0 then (some ((-2), μ)) else (if (μ.1 122 6) = 0 then (some ((-3), μ)) else (bnd (f_X9_goes x1 x2 μ) (fun r9 μ10 => some (r9, μ10)))))))
set_option maxRecDepth 100000 in
set_option maxHeartbeats 4000000 in
theorem b_X9_step {p : Program} {l : Launch} {e : Env} {s : State} {m : MethodId} {args : Array Value} {below : List Frame} {meth : Method} {c : Code} {G : Gp} {O : (Int32 × Mem)} (C : Cx p s m args meth c cX9_step 3 RX9 (some .int) G) {x1 : Int32} {x2 : Int32} {μ : Mem} (h : f_X9_step x1 x2 μ = some O) : ∀ (H : Heap) (locs : List Loc) (ls : Array Slot), Wm G μ H → va_S (wA G) s.heap H locs → lv_has ls 3 [(0, .ref (G.2.2 122)), (1, .int x1), (2, .int x2)] → W p l e (rmm 5 118) s m args below meth c H locs 0 0 (QI below args s G O) (F0 m 0 ls []) := by
  unfold f_X9_step at h
  intro H locs ls hP hS hl
  refine lv_iload_n C.x C.b dX9_step_0 rfl (lv_at hl 1 rfl) ?_
  refine lv_i2l (v := Int32.toInt64 x1) C.x C.b dX9_step_1 rfl ?_
  refine lv_lconst (v := 0) C.x C.b dX9_step_2 (by decide) ?_
  refine lv_ldc2 (own := RX9) (v := 2) C.x C.b C.o (C.t _ u5_110) dX9_step_3 ?_
  obtain ⟨r2, e1, h⟩ := bnv_some h
  refine k_si (as := [.long (Int32.toInt64 x1), .long 0, .long 2]) (rest := []) (c_X9_in C.i e1) M_X9_in u5_72 C hP hS rfl (by decide) hl.1 rfl (Nat.le_of_ble_eq_true rfl) dX9_step_6 (fun H locs hP hS => ?_)
  refine lv_if_eq (tgt := 24) C.x C.b dX9_step_9 (by decide) (fun c3 => ?_) (fun c3 => ?_)
  · have h := (if_pos c3).symm.trans h
    refine lv_bipush (v := (-2)) C.x C.b dX9_step_24 (by decide) ?_
    exact r_i h C hP hS dX9_step_26
  · have h := (if_neg c3).symm.trans h
    refine lv_iload_n C.x C.b dX9_step_12 rfl (lv_at hl 2 rfl) ?_
    refine lv_i2l (v := Int32.toInt64 x2) C.x C.b dX9_step_13 rfl ?_
    refine lv_lconst (v := 0) C.x C.b dX9_step_14 (by decide) ?_
    refine lv_ldc2 (own := RX9) (v := 100) C.x C.b C.o (C.t _ u5_200) dX9_step_15 ?_
    obtain ⟨r5, e4, h⟩ := bnv_some h
    refine k_si (as := [.long (Int32.toInt64 x2), .long 0, .long 100]) (rest := []) (c_X9_in C.i e4) M_X9_in u5_72 C hP hS rfl (by decide) hl.1 rfl (Nat.le_of_ble_eq_true rfl) dX9_step_18 (fun H locs hP hS => ?_)
    refine lv_if_ne (tgt := 27) C.x C.b dX9_step_21 (by decide) (fun c6 => ?_) (fun c6 => ?_)
    · have h := (if_neg c6).symm.trans h
      refine lv_aload_n C.x C.b dX9_step_27 rfl (lv_at hl 0 rfl) ?_
      refine g_int F_9_6 u4_135 C hP sh_122 dX9_step_28 ?_
      refine lv_if_ne (tgt := 39) C.x C.b dX9_step_31 (by decide) (fun c7 => ?_) (fun c7 => ?_)
      · have h := (if_neg c7).symm.trans h
        refine lv_aload_n C.x C.b dX9_step_39 rfl (lv_at hl 0 rfl) ?_
        refine lv_iload_n C.x C.b dX9_step_40 rfl (lv_at hl 1 rfl) ?_
        refine lv_iload_n C.x C.b dX9_step_41 rfl (lv_at hl 2 rfl) ?_
        obtain ⟨r9, μ10, e8, h⟩ := bnd_some h
        refine k_vi (k := 122) (as := [.int x1, .int x2]) (rest := []) (c_X9_goes C.i e8) M_X9_goes u5_201 C hP hS sh_122 rfl rfl (by decide) hl.1 rfl (Nat.le_of_ble_eq_true rfl) dX9_step_42 (fun H locs hP hS => ?_)
        exact r_i h C hP hS dX9_step_45
      · have h := (if_pos c7).symm.trans h
        refine lv_bipush (v := (-3)) C.x C.b dX9_step_34 (by decide) ?_
        refine lv_goto (tgt := 45) C.x C.b dX9_step_36 (by decide) ?_
        exact r_i h C hP hS dX9_step_45
    · have h := (if_pos c6).symm.trans h
      refine lv_bipush (v := (-2)) C.x C.b dX9_step_24 (by decide) ?_
      exact r_i h C hP hS dX9_step_26

set_option maxRecDepth 100000 in
set_option maxHeartbeats 4000000 in
theorem c_X9_step {l : Launch} {G : Gp} (hI : Wi G) {x1 : Int32} {x2 : Int32} {μ : Mem} {r : Int32} {μ' : Mem} (h : f_X9_step x1 x2 μ = some (r, μ')) : CI l yX9_step cX9_step 3 (some .int) 5 118 G [.ref (G.2.2 122), .int x1, .int x2] μ r μ' :=
  e_all (lv := [(0, .ref (G.2.2 122)), (1, .int x1), (2, .int x2)]) hI (by decide) (Nat.le_of_ble_eq_true rfl) rfl (fun p e s m args below meth c ls C hP hS hl => b_X9_step C h _ _ _ hP hS hl)


def f_X9_load (x1 : Int32) (x2 : Int32) (μ : Mem) : Option Int32 := if (μ.1 122 6) = 0 then (some ((-3))) else (bnv (f_X9_isCell x1 x2 μ) (fun r3 => if r3 = 0 then (some ((-1))) else (grd (inb ((6 * x1) + x2) 36) (some (μ.1 128 ((6 * x1) + x2).toNatClampNeg)))))
set_option maxRecDepth 100000 in
set_option maxHeartbeats 4000000 in
theorem b_X9_load {p : Program} {l : Launch} {e : Env} {s : State} {m : MethodId} {args : Array Value} {below : List Frame} {meth : Method} {c : Code} {G : Gp} {O : Int32} (C : Cx p s m args meth c cX9_load 3 RX9 (some .int) G) {x1 : Int32} {x2 : Int32} {μ : Mem} (h : f_X9_load x1 x2 μ = some O) : ∀ (H : Heap) (locs : List Loc) (ls : Array Slot), Wm G μ H → va_S (wA G) s.heap H locs → lv_has ls 3 [(0, .ref (G.2.2 122)), (1, .int x1), (2, .int x2)] → W p l e (rmm 2 47) s m args below meth c H locs 0 0 (QI below args s G (O, μ)) (F0 m 0 ls []) := by
  unfold f_X9_load at h
  intro H locs ls hP hS hl
  refine lv_aload_n C.x C.b dX9_load_0 rfl (lv_at hl 0 rfl) ?_
  refine g_int F_9_6 u4_135 C hP sh_122 dX9_load_1 ?_
  refine lv_if_ne (tgt := 10) C.x C.b dX9_load_4 (by decide) (fun c1 => ?_) (fun c1 => ?_)
  · have h := (if_neg c1).symm.trans h
    refine lv_aload_n C.x C.b dX9_load_10 rfl (lv_at hl 0 rfl) ?_
    refine lv_iload_n C.x C.b dX9_load_11 rfl (lv_at hl 1 rfl) ?_
    refine lv_iload_n C.x C.b dX9_load_12 rfl (lv_at hl 2 rfl) ?_
    obtain ⟨r3, e2, h⟩ := bnv_some h
    refine k_vi (k := 122) (as := [.int x1, .int x2]) (rest := []) (c_X9_isCell C.i e2) M_X9_isCell u6_5 C hP hS sh_122 rfl rfl (by decide) hl.1 rfl (Nat.le_of_ble_eq_true rfl) dX9_load_13 (fun H locs hP hS => ?_)
    refine lv_if_eq (tgt := 33) C.x C.b dX9_load_16 (by decide) (fun c4 => ?_) (fun c4 => ?_)
    · have h := (if_pos c4).symm.trans h
      refine lv_iconst (v := (-1)) C.x C.b dX9_load_33 (by decide) ?_
      exact r_i (pr_some h) C hP hS dX9_load_34
    · have h := (if_neg c4).symm.trans h
      refine lv_aload_n C.x C.b dX9_load_19 rfl (lv_at hl 0 rfl) ?_
      refine g_ref (k' := 128) F_9_11 u4_140 C hP sh_122 rfl dX9_load_20 ?_
      refine lv_bipush (v := 6) C.x C.b dX9_load_23 (by decide) ?_
      refine lv_iload_n C.x C.b dX9_load_25 rfl (lv_at hl 1 rfl) ?_
      refine lv_imul C.x C.b dX9_load_26 ?_
      refine lv_iload_n C.x C.b dX9_load_27 rfl (lv_at hl 2 rfl) ?_
      refine lv_iadd C.x C.b dX9_load_28 ?_
      obtain ⟨g5, h⟩ := grd_some h
      refine a_i C hP sh_128 g5 dX9_load_29 ?_
      refine lv_goto (tgt := 34) C.x C.b dX9_load_30 (by decide) ?_
      exact r_i (pr_some h) C hP hS dX9_load_34
  · have h := (if_pos c1).symm.trans h
    refine lv_bipush (v := (-3)) C.x C.b dX9_load_7 (by decide) ?_
    exact r_i (pr_some h) C hP hS dX9_load_9

set_option maxRecDepth 100000 in
set_option maxHeartbeats 4000000 in
theorem c_X9_load {l : Launch} {G : Gp} (hI : Wi G) {x1 : Int32} {x2 : Int32} {μ : Mem} {r : Int32} (h : f_X9_load x1 x2 μ = some r) : CI l yX9_load cX9_load 3 (some .int) 2 47 G [.ref (G.2.2 122), .int x1, .int x2] μ r μ :=
  e_all (lv := [(0, .ref (G.2.2 122)), (1, .int x1), (2, .int x2)]) hI (by decide) (Nat.le_of_ble_eq_true rfl) rfl (fun p e s m args below meth c ls C hP hS hl => b_X9_load C h _ _ _ hP hS hl)


def f_X9_basic (x1 : Int32) (x2 : Int32) (μ : Mem) : Option Int32 := if (μ.1 122 6) = 0 then (some ((-3))) else (bnv (f_X9_isCell x1 x2 μ) (fun r3 => if r3 = 0 then (some ((-1))) else (grd (inb ((6 * x1) + x2) 36) (some (μ.1 129 ((6 * x1) + x2).toNatClampNeg)))))
set_option maxRecDepth 100000 in
set_option maxHeartbeats 4000000 in
theorem b_X9_basic {p : Program} {l : Launch} {e : Env} {s : State} {m : MethodId} {args : Array Value} {below : List Frame} {meth : Method} {c : Code} {G : Gp} {O : Int32} (C : Cx p s m args meth c cX9_basic 3 RX9 (some .int) G) {x1 : Int32} {x2 : Int32} {μ : Mem} (h : f_X9_basic x1 x2 μ = some O) : ∀ (H : Heap) (locs : List Loc) (ls : Array Slot), Wm G μ H → va_S (wA G) s.heap H locs → lv_has ls 3 [(0, .ref (G.2.2 122)), (1, .int x1), (2, .int x2)] → W p l e (rmm 2 47) s m args below meth c H locs 0 0 (QI below args s G (O, μ)) (F0 m 0 ls []) := by
  unfold f_X9_basic at h
  intro H locs ls hP hS hl
  refine lv_aload_n C.x C.b dX9_basic_0 rfl (lv_at hl 0 rfl) ?_
  refine g_int F_9_6 u4_135 C hP sh_122 dX9_basic_1 ?_
  refine lv_if_ne (tgt := 10) C.x C.b dX9_basic_4 (by decide) (fun c1 => ?_) (fun c1 => ?_)
  · have h := (if_neg c1).symm.trans h
    refine lv_aload_n C.x C.b dX9_basic_10 rfl (lv_at hl 0 rfl) ?_
    refine lv_iload_n C.x C.b dX9_basic_11 rfl (lv_at hl 1 rfl) ?_
    refine lv_iload_n C.x C.b dX9_basic_12 rfl (lv_at hl 2 rfl) ?_
    obtain ⟨r3, e2, h⟩ := bnv_some h
    refine k_vi (k := 122) (as := [.int x1, .int x2]) (rest := []) (c_X9_isCell C.i e2) M_X9_isCell u6_5 C hP hS sh_122 rfl rfl (by decide) hl.1 rfl (Nat.le_of_ble_eq_true rfl) dX9_basic_13 (fun H locs hP hS => ?_)
    refine lv_if_eq (tgt := 33) C.x C.b dX9_basic_16 (by decide) (fun c4 => ?_) (fun c4 => ?_)
    · have h := (if_pos c4).symm.trans h
      refine lv_iconst (v := (-1)) C.x C.b dX9_basic_33 (by decide) ?_
      exact r_i (pr_some h) C hP hS dX9_basic_34
    · have h := (if_neg c4).symm.trans h
      refine lv_aload_n C.x C.b dX9_basic_19 rfl (lv_at hl 0 rfl) ?_
      refine g_ref (k' := 129) F_9_12 u4_141 C hP sh_122 rfl dX9_basic_20 ?_
      refine lv_bipush (v := 6) C.x C.b dX9_basic_23 (by decide) ?_
      refine lv_iload_n C.x C.b dX9_basic_25 rfl (lv_at hl 1 rfl) ?_
      refine lv_imul C.x C.b dX9_basic_26 ?_
      refine lv_iload_n C.x C.b dX9_basic_27 rfl (lv_at hl 2 rfl) ?_
      refine lv_iadd C.x C.b dX9_basic_28 ?_
      obtain ⟨g5, h⟩ := grd_some h
      refine a_i C hP sh_129 g5 dX9_basic_29 ?_
      refine lv_goto (tgt := 34) C.x C.b dX9_basic_30 (by decide) ?_
      exact r_i (pr_some h) C hP hS dX9_basic_34
  · have h := (if_pos c1).symm.trans h
    refine lv_bipush (v := (-3)) C.x C.b dX9_basic_7 (by decide) ?_
    exact r_i (pr_some h) C hP hS dX9_basic_9

set_option maxRecDepth 100000 in
set_option maxHeartbeats 4000000 in
theorem c_X9_basic {l : Launch} {G : Gp} (hI : Wi G) {x1 : Int32} {x2 : Int32} {μ : Mem} {r : Int32} (h : f_X9_basic x1 x2 μ = some r) : CI l yX9_basic cX9_basic 3 (some .int) 2 47 G [.ref (G.2.2 122), .int x1, .int x2] μ r μ :=
  e_all (lv := [(0, .ref (G.2.2 122)), (1, .int x1), (2, .int x2)]) hI (by decide) (Nat.le_of_ble_eq_true rfl) rfl (fun p e s m args below meth c ls C hP hS hl => b_X9_basic C h _ _ _ hP hS hl)


def f_X9_worth_35 (x1 : Int32) (x2 : Int32)  (z0 : Int64) (z1 : Int64) (z2 : Int32) (μ : Mem) : Option (Int64 × Mem) := bnv (f_X9_in z0 z1 (Int32.toInt64 (z2 - 1)) μ) (fun r2 => if r2 = 0 then (some ((-9223372036854775808), μ)) else (bnv (f_X9_values μ) (fun μ5 => grd (inb ((6 * x1) + x2) 12) (some (Int32.toInt64 (μ5.1 142 ((6 * x1) + x2).toNatClampNeg), μ5)))))
set_option maxRecDepth 100000 in
set_option maxHeartbeats 4000000 in
theorem b_X9_worth_35 {p : Program} {l : Launch} {e : Env} {s : State} {m : MethodId} {args : Array Value} {below : List Frame} {meth : Method} {c : Code} {G : Gp} {O : (Int64 × Mem)} (C : Cx p s m args meth c cX9_worth 3 RX9 (some .long) G) {x1 : Int32} {x2 : Int32} : ∀ (z0 : Int64) (z1 : Int64) (z2 : Int32) (μ : Mem), f_X9_worth_35 x1 x2 z0 z1 z2 μ = some O → ∀ (H : Heap) (locs : List Loc) (ls : Array Slot), Wm G μ H → va_S (wA G) s.heap H locs → lv_has ls 3 [(0, .ref (G.2.2 122)), (1, .int x1), (2, .int x2)] → W p l e (rmm 1 25) s m args below meth c H locs 0 0 (QL below args s G O) (F0 m 35 ls [.int z2, .long z1, .long z0]) := by
  intro z0 z1 z2 μ h H locs ls hP hS hl
  unfold f_X9_worth_35 at h
  refine lv_iconst (v := 1) C.x C.b dX9_worth_35 (by decide) ?_
  refine lv_isub C.x C.b dX9_worth_36 ?_
  refine lv_i2l (v := Int32.toInt64 (z2 - 1)) C.x C.b dX9_worth_37 rfl ?_
  obtain ⟨r2, e1, h⟩ := bnv_some h
  refine k_si (as := [.long z0, .long z1, .long (Int32.toInt64 (z2 - 1))]) (rest := []) (c_X9_in C.i e1) M_X9_in u5_72 C hP hS rfl (by decide) hl.1 rfl (Nat.le_of_ble_eq_true rfl) dX9_worth_38 (fun H locs hP hS => ?_)
  refine lv_if_ne (tgt := 48) C.x C.b dX9_worth_41 (by decide) (fun c3 => ?_) (fun c3 => ?_)
  · have h := (if_neg c3).symm.trans h
    refine lv_aload_n C.x C.b dX9_worth_48 rfl (lv_at hl 0 rfl) ?_
    obtain ⟨μ5, e4, h⟩ := bnv_some h
    refine k_vv (k := 122) (as := []) (rest := []) (c_X9_values C.i e4) M_X9_values u5_213 C hP hS sh_122 rfl rfl (by decide) hl.1 rfl (Nat.le_of_ble_eq_true rfl) dX9_worth_49 (fun H locs hP hS => ?_)
    refine lv_aload_n C.x C.b dX9_worth_52 rfl (lv_at hl 0 rfl) ?_
    refine g_ref (k' := 142) F_9_37 u4_166 C hP sh_122 rfl dX9_worth_53 ?_
    refine lv_bipush (v := 6) C.x C.b dX9_worth_56 (by decide) ?_
    refine lv_iload_n C.x C.b dX9_worth_58 rfl (lv_at hl 1 rfl) ?_
    refine lv_imul C.x C.b dX9_worth_59 ?_
    refine lv_iload_n C.x C.b dX9_worth_60 rfl (lv_at hl 2 rfl) ?_
    refine lv_iadd C.x C.b dX9_worth_61 ?_
    obtain ⟨g6, h⟩ := grd_some h
    refine a_i C hP sh_142 g6 dX9_worth_62 ?_
    refine lv_i2l (v := Int32.toInt64 (μ5.1 142 ((6 * x1) + x2).toNatClampNeg)) C.x C.b dX9_worth_63 rfl ?_
    exact r_l h C hP hS dX9_worth_64
  · have h := (if_pos c3).symm.trans h
    refine lv_ldc2 (own := RX9) (v := (-9223372036854775808)) C.x C.b C.o (C.t _ u6_17) dX9_worth_44 ?_
    exact r_l h C hP hS dX9_worth_47

def f_X9_worth (x1 : Int32) (x2 : Int32) (μ : Mem) : Option (Int64 × Mem) := if (μ.1 122 6) = 0 then (some ((-9223372036854775808), μ)) else (bnv (f_X9_in (Int32.toInt64 x1) 0 1 μ) (fun r3 => if r3 = 0 then (some ((-9223372036854775808), μ)) else (if x1 = 0 then (f_X9_worth_35 x1 x2 (Int32.toInt64 x2) 0 (μ.1 122 7) μ) else (f_X9_worth_35 x1 x2 (Int32.toInt64 x2) 0 (μ.1 122 8) μ))))
set_option maxRecDepth 100000 in
set_option maxHeartbeats 4000000 in
theorem b_X9_worth {p : Program} {l : Launch} {e : Env} {s : State} {m : MethodId} {args : Array Value} {below : List Frame} {meth : Method} {c : Code} {G : Gp} {O : (Int64 × Mem)} (C : Cx p s m args meth c cX9_worth 3 RX9 (some .long) G) {x1 : Int32} {x2 : Int32} {μ : Mem} (h : f_X9_worth x1 x2 μ = some O) : ∀ (H : Heap) (locs : List Loc) (ls : Array Slot), Wm G μ H → va_S (wA G) s.heap H locs → lv_has ls 3 [(0, .ref (G.2.2 122)), (1, .int x1), (2, .int x2)] → W p l e (rmm 1 25) s m args below meth c H locs 0 0 (QL below args s G O) (F0 m 0 ls []) := by
  unfold f_X9_worth at h
  intro H locs ls hP hS hl
  refine lv_aload_n C.x C.b dX9_worth_0 rfl (lv_at hl 0 rfl) ?_
  refine g_int F_9_6 u4_135 C hP sh_122 dX9_worth_1 ?_
  refine lv_if_eq (tgt := 44) C.x C.b dX9_worth_4 (by decide) (fun c1 => ?_) (fun c1 => ?_)
  · have h := (if_pos c1).symm.trans h
    refine lv_ldc2 (own := RX9) (v := (-9223372036854775808)) C.x C.b C.o (C.t _ u6_17) dX9_worth_44 ?_
    exact r_l h C hP hS dX9_worth_47
  · have h := (if_neg c1).symm.trans h
    refine lv_iload_n C.x C.b dX9_worth_7 rfl (lv_at hl 1 rfl) ?_
    refine lv_i2l (v := Int32.toInt64 x1) C.x C.b dX9_worth_8 rfl ?_
    refine lv_lconst (v := 0) C.x C.b dX9_worth_9 (by decide) ?_
    refine lv_lconst (v := 1) C.x C.b dX9_worth_10 (by decide) ?_
    obtain ⟨r3, e2, h⟩ := bnv_some h
    refine k_si (as := [.long (Int32.toInt64 x1), .long 0, .long 1]) (rest := []) (c_X9_in C.i e2) M_X9_in u5_72 C hP hS rfl (by decide) hl.1 rfl (Nat.le_of_ble_eq_true rfl) dX9_worth_11 (fun H locs hP hS => ?_)
    refine lv_if_eq (tgt := 44) C.x C.b dX9_worth_14 (by decide) (fun c4 => ?_) (fun c4 => ?_)
    · have h := (if_pos c4).symm.trans h
      refine lv_ldc2 (own := RX9) (v := (-9223372036854775808)) C.x C.b C.o (C.t _ u6_17) dX9_worth_44 ?_
      exact r_l h C hP hS dX9_worth_47
    · have h := (if_neg c4).symm.trans h
      refine lv_iload_n C.x C.b dX9_worth_17 rfl (lv_at hl 2 rfl) ?_
      refine lv_i2l (v := Int32.toInt64 x2) C.x C.b dX9_worth_18 rfl ?_
      refine lv_lconst (v := 0) C.x C.b dX9_worth_19 (by decide) ?_
      refine lv_iload_n C.x C.b dX9_worth_20 rfl (lv_at hl 1 rfl) ?_
      refine lv_if_ne (tgt := 31) C.x C.b dX9_worth_21 (by decide) (fun c5 => ?_) (fun c5 => ?_)
      · have h := (if_neg c5).symm.trans h
        refine lv_aload_n C.x C.b dX9_worth_31 rfl (lv_at hl 0 rfl) ?_
        refine g_int F_9_8 u4_137 C hP sh_122 dX9_worth_32 ?_
        exact b_X9_worth_35 C (Int32.toInt64 x2) 0 (μ.1 122 8) μ h _ _ _ hP hS (lv_sub hl [0, 1, 2] rfl)
      · have h := (if_pos c5).symm.trans h
        refine lv_aload_n C.x C.b dX9_worth_24 rfl (lv_at hl 0 rfl) ?_
        refine g_int F_9_7 u4_136 C hP sh_122 dX9_worth_25 ?_
        refine lv_goto (tgt := 35) C.x C.b dX9_worth_28 (by decide) ?_
        exact b_X9_worth_35 C (Int32.toInt64 x2) 0 (μ.1 122 7) μ h _ _ _ hP hS (lv_sub hl [0, 1, 2] rfl)

set_option maxRecDepth 100000 in
set_option maxHeartbeats 4000000 in
theorem c_X9_worth {l : Launch} {G : Gp} (hI : Wi G) {x1 : Int32} {x2 : Int32} {μ : Mem} {r : Int64} {μ' : Mem} (h : f_X9_worth x1 x2 μ = some (r, μ')) : CL l yX9_worth cX9_worth 3 (some .long) 1 25 G [.ref (G.2.2 122), .int x1, .int x2] μ r μ' :=
  e_all (lv := [(0, .ref (G.2.2 122)), (1, .int x1), (2, .int x2)]) hI (by decide) (Nat.le_of_ble_eq_true rfl) rfl (fun p e s m args below meth c ls C hP hS hl => b_X9_worth C h _ _ _ hP hS hl)


def f_X9_surplus (x1 : Int32) (x2 : Int32) (μ : Mem) : Option (Int64 × Mem) := if (μ.1 122 6) = 0 then (some ((-9223372036854775808), μ)) else (bnv (f_X9_isCell x1 x2 μ) (fun r3 => if r3 = 0 then (some ((-9223372036854775808), μ)) else (bnv (f_X9_values μ) (fun μ6 => bnv (f_X9_over ((6 * x1) + x2) μ6) (fun r8 => some (Int32.toInt64 r8, μ6))))))
set_option maxRecDepth 100000 in
set_option maxHeartbeats 4000000 in
theorem b_X9_surplus {p : Program} {l : Launch} {e : Env} {s : State} {m : MethodId} {args : Array Value} {below : List Frame} {meth : Method} {c : Code} {G : Gp} {O : (Int64 × Mem)} (C : Cx p s m args meth c cX9_surplus 3 RX9 (some .long) G) {x1 : Int32} {x2 : Int32} {μ : Mem} (h : f_X9_surplus x1 x2 μ = some O) : ∀ (H : Heap) (locs : List Loc) (ls : Array Slot), Wm G μ H → va_S (wA G) s.heap H locs → lv_has ls 3 [(0, .ref (G.2.2 122)), (1, .int x1), (2, .int x2)] → W p l e (rmm 2 47) s m args below meth c H locs 0 0 (QL below args s G O) (F0 m 0 ls []) := by
  unfold f_X9_surplus at h
  intro H locs ls hP hS hl
  refine lv_aload_n C.x C.b dX9_surplus_0 rfl (lv_at hl 0 rfl) ?_
  refine g_int F_9_6 u4_135 C hP sh_122 dX9_surplus_1 ?_
  refine lv_if_eq (tgt := 16) C.x C.b dX9_surplus_4 (by decide) (fun c1 => ?_) (fun c1 => ?_)
  · have h := (if_pos c1).symm.trans h
    refine lv_ldc2 (own := RX9) (v := (-9223372036854775808)) C.x C.b C.o (C.t _ u6_17) dX9_surplus_16 ?_
    exact r_l h C hP hS dX9_surplus_19
  · have h := (if_neg c1).symm.trans h
    refine lv_aload_n C.x C.b dX9_surplus_7 rfl (lv_at hl 0 rfl) ?_
    refine lv_iload_n C.x C.b dX9_surplus_8 rfl (lv_at hl 1 rfl) ?_
    refine lv_iload_n C.x C.b dX9_surplus_9 rfl (lv_at hl 2 rfl) ?_
    obtain ⟨r3, e2, h⟩ := bnv_some h
    refine k_vi (k := 122) (as := [.int x1, .int x2]) (rest := []) (c_X9_isCell C.i e2) M_X9_isCell u6_5 C hP hS sh_122 rfl rfl (by decide) hl.1 rfl (Nat.le_of_ble_eq_true rfl) dX9_surplus_10 (fun H locs hP hS => ?_)
    refine lv_if_ne (tgt := 20) C.x C.b dX9_surplus_13 (by decide) (fun c4 => ?_) (fun c4 => ?_)
    · have h := (if_neg c4).symm.trans h
      refine lv_aload_n C.x C.b dX9_surplus_20 rfl (lv_at hl 0 rfl) ?_
      obtain ⟨μ6, e5, h⟩ := bnv_some h
      refine k_vv (k := 122) (as := []) (rest := []) (c_X9_values C.i e5) M_X9_values u5_213 C hP hS sh_122 rfl rfl (by decide) hl.1 rfl (Nat.le_of_ble_eq_true rfl) dX9_surplus_21 (fun H locs hP hS => ?_)
      refine lv_aload_n C.x C.b dX9_surplus_24 rfl (lv_at hl 0 rfl) ?_
      refine lv_bipush (v := 6) C.x C.b dX9_surplus_25 (by decide) ?_
      refine lv_iload_n C.x C.b dX9_surplus_27 rfl (lv_at hl 1 rfl) ?_
      refine lv_imul C.x C.b dX9_surplus_28 ?_
      refine lv_iload_n C.x C.b dX9_surplus_29 rfl (lv_at hl 2 rfl) ?_
      refine lv_iadd C.x C.b dX9_surplus_30 ?_
      obtain ⟨r8, e7, h⟩ := bnv_some h
      refine k_vi (k := 122) (as := [.int ((6 * x1) + x2)]) (rest := []) (c_X9_over C.i e7) M_X9_over u5_221 C hP hS sh_122 rfl rfl (by decide) hl.1 rfl (Nat.le_of_ble_eq_true rfl) dX9_surplus_31 (fun H locs hP hS => ?_)
      refine lv_i2l (v := Int32.toInt64 r8) C.x C.b dX9_surplus_34 rfl ?_
      exact r_l h C hP hS dX9_surplus_35
    · have h := (if_pos c4).symm.trans h
      refine lv_ldc2 (own := RX9) (v := (-9223372036854775808)) C.x C.b C.o (C.t _ u6_17) dX9_surplus_16 ?_
      exact r_l h C hP hS dX9_surplus_19

set_option maxRecDepth 100000 in
set_option maxHeartbeats 4000000 in
theorem c_X9_surplus {l : Launch} {G : Gp} (hI : Wi G) {x1 : Int32} {x2 : Int32} {μ : Mem} {r : Int64} {μ' : Mem} (h : f_X9_surplus x1 x2 μ = some (r, μ')) : CL l yX9_surplus cX9_surplus 3 (some .long) 2 47 G [.ref (G.2.2 122), .int x1, .int x2] μ r μ' :=
  e_all (lv := [(0, .ref (G.2.2 122)), (1, .int x1), (2, .int x2)]) hI (by decide) (Nat.le_of_ble_eq_true rfl) rfl (fun p e s m args below meth c ls C hP hS hl => b_X9_surplus C h _ _ _ hP hS hl)


def f_X9_loop (x1 : Int32) (x2 : Int32) (x3 : Int32) (μ : Mem) : Option (Int32 × Mem) := if (μ.1 122 6) = 0 then (some ((-3), μ)) else (bnv (f_X9_isCell x1 x2 μ) (fun r3 => if r3 = 0 then (some ((-1), μ)) else (grd (inb ((6 * x1) + x2) 36) (if (μ.1 129 ((6 * x1) + x2).toNatClampNeg) = 1 then (some ((-2), μ)) else (bnv (f_X9_loops ((6 * x1) + x2) μ) (fun μ8 => if x3 = ((-2)) then (some (μ8.1 122 42, μ8)) else (if x3 = ((-1)) then (some (μ8.1 122 41, μ8)) else (bnv (f_X9_in (Int32.toInt64 x3) 0 (Int32.toInt64 ((μ8.1 122 41) - 1)) μ8) (fun r12 => if r12 = 0 then (some ((-1), μ8)) else (grd (inb x3 12) (bnv (f_X9_spelled (μ8.1 145 x3.toNatClampNeg) μ8) (fun r16 => some (r16, μ8)))))))))))))
set_option maxRecDepth 100000 in
set_option maxHeartbeats 4000000 in
theorem b_X9_loop {p : Program} {l : Launch} {e : Env} {s : State} {m : MethodId} {args : Array Value} {below : List Frame} {meth : Method} {c : Code} {G : Gp} {O : (Int32 × Mem)} (C : Cx p s m args meth c cX9_loop 4 RX9 (some .int) G) {x1 : Int32} {x2 : Int32} {x3 : Int32} {μ : Mem} (h : f_X9_loop x1 x2 x3 μ = some O) : ∀ (H : Heap) (locs : List Loc) (ls : Array Slot), Wm G μ H → va_S (wA G) s.heap H locs → lv_has ls 4 [(0, .ref (G.2.2 122)), (1, .int x1), (2, .int x2), (3, .int x3)] → W p l e (rmm 2 47) s m args below meth c H locs 0 0 (QI below args s G O) (F0 m 0 ls []) := by
  unfold f_X9_loop at h
  intro H locs ls hP hS hl
  refine lv_aload_n C.x C.b dX9_loop_0 rfl (lv_at hl 0 rfl) ?_
  refine g_int F_9_6 u4_135 C hP sh_122 dX9_loop_1 ?_
  refine lv_if_ne (tgt := 10) C.x C.b dX9_loop_4 (by decide) (fun c1 => ?_) (fun c1 => ?_)
  · have h := (if_neg c1).symm.trans h
    refine lv_aload_n C.x C.b dX9_loop_10 rfl (lv_at hl 0 rfl) ?_
    refine lv_iload_n C.x C.b dX9_loop_11 rfl (lv_at hl 1 rfl) ?_
    refine lv_iload_n C.x C.b dX9_loop_12 rfl (lv_at hl 2 rfl) ?_
    obtain ⟨r3, e2, h⟩ := bnv_some h
    refine k_vi (k := 122) (as := [.int x1, .int x2]) (rest := []) (c_X9_isCell C.i e2) M_X9_isCell u6_5 C hP hS sh_122 rfl rfl (by decide) hl.1 rfl (Nat.le_of_ble_eq_true rfl) dX9_loop_13 (fun H locs hP hS => ?_)
    refine lv_if_ne (tgt := 21) C.x C.b dX9_loop_16 (by decide) (fun c4 => ?_) (fun c4 => ?_)
    · have h := (if_neg c4).symm.trans h
      refine lv_aload_n C.x C.b dX9_loop_21 rfl (lv_at hl 0 rfl) ?_
      refine g_ref (k' := 129) F_9_12 u4_141 C hP sh_122 rfl dX9_loop_22 ?_
      refine lv_bipush (v := 6) C.x C.b dX9_loop_25 (by decide) ?_
      refine lv_iload_n C.x C.b dX9_loop_27 rfl (lv_at hl 1 rfl) ?_
      refine lv_imul C.x C.b dX9_loop_28 ?_
      refine lv_iload_n C.x C.b dX9_loop_29 rfl (lv_at hl 2 rfl) ?_
      refine lv_iadd C.x C.b dX9_loop_30 ?_
      obtain ⟨g5, h⟩ := grd_some h
      refine a_i C hP sh_129 g5 dX9_loop_31 ?_
      refine lv_iconst (v := 1) C.x C.b dX9_loop_32 (by decide) ?_
      refine lv_icmp_ne (tgt := 39) C.x C.b dX9_loop_33 (by decide) (fun c6 => ?_) (fun c6 => ?_)
      · have h := (if_neg c6).symm.trans h
        refine lv_aload_n C.x C.b dX9_loop_39 rfl (lv_at hl 0 rfl) ?_
        refine lv_bipush (v := 6) C.x C.b dX9_loop_40 (by decide) ?_
        refine lv_iload_n C.x C.b dX9_loop_42 rfl (lv_at hl 1 rfl) ?_
        refine lv_imul C.x C.b dX9_loop_43 ?_
        refine lv_iload_n C.x C.b dX9_loop_44 rfl (lv_at hl 2 rfl) ?_
        refine lv_iadd C.x C.b dX9_loop_45 ?_
        obtain ⟨μ8, e7, h⟩ := bnv_some h
        refine k_vv (k := 122) (as := [.int ((6 * x1) + x2)]) (rest := []) (c_X9_loops C.i e7) M_X9_loops u5_225 C hP hS sh_122 rfl rfl (by decide) hl.1 rfl (Nat.le_of_ble_eq_true rfl) dX9_loop_46 (fun H locs hP hS => ?_)
        refine lv_iload_n C.x C.b dX9_loop_49 rfl (lv_at hl 3 rfl) ?_
        refine lv_bipush (v := (-2)) C.x C.b dX9_loop_50 (by decide) ?_
        refine lv_icmp_ne (tgt := 62) C.x C.b dX9_loop_52 (by decide) (fun c9 => ?_) (fun c9 => ?_)
        · have h := (if_neg c9).symm.trans h
          refine lv_iload_n C.x C.b dX9_loop_62 rfl (lv_at hl 3 rfl) ?_
          refine lv_iconst (v := (-1)) C.x C.b dX9_loop_63 (by decide) ?_
          refine lv_icmp_ne (tgt := 74) C.x C.b dX9_loop_64 (by decide) (fun c10 => ?_) (fun c10 => ?_)
          · have h := (if_neg c10).symm.trans h
            refine lv_iload_n C.x C.b dX9_loop_74 rfl (lv_at hl 3 rfl) ?_
            refine lv_i2l (v := Int32.toInt64 x3) C.x C.b dX9_loop_75 rfl ?_
            refine lv_lconst (v := 0) C.x C.b dX9_loop_76 (by decide) ?_
            refine lv_aload_n C.x C.b dX9_loop_77 rfl (lv_at hl 0 rfl) ?_
            refine g_int F_9_41 u4_170 C hP sh_122 dX9_loop_78 ?_
            refine lv_iconst (v := 1) C.x C.b dX9_loop_81 (by decide) ?_
            refine lv_isub C.x C.b dX9_loop_82 ?_
            refine lv_i2l (v := Int32.toInt64 ((μ8.1 122 41) - 1)) C.x C.b dX9_loop_83 rfl ?_
            obtain ⟨r12, e11, h⟩ := bnv_some h
            refine k_si (as := [.long (Int32.toInt64 x3), .long 0, .long (Int32.toInt64 ((μ8.1 122 41) - 1))]) (rest := []) (c_X9_in C.i e11) M_X9_in u5_72 C hP hS rfl (by decide) hl.1 rfl (Nat.le_of_ble_eq_true rfl) dX9_loop_84 (fun H locs hP hS => ?_)
            refine lv_if_eq (tgt := 102) C.x C.b dX9_loop_87 (by decide) (fun c13 => ?_) (fun c13 => ?_)
            · have h := (if_pos c13).symm.trans h
              refine lv_iconst (v := (-1)) C.x C.b dX9_loop_102 (by decide) ?_
              exact r_i h C hP hS dX9_loop_103
            · have h := (if_neg c13).symm.trans h
              refine lv_aload_n C.x C.b dX9_loop_90 rfl (lv_at hl 0 rfl) ?_
              refine g_ref (k' := 145) F_9_40 u4_169 C hP sh_122 rfl dX9_loop_91 ?_
              refine lv_iload_n C.x C.b dX9_loop_94 rfl (lv_at hl 3 rfl) ?_
              obtain ⟨g14, h⟩ := grd_some h
              refine a_i C hP sh_145 g14 dX9_loop_95 ?_
              obtain ⟨r16, e15, h⟩ := bnv_some h
              refine k_si (as := [.int (μ8.1 145 x3.toNatClampNeg)]) (rest := []) (c_X9_spelled C.i e15) M_X9_spelled u5_238 C hP hS rfl (by decide) hl.1 rfl (Nat.le_of_ble_eq_true rfl) dX9_loop_96 (fun H locs hP hS => ?_)
              refine lv_goto (tgt := 103) C.x C.b dX9_loop_99 (by decide) ?_
              exact r_i h C hP hS dX9_loop_103
          · have h := (if_pos c10).symm.trans h
            refine lv_aload_n C.x C.b dX9_loop_67 rfl (lv_at hl 0 rfl) ?_
            refine g_int F_9_41 u4_170 C hP sh_122 dX9_loop_68 ?_
            refine lv_goto (tgt := 103) C.x C.b dX9_loop_71 (by decide) ?_
            exact r_i h C hP hS dX9_loop_103
        · have h := (if_pos c9).symm.trans h
          refine lv_aload_n C.x C.b dX9_loop_55 rfl (lv_at hl 0 rfl) ?_
          refine g_int F_9_42 u4_171 C hP sh_122 dX9_loop_56 ?_
          refine lv_goto (tgt := 103) C.x C.b dX9_loop_59 (by decide) ?_
          exact r_i h C hP hS dX9_loop_103
      · have h := (if_pos c6).symm.trans h
        refine lv_bipush (v := (-2)) C.x C.b dX9_loop_36 (by decide) ?_
        exact r_i h C hP hS dX9_loop_38
    · have h := (if_pos c4).symm.trans h
      refine lv_iconst (v := (-1)) C.x C.b dX9_loop_19 (by decide) ?_
      exact r_i h C hP hS dX9_loop_20
  · have h := (if_pos c1).symm.trans h
    refine lv_bipush (v := (-3)) C.x C.b dX9_loop_7 (by decide) ?_
    exact r_i h C hP hS dX9_loop_9

set_option maxRecDepth 100000 in
set_option maxHeartbeats 4000000 in
theorem c_X9_loop {l : Launch} {G : Gp} (hI : Wi G) {x1 : Int32} {x2 : Int32} {x3 : Int32} {μ : Mem} {r : Int32} {μ' : Mem} (h : f_X9_loop x1 x2 x3 μ = some (r, μ')) : CI l yX9_loop cX9_loop 4 (some .int) 2 47 G [.ref (G.2.2 122), .int x1, .int x2, .int x3] μ r μ' :=
  e_all (lv := [(0, .ref (G.2.2 122)), (1, .int x1), (2, .int x2), (3, .int x3)]) hI (by decide) (Nat.le_of_ble_eq_true rfl) rfl (fun p e s m args below meth c ls C hP hS hl => b_X9_loop C h _ _ _ hP hS hl)


def f_X9_enters (x1 : Int32) (μ : Mem) : Option (Int32 × Mem) := bnv (f_X9_in (Int32.toInt64 x1) 0 2 μ) (fun r2 => if r2 = 0 then (some ((-2), μ)) else (if (μ.1 122 6) = 0 then (some ((-3), μ)) else (bnd (f_X9_enterer x1 μ) (fun r6 μ7 => if 0 ≤ r6 then (bnv (f_X9_spelled r6 μ7) (fun r10 => some (r10, μ7))) else (some ((-5), μ7))))))
set_option maxRecDepth 100000 in
set_option maxHeartbeats 4000000 in
theorem b_X9_enters {p : Program} {l : Launch} {e : Env} {s : State} {m : MethodId} {args : Array Value} {below : List Frame} {meth : Method} {c : Code} {G : Gp} {O : (Int32 × Mem)} (C : Cx p s m args meth c cX9_enters 3 RX9 (some .int) G) {x1 : Int32} {μ : Mem} (h : f_X9_enters x1 μ = some O) : ∀ (H : Heap) (locs : List Loc) (ls : Array Slot), Wm G μ H → va_S (wA G) s.heap H locs → lv_has ls 3 [(0, .ref (G.2.2 122)), (1, .int x1)] → W p l e (rmm 3 71) s m args below meth c H locs 0 0 (QI below args s G O) (F0 m 0 ls []) := by
  unfold f_X9_enters at h
  intro H locs ls hP hS hl
  refine lv_iload_n C.x C.b dX9_enters_0 rfl (lv_at hl 1 rfl) ?_
  refine lv_i2l (v := Int32.toInt64 x1) C.x C.b dX9_enters_1 rfl ?_
  refine lv_lconst (v := 0) C.x C.b dX9_enters_2 (by decide) ?_
  refine lv_ldc2 (own := RX9) (v := 2) C.x C.b C.o (C.t _ u5_110) dX9_enters_3 ?_
  obtain ⟨r2, e1, h⟩ := bnv_some h
  refine k_si (as := [.long (Int32.toInt64 x1), .long 0, .long 2]) (rest := []) (c_X9_in C.i e1) M_X9_in u5_72 C hP hS rfl (by decide) hl.1 rfl (Nat.le_of_ble_eq_true rfl) dX9_enters_6 (fun H locs hP hS => ?_)
  refine lv_if_ne (tgt := 15) C.x C.b dX9_enters_9 (by decide) (fun c3 => ?_) (fun c3 => ?_)
  · have h := (if_neg c3).symm.trans h
    refine lv_aload_n C.x C.b dX9_enters_15 rfl (lv_at hl 0 rfl) ?_
    refine g_int F_9_6 u4_135 C hP sh_122 dX9_enters_16 ?_
    refine lv_if_ne (tgt := 25) C.x C.b dX9_enters_19 (by decide) (fun c4 => ?_) (fun c4 => ?_)
    · have h := (if_neg c4).symm.trans h
      refine lv_aload_n C.x C.b dX9_enters_25 rfl (lv_at hl 0 rfl) ?_
      refine lv_iload_n C.x C.b dX9_enters_26 rfl (lv_at hl 1 rfl) ?_
      obtain ⟨r6, μ7, e5, h⟩ := bnd_some h
      refine k_vi (k := 122) (as := [.int x1]) (rest := []) (c_X9_enterer C.i e5) M_X9_enterer u5_209 C hP hS sh_122 rfl rfl (by decide) hl.1 rfl (Nat.le_of_ble_eq_true rfl) dX9_enters_27 (fun H locs hP hS => ?_)
      refine lv_istore_n (lv' := [(2, .int r6), (0, .ref (G.2.2 122)), (1, .int x1)]) C.x C.b dX9_enters_30 rfl hl (by decide) rfl (fun ls hl => ?_)
      refine lv_iload_n C.x C.b dX9_enters_31 rfl (lv_at hl 0 rfl) ?_
      refine lv_if_ge (tgt := 40) C.x C.b dX9_enters_32 (by decide) (fun c8 => ?_) (fun c8 => ?_)
      · have h := (if_pos c8).symm.trans h
        refine lv_iload_n C.x C.b dX9_enters_40 rfl (lv_at hl 0 rfl) ?_
        obtain ⟨r10, e9, h⟩ := bnv_some h
        refine k_si (as := [.int r6]) (rest := []) (c_X9_spelled C.i e9) M_X9_spelled u5_238 C hP hS rfl (by decide) hl.1 rfl (Nat.le_of_ble_eq_true rfl) dX9_enters_41 (fun H locs hP hS => ?_)
        exact r_i h C hP hS dX9_enters_44
      · have h := (if_neg c8).symm.trans h
        refine lv_bipush (v := (-5)) C.x C.b dX9_enters_35 (by decide) ?_
        refine lv_goto (tgt := 44) C.x C.b dX9_enters_37 (by decide) ?_
        exact r_i h C hP hS dX9_enters_44
    · have h := (if_pos c4).symm.trans h
      refine lv_bipush (v := (-3)) C.x C.b dX9_enters_22 (by decide) ?_
      exact r_i h C hP hS dX9_enters_24
  · have h := (if_pos c3).symm.trans h
    refine lv_bipush (v := (-2)) C.x C.b dX9_enters_12 (by decide) ?_
    exact r_i h C hP hS dX9_enters_14

set_option maxRecDepth 100000 in
set_option maxHeartbeats 4000000 in
theorem c_X9_enters {l : Launch} {G : Gp} (hI : Wi G) {x1 : Int32} {μ : Mem} {r : Int32} {μ' : Mem} (h : f_X9_enters x1 μ = some (r, μ')) : CI l yX9_enters cX9_enters 3 (some .int) 3 71 G [.ref (G.2.2 122), .int x1] μ r μ' :=
  e_all (lv := [(0, .ref (G.2.2 122)), (1, .int x1)]) hI (by decide) (Nat.le_of_ble_eq_true rfl) rfl (fun p e s m args below meth c ls C hP hS hl => b_X9_enters C h _ _ _ hP hS hl)


def f_X9_told (x1 : Int32) (μ : Mem) : Option (Int32 × Mem) := if (μ.1 122 6) = 0 then (some ((-3), μ)) else (if x1 = 0 then (bnv (f_X9_total μ) (fun r4 => some (r4, μ))) else (if x1 = 1 then (some (μ.1 122 9, μ)) else (if x1 = 2 then (bnd (f_X9_isProved μ) (fun r8 μ9 => if r8 = 0 then (some (0, μ9)) else (some (1, μ9)))) else (if x1 = 3 then (bnd (f_X9_counted x1 μ) (fun r13 μ14 => some (r13, μ14))) else (if x1 = 4 then (bnd (f_X9_counted x1 μ) (fun r17 μ18 => some (r17, μ18))) else (if x1 = 5 then (bnd (f_X9_counted x1 μ) (fun r21 μ22 => some (r21, μ22))) else (if x1 = 6 then (some (μ.1 122 7, μ)) else (if x1 = 7 then (some (μ.1 122 8, μ)) else ((some ((-1), μ)))))))))))
set_option maxRecDepth 100000 in
set_option maxHeartbeats 4000000 in
theorem b_X9_told {p : Program} {l : Launch} {e : Env} {s : State} {m : MethodId} {args : Array Value} {below : List Frame} {meth : Method} {c : Code} {G : Gp} {O : (Int32 × Mem)} (C : Cx p s m args meth c cX9_told 2 RX9 (some .int) G) {x1 : Int32} {μ : Mem} (h : f_X9_told x1 μ = some O) : ∀ (H : Heap) (locs : List Loc) (ls : Array Slot), Wm G μ H → va_S (wA G) s.heap H locs → lv_has ls 2 [(0, .ref (G.2.2 122)), (1, .int x1)] → W p l e (rmm 3 69) s m args below meth c H locs 0 0 (QI below args s G O) (F0 m 0 ls []) := by
  unfold f_X9_told at h
  intro H locs ls hP hS hl
  refine lv_aload_n C.x C.b dX9_told_0 rfl (lv_at hl 0 rfl) ?_
  refine g_int F_9_6 u4_135 C hP sh_122 dX9_told_1 ?_
  refine lv_if_ne (tgt := 10) C.x C.b dX9_told_4 (by decide) (fun c1 => ?_) (fun c1 => ?_)
  · have h := (if_neg c1).symm.trans h
    refine lv_iload_n C.x C.b dX9_told_10 rfl (lv_at hl 1 rfl) ?_
    by_cases c2 : x1 = 0
    · have h := (if_pos c2).symm.trans h
      refine lv_tableIn (off := 45) (tgt := 56) C.x C.b dX9_told_11 (by rw [c2]; decide) (by rw [c2]; decide) (by rw [c2]; rfl) (by decide) ?_
      refine lv_aload_n C.x C.b dX9_told_56 rfl (lv_at hl 0 rfl) ?_
      obtain ⟨r4, e3, h⟩ := bnv_some h
      refine k_vi (k := 122) (as := []) (rest := []) (c_X9_total C.i e3) M_X9_total u5_192 C hP hS sh_122 rfl rfl (by decide) hl.1 rfl (Nat.le_of_ble_eq_true rfl) dX9_told_57 (fun H locs hP hS => ?_)
      exact r_i h C hP hS dX9_told_60
    · have h := (if_neg c2).symm.trans h
      by_cases c5 : x1 = 1
      · have h := (if_pos c5).symm.trans h
        refine lv_tableIn (off := 50) (tgt := 61) C.x C.b dX9_told_11 (by rw [c5]; decide) (by rw [c5]; decide) (by rw [c5]; rfl) (by decide) ?_
        refine lv_aload_n C.x C.b dX9_told_61 rfl (lv_at hl 0 rfl) ?_
        refine g_int F_9_9 u4_138 C hP sh_122 dX9_told_62 ?_
        exact r_i h C hP hS dX9_told_65
      · have h := (if_neg c5).symm.trans h
        by_cases c6 : x1 = 2
        · have h := (if_pos c6).symm.trans h
          refine lv_tableIn (off := 55) (tgt := 66) C.x C.b dX9_told_11 (by rw [c6]; decide) (by rw [c6]; decide) (by rw [c6]; rfl) (by decide) ?_
          refine lv_aload_n C.x C.b dX9_told_66 rfl (lv_at hl 0 rfl) ?_
          obtain ⟨r8, μ9, e7, h⟩ := bnd_some h
          refine k_vi (k := 122) (as := []) (rest := []) (c_X9_isProved C.i e7) M_X9_isProved u6_34 C hP hS sh_122 rfl rfl (by decide) hl.1 rfl (Nat.le_of_ble_eq_true rfl) dX9_told_67 (fun H locs hP hS => ?_)
          refine lv_if_eq (tgt := 77) C.x C.b dX9_told_70 (by decide) (fun c10 => ?_) (fun c10 => ?_)
          · have h := (if_pos c10).symm.trans h
            refine lv_iconst (v := 0) C.x C.b dX9_told_77 (by decide) ?_
            exact r_i h C hP hS dX9_told_78
          · have h := (if_neg c10).symm.trans h
            refine lv_iconst (v := 1) C.x C.b dX9_told_73 (by decide) ?_
            refine lv_goto (tgt := 78) C.x C.b dX9_told_74 (by decide) ?_
            exact r_i h C hP hS dX9_told_78
        · have h := (if_neg c6).symm.trans h
          by_cases c11 : x1 = 3
          · have h := (if_pos c11).symm.trans h
            refine lv_tableIn (off := 68) (tgt := 79) C.x C.b dX9_told_11 (by rw [c11]; decide) (by rw [c11]; decide) (by rw [c11]; rfl) (by decide) ?_
            refine lv_aload_n C.x C.b dX9_told_79 rfl (lv_at hl 0 rfl) ?_
            refine lv_iload_n C.x C.b dX9_told_80 rfl (lv_at hl 1 rfl) ?_
            obtain ⟨r13, μ14, e12, h⟩ := bnd_some h
            refine k_vi (k := 122) (as := [.int x1]) (rest := []) (c_X9_counted C.i e12) M_X9_counted u6_38 C hP hS sh_122 rfl rfl (by decide) hl.1 rfl (Nat.le_of_ble_eq_true rfl) dX9_told_81 (fun H locs hP hS => ?_)
            exact r_i h C hP hS dX9_told_84
          · have h := (if_neg c11).symm.trans h
            by_cases c15 : x1 = 4
            · have h := (if_pos c15).symm.trans h
              refine lv_tableIn (off := 68) (tgt := 79) C.x C.b dX9_told_11 (by rw [c15]; decide) (by rw [c15]; decide) (by rw [c15]; rfl) (by decide) ?_
              refine lv_aload_n C.x C.b dX9_told_79 rfl (lv_at hl 0 rfl) ?_
              refine lv_iload_n C.x C.b dX9_told_80 rfl (lv_at hl 1 rfl) ?_
              obtain ⟨r17, μ18, e16, h⟩ := bnd_some h
              refine k_vi (k := 122) (as := [.int x1]) (rest := []) (c_X9_counted C.i e16) M_X9_counted u6_38 C hP hS sh_122 rfl rfl (by decide) hl.1 rfl (Nat.le_of_ble_eq_true rfl) dX9_told_81 (fun H locs hP hS => ?_)
              exact r_i h C hP hS dX9_told_84
            · have h := (if_neg c15).symm.trans h
              by_cases c19 : x1 = 5
              · have h := (if_pos c19).symm.trans h
                refine lv_tableIn (off := 68) (tgt := 79) C.x C.b dX9_told_11 (by rw [c19]; decide) (by rw [c19]; decide) (by rw [c19]; rfl) (by decide) ?_
                refine lv_aload_n C.x C.b dX9_told_79 rfl (lv_at hl 0 rfl) ?_
                refine lv_iload_n C.x C.b dX9_told_80 rfl (lv_at hl 1 rfl) ?_
                obtain ⟨r21, μ22, e20, h⟩ := bnd_some h
                refine k_vi (k := 122) (as := [.int x1]) (rest := []) (c_X9_counted C.i e20) M_X9_counted u6_38 C hP hS sh_122 rfl rfl (by decide) hl.1 rfl (Nat.le_of_ble_eq_true rfl) dX9_told_81 (fun H locs hP hS => ?_)
                exact r_i h C hP hS dX9_told_84
              · have h := (if_neg c19).symm.trans h
                by_cases c23 : x1 = 6
                · have h := (if_pos c23).symm.trans h
                  refine lv_tableIn (off := 74) (tgt := 85) C.x C.b dX9_told_11 (by rw [c23]; decide) (by rw [c23]; decide) (by rw [c23]; rfl) (by decide) ?_
                  refine lv_aload_n C.x C.b dX9_told_85 rfl (lv_at hl 0 rfl) ?_
                  refine g_int F_9_7 u4_136 C hP sh_122 dX9_told_86 ?_
                  exact r_i h C hP hS dX9_told_89
                · have h := (if_neg c23).symm.trans h
                  by_cases c24 : x1 = 7
                  · have h := (if_pos c24).symm.trans h
                    refine lv_tableIn (off := 79) (tgt := 90) C.x C.b dX9_told_11 (by rw [c24]; decide) (by rw [c24]; decide) (by rw [c24]; rfl) (by decide) ?_
                    refine lv_aload_n C.x C.b dX9_told_90 rfl (lv_at hl 0 rfl) ?_
                    refine g_int F_9_8 u4_137 C hP sh_122 dX9_told_91 ?_
                    exact r_i h C hP hS dX9_told_94
                  · have h := (if_neg c24).symm.trans h
                    have t_c2 := lv_neT (a := 0) c2 (by decide)
                    have t_c5 := lv_neT (a := 1) c5 (by decide)
                    have t_c6 := lv_neT (a := 2) c6 (by decide)
                    have t_c11 := lv_neT (a := 3) c11 (by decide)
                    have t_c15 := lv_neT (a := 4) c15 (by decide)
                    have t_c19 := lv_neT (a := 5) c19 (by decide)
                    have t_c23 := lv_neT (a := 6) c23 (by decide)
                    have t_c24 := lv_neT (a := 7) c24 (by decide)
                    refine lv_tableOut (tgt := 95) C.x C.b dX9_told_11 (by omega) (by decide) ?_
                    refine lv_iconst (v := (-1)) C.x C.b dX9_told_95 (by decide) ?_
                    exact r_i h C hP hS dX9_told_96
  · have h := (if_pos c1).symm.trans h
    refine lv_bipush (v := (-3)) C.x C.b dX9_told_7 (by decide) ?_
    exact r_i h C hP hS dX9_told_9

set_option maxRecDepth 100000 in
set_option maxHeartbeats 4000000 in
theorem c_X9_told {l : Launch} {G : Gp} (hI : Wi G) {x1 : Int32} {μ : Mem} {r : Int32} {μ' : Mem} (h : f_X9_told x1 μ = some (r, μ')) : CI l yX9_told cX9_told 2 (some .int) 3 69 G [.ref (G.2.2 122), .int x1] μ r μ' :=
  e_all (lv := [(0, .ref (G.2.2 122)), (1, .int x1)]) hI (by decide) (Nat.le_of_ble_eq_true rfl) rfl (fun p e s m args below meth c ls C hP hS hl => b_X9_told C h _ _ _ hP hS hl)


def f_X9_trace (x1 : Int32) (x2 : Int32) (μ : Mem) : Option Int32 := if (μ.1 122 6) = 0 then (some ((-3))) else (bnv (f_X9_in (Int32.toInt64 x1) 0 (Int32.toInt64 ((μ.1 122 9) - 1)) μ) (fun r3 => if r3 = 0 then (some ((-1))) else (bnv (f_X9_in (Int32.toInt64 x2) 0 2 μ) (fun r6 => if r6 = 0 then (some ((-1))) else (grd (inb ((3 * x1) + x2) 300) (some (μ.1 130 ((3 * x1) + x2).toNatClampNeg)))))))
set_option maxRecDepth 100000 in
set_option maxHeartbeats 4000000 in
theorem b_X9_trace {p : Program} {l : Launch} {e : Env} {s : State} {m : MethodId} {args : Array Value} {below : List Frame} {meth : Method} {c : Code} {G : Gp} {O : Int32} (C : Cx p s m args meth c cX9_trace 3 RX9 (some .int) G) {x1 : Int32} {x2 : Int32} {μ : Mem} (h : f_X9_trace x1 x2 μ = some O) : ∀ (H : Heap) (locs : List Loc) (ls : Array Slot), Wm G μ H → va_S (wA G) s.heap H locs → lv_has ls 3 [(0, .ref (G.2.2 122)), (1, .int x1), (2, .int x2)] → W p l e (rmm 1 25) s m args below meth c H locs 0 0 (QI below args s G (O, μ)) (F0 m 0 ls []) := by
  unfold f_X9_trace at h
  intro H locs ls hP hS hl
  refine lv_aload_n C.x C.b dX9_trace_0 rfl (lv_at hl 0 rfl) ?_
  refine g_int F_9_6 u4_135 C hP sh_122 dX9_trace_1 ?_
  refine lv_if_ne (tgt := 10) C.x C.b dX9_trace_4 (by decide) (fun c1 => ?_) (fun c1 => ?_)
  · have h := (if_neg c1).symm.trans h
    refine lv_iload_n C.x C.b dX9_trace_10 rfl (lv_at hl 1 rfl) ?_
    refine lv_i2l (v := Int32.toInt64 x1) C.x C.b dX9_trace_11 rfl ?_
    refine lv_lconst (v := 0) C.x C.b dX9_trace_12 (by decide) ?_
    refine lv_aload_n C.x C.b dX9_trace_13 rfl (lv_at hl 0 rfl) ?_
    refine g_int F_9_9 u4_138 C hP sh_122 dX9_trace_14 ?_
    refine lv_iconst (v := 1) C.x C.b dX9_trace_17 (by decide) ?_
    refine lv_isub C.x C.b dX9_trace_18 ?_
    refine lv_i2l (v := Int32.toInt64 ((μ.1 122 9) - 1)) C.x C.b dX9_trace_19 rfl ?_
    obtain ⟨r3, e2, h⟩ := bnv_some h
    refine k_si (as := [.long (Int32.toInt64 x1), .long 0, .long (Int32.toInt64 ((μ.1 122 9) - 1))]) (rest := []) (c_X9_in C.i e2) M_X9_in u5_72 C hP hS rfl (by decide) hl.1 rfl (Nat.le_of_ble_eq_true rfl) dX9_trace_20 (fun H locs hP hS => ?_)
    refine lv_if_eq (tgt := 51) C.x C.b dX9_trace_23 (by decide) (fun c4 => ?_) (fun c4 => ?_)
    · have h := (if_pos c4).symm.trans h
      refine lv_iconst (v := (-1)) C.x C.b dX9_trace_51 (by decide) ?_
      exact r_i (pr_some h) C hP hS dX9_trace_52
    · have h := (if_neg c4).symm.trans h
      refine lv_iload_n C.x C.b dX9_trace_26 rfl (lv_at hl 2 rfl) ?_
      refine lv_i2l (v := Int32.toInt64 x2) C.x C.b dX9_trace_27 rfl ?_
      refine lv_lconst (v := 0) C.x C.b dX9_trace_28 (by decide) ?_
      refine lv_ldc2 (own := RX9) (v := 2) C.x C.b C.o (C.t _ u5_110) dX9_trace_29 ?_
      obtain ⟨r6, e5, h⟩ := bnv_some h
      refine k_si (as := [.long (Int32.toInt64 x2), .long 0, .long 2]) (rest := []) (c_X9_in C.i e5) M_X9_in u5_72 C hP hS rfl (by decide) hl.1 rfl (Nat.le_of_ble_eq_true rfl) dX9_trace_32 (fun H locs hP hS => ?_)
      refine lv_if_eq (tgt := 51) C.x C.b dX9_trace_35 (by decide) (fun c7 => ?_) (fun c7 => ?_)
      · have h := (if_pos c7).symm.trans h
        refine lv_iconst (v := (-1)) C.x C.b dX9_trace_51 (by decide) ?_
        exact r_i (pr_some h) C hP hS dX9_trace_52
      · have h := (if_neg c7).symm.trans h
        refine lv_aload_n C.x C.b dX9_trace_38 rfl (lv_at hl 0 rfl) ?_
        refine g_ref (k' := 130) F_9_13 u4_142 C hP sh_122 rfl dX9_trace_39 ?_
        refine lv_iconst (v := 3) C.x C.b dX9_trace_42 (by decide) ?_
        refine lv_iload_n C.x C.b dX9_trace_43 rfl (lv_at hl 1 rfl) ?_
        refine lv_imul C.x C.b dX9_trace_44 ?_
        refine lv_iload_n C.x C.b dX9_trace_45 rfl (lv_at hl 2 rfl) ?_
        refine lv_iadd C.x C.b dX9_trace_46 ?_
        obtain ⟨g8, h⟩ := grd_some h
        refine a_i C hP sh_130 g8 dX9_trace_47 ?_
        refine lv_goto (tgt := 52) C.x C.b dX9_trace_48 (by decide) ?_
        exact r_i (pr_some h) C hP hS dX9_trace_52
  · have h := (if_pos c1).symm.trans h
    refine lv_bipush (v := (-3)) C.x C.b dX9_trace_7 (by decide) ?_
    exact r_i (pr_some h) C hP hS dX9_trace_9

set_option maxRecDepth 100000 in
set_option maxHeartbeats 4000000 in
theorem c_X9_trace {l : Launch} {G : Gp} (hI : Wi G) {x1 : Int32} {x2 : Int32} {μ : Mem} {r : Int32} (h : f_X9_trace x1 x2 μ = some r) : CI l yX9_trace cX9_trace 3 (some .int) 1 25 G [.ref (G.2.2 122), .int x1, .int x2] μ r μ :=
  e_all (lv := [(0, .ref (G.2.2 122)), (1, .int x1), (2, .int x2)]) hI (by decide) (Nat.le_of_ble_eq_true rfl) rfl (fun p e s m args below meth c ls C hP hS hl => b_X9_trace C h _ _ _ hP hS hl)


def f_X9_thinks (x1 : Int32) (x2 : Int32) (μ : Mem) : Option (Int32 × Mem) := if (μ.1 122 0) = 0 then (some ((-5), μ)) else (if (μ.1 122 1) = 0 then (some ((-5), μ)) else (bnv (f_X9_starts x1 μ) (fun μ4 => bnd (f_X9_goes x2 100 μ4) (fun r6 μ7 => bnd (f_X9_isProved μ7) (fun r9 μ10 => if r9 = 0 then (some ((-5), μ10)) else (bnv (f_X9_total μ10) (fun r13 => some (r13, μ10))))))))
set_option maxRecDepth 100000 in
set_option maxHeartbeats 4000000 in
theorem b_X9_thinks {p : Program} {l : Launch} {e : Env} {s : State} {m : MethodId} {args : Array Value} {below : List Frame} {meth : Method} {c : Code} {G : Gp} {O : (Int32 × Mem)} (C : Cx p s m args meth c cX9_thinks 3 RX9 (some .int) G) {x1 : Int32} {x2 : Int32} {μ : Mem} (h : f_X9_thinks x1 x2 μ = some O) : ∀ (H : Heap) (locs : List Loc) (ls : Array Slot), Wm G μ H → va_S (wA G) s.heap H locs → lv_has ls 3 [(0, .ref (G.2.2 122)), (1, .int x1), (2, .int x2)] → W p l e (rmm 5 118) s m args below meth c H locs 0 0 (QI below args s G O) (F0 m 0 ls []) := by
  unfold f_X9_thinks at h
  intro H locs ls hP hS hl
  refine lv_aload_n C.x C.b dX9_thinks_0 rfl (lv_at hl 0 rfl) ?_
  refine g_int F_9_0 u4_129 C hP sh_122 dX9_thinks_1 ?_
  refine lv_if_eq (tgt := 14) C.x C.b dX9_thinks_4 (by decide) (fun c1 => ?_) (fun c1 => ?_)
  · have h := (if_pos c1).symm.trans h
    refine lv_bipush (v := (-5)) C.x C.b dX9_thinks_14 (by decide) ?_
    exact r_i h C hP hS dX9_thinks_16
  · have h := (if_neg c1).symm.trans h
    refine lv_aload_n C.x C.b dX9_thinks_7 rfl (lv_at hl 0 rfl) ?_
    refine g_int F_9_1 u4_130 C hP sh_122 dX9_thinks_8 ?_
    refine lv_if_ne (tgt := 17) C.x C.b dX9_thinks_11 (by decide) (fun c2 => ?_) (fun c2 => ?_)
    · have h := (if_neg c2).symm.trans h
      refine lv_aload_n C.x C.b dX9_thinks_17 rfl (lv_at hl 0 rfl) ?_
      refine lv_iload_n C.x C.b dX9_thinks_18 rfl (lv_at hl 1 rfl) ?_
      obtain ⟨μ4, e3, h⟩ := bnv_some h
      refine k_vv (k := 122) (as := [.int x1]) (rest := []) (c_X9_starts C.i e3) M_X9_starts u5_155 C hP hS sh_122 rfl rfl (by decide) hl.1 rfl (Nat.le_of_ble_eq_true rfl) dX9_thinks_19 (fun H locs hP hS => ?_)
      refine lv_aload_n C.x C.b dX9_thinks_22 rfl (lv_at hl 0 rfl) ?_
      refine lv_iload_n C.x C.b dX9_thinks_23 rfl (lv_at hl 2 rfl) ?_
      refine lv_bipush (v := 100) C.x C.b dX9_thinks_24 (by decide) ?_
      obtain ⟨r6, μ7, e5, h⟩ := bnd_some h
      refine k_vi (k := 122) (as := [.int x2, .int 100]) (rest := []) (c_X9_goes C.i e5) M_X9_goes u5_201 C hP hS sh_122 rfl rfl (by decide) hl.1 rfl (Nat.le_of_ble_eq_true rfl) dX9_thinks_26 (fun H locs hP hS => ?_)
      refine lv_pop C.x C.b dX9_thinks_29 rfl ?_
      refine lv_aload_n C.x C.b dX9_thinks_30 rfl (lv_at hl 0 rfl) ?_
      obtain ⟨r9, μ10, e8, h⟩ := bnd_some h
      refine k_vi (k := 122) (as := []) (rest := []) (c_X9_isProved C.i e8) M_X9_isProved u6_34 C hP hS sh_122 rfl rfl (by decide) hl.1 rfl (Nat.le_of_ble_eq_true rfl) dX9_thinks_31 (fun H locs hP hS => ?_)
      refine lv_if_eq (tgt := 44) C.x C.b dX9_thinks_34 (by decide) (fun c11 => ?_) (fun c11 => ?_)
      · have h := (if_pos c11).symm.trans h
        refine lv_bipush (v := (-5)) C.x C.b dX9_thinks_44 (by decide) ?_
        exact r_i h C hP hS dX9_thinks_46
      · have h := (if_neg c11).symm.trans h
        refine lv_aload_n C.x C.b dX9_thinks_37 rfl (lv_at hl 0 rfl) ?_
        obtain ⟨r13, e12, h⟩ := bnv_some h
        refine k_vi (k := 122) (as := []) (rest := []) (c_X9_total C.i e12) M_X9_total u5_192 C hP hS sh_122 rfl rfl (by decide) hl.1 rfl (Nat.le_of_ble_eq_true rfl) dX9_thinks_38 (fun H locs hP hS => ?_)
        refine lv_goto (tgt := 46) C.x C.b dX9_thinks_41 (by decide) ?_
        exact r_i h C hP hS dX9_thinks_46
    · have h := (if_pos c2).symm.trans h
      refine lv_bipush (v := (-5)) C.x C.b dX9_thinks_14 (by decide) ?_
      exact r_i h C hP hS dX9_thinks_16

set_option maxRecDepth 100000 in
set_option maxHeartbeats 4000000 in
theorem c_X9_thinks {l : Launch} {G : Gp} (hI : Wi G) {x1 : Int32} {x2 : Int32} {μ : Mem} {r : Int32} {μ' : Mem} (h : f_X9_thinks x1 x2 μ = some (r, μ')) : CI l yX9_thinks cX9_thinks 3 (some .int) 5 118 G [.ref (G.2.2 122), .int x1, .int x2] μ r μ' :=
  e_all (lv := [(0, .ref (G.2.2 122)), (1, .int x1), (2, .int x2)]) hI (by decide) (Nat.le_of_ble_eq_true rfl) rfl (fun p e s m args below meth c ls C hP hS hl => b_X9_thinks C h _ _ _ hP hS hl)


def f_X9_theBest  (μ : Mem) : Option (Int32 × Mem) := bnv (f_X9_minds μ) (fun μ2 => bnd (f_X9_thinks 1 1 μ2) (fun r4 μ5 => bnv (f_X9_forgets μ5) (fun μ7 => some (r4, μ7))))
set_option maxRecDepth 100000 in
set_option maxHeartbeats 4000000 in
theorem b_X9_theBest {p : Program} {l : Launch} {e : Env} {s : State} {m : MethodId} {args : Array Value} {below : List Frame} {meth : Method} {c : Code} {G : Gp} {O : (Int32 × Mem)} (C : Cx p s m args meth c cX9_theBest 2 RX9 (some .int) G) {μ : Mem} (h : f_X9_theBest μ = some O) : ∀ (H : Heap) (locs : List Loc) (ls : Array Slot), Wm G μ H → va_S (wA G) s.heap H locs → lv_has ls 2 [(0, .ref (G.2.2 122))] → W p l e (rmm 6 140) s m args below meth c H locs 0 0 (QI below args s G O) (F0 m 0 ls []) := by
  unfold f_X9_theBest at h
  intro H locs ls hP hS hl
  refine lv_aload_n C.x C.b dX9_theBest_0 rfl (lv_at hl 0 rfl) ?_
  obtain ⟨μ2, e1, h⟩ := bnv_some h
  refine k_vv (k := 122) (as := []) (rest := []) (c_X9_minds C.i e1) M_X9_minds u6_50 C hP hS sh_122 rfl rfl (by decide) hl.1 rfl (Nat.le_of_ble_eq_true rfl) dX9_theBest_1 (fun H locs hP hS => ?_)
  refine lv_aload_n C.x C.b dX9_theBest_4 rfl (lv_at hl 0 rfl) ?_
  refine lv_iconst (v := 1) C.x C.b dX9_theBest_5 (by decide) ?_
  refine lv_iconst (v := 1) C.x C.b dX9_theBest_6 (by decide) ?_
  obtain ⟨r4, μ5, e3, h⟩ := bnd_some h
  refine k_vi (k := 122) (as := [.int 1, .int 1]) (rest := []) (c_X9_thinks C.i e3) M_X9_thinks u6_58 C hP hS sh_122 rfl rfl (by decide) hl.1 rfl (Nat.le_of_ble_eq_true rfl) dX9_theBest_7 (fun H locs hP hS => ?_)
  refine lv_istore_n (lv' := [(1, .int r4), (0, .ref (G.2.2 122))]) C.x C.b dX9_theBest_10 rfl hl (by decide) rfl (fun ls hl => ?_)
  refine lv_aload_n C.x C.b dX9_theBest_11 rfl (lv_at hl 1 rfl) ?_
  obtain ⟨μ7, e6, h⟩ := bnv_some h
  refine k_vv (k := 122) (as := []) (rest := []) (c_X9_forgets C.i e6) M_X9_forgets u6_62 C hP hS sh_122 rfl rfl (by decide) hl.1 rfl (Nat.le_of_ble_eq_true rfl) dX9_theBest_12 (fun H locs hP hS => ?_)
  refine lv_iload_n C.x C.b dX9_theBest_15 rfl (lv_at hl 0 rfl) ?_
  exact r_i h C hP hS dX9_theBest_16

set_option maxRecDepth 100000 in
set_option maxHeartbeats 4000000 in
theorem c_X9_theBest {l : Launch} {G : Gp} (hI : Wi G) {μ : Mem} {r : Int32} {μ' : Mem} (h : f_X9_theBest μ = some (r, μ')) : CI l yX9_theBest cX9_theBest 2 (some .int) 6 140 G [.ref (G.2.2 122)] μ r μ' :=
  e_all (lv := [(0, .ref (G.2.2 122))]) hI (by decide) (Nat.le_of_ble_eq_true rfl) rfl (fun p e s m args below meth c ls C hP hS hl => b_X9_theBest C h _ _ _ hP hS hl)


def f_X9_best (x1 : Int32) (x2 : Int32) (x3 : Int32) (μ : Mem) : Option (Int32 × Mem) := bnv (f_X9_in (Int32.toInt64 x1) 0 2 μ) (fun r2 => if r2 = 0 then (some ((-2), μ)) else (bnv (f_X9_in (Int32.toInt64 x2) 0 2 μ) (fun r5 => if r5 = 0 then (some ((-2), μ)) else (bnv (f_X9_in (Int32.toInt64 x3) 0 1 μ) (fun r8 => if r8 = 0 then (some ((-1), μ)) else (bnv (f_X9_minds μ) (fun μ11 => bnd (f_X9_thinks x1 x2 μ11) (fun r13 μ14 => lt (μ14.1 122 9) (fun y15 => bnv (f_X9_forgets μ14) (fun μ17 => if x3 = 0 then (some (r13, μ17)) else (if 0 ≤ r13 then (some (y15, μ17)) else (some (r13, μ17)))))))))))))
set_option maxRecDepth 100000 in
set_option maxHeartbeats 4000000 in
theorem b_X9_best {p : Program} {l : Launch} {e : Env} {s : State} {m : MethodId} {args : Array Value} {below : List Frame} {meth : Method} {c : Code} {G : Gp} {O : (Int32 × Mem)} (C : Cx p s m args meth c cX9_best 6 RX9 (some .int) G) {x1 : Int32} {x2 : Int32} {x3 : Int32} {μ : Mem} (h : f_X9_best x1 x2 x3 μ = some O) : ∀ (H : Heap) (locs : List Loc) (ls : Array Slot), Wm G μ H → va_S (wA G) s.heap H locs → lv_has ls 6 [(0, .ref (G.2.2 122)), (1, .int x1), (2, .int x2), (3, .int x3)] → W p l e (rmm 6 140) s m args below meth c H locs 0 0 (QI below args s G O) (F0 m 0 ls []) := by
  unfold f_X9_best at h
  intro H locs ls hP hS hl
  refine lv_iload_n C.x C.b dX9_best_0 rfl (lv_at hl 1 rfl) ?_
  refine lv_i2l (v := Int32.toInt64 x1) C.x C.b dX9_best_1 rfl ?_
  refine lv_lconst (v := 0) C.x C.b dX9_best_2 (by decide) ?_
  refine lv_ldc2 (own := RX9) (v := 2) C.x C.b C.o (C.t _ u5_110) dX9_best_3 ?_
  obtain ⟨r2, e1, h⟩ := bnv_some h
  refine k_si (as := [.long (Int32.toInt64 x1), .long 0, .long 2]) (rest := []) (c_X9_in C.i e1) M_X9_in u5_72 C hP hS rfl (by decide) hl.1 rfl (Nat.le_of_ble_eq_true rfl) dX9_best_6 (fun H locs hP hS => ?_)
  refine lv_if_eq (tgt := 24) C.x C.b dX9_best_9 (by decide) (fun c3 => ?_) (fun c3 => ?_)
  · have h := (if_pos c3).symm.trans h
    refine lv_bipush (v := (-2)) C.x C.b dX9_best_24 (by decide) ?_
    exact r_i h C hP hS dX9_best_26
  · have h := (if_neg c3).symm.trans h
    refine lv_iload_n C.x C.b dX9_best_12 rfl (lv_at hl 2 rfl) ?_
    refine lv_i2l (v := Int32.toInt64 x2) C.x C.b dX9_best_13 rfl ?_
    refine lv_lconst (v := 0) C.x C.b dX9_best_14 (by decide) ?_
    refine lv_ldc2 (own := RX9) (v := 2) C.x C.b C.o (C.t _ u5_110) dX9_best_15 ?_
    obtain ⟨r5, e4, h⟩ := bnv_some h
    refine k_si (as := [.long (Int32.toInt64 x2), .long 0, .long 2]) (rest := []) (c_X9_in C.i e4) M_X9_in u5_72 C hP hS rfl (by decide) hl.1 rfl (Nat.le_of_ble_eq_true rfl) dX9_best_18 (fun H locs hP hS => ?_)
    refine lv_if_ne (tgt := 27) C.x C.b dX9_best_21 (by decide) (fun c6 => ?_) (fun c6 => ?_)
    · have h := (if_neg c6).symm.trans h
      refine lv_iload_n C.x C.b dX9_best_27 rfl (lv_at hl 3 rfl) ?_
      refine lv_i2l (v := Int32.toInt64 x3) C.x C.b dX9_best_28 rfl ?_
      refine lv_lconst (v := 0) C.x C.b dX9_best_29 (by decide) ?_
      refine lv_lconst (v := 1) C.x C.b dX9_best_30 (by decide) ?_
      obtain ⟨r8, e7, h⟩ := bnv_some h
      refine k_si (as := [.long (Int32.toInt64 x3), .long 0, .long 1]) (rest := []) (c_X9_in C.i e7) M_X9_in u5_72 C hP hS rfl (by decide) hl.1 rfl (Nat.le_of_ble_eq_true rfl) dX9_best_31 (fun H locs hP hS => ?_)
      refine lv_if_ne (tgt := 39) C.x C.b dX9_best_34 (by decide) (fun c9 => ?_) (fun c9 => ?_)
      · have h := (if_neg c9).symm.trans h
        refine lv_aload_n C.x C.b dX9_best_39 rfl (lv_at hl 0 rfl) ?_
        obtain ⟨μ11, e10, h⟩ := bnv_some h
        refine k_vv (k := 122) (as := []) (rest := []) (c_X9_minds C.i e10) M_X9_minds u6_50 C hP hS sh_122 rfl rfl (by decide) hl.1 rfl (Nat.le_of_ble_eq_true rfl) dX9_best_40 (fun H locs hP hS => ?_)
        refine lv_aload_n C.x C.b dX9_best_43 rfl (lv_at hl 0 rfl) ?_
        refine lv_iload_n C.x C.b dX9_best_44 rfl (lv_at hl 1 rfl) ?_
        refine lv_iload_n C.x C.b dX9_best_45 rfl (lv_at hl 2 rfl) ?_
        obtain ⟨r13, μ14, e12, h⟩ := bnd_some h
        refine k_vi (k := 122) (as := [.int x1, .int x2]) (rest := []) (c_X9_thinks C.i e12) M_X9_thinks u6_58 C hP hS sh_122 rfl rfl (by decide) hl.1 rfl (Nat.le_of_ble_eq_true rfl) dX9_best_46 (fun H locs hP hS => ?_)
        refine lv_istore (lv' := [(4, .int r13), (0, .ref (G.2.2 122)), (1, .int x1), (2, .int x2), (3, .int x3)]) C.x C.b dX9_best_49 hl (by decide) rfl (fun ls hl => ?_)
        refine lv_aload_n C.x C.b dX9_best_51 rfl (lv_at hl 1 rfl) ?_
        refine g_int F_9_9 u4_138 C hP sh_122 dX9_best_52 ?_
        refine lv_topi (fun y15 e_y15 => ?_)
        have h := lt_at h e_y15
        refine lv_istore (lv' := [(5, .int y15), (4, .int r13), (0, .ref (G.2.2 122)), (1, .int x1), (2, .int x2), (3, .int x3)]) C.x C.b dX9_best_55 hl (by decide) rfl (fun ls hl => ?_)
        refine lv_aload_n C.x C.b dX9_best_57 rfl (lv_at hl 2 rfl) ?_
        obtain ⟨μ17, e16, h⟩ := bnv_some h
        refine k_vv (k := 122) (as := []) (rest := []) (c_X9_forgets C.i e16) M_X9_forgets u6_62 C hP hS sh_122 rfl rfl (by decide) hl.1 rfl (Nat.le_of_ble_eq_true rfl) dX9_best_58 (fun H locs hP hS => ?_)
        refine lv_iload_n C.x C.b dX9_best_61 rfl (lv_at hl 5 rfl) ?_
        refine lv_if_eq (tgt := 70) C.x C.b dX9_best_62 (by decide) (fun c18 => ?_) (fun c18 => ?_)
        · have h := (if_pos c18).symm.trans h
          refine lv_iload C.x C.b dX9_best_70 (lv_at hl 1 rfl) ?_
          refine lv_goto (tgt := 77) C.x C.b dX9_best_72 (by decide) ?_
          exact r_i h C hP hS dX9_best_77
        · have h := (if_neg c18).symm.trans h
          refine lv_iload C.x C.b dX9_best_65 (lv_at hl 1 rfl) ?_
          refine lv_if_ge (tgt := 75) C.x C.b dX9_best_67 (by decide) (fun c19 => ?_) (fun c19 => ?_)
          · have h := (if_pos c19).symm.trans h
            refine lv_iload C.x C.b dX9_best_75 (lv_at hl 0 rfl) ?_
            exact r_i h C hP hS dX9_best_77
          · have h := (if_neg c19).symm.trans h
            refine lv_iload C.x C.b dX9_best_70 (lv_at hl 1 rfl) ?_
            refine lv_goto (tgt := 77) C.x C.b dX9_best_72 (by decide) ?_
            exact r_i h C hP hS dX9_best_77
      · have h := (if_pos c9).symm.trans h
        refine lv_iconst (v := (-1)) C.x C.b dX9_best_37 (by decide) ?_
        exact r_i h C hP hS dX9_best_38
    · have h := (if_pos c6).symm.trans h
      refine lv_bipush (v := (-2)) C.x C.b dX9_best_24 (by decide) ?_
      exact r_i h C hP hS dX9_best_26

set_option maxRecDepth 100000 in
set_option maxHeartbeats 4000000 in
theorem c_X9_best {l : Launch} {G : Gp} (hI : Wi G) {x1 : Int32} {x2 : Int32} {x3 : Int32} {μ : Mem} {r : Int32} {μ' : Mem} (h : f_X9_best x1 x2 x3 μ = some (r, μ')) : CI l yX9_best cX9_best 6 (some .int) 6 140 G [.ref (G.2.2 122), .int x1, .int x2, .int x3] μ r μ' :=
  e_all (lv := [(0, .ref (G.2.2 122)), (1, .int x1), (2, .int x2), (3, .int x3)]) hI (by decide) (Nat.le_of_ble_eq_true rfl) rfl (fun p e s m args below meth c ls C hP hS hl => b_X9_best C h _ _ _ hP hS hl)


def f_X9_cheapestStart_35  (q12 : Int32 → Int32 → Int32 → Mem → Option (Int32 × Mem)) (x2 : Int32) (x3 : Int32) (z0 : Int32) (μ : Mem) : Option (Int32 × Mem) := bnv (f_X9_total μ) (fun r2 => lt (mn x2 r2) (fun y3 => lt (x3 + 1) (fun y4 => q12 z0 y3 y4 μ)))
set_option maxRecDepth 100000 in
set_option maxHeartbeats 4000000 in
theorem b_X9_cheapestStart_35 {p : Program} {l : Launch} {e : Env} {s : State} {m : MethodId} {args : Array Value} {below : List Frame} {meth : Method} {c : Code} {G : Gp} {O : (Int32 × Mem)} (C : Cx p s m args meth c cX9_cheapestStart 4 RX9 (some .int) G) {q12 : Int32 → Int32 → Int32 → Mem → Option (Int32 × Mem)} (hq12 : ∀ (x1 : Int32) (x2 : Int32) (x3 : Int32) (μ : Mem), q12 x1 x2 x3 μ = some O → ∀ (H : Heap) (locs : List Loc) (ls : Array Slot), Wm G μ H → va_S (wA G) s.heap H locs → lv_has ls 4 [(0, .ref (G.2.2 122)), (1, .int x1), (2, .int x2), (3, .int x3)] → W p l e (rmm 5 118) s m args below meth c H locs 0 0 (QI below args s G O) (F0 m 12 ls [])) : ∀ (x2 : Int32) (x3 : Int32) (z0 : Int32) (μ : Mem), f_X9_cheapestStart_35 q12 x2 x3 z0 μ = some O → ∀ (H : Heap) (locs : List Loc) (ls : Array Slot), Wm G μ H → va_S (wA G) s.heap H locs → lv_has ls 4 [(0, .ref (G.2.2 122)), (2, .int x2), (3, .int x3)] → W p l e (rmm 5 118) s m args below meth c H locs 0 0 (QI below args s G O) (F0 m 35 ls [.int z0]) := by
  intro x2 x3 z0 μ h H locs ls hP hS hl
  unfold f_X9_cheapestStart_35 at h
  refine lv_istore_n (lv' := [(1, .int z0), (0, .ref (G.2.2 122)), (2, .int x2), (3, .int x3)]) C.x C.b dX9_cheapestStart_35 rfl hl (by decide) rfl (fun ls hl => ?_)
  refine lv_iload_n C.x C.b dX9_cheapestStart_36 rfl (lv_at hl 2 rfl) ?_
  refine lv_aload_n C.x C.b dX9_cheapestStart_37 rfl (lv_at hl 1 rfl) ?_
  obtain ⟨r2, e1, h⟩ := bnv_some h
  refine k_vi (k := 122) (as := []) (rest := [.int x2]) (c_X9_total C.i e1) M_X9_total u5_192 C hP hS sh_122 rfl rfl (by decide) hl.1 rfl (Nat.le_of_ble_eq_true rfl) dX9_cheapestStart_38 (fun H locs hP hS => ?_)
  refine k_min u5_191 C hl.1 ⟨by decide, Nat.le_of_ble_eq_true rfl⟩ dX9_cheapestStart_41 ?_
  refine lv_topi (fun y3 e_y3 => ?_)
  have h := lt_at h e_y3
  refine lv_istore_n (lv' := [(2, .int y3), (1, .int z0), (0, .ref (G.2.2 122)), (3, .int x3)]) C.x C.b dX9_cheapestStart_44 rfl hl (by decide) rfl (fun ls hl => ?_)
  obtain ⟨y4, e_y4, h⟩ := lt_ex h
  refine lv_iinc (v := y4) (lv' := [(3, .int y4), (2, .int y3), (1, .int z0), (0, .ref (G.2.2 122))]) C.x C.b dX9_cheapestStart_45 hl (k := 3) rfl (by rw [e_y4]; rfl) (by decide) rfl (fun ls hl => ?_)
  refine lv_goto (tgt := 12) C.x C.b dX9_cheapestStart_48 (by decide) ?_
  exact hq12 z0 y3 y4 μ h _ _ _ hP hS (lv_sub hl [3, 2, 1, 0] rfl)

def g_X9_cheapestStart_12   (q12 : Int32 → Int32 → Int32 → Mem → Option (Int32 × Mem)) (x1 : Int32) (x2 : Int32) (x3 : Int32) (μ : Mem) : Option (Int32 × Mem) := if 3 ≤ x3 then (bnv (f_X9_forgets μ) (fun μ3 => some (x1, μ3))) else (bnv (f_X9_starts x3 μ) (fun μ5 => bnv (f_X9_total μ5) (fun r7 => if x2 ≤ r7 then (f_X9_cheapestStart_35 q12 x2 x3 x1 μ5) else (f_X9_cheapestStart_35 q12 x2 x3 x3 μ5))))
def f_X9_cheapestStart_12   : Nat → Int32 → Int32 → Int32 → Mem → Option (Int32 × Mem)
  | 0, _, _, _, _ => none
  | n + 1, x1, x2, x3, μ => g_X9_cheapestStart_12  (f_X9_cheapestStart_12  n) x1 x2 x3 μ
set_option maxRecDepth 100000 in
set_option maxHeartbeats 4000000 in
theorem w_X9_cheapestStart_12 {p : Program} {l : Launch} {e : Env} {s : State} {m : MethodId} {args : Array Value} {below : List Frame} {meth : Method} {c : Code} {G : Gp} {O : (Int32 × Mem)} (C : Cx p s m args meth c cX9_cheapestStart 4 RX9 (some .int) G) {q12 : Int32 → Int32 → Int32 → Mem → Option (Int32 × Mem)} (hq12 : ∀ (x1 : Int32) (x2 : Int32) (x3 : Int32) (μ : Mem), q12 x1 x2 x3 μ = some O → ∀ (H : Heap) (locs : List Loc) (ls : Array Slot), Wm G μ H → va_S (wA G) s.heap H locs → lv_has ls 4 [(0, .ref (G.2.2 122)), (1, .int x1), (2, .int x2), (3, .int x3)] → W p l e (rmm 5 118) s m args below meth c H locs 0 0 (QI below args s G O) (F0 m 12 ls [])) : ∀ (x1 : Int32) (x2 : Int32) (x3 : Int32) (μ : Mem), g_X9_cheapestStart_12 q12 x1 x2 x3 μ = some O → ∀ (H : Heap) (locs : List Loc) (ls : Array Slot), Wm G μ H → va_S (wA G) s.heap H locs → lv_has ls 4 [(0, .ref (G.2.2 122)), (1, .int x1), (2, .int x2), (3, .int x3)] → W p l e (rmm 5 118) s m args below meth c H locs 0 0 (QI below args s G O) (F0 m 12 ls []) := by
  intro x1 x2 x3 μ h H locs ls hP hS hl
  unfold g_X9_cheapestStart_12 at h
  refine lv_iload_n C.x C.b dX9_cheapestStart_12 rfl (lv_at hl 3 rfl) ?_
  refine lv_iconst (v := 3) C.x C.b dX9_cheapestStart_13 (by decide) ?_
  refine lv_icmp_ge (tgt := 51) C.x C.b dX9_cheapestStart_14 (by decide) (fun c1 => ?_) (fun c1 => ?_)
  · have h := (if_pos c1).symm.trans h
    refine lv_aload_n C.x C.b dX9_cheapestStart_51 rfl (lv_at hl 0 rfl) ?_
    obtain ⟨μ3, e2, h⟩ := bnv_some h
    refine k_vv (k := 122) (as := []) (rest := []) (c_X9_forgets C.i e2) M_X9_forgets u6_62 C hP hS sh_122 rfl rfl (by decide) hl.1 rfl (Nat.le_of_ble_eq_true rfl) dX9_cheapestStart_52 (fun H locs hP hS => ?_)
    refine lv_iload_n C.x C.b dX9_cheapestStart_55 rfl (lv_at hl 1 rfl) ?_
    exact r_i h C hP hS dX9_cheapestStart_56
  · have h := (if_neg c1).symm.trans h
    refine lv_aload_n C.x C.b dX9_cheapestStart_17 rfl (lv_at hl 0 rfl) ?_
    refine lv_iload_n C.x C.b dX9_cheapestStart_18 rfl (lv_at hl 3 rfl) ?_
    obtain ⟨μ5, e4, h⟩ := bnv_some h
    refine k_vv (k := 122) (as := [.int x3]) (rest := []) (c_X9_starts C.i e4) M_X9_starts u5_155 C hP hS sh_122 rfl rfl (by decide) hl.1 rfl (Nat.le_of_ble_eq_true rfl) dX9_cheapestStart_19 (fun H locs hP hS => ?_)
    refine lv_aload_n C.x C.b dX9_cheapestStart_22 rfl (lv_at hl 0 rfl) ?_
    obtain ⟨r7, e6, h⟩ := bnv_some h
    refine k_vi (k := 122) (as := []) (rest := []) (c_X9_total C.i e6) M_X9_total u5_192 C hP hS sh_122 rfl rfl (by decide) hl.1 rfl (Nat.le_of_ble_eq_true rfl) dX9_cheapestStart_23 (fun H locs hP hS => ?_)
    refine lv_iload_n C.x C.b dX9_cheapestStart_26 rfl (lv_at hl 2 rfl) ?_
    refine lv_icmp_ge (tgt := 34) C.x C.b dX9_cheapestStart_27 (by decide) (fun c8 => ?_) (fun c8 => ?_)
    · have h := (if_pos c8).symm.trans h
      refine lv_iload_n C.x C.b dX9_cheapestStart_34 rfl (lv_at hl 1 rfl) ?_
      exact b_X9_cheapestStart_35 C hq12 x2 x3 x1 μ5 h _ _ _ hP hS (lv_sub hl [0, 2, 3] rfl)
    · have h := (if_neg c8).symm.trans h
      refine lv_iload_n C.x C.b dX9_cheapestStart_30 rfl (lv_at hl 3 rfl) ?_
      refine lv_goto (tgt := 35) C.x C.b dX9_cheapestStart_31 (by decide) ?_
      exact b_X9_cheapestStart_35 C hq12 x2 x3 x3 μ5 h _ _ _ hP hS (lv_sub hl [0, 2, 3] rfl)

set_option maxRecDepth 100000 in
set_option maxHeartbeats 4000000 in
theorem b_X9_cheapestStart_12 {p : Program} {l : Launch} {e : Env} {s : State} {m : MethodId} {args : Array Value} {below : List Frame} {meth : Method} {c : Code} {G : Gp} {O : (Int32 × Mem)} (C : Cx p s m args meth c cX9_cheapestStart 4 RX9 (some .int) G) : ∀ (n : Nat) (x1 : Int32) (x2 : Int32) (x3 : Int32) (μ : Mem), f_X9_cheapestStart_12 n x1 x2 x3 μ = some O → ∀ (H : Heap) (locs : List Loc) (ls : Array Slot), Wm G μ H → va_S (wA G) s.heap H locs → lv_has ls 4 [(0, .ref (G.2.2 122)), (1, .int x1), (2, .int x2), (3, .int x3)] → W p l e (rmm 5 118) s m args below meth c H locs 0 0 (QI below args s G O) (F0 m 12 ls []) := by
  intro n
  induction n with
  | zero => intro x1 x2 x3 μ h; cases h
  | succ n ih => intro x1 x2 x3 μ h; exact w_X9_cheapestStart_12 C (q12 := f_X9_cheapestStart_12 n) ih x1 x2 x3 μ h

def f_X9_cheapestStart  (μ : Mem) : Option (Int32 × Mem) := bnv (f_X9_minds μ) (fun μ2 => f_X9_cheapestStart_12 FU 0 2147483647 0 μ2)
set_option maxRecDepth 100000 in
set_option maxHeartbeats 4000000 in
theorem b_X9_cheapestStart {p : Program} {l : Launch} {e : Env} {s : State} {m : MethodId} {args : Array Value} {below : List Frame} {meth : Method} {c : Code} {G : Gp} {O : (Int32 × Mem)} (C : Cx p s m args meth c cX9_cheapestStart 4 RX9 (some .int) G) {μ : Mem} (h : f_X9_cheapestStart μ = some O) : ∀ (H : Heap) (locs : List Loc) (ls : Array Slot), Wm G μ H → va_S (wA G) s.heap H locs → lv_has ls 4 [(0, .ref (G.2.2 122))] → W p l e (rmm 5 118) s m args below meth c H locs 0 0 (QI below args s G O) (F0 m 0 ls []) := by
  unfold f_X9_cheapestStart at h
  intro H locs ls hP hS hl
  refine lv_iconst (v := 0) C.x C.b dX9_cheapestStart_0 (by decide) ?_
  refine lv_istore_n (lv' := [(1, .int 0), (0, .ref (G.2.2 122))]) C.x C.b dX9_cheapestStart_1 rfl hl (by decide) rfl (fun ls hl => ?_)
  refine lv_ldcw (own := RX9) (v := 2147483647) C.x C.b C.o (C.t _ u5_233) dX9_cheapestStart_2 ?_
  refine lv_istore_n (lv' := [(2, .int 2147483647), (1, .int 0), (0, .ref (G.2.2 122))]) C.x C.b dX9_cheapestStart_5 rfl hl (by decide) rfl (fun ls hl => ?_)
  refine lv_aload_n C.x C.b dX9_cheapestStart_6 rfl (lv_at hl 2 rfl) ?_
  obtain ⟨μ2, e1, h⟩ := bnv_some h
  refine k_vv (k := 122) (as := []) (rest := []) (c_X9_minds C.i e1) M_X9_minds u6_50 C hP hS sh_122 rfl rfl (by decide) hl.1 rfl (Nat.le_of_ble_eq_true rfl) dX9_cheapestStart_7 (fun H locs hP hS => ?_)
  refine lv_iconst (v := 0) C.x C.b dX9_cheapestStart_10 (by decide) ?_
  refine lv_istore_n (lv' := [(3, .int 0), (2, .int 2147483647), (1, .int 0), (0, .ref (G.2.2 122))]) C.x C.b dX9_cheapestStart_11 rfl hl (by decide) rfl (fun ls hl => ?_)
  exact b_X9_cheapestStart_12 C FU 0 2147483647 0 μ2 h _ _ _ hP hS (lv_sub hl [3, 2, 1, 0] rfl)

set_option maxRecDepth 100000 in
set_option maxHeartbeats 4000000 in
theorem c_X9_cheapestStart {l : Launch} {G : Gp} (hI : Wi G) {μ : Mem} {r : Int32} {μ' : Mem} (h : f_X9_cheapestStart μ = some (r, μ')) : CI l yX9_cheapestStart cX9_cheapestStart 4 (some .int) 5 118 G [.ref (G.2.2 122)] μ r μ' :=
  e_all (lv := [(0, .ref (G.2.2 122))]) hI (by decide) (Nat.le_of_ble_eq_true rfl) rfl (fun p e s m args below meth c ls C hP hS hl => b_X9_cheapestStart C h _ _ _ hP hS hl)


def g_X9_fewest_12   (q12 : Int32 → Int32 → Int32 → Mem → Option (Int32 × Mem)) (x1 : Int32) (x2 : Int32) (x3 : Int32) (μ : Mem) : Option (Int32 × Mem) := if 9 ≤ x3 then (bnv (f_X9_forgets μ) (fun μ3 => some (x1, μ3))) else (bnd (f_X9_thinks (x3 / 3) (rm32 x3 3) μ) (fun r5 μ6 => if r5 < 0 then (lt (x3 + 1) (fun y8 => q12 x1 x2 y8 μ6)) else (if x2 ≤ (μ6.1 122 9) then (lt (x3 + 1) (fun y10 => q12 x1 x2 y10 μ6)) else (lt (μ6.1 122 9) (fun y11 => lt ((10 * (x3 / 3)) + (rm32 x3 3)) (fun y12 => lt (x3 + 1) (fun y13 => q12 y12 y11 y13 μ6)))))))
def f_X9_fewest_12   : Nat → Int32 → Int32 → Int32 → Mem → Option (Int32 × Mem)
  | 0, _, _, _, _ => none
  | n + 1, x1, x2, x3, μ => g_X9_fewest_12  (f_X9_fewest_12  n) x1 x2 x3 μ
set_option maxRecDepth 100000 in
set_option maxHeartbeats 4000000 in
theorem w_X9_fewest_12 {p : Program} {l : Launch} {e : Env} {s : State} {m : MethodId} {args : Array Value} {below : List Frame} {meth : Method} {c : Code} {G : Gp} {O : (Int32 × Mem)} (C : Cx p s m args meth c cX9_fewest 4 RX9 (some .int) G) {q12 : Int32 → Int32 → Int32 → Mem → Option (Int32 × Mem)} (hq12 : ∀ (x1 : Int32) (x2 : Int32) (x3 : Int32) (μ : Mem), q12 x1 x2 x3 μ = some O → ∀ (H : Heap) (locs : List Loc) (ls : Array Slot), Wm G μ H → va_S (wA G) s.heap H locs → lv_has ls 4 [(0, .ref (G.2.2 122)), (1, .int x1), (2, .int x2), (3, .int x3)] → W p l e (rmm 6 140) s m args below meth c H locs 0 0 (QI below args s G O) (F0 m 12 ls [])) : ∀ (x1 : Int32) (x2 : Int32) (x3 : Int32) (μ : Mem), g_X9_fewest_12 q12 x1 x2 x3 μ = some O → ∀ (H : Heap) (locs : List Loc) (ls : Array Slot), Wm G μ H → va_S (wA G) s.heap H locs → lv_has ls 4 [(0, .ref (G.2.2 122)), (1, .int x1), (2, .int x2), (3, .int x3)] → W p l e (rmm 6 140) s m args below meth c H locs 0 0 (QI below args s G O) (F0 m 12 ls []) := by
  intro x1 x2 x3 μ h H locs ls hP hS hl
  unfold g_X9_fewest_12 at h
  refine lv_iload_n C.x C.b dX9_fewest_12 rfl (lv_at hl 3 rfl) ?_
  refine lv_bipush (v := 9) C.x C.b dX9_fewest_13 (by decide) ?_
  refine lv_icmp_ge (tgt := 61) C.x C.b dX9_fewest_15 (by decide) (fun c1 => ?_) (fun c1 => ?_)
  · have h := (if_pos c1).symm.trans h
    refine lv_aload_n C.x C.b dX9_fewest_61 rfl (lv_at hl 0 rfl) ?_
    obtain ⟨μ3, e2, h⟩ := bnv_some h
    refine k_vv (k := 122) (as := []) (rest := []) (c_X9_forgets C.i e2) M_X9_forgets u6_62 C hP hS sh_122 rfl rfl (by decide) hl.1 rfl (Nat.le_of_ble_eq_true rfl) dX9_fewest_62 (fun H locs hP hS => ?_)
    refine lv_iload_n C.x C.b dX9_fewest_65 rfl (lv_at hl 1 rfl) ?_
    exact r_i h C hP hS dX9_fewest_66
  · have h := (if_neg c1).symm.trans h
    refine lv_aload_n C.x C.b dX9_fewest_18 rfl (lv_at hl 0 rfl) ?_
    refine lv_iload_n C.x C.b dX9_fewest_19 rfl (lv_at hl 3 rfl) ?_
    refine lv_iconst (v := 3) C.x C.b dX9_fewest_20 (by decide) ?_
    refine lv_idiv C.x C.b dX9_fewest_21 (by decide) ?_
    refine lv_iload_n C.x C.b dX9_fewest_22 rfl (lv_at hl 3 rfl) ?_
    refine lv_iconst (v := 3) C.x C.b dX9_fewest_23 (by decide) ?_
    refine lv_irem C.x C.b dX9_fewest_24 (by decide) ?_
    obtain ⟨r5, μ6, e4, h⟩ := bnd_some h
    refine k_vi (k := 122) (as := [.int (x3 / 3), .int (rm32 x3 3)]) (rest := []) (c_X9_thinks C.i e4) M_X9_thinks u6_58 C hP hS sh_122 rfl rfl (by decide) hl.1 rfl (Nat.le_of_ble_eq_true rfl) dX9_fewest_25 (fun H locs hP hS => ?_)
    refine lv_if_lt (tgt := 55) C.x C.b dX9_fewest_28 (by decide) (fun c7 => ?_) (fun c7 => ?_)
    · have h := (if_pos c7).symm.trans h
      obtain ⟨y8, e_y8, h⟩ := lt_ex h
      refine lv_iinc (v := y8) (lv' := [(3, .int y8), (0, .ref (G.2.2 122)), (1, .int x1), (2, .int x2)]) C.x C.b dX9_fewest_55 hl (k := 3) rfl (by rw [e_y8]; rfl) (by decide) rfl (fun ls hl => ?_)
      refine lv_goto (tgt := 12) C.x C.b dX9_fewest_58 (by decide) ?_
      exact hq12 x1 x2 y8 μ6 h _ _ _ hP hS (lv_sub hl [1, 2, 3, 0] rfl)
    · have h := (if_neg c7).symm.trans h
      refine lv_aload_n C.x C.b dX9_fewest_31 rfl (lv_at hl 0 rfl) ?_
      refine g_int F_9_9 u4_138 C hP sh_122 dX9_fewest_32 ?_
      refine lv_iload_n C.x C.b dX9_fewest_35 rfl (lv_at hl 2 rfl) ?_
      refine lv_icmp_ge (tgt := 55) C.x C.b dX9_fewest_36 (by decide) (fun c9 => ?_) (fun c9 => ?_)
      · have h := (if_pos c9).symm.trans h
        obtain ⟨y10, e_y10, h⟩ := lt_ex h
        refine lv_iinc (v := y10) (lv' := [(3, .int y10), (0, .ref (G.2.2 122)), (1, .int x1), (2, .int x2)]) C.x C.b dX9_fewest_55 hl (k := 3) rfl (by rw [e_y10]; rfl) (by decide) rfl (fun ls hl => ?_)
        refine lv_goto (tgt := 12) C.x C.b dX9_fewest_58 (by decide) ?_
        exact hq12 x1 x2 y10 μ6 h _ _ _ hP hS (lv_sub hl [1, 2, 3, 0] rfl)
      · have h := (if_neg c9).symm.trans h
        refine lv_aload_n C.x C.b dX9_fewest_39 rfl (lv_at hl 0 rfl) ?_
        refine g_int F_9_9 u4_138 C hP sh_122 dX9_fewest_40 ?_
        refine lv_topi (fun y11 e_y11 => ?_)
        have h := lt_at h e_y11
        refine lv_istore_n (lv' := [(2, .int y11), (0, .ref (G.2.2 122)), (1, .int x1), (3, .int x3)]) C.x C.b dX9_fewest_43 rfl hl (by decide) rfl (fun ls hl => ?_)
        refine lv_bipush (v := 10) C.x C.b dX9_fewest_44 (by decide) ?_
        refine lv_iload_n C.x C.b dX9_fewest_46 rfl (lv_at hl 3 rfl) ?_
        refine lv_iconst (v := 3) C.x C.b dX9_fewest_47 (by decide) ?_
        refine lv_idiv C.x C.b dX9_fewest_48 (by decide) ?_
        refine lv_imul C.x C.b dX9_fewest_49 ?_
        refine lv_iload_n C.x C.b dX9_fewest_50 rfl (lv_at hl 3 rfl) ?_
        refine lv_iconst (v := 3) C.x C.b dX9_fewest_51 (by decide) ?_
        refine lv_irem C.x C.b dX9_fewest_52 (by decide) ?_
        refine lv_iadd C.x C.b dX9_fewest_53 ?_
        refine lv_topi (fun y12 e_y12 => ?_)
        have h := lt_at h e_y12
        refine lv_istore_n (lv' := [(1, .int y12), (2, .int y11), (0, .ref (G.2.2 122)), (3, .int x3)]) C.x C.b dX9_fewest_54 rfl hl (by decide) rfl (fun ls hl => ?_)
        obtain ⟨y13, e_y13, h⟩ := lt_ex h
        refine lv_iinc (v := y13) (lv' := [(3, .int y13), (1, .int y12), (2, .int y11), (0, .ref (G.2.2 122))]) C.x C.b dX9_fewest_55 hl (k := 3) rfl (by rw [e_y13]; rfl) (by decide) rfl (fun ls hl => ?_)
        refine lv_goto (tgt := 12) C.x C.b dX9_fewest_58 (by decide) ?_
        exact hq12 y12 y11 y13 μ6 h _ _ _ hP hS (lv_sub hl [3, 1, 2, 0] rfl)

set_option maxRecDepth 100000 in
set_option maxHeartbeats 4000000 in
theorem b_X9_fewest_12 {p : Program} {l : Launch} {e : Env} {s : State} {m : MethodId} {args : Array Value} {below : List Frame} {meth : Method} {c : Code} {G : Gp} {O : (Int32 × Mem)} (C : Cx p s m args meth c cX9_fewest 4 RX9 (some .int) G) : ∀ (n : Nat) (x1 : Int32) (x2 : Int32) (x3 : Int32) (μ : Mem), f_X9_fewest_12 n x1 x2 x3 μ = some O → ∀ (H : Heap) (locs : List Loc) (ls : Array Slot), Wm G μ H → va_S (wA G) s.heap H locs → lv_has ls 4 [(0, .ref (G.2.2 122)), (1, .int x1), (2, .int x2), (3, .int x3)] → W p l e (rmm 6 140) s m args below meth c H locs 0 0 (QI below args s G O) (F0 m 12 ls []) := by
  intro n
  induction n with
  | zero => intro x1 x2 x3 μ h; cases h
  | succ n ih => intro x1 x2 x3 μ h; exact w_X9_fewest_12 C (q12 := f_X9_fewest_12 n) ih x1 x2 x3 μ h

def f_X9_fewest  (μ : Mem) : Option (Int32 × Mem) := bnv (f_X9_minds μ) (fun μ2 => f_X9_fewest_12 FU ((-5)) 101 0 μ2)
set_option maxRecDepth 100000 in
set_option maxHeartbeats 4000000 in
theorem b_X9_fewest {p : Program} {l : Launch} {e : Env} {s : State} {m : MethodId} {args : Array Value} {below : List Frame} {meth : Method} {c : Code} {G : Gp} {O : (Int32 × Mem)} (C : Cx p s m args meth c cX9_fewest 4 RX9 (some .int) G) {μ : Mem} (h : f_X9_fewest μ = some O) : ∀ (H : Heap) (locs : List Loc) (ls : Array Slot), Wm G μ H → va_S (wA G) s.heap H locs → lv_has ls 4 [(0, .ref (G.2.2 122))] → W p l e (rmm 6 140) s m args below meth c H locs 0 0 (QI below args s G O) (F0 m 0 ls []) := by
  unfold f_X9_fewest at h
  intro H locs ls hP hS hl
  refine lv_bipush (v := (-5)) C.x C.b dX9_fewest_0 (by decide) ?_
  refine lv_istore_n (lv' := [(1, .int ((-5))), (0, .ref (G.2.2 122))]) C.x C.b dX9_fewest_2 rfl hl (by decide) rfl (fun ls hl => ?_)
  refine lv_bipush (v := 101) C.x C.b dX9_fewest_3 (by decide) ?_
  refine lv_istore_n (lv' := [(2, .int 101), (1, .int ((-5))), (0, .ref (G.2.2 122))]) C.x C.b dX9_fewest_5 rfl hl (by decide) rfl (fun ls hl => ?_)
  refine lv_aload_n C.x C.b dX9_fewest_6 rfl (lv_at hl 2 rfl) ?_
  obtain ⟨μ2, e1, h⟩ := bnv_some h
  refine k_vv (k := 122) (as := []) (rest := []) (c_X9_minds C.i e1) M_X9_minds u6_50 C hP hS sh_122 rfl rfl (by decide) hl.1 rfl (Nat.le_of_ble_eq_true rfl) dX9_fewest_7 (fun H locs hP hS => ?_)
  refine lv_iconst (v := 0) C.x C.b dX9_fewest_10 (by decide) ?_
  refine lv_istore_n (lv' := [(3, .int 0), (2, .int 101), (1, .int ((-5))), (0, .ref (G.2.2 122))]) C.x C.b dX9_fewest_11 rfl hl (by decide) rfl (fun ls hl => ?_)
  exact b_X9_fewest_12 C FU ((-5)) 101 0 μ2 h _ _ _ hP hS (lv_sub hl [3, 2, 1, 0] rfl)

set_option maxRecDepth 100000 in
set_option maxHeartbeats 4000000 in
theorem c_X9_fewest {l : Launch} {G : Gp} (hI : Wi G) {μ : Mem} {r : Int32} {μ' : Mem} (h : f_X9_fewest μ = some (r, μ')) : CI l yX9_fewest cX9_fewest 4 (some .int) 6 140 G [.ref (G.2.2 122)] μ r μ' :=
  e_all (lv := [(0, .ref (G.2.2 122))]) hI (by decide) (Nat.le_of_ble_eq_true rfl) rfl (fun p e s m args below meth c ls C hP hS hl => b_X9_fewest C h _ _ _ hP hS hl)


def f_X9_cheapest (x1 : Int32) (μ : Mem) : Option (Int32 × Mem) := bnv (f_X9_in (Int32.toInt64 x1) 0 1 μ) (fun r2 => if r2 = 0 then (some ((-1), μ)) else (if (μ.1 122 0) = 0 then (some ((-5), μ)) else (if (μ.1 122 1) = 0 then (some ((-5), μ)) else (if x1 = 0 then (bnd (f_X9_cheapestStart μ) (fun r11 μ12 => some (r11, μ12))) else (bnd (f_X9_fewest μ) (fun r8 μ9 => some (r8, μ9)))))))
set_option maxRecDepth 100000 in
set_option maxHeartbeats 4000000 in
theorem b_X9_cheapest {p : Program} {l : Launch} {e : Env} {s : State} {m : MethodId} {args : Array Value} {below : List Frame} {meth : Method} {c : Code} {G : Gp} {O : (Int32 × Mem)} (C : Cx p s m args meth c cX9_cheapest 2 RX9 (some .int) G) {x1 : Int32} {μ : Mem} (h : f_X9_cheapest x1 μ = some O) : ∀ (H : Heap) (locs : List Loc) (ls : Array Slot), Wm G μ H → va_S (wA G) s.heap H locs → lv_has ls 2 [(0, .ref (G.2.2 122)), (1, .int x1)] → W p l e (rmm 7 163) s m args below meth c H locs 0 0 (QI below args s G O) (F0 m 0 ls []) := by
  unfold f_X9_cheapest at h
  intro H locs ls hP hS hl
  refine lv_iload_n C.x C.b dX9_cheapest_0 rfl (lv_at hl 1 rfl) ?_
  refine lv_i2l (v := Int32.toInt64 x1) C.x C.b dX9_cheapest_1 rfl ?_
  refine lv_lconst (v := 0) C.x C.b dX9_cheapest_2 (by decide) ?_
  refine lv_lconst (v := 1) C.x C.b dX9_cheapest_3 (by decide) ?_
  obtain ⟨r2, e1, h⟩ := bnv_some h
  refine k_si (as := [.long (Int32.toInt64 x1), .long 0, .long 1]) (rest := []) (c_X9_in C.i e1) M_X9_in u5_72 C hP hS rfl (by decide) hl.1 rfl (Nat.le_of_ble_eq_true rfl) dX9_cheapest_4 (fun H locs hP hS => ?_)
  refine lv_if_ne (tgt := 12) C.x C.b dX9_cheapest_7 (by decide) (fun c3 => ?_) (fun c3 => ?_)
  · have h := (if_neg c3).symm.trans h
    refine lv_aload_n C.x C.b dX9_cheapest_12 rfl (lv_at hl 0 rfl) ?_
    refine g_int F_9_0 u4_129 C hP sh_122 dX9_cheapest_13 ?_
    refine lv_if_eq (tgt := 26) C.x C.b dX9_cheapest_16 (by decide) (fun c4 => ?_) (fun c4 => ?_)
    · have h := (if_pos c4).symm.trans h
      refine lv_bipush (v := (-5)) C.x C.b dX9_cheapest_26 (by decide) ?_
      exact r_i h C hP hS dX9_cheapest_28
    · have h := (if_neg c4).symm.trans h
      refine lv_aload_n C.x C.b dX9_cheapest_19 rfl (lv_at hl 0 rfl) ?_
      refine g_int F_9_1 u4_130 C hP sh_122 dX9_cheapest_20 ?_
      refine lv_if_ne (tgt := 29) C.x C.b dX9_cheapest_23 (by decide) (fun c5 => ?_) (fun c5 => ?_)
      · have h := (if_neg c5).symm.trans h
        refine lv_iload_n C.x C.b dX9_cheapest_29 rfl (lv_at hl 1 rfl) ?_
        refine lv_if_ne (tgt := 40) C.x C.b dX9_cheapest_30 (by decide) (fun c6 => ?_) (fun c6 => ?_)
        · have h := (if_neg c6).symm.trans h
          refine lv_aload_n C.x C.b dX9_cheapest_40 rfl (lv_at hl 0 rfl) ?_
          obtain ⟨r8, μ9, e7, h⟩ := bnd_some h
          refine k_vi (k := 122) (as := []) (rest := []) (c_X9_fewest C.i e7) M_X9_fewest u6_78 C hP hS sh_122 rfl rfl (by decide) hl.1 rfl (Nat.le_of_ble_eq_true rfl) dX9_cheapest_41 (fun H locs hP hS => ?_)
          exact r_i h C hP hS dX9_cheapest_44
        · have h := (if_pos c6).symm.trans h
          refine lv_aload_n C.x C.b dX9_cheapest_33 rfl (lv_at hl 0 rfl) ?_
          obtain ⟨r11, μ12, e10, h⟩ := bnd_some h
          refine k_vi (k := 122) (as := []) (rest := []) (c_X9_cheapestStart C.i e10) M_X9_cheapestStart u6_74 C hP hS sh_122 rfl rfl (by decide) hl.1 rfl (Nat.le_of_ble_eq_true rfl) dX9_cheapest_34 (fun H locs hP hS => ?_)
          refine lv_goto (tgt := 44) C.x C.b dX9_cheapest_37 (by decide) ?_
          exact r_i h C hP hS dX9_cheapest_44
      · have h := (if_pos c5).symm.trans h
        refine lv_bipush (v := (-5)) C.x C.b dX9_cheapest_26 (by decide) ?_
        exact r_i h C hP hS dX9_cheapest_28
  · have h := (if_pos c3).symm.trans h
    refine lv_iconst (v := (-1)) C.x C.b dX9_cheapest_10 (by decide) ?_
    exact r_i h C hP hS dX9_cheapest_11

set_option maxRecDepth 100000 in
set_option maxHeartbeats 4000000 in
theorem c_X9_cheapest {l : Launch} {G : Gp} (hI : Wi G) {x1 : Int32} {μ : Mem} {r : Int32} {μ' : Mem} (h : f_X9_cheapest x1 μ = some (r, μ')) : CI l yX9_cheapest cX9_cheapest 2 (some .int) 7 163 G [.ref (G.2.2 122), .int x1] μ r μ' :=
  e_all (lv := [(0, .ref (G.2.2 122)), (1, .int x1)]) hI (by decide) (Nat.le_of_ble_eq_true rfl) rfl (fun p e s m args below meth c ls C hP hS hl => b_X9_cheapest C h _ _ _ hP hS hl)


def f_X9_more (x1 : Int32) (x2 : Int32) (μ : Mem) : Option (Int64 × Mem) := bnv (f_X9_isRoad x1 x2 μ) (fun r2 => if r2 = 0 then (some ((-9223372036854775808), μ)) else (bnd (f_X9_theBest μ) (fun r5 μ6 => grd (inb x1 10) (grd (inb x1 10) (lt (st μ6 123 x1.toNatClampNeg ((μ6.1 123 x1.toNatClampNeg) + 1)) (fun μ9 => grd (inb (5 + x2) 10) (grd (inb (5 + x2) 10) (lt (st μ9 123 (5 + x2).toNatClampNeg ((μ9.1 123 (5 + x2).toNatClampNeg) + 1)) (fun μ12 => bnd (f_X9_theBest μ12) (fun r14 μ15 => grd (inb x1 10) (grd (inb x1 10) (lt (st μ15 123 x1.toNatClampNeg ((μ15.1 123 x1.toNatClampNeg) - 1)) (fun μ18 => grd (inb (5 + x2) 10) (grd (inb (5 + x2) 10) (lt (st μ18 123 (5 + x2).toNatClampNeg ((μ18.1 123 (5 + x2).toNatClampNeg) - 1)) (fun μ21 => if r5 < 0 then (some ((-9223372036854775808), μ21)) else (if 0 ≤ r14 then (some (Int32.toInt64 (r14 - r5), μ21)) else (some ((-9223372036854775808), μ21)))))))))))))))))))
set_option maxRecDepth 100000 in
set_option maxHeartbeats 4000000 in
theorem b_X9_more {p : Program} {l : Launch} {e : Env} {s : State} {m : MethodId} {args : Array Value} {below : List Frame} {meth : Method} {c : Code} {G : Gp} {O : (Int64 × Mem)} (C : Cx p s m args meth c cX9_more 5 RX9 (some .long) G) {x1 : Int32} {x2 : Int32} {μ : Mem} (h : f_X9_more x1 x2 μ = some O) : ∀ (H : Heap) (locs : List Loc) (ls : Array Slot), Wm G μ H → va_S (wA G) s.heap H locs → lv_has ls 5 [(0, .ref (G.2.2 122)), (1, .int x1), (2, .int x2)] → W p l e (rmm 7 161) s m args below meth c H locs 0 0 (QL below args s G O) (F0 m 0 ls []) := by
  unfold f_X9_more at h
  intro H locs ls hP hS hl
  refine lv_aload_n C.x C.b dX9_more_0 rfl (lv_at hl 0 rfl) ?_
  refine lv_iload_n C.x C.b dX9_more_1 rfl (lv_at hl 1 rfl) ?_
  refine lv_iload_n C.x C.b dX9_more_2 rfl (lv_at hl 2 rfl) ?_
  obtain ⟨r2, e1, h⟩ := bnv_some h
  refine k_vi (k := 122) (as := [.int x1, .int x2]) (rest := []) (c_X9_isRoad C.i e1) M_X9_isRoad u5_101 C hP hS sh_122 rfl rfl (by decide) hl.1 rfl (Nat.le_of_ble_eq_true rfl) dX9_more_3 (fun H locs hP hS => ?_)
  refine lv_if_ne (tgt := 13) C.x C.b dX9_more_6 (by decide) (fun c3 => ?_) (fun c3 => ?_)
  · have h := (if_neg c3).symm.trans h
    refine lv_aload_n C.x C.b dX9_more_13 rfl (lv_at hl 0 rfl) ?_
    obtain ⟨r5, μ6, e4, h⟩ := bnd_some h
    refine k_vi (k := 122) (as := []) (rest := []) (c_X9_theBest C.i e4) M_X9_theBest u6_86 C hP hS sh_122 rfl rfl (by decide) hl.1 rfl (Nat.le_of_ble_eq_true rfl) dX9_more_14 (fun H locs hP hS => ?_)
    refine lv_istore_n (lv' := [(3, .int r5), (0, .ref (G.2.2 122)), (1, .int x1), (2, .int x2)]) C.x C.b dX9_more_17 rfl hl (by decide) rfl (fun ls hl => ?_)
    refine lv_aload_n C.x C.b dX9_more_18 rfl (lv_at hl 1 rfl) ?_
    refine g_ref (k' := 123) F_9_2 u4_131 C hP sh_122 rfl dX9_more_19 ?_
    refine lv_iload_n C.x C.b dX9_more_22 rfl (lv_at hl 2 rfl) ?_
    refine lv_dup2_11 C.x C.b dX9_more_23 rfl rfl ?_
    obtain ⟨g7, h⟩ := grd_some h
    refine a_i C hP sh_123 g7 dX9_more_24 ?_
    refine lv_iconst (v := 1) C.x C.b dX9_more_25 (by decide) ?_
    refine lv_iadd C.x C.b dX9_more_26 ?_
    obtain ⟨g8, h⟩ := grd_some h
    refine as_i C hP hS sh_123 g8 dX9_more_27 (fun H locs hP hS => ?_)
    obtain ⟨μ9, m_μ9, h⟩ := lt_ex h
    have hP : Wm G μ9 H := by rw [m_μ9]; exact hP
    refine lv_aload_n C.x C.b dX9_more_28 rfl (lv_at hl 1 rfl) ?_
    refine g_ref (k' := 123) F_9_2 u4_131 C hP sh_122 rfl dX9_more_29 ?_
    refine lv_iconst (v := 5) C.x C.b dX9_more_32 (by decide) ?_
    refine lv_iload_n C.x C.b dX9_more_33 rfl (lv_at hl 3 rfl) ?_
    refine lv_iadd C.x C.b dX9_more_34 ?_
    refine lv_dup2_11 C.x C.b dX9_more_35 rfl rfl ?_
    obtain ⟨g10, h⟩ := grd_some h
    refine a_i C hP sh_123 g10 dX9_more_36 ?_
    refine lv_iconst (v := 1) C.x C.b dX9_more_37 (by decide) ?_
    refine lv_iadd C.x C.b dX9_more_38 ?_
    obtain ⟨g11, h⟩ := grd_some h
    refine as_i C hP hS sh_123 g11 dX9_more_39 (fun H locs hP hS => ?_)
    obtain ⟨μ12, m_μ12, h⟩ := lt_ex h
    have hP : Wm G μ12 H := by rw [m_μ12]; exact hP
    refine lv_aload_n C.x C.b dX9_more_40 rfl (lv_at hl 1 rfl) ?_
    obtain ⟨r14, μ15, e13, h⟩ := bnd_some h
    refine k_vi (k := 122) (as := []) (rest := []) (c_X9_theBest C.i e13) M_X9_theBest u6_86 C hP hS sh_122 rfl rfl (by decide) hl.1 rfl (Nat.le_of_ble_eq_true rfl) dX9_more_41 (fun H locs hP hS => ?_)
    refine lv_istore (lv' := [(4, .int r14), (3, .int r5), (0, .ref (G.2.2 122)), (1, .int x1), (2, .int x2)]) C.x C.b dX9_more_44 hl (by decide) rfl (fun ls hl => ?_)
    refine lv_aload_n C.x C.b dX9_more_46 rfl (lv_at hl 2 rfl) ?_
    refine g_ref (k' := 123) F_9_2 u4_131 C hP sh_122 rfl dX9_more_47 ?_
    refine lv_iload_n C.x C.b dX9_more_50 rfl (lv_at hl 3 rfl) ?_
    refine lv_dup2_11 C.x C.b dX9_more_51 rfl rfl ?_
    obtain ⟨g16, h⟩ := grd_some h
    refine a_i C hP sh_123 g16 dX9_more_52 ?_
    refine lv_iconst (v := 1) C.x C.b dX9_more_53 (by decide) ?_
    refine lv_isub C.x C.b dX9_more_54 ?_
    obtain ⟨g17, h⟩ := grd_some h
    refine as_i C hP hS sh_123 g17 dX9_more_55 (fun H locs hP hS => ?_)
    obtain ⟨μ18, m_μ18, h⟩ := lt_ex h
    have hP : Wm G μ18 H := by rw [m_μ18]; exact hP
    refine lv_aload_n C.x C.b dX9_more_56 rfl (lv_at hl 2 rfl) ?_
    refine g_ref (k' := 123) F_9_2 u4_131 C hP sh_122 rfl dX9_more_57 ?_
    refine lv_iconst (v := 5) C.x C.b dX9_more_60 (by decide) ?_
    refine lv_iload_n C.x C.b dX9_more_61 rfl (lv_at hl 4 rfl) ?_
    refine lv_iadd C.x C.b dX9_more_62 ?_
    refine lv_dup2_11 C.x C.b dX9_more_63 rfl rfl ?_
    obtain ⟨g19, h⟩ := grd_some h
    refine a_i C hP sh_123 g19 dX9_more_64 ?_
    refine lv_iconst (v := 1) C.x C.b dX9_more_65 (by decide) ?_
    refine lv_isub C.x C.b dX9_more_66 ?_
    obtain ⟨g20, h⟩ := grd_some h
    refine as_i C hP hS sh_123 g20 dX9_more_67 (fun H locs hP hS => ?_)
    obtain ⟨μ21, m_μ21, h⟩ := lt_ex h
    have hP : Wm G μ21 H := by rw [m_μ21]; exact hP
    refine lv_iload_n C.x C.b dX9_more_68 rfl (lv_at hl 1 rfl) ?_
    refine lv_if_lt (tgt := 77) C.x C.b dX9_more_69 (by decide) (fun c22 => ?_) (fun c22 => ?_)
    · have h := (if_pos c22).symm.trans h
      refine lv_ldc2 (own := RX9) (v := (-9223372036854775808)) C.x C.b C.o (C.t _ u6_17) dX9_more_77 ?_
      refine lv_goto (tgt := 88) C.x C.b dX9_more_80 (by decide) ?_
      exact r_l h C hP hS dX9_more_88
    · have h := (if_neg c22).symm.trans h
      refine lv_iload C.x C.b dX9_more_72 (lv_at hl 0 rfl) ?_
      refine lv_if_ge (tgt := 83) C.x C.b dX9_more_74 (by decide) (fun c23 => ?_) (fun c23 => ?_)
      · have h := (if_pos c23).symm.trans h
        refine lv_iload C.x C.b dX9_more_83 (lv_at hl 0 rfl) ?_
        refine lv_iload_n C.x C.b dX9_more_85 rfl (lv_at hl 1 rfl) ?_
        refine lv_isub C.x C.b dX9_more_86 ?_
        refine lv_i2l (v := Int32.toInt64 (r14 - r5)) C.x C.b dX9_more_87 rfl ?_
        exact r_l h C hP hS dX9_more_88
      · have h := (if_neg c23).symm.trans h
        refine lv_ldc2 (own := RX9) (v := (-9223372036854775808)) C.x C.b C.o (C.t _ u6_17) dX9_more_77 ?_
        refine lv_goto (tgt := 88) C.x C.b dX9_more_80 (by decide) ?_
        exact r_l h C hP hS dX9_more_88
  · have h := (if_pos c3).symm.trans h
    refine lv_ldc2 (own := RX9) (v := (-9223372036854775808)) C.x C.b C.o (C.t _ u6_17) dX9_more_9 ?_
    exact r_l h C hP hS dX9_more_12

set_option maxRecDepth 100000 in
set_option maxHeartbeats 4000000 in
theorem c_X9_more {l : Launch} {G : Gp} (hI : Wi G) {x1 : Int32} {x2 : Int32} {μ : Mem} {r : Int64} {μ' : Mem} (h : f_X9_more x1 x2 μ = some (r, μ')) : CL l yX9_more cX9_more 5 (some .long) 7 161 G [.ref (G.2.2 122), .int x1, .int x2] μ r μ' :=
  e_all (lv := [(0, .ref (G.2.2 122)), (1, .int x1), (2, .int x2)]) hI (by decide) (Nat.le_of_ble_eq_true rfl) rfl (fun p e s m args below meth c ls C hP hS hl => b_X9_more C h _ _ _ hP hS hl)


def g_X9_rises_47 (x1 : Int32) (q39 : Int32 → Mem → Option (Int32 × Mem)) (q47 : Int32 → Int32 → Mem → Option (Int32 × Mem)) (x2 : Int32) (x3 : Int32) (μ : Mem) : Option (Int32 × Mem) := if 36 ≤ x3 then (q39 x2 μ) else (lt (x3 / 6) (fun y2 => lt (6 + (rm32 x3 6)) (fun y3 => grd (inb x3 36) (if (μ.1 129 x3.toNatClampNeg) = 1 then (if x3 = x1 then (lt (x3 + 1) (fun y8 => q47 x2 y8 μ)) else (grd (inb y2 12) (grd (inb y3 12) (if (μ.1 143 y2.toNatClampNeg) = (μ.1 143 y3.toNatClampNeg) then (lt (x3 + 1) (fun y12 => q47 x2 y12 μ)) else (grd (inb y2 12) (lt (st μ 143 y2.toNatClampNeg 1) (fun μ14 => grd (inb y3 12) (lt (st μ14 143 y3.toNatClampNeg 1) (fun μ16 => lt (x3 + 1) (fun y17 => q47 1 y17 μ16)))))))))) else (lt (x3 + 1) (fun y6 => q47 x2 y6 μ))))))
def f_X9_rises_47 (x1 : Int32) (q39 : Int32 → Mem → Option (Int32 × Mem)) : Nat → Int32 → Int32 → Mem → Option (Int32 × Mem)
  | 0, _, _, _ => none
  | n + 1, x2, x3, μ => g_X9_rises_47 x1 q39 (f_X9_rises_47 x1 q39 n) x2 x3 μ
set_option maxRecDepth 100000 in
set_option maxHeartbeats 4000000 in
theorem w_X9_rises_47 {p : Program} {l : Launch} {e : Env} {s : State} {m : MethodId} {args : Array Value} {below : List Frame} {meth : Method} {c : Code} {G : Gp} {O : (Int32 × Mem)} (C : Cx p s m args meth c cX9_rises 6 RX9 (some .int) G) {x1 : Int32} {q39 : Int32 → Mem → Option (Int32 × Mem)} (hq39 : ∀ (x2 : Int32) (μ : Mem), q39 x2 μ = some O → ∀ (H : Heap) (locs : List Loc) (ls : Array Slot), Wm G μ H → va_S (wA G) s.heap H locs → lv_has ls 6 [(0, .ref (G.2.2 122)), (1, .int x1), (2, .int x2)] → W p l e (rmm 1 25) s m args below meth c H locs 0 0 (QI below args s G O) (F0 m 39 ls [])) {q47 : Int32 → Int32 → Mem → Option (Int32 × Mem)} (hq47 : ∀ (x2 : Int32) (x3 : Int32) (μ : Mem), q47 x2 x3 μ = some O → ∀ (H : Heap) (locs : List Loc) (ls : Array Slot), Wm G μ H → va_S (wA G) s.heap H locs → lv_has ls 6 [(0, .ref (G.2.2 122)), (1, .int x1), (2, .int x2), (3, .int x3)] → W p l e (rmm 1 25) s m args below meth c H locs 0 0 (QI below args s G O) (F0 m 47 ls [])) : ∀ (x2 : Int32) (x3 : Int32) (μ : Mem), g_X9_rises_47 x1 q39 q47 x2 x3 μ = some O → ∀ (H : Heap) (locs : List Loc) (ls : Array Slot), Wm G μ H → va_S (wA G) s.heap H locs → lv_has ls 6 [(0, .ref (G.2.2 122)), (1, .int x1), (2, .int x2), (3, .int x3)] → W p l e (rmm 1 25) s m args below meth c H locs 0 0 (QI below args s G O) (F0 m 47 ls []) := by
  intro x2 x3 μ h H locs ls hP hS hl
  unfold g_X9_rises_47 at h
  refine lv_iload_n C.x C.b dX9_rises_47 rfl (lv_at hl 3 rfl) ?_
  refine lv_bipush (v := 36) C.x C.b dX9_rises_48 (by decide) ?_
  refine lv_icmp_ge (tgt := 124) C.x C.b dX9_rises_50 (by decide) (fun c1 => ?_) (fun c1 => ?_)
  · have h := (if_pos c1).symm.trans h
    refine lv_goto (tgt := 39) C.x C.b dX9_rises_124 (by decide) ?_
    exact hq39 x2 μ h _ _ _ hP hS (lv_sub hl [0, 1, 2] rfl)
  · have h := (if_neg c1).symm.trans h
    refine lv_iload_n C.x C.b dX9_rises_53 rfl (lv_at hl 3 rfl) ?_
    refine lv_bipush (v := 6) C.x C.b dX9_rises_54 (by decide) ?_
    refine lv_idiv C.x C.b dX9_rises_56 (by decide) ?_
    refine lv_topi (fun y2 e_y2 => ?_)
    have h := lt_at h e_y2
    refine lv_istore (lv' := [(4, .int y2), (0, .ref (G.2.2 122)), (1, .int x1), (2, .int x2), (3, .int x3)]) C.x C.b dX9_rises_57 hl (by decide) rfl (fun ls hl => ?_)
    refine lv_bipush (v := 6) C.x C.b dX9_rises_59 (by decide) ?_
    refine lv_iload_n C.x C.b dX9_rises_61 rfl (lv_at hl 4 rfl) ?_
    refine lv_bipush (v := 6) C.x C.b dX9_rises_62 (by decide) ?_
    refine lv_irem C.x C.b dX9_rises_64 (by decide) ?_
    refine lv_iadd C.x C.b dX9_rises_65 ?_
    refine lv_topi (fun y3 e_y3 => ?_)
    have h := lt_at h e_y3
    refine lv_istore (lv' := [(5, .int y3), (4, .int y2), (0, .ref (G.2.2 122)), (1, .int x1), (2, .int x2), (3, .int x3)]) C.x C.b dX9_rises_66 hl (by decide) rfl (fun ls hl => ?_)
    refine lv_aload_n C.x C.b dX9_rises_68 rfl (lv_at hl 2 rfl) ?_
    refine g_ref (k' := 129) F_9_12 u4_141 C hP sh_122 rfl dX9_rises_69 ?_
    refine lv_iload_n C.x C.b dX9_rises_72 rfl (lv_at hl 5 rfl) ?_
    obtain ⟨g4, h⟩ := grd_some h
    refine a_i C hP sh_129 g4 dX9_rises_73 ?_
    refine lv_iconst (v := 1) C.x C.b dX9_rises_74 (by decide) ?_
    refine lv_icmp_ne (tgt := 118) C.x C.b dX9_rises_75 (by decide) (fun c5 => ?_) (fun c5 => ?_)
    · have h := (if_neg c5).symm.trans h
      obtain ⟨y6, e_y6, h⟩ := lt_ex h
      refine lv_iinc (v := y6) (lv' := [(3, .int y6), (5, .int y3), (4, .int y2), (0, .ref (G.2.2 122)), (1, .int x1), (2, .int x2)]) C.x C.b dX9_rises_118 hl (k := 5) rfl (by rw [e_y6]; rfl) (by decide) rfl (fun ls hl => ?_)
      refine lv_goto (tgt := 47) C.x C.b dX9_rises_121 (by decide) ?_
      exact hq47 x2 y6 μ h _ _ _ hP hS (lv_sub hl [3, 4, 5, 0] rfl)
    · have h := (if_pos c5).symm.trans h
      refine lv_iload_n C.x C.b dX9_rises_78 rfl (lv_at hl 5 rfl) ?_
      refine lv_iload_n C.x C.b dX9_rises_79 rfl (lv_at hl 3 rfl) ?_
      refine lv_icmp_eq (tgt := 118) C.x C.b dX9_rises_80 (by decide) (fun c7 => ?_) (fun c7 => ?_)
      · have h := (if_pos c7).symm.trans h
        obtain ⟨y8, e_y8, h⟩ := lt_ex h
        refine lv_iinc (v := y8) (lv' := [(3, .int y8), (5, .int y3), (4, .int y2), (0, .ref (G.2.2 122)), (1, .int x1), (2, .int x2)]) C.x C.b dX9_rises_118 hl (k := 5) rfl (by rw [e_y8]; rfl) (by decide) rfl (fun ls hl => ?_)
        refine lv_goto (tgt := 47) C.x C.b dX9_rises_121 (by decide) ?_
        exact hq47 x2 y8 μ h _ _ _ hP hS (lv_sub hl [3, 4, 5, 0] rfl)
      · have h := (if_neg c7).symm.trans h
        refine lv_aload_n C.x C.b dX9_rises_83 rfl (lv_at hl 2 rfl) ?_
        refine g_ref (k' := 143) F_9_38 u4_167 C hP sh_122 rfl dX9_rises_84 ?_
        refine lv_iload C.x C.b dX9_rises_87 (lv_at hl 1 rfl) ?_
        obtain ⟨g9, h⟩ := grd_some h
        refine a_z C hP sh_143 g9 dX9_rises_89 ?_
        refine lv_aload_n C.x C.b dX9_rises_90 rfl (lv_at hl 2 rfl) ?_
        refine g_ref (k' := 143) F_9_38 u4_167 C hP sh_122 rfl dX9_rises_91 ?_
        refine lv_iload C.x C.b dX9_rises_94 (lv_at hl 0 rfl) ?_
        obtain ⟨g10, h⟩ := grd_some h
        refine a_z C hP sh_143 g10 dX9_rises_96 ?_
        refine lv_icmp_eq (tgt := 118) C.x C.b dX9_rises_97 (by decide) (fun c11 => ?_) (fun c11 => ?_)
        · have h := (if_pos c11).symm.trans h
          obtain ⟨y12, e_y12, h⟩ := lt_ex h
          refine lv_iinc (v := y12) (lv' := [(3, .int y12), (5, .int y3), (4, .int y2), (0, .ref (G.2.2 122)), (1, .int x1), (2, .int x2)]) C.x C.b dX9_rises_118 hl (k := 5) rfl (by rw [e_y12]; rfl) (by decide) rfl (fun ls hl => ?_)
          refine lv_goto (tgt := 47) C.x C.b dX9_rises_121 (by decide) ?_
          exact hq47 x2 y12 μ h _ _ _ hP hS (lv_sub hl [3, 4, 5, 0] rfl)
        · have h := (if_neg c11).symm.trans h
          refine lv_aload_n C.x C.b dX9_rises_100 rfl (lv_at hl 2 rfl) ?_
          refine g_ref (k' := 143) F_9_38 u4_167 C hP sh_122 rfl dX9_rises_101 ?_
          refine lv_iload C.x C.b dX9_rises_104 (lv_at hl 1 rfl) ?_
          refine lv_iconst (v := 1) C.x C.b dX9_rises_106 (by decide) ?_
          obtain ⟨g13, h⟩ := grd_some h
          refine as_z C hP hS sh_143 g13 (by decide) dX9_rises_107 (fun H locs hP hS => ?_)
          obtain ⟨μ14, m_μ14, h⟩ := lt_ex h
          have hP : Wm G μ14 H := by rw [m_μ14]; exact hP
          refine lv_aload_n C.x C.b dX9_rises_108 rfl (lv_at hl 2 rfl) ?_
          refine g_ref (k' := 143) F_9_38 u4_167 C hP sh_122 rfl dX9_rises_109 ?_
          refine lv_iload C.x C.b dX9_rises_112 (lv_at hl 0 rfl) ?_
          refine lv_iconst (v := 1) C.x C.b dX9_rises_114 (by decide) ?_
          obtain ⟨g15, h⟩ := grd_some h
          refine as_z C hP hS sh_143 g15 (by decide) dX9_rises_115 (fun H locs hP hS => ?_)
          obtain ⟨μ16, m_μ16, h⟩ := lt_ex h
          have hP : Wm G μ16 H := by rw [m_μ16]; exact hP
          refine lv_iconst (v := 1) C.x C.b dX9_rises_116 (by decide) ?_
          refine lv_istore_n (lv' := [(2, .int 1), (5, .int y3), (4, .int y2), (0, .ref (G.2.2 122)), (1, .int x1), (3, .int x3)]) C.x C.b dX9_rises_117 rfl hl (by decide) rfl (fun ls hl => ?_)
          obtain ⟨y17, e_y17, h⟩ := lt_ex h
          refine lv_iinc (v := y17) (lv' := [(3, .int y17), (2, .int 1), (5, .int y3), (4, .int y2), (0, .ref (G.2.2 122)), (1, .int x1)]) C.x C.b dX9_rises_118 hl (k := 5) rfl (by rw [e_y17]; rfl) (by decide) rfl (fun ls hl => ?_)
          refine lv_goto (tgt := 47) C.x C.b dX9_rises_121 (by decide) ?_
          exact hq47 1 y17 μ16 h _ _ _ hP hS (lv_sub hl [4, 5, 1, 0] rfl)

set_option maxRecDepth 100000 in
set_option maxHeartbeats 4000000 in
theorem b_X9_rises_47 {p : Program} {l : Launch} {e : Env} {s : State} {m : MethodId} {args : Array Value} {below : List Frame} {meth : Method} {c : Code} {G : Gp} {O : (Int32 × Mem)} (C : Cx p s m args meth c cX9_rises 6 RX9 (some .int) G) {x1 : Int32} {q39 : Int32 → Mem → Option (Int32 × Mem)} (hq39 : ∀ (x2 : Int32) (μ : Mem), q39 x2 μ = some O → ∀ (H : Heap) (locs : List Loc) (ls : Array Slot), Wm G μ H → va_S (wA G) s.heap H locs → lv_has ls 6 [(0, .ref (G.2.2 122)), (1, .int x1), (2, .int x2)] → W p l e (rmm 1 25) s m args below meth c H locs 0 0 (QI below args s G O) (F0 m 39 ls [])) : ∀ (n : Nat) (x2 : Int32) (x3 : Int32) (μ : Mem), f_X9_rises_47 x1 q39 n x2 x3 μ = some O → ∀ (H : Heap) (locs : List Loc) (ls : Array Slot), Wm G μ H → va_S (wA G) s.heap H locs → lv_has ls 6 [(0, .ref (G.2.2 122)), (1, .int x1), (2, .int x2), (3, .int x3)] → W p l e (rmm 1 25) s m args below meth c H locs 0 0 (QI below args s G O) (F0 m 47 ls []) := by
  intro n
  induction n with
  | zero => intro x2 x3 μ h; cases h
  | succ n ih => intro x2 x3 μ h; exact w_X9_rises_47 C hq39 (q47 := f_X9_rises_47 x1 q39 n) ih x2 x3 μ h

def g_X9_rises_133 (x1 : Int32)  (q133 : Int32 → Int32 → Mem → Option (Int32 × Mem)) (x3 : Int32) (x4 : Int32) (μ : Mem) : Option (Int32 × Mem) := if 36 ≤ x4 then (some (x3, μ)) else (bnv (f_X9_isInPlan x4 μ) (fun r3 => if r3 = 0 then (lt (x4 + 1) (fun y5 => q133 x3 y5 μ)) else (if x4 = x1 then (lt (x4 + 1) (fun y7 => q133 x3 y7 μ)) else (grd (inb (x4 / 6) 12) (if (μ.1 143 (x4 / 6).toNatClampNeg) = 0 then (lt (x4 + 1) (fun y10 => q133 x3 y10 μ)) else (grd (inb (6 + (rm32 x4 6)) 12) (if (μ.1 143 (6 + (rm32 x4 6)).toNatClampNeg) = 0 then (bnv (f_X9_over x4 μ) (fun r15 => lt (mn x3 r15) (fun y16 => lt (x4 + 1) (fun y17 => q133 y16 y17 μ)))) else (lt (x4 + 1) (fun y13 => q133 x3 y13 μ)))))))))
def f_X9_rises_133 (x1 : Int32)  : Nat → Int32 → Int32 → Mem → Option (Int32 × Mem)
  | 0, _, _, _ => none
  | n + 1, x3, x4, μ => g_X9_rises_133 x1 (f_X9_rises_133 x1 n) x3 x4 μ
set_option maxRecDepth 100000 in
set_option maxHeartbeats 4000000 in
theorem w_X9_rises_133 {p : Program} {l : Launch} {e : Env} {s : State} {m : MethodId} {args : Array Value} {below : List Frame} {meth : Method} {c : Code} {G : Gp} {O : (Int32 × Mem)} (C : Cx p s m args meth c cX9_rises 6 RX9 (some .int) G) {x1 : Int32} {q133 : Int32 → Int32 → Mem → Option (Int32 × Mem)} (hq133 : ∀ (x3 : Int32) (x4 : Int32) (μ : Mem), q133 x3 x4 μ = some O → ∀ (H : Heap) (locs : List Loc) (ls : Array Slot), Wm G μ H → va_S (wA G) s.heap H locs → lv_has ls 6 [(0, .ref (G.2.2 122)), (1, .int x1), (3, .int x3), (4, .int x4)] → W p l e (rmm 1 25) s m args below meth c H locs 0 0 (QI below args s G O) (F0 m 133 ls [])) : ∀ (x3 : Int32) (x4 : Int32) (μ : Mem), g_X9_rises_133 x1 q133 x3 x4 μ = some O → ∀ (H : Heap) (locs : List Loc) (ls : Array Slot), Wm G μ H → va_S (wA G) s.heap H locs → lv_has ls 6 [(0, .ref (G.2.2 122)), (1, .int x1), (3, .int x3), (4, .int x4)] → W p l e (rmm 1 25) s m args below meth c H locs 0 0 (QI below args s G O) (F0 m 133 ls []) := by
  intro x3 x4 μ h H locs ls hP hS hl
  unfold g_X9_rises_133 at h
  refine lv_iload C.x C.b dX9_rises_133 (lv_at hl 3 rfl) ?_
  refine lv_bipush (v := 36) C.x C.b dX9_rises_135 (by decide) ?_
  refine lv_icmp_ge (tgt := 201) C.x C.b dX9_rises_137 (by decide) (fun c1 => ?_) (fun c1 => ?_)
  · have h := (if_pos c1).symm.trans h
    refine lv_iload_n C.x C.b dX9_rises_201 rfl (lv_at hl 2 rfl) ?_
    exact r_i h C hP hS dX9_rises_202
  · have h := (if_neg c1).symm.trans h
    refine lv_aload_n C.x C.b dX9_rises_140 rfl (lv_at hl 0 rfl) ?_
    refine lv_iload C.x C.b dX9_rises_141 (lv_at hl 3 rfl) ?_
    obtain ⟨r3, e2, h⟩ := bnv_some h
    refine k_vi (k := 122) (as := [.int x4]) (rest := []) (c_X9_isInPlan C.i e2) M_X9_isInPlan u5_217 C hP hS sh_122 rfl rfl (by decide) hl.1 rfl (Nat.le_of_ble_eq_true rfl) dX9_rises_143 (fun H locs hP hS => ?_)
    refine lv_if_eq (tgt := 195) C.x C.b dX9_rises_146 (by decide) (fun c4 => ?_) (fun c4 => ?_)
    · have h := (if_pos c4).symm.trans h
      obtain ⟨y5, e_y5, h⟩ := lt_ex h
      refine lv_iinc (v := y5) (lv' := [(4, .int y5), (0, .ref (G.2.2 122)), (1, .int x1), (3, .int x3)]) C.x C.b dX9_rises_195 hl (k := 3) rfl (by rw [e_y5]; rfl) (by decide) rfl (fun ls hl => ?_)
      refine lv_goto (tgt := 133) C.x C.b dX9_rises_198 (by decide) ?_
      exact hq133 x3 y5 μ h _ _ _ hP hS (lv_sub hl [1, 2, 3, 0] rfl)
    · have h := (if_neg c4).symm.trans h
      refine lv_iload C.x C.b dX9_rises_149 (lv_at hl 3 rfl) ?_
      refine lv_iload_n C.x C.b dX9_rises_151 rfl (lv_at hl 1 rfl) ?_
      refine lv_icmp_eq (tgt := 195) C.x C.b dX9_rises_152 (by decide) (fun c6 => ?_) (fun c6 => ?_)
      · have h := (if_pos c6).symm.trans h
        obtain ⟨y7, e_y7, h⟩ := lt_ex h
        refine lv_iinc (v := y7) (lv' := [(4, .int y7), (0, .ref (G.2.2 122)), (1, .int x1), (3, .int x3)]) C.x C.b dX9_rises_195 hl (k := 3) rfl (by rw [e_y7]; rfl) (by decide) rfl (fun ls hl => ?_)
        refine lv_goto (tgt := 133) C.x C.b dX9_rises_198 (by decide) ?_
        exact hq133 x3 y7 μ h _ _ _ hP hS (lv_sub hl [1, 2, 3, 0] rfl)
      · have h := (if_neg c6).symm.trans h
        refine lv_aload_n C.x C.b dX9_rises_155 rfl (lv_at hl 0 rfl) ?_
        refine g_ref (k' := 143) F_9_38 u4_167 C hP sh_122 rfl dX9_rises_156 ?_
        refine lv_iload C.x C.b dX9_rises_159 (lv_at hl 3 rfl) ?_
        refine lv_bipush (v := 6) C.x C.b dX9_rises_161 (by decide) ?_
        refine lv_idiv C.x C.b dX9_rises_163 (by decide) ?_
        obtain ⟨g8, h⟩ := grd_some h
        refine a_z C hP sh_143 g8 dX9_rises_164 ?_
        refine lv_if_eq (tgt := 195) C.x C.b dX9_rises_165 (by decide) (fun c9 => ?_) (fun c9 => ?_)
        · have h := (if_pos c9).symm.trans h
          obtain ⟨y10, e_y10, h⟩ := lt_ex h
          refine lv_iinc (v := y10) (lv' := [(4, .int y10), (0, .ref (G.2.2 122)), (1, .int x1), (3, .int x3)]) C.x C.b dX9_rises_195 hl (k := 3) rfl (by rw [e_y10]; rfl) (by decide) rfl (fun ls hl => ?_)
          refine lv_goto (tgt := 133) C.x C.b dX9_rises_198 (by decide) ?_
          exact hq133 x3 y10 μ h _ _ _ hP hS (lv_sub hl [1, 2, 3, 0] rfl)
        · have h := (if_neg c9).symm.trans h
          refine lv_aload_n C.x C.b dX9_rises_168 rfl (lv_at hl 0 rfl) ?_
          refine g_ref (k' := 143) F_9_38 u4_167 C hP sh_122 rfl dX9_rises_169 ?_
          refine lv_bipush (v := 6) C.x C.b dX9_rises_172 (by decide) ?_
          refine lv_iload C.x C.b dX9_rises_174 (lv_at hl 3 rfl) ?_
          refine lv_bipush (v := 6) C.x C.b dX9_rises_176 (by decide) ?_
          refine lv_irem C.x C.b dX9_rises_178 (by decide) ?_
          refine lv_iadd C.x C.b dX9_rises_179 ?_
          obtain ⟨g11, h⟩ := grd_some h
          refine a_z C hP sh_143 g11 dX9_rises_180 ?_
          refine lv_if_ne (tgt := 195) C.x C.b dX9_rises_181 (by decide) (fun c12 => ?_) (fun c12 => ?_)
          · have h := (if_neg c12).symm.trans h
            obtain ⟨y13, e_y13, h⟩ := lt_ex h
            refine lv_iinc (v := y13) (lv' := [(4, .int y13), (0, .ref (G.2.2 122)), (1, .int x1), (3, .int x3)]) C.x C.b dX9_rises_195 hl (k := 3) rfl (by rw [e_y13]; rfl) (by decide) rfl (fun ls hl => ?_)
            refine lv_goto (tgt := 133) C.x C.b dX9_rises_198 (by decide) ?_
            exact hq133 x3 y13 μ h _ _ _ hP hS (lv_sub hl [1, 2, 3, 0] rfl)
          · have h := (if_pos c12).symm.trans h
            refine lv_iload_n C.x C.b dX9_rises_184 rfl (lv_at hl 2 rfl) ?_
            refine lv_aload_n C.x C.b dX9_rises_185 rfl (lv_at hl 0 rfl) ?_
            refine lv_iload C.x C.b dX9_rises_186 (lv_at hl 3 rfl) ?_
            obtain ⟨r15, e14, h⟩ := bnv_some h
            refine k_vi (k := 122) (as := [.int x4]) (rest := [.int x3]) (c_X9_over C.i e14) M_X9_over u5_221 C hP hS sh_122 rfl rfl (by decide) hl.1 rfl (Nat.le_of_ble_eq_true rfl) dX9_rises_188 (fun H locs hP hS => ?_)
            refine k_min u5_191 C hl.1 ⟨by decide, Nat.le_of_ble_eq_true rfl⟩ dX9_rises_191 ?_
            refine lv_topi (fun y16 e_y16 => ?_)
            have h := lt_at h e_y16
            refine lv_istore_n (lv' := [(3, .int y16), (0, .ref (G.2.2 122)), (1, .int x1), (4, .int x4)]) C.x C.b dX9_rises_194 rfl hl (by decide) rfl (fun ls hl => ?_)
            obtain ⟨y17, e_y17, h⟩ := lt_ex h
            refine lv_iinc (v := y17) (lv' := [(4, .int y17), (3, .int y16), (0, .ref (G.2.2 122)), (1, .int x1)]) C.x C.b dX9_rises_195 hl (k := 3) rfl (by rw [e_y17]; rfl) (by decide) rfl (fun ls hl => ?_)
            refine lv_goto (tgt := 133) C.x C.b dX9_rises_198 (by decide) ?_
            exact hq133 y16 y17 μ h _ _ _ hP hS (lv_sub hl [2, 3, 1, 0] rfl)

set_option maxRecDepth 100000 in
set_option maxHeartbeats 4000000 in
theorem b_X9_rises_133 {p : Program} {l : Launch} {e : Env} {s : State} {m : MethodId} {args : Array Value} {below : List Frame} {meth : Method} {c : Code} {G : Gp} {O : (Int32 × Mem)} (C : Cx p s m args meth c cX9_rises 6 RX9 (some .int) G) {x1 : Int32} : ∀ (n : Nat) (x3 : Int32) (x4 : Int32) (μ : Mem), f_X9_rises_133 x1 n x3 x4 μ = some O → ∀ (H : Heap) (locs : List Loc) (ls : Array Slot), Wm G μ H → va_S (wA G) s.heap H locs → lv_has ls 6 [(0, .ref (G.2.2 122)), (1, .int x1), (3, .int x3), (4, .int x4)] → W p l e (rmm 1 25) s m args below meth c H locs 0 0 (QI below args s G O) (F0 m 133 ls []) := by
  intro n
  induction n with
  | zero => intro x3 x4 μ h; cases h
  | succ n ih => intro x3 x4 μ h; exact w_X9_rises_133 C (q133 := f_X9_rises_133 x1 n) ih x3 x4 μ h

def g_X9_rises_39 (x1 : Int32)  (q39 : Int32 → Mem → Option (Int32 × Mem)) (x2 : Int32) (μ : Mem) : Option (Int32 × Mem) := if x2 = 0 then (f_X9_rises_133 x1 FU 99 0 μ) else (f_X9_rises_47 x1 q39 FU 0 0 μ)
def f_X9_rises_39 (x1 : Int32)  : Nat → Int32 → Mem → Option (Int32 × Mem)
  | 0, _, _ => none
  | n + 1, x2, μ => g_X9_rises_39 x1 (f_X9_rises_39 x1 n) x2 μ
set_option maxRecDepth 100000 in
set_option maxHeartbeats 4000000 in
theorem w_X9_rises_39 {p : Program} {l : Launch} {e : Env} {s : State} {m : MethodId} {args : Array Value} {below : List Frame} {meth : Method} {c : Code} {G : Gp} {O : (Int32 × Mem)} (C : Cx p s m args meth c cX9_rises 6 RX9 (some .int) G) {x1 : Int32} {q39 : Int32 → Mem → Option (Int32 × Mem)} (hq39 : ∀ (x2 : Int32) (μ : Mem), q39 x2 μ = some O → ∀ (H : Heap) (locs : List Loc) (ls : Array Slot), Wm G μ H → va_S (wA G) s.heap H locs → lv_has ls 6 [(0, .ref (G.2.2 122)), (1, .int x1), (2, .int x2)] → W p l e (rmm 1 25) s m args below meth c H locs 0 0 (QI below args s G O) (F0 m 39 ls [])) : ∀ (x2 : Int32) (μ : Mem), g_X9_rises_39 x1 q39 x2 μ = some O → ∀ (H : Heap) (locs : List Loc) (ls : Array Slot), Wm G μ H → va_S (wA G) s.heap H locs → lv_has ls 6 [(0, .ref (G.2.2 122)), (1, .int x1), (2, .int x2)] → W p l e (rmm 1 25) s m args below meth c H locs 0 0 (QI below args s G O) (F0 m 39 ls []) := by
  intro x2 μ h H locs ls hP hS hl
  unfold g_X9_rises_39 at h
  refine lv_iload_n C.x C.b dX9_rises_39 rfl (lv_at hl 2 rfl) ?_
  refine lv_if_eq (tgt := 127) C.x C.b dX9_rises_40 (by decide) (fun c1 => ?_) (fun c1 => ?_)
  · have h := (if_pos c1).symm.trans h
    refine lv_bipush (v := 99) C.x C.b dX9_rises_127 (by decide) ?_
    refine lv_istore_n (lv' := [(3, .int 99), (0, .ref (G.2.2 122)), (1, .int x1), (2, .int x2)]) C.x C.b dX9_rises_129 rfl hl (by decide) rfl (fun ls hl => ?_)
    refine lv_iconst (v := 0) C.x C.b dX9_rises_130 (by decide) ?_
    refine lv_istore (lv' := [(4, .int 0), (3, .int 99), (0, .ref (G.2.2 122)), (1, .int x1), (2, .int x2)]) C.x C.b dX9_rises_131 hl (by decide) rfl (fun ls hl => ?_)
    exact b_X9_rises_133 C FU 99 0 μ h _ _ _ hP hS (lv_sub hl [2, 3, 1, 0] rfl)
  · have h := (if_neg c1).symm.trans h
    refine lv_iconst (v := 0) C.x C.b dX9_rises_43 (by decide) ?_
    refine lv_istore_n (lv' := [(2, .int 0), (0, .ref (G.2.2 122)), (1, .int x1)]) C.x C.b dX9_rises_44 rfl hl (by decide) rfl (fun ls hl => ?_)
    refine lv_iconst (v := 0) C.x C.b dX9_rises_45 (by decide) ?_
    refine lv_istore_n (lv' := [(3, .int 0), (2, .int 0), (0, .ref (G.2.2 122)), (1, .int x1)]) C.x C.b dX9_rises_46 rfl hl (by decide) rfl (fun ls hl => ?_)
    exact b_X9_rises_47 C hq39 FU 0 0 μ h _ _ _ hP hS (lv_sub hl [2, 3, 1, 0] rfl)

set_option maxRecDepth 100000 in
set_option maxHeartbeats 4000000 in
theorem b_X9_rises_39 {p : Program} {l : Launch} {e : Env} {s : State} {m : MethodId} {args : Array Value} {below : List Frame} {meth : Method} {c : Code} {G : Gp} {O : (Int32 × Mem)} (C : Cx p s m args meth c cX9_rises 6 RX9 (some .int) G) {x1 : Int32} : ∀ (n : Nat) (x2 : Int32) (μ : Mem), f_X9_rises_39 x1 n x2 μ = some O → ∀ (H : Heap) (locs : List Loc) (ls : Array Slot), Wm G μ H → va_S (wA G) s.heap H locs → lv_has ls 6 [(0, .ref (G.2.2 122)), (1, .int x1), (2, .int x2)] → W p l e (rmm 1 25) s m args below meth c H locs 0 0 (QI below args s G O) (F0 m 39 ls []) := by
  intro n
  induction n with
  | zero => intro x2 μ h; cases h
  | succ n ih => intro x2 μ h; exact w_X9_rises_39 C (q39 := f_X9_rises_39 x1 n) ih x2 μ h

def g_X9_rises_6 (x1 : Int32)  (q6 : Int32 → Mem → Option (Int32 × Mem)) (x2 : Int32) (μ : Mem) : Option (Int32 × Mem) := if 12 ≤ x2 then (f_X9_rises_39 x1 FU 1 μ) else (if x2 = (x1 / 6) then (grd (inb x2 12) (lt (st μ 143 x2.toNatClampNeg 1) (fun μ7 => lt (x2 + 1) (fun y8 => q6 y8 μ7)))) else (grd (inb x2 12) (lt (st μ 143 x2.toNatClampNeg 0) (fun μ4 => lt (x2 + 1) (fun y5 => q6 y5 μ4)))))
def f_X9_rises_6 (x1 : Int32)  : Nat → Int32 → Mem → Option (Int32 × Mem)
  | 0, _, _ => none
  | n + 1, x2, μ => g_X9_rises_6 x1 (f_X9_rises_6 x1 n) x2 μ
set_option maxRecDepth 100000 in
set_option maxHeartbeats 4000000 in
theorem w_X9_rises_6 {p : Program} {l : Launch} {e : Env} {s : State} {m : MethodId} {args : Array Value} {below : List Frame} {meth : Method} {c : Code} {G : Gp} {O : (Int32 × Mem)} (C : Cx p s m args meth c cX9_rises 6 RX9 (some .int) G) {x1 : Int32} {q6 : Int32 → Mem → Option (Int32 × Mem)} (hq6 : ∀ (x2 : Int32) (μ : Mem), q6 x2 μ = some O → ∀ (H : Heap) (locs : List Loc) (ls : Array Slot), Wm G μ H → va_S (wA G) s.heap H locs → lv_has ls 6 [(0, .ref (G.2.2 122)), (1, .int x1), (2, .int x2)] → W p l e (rmm 1 25) s m args below meth c H locs 0 0 (QI below args s G O) (F0 m 6 ls [])) : ∀ (x2 : Int32) (μ : Mem), g_X9_rises_6 x1 q6 x2 μ = some O → ∀ (H : Heap) (locs : List Loc) (ls : Array Slot), Wm G μ H → va_S (wA G) s.heap H locs → lv_has ls 6 [(0, .ref (G.2.2 122)), (1, .int x1), (2, .int x2)] → W p l e (rmm 1 25) s m args below meth c H locs 0 0 (QI below args s G O) (F0 m 6 ls []) := by
  intro x2 μ h H locs ls hP hS hl
  unfold g_X9_rises_6 at h
  refine lv_iload_n C.x C.b dX9_rises_6 rfl (lv_at hl 2 rfl) ?_
  refine lv_bipush (v := 12) C.x C.b dX9_rises_7 (by decide) ?_
  refine lv_icmp_ge (tgt := 37) C.x C.b dX9_rises_9 (by decide) (fun c1 => ?_) (fun c1 => ?_)
  · have h := (if_pos c1).symm.trans h
    refine lv_iconst (v := 1) C.x C.b dX9_rises_37 (by decide) ?_
    refine lv_istore_n (lv' := [(2, .int 1), (0, .ref (G.2.2 122)), (1, .int x1)]) C.x C.b dX9_rises_38 rfl hl (by decide) rfl (fun ls hl => ?_)
    exact b_X9_rises_39 C FU 1 μ h _ _ _ hP hS (lv_sub hl [1, 2, 0] rfl)
  · have h := (if_neg c1).symm.trans h
    refine lv_aload_n C.x C.b dX9_rises_12 rfl (lv_at hl 0 rfl) ?_
    refine g_ref (k' := 143) F_9_38 u4_167 C hP sh_122 rfl dX9_rises_13 ?_
    refine lv_iload_n C.x C.b dX9_rises_16 rfl (lv_at hl 2 rfl) ?_
    refine lv_iload_n C.x C.b dX9_rises_17 rfl (lv_at hl 2 rfl) ?_
    refine lv_iload_n C.x C.b dX9_rises_18 rfl (lv_at hl 1 rfl) ?_
    refine lv_bipush (v := 6) C.x C.b dX9_rises_19 (by decide) ?_
    refine lv_idiv C.x C.b dX9_rises_21 (by decide) ?_
    refine lv_icmp_ne (tgt := 29) C.x C.b dX9_rises_22 (by decide) (fun c2 => ?_) (fun c2 => ?_)
    · have h := (if_neg c2).symm.trans h
      refine lv_iconst (v := 0) C.x C.b dX9_rises_29 (by decide) ?_
      obtain ⟨g3, h⟩ := grd_some h
      refine as_z C hP hS sh_143 g3 (by decide) dX9_rises_30 (fun H locs hP hS => ?_)
      obtain ⟨μ4, m_μ4, h⟩ := lt_ex h
      have hP : Wm G μ4 H := by rw [m_μ4]; exact hP
      obtain ⟨y5, e_y5, h⟩ := lt_ex h
      refine lv_iinc (v := y5) (lv' := [(2, .int y5), (0, .ref (G.2.2 122)), (1, .int x1)]) C.x C.b dX9_rises_31 hl (k := 2) rfl (by rw [e_y5]; rfl) (by decide) rfl (fun ls hl => ?_)
      refine lv_goto (tgt := 6) C.x C.b dX9_rises_34 (by decide) ?_
      exact hq6 y5 μ4 h _ _ _ hP hS (lv_sub hl [1, 2, 0] rfl)
    · have h := (if_pos c2).symm.trans h
      refine lv_iconst (v := 1) C.x C.b dX9_rises_25 (by decide) ?_
      refine lv_goto (tgt := 30) C.x C.b dX9_rises_26 (by decide) ?_
      obtain ⟨g6, h⟩ := grd_some h
      refine as_z C hP hS sh_143 g6 (by decide) dX9_rises_30 (fun H locs hP hS => ?_)
      obtain ⟨μ7, m_μ7, h⟩ := lt_ex h
      have hP : Wm G μ7 H := by rw [m_μ7]; exact hP
      obtain ⟨y8, e_y8, h⟩ := lt_ex h
      refine lv_iinc (v := y8) (lv' := [(2, .int y8), (0, .ref (G.2.2 122)), (1, .int x1)]) C.x C.b dX9_rises_31 hl (k := 2) rfl (by rw [e_y8]; rfl) (by decide) rfl (fun ls hl => ?_)
      refine lv_goto (tgt := 6) C.x C.b dX9_rises_34 (by decide) ?_
      exact hq6 y8 μ7 h _ _ _ hP hS (lv_sub hl [1, 2, 0] rfl)

set_option maxRecDepth 100000 in
set_option maxHeartbeats 4000000 in
theorem b_X9_rises_6 {p : Program} {l : Launch} {e : Env} {s : State} {m : MethodId} {args : Array Value} {below : List Frame} {meth : Method} {c : Code} {G : Gp} {O : (Int32 × Mem)} (C : Cx p s m args meth c cX9_rises 6 RX9 (some .int) G) {x1 : Int32} : ∀ (n : Nat) (x2 : Int32) (μ : Mem), f_X9_rises_6 x1 n x2 μ = some O → ∀ (H : Heap) (locs : List Loc) (ls : Array Slot), Wm G μ H → va_S (wA G) s.heap H locs → lv_has ls 6 [(0, .ref (G.2.2 122)), (1, .int x1), (2, .int x2)] → W p l e (rmm 1 25) s m args below meth c H locs 0 0 (QI below args s G O) (F0 m 6 ls []) := by
  intro n
  induction n with
  | zero => intro x2 μ h; cases h
  | succ n ih => intro x2 μ h; exact w_X9_rises_6 C (q6 := f_X9_rises_6 x1 n) ih x2 μ h

def f_X9_rises (x1 : Int32) (μ : Mem) : Option (Int32 × Mem) := bnv (f_X9_values μ) (fun μ2 => f_X9_rises_6 x1 FU 0 μ2)
set_option maxRecDepth 100000 in
set_option maxHeartbeats 4000000 in
theorem b_X9_rises {p : Program} {l : Launch} {e : Env} {s : State} {m : MethodId} {args : Array Value} {below : List Frame} {meth : Method} {c : Code} {G : Gp} {O : (Int32 × Mem)} (C : Cx p s m args meth c cX9_rises 6 RX9 (some .int) G) {x1 : Int32} {μ : Mem} (h : f_X9_rises x1 μ = some O) : ∀ (H : Heap) (locs : List Loc) (ls : Array Slot), Wm G μ H → va_S (wA G) s.heap H locs → lv_has ls 6 [(0, .ref (G.2.2 122)), (1, .int x1)] → W p l e (rmm 1 25) s m args below meth c H locs 0 0 (QI below args s G O) (F0 m 0 ls []) := by
  unfold f_X9_rises at h
  intro H locs ls hP hS hl
  refine lv_aload_n C.x C.b dX9_rises_0 rfl (lv_at hl 0 rfl) ?_
  obtain ⟨μ2, e1, h⟩ := bnv_some h
  refine k_vv (k := 122) (as := []) (rest := []) (c_X9_values C.i e1) M_X9_values u5_213 C hP hS sh_122 rfl rfl (by decide) hl.1 rfl (Nat.le_of_ble_eq_true rfl) dX9_rises_1 (fun H locs hP hS => ?_)
  refine lv_iconst (v := 0) C.x C.b dX9_rises_4 (by decide) ?_
  refine lv_istore_n (lv' := [(2, .int 0), (0, .ref (G.2.2 122)), (1, .int x1)]) C.x C.b dX9_rises_5 rfl hl (by decide) rfl (fun ls hl => ?_)
  exact b_X9_rises_6 C FU 0 μ2 h _ _ _ hP hS (lv_sub hl [1, 2, 0] rfl)

set_option maxRecDepth 100000 in
set_option maxHeartbeats 4000000 in
theorem c_X9_rises {l : Launch} {G : Gp} (hI : Wi G) {x1 : Int32} {μ : Mem} {r : Int32} {μ' : Mem} (h : f_X9_rises x1 μ = some (r, μ')) : CI l yX9_rises cX9_rises 6 (some .int) 1 25 G [.ref (G.2.2 122), .int x1] μ r μ' :=
  e_all (lv := [(0, .ref (G.2.2 122)), (1, .int x1)]) hI (by decide) (Nat.le_of_ble_eq_true rfl) rfl (fun p e s m args below meth c ls C hP hS hl => b_X9_rises C h _ _ _ hP hS hl)

