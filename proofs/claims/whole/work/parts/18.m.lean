def f_X9_rise (x1 : Int32) (x2 : Int32) (μ : Mem) : Option (Int32 × Mem) := bnv (f_X9_isRoad x1 x2 μ) (fun r2 => if r2 = 0 then (some ((-1), μ)) else (if (μ.1 122 6) = 0 then (some ((-3), μ)) else (bnd (f_X9_isProved μ) (fun r6 μ7 => if r6 = 0 then (some ((-3), μ7)) else (grd (inb ((6 * x1) + x2) 36) (if (μ7.1 129 ((6 * x1) + x2).toNatClampNeg) = 0 then (some ((-3), μ7)) else (bnd (f_X9_rises ((6 * x1) + x2) μ7) (fun r12 μ13 => some (r12, μ13)))))))))
set_option maxRecDepth 100000 in
set_option maxHeartbeats 4000000 in
theorem b_X9_rise {p : Program} {l : Launch} {e : Env} {s : State} {m : MethodId} {args : Array Value} {below : List Frame} {meth : Method} {c : Code} {G : Gp} {O : (Int32 × Mem)} (C : Cx p s m args meth c cX9_rise 3 RX9 (some .int) G) {x1 : Int32} {x2 : Int32} {μ : Mem} (h : f_X9_rise x1 x2 μ = some O) : ∀ (H : Heap) (locs : List Loc) (ls : Array Slot), Wm G μ H → va_S (wA G) s.heap H locs → lv_has ls 3 [(0, .ref (G.2.2 122)), (1, .int x1), (2, .int x2)] → W p l e (rmm 3 69) s m args below meth c H locs 0 0 (QI below args s G O) (F0 m 0 ls []) := by
  unfold f_X9_rise at h
  intro H locs ls hP hS hl
  refine lv_aload_n C.x C.b dX9_rise_0 rfl (lv_at hl 0 rfl) ?_
  refine lv_iload_n C.x C.b dX9_rise_1 rfl (lv_at hl 1 rfl) ?_
  refine lv_iload_n C.x C.b dX9_rise_2 rfl (lv_at hl 2 rfl) ?_
  obtain ⟨r2, e1, h⟩ := bnv_some h
  refine k_vi (k := 122) (as := [.int x1, .int x2]) (rest := []) (c_X9_isRoad C.i e1) M_X9_isRoad u5_101 C hP hS sh_122 rfl rfl (by decide) hl.1 rfl (Nat.le_of_ble_eq_true rfl) dX9_rise_3 (fun H locs hP hS => ?_)
  refine lv_if_ne (tgt := 11) C.x C.b dX9_rise_6 (by decide) (fun c3 => ?_) (fun c3 => ?_)
  · have h := (if_neg c3).symm.trans h
    refine lv_aload_n C.x C.b dX9_rise_11 rfl (lv_at hl 0 rfl) ?_
    refine g_int F_9_6 u4_135 C hP sh_122 dX9_rise_12 ?_
    refine lv_if_eq (tgt := 39) C.x C.b dX9_rise_15 (by decide) (fun c4 => ?_) (fun c4 => ?_)
    · have h := (if_pos c4).symm.trans h
      refine lv_bipush (v := (-3)) C.x C.b dX9_rise_39 (by decide) ?_
      exact r_i h C hP hS dX9_rise_41
    · have h := (if_neg c4).symm.trans h
      refine lv_aload_n C.x C.b dX9_rise_18 rfl (lv_at hl 0 rfl) ?_
      obtain ⟨r6, μ7, e5, h⟩ := bnd_some h
      refine k_vi (k := 122) (as := []) (rest := []) (c_X9_isProved C.i e5) M_X9_isProved u6_34 C hP hS sh_122 rfl rfl (by decide) hl.1 rfl (Nat.le_of_ble_eq_true rfl) dX9_rise_19 (fun H locs hP hS => ?_)
      refine lv_if_eq (tgt := 39) C.x C.b dX9_rise_22 (by decide) (fun c8 => ?_) (fun c8 => ?_)
      · have h := (if_pos c8).symm.trans h
        refine lv_bipush (v := (-3)) C.x C.b dX9_rise_39 (by decide) ?_
        exact r_i h C hP hS dX9_rise_41
      · have h := (if_neg c8).symm.trans h
        refine lv_aload_n C.x C.b dX9_rise_25 rfl (lv_at hl 0 rfl) ?_
        refine g_ref (k' := 129) F_9_12 u4_141 C hP sh_122 rfl dX9_rise_26 ?_
        refine lv_bipush (v := 6) C.x C.b dX9_rise_29 (by decide) ?_
        refine lv_iload_n C.x C.b dX9_rise_31 rfl (lv_at hl 1 rfl) ?_
        refine lv_imul C.x C.b dX9_rise_32 ?_
        refine lv_iload_n C.x C.b dX9_rise_33 rfl (lv_at hl 2 rfl) ?_
        refine lv_iadd C.x C.b dX9_rise_34 ?_
        obtain ⟨g9, h⟩ := grd_some h
        refine a_i C hP sh_129 g9 dX9_rise_35 ?_
        refine lv_if_ne (tgt := 42) C.x C.b dX9_rise_36 (by decide) (fun c10 => ?_) (fun c10 => ?_)
        · have h := (if_neg c10).symm.trans h
          refine lv_aload_n C.x C.b dX9_rise_42 rfl (lv_at hl 0 rfl) ?_
          refine lv_bipush (v := 6) C.x C.b dX9_rise_43 (by decide) ?_
          refine lv_iload_n C.x C.b dX9_rise_45 rfl (lv_at hl 1 rfl) ?_
          refine lv_imul C.x C.b dX9_rise_46 ?_
          refine lv_iload_n C.x C.b dX9_rise_47 rfl (lv_at hl 2 rfl) ?_
          refine lv_iadd C.x C.b dX9_rise_48 ?_
          obtain ⟨r12, μ13, e11, h⟩ := bnd_some h
          refine k_vi (k := 122) (as := [.int ((6 * x1) + x2)]) (rest := []) (c_X9_rises C.i e11) M_X9_rises u6_94 C hP hS sh_122 rfl rfl (by decide) hl.1 rfl (Nat.le_of_ble_eq_true rfl) dX9_rise_49 (fun H locs hP hS => ?_)
          exact r_i h C hP hS dX9_rise_52
        · have h := (if_pos c10).symm.trans h
          refine lv_bipush (v := (-3)) C.x C.b dX9_rise_39 (by decide) ?_
          exact r_i h C hP hS dX9_rise_41
  · have h := (if_pos c3).symm.trans h
    refine lv_iconst (v := (-1)) C.x C.b dX9_rise_9 (by decide) ?_
    exact r_i h C hP hS dX9_rise_10

set_option maxRecDepth 100000 in
set_option maxHeartbeats 4000000 in
theorem c_X9_rise {l : Launch} {G : Gp} (hI : Wi G) {x1 : Int32} {x2 : Int32} {μ : Mem} {r : Int32} {μ' : Mem} (h : f_X9_rise x1 x2 μ = some (r, μ')) : CI l yX9_rise cX9_rise 3 (some .int) 3 69 G [.ref (G.2.2 122), .int x1, .int x2] μ r μ' :=
  e_all (lv := [(0, .ref (G.2.2 122)), (1, .int x1), (2, .int x2)]) hI (by decide) (Nat.le_of_ble_eq_true rfl) rfl (fun p e s m args below meth c ls C hP hS hl => b_X9_rise C h _ _ _ hP hS hl)


def f_X9_missed_118 (x1 : Int32) (q21 : Int32 → Int32 → Int32 → Mem → Option (Int32 × Mem)) (q33 : Int32 → Int32 → Int32 → Int32 → Mem → Option (Int32 × Mem)) (x3 : Int32) (x4 : Int32) (x5 : Int32) (x7 : Int32) (z0 : Int32) (μ : Mem) : Option (Int32 × Mem) := lt (mx x3 x7) (fun y1 => lt (x5 + 1) (fun y2 => q33 z0 y1 x4 y2 μ))
set_option maxRecDepth 100000 in
set_option maxHeartbeats 4000000 in
theorem b_X9_missed_118 {p : Program} {l : Launch} {e : Env} {s : State} {m : MethodId} {args : Array Value} {below : List Frame} {meth : Method} {c : Code} {G : Gp} {O : (Int32 × Mem)} (C : Cx p s m args meth c cX9_missed 8 RX9 (some .int) G) {x1 : Int32} {q21 : Int32 → Int32 → Int32 → Mem → Option (Int32 × Mem)} {q33 : Int32 → Int32 → Int32 → Int32 → Mem → Option (Int32 × Mem)} (hq21 : ∀ (x2 : Int32) (x3 : Int32) (x4 : Int32) (μ : Mem), q21 x2 x3 x4 μ = some O → ∀ (H : Heap) (locs : List Loc) (ls : Array Slot), Wm G μ H → va_S (wA G) s.heap H locs → lv_has ls 8 [(0, .ref (G.2.2 122)), (1, .int x1), (2, .int x2), (3, .int x3), (4, .int x4)] → W p l e (rmm 7 161) s m args below meth c H locs 0 0 (QI below args s G O) (F0 m 21 ls [])) (hq33 : ∀ (x2 : Int32) (x3 : Int32) (x4 : Int32) (x5 : Int32) (μ : Mem), q33 x2 x3 x4 x5 μ = some O → ∀ (H : Heap) (locs : List Loc) (ls : Array Slot), Wm G μ H → va_S (wA G) s.heap H locs → lv_has ls 8 [(0, .ref (G.2.2 122)), (1, .int x1), (2, .int x2), (3, .int x3), (4, .int x4), (5, .int x5)] → W p l e (rmm 7 161) s m args below meth c H locs 0 0 (QI below args s G O) (F0 m 33 ls [])) : ∀ (x3 : Int32) (x4 : Int32) (x5 : Int32) (x7 : Int32) (z0 : Int32) (μ : Mem), f_X9_missed_118 x1 q21 q33 x3 x4 x5 x7 z0 μ = some O → ∀ (H : Heap) (locs : List Loc) (ls : Array Slot), Wm G μ H → va_S (wA G) s.heap H locs → lv_has ls 8 [(0, .ref (G.2.2 122)), (1, .int x1), (3, .int x3), (4, .int x4), (5, .int x5), (7, .int x7)] → W p l e (rmm 7 161) s m args below meth c H locs 0 0 (QI below args s G O) (F0 m 118 ls [.int z0]) := by
  intro x3 x4 x5 x7 z0 μ h H locs ls hP hS hl
  unfold f_X9_missed_118 at h
  refine lv_istore_n (lv' := [(2, .int z0), (0, .ref (G.2.2 122)), (1, .int x1), (3, .int x3), (4, .int x4), (5, .int x5), (7, .int x7)]) C.x C.b dX9_missed_118 rfl hl (by decide) rfl (fun ls hl => ?_)
  refine lv_iload_n C.x C.b dX9_missed_119 rfl (lv_at hl 3 rfl) ?_
  refine lv_iload C.x C.b dX9_missed_120 (lv_at hl 6 rfl) ?_
  refine k_max u6_102 C hl.1 ⟨by decide, Nat.le_of_ble_eq_true rfl⟩ dX9_missed_122 ?_
  refine lv_topi (fun y1 e_y1 => ?_)
  have h := lt_at h e_y1
  refine lv_istore_n (lv' := [(3, .int y1), (2, .int z0), (0, .ref (G.2.2 122)), (1, .int x1), (4, .int x4), (5, .int x5), (7, .int x7)]) C.x C.b dX9_missed_125 rfl hl (by decide) rfl (fun ls hl => ?_)
  obtain ⟨y2, e_y2, h⟩ := lt_ex h
  refine lv_iinc (v := y2) (lv' := [(5, .int y2), (3, .int y1), (2, .int z0), (0, .ref (G.2.2 122)), (1, .int x1), (4, .int x4), (7, .int x7)]) C.x C.b dX9_missed_126 hl (k := 5) rfl (by rw [e_y2]; rfl) (by decide) rfl (fun ls hl => ?_)
  refine lv_goto (tgt := 33) C.x C.b dX9_missed_129 (by decide) ?_
  exact hq33 z0 y1 x4 y2 μ h _ _ _ hP hS (lv_sub hl [3, 4, 2, 1, 5, 0] rfl)

def f_X9_missed_84 (x1 : Int32) (q21 : Int32 → Int32 → Int32 → Mem → Option (Int32 × Mem)) (q33 : Int32 → Int32 → Int32 → Int32 → Mem → Option (Int32 × Mem)) (x2 : Int32) (x3 : Int32) (x4 : Int32) (x5 : Int32) (x6 : Int32) (z0 : Int32) (μ : Mem) : Option (Int32 × Mem) := grd (inb ((5 * x4) + x5) 25) (lt (st μ 125 ((5 * x4) + x5).toNatClampNeg x6) (fun μ2 => if z0 ≤ x3 then (f_X9_missed_118 x1 q21 q33 x3 x4 x5 z0 x2 μ2) else (f_X9_missed_118 x1 q21 q33 x3 x4 x5 z0 ((10 * x4) + x5) μ2)))
set_option maxRecDepth 100000 in
set_option maxHeartbeats 4000000 in
theorem b_X9_missed_84 {p : Program} {l : Launch} {e : Env} {s : State} {m : MethodId} {args : Array Value} {below : List Frame} {meth : Method} {c : Code} {G : Gp} {O : (Int32 × Mem)} (C : Cx p s m args meth c cX9_missed 8 RX9 (some .int) G) {x1 : Int32} {q21 : Int32 → Int32 → Int32 → Mem → Option (Int32 × Mem)} {q33 : Int32 → Int32 → Int32 → Int32 → Mem → Option (Int32 × Mem)} (hq21 : ∀ (x2 : Int32) (x3 : Int32) (x4 : Int32) (μ : Mem), q21 x2 x3 x4 μ = some O → ∀ (H : Heap) (locs : List Loc) (ls : Array Slot), Wm G μ H → va_S (wA G) s.heap H locs → lv_has ls 8 [(0, .ref (G.2.2 122)), (1, .int x1), (2, .int x2), (3, .int x3), (4, .int x4)] → W p l e (rmm 7 161) s m args below meth c H locs 0 0 (QI below args s G O) (F0 m 21 ls [])) (hq33 : ∀ (x2 : Int32) (x3 : Int32) (x4 : Int32) (x5 : Int32) (μ : Mem), q33 x2 x3 x4 x5 μ = some O → ∀ (H : Heap) (locs : List Loc) (ls : Array Slot), Wm G μ H → va_S (wA G) s.heap H locs → lv_has ls 8 [(0, .ref (G.2.2 122)), (1, .int x1), (2, .int x2), (3, .int x3), (4, .int x4), (5, .int x5)] → W p l e (rmm 7 161) s m args below meth c H locs 0 0 (QI below args s G O) (F0 m 33 ls [])) : ∀ (x2 : Int32) (x3 : Int32) (x4 : Int32) (x5 : Int32) (x6 : Int32) (z0 : Int32) (μ : Mem), f_X9_missed_84 x1 q21 q33 x2 x3 x4 x5 x6 z0 μ = some O → ∀ (H : Heap) (locs : List Loc) (ls : Array Slot), Wm G μ H → va_S (wA G) s.heap H locs → lv_has ls 8 [(0, .ref (G.2.2 122)), (1, .int x1), (2, .int x2), (3, .int x3), (4, .int x4), (5, .int x5), (6, .int x6)] → W p l e (rmm 7 161) s m args below meth c H locs 0 0 (QI below args s G O) (F0 m 84 ls [.int z0]) := by
  intro x2 x3 x4 x5 x6 z0 μ h H locs ls hP hS hl
  unfold f_X9_missed_84 at h
  refine lv_istore (lv' := [(7, .int z0), (0, .ref (G.2.2 122)), (1, .int x1), (2, .int x2), (3, .int x3), (4, .int x4), (5, .int x5), (6, .int x6)]) C.x C.b dX9_missed_84 hl (by decide) rfl (fun ls hl => ?_)
  refine lv_aload_n C.x C.b dX9_missed_86 rfl (lv_at hl 1 rfl) ?_
  refine g_ref (k' := 125) F_9_4 u4_133 C hP sh_122 rfl dX9_missed_87 ?_
  refine lv_iconst (v := 5) C.x C.b dX9_missed_90 (by decide) ?_
  refine lv_iload C.x C.b dX9_missed_91 (lv_at hl 5 rfl) ?_
  refine lv_imul C.x C.b dX9_missed_93 ?_
  refine lv_iload C.x C.b dX9_missed_94 (lv_at hl 6 rfl) ?_
  refine lv_iadd C.x C.b dX9_missed_96 ?_
  refine lv_iload C.x C.b dX9_missed_97 (lv_at hl 7 rfl) ?_
  obtain ⟨g1, h⟩ := grd_some h
  refine as_i C hP hS sh_125 g1 dX9_missed_99 (fun H locs hP hS => ?_)
  obtain ⟨μ2, m_μ2, h⟩ := lt_ex h
  have hP : Wm G μ2 H := by rw [m_μ2]; exact hP
  refine lv_iload C.x C.b dX9_missed_100 (lv_at hl 0 rfl) ?_
  refine lv_iload_n C.x C.b dX9_missed_102 rfl (lv_at hl 4 rfl) ?_
  refine lv_icmp_le (tgt := 117) C.x C.b dX9_missed_103 (by decide) (fun c3 => ?_) (fun c3 => ?_)
  · have h := (if_pos c3).symm.trans h
    refine lv_iload_n C.x C.b dX9_missed_117 rfl (lv_at hl 3 rfl) ?_
    exact b_X9_missed_118 C hq21 hq33 x3 x4 x5 z0 x2 μ2 h _ _ _ hP hS (lv_sub hl [1, 2, 4, 5, 6, 0] rfl)
  · have h := (if_neg c3).symm.trans h
    refine lv_bipush (v := 10) C.x C.b dX9_missed_106 (by decide) ?_
    refine lv_iload C.x C.b dX9_missed_108 (lv_at hl 5 rfl) ?_
    refine lv_imul C.x C.b dX9_missed_110 ?_
    refine lv_iload C.x C.b dX9_missed_111 (lv_at hl 6 rfl) ?_
    refine lv_iadd C.x C.b dX9_missed_113 ?_
    refine lv_goto (tgt := 118) C.x C.b dX9_missed_114 (by decide) ?_
    exact b_X9_missed_118 C hq21 hq33 x3 x4 x5 z0 ((10 * x4) + x5) μ2 h _ _ _ hP hS (lv_sub hl [1, 2, 4, 5, 6, 0] rfl)

def g_X9_missed_33 (x1 : Int32) (q21 : Int32 → Int32 → Int32 → Mem → Option (Int32 × Mem)) (q33 : Int32 → Int32 → Int32 → Int32 → Mem → Option (Int32 × Mem)) (x2 : Int32) (x3 : Int32) (x4 : Int32) (x5 : Int32) (μ : Mem) : Option (Int32 × Mem) := if (μ.1 122 1) ≤ x5 then (lt (x4 + 1) (fun y2 => q21 x2 x3 y2 μ)) else (grd (inb ((5 * x4) + x5) 25) (lt (μ.1 125 ((5 * x4) + x5).toNatClampNeg) (fun y4 => grd (inb ((5 * x4) + x5) 25) (lt (st μ 125 ((5 * x4) + x5).toNatClampNeg 3) (fun μ6 => if y4 = 3 then (f_X9_missed_84 x1 q21 q33 x2 x3 x4 x5 y4 ((-5)) μ6) else (bnd (f_X9_theBest μ6) (fun r9 μ10 => f_X9_missed_84 x1 q21 q33 x2 x3 x4 x5 y4 r9 μ10)))))))
def f_X9_missed_33 (x1 : Int32) (q21 : Int32 → Int32 → Int32 → Mem → Option (Int32 × Mem)) : Nat → Int32 → Int32 → Int32 → Int32 → Mem → Option (Int32 × Mem)
  | 0, _, _, _, _, _ => none
  | n + 1, x2, x3, x4, x5, μ => g_X9_missed_33 x1 q21 (f_X9_missed_33 x1 q21 n) x2 x3 x4 x5 μ
set_option maxRecDepth 100000 in
set_option maxHeartbeats 4000000 in
theorem w_X9_missed_33 {p : Program} {l : Launch} {e : Env} {s : State} {m : MethodId} {args : Array Value} {below : List Frame} {meth : Method} {c : Code} {G : Gp} {O : (Int32 × Mem)} (C : Cx p s m args meth c cX9_missed 8 RX9 (some .int) G) {x1 : Int32} {q21 : Int32 → Int32 → Int32 → Mem → Option (Int32 × Mem)} (hq21 : ∀ (x2 : Int32) (x3 : Int32) (x4 : Int32) (μ : Mem), q21 x2 x3 x4 μ = some O → ∀ (H : Heap) (locs : List Loc) (ls : Array Slot), Wm G μ H → va_S (wA G) s.heap H locs → lv_has ls 8 [(0, .ref (G.2.2 122)), (1, .int x1), (2, .int x2), (3, .int x3), (4, .int x4)] → W p l e (rmm 7 161) s m args below meth c H locs 0 0 (QI below args s G O) (F0 m 21 ls [])) {q33 : Int32 → Int32 → Int32 → Int32 → Mem → Option (Int32 × Mem)} (hq33 : ∀ (x2 : Int32) (x3 : Int32) (x4 : Int32) (x5 : Int32) (μ : Mem), q33 x2 x3 x4 x5 μ = some O → ∀ (H : Heap) (locs : List Loc) (ls : Array Slot), Wm G μ H → va_S (wA G) s.heap H locs → lv_has ls 8 [(0, .ref (G.2.2 122)), (1, .int x1), (2, .int x2), (3, .int x3), (4, .int x4), (5, .int x5)] → W p l e (rmm 7 161) s m args below meth c H locs 0 0 (QI below args s G O) (F0 m 33 ls [])) : ∀ (x2 : Int32) (x3 : Int32) (x4 : Int32) (x5 : Int32) (μ : Mem), g_X9_missed_33 x1 q21 q33 x2 x3 x4 x5 μ = some O → ∀ (H : Heap) (locs : List Loc) (ls : Array Slot), Wm G μ H → va_S (wA G) s.heap H locs → lv_has ls 8 [(0, .ref (G.2.2 122)), (1, .int x1), (2, .int x2), (3, .int x3), (4, .int x4), (5, .int x5)] → W p l e (rmm 7 161) s m args below meth c H locs 0 0 (QI below args s G O) (F0 m 33 ls []) := by
  intro x2 x3 x4 x5 μ h H locs ls hP hS hl
  unfold g_X9_missed_33 at h
  refine lv_iload C.x C.b dX9_missed_33 (lv_at hl 5 rfl) ?_
  refine lv_aload_n C.x C.b dX9_missed_35 rfl (lv_at hl 0 rfl) ?_
  refine g_int F_9_1 u4_130 C hP sh_122 dX9_missed_36 ?_
  refine lv_icmp_ge (tgt := 132) C.x C.b dX9_missed_39 (by decide) (fun c1 => ?_) (fun c1 => ?_)
  · have h := (if_pos c1).symm.trans h
    obtain ⟨y2, e_y2, h⟩ := lt_ex h
    refine lv_iinc (v := y2) (lv' := [(4, .int y2), (0, .ref (G.2.2 122)), (1, .int x1), (2, .int x2), (3, .int x3), (5, .int x5)]) C.x C.b dX9_missed_132 hl (k := 4) rfl (by rw [e_y2]; rfl) (by decide) rfl (fun ls hl => ?_)
    refine lv_goto (tgt := 21) C.x C.b dX9_missed_135 (by decide) ?_
    exact hq21 x2 x3 y2 μ h _ _ _ hP hS (lv_sub hl [1, 2, 3, 4, 0] rfl)
  · have h := (if_neg c1).symm.trans h
    refine lv_aload_n C.x C.b dX9_missed_42 rfl (lv_at hl 0 rfl) ?_
    refine g_ref (k' := 125) F_9_4 u4_133 C hP sh_122 rfl dX9_missed_43 ?_
    refine lv_iconst (v := 5) C.x C.b dX9_missed_46 (by decide) ?_
    refine lv_iload C.x C.b dX9_missed_47 (lv_at hl 4 rfl) ?_
    refine lv_imul C.x C.b dX9_missed_49 ?_
    refine lv_iload C.x C.b dX9_missed_50 (lv_at hl 5 rfl) ?_
    refine lv_iadd C.x C.b dX9_missed_52 ?_
    obtain ⟨g3, h⟩ := grd_some h
    refine a_i C hP sh_125 g3 dX9_missed_53 ?_
    refine lv_topi (fun y4 e_y4 => ?_)
    have h := lt_at h e_y4
    refine lv_istore (lv' := [(6, .int y4), (0, .ref (G.2.2 122)), (1, .int x1), (2, .int x2), (3, .int x3), (4, .int x4), (5, .int x5)]) C.x C.b dX9_missed_54 hl (by decide) rfl (fun ls hl => ?_)
    refine lv_aload_n C.x C.b dX9_missed_56 rfl (lv_at hl 1 rfl) ?_
    refine g_ref (k' := 125) F_9_4 u4_133 C hP sh_122 rfl dX9_missed_57 ?_
    refine lv_iconst (v := 5) C.x C.b dX9_missed_60 (by decide) ?_
    refine lv_iload C.x C.b dX9_missed_61 (lv_at hl 5 rfl) ?_
    refine lv_imul C.x C.b dX9_missed_63 ?_
    refine lv_iload C.x C.b dX9_missed_64 (lv_at hl 6 rfl) ?_
    refine lv_iadd C.x C.b dX9_missed_66 ?_
    refine lv_iconst (v := 3) C.x C.b dX9_missed_67 (by decide) ?_
    obtain ⟨g5, h⟩ := grd_some h
    refine as_i C hP hS sh_125 g5 dX9_missed_68 (fun H locs hP hS => ?_)
    obtain ⟨μ6, m_μ6, h⟩ := lt_ex h
    have hP : Wm G μ6 H := by rw [m_μ6]; exact hP
    refine lv_iload C.x C.b dX9_missed_69 (lv_at hl 0 rfl) ?_
    refine lv_iconst (v := 3) C.x C.b dX9_missed_71 (by decide) ?_
    refine lv_icmp_ne (tgt := 80) C.x C.b dX9_missed_72 (by decide) (fun c7 => ?_) (fun c7 => ?_)
    · have h := (if_neg c7).symm.trans h
      refine lv_aload_n C.x C.b dX9_missed_80 rfl (lv_at hl 1 rfl) ?_
      obtain ⟨r9, μ10, e8, h⟩ := bnd_some h
      refine k_vi (k := 122) (as := []) (rest := []) (c_X9_theBest C.i e8) M_X9_theBest u6_86 C hP hS sh_122 rfl rfl (by decide) hl.1 rfl (Nat.le_of_ble_eq_true rfl) dX9_missed_81 (fun H locs hP hS => ?_)
      exact b_X9_missed_84 C hq21 hq33 x2 x3 x4 x5 y4 r9 μ10 h _ _ _ hP hS (lv_sub hl [1, 2, 3, 4, 5, 6, 0] rfl)
    · have h := (if_pos c7).symm.trans h
      refine lv_bipush (v := (-5)) C.x C.b dX9_missed_75 (by decide) ?_
      refine lv_goto (tgt := 84) C.x C.b dX9_missed_77 (by decide) ?_
      exact b_X9_missed_84 C hq21 hq33 x2 x3 x4 x5 y4 ((-5)) μ6 h _ _ _ hP hS (lv_sub hl [1, 2, 3, 4, 5, 6, 0] rfl)

set_option maxRecDepth 100000 in
set_option maxHeartbeats 4000000 in
theorem b_X9_missed_33 {p : Program} {l : Launch} {e : Env} {s : State} {m : MethodId} {args : Array Value} {below : List Frame} {meth : Method} {c : Code} {G : Gp} {O : (Int32 × Mem)} (C : Cx p s m args meth c cX9_missed 8 RX9 (some .int) G) {x1 : Int32} {q21 : Int32 → Int32 → Int32 → Mem → Option (Int32 × Mem)} (hq21 : ∀ (x2 : Int32) (x3 : Int32) (x4 : Int32) (μ : Mem), q21 x2 x3 x4 μ = some O → ∀ (H : Heap) (locs : List Loc) (ls : Array Slot), Wm G μ H → va_S (wA G) s.heap H locs → lv_has ls 8 [(0, .ref (G.2.2 122)), (1, .int x1), (2, .int x2), (3, .int x3), (4, .int x4)] → W p l e (rmm 7 161) s m args below meth c H locs 0 0 (QI below args s G O) (F0 m 21 ls [])) : ∀ (n : Nat) (x2 : Int32) (x3 : Int32) (x4 : Int32) (x5 : Int32) (μ : Mem), f_X9_missed_33 x1 q21 n x2 x3 x4 x5 μ = some O → ∀ (H : Heap) (locs : List Loc) (ls : Array Slot), Wm G μ H → va_S (wA G) s.heap H locs → lv_has ls 8 [(0, .ref (G.2.2 122)), (1, .int x1), (2, .int x2), (3, .int x3), (4, .int x4), (5, .int x5)] → W p l e (rmm 7 161) s m args below meth c H locs 0 0 (QI below args s G O) (F0 m 33 ls []) := by
  intro n
  induction n with
  | zero => intro x2 x3 x4 x5 μ h; cases h
  | succ n ih => intro x2 x3 x4 x5 μ h; exact w_X9_missed_33 C hq21 (q33 := f_X9_missed_33 x1 q21 n) ih x2 x3 x4 x5 μ h

def g_X9_missed_21 (x1 : Int32)  (q21 : Int32 → Int32 → Int32 → Mem → Option (Int32 × Mem)) (x2 : Int32) (x3 : Int32) (x4 : Int32) (μ : Mem) : Option (Int32 × Mem) := if (μ.1 122 0) ≤ x4 then (if x1 = 0 then (some (x2, μ)) else (some (x3, μ))) else (f_X9_missed_33 x1 q21 FU x2 x3 x4 0 μ)
def f_X9_missed_21 (x1 : Int32)  : Nat → Int32 → Int32 → Int32 → Mem → Option (Int32 × Mem)
  | 0, _, _, _, _ => none
  | n + 1, x2, x3, x4, μ => g_X9_missed_21 x1 (f_X9_missed_21 x1 n) x2 x3 x4 μ
set_option maxRecDepth 100000 in
set_option maxHeartbeats 4000000 in
theorem w_X9_missed_21 {p : Program} {l : Launch} {e : Env} {s : State} {m : MethodId} {args : Array Value} {below : List Frame} {meth : Method} {c : Code} {G : Gp} {O : (Int32 × Mem)} (C : Cx p s m args meth c cX9_missed 8 RX9 (some .int) G) {x1 : Int32} {q21 : Int32 → Int32 → Int32 → Mem → Option (Int32 × Mem)} (hq21 : ∀ (x2 : Int32) (x3 : Int32) (x4 : Int32) (μ : Mem), q21 x2 x3 x4 μ = some O → ∀ (H : Heap) (locs : List Loc) (ls : Array Slot), Wm G μ H → va_S (wA G) s.heap H locs → lv_has ls 8 [(0, .ref (G.2.2 122)), (1, .int x1), (2, .int x2), (3, .int x3), (4, .int x4)] → W p l e (rmm 7 161) s m args below meth c H locs 0 0 (QI below args s G O) (F0 m 21 ls [])) : ∀ (x2 : Int32) (x3 : Int32) (x4 : Int32) (μ : Mem), g_X9_missed_21 x1 q21 x2 x3 x4 μ = some O → ∀ (H : Heap) (locs : List Loc) (ls : Array Slot), Wm G μ H → va_S (wA G) s.heap H locs → lv_has ls 8 [(0, .ref (G.2.2 122)), (1, .int x1), (2, .int x2), (3, .int x3), (4, .int x4)] → W p l e (rmm 7 161) s m args below meth c H locs 0 0 (QI below args s G O) (F0 m 21 ls []) := by
  intro x2 x3 x4 μ h H locs ls hP hS hl
  unfold g_X9_missed_21 at h
  refine lv_iload C.x C.b dX9_missed_21 (lv_at hl 4 rfl) ?_
  refine lv_aload_n C.x C.b dX9_missed_23 rfl (lv_at hl 0 rfl) ?_
  refine g_int F_9_0 u4_129 C hP sh_122 dX9_missed_24 ?_
  refine lv_icmp_ge (tgt := 138) C.x C.b dX9_missed_27 (by decide) (fun c1 => ?_) (fun c1 => ?_)
  · have h := (if_pos c1).symm.trans h
    refine lv_iload_n C.x C.b dX9_missed_138 rfl (lv_at hl 1 rfl) ?_
    refine lv_if_ne (tgt := 146) C.x C.b dX9_missed_139 (by decide) (fun c2 => ?_) (fun c2 => ?_)
    · have h := (if_neg c2).symm.trans h
      refine lv_iload_n C.x C.b dX9_missed_146 rfl (lv_at hl 3 rfl) ?_
      exact r_i h C hP hS dX9_missed_147
    · have h := (if_pos c2).symm.trans h
      refine lv_iload_n C.x C.b dX9_missed_142 rfl (lv_at hl 2 rfl) ?_
      refine lv_goto (tgt := 147) C.x C.b dX9_missed_143 (by decide) ?_
      exact r_i h C hP hS dX9_missed_147
  · have h := (if_neg c1).symm.trans h
    refine lv_iconst (v := 0) C.x C.b dX9_missed_30 (by decide) ?_
    refine lv_istore (lv' := [(5, .int 0), (0, .ref (G.2.2 122)), (1, .int x1), (2, .int x2), (3, .int x3), (4, .int x4)]) C.x C.b dX9_missed_31 hl (by decide) rfl (fun ls hl => ?_)
    exact b_X9_missed_33 C hq21 FU x2 x3 x4 0 μ h _ _ _ hP hS (lv_sub hl [1, 2, 3, 4, 5, 0] rfl)

set_option maxRecDepth 100000 in
set_option maxHeartbeats 4000000 in
theorem b_X9_missed_21 {p : Program} {l : Launch} {e : Env} {s : State} {m : MethodId} {args : Array Value} {below : List Frame} {meth : Method} {c : Code} {G : Gp} {O : (Int32 × Mem)} (C : Cx p s m args meth c cX9_missed 8 RX9 (some .int) G) {x1 : Int32} : ∀ (n : Nat) (x2 : Int32) (x3 : Int32) (x4 : Int32) (μ : Mem), f_X9_missed_21 x1 n x2 x3 x4 μ = some O → ∀ (H : Heap) (locs : List Loc) (ls : Array Slot), Wm G μ H → va_S (wA G) s.heap H locs → lv_has ls 8 [(0, .ref (G.2.2 122)), (1, .int x1), (2, .int x2), (3, .int x3), (4, .int x4)] → W p l e (rmm 7 161) s m args below meth c H locs 0 0 (QI below args s G O) (F0 m 21 ls []) := by
  intro n
  induction n with
  | zero => intro x2 x3 x4 μ h; cases h
  | succ n ih => intro x2 x3 x4 μ h; exact w_X9_missed_21 C (q21 := f_X9_missed_21 x1 n) ih x2 x3 x4 μ h

def f_X9_missed (x1 : Int32) (μ : Mem) : Option (Int32 × Mem) := bnv (f_X9_in (Int32.toInt64 x1) 0 1 μ) (fun r2 => if r2 = 0 then (some ((-1), μ)) else (f_X9_missed_21 x1 FU ((-5)) ((-5)) 0 μ))
set_option maxRecDepth 100000 in
set_option maxHeartbeats 4000000 in
theorem b_X9_missed {p : Program} {l : Launch} {e : Env} {s : State} {m : MethodId} {args : Array Value} {below : List Frame} {meth : Method} {c : Code} {G : Gp} {O : (Int32 × Mem)} (C : Cx p s m args meth c cX9_missed 8 RX9 (some .int) G) {x1 : Int32} {μ : Mem} (h : f_X9_missed x1 μ = some O) : ∀ (H : Heap) (locs : List Loc) (ls : Array Slot), Wm G μ H → va_S (wA G) s.heap H locs → lv_has ls 8 [(0, .ref (G.2.2 122)), (1, .int x1)] → W p l e (rmm 7 161) s m args below meth c H locs 0 0 (QI below args s G O) (F0 m 0 ls []) := by
  unfold f_X9_missed at h
  intro H locs ls hP hS hl
  refine lv_iload_n C.x C.b dX9_missed_0 rfl (lv_at hl 1 rfl) ?_
  refine lv_i2l (v := Int32.toInt64 x1) C.x C.b dX9_missed_1 rfl ?_
  refine lv_lconst (v := 0) C.x C.b dX9_missed_2 (by decide) ?_
  refine lv_lconst (v := 1) C.x C.b dX9_missed_3 (by decide) ?_
  obtain ⟨r2, e1, h⟩ := bnv_some h
  refine k_si (as := [.long (Int32.toInt64 x1), .long 0, .long 1]) (rest := []) (c_X9_in C.i e1) M_X9_in u5_72 C hP hS rfl (by decide) hl.1 rfl (Nat.le_of_ble_eq_true rfl) dX9_missed_4 (fun H locs hP hS => ?_)
  refine lv_if_ne (tgt := 12) C.x C.b dX9_missed_7 (by decide) (fun c3 => ?_) (fun c3 => ?_)
  · have h := (if_neg c3).symm.trans h
    refine lv_bipush (v := (-5)) C.x C.b dX9_missed_12 (by decide) ?_
    refine lv_istore_n (lv' := [(2, .int ((-5))), (0, .ref (G.2.2 122)), (1, .int x1)]) C.x C.b dX9_missed_14 rfl hl (by decide) rfl (fun ls hl => ?_)
    refine lv_bipush (v := (-5)) C.x C.b dX9_missed_15 (by decide) ?_
    refine lv_istore_n (lv' := [(3, .int ((-5))), (2, .int ((-5))), (0, .ref (G.2.2 122)), (1, .int x1)]) C.x C.b dX9_missed_17 rfl hl (by decide) rfl (fun ls hl => ?_)
    refine lv_iconst (v := 0) C.x C.b dX9_missed_18 (by decide) ?_
    refine lv_istore (lv' := [(4, .int 0), (3, .int ((-5))), (2, .int ((-5))), (0, .ref (G.2.2 122)), (1, .int x1)]) C.x C.b dX9_missed_19 hl (by decide) rfl (fun ls hl => ?_)
    exact b_X9_missed_21 C FU ((-5)) ((-5)) 0 μ h _ _ _ hP hS (lv_sub hl [3, 4, 2, 1, 0] rfl)
  · have h := (if_pos c3).symm.trans h
    refine lv_iconst (v := (-1)) C.x C.b dX9_missed_10 (by decide) ?_
    exact r_i h C hP hS dX9_missed_11

set_option maxRecDepth 100000 in
set_option maxHeartbeats 4000000 in
theorem c_X9_missed {l : Launch} {G : Gp} (hI : Wi G) {x1 : Int32} {μ : Mem} {r : Int32} {μ' : Mem} (h : f_X9_missed x1 μ = some (r, μ')) : CI l yX9_missed cX9_missed 8 (some .int) 7 161 G [.ref (G.2.2 122), .int x1] μ r μ' :=
  e_all (lv := [(0, .ref (G.2.2 122)), (1, .int x1)]) hI (by decide) (Nat.le_of_ble_eq_true rfl) rfl (fun p e s m args below meth c ls C hP hS hl => b_X9_missed C h _ _ _ hP hS hl)


def f_X9_see (x1 : Int32) (x2 : Int32) (x3 : Int32) (μ : Mem) : Option (Int32 × Mem) := if x1 = ((-1)) then (lt (st μ 122 20 0) (fun μ14 => some (0, μ14))) else (bnv (f_X9_isRoad x1 x2 μ) (fun r3 => if r3 = 0 then (some ((-1), μ)) else (bnv (f_X9_in (Int32.toInt64 x3) 0 99 μ) (fun r6 => if r6 = 0 then (some ((-2), μ)) else (if (μ.1 122 20) = 5 then (some ((-4), μ)) else (grd (inb (μ.1 122 20) 5) (lt (st μ 131 (μ.1 122 20).toNatClampNeg ((6 * x1) + x2)) (fun μ10 => grd (inb (μ10.1 122 20) 5) (lt (st μ10 132 (μ10.1 122 20).toNatClampNeg x3) (fun μ12 => lt (st μ12 122 20 ((μ12.1 122 20) + 1)) (fun μ13 => some (μ13.1 122 20, μ13))))))))))))
set_option maxRecDepth 100000 in
set_option maxHeartbeats 4000000 in
theorem b_X9_see {p : Program} {l : Launch} {e : Env} {s : State} {m : MethodId} {args : Array Value} {below : List Frame} {meth : Method} {c : Code} {G : Gp} {O : (Int32 × Mem)} (C : Cx p s m args meth c cX9_see 4 RX9 (some .int) G) {x1 : Int32} {x2 : Int32} {x3 : Int32} {μ : Mem} (h : f_X9_see x1 x2 x3 μ = some O) : ∀ (H : Heap) (locs : List Loc) (ls : Array Slot), Wm G μ H → va_S (wA G) s.heap H locs → lv_has ls 4 [(0, .ref (G.2.2 122)), (1, .int x1), (2, .int x2), (3, .int x3)] → W p l e (rmm 2 47) s m args below meth c H locs 0 0 (QI below args s G O) (F0 m 0 ls []) := by
  unfold f_X9_see at h
  intro H locs ls hP hS hl
  refine lv_iload_n C.x C.b dX9_see_0 rfl (lv_at hl 1 rfl) ?_
  refine lv_iconst (v := (-1)) C.x C.b dX9_see_1 (by decide) ?_
  refine lv_icmp_ne (tgt := 12) C.x C.b dX9_see_2 (by decide) (fun c1 => ?_) (fun c1 => ?_)
  · have h := (if_neg c1).symm.trans h
    refine lv_aload_n C.x C.b dX9_see_12 rfl (lv_at hl 0 rfl) ?_
    refine lv_iload_n C.x C.b dX9_see_13 rfl (lv_at hl 1 rfl) ?_
    refine lv_iload_n C.x C.b dX9_see_14 rfl (lv_at hl 2 rfl) ?_
    obtain ⟨r3, e2, h⟩ := bnv_some h
    refine k_vi (k := 122) (as := [.int x1, .int x2]) (rest := []) (c_X9_isRoad C.i e2) M_X9_isRoad u5_101 C hP hS sh_122 rfl rfl (by decide) hl.1 rfl (Nat.le_of_ble_eq_true rfl) dX9_see_15 (fun H locs hP hS => ?_)
    refine lv_if_ne (tgt := 23) C.x C.b dX9_see_18 (by decide) (fun c4 => ?_) (fun c4 => ?_)
    · have h := (if_neg c4).symm.trans h
      refine lv_iload_n C.x C.b dX9_see_23 rfl (lv_at hl 3 rfl) ?_
      refine lv_i2l (v := Int32.toInt64 x3) C.x C.b dX9_see_24 rfl ?_
      refine lv_lconst (v := 0) C.x C.b dX9_see_25 (by decide) ?_
      refine lv_ldc2 (own := RX9) (v := 99) C.x C.b C.o (C.t _ u5_71) dX9_see_26 ?_
      obtain ⟨r6, e5, h⟩ := bnv_some h
      refine k_si (as := [.long (Int32.toInt64 x3), .long 0, .long 99]) (rest := []) (c_X9_in C.i e5) M_X9_in u5_72 C hP hS rfl (by decide) hl.1 rfl (Nat.le_of_ble_eq_true rfl) dX9_see_29 (fun H locs hP hS => ?_)
      refine lv_if_ne (tgt := 38) C.x C.b dX9_see_32 (by decide) (fun c7 => ?_) (fun c7 => ?_)
      · have h := (if_neg c7).symm.trans h
        refine lv_aload_n C.x C.b dX9_see_38 rfl (lv_at hl 0 rfl) ?_
        refine g_int F_9_20 u4_149 C hP sh_122 dX9_see_39 ?_
        refine lv_iconst (v := 5) C.x C.b dX9_see_42 (by decide) ?_
        refine lv_icmp_ne (tgt := 49) C.x C.b dX9_see_43 (by decide) (fun c8 => ?_) (fun c8 => ?_)
        · have h := (if_neg c8).symm.trans h
          refine lv_aload_n C.x C.b dX9_see_49 rfl (lv_at hl 0 rfl) ?_
          refine g_ref (k' := 131) F_9_14 u4_143 C hP sh_122 rfl dX9_see_50 ?_
          refine lv_aload_n C.x C.b dX9_see_53 rfl (lv_at hl 0 rfl) ?_
          refine g_int F_9_20 u4_149 C hP sh_122 dX9_see_54 ?_
          refine lv_bipush (v := 6) C.x C.b dX9_see_57 (by decide) ?_
          refine lv_iload_n C.x C.b dX9_see_59 rfl (lv_at hl 1 rfl) ?_
          refine lv_imul C.x C.b dX9_see_60 ?_
          refine lv_iload_n C.x C.b dX9_see_61 rfl (lv_at hl 2 rfl) ?_
          refine lv_iadd C.x C.b dX9_see_62 ?_
          obtain ⟨g9, h⟩ := grd_some h
          refine as_i C hP hS sh_131 g9 dX9_see_63 (fun H locs hP hS => ?_)
          obtain ⟨μ10, m_μ10, h⟩ := lt_ex h
          have hP : Wm G μ10 H := by rw [m_μ10]; exact hP
          refine lv_aload_n C.x C.b dX9_see_64 rfl (lv_at hl 0 rfl) ?_
          refine g_ref (k' := 132) F_9_15 u4_144 C hP sh_122 rfl dX9_see_65 ?_
          refine lv_aload_n C.x C.b dX9_see_68 rfl (lv_at hl 0 rfl) ?_
          refine g_int F_9_20 u4_149 C hP sh_122 dX9_see_69 ?_
          refine lv_iload_n C.x C.b dX9_see_72 rfl (lv_at hl 3 rfl) ?_
          obtain ⟨g11, h⟩ := grd_some h
          refine as_i C hP hS sh_132 g11 dX9_see_73 (fun H locs hP hS => ?_)
          obtain ⟨μ12, m_μ12, h⟩ := lt_ex h
          have hP : Wm G μ12 H := by rw [m_μ12]; exact hP
          refine lv_aload_n C.x C.b dX9_see_74 rfl (lv_at hl 0 rfl) ?_
          refine lv_dup C.x C.b dX9_see_75 rfl ?_
          refine g_int F_9_20 u4_149 C hP sh_122 dX9_see_76 ?_
          refine lv_iconst (v := 1) C.x C.b dX9_see_79 (by decide) ?_
          refine lv_iadd C.x C.b dX9_see_80 ?_
          refine p_int F_9_20 P_9_20 u4_149 C hP hS sh_122 dX9_see_81 (fun H locs hP hS => ?_)
          obtain ⟨μ13, m_μ13, h⟩ := lt_ex h
          have hP : Wm G μ13 H := by rw [m_μ13]; exact hP
          refine lv_aload_n C.x C.b dX9_see_84 rfl (lv_at hl 0 rfl) ?_
          refine g_int F_9_20 u4_149 C hP sh_122 dX9_see_85 ?_
          exact r_i h C hP hS dX9_see_88
        · have h := (if_pos c8).symm.trans h
          refine lv_bipush (v := (-4)) C.x C.b dX9_see_46 (by decide) ?_
          exact r_i h C hP hS dX9_see_48
      · have h := (if_pos c7).symm.trans h
        refine lv_bipush (v := (-2)) C.x C.b dX9_see_35 (by decide) ?_
        exact r_i h C hP hS dX9_see_37
    · have h := (if_pos c4).symm.trans h
      refine lv_iconst (v := (-1)) C.x C.b dX9_see_21 (by decide) ?_
      exact r_i h C hP hS dX9_see_22
  · have h := (if_pos c1).symm.trans h
    refine lv_aload_n C.x C.b dX9_see_5 rfl (lv_at hl 0 rfl) ?_
    refine lv_iconst (v := 0) C.x C.b dX9_see_6 (by decide) ?_
    refine p_int F_9_20 P_9_20 u4_149 C hP hS sh_122 dX9_see_7 (fun H locs hP hS => ?_)
    obtain ⟨μ14, m_μ14, h⟩ := lt_ex h
    have hP : Wm G μ14 H := by rw [m_μ14]; exact hP
    refine lv_iconst (v := 0) C.x C.b dX9_see_10 (by decide) ?_
    exact r_i h C hP hS dX9_see_11

set_option maxRecDepth 100000 in
set_option maxHeartbeats 4000000 in
theorem c_X9_see {l : Launch} {G : Gp} (hI : Wi G) {x1 : Int32} {x2 : Int32} {x3 : Int32} {μ : Mem} {r : Int32} {μ' : Mem} (h : f_X9_see x1 x2 x3 μ = some (r, μ')) : CI l yX9_see cX9_see 4 (some .int) 2 47 G [.ref (G.2.2 122), .int x1, .int x2, .int x3] μ r μ' :=
  e_all (lv := [(0, .ref (G.2.2 122)), (1, .int x1), (2, .int x2), (3, .int x3)]) hI (by decide) (Nat.le_of_ble_eq_true rfl) rfl (fun p e s m args below meth c ls C hP hS hl => b_X9_see C h _ _ _ hP hS hl)


def g_X9_isAllSeen_2   (μ : Mem) (q2 : Int32 → Option Int32) (x1 : Int32) : Option Int32 := if (μ.1 122 20) ≤ x1 then (some 1) else (grd (inb x1 5) (grd (inb (μ.1 131 x1.toNatClampNeg) 36) (grd (inb x1 5) (if (μ.1 128 (μ.1 131 x1.toNatClampNeg).toNatClampNeg) = (μ.1 132 x1.toNatClampNeg) then (lt (x1 + 1) (fun y6 => q2 y6)) else (some 0)))))
def f_X9_isAllSeen_2   (μ : Mem) : Nat → Int32 → Option Int32
  | 0, _ => none
  | n + 1, x1 => g_X9_isAllSeen_2  μ (f_X9_isAllSeen_2  μ n) x1
set_option maxRecDepth 100000 in
set_option maxHeartbeats 4000000 in
theorem w_X9_isAllSeen_2 {p : Program} {l : Launch} {e : Env} {s : State} {m : MethodId} {args : Array Value} {below : List Frame} {meth : Method} {c : Code} {G : Gp} {O : Int32} (C : Cx p s m args meth c cX9_isAllSeen 2 RX9 (some .boolean) G) {μ : Mem} {q2 : Int32 → Option Int32} (hq2 : ∀ (x1 : Int32), q2 x1 = some O → ∀ (H : Heap) (locs : List Loc) (ls : Array Slot), Wm G μ H → va_S (wA G) s.heap H locs → lv_has ls 2 [(0, .ref (G.2.2 122)), (1, .int x1)] → W p l e (rmm 0 0) s m args below meth c H locs 0 0 (QI below args s G (O, μ)) (F0 m 2 ls [])) : ∀ (x1 : Int32), g_X9_isAllSeen_2 μ q2 x1 = some O → ∀ (H : Heap) (locs : List Loc) (ls : Array Slot), Wm G μ H → va_S (wA G) s.heap H locs → lv_has ls 2 [(0, .ref (G.2.2 122)), (1, .int x1)] → W p l e (rmm 0 0) s m args below meth c H locs 0 0 (QI below args s G (O, μ)) (F0 m 2 ls []) := by
  intro x1 h H locs ls hP hS hl
  unfold g_X9_isAllSeen_2 at h
  refine lv_iload_n C.x C.b dX9_isAllSeen_2 rfl (lv_at hl 1 rfl) ?_
  refine lv_aload_n C.x C.b dX9_isAllSeen_3 rfl (lv_at hl 0 rfl) ?_
  refine g_int F_9_20 u4_149 C hP sh_122 dX9_isAllSeen_4 ?_
  refine lv_icmp_ge (tgt := 38) C.x C.b dX9_isAllSeen_7 (by decide) (fun c1 => ?_) (fun c1 => ?_)
  · have h := (if_pos c1).symm.trans h
    refine lv_iconst (v := 1) C.x C.b dX9_isAllSeen_38 (by decide) ?_
    exact r_z (pr_some h) (by decide) C hP hS dX9_isAllSeen_39
  · have h := (if_neg c1).symm.trans h
    refine lv_aload_n C.x C.b dX9_isAllSeen_10 rfl (lv_at hl 0 rfl) ?_
    refine g_ref (k' := 128) F_9_11 u4_140 C hP sh_122 rfl dX9_isAllSeen_11 ?_
    refine lv_aload_n C.x C.b dX9_isAllSeen_14 rfl (lv_at hl 0 rfl) ?_
    refine g_ref (k' := 131) F_9_14 u4_143 C hP sh_122 rfl dX9_isAllSeen_15 ?_
    refine lv_iload_n C.x C.b dX9_isAllSeen_18 rfl (lv_at hl 1 rfl) ?_
    obtain ⟨g2, h⟩ := grd_some h
    refine a_i C hP sh_131 g2 dX9_isAllSeen_19 ?_
    obtain ⟨g3, h⟩ := grd_some h
    refine a_i C hP sh_128 g3 dX9_isAllSeen_20 ?_
    refine lv_aload_n C.x C.b dX9_isAllSeen_21 rfl (lv_at hl 0 rfl) ?_
    refine g_ref (k' := 132) F_9_15 u4_144 C hP sh_122 rfl dX9_isAllSeen_22 ?_
    refine lv_iload_n C.x C.b dX9_isAllSeen_25 rfl (lv_at hl 1 rfl) ?_
    obtain ⟨g4, h⟩ := grd_some h
    refine a_i C hP sh_132 g4 dX9_isAllSeen_26 ?_
    refine lv_icmp_eq (tgt := 32) C.x C.b dX9_isAllSeen_27 (by decide) (fun c5 => ?_) (fun c5 => ?_)
    · have h := (if_pos c5).symm.trans h
      obtain ⟨y6, e_y6, h⟩ := lt_ex h
      refine lv_iinc (v := y6) (lv' := [(1, .int y6), (0, .ref (G.2.2 122))]) C.x C.b dX9_isAllSeen_32 hl (k := 1) rfl (by rw [e_y6]; rfl) (by decide) rfl (fun ls hl => ?_)
      refine lv_goto (tgt := 2) C.x C.b dX9_isAllSeen_35 (by decide) ?_
      exact hq2 y6 h _ _ _ hP hS (lv_sub hl [1, 0] rfl)
    · have h := (if_neg c5).symm.trans h
      refine lv_iconst (v := 0) C.x C.b dX9_isAllSeen_30 (by decide) ?_
      exact r_z (pr_some h) (by decide) C hP hS dX9_isAllSeen_31

set_option maxRecDepth 100000 in
set_option maxHeartbeats 4000000 in
theorem b_X9_isAllSeen_2 {p : Program} {l : Launch} {e : Env} {s : State} {m : MethodId} {args : Array Value} {below : List Frame} {meth : Method} {c : Code} {G : Gp} {O : Int32} (C : Cx p s m args meth c cX9_isAllSeen 2 RX9 (some .boolean) G) {μ : Mem} : ∀ (n : Nat) (x1 : Int32), f_X9_isAllSeen_2 μ n x1 = some O → ∀ (H : Heap) (locs : List Loc) (ls : Array Slot), Wm G μ H → va_S (wA G) s.heap H locs → lv_has ls 2 [(0, .ref (G.2.2 122)), (1, .int x1)] → W p l e (rmm 0 0) s m args below meth c H locs 0 0 (QI below args s G (O, μ)) (F0 m 2 ls []) := by
  intro n
  induction n with
  | zero => intro x1 h; cases h
  | succ n ih => intro x1 h; exact w_X9_isAllSeen_2 C (q2 := f_X9_isAllSeen_2 μ n) ih x1 h

def f_X9_isAllSeen  (μ : Mem) : Option Int32 := f_X9_isAllSeen_2 μ FU 0
set_option maxRecDepth 100000 in
set_option maxHeartbeats 4000000 in
theorem b_X9_isAllSeen {p : Program} {l : Launch} {e : Env} {s : State} {m : MethodId} {args : Array Value} {below : List Frame} {meth : Method} {c : Code} {G : Gp} {O : Int32} (C : Cx p s m args meth c cX9_isAllSeen 2 RX9 (some .boolean) G) {μ : Mem} (h : f_X9_isAllSeen μ = some O) : ∀ (H : Heap) (locs : List Loc) (ls : Array Slot), Wm G μ H → va_S (wA G) s.heap H locs → lv_has ls 2 [(0, .ref (G.2.2 122))] → W p l e (rmm 0 0) s m args below meth c H locs 0 0 (QI below args s G (O, μ)) (F0 m 0 ls []) := by
  unfold f_X9_isAllSeen at h
  intro H locs ls hP hS hl
  refine lv_iconst (v := 0) C.x C.b dX9_isAllSeen_0 (by decide) ?_
  refine lv_istore_n (lv' := [(1, .int 0), (0, .ref (G.2.2 122))]) C.x C.b dX9_isAllSeen_1 rfl hl (by decide) rfl (fun ls hl => ?_)
  exact b_X9_isAllSeen_2 C FU 0 h _ _ _ hP hS (lv_sub hl [1, 0] rfl)

set_option maxRecDepth 100000 in
set_option maxHeartbeats 4000000 in
theorem c_X9_isAllSeen {l : Launch} {G : Gp} (hI : Wi G) {μ : Mem} {r : Int32} (h : f_X9_isAllSeen μ = some r) : CI l yX9_isAllSeen cX9_isAllSeen 2 (some .boolean) 0 0 G [.ref (G.2.2 122)] μ r μ :=
  e_all (lv := [(0, .ref (G.2.2 122))]) hI (by decide) (Nat.le_of_ble_eq_true rfl) rfl (fun p e s m args below meth c ls C hP hS hl => b_X9_isAllSeen C h _ _ _ hP hS hl)


def g_X9_fits_48 (x1 : Int32) (x2 : Int32) (x3 : Int32)  (q48 : Int32 → Int32 → Int32 → Int32 → Mem → Option (Int32 × Mem)) (x4 : Int32) (x5 : Int32) (x6 : Int32) (x7 : Int32) (μ : Mem) : Option (Int32 × Mem) := if x7 < 0 then (bnv (f_X9_forgets μ) (fun μ3 => grd (inb ((5 * x1) + x2) 25) (lt (st μ3 126 ((5 * x1) + x2).toNatClampNeg x4) (fun μ5 => if x3 = 0 then (some (x5, μ5)) else (some (x6, μ5)))))) else (grd (inb ((5 * x1) + x2) 25) (lt (st μ 126 ((5 * x1) + x2).toNatClampNeg x7) (fun μ8 => bnd (f_X9_thinks 1 1 μ8) (fun r10 μ11 => if r10 < 0 then (lt (x7 + (-1)) (fun y13 => q48 x4 x5 x6 y13 μ11)) else (bnv (f_X9_isAllSeen μ11) (fun r15 => if r15 = 0 then (lt (x7 + (-1)) (fun y17 => q48 x4 x5 x6 y17 μ11)) else (lt (x5 + 1) (fun y18 => lt (x7 + (-1)) (fun y19 => q48 x4 y18 x7 y19 μ11)))))))))
def f_X9_fits_48 (x1 : Int32) (x2 : Int32) (x3 : Int32)  : Nat → Int32 → Int32 → Int32 → Int32 → Mem → Option (Int32 × Mem)
  | 0, _, _, _, _, _ => none
  | n + 1, x4, x5, x6, x7, μ => g_X9_fits_48 x1 x2 x3 (f_X9_fits_48 x1 x2 x3 n) x4 x5 x6 x7 μ
set_option maxRecDepth 100000 in
set_option maxHeartbeats 4000000 in
theorem w_X9_fits_48 {p : Program} {l : Launch} {e : Env} {s : State} {m : MethodId} {args : Array Value} {below : List Frame} {meth : Method} {c : Code} {G : Gp} {O : (Int32 × Mem)} (C : Cx p s m args meth c cX9_fits 8 RX9 (some .int) G) {x1 : Int32} {x2 : Int32} {x3 : Int32} {q48 : Int32 → Int32 → Int32 → Int32 → Mem → Option (Int32 × Mem)} (hq48 : ∀ (x4 : Int32) (x5 : Int32) (x6 : Int32) (x7 : Int32) (μ : Mem), q48 x4 x5 x6 x7 μ = some O → ∀ (H : Heap) (locs : List Loc) (ls : Array Slot), Wm G μ H → va_S (wA G) s.heap H locs → lv_has ls 8 [(0, .ref (G.2.2 122)), (1, .int x1), (2, .int x2), (3, .int x3), (4, .int x4), (5, .int x5), (6, .int x6), (7, .int x7)] → W p l e (rmm 6 140) s m args below meth c H locs 0 0 (QI below args s G O) (F0 m 48 ls [])) : ∀ (x4 : Int32) (x5 : Int32) (x6 : Int32) (x7 : Int32) (μ : Mem), g_X9_fits_48 x1 x2 x3 q48 x4 x5 x6 x7 μ = some O → ∀ (H : Heap) (locs : List Loc) (ls : Array Slot), Wm G μ H → va_S (wA G) s.heap H locs → lv_has ls 8 [(0, .ref (G.2.2 122)), (1, .int x1), (2, .int x2), (3, .int x3), (4, .int x4), (5, .int x5), (6, .int x6), (7, .int x7)] → W p l e (rmm 6 140) s m args below meth c H locs 0 0 (QI below args s G O) (F0 m 48 ls []) := by
  intro x4 x5 x6 x7 μ h H locs ls hP hS hl
  unfold g_X9_fits_48 at h
  refine lv_iload C.x C.b dX9_fits_48 (lv_at hl 7 rfl) ?_
  refine lv_if_lt (tgt := 94) C.x C.b dX9_fits_50 (by decide) (fun c1 => ?_) (fun c1 => ?_)
  · have h := (if_pos c1).symm.trans h
    refine lv_aload_n C.x C.b dX9_fits_94 rfl (lv_at hl 0 rfl) ?_
    obtain ⟨μ3, e2, h⟩ := bnv_some h
    refine k_vv (k := 122) (as := []) (rest := []) (c_X9_forgets C.i e2) M_X9_forgets u6_62 C hP hS sh_122 rfl rfl (by decide) hl.1 rfl (Nat.le_of_ble_eq_true rfl) dX9_fits_95 (fun H locs hP hS => ?_)
    refine lv_aload_n C.x C.b dX9_fits_98 rfl (lv_at hl 0 rfl) ?_
    refine g_ref (k' := 126) F_9_5 u4_134 C hP sh_122 rfl dX9_fits_99 ?_
    refine lv_iconst (v := 5) C.x C.b dX9_fits_102 (by decide) ?_
    refine lv_iload_n C.x C.b dX9_fits_103 rfl (lv_at hl 1 rfl) ?_
    refine lv_imul C.x C.b dX9_fits_104 ?_
    refine lv_iload_n C.x C.b dX9_fits_105 rfl (lv_at hl 2 rfl) ?_
    refine lv_iadd C.x C.b dX9_fits_106 ?_
    refine lv_iload C.x C.b dX9_fits_107 (lv_at hl 4 rfl) ?_
    obtain ⟨g4, h⟩ := grd_some h
    refine as_i C hP hS sh_126 g4 dX9_fits_109 (fun H locs hP hS => ?_)
    obtain ⟨μ5, m_μ5, h⟩ := lt_ex h
    have hP : Wm G μ5 H := by rw [m_μ5]; exact hP
    refine lv_iload_n C.x C.b dX9_fits_110 rfl (lv_at hl 3 rfl) ?_
    refine lv_if_ne (tgt := 119) C.x C.b dX9_fits_111 (by decide) (fun c6 => ?_) (fun c6 => ?_)
    · have h := (if_neg c6).symm.trans h
      refine lv_iload C.x C.b dX9_fits_119 (lv_at hl 6 rfl) ?_
      exact r_i h C hP hS dX9_fits_121
    · have h := (if_pos c6).symm.trans h
      refine lv_iload C.x C.b dX9_fits_114 (lv_at hl 5 rfl) ?_
      refine lv_goto (tgt := 121) C.x C.b dX9_fits_116 (by decide) ?_
      exact r_i h C hP hS dX9_fits_121
  · have h := (if_neg c1).symm.trans h
    refine lv_aload_n C.x C.b dX9_fits_53 rfl (lv_at hl 0 rfl) ?_
    refine g_ref (k' := 126) F_9_5 u4_134 C hP sh_122 rfl dX9_fits_54 ?_
    refine lv_iconst (v := 5) C.x C.b dX9_fits_57 (by decide) ?_
    refine lv_iload_n C.x C.b dX9_fits_58 rfl (lv_at hl 1 rfl) ?_
    refine lv_imul C.x C.b dX9_fits_59 ?_
    refine lv_iload_n C.x C.b dX9_fits_60 rfl (lv_at hl 2 rfl) ?_
    refine lv_iadd C.x C.b dX9_fits_61 ?_
    refine lv_iload C.x C.b dX9_fits_62 (lv_at hl 7 rfl) ?_
    obtain ⟨g7, h⟩ := grd_some h
    refine as_i C hP hS sh_126 g7 dX9_fits_64 (fun H locs hP hS => ?_)
    obtain ⟨μ8, m_μ8, h⟩ := lt_ex h
    have hP : Wm G μ8 H := by rw [m_μ8]; exact hP
    refine lv_aload_n C.x C.b dX9_fits_65 rfl (lv_at hl 0 rfl) ?_
    refine lv_iconst (v := 1) C.x C.b dX9_fits_66 (by decide) ?_
    refine lv_iconst (v := 1) C.x C.b dX9_fits_67 (by decide) ?_
    obtain ⟨r10, μ11, e9, h⟩ := bnd_some h
    refine k_vi (k := 122) (as := [.int 1, .int 1]) (rest := []) (c_X9_thinks C.i e9) M_X9_thinks u6_58 C hP hS sh_122 rfl rfl (by decide) hl.1 rfl (Nat.le_of_ble_eq_true rfl) dX9_fits_68 (fun H locs hP hS => ?_)
    refine lv_if_lt (tgt := 88) C.x C.b dX9_fits_71 (by decide) (fun c12 => ?_) (fun c12 => ?_)
    · have h := (if_pos c12).symm.trans h
      obtain ⟨y13, e_y13, h⟩ := lt_ex h
      refine lv_iinc (v := y13) (lv' := [(7, .int y13), (0, .ref (G.2.2 122)), (1, .int x1), (2, .int x2), (3, .int x3), (4, .int x4), (5, .int x5), (6, .int x6)]) C.x C.b dX9_fits_88 hl (k := 7) rfl (by rw [e_y13]; rfl) (by decide) rfl (fun ls hl => ?_)
      refine lv_goto (tgt := 48) C.x C.b dX9_fits_91 (by decide) ?_
      exact hq48 x4 x5 x6 y13 μ11 h _ _ _ hP hS (lv_sub hl [1, 2, 3, 4, 5, 6, 7, 0] rfl)
    · have h := (if_neg c12).symm.trans h
      refine lv_aload_n C.x C.b dX9_fits_74 rfl (lv_at hl 0 rfl) ?_
      obtain ⟨r15, e14, h⟩ := bnv_some h
      refine k_vi (k := 122) (as := []) (rest := []) (c_X9_isAllSeen C.i e14) M_X9_isAllSeen u6_111 C hP hS sh_122 rfl rfl (by decide) hl.1 rfl (Nat.le_of_ble_eq_true rfl) dX9_fits_75 (fun H locs hP hS => ?_)
      refine lv_if_eq (tgt := 88) C.x C.b dX9_fits_78 (by decide) (fun c16 => ?_) (fun c16 => ?_)
      · have h := (if_pos c16).symm.trans h
        obtain ⟨y17, e_y17, h⟩ := lt_ex h
        refine lv_iinc (v := y17) (lv' := [(7, .int y17), (0, .ref (G.2.2 122)), (1, .int x1), (2, .int x2), (3, .int x3), (4, .int x4), (5, .int x5), (6, .int x6)]) C.x C.b dX9_fits_88 hl (k := 7) rfl (by rw [e_y17]; rfl) (by decide) rfl (fun ls hl => ?_)
        refine lv_goto (tgt := 48) C.x C.b dX9_fits_91 (by decide) ?_
        exact hq48 x4 x5 x6 y17 μ11 h _ _ _ hP hS (lv_sub hl [1, 2, 3, 4, 5, 6, 7, 0] rfl)
      · have h := (if_neg c16).symm.trans h
        obtain ⟨y18, e_y18, h⟩ := lt_ex h
        refine lv_iinc (v := y18) (lv' := [(5, .int y18), (0, .ref (G.2.2 122)), (1, .int x1), (2, .int x2), (3, .int x3), (4, .int x4), (6, .int x6), (7, .int x7)]) C.x C.b dX9_fits_81 hl (k := 5) rfl (by rw [e_y18]; rfl) (by decide) rfl (fun ls hl => ?_)
        refine lv_iload C.x C.b dX9_fits_84 (lv_at hl 7 rfl) ?_
        refine lv_istore (lv' := [(6, .int x7), (5, .int y18), (0, .ref (G.2.2 122)), (1, .int x1), (2, .int x2), (3, .int x3), (4, .int x4), (7, .int x7)]) C.x C.b dX9_fits_86 hl (by decide) rfl (fun ls hl => ?_)
        obtain ⟨y19, e_y19, h⟩ := lt_ex h
        refine lv_iinc (v := y19) (lv' := [(7, .int y19), (6, .int x7), (5, .int y18), (0, .ref (G.2.2 122)), (1, .int x1), (2, .int x2), (3, .int x3), (4, .int x4)]) C.x C.b dX9_fits_88 hl (k := 7) rfl (by rw [e_y19]; rfl) (by decide) rfl (fun ls hl => ?_)
        refine lv_goto (tgt := 48) C.x C.b dX9_fits_91 (by decide) ?_
        exact hq48 x4 y18 x7 y19 μ11 h _ _ _ hP hS (lv_sub hl [3, 4, 5, 6, 7, 2, 1, 0] rfl)

set_option maxRecDepth 100000 in
set_option maxHeartbeats 4000000 in
theorem b_X9_fits_48 {p : Program} {l : Launch} {e : Env} {s : State} {m : MethodId} {args : Array Value} {below : List Frame} {meth : Method} {c : Code} {G : Gp} {O : (Int32 × Mem)} (C : Cx p s m args meth c cX9_fits 8 RX9 (some .int) G) {x1 : Int32} {x2 : Int32} {x3 : Int32} : ∀ (n : Nat) (x4 : Int32) (x5 : Int32) (x6 : Int32) (x7 : Int32) (μ : Mem), f_X9_fits_48 x1 x2 x3 n x4 x5 x6 x7 μ = some O → ∀ (H : Heap) (locs : List Loc) (ls : Array Slot), Wm G μ H → va_S (wA G) s.heap H locs → lv_has ls 8 [(0, .ref (G.2.2 122)), (1, .int x1), (2, .int x2), (3, .int x3), (4, .int x4), (5, .int x5), (6, .int x6), (7, .int x7)] → W p l e (rmm 6 140) s m args below meth c H locs 0 0 (QI below args s G O) (F0 m 48 ls []) := by
  intro n
  induction n with
  | zero => intro x4 x5 x6 x7 μ h; cases h
  | succ n ih => intro x4 x5 x6 x7 μ h; exact w_X9_fits_48 C (q48 := f_X9_fits_48 x1 x2 x3 n) ih x4 x5 x6 x7 μ h

def f_X9_fits (x1 : Int32) (x2 : Int32) (x3 : Int32) (μ : Mem) : Option (Int32 × Mem) := bnv (f_X9_isRoad x1 x2 μ) (fun r2 => if r2 = 0 then (some ((-1), μ)) else (bnv (f_X9_in (Int32.toInt64 x3) 0 1 μ) (fun r5 => if r5 = 0 then (some ((-1), μ)) else (grd (inb ((5 * x1) + x2) 25) (lt (μ.1 126 ((5 * x1) + x2).toNatClampNeg) (fun y8 => bnv (f_X9_minds μ) (fun μ10 => f_X9_fits_48 x1 x2 x3 FU y8 0 ((-5)) 30 μ10)))))))
set_option maxRecDepth 100000 in
set_option maxHeartbeats 4000000 in
theorem b_X9_fits {p : Program} {l : Launch} {e : Env} {s : State} {m : MethodId} {args : Array Value} {below : List Frame} {meth : Method} {c : Code} {G : Gp} {O : (Int32 × Mem)} (C : Cx p s m args meth c cX9_fits 8 RX9 (some .int) G) {x1 : Int32} {x2 : Int32} {x3 : Int32} {μ : Mem} (h : f_X9_fits x1 x2 x3 μ = some O) : ∀ (H : Heap) (locs : List Loc) (ls : Array Slot), Wm G μ H → va_S (wA G) s.heap H locs → lv_has ls 8 [(0, .ref (G.2.2 122)), (1, .int x1), (2, .int x2), (3, .int x3)] → W p l e (rmm 6 140) s m args below meth c H locs 0 0 (QI below args s G O) (F0 m 0 ls []) := by
  unfold f_X9_fits at h
  intro H locs ls hP hS hl
  refine lv_aload_n C.x C.b dX9_fits_0 rfl (lv_at hl 0 rfl) ?_
  refine lv_iload_n C.x C.b dX9_fits_1 rfl (lv_at hl 1 rfl) ?_
  refine lv_iload_n C.x C.b dX9_fits_2 rfl (lv_at hl 2 rfl) ?_
  obtain ⟨r2, e1, h⟩ := bnv_some h
  refine k_vi (k := 122) (as := [.int x1, .int x2]) (rest := []) (c_X9_isRoad C.i e1) M_X9_isRoad u5_101 C hP hS sh_122 rfl rfl (by decide) hl.1 rfl (Nat.le_of_ble_eq_true rfl) dX9_fits_3 (fun H locs hP hS => ?_)
  refine lv_if_eq (tgt := 19) C.x C.b dX9_fits_6 (by decide) (fun c3 => ?_) (fun c3 => ?_)
  · have h := (if_pos c3).symm.trans h
    refine lv_iconst (v := (-1)) C.x C.b dX9_fits_19 (by decide) ?_
    exact r_i h C hP hS dX9_fits_20
  · have h := (if_neg c3).symm.trans h
    refine lv_iload_n C.x C.b dX9_fits_9 rfl (lv_at hl 3 rfl) ?_
    refine lv_i2l (v := Int32.toInt64 x3) C.x C.b dX9_fits_10 rfl ?_
    refine lv_lconst (v := 0) C.x C.b dX9_fits_11 (by decide) ?_
    refine lv_lconst (v := 1) C.x C.b dX9_fits_12 (by decide) ?_
    obtain ⟨r5, e4, h⟩ := bnv_some h
    refine k_si (as := [.long (Int32.toInt64 x3), .long 0, .long 1]) (rest := []) (c_X9_in C.i e4) M_X9_in u5_72 C hP hS rfl (by decide) hl.1 rfl (Nat.le_of_ble_eq_true rfl) dX9_fits_13 (fun H locs hP hS => ?_)
    refine lv_if_ne (tgt := 21) C.x C.b dX9_fits_16 (by decide) (fun c6 => ?_) (fun c6 => ?_)
    · have h := (if_neg c6).symm.trans h
      refine lv_aload_n C.x C.b dX9_fits_21 rfl (lv_at hl 0 rfl) ?_
      refine g_ref (k' := 126) F_9_5 u4_134 C hP sh_122 rfl dX9_fits_22 ?_
      refine lv_iconst (v := 5) C.x C.b dX9_fits_25 (by decide) ?_
      refine lv_iload_n C.x C.b dX9_fits_26 rfl (lv_at hl 1 rfl) ?_
      refine lv_imul C.x C.b dX9_fits_27 ?_
      refine lv_iload_n C.x C.b dX9_fits_28 rfl (lv_at hl 2 rfl) ?_
      refine lv_iadd C.x C.b dX9_fits_29 ?_
      obtain ⟨g7, h⟩ := grd_some h
      refine a_i C hP sh_126 g7 dX9_fits_30 ?_
      refine lv_topi (fun y8 e_y8 => ?_)
      have h := lt_at h e_y8
      refine lv_istore (lv' := [(4, .int y8), (0, .ref (G.2.2 122)), (1, .int x1), (2, .int x2), (3, .int x3)]) C.x C.b dX9_fits_31 hl (by decide) rfl (fun ls hl => ?_)
      refine lv_iconst (v := 0) C.x C.b dX9_fits_33 (by decide) ?_
      refine lv_istore (lv' := [(5, .int 0), (4, .int y8), (0, .ref (G.2.2 122)), (1, .int x1), (2, .int x2), (3, .int x3)]) C.x C.b dX9_fits_34 hl (by decide) rfl (fun ls hl => ?_)
      refine lv_bipush (v := (-5)) C.x C.b dX9_fits_36 (by decide) ?_
      refine lv_istore (lv' := [(6, .int ((-5))), (5, .int 0), (4, .int y8), (0, .ref (G.2.2 122)), (1, .int x1), (2, .int x2), (3, .int x3)]) C.x C.b dX9_fits_38 hl (by decide) rfl (fun ls hl => ?_)
      refine lv_aload_n C.x C.b dX9_fits_40 rfl (lv_at hl 3 rfl) ?_
      obtain ⟨μ10, e9, h⟩ := bnv_some h
      refine k_vv (k := 122) (as := []) (rest := []) (c_X9_minds C.i e9) M_X9_minds u6_50 C hP hS sh_122 rfl rfl (by decide) hl.1 rfl (Nat.le_of_ble_eq_true rfl) dX9_fits_41 (fun H locs hP hS => ?_)
      refine lv_bipush (v := 30) C.x C.b dX9_fits_44 (by decide) ?_
      refine lv_istore (lv' := [(7, .int 30), (6, .int ((-5))), (5, .int 0), (4, .int y8), (0, .ref (G.2.2 122)), (1, .int x1), (2, .int x2), (3, .int x3)]) C.x C.b dX9_fits_46 hl (by decide) rfl (fun ls hl => ?_)
      exact b_X9_fits_48 C FU y8 0 ((-5)) 30 μ10 h _ _ _ hP hS (lv_sub hl [4, 5, 6, 7, 3, 2, 1, 0] rfl)
    · have h := (if_pos c6).symm.trans h
      refine lv_iconst (v := (-1)) C.x C.b dX9_fits_19 (by decide) ?_
      exact r_i h C hP hS dX9_fits_20

set_option maxRecDepth 100000 in
set_option maxHeartbeats 4000000 in
theorem c_X9_fits {l : Launch} {G : Gp} (hI : Wi G) {x1 : Int32} {x2 : Int32} {x3 : Int32} {μ : Mem} {r : Int32} {μ' : Mem} (h : f_X9_fits x1 x2 x3 μ = some (r, μ')) : CI l yX9_fits cX9_fits 8 (some .int) 6 140 G [.ref (G.2.2 122), .int x1, .int x2, .int x3] μ r μ' :=
  e_all (lv := [(0, .ref (G.2.2 122)), (1, .int x1), (2, .int x2), (3, .int x3)]) hI (by decide) (Nat.le_of_ble_eq_true rfl) rfl (fun p e s m args below meth c ls C hP hS hl => b_X9_fits C h _ _ _ hP hS hl)


def g_X9_lowest_6 (x0 : Int64) (x2 : Int64) (x4 : Int32)  (μ : Mem) (q6 : Int64 → Int64 → Option Int64) (x5 : Int64) (x7 : Int64) : Option Int64 := if (lg_cmp x7 0) = 0 then (if x4 = 0 then (grd (decide (¬ x5 = 0)) (some (x0 / x5))) else (grd (decide (¬ x5 = 0)) (some (x2 / x5)))) else (grd (decide (¬ x7 = 0)) (lt (rm64 x5 x7) (fun y6 => q6 x7 y6)))
def f_X9_lowest_6 (x0 : Int64) (x2 : Int64) (x4 : Int32)  (μ : Mem) : Nat → Int64 → Int64 → Option Int64
  | 0, _, _ => none
  | n + 1, x5, x7 => g_X9_lowest_6 x0 x2 x4 μ (f_X9_lowest_6 x0 x2 x4 μ n) x5 x7
set_option maxRecDepth 100000 in
set_option maxHeartbeats 4000000 in
theorem w_X9_lowest_6 {p : Program} {l : Launch} {e : Env} {s : State} {m : MethodId} {args : Array Value} {below : List Frame} {meth : Method} {c : Code} {G : Gp} {O : Int64} (C : Cx p s m args meth c cX9_lowest 11 RX9 (some .long) G) {x0 : Int64} {x2 : Int64} {x4 : Int32} {μ : Mem} {q6 : Int64 → Int64 → Option Int64} (hq6 : ∀ (x5 : Int64) (x7 : Int64), q6 x5 x7 = some O → ∀ (H : Heap) (locs : List Loc) (ls : Array Slot), Wm G μ H → va_S (wA G) s.heap H locs → lv_has ls 11 [(0, .long x0), (2, .long x2), (4, .int x4), (5, .long x5), (7, .long x7)] → W p l e (rmm 0 0) s m args below meth c H locs 0 0 (QL below args s G (O, μ)) (F0 m 6 ls [])) : ∀ (x5 : Int64) (x7 : Int64), g_X9_lowest_6 x0 x2 x4 μ q6 x5 x7 = some O → ∀ (H : Heap) (locs : List Loc) (ls : Array Slot), Wm G μ H → va_S (wA G) s.heap H locs → lv_has ls 11 [(0, .long x0), (2, .long x2), (4, .int x4), (5, .long x5), (7, .long x7)] → W p l e (rmm 0 0) s m args below meth c H locs 0 0 (QL below args s G (O, μ)) (F0 m 6 ls []) := by
  intro x5 x7 h H locs ls hP hS hl
  unfold g_X9_lowest_6 at h
  refine lv_lload C.x C.b dX9_lowest_6 (lv_at hl 4 rfl) ?_
  refine lv_lconst (v := 0) C.x C.b dX9_lowest_8 (by decide) ?_
  refine W.lcmp C.x C.b dX9_lowest_9 ?_
  refine lv_if_eq (tgt := 31) C.x C.b dX9_lowest_10 (by decide) (fun c1 => ?_) (fun c1 => ?_)
  · have h := (if_pos c1).symm.trans h
    refine lv_iload C.x C.b dX9_lowest_31 (lv_at hl 2 rfl) ?_
    refine lv_if_ne (tgt := 40) C.x C.b dX9_lowest_33 (by decide) (fun c2 => ?_) (fun c2 => ?_)
    · have h := (if_neg c2).symm.trans h
      refine lv_lload_n C.x C.b dX9_lowest_40 rfl (lv_at hl 1 rfl) ?_
      refine lv_lload C.x C.b dX9_lowest_41 (lv_at hl 3 rfl) ?_
      obtain ⟨g3, h⟩ := grd_some h
      refine lv_ldiv C.x C.b dX9_lowest_43 (of_decide_eq_true g3) ?_
      exact r_l (pr_some h) C hP hS dX9_lowest_44
    · have h := (if_pos c2).symm.trans h
      refine lv_lload_n C.x C.b dX9_lowest_36 rfl (lv_at hl 0 rfl) ?_
      refine lv_goto (tgt := 41) C.x C.b dX9_lowest_37 (by decide) ?_
      refine lv_lload C.x C.b dX9_lowest_41 (lv_at hl 3 rfl) ?_
      obtain ⟨g4, h⟩ := grd_some h
      refine lv_ldiv C.x C.b dX9_lowest_43 (of_decide_eq_true g4) ?_
      exact r_l (pr_some h) C hP hS dX9_lowest_44
  · have h := (if_neg c1).symm.trans h
    refine lv_lload C.x C.b dX9_lowest_13 (lv_at hl 3 rfl) ?_
    refine lv_lload C.x C.b dX9_lowest_15 (lv_at hl 4 rfl) ?_
    obtain ⟨g5, h⟩ := grd_some h
    refine lv_lrem C.x C.b dX9_lowest_17 (of_decide_eq_true g5) ?_
    refine lv_topl (fun y6 e_y6 => ?_)
    have h := lt_at h e_y6
    refine lv_lstore (lv' := [(9, .long y6), (0, .long x0), (2, .long x2), (4, .int x4), (5, .long x5), (7, .long x7)]) C.x C.b dX9_lowest_18 hl (by decide) rfl (fun ls hl => ?_)
    refine lv_lload C.x C.b dX9_lowest_20 (lv_at hl 5 rfl) ?_
    refine lv_lstore (lv' := [(5, .long x7), (9, .long y6), (0, .long x0), (2, .long x2), (4, .int x4), (7, .long x7)]) C.x C.b dX9_lowest_22 hl (by decide) rfl (fun ls hl => ?_)
    refine lv_lload C.x C.b dX9_lowest_24 (lv_at hl 1 rfl) ?_
    refine lv_lstore (lv' := [(7, .long y6), (5, .long x7), (9, .long y6), (0, .long x0), (2, .long x2), (4, .int x4)]) C.x C.b dX9_lowest_26 hl (by decide) rfl (fun ls hl => ?_)
    refine lv_goto (tgt := 6) C.x C.b dX9_lowest_28 (by decide) ?_
    exact hq6 x7 y6 h _ _ _ hP hS (lv_sub hl [3, 4, 5, 1, 0] rfl)

set_option maxRecDepth 100000 in
set_option maxHeartbeats 4000000 in
theorem b_X9_lowest_6 {p : Program} {l : Launch} {e : Env} {s : State} {m : MethodId} {args : Array Value} {below : List Frame} {meth : Method} {c : Code} {G : Gp} {O : Int64} (C : Cx p s m args meth c cX9_lowest 11 RX9 (some .long) G) {x0 : Int64} {x2 : Int64} {x4 : Int32} {μ : Mem} : ∀ (n : Nat) (x5 : Int64) (x7 : Int64), f_X9_lowest_6 x0 x2 x4 μ n x5 x7 = some O → ∀ (H : Heap) (locs : List Loc) (ls : Array Slot), Wm G μ H → va_S (wA G) s.heap H locs → lv_has ls 11 [(0, .long x0), (2, .long x2), (4, .int x4), (5, .long x5), (7, .long x7)] → W p l e (rmm 0 0) s m args below meth c H locs 0 0 (QL below args s G (O, μ)) (F0 m 6 ls []) := by
  intro n
  induction n with
  | zero => intro x5 x7 h; cases h
  | succ n ih => intro x5 x7 h; exact w_X9_lowest_6 C (q6 := f_X9_lowest_6 x0 x2 x4 μ n) ih x5 x7 h

def f_X9_lowest (x0 : Int64) (x2 : Int64) (x4 : Int32) (μ : Mem) : Option Int64 := f_X9_lowest_6 x0 x2 x4 μ FU x0 x2
set_option maxRecDepth 100000 in
set_option maxHeartbeats 4000000 in
theorem b_X9_lowest {p : Program} {l : Launch} {e : Env} {s : State} {m : MethodId} {args : Array Value} {below : List Frame} {meth : Method} {c : Code} {G : Gp} {O : Int64} (C : Cx p s m args meth c cX9_lowest 11 RX9 (some .long) G) {x0 : Int64} {x2 : Int64} {x4 : Int32} {μ : Mem} (h : f_X9_lowest x0 x2 x4 μ = some O) : ∀ (H : Heap) (locs : List Loc) (ls : Array Slot), Wm G μ H → va_S (wA G) s.heap H locs → lv_has ls 11 [(0, .long x0), (2, .long x2), (4, .int x4)] → W p l e (rmm 0 0) s m args below meth c H locs 0 0 (QL below args s G (O, μ)) (F0 m 0 ls []) := by
  unfold f_X9_lowest at h
  intro H locs ls hP hS hl
  refine lv_lload_n C.x C.b dX9_lowest_0 rfl (lv_at hl 0 rfl) ?_
  refine lv_lstore (lv' := [(5, .long x0), (0, .long x0), (2, .long x2), (4, .int x4)]) C.x C.b dX9_lowest_1 hl (by decide) rfl (fun ls hl => ?_)
  refine lv_lload_n C.x C.b dX9_lowest_3 rfl (lv_at hl 2 rfl) ?_
  refine lv_lstore (lv' := [(7, .long x2), (5, .long x0), (0, .long x0), (2, .long x2), (4, .int x4)]) C.x C.b dX9_lowest_4 hl (by decide) rfl (fun ls hl => ?_)
  exact b_X9_lowest_6 C FU x0 x2 h _ _ _ hP hS (lv_sub hl [2, 3, 4, 1, 0] rfl)

set_option maxRecDepth 100000 in
set_option maxHeartbeats 4000000 in
theorem c_X9_lowest {l : Launch} {G : Gp} (hI : Wi G) {x0 : Int64} {x2 : Int64} {x4 : Int32} {μ : Mem} {r : Int64} (h : f_X9_lowest x0 x2 x4 μ = some r) : CL l yX9_lowest cX9_lowest 11 (some .long) 0 0 G [.long x0, .long x2, .int x4] μ r μ :=
  e_all (lv := [(0, .long x0), (2, .long x2), (4, .int x4)]) hI (by decide) (Nat.le_of_ble_eq_true rfl) rfl (fun p e s m args below meth c ls C hP hS hl => b_X9_lowest C h _ _ _ hP hS hl)


def g_X9_odds_45 (x1 : Int32) (x2 : Int32) (x3 : Int32)  (q45 : Int32 → Int32 → Int32 → Mem → Option (Int64 × Mem)) (x4 : Int32) (x5 : Int32) (x6 : Int32) (μ : Mem) : Option (Int64 × Mem) := if 100 ≤ x6 then (bnv (f_X9_forgets μ) (fun μ3 => grd (inb ((5 * x1) + x2) 25) (lt (st μ3 126 ((5 * x1) + x2).toNatClampNeg x4) (fun μ5 => bnv (f_X9_lowest (Int32.toInt64 x5) 10 x3 μ5) (fun r7 => some (r7, μ5)))))) else (grd (inb ((5 * x1) + x2) 25) (lt (st μ 126 ((5 * x1) + x2).toNatClampNeg x6) (fun μ9 => bnd (f_X9_thinks 1 1 μ9) (fun r11 μ12 => if r11 < 0 then (lt (x5 + 0) (fun y14 => lt (x6 + 10) (fun y15 => q45 x4 y14 y15 μ12))) else (grd (inb ((6 * x1) + x2) 36) (if (μ12.1 128 ((6 * x1) + x2).toNatClampNeg) ≤ 0 then (lt (x5 + 0) (fun y18 => lt (x6 + 10) (fun y19 => q45 x4 y18 y19 μ12))) else (lt (x5 + 1) (fun y20 => lt (x6 + 10) (fun y21 => q45 x4 y20 y21 μ12)))))))))
def f_X9_odds_45 (x1 : Int32) (x2 : Int32) (x3 : Int32)  : Nat → Int32 → Int32 → Int32 → Mem → Option (Int64 × Mem)
  | 0, _, _, _, _ => none
  | n + 1, x4, x5, x6, μ => g_X9_odds_45 x1 x2 x3 (f_X9_odds_45 x1 x2 x3 n) x4 x5 x6 μ
set_option maxRecDepth 100000 in
set_option maxHeartbeats 4000000 in
theorem w_X9_odds_45 {p : Program} {l : Launch} {e : Env} {s : State} {m : MethodId} {args : Array Value} {below : List Frame} {meth : Method} {c : Code} {G : Gp} {O : (Int64 × Mem)} (C : Cx p s m args meth c cX9_odds 7 RX9 (some .long) G) {x1 : Int32} {x2 : Int32} {x3 : Int32} {q45 : Int32 → Int32 → Int32 → Mem → Option (Int64 × Mem)} (hq45 : ∀ (x4 : Int32) (x5 : Int32) (x6 : Int32) (μ : Mem), q45 x4 x5 x6 μ = some O → ∀ (H : Heap) (locs : List Loc) (ls : Array Slot), Wm G μ H → va_S (wA G) s.heap H locs → lv_has ls 7 [(0, .ref (G.2.2 122)), (1, .int x1), (2, .int x2), (3, .int x3), (4, .int x4), (5, .int x5), (6, .int x6)] → W p l e (rmm 6 140) s m args below meth c H locs 0 0 (QL below args s G O) (F0 m 45 ls [])) : ∀ (x4 : Int32) (x5 : Int32) (x6 : Int32) (μ : Mem), g_X9_odds_45 x1 x2 x3 q45 x4 x5 x6 μ = some O → ∀ (H : Heap) (locs : List Loc) (ls : Array Slot), Wm G μ H → va_S (wA G) s.heap H locs → lv_has ls 7 [(0, .ref (G.2.2 122)), (1, .int x1), (2, .int x2), (3, .int x3), (4, .int x4), (5, .int x5), (6, .int x6)] → W p l e (rmm 6 140) s m args below meth c H locs 0 0 (QL below args s G O) (F0 m 45 ls []) := by
  intro x4 x5 x6 μ h H locs ls hP hS hl
  unfold g_X9_odds_45 at h
  refine lv_iload C.x C.b dX9_odds_45 (lv_at hl 6 rfl) ?_
  refine lv_bipush (v := 100) C.x C.b dX9_odds_47 (by decide) ?_
  refine lv_icmp_ge (tgt := 103) C.x C.b dX9_odds_49 (by decide) (fun c1 => ?_) (fun c1 => ?_)
  · have h := (if_pos c1).symm.trans h
    refine lv_aload_n C.x C.b dX9_odds_103 rfl (lv_at hl 0 rfl) ?_
    obtain ⟨μ3, e2, h⟩ := bnv_some h
    refine k_vv (k := 122) (as := []) (rest := []) (c_X9_forgets C.i e2) M_X9_forgets u6_62 C hP hS sh_122 rfl rfl (by decide) hl.1 rfl (Nat.le_of_ble_eq_true rfl) dX9_odds_104 (fun H locs hP hS => ?_)
    refine lv_aload_n C.x C.b dX9_odds_107 rfl (lv_at hl 0 rfl) ?_
    refine g_ref (k' := 126) F_9_5 u4_134 C hP sh_122 rfl dX9_odds_108 ?_
    refine lv_iconst (v := 5) C.x C.b dX9_odds_111 (by decide) ?_
    refine lv_iload_n C.x C.b dX9_odds_112 rfl (lv_at hl 1 rfl) ?_
    refine lv_imul C.x C.b dX9_odds_113 ?_
    refine lv_iload_n C.x C.b dX9_odds_114 rfl (lv_at hl 2 rfl) ?_
    refine lv_iadd C.x C.b dX9_odds_115 ?_
    refine lv_iload C.x C.b dX9_odds_116 (lv_at hl 4 rfl) ?_
    obtain ⟨g4, h⟩ := grd_some h
    refine as_i C hP hS sh_126 g4 dX9_odds_118 (fun H locs hP hS => ?_)
    obtain ⟨μ5, m_μ5, h⟩ := lt_ex h
    have hP : Wm G μ5 H := by rw [m_μ5]; exact hP
    refine lv_iload C.x C.b dX9_odds_119 (lv_at hl 5 rfl) ?_
    refine lv_i2l (v := Int32.toInt64 x5) C.x C.b dX9_odds_121 rfl ?_
    refine lv_ldc2 (own := RX9) (v := 10) C.x C.b C.o (C.t _ u6_119) dX9_odds_122 ?_
    refine lv_iload_n C.x C.b dX9_odds_125 rfl (lv_at hl 3 rfl) ?_
    obtain ⟨r7, e6, h⟩ := bnv_some h
    refine k_sl (as := [.long (Int32.toInt64 x5), .long 10, .int x3]) (rest := []) (c_X9_lowest C.i e6) M_X9_lowest u6_120 C hP hS rfl (by decide) hl.1 rfl (Nat.le_of_ble_eq_true rfl) dX9_odds_126 (fun H locs hP hS => ?_)
    exact r_l h C hP hS dX9_odds_129
  · have h := (if_neg c1).symm.trans h
    refine lv_aload_n C.x C.b dX9_odds_52 rfl (lv_at hl 0 rfl) ?_
    refine g_ref (k' := 126) F_9_5 u4_134 C hP sh_122 rfl dX9_odds_53 ?_
    refine lv_iconst (v := 5) C.x C.b dX9_odds_56 (by decide) ?_
    refine lv_iload_n C.x C.b dX9_odds_57 rfl (lv_at hl 1 rfl) ?_
    refine lv_imul C.x C.b dX9_odds_58 ?_
    refine lv_iload_n C.x C.b dX9_odds_59 rfl (lv_at hl 2 rfl) ?_
    refine lv_iadd C.x C.b dX9_odds_60 ?_
    refine lv_iload C.x C.b dX9_odds_61 (lv_at hl 6 rfl) ?_
    obtain ⟨g8, h⟩ := grd_some h
    refine as_i C hP hS sh_126 g8 dX9_odds_63 (fun H locs hP hS => ?_)
    obtain ⟨μ9, m_μ9, h⟩ := lt_ex h
    have hP : Wm G μ9 H := by rw [m_μ9]; exact hP
    refine lv_iload C.x C.b dX9_odds_64 (lv_at hl 5 rfl) ?_
    refine lv_aload_n C.x C.b dX9_odds_66 rfl (lv_at hl 0 rfl) ?_
    refine lv_iconst (v := 1) C.x C.b dX9_odds_67 (by decide) ?_
    refine lv_iconst (v := 1) C.x C.b dX9_odds_68 (by decide) ?_
    obtain ⟨r11, μ12, e10, h⟩ := bnd_some h
    refine k_vi (k := 122) (as := [.int 1, .int 1]) (rest := [.int x5]) (c_X9_thinks C.i e10) M_X9_thinks u6_58 C hP hS sh_122 rfl rfl (by decide) hl.1 rfl (Nat.le_of_ble_eq_true rfl) dX9_odds_69 (fun H locs hP hS => ?_)
    refine lv_if_lt (tgt := 93) C.x C.b dX9_odds_72 (by decide) (fun c13 => ?_) (fun c13 => ?_)
    · have h := (if_pos c13).symm.trans h
      refine lv_iconst (v := 0) C.x C.b dX9_odds_93 (by decide) ?_
      refine lv_iadd C.x C.b dX9_odds_94 ?_
      refine lv_topi (fun y14 e_y14 => ?_)
      have h := lt_at h e_y14
      refine lv_istore (lv' := [(5, .int y14), (0, .ref (G.2.2 122)), (1, .int x1), (2, .int x2), (3, .int x3), (4, .int x4), (6, .int x6)]) C.x C.b dX9_odds_95 hl (by decide) rfl (fun ls hl => ?_)
      obtain ⟨y15, e_y15, h⟩ := lt_ex h
      refine lv_iinc (v := y15) (lv' := [(6, .int y15), (5, .int y14), (0, .ref (G.2.2 122)), (1, .int x1), (2, .int x2), (3, .int x3), (4, .int x4)]) C.x C.b dX9_odds_97 hl (k := 6) rfl (by rw [e_y15]; rfl) (by decide) rfl (fun ls hl => ?_)
      refine lv_goto (tgt := 45) C.x C.b dX9_odds_100 (by decide) ?_
      exact hq45 x4 y14 y15 μ12 h _ _ _ hP hS (lv_sub hl [2, 3, 4, 5, 6, 1, 0] rfl)
    · have h := (if_neg c13).symm.trans h
      refine lv_aload_n C.x C.b dX9_odds_75 rfl (lv_at hl 0 rfl) ?_
      refine g_ref (k' := 128) F_9_11 u4_140 C hP sh_122 rfl dX9_odds_76 ?_
      refine lv_bipush (v := 6) C.x C.b dX9_odds_79 (by decide) ?_
      refine lv_iload_n C.x C.b dX9_odds_81 rfl (lv_at hl 1 rfl) ?_
      refine lv_imul C.x C.b dX9_odds_82 ?_
      refine lv_iload_n C.x C.b dX9_odds_83 rfl (lv_at hl 2 rfl) ?_
      refine lv_iadd C.x C.b dX9_odds_84 ?_
      obtain ⟨g16, h⟩ := grd_some h
      refine a_i C hP sh_128 g16 dX9_odds_85 ?_
      refine lv_if_le (tgt := 93) C.x C.b dX9_odds_86 (by decide) (fun c17 => ?_) (fun c17 => ?_)
      · have h := (if_pos c17).symm.trans h
        refine lv_iconst (v := 0) C.x C.b dX9_odds_93 (by decide) ?_
        refine lv_iadd C.x C.b dX9_odds_94 ?_
        refine lv_topi (fun y18 e_y18 => ?_)
        have h := lt_at h e_y18
        refine lv_istore (lv' := [(5, .int y18), (0, .ref (G.2.2 122)), (1, .int x1), (2, .int x2), (3, .int x3), (4, .int x4), (6, .int x6)]) C.x C.b dX9_odds_95 hl (by decide) rfl (fun ls hl => ?_)
        obtain ⟨y19, e_y19, h⟩ := lt_ex h
        refine lv_iinc (v := y19) (lv' := [(6, .int y19), (5, .int y18), (0, .ref (G.2.2 122)), (1, .int x1), (2, .int x2), (3, .int x3), (4, .int x4)]) C.x C.b dX9_odds_97 hl (k := 6) rfl (by rw [e_y19]; rfl) (by decide) rfl (fun ls hl => ?_)
        refine lv_goto (tgt := 45) C.x C.b dX9_odds_100 (by decide) ?_
        exact hq45 x4 y18 y19 μ12 h _ _ _ hP hS (lv_sub hl [2, 3, 4, 5, 6, 1, 0] rfl)
      · have h := (if_neg c17).symm.trans h
        refine lv_iconst (v := 1) C.x C.b dX9_odds_89 (by decide) ?_
        refine lv_goto (tgt := 94) C.x C.b dX9_odds_90 (by decide) ?_
        refine lv_iadd C.x C.b dX9_odds_94 ?_
        refine lv_topi (fun y20 e_y20 => ?_)
        have h := lt_at h e_y20
        refine lv_istore (lv' := [(5, .int y20), (0, .ref (G.2.2 122)), (1, .int x1), (2, .int x2), (3, .int x3), (4, .int x4), (6, .int x6)]) C.x C.b dX9_odds_95 hl (by decide) rfl (fun ls hl => ?_)
        obtain ⟨y21, e_y21, h⟩ := lt_ex h
        refine lv_iinc (v := y21) (lv' := [(6, .int y21), (5, .int y20), (0, .ref (G.2.2 122)), (1, .int x1), (2, .int x2), (3, .int x3), (4, .int x4)]) C.x C.b dX9_odds_97 hl (k := 6) rfl (by rw [e_y21]; rfl) (by decide) rfl (fun ls hl => ?_)
        refine lv_goto (tgt := 45) C.x C.b dX9_odds_100 (by decide) ?_
        exact hq45 x4 y20 y21 μ12 h _ _ _ hP hS (lv_sub hl [2, 3, 4, 5, 6, 1, 0] rfl)

set_option maxRecDepth 100000 in
set_option maxHeartbeats 4000000 in
theorem b_X9_odds_45 {p : Program} {l : Launch} {e : Env} {s : State} {m : MethodId} {args : Array Value} {below : List Frame} {meth : Method} {c : Code} {G : Gp} {O : (Int64 × Mem)} (C : Cx p s m args meth c cX9_odds 7 RX9 (some .long) G) {x1 : Int32} {x2 : Int32} {x3 : Int32} : ∀ (n : Nat) (x4 : Int32) (x5 : Int32) (x6 : Int32) (μ : Mem), f_X9_odds_45 x1 x2 x3 n x4 x5 x6 μ = some O → ∀ (H : Heap) (locs : List Loc) (ls : Array Slot), Wm G μ H → va_S (wA G) s.heap H locs → lv_has ls 7 [(0, .ref (G.2.2 122)), (1, .int x1), (2, .int x2), (3, .int x3), (4, .int x4), (5, .int x5), (6, .int x6)] → W p l e (rmm 6 140) s m args below meth c H locs 0 0 (QL below args s G O) (F0 m 45 ls []) := by
  intro n
  induction n with
  | zero => intro x4 x5 x6 μ h; cases h
  | succ n ih => intro x4 x5 x6 μ h; exact w_X9_odds_45 C (q45 := f_X9_odds_45 x1 x2 x3 n) ih x4 x5 x6 μ h

def f_X9_odds (x1 : Int32) (x2 : Int32) (x3 : Int32) (μ : Mem) : Option (Int64 × Mem) := bnv (f_X9_isRoad x1 x2 μ) (fun r2 => if r2 = 0 then (some ((-9223372036854775808), μ)) else (bnv (f_X9_in (Int32.toInt64 x3) 0 1 μ) (fun r5 => if r5 = 0 then (some ((-9223372036854775808), μ)) else (grd (inb ((5 * x1) + x2) 25) (lt (μ.1 126 ((5 * x1) + x2).toNatClampNeg) (fun y8 => bnv (f_X9_minds μ) (fun μ10 => f_X9_odds_45 x1 x2 x3 FU y8 0 0 μ10)))))))
set_option maxRecDepth 100000 in
set_option maxHeartbeats 4000000 in
theorem b_X9_odds {p : Program} {l : Launch} {e : Env} {s : State} {m : MethodId} {args : Array Value} {below : List Frame} {meth : Method} {c : Code} {G : Gp} {O : (Int64 × Mem)} (C : Cx p s m args meth c cX9_odds 7 RX9 (some .long) G) {x1 : Int32} {x2 : Int32} {x3 : Int32} {μ : Mem} (h : f_X9_odds x1 x2 x3 μ = some O) : ∀ (H : Heap) (locs : List Loc) (ls : Array Slot), Wm G μ H → va_S (wA G) s.heap H locs → lv_has ls 7 [(0, .ref (G.2.2 122)), (1, .int x1), (2, .int x2), (3, .int x3)] → W p l e (rmm 6 140) s m args below meth c H locs 0 0 (QL below args s G O) (F0 m 0 ls []) := by
  unfold f_X9_odds at h
  intro H locs ls hP hS hl
  refine lv_aload_n C.x C.b dX9_odds_0 rfl (lv_at hl 0 rfl) ?_
  refine lv_iload_n C.x C.b dX9_odds_1 rfl (lv_at hl 1 rfl) ?_
  refine lv_iload_n C.x C.b dX9_odds_2 rfl (lv_at hl 2 rfl) ?_
  obtain ⟨r2, e1, h⟩ := bnv_some h
  refine k_vi (k := 122) (as := [.int x1, .int x2]) (rest := []) (c_X9_isRoad C.i e1) M_X9_isRoad u5_101 C hP hS sh_122 rfl rfl (by decide) hl.1 rfl (Nat.le_of_ble_eq_true rfl) dX9_odds_3 (fun H locs hP hS => ?_)
  refine lv_if_eq (tgt := 19) C.x C.b dX9_odds_6 (by decide) (fun c3 => ?_) (fun c3 => ?_)
  · have h := (if_pos c3).symm.trans h
    refine lv_ldc2 (own := RX9) (v := (-9223372036854775808)) C.x C.b C.o (C.t _ u6_17) dX9_odds_19 ?_
    exact r_l h C hP hS dX9_odds_22
  · have h := (if_neg c3).symm.trans h
    refine lv_iload_n C.x C.b dX9_odds_9 rfl (lv_at hl 3 rfl) ?_
    refine lv_i2l (v := Int32.toInt64 x3) C.x C.b dX9_odds_10 rfl ?_
    refine lv_lconst (v := 0) C.x C.b dX9_odds_11 (by decide) ?_
    refine lv_lconst (v := 1) C.x C.b dX9_odds_12 (by decide) ?_
    obtain ⟨r5, e4, h⟩ := bnv_some h
    refine k_si (as := [.long (Int32.toInt64 x3), .long 0, .long 1]) (rest := []) (c_X9_in C.i e4) M_X9_in u5_72 C hP hS rfl (by decide) hl.1 rfl (Nat.le_of_ble_eq_true rfl) dX9_odds_13 (fun H locs hP hS => ?_)
    refine lv_if_ne (tgt := 23) C.x C.b dX9_odds_16 (by decide) (fun c6 => ?_) (fun c6 => ?_)
    · have h := (if_neg c6).symm.trans h
      refine lv_aload_n C.x C.b dX9_odds_23 rfl (lv_at hl 0 rfl) ?_
      refine g_ref (k' := 126) F_9_5 u4_134 C hP sh_122 rfl dX9_odds_24 ?_
      refine lv_iconst (v := 5) C.x C.b dX9_odds_27 (by decide) ?_
      refine lv_iload_n C.x C.b dX9_odds_28 rfl (lv_at hl 1 rfl) ?_
      refine lv_imul C.x C.b dX9_odds_29 ?_
      refine lv_iload_n C.x C.b dX9_odds_30 rfl (lv_at hl 2 rfl) ?_
      refine lv_iadd C.x C.b dX9_odds_31 ?_
      obtain ⟨g7, h⟩ := grd_some h
      refine a_i C hP sh_126 g7 dX9_odds_32 ?_
      refine lv_topi (fun y8 e_y8 => ?_)
      have h := lt_at h e_y8
      refine lv_istore (lv' := [(4, .int y8), (0, .ref (G.2.2 122)), (1, .int x1), (2, .int x2), (3, .int x3)]) C.x C.b dX9_odds_33 hl (by decide) rfl (fun ls hl => ?_)
      refine lv_iconst (v := 0) C.x C.b dX9_odds_35 (by decide) ?_
      refine lv_istore (lv' := [(5, .int 0), (4, .int y8), (0, .ref (G.2.2 122)), (1, .int x1), (2, .int x2), (3, .int x3)]) C.x C.b dX9_odds_36 hl (by decide) rfl (fun ls hl => ?_)
      refine lv_aload_n C.x C.b dX9_odds_38 rfl (lv_at hl 2 rfl) ?_
      obtain ⟨μ10, e9, h⟩ := bnv_some h
      refine k_vv (k := 122) (as := []) (rest := []) (c_X9_minds C.i e9) M_X9_minds u6_50 C hP hS sh_122 rfl rfl (by decide) hl.1 rfl (Nat.le_of_ble_eq_true rfl) dX9_odds_39 (fun H locs hP hS => ?_)
      refine lv_iconst (v := 0) C.x C.b dX9_odds_42 (by decide) ?_
      refine lv_istore (lv' := [(6, .int 0), (5, .int 0), (4, .int y8), (0, .ref (G.2.2 122)), (1, .int x1), (2, .int x2), (3, .int x3)]) C.x C.b dX9_odds_43 hl (by decide) rfl (fun ls hl => ?_)
      exact b_X9_odds_45 C FU y8 0 0 μ10 h _ _ _ hP hS (lv_sub hl [3, 4, 5, 6, 2, 1, 0] rfl)
    · have h := (if_pos c6).symm.trans h
      refine lv_ldc2 (own := RX9) (v := (-9223372036854775808)) C.x C.b C.o (C.t _ u6_17) dX9_odds_19 ?_
      exact r_l h C hP hS dX9_odds_22

set_option maxRecDepth 100000 in
set_option maxHeartbeats 4000000 in
theorem c_X9_odds {l : Launch} {G : Gp} (hI : Wi G) {x1 : Int32} {x2 : Int32} {x3 : Int32} {μ : Mem} {r : Int64} {μ' : Mem} (h : f_X9_odds x1 x2 x3 μ = some (r, μ')) : CL l yX9_odds cX9_odds 7 (some .long) 6 140 G [.ref (G.2.2 122), .int x1, .int x2, .int x3] μ r μ' :=
  e_all (lv := [(0, .ref (G.2.2 122)), (1, .int x1), (2, .int x2), (3, .int x3)]) hI (by decide) (Nat.le_of_ble_eq_true rfl) rfl (fun p e s m args below meth c ls C hP hS hl => b_X9_odds C h _ _ _ hP hS hl)


def g_X9_mean_4 (x1 : Int32)  (μ : Mem) (q4 : Int32 → Int32 → Option Int64) (x2 : Int32) (x3 : Int32) : Option Int64 := if 36 ≤ x3 then (if (μ.1 122 6) = 1 then (if x2 ≤ 0 then (some ((-9223372036854775808))) else (bnv (f_X9_in (Int32.toInt64 x1) 0 1 μ) (fun r5 => if r5 = 0 then (some ((-9223372036854775808))) else (bnv (f_X9_total μ) (fun r8 => bnv (f_X9_lowest (Int32.toInt64 r8) (Int32.toInt64 x2) x1 μ) (fun r10 => some r10)))))) else (some ((-9223372036854775808)))) else (grd (inb x3 36) (lt (x2 + (μ.1 128 x3.toNatClampNeg)) (fun y12 => lt (x3 + 1) (fun y13 => q4 y12 y13))))
def f_X9_mean_4 (x1 : Int32)  (μ : Mem) : Nat → Int32 → Int32 → Option Int64
  | 0, _, _ => none
  | n + 1, x2, x3 => g_X9_mean_4 x1 μ (f_X9_mean_4 x1 μ n) x2 x3
set_option maxRecDepth 100000 in
set_option maxHeartbeats 4000000 in
theorem w_X9_mean_4 {p : Program} {l : Launch} {e : Env} {s : State} {m : MethodId} {args : Array Value} {below : List Frame} {meth : Method} {c : Code} {G : Gp} {O : Int64} (C : Cx p s m args meth c cX9_mean 4 RX9 (some .long) G) {x1 : Int32} {μ : Mem} {q4 : Int32 → Int32 → Option Int64} (hq4 : ∀ (x2 : Int32) (x3 : Int32), q4 x2 x3 = some O → ∀ (H : Heap) (locs : List Loc) (ls : Array Slot), Wm G μ H → va_S (wA G) s.heap H locs → lv_has ls 4 [(0, .ref (G.2.2 122)), (1, .int x1), (2, .int x2), (3, .int x3)] → W p l e (rmm 1 30) s m args below meth c H locs 0 0 (QL below args s G (O, μ)) (F0 m 4 ls [])) : ∀ (x2 : Int32) (x3 : Int32), g_X9_mean_4 x1 μ q4 x2 x3 = some O → ∀ (H : Heap) (locs : List Loc) (ls : Array Slot), Wm G μ H → va_S (wA G) s.heap H locs → lv_has ls 4 [(0, .ref (G.2.2 122)), (1, .int x1), (2, .int x2), (3, .int x3)] → W p l e (rmm 1 30) s m args below meth c H locs 0 0 (QL below args s G (O, μ)) (F0 m 4 ls []) := by
  intro x2 x3 h H locs ls hP hS hl
  unfold g_X9_mean_4 at h
  refine lv_iload_n C.x C.b dX9_mean_4 rfl (lv_at hl 3 rfl) ?_
  refine lv_bipush (v := 36) C.x C.b dX9_mean_5 (by decide) ?_
  refine lv_icmp_ge (tgt := 25) C.x C.b dX9_mean_7 (by decide) (fun c1 => ?_) (fun c1 => ?_)
  · have h := (if_pos c1).symm.trans h
    refine lv_aload_n C.x C.b dX9_mean_25 rfl (lv_at hl 0 rfl) ?_
    refine g_int F_9_6 u4_135 C hP sh_122 dX9_mean_26 ?_
    refine lv_iconst (v := 1) C.x C.b dX9_mean_29 (by decide) ?_
    refine lv_icmp_ne (tgt := 61) C.x C.b dX9_mean_30 (by decide) (fun c2 => ?_) (fun c2 => ?_)
    · have h := (if_neg c2).symm.trans h
      refine lv_ldc2 (own := RX9) (v := (-9223372036854775808)) C.x C.b C.o (C.t _ u6_17) dX9_mean_61 ?_
      exact r_l (pr_some h) C hP hS dX9_mean_64
    · have h := (if_pos c2).symm.trans h
      refine lv_iload_n C.x C.b dX9_mean_33 rfl (lv_at hl 2 rfl) ?_
      refine lv_if_le (tgt := 61) C.x C.b dX9_mean_34 (by decide) (fun c3 => ?_) (fun c3 => ?_)
      · have h := (if_pos c3).symm.trans h
        refine lv_ldc2 (own := RX9) (v := (-9223372036854775808)) C.x C.b C.o (C.t _ u6_17) dX9_mean_61 ?_
        exact r_l (pr_some h) C hP hS dX9_mean_64
      · have h := (if_neg c3).symm.trans h
        refine lv_iload_n C.x C.b dX9_mean_37 rfl (lv_at hl 1 rfl) ?_
        refine lv_i2l (v := Int32.toInt64 x1) C.x C.b dX9_mean_38 rfl ?_
        refine lv_lconst (v := 0) C.x C.b dX9_mean_39 (by decide) ?_
        refine lv_lconst (v := 1) C.x C.b dX9_mean_40 (by decide) ?_
        obtain ⟨r5, e4, h⟩ := bnv_some h
        refine k_si (as := [.long (Int32.toInt64 x1), .long 0, .long 1]) (rest := []) (c_X9_in C.i e4) M_X9_in u5_72 C hP hS rfl (by decide) hl.1 rfl (Nat.le_of_ble_eq_true rfl) dX9_mean_41 (fun H locs hP hS => ?_)
        refine lv_if_eq (tgt := 61) C.x C.b dX9_mean_44 (by decide) (fun c6 => ?_) (fun c6 => ?_)
        · have h := (if_pos c6).symm.trans h
          refine lv_ldc2 (own := RX9) (v := (-9223372036854775808)) C.x C.b C.o (C.t _ u6_17) dX9_mean_61 ?_
          exact r_l (pr_some h) C hP hS dX9_mean_64
        · have h := (if_neg c6).symm.trans h
          refine lv_aload_n C.x C.b dX9_mean_47 rfl (lv_at hl 0 rfl) ?_
          obtain ⟨r8, e7, h⟩ := bnv_some h
          refine k_vi (k := 122) (as := []) (rest := []) (c_X9_total C.i e7) M_X9_total u5_192 C hP hS sh_122 rfl rfl (by decide) hl.1 rfl (Nat.le_of_ble_eq_true rfl) dX9_mean_48 (fun H locs hP hS => ?_)
          refine lv_i2l (v := Int32.toInt64 r8) C.x C.b dX9_mean_51 rfl ?_
          refine lv_iload_n C.x C.b dX9_mean_52 rfl (lv_at hl 2 rfl) ?_
          refine lv_i2l (v := Int32.toInt64 x2) C.x C.b dX9_mean_53 rfl ?_
          refine lv_iload_n C.x C.b dX9_mean_54 rfl (lv_at hl 1 rfl) ?_
          obtain ⟨r10, e9, h⟩ := bnv_some h
          refine k_sl (as := [.long (Int32.toInt64 r8), .long (Int32.toInt64 x2), .int x1]) (rest := []) (c_X9_lowest C.i e9) M_X9_lowest u6_120 C hP hS rfl (by decide) hl.1 rfl (Nat.le_of_ble_eq_true rfl) dX9_mean_55 (fun H locs hP hS => ?_)
          refine lv_goto (tgt := 64) C.x C.b dX9_mean_58 (by decide) ?_
          exact r_l (pr_some h) C hP hS dX9_mean_64
  · have h := (if_neg c1).symm.trans h
    refine lv_iload_n C.x C.b dX9_mean_10 rfl (lv_at hl 2 rfl) ?_
    refine lv_aload_n C.x C.b dX9_mean_11 rfl (lv_at hl 0 rfl) ?_
    refine g_ref (k' := 128) F_9_11 u4_140 C hP sh_122 rfl dX9_mean_12 ?_
    refine lv_iload_n C.x C.b dX9_mean_15 rfl (lv_at hl 3 rfl) ?_
    obtain ⟨g11, h⟩ := grd_some h
    refine a_i C hP sh_128 g11 dX9_mean_16 ?_
    refine lv_iadd C.x C.b dX9_mean_17 ?_
    refine lv_topi (fun y12 e_y12 => ?_)
    have h := lt_at h e_y12
    refine lv_istore_n (lv' := [(2, .int y12), (0, .ref (G.2.2 122)), (1, .int x1), (3, .int x3)]) C.x C.b dX9_mean_18 rfl hl (by decide) rfl (fun ls hl => ?_)
    obtain ⟨y13, e_y13, h⟩ := lt_ex h
    refine lv_iinc (v := y13) (lv' := [(3, .int y13), (2, .int y12), (0, .ref (G.2.2 122)), (1, .int x1)]) C.x C.b dX9_mean_19 hl (k := 3) rfl (by rw [e_y13]; rfl) (by decide) rfl (fun ls hl => ?_)
    refine lv_goto (tgt := 4) C.x C.b dX9_mean_22 (by decide) ?_
    exact hq4 y12 y13 h _ _ _ hP hS (lv_sub hl [2, 3, 1, 0] rfl)

set_option maxRecDepth 100000 in
set_option maxHeartbeats 4000000 in
theorem b_X9_mean_4 {p : Program} {l : Launch} {e : Env} {s : State} {m : MethodId} {args : Array Value} {below : List Frame} {meth : Method} {c : Code} {G : Gp} {O : Int64} (C : Cx p s m args meth c cX9_mean 4 RX9 (some .long) G) {x1 : Int32} {μ : Mem} : ∀ (n : Nat) (x2 : Int32) (x3 : Int32), f_X9_mean_4 x1 μ n x2 x3 = some O → ∀ (H : Heap) (locs : List Loc) (ls : Array Slot), Wm G μ H → va_S (wA G) s.heap H locs → lv_has ls 4 [(0, .ref (G.2.2 122)), (1, .int x1), (2, .int x2), (3, .int x3)] → W p l e (rmm 1 30) s m args below meth c H locs 0 0 (QL below args s G (O, μ)) (F0 m 4 ls []) := by
  intro n
  induction n with
  | zero => intro x2 x3 h; cases h
  | succ n ih => intro x2 x3 h; exact w_X9_mean_4 C (q4 := f_X9_mean_4 x1 μ n) ih x2 x3 h

def f_X9_mean (x1 : Int32) (μ : Mem) : Option Int64 := f_X9_mean_4 x1 μ FU 0 0
set_option maxRecDepth 100000 in
set_option maxHeartbeats 4000000 in
theorem b_X9_mean {p : Program} {l : Launch} {e : Env} {s : State} {m : MethodId} {args : Array Value} {below : List Frame} {meth : Method} {c : Code} {G : Gp} {O : Int64} (C : Cx p s m args meth c cX9_mean 4 RX9 (some .long) G) {x1 : Int32} {μ : Mem} (h : f_X9_mean x1 μ = some O) : ∀ (H : Heap) (locs : List Loc) (ls : Array Slot), Wm G μ H → va_S (wA G) s.heap H locs → lv_has ls 4 [(0, .ref (G.2.2 122)), (1, .int x1)] → W p l e (rmm 1 30) s m args below meth c H locs 0 0 (QL below args s G (O, μ)) (F0 m 0 ls []) := by
  unfold f_X9_mean at h
  intro H locs ls hP hS hl
  refine lv_iconst (v := 0) C.x C.b dX9_mean_0 (by decide) ?_
  refine lv_istore_n (lv' := [(2, .int 0), (0, .ref (G.2.2 122)), (1, .int x1)]) C.x C.b dX9_mean_1 rfl hl (by decide) rfl (fun ls hl => ?_)
  refine lv_iconst (v := 0) C.x C.b dX9_mean_2 (by decide) ?_
  refine lv_istore_n (lv' := [(3, .int 0), (2, .int 0), (0, .ref (G.2.2 122)), (1, .int x1)]) C.x C.b dX9_mean_3 rfl hl (by decide) rfl (fun ls hl => ?_)
  exact b_X9_mean_4 C FU 0 0 h _ _ _ hP hS (lv_sub hl [2, 3, 1, 0] rfl)

set_option maxRecDepth 100000 in
set_option maxHeartbeats 4000000 in
theorem c_X9_mean {l : Launch} {G : Gp} (hI : Wi G) {x1 : Int32} {μ : Mem} {r : Int64} (h : f_X9_mean x1 μ = some r) : CL l yX9_mean cX9_mean 4 (some .long) 1 30 G [.ref (G.2.2 122), .int x1] μ r μ :=
  e_all (lv := [(0, .ref (G.2.2 122)), (1, .int x1)]) hI (by decide) (Nat.le_of_ble_eq_true rfl) rfl (fun p e s m args below meth c ls C hP hS hl => b_X9_mean C h _ _ _ hP hS hl)


def f_X9_order_68 (x1 : Int32) (x2 : Int32)   (μ : Mem) : Option (Int32 × Mem) := if (μ.1 122 21) = 8 then (some ((-4), μ)) else (grd (inb (μ.1 122 21) 8) (lt (st μ 133 (μ.1 122 21).toNatClampNeg x1) (fun μ3 => grd (inb (μ3.1 122 21) 8) (lt (st μ3 134 (μ3.1 122 21).toNatClampNeg x2) (fun μ5 => lt (st μ5 122 21 ((μ5.1 122 21) + 1)) (fun μ6 => some (μ6.1 122 21, μ6)))))))
set_option maxRecDepth 100000 in
set_option maxHeartbeats 4000000 in
theorem b_X9_order_68 {p : Program} {l : Launch} {e : Env} {s : State} {m : MethodId} {args : Array Value} {below : List Frame} {meth : Method} {c : Code} {G : Gp} {O : (Int32 × Mem)} (C : Cx p s m args meth c cX9_order 3 RX9 (some .int) G) {x1 : Int32} {x2 : Int32} : ∀ (μ : Mem), f_X9_order_68 x1 x2 μ = some O → ∀ (H : Heap) (locs : List Loc) (ls : Array Slot), Wm G μ H → va_S (wA G) s.heap H locs → lv_has ls 3 [(0, .ref (G.2.2 122)), (1, .int x1), (2, .int x2)] → W p l e (rmm 3 68) s m args below meth c H locs 0 0 (QI below args s G O) (F0 m 68 ls []) := by
  intro μ h H locs ls hP hS hl
  unfold f_X9_order_68 at h
  refine lv_aload_n C.x C.b dX9_order_68 rfl (lv_at hl 0 rfl) ?_
  refine g_int F_9_21 u4_150 C hP sh_122 dX9_order_69 ?_
  refine lv_bipush (v := 8) C.x C.b dX9_order_72 (by decide) ?_
  refine lv_icmp_ne (tgt := 80) C.x C.b dX9_order_74 (by decide) (fun c1 => ?_) (fun c1 => ?_)
  · have h := (if_neg c1).symm.trans h
    refine lv_aload_n C.x C.b dX9_order_80 rfl (lv_at hl 0 rfl) ?_
    refine g_ref (k' := 133) F_9_16 u4_145 C hP sh_122 rfl dX9_order_81 ?_
    refine lv_aload_n C.x C.b dX9_order_84 rfl (lv_at hl 0 rfl) ?_
    refine g_int F_9_21 u4_150 C hP sh_122 dX9_order_85 ?_
    refine lv_iload_n C.x C.b dX9_order_88 rfl (lv_at hl 1 rfl) ?_
    obtain ⟨g2, h⟩ := grd_some h
    refine as_i C hP hS sh_133 g2 dX9_order_89 (fun H locs hP hS => ?_)
    obtain ⟨μ3, m_μ3, h⟩ := lt_ex h
    have hP : Wm G μ3 H := by rw [m_μ3]; exact hP
    refine lv_aload_n C.x C.b dX9_order_90 rfl (lv_at hl 0 rfl) ?_
    refine g_ref (k' := 134) F_9_17 u4_146 C hP sh_122 rfl dX9_order_91 ?_
    refine lv_aload_n C.x C.b dX9_order_94 rfl (lv_at hl 0 rfl) ?_
    refine g_int F_9_21 u4_150 C hP sh_122 dX9_order_95 ?_
    refine lv_iload_n C.x C.b dX9_order_98 rfl (lv_at hl 2 rfl) ?_
    obtain ⟨g4, h⟩ := grd_some h
    refine as_i C hP hS sh_134 g4 dX9_order_99 (fun H locs hP hS => ?_)
    obtain ⟨μ5, m_μ5, h⟩ := lt_ex h
    have hP : Wm G μ5 H := by rw [m_μ5]; exact hP
    refine lv_aload_n C.x C.b dX9_order_100 rfl (lv_at hl 0 rfl) ?_
    refine lv_dup C.x C.b dX9_order_101 rfl ?_
    refine g_int F_9_21 u4_150 C hP sh_122 dX9_order_102 ?_
    refine lv_iconst (v := 1) C.x C.b dX9_order_105 (by decide) ?_
    refine lv_iadd C.x C.b dX9_order_106 ?_
    refine p_int F_9_21 P_9_21 u4_150 C hP hS sh_122 dX9_order_107 (fun H locs hP hS => ?_)
    obtain ⟨μ6, m_μ6, h⟩ := lt_ex h
    have hP : Wm G μ6 H := by rw [m_μ6]; exact hP
    refine lv_aload_n C.x C.b dX9_order_110 rfl (lv_at hl 0 rfl) ?_
    refine g_int F_9_21 u4_150 C hP sh_122 dX9_order_111 ?_
    exact r_i h C hP hS dX9_order_114
  · have h := (if_pos c1).symm.trans h
    refine lv_bipush (v := (-4)) C.x C.b dX9_order_77 (by decide) ?_
    exact r_i h C hP hS dX9_order_79

def f_X9_order_54 (x1 : Int32) (x2 : Int32)  (z0 : Int64) (z1 : Int64) (z3 : Int32) (μ : Mem) : Option (Int32 × Mem) := bnv (f_X9_many z3 μ) (fun r2 => bnv (f_X9_in z0 z1 (Int32.toInt64 (r2 - 1)) μ) (fun r4 => if r4 = 0 then (some ((-1), μ)) else (f_X9_order_68 x1 x2 μ)))
set_option maxRecDepth 100000 in
set_option maxHeartbeats 4000000 in
theorem b_X9_order_54 {p : Program} {l : Launch} {e : Env} {s : State} {m : MethodId} {args : Array Value} {below : List Frame} {meth : Method} {c : Code} {G : Gp} {O : (Int32 × Mem)} (C : Cx p s m args meth c cX9_order 3 RX9 (some .int) G) {x1 : Int32} {x2 : Int32} : ∀ (z0 : Int64) (z1 : Int64) (z3 : Int32) (μ : Mem), f_X9_order_54 x1 x2 z0 z1 z3 μ = some O → ∀ (H : Heap) (locs : List Loc) (ls : Array Slot), Wm G μ H → va_S (wA G) s.heap H locs → lv_has ls 3 [(0, .ref (G.2.2 122)), (1, .int x1), (2, .int x2)] → W p l e (rmm 3 68) s m args below meth c H locs 0 0 (QI below args s G O) (F0 m 54 ls [.int z3, .ref (G.2.2 122), .long z1, .long z0]) := by
  intro z0 z1 z3 μ h H locs ls hP hS hl
  unfold f_X9_order_54 at h
  obtain ⟨r2, e1, h⟩ := bnv_some h
  refine k_vi (k := 122) (as := [.int z3]) (rest := [.long z1, .long z0]) (c_X9_many C.i e1) M_X9_many u5_76 C hP hS sh_122 rfl rfl (by decide) hl.1 rfl (Nat.le_of_ble_eq_true rfl) dX9_order_54 (fun H locs hP hS => ?_)
  refine lv_iconst (v := 1) C.x C.b dX9_order_57 (by decide) ?_
  refine lv_isub C.x C.b dX9_order_58 ?_
  refine lv_i2l (v := Int32.toInt64 (r2 - 1)) C.x C.b dX9_order_59 rfl ?_
  obtain ⟨r4, e3, h⟩ := bnv_some h
  refine k_si (as := [.long z0, .long z1, .long (Int32.toInt64 (r2 - 1))]) (rest := []) (c_X9_in C.i e3) M_X9_in u5_72 C hP hS rfl (by decide) hl.1 rfl (Nat.le_of_ble_eq_true rfl) dX9_order_60 (fun H locs hP hS => ?_)
  refine lv_if_ne (tgt := 68) C.x C.b dX9_order_63 (by decide) (fun c5 => ?_) (fun c5 => ?_)
  · have h := (if_neg c5).symm.trans h
    exact b_X9_order_68 C μ h _ _ _ hP hS (lv_sub hl [0, 1, 2] rfl)
  · have h := (if_pos c5).symm.trans h
    refine lv_iconst (v := (-1)) C.x C.b dX9_order_66 (by decide) ?_
    exact r_i h C hP hS dX9_order_67

def f_X9_order (x1 : Int32) (x2 : Int32) (μ : Mem) : Option (Int32 × Mem) := if x1 = ((-1)) then (lt (st μ 122 21 0) (fun μ10 => some (0, μ10))) else (bnv (f_X9_in (Int32.toInt64 x1) 0 3 μ) (fun r3 => if r3 = 0 then (some ((-1), μ)) else (if x1 = 2 then (bnv (f_X9_isSpelled x2 μ) (fun r8 => if r8 = 0 then (some ((-1), μ)) else (f_X9_order_68 x1 x2 μ))) else (if x1 = 1 then (f_X9_order_54 x1 x2 (Int32.toInt64 x2) 0 1 μ) else (f_X9_order_54 x1 x2 (Int32.toInt64 x2) 0 0 μ)))))
set_option maxRecDepth 100000 in
set_option maxHeartbeats 4000000 in
theorem b_X9_order {p : Program} {l : Launch} {e : Env} {s : State} {m : MethodId} {args : Array Value} {below : List Frame} {meth : Method} {c : Code} {G : Gp} {O : (Int32 × Mem)} (C : Cx p s m args meth c cX9_order 3 RX9 (some .int) G) {x1 : Int32} {x2 : Int32} {μ : Mem} (h : f_X9_order x1 x2 μ = some O) : ∀ (H : Heap) (locs : List Loc) (ls : Array Slot), Wm G μ H → va_S (wA G) s.heap H locs → lv_has ls 3 [(0, .ref (G.2.2 122)), (1, .int x1), (2, .int x2)] → W p l e (rmm 3 68) s m args below meth c H locs 0 0 (QI below args s G O) (F0 m 0 ls []) := by
  unfold f_X9_order at h
  intro H locs ls hP hS hl
  refine lv_iload_n C.x C.b dX9_order_0 rfl (lv_at hl 1 rfl) ?_
  refine lv_iconst (v := (-1)) C.x C.b dX9_order_1 (by decide) ?_
  refine lv_icmp_ne (tgt := 12) C.x C.b dX9_order_2 (by decide) (fun c1 => ?_) (fun c1 => ?_)
  · have h := (if_neg c1).symm.trans h
    refine lv_iload_n C.x C.b dX9_order_12 rfl (lv_at hl 1 rfl) ?_
    refine lv_i2l (v := Int32.toInt64 x1) C.x C.b dX9_order_13 rfl ?_
    refine lv_lconst (v := 0) C.x C.b dX9_order_14 (by decide) ?_
    refine lv_ldc2 (own := RX9) (v := 3) C.x C.b C.o (C.t _ u5_105) dX9_order_15 ?_
    obtain ⟨r3, e2, h⟩ := bnv_some h
    refine k_si (as := [.long (Int32.toInt64 x1), .long 0, .long 3]) (rest := []) (c_X9_in C.i e2) M_X9_in u5_72 C hP hS rfl (by decide) hl.1 rfl (Nat.le_of_ble_eq_true rfl) dX9_order_18 (fun H locs hP hS => ?_)
    refine lv_if_eq (tgt := 66) C.x C.b dX9_order_21 (by decide) (fun c4 => ?_) (fun c4 => ?_)
    · have h := (if_pos c4).symm.trans h
      refine lv_iconst (v := (-1)) C.x C.b dX9_order_66 (by decide) ?_
      exact r_i h C hP hS dX9_order_67
    · have h := (if_neg c4).symm.trans h
      refine lv_iload_n C.x C.b dX9_order_24 rfl (lv_at hl 1 rfl) ?_
      refine lv_iconst (v := 2) C.x C.b dX9_order_25 (by decide) ?_
      refine lv_icmp_ne (tgt := 40) C.x C.b dX9_order_26 (by decide) (fun c5 => ?_) (fun c5 => ?_)
      · have h := (if_neg c5).symm.trans h
        refine lv_iload_n C.x C.b dX9_order_40 rfl (lv_at hl 2 rfl) ?_
        refine lv_i2l (v := Int32.toInt64 x2) C.x C.b dX9_order_41 rfl ?_
        refine lv_lconst (v := 0) C.x C.b dX9_order_42 (by decide) ?_
        refine lv_aload_n C.x C.b dX9_order_43 rfl (lv_at hl 0 rfl) ?_
        refine lv_iload_n C.x C.b dX9_order_44 rfl (lv_at hl 1 rfl) ?_
        refine lv_iconst (v := 1) C.x C.b dX9_order_45 (by decide) ?_
        refine lv_icmp_ne (tgt := 53) C.x C.b dX9_order_46 (by decide) (fun c6 => ?_) (fun c6 => ?_)
        · have h := (if_neg c6).symm.trans h
          refine lv_iconst (v := 0) C.x C.b dX9_order_53 (by decide) ?_
          exact b_X9_order_54 C (Int32.toInt64 x2) 0 0 μ h _ _ _ hP hS (lv_sub hl [0, 1, 2] rfl)
        · have h := (if_pos c6).symm.trans h
          refine lv_iconst (v := 1) C.x C.b dX9_order_49 (by decide) ?_
          refine lv_goto (tgt := 54) C.x C.b dX9_order_50 (by decide) ?_
          exact b_X9_order_54 C (Int32.toInt64 x2) 0 1 μ h _ _ _ hP hS (lv_sub hl [0, 1, 2] rfl)
      · have h := (if_pos c5).symm.trans h
        refine lv_aload_n C.x C.b dX9_order_29 rfl (lv_at hl 0 rfl) ?_
        refine lv_iload_n C.x C.b dX9_order_30 rfl (lv_at hl 2 rfl) ?_
        obtain ⟨r8, e7, h⟩ := bnv_some h
        refine k_vi (k := 122) (as := [.int x2]) (rest := []) (c_X9_isSpelled C.i e7) M_X9_isSpelled u6_131 C hP hS sh_122 rfl rfl (by decide) hl.1 rfl (Nat.le_of_ble_eq_true rfl) dX9_order_31 (fun H locs hP hS => ?_)
        refine lv_if_eq (tgt := 66) C.x C.b dX9_order_34 (by decide) (fun c9 => ?_) (fun c9 => ?_)
        · have h := (if_pos c9).symm.trans h
          refine lv_iconst (v := (-1)) C.x C.b dX9_order_66 (by decide) ?_
          exact r_i h C hP hS dX9_order_67
        · have h := (if_neg c9).symm.trans h
          refine lv_goto (tgt := 68) C.x C.b dX9_order_37 (by decide) ?_
          exact b_X9_order_68 C μ h _ _ _ hP hS (lv_sub hl [0, 1, 2] rfl)
  · have h := (if_pos c1).symm.trans h
    refine lv_aload_n C.x C.b dX9_order_5 rfl (lv_at hl 0 rfl) ?_
    refine lv_iconst (v := 0) C.x C.b dX9_order_6 (by decide) ?_
    refine p_int F_9_21 P_9_21 u4_150 C hP hS sh_122 dX9_order_7 (fun H locs hP hS => ?_)
    obtain ⟨μ10, m_μ10, h⟩ := lt_ex h
    have hP : Wm G μ10 H := by rw [m_μ10]; exact hP
    refine lv_iconst (v := 0) C.x C.b dX9_order_10 (by decide) ?_
    exact r_i h C hP hS dX9_order_11

set_option maxRecDepth 100000 in
set_option maxHeartbeats 4000000 in
theorem c_X9_order {l : Launch} {G : Gp} (hI : Wi G) {x1 : Int32} {x2 : Int32} {μ : Mem} {r : Int32} {μ' : Mem} (h : f_X9_order x1 x2 μ = some (r, μ')) : CI l yX9_order cX9_order 3 (some .int) 3 68 G [.ref (G.2.2 122), .int x1, .int x2] μ r μ' :=
  e_all (lv := [(0, .ref (G.2.2 122)), (1, .int x1), (2, .int x2)]) hI (by decide) (Nat.le_of_ble_eq_true rfl) rfl (fun p e s m args below meth c ls C hP hS hl => b_X9_order C h _ _ _ hP hS hl)


def g_X9_copies_2 (a0 : Nat) (n0 : Nat) (a1 : Nat) (n1 : Nat)  (q2 : Int32 → Mem → Option Mem) (x2 : Int32) (μ : Mem) : Option Mem := if (nI n0) ≤ x2 then (some μ) else (grd (inb x2 n0) (grd (inb x2 n1) (lt (st μ a1 x2.toNatClampNeg (μ.1 a0 x2.toNatClampNeg)) (fun μ4 => lt (x2 + 1) (fun y5 => q2 y5 μ4)))))
def f_X9_copies_2 (a0 : Nat) (n0 : Nat) (a1 : Nat) (n1 : Nat)  : Nat → Int32 → Mem → Option Mem
  | 0, _, _ => none
  | n + 1, x2, μ => g_X9_copies_2 a0 n0 a1 n1 (f_X9_copies_2 a0 n0 a1 n1 n) x2 μ
set_option maxRecDepth 100000 in
set_option maxHeartbeats 4000000 in
theorem w_X9_copies_2 {p : Program} {l : Launch} {e : Env} {s : State} {m : MethodId} {args : Array Value} {below : List Frame} {meth : Method} {c : Code} {G : Gp} {O : Mem} (C : Cx p s m args meth c cX9_copies 3 RX9 none G) {a0 : Nat} {n0 : Nat} {a1 : Nat} {n1 : Nat} (hs0 : shp[a0]? = some (.inr (0, n0))) (hs1 : shp[a1]? = some (.inr (0, n1))) {q2 : Int32 → Mem → Option Mem} (hq2 : ∀ (x2 : Int32) (μ : Mem), q2 x2 μ = some O → ∀ (H : Heap) (locs : List Loc) (ls : Array Slot), Wm G μ H → va_S (wA G) s.heap H locs → lv_has ls 3 [(0, .ref (G.2.2 a0)), (1, .ref (G.2.2 a1)), (2, .int x2)] → W p l e (rmm 0 0) s m args below meth c H locs 0 0 (QV below args s G O) (F0 m 2 ls [])) : ∀ (x2 : Int32) (μ : Mem), g_X9_copies_2 a0 n0 a1 n1 q2 x2 μ = some O → ∀ (H : Heap) (locs : List Loc) (ls : Array Slot), Wm G μ H → va_S (wA G) s.heap H locs → lv_has ls 3 [(0, .ref (G.2.2 a0)), (1, .ref (G.2.2 a1)), (2, .int x2)] → W p l e (rmm 0 0) s m args below meth c H locs 0 0 (QV below args s G O) (F0 m 2 ls []) := by
  intro x2 μ h H locs ls hP hS hl
  unfold g_X9_copies_2 at h
  refine lv_iload_n C.x C.b dX9_copies_2 rfl (lv_at hl 2 rfl) ?_
  refine lv_aload_n C.x C.b dX9_copies_3 rfl (lv_at hl 0 rfl) ?_
  refine a_n (v := nI n0) C hP hs0 (by decide) (by first | rfl | decide) dX9_copies_4 ?_
  refine lv_icmp_ge (tgt := 20) C.x C.b dX9_copies_5 (by decide) (fun c1 => ?_) (fun c1 => ?_)
  · have h := (if_pos c1).symm.trans h
    exact r_v h C hP hS dX9_copies_20
  · have h := (if_neg c1).symm.trans h
    refine lv_aload_n C.x C.b dX9_copies_8 rfl (lv_at hl 1 rfl) ?_
    refine lv_iload_n C.x C.b dX9_copies_9 rfl (lv_at hl 2 rfl) ?_
    refine lv_aload_n C.x C.b dX9_copies_10 rfl (lv_at hl 0 rfl) ?_
    refine lv_iload_n C.x C.b dX9_copies_11 rfl (lv_at hl 2 rfl) ?_
    obtain ⟨g2, h⟩ := grd_some h
    refine a_i C hP hs0 g2 dX9_copies_12 ?_
    obtain ⟨g3, h⟩ := grd_some h
    refine as_i C hP hS hs1 g3 dX9_copies_13 (fun H locs hP hS => ?_)
    obtain ⟨μ4, m_μ4, h⟩ := lt_ex h
    have hP : Wm G μ4 H := by rw [m_μ4]; exact hP
    obtain ⟨y5, e_y5, h⟩ := lt_ex h
    refine lv_iinc (v := y5) (lv' := [(2, .int y5), (0, .ref (G.2.2 a0)), (1, .ref (G.2.2 a1))]) C.x C.b dX9_copies_14 hl (k := 2) rfl (by rw [e_y5]; rfl) (by decide) rfl (fun ls hl => ?_)
    refine lv_goto (tgt := 2) C.x C.b dX9_copies_17 (by decide) ?_
    exact hq2 y5 μ4 h _ _ _ hP hS (lv_sub hl [1, 2, 0] rfl)

set_option maxRecDepth 100000 in
set_option maxHeartbeats 4000000 in
theorem b_X9_copies_2 {p : Program} {l : Launch} {e : Env} {s : State} {m : MethodId} {args : Array Value} {below : List Frame} {meth : Method} {c : Code} {G : Gp} {O : Mem} (C : Cx p s m args meth c cX9_copies 3 RX9 none G) {a0 : Nat} {n0 : Nat} {a1 : Nat} {n1 : Nat} (hs0 : shp[a0]? = some (.inr (0, n0))) (hs1 : shp[a1]? = some (.inr (0, n1))) : ∀ (n : Nat) (x2 : Int32) (μ : Mem), f_X9_copies_2 a0 n0 a1 n1 n x2 μ = some O → ∀ (H : Heap) (locs : List Loc) (ls : Array Slot), Wm G μ H → va_S (wA G) s.heap H locs → lv_has ls 3 [(0, .ref (G.2.2 a0)), (1, .ref (G.2.2 a1)), (2, .int x2)] → W p l e (rmm 0 0) s m args below meth c H locs 0 0 (QV below args s G O) (F0 m 2 ls []) := by
  intro n
  induction n with
  | zero => intro x2 μ h; cases h
  | succ n ih => intro x2 μ h; exact w_X9_copies_2 C hs0 hs1 (q2 := f_X9_copies_2 a0 n0 a1 n1 n) ih x2 μ h

def f_X9_copies (a0 : Nat) (n0 : Nat) (a1 : Nat) (n1 : Nat) (μ : Mem) : Option Mem := f_X9_copies_2 a0 n0 a1 n1 FU 0 μ
set_option maxRecDepth 100000 in
set_option maxHeartbeats 4000000 in
theorem b_X9_copies {p : Program} {l : Launch} {e : Env} {s : State} {m : MethodId} {args : Array Value} {below : List Frame} {meth : Method} {c : Code} {G : Gp} {O : Mem} (C : Cx p s m args meth c cX9_copies 3 RX9 none G) {a0 : Nat} {n0 : Nat} {a1 : Nat} {n1 : Nat} (hs0 : shp[a0]? = some (.inr (0, n0))) (hs1 : shp[a1]? = some (.inr (0, n1))) {μ : Mem} (h : f_X9_copies a0 n0 a1 n1 μ = some O) : ∀ (H : Heap) (locs : List Loc) (ls : Array Slot), Wm G μ H → va_S (wA G) s.heap H locs → lv_has ls 3 [(0, .ref (G.2.2 a0)), (1, .ref (G.2.2 a1))] → W p l e (rmm 0 0) s m args below meth c H locs 0 0 (QV below args s G O) (F0 m 0 ls []) := by
  unfold f_X9_copies at h
  intro H locs ls hP hS hl
  refine lv_iconst (v := 0) C.x C.b dX9_copies_0 (by decide) ?_
  refine lv_istore_n (lv' := [(2, .int 0), (0, .ref (G.2.2 a0)), (1, .ref (G.2.2 a1))]) C.x C.b dX9_copies_1 rfl hl (by decide) rfl (fun ls hl => ?_)
  exact b_X9_copies_2 C hs0 hs1 FU 0 μ h _ _ _ hP hS (lv_sub hl [1, 2, 0] rfl)

set_option maxRecDepth 100000 in
set_option maxHeartbeats 4000000 in
theorem c_X9_copies {l : Launch} {G : Gp} (hI : Wi G) {a0 : Nat} {n0 : Nat} {a1 : Nat} {n1 : Nat} (hs0 : shp[a0]? = some (.inr (0, n0))) (hs1 : shp[a1]? = some (.inr (0, n1))) {μ : Mem} {μ' : Mem} (h : f_X9_copies a0 n0 a1 n1 μ = some μ') : CV l yX9_copies cX9_copies 3 none 0 0 G [.ref (G.2.2 a0), .ref (G.2.2 a1)] μ μ' :=
  e_all (lv := [(0, .ref (G.2.2 a0)), (1, .ref (G.2.2 a1))]) hI (by decide) (Nat.le_of_ble_eq_true rfl) rfl (fun p e s m args below meth c ls C hP hS hl => b_X9_copies C hs0 hs1 h _ _ _ hP hS hl)


def f_X9_happens (x1 : Int32) (x2 : Int32) (μ : Mem) : Option Mem := if 2 ≤ x1 then (if x1 = 2 then (grd (inb ((5 * (x2 / 10)) + (rm32 x2 10)) 25) (lt (st μ 125 ((5 * (x2 / 10)) + (rm32 x2 10)).toNatClampNeg 3) (fun μ6 => some μ6))) else (grd (inb x2 10) (lt (st μ 124 x2.toNatClampNeg 0) (fun μ4 => some μ4)))) else (grd (inb ((5 * x1) + x2) 10) (grd (inb ((5 * x1) + x2) 10) (lt (st μ 123 ((5 * x1) + x2).toNatClampNeg (mn 99 ((μ.1 123 ((5 * x1) + x2).toNatClampNeg) + 1))) (fun μ9 => some μ9))))
set_option maxRecDepth 100000 in
set_option maxHeartbeats 4000000 in
theorem b_X9_happens {p : Program} {l : Launch} {e : Env} {s : State} {m : MethodId} {args : Array Value} {below : List Frame} {meth : Method} {c : Code} {G : Gp} {O : Mem} (C : Cx p s m args meth c cX9_happens 3 RX9 none G) {x1 : Int32} {x2 : Int32} {μ : Mem} (h : f_X9_happens x1 x2 μ = some O) : ∀ (H : Heap) (locs : List Loc) (ls : Array Slot), Wm G μ H → va_S (wA G) s.heap H locs → lv_has ls 3 [(0, .ref (G.2.2 122)), (1, .int x1), (2, .int x2)] → W p l e (rmm 1 21) s m args below meth c H locs 0 0 (QV below args s G O) (F0 m 0 ls []) := by
  unfold f_X9_happens at h
  intro H locs ls hP hS hl
  refine lv_iload_n C.x C.b dX9_happens_0 rfl (lv_at hl 1 rfl) ?_
  refine lv_iconst (v := 2) C.x C.b dX9_happens_1 (by decide) ?_
  refine lv_icmp_ge (tgt := 35) C.x C.b dX9_happens_2 (by decide) (fun c1 => ?_) (fun c1 => ?_)
  · have h := (if_pos c1).symm.trans h
    refine lv_iload_n C.x C.b dX9_happens_35 rfl (lv_at hl 1 rfl) ?_
    refine lv_iconst (v := 2) C.x C.b dX9_happens_36 (by decide) ?_
    refine lv_icmp_ne (tgt := 60) C.x C.b dX9_happens_37 (by decide) (fun c2 => ?_) (fun c2 => ?_)
    · have h := (if_neg c2).symm.trans h
      refine lv_aload_n C.x C.b dX9_happens_60 rfl (lv_at hl 0 rfl) ?_
      refine g_ref (k' := 124) F_9_3 u4_132 C hP sh_122 rfl dX9_happens_61 ?_
      refine lv_iload_n C.x C.b dX9_happens_64 rfl (lv_at hl 2 rfl) ?_
      refine lv_iconst (v := 0) C.x C.b dX9_happens_65 (by decide) ?_
      obtain ⟨g3, h⟩ := grd_some h
      refine as_i C hP hS sh_124 g3 dX9_happens_66 (fun H locs hP hS => ?_)
      obtain ⟨μ4, m_μ4, h⟩ := lt_ex h
      have hP : Wm G μ4 H := by rw [m_μ4]; exact hP
      exact r_v h C hP hS dX9_happens_67
    · have h := (if_pos c2).symm.trans h
      refine lv_aload_n C.x C.b dX9_happens_40 rfl (lv_at hl 0 rfl) ?_
      refine g_ref (k' := 125) F_9_4 u4_133 C hP sh_122 rfl dX9_happens_41 ?_
      refine lv_iconst (v := 5) C.x C.b dX9_happens_44 (by decide) ?_
      refine lv_iload_n C.x C.b dX9_happens_45 rfl (lv_at hl 2 rfl) ?_
      refine lv_bipush (v := 10) C.x C.b dX9_happens_46 (by decide) ?_
      refine lv_idiv C.x C.b dX9_happens_48 (by decide) ?_
      refine lv_imul C.x C.b dX9_happens_49 ?_
      refine lv_iload_n C.x C.b dX9_happens_50 rfl (lv_at hl 2 rfl) ?_
      refine lv_bipush (v := 10) C.x C.b dX9_happens_51 (by decide) ?_
      refine lv_irem C.x C.b dX9_happens_53 (by decide) ?_
      refine lv_iadd C.x C.b dX9_happens_54 ?_
      refine lv_iconst (v := 3) C.x C.b dX9_happens_55 (by decide) ?_
      obtain ⟨g5, h⟩ := grd_some h
      refine as_i C hP hS sh_125 g5 dX9_happens_56 (fun H locs hP hS => ?_)
      obtain ⟨μ6, m_μ6, h⟩ := lt_ex h
      have hP : Wm G μ6 H := by rw [m_μ6]; exact hP
      refine lv_goto (tgt := 67) C.x C.b dX9_happens_57 (by decide) ?_
      exact r_v h C hP hS dX9_happens_67
  · have h := (if_neg c1).symm.trans h
    refine lv_aload_n C.x C.b dX9_happens_5 rfl (lv_at hl 0 rfl) ?_
    refine g_ref (k' := 123) F_9_2 u4_131 C hP sh_122 rfl dX9_happens_6 ?_
    refine lv_iconst (v := 5) C.x C.b dX9_happens_9 (by decide) ?_
    refine lv_iload_n C.x C.b dX9_happens_10 rfl (lv_at hl 1 rfl) ?_
    refine lv_imul C.x C.b dX9_happens_11 ?_
    refine lv_iload_n C.x C.b dX9_happens_12 rfl (lv_at hl 2 rfl) ?_
    refine lv_iadd C.x C.b dX9_happens_13 ?_
    refine lv_bipush (v := 99) C.x C.b dX9_happens_14 (by decide) ?_
    refine lv_aload_n C.x C.b dX9_happens_16 rfl (lv_at hl 0 rfl) ?_
    refine g_ref (k' := 123) F_9_2 u4_131 C hP sh_122 rfl dX9_happens_17 ?_
    refine lv_iconst (v := 5) C.x C.b dX9_happens_20 (by decide) ?_
    refine lv_iload_n C.x C.b dX9_happens_21 rfl (lv_at hl 1 rfl) ?_
    refine lv_imul C.x C.b dX9_happens_22 ?_
    refine lv_iload_n C.x C.b dX9_happens_23 rfl (lv_at hl 2 rfl) ?_
    refine lv_iadd C.x C.b dX9_happens_24 ?_
    obtain ⟨g7, h⟩ := grd_some h
    refine a_i C hP sh_123 g7 dX9_happens_25 ?_
    refine lv_iconst (v := 1) C.x C.b dX9_happens_26 (by decide) ?_
    refine lv_iadd C.x C.b dX9_happens_27 ?_
    refine k_min u5_191 C hl.1 ⟨by decide, Nat.le_of_ble_eq_true rfl⟩ dX9_happens_28 ?_
    obtain ⟨g8, h⟩ := grd_some h
    refine as_i C hP hS sh_123 g8 dX9_happens_31 (fun H locs hP hS => ?_)
    obtain ⟨μ9, m_μ9, h⟩ := lt_ex h
    have hP : Wm G μ9 H := by rw [m_μ9]; exact hP
    refine lv_goto (tgt := 67) C.x C.b dX9_happens_32 (by decide) ?_
    exact r_v h C hP hS dX9_happens_67

set_option maxRecDepth 100000 in
set_option maxHeartbeats 4000000 in
theorem c_X9_happens {l : Launch} {G : Gp} (hI : Wi G) {x1 : Int32} {x2 : Int32} {μ : Mem} {μ' : Mem} (h : f_X9_happens x1 x2 μ = some μ') : CV l yX9_happens cX9_happens 3 none 1 21 G [.ref (G.2.2 122), .int x1, .int x2] μ μ' :=
  e_all (lv := [(0, .ref (G.2.2 122)), (1, .int x1), (2, .int x2)]) hI (by decide) (Nat.le_of_ble_eq_true rfl) rfl (fun p e s m args below meth c ls C hP hS hl => b_X9_happens C h _ _ _ hP hS hl)


def f_X9_ends_117 (x1 : Int32)  (z0 : Int32) (μ : Mem) : Option (Int32 × Mem) := bnv (f_X9_copies 147 10 123 10 μ) (fun μ2 => bnv (f_X9_copies 148 10 124 10 μ2) (fun μ4 => bnv (f_X9_copies 149 25 125 25 μ4) (fun μ6 => some (z0, μ6))))
set_option maxRecDepth 100000 in
set_option maxHeartbeats 4000000 in
theorem b_X9_ends_117 {p : Program} {l : Launch} {e : Env} {s : State} {m : MethodId} {args : Array Value} {below : List Frame} {meth : Method} {c : Code} {G : Gp} {O : (Int32 × Mem)} (C : Cx p s m args meth c cX9_ends 4 RX9 (some .int) G) {x1 : Int32} : ∀ (z0 : Int32) (μ : Mem), f_X9_ends_117 x1 z0 μ = some O → ∀ (H : Heap) (locs : List Loc) (ls : Array Slot), Wm G μ H → va_S (wA G) s.heap H locs → lv_has ls 4 [(0, .ref (G.2.2 122))] → W p l e (rmm 7 161) s m args below meth c H locs 0 0 (QI below args s G O) (F0 m 117 ls [.int z0]) := by
  intro z0 μ h H locs ls hP hS hl
  unfold f_X9_ends_117 at h
  refine lv_istore_n (lv' := [(3, .int z0), (0, .ref (G.2.2 122))]) C.x C.b dX9_ends_117 rfl hl (by decide) rfl (fun ls hl => ?_)
  refine lv_aload_n C.x C.b dX9_ends_118 rfl (lv_at hl 1 rfl) ?_
  refine g_ref (k' := 147) F_9_44 u4_173 C hP sh_122 rfl dX9_ends_119 ?_
  refine lv_aload_n C.x C.b dX9_ends_122 rfl (lv_at hl 1 rfl) ?_
  refine g_ref (k' := 123) F_9_2 u4_131 C hP sh_122 rfl dX9_ends_123 ?_
  obtain ⟨μ2, e1, h⟩ := bnv_some h
  refine k_sv (as := [.ref (G.2.2 147), .ref (G.2.2 123)]) (rest := []) (c_X9_copies C.i sh_147 sh_123 e1) M_X9_copies u6_139 C hP hS rfl (by decide) hl.1 rfl (Nat.le_of_ble_eq_true rfl) dX9_ends_126 (fun H locs hP hS => ?_)
  refine lv_aload_n C.x C.b dX9_ends_129 rfl (lv_at hl 1 rfl) ?_
  refine g_ref (k' := 148) F_9_45 u4_174 C hP sh_122 rfl dX9_ends_130 ?_
  refine lv_aload_n C.x C.b dX9_ends_133 rfl (lv_at hl 1 rfl) ?_
  refine g_ref (k' := 124) F_9_3 u4_132 C hP sh_122 rfl dX9_ends_134 ?_
  obtain ⟨μ4, e3, h⟩ := bnv_some h
  refine k_sv (as := [.ref (G.2.2 148), .ref (G.2.2 124)]) (rest := []) (c_X9_copies C.i sh_148 sh_124 e3) M_X9_copies u6_139 C hP hS rfl (by decide) hl.1 rfl (Nat.le_of_ble_eq_true rfl) dX9_ends_137 (fun H locs hP hS => ?_)
  refine lv_aload_n C.x C.b dX9_ends_140 rfl (lv_at hl 1 rfl) ?_
  refine g_ref (k' := 149) F_9_46 u4_175 C hP sh_122 rfl dX9_ends_141 ?_
  refine lv_aload_n C.x C.b dX9_ends_144 rfl (lv_at hl 1 rfl) ?_
  refine g_ref (k' := 125) F_9_4 u4_133 C hP sh_122 rfl dX9_ends_145 ?_
  obtain ⟨μ6, e5, h⟩ := bnv_some h
  refine k_sv (as := [.ref (G.2.2 149), .ref (G.2.2 125)]) (rest := []) (c_X9_copies C.i sh_149 sh_125 e5) M_X9_copies u6_139 C hP hS rfl (by decide) hl.1 rfl (Nat.le_of_ble_eq_true rfl) dX9_ends_148 (fun H locs hP hS => ?_)
  refine lv_iload_n C.x C.b dX9_ends_151 rfl (lv_at hl 0 rfl) ?_
  exact r_i h C hP hS dX9_ends_152

def f_X9_ends_114 (x1 : Int32)  (z0 : Int32) (z1 : Int32) (μ : Mem) : Option (Int32 × Mem) := f_X9_ends_117 x1 (mx z0 z1) μ
set_option maxRecDepth 100000 in
set_option maxHeartbeats 4000000 in
theorem b_X9_ends_114 {p : Program} {l : Launch} {e : Env} {s : State} {m : MethodId} {args : Array Value} {below : List Frame} {meth : Method} {c : Code} {G : Gp} {O : (Int32 × Mem)} (C : Cx p s m args meth c cX9_ends 4 RX9 (some .int) G) {x1 : Int32} : ∀ (z0 : Int32) (z1 : Int32) (μ : Mem), f_X9_ends_114 x1 z0 z1 μ = some O → ∀ (H : Heap) (locs : List Loc) (ls : Array Slot), Wm G μ H → va_S (wA G) s.heap H locs → lv_has ls 4 [(0, .ref (G.2.2 122))] → W p l e (rmm 7 161) s m args below meth c H locs 0 0 (QI below args s G O) (F0 m 114 ls [.int z1, .int z0]) := by
  intro z0 z1 μ h H locs ls hP hS hl
  unfold f_X9_ends_114 at h
  refine k_max u6_102 C hl.1 ⟨by decide, Nat.le_of_ble_eq_true rfl⟩ dX9_ends_114 ?_
  exact b_X9_ends_117 C (mx z0 z1) μ h _ _ _ hP hS (lv_sub hl [0] rfl)

def g_X9_ends_49 (x1 : Int32)  (q49 : Int32 → Mem → Option (Int32 × Mem)) (x2 : Int32) (μ : Mem) : Option (Int32 × Mem) := if (μ.1 122 21) ≤ x2 then (bnv (f_X9_sum 0 μ) (fun r3 => bnv (f_X9_sum 1 μ) (fun r5 => lt (r3 - r5) (fun y6 => if x1 = 0 then (bnd (f_X9_theBest μ) (fun r10 μ11 => f_X9_ends_117 x1 r10 μ11)) else (if x1 = 1 then (f_X9_ends_114 x1 0 y6 μ) else (f_X9_ends_114 x1 0 (-y6) μ)))))) else (grd (inb x2 8) (grd (inb x2 8) (bnv (f_X9_happens (μ.1 133 x2.toNatClampNeg) (μ.1 134 x2.toNatClampNeg) μ) (fun μ15 => lt (x2 + 1) (fun y16 => q49 y16 μ15)))))
def f_X9_ends_49 (x1 : Int32)  : Nat → Int32 → Mem → Option (Int32 × Mem)
  | 0, _, _ => none
  | n + 1, x2, μ => g_X9_ends_49 x1 (f_X9_ends_49 x1 n) x2 μ
set_option maxRecDepth 100000 in
set_option maxHeartbeats 4000000 in
theorem w_X9_ends_49 {p : Program} {l : Launch} {e : Env} {s : State} {m : MethodId} {args : Array Value} {below : List Frame} {meth : Method} {c : Code} {G : Gp} {O : (Int32 × Mem)} (C : Cx p s m args meth c cX9_ends 4 RX9 (some .int) G) {x1 : Int32} {q49 : Int32 → Mem → Option (Int32 × Mem)} (hq49 : ∀ (x2 : Int32) (μ : Mem), q49 x2 μ = some O → ∀ (H : Heap) (locs : List Loc) (ls : Array Slot), Wm G μ H → va_S (wA G) s.heap H locs → lv_has ls 4 [(0, .ref (G.2.2 122)), (1, .int x1), (2, .int x2)] → W p l e (rmm 7 161) s m args below meth c H locs 0 0 (QI below args s G O) (F0 m 49 ls [])) : ∀ (x2 : Int32) (μ : Mem), g_X9_ends_49 x1 q49 x2 μ = some O → ∀ (H : Heap) (locs : List Loc) (ls : Array Slot), Wm G μ H → va_S (wA G) s.heap H locs → lv_has ls 4 [(0, .ref (G.2.2 122)), (1, .int x1), (2, .int x2)] → W p l e (rmm 7 161) s m args below meth c H locs 0 0 (QI below args s G O) (F0 m 49 ls []) := by
  intro x2 μ h H locs ls hP hS hl
  unfold g_X9_ends_49 at h
  refine lv_iload_n C.x C.b dX9_ends_49 rfl (lv_at hl 2 rfl) ?_
  refine lv_aload_n C.x C.b dX9_ends_50 rfl (lv_at hl 0 rfl) ?_
  refine g_int F_9_21 u4_150 C hP sh_122 dX9_ends_51 ?_
  refine lv_icmp_ge (tgt := 79) C.x C.b dX9_ends_54 (by decide) (fun c1 => ?_) (fun c1 => ?_)
  · have h := (if_pos c1).symm.trans h
    refine lv_aload_n C.x C.b dX9_ends_79 rfl (lv_at hl 0 rfl) ?_
    refine lv_iconst (v := 0) C.x C.b dX9_ends_80 (by decide) ?_
    obtain ⟨r3, e2, h⟩ := bnv_some h
    refine k_vi (k := 122) (as := [.int 0]) (rest := []) (c_X9_sum C.i e2) M_X9_sum u5_163 C hP hS sh_122 rfl rfl (by decide) hl.1 rfl (Nat.le_of_ble_eq_true rfl) dX9_ends_81 (fun H locs hP hS => ?_)
    refine lv_aload_n C.x C.b dX9_ends_84 rfl (lv_at hl 0 rfl) ?_
    refine lv_iconst (v := 1) C.x C.b dX9_ends_85 (by decide) ?_
    obtain ⟨r5, e4, h⟩ := bnv_some h
    refine k_vi (k := 122) (as := [.int 1]) (rest := [.int r3]) (c_X9_sum C.i e4) M_X9_sum u5_163 C hP hS sh_122 rfl rfl (by decide) hl.1 rfl (Nat.le_of_ble_eq_true rfl) dX9_ends_86 (fun H locs hP hS => ?_)
    refine lv_isub C.x C.b dX9_ends_89 ?_
    refine lv_topi (fun y6 e_y6 => ?_)
    have h := lt_at h e_y6
    refine lv_istore_n (lv' := [(2, .int y6), (0, .ref (G.2.2 122)), (1, .int x1)]) C.x C.b dX9_ends_90 rfl hl (by decide) rfl (fun ls hl => ?_)
    refine lv_iload_n C.x C.b dX9_ends_91 rfl (lv_at hl 2 rfl) ?_
    refine lv_if_ne (tgt := 102) C.x C.b dX9_ends_92 (by decide) (fun c7 => ?_) (fun c7 => ?_)
    · have h := (if_neg c7).symm.trans h
      refine lv_iconst (v := 0) C.x C.b dX9_ends_102 (by decide) ?_
      refine lv_iload_n C.x C.b dX9_ends_103 rfl (lv_at hl 2 rfl) ?_
      refine lv_iconst (v := 1) C.x C.b dX9_ends_104 (by decide) ?_
      refine lv_icmp_ne (tgt := 112) C.x C.b dX9_ends_105 (by decide) (fun c8 => ?_) (fun c8 => ?_)
      · have h := (if_neg c8).symm.trans h
        refine lv_iload_n C.x C.b dX9_ends_112 rfl (lv_at hl 0 rfl) ?_
        refine lv_ineg C.x C.b dX9_ends_113 ?_
        exact b_X9_ends_114 C 0 (-y6) μ h _ _ _ hP hS (lv_sub hl [1] rfl)
      · have h := (if_pos c8).symm.trans h
        refine lv_iload_n C.x C.b dX9_ends_108 rfl (lv_at hl 0 rfl) ?_
        refine lv_goto (tgt := 114) C.x C.b dX9_ends_109 (by decide) ?_
        exact b_X9_ends_114 C 0 y6 μ h _ _ _ hP hS (lv_sub hl [1] rfl)
    · have h := (if_pos c7).symm.trans h
      refine lv_aload_n C.x C.b dX9_ends_95 rfl (lv_at hl 1 rfl) ?_
      obtain ⟨r10, μ11, e9, h⟩ := bnd_some h
      refine k_vi (k := 122) (as := []) (rest := []) (c_X9_theBest C.i e9) M_X9_theBest u6_86 C hP hS sh_122 rfl rfl (by decide) hl.1 rfl (Nat.le_of_ble_eq_true rfl) dX9_ends_96 (fun H locs hP hS => ?_)
      refine lv_goto (tgt := 117) C.x C.b dX9_ends_99 (by decide) ?_
      exact b_X9_ends_117 C r10 μ11 h _ _ _ hP hS (lv_sub hl [1] rfl)
  · have h := (if_neg c1).symm.trans h
    refine lv_aload_n C.x C.b dX9_ends_57 rfl (lv_at hl 0 rfl) ?_
    refine lv_aload_n C.x C.b dX9_ends_58 rfl (lv_at hl 0 rfl) ?_
    refine g_ref (k' := 133) F_9_16 u4_145 C hP sh_122 rfl dX9_ends_59 ?_
    refine lv_iload_n C.x C.b dX9_ends_62 rfl (lv_at hl 2 rfl) ?_
    obtain ⟨g12, h⟩ := grd_some h
    refine a_i C hP sh_133 g12 dX9_ends_63 ?_
    refine lv_aload_n C.x C.b dX9_ends_64 rfl (lv_at hl 0 rfl) ?_
    refine g_ref (k' := 134) F_9_17 u4_146 C hP sh_122 rfl dX9_ends_65 ?_
    refine lv_iload_n C.x C.b dX9_ends_68 rfl (lv_at hl 2 rfl) ?_
    obtain ⟨g13, h⟩ := grd_some h
    refine a_i C hP sh_134 g13 dX9_ends_69 ?_
    obtain ⟨μ15, e14, h⟩ := bnv_some h
    refine k_vv (k := 122) (as := [.int (μ.1 133 x2.toNatClampNeg), .int (μ.1 134 x2.toNatClampNeg)]) (rest := []) (c_X9_happens C.i e14) M_X9_happens u6_142 C hP hS sh_122 rfl rfl (by decide) hl.1 rfl (Nat.le_of_ble_eq_true rfl) dX9_ends_70 (fun H locs hP hS => ?_)
    obtain ⟨y16, e_y16, h⟩ := lt_ex h
    refine lv_iinc (v := y16) (lv' := [(2, .int y16), (0, .ref (G.2.2 122)), (1, .int x1)]) C.x C.b dX9_ends_73 hl (k := 2) rfl (by rw [e_y16]; rfl) (by decide) rfl (fun ls hl => ?_)
    refine lv_goto (tgt := 49) C.x C.b dX9_ends_76 (by decide) ?_
    exact hq49 y16 μ15 h _ _ _ hP hS (lv_sub hl [1, 2, 0] rfl)

set_option maxRecDepth 100000 in
set_option maxHeartbeats 4000000 in
theorem b_X9_ends_49 {p : Program} {l : Launch} {e : Env} {s : State} {m : MethodId} {args : Array Value} {below : List Frame} {meth : Method} {c : Code} {G : Gp} {O : (Int32 × Mem)} (C : Cx p s m args meth c cX9_ends 4 RX9 (some .int) G) {x1 : Int32} : ∀ (n : Nat) (x2 : Int32) (μ : Mem), f_X9_ends_49 x1 n x2 μ = some O → ∀ (H : Heap) (locs : List Loc) (ls : Array Slot), Wm G μ H → va_S (wA G) s.heap H locs → lv_has ls 4 [(0, .ref (G.2.2 122)), (1, .int x1), (2, .int x2)] → W p l e (rmm 7 161) s m args below meth c H locs 0 0 (QI below args s G O) (F0 m 49 ls []) := by
  intro n
  induction n with
  | zero => intro x2 μ h; cases h
  | succ n ih => intro x2 μ h; exact w_X9_ends_49 C (q49 := f_X9_ends_49 x1 n) ih x2 μ h

def f_X9_ends (x1 : Int32) (μ : Mem) : Option (Int32 × Mem) := bnv (f_X9_in (Int32.toInt64 x1) 0 2 μ) (fun r2 => if r2 = 0 then (some ((-1), μ)) else (bnv (f_X9_copies 123 10 147 10 μ) (fun μ5 => bnv (f_X9_copies 124 10 148 10 μ5) (fun μ7 => bnv (f_X9_copies 125 25 149 25 μ7) (fun μ9 => f_X9_ends_49 x1 FU 0 μ9)))))
set_option maxRecDepth 100000 in
set_option maxHeartbeats 4000000 in
theorem b_X9_ends {p : Program} {l : Launch} {e : Env} {s : State} {m : MethodId} {args : Array Value} {below : List Frame} {meth : Method} {c : Code} {G : Gp} {O : (Int32 × Mem)} (C : Cx p s m args meth c cX9_ends 4 RX9 (some .int) G) {x1 : Int32} {μ : Mem} (h : f_X9_ends x1 μ = some O) : ∀ (H : Heap) (locs : List Loc) (ls : Array Slot), Wm G μ H → va_S (wA G) s.heap H locs → lv_has ls 4 [(0, .ref (G.2.2 122)), (1, .int x1)] → W p l e (rmm 7 161) s m args below meth c H locs 0 0 (QI below args s G O) (F0 m 0 ls []) := by
  unfold f_X9_ends at h
  intro H locs ls hP hS hl
  refine lv_iload_n C.x C.b dX9_ends_0 rfl (lv_at hl 1 rfl) ?_
  refine lv_i2l (v := Int32.toInt64 x1) C.x C.b dX9_ends_1 rfl ?_
  refine lv_lconst (v := 0) C.x C.b dX9_ends_2 (by decide) ?_
  refine lv_ldc2 (own := RX9) (v := 2) C.x C.b C.o (C.t _ u5_110) dX9_ends_3 ?_
  obtain ⟨r2, e1, h⟩ := bnv_some h
  refine k_si (as := [.long (Int32.toInt64 x1), .long 0, .long 2]) (rest := []) (c_X9_in C.i e1) M_X9_in u5_72 C hP hS rfl (by decide) hl.1 rfl (Nat.le_of_ble_eq_true rfl) dX9_ends_6 (fun H locs hP hS => ?_)
  refine lv_if_ne (tgt := 14) C.x C.b dX9_ends_9 (by decide) (fun c3 => ?_) (fun c3 => ?_)
  · have h := (if_neg c3).symm.trans h
    refine lv_aload_n C.x C.b dX9_ends_14 rfl (lv_at hl 0 rfl) ?_
    refine g_ref (k' := 123) F_9_2 u4_131 C hP sh_122 rfl dX9_ends_15 ?_
    refine lv_aload_n C.x C.b dX9_ends_18 rfl (lv_at hl 0 rfl) ?_
    refine g_ref (k' := 147) F_9_44 u4_173 C hP sh_122 rfl dX9_ends_19 ?_
    obtain ⟨μ5, e4, h⟩ := bnv_some h
    refine k_sv (as := [.ref (G.2.2 123), .ref (G.2.2 147)]) (rest := []) (c_X9_copies C.i sh_123 sh_147 e4) M_X9_copies u6_139 C hP hS rfl (by decide) hl.1 rfl (Nat.le_of_ble_eq_true rfl) dX9_ends_22 (fun H locs hP hS => ?_)
    refine lv_aload_n C.x C.b dX9_ends_25 rfl (lv_at hl 0 rfl) ?_
    refine g_ref (k' := 124) F_9_3 u4_132 C hP sh_122 rfl dX9_ends_26 ?_
    refine lv_aload_n C.x C.b dX9_ends_29 rfl (lv_at hl 0 rfl) ?_
    refine g_ref (k' := 148) F_9_45 u4_174 C hP sh_122 rfl dX9_ends_30 ?_
    obtain ⟨μ7, e6, h⟩ := bnv_some h
    refine k_sv (as := [.ref (G.2.2 124), .ref (G.2.2 148)]) (rest := []) (c_X9_copies C.i sh_124 sh_148 e6) M_X9_copies u6_139 C hP hS rfl (by decide) hl.1 rfl (Nat.le_of_ble_eq_true rfl) dX9_ends_33 (fun H locs hP hS => ?_)
    refine lv_aload_n C.x C.b dX9_ends_36 rfl (lv_at hl 0 rfl) ?_
    refine g_ref (k' := 125) F_9_4 u4_133 C hP sh_122 rfl dX9_ends_37 ?_
    refine lv_aload_n C.x C.b dX9_ends_40 rfl (lv_at hl 0 rfl) ?_
    refine g_ref (k' := 149) F_9_46 u4_175 C hP sh_122 rfl dX9_ends_41 ?_
    obtain ⟨μ9, e8, h⟩ := bnv_some h
    refine k_sv (as := [.ref (G.2.2 125), .ref (G.2.2 149)]) (rest := []) (c_X9_copies C.i sh_125 sh_149 e8) M_X9_copies u6_139 C hP hS rfl (by decide) hl.1 rfl (Nat.le_of_ble_eq_true rfl) dX9_ends_44 (fun H locs hP hS => ?_)
    refine lv_iconst (v := 0) C.x C.b dX9_ends_47 (by decide) ?_
    refine lv_istore_n (lv' := [(2, .int 0), (0, .ref (G.2.2 122)), (1, .int x1)]) C.x C.b dX9_ends_48 rfl hl (by decide) rfl (fun ls hl => ?_)
    exact b_X9_ends_49 C FU 0 μ9 h _ _ _ hP hS (lv_sub hl [1, 2, 0] rfl)
  · have h := (if_pos c3).symm.trans h
    refine lv_iconst (v := (-1)) C.x C.b dX9_ends_12 (by decide) ?_
    exact r_i h C hP hS dX9_ends_13

set_option maxRecDepth 100000 in
set_option maxHeartbeats 4000000 in
theorem c_X9_ends {l : Launch} {G : Gp} (hI : Wi G) {x1 : Int32} {μ : Mem} {r : Int32} {μ' : Mem} (h : f_X9_ends x1 μ = some (r, μ')) : CI l yX9_ends cX9_ends 4 (some .int) 7 161 G [.ref (G.2.2 122), .int x1] μ r μ' :=
  e_all (lv := [(0, .ref (G.2.2 122)), (1, .int x1)]) hI (by decide) (Nat.le_of_ble_eq_true rfl) rfl (fun p e s m args below meth c ls C hP hS hl => b_X9_ends C h _ _ _ hP hS hl)


def f_X9_book (x1 : Int32) (x2 : Int32) (x3 : Int32) (μ : Mem) : Option (Int32 × Mem) := if x1 = ((-1)) then (lt (st μ 122 22 0) (fun μ14 => some (0, μ14))) else (bnv (f_X9_isRoad x1 x2 μ) (fun r3 => if r3 = 0 then (some ((-1), μ)) else (bnv (f_X9_in (Int32.toInt64 x3) 0 99 μ) (fun r6 => if r6 = 0 then (some ((-2), μ)) else (if (μ.1 122 22) = 8 then (some ((-4), μ)) else (grd (inb (μ.1 122 22) 8) (lt (st μ 135 (μ.1 122 22).toNatClampNeg ((6 * x1) + x2)) (fun μ10 => grd (inb (μ10.1 122 22) 8) (lt (st μ10 136 (μ10.1 122 22).toNatClampNeg x3) (fun μ12 => lt (st μ12 122 22 ((μ12.1 122 22) + 1)) (fun μ13 => some (μ13.1 122 22, μ13))))))))))))
set_option maxRecDepth 100000 in
set_option maxHeartbeats 4000000 in
theorem b_X9_book {p : Program} {l : Launch} {e : Env} {s : State} {m : MethodId} {args : Array Value} {below : List Frame} {meth : Method} {c : Code} {G : Gp} {O : (Int32 × Mem)} (C : Cx p s m args meth c cX9_book 4 RX9 (some .int) G) {x1 : Int32} {x2 : Int32} {x3 : Int32} {μ : Mem} (h : f_X9_book x1 x2 x3 μ = some O) : ∀ (H : Heap) (locs : List Loc) (ls : Array Slot), Wm G μ H → va_S (wA G) s.heap H locs → lv_has ls 4 [(0, .ref (G.2.2 122)), (1, .int x1), (2, .int x2), (3, .int x3)] → W p l e (rmm 2 47) s m args below meth c H locs 0 0 (QI below args s G O) (F0 m 0 ls []) := by
  unfold f_X9_book at h
  intro H locs ls hP hS hl
  refine lv_iload_n C.x C.b dX9_book_0 rfl (lv_at hl 1 rfl) ?_
  refine lv_iconst (v := (-1)) C.x C.b dX9_book_1 (by decide) ?_
  refine lv_icmp_ne (tgt := 12) C.x C.b dX9_book_2 (by decide) (fun c1 => ?_) (fun c1 => ?_)
  · have h := (if_neg c1).symm.trans h
    refine lv_aload_n C.x C.b dX9_book_12 rfl (lv_at hl 0 rfl) ?_
    refine lv_iload_n C.x C.b dX9_book_13 rfl (lv_at hl 1 rfl) ?_
    refine lv_iload_n C.x C.b dX9_book_14 rfl (lv_at hl 2 rfl) ?_
    obtain ⟨r3, e2, h⟩ := bnv_some h
    refine k_vi (k := 122) (as := [.int x1, .int x2]) (rest := []) (c_X9_isRoad C.i e2) M_X9_isRoad u5_101 C hP hS sh_122 rfl rfl (by decide) hl.1 rfl (Nat.le_of_ble_eq_true rfl) dX9_book_15 (fun H locs hP hS => ?_)
    refine lv_if_ne (tgt := 23) C.x C.b dX9_book_18 (by decide) (fun c4 => ?_) (fun c4 => ?_)
    · have h := (if_neg c4).symm.trans h
      refine lv_iload_n C.x C.b dX9_book_23 rfl (lv_at hl 3 rfl) ?_
      refine lv_i2l (v := Int32.toInt64 x3) C.x C.b dX9_book_24 rfl ?_
      refine lv_lconst (v := 0) C.x C.b dX9_book_25 (by decide) ?_
      refine lv_ldc2 (own := RX9) (v := 99) C.x C.b C.o (C.t _ u5_71) dX9_book_26 ?_
      obtain ⟨r6, e5, h⟩ := bnv_some h
      refine k_si (as := [.long (Int32.toInt64 x3), .long 0, .long 99]) (rest := []) (c_X9_in C.i e5) M_X9_in u5_72 C hP hS rfl (by decide) hl.1 rfl (Nat.le_of_ble_eq_true rfl) dX9_book_29 (fun H locs hP hS => ?_)
      refine lv_if_ne (tgt := 38) C.x C.b dX9_book_32 (by decide) (fun c7 => ?_) (fun c7 => ?_)
      · have h := (if_neg c7).symm.trans h
        refine lv_aload_n C.x C.b dX9_book_38 rfl (lv_at hl 0 rfl) ?_
        refine g_int F_9_22 u4_151 C hP sh_122 dX9_book_39 ?_
        refine lv_bipush (v := 8) C.x C.b dX9_book_42 (by decide) ?_
        refine lv_icmp_ne (tgt := 50) C.x C.b dX9_book_44 (by decide) (fun c8 => ?_) (fun c8 => ?_)
        · have h := (if_neg c8).symm.trans h
          refine lv_aload_n C.x C.b dX9_book_50 rfl (lv_at hl 0 rfl) ?_
          refine g_ref (k' := 135) F_9_18 u4_147 C hP sh_122 rfl dX9_book_51 ?_
          refine lv_aload_n C.x C.b dX9_book_54 rfl (lv_at hl 0 rfl) ?_
          refine g_int F_9_22 u4_151 C hP sh_122 dX9_book_55 ?_
          refine lv_bipush (v := 6) C.x C.b dX9_book_58 (by decide) ?_
          refine lv_iload_n C.x C.b dX9_book_60 rfl (lv_at hl 1 rfl) ?_
          refine lv_imul C.x C.b dX9_book_61 ?_
          refine lv_iload_n C.x C.b dX9_book_62 rfl (lv_at hl 2 rfl) ?_
          refine lv_iadd C.x C.b dX9_book_63 ?_
          obtain ⟨g9, h⟩ := grd_some h
          refine as_i C hP hS sh_135 g9 dX9_book_64 (fun H locs hP hS => ?_)
          obtain ⟨μ10, m_μ10, h⟩ := lt_ex h
          have hP : Wm G μ10 H := by rw [m_μ10]; exact hP
          refine lv_aload_n C.x C.b dX9_book_65 rfl (lv_at hl 0 rfl) ?_
          refine g_ref (k' := 136) F_9_19 u4_148 C hP sh_122 rfl dX9_book_66 ?_
          refine lv_aload_n C.x C.b dX9_book_69 rfl (lv_at hl 0 rfl) ?_
          refine g_int F_9_22 u4_151 C hP sh_122 dX9_book_70 ?_
          refine lv_iload_n C.x C.b dX9_book_73 rfl (lv_at hl 3 rfl) ?_
          obtain ⟨g11, h⟩ := grd_some h
          refine as_i C hP hS sh_136 g11 dX9_book_74 (fun H locs hP hS => ?_)
          obtain ⟨μ12, m_μ12, h⟩ := lt_ex h
          have hP : Wm G μ12 H := by rw [m_μ12]; exact hP
          refine lv_aload_n C.x C.b dX9_book_75 rfl (lv_at hl 0 rfl) ?_
          refine lv_dup C.x C.b dX9_book_76 rfl ?_
          refine g_int F_9_22 u4_151 C hP sh_122 dX9_book_77 ?_
          refine lv_iconst (v := 1) C.x C.b dX9_book_80 (by decide) ?_
          refine lv_iadd C.x C.b dX9_book_81 ?_
          refine p_int F_9_22 P_9_22 u4_151 C hP hS sh_122 dX9_book_82 (fun H locs hP hS => ?_)
          obtain ⟨μ13, m_μ13, h⟩ := lt_ex h
          have hP : Wm G μ13 H := by rw [m_μ13]; exact hP
          refine lv_aload_n C.x C.b dX9_book_85 rfl (lv_at hl 0 rfl) ?_
          refine g_int F_9_22 u4_151 C hP sh_122 dX9_book_86 ?_
          exact r_i h C hP hS dX9_book_89
        · have h := (if_pos c8).symm.trans h
          refine lv_bipush (v := (-4)) C.x C.b dX9_book_47 (by decide) ?_
          exact r_i h C hP hS dX9_book_49
      · have h := (if_pos c7).symm.trans h
        refine lv_bipush (v := (-2)) C.x C.b dX9_book_35 (by decide) ?_
        exact r_i h C hP hS dX9_book_37
    · have h := (if_pos c4).symm.trans h
      refine lv_iconst (v := (-1)) C.x C.b dX9_book_21 (by decide) ?_
      exact r_i h C hP hS dX9_book_22
  · have h := (if_pos c1).symm.trans h
    refine lv_aload_n C.x C.b dX9_book_5 rfl (lv_at hl 0 rfl) ?_
    refine lv_iconst (v := 0) C.x C.b dX9_book_6 (by decide) ?_
    refine p_int F_9_22 P_9_22 u4_151 C hP hS sh_122 dX9_book_7 (fun H locs hP hS => ?_)
    obtain ⟨μ14, m_μ14, h⟩ := lt_ex h
    have hP : Wm G μ14 H := by rw [m_μ14]; exact hP
    refine lv_iconst (v := 0) C.x C.b dX9_book_10 (by decide) ?_
    exact r_i h C hP hS dX9_book_11

set_option maxRecDepth 100000 in
set_option maxHeartbeats 4000000 in
theorem c_X9_book {l : Launch} {G : Gp} (hI : Wi G) {x1 : Int32} {x2 : Int32} {x3 : Int32} {μ : Mem} {r : Int32} {μ' : Mem} (h : f_X9_book x1 x2 x3 μ = some (r, μ')) : CI l yX9_book cX9_book 4 (some .int) 2 47 G [.ref (G.2.2 122), .int x1, .int x2, .int x3] μ r μ' :=
  e_all (lv := [(0, .ref (G.2.2 122)), (1, .int x1), (2, .int x2), (3, .int x3)]) hI (by decide) (Nat.le_of_ble_eq_true rfl) rfl (fun p e s m args below meth c ls C hP hS hl => b_X9_book C h _ _ _ hP hS hl)


def g_X9_looked_12   (μ : Mem) (q12 : Int32 → Option Int32) (x1 : Int32) : Option Int32 := if (μ.1 122 22) ≤ x1 then (some ((-5))) else (grd (inb x1 8) (grd (inb (μ.1 135 x1.toNatClampNeg) 36) (grd (inb x1 8) (if (μ.1 128 (μ.1 135 x1.toNatClampNeg).toNatClampNeg) = (μ.1 136 x1.toNatClampNeg) then (lt (x1 + 1) (fun y6 => q12 y6)) else (some x1)))))
def f_X9_looked_12   (μ : Mem) : Nat → Int32 → Option Int32
  | 0, _ => none
  | n + 1, x1 => g_X9_looked_12  μ (f_X9_looked_12  μ n) x1
set_option maxRecDepth 100000 in
set_option maxHeartbeats 4000000 in
theorem w_X9_looked_12 {p : Program} {l : Launch} {e : Env} {s : State} {m : MethodId} {args : Array Value} {below : List Frame} {meth : Method} {c : Code} {G : Gp} {O : Int32} (C : Cx p s m args meth c cX9_looked 2 RX9 (some .int) G) {μ : Mem} {q12 : Int32 → Option Int32} (hq12 : ∀ (x1 : Int32), q12 x1 = some O → ∀ (H : Heap) (locs : List Loc) (ls : Array Slot), Wm G μ H → va_S (wA G) s.heap H locs → lv_has ls 2 [(0, .ref (G.2.2 122)), (1, .int x1)] → W p l e (rmm 0 0) s m args below meth c H locs 0 0 (QI below args s G (O, μ)) (F0 m 12 ls [])) : ∀ (x1 : Int32), g_X9_looked_12 μ q12 x1 = some O → ∀ (H : Heap) (locs : List Loc) (ls : Array Slot), Wm G μ H → va_S (wA G) s.heap H locs → lv_has ls 2 [(0, .ref (G.2.2 122)), (1, .int x1)] → W p l e (rmm 0 0) s m args below meth c H locs 0 0 (QI below args s G (O, μ)) (F0 m 12 ls []) := by
  intro x1 h H locs ls hP hS hl
  unfold g_X9_looked_12 at h
  refine lv_iload_n C.x C.b dX9_looked_12 rfl (lv_at hl 1 rfl) ?_
  refine lv_aload_n C.x C.b dX9_looked_13 rfl (lv_at hl 0 rfl) ?_
  refine g_int F_9_22 u4_151 C hP sh_122 dX9_looked_14 ?_
  refine lv_icmp_ge (tgt := 48) C.x C.b dX9_looked_17 (by decide) (fun c1 => ?_) (fun c1 => ?_)
  · have h := (if_pos c1).symm.trans h
    refine lv_bipush (v := (-5)) C.x C.b dX9_looked_48 (by decide) ?_
    exact r_i (pr_some h) C hP hS dX9_looked_50
  · have h := (if_neg c1).symm.trans h
    refine lv_aload_n C.x C.b dX9_looked_20 rfl (lv_at hl 0 rfl) ?_
    refine g_ref (k' := 128) F_9_11 u4_140 C hP sh_122 rfl dX9_looked_21 ?_
    refine lv_aload_n C.x C.b dX9_looked_24 rfl (lv_at hl 0 rfl) ?_
    refine g_ref (k' := 135) F_9_18 u4_147 C hP sh_122 rfl dX9_looked_25 ?_
    refine lv_iload_n C.x C.b dX9_looked_28 rfl (lv_at hl 1 rfl) ?_
    obtain ⟨g2, h⟩ := grd_some h
    refine a_i C hP sh_135 g2 dX9_looked_29 ?_
    obtain ⟨g3, h⟩ := grd_some h
    refine a_i C hP sh_128 g3 dX9_looked_30 ?_
    refine lv_aload_n C.x C.b dX9_looked_31 rfl (lv_at hl 0 rfl) ?_
    refine g_ref (k' := 136) F_9_19 u4_148 C hP sh_122 rfl dX9_looked_32 ?_
    refine lv_iload_n C.x C.b dX9_looked_35 rfl (lv_at hl 1 rfl) ?_
    obtain ⟨g4, h⟩ := grd_some h
    refine a_i C hP sh_136 g4 dX9_looked_36 ?_
    refine lv_icmp_eq (tgt := 42) C.x C.b dX9_looked_37 (by decide) (fun c5 => ?_) (fun c5 => ?_)
    · have h := (if_pos c5).symm.trans h
      obtain ⟨y6, e_y6, h⟩ := lt_ex h
      refine lv_iinc (v := y6) (lv' := [(1, .int y6), (0, .ref (G.2.2 122))]) C.x C.b dX9_looked_42 hl (k := 1) rfl (by rw [e_y6]; rfl) (by decide) rfl (fun ls hl => ?_)
      refine lv_goto (tgt := 12) C.x C.b dX9_looked_45 (by decide) ?_
      exact hq12 y6 h _ _ _ hP hS (lv_sub hl [1, 0] rfl)
    · have h := (if_neg c5).symm.trans h
      refine lv_iload_n C.x C.b dX9_looked_40 rfl (lv_at hl 1 rfl) ?_
      exact r_i (pr_some h) C hP hS dX9_looked_41

set_option maxRecDepth 100000 in
set_option maxHeartbeats 4000000 in
theorem b_X9_looked_12 {p : Program} {l : Launch} {e : Env} {s : State} {m : MethodId} {args : Array Value} {below : List Frame} {meth : Method} {c : Code} {G : Gp} {O : Int32} (C : Cx p s m args meth c cX9_looked 2 RX9 (some .int) G) {μ : Mem} : ∀ (n : Nat) (x1 : Int32), f_X9_looked_12 μ n x1 = some O → ∀ (H : Heap) (locs : List Loc) (ls : Array Slot), Wm G μ H → va_S (wA G) s.heap H locs → lv_has ls 2 [(0, .ref (G.2.2 122)), (1, .int x1)] → W p l e (rmm 0 0) s m args below meth c H locs 0 0 (QI below args s G (O, μ)) (F0 m 12 ls []) := by
  intro n
  induction n with
  | zero => intro x1 h; cases h
  | succ n ih => intro x1 h; exact w_X9_looked_12 C (q12 := f_X9_looked_12 μ n) ih x1 h

def f_X9_looked  (μ : Mem) : Option Int32 := if (μ.1 122 6) = 0 then (some ((-3))) else (f_X9_looked_12 μ FU 0)
set_option maxRecDepth 100000 in
set_option maxHeartbeats 4000000 in
theorem b_X9_looked {p : Program} {l : Launch} {e : Env} {s : State} {m : MethodId} {args : Array Value} {below : List Frame} {meth : Method} {c : Code} {G : Gp} {O : Int32} (C : Cx p s m args meth c cX9_looked 2 RX9 (some .int) G) {μ : Mem} (h : f_X9_looked μ = some O) : ∀ (H : Heap) (locs : List Loc) (ls : Array Slot), Wm G μ H → va_S (wA G) s.heap H locs → lv_has ls 2 [(0, .ref (G.2.2 122))] → W p l e (rmm 0 0) s m args below meth c H locs 0 0 (QI below args s G (O, μ)) (F0 m 0 ls []) := by
  unfold f_X9_looked at h
  intro H locs ls hP hS hl
  refine lv_aload_n C.x C.b dX9_looked_0 rfl (lv_at hl 0 rfl) ?_
  refine g_int F_9_6 u4_135 C hP sh_122 dX9_looked_1 ?_
  refine lv_if_ne (tgt := 10) C.x C.b dX9_looked_4 (by decide) (fun c1 => ?_) (fun c1 => ?_)
  · have h := (if_neg c1).symm.trans h
    refine lv_iconst (v := 0) C.x C.b dX9_looked_10 (by decide) ?_
    refine lv_istore_n (lv' := [(1, .int 0), (0, .ref (G.2.2 122))]) C.x C.b dX9_looked_11 rfl hl (by decide) rfl (fun ls hl => ?_)
    exact b_X9_looked_12 C FU 0 h _ _ _ hP hS (lv_sub hl [1, 0] rfl)
  · have h := (if_pos c1).symm.trans h
    refine lv_bipush (v := (-3)) C.x C.b dX9_looked_7 (by decide) ?_
    exact r_i (pr_some h) C hP hS dX9_looked_9

set_option maxRecDepth 100000 in
set_option maxHeartbeats 4000000 in
theorem c_X9_looked {l : Launch} {G : Gp} (hI : Wi G) {μ : Mem} {r : Int32} (h : f_X9_looked μ = some r) : CI l yX9_looked cX9_looked 2 (some .int) 0 0 G [.ref (G.2.2 122)] μ r μ :=
  e_all (lv := [(0, .ref (G.2.2 122))]) hI (by decide) (Nat.le_of_ble_eq_true rfl) rfl (fun p e s m args below meth c ls C hP hS hl => b_X9_looked C h _ _ _ hP hS hl)


def f_X9_isTape (x0 : Int32) (μ : Mem) : Option Int32 := bnv (f_X9_in (Int32.toInt64 x0) 0 5 μ) (fun r2 => grd (isB r2) (some r2))
set_option maxRecDepth 100000 in
set_option maxHeartbeats 4000000 in
theorem b_X9_isTape {p : Program} {l : Launch} {e : Env} {s : State} {m : MethodId} {args : Array Value} {below : List Frame} {meth : Method} {c : Code} {G : Gp} {O : Int32} (C : Cx p s m args meth c cX9_isTape 1 RX9 (some .boolean) G) {x0 : Int32} {μ : Mem} (h : f_X9_isTape x0 μ = some O) : ∀ (H : Heap) (locs : List Loc) (ls : Array Slot), Wm G μ H → va_S (wA G) s.heap H locs → lv_has ls 1 [(0, .int x0)] → W p l e (rmm 1 25) s m args below meth c H locs 0 0 (QI below args s G (O, μ)) (F0 m 0 ls []) := by
  unfold f_X9_isTape at h
  intro H locs ls hP hS hl
  refine lv_iload_n C.x C.b dX9_isTape_0 rfl (lv_at hl 0 rfl) ?_
  refine lv_i2l (v := Int32.toInt64 x0) C.x C.b dX9_isTape_1 rfl ?_
  refine lv_lconst (v := 0) C.x C.b dX9_isTape_2 (by decide) ?_
  refine lv_ldc2 (own := RX9) (v := 5) C.x C.b C.o (C.t _ u6_161) dX9_isTape_3 ?_
  obtain ⟨r2, e1, h⟩ := bnv_some h
  refine k_si (as := [.long (Int32.toInt64 x0), .long 0, .long 5]) (rest := []) (c_X9_in C.i e1) M_X9_in u5_72 C hP hS rfl (by decide) hl.1 rfl (Nat.le_of_ble_eq_true rfl) dX9_isTape_6 (fun H locs hP hS => ?_)
  obtain ⟨g3, h⟩ := grd_some h
  exact r_z (pr_some h) g3 C hP hS dX9_isTape_9

set_option maxRecDepth 100000 in
set_option maxHeartbeats 4000000 in
theorem c_X9_isTape {l : Launch} {G : Gp} (hI : Wi G) {x0 : Int32} {μ : Mem} {r : Int32} (h : f_X9_isTape x0 μ = some r) : CI l yX9_isTape cX9_isTape 1 (some .boolean) 1 25 G [.int x0] μ r μ :=
  e_all (lv := [(0, .int x0)]) hI (by decide) (Nat.le_of_ble_eq_true rfl) rfl (fun p e s m args below meth c ls C hP hS hl => b_X9_isTape C h _ _ _ hP hS hl)


def g_X9_judge_46 (x1 : Int32) (x2 : Int32)  (μ : Mem) (q46 : Int32 → Int32 → Option Int32) (x3 : Int32) (x4 : Int32) : Option Int32 := if 36 ≤ x4 then (some ((-5))) else (bnv (f_X9_isInPlan x4 μ) (fun r3 => if r3 = 0 then (lt (x4 + 1) (fun y5 => q46 x3 y5)) else (if x2 < 0 then (some (100 + x3)) else (grd (inb x1 6) (if x2 < ((μ.1 158 x1.toNatClampNeg) - x3) then (grd (inb x1 6) (grd (inb (x2 + x3) 60) (grd (inb x4 36) (if (lg_cmp (μ.2 (151 + x1.toNatClampNeg) (x2 + x3).toNatClampNeg) (Int32.toInt64 (μ.1 128 x4.toNatClampNeg))) = 0 then (lt (x3 + 1) (fun y14 => lt (x4 + 1) (fun y15 => q46 y14 y15))) else (some x3))))) else (some (100 + x3)))))))
def f_X9_judge_46 (x1 : Int32) (x2 : Int32)  (μ : Mem) : Nat → Int32 → Int32 → Option Int32
  | 0, _, _ => none
  | n + 1, x3, x4 => g_X9_judge_46 x1 x2 μ (f_X9_judge_46 x1 x2 μ n) x3 x4
set_option maxRecDepth 100000 in
set_option maxHeartbeats 4000000 in
theorem w_X9_judge_46 {p : Program} {l : Launch} {e : Env} {s : State} {m : MethodId} {args : Array Value} {below : List Frame} {meth : Method} {c : Code} {G : Gp} {O : Int32} (C : Cx p s m args meth c cX9_judge 5 RX9 (some .int) G) {x1 : Int32} {x2 : Int32} {μ : Mem} {q46 : Int32 → Int32 → Option Int32} (hq46 : ∀ (x3 : Int32) (x4 : Int32), q46 x3 x4 = some O → ∀ (H : Heap) (locs : List Loc) (ls : Array Slot), Wm G μ H → va_S (wA G) s.heap H locs → lv_has ls 5 [(0, .ref (G.2.2 122)), (1, .int x1), (2, .int x2), (3, .int x3), (4, .int x4)] → W p l e (rmm 2 45) s m args below meth c H locs 0 0 (QI below args s G (O, μ)) (F0 m 46 ls [])) : ∀ (x3 : Int32) (x4 : Int32), g_X9_judge_46 x1 x2 μ q46 x3 x4 = some O → ∀ (H : Heap) (locs : List Loc) (ls : Array Slot), Wm G μ H → va_S (wA G) s.heap H locs → lv_has ls 5 [(0, .ref (G.2.2 122)), (1, .int x1), (2, .int x2), (3, .int x3), (4, .int x4)] → W p l e (rmm 2 45) s m args below meth c H locs 0 0 (QI below args s G (O, μ)) (F0 m 46 ls []) := by
  intro x3 x4 h H locs ls hP hS hl
  unfold g_X9_judge_46 at h
  refine lv_iload C.x C.b dX9_judge_46 (lv_at hl 4 rfl) ?_
  refine lv_bipush (v := 36) C.x C.b dX9_judge_48 (by decide) ?_
  refine lv_icmp_ge (tgt := 116) C.x C.b dX9_judge_50 (by decide) (fun c1 => ?_) (fun c1 => ?_)
  · have h := (if_pos c1).symm.trans h
    refine lv_bipush (v := (-5)) C.x C.b dX9_judge_116 (by decide) ?_
    exact r_i (pr_some h) C hP hS dX9_judge_118
  · have h := (if_neg c1).symm.trans h
    refine lv_aload_n C.x C.b dX9_judge_53 rfl (lv_at hl 0 rfl) ?_
    refine lv_iload C.x C.b dX9_judge_54 (lv_at hl 4 rfl) ?_
    obtain ⟨r3, e2, h⟩ := bnv_some h
    refine k_vi (k := 122) (as := [.int x4]) (rest := []) (c_X9_isInPlan C.i e2) M_X9_isInPlan u5_217 C hP hS sh_122 rfl rfl (by decide) hl.1 rfl (Nat.le_of_ble_eq_true rfl) dX9_judge_56 (fun H locs hP hS => ?_)
    refine lv_if_eq (tgt := 110) C.x C.b dX9_judge_59 (by decide) (fun c4 => ?_) (fun c4 => ?_)
    · have h := (if_pos c4).symm.trans h
      obtain ⟨y5, e_y5, h⟩ := lt_ex h
      refine lv_iinc (v := y5) (lv' := [(4, .int y5), (0, .ref (G.2.2 122)), (1, .int x1), (2, .int x2), (3, .int x3)]) C.x C.b dX9_judge_110 hl (k := 4) rfl (by rw [e_y5]; rfl) (by decide) rfl (fun ls hl => ?_)
      refine lv_goto (tgt := 46) C.x C.b dX9_judge_113 (by decide) ?_
      exact hq46 x3 y5 h _ _ _ hP hS (lv_sub hl [1, 2, 3, 4, 0] rfl)
    · have h := (if_neg c4).symm.trans h
      refine lv_iload_n C.x C.b dX9_judge_62 rfl (lv_at hl 2 rfl) ?_
      refine lv_if_lt (tgt := 78) C.x C.b dX9_judge_63 (by decide) (fun c6 => ?_) (fun c6 => ?_)
      · have h := (if_pos c6).symm.trans h
        refine lv_bipush (v := 100) C.x C.b dX9_judge_78 (by decide) ?_
        refine lv_iload_n C.x C.b dX9_judge_80 rfl (lv_at hl 3 rfl) ?_
        refine lv_iadd C.x C.b dX9_judge_81 ?_
        exact r_i (pr_some h) C hP hS dX9_judge_82
      · have h := (if_neg c6).symm.trans h
        refine lv_iload_n C.x C.b dX9_judge_66 rfl (lv_at hl 2 rfl) ?_
        refine lv_aload_n C.x C.b dX9_judge_67 rfl (lv_at hl 0 rfl) ?_
        refine g_ref (k' := 158) F_9_49 u4_178 C hP sh_122 rfl dX9_judge_68 ?_
        refine lv_iload_n C.x C.b dX9_judge_71 rfl (lv_at hl 1 rfl) ?_
        obtain ⟨g7, h⟩ := grd_some h
        refine a_i C hP sh_158 g7 dX9_judge_72 ?_
        refine lv_iload_n C.x C.b dX9_judge_73 rfl (lv_at hl 3 rfl) ?_
        refine lv_isub C.x C.b dX9_judge_74 ?_
        refine lv_icmp_lt (tgt := 83) C.x C.b dX9_judge_75 (by decide) (fun c8 => ?_) (fun c8 => ?_)
        · have h := (if_pos c8).symm.trans h
          refine lv_aload_n C.x C.b dX9_judge_83 rfl (lv_at hl 0 rfl) ?_
          refine g_ref (k' := 150) F_9_47 u4_176 C hP sh_122 rfl dX9_judge_84 ?_
          refine lv_iload_n C.x C.b dX9_judge_87 rfl (lv_at hl 1 rfl) ?_
          obtain ⟨g9, h⟩ := grd_some h
          refine a_qq (k' := 151 + x1.toNatClampNeg) C hP sh_150 g9 rfl dX9_judge_88 ?_
          have ht10 : shp[151 + x1.toNatClampNeg]? = some (.inr (3, 60)) := mrow_at g9
          refine lv_iload_n C.x C.b dX9_judge_89 rfl (lv_at hl 2 rfl) ?_
          refine lv_iload_n C.x C.b dX9_judge_90 rfl (lv_at hl 3 rfl) ?_
          refine lv_iadd C.x C.b dX9_judge_91 ?_
          obtain ⟨g11, h⟩ := grd_some h
          refine a_l C hP ht10 g11 dX9_judge_92 ?_
          refine lv_aload_n C.x C.b dX9_judge_93 rfl (lv_at hl 0 rfl) ?_
          refine g_ref (k' := 128) F_9_11 u4_140 C hP sh_122 rfl dX9_judge_94 ?_
          refine lv_iload C.x C.b dX9_judge_97 (lv_at hl 4 rfl) ?_
          obtain ⟨g12, h⟩ := grd_some h
          refine a_i C hP sh_128 g12 dX9_judge_99 ?_
          refine lv_i2l (v := Int32.toInt64 (μ.1 128 x4.toNatClampNeg)) C.x C.b dX9_judge_100 rfl ?_
          refine W.lcmp C.x C.b dX9_judge_101 ?_
          refine lv_if_eq (tgt := 107) C.x C.b dX9_judge_102 (by decide) (fun c13 => ?_) (fun c13 => ?_)
          · have h := (if_pos c13).symm.trans h
            obtain ⟨y14, e_y14, h⟩ := lt_ex h
            refine lv_iinc (v := y14) (lv' := [(3, .int y14), (0, .ref (G.2.2 122)), (1, .int x1), (2, .int x2), (4, .int x4)]) C.x C.b dX9_judge_107 hl (k := 3) rfl (by rw [e_y14]; rfl) (by decide) rfl (fun ls hl => ?_)
            obtain ⟨y15, e_y15, h⟩ := lt_ex h
            refine lv_iinc (v := y15) (lv' := [(4, .int y15), (3, .int y14), (0, .ref (G.2.2 122)), (1, .int x1), (2, .int x2)]) C.x C.b dX9_judge_110 hl (k := 4) rfl (by rw [e_y15]; rfl) (by decide) rfl (fun ls hl => ?_)
            refine lv_goto (tgt := 46) C.x C.b dX9_judge_113 (by decide) ?_
            exact hq46 y14 y15 h _ _ _ hP hS (lv_sub hl [2, 3, 4, 1, 0] rfl)
          · have h := (if_neg c13).symm.trans h
            refine lv_iload_n C.x C.b dX9_judge_105 rfl (lv_at hl 3 rfl) ?_
            exact r_i (pr_some h) C hP hS dX9_judge_106
        · have h := (if_neg c8).symm.trans h
          refine lv_bipush (v := 100) C.x C.b dX9_judge_78 (by decide) ?_
          refine lv_iload_n C.x C.b dX9_judge_80 rfl (lv_at hl 3 rfl) ?_
          refine lv_iadd C.x C.b dX9_judge_81 ?_
          exact r_i (pr_some h) C hP hS dX9_judge_82

set_option maxRecDepth 100000 in
set_option maxHeartbeats 4000000 in
theorem b_X9_judge_46 {p : Program} {l : Launch} {e : Env} {s : State} {m : MethodId} {args : Array Value} {below : List Frame} {meth : Method} {c : Code} {G : Gp} {O : Int32} (C : Cx p s m args meth c cX9_judge 5 RX9 (some .int) G) {x1 : Int32} {x2 : Int32} {μ : Mem} : ∀ (n : Nat) (x3 : Int32) (x4 : Int32), f_X9_judge_46 x1 x2 μ n x3 x4 = some O → ∀ (H : Heap) (locs : List Loc) (ls : Array Slot), Wm G μ H → va_S (wA G) s.heap H locs → lv_has ls 5 [(0, .ref (G.2.2 122)), (1, .int x1), (2, .int x2), (3, .int x3), (4, .int x4)] → W p l e (rmm 2 45) s m args below meth c H locs 0 0 (QI below args s G (O, μ)) (F0 m 46 ls []) := by
  intro n
  induction n with
  | zero => intro x3 x4 h; cases h
  | succ n ih => intro x3 x4 h; exact w_X9_judge_46 C (q46 := f_X9_judge_46 x1 x2 μ n) ih x3 x4 h

def f_X9_judge (x1 : Int32) (x2 : Int32) (μ : Mem) : Option Int32 := bnv (f_X9_isTape x1 μ) (fun r2 => if r2 = 0 then (some ((-1))) else (if (μ.1 122 6) = 0 then (some ((-3))) else (grd (inb x1 6) (if (μ.1 157 x1.toNatClampNeg) < 0 then (f_X9_judge_46 x1 x2 μ FU 0 0) else (grd (inb x1 6) (if (μ.1 157 x1.toNatClampNeg) = 3 then (f_X9_judge_46 x1 x2 μ FU 0 0) else (some ((-12)))))))))
set_option maxRecDepth 100000 in
set_option maxHeartbeats 4000000 in
theorem b_X9_judge {p : Program} {l : Launch} {e : Env} {s : State} {m : MethodId} {args : Array Value} {below : List Frame} {meth : Method} {c : Code} {G : Gp} {O : Int32} (C : Cx p s m args meth c cX9_judge 5 RX9 (some .int) G) {x1 : Int32} {x2 : Int32} {μ : Mem} (h : f_X9_judge x1 x2 μ = some O) : ∀ (H : Heap) (locs : List Loc) (ls : Array Slot), Wm G μ H → va_S (wA G) s.heap H locs → lv_has ls 5 [(0, .ref (G.2.2 122)), (1, .int x1), (2, .int x2)] → W p l e (rmm 2 45) s m args below meth c H locs 0 0 (QI below args s G (O, μ)) (F0 m 0 ls []) := by
  unfold f_X9_judge at h
  intro H locs ls hP hS hl
  refine lv_iload_n C.x C.b dX9_judge_0 rfl (lv_at hl 1 rfl) ?_
  obtain ⟨r2, e1, h⟩ := bnv_some h
  refine k_si (as := [.int x1]) (rest := []) (c_X9_isTape C.i e1) M_X9_isTape u6_158 C hP hS rfl (by decide) hl.1 rfl (Nat.le_of_ble_eq_true rfl) dX9_judge_1 (fun H locs hP hS => ?_)
  refine lv_if_ne (tgt := 9) C.x C.b dX9_judge_4 (by decide) (fun c3 => ?_) (fun c3 => ?_)
  · have h := (if_neg c3).symm.trans h
    refine lv_aload_n C.x C.b dX9_judge_9 rfl (lv_at hl 0 rfl) ?_
    refine g_int F_9_6 u4_135 C hP sh_122 dX9_judge_10 ?_
    refine lv_if_ne (tgt := 19) C.x C.b dX9_judge_13 (by decide) (fun c4 => ?_) (fun c4 => ?_)
    · have h := (if_neg c4).symm.trans h
      refine lv_aload_n C.x C.b dX9_judge_19 rfl (lv_at hl 0 rfl) ?_
      refine g_ref (k' := 157) F_9_48 u4_177 C hP sh_122 rfl dX9_judge_20 ?_
      refine lv_iload_n C.x C.b dX9_judge_23 rfl (lv_at hl 1 rfl) ?_
      obtain ⟨g5, h⟩ := grd_some h
      refine a_i C hP sh_157 g5 dX9_judge_24 ?_
      refine lv_if_lt (tgt := 41) C.x C.b dX9_judge_25 (by decide) (fun c6 => ?_) (fun c6 => ?_)
      · have h := (if_pos c6).symm.trans h
        refine lv_iconst (v := 0) C.x C.b dX9_judge_41 (by decide) ?_
        refine lv_istore_n (lv' := [(3, .int 0), (0, .ref (G.2.2 122)), (1, .int x1), (2, .int x2)]) C.x C.b dX9_judge_42 rfl hl (by decide) rfl (fun ls hl => ?_)
        refine lv_iconst (v := 0) C.x C.b dX9_judge_43 (by decide) ?_
        refine lv_istore (lv' := [(4, .int 0), (3, .int 0), (0, .ref (G.2.2 122)), (1, .int x1), (2, .int x2)]) C.x C.b dX9_judge_44 hl (by decide) rfl (fun ls hl => ?_)
        exact b_X9_judge_46 C FU 0 0 h _ _ _ hP hS (lv_sub hl [2, 3, 4, 1, 0] rfl)
      · have h := (if_neg c6).symm.trans h
        refine lv_aload_n C.x C.b dX9_judge_28 rfl (lv_at hl 0 rfl) ?_
        refine g_ref (k' := 157) F_9_48 u4_177 C hP sh_122 rfl dX9_judge_29 ?_
        refine lv_iload_n C.x C.b dX9_judge_32 rfl (lv_at hl 1 rfl) ?_
        obtain ⟨g7, h⟩ := grd_some h
        refine a_i C hP sh_157 g7 dX9_judge_33 ?_
        refine lv_iconst (v := 3) C.x C.b dX9_judge_34 (by decide) ?_
        refine lv_icmp_eq (tgt := 41) C.x C.b dX9_judge_35 (by decide) (fun c8 => ?_) (fun c8 => ?_)
        · have h := (if_pos c8).symm.trans h
          refine lv_iconst (v := 0) C.x C.b dX9_judge_41 (by decide) ?_
          refine lv_istore_n (lv' := [(3, .int 0), (0, .ref (G.2.2 122)), (1, .int x1), (2, .int x2)]) C.x C.b dX9_judge_42 rfl hl (by decide) rfl (fun ls hl => ?_)
          refine lv_iconst (v := 0) C.x C.b dX9_judge_43 (by decide) ?_
          refine lv_istore (lv' := [(4, .int 0), (3, .int 0), (0, .ref (G.2.2 122)), (1, .int x1), (2, .int x2)]) C.x C.b dX9_judge_44 hl (by decide) rfl (fun ls hl => ?_)
          exact b_X9_judge_46 C FU 0 0 h _ _ _ hP hS (lv_sub hl [2, 3, 4, 1, 0] rfl)
        · have h := (if_neg c8).symm.trans h
          refine lv_bipush (v := (-12)) C.x C.b dX9_judge_38 (by decide) ?_
          exact r_i (pr_some h) C hP hS dX9_judge_40
    · have h := (if_pos c4).symm.trans h
      refine lv_bipush (v := (-3)) C.x C.b dX9_judge_16 (by decide) ?_
      exact r_i (pr_some h) C hP hS dX9_judge_18
  · have h := (if_pos c3).symm.trans h
    refine lv_iconst (v := (-1)) C.x C.b dX9_judge_7 (by decide) ?_
    exact r_i (pr_some h) C hP hS dX9_judge_8

set_option maxRecDepth 100000 in
set_option maxHeartbeats 4000000 in
theorem c_X9_judge {l : Launch} {G : Gp} (hI : Wi G) {x1 : Int32} {x2 : Int32} {μ : Mem} {r : Int32} (h : f_X9_judge x1 x2 μ = some r) : CI l yX9_judge cX9_judge 5 (some .int) 2 45 G [.ref (G.2.2 122), .int x1, .int x2] μ r μ :=
  e_all (lv := [(0, .ref (G.2.2 122)), (1, .int x1), (2, .int x2)]) hI (by decide) (Nat.le_of_ble_eq_true rfl) rfl (fun p e s m args below meth c ls C hP hS hl => b_X9_judge C h _ _ _ hP hS hl)


def g_X9_shutRoads_14  (q4 : Int32 → Int32 → Option Int32) (μ : Mem) (q14 : Int32 → Int32 → Int32 → Option Int32) (x1 : Int32) (x2 : Int32) (x3 : Int32) : Option Int32 := if (μ.1 122 1) ≤ x3 then (lt (x2 + 1) (fun y2 => q4 x1 y2)) else (grd (inb ((5 * x2) + x3) 25) (if (μ.1 125 ((5 * x2) + x3).toNatClampNeg) = 3 then (lt (x1 + 1) (fun y7 => lt (x3 + 1) (fun y8 => q14 y7 x2 y8))) else (lt (x1 + 0) (fun y5 => lt (x3 + 1) (fun y6 => q14 y5 x2 y6)))))
def f_X9_shutRoads_14  (q4 : Int32 → Int32 → Option Int32) (μ : Mem) : Nat → Int32 → Int32 → Int32 → Option Int32
  | 0, _, _, _ => none
  | n + 1, x1, x2, x3 => g_X9_shutRoads_14  q4 μ (f_X9_shutRoads_14  q4 μ n) x1 x2 x3
set_option maxRecDepth 100000 in
set_option maxHeartbeats 4000000 in
theorem w_X9_shutRoads_14 {p : Program} {l : Launch} {e : Env} {s : State} {m : MethodId} {args : Array Value} {below : List Frame} {meth : Method} {c : Code} {G : Gp} {O : Int32} (C : Cx p s m args meth c cX9_shutRoads 4 RX9 (some .int) G) {μ : Mem} {q4 : Int32 → Int32 → Option Int32} (hq4 : ∀ (x1 : Int32) (x2 : Int32), q4 x1 x2 = some O → ∀ (H : Heap) (locs : List Loc) (ls : Array Slot), Wm G μ H → va_S (wA G) s.heap H locs → lv_has ls 4 [(0, .ref (G.2.2 122)), (1, .int x1), (2, .int x2)] → W p l e (rmm 0 0) s m args below meth c H locs 0 0 (QI below args s G (O, μ)) (F0 m 4 ls [])) {q14 : Int32 → Int32 → Int32 → Option Int32} (hq14 : ∀ (x1 : Int32) (x2 : Int32) (x3 : Int32), q14 x1 x2 x3 = some O → ∀ (H : Heap) (locs : List Loc) (ls : Array Slot), Wm G μ H → va_S (wA G) s.heap H locs → lv_has ls 4 [(0, .ref (G.2.2 122)), (1, .int x1), (2, .int x2), (3, .int x3)] → W p l e (rmm 0 0) s m args below meth c H locs 0 0 (QI below args s G (O, μ)) (F0 m 14 ls [])) : ∀ (x1 : Int32) (x2 : Int32) (x3 : Int32), g_X9_shutRoads_14 q4 μ q14 x1 x2 x3 = some O → ∀ (H : Heap) (locs : List Loc) (ls : Array Slot), Wm G μ H → va_S (wA G) s.heap H locs → lv_has ls 4 [(0, .ref (G.2.2 122)), (1, .int x1), (2, .int x2), (3, .int x3)] → W p l e (rmm 0 0) s m args below meth c H locs 0 0 (QI below args s G (O, μ)) (F0 m 14 ls []) := by
  intro x1 x2 x3 h H locs ls hP hS hl
  unfold g_X9_shutRoads_14 at h
  refine lv_iload_n C.x C.b dX9_shutRoads_14 rfl (lv_at hl 3 rfl) ?_
  refine lv_aload_n C.x C.b dX9_shutRoads_15 rfl (lv_at hl 0 rfl) ?_
  refine g_int F_9_1 u4_130 C hP sh_122 dX9_shutRoads_16 ?_
  refine lv_icmp_ge (tgt := 50) C.x C.b dX9_shutRoads_19 (by decide) (fun c1 => ?_) (fun c1 => ?_)
  · have h := (if_pos c1).symm.trans h
    obtain ⟨y2, e_y2, h⟩ := lt_ex h
    refine lv_iinc (v := y2) (lv' := [(2, .int y2), (0, .ref (G.2.2 122)), (1, .int x1), (3, .int x3)]) C.x C.b dX9_shutRoads_50 hl (k := 2) rfl (by rw [e_y2]; rfl) (by decide) rfl (fun ls hl => ?_)
    refine lv_goto (tgt := 4) C.x C.b dX9_shutRoads_53 (by decide) ?_
    exact hq4 x1 y2 h _ _ _ hP hS (lv_sub hl [1, 2, 0] rfl)
  · have h := (if_neg c1).symm.trans h
    refine lv_iload_n C.x C.b dX9_shutRoads_22 rfl (lv_at hl 1 rfl) ?_
    refine lv_aload_n C.x C.b dX9_shutRoads_23 rfl (lv_at hl 0 rfl) ?_
    refine g_ref (k' := 125) F_9_4 u4_133 C hP sh_122 rfl dX9_shutRoads_24 ?_
    refine lv_iconst (v := 5) C.x C.b dX9_shutRoads_27 (by decide) ?_
    refine lv_iload_n C.x C.b dX9_shutRoads_28 rfl (lv_at hl 2 rfl) ?_
    refine lv_imul C.x C.b dX9_shutRoads_29 ?_
    refine lv_iload_n C.x C.b dX9_shutRoads_30 rfl (lv_at hl 3 rfl) ?_
    refine lv_iadd C.x C.b dX9_shutRoads_31 ?_
    obtain ⟨g3, h⟩ := grd_some h
    refine a_i C hP sh_125 g3 dX9_shutRoads_32 ?_
    refine lv_iconst (v := 3) C.x C.b dX9_shutRoads_33 (by decide) ?_
    refine lv_icmp_ne (tgt := 41) C.x C.b dX9_shutRoads_34 (by decide) (fun c4 => ?_) (fun c4 => ?_)
    · have h := (if_neg c4).symm.trans h
      refine lv_iconst (v := 0) C.x C.b dX9_shutRoads_41 (by decide) ?_
      refine lv_iadd C.x C.b dX9_shutRoads_42 ?_
      refine lv_topi (fun y5 e_y5 => ?_)
      have h := lt_at h e_y5
      refine lv_istore_n (lv' := [(1, .int y5), (0, .ref (G.2.2 122)), (2, .int x2), (3, .int x3)]) C.x C.b dX9_shutRoads_43 rfl hl (by decide) rfl (fun ls hl => ?_)
      obtain ⟨y6, e_y6, h⟩ := lt_ex h
      refine lv_iinc (v := y6) (lv' := [(3, .int y6), (1, .int y5), (0, .ref (G.2.2 122)), (2, .int x2)]) C.x C.b dX9_shutRoads_44 hl (k := 3) rfl (by rw [e_y6]; rfl) (by decide) rfl (fun ls hl => ?_)
      refine lv_goto (tgt := 14) C.x C.b dX9_shutRoads_47 (by decide) ?_
      exact hq14 y5 x2 y6 h _ _ _ hP hS (lv_sub hl [2, 1, 3, 0] rfl)
    · have h := (if_pos c4).symm.trans h
      refine lv_iconst (v := 1) C.x C.b dX9_shutRoads_37 (by decide) ?_
      refine lv_goto (tgt := 42) C.x C.b dX9_shutRoads_38 (by decide) ?_
      refine lv_iadd C.x C.b dX9_shutRoads_42 ?_
      refine lv_topi (fun y7 e_y7 => ?_)
      have h := lt_at h e_y7
      refine lv_istore_n (lv' := [(1, .int y7), (0, .ref (G.2.2 122)), (2, .int x2), (3, .int x3)]) C.x C.b dX9_shutRoads_43 rfl hl (by decide) rfl (fun ls hl => ?_)
      obtain ⟨y8, e_y8, h⟩ := lt_ex h
      refine lv_iinc (v := y8) (lv' := [(3, .int y8), (1, .int y7), (0, .ref (G.2.2 122)), (2, .int x2)]) C.x C.b dX9_shutRoads_44 hl (k := 3) rfl (by rw [e_y8]; rfl) (by decide) rfl (fun ls hl => ?_)
      refine lv_goto (tgt := 14) C.x C.b dX9_shutRoads_47 (by decide) ?_
      exact hq14 y7 x2 y8 h _ _ _ hP hS (lv_sub hl [2, 1, 3, 0] rfl)

set_option maxRecDepth 100000 in
set_option maxHeartbeats 4000000 in
theorem b_X9_shutRoads_14 {p : Program} {l : Launch} {e : Env} {s : State} {m : MethodId} {args : Array Value} {below : List Frame} {meth : Method} {c : Code} {G : Gp} {O : Int32} (C : Cx p s m args meth c cX9_shutRoads 4 RX9 (some .int) G) {μ : Mem} {q4 : Int32 → Int32 → Option Int32} (hq4 : ∀ (x1 : Int32) (x2 : Int32), q4 x1 x2 = some O → ∀ (H : Heap) (locs : List Loc) (ls : Array Slot), Wm G μ H → va_S (wA G) s.heap H locs → lv_has ls 4 [(0, .ref (G.2.2 122)), (1, .int x1), (2, .int x2)] → W p l e (rmm 0 0) s m args below meth c H locs 0 0 (QI below args s G (O, μ)) (F0 m 4 ls [])) : ∀ (n : Nat) (x1 : Int32) (x2 : Int32) (x3 : Int32), f_X9_shutRoads_14 q4 μ n x1 x2 x3 = some O → ∀ (H : Heap) (locs : List Loc) (ls : Array Slot), Wm G μ H → va_S (wA G) s.heap H locs → lv_has ls 4 [(0, .ref (G.2.2 122)), (1, .int x1), (2, .int x2), (3, .int x3)] → W p l e (rmm 0 0) s m args below meth c H locs 0 0 (QI below args s G (O, μ)) (F0 m 14 ls []) := by
  intro n
  induction n with
  | zero => intro x1 x2 x3 h; cases h
  | succ n ih => intro x1 x2 x3 h; exact w_X9_shutRoads_14 C hq4 (q14 := f_X9_shutRoads_14 q4 μ n) ih x1 x2 x3 h

def g_X9_shutRoads_4   (μ : Mem) (q4 : Int32 → Int32 → Option Int32) (x1 : Int32) (x2 : Int32) : Option Int32 := if (μ.1 122 0) ≤ x2 then (some x1) else (f_X9_shutRoads_14 q4 μ FU x1 x2 0)
def f_X9_shutRoads_4   (μ : Mem) : Nat → Int32 → Int32 → Option Int32
  | 0, _, _ => none
  | n + 1, x1, x2 => g_X9_shutRoads_4  μ (f_X9_shutRoads_4  μ n) x1 x2
set_option maxRecDepth 100000 in
set_option maxHeartbeats 4000000 in
theorem w_X9_shutRoads_4 {p : Program} {l : Launch} {e : Env} {s : State} {m : MethodId} {args : Array Value} {below : List Frame} {meth : Method} {c : Code} {G : Gp} {O : Int32} (C : Cx p s m args meth c cX9_shutRoads 4 RX9 (some .int) G) {μ : Mem} {q4 : Int32 → Int32 → Option Int32} (hq4 : ∀ (x1 : Int32) (x2 : Int32), q4 x1 x2 = some O → ∀ (H : Heap) (locs : List Loc) (ls : Array Slot), Wm G μ H → va_S (wA G) s.heap H locs → lv_has ls 4 [(0, .ref (G.2.2 122)), (1, .int x1), (2, .int x2)] → W p l e (rmm 0 0) s m args below meth c H locs 0 0 (QI below args s G (O, μ)) (F0 m 4 ls [])) : ∀ (x1 : Int32) (x2 : Int32), g_X9_shutRoads_4 μ q4 x1 x2 = some O → ∀ (H : Heap) (locs : List Loc) (ls : Array Slot), Wm G μ H → va_S (wA G) s.heap H locs → lv_has ls 4 [(0, .ref (G.2.2 122)), (1, .int x1), (2, .int x2)] → W p l e (rmm 0 0) s m args below meth c H locs 0 0 (QI below args s G (O, μ)) (F0 m 4 ls []) := by
  intro x1 x2 h H locs ls hP hS hl
  unfold g_X9_shutRoads_4 at h
  refine lv_iload_n C.x C.b dX9_shutRoads_4 rfl (lv_at hl 2 rfl) ?_
  refine lv_aload_n C.x C.b dX9_shutRoads_5 rfl (lv_at hl 0 rfl) ?_
  refine g_int F_9_0 u4_129 C hP sh_122 dX9_shutRoads_6 ?_
  refine lv_icmp_ge (tgt := 56) C.x C.b dX9_shutRoads_9 (by decide) (fun c1 => ?_) (fun c1 => ?_)
  · have h := (if_pos c1).symm.trans h
    refine lv_iload_n C.x C.b dX9_shutRoads_56 rfl (lv_at hl 1 rfl) ?_
    exact r_i (pr_some h) C hP hS dX9_shutRoads_57
  · have h := (if_neg c1).symm.trans h
    refine lv_iconst (v := 0) C.x C.b dX9_shutRoads_12 (by decide) ?_
    refine lv_istore_n (lv' := [(3, .int 0), (0, .ref (G.2.2 122)), (1, .int x1), (2, .int x2)]) C.x C.b dX9_shutRoads_13 rfl hl (by decide) rfl (fun ls hl => ?_)
    exact b_X9_shutRoads_14 C hq4 FU x1 x2 0 h _ _ _ hP hS (lv_sub hl [1, 2, 3, 0] rfl)

set_option maxRecDepth 100000 in
set_option maxHeartbeats 4000000 in
theorem b_X9_shutRoads_4 {p : Program} {l : Launch} {e : Env} {s : State} {m : MethodId} {args : Array Value} {below : List Frame} {meth : Method} {c : Code} {G : Gp} {O : Int32} (C : Cx p s m args meth c cX9_shutRoads 4 RX9 (some .int) G) {μ : Mem} : ∀ (n : Nat) (x1 : Int32) (x2 : Int32), f_X9_shutRoads_4 μ n x1 x2 = some O → ∀ (H : Heap) (locs : List Loc) (ls : Array Slot), Wm G μ H → va_S (wA G) s.heap H locs → lv_has ls 4 [(0, .ref (G.2.2 122)), (1, .int x1), (2, .int x2)] → W p l e (rmm 0 0) s m args below meth c H locs 0 0 (QI below args s G (O, μ)) (F0 m 4 ls []) := by
  intro n
  induction n with
  | zero => intro x1 x2 h; cases h
  | succ n ih => intro x1 x2 h; exact w_X9_shutRoads_4 C (q4 := f_X9_shutRoads_4 μ n) ih x1 x2 h

def f_X9_shutRoads  (μ : Mem) : Option Int32 := f_X9_shutRoads_4 μ FU 0 0
set_option maxRecDepth 100000 in
set_option maxHeartbeats 4000000 in
theorem b_X9_shutRoads {p : Program} {l : Launch} {e : Env} {s : State} {m : MethodId} {args : Array Value} {below : List Frame} {meth : Method} {c : Code} {G : Gp} {O : Int32} (C : Cx p s m args meth c cX9_shutRoads 4 RX9 (some .int) G) {μ : Mem} (h : f_X9_shutRoads μ = some O) : ∀ (H : Heap) (locs : List Loc) (ls : Array Slot), Wm G μ H → va_S (wA G) s.heap H locs → lv_has ls 4 [(0, .ref (G.2.2 122))] → W p l e (rmm 0 0) s m args below meth c H locs 0 0 (QI below args s G (O, μ)) (F0 m 0 ls []) := by
  unfold f_X9_shutRoads at h
  intro H locs ls hP hS hl
  refine lv_iconst (v := 0) C.x C.b dX9_shutRoads_0 (by decide) ?_
  refine lv_istore_n (lv' := [(1, .int 0), (0, .ref (G.2.2 122))]) C.x C.b dX9_shutRoads_1 rfl hl (by decide) rfl (fun ls hl => ?_)
  refine lv_iconst (v := 0) C.x C.b dX9_shutRoads_2 (by decide) ?_
  refine lv_istore_n (lv' := [(2, .int 0), (1, .int 0), (0, .ref (G.2.2 122))]) C.x C.b dX9_shutRoads_3 rfl hl (by decide) rfl (fun ls hl => ?_)
  exact b_X9_shutRoads_4 C FU 0 0 h _ _ _ hP hS (lv_sub hl [2, 1, 0] rfl)

set_option maxRecDepth 100000 in
set_option maxHeartbeats 4000000 in
theorem c_X9_shutRoads {l : Launch} {G : Gp} (hI : Wi G) {μ : Mem} {r : Int32} (h : f_X9_shutRoads μ = some r) : CI l yX9_shutRoads cX9_shutRoads 4 (some .int) 0 0 G [.ref (G.2.2 122)] μ r μ :=
  e_all (lv := [(0, .ref (G.2.2 122))]) hI (by decide) (Nat.le_of_ble_eq_true rfl) rfl (fun p e s m args below meth c ls C hP hS hl => b_X9_shutRoads C h _ _ _ hP hS hl)

