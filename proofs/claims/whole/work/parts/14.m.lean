def f_X8_see (x1 : Int32) (x2 : Int32) (x3 : Int32) (μ : Mem) : Option (Int32 × Mem) := if x1 = ((-1)) then (bnd (f_X4_drop 42 μ) (fun r14 μ15 => some (r14, μ15))) else (bnv (f_X0_isRoad 15 x1 x2 μ) (fun r3 => if r3 = 0 then (some ((-1), μ)) else (bnv (f_X8_isUpTo x3 99 μ) (fun r6 => if r6 = 0 then (some ((-2), μ)) else (bnv (f_X8_cellAt x1 x2 μ) (fun r9 => bnd (f_X4_add 42 r9 x3 μ) (fun r11 μ12 => some (r11, μ12))))))))
set_option maxRecDepth 100000 in
set_option maxHeartbeats 4000000 in
theorem b_X8_see {p : Program} {l : Launch} {e : Env} {s : State} {m : MethodId} {args : Array Value} {below : List Frame} {meth : Method} {c : Code} {G : Gp} {O : (Int32 × Mem)} (C : Cx p s m args meth c cX8_see 4 RX8 (some .int) G) {x1 : Int32} {x2 : Int32} {x3 : Int32} {μ : Mem} (h : f_X8_see x1 x2 x3 μ = some O) : ∀ (H : Heap) (locs : List Loc) (ls : Array Slot), Wm G μ H → va_S (wA G) s.heap H locs → lv_has ls 4 [(0, .ref (G.2.2 0)), (1, .int x1), (2, .int x2), (3, .int x3)] → W p l e (rmm 1 22) s m args below meth c H locs 0 0 (QI below args s G O) (F0 m 0 ls []) := by
  unfold f_X8_see at h
  intro H locs ls hP hS hl
  refine lv_iload_n C.x C.b dX8_see_0 rfl (lv_at hl 1 rfl) ?_
  refine lv_iconst (v := (-1)) C.x C.b dX8_see_1 (by decide) ?_
  refine lv_icmp_ne (tgt := 16) C.x C.b dX8_see_2 (by decide) (fun c1 => ?_) (fun c1 => ?_)
  · have h := (if_neg c1).symm.trans h
    refine lv_aload_n C.x C.b dX8_see_16 rfl (lv_at hl 0 rfl) ?_
    refine g_ref (k' := 14) F_8_0 u2_79 C hP sh_0 rfl dX8_see_17 ?_
    refine g_ref (k' := 15) F_6_0 u1_237 C hP sh_14 rfl dX8_see_20 ?_
    refine lv_iload_n C.x C.b dX8_see_23 rfl (lv_at hl 1 rfl) ?_
    refine lv_iload_n C.x C.b dX8_see_24 rfl (lv_at hl 2 rfl) ?_
    obtain ⟨r3, e2, h⟩ := bnv_some h
    refine k_vi (k := 15) (as := [.int x1, .int x2]) (rest := []) (c_X0_isRoad C.i at_sGround_15 e2) M_X0_isRoad u2_136 C hP hS sh_15 rfl rfl (by decide) hl.1 rfl (Nat.le_of_ble_eq_true rfl) dX8_see_25 (fun H locs hP hS => ?_)
    refine lv_if_ne (tgt := 33) C.x C.b dX8_see_28 (by decide) (fun c4 => ?_) (fun c4 => ?_)
    · have h := (if_neg c4).symm.trans h
      refine lv_iload_n C.x C.b dX8_see_33 rfl (lv_at hl 3 rfl) ?_
      refine lv_bipush (v := 99) C.x C.b dX8_see_34 (by decide) ?_
      obtain ⟨r6, e5, h⟩ := bnv_some h
      refine k_si (as := [.int x3, .int 99]) (rest := []) (c_X8_isUpTo C.i e5) M_X8_isUpTo u2_105 C hP hS rfl (by decide) hl.1 rfl (Nat.le_of_ble_eq_true rfl) dX8_see_36 (fun H locs hP hS => ?_)
      refine lv_if_eq (tgt := 61) C.x C.b dX8_see_39 (by decide) (fun c7 => ?_) (fun c7 => ?_)
      · have h := (if_pos c7).symm.trans h
        refine lv_bipush (v := (-2)) C.x C.b dX8_see_61 (by decide) ?_
        exact r_i h C hP hS dX8_see_63
      · have h := (if_neg c7).symm.trans h
        refine lv_aload_n C.x C.b dX8_see_42 rfl (lv_at hl 0 rfl) ?_
        refine g_ref (k' := 14) F_8_0 u2_79 C hP sh_0 rfl dX8_see_43 ?_
        refine g_ref (k' := 42) F_6_2 u2_1 C hP sh_14 rfl dX8_see_46 ?_
        refine lv_iload_n C.x C.b dX8_see_49 rfl (lv_at hl 1 rfl) ?_
        refine lv_iload_n C.x C.b dX8_see_50 rfl (lv_at hl 2 rfl) ?_
        obtain ⟨r9, e8, h⟩ := bnv_some h
        refine k_si (as := [.int x1, .int x2]) (rest := [.ref (G.2.2 42)]) (c_X8_cellAt C.i e8) M_X8_cellAt u3_115 C hP hS rfl (by decide) hl.1 rfl (Nat.le_of_ble_eq_true rfl) dX8_see_51 (fun H locs hP hS => ?_)
        refine lv_iload_n C.x C.b dX8_see_54 rfl (lv_at hl 3 rfl) ?_
        obtain ⟨r11, μ12, e10, h⟩ := bnd_some h
        refine k_vi (k := 42) (as := [.int r9, .int x3]) (rest := []) (c_X4_add C.i at_sRows_42 e10) M_X4_add u3_226 C hP hS sh_42 rfl rfl (by decide) hl.1 rfl (Nat.le_of_ble_eq_true rfl) dX8_see_55 (fun H locs hP hS => ?_)
        refine lv_goto (tgt := 63) C.x C.b dX8_see_58 (by decide) ?_
        exact r_i h C hP hS dX8_see_63
    · have h := (if_pos c4).symm.trans h
      refine lv_iconst (v := (-1)) C.x C.b dX8_see_31 (by decide) ?_
      exact r_i h C hP hS dX8_see_32
  · have h := (if_pos c1).symm.trans h
    refine lv_aload_n C.x C.b dX8_see_5 rfl (lv_at hl 0 rfl) ?_
    refine g_ref (k' := 14) F_8_0 u2_79 C hP sh_0 rfl dX8_see_6 ?_
    refine g_ref (k' := 42) F_6_2 u2_1 C hP sh_14 rfl dX8_see_9 ?_
    obtain ⟨r14, μ15, e13, h⟩ := bnd_some h
    refine k_vi (k := 42) (as := []) (rest := []) (c_X4_drop C.i at_sRows_42 e13) M_X4_drop u3_222 C hP hS sh_42 rfl rfl (by decide) hl.1 rfl (Nat.le_of_ble_eq_true rfl) dX8_see_12 (fun H locs hP hS => ?_)
    exact r_i h C hP hS dX8_see_15

set_option maxRecDepth 100000 in
set_option maxHeartbeats 4000000 in
theorem c_X8_see {l : Launch} {G : Gp} (hI : Wi G) {x1 : Int32} {x2 : Int32} {x3 : Int32} {μ : Mem} {r : Int32} {μ' : Mem} (h : f_X8_see x1 x2 x3 μ = some (r, μ')) : CI l yX8_see cX8_see 4 (some .int) 1 22 G [.ref (G.2.2 0), .int x1, .int x2, .int x3] μ r μ' :=
  e_all (lv := [(0, .ref (G.2.2 0)), (1, .int x1), (2, .int x2), (3, .int x3)]) hI (by decide) (Nat.le_of_ble_eq_true rfl) rfl (fun p e s m args below meth c ls C hP hS hl => b_X8_see C h _ _ _ hP hS hl)


def g_X8_fits_49 (x1 : Int32) (x2 : Int32) (x3 : Int32)  (q49 : Int32 → Int32 → Int32 → Mem → Option (Int32 × Mem)) (x4 : Int32) (x5 : Int32) (x6 : Int32) (μ : Mem) : Option (Int32 × Mem) := if 31 ≤ x6 then (if x3 = 0 then (some (x4, μ)) else (some (x5, μ))) else (bnv (f_X8_roadAt x1 x2 μ) (fun r4 => grd (inb r4 25) (lt (st μ 101 r4.toNatClampNeg x6) (fun μ6 => bnd (f_X8_tryTheBest μ6) (fun r8 μ9 => if r8 = 0 then (lt (x6 + 1) (fun y11 => q49 x4 x5 y11 μ9)) else (bnv (f_X4_firstOther 42 104 36 μ9) (fun r13 => if r13 = ((-5)) then (lt (x4 + 1) (fun y16 => if x5 = ((-5)) then (lt (x6 + 1) (fun y19 => q49 y16 x6 y19 μ9)) else (lt (x6 + 1) (fun y18 => q49 y16 x5 y18 μ9)))) else (lt (x6 + 1) (fun y15 => q49 x4 x5 y15 μ9)))))))))
def f_X8_fits_49 (x1 : Int32) (x2 : Int32) (x3 : Int32)  : Nat → Int32 → Int32 → Int32 → Mem → Option (Int32 × Mem)
  | 0, _, _, _, _ => none
  | n + 1, x4, x5, x6, μ => g_X8_fits_49 x1 x2 x3 (f_X8_fits_49 x1 x2 x3 n) x4 x5 x6 μ
set_option maxRecDepth 100000 in
set_option maxHeartbeats 4000000 in
theorem w_X8_fits_49 {p : Program} {l : Launch} {e : Env} {s : State} {m : MethodId} {args : Array Value} {below : List Frame} {meth : Method} {c : Code} {G : Gp} {O : (Int32 × Mem)} (C : Cx p s m args meth c cX8_fits 7 RX8 (some .int) G) {x1 : Int32} {x2 : Int32} {x3 : Int32} {q49 : Int32 → Int32 → Int32 → Mem → Option (Int32 × Mem)} (hq49 : ∀ (x4 : Int32) (x5 : Int32) (x6 : Int32) (μ : Mem), q49 x4 x5 x6 μ = some O → ∀ (H : Heap) (locs : List Loc) (ls : Array Slot), Wm G μ H → va_S (wA G) s.heap H locs → lv_has ls 7 [(0, .ref (G.2.2 0)), (1, .int x1), (2, .int x2), (3, .int x3), (4, .int x4), (5, .int x5), (6, .int x6)] → W p l e (rmm 6 146) s m args below meth c H locs 0 0 (QI below args s G O) (F0 m 49 ls [])) : ∀ (x4 : Int32) (x5 : Int32) (x6 : Int32) (μ : Mem), g_X8_fits_49 x1 x2 x3 q49 x4 x5 x6 μ = some O → ∀ (H : Heap) (locs : List Loc) (ls : Array Slot), Wm G μ H → va_S (wA G) s.heap H locs → lv_has ls 7 [(0, .ref (G.2.2 0)), (1, .int x1), (2, .int x2), (3, .int x3), (4, .int x4), (5, .int x5), (6, .int x6)] → W p l e (rmm 6 146) s m args below meth c H locs 0 0 (QI below args s G O) (F0 m 49 ls []) := by
  intro x4 x5 x6 μ h H locs ls hP hS hl
  unfold g_X8_fits_49 at h
  refine lv_iload C.x C.b dX8_fits_49 (lv_at hl 6 rfl) ?_
  refine lv_bipush (v := 31) C.x C.b dX8_fits_51 (by decide) ?_
  refine lv_icmp_ge (tgt := 125) C.x C.b dX8_fits_53 (by decide) (fun c1 => ?_) (fun c1 => ?_)
  · have h := (if_pos c1).symm.trans h
    refine lv_iload_n C.x C.b dX8_fits_125 rfl (lv_at hl 3 rfl) ?_
    refine lv_if_ne (tgt := 134) C.x C.b dX8_fits_126 (by decide) (fun c2 => ?_) (fun c2 => ?_)
    · have h := (if_neg c2).symm.trans h
      refine lv_iload C.x C.b dX8_fits_134 (lv_at hl 5 rfl) ?_
      exact r_i h C hP hS dX8_fits_136
    · have h := (if_pos c2).symm.trans h
      refine lv_iload C.x C.b dX8_fits_129 (lv_at hl 4 rfl) ?_
      refine lv_goto (tgt := 136) C.x C.b dX8_fits_131 (by decide) ?_
      exact r_i h C hP hS dX8_fits_136
  · have h := (if_neg c1).symm.trans h
    refine lv_aload_n C.x C.b dX8_fits_56 rfl (lv_at hl 0 rfl) ?_
    refine g_ref (k' := 95) F_8_5 u2_84 C hP sh_0 rfl dX8_fits_57 ?_
    refine g_ref (k' := 101) F_0_7 u1_59 C hP sh_95 rfl dX8_fits_60 ?_
    refine lv_iload_n C.x C.b dX8_fits_63 rfl (lv_at hl 1 rfl) ?_
    refine lv_iload_n C.x C.b dX8_fits_64 rfl (lv_at hl 2 rfl) ?_
    obtain ⟨r4, e3, h⟩ := bnv_some h
    refine k_si (as := [.int x1, .int x2]) (rest := [.ref (G.2.2 101)]) (c_X8_roadAt C.i e3) M_X8_roadAt u2_157 C hP hS rfl (by decide) hl.1 rfl (Nat.le_of_ble_eq_true rfl) dX8_fits_65 (fun H locs hP hS => ?_)
    refine lv_iload C.x C.b dX8_fits_68 (lv_at hl 6 rfl) ?_
    obtain ⟨g5, h⟩ := grd_some h
    refine as_i C hP hS sh_101 g5 dX8_fits_70 (fun H locs hP hS => ?_)
    obtain ⟨μ6, m_μ6, h⟩ := lt_ex h
    have hP : Wm G μ6 H := by rw [m_μ6]; exact hP
    refine lv_aload_n C.x C.b dX8_fits_71 rfl (lv_at hl 0 rfl) ?_
    obtain ⟨r8, μ9, e7, h⟩ := bnd_some h
    refine k_vi (k := 0) (as := []) (rest := []) (c_X8_tryTheBest C.i e7) M_X8_tryTheBest u3_196 C hP hS sh_0 rfl rfl (by decide) hl.1 rfl (Nat.le_of_ble_eq_true rfl) dX8_fits_72 (fun H locs hP hS => ?_)
    refine lv_if_eq (tgt := 119) C.x C.b dX8_fits_75 (by decide) (fun c10 => ?_) (fun c10 => ?_)
    · have h := (if_pos c10).symm.trans h
      obtain ⟨y11, e_y11, h⟩ := lt_ex h
      refine lv_iinc (v := y11) (lv' := [(6, .int y11), (0, .ref (G.2.2 0)), (1, .int x1), (2, .int x2), (3, .int x3), (4, .int x4), (5, .int x5)]) C.x C.b dX8_fits_119 hl (k := 6) rfl (by rw [e_y11]; rfl) (by decide) rfl (fun ls hl => ?_)
      refine lv_goto (tgt := 49) C.x C.b dX8_fits_122 (by decide) ?_
      exact hq49 x4 x5 y11 μ9 h _ _ _ hP hS (lv_sub hl [1, 2, 3, 4, 5, 6, 0] rfl)
    · have h := (if_neg c10).symm.trans h
      refine lv_aload_n C.x C.b dX8_fits_78 rfl (lv_at hl 0 rfl) ?_
      refine g_ref (k' := 14) F_8_0 u2_79 C hP sh_0 rfl dX8_fits_79 ?_
      refine g_ref (k' := 42) F_6_2 u2_1 C hP sh_14 rfl dX8_fits_82 ?_
      refine lv_aload_n C.x C.b dX8_fits_85 rfl (lv_at hl 0 rfl) ?_
      refine g_ref (k' := 102) F_8_6 u2_85 C hP sh_0 rfl dX8_fits_86 ?_
      refine g_ref (k' := 104) F_3_5 u1_160 C hP sh_102 rfl dX8_fits_89 ?_
      obtain ⟨r13, e12, h⟩ := bnv_some h
      refine k_vi (k := 42) (as := [.ref (G.2.2 104)]) (rest := []) (c_X4_firstOther C.i at_sRows_42 sh_104 e12) M_X4_firstOther u3_234 C hP hS sh_42 rfl rfl (by decide) hl.1 rfl (Nat.le_of_ble_eq_true rfl) dX8_fits_92 (fun H locs hP hS => ?_)
      refine lv_bipush (v := (-5)) C.x C.b dX8_fits_95 (by decide) ?_
      refine lv_icmp_ne (tgt := 119) C.x C.b dX8_fits_97 (by decide) (fun c14 => ?_) (fun c14 => ?_)
      · have h := (if_neg c14).symm.trans h
        obtain ⟨y15, e_y15, h⟩ := lt_ex h
        refine lv_iinc (v := y15) (lv' := [(6, .int y15), (0, .ref (G.2.2 0)), (1, .int x1), (2, .int x2), (3, .int x3), (4, .int x4), (5, .int x5)]) C.x C.b dX8_fits_119 hl (k := 6) rfl (by rw [e_y15]; rfl) (by decide) rfl (fun ls hl => ?_)
        refine lv_goto (tgt := 49) C.x C.b dX8_fits_122 (by decide) ?_
        exact hq49 x4 x5 y15 μ9 h _ _ _ hP hS (lv_sub hl [1, 2, 3, 4, 5, 6, 0] rfl)
      · have h := (if_pos c14).symm.trans h
        obtain ⟨y16, e_y16, h⟩ := lt_ex h
        refine lv_iinc (v := y16) (lv' := [(4, .int y16), (0, .ref (G.2.2 0)), (1, .int x1), (2, .int x2), (3, .int x3), (5, .int x5), (6, .int x6)]) C.x C.b dX8_fits_100 hl (k := 4) rfl (by rw [e_y16]; rfl) (by decide) rfl (fun ls hl => ?_)
        refine lv_iload C.x C.b dX8_fits_103 (lv_at hl 5 rfl) ?_
        refine lv_bipush (v := (-5)) C.x C.b dX8_fits_105 (by decide) ?_
        refine lv_icmp_ne (tgt := 115) C.x C.b dX8_fits_107 (by decide) (fun c17 => ?_) (fun c17 => ?_)
        · have h := (if_neg c17).symm.trans h
          refine lv_iload C.x C.b dX8_fits_115 (lv_at hl 5 rfl) ?_
          refine lv_istore (lv' := [(5, .int x5), (4, .int y16), (0, .ref (G.2.2 0)), (1, .int x1), (2, .int x2), (3, .int x3), (6, .int x6)]) C.x C.b dX8_fits_117 hl (by decide) rfl (fun ls hl => ?_)
          obtain ⟨y18, e_y18, h⟩ := lt_ex h
          refine lv_iinc (v := y18) (lv' := [(6, .int y18), (5, .int x5), (4, .int y16), (0, .ref (G.2.2 0)), (1, .int x1), (2, .int x2), (3, .int x3)]) C.x C.b dX8_fits_119 hl (k := 6) rfl (by rw [e_y18]; rfl) (by decide) rfl (fun ls hl => ?_)
          refine lv_goto (tgt := 49) C.x C.b dX8_fits_122 (by decide) ?_
          exact hq49 y16 x5 y18 μ9 h _ _ _ hP hS (lv_sub hl [3, 4, 5, 6, 2, 1, 0] rfl)
        · have h := (if_pos c17).symm.trans h
          refine lv_iload C.x C.b dX8_fits_110 (lv_at hl 6 rfl) ?_
          refine lv_goto (tgt := 117) C.x C.b dX8_fits_112 (by decide) ?_
          refine lv_istore (lv' := [(5, .int x6), (4, .int y16), (0, .ref (G.2.2 0)), (1, .int x1), (2, .int x2), (3, .int x3), (6, .int x6)]) C.x C.b dX8_fits_117 hl (by decide) rfl (fun ls hl => ?_)
          obtain ⟨y19, e_y19, h⟩ := lt_ex h
          refine lv_iinc (v := y19) (lv' := [(6, .int y19), (5, .int x6), (4, .int y16), (0, .ref (G.2.2 0)), (1, .int x1), (2, .int x2), (3, .int x3)]) C.x C.b dX8_fits_119 hl (k := 6) rfl (by rw [e_y19]; rfl) (by decide) rfl (fun ls hl => ?_)
          refine lv_goto (tgt := 49) C.x C.b dX8_fits_122 (by decide) ?_
          exact hq49 y16 x6 y19 μ9 h _ _ _ hP hS (lv_sub hl [3, 4, 5, 6, 2, 1, 0] rfl)

set_option maxRecDepth 100000 in
set_option maxHeartbeats 4000000 in
theorem b_X8_fits_49 {p : Program} {l : Launch} {e : Env} {s : State} {m : MethodId} {args : Array Value} {below : List Frame} {meth : Method} {c : Code} {G : Gp} {O : (Int32 × Mem)} (C : Cx p s m args meth c cX8_fits 7 RX8 (some .int) G) {x1 : Int32} {x2 : Int32} {x3 : Int32} : ∀ (n : Nat) (x4 : Int32) (x5 : Int32) (x6 : Int32) (μ : Mem), f_X8_fits_49 x1 x2 x3 n x4 x5 x6 μ = some O → ∀ (H : Heap) (locs : List Loc) (ls : Array Slot), Wm G μ H → va_S (wA G) s.heap H locs → lv_has ls 7 [(0, .ref (G.2.2 0)), (1, .int x1), (2, .int x2), (3, .int x3), (4, .int x4), (5, .int x5), (6, .int x6)] → W p l e (rmm 6 146) s m args below meth c H locs 0 0 (QI below args s G O) (F0 m 49 ls []) := by
  intro n
  induction n with
  | zero => intro x4 x5 x6 μ h; cases h
  | succ n ih => intro x4 x5 x6 μ h; exact w_X8_fits_49 C (q49 := f_X8_fits_49 x1 x2 x3 n) ih x4 x5 x6 μ h

def f_X8_fits (x1 : Int32) (x2 : Int32) (x3 : Int32) (μ : Mem) : Option (Int32 × Mem) := bnv (f_X0_isRoad 15 x1 x2 μ) (fun r2 => if r2 = 0 then (some ((-1), μ)) else (bnv (f_X8_isUpTo x3 1 μ) (fun r5 => if r5 = 0 then (some ((-1), μ)) else (bnv (f_X0_copyFrom 95 15 μ) (fun μ8 => f_X8_fits_49 x1 x2 x3 FU 0 ((-5)) 0 μ8)))))
set_option maxRecDepth 100000 in
set_option maxHeartbeats 4000000 in
theorem b_X8_fits {p : Program} {l : Launch} {e : Env} {s : State} {m : MethodId} {args : Array Value} {below : List Frame} {meth : Method} {c : Code} {G : Gp} {O : (Int32 × Mem)} (C : Cx p s m args meth c cX8_fits 7 RX8 (some .int) G) {x1 : Int32} {x2 : Int32} {x3 : Int32} {μ : Mem} (h : f_X8_fits x1 x2 x3 μ = some O) : ∀ (H : Heap) (locs : List Loc) (ls : Array Slot), Wm G μ H → va_S (wA G) s.heap H locs → lv_has ls 7 [(0, .ref (G.2.2 0)), (1, .int x1), (2, .int x2), (3, .int x3)] → W p l e (rmm 6 146) s m args below meth c H locs 0 0 (QI below args s G O) (F0 m 0 ls []) := by
  unfold f_X8_fits at h
  intro H locs ls hP hS hl
  refine lv_aload_n C.x C.b dX8_fits_0 rfl (lv_at hl 0 rfl) ?_
  refine g_ref (k' := 14) F_8_0 u2_79 C hP sh_0 rfl dX8_fits_1 ?_
  refine g_ref (k' := 15) F_6_0 u1_237 C hP sh_14 rfl dX8_fits_4 ?_
  refine lv_iload_n C.x C.b dX8_fits_7 rfl (lv_at hl 1 rfl) ?_
  refine lv_iload_n C.x C.b dX8_fits_8 rfl (lv_at hl 2 rfl) ?_
  obtain ⟨r2, e1, h⟩ := bnv_some h
  refine k_vi (k := 15) (as := [.int x1, .int x2]) (rest := []) (c_X0_isRoad C.i at_sGround_15 e1) M_X0_isRoad u2_136 C hP hS sh_15 rfl rfl (by decide) hl.1 rfl (Nat.le_of_ble_eq_true rfl) dX8_fits_9 (fun H locs hP hS => ?_)
  refine lv_if_eq (tgt := 23) C.x C.b dX8_fits_12 (by decide) (fun c3 => ?_) (fun c3 => ?_)
  · have h := (if_pos c3).symm.trans h
    refine lv_iconst (v := (-1)) C.x C.b dX8_fits_23 (by decide) ?_
    exact r_i h C hP hS dX8_fits_24
  · have h := (if_neg c3).symm.trans h
    refine lv_iload_n C.x C.b dX8_fits_15 rfl (lv_at hl 3 rfl) ?_
    refine lv_iconst (v := 1) C.x C.b dX8_fits_16 (by decide) ?_
    obtain ⟨r5, e4, h⟩ := bnv_some h
    refine k_si (as := [.int x3, .int 1]) (rest := []) (c_X8_isUpTo C.i e4) M_X8_isUpTo u2_105 C hP hS rfl (by decide) hl.1 rfl (Nat.le_of_ble_eq_true rfl) dX8_fits_17 (fun H locs hP hS => ?_)
    refine lv_if_ne (tgt := 25) C.x C.b dX8_fits_20 (by decide) (fun c6 => ?_) (fun c6 => ?_)
    · have h := (if_neg c6).symm.trans h
      refine lv_aload_n C.x C.b dX8_fits_25 rfl (lv_at hl 0 rfl) ?_
      refine g_ref (k' := 95) F_8_5 u2_84 C hP sh_0 rfl dX8_fits_26 ?_
      refine lv_aload_n C.x C.b dX8_fits_29 rfl (lv_at hl 0 rfl) ?_
      refine g_ref (k' := 14) F_8_0 u2_79 C hP sh_0 rfl dX8_fits_30 ?_
      refine g_ref (k' := 15) F_6_0 u1_237 C hP sh_14 rfl dX8_fits_33 ?_
      obtain ⟨μ8, e7, h⟩ := bnv_some h
      refine k_vv (k := 95) (as := [.ref (G.2.2 15)]) (rest := []) (c_X0_copyFrom C.i at_sGround_95 at_sGround_15 e7) M_X0_copyFrom u3_171 C hP hS sh_95 rfl rfl (by decide) hl.1 rfl (Nat.le_of_ble_eq_true rfl) dX8_fits_36 (fun H locs hP hS => ?_)
      refine lv_iconst (v := 0) C.x C.b dX8_fits_39 (by decide) ?_
      refine lv_istore (lv' := [(4, .int 0), (0, .ref (G.2.2 0)), (1, .int x1), (2, .int x2), (3, .int x3)]) C.x C.b dX8_fits_40 hl (by decide) rfl (fun ls hl => ?_)
      refine lv_bipush (v := (-5)) C.x C.b dX8_fits_42 (by decide) ?_
      refine lv_istore (lv' := [(5, .int ((-5))), (4, .int 0), (0, .ref (G.2.2 0)), (1, .int x1), (2, .int x2), (3, .int x3)]) C.x C.b dX8_fits_44 hl (by decide) rfl (fun ls hl => ?_)
      refine lv_iconst (v := 0) C.x C.b dX8_fits_46 (by decide) ?_
      refine lv_istore (lv' := [(6, .int 0), (5, .int ((-5))), (4, .int 0), (0, .ref (G.2.2 0)), (1, .int x1), (2, .int x2), (3, .int x3)]) C.x C.b dX8_fits_47 hl (by decide) rfl (fun ls hl => ?_)
      exact b_X8_fits_49 C FU 0 ((-5)) 0 μ8 h _ _ _ hP hS (lv_sub hl [3, 4, 5, 6, 2, 1, 0] rfl)
    · have h := (if_pos c6).symm.trans h
      refine lv_iconst (v := (-1)) C.x C.b dX8_fits_23 (by decide) ?_
      exact r_i h C hP hS dX8_fits_24

set_option maxRecDepth 100000 in
set_option maxHeartbeats 4000000 in
theorem c_X8_fits {l : Launch} {G : Gp} (hI : Wi G) {x1 : Int32} {x2 : Int32} {x3 : Int32} {μ : Mem} {r : Int32} {μ' : Mem} (h : f_X8_fits x1 x2 x3 μ = some (r, μ')) : CI l yX8_fits cX8_fits 7 (some .int) 6 146 G [.ref (G.2.2 0), .int x1, .int x2, .int x3] μ r μ' :=
  e_all (lv := [(0, .ref (G.2.2 0)), (1, .int x1), (2, .int x2), (3, .int x3)]) hI (by decide) (Nat.le_of_ble_eq_true rfl) rfl (fun p e s m args below meth c ls C hP hS hl => b_X8_fits C h _ _ _ hP hS hl)


def g_X8_commonDivisor_2   (μ : Mem) (q2 : Int32 → Int32 → Int32 → Option Int32) (x0 : Int32) (x1 : Int32) (x2 : Int32) : Option Int32 := if 100 ≤ x2 then (some x0) else (if x1 = 0 then (some x0) else (grd (decide (¬ x1 = 0)) (lt (rm32 x0 x1) (fun y4 => lt (x2 + 1) (fun y5 => q2 x1 y4 y5)))))
def f_X8_commonDivisor_2   (μ : Mem) : Nat → Int32 → Int32 → Int32 → Option Int32
  | 0, _, _, _ => none
  | n + 1, x0, x1, x2 => g_X8_commonDivisor_2  μ (f_X8_commonDivisor_2  μ n) x0 x1 x2
set_option maxRecDepth 100000 in
set_option maxHeartbeats 4000000 in
theorem w_X8_commonDivisor_2 {p : Program} {l : Launch} {e : Env} {s : State} {m : MethodId} {args : Array Value} {below : List Frame} {meth : Method} {c : Code} {G : Gp} {O : Int32} (C : Cx p s m args meth c cX8_commonDivisor 4 RX8 (some .int) G) {μ : Mem} {q2 : Int32 → Int32 → Int32 → Option Int32} (hq2 : ∀ (x0 : Int32) (x1 : Int32) (x2 : Int32), q2 x0 x1 x2 = some O → ∀ (H : Heap) (locs : List Loc) (ls : Array Slot), Wm G μ H → va_S (wA G) s.heap H locs → lv_has ls 4 [(0, .int x0), (1, .int x1), (2, .int x2)] → W p l e (rmm 0 0) s m args below meth c H locs 0 0 (QI below args s G (O, μ)) (F0 m 2 ls [])) : ∀ (x0 : Int32) (x1 : Int32) (x2 : Int32), g_X8_commonDivisor_2 μ q2 x0 x1 x2 = some O → ∀ (H : Heap) (locs : List Loc) (ls : Array Slot), Wm G μ H → va_S (wA G) s.heap H locs → lv_has ls 4 [(0, .int x0), (1, .int x1), (2, .int x2)] → W p l e (rmm 0 0) s m args below meth c H locs 0 0 (QI below args s G (O, μ)) (F0 m 2 ls []) := by
  intro x0 x1 x2 h H locs ls hP hS hl
  unfold g_X8_commonDivisor_2 at h
  refine lv_iload_n C.x C.b dX8_commonDivisor_2 rfl (lv_at hl 2 rfl) ?_
  refine lv_bipush (v := 100) C.x C.b dX8_commonDivisor_3 (by decide) ?_
  refine lv_icmp_ge (tgt := 26) C.x C.b dX8_commonDivisor_5 (by decide) (fun c1 => ?_) (fun c1 => ?_)
  · have h := (if_pos c1).symm.trans h
    refine lv_iload_n C.x C.b dX8_commonDivisor_26 rfl (lv_at hl 0 rfl) ?_
    exact r_i (pr_some h) C hP hS dX8_commonDivisor_27
  · have h := (if_neg c1).symm.trans h
    refine lv_iload_n C.x C.b dX8_commonDivisor_8 rfl (lv_at hl 1 rfl) ?_
    refine lv_if_eq (tgt := 26) C.x C.b dX8_commonDivisor_9 (by decide) (fun c2 => ?_) (fun c2 => ?_)
    · have h := (if_pos c2).symm.trans h
      refine lv_iload_n C.x C.b dX8_commonDivisor_26 rfl (lv_at hl 0 rfl) ?_
      exact r_i (pr_some h) C hP hS dX8_commonDivisor_27
    · have h := (if_neg c2).symm.trans h
      refine lv_iload_n C.x C.b dX8_commonDivisor_12 rfl (lv_at hl 0 rfl) ?_
      refine lv_iload_n C.x C.b dX8_commonDivisor_13 rfl (lv_at hl 1 rfl) ?_
      obtain ⟨g3, h⟩ := grd_some h
      refine lv_irem C.x C.b dX8_commonDivisor_14 (of_decide_eq_true g3) ?_
      refine lv_topi (fun y4 e_y4 => ?_)
      have h := lt_at h e_y4
      refine lv_istore_n (lv' := [(3, .int y4), (0, .int x0), (1, .int x1), (2, .int x2)]) C.x C.b dX8_commonDivisor_15 rfl hl (by decide) rfl (fun ls hl => ?_)
      refine lv_iload_n C.x C.b dX8_commonDivisor_16 rfl (lv_at hl 2 rfl) ?_
      refine lv_istore_n (lv' := [(0, .int x1), (3, .int y4), (1, .int x1), (2, .int x2)]) C.x C.b dX8_commonDivisor_17 rfl hl (by decide) rfl (fun ls hl => ?_)
      refine lv_iload_n C.x C.b dX8_commonDivisor_18 rfl (lv_at hl 1 rfl) ?_
      refine lv_istore_n (lv' := [(1, .int y4), (0, .int x1), (3, .int y4), (2, .int x2)]) C.x C.b dX8_commonDivisor_19 rfl hl (by decide) rfl (fun ls hl => ?_)
      obtain ⟨y5, e_y5, h⟩ := lt_ex h
      refine lv_iinc (v := y5) (lv' := [(2, .int y5), (1, .int y4), (0, .int x1), (3, .int y4)]) C.x C.b dX8_commonDivisor_20 hl (k := 3) rfl (by rw [e_y5]; rfl) (by decide) rfl (fun ls hl => ?_)
      refine lv_goto (tgt := 2) C.x C.b dX8_commonDivisor_23 (by decide) ?_
      exact hq2 x1 y4 y5 h _ _ _ hP hS (lv_sub hl [2, 1, 0] rfl)

set_option maxRecDepth 100000 in
set_option maxHeartbeats 4000000 in
theorem b_X8_commonDivisor_2 {p : Program} {l : Launch} {e : Env} {s : State} {m : MethodId} {args : Array Value} {below : List Frame} {meth : Method} {c : Code} {G : Gp} {O : Int32} (C : Cx p s m args meth c cX8_commonDivisor 4 RX8 (some .int) G) {μ : Mem} : ∀ (n : Nat) (x0 : Int32) (x1 : Int32) (x2 : Int32), f_X8_commonDivisor_2 μ n x0 x1 x2 = some O → ∀ (H : Heap) (locs : List Loc) (ls : Array Slot), Wm G μ H → va_S (wA G) s.heap H locs → lv_has ls 4 [(0, .int x0), (1, .int x1), (2, .int x2)] → W p l e (rmm 0 0) s m args below meth c H locs 0 0 (QI below args s G (O, μ)) (F0 m 2 ls []) := by
  intro n
  induction n with
  | zero => intro x0 x1 x2 h; cases h
  | succ n ih => intro x0 x1 x2 h; exact w_X8_commonDivisor_2 C (q2 := f_X8_commonDivisor_2 μ n) ih x0 x1 x2 h

def f_X8_commonDivisor (x0 : Int32) (x1 : Int32) (μ : Mem) : Option Int32 := f_X8_commonDivisor_2 μ FU x0 x1 0
set_option maxRecDepth 100000 in
set_option maxHeartbeats 4000000 in
theorem b_X8_commonDivisor {p : Program} {l : Launch} {e : Env} {s : State} {m : MethodId} {args : Array Value} {below : List Frame} {meth : Method} {c : Code} {G : Gp} {O : Int32} (C : Cx p s m args meth c cX8_commonDivisor 4 RX8 (some .int) G) {μ : Mem} {x0 : Int32} {x1 : Int32} (h : f_X8_commonDivisor x0 x1 μ = some O) : ∀ (H : Heap) (locs : List Loc) (ls : Array Slot), Wm G μ H → va_S (wA G) s.heap H locs → lv_has ls 4 [(0, .int x0), (1, .int x1)] → W p l e (rmm 0 0) s m args below meth c H locs 0 0 (QI below args s G (O, μ)) (F0 m 0 ls []) := by
  unfold f_X8_commonDivisor at h
  intro H locs ls hP hS hl
  refine lv_iconst (v := 0) C.x C.b dX8_commonDivisor_0 (by decide) ?_
  refine lv_istore_n (lv' := [(2, .int 0), (0, .int x0), (1, .int x1)]) C.x C.b dX8_commonDivisor_1 rfl hl (by decide) rfl (fun ls hl => ?_)
  exact b_X8_commonDivisor_2 C FU x0 x1 0 h _ _ _ hP hS (lv_sub hl [1, 2, 0] rfl)

set_option maxRecDepth 100000 in
set_option maxHeartbeats 4000000 in
theorem c_X8_commonDivisor {l : Launch} {G : Gp} (hI : Wi G) {x0 : Int32} {x1 : Int32} {μ : Mem} {r : Int32} (h : f_X8_commonDivisor x0 x1 μ = some r) : CI l yX8_commonDivisor cX8_commonDivisor 4 (some .int) 0 0 G [.int x0, .int x1] μ r μ :=
  e_all (lv := [(0, .int x0), (1, .int x1)]) hI (by decide) (Nat.le_of_ble_eq_true rfl) rfl (fun p e s m args below meth c ls C hP hS hl => b_X8_commonDivisor C h _ _ _ hP hS hl)


def f_X8_fractionPart (x0 : Int32) (x1 : Int32) (x2 : Int32) (μ : Mem) : Option Int64 := bnv (f_X8_commonDivisor x0 x1 μ) (fun r2 => if x1 ≤ 0 then (some ((-9223372036854775808))) else (if 0 < r2 then (if x2 = 0 then (grd (decide (¬ r2 = 0)) (some (Int32.toInt64 (x0 / r2)))) else (grd (decide (¬ r2 = 0)) (some (Int32.toInt64 (x1 / r2))))) else (some ((-9223372036854775808)))))
set_option maxRecDepth 100000 in
set_option maxHeartbeats 4000000 in
theorem b_X8_fractionPart {p : Program} {l : Launch} {e : Env} {s : State} {m : MethodId} {args : Array Value} {below : List Frame} {meth : Method} {c : Code} {G : Gp} {O : Int64} (C : Cx p s m args meth c cX8_fractionPart 4 RX8 (some .long) G) {x0 : Int32} {x1 : Int32} {x2 : Int32} {μ : Mem} (h : f_X8_fractionPart x0 x1 x2 μ = some O) : ∀ (H : Heap) (locs : List Loc) (ls : Array Slot), Wm G μ H → va_S (wA G) s.heap H locs → lv_has ls 4 [(0, .int x0), (1, .int x1), (2, .int x2)] → W p l e (rmm 1 23) s m args below meth c H locs 0 0 (QL below args s G (O, μ)) (F0 m 0 ls []) := by
  unfold f_X8_fractionPart at h
  intro H locs ls hP hS hl
  refine lv_iload_n C.x C.b dX8_fractionPart_0 rfl (lv_at hl 0 rfl) ?_
  refine lv_iload_n C.x C.b dX8_fractionPart_1 rfl (lv_at hl 1 rfl) ?_
  obtain ⟨r2, e1, h⟩ := bnv_some h
  refine k_si (as := [.int x0, .int x1]) (rest := []) (c_X8_commonDivisor C.i e1) M_X8_commonDivisor u4_5 C hP hS rfl (by decide) hl.1 rfl (Nat.le_of_ble_eq_true rfl) dX8_fractionPart_2 (fun H locs hP hS => ?_)
  refine lv_istore_n (lv' := [(3, .int r2), (0, .int x0), (1, .int x1), (2, .int x2)]) C.x C.b dX8_fractionPart_5 rfl hl (by decide) rfl (fun ls hl => ?_)
  refine lv_iload_n C.x C.b dX8_fractionPart_6 rfl (lv_at hl 2 rfl) ?_
  refine lv_if_le (tgt := 14) C.x C.b dX8_fractionPart_7 (by decide) (fun c3 => ?_) (fun c3 => ?_)
  · have h := (if_pos c3).symm.trans h
    refine lv_ldc2 (own := RX8) (v := (-9223372036854775808)) C.x C.b C.o (C.t _ u3_124) dX8_fractionPart_14 ?_
    exact r_l (pr_some h) C hP hS dX8_fractionPart_17
  · have h := (if_neg c3).symm.trans h
    refine lv_iload_n C.x C.b dX8_fractionPart_10 rfl (lv_at hl 0 rfl) ?_
    refine lv_if_gt (tgt := 18) C.x C.b dX8_fractionPart_11 (by decide) (fun c4 => ?_) (fun c4 => ?_)
    · have h := (if_pos c4).symm.trans h
      refine lv_iload_n C.x C.b dX8_fractionPart_18 rfl (lv_at hl 3 rfl) ?_
      refine lv_if_ne (tgt := 26) C.x C.b dX8_fractionPart_19 (by decide) (fun c5 => ?_) (fun c5 => ?_)
      · have h := (if_neg c5).symm.trans h
        refine lv_iload_n C.x C.b dX8_fractionPart_26 rfl (lv_at hl 2 rfl) ?_
        refine lv_iload_n C.x C.b dX8_fractionPart_27 rfl (lv_at hl 0 rfl) ?_
        obtain ⟨g6, h⟩ := grd_some h
        refine lv_idiv C.x C.b dX8_fractionPart_28 (of_decide_eq_true g6) ?_
        refine lv_i2l (v := Int32.toInt64 (x1 / r2)) C.x C.b dX8_fractionPart_29 rfl ?_
        exact r_l (pr_some h) C hP hS dX8_fractionPart_30
      · have h := (if_pos c5).symm.trans h
        refine lv_iload_n C.x C.b dX8_fractionPart_22 rfl (lv_at hl 1 rfl) ?_
        refine lv_goto (tgt := 27) C.x C.b dX8_fractionPart_23 (by decide) ?_
        refine lv_iload_n C.x C.b dX8_fractionPart_27 rfl (lv_at hl 0 rfl) ?_
        obtain ⟨g7, h⟩ := grd_some h
        refine lv_idiv C.x C.b dX8_fractionPart_28 (of_decide_eq_true g7) ?_
        refine lv_i2l (v := Int32.toInt64 (x0 / r2)) C.x C.b dX8_fractionPart_29 rfl ?_
        exact r_l (pr_some h) C hP hS dX8_fractionPart_30
    · have h := (if_neg c4).symm.trans h
      refine lv_ldc2 (own := RX8) (v := (-9223372036854775808)) C.x C.b C.o (C.t _ u3_124) dX8_fractionPart_14 ?_
      exact r_l (pr_some h) C hP hS dX8_fractionPart_17

set_option maxRecDepth 100000 in
set_option maxHeartbeats 4000000 in
theorem c_X8_fractionPart {l : Launch} {G : Gp} (hI : Wi G) {x0 : Int32} {x1 : Int32} {x2 : Int32} {μ : Mem} {r : Int64} (h : f_X8_fractionPart x0 x1 x2 μ = some r) : CL l yX8_fractionPart cX8_fractionPart 4 (some .long) 1 23 G [.int x0, .int x1, .int x2] μ r μ :=
  e_all (lv := [(0, .int x0), (1, .int x1), (2, .int x2)]) hI (by decide) (Nat.le_of_ble_eq_true rfl) rfl (fun p e s m args below meth c ls C hP hS hl => b_X8_fractionPart C h _ _ _ hP hS hl)


def g_X8_odds_47 (x1 : Int32) (x2 : Int32) (x3 : Int32)  (q47 : Int32 → Int32 → Mem → Option (Int64 × Mem)) (x4 : Int32) (x5 : Int32) (μ : Mem) : Option (Int64 × Mem) := if 10 ≤ x5 then (bnv (f_X8_fractionPart x4 10 x3 μ) (fun r3 => some (r3, μ))) else (bnv (f_X8_roadAt x1 x2 μ) (fun r5 => grd (inb r5 25) (lt (st μ 101 r5.toNatClampNeg (x5 * 10)) (fun μ7 => bnd (f_X8_tryTheBest μ7) (fun r9 μ10 => if r9 = 0 then (lt (x5 + 1) (fun y12 => q47 x4 y12 μ10)) else (bnv (f_X8_cellAt x1 x2 μ10) (fun r14 => grd (inb r14 36) (if (μ10.1 104 r14.toNatClampNeg) ≤ 0 then (lt (x5 + 1) (fun y17 => q47 x4 y17 μ10)) else (lt (x4 + 1) (fun y18 => lt (x5 + 1) (fun y19 => q47 y18 y19 μ10)))))))))))
def f_X8_odds_47 (x1 : Int32) (x2 : Int32) (x3 : Int32)  : Nat → Int32 → Int32 → Mem → Option (Int64 × Mem)
  | 0, _, _, _ => none
  | n + 1, x4, x5, μ => g_X8_odds_47 x1 x2 x3 (f_X8_odds_47 x1 x2 x3 n) x4 x5 μ
set_option maxRecDepth 100000 in
set_option maxHeartbeats 4000000 in
theorem w_X8_odds_47 {p : Program} {l : Launch} {e : Env} {s : State} {m : MethodId} {args : Array Value} {below : List Frame} {meth : Method} {c : Code} {G : Gp} {O : (Int64 × Mem)} (C : Cx p s m args meth c cX8_odds 6 RX8 (some .long) G) {x1 : Int32} {x2 : Int32} {x3 : Int32} {q47 : Int32 → Int32 → Mem → Option (Int64 × Mem)} (hq47 : ∀ (x4 : Int32) (x5 : Int32) (μ : Mem), q47 x4 x5 μ = some O → ∀ (H : Heap) (locs : List Loc) (ls : Array Slot), Wm G μ H → va_S (wA G) s.heap H locs → lv_has ls 6 [(0, .ref (G.2.2 0)), (1, .int x1), (2, .int x2), (3, .int x3), (4, .int x4), (5, .int x5)] → W p l e (rmm 6 146) s m args below meth c H locs 0 0 (QL below args s G O) (F0 m 47 ls [])) : ∀ (x4 : Int32) (x5 : Int32) (μ : Mem), g_X8_odds_47 x1 x2 x3 q47 x4 x5 μ = some O → ∀ (H : Heap) (locs : List Loc) (ls : Array Slot), Wm G μ H → va_S (wA G) s.heap H locs → lv_has ls 6 [(0, .ref (G.2.2 0)), (1, .int x1), (2, .int x2), (3, .int x3), (4, .int x4), (5, .int x5)] → W p l e (rmm 6 146) s m args below meth c H locs 0 0 (QL below args s G O) (F0 m 47 ls []) := by
  intro x4 x5 μ h H locs ls hP hS hl
  unfold g_X8_odds_47 at h
  refine lv_iload C.x C.b dX8_odds_47 (lv_at hl 5 rfl) ?_
  refine lv_bipush (v := 10) C.x C.b dX8_odds_49 (by decide) ?_
  refine lv_icmp_ge (tgt := 104) C.x C.b dX8_odds_51 (by decide) (fun c1 => ?_) (fun c1 => ?_)
  · have h := (if_pos c1).symm.trans h
    refine lv_iload C.x C.b dX8_odds_104 (lv_at hl 4 rfl) ?_
    refine lv_bipush (v := 10) C.x C.b dX8_odds_106 (by decide) ?_
    refine lv_iload_n C.x C.b dX8_odds_108 rfl (lv_at hl 3 rfl) ?_
    obtain ⟨r3, e2, h⟩ := bnv_some h
    refine k_sl (as := [.int x4, .int 10, .int x3]) (rest := []) (c_X8_fractionPart C.i e2) M_X8_fractionPart u4_2 C hP hS rfl (by decide) hl.1 rfl (Nat.le_of_ble_eq_true rfl) dX8_odds_109 (fun H locs hP hS => ?_)
    exact r_l h C hP hS dX8_odds_112
  · have h := (if_neg c1).symm.trans h
    refine lv_aload_n C.x C.b dX8_odds_54 rfl (lv_at hl 0 rfl) ?_
    refine g_ref (k' := 95) F_8_5 u2_84 C hP sh_0 rfl dX8_odds_55 ?_
    refine g_ref (k' := 101) F_0_7 u1_59 C hP sh_95 rfl dX8_odds_58 ?_
    refine lv_iload_n C.x C.b dX8_odds_61 rfl (lv_at hl 1 rfl) ?_
    refine lv_iload_n C.x C.b dX8_odds_62 rfl (lv_at hl 2 rfl) ?_
    obtain ⟨r5, e4, h⟩ := bnv_some h
    refine k_si (as := [.int x1, .int x2]) (rest := [.ref (G.2.2 101)]) (c_X8_roadAt C.i e4) M_X8_roadAt u2_157 C hP hS rfl (by decide) hl.1 rfl (Nat.le_of_ble_eq_true rfl) dX8_odds_63 (fun H locs hP hS => ?_)
    refine lv_iload C.x C.b dX8_odds_66 (lv_at hl 5 rfl) ?_
    refine lv_bipush (v := 10) C.x C.b dX8_odds_68 (by decide) ?_
    refine lv_imul C.x C.b dX8_odds_70 ?_
    obtain ⟨g6, h⟩ := grd_some h
    refine as_i C hP hS sh_101 g6 dX8_odds_71 (fun H locs hP hS => ?_)
    obtain ⟨μ7, m_μ7, h⟩ := lt_ex h
    have hP : Wm G μ7 H := by rw [m_μ7]; exact hP
    refine lv_aload_n C.x C.b dX8_odds_72 rfl (lv_at hl 0 rfl) ?_
    obtain ⟨r9, μ10, e8, h⟩ := bnd_some h
    refine k_vi (k := 0) (as := []) (rest := []) (c_X8_tryTheBest C.i e8) M_X8_tryTheBest u3_196 C hP hS sh_0 rfl rfl (by decide) hl.1 rfl (Nat.le_of_ble_eq_true rfl) dX8_odds_73 (fun H locs hP hS => ?_)
    refine lv_if_eq (tgt := 98) C.x C.b dX8_odds_76 (by decide) (fun c11 => ?_) (fun c11 => ?_)
    · have h := (if_pos c11).symm.trans h
      obtain ⟨y12, e_y12, h⟩ := lt_ex h
      refine lv_iinc (v := y12) (lv' := [(5, .int y12), (0, .ref (G.2.2 0)), (1, .int x1), (2, .int x2), (3, .int x3), (4, .int x4)]) C.x C.b dX8_odds_98 hl (k := 5) rfl (by rw [e_y12]; rfl) (by decide) rfl (fun ls hl => ?_)
      refine lv_goto (tgt := 47) C.x C.b dX8_odds_101 (by decide) ?_
      exact hq47 x4 y12 μ10 h _ _ _ hP hS (lv_sub hl [1, 2, 3, 4, 5, 0] rfl)
    · have h := (if_neg c11).symm.trans h
      refine lv_aload_n C.x C.b dX8_odds_79 rfl (lv_at hl 0 rfl) ?_
      refine g_ref (k' := 102) F_8_6 u2_85 C hP sh_0 rfl dX8_odds_80 ?_
      refine g_ref (k' := 104) F_3_5 u1_160 C hP sh_102 rfl dX8_odds_83 ?_
      refine lv_iload_n C.x C.b dX8_odds_86 rfl (lv_at hl 1 rfl) ?_
      refine lv_iload_n C.x C.b dX8_odds_87 rfl (lv_at hl 2 rfl) ?_
      obtain ⟨r14, e13, h⟩ := bnv_some h
      refine k_si (as := [.int x1, .int x2]) (rest := [.ref (G.2.2 104)]) (c_X8_cellAt C.i e13) M_X8_cellAt u3_115 C hP hS rfl (by decide) hl.1 rfl (Nat.le_of_ble_eq_true rfl) dX8_odds_88 (fun H locs hP hS => ?_)
      obtain ⟨g15, h⟩ := grd_some h
      refine a_i C hP sh_104 g15 dX8_odds_91 ?_
      refine lv_if_le (tgt := 98) C.x C.b dX8_odds_92 (by decide) (fun c16 => ?_) (fun c16 => ?_)
      · have h := (if_pos c16).symm.trans h
        obtain ⟨y17, e_y17, h⟩ := lt_ex h
        refine lv_iinc (v := y17) (lv' := [(5, .int y17), (0, .ref (G.2.2 0)), (1, .int x1), (2, .int x2), (3, .int x3), (4, .int x4)]) C.x C.b dX8_odds_98 hl (k := 5) rfl (by rw [e_y17]; rfl) (by decide) rfl (fun ls hl => ?_)
        refine lv_goto (tgt := 47) C.x C.b dX8_odds_101 (by decide) ?_
        exact hq47 x4 y17 μ10 h _ _ _ hP hS (lv_sub hl [1, 2, 3, 4, 5, 0] rfl)
      · have h := (if_neg c16).symm.trans h
        obtain ⟨y18, e_y18, h⟩ := lt_ex h
        refine lv_iinc (v := y18) (lv' := [(4, .int y18), (0, .ref (G.2.2 0)), (1, .int x1), (2, .int x2), (3, .int x3), (5, .int x5)]) C.x C.b dX8_odds_95 hl (k := 4) rfl (by rw [e_y18]; rfl) (by decide) rfl (fun ls hl => ?_)
        obtain ⟨y19, e_y19, h⟩ := lt_ex h
        refine lv_iinc (v := y19) (lv' := [(5, .int y19), (4, .int y18), (0, .ref (G.2.2 0)), (1, .int x1), (2, .int x2), (3, .int x3)]) C.x C.b dX8_odds_98 hl (k := 5) rfl (by rw [e_y19]; rfl) (by decide) rfl (fun ls hl => ?_)
        refine lv_goto (tgt := 47) C.x C.b dX8_odds_101 (by decide) ?_
        exact hq47 y18 y19 μ10 h _ _ _ hP hS (lv_sub hl [2, 3, 4, 5, 1, 0] rfl)

set_option maxRecDepth 100000 in
set_option maxHeartbeats 4000000 in
theorem b_X8_odds_47 {p : Program} {l : Launch} {e : Env} {s : State} {m : MethodId} {args : Array Value} {below : List Frame} {meth : Method} {c : Code} {G : Gp} {O : (Int64 × Mem)} (C : Cx p s m args meth c cX8_odds 6 RX8 (some .long) G) {x1 : Int32} {x2 : Int32} {x3 : Int32} : ∀ (n : Nat) (x4 : Int32) (x5 : Int32) (μ : Mem), f_X8_odds_47 x1 x2 x3 n x4 x5 μ = some O → ∀ (H : Heap) (locs : List Loc) (ls : Array Slot), Wm G μ H → va_S (wA G) s.heap H locs → lv_has ls 6 [(0, .ref (G.2.2 0)), (1, .int x1), (2, .int x2), (3, .int x3), (4, .int x4), (5, .int x5)] → W p l e (rmm 6 146) s m args below meth c H locs 0 0 (QL below args s G O) (F0 m 47 ls []) := by
  intro n
  induction n with
  | zero => intro x4 x5 μ h; cases h
  | succ n ih => intro x4 x5 μ h; exact w_X8_odds_47 C (q47 := f_X8_odds_47 x1 x2 x3 n) ih x4 x5 μ h

def f_X8_odds (x1 : Int32) (x2 : Int32) (x3 : Int32) (μ : Mem) : Option (Int64 × Mem) := bnv (f_X0_isRoad 15 x1 x2 μ) (fun r2 => if r2 = 0 then (some ((-9223372036854775808), μ)) else (bnv (f_X8_isUpTo x3 1 μ) (fun r5 => if r5 = 0 then (some ((-9223372036854775808), μ)) else (bnv (f_X0_copyFrom 95 15 μ) (fun μ8 => f_X8_odds_47 x1 x2 x3 FU 0 0 μ8)))))
set_option maxRecDepth 100000 in
set_option maxHeartbeats 4000000 in
theorem b_X8_odds {p : Program} {l : Launch} {e : Env} {s : State} {m : MethodId} {args : Array Value} {below : List Frame} {meth : Method} {c : Code} {G : Gp} {O : (Int64 × Mem)} (C : Cx p s m args meth c cX8_odds 6 RX8 (some .long) G) {x1 : Int32} {x2 : Int32} {x3 : Int32} {μ : Mem} (h : f_X8_odds x1 x2 x3 μ = some O) : ∀ (H : Heap) (locs : List Loc) (ls : Array Slot), Wm G μ H → va_S (wA G) s.heap H locs → lv_has ls 6 [(0, .ref (G.2.2 0)), (1, .int x1), (2, .int x2), (3, .int x3)] → W p l e (rmm 6 146) s m args below meth c H locs 0 0 (QL below args s G O) (F0 m 0 ls []) := by
  unfold f_X8_odds at h
  intro H locs ls hP hS hl
  refine lv_aload_n C.x C.b dX8_odds_0 rfl (lv_at hl 0 rfl) ?_
  refine g_ref (k' := 14) F_8_0 u2_79 C hP sh_0 rfl dX8_odds_1 ?_
  refine g_ref (k' := 15) F_6_0 u1_237 C hP sh_14 rfl dX8_odds_4 ?_
  refine lv_iload_n C.x C.b dX8_odds_7 rfl (lv_at hl 1 rfl) ?_
  refine lv_iload_n C.x C.b dX8_odds_8 rfl (lv_at hl 2 rfl) ?_
  obtain ⟨r2, e1, h⟩ := bnv_some h
  refine k_vi (k := 15) (as := [.int x1, .int x2]) (rest := []) (c_X0_isRoad C.i at_sGround_15 e1) M_X0_isRoad u2_136 C hP hS sh_15 rfl rfl (by decide) hl.1 rfl (Nat.le_of_ble_eq_true rfl) dX8_odds_9 (fun H locs hP hS => ?_)
  refine lv_if_eq (tgt := 23) C.x C.b dX8_odds_12 (by decide) (fun c3 => ?_) (fun c3 => ?_)
  · have h := (if_pos c3).symm.trans h
    refine lv_ldc2 (own := RX8) (v := (-9223372036854775808)) C.x C.b C.o (C.t _ u3_124) dX8_odds_23 ?_
    exact r_l h C hP hS dX8_odds_26
  · have h := (if_neg c3).symm.trans h
    refine lv_iload_n C.x C.b dX8_odds_15 rfl (lv_at hl 3 rfl) ?_
    refine lv_iconst (v := 1) C.x C.b dX8_odds_16 (by decide) ?_
    obtain ⟨r5, e4, h⟩ := bnv_some h
    refine k_si (as := [.int x3, .int 1]) (rest := []) (c_X8_isUpTo C.i e4) M_X8_isUpTo u2_105 C hP hS rfl (by decide) hl.1 rfl (Nat.le_of_ble_eq_true rfl) dX8_odds_17 (fun H locs hP hS => ?_)
    refine lv_if_ne (tgt := 27) C.x C.b dX8_odds_20 (by decide) (fun c6 => ?_) (fun c6 => ?_)
    · have h := (if_neg c6).symm.trans h
      refine lv_aload_n C.x C.b dX8_odds_27 rfl (lv_at hl 0 rfl) ?_
      refine g_ref (k' := 95) F_8_5 u2_84 C hP sh_0 rfl dX8_odds_28 ?_
      refine lv_aload_n C.x C.b dX8_odds_31 rfl (lv_at hl 0 rfl) ?_
      refine g_ref (k' := 14) F_8_0 u2_79 C hP sh_0 rfl dX8_odds_32 ?_
      refine g_ref (k' := 15) F_6_0 u1_237 C hP sh_14 rfl dX8_odds_35 ?_
      obtain ⟨μ8, e7, h⟩ := bnv_some h
      refine k_vv (k := 95) (as := [.ref (G.2.2 15)]) (rest := []) (c_X0_copyFrom C.i at_sGround_95 at_sGround_15 e7) M_X0_copyFrom u3_171 C hP hS sh_95 rfl rfl (by decide) hl.1 rfl (Nat.le_of_ble_eq_true rfl) dX8_odds_38 (fun H locs hP hS => ?_)
      refine lv_iconst (v := 0) C.x C.b dX8_odds_41 (by decide) ?_
      refine lv_istore (lv' := [(4, .int 0), (0, .ref (G.2.2 0)), (1, .int x1), (2, .int x2), (3, .int x3)]) C.x C.b dX8_odds_42 hl (by decide) rfl (fun ls hl => ?_)
      refine lv_iconst (v := 0) C.x C.b dX8_odds_44 (by decide) ?_
      refine lv_istore (lv' := [(5, .int 0), (4, .int 0), (0, .ref (G.2.2 0)), (1, .int x1), (2, .int x2), (3, .int x3)]) C.x C.b dX8_odds_45 hl (by decide) rfl (fun ls hl => ?_)
      exact b_X8_odds_47 C FU 0 0 μ8 h _ _ _ hP hS (lv_sub hl [2, 3, 4, 5, 1, 0] rfl)
    · have h := (if_pos c6).symm.trans h
      refine lv_ldc2 (own := RX8) (v := (-9223372036854775808)) C.x C.b C.o (C.t _ u3_124) dX8_odds_23 ?_
      exact r_l h C hP hS dX8_odds_26

set_option maxRecDepth 100000 in
set_option maxHeartbeats 4000000 in
theorem c_X8_odds {l : Launch} {G : Gp} (hI : Wi G) {x1 : Int32} {x2 : Int32} {x3 : Int32} {μ : Mem} {r : Int64} {μ' : Mem} (h : f_X8_odds x1 x2 x3 μ = some (r, μ')) : CL l yX8_odds cX8_odds 6 (some .long) 6 146 G [.ref (G.2.2 0), .int x1, .int x2, .int x3] μ r μ' :=
  e_all (lv := [(0, .ref (G.2.2 0)), (1, .int x1), (2, .int x2), (3, .int x3)]) hI (by decide) (Nat.le_of_ble_eq_true rfl) rfl (fun p e s m args below meth c ls C hP hS hl => b_X8_odds C h _ _ _ hP hS hl)


def f_X8_mean (x1 : Int32) (μ : Mem) : Option Int64 := if (μ.1 22 0) = 0 then (some ((-9223372036854775808))) else (bnv (f_X8_isUpTo x1 1 μ) (fun r3 => if r3 = 0 then (some ((-9223372036854775808))) else (bnv (f_X3_total 22 μ) (fun r6 => bnv (f_X3_allLoads 22 μ) (fun r8 => bnv (f_X8_fractionPart r6 r8 x1 μ) (fun r10 => some r10))))))
set_option maxRecDepth 100000 in
set_option maxHeartbeats 4000000 in
theorem b_X8_mean {p : Program} {l : Launch} {e : Env} {s : State} {m : MethodId} {args : Array Value} {below : List Frame} {meth : Method} {c : Code} {G : Gp} {O : Int64} (C : Cx p s m args meth c cX8_mean 2 RX8 (some .long) G) {x1 : Int32} {μ : Mem} (h : f_X8_mean x1 μ = some O) : ∀ (H : Heap) (locs : List Loc) (ls : Array Slot), Wm G μ H → va_S (wA G) s.heap H locs → lv_has ls 2 [(0, .ref (G.2.2 0)), (1, .int x1)] → W p l e (rmm 2 46) s m args below meth c H locs 0 0 (QL below args s G (O, μ)) (F0 m 0 ls []) := by
  unfold f_X8_mean at h
  intro H locs ls hP hS hl
  refine lv_aload_n C.x C.b dX8_mean_0 rfl (lv_at hl 0 rfl) ?_
  refine g_ref (k' := 14) F_8_0 u2_79 C hP sh_0 rfl dX8_mean_1 ?_
  refine g_ref (k' := 22) F_6_1 u1_239 C hP sh_14 rfl dX8_mean_4 ?_
  refine g_int F_3_0 u1_150 C hP sh_22 dX8_mean_7 ?_
  refine lv_if_eq (tgt := 21) C.x C.b dX8_mean_10 (by decide) (fun c1 => ?_) (fun c1 => ?_)
  · have h := (if_pos c1).symm.trans h
    refine lv_ldc2 (own := RX8) (v := (-9223372036854775808)) C.x C.b C.o (C.t _ u3_124) dX8_mean_21 ?_
    exact r_l (pr_some h) C hP hS dX8_mean_24
  · have h := (if_neg c1).symm.trans h
    refine lv_iload_n C.x C.b dX8_mean_13 rfl (lv_at hl 1 rfl) ?_
    refine lv_iconst (v := 1) C.x C.b dX8_mean_14 (by decide) ?_
    obtain ⟨r3, e2, h⟩ := bnv_some h
    refine k_si (as := [.int x1, .int 1]) (rest := []) (c_X8_isUpTo C.i e2) M_X8_isUpTo u2_105 C hP hS rfl (by decide) hl.1 rfl (Nat.le_of_ble_eq_true rfl) dX8_mean_15 (fun H locs hP hS => ?_)
    refine lv_if_ne (tgt := 25) C.x C.b dX8_mean_18 (by decide) (fun c4 => ?_) (fun c4 => ?_)
    · have h := (if_neg c4).symm.trans h
      refine lv_aload_n C.x C.b dX8_mean_25 rfl (lv_at hl 0 rfl) ?_
      refine g_ref (k' := 14) F_8_0 u2_79 C hP sh_0 rfl dX8_mean_26 ?_
      refine g_ref (k' := 22) F_6_1 u1_239 C hP sh_14 rfl dX8_mean_29 ?_
      obtain ⟨r6, e5, h⟩ := bnv_some h
      refine k_vi (k := 22) (as := []) (rest := []) (c_X3_total C.i at_sPlan_22 e5) M_X3_total u3_56 C hP hS sh_22 rfl rfl (by decide) hl.1 rfl (Nat.le_of_ble_eq_true rfl) dX8_mean_32 (fun H locs hP hS => ?_)
      refine lv_aload_n C.x C.b dX8_mean_35 rfl (lv_at hl 0 rfl) ?_
      refine g_ref (k' := 14) F_8_0 u2_79 C hP sh_0 rfl dX8_mean_36 ?_
      refine g_ref (k' := 22) F_6_1 u1_239 C hP sh_14 rfl dX8_mean_39 ?_
      obtain ⟨r8, e7, h⟩ := bnv_some h
      refine k_vi (k := 22) (as := []) (rest := [.int r6]) (c_X3_allLoads C.i at_sPlan_22 e7) M_X3_allLoads u4_12 C hP hS sh_22 rfl rfl (by decide) hl.1 rfl (Nat.le_of_ble_eq_true rfl) dX8_mean_42 (fun H locs hP hS => ?_)
      refine lv_iload_n C.x C.b dX8_mean_45 rfl (lv_at hl 1 rfl) ?_
      obtain ⟨r10, e9, h⟩ := bnv_some h
      refine k_sl (as := [.int r6, .int r8, .int x1]) (rest := []) (c_X8_fractionPart C.i e9) M_X8_fractionPart u4_2 C hP hS rfl (by decide) hl.1 rfl (Nat.le_of_ble_eq_true rfl) dX8_mean_46 (fun H locs hP hS => ?_)
      exact r_l (pr_some h) C hP hS dX8_mean_49
    · have h := (if_pos c4).symm.trans h
      refine lv_ldc2 (own := RX8) (v := (-9223372036854775808)) C.x C.b C.o (C.t _ u3_124) dX8_mean_21 ?_
      exact r_l (pr_some h) C hP hS dX8_mean_24

set_option maxRecDepth 100000 in
set_option maxHeartbeats 4000000 in
theorem c_X8_mean {l : Launch} {G : Gp} (hI : Wi G) {x1 : Int32} {μ : Mem} {r : Int64} (h : f_X8_mean x1 μ = some r) : CL l yX8_mean cX8_mean 2 (some .long) 2 46 G [.ref (G.2.2 0), .int x1] μ r μ :=
  e_all (lv := [(0, .ref (G.2.2 0)), (1, .int x1)]) hI (by decide) (Nat.le_of_ble_eq_true rfl) rfl (fun p e s m args below meth c ls C hP hS hl => b_X8_mean C h _ _ _ hP hS hl)


def f_X8_isOrder (x1 : Int32) (x2 : Int32) (μ : Mem) : Option Int32 := if x1 = 0 then (bnv (f_X0_isSite 15 0 x2 μ) (fun r3 => grd (isB r3) (some r3))) else (if x1 = 1 then (bnv (f_X0_isSite 15 1 x2 μ) (fun r7 => grd (isB r7) (some r7))) else (if x1 = 2 then (if x2 < 0 then (some 0) else (bnv (f_X0_isRoad 15 (x2 / 10) (rm32 x2 10) μ) (fun r12 => if r12 = 0 then (some 0) else (some 1)))) else (if x1 = 3 then (bnv (f_X0_isSite 15 0 x2 μ) (fun r16 => grd (isB r16) (some r16))) else ((some 0)))))
set_option maxRecDepth 100000 in
set_option maxHeartbeats 4000000 in
theorem b_X8_isOrder {p : Program} {l : Launch} {e : Env} {s : State} {m : MethodId} {args : Array Value} {below : List Frame} {meth : Method} {c : Code} {G : Gp} {O : Int32} (C : Cx p s m args meth c cX8_isOrder 3 RX8 (some .boolean) G) {x1 : Int32} {x2 : Int32} {μ : Mem} (h : f_X8_isOrder x1 x2 μ = some O) : ∀ (H : Heap) (locs : List Loc) (ls : Array Slot), Wm G μ H → va_S (wA G) s.heap H locs → lv_has ls 3 [(0, .ref (G.2.2 0)), (1, .int x1), (2, .int x2)] → W p l e (rmm 1 22) s m args below meth c H locs 0 0 (QI below args s G (O, μ)) (F0 m 0 ls []) := by
  unfold f_X8_isOrder at h
  intro H locs ls hP hS hl
  refine lv_iload_n C.x C.b dX8_isOrder_0 rfl (lv_at hl 1 rfl) ?_
  by_cases c1 : x1 = 0
  · have h := (if_pos c1).symm.trans h
    refine lv_tableIn (off := 31) (tgt := 32) C.x C.b dX8_isOrder_1 (by rw [c1]; decide) (by rw [c1]; decide) (by rw [c1]; rfl) (by decide) ?_
    refine lv_aload_n C.x C.b dX8_isOrder_32 rfl (lv_at hl 0 rfl) ?_
    refine g_ref (k' := 14) F_8_0 u2_79 C hP sh_0 rfl dX8_isOrder_33 ?_
    refine g_ref (k' := 15) F_6_0 u1_237 C hP sh_14 rfl dX8_isOrder_36 ?_
    refine lv_iconst (v := 0) C.x C.b dX8_isOrder_39 (by decide) ?_
    refine lv_iload_n C.x C.b dX8_isOrder_40 rfl (lv_at hl 2 rfl) ?_
    obtain ⟨r3, e2, h⟩ := bnv_some h
    refine k_vi (k := 15) (as := [.int 0, .int x2]) (rest := []) (c_X0_isSite C.i at_sGround_15 e2) M_X0_isSite u2_124 C hP hS sh_15 rfl rfl (by decide) hl.1 rfl (Nat.le_of_ble_eq_true rfl) dX8_isOrder_41 (fun H locs hP hS => ?_)
    obtain ⟨g4, h⟩ := grd_some h
    exact r_z (pr_some h) g4 C hP hS dX8_isOrder_44
  · have h := (if_neg c1).symm.trans h
    by_cases c5 : x1 = 1
    · have h := (if_pos c5).symm.trans h
      refine lv_tableIn (off := 44) (tgt := 45) C.x C.b dX8_isOrder_1 (by rw [c5]; decide) (by rw [c5]; decide) (by rw [c5]; rfl) (by decide) ?_
      refine lv_aload_n C.x C.b dX8_isOrder_45 rfl (lv_at hl 0 rfl) ?_
      refine g_ref (k' := 14) F_8_0 u2_79 C hP sh_0 rfl dX8_isOrder_46 ?_
      refine g_ref (k' := 15) F_6_0 u1_237 C hP sh_14 rfl dX8_isOrder_49 ?_
      refine lv_iconst (v := 1) C.x C.b dX8_isOrder_52 (by decide) ?_
      refine lv_iload_n C.x C.b dX8_isOrder_53 rfl (lv_at hl 2 rfl) ?_
      obtain ⟨r7, e6, h⟩ := bnv_some h
      refine k_vi (k := 15) (as := [.int 1, .int x2]) (rest := []) (c_X0_isSite C.i at_sGround_15 e6) M_X0_isSite u2_124 C hP hS sh_15 rfl rfl (by decide) hl.1 rfl (Nat.le_of_ble_eq_true rfl) dX8_isOrder_54 (fun H locs hP hS => ?_)
      obtain ⟨g8, h⟩ := grd_some h
      exact r_z (pr_some h) g8 C hP hS dX8_isOrder_57
    · have h := (if_neg c5).symm.trans h
      by_cases c9 : x1 = 2
      · have h := (if_pos c9).symm.trans h
        refine lv_tableIn (off := 57) (tgt := 58) C.x C.b dX8_isOrder_1 (by rw [c9]; decide) (by rw [c9]; decide) (by rw [c9]; rfl) (by decide) ?_
        refine lv_iload_n C.x C.b dX8_isOrder_58 rfl (lv_at hl 2 rfl) ?_
        refine lv_if_lt (tgt := 87) C.x C.b dX8_isOrder_59 (by decide) (fun c10 => ?_) (fun c10 => ?_)
        · have h := (if_pos c10).symm.trans h
          refine lv_iconst (v := 0) C.x C.b dX8_isOrder_87 (by decide) ?_
          exact r_z (pr_some h) (by decide) C hP hS dX8_isOrder_88
        · have h := (if_neg c10).symm.trans h
          refine lv_aload_n C.x C.b dX8_isOrder_62 rfl (lv_at hl 0 rfl) ?_
          refine g_ref (k' := 14) F_8_0 u2_79 C hP sh_0 rfl dX8_isOrder_63 ?_
          refine g_ref (k' := 15) F_6_0 u1_237 C hP sh_14 rfl dX8_isOrder_66 ?_
          refine lv_iload_n C.x C.b dX8_isOrder_69 rfl (lv_at hl 2 rfl) ?_
          refine lv_bipush (v := 10) C.x C.b dX8_isOrder_70 (by decide) ?_
          refine lv_idiv C.x C.b dX8_isOrder_72 (by decide) ?_
          refine lv_iload_n C.x C.b dX8_isOrder_73 rfl (lv_at hl 2 rfl) ?_
          refine lv_bipush (v := 10) C.x C.b dX8_isOrder_74 (by decide) ?_
          refine lv_irem C.x C.b dX8_isOrder_76 (by decide) ?_
          obtain ⟨r12, e11, h⟩ := bnv_some h
          refine k_vi (k := 15) (as := [.int (x2 / 10), .int (rm32 x2 10)]) (rest := []) (c_X0_isRoad C.i at_sGround_15 e11) M_X0_isRoad u2_136 C hP hS sh_15 rfl rfl (by decide) hl.1 rfl (Nat.le_of_ble_eq_true rfl) dX8_isOrder_77 (fun H locs hP hS => ?_)
          refine lv_if_eq (tgt := 87) C.x C.b dX8_isOrder_80 (by decide) (fun c13 => ?_) (fun c13 => ?_)
          · have h := (if_pos c13).symm.trans h
            refine lv_iconst (v := 0) C.x C.b dX8_isOrder_87 (by decide) ?_
            exact r_z (pr_some h) (by decide) C hP hS dX8_isOrder_88
          · have h := (if_neg c13).symm.trans h
            refine lv_iconst (v := 1) C.x C.b dX8_isOrder_83 (by decide) ?_
            refine lv_goto (tgt := 88) C.x C.b dX8_isOrder_84 (by decide) ?_
            exact r_z (pr_some h) (by decide) C hP hS dX8_isOrder_88
      · have h := (if_neg c9).symm.trans h
        by_cases c14 : x1 = 3
        · have h := (if_pos c14).symm.trans h
          refine lv_tableIn (off := 31) (tgt := 32) C.x C.b dX8_isOrder_1 (by rw [c14]; decide) (by rw [c14]; decide) (by rw [c14]; rfl) (by decide) ?_
          refine lv_aload_n C.x C.b dX8_isOrder_32 rfl (lv_at hl 0 rfl) ?_
          refine g_ref (k' := 14) F_8_0 u2_79 C hP sh_0 rfl dX8_isOrder_33 ?_
          refine g_ref (k' := 15) F_6_0 u1_237 C hP sh_14 rfl dX8_isOrder_36 ?_
          refine lv_iconst (v := 0) C.x C.b dX8_isOrder_39 (by decide) ?_
          refine lv_iload_n C.x C.b dX8_isOrder_40 rfl (lv_at hl 2 rfl) ?_
          obtain ⟨r16, e15, h⟩ := bnv_some h
          refine k_vi (k := 15) (as := [.int 0, .int x2]) (rest := []) (c_X0_isSite C.i at_sGround_15 e15) M_X0_isSite u2_124 C hP hS sh_15 rfl rfl (by decide) hl.1 rfl (Nat.le_of_ble_eq_true rfl) dX8_isOrder_41 (fun H locs hP hS => ?_)
          obtain ⟨g17, h⟩ := grd_some h
          exact r_z (pr_some h) g17 C hP hS dX8_isOrder_44
        · have h := (if_neg c14).symm.trans h
          have t_c1 := lv_neT (a := 0) c1 (by decide)
          have t_c5 := lv_neT (a := 1) c5 (by decide)
          have t_c9 := lv_neT (a := 2) c9 (by decide)
          have t_c14 := lv_neT (a := 3) c14 (by decide)
          refine lv_tableOut (tgt := 89) C.x C.b dX8_isOrder_1 (by omega) (by decide) ?_
          refine lv_iconst (v := 0) C.x C.b dX8_isOrder_89 (by decide) ?_
          exact r_z (pr_some h) (by decide) C hP hS dX8_isOrder_90

set_option maxRecDepth 100000 in
set_option maxHeartbeats 4000000 in
theorem c_X8_isOrder {l : Launch} {G : Gp} (hI : Wi G) {x1 : Int32} {x2 : Int32} {μ : Mem} {r : Int32} (h : f_X8_isOrder x1 x2 μ = some r) : CI l yX8_isOrder cX8_isOrder 3 (some .boolean) 1 22 G [.ref (G.2.2 0), .int x1, .int x2] μ r μ :=
  e_all (lv := [(0, .ref (G.2.2 0)), (1, .int x1), (2, .int x2)]) hI (by decide) (Nat.le_of_ble_eq_true rfl) rfl (fun p e s m args below meth c ls C hP hS hl => b_X8_isOrder C h _ _ _ hP hS hl)


def f_X8_order (x1 : Int32) (x2 : Int32) (μ : Mem) : Option (Int32 × Mem) := if x1 = ((-1)) then (bnd (f_X4_drop 45 μ) (fun r9 μ10 => some (r9, μ10))) else (bnv (f_X8_isOrder x1 x2 μ) (fun r3 => if r3 = 0 then (some ((-1), μ)) else (bnd (f_X4_add 45 x1 x2 μ) (fun r6 μ7 => some (r6, μ7)))))
set_option maxRecDepth 100000 in
set_option maxHeartbeats 4000000 in
theorem b_X8_order {p : Program} {l : Launch} {e : Env} {s : State} {m : MethodId} {args : Array Value} {below : List Frame} {meth : Method} {c : Code} {G : Gp} {O : (Int32 × Mem)} (C : Cx p s m args meth c cX8_order 3 RX8 (some .int) G) {x1 : Int32} {x2 : Int32} {μ : Mem} (h : f_X8_order x1 x2 μ = some O) : ∀ (H : Heap) (locs : List Loc) (ls : Array Slot), Wm G μ H → va_S (wA G) s.heap H locs → lv_has ls 3 [(0, .ref (G.2.2 0)), (1, .int x1), (2, .int x2)] → W p l e (rmm 2 44) s m args below meth c H locs 0 0 (QI below args s G O) (F0 m 0 ls []) := by
  unfold f_X8_order at h
  intro H locs ls hP hS hl
  refine lv_iload_n C.x C.b dX8_order_0 rfl (lv_at hl 1 rfl) ?_
  refine lv_iconst (v := (-1)) C.x C.b dX8_order_1 (by decide) ?_
  refine lv_icmp_ne (tgt := 16) C.x C.b dX8_order_2 (by decide) (fun c1 => ?_) (fun c1 => ?_)
  · have h := (if_neg c1).symm.trans h
    refine lv_aload_n C.x C.b dX8_order_16 rfl (lv_at hl 0 rfl) ?_
    refine lv_iload_n C.x C.b dX8_order_17 rfl (lv_at hl 1 rfl) ?_
    refine lv_iload_n C.x C.b dX8_order_18 rfl (lv_at hl 2 rfl) ?_
    obtain ⟨r3, e2, h⟩ := bnv_some h
    refine k_vi (k := 0) (as := [.int x1, .int x2]) (rest := []) (c_X8_isOrder C.i e2) M_X8_isOrder u4_20 C hP hS sh_0 rfl rfl (by decide) hl.1 rfl (Nat.le_of_ble_eq_true rfl) dX8_order_19 (fun H locs hP hS => ?_)
    refine lv_if_eq (tgt := 40) C.x C.b dX8_order_22 (by decide) (fun c4 => ?_) (fun c4 => ?_)
    · have h := (if_pos c4).symm.trans h
      refine lv_iconst (v := (-1)) C.x C.b dX8_order_40 (by decide) ?_
      exact r_i h C hP hS dX8_order_41
    · have h := (if_neg c4).symm.trans h
      refine lv_aload_n C.x C.b dX8_order_25 rfl (lv_at hl 0 rfl) ?_
      refine g_ref (k' := 14) F_8_0 u2_79 C hP sh_0 rfl dX8_order_26 ?_
      refine g_ref (k' := 45) F_6_3 u2_3 C hP sh_14 rfl dX8_order_29 ?_
      refine lv_iload_n C.x C.b dX8_order_32 rfl (lv_at hl 1 rfl) ?_
      refine lv_iload_n C.x C.b dX8_order_33 rfl (lv_at hl 2 rfl) ?_
      obtain ⟨r6, μ7, e5, h⟩ := bnd_some h
      refine k_vi (k := 45) (as := [.int x1, .int x2]) (rest := []) (c_X4_add C.i at_sRows_45 e5) M_X4_add u3_226 C hP hS sh_45 rfl rfl (by decide) hl.1 rfl (Nat.le_of_ble_eq_true rfl) dX8_order_34 (fun H locs hP hS => ?_)
      refine lv_goto (tgt := 41) C.x C.b dX8_order_37 (by decide) ?_
      exact r_i h C hP hS dX8_order_41
  · have h := (if_pos c1).symm.trans h
    refine lv_aload_n C.x C.b dX8_order_5 rfl (lv_at hl 0 rfl) ?_
    refine g_ref (k' := 14) F_8_0 u2_79 C hP sh_0 rfl dX8_order_6 ?_
    refine g_ref (k' := 45) F_6_3 u2_3 C hP sh_14 rfl dX8_order_9 ?_
    obtain ⟨r9, μ10, e8, h⟩ := bnd_some h
    refine k_vi (k := 45) (as := []) (rest := []) (c_X4_drop C.i at_sRows_45 e8) M_X4_drop u3_222 C hP hS sh_45 rfl rfl (by decide) hl.1 rfl (Nat.le_of_ble_eq_true rfl) dX8_order_12 (fun H locs hP hS => ?_)
    exact r_i h C hP hS dX8_order_15

set_option maxRecDepth 100000 in
set_option maxHeartbeats 4000000 in
theorem c_X8_order {l : Launch} {G : Gp} (hI : Wi G) {x1 : Int32} {x2 : Int32} {μ : Mem} {r : Int32} {μ' : Mem} (h : f_X8_order x1 x2 μ = some (r, μ')) : CI l yX8_order cX8_order 3 (some .int) 2 44 G [.ref (G.2.2 0), .int x1, .int x2] μ r μ' :=
  e_all (lv := [(0, .ref (G.2.2 0)), (1, .int x1), (2, .int x2)]) hI (by decide) (Nat.le_of_ble_eq_true rfl) rfl (fun p e s m args below meth c ls C hP hS hl => b_X8_order C h _ _ _ hP hS hl)


def g_X8_ends_26 (x1 : Int32)  (q26 : Int32 → Mem → Option (Int32 × Mem)) (x2 : Int32) (μ : Mem) : Option (Int32 × Mem) := if (μ.1 45 1) ≤ x2 then (if x1 = 0 then (bnd (f_X8_tryTheBest μ) (fun r10 μ11 => if r10 = 0 then (some ((-5), μ11)) else (bnv (f_X3_total 102 μ11) (fun r14 => some (r14, μ11))))) else (bnv (f_X0_allStones 95 μ) (fun r4 => bnv (f_X0_allWants 95 μ) (fun r6 => lt (r4 - r6) (fun y7 => if x1 = 1 then (some (mx 0 y7, μ)) else (some (mx 0 (-y7), μ))))))) else (grd (inb x2 8) (grd (inb x2 8) (bnv (f_X0_happen 95 (μ.1 46 x2.toNatClampNeg) (μ.1 47 x2.toNatClampNeg) μ) (fun μ18 => lt (x2 + 1) (fun y19 => q26 y19 μ18)))))
def f_X8_ends_26 (x1 : Int32)  : Nat → Int32 → Mem → Option (Int32 × Mem)
  | 0, _, _ => none
  | n + 1, x2, μ => g_X8_ends_26 x1 (f_X8_ends_26 x1 n) x2 μ
set_option maxRecDepth 100000 in
set_option maxHeartbeats 4000000 in
theorem w_X8_ends_26 {p : Program} {l : Launch} {e : Env} {s : State} {m : MethodId} {args : Array Value} {below : List Frame} {meth : Method} {c : Code} {G : Gp} {O : (Int32 × Mem)} (C : Cx p s m args meth c cX8_ends 3 RX8 (some .int) G) {x1 : Int32} {q26 : Int32 → Mem → Option (Int32 × Mem)} (hq26 : ∀ (x2 : Int32) (μ : Mem), q26 x2 μ = some O → ∀ (H : Heap) (locs : List Loc) (ls : Array Slot), Wm G μ H → va_S (wA G) s.heap H locs → lv_has ls 3 [(0, .ref (G.2.2 0)), (1, .int x1), (2, .int x2)] → W p l e (rmm 6 146) s m args below meth c H locs 0 0 (QI below args s G O) (F0 m 26 ls [])) : ∀ (x2 : Int32) (μ : Mem), g_X8_ends_26 x1 q26 x2 μ = some O → ∀ (H : Heap) (locs : List Loc) (ls : Array Slot), Wm G μ H → va_S (wA G) s.heap H locs → lv_has ls 3 [(0, .ref (G.2.2 0)), (1, .int x1), (2, .int x2)] → W p l e (rmm 6 146) s m args below meth c H locs 0 0 (QI below args s G O) (F0 m 26 ls []) := by
  intro x2 μ h H locs ls hP hS hl
  unfold g_X8_ends_26 at h
  refine lv_iload_n C.x C.b dX8_ends_26 rfl (lv_at hl 2 rfl) ?_
  refine lv_aload_n C.x C.b dX8_ends_27 rfl (lv_at hl 0 rfl) ?_
  refine g_ref (k' := 14) F_8_0 u2_79 C hP sh_0 rfl dX8_ends_28 ?_
  refine g_ref (k' := 45) F_6_3 u2_3 C hP sh_14 rfl dX8_ends_31 ?_
  refine g_int F_4_1 u1_222 C hP sh_45 dX8_ends_34 ?_
  refine lv_icmp_ge (tgt := 77) C.x C.b dX8_ends_37 (by decide) (fun c1 => ?_) (fun c1 => ?_)
  · have h := (if_pos c1).symm.trans h
    refine lv_iload_n C.x C.b dX8_ends_77 rfl (lv_at hl 1 rfl) ?_
    refine lv_if_ne (tgt := 101) C.x C.b dX8_ends_78 (by decide) (fun c2 => ?_) (fun c2 => ?_)
    · have h := (if_neg c2).symm.trans h
      refine lv_aload_n C.x C.b dX8_ends_101 rfl (lv_at hl 0 rfl) ?_
      refine g_ref (k' := 95) F_8_5 u2_84 C hP sh_0 rfl dX8_ends_102 ?_
      obtain ⟨r4, e3, h⟩ := bnv_some h
      refine k_vi (k := 95) (as := []) (rest := []) (c_X0_allStones C.i at_sGround_95 e3) M_X0_allStones u4_35 C hP hS sh_95 rfl rfl (by decide) hl.1 rfl (Nat.le_of_ble_eq_true rfl) dX8_ends_105 (fun H locs hP hS => ?_)
      refine lv_aload_n C.x C.b dX8_ends_108 rfl (lv_at hl 0 rfl) ?_
      refine g_ref (k' := 95) F_8_5 u2_84 C hP sh_0 rfl dX8_ends_109 ?_
      obtain ⟨r6, e5, h⟩ := bnv_some h
      refine k_vi (k := 95) (as := []) (rest := [.int r4]) (c_X0_allWants C.i at_sGround_95 e5) M_X0_allWants u4_36 C hP hS sh_95 rfl rfl (by decide) hl.1 rfl (Nat.le_of_ble_eq_true rfl) dX8_ends_112 (fun H locs hP hS => ?_)
      refine lv_isub C.x C.b dX8_ends_115 ?_
      refine lv_topi (fun y7 e_y7 => ?_)
      have h := lt_at h e_y7
      refine lv_istore_n (lv' := [(2, .int y7), (0, .ref (G.2.2 0)), (1, .int x1)]) C.x C.b dX8_ends_116 rfl hl (by decide) rfl (fun ls hl => ?_)
      refine lv_iconst (v := 0) C.x C.b dX8_ends_117 (by decide) ?_
      refine lv_iload_n C.x C.b dX8_ends_118 rfl (lv_at hl 2 rfl) ?_
      refine lv_iconst (v := 1) C.x C.b dX8_ends_119 (by decide) ?_
      refine lv_icmp_ne (tgt := 127) C.x C.b dX8_ends_120 (by decide) (fun c8 => ?_) (fun c8 => ?_)
      · have h := (if_neg c8).symm.trans h
        refine lv_iload_n C.x C.b dX8_ends_127 rfl (lv_at hl 0 rfl) ?_
        refine lv_ineg C.x C.b dX8_ends_128 ?_
        refine k_max u4_37 C hl.1 ⟨by decide, Nat.le_of_ble_eq_true rfl⟩ dX8_ends_129 ?_
        exact r_i h C hP hS dX8_ends_132
      · have h := (if_pos c8).symm.trans h
        refine lv_iload_n C.x C.b dX8_ends_123 rfl (lv_at hl 0 rfl) ?_
        refine lv_goto (tgt := 129) C.x C.b dX8_ends_124 (by decide) ?_
        refine k_max u4_37 C hl.1 ⟨by decide, Nat.le_of_ble_eq_true rfl⟩ dX8_ends_129 ?_
        exact r_i h C hP hS dX8_ends_132
    · have h := (if_pos c2).symm.trans h
      refine lv_aload_n C.x C.b dX8_ends_81 rfl (lv_at hl 0 rfl) ?_
      obtain ⟨r10, μ11, e9, h⟩ := bnd_some h
      refine k_vi (k := 0) (as := []) (rest := []) (c_X8_tryTheBest C.i e9) M_X8_tryTheBest u3_196 C hP hS sh_0 rfl rfl (by decide) hl.1 rfl (Nat.le_of_ble_eq_true rfl) dX8_ends_82 (fun H locs hP hS => ?_)
      refine lv_if_eq (tgt := 98) C.x C.b dX8_ends_85 (by decide) (fun c12 => ?_) (fun c12 => ?_)
      · have h := (if_pos c12).symm.trans h
        refine lv_bipush (v := (-5)) C.x C.b dX8_ends_98 (by decide) ?_
        exact r_i h C hP hS dX8_ends_100
      · have h := (if_neg c12).symm.trans h
        refine lv_aload_n C.x C.b dX8_ends_88 rfl (lv_at hl 0 rfl) ?_
        refine g_ref (k' := 102) F_8_6 u2_85 C hP sh_0 rfl dX8_ends_89 ?_
        obtain ⟨r14, e13, h⟩ := bnv_some h
        refine k_vi (k := 102) (as := []) (rest := []) (c_X3_total C.i at_sPlan_102 e13) M_X3_total u3_56 C hP hS sh_102 rfl rfl (by decide) hl.1 rfl (Nat.le_of_ble_eq_true rfl) dX8_ends_92 (fun H locs hP hS => ?_)
        refine lv_goto (tgt := 100) C.x C.b dX8_ends_95 (by decide) ?_
        exact r_i h C hP hS dX8_ends_100
  · have h := (if_neg c1).symm.trans h
    refine lv_aload_n C.x C.b dX8_ends_40 rfl (lv_at hl 0 rfl) ?_
    refine g_ref (k' := 95) F_8_5 u2_84 C hP sh_0 rfl dX8_ends_41 ?_
    refine lv_aload_n C.x C.b dX8_ends_44 rfl (lv_at hl 0 rfl) ?_
    refine g_ref (k' := 14) F_8_0 u2_79 C hP sh_0 rfl dX8_ends_45 ?_
    refine g_ref (k' := 45) F_6_3 u2_3 C hP sh_14 rfl dX8_ends_48 ?_
    refine g_ref (k' := 46) F_4_2 u1_224 C hP sh_45 rfl dX8_ends_51 ?_
    refine lv_iload_n C.x C.b dX8_ends_54 rfl (lv_at hl 2 rfl) ?_
    obtain ⟨g15, h⟩ := grd_some h
    refine a_i C hP sh_46 g15 dX8_ends_55 ?_
    refine lv_aload_n C.x C.b dX8_ends_56 rfl (lv_at hl 0 rfl) ?_
    refine g_ref (k' := 14) F_8_0 u2_79 C hP sh_0 rfl dX8_ends_57 ?_
    refine g_ref (k' := 45) F_6_3 u2_3 C hP sh_14 rfl dX8_ends_60 ?_
    refine g_ref (k' := 47) F_4_3 u1_226 C hP sh_45 rfl dX8_ends_63 ?_
    refine lv_iload_n C.x C.b dX8_ends_66 rfl (lv_at hl 2 rfl) ?_
    obtain ⟨g16, h⟩ := grd_some h
    refine a_i C hP sh_47 g16 dX8_ends_67 ?_
    obtain ⟨μ18, e17, h⟩ := bnv_some h
    refine k_vv (k := 95) (as := [.int (μ.1 46 x2.toNatClampNeg), .int (μ.1 47 x2.toNatClampNeg)]) (rest := []) (c_X0_happen C.i at_sGround_95 e17) M_X0_happen u4_28 C hP hS sh_95 rfl rfl (by decide) hl.1 rfl (Nat.le_of_ble_eq_true rfl) dX8_ends_68 (fun H locs hP hS => ?_)
    obtain ⟨y19, e_y19, h⟩ := lt_ex h
    refine lv_iinc (v := y19) (lv' := [(2, .int y19), (0, .ref (G.2.2 0)), (1, .int x1)]) C.x C.b dX8_ends_71 hl (k := 2) rfl (by rw [e_y19]; rfl) (by decide) rfl (fun ls hl => ?_)
    refine lv_goto (tgt := 26) C.x C.b dX8_ends_74 (by decide) ?_
    exact hq26 y19 μ18 h _ _ _ hP hS (lv_sub hl [1, 2, 0] rfl)

set_option maxRecDepth 100000 in
set_option maxHeartbeats 4000000 in
theorem b_X8_ends_26 {p : Program} {l : Launch} {e : Env} {s : State} {m : MethodId} {args : Array Value} {below : List Frame} {meth : Method} {c : Code} {G : Gp} {O : (Int32 × Mem)} (C : Cx p s m args meth c cX8_ends 3 RX8 (some .int) G) {x1 : Int32} : ∀ (n : Nat) (x2 : Int32) (μ : Mem), f_X8_ends_26 x1 n x2 μ = some O → ∀ (H : Heap) (locs : List Loc) (ls : Array Slot), Wm G μ H → va_S (wA G) s.heap H locs → lv_has ls 3 [(0, .ref (G.2.2 0)), (1, .int x1), (2, .int x2)] → W p l e (rmm 6 146) s m args below meth c H locs 0 0 (QI below args s G O) (F0 m 26 ls []) := by
  intro n
  induction n with
  | zero => intro x2 μ h; cases h
  | succ n ih => intro x2 μ h; exact w_X8_ends_26 C (q26 := f_X8_ends_26 x1 n) ih x2 μ h

def f_X8_ends (x1 : Int32) (μ : Mem) : Option (Int32 × Mem) := bnv (f_X8_isUpTo x1 2 μ) (fun r2 => if r2 = 0 then (some ((-1), μ)) else (bnv (f_X0_copyFrom 95 15 μ) (fun μ5 => f_X8_ends_26 x1 FU 0 μ5)))
set_option maxRecDepth 100000 in
set_option maxHeartbeats 4000000 in
theorem b_X8_ends {p : Program} {l : Launch} {e : Env} {s : State} {m : MethodId} {args : Array Value} {below : List Frame} {meth : Method} {c : Code} {G : Gp} {O : (Int32 × Mem)} (C : Cx p s m args meth c cX8_ends 3 RX8 (some .int) G) {x1 : Int32} {μ : Mem} (h : f_X8_ends x1 μ = some O) : ∀ (H : Heap) (locs : List Loc) (ls : Array Slot), Wm G μ H → va_S (wA G) s.heap H locs → lv_has ls 3 [(0, .ref (G.2.2 0)), (1, .int x1)] → W p l e (rmm 6 146) s m args below meth c H locs 0 0 (QI below args s G O) (F0 m 0 ls []) := by
  unfold f_X8_ends at h
  intro H locs ls hP hS hl
  refine lv_iload_n C.x C.b dX8_ends_0 rfl (lv_at hl 1 rfl) ?_
  refine lv_iconst (v := 2) C.x C.b dX8_ends_1 (by decide) ?_
  obtain ⟨r2, e1, h⟩ := bnv_some h
  refine k_si (as := [.int x1, .int 2]) (rest := []) (c_X8_isUpTo C.i e1) M_X8_isUpTo u2_105 C hP hS rfl (by decide) hl.1 rfl (Nat.le_of_ble_eq_true rfl) dX8_ends_2 (fun H locs hP hS => ?_)
  refine lv_if_ne (tgt := 10) C.x C.b dX8_ends_5 (by decide) (fun c3 => ?_) (fun c3 => ?_)
  · have h := (if_neg c3).symm.trans h
    refine lv_aload_n C.x C.b dX8_ends_10 rfl (lv_at hl 0 rfl) ?_
    refine g_ref (k' := 95) F_8_5 u2_84 C hP sh_0 rfl dX8_ends_11 ?_
    refine lv_aload_n C.x C.b dX8_ends_14 rfl (lv_at hl 0 rfl) ?_
    refine g_ref (k' := 14) F_8_0 u2_79 C hP sh_0 rfl dX8_ends_15 ?_
    refine g_ref (k' := 15) F_6_0 u1_237 C hP sh_14 rfl dX8_ends_18 ?_
    obtain ⟨μ5, e4, h⟩ := bnv_some h
    refine k_vv (k := 95) (as := [.ref (G.2.2 15)]) (rest := []) (c_X0_copyFrom C.i at_sGround_95 at_sGround_15 e4) M_X0_copyFrom u3_171 C hP hS sh_95 rfl rfl (by decide) hl.1 rfl (Nat.le_of_ble_eq_true rfl) dX8_ends_21 (fun H locs hP hS => ?_)
    refine lv_iconst (v := 0) C.x C.b dX8_ends_24 (by decide) ?_
    refine lv_istore_n (lv' := [(2, .int 0), (0, .ref (G.2.2 0)), (1, .int x1)]) C.x C.b dX8_ends_25 rfl hl (by decide) rfl (fun ls hl => ?_)
    exact b_X8_ends_26 C FU 0 μ5 h _ _ _ hP hS (lv_sub hl [1, 2, 0] rfl)
  · have h := (if_pos c3).symm.trans h
    refine lv_iconst (v := (-1)) C.x C.b dX8_ends_8 (by decide) ?_
    exact r_i h C hP hS dX8_ends_9

set_option maxRecDepth 100000 in
set_option maxHeartbeats 4000000 in
theorem c_X8_ends {l : Launch} {G : Gp} (hI : Wi G) {x1 : Int32} {μ : Mem} {r : Int32} {μ' : Mem} (h : f_X8_ends x1 μ = some (r, μ')) : CI l yX8_ends cX8_ends 3 (some .int) 6 146 G [.ref (G.2.2 0), .int x1] μ r μ' :=
  e_all (lv := [(0, .ref (G.2.2 0)), (1, .int x1)]) hI (by decide) (Nat.le_of_ble_eq_true rfl) rfl (fun p e s m args below meth c ls C hP hS hl => b_X8_ends C h _ _ _ hP hS hl)


def f_X8_book (x1 : Int32) (x2 : Int32) (x3 : Int32) (μ : Mem) : Option (Int32 × Mem) := if x1 = ((-1)) then (bnd (f_X4_drop 48 μ) (fun r14 μ15 => some (r14, μ15))) else (bnv (f_X0_isRoad 15 x1 x2 μ) (fun r3 => if r3 = 0 then (some ((-1), μ)) else (bnv (f_X8_isUpTo x3 99 μ) (fun r6 => if r6 = 0 then (some ((-2), μ)) else (bnv (f_X8_cellAt x1 x2 μ) (fun r9 => bnd (f_X4_add 48 r9 x3 μ) (fun r11 μ12 => some (r11, μ12))))))))
set_option maxRecDepth 100000 in
set_option maxHeartbeats 4000000 in
theorem b_X8_book {p : Program} {l : Launch} {e : Env} {s : State} {m : MethodId} {args : Array Value} {below : List Frame} {meth : Method} {c : Code} {G : Gp} {O : (Int32 × Mem)} (C : Cx p s m args meth c cX8_book 4 RX8 (some .int) G) {x1 : Int32} {x2 : Int32} {x3 : Int32} {μ : Mem} (h : f_X8_book x1 x2 x3 μ = some O) : ∀ (H : Heap) (locs : List Loc) (ls : Array Slot), Wm G μ H → va_S (wA G) s.heap H locs → lv_has ls 4 [(0, .ref (G.2.2 0)), (1, .int x1), (2, .int x2), (3, .int x3)] → W p l e (rmm 1 22) s m args below meth c H locs 0 0 (QI below args s G O) (F0 m 0 ls []) := by
  unfold f_X8_book at h
  intro H locs ls hP hS hl
  refine lv_iload_n C.x C.b dX8_book_0 rfl (lv_at hl 1 rfl) ?_
  refine lv_iconst (v := (-1)) C.x C.b dX8_book_1 (by decide) ?_
  refine lv_icmp_ne (tgt := 16) C.x C.b dX8_book_2 (by decide) (fun c1 => ?_) (fun c1 => ?_)
  · have h := (if_neg c1).symm.trans h
    refine lv_aload_n C.x C.b dX8_book_16 rfl (lv_at hl 0 rfl) ?_
    refine g_ref (k' := 14) F_8_0 u2_79 C hP sh_0 rfl dX8_book_17 ?_
    refine g_ref (k' := 15) F_6_0 u1_237 C hP sh_14 rfl dX8_book_20 ?_
    refine lv_iload_n C.x C.b dX8_book_23 rfl (lv_at hl 1 rfl) ?_
    refine lv_iload_n C.x C.b dX8_book_24 rfl (lv_at hl 2 rfl) ?_
    obtain ⟨r3, e2, h⟩ := bnv_some h
    refine k_vi (k := 15) (as := [.int x1, .int x2]) (rest := []) (c_X0_isRoad C.i at_sGround_15 e2) M_X0_isRoad u2_136 C hP hS sh_15 rfl rfl (by decide) hl.1 rfl (Nat.le_of_ble_eq_true rfl) dX8_book_25 (fun H locs hP hS => ?_)
    refine lv_if_ne (tgt := 33) C.x C.b dX8_book_28 (by decide) (fun c4 => ?_) (fun c4 => ?_)
    · have h := (if_neg c4).symm.trans h
      refine lv_iload_n C.x C.b dX8_book_33 rfl (lv_at hl 3 rfl) ?_
      refine lv_bipush (v := 99) C.x C.b dX8_book_34 (by decide) ?_
      obtain ⟨r6, e5, h⟩ := bnv_some h
      refine k_si (as := [.int x3, .int 99]) (rest := []) (c_X8_isUpTo C.i e5) M_X8_isUpTo u2_105 C hP hS rfl (by decide) hl.1 rfl (Nat.le_of_ble_eq_true rfl) dX8_book_36 (fun H locs hP hS => ?_)
      refine lv_if_eq (tgt := 61) C.x C.b dX8_book_39 (by decide) (fun c7 => ?_) (fun c7 => ?_)
      · have h := (if_pos c7).symm.trans h
        refine lv_bipush (v := (-2)) C.x C.b dX8_book_61 (by decide) ?_
        exact r_i h C hP hS dX8_book_63
      · have h := (if_neg c7).symm.trans h
        refine lv_aload_n C.x C.b dX8_book_42 rfl (lv_at hl 0 rfl) ?_
        refine g_ref (k' := 14) F_8_0 u2_79 C hP sh_0 rfl dX8_book_43 ?_
        refine g_ref (k' := 48) F_6_4 u2_5 C hP sh_14 rfl dX8_book_46 ?_
        refine lv_iload_n C.x C.b dX8_book_49 rfl (lv_at hl 1 rfl) ?_
        refine lv_iload_n C.x C.b dX8_book_50 rfl (lv_at hl 2 rfl) ?_
        obtain ⟨r9, e8, h⟩ := bnv_some h
        refine k_si (as := [.int x1, .int x2]) (rest := [.ref (G.2.2 48)]) (c_X8_cellAt C.i e8) M_X8_cellAt u3_115 C hP hS rfl (by decide) hl.1 rfl (Nat.le_of_ble_eq_true rfl) dX8_book_51 (fun H locs hP hS => ?_)
        refine lv_iload_n C.x C.b dX8_book_54 rfl (lv_at hl 3 rfl) ?_
        obtain ⟨r11, μ12, e10, h⟩ := bnd_some h
        refine k_vi (k := 48) (as := [.int r9, .int x3]) (rest := []) (c_X4_add C.i at_sRows_48 e10) M_X4_add u3_226 C hP hS sh_48 rfl rfl (by decide) hl.1 rfl (Nat.le_of_ble_eq_true rfl) dX8_book_55 (fun H locs hP hS => ?_)
        refine lv_goto (tgt := 63) C.x C.b dX8_book_58 (by decide) ?_
        exact r_i h C hP hS dX8_book_63
    · have h := (if_pos c4).symm.trans h
      refine lv_iconst (v := (-1)) C.x C.b dX8_book_31 (by decide) ?_
      exact r_i h C hP hS dX8_book_32
  · have h := (if_pos c1).symm.trans h
    refine lv_aload_n C.x C.b dX8_book_5 rfl (lv_at hl 0 rfl) ?_
    refine g_ref (k' := 14) F_8_0 u2_79 C hP sh_0 rfl dX8_book_6 ?_
    refine g_ref (k' := 48) F_6_4 u2_5 C hP sh_14 rfl dX8_book_9 ?_
    obtain ⟨r14, μ15, e13, h⟩ := bnd_some h
    refine k_vi (k := 48) (as := []) (rest := []) (c_X4_drop C.i at_sRows_48 e13) M_X4_drop u3_222 C hP hS sh_48 rfl rfl (by decide) hl.1 rfl (Nat.le_of_ble_eq_true rfl) dX8_book_12 (fun H locs hP hS => ?_)
    exact r_i h C hP hS dX8_book_15

set_option maxRecDepth 100000 in
set_option maxHeartbeats 4000000 in
theorem c_X8_book {l : Launch} {G : Gp} (hI : Wi G) {x1 : Int32} {x2 : Int32} {x3 : Int32} {μ : Mem} {r : Int32} {μ' : Mem} (h : f_X8_book x1 x2 x3 μ = some (r, μ')) : CI l yX8_book cX8_book 4 (some .int) 1 22 G [.ref (G.2.2 0), .int x1, .int x2, .int x3] μ r μ' :=
  e_all (lv := [(0, .ref (G.2.2 0)), (1, .int x1), (2, .int x2), (3, .int x3)]) hI (by decide) (Nat.le_of_ble_eq_true rfl) rfl (fun p e s m args below meth c ls C hP hS hl => b_X8_book C h _ _ _ hP hS hl)


def f_X8_looked  (μ : Mem) : Option Int32 := if (μ.1 22 0) = 0 then (some ((-3))) else (bnv (f_X4_firstOther 48 24 36 μ) (fun r3 => some r3))
set_option maxRecDepth 100000 in
set_option maxHeartbeats 4000000 in
theorem b_X8_looked {p : Program} {l : Launch} {e : Env} {s : State} {m : MethodId} {args : Array Value} {below : List Frame} {meth : Method} {c : Code} {G : Gp} {O : Int32} (C : Cx p s m args meth c cX8_looked 1 RX8 (some .int) G) {μ : Mem} (h : f_X8_looked μ = some O) : ∀ (H : Heap) (locs : List Loc) (ls : Array Slot), Wm G μ H → va_S (wA G) s.heap H locs → lv_has ls 1 [(0, .ref (G.2.2 0))] → W p l e (rmm 1 22) s m args below meth c H locs 0 0 (QI below args s G (O, μ)) (F0 m 0 ls []) := by
  unfold f_X8_looked at h
  intro H locs ls hP hS hl
  refine lv_aload_n C.x C.b dX8_looked_0 rfl (lv_at hl 0 rfl) ?_
  refine g_ref (k' := 14) F_8_0 u2_79 C hP sh_0 rfl dX8_looked_1 ?_
  refine g_ref (k' := 22) F_6_1 u1_239 C hP sh_14 rfl dX8_looked_4 ?_
  refine g_int F_3_0 u1_150 C hP sh_22 dX8_looked_7 ?_
  refine lv_if_eq (tgt := 36) C.x C.b dX8_looked_10 (by decide) (fun c1 => ?_) (fun c1 => ?_)
  · have h := (if_pos c1).symm.trans h
    refine lv_bipush (v := (-3)) C.x C.b dX8_looked_36 (by decide) ?_
    exact r_i (pr_some h) C hP hS dX8_looked_38
  · have h := (if_neg c1).symm.trans h
    refine lv_aload_n C.x C.b dX8_looked_13 rfl (lv_at hl 0 rfl) ?_
    refine g_ref (k' := 14) F_8_0 u2_79 C hP sh_0 rfl dX8_looked_14 ?_
    refine g_ref (k' := 48) F_6_4 u2_5 C hP sh_14 rfl dX8_looked_17 ?_
    refine lv_aload_n C.x C.b dX8_looked_20 rfl (lv_at hl 0 rfl) ?_
    refine g_ref (k' := 14) F_8_0 u2_79 C hP sh_0 rfl dX8_looked_21 ?_
    refine g_ref (k' := 22) F_6_1 u1_239 C hP sh_14 rfl dX8_looked_24 ?_
    refine g_ref (k' := 24) F_3_5 u1_160 C hP sh_22 rfl dX8_looked_27 ?_
    obtain ⟨r3, e2, h⟩ := bnv_some h
    refine k_vi (k := 48) (as := [.ref (G.2.2 24)]) (rest := []) (c_X4_firstOther C.i at_sRows_48 sh_24 e2) M_X4_firstOther u3_234 C hP hS sh_48 rfl rfl (by decide) hl.1 rfl (Nat.le_of_ble_eq_true rfl) dX8_looked_30 (fun H locs hP hS => ?_)
    refine lv_goto (tgt := 38) C.x C.b dX8_looked_33 (by decide) ?_
    exact r_i (pr_some h) C hP hS dX8_looked_38

set_option maxRecDepth 100000 in
set_option maxHeartbeats 4000000 in
theorem c_X8_looked {l : Launch} {G : Gp} (hI : Wi G) {μ : Mem} {r : Int32} (h : f_X8_looked μ = some r) : CI l yX8_looked cX8_looked 1 (some .int) 1 22 G [.ref (G.2.2 0)] μ r μ :=
  e_all (lv := [(0, .ref (G.2.2 0))]) hI (by decide) (Nat.le_of_ble_eq_true rfl) rfl (fun p e s m args below meth c ls C hP hS hl => b_X8_looked C h _ _ _ hP hS hl)


def f_X8_isTape (x0 : Int32) (μ : Mem) : Option Int32 := if x0 < 0 then (some 0) else (if 6 ≤ x0 then (some 0) else (some 1))
set_option maxRecDepth 100000 in
set_option maxHeartbeats 4000000 in
theorem b_X8_isTape {p : Program} {l : Launch} {e : Env} {s : State} {m : MethodId} {args : Array Value} {below : List Frame} {meth : Method} {c : Code} {G : Gp} {O : Int32} (C : Cx p s m args meth c cX8_isTape 1 RX8 (some .boolean) G) {x0 : Int32} {μ : Mem} (h : f_X8_isTape x0 μ = some O) : ∀ (H : Heap) (locs : List Loc) (ls : Array Slot), Wm G μ H → va_S (wA G) s.heap H locs → lv_has ls 1 [(0, .int x0)] → W p l e (rmm 0 0) s m args below meth c H locs 0 0 (QI below args s G (O, μ)) (F0 m 0 ls []) := by
  unfold f_X8_isTape at h
  intro H locs ls hP hS hl
  refine lv_iload_n C.x C.b dX8_isTape_0 rfl (lv_at hl 0 rfl) ?_
  refine lv_if_lt (tgt := 14) C.x C.b dX8_isTape_1 (by decide) (fun c1 => ?_) (fun c1 => ?_)
  · have h := (if_pos c1).symm.trans h
    refine lv_iconst (v := 0) C.x C.b dX8_isTape_14 (by decide) ?_
    exact r_z (pr_some h) (by decide) C hP hS dX8_isTape_15
  · have h := (if_neg c1).symm.trans h
    refine lv_iload_n C.x C.b dX8_isTape_4 rfl (lv_at hl 0 rfl) ?_
    refine lv_bipush (v := 6) C.x C.b dX8_isTape_5 (by decide) ?_
    refine lv_icmp_ge (tgt := 14) C.x C.b dX8_isTape_7 (by decide) (fun c2 => ?_) (fun c2 => ?_)
    · have h := (if_pos c2).symm.trans h
      refine lv_iconst (v := 0) C.x C.b dX8_isTape_14 (by decide) ?_
      exact r_z (pr_some h) (by decide) C hP hS dX8_isTape_15
    · have h := (if_neg c2).symm.trans h
      refine lv_iconst (v := 1) C.x C.b dX8_isTape_10 (by decide) ?_
      refine lv_goto (tgt := 15) C.x C.b dX8_isTape_11 (by decide) ?_
      exact r_z (pr_some h) (by decide) C hP hS dX8_isTape_15

set_option maxRecDepth 100000 in
set_option maxHeartbeats 4000000 in
theorem c_X8_isTape {l : Launch} {G : Gp} (hI : Wi G) {x0 : Int32} {μ : Mem} {r : Int32} (h : f_X8_isTape x0 μ = some r) : CI l yX8_isTape cX8_isTape 1 (some .boolean) 0 0 G [.int x0] μ r μ :=
  e_all (lv := [(0, .int x0)]) hI (by decide) (Nat.le_of_ble_eq_true rfl) rfl (fun p e s m args below meth c ls C hP hS hl => b_X8_isTape C h _ _ _ hP hS hl)


def f_X8_judge (x1 : Int32) (x2 : Int32) (μ : Mem) : Option Int32 := bnv (f_X8_isTape x1 μ) (fun r2 => if r2 = 0 then (some ((-1))) else (if (μ.1 22 0) = 0 then (some ((-3))) else (grd (inb x1 6) (if (μ.1 (2 + 2 * x1.toNatClampNeg) 0) = 3 then (bnv (f_X3_judgeRow 22 (2 + 2 * x1.toNatClampNeg) x2 μ) (fun r9 => some r9)) else (if (μ.1 (2 + 2 * x1.toNatClampNeg) 0) = ((-1)) then (bnv (f_X3_judgeRow 22 (2 + 2 * x1.toNatClampNeg) x2 μ) (fun r12 => some r12)) else (some ((-12))))))))
set_option maxRecDepth 100000 in
set_option maxHeartbeats 4000000 in
theorem b_X8_judge {p : Program} {l : Launch} {e : Env} {s : State} {m : MethodId} {args : Array Value} {below : List Frame} {meth : Method} {c : Code} {G : Gp} {O : Int32} (C : Cx p s m args meth c cX8_judge 4 RX8 (some .int) G) {x1 : Int32} {x2 : Int32} {μ : Mem} (h : f_X8_judge x1 x2 μ = some O) : ∀ (H : Heap) (locs : List Loc) (ls : Array Slot), Wm G μ H → va_S (wA G) s.heap H locs → lv_has ls 4 [(0, .ref (G.2.2 0)), (1, .int x1), (2, .int x2)] → W p l e (rmm 2 47) s m args below meth c H locs 0 0 (QI below args s G (O, μ)) (F0 m 0 ls []) := by
  unfold f_X8_judge at h
  intro H locs ls hP hS hl
  refine lv_iload_n C.x C.b dX8_judge_0 rfl (lv_at hl 1 rfl) ?_
  obtain ⟨r2, e1, h⟩ := bnv_some h
  refine k_si (as := [.int x1]) (rest := []) (c_X8_isTape C.i e1) M_X8_isTape u4_50 C hP hS rfl (by decide) hl.1 rfl (Nat.le_of_ble_eq_true rfl) dX8_judge_1 (fun H locs hP hS => ?_)
  refine lv_if_ne (tgt := 9) C.x C.b dX8_judge_4 (by decide) (fun c3 => ?_) (fun c3 => ?_)
  · have h := (if_neg c3).symm.trans h
    refine lv_aload_n C.x C.b dX8_judge_9 rfl (lv_at hl 0 rfl) ?_
    refine g_ref (k' := 14) F_8_0 u2_79 C hP sh_0 rfl dX8_judge_10 ?_
    refine g_ref (k' := 22) F_6_1 u1_239 C hP sh_14 rfl dX8_judge_13 ?_
    refine g_int F_3_0 u1_150 C hP sh_22 dX8_judge_16 ?_
    refine lv_if_ne (tgt := 25) C.x C.b dX8_judge_19 (by decide) (fun c4 => ?_) (fun c4 => ?_)
    · have h := (if_neg c4).symm.trans h
      refine lv_aload_n C.x C.b dX8_judge_25 rfl (lv_at hl 0 rfl) ?_
      refine g_ref (k' := 1) F_8_4 u2_83 C hP sh_0 rfl dX8_judge_26 ?_
      refine lv_iload_n C.x C.b dX8_judge_29 rfl (lv_at hl 1 rfl) ?_
      obtain ⟨g5, h⟩ := grd_some h
      refine a_q (k' := 2 + 2 * x1.toNatClampNeg) C hP sh_1 g5 rfl dX8_judge_30 ?_
      have ht6 : At sTape (2 + 2 * x1.toNatClampNeg) := tape_at g5
      refine lv_astore_n (lv' := [(3, .ref (G.2.2 (2 + 2 * x1.toNatClampNeg))), (0, .ref (G.2.2 0)), (1, .int x1), (2, .int x2)]) C.x C.b dX8_judge_31 rfl hl (by decide) rfl (fun ls hl => ?_)
      refine lv_aload_n C.x C.b dX8_judge_32 rfl (lv_at hl 0 rfl) ?_
      refine g_int F_7_0 u2_66 C hP (ht6 0 _ rfl) dX8_judge_33 ?_
      refine lv_iconst (v := 3) C.x C.b dX8_judge_36 (by decide) ?_
      refine lv_icmp_eq (tgt := 51) C.x C.b dX8_judge_37 (by decide) (fun c7 => ?_) (fun c7 => ?_)
      · have h := (if_pos c7).symm.trans h
        refine lv_aload_n C.x C.b dX8_judge_51 rfl (lv_at hl 1 rfl) ?_
        refine g_ref (k' := 14) F_8_0 u2_79 C hP sh_0 rfl dX8_judge_52 ?_
        refine g_ref (k' := 22) F_6_1 u1_239 C hP sh_14 rfl dX8_judge_55 ?_
        refine lv_aload_n C.x C.b dX8_judge_58 rfl (lv_at hl 0 rfl) ?_
        refine lv_iload_n C.x C.b dX8_judge_59 rfl (lv_at hl 3 rfl) ?_
        obtain ⟨r9, e8, h⟩ := bnv_some h
        refine k_vi (k := 22) (as := [.ref (G.2.2 (2 + 2 * x1.toNatClampNeg)), .int x2]) (rest := []) (c_X3_judgeRow C.i at_sPlan_22 ht6 e8) M_X3_judgeRow u4_53 C hP hS sh_22 rfl rfl (by decide) hl.1 rfl (Nat.le_of_ble_eq_true rfl) dX8_judge_60 (fun H locs hP hS => ?_)
        exact r_i (pr_some h) C hP hS dX8_judge_63
      · have h := (if_neg c7).symm.trans h
        refine lv_aload_n C.x C.b dX8_judge_40 rfl (lv_at hl 0 rfl) ?_
        refine g_int F_7_0 u2_66 C hP (ht6 0 _ rfl) dX8_judge_41 ?_
        refine lv_iconst (v := (-1)) C.x C.b dX8_judge_44 (by decide) ?_
        refine lv_icmp_eq (tgt := 51) C.x C.b dX8_judge_45 (by decide) (fun c10 => ?_) (fun c10 => ?_)
        · have h := (if_pos c10).symm.trans h
          refine lv_aload_n C.x C.b dX8_judge_51 rfl (lv_at hl 1 rfl) ?_
          refine g_ref (k' := 14) F_8_0 u2_79 C hP sh_0 rfl dX8_judge_52 ?_
          refine g_ref (k' := 22) F_6_1 u1_239 C hP sh_14 rfl dX8_judge_55 ?_
          refine lv_aload_n C.x C.b dX8_judge_58 rfl (lv_at hl 0 rfl) ?_
          refine lv_iload_n C.x C.b dX8_judge_59 rfl (lv_at hl 3 rfl) ?_
          obtain ⟨r12, e11, h⟩ := bnv_some h
          refine k_vi (k := 22) (as := [.ref (G.2.2 (2 + 2 * x1.toNatClampNeg)), .int x2]) (rest := []) (c_X3_judgeRow C.i at_sPlan_22 ht6 e11) M_X3_judgeRow u4_53 C hP hS sh_22 rfl rfl (by decide) hl.1 rfl (Nat.le_of_ble_eq_true rfl) dX8_judge_60 (fun H locs hP hS => ?_)
          exact r_i (pr_some h) C hP hS dX8_judge_63
        · have h := (if_neg c10).symm.trans h
          refine lv_bipush (v := (-12)) C.x C.b dX8_judge_48 (by decide) ?_
          exact r_i (pr_some h) C hP hS dX8_judge_50
    · have h := (if_pos c4).symm.trans h
      refine lv_bipush (v := (-3)) C.x C.b dX8_judge_22 (by decide) ?_
      exact r_i (pr_some h) C hP hS dX8_judge_24
  · have h := (if_pos c3).symm.trans h
    refine lv_iconst (v := (-1)) C.x C.b dX8_judge_7 (by decide) ?_
    exact r_i (pr_some h) C hP hS dX8_judge_8

set_option maxRecDepth 100000 in
set_option maxHeartbeats 4000000 in
theorem c_X8_judge {l : Launch} {G : Gp} (hI : Wi G) {x1 : Int32} {x2 : Int32} {μ : Mem} {r : Int32} (h : f_X8_judge x1 x2 μ = some r) : CI l yX8_judge cX8_judge 4 (some .int) 2 47 G [.ref (G.2.2 0), .int x1, .int x2] μ r μ :=
  e_all (lv := [(0, .ref (G.2.2 0)), (1, .int x1), (2, .int x2)]) hI (by decide) (Nat.le_of_ble_eq_true rfl) rfl (fun p e s m args below meth c ls C hP hS hl => b_X8_judge C h _ _ _ hP hS hl)


def f_X8_image  (μ : Mem) : Option (Int32 × Mem) := bnv (f_X6_copyFrom 51 14 μ) (fun μ2 => lt (st μ2 0 2 1) (fun μ3 => some (μ3.1 15 0, μ3)))
set_option maxRecDepth 100000 in
set_option maxHeartbeats 4000000 in
theorem b_X8_image {p : Program} {l : Launch} {e : Env} {s : State} {m : MethodId} {args : Array Value} {below : List Frame} {meth : Method} {c : Code} {G : Gp} {O : (Int32 × Mem)} (C : Cx p s m args meth c cX8_image 1 RX8 (some .int) G) {μ : Mem} (h : f_X8_image μ = some O) : ∀ (H : Heap) (locs : List Loc) (ls : Array Slot), Wm G μ H → va_S (wA G) s.heap H locs → lv_has ls 1 [(0, .ref (G.2.2 0))] → W p l e (rmm 3 68) s m args below meth c H locs 0 0 (QI below args s G O) (F0 m 0 ls []) := by
  unfold f_X8_image at h
  intro H locs ls hP hS hl
  refine lv_aload_n C.x C.b dX8_image_0 rfl (lv_at hl 0 rfl) ?_
  refine g_ref (k' := 51) F_8_1 u2_80 C hP sh_0 rfl dX8_image_1 ?_
  refine lv_aload_n C.x C.b dX8_image_4 rfl (lv_at hl 0 rfl) ?_
  refine g_ref (k' := 14) F_8_0 u2_79 C hP sh_0 rfl dX8_image_5 ?_
  obtain ⟨μ2, e1, h⟩ := bnv_some h
  refine k_vv (k := 51) (as := [.ref (G.2.2 14)]) (rest := []) (c_X6_copyFrom C.i at_sState_51 at_sState_14 e1) M_X6_copyFrom u4_65 C hP hS sh_51 rfl rfl (by decide) hl.1 rfl (Nat.le_of_ble_eq_true rfl) dX8_image_8 (fun H locs hP hS => ?_)
  refine lv_aload_n C.x C.b dX8_image_11 rfl (lv_at hl 0 rfl) ?_
  refine lv_iconst (v := 1) C.x C.b dX8_image_12 (by decide) ?_
  refine p_boo F_8_2 P_8_2 u2_81 (by decide) C hP hS sh_0 dX8_image_13 (fun H locs hP hS => ?_)
  obtain ⟨μ3, m_μ3, h⟩ := lt_ex h
  have hP : Wm G μ3 H := by rw [m_μ3]; exact hP
  refine lv_aload_n C.x C.b dX8_image_16 rfl (lv_at hl 0 rfl) ?_
  refine g_ref (k' := 14) F_8_0 u2_79 C hP sh_0 rfl dX8_image_17 ?_
  refine g_ref (k' := 15) F_6_0 u1_237 C hP sh_14 rfl dX8_image_20 ?_
  refine g_int F_0_0 u1_41 C hP sh_15 dX8_image_23 ?_
  exact r_i h C hP hS dX8_image_26

set_option maxRecDepth 100000 in
set_option maxHeartbeats 4000000 in
theorem c_X8_image {l : Launch} {G : Gp} (hI : Wi G) {μ : Mem} {r : Int32} {μ' : Mem} (h : f_X8_image μ = some (r, μ')) : CI l yX8_image cX8_image 1 (some .int) 3 68 G [.ref (G.2.2 0)] μ r μ' :=
  e_all (lv := [(0, .ref (G.2.2 0))]) hI (by decide) (Nat.le_of_ble_eq_true rfl) rfl (fun p e s m args below meth c ls C hP hS hl => b_X8_image C h _ _ _ hP hS hl)


def f_X8_undo  (μ : Mem) : Option (Int32 × Mem) := if (μ.1 0 2) = 0 then (some ((-3), μ)) else (bnv (f_X6_copyFrom 14 51 μ) (fun μ3 => some (μ3.1 15 0, μ3)))
set_option maxRecDepth 100000 in
set_option maxHeartbeats 4000000 in
theorem b_X8_undo {p : Program} {l : Launch} {e : Env} {s : State} {m : MethodId} {args : Array Value} {below : List Frame} {meth : Method} {c : Code} {G : Gp} {O : (Int32 × Mem)} (C : Cx p s m args meth c cX8_undo 1 RX8 (some .int) G) {μ : Mem} (h : f_X8_undo μ = some O) : ∀ (H : Heap) (locs : List Loc) (ls : Array Slot), Wm G μ H → va_S (wA G) s.heap H locs → lv_has ls 1 [(0, .ref (G.2.2 0))] → W p l e (rmm 3 68) s m args below meth c H locs 0 0 (QI below args s G O) (F0 m 0 ls []) := by
  unfold f_X8_undo at h
  intro H locs ls hP hS hl
  refine lv_aload_n C.x C.b dX8_undo_0 rfl (lv_at hl 0 rfl) ?_
  refine g_int F_8_2 u2_81 C hP sh_0 dX8_undo_1 ?_
  refine lv_if_ne (tgt := 10) C.x C.b dX8_undo_4 (by decide) (fun c1 => ?_) (fun c1 => ?_)
  · have h := (if_neg c1).symm.trans h
    refine lv_aload_n C.x C.b dX8_undo_10 rfl (lv_at hl 0 rfl) ?_
    refine g_ref (k' := 14) F_8_0 u2_79 C hP sh_0 rfl dX8_undo_11 ?_
    refine lv_aload_n C.x C.b dX8_undo_14 rfl (lv_at hl 0 rfl) ?_
    refine g_ref (k' := 51) F_8_1 u2_80 C hP sh_0 rfl dX8_undo_15 ?_
    obtain ⟨μ3, e2, h⟩ := bnv_some h
    refine k_vv (k := 14) (as := [.ref (G.2.2 51)]) (rest := []) (c_X6_copyFrom C.i at_sState_14 at_sState_51 e2) M_X6_copyFrom u4_65 C hP hS sh_14 rfl rfl (by decide) hl.1 rfl (Nat.le_of_ble_eq_true rfl) dX8_undo_18 (fun H locs hP hS => ?_)
    refine lv_aload_n C.x C.b dX8_undo_21 rfl (lv_at hl 0 rfl) ?_
    refine g_ref (k' := 14) F_8_0 u2_79 C hP sh_0 rfl dX8_undo_22 ?_
    refine g_ref (k' := 15) F_6_0 u1_237 C hP sh_14 rfl dX8_undo_25 ?_
    refine g_int F_0_0 u1_41 C hP sh_15 dX8_undo_28 ?_
    exact r_i h C hP hS dX8_undo_31
  · have h := (if_pos c1).symm.trans h
    refine lv_bipush (v := (-3)) C.x C.b dX8_undo_7 (by decide) ?_
    exact r_i h C hP hS dX8_undo_9

set_option maxRecDepth 100000 in
set_option maxHeartbeats 4000000 in
theorem c_X8_undo {l : Launch} {G : Gp} (hI : Wi G) {μ : Mem} {r : Int32} {μ' : Mem} (h : f_X8_undo μ = some (r, μ')) : CI l yX8_undo cX8_undo 1 (some .int) 3 68 G [.ref (G.2.2 0)] μ r μ' :=
  e_all (lv := [(0, .ref (G.2.2 0))]) hI (by decide) (Nat.le_of_ble_eq_true rfl) rfl (fun p e s m args below meth c ls C hP hS hl => b_X8_undo C h _ _ _ hP hS hl)


def f_X8_count (x1 : Int32) (μ : Mem) : Option Int32 := if x1 = 0 then (some (μ.1 15 0)) else (if x1 = 1 then (some (μ.1 15 1)) else (if x1 = 2 then (bnv (f_X0_shutRoads 15 μ) (fun r5 => some r5)) else (if x1 = 3 then (some (μ.1 42 1)) else (if x1 = 4 then (some (μ.1 45 1)) else (if x1 = 5 then (some (μ.1 48 1)) else (if x1 = 6 then (some (μ.1 88 0)) else (if x1 = 7 then (if (μ.1 22 0) = 0 then (some 0) else (some 1)) else ((some ((-2)))))))))))
set_option maxRecDepth 100000 in
set_option maxHeartbeats 4000000 in
theorem b_X8_count {p : Program} {l : Launch} {e : Env} {s : State} {m : MethodId} {args : Array Value} {below : List Frame} {meth : Method} {c : Code} {G : Gp} {O : Int32} (C : Cx p s m args meth c cX8_count 2 RX8 (some .int) G) {x1 : Int32} {μ : Mem} (h : f_X8_count x1 μ = some O) : ∀ (H : Heap) (locs : List Loc) (ls : Array Slot), Wm G μ H → va_S (wA G) s.heap H locs → lv_has ls 2 [(0, .ref (G.2.2 0)), (1, .int x1)] → W p l e (rmm 2 44) s m args below meth c H locs 0 0 (QI below args s G (O, μ)) (F0 m 0 ls []) := by
  unfold f_X8_count at h
  intro H locs ls hP hS hl
  refine lv_iload_n C.x C.b dX8_count_0 rfl (lv_at hl 1 rfl) ?_
  by_cases c1 : x1 = 0
  · have h := (if_pos c1).symm.trans h
    refine lv_tableIn (off := 47) (tgt := 48) C.x C.b dX8_count_1 (by rw [c1]; decide) (by rw [c1]; decide) (by rw [c1]; rfl) (by decide) ?_
    refine lv_aload_n C.x C.b dX8_count_48 rfl (lv_at hl 0 rfl) ?_
    refine g_ref (k' := 14) F_8_0 u2_79 C hP sh_0 rfl dX8_count_49 ?_
    refine g_ref (k' := 15) F_6_0 u1_237 C hP sh_14 rfl dX8_count_52 ?_
    refine g_int F_0_0 u1_41 C hP sh_15 dX8_count_55 ?_
    exact r_i (pr_some h) C hP hS dX8_count_58
  · have h := (if_neg c1).symm.trans h
    by_cases c2 : x1 = 1
    · have h := (if_pos c2).symm.trans h
      refine lv_tableIn (off := 58) (tgt := 59) C.x C.b dX8_count_1 (by rw [c2]; decide) (by rw [c2]; decide) (by rw [c2]; rfl) (by decide) ?_
      refine lv_aload_n C.x C.b dX8_count_59 rfl (lv_at hl 0 rfl) ?_
      refine g_ref (k' := 14) F_8_0 u2_79 C hP sh_0 rfl dX8_count_60 ?_
      refine g_ref (k' := 15) F_6_0 u1_237 C hP sh_14 rfl dX8_count_63 ?_
      refine g_int F_0_1 u1_45 C hP sh_15 dX8_count_66 ?_
      exact r_i (pr_some h) C hP hS dX8_count_69
    · have h := (if_neg c2).symm.trans h
      by_cases c3 : x1 = 2
      · have h := (if_pos c3).symm.trans h
        refine lv_tableIn (off := 69) (tgt := 70) C.x C.b dX8_count_1 (by rw [c3]; decide) (by rw [c3]; decide) (by rw [c3]; rfl) (by decide) ?_
        refine lv_aload_n C.x C.b dX8_count_70 rfl (lv_at hl 0 rfl) ?_
        refine g_ref (k' := 14) F_8_0 u2_79 C hP sh_0 rfl dX8_count_71 ?_
        refine g_ref (k' := 15) F_6_0 u1_237 C hP sh_14 rfl dX8_count_74 ?_
        obtain ⟨r5, e4, h⟩ := bnv_some h
        refine k_vi (k := 15) (as := []) (rest := []) (c_X0_shutRoads C.i at_sGround_15 e4) M_X0_shutRoads u4_84 C hP hS sh_15 rfl rfl (by decide) hl.1 rfl (Nat.le_of_ble_eq_true rfl) dX8_count_77 (fun H locs hP hS => ?_)
        exact r_i (pr_some h) C hP hS dX8_count_80
      · have h := (if_neg c3).symm.trans h
        by_cases c6 : x1 = 3
        · have h := (if_pos c6).symm.trans h
          refine lv_tableIn (off := 80) (tgt := 81) C.x C.b dX8_count_1 (by rw [c6]; decide) (by rw [c6]; decide) (by rw [c6]; rfl) (by decide) ?_
          refine lv_aload_n C.x C.b dX8_count_81 rfl (lv_at hl 0 rfl) ?_
          refine g_ref (k' := 14) F_8_0 u2_79 C hP sh_0 rfl dX8_count_82 ?_
          refine g_ref (k' := 42) F_6_2 u2_1 C hP sh_14 rfl dX8_count_85 ?_
          refine g_int F_4_1 u1_222 C hP sh_42 dX8_count_88 ?_
          exact r_i (pr_some h) C hP hS dX8_count_91
        · have h := (if_neg c6).symm.trans h
          by_cases c7 : x1 = 4
          · have h := (if_pos c7).symm.trans h
            refine lv_tableIn (off := 91) (tgt := 92) C.x C.b dX8_count_1 (by rw [c7]; decide) (by rw [c7]; decide) (by rw [c7]; rfl) (by decide) ?_
            refine lv_aload_n C.x C.b dX8_count_92 rfl (lv_at hl 0 rfl) ?_
            refine g_ref (k' := 14) F_8_0 u2_79 C hP sh_0 rfl dX8_count_93 ?_
            refine g_ref (k' := 45) F_6_3 u2_3 C hP sh_14 rfl dX8_count_96 ?_
            refine g_int F_4_1 u1_222 C hP sh_45 dX8_count_99 ?_
            exact r_i (pr_some h) C hP hS dX8_count_102
          · have h := (if_neg c7).symm.trans h
            by_cases c8 : x1 = 5
            · have h := (if_pos c8).symm.trans h
              refine lv_tableIn (off := 102) (tgt := 103) C.x C.b dX8_count_1 (by rw [c8]; decide) (by rw [c8]; decide) (by rw [c8]; rfl) (by decide) ?_
              refine lv_aload_n C.x C.b dX8_count_103 rfl (lv_at hl 0 rfl) ?_
              refine g_ref (k' := 14) F_8_0 u2_79 C hP sh_0 rfl dX8_count_104 ?_
              refine g_ref (k' := 48) F_6_4 u2_5 C hP sh_14 rfl dX8_count_107 ?_
              refine g_int F_4_1 u1_222 C hP sh_48 dX8_count_110 ?_
              exact r_i (pr_some h) C hP hS dX8_count_113
            · have h := (if_neg c8).symm.trans h
              by_cases c9 : x1 = 6
              · have h := (if_pos c9).symm.trans h
                refine lv_tableIn (off := 113) (tgt := 114) C.x C.b dX8_count_1 (by rw [c9]; decide) (by rw [c9]; decide) (by rw [c9]; rfl) (by decide) ?_
                refine lv_aload_n C.x C.b dX8_count_114 rfl (lv_at hl 0 rfl) ?_
                refine g_ref (k' := 88) F_8_3 u2_82 C hP sh_0 rfl dX8_count_115 ?_
                refine g_int F_5_0 u2_24 C hP sh_88 dX8_count_118 ?_
                exact r_i (pr_some h) C hP hS dX8_count_121
              · have h := (if_neg c9).symm.trans h
                by_cases c10 : x1 = 7
                · have h := (if_pos c10).symm.trans h
                  refine lv_tableIn (off := 121) (tgt := 122) C.x C.b dX8_count_1 (by rw [c10]; decide) (by rw [c10]; decide) (by rw [c10]; rfl) (by decide) ?_
                  refine lv_aload_n C.x C.b dX8_count_122 rfl (lv_at hl 0 rfl) ?_
                  refine g_ref (k' := 14) F_8_0 u2_79 C hP sh_0 rfl dX8_count_123 ?_
                  refine g_ref (k' := 22) F_6_1 u1_239 C hP sh_14 rfl dX8_count_126 ?_
                  refine g_int F_3_0 u1_150 C hP sh_22 dX8_count_129 ?_
                  refine lv_if_eq (tgt := 139) C.x C.b dX8_count_132 (by decide) (fun c11 => ?_) (fun c11 => ?_)
                  · have h := (if_pos c11).symm.trans h
                    refine lv_iconst (v := 0) C.x C.b dX8_count_139 (by decide) ?_
                    exact r_i (pr_some h) C hP hS dX8_count_140
                  · have h := (if_neg c11).symm.trans h
                    refine lv_iconst (v := 1) C.x C.b dX8_count_135 (by decide) ?_
                    refine lv_goto (tgt := 140) C.x C.b dX8_count_136 (by decide) ?_
                    exact r_i (pr_some h) C hP hS dX8_count_140
                · have h := (if_neg c10).symm.trans h
                  have t_c1 := lv_neT (a := 0) c1 (by decide)
                  have t_c2 := lv_neT (a := 1) c2 (by decide)
                  have t_c3 := lv_neT (a := 2) c3 (by decide)
                  have t_c6 := lv_neT (a := 3) c6 (by decide)
                  have t_c7 := lv_neT (a := 4) c7 (by decide)
                  have t_c8 := lv_neT (a := 5) c8 (by decide)
                  have t_c9 := lv_neT (a := 6) c9 (by decide)
                  have t_c10 := lv_neT (a := 7) c10 (by decide)
                  refine lv_tableOut (tgt := 141) C.x C.b dX8_count_1 (by omega) (by decide) ?_
                  refine lv_bipush (v := (-2)) C.x C.b dX8_count_141 (by decide) ?_
                  exact r_i (pr_some h) C hP hS dX8_count_143

set_option maxRecDepth 100000 in
set_option maxHeartbeats 4000000 in
theorem c_X8_count {l : Launch} {G : Gp} (hI : Wi G) {x1 : Int32} {μ : Mem} {r : Int32} (h : f_X8_count x1 μ = some r) : CI l yX8_count cX8_count 2 (some .int) 2 44 G [.ref (G.2.2 0), .int x1] μ r μ :=
  e_all (lv := [(0, .ref (G.2.2 0)), (1, .int x1)]) hI (by decide) (Nat.le_of_ble_eq_true rfl) rfl (fun p e s m args below meth c ls C hP hS hl => b_X8_count C h _ _ _ hP hS hl)


def f_X8_tape (x1 : Int32) (x2 : Int32) (x3 : Int32) (μ : Mem) : Option (Int32 × Mem) := bnv (f_X8_isTape x1 μ) (fun r2 => if r2 = 0 then (some ((-1), μ)) else (if x2 = ((-1)) then (grd (inb x1 6) (bnv (f_X7_become (2 + 2 * x1.toNatClampNeg) ((-1)) 0 μ) (fun μ17 => some (1, μ17)))) else (bnv (f_X8_isUpTo x2 4 μ) (fun r6 => if r6 = 0 then (some ((-2), μ)) else (if x3 ≤ 60 then (if 0 ≤ x3 then (grd (inb x1 6) (bnv (f_X7_become (2 + 2 * x1.toNatClampNeg) x2 x3 μ) (fun μ13 => some (1, μ13)))) else (some ((-14), μ))) else (some ((-2), μ)))))))
set_option maxRecDepth 100000 in
set_option maxHeartbeats 4000000 in
theorem b_X8_tape {p : Program} {l : Launch} {e : Env} {s : State} {m : MethodId} {args : Array Value} {below : List Frame} {meth : Method} {c : Code} {G : Gp} {O : (Int32 × Mem)} (C : Cx p s m args meth c cX8_tape 4 RX8 (some .int) G) {x1 : Int32} {x2 : Int32} {x3 : Int32} {μ : Mem} (h : f_X8_tape x1 x2 x3 μ = some O) : ∀ (H : Heap) (locs : List Loc) (ls : Array Slot), Wm G μ H → va_S (wA G) s.heap H locs → lv_has ls 4 [(0, .ref (G.2.2 0)), (1, .int x1), (2, .int x2), (3, .int x3)] → W p l e (rmm 2 46) s m args below meth c H locs 0 0 (QI below args s G O) (F0 m 0 ls []) := by
  unfold f_X8_tape at h
  intro H locs ls hP hS hl
  refine lv_iload_n C.x C.b dX8_tape_0 rfl (lv_at hl 1 rfl) ?_
  obtain ⟨r2, e1, h⟩ := bnv_some h
  refine k_si (as := [.int x1]) (rest := []) (c_X8_isTape C.i e1) M_X8_isTape u4_50 C hP hS rfl (by decide) hl.1 rfl (Nat.le_of_ble_eq_true rfl) dX8_tape_1 (fun H locs hP hS => ?_)
  refine lv_if_ne (tgt := 9) C.x C.b dX8_tape_4 (by decide) (fun c3 => ?_) (fun c3 => ?_)
  · have h := (if_neg c3).symm.trans h
    refine lv_iload_n C.x C.b dX8_tape_9 rfl (lv_at hl 2 rfl) ?_
    refine lv_iconst (v := (-1)) C.x C.b dX8_tape_10 (by decide) ?_
    refine lv_icmp_ne (tgt := 27) C.x C.b dX8_tape_11 (by decide) (fun c4 => ?_) (fun c4 => ?_)
    · have h := (if_neg c4).symm.trans h
      refine lv_iload_n C.x C.b dX8_tape_27 rfl (lv_at hl 2 rfl) ?_
      refine lv_iconst (v := 4) C.x C.b dX8_tape_28 (by decide) ?_
      obtain ⟨r6, e5, h⟩ := bnv_some h
      refine k_si (as := [.int x2, .int 4]) (rest := []) (c_X8_isUpTo C.i e5) M_X8_isUpTo u2_105 C hP hS rfl (by decide) hl.1 rfl (Nat.le_of_ble_eq_true rfl) dX8_tape_29 (fun H locs hP hS => ?_)
      refine lv_if_eq (tgt := 41) C.x C.b dX8_tape_32 (by decide) (fun c7 => ?_) (fun c7 => ?_)
      · have h := (if_pos c7).symm.trans h
        refine lv_bipush (v := (-2)) C.x C.b dX8_tape_41 (by decide) ?_
        exact r_i h C hP hS dX8_tape_43
      · have h := (if_neg c7).symm.trans h
        refine lv_iload_n C.x C.b dX8_tape_35 rfl (lv_at hl 3 rfl) ?_
        refine lv_bipush (v := 60) C.x C.b dX8_tape_36 (by decide) ?_
        refine lv_icmp_le (tgt := 44) C.x C.b dX8_tape_38 (by decide) (fun c8 => ?_) (fun c8 => ?_)
        · have h := (if_pos c8).symm.trans h
          refine lv_iload_n C.x C.b dX8_tape_44 rfl (lv_at hl 3 rfl) ?_
          refine lv_if_ge (tgt := 51) C.x C.b dX8_tape_45 (by decide) (fun c9 => ?_) (fun c9 => ?_)
          · have h := (if_pos c9).symm.trans h
            refine lv_aload_n C.x C.b dX8_tape_51 rfl (lv_at hl 0 rfl) ?_
            refine g_ref (k' := 1) F_8_4 u2_83 C hP sh_0 rfl dX8_tape_52 ?_
            refine lv_iload_n C.x C.b dX8_tape_55 rfl (lv_at hl 1 rfl) ?_
            obtain ⟨g10, h⟩ := grd_some h
            refine a_q (k' := 2 + 2 * x1.toNatClampNeg) C hP sh_1 g10 rfl dX8_tape_56 ?_
            have ht11 : At sTape (2 + 2 * x1.toNatClampNeg) := tape_at g10
            refine lv_iload_n C.x C.b dX8_tape_57 rfl (lv_at hl 2 rfl) ?_
            refine lv_iload_n C.x C.b dX8_tape_58 rfl (lv_at hl 3 rfl) ?_
            obtain ⟨μ13, e12, h⟩ := bnv_some h
            refine k_vv (k := 2 + 2 * x1.toNatClampNeg) (as := [.int x2, .int x3]) (rest := []) (c_X7_become C.i ht11 e12) M_X7_become u4_92 C hP hS (ht11 0 _ rfl) rfl rfl (by decide) hl.1 rfl (Nat.le_of_ble_eq_true rfl) dX8_tape_59 (fun H locs hP hS => ?_)
            refine lv_iconst (v := 1) C.x C.b dX8_tape_62 (by decide) ?_
            exact r_i h C hP hS dX8_tape_63
          · have h := (if_neg c9).symm.trans h
            refine lv_bipush (v := (-14)) C.x C.b dX8_tape_48 (by decide) ?_
            exact r_i h C hP hS dX8_tape_50
        · have h := (if_neg c8).symm.trans h
          refine lv_bipush (v := (-2)) C.x C.b dX8_tape_41 (by decide) ?_
          exact r_i h C hP hS dX8_tape_43
    · have h := (if_pos c4).symm.trans h
      refine lv_aload_n C.x C.b dX8_tape_14 rfl (lv_at hl 0 rfl) ?_
      refine g_ref (k' := 1) F_8_4 u2_83 C hP sh_0 rfl dX8_tape_15 ?_
      refine lv_iload_n C.x C.b dX8_tape_18 rfl (lv_at hl 1 rfl) ?_
      obtain ⟨g14, h⟩ := grd_some h
      refine a_q (k' := 2 + 2 * x1.toNatClampNeg) C hP sh_1 g14 rfl dX8_tape_19 ?_
      have ht15 : At sTape (2 + 2 * x1.toNatClampNeg) := tape_at g14
      refine lv_iconst (v := (-1)) C.x C.b dX8_tape_20 (by decide) ?_
      refine lv_iconst (v := 0) C.x C.b dX8_tape_21 (by decide) ?_
      obtain ⟨μ17, e16, h⟩ := bnv_some h
      refine k_vv (k := 2 + 2 * x1.toNatClampNeg) (as := [.int ((-1)), .int 0]) (rest := []) (c_X7_become C.i ht15 e16) M_X7_become u4_92 C hP hS (ht15 0 _ rfl) rfl rfl (by decide) hl.1 rfl (Nat.le_of_ble_eq_true rfl) dX8_tape_22 (fun H locs hP hS => ?_)
      refine lv_iconst (v := 1) C.x C.b dX8_tape_25 (by decide) ?_
      exact r_i h C hP hS dX8_tape_26
  · have h := (if_pos c3).symm.trans h
    refine lv_iconst (v := (-1)) C.x C.b dX8_tape_7 (by decide) ?_
    exact r_i h C hP hS dX8_tape_8

set_option maxRecDepth 100000 in
set_option maxHeartbeats 4000000 in
theorem c_X8_tape {l : Launch} {G : Gp} (hI : Wi G) {x1 : Int32} {x2 : Int32} {x3 : Int32} {μ : Mem} {r : Int32} {μ' : Mem} (h : f_X8_tape x1 x2 x3 μ = some (r, μ')) : CI l yX8_tape cX8_tape 4 (some .int) 2 46 G [.ref (G.2.2 0), .int x1, .int x2, .int x3] μ r μ' :=
  e_all (lv := [(0, .ref (G.2.2 0)), (1, .int x1), (2, .int x2), (3, .int x3)]) hI (by decide) (Nat.le_of_ble_eq_true rfl) rfl (fun p e s m args below meth c ls C hP hS hl => b_X8_tape C h _ _ _ hP hS hl)


def f_X8_item (x1 : Int32) (x2 : Int32) (x3 : Int64) (μ : Mem) : Option (Int32 × Mem) := bnv (f_X8_isTape x1 μ) (fun r2 => if r2 = 0 then (some ((-1), μ)) else (grd (inb x1 6) (if (μ.1 (2 + 2 * x1.toNatClampNeg) 0) = ((-1)) then (some ((-11), μ)) else (bnv (f_X7_hasPlace (2 + 2 * x1.toNatClampNeg) x2 μ) (fun r8 => if r8 = 0 then (some ((-13), μ)) else (bnv (f_X7_fitted (2 + 2 * x1.toNatClampNeg) x3 μ) (fun r11 => grd (inb x2 60) (lt (stl μ ((2 + 2 * x1.toNatClampNeg) + 1) x2.toNatClampNeg r11) (fun μ13 => some (1, μ13))))))))))
set_option maxRecDepth 100000 in
set_option maxHeartbeats 4000000 in
theorem b_X8_item {p : Program} {l : Launch} {e : Env} {s : State} {m : MethodId} {args : Array Value} {below : List Frame} {meth : Method} {c : Code} {G : Gp} {O : (Int32 × Mem)} (C : Cx p s m args meth c cX8_item 6 RX8 (some .int) G) {x1 : Int32} {x2 : Int32} {x3 : Int64} {μ : Mem} (h : f_X8_item x1 x2 x3 μ = some O) : ∀ (H : Heap) (locs : List Loc) (ls : Array Slot), Wm G μ H → va_S (wA G) s.heap H locs → lv_has ls 6 [(0, .ref (G.2.2 0)), (1, .int x1), (2, .int x2), (3, .long x3)] → W p l e (rmm 1 22) s m args below meth c H locs 0 0 (QI below args s G O) (F0 m 0 ls []) := by
  unfold f_X8_item at h
  intro H locs ls hP hS hl
  refine lv_iload_n C.x C.b dX8_item_0 rfl (lv_at hl 1 rfl) ?_
  obtain ⟨r2, e1, h⟩ := bnv_some h
  refine k_si (as := [.int x1]) (rest := []) (c_X8_isTape C.i e1) M_X8_isTape u4_50 C hP hS rfl (by decide) hl.1 rfl (Nat.le_of_ble_eq_true rfl) dX8_item_1 (fun H locs hP hS => ?_)
  refine lv_if_ne (tgt := 9) C.x C.b dX8_item_4 (by decide) (fun c3 => ?_) (fun c3 => ?_)
  · have h := (if_neg c3).symm.trans h
    refine lv_aload_n C.x C.b dX8_item_9 rfl (lv_at hl 0 rfl) ?_
    refine g_ref (k' := 1) F_8_4 u2_83 C hP sh_0 rfl dX8_item_10 ?_
    refine lv_iload_n C.x C.b dX8_item_13 rfl (lv_at hl 1 rfl) ?_
    obtain ⟨g4, h⟩ := grd_some h
    refine a_q (k' := 2 + 2 * x1.toNatClampNeg) C hP sh_1 g4 rfl dX8_item_14 ?_
    have ht5 : At sTape (2 + 2 * x1.toNatClampNeg) := tape_at g4
    refine lv_astore (lv' := [(5, .ref (G.2.2 (2 + 2 * x1.toNatClampNeg))), (0, .ref (G.2.2 0)), (1, .int x1), (2, .int x2), (3, .long x3)]) C.x C.b dX8_item_15 hl (by decide) rfl (fun ls hl => ?_)
    refine lv_aload C.x C.b dX8_item_17 (lv_at hl 0 rfl) ?_
    refine g_int F_7_0 u2_66 C hP (ht5 0 _ rfl) dX8_item_19 ?_
    refine lv_iconst (v := (-1)) C.x C.b dX8_item_22 (by decide) ?_
    refine lv_icmp_ne (tgt := 29) C.x C.b dX8_item_23 (by decide) (fun c6 => ?_) (fun c6 => ?_)
    · have h := (if_neg c6).symm.trans h
      refine lv_aload C.x C.b dX8_item_29 (lv_at hl 0 rfl) ?_
      refine lv_iload_n C.x C.b dX8_item_31 rfl (lv_at hl 3 rfl) ?_
      obtain ⟨r8, e7, h⟩ := bnv_some h
      refine k_vi (k := 2 + 2 * x1.toNatClampNeg) (as := [.int x2]) (rest := []) (c_X7_hasPlace C.i ht5 e7) M_X7_hasPlace u4_103 C hP hS (ht5 0 _ rfl) rfl rfl (by decide) hl.1 rfl (Nat.le_of_ble_eq_true rfl) dX8_item_32 (fun H locs hP hS => ?_)
      refine lv_if_ne (tgt := 41) C.x C.b dX8_item_35 (by decide) (fun c9 => ?_) (fun c9 => ?_)
      · have h := (if_neg c9).symm.trans h
        refine lv_aload C.x C.b dX8_item_41 (lv_at hl 0 rfl) ?_
        refine g_ref (k' := (2 + 2 * x1.toNatClampNeg) + 1) F_7_2 u2_70 C hP (ht5 0 _ rfl) rfl dX8_item_43 ?_
        refine lv_iload_n C.x C.b dX8_item_46 rfl (lv_at hl 3 rfl) ?_
        refine lv_aload C.x C.b dX8_item_47 (lv_at hl 0 rfl) ?_
        refine lv_lload_n C.x C.b dX8_item_49 rfl (lv_at hl 4 rfl) ?_
        obtain ⟨r11, e10, h⟩ := bnv_some h
        refine k_vl (k := 2 + 2 * x1.toNatClampNeg) (as := [.long x3]) (rest := [.int x2, .ref (G.2.2 ((2 + 2 * x1.toNatClampNeg) + 1))]) (c_X7_fitted C.i ht5 e10) M_X7_fitted u4_107 C hP hS (ht5 0 _ rfl) rfl rfl (by decide) hl.1 rfl (Nat.le_of_ble_eq_true rfl) dX8_item_50 (fun H locs hP hS => ?_)
        obtain ⟨g12, h⟩ := grd_some h
        refine as_l C hP hS (ht5 1 _ rfl) g12 dX8_item_53 (fun H locs hP hS => ?_)
        obtain ⟨μ13, m_μ13, h⟩ := lt_ex h
        have hP : Wm G μ13 H := by rw [m_μ13]; exact hP
        refine lv_iconst (v := 1) C.x C.b dX8_item_54 (by decide) ?_
        exact r_i h C hP hS dX8_item_55
      · have h := (if_pos c9).symm.trans h
        refine lv_bipush (v := (-13)) C.x C.b dX8_item_38 (by decide) ?_
        exact r_i h C hP hS dX8_item_40
    · have h := (if_pos c6).symm.trans h
      refine lv_bipush (v := (-11)) C.x C.b dX8_item_26 (by decide) ?_
      exact r_i h C hP hS dX8_item_28
  · have h := (if_pos c3).symm.trans h
    refine lv_iconst (v := (-1)) C.x C.b dX8_item_7 (by decide) ?_
    exact r_i h C hP hS dX8_item_8

set_option maxRecDepth 100000 in
set_option maxHeartbeats 4000000 in
theorem c_X8_item {l : Launch} {G : Gp} (hI : Wi G) {x1 : Int32} {x2 : Int32} {x3 : Int64} {μ : Mem} {r : Int32} {μ' : Mem} (h : f_X8_item x1 x2 x3 μ = some (r, μ')) : CI l yX8_item cX8_item 6 (some .int) 1 22 G [.ref (G.2.2 0), .int x1, .int x2, .long x3] μ r μ' :=
  e_all (lv := [(0, .ref (G.2.2 0)), (1, .int x1), (2, .int x2), (3, .long x3)]) hI (by decide) (Nat.le_of_ble_eq_true rfl) rfl (fun p e s m args below meth c ls C hP hS hl => b_X8_item C h _ _ _ hP hS hl)


def f_X8_peek (x1 : Int32) (x2 : Int32) (μ : Mem) : Option Int64 := bnv (f_X8_isTape x1 μ) (fun r2 => if r2 = 0 then (some ((-9223372036854775808))) else (grd (inb x1 6) (bnv (f_X7_hasPlace (2 + 2 * x1.toNatClampNeg) x2 μ) (fun r7 => if r7 = 0 then (some ((-9223372036854775808))) else (grd (inb x1 6) (grd (inb x2 60) (some (μ.2 ((2 + 2 * x1.toNatClampNeg) + 1) x2.toNatClampNeg))))))))
set_option maxRecDepth 100000 in
set_option maxHeartbeats 4000000 in
theorem b_X8_peek {p : Program} {l : Launch} {e : Env} {s : State} {m : MethodId} {args : Array Value} {below : List Frame} {meth : Method} {c : Code} {G : Gp} {O : Int64} (C : Cx p s m args meth c cX8_peek 3 RX8 (some .long) G) {x1 : Int32} {x2 : Int32} {μ : Mem} (h : f_X8_peek x1 x2 μ = some O) : ∀ (H : Heap) (locs : List Loc) (ls : Array Slot), Wm G μ H → va_S (wA G) s.heap H locs → lv_has ls 3 [(0, .ref (G.2.2 0)), (1, .int x1), (2, .int x2)] → W p l e (rmm 1 21) s m args below meth c H locs 0 0 (QL below args s G (O, μ)) (F0 m 0 ls []) := by
  unfold f_X8_peek at h
  intro H locs ls hP hS hl
  refine lv_iload_n C.x C.b dX8_peek_0 rfl (lv_at hl 1 rfl) ?_
  obtain ⟨r2, e1, h⟩ := bnv_some h
  refine k_si (as := [.int x1]) (rest := []) (c_X8_isTape C.i e1) M_X8_isTape u4_50 C hP hS rfl (by decide) hl.1 rfl (Nat.le_of_ble_eq_true rfl) dX8_peek_1 (fun H locs hP hS => ?_)
  refine lv_if_eq (tgt := 20) C.x C.b dX8_peek_4 (by decide) (fun c3 => ?_) (fun c3 => ?_)
  · have h := (if_pos c3).symm.trans h
    refine lv_ldc2 (own := RX8) (v := (-9223372036854775808)) C.x C.b C.o (C.t _ u3_124) dX8_peek_20 ?_
    exact r_l (pr_some h) C hP hS dX8_peek_23
  · have h := (if_neg c3).symm.trans h
    refine lv_aload_n C.x C.b dX8_peek_7 rfl (lv_at hl 0 rfl) ?_
    refine g_ref (k' := 1) F_8_4 u2_83 C hP sh_0 rfl dX8_peek_8 ?_
    refine lv_iload_n C.x C.b dX8_peek_11 rfl (lv_at hl 1 rfl) ?_
    obtain ⟨g4, h⟩ := grd_some h
    refine a_q (k' := 2 + 2 * x1.toNatClampNeg) C hP sh_1 g4 rfl dX8_peek_12 ?_
    have ht5 : At sTape (2 + 2 * x1.toNatClampNeg) := tape_at g4
    refine lv_iload_n C.x C.b dX8_peek_13 rfl (lv_at hl 2 rfl) ?_
    obtain ⟨r7, e6, h⟩ := bnv_some h
    refine k_vi (k := 2 + 2 * x1.toNatClampNeg) (as := [.int x2]) (rest := []) (c_X7_hasPlace C.i ht5 e6) M_X7_hasPlace u4_103 C hP hS (ht5 0 _ rfl) rfl rfl (by decide) hl.1 rfl (Nat.le_of_ble_eq_true rfl) dX8_peek_14 (fun H locs hP hS => ?_)
    refine lv_if_ne (tgt := 24) C.x C.b dX8_peek_17 (by decide) (fun c8 => ?_) (fun c8 => ?_)
    · have h := (if_neg c8).symm.trans h
      refine lv_aload_n C.x C.b dX8_peek_24 rfl (lv_at hl 0 rfl) ?_
      refine g_ref (k' := 1) F_8_4 u2_83 C hP sh_0 rfl dX8_peek_25 ?_
      refine lv_iload_n C.x C.b dX8_peek_28 rfl (lv_at hl 1 rfl) ?_
      obtain ⟨g9, h⟩ := grd_some h
      refine a_q (k' := 2 + 2 * x1.toNatClampNeg) C hP sh_1 g9 rfl dX8_peek_29 ?_
      refine g_ref (k' := (2 + 2 * x1.toNatClampNeg) + 1) F_7_2 u2_70 C hP (ht5 0 _ rfl) rfl dX8_peek_30 ?_
      refine lv_iload_n C.x C.b dX8_peek_33 rfl (lv_at hl 2 rfl) ?_
      obtain ⟨g10, h⟩ := grd_some h
      refine a_l C hP (ht5 1 _ rfl) g10 dX8_peek_34 ?_
      exact r_l (pr_some h) C hP hS dX8_peek_35
    · have h := (if_pos c8).symm.trans h
      refine lv_ldc2 (own := RX8) (v := (-9223372036854775808)) C.x C.b C.o (C.t _ u3_124) dX8_peek_20 ?_
      exact r_l (pr_some h) C hP hS dX8_peek_23

set_option maxRecDepth 100000 in
set_option maxHeartbeats 4000000 in
theorem c_X8_peek {l : Launch} {G : Gp} (hI : Wi G) {x1 : Int32} {x2 : Int32} {μ : Mem} {r : Int64} (h : f_X8_peek x1 x2 μ = some r) : CL l yX8_peek cX8_peek 3 (some .long) 1 21 G [.ref (G.2.2 0), .int x1, .int x2] μ r μ :=
  e_all (lv := [(0, .ref (G.2.2 0)), (1, .int x1), (2, .int x2)]) hI (by decide) (Nat.le_of_ble_eq_true rfl) rfl (fun p e s m args below meth c ls C hP hS hl => b_X8_peek C h _ _ _ hP hS hl)


def f_X8_shift (x1 : Int32) (x2 : Int32) (x3 : Int32) (x4 : Int32) (x5 : Int32) (μ : Mem) : Option (Int32 × Mem) := bnv (f_X8_isTape x1 μ) (fun r2 => if r2 = 0 then (some ((-1), μ)) else (bnv (f_X8_isTape x3 μ) (fun r5 => if r5 = 0 then (some ((-1), μ)) else (grd (inb x1 6) (grd (inb x3 6) (if (μ.1 (2 + 2 * x1.toNatClampNeg) 0) = ((-1)) then (some ((-11), μ)) else (if (μ.1 (2 + 2 * x3.toNatClampNeg) 0) = ((-1)) then (some ((-11), μ)) else (if (μ.1 (2 + 2 * x1.toNatClampNeg) 0) = (μ.1 (2 + 2 * x3.toNatClampNeg) 0) then (bnv (f_X7_hasRun (2 + 2 * x1.toNatClampNeg) x2 x5 μ) (fun r15 => if r15 = 0 then (some ((-13), μ)) else (bnv (f_X7_hasRun (2 + 2 * x3.toNatClampNeg) x4 x5 μ) (fun r18 => if r18 = 0 then (some ((-13), μ)) else (grd (cpyOk x2 x4 x5 60 60) (lt (clst μ ((2 + 2 * x3.toNatClampNeg) + 1) (va_cpy (μ.2 ((2 + 2 * x1.toNatClampNeg) + 1)) (μ.2 ((2 + 2 * x3.toNatClampNeg) + 1)) x2.toNatClampNeg x4.toNatClampNeg x5.toNatClampNeg)) (fun μ21 => some (x5, μ21)))))))) else (some ((-12), μ))))))))))
set_option maxRecDepth 100000 in
set_option maxHeartbeats 4000000 in
theorem b_X8_shift {p : Program} {l : Launch} {e : Env} {s : State} {m : MethodId} {args : Array Value} {below : List Frame} {meth : Method} {c : Code} {G : Gp} {O : (Int32 × Mem)} (C : Cx p s m args meth c cX8_shift 8 RX8 (some .int) G) {x1 : Int32} {x2 : Int32} {x3 : Int32} {x4 : Int32} {x5 : Int32} {μ : Mem} (h : f_X8_shift x1 x2 x3 x4 x5 μ = some O) : ∀ (H : Heap) (locs : List Loc) (ls : Array Slot), Wm G μ H → va_S (wA G) s.heap H locs → lv_has ls 8 [(0, .ref (G.2.2 0)), (1, .int x1), (2, .int x2), (3, .int x3), (4, .int x4), (5, .int x5)] → W p l e (rmm 1 26) s m args below meth c H locs 0 0 (QI below args s G O) (F0 m 0 ls []) := by
  unfold f_X8_shift at h
  intro H locs ls hP hS hl
  refine lv_iload_n C.x C.b dX8_shift_0 rfl (lv_at hl 1 rfl) ?_
  obtain ⟨r2, e1, h⟩ := bnv_some h
  refine k_si (as := [.int x1]) (rest := []) (c_X8_isTape C.i e1) M_X8_isTape u4_50 C hP hS rfl (by decide) hl.1 rfl (Nat.le_of_ble_eq_true rfl) dX8_shift_1 (fun H locs hP hS => ?_)
  refine lv_if_eq (tgt := 14) C.x C.b dX8_shift_4 (by decide) (fun c3 => ?_) (fun c3 => ?_)
  · have h := (if_pos c3).symm.trans h
    refine lv_iconst (v := (-1)) C.x C.b dX8_shift_14 (by decide) ?_
    exact r_i h C hP hS dX8_shift_15
  · have h := (if_neg c3).symm.trans h
    refine lv_iload_n C.x C.b dX8_shift_7 rfl (lv_at hl 3 rfl) ?_
    obtain ⟨r5, e4, h⟩ := bnv_some h
    refine k_si (as := [.int x3]) (rest := []) (c_X8_isTape C.i e4) M_X8_isTape u4_50 C hP hS rfl (by decide) hl.1 rfl (Nat.le_of_ble_eq_true rfl) dX8_shift_8 (fun H locs hP hS => ?_)
    refine lv_if_ne (tgt := 16) C.x C.b dX8_shift_11 (by decide) (fun c6 => ?_) (fun c6 => ?_)
    · have h := (if_neg c6).symm.trans h
      refine lv_aload_n C.x C.b dX8_shift_16 rfl (lv_at hl 0 rfl) ?_
      refine g_ref (k' := 1) F_8_4 u2_83 C hP sh_0 rfl dX8_shift_17 ?_
      refine lv_iload_n C.x C.b dX8_shift_20 rfl (lv_at hl 1 rfl) ?_
      obtain ⟨g7, h⟩ := grd_some h
      refine a_q (k' := 2 + 2 * x1.toNatClampNeg) C hP sh_1 g7 rfl dX8_shift_21 ?_
      have ht8 : At sTape (2 + 2 * x1.toNatClampNeg) := tape_at g7
      refine lv_astore (lv' := [(6, .ref (G.2.2 (2 + 2 * x1.toNatClampNeg))), (0, .ref (G.2.2 0)), (1, .int x1), (2, .int x2), (3, .int x3), (4, .int x4), (5, .int x5)]) C.x C.b dX8_shift_22 hl (by decide) rfl (fun ls hl => ?_)
      refine lv_aload_n C.x C.b dX8_shift_24 rfl (lv_at hl 1 rfl) ?_
      refine g_ref (k' := 1) F_8_4 u2_83 C hP sh_0 rfl dX8_shift_25 ?_
      refine lv_iload_n C.x C.b dX8_shift_28 rfl (lv_at hl 4 rfl) ?_
      obtain ⟨g9, h⟩ := grd_some h
      refine a_q (k' := 2 + 2 * x3.toNatClampNeg) C hP sh_1 g9 rfl dX8_shift_29 ?_
      have ht10 : At sTape (2 + 2 * x3.toNatClampNeg) := tape_at g9
      refine lv_astore (lv' := [(7, .ref (G.2.2 (2 + 2 * x3.toNatClampNeg))), (6, .ref (G.2.2 (2 + 2 * x1.toNatClampNeg))), (0, .ref (G.2.2 0)), (1, .int x1), (2, .int x2), (3, .int x3), (4, .int x4), (5, .int x5)]) C.x C.b dX8_shift_30 hl (by decide) rfl (fun ls hl => ?_)
      refine lv_aload C.x C.b dX8_shift_32 (lv_at hl 1 rfl) ?_
      refine g_int F_7_0 u2_66 C hP (ht8 0 _ rfl) dX8_shift_34 ?_
      refine lv_iconst (v := (-1)) C.x C.b dX8_shift_37 (by decide) ?_
      refine lv_icmp_eq (tgt := 50) C.x C.b dX8_shift_38 (by decide) (fun c11 => ?_) (fun c11 => ?_)
      · have h := (if_pos c11).symm.trans h
        refine lv_bipush (v := (-11)) C.x C.b dX8_shift_50 (by decide) ?_
        exact r_i h C hP hS dX8_shift_52
      · have h := (if_neg c11).symm.trans h
        refine lv_aload C.x C.b dX8_shift_41 (lv_at hl 0 rfl) ?_
        refine g_int F_7_0 u2_66 C hP (ht10 0 _ rfl) dX8_shift_43 ?_
        refine lv_iconst (v := (-1)) C.x C.b dX8_shift_46 (by decide) ?_
        refine lv_icmp_ne (tgt := 53) C.x C.b dX8_shift_47 (by decide) (fun c12 => ?_) (fun c12 => ?_)
        · have h := (if_neg c12).symm.trans h
          refine lv_aload C.x C.b dX8_shift_53 (lv_at hl 1 rfl) ?_
          refine g_int F_7_0 u2_66 C hP (ht8 0 _ rfl) dX8_shift_55 ?_
          refine lv_aload C.x C.b dX8_shift_58 (lv_at hl 0 rfl) ?_
          refine g_int F_7_0 u2_66 C hP (ht10 0 _ rfl) dX8_shift_60 ?_
          refine lv_icmp_eq (tgt := 69) C.x C.b dX8_shift_63 (by decide) (fun c13 => ?_) (fun c13 => ?_)
          · have h := (if_pos c13).symm.trans h
            refine lv_aload C.x C.b dX8_shift_69 (lv_at hl 1 rfl) ?_
            refine lv_iload_n C.x C.b dX8_shift_71 rfl (lv_at hl 4 rfl) ?_
            refine lv_iload C.x C.b dX8_shift_72 (lv_at hl 7 rfl) ?_
            obtain ⟨r15, e14, h⟩ := bnv_some h
            refine k_vi (k := 2 + 2 * x1.toNatClampNeg) (as := [.int x2, .int x5]) (rest := []) (c_X7_hasRun C.i ht8 e14) M_X7_hasRun u4_119 C hP hS (ht8 0 _ rfl) rfl rfl (by decide) hl.1 rfl (Nat.le_of_ble_eq_true rfl) dX8_shift_74 (fun H locs hP hS => ?_)
            refine lv_if_eq (tgt := 92) C.x C.b dX8_shift_77 (by decide) (fun c16 => ?_) (fun c16 => ?_)
            · have h := (if_pos c16).symm.trans h
              refine lv_bipush (v := (-13)) C.x C.b dX8_shift_92 (by decide) ?_
              exact r_i h C hP hS dX8_shift_94
            · have h := (if_neg c16).symm.trans h
              refine lv_aload C.x C.b dX8_shift_80 (lv_at hl 0 rfl) ?_
              refine lv_iload C.x C.b dX8_shift_82 (lv_at hl 6 rfl) ?_
              refine lv_iload C.x C.b dX8_shift_84 (lv_at hl 7 rfl) ?_
              obtain ⟨r18, e17, h⟩ := bnv_some h
              refine k_vi (k := 2 + 2 * x3.toNatClampNeg) (as := [.int x4, .int x5]) (rest := []) (c_X7_hasRun C.i ht10 e17) M_X7_hasRun u4_119 C hP hS (ht10 0 _ rfl) rfl rfl (by decide) hl.1 rfl (Nat.le_of_ble_eq_true rfl) dX8_shift_86 (fun H locs hP hS => ?_)
              refine lv_if_ne (tgt := 95) C.x C.b dX8_shift_89 (by decide) (fun c19 => ?_) (fun c19 => ?_)
              · have h := (if_neg c19).symm.trans h
                refine lv_aload C.x C.b dX8_shift_95 (lv_at hl 1 rfl) ?_
                refine g_ref (k' := (2 + 2 * x1.toNatClampNeg) + 1) F_7_2 u2_70 C hP (ht8 0 _ rfl) rfl dX8_shift_97 ?_
                refine lv_iload_n C.x C.b dX8_shift_100 rfl (lv_at hl 4 rfl) ?_
                refine lv_aload C.x C.b dX8_shift_101 (lv_at hl 0 rfl) ?_
                refine g_ref (k' := (2 + 2 * x3.toNatClampNeg) + 1) F_7_2 u2_70 C hP (ht10 0 _ rfl) rfl dX8_shift_103 ?_
                refine lv_iload C.x C.b dX8_shift_106 (lv_at hl 6 rfl) ?_
                refine lv_iload C.x C.b dX8_shift_108 (lv_at hl 7 rfl) ?_
                obtain ⟨g20, h⟩ := grd_some h
                refine k_cpl u4_120 C hP hS hl.1 (ht8 1 _ rfl) (ht10 1 _ rfl) g20 ⟨by decide, Nat.le_of_ble_eq_true rfl⟩ dX8_shift_110 (fun H locs hP hS => ?_)
                obtain ⟨μ21, m_μ21, h⟩ := lt_ex h
                have hP : Wm G μ21 H := by rw [m_μ21]; exact hP
                refine lv_iload C.x C.b dX8_shift_113 (lv_at hl 7 rfl) ?_
                exact r_i h C hP hS dX8_shift_115
              · have h := (if_pos c19).symm.trans h
                refine lv_bipush (v := (-13)) C.x C.b dX8_shift_92 (by decide) ?_
                exact r_i h C hP hS dX8_shift_94
          · have h := (if_neg c13).symm.trans h
            refine lv_bipush (v := (-12)) C.x C.b dX8_shift_66 (by decide) ?_
            exact r_i h C hP hS dX8_shift_68
        · have h := (if_pos c12).symm.trans h
          refine lv_bipush (v := (-11)) C.x C.b dX8_shift_50 (by decide) ?_
          exact r_i h C hP hS dX8_shift_52
    · have h := (if_pos c6).symm.trans h
      refine lv_iconst (v := (-1)) C.x C.b dX8_shift_14 (by decide) ?_
      exact r_i h C hP hS dX8_shift_15

set_option maxRecDepth 100000 in
set_option maxHeartbeats 4000000 in
theorem c_X8_shift {l : Launch} {G : Gp} (hI : Wi G) {x1 : Int32} {x2 : Int32} {x3 : Int32} {x4 : Int32} {x5 : Int32} {μ : Mem} {r : Int32} {μ' : Mem} (h : f_X8_shift x1 x2 x3 x4 x5 μ = some (r, μ')) : CI l yX8_shift cX8_shift 8 (some .int) 1 26 G [.ref (G.2.2 0), .int x1, .int x2, .int x3, .int x4, .int x5] μ r μ' :=
  e_all (lv := [(0, .ref (G.2.2 0)), (1, .int x1), (2, .int x2), (3, .int x3), (4, .int x4), (5, .int x5)]) hI (by decide) (Nat.le_of_ble_eq_true rfl) rfl (fun p e s m args below meth c ls C hP hS hl => b_X8_shift C h _ _ _ hP hS hl)


def f_X9_in (x0 : Int64) (x2 : Int64) (x4 : Int64) (μ : Mem) : Option Int32 := if (lg_cmp x0 x2) < 0 then (some 0) else (if 0 < (lg_cmp x0 x4) then (some 0) else (some 1))
set_option maxRecDepth 100000 in
set_option maxHeartbeats 4000000 in
theorem b_X9_in {p : Program} {l : Launch} {e : Env} {s : State} {m : MethodId} {args : Array Value} {below : List Frame} {meth : Method} {c : Code} {G : Gp} {O : Int32} (C : Cx p s m args meth c cX9_in 6 RX9 (some .boolean) G) {x0 : Int64} {x2 : Int64} {x4 : Int64} {μ : Mem} (h : f_X9_in x0 x2 x4 μ = some O) : ∀ (H : Heap) (locs : List Loc) (ls : Array Slot), Wm G μ H → va_S (wA G) s.heap H locs → lv_has ls 6 [(0, .long x0), (2, .long x2), (4, .long x4)] → W p l e (rmm 0 0) s m args below meth c H locs 0 0 (QI below args s G (O, μ)) (F0 m 0 ls []) := by
  unfold f_X9_in at h
  intro H locs ls hP hS hl
  refine lv_lload_n C.x C.b dX9_in_0 rfl (lv_at hl 0 rfl) ?_
  refine lv_lload_n C.x C.b dX9_in_1 rfl (lv_at hl 1 rfl) ?_
  refine W.lcmp C.x C.b dX9_in_2 ?_
  refine lv_if_lt (tgt := 17) C.x C.b dX9_in_3 (by decide) (fun c1 => ?_) (fun c1 => ?_)
  · have h := (if_pos c1).symm.trans h
    refine lv_iconst (v := 0) C.x C.b dX9_in_17 (by decide) ?_
    exact r_z (pr_some h) (by decide) C hP hS dX9_in_18
  · have h := (if_neg c1).symm.trans h
    refine lv_lload_n C.x C.b dX9_in_6 rfl (lv_at hl 0 rfl) ?_
    refine lv_lload C.x C.b dX9_in_7 (lv_at hl 2 rfl) ?_
    refine W.lcmp C.x C.b dX9_in_9 ?_
    refine lv_if_gt (tgt := 17) C.x C.b dX9_in_10 (by decide) (fun c2 => ?_) (fun c2 => ?_)
    · have h := (if_pos c2).symm.trans h
      refine lv_iconst (v := 0) C.x C.b dX9_in_17 (by decide) ?_
      exact r_z (pr_some h) (by decide) C hP hS dX9_in_18
    · have h := (if_neg c2).symm.trans h
      refine lv_iconst (v := 1) C.x C.b dX9_in_13 (by decide) ?_
      refine lv_goto (tgt := 18) C.x C.b dX9_in_14 (by decide) ?_
      exact r_z (pr_some h) (by decide) C hP hS dX9_in_18

set_option maxRecDepth 100000 in
set_option maxHeartbeats 4000000 in
theorem c_X9_in {l : Launch} {G : Gp} (hI : Wi G) {x0 : Int64} {x2 : Int64} {x4 : Int64} {μ : Mem} {r : Int32} (h : f_X9_in x0 x2 x4 μ = some r) : CI l yX9_in cX9_in 6 (some .boolean) 0 0 G [.long x0, .long x2, .long x4] μ r μ :=
  e_all (lv := [(0, .long x0), (2, .long x2), (4, .long x4)]) hI (by decide) (Nat.le_of_ble_eq_true rfl) rfl (fun p e s m args below meth c ls C hP hS hl => b_X9_in C h _ _ _ hP hS hl)


def f_X9_many (x1 : Int32) (μ : Mem) : Option Int32 := if x1 = 0 then (some (μ.1 122 0)) else (some (μ.1 122 1))
set_option maxRecDepth 100000 in
set_option maxHeartbeats 4000000 in
theorem b_X9_many {p : Program} {l : Launch} {e : Env} {s : State} {m : MethodId} {args : Array Value} {below : List Frame} {meth : Method} {c : Code} {G : Gp} {O : Int32} (C : Cx p s m args meth c cX9_many 2 RX9 (some .int) G) {x1 : Int32} {μ : Mem} (h : f_X9_many x1 μ = some O) : ∀ (H : Heap) (locs : List Loc) (ls : Array Slot), Wm G μ H → va_S (wA G) s.heap H locs → lv_has ls 2 [(0, .ref (G.2.2 122)), (1, .int x1)] → W p l e (rmm 0 0) s m args below meth c H locs 0 0 (QI below args s G (O, μ)) (F0 m 0 ls []) := by
  unfold f_X9_many at h
  intro H locs ls hP hS hl
  refine lv_iload_n C.x C.b dX9_many_0 rfl (lv_at hl 1 rfl) ?_
  refine lv_if_ne (tgt := 11) C.x C.b dX9_many_1 (by decide) (fun c1 => ?_) (fun c1 => ?_)
  · have h := (if_neg c1).symm.trans h
    refine lv_aload_n C.x C.b dX9_many_11 rfl (lv_at hl 0 rfl) ?_
    refine g_int F_9_1 u4_130 C hP sh_122 dX9_many_12 ?_
    exact r_i (pr_some h) C hP hS dX9_many_15
  · have h := (if_pos c1).symm.trans h
    refine lv_aload_n C.x C.b dX9_many_4 rfl (lv_at hl 0 rfl) ?_
    refine g_int F_9_0 u4_129 C hP sh_122 dX9_many_5 ?_
    refine lv_goto (tgt := 15) C.x C.b dX9_many_8 (by decide) ?_
    exact r_i (pr_some h) C hP hS dX9_many_15

set_option maxRecDepth 100000 in
set_option maxHeartbeats 4000000 in
theorem c_X9_many {l : Launch} {G : Gp} (hI : Wi G) {x1 : Int32} {μ : Mem} {r : Int32} (h : f_X9_many x1 μ = some r) : CI l yX9_many cX9_many 2 (some .int) 0 0 G [.ref (G.2.2 122), .int x1] μ r μ :=
  e_all (lv := [(0, .ref (G.2.2 122)), (1, .int x1)]) hI (by decide) (Nat.le_of_ble_eq_true rfl) rfl (fun p e s m args below meth c ls C hP hS hl => b_X9_many C h _ _ _ hP hS hl)


def f_X9_isRoad (x1 : Int32) (x2 : Int32) (μ : Mem) : Option Int32 := bnv (f_X9_in (Int32.toInt64 x1) 0 (Int32.toInt64 ((μ.1 122 0) - 1)) μ) (fun r2 => if r2 = 0 then (some 0) else (bnv (f_X9_in (Int32.toInt64 x2) 0 (Int32.toInt64 ((μ.1 122 1) - 1)) μ) (fun r5 => if r5 = 0 then (some 0) else (some 1))))
set_option maxRecDepth 100000 in
set_option maxHeartbeats 4000000 in
theorem b_X9_isRoad {p : Program} {l : Launch} {e : Env} {s : State} {m : MethodId} {args : Array Value} {below : List Frame} {meth : Method} {c : Code} {G : Gp} {O : Int32} (C : Cx p s m args meth c cX9_isRoad 3 RX9 (some .boolean) G) {x1 : Int32} {x2 : Int32} {μ : Mem} (h : f_X9_isRoad x1 x2 μ = some O) : ∀ (H : Heap) (locs : List Loc) (ls : Array Slot), Wm G μ H → va_S (wA G) s.heap H locs → lv_has ls 3 [(0, .ref (G.2.2 122)), (1, .int x1), (2, .int x2)] → W p l e (rmm 1 25) s m args below meth c H locs 0 0 (QI below args s G (O, μ)) (F0 m 0 ls []) := by
  unfold f_X9_isRoad at h
  intro H locs ls hP hS hl
  refine lv_iload_n C.x C.b dX9_isRoad_0 rfl (lv_at hl 1 rfl) ?_
  refine lv_i2l (v := Int32.toInt64 x1) C.x C.b dX9_isRoad_1 rfl ?_
  refine lv_lconst (v := 0) C.x C.b dX9_isRoad_2 (by decide) ?_
  refine lv_aload_n C.x C.b dX9_isRoad_3 rfl (lv_at hl 0 rfl) ?_
  refine g_int F_9_0 u4_129 C hP sh_122 dX9_isRoad_4 ?_
  refine lv_iconst (v := 1) C.x C.b dX9_isRoad_7 (by decide) ?_
  refine lv_isub C.x C.b dX9_isRoad_8 ?_
  refine lv_i2l (v := Int32.toInt64 ((μ.1 122 0) - 1)) C.x C.b dX9_isRoad_9 rfl ?_
  obtain ⟨r2, e1, h⟩ := bnv_some h
  refine k_si (as := [.long (Int32.toInt64 x1), .long 0, .long (Int32.toInt64 ((μ.1 122 0) - 1))]) (rest := []) (c_X9_in C.i e1) M_X9_in u5_72 C hP hS rfl (by decide) hl.1 rfl (Nat.le_of_ble_eq_true rfl) dX9_isRoad_10 (fun H locs hP hS => ?_)
  refine lv_if_eq (tgt := 36) C.x C.b dX9_isRoad_13 (by decide) (fun c3 => ?_) (fun c3 => ?_)
  · have h := (if_pos c3).symm.trans h
    refine lv_iconst (v := 0) C.x C.b dX9_isRoad_36 (by decide) ?_
    exact r_z (pr_some h) (by decide) C hP hS dX9_isRoad_37
  · have h := (if_neg c3).symm.trans h
    refine lv_iload_n C.x C.b dX9_isRoad_16 rfl (lv_at hl 2 rfl) ?_
    refine lv_i2l (v := Int32.toInt64 x2) C.x C.b dX9_isRoad_17 rfl ?_
    refine lv_lconst (v := 0) C.x C.b dX9_isRoad_18 (by decide) ?_
    refine lv_aload_n C.x C.b dX9_isRoad_19 rfl (lv_at hl 0 rfl) ?_
    refine g_int F_9_1 u4_130 C hP sh_122 dX9_isRoad_20 ?_
    refine lv_iconst (v := 1) C.x C.b dX9_isRoad_23 (by decide) ?_
    refine lv_isub C.x C.b dX9_isRoad_24 ?_
    refine lv_i2l (v := Int32.toInt64 ((μ.1 122 1) - 1)) C.x C.b dX9_isRoad_25 rfl ?_
    obtain ⟨r5, e4, h⟩ := bnv_some h
    refine k_si (as := [.long (Int32.toInt64 x2), .long 0, .long (Int32.toInt64 ((μ.1 122 1) - 1))]) (rest := []) (c_X9_in C.i e4) M_X9_in u5_72 C hP hS rfl (by decide) hl.1 rfl (Nat.le_of_ble_eq_true rfl) dX9_isRoad_26 (fun H locs hP hS => ?_)
    refine lv_if_eq (tgt := 36) C.x C.b dX9_isRoad_29 (by decide) (fun c6 => ?_) (fun c6 => ?_)
    · have h := (if_pos c6).symm.trans h
      refine lv_iconst (v := 0) C.x C.b dX9_isRoad_36 (by decide) ?_
      exact r_z (pr_some h) (by decide) C hP hS dX9_isRoad_37
    · have h := (if_neg c6).symm.trans h
      refine lv_iconst (v := 1) C.x C.b dX9_isRoad_32 (by decide) ?_
      refine lv_goto (tgt := 37) C.x C.b dX9_isRoad_33 (by decide) ?_
      exact r_z (pr_some h) (by decide) C hP hS dX9_isRoad_37

set_option maxRecDepth 100000 in
set_option maxHeartbeats 4000000 in
theorem c_X9_isRoad {l : Launch} {G : Gp} (hI : Wi G) {x1 : Int32} {x2 : Int32} {μ : Mem} {r : Int32} (h : f_X9_isRoad x1 x2 μ = some r) : CI l yX9_isRoad cX9_isRoad 3 (some .boolean) 1 25 G [.ref (G.2.2 122), .int x1, .int x2] μ r μ :=
  e_all (lv := [(0, .ref (G.2.2 122)), (1, .int x1), (2, .int x2)]) hI (by decide) (Nat.le_of_ble_eq_true rfl) rfl (fun p e s m args below meth c ls C hP hS hl => b_X9_isRoad C h _ _ _ hP hS hl)


def f_X9_isSpelled (x1 : Int32) (μ : Mem) : Option Int32 := if x1 < 0 then (some 0) else (bnv (f_X9_isRoad (x1 / 10) (rm32 x1 10) μ) (fun r3 => if r3 = 0 then (some 0) else (some 1)))
set_option maxRecDepth 100000 in
set_option maxHeartbeats 4000000 in
theorem b_X9_isSpelled {p : Program} {l : Launch} {e : Env} {s : State} {m : MethodId} {args : Array Value} {below : List Frame} {meth : Method} {c : Code} {G : Gp} {O : Int32} (C : Cx p s m args meth c cX9_isSpelled 2 RX9 (some .boolean) G) {x1 : Int32} {μ : Mem} (h : f_X9_isSpelled x1 μ = some O) : ∀ (H : Heap) (locs : List Loc) (ls : Array Slot), Wm G μ H → va_S (wA G) s.heap H locs → lv_has ls 2 [(0, .ref (G.2.2 122)), (1, .int x1)] → W p l e (rmm 2 47) s m args below meth c H locs 0 0 (QI below args s G (O, μ)) (F0 m 0 ls []) := by
  unfold f_X9_isSpelled at h
  intro H locs ls hP hS hl
  refine lv_iload_n C.x C.b dX9_isSpelled_0 rfl (lv_at hl 1 rfl) ?_
  refine lv_if_lt (tgt := 23) C.x C.b dX9_isSpelled_1 (by decide) (fun c1 => ?_) (fun c1 => ?_)
  · have h := (if_pos c1).symm.trans h
    refine lv_iconst (v := 0) C.x C.b dX9_isSpelled_23 (by decide) ?_
    exact r_z (pr_some h) (by decide) C hP hS dX9_isSpelled_24
  · have h := (if_neg c1).symm.trans h
    refine lv_aload_n C.x C.b dX9_isSpelled_4 rfl (lv_at hl 0 rfl) ?_
    refine lv_iload_n C.x C.b dX9_isSpelled_5 rfl (lv_at hl 1 rfl) ?_
    refine lv_bipush (v := 10) C.x C.b dX9_isSpelled_6 (by decide) ?_
    refine lv_idiv C.x C.b dX9_isSpelled_8 (by decide) ?_
    refine lv_iload_n C.x C.b dX9_isSpelled_9 rfl (lv_at hl 1 rfl) ?_
    refine lv_bipush (v := 10) C.x C.b dX9_isSpelled_10 (by decide) ?_
    refine lv_irem C.x C.b dX9_isSpelled_12 (by decide) ?_
    obtain ⟨r3, e2, h⟩ := bnv_some h
    refine k_vi (k := 122) (as := [.int (x1 / 10), .int (rm32 x1 10)]) (rest := []) (c_X9_isRoad C.i e2) M_X9_isRoad u5_101 C hP hS sh_122 rfl rfl (by decide) hl.1 rfl (Nat.le_of_ble_eq_true rfl) dX9_isSpelled_13 (fun H locs hP hS => ?_)
    refine lv_if_eq (tgt := 23) C.x C.b dX9_isSpelled_16 (by decide) (fun c4 => ?_) (fun c4 => ?_)
    · have h := (if_pos c4).symm.trans h
      refine lv_iconst (v := 0) C.x C.b dX9_isSpelled_23 (by decide) ?_
      exact r_z (pr_some h) (by decide) C hP hS dX9_isSpelled_24
    · have h := (if_neg c4).symm.trans h
      refine lv_iconst (v := 1) C.x C.b dX9_isSpelled_19 (by decide) ?_
      refine lv_goto (tgt := 24) C.x C.b dX9_isSpelled_20 (by decide) ?_
      exact r_z (pr_some h) (by decide) C hP hS dX9_isSpelled_24

set_option maxRecDepth 100000 in
set_option maxHeartbeats 4000000 in
theorem c_X9_isSpelled {l : Launch} {G : Gp} (hI : Wi G) {x1 : Int32} {μ : Mem} {r : Int32} (h : f_X9_isSpelled x1 μ = some r) : CI l yX9_isSpelled cX9_isSpelled 2 (some .boolean) 2 47 G [.ref (G.2.2 122), .int x1] μ r μ :=
  e_all (lv := [(0, .ref (G.2.2 122)), (1, .int x1)]) hI (by decide) (Nat.le_of_ble_eq_true rfl) rfl (fun p e s m args below meth c ls C hP hS hl => b_X9_isSpelled C h _ _ _ hP hS hl)


def f_X9_isCell (x1 : Int32) (x2 : Int32) (μ : Mem) : Option Int32 := bnv (f_X9_in (Int32.toInt64 x1) 0 (Int32.toInt64 ((μ.1 122 7) - 1)) μ) (fun r2 => if r2 = 0 then (some 0) else (bnv (f_X9_in (Int32.toInt64 x2) 0 (Int32.toInt64 ((μ.1 122 8) - 1)) μ) (fun r5 => if r5 = 0 then (some 0) else (some 1))))
set_option maxRecDepth 100000 in
set_option maxHeartbeats 4000000 in
theorem b_X9_isCell {p : Program} {l : Launch} {e : Env} {s : State} {m : MethodId} {args : Array Value} {below : List Frame} {meth : Method} {c : Code} {G : Gp} {O : Int32} (C : Cx p s m args meth c cX9_isCell 3 RX9 (some .boolean) G) {x1 : Int32} {x2 : Int32} {μ : Mem} (h : f_X9_isCell x1 x2 μ = some O) : ∀ (H : Heap) (locs : List Loc) (ls : Array Slot), Wm G μ H → va_S (wA G) s.heap H locs → lv_has ls 3 [(0, .ref (G.2.2 122)), (1, .int x1), (2, .int x2)] → W p l e (rmm 1 25) s m args below meth c H locs 0 0 (QI below args s G (O, μ)) (F0 m 0 ls []) := by
  unfold f_X9_isCell at h
  intro H locs ls hP hS hl
  refine lv_iload_n C.x C.b dX9_isCell_0 rfl (lv_at hl 1 rfl) ?_
  refine lv_i2l (v := Int32.toInt64 x1) C.x C.b dX9_isCell_1 rfl ?_
  refine lv_lconst (v := 0) C.x C.b dX9_isCell_2 (by decide) ?_
  refine lv_aload_n C.x C.b dX9_isCell_3 rfl (lv_at hl 0 rfl) ?_
  refine g_int F_9_7 u4_136 C hP sh_122 dX9_isCell_4 ?_
  refine lv_iconst (v := 1) C.x C.b dX9_isCell_7 (by decide) ?_
  refine lv_isub C.x C.b dX9_isCell_8 ?_
  refine lv_i2l (v := Int32.toInt64 ((μ.1 122 7) - 1)) C.x C.b dX9_isCell_9 rfl ?_
  obtain ⟨r2, e1, h⟩ := bnv_some h
  refine k_si (as := [.long (Int32.toInt64 x1), .long 0, .long (Int32.toInt64 ((μ.1 122 7) - 1))]) (rest := []) (c_X9_in C.i e1) M_X9_in u5_72 C hP hS rfl (by decide) hl.1 rfl (Nat.le_of_ble_eq_true rfl) dX9_isCell_10 (fun H locs hP hS => ?_)
  refine lv_if_eq (tgt := 36) C.x C.b dX9_isCell_13 (by decide) (fun c3 => ?_) (fun c3 => ?_)
  · have h := (if_pos c3).symm.trans h
    refine lv_iconst (v := 0) C.x C.b dX9_isCell_36 (by decide) ?_
    exact r_z (pr_some h) (by decide) C hP hS dX9_isCell_37
  · have h := (if_neg c3).symm.trans h
    refine lv_iload_n C.x C.b dX9_isCell_16 rfl (lv_at hl 2 rfl) ?_
    refine lv_i2l (v := Int32.toInt64 x2) C.x C.b dX9_isCell_17 rfl ?_
    refine lv_lconst (v := 0) C.x C.b dX9_isCell_18 (by decide) ?_
    refine lv_aload_n C.x C.b dX9_isCell_19 rfl (lv_at hl 0 rfl) ?_
    refine g_int F_9_8 u4_137 C hP sh_122 dX9_isCell_20 ?_
    refine lv_iconst (v := 1) C.x C.b dX9_isCell_23 (by decide) ?_
    refine lv_isub C.x C.b dX9_isCell_24 ?_
    refine lv_i2l (v := Int32.toInt64 ((μ.1 122 8) - 1)) C.x C.b dX9_isCell_25 rfl ?_
    obtain ⟨r5, e4, h⟩ := bnv_some h
    refine k_si (as := [.long (Int32.toInt64 x2), .long 0, .long (Int32.toInt64 ((μ.1 122 8) - 1))]) (rest := []) (c_X9_in C.i e4) M_X9_in u5_72 C hP hS rfl (by decide) hl.1 rfl (Nat.le_of_ble_eq_true rfl) dX9_isCell_26 (fun H locs hP hS => ?_)
    refine lv_if_eq (tgt := 36) C.x C.b dX9_isCell_29 (by decide) (fun c6 => ?_) (fun c6 => ?_)
    · have h := (if_pos c6).symm.trans h
      refine lv_iconst (v := 0) C.x C.b dX9_isCell_36 (by decide) ?_
      exact r_z (pr_some h) (by decide) C hP hS dX9_isCell_37
    · have h := (if_neg c6).symm.trans h
      refine lv_iconst (v := 1) C.x C.b dX9_isCell_32 (by decide) ?_
      refine lv_goto (tgt := 37) C.x C.b dX9_isCell_33 (by decide) ?_
      exact r_z (pr_some h) (by decide) C hP hS dX9_isCell_37

set_option maxRecDepth 100000 in
set_option maxHeartbeats 4000000 in
theorem c_X9_isCell {l : Launch} {G : Gp} (hI : Wi G) {x1 : Int32} {x2 : Int32} {μ : Mem} {r : Int32} (h : f_X9_isCell x1 x2 μ = some r) : CI l yX9_isCell cX9_isCell 3 (some .boolean) 1 25 G [.ref (G.2.2 122), .int x1, .int x2] μ r μ :=
  e_all (lv := [(0, .ref (G.2.2 122)), (1, .int x1), (2, .int x2)]) hI (by decide) (Nat.le_of_ble_eq_true rfl) rfl (fun p e s m args below meth c ls C hP hS hl => b_X9_isCell C h _ _ _ hP hS hl)


def f_X9_passes_20 (x1 : Int32)  (z0 : Int32) (μ : Mem) : Option (Int32 × Mem) := grd (inb (μ.1 122 27) 640) (lt (st μ 138 (μ.1 122 27).toNatClampNeg z0) (fun μ2 => lt (st μ2 122 27 ((μ2.1 122 27) + 1)) (fun μ3 => some (z0, μ3))))
set_option maxRecDepth 100000 in
set_option maxHeartbeats 4000000 in
theorem b_X9_passes_20 {p : Program} {l : Launch} {e : Env} {s : State} {m : MethodId} {args : Array Value} {below : List Frame} {meth : Method} {c : Code} {G : Gp} {O : (Int32 × Mem)} (C : Cx p s m args meth c cX9_passes 3 RX9 (some .int) G) {x1 : Int32} : ∀ (z0 : Int32) (μ : Mem), f_X9_passes_20 x1 z0 μ = some O → ∀ (H : Heap) (locs : List Loc) (ls : Array Slot), Wm G μ H → va_S (wA G) s.heap H locs → lv_has ls 3 [(0, .ref (G.2.2 122))] → W p l e (rmm 0 0) s m args below meth c H locs 0 0 (QI below args s G O) (F0 m 20 ls [.int z0]) := by
  intro z0 μ h H locs ls hP hS hl
  unfold f_X9_passes_20 at h
  refine lv_istore_n (lv' := [(2, .int z0), (0, .ref (G.2.2 122))]) C.x C.b dX9_passes_20 rfl hl (by decide) rfl (fun ls hl => ?_)
  refine lv_aload_n C.x C.b dX9_passes_21 rfl (lv_at hl 1 rfl) ?_
  refine g_ref (k' := 138) F_9_25 u4_154 C hP sh_122 rfl dX9_passes_22 ?_
  refine lv_aload_n C.x C.b dX9_passes_25 rfl (lv_at hl 1 rfl) ?_
  refine g_int F_9_27 u4_156 C hP sh_122 dX9_passes_26 ?_
  refine lv_iload_n C.x C.b dX9_passes_29 rfl (lv_at hl 0 rfl) ?_
  obtain ⟨g1, h⟩ := grd_some h
  refine as_i C hP hS sh_138 g1 dX9_passes_30 (fun H locs hP hS => ?_)
  obtain ⟨μ2, m_μ2, h⟩ := lt_ex h
  have hP : Wm G μ2 H := by rw [m_μ2]; exact hP
  refine lv_aload_n C.x C.b dX9_passes_31 rfl (lv_at hl 1 rfl) ?_
  refine lv_dup C.x C.b dX9_passes_32 rfl ?_
  refine g_int F_9_27 u4_156 C hP sh_122 dX9_passes_33 ?_
  refine lv_iconst (v := 1) C.x C.b dX9_passes_36 (by decide) ?_
  refine lv_iadd C.x C.b dX9_passes_37 ?_
  refine p_int F_9_27 P_9_27 u4_156 C hP hS sh_122 dX9_passes_38 (fun H locs hP hS => ?_)
  obtain ⟨μ3, m_μ3, h⟩ := lt_ex h
  have hP : Wm G μ3 H := by rw [m_μ3]; exact hP
  refine lv_iload_n C.x C.b dX9_passes_41 rfl (lv_at hl 0 rfl) ?_
  exact r_i h C hP hS dX9_passes_42

def f_X9_passes (x1 : Int32) (μ : Mem) : Option (Int32 × Mem) := if (μ.1 122 28) = 0 then (grd (inb (μ.1 122 27) 640) (f_X9_passes_20 x1 (μ.1 138 (μ.1 122 27).toNatClampNeg) μ)) else (f_X9_passes_20 x1 x1 μ)
set_option maxRecDepth 100000 in
set_option maxHeartbeats 4000000 in
theorem b_X9_passes {p : Program} {l : Launch} {e : Env} {s : State} {m : MethodId} {args : Array Value} {below : List Frame} {meth : Method} {c : Code} {G : Gp} {O : (Int32 × Mem)} (C : Cx p s m args meth c cX9_passes 3 RX9 (some .int) G) {x1 : Int32} {μ : Mem} (h : f_X9_passes x1 μ = some O) : ∀ (H : Heap) (locs : List Loc) (ls : Array Slot), Wm G μ H → va_S (wA G) s.heap H locs → lv_has ls 3 [(0, .ref (G.2.2 122)), (1, .int x1)] → W p l e (rmm 0 0) s m args below meth c H locs 0 0 (QI below args s G O) (F0 m 0 ls []) := by
  unfold f_X9_passes at h
  intro H locs ls hP hS hl
  refine lv_aload_n C.x C.b dX9_passes_0 rfl (lv_at hl 0 rfl) ?_
  refine g_int F_9_28 u4_157 C hP sh_122 dX9_passes_1 ?_
  refine lv_if_eq (tgt := 11) C.x C.b dX9_passes_4 (by decide) (fun c1 => ?_) (fun c1 => ?_)
  · have h := (if_pos c1).symm.trans h
    refine lv_aload_n C.x C.b dX9_passes_11 rfl (lv_at hl 0 rfl) ?_
    refine g_ref (k' := 138) F_9_25 u4_154 C hP sh_122 rfl dX9_passes_12 ?_
    refine lv_aload_n C.x C.b dX9_passes_15 rfl (lv_at hl 0 rfl) ?_
    refine g_int F_9_27 u4_156 C hP sh_122 dX9_passes_16 ?_
    obtain ⟨g2, h⟩ := grd_some h
    refine a_i C hP sh_138 g2 dX9_passes_19 ?_
    exact b_X9_passes_20 C (μ.1 138 (μ.1 122 27).toNatClampNeg) μ h _ _ _ hP hS (lv_sub hl [0] rfl)
  · have h := (if_neg c1).symm.trans h
    refine lv_iload_n C.x C.b dX9_passes_7 rfl (lv_at hl 1 rfl) ?_
    refine lv_goto (tgt := 20) C.x C.b dX9_passes_8 (by decide) ?_
    exact b_X9_passes_20 C x1 μ h _ _ _ hP hS (lv_sub hl [0] rfl)

set_option maxRecDepth 100000 in
set_option maxHeartbeats 4000000 in
theorem c_X9_passes {l : Launch} {G : Gp} (hI : Wi G) {x1 : Int32} {μ : Mem} {r : Int32} {μ' : Mem} (h : f_X9_passes x1 μ = some (r, μ')) : CI l yX9_passes cX9_passes 3 (some .int) 0 0 G [.ref (G.2.2 122), .int x1] μ r μ' :=
  e_all (lv := [(0, .ref (G.2.2 122)), (1, .int x1)]) hI (by decide) (Nat.le_of_ble_eq_true rfl) rfl (fun p e s m args below meth c ls C hP hS hl => b_X9_passes C h _ _ _ hP hS hl)


def g_X9_passesRow_2 (a1 : Nat) (n1 : Nat)  (q2 : Int32 → Mem → Option Mem) (x2 : Int32) (μ : Mem) : Option Mem := if (nI n1) ≤ x2 then (some μ) else (grd (inb x2 n1) (bnd (f_X9_passes (μ.1 a1 x2.toNatClampNeg) μ) (fun r4 μ5 => grd (inb x2 n1) (lt (st μ5 a1 x2.toNatClampNeg r4) (fun μ7 => lt (x2 + 1) (fun y8 => q2 y8 μ7))))))
def f_X9_passesRow_2 (a1 : Nat) (n1 : Nat)  : Nat → Int32 → Mem → Option Mem
  | 0, _, _ => none
  | n + 1, x2, μ => g_X9_passesRow_2 a1 n1 (f_X9_passesRow_2 a1 n1 n) x2 μ
set_option maxRecDepth 100000 in
set_option maxHeartbeats 4000000 in
theorem w_X9_passesRow_2 {p : Program} {l : Launch} {e : Env} {s : State} {m : MethodId} {args : Array Value} {below : List Frame} {meth : Method} {c : Code} {G : Gp} {O : Mem} (C : Cx p s m args meth c cX9_passesRow 3 RX9 none G) {a1 : Nat} {n1 : Nat} (hs1 : shp[a1]? = some (.inr (0, n1))) {q2 : Int32 → Mem → Option Mem} (hq2 : ∀ (x2 : Int32) (μ : Mem), q2 x2 μ = some O → ∀ (H : Heap) (locs : List Loc) (ls : Array Slot), Wm G μ H → va_S (wA G) s.heap H locs → lv_has ls 3 [(0, .ref (G.2.2 122)), (1, .ref (G.2.2 a1)), (2, .int x2)] → W p l e (rmm 1 22) s m args below meth c H locs 0 0 (QV below args s G O) (F0 m 2 ls [])) : ∀ (x2 : Int32) (μ : Mem), g_X9_passesRow_2 a1 n1 q2 x2 μ = some O → ∀ (H : Heap) (locs : List Loc) (ls : Array Slot), Wm G μ H → va_S (wA G) s.heap H locs → lv_has ls 3 [(0, .ref (G.2.2 122)), (1, .ref (G.2.2 a1)), (2, .int x2)] → W p l e (rmm 1 22) s m args below meth c H locs 0 0 (QV below args s G O) (F0 m 2 ls []) := by
  intro x2 μ h H locs ls hP hS hl
  unfold g_X9_passesRow_2 at h
  refine lv_iload_n C.x C.b dX9_passesRow_2 rfl (lv_at hl 2 rfl) ?_
  refine lv_aload_n C.x C.b dX9_passesRow_3 rfl (lv_at hl 1 rfl) ?_
  refine a_n (v := nI n1) C hP hs1 (by decide) (by first | rfl | decide) dX9_passesRow_4 ?_
  refine lv_icmp_ge (tgt := 24) C.x C.b dX9_passesRow_5 (by decide) (fun c1 => ?_) (fun c1 => ?_)
  · have h := (if_pos c1).symm.trans h
    exact r_v h C hP hS dX9_passesRow_24
  · have h := (if_neg c1).symm.trans h
    refine lv_aload_n C.x C.b dX9_passesRow_8 rfl (lv_at hl 1 rfl) ?_
    refine lv_iload_n C.x C.b dX9_passesRow_9 rfl (lv_at hl 2 rfl) ?_
    refine lv_aload_n C.x C.b dX9_passesRow_10 rfl (lv_at hl 0 rfl) ?_
    refine lv_aload_n C.x C.b dX9_passesRow_11 rfl (lv_at hl 1 rfl) ?_
    refine lv_iload_n C.x C.b dX9_passesRow_12 rfl (lv_at hl 2 rfl) ?_
    obtain ⟨g2, h⟩ := grd_some h
    refine a_i C hP hs1 g2 dX9_passesRow_13 ?_
    obtain ⟨r4, μ5, e3, h⟩ := bnd_some h
    refine k_vi (k := 122) (as := [.int (μ.1 a1 x2.toNatClampNeg)]) (rest := [.int x2, .ref (G.2.2 a1)]) (c_X9_passes C.i e3) M_X9_passes u5_51 C hP hS sh_122 rfl rfl (by decide) hl.1 rfl (Nat.le_of_ble_eq_true rfl) dX9_passesRow_14 (fun H locs hP hS => ?_)
    obtain ⟨g6, h⟩ := grd_some h
    refine as_i C hP hS hs1 g6 dX9_passesRow_17 (fun H locs hP hS => ?_)
    obtain ⟨μ7, m_μ7, h⟩ := lt_ex h
    have hP : Wm G μ7 H := by rw [m_μ7]; exact hP
    obtain ⟨y8, e_y8, h⟩ := lt_ex h
    refine lv_iinc (v := y8) (lv' := [(2, .int y8), (0, .ref (G.2.2 122)), (1, .ref (G.2.2 a1))]) C.x C.b dX9_passesRow_18 hl (k := 2) rfl (by rw [e_y8]; rfl) (by decide) rfl (fun ls hl => ?_)
    refine lv_goto (tgt := 2) C.x C.b dX9_passesRow_21 (by decide) ?_
    exact hq2 y8 μ7 h _ _ _ hP hS (lv_sub hl [1, 2, 0] rfl)

set_option maxRecDepth 100000 in
set_option maxHeartbeats 4000000 in
theorem b_X9_passesRow_2 {p : Program} {l : Launch} {e : Env} {s : State} {m : MethodId} {args : Array Value} {below : List Frame} {meth : Method} {c : Code} {G : Gp} {O : Mem} (C : Cx p s m args meth c cX9_passesRow 3 RX9 none G) {a1 : Nat} {n1 : Nat} (hs1 : shp[a1]? = some (.inr (0, n1))) : ∀ (n : Nat) (x2 : Int32) (μ : Mem), f_X9_passesRow_2 a1 n1 n x2 μ = some O → ∀ (H : Heap) (locs : List Loc) (ls : Array Slot), Wm G μ H → va_S (wA G) s.heap H locs → lv_has ls 3 [(0, .ref (G.2.2 122)), (1, .ref (G.2.2 a1)), (2, .int x2)] → W p l e (rmm 1 22) s m args below meth c H locs 0 0 (QV below args s G O) (F0 m 2 ls []) := by
  intro n
  induction n with
  | zero => intro x2 μ h; cases h
  | succ n ih => intro x2 μ h; exact w_X9_passesRow_2 C hs1 (q2 := f_X9_passesRow_2 a1 n1 n) ih x2 μ h

def f_X9_passesRow (a1 : Nat) (n1 : Nat) (μ : Mem) : Option Mem := f_X9_passesRow_2 a1 n1 FU 0 μ
set_option maxRecDepth 100000 in
set_option maxHeartbeats 4000000 in
theorem b_X9_passesRow {p : Program} {l : Launch} {e : Env} {s : State} {m : MethodId} {args : Array Value} {below : List Frame} {meth : Method} {c : Code} {G : Gp} {O : Mem} (C : Cx p s m args meth c cX9_passesRow 3 RX9 none G) {a1 : Nat} {n1 : Nat} (hs1 : shp[a1]? = some (.inr (0, n1))) {μ : Mem} (h : f_X9_passesRow a1 n1 μ = some O) : ∀ (H : Heap) (locs : List Loc) (ls : Array Slot), Wm G μ H → va_S (wA G) s.heap H locs → lv_has ls 3 [(0, .ref (G.2.2 122)), (1, .ref (G.2.2 a1))] → W p l e (rmm 1 22) s m args below meth c H locs 0 0 (QV below args s G O) (F0 m 0 ls []) := by
  unfold f_X9_passesRow at h
  intro H locs ls hP hS hl
  refine lv_iconst (v := 0) C.x C.b dX9_passesRow_0 (by decide) ?_
  refine lv_istore_n (lv' := [(2, .int 0), (0, .ref (G.2.2 122)), (1, .ref (G.2.2 a1))]) C.x C.b dX9_passesRow_1 rfl hl (by decide) rfl (fun ls hl => ?_)
  exact b_X9_passesRow_2 C hs1 FU 0 μ h _ _ _ hP hS (lv_sub hl [1, 2, 0] rfl)

set_option maxRecDepth 100000 in
set_option maxHeartbeats 4000000 in
theorem c_X9_passesRow {l : Launch} {G : Gp} (hI : Wi G) {a1 : Nat} {n1 : Nat} (hs1 : shp[a1]? = some (.inr (0, n1))) {μ : Mem} {μ' : Mem} (h : f_X9_passesRow a1 n1 μ = some μ') : CV l yX9_passesRow cX9_passesRow 3 none 1 22 G [.ref (G.2.2 122), .ref (G.2.2 a1)] μ μ' :=
  e_all (lv := [(0, .ref (G.2.2 122)), (1, .ref (G.2.2 a1))]) hI (by decide) (Nat.le_of_ble_eq_true rfl) rfl (fun p e s m args below meth c ls C hP hS hl => b_X9_passesRow C hs1 h _ _ _ hP hS hl)


def f_X9_passesAll (x1 : Int32) (μ : Mem) : Option (Int32 × Mem) := grd (isB x1) (lt (st μ 122 28 x1) (fun μ2 => lt (st μ2 122 27 0) (fun μ3 => bnd (f_X9_passes (μ3.1 122 0) μ3) (fun r5 μ6 => lt (st μ6 122 0 r5) (fun μ7 => bnd (f_X9_passes (μ7.1 122 1) μ7) (fun r9 μ10 => lt (st μ10 122 1 r9) (fun μ11 => bnd (f_X9_passes (μ11.1 122 6) μ11) (fun r13 μ14 => lt (st μ14 122 6 r13) (fun μ15 => bnd (f_X9_passes (μ15.1 122 7) μ15) (fun r17 μ18 => lt (st μ18 122 7 r17) (fun μ19 => bnd (f_X9_passes (μ19.1 122 8) μ19) (fun r21 μ22 => lt (st μ22 122 8 r21) (fun μ23 => bnd (f_X9_passes (μ23.1 122 9) μ23) (fun r25 μ26 => lt (st μ26 122 9 r25) (fun μ27 => bnd (f_X9_passes (μ27.1 122 20) μ27) (fun r29 μ30 => lt (st μ30 122 20 r29) (fun μ31 => bnd (f_X9_passes (μ31.1 122 21) μ31) (fun r33 μ34 => lt (st μ34 122 21 r33) (fun μ35 => bnd (f_X9_passes (μ35.1 122 22) μ35) (fun r37 μ38 => lt (st μ38 122 22 r37) (fun μ39 => bnv (f_X9_passesRow 123 10 μ39) (fun μ41 => bnv (f_X9_passesRow 124 10 μ41) (fun μ43 => bnv (f_X9_passesRow 125 25 μ43) (fun μ45 => bnv (f_X9_passesRow 126 25 μ45) (fun μ47 => bnv (f_X9_passesRow 127 36 μ47) (fun μ49 => bnv (f_X9_passesRow 128 36 μ49) (fun μ51 => bnv (f_X9_passesRow 129 36 μ51) (fun μ53 => bnv (f_X9_passesRow 130 300 μ53) (fun μ55 => bnv (f_X9_passesRow 131 5 μ55) (fun μ57 => bnv (f_X9_passesRow 132 5 μ57) (fun μ59 => bnv (f_X9_passesRow 133 8 μ59) (fun μ61 => bnv (f_X9_passesRow 134 8 μ61) (fun μ63 => bnv (f_X9_passesRow 135 8 μ63) (fun μ65 => bnv (f_X9_passesRow 136 8 μ65) (fun μ67 => some (μ67.1 122 0, μ67))))))))))))))))))))))))))))))))))))
set_option maxRecDepth 100000 in
set_option maxHeartbeats 4000000 in
theorem b_X9_passesAll {p : Program} {l : Launch} {e : Env} {s : State} {m : MethodId} {args : Array Value} {below : List Frame} {meth : Method} {c : Code} {G : Gp} {O : (Int32 × Mem)} (C : Cx p s m args meth c cX9_passesAll 2 RX9 (some .int) G) {x1 : Int32} {μ : Mem} (h : f_X9_passesAll x1 μ = some O) : ∀ (H : Heap) (locs : List Loc) (ls : Array Slot), Wm G μ H → va_S (wA G) s.heap H locs → lv_has ls 2 [(0, .ref (G.2.2 122)), (1, .int x1)] → W p l e (rmm 2 44) s m args below meth c H locs 0 0 (QI below args s G O) (F0 m 0 ls []) := by
  unfold f_X9_passesAll at h
  intro H locs ls hP hS hl
  refine lv_aload_n C.x C.b dX9_passesAll_0 rfl (lv_at hl 0 rfl) ?_
  refine lv_iload_n C.x C.b dX9_passesAll_1 rfl (lv_at hl 1 rfl) ?_
  obtain ⟨g1, h⟩ := grd_some h
  refine p_boo F_9_28 P_9_28 u4_157 g1 C hP hS sh_122 dX9_passesAll_2 (fun H locs hP hS => ?_)
  obtain ⟨μ2, m_μ2, h⟩ := lt_ex h
  have hP : Wm G μ2 H := by rw [m_μ2]; exact hP
  refine lv_aload_n C.x C.b dX9_passesAll_5 rfl (lv_at hl 0 rfl) ?_
  refine lv_iconst (v := 0) C.x C.b dX9_passesAll_6 (by decide) ?_
  refine p_int F_9_27 P_9_27 u4_156 C hP hS sh_122 dX9_passesAll_7 (fun H locs hP hS => ?_)
  obtain ⟨μ3, m_μ3, h⟩ := lt_ex h
  have hP : Wm G μ3 H := by rw [m_μ3]; exact hP
  refine lv_aload_n C.x C.b dX9_passesAll_10 rfl (lv_at hl 0 rfl) ?_
  refine lv_aload_n C.x C.b dX9_passesAll_11 rfl (lv_at hl 0 rfl) ?_
  refine lv_aload_n C.x C.b dX9_passesAll_12 rfl (lv_at hl 0 rfl) ?_
  refine g_int F_9_0 u4_129 C hP sh_122 dX9_passesAll_13 ?_
  obtain ⟨r5, μ6, e4, h⟩ := bnd_some h
  refine k_vi (k := 122) (as := [.int (μ3.1 122 0)]) (rest := [.ref (G.2.2 122)]) (c_X9_passes C.i e4) M_X9_passes u5_51 C hP hS sh_122 rfl rfl (by decide) hl.1 rfl (Nat.le_of_ble_eq_true rfl) dX9_passesAll_16 (fun H locs hP hS => ?_)
  refine p_int F_9_0 P_9_0 u4_129 C hP hS sh_122 dX9_passesAll_19 (fun H locs hP hS => ?_)
  obtain ⟨μ7, m_μ7, h⟩ := lt_ex h
  have hP : Wm G μ7 H := by rw [m_μ7]; exact hP
  refine lv_aload_n C.x C.b dX9_passesAll_22 rfl (lv_at hl 0 rfl) ?_
  refine lv_aload_n C.x C.b dX9_passesAll_23 rfl (lv_at hl 0 rfl) ?_
  refine lv_aload_n C.x C.b dX9_passesAll_24 rfl (lv_at hl 0 rfl) ?_
  refine g_int F_9_1 u4_130 C hP sh_122 dX9_passesAll_25 ?_
  obtain ⟨r9, μ10, e8, h⟩ := bnd_some h
  refine k_vi (k := 122) (as := [.int (μ7.1 122 1)]) (rest := [.ref (G.2.2 122)]) (c_X9_passes C.i e8) M_X9_passes u5_51 C hP hS sh_122 rfl rfl (by decide) hl.1 rfl (Nat.le_of_ble_eq_true rfl) dX9_passesAll_28 (fun H locs hP hS => ?_)
  refine p_int F_9_1 P_9_1 u4_130 C hP hS sh_122 dX9_passesAll_31 (fun H locs hP hS => ?_)
  obtain ⟨μ11, m_μ11, h⟩ := lt_ex h
  have hP : Wm G μ11 H := by rw [m_μ11]; exact hP
  refine lv_aload_n C.x C.b dX9_passesAll_34 rfl (lv_at hl 0 rfl) ?_
  refine lv_aload_n C.x C.b dX9_passesAll_35 rfl (lv_at hl 0 rfl) ?_
  refine lv_aload_n C.x C.b dX9_passesAll_36 rfl (lv_at hl 0 rfl) ?_
  refine g_int F_9_6 u4_135 C hP sh_122 dX9_passesAll_37 ?_
  obtain ⟨r13, μ14, e12, h⟩ := bnd_some h
  refine k_vi (k := 122) (as := [.int (μ11.1 122 6)]) (rest := [.ref (G.2.2 122)]) (c_X9_passes C.i e12) M_X9_passes u5_51 C hP hS sh_122 rfl rfl (by decide) hl.1 rfl (Nat.le_of_ble_eq_true rfl) dX9_passesAll_40 (fun H locs hP hS => ?_)
  refine p_int F_9_6 P_9_6 u4_135 C hP hS sh_122 dX9_passesAll_43 (fun H locs hP hS => ?_)
  obtain ⟨μ15, m_μ15, h⟩ := lt_ex h
  have hP : Wm G μ15 H := by rw [m_μ15]; exact hP
  refine lv_aload_n C.x C.b dX9_passesAll_46 rfl (lv_at hl 0 rfl) ?_
  refine lv_aload_n C.x C.b dX9_passesAll_47 rfl (lv_at hl 0 rfl) ?_
  refine lv_aload_n C.x C.b dX9_passesAll_48 rfl (lv_at hl 0 rfl) ?_
  refine g_int F_9_7 u4_136 C hP sh_122 dX9_passesAll_49 ?_
  obtain ⟨r17, μ18, e16, h⟩ := bnd_some h
  refine k_vi (k := 122) (as := [.int (μ15.1 122 7)]) (rest := [.ref (G.2.2 122)]) (c_X9_passes C.i e16) M_X9_passes u5_51 C hP hS sh_122 rfl rfl (by decide) hl.1 rfl (Nat.le_of_ble_eq_true rfl) dX9_passesAll_52 (fun H locs hP hS => ?_)
  refine p_int F_9_7 P_9_7 u4_136 C hP hS sh_122 dX9_passesAll_55 (fun H locs hP hS => ?_)
  obtain ⟨μ19, m_μ19, h⟩ := lt_ex h
  have hP : Wm G μ19 H := by rw [m_μ19]; exact hP
  refine lv_aload_n C.x C.b dX9_passesAll_58 rfl (lv_at hl 0 rfl) ?_
  refine lv_aload_n C.x C.b dX9_passesAll_59 rfl (lv_at hl 0 rfl) ?_
  refine lv_aload_n C.x C.b dX9_passesAll_60 rfl (lv_at hl 0 rfl) ?_
  refine g_int F_9_8 u4_137 C hP sh_122 dX9_passesAll_61 ?_
  obtain ⟨r21, μ22, e20, h⟩ := bnd_some h
  refine k_vi (k := 122) (as := [.int (μ19.1 122 8)]) (rest := [.ref (G.2.2 122)]) (c_X9_passes C.i e20) M_X9_passes u5_51 C hP hS sh_122 rfl rfl (by decide) hl.1 rfl (Nat.le_of_ble_eq_true rfl) dX9_passesAll_64 (fun H locs hP hS => ?_)
  refine p_int F_9_8 P_9_8 u4_137 C hP hS sh_122 dX9_passesAll_67 (fun H locs hP hS => ?_)
  obtain ⟨μ23, m_μ23, h⟩ := lt_ex h
  have hP : Wm G μ23 H := by rw [m_μ23]; exact hP
  refine lv_aload_n C.x C.b dX9_passesAll_70 rfl (lv_at hl 0 rfl) ?_
  refine lv_aload_n C.x C.b dX9_passesAll_71 rfl (lv_at hl 0 rfl) ?_
  refine lv_aload_n C.x C.b dX9_passesAll_72 rfl (lv_at hl 0 rfl) ?_
  refine g_int F_9_9 u4_138 C hP sh_122 dX9_passesAll_73 ?_
  obtain ⟨r25, μ26, e24, h⟩ := bnd_some h
  refine k_vi (k := 122) (as := [.int (μ23.1 122 9)]) (rest := [.ref (G.2.2 122)]) (c_X9_passes C.i e24) M_X9_passes u5_51 C hP hS sh_122 rfl rfl (by decide) hl.1 rfl (Nat.le_of_ble_eq_true rfl) dX9_passesAll_76 (fun H locs hP hS => ?_)
  refine p_int F_9_9 P_9_9 u4_138 C hP hS sh_122 dX9_passesAll_79 (fun H locs hP hS => ?_)
  obtain ⟨μ27, m_μ27, h⟩ := lt_ex h
  have hP : Wm G μ27 H := by rw [m_μ27]; exact hP
  refine lv_aload_n C.x C.b dX9_passesAll_82 rfl (lv_at hl 0 rfl) ?_
  refine lv_aload_n C.x C.b dX9_passesAll_83 rfl (lv_at hl 0 rfl) ?_
  refine lv_aload_n C.x C.b dX9_passesAll_84 rfl (lv_at hl 0 rfl) ?_
  refine g_int F_9_20 u4_149 C hP sh_122 dX9_passesAll_85 ?_
  obtain ⟨r29, μ30, e28, h⟩ := bnd_some h
  refine k_vi (k := 122) (as := [.int (μ27.1 122 20)]) (rest := [.ref (G.2.2 122)]) (c_X9_passes C.i e28) M_X9_passes u5_51 C hP hS sh_122 rfl rfl (by decide) hl.1 rfl (Nat.le_of_ble_eq_true rfl) dX9_passesAll_88 (fun H locs hP hS => ?_)
  refine p_int F_9_20 P_9_20 u4_149 C hP hS sh_122 dX9_passesAll_91 (fun H locs hP hS => ?_)
  obtain ⟨μ31, m_μ31, h⟩ := lt_ex h
  have hP : Wm G μ31 H := by rw [m_μ31]; exact hP
  refine lv_aload_n C.x C.b dX9_passesAll_94 rfl (lv_at hl 0 rfl) ?_
  refine lv_aload_n C.x C.b dX9_passesAll_95 rfl (lv_at hl 0 rfl) ?_
  refine lv_aload_n C.x C.b dX9_passesAll_96 rfl (lv_at hl 0 rfl) ?_
  refine g_int F_9_21 u4_150 C hP sh_122 dX9_passesAll_97 ?_
  obtain ⟨r33, μ34, e32, h⟩ := bnd_some h
  refine k_vi (k := 122) (as := [.int (μ31.1 122 21)]) (rest := [.ref (G.2.2 122)]) (c_X9_passes C.i e32) M_X9_passes u5_51 C hP hS sh_122 rfl rfl (by decide) hl.1 rfl (Nat.le_of_ble_eq_true rfl) dX9_passesAll_100 (fun H locs hP hS => ?_)
  refine p_int F_9_21 P_9_21 u4_150 C hP hS sh_122 dX9_passesAll_103 (fun H locs hP hS => ?_)
  obtain ⟨μ35, m_μ35, h⟩ := lt_ex h
  have hP : Wm G μ35 H := by rw [m_μ35]; exact hP
  refine lv_aload_n C.x C.b dX9_passesAll_106 rfl (lv_at hl 0 rfl) ?_
  refine lv_aload_n C.x C.b dX9_passesAll_107 rfl (lv_at hl 0 rfl) ?_
  refine lv_aload_n C.x C.b dX9_passesAll_108 rfl (lv_at hl 0 rfl) ?_
  refine g_int F_9_22 u4_151 C hP sh_122 dX9_passesAll_109 ?_
  obtain ⟨r37, μ38, e36, h⟩ := bnd_some h
  refine k_vi (k := 122) (as := [.int (μ35.1 122 22)]) (rest := [.ref (G.2.2 122)]) (c_X9_passes C.i e36) M_X9_passes u5_51 C hP hS sh_122 rfl rfl (by decide) hl.1 rfl (Nat.le_of_ble_eq_true rfl) dX9_passesAll_112 (fun H locs hP hS => ?_)
  refine p_int F_9_22 P_9_22 u4_151 C hP hS sh_122 dX9_passesAll_115 (fun H locs hP hS => ?_)
  obtain ⟨μ39, m_μ39, h⟩ := lt_ex h
  have hP : Wm G μ39 H := by rw [m_μ39]; exact hP
  refine lv_aload_n C.x C.b dX9_passesAll_118 rfl (lv_at hl 0 rfl) ?_
  refine lv_aload_n C.x C.b dX9_passesAll_119 rfl (lv_at hl 0 rfl) ?_
  refine g_ref (k' := 123) F_9_2 u4_131 C hP sh_122 rfl dX9_passesAll_120 ?_
  obtain ⟨μ41, e40, h⟩ := bnv_some h
  refine k_vv (k := 122) (as := [.ref (G.2.2 123)]) (rest := []) (c_X9_passesRow C.i sh_123 e40) M_X9_passesRow u5_55 C hP hS sh_122 rfl rfl (by decide) hl.1 rfl (Nat.le_of_ble_eq_true rfl) dX9_passesAll_123 (fun H locs hP hS => ?_)
  refine lv_aload_n C.x C.b dX9_passesAll_126 rfl (lv_at hl 0 rfl) ?_
  refine lv_aload_n C.x C.b dX9_passesAll_127 rfl (lv_at hl 0 rfl) ?_
  refine g_ref (k' := 124) F_9_3 u4_132 C hP sh_122 rfl dX9_passesAll_128 ?_
  obtain ⟨μ43, e42, h⟩ := bnv_some h
  refine k_vv (k := 122) (as := [.ref (G.2.2 124)]) (rest := []) (c_X9_passesRow C.i sh_124 e42) M_X9_passesRow u5_55 C hP hS sh_122 rfl rfl (by decide) hl.1 rfl (Nat.le_of_ble_eq_true rfl) dX9_passesAll_131 (fun H locs hP hS => ?_)
  refine lv_aload_n C.x C.b dX9_passesAll_134 rfl (lv_at hl 0 rfl) ?_
  refine lv_aload_n C.x C.b dX9_passesAll_135 rfl (lv_at hl 0 rfl) ?_
  refine g_ref (k' := 125) F_9_4 u4_133 C hP sh_122 rfl dX9_passesAll_136 ?_
  obtain ⟨μ45, e44, h⟩ := bnv_some h
  refine k_vv (k := 122) (as := [.ref (G.2.2 125)]) (rest := []) (c_X9_passesRow C.i sh_125 e44) M_X9_passesRow u5_55 C hP hS sh_122 rfl rfl (by decide) hl.1 rfl (Nat.le_of_ble_eq_true rfl) dX9_passesAll_139 (fun H locs hP hS => ?_)
  refine lv_aload_n C.x C.b dX9_passesAll_142 rfl (lv_at hl 0 rfl) ?_
  refine lv_aload_n C.x C.b dX9_passesAll_143 rfl (lv_at hl 0 rfl) ?_
  refine g_ref (k' := 126) F_9_5 u4_134 C hP sh_122 rfl dX9_passesAll_144 ?_
  obtain ⟨μ47, e46, h⟩ := bnv_some h
  refine k_vv (k := 122) (as := [.ref (G.2.2 126)]) (rest := []) (c_X9_passesRow C.i sh_126 e46) M_X9_passesRow u5_55 C hP hS sh_122 rfl rfl (by decide) hl.1 rfl (Nat.le_of_ble_eq_true rfl) dX9_passesAll_147 (fun H locs hP hS => ?_)
  refine lv_aload_n C.x C.b dX9_passesAll_150 rfl (lv_at hl 0 rfl) ?_
  refine lv_aload_n C.x C.b dX9_passesAll_151 rfl (lv_at hl 0 rfl) ?_
  refine g_ref (k' := 127) F_9_10 u4_139 C hP sh_122 rfl dX9_passesAll_152 ?_
  obtain ⟨μ49, e48, h⟩ := bnv_some h
  refine k_vv (k := 122) (as := [.ref (G.2.2 127)]) (rest := []) (c_X9_passesRow C.i sh_127 e48) M_X9_passesRow u5_55 C hP hS sh_122 rfl rfl (by decide) hl.1 rfl (Nat.le_of_ble_eq_true rfl) dX9_passesAll_155 (fun H locs hP hS => ?_)
  refine lv_aload_n C.x C.b dX9_passesAll_158 rfl (lv_at hl 0 rfl) ?_
  refine lv_aload_n C.x C.b dX9_passesAll_159 rfl (lv_at hl 0 rfl) ?_
  refine g_ref (k' := 128) F_9_11 u4_140 C hP sh_122 rfl dX9_passesAll_160 ?_
  obtain ⟨μ51, e50, h⟩ := bnv_some h
  refine k_vv (k := 122) (as := [.ref (G.2.2 128)]) (rest := []) (c_X9_passesRow C.i sh_128 e50) M_X9_passesRow u5_55 C hP hS sh_122 rfl rfl (by decide) hl.1 rfl (Nat.le_of_ble_eq_true rfl) dX9_passesAll_163 (fun H locs hP hS => ?_)
  refine lv_aload_n C.x C.b dX9_passesAll_166 rfl (lv_at hl 0 rfl) ?_
  refine lv_aload_n C.x C.b dX9_passesAll_167 rfl (lv_at hl 0 rfl) ?_
  refine g_ref (k' := 129) F_9_12 u4_141 C hP sh_122 rfl dX9_passesAll_168 ?_
  obtain ⟨μ53, e52, h⟩ := bnv_some h
  refine k_vv (k := 122) (as := [.ref (G.2.2 129)]) (rest := []) (c_X9_passesRow C.i sh_129 e52) M_X9_passesRow u5_55 C hP hS sh_122 rfl rfl (by decide) hl.1 rfl (Nat.le_of_ble_eq_true rfl) dX9_passesAll_171 (fun H locs hP hS => ?_)
  refine lv_aload_n C.x C.b dX9_passesAll_174 rfl (lv_at hl 0 rfl) ?_
  refine lv_aload_n C.x C.b dX9_passesAll_175 rfl (lv_at hl 0 rfl) ?_
  refine g_ref (k' := 130) F_9_13 u4_142 C hP sh_122 rfl dX9_passesAll_176 ?_
  obtain ⟨μ55, e54, h⟩ := bnv_some h
  refine k_vv (k := 122) (as := [.ref (G.2.2 130)]) (rest := []) (c_X9_passesRow C.i sh_130 e54) M_X9_passesRow u5_55 C hP hS sh_122 rfl rfl (by decide) hl.1 rfl (Nat.le_of_ble_eq_true rfl) dX9_passesAll_179 (fun H locs hP hS => ?_)
  refine lv_aload_n C.x C.b dX9_passesAll_182 rfl (lv_at hl 0 rfl) ?_
  refine lv_aload_n C.x C.b dX9_passesAll_183 rfl (lv_at hl 0 rfl) ?_
  refine g_ref (k' := 131) F_9_14 u4_143 C hP sh_122 rfl dX9_passesAll_184 ?_
  obtain ⟨μ57, e56, h⟩ := bnv_some h
  refine k_vv (k := 122) (as := [.ref (G.2.2 131)]) (rest := []) (c_X9_passesRow C.i sh_131 e56) M_X9_passesRow u5_55 C hP hS sh_122 rfl rfl (by decide) hl.1 rfl (Nat.le_of_ble_eq_true rfl) dX9_passesAll_187 (fun H locs hP hS => ?_)
  refine lv_aload_n C.x C.b dX9_passesAll_190 rfl (lv_at hl 0 rfl) ?_
  refine lv_aload_n C.x C.b dX9_passesAll_191 rfl (lv_at hl 0 rfl) ?_
  refine g_ref (k' := 132) F_9_15 u4_144 C hP sh_122 rfl dX9_passesAll_192 ?_
  obtain ⟨μ59, e58, h⟩ := bnv_some h
  refine k_vv (k := 122) (as := [.ref (G.2.2 132)]) (rest := []) (c_X9_passesRow C.i sh_132 e58) M_X9_passesRow u5_55 C hP hS sh_122 rfl rfl (by decide) hl.1 rfl (Nat.le_of_ble_eq_true rfl) dX9_passesAll_195 (fun H locs hP hS => ?_)
  refine lv_aload_n C.x C.b dX9_passesAll_198 rfl (lv_at hl 0 rfl) ?_
  refine lv_aload_n C.x C.b dX9_passesAll_199 rfl (lv_at hl 0 rfl) ?_
  refine g_ref (k' := 133) F_9_16 u4_145 C hP sh_122 rfl dX9_passesAll_200 ?_
  obtain ⟨μ61, e60, h⟩ := bnv_some h
  refine k_vv (k := 122) (as := [.ref (G.2.2 133)]) (rest := []) (c_X9_passesRow C.i sh_133 e60) M_X9_passesRow u5_55 C hP hS sh_122 rfl rfl (by decide) hl.1 rfl (Nat.le_of_ble_eq_true rfl) dX9_passesAll_203 (fun H locs hP hS => ?_)
  refine lv_aload_n C.x C.b dX9_passesAll_206 rfl (lv_at hl 0 rfl) ?_
  refine lv_aload_n C.x C.b dX9_passesAll_207 rfl (lv_at hl 0 rfl) ?_
  refine g_ref (k' := 134) F_9_17 u4_146 C hP sh_122 rfl dX9_passesAll_208 ?_
  obtain ⟨μ63, e62, h⟩ := bnv_some h
  refine k_vv (k := 122) (as := [.ref (G.2.2 134)]) (rest := []) (c_X9_passesRow C.i sh_134 e62) M_X9_passesRow u5_55 C hP hS sh_122 rfl rfl (by decide) hl.1 rfl (Nat.le_of_ble_eq_true rfl) dX9_passesAll_211 (fun H locs hP hS => ?_)
  refine lv_aload_n C.x C.b dX9_passesAll_214 rfl (lv_at hl 0 rfl) ?_
  refine lv_aload_n C.x C.b dX9_passesAll_215 rfl (lv_at hl 0 rfl) ?_
  refine g_ref (k' := 135) F_9_18 u4_147 C hP sh_122 rfl dX9_passesAll_216 ?_
  obtain ⟨μ65, e64, h⟩ := bnv_some h
  refine k_vv (k := 122) (as := [.ref (G.2.2 135)]) (rest := []) (c_X9_passesRow C.i sh_135 e64) M_X9_passesRow u5_55 C hP hS sh_122 rfl rfl (by decide) hl.1 rfl (Nat.le_of_ble_eq_true rfl) dX9_passesAll_219 (fun H locs hP hS => ?_)
  refine lv_aload_n C.x C.b dX9_passesAll_222 rfl (lv_at hl 0 rfl) ?_
  refine lv_aload_n C.x C.b dX9_passesAll_223 rfl (lv_at hl 0 rfl) ?_
  refine g_ref (k' := 136) F_9_19 u4_148 C hP sh_122 rfl dX9_passesAll_224 ?_
  obtain ⟨μ67, e66, h⟩ := bnv_some h
  refine k_vv (k := 122) (as := [.ref (G.2.2 136)]) (rest := []) (c_X9_passesRow C.i sh_136 e66) M_X9_passesRow u5_55 C hP hS sh_122 rfl rfl (by decide) hl.1 rfl (Nat.le_of_ble_eq_true rfl) dX9_passesAll_227 (fun H locs hP hS => ?_)
  refine lv_aload_n C.x C.b dX9_passesAll_230 rfl (lv_at hl 0 rfl) ?_
  refine g_int F_9_0 u4_129 C hP sh_122 dX9_passesAll_231 ?_
  exact r_i h C hP hS dX9_passesAll_234

set_option maxRecDepth 100000 in
set_option maxHeartbeats 4000000 in
theorem c_X9_passesAll {l : Launch} {G : Gp} (hI : Wi G) {x1 : Int32} {μ : Mem} {r : Int32} {μ' : Mem} (h : f_X9_passesAll x1 μ = some (r, μ')) : CI l yX9_passesAll cX9_passesAll 2 (some .int) 2 44 G [.ref (G.2.2 122), .int x1] μ r μ' :=
  e_all (lv := [(0, .ref (G.2.2 122)), (1, .int x1)]) hI (by decide) (Nat.le_of_ble_eq_true rfl) rfl (fun p e s m args below meth c ls C hP hS hl => b_X9_passesAll C h _ _ _ hP hS hl)

