def f_X8_road (x1 : Int32) (x2 : Int32) (x3 : Int32) (x4 : Int32) (μ : Mem) : Option (Int32 × Mem) := bnv (f_X0_isRoad 15 x1 x2 μ) (fun r2 => if r2 = 0 then (some ((-1), μ)) else (bnv (f_X8_isUpTo x3 3 μ) (fun r5 => if r5 = 0 then (some ((-2), μ)) else (bnv (f_X8_isUpTo x4 99 μ) (fun r8 => if r8 = 0 then (some ((-2), μ)) else (bnd (f_X6_changeRoad 14 x1 x2 x3 x4 μ) (fun r11 μ12 => some (r11, μ12))))))))
set_option maxRecDepth 100000 in
set_option maxHeartbeats 4000000 in
theorem b_X8_road {p : Program} {l : Launch} {e : Env} {s : State} {m : MethodId} {args : Array Value} {below : List Frame} {meth : Method} {c : Code} {G : Gp} {O : (Int32 × Mem)} (C : Cx p s m args meth c cX8_road 5 RX8 (some .int) G) {x1 : Int32} {x2 : Int32} {x3 : Int32} {x4 : Int32} {μ : Mem} (h : f_X8_road x1 x2 x3 x4 μ = some O) : ∀ (H : Heap) (locs : List Loc) (ls : Array Slot), Wm G μ H → va_S (wA G) s.heap H locs → lv_has ls 5 [(0, .ref (G.2.2 0)), (1, .int x1), (2, .int x2), (3, .int x3), (4, .int x4)] → W p l e (rmm 2 48) s m args below meth c H locs 0 0 (QI below args s G O) (F0 m 0 ls []) := by
  unfold f_X8_road at h
  intro H locs ls hP hS hl
  refine lv_aload_n C.x C.b dX8_road_0 rfl (lv_at hl 0 rfl) ?_
  refine g_ref (k' := 14) F_8_0 u2_79 C hP sh_0 rfl dX8_road_1 ?_
  refine g_ref (k' := 15) F_6_0 u1_237 C hP sh_14 rfl dX8_road_4 ?_
  refine lv_iload_n C.x C.b dX8_road_7 rfl (lv_at hl 1 rfl) ?_
  refine lv_iload_n C.x C.b dX8_road_8 rfl (lv_at hl 2 rfl) ?_
  obtain ⟨r2, e1, h⟩ := bnv_some h
  refine k_vi (k := 15) (as := [.int x1, .int x2]) (rest := []) (c_X0_isRoad C.i at_sGround_15 e1) M_X0_isRoad u2_136 C hP hS sh_15 rfl rfl (by decide) hl.1 rfl (Nat.le_of_ble_eq_true rfl) dX8_road_9 (fun H locs hP hS => ?_)
  refine lv_if_ne (tgt := 17) C.x C.b dX8_road_12 (by decide) (fun c3 => ?_) (fun c3 => ?_)
  · have h := (if_neg c3).symm.trans h
    refine lv_iload_n C.x C.b dX8_road_17 rfl (lv_at hl 3 rfl) ?_
    refine lv_iconst (v := 3) C.x C.b dX8_road_18 (by decide) ?_
    obtain ⟨r5, e4, h⟩ := bnv_some h
    refine k_si (as := [.int x3, .int 3]) (rest := []) (c_X8_isUpTo C.i e4) M_X8_isUpTo u2_105 C hP hS rfl (by decide) hl.1 rfl (Nat.le_of_ble_eq_true rfl) dX8_road_19 (fun H locs hP hS => ?_)
    refine lv_if_eq (tgt := 35) C.x C.b dX8_road_22 (by decide) (fun c6 => ?_) (fun c6 => ?_)
    · have h := (if_pos c6).symm.trans h
      refine lv_bipush (v := (-2)) C.x C.b dX8_road_35 (by decide) ?_
      exact r_i h C hP hS dX8_road_37
    · have h := (if_neg c6).symm.trans h
      refine lv_iload C.x C.b dX8_road_25 (lv_at hl 4 rfl) ?_
      refine lv_bipush (v := 99) C.x C.b dX8_road_27 (by decide) ?_
      obtain ⟨r8, e7, h⟩ := bnv_some h
      refine k_si (as := [.int x4, .int 99]) (rest := []) (c_X8_isUpTo C.i e7) M_X8_isUpTo u2_105 C hP hS rfl (by decide) hl.1 rfl (Nat.le_of_ble_eq_true rfl) dX8_road_29 (fun H locs hP hS => ?_)
      refine lv_if_ne (tgt := 38) C.x C.b dX8_road_32 (by decide) (fun c9 => ?_) (fun c9 => ?_)
      · have h := (if_neg c9).symm.trans h
        refine lv_aload_n C.x C.b dX8_road_38 rfl (lv_at hl 0 rfl) ?_
        refine g_ref (k' := 14) F_8_0 u2_79 C hP sh_0 rfl dX8_road_39 ?_
        refine lv_iload_n C.x C.b dX8_road_42 rfl (lv_at hl 1 rfl) ?_
        refine lv_iload_n C.x C.b dX8_road_43 rfl (lv_at hl 2 rfl) ?_
        refine lv_iload_n C.x C.b dX8_road_44 rfl (lv_at hl 3 rfl) ?_
        refine lv_iload C.x C.b dX8_road_45 (lv_at hl 4 rfl) ?_
        obtain ⟨r11, μ12, e10, h⟩ := bnd_some h
        refine k_vi (k := 14) (as := [.int x1, .int x2, .int x3, .int x4]) (rest := []) (c_X6_changeRoad C.i at_sState_14 e10) M_X6_changeRoad u2_140 C hP hS sh_14 rfl rfl (by decide) hl.1 rfl (Nat.le_of_ble_eq_true rfl) dX8_road_47 (fun H locs hP hS => ?_)
        exact r_i h C hP hS dX8_road_50
      · have h := (if_pos c9).symm.trans h
        refine lv_bipush (v := (-2)) C.x C.b dX8_road_35 (by decide) ?_
        exact r_i h C hP hS dX8_road_37
  · have h := (if_pos c3).symm.trans h
    refine lv_iconst (v := (-1)) C.x C.b dX8_road_15 (by decide) ?_
    exact r_i h C hP hS dX8_road_16

set_option maxRecDepth 100000 in
set_option maxHeartbeats 4000000 in
theorem c_X8_road {l : Launch} {G : Gp} (hI : Wi G) {x1 : Int32} {x2 : Int32} {x3 : Int32} {x4 : Int32} {μ : Mem} {r : Int32} {μ' : Mem} (h : f_X8_road x1 x2 x3 x4 μ = some (r, μ')) : CI l yX8_road cX8_road 5 (some .int) 2 48 G [.ref (G.2.2 0), .int x1, .int x2, .int x3, .int x4] μ r μ' :=
  e_all (lv := [(0, .ref (G.2.2 0)), (1, .int x1), (2, .int x2), (3, .int x3), (4, .int x4)]) hI (by decide) (Nat.le_of_ble_eq_true rfl) rfl (fun p e s m args below meth c ls C hP hS hl => b_X8_road C h _ _ _ hP hS hl)


def f_X8_of (x1 : Int32) (x2 : Int32) (x3 : Int32) (μ : Mem) : Option Int32 := bnv (f_X0_isSite 15 x1 x2 μ) (fun r2 => if r2 = 0 then (some ((-1))) else (bnv (f_X8_isUpTo x3 1 μ) (fun r5 => if r5 = 0 then (some ((-1))) else (bnv (f_X0_row 15 x1 x3 μ) (fun r8 => grd (inb x2 5) (some (μ.1 r8 x2.toNatClampNeg)))))))
set_option maxRecDepth 100000 in
set_option maxHeartbeats 4000000 in
theorem b_X8_of {p : Program} {l : Launch} {e : Env} {s : State} {m : MethodId} {args : Array Value} {below : List Frame} {meth : Method} {c : Code} {G : Gp} {O : Int32} (C : Cx p s m args meth c cX8_of 4 RX8 (some .int) G) {x1 : Int32} {x2 : Int32} {x3 : Int32} {μ : Mem} (h : f_X8_of x1 x2 x3 μ = some O) : ∀ (H : Heap) (locs : List Loc) (ls : Array Slot), Wm G μ H → va_S (wA G) s.heap H locs → lv_has ls 4 [(0, .ref (G.2.2 0)), (1, .int x1), (2, .int x2), (3, .int x3)] → W p l e (rmm 1 22) s m args below meth c H locs 0 0 (QI below args s G (O, μ)) (F0 m 0 ls []) := by
  unfold f_X8_of at h
  intro H locs ls hP hS hl
  refine lv_aload_n C.x C.b dX8_of_0 rfl (lv_at hl 0 rfl) ?_
  refine g_ref (k' := 14) F_8_0 u2_79 C hP sh_0 rfl dX8_of_1 ?_
  refine g_ref (k' := 15) F_6_0 u1_237 C hP sh_14 rfl dX8_of_4 ?_
  refine lv_iload_n C.x C.b dX8_of_7 rfl (lv_at hl 1 rfl) ?_
  refine lv_iload_n C.x C.b dX8_of_8 rfl (lv_at hl 2 rfl) ?_
  obtain ⟨r2, e1, h⟩ := bnv_some h
  refine k_vi (k := 15) (as := [.int x1, .int x2]) (rest := []) (c_X0_isSite C.i at_sGround_15 e1) M_X0_isSite u2_124 C hP hS sh_15 rfl rfl (by decide) hl.1 rfl (Nat.le_of_ble_eq_true rfl) dX8_of_9 (fun H locs hP hS => ?_)
  refine lv_if_eq (tgt := 23) C.x C.b dX8_of_12 (by decide) (fun c3 => ?_) (fun c3 => ?_)
  · have h := (if_pos c3).symm.trans h
    refine lv_iconst (v := (-1)) C.x C.b dX8_of_23 (by decide) ?_
    exact r_i (pr_some h) C hP hS dX8_of_24
  · have h := (if_neg c3).symm.trans h
    refine lv_iload_n C.x C.b dX8_of_15 rfl (lv_at hl 3 rfl) ?_
    refine lv_iconst (v := 1) C.x C.b dX8_of_16 (by decide) ?_
    obtain ⟨r5, e4, h⟩ := bnv_some h
    refine k_si (as := [.int x3, .int 1]) (rest := []) (c_X8_isUpTo C.i e4) M_X8_isUpTo u2_105 C hP hS rfl (by decide) hl.1 rfl (Nat.le_of_ble_eq_true rfl) dX8_of_17 (fun H locs hP hS => ?_)
    refine lv_if_ne (tgt := 25) C.x C.b dX8_of_20 (by decide) (fun c6 => ?_) (fun c6 => ?_)
    · have h := (if_neg c6).symm.trans h
      refine lv_aload_n C.x C.b dX8_of_25 rfl (lv_at hl 0 rfl) ?_
      refine g_ref (k' := 14) F_8_0 u2_79 C hP sh_0 rfl dX8_of_26 ?_
      refine g_ref (k' := 15) F_6_0 u1_237 C hP sh_14 rfl dX8_of_29 ?_
      refine lv_iload_n C.x C.b dX8_of_32 rfl (lv_at hl 1 rfl) ?_
      refine lv_iload_n C.x C.b dX8_of_33 rfl (lv_at hl 3 rfl) ?_
      obtain ⟨r8, e7, h⟩ := bnv_some h
      refine k_vr (k := 15) (as := [.int x1, .int x3]) (rest := []) (c_X0_row C.i at_sGround_15 e7) M_X0_row u2_152 C hP hS sh_15 rfl rfl (by decide) hl.1 rfl (Nat.le_of_ble_eq_true rfl) dX8_of_34 (fun H locs hP hS => ?_)
      have ht9 : shp[r8]? = some (.inr (0, 5)) := row_at at_sGround_15 e7
      refine lv_iload_n C.x C.b dX8_of_37 rfl (lv_at hl 2 rfl) ?_
      obtain ⟨g10, h⟩ := grd_some h
      refine a_i C hP ht9 g10 dX8_of_38 ?_
      exact r_i (pr_some h) C hP hS dX8_of_39
    · have h := (if_pos c6).symm.trans h
      refine lv_iconst (v := (-1)) C.x C.b dX8_of_23 (by decide) ?_
      exact r_i (pr_some h) C hP hS dX8_of_24

set_option maxRecDepth 100000 in
set_option maxHeartbeats 4000000 in
theorem c_X8_of {l : Launch} {G : Gp} (hI : Wi G) {x1 : Int32} {x2 : Int32} {x3 : Int32} {μ : Mem} {r : Int32} (h : f_X8_of x1 x2 x3 μ = some r) : CI l yX8_of cX8_of 4 (some .int) 1 22 G [.ref (G.2.2 0), .int x1, .int x2, .int x3] μ r μ :=
  e_all (lv := [(0, .ref (G.2.2 0)), (1, .int x1), (2, .int x2), (3, .int x3)]) hI (by decide) (Nat.le_of_ble_eq_true rfl) rfl (fun p e s m args below meth c ls C hP hS hl => b_X8_of C h _ _ _ hP hS hl)


def f_X8_roadOf (x1 : Int32) (x2 : Int32) (x3 : Int32) (μ : Mem) : Option Int32 := bnv (f_X0_isRoad 15 x1 x2 μ) (fun r2 => if r2 = 0 then (some ((-1))) else (if x3 = 0 then (bnv (f_X8_roadAt x1 x2 μ) (fun r6 => grd (inb r6 25) (some (μ.1 20 r6.toNatClampNeg)))) else (if x3 = 1 then (bnv (f_X8_roadAt x1 x2 μ) (fun r10 => grd (inb r10 25) (some (μ.1 21 r10.toNatClampNeg)))) else (if x3 = 2 then (bnv (f_X0_costOf 15 x1 x2 μ) (fun r14 => some r14)) else ((some ((-1))))))))
set_option maxRecDepth 100000 in
set_option maxHeartbeats 4000000 in
theorem b_X8_roadOf {p : Program} {l : Launch} {e : Env} {s : State} {m : MethodId} {args : Array Value} {below : List Frame} {meth : Method} {c : Code} {G : Gp} {O : Int32} (C : Cx p s m args meth c cX8_roadOf 4 RX8 (some .int) G) {x1 : Int32} {x2 : Int32} {x3 : Int32} {μ : Mem} (h : f_X8_roadOf x1 x2 x3 μ = some O) : ∀ (H : Heap) (locs : List Loc) (ls : Array Slot), Wm G μ H → va_S (wA G) s.heap H locs → lv_has ls 4 [(0, .ref (G.2.2 0)), (1, .int x1), (2, .int x2), (3, .int x3)] → W p l e (rmm 2 46) s m args below meth c H locs 0 0 (QI below args s G (O, μ)) (F0 m 0 ls []) := by
  unfold f_X8_roadOf at h
  intro H locs ls hP hS hl
  refine lv_aload_n C.x C.b dX8_roadOf_0 rfl (lv_at hl 0 rfl) ?_
  refine g_ref (k' := 14) F_8_0 u2_79 C hP sh_0 rfl dX8_roadOf_1 ?_
  refine g_ref (k' := 15) F_6_0 u1_237 C hP sh_14 rfl dX8_roadOf_4 ?_
  refine lv_iload_n C.x C.b dX8_roadOf_7 rfl (lv_at hl 1 rfl) ?_
  refine lv_iload_n C.x C.b dX8_roadOf_8 rfl (lv_at hl 2 rfl) ?_
  obtain ⟨r2, e1, h⟩ := bnv_some h
  refine k_vi (k := 15) (as := [.int x1, .int x2]) (rest := []) (c_X0_isRoad C.i at_sGround_15 e1) M_X0_isRoad u2_136 C hP hS sh_15 rfl rfl (by decide) hl.1 rfl (Nat.le_of_ble_eq_true rfl) dX8_roadOf_9 (fun H locs hP hS => ?_)
  refine lv_if_ne (tgt := 17) C.x C.b dX8_roadOf_12 (by decide) (fun c3 => ?_) (fun c3 => ?_)
  · have h := (if_neg c3).symm.trans h
    refine lv_iload_n C.x C.b dX8_roadOf_17 rfl (lv_at hl 3 rfl) ?_
    by_cases c4 : x3 = 0
    · have h := (if_pos c4).symm.trans h
      refine lv_tableIn (off := 26) (tgt := 44) C.x C.b dX8_roadOf_18 (by rw [c4]; decide) (by rw [c4]; decide) (by rw [c4]; rfl) (by decide) ?_
      refine lv_aload_n C.x C.b dX8_roadOf_44 rfl (lv_at hl 0 rfl) ?_
      refine g_ref (k' := 14) F_8_0 u2_79 C hP sh_0 rfl dX8_roadOf_45 ?_
      refine g_ref (k' := 15) F_6_0 u1_237 C hP sh_14 rfl dX8_roadOf_48 ?_
      refine g_ref (k' := 20) F_0_6 u1_56 C hP sh_15 rfl dX8_roadOf_51 ?_
      refine lv_iload_n C.x C.b dX8_roadOf_54 rfl (lv_at hl 1 rfl) ?_
      refine lv_iload_n C.x C.b dX8_roadOf_55 rfl (lv_at hl 2 rfl) ?_
      obtain ⟨r6, e5, h⟩ := bnv_some h
      refine k_si (as := [.int x1, .int x2]) (rest := [.ref (G.2.2 20)]) (c_X8_roadAt C.i e5) M_X8_roadAt u2_157 C hP hS rfl (by decide) hl.1 rfl (Nat.le_of_ble_eq_true rfl) dX8_roadOf_56 (fun H locs hP hS => ?_)
      obtain ⟨g7, h⟩ := grd_some h
      refine a_i C hP sh_20 g7 dX8_roadOf_59 ?_
      exact r_i (pr_some h) C hP hS dX8_roadOf_60
    · have h := (if_neg c4).symm.trans h
      by_cases c8 : x3 = 1
      · have h := (if_pos c8).symm.trans h
        refine lv_tableIn (off := 43) (tgt := 61) C.x C.b dX8_roadOf_18 (by rw [c8]; decide) (by rw [c8]; decide) (by rw [c8]; rfl) (by decide) ?_
        refine lv_aload_n C.x C.b dX8_roadOf_61 rfl (lv_at hl 0 rfl) ?_
        refine g_ref (k' := 14) F_8_0 u2_79 C hP sh_0 rfl dX8_roadOf_62 ?_
        refine g_ref (k' := 15) F_6_0 u1_237 C hP sh_14 rfl dX8_roadOf_65 ?_
        refine g_ref (k' := 21) F_0_7 u1_59 C hP sh_15 rfl dX8_roadOf_68 ?_
        refine lv_iload_n C.x C.b dX8_roadOf_71 rfl (lv_at hl 1 rfl) ?_
        refine lv_iload_n C.x C.b dX8_roadOf_72 rfl (lv_at hl 2 rfl) ?_
        obtain ⟨r10, e9, h⟩ := bnv_some h
        refine k_si (as := [.int x1, .int x2]) (rest := [.ref (G.2.2 21)]) (c_X8_roadAt C.i e9) M_X8_roadAt u2_157 C hP hS rfl (by decide) hl.1 rfl (Nat.le_of_ble_eq_true rfl) dX8_roadOf_73 (fun H locs hP hS => ?_)
        obtain ⟨g11, h⟩ := grd_some h
        refine a_i C hP sh_21 g11 dX8_roadOf_76 ?_
        exact r_i (pr_some h) C hP hS dX8_roadOf_77
      · have h := (if_neg c8).symm.trans h
        by_cases c12 : x3 = 2
        · have h := (if_pos c12).symm.trans h
          refine lv_tableIn (off := 60) (tgt := 78) C.x C.b dX8_roadOf_18 (by rw [c12]; decide) (by rw [c12]; decide) (by rw [c12]; rfl) (by decide) ?_
          refine lv_aload_n C.x C.b dX8_roadOf_78 rfl (lv_at hl 0 rfl) ?_
          refine g_ref (k' := 14) F_8_0 u2_79 C hP sh_0 rfl dX8_roadOf_79 ?_
          refine g_ref (k' := 15) F_6_0 u1_237 C hP sh_14 rfl dX8_roadOf_82 ?_
          refine lv_iload_n C.x C.b dX8_roadOf_85 rfl (lv_at hl 1 rfl) ?_
          refine lv_iload_n C.x C.b dX8_roadOf_86 rfl (lv_at hl 2 rfl) ?_
          obtain ⟨r14, e13, h⟩ := bnv_some h
          refine k_vi (k := 15) (as := [.int x1, .int x2]) (rest := []) (c_X0_costOf C.i at_sGround_15 e13) M_X0_costOf u2_158 C hP hS sh_15 rfl rfl (by decide) hl.1 rfl (Nat.le_of_ble_eq_true rfl) dX8_roadOf_87 (fun H locs hP hS => ?_)
          exact r_i (pr_some h) C hP hS dX8_roadOf_90
        · have h := (if_neg c12).symm.trans h
          have t_c4 := lv_neT (a := 0) c4 (by decide)
          have t_c8 := lv_neT (a := 1) c8 (by decide)
          have t_c12 := lv_neT (a := 2) c12 (by decide)
          refine lv_tableOut (tgt := 91) C.x C.b dX8_roadOf_18 (by omega) (by decide) ?_
          refine lv_iconst (v := (-1)) C.x C.b dX8_roadOf_91 (by decide) ?_
          exact r_i (pr_some h) C hP hS dX8_roadOf_92
  · have h := (if_pos c3).symm.trans h
    refine lv_iconst (v := (-1)) C.x C.b dX8_roadOf_15 (by decide) ?_
    exact r_i (pr_some h) C hP hS dX8_roadOf_16

set_option maxRecDepth 100000 in
set_option maxHeartbeats 4000000 in
theorem c_X8_roadOf {l : Launch} {G : Gp} (hI : Wi G) {x1 : Int32} {x2 : Int32} {x3 : Int32} {μ : Mem} {r : Int32} (h : f_X8_roadOf x1 x2 x3 μ = some r) : CI l yX8_roadOf cX8_roadOf 4 (some .int) 2 46 G [.ref (G.2.2 0), .int x1, .int x2, .int x3] μ r μ :=
  e_all (lv := [(0, .ref (G.2.2 0)), (1, .int x1), (2, .int x2), (3, .int x3)]) hI (by decide) (Nat.le_of_ble_eq_true rfl) rfl (fun p e s m args below meth c ls C hP hS hl => b_X8_roadOf C h _ _ _ hP hS hl)


def f_X8_feed (x1 : Int32) (μ : Mem) : Option (Int32 × Mem) := bnv (f_X8_isUpTo x1 127 μ) (fun r2 => if r2 = 0 then (some ((-2), μ)) else (bnd (f_X5_add x1 μ) (fun r5 μ6 => some (r5, μ6))))
set_option maxRecDepth 100000 in
set_option maxHeartbeats 4000000 in
theorem b_X8_feed {p : Program} {l : Launch} {e : Env} {s : State} {m : MethodId} {args : Array Value} {below : List Frame} {meth : Method} {c : Code} {G : Gp} {O : (Int32 × Mem)} (C : Cx p s m args meth c cX8_feed 2 RX8 (some .int) G) {x1 : Int32} {μ : Mem} (h : f_X8_feed x1 μ = some O) : ∀ (H : Heap) (locs : List Loc) (ls : Array Slot), Wm G μ H → va_S (wA G) s.heap H locs → lv_has ls 2 [(0, .ref (G.2.2 0)), (1, .int x1)] → W p l e (rmm 1 21) s m args below meth c H locs 0 0 (QI below args s G O) (F0 m 0 ls []) := by
  unfold f_X8_feed at h
  intro H locs ls hP hS hl
  refine lv_iload_n C.x C.b dX8_feed_0 rfl (lv_at hl 1 rfl) ?_
  refine lv_bipush (v := 127) C.x C.b dX8_feed_1 (by decide) ?_
  obtain ⟨r2, e1, h⟩ := bnv_some h
  refine k_si (as := [.int x1, .int 127]) (rest := []) (c_X8_isUpTo C.i e1) M_X8_isUpTo u2_105 C hP hS rfl (by decide) hl.1 rfl (Nat.le_of_ble_eq_true rfl) dX8_feed_3 (fun H locs hP hS => ?_)
  refine lv_if_ne (tgt := 12) C.x C.b dX8_feed_6 (by decide) (fun c3 => ?_) (fun c3 => ?_)
  · have h := (if_neg c3).symm.trans h
    refine lv_aload_n C.x C.b dX8_feed_12 rfl (lv_at hl 0 rfl) ?_
    refine g_ref (k' := 88) F_8_3 u2_82 C hP sh_0 rfl dX8_feed_13 ?_
    refine lv_iload_n C.x C.b dX8_feed_16 rfl (lv_at hl 1 rfl) ?_
    obtain ⟨r5, μ6, e4, h⟩ := bnd_some h
    refine k_vi (k := 88) (as := [.int x1]) (rest := []) (c_X5_add C.i e4) M_X5_add u2_168 C hP hS sh_88 rfl rfl (by decide) hl.1 rfl (Nat.le_of_ble_eq_true rfl) dX8_feed_17 (fun H locs hP hS => ?_)
    exact r_i h C hP hS dX8_feed_20
  · have h := (if_pos c3).symm.trans h
    refine lv_bipush (v := (-2)) C.x C.b dX8_feed_9 (by decide) ?_
    exact r_i h C hP hS dX8_feed_11

set_option maxRecDepth 100000 in
set_option maxHeartbeats 4000000 in
theorem c_X8_feed {l : Launch} {G : Gp} (hI : Wi G) {x1 : Int32} {μ : Mem} {r : Int32} {μ' : Mem} (h : f_X8_feed x1 μ = some (r, μ')) : CI l yX8_feed cX8_feed 2 (some .int) 1 21 G [.ref (G.2.2 0), .int x1] μ r μ' :=
  e_all (lv := [(0, .ref (G.2.2 0)), (1, .int x1)]) hI (by decide) (Nat.le_of_ble_eq_true rfl) rfl (fun p e s m args below meth c ls C hP hS hl => b_X8_feed C h _ _ _ hP hS hl)


def g_X8_read_29   (q29 : Int32 → Int32 → Mem → Option (Int32 × Mem)) (x2 : Int32) (x3 : Int32) (μ : Mem) : Option (Int32 × Mem) := if (μ.1 88 1) ≤ x3 then (some (x2, μ)) else (bnd (f_X5_perform x3 14 μ) (fun r3 μ4 => if r3 < 0 then (lt (x3 + 1) (fun y6 => q29 x2 y6 μ4)) else (lt (x2 + 1) (fun y7 => lt (x3 + 1) (fun y8 => q29 y7 y8 μ4)))))
def f_X8_read_29   : Nat → Int32 → Int32 → Mem → Option (Int32 × Mem)
  | 0, _, _, _ => none
  | n + 1, x2, x3, μ => g_X8_read_29  (f_X8_read_29  n) x2 x3 μ
set_option maxRecDepth 100000 in
set_option maxHeartbeats 4000000 in
theorem w_X8_read_29 {p : Program} {l : Launch} {e : Env} {s : State} {m : MethodId} {args : Array Value} {below : List Frame} {meth : Method} {c : Code} {G : Gp} {O : (Int32 × Mem)} (C : Cx p s m args meth c cX8_read 4 RX8 (some .int) G) {q29 : Int32 → Int32 → Mem → Option (Int32 × Mem)} (hq29 : ∀ (x2 : Int32) (x3 : Int32) (μ : Mem), q29 x2 x3 μ = some O → ∀ (H : Heap) (locs : List Loc) (ls : Array Slot), Wm G μ H → va_S (wA G) s.heap H locs → lv_has ls 4 [(0, .ref (G.2.2 0)), (2, .int x2), (3, .int x3)] → W p l e (rmm 5 106) s m args below meth c H locs 0 0 (QI below args s G O) (F0 m 29 ls [])) : ∀ (x2 : Int32) (x3 : Int32) (μ : Mem), g_X8_read_29 q29 x2 x3 μ = some O → ∀ (H : Heap) (locs : List Loc) (ls : Array Slot), Wm G μ H → va_S (wA G) s.heap H locs → lv_has ls 4 [(0, .ref (G.2.2 0)), (2, .int x2), (3, .int x3)] → W p l e (rmm 5 106) s m args below meth c H locs 0 0 (QI below args s G O) (F0 m 29 ls []) := by
  intro x2 x3 μ h H locs ls hP hS hl
  unfold g_X8_read_29 at h
  refine lv_iload_n C.x C.b dX8_read_29 rfl (lv_at hl 2 rfl) ?_
  refine lv_aload_n C.x C.b dX8_read_30 rfl (lv_at hl 0 rfl) ?_
  refine g_ref (k' := 88) F_8_3 u2_82 C hP sh_0 rfl dX8_read_31 ?_
  refine g_int F_5_1 u2_26 C hP sh_88 dX8_read_34 ?_
  refine lv_icmp_ge (tgt := 64) C.x C.b dX8_read_37 (by decide) (fun c1 => ?_) (fun c1 => ?_)
  · have h := (if_pos c1).symm.trans h
    refine lv_iload_n C.x C.b dX8_read_64 rfl (lv_at hl 1 rfl) ?_
    exact r_i h C hP hS dX8_read_65
  · have h := (if_neg c1).symm.trans h
    refine lv_aload_n C.x C.b dX8_read_40 rfl (lv_at hl 0 rfl) ?_
    refine g_ref (k' := 88) F_8_3 u2_82 C hP sh_0 rfl dX8_read_41 ?_
    refine lv_iload_n C.x C.b dX8_read_44 rfl (lv_at hl 2 rfl) ?_
    refine lv_aload_n C.x C.b dX8_read_45 rfl (lv_at hl 0 rfl) ?_
    refine g_ref (k' := 14) F_8_0 u2_79 C hP sh_0 rfl dX8_read_46 ?_
    obtain ⟨r3, μ4, e2, h⟩ := bnd_some h
    refine k_vi (k := 88) (as := [.int x3, .ref (G.2.2 14)]) (rest := []) (c_X5_perform C.i at_sState_14 e2) M_X5_perform u2_208 C hP hS sh_88 rfl rfl (by decide) hl.1 rfl (Nat.le_of_ble_eq_true rfl) dX8_read_49 (fun H locs hP hS => ?_)
    refine lv_if_lt (tgt := 58) C.x C.b dX8_read_52 (by decide) (fun c5 => ?_) (fun c5 => ?_)
    · have h := (if_pos c5).symm.trans h
      obtain ⟨y6, e_y6, h⟩ := lt_ex h
      refine lv_iinc (v := y6) (lv' := [(3, .int y6), (0, .ref (G.2.2 0)), (2, .int x2)]) C.x C.b dX8_read_58 hl (k := 2) rfl (by rw [e_y6]; rfl) (by decide) rfl (fun ls hl => ?_)
      refine lv_goto (tgt := 29) C.x C.b dX8_read_61 (by decide) ?_
      exact hq29 x2 y6 μ4 h _ _ _ hP hS (lv_sub hl [1, 2, 0] rfl)
    · have h := (if_neg c5).symm.trans h
      obtain ⟨y7, e_y7, h⟩ := lt_ex h
      refine lv_iinc (v := y7) (lv' := [(2, .int y7), (0, .ref (G.2.2 0)), (3, .int x3)]) C.x C.b dX8_read_55 hl (k := 1) rfl (by rw [e_y7]; rfl) (by decide) rfl (fun ls hl => ?_)
      obtain ⟨y8, e_y8, h⟩ := lt_ex h
      refine lv_iinc (v := y8) (lv' := [(3, .int y8), (2, .int y7), (0, .ref (G.2.2 0))]) C.x C.b dX8_read_58 hl (k := 2) rfl (by rw [e_y8]; rfl) (by decide) rfl (fun ls hl => ?_)
      refine lv_goto (tgt := 29) C.x C.b dX8_read_61 (by decide) ?_
      exact hq29 y7 y8 μ4 h _ _ _ hP hS (lv_sub hl [2, 1, 0] rfl)

set_option maxRecDepth 100000 in
set_option maxHeartbeats 4000000 in
theorem b_X8_read_29 {p : Program} {l : Launch} {e : Env} {s : State} {m : MethodId} {args : Array Value} {below : List Frame} {meth : Method} {c : Code} {G : Gp} {O : (Int32 × Mem)} (C : Cx p s m args meth c cX8_read 4 RX8 (some .int) G) : ∀ (n : Nat) (x2 : Int32) (x3 : Int32) (μ : Mem), f_X8_read_29 n x2 x3 μ = some O → ∀ (H : Heap) (locs : List Loc) (ls : Array Slot), Wm G μ H → va_S (wA G) s.heap H locs → lv_has ls 4 [(0, .ref (G.2.2 0)), (2, .int x2), (3, .int x3)] → W p l e (rmm 5 106) s m args below meth c H locs 0 0 (QI below args s G O) (F0 m 29 ls []) := by
  intro n
  induction n with
  | zero => intro x2 x3 μ h; cases h
  | succ n ih => intro x2 x3 μ h; exact w_X8_read_29 C (q29 := f_X8_read_29 n) ih x2 x3 μ h

def f_X8_read  (μ : Mem) : Option (Int32 × Mem) := bnd (f_X5_findFault μ) (fun r2 μ3 => lt (st μ3 88 0 0) (fun μ4 => if r2 < 0 then (f_X8_read_29 FU 0 0 μ4) else (some (((-10)) - r2, μ4))))
set_option maxRecDepth 100000 in
set_option maxHeartbeats 4000000 in
theorem b_X8_read {p : Program} {l : Launch} {e : Env} {s : State} {m : MethodId} {args : Array Value} {below : List Frame} {meth : Method} {c : Code} {G : Gp} {O : (Int32 × Mem)} (C : Cx p s m args meth c cX8_read 4 RX8 (some .int) G) {μ : Mem} (h : f_X8_read μ = some O) : ∀ (H : Heap) (locs : List Loc) (ls : Array Slot), Wm G μ H → va_S (wA G) s.heap H locs → lv_has ls 4 [(0, .ref (G.2.2 0))] → W p l e (rmm 5 106) s m args below meth c H locs 0 0 (QI below args s G O) (F0 m 0 ls []) := by
  unfold f_X8_read at h
  intro H locs ls hP hS hl
  refine lv_aload_n C.x C.b dX8_read_0 rfl (lv_at hl 0 rfl) ?_
  refine g_ref (k' := 88) F_8_3 u2_82 C hP sh_0 rfl dX8_read_1 ?_
  obtain ⟨r2, μ3, e1, h⟩ := bnd_some h
  refine k_vi (k := 88) (as := []) (rest := []) (c_X5_findFault C.i e1) M_X5_findFault u2_176 C hP hS sh_88 rfl rfl (by decide) hl.1 rfl (Nat.le_of_ble_eq_true rfl) dX8_read_4 (fun H locs hP hS => ?_)
  refine lv_istore_n (lv' := [(1, .int r2), (0, .ref (G.2.2 0))]) C.x C.b dX8_read_7 rfl hl (by decide) rfl (fun ls hl => ?_)
  refine lv_aload_n C.x C.b dX8_read_8 rfl (lv_at hl 1 rfl) ?_
  refine g_ref (k' := 88) F_8_3 u2_82 C hP sh_0 rfl dX8_read_9 ?_
  refine lv_iconst (v := 0) C.x C.b dX8_read_12 (by decide) ?_
  refine p_int F_5_0 P_5_0 u2_24 C hP hS sh_88 dX8_read_13 (fun H locs hP hS => ?_)
  obtain ⟨μ4, m_μ4, h⟩ := lt_ex h
  have hP : Wm G μ4 H := by rw [m_μ4]; exact hP
  refine lv_iload_n C.x C.b dX8_read_16 rfl (lv_at hl 0 rfl) ?_
  refine lv_if_lt (tgt := 25) C.x C.b dX8_read_17 (by decide) (fun c5 => ?_) (fun c5 => ?_)
  · have h := (if_pos c5).symm.trans h
    refine lv_iconst (v := 0) C.x C.b dX8_read_25 (by decide) ?_
    refine lv_istore_n (lv' := [(2, .int 0), (1, .int r2), (0, .ref (G.2.2 0))]) C.x C.b dX8_read_26 rfl hl (by decide) rfl (fun ls hl => ?_)
    refine lv_iconst (v := 0) C.x C.b dX8_read_27 (by decide) ?_
    refine lv_istore_n (lv' := [(3, .int 0), (2, .int 0), (1, .int r2), (0, .ref (G.2.2 0))]) C.x C.b dX8_read_28 rfl hl (by decide) rfl (fun ls hl => ?_)
    exact b_X8_read_29 C FU 0 0 μ4 h _ _ _ hP hS (lv_sub hl [3, 1, 0] rfl)
  · have h := (if_neg c5).symm.trans h
    refine lv_bipush (v := (-10)) C.x C.b dX8_read_20 (by decide) ?_
    refine lv_iload_n C.x C.b dX8_read_22 rfl (lv_at hl 0 rfl) ?_
    refine lv_isub C.x C.b dX8_read_23 ?_
    exact r_i h C hP hS dX8_read_24

set_option maxRecDepth 100000 in
set_option maxHeartbeats 4000000 in
theorem c_X8_read {l : Launch} {G : Gp} (hI : Wi G) {μ : Mem} {r : Int32} {μ' : Mem} (h : f_X8_read μ = some (r, μ')) : CI l yX8_read cX8_read 4 (some .int) 5 106 G [.ref (G.2.2 0)] μ r μ' :=
  e_all (lv := [(0, .ref (G.2.2 0))]) hI (by decide) (Nat.le_of_ble_eq_true rfl) rfl (fun p e s m args below meth c ls C hP hS hl => b_X8_read C h _ _ _ hP hS hl)


def f_X8_start (x1 : Int32) (μ : Mem) : Option (Int32 × Mem) := bnv (f_X8_isUpTo x1 2 μ) (fun r2 => if r2 = 0 then (some ((-2), μ)) else (bnv (f_X0_hasBothSides 15 μ) (fun r5 => if r5 = 0 then (some ((-3), μ)) else (bnv (f_X3_startOn 22 15 x1 μ) (fun μ8 => bnv (f_X3_total 22 μ8) (fun r10 => some (r10, μ8)))))))
set_option maxRecDepth 100000 in
set_option maxHeartbeats 4000000 in
theorem b_X8_start {p : Program} {l : Launch} {e : Env} {s : State} {m : MethodId} {args : Array Value} {below : List Frame} {meth : Method} {c : Code} {G : Gp} {O : (Int32 × Mem)} (C : Cx p s m args meth c cX8_start 2 RX8 (some .int) G) {x1 : Int32} {μ : Mem} (h : f_X8_start x1 μ = some O) : ∀ (H : Heap) (locs : List Loc) (ls : Array Slot), Wm G μ H → va_S (wA G) s.heap H locs → lv_has ls 2 [(0, .ref (G.2.2 0)), (1, .int x1)] → W p l e (rmm 4 98) s m args below meth c H locs 0 0 (QI below args s G O) (F0 m 0 ls []) := by
  unfold f_X8_start at h
  intro H locs ls hP hS hl
  refine lv_iload_n C.x C.b dX8_start_0 rfl (lv_at hl 1 rfl) ?_
  refine lv_iconst (v := 2) C.x C.b dX8_start_1 (by decide) ?_
  obtain ⟨r2, e1, h⟩ := bnv_some h
  refine k_si (as := [.int x1, .int 2]) (rest := []) (c_X8_isUpTo C.i e1) M_X8_isUpTo u2_105 C hP hS rfl (by decide) hl.1 rfl (Nat.le_of_ble_eq_true rfl) dX8_start_2 (fun H locs hP hS => ?_)
  refine lv_if_ne (tgt := 11) C.x C.b dX8_start_5 (by decide) (fun c3 => ?_) (fun c3 => ?_)
  · have h := (if_neg c3).symm.trans h
    refine lv_aload_n C.x C.b dX8_start_11 rfl (lv_at hl 0 rfl) ?_
    refine g_ref (k' := 14) F_8_0 u2_79 C hP sh_0 rfl dX8_start_12 ?_
    refine g_ref (k' := 15) F_6_0 u1_237 C hP sh_14 rfl dX8_start_15 ?_
    obtain ⟨r5, e4, h⟩ := bnv_some h
    refine k_vi (k := 15) (as := []) (rest := []) (c_X0_hasBothSides C.i at_sGround_15 e4) M_X0_hasBothSides u2_218 C hP hS sh_15 rfl rfl (by decide) hl.1 rfl (Nat.le_of_ble_eq_true rfl) dX8_start_18 (fun H locs hP hS => ?_)
    refine lv_if_ne (tgt := 27) C.x C.b dX8_start_21 (by decide) (fun c6 => ?_) (fun c6 => ?_)
    · have h := (if_neg c6).symm.trans h
      refine lv_aload_n C.x C.b dX8_start_27 rfl (lv_at hl 0 rfl) ?_
      refine g_ref (k' := 14) F_8_0 u2_79 C hP sh_0 rfl dX8_start_28 ?_
      refine g_ref (k' := 22) F_6_1 u1_239 C hP sh_14 rfl dX8_start_31 ?_
      refine lv_aload_n C.x C.b dX8_start_34 rfl (lv_at hl 0 rfl) ?_
      refine g_ref (k' := 14) F_8_0 u2_79 C hP sh_0 rfl dX8_start_35 ?_
      refine g_ref (k' := 15) F_6_0 u1_237 C hP sh_14 rfl dX8_start_38 ?_
      refine lv_iload_n C.x C.b dX8_start_41 rfl (lv_at hl 1 rfl) ?_
      obtain ⟨μ8, e7, h⟩ := bnv_some h
      refine k_vv (k := 22) (as := [.ref (G.2.2 15), .int x1]) (rest := []) (c_X3_startOn C.i at_sPlan_22 at_sGround_15 e7) M_X3_startOn u2_222 C hP hS sh_22 rfl rfl (by decide) hl.1 rfl (Nat.le_of_ble_eq_true rfl) dX8_start_42 (fun H locs hP hS => ?_)
      refine lv_aload_n C.x C.b dX8_start_45 rfl (lv_at hl 0 rfl) ?_
      refine g_ref (k' := 14) F_8_0 u2_79 C hP sh_0 rfl dX8_start_46 ?_
      refine g_ref (k' := 22) F_6_1 u1_239 C hP sh_14 rfl dX8_start_49 ?_
      obtain ⟨r10, e9, h⟩ := bnv_some h
      refine k_vi (k := 22) (as := []) (rest := []) (c_X3_total C.i at_sPlan_22 e9) M_X3_total u3_56 C hP hS sh_22 rfl rfl (by decide) hl.1 rfl (Nat.le_of_ble_eq_true rfl) dX8_start_52 (fun H locs hP hS => ?_)
      exact r_i h C hP hS dX8_start_55
    · have h := (if_pos c6).symm.trans h
      refine lv_bipush (v := (-3)) C.x C.b dX8_start_24 (by decide) ?_
      exact r_i h C hP hS dX8_start_26
  · have h := (if_pos c3).symm.trans h
    refine lv_bipush (v := (-2)) C.x C.b dX8_start_8 (by decide) ?_
    exact r_i h C hP hS dX8_start_10

set_option maxRecDepth 100000 in
set_option maxHeartbeats 4000000 in
theorem c_X8_start {l : Launch} {G : Gp} (hI : Wi G) {x1 : Int32} {μ : Mem} {r : Int32} {μ' : Mem} (h : f_X8_start x1 μ = some (r, μ')) : CI l yX8_start cX8_start 2 (some .int) 4 98 G [.ref (G.2.2 0), .int x1] μ r μ' :=
  e_all (lv := [(0, .ref (G.2.2 0)), (1, .int x1)]) hI (by decide) (Nat.le_of_ble_eq_true rfl) rfl (fun p e s m args below meth c ls C hP hS hl => b_X8_start C h _ _ _ hP hS hl)


def f_X8_step (x1 : Int32) (x2 : Int32) (μ : Mem) : Option (Int32 × Mem) := bnv (f_X8_isUpTo x1 2 μ) (fun r2 => if r2 = 0 then (some ((-2), μ)) else (bnv (f_X8_isUpTo x2 100 μ) (fun r5 => if r5 = 0 then (some ((-2), μ)) else (if (μ.1 22 0) = 0 then (some ((-3), μ)) else (bnd (f_X3_stepOften 22 x1 x2 μ) (fun r9 μ10 => some (r9, μ10)))))))
set_option maxRecDepth 100000 in
set_option maxHeartbeats 4000000 in
theorem b_X8_step {p : Program} {l : Launch} {e : Env} {s : State} {m : MethodId} {args : Array Value} {below : List Frame} {meth : Method} {c : Code} {G : Gp} {O : (Int32 × Mem)} (C : Cx p s m args meth c cX8_step 3 RX8 (some .int) G) {x1 : Int32} {x2 : Int32} {μ : Mem} (h : f_X8_step x1 x2 μ = some O) : ∀ (H : Heap) (locs : List Loc) (ls : Array Slot), Wm G μ H → va_S (wA G) s.heap H locs → lv_has ls 3 [(0, .ref (G.2.2 0)), (1, .int x1), (2, .int x2)] → W p l e (rmm 4 104) s m args below meth c H locs 0 0 (QI below args s G O) (F0 m 0 ls []) := by
  unfold f_X8_step at h
  intro H locs ls hP hS hl
  refine lv_iload_n C.x C.b dX8_step_0 rfl (lv_at hl 1 rfl) ?_
  refine lv_iconst (v := 2) C.x C.b dX8_step_1 (by decide) ?_
  obtain ⟨r2, e1, h⟩ := bnv_some h
  refine k_si (as := [.int x1, .int 2]) (rest := []) (c_X8_isUpTo C.i e1) M_X8_isUpTo u2_105 C hP hS rfl (by decide) hl.1 rfl (Nat.le_of_ble_eq_true rfl) dX8_step_2 (fun H locs hP hS => ?_)
  refine lv_if_eq (tgt := 17) C.x C.b dX8_step_5 (by decide) (fun c3 => ?_) (fun c3 => ?_)
  · have h := (if_pos c3).symm.trans h
    refine lv_bipush (v := (-2)) C.x C.b dX8_step_17 (by decide) ?_
    exact r_i h C hP hS dX8_step_19
  · have h := (if_neg c3).symm.trans h
    refine lv_iload_n C.x C.b dX8_step_8 rfl (lv_at hl 2 rfl) ?_
    refine lv_bipush (v := 100) C.x C.b dX8_step_9 (by decide) ?_
    obtain ⟨r5, e4, h⟩ := bnv_some h
    refine k_si (as := [.int x2, .int 100]) (rest := []) (c_X8_isUpTo C.i e4) M_X8_isUpTo u2_105 C hP hS rfl (by decide) hl.1 rfl (Nat.le_of_ble_eq_true rfl) dX8_step_11 (fun H locs hP hS => ?_)
    refine lv_if_ne (tgt := 20) C.x C.b dX8_step_14 (by decide) (fun c6 => ?_) (fun c6 => ?_)
    · have h := (if_neg c6).symm.trans h
      refine lv_aload_n C.x C.b dX8_step_20 rfl (lv_at hl 0 rfl) ?_
      refine g_ref (k' := 14) F_8_0 u2_79 C hP sh_0 rfl dX8_step_21 ?_
      refine g_ref (k' := 22) F_6_1 u1_239 C hP sh_14 rfl dX8_step_24 ?_
      refine g_int F_3_0 u1_150 C hP sh_22 dX8_step_27 ?_
      refine lv_if_ne (tgt := 36) C.x C.b dX8_step_30 (by decide) (fun c7 => ?_) (fun c7 => ?_)
      · have h := (if_neg c7).symm.trans h
        refine lv_aload_n C.x C.b dX8_step_36 rfl (lv_at hl 0 rfl) ?_
        refine g_ref (k' := 14) F_8_0 u2_79 C hP sh_0 rfl dX8_step_37 ?_
        refine g_ref (k' := 22) F_6_1 u1_239 C hP sh_14 rfl dX8_step_40 ?_
        refine lv_iload_n C.x C.b dX8_step_43 rfl (lv_at hl 1 rfl) ?_
        refine lv_iload_n C.x C.b dX8_step_44 rfl (lv_at hl 2 rfl) ?_
        obtain ⟨r9, μ10, e8, h⟩ := bnd_some h
        refine k_vi (k := 22) (as := [.int x1, .int x2]) (rest := []) (c_X3_stepOften C.i at_sPlan_22 e8) M_X3_stepOften u3_64 C hP hS sh_22 rfl rfl (by decide) hl.1 rfl (Nat.le_of_ble_eq_true rfl) dX8_step_45 (fun H locs hP hS => ?_)
        exact r_i h C hP hS dX8_step_48
      · have h := (if_pos c7).symm.trans h
        refine lv_bipush (v := (-3)) C.x C.b dX8_step_33 (by decide) ?_
        exact r_i h C hP hS dX8_step_35
    · have h := (if_pos c6).symm.trans h
      refine lv_bipush (v := (-2)) C.x C.b dX8_step_17 (by decide) ?_
      exact r_i h C hP hS dX8_step_19

set_option maxRecDepth 100000 in
set_option maxHeartbeats 4000000 in
theorem c_X8_step {l : Launch} {G : Gp} (hI : Wi G) {x1 : Int32} {x2 : Int32} {μ : Mem} {r : Int32} {μ' : Mem} (h : f_X8_step x1 x2 μ = some (r, μ')) : CI l yX8_step cX8_step 3 (some .int) 4 104 G [.ref (G.2.2 0), .int x1, .int x2] μ r μ' :=
  e_all (lv := [(0, .ref (G.2.2 0)), (1, .int x1), (2, .int x2)]) hI (by decide) (Nat.le_of_ble_eq_true rfl) rfl (fun p e s m args below meth c ls C hP hS hl => b_X8_step C h _ _ _ hP hS hl)


def f_X8_load (x1 : Int32) (x2 : Int32) (μ : Mem) : Option Int32 := if (μ.1 22 0) = 0 then (some ((-3))) else (bnv (f_X3_isCell 22 x1 x2 μ) (fun r3 => if r3 = 0 then (some ((-1))) else (bnv (f_X8_cellAt x1 x2 μ) (fun r6 => grd (inb r6 36) (some (μ.1 24 r6.toNatClampNeg))))))
set_option maxRecDepth 100000 in
set_option maxHeartbeats 4000000 in
theorem b_X8_load {p : Program} {l : Launch} {e : Env} {s : State} {m : MethodId} {args : Array Value} {below : List Frame} {meth : Method} {c : Code} {G : Gp} {O : Int32} (C : Cx p s m args meth c cX8_load 3 RX8 (some .int) G) {x1 : Int32} {x2 : Int32} {μ : Mem} (h : f_X8_load x1 x2 μ = some O) : ∀ (H : Heap) (locs : List Loc) (ls : Array Slot), Wm G μ H → va_S (wA G) s.heap H locs → lv_has ls 3 [(0, .ref (G.2.2 0)), (1, .int x1), (2, .int x2)] → W p l e (rmm 1 22) s m args below meth c H locs 0 0 (QI below args s G (O, μ)) (F0 m 0 ls []) := by
  unfold f_X8_load at h
  intro H locs ls hP hS hl
  refine lv_aload_n C.x C.b dX8_load_0 rfl (lv_at hl 0 rfl) ?_
  refine g_ref (k' := 14) F_8_0 u2_79 C hP sh_0 rfl dX8_load_1 ?_
  refine g_ref (k' := 22) F_6_1 u1_239 C hP sh_14 rfl dX8_load_4 ?_
  refine g_int F_3_0 u1_150 C hP sh_22 dX8_load_7 ?_
  refine lv_if_ne (tgt := 16) C.x C.b dX8_load_10 (by decide) (fun c1 => ?_) (fun c1 => ?_)
  · have h := (if_neg c1).symm.trans h
    refine lv_aload_n C.x C.b dX8_load_16 rfl (lv_at hl 0 rfl) ?_
    refine g_ref (k' := 14) F_8_0 u2_79 C hP sh_0 rfl dX8_load_17 ?_
    refine g_ref (k' := 22) F_6_1 u1_239 C hP sh_14 rfl dX8_load_20 ?_
    refine lv_iload_n C.x C.b dX8_load_23 rfl (lv_at hl 1 rfl) ?_
    refine lv_iload_n C.x C.b dX8_load_24 rfl (lv_at hl 2 rfl) ?_
    obtain ⟨r3, e2, h⟩ := bnv_some h
    refine k_vi (k := 22) (as := [.int x1, .int x2]) (rest := []) (c_X3_isCell C.i at_sPlan_22 e2) M_X3_isCell u3_111 C hP hS sh_22 rfl rfl (by decide) hl.1 rfl (Nat.le_of_ble_eq_true rfl) dX8_load_25 (fun H locs hP hS => ?_)
    refine lv_if_ne (tgt := 33) C.x C.b dX8_load_28 (by decide) (fun c4 => ?_) (fun c4 => ?_)
    · have h := (if_neg c4).symm.trans h
      refine lv_aload_n C.x C.b dX8_load_33 rfl (lv_at hl 0 rfl) ?_
      refine g_ref (k' := 14) F_8_0 u2_79 C hP sh_0 rfl dX8_load_34 ?_
      refine g_ref (k' := 22) F_6_1 u1_239 C hP sh_14 rfl dX8_load_37 ?_
      refine g_ref (k' := 24) F_3_5 u1_160 C hP sh_22 rfl dX8_load_40 ?_
      refine lv_iload_n C.x C.b dX8_load_43 rfl (lv_at hl 1 rfl) ?_
      refine lv_iload_n C.x C.b dX8_load_44 rfl (lv_at hl 2 rfl) ?_
      obtain ⟨r6, e5, h⟩ := bnv_some h
      refine k_si (as := [.int x1, .int x2]) (rest := [.ref (G.2.2 24)]) (c_X8_cellAt C.i e5) M_X8_cellAt u3_115 C hP hS rfl (by decide) hl.1 rfl (Nat.le_of_ble_eq_true rfl) dX8_load_45 (fun H locs hP hS => ?_)
      obtain ⟨g7, h⟩ := grd_some h
      refine a_i C hP sh_24 g7 dX8_load_48 ?_
      exact r_i (pr_some h) C hP hS dX8_load_49
    · have h := (if_pos c4).symm.trans h
      refine lv_iconst (v := (-1)) C.x C.b dX8_load_31 (by decide) ?_
      exact r_i (pr_some h) C hP hS dX8_load_32
  · have h := (if_pos c1).symm.trans h
    refine lv_bipush (v := (-3)) C.x C.b dX8_load_13 (by decide) ?_
    exact r_i (pr_some h) C hP hS dX8_load_15

set_option maxRecDepth 100000 in
set_option maxHeartbeats 4000000 in
theorem c_X8_load {l : Launch} {G : Gp} (hI : Wi G) {x1 : Int32} {x2 : Int32} {μ : Mem} {r : Int32} (h : f_X8_load x1 x2 μ = some r) : CI l yX8_load cX8_load 3 (some .int) 1 22 G [.ref (G.2.2 0), .int x1, .int x2] μ r μ :=
  e_all (lv := [(0, .ref (G.2.2 0)), (1, .int x1), (2, .int x2)]) hI (by decide) (Nat.le_of_ble_eq_true rfl) rfl (fun p e s m args below meth c ls C hP hS hl => b_X8_load C h _ _ _ hP hS hl)


def f_X8_basic (x1 : Int32) (x2 : Int32) (μ : Mem) : Option Int32 := if (μ.1 22 0) = 0 then (some ((-3))) else (bnv (f_X3_isCell 22 x1 x2 μ) (fun r3 => if r3 = 0 then (some ((-1))) else (bnv (f_X8_cellAt x1 x2 μ) (fun r6 => grd (inb r6 36) (if (μ.1 25 r6.toNatClampNeg) = 0 then (some 0) else (some 1))))))
set_option maxRecDepth 100000 in
set_option maxHeartbeats 4000000 in
theorem b_X8_basic {p : Program} {l : Launch} {e : Env} {s : State} {m : MethodId} {args : Array Value} {below : List Frame} {meth : Method} {c : Code} {G : Gp} {O : Int32} (C : Cx p s m args meth c cX8_basic 3 RX8 (some .int) G) {x1 : Int32} {x2 : Int32} {μ : Mem} (h : f_X8_basic x1 x2 μ = some O) : ∀ (H : Heap) (locs : List Loc) (ls : Array Slot), Wm G μ H → va_S (wA G) s.heap H locs → lv_has ls 3 [(0, .ref (G.2.2 0)), (1, .int x1), (2, .int x2)] → W p l e (rmm 1 22) s m args below meth c H locs 0 0 (QI below args s G (O, μ)) (F0 m 0 ls []) := by
  unfold f_X8_basic at h
  intro H locs ls hP hS hl
  refine lv_aload_n C.x C.b dX8_basic_0 rfl (lv_at hl 0 rfl) ?_
  refine g_ref (k' := 14) F_8_0 u2_79 C hP sh_0 rfl dX8_basic_1 ?_
  refine g_ref (k' := 22) F_6_1 u1_239 C hP sh_14 rfl dX8_basic_4 ?_
  refine g_int F_3_0 u1_150 C hP sh_22 dX8_basic_7 ?_
  refine lv_if_ne (tgt := 16) C.x C.b dX8_basic_10 (by decide) (fun c1 => ?_) (fun c1 => ?_)
  · have h := (if_neg c1).symm.trans h
    refine lv_aload_n C.x C.b dX8_basic_16 rfl (lv_at hl 0 rfl) ?_
    refine g_ref (k' := 14) F_8_0 u2_79 C hP sh_0 rfl dX8_basic_17 ?_
    refine g_ref (k' := 22) F_6_1 u1_239 C hP sh_14 rfl dX8_basic_20 ?_
    refine lv_iload_n C.x C.b dX8_basic_23 rfl (lv_at hl 1 rfl) ?_
    refine lv_iload_n C.x C.b dX8_basic_24 rfl (lv_at hl 2 rfl) ?_
    obtain ⟨r3, e2, h⟩ := bnv_some h
    refine k_vi (k := 22) (as := [.int x1, .int x2]) (rest := []) (c_X3_isCell C.i at_sPlan_22 e2) M_X3_isCell u3_111 C hP hS sh_22 rfl rfl (by decide) hl.1 rfl (Nat.le_of_ble_eq_true rfl) dX8_basic_25 (fun H locs hP hS => ?_)
    refine lv_if_ne (tgt := 33) C.x C.b dX8_basic_28 (by decide) (fun c4 => ?_) (fun c4 => ?_)
    · have h := (if_neg c4).symm.trans h
      refine lv_aload_n C.x C.b dX8_basic_33 rfl (lv_at hl 0 rfl) ?_
      refine g_ref (k' := 14) F_8_0 u2_79 C hP sh_0 rfl dX8_basic_34 ?_
      refine g_ref (k' := 22) F_6_1 u1_239 C hP sh_14 rfl dX8_basic_37 ?_
      refine g_ref (k' := 25) F_3_6 u1_162 C hP sh_22 rfl dX8_basic_40 ?_
      refine lv_iload_n C.x C.b dX8_basic_43 rfl (lv_at hl 1 rfl) ?_
      refine lv_iload_n C.x C.b dX8_basic_44 rfl (lv_at hl 2 rfl) ?_
      obtain ⟨r6, e5, h⟩ := bnv_some h
      refine k_si (as := [.int x1, .int x2]) (rest := [.ref (G.2.2 25)]) (c_X8_cellAt C.i e5) M_X8_cellAt u3_115 C hP hS rfl (by decide) hl.1 rfl (Nat.le_of_ble_eq_true rfl) dX8_basic_45 (fun H locs hP hS => ?_)
      obtain ⟨g7, h⟩ := grd_some h
      refine a_z C hP sh_25 g7 dX8_basic_48 ?_
      refine lv_if_eq (tgt := 56) C.x C.b dX8_basic_49 (by decide) (fun c8 => ?_) (fun c8 => ?_)
      · have h := (if_pos c8).symm.trans h
        refine lv_iconst (v := 0) C.x C.b dX8_basic_56 (by decide) ?_
        exact r_i (pr_some h) C hP hS dX8_basic_57
      · have h := (if_neg c8).symm.trans h
        refine lv_iconst (v := 1) C.x C.b dX8_basic_52 (by decide) ?_
        refine lv_goto (tgt := 57) C.x C.b dX8_basic_53 (by decide) ?_
        exact r_i (pr_some h) C hP hS dX8_basic_57
    · have h := (if_pos c4).symm.trans h
      refine lv_iconst (v := (-1)) C.x C.b dX8_basic_31 (by decide) ?_
      exact r_i (pr_some h) C hP hS dX8_basic_32
  · have h := (if_pos c1).symm.trans h
    refine lv_bipush (v := (-3)) C.x C.b dX8_basic_13 (by decide) ?_
    exact r_i (pr_some h) C hP hS dX8_basic_15

set_option maxRecDepth 100000 in
set_option maxHeartbeats 4000000 in
theorem c_X8_basic {l : Launch} {G : Gp} (hI : Wi G) {x1 : Int32} {x2 : Int32} {μ : Mem} {r : Int32} (h : f_X8_basic x1 x2 μ = some r) : CI l yX8_basic cX8_basic 3 (some .int) 1 22 G [.ref (G.2.2 0), .int x1, .int x2] μ r μ :=
  e_all (lv := [(0, .ref (G.2.2 0)), (1, .int x1), (2, .int x2)]) hI (by decide) (Nat.le_of_ble_eq_true rfl) rfl (fun p e s m args below meth c ls C hP hS hl => b_X8_basic C h _ _ _ hP hS hl)


def f_X8_worth_43 (x1 : Int32) (x2 : Int32)  (μ : Mem)  : Option Int64 := if x1 = 1 then (if (μ.1 22 2) ≤ x2 then (some ((-9223372036854775808))) else (grd (inb x2 6) (some (Int32.toInt64 (μ.1 27 x2.toNatClampNeg))))) else (some ((-9223372036854775808)))
set_option maxRecDepth 100000 in
set_option maxHeartbeats 4000000 in
theorem b_X8_worth_43 {p : Program} {l : Launch} {e : Env} {s : State} {m : MethodId} {args : Array Value} {below : List Frame} {meth : Method} {c : Code} {G : Gp} {O : Int64} (C : Cx p s m args meth c cX8_worth 4 RX8 (some .long) G) {x1 : Int32} {x2 : Int32} {μ : Mem} : f_X8_worth_43 x1 x2 μ = some O → ∀ (H : Heap) (locs : List Loc) (ls : Array Slot), Wm G μ H → va_S (wA G) s.heap H locs → lv_has ls 4 [(1, .int x1), (2, .int x2), (3, .ref (G.2.2 22))] → W p l e (rmm 0 0) s m args below meth c H locs 0 0 (QL below args s G (O, μ)) (F0 m 43 ls []) := by
  intro h H locs ls hP hS hl
  unfold f_X8_worth_43 at h
  refine lv_iload_n C.x C.b dX8_worth_43 rfl (lv_at hl 0 rfl) ?_
  refine lv_iconst (v := 1) C.x C.b dX8_worth_44 (by decide) ?_
  refine lv_icmp_ne (tgt := 64) C.x C.b dX8_worth_45 (by decide) (fun c1 => ?_) (fun c1 => ?_)
  · have h := (if_neg c1).symm.trans h
    refine lv_ldc2 (own := RX8) (v := (-9223372036854775808)) C.x C.b C.o (C.t _ u3_124) dX8_worth_64 ?_
    exact r_l (pr_some h) C hP hS dX8_worth_67
  · have h := (if_pos c1).symm.trans h
    refine lv_iload_n C.x C.b dX8_worth_48 rfl (lv_at hl 1 rfl) ?_
    refine lv_aload_n C.x C.b dX8_worth_49 rfl (lv_at hl 2 rfl) ?_
    refine g_int F_3_2 u1_154 C hP sh_22 dX8_worth_50 ?_
    refine lv_icmp_ge (tgt := 64) C.x C.b dX8_worth_53 (by decide) (fun c2 => ?_) (fun c2 => ?_)
    · have h := (if_pos c2).symm.trans h
      refine lv_ldc2 (own := RX8) (v := (-9223372036854775808)) C.x C.b C.o (C.t _ u3_124) dX8_worth_64 ?_
      exact r_l (pr_some h) C hP hS dX8_worth_67
    · have h := (if_neg c2).symm.trans h
      refine lv_aload_n C.x C.b dX8_worth_56 rfl (lv_at hl 2 rfl) ?_
      refine g_ref (k' := 27) F_3_8 u1_166 C hP sh_22 rfl dX8_worth_57 ?_
      refine lv_iload_n C.x C.b dX8_worth_60 rfl (lv_at hl 1 rfl) ?_
      obtain ⟨g3, h⟩ := grd_some h
      refine a_i C hP sh_27 g3 dX8_worth_61 ?_
      refine lv_i2l (v := Int32.toInt64 (μ.1 27 x2.toNatClampNeg)) C.x C.b dX8_worth_62 rfl ?_
      exact r_l (pr_some h) C hP hS dX8_worth_63

def f_X8_worth (x1 : Int32) (x2 : Int32) (μ : Mem) : Option Int64 := if (μ.1 22 0) = 0 then (some ((-9223372036854775808))) else (if 0 ≤ x2 then (if x1 = 0 then (if (μ.1 22 1) ≤ x2 then (f_X8_worth_43 x1 x2 μ) else (grd (inb x2 6) (some (Int32.toInt64 (μ.1 26 x2.toNatClampNeg))))) else (f_X8_worth_43 x1 x2 μ)) else (some ((-9223372036854775808))))
set_option maxRecDepth 100000 in
set_option maxHeartbeats 4000000 in
theorem b_X8_worth {p : Program} {l : Launch} {e : Env} {s : State} {m : MethodId} {args : Array Value} {below : List Frame} {meth : Method} {c : Code} {G : Gp} {O : Int64} (C : Cx p s m args meth c cX8_worth 4 RX8 (some .long) G) {x1 : Int32} {x2 : Int32} {μ : Mem} (h : f_X8_worth x1 x2 μ = some O) : ∀ (H : Heap) (locs : List Loc) (ls : Array Slot), Wm G μ H → va_S (wA G) s.heap H locs → lv_has ls 4 [(0, .ref (G.2.2 0)), (1, .int x1), (2, .int x2)] → W p l e (rmm 0 0) s m args below meth c H locs 0 0 (QL below args s G (O, μ)) (F0 m 0 ls []) := by
  unfold f_X8_worth at h
  intro H locs ls hP hS hl
  refine lv_aload_n C.x C.b dX8_worth_0 rfl (lv_at hl 0 rfl) ?_
  refine g_ref (k' := 14) F_8_0 u2_79 C hP sh_0 rfl dX8_worth_1 ?_
  refine g_ref (k' := 22) F_6_1 u1_239 C hP sh_14 rfl dX8_worth_4 ?_
  refine lv_astore_n (lv' := [(3, .ref (G.2.2 22)), (0, .ref (G.2.2 0)), (1, .int x1), (2, .int x2)]) C.x C.b dX8_worth_7 rfl hl (by decide) rfl (fun ls hl => ?_)
  refine lv_aload_n C.x C.b dX8_worth_8 rfl (lv_at hl 0 rfl) ?_
  refine g_int F_3_0 u1_150 C hP sh_22 dX8_worth_9 ?_
  refine lv_if_eq (tgt := 19) C.x C.b dX8_worth_12 (by decide) (fun c1 => ?_) (fun c1 => ?_)
  · have h := (if_pos c1).symm.trans h
    refine lv_ldc2 (own := RX8) (v := (-9223372036854775808)) C.x C.b C.o (C.t _ u3_124) dX8_worth_19 ?_
    exact r_l (pr_some h) C hP hS dX8_worth_22
  · have h := (if_neg c1).symm.trans h
    refine lv_iload_n C.x C.b dX8_worth_15 rfl (lv_at hl 3 rfl) ?_
    refine lv_if_ge (tgt := 23) C.x C.b dX8_worth_16 (by decide) (fun c2 => ?_) (fun c2 => ?_)
    · have h := (if_pos c2).symm.trans h
      refine lv_iload_n C.x C.b dX8_worth_23 rfl (lv_at hl 2 rfl) ?_
      refine lv_if_ne (tgt := 43) C.x C.b dX8_worth_24 (by decide) (fun c3 => ?_) (fun c3 => ?_)
      · have h := (if_neg c3).symm.trans h
        exact b_X8_worth_43 C h _ _ _ hP hS (lv_sub hl [2, 3, 0] rfl)
      · have h := (if_pos c3).symm.trans h
        refine lv_iload_n C.x C.b dX8_worth_27 rfl (lv_at hl 3 rfl) ?_
        refine lv_aload_n C.x C.b dX8_worth_28 rfl (lv_at hl 0 rfl) ?_
        refine g_int F_3_1 u1_152 C hP sh_22 dX8_worth_29 ?_
        refine lv_icmp_ge (tgt := 43) C.x C.b dX8_worth_32 (by decide) (fun c4 => ?_) (fun c4 => ?_)
        · have h := (if_pos c4).symm.trans h
          exact b_X8_worth_43 C h _ _ _ hP hS (lv_sub hl [2, 3, 0] rfl)
        · have h := (if_neg c4).symm.trans h
          refine lv_aload_n C.x C.b dX8_worth_35 rfl (lv_at hl 0 rfl) ?_
          refine g_ref (k' := 26) F_3_7 u1_164 C hP sh_22 rfl dX8_worth_36 ?_
          refine lv_iload_n C.x C.b dX8_worth_39 rfl (lv_at hl 3 rfl) ?_
          obtain ⟨g5, h⟩ := grd_some h
          refine a_i C hP sh_26 g5 dX8_worth_40 ?_
          refine lv_i2l (v := Int32.toInt64 (μ.1 26 x2.toNatClampNeg)) C.x C.b dX8_worth_41 rfl ?_
          exact r_l (pr_some h) C hP hS dX8_worth_42
    · have h := (if_neg c2).symm.trans h
      refine lv_ldc2 (own := RX8) (v := (-9223372036854775808)) C.x C.b C.o (C.t _ u3_124) dX8_worth_19 ?_
      exact r_l (pr_some h) C hP hS dX8_worth_22

set_option maxRecDepth 100000 in
set_option maxHeartbeats 4000000 in
theorem c_X8_worth {l : Launch} {G : Gp} (hI : Wi G) {x1 : Int32} {x2 : Int32} {μ : Mem} {r : Int64} (h : f_X8_worth x1 x2 μ = some r) : CL l yX8_worth cX8_worth 4 (some .long) 0 0 G [.ref (G.2.2 0), .int x1, .int x2] μ r μ :=
  e_all (lv := [(0, .ref (G.2.2 0)), (1, .int x1), (2, .int x2)]) hI (by decide) (Nat.le_of_ble_eq_true rfl) rfl (fun p e s m args below meth c ls C hP hS hl => b_X8_worth C h _ _ _ hP hS hl)


def f_X8_surplus (x1 : Int32) (x2 : Int32) (μ : Mem) : Option Int64 := if (μ.1 22 0) = 0 then (some ((-9223372036854775808))) else (bnv (f_X3_isCell 22 x1 x2 μ) (fun r3 => if r3 = 0 then (some ((-9223372036854775808))) else (bnv (f_X3_surplusAt 22 x1 x2 μ) (fun r6 => some (Int32.toInt64 r6)))))
set_option maxRecDepth 100000 in
set_option maxHeartbeats 4000000 in
theorem b_X8_surplus {p : Program} {l : Launch} {e : Env} {s : State} {m : MethodId} {args : Array Value} {below : List Frame} {meth : Method} {c : Code} {G : Gp} {O : Int64} (C : Cx p s m args meth c cX8_surplus 3 RX8 (some .long) G) {x1 : Int32} {x2 : Int32} {μ : Mem} (h : f_X8_surplus x1 x2 μ = some O) : ∀ (H : Heap) (locs : List Loc) (ls : Array Slot), Wm G μ H → va_S (wA G) s.heap H locs → lv_has ls 3 [(0, .ref (G.2.2 0)), (1, .int x1), (2, .int x2)] → W p l e (rmm 2 43) s m args below meth c H locs 0 0 (QL below args s G (O, μ)) (F0 m 0 ls []) := by
  unfold f_X8_surplus at h
  intro H locs ls hP hS hl
  refine lv_aload_n C.x C.b dX8_surplus_0 rfl (lv_at hl 0 rfl) ?_
  refine g_ref (k' := 14) F_8_0 u2_79 C hP sh_0 rfl dX8_surplus_1 ?_
  refine g_ref (k' := 22) F_6_1 u1_239 C hP sh_14 rfl dX8_surplus_4 ?_
  refine g_int F_3_0 u1_150 C hP sh_22 dX8_surplus_7 ?_
  refine lv_if_eq (tgt := 28) C.x C.b dX8_surplus_10 (by decide) (fun c1 => ?_) (fun c1 => ?_)
  · have h := (if_pos c1).symm.trans h
    refine lv_ldc2 (own := RX8) (v := (-9223372036854775808)) C.x C.b C.o (C.t _ u3_124) dX8_surplus_28 ?_
    exact r_l (pr_some h) C hP hS dX8_surplus_31
  · have h := (if_neg c1).symm.trans h
    refine lv_aload_n C.x C.b dX8_surplus_13 rfl (lv_at hl 0 rfl) ?_
    refine g_ref (k' := 14) F_8_0 u2_79 C hP sh_0 rfl dX8_surplus_14 ?_
    refine g_ref (k' := 22) F_6_1 u1_239 C hP sh_14 rfl dX8_surplus_17 ?_
    refine lv_iload_n C.x C.b dX8_surplus_20 rfl (lv_at hl 1 rfl) ?_
    refine lv_iload_n C.x C.b dX8_surplus_21 rfl (lv_at hl 2 rfl) ?_
    obtain ⟨r3, e2, h⟩ := bnv_some h
    refine k_vi (k := 22) (as := [.int x1, .int x2]) (rest := []) (c_X3_isCell C.i at_sPlan_22 e2) M_X3_isCell u3_111 C hP hS sh_22 rfl rfl (by decide) hl.1 rfl (Nat.le_of_ble_eq_true rfl) dX8_surplus_22 (fun H locs hP hS => ?_)
    refine lv_if_ne (tgt := 32) C.x C.b dX8_surplus_25 (by decide) (fun c4 => ?_) (fun c4 => ?_)
    · have h := (if_neg c4).symm.trans h
      refine lv_aload_n C.x C.b dX8_surplus_32 rfl (lv_at hl 0 rfl) ?_
      refine g_ref (k' := 14) F_8_0 u2_79 C hP sh_0 rfl dX8_surplus_33 ?_
      refine g_ref (k' := 22) F_6_1 u1_239 C hP sh_14 rfl dX8_surplus_36 ?_
      refine lv_iload_n C.x C.b dX8_surplus_39 rfl (lv_at hl 1 rfl) ?_
      refine lv_iload_n C.x C.b dX8_surplus_40 rfl (lv_at hl 2 rfl) ?_
      obtain ⟨r6, e5, h⟩ := bnv_some h
      refine k_vi (k := 22) (as := [.int x1, .int x2]) (rest := []) (c_X3_surplusAt C.i at_sPlan_22 e5) M_X3_surplusAt u3_129 C hP hS sh_22 rfl rfl (by decide) hl.1 rfl (Nat.le_of_ble_eq_true rfl) dX8_surplus_41 (fun H locs hP hS => ?_)
      refine lv_i2l (v := Int32.toInt64 r6) C.x C.b dX8_surplus_44 rfl ?_
      exact r_l (pr_some h) C hP hS dX8_surplus_45
    · have h := (if_pos c4).symm.trans h
      refine lv_ldc2 (own := RX8) (v := (-9223372036854775808)) C.x C.b C.o (C.t _ u3_124) dX8_surplus_28 ?_
      exact r_l (pr_some h) C hP hS dX8_surplus_31

set_option maxRecDepth 100000 in
set_option maxHeartbeats 4000000 in
theorem c_X8_surplus {l : Launch} {G : Gp} (hI : Wi G) {x1 : Int32} {x2 : Int32} {μ : Mem} {r : Int64} (h : f_X8_surplus x1 x2 μ = some r) : CL l yX8_surplus cX8_surplus 3 (some .long) 2 43 G [.ref (G.2.2 0), .int x1, .int x2] μ r μ :=
  e_all (lv := [(0, .ref (G.2.2 0)), (1, .int x1), (2, .int x2)]) hI (by decide) (Nat.le_of_ble_eq_true rfl) rfl (fun p e s m args below meth c ls C hP hS hl => b_X8_surplus C h _ _ _ hP hS hl)


def f_X8_cellTold (x0 : Int32) (μ : Mem) : Option Int32 := some ((10 * (x0 / 6)) + (rm32 x0 6))
set_option maxRecDepth 100000 in
set_option maxHeartbeats 4000000 in
theorem b_X8_cellTold {p : Program} {l : Launch} {e : Env} {s : State} {m : MethodId} {args : Array Value} {below : List Frame} {meth : Method} {c : Code} {G : Gp} {O : Int32} (C : Cx p s m args meth c cX8_cellTold 1 RX8 (some .int) G) {x0 : Int32} {μ : Mem} (h : f_X8_cellTold x0 μ = some O) : ∀ (H : Heap) (locs : List Loc) (ls : Array Slot), Wm G μ H → va_S (wA G) s.heap H locs → lv_has ls 1 [(0, .int x0)] → W p l e (rmm 0 0) s m args below meth c H locs 0 0 (QI below args s G (O, μ)) (F0 m 0 ls []) := by
  unfold f_X8_cellTold at h
  intro H locs ls hP hS hl
  refine lv_bipush (v := 10) C.x C.b dX8_cellTold_0 (by decide) ?_
  refine lv_iload_n C.x C.b dX8_cellTold_2 rfl (lv_at hl 0 rfl) ?_
  refine lv_bipush (v := 6) C.x C.b dX8_cellTold_3 (by decide) ?_
  refine lv_idiv C.x C.b dX8_cellTold_5 (by decide) ?_
  refine lv_imul C.x C.b dX8_cellTold_6 ?_
  refine lv_iload_n C.x C.b dX8_cellTold_7 rfl (lv_at hl 0 rfl) ?_
  refine lv_bipush (v := 6) C.x C.b dX8_cellTold_8 (by decide) ?_
  refine lv_irem C.x C.b dX8_cellTold_10 (by decide) ?_
  refine lv_iadd C.x C.b dX8_cellTold_11 ?_
  exact r_i (pr_some h) C hP hS dX8_cellTold_12

set_option maxRecDepth 100000 in
set_option maxHeartbeats 4000000 in
theorem c_X8_cellTold {l : Launch} {G : Gp} (hI : Wi G) {x0 : Int32} {μ : Mem} {r : Int32} (h : f_X8_cellTold x0 μ = some r) : CI l yX8_cellTold cX8_cellTold 1 (some .int) 0 0 G [.int x0] μ r μ :=
  e_all (lv := [(0, .int x0)]) hI (by decide) (Nat.le_of_ble_eq_true rfl) rfl (fun p e s m args below meth c ls C hP hS hl => b_X8_cellTold C h _ _ _ hP hS hl)


def f_X8_loop (x1 : Int32) (x2 : Int32) (x3 : Int32) (μ : Mem) : Option (Int32 × Mem) := if (μ.1 22 0) = 0 then (some ((-3), μ)) else (bnv (f_X3_isCell 22 x1 x2 μ) (fun r3 => if r3 = 0 then (some ((-1), μ)) else (bnv (f_X8_cellAt x1 x2 μ) (fun r6 => grd (inb r6 36) (if (μ.1 25 r6.toNatClampNeg) = 0 then (bnv (f_X8_cellAt x1 x2 μ) (fun r10 => bnv (f_X1_follow 38 r10 25 36 μ) (fun μ12 => if x3 = ((-1)) then (some (μ12.1 38 0, μ12)) else (if x3 = ((-2)) then (bnv (f_X1_turnOf 38 24 36 μ12) (fun r21 => some (r21, μ12))) else (if x3 < 0 then (some ((-1), μ12)) else (if (μ12.1 38 0) ≤ x3 then (some ((-1), μ12)) else (grd (inb x3 12) (bnv (f_X8_cellTold (μ12.1 39 x3.toNatClampNeg) μ12) (fun r19 => some (r19, μ12)))))))))) else (some ((-2), μ)))))))
set_option maxRecDepth 100000 in
set_option maxHeartbeats 4000000 in
theorem b_X8_loop {p : Program} {l : Launch} {e : Env} {s : State} {m : MethodId} {args : Array Value} {below : List Frame} {meth : Method} {c : Code} {G : Gp} {O : (Int32 × Mem)} (C : Cx p s m args meth c cX8_loop 6 RX8 (some .int) G) {x1 : Int32} {x2 : Int32} {x3 : Int32} {μ : Mem} (h : f_X8_loop x1 x2 x3 μ = some O) : ∀ (H : Heap) (locs : List Loc) (ls : Array Slot), Wm G μ H → va_S (wA G) s.heap H locs → lv_has ls 6 [(0, .ref (G.2.2 0)), (1, .int x1), (2, .int x2), (3, .int x3)] → W p l e (rmm 2 54) s m args below meth c H locs 0 0 (QI below args s G O) (F0 m 0 ls []) := by
  unfold f_X8_loop at h
  intro H locs ls hP hS hl
  refine lv_aload_n C.x C.b dX8_loop_0 rfl (lv_at hl 0 rfl) ?_
  refine g_ref (k' := 14) F_8_0 u2_79 C hP sh_0 rfl dX8_loop_1 ?_
  refine g_ref (k' := 22) F_6_1 u1_239 C hP sh_14 rfl dX8_loop_4 ?_
  refine lv_astore (lv' := [(4, .ref (G.2.2 22)), (0, .ref (G.2.2 0)), (1, .int x1), (2, .int x2), (3, .int x3)]) C.x C.b dX8_loop_7 hl (by decide) rfl (fun ls hl => ?_)
  refine lv_aload C.x C.b dX8_loop_9 (lv_at hl 0 rfl) ?_
  refine g_int F_3_0 u1_150 C hP sh_22 dX8_loop_11 ?_
  refine lv_if_ne (tgt := 20) C.x C.b dX8_loop_14 (by decide) (fun c1 => ?_) (fun c1 => ?_)
  · have h := (if_neg c1).symm.trans h
    refine lv_aload C.x C.b dX8_loop_20 (lv_at hl 0 rfl) ?_
    refine lv_iload_n C.x C.b dX8_loop_22 rfl (lv_at hl 2 rfl) ?_
    refine lv_iload_n C.x C.b dX8_loop_23 rfl (lv_at hl 3 rfl) ?_
    obtain ⟨r3, e2, h⟩ := bnv_some h
    refine k_vi (k := 22) (as := [.int x1, .int x2]) (rest := []) (c_X3_isCell C.i at_sPlan_22 e2) M_X3_isCell u3_111 C hP hS sh_22 rfl rfl (by decide) hl.1 rfl (Nat.le_of_ble_eq_true rfl) dX8_loop_24 (fun H locs hP hS => ?_)
    refine lv_if_ne (tgt := 32) C.x C.b dX8_loop_27 (by decide) (fun c4 => ?_) (fun c4 => ?_)
    · have h := (if_neg c4).symm.trans h
      refine lv_aload C.x C.b dX8_loop_32 (lv_at hl 0 rfl) ?_
      refine g_ref (k' := 25) F_3_6 u1_162 C hP sh_22 rfl dX8_loop_34 ?_
      refine lv_iload_n C.x C.b dX8_loop_37 rfl (lv_at hl 2 rfl) ?_
      refine lv_iload_n C.x C.b dX8_loop_38 rfl (lv_at hl 3 rfl) ?_
      obtain ⟨r6, e5, h⟩ := bnv_some h
      refine k_si (as := [.int x1, .int x2]) (rest := [.ref (G.2.2 25)]) (c_X8_cellAt C.i e5) M_X8_cellAt u3_115 C hP hS rfl (by decide) hl.1 rfl (Nat.le_of_ble_eq_true rfl) dX8_loop_39 (fun H locs hP hS => ?_)
      obtain ⟨g7, h⟩ := grd_some h
      refine a_z C hP sh_25 g7 dX8_loop_42 ?_
      refine lv_if_eq (tgt := 49) C.x C.b dX8_loop_43 (by decide) (fun c8 => ?_) (fun c8 => ?_)
      · have h := (if_pos c8).symm.trans h
        refine lv_aload C.x C.b dX8_loop_49 (lv_at hl 0 rfl) ?_
        refine g_ref (k' := 38) F_3_15 u1_177 C hP sh_22 rfl dX8_loop_51 ?_
        refine lv_astore (lv' := [(5, .ref (G.2.2 38)), (4, .ref (G.2.2 22)), (0, .ref (G.2.2 0)), (1, .int x1), (2, .int x2), (3, .int x3)]) C.x C.b dX8_loop_54 hl (by decide) rfl (fun ls hl => ?_)
        refine lv_aload C.x C.b dX8_loop_56 (lv_at hl 0 rfl) ?_
        refine lv_iload_n C.x C.b dX8_loop_58 rfl (lv_at hl 3 rfl) ?_
        refine lv_iload_n C.x C.b dX8_loop_59 rfl (lv_at hl 4 rfl) ?_
        obtain ⟨r10, e9, h⟩ := bnv_some h
        refine k_si (as := [.int x1, .int x2]) (rest := [.ref (G.2.2 38)]) (c_X8_cellAt C.i e9) M_X8_cellAt u3_115 C hP hS rfl (by decide) hl.1 rfl (Nat.le_of_ble_eq_true rfl) dX8_loop_60 (fun H locs hP hS => ?_)
        refine lv_aload C.x C.b dX8_loop_63 (lv_at hl 1 rfl) ?_
        refine g_ref (k' := 25) F_3_6 u1_162 C hP sh_22 rfl dX8_loop_65 ?_
        obtain ⟨μ12, e11, h⟩ := bnv_some h
        refine k_vv (k := 38) (as := [.int r10, .ref (G.2.2 25)]) (rest := []) (c_X1_follow C.i at_sLoop_38 sh_25 e11) M_X1_follow u3_134 C hP hS sh_38 rfl rfl (by decide) hl.1 rfl (Nat.le_of_ble_eq_true rfl) dX8_loop_68 (fun H locs hP hS => ?_)
        refine lv_iload_n C.x C.b dX8_loop_71 rfl (lv_at hl 5 rfl) ?_
        refine lv_iconst (v := (-1)) C.x C.b dX8_loop_72 (by decide) ?_
        refine lv_icmp_ne (tgt := 82) C.x C.b dX8_loop_73 (by decide) (fun c13 => ?_) (fun c13 => ?_)
        · have h := (if_neg c13).symm.trans h
          refine lv_iload_n C.x C.b dX8_loop_82 rfl (lv_at hl 5 rfl) ?_
          refine lv_bipush (v := (-2)) C.x C.b dX8_loop_83 (by decide) ?_
          refine lv_icmp_ne (tgt := 99) C.x C.b dX8_loop_85 (by decide) (fun c14 => ?_) (fun c14 => ?_)
          · have h := (if_neg c14).symm.trans h
            refine lv_iload_n C.x C.b dX8_loop_99 rfl (lv_at hl 5 rfl) ?_
            refine lv_if_lt (tgt := 125) C.x C.b dX8_loop_100 (by decide) (fun c15 => ?_) (fun c15 => ?_)
            · have h := (if_pos c15).symm.trans h
              refine lv_iconst (v := (-1)) C.x C.b dX8_loop_125 (by decide) ?_
              exact r_i h C hP hS dX8_loop_126
            · have h := (if_neg c15).symm.trans h
              refine lv_iload_n C.x C.b dX8_loop_103 rfl (lv_at hl 5 rfl) ?_
              refine lv_aload C.x C.b dX8_loop_104 (lv_at hl 0 rfl) ?_
              refine g_int F_1_0 u1_134 C hP sh_38 dX8_loop_106 ?_
              refine lv_icmp_ge (tgt := 125) C.x C.b dX8_loop_109 (by decide) (fun c16 => ?_) (fun c16 => ?_)
              · have h := (if_pos c16).symm.trans h
                refine lv_iconst (v := (-1)) C.x C.b dX8_loop_125 (by decide) ?_
                exact r_i h C hP hS dX8_loop_126
              · have h := (if_neg c16).symm.trans h
                refine lv_aload C.x C.b dX8_loop_112 (lv_at hl 0 rfl) ?_
                refine g_ref (k' := 39) F_1_1 u1_136 C hP sh_38 rfl dX8_loop_114 ?_
                refine lv_iload_n C.x C.b dX8_loop_117 rfl (lv_at hl 5 rfl) ?_
                obtain ⟨g17, h⟩ := grd_some h
                refine a_i C hP sh_39 g17 dX8_loop_118 ?_
                obtain ⟨r19, e18, h⟩ := bnv_some h
                refine k_si (as := [.int (μ12.1 39 x3.toNatClampNeg)]) (rest := []) (c_X8_cellTold C.i e18) M_X8_cellTold u3_136 C hP hS rfl (by decide) hl.1 rfl (Nat.le_of_ble_eq_true rfl) dX8_loop_119 (fun H locs hP hS => ?_)
                refine lv_goto (tgt := 126) C.x C.b dX8_loop_122 (by decide) ?_
                exact r_i h C hP hS dX8_loop_126
          · have h := (if_pos c14).symm.trans h
            refine lv_aload C.x C.b dX8_loop_88 (lv_at hl 0 rfl) ?_
            refine lv_aload C.x C.b dX8_loop_90 (lv_at hl 1 rfl) ?_
            refine g_ref (k' := 24) F_3_5 u1_160 C hP sh_22 rfl dX8_loop_92 ?_
            obtain ⟨r21, e20, h⟩ := bnv_some h
            refine k_vi (k := 38) (as := [.ref (G.2.2 24)]) (rest := []) (c_X1_turnOf C.i at_sLoop_38 sh_24 e20) M_X1_turnOf u3_135 C hP hS sh_38 rfl rfl (by decide) hl.1 rfl (Nat.le_of_ble_eq_true rfl) dX8_loop_95 (fun H locs hP hS => ?_)
            exact r_i h C hP hS dX8_loop_98
        · have h := (if_pos c13).symm.trans h
          refine lv_aload C.x C.b dX8_loop_76 (lv_at hl 0 rfl) ?_
          refine g_int F_1_0 u1_134 C hP sh_38 dX8_loop_78 ?_
          exact r_i h C hP hS dX8_loop_81
      · have h := (if_neg c8).symm.trans h
        refine lv_bipush (v := (-2)) C.x C.b dX8_loop_46 (by decide) ?_
        exact r_i h C hP hS dX8_loop_48
    · have h := (if_pos c4).symm.trans h
      refine lv_iconst (v := (-1)) C.x C.b dX8_loop_30 (by decide) ?_
      exact r_i h C hP hS dX8_loop_31
  · have h := (if_pos c1).symm.trans h
    refine lv_bipush (v := (-3)) C.x C.b dX8_loop_17 (by decide) ?_
    exact r_i h C hP hS dX8_loop_19

set_option maxRecDepth 100000 in
set_option maxHeartbeats 4000000 in
theorem c_X8_loop {l : Launch} {G : Gp} (hI : Wi G) {x1 : Int32} {x2 : Int32} {x3 : Int32} {μ : Mem} {r : Int32} {μ' : Mem} (h : f_X8_loop x1 x2 x3 μ = some (r, μ')) : CI l yX8_loop cX8_loop 6 (some .int) 2 54 G [.ref (G.2.2 0), .int x1, .int x2, .int x3] μ r μ' :=
  e_all (lv := [(0, .ref (G.2.2 0)), (1, .int x1), (2, .int x2), (3, .int x3)]) hI (by decide) (Nat.le_of_ble_eq_true rfl) rfl (fun p e s m args below meth c ls C hP hS hl => b_X8_loop C h _ _ _ hP hS hl)


def f_X8_enters (x1 : Int32) (μ : Mem) : Option (Int32 × Mem) := bnv (f_X8_isUpTo x1 2 μ) (fun r2 => if r2 = 0 then (some ((-2), μ)) else (if (μ.1 22 0) = 0 then (some ((-3), μ)) else (bnd (f_X3_findEntering 22 x1 μ) (fun r6 μ7 => if r6 = ((-1)) then (some ((-5), μ7)) else (bnv (f_X8_cellTold r6 μ7) (fun r10 => some (r10, μ7)))))))
set_option maxRecDepth 100000 in
set_option maxHeartbeats 4000000 in
theorem b_X8_enters {p : Program} {l : Launch} {e : Env} {s : State} {m : MethodId} {args : Array Value} {below : List Frame} {meth : Method} {c : Code} {G : Gp} {O : (Int32 × Mem)} (C : Cx p s m args meth c cX8_enters 3 RX8 (some .int) G) {x1 : Int32} {μ : Mem} (h : f_X8_enters x1 μ = some O) : ∀ (H : Heap) (locs : List Loc) (ls : Array Slot), Wm G μ H → va_S (wA G) s.heap H locs → lv_has ls 3 [(0, .ref (G.2.2 0)), (1, .int x1)] → W p l e (rmm 3 80) s m args below meth c H locs 0 0 (QI below args s G O) (F0 m 0 ls []) := by
  unfold f_X8_enters at h
  intro H locs ls hP hS hl
  refine lv_iload_n C.x C.b dX8_enters_0 rfl (lv_at hl 1 rfl) ?_
  refine lv_iconst (v := 2) C.x C.b dX8_enters_1 (by decide) ?_
  obtain ⟨r2, e1, h⟩ := bnv_some h
  refine k_si (as := [.int x1, .int 2]) (rest := []) (c_X8_isUpTo C.i e1) M_X8_isUpTo u2_105 C hP hS rfl (by decide) hl.1 rfl (Nat.le_of_ble_eq_true rfl) dX8_enters_2 (fun H locs hP hS => ?_)
  refine lv_if_ne (tgt := 11) C.x C.b dX8_enters_5 (by decide) (fun c3 => ?_) (fun c3 => ?_)
  · have h := (if_neg c3).symm.trans h
    refine lv_aload_n C.x C.b dX8_enters_11 rfl (lv_at hl 0 rfl) ?_
    refine g_ref (k' := 14) F_8_0 u2_79 C hP sh_0 rfl dX8_enters_12 ?_
    refine g_ref (k' := 22) F_6_1 u1_239 C hP sh_14 rfl dX8_enters_15 ?_
    refine g_int F_3_0 u1_150 C hP sh_22 dX8_enters_18 ?_
    refine lv_if_ne (tgt := 27) C.x C.b dX8_enters_21 (by decide) (fun c4 => ?_) (fun c4 => ?_)
    · have h := (if_neg c4).symm.trans h
      refine lv_aload_n C.x C.b dX8_enters_27 rfl (lv_at hl 0 rfl) ?_
      refine g_ref (k' := 14) F_8_0 u2_79 C hP sh_0 rfl dX8_enters_28 ?_
      refine g_ref (k' := 22) F_6_1 u1_239 C hP sh_14 rfl dX8_enters_31 ?_
      refine lv_iload_n C.x C.b dX8_enters_34 rfl (lv_at hl 1 rfl) ?_
      obtain ⟨r6, μ7, e5, h⟩ := bnd_some h
      refine k_vi (k := 22) (as := [.int x1]) (rest := []) (c_X3_findEntering C.i at_sPlan_22 e5) M_X3_findEntering u3_143 C hP hS sh_22 rfl rfl (by decide) hl.1 rfl (Nat.le_of_ble_eq_true rfl) dX8_enters_35 (fun H locs hP hS => ?_)
      refine lv_istore_n (lv' := [(2, .int r6), (0, .ref (G.2.2 0)), (1, .int x1)]) C.x C.b dX8_enters_38 rfl hl (by decide) rfl (fun ls hl => ?_)
      refine lv_iload_n C.x C.b dX8_enters_39 rfl (lv_at hl 0 rfl) ?_
      refine lv_iconst (v := (-1)) C.x C.b dX8_enters_40 (by decide) ?_
      refine lv_icmp_ne (tgt := 49) C.x C.b dX8_enters_41 (by decide) (fun c8 => ?_) (fun c8 => ?_)
      · have h := (if_neg c8).symm.trans h
        refine lv_iload_n C.x C.b dX8_enters_49 rfl (lv_at hl 0 rfl) ?_
        obtain ⟨r10, e9, h⟩ := bnv_some h
        refine k_si (as := [.int r6]) (rest := []) (c_X8_cellTold C.i e9) M_X8_cellTold u3_136 C hP hS rfl (by decide) hl.1 rfl (Nat.le_of_ble_eq_true rfl) dX8_enters_50 (fun H locs hP hS => ?_)
        exact r_i h C hP hS dX8_enters_53
      · have h := (if_pos c8).symm.trans h
        refine lv_bipush (v := (-5)) C.x C.b dX8_enters_44 (by decide) ?_
        refine lv_goto (tgt := 53) C.x C.b dX8_enters_46 (by decide) ?_
        exact r_i h C hP hS dX8_enters_53
    · have h := (if_pos c4).symm.trans h
      refine lv_bipush (v := (-3)) C.x C.b dX8_enters_24 (by decide) ?_
      exact r_i h C hP hS dX8_enters_26
  · have h := (if_pos c3).symm.trans h
    refine lv_bipush (v := (-2)) C.x C.b dX8_enters_8 (by decide) ?_
    exact r_i h C hP hS dX8_enters_10

set_option maxRecDepth 100000 in
set_option maxHeartbeats 4000000 in
theorem c_X8_enters {l : Launch} {G : Gp} (hI : Wi G) {x1 : Int32} {μ : Mem} {r : Int32} {μ' : Mem} (h : f_X8_enters x1 μ = some (r, μ')) : CI l yX8_enters cX8_enters 3 (some .int) 3 80 G [.ref (G.2.2 0), .int x1] μ r μ' :=
  e_all (lv := [(0, .ref (G.2.2 0)), (1, .int x1)]) hI (by decide) (Nat.le_of_ble_eq_true rfl) rfl (fun p e s m args below meth c ls C hP hS hl => b_X8_enters C h _ _ _ hP hS hl)


def f_X8_told (x1 : Int32) (μ : Mem) : Option (Int32 × Mem) := if (μ.1 22 0) = 0 then (some ((-3), μ)) else (if x1 = 0 then (bnv (f_X3_total 22 μ) (fun r4 => some (r4, μ))) else (if x1 = 1 then (some (μ.1 22 3, μ)) else (if x1 = 2 then (bnd (f_X3_isProved 22 μ) (fun r8 μ9 => if r8 = 0 then (some (0, μ9)) else (some (1, μ9)))) else (if x1 = 3 then (bnv (f_X3_keptZeros 22 μ) (fun r13 => some (r13, μ))) else (if x1 = 4 then (bnv (f_X3_freeCells 22 0 μ) (fun r16 => some (r16, μ))) else (if x1 = 5 then (bnv (f_X3_freeCells 22 ((-1)) μ) (fun r19 => some (r19, μ))) else (if x1 = 6 then (some (μ.1 22 1, μ)) else (if x1 = 7 then (some (μ.1 22 2, μ)) else ((some ((-1), μ)))))))))))
set_option maxRecDepth 100000 in
set_option maxHeartbeats 4000000 in
theorem b_X8_told {p : Program} {l : Launch} {e : Env} {s : State} {m : MethodId} {args : Array Value} {below : List Frame} {meth : Method} {c : Code} {G : Gp} {O : (Int32 × Mem)} (C : Cx p s m args meth c cX8_told 3 RX8 (some .int) G) {x1 : Int32} {μ : Mem} (h : f_X8_told x1 μ = some O) : ∀ (H : Heap) (locs : List Loc) (ls : Array Slot), Wm G μ H → va_S (wA G) s.heap H locs → lv_has ls 3 [(0, .ref (G.2.2 0)), (1, .int x1)] → W p l e (rmm 4 100) s m args below meth c H locs 0 0 (QI below args s G O) (F0 m 0 ls []) := by
  unfold f_X8_told at h
  intro H locs ls hP hS hl
  refine lv_aload_n C.x C.b dX8_told_0 rfl (lv_at hl 0 rfl) ?_
  refine g_ref (k' := 14) F_8_0 u2_79 C hP sh_0 rfl dX8_told_1 ?_
  refine g_ref (k' := 22) F_6_1 u1_239 C hP sh_14 rfl dX8_told_4 ?_
  refine lv_astore_n (lv' := [(2, .ref (G.2.2 22)), (0, .ref (G.2.2 0)), (1, .int x1)]) C.x C.b dX8_told_7 rfl hl (by decide) rfl (fun ls hl => ?_)
  refine lv_aload_n C.x C.b dX8_told_8 rfl (lv_at hl 0 rfl) ?_
  refine g_int F_3_0 u1_150 C hP sh_22 dX8_told_9 ?_
  refine lv_if_ne (tgt := 18) C.x C.b dX8_told_12 (by decide) (fun c1 => ?_) (fun c1 => ?_)
  · have h := (if_neg c1).symm.trans h
    refine lv_iload_n C.x C.b dX8_told_18 rfl (lv_at hl 2 rfl) ?_
    by_cases c2 : x1 = 0
    · have h := (if_pos c2).symm.trans h
      refine lv_tableIn (off := 45) (tgt := 64) C.x C.b dX8_told_19 (by rw [c2]; decide) (by rw [c2]; decide) (by rw [c2]; rfl) (by decide) ?_
      refine lv_aload_n C.x C.b dX8_told_64 rfl (lv_at hl 0 rfl) ?_
      obtain ⟨r4, e3, h⟩ := bnv_some h
      refine k_vi (k := 22) (as := []) (rest := []) (c_X3_total C.i at_sPlan_22 e3) M_X3_total u3_56 C hP hS sh_22 rfl rfl (by decide) hl.1 rfl (Nat.le_of_ble_eq_true rfl) dX8_told_65 (fun H locs hP hS => ?_)
      exact r_i h C hP hS dX8_told_68
    · have h := (if_neg c2).symm.trans h
      by_cases c5 : x1 = 1
      · have h := (if_pos c5).symm.trans h
        refine lv_tableIn (off := 50) (tgt := 69) C.x C.b dX8_told_19 (by rw [c5]; decide) (by rw [c5]; decide) (by rw [c5]; rfl) (by decide) ?_
        refine lv_aload_n C.x C.b dX8_told_69 rfl (lv_at hl 0 rfl) ?_
        refine g_int F_3_3 u1_156 C hP sh_22 dX8_told_70 ?_
        exact r_i h C hP hS dX8_told_73
      · have h := (if_neg c5).symm.trans h
        by_cases c6 : x1 = 2
        · have h := (if_pos c6).symm.trans h
          refine lv_tableIn (off := 55) (tgt := 74) C.x C.b dX8_told_19 (by rw [c6]; decide) (by rw [c6]; decide) (by rw [c6]; rfl) (by decide) ?_
          refine lv_aload_n C.x C.b dX8_told_74 rfl (lv_at hl 0 rfl) ?_
          obtain ⟨r8, μ9, e7, h⟩ := bnd_some h
          refine k_vi (k := 22) (as := []) (rest := []) (c_X3_isProved C.i at_sPlan_22 e7) M_X3_isProved u3_148 C hP hS sh_22 rfl rfl (by decide) hl.1 rfl (Nat.le_of_ble_eq_true rfl) dX8_told_75 (fun H locs hP hS => ?_)
          refine lv_if_eq (tgt := 85) C.x C.b dX8_told_78 (by decide) (fun c10 => ?_) (fun c10 => ?_)
          · have h := (if_pos c10).symm.trans h
            refine lv_iconst (v := 0) C.x C.b dX8_told_85 (by decide) ?_
            exact r_i h C hP hS dX8_told_86
          · have h := (if_neg c10).symm.trans h
            refine lv_iconst (v := 1) C.x C.b dX8_told_81 (by decide) ?_
            refine lv_goto (tgt := 86) C.x C.b dX8_told_82 (by decide) ?_
            exact r_i h C hP hS dX8_told_86
        · have h := (if_neg c6).symm.trans h
          by_cases c11 : x1 = 3
          · have h := (if_pos c11).symm.trans h
            refine lv_tableIn (off := 68) (tgt := 87) C.x C.b dX8_told_19 (by rw [c11]; decide) (by rw [c11]; decide) (by rw [c11]; rfl) (by decide) ?_
            refine lv_aload_n C.x C.b dX8_told_87 rfl (lv_at hl 0 rfl) ?_
            obtain ⟨r13, e12, h⟩ := bnv_some h
            refine k_vi (k := 22) (as := []) (rest := []) (c_X3_keptZeros C.i at_sPlan_22 e12) M_X3_keptZeros u3_152 C hP hS sh_22 rfl rfl (by decide) hl.1 rfl (Nat.le_of_ble_eq_true rfl) dX8_told_88 (fun H locs hP hS => ?_)
            exact r_i h C hP hS dX8_told_91
          · have h := (if_neg c11).symm.trans h
            by_cases c14 : x1 = 4
            · have h := (if_pos c14).symm.trans h
              refine lv_tableIn (off := 73) (tgt := 92) C.x C.b dX8_told_19 (by rw [c14]; decide) (by rw [c14]; decide) (by rw [c14]; rfl) (by decide) ?_
              refine lv_aload_n C.x C.b dX8_told_92 rfl (lv_at hl 0 rfl) ?_
              refine lv_iconst (v := 0) C.x C.b dX8_told_93 (by decide) ?_
              obtain ⟨r16, e15, h⟩ := bnv_some h
              refine k_vi (k := 22) (as := [.int 0]) (rest := []) (c_X3_freeCells C.i at_sPlan_22 e15) M_X3_freeCells u3_156 C hP hS sh_22 rfl rfl (by decide) hl.1 rfl (Nat.le_of_ble_eq_true rfl) dX8_told_94 (fun H locs hP hS => ?_)
              exact r_i h C hP hS dX8_told_97
            · have h := (if_neg c14).symm.trans h
              by_cases c17 : x1 = 5
              · have h := (if_pos c17).symm.trans h
                refine lv_tableIn (off := 79) (tgt := 98) C.x C.b dX8_told_19 (by rw [c17]; decide) (by rw [c17]; decide) (by rw [c17]; rfl) (by decide) ?_
                refine lv_aload_n C.x C.b dX8_told_98 rfl (lv_at hl 0 rfl) ?_
                refine lv_iconst (v := (-1)) C.x C.b dX8_told_99 (by decide) ?_
                obtain ⟨r19, e18, h⟩ := bnv_some h
                refine k_vi (k := 22) (as := [.int ((-1))]) (rest := []) (c_X3_freeCells C.i at_sPlan_22 e18) M_X3_freeCells u3_156 C hP hS sh_22 rfl rfl (by decide) hl.1 rfl (Nat.le_of_ble_eq_true rfl) dX8_told_100 (fun H locs hP hS => ?_)
                exact r_i h C hP hS dX8_told_103
              · have h := (if_neg c17).symm.trans h
                by_cases c20 : x1 = 6
                · have h := (if_pos c20).symm.trans h
                  refine lv_tableIn (off := 85) (tgt := 104) C.x C.b dX8_told_19 (by rw [c20]; decide) (by rw [c20]; decide) (by rw [c20]; rfl) (by decide) ?_
                  refine lv_aload_n C.x C.b dX8_told_104 rfl (lv_at hl 0 rfl) ?_
                  refine g_int F_3_1 u1_152 C hP sh_22 dX8_told_105 ?_
                  exact r_i h C hP hS dX8_told_108
                · have h := (if_neg c20).symm.trans h
                  by_cases c21 : x1 = 7
                  · have h := (if_pos c21).symm.trans h
                    refine lv_tableIn (off := 90) (tgt := 109) C.x C.b dX8_told_19 (by rw [c21]; decide) (by rw [c21]; decide) (by rw [c21]; rfl) (by decide) ?_
                    refine lv_aload_n C.x C.b dX8_told_109 rfl (lv_at hl 0 rfl) ?_
                    refine g_int F_3_2 u1_154 C hP sh_22 dX8_told_110 ?_
                    exact r_i h C hP hS dX8_told_113
                  · have h := (if_neg c21).symm.trans h
                    have t_c2 := lv_neT (a := 0) c2 (by decide)
                    have t_c5 := lv_neT (a := 1) c5 (by decide)
                    have t_c6 := lv_neT (a := 2) c6 (by decide)
                    have t_c11 := lv_neT (a := 3) c11 (by decide)
                    have t_c14 := lv_neT (a := 4) c14 (by decide)
                    have t_c17 := lv_neT (a := 5) c17 (by decide)
                    have t_c20 := lv_neT (a := 6) c20 (by decide)
                    have t_c21 := lv_neT (a := 7) c21 (by decide)
                    refine lv_tableOut (tgt := 114) C.x C.b dX8_told_19 (by omega) (by decide) ?_
                    refine lv_iconst (v := (-1)) C.x C.b dX8_told_114 (by decide) ?_
                    exact r_i h C hP hS dX8_told_115
  · have h := (if_pos c1).symm.trans h
    refine lv_bipush (v := (-3)) C.x C.b dX8_told_15 (by decide) ?_
    exact r_i h C hP hS dX8_told_17

set_option maxRecDepth 100000 in
set_option maxHeartbeats 4000000 in
theorem c_X8_told {l : Launch} {G : Gp} (hI : Wi G) {x1 : Int32} {μ : Mem} {r : Int32} {μ' : Mem} (h : f_X8_told x1 μ = some (r, μ')) : CI l yX8_told cX8_told 3 (some .int) 4 100 G [.ref (G.2.2 0), .int x1] μ r μ' :=
  e_all (lv := [(0, .ref (G.2.2 0)), (1, .int x1)]) hI (by decide) (Nat.le_of_ble_eq_true rfl) rfl (fun p e s m args below meth c ls C hP hS hl => b_X8_told C h _ _ _ hP hS hl)


def f_X8_trace (x1 : Int32) (x2 : Int32) (μ : Mem) : Option Int32 := if (μ.1 22 0) = 0 then (some ((-3))) else (if x1 < 0 then (some ((-1))) else (if x1 < (μ.1 22 3) then (if x2 = 0 then (grd (inb x1 100) (bnv (f_X8_cellTold (μ.1 28 x1.toNatClampNeg) μ) (fun r7 => some r7))) else (if x2 = 1 then (grd (inb x1 100) (bnv (f_X8_cellTold (μ.1 29 x1.toNatClampNeg) μ) (fun r11 => some r11))) else (if x2 = 2 then (grd (inb x1 100) (some (μ.1 30 x1.toNatClampNeg))) else ((some ((-1))))))) else (some ((-1)))))
set_option maxRecDepth 100000 in
set_option maxHeartbeats 4000000 in
theorem b_X8_trace {p : Program} {l : Launch} {e : Env} {s : State} {m : MethodId} {args : Array Value} {below : List Frame} {meth : Method} {c : Code} {G : Gp} {O : Int32} (C : Cx p s m args meth c cX8_trace 4 RX8 (some .int) G) {x1 : Int32} {x2 : Int32} {μ : Mem} (h : f_X8_trace x1 x2 μ = some O) : ∀ (H : Heap) (locs : List Loc) (ls : Array Slot), Wm G μ H → va_S (wA G) s.heap H locs → lv_has ls 4 [(0, .ref (G.2.2 0)), (1, .int x1), (2, .int x2)] → W p l e (rmm 1 20) s m args below meth c H locs 0 0 (QI below args s G (O, μ)) (F0 m 0 ls []) := by
  unfold f_X8_trace at h
  intro H locs ls hP hS hl
  refine lv_aload_n C.x C.b dX8_trace_0 rfl (lv_at hl 0 rfl) ?_
  refine g_ref (k' := 14) F_8_0 u2_79 C hP sh_0 rfl dX8_trace_1 ?_
  refine g_ref (k' := 22) F_6_1 u1_239 C hP sh_14 rfl dX8_trace_4 ?_
  refine lv_astore_n (lv' := [(3, .ref (G.2.2 22)), (0, .ref (G.2.2 0)), (1, .int x1), (2, .int x2)]) C.x C.b dX8_trace_7 rfl hl (by decide) rfl (fun ls hl => ?_)
  refine lv_aload_n C.x C.b dX8_trace_8 rfl (lv_at hl 0 rfl) ?_
  refine g_int F_3_0 u1_150 C hP sh_22 dX8_trace_9 ?_
  refine lv_if_ne (tgt := 18) C.x C.b dX8_trace_12 (by decide) (fun c1 => ?_) (fun c1 => ?_)
  · have h := (if_neg c1).symm.trans h
    refine lv_iload_n C.x C.b dX8_trace_18 rfl (lv_at hl 2 rfl) ?_
    refine lv_if_lt (tgt := 30) C.x C.b dX8_trace_19 (by decide) (fun c2 => ?_) (fun c2 => ?_)
    · have h := (if_pos c2).symm.trans h
      refine lv_iconst (v := (-1)) C.x C.b dX8_trace_30 (by decide) ?_
      exact r_i (pr_some h) C hP hS dX8_trace_31
    · have h := (if_neg c2).symm.trans h
      refine lv_iload_n C.x C.b dX8_trace_22 rfl (lv_at hl 2 rfl) ?_
      refine lv_aload_n C.x C.b dX8_trace_23 rfl (lv_at hl 0 rfl) ?_
      refine g_int F_3_3 u1_156 C hP sh_22 dX8_trace_24 ?_
      refine lv_icmp_lt (tgt := 32) C.x C.b dX8_trace_27 (by decide) (fun c3 => ?_) (fun c3 => ?_)
      · have h := (if_pos c3).symm.trans h
        refine lv_iload_n C.x C.b dX8_trace_32 rfl (lv_at hl 3 rfl) ?_
        by_cases c4 : x2 = 0
        · have h := (if_pos c4).symm.trans h
          refine lv_tableIn (off := 27) (tgt := 60) C.x C.b dX8_trace_33 (by rw [c4]; decide) (by rw [c4]; decide) (by rw [c4]; rfl) (by decide) ?_
          refine lv_aload_n C.x C.b dX8_trace_60 rfl (lv_at hl 0 rfl) ?_
          refine g_ref (k' := 28) F_3_9 u1_168 C hP sh_22 rfl dX8_trace_61 ?_
          refine lv_iload_n C.x C.b dX8_trace_64 rfl (lv_at hl 2 rfl) ?_
          obtain ⟨g5, h⟩ := grd_some h
          refine a_i C hP sh_28 g5 dX8_trace_65 ?_
          obtain ⟨r7, e6, h⟩ := bnv_some h
          refine k_si (as := [.int (μ.1 28 x1.toNatClampNeg)]) (rest := []) (c_X8_cellTold C.i e6) M_X8_cellTold u3_136 C hP hS rfl (by decide) hl.1 rfl (Nat.le_of_ble_eq_true rfl) dX8_trace_66 (fun H locs hP hS => ?_)
          exact r_i (pr_some h) C hP hS dX8_trace_69
        · have h := (if_neg c4).symm.trans h
          by_cases c8 : x2 = 1
          · have h := (if_pos c8).symm.trans h
            refine lv_tableIn (off := 37) (tgt := 70) C.x C.b dX8_trace_33 (by rw [c8]; decide) (by rw [c8]; decide) (by rw [c8]; rfl) (by decide) ?_
            refine lv_aload_n C.x C.b dX8_trace_70 rfl (lv_at hl 0 rfl) ?_
            refine g_ref (k' := 29) F_3_10 u1_170 C hP sh_22 rfl dX8_trace_71 ?_
            refine lv_iload_n C.x C.b dX8_trace_74 rfl (lv_at hl 2 rfl) ?_
            obtain ⟨g9, h⟩ := grd_some h
            refine a_i C hP sh_29 g9 dX8_trace_75 ?_
            obtain ⟨r11, e10, h⟩ := bnv_some h
            refine k_si (as := [.int (μ.1 29 x1.toNatClampNeg)]) (rest := []) (c_X8_cellTold C.i e10) M_X8_cellTold u3_136 C hP hS rfl (by decide) hl.1 rfl (Nat.le_of_ble_eq_true rfl) dX8_trace_76 (fun H locs hP hS => ?_)
            exact r_i (pr_some h) C hP hS dX8_trace_79
          · have h := (if_neg c8).symm.trans h
            by_cases c12 : x2 = 2
            · have h := (if_pos c12).symm.trans h
              refine lv_tableIn (off := 47) (tgt := 80) C.x C.b dX8_trace_33 (by rw [c12]; decide) (by rw [c12]; decide) (by rw [c12]; rfl) (by decide) ?_
              refine lv_aload_n C.x C.b dX8_trace_80 rfl (lv_at hl 0 rfl) ?_
              refine g_ref (k' := 30) F_3_11 u1_172 C hP sh_22 rfl dX8_trace_81 ?_
              refine lv_iload_n C.x C.b dX8_trace_84 rfl (lv_at hl 2 rfl) ?_
              obtain ⟨g13, h⟩ := grd_some h
              refine a_i C hP sh_30 g13 dX8_trace_85 ?_
              exact r_i (pr_some h) C hP hS dX8_trace_86
            · have h := (if_neg c12).symm.trans h
              have t_c4 := lv_neT (a := 0) c4 (by decide)
              have t_c8 := lv_neT (a := 1) c8 (by decide)
              have t_c12 := lv_neT (a := 2) c12 (by decide)
              refine lv_tableOut (tgt := 87) C.x C.b dX8_trace_33 (by omega) (by decide) ?_
              refine lv_iconst (v := (-1)) C.x C.b dX8_trace_87 (by decide) ?_
              exact r_i (pr_some h) C hP hS dX8_trace_88
      · have h := (if_neg c3).symm.trans h
        refine lv_iconst (v := (-1)) C.x C.b dX8_trace_30 (by decide) ?_
        exact r_i (pr_some h) C hP hS dX8_trace_31
  · have h := (if_pos c1).symm.trans h
    refine lv_bipush (v := (-3)) C.x C.b dX8_trace_15 (by decide) ?_
    exact r_i (pr_some h) C hP hS dX8_trace_17

set_option maxRecDepth 100000 in
set_option maxHeartbeats 4000000 in
theorem c_X8_trace {l : Launch} {G : Gp} (hI : Wi G) {x1 : Int32} {x2 : Int32} {μ : Mem} {r : Int32} (h : f_X8_trace x1 x2 μ = some r) : CI l yX8_trace cX8_trace 4 (some .int) 1 20 G [.ref (G.2.2 0), .int x1, .int x2] μ r μ :=
  e_all (lv := [(0, .ref (G.2.2 0)), (1, .int x1), (2, .int x2)]) hI (by decide) (Nat.le_of_ble_eq_true rfl) rfl (fun p e s m args below meth c ls C hP hS hl => b_X8_trace C h _ _ _ hP hS hl)


def f_X8_tryBest (x1 : Int32) (x2 : Int32) (μ : Mem) : Option (Int32 × Mem) := bnv (f_X0_hasBothSides 95 μ) (fun r2 => if r2 = 0 then (some (0, μ)) else (bnv (f_X3_startOn 102 95 x1 μ) (fun μ5 => bnd (f_X3_stepOften 102 x2 100 μ5) (fun r7 μ8 => bnd (f_X3_isProved 102 μ8) (fun r10 μ11 => grd (isB r10) (some (r10, μ11)))))))
set_option maxRecDepth 100000 in
set_option maxHeartbeats 4000000 in
theorem b_X8_tryBest {p : Program} {l : Launch} {e : Env} {s : State} {m : MethodId} {args : Array Value} {below : List Frame} {meth : Method} {c : Code} {G : Gp} {O : (Int32 × Mem)} (C : Cx p s m args meth c cX8_tryBest 3 RX8 (some .boolean) G) {x1 : Int32} {x2 : Int32} {μ : Mem} (h : f_X8_tryBest x1 x2 μ = some O) : ∀ (H : Heap) (locs : List Loc) (ls : Array Slot), Wm G μ H → va_S (wA G) s.heap H locs → lv_has ls 3 [(0, .ref (G.2.2 0)), (1, .int x1), (2, .int x2)] → W p l e (rmm 4 104) s m args below meth c H locs 0 0 (QI below args s G O) (F0 m 0 ls []) := by
  unfold f_X8_tryBest at h
  intro H locs ls hP hS hl
  refine lv_aload_n C.x C.b dX8_tryBest_0 rfl (lv_at hl 0 rfl) ?_
  refine g_ref (k' := 95) F_8_5 u2_84 C hP sh_0 rfl dX8_tryBest_1 ?_
  obtain ⟨r2, e1, h⟩ := bnv_some h
  refine k_vi (k := 95) (as := []) (rest := []) (c_X0_hasBothSides C.i at_sGround_95 e1) M_X0_hasBothSides u2_218 C hP hS sh_95 rfl rfl (by decide) hl.1 rfl (Nat.le_of_ble_eq_true rfl) dX8_tryBest_4 (fun H locs hP hS => ?_)
  refine lv_if_ne (tgt := 12) C.x C.b dX8_tryBest_7 (by decide) (fun c3 => ?_) (fun c3 => ?_)
  · have h := (if_neg c3).symm.trans h
    refine lv_aload_n C.x C.b dX8_tryBest_12 rfl (lv_at hl 0 rfl) ?_
    refine g_ref (k' := 102) F_8_6 u2_85 C hP sh_0 rfl dX8_tryBest_13 ?_
    refine lv_aload_n C.x C.b dX8_tryBest_16 rfl (lv_at hl 0 rfl) ?_
    refine g_ref (k' := 95) F_8_5 u2_84 C hP sh_0 rfl dX8_tryBest_17 ?_
    refine lv_iload_n C.x C.b dX8_tryBest_20 rfl (lv_at hl 1 rfl) ?_
    obtain ⟨μ5, e4, h⟩ := bnv_some h
    refine k_vv (k := 102) (as := [.ref (G.2.2 95), .int x1]) (rest := []) (c_X3_startOn C.i at_sPlan_102 at_sGround_95 e4) M_X3_startOn u2_222 C hP hS sh_102 rfl rfl (by decide) hl.1 rfl (Nat.le_of_ble_eq_true rfl) dX8_tryBest_21 (fun H locs hP hS => ?_)
    refine lv_aload_n C.x C.b dX8_tryBest_24 rfl (lv_at hl 0 rfl) ?_
    refine g_ref (k' := 102) F_8_6 u2_85 C hP sh_0 rfl dX8_tryBest_25 ?_
    refine lv_iload_n C.x C.b dX8_tryBest_28 rfl (lv_at hl 2 rfl) ?_
    refine lv_bipush (v := 100) C.x C.b dX8_tryBest_29 (by decide) ?_
    obtain ⟨r7, μ8, e6, h⟩ := bnd_some h
    refine k_vi (k := 102) (as := [.int x2, .int 100]) (rest := []) (c_X3_stepOften C.i at_sPlan_102 e6) M_X3_stepOften u3_64 C hP hS sh_102 rfl rfl (by decide) hl.1 rfl (Nat.le_of_ble_eq_true rfl) dX8_tryBest_31 (fun H locs hP hS => ?_)
    refine lv_pop C.x C.b dX8_tryBest_34 rfl ?_
    refine lv_aload_n C.x C.b dX8_tryBest_35 rfl (lv_at hl 0 rfl) ?_
    refine g_ref (k' := 102) F_8_6 u2_85 C hP sh_0 rfl dX8_tryBest_36 ?_
    obtain ⟨r10, μ11, e9, h⟩ := bnd_some h
    refine k_vi (k := 102) (as := []) (rest := []) (c_X3_isProved C.i at_sPlan_102 e9) M_X3_isProved u3_148 C hP hS sh_102 rfl rfl (by decide) hl.1 rfl (Nat.le_of_ble_eq_true rfl) dX8_tryBest_39 (fun H locs hP hS => ?_)
    obtain ⟨g12, h⟩ := grd_some h
    exact r_z h g12 C hP hS dX8_tryBest_42
  · have h := (if_pos c3).symm.trans h
    refine lv_iconst (v := 0) C.x C.b dX8_tryBest_10 (by decide) ?_
    exact r_z h (by decide) C hP hS dX8_tryBest_11

set_option maxRecDepth 100000 in
set_option maxHeartbeats 4000000 in
theorem c_X8_tryBest {l : Launch} {G : Gp} (hI : Wi G) {x1 : Int32} {x2 : Int32} {μ : Mem} {r : Int32} {μ' : Mem} (h : f_X8_tryBest x1 x2 μ = some (r, μ')) : CI l yX8_tryBest cX8_tryBest 3 (some .boolean) 4 104 G [.ref (G.2.2 0), .int x1, .int x2] μ r μ' :=
  e_all (lv := [(0, .ref (G.2.2 0)), (1, .int x1), (2, .int x2)]) hI (by decide) (Nat.le_of_ble_eq_true rfl) rfl (fun p e s m args below meth c ls C hP hS hl => b_X8_tryBest C h _ _ _ hP hS hl)


def f_X8_best (x1 : Int32) (x2 : Int32) (x3 : Int32) (μ : Mem) : Option (Int32 × Mem) := bnv (f_X8_isUpTo x1 2 μ) (fun r2 => if r2 = 0 then (some ((-2), μ)) else (bnv (f_X8_isUpTo x2 2 μ) (fun r5 => if r5 = 0 then (some ((-2), μ)) else (bnv (f_X8_isUpTo x3 1 μ) (fun r8 => if r8 = 0 then (some ((-1), μ)) else (bnv (f_X0_copyFrom 95 15 μ) (fun μ11 => bnd (f_X8_tryBest x1 x2 μ11) (fun r13 μ14 => if r13 = 0 then (some ((-5), μ14)) else (if x3 = 0 then (bnv (f_X3_total 102 μ14) (fun r18 => some (r18, μ14))) else (some (μ14.1 102 3, μ14)))))))))))
set_option maxRecDepth 100000 in
set_option maxHeartbeats 4000000 in
theorem b_X8_best {p : Program} {l : Launch} {e : Env} {s : State} {m : MethodId} {args : Array Value} {below : List Frame} {meth : Method} {c : Code} {G : Gp} {O : (Int32 × Mem)} (C : Cx p s m args meth c cX8_best 4 RX8 (some .int) G) {x1 : Int32} {x2 : Int32} {x3 : Int32} {μ : Mem} (h : f_X8_best x1 x2 x3 μ = some O) : ∀ (H : Heap) (locs : List Loc) (ls : Array Slot), Wm G μ H → va_S (wA G) s.heap H locs → lv_has ls 4 [(0, .ref (G.2.2 0)), (1, .int x1), (2, .int x2), (3, .int x3)] → W p l e (rmm 5 126) s m args below meth c H locs 0 0 (QI below args s G O) (F0 m 0 ls []) := by
  unfold f_X8_best at h
  intro H locs ls hP hS hl
  refine lv_iload_n C.x C.b dX8_best_0 rfl (lv_at hl 1 rfl) ?_
  refine lv_iconst (v := 2) C.x C.b dX8_best_1 (by decide) ?_
  obtain ⟨r2, e1, h⟩ := bnv_some h
  refine k_si (as := [.int x1, .int 2]) (rest := []) (c_X8_isUpTo C.i e1) M_X8_isUpTo u2_105 C hP hS rfl (by decide) hl.1 rfl (Nat.le_of_ble_eq_true rfl) dX8_best_2 (fun H locs hP hS => ?_)
  refine lv_if_eq (tgt := 16) C.x C.b dX8_best_5 (by decide) (fun c3 => ?_) (fun c3 => ?_)
  · have h := (if_pos c3).symm.trans h
    refine lv_bipush (v := (-2)) C.x C.b dX8_best_16 (by decide) ?_
    exact r_i h C hP hS dX8_best_18
  · have h := (if_neg c3).symm.trans h
    refine lv_iload_n C.x C.b dX8_best_8 rfl (lv_at hl 2 rfl) ?_
    refine lv_iconst (v := 2) C.x C.b dX8_best_9 (by decide) ?_
    obtain ⟨r5, e4, h⟩ := bnv_some h
    refine k_si (as := [.int x2, .int 2]) (rest := []) (c_X8_isUpTo C.i e4) M_X8_isUpTo u2_105 C hP hS rfl (by decide) hl.1 rfl (Nat.le_of_ble_eq_true rfl) dX8_best_10 (fun H locs hP hS => ?_)
    refine lv_if_ne (tgt := 19) C.x C.b dX8_best_13 (by decide) (fun c6 => ?_) (fun c6 => ?_)
    · have h := (if_neg c6).symm.trans h
      refine lv_iload_n C.x C.b dX8_best_19 rfl (lv_at hl 3 rfl) ?_
      refine lv_iconst (v := 1) C.x C.b dX8_best_20 (by decide) ?_
      obtain ⟨r8, e7, h⟩ := bnv_some h
      refine k_si (as := [.int x3, .int 1]) (rest := []) (c_X8_isUpTo C.i e7) M_X8_isUpTo u2_105 C hP hS rfl (by decide) hl.1 rfl (Nat.le_of_ble_eq_true rfl) dX8_best_21 (fun H locs hP hS => ?_)
      refine lv_if_ne (tgt := 29) C.x C.b dX8_best_24 (by decide) (fun c9 => ?_) (fun c9 => ?_)
      · have h := (if_neg c9).symm.trans h
        refine lv_aload_n C.x C.b dX8_best_29 rfl (lv_at hl 0 rfl) ?_
        refine g_ref (k' := 95) F_8_5 u2_84 C hP sh_0 rfl dX8_best_30 ?_
        refine lv_aload_n C.x C.b dX8_best_33 rfl (lv_at hl 0 rfl) ?_
        refine g_ref (k' := 14) F_8_0 u2_79 C hP sh_0 rfl dX8_best_34 ?_
        refine g_ref (k' := 15) F_6_0 u1_237 C hP sh_14 rfl dX8_best_37 ?_
        obtain ⟨μ11, e10, h⟩ := bnv_some h
        refine k_vv (k := 95) (as := [.ref (G.2.2 15)]) (rest := []) (c_X0_copyFrom C.i at_sGround_95 at_sGround_15 e10) M_X0_copyFrom u3_171 C hP hS sh_95 rfl rfl (by decide) hl.1 rfl (Nat.le_of_ble_eq_true rfl) dX8_best_40 (fun H locs hP hS => ?_)
        refine lv_aload_n C.x C.b dX8_best_43 rfl (lv_at hl 0 rfl) ?_
        refine lv_iload_n C.x C.b dX8_best_44 rfl (lv_at hl 1 rfl) ?_
        refine lv_iload_n C.x C.b dX8_best_45 rfl (lv_at hl 2 rfl) ?_
        obtain ⟨r13, μ14, e12, h⟩ := bnd_some h
        refine k_vi (k := 0) (as := [.int x1, .int x2]) (rest := []) (c_X8_tryBest C.i e12) M_X8_tryBest u3_176 C hP hS sh_0 rfl rfl (by decide) hl.1 rfl (Nat.le_of_ble_eq_true rfl) dX8_best_46 (fun H locs hP hS => ?_)
        refine lv_if_ne (tgt := 55) C.x C.b dX8_best_49 (by decide) (fun c15 => ?_) (fun c15 => ?_)
        · have h := (if_neg c15).symm.trans h
          refine lv_iload_n C.x C.b dX8_best_55 rfl (lv_at hl 3 rfl) ?_
          refine lv_if_ne (tgt := 69) C.x C.b dX8_best_56 (by decide) (fun c16 => ?_) (fun c16 => ?_)
          · have h := (if_neg c16).symm.trans h
            refine lv_aload_n C.x C.b dX8_best_69 rfl (lv_at hl 0 rfl) ?_
            refine g_ref (k' := 102) F_8_6 u2_85 C hP sh_0 rfl dX8_best_70 ?_
            refine g_int F_3_3 u1_156 C hP sh_102 dX8_best_73 ?_
            exact r_i h C hP hS dX8_best_76
          · have h := (if_pos c16).symm.trans h
            refine lv_aload_n C.x C.b dX8_best_59 rfl (lv_at hl 0 rfl) ?_
            refine g_ref (k' := 102) F_8_6 u2_85 C hP sh_0 rfl dX8_best_60 ?_
            obtain ⟨r18, e17, h⟩ := bnv_some h
            refine k_vi (k := 102) (as := []) (rest := []) (c_X3_total C.i at_sPlan_102 e17) M_X3_total u3_56 C hP hS sh_102 rfl rfl (by decide) hl.1 rfl (Nat.le_of_ble_eq_true rfl) dX8_best_63 (fun H locs hP hS => ?_)
            refine lv_goto (tgt := 76) C.x C.b dX8_best_66 (by decide) ?_
            exact r_i h C hP hS dX8_best_76
        · have h := (if_pos c15).symm.trans h
          refine lv_bipush (v := (-5)) C.x C.b dX8_best_52 (by decide) ?_
          exact r_i h C hP hS dX8_best_54
      · have h := (if_pos c9).symm.trans h
        refine lv_iconst (v := (-1)) C.x C.b dX8_best_27 (by decide) ?_
        exact r_i h C hP hS dX8_best_28
    · have h := (if_pos c6).symm.trans h
      refine lv_bipush (v := (-2)) C.x C.b dX8_best_16 (by decide) ?_
      exact r_i h C hP hS dX8_best_18

set_option maxRecDepth 100000 in
set_option maxHeartbeats 4000000 in
theorem c_X8_best {l : Launch} {G : Gp} (hI : Wi G) {x1 : Int32} {x2 : Int32} {x3 : Int32} {μ : Mem} {r : Int32} {μ' : Mem} (h : f_X8_best x1 x2 x3 μ = some (r, μ')) : CI l yX8_best cX8_best 4 (some .int) 5 126 G [.ref (G.2.2 0), .int x1, .int x2, .int x3] μ r μ' :=
  e_all (lv := [(0, .ref (G.2.2 0)), (1, .int x1), (2, .int x2), (3, .int x3)]) hI (by decide) (Nat.le_of_ble_eq_true rfl) rfl (fun p e s m args below meth c ls C hP hS hl => b_X8_best C h _ _ _ hP hS hl)


def g_X8_cheapestStart_7   (q7 : Int32 → Int32 → Int32 → Mem → Option (Int32 × Mem)) (x1 : Int32) (x2 : Int32) (x3 : Int32) (μ : Mem) : Option (Int32 × Mem) := if 2 < x3 then (some (x1, μ)) else (bnv (f_X3_startOn 102 15 x3 μ) (fun μ3 => bnv (f_X3_total 102 μ3) (fun r5 => if x1 = ((-5)) then (lt (x3 + 1) (fun y7 => q7 x3 r5 y7 μ3)) else (if x2 ≤ r5 then (lt (x3 + 1) (fun y9 => q7 x1 x2 y9 μ3)) else (lt (x3 + 1) (fun y10 => q7 x3 r5 y10 μ3))))))
def f_X8_cheapestStart_7   : Nat → Int32 → Int32 → Int32 → Mem → Option (Int32 × Mem)
  | 0, _, _, _, _ => none
  | n + 1, x1, x2, x3, μ => g_X8_cheapestStart_7  (f_X8_cheapestStart_7  n) x1 x2 x3 μ
set_option maxRecDepth 100000 in
set_option maxHeartbeats 4000000 in
theorem w_X8_cheapestStart_7 {p : Program} {l : Launch} {e : Env} {s : State} {m : MethodId} {args : Array Value} {below : List Frame} {meth : Method} {c : Code} {G : Gp} {O : (Int32 × Mem)} (C : Cx p s m args meth c cX8_cheapestStart 5 RX8 (some .int) G) {q7 : Int32 → Int32 → Int32 → Mem → Option (Int32 × Mem)} (hq7 : ∀ (x1 : Int32) (x2 : Int32) (x3 : Int32) (μ : Mem), q7 x1 x2 x3 μ = some O → ∀ (H : Heap) (locs : List Loc) (ls : Array Slot), Wm G μ H → va_S (wA G) s.heap H locs → lv_has ls 5 [(0, .ref (G.2.2 0)), (1, .int x1), (2, .int x2), (3, .int x3)] → W p l e (rmm 4 98) s m args below meth c H locs 0 0 (QI below args s G O) (F0 m 7 ls [])) : ∀ (x1 : Int32) (x2 : Int32) (x3 : Int32) (μ : Mem), g_X8_cheapestStart_7 q7 x1 x2 x3 μ = some O → ∀ (H : Heap) (locs : List Loc) (ls : Array Slot), Wm G μ H → va_S (wA G) s.heap H locs → lv_has ls 5 [(0, .ref (G.2.2 0)), (1, .int x1), (2, .int x2), (3, .int x3)] → W p l e (rmm 4 98) s m args below meth c H locs 0 0 (QI below args s G O) (F0 m 7 ls []) := by
  intro x1 x2 x3 μ h H locs ls hP hS hl
  unfold g_X8_cheapestStart_7 at h
  refine lv_iload_n C.x C.b dX8_cheapestStart_7 rfl (lv_at hl 3 rfl) ?_
  refine lv_iconst (v := 2) C.x C.b dX8_cheapestStart_8 (by decide) ?_
  refine lv_icmp_gt (tgt := 59) C.x C.b dX8_cheapestStart_9 (by decide) (fun c1 => ?_) (fun c1 => ?_)
  · have h := (if_pos c1).symm.trans h
    refine lv_iload_n C.x C.b dX8_cheapestStart_59 rfl (lv_at hl 1 rfl) ?_
    exact r_i h C hP hS dX8_cheapestStart_60
  · have h := (if_neg c1).symm.trans h
    refine lv_aload_n C.x C.b dX8_cheapestStart_12 rfl (lv_at hl 0 rfl) ?_
    refine g_ref (k' := 102) F_8_6 u2_85 C hP sh_0 rfl dX8_cheapestStart_13 ?_
    refine lv_aload_n C.x C.b dX8_cheapestStart_16 rfl (lv_at hl 0 rfl) ?_
    refine g_ref (k' := 14) F_8_0 u2_79 C hP sh_0 rfl dX8_cheapestStart_17 ?_
    refine g_ref (k' := 15) F_6_0 u1_237 C hP sh_14 rfl dX8_cheapestStart_20 ?_
    refine lv_iload_n C.x C.b dX8_cheapestStart_23 rfl (lv_at hl 3 rfl) ?_
    obtain ⟨μ3, e2, h⟩ := bnv_some h
    refine k_vv (k := 102) (as := [.ref (G.2.2 15), .int x3]) (rest := []) (c_X3_startOn C.i at_sPlan_102 at_sGround_15 e2) M_X3_startOn u2_222 C hP hS sh_102 rfl rfl (by decide) hl.1 rfl (Nat.le_of_ble_eq_true rfl) dX8_cheapestStart_24 (fun H locs hP hS => ?_)
    refine lv_aload_n C.x C.b dX8_cheapestStart_27 rfl (lv_at hl 0 rfl) ?_
    refine g_ref (k' := 102) F_8_6 u2_85 C hP sh_0 rfl dX8_cheapestStart_28 ?_
    obtain ⟨r5, e4, h⟩ := bnv_some h
    refine k_vi (k := 102) (as := []) (rest := []) (c_X3_total C.i at_sPlan_102 e4) M_X3_total u3_56 C hP hS sh_102 rfl rfl (by decide) hl.1 rfl (Nat.le_of_ble_eq_true rfl) dX8_cheapestStart_31 (fun H locs hP hS => ?_)
    refine lv_istore (lv' := [(4, .int r5), (0, .ref (G.2.2 0)), (1, .int x1), (2, .int x2), (3, .int x3)]) C.x C.b dX8_cheapestStart_34 hl (by decide) rfl (fun ls hl => ?_)
    refine lv_iload_n C.x C.b dX8_cheapestStart_36 rfl (lv_at hl 2 rfl) ?_
    refine lv_bipush (v := (-5)) C.x C.b dX8_cheapestStart_37 (by decide) ?_
    refine lv_icmp_eq (tgt := 48) C.x C.b dX8_cheapestStart_39 (by decide) (fun c6 => ?_) (fun c6 => ?_)
    · have h := (if_pos c6).symm.trans h
      refine lv_iload_n C.x C.b dX8_cheapestStart_48 rfl (lv_at hl 4 rfl) ?_
      refine lv_istore_n (lv' := [(1, .int x3), (4, .int r5), (0, .ref (G.2.2 0)), (2, .int x2), (3, .int x3)]) C.x C.b dX8_cheapestStart_49 rfl hl (by decide) rfl (fun ls hl => ?_)
      refine lv_iload C.x C.b dX8_cheapestStart_50 (lv_at hl 1 rfl) ?_
      refine lv_istore_n (lv' := [(2, .int r5), (1, .int x3), (4, .int r5), (0, .ref (G.2.2 0)), (3, .int x3)]) C.x C.b dX8_cheapestStart_52 rfl hl (by decide) rfl (fun ls hl => ?_)
      obtain ⟨y7, e_y7, h⟩ := lt_ex h
      refine lv_iinc (v := y7) (lv' := [(3, .int y7), (2, .int r5), (1, .int x3), (4, .int r5), (0, .ref (G.2.2 0))]) C.x C.b dX8_cheapestStart_53 hl (k := 4) rfl (by rw [e_y7]; rfl) (by decide) rfl (fun ls hl => ?_)
      refine lv_goto (tgt := 7) C.x C.b dX8_cheapestStart_56 (by decide) ?_
      exact hq7 x3 r5 y7 μ3 h _ _ _ hP hS (lv_sub hl [4, 2, 1, 0] rfl)
    · have h := (if_neg c6).symm.trans h
      refine lv_iload C.x C.b dX8_cheapestStart_42 (lv_at hl 0 rfl) ?_
      refine lv_iload_n C.x C.b dX8_cheapestStart_44 rfl (lv_at hl 3 rfl) ?_
      refine lv_icmp_ge (tgt := 53) C.x C.b dX8_cheapestStart_45 (by decide) (fun c8 => ?_) (fun c8 => ?_)
      · have h := (if_pos c8).symm.trans h
        obtain ⟨y9, e_y9, h⟩ := lt_ex h
        refine lv_iinc (v := y9) (lv' := [(3, .int y9), (4, .int r5), (0, .ref (G.2.2 0)), (1, .int x1), (2, .int x2)]) C.x C.b dX8_cheapestStart_53 hl (k := 4) rfl (by rw [e_y9]; rfl) (by decide) rfl (fun ls hl => ?_)
        refine lv_goto (tgt := 7) C.x C.b dX8_cheapestStart_56 (by decide) ?_
        exact hq7 x1 x2 y9 μ3 h _ _ _ hP hS (lv_sub hl [2, 3, 4, 0] rfl)
      · have h := (if_neg c8).symm.trans h
        refine lv_iload_n C.x C.b dX8_cheapestStart_48 rfl (lv_at hl 4 rfl) ?_
        refine lv_istore_n (lv' := [(1, .int x3), (4, .int r5), (0, .ref (G.2.2 0)), (2, .int x2), (3, .int x3)]) C.x C.b dX8_cheapestStart_49 rfl hl (by decide) rfl (fun ls hl => ?_)
        refine lv_iload C.x C.b dX8_cheapestStart_50 (lv_at hl 1 rfl) ?_
        refine lv_istore_n (lv' := [(2, .int r5), (1, .int x3), (4, .int r5), (0, .ref (G.2.2 0)), (3, .int x3)]) C.x C.b dX8_cheapestStart_52 rfl hl (by decide) rfl (fun ls hl => ?_)
        obtain ⟨y10, e_y10, h⟩ := lt_ex h
        refine lv_iinc (v := y10) (lv' := [(3, .int y10), (2, .int r5), (1, .int x3), (4, .int r5), (0, .ref (G.2.2 0))]) C.x C.b dX8_cheapestStart_53 hl (k := 4) rfl (by rw [e_y10]; rfl) (by decide) rfl (fun ls hl => ?_)
        refine lv_goto (tgt := 7) C.x C.b dX8_cheapestStart_56 (by decide) ?_
        exact hq7 x3 r5 y10 μ3 h _ _ _ hP hS (lv_sub hl [4, 2, 1, 0] rfl)

set_option maxRecDepth 100000 in
set_option maxHeartbeats 4000000 in
theorem b_X8_cheapestStart_7 {p : Program} {l : Launch} {e : Env} {s : State} {m : MethodId} {args : Array Value} {below : List Frame} {meth : Method} {c : Code} {G : Gp} {O : (Int32 × Mem)} (C : Cx p s m args meth c cX8_cheapestStart 5 RX8 (some .int) G) : ∀ (n : Nat) (x1 : Int32) (x2 : Int32) (x3 : Int32) (μ : Mem), f_X8_cheapestStart_7 n x1 x2 x3 μ = some O → ∀ (H : Heap) (locs : List Loc) (ls : Array Slot), Wm G μ H → va_S (wA G) s.heap H locs → lv_has ls 5 [(0, .ref (G.2.2 0)), (1, .int x1), (2, .int x2), (3, .int x3)] → W p l e (rmm 4 98) s m args below meth c H locs 0 0 (QI below args s G O) (F0 m 7 ls []) := by
  intro n
  induction n with
  | zero => intro x1 x2 x3 μ h; cases h
  | succ n ih => intro x1 x2 x3 μ h; exact w_X8_cheapestStart_7 C (q7 := f_X8_cheapestStart_7 n) ih x1 x2 x3 μ h

def f_X8_cheapestStart  (μ : Mem) : Option (Int32 × Mem) := f_X8_cheapestStart_7 FU ((-5)) 0 0 μ
set_option maxRecDepth 100000 in
set_option maxHeartbeats 4000000 in
theorem b_X8_cheapestStart {p : Program} {l : Launch} {e : Env} {s : State} {m : MethodId} {args : Array Value} {below : List Frame} {meth : Method} {c : Code} {G : Gp} {O : (Int32 × Mem)} (C : Cx p s m args meth c cX8_cheapestStart 5 RX8 (some .int) G) {μ : Mem} (h : f_X8_cheapestStart μ = some O) : ∀ (H : Heap) (locs : List Loc) (ls : Array Slot), Wm G μ H → va_S (wA G) s.heap H locs → lv_has ls 5 [(0, .ref (G.2.2 0))] → W p l e (rmm 4 98) s m args below meth c H locs 0 0 (QI below args s G O) (F0 m 0 ls []) := by
  unfold f_X8_cheapestStart at h
  intro H locs ls hP hS hl
  refine lv_bipush (v := (-5)) C.x C.b dX8_cheapestStart_0 (by decide) ?_
  refine lv_istore_n (lv' := [(1, .int ((-5))), (0, .ref (G.2.2 0))]) C.x C.b dX8_cheapestStart_2 rfl hl (by decide) rfl (fun ls hl => ?_)
  refine lv_iconst (v := 0) C.x C.b dX8_cheapestStart_3 (by decide) ?_
  refine lv_istore_n (lv' := [(2, .int 0), (1, .int ((-5))), (0, .ref (G.2.2 0))]) C.x C.b dX8_cheapestStart_4 rfl hl (by decide) rfl (fun ls hl => ?_)
  refine lv_iconst (v := 0) C.x C.b dX8_cheapestStart_5 (by decide) ?_
  refine lv_istore_n (lv' := [(3, .int 0), (2, .int 0), (1, .int ((-5))), (0, .ref (G.2.2 0))]) C.x C.b dX8_cheapestStart_6 rfl hl (by decide) rfl (fun ls hl => ?_)
  exact b_X8_cheapestStart_7 C FU ((-5)) 0 0 μ h _ _ _ hP hS (lv_sub hl [3, 2, 1, 0] rfl)

set_option maxRecDepth 100000 in
set_option maxHeartbeats 4000000 in
theorem c_X8_cheapestStart {l : Launch} {G : Gp} (hI : Wi G) {μ : Mem} {r : Int32} {μ' : Mem} (h : f_X8_cheapestStart μ = some (r, μ')) : CI l yX8_cheapestStart cX8_cheapestStart 5 (some .int) 4 98 G [.ref (G.2.2 0)] μ r μ' :=
  e_all (lv := [(0, .ref (G.2.2 0))]) hI (by decide) (Nat.le_of_ble_eq_true rfl) rfl (fun p e s m args below meth c ls C hP hS hl => b_X8_cheapestStart C h _ _ _ hP hS hl)


def f_X8_fewestSteps_62  (q21 : Int32 → Int32 → Int32 → Mem → Option (Int32 × Mem)) (q29 : Int32 → Int32 → Int32 → Int32 → Mem → Option (Int32 × Mem)) (x3 : Int32) (x4 : Int32) (μ : Mem) : Option (Int32 × Mem) := lt ((10 * x3) + x4) (fun y1 => lt (μ.1 102 3) (fun y2 => lt (x4 + 1) (fun y3 => q29 y1 y2 x3 y3 μ)))
set_option maxRecDepth 100000 in
set_option maxHeartbeats 4000000 in
theorem b_X8_fewestSteps_62 {p : Program} {l : Launch} {e : Env} {s : State} {m : MethodId} {args : Array Value} {below : List Frame} {meth : Method} {c : Code} {G : Gp} {O : (Int32 × Mem)} (C : Cx p s m args meth c cX8_fewestSteps 5 RX8 (some .int) G) {q21 : Int32 → Int32 → Int32 → Mem → Option (Int32 × Mem)} {q29 : Int32 → Int32 → Int32 → Int32 → Mem → Option (Int32 × Mem)} (hq21 : ∀ (x1 : Int32) (x2 : Int32) (x3 : Int32) (μ : Mem), q21 x1 x2 x3 μ = some O → ∀ (H : Heap) (locs : List Loc) (ls : Array Slot), Wm G μ H → va_S (wA G) s.heap H locs → lv_has ls 5 [(0, .ref (G.2.2 0)), (1, .int x1), (2, .int x2), (3, .int x3)] → W p l e (rmm 5 126) s m args below meth c H locs 0 0 (QI below args s G O) (F0 m 21 ls [])) (hq29 : ∀ (x1 : Int32) (x2 : Int32) (x3 : Int32) (x4 : Int32) (μ : Mem), q29 x1 x2 x3 x4 μ = some O → ∀ (H : Heap) (locs : List Loc) (ls : Array Slot), Wm G μ H → va_S (wA G) s.heap H locs → lv_has ls 5 [(0, .ref (G.2.2 0)), (1, .int x1), (2, .int x2), (3, .int x3), (4, .int x4)] → W p l e (rmm 5 126) s m args below meth c H locs 0 0 (QI below args s G O) (F0 m 29 ls [])) : ∀ (x3 : Int32) (x4 : Int32) (μ : Mem), f_X8_fewestSteps_62 q21 q29 x3 x4 μ = some O → ∀ (H : Heap) (locs : List Loc) (ls : Array Slot), Wm G μ H → va_S (wA G) s.heap H locs → lv_has ls 5 [(0, .ref (G.2.2 0)), (3, .int x3), (4, .int x4)] → W p l e (rmm 5 126) s m args below meth c H locs 0 0 (QI below args s G O) (F0 m 62 ls []) := by
  intro x3 x4 μ h H locs ls hP hS hl
  unfold f_X8_fewestSteps_62 at h
  refine lv_bipush (v := 10) C.x C.b dX8_fewestSteps_62 (by decide) ?_
  refine lv_iload_n C.x C.b dX8_fewestSteps_64 rfl (lv_at hl 1 rfl) ?_
  refine lv_imul C.x C.b dX8_fewestSteps_65 ?_
  refine lv_iload C.x C.b dX8_fewestSteps_66 (lv_at hl 2 rfl) ?_
  refine lv_iadd C.x C.b dX8_fewestSteps_68 ?_
  refine lv_topi (fun y1 e_y1 => ?_)
  have h := lt_at h e_y1
  refine lv_istore_n (lv' := [(1, .int y1), (0, .ref (G.2.2 0)), (3, .int x3), (4, .int x4)]) C.x C.b dX8_fewestSteps_69 rfl hl (by decide) rfl (fun ls hl => ?_)
  refine lv_aload_n C.x C.b dX8_fewestSteps_70 rfl (lv_at hl 1 rfl) ?_
  refine g_ref (k' := 102) F_8_6 u2_85 C hP sh_0 rfl dX8_fewestSteps_71 ?_
  refine g_int F_3_3 u1_156 C hP sh_102 dX8_fewestSteps_74 ?_
  refine lv_topi (fun y2 e_y2 => ?_)
  have h := lt_at h e_y2
  refine lv_istore_n (lv' := [(2, .int y2), (1, .int y1), (0, .ref (G.2.2 0)), (3, .int x3), (4, .int x4)]) C.x C.b dX8_fewestSteps_77 rfl hl (by decide) rfl (fun ls hl => ?_)
  obtain ⟨y3, e_y3, h⟩ := lt_ex h
  refine lv_iinc (v := y3) (lv' := [(4, .int y3), (2, .int y2), (1, .int y1), (0, .ref (G.2.2 0)), (3, .int x3)]) C.x C.b dX8_fewestSteps_78 hl (k := 4) rfl (by rw [e_y3]; rfl) (by decide) rfl (fun ls hl => ?_)
  refine lv_goto (tgt := 29) C.x C.b dX8_fewestSteps_81 (by decide) ?_
  exact hq29 y1 y2 x3 y3 μ h _ _ _ hP hS (lv_sub hl [3, 2, 1, 4, 0] rfl)

def g_X8_fewestSteps_29  (q21 : Int32 → Int32 → Int32 → Mem → Option (Int32 × Mem)) (q29 : Int32 → Int32 → Int32 → Int32 → Mem → Option (Int32 × Mem)) (x1 : Int32) (x2 : Int32) (x3 : Int32) (x4 : Int32) (μ : Mem) : Option (Int32 × Mem) := if 2 < x4 then (lt (x3 + 1) (fun y2 => q21 x1 x2 y2 μ)) else (bnd (f_X8_tryBest x3 x4 μ) (fun r4 μ5 => if r4 = 0 then (lt (x4 + 1) (fun y7 => q29 x1 x2 x3 y7 μ5)) else (if x1 = ((-5)) then (f_X8_fewestSteps_62 q21 q29 x3 x4 μ5) else (if x2 ≤ (μ5.1 102 3) then (lt (x4 + 1) (fun y10 => q29 x1 x2 x3 y10 μ5)) else (f_X8_fewestSteps_62 q21 q29 x3 x4 μ5)))))
def f_X8_fewestSteps_29  (q21 : Int32 → Int32 → Int32 → Mem → Option (Int32 × Mem)) : Nat → Int32 → Int32 → Int32 → Int32 → Mem → Option (Int32 × Mem)
  | 0, _, _, _, _, _ => none
  | n + 1, x1, x2, x3, x4, μ => g_X8_fewestSteps_29  q21 (f_X8_fewestSteps_29  q21 n) x1 x2 x3 x4 μ
set_option maxRecDepth 100000 in
set_option maxHeartbeats 4000000 in
theorem w_X8_fewestSteps_29 {p : Program} {l : Launch} {e : Env} {s : State} {m : MethodId} {args : Array Value} {below : List Frame} {meth : Method} {c : Code} {G : Gp} {O : (Int32 × Mem)} (C : Cx p s m args meth c cX8_fewestSteps 5 RX8 (some .int) G) {q21 : Int32 → Int32 → Int32 → Mem → Option (Int32 × Mem)} (hq21 : ∀ (x1 : Int32) (x2 : Int32) (x3 : Int32) (μ : Mem), q21 x1 x2 x3 μ = some O → ∀ (H : Heap) (locs : List Loc) (ls : Array Slot), Wm G μ H → va_S (wA G) s.heap H locs → lv_has ls 5 [(0, .ref (G.2.2 0)), (1, .int x1), (2, .int x2), (3, .int x3)] → W p l e (rmm 5 126) s m args below meth c H locs 0 0 (QI below args s G O) (F0 m 21 ls [])) {q29 : Int32 → Int32 → Int32 → Int32 → Mem → Option (Int32 × Mem)} (hq29 : ∀ (x1 : Int32) (x2 : Int32) (x3 : Int32) (x4 : Int32) (μ : Mem), q29 x1 x2 x3 x4 μ = some O → ∀ (H : Heap) (locs : List Loc) (ls : Array Slot), Wm G μ H → va_S (wA G) s.heap H locs → lv_has ls 5 [(0, .ref (G.2.2 0)), (1, .int x1), (2, .int x2), (3, .int x3), (4, .int x4)] → W p l e (rmm 5 126) s m args below meth c H locs 0 0 (QI below args s G O) (F0 m 29 ls [])) : ∀ (x1 : Int32) (x2 : Int32) (x3 : Int32) (x4 : Int32) (μ : Mem), g_X8_fewestSteps_29 q21 q29 x1 x2 x3 x4 μ = some O → ∀ (H : Heap) (locs : List Loc) (ls : Array Slot), Wm G μ H → va_S (wA G) s.heap H locs → lv_has ls 5 [(0, .ref (G.2.2 0)), (1, .int x1), (2, .int x2), (3, .int x3), (4, .int x4)] → W p l e (rmm 5 126) s m args below meth c H locs 0 0 (QI below args s G O) (F0 m 29 ls []) := by
  intro x1 x2 x3 x4 μ h H locs ls hP hS hl
  unfold g_X8_fewestSteps_29 at h
  refine lv_iload C.x C.b dX8_fewestSteps_29 (lv_at hl 4 rfl) ?_
  refine lv_iconst (v := 2) C.x C.b dX8_fewestSteps_31 (by decide) ?_
  refine lv_icmp_gt (tgt := 84) C.x C.b dX8_fewestSteps_32 (by decide) (fun c1 => ?_) (fun c1 => ?_)
  · have h := (if_pos c1).symm.trans h
    obtain ⟨y2, e_y2, h⟩ := lt_ex h
    refine lv_iinc (v := y2) (lv' := [(3, .int y2), (0, .ref (G.2.2 0)), (1, .int x1), (2, .int x2), (4, .int x4)]) C.x C.b dX8_fewestSteps_84 hl (k := 3) rfl (by rw [e_y2]; rfl) (by decide) rfl (fun ls hl => ?_)
    refine lv_goto (tgt := 21) C.x C.b dX8_fewestSteps_87 (by decide) ?_
    exact hq21 x1 x2 y2 μ h _ _ _ hP hS (lv_sub hl [1, 2, 3, 0] rfl)
  · have h := (if_neg c1).symm.trans h
    refine lv_aload_n C.x C.b dX8_fewestSteps_35 rfl (lv_at hl 0 rfl) ?_
    refine lv_iload_n C.x C.b dX8_fewestSteps_36 rfl (lv_at hl 3 rfl) ?_
    refine lv_iload C.x C.b dX8_fewestSteps_37 (lv_at hl 4 rfl) ?_
    obtain ⟨r4, μ5, e3, h⟩ := bnd_some h
    refine k_vi (k := 0) (as := [.int x3, .int x4]) (rest := []) (c_X8_tryBest C.i e3) M_X8_tryBest u3_176 C hP hS sh_0 rfl rfl (by decide) hl.1 rfl (Nat.le_of_ble_eq_true rfl) dX8_fewestSteps_39 (fun H locs hP hS => ?_)
    refine lv_if_eq (tgt := 78) C.x C.b dX8_fewestSteps_42 (by decide) (fun c6 => ?_) (fun c6 => ?_)
    · have h := (if_pos c6).symm.trans h
      obtain ⟨y7, e_y7, h⟩ := lt_ex h
      refine lv_iinc (v := y7) (lv' := [(4, .int y7), (0, .ref (G.2.2 0)), (1, .int x1), (2, .int x2), (3, .int x3)]) C.x C.b dX8_fewestSteps_78 hl (k := 4) rfl (by rw [e_y7]; rfl) (by decide) rfl (fun ls hl => ?_)
      refine lv_goto (tgt := 29) C.x C.b dX8_fewestSteps_81 (by decide) ?_
      exact hq29 x1 x2 x3 y7 μ5 h _ _ _ hP hS (lv_sub hl [1, 2, 3, 4, 0] rfl)
    · have h := (if_neg c6).symm.trans h
      refine lv_iload_n C.x C.b dX8_fewestSteps_45 rfl (lv_at hl 1 rfl) ?_
      refine lv_bipush (v := (-5)) C.x C.b dX8_fewestSteps_46 (by decide) ?_
      refine lv_icmp_eq (tgt := 62) C.x C.b dX8_fewestSteps_48 (by decide) (fun c8 => ?_) (fun c8 => ?_)
      · have h := (if_pos c8).symm.trans h
        exact b_X8_fewestSteps_62 C hq21 hq29 x3 x4 μ5 h _ _ _ hP hS (lv_sub hl [0, 3, 4] rfl)
      · have h := (if_neg c8).symm.trans h
        refine lv_aload_n C.x C.b dX8_fewestSteps_51 rfl (lv_at hl 0 rfl) ?_
        refine g_ref (k' := 102) F_8_6 u2_85 C hP sh_0 rfl dX8_fewestSteps_52 ?_
        refine g_int F_3_3 u1_156 C hP sh_102 dX8_fewestSteps_55 ?_
        refine lv_iload_n C.x C.b dX8_fewestSteps_58 rfl (lv_at hl 2 rfl) ?_
        refine lv_icmp_ge (tgt := 78) C.x C.b dX8_fewestSteps_59 (by decide) (fun c9 => ?_) (fun c9 => ?_)
        · have h := (if_pos c9).symm.trans h
          obtain ⟨y10, e_y10, h⟩ := lt_ex h
          refine lv_iinc (v := y10) (lv' := [(4, .int y10), (0, .ref (G.2.2 0)), (1, .int x1), (2, .int x2), (3, .int x3)]) C.x C.b dX8_fewestSteps_78 hl (k := 4) rfl (by rw [e_y10]; rfl) (by decide) rfl (fun ls hl => ?_)
          refine lv_goto (tgt := 29) C.x C.b dX8_fewestSteps_81 (by decide) ?_
          exact hq29 x1 x2 x3 y10 μ5 h _ _ _ hP hS (lv_sub hl [1, 2, 3, 4, 0] rfl)
        · have h := (if_neg c9).symm.trans h
          exact b_X8_fewestSteps_62 C hq21 hq29 x3 x4 μ5 h _ _ _ hP hS (lv_sub hl [0, 3, 4] rfl)

set_option maxRecDepth 100000 in
set_option maxHeartbeats 4000000 in
theorem b_X8_fewestSteps_29 {p : Program} {l : Launch} {e : Env} {s : State} {m : MethodId} {args : Array Value} {below : List Frame} {meth : Method} {c : Code} {G : Gp} {O : (Int32 × Mem)} (C : Cx p s m args meth c cX8_fewestSteps 5 RX8 (some .int) G) {q21 : Int32 → Int32 → Int32 → Mem → Option (Int32 × Mem)} (hq21 : ∀ (x1 : Int32) (x2 : Int32) (x3 : Int32) (μ : Mem), q21 x1 x2 x3 μ = some O → ∀ (H : Heap) (locs : List Loc) (ls : Array Slot), Wm G μ H → va_S (wA G) s.heap H locs → lv_has ls 5 [(0, .ref (G.2.2 0)), (1, .int x1), (2, .int x2), (3, .int x3)] → W p l e (rmm 5 126) s m args below meth c H locs 0 0 (QI below args s G O) (F0 m 21 ls [])) : ∀ (n : Nat) (x1 : Int32) (x2 : Int32) (x3 : Int32) (x4 : Int32) (μ : Mem), f_X8_fewestSteps_29 q21 n x1 x2 x3 x4 μ = some O → ∀ (H : Heap) (locs : List Loc) (ls : Array Slot), Wm G μ H → va_S (wA G) s.heap H locs → lv_has ls 5 [(0, .ref (G.2.2 0)), (1, .int x1), (2, .int x2), (3, .int x3), (4, .int x4)] → W p l e (rmm 5 126) s m args below meth c H locs 0 0 (QI below args s G O) (F0 m 29 ls []) := by
  intro n
  induction n with
  | zero => intro x1 x2 x3 x4 μ h; cases h
  | succ n ih => intro x1 x2 x3 x4 μ h; exact w_X8_fewestSteps_29 C hq21 (q29 := f_X8_fewestSteps_29 q21 n) ih x1 x2 x3 x4 μ h

def g_X8_fewestSteps_21   (q21 : Int32 → Int32 → Int32 → Mem → Option (Int32 × Mem)) (x1 : Int32) (x2 : Int32) (x3 : Int32) (μ : Mem) : Option (Int32 × Mem) := if 2 < x3 then (some (x1, μ)) else (f_X8_fewestSteps_29 q21 FU x1 x2 x3 0 μ)
def f_X8_fewestSteps_21   : Nat → Int32 → Int32 → Int32 → Mem → Option (Int32 × Mem)
  | 0, _, _, _, _ => none
  | n + 1, x1, x2, x3, μ => g_X8_fewestSteps_21  (f_X8_fewestSteps_21  n) x1 x2 x3 μ
set_option maxRecDepth 100000 in
set_option maxHeartbeats 4000000 in
theorem w_X8_fewestSteps_21 {p : Program} {l : Launch} {e : Env} {s : State} {m : MethodId} {args : Array Value} {below : List Frame} {meth : Method} {c : Code} {G : Gp} {O : (Int32 × Mem)} (C : Cx p s m args meth c cX8_fewestSteps 5 RX8 (some .int) G) {q21 : Int32 → Int32 → Int32 → Mem → Option (Int32 × Mem)} (hq21 : ∀ (x1 : Int32) (x2 : Int32) (x3 : Int32) (μ : Mem), q21 x1 x2 x3 μ = some O → ∀ (H : Heap) (locs : List Loc) (ls : Array Slot), Wm G μ H → va_S (wA G) s.heap H locs → lv_has ls 5 [(0, .ref (G.2.2 0)), (1, .int x1), (2, .int x2), (3, .int x3)] → W p l e (rmm 5 126) s m args below meth c H locs 0 0 (QI below args s G O) (F0 m 21 ls [])) : ∀ (x1 : Int32) (x2 : Int32) (x3 : Int32) (μ : Mem), g_X8_fewestSteps_21 q21 x1 x2 x3 μ = some O → ∀ (H : Heap) (locs : List Loc) (ls : Array Slot), Wm G μ H → va_S (wA G) s.heap H locs → lv_has ls 5 [(0, .ref (G.2.2 0)), (1, .int x1), (2, .int x2), (3, .int x3)] → W p l e (rmm 5 126) s m args below meth c H locs 0 0 (QI below args s G O) (F0 m 21 ls []) := by
  intro x1 x2 x3 μ h H locs ls hP hS hl
  unfold g_X8_fewestSteps_21 at h
  refine lv_iload_n C.x C.b dX8_fewestSteps_21 rfl (lv_at hl 3 rfl) ?_
  refine lv_iconst (v := 2) C.x C.b dX8_fewestSteps_22 (by decide) ?_
  refine lv_icmp_gt (tgt := 90) C.x C.b dX8_fewestSteps_23 (by decide) (fun c1 => ?_) (fun c1 => ?_)
  · have h := (if_pos c1).symm.trans h
    refine lv_iload_n C.x C.b dX8_fewestSteps_90 rfl (lv_at hl 1 rfl) ?_
    exact r_i h C hP hS dX8_fewestSteps_91
  · have h := (if_neg c1).symm.trans h
    refine lv_iconst (v := 0) C.x C.b dX8_fewestSteps_26 (by decide) ?_
    refine lv_istore (lv' := [(4, .int 0), (0, .ref (G.2.2 0)), (1, .int x1), (2, .int x2), (3, .int x3)]) C.x C.b dX8_fewestSteps_27 hl (by decide) rfl (fun ls hl => ?_)
    exact b_X8_fewestSteps_29 C hq21 FU x1 x2 x3 0 μ h _ _ _ hP hS (lv_sub hl [1, 2, 3, 4, 0] rfl)

set_option maxRecDepth 100000 in
set_option maxHeartbeats 4000000 in
theorem b_X8_fewestSteps_21 {p : Program} {l : Launch} {e : Env} {s : State} {m : MethodId} {args : Array Value} {below : List Frame} {meth : Method} {c : Code} {G : Gp} {O : (Int32 × Mem)} (C : Cx p s m args meth c cX8_fewestSteps 5 RX8 (some .int) G) : ∀ (n : Nat) (x1 : Int32) (x2 : Int32) (x3 : Int32) (μ : Mem), f_X8_fewestSteps_21 n x1 x2 x3 μ = some O → ∀ (H : Heap) (locs : List Loc) (ls : Array Slot), Wm G μ H → va_S (wA G) s.heap H locs → lv_has ls 5 [(0, .ref (G.2.2 0)), (1, .int x1), (2, .int x2), (3, .int x3)] → W p l e (rmm 5 126) s m args below meth c H locs 0 0 (QI below args s G O) (F0 m 21 ls []) := by
  intro n
  induction n with
  | zero => intro x1 x2 x3 μ h; cases h
  | succ n ih => intro x1 x2 x3 μ h; exact w_X8_fewestSteps_21 C (q21 := f_X8_fewestSteps_21 n) ih x1 x2 x3 μ h

def f_X8_fewestSteps  (μ : Mem) : Option (Int32 × Mem) := bnv (f_X0_copyFrom 95 15 μ) (fun μ2 => f_X8_fewestSteps_21 FU ((-5)) 0 0 μ2)
set_option maxRecDepth 100000 in
set_option maxHeartbeats 4000000 in
theorem b_X8_fewestSteps {p : Program} {l : Launch} {e : Env} {s : State} {m : MethodId} {args : Array Value} {below : List Frame} {meth : Method} {c : Code} {G : Gp} {O : (Int32 × Mem)} (C : Cx p s m args meth c cX8_fewestSteps 5 RX8 (some .int) G) {μ : Mem} (h : f_X8_fewestSteps μ = some O) : ∀ (H : Heap) (locs : List Loc) (ls : Array Slot), Wm G μ H → va_S (wA G) s.heap H locs → lv_has ls 5 [(0, .ref (G.2.2 0))] → W p l e (rmm 5 126) s m args below meth c H locs 0 0 (QI below args s G O) (F0 m 0 ls []) := by
  unfold f_X8_fewestSteps at h
  intro H locs ls hP hS hl
  refine lv_aload_n C.x C.b dX8_fewestSteps_0 rfl (lv_at hl 0 rfl) ?_
  refine g_ref (k' := 95) F_8_5 u2_84 C hP sh_0 rfl dX8_fewestSteps_1 ?_
  refine lv_aload_n C.x C.b dX8_fewestSteps_4 rfl (lv_at hl 0 rfl) ?_
  refine g_ref (k' := 14) F_8_0 u2_79 C hP sh_0 rfl dX8_fewestSteps_5 ?_
  refine g_ref (k' := 15) F_6_0 u1_237 C hP sh_14 rfl dX8_fewestSteps_8 ?_
  obtain ⟨μ2, e1, h⟩ := bnv_some h
  refine k_vv (k := 95) (as := [.ref (G.2.2 15)]) (rest := []) (c_X0_copyFrom C.i at_sGround_95 at_sGround_15 e1) M_X0_copyFrom u3_171 C hP hS sh_95 rfl rfl (by decide) hl.1 rfl (Nat.le_of_ble_eq_true rfl) dX8_fewestSteps_11 (fun H locs hP hS => ?_)
  refine lv_bipush (v := (-5)) C.x C.b dX8_fewestSteps_14 (by decide) ?_
  refine lv_istore_n (lv' := [(1, .int ((-5))), (0, .ref (G.2.2 0))]) C.x C.b dX8_fewestSteps_16 rfl hl (by decide) rfl (fun ls hl => ?_)
  refine lv_iconst (v := 0) C.x C.b dX8_fewestSteps_17 (by decide) ?_
  refine lv_istore_n (lv' := [(2, .int 0), (1, .int ((-5))), (0, .ref (G.2.2 0))]) C.x C.b dX8_fewestSteps_18 rfl hl (by decide) rfl (fun ls hl => ?_)
  refine lv_iconst (v := 0) C.x C.b dX8_fewestSteps_19 (by decide) ?_
  refine lv_istore_n (lv' := [(3, .int 0), (2, .int 0), (1, .int ((-5))), (0, .ref (G.2.2 0))]) C.x C.b dX8_fewestSteps_20 rfl hl (by decide) rfl (fun ls hl => ?_)
  exact b_X8_fewestSteps_21 C FU ((-5)) 0 0 μ2 h _ _ _ hP hS (lv_sub hl [3, 2, 1, 0] rfl)

set_option maxRecDepth 100000 in
set_option maxHeartbeats 4000000 in
theorem c_X8_fewestSteps {l : Launch} {G : Gp} (hI : Wi G) {μ : Mem} {r : Int32} {μ' : Mem} (h : f_X8_fewestSteps μ = some (r, μ')) : CI l yX8_fewestSteps cX8_fewestSteps 5 (some .int) 5 126 G [.ref (G.2.2 0)] μ r μ' :=
  e_all (lv := [(0, .ref (G.2.2 0))]) hI (by decide) (Nat.le_of_ble_eq_true rfl) rfl (fun p e s m args below meth c ls C hP hS hl => b_X8_fewestSteps C h _ _ _ hP hS hl)


def f_X8_cheapest (x1 : Int32) (μ : Mem) : Option (Int32 × Mem) := bnv (f_X8_isUpTo x1 1 μ) (fun r2 => if r2 = 0 then (some ((-1), μ)) else (bnv (f_X0_hasBothSides 15 μ) (fun r5 => if r5 = 0 then (some ((-5), μ)) else (if x1 = 0 then (bnd (f_X8_cheapestStart μ) (fun r12 μ13 => some (r12, μ13))) else (bnd (f_X8_fewestSteps μ) (fun r9 μ10 => some (r9, μ10)))))))
set_option maxRecDepth 100000 in
set_option maxHeartbeats 4000000 in
theorem b_X8_cheapest {p : Program} {l : Launch} {e : Env} {s : State} {m : MethodId} {args : Array Value} {below : List Frame} {meth : Method} {c : Code} {G : Gp} {O : (Int32 × Mem)} (C : Cx p s m args meth c cX8_cheapest 2 RX8 (some .int) G) {x1 : Int32} {μ : Mem} (h : f_X8_cheapest x1 μ = some O) : ∀ (H : Heap) (locs : List Loc) (ls : Array Slot), Wm G μ H → va_S (wA G) s.heap H locs → lv_has ls 2 [(0, .ref (G.2.2 0)), (1, .int x1)] → W p l e (rmm 6 150) s m args below meth c H locs 0 0 (QI below args s G O) (F0 m 0 ls []) := by
  unfold f_X8_cheapest at h
  intro H locs ls hP hS hl
  refine lv_iload_n C.x C.b dX8_cheapest_0 rfl (lv_at hl 1 rfl) ?_
  refine lv_iconst (v := 1) C.x C.b dX8_cheapest_1 (by decide) ?_
  obtain ⟨r2, e1, h⟩ := bnv_some h
  refine k_si (as := [.int x1, .int 1]) (rest := []) (c_X8_isUpTo C.i e1) M_X8_isUpTo u2_105 C hP hS rfl (by decide) hl.1 rfl (Nat.le_of_ble_eq_true rfl) dX8_cheapest_2 (fun H locs hP hS => ?_)
  refine lv_if_ne (tgt := 10) C.x C.b dX8_cheapest_5 (by decide) (fun c3 => ?_) (fun c3 => ?_)
  · have h := (if_neg c3).symm.trans h
    refine lv_aload_n C.x C.b dX8_cheapest_10 rfl (lv_at hl 0 rfl) ?_
    refine g_ref (k' := 14) F_8_0 u2_79 C hP sh_0 rfl dX8_cheapest_11 ?_
    refine g_ref (k' := 15) F_6_0 u1_237 C hP sh_14 rfl dX8_cheapest_14 ?_
    obtain ⟨r5, e4, h⟩ := bnv_some h
    refine k_vi (k := 15) (as := []) (rest := []) (c_X0_hasBothSides C.i at_sGround_15 e4) M_X0_hasBothSides u2_218 C hP hS sh_15 rfl rfl (by decide) hl.1 rfl (Nat.le_of_ble_eq_true rfl) dX8_cheapest_17 (fun H locs hP hS => ?_)
    refine lv_if_ne (tgt := 26) C.x C.b dX8_cheapest_20 (by decide) (fun c6 => ?_) (fun c6 => ?_)
    · have h := (if_neg c6).symm.trans h
      refine lv_iload_n C.x C.b dX8_cheapest_26 rfl (lv_at hl 1 rfl) ?_
      refine lv_if_ne (tgt := 37) C.x C.b dX8_cheapest_27 (by decide) (fun c7 => ?_) (fun c7 => ?_)
      · have h := (if_neg c7).symm.trans h
        refine lv_aload_n C.x C.b dX8_cheapest_37 rfl (lv_at hl 0 rfl) ?_
        obtain ⟨r9, μ10, e8, h⟩ := bnd_some h
        refine k_vi (k := 0) (as := []) (rest := []) (c_X8_fewestSteps C.i e8) M_X8_fewestSteps u3_188 C hP hS sh_0 rfl rfl (by decide) hl.1 rfl (Nat.le_of_ble_eq_true rfl) dX8_cheapest_38 (fun H locs hP hS => ?_)
        exact r_i h C hP hS dX8_cheapest_41
      · have h := (if_pos c7).symm.trans h
        refine lv_aload_n C.x C.b dX8_cheapest_30 rfl (lv_at hl 0 rfl) ?_
        obtain ⟨r12, μ13, e11, h⟩ := bnd_some h
        refine k_vi (k := 0) (as := []) (rest := []) (c_X8_cheapestStart C.i e11) M_X8_cheapestStart u3_184 C hP hS sh_0 rfl rfl (by decide) hl.1 rfl (Nat.le_of_ble_eq_true rfl) dX8_cheapest_31 (fun H locs hP hS => ?_)
        refine lv_goto (tgt := 41) C.x C.b dX8_cheapest_34 (by decide) ?_
        exact r_i h C hP hS dX8_cheapest_41
    · have h := (if_pos c6).symm.trans h
      refine lv_bipush (v := (-5)) C.x C.b dX8_cheapest_23 (by decide) ?_
      exact r_i h C hP hS dX8_cheapest_25
  · have h := (if_pos c3).symm.trans h
    refine lv_iconst (v := (-1)) C.x C.b dX8_cheapest_8 (by decide) ?_
    exact r_i h C hP hS dX8_cheapest_9

set_option maxRecDepth 100000 in
set_option maxHeartbeats 4000000 in
theorem c_X8_cheapest {l : Launch} {G : Gp} (hI : Wi G) {x1 : Int32} {μ : Mem} {r : Int32} {μ' : Mem} (h : f_X8_cheapest x1 μ = some (r, μ')) : CI l yX8_cheapest cX8_cheapest 2 (some .int) 6 150 G [.ref (G.2.2 0), .int x1] μ r μ' :=
  e_all (lv := [(0, .ref (G.2.2 0)), (1, .int x1)]) hI (by decide) (Nat.le_of_ble_eq_true rfl) rfl (fun p e s m args below meth c ls C hP hS hl => b_X8_cheapest C h _ _ _ hP hS hl)


def f_X8_tryTheBest  (μ : Mem) : Option (Int32 × Mem) := bnd (f_X8_tryBest 1 1 μ) (fun r2 μ3 => grd (isB r2) (some (r2, μ3)))
set_option maxRecDepth 100000 in
set_option maxHeartbeats 4000000 in
theorem b_X8_tryTheBest {p : Program} {l : Launch} {e : Env} {s : State} {m : MethodId} {args : Array Value} {below : List Frame} {meth : Method} {c : Code} {G : Gp} {O : (Int32 × Mem)} (C : Cx p s m args meth c cX8_tryTheBest 1 RX8 (some .boolean) G) {μ : Mem} (h : f_X8_tryTheBest μ = some O) : ∀ (H : Heap) (locs : List Loc) (ls : Array Slot), Wm G μ H → va_S (wA G) s.heap H locs → lv_has ls 1 [(0, .ref (G.2.2 0))] → W p l e (rmm 5 126) s m args below meth c H locs 0 0 (QI below args s G O) (F0 m 0 ls []) := by
  unfold f_X8_tryTheBest at h
  intro H locs ls hP hS hl
  refine lv_aload_n C.x C.b dX8_tryTheBest_0 rfl (lv_at hl 0 rfl) ?_
  refine lv_iconst (v := 1) C.x C.b dX8_tryTheBest_1 (by decide) ?_
  refine lv_iconst (v := 1) C.x C.b dX8_tryTheBest_2 (by decide) ?_
  obtain ⟨r2, μ3, e1, h⟩ := bnd_some h
  refine k_vi (k := 0) (as := [.int 1, .int 1]) (rest := []) (c_X8_tryBest C.i e1) M_X8_tryBest u3_176 C hP hS sh_0 rfl rfl (by decide) hl.1 rfl (Nat.le_of_ble_eq_true rfl) dX8_tryTheBest_3 (fun H locs hP hS => ?_)
  obtain ⟨g4, h⟩ := grd_some h
  exact r_z h g4 C hP hS dX8_tryTheBest_6

set_option maxRecDepth 100000 in
set_option maxHeartbeats 4000000 in
theorem c_X8_tryTheBest {l : Launch} {G : Gp} (hI : Wi G) {μ : Mem} {r : Int32} {μ' : Mem} (h : f_X8_tryTheBest μ = some (r, μ')) : CI l yX8_tryTheBest cX8_tryTheBest 1 (some .boolean) 5 126 G [.ref (G.2.2 0)] μ r μ' :=
  e_all (lv := [(0, .ref (G.2.2 0))]) hI (by decide) (Nat.le_of_ble_eq_true rfl) rfl (fun p e s m args below meth c ls C hP hS hl => b_X8_tryTheBest C h _ _ _ hP hS hl)


def f_X8_more (x1 : Int32) (x2 : Int32) (μ : Mem) : Option (Int64 × Mem) := bnv (f_X0_isRoad 15 x1 x2 μ) (fun r2 => if r2 = 0 then (some ((-9223372036854775808), μ)) else (bnv (f_X0_copyFrom 95 15 μ) (fun μ5 => bnd (f_X8_tryTheBest μ5) (fun r7 μ8 => if r7 = 0 then (some ((-9223372036854775808), μ8)) else (bnv (f_X3_total 102 μ8) (fun r11 => lt (Int32.toInt64 r11) (fun y12 => grd (inb x1 5) (grd (inb x1 5) (lt (st μ8 96 x1.toNatClampNeg ((μ8.1 96 x1.toNatClampNeg) + 1)) (fun μ15 => grd (inb x2 5) (grd (inb x2 5) (lt (st μ15 98 x2.toNatClampNeg ((μ15.1 98 x2.toNatClampNeg) + 1)) (fun μ18 => bnd (f_X8_tryTheBest μ18) (fun r20 μ21 => if r20 = 0 then (some ((-9223372036854775808), μ21)) else (bnv (f_X3_total 102 μ21) (fun r24 => some ((Int32.toInt64 r24) - y12, μ21)))))))))))))))))
set_option maxRecDepth 100000 in
set_option maxHeartbeats 4000000 in
theorem b_X8_more {p : Program} {l : Launch} {e : Env} {s : State} {m : MethodId} {args : Array Value} {below : List Frame} {meth : Method} {c : Code} {G : Gp} {O : (Int64 × Mem)} (C : Cx p s m args meth c cX8_more 5 RX8 (some .long) G) {x1 : Int32} {x2 : Int32} {μ : Mem} (h : f_X8_more x1 x2 μ = some O) : ∀ (H : Heap) (locs : List Loc) (ls : Array Slot), Wm G μ H → va_S (wA G) s.heap H locs → lv_has ls 5 [(0, .ref (G.2.2 0)), (1, .int x1), (2, .int x2)] → W p l e (rmm 6 146) s m args below meth c H locs 0 0 (QL below args s G O) (F0 m 0 ls []) := by
  unfold f_X8_more at h
  intro H locs ls hP hS hl
  refine lv_aload_n C.x C.b dX8_more_0 rfl (lv_at hl 0 rfl) ?_
  refine g_ref (k' := 14) F_8_0 u2_79 C hP sh_0 rfl dX8_more_1 ?_
  refine g_ref (k' := 15) F_6_0 u1_237 C hP sh_14 rfl dX8_more_4 ?_
  refine lv_iload_n C.x C.b dX8_more_7 rfl (lv_at hl 1 rfl) ?_
  refine lv_iload_n C.x C.b dX8_more_8 rfl (lv_at hl 2 rfl) ?_
  obtain ⟨r2, e1, h⟩ := bnv_some h
  refine k_vi (k := 15) (as := [.int x1, .int x2]) (rest := []) (c_X0_isRoad C.i at_sGround_15 e1) M_X0_isRoad u2_136 C hP hS sh_15 rfl rfl (by decide) hl.1 rfl (Nat.le_of_ble_eq_true rfl) dX8_more_9 (fun H locs hP hS => ?_)
  refine lv_if_ne (tgt := 19) C.x C.b dX8_more_12 (by decide) (fun c3 => ?_) (fun c3 => ?_)
  · have h := (if_neg c3).symm.trans h
    refine lv_aload_n C.x C.b dX8_more_19 rfl (lv_at hl 0 rfl) ?_
    refine g_ref (k' := 95) F_8_5 u2_84 C hP sh_0 rfl dX8_more_20 ?_
    refine lv_aload_n C.x C.b dX8_more_23 rfl (lv_at hl 0 rfl) ?_
    refine g_ref (k' := 14) F_8_0 u2_79 C hP sh_0 rfl dX8_more_24 ?_
    refine g_ref (k' := 15) F_6_0 u1_237 C hP sh_14 rfl dX8_more_27 ?_
    obtain ⟨μ5, e4, h⟩ := bnv_some h
    refine k_vv (k := 95) (as := [.ref (G.2.2 15)]) (rest := []) (c_X0_copyFrom C.i at_sGround_95 at_sGround_15 e4) M_X0_copyFrom u3_171 C hP hS sh_95 rfl rfl (by decide) hl.1 rfl (Nat.le_of_ble_eq_true rfl) dX8_more_30 (fun H locs hP hS => ?_)
    refine lv_aload_n C.x C.b dX8_more_33 rfl (lv_at hl 0 rfl) ?_
    obtain ⟨r7, μ8, e6, h⟩ := bnd_some h
    refine k_vi (k := 0) (as := []) (rest := []) (c_X8_tryTheBest C.i e6) M_X8_tryTheBest u3_196 C hP hS sh_0 rfl rfl (by decide) hl.1 rfl (Nat.le_of_ble_eq_true rfl) dX8_more_34 (fun H locs hP hS => ?_)
    refine lv_if_ne (tgt := 44) C.x C.b dX8_more_37 (by decide) (fun c9 => ?_) (fun c9 => ?_)
    · have h := (if_neg c9).symm.trans h
      refine lv_aload_n C.x C.b dX8_more_44 rfl (lv_at hl 0 rfl) ?_
      refine g_ref (k' := 102) F_8_6 u2_85 C hP sh_0 rfl dX8_more_45 ?_
      obtain ⟨r11, e10, h⟩ := bnv_some h
      refine k_vi (k := 102) (as := []) (rest := []) (c_X3_total C.i at_sPlan_102 e10) M_X3_total u3_56 C hP hS sh_102 rfl rfl (by decide) hl.1 rfl (Nat.le_of_ble_eq_true rfl) dX8_more_48 (fun H locs hP hS => ?_)
      refine lv_i2l (v := Int32.toInt64 r11) C.x C.b dX8_more_51 rfl ?_
      refine lv_topl (fun y12 e_y12 => ?_)
      have h := lt_at h e_y12
      refine lv_lstore_n (lv' := [(3, .long y12), (0, .ref (G.2.2 0)), (1, .int x1), (2, .int x2)]) C.x C.b dX8_more_52 rfl hl (by decide) rfl (fun ls hl => ?_)
      refine lv_aload_n C.x C.b dX8_more_53 rfl (lv_at hl 1 rfl) ?_
      refine g_ref (k' := 95) F_8_5 u2_84 C hP sh_0 rfl dX8_more_54 ?_
      refine g_ref (k' := 96) F_0_2 u1_48 C hP sh_95 rfl dX8_more_57 ?_
      refine lv_iload_n C.x C.b dX8_more_60 rfl (lv_at hl 2 rfl) ?_
      refine lv_dup2_11 C.x C.b dX8_more_61 rfl rfl ?_
      obtain ⟨g13, h⟩ := grd_some h
      refine a_i C hP sh_96 g13 dX8_more_62 ?_
      refine lv_iconst (v := 1) C.x C.b dX8_more_63 (by decide) ?_
      refine lv_iadd C.x C.b dX8_more_64 ?_
      obtain ⟨g14, h⟩ := grd_some h
      refine as_i C hP hS sh_96 g14 dX8_more_65 (fun H locs hP hS => ?_)
      obtain ⟨μ15, m_μ15, h⟩ := lt_ex h
      have hP : Wm G μ15 H := by rw [m_μ15]; exact hP
      refine lv_aload_n C.x C.b dX8_more_66 rfl (lv_at hl 1 rfl) ?_
      refine g_ref (k' := 95) F_8_5 u2_84 C hP sh_0 rfl dX8_more_67 ?_
      refine g_ref (k' := 98) F_0_4 u1_52 C hP sh_95 rfl dX8_more_70 ?_
      refine lv_iload_n C.x C.b dX8_more_73 rfl (lv_at hl 3 rfl) ?_
      refine lv_dup2_11 C.x C.b dX8_more_74 rfl rfl ?_
      obtain ⟨g16, h⟩ := grd_some h
      refine a_i C hP sh_98 g16 dX8_more_75 ?_
      refine lv_iconst (v := 1) C.x C.b dX8_more_76 (by decide) ?_
      refine lv_iadd C.x C.b dX8_more_77 ?_
      obtain ⟨g17, h⟩ := grd_some h
      refine as_i C hP hS sh_98 g17 dX8_more_78 (fun H locs hP hS => ?_)
      obtain ⟨μ18, m_μ18, h⟩ := lt_ex h
      have hP : Wm G μ18 H := by rw [m_μ18]; exact hP
      refine lv_aload_n C.x C.b dX8_more_79 rfl (lv_at hl 1 rfl) ?_
      obtain ⟨r20, μ21, e19, h⟩ := bnd_some h
      refine k_vi (k := 0) (as := []) (rest := []) (c_X8_tryTheBest C.i e19) M_X8_tryTheBest u3_196 C hP hS sh_0 rfl rfl (by decide) hl.1 rfl (Nat.le_of_ble_eq_true rfl) dX8_more_80 (fun H locs hP hS => ?_)
      refine lv_if_eq (tgt := 99) C.x C.b dX8_more_83 (by decide) (fun c22 => ?_) (fun c22 => ?_)
      · have h := (if_pos c22).symm.trans h
        refine lv_ldc2 (own := RX8) (v := (-9223372036854775808)) C.x C.b C.o (C.t _ u3_124) dX8_more_99 ?_
        exact r_l h C hP hS dX8_more_102
      · have h := (if_neg c22).symm.trans h
        refine lv_aload_n C.x C.b dX8_more_86 rfl (lv_at hl 1 rfl) ?_
        refine g_ref (k' := 102) F_8_6 u2_85 C hP sh_0 rfl dX8_more_87 ?_
        obtain ⟨r24, e23, h⟩ := bnv_some h
        refine k_vi (k := 102) (as := []) (rest := []) (c_X3_total C.i at_sPlan_102 e23) M_X3_total u3_56 C hP hS sh_102 rfl rfl (by decide) hl.1 rfl (Nat.le_of_ble_eq_true rfl) dX8_more_90 (fun H locs hP hS => ?_)
        refine lv_i2l (v := Int32.toInt64 r24) C.x C.b dX8_more_93 rfl ?_
        refine lv_lload_n C.x C.b dX8_more_94 rfl (lv_at hl 0 rfl) ?_
        refine lv_lsub C.x C.b dX8_more_95 ?_
        refine lv_goto (tgt := 102) C.x C.b dX8_more_96 (by decide) ?_
        exact r_l h C hP hS dX8_more_102
    · have h := (if_pos c9).symm.trans h
      refine lv_ldc2 (own := RX8) (v := (-9223372036854775808)) C.x C.b C.o (C.t _ u3_124) dX8_more_40 ?_
      exact r_l h C hP hS dX8_more_43
  · have h := (if_pos c3).symm.trans h
    refine lv_ldc2 (own := RX8) (v := (-9223372036854775808)) C.x C.b C.o (C.t _ u3_124) dX8_more_15 ?_
    exact r_l h C hP hS dX8_more_18

set_option maxRecDepth 100000 in
set_option maxHeartbeats 4000000 in
theorem c_X8_more {l : Launch} {G : Gp} (hI : Wi G) {x1 : Int32} {x2 : Int32} {μ : Mem} {r : Int64} {μ' : Mem} (h : f_X8_more x1 x2 μ = some (r, μ')) : CL l yX8_more cX8_more 5 (some .long) 6 146 G [.ref (G.2.2 0), .int x1, .int x2] μ r μ' :=
  e_all (lv := [(0, .ref (G.2.2 0)), (1, .int x1), (2, .int x2)]) hI (by decide) (Nat.le_of_ble_eq_true rfl) rfl (fun p e s m args below meth c ls C hP hS hl => b_X8_more C h _ _ _ hP hS hl)


def g_X8_rise_66 (x1 : Int32) (x2 : Int32)  (q66 : Int32 → Mem → Option (Int32 × Mem)) (x4 : Int32) (μ : Mem) : Option (Int32 × Mem) := if 99 ≤ x4 then (some (99, μ)) else (bnv (f_X8_cellAt x1 x2 μ) (fun r3 => grd (inb r3 36) (grd (inb r3 36) (lt (st μ 103 r3.toNatClampNeg ((μ.1 103 r3.toNatClampNeg) + 1)) (fun μ6 => bnv (f_X3_reckonWorths 102 μ6) (fun μ8 => bnd (f_X3_isProved 102 μ8) (fun r10 μ11 => if r10 = 0 then (some (x4, μ11)) else (lt (x4 + 1) (fun y13 => q66 y13 μ11)))))))))
def f_X8_rise_66 (x1 : Int32) (x2 : Int32)  : Nat → Int32 → Mem → Option (Int32 × Mem)
  | 0, _, _ => none
  | n + 1, x4, μ => g_X8_rise_66 x1 x2 (f_X8_rise_66 x1 x2 n) x4 μ
set_option maxRecDepth 100000 in
set_option maxHeartbeats 4000000 in
theorem w_X8_rise_66 {p : Program} {l : Launch} {e : Env} {s : State} {m : MethodId} {args : Array Value} {below : List Frame} {meth : Method} {c : Code} {G : Gp} {O : (Int32 × Mem)} (C : Cx p s m args meth c cX8_rise 5 RX8 (some .int) G) {x1 : Int32} {x2 : Int32} {q66 : Int32 → Mem → Option (Int32 × Mem)} (hq66 : ∀ (x4 : Int32) (μ : Mem), q66 x4 μ = some O → ∀ (H : Heap) (locs : List Loc) (ls : Array Slot), Wm G μ H → va_S (wA G) s.heap H locs → lv_has ls 5 [(0, .ref (G.2.2 0)), (1, .int x1), (2, .int x2), (4, .int x4)] → W p l e (rmm 4 100) s m args below meth c H locs 0 0 (QI below args s G O) (F0 m 66 ls [])) : ∀ (x4 : Int32) (μ : Mem), g_X8_rise_66 x1 x2 q66 x4 μ = some O → ∀ (H : Heap) (locs : List Loc) (ls : Array Slot), Wm G μ H → va_S (wA G) s.heap H locs → lv_has ls 5 [(0, .ref (G.2.2 0)), (1, .int x1), (2, .int x2), (4, .int x4)] → W p l e (rmm 4 100) s m args below meth c H locs 0 0 (QI below args s G O) (F0 m 66 ls []) := by
  intro x4 μ h H locs ls hP hS hl
  unfold g_X8_rise_66 at h
  refine lv_iload C.x C.b dX8_rise_66 (lv_at hl 3 rfl) ?_
  refine lv_bipush (v := 99) C.x C.b dX8_rise_68 (by decide) ?_
  refine lv_icmp_ge (tgt := 116) C.x C.b dX8_rise_70 (by decide) (fun c1 => ?_) (fun c1 => ?_)
  · have h := (if_pos c1).symm.trans h
    refine lv_bipush (v := 99) C.x C.b dX8_rise_116 (by decide) ?_
    exact r_i h C hP hS dX8_rise_118
  · have h := (if_neg c1).symm.trans h
    refine lv_aload_n C.x C.b dX8_rise_73 rfl (lv_at hl 0 rfl) ?_
    refine g_ref (k' := 102) F_8_6 u2_85 C hP sh_0 rfl dX8_rise_74 ?_
    refine g_ref (k' := 103) F_3_4 u1_158 C hP sh_102 rfl dX8_rise_77 ?_
    refine lv_iload_n C.x C.b dX8_rise_80 rfl (lv_at hl 1 rfl) ?_
    refine lv_iload_n C.x C.b dX8_rise_81 rfl (lv_at hl 2 rfl) ?_
    obtain ⟨r3, e2, h⟩ := bnv_some h
    refine k_si (as := [.int x1, .int x2]) (rest := [.ref (G.2.2 103)]) (c_X8_cellAt C.i e2) M_X8_cellAt u3_115 C hP hS rfl (by decide) hl.1 rfl (Nat.le_of_ble_eq_true rfl) dX8_rise_82 (fun H locs hP hS => ?_)
    refine lv_dup2_11 C.x C.b dX8_rise_85 rfl rfl ?_
    obtain ⟨g4, h⟩ := grd_some h
    refine a_i C hP sh_103 g4 dX8_rise_86 ?_
    refine lv_iconst (v := 1) C.x C.b dX8_rise_87 (by decide) ?_
    refine lv_iadd C.x C.b dX8_rise_88 ?_
    obtain ⟨g5, h⟩ := grd_some h
    refine as_i C hP hS sh_103 g5 dX8_rise_89 (fun H locs hP hS => ?_)
    obtain ⟨μ6, m_μ6, h⟩ := lt_ex h
    have hP : Wm G μ6 H := by rw [m_μ6]; exact hP
    refine lv_aload_n C.x C.b dX8_rise_90 rfl (lv_at hl 0 rfl) ?_
    refine g_ref (k' := 102) F_8_6 u2_85 C hP sh_0 rfl dX8_rise_91 ?_
    obtain ⟨μ8, e7, h⟩ := bnv_some h
    refine k_vv (k := 102) (as := []) (rest := []) (c_X3_reckonWorths C.i at_sPlan_102 e7) M_X3_reckonWorths u3_209 C hP hS sh_102 rfl rfl (by decide) hl.1 rfl (Nat.le_of_ble_eq_true rfl) dX8_rise_94 (fun H locs hP hS => ?_)
    refine lv_aload_n C.x C.b dX8_rise_97 rfl (lv_at hl 0 rfl) ?_
    refine g_ref (k' := 102) F_8_6 u2_85 C hP sh_0 rfl dX8_rise_98 ?_
    obtain ⟨r10, μ11, e9, h⟩ := bnd_some h
    refine k_vi (k := 102) (as := []) (rest := []) (c_X3_isProved C.i at_sPlan_102 e9) M_X3_isProved u3_148 C hP hS sh_102 rfl rfl (by decide) hl.1 rfl (Nat.le_of_ble_eq_true rfl) dX8_rise_101 (fun H locs hP hS => ?_)
    refine lv_if_ne (tgt := 110) C.x C.b dX8_rise_104 (by decide) (fun c12 => ?_) (fun c12 => ?_)
    · have h := (if_neg c12).symm.trans h
      obtain ⟨y13, e_y13, h⟩ := lt_ex h
      refine lv_iinc (v := y13) (lv' := [(4, .int y13), (0, .ref (G.2.2 0)), (1, .int x1), (2, .int x2)]) C.x C.b dX8_rise_110 hl (k := 3) rfl (by rw [e_y13]; rfl) (by decide) rfl (fun ls hl => ?_)
      refine lv_goto (tgt := 66) C.x C.b dX8_rise_113 (by decide) ?_
      exact hq66 y13 μ11 h _ _ _ hP hS (lv_sub hl [1, 2, 3, 0] rfl)
    · have h := (if_pos c12).symm.trans h
      refine lv_iload C.x C.b dX8_rise_107 (lv_at hl 3 rfl) ?_
      exact r_i h C hP hS dX8_rise_109

set_option maxRecDepth 100000 in
set_option maxHeartbeats 4000000 in
theorem b_X8_rise_66 {p : Program} {l : Launch} {e : Env} {s : State} {m : MethodId} {args : Array Value} {below : List Frame} {meth : Method} {c : Code} {G : Gp} {O : (Int32 × Mem)} (C : Cx p s m args meth c cX8_rise 5 RX8 (some .int) G) {x1 : Int32} {x2 : Int32} : ∀ (n : Nat) (x4 : Int32) (μ : Mem), f_X8_rise_66 x1 x2 n x4 μ = some O → ∀ (H : Heap) (locs : List Loc) (ls : Array Slot), Wm G μ H → va_S (wA G) s.heap H locs → lv_has ls 5 [(0, .ref (G.2.2 0)), (1, .int x1), (2, .int x2), (4, .int x4)] → W p l e (rmm 4 100) s m args below meth c H locs 0 0 (QI below args s G O) (F0 m 66 ls []) := by
  intro n
  induction n with
  | zero => intro x4 μ h; cases h
  | succ n ih => intro x4 μ h; exact w_X8_rise_66 C (q66 := f_X8_rise_66 x1 x2 n) ih x4 μ h

def f_X8_rise (x1 : Int32) (x2 : Int32) (μ : Mem) : Option (Int32 × Mem) := bnv (f_X0_isRoad 15 x1 x2 μ) (fun r2 => if r2 = 0 then (some ((-1), μ)) else (if (μ.1 22 0) = 0 then (some ((-3), μ)) else (bnd (f_X3_isProved 22 μ) (fun r6 μ7 => if r6 = 0 then (some ((-3), μ7)) else (bnv (f_X8_cellAt x1 x2 μ7) (fun r10 => grd (inb r10 36) (if (μ7.1 25 r10.toNatClampNeg) = 0 then (some ((-3), μ7)) else (bnv (f_X3_copyFrom 102 22 μ7) (fun μ14 => f_X8_rise_66 x1 x2 FU 0 μ14)))))))))
set_option maxRecDepth 100000 in
set_option maxHeartbeats 4000000 in
theorem b_X8_rise {p : Program} {l : Launch} {e : Env} {s : State} {m : MethodId} {args : Array Value} {below : List Frame} {meth : Method} {c : Code} {G : Gp} {O : (Int32 × Mem)} (C : Cx p s m args meth c cX8_rise 5 RX8 (some .int) G) {x1 : Int32} {x2 : Int32} {μ : Mem} (h : f_X8_rise x1 x2 μ = some O) : ∀ (H : Heap) (locs : List Loc) (ls : Array Slot), Wm G μ H → va_S (wA G) s.heap H locs → lv_has ls 5 [(0, .ref (G.2.2 0)), (1, .int x1), (2, .int x2)] → W p l e (rmm 4 100) s m args below meth c H locs 0 0 (QI below args s G O) (F0 m 0 ls []) := by
  unfold f_X8_rise at h
  intro H locs ls hP hS hl
  refine lv_aload_n C.x C.b dX8_rise_0 rfl (lv_at hl 0 rfl) ?_
  refine g_ref (k' := 14) F_8_0 u2_79 C hP sh_0 rfl dX8_rise_1 ?_
  refine g_ref (k' := 15) F_6_0 u1_237 C hP sh_14 rfl dX8_rise_4 ?_
  refine lv_iload_n C.x C.b dX8_rise_7 rfl (lv_at hl 1 rfl) ?_
  refine lv_iload_n C.x C.b dX8_rise_8 rfl (lv_at hl 2 rfl) ?_
  obtain ⟨r2, e1, h⟩ := bnv_some h
  refine k_vi (k := 15) (as := [.int x1, .int x2]) (rest := []) (c_X0_isRoad C.i at_sGround_15 e1) M_X0_isRoad u2_136 C hP hS sh_15 rfl rfl (by decide) hl.1 rfl (Nat.le_of_ble_eq_true rfl) dX8_rise_9 (fun H locs hP hS => ?_)
  refine lv_if_ne (tgt := 17) C.x C.b dX8_rise_12 (by decide) (fun c3 => ?_) (fun c3 => ?_)
  · have h := (if_neg c3).symm.trans h
    refine lv_aload_n C.x C.b dX8_rise_17 rfl (lv_at hl 0 rfl) ?_
    refine g_ref (k' := 14) F_8_0 u2_79 C hP sh_0 rfl dX8_rise_18 ?_
    refine g_ref (k' := 22) F_6_1 u1_239 C hP sh_14 rfl dX8_rise_21 ?_
    refine lv_astore_n (lv' := [(3, .ref (G.2.2 22)), (0, .ref (G.2.2 0)), (1, .int x1), (2, .int x2)]) C.x C.b dX8_rise_24 rfl hl (by decide) rfl (fun ls hl => ?_)
    refine lv_aload_n C.x C.b dX8_rise_25 rfl (lv_at hl 0 rfl) ?_
    refine g_int F_3_0 u1_150 C hP sh_22 dX8_rise_26 ?_
    refine lv_if_eq (tgt := 52) C.x C.b dX8_rise_29 (by decide) (fun c4 => ?_) (fun c4 => ?_)
    · have h := (if_pos c4).symm.trans h
      refine lv_bipush (v := (-3)) C.x C.b dX8_rise_52 (by decide) ?_
      exact r_i h C hP hS dX8_rise_54
    · have h := (if_neg c4).symm.trans h
      refine lv_aload_n C.x C.b dX8_rise_32 rfl (lv_at hl 0 rfl) ?_
      obtain ⟨r6, μ7, e5, h⟩ := bnd_some h
      refine k_vi (k := 22) (as := []) (rest := []) (c_X3_isProved C.i at_sPlan_22 e5) M_X3_isProved u3_148 C hP hS sh_22 rfl rfl (by decide) hl.1 rfl (Nat.le_of_ble_eq_true rfl) dX8_rise_33 (fun H locs hP hS => ?_)
      refine lv_if_eq (tgt := 52) C.x C.b dX8_rise_36 (by decide) (fun c8 => ?_) (fun c8 => ?_)
      · have h := (if_pos c8).symm.trans h
        refine lv_bipush (v := (-3)) C.x C.b dX8_rise_52 (by decide) ?_
        exact r_i h C hP hS dX8_rise_54
      · have h := (if_neg c8).symm.trans h
        refine lv_aload_n C.x C.b dX8_rise_39 rfl (lv_at hl 0 rfl) ?_
        refine g_ref (k' := 25) F_3_6 u1_162 C hP sh_22 rfl dX8_rise_40 ?_
        refine lv_iload_n C.x C.b dX8_rise_43 rfl (lv_at hl 2 rfl) ?_
        refine lv_iload_n C.x C.b dX8_rise_44 rfl (lv_at hl 3 rfl) ?_
        obtain ⟨r10, e9, h⟩ := bnv_some h
        refine k_si (as := [.int x1, .int x2]) (rest := [.ref (G.2.2 25)]) (c_X8_cellAt C.i e9) M_X8_cellAt u3_115 C hP hS rfl (by decide) hl.1 rfl (Nat.le_of_ble_eq_true rfl) dX8_rise_45 (fun H locs hP hS => ?_)
        obtain ⟨g11, h⟩ := grd_some h
        refine a_z C hP sh_25 g11 dX8_rise_48 ?_
        refine lv_if_ne (tgt := 55) C.x C.b dX8_rise_49 (by decide) (fun c12 => ?_) (fun c12 => ?_)
        · have h := (if_neg c12).symm.trans h
          refine lv_aload_n C.x C.b dX8_rise_55 rfl (lv_at hl 1 rfl) ?_
          refine g_ref (k' := 102) F_8_6 u2_85 C hP sh_0 rfl dX8_rise_56 ?_
          refine lv_aload_n C.x C.b dX8_rise_59 rfl (lv_at hl 0 rfl) ?_
          obtain ⟨μ14, e13, h⟩ := bnv_some h
          refine k_vv (k := 102) (as := [.ref (G.2.2 22)]) (rest := []) (c_X3_copyFrom C.i at_sPlan_102 at_sPlan_22 e13) M_X3_copyFrom u3_204 C hP hS sh_102 rfl rfl (by decide) hl.1 rfl (Nat.le_of_ble_eq_true rfl) dX8_rise_60 (fun H locs hP hS => ?_)
          refine lv_iconst (v := 0) C.x C.b dX8_rise_63 (by decide) ?_
          refine lv_istore (lv' := [(4, .int 0), (3, .ref (G.2.2 22)), (0, .ref (G.2.2 0)), (1, .int x1), (2, .int x2)]) C.x C.b dX8_rise_64 hl (by decide) rfl (fun ls hl => ?_)
          exact b_X8_rise_66 C FU 0 μ14 h _ _ _ hP hS (lv_sub hl [2, 3, 4, 0] rfl)
        · have h := (if_pos c12).symm.trans h
          refine lv_bipush (v := (-3)) C.x C.b dX8_rise_52 (by decide) ?_
          exact r_i h C hP hS dX8_rise_54
  · have h := (if_pos c3).symm.trans h
    refine lv_iconst (v := (-1)) C.x C.b dX8_rise_15 (by decide) ?_
    exact r_i h C hP hS dX8_rise_16

set_option maxRecDepth 100000 in
set_option maxHeartbeats 4000000 in
theorem c_X8_rise {l : Launch} {G : Gp} (hI : Wi G) {x1 : Int32} {x2 : Int32} {μ : Mem} {r : Int32} {μ' : Mem} (h : f_X8_rise x1 x2 μ = some (r, μ')) : CI l yX8_rise cX8_rise 5 (some .int) 4 100 G [.ref (G.2.2 0), .int x1, .int x2] μ r μ' :=
  e_all (lv := [(0, .ref (G.2.2 0)), (1, .int x1), (2, .int x2)]) hI (by decide) (Nat.le_of_ble_eq_true rfl) rfl (fun p e s m args below meth c ls C hP hS hl => b_X8_rise C h _ _ _ hP hS hl)


def g_X8_missed_37 (x1 : Int32) (q19 : Int32 → Int32 → Int32 → Mem → Option (Int32 × Mem)) (q37 : Int32 → Int32 → Int32 → Int32 → Mem → Option (Int32 × Mem)) (x2 : Int32) (x3 : Int32) (x4 : Int32) (x5 : Int32) (μ : Mem) : Option (Int32 × Mem) := if (μ.1 15 1) ≤ x5 then (lt (x4 + 1) (fun y2 => q19 x2 x3 y2 μ)) else (bnv (f_X0_copyFrom 95 15 μ) (fun μ4 => bnd (f_X0_shutRoad 95 x4 x5 μ4) (fun r6 μ7 => if r6 = 0 then (lt (x5 + 1) (fun y9 => q37 x2 x3 x4 y9 μ7)) else (bnd (f_X8_tryTheBest μ7) (fun r11 μ12 => if r11 = 0 then (lt (x5 + 1) (fun y14 => q37 x2 x3 x4 y14 μ12)) else (bnv (f_X3_total 102 μ12) (fun r16 => if r16 ≤ x2 then (lt (x5 + 1) (fun y18 => q37 x2 x3 x4 y18 μ12)) else (bnv (f_X3_total 102 μ12) (fun r20 => lt ((10 * x4) + x5) (fun y21 => lt (x5 + 1) (fun y22 => q37 r20 y21 x4 y22 μ12)))))))))))
def f_X8_missed_37 (x1 : Int32) (q19 : Int32 → Int32 → Int32 → Mem → Option (Int32 × Mem)) : Nat → Int32 → Int32 → Int32 → Int32 → Mem → Option (Int32 × Mem)
  | 0, _, _, _, _, _ => none
  | n + 1, x2, x3, x4, x5, μ => g_X8_missed_37 x1 q19 (f_X8_missed_37 x1 q19 n) x2 x3 x4 x5 μ
set_option maxRecDepth 100000 in
set_option maxHeartbeats 4000000 in
theorem w_X8_missed_37 {p : Program} {l : Launch} {e : Env} {s : State} {m : MethodId} {args : Array Value} {below : List Frame} {meth : Method} {c : Code} {G : Gp} {O : (Int32 × Mem)} (C : Cx p s m args meth c cX8_missed 6 RX8 (some .int) G) {x1 : Int32} {q19 : Int32 → Int32 → Int32 → Mem → Option (Int32 × Mem)} (hq19 : ∀ (x2 : Int32) (x3 : Int32) (x4 : Int32) (μ : Mem), q19 x2 x3 x4 μ = some O → ∀ (H : Heap) (locs : List Loc) (ls : Array Slot), Wm G μ H → va_S (wA G) s.heap H locs → lv_has ls 6 [(0, .ref (G.2.2 0)), (1, .int x1), (2, .int x2), (3, .int x3), (4, .int x4)] → W p l e (rmm 6 146) s m args below meth c H locs 0 0 (QI below args s G O) (F0 m 19 ls [])) {q37 : Int32 → Int32 → Int32 → Int32 → Mem → Option (Int32 × Mem)} (hq37 : ∀ (x2 : Int32) (x3 : Int32) (x4 : Int32) (x5 : Int32) (μ : Mem), q37 x2 x3 x4 x5 μ = some O → ∀ (H : Heap) (locs : List Loc) (ls : Array Slot), Wm G μ H → va_S (wA G) s.heap H locs → lv_has ls 6 [(0, .ref (G.2.2 0)), (1, .int x1), (2, .int x2), (3, .int x3), (4, .int x4), (5, .int x5)] → W p l e (rmm 6 146) s m args below meth c H locs 0 0 (QI below args s G O) (F0 m 37 ls [])) : ∀ (x2 : Int32) (x3 : Int32) (x4 : Int32) (x5 : Int32) (μ : Mem), g_X8_missed_37 x1 q19 q37 x2 x3 x4 x5 μ = some O → ∀ (H : Heap) (locs : List Loc) (ls : Array Slot), Wm G μ H → va_S (wA G) s.heap H locs → lv_has ls 6 [(0, .ref (G.2.2 0)), (1, .int x1), (2, .int x2), (3, .int x3), (4, .int x4), (5, .int x5)] → W p l e (rmm 6 146) s m args below meth c H locs 0 0 (QI below args s G O) (F0 m 37 ls []) := by
  intro x2 x3 x4 x5 μ h H locs ls hP hS hl
  unfold g_X8_missed_37 at h
  refine lv_iload C.x C.b dX8_missed_37 (lv_at hl 5 rfl) ?_
  refine lv_aload_n C.x C.b dX8_missed_39 rfl (lv_at hl 0 rfl) ?_
  refine g_ref (k' := 14) F_8_0 u2_79 C hP sh_0 rfl dX8_missed_40 ?_
  refine g_ref (k' := 15) F_6_0 u1_237 C hP sh_14 rfl dX8_missed_43 ?_
  refine g_int F_0_1 u1_45 C hP sh_15 dX8_missed_46 ?_
  refine lv_icmp_ge (tgt := 121) C.x C.b dX8_missed_49 (by decide) (fun c1 => ?_) (fun c1 => ?_)
  · have h := (if_pos c1).symm.trans h
    obtain ⟨y2, e_y2, h⟩ := lt_ex h
    refine lv_iinc (v := y2) (lv' := [(4, .int y2), (0, .ref (G.2.2 0)), (1, .int x1), (2, .int x2), (3, .int x3), (5, .int x5)]) C.x C.b dX8_missed_121 hl (k := 4) rfl (by rw [e_y2]; rfl) (by decide) rfl (fun ls hl => ?_)
    refine lv_goto (tgt := 19) C.x C.b dX8_missed_124 (by decide) ?_
    exact hq19 x2 x3 y2 μ h _ _ _ hP hS (lv_sub hl [1, 2, 3, 4, 0] rfl)
  · have h := (if_neg c1).symm.trans h
    refine lv_aload_n C.x C.b dX8_missed_52 rfl (lv_at hl 0 rfl) ?_
    refine g_ref (k' := 95) F_8_5 u2_84 C hP sh_0 rfl dX8_missed_53 ?_
    refine lv_aload_n C.x C.b dX8_missed_56 rfl (lv_at hl 0 rfl) ?_
    refine g_ref (k' := 14) F_8_0 u2_79 C hP sh_0 rfl dX8_missed_57 ?_
    refine g_ref (k' := 15) F_6_0 u1_237 C hP sh_14 rfl dX8_missed_60 ?_
    obtain ⟨μ4, e3, h⟩ := bnv_some h
    refine k_vv (k := 95) (as := [.ref (G.2.2 15)]) (rest := []) (c_X0_copyFrom C.i at_sGround_95 at_sGround_15 e3) M_X0_copyFrom u3_171 C hP hS sh_95 rfl rfl (by decide) hl.1 rfl (Nat.le_of_ble_eq_true rfl) dX8_missed_63 (fun H locs hP hS => ?_)
    refine lv_aload_n C.x C.b dX8_missed_66 rfl (lv_at hl 0 rfl) ?_
    refine g_ref (k' := 95) F_8_5 u2_84 C hP sh_0 rfl dX8_missed_67 ?_
    refine lv_iload C.x C.b dX8_missed_70 (lv_at hl 4 rfl) ?_
    refine lv_iload C.x C.b dX8_missed_72 (lv_at hl 5 rfl) ?_
    obtain ⟨r6, μ7, e5, h⟩ := bnd_some h
    refine k_vi (k := 95) (as := [.int x4, .int x5]) (rest := []) (c_X0_shutRoad C.i at_sGround_95 e5) M_X0_shutRoad u3_214 C hP hS sh_95 rfl rfl (by decide) hl.1 rfl (Nat.le_of_ble_eq_true rfl) dX8_missed_74 (fun H locs hP hS => ?_)
    refine lv_if_eq (tgt := 115) C.x C.b dX8_missed_77 (by decide) (fun c8 => ?_) (fun c8 => ?_)
    · have h := (if_pos c8).symm.trans h
      obtain ⟨y9, e_y9, h⟩ := lt_ex h
      refine lv_iinc (v := y9) (lv' := [(5, .int y9), (0, .ref (G.2.2 0)), (1, .int x1), (2, .int x2), (3, .int x3), (4, .int x4)]) C.x C.b dX8_missed_115 hl (k := 5) rfl (by rw [e_y9]; rfl) (by decide) rfl (fun ls hl => ?_)
      refine lv_goto (tgt := 37) C.x C.b dX8_missed_118 (by decide) ?_
      exact hq37 x2 x3 x4 y9 μ7 h _ _ _ hP hS (lv_sub hl [1, 2, 3, 4, 5, 0] rfl)
    · have h := (if_neg c8).symm.trans h
      refine lv_aload_n C.x C.b dX8_missed_80 rfl (lv_at hl 0 rfl) ?_
      obtain ⟨r11, μ12, e10, h⟩ := bnd_some h
      refine k_vi (k := 0) (as := []) (rest := []) (c_X8_tryTheBest C.i e10) M_X8_tryTheBest u3_196 C hP hS sh_0 rfl rfl (by decide) hl.1 rfl (Nat.le_of_ble_eq_true rfl) dX8_missed_81 (fun H locs hP hS => ?_)
      refine lv_if_eq (tgt := 115) C.x C.b dX8_missed_84 (by decide) (fun c13 => ?_) (fun c13 => ?_)
      · have h := (if_pos c13).symm.trans h
        obtain ⟨y14, e_y14, h⟩ := lt_ex h
        refine lv_iinc (v := y14) (lv' := [(5, .int y14), (0, .ref (G.2.2 0)), (1, .int x1), (2, .int x2), (3, .int x3), (4, .int x4)]) C.x C.b dX8_missed_115 hl (k := 5) rfl (by rw [e_y14]; rfl) (by decide) rfl (fun ls hl => ?_)
        refine lv_goto (tgt := 37) C.x C.b dX8_missed_118 (by decide) ?_
        exact hq37 x2 x3 x4 y14 μ12 h _ _ _ hP hS (lv_sub hl [1, 2, 3, 4, 5, 0] rfl)
      · have h := (if_neg c13).symm.trans h
        refine lv_aload_n C.x C.b dX8_missed_87 rfl (lv_at hl 0 rfl) ?_
        refine g_ref (k' := 102) F_8_6 u2_85 C hP sh_0 rfl dX8_missed_88 ?_
        obtain ⟨r16, e15, h⟩ := bnv_some h
        refine k_vi (k := 102) (as := []) (rest := []) (c_X3_total C.i at_sPlan_102 e15) M_X3_total u3_56 C hP hS sh_102 rfl rfl (by decide) hl.1 rfl (Nat.le_of_ble_eq_true rfl) dX8_missed_91 (fun H locs hP hS => ?_)
        refine lv_iload_n C.x C.b dX8_missed_94 rfl (lv_at hl 2 rfl) ?_
        refine lv_icmp_le (tgt := 115) C.x C.b dX8_missed_95 (by decide) (fun c17 => ?_) (fun c17 => ?_)
        · have h := (if_pos c17).symm.trans h
          obtain ⟨y18, e_y18, h⟩ := lt_ex h
          refine lv_iinc (v := y18) (lv' := [(5, .int y18), (0, .ref (G.2.2 0)), (1, .int x1), (2, .int x2), (3, .int x3), (4, .int x4)]) C.x C.b dX8_missed_115 hl (k := 5) rfl (by rw [e_y18]; rfl) (by decide) rfl (fun ls hl => ?_)
          refine lv_goto (tgt := 37) C.x C.b dX8_missed_118 (by decide) ?_
          exact hq37 x2 x3 x4 y18 μ12 h _ _ _ hP hS (lv_sub hl [1, 2, 3, 4, 5, 0] rfl)
        · have h := (if_neg c17).symm.trans h
          refine lv_aload_n C.x C.b dX8_missed_98 rfl (lv_at hl 0 rfl) ?_
          refine g_ref (k' := 102) F_8_6 u2_85 C hP sh_0 rfl dX8_missed_99 ?_
          obtain ⟨r20, e19, h⟩ := bnv_some h
          refine k_vi (k := 102) (as := []) (rest := []) (c_X3_total C.i at_sPlan_102 e19) M_X3_total u3_56 C hP hS sh_102 rfl rfl (by decide) hl.1 rfl (Nat.le_of_ble_eq_true rfl) dX8_missed_102 (fun H locs hP hS => ?_)
          refine lv_istore_n (lv' := [(2, .int r20), (0, .ref (G.2.2 0)), (1, .int x1), (3, .int x3), (4, .int x4), (5, .int x5)]) C.x C.b dX8_missed_105 rfl hl (by decide) rfl (fun ls hl => ?_)
          refine lv_bipush (v := 10) C.x C.b dX8_missed_106 (by decide) ?_
          refine lv_iload C.x C.b dX8_missed_108 (lv_at hl 4 rfl) ?_
          refine lv_imul C.x C.b dX8_missed_110 ?_
          refine lv_iload C.x C.b dX8_missed_111 (lv_at hl 5 rfl) ?_
          refine lv_iadd C.x C.b dX8_missed_113 ?_
          refine lv_topi (fun y21 e_y21 => ?_)
          have h := lt_at h e_y21
          refine lv_istore_n (lv' := [(3, .int y21), (2, .int r20), (0, .ref (G.2.2 0)), (1, .int x1), (4, .int x4), (5, .int x5)]) C.x C.b dX8_missed_114 rfl hl (by decide) rfl (fun ls hl => ?_)
          obtain ⟨y22, e_y22, h⟩ := lt_ex h
          refine lv_iinc (v := y22) (lv' := [(5, .int y22), (3, .int y21), (2, .int r20), (0, .ref (G.2.2 0)), (1, .int x1), (4, .int x4)]) C.x C.b dX8_missed_115 hl (k := 5) rfl (by rw [e_y22]; rfl) (by decide) rfl (fun ls hl => ?_)
          refine lv_goto (tgt := 37) C.x C.b dX8_missed_118 (by decide) ?_
          exact hq37 r20 y21 x4 y22 μ12 h _ _ _ hP hS (lv_sub hl [3, 4, 2, 1, 5, 0] rfl)

set_option maxRecDepth 100000 in
set_option maxHeartbeats 4000000 in
theorem b_X8_missed_37 {p : Program} {l : Launch} {e : Env} {s : State} {m : MethodId} {args : Array Value} {below : List Frame} {meth : Method} {c : Code} {G : Gp} {O : (Int32 × Mem)} (C : Cx p s m args meth c cX8_missed 6 RX8 (some .int) G) {x1 : Int32} {q19 : Int32 → Int32 → Int32 → Mem → Option (Int32 × Mem)} (hq19 : ∀ (x2 : Int32) (x3 : Int32) (x4 : Int32) (μ : Mem), q19 x2 x3 x4 μ = some O → ∀ (H : Heap) (locs : List Loc) (ls : Array Slot), Wm G μ H → va_S (wA G) s.heap H locs → lv_has ls 6 [(0, .ref (G.2.2 0)), (1, .int x1), (2, .int x2), (3, .int x3), (4, .int x4)] → W p l e (rmm 6 146) s m args below meth c H locs 0 0 (QI below args s G O) (F0 m 19 ls [])) : ∀ (n : Nat) (x2 : Int32) (x3 : Int32) (x4 : Int32) (x5 : Int32) (μ : Mem), f_X8_missed_37 x1 q19 n x2 x3 x4 x5 μ = some O → ∀ (H : Heap) (locs : List Loc) (ls : Array Slot), Wm G μ H → va_S (wA G) s.heap H locs → lv_has ls 6 [(0, .ref (G.2.2 0)), (1, .int x1), (2, .int x2), (3, .int x3), (4, .int x4), (5, .int x5)] → W p l e (rmm 6 146) s m args below meth c H locs 0 0 (QI below args s G O) (F0 m 37 ls []) := by
  intro n
  induction n with
  | zero => intro x2 x3 x4 x5 μ h; cases h
  | succ n ih => intro x2 x3 x4 x5 μ h; exact w_X8_missed_37 C hq19 (q37 := f_X8_missed_37 x1 q19 n) ih x2 x3 x4 x5 μ h

def g_X8_missed_19 (x1 : Int32)  (q19 : Int32 → Int32 → Int32 → Mem → Option (Int32 × Mem)) (x2 : Int32) (x3 : Int32) (x4 : Int32) (μ : Mem) : Option (Int32 × Mem) := if (μ.1 15 0) ≤ x4 then (if x1 = 0 then (some (x3, μ)) else (some (x2, μ))) else (f_X8_missed_37 x1 q19 FU x2 x3 x4 0 μ)
def f_X8_missed_19 (x1 : Int32)  : Nat → Int32 → Int32 → Int32 → Mem → Option (Int32 × Mem)
  | 0, _, _, _, _ => none
  | n + 1, x2, x3, x4, μ => g_X8_missed_19 x1 (f_X8_missed_19 x1 n) x2 x3 x4 μ
set_option maxRecDepth 100000 in
set_option maxHeartbeats 4000000 in
theorem w_X8_missed_19 {p : Program} {l : Launch} {e : Env} {s : State} {m : MethodId} {args : Array Value} {below : List Frame} {meth : Method} {c : Code} {G : Gp} {O : (Int32 × Mem)} (C : Cx p s m args meth c cX8_missed 6 RX8 (some .int) G) {x1 : Int32} {q19 : Int32 → Int32 → Int32 → Mem → Option (Int32 × Mem)} (hq19 : ∀ (x2 : Int32) (x3 : Int32) (x4 : Int32) (μ : Mem), q19 x2 x3 x4 μ = some O → ∀ (H : Heap) (locs : List Loc) (ls : Array Slot), Wm G μ H → va_S (wA G) s.heap H locs → lv_has ls 6 [(0, .ref (G.2.2 0)), (1, .int x1), (2, .int x2), (3, .int x3), (4, .int x4)] → W p l e (rmm 6 146) s m args below meth c H locs 0 0 (QI below args s G O) (F0 m 19 ls [])) : ∀ (x2 : Int32) (x3 : Int32) (x4 : Int32) (μ : Mem), g_X8_missed_19 x1 q19 x2 x3 x4 μ = some O → ∀ (H : Heap) (locs : List Loc) (ls : Array Slot), Wm G μ H → va_S (wA G) s.heap H locs → lv_has ls 6 [(0, .ref (G.2.2 0)), (1, .int x1), (2, .int x2), (3, .int x3), (4, .int x4)] → W p l e (rmm 6 146) s m args below meth c H locs 0 0 (QI below args s G O) (F0 m 19 ls []) := by
  intro x2 x3 x4 μ h H locs ls hP hS hl
  unfold g_X8_missed_19 at h
  refine lv_iload C.x C.b dX8_missed_19 (lv_at hl 4 rfl) ?_
  refine lv_aload_n C.x C.b dX8_missed_21 rfl (lv_at hl 0 rfl) ?_
  refine g_ref (k' := 14) F_8_0 u2_79 C hP sh_0 rfl dX8_missed_22 ?_
  refine g_ref (k' := 15) F_6_0 u1_237 C hP sh_14 rfl dX8_missed_25 ?_
  refine g_int F_0_0 u1_41 C hP sh_15 dX8_missed_28 ?_
  refine lv_icmp_ge (tgt := 127) C.x C.b dX8_missed_31 (by decide) (fun c1 => ?_) (fun c1 => ?_)
  · have h := (if_pos c1).symm.trans h
    refine lv_iload_n C.x C.b dX8_missed_127 rfl (lv_at hl 1 rfl) ?_
    refine lv_if_ne (tgt := 135) C.x C.b dX8_missed_128 (by decide) (fun c2 => ?_) (fun c2 => ?_)
    · have h := (if_neg c2).symm.trans h
      refine lv_iload_n C.x C.b dX8_missed_135 rfl (lv_at hl 2 rfl) ?_
      exact r_i h C hP hS dX8_missed_136
    · have h := (if_pos c2).symm.trans h
      refine lv_iload_n C.x C.b dX8_missed_131 rfl (lv_at hl 3 rfl) ?_
      refine lv_goto (tgt := 136) C.x C.b dX8_missed_132 (by decide) ?_
      exact r_i h C hP hS dX8_missed_136
  · have h := (if_neg c1).symm.trans h
    refine lv_iconst (v := 0) C.x C.b dX8_missed_34 (by decide) ?_
    refine lv_istore (lv' := [(5, .int 0), (0, .ref (G.2.2 0)), (1, .int x1), (2, .int x2), (3, .int x3), (4, .int x4)]) C.x C.b dX8_missed_35 hl (by decide) rfl (fun ls hl => ?_)
    exact b_X8_missed_37 C hq19 FU x2 x3 x4 0 μ h _ _ _ hP hS (lv_sub hl [1, 2, 3, 4, 5, 0] rfl)

set_option maxRecDepth 100000 in
set_option maxHeartbeats 4000000 in
theorem b_X8_missed_19 {p : Program} {l : Launch} {e : Env} {s : State} {m : MethodId} {args : Array Value} {below : List Frame} {meth : Method} {c : Code} {G : Gp} {O : (Int32 × Mem)} (C : Cx p s m args meth c cX8_missed 6 RX8 (some .int) G) {x1 : Int32} : ∀ (n : Nat) (x2 : Int32) (x3 : Int32) (x4 : Int32) (μ : Mem), f_X8_missed_19 x1 n x2 x3 x4 μ = some O → ∀ (H : Heap) (locs : List Loc) (ls : Array Slot), Wm G μ H → va_S (wA G) s.heap H locs → lv_has ls 6 [(0, .ref (G.2.2 0)), (1, .int x1), (2, .int x2), (3, .int x3), (4, .int x4)] → W p l e (rmm 6 146) s m args below meth c H locs 0 0 (QI below args s G O) (F0 m 19 ls []) := by
  intro n
  induction n with
  | zero => intro x2 x3 x4 μ h; cases h
  | succ n ih => intro x2 x3 x4 μ h; exact w_X8_missed_19 C (q19 := f_X8_missed_19 x1 n) ih x2 x3 x4 μ h

def f_X8_missed (x1 : Int32) (μ : Mem) : Option (Int32 × Mem) := bnv (f_X8_isUpTo x1 1 μ) (fun r2 => if r2 = 0 then (some ((-1), μ)) else (f_X8_missed_19 x1 FU ((-5)) ((-5)) 0 μ))
set_option maxRecDepth 100000 in
set_option maxHeartbeats 4000000 in
theorem b_X8_missed {p : Program} {l : Launch} {e : Env} {s : State} {m : MethodId} {args : Array Value} {below : List Frame} {meth : Method} {c : Code} {G : Gp} {O : (Int32 × Mem)} (C : Cx p s m args meth c cX8_missed 6 RX8 (some .int) G) {x1 : Int32} {μ : Mem} (h : f_X8_missed x1 μ = some O) : ∀ (H : Heap) (locs : List Loc) (ls : Array Slot), Wm G μ H → va_S (wA G) s.heap H locs → lv_has ls 6 [(0, .ref (G.2.2 0)), (1, .int x1)] → W p l e (rmm 6 146) s m args below meth c H locs 0 0 (QI below args s G O) (F0 m 0 ls []) := by
  unfold f_X8_missed at h
  intro H locs ls hP hS hl
  refine lv_iload_n C.x C.b dX8_missed_0 rfl (lv_at hl 1 rfl) ?_
  refine lv_iconst (v := 1) C.x C.b dX8_missed_1 (by decide) ?_
  obtain ⟨r2, e1, h⟩ := bnv_some h
  refine k_si (as := [.int x1, .int 1]) (rest := []) (c_X8_isUpTo C.i e1) M_X8_isUpTo u2_105 C hP hS rfl (by decide) hl.1 rfl (Nat.le_of_ble_eq_true rfl) dX8_missed_2 (fun H locs hP hS => ?_)
  refine lv_if_ne (tgt := 10) C.x C.b dX8_missed_5 (by decide) (fun c3 => ?_) (fun c3 => ?_)
  · have h := (if_neg c3).symm.trans h
    refine lv_bipush (v := (-5)) C.x C.b dX8_missed_10 (by decide) ?_
    refine lv_istore_n (lv' := [(2, .int ((-5))), (0, .ref (G.2.2 0)), (1, .int x1)]) C.x C.b dX8_missed_12 rfl hl (by decide) rfl (fun ls hl => ?_)
    refine lv_bipush (v := (-5)) C.x C.b dX8_missed_13 (by decide) ?_
    refine lv_istore_n (lv' := [(3, .int ((-5))), (2, .int ((-5))), (0, .ref (G.2.2 0)), (1, .int x1)]) C.x C.b dX8_missed_15 rfl hl (by decide) rfl (fun ls hl => ?_)
    refine lv_iconst (v := 0) C.x C.b dX8_missed_16 (by decide) ?_
    refine lv_istore (lv' := [(4, .int 0), (3, .int ((-5))), (2, .int ((-5))), (0, .ref (G.2.2 0)), (1, .int x1)]) C.x C.b dX8_missed_17 hl (by decide) rfl (fun ls hl => ?_)
    exact b_X8_missed_19 C FU ((-5)) ((-5)) 0 μ h _ _ _ hP hS (lv_sub hl [3, 4, 2, 1, 0] rfl)
  · have h := (if_pos c3).symm.trans h
    refine lv_iconst (v := (-1)) C.x C.b dX8_missed_8 (by decide) ?_
    exact r_i h C hP hS dX8_missed_9

set_option maxRecDepth 100000 in
set_option maxHeartbeats 4000000 in
theorem c_X8_missed {l : Launch} {G : Gp} (hI : Wi G) {x1 : Int32} {μ : Mem} {r : Int32} {μ' : Mem} (h : f_X8_missed x1 μ = some (r, μ')) : CI l yX8_missed cX8_missed 6 (some .int) 6 146 G [.ref (G.2.2 0), .int x1] μ r μ' :=
  e_all (lv := [(0, .ref (G.2.2 0)), (1, .int x1)]) hI (by decide) (Nat.le_of_ble_eq_true rfl) rfl (fun p e s m args below meth c ls C hP hS hl => b_X8_missed C h _ _ _ hP hS hl)

