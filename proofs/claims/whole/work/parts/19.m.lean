def f_X9_count (x1 : Int32) (μ : Mem) : Option Int32 := if x1 = 0 then (some (μ.1 122 0)) else (if x1 = 1 then (some (μ.1 122 1)) else (if x1 = 2 then (bnv (f_X9_shutRoads μ) (fun r5 => some r5)) else (if x1 = 3 then (some (μ.1 122 20)) else (if x1 = 4 then (some (μ.1 122 21)) else (if x1 = 5 then (some (μ.1 122 22)) else (if x1 = 6 then (some (μ.1 122 24)) else (if x1 = 7 then (some (μ.1 122 6)) else ((some ((-2)))))))))))
set_option maxRecDepth 100000 in
set_option maxHeartbeats 4000000 in
theorem b_X9_count {p : Program} {l : Launch} {e : Env} {s : State} {m : MethodId} {args : Array Value} {below : List Frame} {meth : Method} {c : Code} {G : Gp} {O : Int32} (C : Cx p s m args meth c cX9_count 2 RX9 (some .int) G) {x1 : Int32} {μ : Mem} (h : f_X9_count x1 μ = some O) : ∀ (H : Heap) (locs : List Loc) (ls : Array Slot), Wm G μ H → va_S (wA G) s.heap H locs → lv_has ls 2 [(0, .ref (G.2.2 122)), (1, .int x1)] → W p l e (rmm 1 23) s m args below meth c H locs 0 0 (QI below args s G (O, μ)) (F0 m 0 ls []) := by
  unfold f_X9_count at h
  intro H locs ls hP hS hl
  refine lv_iload_n C.x C.b dX9_count_0 rfl (lv_at hl 1 rfl) ?_
  by_cases c1 : x1 = 0
  · have h := (if_pos c1).symm.trans h
    refine lv_tableIn (off := 47) (tgt := 48) C.x C.b dX9_count_1 (by rw [c1]; decide) (by rw [c1]; decide) (by rw [c1]; rfl) (by decide) ?_
    refine lv_aload_n C.x C.b dX9_count_48 rfl (lv_at hl 0 rfl) ?_
    refine g_int F_9_0 u4_129 C hP sh_122 dX9_count_49 ?_
    exact r_i (pr_some h) C hP hS dX9_count_52
  · have h := (if_neg c1).symm.trans h
    by_cases c2 : x1 = 1
    · have h := (if_pos c2).symm.trans h
      refine lv_tableIn (off := 52) (tgt := 53) C.x C.b dX9_count_1 (by rw [c2]; decide) (by rw [c2]; decide) (by rw [c2]; rfl) (by decide) ?_
      refine lv_aload_n C.x C.b dX9_count_53 rfl (lv_at hl 0 rfl) ?_
      refine g_int F_9_1 u4_130 C hP sh_122 dX9_count_54 ?_
      exact r_i (pr_some h) C hP hS dX9_count_57
    · have h := (if_neg c2).symm.trans h
      by_cases c3 : x1 = 2
      · have h := (if_pos c3).symm.trans h
        refine lv_tableIn (off := 57) (tgt := 58) C.x C.b dX9_count_1 (by rw [c3]; decide) (by rw [c3]; decide) (by rw [c3]; rfl) (by decide) ?_
        refine lv_aload_n C.x C.b dX9_count_58 rfl (lv_at hl 0 rfl) ?_
        obtain ⟨r5, e4, h⟩ := bnv_some h
        refine k_vi (k := 122) (as := []) (rest := []) (c_X9_shutRoads C.i e4) M_X9_shutRoads u6_166 C hP hS sh_122 rfl rfl (by decide) hl.1 rfl (Nat.le_of_ble_eq_true rfl) dX9_count_59 (fun H locs hP hS => ?_)
        exact r_i (pr_some h) C hP hS dX9_count_62
      · have h := (if_neg c3).symm.trans h
        by_cases c6 : x1 = 3
        · have h := (if_pos c6).symm.trans h
          refine lv_tableIn (off := 62) (tgt := 63) C.x C.b dX9_count_1 (by rw [c6]; decide) (by rw [c6]; decide) (by rw [c6]; rfl) (by decide) ?_
          refine lv_aload_n C.x C.b dX9_count_63 rfl (lv_at hl 0 rfl) ?_
          refine g_int F_9_20 u4_149 C hP sh_122 dX9_count_64 ?_
          exact r_i (pr_some h) C hP hS dX9_count_67
        · have h := (if_neg c6).symm.trans h
          by_cases c7 : x1 = 4
          · have h := (if_pos c7).symm.trans h
            refine lv_tableIn (off := 67) (tgt := 68) C.x C.b dX9_count_1 (by rw [c7]; decide) (by rw [c7]; decide) (by rw [c7]; rfl) (by decide) ?_
            refine lv_aload_n C.x C.b dX9_count_68 rfl (lv_at hl 0 rfl) ?_
            refine g_int F_9_21 u4_150 C hP sh_122 dX9_count_69 ?_
            exact r_i (pr_some h) C hP hS dX9_count_72
          · have h := (if_neg c7).symm.trans h
            by_cases c8 : x1 = 5
            · have h := (if_pos c8).symm.trans h
              refine lv_tableIn (off := 72) (tgt := 73) C.x C.b dX9_count_1 (by rw [c8]; decide) (by rw [c8]; decide) (by rw [c8]; rfl) (by decide) ?_
              refine lv_aload_n C.x C.b dX9_count_73 rfl (lv_at hl 0 rfl) ?_
              refine g_int F_9_22 u4_151 C hP sh_122 dX9_count_74 ?_
              exact r_i (pr_some h) C hP hS dX9_count_77
            · have h := (if_neg c8).symm.trans h
              by_cases c9 : x1 = 6
              · have h := (if_pos c9).symm.trans h
                refine lv_tableIn (off := 77) (tgt := 78) C.x C.b dX9_count_1 (by rw [c9]; decide) (by rw [c9]; decide) (by rw [c9]; rfl) (by decide) ?_
                refine lv_aload_n C.x C.b dX9_count_78 rfl (lv_at hl 0 rfl) ?_
                refine g_int F_9_24 u4_153 C hP sh_122 dX9_count_79 ?_
                exact r_i (pr_some h) C hP hS dX9_count_82
              · have h := (if_neg c9).symm.trans h
                by_cases c10 : x1 = 7
                · have h := (if_pos c10).symm.trans h
                  refine lv_tableIn (off := 82) (tgt := 83) C.x C.b dX9_count_1 (by rw [c10]; decide) (by rw [c10]; decide) (by rw [c10]; rfl) (by decide) ?_
                  refine lv_aload_n C.x C.b dX9_count_83 rfl (lv_at hl 0 rfl) ?_
                  refine g_int F_9_6 u4_135 C hP sh_122 dX9_count_84 ?_
                  exact r_i (pr_some h) C hP hS dX9_count_87
                · have h := (if_neg c10).symm.trans h
                  have t_c1 := lv_neT (a := 0) c1 (by decide)
                  have t_c2 := lv_neT (a := 1) c2 (by decide)
                  have t_c3 := lv_neT (a := 2) c3 (by decide)
                  have t_c6 := lv_neT (a := 3) c6 (by decide)
                  have t_c7 := lv_neT (a := 4) c7 (by decide)
                  have t_c8 := lv_neT (a := 5) c8 (by decide)
                  have t_c9 := lv_neT (a := 6) c9 (by decide)
                  have t_c10 := lv_neT (a := 7) c10 (by decide)
                  refine lv_tableOut (tgt := 88) C.x C.b dX9_count_1 (by omega) (by decide) ?_
                  refine lv_bipush (v := (-2)) C.x C.b dX9_count_88 (by decide) ?_
                  exact r_i (pr_some h) C hP hS dX9_count_90

set_option maxRecDepth 100000 in
set_option maxHeartbeats 4000000 in
theorem c_X9_count {l : Launch} {G : Gp} (hI : Wi G) {x1 : Int32} {μ : Mem} {r : Int32} (h : f_X9_count x1 μ = some r) : CI l yX9_count cX9_count 2 (some .int) 1 23 G [.ref (G.2.2 122), .int x1] μ r μ :=
  e_all (lv := [(0, .ref (G.2.2 122)), (1, .int x1)]) hI (by decide) (Nat.le_of_ble_eq_true rfl) rfl (fun p e s m args below meth c ls C hP hS hl => b_X9_count C h _ _ _ hP hS hl)


def g_X9_tape_72 (x1 : Int32) (x2 : Int32) (x3 : Int32)  (q72 : Int32 → Mem → Option (Int32 × Mem)) (x4 : Int32) (μ : Mem) : Option (Int32 × Mem) := if 60 ≤ x4 then (some (1, μ)) else (grd (inb x1 6) (grd (inb x4 60) (lt (stl μ (151 + x1.toNatClampNeg) x4.toNatClampNeg 0) (fun μ5 => lt (x4 + 1) (fun y6 => q72 y6 μ5)))))
def f_X9_tape_72 (x1 : Int32) (x2 : Int32) (x3 : Int32)  : Nat → Int32 → Mem → Option (Int32 × Mem)
  | 0, _, _ => none
  | n + 1, x4, μ => g_X9_tape_72 x1 x2 x3 (f_X9_tape_72 x1 x2 x3 n) x4 μ
set_option maxRecDepth 100000 in
set_option maxHeartbeats 4000000 in
theorem w_X9_tape_72 {p : Program} {l : Launch} {e : Env} {s : State} {m : MethodId} {args : Array Value} {below : List Frame} {meth : Method} {c : Code} {G : Gp} {O : (Int32 × Mem)} (C : Cx p s m args meth c cX9_tape 5 RX9 (some .int) G) {x1 : Int32} {x2 : Int32} {x3 : Int32} {q72 : Int32 → Mem → Option (Int32 × Mem)} (hq72 : ∀ (x4 : Int32) (μ : Mem), q72 x4 μ = some O → ∀ (H : Heap) (locs : List Loc) (ls : Array Slot), Wm G μ H → va_S (wA G) s.heap H locs → lv_has ls 5 [(0, .ref (G.2.2 122)), (1, .int x1), (4, .int x4)] → W p l e (rmm 2 45) s m args below meth c H locs 0 0 (QI below args s G O) (F0 m 72 ls [])) : ∀ (x4 : Int32) (μ : Mem), g_X9_tape_72 x1 x2 x3 q72 x4 μ = some O → ∀ (H : Heap) (locs : List Loc) (ls : Array Slot), Wm G μ H → va_S (wA G) s.heap H locs → lv_has ls 5 [(0, .ref (G.2.2 122)), (1, .int x1), (4, .int x4)] → W p l e (rmm 2 45) s m args below meth c H locs 0 0 (QI below args s G O) (F0 m 72 ls []) := by
  intro x4 μ h H locs ls hP hS hl
  unfold g_X9_tape_72 at h
  refine lv_iload C.x C.b dX9_tape_72 (lv_at hl 2 rfl) ?_
  refine lv_bipush (v := 60) C.x C.b dX9_tape_74 (by decide) ?_
  refine lv_icmp_ge (tgt := 95) C.x C.b dX9_tape_76 (by decide) (fun c1 => ?_) (fun c1 => ?_)
  · have h := (if_pos c1).symm.trans h
    refine lv_iconst (v := 1) C.x C.b dX9_tape_95 (by decide) ?_
    exact r_i h C hP hS dX9_tape_96
  · have h := (if_neg c1).symm.trans h
    refine lv_aload_n C.x C.b dX9_tape_79 rfl (lv_at hl 0 rfl) ?_
    refine g_ref (k' := 150) F_9_47 u4_176 C hP sh_122 rfl dX9_tape_80 ?_
    refine lv_iload_n C.x C.b dX9_tape_83 rfl (lv_at hl 1 rfl) ?_
    obtain ⟨g2, h⟩ := grd_some h
    refine a_qq (k' := 151 + x1.toNatClampNeg) C hP sh_150 g2 rfl dX9_tape_84 ?_
    have ht3 : shp[151 + x1.toNatClampNeg]? = some (.inr (3, 60)) := mrow_at g2
    refine lv_iload C.x C.b dX9_tape_85 (lv_at hl 2 rfl) ?_
    refine lv_lconst (v := 0) C.x C.b dX9_tape_87 (by decide) ?_
    obtain ⟨g4, h⟩ := grd_some h
    refine as_l C hP hS ht3 g4 dX9_tape_88 (fun H locs hP hS => ?_)
    obtain ⟨μ5, m_μ5, h⟩ := lt_ex h
    have hP : Wm G μ5 H := by rw [m_μ5]; exact hP
    obtain ⟨y6, e_y6, h⟩ := lt_ex h
    refine lv_iinc (v := y6) (lv' := [(4, .int y6), (0, .ref (G.2.2 122)), (1, .int x1)]) C.x C.b dX9_tape_89 hl (k := 2) rfl (by rw [e_y6]; rfl) (by decide) rfl (fun ls hl => ?_)
    refine lv_goto (tgt := 72) C.x C.b dX9_tape_92 (by decide) ?_
    exact hq72 y6 μ5 h _ _ _ hP hS (lv_sub hl [1, 2, 0] rfl)

set_option maxRecDepth 100000 in
set_option maxHeartbeats 4000000 in
theorem b_X9_tape_72 {p : Program} {l : Launch} {e : Env} {s : State} {m : MethodId} {args : Array Value} {below : List Frame} {meth : Method} {c : Code} {G : Gp} {O : (Int32 × Mem)} (C : Cx p s m args meth c cX9_tape 5 RX9 (some .int) G) {x1 : Int32} {x2 : Int32} {x3 : Int32} : ∀ (n : Nat) (x4 : Int32) (μ : Mem), f_X9_tape_72 x1 x2 x3 n x4 μ = some O → ∀ (H : Heap) (locs : List Loc) (ls : Array Slot), Wm G μ H → va_S (wA G) s.heap H locs → lv_has ls 5 [(0, .ref (G.2.2 122)), (1, .int x1), (4, .int x4)] → W p l e (rmm 2 45) s m args below meth c H locs 0 0 (QI below args s G O) (F0 m 72 ls []) := by
  intro n
  induction n with
  | zero => intro x4 μ h; cases h
  | succ n ih => intro x4 μ h; exact w_X9_tape_72 C (q72 := f_X9_tape_72 x1 x2 x3 n) ih x4 μ h

def f_X9_tape_47 (x1 : Int32) (x2 : Int32) (x3 : Int32)   (μ : Mem) : Option (Int32 × Mem) := grd (inb x1 6) (lt (st μ 157 x1.toNatClampNeg x2) (fun μ2 => if 0 ≤ x2 then (grd (inb x1 6) (lt (st μ2 158 x1.toNatClampNeg x3) (fun μ5 => f_X9_tape_72 x1 x2 x3 FU 0 μ5))) else (grd (inb x1 6) (lt (st μ2 158 x1.toNatClampNeg 0) (fun μ7 => f_X9_tape_72 x1 x2 x3 FU 0 μ7)))))
set_option maxRecDepth 100000 in
set_option maxHeartbeats 4000000 in
theorem b_X9_tape_47 {p : Program} {l : Launch} {e : Env} {s : State} {m : MethodId} {args : Array Value} {below : List Frame} {meth : Method} {c : Code} {G : Gp} {O : (Int32 × Mem)} (C : Cx p s m args meth c cX9_tape 5 RX9 (some .int) G) {x1 : Int32} {x2 : Int32} {x3 : Int32} : ∀ (μ : Mem), f_X9_tape_47 x1 x2 x3 μ = some O → ∀ (H : Heap) (locs : List Loc) (ls : Array Slot), Wm G μ H → va_S (wA G) s.heap H locs → lv_has ls 5 [(0, .ref (G.2.2 122)), (1, .int x1), (2, .int x2), (3, .int x3)] → W p l e (rmm 2 45) s m args below meth c H locs 0 0 (QI below args s G O) (F0 m 47 ls []) := by
  intro μ h H locs ls hP hS hl
  unfold f_X9_tape_47 at h
  refine lv_aload_n C.x C.b dX9_tape_47 rfl (lv_at hl 0 rfl) ?_
  refine g_ref (k' := 157) F_9_48 u4_177 C hP sh_122 rfl dX9_tape_48 ?_
  refine lv_iload_n C.x C.b dX9_tape_51 rfl (lv_at hl 1 rfl) ?_
  refine lv_iload_n C.x C.b dX9_tape_52 rfl (lv_at hl 2 rfl) ?_
  obtain ⟨g1, h⟩ := grd_some h
  refine as_i C hP hS sh_157 g1 dX9_tape_53 (fun H locs hP hS => ?_)
  obtain ⟨μ2, m_μ2, h⟩ := lt_ex h
  have hP : Wm G μ2 H := by rw [m_μ2]; exact hP
  refine lv_aload_n C.x C.b dX9_tape_54 rfl (lv_at hl 0 rfl) ?_
  refine g_ref (k' := 158) F_9_49 u4_178 C hP sh_122 rfl dX9_tape_55 ?_
  refine lv_iload_n C.x C.b dX9_tape_58 rfl (lv_at hl 1 rfl) ?_
  refine lv_iload_n C.x C.b dX9_tape_59 rfl (lv_at hl 2 rfl) ?_
  refine lv_if_ge (tgt := 67) C.x C.b dX9_tape_60 (by decide) (fun c3 => ?_) (fun c3 => ?_)
  · have h := (if_pos c3).symm.trans h
    refine lv_iload_n C.x C.b dX9_tape_67 rfl (lv_at hl 3 rfl) ?_
    obtain ⟨g4, h⟩ := grd_some h
    refine as_i C hP hS sh_158 g4 dX9_tape_68 (fun H locs hP hS => ?_)
    obtain ⟨μ5, m_μ5, h⟩ := lt_ex h
    have hP : Wm G μ5 H := by rw [m_μ5]; exact hP
    refine lv_iconst (v := 0) C.x C.b dX9_tape_69 (by decide) ?_
    refine lv_istore (lv' := [(4, .int 0), (0, .ref (G.2.2 122)), (1, .int x1), (2, .int x2), (3, .int x3)]) C.x C.b dX9_tape_70 hl (by decide) rfl (fun ls hl => ?_)
    exact b_X9_tape_72 C FU 0 μ5 h _ _ _ hP hS (lv_sub hl [1, 2, 0] rfl)
  · have h := (if_neg c3).symm.trans h
    refine lv_iconst (v := 0) C.x C.b dX9_tape_63 (by decide) ?_
    refine lv_goto (tgt := 68) C.x C.b dX9_tape_64 (by decide) ?_
    obtain ⟨g6, h⟩ := grd_some h
    refine as_i C hP hS sh_158 g6 dX9_tape_68 (fun H locs hP hS => ?_)
    obtain ⟨μ7, m_μ7, h⟩ := lt_ex h
    have hP : Wm G μ7 H := by rw [m_μ7]; exact hP
    refine lv_iconst (v := 0) C.x C.b dX9_tape_69 (by decide) ?_
    refine lv_istore (lv' := [(4, .int 0), (0, .ref (G.2.2 122)), (1, .int x1), (2, .int x2), (3, .int x3)]) C.x C.b dX9_tape_70 hl (by decide) rfl (fun ls hl => ?_)
    exact b_X9_tape_72 C FU 0 μ7 h _ _ _ hP hS (lv_sub hl [1, 2, 0] rfl)

def f_X9_tape_36 (x1 : Int32) (x2 : Int32) (x3 : Int32)   (μ : Mem) : Option (Int32 × Mem) := if x2 < 0 then (f_X9_tape_47 x1 x2 x3 μ) else (if 0 ≤ x3 then (f_X9_tape_47 x1 x2 x3 μ) else (some ((-14), μ)))
set_option maxRecDepth 100000 in
set_option maxHeartbeats 4000000 in
theorem b_X9_tape_36 {p : Program} {l : Launch} {e : Env} {s : State} {m : MethodId} {args : Array Value} {below : List Frame} {meth : Method} {c : Code} {G : Gp} {O : (Int32 × Mem)} (C : Cx p s m args meth c cX9_tape 5 RX9 (some .int) G) {x1 : Int32} {x2 : Int32} {x3 : Int32} : ∀ (μ : Mem), f_X9_tape_36 x1 x2 x3 μ = some O → ∀ (H : Heap) (locs : List Loc) (ls : Array Slot), Wm G μ H → va_S (wA G) s.heap H locs → lv_has ls 5 [(0, .ref (G.2.2 122)), (1, .int x1), (2, .int x2), (3, .int x3)] → W p l e (rmm 2 45) s m args below meth c H locs 0 0 (QI below args s G O) (F0 m 36 ls []) := by
  intro μ h H locs ls hP hS hl
  unfold f_X9_tape_36 at h
  refine lv_iload_n C.x C.b dX9_tape_36 rfl (lv_at hl 2 rfl) ?_
  refine lv_if_lt (tgt := 47) C.x C.b dX9_tape_37 (by decide) (fun c1 => ?_) (fun c1 => ?_)
  · have h := (if_pos c1).symm.trans h
    exact b_X9_tape_47 C μ h _ _ _ hP hS (lv_sub hl [0, 1, 2, 3] rfl)
  · have h := (if_neg c1).symm.trans h
    refine lv_iload_n C.x C.b dX9_tape_40 rfl (lv_at hl 3 rfl) ?_
    refine lv_if_ge (tgt := 47) C.x C.b dX9_tape_41 (by decide) (fun c2 => ?_) (fun c2 => ?_)
    · have h := (if_pos c2).symm.trans h
      exact b_X9_tape_47 C μ h _ _ _ hP hS (lv_sub hl [0, 1, 2, 3] rfl)
    · have h := (if_neg c2).symm.trans h
      refine lv_bipush (v := (-14)) C.x C.b dX9_tape_44 (by decide) ?_
      exact r_i h C hP hS dX9_tape_46

def f_X9_tape (x1 : Int32) (x2 : Int32) (x3 : Int32) (μ : Mem) : Option (Int32 × Mem) := bnv (f_X9_isTape x1 μ) (fun r2 => if r2 = 0 then (some ((-1), μ)) else (bnv (f_X9_in (Int32.toInt64 x2) ((-1)) 4 μ) (fun r5 => if r5 = 0 then (some ((-2), μ)) else (if x2 < 0 then (f_X9_tape_36 x1 x2 x3 μ) else (if x3 ≤ 60 then (f_X9_tape_36 x1 x2 x3 μ) else (some ((-2), μ)))))))
set_option maxRecDepth 100000 in
set_option maxHeartbeats 4000000 in
theorem b_X9_tape {p : Program} {l : Launch} {e : Env} {s : State} {m : MethodId} {args : Array Value} {below : List Frame} {meth : Method} {c : Code} {G : Gp} {O : (Int32 × Mem)} (C : Cx p s m args meth c cX9_tape 5 RX9 (some .int) G) {x1 : Int32} {x2 : Int32} {x3 : Int32} {μ : Mem} (h : f_X9_tape x1 x2 x3 μ = some O) : ∀ (H : Heap) (locs : List Loc) (ls : Array Slot), Wm G μ H → va_S (wA G) s.heap H locs → lv_has ls 5 [(0, .ref (G.2.2 122)), (1, .int x1), (2, .int x2), (3, .int x3)] → W p l e (rmm 2 45) s m args below meth c H locs 0 0 (QI below args s G O) (F0 m 0 ls []) := by
  unfold f_X9_tape at h
  intro H locs ls hP hS hl
  refine lv_iload_n C.x C.b dX9_tape_0 rfl (lv_at hl 1 rfl) ?_
  obtain ⟨r2, e1, h⟩ := bnv_some h
  refine k_si (as := [.int x1]) (rest := []) (c_X9_isTape C.i e1) M_X9_isTape u6_158 C hP hS rfl (by decide) hl.1 rfl (Nat.le_of_ble_eq_true rfl) dX9_tape_1 (fun H locs hP hS => ?_)
  refine lv_if_ne (tgt := 9) C.x C.b dX9_tape_4 (by decide) (fun c3 => ?_) (fun c3 => ?_)
  · have h := (if_neg c3).symm.trans h
    refine lv_iload_n C.x C.b dX9_tape_9 rfl (lv_at hl 2 rfl) ?_
    refine lv_i2l (v := Int32.toInt64 x2) C.x C.b dX9_tape_10 rfl ?_
    refine lv_ldc2 (own := RX9) (v := (-1)) C.x C.b C.o (C.t _ u6_174) dX9_tape_11 ?_
    refine lv_ldc2 (own := RX9) (v := 4) C.x C.b C.o (C.t _ u6_175) dX9_tape_14 ?_
    obtain ⟨r5, e4, h⟩ := bnv_some h
    refine k_si (as := [.long (Int32.toInt64 x2), .long ((-1)), .long 4]) (rest := []) (c_X9_in C.i e4) M_X9_in u5_72 C hP hS rfl (by decide) hl.1 rfl (Nat.le_of_ble_eq_true rfl) dX9_tape_17 (fun H locs hP hS => ?_)
    refine lv_if_eq (tgt := 33) C.x C.b dX9_tape_20 (by decide) (fun c6 => ?_) (fun c6 => ?_)
    · have h := (if_pos c6).symm.trans h
      refine lv_bipush (v := (-2)) C.x C.b dX9_tape_33 (by decide) ?_
      exact r_i h C hP hS dX9_tape_35
    · have h := (if_neg c6).symm.trans h
      refine lv_iload_n C.x C.b dX9_tape_23 rfl (lv_at hl 2 rfl) ?_
      refine lv_if_lt (tgt := 36) C.x C.b dX9_tape_24 (by decide) (fun c7 => ?_) (fun c7 => ?_)
      · have h := (if_pos c7).symm.trans h
        exact b_X9_tape_36 C μ h _ _ _ hP hS (lv_sub hl [0, 1, 2, 3] rfl)
      · have h := (if_neg c7).symm.trans h
        refine lv_iload_n C.x C.b dX9_tape_27 rfl (lv_at hl 3 rfl) ?_
        refine lv_bipush (v := 60) C.x C.b dX9_tape_28 (by decide) ?_
        refine lv_icmp_le (tgt := 36) C.x C.b dX9_tape_30 (by decide) (fun c8 => ?_) (fun c8 => ?_)
        · have h := (if_pos c8).symm.trans h
          exact b_X9_tape_36 C μ h _ _ _ hP hS (lv_sub hl [0, 1, 2, 3] rfl)
        · have h := (if_neg c8).symm.trans h
          refine lv_bipush (v := (-2)) C.x C.b dX9_tape_33 (by decide) ?_
          exact r_i h C hP hS dX9_tape_35
  · have h := (if_pos c3).symm.trans h
    refine lv_iconst (v := (-1)) C.x C.b dX9_tape_7 (by decide) ?_
    exact r_i h C hP hS dX9_tape_8

set_option maxRecDepth 100000 in
set_option maxHeartbeats 4000000 in
theorem c_X9_tape {l : Launch} {G : Gp} (hI : Wi G) {x1 : Int32} {x2 : Int32} {x3 : Int32} {μ : Mem} {r : Int32} {μ' : Mem} (h : f_X9_tape x1 x2 x3 μ = some (r, μ')) : CI l yX9_tape cX9_tape 5 (some .int) 2 45 G [.ref (G.2.2 122), .int x1, .int x2, .int x3] μ r μ' :=
  e_all (lv := [(0, .ref (G.2.2 122)), (1, .int x1), (2, .int x2), (3, .int x3)]) hI (by decide) (Nat.le_of_ble_eq_true rfl) rfl (fun p e s m args below meth c ls C hP hS hl => b_X9_tape C h _ _ _ hP hS hl)


def f_X9_fit (x0 : Int32) (x1 : Int64) (μ : Mem) : Option Int64 := if x0 = 0 then (some (Int32.toInt64 (n_b (Int64.toInt32 x1)))) else (if x0 = 1 then (some (Int32.toInt64 (n_s (Int64.toInt32 x1)))) else (if x0 = 2 then (some (Int32.toInt64 (Int64.toInt32 x1))) else (if x0 = 3 then (some x1) else ((if (lg_cmp x1 0) = 0 then (some 0) else (some 1))))))
set_option maxRecDepth 100000 in
set_option maxHeartbeats 4000000 in
theorem b_X9_fit {p : Program} {l : Launch} {e : Env} {s : State} {m : MethodId} {args : Array Value} {below : List Frame} {meth : Method} {c : Code} {G : Gp} {O : Int64} (C : Cx p s m args meth c cX9_fit 3 RX9 (some .long) G) {x0 : Int32} {x1 : Int64} {μ : Mem} (h : f_X9_fit x0 x1 μ = some O) : ∀ (H : Heap) (locs : List Loc) (ls : Array Slot), Wm G μ H → va_S (wA G) s.heap H locs → lv_has ls 3 [(0, .int x0), (1, .long x1)] → W p l e (rmm 0 0) s m args below meth c H locs 0 0 (QL below args s G (O, μ)) (F0 m 0 ls []) := by
  unfold f_X9_fit at h
  intro H locs ls hP hS hl
  refine lv_iload_n C.x C.b dX9_fit_0 rfl (lv_at hl 0 rfl) ?_
  by_cases c1 : x0 = 0
  · have h := (if_pos c1).symm.trans h
    refine lv_tableIn (off := 31) (tgt := 32) C.x C.b dX9_fit_1 (by rw [c1]; decide) (by rw [c1]; decide) (by rw [c1]; rfl) (by decide) ?_
    refine lv_lload_n C.x C.b dX9_fit_32 rfl (lv_at hl 1 rfl) ?_
    refine lv_l2i (v := Int64.toInt32 x1) C.x C.b dX9_fit_33 rfl ?_
    refine lv_i2b (v := n_b (Int64.toInt32 x1)) C.x C.b dX9_fit_34 rfl ?_
    refine lv_i2l (v := Int32.toInt64 (n_b (Int64.toInt32 x1))) C.x C.b dX9_fit_35 rfl ?_
    exact r_l (pr_some h) C hP hS dX9_fit_36
  · have h := (if_neg c1).symm.trans h
    by_cases c2 : x0 = 1
    · have h := (if_pos c2).symm.trans h
      refine lv_tableIn (off := 36) (tgt := 37) C.x C.b dX9_fit_1 (by rw [c2]; decide) (by rw [c2]; decide) (by rw [c2]; rfl) (by decide) ?_
      refine lv_lload_n C.x C.b dX9_fit_37 rfl (lv_at hl 1 rfl) ?_
      refine lv_l2i (v := Int64.toInt32 x1) C.x C.b dX9_fit_38 rfl ?_
      refine lv_i2s (v := n_s (Int64.toInt32 x1)) C.x C.b dX9_fit_39 rfl ?_
      refine lv_i2l (v := Int32.toInt64 (n_s (Int64.toInt32 x1))) C.x C.b dX9_fit_40 rfl ?_
      exact r_l (pr_some h) C hP hS dX9_fit_41
    · have h := (if_neg c2).symm.trans h
      by_cases c3 : x0 = 2
      · have h := (if_pos c3).symm.trans h
        refine lv_tableIn (off := 41) (tgt := 42) C.x C.b dX9_fit_1 (by rw [c3]; decide) (by rw [c3]; decide) (by rw [c3]; rfl) (by decide) ?_
        refine lv_lload_n C.x C.b dX9_fit_42 rfl (lv_at hl 1 rfl) ?_
        refine lv_l2i (v := Int64.toInt32 x1) C.x C.b dX9_fit_43 rfl ?_
        refine lv_i2l (v := Int32.toInt64 (Int64.toInt32 x1)) C.x C.b dX9_fit_44 rfl ?_
        exact r_l (pr_some h) C hP hS dX9_fit_45
      · have h := (if_neg c3).symm.trans h
        by_cases c4 : x0 = 3
        · have h := (if_pos c4).symm.trans h
          refine lv_tableIn (off := 45) (tgt := 46) C.x C.b dX9_fit_1 (by rw [c4]; decide) (by rw [c4]; decide) (by rw [c4]; rfl) (by decide) ?_
          refine lv_lload_n C.x C.b dX9_fit_46 rfl (lv_at hl 1 rfl) ?_
          exact r_l (pr_some h) C hP hS dX9_fit_47
        · have h := (if_neg c4).symm.trans h
          have t_c1 := lv_neT (a := 0) c1 (by decide)
          have t_c2 := lv_neT (a := 1) c2 (by decide)
          have t_c3 := lv_neT (a := 2) c3 (by decide)
          have t_c4 := lv_neT (a := 3) c4 (by decide)
          refine lv_tableOut (tgt := 48) C.x C.b dX9_fit_1 (by omega) (by decide) ?_
          refine lv_lload_n C.x C.b dX9_fit_48 rfl (lv_at hl 1 rfl) ?_
          refine lv_lconst (v := 0) C.x C.b dX9_fit_49 (by decide) ?_
          refine W.lcmp C.x C.b dX9_fit_50 ?_
          refine lv_if_eq (tgt := 58) C.x C.b dX9_fit_51 (by decide) (fun c5 => ?_) (fun c5 => ?_)
          · have h := (if_pos c5).symm.trans h
            refine lv_lconst (v := 0) C.x C.b dX9_fit_58 (by decide) ?_
            exact r_l (pr_some h) C hP hS dX9_fit_59
          · have h := (if_neg c5).symm.trans h
            refine lv_lconst (v := 1) C.x C.b dX9_fit_54 (by decide) ?_
            refine lv_goto (tgt := 59) C.x C.b dX9_fit_55 (by decide) ?_
            exact r_l (pr_some h) C hP hS dX9_fit_59

set_option maxRecDepth 100000 in
set_option maxHeartbeats 4000000 in
theorem c_X9_fit {l : Launch} {G : Gp} (hI : Wi G) {x0 : Int32} {x1 : Int64} {μ : Mem} {r : Int64} (h : f_X9_fit x0 x1 μ = some r) : CL l yX9_fit cX9_fit 3 (some .long) 0 0 G [.int x0, .long x1] μ r μ :=
  e_all (lv := [(0, .int x0), (1, .long x1)]) hI (by decide) (Nat.le_of_ble_eq_true rfl) rfl (fun p e s m args below meth c ls C hP hS hl => b_X9_fit C h _ _ _ hP hS hl)


def f_X9_item (x1 : Int32) (x2 : Int32) (x3 : Int64) (μ : Mem) : Option (Int32 × Mem) := bnv (f_X9_isTape x1 μ) (fun r2 => if r2 = 0 then (some ((-1), μ)) else (grd (inb x1 6) (if 0 ≤ (μ.1 157 x1.toNatClampNeg) then (grd (inb x1 6) (bnv (f_X9_in (Int32.toInt64 x2) 0 (Int32.toInt64 ((μ.1 158 x1.toNatClampNeg) - 1)) μ) (fun r8 => if r8 = 0 then (some ((-13), μ)) else (grd (inb x1 6) (grd (inb x1 6) (bnv (f_X9_fit (μ.1 157 x1.toNatClampNeg) x3 μ) (fun r14 => grd (inb x2 60) (lt (stl μ (151 + x1.toNatClampNeg) x2.toNatClampNeg r14) (fun μ16 => some (1, μ16)))))))))) else (some ((-11), μ)))))
set_option maxRecDepth 100000 in
set_option maxHeartbeats 4000000 in
theorem b_X9_item {p : Program} {l : Launch} {e : Env} {s : State} {m : MethodId} {args : Array Value} {below : List Frame} {meth : Method} {c : Code} {G : Gp} {O : (Int32 × Mem)} (C : Cx p s m args meth c cX9_item 5 RX9 (some .int) G) {x1 : Int32} {x2 : Int32} {x3 : Int64} {μ : Mem} (h : f_X9_item x1 x2 x3 μ = some O) : ∀ (H : Heap) (locs : List Loc) (ls : Array Slot), Wm G μ H → va_S (wA G) s.heap H locs → lv_has ls 5 [(0, .ref (G.2.2 122)), (1, .int x1), (2, .int x2), (3, .long x3)] → W p l e (rmm 2 45) s m args below meth c H locs 0 0 (QI below args s G O) (F0 m 0 ls []) := by
  unfold f_X9_item at h
  intro H locs ls hP hS hl
  refine lv_iload_n C.x C.b dX9_item_0 rfl (lv_at hl 1 rfl) ?_
  obtain ⟨r2, e1, h⟩ := bnv_some h
  refine k_si (as := [.int x1]) (rest := []) (c_X9_isTape C.i e1) M_X9_isTape u6_158 C hP hS rfl (by decide) hl.1 rfl (Nat.le_of_ble_eq_true rfl) dX9_item_1 (fun H locs hP hS => ?_)
  refine lv_if_ne (tgt := 9) C.x C.b dX9_item_4 (by decide) (fun c3 => ?_) (fun c3 => ?_)
  · have h := (if_neg c3).symm.trans h
    refine lv_aload_n C.x C.b dX9_item_9 rfl (lv_at hl 0 rfl) ?_
    refine g_ref (k' := 157) F_9_48 u4_177 C hP sh_122 rfl dX9_item_10 ?_
    refine lv_iload_n C.x C.b dX9_item_13 rfl (lv_at hl 1 rfl) ?_
    obtain ⟨g4, h⟩ := grd_some h
    refine a_i C hP sh_157 g4 dX9_item_14 ?_
    refine lv_if_ge (tgt := 21) C.x C.b dX9_item_15 (by decide) (fun c5 => ?_) (fun c5 => ?_)
    · have h := (if_pos c5).symm.trans h
      refine lv_iload_n C.x C.b dX9_item_21 rfl (lv_at hl 2 rfl) ?_
      refine lv_i2l (v := Int32.toInt64 x2) C.x C.b dX9_item_22 rfl ?_
      refine lv_lconst (v := 0) C.x C.b dX9_item_23 (by decide) ?_
      refine lv_aload_n C.x C.b dX9_item_24 rfl (lv_at hl 0 rfl) ?_
      refine g_ref (k' := 158) F_9_49 u4_178 C hP sh_122 rfl dX9_item_25 ?_
      refine lv_iload_n C.x C.b dX9_item_28 rfl (lv_at hl 1 rfl) ?_
      obtain ⟨g6, h⟩ := grd_some h
      refine a_i C hP sh_158 g6 dX9_item_29 ?_
      refine lv_iconst (v := 1) C.x C.b dX9_item_30 (by decide) ?_
      refine lv_isub C.x C.b dX9_item_31 ?_
      refine lv_i2l (v := Int32.toInt64 ((μ.1 158 x1.toNatClampNeg) - 1)) C.x C.b dX9_item_32 rfl ?_
      obtain ⟨r8, e7, h⟩ := bnv_some h
      refine k_si (as := [.long (Int32.toInt64 x2), .long 0, .long (Int32.toInt64 ((μ.1 158 x1.toNatClampNeg) - 1))]) (rest := []) (c_X9_in C.i e7) M_X9_in u5_72 C hP hS rfl (by decide) hl.1 rfl (Nat.le_of_ble_eq_true rfl) dX9_item_33 (fun H locs hP hS => ?_)
      refine lv_if_ne (tgt := 42) C.x C.b dX9_item_36 (by decide) (fun c9 => ?_) (fun c9 => ?_)
      · have h := (if_neg c9).symm.trans h
        refine lv_aload_n C.x C.b dX9_item_42 rfl (lv_at hl 0 rfl) ?_
        refine g_ref (k' := 150) F_9_47 u4_176 C hP sh_122 rfl dX9_item_43 ?_
        refine lv_iload_n C.x C.b dX9_item_46 rfl (lv_at hl 1 rfl) ?_
        obtain ⟨g10, h⟩ := grd_some h
        refine a_qq (k' := 151 + x1.toNatClampNeg) C hP sh_150 g10 rfl dX9_item_47 ?_
        have ht11 : shp[151 + x1.toNatClampNeg]? = some (.inr (3, 60)) := mrow_at g10
        refine lv_iload_n C.x C.b dX9_item_48 rfl (lv_at hl 2 rfl) ?_
        refine lv_aload_n C.x C.b dX9_item_49 rfl (lv_at hl 0 rfl) ?_
        refine g_ref (k' := 157) F_9_48 u4_177 C hP sh_122 rfl dX9_item_50 ?_
        refine lv_iload_n C.x C.b dX9_item_53 rfl (lv_at hl 1 rfl) ?_
        obtain ⟨g12, h⟩ := grd_some h
        refine a_i C hP sh_157 g12 dX9_item_54 ?_
        refine lv_lload_n C.x C.b dX9_item_55 rfl (lv_at hl 3 rfl) ?_
        obtain ⟨r14, e13, h⟩ := bnv_some h
        refine k_sl (as := [.int (μ.1 157 x1.toNatClampNeg), .long x3]) (rest := [.int x2, .ref (G.2.2 (151 + x1.toNatClampNeg))]) (c_X9_fit C.i e13) M_X9_fit u6_180 C hP hS rfl (by decide) hl.1 rfl (Nat.le_of_ble_eq_true rfl) dX9_item_56 (fun H locs hP hS => ?_)
        obtain ⟨g15, h⟩ := grd_some h
        refine as_l C hP hS ht11 g15 dX9_item_59 (fun H locs hP hS => ?_)
        obtain ⟨μ16, m_μ16, h⟩ := lt_ex h
        have hP : Wm G μ16 H := by rw [m_μ16]; exact hP
        refine lv_iconst (v := 1) C.x C.b dX9_item_60 (by decide) ?_
        exact r_i h C hP hS dX9_item_61
      · have h := (if_pos c9).symm.trans h
        refine lv_bipush (v := (-13)) C.x C.b dX9_item_39 (by decide) ?_
        exact r_i h C hP hS dX9_item_41
    · have h := (if_neg c5).symm.trans h
      refine lv_bipush (v := (-11)) C.x C.b dX9_item_18 (by decide) ?_
      exact r_i h C hP hS dX9_item_20
  · have h := (if_pos c3).symm.trans h
    refine lv_iconst (v := (-1)) C.x C.b dX9_item_7 (by decide) ?_
    exact r_i h C hP hS dX9_item_8

set_option maxRecDepth 100000 in
set_option maxHeartbeats 4000000 in
theorem c_X9_item {l : Launch} {G : Gp} (hI : Wi G) {x1 : Int32} {x2 : Int32} {x3 : Int64} {μ : Mem} {r : Int32} {μ' : Mem} (h : f_X9_item x1 x2 x3 μ = some (r, μ')) : CI l yX9_item cX9_item 5 (some .int) 2 45 G [.ref (G.2.2 122), .int x1, .int x2, .long x3] μ r μ' :=
  e_all (lv := [(0, .ref (G.2.2 122)), (1, .int x1), (2, .int x2), (3, .long x3)]) hI (by decide) (Nat.le_of_ble_eq_true rfl) rfl (fun p e s m args below meth c ls C hP hS hl => b_X9_item C h _ _ _ hP hS hl)


def f_X9_peek (x1 : Int32) (x2 : Int32) (μ : Mem) : Option Int64 := bnv (f_X9_isTape x1 μ) (fun r2 => if r2 = 0 then (some ((-9223372036854775808))) else (grd (inb x1 6) (if (μ.1 157 x1.toNatClampNeg) < 0 then (some ((-9223372036854775808))) else (grd (inb x1 6) (bnv (f_X9_in (Int32.toInt64 x2) 0 (Int32.toInt64 ((μ.1 158 x1.toNatClampNeg) - 1)) μ) (fun r8 => if r8 = 0 then (some ((-9223372036854775808))) else (grd (inb x1 6) (grd (inb x2 60) (some (μ.2 (151 + x1.toNatClampNeg) x2.toNatClampNeg))))))))))
set_option maxRecDepth 100000 in
set_option maxHeartbeats 4000000 in
theorem b_X9_peek {p : Program} {l : Launch} {e : Env} {s : State} {m : MethodId} {args : Array Value} {below : List Frame} {meth : Method} {c : Code} {G : Gp} {O : Int64} (C : Cx p s m args meth c cX9_peek 3 RX9 (some .long) G) {x1 : Int32} {x2 : Int32} {μ : Mem} (h : f_X9_peek x1 x2 μ = some O) : ∀ (H : Heap) (locs : List Loc) (ls : Array Slot), Wm G μ H → va_S (wA G) s.heap H locs → lv_has ls 3 [(0, .ref (G.2.2 122)), (1, .int x1), (2, .int x2)] → W p l e (rmm 2 45) s m args below meth c H locs 0 0 (QL below args s G (O, μ)) (F0 m 0 ls []) := by
  unfold f_X9_peek at h
  intro H locs ls hP hS hl
  refine lv_iload_n C.x C.b dX9_peek_0 rfl (lv_at hl 1 rfl) ?_
  obtain ⟨r2, e1, h⟩ := bnv_some h
  refine k_si (as := [.int x1]) (rest := []) (c_X9_isTape C.i e1) M_X9_isTape u6_158 C hP hS rfl (by decide) hl.1 rfl (Nat.le_of_ble_eq_true rfl) dX9_peek_1 (fun H locs hP hS => ?_)
  refine lv_if_eq (tgt := 45) C.x C.b dX9_peek_4 (by decide) (fun c3 => ?_) (fun c3 => ?_)
  · have h := (if_pos c3).symm.trans h
    refine lv_ldc2 (own := RX9) (v := (-9223372036854775808)) C.x C.b C.o (C.t _ u6_17) dX9_peek_45 ?_
    exact r_l (pr_some h) C hP hS dX9_peek_48
  · have h := (if_neg c3).symm.trans h
    refine lv_aload_n C.x C.b dX9_peek_7 rfl (lv_at hl 0 rfl) ?_
    refine g_ref (k' := 157) F_9_48 u4_177 C hP sh_122 rfl dX9_peek_8 ?_
    refine lv_iload_n C.x C.b dX9_peek_11 rfl (lv_at hl 1 rfl) ?_
    obtain ⟨g4, h⟩ := grd_some h
    refine a_i C hP sh_157 g4 dX9_peek_12 ?_
    refine lv_if_lt (tgt := 45) C.x C.b dX9_peek_13 (by decide) (fun c5 => ?_) (fun c5 => ?_)
    · have h := (if_pos c5).symm.trans h
      refine lv_ldc2 (own := RX9) (v := (-9223372036854775808)) C.x C.b C.o (C.t _ u6_17) dX9_peek_45 ?_
      exact r_l (pr_some h) C hP hS dX9_peek_48
    · have h := (if_neg c5).symm.trans h
      refine lv_iload_n C.x C.b dX9_peek_16 rfl (lv_at hl 2 rfl) ?_
      refine lv_i2l (v := Int32.toInt64 x2) C.x C.b dX9_peek_17 rfl ?_
      refine lv_lconst (v := 0) C.x C.b dX9_peek_18 (by decide) ?_
      refine lv_aload_n C.x C.b dX9_peek_19 rfl (lv_at hl 0 rfl) ?_
      refine g_ref (k' := 158) F_9_49 u4_178 C hP sh_122 rfl dX9_peek_20 ?_
      refine lv_iload_n C.x C.b dX9_peek_23 rfl (lv_at hl 1 rfl) ?_
      obtain ⟨g6, h⟩ := grd_some h
      refine a_i C hP sh_158 g6 dX9_peek_24 ?_
      refine lv_iconst (v := 1) C.x C.b dX9_peek_25 (by decide) ?_
      refine lv_isub C.x C.b dX9_peek_26 ?_
      refine lv_i2l (v := Int32.toInt64 ((μ.1 158 x1.toNatClampNeg) - 1)) C.x C.b dX9_peek_27 rfl ?_
      obtain ⟨r8, e7, h⟩ := bnv_some h
      refine k_si (as := [.long (Int32.toInt64 x2), .long 0, .long (Int32.toInt64 ((μ.1 158 x1.toNatClampNeg) - 1))]) (rest := []) (c_X9_in C.i e7) M_X9_in u5_72 C hP hS rfl (by decide) hl.1 rfl (Nat.le_of_ble_eq_true rfl) dX9_peek_28 (fun H locs hP hS => ?_)
      refine lv_if_eq (tgt := 45) C.x C.b dX9_peek_31 (by decide) (fun c9 => ?_) (fun c9 => ?_)
      · have h := (if_pos c9).symm.trans h
        refine lv_ldc2 (own := RX9) (v := (-9223372036854775808)) C.x C.b C.o (C.t _ u6_17) dX9_peek_45 ?_
        exact r_l (pr_some h) C hP hS dX9_peek_48
      · have h := (if_neg c9).symm.trans h
        refine lv_aload_n C.x C.b dX9_peek_34 rfl (lv_at hl 0 rfl) ?_
        refine g_ref (k' := 150) F_9_47 u4_176 C hP sh_122 rfl dX9_peek_35 ?_
        refine lv_iload_n C.x C.b dX9_peek_38 rfl (lv_at hl 1 rfl) ?_
        obtain ⟨g10, h⟩ := grd_some h
        refine a_qq (k' := 151 + x1.toNatClampNeg) C hP sh_150 g10 rfl dX9_peek_39 ?_
        have ht11 : shp[151 + x1.toNatClampNeg]? = some (.inr (3, 60)) := mrow_at g10
        refine lv_iload_n C.x C.b dX9_peek_40 rfl (lv_at hl 2 rfl) ?_
        obtain ⟨g12, h⟩ := grd_some h
        refine a_l C hP ht11 g12 dX9_peek_41 ?_
        refine lv_goto (tgt := 48) C.x C.b dX9_peek_42 (by decide) ?_
        exact r_l (pr_some h) C hP hS dX9_peek_48

set_option maxRecDepth 100000 in
set_option maxHeartbeats 4000000 in
theorem c_X9_peek {l : Launch} {G : Gp} (hI : Wi G) {x1 : Int32} {x2 : Int32} {μ : Mem} {r : Int64} (h : f_X9_peek x1 x2 μ = some r) : CL l yX9_peek cX9_peek 3 (some .long) 2 45 G [.ref (G.2.2 122), .int x1, .int x2] μ r μ :=
  e_all (lv := [(0, .ref (G.2.2 122)), (1, .int x1), (2, .int x2)]) hI (by decide) (Nat.le_of_ble_eq_true rfl) rfl (fun p e s m args below meth c ls C hP hS hl => b_X9_peek C h _ _ _ hP hS hl)


def g_X9_shift_158 (x1 : Int32) (x2 : Int32) (x3 : Int32) (x4 : Int32) (x5 : Int32)  (q158 : Int32 → Mem → Option (Int32 × Mem)) (x6 : Int32) (μ : Mem) : Option (Int32 × Mem) := if x5 ≤ x6 then (some (x5, μ)) else (grd (inb x3 6) (grd (inb x6 60) (grd (inb (x4 + x6) 60) (lt (stl μ (151 + x3.toNatClampNeg) (x4 + x6).toNatClampNeg (μ.2 159 x6.toNatClampNeg)) (fun μ6 => lt (x6 + 1) (fun y7 => q158 y7 μ6))))))
def f_X9_shift_158 (x1 : Int32) (x2 : Int32) (x3 : Int32) (x4 : Int32) (x5 : Int32)  : Nat → Int32 → Mem → Option (Int32 × Mem)
  | 0, _, _ => none
  | n + 1, x6, μ => g_X9_shift_158 x1 x2 x3 x4 x5 (f_X9_shift_158 x1 x2 x3 x4 x5 n) x6 μ
set_option maxRecDepth 100000 in
set_option maxHeartbeats 4000000 in
theorem w_X9_shift_158 {p : Program} {l : Launch} {e : Env} {s : State} {m : MethodId} {args : Array Value} {below : List Frame} {meth : Method} {c : Code} {G : Gp} {O : (Int32 × Mem)} (C : Cx p s m args meth c cX9_shift 7 RX9 (some .int) G) {x1 : Int32} {x2 : Int32} {x3 : Int32} {x4 : Int32} {x5 : Int32} {q158 : Int32 → Mem → Option (Int32 × Mem)} (hq158 : ∀ (x6 : Int32) (μ : Mem), q158 x6 μ = some O → ∀ (H : Heap) (locs : List Loc) (ls : Array Slot), Wm G μ H → va_S (wA G) s.heap H locs → lv_has ls 7 [(0, .ref (G.2.2 122)), (3, .int x3), (4, .int x4), (5, .int x5), (6, .int x6)] → W p l e (rmm 2 45) s m args below meth c H locs 0 0 (QI below args s G O) (F0 m 158 ls [])) : ∀ (x6 : Int32) (μ : Mem), g_X9_shift_158 x1 x2 x3 x4 x5 q158 x6 μ = some O → ∀ (H : Heap) (locs : List Loc) (ls : Array Slot), Wm G μ H → va_S (wA G) s.heap H locs → lv_has ls 7 [(0, .ref (G.2.2 122)), (3, .int x3), (4, .int x4), (5, .int x5), (6, .int x6)] → W p l e (rmm 2 45) s m args below meth c H locs 0 0 (QI below args s G O) (F0 m 158 ls []) := by
  intro x6 μ h H locs ls hP hS hl
  unfold g_X9_shift_158 at h
  refine lv_iload C.x C.b dX9_shift_158 (lv_at hl 4 rfl) ?_
  refine lv_iload C.x C.b dX9_shift_160 (lv_at hl 3 rfl) ?_
  refine lv_icmp_ge (tgt := 190) C.x C.b dX9_shift_162 (by decide) (fun c1 => ?_) (fun c1 => ?_)
  · have h := (if_pos c1).symm.trans h
    refine lv_iload C.x C.b dX9_shift_190 (lv_at hl 3 rfl) ?_
    exact r_i h C hP hS dX9_shift_192
  · have h := (if_neg c1).symm.trans h
    refine lv_aload_n C.x C.b dX9_shift_165 rfl (lv_at hl 0 rfl) ?_
    refine g_ref (k' := 150) F_9_47 u4_176 C hP sh_122 rfl dX9_shift_166 ?_
    refine lv_iload_n C.x C.b dX9_shift_169 rfl (lv_at hl 1 rfl) ?_
    obtain ⟨g2, h⟩ := grd_some h
    refine a_qq (k' := 151 + x3.toNatClampNeg) C hP sh_150 g2 rfl dX9_shift_170 ?_
    have ht3 : shp[151 + x3.toNatClampNeg]? = some (.inr (3, 60)) := mrow_at g2
    refine lv_iload C.x C.b dX9_shift_171 (lv_at hl 2 rfl) ?_
    refine lv_iload C.x C.b dX9_shift_173 (lv_at hl 4 rfl) ?_
    refine lv_iadd C.x C.b dX9_shift_175 ?_
    refine lv_aload_n C.x C.b dX9_shift_176 rfl (lv_at hl 0 rfl) ?_
    refine g_ref (k' := 159) F_9_50 u4_179 C hP sh_122 rfl dX9_shift_177 ?_
    refine lv_iload C.x C.b dX9_shift_180 (lv_at hl 4 rfl) ?_
    obtain ⟨g4, h⟩ := grd_some h
    refine a_l C hP sh_159 g4 dX9_shift_182 ?_
    obtain ⟨g5, h⟩ := grd_some h
    refine as_l C hP hS ht3 g5 dX9_shift_183 (fun H locs hP hS => ?_)
    obtain ⟨μ6, m_μ6, h⟩ := lt_ex h
    have hP : Wm G μ6 H := by rw [m_μ6]; exact hP
    obtain ⟨y7, e_y7, h⟩ := lt_ex h
    refine lv_iinc (v := y7) (lv' := [(6, .int y7), (0, .ref (G.2.2 122)), (3, .int x3), (4, .int x4), (5, .int x5)]) C.x C.b dX9_shift_184 hl (k := 4) rfl (by rw [e_y7]; rfl) (by decide) rfl (fun ls hl => ?_)
    refine lv_goto (tgt := 158) C.x C.b dX9_shift_187 (by decide) ?_
    exact hq158 y7 μ6 h _ _ _ hP hS (lv_sub hl [1, 2, 3, 4, 0] rfl)

set_option maxRecDepth 100000 in
set_option maxHeartbeats 4000000 in
theorem b_X9_shift_158 {p : Program} {l : Launch} {e : Env} {s : State} {m : MethodId} {args : Array Value} {below : List Frame} {meth : Method} {c : Code} {G : Gp} {O : (Int32 × Mem)} (C : Cx p s m args meth c cX9_shift 7 RX9 (some .int) G) {x1 : Int32} {x2 : Int32} {x3 : Int32} {x4 : Int32} {x5 : Int32} : ∀ (n : Nat) (x6 : Int32) (μ : Mem), f_X9_shift_158 x1 x2 x3 x4 x5 n x6 μ = some O → ∀ (H : Heap) (locs : List Loc) (ls : Array Slot), Wm G μ H → va_S (wA G) s.heap H locs → lv_has ls 7 [(0, .ref (G.2.2 122)), (3, .int x3), (4, .int x4), (5, .int x5), (6, .int x6)] → W p l e (rmm 2 45) s m args below meth c H locs 0 0 (QI below args s G O) (F0 m 158 ls []) := by
  intro n
  induction n with
  | zero => intro x6 μ h; cases h
  | succ n ih => intro x6 μ h; exact w_X9_shift_158 C (q158 := f_X9_shift_158 x1 x2 x3 x4 x5 n) ih x6 μ h

def g_X9_shift_124 (x1 : Int32) (x2 : Int32) (x3 : Int32) (x4 : Int32) (x5 : Int32)  (q124 : Int32 → Mem → Option (Int32 × Mem)) (x6 : Int32) (μ : Mem) : Option (Int32 × Mem) := if x5 ≤ x6 then (f_X9_shift_158 x1 x2 x3 x4 x5 FU 0 μ) else (grd (inb x1 6) (grd (inb (x2 + x6) 60) (grd (inb x6 60) (lt (stl μ 159 x6.toNatClampNeg (μ.2 (151 + x1.toNatClampNeg) (x2 + x6).toNatClampNeg)) (fun μ6 => lt (x6 + 1) (fun y7 => q124 y7 μ6))))))
def f_X9_shift_124 (x1 : Int32) (x2 : Int32) (x3 : Int32) (x4 : Int32) (x5 : Int32)  : Nat → Int32 → Mem → Option (Int32 × Mem)
  | 0, _, _ => none
  | n + 1, x6, μ => g_X9_shift_124 x1 x2 x3 x4 x5 (f_X9_shift_124 x1 x2 x3 x4 x5 n) x6 μ
set_option maxRecDepth 100000 in
set_option maxHeartbeats 4000000 in
theorem w_X9_shift_124 {p : Program} {l : Launch} {e : Env} {s : State} {m : MethodId} {args : Array Value} {below : List Frame} {meth : Method} {c : Code} {G : Gp} {O : (Int32 × Mem)} (C : Cx p s m args meth c cX9_shift 7 RX9 (some .int) G) {x1 : Int32} {x2 : Int32} {x3 : Int32} {x4 : Int32} {x5 : Int32} {q124 : Int32 → Mem → Option (Int32 × Mem)} (hq124 : ∀ (x6 : Int32) (μ : Mem), q124 x6 μ = some O → ∀ (H : Heap) (locs : List Loc) (ls : Array Slot), Wm G μ H → va_S (wA G) s.heap H locs → lv_has ls 7 [(0, .ref (G.2.2 122)), (1, .int x1), (2, .int x2), (3, .int x3), (4, .int x4), (5, .int x5), (6, .int x6)] → W p l e (rmm 2 45) s m args below meth c H locs 0 0 (QI below args s G O) (F0 m 124 ls [])) : ∀ (x6 : Int32) (μ : Mem), g_X9_shift_124 x1 x2 x3 x4 x5 q124 x6 μ = some O → ∀ (H : Heap) (locs : List Loc) (ls : Array Slot), Wm G μ H → va_S (wA G) s.heap H locs → lv_has ls 7 [(0, .ref (G.2.2 122)), (1, .int x1), (2, .int x2), (3, .int x3), (4, .int x4), (5, .int x5), (6, .int x6)] → W p l e (rmm 2 45) s m args below meth c H locs 0 0 (QI below args s G O) (F0 m 124 ls []) := by
  intro x6 μ h H locs ls hP hS hl
  unfold g_X9_shift_124 at h
  refine lv_iload C.x C.b dX9_shift_124 (lv_at hl 6 rfl) ?_
  refine lv_iload C.x C.b dX9_shift_126 (lv_at hl 5 rfl) ?_
  refine lv_icmp_ge (tgt := 155) C.x C.b dX9_shift_128 (by decide) (fun c1 => ?_) (fun c1 => ?_)
  · have h := (if_pos c1).symm.trans h
    refine lv_iconst (v := 0) C.x C.b dX9_shift_155 (by decide) ?_
    refine lv_istore (lv' := [(6, .int 0), (0, .ref (G.2.2 122)), (1, .int x1), (2, .int x2), (3, .int x3), (4, .int x4), (5, .int x5)]) C.x C.b dX9_shift_156 hl (by decide) rfl (fun ls hl => ?_)
    exact b_X9_shift_158 C FU 0 μ h _ _ _ hP hS (lv_sub hl [1, 4, 5, 6, 0] rfl)
  · have h := (if_neg c1).symm.trans h
    refine lv_aload_n C.x C.b dX9_shift_131 rfl (lv_at hl 0 rfl) ?_
    refine g_ref (k' := 159) F_9_50 u4_179 C hP sh_122 rfl dX9_shift_132 ?_
    refine lv_iload C.x C.b dX9_shift_135 (lv_at hl 6 rfl) ?_
    refine lv_aload_n C.x C.b dX9_shift_137 rfl (lv_at hl 0 rfl) ?_
    refine g_ref (k' := 150) F_9_47 u4_176 C hP sh_122 rfl dX9_shift_138 ?_
    refine lv_iload_n C.x C.b dX9_shift_141 rfl (lv_at hl 1 rfl) ?_
    obtain ⟨g2, h⟩ := grd_some h
    refine a_qq (k' := 151 + x1.toNatClampNeg) C hP sh_150 g2 rfl dX9_shift_142 ?_
    have ht3 : shp[151 + x1.toNatClampNeg]? = some (.inr (3, 60)) := mrow_at g2
    refine lv_iload_n C.x C.b dX9_shift_143 rfl (lv_at hl 2 rfl) ?_
    refine lv_iload C.x C.b dX9_shift_144 (lv_at hl 6 rfl) ?_
    refine lv_iadd C.x C.b dX9_shift_146 ?_
    obtain ⟨g4, h⟩ := grd_some h
    refine a_l C hP ht3 g4 dX9_shift_147 ?_
    obtain ⟨g5, h⟩ := grd_some h
    refine as_l C hP hS sh_159 g5 dX9_shift_148 (fun H locs hP hS => ?_)
    obtain ⟨μ6, m_μ6, h⟩ := lt_ex h
    have hP : Wm G μ6 H := by rw [m_μ6]; exact hP
    obtain ⟨y7, e_y7, h⟩ := lt_ex h
    refine lv_iinc (v := y7) (lv' := [(6, .int y7), (0, .ref (G.2.2 122)), (1, .int x1), (2, .int x2), (3, .int x3), (4, .int x4), (5, .int x5)]) C.x C.b dX9_shift_149 hl (k := 6) rfl (by rw [e_y7]; rfl) (by decide) rfl (fun ls hl => ?_)
    refine lv_goto (tgt := 124) C.x C.b dX9_shift_152 (by decide) ?_
    exact hq124 y7 μ6 h _ _ _ hP hS (lv_sub hl [1, 2, 3, 4, 5, 6, 0] rfl)

set_option maxRecDepth 100000 in
set_option maxHeartbeats 4000000 in
theorem b_X9_shift_124 {p : Program} {l : Launch} {e : Env} {s : State} {m : MethodId} {args : Array Value} {below : List Frame} {meth : Method} {c : Code} {G : Gp} {O : (Int32 × Mem)} (C : Cx p s m args meth c cX9_shift 7 RX9 (some .int) G) {x1 : Int32} {x2 : Int32} {x3 : Int32} {x4 : Int32} {x5 : Int32} : ∀ (n : Nat) (x6 : Int32) (μ : Mem), f_X9_shift_124 x1 x2 x3 x4 x5 n x6 μ = some O → ∀ (H : Heap) (locs : List Loc) (ls : Array Slot), Wm G μ H → va_S (wA G) s.heap H locs → lv_has ls 7 [(0, .ref (G.2.2 122)), (1, .int x1), (2, .int x2), (3, .int x3), (4, .int x4), (5, .int x5), (6, .int x6)] → W p l e (rmm 2 45) s m args below meth c H locs 0 0 (QI below args s G O) (F0 m 124 ls []) := by
  intro n
  induction n with
  | zero => intro x6 μ h; cases h
  | succ n ih => intro x6 μ h; exact w_X9_shift_124 C (q124 := f_X9_shift_124 x1 x2 x3 x4 x5 n) ih x6 μ h

def f_X9_shift (x1 : Int32) (x2 : Int32) (x3 : Int32) (x4 : Int32) (x5 : Int32) (μ : Mem) : Option (Int32 × Mem) := bnv (f_X9_isTape x1 μ) (fun r2 => if r2 = 0 then (some ((-1), μ)) else (bnv (f_X9_isTape x3 μ) (fun r5 => if r5 = 0 then (some ((-1), μ)) else (grd (inb x1 6) (if (μ.1 157 x1.toNatClampNeg) < 0 then (some ((-11), μ)) else (grd (inb x3 6) (if 0 ≤ (μ.1 157 x3.toNatClampNeg) then (grd (inb x1 6) (grd (inb x3 6) (if (μ.1 157 x1.toNatClampNeg) = (μ.1 157 x3.toNatClampNeg) then (if x5 < 0 then (some ((-13), μ)) else (if x2 < 0 then (some ((-13), μ)) else (if x4 < 0 then (some ((-13), μ)) else (grd (inb x1 6) (if (μ.1 158 x1.toNatClampNeg) < x5 then (some ((-13), μ)) else (grd (inb x3 6) (if (μ.1 158 x3.toNatClampNeg) < x5 then (some ((-13), μ)) else (grd (inb x1 6) (if ((μ.1 158 x1.toNatClampNeg) - x5) < x2 then (some ((-13), μ)) else (grd (inb x3 6) (if x4 ≤ ((μ.1 158 x3.toNatClampNeg) - x5) then (f_X9_shift_124 x1 x2 x3 x4 x5 FU 0 μ) else (some ((-13), μ))))))))))))) else (some ((-12), μ))))) else (some ((-11), μ)))))))))
set_option maxRecDepth 100000 in
set_option maxHeartbeats 4000000 in
theorem b_X9_shift {p : Program} {l : Launch} {e : Env} {s : State} {m : MethodId} {args : Array Value} {below : List Frame} {meth : Method} {c : Code} {G : Gp} {O : (Int32 × Mem)} (C : Cx p s m args meth c cX9_shift 7 RX9 (some .int) G) {x1 : Int32} {x2 : Int32} {x3 : Int32} {x4 : Int32} {x5 : Int32} {μ : Mem} (h : f_X9_shift x1 x2 x3 x4 x5 μ = some O) : ∀ (H : Heap) (locs : List Loc) (ls : Array Slot), Wm G μ H → va_S (wA G) s.heap H locs → lv_has ls 7 [(0, .ref (G.2.2 122)), (1, .int x1), (2, .int x2), (3, .int x3), (4, .int x4), (5, .int x5)] → W p l e (rmm 2 45) s m args below meth c H locs 0 0 (QI below args s G O) (F0 m 0 ls []) := by
  unfold f_X9_shift at h
  intro H locs ls hP hS hl
  refine lv_iload_n C.x C.b dX9_shift_0 rfl (lv_at hl 1 rfl) ?_
  obtain ⟨r2, e1, h⟩ := bnv_some h
  refine k_si (as := [.int x1]) (rest := []) (c_X9_isTape C.i e1) M_X9_isTape u6_158 C hP hS rfl (by decide) hl.1 rfl (Nat.le_of_ble_eq_true rfl) dX9_shift_1 (fun H locs hP hS => ?_)
  refine lv_if_eq (tgt := 14) C.x C.b dX9_shift_4 (by decide) (fun c3 => ?_) (fun c3 => ?_)
  · have h := (if_pos c3).symm.trans h
    refine lv_iconst (v := (-1)) C.x C.b dX9_shift_14 (by decide) ?_
    exact r_i h C hP hS dX9_shift_15
  · have h := (if_neg c3).symm.trans h
    refine lv_iload_n C.x C.b dX9_shift_7 rfl (lv_at hl 3 rfl) ?_
    obtain ⟨r5, e4, h⟩ := bnv_some h
    refine k_si (as := [.int x3]) (rest := []) (c_X9_isTape C.i e4) M_X9_isTape u6_158 C hP hS rfl (by decide) hl.1 rfl (Nat.le_of_ble_eq_true rfl) dX9_shift_8 (fun H locs hP hS => ?_)
    refine lv_if_ne (tgt := 16) C.x C.b dX9_shift_11 (by decide) (fun c6 => ?_) (fun c6 => ?_)
    · have h := (if_neg c6).symm.trans h
      refine lv_aload_n C.x C.b dX9_shift_16 rfl (lv_at hl 0 rfl) ?_
      refine g_ref (k' := 157) F_9_48 u4_177 C hP sh_122 rfl dX9_shift_17 ?_
      refine lv_iload_n C.x C.b dX9_shift_20 rfl (lv_at hl 1 rfl) ?_
      obtain ⟨g7, h⟩ := grd_some h
      refine a_i C hP sh_157 g7 dX9_shift_21 ?_
      refine lv_if_lt (tgt := 34) C.x C.b dX9_shift_22 (by decide) (fun c8 => ?_) (fun c8 => ?_)
      · have h := (if_pos c8).symm.trans h
        refine lv_bipush (v := (-11)) C.x C.b dX9_shift_34 (by decide) ?_
        exact r_i h C hP hS dX9_shift_36
      · have h := (if_neg c8).symm.trans h
        refine lv_aload_n C.x C.b dX9_shift_25 rfl (lv_at hl 0 rfl) ?_
        refine g_ref (k' := 157) F_9_48 u4_177 C hP sh_122 rfl dX9_shift_26 ?_
        refine lv_iload_n C.x C.b dX9_shift_29 rfl (lv_at hl 3 rfl) ?_
        obtain ⟨g9, h⟩ := grd_some h
        refine a_i C hP sh_157 g9 dX9_shift_30 ?_
        refine lv_if_ge (tgt := 37) C.x C.b dX9_shift_31 (by decide) (fun c10 => ?_) (fun c10 => ?_)
        · have h := (if_pos c10).symm.trans h
          refine lv_aload_n C.x C.b dX9_shift_37 rfl (lv_at hl 0 rfl) ?_
          refine g_ref (k' := 157) F_9_48 u4_177 C hP sh_122 rfl dX9_shift_38 ?_
          refine lv_iload_n C.x C.b dX9_shift_41 rfl (lv_at hl 1 rfl) ?_
          obtain ⟨g11, h⟩ := grd_some h
          refine a_i C hP sh_157 g11 dX9_shift_42 ?_
          refine lv_aload_n C.x C.b dX9_shift_43 rfl (lv_at hl 0 rfl) ?_
          refine g_ref (k' := 157) F_9_48 u4_177 C hP sh_122 rfl dX9_shift_44 ?_
          refine lv_iload_n C.x C.b dX9_shift_47 rfl (lv_at hl 3 rfl) ?_
          obtain ⟨g12, h⟩ := grd_some h
          refine a_i C hP sh_157 g12 dX9_shift_48 ?_
          refine lv_icmp_eq (tgt := 55) C.x C.b dX9_shift_49 (by decide) (fun c13 => ?_) (fun c13 => ?_)
          · have h := (if_pos c13).symm.trans h
            refine lv_iload C.x C.b dX9_shift_55 (lv_at hl 5 rfl) ?_
            refine lv_if_lt (tgt := 118) C.x C.b dX9_shift_57 (by decide) (fun c14 => ?_) (fun c14 => ?_)
            · have h := (if_pos c14).symm.trans h
              refine lv_bipush (v := (-13)) C.x C.b dX9_shift_118 (by decide) ?_
              exact r_i h C hP hS dX9_shift_120
            · have h := (if_neg c14).symm.trans h
              refine lv_iload_n C.x C.b dX9_shift_60 rfl (lv_at hl 2 rfl) ?_
              refine lv_if_lt (tgt := 118) C.x C.b dX9_shift_61 (by decide) (fun c15 => ?_) (fun c15 => ?_)
              · have h := (if_pos c15).symm.trans h
                refine lv_bipush (v := (-13)) C.x C.b dX9_shift_118 (by decide) ?_
                exact r_i h C hP hS dX9_shift_120
              · have h := (if_neg c15).symm.trans h
                refine lv_iload C.x C.b dX9_shift_64 (lv_at hl 4 rfl) ?_
                refine lv_if_lt (tgt := 118) C.x C.b dX9_shift_66 (by decide) (fun c16 => ?_) (fun c16 => ?_)
                · have h := (if_pos c16).symm.trans h
                  refine lv_bipush (v := (-13)) C.x C.b dX9_shift_118 (by decide) ?_
                  exact r_i h C hP hS dX9_shift_120
                · have h := (if_neg c16).symm.trans h
                  refine lv_iload C.x C.b dX9_shift_69 (lv_at hl 5 rfl) ?_
                  refine lv_aload_n C.x C.b dX9_shift_71 rfl (lv_at hl 0 rfl) ?_
                  refine g_ref (k' := 158) F_9_49 u4_178 C hP sh_122 rfl dX9_shift_72 ?_
                  refine lv_iload_n C.x C.b dX9_shift_75 rfl (lv_at hl 1 rfl) ?_
                  obtain ⟨g17, h⟩ := grd_some h
                  refine a_i C hP sh_158 g17 dX9_shift_76 ?_
                  refine lv_icmp_gt (tgt := 118) C.x C.b dX9_shift_77 (by decide) (fun c18 => ?_) (fun c18 => ?_)
                  · have h := (if_pos c18).symm.trans h
                    refine lv_bipush (v := (-13)) C.x C.b dX9_shift_118 (by decide) ?_
                    exact r_i h C hP hS dX9_shift_120
                  · have h := (if_neg c18).symm.trans h
                    refine lv_iload C.x C.b dX9_shift_80 (lv_at hl 5 rfl) ?_
                    refine lv_aload_n C.x C.b dX9_shift_82 rfl (lv_at hl 0 rfl) ?_
                    refine g_ref (k' := 158) F_9_49 u4_178 C hP sh_122 rfl dX9_shift_83 ?_
                    refine lv_iload_n C.x C.b dX9_shift_86 rfl (lv_at hl 3 rfl) ?_
                    obtain ⟨g19, h⟩ := grd_some h
                    refine a_i C hP sh_158 g19 dX9_shift_87 ?_
                    refine lv_icmp_gt (tgt := 118) C.x C.b dX9_shift_88 (by decide) (fun c20 => ?_) (fun c20 => ?_)
                    · have h := (if_pos c20).symm.trans h
                      refine lv_bipush (v := (-13)) C.x C.b dX9_shift_118 (by decide) ?_
                      exact r_i h C hP hS dX9_shift_120
                    · have h := (if_neg c20).symm.trans h
                      refine lv_iload_n C.x C.b dX9_shift_91 rfl (lv_at hl 2 rfl) ?_
                      refine lv_aload_n C.x C.b dX9_shift_92 rfl (lv_at hl 0 rfl) ?_
                      refine g_ref (k' := 158) F_9_49 u4_178 C hP sh_122 rfl dX9_shift_93 ?_
                      refine lv_iload_n C.x C.b dX9_shift_96 rfl (lv_at hl 1 rfl) ?_
                      obtain ⟨g21, h⟩ := grd_some h
                      refine a_i C hP sh_158 g21 dX9_shift_97 ?_
                      refine lv_iload C.x C.b dX9_shift_98 (lv_at hl 5 rfl) ?_
                      refine lv_isub C.x C.b dX9_shift_100 ?_
                      refine lv_icmp_gt (tgt := 118) C.x C.b dX9_shift_101 (by decide) (fun c22 => ?_) (fun c22 => ?_)
                      · have h := (if_pos c22).symm.trans h
                        refine lv_bipush (v := (-13)) C.x C.b dX9_shift_118 (by decide) ?_
                        exact r_i h C hP hS dX9_shift_120
                      · have h := (if_neg c22).symm.trans h
                        refine lv_iload C.x C.b dX9_shift_104 (lv_at hl 4 rfl) ?_
                        refine lv_aload_n C.x C.b dX9_shift_106 rfl (lv_at hl 0 rfl) ?_
                        refine g_ref (k' := 158) F_9_49 u4_178 C hP sh_122 rfl dX9_shift_107 ?_
                        refine lv_iload_n C.x C.b dX9_shift_110 rfl (lv_at hl 3 rfl) ?_
                        obtain ⟨g23, h⟩ := grd_some h
                        refine a_i C hP sh_158 g23 dX9_shift_111 ?_
                        refine lv_iload C.x C.b dX9_shift_112 (lv_at hl 5 rfl) ?_
                        refine lv_isub C.x C.b dX9_shift_114 ?_
                        refine lv_icmp_le (tgt := 121) C.x C.b dX9_shift_115 (by decide) (fun c24 => ?_) (fun c24 => ?_)
                        · have h := (if_pos c24).symm.trans h
                          refine lv_iconst (v := 0) C.x C.b dX9_shift_121 (by decide) ?_
                          refine lv_istore (lv' := [(6, .int 0), (0, .ref (G.2.2 122)), (1, .int x1), (2, .int x2), (3, .int x3), (4, .int x4), (5, .int x5)]) C.x C.b dX9_shift_122 hl (by decide) rfl (fun ls hl => ?_)
                          exact b_X9_shift_124 C FU 0 μ h _ _ _ hP hS (lv_sub hl [1, 2, 3, 4, 5, 6, 0] rfl)
                        · have h := (if_neg c24).symm.trans h
                          refine lv_bipush (v := (-13)) C.x C.b dX9_shift_118 (by decide) ?_
                          exact r_i h C hP hS dX9_shift_120
          · have h := (if_neg c13).symm.trans h
            refine lv_bipush (v := (-12)) C.x C.b dX9_shift_52 (by decide) ?_
            exact r_i h C hP hS dX9_shift_54
        · have h := (if_neg c10).symm.trans h
          refine lv_bipush (v := (-11)) C.x C.b dX9_shift_34 (by decide) ?_
          exact r_i h C hP hS dX9_shift_36
    · have h := (if_pos c6).symm.trans h
      refine lv_iconst (v := (-1)) C.x C.b dX9_shift_14 (by decide) ?_
      exact r_i h C hP hS dX9_shift_15

set_option maxRecDepth 100000 in
set_option maxHeartbeats 4000000 in
theorem c_X9_shift {l : Launch} {G : Gp} (hI : Wi G) {x1 : Int32} {x2 : Int32} {x3 : Int32} {x4 : Int32} {x5 : Int32} {μ : Mem} {r : Int32} {μ' : Mem} (h : f_X9_shift x1 x2 x3 x4 x5 μ = some (r, μ')) : CI l yX9_shift cX9_shift 7 (some .int) 2 45 G [.ref (G.2.2 122), .int x1, .int x2, .int x3, .int x4, .int x5] μ r μ' :=
  e_all (lv := [(0, .ref (G.2.2 122)), (1, .int x1), (2, .int x2), (3, .int x3), (4, .int x4), (5, .int x5)]) hI (by decide) (Nat.le_of_ble_eq_true rfl) rfl (fun p e s m args below meth c ls C hP hS hl => b_X9_shift C h _ _ _ hP hS hl)

