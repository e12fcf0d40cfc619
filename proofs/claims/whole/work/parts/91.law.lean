/-! THE LAW'S LOOP -/
section LW
variable {p : Program} {l : Launch} {e : Env} {s : State} {m : MethodId} {args : Array Value} {below : List Frame} {meth : Method} {c : Code} {H : Heap} {locs : List Loc} {Q : State → Prop}
variable {cc : ByteArray} {nL : Nat} {own : String} {ret : Option FieldType} {G : Gp} {μ : Mem} {fr lo MC MS cells slots : Nat} {A0 : Nat → Prop}
variable {pc : Nat} {ls : Array Slot} {rest st0 : List Value} {idx cn fr' lo' k n ci : Nat} {y : MethodName} {cy : ByteArray} {ret' : Option FieldType} {as : List Value} {μ1 : Mem} {fs : List (Option Nat)} {T : u_T} {N : Nat}
theorem l_vrun {Qc : Array Value → State → Outcome → State → Prop} (hM : Met l y (wc y cy cn ret') (rmm fr' lo') (va_Pc (.ref (G.2.2 k) :: as) (Wo G μ)) Qc 0 0 (wA G)) (F : MV y cy cn ret' n) (u : Cond.methodLink own idx y ∈ UU)
    (C : Cx p s m args meth c cc nL own ret G) (hP : Wm G μ H) (hk : shp[k]? = some (.inl (ci, fs))) (hci : vwCl[ci]? = some (y.cls, T, N)) (hn : as.length = n) (hR : fr' + 1 ≤ fr ∧ 8 + (cn + 11) + lo' ≤ lo) (hl : ls.size = nL) (hst : st0 = as.reverse ++ .ref (G.2.2 k) :: rest) (hW : (rest.map fun v => v.category).sum ≤ 8) (hcs : cells ≤ MC ∧ slots ≤ MS) (hdg : decode cc pc = .ok (.invokevirtual idx, 3)) :
    va_Run p l e (rmc fr lo MC MS) s m args below meth c H locs cells slots 0 0 (F0 m pc ls st0) rest (Qc (Value.ref (G.2.2 k) :: as).toArray) (wA G) := by
  obtain ⟨f1, f2, f3, f4, f5, f6, f7⟩ := id F
  exact va_runV ⟨C.x, C.b, C.n, C.o, C.t⟩ hM (cwV n C.t (gv_U F u) rfl rfl rfl ⟨rfl, f5, f6, f7⟩ hR) ⟨Wo.blind, va_recv C.k.1 hP hci (wl_get hk), fun U hU hw => ⟨rfl, by rw [hU]; exact hP, Kn.warm hw C.k⟩⟩ rfl hn hl hst (lv_room hW) hdg ⟨hcs.1, hcs.2⟩
theorem l_vi {r : Int32} (hM : CI l y cy cn ret' fr' lo' G (.ref (G.2.2 k) :: as) μ r μ1) (F : MV y cy cn ret' n) (u : Cond.methodLink own idx y ∈ UU)
    (C : Cx p s m args meth c cc nL own ret G) (hP : Wm G μ H) (hS : va_S A0 s.heap H locs) (hA : ∀ q, wA G q → A0 q) (hk : shp[k]? = some (.inl (ci, fs))) (hci : vwCl[ci]? = some (y.cls, T, N)) (hn : as.length = n) (hR : fr' + 1 ≤ fr ∧ 8 + (cn + 11) + lo' ≤ lo) (hl : ls.size = nL) (hst : st0 = as.reverse ++ .ref (G.2.2 k) :: rest) (hW : (rest.map fun v => v.category).sum ≤ 8) (hcs : cells ≤ MC ∧ slots ≤ MS) (hdg : decode cc pc = .ok (.invokevirtual idx, 3))
    (kk : ∀ (H1 : Heap) (locs1 : List Loc), Wm G μ1 H1 → va_S A0 s.heap H1 locs1 → W p l e (rmc fr lo MC MS) s m args below meth c H1 locs1 cells slots Q (F0 m (pc + 3) ls (.int r :: rest))) : W p l e (rmc fr lo MC MS) s m args below meth c H locs cells slots Q (F0 m pc ls st0) :=
  va_calli (l_vrun hM F u C hP hk hci hn hR hl hst hW hcs hdg) hS (fun _ _ h => hA _ h) (fun _ h => hA _ h) (fun r1 _ t H1 locs1 ht _ hw hB _ _ hS1 => by subst hw; subst ht; exact kk _ _ hB.1 hS1)
theorem l_vl {r : Int64} (hM : CL l y cy cn ret' fr' lo' G (.ref (G.2.2 k) :: as) μ r μ1) (F : MV y cy cn ret' n) (u : Cond.methodLink own idx y ∈ UU)
    (C : Cx p s m args meth c cc nL own ret G) (hP : Wm G μ H) (hS : va_S A0 s.heap H locs) (hA : ∀ q, wA G q → A0 q) (hk : shp[k]? = some (.inl (ci, fs))) (hci : vwCl[ci]? = some (y.cls, T, N)) (hn : as.length = n) (hR : fr' + 1 ≤ fr ∧ 8 + (cn + 11) + lo' ≤ lo) (hl : ls.size = nL) (hst : st0 = as.reverse ++ .ref (G.2.2 k) :: rest) (hW : (rest.map fun v => v.category).sum ≤ 8) (hcs : cells ≤ MC ∧ slots ≤ MS) (hdg : decode cc pc = .ok (.invokevirtual idx, 3))
    (kk : ∀ (H1 : Heap) (locs1 : List Loc), Wm G μ1 H1 → va_S A0 s.heap H1 locs1 → W p l e (rmc fr lo MC MS) s m args below meth c H1 locs1 cells slots Q (F0 m (pc + 3) ls (.long r :: rest))) : W p l e (rmc fr lo MC MS) s m args below meth c H locs cells slots Q (F0 m pc ls st0) :=
  va_calll (l_vrun hM F u C hP hk hci hn hR hl hst hW hcs hdg) hS (fun _ _ h => hA _ h) (fun _ h => hA _ h) (fun r1 _ t H1 locs1 ht _ hw hB _ _ hS1 => by subst hw; subst ht; exact kk _ _ hB.1 hS1)
end LW
theorem lg_cmp_self (x : Int64) : lg_cmp x x = 0 := by unfold lg_cmp; simp
theorem sc_in {i L : Nat} (h : i + 6 ≤ L ∧ L ≤ 3072) (k : Nat) (hk : k < 6) : vp_in (nI i + nI k) L := by
  rw [nI_add]
  exact nI_in (by omega) (by omega)
theorem sc_stop {i L : Nat} (hL : L ≤ 3072) (hi : i ≤ 3100) (h : ¬ (nI L - 6 < nI i)) : i + 6 ≤ L := by
  rw [Int32.lt_iff_toInt_lt] at h
  have e1 : (nI i).toInt = i := nI_toInt (by omega)
  have e2 : (nI L).toInt = L := nI_toInt (by omega)
  have e3 : (nI L - 6).toInt = (L : Int) - 6 := by
    rw [Int32.toInt_sub, e2]
    show ((L : Int) - 6).bmod (2 ^ 32) = _
    rw [Int.bmod_def]
    omega
  omega
set_option maxRecDepth 100000 in
set_option maxHeartbeats 40000000 in
theorem law_loop {p : Program} {l : Launch} {e : Env} {s : State} {m : MethodId} {below : List Frame} {meth : Method} {c : Code} {G : Gp} {b L : Nat} {xs : Nat → Int32} (hL : L ≤ 3072)
    (C : Cx p s m #[Value.ref b] meth c cL_law 4 RL ret G) (hX : va_X b L xs s s.heap) (hbl : b < s.heap.size) (hAw : ∀ q, wA G q → s.heap.size ≤ q) :
    ∀ (n i : Nat), L < i + 6 * n → i ≤ L → ∀ (μ : Mem), Inv μ → ∀ (H : Heap) (locs : List Loc) (ls : Array Slot), Wm G μ H → va_S (fun q : Nat => s.heap.size ≤ q) s.heap H locs → lv_has ls 4 [(0, .ref b), (1, .ref (G.2.2 0)), (2, .ref (G.2.2 122)), (3, .int (nI i))] →
    W p l e (rmc 10 380 600000 7302250) s m #[Value.ref b] below meth c H locs 160 4767 (lw_Z below #[Value.ref b] s) (F0 m 18 ls []) := by
  have hbA : ¬ (fun q : Nat => s.heap.size ≤ q) b := Nat.not_le.mpr hbl
  have hcs : 160 ≤ 600000 ∧ 4767 ≤ 7302250 := ⟨Nat.le_of_ble_eq_true rfl, Nat.le_of_ble_eq_true rfl⟩
  intro n
  induction n with
  | zero => intro i h1 h2; omega
  | succ n ih =>
    intro i h1 h2 μ hv H locs ls hP hS hl
    refine lv_iload_n C.x C.b dL_law_18 rfl (lv_at hl 3 rfl) ?_
    refine lv_aload_n C.x C.b dL_law_19 rfl (lv_at hl 0 rfl) ?_
    refine va_slen C.x C.b hX hbl hbA hS dL_law_20 ?_
    refine lv_bipush (v := 6) C.x C.b dL_law_21 (by decide) ?_
    refine lv_isub C.x C.b dL_law_23 ?_
    refine lv_icmp_gt (tgt := 1533) C.x C.b dL_law_24 (by decide) (fun _ => ?_) (fun c0 => ?_)
    · refine lv_iconst (v := 1) C.x C.b dL_law_1533 (by decide) ?_
      refine va_forget hS.2.2 ?_
      refine W.widen hcs.1 hcs.2 ?_
      exact lw_ret C.x C.b C.r C.nl dL_law_1534
    have hlt : i + 6 ≤ L ∧ L ≤ 3072 := ⟨sc_stop hL (by omega) c0, hL⟩
    have tail : ∀ (μ : Mem), Inv μ → ∀ (H : Heap) (locs : List Loc) (ls : Array Slot), Wm G μ H → va_S (fun q : Nat => s.heap.size ≤ q) s.heap H locs → lv_has ls 4 [(0, .ref b), (1, .ref (G.2.2 0)), (2, .ref (G.2.2 122)), (3, .int (nI i))] → W p l e (rmc 10 380 600000 7302250) s m #[Value.ref b] below meth c H locs 160 4767 (lw_Z below #[Value.ref b] s) (F0 m 1527 ls []) := by
      intro μ hv H locs ls hP hS hl
      refine lv_iinc (v := nI (i + 6)) (lv' := [(3, .int (nI (i + 6))), (0, .ref b), (1, .ref (G.2.2 0)), (2, .ref (G.2.2 122))]) C.x C.b dL_law_1527 hl (k := 3) rfl (nI_add i 6) (by decide) rfl (fun ls hl => ?_)
      refine lv_goto (tgt := 18) C.x C.b dL_law_1530 (by decide) ?_
      exact ih (i + 6) (by omega) hlt.1 μ hv H locs ls hP hS (lv_sub hl [1, 2, 3, 0] rfl)
    clear ih h1 h2
    refine lv_aload_n C.x C.b dL_law_27 rfl (lv_at hl 0 rfl) ?_
    refine lv_iload_n C.x C.b dL_law_28 rfl (lv_at hl 3 rfl) ?_
    refine va_sld C.x C.b hX hbl hbA hS (nI_in (by omega) (by omega)) dL_law_29 ?_
    refine lv_bipush (v := 63) C.x C.b dL_law_30 (by decide) ?_
    refine lv_iand C.x C.b dL_law_32 ?_
    refine lv_topi (fun sel _ => ?_)
    by_cases s0 : sel = 0
    · refine lv_tableIn (off := 171) (tgt := 204) C.x C.b dL_law_33 (by rw [s0]; decide) (by rw [s0]; decide) (by rw [s0]; rfl) (by decide) ?_
      clear s0
      refine lv_aload_n C.x C.b dL_law_204 rfl (lv_at hl 1 rfl) ?_
      refine lv_aload_n C.x C.b dL_law_205 rfl (lv_at hl 0 rfl) ?_
      refine lv_iload_n C.x C.b dL_law_206 rfl (lv_at hl 3 rfl) ?_
      refine lv_iconst (v := 1) C.x C.b dL_law_207 (by decide) ?_
      refine lv_iadd C.x C.b dL_law_208 ?_
      refine va_sld C.x C.b hX hbl hbA hS (sc_in hlt 1 (by decide)) dL_law_209 ?_
      refine lv_aload_n C.x C.b dL_law_210 rfl (lv_at hl 0 rfl) ?_
      refine lv_iload_n C.x C.b dL_law_211 rfl (lv_at hl 3 rfl) ?_
      refine lv_iconst (v := 2) C.x C.b dL_law_212 (by decide) ?_
      refine lv_iadd C.x C.b dL_law_213 ?_
      refine va_sld C.x C.b hX hbl hbA hS (sc_in hlt 2 (by decide)) dL_law_214 ?_
      obtain ⟨r, μ1, μ2, e1, e2, hv2⟩ := st_quarry hv (xs (nI i + 1).toNatClampNeg) (xs (nI i + 2).toNatClampNeg)
      refine l_vi (k := 0) (as := [.int (xs (nI i + 1).toNatClampNeg), .int (xs (nI i + 2).toNatClampNeg)]) (rest := []) (c_X8_quarry C.i e1) M_X8_quarry u2_101 C hP hS hAw sh_0 rfl rfl (by decide) hl.1 rfl (Nat.le_of_ble_eq_true rfl) hcs dL_law_215 (fun H locs hP hS => ?_)
      refine lv_aload_n C.x C.b dL_law_218 rfl (lv_at hl 2 rfl) ?_
      refine lv_aload_n C.x C.b dL_law_219 rfl (lv_at hl 0 rfl) ?_
      refine lv_iload_n C.x C.b dL_law_220 rfl (lv_at hl 3 rfl) ?_
      refine lv_iconst (v := 1) C.x C.b dL_law_221 (by decide) ?_
      refine lv_iadd C.x C.b dL_law_222 ?_
      refine va_sld C.x C.b hX hbl hbA hS (sc_in hlt 1 (by decide)) dL_law_223 ?_
      refine lv_aload_n C.x C.b dL_law_224 rfl (lv_at hl 0 rfl) ?_
      refine lv_iload_n C.x C.b dL_law_225 rfl (lv_at hl 3 rfl) ?_
      refine lv_iconst (v := 2) C.x C.b dL_law_226 (by decide) ?_
      refine lv_iadd C.x C.b dL_law_227 ?_
      refine va_sld C.x C.b hX hbl hbA hS (sc_in hlt 2 (by decide)) dL_law_228 ?_
      refine l_vi (k := 122) (as := [.int (xs (nI i + 1).toNatClampNeg), .int (xs (nI i + 2).toNatClampNeg)]) (rest := [.int r]) (c_X9_quarry C.i e2) M_X9_quarry u5_63 C hP hS hAw sh_122 rfl rfl (by decide) hl.1 rfl (Nat.le_of_ble_eq_true rfl) hcs dL_law_229 (fun H locs hP hS => ?_)
      refine lv_icmp_eq (tgt := 1527) C.x C.b dL_law_232 (by decide) (fun _ => ?_) (fun c1 => absurd rfl c1)
      exact tail μ2 hv2 H locs ls hP hS hl
    by_cases s1 : sel = 1
    · refine lv_tableIn (off := 204) (tgt := 237) C.x C.b dL_law_33 (by rw [s1]; decide) (by rw [s1]; decide) (by rw [s1]; rfl) (by decide) ?_
      clear s1
      refine lv_aload_n C.x C.b dL_law_237 rfl (lv_at hl 1 rfl) ?_
      refine lv_aload_n C.x C.b dL_law_238 rfl (lv_at hl 0 rfl) ?_
      refine lv_iload_n C.x C.b dL_law_239 rfl (lv_at hl 3 rfl) ?_
      refine lv_iconst (v := 1) C.x C.b dL_law_240 (by decide) ?_
      refine lv_iadd C.x C.b dL_law_241 ?_
      refine va_sld C.x C.b hX hbl hbA hS (sc_in hlt 1 (by decide)) dL_law_242 ?_
      refine lv_aload_n C.x C.b dL_law_243 rfl (lv_at hl 0 rfl) ?_
      refine lv_iload_n C.x C.b dL_law_244 rfl (lv_at hl 3 rfl) ?_
      refine lv_iconst (v := 2) C.x C.b dL_law_245 (by decide) ?_
      refine lv_iadd C.x C.b dL_law_246 ?_
      refine va_sld C.x C.b hX hbl hbA hS (sc_in hlt 2 (by decide)) dL_law_247 ?_
      obtain ⟨r, μ1, μ2, e1, e2, hv2⟩ := st_work hv (xs (nI i + 1).toNatClampNeg) (xs (nI i + 2).toNatClampNeg)
      refine l_vi (k := 0) (as := [.int (xs (nI i + 1).toNatClampNeg), .int (xs (nI i + 2).toNatClampNeg)]) (rest := []) (c_X8_work C.i e1) M_X8_work u2_116 C hP hS hAw sh_0 rfl rfl (by decide) hl.1 rfl (Nat.le_of_ble_eq_true rfl) hcs dL_law_248 (fun H locs hP hS => ?_)
      refine lv_aload_n C.x C.b dL_law_251 rfl (lv_at hl 2 rfl) ?_
      refine lv_aload_n C.x C.b dL_law_252 rfl (lv_at hl 0 rfl) ?_
      refine lv_iload_n C.x C.b dL_law_253 rfl (lv_at hl 3 rfl) ?_
      refine lv_iconst (v := 1) C.x C.b dL_law_254 (by decide) ?_
      refine lv_iadd C.x C.b dL_law_255 ?_
      refine va_sld C.x C.b hX hbl hbA hS (sc_in hlt 1 (by decide)) dL_law_256 ?_
      refine lv_aload_n C.x C.b dL_law_257 rfl (lv_at hl 0 rfl) ?_
      refine lv_iload_n C.x C.b dL_law_258 rfl (lv_at hl 3 rfl) ?_
      refine lv_iconst (v := 2) C.x C.b dL_law_259 (by decide) ?_
      refine lv_iadd C.x C.b dL_law_260 ?_
      refine va_sld C.x C.b hX hbl hbA hS (sc_in hlt 2 (by decide)) dL_law_261 ?_
      refine l_vi (k := 122) (as := [.int (xs (nI i + 1).toNatClampNeg), .int (xs (nI i + 2).toNatClampNeg)]) (rest := [.int r]) (c_X9_work C.i e2) M_X9_work u5_80 C hP hS hAw sh_122 rfl rfl (by decide) hl.1 rfl (Nat.le_of_ble_eq_true rfl) hcs dL_law_262 (fun H locs hP hS => ?_)
      refine lv_icmp_eq (tgt := 1527) C.x C.b dL_law_265 (by decide) (fun _ => ?_) (fun c1 => absurd rfl c1)
      exact tail μ2 hv2 H locs ls hP hS hl
    by_cases s2 : sel = 2
    · refine lv_tableIn (off := 237) (tgt := 270) C.x C.b dL_law_33 (by rw [s2]; decide) (by rw [s2]; decide) (by rw [s2]; rfl) (by decide) ?_
      clear s2
      refine lv_aload_n C.x C.b dL_law_270 rfl (lv_at hl 1 rfl) ?_
      refine lv_aload_n C.x C.b dL_law_271 rfl (lv_at hl 0 rfl) ?_
      refine lv_iload_n C.x C.b dL_law_272 rfl (lv_at hl 3 rfl) ?_
      refine lv_iconst (v := 1) C.x C.b dL_law_273 (by decide) ?_
      refine lv_iadd C.x C.b dL_law_274 ?_
      refine va_sld C.x C.b hX hbl hbA hS (sc_in hlt 1 (by decide)) dL_law_275 ?_
      refine lv_aload_n C.x C.b dL_law_276 rfl (lv_at hl 0 rfl) ?_
      refine lv_iload_n C.x C.b dL_law_277 rfl (lv_at hl 3 rfl) ?_
      refine lv_iconst (v := 2) C.x C.b dL_law_278 (by decide) ?_
      refine lv_iadd C.x C.b dL_law_279 ?_
      refine va_sld C.x C.b hX hbl hbA hS (sc_in hlt 2 (by decide)) dL_law_280 ?_
      refine lv_aload_n C.x C.b dL_law_281 rfl (lv_at hl 0 rfl) ?_
      refine lv_iload_n C.x C.b dL_law_282 rfl (lv_at hl 3 rfl) ?_
      refine lv_iconst (v := 3) C.x C.b dL_law_283 (by decide) ?_
      refine lv_iadd C.x C.b dL_law_284 ?_
      refine va_sld C.x C.b hX hbl hbA hS (sc_in hlt 3 (by decide)) dL_law_285 ?_
      refine lv_aload_n C.x C.b dL_law_286 rfl (lv_at hl 0 rfl) ?_
      refine lv_iload_n C.x C.b dL_law_287 rfl (lv_at hl 3 rfl) ?_
      refine lv_iconst (v := 4) C.x C.b dL_law_288 (by decide) ?_
      refine lv_iadd C.x C.b dL_law_289 ?_
      refine va_sld C.x C.b hX hbl hbA hS (sc_in hlt 4 (by decide)) dL_law_290 ?_
      obtain ⟨r, μ1, μ2, e1, e2, hv2⟩ := st_renew hv (xs (nI i + 1).toNatClampNeg) (xs (nI i + 2).toNatClampNeg) (xs (nI i + 3).toNatClampNeg) (xs (nI i + 4).toNatClampNeg)
      refine l_vi (k := 0) (as := [.int (xs (nI i + 1).toNatClampNeg), .int (xs (nI i + 2).toNatClampNeg), .int (xs (nI i + 3).toNatClampNeg), .int (xs (nI i + 4).toNatClampNeg)]) (rest := []) (c_X8_renew C.i e1) M_X8_renew u2_120 C hP hS hAw sh_0 rfl rfl (by decide) hl.1 rfl (Nat.le_of_ble_eq_true rfl) hcs dL_law_291 (fun H locs hP hS => ?_)
      refine lv_aload_n C.x C.b dL_law_294 rfl (lv_at hl 2 rfl) ?_
      refine lv_aload_n C.x C.b dL_law_295 rfl (lv_at hl 0 rfl) ?_
      refine lv_iload_n C.x C.b dL_law_296 rfl (lv_at hl 3 rfl) ?_
      refine lv_iconst (v := 1) C.x C.b dL_law_297 (by decide) ?_
      refine lv_iadd C.x C.b dL_law_298 ?_
      refine va_sld C.x C.b hX hbl hbA hS (sc_in hlt 1 (by decide)) dL_law_299 ?_
      refine lv_aload_n C.x C.b dL_law_300 rfl (lv_at hl 0 rfl) ?_
      refine lv_iload_n C.x C.b dL_law_301 rfl (lv_at hl 3 rfl) ?_
      refine lv_iconst (v := 2) C.x C.b dL_law_302 (by decide) ?_
      refine lv_iadd C.x C.b dL_law_303 ?_
      refine va_sld C.x C.b hX hbl hbA hS (sc_in hlt 2 (by decide)) dL_law_304 ?_
      refine lv_aload_n C.x C.b dL_law_305 rfl (lv_at hl 0 rfl) ?_
      refine lv_iload_n C.x C.b dL_law_306 rfl (lv_at hl 3 rfl) ?_
      refine lv_iconst (v := 3) C.x C.b dL_law_307 (by decide) ?_
      refine lv_iadd C.x C.b dL_law_308 ?_
      refine va_sld C.x C.b hX hbl hbA hS (sc_in hlt 3 (by decide)) dL_law_309 ?_
      refine lv_aload_n C.x C.b dL_law_310 rfl (lv_at hl 0 rfl) ?_
      refine lv_iload_n C.x C.b dL_law_311 rfl (lv_at hl 3 rfl) ?_
      refine lv_iconst (v := 4) C.x C.b dL_law_312 (by decide) ?_
      refine lv_iadd C.x C.b dL_law_313 ?_
      refine va_sld C.x C.b hX hbl hbA hS (sc_in hlt 4 (by decide)) dL_law_314 ?_
      refine l_vi (k := 122) (as := [.int (xs (nI i + 1).toNatClampNeg), .int (xs (nI i + 2).toNatClampNeg), .int (xs (nI i + 3).toNatClampNeg), .int (xs (nI i + 4).toNatClampNeg)]) (rest := [.int r]) (c_X9_renew C.i e2) M_X9_renew u5_84 C hP hS hAw sh_122 rfl rfl (by decide) hl.1 rfl (Nat.le_of_ble_eq_true rfl) hcs dL_law_315 (fun H locs hP hS => ?_)
      refine lv_icmp_eq (tgt := 1527) C.x C.b dL_law_318 (by decide) (fun _ => ?_) (fun c1 => absurd rfl c1)
      exact tail μ2 hv2 H locs ls hP hS hl
    by_cases s3 : sel = 3
    · refine lv_tableIn (off := 290) (tgt := 323) C.x C.b dL_law_33 (by rw [s3]; decide) (by rw [s3]; decide) (by rw [s3]; rfl) (by decide) ?_
      clear s3
      refine lv_aload_n C.x C.b dL_law_323 rfl (lv_at hl 1 rfl) ?_
      refine lv_aload_n C.x C.b dL_law_324 rfl (lv_at hl 0 rfl) ?_
      refine lv_iload_n C.x C.b dL_law_325 rfl (lv_at hl 3 rfl) ?_
      refine lv_iconst (v := 1) C.x C.b dL_law_326 (by decide) ?_
      refine lv_iadd C.x C.b dL_law_327 ?_
      refine va_sld C.x C.b hX hbl hbA hS (sc_in hlt 1 (by decide)) dL_law_328 ?_
      refine lv_aload_n C.x C.b dL_law_329 rfl (lv_at hl 0 rfl) ?_
      refine lv_iload_n C.x C.b dL_law_330 rfl (lv_at hl 3 rfl) ?_
      refine lv_iconst (v := 2) C.x C.b dL_law_331 (by decide) ?_
      refine lv_iadd C.x C.b dL_law_332 ?_
      refine va_sld C.x C.b hX hbl hbA hS (sc_in hlt 2 (by decide)) dL_law_333 ?_
      refine lv_aload_n C.x C.b dL_law_334 rfl (lv_at hl 0 rfl) ?_
      refine lv_iload_n C.x C.b dL_law_335 rfl (lv_at hl 3 rfl) ?_
      refine lv_iconst (v := 3) C.x C.b dL_law_336 (by decide) ?_
      refine lv_iadd C.x C.b dL_law_337 ?_
      refine va_sld C.x C.b hX hbl hbA hS (sc_in hlt 3 (by decide)) dL_law_338 ?_
      refine lv_aload_n C.x C.b dL_law_339 rfl (lv_at hl 0 rfl) ?_
      refine lv_iload_n C.x C.b dL_law_340 rfl (lv_at hl 3 rfl) ?_
      refine lv_iconst (v := 4) C.x C.b dL_law_341 (by decide) ?_
      refine lv_iadd C.x C.b dL_law_342 ?_
      refine va_sld C.x C.b hX hbl hbA hS (sc_in hlt 4 (by decide)) dL_law_343 ?_
      obtain ⟨r, μ1, μ2, e1, e2, hv2⟩ := st_road hv (xs (nI i + 1).toNatClampNeg) (xs (nI i + 2).toNatClampNeg) (xs (nI i + 3).toNatClampNeg) (xs (nI i + 4).toNatClampNeg)
      refine l_vi (k := 0) (as := [.int (xs (nI i + 1).toNatClampNeg), .int (xs (nI i + 2).toNatClampNeg), .int (xs (nI i + 3).toNatClampNeg), .int (xs (nI i + 4).toNatClampNeg)]) (rest := []) (c_X8_road C.i e1) M_X8_road u2_132 C hP hS hAw sh_0 rfl rfl (by decide) hl.1 rfl (Nat.le_of_ble_eq_true rfl) hcs dL_law_344 (fun H locs hP hS => ?_)
      refine lv_aload_n C.x C.b dL_law_347 rfl (lv_at hl 2 rfl) ?_
      refine lv_aload_n C.x C.b dL_law_348 rfl (lv_at hl 0 rfl) ?_
      refine lv_iload_n C.x C.b dL_law_349 rfl (lv_at hl 3 rfl) ?_
      refine lv_iconst (v := 1) C.x C.b dL_law_350 (by decide) ?_
      refine lv_iadd C.x C.b dL_law_351 ?_
      refine va_sld C.x C.b hX hbl hbA hS (sc_in hlt 1 (by decide)) dL_law_352 ?_
      refine lv_aload_n C.x C.b dL_law_353 rfl (lv_at hl 0 rfl) ?_
      refine lv_iload_n C.x C.b dL_law_354 rfl (lv_at hl 3 rfl) ?_
      refine lv_iconst (v := 2) C.x C.b dL_law_355 (by decide) ?_
      refine lv_iadd C.x C.b dL_law_356 ?_
      refine va_sld C.x C.b hX hbl hbA hS (sc_in hlt 2 (by decide)) dL_law_357 ?_
      refine lv_aload_n C.x C.b dL_law_358 rfl (lv_at hl 0 rfl) ?_
      refine lv_iload_n C.x C.b dL_law_359 rfl (lv_at hl 3 rfl) ?_
      refine lv_iconst (v := 3) C.x C.b dL_law_360 (by decide) ?_
      refine lv_iadd C.x C.b dL_law_361 ?_
      refine va_sld C.x C.b hX hbl hbA hS (sc_in hlt 3 (by decide)) dL_law_362 ?_
      refine lv_aload_n C.x C.b dL_law_363 rfl (lv_at hl 0 rfl) ?_
      refine lv_iload_n C.x C.b dL_law_364 rfl (lv_at hl 3 rfl) ?_
      refine lv_iconst (v := 4) C.x C.b dL_law_365 (by decide) ?_
      refine lv_iadd C.x C.b dL_law_366 ?_
      refine va_sld C.x C.b hX hbl hbA hS (sc_in hlt 4 (by decide)) dL_law_367 ?_
      refine l_vi (k := 122) (as := [.int (xs (nI i + 1).toNatClampNeg), .int (xs (nI i + 2).toNatClampNeg), .int (xs (nI i + 3).toNatClampNeg), .int (xs (nI i + 4).toNatClampNeg)]) (rest := [.int r]) (c_X9_road C.i e2) M_X9_road u5_97 C hP hS hAw sh_122 rfl rfl (by decide) hl.1 rfl (Nat.le_of_ble_eq_true rfl) hcs dL_law_368 (fun H locs hP hS => ?_)
      refine lv_icmp_eq (tgt := 1527) C.x C.b dL_law_371 (by decide) (fun _ => ?_) (fun c1 => absurd rfl c1)
      exact tail μ2 hv2 H locs ls hP hS hl
    by_cases s4 : sel = 4
    · refine lv_tableIn (off := 343) (tgt := 376) C.x C.b dL_law_33 (by rw [s4]; decide) (by rw [s4]; decide) (by rw [s4]; rfl) (by decide) ?_
      clear s4
      refine lv_aload_n C.x C.b dL_law_376 rfl (lv_at hl 1 rfl) ?_
      refine lv_aload_n C.x C.b dL_law_377 rfl (lv_at hl 0 rfl) ?_
      refine lv_iload_n C.x C.b dL_law_378 rfl (lv_at hl 3 rfl) ?_
      refine lv_iconst (v := 1) C.x C.b dL_law_379 (by decide) ?_
      refine lv_iadd C.x C.b dL_law_380 ?_
      refine va_sld C.x C.b hX hbl hbA hS (sc_in hlt 1 (by decide)) dL_law_381 ?_
      refine lv_aload_n C.x C.b dL_law_382 rfl (lv_at hl 0 rfl) ?_
      refine lv_iload_n C.x C.b dL_law_383 rfl (lv_at hl 3 rfl) ?_
      refine lv_iconst (v := 2) C.x C.b dL_law_384 (by decide) ?_
      refine lv_iadd C.x C.b dL_law_385 ?_
      refine va_sld C.x C.b hX hbl hbA hS (sc_in hlt 2 (by decide)) dL_law_386 ?_
      refine lv_aload_n C.x C.b dL_law_387 rfl (lv_at hl 0 rfl) ?_
      refine lv_iload_n C.x C.b dL_law_388 rfl (lv_at hl 3 rfl) ?_
      refine lv_iconst (v := 3) C.x C.b dL_law_389 (by decide) ?_
      refine lv_iadd C.x C.b dL_law_390 ?_
      refine va_sld C.x C.b hX hbl hbA hS (sc_in hlt 3 (by decide)) dL_law_391 ?_
      obtain ⟨r, e1, e2⟩ := st_of hv (xs (nI i + 1).toNatClampNeg) (xs (nI i + 2).toNatClampNeg) (xs (nI i + 3).toNatClampNeg)
      refine l_vi (k := 0) (as := [.int (xs (nI i + 1).toNatClampNeg), .int (xs (nI i + 2).toNatClampNeg), .int (xs (nI i + 3).toNatClampNeg)]) (rest := []) (c_X8_of C.i e1) M_X8_of u2_148 C hP hS hAw sh_0 rfl rfl (by decide) hl.1 rfl (Nat.le_of_ble_eq_true rfl) hcs dL_law_392 (fun H locs hP hS => ?_)
      refine lv_aload_n C.x C.b dL_law_395 rfl (lv_at hl 2 rfl) ?_
      refine lv_aload_n C.x C.b dL_law_396 rfl (lv_at hl 0 rfl) ?_
      refine lv_iload_n C.x C.b dL_law_397 rfl (lv_at hl 3 rfl) ?_
      refine lv_iconst (v := 1) C.x C.b dL_law_398 (by decide) ?_
      refine lv_iadd C.x C.b dL_law_399 ?_
      refine va_sld C.x C.b hX hbl hbA hS (sc_in hlt 1 (by decide)) dL_law_400 ?_
      refine lv_aload_n C.x C.b dL_law_401 rfl (lv_at hl 0 rfl) ?_
      refine lv_iload_n C.x C.b dL_law_402 rfl (lv_at hl 3 rfl) ?_
      refine lv_iconst (v := 2) C.x C.b dL_law_403 (by decide) ?_
      refine lv_iadd C.x C.b dL_law_404 ?_
      refine va_sld C.x C.b hX hbl hbA hS (sc_in hlt 2 (by decide)) dL_law_405 ?_
      refine lv_aload_n C.x C.b dL_law_406 rfl (lv_at hl 0 rfl) ?_
      refine lv_iload_n C.x C.b dL_law_407 rfl (lv_at hl 3 rfl) ?_
      refine lv_iconst (v := 3) C.x C.b dL_law_408 (by decide) ?_
      refine lv_iadd C.x C.b dL_law_409 ?_
      refine va_sld C.x C.b hX hbl hbA hS (sc_in hlt 3 (by decide)) dL_law_410 ?_
      refine l_vi (k := 122) (as := [.int (xs (nI i + 1).toNatClampNeg), .int (xs (nI i + 2).toNatClampNeg), .int (xs (nI i + 3).toNatClampNeg)]) (rest := [.int r]) (c_X9_of C.i e2) M_X9_of u5_96 C hP hS hAw sh_122 rfl rfl (by decide) hl.1 rfl (Nat.le_of_ble_eq_true rfl) hcs dL_law_411 (fun H locs hP hS => ?_)
      refine lv_icmp_eq (tgt := 1527) C.x C.b dL_law_414 (by decide) (fun _ => ?_) (fun c1 => absurd rfl c1)
      exact tail μ hv H locs ls hP hS hl
    by_cases s5 : sel = 5
    · refine lv_tableIn (off := 386) (tgt := 419) C.x C.b dL_law_33 (by rw [s5]; decide) (by rw [s5]; decide) (by rw [s5]; rfl) (by decide) ?_
      clear s5
      refine lv_aload_n C.x C.b dL_law_419 rfl (lv_at hl 1 rfl) ?_
      refine lv_aload_n C.x C.b dL_law_420 rfl (lv_at hl 0 rfl) ?_
      refine lv_iload_n C.x C.b dL_law_421 rfl (lv_at hl 3 rfl) ?_
      refine lv_iconst (v := 1) C.x C.b dL_law_422 (by decide) ?_
      refine lv_iadd C.x C.b dL_law_423 ?_
      refine va_sld C.x C.b hX hbl hbA hS (sc_in hlt 1 (by decide)) dL_law_424 ?_
      refine lv_aload_n C.x C.b dL_law_425 rfl (lv_at hl 0 rfl) ?_
      refine lv_iload_n C.x C.b dL_law_426 rfl (lv_at hl 3 rfl) ?_
      refine lv_iconst (v := 2) C.x C.b dL_law_427 (by decide) ?_
      refine lv_iadd C.x C.b dL_law_428 ?_
      refine va_sld C.x C.b hX hbl hbA hS (sc_in hlt 2 (by decide)) dL_law_429 ?_
      refine lv_aload_n C.x C.b dL_law_430 rfl (lv_at hl 0 rfl) ?_
      refine lv_iload_n C.x C.b dL_law_431 rfl (lv_at hl 3 rfl) ?_
      refine lv_iconst (v := 3) C.x C.b dL_law_432 (by decide) ?_
      refine lv_iadd C.x C.b dL_law_433 ?_
      refine va_sld C.x C.b hX hbl hbA hS (sc_in hlt 3 (by decide)) dL_law_434 ?_
      obtain ⟨r, e1, e2⟩ := st_roadOf hv (xs (nI i + 1).toNatClampNeg) (xs (nI i + 2).toNatClampNeg) (xs (nI i + 3).toNatClampNeg)
      refine l_vi (k := 0) (as := [.int (xs (nI i + 1).toNatClampNeg), .int (xs (nI i + 2).toNatClampNeg), .int (xs (nI i + 3).toNatClampNeg)]) (rest := []) (c_X8_roadOf C.i e1) M_X8_roadOf u2_153 C hP hS hAw sh_0 rfl rfl (by decide) hl.1 rfl (Nat.le_of_ble_eq_true rfl) hcs dL_law_435 (fun H locs hP hS => ?_)
      refine lv_aload_n C.x C.b dL_law_438 rfl (lv_at hl 2 rfl) ?_
      refine lv_aload_n C.x C.b dL_law_439 rfl (lv_at hl 0 rfl) ?_
      refine lv_iload_n C.x C.b dL_law_440 rfl (lv_at hl 3 rfl) ?_
      refine lv_iconst (v := 1) C.x C.b dL_law_441 (by decide) ?_
      refine lv_iadd C.x C.b dL_law_442 ?_
      refine va_sld C.x C.b hX hbl hbA hS (sc_in hlt 1 (by decide)) dL_law_443 ?_
      refine lv_aload_n C.x C.b dL_law_444 rfl (lv_at hl 0 rfl) ?_
      refine lv_iload_n C.x C.b dL_law_445 rfl (lv_at hl 3 rfl) ?_
      refine lv_iconst (v := 2) C.x C.b dL_law_446 (by decide) ?_
      refine lv_iadd C.x C.b dL_law_447 ?_
      refine va_sld C.x C.b hX hbl hbA hS (sc_in hlt 2 (by decide)) dL_law_448 ?_
      refine lv_aload_n C.x C.b dL_law_449 rfl (lv_at hl 0 rfl) ?_
      refine lv_iload_n C.x C.b dL_law_450 rfl (lv_at hl 3 rfl) ?_
      refine lv_iconst (v := 3) C.x C.b dL_law_451 (by decide) ?_
      refine lv_iadd C.x C.b dL_law_452 ?_
      refine va_sld C.x C.b hX hbl hbA hS (sc_in hlt 3 (by decide)) dL_law_453 ?_
      refine l_vi (k := 122) (as := [.int (xs (nI i + 1).toNatClampNeg), .int (xs (nI i + 2).toNatClampNeg), .int (xs (nI i + 3).toNatClampNeg)]) (rest := [.int r]) (c_X9_roadOf C.i e2) M_X9_roadOf u5_106 C hP hS hAw sh_122 rfl rfl (by decide) hl.1 rfl (Nat.le_of_ble_eq_true rfl) hcs dL_law_454 (fun H locs hP hS => ?_)
      refine lv_icmp_eq (tgt := 1527) C.x C.b dL_law_457 (by decide) (fun _ => ?_) (fun c1 => absurd rfl c1)
      exact tail μ hv H locs ls hP hS hl
    by_cases s6 : sel = 6
    · refine lv_tableIn (off := 429) (tgt := 462) C.x C.b dL_law_33 (by rw [s6]; decide) (by rw [s6]; decide) (by rw [s6]; rfl) (by decide) ?_
      clear s6
      refine lv_aload_n C.x C.b dL_law_462 rfl (lv_at hl 1 rfl) ?_
      refine lv_aload_n C.x C.b dL_law_463 rfl (lv_at hl 0 rfl) ?_
      refine lv_iload_n C.x C.b dL_law_464 rfl (lv_at hl 3 rfl) ?_
      refine lv_iconst (v := 1) C.x C.b dL_law_465 (by decide) ?_
      refine lv_iadd C.x C.b dL_law_466 ?_
      refine va_sld C.x C.b hX hbl hbA hS (sc_in hlt 1 (by decide)) dL_law_467 ?_
      obtain ⟨r, μ1, μ2, e1, e2, hv2⟩ := st_feed hv (xs (nI i + 1).toNatClampNeg)
      refine l_vi (k := 0) (as := [.int (xs (nI i + 1).toNatClampNeg)]) (rest := []) (c_X8_feed C.i e1) M_X8_feed u2_164 C hP hS hAw sh_0 rfl rfl (by decide) hl.1 rfl (Nat.le_of_ble_eq_true rfl) hcs dL_law_468 (fun H locs hP hS => ?_)
      refine lv_aload_n C.x C.b dL_law_471 rfl (lv_at hl 2 rfl) ?_
      refine lv_aload_n C.x C.b dL_law_472 rfl (lv_at hl 0 rfl) ?_
      refine lv_iload_n C.x C.b dL_law_473 rfl (lv_at hl 3 rfl) ?_
      refine lv_iconst (v := 1) C.x C.b dL_law_474 (by decide) ?_
      refine lv_iadd C.x C.b dL_law_475 ?_
      refine va_sld C.x C.b hX hbl hbA hS (sc_in hlt 1 (by decide)) dL_law_476 ?_
      refine l_vi (k := 122) (as := [.int (xs (nI i + 1).toNatClampNeg)]) (rest := [.int r]) (c_X9_feed C.i e2) M_X9_feed u5_115 C hP hS hAw sh_122 rfl rfl (by decide) hl.1 rfl (Nat.le_of_ble_eq_true rfl) hcs dL_law_477 (fun H locs hP hS => ?_)
      refine lv_icmp_eq (tgt := 1527) C.x C.b dL_law_480 (by decide) (fun _ => ?_) (fun c1 => absurd rfl c1)
      exact tail μ2 hv2 H locs ls hP hS hl
    by_cases s7 : sel = 7
    · refine lv_tableIn (off := 452) (tgt := 485) C.x C.b dL_law_33 (by rw [s7]; decide) (by rw [s7]; decide) (by rw [s7]; rfl) (by decide) ?_
      clear s7
      refine lv_aload_n C.x C.b dL_law_485 rfl (lv_at hl 1 rfl) ?_
      obtain ⟨r, μ1, μ2, e1, e2, hv2⟩ := st_read hv 
      refine l_vi (k := 0) (as := []) (rest := []) (c_X8_read C.i e1) M_X8_read u2_172 C hP hS hAw sh_0 rfl rfl (by decide) hl.1 rfl (Nat.le_of_ble_eq_true rfl) hcs dL_law_486 (fun H locs hP hS => ?_)
      refine lv_aload_n C.x C.b dL_law_489 rfl (lv_at hl 2 rfl) ?_
      refine l_vi (k := 122) (as := []) (rest := [.int r]) (c_X9_read C.i e2) M_X9_read u5_120 C hP hS hAw sh_122 rfl rfl (by decide) hl.1 rfl (Nat.le_of_ble_eq_true rfl) hcs dL_law_490 (fun H locs hP hS => ?_)
      refine lv_icmp_eq (tgt := 1527) C.x C.b dL_law_493 (by decide) (fun _ => ?_) (fun c1 => absurd rfl c1)
      exact tail μ2 hv2 H locs ls hP hS hl
    by_cases s8 : sel = 8
    · refine lv_tableIn (off := 465) (tgt := 498) C.x C.b dL_law_33 (by rw [s8]; decide) (by rw [s8]; decide) (by rw [s8]; rfl) (by decide) ?_
      clear s8
      refine lv_aload_n C.x C.b dL_law_498 rfl (lv_at hl 1 rfl) ?_
      refine lv_aload_n C.x C.b dL_law_499 rfl (lv_at hl 0 rfl) ?_
      refine lv_iload_n C.x C.b dL_law_500 rfl (lv_at hl 3 rfl) ?_
      refine lv_iconst (v := 1) C.x C.b dL_law_501 (by decide) ?_
      refine lv_iadd C.x C.b dL_law_502 ?_
      refine va_sld C.x C.b hX hbl hbA hS (sc_in hlt 1 (by decide)) dL_law_503 ?_
      obtain ⟨r, μ1, μ2, e1, e2, hv2⟩ := st_start hv (xs (nI i + 1).toNatClampNeg)
      refine l_vi (k := 0) (as := [.int (xs (nI i + 1).toNatClampNeg)]) (rest := []) (c_X8_start C.i e1) M_X8_start u2_214 C hP hS hAw sh_0 rfl rfl (by decide) hl.1 rfl (Nat.le_of_ble_eq_true rfl) hcs dL_law_504 (fun H locs hP hS => ?_)
      refine lv_aload_n C.x C.b dL_law_507 rfl (lv_at hl 2 rfl) ?_
      refine lv_aload_n C.x C.b dL_law_508 rfl (lv_at hl 0 rfl) ?_
      refine lv_iload_n C.x C.b dL_law_509 rfl (lv_at hl 3 rfl) ?_
      refine lv_iconst (v := 1) C.x C.b dL_law_510 (by decide) ?_
      refine lv_iadd C.x C.b dL_law_511 ?_
      refine va_sld C.x C.b hX hbl hbA hS (sc_in hlt 1 (by decide)) dL_law_512 ?_
      refine l_vi (k := 122) (as := [.int (xs (nI i + 1).toNatClampNeg)]) (rest := [.int r]) (c_X9_start C.i e2) M_X9_start u5_151 C hP hS hAw sh_122 rfl rfl (by decide) hl.1 rfl (Nat.le_of_ble_eq_true rfl) hcs dL_law_513 (fun H locs hP hS => ?_)
      refine lv_icmp_eq (tgt := 1527) C.x C.b dL_law_516 (by decide) (fun _ => ?_) (fun c1 => absurd rfl c1)
      exact tail μ2 hv2 H locs ls hP hS hl
    by_cases s9 : sel = 9
    · refine lv_tableIn (off := 488) (tgt := 521) C.x C.b dL_law_33 (by rw [s9]; decide) (by rw [s9]; decide) (by rw [s9]; rfl) (by decide) ?_
      clear s9
      refine lv_aload_n C.x C.b dL_law_521 rfl (lv_at hl 1 rfl) ?_
      refine lv_aload_n C.x C.b dL_law_522 rfl (lv_at hl 0 rfl) ?_
      refine lv_iload_n C.x C.b dL_law_523 rfl (lv_at hl 3 rfl) ?_
      refine lv_iconst (v := 1) C.x C.b dL_law_524 (by decide) ?_
      refine lv_iadd C.x C.b dL_law_525 ?_
      refine va_sld C.x C.b hX hbl hbA hS (sc_in hlt 1 (by decide)) dL_law_526 ?_
      refine lv_aload_n C.x C.b dL_law_527 rfl (lv_at hl 0 rfl) ?_
      refine lv_iload_n C.x C.b dL_law_528 rfl (lv_at hl 3 rfl) ?_
      refine lv_iconst (v := 2) C.x C.b dL_law_529 (by decide) ?_
      refine lv_iadd C.x C.b dL_law_530 ?_
      refine va_sld C.x C.b hX hbl hbA hS (sc_in hlt 2 (by decide)) dL_law_531 ?_
      obtain ⟨r, μ1, μ2, e1, e2, hv2⟩ := st_step hv (xs (nI i + 1).toNatClampNeg) (xs (nI i + 2).toNatClampNeg)
      refine l_vi (k := 0) (as := [.int (xs (nI i + 1).toNatClampNeg), .int (xs (nI i + 2).toNatClampNeg)]) (rest := []) (c_X8_step C.i e1) M_X8_step u3_60 C hP hS hAw sh_0 rfl rfl (by decide) hl.1 rfl (Nat.le_of_ble_eq_true rfl) hcs dL_law_532 (fun H locs hP hS => ?_)
      refine lv_aload_n C.x C.b dL_law_535 rfl (lv_at hl 2 rfl) ?_
      refine lv_aload_n C.x C.b dL_law_536 rfl (lv_at hl 0 rfl) ?_
      refine lv_iload_n C.x C.b dL_law_537 rfl (lv_at hl 3 rfl) ?_
      refine lv_iconst (v := 1) C.x C.b dL_law_538 (by decide) ?_
      refine lv_iadd C.x C.b dL_law_539 ?_
      refine va_sld C.x C.b hX hbl hbA hS (sc_in hlt 1 (by decide)) dL_law_540 ?_
      refine lv_aload_n C.x C.b dL_law_541 rfl (lv_at hl 0 rfl) ?_
      refine lv_iload_n C.x C.b dL_law_542 rfl (lv_at hl 3 rfl) ?_
      refine lv_iconst (v := 2) C.x C.b dL_law_543 (by decide) ?_
      refine lv_iadd C.x C.b dL_law_544 ?_
      refine va_sld C.x C.b hX hbl hbA hS (sc_in hlt 2 (by decide)) dL_law_545 ?_
      refine l_vi (k := 122) (as := [.int (xs (nI i + 1).toNatClampNeg), .int (xs (nI i + 2).toNatClampNeg)]) (rest := [.int r]) (c_X9_step C.i e2) M_X9_step u5_196 C hP hS hAw sh_122 rfl rfl (by decide) hl.1 rfl (Nat.le_of_ble_eq_true rfl) hcs dL_law_546 (fun H locs hP hS => ?_)
      refine lv_icmp_eq (tgt := 1527) C.x C.b dL_law_549 (by decide) (fun _ => ?_) (fun c1 => absurd rfl c1)
      exact tail μ2 hv2 H locs ls hP hS hl
    by_cases s10 : sel = 10
    · refine lv_tableIn (off := 521) (tgt := 554) C.x C.b dL_law_33 (by rw [s10]; decide) (by rw [s10]; decide) (by rw [s10]; rfl) (by decide) ?_
      clear s10
      refine lv_aload_n C.x C.b dL_law_554 rfl (lv_at hl 1 rfl) ?_
      refine lv_aload_n C.x C.b dL_law_555 rfl (lv_at hl 0 rfl) ?_
      refine lv_iload_n C.x C.b dL_law_556 rfl (lv_at hl 3 rfl) ?_
      refine lv_iconst (v := 1) C.x C.b dL_law_557 (by decide) ?_
      refine lv_iadd C.x C.b dL_law_558 ?_
      refine va_sld C.x C.b hX hbl hbA hS (sc_in hlt 1 (by decide)) dL_law_559 ?_
      refine lv_aload_n C.x C.b dL_law_560 rfl (lv_at hl 0 rfl) ?_
      refine lv_iload_n C.x C.b dL_law_561 rfl (lv_at hl 3 rfl) ?_
      refine lv_iconst (v := 2) C.x C.b dL_law_562 (by decide) ?_
      refine lv_iadd C.x C.b dL_law_563 ?_
      refine va_sld C.x C.b hX hbl hbA hS (sc_in hlt 2 (by decide)) dL_law_564 ?_
      obtain ⟨r, e1, e2⟩ := st_load hv (xs (nI i + 1).toNatClampNeg) (xs (nI i + 2).toNatClampNeg)
      refine l_vi (k := 0) (as := [.int (xs (nI i + 1).toNatClampNeg), .int (xs (nI i + 2).toNatClampNeg)]) (rest := []) (c_X8_load C.i e1) M_X8_load u3_107 C hP hS hAw sh_0 rfl rfl (by decide) hl.1 rfl (Nat.le_of_ble_eq_true rfl) hcs dL_law_565 (fun H locs hP hS => ?_)
      refine lv_aload_n C.x C.b dL_law_568 rfl (lv_at hl 2 rfl) ?_
      refine lv_aload_n C.x C.b dL_law_569 rfl (lv_at hl 0 rfl) ?_
      refine lv_iload_n C.x C.b dL_law_570 rfl (lv_at hl 3 rfl) ?_
      refine lv_iconst (v := 1) C.x C.b dL_law_571 (by decide) ?_
      refine lv_iadd C.x C.b dL_law_572 ?_
      refine va_sld C.x C.b hX hbl hbA hS (sc_in hlt 1 (by decide)) dL_law_573 ?_
      refine lv_aload_n C.x C.b dL_law_574 rfl (lv_at hl 0 rfl) ?_
      refine lv_iload_n C.x C.b dL_law_575 rfl (lv_at hl 3 rfl) ?_
      refine lv_iconst (v := 2) C.x C.b dL_law_576 (by decide) ?_
      refine lv_iadd C.x C.b dL_law_577 ?_
      refine va_sld C.x C.b hX hbl hbA hS (sc_in hlt 2 (by decide)) dL_law_578 ?_
      refine l_vi (k := 122) (as := [.int (xs (nI i + 1).toNatClampNeg), .int (xs (nI i + 2).toNatClampNeg)]) (rest := [.int r]) (c_X9_load C.i e2) M_X9_load u6_1 C hP hS hAw sh_122 rfl rfl (by decide) hl.1 rfl (Nat.le_of_ble_eq_true rfl) hcs dL_law_579 (fun H locs hP hS => ?_)
      refine lv_icmp_eq (tgt := 1527) C.x C.b dL_law_582 (by decide) (fun _ => ?_) (fun c1 => absurd rfl c1)
      exact tail μ hv H locs ls hP hS hl
    by_cases s11 : sel = 11
    · refine lv_tableIn (off := 554) (tgt := 587) C.x C.b dL_law_33 (by rw [s11]; decide) (by rw [s11]; decide) (by rw [s11]; rfl) (by decide) ?_
      clear s11
      refine lv_aload_n C.x C.b dL_law_587 rfl (lv_at hl 1 rfl) ?_
      refine lv_aload_n C.x C.b dL_law_588 rfl (lv_at hl 0 rfl) ?_
      refine lv_iload_n C.x C.b dL_law_589 rfl (lv_at hl 3 rfl) ?_
      refine lv_iconst (v := 1) C.x C.b dL_law_590 (by decide) ?_
      refine lv_iadd C.x C.b dL_law_591 ?_
      refine va_sld C.x C.b hX hbl hbA hS (sc_in hlt 1 (by decide)) dL_law_592 ?_
      refine lv_aload_n C.x C.b dL_law_593 rfl (lv_at hl 0 rfl) ?_
      refine lv_iload_n C.x C.b dL_law_594 rfl (lv_at hl 3 rfl) ?_
      refine lv_iconst (v := 2) C.x C.b dL_law_595 (by decide) ?_
      refine lv_iadd C.x C.b dL_law_596 ?_
      refine va_sld C.x C.b hX hbl hbA hS (sc_in hlt 2 (by decide)) dL_law_597 ?_
      obtain ⟨r, e1, e2⟩ := st_basic hv (xs (nI i + 1).toNatClampNeg) (xs (nI i + 2).toNatClampNeg)
      refine l_vi (k := 0) (as := [.int (xs (nI i + 1).toNatClampNeg), .int (xs (nI i + 2).toNatClampNeg)]) (rest := []) (c_X8_basic C.i e1) M_X8_basic u3_116 C hP hS hAw sh_0 rfl rfl (by decide) hl.1 rfl (Nat.le_of_ble_eq_true rfl) hcs dL_law_598 (fun H locs hP hS => ?_)
      refine lv_aload_n C.x C.b dL_law_601 rfl (lv_at hl 2 rfl) ?_
      refine lv_aload_n C.x C.b dL_law_602 rfl (lv_at hl 0 rfl) ?_
      refine lv_iload_n C.x C.b dL_law_603 rfl (lv_at hl 3 rfl) ?_
      refine lv_iconst (v := 1) C.x C.b dL_law_604 (by decide) ?_
      refine lv_iadd C.x C.b dL_law_605 ?_
      refine va_sld C.x C.b hX hbl hbA hS (sc_in hlt 1 (by decide)) dL_law_606 ?_
      refine lv_aload_n C.x C.b dL_law_607 rfl (lv_at hl 0 rfl) ?_
      refine lv_iload_n C.x C.b dL_law_608 rfl (lv_at hl 3 rfl) ?_
      refine lv_iconst (v := 2) C.x C.b dL_law_609 (by decide) ?_
      refine lv_iadd C.x C.b dL_law_610 ?_
      refine va_sld C.x C.b hX hbl hbA hS (sc_in hlt 2 (by decide)) dL_law_611 ?_
      refine l_vi (k := 122) (as := [.int (xs (nI i + 1).toNatClampNeg), .int (xs (nI i + 2).toNatClampNeg)]) (rest := [.int r]) (c_X9_basic C.i e2) M_X9_basic u6_9 C hP hS hAw sh_122 rfl rfl (by decide) hl.1 rfl (Nat.le_of_ble_eq_true rfl) hcs dL_law_612 (fun H locs hP hS => ?_)
      refine lv_icmp_eq (tgt := 1527) C.x C.b dL_law_615 (by decide) (fun _ => ?_) (fun c1 => absurd rfl c1)
      exact tail μ hv H locs ls hP hS hl
    by_cases s12 : sel = 12
    · refine lv_tableIn (off := 587) (tgt := 620) C.x C.b dL_law_33 (by rw [s12]; decide) (by rw [s12]; decide) (by rw [s12]; rfl) (by decide) ?_
      clear s12
      refine lv_aload_n C.x C.b dL_law_620 rfl (lv_at hl 1 rfl) ?_
      refine lv_aload_n C.x C.b dL_law_621 rfl (lv_at hl 0 rfl) ?_
      refine lv_iload_n C.x C.b dL_law_622 rfl (lv_at hl 3 rfl) ?_
      refine lv_iconst (v := 1) C.x C.b dL_law_623 (by decide) ?_
      refine lv_iadd C.x C.b dL_law_624 ?_
      refine va_sld C.x C.b hX hbl hbA hS (sc_in hlt 1 (by decide)) dL_law_625 ?_
      refine lv_aload_n C.x C.b dL_law_626 rfl (lv_at hl 0 rfl) ?_
      refine lv_iload_n C.x C.b dL_law_627 rfl (lv_at hl 3 rfl) ?_
      refine lv_iconst (v := 2) C.x C.b dL_law_628 (by decide) ?_
      refine lv_iadd C.x C.b dL_law_629 ?_
      refine va_sld C.x C.b hX hbl hbA hS (sc_in hlt 2 (by decide)) dL_law_630 ?_
      obtain ⟨r, μ2, e1, e2, hv2⟩ := st_worth hv (xs (nI i + 1).toNatClampNeg) (xs (nI i + 2).toNatClampNeg)
      refine l_vl (k := 0) (as := [.int (xs (nI i + 1).toNatClampNeg), .int (xs (nI i + 2).toNatClampNeg)]) (rest := []) (c_X8_worth C.i e1) M_X8_worth u3_120 C hP hS hAw sh_0 rfl rfl (by decide) hl.1 rfl (Nat.le_of_ble_eq_true rfl) hcs dL_law_631 (fun H locs hP hS => ?_)
      refine lv_aload_n C.x C.b dL_law_634 rfl (lv_at hl 2 rfl) ?_
      refine lv_aload_n C.x C.b dL_law_635 rfl (lv_at hl 0 rfl) ?_
      refine lv_iload_n C.x C.b dL_law_636 rfl (lv_at hl 3 rfl) ?_
      refine lv_iconst (v := 1) C.x C.b dL_law_637 (by decide) ?_
      refine lv_iadd C.x C.b dL_law_638 ?_
      refine va_sld C.x C.b hX hbl hbA hS (sc_in hlt 1 (by decide)) dL_law_639 ?_
      refine lv_aload_n C.x C.b dL_law_640 rfl (lv_at hl 0 rfl) ?_
      refine lv_iload_n C.x C.b dL_law_641 rfl (lv_at hl 3 rfl) ?_
      refine lv_iconst (v := 2) C.x C.b dL_law_642 (by decide) ?_
      refine lv_iadd C.x C.b dL_law_643 ?_
      refine va_sld C.x C.b hX hbl hbA hS (sc_in hlt 2 (by decide)) dL_law_644 ?_
      refine l_vl (k := 122) (as := [.int (xs (nI i + 1).toNatClampNeg), .int (xs (nI i + 2).toNatClampNeg)]) (rest := [.long r]) (c_X9_worth C.i e2) M_X9_worth u6_13 C hP hS hAw sh_122 rfl rfl (by decide) hl.1 rfl (Nat.le_of_ble_eq_true rfl) hcs dL_law_645 (fun H locs hP hS => ?_)
      refine W.lcmp C.x C.b dL_law_648 ?_
      rw [lg_cmp_self]
      refine lv_if_eq (tgt := 1527) C.x C.b dL_law_649 (by decide) (fun _ => ?_) (fun c1 => absurd rfl c1)
      exact tail μ2 hv2 H locs ls hP hS hl
    by_cases s13 : sel = 13
    · refine lv_tableIn (off := 621) (tgt := 654) C.x C.b dL_law_33 (by rw [s13]; decide) (by rw [s13]; decide) (by rw [s13]; rfl) (by decide) ?_
      clear s13
      refine lv_aload_n C.x C.b dL_law_654 rfl (lv_at hl 1 rfl) ?_
      refine lv_aload_n C.x C.b dL_law_655 rfl (lv_at hl 0 rfl) ?_
      refine lv_iload_n C.x C.b dL_law_656 rfl (lv_at hl 3 rfl) ?_
      refine lv_iconst (v := 1) C.x C.b dL_law_657 (by decide) ?_
      refine lv_iadd C.x C.b dL_law_658 ?_
      refine va_sld C.x C.b hX hbl hbA hS (sc_in hlt 1 (by decide)) dL_law_659 ?_
      refine lv_aload_n C.x C.b dL_law_660 rfl (lv_at hl 0 rfl) ?_
      refine lv_iload_n C.x C.b dL_law_661 rfl (lv_at hl 3 rfl) ?_
      refine lv_iconst (v := 2) C.x C.b dL_law_662 (by decide) ?_
      refine lv_iadd C.x C.b dL_law_663 ?_
      refine va_sld C.x C.b hX hbl hbA hS (sc_in hlt 2 (by decide)) dL_law_664 ?_
      obtain ⟨r, μ2, e1, e2, hv2⟩ := st_surplus hv (xs (nI i + 1).toNatClampNeg) (xs (nI i + 2).toNatClampNeg)
      refine l_vl (k := 0) (as := [.int (xs (nI i + 1).toNatClampNeg), .int (xs (nI i + 2).toNatClampNeg)]) (rest := []) (c_X8_surplus C.i e1) M_X8_surplus u3_125 C hP hS hAw sh_0 rfl rfl (by decide) hl.1 rfl (Nat.le_of_ble_eq_true rfl) hcs dL_law_665 (fun H locs hP hS => ?_)
      refine lv_aload_n C.x C.b dL_law_668 rfl (lv_at hl 2 rfl) ?_
      refine lv_aload_n C.x C.b dL_law_669 rfl (lv_at hl 0 rfl) ?_
      refine lv_iload_n C.x C.b dL_law_670 rfl (lv_at hl 3 rfl) ?_
      refine lv_iconst (v := 1) C.x C.b dL_law_671 (by decide) ?_
      refine lv_iadd C.x C.b dL_law_672 ?_
      refine va_sld C.x C.b hX hbl hbA hS (sc_in hlt 1 (by decide)) dL_law_673 ?_
      refine lv_aload_n C.x C.b dL_law_674 rfl (lv_at hl 0 rfl) ?_
      refine lv_iload_n C.x C.b dL_law_675 rfl (lv_at hl 3 rfl) ?_
      refine lv_iconst (v := 2) C.x C.b dL_law_676 (by decide) ?_
      refine lv_iadd C.x C.b dL_law_677 ?_
      refine va_sld C.x C.b hX hbl hbA hS (sc_in hlt 2 (by decide)) dL_law_678 ?_
      refine l_vl (k := 122) (as := [.int (xs (nI i + 1).toNatClampNeg), .int (xs (nI i + 2).toNatClampNeg)]) (rest := [.long r]) (c_X9_surplus C.i e2) M_X9_surplus u6_18 C hP hS hAw sh_122 rfl rfl (by decide) hl.1 rfl (Nat.le_of_ble_eq_true rfl) hcs dL_law_679 (fun H locs hP hS => ?_)
      refine W.lcmp C.x C.b dL_law_682 ?_
      rw [lg_cmp_self]
      refine lv_if_eq (tgt := 1527) C.x C.b dL_law_683 (by decide) (fun _ => ?_) (fun c1 => absurd rfl c1)
      exact tail μ2 hv2 H locs ls hP hS hl
    by_cases s14 : sel = 14
    · refine lv_tableIn (off := 655) (tgt := 688) C.x C.b dL_law_33 (by rw [s14]; decide) (by rw [s14]; decide) (by rw [s14]; rfl) (by decide) ?_
      clear s14
      refine lv_aload_n C.x C.b dL_law_688 rfl (lv_at hl 1 rfl) ?_
      refine lv_aload_n C.x C.b dL_law_689 rfl (lv_at hl 0 rfl) ?_
      refine lv_iload_n C.x C.b dL_law_690 rfl (lv_at hl 3 rfl) ?_
      refine lv_iconst (v := 1) C.x C.b dL_law_691 (by decide) ?_
      refine lv_iadd C.x C.b dL_law_692 ?_
      refine va_sld C.x C.b hX hbl hbA hS (sc_in hlt 1 (by decide)) dL_law_693 ?_
      refine lv_aload_n C.x C.b dL_law_694 rfl (lv_at hl 0 rfl) ?_
      refine lv_iload_n C.x C.b dL_law_695 rfl (lv_at hl 3 rfl) ?_
      refine lv_iconst (v := 2) C.x C.b dL_law_696 (by decide) ?_
      refine lv_iadd C.x C.b dL_law_697 ?_
      refine va_sld C.x C.b hX hbl hbA hS (sc_in hlt 2 (by decide)) dL_law_698 ?_
      refine lv_aload_n C.x C.b dL_law_699 rfl (lv_at hl 0 rfl) ?_
      refine lv_iload_n C.x C.b dL_law_700 rfl (lv_at hl 3 rfl) ?_
      refine lv_iconst (v := 3) C.x C.b dL_law_701 (by decide) ?_
      refine lv_iadd C.x C.b dL_law_702 ?_
      refine va_sld C.x C.b hX hbl hbA hS (sc_in hlt 3 (by decide)) dL_law_703 ?_
      obtain ⟨r, μ1, μ2, e1, e2, hv2⟩ := st_loop hv (xs (nI i + 1).toNatClampNeg) (xs (nI i + 2).toNatClampNeg) (xs (nI i + 3).toNatClampNeg)
      refine l_vi (k := 0) (as := [.int (xs (nI i + 1).toNatClampNeg), .int (xs (nI i + 2).toNatClampNeg), .int (xs (nI i + 3).toNatClampNeg)]) (rest := []) (c_X8_loop C.i e1) M_X8_loop u3_130 C hP hS hAw sh_0 rfl rfl (by decide) hl.1 rfl (Nat.le_of_ble_eq_true rfl) hcs dL_law_704 (fun H locs hP hS => ?_)
      refine lv_aload_n C.x C.b dL_law_707 rfl (lv_at hl 2 rfl) ?_
      refine lv_aload_n C.x C.b dL_law_708 rfl (lv_at hl 0 rfl) ?_
      refine lv_iload_n C.x C.b dL_law_709 rfl (lv_at hl 3 rfl) ?_
      refine lv_iconst (v := 1) C.x C.b dL_law_710 (by decide) ?_
      refine lv_iadd C.x C.b dL_law_711 ?_
      refine va_sld C.x C.b hX hbl hbA hS (sc_in hlt 1 (by decide)) dL_law_712 ?_
      refine lv_aload_n C.x C.b dL_law_713 rfl (lv_at hl 0 rfl) ?_
      refine lv_iload_n C.x C.b dL_law_714 rfl (lv_at hl 3 rfl) ?_
      refine lv_iconst (v := 2) C.x C.b dL_law_715 (by decide) ?_
      refine lv_iadd C.x C.b dL_law_716 ?_
      refine va_sld C.x C.b hX hbl hbA hS (sc_in hlt 2 (by decide)) dL_law_717 ?_
      refine lv_aload_n C.x C.b dL_law_718 rfl (lv_at hl 0 rfl) ?_
      refine lv_iload_n C.x C.b dL_law_719 rfl (lv_at hl 3 rfl) ?_
      refine lv_iconst (v := 3) C.x C.b dL_law_720 (by decide) ?_
      refine lv_iadd C.x C.b dL_law_721 ?_
      refine va_sld C.x C.b hX hbl hbA hS (sc_in hlt 3 (by decide)) dL_law_722 ?_
      refine l_vi (k := 122) (as := [.int (xs (nI i + 1).toNatClampNeg), .int (xs (nI i + 2).toNatClampNeg), .int (xs (nI i + 3).toNatClampNeg)]) (rest := [.int r]) (c_X9_loop C.i e2) M_X9_loop u6_22 C hP hS hAw sh_122 rfl rfl (by decide) hl.1 rfl (Nat.le_of_ble_eq_true rfl) hcs dL_law_723 (fun H locs hP hS => ?_)
      refine lv_icmp_eq (tgt := 1527) C.x C.b dL_law_726 (by decide) (fun _ => ?_) (fun c1 => absurd rfl c1)
      exact tail μ2 hv2 H locs ls hP hS hl
    by_cases s15 : sel = 15
    · refine lv_tableIn (off := 698) (tgt := 731) C.x C.b dL_law_33 (by rw [s15]; decide) (by rw [s15]; decide) (by rw [s15]; rfl) (by decide) ?_
      clear s15
      refine lv_aload_n C.x C.b dL_law_731 rfl (lv_at hl 1 rfl) ?_
      refine lv_aload_n C.x C.b dL_law_732 rfl (lv_at hl 0 rfl) ?_
      refine lv_iload_n C.x C.b dL_law_733 rfl (lv_at hl 3 rfl) ?_
      refine lv_iconst (v := 1) C.x C.b dL_law_734 (by decide) ?_
      refine lv_iadd C.x C.b dL_law_735 ?_
      refine va_sld C.x C.b hX hbl hbA hS (sc_in hlt 1 (by decide)) dL_law_736 ?_
      obtain ⟨r, μ1, μ2, e1, e2, hv2⟩ := st_enters hv (xs (nI i + 1).toNatClampNeg)
      refine l_vi (k := 0) (as := [.int (xs (nI i + 1).toNatClampNeg)]) (rest := []) (c_X8_enters C.i e1) M_X8_enters u3_139 C hP hS hAw sh_0 rfl rfl (by decide) hl.1 rfl (Nat.le_of_ble_eq_true rfl) hcs dL_law_737 (fun H locs hP hS => ?_)
      refine lv_aload_n C.x C.b dL_law_740 rfl (lv_at hl 2 rfl) ?_
      refine lv_aload_n C.x C.b dL_law_741 rfl (lv_at hl 0 rfl) ?_
      refine lv_iload_n C.x C.b dL_law_742 rfl (lv_at hl 3 rfl) ?_
      refine lv_iconst (v := 1) C.x C.b dL_law_743 (by decide) ?_
      refine lv_iadd C.x C.b dL_law_744 ?_
      refine va_sld C.x C.b hX hbl hbA hS (sc_in hlt 1 (by decide)) dL_law_745 ?_
      refine l_vi (k := 122) (as := [.int (xs (nI i + 1).toNatClampNeg)]) (rest := [.int r]) (c_X9_enters C.i e2) M_X9_enters u6_26 C hP hS hAw sh_122 rfl rfl (by decide) hl.1 rfl (Nat.le_of_ble_eq_true rfl) hcs dL_law_746 (fun H locs hP hS => ?_)
      refine lv_icmp_eq (tgt := 1527) C.x C.b dL_law_749 (by decide) (fun _ => ?_) (fun c1 => absurd rfl c1)
      exact tail μ2 hv2 H locs ls hP hS hl
    by_cases s16 : sel = 16
    · refine lv_tableIn (off := 721) (tgt := 754) C.x C.b dL_law_33 (by rw [s16]; decide) (by rw [s16]; decide) (by rw [s16]; rfl) (by decide) ?_
      clear s16
      refine lv_aload_n C.x C.b dL_law_754 rfl (lv_at hl 1 rfl) ?_
      refine lv_aload_n C.x C.b dL_law_755 rfl (lv_at hl 0 rfl) ?_
      refine lv_iload_n C.x C.b dL_law_756 rfl (lv_at hl 3 rfl) ?_
      refine lv_iconst (v := 1) C.x C.b dL_law_757 (by decide) ?_
      refine lv_iadd C.x C.b dL_law_758 ?_
      refine va_sld C.x C.b hX hbl hbA hS (sc_in hlt 1 (by decide)) dL_law_759 ?_
      obtain ⟨r, μ1, μ2, e1, e2, hv2⟩ := st_told hv (xs (nI i + 1).toNatClampNeg)
      refine l_vi (k := 0) (as := [.int (xs (nI i + 1).toNatClampNeg)]) (rest := []) (c_X8_told C.i e1) M_X8_told u3_144 C hP hS hAw sh_0 rfl rfl (by decide) hl.1 rfl (Nat.le_of_ble_eq_true rfl) hcs dL_law_760 (fun H locs hP hS => ?_)
      refine lv_aload_n C.x C.b dL_law_763 rfl (lv_at hl 2 rfl) ?_
      refine lv_aload_n C.x C.b dL_law_764 rfl (lv_at hl 0 rfl) ?_
      refine lv_iload_n C.x C.b dL_law_765 rfl (lv_at hl 3 rfl) ?_
      refine lv_iconst (v := 1) C.x C.b dL_law_766 (by decide) ?_
      refine lv_iadd C.x C.b dL_law_767 ?_
      refine va_sld C.x C.b hX hbl hbA hS (sc_in hlt 1 (by decide)) dL_law_768 ?_
      refine l_vi (k := 122) (as := [.int (xs (nI i + 1).toNatClampNeg)]) (rest := [.int r]) (c_X9_told C.i e2) M_X9_told u6_30 C hP hS hAw sh_122 rfl rfl (by decide) hl.1 rfl (Nat.le_of_ble_eq_true rfl) hcs dL_law_769 (fun H locs hP hS => ?_)
      refine lv_icmp_eq (tgt := 1527) C.x C.b dL_law_772 (by decide) (fun _ => ?_) (fun c1 => absurd rfl c1)
      exact tail μ2 hv2 H locs ls hP hS hl
    by_cases s17 : sel = 17
    · refine lv_tableIn (off := 744) (tgt := 777) C.x C.b dL_law_33 (by rw [s17]; decide) (by rw [s17]; decide) (by rw [s17]; rfl) (by decide) ?_
      clear s17
      refine lv_aload_n C.x C.b dL_law_777 rfl (lv_at hl 1 rfl) ?_
      refine lv_aload_n C.x C.b dL_law_778 rfl (lv_at hl 0 rfl) ?_
      refine lv_iload_n C.x C.b dL_law_779 rfl (lv_at hl 3 rfl) ?_
      refine lv_iconst (v := 1) C.x C.b dL_law_780 (by decide) ?_
      refine lv_iadd C.x C.b dL_law_781 ?_
      refine va_sld C.x C.b hX hbl hbA hS (sc_in hlt 1 (by decide)) dL_law_782 ?_
      refine lv_aload_n C.x C.b dL_law_783 rfl (lv_at hl 0 rfl) ?_
      refine lv_iload_n C.x C.b dL_law_784 rfl (lv_at hl 3 rfl) ?_
      refine lv_iconst (v := 2) C.x C.b dL_law_785 (by decide) ?_
      refine lv_iadd C.x C.b dL_law_786 ?_
      refine va_sld C.x C.b hX hbl hbA hS (sc_in hlt 2 (by decide)) dL_law_787 ?_
      obtain ⟨r, e1, e2⟩ := st_trace hv (xs (nI i + 1).toNatClampNeg) (xs (nI i + 2).toNatClampNeg)
      refine l_vi (k := 0) (as := [.int (xs (nI i + 1).toNatClampNeg), .int (xs (nI i + 2).toNatClampNeg)]) (rest := []) (c_X8_trace C.i e1) M_X8_trace u3_163 C hP hS hAw sh_0 rfl rfl (by decide) hl.1 rfl (Nat.le_of_ble_eq_true rfl) hcs dL_law_788 (fun H locs hP hS => ?_)
      refine lv_aload_n C.x C.b dL_law_791 rfl (lv_at hl 2 rfl) ?_
      refine lv_aload_n C.x C.b dL_law_792 rfl (lv_at hl 0 rfl) ?_
      refine lv_iload_n C.x C.b dL_law_793 rfl (lv_at hl 3 rfl) ?_
      refine lv_iconst (v := 1) C.x C.b dL_law_794 (by decide) ?_
      refine lv_iadd C.x C.b dL_law_795 ?_
      refine va_sld C.x C.b hX hbl hbA hS (sc_in hlt 1 (by decide)) dL_law_796 ?_
      refine lv_aload_n C.x C.b dL_law_797 rfl (lv_at hl 0 rfl) ?_
      refine lv_iload_n C.x C.b dL_law_798 rfl (lv_at hl 3 rfl) ?_
      refine lv_iconst (v := 2) C.x C.b dL_law_799 (by decide) ?_
      refine lv_iadd C.x C.b dL_law_800 ?_
      refine va_sld C.x C.b hX hbl hbA hS (sc_in hlt 2 (by decide)) dL_law_801 ?_
      refine l_vi (k := 122) (as := [.int (xs (nI i + 1).toNatClampNeg), .int (xs (nI i + 2).toNatClampNeg)]) (rest := [.int r]) (c_X9_trace C.i e2) M_X9_trace u6_42 C hP hS hAw sh_122 rfl rfl (by decide) hl.1 rfl (Nat.le_of_ble_eq_true rfl) hcs dL_law_802 (fun H locs hP hS => ?_)
      refine lv_icmp_eq (tgt := 1527) C.x C.b dL_law_805 (by decide) (fun _ => ?_) (fun c1 => absurd rfl c1)
      exact tail μ hv H locs ls hP hS hl
    by_cases s18 : sel = 18
    · refine lv_tableIn (off := 777) (tgt := 810) C.x C.b dL_law_33 (by rw [s18]; decide) (by rw [s18]; decide) (by rw [s18]; rfl) (by decide) ?_
      clear s18
      refine lv_aload_n C.x C.b dL_law_810 rfl (lv_at hl 1 rfl) ?_
      refine lv_aload_n C.x C.b dL_law_811 rfl (lv_at hl 0 rfl) ?_
      refine lv_iload_n C.x C.b dL_law_812 rfl (lv_at hl 3 rfl) ?_
      refine lv_iconst (v := 1) C.x C.b dL_law_813 (by decide) ?_
      refine lv_iadd C.x C.b dL_law_814 ?_
      refine va_sld C.x C.b hX hbl hbA hS (sc_in hlt 1 (by decide)) dL_law_815 ?_
      refine lv_aload_n C.x C.b dL_law_816 rfl (lv_at hl 0 rfl) ?_
      refine lv_iload_n C.x C.b dL_law_817 rfl (lv_at hl 3 rfl) ?_
      refine lv_iconst (v := 2) C.x C.b dL_law_818 (by decide) ?_
      refine lv_iadd C.x C.b dL_law_819 ?_
      refine va_sld C.x C.b hX hbl hbA hS (sc_in hlt 2 (by decide)) dL_law_820 ?_
      refine lv_aload_n C.x C.b dL_law_821 rfl (lv_at hl 0 rfl) ?_
      refine lv_iload_n C.x C.b dL_law_822 rfl (lv_at hl 3 rfl) ?_
      refine lv_iconst (v := 3) C.x C.b dL_law_823 (by decide) ?_
      refine lv_iadd C.x C.b dL_law_824 ?_
      refine va_sld C.x C.b hX hbl hbA hS (sc_in hlt 3 (by decide)) dL_law_825 ?_
      obtain ⟨r, μ1, μ2, e1, e2, hv2⟩ := st_best hv (xs (nI i + 1).toNatClampNeg) (xs (nI i + 2).toNatClampNeg) (xs (nI i + 3).toNatClampNeg)
      refine l_vi (k := 0) (as := [.int (xs (nI i + 1).toNatClampNeg), .int (xs (nI i + 2).toNatClampNeg), .int (xs (nI i + 3).toNatClampNeg)]) (rest := []) (c_X8_best C.i e1) M_X8_best u3_167 C hP hS hAw sh_0 rfl rfl (by decide) hl.1 rfl (Nat.le_of_ble_eq_true rfl) hcs dL_law_826 (fun H locs hP hS => ?_)
      refine lv_aload_n C.x C.b dL_law_829 rfl (lv_at hl 2 rfl) ?_
      refine lv_aload_n C.x C.b dL_law_830 rfl (lv_at hl 0 rfl) ?_
      refine lv_iload_n C.x C.b dL_law_831 rfl (lv_at hl 3 rfl) ?_
      refine lv_iconst (v := 1) C.x C.b dL_law_832 (by decide) ?_
      refine lv_iadd C.x C.b dL_law_833 ?_
      refine va_sld C.x C.b hX hbl hbA hS (sc_in hlt 1 (by decide)) dL_law_834 ?_
      refine lv_aload_n C.x C.b dL_law_835 rfl (lv_at hl 0 rfl) ?_
      refine lv_iload_n C.x C.b dL_law_836 rfl (lv_at hl 3 rfl) ?_
      refine lv_iconst (v := 2) C.x C.b dL_law_837 (by decide) ?_
      refine lv_iadd C.x C.b dL_law_838 ?_
      refine va_sld C.x C.b hX hbl hbA hS (sc_in hlt 2 (by decide)) dL_law_839 ?_
      refine lv_aload_n C.x C.b dL_law_840 rfl (lv_at hl 0 rfl) ?_
      refine lv_iload_n C.x C.b dL_law_841 rfl (lv_at hl 3 rfl) ?_
      refine lv_iconst (v := 3) C.x C.b dL_law_842 (by decide) ?_
      refine lv_iadd C.x C.b dL_law_843 ?_
      refine va_sld C.x C.b hX hbl hbA hS (sc_in hlt 3 (by decide)) dL_law_844 ?_
      refine l_vi (k := 122) (as := [.int (xs (nI i + 1).toNatClampNeg), .int (xs (nI i + 2).toNatClampNeg), .int (xs (nI i + 3).toNatClampNeg)]) (rest := [.int r]) (c_X9_best C.i e2) M_X9_best u6_46 C hP hS hAw sh_122 rfl rfl (by decide) hl.1 rfl (Nat.le_of_ble_eq_true rfl) hcs dL_law_845 (fun H locs hP hS => ?_)
      refine lv_icmp_eq (tgt := 1527) C.x C.b dL_law_848 (by decide) (fun _ => ?_) (fun c1 => absurd rfl c1)
      exact tail μ2 hv2 H locs ls hP hS hl
    by_cases s19 : sel = 19
    · refine lv_tableIn (off := 820) (tgt := 853) C.x C.b dL_law_33 (by rw [s19]; decide) (by rw [s19]; decide) (by rw [s19]; rfl) (by decide) ?_
      clear s19
      refine lv_aload_n C.x C.b dL_law_853 rfl (lv_at hl 1 rfl) ?_
      refine lv_aload_n C.x C.b dL_law_854 rfl (lv_at hl 0 rfl) ?_
      refine lv_iload_n C.x C.b dL_law_855 rfl (lv_at hl 3 rfl) ?_
      refine lv_iconst (v := 1) C.x C.b dL_law_856 (by decide) ?_
      refine lv_iadd C.x C.b dL_law_857 ?_
      refine va_sld C.x C.b hX hbl hbA hS (sc_in hlt 1 (by decide)) dL_law_858 ?_
      obtain ⟨r, μ1, μ2, e1, e2, hv2⟩ := st_cheapest hv (xs (nI i + 1).toNatClampNeg)
      refine l_vi (k := 0) (as := [.int (xs (nI i + 1).toNatClampNeg)]) (rest := []) (c_X8_cheapest C.i e1) M_X8_cheapest u3_180 C hP hS hAw sh_0 rfl rfl (by decide) hl.1 rfl (Nat.le_of_ble_eq_true rfl) hcs dL_law_859 (fun H locs hP hS => ?_)
      refine lv_aload_n C.x C.b dL_law_862 rfl (lv_at hl 2 rfl) ?_
      refine lv_aload_n C.x C.b dL_law_863 rfl (lv_at hl 0 rfl) ?_
      refine lv_iload_n C.x C.b dL_law_864 rfl (lv_at hl 3 rfl) ?_
      refine lv_iconst (v := 1) C.x C.b dL_law_865 (by decide) ?_
      refine lv_iadd C.x C.b dL_law_866 ?_
      refine va_sld C.x C.b hX hbl hbA hS (sc_in hlt 1 (by decide)) dL_law_867 ?_
      refine l_vi (k := 122) (as := [.int (xs (nI i + 1).toNatClampNeg)]) (rest := [.int r]) (c_X9_cheapest C.i e2) M_X9_cheapest u6_70 C hP hS hAw sh_122 rfl rfl (by decide) hl.1 rfl (Nat.le_of_ble_eq_true rfl) hcs dL_law_868 (fun H locs hP hS => ?_)
      refine lv_icmp_eq (tgt := 1527) C.x C.b dL_law_871 (by decide) (fun _ => ?_) (fun c1 => absurd rfl c1)
      exact tail μ2 hv2 H locs ls hP hS hl
    by_cases s20 : sel = 20
    · refine lv_tableIn (off := 843) (tgt := 876) C.x C.b dL_law_33 (by rw [s20]; decide) (by rw [s20]; decide) (by rw [s20]; rfl) (by decide) ?_
      clear s20
      refine lv_aload_n C.x C.b dL_law_876 rfl (lv_at hl 1 rfl) ?_
      refine lv_aload_n C.x C.b dL_law_877 rfl (lv_at hl 0 rfl) ?_
      refine lv_iload_n C.x C.b dL_law_878 rfl (lv_at hl 3 rfl) ?_
      refine lv_iconst (v := 1) C.x C.b dL_law_879 (by decide) ?_
      refine lv_iadd C.x C.b dL_law_880 ?_
      refine va_sld C.x C.b hX hbl hbA hS (sc_in hlt 1 (by decide)) dL_law_881 ?_
      refine lv_aload_n C.x C.b dL_law_882 rfl (lv_at hl 0 rfl) ?_
      refine lv_iload_n C.x C.b dL_law_883 rfl (lv_at hl 3 rfl) ?_
      refine lv_iconst (v := 2) C.x C.b dL_law_884 (by decide) ?_
      refine lv_iadd C.x C.b dL_law_885 ?_
      refine va_sld C.x C.b hX hbl hbA hS (sc_in hlt 2 (by decide)) dL_law_886 ?_
      obtain ⟨r, μ1, μ2, e1, e2, hv2⟩ := st_more hv (xs (nI i + 1).toNatClampNeg) (xs (nI i + 2).toNatClampNeg)
      refine l_vl (k := 0) (as := [.int (xs (nI i + 1).toNatClampNeg), .int (xs (nI i + 2).toNatClampNeg)]) (rest := []) (c_X8_more C.i e1) M_X8_more u3_192 C hP hS hAw sh_0 rfl rfl (by decide) hl.1 rfl (Nat.le_of_ble_eq_true rfl) hcs dL_law_887 (fun H locs hP hS => ?_)
      refine lv_aload_n C.x C.b dL_law_890 rfl (lv_at hl 2 rfl) ?_
      refine lv_aload_n C.x C.b dL_law_891 rfl (lv_at hl 0 rfl) ?_
      refine lv_iload_n C.x C.b dL_law_892 rfl (lv_at hl 3 rfl) ?_
      refine lv_iconst (v := 1) C.x C.b dL_law_893 (by decide) ?_
      refine lv_iadd C.x C.b dL_law_894 ?_
      refine va_sld C.x C.b hX hbl hbA hS (sc_in hlt 1 (by decide)) dL_law_895 ?_
      refine lv_aload_n C.x C.b dL_law_896 rfl (lv_at hl 0 rfl) ?_
      refine lv_iload_n C.x C.b dL_law_897 rfl (lv_at hl 3 rfl) ?_
      refine lv_iconst (v := 2) C.x C.b dL_law_898 (by decide) ?_
      refine lv_iadd C.x C.b dL_law_899 ?_
      refine va_sld C.x C.b hX hbl hbA hS (sc_in hlt 2 (by decide)) dL_law_900 ?_
      refine l_vl (k := 122) (as := [.int (xs (nI i + 1).toNatClampNeg), .int (xs (nI i + 2).toNatClampNeg)]) (rest := [.long r]) (c_X9_more C.i e2) M_X9_more u6_82 C hP hS hAw sh_122 rfl rfl (by decide) hl.1 rfl (Nat.le_of_ble_eq_true rfl) hcs dL_law_901 (fun H locs hP hS => ?_)
      refine W.lcmp C.x C.b dL_law_904 ?_
      rw [lg_cmp_self]
      refine lv_if_eq (tgt := 1527) C.x C.b dL_law_905 (by decide) (fun _ => ?_) (fun c1 => absurd rfl c1)
      exact tail μ2 hv2 H locs ls hP hS hl
    by_cases s21 : sel = 21
    · refine lv_tableIn (off := 877) (tgt := 910) C.x C.b dL_law_33 (by rw [s21]; decide) (by rw [s21]; decide) (by rw [s21]; rfl) (by decide) ?_
      clear s21
      refine lv_aload_n C.x C.b dL_law_910 rfl (lv_at hl 1 rfl) ?_
      refine lv_aload_n C.x C.b dL_law_911 rfl (lv_at hl 0 rfl) ?_
      refine lv_iload_n C.x C.b dL_law_912 rfl (lv_at hl 3 rfl) ?_
      refine lv_iconst (v := 1) C.x C.b dL_law_913 (by decide) ?_
      refine lv_iadd C.x C.b dL_law_914 ?_
      refine va_sld C.x C.b hX hbl hbA hS (sc_in hlt 1 (by decide)) dL_law_915 ?_
      refine lv_aload_n C.x C.b dL_law_916 rfl (lv_at hl 0 rfl) ?_
      refine lv_iload_n C.x C.b dL_law_917 rfl (lv_at hl 3 rfl) ?_
      refine lv_iconst (v := 2) C.x C.b dL_law_918 (by decide) ?_
      refine lv_iadd C.x C.b dL_law_919 ?_
      refine va_sld C.x C.b hX hbl hbA hS (sc_in hlt 2 (by decide)) dL_law_920 ?_
      obtain ⟨r, μ1, μ2, e1, e2, hv2⟩ := st_rise hv (xs (nI i + 1).toNatClampNeg) (xs (nI i + 2).toNatClampNeg)
      refine l_vi (k := 0) (as := [.int (xs (nI i + 1).toNatClampNeg), .int (xs (nI i + 2).toNatClampNeg)]) (rest := []) (c_X8_rise C.i e1) M_X8_rise u3_200 C hP hS hAw sh_0 rfl rfl (by decide) hl.1 rfl (Nat.le_of_ble_eq_true rfl) hcs dL_law_921 (fun H locs hP hS => ?_)
      refine lv_aload_n C.x C.b dL_law_924 rfl (lv_at hl 2 rfl) ?_
      refine lv_aload_n C.x C.b dL_law_925 rfl (lv_at hl 0 rfl) ?_
      refine lv_iload_n C.x C.b dL_law_926 rfl (lv_at hl 3 rfl) ?_
      refine lv_iconst (v := 1) C.x C.b dL_law_927 (by decide) ?_
      refine lv_iadd C.x C.b dL_law_928 ?_
      refine va_sld C.x C.b hX hbl hbA hS (sc_in hlt 1 (by decide)) dL_law_929 ?_
      refine lv_aload_n C.x C.b dL_law_930 rfl (lv_at hl 0 rfl) ?_
      refine lv_iload_n C.x C.b dL_law_931 rfl (lv_at hl 3 rfl) ?_
      refine lv_iconst (v := 2) C.x C.b dL_law_932 (by decide) ?_
      refine lv_iadd C.x C.b dL_law_933 ?_
      refine va_sld C.x C.b hX hbl hbA hS (sc_in hlt 2 (by decide)) dL_law_934 ?_
      refine l_vi (k := 122) (as := [.int (xs (nI i + 1).toNatClampNeg), .int (xs (nI i + 2).toNatClampNeg)]) (rest := [.int r]) (c_X9_rise C.i e2) M_X9_rise u6_90 C hP hS hAw sh_122 rfl rfl (by decide) hl.1 rfl (Nat.le_of_ble_eq_true rfl) hcs dL_law_935 (fun H locs hP hS => ?_)
      refine lv_icmp_eq (tgt := 1527) C.x C.b dL_law_938 (by decide) (fun _ => ?_) (fun c1 => absurd rfl c1)
      exact tail μ2 hv2 H locs ls hP hS hl
    by_cases s22 : sel = 22
    · refine lv_tableIn (off := 910) (tgt := 943) C.x C.b dL_law_33 (by rw [s22]; decide) (by rw [s22]; decide) (by rw [s22]; rfl) (by decide) ?_
      clear s22
      refine lv_aload_n C.x C.b dL_law_943 rfl (lv_at hl 1 rfl) ?_
      refine lv_aload_n C.x C.b dL_law_944 rfl (lv_at hl 0 rfl) ?_
      refine lv_iload_n C.x C.b dL_law_945 rfl (lv_at hl 3 rfl) ?_
      refine lv_iconst (v := 1) C.x C.b dL_law_946 (by decide) ?_
      refine lv_iadd C.x C.b dL_law_947 ?_
      refine va_sld C.x C.b hX hbl hbA hS (sc_in hlt 1 (by decide)) dL_law_948 ?_
      obtain ⟨r, μ1, μ2, e1, e2, hv2⟩ := st_missed hv (xs (nI i + 1).toNatClampNeg)
      refine l_vi (k := 0) (as := [.int (xs (nI i + 1).toNatClampNeg)]) (rest := []) (c_X8_missed C.i e1) M_X8_missed u3_210 C hP hS hAw sh_0 rfl rfl (by decide) hl.1 rfl (Nat.le_of_ble_eq_true rfl) hcs dL_law_949 (fun H locs hP hS => ?_)
      refine lv_aload_n C.x C.b dL_law_952 rfl (lv_at hl 2 rfl) ?_
      refine lv_aload_n C.x C.b dL_law_953 rfl (lv_at hl 0 rfl) ?_
      refine lv_iload_n C.x C.b dL_law_954 rfl (lv_at hl 3 rfl) ?_
      refine lv_iconst (v := 1) C.x C.b dL_law_955 (by decide) ?_
      refine lv_iadd C.x C.b dL_law_956 ?_
      refine va_sld C.x C.b hX hbl hbA hS (sc_in hlt 1 (by decide)) dL_law_957 ?_
      refine l_vi (k := 122) (as := [.int (xs (nI i + 1).toNatClampNeg)]) (rest := [.int r]) (c_X9_missed C.i e2) M_X9_missed u6_98 C hP hS hAw sh_122 rfl rfl (by decide) hl.1 rfl (Nat.le_of_ble_eq_true rfl) hcs dL_law_958 (fun H locs hP hS => ?_)
      refine lv_icmp_eq (tgt := 1527) C.x C.b dL_law_961 (by decide) (fun _ => ?_) (fun c1 => absurd rfl c1)
      exact tail μ2 hv2 H locs ls hP hS hl
    by_cases s23 : sel = 23
    · refine lv_tableIn (off := 933) (tgt := 966) C.x C.b dL_law_33 (by rw [s23]; decide) (by rw [s23]; decide) (by rw [s23]; rfl) (by decide) ?_
      clear s23
      refine lv_aload_n C.x C.b dL_law_966 rfl (lv_at hl 1 rfl) ?_
      refine lv_aload_n C.x C.b dL_law_967 rfl (lv_at hl 0 rfl) ?_
      refine lv_iload_n C.x C.b dL_law_968 rfl (lv_at hl 3 rfl) ?_
      refine lv_iconst (v := 1) C.x C.b dL_law_969 (by decide) ?_
      refine lv_iadd C.x C.b dL_law_970 ?_
      refine va_sld C.x C.b hX hbl hbA hS (sc_in hlt 1 (by decide)) dL_law_971 ?_
      refine lv_aload_n C.x C.b dL_law_972 rfl (lv_at hl 0 rfl) ?_
      refine lv_iload_n C.x C.b dL_law_973 rfl (lv_at hl 3 rfl) ?_
      refine lv_iconst (v := 2) C.x C.b dL_law_974 (by decide) ?_
      refine lv_iadd C.x C.b dL_law_975 ?_
      refine va_sld C.x C.b hX hbl hbA hS (sc_in hlt 2 (by decide)) dL_law_976 ?_
      refine lv_aload_n C.x C.b dL_law_977 rfl (lv_at hl 0 rfl) ?_
      refine lv_iload_n C.x C.b dL_law_978 rfl (lv_at hl 3 rfl) ?_
      refine lv_iconst (v := 3) C.x C.b dL_law_979 (by decide) ?_
      refine lv_iadd C.x C.b dL_law_980 ?_
      refine va_sld C.x C.b hX hbl hbA hS (sc_in hlt 3 (by decide)) dL_law_981 ?_
      obtain ⟨r, μ1, μ2, e1, e2, hv2⟩ := st_see hv (xs (nI i + 1).toNatClampNeg) (xs (nI i + 2).toNatClampNeg) (xs (nI i + 3).toNatClampNeg)
      refine l_vi (k := 0) (as := [.int (xs (nI i + 1).toNatClampNeg), .int (xs (nI i + 2).toNatClampNeg), .int (xs (nI i + 3).toNatClampNeg)]) (rest := []) (c_X8_see C.i e1) M_X8_see u3_218 C hP hS hAw sh_0 rfl rfl (by decide) hl.1 rfl (Nat.le_of_ble_eq_true rfl) hcs dL_law_982 (fun H locs hP hS => ?_)
      refine lv_aload_n C.x C.b dL_law_985 rfl (lv_at hl 2 rfl) ?_
      refine lv_aload_n C.x C.b dL_law_986 rfl (lv_at hl 0 rfl) ?_
      refine lv_iload_n C.x C.b dL_law_987 rfl (lv_at hl 3 rfl) ?_
      refine lv_iconst (v := 1) C.x C.b dL_law_988 (by decide) ?_
      refine lv_iadd C.x C.b dL_law_989 ?_
      refine va_sld C.x C.b hX hbl hbA hS (sc_in hlt 1 (by decide)) dL_law_990 ?_
      refine lv_aload_n C.x C.b dL_law_991 rfl (lv_at hl 0 rfl) ?_
      refine lv_iload_n C.x C.b dL_law_992 rfl (lv_at hl 3 rfl) ?_
      refine lv_iconst (v := 2) C.x C.b dL_law_993 (by decide) ?_
      refine lv_iadd C.x C.b dL_law_994 ?_
      refine va_sld C.x C.b hX hbl hbA hS (sc_in hlt 2 (by decide)) dL_law_995 ?_
      refine lv_aload_n C.x C.b dL_law_996 rfl (lv_at hl 0 rfl) ?_
      refine lv_iload_n C.x C.b dL_law_997 rfl (lv_at hl 3 rfl) ?_
      refine lv_iconst (v := 3) C.x C.b dL_law_998 (by decide) ?_
      refine lv_iadd C.x C.b dL_law_999 ?_
      refine va_sld C.x C.b hX hbl hbA hS (sc_in hlt 3 (by decide)) dL_law_1000 ?_
      refine l_vi (k := 122) (as := [.int (xs (nI i + 1).toNatClampNeg), .int (xs (nI i + 2).toNatClampNeg), .int (xs (nI i + 3).toNatClampNeg)]) (rest := [.int r]) (c_X9_see C.i e2) M_X9_see u6_103 C hP hS hAw sh_122 rfl rfl (by decide) hl.1 rfl (Nat.le_of_ble_eq_true rfl) hcs dL_law_1001 (fun H locs hP hS => ?_)
      refine lv_icmp_eq (tgt := 1527) C.x C.b dL_law_1004 (by decide) (fun _ => ?_) (fun c1 => absurd rfl c1)
      exact tail μ2 hv2 H locs ls hP hS hl
    by_cases s24 : sel = 24
    · refine lv_tableIn (off := 976) (tgt := 1009) C.x C.b dL_law_33 (by rw [s24]; decide) (by rw [s24]; decide) (by rw [s24]; rfl) (by decide) ?_
      clear s24
      refine lv_aload_n C.x C.b dL_law_1009 rfl (lv_at hl 1 rfl) ?_
      refine lv_aload_n C.x C.b dL_law_1010 rfl (lv_at hl 0 rfl) ?_
      refine lv_iload_n C.x C.b dL_law_1011 rfl (lv_at hl 3 rfl) ?_
      refine lv_iconst (v := 1) C.x C.b dL_law_1012 (by decide) ?_
      refine lv_iadd C.x C.b dL_law_1013 ?_
      refine va_sld C.x C.b hX hbl hbA hS (sc_in hlt 1 (by decide)) dL_law_1014 ?_
      refine lv_aload_n C.x C.b dL_law_1015 rfl (lv_at hl 0 rfl) ?_
      refine lv_iload_n C.x C.b dL_law_1016 rfl (lv_at hl 3 rfl) ?_
      refine lv_iconst (v := 2) C.x C.b dL_law_1017 (by decide) ?_
      refine lv_iadd C.x C.b dL_law_1018 ?_
      refine va_sld C.x C.b hX hbl hbA hS (sc_in hlt 2 (by decide)) dL_law_1019 ?_
      refine lv_aload_n C.x C.b dL_law_1020 rfl (lv_at hl 0 rfl) ?_
      refine lv_iload_n C.x C.b dL_law_1021 rfl (lv_at hl 3 rfl) ?_
      refine lv_iconst (v := 3) C.x C.b dL_law_1022 (by decide) ?_
      refine lv_iadd C.x C.b dL_law_1023 ?_
      refine va_sld C.x C.b hX hbl hbA hS (sc_in hlt 3 (by decide)) dL_law_1024 ?_
      obtain ⟨r, μ1, μ2, e1, e2, hv2⟩ := st_fits hv (xs (nI i + 1).toNatClampNeg) (xs (nI i + 2).toNatClampNeg) (xs (nI i + 3).toNatClampNeg)
      refine l_vi (k := 0) (as := [.int (xs (nI i + 1).toNatClampNeg), .int (xs (nI i + 2).toNatClampNeg), .int (xs (nI i + 3).toNatClampNeg)]) (rest := []) (c_X8_fits C.i e1) M_X8_fits u3_230 C hP hS hAw sh_0 rfl rfl (by decide) hl.1 rfl (Nat.le_of_ble_eq_true rfl) hcs dL_law_1025 (fun H locs hP hS => ?_)
      refine lv_aload_n C.x C.b dL_law_1028 rfl (lv_at hl 2 rfl) ?_
      refine lv_aload_n C.x C.b dL_law_1029 rfl (lv_at hl 0 rfl) ?_
      refine lv_iload_n C.x C.b dL_law_1030 rfl (lv_at hl 3 rfl) ?_
      refine lv_iconst (v := 1) C.x C.b dL_law_1031 (by decide) ?_
      refine lv_iadd C.x C.b dL_law_1032 ?_
      refine va_sld C.x C.b hX hbl hbA hS (sc_in hlt 1 (by decide)) dL_law_1033 ?_
      refine lv_aload_n C.x C.b dL_law_1034 rfl (lv_at hl 0 rfl) ?_
      refine lv_iload_n C.x C.b dL_law_1035 rfl (lv_at hl 3 rfl) ?_
      refine lv_iconst (v := 2) C.x C.b dL_law_1036 (by decide) ?_
      refine lv_iadd C.x C.b dL_law_1037 ?_
      refine va_sld C.x C.b hX hbl hbA hS (sc_in hlt 2 (by decide)) dL_law_1038 ?_
      refine lv_aload_n C.x C.b dL_law_1039 rfl (lv_at hl 0 rfl) ?_
      refine lv_iload_n C.x C.b dL_law_1040 rfl (lv_at hl 3 rfl) ?_
      refine lv_iconst (v := 3) C.x C.b dL_law_1041 (by decide) ?_
      refine lv_iadd C.x C.b dL_law_1042 ?_
      refine va_sld C.x C.b hX hbl hbA hS (sc_in hlt 3 (by decide)) dL_law_1043 ?_
      refine l_vi (k := 122) (as := [.int (xs (nI i + 1).toNatClampNeg), .int (xs (nI i + 2).toNatClampNeg), .int (xs (nI i + 3).toNatClampNeg)]) (rest := [.int r]) (c_X9_fits C.i e2) M_X9_fits u6_107 C hP hS hAw sh_122 rfl rfl (by decide) hl.1 rfl (Nat.le_of_ble_eq_true rfl) hcs dL_law_1044 (fun H locs hP hS => ?_)
      refine lv_icmp_eq (tgt := 1527) C.x C.b dL_law_1047 (by decide) (fun _ => ?_) (fun c1 => absurd rfl c1)
      exact tail μ2 hv2 H locs ls hP hS hl
    by_cases s25 : sel = 25
    · refine lv_tableIn (off := 1019) (tgt := 1052) C.x C.b dL_law_33 (by rw [s25]; decide) (by rw [s25]; decide) (by rw [s25]; rfl) (by decide) ?_
      clear s25
      refine lv_aload_n C.x C.b dL_law_1052 rfl (lv_at hl 1 rfl) ?_
      refine lv_aload_n C.x C.b dL_law_1053 rfl (lv_at hl 0 rfl) ?_
      refine lv_iload_n C.x C.b dL_law_1054 rfl (lv_at hl 3 rfl) ?_
      refine lv_iconst (v := 1) C.x C.b dL_law_1055 (by decide) ?_
      refine lv_iadd C.x C.b dL_law_1056 ?_
      refine va_sld C.x C.b hX hbl hbA hS (sc_in hlt 1 (by decide)) dL_law_1057 ?_
      refine lv_aload_n C.x C.b dL_law_1058 rfl (lv_at hl 0 rfl) ?_
      refine lv_iload_n C.x C.b dL_law_1059 rfl (lv_at hl 3 rfl) ?_
      refine lv_iconst (v := 2) C.x C.b dL_law_1060 (by decide) ?_
      refine lv_iadd C.x C.b dL_law_1061 ?_
      refine va_sld C.x C.b hX hbl hbA hS (sc_in hlt 2 (by decide)) dL_law_1062 ?_
      refine lv_aload_n C.x C.b dL_law_1063 rfl (lv_at hl 0 rfl) ?_
      refine lv_iload_n C.x C.b dL_law_1064 rfl (lv_at hl 3 rfl) ?_
      refine lv_iconst (v := 3) C.x C.b dL_law_1065 (by decide) ?_
      refine lv_iadd C.x C.b dL_law_1066 ?_
      refine va_sld C.x C.b hX hbl hbA hS (sc_in hlt 3 (by decide)) dL_law_1067 ?_
      obtain ⟨r, μ1, μ2, e1, e2, hv2⟩ := st_odds hv (xs (nI i + 1).toNatClampNeg) (xs (nI i + 2).toNatClampNeg) (xs (nI i + 3).toNatClampNeg)
      refine l_vl (k := 0) (as := [.int (xs (nI i + 1).toNatClampNeg), .int (xs (nI i + 2).toNatClampNeg), .int (xs (nI i + 3).toNatClampNeg)]) (rest := []) (c_X8_odds C.i e1) M_X8_odds u3_238 C hP hS hAw sh_0 rfl rfl (by decide) hl.1 rfl (Nat.le_of_ble_eq_true rfl) hcs dL_law_1068 (fun H locs hP hS => ?_)
      refine lv_aload_n C.x C.b dL_law_1071 rfl (lv_at hl 2 rfl) ?_
      refine lv_aload_n C.x C.b dL_law_1072 rfl (lv_at hl 0 rfl) ?_
      refine lv_iload_n C.x C.b dL_law_1073 rfl (lv_at hl 3 rfl) ?_
      refine lv_iconst (v := 1) C.x C.b dL_law_1074 (by decide) ?_
      refine lv_iadd C.x C.b dL_law_1075 ?_
      refine va_sld C.x C.b hX hbl hbA hS (sc_in hlt 1 (by decide)) dL_law_1076 ?_
      refine lv_aload_n C.x C.b dL_law_1077 rfl (lv_at hl 0 rfl) ?_
      refine lv_iload_n C.x C.b dL_law_1078 rfl (lv_at hl 3 rfl) ?_
      refine lv_iconst (v := 2) C.x C.b dL_law_1079 (by decide) ?_
      refine lv_iadd C.x C.b dL_law_1080 ?_
      refine va_sld C.x C.b hX hbl hbA hS (sc_in hlt 2 (by decide)) dL_law_1081 ?_
      refine lv_aload_n C.x C.b dL_law_1082 rfl (lv_at hl 0 rfl) ?_
      refine lv_iload_n C.x C.b dL_law_1083 rfl (lv_at hl 3 rfl) ?_
      refine lv_iconst (v := 3) C.x C.b dL_law_1084 (by decide) ?_
      refine lv_iadd C.x C.b dL_law_1085 ?_
      refine va_sld C.x C.b hX hbl hbA hS (sc_in hlt 3 (by decide)) dL_law_1086 ?_
      refine l_vl (k := 122) (as := [.int (xs (nI i + 1).toNatClampNeg), .int (xs (nI i + 2).toNatClampNeg), .int (xs (nI i + 3).toNatClampNeg)]) (rest := [.long r]) (c_X9_odds C.i e2) M_X9_odds u6_115 C hP hS hAw sh_122 rfl rfl (by decide) hl.1 rfl (Nat.le_of_ble_eq_true rfl) hcs dL_law_1087 (fun H locs hP hS => ?_)
      refine W.lcmp C.x C.b dL_law_1090 ?_
      rw [lg_cmp_self]
      refine lv_if_eq (tgt := 1527) C.x C.b dL_law_1091 (by decide) (fun _ => ?_) (fun c1 => absurd rfl c1)
      exact tail μ2 hv2 H locs ls hP hS hl
    by_cases s26 : sel = 26
    · refine lv_tableIn (off := 1063) (tgt := 1096) C.x C.b dL_law_33 (by rw [s26]; decide) (by rw [s26]; decide) (by rw [s26]; rfl) (by decide) ?_
      clear s26
      refine lv_aload_n C.x C.b dL_law_1096 rfl (lv_at hl 1 rfl) ?_
      refine lv_aload_n C.x C.b dL_law_1097 rfl (lv_at hl 0 rfl) ?_
      refine lv_iload_n C.x C.b dL_law_1098 rfl (lv_at hl 3 rfl) ?_
      refine lv_iconst (v := 1) C.x C.b dL_law_1099 (by decide) ?_
      refine lv_iadd C.x C.b dL_law_1100 ?_
      refine va_sld C.x C.b hX hbl hbA hS (sc_in hlt 1 (by decide)) dL_law_1101 ?_
      obtain ⟨r, e1, e2⟩ := st_mean hv (xs (nI i + 1).toNatClampNeg)
      refine l_vl (k := 0) (as := [.int (xs (nI i + 1).toNatClampNeg)]) (rest := []) (c_X8_mean C.i e1) M_X8_mean u4_8 C hP hS hAw sh_0 rfl rfl (by decide) hl.1 rfl (Nat.le_of_ble_eq_true rfl) hcs dL_law_1102 (fun H locs hP hS => ?_)
      refine lv_aload_n C.x C.b dL_law_1105 rfl (lv_at hl 2 rfl) ?_
      refine lv_aload_n C.x C.b dL_law_1106 rfl (lv_at hl 0 rfl) ?_
      refine lv_iload_n C.x C.b dL_law_1107 rfl (lv_at hl 3 rfl) ?_
      refine lv_iconst (v := 1) C.x C.b dL_law_1108 (by decide) ?_
      refine lv_iadd C.x C.b dL_law_1109 ?_
      refine va_sld C.x C.b hX hbl hbA hS (sc_in hlt 1 (by decide)) dL_law_1110 ?_
      refine l_vl (k := 122) (as := [.int (xs (nI i + 1).toNatClampNeg)]) (rest := [.long r]) (c_X9_mean C.i e2) M_X9_mean u6_123 C hP hS hAw sh_122 rfl rfl (by decide) hl.1 rfl (Nat.le_of_ble_eq_true rfl) hcs dL_law_1111 (fun H locs hP hS => ?_)
      refine W.lcmp C.x C.b dL_law_1114 ?_
      rw [lg_cmp_self]
      refine lv_if_eq (tgt := 1527) C.x C.b dL_law_1115 (by decide) (fun _ => ?_) (fun c1 => absurd rfl c1)
      exact tail μ hv H locs ls hP hS hl
    by_cases s27 : sel = 27
    · refine lv_tableIn (off := 1087) (tgt := 1120) C.x C.b dL_law_33 (by rw [s27]; decide) (by rw [s27]; decide) (by rw [s27]; rfl) (by decide) ?_
      clear s27
      refine lv_aload_n C.x C.b dL_law_1120 rfl (lv_at hl 1 rfl) ?_
      refine lv_aload_n C.x C.b dL_law_1121 rfl (lv_at hl 0 rfl) ?_
      refine lv_iload_n C.x C.b dL_law_1122 rfl (lv_at hl 3 rfl) ?_
      refine lv_iconst (v := 1) C.x C.b dL_law_1123 (by decide) ?_
      refine lv_iadd C.x C.b dL_law_1124 ?_
      refine va_sld C.x C.b hX hbl hbA hS (sc_in hlt 1 (by decide)) dL_law_1125 ?_
      refine lv_aload_n C.x C.b dL_law_1126 rfl (lv_at hl 0 rfl) ?_
      refine lv_iload_n C.x C.b dL_law_1127 rfl (lv_at hl 3 rfl) ?_
      refine lv_iconst (v := 2) C.x C.b dL_law_1128 (by decide) ?_
      refine lv_iadd C.x C.b dL_law_1129 ?_
      refine va_sld C.x C.b hX hbl hbA hS (sc_in hlt 2 (by decide)) dL_law_1130 ?_
      obtain ⟨r, μ1, μ2, e1, e2, hv2⟩ := st_order hv (xs (nI i + 1).toNatClampNeg) (xs (nI i + 2).toNatClampNeg)
      refine l_vi (k := 0) (as := [.int (xs (nI i + 1).toNatClampNeg), .int (xs (nI i + 2).toNatClampNeg)]) (rest := []) (c_X8_order C.i e1) M_X8_order u4_16 C hP hS hAw sh_0 rfl rfl (by decide) hl.1 rfl (Nat.le_of_ble_eq_true rfl) hcs dL_law_1131 (fun H locs hP hS => ?_)
      refine lv_aload_n C.x C.b dL_law_1134 rfl (lv_at hl 2 rfl) ?_
      refine lv_aload_n C.x C.b dL_law_1135 rfl (lv_at hl 0 rfl) ?_
      refine lv_iload_n C.x C.b dL_law_1136 rfl (lv_at hl 3 rfl) ?_
      refine lv_iconst (v := 1) C.x C.b dL_law_1137 (by decide) ?_
      refine lv_iadd C.x C.b dL_law_1138 ?_
      refine va_sld C.x C.b hX hbl hbA hS (sc_in hlt 1 (by decide)) dL_law_1139 ?_
      refine lv_aload_n C.x C.b dL_law_1140 rfl (lv_at hl 0 rfl) ?_
      refine lv_iload_n C.x C.b dL_law_1141 rfl (lv_at hl 3 rfl) ?_
      refine lv_iconst (v := 2) C.x C.b dL_law_1142 (by decide) ?_
      refine lv_iadd C.x C.b dL_law_1143 ?_
      refine va_sld C.x C.b hX hbl hbA hS (sc_in hlt 2 (by decide)) dL_law_1144 ?_
      refine l_vi (k := 122) (as := [.int (xs (nI i + 1).toNatClampNeg), .int (xs (nI i + 2).toNatClampNeg)]) (rest := [.int r]) (c_X9_order C.i e2) M_X9_order u6_127 C hP hS hAw sh_122 rfl rfl (by decide) hl.1 rfl (Nat.le_of_ble_eq_true rfl) hcs dL_law_1145 (fun H locs hP hS => ?_)
      refine lv_icmp_eq (tgt := 1527) C.x C.b dL_law_1148 (by decide) (fun _ => ?_) (fun c1 => absurd rfl c1)
      exact tail μ2 hv2 H locs ls hP hS hl
    by_cases s28 : sel = 28
    · refine lv_tableIn (off := 1120) (tgt := 1153) C.x C.b dL_law_33 (by rw [s28]; decide) (by rw [s28]; decide) (by rw [s28]; rfl) (by decide) ?_
      clear s28
      refine lv_aload_n C.x C.b dL_law_1153 rfl (lv_at hl 1 rfl) ?_
      refine lv_aload_n C.x C.b dL_law_1154 rfl (lv_at hl 0 rfl) ?_
      refine lv_iload_n C.x C.b dL_law_1155 rfl (lv_at hl 3 rfl) ?_
      refine lv_iconst (v := 1) C.x C.b dL_law_1156 (by decide) ?_
      refine lv_iadd C.x C.b dL_law_1157 ?_
      refine va_sld C.x C.b hX hbl hbA hS (sc_in hlt 1 (by decide)) dL_law_1158 ?_
      obtain ⟨r, μ1, μ2, e1, e2, hv2⟩ := st_ends hv (xs (nI i + 1).toNatClampNeg)
      refine l_vi (k := 0) (as := [.int (xs (nI i + 1).toNatClampNeg)]) (rest := []) (c_X8_ends C.i e1) M_X8_ends u4_24 C hP hS hAw sh_0 rfl rfl (by decide) hl.1 rfl (Nat.le_of_ble_eq_true rfl) hcs dL_law_1159 (fun H locs hP hS => ?_)
      refine lv_aload_n C.x C.b dL_law_1162 rfl (lv_at hl 2 rfl) ?_
      refine lv_aload_n C.x C.b dL_law_1163 rfl (lv_at hl 0 rfl) ?_
      refine lv_iload_n C.x C.b dL_law_1164 rfl (lv_at hl 3 rfl) ?_
      refine lv_iconst (v := 1) C.x C.b dL_law_1165 (by decide) ?_
      refine lv_iadd C.x C.b dL_law_1166 ?_
      refine va_sld C.x C.b hX hbl hbA hS (sc_in hlt 1 (by decide)) dL_law_1167 ?_
      refine l_vi (k := 122) (as := [.int (xs (nI i + 1).toNatClampNeg)]) (rest := [.int r]) (c_X9_ends C.i e2) M_X9_ends u6_135 C hP hS hAw sh_122 rfl rfl (by decide) hl.1 rfl (Nat.le_of_ble_eq_true rfl) hcs dL_law_1168 (fun H locs hP hS => ?_)
      refine lv_icmp_eq (tgt := 1527) C.x C.b dL_law_1171 (by decide) (fun _ => ?_) (fun c1 => absurd rfl c1)
      exact tail μ2 hv2 H locs ls hP hS hl
    by_cases s29 : sel = 29
    · refine lv_tableIn (off := 1143) (tgt := 1176) C.x C.b dL_law_33 (by rw [s29]; decide) (by rw [s29]; decide) (by rw [s29]; rfl) (by decide) ?_
      clear s29
      refine lv_aload_n C.x C.b dL_law_1176 rfl (lv_at hl 1 rfl) ?_
      refine lv_aload_n C.x C.b dL_law_1177 rfl (lv_at hl 0 rfl) ?_
      refine lv_iload_n C.x C.b dL_law_1178 rfl (lv_at hl 3 rfl) ?_
      refine lv_iconst (v := 1) C.x C.b dL_law_1179 (by decide) ?_
      refine lv_iadd C.x C.b dL_law_1180 ?_
      refine va_sld C.x C.b hX hbl hbA hS (sc_in hlt 1 (by decide)) dL_law_1181 ?_
      refine lv_aload_n C.x C.b dL_law_1182 rfl (lv_at hl 0 rfl) ?_
      refine lv_iload_n C.x C.b dL_law_1183 rfl (lv_at hl 3 rfl) ?_
      refine lv_iconst (v := 2) C.x C.b dL_law_1184 (by decide) ?_
      refine lv_iadd C.x C.b dL_law_1185 ?_
      refine va_sld C.x C.b hX hbl hbA hS (sc_in hlt 2 (by decide)) dL_law_1186 ?_
      refine lv_aload_n C.x C.b dL_law_1187 rfl (lv_at hl 0 rfl) ?_
      refine lv_iload_n C.x C.b dL_law_1188 rfl (lv_at hl 3 rfl) ?_
      refine lv_iconst (v := 3) C.x C.b dL_law_1189 (by decide) ?_
      refine lv_iadd C.x C.b dL_law_1190 ?_
      refine va_sld C.x C.b hX hbl hbA hS (sc_in hlt 3 (by decide)) dL_law_1191 ?_
      obtain ⟨r, μ1, μ2, e1, e2, hv2⟩ := st_book hv (xs (nI i + 1).toNatClampNeg) (xs (nI i + 2).toNatClampNeg) (xs (nI i + 3).toNatClampNeg)
      refine l_vi (k := 0) (as := [.int (xs (nI i + 1).toNatClampNeg), .int (xs (nI i + 2).toNatClampNeg), .int (xs (nI i + 3).toNatClampNeg)]) (rest := []) (c_X8_book C.i e1) M_X8_book u4_38 C hP hS hAw sh_0 rfl rfl (by decide) hl.1 rfl (Nat.le_of_ble_eq_true rfl) hcs dL_law_1192 (fun H locs hP hS => ?_)
      refine lv_aload_n C.x C.b dL_law_1195 rfl (lv_at hl 2 rfl) ?_
      refine lv_aload_n C.x C.b dL_law_1196 rfl (lv_at hl 0 rfl) ?_
      refine lv_iload_n C.x C.b dL_law_1197 rfl (lv_at hl 3 rfl) ?_
      refine lv_iconst (v := 1) C.x C.b dL_law_1198 (by decide) ?_
      refine lv_iadd C.x C.b dL_law_1199 ?_
      refine va_sld C.x C.b hX hbl hbA hS (sc_in hlt 1 (by decide)) dL_law_1200 ?_
      refine lv_aload_n C.x C.b dL_law_1201 rfl (lv_at hl 0 rfl) ?_
      refine lv_iload_n C.x C.b dL_law_1202 rfl (lv_at hl 3 rfl) ?_
      refine lv_iconst (v := 2) C.x C.b dL_law_1203 (by decide) ?_
      refine lv_iadd C.x C.b dL_law_1204 ?_
      refine va_sld C.x C.b hX hbl hbA hS (sc_in hlt 2 (by decide)) dL_law_1205 ?_
      refine lv_aload_n C.x C.b dL_law_1206 rfl (lv_at hl 0 rfl) ?_
      refine lv_iload_n C.x C.b dL_law_1207 rfl (lv_at hl 3 rfl) ?_
      refine lv_iconst (v := 3) C.x C.b dL_law_1208 (by decide) ?_
      refine lv_iadd C.x C.b dL_law_1209 ?_
      refine va_sld C.x C.b hX hbl hbA hS (sc_in hlt 3 (by decide)) dL_law_1210 ?_
      refine l_vi (k := 122) (as := [.int (xs (nI i + 1).toNatClampNeg), .int (xs (nI i + 2).toNatClampNeg), .int (xs (nI i + 3).toNatClampNeg)]) (rest := [.int r]) (c_X9_book C.i e2) M_X9_book u6_146 C hP hS hAw sh_122 rfl rfl (by decide) hl.1 rfl (Nat.le_of_ble_eq_true rfl) hcs dL_law_1211 (fun H locs hP hS => ?_)
      refine lv_icmp_eq (tgt := 1527) C.x C.b dL_law_1214 (by decide) (fun _ => ?_) (fun c1 => absurd rfl c1)
      exact tail μ2 hv2 H locs ls hP hS hl
    by_cases s30 : sel = 30
    · refine lv_tableIn (off := 1186) (tgt := 1219) C.x C.b dL_law_33 (by rw [s30]; decide) (by rw [s30]; decide) (by rw [s30]; rfl) (by decide) ?_
      clear s30
      refine lv_aload_n C.x C.b dL_law_1219 rfl (lv_at hl 1 rfl) ?_
      obtain ⟨r, e1, e2⟩ := st_looked hv 
      refine l_vi (k := 0) (as := []) (rest := []) (c_X8_looked C.i e1) M_X8_looked u4_42 C hP hS hAw sh_0 rfl rfl (by decide) hl.1 rfl (Nat.le_of_ble_eq_true rfl) hcs dL_law_1220 (fun H locs hP hS => ?_)
      refine lv_aload_n C.x C.b dL_law_1223 rfl (lv_at hl 2 rfl) ?_
      refine l_vi (k := 122) (as := []) (rest := [.int r]) (c_X9_looked C.i e2) M_X9_looked u6_150 C hP hS hAw sh_122 rfl rfl (by decide) hl.1 rfl (Nat.le_of_ble_eq_true rfl) hcs dL_law_1224 (fun H locs hP hS => ?_)
      refine lv_icmp_eq (tgt := 1527) C.x C.b dL_law_1227 (by decide) (fun _ => ?_) (fun c1 => absurd rfl c1)
      exact tail μ hv H locs ls hP hS hl
    by_cases s31 : sel = 31
    · refine lv_tableIn (off := 1199) (tgt := 1232) C.x C.b dL_law_33 (by rw [s31]; decide) (by rw [s31]; decide) (by rw [s31]; rfl) (by decide) ?_
      clear s31
      refine lv_aload_n C.x C.b dL_law_1232 rfl (lv_at hl 1 rfl) ?_
      refine lv_aload_n C.x C.b dL_law_1233 rfl (lv_at hl 0 rfl) ?_
      refine lv_iload_n C.x C.b dL_law_1234 rfl (lv_at hl 3 rfl) ?_
      refine lv_iconst (v := 1) C.x C.b dL_law_1235 (by decide) ?_
      refine lv_iadd C.x C.b dL_law_1236 ?_
      refine va_sld C.x C.b hX hbl hbA hS (sc_in hlt 1 (by decide)) dL_law_1237 ?_
      refine lv_aload_n C.x C.b dL_law_1238 rfl (lv_at hl 0 rfl) ?_
      refine lv_iload_n C.x C.b dL_law_1239 rfl (lv_at hl 3 rfl) ?_
      refine lv_iconst (v := 2) C.x C.b dL_law_1240 (by decide) ?_
      refine lv_iadd C.x C.b dL_law_1241 ?_
      refine va_sld C.x C.b hX hbl hbA hS (sc_in hlt 2 (by decide)) dL_law_1242 ?_
      obtain ⟨r, e1, e2⟩ := st_judge hv (xs (nI i + 1).toNatClampNeg) (xs (nI i + 2).toNatClampNeg)
      refine l_vi (k := 0) (as := [.int (xs (nI i + 1).toNatClampNeg), .int (xs (nI i + 2).toNatClampNeg)]) (rest := []) (c_X8_judge C.i e1) M_X8_judge u4_46 C hP hS hAw sh_0 rfl rfl (by decide) hl.1 rfl (Nat.le_of_ble_eq_true rfl) hcs dL_law_1243 (fun H locs hP hS => ?_)
      refine lv_aload_n C.x C.b dL_law_1246 rfl (lv_at hl 2 rfl) ?_
      refine lv_aload_n C.x C.b dL_law_1247 rfl (lv_at hl 0 rfl) ?_
      refine lv_iload_n C.x C.b dL_law_1248 rfl (lv_at hl 3 rfl) ?_
      refine lv_iconst (v := 1) C.x C.b dL_law_1249 (by decide) ?_
      refine lv_iadd C.x C.b dL_law_1250 ?_
      refine va_sld C.x C.b hX hbl hbA hS (sc_in hlt 1 (by decide)) dL_law_1251 ?_
      refine lv_aload_n C.x C.b dL_law_1252 rfl (lv_at hl 0 rfl) ?_
      refine lv_iload_n C.x C.b dL_law_1253 rfl (lv_at hl 3 rfl) ?_
      refine lv_iconst (v := 2) C.x C.b dL_law_1254 (by decide) ?_
      refine lv_iadd C.x C.b dL_law_1255 ?_
      refine va_sld C.x C.b hX hbl hbA hS (sc_in hlt 2 (by decide)) dL_law_1256 ?_
      refine l_vi (k := 122) (as := [.int (xs (nI i + 1).toNatClampNeg), .int (xs (nI i + 2).toNatClampNeg)]) (rest := [.int r]) (c_X9_judge C.i e2) M_X9_judge u6_154 C hP hS hAw sh_122 rfl rfl (by decide) hl.1 rfl (Nat.le_of_ble_eq_true rfl) hcs dL_law_1257 (fun H locs hP hS => ?_)
      refine lv_icmp_eq (tgt := 1527) C.x C.b dL_law_1260 (by decide) (fun _ => ?_) (fun c1 => absurd rfl c1)
      exact tail μ hv H locs ls hP hS hl
    by_cases s32 : sel = 32
    · refine lv_tableIn (off := 1232) (tgt := 1265) C.x C.b dL_law_33 (by rw [s32]; decide) (by rw [s32]; decide) (by rw [s32]; rfl) (by decide) ?_
      clear s32
      refine lv_aload_n C.x C.b dL_law_1265 rfl (lv_at hl 1 rfl) ?_
      obtain ⟨r, μ1, μ2, e1, e2, hv2⟩ := st_image hv 
      refine l_vi (k := 0) (as := []) (rest := []) (c_X8_image C.i e1) M_X8_image u4_61 C hP hS hAw sh_0 rfl rfl (by decide) hl.1 rfl (Nat.le_of_ble_eq_true rfl) hcs dL_law_1266 (fun H locs hP hS => ?_)
      refine lv_aload_n C.x C.b dL_law_1269 rfl (lv_at hl 2 rfl) ?_
      refine l_vi (k := 122) (as := []) (rest := [.int r]) (c_X9_image C.i e2) M_X9_image u5_43 C hP hS hAw sh_122 rfl rfl (by decide) hl.1 rfl (Nat.le_of_ble_eq_true rfl) hcs dL_law_1270 (fun H locs hP hS => ?_)
      refine lv_icmp_eq (tgt := 1527) C.x C.b dL_law_1273 (by decide) (fun _ => ?_) (fun c1 => absurd rfl c1)
      exact tail μ2 hv2 H locs ls hP hS hl
    by_cases s33 : sel = 33
    · refine lv_tableIn (off := 1245) (tgt := 1278) C.x C.b dL_law_33 (by rw [s33]; decide) (by rw [s33]; decide) (by rw [s33]; rfl) (by decide) ?_
      clear s33
      refine lv_aload_n C.x C.b dL_law_1278 rfl (lv_at hl 1 rfl) ?_
      obtain ⟨r, μ1, μ2, e1, e2, hv2⟩ := st_undo hv 
      refine l_vi (k := 0) (as := []) (rest := []) (c_X8_undo C.i e1) M_X8_undo u4_76 C hP hS hAw sh_0 rfl rfl (by decide) hl.1 rfl (Nat.le_of_ble_eq_true rfl) hcs dL_law_1279 (fun H locs hP hS => ?_)
      refine lv_aload_n C.x C.b dL_law_1282 rfl (lv_at hl 2 rfl) ?_
      refine l_vi (k := 122) (as := []) (rest := [.int r]) (c_X9_undo C.i e2) M_X9_undo u5_59 C hP hS hAw sh_122 rfl rfl (by decide) hl.1 rfl (Nat.le_of_ble_eq_true rfl) hcs dL_law_1283 (fun H locs hP hS => ?_)
      refine lv_icmp_eq (tgt := 1527) C.x C.b dL_law_1286 (by decide) (fun _ => ?_) (fun c1 => absurd rfl c1)
      exact tail μ2 hv2 H locs ls hP hS hl
    by_cases s34 : sel = 34
    · refine lv_tableIn (off := 1258) (tgt := 1291) C.x C.b dL_law_33 (by rw [s34]; decide) (by rw [s34]; decide) (by rw [s34]; rfl) (by decide) ?_
      clear s34
      refine lv_aload_n C.x C.b dL_law_1291 rfl (lv_at hl 1 rfl) ?_
      refine lv_aload_n C.x C.b dL_law_1292 rfl (lv_at hl 0 rfl) ?_
      refine lv_iload_n C.x C.b dL_law_1293 rfl (lv_at hl 3 rfl) ?_
      refine lv_iconst (v := 1) C.x C.b dL_law_1294 (by decide) ?_
      refine lv_iadd C.x C.b dL_law_1295 ?_
      refine va_sld C.x C.b hX hbl hbA hS (sc_in hlt 1 (by decide)) dL_law_1296 ?_
      obtain ⟨r, e1, e2⟩ := st_count hv (xs (nI i + 1).toNatClampNeg)
      refine l_vi (k := 0) (as := [.int (xs (nI i + 1).toNatClampNeg)]) (rest := []) (c_X8_count C.i e1) M_X8_count u4_80 C hP hS hAw sh_0 rfl rfl (by decide) hl.1 rfl (Nat.le_of_ble_eq_true rfl) hcs dL_law_1297 (fun H locs hP hS => ?_)
      refine lv_aload_n C.x C.b dL_law_1300 rfl (lv_at hl 2 rfl) ?_
      refine lv_aload_n C.x C.b dL_law_1301 rfl (lv_at hl 0 rfl) ?_
      refine lv_iload_n C.x C.b dL_law_1302 rfl (lv_at hl 3 rfl) ?_
      refine lv_iconst (v := 1) C.x C.b dL_law_1303 (by decide) ?_
      refine lv_iadd C.x C.b dL_law_1304 ?_
      refine va_sld C.x C.b hX hbl hbA hS (sc_in hlt 1 (by decide)) dL_law_1305 ?_
      refine l_vi (k := 122) (as := [.int (xs (nI i + 1).toNatClampNeg)]) (rest := [.int r]) (c_X9_count C.i e2) M_X9_count u6_162 C hP hS hAw sh_122 rfl rfl (by decide) hl.1 rfl (Nat.le_of_ble_eq_true rfl) hcs dL_law_1306 (fun H locs hP hS => ?_)
      refine lv_icmp_eq (tgt := 1527) C.x C.b dL_law_1309 (by decide) (fun _ => ?_) (fun c1 => absurd rfl c1)
      exact tail μ hv H locs ls hP hS hl
    by_cases s35 : sel = 35
    · refine lv_tableIn (off := 1281) (tgt := 1314) C.x C.b dL_law_33 (by rw [s35]; decide) (by rw [s35]; decide) (by rw [s35]; rfl) (by decide) ?_
      clear s35
      refine lv_aload_n C.x C.b dL_law_1314 rfl (lv_at hl 1 rfl) ?_
      refine lv_aload_n C.x C.b dL_law_1315 rfl (lv_at hl 0 rfl) ?_
      refine lv_iload_n C.x C.b dL_law_1316 rfl (lv_at hl 3 rfl) ?_
      refine lv_iconst (v := 1) C.x C.b dL_law_1317 (by decide) ?_
      refine lv_iadd C.x C.b dL_law_1318 ?_
      refine va_sld C.x C.b hX hbl hbA hS (sc_in hlt 1 (by decide)) dL_law_1319 ?_
      refine lv_aload_n C.x C.b dL_law_1320 rfl (lv_at hl 0 rfl) ?_
      refine lv_iload_n C.x C.b dL_law_1321 rfl (lv_at hl 3 rfl) ?_
      refine lv_iconst (v := 2) C.x C.b dL_law_1322 (by decide) ?_
      refine lv_iadd C.x C.b dL_law_1323 ?_
      refine va_sld C.x C.b hX hbl hbA hS (sc_in hlt 2 (by decide)) dL_law_1324 ?_
      refine lv_aload_n C.x C.b dL_law_1325 rfl (lv_at hl 0 rfl) ?_
      refine lv_iload_n C.x C.b dL_law_1326 rfl (lv_at hl 3 rfl) ?_
      refine lv_iconst (v := 3) C.x C.b dL_law_1327 (by decide) ?_
      refine lv_iadd C.x C.b dL_law_1328 ?_
      refine va_sld C.x C.b hX hbl hbA hS (sc_in hlt 3 (by decide)) dL_law_1329 ?_
      obtain ⟨r, μ1, μ2, e1, e2, hv2⟩ := st_tape hv (xs (nI i + 1).toNatClampNeg) (xs (nI i + 2).toNatClampNeg) (xs (nI i + 3).toNatClampNeg)
      refine l_vi (k := 0) (as := [.int (xs (nI i + 1).toNatClampNeg), .int (xs (nI i + 2).toNatClampNeg), .int (xs (nI i + 3).toNatClampNeg)]) (rest := []) (c_X8_tape C.i e1) M_X8_tape u4_88 C hP hS hAw sh_0 rfl rfl (by decide) hl.1 rfl (Nat.le_of_ble_eq_true rfl) hcs dL_law_1330 (fun H locs hP hS => ?_)
      refine lv_aload_n C.x C.b dL_law_1333 rfl (lv_at hl 2 rfl) ?_
      refine lv_aload_n C.x C.b dL_law_1334 rfl (lv_at hl 0 rfl) ?_
      refine lv_iload_n C.x C.b dL_law_1335 rfl (lv_at hl 3 rfl) ?_
      refine lv_iconst (v := 1) C.x C.b dL_law_1336 (by decide) ?_
      refine lv_iadd C.x C.b dL_law_1337 ?_
      refine va_sld C.x C.b hX hbl hbA hS (sc_in hlt 1 (by decide)) dL_law_1338 ?_
      refine lv_aload_n C.x C.b dL_law_1339 rfl (lv_at hl 0 rfl) ?_
      refine lv_iload_n C.x C.b dL_law_1340 rfl (lv_at hl 3 rfl) ?_
      refine lv_iconst (v := 2) C.x C.b dL_law_1341 (by decide) ?_
      refine lv_iadd C.x C.b dL_law_1342 ?_
      refine va_sld C.x C.b hX hbl hbA hS (sc_in hlt 2 (by decide)) dL_law_1343 ?_
      refine lv_aload_n C.x C.b dL_law_1344 rfl (lv_at hl 0 rfl) ?_
      refine lv_iload_n C.x C.b dL_law_1345 rfl (lv_at hl 3 rfl) ?_
      refine lv_iconst (v := 3) C.x C.b dL_law_1346 (by decide) ?_
      refine lv_iadd C.x C.b dL_law_1347 ?_
      refine va_sld C.x C.b hX hbl hbA hS (sc_in hlt 3 (by decide)) dL_law_1348 ?_
      refine l_vi (k := 122) (as := [.int (xs (nI i + 1).toNatClampNeg), .int (xs (nI i + 2).toNatClampNeg), .int (xs (nI i + 3).toNatClampNeg)]) (rest := [.int r]) (c_X9_tape C.i e2) M_X9_tape u6_170 C hP hS hAw sh_122 rfl rfl (by decide) hl.1 rfl (Nat.le_of_ble_eq_true rfl) hcs dL_law_1349 (fun H locs hP hS => ?_)
      refine lv_icmp_eq (tgt := 1527) C.x C.b dL_law_1352 (by decide) (fun _ => ?_) (fun c1 => absurd rfl c1)
      exact tail μ2 hv2 H locs ls hP hS hl
    by_cases s36 : sel = 36
    · refine lv_tableIn (off := 1324) (tgt := 1357) C.x C.b dL_law_33 (by rw [s36]; decide) (by rw [s36]; decide) (by rw [s36]; rfl) (by decide) ?_
      clear s36
      refine lv_aload_n C.x C.b dL_law_1357 rfl (lv_at hl 1 rfl) ?_
      refine lv_aload_n C.x C.b dL_law_1358 rfl (lv_at hl 0 rfl) ?_
      refine lv_iload_n C.x C.b dL_law_1359 rfl (lv_at hl 3 rfl) ?_
      refine lv_iconst (v := 1) C.x C.b dL_law_1360 (by decide) ?_
      refine lv_iadd C.x C.b dL_law_1361 ?_
      refine va_sld C.x C.b hX hbl hbA hS (sc_in hlt 1 (by decide)) dL_law_1362 ?_
      refine lv_aload_n C.x C.b dL_law_1363 rfl (lv_at hl 0 rfl) ?_
      refine lv_iload_n C.x C.b dL_law_1364 rfl (lv_at hl 3 rfl) ?_
      refine lv_iconst (v := 2) C.x C.b dL_law_1365 (by decide) ?_
      refine lv_iadd C.x C.b dL_law_1366 ?_
      refine va_sld C.x C.b hX hbl hbA hS (sc_in hlt 2 (by decide)) dL_law_1367 ?_
      refine lv_aload_n C.x C.b dL_law_1368 rfl (lv_at hl 0 rfl) ?_
      refine lv_iload_n C.x C.b dL_law_1369 rfl (lv_at hl 3 rfl) ?_
      refine lv_iconst (v := 3) C.x C.b dL_law_1370 (by decide) ?_
      refine lv_iadd C.x C.b dL_law_1371 ?_
      refine va_sld C.x C.b hX hbl hbA hS (sc_in hlt 3 (by decide)) dL_law_1372 ?_
      refine lv_i2l (v := Int32.toInt64 (xs (nI i + 3).toNatClampNeg)) C.x C.b dL_law_1373 rfl ?_
      refine lv_bipush (v := 32) C.x C.b dL_law_1374 (by decide) ?_
      refine lv_lshl (v := ((Int32.toInt64 (xs (nI i + 3).toNatClampNeg)) <<< (((32 : Int32).toInt64) &&& 63))) C.x C.b dL_law_1376 rfl ?_
      refine lv_aload_n C.x C.b dL_law_1377 rfl (lv_at hl 0 rfl) ?_
      refine lv_iload_n C.x C.b dL_law_1378 rfl (lv_at hl 3 rfl) ?_
      refine lv_iconst (v := 4) C.x C.b dL_law_1379 (by decide) ?_
      refine lv_iadd C.x C.b dL_law_1380 ?_
      refine va_sld C.x C.b hX hbl hbA hS (sc_in hlt 4 (by decide)) dL_law_1381 ?_
      refine lv_i2l (v := Int32.toInt64 (xs (nI i + 4).toNatClampNeg)) C.x C.b dL_law_1382 rfl ?_
      refine lv_ldc2 (own := RL) (v := 4294967295) C.x C.b C.o (C.t _ u6_191) dL_law_1383 ?_
      refine lv_land C.x C.b dL_law_1386 ?_
      refine lv_lor C.x C.b dL_law_1387 ?_
      obtain ⟨r, μ1, μ2, e1, e2, hv2⟩ := st_item hv (xs (nI i + 1).toNatClampNeg) (xs (nI i + 2).toNatClampNeg) (((Int32.toInt64 (xs (nI i + 3).toNatClampNeg)) <<< (((32 : Int32).toInt64) &&& 63)) ||| ((Int32.toInt64 (xs (nI i + 4).toNatClampNeg)) &&& 4294967295))
      refine l_vi (k := 0) (as := [.int (xs (nI i + 1).toNatClampNeg), .int (xs (nI i + 2).toNatClampNeg), .long (((Int32.toInt64 (xs (nI i + 3).toNatClampNeg)) <<< (((32 : Int32).toInt64) &&& 63)) ||| ((Int32.toInt64 (xs (nI i + 4).toNatClampNeg)) &&& 4294967295))]) (rest := []) (c_X8_item C.i e1) M_X8_item u4_99 C hP hS hAw sh_0 rfl rfl (by decide) hl.1 rfl (Nat.le_of_ble_eq_true rfl) hcs dL_law_1388 (fun H locs hP hS => ?_)
      refine lv_aload_n C.x C.b dL_law_1391 rfl (lv_at hl 2 rfl) ?_
      refine lv_aload_n C.x C.b dL_law_1392 rfl (lv_at hl 0 rfl) ?_
      refine lv_iload_n C.x C.b dL_law_1393 rfl (lv_at hl 3 rfl) ?_
      refine lv_iconst (v := 1) C.x C.b dL_law_1394 (by decide) ?_
      refine lv_iadd C.x C.b dL_law_1395 ?_
      refine va_sld C.x C.b hX hbl hbA hS (sc_in hlt 1 (by decide)) dL_law_1396 ?_
      refine lv_aload_n C.x C.b dL_law_1397 rfl (lv_at hl 0 rfl) ?_
      refine lv_iload_n C.x C.b dL_law_1398 rfl (lv_at hl 3 rfl) ?_
      refine lv_iconst (v := 2) C.x C.b dL_law_1399 (by decide) ?_
      refine lv_iadd C.x C.b dL_law_1400 ?_
      refine va_sld C.x C.b hX hbl hbA hS (sc_in hlt 2 (by decide)) dL_law_1401 ?_
      refine lv_aload_n C.x C.b dL_law_1402 rfl (lv_at hl 0 rfl) ?_
      refine lv_iload_n C.x C.b dL_law_1403 rfl (lv_at hl 3 rfl) ?_
      refine lv_iconst (v := 3) C.x C.b dL_law_1404 (by decide) ?_
      refine lv_iadd C.x C.b dL_law_1405 ?_
      refine va_sld C.x C.b hX hbl hbA hS (sc_in hlt 3 (by decide)) dL_law_1406 ?_
      refine lv_i2l (v := Int32.toInt64 (xs (nI i + 3).toNatClampNeg)) C.x C.b dL_law_1407 rfl ?_
      refine lv_bipush (v := 32) C.x C.b dL_law_1408 (by decide) ?_
      refine lv_lshl (v := ((Int32.toInt64 (xs (nI i + 3).toNatClampNeg)) <<< (((32 : Int32).toInt64) &&& 63))) C.x C.b dL_law_1410 rfl ?_
      refine lv_aload_n C.x C.b dL_law_1411 rfl (lv_at hl 0 rfl) ?_
      refine lv_iload_n C.x C.b dL_law_1412 rfl (lv_at hl 3 rfl) ?_
      refine lv_iconst (v := 4) C.x C.b dL_law_1413 (by decide) ?_
      refine lv_iadd C.x C.b dL_law_1414 ?_
      refine va_sld C.x C.b hX hbl hbA hS (sc_in hlt 4 (by decide)) dL_law_1415 ?_
      refine lv_i2l (v := Int32.toInt64 (xs (nI i + 4).toNatClampNeg)) C.x C.b dL_law_1416 rfl ?_
      refine lv_ldc2 (own := RL) (v := 4294967295) C.x C.b C.o (C.t _ u6_191) dL_law_1417 ?_
      refine lv_land C.x C.b dL_law_1420 ?_
      refine lv_lor C.x C.b dL_law_1421 ?_
      refine l_vi (k := 122) (as := [.int (xs (nI i + 1).toNatClampNeg), .int (xs (nI i + 2).toNatClampNeg), .long (((Int32.toInt64 (xs (nI i + 3).toNatClampNeg)) <<< (((32 : Int32).toInt64) &&& 63)) ||| ((Int32.toInt64 (xs (nI i + 4).toNatClampNeg)) &&& 4294967295))]) (rest := [.int r]) (c_X9_item C.i e2) M_X9_item u6_176 C hP hS hAw sh_122 rfl rfl (by decide) hl.1 rfl (Nat.le_of_ble_eq_true rfl) hcs dL_law_1422 (fun H locs hP hS => ?_)
      refine lv_icmp_eq (tgt := 1527) C.x C.b dL_law_1425 (by decide) (fun _ => ?_) (fun c1 => absurd rfl c1)
      exact tail μ2 hv2 H locs ls hP hS hl
    by_cases s37 : sel = 37
    · refine lv_tableIn (off := 1397) (tgt := 1430) C.x C.b dL_law_33 (by rw [s37]; decide) (by rw [s37]; decide) (by rw [s37]; rfl) (by decide) ?_
      clear s37
      refine lv_aload_n C.x C.b dL_law_1430 rfl (lv_at hl 1 rfl) ?_
      refine lv_aload_n C.x C.b dL_law_1431 rfl (lv_at hl 0 rfl) ?_
      refine lv_iload_n C.x C.b dL_law_1432 rfl (lv_at hl 3 rfl) ?_
      refine lv_iconst (v := 1) C.x C.b dL_law_1433 (by decide) ?_
      refine lv_iadd C.x C.b dL_law_1434 ?_
      refine va_sld C.x C.b hX hbl hbA hS (sc_in hlt 1 (by decide)) dL_law_1435 ?_
      refine lv_aload_n C.x C.b dL_law_1436 rfl (lv_at hl 0 rfl) ?_
      refine lv_iload_n C.x C.b dL_law_1437 rfl (lv_at hl 3 rfl) ?_
      refine lv_iconst (v := 2) C.x C.b dL_law_1438 (by decide) ?_
      refine lv_iadd C.x C.b dL_law_1439 ?_
      refine va_sld C.x C.b hX hbl hbA hS (sc_in hlt 2 (by decide)) dL_law_1440 ?_
      obtain ⟨r, e1, e2⟩ := st_peek hv (xs (nI i + 1).toNatClampNeg) (xs (nI i + 2).toNatClampNeg)
      refine l_vl (k := 0) (as := [.int (xs (nI i + 1).toNatClampNeg), .int (xs (nI i + 2).toNatClampNeg)]) (rest := []) (c_X8_peek C.i e1) M_X8_peek u4_111 C hP hS hAw sh_0 rfl rfl (by decide) hl.1 rfl (Nat.le_of_ble_eq_true rfl) hcs dL_law_1441 (fun H locs hP hS => ?_)
      refine lv_aload_n C.x C.b dL_law_1444 rfl (lv_at hl 2 rfl) ?_
      refine lv_aload_n C.x C.b dL_law_1445 rfl (lv_at hl 0 rfl) ?_
      refine lv_iload_n C.x C.b dL_law_1446 rfl (lv_at hl 3 rfl) ?_
      refine lv_iconst (v := 1) C.x C.b dL_law_1447 (by decide) ?_
      refine lv_iadd C.x C.b dL_law_1448 ?_
      refine va_sld C.x C.b hX hbl hbA hS (sc_in hlt 1 (by decide)) dL_law_1449 ?_
      refine lv_aload_n C.x C.b dL_law_1450 rfl (lv_at hl 0 rfl) ?_
      refine lv_iload_n C.x C.b dL_law_1451 rfl (lv_at hl 3 rfl) ?_
      refine lv_iconst (v := 2) C.x C.b dL_law_1452 (by decide) ?_
      refine lv_iadd C.x C.b dL_law_1453 ?_
      refine va_sld C.x C.b hX hbl hbA hS (sc_in hlt 2 (by decide)) dL_law_1454 ?_
      refine l_vl (k := 122) (as := [.int (xs (nI i + 1).toNatClampNeg), .int (xs (nI i + 2).toNatClampNeg)]) (rest := [.long r]) (c_X9_peek C.i e2) M_X9_peek u6_183 C hP hS hAw sh_122 rfl rfl (by decide) hl.1 rfl (Nat.le_of_ble_eq_true rfl) hcs dL_law_1455 (fun H locs hP hS => ?_)
      refine W.lcmp C.x C.b dL_law_1458 ?_
      rw [lg_cmp_self]
      refine lv_if_eq (tgt := 1527) C.x C.b dL_law_1459 (by decide) (fun _ => ?_) (fun c1 => absurd rfl c1)
      exact tail μ hv H locs ls hP hS hl
    by_cases s38 : sel = 38
    · refine lv_tableIn (off := 1431) (tgt := 1464) C.x C.b dL_law_33 (by rw [s38]; decide) (by rw [s38]; decide) (by rw [s38]; rfl) (by decide) ?_
      clear s38
      refine lv_aload_n C.x C.b dL_law_1464 rfl (lv_at hl 1 rfl) ?_
      refine lv_aload_n C.x C.b dL_law_1465 rfl (lv_at hl 0 rfl) ?_
      refine lv_iload_n C.x C.b dL_law_1466 rfl (lv_at hl 3 rfl) ?_
      refine lv_iconst (v := 1) C.x C.b dL_law_1467 (by decide) ?_
      refine lv_iadd C.x C.b dL_law_1468 ?_
      refine va_sld C.x C.b hX hbl hbA hS (sc_in hlt 1 (by decide)) dL_law_1469 ?_
      refine lv_aload_n C.x C.b dL_law_1470 rfl (lv_at hl 0 rfl) ?_
      refine lv_iload_n C.x C.b dL_law_1471 rfl (lv_at hl 3 rfl) ?_
      refine lv_iconst (v := 2) C.x C.b dL_law_1472 (by decide) ?_
      refine lv_iadd C.x C.b dL_law_1473 ?_
      refine va_sld C.x C.b hX hbl hbA hS (sc_in hlt 2 (by decide)) dL_law_1474 ?_
      refine lv_aload_n C.x C.b dL_law_1475 rfl (lv_at hl 0 rfl) ?_
      refine lv_iload_n C.x C.b dL_law_1476 rfl (lv_at hl 3 rfl) ?_
      refine lv_iconst (v := 3) C.x C.b dL_law_1477 (by decide) ?_
      refine lv_iadd C.x C.b dL_law_1478 ?_
      refine va_sld C.x C.b hX hbl hbA hS (sc_in hlt 3 (by decide)) dL_law_1479 ?_
      refine lv_aload_n C.x C.b dL_law_1480 rfl (lv_at hl 0 rfl) ?_
      refine lv_iload_n C.x C.b dL_law_1481 rfl (lv_at hl 3 rfl) ?_
      refine lv_iconst (v := 4) C.x C.b dL_law_1482 (by decide) ?_
      refine lv_iadd C.x C.b dL_law_1483 ?_
      refine va_sld C.x C.b hX hbl hbA hS (sc_in hlt 4 (by decide)) dL_law_1484 ?_
      refine lv_aload_n C.x C.b dL_law_1485 rfl (lv_at hl 0 rfl) ?_
      refine lv_iload_n C.x C.b dL_law_1486 rfl (lv_at hl 3 rfl) ?_
      refine lv_iconst (v := 5) C.x C.b dL_law_1487 (by decide) ?_
      refine lv_iadd C.x C.b dL_law_1488 ?_
      refine va_sld C.x C.b hX hbl hbA hS (sc_in hlt 5 (by decide)) dL_law_1489 ?_
      obtain ⟨r, μ1, μ2, e1, e2, hv2⟩ := st_shift hv (xs (nI i + 1).toNatClampNeg) (xs (nI i + 2).toNatClampNeg) (xs (nI i + 3).toNatClampNeg) (xs (nI i + 4).toNatClampNeg) (xs (nI i + 5).toNatClampNeg)
      refine l_vi (k := 0) (as := [.int (xs (nI i + 1).toNatClampNeg), .int (xs (nI i + 2).toNatClampNeg), .int (xs (nI i + 3).toNatClampNeg), .int (xs (nI i + 4).toNatClampNeg), .int (xs (nI i + 5).toNatClampNeg)]) (rest := []) (c_X8_shift C.i e1) M_X8_shift u4_115 C hP hS hAw sh_0 rfl rfl (by decide) hl.1 rfl (Nat.le_of_ble_eq_true rfl) hcs dL_law_1490 (fun H locs hP hS => ?_)
      refine lv_aload_n C.x C.b dL_law_1493 rfl (lv_at hl 2 rfl) ?_
      refine lv_aload_n C.x C.b dL_law_1494 rfl (lv_at hl 0 rfl) ?_
      refine lv_iload_n C.x C.b dL_law_1495 rfl (lv_at hl 3 rfl) ?_
      refine lv_iconst (v := 1) C.x C.b dL_law_1496 (by decide) ?_
      refine lv_iadd C.x C.b dL_law_1497 ?_
      refine va_sld C.x C.b hX hbl hbA hS (sc_in hlt 1 (by decide)) dL_law_1498 ?_
      refine lv_aload_n C.x C.b dL_law_1499 rfl (lv_at hl 0 rfl) ?_
      refine lv_iload_n C.x C.b dL_law_1500 rfl (lv_at hl 3 rfl) ?_
      refine lv_iconst (v := 2) C.x C.b dL_law_1501 (by decide) ?_
      refine lv_iadd C.x C.b dL_law_1502 ?_
      refine va_sld C.x C.b hX hbl hbA hS (sc_in hlt 2 (by decide)) dL_law_1503 ?_
      refine lv_aload_n C.x C.b dL_law_1504 rfl (lv_at hl 0 rfl) ?_
      refine lv_iload_n C.x C.b dL_law_1505 rfl (lv_at hl 3 rfl) ?_
      refine lv_iconst (v := 3) C.x C.b dL_law_1506 (by decide) ?_
      refine lv_iadd C.x C.b dL_law_1507 ?_
      refine va_sld C.x C.b hX hbl hbA hS (sc_in hlt 3 (by decide)) dL_law_1508 ?_
      refine lv_aload_n C.x C.b dL_law_1509 rfl (lv_at hl 0 rfl) ?_
      refine lv_iload_n C.x C.b dL_law_1510 rfl (lv_at hl 3 rfl) ?_
      refine lv_iconst (v := 4) C.x C.b dL_law_1511 (by decide) ?_
      refine lv_iadd C.x C.b dL_law_1512 ?_
      refine va_sld C.x C.b hX hbl hbA hS (sc_in hlt 4 (by decide)) dL_law_1513 ?_
      refine lv_aload_n C.x C.b dL_law_1514 rfl (lv_at hl 0 rfl) ?_
      refine lv_iload_n C.x C.b dL_law_1515 rfl (lv_at hl 3 rfl) ?_
      refine lv_iconst (v := 5) C.x C.b dL_law_1516 (by decide) ?_
      refine lv_iadd C.x C.b dL_law_1517 ?_
      refine va_sld C.x C.b hX hbl hbA hS (sc_in hlt 5 (by decide)) dL_law_1518 ?_
      refine l_vi (k := 122) (as := [.int (xs (nI i + 1).toNatClampNeg), .int (xs (nI i + 2).toNatClampNeg), .int (xs (nI i + 3).toNatClampNeg), .int (xs (nI i + 4).toNatClampNeg), .int (xs (nI i + 5).toNatClampNeg)]) (rest := [.int r]) (c_X9_shift C.i e2) M_X9_shift u6_187 C hP hS hAw sh_122 rfl rfl (by decide) hl.1 rfl (Nat.le_of_ble_eq_true rfl) hcs dL_law_1519 (fun H locs hP hS => ?_)
      refine lv_icmp_eq (tgt := 1527) C.x C.b dL_law_1522 (by decide) (fun _ => ?_) (fun c1 => absurd rfl c1)
      exact tail μ2 hv2 H locs ls hP hS hl
    have t0 := lv_neT (a := 0) s0 (by decide)
    have t1 := lv_neT (a := 1) s1 (by decide)
    have t2 := lv_neT (a := 2) s2 (by decide)
    have t3 := lv_neT (a := 3) s3 (by decide)
    have t4 := lv_neT (a := 4) s4 (by decide)
    have t5 := lv_neT (a := 5) s5 (by decide)
    have t6 := lv_neT (a := 6) s6 (by decide)
    have t7 := lv_neT (a := 7) s7 (by decide)
    have t8 := lv_neT (a := 8) s8 (by decide)
    have t9 := lv_neT (a := 9) s9 (by decide)
    have t10 := lv_neT (a := 10) s10 (by decide)
    have t11 := lv_neT (a := 11) s11 (by decide)
    have t12 := lv_neT (a := 12) s12 (by decide)
    have t13 := lv_neT (a := 13) s13 (by decide)
    have t14 := lv_neT (a := 14) s14 (by decide)
    have t15 := lv_neT (a := 15) s15 (by decide)
    have t16 := lv_neT (a := 16) s16 (by decide)
    have t17 := lv_neT (a := 17) s17 (by decide)
    have t18 := lv_neT (a := 18) s18 (by decide)
    have t19 := lv_neT (a := 19) s19 (by decide)
    have t20 := lv_neT (a := 20) s20 (by decide)
    have t21 := lv_neT (a := 21) s21 (by decide)
    have t22 := lv_neT (a := 22) s22 (by decide)
    have t23 := lv_neT (a := 23) s23 (by decide)
    have t24 := lv_neT (a := 24) s24 (by decide)
    have t25 := lv_neT (a := 25) s25 (by decide)
    have t26 := lv_neT (a := 26) s26 (by decide)
    have t27 := lv_neT (a := 27) s27 (by decide)
    have t28 := lv_neT (a := 28) s28 (by decide)
    have t29 := lv_neT (a := 29) s29 (by decide)
    have t30 := lv_neT (a := 30) s30 (by decide)
    have t31 := lv_neT (a := 31) s31 (by decide)
    have t32 := lv_neT (a := 32) s32 (by decide)
    have t33 := lv_neT (a := 33) s33 (by decide)
    have t34 := lv_neT (a := 34) s34 (by decide)
    have t35 := lv_neT (a := 35) s35 (by decide)
    have t36 := lv_neT (a := 36) s36 (by decide)
    have t37 := lv_neT (a := 37) s37 (by decide)
    have t38 := lv_neT (a := 38) s38 (by decide)
    refine lv_tableOut (tgt := 1527) C.x C.b dL_law_33 (by omega) (by decide) ?_
    exact tail μ hv H locs ls hP hS hl

set_option maxRecDepth 100000 in
set_option maxHeartbeats 8000000 in
/-- THE LAW, from its entry -/
theorem whole_start {p : Program} {e : Env} {s : State} {m : MethodId} {below : List Frame} {meth : Method} {c : Code} (l : Launch) (hflags : l.flags = flags0) {b L : Nat} {xs : Nat → Int32} (hL : L ≤ 3072) (C0 : lw_At p s m meth c b L xs) : W p l e room_1 s m #[Value.ref b] below meth c s.heap [] 0 0 (lw_Z below #[Value.ref b] s) (entryFrame m ([Value.ref b] : List Value).toArray 4) := by
  obtain ⟨hx, hb, hr, hml, hown, hts, hX, hbl, hlocks, hgv⟩ := id C0
  obtain ⟨DD, cy, hK⟩ := law_KD hts
  have C : Cg p s m #[Value.ref b] meth c cL_law 4 RL DD cy (fun q : Nat => s.heap.size ≤ q) := ⟨hx, hb, hml, hown, UU_hts hts, hK, fun _ h => h⟩
  have hS : va_S (fun q : Nat => s.heap.size ≤ q) s.heap s.heap [] := va_S.rf
  have hP : va_P DD vwCl [] s.heap := fun k q h => by simp at h
  have hD : va_D (fun q : Nat => s.heap.size ≤ q) [] := ⟨fun i j p q h => by simp at h, fun k q h => by simp at h⟩
  have hl := lv_entry ([.ref b]) (n := 4) (Nat.le_of_ble_eq_true rfl)
  rw [lg_entry_eq]
  generalize (lg_sl ([.ref b]) ++ List.replicate (4 - (lg_sl ([.ref b])).length) Slot.unset).toArray = ls at hl ⊢
  have hl : lv_has ls 4 [(0, .ref b)] := hl
  show W p l e (rmc 10 380 600000 7302250) s m #[Value.ref b] below meth c s.heap [] 0 0 (lw_Z below #[Value.ref b] s) (F0 m 0 ls [])
  refine n_obj (ci := 8) (dflt := [.null, .null, .int 0, .null, .null, .null, .null]) (cells' := 1) (slots' := 7) C rfl cw8 tyX8 tyX8_ok (fun j hj => dfl_8 j hj) u1_15 u1_16 u1_1 rfl rfl (Nat.le_of_ble_eq_true rfl) (Nat.le_of_ble_eq_true rfl) hP hD hS dL_law_0 (fun q8 H hP hD hS => ?_)
  refine lv_dup C.x C.b dL_law_3 rfl ?_
  refine k_new (q := q8) (as := []) (cells' := 122) (slots' := 2454) (rest := [.ref q8]) (n_X8) MN_X8 u1_17 C hP hD hS rfl (by decide) hl.1 rfl (Nat.le_of_ble_eq_true rfl) rfl rfl (Nat.le_of_ble_eq_true rfl) (Nat.le_of_ble_eq_true rfl) dL_law_4 (fun adS H locs had8 hP1 hD1 hS1 => ?_)
  subst had8; have hP := hP1; have hD := hD1; have hS := hS1; clear hP1 hD1 hS1
  refine lv_astore_n (lv' := [(1, .ref (adS 0)), (0, .ref b)]) C.x C.b dL_law_7 rfl hl (by decide) rfl (fun ls hl => ?_)
  refine n_obj (ci := 9) (dflt := [.int 0, .int 0, .null, .null, .null, .null, .int 0, .int 0, .int 0, .int 0, .null, .null, .null, .null, .null, .null, .null, .null, .null, .null, .int 0, .int 0, .int 0, .null, .int 0, .null, .int 0, .int 0, .int 0, .null, .int 0, .int 0, .int 0, .int 0, .int 0, .null, .null, .null, .null, .null, .null, .int 0, .int 0, .null, .null, .null, .null, .null, .null, .null, .null]) (cells' := 123) (slots' := 2505) C rfl cw9 tyX9 tyX9_ok (fun j hj => dfl_9 j hj) u4_121 u4_122 u1_12 rfl rfl (Nat.le_of_ble_eq_true rfl) (Nat.le_of_ble_eq_true rfl) hP hD hS dL_law_8 (fun q9 H hP hD hS => ?_)
  refine lv_dup C.x C.b dL_law_11 rfl ?_
  refine k_new (q := q9) (as := []) (cells' := 160) (slots' := 4767) (rest := [.ref q9]) (n_X9) MN_X9 u4_123 C hP hD hS rfl (by decide) hl.1 rfl (Nat.le_of_ble_eq_true rfl) rfl rfl (Nat.le_of_ble_eq_true rfl) (Nat.le_of_ble_eq_true rfl) dL_law_12 (fun adM H locs had9 hP1 hD1 hS1 => ?_)
  subst had9; have hP := hP1; have hD := hD1; have hS := hS1; clear hP1 hD1 hS1
  refine lv_astore_n (lv' := [(2, .ref (adM 0)), (1, .ref (adS 0)), (0, .ref b)]) C.x C.b dL_law_15 rfl hl (by decide) rfl (fun ls hl => ?_)
  refine lv_iconst (v := 0) C.x C.b dL_law_16 (by decide) ?_
  refine lv_istore_n (lv' := [(3, .int 0), (2, .ref (adM 0)), (1, .ref (adS 0)), (0, .ref b)]) C.x C.b dL_law_17 rfl hl (by decide) rfl (fun ls hl => ?_)
  rw [List.nil_append, wl_join] at hP hD
  have hI : Wi (DD, cy, ADj adS adM) := by
    intro i j hi hj hij
    have gi : ∀ k, k < shp.length → ∃ x, (wl (DD, cy, ADj adS adM) mu0)[k]? = some (ADj adS adM k, x) := fun k hk => ⟨_, wl_get (G := (DD, cy, ADj adS adM)) (μ := mu0) (List.getElem?_eq_getElem hk)⟩
    obtain ⟨x, hx⟩ := gi i hi
    obtain ⟨y, hy⟩ := gi j hj
    exact hD.1 i j _ _ hx hy hij
  have hAw : ∀ q, wA (DD, cy, ADj adS adM) q → s.heap.size ≤ q := by
    intro q hq
    obtain ⟨k, hk, rfl⟩ := hq
    exact hD.2 k (ADj adS adM k, _) (wl_get (G := (DD, cy, ADj adS adM)) (μ := mu0) (List.getElem?_eq_getElem hk))
  have C2 : Cx p s m #[Value.ref b] meth c cL_law 4 RL ret (DD, cy, ADj adS adM) := ⟨hx, hb, hml, hown, UU_hts hts, hr, hlocks, hK.1, hI⟩
  exact law_loop hL C2 hX hbl hAw 513 0 (by omega) (Nat.zero_le L) mu0 Inv_mu0 _ _ _ hP hS (lv_sub hl [3, 2, 1, 0] rfl)
