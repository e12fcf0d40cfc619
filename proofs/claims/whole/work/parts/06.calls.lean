/-! returns, calls, the entry -/
section CALLS
variable {p : Program} {l : Launch} {e : Env} {s : State} {m : MethodId} {args : Array Value} {below : List Frame} {meth : Method} {c : Code} {H : Heap} {locs : List Loc} {Q : State → Prop}
variable {cc : ByteArray} {nL : Nat} {own : String} {ret : Option FieldType} {G : Gp} {μ : Mem} {fr lo : Nat}
variable {pc : Nat} {ls : Array Slot} {rest st0 : List Value}
theorem r_i {R : Room} {v : Int32} {O : Int32 × Mem} (h : some (v, μ) = some O) (C : Cx p s m args meth c cc nL own (some .int) G) (hP : Wm G μ H) (hS : va_S (wA G) s.heap H locs) (hdg : decode cc pc = .ok (.ireturn, 1)) :
    W p l e R s m args below meth c H locs 0 0 (QI below args s G O) (F0 m pc ls [.int v]) := by
  cases h
  exact W.iret C.x C.b C.r (fun t ht hW => ⟨⟨v, (), rfl, rfl, by rw [ht]; exact hP, Kn.warm hW C.k⟩, hS.F ht⟩) hS.2.2 hdg C.nl
theorem r_z {R : Room} {v : Int32} {O : Int32 × Mem} (h : some (v, μ) = some O) (hv : isB v = true) (C : Cx p s m args meth c cc nL own (some .boolean) G) (hP : Wm G μ H) (hS : va_S (wA G) s.heap H locs) (hdg : decode cc pc = .ok (.ireturn, 1)) :
    W p l e R s m args below meth c H locs 0 0 (QI below args s G O) (F0 m pc ls [.int v]) := by
  cases h
  exact W.zret C.x C.b C.r (by rcases isB_cases hv with rfl | rfl <;> rfl) (fun t ht hW => ⟨⟨v, (), rfl, rfl, by rw [ht]; exact hP, Kn.warm hW C.k⟩, hS.F ht⟩) hS.2.2 hdg C.nl
theorem r_l {R : Room} {v : Int64} {O : Int64 × Mem} (h : some (v, μ) = some O) (C : Cx p s m args meth c cc nL own (some .long) G) (hP : Wm G μ H) (hS : va_S (wA G) s.heap H locs) (hdg : decode cc pc = .ok (.lreturn, 1)) :
    W p l e R s m args below meth c H locs 0 0 (QL below args s G O) (F0 m pc ls [.long v]) := by
  cases h
  exact W.lret C.x C.b C.r (fun t ht hW => ⟨⟨v, (), rfl, rfl, by rw [ht]; exact hP, Kn.warm hW C.k⟩, hS.F ht⟩) hS.2.2 hdg C.nl
theorem r_v {R : Room} {O : Mem} (h : some μ = some O) (C : Cx p s m args meth c cc nL own none G) (hP : Wm G μ H) (hS : va_S (wA G) s.heap H locs) (hdg : decode cc pc = .ok (.return_, 1)) :
    W p l e R s m args below meth c H locs 0 0 (QV below args s G O) (F0 m pc ls []) := by
  cases h
  exact W.vret C.x C.b C.r (fun t ht hW => ⟨⟨(), rfl, trivial, by rw [ht]; exact hP, Kn.warm hW C.k⟩, hS.F ht⟩) hS.2.2 hdg C.nl
theorem r_a {R : Room} {k : Nat} {O : Nat × Mem} {ty : FieldType} (h : some (k, μ) = some O) (C : Cx p s m args meth c cc nL own (some (.array ty)) G) (hP : Wm G μ H) (hS : va_S (wA G) s.heap H locs) (hdg : decode cc pc = .ok (.areturn, 1)) :
    W p l e R s m args below meth c H locs 0 0 (QR below args s G O) (F0 m pc ls [.ref (G.2.2 k)]) := by
  cases h
  exact W.aret C.x C.b C.r (Or.inr ⟨ty, rfl⟩) (Or.inr ⟨_, rfl⟩) (fun t ht hW => ⟨⟨(), _, rfl, trivial, rfl, by rw [ht]; exact hP, Kn.warm hW C.k⟩, hS.F ht⟩) hS.2.2 hdg C.nl
/-- what the tables say of an instance method, a static one, with n arguments -/
def MV (y : MethodName) (cy : ByteArray) (cn : Nat) (ret' : Option FieldType) (n : Nat) : Prop :=
  Cond.instanceMethod y ∈ UU ∧ Cond.selects y.cls y y ∈ UU ∧ Cond.initialized y.cls ∈ UU ∧ Cond.code y cy cn ret' ∈ UU ∧ y.cls ≠ "java/lang/invoke/MethodHandle" ∧ y.cls ≠ "java/lang/invoke/VarHandle" ∧ (parseMethodDescriptor y.desc).map (fun d => d.parameters.length) = some n
def MS (y : MethodName) (cy : ByteArray) (cn : Nat) (ret' : Option FieldType) (n : Nat) : Prop :=
  Cond.static y ∈ UU ∧ Cond.initialized y.cls ∈ UU ∧ Cond.code y cy cn ret' ∈ UU ∧ y.cls ≠ "java/lang/invoke/MethodHandle" ∧ y.cls ≠ "java/lang/invoke/VarHandle" ∧ (parseMethodDescriptor y.desc).map (fun d => d.parameters.length) = some n
theorem gv_U {idx cn : Nat} {y : MethodName} {cy : ByteArray} {ret' : Option FieldType} {n : Nat} (F : MV y cy cn ret' n) (u : Cond.methodLink own idx y ∈ UU) : GoodIn UU (wsV own idx y.cls y (wc y cy cn ret')) := by
  obtain ⟨f1, f2, f3, f4, -⟩ := F
  refine goodIn_U (fun w hw => ?_)
  simp only [wsV, List.mem_append, List.mem_cons, List.not_mem_nil, or_false] at hw
  rcases hw with (rfl | rfl | rfl | rfl) | rfl | hw
  · exact u
  · exact f1
  · exact f2
  · exact f3
  · exact f4
  · exact hw
theorem gs_U {cn : Nat} {y : MethodName} {cy : ByteArray} {ret' : Option FieldType} {n : Nat} (F : MS y cy cn ret' n) : GoodIn UU (wc y cy cn ret') := by
  refine goodIn_U (fun w hw => ?_)
  rcases List.mem_cons.mp hw with rfl | hw
  · exact F.2.2.1
  · exact hw
section V
variable {idx cn fr' lo' k n ci : Nat} {y : MethodName} {cy : ByteArray} {ret' : Option FieldType} {as : List Value} {μ1 : Mem} {fs : List (Option Nat)} {T : u_T} {N : Nat}
theorem k_vrun {Qc : Array Value → State → Outcome → State → Prop} (hM : Met l y (wc y cy cn ret') (rmm fr' lo') (va_Pc (.ref (G.2.2 k) :: as) (Wo G μ)) Qc 0 0 (wA G)) (F : MV y cy cn ret' n) (u : Cond.methodLink own idx y ∈ UU)
    (C : Cx p s m args meth c cc nL own ret G) (hP : Wm G μ H) (hk : shp[k]? = some (.inl (ci, fs))) (hci : vwCl[ci]? = some (y.cls, T, N)) (hn : as.length = n) (hR : fr' + 1 ≤ fr ∧ 8 + (cn + 11) + lo' ≤ lo) (hl : ls.size = nL) (hst : st0 = as.reverse ++ .ref (G.2.2 k) :: rest) (hW : (rest.map fun v => v.category).sum ≤ 8) (hdg : decode cc pc = .ok (.invokevirtual idx, 3)) :
    va_Run p l e (rmm fr lo) s m args below meth c H locs 0 0 0 0 (F0 m pc ls st0) rest (Qc (Value.ref (G.2.2 k) :: as).toArray) (wA G) := by
  obtain ⟨f1, f2, f3, f4, f5, f6, f7⟩ := id F
  exact va_runV ⟨C.x, C.b, C.n, C.o, C.t⟩ hM (cwV n C.t (gv_U F u) rfl rfl rfl ⟨rfl, f5, f6, f7⟩ hR) ⟨Wo.blind, va_recv C.k.1 hP hci (wl_get hk), fun U hU hw => ⟨rfl, by rw [hU]; exact hP, Kn.warm hw C.k⟩⟩ rfl hn hl hst (lv_room hW) hdg ⟨Nat.le_refl _, Nat.le_refl _⟩
theorem k_vi {r : Int32} (hM : CI l y cy cn ret' fr' lo' G (.ref (G.2.2 k) :: as) μ r μ1) (F : MV y cy cn ret' n) (u : Cond.methodLink own idx y ∈ UU)
    (C : Cx p s m args meth c cc nL own ret G) (hP : Wm G μ H) (hS : va_S (wA G) s.heap H locs) (hk : shp[k]? = some (.inl (ci, fs))) (hci : vwCl[ci]? = some (y.cls, T, N)) (hn : as.length = n) (hR : fr' + 1 ≤ fr ∧ 8 + (cn + 11) + lo' ≤ lo) (hl : ls.size = nL) (hst : st0 = as.reverse ++ .ref (G.2.2 k) :: rest) (hW : (rest.map fun v => v.category).sum ≤ 8) (hdg : decode cc pc = .ok (.invokevirtual idx, 3))
    (kk : ∀ (H1 : Heap) (locs1 : List Loc), Wm G μ1 H1 → va_S (wA G) s.heap H1 locs1 → W p l e (rmm fr lo) s m args below meth c H1 locs1 0 0 Q (F0 m (pc + 3) ls (.int r :: rest))) : W p l e (rmm fr lo) s m args below meth c H locs 0 0 Q (F0 m pc ls st0) :=
  va_calli (k_vrun hM F u C hP hk hci hn hR hl hst hW hdg) hS (fun _ _ h => h) (fun _ h => h) (fun r1 _ t H1 locs1 ht _ hw hB _ _ hS1 => by subst hw; subst ht; exact kk _ _ hB.1 hS1)
theorem k_vl {r : Int64} (hM : CL l y cy cn ret' fr' lo' G (.ref (G.2.2 k) :: as) μ r μ1) (F : MV y cy cn ret' n) (u : Cond.methodLink own idx y ∈ UU)
    (C : Cx p s m args meth c cc nL own ret G) (hP : Wm G μ H) (hS : va_S (wA G) s.heap H locs) (hk : shp[k]? = some (.inl (ci, fs))) (hci : vwCl[ci]? = some (y.cls, T, N)) (hn : as.length = n) (hR : fr' + 1 ≤ fr ∧ 8 + (cn + 11) + lo' ≤ lo) (hl : ls.size = nL) (hst : st0 = as.reverse ++ .ref (G.2.2 k) :: rest) (hW : (rest.map fun v => v.category).sum ≤ 8) (hdg : decode cc pc = .ok (.invokevirtual idx, 3))
    (kk : ∀ (H1 : Heap) (locs1 : List Loc), Wm G μ1 H1 → va_S (wA G) s.heap H1 locs1 → W p l e (rmm fr lo) s m args below meth c H1 locs1 0 0 Q (F0 m (pc + 3) ls (.long r :: rest))) : W p l e (rmm fr lo) s m args below meth c H locs 0 0 Q (F0 m pc ls st0) :=
  va_calll (k_vrun hM F u C hP hk hci hn hR hl hst hW hdg) hS (fun _ _ h => h) (fun _ h => h) (fun r1 _ t H1 locs1 ht _ hw hB _ _ hS1 => by subst hw; subst ht; exact kk _ _ hB.1 hS1)
theorem k_vv (hM : CV l y cy cn ret' fr' lo' G (.ref (G.2.2 k) :: as) μ μ1) (F : MV y cy cn ret' n) (u : Cond.methodLink own idx y ∈ UU)
    (C : Cx p s m args meth c cc nL own ret G) (hP : Wm G μ H) (hS : va_S (wA G) s.heap H locs) (hk : shp[k]? = some (.inl (ci, fs))) (hci : vwCl[ci]? = some (y.cls, T, N)) (hn : as.length = n) (hR : fr' + 1 ≤ fr ∧ 8 + (cn + 11) + lo' ≤ lo) (hl : ls.size = nL) (hst : st0 = as.reverse ++ .ref (G.2.2 k) :: rest) (hW : (rest.map fun v => v.category).sum ≤ 8) (hdg : decode cc pc = .ok (.invokevirtual idx, 3))
    (kk : ∀ (H1 : Heap) (locs1 : List Loc), Wm G μ1 H1 → va_S (wA G) s.heap H1 locs1 → W p l e (rmm fr lo) s m args below meth c H1 locs1 0 0 Q (F0 m (pc + 3) ls rest)) : W p l e (rmm fr lo) s m args below meth c H locs 0 0 Q (F0 m pc ls st0) :=
  va_callv (k_vrun hM F u C hP hk hci hn hR hl hst hW hdg) hS (fun _ _ h => h) (fun _ h => h) (fun _ t H1 locs1 ht _ hw hB _ _ hS1 => by subst ht; exact kk _ _ hB.1 hS1)
theorem k_vr {r : Nat} (hM : CR l y cy cn ret' fr' lo' G (.ref (G.2.2 k) :: as) μ r μ1) (F : MV y cy cn ret' n) (u : Cond.methodLink own idx y ∈ UU)
    (C : Cx p s m args meth c cc nL own ret G) (hP : Wm G μ H) (hS : va_S (wA G) s.heap H locs) (hk : shp[k]? = some (.inl (ci, fs))) (hci : vwCl[ci]? = some (y.cls, T, N)) (hn : as.length = n) (hR : fr' + 1 ≤ fr ∧ 8 + (cn + 11) + lo' ≤ lo) (hl : ls.size = nL) (hst : st0 = as.reverse ++ .ref (G.2.2 k) :: rest) (hW : (rest.map fun v => v.category).sum ≤ 8) (hdg : decode cc pc = .ok (.invokevirtual idx, 3))
    (kk : ∀ (H1 : Heap) (locs1 : List Loc), Wm G μ1 H1 → va_S (wA G) s.heap H1 locs1 → W p l e (rmm fr lo) s m args below meth c H1 locs1 0 0 Q (F0 m (pc + 3) ls (.ref (G.2.2 r) :: rest))) : W p l e (rmm fr lo) s m args below meth c H locs 0 0 Q (F0 m pc ls st0) :=
  va_callr (k_vrun hM F u C hP hk hci hn hR hl hst hW hdg) hS (fun _ _ h => h) (fun _ h => h) (fun _ a t H1 locs1 ht _ hw hB _ _ hS1 => by obtain ⟨rfl, hB⟩ := hB; subst ht; exact kk _ _ hB.1 hS1)
/-! static ones, of the own class, and of the nest's host -/
theorem k_srun {Qc : Array Value → State → Outcome → State → Prop} (hM : Met l y (wc y cy cn ret') (rmm fr' lo') (va_Pc as (Wo G μ)) Qc 0 0 (wA G)) (F : MS y cy cn ret' n) (u : Cond.methodLink own idx y ∈ UU)
    (C : Cx p s m args meth c cc nL own ret G) (hP : Wm G μ H) (hn : as.length = n) (hR : fr' + 1 ≤ fr ∧ 8 + (cn + 11) + lo' ≤ lo) (hl : ls.size = nL) (hst : st0 = as.reverse ++ rest) (hW : (rest.map fun v => v.category).sum ≤ 8) (hdg : decode cc pc = .ok (.invokestatic idx, 3)) :
    va_Run p l e (rmm fr lo) s m args below meth c H locs 0 0 0 0 (F0 m pc ls st0) rest (Qc as.toArray) (wA G) := by
  obtain ⟨f1, f2, f3, f5, f6, f7⟩ := id F
  exact va_runS ⟨C.x, C.b, C.n, C.o, C.t⟩ hM ⟨callB_of n C.t (gs_U F) rfl rfl rfl (C.t _ f2) (C.t _ u) ⟨f5, f6, f7⟩ hR, C.t _ f1⟩ ⟨Wo.blind, fun U hU hw => ⟨rfl, by rw [hU]; exact hP, Kn.warm hw C.k⟩⟩ rfl hn hl hst (lv_room hW) hdg ⟨Nat.le_refl _, Nat.le_refl _⟩
theorem k_nrun {Qc : Array Value → State → Outcome → State → Prop} {host : String} (hM : Met l y (wc y cy cn ret') (rmm fr' lo') (va_Pc as (Wo G μ)) Qc 0 0 (wA G)) (F : MS y cy cn ret' n) (u : Cond.methodLinkNest own idx y host ∈ nests)
    (C : Cx p s m args meth c cc nL own ret G) (hP : Wm G μ H) (hn : as.length = n) (hR : fr' + 1 ≤ fr ∧ 8 + (cn + 11) + lo' ≤ lo) (hl : ls.size = nL) (hst : st0 = as.reverse ++ rest) (hW : (rest.map fun v => v.category).sum ≤ 8) (hdg : decode cc pc = .ok (.invokestatic idx, 3)) :
    va_Run p l e (rmm fr lo) s m args below meth c H locs 0 0 0 0 (F0 m pc ls st0) rest (Qc as.toArray) (wA G) := by
  obtain ⟨f1, f2, f3, f5, f6, f7⟩ := id F
  exact va_runSN ⟨C.x, C.b, C.n, C.o, C.t⟩ hM ⟨va_cnB n C.t (gs_U F) rfl rfl rfl (C.k.2 _ u) (C.t _ f2) ⟨f5, f6, f7⟩ hR, C.t _ f1, trivial⟩ ⟨Wo.blind, fun U hU hw => ⟨rfl, by rw [hU]; exact hP, Kn.warm hw C.k⟩⟩ rfl hn hl hst (lv_room hW) hdg ⟨Nat.le_refl _, Nat.le_refl _⟩
theorem k_si {r : Int32} (hM : CI l y cy cn ret' fr' lo' G as μ r μ1) (F : MS y cy cn ret' n) (u : Cond.methodLink own idx y ∈ UU)
    (C : Cx p s m args meth c cc nL own ret G) (hP : Wm G μ H) (hS : va_S (wA G) s.heap H locs) (hn : as.length = n) (hR : fr' + 1 ≤ fr ∧ 8 + (cn + 11) + lo' ≤ lo) (hl : ls.size = nL) (hst : st0 = as.reverse ++ rest) (hW : (rest.map fun v => v.category).sum ≤ 8) (hdg : decode cc pc = .ok (.invokestatic idx, 3))
    (kk : ∀ (H1 : Heap) (locs1 : List Loc), Wm G μ1 H1 → va_S (wA G) s.heap H1 locs1 → W p l e (rmm fr lo) s m args below meth c H1 locs1 0 0 Q (F0 m (pc + 3) ls (.int r :: rest))) : W p l e (rmm fr lo) s m args below meth c H locs 0 0 Q (F0 m pc ls st0) :=
  va_calli (k_srun hM F u C hP hn hR hl hst hW hdg) hS (fun _ _ h => h) (fun _ h => h) (fun r1 _ t H1 locs1 ht _ hw hB _ _ hS1 => by subst hw; subst ht; exact kk _ _ hB.1 hS1)
theorem k_sl {r : Int64} (hM : CL l y cy cn ret' fr' lo' G as μ r μ1) (F : MS y cy cn ret' n) (u : Cond.methodLink own idx y ∈ UU)
    (C : Cx p s m args meth c cc nL own ret G) (hP : Wm G μ H) (hS : va_S (wA G) s.heap H locs) (hn : as.length = n) (hR : fr' + 1 ≤ fr ∧ 8 + (cn + 11) + lo' ≤ lo) (hl : ls.size = nL) (hst : st0 = as.reverse ++ rest) (hW : (rest.map fun v => v.category).sum ≤ 8) (hdg : decode cc pc = .ok (.invokestatic idx, 3))
    (kk : ∀ (H1 : Heap) (locs1 : List Loc), Wm G μ1 H1 → va_S (wA G) s.heap H1 locs1 → W p l e (rmm fr lo) s m args below meth c H1 locs1 0 0 Q (F0 m (pc + 3) ls (.long r :: rest))) : W p l e (rmm fr lo) s m args below meth c H locs 0 0 Q (F0 m pc ls st0) :=
  va_calll (k_srun hM F u C hP hn hR hl hst hW hdg) hS (fun _ _ h => h) (fun _ h => h) (fun r1 _ t H1 locs1 ht _ hw hB _ _ hS1 => by subst hw; subst ht; exact kk _ _ hB.1 hS1)
theorem k_sv (hM : CV l y cy cn ret' fr' lo' G as μ μ1) (F : MS y cy cn ret' n) (u : Cond.methodLink own idx y ∈ UU)
    (C : Cx p s m args meth c cc nL own ret G) (hP : Wm G μ H) (hS : va_S (wA G) s.heap H locs) (hn : as.length = n) (hR : fr' + 1 ≤ fr ∧ 8 + (cn + 11) + lo' ≤ lo) (hl : ls.size = nL) (hst : st0 = as.reverse ++ rest) (hW : (rest.map fun v => v.category).sum ≤ 8) (hdg : decode cc pc = .ok (.invokestatic idx, 3))
    (kk : ∀ (H1 : Heap) (locs1 : List Loc), Wm G μ1 H1 → va_S (wA G) s.heap H1 locs1 → W p l e (rmm fr lo) s m args below meth c H1 locs1 0 0 Q (F0 m (pc + 3) ls rest)) : W p l e (rmm fr lo) s m args below meth c H locs 0 0 Q (F0 m pc ls st0) :=
  va_callv (k_srun hM F u C hP hn hR hl hst hW hdg) hS (fun _ _ h => h) (fun _ h => h) (fun _ t H1 locs1 ht _ hw hB _ _ hS1 => by subst ht; exact kk _ _ hB.1 hS1)
theorem k_ni {r : Int32} {host : String} (hM : CI l y cy cn ret' fr' lo' G as μ r μ1) (F : MS y cy cn ret' n) (u : Cond.methodLinkNest own idx y host ∈ nests)
    (C : Cx p s m args meth c cc nL own ret G) (hP : Wm G μ H) (hS : va_S (wA G) s.heap H locs) (hn : as.length = n) (hR : fr' + 1 ≤ fr ∧ 8 + (cn + 11) + lo' ≤ lo) (hl : ls.size = nL) (hst : st0 = as.reverse ++ rest) (hW : (rest.map fun v => v.category).sum ≤ 8) (hdg : decode cc pc = .ok (.invokestatic idx, 3))
    (kk : ∀ (H1 : Heap) (locs1 : List Loc), Wm G μ1 H1 → va_S (wA G) s.heap H1 locs1 → W p l e (rmm fr lo) s m args below meth c H1 locs1 0 0 Q (F0 m (pc + 3) ls (.int r :: rest))) : W p l e (rmm fr lo) s m args below meth c H locs 0 0 Q (F0 m pc ls st0) :=
  va_calli (k_nrun hM F u C hP hn hR hl hst hW hdg) hS (fun _ _ h => h) (fun _ h => h) (fun r1 _ t H1 locs1 ht _ hw hB _ _ hS1 => by subst hw; subst ht; exact kk _ _ hB.1 hS1)
end V
/-! Math.min, Math.max; System.arraycopy -/
theorem k_max {idx : Nat} {x y : Int32} (u : Cond.methodLink own idx Lib.Math.max.name ∈ UU) (C : Cx p s m args meth c cc nL own ret G) (hl : ls.size = nL) (hR : 1 ≤ fr ∧ (rest.map fun v => v.category).sum + 13 ≤ lo) (hdg : decode cc pc = .ok (.invokestatic idx, 3))
    (kk : W p l e (rmm fr lo) s m args below meth c H locs 0 0 Q (F0 m (pc + 3) ls (.int (mx x y) :: rest))) : W p l e (rmm fr lo) s m args below meth c H locs 0 0 Q (F0 m pc ls (.int y :: .int x :: rest)) :=
  va_mmax C.x C.b (by rw [C.n]; exact hl.symm) C.o (C.t _ u) (C.t _ um_max_s) (C.t _ um_math) (C.t _ um_max_c) hR.1 hR.2 (Nat.zero_le _) (Nat.zero_le _) hdg kk
theorem k_min {idx : Nat} {x y : Int32} (u : Cond.methodLink own idx Lib.Math.min.name ∈ UU) (C : Cx p s m args meth c cc nL own ret G) (hl : ls.size = nL) (hR : 1 ≤ fr ∧ (rest.map fun v => v.category).sum + 13 ≤ lo) (hdg : decode cc pc = .ok (.invokestatic idx, 3))
    (kk : W p l e (rmm fr lo) s m args below meth c H locs 0 0 Q (F0 m (pc + 3) ls (.int (mn x y) :: rest))) : W p l e (rmm fr lo) s m args below meth c H locs 0 0 Q (F0 m pc ls (.int y :: .int x :: rest)) :=
  va_mmin C.x C.b (by rw [C.n]; exact hl.symm) C.o (C.t _ u) (C.t _ um_min_s) (C.t _ um_math) (C.t _ um_min_c) hR.1 hR.2 (Nat.zero_le _) (Nat.zero_le _) hdg kk
def allB (f : Nat → Int32) (i n : Nat) : Bool := (List.range n).all (fun j => isB (f (i + j)))
/-- what an arraycopy wants of places and lengths -/
def cpyOk (sp dp n : Int32) (n0 n1 : Nat) : Bool := decide (¬ sp < 0 ∧ ¬ dp < 0 ∧ ¬ n < 0 ∧ sp.toNatClampNeg + n.toNatClampNeg ≤ n0 ∧ dp.toNatClampNeg + n.toNatClampNeg ≤ n1)
theorem k_cpy {idx k0 k1 n0 n1 : Nat} {sp dp n : Int32} (u : Cond.methodLink own idx arraycopyName ∈ UU) (C : Cx p s m args meth c cc nL own ret G) (hP : Wm G μ H) (hS : va_S (wA G) s.heap H locs) (hl : ls.size = nL) (h0 : shp[k0]? = some (.inr (0, n0))) (h1 : shp[k1]? = some (.inr (0, n1))) (hc : cpyOk sp dp n n0 n1 = true)
    (hR : 1 ≤ fr ∧ (rest.map fun v => v.category).sum + (nativeFrameWords "java/lang/System" "arraycopy" 5 + 11) ≤ lo) (hdg : decode cc pc = .ok (.invokestatic idx, 3))
    (kk : ∀ (H1 : Heap) (locs1 : List Loc), Wm G (cst μ k1 (va_cpy (μ.1 k0) (μ.1 k1) sp.toNatClampNeg dp.toNatClampNeg n.toNatClampNeg)) H1 → va_S (wA G) s.heap H1 locs1 → W p l e (rmm fr lo) s m args below meth c H1 locs1 0 0 Q (F0 m (pc + 3) ls rest)) :
    W p l e (rmm fr lo) s m args below meth c H locs 0 0 Q (F0 m pc ls (.int n :: .int dp :: .ref (G.2.2 k1) :: .int sp :: .ref (G.2.2 k0) :: rest)) := by
  obtain ⟨c1, c2, c3, c4, c5⟩ := of_decide_eq_true hc
  refine va_copyi C.x C.b (by rw [C.n]; exact hl.symm) C.o (C.t _ u) (C.t _ um_cpy_n) (C.t _ um_cpy_s) (C.t _ um_sys) C.k.1 hP (wD C.i μ) hS k0 k1 0 0 (ty := .int) (wl_get h0) (wl_get h1) rfl rfl rfl c1 c2 c3 c4 c5 (fun _ _ => rfl) hR.1 hR.2 hdg (fun H1 locs1 g1 _ g3 => kk H1 locs1 ?_ g3)
  have h2 := wl_cst (G := G) (μ := μ) (va_cpy (μ.1 k0) (μ.1 k1) sp.toNatClampNeg dp.toNatClampNeg n.toNatClampNeg) h1
  have e : ce G (cst μ k1 (va_cpy (μ.1 k0) (μ.1 k1) sp.toNatClampNeg dp.toNatClampNeg n.toNatClampNeg)) k1 (.inr (0, n1)) = .inl (G.2.1 0, n1, .inl (va_cpy (μ.1 k0) (μ.1 k1) sp.toNatClampNeg dp.toNatClampNeg n.toNatClampNeg)) := by simp [ce, arx, cst, va_up]
  rw [e] at h2
  show va_P G.1 vwCl (wl G (cst μ k1 _)) H1
  rw [← h2]; exact g1
theorem k_cpz {idx k0 k1 n0 n1 : Nat} {sp dp n : Int32} (u : Cond.methodLink own idx arraycopyName ∈ UU) (C : Cx p s m args meth c cc nL own ret G) (hP : Wm G μ H) (hS : va_S (wA G) s.heap H locs) (hl : ls.size = nL) (h0 : shp[k0]? = some (.inr (1, n0))) (h1 : shp[k1]? = some (.inr (1, n1))) (hc : cpyOk sp dp n n0 n1 = true) (hB : allB (μ.1 k0) sp.toNatClampNeg n.toNatClampNeg = true)
    (hR : 1 ≤ fr ∧ (rest.map fun v => v.category).sum + (nativeFrameWords "java/lang/System" "arraycopy" 5 + 11) ≤ lo) (hdg : decode cc pc = .ok (.invokestatic idx, 3))
    (kk : ∀ (H1 : Heap) (locs1 : List Loc), Wm G (cst μ k1 (va_cpy (μ.1 k0) (μ.1 k1) sp.toNatClampNeg dp.toNatClampNeg n.toNatClampNeg)) H1 → va_S (wA G) s.heap H1 locs1 → W p l e (rmm fr lo) s m args below meth c H1 locs1 0 0 Q (F0 m (pc + 3) ls rest)) :
    W p l e (rmm fr lo) s m args below meth c H locs 0 0 Q (F0 m pc ls (.int n :: .int dp :: .ref (G.2.2 k1) :: .int sp :: .ref (G.2.2 k0) :: rest)) := by
  obtain ⟨c1, c2, c3, c4, c5⟩ := of_decide_eq_true hc
  refine va_copyi C.x C.b (by rw [C.n]; exact hl.symm) C.o (C.t _ u) (C.t _ um_cpy_n) (C.t _ um_cpy_s) (C.t _ um_sys) C.k.1 hP (wD C.i μ) hS k0 k1 1 1 (ty := .boolean) (wl_get h0) (wl_get h1) rfl rfl rfl c1 c2 c3 c4 c5 (fun i hi => ?_) hR.1 hR.2 hdg (fun H1 locs1 g1 _ g3 => kk H1 locs1 ?_ g3)
  · rcases isB_cases (List.all_eq_true.mp hB i (List.mem_range.mpr hi)) with q | q <;> rw [q] <;> rfl
  have h2 := wl_cst (G := G) (μ := μ) (va_cpy (μ.1 k0) (μ.1 k1) sp.toNatClampNeg dp.toNatClampNeg n.toNatClampNeg) h1
  have e : ce G (cst μ k1 (va_cpy (μ.1 k0) (μ.1 k1) sp.toNatClampNeg dp.toNatClampNeg n.toNatClampNeg)) k1 (.inr (1, n1)) = .inl (G.2.1 1, n1, .inl (va_cpy (μ.1 k0) (μ.1 k1) sp.toNatClampNeg dp.toNatClampNeg n.toNatClampNeg)) := by simp [ce, arx, cst, va_up]
  rw [e] at h2
  show va_P G.1 vwCl (wl G (cst μ k1 _)) H1
  rw [← h2]; exact g1
theorem k_cpl {idx k0 k1 n0 n1 : Nat} {sp dp n : Int32} (u : Cond.methodLink own idx arraycopyName ∈ UU) (C : Cx p s m args meth c cc nL own ret G) (hP : Wm G μ H) (hS : va_S (wA G) s.heap H locs) (hl : ls.size = nL) (h0 : shp[k0]? = some (.inr (3, n0))) (h1 : shp[k1]? = some (.inr (3, n1))) (hc : cpyOk sp dp n n0 n1 = true)
    (hR : 1 ≤ fr ∧ (rest.map fun v => v.category).sum + (nativeFrameWords "java/lang/System" "arraycopy" 5 + 11) ≤ lo) (hdg : decode cc pc = .ok (.invokestatic idx, 3))
    (kk : ∀ (H1 : Heap) (locs1 : List Loc), Wm G (clst μ k1 (va_cpy (μ.2 k0) (μ.2 k1) sp.toNatClampNeg dp.toNatClampNeg n.toNatClampNeg)) H1 → va_S (wA G) s.heap H1 locs1 → W p l e (rmm fr lo) s m args below meth c H1 locs1 0 0 Q (F0 m (pc + 3) ls rest)) :
    W p l e (rmm fr lo) s m args below meth c H locs 0 0 Q (F0 m pc ls (.int n :: .int dp :: .ref (G.2.2 k1) :: .int sp :: .ref (G.2.2 k0) :: rest)) := by
  obtain ⟨c1, c2, c3, c4, c5⟩ := of_decide_eq_true hc
  refine va_copyl C.x C.b (by rw [C.n]; exact hl.symm) C.o (C.t _ u) (C.t _ um_cpy_n) (C.t _ um_cpy_s) (C.t _ um_sys) C.k.1 hP (wD C.i μ) hS k0 k1 3 3 (ty := .long) (wl_get h0) (wl_get h1) rfl rfl rfl c1 c2 c3 c4 c5 (fun _ _ => rfl) hR.1 hR.2 hdg (fun H1 locs1 g1 _ g3 => kk H1 locs1 ?_ g3)
  have h2 := wl_clst (G := G) (μ := μ) (va_cpy (μ.2 k0) (μ.2 k1) sp.toNatClampNeg dp.toNatClampNeg n.toNatClampNeg) h1
  have e : ce G (clst μ k1 (va_cpy (μ.2 k0) (μ.2 k1) sp.toNatClampNeg dp.toNatClampNeg n.toNatClampNeg)) k1 (.inr (3, n1)) = .inl (G.2.1 3, n1, .inr (.inl (va_cpy (μ.2 k0) (μ.2 k1) sp.toNatClampNeg dp.toNatClampNeg n.toNatClampNeg))) := by simp [ce, arx, clst, va_up]
  rw [e] at h2
  show va_P G.1 vwCl (wl G (clst μ k1 _)) H1
  rw [← h2]; exact g1
/-! the entry -/
theorem e_all {Qc : Array Value → State → Outcome → State → Prop} {y : MethodName} {cy : ByteArray} {cn : Nat} {ret' : Option FieldType} {as : List Value} {lv : List (Nat × Value)} (hI : Wi G) (hy : plainName y.cls = true) (hlen : (lg_sl as).length ≤ cn) (hlv : lv_args 0 as = lv)
    (body : ∀ (p : Program) (e : Env) (s : State) (m : MethodId) (args : Array Value) (below : List Frame) (meth : Method) (c : Code) (ls : Array Slot), Cx p s m args meth c cy cn y.cls ret' G → Wm G μ s.heap → va_S (wA G) s.heap s.heap [] → lv_has ls cn lv → W p l e (rmm fr lo) s m args below meth c s.heap [] 0 0 (MQ below Qc args s 0 0 (wA G)) (F0 m 0 ls [])) :
    Met l y (wc y cy cn ret') (rmm fr lo) (va_Pc as (Wo G μ)) Qc 0 0 (wA G) := by
  refine Met.ofW (cc := cy) (maxL := cn) (ret := ret') hy rfl ?_
  intro p e s m args below meth c s₁ B hml hv
  obtain ⟨rfl, hP, hK⟩ := hv
  have hts := atoms_spec (ws := wc y cy cn ret') B.pre
  have hl := lv_entry as (n := cn) hlen
  rw [lg_entry_eq]
  generalize (lg_sl as ++ List.replicate (cn - (lg_sl as).length) Slot.unset).toArray = ls at hl ⊢
  rw [hlv] at hl
  exact body p e s m _ below meth c ls ⟨B.exec, B.bytes, hml, findClass_of_methodNamed B.named, fun w hw => hts w (List.mem_cons_of_mem _ hw), B.returns, B.notSynchronized, hK, hI⟩ hP va_S.rf hl
end CALLS
