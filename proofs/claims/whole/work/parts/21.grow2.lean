/-! more of growing worlds: arrays of arrays, of objects, stores into what was made last -/
section G2
variable {p : Program} {l : Launch} {e : Env} {R : Room} {s : State} {m : MethodId} {args : Array Value} {below : List Frame} {meth : Method} {c : Code} {H : Heap} {locs : List Loc} {cells slots : Nat} {Q : State → Prop}
variable {cc : ByteArray} {nL : Nat} {own : String} {D : va_G} {cy : Nat → ClassId} {A : Nat → Prop} {h0 : Nat} {e0 : va_E} {rw : va_W} {ws : va_W}
variable {pc : Nat} {ls : Array Slot} {rest : List Value} {idx : Nat}
abbrev vq (f : Nat → Option Nat) : (Nat → Int32) ⊕ (Nat → Int64) ⊕ (Nat → UInt32) ⊕ (Nat → UInt64) ⊕ (Nat → Option Nat) := .inr (.inr (.inr (.inr f)))
theorem arrV_congr {c n : Nat} {f g : Nat → Value} (h : ∀ i, i < n → f i = g i) : arrV c n f = arrV c n g := by
  unfold arrV
  congr 1
  apply Array.ext
  · simp
  · intro i h1 h2
    simp at h1
    simp [h i h1]
theorem conv_q {k a n : Nat} {cA : ClassId} {f g : Nat → Option Nat} (hk : ws[k]? = some (a, .inl (cA, n, vq f))) (he : ∀ i, i < n → f i = g i) (hP : va_P D vwCl ws H) (hD : va_D A ws) : va_P D vwCl (ws.set k (a, .inl (cA, n, vq g))) H ∧ va_D A (ws.set k (a, .inl (cA, n, vq g))) := by
  refine ⟨hP.set hD hk ?_ (fun _ _ => rfl), hD.set hk⟩
  have h1 := hP k _ hk
  show H[a]? = some (vp_cell cA (n, vq g))
  have h2 : H[a]? = some (vp_cell cA (n, vq f)) := h1
  rw [h2, vp_cell_q, vp_cell_q, arrV_congr (fun i hi => by rw [he i hi])]
theorem h_anew {n : Int32} {N' cells' slots' : Nat} (C : Cg p s m args meth c cc nL own D cy A) (u : Cond.classLink own idx "StoneRoads$Tape" ∈ UU) (hn : ¬ n < 0) (hN : n.toNatClampNeg = N') (hbytes : N' * 4 ≤ 536870912) (hc : cells + 1 = cells') (hs : slots + N' = slots') (hcR : cells' ≤ R.cells) (hsR : slots' ≤ R.slots)
    (hP : va_P D vwCl ((h0, e0) :: rw) H) (hD : va_D A ((h0, e0) :: rw)) (hS : va_S A s.heap H locs) (hdg : decode cc pc = .ok (.anewarray idx, 3))
    (kk : ∀ (q : Nat) (H1 : Heap), va_P D vwCl ((h0, e0) :: (q, .inl (cy 4, N', vq (fun _ => none))) :: rw) H1 → va_D A ((h0, e0) :: (q, .inl (cy 4, N', vq (fun _ => none))) :: rw) → va_S A s.heap H1 locs → W p l e R s m args below meth c H1 locs cells' slots' Q (F0 m (pc + 3) ls (.ref q :: rest))) : W p l e R s m args below meth c H locs cells slots Q (F0 m pc ls (.int n :: rest)) := by
  subst hc; subst hs
  refine va_newq C.x C.b C.o (C.t _ u) C.k.2.1 C.k.1.1 hP hD hS C.a hn hN hbytes hcR hsR hdg (fun q cA H1 hK1 h1 h2 h3 => ?_)
  obtain ⟨_, _, -, -, -, e1⟩ := (hK1.2 6 (cA, .object "StoneRoads$Tape") (by rfl)).2
  obtain ⟨_, _, -, -, -, e2⟩ := (C.k.1.1.2 4 (cy 4, .object "StoneRoads$Tape") (by rfl)).2
  have e3 : cA = cy 4 := Option.some.inj (e1.symm.trans e2)
  subst e3
  refine kk q H1 ?_ ?_ h3
  · have h4 : va_P D vwCl (([(h0, e0)] ++ rw) ++ [(q, .inl (cy 4, N', vq (fun _ => none)))]) H1 := h1
    exact va_P.swap h4
  · have h4 : va_D A (([(h0, e0)] ++ rw) ++ [(q, .inl (cy 4, N', vq (fun _ => none)))]) := h2
    exact va_D.swap h4
/-- a Tape into the array of them -/
theorem h_aast {qt n : Nat} {i : Int32} {f : Nat → Option Nat} {adT : Nat → Nat} {μT : Mem} (C : Cg p s m args meth c cc nL own D cy A) (hin : vp_in i n)
    (hP : va_P D vwCl ((h0, e0) :: (qt, .inl (cy 4, n, vq f)) :: (rw ++ wt D cy adT μT sTape)) H) (hD : va_D A ((h0, e0) :: (qt, .inl (cy 4, n, vq f)) :: (rw ++ wt D cy adT μT sTape))) (hS : va_S A s.heap H locs) (hdg : decode cc pc = .ok (.aastore, 1))
    (kk : ∀ (H1 : Heap) (locs1 : List Loc), va_P D vwCl ((h0, e0) :: (qt, .inl (cy 4, n, vq (va_up f i.toNatClampNeg (some (adT 0))))) :: (rw ++ wt D cy adT μT sTape)) H1 → va_D A ((h0, e0) :: (qt, .inl (cy 4, n, vq (va_up f i.toNatClampNeg (some (adT 0))))) :: (rw ++ wt D cy adT μT sTape)) → va_S A s.heap H1 locs1 → W p l e R s m args below meth c H1 locs1 cells slots Q (F0 m (pc + 1) ls rest)) :
    W p l e R s m args below meth c H locs cells slots Q (F0 m pc ls (.ref (adT 0) :: .int i :: .ref qt :: rest)) := by
  have hv : ((h0, e0) :: (qt, .inl (cy 4, n, vq f)) :: (rw ++ wt D cy adT μT sTape))[rw.length + 2]? = some (adT 0, ce (D, cy, adT) μT 0 (.inl (7, fs7))) := by
    simp [wt, sTape]
  exact va_astq (r := (RX7, TX7, 3)) C.x C.b C.k.1.1 hP hD hS 1 4 (rw.length + 2) 7 rfl rfl hv rfl hin hdg kk
/-- a store into the array that was made last -/
theorem h_ast {a n : Nat} {i x : Int32} {f : Nat → Int32} (C : Cg p s m args meth c cc nL own D cy A) (hin : vp_in i n)
    (hP : va_P D vwCl ((h0, e0) :: (rw ++ [(a, .inl (cy 0, n, .inl f))])) H) (hD : va_D A ((h0, e0) :: (rw ++ [(a, .inl (cy 0, n, .inl f))]))) (hS : va_S A s.heap H locs) (hdg : decode cc pc = .ok (.iastore, 1))
    (kk : ∀ (H1 : Heap) (locs1 : List Loc), va_P D vwCl ((h0, e0) :: (rw ++ [(a, .inl (cy 0, n, .inl (upd f i.toNatClampNeg x)))])) H1 → va_D A ((h0, e0) :: (rw ++ [(a, .inl (cy 0, n, .inl (upd f i.toNatClampNeg x)))])) → va_S A s.heap H1 locs1 → W p l e R s m args below meth c H1 locs1 cells slots Q (F0 m (pc + 1) ls rest)) :
    W p l e R s m args below meth c H locs cells slots Q (F0 m pc ls (.int x :: .int i :: .ref a :: rest)) := by
  have hv : ((h0, e0) :: (rw ++ [((a, .inl (cy 0, n, .inl f)) : Nat × va_E)]))[rw.length + 1]? = some (a, .inl (cy 0, n, .inl f)) := by simp
  have hset : ∀ z : Nat × va_E, ((h0, e0) :: (rw ++ [((a, .inl (cy 0, n, .inl f)) : Nat × va_E)])).set (rw.length + 1) z = (h0, e0) :: (rw ++ [z]) := fun z => by simp
  refine va_iast C.x C.b C.k.1.1 hP hD hS (rw.length + 1) 0 hv rfl hin hdg (fun H1 locs1 h1 h2 h3 => kk H1 locs1 ?_ ?_ h3)
  · rw [hset] at h1; exact h1
  · rw [hset] at h2; exact h2
theorem h_mul {n k : Int32} {N' K' cells' slots' : Nat} (C : Cg p s m args meth c cc nL own D cy A) (u : Cond.classLink own idx "[[J" ∈ UU) (hn : ¬ n < 0) (hk : ¬ k < 0) (hN : n.toNatClampNeg = N') (hM : k.toNatClampNeg = K')
    (hb1 : N' * 4 ≤ 536870912) (hb2 : K' * 8 ≤ 536870912) (hb3 : K' ≤ 536870912) (hcR : cells + (1 + N') ≤ R.cells) (hsR : slots + (N' + N' * K') ≤ R.slots) (hc : cells + 1 + N' = cells') (hs : slots + N' + N' * K' = slots')
    (hP : va_P D vwCl ws H) (hD : va_D A ws) (hS : va_S A s.heap H locs) (hdg : decode cc pc = .ok (.multianewarray idx 2, 4))
    (kk : ∀ (q : Nat) (H1 : Heap), va_P D vwCl (ws ++ ((q, .inl (cy 5, N', vq (fun i => if i < N' then some (q + 1 + i) else none))) :: (List.range N').map (fun i => (q + 1 + i, .inl (cy 3, K', .inr (.inl (fun _ => 0))))))) H1 →
      va_D A (ws ++ ((q, .inl (cy 5, N', vq (fun i => if i < N' then some (q + 1 + i) else none))) :: (List.range N').map (fun i => (q + 1 + i, .inl (cy 3, K', .inr (.inl (fun _ => 0))))))) → va_S A s.heap H1 locs →
      W p l e R s m args below meth c H1 locs cells' slots' Q (F0 m (pc + 4) ls (.ref q :: rest))) : W p l e R s m args below meth c H locs cells slots Q (F0 m pc ls (.int k :: .int n :: rest)) := by
  subst hN; subst hM; subst hc; subst hs
  intro T hT Xs
  obtain ⟨vm₁, cA, comp, -, fA, fC, hO, -, X', step⟩ := Jvm.Stand.multianewarray2F Xs C.x C.o (ty := .long) (C.t _ u) C.k.2.2 (C.t _ um_ac_lng) (g := F0 m pc ls (.int k :: .int n :: rest)) rfl (by rw [C.b]; exact hdg) rfl hn hk hb1 hb2 hb3 rfl rfl hcR hsR
  have e5 : cA = cy 5 := by
    have e2 : s.vm.findClass ("[" ++ (FieldType.array FieldType.long).toString) = some (cy 5) := (C.k.1.1.2 5 (cy 5, .array .long) (by rfl)).2
    exact Option.some.inj (fA.symm.trans e2)
  have e3 : comp = cy 3 := by
    have e2 : s.vm.findClass ("[" ++ FieldType.long.toString) = some (cy 3) := (C.k.1.1.2 3 (cy 3, .long) (by rfl)).2
    exact Option.some.inj (fC.symm.trans e2)
  subst e5; subst e3
  generalize hF : Jvm.Free.Multi.fill (T.setVm vm₁) (cy 5) (cy 3) n.toNatClampNeg k.toNatClampNeg (defaultValue .long) n.toNatClampNeg = F at X' step
  have hTh : (T.setVm vm₁).heap = H := hT
  obtain ⟨f1, f2, -, -⟩ := Jvm.Free.Multi.fill_facts (T.setVm vm₁) (cy 5) (cy 3) n.toNatClampNeg k.toNatClampNeg (defaultValue .long) n.toNatClampNeg
  rw [hF, hTh] at f1 f2
  have hold : ∀ x : Nat, x < H.size → F.heap[x]? = H[x]? := fun x hx => by
    have := Jvm.Free.Multi.fill_old (T.setVm vm₁) (cy 5) (cy 3) n.toNatClampNeg k.toNatClampNeg (defaultValue .long) (a := x) (by rw [hTh]; exact hx) n.toNatClampNeg
    rw [hF, hTh] at this
    exact this
  have hrow : ∀ j : Nat, j < n.toNatClampNeg → F.heap[H.size + 1 + j]? = some (vp_cell (cy 3) (k.toNatClampNeg, .inr (.inl (fun _ => 0)))) := fun j hj => by
    have := Jvm.Free.Multi.fill_inner (T.setVm vm₁) (cy 5) (cy 3) n.toNatClampNeg k.toNatClampNeg (defaultValue .long) n.toNatClampNeg j hj
    rw [hF, hTh] at this
    rw [this, vp_cell_l, ← arrV_new]; rfl
  have hout : Jvm.Free.Multi.outerC (cy 5) n.toNatClampNeg H.size n.toNatClampNeg = vp_cell (cy 5) (n.toNatClampNeg, vq (fun i => if i < n.toNatClampNeg then some (H.size + 1 + i) else none)) := by
    rw [vp_cell_q]
    have g : ∀ i : Nat, Jvm.Free.Multi.outerC (cy 5) n.toNatClampNeg H.size i = arrV (cy 5) n.toNatClampNeg (fun j => va_rf (if j < i then some (H.size + 1 + j) else none)) := by
      intro i
      induction i with
      | zero =>
        show ({ cls := cy 5, slots := Array.replicate n.toNatClampNeg .null, vm := .none } : Cell) = _
        rw [arrV_new]
        refine congrArg (arrV (cy 5) n.toNatClampNeg) (funext fun j => ?_)
        simp [va_rf]
      | succ i ih =>
        show (Jvm.Free.Multi.outerC (cy 5) n.toNatClampNeg H.size i).setSlot i (.ref (H.size + 1 + i)) = _
        rw [ih, arrV_store]
        refine congrArg (arrV (cy 5) n.toNatClampNeg) (funext fun j => ?_)
        by_cases ej : j = i
        · subst ej
          simp [updV, va_rf]
        · by_cases h : j < i
          · simp [updV, ej, h, Nat.lt_succ_of_lt h]
          · simp [updV, ej, h, show ¬ j < i + 1 by omega]
    exact g _
  rw [hout] at f2
  have hr : ∀ (k9 : Nat) (x : Nat × va_E), ((List.range n.toNatClampNeg).map (fun i => ((H.size + 1 + i, .inl (cy 3, k.toNatClampNeg, .inr (.inl (fun _ => 0)))) : Nat × va_E)))[k9]? = some x → x = (H.size + 1 + k9, .inl (cy 3, k.toNatClampNeg, .inr (.inl (fun _ => 0)))) ∧ k9 < n.toNatClampNeg := fun k9 x hx => by
    rw [List.getElem?_map] at hx
    by_cases h9 : k9 < n.toNatClampNeg
    · rw [List.getElem?_range h9] at hx
      cases hx
      exact ⟨rfl, h9⟩
    · have hn0 : (List.range n.toNatClampNeg)[k9]? = none := List.getElem?_eq_none (by rw [List.length_range]; omega)
      rw [hn0] at hx
      cases hx
  have hnew : ∀ (k9 : Nat) (x : Nat × va_E), ((H.size, .inl (cy 5, n.toNatClampNeg, vq (fun i => if i < n.toNatClampNeg then some (H.size + 1 + i) else none))) :: (List.range n.toNatClampNeg).map (fun i => ((H.size + 1 + i, .inl (cy 3, k.toNatClampNeg, .inr (.inl (fun _ => 0)))) : Nat × va_E)))[k9]? = some x → x.1 = H.size + k9 ∧ va_at D vwCl x F.heap := fun k9 x hx => by
    cases k9 with
    | zero => cases hx; exact ⟨rfl, f2⟩
    | succ k9 =>
      rw [List.getElem?_cons_succ] at hx
      obtain ⟨rfl, h9⟩ := hr k9 x hx
      exact ⟨by show H.size + 1 + k9 = _; omega, hrow k9 h9⟩
  have hP0 : va_P D vwCl ws F.heap := hP.kept (fun k9 x hx => hold x.1 ((hP k9 x hx).lt))
  obtain ⟨t, a1, b1⟩ := kk H.size F.heap (hP0.app (fun k9 x hx => (hnew k9 x hx).2)) (va_D.app hD ⟨fun i j x y hi hj hxy => by
      have := (hnew i x hi).1
      have := (hnew j y hj).1
      omega, fun k9 x hx => C.a _ (by have := (hnew k9 x hx).1; have := hS.1; omega)⟩ (fun i j x y hi hj hxy => by
      have h1 := (hP i x hi).lt
      have := (hnew j y hj).1
      omega)) ⟨by rw [f1]; have := hS.1; omega, fun x h1 h2 => (hold x (Nat.lt_of_lt_of_le h1 hS.1)).trans (hS.2.1 x h1 h2), hS.2.2⟩ F rfl X'
  refine ⟨t, step t ?_, b1⟩
  have e9 : T.heap.size = H.size := by rw [hT]
  rw [e9]
  exact a1
end G2
