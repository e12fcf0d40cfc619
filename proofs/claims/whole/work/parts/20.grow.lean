/-! GROWING WORLDS: what constructors make. A part L of the table, its cells at the addresses ad -/
def wt (D : va_G) (cy : Nat → ClassId) (ad : Nat → Nat) (μ : Mem) (L : List Shp) : va_W := L.mapIdx (fun k x => (ad k, ce (D, cy, ad) μ k x))
def AOL (U : State) : Prop := (Cond.arrayOver (.array .long)).before #[] U = true
theorem AOL.moved {u U : State} (hvm : u.vm.Alike U.vm) (h : AOL u) : AOL U := Jvm.Stand.arrayOver_alikeB hvm h
def KD (D : va_G) (cy : Nat → ClassId) (U : State) : Prop := Kn (D, cy, id) U ∧ va_AO "StoneRoads$Tape" U ∧ AOL U
theorem KD.warm {D : va_G} {cy : Nat → ClassId} {s U : State} (hW : s.WarmedH U.vm) (h : KD D cy s) : KD D cy U := ⟨h.1.warm hW, h.2.1.moved hW.alike, h.2.2.moved hW.alike⟩
theorem KD.same {D : va_G} {cy : Nat → ClassId} {s U : State} (hv : s.vm = U.vm) (h : KD D cy s) : KD D cy U := ⟨h.1.same hv, h.2.1.moved (by rw [hv]; exact Vm.Alike.refl _), h.2.2.moved (by rw [hv]; exact Vm.Alike.refl _)⟩
def Cg (p : Program) (s : State) (m : MethodId) (args : Array Value) (meth : Method) (c : Code) (cc : ByteArray) (nL : Nat) (own : String) (D : va_G) (cy : Nat → ClassId) (A : Nat → Prop) : Prop :=
  p.tables.exec = Jvm.exec ∧ c.code = cc ∧ c.maxLocals = nL ∧ s.vm.findClass own = some m.cls ∧ (∀ w ∈ UU, w.before args s = true) ∧ KD D cy s ∧ (∀ q, s.heap.size ≤ q → A q)
def Ci (meth : Method) : Prop := meth.sig.returnType = none ∧ meth.locks = false ∧ meth.name = "<init>"
abbrev rmc (fr lo mc ms : Nat) : Room := { frames := fr, cells := mc, slots := ms, locals := lo }
theorem join1 {A0 : Nat → Prop} {D : va_G} {cl : List vw_C} {ws w1 : va_W} {x : Nat × va_E} {H H1 : Heap} (hP : va_P D cl (ws ++ [x]) H) (hD : va_D A0 (ws ++ [x]))
    (hk : ∀ q : Nat, q < H.size → ¬ va_A [x] H.size q → H1[q]? = H[q]?) (hF : ∀ q, va_A [x] H.size q → A0 q) (hP1 : va_P D cl w1 H1) (hD1 : va_D (va_A [x] H.size) w1) : va_P D cl (ws ++ w1) H1 ∧ va_D A0 (ws ++ w1) := by
  have lf : ∀ (k : Nat) (q : Nat × va_E), ws[k]? = some q → (ws ++ [x])[k]? = some q := fun k q h => by
    rw [List.getElem?_append_left (List.getElem?_eq_some_iff.mp h).1]; exact h
  have apart : ∀ (k : Nat) (q : Nat × va_E), ws[k]? = some q → q.1 < H.size ∧ ¬ va_A [x] H.size q.1 := by
    intro k q hq
    have hl := (hP k q (lf k q hq)).lt
    refine ⟨hl, fun h => ?_⟩
    rcases h with ⟨k2, e, h⟩ | h
    · have h0 : k2 = 0 := by have := (List.getElem?_eq_some_iff.mp h).1; simp at this; exact this
      subst h0
      cases h
      have hx : (ws ++ [(q.1, e)])[ws.length]? = some (q.1, e) := by simp
      have hij := hD.1 k ws.length q (q.1, e) (lf k q hq) hx rfl
      have := (List.getElem?_eq_some_iff.mp hq).1
      omega
    · omega
  have hDl : va_D A0 ws := ⟨fun i j p q hi hj e => hD.1 i j p q (lf i p hi) (lf j q hj) e, fun k q h => hD.2 k q (lf k q h)⟩
  refine ⟨va_P.app (fun k q hq => ?_) hP1, va_D.app hDl (hD1.weaken (fun k q _ h => hF q.1 h)) (fun i j x1 y hx hy hxy => ?_)⟩
  · obtain ⟨g1, g2⟩ := apart k q hq
    exact (hP k q (lf k q hq)).kept (hk q.1 g1 g2)
  · exact (apart i x1 hx).2 (by rw [hxy]; exact hD1.2 j y hy)
/-- a constructor's contract -/
def CK (l : Launch) (y : MethodName) (cc : ByteArray) (n fr lo mc ms : Nat) (D : va_G) (cy : Nat → ClassId) (ci : Nat) (dflt : List Value) (as : List Value) (L : List Shp) (μ : Mem) : Prop := ∀ (h0 sz : Nat),
  Met l y (wc y cc n none) (rmc fr lo mc ms) (va_Pc (.ref h0 :: as) (fun U => U.heap.size = sz ∧ va_P D vwCl [(h0, .inr (ci, dflt))] U.heap ∧ KD D cy U ∧ va_D (fun _ => True) [(h0, .inr (ci, dflt))]))
    (va_Qv (fun ad : Nat → Nat => ad 0 = h0) (fun ad t => va_P D vwCl (wt D cy ad μ L) t.heap ∧ KD D cy t ∧ va_D (va_A [(h0, .inr (ci, dflt))] sz) (wt D cy ad μ L)) (va_A [(h0, .inr (ci, dflt))] sz)) mc ms (va_A [(h0, .inr (ci, dflt))] sz)
section GROW
variable {p : Program} {l : Launch} {e : Env} {R : Room} {s : State} {m : MethodId} {args : Array Value} {below : List Frame} {meth : Method} {c : Code} {H : Heap} {locs : List Loc} {cells slots : Nat} {Q : State → Prop}
variable {cc : ByteArray} {nL : Nat} {own : String} {D : va_G} {cy : Nat → ClassId} {A : Nat → Prop} {ws : va_W}
variable {pc : Nat} {ls : Array Slot} {rest st0 : List Value}
theorem Cg.x (C : Cg p s m args meth c cc nL own D cy A) : p.tables.exec = Jvm.exec := C.1
theorem Cg.b (C : Cg p s m args meth c cc nL own D cy A) : c.code = cc := C.2.1
theorem Cg.n (C : Cg p s m args meth c cc nL own D cy A) : c.maxLocals = nL := C.2.2.1
theorem Cg.o (C : Cg p s m args meth c cc nL own D cy A) : s.vm.findClass own = some m.cls := C.2.2.2.1
theorem Cg.t (C : Cg p s m args meth c cc nL own D cy A) : ∀ w ∈ UU, w.before args s = true := C.2.2.2.2.1
theorem Cg.k (C : Cg p s m args meth c cc nL own D cy A) : KD D cy s := C.2.2.2.2.2.1
theorem Cg.a (C : Cg p s m args meth c cc nL own D cy A) : ∀ q, s.heap.size ≤ q → A q := C.2.2.2.2.2.2
theorem w_objInit {idx : Nat} {a : Nat} (u : Cond.methodLink own idx objectInit ∈ UU) (ui : Cond.instanceMethod objectInit ∈ UU) (uc : Cond.code objectInit ⟨#[0xb1]⟩ 1 none ∈ UU) (C : Cg p s m args meth c cc nL own D cy A) (hl : ls.size = nL) (hdg : decode cc pc = .ok (.invokespecial idx, 3)) (hf : 1 ≤ R.frames) (hlo : (rest.map fun v => v.category).sum + 12 ≤ R.locals)
    (kk : W p l e R s m args below meth c H locs cells slots Q (F0 m (pc + 3) ls rest)) : W p l e R s m args below meth c H locs cells slots Q (F0 m pc ls (.ref a :: rest)) :=
  W.objInit C.x C.b C.o (C.t _ u) (C.t _ ui) (C.t _ uc) rfl (by rw [C.n]; exact hl) rfl hdg hf (by show 2 * 0 + _ + 12 ≤ _; omega) kk
theorem n_arr {aty : ArrayType} {ty : FieldType} {t N' cells' slots' : Nat} {n : Int32} {a0 : vp_A} (C : Cg p s m args meth c cc nL own D cy A) (u : Cond.arrayClass ty ∈ UU) (hty : newarray.typeOf aty = ty) (ht : (wtys (D, cy, id))[t]? = some (cy t, ty)) (hr : ∀ cA, va_RA s cA ty = (s.vm.findClass ("[" ++ ty.toString) = some cA))
    (ha : ∀ cA : ClassId, vp_cell cA a0 = arrV cA N' (fun _ => defaultValue ty)) (hn : ¬ n < 0) (hN : n.toNatClampNeg = N') (hbytes : N' * componentBytes ty ≤ 536870912) (hc : cells + 1 = cells') (hs : slots + N' = slots') (hcR : cells' ≤ R.cells) (hsR : slots' ≤ R.slots)
    (hP : va_P D vwCl ws H) (hD : va_D A ws) (hS : va_S A s.heap H locs) (hdg : decode cc pc = .ok (.newarray aty, 2))
    (kk : ∀ (q : Nat) (H1 : Heap), va_P D vwCl (ws ++ [(q, .inl (cy t, a0))]) H1 → va_D A (ws ++ [(q, .inl (cy t, a0))]) → va_S A s.heap H1 locs → W p l e R s m args below meth c H1 locs cells' slots' Q (F0 m (pc + 2) ls (.ref q :: rest))) : W p l e R s m args below meth c H locs cells slots Q (F0 m pc ls (.int n :: rest)) := by
  subst hc; subst hs; subst hty
  refine va_newa C.x C.b (C.t _ u) rfl C.k.1.1 hP hD hS C.a ha hn hN hbytes hcR hsR hdg (fun q cA H1 hK1 h1 h2 h3 => ?_)
  have e1 := (hK1.2 6 (cA, newarray.typeOf aty) (by rfl)).2
  have e2 := (C.k.1.1.2 t _ ht).2
  rw [hr] at e1
  rw [hr] at e2
  have e3 : cA = cy t := Option.some.inj (e1.symm.trans e2)
  subst e3
  exact kk q H1 h1 h2 h3
theorem n_int {N' cells' slots' : Nat} {n : Int32} (C : Cg p s m args meth c cc nL own D cy A) (hn : ¬ n < 0) (hN : n.toNatClampNeg = N') (hbytes : N' * 4 ≤ 536870912) (hc : cells + 1 = cells') (hs : slots + N' = slots') (hcR : cells' ≤ R.cells) (hsR : slots' ≤ R.slots)
    (hP : va_P D vwCl ws H) (hD : va_D A ws) (hS : va_S A s.heap H locs) (hdg : decode cc pc = .ok (.newarray .int, 2))
    (kk : ∀ (q : Nat) (H1 : Heap), va_P D vwCl (ws ++ [(q, .inl (cy 0, N', .inl (fun _ => 0)))]) H1 → va_D A (ws ++ [(q, .inl (cy 0, N', .inl (fun _ => 0)))]) → va_S A s.heap H1 locs → W p l e R s m args below meth c H1 locs cells' slots' Q (F0 m (pc + 2) ls (.ref q :: rest))) : W p l e R s m args below meth c H locs cells slots Q (F0 m pc ls (.int n :: rest)) :=
  n_arr (aty := .int) (ty := .int) (t := 0) (a0 := (N', .inl (fun _ => 0))) C um_ac_int rfl rfl (fun _ => rfl) (fun _ => rfl) hn hN hbytes hc hs hcR hsR hP hD hS hdg kk
theorem n_boo {N' cells' slots' : Nat} {n : Int32} (C : Cg p s m args meth c cc nL own D cy A) (hn : ¬ n < 0) (hN : n.toNatClampNeg = N') (hbytes : N' * 1 ≤ 536870912) (hc : cells + 1 = cells') (hs : slots + N' = slots') (hcR : cells' ≤ R.cells) (hsR : slots' ≤ R.slots)
    (hP : va_P D vwCl ws H) (hD : va_D A ws) (hS : va_S A s.heap H locs) (hdg : decode cc pc = .ok (.newarray .boolean, 2))
    (kk : ∀ (q : Nat) (H1 : Heap), va_P D vwCl (ws ++ [(q, .inl (cy 1, N', .inl (fun _ => 0)))]) H1 → va_D A (ws ++ [(q, .inl (cy 1, N', .inl (fun _ => 0)))]) → va_S A s.heap H1 locs → W p l e R s m args below meth c H1 locs cells' slots' Q (F0 m (pc + 2) ls (.ref q :: rest))) : W p l e R s m args below meth c H locs cells slots Q (F0 m pc ls (.int n :: rest)) :=
  n_arr (aty := .boolean) (ty := .boolean) (t := 1) (a0 := (N', .inl (fun _ => 0))) C um_ac_boo rfl rfl (fun _ => rfl) (fun _ => rfl) hn hN hbytes hc hs hcR hsR hP hD hS hdg kk
theorem n_chr {N' cells' slots' : Nat} {n : Int32} (C : Cg p s m args meth c cc nL own D cy A) (hn : ¬ n < 0) (hN : n.toNatClampNeg = N') (hbytes : N' * 2 ≤ 536870912) (hc : cells + 1 = cells') (hs : slots + N' = slots') (hcR : cells' ≤ R.cells) (hsR : slots' ≤ R.slots)
    (hP : va_P D vwCl ws H) (hD : va_D A ws) (hS : va_S A s.heap H locs) (hdg : decode cc pc = .ok (.newarray .char, 2))
    (kk : ∀ (q : Nat) (H1 : Heap), va_P D vwCl (ws ++ [(q, .inl (cy 2, N', .inl (fun _ => 0)))]) H1 → va_D A (ws ++ [(q, .inl (cy 2, N', .inl (fun _ => 0)))]) → va_S A s.heap H1 locs → W p l e R s m args below meth c H1 locs cells' slots' Q (F0 m (pc + 2) ls (.ref q :: rest))) : W p l e R s m args below meth c H locs cells slots Q (F0 m pc ls (.int n :: rest)) :=
  n_arr (aty := .char) (ty := .char) (t := 2) (a0 := (N', .inl (fun _ => 0))) C um_ac_chr rfl rfl (fun _ => rfl) (fun _ => rfl) hn hN hbytes hc hs hcR hsR hP hD hS hdg kk
theorem n_lng {N' cells' slots' : Nat} {n : Int32} (C : Cg p s m args meth c cc nL own D cy A) (hn : ¬ n < 0) (hN : n.toNatClampNeg = N') (hbytes : N' * 8 ≤ 536870912) (hc : cells + 1 = cells') (hs : slots + N' = slots') (hcR : cells' ≤ R.cells) (hsR : slots' ≤ R.slots)
    (hP : va_P D vwCl ws H) (hD : va_D A ws) (hS : va_S A s.heap H locs) (hdg : decode cc pc = .ok (.newarray .long, 2))
    (kk : ∀ (q : Nat) (H1 : Heap), va_P D vwCl (ws ++ [(q, .inl (cy 3, N', .inr (.inl (fun _ => 0))))]) H1 → va_D A (ws ++ [(q, .inl (cy 3, N', .inr (.inl (fun _ => 0))))]) → va_S A s.heap H1 locs → W p l e R s m args below meth c H1 locs cells' slots' Q (F0 m (pc + 2) ls (.ref q :: rest))) : W p l e R s m args below meth c H locs cells slots Q (F0 m pc ls (.int n :: rest)) :=
  n_arr (aty := .long) (ty := .long) (t := 3) (a0 := (N', .inr (.inl (fun _ => 0)))) C um_ac_lng rfl rfl (fun _ => rfl) (fun _ => rfl) hn hN hbytes hc hs hcR hsR hP hD hS hdg kk
/-- new C -/
theorem n_obj {Cn : String} {T : u_T} {N ci idx cells' slots' : Nat} {dflt : List Value} (C : Cg p s m args meth c cc nL own D cy A) (hc0 : vwCl[ci]? = some (Cn, T, N)) (hin : ∀ w ∈ u_ws Cn T N, w ∈ UU) (ty0 : Nat → FieldType) (hty : ∀ k, k < N → parseFieldDescriptor (T k).2.2.1 = some (ty0 k)) (hd : ∀ j, j < N → defaultValue (ty0 j) = vp_V dflt j)
    (u1 : Cond.classLink own idx Cn ∈ UU) (u2 : Cond.instantiable Cn N ∈ UU) (u3 : Cond.initialized Cn ∈ UU) (hc : cells + 1 = cells') (hs : slots + N = slots') (hcR : cells' ≤ R.cells) (hsR : slots' ≤ R.slots)
    (hP : va_P D vwCl ws H) (hD : va_D A ws) (hS : va_S A s.heap H locs) (hdg : decode cc pc = .ok (.new idx, 3))
    (kk : ∀ (q : Nat) (H1 : Heap), va_P D vwCl (ws ++ [(q, .inr (ci, dflt))]) H1 → va_D A (ws ++ [(q, .inr (ci, dflt))]) → va_S A s.heap H1 locs → W p l e R s m args below meth c H1 locs cells' slots' Q (F0 m (pc + 3) ls (.ref q :: rest))) : W p l e R s m args below meth c H locs cells slots Q (F0 m pc ls rest) := by
  subst hc; subst hs
  exact va_new C.x C.b C.t hin ty0 hty C.o (C.t _ u1) (C.t _ u2) (C.t _ u3) C.k.1.1 hP hD hS C.a hc0 hd hcR hsR hdg kk
/-- the new object's fields: it stands first -/
theorem q_fin {j idx ci h0 : Nat} {T : u_T} {N : Nat} {fs : List Value} {ty : FieldType} {v : Value} {ty0 : Nat → FieldType} (C : Cg p s m args meth c cc nL own D cy A) (I : meth.name = "<init>") (hc0 : vwCl[ci]? = some (own, T, N)) (hin : ∀ w ∈ u_ws own T N, w ∈ UU) (hty : ∀ k, k < N → parseFieldDescriptor (T k).2.2.1 = some (ty0 k)) (hnm : ∀ a, a < N → ∀ b, b < N → a ≠ b → (T a).2.1 ≠ (T b).2.1)
    (hj : j < N) (u : Cond.fieldLink own idx own (T j).2.1 (T j).2.2.1 ∈ UU) (hfin : (T j).2.2.2 = true) (hdc : (T j).1 = own) (hd : parseFieldDescriptor (T j).2.2.1 = some ty) (hn : narrow ty v = v) (hf : fits ty v = true) (hl : j < fs.length) {fs' : List Value} (hset : fs.set j v = fs')
    (hP : va_P D vwCl ((h0, .inr (ci, fs)) :: ws) H) (hD : va_D A ((h0, .inr (ci, fs)) :: ws)) (hS : va_S A s.heap H locs) (hdg : decode cc pc = .ok (.putfield idx, 3))
    (kk : ∀ (H1 : Heap) (locs1 : List Loc), va_P D vwCl ((h0, .inr (ci, fs')) :: ws) H1 → va_D A ((h0, .inr (ci, fs')) :: ws) → va_S A s.heap H1 locs1 → W p l e R s m args below meth c H1 locs1 cells slots Q (F0 m (pc + 3) ls rest)) : W p l e R s m args below meth c H locs cells slots Q (F0 m pc ls (v :: .ref h0 :: rest)) := by
  subst hset
  exact va_putF C.x C.b C.t hin ty0 hty hnm C.o C.k.1.1 hP hD hS 0 rfl hc0 j hj (C.t _ u) (fun x h => by rw [hdc] at h; exact h) hfin I hdc hd hn hf hl hdg kk
theorem q_put {j idx ci h0 : Nat} {T : u_T} {N : Nat} {fs : List Value} {ty : FieldType} {v : Value} {ty0 : Nat → FieldType} (C : Cg p s m args meth c cc nL own D cy A) (hc0 : vwCl[ci]? = some (own, T, N)) (hin : ∀ w ∈ u_ws own T N, w ∈ UU) (hty : ∀ k, k < N → parseFieldDescriptor (T k).2.2.1 = some (ty0 k)) (hnm : ∀ a, a < N → ∀ b, b < N → a ≠ b → (T a).2.1 ≠ (T b).2.1)
    (hj : j < N) (u : Cond.fieldLink own idx own (T j).2.1 (T j).2.2.1 ∈ UU) (hfin : (T j).2.2.2 = false) (hdc : (T j).1 = own) (hd : parseFieldDescriptor (T j).2.2.1 = some ty) (hn : narrow ty v = v) (hf : fits ty v = true) (hl : j < fs.length) {fs' : List Value} (hset : fs.set j v = fs')
    (hP : va_P D vwCl ((h0, .inr (ci, fs)) :: ws) H) (hD : va_D A ((h0, .inr (ci, fs)) :: ws)) (hS : va_S A s.heap H locs) (hdg : decode cc pc = .ok (.putfield idx, 3))
    (kk : ∀ (H1 : Heap) (locs1 : List Loc), va_P D vwCl ((h0, .inr (ci, fs')) :: ws) H1 → va_D A ((h0, .inr (ci, fs')) :: ws) → va_S A s.heap H1 locs1 → W p l e R s m args below meth c H1 locs1 cells slots Q (F0 m (pc + 3) ls rest)) : W p l e R s m args below meth c H locs cells slots Q (F0 m pc ls (v :: .ref h0 :: rest)) := by
  subst hset
  exact va_put C.x C.b C.t hin ty0 hty hnm C.o C.k.1.1 hP hD hS 0 rfl hc0 j hj (C.t _ u) (fun x h => by rw [hdc] at h; exact h) hfin hd hn hf hl hdg kk
theorem q_get {j idx ci h0 : Nat} {T : u_T} {N : Nat} {fs : List Value} {v : Value} (C : Cg p s m args meth c cc nL own D cy A) (hc0 : vwCl[ci]? = some (own, T, N)) (hin : ∀ w ∈ u_ws own T N, w ∈ UU) (hj : j < N) (u : Cond.fieldLink own idx own (T j).2.1 (T j).2.2.1 ∈ UU) (hdc : (T j).1 = own) (hv : fs[j]? = some v)
    (hP : va_P D vwCl ((h0, .inr (ci, fs)) :: ws) H) (hdg : decode cc pc = .ok (.getfield idx, 3))
    (kk : W p l e R s m args below meth c H locs cells slots Q (F0 m (pc + 3) ls (v :: rest))) : W p l e R s m args below meth c H locs cells slots Q (F0 m pc ls (.ref h0 :: rest)) :=
  va_get C.x C.b C.t hin C.o C.k.1.1 hP 0 rfl hc0 j hj (C.t _ u) (fun x h => by rw [hdc] at h; exact h) hv hdg kk
/-! a constructor called on the object that was made last -/
section N
variable {idx cn fr lo MC MS fr' lo' mc ms k n ci cells' slots' : Nat} {y : MethodName} {cy' : ByteArray} {as : List Value} {dflt : List Value} {L : List Shp} {μ : Mem} {q : Nat}
theorem nblind {h0 sz : Nat} : FrameBlind (va_Pc (.ref h0 :: as) (fun U => U.heap.size = sz ∧ va_P D vwCl [(h0, .inr (ci, dflt))] U.heap ∧ KD D cy U ∧ va_D (fun _ => True) [(h0, .inr (ci, dflt))])) := fun _ U _ _ z => ⟨z.1, z.2.1, z.2.2.1, KD.same (s := U) rfl z.2.2.2.1, z.2.2.2.2⟩
def MN (y : MethodName) (cy : ByteArray) (cn n : Nat) : Prop := Cond.instanceMethod y ∈ UU ∧ Cond.initialized y.cls ∈ UU ∧ Cond.code y cy cn none ∈ UU ∧ y.name = "<init>" ∧ y.cls ≠ "java/lang/invoke/MethodHandle" ∧ y.cls ≠ "java/lang/invoke/VarHandle" ∧ (parseMethodDescriptor y.desc).map (fun d => d.parameters.length) = some n
theorem gn_U (F : MN y cy' cn n) : GoodIn UU (wc y cy' cn none) := goodIn_U (fun w hw => by
  rcases List.mem_cons.mp hw with rfl | hw
  · exact F.2.2.1
  · exact hw)
theorem n_pre (C : Cg p s m args meth c cc nL own D cy A) (hP : va_P D vwCl (ws ++ [(q, .inr (ci, dflt))]) H) (hD : va_D A (ws ++ [(q, .inr (ci, dflt))])) :
    PreS s H (va_Pc (.ref q :: as) (fun U => U.heap.size = H.size ∧ va_P D vwCl [(q, .inr (ci, dflt))] U.heap ∧ KD D cy U ∧ va_D (fun _ => True) [(q, .inr (ci, dflt))])) (.ref q :: as) := by
  refine ⟨nblind, fun U hU hW => ⟨rfl, by rw [hU], ?_, C.k.warm hW, ⟨fun i j x1 y1 h1 h2 _ => ?_, fun _ _ _ => trivial⟩⟩⟩
  · rw [hU]
    intro k x hx
    have h0 : k = 0 := by have := (List.getElem?_eq_some_iff.mp hx).1; simp at this; exact this
    subst h0
    cases hx
    exact hP ws.length _ (by simp)
  · have a1 := (List.getElem?_eq_some_iff.mp h1).1
    have a2 := (List.getElem?_eq_some_iff.mp h2).1
    simp at a1 a2
    omega
theorem n_free (C : Cg p s m args meth c cc nL own D cy A) (hD : va_D A (ws ++ [(q, .inr (ci, dflt))])) (hS : va_S A s.heap H locs) : ∀ x, va_A [((q, .inr (ci, dflt)) : Nat × va_E)] H.size x → A x := by
  intro x h
  rcases h with ⟨k, e, h⟩ | h
  · have h0 : k = 0 := by have := (List.getElem?_eq_some_iff.mp h).1; simp at this; exact this
    subst h0
    cases h
    exact hD.2 ws.length (q, .inr (ci, dflt)) (by simp)
  · exact C.a x (Nat.le_trans hS.1 h)
theorem k_new (hM : CK l y cy' cn fr' lo' mc ms D cy ci dflt as L μ) (F : MN y cy' cn n) (u : Cond.methodLink own idx y ∈ UU) (C : Cg p s m args meth c cc nL own D cy A)
    (hP : va_P D vwCl (ws ++ [(q, .inr (ci, dflt))]) H) (hD : va_D A (ws ++ [(q, .inr (ci, dflt))])) (hS : va_S A s.heap H locs) (hn : as.length = n) (hR : fr' + 1 ≤ fr ∧ 8 + (cn + 11) + lo' ≤ lo) (hl : ls.size = nL) (hst : st0 = as.reverse ++ .ref q :: rest) (hW : (rest.map fun v => v.category).sum ≤ 8)
    (hc : cells + mc = cells') (hs : slots + ms = slots') (hcR : cells' ≤ MC) (hsR : slots' ≤ MS) (hdg : decode cc pc = .ok (.invokespecial idx, 3))
    (kk : ∀ (ad : Nat → Nat) (H1 : Heap) (locs1 : List Loc), ad 0 = q → va_P D vwCl (ws ++ wt D cy ad μ L) H1 → va_D A (ws ++ wt D cy ad μ L) → va_S A s.heap H1 locs1 → W p l e (rmc fr lo MC MS) s m args below meth c H1 locs1 cells' slots' Q (F0 m (pc + 3) ls rest)) : W p l e (rmc fr lo MC MS) s m args below meth c H locs cells slots Q (F0 m pc ls st0) := by
  subst hc; subst hs
  obtain ⟨f1, f2, f3, f4, f5, f6, f7⟩ := id F
  have hF := n_free C hD hS
  refine va_callv (va_runI (As := as) (rest := rest) ⟨C.x, C.b, C.n, C.o, C.t⟩ (hM q H.size) (cwI n C.t (gn_U F) rfl rfl rfl (C.t _ f2) (C.t _ u) (C.t _ f1) f4 ⟨f5, f6, f7⟩ hR) (n_pre C hP hD) rfl hn hl hst (lv_room hW) hdg ⟨hcR, hsR⟩) hS (fun x _ h => hF x h) hF (fun ad t H1 locs1 ht hvm hw hB _ hk1 hS1 => ?_)
  obtain ⟨b1, b2, b3⟩ := hB
  rw [ht] at b1
  obtain ⟨j1, j2⟩ := join1 hP hD hk1 hF b1 b3
  exact kk ad H1 locs1 hw j1 j2 hS1
theorem k_newN {host : String} (hM : CK l y cy' cn fr' lo' mc ms D cy ci dflt as L μ) (F : MN y cy' cn n) (u : Cond.methodLinkNest own idx y host ∈ nests) (C : Cg p s m args meth c cc nL own D cy A)
    (hP : va_P D vwCl (ws ++ [(q, .inr (ci, dflt))]) H) (hD : va_D A (ws ++ [(q, .inr (ci, dflt))])) (hS : va_S A s.heap H locs) (hn : as.length = n) (hR : fr' + 1 ≤ fr ∧ 8 + (cn + 11) + lo' ≤ lo) (hl : ls.size = nL) (hst : st0 = as.reverse ++ .ref q :: rest) (hW : (rest.map fun v => v.category).sum ≤ 8)
    (hc : cells + mc = cells') (hs : slots + ms = slots') (hcR : cells' ≤ MC) (hsR : slots' ≤ MS) (hdg : decode cc pc = .ok (.invokespecial idx, 3))
    (kk : ∀ (ad : Nat → Nat) (H1 : Heap) (locs1 : List Loc), ad 0 = q → va_P D vwCl (ws ++ wt D cy ad μ L) H1 → va_D A (ws ++ wt D cy ad μ L) → va_S A s.heap H1 locs1 → W p l e (rmc fr lo MC MS) s m args below meth c H1 locs1 cells' slots' Q (F0 m (pc + 3) ls rest)) : W p l e (rmc fr lo MC MS) s m args below meth c H locs cells slots Q (F0 m pc ls st0) := by
  subst hc; subst hs
  obtain ⟨f1, f2, f3, f4, f5, f6, f7⟩ := id F
  have hF := n_free C hD hS
  refine va_callv (va_runIN (As := as) (rest := rest) ⟨C.x, C.b, C.n, C.o, C.t⟩ (hM q H.size) ⟨va_cnB n C.t (gn_U F) rfl rfl rfl (C.k.1.2 _ u) (C.t _ f2) ⟨f5, f6, f7⟩ hR, f4, C.t _ f1⟩ (n_pre C hP hD) rfl hn hl hst (lv_room hW) hdg ⟨hcR, hsR⟩) hS (fun x _ h => hF x h) hF (fun ad t H1 locs1 ht hvm hw hB _ hk1 hS1 => ?_)
  obtain ⟨b1, b2, b3⟩ := hB
  rw [ht] at b1
  obtain ⟨j1, j2⟩ := join1 hP hD hk1 hF b1 b3
  exact kk ad H1 locs1 hw j1 j2 hS1
/-- entry and end -/
theorem e_new (hy : plainName y.cls = true) {lv : Nat → List (Nat × Value)} (hlen : ∀ h0, (lg_sl (.ref h0 :: as)).length ≤ cn) (hlv : ∀ h0, lv_args 0 (.ref h0 :: as) = lv h0)
    (body : ∀ (h0 : Nat) (p : Program) (e : Env) (s : State) (m : MethodId) (args : Array Value) (below : List Frame) (meth : Method) (c : Code) (ls : Array Slot) (A : Nat → Prop), Cg p s m args meth c cy' cn y.cls D cy A → Ci meth → A = va_A [(h0, .inr (ci, dflt))] s.heap.size → va_P D vwCl [(h0, .inr (ci, dflt))] s.heap → va_D A [(h0, .inr (ci, dflt))] → va_S A s.heap s.heap [] → lv_has ls cn (lv h0) →
      W p l e (rmc fr lo mc ms) s m args below meth c s.heap [] 0 0 (MQ below (va_Qv (fun ad : Nat → Nat => ad 0 = h0) (fun ad t => va_P D vwCl (wt D cy ad μ L) t.heap ∧ KD D cy t ∧ va_D A (wt D cy ad μ L)) A) args s mc ms A) (F0 m 0 ls [])) (hin : y.name = "<init>") : CK l y cy' cn fr lo mc ms D cy ci dflt as L μ := by
  intro h0 sz
  refine Met.ofW (cc := cy') (maxL := cn) (ret := none) hy rfl ?_
  intro p e s m args below meth c s₁ B hml hv
  obtain ⟨rfl, hsz, hP, hK, hD0⟩ := hv
  subst hsz
  have hts := atoms_spec (ws := wc y cy' cn none) B.pre
  have hl := lv_entry (.ref h0 :: as) (n := cn) (hlen h0)
  rw [lg_entry_eq]
  generalize (lg_sl (.ref h0 :: as) ++ List.replicate (cn - (lg_sl (.ref h0 :: as)).length) Slot.unset).toArray = ls at hl ⊢
  rw [hlv] at hl
  have hD := hD0.self (sz := s.heap.size)
  exact body h0 p e s m _ below meth c ls _ ⟨B.exec, B.bytes, hml, findClass_of_methodNamed B.named, fun w hw => hts w (List.mem_cons_of_mem _ hw), hK, fun q h => Or.inr h⟩ ⟨B.returns, B.notSynchronized, (name_of_methodNamed B.named B.method).1.trans hin⟩ rfl hP hD va_S.rf hl
theorem r_new {h0 : Nat} {ad : Nat → Nat} (had : ad 0 = h0) (hw : ws = wt D cy ad μ L) (hc : cells ≤ mc) (hs : slots ≤ ms) (C : Cg p s m args meth c cc nL own D cy A) (I : Ci meth) (hP : va_P D vwCl ws H) (hD : va_D A ws) (hS : va_S A s.heap H locs) (hdg : decode cc pc = .ok (.return_, 1)) :
    W p l e R s m args below meth c H locs cells slots (MQ below (va_Qv (fun ad : Nat → Nat => ad 0 = h0) (fun ad t => va_P D vwCl (wt D cy ad μ L) t.heap ∧ KD D cy t ∧ va_D A (wt D cy ad μ L)) A) args s mc ms A) (F0 m pc ls []) := by
  subst hw
  refine W.widen hc hs ?_
  exact W.vret C.x C.b I.1 (fun t ht hW => ⟨⟨ad, rfl, had, by rw [ht]; exact hP, C.k.warm hW, hD⟩, hS.F ht⟩) hS.2.2 hdg I.2.1
end N
/-! the same, the new object first, what it holds behind it -/
section HC
variable {fr lo MC MS h0 : Nat} {e0 : va_E} {rw : va_W}
theorem h_int {N' cells' slots' : Nat} {n : Int32} (C : Cg p s m args meth c cc nL own D cy A) (hn : ¬ n < 0) (hN : n.toNatClampNeg = N') (hbytes : N' * 4 ≤ 536870912) (hc : cells + 1 = cells') (hs : slots + N' = slots') (hcR : cells' ≤ R.cells) (hsR : slots' ≤ R.slots)
    (hP : va_P D vwCl ((h0, e0) :: rw) H) (hD : va_D A ((h0, e0) :: rw)) (hS : va_S A s.heap H locs) (hdg : decode cc pc = .ok (.newarray .int, 2))
    (kk : ∀ (q : Nat) (H1 : Heap), va_P D vwCl ((h0, e0) :: (rw ++ [(q, .inl (cy 0, N', .inl (fun _ => 0)))])) H1 → va_D A ((h0, e0) :: (rw ++ [(q, .inl (cy 0, N', .inl (fun _ => 0)))])) → va_S A s.heap H1 locs → W p l e R s m args below meth c H1 locs cells' slots' Q (F0 m (pc + 2) ls (.ref q :: rest))) : W p l e R s m args below meth c H locs cells slots Q (F0 m pc ls (.int n :: rest)) :=
  n_int C hn hN hbytes hc hs hcR hsR hP hD hS hdg (fun q H1 h1 h2 h3 => kk q H1 h1 h2 h3)
theorem h_boo {N' cells' slots' : Nat} {n : Int32} (C : Cg p s m args meth c cc nL own D cy A) (hn : ¬ n < 0) (hN : n.toNatClampNeg = N') (hbytes : N' * 1 ≤ 536870912) (hc : cells + 1 = cells') (hs : slots + N' = slots') (hcR : cells' ≤ R.cells) (hsR : slots' ≤ R.slots)
    (hP : va_P D vwCl ((h0, e0) :: rw) H) (hD : va_D A ((h0, e0) :: rw)) (hS : va_S A s.heap H locs) (hdg : decode cc pc = .ok (.newarray .boolean, 2))
    (kk : ∀ (q : Nat) (H1 : Heap), va_P D vwCl ((h0, e0) :: (rw ++ [(q, .inl (cy 1, N', .inl (fun _ => 0)))])) H1 → va_D A ((h0, e0) :: (rw ++ [(q, .inl (cy 1, N', .inl (fun _ => 0)))])) → va_S A s.heap H1 locs → W p l e R s m args below meth c H1 locs cells' slots' Q (F0 m (pc + 2) ls (.ref q :: rest))) : W p l e R s m args below meth c H locs cells slots Q (F0 m pc ls (.int n :: rest)) :=
  n_boo C hn hN hbytes hc hs hcR hsR hP hD hS hdg (fun q H1 h1 h2 h3 => kk q H1 h1 h2 h3)
theorem h_chr {N' cells' slots' : Nat} {n : Int32} (C : Cg p s m args meth c cc nL own D cy A) (hn : ¬ n < 0) (hN : n.toNatClampNeg = N') (hbytes : N' * 2 ≤ 536870912) (hc : cells + 1 = cells') (hs : slots + N' = slots') (hcR : cells' ≤ R.cells) (hsR : slots' ≤ R.slots)
    (hP : va_P D vwCl ((h0, e0) :: rw) H) (hD : va_D A ((h0, e0) :: rw)) (hS : va_S A s.heap H locs) (hdg : decode cc pc = .ok (.newarray .char, 2))
    (kk : ∀ (q : Nat) (H1 : Heap), va_P D vwCl ((h0, e0) :: (rw ++ [(q, .inl (cy 2, N', .inl (fun _ => 0)))])) H1 → va_D A ((h0, e0) :: (rw ++ [(q, .inl (cy 2, N', .inl (fun _ => 0)))])) → va_S A s.heap H1 locs → W p l e R s m args below meth c H1 locs cells' slots' Q (F0 m (pc + 2) ls (.ref q :: rest))) : W p l e R s m args below meth c H locs cells slots Q (F0 m pc ls (.int n :: rest)) :=
  n_chr C hn hN hbytes hc hs hcR hsR hP hD hS hdg (fun q H1 h1 h2 h3 => kk q H1 h1 h2 h3)
theorem h_lng {N' cells' slots' : Nat} {n : Int32} (C : Cg p s m args meth c cc nL own D cy A) (hn : ¬ n < 0) (hN : n.toNatClampNeg = N') (hbytes : N' * 8 ≤ 536870912) (hc : cells + 1 = cells') (hs : slots + N' = slots') (hcR : cells' ≤ R.cells) (hsR : slots' ≤ R.slots)
    (hP : va_P D vwCl ((h0, e0) :: rw) H) (hD : va_D A ((h0, e0) :: rw)) (hS : va_S A s.heap H locs) (hdg : decode cc pc = .ok (.newarray .long, 2))
    (kk : ∀ (q : Nat) (H1 : Heap), va_P D vwCl ((h0, e0) :: (rw ++ [(q, .inl (cy 3, N', .inr (.inl (fun _ => 0))))])) H1 → va_D A ((h0, e0) :: (rw ++ [(q, .inl (cy 3, N', .inr (.inl (fun _ => 0))))])) → va_S A s.heap H1 locs → W p l e R s m args below meth c H1 locs cells' slots' Q (F0 m (pc + 2) ls (.ref q :: rest))) : W p l e R s m args below meth c H locs cells slots Q (F0 m pc ls (.int n :: rest)) :=
  n_lng C hn hN hbytes hc hs hcR hsR hP hD hS hdg (fun q H1 h1 h2 h3 => kk q H1 h1 h2 h3)
theorem h_new {idx cn fr' lo' mc ms n ci cells' slots' : Nat} {y : MethodName} {cy' : ByteArray} {as : List Value} {dflt : List Value} {L : List Shp} {μ : Mem} {q : Nat} (hM : CK l y cy' cn fr' lo' mc ms D cy ci dflt as L μ) (F : MN y cy' cn n) (u : Cond.methodLink own idx y ∈ UU) (C : Cg p s m args meth c cc nL own D cy A)
    (hP : va_P D vwCl (((h0, e0) :: rw) ++ [(q, .inr (ci, dflt))]) H) (hD : va_D A (((h0, e0) :: rw) ++ [(q, .inr (ci, dflt))])) (hS : va_S A s.heap H locs) (hn : as.length = n) (hR : fr' + 1 ≤ fr ∧ 8 + (cn + 11) + lo' ≤ lo) (hl : ls.size = nL) (hst : st0 = as.reverse ++ .ref q :: rest) (hW : (rest.map fun v => v.category).sum ≤ 8)
    (hc : cells + mc = cells') (hs : slots + ms = slots') (hcR : cells' ≤ MC) (hsR : slots' ≤ MS) (hdg : decode cc pc = .ok (.invokespecial idx, 3))
    (kk : ∀ (ad : Nat → Nat) (H1 : Heap) (locs1 : List Loc), ad 0 = q → va_P D vwCl ((h0, e0) :: (rw ++ wt D cy ad μ L)) H1 → va_D A ((h0, e0) :: (rw ++ wt D cy ad μ L)) → va_S A s.heap H1 locs1 → W p l e (rmc fr lo MC MS) s m args below meth c H1 locs1 cells' slots' Q (F0 m (pc + 3) ls rest)) : W p l e (rmc fr lo MC MS) s m args below meth c H locs cells slots Q (F0 m pc ls st0) :=
  k_new hM F u C hP hD hS hn hR hl hst hW hc hs hcR hsR hdg (fun ad H1 locs1 h0 h1 h2 h3 => kk ad H1 locs1 h0 h1 h2 h3)
theorem h_newN {idx cn fr' lo' mc ms n ci cells' slots' : Nat} {y : MethodName} {cy' : ByteArray} {as : List Value} {dflt : List Value} {L : List Shp} {μ : Mem} {q : Nat} {host : String} (hM : CK l y cy' cn fr' lo' mc ms D cy ci dflt as L μ) (F : MN y cy' cn n) (u : Cond.methodLinkNest own idx y host ∈ nests) (C : Cg p s m args meth c cc nL own D cy A)
    (hP : va_P D vwCl (((h0, e0) :: rw) ++ [(q, .inr (ci, dflt))]) H) (hD : va_D A (((h0, e0) :: rw) ++ [(q, .inr (ci, dflt))])) (hS : va_S A s.heap H locs) (hn : as.length = n) (hR : fr' + 1 ≤ fr ∧ 8 + (cn + 11) + lo' ≤ lo) (hl : ls.size = nL) (hst : st0 = as.reverse ++ .ref q :: rest) (hW : (rest.map fun v => v.category).sum ≤ 8)
    (hc : cells + mc = cells') (hs : slots + ms = slots') (hcR : cells' ≤ MC) (hsR : slots' ≤ MS) (hdg : decode cc pc = .ok (.invokespecial idx, 3))
    (kk : ∀ (ad : Nat → Nat) (H1 : Heap) (locs1 : List Loc), ad 0 = q → va_P D vwCl ((h0, e0) :: (rw ++ wt D cy ad μ L)) H1 → va_D A ((h0, e0) :: (rw ++ wt D cy ad μ L)) → va_S A s.heap H1 locs1 → W p l e (rmc fr lo MC MS) s m args below meth c H1 locs1 cells' slots' Q (F0 m (pc + 3) ls rest)) : W p l e (rmc fr lo MC MS) s m args below meth c H locs cells slots Q (F0 m pc ls st0) :=
  k_newN hM F u C hP hD hS hn hR hl hst hW hc hs hcR hsR hdg (fun ad H1 locs1 h0 h1 h2 h3 => kk ad H1 locs1 h0 h1 h2 h3)
end HC
end GROW
