/-! GROWING WORLDS: what constructors make. A part L of the table, its cells at the addresses ad -/
def wt (D : va_G) (cy : Nat → ClassId) (ad : Nat → Nat) (μ : Mem) (L : List Shp) : va_W := L.mapIdx (fun k x => (ad k, ce (D, cy, ad) μ k x))
def AOL (U : State) : Prop := (Cond.arrayOver (.array .long)).before #[] U = true
theorem AOL.moved {u U : State} (hvm : u.vm.Alike U.vm) (h : AOL u) : AOL U := Jvm.Stand.arrayOver_alikeB hvm h
def KD (D : va_G) (cy : Nat → ClassId) (U : State) : Prop := Kn (D, cy, id) U ∧ va_AO "StoneRoads$Tape" U ∧ AOL U
theorem KD.warm {D : va_G} {cy : Nat → ClassId} {s U : State} (hW : s.WarmedH U.vm) (h : KD D cy s) : KD D cy U := ⟨h.1.warm hW, h.2.1.moved hW.alike, h.2.2.moved hW.alike⟩
theorem KD.same {D : va_G} {cy : Nat → ClassId} {s U : State} (hv : s.vm = U.vm) (h : KD D cy s) : KD D cy U := ⟨h.1.same hv, h.2.1.moved (by rw [hv]; exact Vm.Alike.refl _), h.2.2.moved (by rw [hv]; exact Vm.Alike.refl _)⟩
def Cg (p : Program) (s : State) (m : MethodId) (args : Array Value) (meth : Method) (c : Code) (cc : ByteArray) (nL : Nat) (own : String) (D : va_G) (cy : Nat → ClassId) (A : Nat → Prop) : Prop :=
  p.tables.exec = Jvm.exec ∧ c.code = cc ∧ c.maxLocals = nL ∧ s.vm.findClass own = some m.cls ∧ (∀ w ∈ UU, w.before args s = true) ∧ KD D cy s ∧ (∀ q, s.heap.size ≤ q → A q)
def Ci (meth : Method) : Prop := meth.sig.returnType = none ∧ meth.locks = false ∧ meth.name = "<init>"
abbrev rmc (fr lo mc ms : Nat) : Room := { frames := fr, cells := mc, slots := ms, locals := lo }
theorem join1 {A0 : Nat → Prop} {D : va_G} {cl : List vw_C} {ws w1 : va_W} {x : Nat × va_E} {H H1 : Heap} (hP : va_P D cl (ws ++ [x]) H) (hD : va_D A0 (ws ++ [x]))
    (hk : ∀ q : Nat, q < H.size → ¬ va_A [x] H.size q → H1[q]? = H[q]?) (hF : ∀ q, va_A [x] H.size q → A0 q) (hP1 : va_P D cl w1 H1) (hD1 : va_D (va_A [x] H.size) w1) : va_P D cl (ws ++ w1) H1 ∧ va_D A0 (ws ++ w1) := by
  have lf : ∀ (k : Nat) (q : Nat × va_E), ws[k]? = some q → (ws ++ [x])[k]? = some q := fun k q h => by
    rw [List.getElem?_append_left (List.getElem?_eq_some_iff.mp h).1]; exact h
  have apart : ∀ (k : Nat) (q : Nat × va_E), ws[k]? = some q → q.1 < H.size ∧ ¬ va_A [x] H.size q.1 := by
    intro k q hq
    have hl := (hP k q (lf k q hq)).lt
    refine ⟨hl, fun h => ?_⟩
    rcases h with ⟨k2, e, h⟩ | h
    · have h0 : k2 = 0 := by have := (List.getElem?_eq_some_iff.mp h).1; simp at this; exact this
      subst h0
      cases h
      have hx : (ws ++ [(q.1, e)])[ws.length]? = some (q.1, e) := by simp
      have hij := hD.1 k ws.length q (q.1, e) (lf k q hq) hx rfl
      have := (List.getElem?_eq_some_iff.mp hq).1
      omega
    · omega
  have hDl : va_D A0 ws := ⟨fun i j p q hi hj e => hD.1 i j p q (lf i p hi) (lf j q hj) e, fun k q h => hD.2 k q (lf k q h)⟩
  refine ⟨va_P.app (fun k q hq => ?_) hP1, va_D.app hDl (hD1.weaken (fun k q _ h => hF q.1 h)) (fun i j x1 y hx hy hxy => ?_)⟩
  · obtain ⟨g1, g2⟩ := apart k q hq
    exact (hP k q (lf k q hq)).kept (hk q.1 g1 g2)
  · exact (apart i x1 hx).2 (by rw [hxy]; exact hD1.2 j y hy)
/-- a constructor's contract -/
def CK (l : Launch) (y : MethodName) (cc : ByteArray) (n fr lo mc ms : Nat) (D : va_G) (cy : Nat → ClassId) (ci : Nat) (dflt : List Value) (as : List Value) (L : List Shp) (μ : Mem) : Prop := ∀ (h0 sz : Nat),
  Met l y (wc y cc n none) (rmc fr lo mc ms) (va_Pc (.ref h0 :: as) (fun U => U.heap.size = sz ∧ va_P D vwCl [(h0, .inr (ci, dflt))] U.heap ∧ KD D cy U ∧ va_D (fun _ => True) [(h0, .inr (ci, dflt))]))
    (va_Qv (fun ad : Nat → Nat => ad 0 = h0) (fun ad t => va_P D vwCl (wt D cy ad μ L) t.heap ∧ KD D cy t ∧ va_D (va_A [(h0, .inr (ci, dflt))] sz) (wt D cy ad μ L)) (va_A [(h0, .inr (ci, dflt))] sz)) mc ms (va_A [(h0, .inr (ci, dflt))] sz)
section GROW
variable {p : Program} {l : Launch} {e : Env} {R : Room} {s : State} {m : MethodId} {args : Array Value} {below : List Frame} {meth : Method} {c : Code} {H : Heap} {locs : List Loc} {cells slots : Nat} {Q : State → Prop}
variable {cc : ByteArray} {nL : Nat} {own : String} {D : va_G} {cy : Nat → ClassId} {A : Nat → Prop} {ws : va_W}
variable {pc : Nat} {ls : Array Slot} {rest st0 : List Value}
theorem Cg.x (C : Cg p s m args meth c cc nL own D cy A) : p.tables.exec = Jvm.exec := C.1
theorem Cg.b (C : Cg p s m args meth c cc nL own D cy A) : c.code = cc := C.2.1
theorem Cg.n (C : Cg p s m args meth c cc nL own D cy A) : c.maxLocals = nL := C.2.2.1
theorem Cg.o (C : Cg p s m args meth c cc nL own D cy A) : s.vm.findClass own = some m.cls := C.2.2.2.1
theorem Cg.t (C : Cg p s m args meth c cc nL own D cy A) : ∀ w ∈ UU, w.before args s = true := C.2.2.2.2.1
theorem Cg.k (C : Cg p s m args meth c cc nL own D cy A) : KD D cy s := C.2.2.2.2.2.1
theorem Cg.a (C : Cg p s m args meth c cc nL own D cy A) : ∀ q, s.heap.size ≤ q → A q := C.2.2.2.2.2.2
theorem w_objInit {idx : Nat} {a : Nat} (u : Cond.methodLink own idx objectInit ∈ UU) (ui : Cond.instanceMethod objectInit ∈ UU) (uc : Cond.code objectInit ⟨#[0xb1]⟩ 1 none ∈ UU) (C : Cg p s m args meth c cc nL own D cy A) (hl : ls.size = nL) (hdg : decode cc pc = .ok (.invokespecial idx, 3)) (hf : 1 ≤ R.frames) (hlo : (rest.map fun v => v.category).sum + 12 ≤ R.locals)
    (kk : W p l e R s m args below meth c H locs cells slots Q (F0 m (pc + 3) ls rest)) : W p l e R s m args below meth c H locs cells slots Q (F0 m pc ls (.ref a :: rest)) :=
  W.objInit C.x C.b C.o (C.t _ u) (C.t _ ui) (C.t _ uc) rfl (by rw [C.n]; exact hl) rfl hdg hf (by show 2 * 0 + _ + 12 ≤ _; omega) kk
theorem n_arr {aty : ArrayType} {ty : FieldType} {t N' cells' slots' : Nat} {n : Int32} {a0 : vp_A} (C : Cg p s m args meth c cc nL own D cy A) (u : Cond.arrayClass ty ∈ UU) (hty : newarray.typeOf aty = ty) (ht : (wtys (D, cy, id))[t]? = some (cy t, ty)) (hr : ∀ cA, va_RA s cA ty = (s.vm.findClass ("[" ++ ty.toString) = some cA))
    (ha : ∀ cA : ClassId, vp_cell cA a0 = arrV cA N' (fun _ => defaultValue ty)) (hn : ¬ n < 0) (hN : n.toNatClampNeg = N') (hbytes : N' * componentBytes ty ≤ 536870912) (hc : cells + 1 = cells') (hs : slots + N' = slots') (hcR : cells' ≤ R.cells) (hsR : slots' ≤ R.slots)
    (hP : va_P D vwCl ws H) (hD : va_D A ws) (hS : va_S A s.heap H locs) (hdg : decode cc pc = .ok (.newarray aty, 2))
    (kk : ∀ (q : Nat) (H1 : Heap), va_P D vwCl (ws ++ [(q, .inl (cy t, a0))]) H1 → va_D A (ws ++ [(q, .inl (cy t, a0))]) → va_S A s.heap H1 locs → W p l e R s m args below meth c H1 locs cells' slots' Q (F0 m (pc + 2) ls (.ref q :: rest))) : W p l e R s m args below meth c H locs cells slots Q (F0 m pc ls (.int n :: rest)) := by
  subst hc; subst hs; subst hty
  refine va_newa C.x C.b (C.t _ u) rfl C.k.1.1 hP hD hS C.a ha hn hN hbytes hcR hsR hdg (fun q cA H1 hK1 h1 h2 h3 => ?_)
  have e1 := (hK1.2 6 (cA, newarray.typeOf aty) (by rfl)).2
  have e2 := (C.k.1.1.2 t _ ht).2
  rw [hr] at e1
  rw [hr] at e2
  have e3 : cA = cy t := Option.some.inj (e1.symm.trans e2)
  subst e3
  exact kk q H1 h1 h2 h3
theorem n_int {N' cells' slots' : Nat} {n : Int32} (C : Cg p s m args meth c cc nL own D cy A) (hn : ¬ n < 0) (hN : n.toNatClampNeg = N') (hbytes : N' * 4 ≤ 536870912) (hc : cells + 1 = cells') (hs : slots + N' = slots') (hcR : cells' ≤ R.cells) (hsR : slots' ≤ R.slots)
    (hP : va_P D vwCl ws H) (hD : va_D A ws) (hS : va_S A s.heap H locs) (hdg : decode cc pc = .ok (.newarray .int, 2))
    (kk : ∀ (q : Nat) (H1 : Heap), va_P D vwCl (ws ++ [(q, .inl (cy 0, N', .inl (fun _ => 0)))]) H1 → va_D A (ws ++ [(q, .inl (cy 0, N', .inl (fun _ => 0)))]) → va_S A s.heap H1 locs → W p l e R s m args below meth c H1 locs cells' slots' Q (F0 m (pc + 2) ls (.ref q :: rest))) : W p l e R s m args below meth c H locs cells slots Q (F0 m pc ls (.int n :: rest)) :=
  n_arr (aty := .int) (ty := .int) (t := 0) (a0 := (N', .inl (fun _ => 0))) C um_ac_int rfl rfl (fun _ => rfl) (fun _ => rfl) hn hN hbytes hc hs hcR hsR hP hD hS hdg kk
theorem n_boo {N' cells' slots' : Nat} {n : Int32} (C : Cg p s m args meth c cc nL own D cy A) (hn : ¬ n < 0) (hN : n.toNatClampNeg = N') (hbytes : N' * 1 ≤ 536870912) (hc : cells + 1 = cells') (hs : slots + N' = slots') (hcR : cells' ≤ R.cells) (hsR : slots' ≤ R.slots)
    (hP : va_P D vwCl ws H) (hD : va_D A ws) (hS : va_S A s.heap H locs) (hdg : decode cc pc = .ok (.newarray .boolean, 2))
    (kk : ∀ (q : Nat) (H1 : Heap), va_P D vwCl (ws ++ [(q, .inl (cy 1, N', .inl (fun _ => 0)))]) H1 → va_D A (ws ++ [(q, .inl (cy 1, N', .inl (fun _ => 0)))]) → va_S A s.heap H1 locs → W p l e R s m args below meth c H1 locs cells' slots' Q (F0 m (pc + 2) ls (.ref q :: rest))) : W p l e R s m args below meth c H locs cells slots Q (F0 m pc ls (.int n :: rest)) :=
  n_arr (aty := .boolean) (ty := .boolean) (t := 1) (a0 := (N', .inl (fun _ => 0))) C um_ac_boo rfl rfl (fun _ => rfl) (fun _ => rfl) hn hN hbytes hc hs hcR hsR hP hD hS hdg kk
theorem n_chr {N' cells' slots' : Nat} {n : Int32} (C : Cg p s m args meth c cc nL own D cy A) (hn : ¬ n < 0) (hN : n.toNatClampNeg = N') (hbytes : N' * 2 ≤ 536870912) (hc : cells + 1 = cells') (hs : slots + N' = slots') (hcR : cells' ≤ R.cells) (hsR : slots' ≤ R.slots)
    (hP : va_P D vwCl ws H) (hD : va_D A ws) (hS : va_S A s.heap H locs) (hdg : decode cc pc = .ok (.newarray .char, 2))
    (kk : ∀ (q : Nat) (H1 : Heap), va_P D vwCl (ws ++ [(q, .inl (cy 2, N', .inl (fun _ => 0)))]) H1 → va_D A (ws ++ [(q, .inl (cy 2, N', .inl (fun _ => 0)))]) → va_S A s.heap H1 locs → W p l e R s m args below meth c H1 locs cells' slots' Q (F0 m (pc + 2) ls (.ref q :: rest))) : W p l e R s m args below meth c H locs cells slots Q (F0 m pc ls (.int n :: rest)) :=
  n_arr (aty := .char) (ty := .char) (t := 2) (a0 := (N', .inl (fun _ => 0))) C um_ac_chr rfl rfl (fun _ => rfl) (fun _ => rfl) hn hN hbytes hc hs hcR hsR hP hD hS hdg kk
theorem n_lng {N' cells' slots' : Nat} {n : Int32} (C : Cg p s m args meth c cc nL own D cy A) (hn : ¬ n < 0) (hN : n.toNatClampNeg = N') (hbytes : N' * 8 ≤ 536870912) (hc : cells + 1 = cells') (hs : slots + N' = slots') (hcR : cells' ≤ R.cells) (hsR : slots' ≤ R.slots)
    (hP : va_P D vwCl ws H) (hD : va_D A ws) (hS : va_S A s.heap H locs) (hdg : decode cc pc = .ok (.newarray .long, 2))
    (kk : ∀ (q : Nat) (H1 : Heap), va_P D vwCl (ws ++ [(q, .inl (cy 3, N', .inr (.inl (fun _ => 0))))]) H1 → va_D A (ws ++ [(q, .inl (cy 3, N', .inr (.inl (fun _ => 0))))]) → va_S A s.heap H1 locs → W p l e R s m args below meth c H1 locs cells' slots' Q (F0 m (pc + 2) ls (.ref q :: rest))) : W p l e R s m args below meth c H locs cells slots Q (F0 m pc ls (.int n :: rest)) :=
  n_arr (aty := .long) (ty := .long) (t := 3) (a0 := (N', .inr (.inl (fun _ => 0)))) C um_ac_lng rfl rfl (fun _ => rfl) (fun _ => rfl) hn hN hbytes hc hs hcR hsR hP hD hS hdg kk
/-- new C -/
theorem n_obj {Cn : String} {T : u_T} {N ci idx cells' slots' : Nat} {dflt : List Value} (C : Cg p s m args meth c cc nL own D cy A) (hc0 : vwCl[ci]? = some (Cn, T, N)) (hin : ∀ w ∈ u_ws Cn T N, w ∈ UU) (ty0 : Nat → FieldType) (hty : ∀ k, k < N → parseFieldDescriptor (T k).2.2.1 = some (ty0 k)) (hd : ∀ j, j < N → defaultValue (ty0 j) = vp_V dflt j)
    (u1 : Cond.classLink own idx Cn ∈ UU) (u2 : Cond.instantiable Cn N ∈ UU) (u3 : Cond.initialized Cn ∈ UU) (hc : cells + 1 = cells') (hs : slots + N = slots') (hcR : cells' ≤ R.cells) (hsR : slots' ≤ R.slots)
    (hP : va_P D vwCl ws H) (hD : va_D A ws) (hS : va_S A s.heap H locs) (hdg : decode cc pc = .ok (.new idx, 3))
    (kk : ∀ (q : Nat) (H1 : Heap), va_P D vwCl (ws ++ [(q, .inr (ci, dflt))]) H1 → va_D A (ws ++ [(q, .inr (ci, dflt))]) → va_S A s.heap H1 locs → W p l e R s m args below meth c H1 locs cells' slots' Q (F0 m (pc + 3) ls (.ref q :: rest))) : W p l e R s m args below meth c H locs cells slots Q (F0 m pc ls rest) := by
  subst hc; subst hs
  exact va_new C.x C.b C.t hin ty0 hty C.o (C.t _ u1) (C.t _ u2) (C.t _ u3) C.k.1.1 hP hD hS C.a hc0 hd hcR hsR hdg kk
/-- the new object's fields: it stands first -/
theorem q_fin {j idx ci h0 : Nat} {T : u_T} {N : Nat} {fs : List Value} {ty : FieldType} {v : Value} {ty0 : Nat → FieldType} (C : Cg p s m args meth c cc nL own D cy A) (I : meth.name = "<init>") (hc0 : vwCl[ci]? = some (own, T, N)) (hin : ∀ w ∈ u_ws own T N, w ∈ UU) (hty : ∀ k, k < N → parseFieldDescriptor (T k).2.2.1 = some (ty0 k)) (hnm : ∀ a, a < N → ∀ b, b < N → a ≠ b → (T a).2.1 ≠ (T b).2.1)
    (hj : j < N) (u : Cond.fieldLink own idx own (T j).2.1 (T j).2.2.1 ∈ UU) (hfin : (T j).2.2.2 = true) (hdc : (T j).1 = own) (hd : parseFieldDescriptor (T j).2.2.1 = some ty) (hn : narrow ty v = v) (hf : fits ty v = true) (hl : j < fs.length) {fs' : List Value} (hset : fs.set j v = fs')
    (hP : va_P D vwCl ((h0, .inr (ci, fs)) :: ws) H) (hD : va_D A ((h0, .inr (ci, fs)) :: ws)) (hS : va_S A s.heap H locs) (hdg : decode cc pc = .ok (.putfield idx, 3))
    (kk : ∀ (H1 : Heap) (locs1 : List Loc), va_P D vwCl ((h0, .inr (ci, fs')) :: ws) H1 → va_D A ((h0, .inr (ci, fs')) :: ws) → va_S A s.heap H1 locs1 → W p l e R s m args below meth c H1 locs1 cells slots Q (F0 m (pc + 3) ls rest)) : W p l e R s m args below meth c H locs cells slots Q (F0 m pc ls (v :: .ref h0 :: rest)) := by
  subst hset
  exact va_putF C.x C.b C.t hin ty0 hty hnm C.o C.k.1.1 hP hD hS 0 rfl hc0 j hj (C.t _ u) (fun x h => by rw [hdc] at h; exact h) hfin I hdc hd hn hf hl hdg kk
theorem q_put {j idx ci h0 : Nat} {T : u_T} {N : Nat} {fs : List Value} {ty : FieldType} {v : Value} {ty0 : Nat → FieldType} (C : Cg p s m args meth c cc nL own D cy A) (hc0 : vwCl[ci]? = some (own, T, N)) (hin : ∀ w ∈ u_ws own T N, w ∈ UU) (hty : ∀ k, k < N → parseFieldDescriptor (T k).2.2.1 = some (ty0 k)) (hnm : ∀ a, a < N → ∀ b, b < N → a ≠ b → (T a).2.1 ≠ (T b).2.1)
    (hj : j < N) (u : Cond.fieldLink own idx own (T j).2.1 (T j).2.2.1 ∈ UU) (hfin : (T j).2.2.2 = false) (hdc : (T j).1 = own) (hd : parseFieldDescriptor (T j).2.2.1 = some ty) (hn : narrow ty v = v) (hf : fits ty v = true) (hl : j < fs.length) {fs' : List Value} (hset : fs.set j v = fs')
    (hP : va_P D vwCl ((h0, .inr (ci, fs)) :: ws) H) (hD : va_D A ((h0, .inr (ci, fs)) :: ws)) (hS : va_S A s.heap H locs) (hdg : decode cc pc = .ok (.putfield idx, 3))
    (kk : ∀ (H1 : Heap) (locs1 : List Loc), va_P D vwCl ((h0, .inr (ci, fs')) :: ws) H1 → va_D A ((h0, .inr (ci, fs')) :: ws) → va_S A s.heap H1 locs1 → W p l e R s m args below meth c H1 locs1 cells slots Q (F0 m (pc + 3) ls rest)) : W p l e R s m args below meth c H locs cells slots Q (F0 m pc ls (v :: .ref h0 :: rest)) := by
  subst hset
  exact va_put C.x C.b C.t hin ty0 hty hnm C.o C.k.1.1 hP hD hS 0 rfl hc0 j hj (C.t _ u) (fun x h => by rw [hdc] at h; exact h) hfin hd hn hf hl hdg kk
theorem q_get {j idx ci h0 : Nat} {T : u_T} {N : Nat} {fs : List Value} {v : Value} (C : Cg p s m args meth c cc nL own D cy A) (hc0 : vwCl[ci]? = some (own, T, N)) (hin : ∀ w ∈ u_ws own T N, w ∈ UU) (hj : j < N) (u : Cond.fieldLink own idx own (T j).2.1 (T j).2.2.1 ∈ UU) (hdc : (T j).1 = own) (hv : fs[j]? = some v)
    (hP : va_P D vwCl ((h0, .inr (ci, fs)) :: ws) H) (hdg : decode cc pc = .ok (.getfield idx, 3))
    (kk : W p l e R s m args below meth c H locs cells slots Q (F0 m (pc + 3) ls (v :: rest))) : W p l e R s m args below meth c H locs cells slots Q (F0 m pc ls (.ref h0 :: rest)) :=
  va_get C.x C.b C.t hin C.o C.k.1.1 hP 0 rfl hc0 j hj (C.t _ u) (fun x h => by rw [hdc] at h; exact h) hv hdg kk
/-! a constructor called on the object that was made last -/
section N
variable {idx cn fr lo MC MS fr' lo' mc ms k n ci cells' slots' : Nat} {y : MethodName} {cy' : ByteArray} {as : List Value} {dflt : List Value} {L : List Shp} {μ : Mem} {q : Nat}
theorem nblind {h0 sz : Nat} : FrameBlind (va_Pc (.ref h0 :: as) (fun U => U.heap.size = sz ∧ va_P D vwCl [(h0, .inr (ci, dflt))] U.heap ∧ KD D cy U ∧ va_D (fun _ => True) [(h0, .inr (ci, dflt))])) := fun _ U _ _ z => ⟨z.1, z.2.1, z.2.2.1, KD.same (s := U) rfl z.2.2.2.1, z.2.2.2.2⟩
def MN (y : MethodName) (cy : ByteArray) (cn n : Nat) : Prop := Cond.instanceMethod y ∈ UU ∧ Cond.initialized y.cls ∈ UU ∧ Cond.code y cy cn none ∈ UU ∧ y.name = "<init>" ∧ y.cls ≠ "java/lang/invoke/MethodHandle" ∧ y.cls ≠ "java/lang/invoke/VarHandle" ∧ (parseMethodDescriptor y.desc).map (fun d => d.parameters.length) = some n
theorem gn_U (F : MN y cy' cn n) : GoodIn UU (wc y cy' cn none) := goodIn_U (fun w hw => by
  rcases List.mem_cons.mp hw with rfl | hw
  · exact F.2.2.1
  · exact hw)
theorem n_pre (C : Cg p s m args meth c cc nL own D cy A) (hP : va_P D vwCl (ws ++ [(q, .inr (ci, dflt))]) H) (hD : va_D A (ws ++ [(q, .inr (ci, dflt))])) :
    PreS s H (va_Pc (.ref q :: as) (fun U => U.heap.size = H.size ∧ va_P D vwCl [(q, .inr (ci, dflt))] U.heap ∧ KD D cy U ∧ va_D (fun _ => True) [(q, .inr (ci, dflt))])) (.ref q :: as) := by
  refine ⟨nblind, fun U hU hW => ⟨rfl, by rw [hU], ?_, C.k.warm hW, ⟨fun i j x1 y1 h1 h2 _ => ?_, fun _ _ _ => trivial⟩⟩⟩
  · rw [hU]
    intro k x hx
    have h0 : k = 0 := by have := (List.getElem?_eq_some_iff.mp hx).1; simp at this; exact this
    subst h0
    cases hx
    exact hP ws.length _ (by simp)
  · have a1 := (List.getElem?_eq_some_iff.mp h1).1
    have a2 := (List.getElem?_eq_some_iff.mp h2).1
    simp at a1 a2
    omega
theorem n_free (C : Cg p s m args meth c cc nL own D cy A) (hD : va_D A (ws ++ [(q, .inr (ci, dflt))])) (hS : va_S A s.heap H locs) : ∀ x, va_A [((q, .inr (ci, dflt)) : Nat × va_E)] H.size x → A x := by
  intro x h
  rcases h with ⟨k, e, h⟩ | h
  · have h0 : k = 0 := by have := (List.getElem?_eq_some_iff.mp h).1; simp at this; exact this
    subst h0
    cases h
    exact hD.2 ws.length (q, .inr (ci, dflt)) (by simp)
  · exact C.a x (Nat.le_trans hS.1 h)
theorem k_new (hM : CK l y cy' cn fr' lo' mc ms D cy ci dflt as L μ) (F : MN y cy' cn n) (u : Cond.methodLink own idx y ∈ UU) (C : Cg p s m args meth c cc nL own D cy A)
    (hP : va_P D vwCl (ws ++ [(q, .inr (ci, dflt))]) H) (hD : va_D A (ws ++ [(q, .inr (ci, dflt))])) (hS : va_S A s.heap H locs) (hn : as.length = n) (hR : fr' + 1 ≤ fr ∧ 8 + (cn + 11) + lo' ≤ lo) (hl : ls.size = nL) (hst : st0 = as.reverse ++ .ref q :: rest) (hW : (rest.map fun v => v.category).sum ≤ 8)
    (hc : cells + mc = cells') (hs : slots + ms = slots') (hcR : cells' ≤ MC) (hsR : slots' ≤ MS) (hdg : decode cc pc = .ok (.invokespecial idx, 3))
    (kk : ∀ (ad : Nat → Nat) (H1 : Heap) (locs1 : List Loc), ad 0 = q → va_P D vwCl (ws ++ wt D cy ad μ L) H1 → va_D A (ws ++ wt D cy ad μ L) → va_S A s.heap H1 locs1 → W p l e (rmc fr lo MC MS) s m args below meth c H1 locs1 cells' slots' Q (F0 m (pc + 3) ls rest)) : W p l e (rmc fr lo MC MS) s m args below meth c H locs cells slots Q (F0 m pc ls st0) := by
  subst hc; subst hs
  obtain ⟨f1, f2, f3, f4, f5, f6, f7⟩ := id F
  have hF := n_free C hD hS
  refine va_callv (va_runI (As := as) (rest := rest) ⟨C.x, C.b, C.n, C.o, C.t⟩ (hM q H.size) (cwI n C.t (gn_U F) rfl rfl rfl (C.t _ f2) (C.t _ u) (C.t _ f1) f4 ⟨f5, f6, f7⟩ hR) (n_pre C hP hD) rfl hn hl hst (lv_room hW) hdg ⟨hcR, hsR⟩) hS (fun x _ h => hF x h) hF (fun ad t H1 locs1 ht hvm hw hB _ hk1 hS1 => ?_)
  obtain ⟨b1, b2, b3⟩ := hB
  rw [ht] at b1
  obtain ⟨j1, j2⟩ := join1 hP hD hk1 hF b1 b3
  exact kk ad H1 locs1 hw j1 j2 hS1
theorem k_newN {host : String} (hM : CK l y cy' cn fr' lo' mc ms D cy ci dflt as L μ) (F : MN y cy' cn n) (u : Cond.methodLinkNest own idx y host ∈ nests) (C : Cg p s m args meth c cc nL own D cy A)
    (hP : va_P D vwCl (ws ++ [(q, .inr (ci, dflt))]) H) (hD : va_D A (ws ++ [(q, .inr (ci, dflt))])) (hS : va_S A s.heap H locs) (hn : as.length = n) (hR : fr' + 1 ≤ fr ∧ 8 + (cn + 11) + lo' ≤ lo) (hl : ls.size = nL) (hst : st0 = as.reverse ++ .ref q :: rest) (hW : (rest.map fun v => v.category).sum ≤ 8)
    (hc : cells + mc = cells') (hs : slots + ms = slots') (hcR : cells' ≤ MC) (hsR : slots' ≤ MS) (hdg : decode cc pc = .ok (.invokespecial idx, 3))
    (kk : ∀ (ad : Nat → Nat) (H1 : Heap) (locs1 : List Loc), ad 0 = q → va_P D vwCl (ws ++ wt D cy ad μ L) H1 → va_D A (ws ++ wt D cy ad μ L) → va_S A s.heap H1 locs1 → W p l e (rmc fr lo MC MS) s m args below meth c H1 locs1 cells' slots' Q (F0 m (pc + 3) ls rest)) : W p l e (rmc fr lo MC MS) s m args below meth c H locs cells slots Q (F0 m pc ls st0) := by
  subst hc; subst hs
  obtain ⟨f1, f2, f3, f4, f5, f6, f7⟩ := id F
  have hF := n_free C hD hS
  refine va_callv (va_runIN (As := as) (rest := rest) ⟨C.x, C.b, C.n, C.o, C.t⟩ (hM q H.size) ⟨va_cnB n C.t (gn_U F) rfl rfl rfl (C.k.1.2 _ u) (C.t _ f2) ⟨f5, f6, f7⟩ hR, f4, C.t _ f1⟩ (n_pre C hP hD) rfl hn hl hst (lv_room hW) hdg ⟨hcR, hsR⟩) hS (fun x _ h => hF x h) hF (fun ad t H1 locs1 ht hvm hw hB _ hk1 hS1 => ?_)
  obtain ⟨b1, b2, b3⟩ := hB
  rw [ht] at b1
  obtain ⟨j1, j2⟩ := join1 hP hD hk1 hF b1 b3
  exact kk ad H1 locs1 hw j1 j2 hS1
/-- entry and end -/
theorem e_new (hy : plainName y.cls = true) {lv : Nat → List (Nat × Value)} (hlen : ∀ h0, (lg_sl (.ref h0 :: as)).length ≤ cn) (hlv : ∀ h0, lv_args 0 (.ref h0 :: as) = lv h0)
    (body : ∀ (h0 : Nat) (p : Program) (e : Env) (s : State) (m : MethodId) (args : Array Value) (below : List Frame) (meth : Method) (c : Code) (ls : Array Slot) (A : Nat → Prop), Cg p s m args meth c cy' cn y.cls D cy A → Ci meth → A = va_A [(h0, .inr (ci, dflt))] s.heap.size → va_P D vwCl [(h0, .inr (ci, dflt))] s.heap → va_D A [(h0, .inr (ci, dflt))] → va_S A s.heap s.heap [] → lv_has ls cn (lv h0) →
      W p l e (rmc fr lo mc ms) s m args below meth c s.heap [] 0 0 (MQ below (va_Qv (fun ad : Nat → Nat => ad 0 = h0) (fun ad t => va_P D vwCl (wt D cy ad μ L) t.heap ∧ KD D cy t ∧ va_D A (wt D cy ad μ L)) A) args s mc ms A) (F0 m 0 ls [])) (hin : y.name = "<init>") : CK l y cy' cn fr lo mc ms D cy ci dflt as L μ := by
  intro h0 sz
  refine Met.ofW (cc := cy') (maxL := cn) (ret := none) hy rfl ?_
  intro p e s m args below meth c s₁ B hml hv
  obtain ⟨rfl, hsz, hP, hK, hD0⟩ := hv
  subst hsz
  have hts := atoms_spec (ws := wc y cy' cn none) B.pre
  have hl := lv_entry (.ref h0 :: as) (n := cn) (hlen h0)
  rw [lg_entry_eq]
  generalize (lg_sl (.ref h0 :: as) ++ List.replicate (cn - (lg_sl (.ref h0 :: as)).length) Slot.unset).toArray = ls at hl ⊢
  rw [hlv] at hl
  have hD := hD0.self (sz := s.heap.size)
  exact body h0 p e s m _ below meth c ls _ ⟨B.exec, B.bytes, hml, findClass_of_methodNamed B.named, fun w hw => hts w (List.mem_cons_of_mem _ hw), hK, fun q h => Or.inr h⟩ ⟨B.returns, B.notSynchronized, (name_of_methodNamed B.named B.method).1.trans hin⟩ rfl hP hD va_S.rf hl
theorem r_new {h0 : Nat} {ad : Nat → Nat} (had : ad 0 = h0) (hw : ws = wt D cy ad μ L) (hc : cells ≤ mc) (hs : slots ≤ ms) (C : Cg p s m args meth c cc nL own D cy A) (I : Ci meth) (hP : va_P D vwCl ws H) (hD : va_D A ws) (hS : va_S A s.heap H locs) (hdg : decode cc pc = .ok (.return_, 1)) :
    W p l e R s m args below meth c H locs cells slots (MQ below (va_Qv (fun ad : Nat → Nat => ad 0 = h0) (fun ad t => va_P D vwCl (wt D cy ad μ L) t.heap ∧ KD D cy t ∧ va_D A (wt D cy ad μ L)) A) args s mc ms A) (F0 m pc ls []) := by
  subst hw
  refine W.widen hc hs ?_
  exact W.vret C.x C.b I.1 (fun t ht hW => ⟨⟨ad, rfl, had, by rw [ht]; exact hP, C.k.warm hW, hD⟩, hS.F ht⟩) hS.2.2 hdg I.2.1
end N
/-! the same, the new object first, what it holds behind it -/
section HC
variable {fr lo MC MS h0 : Nat} {e0 : va_E} {rw : va_W}
theorem h_int {N' cells' slots' : Nat} {n : Int32} (C : Cg p s m args meth c cc nL own D cy A) (hn : ¬ n < 0) (hN : n.toNatClampNeg = N') (hbytes : N' * 4 ≤ 536870912) (hc : cells + 1 = cells') (hs : slots + N' = slots') (hcR : cells' ≤ R.cells) (hsR : slots' ≤ R.slots)
    (hP : va_P D vwCl ((h0, e0) :: rw) H) (hD : va_D A ((h0, e0) :: rw)) (hS : va_S A s.heap H locs) (hdg : decode cc pc = .ok (.newarray .int, 2))
    (kk : ∀ (q : Nat) (H1 : Heap), va_P D vwCl ((h0, e0) :: (rw ++ [(q, .inl (cy 0, N', .inl (fun _ => 0)))])) H1 → va_D A ((h0, e0) :: (rw ++ [(q, .inl (cy 0, N', .inl (fun _ => 0)))])) → va_S A s.heap H1 locs → W p l e R s m args below meth c H1 locs cells' slots' Q (F0 m (pc + 2) ls (.ref q :: rest))) : W p l e R s m args below meth c H locs cells slots Q (F0 m pc ls (.int n :: rest)) :=
  n_int C hn hN hbytes hc hs hcR hsR hP hD hS hdg (fun q H1 h1 h2 h3 => kk q H1 h1 h2 h3)
theorem h_boo {N' cells' slots' : Nat} {n : Int32} (C : Cg p s m args meth c cc nL own D cy A) (hn : ¬ n < 0) (hN : n.toNatClampNeg = N') (hbytes : N' * 1 ≤ 536870912) (hc : cells + 1 = cells') (hs : slots + N' = slots') (hcR : cells' ≤ R.cells) (hsR : slots' ≤ R.slots)
    (hP : va_P D vwCl ((h0, e0) :: rw) H) (hD : va_D A ((h0, e0) :: rw)) (hS : va_S A s.heap H locs) (hdg : decode cc pc = .ok (.newarray .boolean, 2))
    (kk : ∀ (q : Nat) (H1 : Heap), va_P D vwCl ((h0, e0) :: (rw ++ [(q, .inl (cy 1, N', .inl (fun _ => 0)))])) H1 → va_D A ((h0, e0) :: (rw ++ [(q, .inl (cy 1, N', .inl (fun _ => 0)))])) → va_S A s.heap H1 locs → W p l e R s m args below meth c H1 locs cells' slots' Q (F0 m (pc + 2) ls (.ref q :: rest))) : W p l e R s m args below meth c H locs cells slots Q (F0 m pc ls (.int n :: rest)) :=
  n_boo C hn hN hbytes hc hs hcR hsR hP hD hS hdg (fun q H1 h1 h2 h3 => kk q H1 h1 h2 h3)
theorem h_chr {N' cells' slots' : Nat} {n : Int32} (C : Cg p s m args meth c cc nL own D cy A) (hn : ¬ n < 0) (hN : n.toNatClampNeg = N') (hbytes : N' * 2 ≤ 536870912) (hc : cells + 1 = cells') (hs : slots + N' = slots') (hcR : cells' ≤ R.cells) (hsR : slots' ≤ R.slots)
    (hP : va_P D vwCl ((h0, e0) :: rw) H) (hD : va_D A ((h0, e0) :: rw)) (hS : va_S A s.heap H locs) (hdg : decode cc pc = .ok (.newarray .char, 2))
    (kk : ∀ (q : Nat) (H1 : Heap), va_P D vwCl ((h0, e0) :: (rw ++ [(q, .inl (cy 2, N', .inl (fun _ => 0)))])) H1 → va_D A ((h0, e0) :: (rw ++ [(q, .inl (cy 2, N', .inl (fun _ => 0)))])) → va_S A s.heap H1 locs → W p l e R s m args below meth c H1 locs cells' slots' Q (F0 m (pc + 2) ls (.ref q :: rest))) : W p l e R s m args below meth c H locs cells slots Q (F0 m pc ls (.int n :: rest)) :=
  n_chr C hn hN hbytes hc hs hcR hsR hP hD hS hdg (fun q H1 h1 h2 h3 => kk q H1 h1 h2 h3)
theorem h_lng {N' cells' slots' : Nat} {n : Int32} (C : Cg p s m args meth c cc nL own D cy A) (hn : ¬ n < 0) (hN : n.toNatClampNeg = N') (hbytes : N' * 8 ≤ 536870912) (hc : cells + 1 = cells') (hs : slots + N' = slots') (hcR : cells' ≤ R.cells) (hsR : slots' ≤ R.slots)
    (hP : va_P D vwCl ((h0, e0) :: rw) H) (hD : va_D A ((h0, e0) :: rw)) (hS : va_S A s.heap H locs) (hdg : decode cc pc = .ok (.newarray .long, 2))
    (kk : ∀ (q : Nat) (H1 : Heap), va_P D vwCl ((h0, e0) :: (rw ++ [(q, .inl (cy 3, N', .inr (.inl (fun _ => 0))))])) H1 → va_D A ((h0, e0) :: (rw ++ [(q, .inl (cy 3, N', .inr (.inl (fun _ => 0))))])) → va_S A s.heap H1 locs → W p l e R s m args below meth c H1 locs cells' slots' Q (F0 m (pc + 2) ls (.ref q :: rest))) : W p l e R s m args below meth c H locs cells slots Q (F0 m pc ls (.int n :: rest)) :=
  n_lng C hn hN hbytes hc hs hcR hsR hP hD hS hdg (fun q H1 h1 h2 h3 => kk q H1 h1 h2 h3)
theorem h_new {idx cn fr' lo' mc ms n ci cells' slots' : Nat} {y : MethodName} {cy' : ByteArray} {as : List Value} {dflt : List Value} {L : List Shp} {μ : Mem} {q : Nat} (hM : CK l y cy' cn fr' lo' mc ms D cy ci dflt as L μ) (F : MN y cy' cn n) (u : Cond.methodLink own idx y ∈ UU) (C : Cg p s m args meth c cc nL own D cy A)
    (hP : va_P D vwCl (((h0, e0) :: rw) ++ [(q, .inr (ci, dflt))]) H) (hD : va_D A (((h0, e0) :: rw) ++ [(q, .inr (ci, dflt))])) (hS : va_S A s.heap H locs) (hn : as.length = n) (hR : fr' + 1 ≤ fr ∧ 8 + (cn + 11) + lo' ≤ lo) (hl : ls.size = nL) (hst : st0 = as.reverse ++ .ref q :: rest) (hW : (rest.map fun v => v.category).sum ≤ 8)
    (hc : cells + mc = cells') (hs : slots + ms = slots') (hcR : cells' ≤ MC) (hsR : slots' ≤ MS) (hdg : decode cc pc = .ok (.invokespecial idx, 3))
    (kk : ∀ (ad : Nat → Nat) (H1 : Heap) (locs1 : List Loc), ad 0 = q → va_P D vwCl ((h0, e0) :: (rw ++ wt D cy ad μ L)) H1 → va_D A ((h0, e0) :: (rw ++ wt D cy ad μ L)) → va_S A s.heap H1 locs1 → W p l e (rmc fr lo MC MS) s m args below meth c H1 locs1 cells' slots' Q (F0 m (pc + 3) ls rest)) : W p l e (rmc fr lo MC MS) s m args below meth c H locs cells slots Q (F0 m pc ls st0) :=
  k_new hM F u C hP hD hS hn hR hl hst hW hc hs hcR hsR hdg (fun ad H1 locs1 h0 h1 h2 h3 => kk ad H1 locs1 h0 h1 h2 h3)
theorem h_newN {idx cn fr' lo' mc ms n ci cells' slots' : Nat} {y : MethodName} {cy' : ByteArray} {as : List Value} {dflt : List Value} {L : List Shp} {μ : Mem} {q : Nat} {host : String} (hM : CK l y cy' cn fr' lo' mc ms D cy ci dflt as L μ) (F : MN y cy' cn n) (u : Cond.methodLinkNest own idx y host ∈ nests) (C : Cg p s m args meth c cc nL own D cy A)
    (hP : va_P D vwCl (((h0, e0) :: rw) ++ [(q, .inr (ci, dflt))]) H) (hD : va_D A (((h0, e0) :: rw) ++ [(q, .inr (ci, dflt))])) (hS : va_S A s.heap H locs) (hn : as.length = n) (hR : fr' + 1 ≤ fr ∧ 8 + (cn + 11) + lo' ≤ lo) (hl : ls.size = nL) (hst : st0 = as.reverse ++ .ref q :: rest) (hW : (rest.map fun v => v.category).sum ≤ 8)
    (hc : cells + mc = cells') (hs : slots + ms = slots') (hcR : cells' ≤ MC) (hsR : slots' ≤ MS) (hdg : decode cc pc = .ok (.invokespecial idx, 3))
    (kk : ∀ (ad : Nat → Nat) (H1 : Heap) (locs1 : List Loc), ad 0 = q → va_P D vwCl ((h0, e0) :: (rw ++ wt D cy ad μ L)) H1 → va_D A ((h0, e0) :: (rw ++ wt D cy ad μ L)) → va_S A s.heap H1 locs1 → W p l e (rmc fr lo MC MS) s m args below meth c H1 locs1 cells' slots' Q (F0 m (pc + 3) ls rest)) : W p l e (rmc fr lo MC MS) s m args below meth c H locs cells slots Q (F0 m pc ls st0) :=
  k_newN hM F u C hP hD hS hn hR hl hst hW hc hs hcR hsR hdg (fun ad H1 locs1 h0 h1 h2 h3 => kk ad H1 locs1 h0 h1 h2 h3)
end HC
end GROW
/-! a part of the table from a place on, put together -/
def wtf (D : va_G) (cy : Nat → ClassId) (ad : Nat → Nat) (μ : Mem) (b : Nat) (L : List Shp) : va_W := L.mapIdx (fun k x => (ad (b + k), ce (D, cy, ad) μ (b + k) x))
section WT
variable {D : va_G} {cy : Nat → ClassId} {ad ad' : Nat → Nat} {μ μ' : Mem} {b : Nat}
theorem wt_wtf (L : List Shp) : wt D cy ad μ L = wtf D cy ad μ 0 L := by
  unfold wt wtf
  congr 1
  funext k x
  rw [Nat.zero_add]
theorem wtf_nil : wtf D cy ad μ b [] = [] := rfl
theorem wtf_cons (x : Shp) (L : List Shp) : wtf D cy ad μ b (x :: L) = (ad b, ce (D, cy, ad) μ b x) :: wtf D cy ad μ (b + 1) L := by
  unfold wtf
  rw [List.mapIdx_cons]
  congr 2
  funext i y
  rw [show b + (i + 1) = b + 1 + i by omega]
theorem wtf_app (L1 L2 : List Shp) : wtf D cy ad μ b (L1 ++ L2) = wtf D cy ad μ b L1 ++ wtf D cy ad μ (b + L1.length) L2 := by
  unfold wtf
  rw [List.mapIdx_append]
  congr 2
  funext i y
  rw [show b + (i + L1.length) = b + L1.length + i by omega]
def closed (L : List Shp) : Bool := (List.range L.length).all (fun k => match L[k]? with
  | some (.inl o) => o.2.all (fun d => match d with
    | none => true
    | some d => decide (k + d < L.length))
  | some (.inr a) => decide (a.1 < 4 ∨ (a.1 = 4 ∧ k + 11 < L.length) ∨ (a.1 = 5 ∧ k + 6 < L.length))
  | none => true)
theorem wtf_sub (L : List Shp) (hc : closed L = true) (ha : ∀ k, k < L.length → ad (b + k) = ad' k) (h1 : ∀ k, k < L.length → μ.1 (b + k) = μ'.1 k) (h2 : ∀ k, k < L.length → μ.2 (b + k) = μ'.2 k) : wtf D cy ad μ b L = wt D cy ad' μ' L := by
  unfold wtf wt
  apply List.ext_getElem?
  intro k
  rw [List.getElem?_mapIdx, List.getElem?_mapIdx]
  cases hx : L[k]? with
  | none => rfl
  | some x =>
    have hk : k < L.length := (List.getElem?_eq_some_iff.mp hx).1
    have hcl := List.all_eq_true.mp hc k (List.mem_range.mpr hk)
    simp only [hx] at hcl
    simp only [Option.map_some, Option.some.injEq, Prod.mk.injEq]
    refine ⟨ha k hk, ?_⟩
    rcases x with ⟨ci, fs⟩ | ⟨t, n⟩
    · simp only [ce]
      congr 2
      apply List.ext_getElem?
      intro j
      rw [mpi_get0, mpi_get0]
      cases hj : fs[j]? with
      | none => rfl
      | some d =>
        have hd := List.all_eq_true.mp hcl d (List.mem_of_getElem? hj)
        cases d with
        | none => simp [fv, h1 k hk]
        | some d =>
          simp only [Option.map_some, fv]
          rw [Nat.add_assoc, ha (k + d) (of_decide_eq_true hd)]
    · simp only [ce]
      congr 3
      have ht : t < 4 ∨ (t = 4 ∧ k + 11 < L.length) ∨ (t = 5 ∧ k + 6 < L.length) := of_decide_eq_true hcl
      rcases ht with ht | ⟨rfl, ht⟩ | ⟨rfl, ht⟩
      · rcases (show t = 0 ∨ t = 1 ∨ t = 2 ∨ t = 3 by omega) with rfl | rfl | rfl | rfl <;> simp [arx, h1 k hk, h2 k hk]
      · simp only [arx]
        congr 4
        funext i
        by_cases hi : i < 6
        · rw [if_pos hi, if_pos hi, show b + k + 1 + 2 * i = b + (k + 1 + 2 * i) by omega, ha _ (by omega)]
        · rw [if_neg hi, if_neg hi]
      · simp only [arx]
        congr 4
        funext i
        by_cases hi : i < 6
        · rw [if_pos hi, if_pos hi, show b + k + 1 + i = b + (k + 1 + i) by omega, ha _ (by omega)]
        · rw [if_neg hi, if_neg hi]
theorem getD_tail {l : List Nat} {k d : Nat} (h : l.length ≤ k) : l.getD k d = d := by
  rw [List.getD_eq_getElem?_getD, List.getElem?_eq_none h]; rfl
end WT
/-! Arrays.fill of an int array, made in a constructor -/
def CF (l : Launch) (D : va_G) (cy : Nat → ClassId) (n : Nat) (v : Int32) : Prop := ∀ (a sz : Nat) (f : Nat → Int32),
  Met l yJ7_fill_53178 (wc yJ7_fill_53178 cJ7_fill_53178 4 none) (rmc 0 0 0 0) (va_Pc [.ref a, .int v] (fun U => U.heap.size = sz ∧ va_P D vwCl [(a, .inl (cy 0, n, .inl f))] U.heap ∧ KD D cy U ∧ va_D (fun _ => True) [(a, .inl (cy 0, n, .inl f))]))
    (va_Qv (fun _ : Unit => True) (fun _ t => va_P D vwCl [(a, .inl (cy 0, n, .inl (fun j => if j < n then v else f j)))] t.heap ∧ KD D cy t ∧ va_D (va_A [(a, .inl (cy 0, n, .inl f))] sz) [(a, .inl (cy 0, n, .inl (fun j => if j < n then v else f j)))]) (va_A [(a, .inl (cy 0, n, .inl f))] sz)) 0 0 (va_A [(a, .inl (cy 0, n, .inl f))] sz)
set_option maxHeartbeats 4000000 in
theorem fill_loop {p : Program} {l : Launch} {e : Env} {s : State} {m : MethodId} {args : Array Value} {below : List Frame} {meth : Method} {c : Code} {D : va_G} {cy : Nat → ClassId} {A : Nat → Prop} {n a : Nat} {v : Int32} {f : Nat → Int32} (hn : n < 1000)
    (C : Cg p s m args meth c cJ7_fill_53178 4 RJ7 D cy A) (hr : meth.sig.returnType = none) (hlk : meth.locks = false) : ∀ (k i : Nat), i + k = n → ∀ (g : Nat → Int32), (∀ j, g j = if j < i then v else f j) → ∀ (H : Heap) (locs : List Loc) (ls : Array Slot),
    va_P D vwCl [(a, .inl (cy 0, n, .inl g))] H → va_D A [(a, .inl (cy 0, n, .inl g))] → va_S A s.heap H locs → lv_has ls 4 [(2, .int (nI i)), (3, .int (nI n)), (0, .ref a), (1, .int v)] →
    W p l e (rmc 0 0 0 0) s m args below meth c H locs 0 0 (MQ below (va_Qv (fun _ : Unit => True) (fun _ t => va_P D vwCl [(a, .inl (cy 0, n, .inl (fun j => if j < n then v else f j)))] t.heap ∧ KD D cy t ∧ va_D A [(a, .inl (cy 0, n, .inl (fun j => if j < n then v else f j)))]) A) args s 0 0 A) (F0 m 5 ls []) := by
  intro k
  induction k with
  | zero =>
    intro i hi g hg H locs ls hP hD hS hl
    refine lv_iload_n C.x C.b dJ7_fill_53178_5 rfl (lv_at hl 0 rfl) ?_
    refine lv_iload_n C.x C.b dJ7_fill_53178_6 rfl (lv_at hl 1 rfl) ?_
    refine lv_icmp_ge (tgt := 20) C.x C.b dJ7_fill_53178_7 (by decide) (fun _ => ?_) (fun c1 => absurd (nI_le (by omega) (by omega)) c1)
    have e : g = fun j => if j < n then v else f j := by funext j; rw [hg]; rw [show i = n by omega]
    subst e
    exact W.vret C.x C.b hr (fun t ht hW => ⟨⟨(), rfl, trivial, by rw [ht]; exact hP, C.k.warm hW, hD⟩, hS.F ht⟩) hS.2.2 dJ7_fill_53178_20 hlk
  | succ k ih =>
    intro i hi g hg H locs ls hP hD hS hl
    refine lv_iload_n C.x C.b dJ7_fill_53178_5 rfl (lv_at hl 0 rfl) ?_
    refine lv_iload_n C.x C.b dJ7_fill_53178_6 rfl (lv_at hl 1 rfl) ?_
    refine lv_icmp_ge (tgt := 20) C.x C.b dJ7_fill_53178_7 (by decide) (fun c1 => absurd c1 (nI_ge (by omega) (by omega))) (fun _ => ?_)
    refine lv_aload_n C.x C.b dJ7_fill_53178_10 rfl (lv_at hl 2 rfl) ?_
    refine lv_iload_n C.x C.b dJ7_fill_53178_11 rfl (lv_at hl 0 rfl) ?_
    refine lv_iload_n C.x C.b dJ7_fill_53178_12 rfl (lv_at hl 3 rfl) ?_
    refine va_iast C.x C.b C.k.1.1 hP hD hS 0 0 rfl rfl (nI_in (by omega) (by omega)) dJ7_fill_53178_13 (fun H locs hP hD hS => ?_)
    refine lv_iinc (v := nI (i + 1)) (lv' := [(2, .int (nI (i + 1))), (3, .int (nI n)), (0, .ref a), (1, .int v)]) C.x C.b dJ7_fill_53178_14 hl (k := 0) rfl (by rw [nI_succ]; rfl) (by decide) rfl (fun ls hl => ?_)
    refine lv_goto (tgt := 5) C.x C.b dJ7_fill_53178_17 (by decide) ?_
    refine ih (i + 1) (by omega) (upd g (nI i).toNatClampNeg v) (fun j => ?_) H locs ls hP hD hS hl
    rw [nI_clamp (by omega)]
    unfold upd
    by_cases hj : j = i
    · subst hj; simp
    · rw [if_neg hj, hg]
      by_cases h : j < i
      · rw [if_pos h, if_pos (by omega)]
      · rw [if_neg h, if_neg (by omega)]
set_option maxHeartbeats 4000000 in
theorem n_fill {l : Launch} {D : va_G} {cy : Nat → ClassId} {n : Nat} {v : Int32} (hn : n < 1000) : CF l D cy n v := by
  intro a sz f
  refine Met.ofW (cc := cJ7_fill_53178) (maxL := 4) (ret := none) (by decide) rfl ?_
  intro p e s m args below meth c s₁ B hml hv
  obtain ⟨rfl, hsz, hP, hK, hD0⟩ := hv
  subst hsz
  have hts := atoms_spec (ws := wc yJ7_fill_53178 cJ7_fill_53178 4 none) B.pre
  have hl := lv_entry [.ref a, .int v] (n := 4) (Nat.le_of_ble_eq_true rfl)
  rw [lg_entry_eq]
  generalize (lg_sl [.ref a, .int v] ++ List.replicate (4 - (lg_sl [.ref a, .int v]).length) Slot.unset).toArray = ls at hl ⊢
  have hl : lv_has ls 4 [(0, .ref a), (1, .int v)] := hl
  have hD := hD0.self (sz := s.heap.size)
  have C : Cg p s m _ meth c cJ7_fill_53178 4 RJ7 D cy (va_A [(a, .inl (cy 0, n, .inl f))] s.heap.size) := ⟨B.exec, B.bytes, hml, findClass_of_methodNamed B.named, fun w hw => hts w (List.mem_cons_of_mem _ hw), hK, fun q h => Or.inr h⟩
  refine lv_iconst (v := 0) C.x C.b dJ7_fill_53178_0 (by decide) ?_
  refine lv_istore_n (lv' := [(2, .int 0), (0, .ref a), (1, .int v)]) C.x C.b dJ7_fill_53178_1 rfl hl (by decide) rfl (fun ls hl => ?_)
  refine lv_aload_n C.x C.b dJ7_fill_53178_2 rfl (lv_at hl 1 rfl) ?_
  refine va_alen (v := nI n) C.x C.b C.k.1.1 hP 0 0 rfl rfl rfl dJ7_fill_53178_3 ?_
  refine lv_istore_n (lv' := [(3, .int (nI n)), (2, .int 0), (0, .ref a), (1, .int v)]) C.x C.b dJ7_fill_53178_4 rfl hl (by decide) rfl (fun ls hl => ?_)
  exact fill_loop hn C B.returns B.notSynchronized n 0 (by omega) f (fun j => by simp) s.heap [] ls hP hD va_S.rf (lv_sub hl [1, 0, 2, 3] rfl)
theorem MS_fill : MS yJ7_fill_53178 cJ7_fill_53178 4 none 2 := M_J7_fill_53178
section KF
variable {p : Program} {l : Launch} {e : Env} {s : State} {m : MethodId} {args : Array Value} {below : List Frame} {meth : Method} {c : Code} {H : Heap} {locs : List Loc} {cells slots : Nat} {Q : State → Prop}
variable {cc : ByteArray} {nL : Nat} {own : String} {D : va_G} {cy : Nat → ClassId} {A : Nat → Prop} {h0 : Nat} {e0 : va_E} {rw : va_W}
variable {pc : Nat} {ls : Array Slot} {rest : List Value} {idx fr lo MC MS n a : Nat} {v : Int32} {f : Nat → Int32}
theorem h_fill (u : Cond.methodLink own idx yJ7_fill_53178 ∈ UU) (C : Cg p s m args meth c cc nL own D cy A) (hn : n < 1000) (hP : va_P D vwCl ((h0, e0) :: (rw ++ [(a, .inl (cy 0, n, .inl f))])) H) (hD : va_D A ((h0, e0) :: (rw ++ [(a, .inl (cy 0, n, .inl f))]))) (hS : va_S A s.heap H locs) (hR : 0 + 1 ≤ fr ∧ 8 + (4 + 11) + 0 ≤ lo) (hl : ls.size = nL) (hW : (rest.map fun v => v.category).sum ≤ 8) (hcR : cells ≤ MC) (hsR : slots ≤ MS) (hdg : decode cc pc = .ok (.invokestatic idx, 3))
    (kk : ∀ (H1 : Heap) (locs1 : List Loc), va_P D vwCl ((h0, e0) :: (rw ++ [(a, .inl (cy 0, n, .inl (fun j => if j < n then v else f j)))])) H1 → va_D A ((h0, e0) :: (rw ++ [(a, .inl (cy 0, n, .inl (fun j => if j < n then v else f j)))])) → va_S A s.heap H1 locs1 → W p l e (rmc fr lo MC MS) s m args below meth c H1 locs1 cells slots Q (F0 m (pc + 3) ls rest)) :
    W p l e (rmc fr lo MC MS) s m args below meth c H locs cells slots Q (F0 m pc ls (.int v :: .ref a :: rest)) := by
  obtain ⟨f1, f2, f3, f5, f6, f7⟩ := MS_fill
  have hP2 : va_P D vwCl (((h0, e0) :: rw) ++ [(a, .inl (cy 0, n, .inl f))]) H := hP
  have hD2 : va_D A (((h0, e0) :: rw) ++ [(a, .inl (cy 0, n, .inl f))]) := hD
  have hF : ∀ x, va_A [((a, .inl (cy 0, n, .inl f)) : Nat × va_E)] H.size x → A x := by
    intro x h
    rcases h with ⟨k, e, h⟩ | h
    · have h0 : k = 0 := by have := (List.getElem?_eq_some_iff.mp h).1; simp at this; exact this
      subst h0
      cases h
      exact hD2.2 ((h0, e0) :: rw).length (a, .inl (cy 0, n, .inl f)) (by simp)
    · exact C.a x (Nat.le_trans hS.1 h)
  refine va_callv (va_runS (As := [.ref a, .int v]) (rest := rest) ⟨C.x, C.b, C.n, C.o, C.t⟩ (n_fill (l := l) (D := D) (cy := cy) (n := n) (v := v) hn a H.size f) ⟨callB_of 2 C.t (gs_U MS_fill) rfl rfl rfl (C.t _ f2) (C.t _ u) ⟨f5, f6, f7⟩ hR, C.t _ f1⟩ ⟨fun _ U _ _ z => ⟨z.1, z.2.1, z.2.2.1, KD.same (s := U) rfl z.2.2.2.1, z.2.2.2.2⟩, fun U hU hW => ⟨rfl, by rw [hU], ?_, C.k.warm hW, ⟨fun i j x1 y1 h1 h2 _ => ?_, fun _ _ _ => trivial⟩⟩⟩ rfl rfl hl rfl (lv_room hW) hdg ⟨hcR, hsR⟩) hS (fun x _ h => hF x h) hF (fun _ t H1 locs1 ht hvm hw hB _ hk1 hS1 => ?_)
  · rw [hU]
    intro k x hx
    have h0 : k = 0 := by have := (List.getElem?_eq_some_iff.mp hx).1; simp at this; exact this
    subst h0
    cases hx
    exact hP2 ((h0, e0) :: rw).length _ (by simp)
  · have a1 := (List.getElem?_eq_some_iff.mp h1).1
    have a2 := (List.getElem?_eq_some_iff.mp h2).1
    simp at a1 a2
    omega
  · obtain ⟨b1, b2, b3⟩ := hB
    rw [ht] at b1
    obtain ⟨j1, j2⟩ := join1 hP2 hD2 hk1 hF b1 b3
    exact kk H1 locs1 j1 j2 hS1
end KF
