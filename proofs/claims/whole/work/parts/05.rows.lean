/-! one row an instruction, over the world's table -/
section ROWS
variable {p : Program} {l : Launch} {e : Env} {R : Room} {s : State} {m : MethodId} {args : Array Value} {below : List Frame} {meth : Method} {c : Code} {H : Heap} {locs : List Loc} {cells slots : Nat} {Q : State → Prop}
variable {cc : ByteArray} {nL : Nat} {own : String} {ret : Option FieldType} {G : Gp} {μ : Mem}
variable {pc : Nat} {ls : Array Slot} {rest : List Value}
theorem Cx.x (C : Cx p s m args meth c cc nL own ret G) : p.tables.exec = Jvm.exec := C.1
theorem Cx.b (C : Cx p s m args meth c cc nL own ret G) : c.code = cc := C.2.1
theorem Cx.n (C : Cx p s m args meth c cc nL own ret G) : c.maxLocals = nL := C.2.2.1
theorem Cx.o (C : Cx p s m args meth c cc nL own ret G) : s.vm.findClass own = some m.cls := C.2.2.2.1
theorem Cx.t (C : Cx p s m args meth c cc nL own ret G) : ∀ w ∈ UU, w.before args s = true := C.2.2.2.2.1
theorem Cx.r (C : Cx p s m args meth c cc nL own ret G) : meth.sig.returnType = ret := C.2.2.2.2.2.1
theorem Cx.nl (C : Cx p s m args meth c cc nL own ret G) : meth.locks = false := C.2.2.2.2.2.2.1
theorem Cx.k (C : Cx p s m args meth c cc nL own ret G) : Kn G s := C.2.2.2.2.2.2.2.1
theorem Cx.i (C : Cx p s m args meth c cc nL own ret G) : Wi G := C.2.2.2.2.2.2.2.2
/-- a field's facts -/
def Fld (ci j : Nat) (Cn : String) (T : u_T) (N : Nat) (fs : List (Option Nat)) (d : Option Nat) : Prop := vwCl[ci]? = some (Cn, T, N) ∧ j < N ∧ (T j).1 = Cn ∧ fs[j]? = some d ∧ (∀ w ∈ u_ws Cn T N, w ∈ UU)
theorem g_int {ci j idx : Nat} {Cn : String} {T : u_T} {N : Nat} {fs : List (Option Nat)} {k : Nat} (F : Fld ci j Cn T N fs none) (u : Cond.fieldLink own idx Cn (T j).2.1 (T j).2.2.1 ∈ UU)
    (C : Cx p s m args meth c cc nL own ret G) (hP : Wm G μ H) (hk : shp[k]? = some (.inl (ci, fs))) (hdg : decode cc pc = .ok (.getfield idx, 3))
    (kk : W p l e R s m args below meth c H locs cells slots Q (F0 m (pc + 3) ls (.int (μ.1 k j) :: rest))) : W p l e R s m args below meth c H locs cells slots Q (F0 m pc ls (.ref (G.2.2 k) :: rest)) := by
  obtain ⟨f1, f2, f3, f4, f5⟩ := F
  refine va_get (v := .int (μ.1 k j)) C.x C.b C.t f5 C.o C.k.1 hP k (wl_get hk) f1 j f2 (C.t _ u) (fun x h => by rw [f3] at h; exact h) ?_ hdg kk
  show (mpi (fun j d => fv G.2.2 μ k j d) 0 fs)[j]? = _
  rw [mpi_get0, f4]; rfl
theorem g_ref {ci j idx : Nat} {Cn : String} {T : u_T} {N : Nat} {fs : List (Option Nat)} {k d k' : Nat} (F : Fld ci j Cn T N fs (some d)) (u : Cond.fieldLink own idx Cn (T j).2.1 (T j).2.2.1 ∈ UU)
    (C : Cx p s m args meth c cc nL own ret G) (hP : Wm G μ H) (hk : shp[k]? = some (.inl (ci, fs))) (hd : k + d = k') (hdg : decode cc pc = .ok (.getfield idx, 3))
    (kk : W p l e R s m args below meth c H locs cells slots Q (F0 m (pc + 3) ls (.ref (G.2.2 k') :: rest))) : W p l e R s m args below meth c H locs cells slots Q (F0 m pc ls (.ref (G.2.2 k) :: rest)) := by
  obtain ⟨f1, f2, f3, f4, f5⟩ := F
  subst hd
  refine va_get (v := .ref (G.2.2 (k + d))) C.x C.b C.t f5 C.o C.k.1 hP k (wl_get hk) f1 j f2 (C.t _ u) (fun x h => by rw [f3] at h; exact h) ?_ hdg kk
  show (mpi (fun j d => fv G.2.2 μ k j d) 0 fs)[j]? = _
  rw [mpi_get0, f4]; rfl
/-- a field's facts for a write -/
def Fpt (j : Nat) (T : u_T) (N : Nat) (ty : FieldType) : Prop := (∃ ty0 : Nat → FieldType, ∀ k, k < N → parseFieldDescriptor (T k).2.2.1 = some (ty0 k)) ∧ (∀ a, a < N → ∀ b, b < N → a ≠ b → (T a).2.1 ≠ (T b).2.1) ∧ (T j).2.2.2 = false ∧ parseFieldDescriptor (T j).2.2.1 = some ty
theorem fv_set {ad : Nat → Nat} {k j : Nat} (x : Int32) (fs : List (Option Nat)) (h : fs[j]? = some none) : (mpi (fun j d => fv ad μ k j d) 0 fs).set j (.int x) = mpi (fun i d => fv ad (st μ k j x) k i d) 0 fs := by
  apply List.ext_getElem?
  intro i
  have hj : j < fs.length := (List.getElem?_eq_some_iff.mp h).1
  by_cases hi : i = j
  · subst hi
    rw [List.getElem?_set_self (by rw [mpi_len]; exact hj), mpi_get0, h]
    simp [fv, st, cst, va_up, upd]
  · rw [List.getElem?_set_ne (fun e => hi e.symm), mpi_get0, mpi_get0]
    cases hx : fs[i]? with
    | none => rfl
    | some y => cases y <;> simp [fv, st, cst, va_up, upd, hi]
theorem p_any {ci j idx : Nat} {Cn : String} {T : u_T} {N : Nat} {fs : List (Option Nat)} {k : Nat} {ty : FieldType} {x : Int32} (F : Fld ci j Cn T N fs none) (P : Fpt j T N ty) (u : Cond.fieldLink own idx Cn (T j).2.1 (T j).2.2.1 ∈ UU)
    (hn : narrow ty (.int x) = .int x) (hf : fits ty (.int x) = true)
    (C : Cx p s m args meth c cc nL own ret G) (hP : Wm G μ H) (hS : va_S (wA G) s.heap H locs) (hk : shp[k]? = some (.inl (ci, fs))) (hdg : decode cc pc = .ok (.putfield idx, 3))
    (kk : ∀ (H1 : Heap) (locs1 : List Loc), Wm G (st μ k j x) H1 → va_S (wA G) s.heap H1 locs1 → W p l e R s m args below meth c H1 locs1 cells slots Q (F0 m (pc + 3) ls rest)) : W p l e R s m args below meth c H locs cells slots Q (F0 m pc ls (.int x :: .ref (G.2.2 k) :: rest)) := by
  obtain ⟨f1, f2, f3, f4, f5⟩ := F
  obtain ⟨⟨ty0, p1⟩, p2, p3, p4⟩ := P
  have hl : j < (mpi (fun j d => fv G.2.2 μ k j d) 0 fs).length := by rw [mpi_len]; exact (List.getElem?_eq_some_iff.mp f4).1
  refine va_put (v := .int x) C.x C.b C.t f5 ty0 p1 p2 C.o C.k.1 hP (wD C.i μ) hS k (wl_get hk) f1 j f2 (C.t _ u) (fun x h => by rw [f3] at h; exact h) p3 p4 hn hf hl hdg (fun H1 locs1 h1 _ h3 => kk H1 locs1 ?_ h3)
  rw [fv_set x fs f4] at h1
  have h2 := wl_cst (G := G) (μ := μ) (upd (μ.1 k) j x) hk
  show va_P G.1 vwCl (wl G (cst μ k (upd (μ.1 k) j x))) H1
  rw [← h2]
  exact h1
theorem p_int {ci j idx : Nat} {Cn : String} {T : u_T} {N : Nat} {fs : List (Option Nat)} {k : Nat} {x : Int32} (F : Fld ci j Cn T N fs none) (P : Fpt j T N .int) (u : Cond.fieldLink own idx Cn (T j).2.1 (T j).2.2.1 ∈ UU)
    (C : Cx p s m args meth c cc nL own ret G) (hP : Wm G μ H) (hS : va_S (wA G) s.heap H locs) (hk : shp[k]? = some (.inl (ci, fs))) (hdg : decode cc pc = .ok (.putfield idx, 3))
    (kk : ∀ (H1 : Heap) (locs1 : List Loc), Wm G (st μ k j x) H1 → va_S (wA G) s.heap H1 locs1 → W p l e R s m args below meth c H1 locs1 cells slots Q (F0 m (pc + 3) ls rest)) : W p l e R s m args below meth c H locs cells slots Q (F0 m pc ls (.int x :: .ref (G.2.2 k) :: rest)) := p_any F P u rfl rfl C hP hS hk hdg kk
theorem isB_cases {x : Int32} (h : isB x = true) : x = 0 ∨ x = 1 := of_decide_eq_true h
theorem p_boo {ci j idx : Nat} {Cn : String} {T : u_T} {N : Nat} {fs : List (Option Nat)} {k : Nat} {x : Int32} (F : Fld ci j Cn T N fs none) (P : Fpt j T N .boolean) (u : Cond.fieldLink own idx Cn (T j).2.1 (T j).2.2.1 ∈ UU) (hx : isB x = true)
    (C : Cx p s m args meth c cc nL own ret G) (hP : Wm G μ H) (hS : va_S (wA G) s.heap H locs) (hk : shp[k]? = some (.inl (ci, fs))) (hdg : decode cc pc = .ok (.putfield idx, 3))
    (kk : ∀ (H1 : Heap) (locs1 : List Loc), Wm G (st μ k j x) H1 → va_S (wA G) s.heap H1 locs1 → W p l e R s m args below meth c H1 locs1 cells slots Q (F0 m (pc + 3) ls rest)) : W p l e R s m args below meth c H locs cells slots Q (F0 m pc ls (.int x :: .ref (G.2.2 k) :: rest)) :=
  p_any F P u (by rcases isB_cases hx with rfl | rfl <;> rfl) (by rcases isB_cases hx with rfl | rfl <;> rfl) C hP hS hk hdg kk
/-! arrays -/
theorem a_i {k n : Nat} {i : Int32} (C : Cx p s m args meth c cc nL own ret G) (hP : Wm G μ H) (hk : shp[k]? = some (.inr (0, n))) (hin : inb i n = true) (hdg : decode cc pc = .ok (.iaload, 1))
    (kk : W p l e R s m args below meth c H locs cells slots Q (F0 m (pc + 1) ls (.int (μ.1 k i.toNatClampNeg) :: rest))) : W p l e R s m args below meth c H locs cells slots Q (F0 m pc ls (.int i :: .ref (G.2.2 k) :: rest)) :=
  va_iald C.x C.b C.k.1 hP k 0 (wl_get hk) rfl (inb_in hin) hdg kk
theorem a_z {k n : Nat} {i : Int32} (C : Cx p s m args meth c cc nL own ret G) (hP : Wm G μ H) (hk : shp[k]? = some (.inr (1, n))) (hin : inb i n = true) (hdg : decode cc pc = .ok (.baload, 1))
    (kk : W p l e R s m args below meth c H locs cells slots Q (F0 m (pc + 1) ls (.int (μ.1 k i.toNatClampNeg) :: rest))) : W p l e R s m args below meth c H locs cells slots Q (F0 m pc ls (.int i :: .ref (G.2.2 k) :: rest)) :=
  va_zald C.x C.b C.k.1 hP k 1 (wl_get hk) rfl (inb_in hin) hdg kk
theorem a_c {k n : Nat} {i : Int32} (C : Cx p s m args meth c cc nL own ret G) (hP : Wm G μ H) (hk : shp[k]? = some (.inr (2, n))) (hin : inb i n = true) (hdg : decode cc pc = .ok (.caload, 1))
    (kk : W p l e R s m args below meth c H locs cells slots Q (F0 m (pc + 1) ls (.int (μ.1 k i.toNatClampNeg) :: rest))) : W p l e R s m args below meth c H locs cells slots Q (F0 m pc ls (.int i :: .ref (G.2.2 k) :: rest)) :=
  va_cald C.x C.b C.k.1 hP k 2 (wl_get hk) rfl (inb_in hin) hdg kk
theorem a_l {k n : Nat} {i : Int32} (C : Cx p s m args meth c cc nL own ret G) (hP : Wm G μ H) (hk : shp[k]? = some (.inr (3, n))) (hin : inb i n = true) (hdg : decode cc pc = .ok (.laload, 1))
    (kk : W p l e R s m args below meth c H locs cells slots Q (F0 m (pc + 1) ls (.long (μ.2 k i.toNatClampNeg) :: rest))) : W p l e R s m args below meth c H locs cells slots Q (F0 m pc ls (.int i :: .ref (G.2.2 k) :: rest)) :=
  va_lald C.x C.b C.k.1 hP k 3 (wl_get hk) rfl (inb_in hin) hdg kk
theorem a_q {k k' : Nat} {i : Int32} (C : Cx p s m args meth c cc nL own ret G) (hP : Wm G μ H) (hk : shp[k]? = some (.inr (4, 6))) (hin : inb i 6 = true) (hd : k + 1 + 2 * i.toNatClampNeg = k') (hdg : decode cc pc = .ok (.aaload, 1))
    (kk : W p l e R s m args below meth c H locs cells slots Q (F0 m (pc + 1) ls (.ref (G.2.2 k') :: rest))) : W p l e R s m args below meth c H locs cells slots Q (F0 m pc ls (.int i :: .ref (G.2.2 k) :: rest)) := by
  subst hd
  have hlt : i.toNatClampNeg < 6 := Nat.not_le.mp fun q => (inb_in hin) (Or.inr q)
  refine va_aldq (n := 6) (f := fun j => if j < 6 then some (G.2.2 (k + 1 + 2 * j)) else none) C.x C.b C.k.1 hP k 4 (wl_get hk) rfl (inb_in hin) hdg ?_
  rw [if_pos hlt]
  exact kk
theorem a_qq {k k' : Nat} {i : Int32} (C : Cx p s m args meth c cc nL own ret G) (hP : Wm G μ H) (hk : shp[k]? = some (.inr (5, 6))) (hin : inb i 6 = true) (hd : k + 1 + i.toNatClampNeg = k') (hdg : decode cc pc = .ok (.aaload, 1))
    (kk : W p l e R s m args below meth c H locs cells slots Q (F0 m (pc + 1) ls (.ref (G.2.2 k') :: rest))) : W p l e R s m args below meth c H locs cells slots Q (F0 m pc ls (.int i :: .ref (G.2.2 k) :: rest)) := by
  subst hd
  have hlt : i.toNatClampNeg < 6 := Nat.not_le.mp fun q => (inb_in hin) (Or.inr q)
  have hc := hP k _ (wl_get (G := G) (μ := μ) hk)
  exact W.aald (v := .ref (G.2.2 (k + 1 + i.toNatClampNeg))) (ty := .array .long) C.x C.b hc ((C.k.1.2 5 _ rfl).1 6 (fun j => va_rf (if j < 6 then some (G.2.2 (k + 1 + j)) else none))) rfl (fun q => by cases q) (by show ¬ (i < 0 ∨ (arrV _ _ _).slots.size ≤ _); rw [arrV_size]; exact inb_in hin) (by show (arrV _ _ _).slots[_]? = _; rw [arrV_read _ _ hlt]; simp only [if_pos hlt]; rfl) rfl rfl hdg kk
theorem a_n {k t n : Nat} {v : Int32} (C : Cx p s m args meth c cc nL own ret G) (hP : Wm G μ H) (hk : shp[k]? = some (.inr (t, n))) (ht : t < 6) (hv : Int32.ofNat n = v) (hdg : decode cc pc = .ok (.arraylength, 1))
    (kk : W p l e R s m args below meth c H locs cells slots Q (F0 m (pc + 1) ls (.int v :: rest))) : W p l e R s m args below meth c H locs cells slots Q (F0 m pc ls (.ref (G.2.2 k) :: rest)) := by
  have hty : ∃ ty, (wtys G)[t]? = some (G.2.1 t, ty) := by
    rcases (show t = 0 ∨ t = 1 ∨ t = 2 ∨ t = 3 ∨ t = 4 ∨ t = 5 by omega) with rfl | rfl | rfl | rfl | rfl | rfl <;> exact ⟨_, rfl⟩
  obtain ⟨ty, hty⟩ := hty
  exact va_alen C.x C.b C.k.1 hP k t (wl_get hk) hty hv hdg kk
theorem as_i {k n : Nat} {i x : Int32} (C : Cx p s m args meth c cc nL own ret G) (hP : Wm G μ H) (hS : va_S (wA G) s.heap H locs) (hk : shp[k]? = some (.inr (0, n))) (hin : inb i n = true) (hdg : decode cc pc = .ok (.iastore, 1))
    (kk : ∀ (H1 : Heap) (locs1 : List Loc), Wm G (st μ k i.toNatClampNeg x) H1 → va_S (wA G) s.heap H1 locs1 → W p l e R s m args below meth c H1 locs1 cells slots Q (F0 m (pc + 1) ls rest)) : W p l e R s m args below meth c H locs cells slots Q (F0 m pc ls (.int x :: .int i :: .ref (G.2.2 k) :: rest)) := by
  refine va_iast C.x C.b C.k.1 hP (wD C.i μ) hS k 0 (wl_get hk) rfl (inb_in hin) hdg (fun H1 locs1 h1 _ h3 => kk H1 locs1 ?_ h3)
  have h2 := wl_cst (G := G) (μ := μ) (upd (μ.1 k) i.toNatClampNeg x) hk
  have e : ce G (cst μ k (upd (μ.1 k) i.toNatClampNeg x)) k (.inr (0, n)) = .inl (G.2.1 0, n, .inl (upd (μ.1 k) i.toNatClampNeg x)) := by simp [ce, arx, cst, va_up]
  rw [e] at h2
  show va_P G.1 vwCl (wl G (cst μ k _)) H1
  rw [← h2]; exact h1
theorem nar_boo {x : Int32} (h : isB x = true) : vp_nar .boolean x = x := by rcases isB_cases h with rfl | rfl <;> rfl
theorem as_z {k n : Nat} {i x : Int32} (C : Cx p s m args meth c cc nL own ret G) (hP : Wm G μ H) (hS : va_S (wA G) s.heap H locs) (hk : shp[k]? = some (.inr (1, n))) (hin : inb i n = true) (hx : isB x = true) (hdg : decode cc pc = .ok (.bastore, 1))
    (kk : ∀ (H1 : Heap) (locs1 : List Loc), Wm G (st μ k i.toNatClampNeg x) H1 → va_S (wA G) s.heap H1 locs1 → W p l e R s m args below meth c H1 locs1 cells slots Q (F0 m (pc + 1) ls rest)) : W p l e R s m args below meth c H locs cells slots Q (F0 m pc ls (.int x :: .int i :: .ref (G.2.2 k) :: rest)) := by
  refine va_zast C.x C.b C.k.1 hP (wD C.i μ) hS k 1 (wl_get hk) rfl (inb_in hin) hdg (fun H1 locs1 h1 _ h3 => kk H1 locs1 ?_ h3)
  rw [nar_boo hx] at h1
  have h2 := wl_cst (G := G) (μ := μ) (upd (μ.1 k) i.toNatClampNeg x) hk
  have e : ce G (cst μ k (upd (μ.1 k) i.toNatClampNeg x)) k (.inr (1, n)) = .inl (G.2.1 1, n, .inl (upd (μ.1 k) i.toNatClampNeg x)) := by simp [ce, arx, cst, va_up]
  rw [e] at h2
  show va_P G.1 vwCl (wl G (cst μ k _)) H1
  rw [← h2]; exact h1
theorem as_c {k n : Nat} {i x : Int32} (C : Cx p s m args meth c cc nL own ret G) (hP : Wm G μ H) (hS : va_S (wA G) s.heap H locs) (hk : shp[k]? = some (.inr (2, n))) (hin : inb i n = true) (hdg : decode cc pc = .ok (.castore, 1))
    (kk : ∀ (H1 : Heap) (locs1 : List Loc), Wm G (st μ k i.toNatClampNeg (vp_nar .char x)) H1 → va_S (wA G) s.heap H1 locs1 → W p l e R s m args below meth c H1 locs1 cells slots Q (F0 m (pc + 1) ls rest)) : W p l e R s m args below meth c H locs cells slots Q (F0 m pc ls (.int x :: .int i :: .ref (G.2.2 k) :: rest)) := by
  refine va_cast C.x C.b C.k.1 hP (wD C.i μ) hS k 2 (wl_get hk) rfl (inb_in hin) hdg (fun H1 locs1 h1 _ h3 => kk H1 locs1 ?_ h3)
  have h2 := wl_cst (G := G) (μ := μ) (upd (μ.1 k) i.toNatClampNeg (vp_nar .char x)) hk
  have e : ce G (cst μ k (upd (μ.1 k) i.toNatClampNeg (vp_nar .char x))) k (.inr (2, n)) = .inl (G.2.1 2, n, .inl (upd (μ.1 k) i.toNatClampNeg (vp_nar .char x))) := by simp [ce, arx, cst, va_up]
  rw [e] at h2
  show va_P G.1 vwCl (wl G (cst μ k _)) H1
  rw [← h2]; exact h1
theorem as_l {k n : Nat} {i : Int32} {x : Int64} (C : Cx p s m args meth c cc nL own ret G) (hP : Wm G μ H) (hS : va_S (wA G) s.heap H locs) (hk : shp[k]? = some (.inr (3, n))) (hin : inb i n = true) (hdg : decode cc pc = .ok (.lastore, 1))
    (kk : ∀ (H1 : Heap) (locs1 : List Loc), Wm G (stl μ k i.toNatClampNeg x) H1 → va_S (wA G) s.heap H1 locs1 → W p l e R s m args below meth c H1 locs1 cells slots Q (F0 m (pc + 1) ls rest)) : W p l e R s m args below meth c H locs cells slots Q (F0 m pc ls (.long x :: .int i :: .ref (G.2.2 k) :: rest)) := by
  refine va_last C.x C.b C.k.1 hP (wD C.i μ) hS k 3 (wl_get hk) rfl (inb_in hin) hdg (fun H1 locs1 h1 _ h3 => kk H1 locs1 ?_ h3)
  have h2 := wl_clst (G := G) (μ := μ) (vp_updL (μ.2 k) i.toNatClampNeg x) hk
  have e : ce G (clst μ k (vp_updL (μ.2 k) i.toNatClampNeg x)) k (.inr (3, n)) = .inl (G.2.1 3, n, .inr (.inl (vp_updL (μ.2 k) i.toNatClampNeg x))) := by simp [ce, arx, clst, va_up]
  rw [e] at h2
  show va_P G.1 vwCl (wl G (clst μ k _)) H1
  rw [← h2]; exact h1
end ROWS
