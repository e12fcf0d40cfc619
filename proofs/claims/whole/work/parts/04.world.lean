/-! THE WORLD: one fixed table of cells (the class's object 0 with all that hangs on it, the model's object 122 with its rows); a state of it is a memory: what is in place j of cell k -/
abbrev Mem : Type := (Nat → Nat → Int32) × (Nat → Nat → Int64)
abbrev Shp : Type := (Nat × List (Option Nat)) ⊕ (Nat × Nat)
abbrev Gp : Type := va_G × (Nat → ClassId) × (Nat → Nat)
def fs0 : List (Option Nat) := [none, none, some 1, some 2, some 3, some 4, some 5, some 6]
def fs1 : List (Option Nat) := [none, some 1, some 2, some 3]
def fs2 : List (Option Nat) := [none, none, none, none, none, none, some 1, some 2, some 3, some 4]
def fs3 : List (Option Nat) := [none, none, none, none, some 1, some 2, some 3, some 4, some 5, some 6, some 7, some 8, some 9, some 10, some 11, some 16]
def fs4 : List (Option Nat) := [none, none, some 1, some 2]
def fs5 : List (Option Nat) := [none, none, some 1, none, some 2, some 3, some 4, some 5, some 6]
def fs6 : List (Option Nat) := [some 1, some 8, some 28, some 31, some 34]
def fs7 : List (Option Nat) := [none, none, some 1]
def fs8 : List (Option Nat) := [some 14, some 51, none, some 88, some 1, some 95, some 102]
def fs9 : List (Option Nat) := [none, none, some 1, some 2, some 3, some 4, none, none, none, none, some 5, some 6, some 7, some 8, some 9, some 10, some 11, some 12, some 13, some 14, none, none, none, some 15, none, some 16, none, none, none, some 17, none, none, none, none, none, some 18, some 19, some 20, some 21, some 22, some 23, none, none, some 24, some 25, some 26, some 27, some 28, some 35, some 36, some 37]
def sGround : List Shp := [.inl (0, fs0), .inr (0, 5), .inr (0, 5), .inr (0, 5), .inr (0, 5), .inr (0, 25), .inr (0, 25)]
def sLoop : List Shp := [.inl (1, fs1), .inr (0, 12), .inr (0, 6), .inr (0, 6)]
def sOpening : List Shp := [.inl (2, fs2), .inr (1, 6), .inr (1, 6), .inr (0, 6), .inr (0, 6)]
def sPlan : List Shp := [.inl (3, fs3), .inr (0, 36), .inr (0, 36), .inr (1, 36), .inr (0, 6), .inr (0, 6), .inr (0, 100), .inr (0, 100), .inr (0, 100), .inr (1, 6), .inr (1, 6), .inl (2, fs2), .inr (1, 6), .inr (1, 6), .inr (0, 6), .inr (0, 6), .inl (1, fs1), .inr (0, 12), .inr (0, 6), .inr (0, 6)]
def sRows : List Shp := [.inl (4, fs4), .inr (0, 8), .inr (0, 8)]
def sSetUp : List Shp := [.inl (5, fs5), .inr (2, 100), .inr (2, 12), .inr (0, 12), .inr (0, 12), .inr (0, 12), .inr (0, 12)]
def sState : List Shp := [.inl (6, fs6)] ++ (sGround ++ (sPlan ++ (sRows ++ (sRows ++ sRows))))
def sTape : List Shp := [.inl (7, fs7), .inr (3, 60)]
def sTapes : List Shp := sTape ++ (sTape ++ (sTape ++ (sTape ++ (sTape ++ sTape))))
def sStone : List Shp := [.inl (8, fs8), .inr (4, 6)] ++ (sTapes ++ (sState ++ (sState ++ (sSetUp ++ (sGround ++ sPlan)))))
def sModel : List Shp := [.inl (9, fs9), .inr (0, 10), .inr (0, 10), .inr (0, 25), .inr (0, 25), .inr (0, 36), .inr (0, 36), .inr (0, 36), .inr (0, 300), .inr (0, 5), .inr (0, 5), .inr (0, 8), .inr (0, 8), .inr (0, 8), .inr (0, 8), .inr (0, 100), .inr (0, 640), .inr (0, 411), .inr (0, 12), .inr (1, 12), .inr (0, 12), .inr (1, 12), .inr (1, 36), .inr (0, 12), .inr (0, 12), .inr (0, 10), .inr (0, 10), .inr (0, 25), .inr (5, 6), .inr (3, 60), .inr (3, 60), .inr (3, 60), .inr (3, 60), .inr (3, 60), .inr (3, 60), .inr (0, 6), .inr (0, 6), .inr (3, 60)]
def shp : List Shp := sStone ++ sModel
theorem shp_len : shp.length = 160 := by decide +kernel
/-- a part of the table stands from place b on -/
def At (L : List Shp) (b : Nat) : Prop := ∀ (j : Nat) (x : Shp), L[j]? = some x → shp[b + j]? = some x
theorem At.of {L : List Shp} {b : Nat} (h : (List.range L.length).all (fun j => decide (shp[b + j]? = L[j]?)) = true) : At L b := by
  intro j x hx
  have hj : j < L.length := (List.getElem?_eq_some_iff.mp hx).1
  have h1 := List.all_eq_true.mp h j (List.mem_range.mpr hj)
  rw [of_decide_eq_true h1]; exact hx
theorem At.sub {L M : List Shp} {b : Nat} (h : At L b) (d : Nat) (hd : (List.range M.length).all (fun j => decide (L[d + j]? = M[j]?)) = true) : At M (b + d) := by
  intro j x hx
  have hj : j < M.length := (List.getElem?_eq_some_iff.mp hx).1
  have h1 := List.all_eq_true.mp hd j (List.mem_range.mpr hj)
  rw [Nat.add_assoc]
  exact h (d + j) x ((of_decide_eq_true h1).trans hx)
/-- a list's items with their places -/
def mpi {α β : Type} (f : Nat → α → β) : Nat → List α → List β
  | _, [] => []
  | i, a :: l => f i a :: mpi f (i + 1) l
theorem mpi_get {α β : Type} (f : Nat → α → β) : ∀ (l : List α) (i j : Nat), (mpi f i l)[j]? = (l[j]?).map (f (i + j))
  | [], i, j => by simp [mpi]
  | a :: l, i, 0 => by simp [mpi]
  | a :: l, i, j + 1 => by simp [mpi, mpi_get f l (i + 1) j, Nat.add_assoc, Nat.add_comm 1 j]
theorem mpi_get0 {α β : Type} (f : Nat → α → β) (l : List α) (j : Nat) : (mpi f 0 l)[j]? = (l[j]?).map (f j) := by rw [mpi_get, Nat.zero_add]
theorem mpi_len {α β : Type} (f : Nat → α → β) : ∀ (l : List α) (i : Nat), (mpi f i l).length = l.length
  | [], _ => rfl
  | a :: l, i => by simp [mpi, mpi_len f l (i + 1)]
def fv (ad : Nat → Nat) (μ : Mem) (k j : Nat) (d : Option Nat) : Value := match d with
  | none => .int (μ.1 k j)
  | some d => .ref (ad (k + d))
def arx (ad : Nat → Nat) (μ : Mem) (k t : Nat) : (Nat → Int32) ⊕ (Nat → Int64) ⊕ (Nat → UInt32) ⊕ (Nat → UInt64) ⊕ (Nat → Option Nat) := match t with
  | 3 => .inr (.inl (μ.2 k))
  | 4 => .inr (.inr (.inr (.inr (fun i => if i < 6 then some (ad (k + 1 + 2 * i)) else none))))
  | 5 => .inr (.inr (.inr (.inr (fun i => if i < 6 then some (ad (k + 1 + i)) else none))))
  | _ => .inl (μ.1 k)
def ce (G : Gp) (μ : Mem) (k : Nat) (x : Shp) : va_E := match x with
  | .inl o => .inr (o.1, mpi (fun j d => fv G.2.2 μ k j d) 0 o.2)
  | .inr a => .inl (G.2.1 a.1, a.2, arx G.2.2 μ k a.1)
def wl (G : Gp) (μ : Mem) : va_W := shp.mapIdx (fun k x => (G.2.2 k, ce G μ k x))
theorem wl_get {G : Gp} {μ : Mem} {k : Nat} {x : Shp} (h : shp[k]? = some x) : (wl G μ)[k]? = some (G.2.2 k, ce G μ k x) := by
  simp [wl, List.getElem?_mapIdx, h]
theorem wl_inv {G : Gp} {μ : Mem} {k : Nat} {q : Nat × va_E} (h : (wl G μ)[k]? = some q) : k < shp.length ∧ q.1 = G.2.2 k := by
  simp only [wl, List.getElem?_mapIdx, Option.map_eq_some_iff] at h
  obtain ⟨x, hx, rfl⟩ := h
  exact ⟨(List.getElem?_eq_some_iff.mp hx).1, rfl⟩
/-- a cell's whole contents anew -/
def cst (μ : Mem) (k : Nat) (f : Nat → Int32) : Mem := (va_up μ.1 k f, μ.2)
def clst (μ : Mem) (k : Nat) (f : Nat → Int64) : Mem := (μ.1, va_up μ.2 k f)
/-- one place of a cell anew -/
def st (μ : Mem) (k j : Nat) (x : Int32) : Mem := cst μ k (upd (μ.1 k) j x)
def stl (μ : Mem) (k j : Nat) (x : Int64) : Mem := clst μ k (vp_updL (μ.2 k) j x)
theorem ce_ne {G : Gp} {μ : Mem} {k i : Nat} (f : Nat → Int32) (h : i ≠ k) (x : Shp) : ce G (cst μ k f) i x = ce G μ i x := by
  have e : (cst μ k f).1 i = μ.1 i := by simp [cst, va_up, h]
  rcases x with ⟨ci, fs⟩ | ⟨t, n⟩
  · simp only [ce]
    congr 2
    congr 1
    funext j d
    cases d <;> simp [fv, e]
  · simp only [ce]
    congr 3
    unfold arx
    split <;> simp [cst, va_up, h]
theorem cel_ne {G : Gp} {μ : Mem} {k i : Nat} (f : Nat → Int64) (h : i ≠ k) (x : Shp) : ce G (clst μ k f) i x = ce G μ i x := by
  have e : (clst μ k f).2 i = μ.2 i := by simp [clst, va_up, h]
  rcases x with ⟨ci, fs⟩ | ⟨t, n⟩
  · rfl
  · simp only [ce]
    congr 3
    unfold arx
    split <;> simp [clst, va_up, h]
theorem wl_cst {G : Gp} {μ : Mem} {k : Nat} {x : Shp} (f : Nat → Int32) (h : shp[k]? = some x) : (wl G μ).set k (G.2.2 k, ce G (cst μ k f) k x) = wl G (cst μ k f) := by
  apply List.ext_getElem?
  intro i
  by_cases hi : i = k
  · subst hi
    rw [wl_get h, List.getElem?_set_self]
    exact (List.getElem?_eq_some_iff.mp (wl_get (G := G) (μ := μ) h)).1
  · rw [List.getElem?_set_ne (fun e => hi e.symm)]
    simp only [wl, List.getElem?_mapIdx]
    cases hx : shp[i]? with
    | none => rfl
    | some y => simp [ce_ne f hi]
theorem wl_clst {G : Gp} {μ : Mem} {k : Nat} {x : Shp} (f : Nat → Int64) (h : shp[k]? = some x) : (wl G μ).set k (G.2.2 k, ce G (clst μ k f) k x) = wl G (clst μ k f) := by
  apply List.ext_getElem?
  intro i
  by_cases hi : i = k
  · subst hi
    rw [wl_get h, List.getElem?_set_self]
    exact (List.getElem?_eq_some_iff.mp (wl_get (G := G) (μ := μ) h)).1
  · rw [List.getElem?_set_ne (fun e => hi e.symm)]
    simp only [wl, List.getElem?_mapIdx]
    cases hx : shp[i]? with
    | none => rfl
    | some y => simp [cel_ne f hi]
def Wm (G : Gp) (μ : Mem) (H : Heap) : Prop := va_P G.1 vwCl (wl G μ) H
def wA (G : Gp) : Nat → Prop := fun q => ∃ k, k < shp.length ∧ q = G.2.2 k
def Wi (G : Gp) : Prop := ∀ i j, i < shp.length → j < shp.length → G.2.2 i = G.2.2 j → i = j
theorem wD {G : Gp} (hI : Wi G) (μ : Mem) : va_D (wA G) (wl G μ) := by
  refine ⟨fun i j p q hi hj e => ?_, fun k q h => ?_⟩
  · obtain ⟨h1, e1⟩ := wl_inv hi
    obtain ⟨h2, e2⟩ := wl_inv hj
    exact hI i j h1 h2 (by rw [← e1, ← e2, e])
  · obtain ⟨h1, e1⟩ := wl_inv h
    exact ⟨k, h1, e1⟩
def wtys (G : Gp) : List (ClassId × FieldType) := [(G.2.1 0, .int), (G.2.1 1, .boolean), (G.2.1 2, .char), (G.2.1 3, .long), (G.2.1 4, .object "StoneRoads$Tape"), (G.2.1 5, .array .long)]
def nests : List Cond := [.methodLinkNest RX8 13 yX6_init RX8, .methodLinkNest RX8 27 yX5_init RX8, .methodLinkNest RX8 47 yX3_init RX8, .methodLinkNest RX8 52 yX7_init RX8, .methodLinkNest RX0 53 yX8_roadAt RX8, .methodLinkNest RX1 33 yX8_cellAt RX8, .methodLinkNest RX2 92 yX8_cellAt RX8, .methodLinkNest RX3 59 yX2_init RX8, .methodLinkNest RX3 66 yX1_init RX8, .methodLinkNest RX3 97 yX8_cellAt RX8, .methodLinkNest RX6 20 yX3_init RX8, .methodLinkNest RX6 69 yX8_roadAt RX8]
theorem nest_form : ∀ w ∈ nests, ∃ a i x h, w = .methodLinkNest a i x h := by
  intro w hw
  simp only [nests, List.mem_cons, List.not_mem_nil, or_false] at hw
  rcases hw with h | h | h | h | h | h | h | h | h | h | h | h <;> exact ⟨_, _, _, _, h⟩
def Kn (G : Gp) (U : State) : Prop := va_K G.1 vwCl (wtys G) U ∧ ∀ w ∈ nests, va_Nw w U
theorem Kn.warm {G : Gp} {s U : State} (hW : s.WarmedH U.vm) (h : Kn G s) : Kn G U := ⟨va_K.moved hW.alike h.1, fun w hw => by
  obtain ⟨a, i, x, hh, rfl⟩ := nest_form w hw
  exact va_Nw.warmM hW (h.2 _ hw)⟩
theorem Kn.same {G : Gp} {s U : State} (hv : s.vm = U.vm) (h : Kn G s) : Kn G U := ⟨va_K.moved (by rw [hv]; exact Vm.Alike.refl _) h.1, fun w hw => by
  obtain ⟨a, i, x, hh, rfl⟩ := nest_form w hw
  exact va_Nw.same rfl hv (h.2 _ hw)⟩
abbrev Wo (G : Gp) (μ : Mem) (U : State) : Prop := Wm G μ U.heap ∧ Kn G U
theorem Wo.blind {G : Gp} {μ : Mem} {as : List Value} : FrameBlind (va_Pc as (Wo G μ)) := fun _ U _ _ q => ⟨q.1, q.2.1, Kn.same (s := U) rfl q.2.2⟩
/-! what a method's code and its callers' need of the tables -/
abbrev wc (y : MethodName) (cc : ByteArray) (n : Nat) (ret : Option FieldType) : List Cond := Cond.code y cc n ret :: UU
abbrev rmm (fr lo : Nat) : Room := { frames := fr, cells := 0, slots := 0, locals := lo }
/-! contracts -/
def CI (l : Launch) (y : MethodName) (cc : ByteArray) (n : Nat) (ret : Option FieldType) (fr lo : Nat) (G : Gp) (as : List Value) (μ : Mem) (r : Int32) (μ' : Mem) : Prop :=
  Met l y (wc y cc n ret) (rmm fr lo) (va_Pc as (Wo G μ)) (va_Qi (fun (x : Int32) (_ : Unit) => x = r) (fun _ t => Wo G μ' t) (wA G)) 0 0 (wA G)
def CL (l : Launch) (y : MethodName) (cc : ByteArray) (n : Nat) (ret : Option FieldType) (fr lo : Nat) (G : Gp) (as : List Value) (μ : Mem) (r : Int64) (μ' : Mem) : Prop :=
  Met l y (wc y cc n ret) (rmm fr lo) (va_Pc as (Wo G μ)) (va_Ql (fun (x : Int64) (_ : Unit) => x = r) (fun _ t => Wo G μ' t) (wA G)) 0 0 (wA G)
def CV (l : Launch) (y : MethodName) (cc : ByteArray) (n : Nat) (ret : Option FieldType) (fr lo : Nat) (G : Gp) (as : List Value) (μ : Mem) (μ' : Mem) : Prop :=
  Met l y (wc y cc n ret) (rmm fr lo) (va_Pc as (Wo G μ)) (va_Qv (fun (_ : Unit) => True) (fun _ t => Wo G μ' t) (wA G)) 0 0 (wA G)
def CR (l : Launch) (y : MethodName) (cc : ByteArray) (n : Nat) (ret : Option FieldType) (fr lo : Nat) (G : Gp) (as : List Value) (μ : Mem) (r : Nat) (μ' : Mem) : Prop :=
  Met l y (wc y cc n ret) (rmm fr lo) (va_Pc as (Wo G μ)) (va_Qr (fun (_ : Unit) => True) (fun _ a t => a = G.2.2 r ∧ Wo G μ' t) (wA G)) 0 0 (wA G)
def QI (below : List Frame) (args : Array Value) (s : State) (G : Gp) (O : Int32 × Mem) : State → Prop := MQ below (va_Qi (fun (x : Int32) (_ : Unit) => x = O.1) (fun _ t => Wo G O.2 t) (wA G)) args s 0 0 (wA G)
def QL (below : List Frame) (args : Array Value) (s : State) (G : Gp) (O : Int64 × Mem) : State → Prop := MQ below (va_Ql (fun (x : Int64) (_ : Unit) => x = O.1) (fun _ t => Wo G O.2 t) (wA G)) args s 0 0 (wA G)
def QV (below : List Frame) (args : Array Value) (s : State) (G : Gp) (O : Mem) : State → Prop := MQ below (va_Qv (fun (_ : Unit) => True) (fun _ t => Wo G O t) (wA G)) args s 0 0 (wA G)
def QR (below : List Frame) (args : Array Value) (s : State) (G : Gp) (O : Nat × Mem) : State → Prop := MQ below (va_Qr (fun (_ : Unit) => True) (fun _ a t => a = G.2.2 O.1 ∧ Wo G O.2 t) (wA G)) args s 0 0 (wA G)
/-- what holds all along a method's walk -/
def Cx (p : Program) (s : State) (m : MethodId) (args : Array Value) (meth : Method) (c : Code) (cc : ByteArray) (nL : Nat) (own : String) (ret : Option FieldType) (G : Gp) : Prop :=
  p.tables.exec = Jvm.exec ∧ c.code = cc ∧ c.maxLocals = nL ∧ s.vm.findClass own = some m.cls ∧ (∀ w ∈ UU, w.before args s = true) ∧ meth.sig.returnType = ret ∧ meth.locks = false ∧ Kn G s ∧ Wi G
/-! the functions that the methods are read as: guards, calls -/
def inb (i : Int32) (n : Nat) : Bool := decide (¬ (i < 0 ∨ n ≤ i.toNatClampNeg))
theorem inb_in {i : Int32} {n : Nat} (h : inb i n = true) : vp_in i n := of_decide_eq_true (p := ¬ (i < 0 ∨ n ≤ i.toNatClampNeg)) h
def isB (x : Int32) : Bool := decide (x = 0 ∨ x = 1)
def grd {α : Type} (b : Bool) (k : Option α) : Option α := match b with
  | true => k
  | false => none
theorem grd_some {α : Type} {b : Bool} {k : Option α} {z : α} (h : grd b k = some z) : b = true ∧ k = some z := by
  cases b with
  | true => exact ⟨rfl, h⟩
  | false => cases h
def bnd {α β γ : Type} (o : Option (α × β)) (k : α → β → Option γ) : Option γ := match o with
  | none => none
  | some z => k z.1 z.2
theorem bnd_some {α β γ : Type} {o : Option (α × β)} {k : α → β → Option γ} {z : γ} (h : bnd o k = some z) : ∃ a b, o = some (a, b) ∧ k a b = some z := by
  cases o with
  | none => cases h
  | some x => exact ⟨x.1, x.2, rfl, h⟩
def bnv {α γ : Type} (o : Option α) (k : α → Option γ) : Option γ := match o with
  | none => none
  | some z => k z
theorem bnv_some {α γ : Type} {o : Option α} {k : α → Option γ} {z : γ} (h : bnv o k = some z) : ∃ a, o = some a ∧ k a = some z := by
  cases o with
  | none => cases h
  | some x => exact ⟨x, rfl, h⟩
def rm32 (x y : Int32) : Int32 := x - x / y * y
def rm64 (x y : Int64) : Int64 := x - x / y * y
/-- the steps of a loop at most -/
def FU : Nat := 1024
/-- a value named -/
def lt {α β : Type} (a : α) (k : α → Option β) : Option β := k a
theorem lt_ex {α β : Type} {a : α} {k : α → Option β} {z : β} (h : lt a k = some z) : ∃ x, x = a ∧ k x = some z := ⟨a, rfl, h⟩
theorem lt_at {α β : Type} {a : α} {k : α → Option β} {z : β} (h : lt a k = some z) {y : α} (e : y = a) : k y = some z := by subst e; exact h
theorem pr_some {α : Type} {v O : α} {μ : Mem} (h : some v = some O) : some (v, μ) = some (O, μ) := by cases h; rfl
def n_b (x : Int32) : Int32 := x.toInt8.toInt32
def n_s (x : Int32) : Int32 := x.toInt16.toInt32
def n_c (x : Int32) : Int32 := (x.toUInt32 % 65536).toInt32
def mx (x y : Int32) : Int32 := if x < y then y else x
def mn (x y : Int32) : Int32 := if y < x then y else x
theorem tape_at {i : Int32} (h : inb i 6 = true) : At sTape (2 + 2 * i.toNatClampNeg) := by
  have hlt : i.toNatClampNeg < 6 := Nat.not_le.mp fun q => (inb_in h) (Or.inr q)
  have : ∀ n, n < 6 → At sTape (2 + 2 * n) := by
    intro n hn
    rcases (show n = 0 ∨ n = 1 ∨ n = 2 ∨ n = 3 ∨ n = 4 ∨ n = 5 by omega) with rfl | rfl | rfl | rfl | rfl | rfl <;> exact At.of (by decide +kernel)
  exact this _ hlt
theorem mrow_at {i : Int32} (h : inb i 6 = true) : shp[151 + i.toNatClampNeg]? = some (.inr (3, 60)) := by
  have hlt : i.toNatClampNeg < 6 := Nat.not_le.mp fun q => (inb_in h) (Or.inr q)
  have : ∀ n, n < 6 → shp[151 + n]? = some (.inr (3, 60)) := by
    intro n hn
    rcases (show n = 0 ∨ n = 1 ∨ n = 2 ∨ n = 3 ∨ n = 4 ∨ n = 5 by omega) with rfl | rfl | rfl | rfl | rfl | rfl <;> decide +kernel
  exact this _ hlt
