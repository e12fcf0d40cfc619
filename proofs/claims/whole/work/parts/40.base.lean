/-! THE PURE PART: reading the functions -/
theorem bnv_s {α γ : Type} (a : α) (k : α → Option γ) : bnv (some a) k = k a := rfl
theorem bnd_s {α β γ : Type} (a : α) (b : β) (k : α → β → Option γ) : bnd (some (a, b)) k = k a b := rfl
theorem grd_t {α : Type} (k : Option α) : grd true k = k := rfl
theorem lt_k {α β : Type} (a : α) (k : α → Option β) : lt a k = k a := rfl
theorem grd_of {α : Type} {b : Bool} (h : b = true) (k : Option α) : grd b k = k := by subst h; rfl
theorem st_g (μ : Mem) (k j : Nat) (x : Int32) (k' j' : Nat) : (st μ k j x).1 k' j' = if k' = k then (if j' = j then x else μ.1 k j') else μ.1 k' j' := by
  unfold st cst va_up upd
  by_cases h : k' = k
  · subst h; simp
  · simp [h]
theorem st_c (μ : Mem) (k j : Nat) (x : Int32) {k' : Nat} (h : k' ≠ k) : (st μ k j x).1 k' = μ.1 k' := by
  unfold st cst va_up; simp [h]
theorem st_2 (μ : Mem) (k j : Nat) (x : Int32) : (st μ k j x).2 = μ.2 := rfl
theorem cst_c (μ : Mem) (k : Nat) (f : Nat → Int32) {k' : Nat} (h : k' ≠ k) : (cst μ k f).1 k' = μ.1 k' := by
  unfold cst va_up; simp [h]
theorem cst_s (μ : Mem) (k : Nat) (f : Nat → Int32) : (cst μ k f).1 k = f := by
  unfold cst va_up; simp
theorem cst_2 (μ : Mem) (k : Nat) (f : Nat → Int32) : (cst μ k f).2 = μ.2 := rfl
theorem st_cst (μ : Mem) (k j : Nat) (f : Nat → Int32) (x : Int32) : st (cst μ k f) k j x = cst μ k (upd f j x) := by
  unfold st
  rw [cst_s]
  unfold cst
  congr 1
  funext a
  unfold va_up
  by_cases h : a = k <;> simp [h]
theorem cst_cst (μ : Mem) (k : Nat) (f g : Nat → Int32) : cst (cst μ k f) k g = cst μ k g := by
  unfold cst
  congr 1
  funext a
  unfold va_up
  by_cases h : a = k <;> simp [h]
theorem cst_self (μ : Mem) (k : Nat) : cst μ k (μ.1 k) = μ := by
  unfold cst va_up
  have : (fun j => if j = k then μ.1 k else μ.1 j) = μ.1 := by
    funext a
    by_cases h : a = k <;> simp [h]
  rw [this]
/-! a counting loop: F n i s with n turns left, at i, in state s -/
def itr {σ : Type} (step : Nat → σ → σ) : Nat → Nat → σ → σ
  | 0, _, s => s
  | d + 1, i, s => itr step d (i + 1) (step i s)
theorem cnt_loop {σ β : Type} (F : Nat → Nat → σ → Option β) (N : Nat) (step : Nat → σ → σ) (exit : σ → Option β) (Iv : Nat → σ → Prop)
    (h1 : ∀ n i s, i < N → Iv i s → F (n + 1) i s = F n (i + 1) (step i s)) (hI : ∀ i s, i < N → Iv i s → Iv (i + 1) (step i s)) (h0 : ∀ n s, Iv N s → F (n + 1) N s = exit s) :
    ∀ (d i n : Nat) (s : σ), i + d = N → d < n → Iv i s → F n i s = exit (itr step d i s) ∧ Iv N (itr step d i s) := by
  intro d
  induction d with
  | zero =>
    intro i n s hi hn hv
    obtain ⟨n, rfl⟩ : ∃ m, n = m + 1 := ⟨n - 1, by omega⟩
    have : i = N := by omega
    subst this
    exact ⟨h0 n s hv, hv⟩
  | succ d ih =>
    intro i n s hi hn hv
    obtain ⟨n, rfl⟩ : ∃ m, n = m + 1 := ⟨n - 1, by omega⟩
    rw [h1 n i s (by omega) hv]
    exact ih (i + 1) n (step i s) (by omega) (by omega) (hI i s (by omega) hv)
/-- what holds all along -/
theorem itr_inv {σ : Type} (step : Nat → σ → σ) (Iv : Nat → σ → Prop) (N : Nat) (hI : ∀ i s, i < N → Iv i s → Iv (i + 1) (step i s)) : ∀ (d i : Nat) (s : σ), i + d = N → Iv i s → Iv N (itr step d i s) := by
  intro d
  induction d with
  | zero => intro i s hi hv; have : i = N := by omega
            subst this; exact hv
  | succ d ih => intro i s hi hv; exact ih (i + 1) (step i s) (by omega) (hI i s (by omega) hv)
/-! numbers -/
theorem i_lt {x y : Int32} : x < y ↔ x.toInt < y.toInt := Int32.lt_iff_toInt_lt
theorem i_le {x y : Int32} : x ≤ y ↔ x.toInt ≤ y.toInt := Int32.le_iff_toInt_le
theorem i_eq {x y : Int32} : x = y ↔ x.toInt = y.toInt := Int32.toInt_inj.symm
theorem nI_i {n : Nat} (h : n < 2147483648) : (nI n).toInt = (n : Int) := nI_toInt h
theorem nI_of_toInt {x : Int32} (h : 0 ≤ x.toInt) : x = nI x.toInt.toNat ∧ x.toInt.toNat < 2147483648 := by
  have h2 : x.toInt < 2147483648 := Int32.toInt_lt x
  have h3 : x.toInt.toNat < 2147483648 := by omega
  refine ⟨?_, h3⟩
  rw [i_eq, nI_i h3]
  omega
theorem inb_n {k n : Nat} (h : k < n) (hn : n < 2147483648) : inb (nI k) n = true := decide_eq_true (nI_in h hn)
theorem nI_c {n : Nat} (h : n < 2147483648) : (nI n).toNatClampNeg = n := nI_clamp h
/-- from lo to hi -/
def inR (x : Int32) (lo hi : Int) : Bool := decide (lo ≤ x.toInt ∧ x.toInt ≤ hi)
def b2i (b : Bool) : Int32 := if b then 1 else 0
theorem upTo_eq {x : Int32} {n : Nat} (hn : n < 2147483648) (μ : Mem) : f_X8_isUpTo x (nI n) μ = some (b2i (inR x 0 n)) := by
  unfold f_X8_isUpTo inR b2i
  have h := nI_i hn
  by_cases h1 : x < 0
  · rw [if_pos h1]
    have : x.toInt < 0 := i_lt.mp h1
    simp only [show decide (0 ≤ x.toInt ∧ x.toInt ≤ (n : Int)) = false from decide_eq_false (by omega)]
    rfl
  · rw [if_neg h1]
    have h1' : ¬ x.toInt < 0 := fun h => h1 (i_lt.mpr h)
    by_cases h2 : nI n < x
    · rw [if_pos h2]
      have := i_lt.mp h2
      simp only [show decide (0 ≤ x.toInt ∧ x.toInt ≤ (n : Int)) = false from decide_eq_false (by omega)]
      rfl
    · rw [if_neg h2]
      have h2' : ¬ (nI n).toInt < x.toInt := fun h => h2 (i_lt.mpr h)
      simp only [show decide (0 ≤ x.toInt ∧ x.toInt ≤ (n : Int)) = true from decide_eq_true (by omega)]
      rfl
theorem cmp_lt {x y : Int64} : lg_cmp x y < 0 ↔ x.toInt < y.toInt := by
  have := lg_cmp_ge x y
  rw [Int64.le_iff_toInt_le, i_le] at this
  rw [i_lt]
  have h0 : (0 : Int32).toInt = 0 := rfl
  omega
theorem cmp_gt {x y : Int64} : 0 < lg_cmp x y ↔ y.toInt < x.toInt := by
  unfold lg_cmp
  rw [i_lt]
  by_cases h : x > y
  · rw [if_pos h]
    have := Int64.lt_iff_toInt_lt.mp h
    simp only [show (1 : Int32).toInt = 1 from rfl, show (0 : Int32).toInt = 0 from rfl]
    omega
  · rw [if_neg h]
    have h' : ¬ y.toInt < x.toInt := fun q => h (Int64.lt_iff_toInt_lt.mpr q)
    by_cases e : x = y
    · rw [if_pos e]; simp only [show (0 : Int32).toInt = 0 from rfl]; omega
    · rw [if_neg e]; simp only [show (-1 : Int32).toInt = -1 from rfl, show (0 : Int32).toInt = 0 from rfl]; omega
theorem in_eq (x lo hi : Int64) (μ : Mem) : f_X9_in x lo hi μ = some (b2i (decide (lo.toInt ≤ x.toInt ∧ x.toInt ≤ hi.toInt))) := by
  unfold f_X9_in b2i
  by_cases h1 : lg_cmp x lo < 0
  · rw [if_pos h1]
    have := cmp_lt.mp h1
    simp only [show decide (lo.toInt ≤ x.toInt ∧ x.toInt ≤ hi.toInt) = false from decide_eq_false (by omega)]
    rfl
  · rw [if_neg h1]
    have h1' : ¬ x.toInt < lo.toInt := fun q => h1 (cmp_lt.mpr q)
    by_cases h2 : 0 < lg_cmp x hi
    · rw [if_pos h2]
      have := cmp_gt.mp h2
      simp only [show decide (lo.toInt ≤ x.toInt ∧ x.toInt ≤ hi.toInt) = false from decide_eq_false (by omega)]
      rfl
    · rw [if_neg h2]
      have h2' : ¬ hi.toInt < x.toInt := fun q => h2 (cmp_gt.mpr q)
      simp only [show decide (lo.toInt ≤ x.toInt ∧ x.toInt ≤ hi.toInt) = true from decide_eq_true (by omega)]
      rfl
theorem in_32 (x : Int32) (lo hi : Int64) (μ : Mem) : f_X9_in (Int32.toInt64 x) lo hi μ = some (b2i (inR x lo.toInt hi.toInt)) := by
  rw [in_eq]; unfold inR; rw [Int32.toInt_toInt64]
