/-! numbers in loops, memories read (written by wip/whole/pure/gen41.py) -/
theorem q_le1 {i : Nat} (h : 1 ≤ i) (hi : i < 2147483648) : ((1 : Int32) ≤ nI i) = True := eq_true ((nI_leI (a := 1) (by decide) hi).mpr h)
theorem q_nle1 {i : Nat} (h : i < 1) : ((1 : Int32) ≤ nI i) = False := eq_false (fun q => by have := (nI_leI (a := 1) (by decide) (by omega)).mp q; omega)
theorem q_le2 {i : Nat} (h : 2 ≤ i) (hi : i < 2147483648) : ((2 : Int32) ≤ nI i) = True := eq_true ((nI_leI (a := 2) (by decide) hi).mpr h)
theorem q_nle2 {i : Nat} (h : i < 2) : ((2 : Int32) ≤ nI i) = False := eq_false (fun q => by have := (nI_leI (a := 2) (by decide) (by omega)).mp q; omega)
theorem q_le5 {i : Nat} (h : 5 ≤ i) (hi : i < 2147483648) : ((5 : Int32) ≤ nI i) = True := eq_true ((nI_leI (a := 5) (by decide) hi).mpr h)
theorem q_nle5 {i : Nat} (h : i < 5) : ((5 : Int32) ≤ nI i) = False := eq_false (fun q => by have := (nI_leI (a := 5) (by decide) (by omega)).mp q; omega)
theorem q_le6 {i : Nat} (h : 6 ≤ i) (hi : i < 2147483648) : ((6 : Int32) ≤ nI i) = True := eq_true ((nI_leI (a := 6) (by decide) hi).mpr h)
theorem q_nle6 {i : Nat} (h : i < 6) : ((6 : Int32) ≤ nI i) = False := eq_false (fun q => by have := (nI_leI (a := 6) (by decide) (by omega)).mp q; omega)
theorem q_le8 {i : Nat} (h : 8 ≤ i) (hi : i < 2147483648) : ((8 : Int32) ≤ nI i) = True := eq_true ((nI_leI (a := 8) (by decide) hi).mpr h)
theorem q_nle8 {i : Nat} (h : i < 8) : ((8 : Int32) ≤ nI i) = False := eq_false (fun q => by have := (nI_leI (a := 8) (by decide) (by omega)).mp q; omega)
theorem q_le12 {i : Nat} (h : 12 ≤ i) (hi : i < 2147483648) : ((12 : Int32) ≤ nI i) = True := eq_true ((nI_leI (a := 12) (by decide) hi).mpr h)
theorem q_nle12 {i : Nat} (h : i < 12) : ((12 : Int32) ≤ nI i) = False := eq_false (fun q => by have := (nI_leI (a := 12) (by decide) (by omega)).mp q; omega)
theorem q_le25 {i : Nat} (h : 25 ≤ i) (hi : i < 2147483648) : ((25 : Int32) ≤ nI i) = True := eq_true ((nI_leI (a := 25) (by decide) hi).mpr h)
theorem q_nle25 {i : Nat} (h : i < 25) : ((25 : Int32) ≤ nI i) = False := eq_false (fun q => by have := (nI_leI (a := 25) (by decide) (by omega)).mp q; omega)
theorem q_le36 {i : Nat} (h : 36 ≤ i) (hi : i < 2147483648) : ((36 : Int32) ≤ nI i) = True := eq_true ((nI_leI (a := 36) (by decide) hi).mpr h)
theorem q_nle36 {i : Nat} (h : i < 36) : ((36 : Int32) ≤ nI i) = False := eq_false (fun q => by have := (nI_leI (a := 36) (by decide) (by omega)).mp q; omega)
theorem q_le60 {i : Nat} (h : 60 ≤ i) (hi : i < 2147483648) : ((60 : Int32) ≤ nI i) = True := eq_true ((nI_leI (a := 60) (by decide) hi).mpr h)
theorem q_nle60 {i : Nat} (h : i < 60) : ((60 : Int32) ≤ nI i) = False := eq_false (fun q => by have := (nI_leI (a := 60) (by decide) (by omega)).mp q; omega)
theorem q_le99 {i : Nat} (h : 99 ≤ i) (hi : i < 2147483648) : ((99 : Int32) ≤ nI i) = True := eq_true ((nI_leI (a := 99) (by decide) hi).mpr h)
theorem q_nle99 {i : Nat} (h : i < 99) : ((99 : Int32) ≤ nI i) = False := eq_false (fun q => by have := (nI_leI (a := 99) (by decide) (by omega)).mp q; omega)
theorem q_le100 {i : Nat} (h : 100 ≤ i) (hi : i < 2147483648) : ((100 : Int32) ≤ nI i) = True := eq_true ((nI_leI (a := 100) (by decide) hi).mpr h)
theorem q_nle100 {i : Nat} (h : i < 100) : ((100 : Int32) ≤ nI i) = False := eq_false (fun q => by have := (nI_leI (a := 100) (by decide) (by omega)).mp q; omega)
theorem q_le300 {i : Nat} (h : 300 ≤ i) (hi : i < 2147483648) : ((300 : Int32) ≤ nI i) = True := eq_true ((nI_leI (a := 300) (by decide) hi).mpr h)
theorem q_nle300 {i : Nat} (h : i < 300) : ((300 : Int32) ≤ nI i) = False := eq_false (fun q => by have := (nI_leI (a := 300) (by decide) (by omega)).mp q; omega)
theorem q_le640 {i : Nat} (h : 640 ≤ i) (hi : i < 2147483648) : ((640 : Int32) ≤ nI i) = True := eq_true ((nI_leI (a := 640) (by decide) hi).mpr h)
theorem q_nle640 {i : Nat} (h : i < 640) : ((640 : Int32) ≤ nI i) = False := eq_false (fun q => by have := (nI_leI (a := 640) (by decide) (by omega)).mp q; omega)
theorem q_le411 {i : Nat} (h : 411 ≤ i) (hi : i < 2147483648) : ((411 : Int32) ≤ nI i) = True := eq_true ((nI_leI (a := 411) (by decide) hi).mpr h)
theorem q_nle411 {i : Nat} (h : i < 411) : ((411 : Int32) ≤ nI i) = False := eq_false (fun q => by have := (nI_leI (a := 411) (by decide) (by omega)).mp q; omega)
theorem q_mul2 (i : Nat) : nI i * 2 = nI (i * 2) := (Int32.ofNat_mul i 2).symm
theorem q_lmul2 (i : Nat) : 2 * nI i = nI (2 * i) := (Int32.ofNat_mul 2 i).symm
theorem q_mul3 (i : Nat) : nI i * 3 = nI (i * 3) := (Int32.ofNat_mul i 3).symm
theorem q_lmul3 (i : Nat) : 3 * nI i = nI (3 * i) := (Int32.ofNat_mul 3 i).symm
theorem q_mul5 (i : Nat) : nI i * 5 = nI (i * 5) := (Int32.ofNat_mul i 5).symm
theorem q_lmul5 (i : Nat) : 5 * nI i = nI (5 * i) := (Int32.ofNat_mul 5 i).symm
theorem q_mul6 (i : Nat) : nI i * 6 = nI (i * 6) := (Int32.ofNat_mul i 6).symm
theorem q_lmul6 (i : Nat) : 6 * nI i = nI (6 * i) := (Int32.ofNat_mul 6 i).symm
theorem q_mul10 (i : Nat) : nI i * 10 = nI (i * 10) := (Int32.ofNat_mul i 10).symm
theorem q_lmul10 (i : Nat) : 10 * nI i = nI (10 * i) := (Int32.ofNat_mul 10 i).symm
theorem q_add1 (i : Nat) : nI i + 1 = nI (i + 1) := nI_add i 1
theorem q_ladd1 (i : Nat) : 1 + nI i = nI (1 + i) := nI_add 1 i
theorem q_add2 (i : Nat) : nI i + 2 = nI (i + 2) := nI_add i 2
theorem q_ladd2 (i : Nat) : 2 + nI i = nI (2 + i) := nI_add 2 i
theorem q_add3 (i : Nat) : nI i + 3 = nI (i + 3) := nI_add i 3
theorem q_ladd3 (i : Nat) : 3 + nI i = nI (3 + i) := nI_add 3 i
theorem q_add5 (i : Nat) : nI i + 5 = nI (i + 5) := nI_add i 5
theorem q_ladd5 (i : Nat) : 5 + nI i = nI (5 + i) := nI_add 5 i
theorem q_add6 (i : Nat) : nI i + 6 = nI (i + 6) := nI_add i 6
theorem q_ladd6 (i : Nat) : 6 + nI i = nI (6 + i) := nI_add 6 i
theorem q_add100 (i : Nat) : nI i + 100 = nI (i + 100) := nI_add i 100
theorem q_ladd100 (i : Nat) : 100 + nI i = nI (100 + i) := nI_add 100 i
theorem q_div2 {i : Nat} (h : i < 2147483648) : nI i / 2 = nI (i / 2) := by
  rw [i_eq, nI_i (by omega), Int32.toInt_div, nI_i h, show (2 : Int32).toInt = 2 from rfl]
  rw [show (i : Int).tdiv 2 = ((i / 2 : Nat) : Int) from rfl]
  exact Int.bmod_eq_of_le (by omega) (by omega)
theorem q_rem2 {i : Nat} (h : i < 2147483648) : rm32 (nI i) 2 = nI (i % 2) := by
  unfold rm32
  rw [q_div2 h, q_mul2]
  have e : nI i = nI (i % 2) + nI (i / 2 * 2) := by rw [nI_add]; congr 1; omega
  rw [e, Int32.add_sub_cancel]
theorem q_div3 {i : Nat} (h : i < 2147483648) : nI i / 3 = nI (i / 3) := by
  rw [i_eq, nI_i (by omega), Int32.toInt_div, nI_i h, show (3 : Int32).toInt = 3 from rfl]
  rw [show (i : Int).tdiv 3 = ((i / 3 : Nat) : Int) from rfl]
  exact Int.bmod_eq_of_le (by omega) (by omega)
theorem q_rem3 {i : Nat} (h : i < 2147483648) : rm32 (nI i) 3 = nI (i % 3) := by
  unfold rm32
  rw [q_div3 h, q_mul3]
  have e : nI i = nI (i % 3) + nI (i / 3 * 3) := by rw [nI_add]; congr 1; omega
  rw [e, Int32.add_sub_cancel]
theorem q_div6 {i : Nat} (h : i < 2147483648) : nI i / 6 = nI (i / 6) := by
  rw [i_eq, nI_i (by omega), Int32.toInt_div, nI_i h, show (6 : Int32).toInt = 6 from rfl]
  rw [show (i : Int).tdiv 6 = ((i / 6 : Nat) : Int) from rfl]
  exact Int.bmod_eq_of_le (by omega) (by omega)
theorem q_rem6 {i : Nat} (h : i < 2147483648) : rm32 (nI i) 6 = nI (i % 6) := by
  unfold rm32
  rw [q_div6 h, q_mul6]
  have e : nI i = nI (i % 6) + nI (i / 6 * 6) := by rw [nI_add]; congr 1; omega
  rw [e, Int32.add_sub_cancel]
theorem q_div10 {i : Nat} (h : i < 2147483648) : nI i / 10 = nI (i / 10) := by
  rw [i_eq, nI_i (by omega), Int32.toInt_div, nI_i h, show (10 : Int32).toInt = 10 from rfl]
  rw [show (i : Int).tdiv 10 = ((i / 10 : Nat) : Int) from rfl]
  exact Int.bmod_eq_of_le (by omega) (by omega)
theorem q_rem10 {i : Nat} (h : i < 2147483648) : rm32 (nI i) 10 = nI (i % 10) := by
  unfold rm32
  rw [q_div10 h, q_mul10]
  have e : nI i = nI (i % 10) + nI (i / 10 * 10) := by rw [nI_add]; congr 1; omega
  rw [e, Int32.add_sub_cancel]
theorem q_leT {a b : Nat} (h : a ≤ b) (hb : b < 2147483648) : (nI a ≤ nI b) = True := eq_true ((nI_leI (by omega) hb).mpr h)
theorem q_leF {a b : Nat} (h : b < a) (ha : a < 2147483648) : (nI a ≤ nI b) = False := eq_false (fun q => by have := (nI_leI ha (by omega)).mp q; omega)
theorem q_ltT {a b : Nat} (h : a < b) (hb : b < 2147483648) : (nI a < nI b) = True := eq_true ((nI_ltI (by omega) hb).mpr h)
theorem q_ltF {a b : Nat} (h : b ≤ a) (ha : a < 2147483648) : (nI a < nI b) = False := eq_false (fun q => by have := (nI_ltI ha (by omega)).mp q; omega)
theorem q_neg {a : Nat} (h : a < 2147483648) : (nI a < 0) = False := eq_false (nI_pos h)
theorem q_nn {a : Nat} (h : a < 2147483648) : (0 ≤ nI a) = True := eq_true (nI_pos' h)
theorem q_z {a : Nat} (h0 : 0 < a) (h : a < 2147483648) : (nI a = 0) = False := eq_false (nI_ne0 h0 h)
theorem q_le0 {a : Nat} (h0 : 0 < a) (h : a < 2147483648) : (nI a ≤ 0) = False := eq_false (nI_nle h0 h)
theorem q_eqF {a b : Nat} (h : a ≠ b) (ha : a < 2147483648) (hb : b < 2147483648) : (nI a = nI b) = False := eq_false (fun q => h ((nI_eq ha hb).mp q))
theorem q_inb {k n : Nat} (h : k < n) (hn : n < 2147483648) : inb (nI k) n = true := inb_n h hn
theorem q_in {k n : Nat} (h : k < n) (hn : n < 2147483648) {α : Type} (z : Option α) : grd (inb (nI k) n) z = z := by rw [inb_n h hn]; rfl
theorem q_c {n : Nat} (h : n < 2147483648) : (nI n).toNatClampNeg = n := nI_clamp h
theorem q_b0 : isB 0 = true := by decide
theorem q_b1 : isB 1 = true := by decide
/-! memories -/
theorem q_off (μ : Mem) {k k' : Nat} (j : Nat) (x : Int32) (h : k' ≠ k) : (st μ k j x).1 k' = μ.1 k' := st_c μ k j x h
theorem q_self (μ : Mem) (k j : Nat) (x : Int32) : (st μ k j x).1 k j = x := by rw [st_g, if_pos rfl, if_pos rfl]
theorem q_oth (μ : Mem) (k : Nat) {j j' : Nat} (x : Int32) (h : j' ≠ j) : (st μ k j x).1 k j' = μ.1 k j' := by rw [st_g, if_pos rfl, if_neg h]
theorem q_at (μ : Mem) (k j j' : Nat) (x : Int32) : (st μ k j x).1 k j' = if j' = j then x else μ.1 k j' := by rw [st_g, if_pos rfl]
/-- all but A is as before -/
def fr (A : Nat → Nat → Prop) (μ μ' : Mem) : Prop := μ'.2 = μ.2 ∧ ∀ k j, ¬ A k j → μ'.1 k j = μ.1 k j
theorem fr_refl (A : Nat → Nat → Prop) (μ : Mem) : fr A μ μ := ⟨rfl, fun _ _ _ => rfl⟩
theorem fr_trans {A B C : Nat → Nat → Prop} {μ μ' μ'' : Mem} (h : fr A μ μ') (h' : fr B μ' μ'') (ha : ∀ k j, A k j → C k j) (hb : ∀ k j, B k j → C k j) : fr C μ μ'' :=
  ⟨h'.1.trans h.1, fun k j hn => (h'.2 k j (fun q => hn (hb k j q))).trans (h.2 k j (fun q => hn (ha k j q)))⟩
theorem fr_then {A : Nat → Nat → Prop} {μ μ' μ'' : Mem} (h : fr A μ μ') (h' : fr A μ' μ'') : fr A μ μ'' := fr_trans h h' (fun _ _ q => q) (fun _ _ q => q)
theorem fr_mono {A B : Nat → Nat → Prop} {μ μ' : Mem} (h : fr A μ μ') (hb : ∀ k j, A k j → B k j) : fr B μ μ' := ⟨h.1, fun k j hn => h.2 k j (fun q => hn (hb k j q))⟩
theorem fr_st {A : Nat → Nat → Prop} {μ : Mem} {k j : Nat} {x : Int32} (h : A k j) : fr A μ (st μ k j x) := by
  refine ⟨st_2 μ k j x, fun k' j' hn => ?_⟩
  rw [st_g]
  by_cases e : k' = k
  · rw [if_pos e]
    by_cases e2 : j' = j
    · subst e; subst e2; exact absurd h hn
    · rw [if_neg e2, e]
  · rw [if_neg e]
theorem fr_st' {A : Nat → Nat → Prop} {μ μ' : Mem} {k j : Nat} {x : Int32} (h' : fr A μ μ') (h : A k j) : fr A μ (st μ' k j x) := fr_then h' (fr_st h)
theorem fr_cst {A : Nat → Nat → Prop} {μ : Mem} {k : Nat} {f : Nat → Int32} (h : ∀ j, A k j) : fr A μ (cst μ k f) := by
  refine ⟨rfl, fun k' j' hn => ?_⟩
  have : k' ≠ k := fun e => hn (by rw [e]; exact h j')
  rw [cst_c μ k f this]
theorem fr_cst' {A : Nat → Nat → Prop} {μ μ' : Mem} {k : Nat} {f : Nat → Int32} (h' : fr A μ μ') (h : ∀ j, A k j) : fr A μ (cst μ' k f) := fr_then h' (fr_cst h)
theorem fr_c {A : Nat → Nat → Prop} {μ μ' : Mem} (h : fr A μ μ') {k : Nat} (hk : ∀ j, ¬ A k j) : μ'.1 k = μ.1 k := funext (fun j => h.2 k j (hk j))
/-! loops -/
theorem q_loop {σ β : Type} (F : Nat → Nat → σ → Option β) (N : Nat) (P : Nat → σ → Prop) (R : Option β → Prop)
    (hs : ∀ n i s, i < N → P i s → R (F (n + 1) i s) ∨ ∃ s', P (i + 1) s' ∧ F (n + 1) i s = F n (i + 1) s') (hf : ∀ n s, P N s → R (F (n + 1) N s)) :
    ∀ (d i n : Nat) (s : σ), i + d = N → d < n → P i s → R (F n i s) := by
  intro d
  induction d with
  | zero =>
    intro i n s hi hn hv
    obtain ⟨n, rfl⟩ : ∃ m, n = m + 1 := ⟨n - 1, by omega⟩
    have : i = N := by omega
    subst this
    exact hf n s hv
  | succ d ih =>
    intro i n s hi hn hv
    obtain ⟨n, rfl⟩ : ∃ m, n = m + 1 := ⟨n - 1, by omega⟩
    rcases hs n i s (by omega) hv with h | ⟨s', h1, h2⟩
    · exact h
    · rw [h2]; exact ih (i + 1) n s' (by omega) (by omega) h1
/-- rounds with a measure -/
theorem q_while {σ β : Type} (F : Nat → σ → Option β) (m : σ → Nat) (P : σ → Prop) (R : Option β → Prop)
    (hs : ∀ n s, P s → R (F (n + 1) s) ∨ ∃ s', P s' ∧ m s' < m s ∧ F (n + 1) s = F n s') : ∀ (d n : Nat) (s : σ), m s ≤ d → d < n → P s → R (F n s) := by
  intro d
  induction d with
  | zero =>
    intro n s hi hn hv
    obtain ⟨n, rfl⟩ : ∃ m, n = m + 1 := ⟨n - 1, by omega⟩
    rcases hs n s hv with h | ⟨s', h1, h2, h3⟩
    · exact h
    · omega
  | succ d ih =>
    intro n s hi hn hv
    obtain ⟨n, rfl⟩ : ∃ m, n = m + 1 := ⟨n - 1, by omega⟩
    rcases hs n s hv with h | ⟨s', h1, h2, h3⟩
    · exact h
    · rw [h3]; exact ih n s' (by omega) (by omega) h1
/-- a loop in a loop, over the cells of S rows, T columns -/
theorem q_dbl {σ β γ : Type} (G : Nat → γ) (app : γ → Nat → σ → Option β) (F1 : γ → Nat → Nat → Nat → σ → Option β) {S T : Nat} (hS : S ≤ 6) (hT : T ≤ 6) (P : Nat → σ → Prop) (R : Option β → Prop)
    (h2 : ∀ n i s, i < S → P (6 * i) s → app (G (n + 1)) i s = F1 (G n) FU i 0 s)
    (hi : ∀ q n i j s, i < S → j < T → P (6 * i + j) s → R (F1 q (n + 1) i j s) ∨ ∃ s', P (6 * i + j + 1) s' ∧ F1 q (n + 1) i j s = F1 q n i (j + 1) s')
    (ho : ∀ q n i s, i < S → P (6 * i + T) s → F1 q (n + 1) i T s = app q (i + 1) s)
    (hk : ∀ i j s, i < S → j < 6 → T ≤ j → P (6 * i + j) s → P (6 * i + j + 1) s)
    (h3 : ∀ n s, P (6 * S) s → R (app (G (n + 1)) S s)) : ∀ s, P 0 s → R (app (G FU) 0 s) := by
  intro s hs
  refine q_loop (fun n i s => app (G n) i s) S (fun i s => P (6 * i) s) R (fun n i s hlt hv => ?_) h3 S 0 FU s (by omega) (by unfold FU; omega) hs
  rw [h2 n i s hlt hv]
  have skip : ∀ d j s, j + d = 6 → T ≤ j → P (6 * i + j) s → P (6 * (i + 1)) s := by
    intro d
    induction d with
    | zero => intro j s hj _ hv; rw [show 6 * (i + 1) = 6 * i + j by omega]; exact hv
    | succ d ih => intro j s hj hT hv; exact ih (j + 1) s (by omega) (by omega) (hk i j s hlt (by omega) hT hv)
  refine q_loop (fun n' j s => F1 (G n) n' i j s) T (fun j s => P (6 * i + j) s) (fun z => R z ∨ ∃ s', P (6 * (i + 1)) s' ∧ z = app (G n) (i + 1) s') (fun n' j s hj hv => ?_) (fun n' s hv => ?_) T 0 FU s (by omega) (by unfold FU; omega) hv
  · rcases hi (G n) n' i j s hlt hj hv with h | h
    · exact Or.inl (Or.inl h)
    · exact Or.inr h
  · exact Or.inr ⟨s, skip (6 - T) T s (by omega) (Nat.le_refl T) hv, ho (G n) n' i s hlt hv⟩
/-! sums of Int32 -/
def i_sum (f : Nat → Int32) : Nat → Int32
  | 0 => 0
  | n + 1 => i_sum f n + f n
theorem i_sum_eq {f g : Nat → Int32} : ∀ n, (∀ k, k < n → f k = g k) → i_sum f n = i_sum g n
  | 0, _ => rfl
  | n + 1, h => by
    unfold i_sum
    rw [i_sum_eq n (fun k hk => h k (by omega)), h n (by omega)]
theorem i_sum_skip {f : Nat → Int32} {n : Nat} (h : f n = 0) : i_sum f (n + 1) = i_sum f n := by
  show i_sum f n + f n = _
  rw [h, Int32.add_zero]
theorem i_sum_tail {f : Nat → Int32} {m : Nat} : ∀ d, (∀ k, m ≤ k → k < m + d → f k = 0) → i_sum f (m + d) = i_sum f m
  | 0, _ => rfl
  | d + 1, h => by
    rw [← Nat.add_assoc, i_sum_skip (h (m + d) (by omega) (by omega))]
    exact i_sum_tail d (fun k h1 h2 => h k h1 (by omega))
/-- f over the cells of a plan, 0 elsewhere -/
def i_in (S T : Nat) (f : Nat → Int32) : Nat → Int32 := fun c => if c / 6 < S ∧ c % 6 < T then f c else 0
theorem i_in_at {S T i j : Nat} (f : Nat → Int32) (hi : i < S) (hj : j < T) (hT : T ≤ 6) : i_in S T f (6 * i + j) = f (6 * i + j) := by
  unfold i_in
  rw [if_pos (by omega)]
theorem i_in_off {S T i j : Nat} (f : Nat → Int32) (hj : j < 6) (h : T ≤ j) : i_in S T f (6 * i + j) = 0 := by
  unfold i_in
  rw [if_neg (by omega)]
theorem i_in_tail {S T : Nat} (f : Nat → Int32) (hS : S ≤ 6) : i_sum (i_in S T f) 36 = i_sum (i_in S T f) (6 * S) := by
  have := i_sum_tail (f := i_in S T f) (m := 6 * S) (36 - 6 * S) (fun k h1 h2 => by unfold i_in; rw [if_neg (by omega)])
  rw [show 6 * S + (36 - 6 * S) = 36 by omega] at this
  exact this
