/-! THE PURE PART: a plan as data: steps so far, loads, basic cells, the trace; what a step makes of it -/
abbrev TA : Type := Nat × (Nat → Int32) × (Nat → Bool) × (Nat → Int32) × (Nat → Int32) × (Nat → Int32)
def t_ok (S T : Nat) (cost : Nat → Int32) (A : TA) : Prop := t_tree S T A.2.2.1 ∧ t_cok cost S T ∧ (∀ c, c < 36 → 0 ≤ (A.2.1 c).toInt) ∧ t_sum (fun c => (A.2.1 c).toInt) 36 ≤ 600 ∧ (∀ c, c < 36 → A.2.2.1 c = false → A.2.1 c = 0) ∧ (∀ c, 36 ≤ c → A.2.2.1 c = false) ∧ A.1 ≤ 100
def t_stp (S T : Nat) (cost : Nat → Int32) (m : Int32) (A A' : TA) : Prop := ∃ (w : Nat → Int32) (c L : Nat) (v : Nat → Nat) (l : Nat),
  t_W S T A.2.2.1 cost w ∧ t_best S T (t_sp cost w) (t_wt S T A.2.2.1 cost w A.2.1 m) 36 c ∧ t_way S T A.2.2.1 c L v ∧ t_lv A.2.1 (t_P c v) (L / 2) (t_tn A.2.1 (t_P c v) L) l ∧
  A' = (A.1 + 1, t_ld (t_P c v) (t_tn A.2.1 (t_P c v) L) A.2.1 L, t_swap A.2.2.1 c (t_P c v (2 * l + 1)), upd A.2.2.2.1 A.1 (nI c), upd A.2.2.2.2.1 A.1 (nI (t_P c v (2 * l + 1))), upd A.2.2.2.2.2 A.1 (t_tn A.2.1 (t_P c v) L))
def t_stop (S T : Nat) (cost : Nat → Int32) (A : TA) : Prop := ∃ w, t_W S T A.2.2.1 cost w ∧ t_none S T (t_sp cost w) 36
theorem t_sp_eq {S T : Nat} {B : Nat → Bool} (h : t_tree S T B) {cost w w' : Nat → Int32} (a : t_W S T B cost w) (b : t_W S T B cost w') {c : Nat} (hp : t_pl S T c) : t_sp cost w c = t_sp cost w' c := by
  have hu := t_W_uniq h a b
  unfold t_sp
  rw [hu _ (Or.inl hp.1), hu _ (Or.inr ⟨by omega, by have := hp.2; omega⟩)]
theorem t_wt_eq {S T : Nat} {B : Nat → Bool} (h : t_tree S T B) {cost w w' ld : Nat → Int32} {m : Int32} (a : t_W S T B cost w) (b : t_W S T B cost w') {c : Nat} (hp : t_pl S T c) : t_wt S T B cost w ld m c = t_wt S T B cost w' ld m c := by
  unfold t_wt
  rw [t_sp_eq h a b hp]
theorem t_ld_congr {P P' : Nat → Nat} {tn : Int32} {f : Nat → Int32} : ∀ n, (∀ k, k < n → P k = P' k) → t_ld P tn f n = t_ld P' tn f n
  | 0, _ => rfl
  | n + 1, h => by
    rw [t_ld_succ, t_ld_succ, t_ld_congr n (fun k hk => h k (by omega)), h n (by omega)]
theorem t_stp_det {S T : Nat} {cost : Nat → Int32} {m : Int32} {A A' A'' : TA} (hk : t_ok S T cost A) (h : t_stp S T cost m A A') (h' : t_stp S T cost m A A'') : A' = A'' := by
  obtain ⟨w, c, L, v, l, a1, a2, a3, a4, a5⟩ := h
  obtain ⟨w', c', L', v', l', b1, b2, b3, b4, b5⟩ := h'
  have ht := hk.1
  have ec : nI c = nI c' := t_ent_uniq (fun d _ hp => t_sp_eq ht a1 b1 hp) (fun d _ hp _ => t_wt_eq ht a1 b1 hp) (Or.inr ⟨c, rfl, a2⟩) (Or.inr ⟨c', rfl, b2⟩)
  have hc := a2.1
  have : c = c' := (nI_eq (by omega) (by have := b2.1; omega)).mp ec
  subst this
  have hb := t_neg_free a1 hc a2.2.2.1
  obtain ⟨e1, e2⟩ := t_way_uniq ht hb a3 b3
  subst e1
  have eP : ∀ k, k < L → t_P c v k = t_P c v' k := fun k hk => t_P_congr e2 hk
  have etn : t_tn A.2.1 (t_P c v) L = t_tn A.2.1 (t_P c v') L := t_tn_congr a3.2.2.1 (fun k hk => t_P_lt ht a3 hc hk) eP (fun _ _ => rfl)
  have hL2 := a3.2.2.1
  have el : t_lv A.2.1 (t_P c v) (L / 2) (t_tn A.2.1 (t_P c v) L) l' := by
    obtain ⟨x, y, z⟩ := b4
    refine ⟨x, by rw [eP _ (by omega), etn]; exact y, fun m' hm' e => ?_⟩
    rw [eP _ (by omega), eP _ (by omega)]
    exact z m' hm' (by rw [← eP _ (by omega), ← etn]; exact e)
  have elv := t_lv_uniq a4 el
  rw [a5, b5, ← etn, ← t_ld_congr L eP, elv, eP _ (by have := el.1; omega)]
theorem t_stp_stop {S T : Nat} {cost : Nat → Int32} {m : Int32} {A A' : TA} (hk : t_ok S T cost A) (h : t_stp S T cost m A A') (h' : t_stop S T cost A) : False := by
  obtain ⟨w, c, L, v, l, a1, a2, -⟩ := h
  obtain ⟨w', b1, b2⟩ := h'
  exact b2 c a2.1 a2.2.1 (by rw [← t_sp_eq hk.1 a1 b1 a2.2.1]; exact a2.2.2.1)
theorem t_ok_ld {S T : Nat} {cost : Nat → Int32} {A : TA} (hk : t_ok S T cost A) : t_ldok A.2.1 := by
  intro c hc
  have a := hk.2.2.1 c hc
  have b := (t_sum_ge (f := fun c => (A.2.1 c).toInt) 36 hk.2.2.1).2 c hc
  have d := hk.2.2.2.1
  exact ⟨a, by omega⟩
theorem t_stp_ok {S T : Nat} {cost : Nat → Int32} {m : Int32} {A A' : TA} (hk : t_ok S T cost A) (hn : A.1 < 100) (h : t_stp S T cost m A A') : t_ok S T cost A' := by
  obtain ⟨w, c, L, v, l, a1, a2, a3, a4, a5⟩ := h
  have hld := t_ok_ld hk
  obtain ⟨ht, hc, h0, hs, hz, hB, h100⟩ := hk
  have hcl := a2.1
  have hpl := a2.2.1
  have hb := t_neg_free a1 hcl a2.2.2.1
  have hP : ∀ k, k < L → t_P c v k < 36 := fun k hk => t_P_lt ht a3 hcl hk
  have inj : ∀ j k, j < L → k < L → t_P c v j = t_P c v k → j = k := fun j k hj hk e => t_P_inj ht a3 hb hj hk e
  obtain ⟨tn0, tn6⟩ := t_tn_ok hld a3.1 hP
  have hL2 := a3.2.2.1
  have tnle : ∀ k, k < L → k % 2 = 1 → (t_tn A.2.1 (t_P c v) L).toInt ≤ (A.2.1 (t_P c v k)).toInt := by
    intro k hk ho
    have := t_tnf_le (fun m => A.2.1 (t_P c v (2 * m + 1))) (L / 2) (k / 2) (by omega)
    rw [show 2 * (k / 2) + 1 = k by omega] at this
    exact this
  obtain ⟨l1, l2⟩ := t_ld_ok inj hP hL2 h0 hs tn0 tnle tn6
  have hl : 2 * l + 1 < L := by have := a4.1; omega
  rw [a5]
  refine ⟨t_step ht a3 hcl hb hpl.1 hpl.2 hl (by omega), hc, l1, by rw [l2]; exact hs, fun d hd hx => ?_, fun d hd => ?_, by show A.1 + 1 ≤ 100; omega⟩
  · change t_swap A.2.2.1 c (t_P c v (2 * l + 1)) d = false at hx
    show t_ld _ _ _ L d = 0
    unfold t_swap at hx
    by_cases q : d = c
    · rw [if_pos q] at hx; cases hx
    · rw [if_neg q] at hx
      by_cases q2 : d = t_P c v (2 * l + 1)
      · rw [q2, t_ld_on inj L (Nat.le_refl L) _ hl, if_neg (by omega), a4.2.1, ← Int32.sub_eq_add_neg, Int32.sub_self]
      · rw [if_neg q2] at hx
        rw [t_ld_off L (fun k hk e => ?_), hz d hd hx]
        by_cases k0 : k = 0
        · rw [k0] at e; exact q e.symm
        · have := (t_P_B ht a3 hk (by omega)).2
          rw [e, hx] at this
          cases this
  · show t_swap _ _ _ d = false
    unfold t_swap
    rw [if_neg (by omega), if_neg (by have := hP _ hl; omega)]
    exact hB d hd
/-- steps, f of them at most -/
def t_run (S T : Nat) (cost : Nat → Int32) (m : Int32) : Nat → TA → Nat → TA → Prop
  | 0, A, d, A' => d = 0 ∧ A' = A
  | f + 1, A, d, A' => (d = 0 ∧ A' = A ∧ (t_stop S T cost A ∨ 100 ≤ A.1)) ∨ ∃ A1 d1, A.1 < 100 ∧ t_stp S T cost m A A1 ∧ t_run S T cost m f A1 d1 A' ∧ d = d1 + 1
theorem t_run_ok {S T : Nat} {cost : Nat → Int32} {m : Int32} : ∀ (f : Nat) {A A' : TA} {d : Nat}, t_ok S T cost A → t_run S T cost m f A d A' → t_ok S T cost A'
  | 0, A, A', d, hk, h => by rw [h.2]; exact hk
  | f + 1, A, A', d, hk, h => by
    rcases h with ⟨-, e, -⟩ | ⟨A1, d1, h1, h2, h3, -⟩
    · rw [e]; exact hk
    · exact t_run_ok f (t_stp_ok hk h1 h2) h3
theorem t_run_det {S T : Nat} {cost : Nat → Int32} {m : Int32} : ∀ (f : Nat) {A A' A'' : TA} {d d' : Nat}, t_ok S T cost A → t_run S T cost m f A d A' → t_run S T cost m f A d' A'' → d = d' ∧ A' = A''
  | 0, A, A', A'', d, d', hk, h, h' => ⟨h.1.trans h'.1.symm, h.2.trans h'.2.symm⟩
  | f + 1, A, A', A'', d, d', hk, h, h' => by
    rcases h with ⟨a1, a2, a3⟩ | ⟨A1, d1, h1, h2, h3, h4⟩ <;> rcases h' with ⟨b1, b2, b3⟩ | ⟨A2, d2, g1, g2, g3, g4⟩
    · exact ⟨a1.trans b1.symm, a2.trans b2.symm⟩
    · rcases a3 with a3 | a3
      · exact (t_stp_stop hk g2 a3).elim
      · omega
    · rcases b3 with b3 | b3
      · exact (t_stp_stop hk h2 b3).elim
      · omega
    · have := t_stp_det hk h2 g2
      subst this
      obtain ⟨e1, e2⟩ := t_run_det f (t_stp_ok hk h1 h2) h3 g3
      exact ⟨by omega, e2⟩
theorem t_ent_congr {S T : Nat} {sp sp' wt wt' : Nat → Int32} {r : Int32} (hs : ∀ c, c < 36 → t_pl S T c → sp c = sp' c) (hw : ∀ c, c < 36 → t_pl S T c → sp c < 0 → wt c = wt' c) (h : t_ent S T sp wt r) : t_ent S T sp' wt' r := by
  rcases h with ⟨a, b⟩ | ⟨c, a, b1, b2, b3, b4⟩
  · exact Or.inl ⟨a, fun c hc hp => by rw [← hs c hc hp]; exact b c hc hp⟩
  · refine Or.inr ⟨c, a, b1, b2, by rw [← hs c b1 b2]; exact b3, fun d hd hp hsd => ?_⟩
    rw [← hs d hd hp] at hsd
    rw [← hw c b1 b2 b3, ← hw d hd hp hsd]
    exact b4 d hd hp hsd
theorem t_W_congr {S T : Nat} {B : Nat → Bool} (ht : t_tree S T B) {cost cost' w : Nat → Int32} (hc : ∀ c, c < 36 → t_pl S T c → cost c = cost' c) (h : t_W S T B cost w) : t_W S T B cost' w :=
  ⟨h.1, fun c h1 h2 => by rw [← hc c h1 (ht.2.2.2.2.1 c h1 h2)]; exact h.2.1 c h1 h2, h.2.2⟩
theorem t_tc_congr {S T : Nat} {B : Nat → Bool} (ht : t_tree S T B) {ld ld' : Nat → Int32} (hl : ∀ c, c < 36 → ld c = ld' c) {c : Nat} (hc : c < 36) (hp : t_pl S T c) (hb : B c = false) : t_tc S T B ld c = t_tc S T B ld' c := by
  obtain ⟨nx, rk, L, h1, h2⟩ := t_way_ex ht hp.1 hp.2
  rw [t_tc_eq ht ld hc hb h2, t_tc_eq ht ld' hc hb h2]
  exact t_tn_congr h2.2.2.1 (fun k hk => t_P_lt ht h2 hc hk) (fun _ _ => rfl) hl
theorem t_wt_congr {S T : Nat} {B : Nat → Bool} (ht : t_tree S T B) {cost cost' w ld ld' : Nat → Int32} {m : Int32} (hl : ∀ c, c < 36 → ld c = ld' c) {c : Nat} (hc : c < 36) (hco : cost c = cost' c) (hp : t_pl S T c) (hb : B c = false) : t_wt S T B cost w ld m c = t_wt S T B cost' w ld' m c := by
  unfold t_wt
  rw [t_tc_congr ht hl hc hp hb]
  unfold t_sp
  rw [hco]
