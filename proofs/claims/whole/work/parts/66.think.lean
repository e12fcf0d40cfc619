/-! THE PURE PART: totals, proofs of plans, thoughts, what is put back -/
def t_tot (cost : Nat → Int32) (A : TA) : Int32 := i_sum (fun c => A.2.1 c * cost c) 36
theorem t_out0 {S T : Nat} {cost : Nat → Int32} {A : TA} (hk : t_ok S T cost A) {c : Nat} (hc : c < 36) (hp : ¬ t_pl S T c) : A.2.1 c = 0 := by
  refine hk.2.2.2.2.1 c hc ?_
  cases q : A.2.2.1 c
  · rfl
  · exact absurd (hk.1.2.2.2.2.1 c hc q) hp
theorem x3_total' {k S T : Nat} {cost : Nat → Int32} {A : TA} {μ : Mem} (hk : t_ok S T cost A) (h : XR k S T cost A μ) : f_X3_total k μ = some (t_tot cost A) := by
  rw [x3_total h.1 h.2.1 hk.1.2.1 hk.1.2.2.2.1]
  unfold t_tot
  refine congrArg some (i_sum_eq 36 (fun c hc => ?_))
  unfold i_in
  by_cases q : c / 6 < S ∧ c % 6 < T
  · rw [if_pos q]
    show μ.1 (k + 2) c * μ.1 (k + 1) c = _
    rw [h.2.2.2.1 c hc, h.2.2.2.2.2.1 c hc q]
  · rw [if_neg q, t_out0 hk hc q, Int32.zero_mul]
theorem x9_total' {S T : Nat} {cost : Nat → Int32} {A : TA} {μ : Mem} (hk : t_ok S T cost A) (h : MR S T cost A μ) : f_X9_total μ = some (t_tot cost A) := by
  rw [x9_total μ]
  unfold t_tot
  refine congrArg some (i_sum_eq 36 (fun c hc => ?_))
  rw [h.2.2.2.1 c hc]
  by_cases q : t_pl S T c
  · rw [h.2.2.2.2.2.1 c hc q]
  · rw [t_out0 hk hc q, Int32.zero_mul, Int32.zero_mul]
theorem i_sum_bd {f : Nat → Int32} {m : Int} (hm : 0 ≤ m) (hm2 : m ≤ 1000000) : ∀ n : Nat, n ≤ 36 → (∀ k, k < n → 0 ≤ (f k).toInt ∧ (f k).toInt ≤ m) → 0 ≤ (i_sum f n).toInt ∧ (i_sum f n).toInt ≤ n * m
  | 0, _, _ => by
    show 0 ≤ (0 : Int32).toInt ∧ (0 : Int32).toInt ≤ _
    rw [show (0 : Int32).toInt = 0 from rfl]
    exact ⟨Int.le_refl _, by simp⟩
  | n + 1, hn, h => by
    obtain ⟨a, b⟩ := i_sum_bd hm hm2 n (by omega) (fun k hk => h k (by omega))
    have hh := h n (by omega)
    have e1 : ((n + 1 : Nat) : Int) * m = n * m + m := by rw [Int.natCast_add, Int.add_mul]; simp
    have e2 : (n : Int) * m ≤ 36 * m := Int.mul_le_mul_of_nonneg_right (by omega) hm
    show 0 ≤ (i_sum f n + f n).toInt ∧ (i_sum f n + f n).toInt ≤ _
    have e3 : (i_sum f n + f n).toInt = (i_sum f n).toInt + (f n).toInt := by
      rw [Int32.toInt_add]; apply Int.bmod_eq_of_le <;> omega
    rw [e3, e1]
    omega
theorem t_tot_nn {S T : Nat} {cost : Nat → Int32} {A : TA} (hk : t_ok S T cost A) : 0 ≤ (t_tot cost A).toInt ∧ (t_tot cost A).toInt ≤ 36 * 660000 := by
  refine i_sum_bd (m := 660000) (by omega) (by omega) 36 (by omega) (fun c hc => ?_)
  by_cases q : t_pl S T c
  · have a := t_ok_ld hk c hc
    have b := hk.2.1 c hc q.1 q.2
    have p1 : 0 ≤ (A.2.1 c).toInt * (cost c).toInt := Int.mul_nonneg a.1 b.1
    have p2 : (A.2.1 c).toInt * (cost c).toInt ≤ 600 * 1100 := Int.mul_le_mul a.2 b.2 b.1 (by omega)
    rw [Int32.toInt_mul, Int.bmod_eq_of_le (by omega) (by omega)]
    omega
  · rw [t_out0 hk hc q, Int32.zero_mul]
    decide
theorem i_sum_ind {f : Nat → Int32} : ∀ n : Nat, n ≤ 36 → (∀ k, k < n → f k = 0 ∨ f k = 1) → i_sum f n = nI (t_ctr (fun k => decide (f k = 1)) n)
  | 0, _, _ => rfl
  | n + 1, hn, h => by
    have ih := i_sum_ind n (by omega) (fun k hk => h k (by omega))
    unfold i_sum t_ctr
    rw [ih]
    rcases h n (by omega) with e | e
    · rw [e, Int32.add_zero]; rfl
    · rw [e]; exact q_add1 _
theorem x3_proved {k S T : Nat} {cost : Nat → Int32} {A : TA} {μ : Mem} (hk : t_ok S T cost A) (hx : XR k S T cost A μ) :
    ∃ r μ', f_X3_isProved k μ = some (b01 r, μ') ∧ fr (FA (k + 16)) μ μ' ∧ (r = true ↔ t_stop S T cost A) := by
  obtain ⟨c1, c2, c3⟩ := XR_cost hk hx
  obtain ⟨h1, h2, h3, h4, h5, h6, h7, h8⟩ := id hx
  have ht := hk.1
  obtain ⟨r, s1, e1, f1, en⟩ := x3_enter (k := k) (μ := μ) 1 h1 h2 (by rw [c2]; exact ht) (by rw [c2]; exact c3) (XR_ld hk hx)
  have hsp : ∀ c, c < 36 → t_pl S T c → t_sp (μ.1 (k + 1)) (xw k μ) c = t_sp cost (xw k μ) c := fun c hc hp => by unfold t_sp; rw [h6 c hc hp]
  unfold f_X3_isProved
  rw [e1, bnd_s]
  rcases en with ⟨r1, r2⟩ | ⟨c, r1, r2⟩
  · refine ⟨true, s1, by rw [r1, if_pos rfl]; rfl, f1, fun _ => ⟨_, h7, fun c hc hp => by rw [← hsp c hc hp]; exact r2 c hc hp⟩, fun _ => rfl⟩
  · refine ⟨false, s1, by rw [r1, if_neg (fun e => by have := q_cm1 r2.1; rw [this] at e; exact e)]; rfl, f1, fun h => (by cases h), fun ⟨w, w1, w2⟩ => ?_⟩
    exfalso
    apply w2 c r2.1 r2.2.1
    rw [← t_sp_eq ht h7 w1 r2.2.1, ← hsp c r2.1 r2.2.1]
    exact r2.2.2.1
theorem x9_proved {S T : Nat} {cost : Nat → Int32} {A : TA} {μ : Mem} (hk : t_ok S T cost A) (hx : MR S T cost A μ) :
    ∃ r μ', f_X9_isProved μ = some (b01 r, μ') ∧ fr MA μ μ' ∧ (r = true ↔ t_stop S T cost A) ∧ t_W S T A.2.2.1 cost (μ'.1 142) := by
  obtain ⟨c1, c2, c3, c4⟩ := MR_cost hk hx
  have ht := hk.1
  obtain ⟨μ', e1, f1, w1⟩ := x9_values (S := S) (T := T) (μ := μ) (by rw [c2]; exact ht) c1 c3
  rw [c2] at w1
  have w1' := t_W_congr ht (fun c hc hp => hx.2.2.2.2.2.1 c hc hp) w1
  have g7 : μ'.1 122 7 = nI S := by rw [f1.2 _ _ (by unfold MA; omega)]; exact hx.1
  have g8 : μ'.1 122 8 = nI T := by rw [f1.2 _ _ (by unfold MA; omega)]; exact hx.2.1
  have e2 := x9_counted (what := 5) e1 g7 g8 ht.2.1 ht.2.2.2.1
  have hsp : ∀ c, c < 36 → t_pl S T c → ms μ' c = t_sp cost (μ'.1 142) c := fun c hc hp => by
    unfold ms t_sp
    rw [f1.2 127 c (by unfold MA; omega), hx.2.2.2.2.2.1 c hc hp]
  have hmc : ∀ c, mc 5 μ' c = if ms μ' c < 0 then 1 else 0 := fun c => by unfold mc; rw [if_neg (by decide), if_neg (by decide)]
  have hin : ∀ c, i_in S T (mc 5 μ') c = 0 ∨ i_in S T (mc 5 μ') c = 1 := by
    intro c
    unfold i_in
    by_cases q : c / 6 < S ∧ c % 6 < T
    · rw [if_pos q, hmc]
      by_cases r : ms μ' c < 0
      · rw [if_pos r]; exact Or.inr rfl
      · rw [if_neg r]; exact Or.inl rfl
    · rw [if_neg q]; exact Or.inl rfl
  rw [i_sum_ind 36 (by omega) (fun c _ => hin c)] at e2
  have cl := t_ctr_le (fun k => decide (i_in S T (mc 5 μ') k = 1)) 36
  generalize ecnt : t_ctr (fun k => decide (i_in S T (mc 5 μ') k = 1)) 36 = cnt at *
  unfold f_X9_isProved
  rw [e2, bnd_s]
  by_cases h0 : cnt = 0
  · refine ⟨true, μ', by rw [h0, if_pos (by rfl)]; rfl, f1, ⟨fun _ => ⟨_, w1', fun c hc hp hs => ?_⟩, fun _ => rfl⟩, w1'⟩
    rw [h0] at ecnt
    have := t_ctr_zero ecnt c hc
    have h2 := of_decide_eq_false this
    apply h2
    unfold i_in
    rw [if_pos (show c / 6 < S ∧ c % 6 < T from hp), hmc, if_pos (by rw [hsp c hc hp]; exact hs)]
  · refine ⟨false, μ', by rw [if_neg (nI_ne0 (by omega) (by omega))]; rfl, f1, ⟨fun h => (by cases h), fun ⟨w, v1, v2⟩ => ?_⟩, w1'⟩
    exfalso
    obtain ⟨c, hc, hd⟩ := t_ctr_ex (f := fun k => decide (i_in S T (mc 5 μ') k = 1)) 36 (by rw [ecnt]; omega)
    have hd' := of_decide_eq_true hd
    unfold i_in at hd'
    by_cases q : c / 6 < S ∧ c % 6 < T
    · rw [if_pos q, hmc] at hd'
      by_cases r : ms μ' c < 0
      · apply v2 c hc q
        rw [← t_sp_eq ht w1' v1 q, ← hsp c hc q]
        exact r
      · rw [if_neg r] at hd'; exact absurd hd' (by decide)
    · rw [if_neg q] at hd'; exact absurd hd' (by decide)
/-! thoughts -/
def t_th (G : TG) (rule m : Int32) (A : TA) : Prop := 0 < G.1 ∧ 0 < G.2.1 ∧ ∃ f s' d, t_srun rule (g_cost G) f (g_st G) s' ∧ t_ok (g_S G) (g_T G) (g_cost G) (t_A0 s') ∧ t_run (g_S G) (g_T G) (g_cost G) m 100 (t_A0 s') d A
theorem t_th_det {G : TG} {rule m : Int32} {A A' : TA} (h : t_th G rule m A) (h' : t_th G rule m A') : A = A' := by
  obtain ⟨-, -, f, s, d, a, ok, b⟩ := h
  obtain ⟨-, -, f', s', d', a', ok', b'⟩ := h'
  have := t_srun_det f f' a a'
  subst this
  exact (t_run_det 100 ok b b').2
theorem t_th_ok {G : TG} {rule m : Int32} {A : TA} (h : t_th G rule m A) : t_ok (g_S G) (g_T G) (g_cost G) A := by
  obtain ⟨-, -, f, s, d, a, ok, b⟩ := h
  exact t_run_ok 100 ok b
theorem x0_both {g : Nat} {G : TG} {μ : Mem} (h : XG g G μ) (hG : g_ok G) : f_X0_hasBothSides g μ = some (if 0 < G.1 ∧ 0 < G.2.1 then 1 else 0) := by
  have h1 := hG.1
  have h2 := hG.2.1
  unfold f_X0_hasBothSides
  rw [h.1, h.2.1]
  by_cases a : 0 < G.1
  · rw [if_neg (nI_nle a (by omega))]
    by_cases b : 0 < G.2.1
    · rw [if_neg (nI_nle b (by omega)), if_pos ⟨a, b⟩]
    · rw [if_pos (by rw [show G.2.1 = 0 by omega]; decide), if_neg (fun q => b q.2)]
  · rw [if_pos (by rw [show G.1 = 0 by omega]; decide), if_neg (fun q => a q.1)]
theorem x8_tryBest {G : TG} {μ : Mem} (rule m : Int32) (hX : XG 95 G μ) (hG : g_ok G) :
    ∃ r μ', f_X8_tryBest rule m μ = some (b01 r, μ') ∧ fr (KB 102) μ μ' ∧ (r = true → ∃ A, t_th G rule m A ∧ t_stop (g_S G) (g_T G) (g_cost G) A ∧ XR 102 (g_S G) (g_T G) (g_cost G) A μ') ∧ (r = false → ¬ ∃ A, t_th G rule m A ∧ t_stop (g_S G) (g_T G) (g_cost G) A) := by
  unfold f_X8_tryBest
  rw [x0_both hX hG, bnv_s]
  by_cases hb : 0 < G.1 ∧ 0 < G.2.1
  · rw [if_pos hb, if_neg (by decide)]
    obtain ⟨m1, s', e1, f1, ⟨f, hr⟩, ok, m0, x1⟩ := x3_startOn (k := 102) (g := 95) rule hX hG hb.1 hb.2 (by omega)
    rw [e1, bnv_s]
    obtain ⟨d, A, m2, e2, hd, hrun, x2, f2⟩ := x3_often m 100 (by omega) ok x1
    rw [show f_X3_stepOften 102 m 100 m1 = _ from e2, bnd_s]
    have ok2 := t_run_ok 100 ok hrun
    obtain ⟨r, m3, e3, f3, hp⟩ := x3_proved ok2 x2
    rw [e3, bnd_s]
    have th : t_th G rule m A := ⟨hb.1, hb.2, f, s', d, hr, ok, hrun⟩
    refine ⟨r, m3, by cases r <;> rfl, ?_, fun h => ⟨A, th, hp.mp h, ?_⟩, fun h => ?_⟩
    · exact fr_then f1 (fr_trans f2 f3 (fun c j h => by unfold KA at h; unfold KB; omega) (fun c j h => by unfold FA at h; unfold KB; omega))
    · obtain ⟨h1, h2, h3, h4, h5, h6, h7, h8⟩ := x2
      refine ⟨by rw [f3.2 _ _ (by unfold FA; omega)]; exact h1, by rw [f3.2 _ _ (by unfold FA; omega)]; exact h2, by rw [f3.2 _ _ (by unfold FA; omega)]; exact h3, fun c hc => by rw [f3.2 _ _ (by unfold FA; omega)]; exact h4 c hc, fun c hc => by rw [f3.2 _ _ (by unfold FA; omega)]; exact h5 c hc,
        fun c hc hp => by rw [f3.2 _ _ (by unfold FA; omega)]; exact h6 c hc hp, ?_, fun j hj => by rw [f3.2 _ _ (by unfold FA; omega), f3.2 _ _ (by unfold FA; omega), f3.2 _ _ (by unfold FA; omega)]; exact h8 j hj⟩
      refine t_W_of ok2.1 h7 (fun v hv => ?_)
      unfold xw
      rw [f3.2 _ v (by unfold FA; omega), f3.2 _ (v - 6) (by unfold FA; omega)]
    · rintro ⟨A', a, b⟩
      have := t_th_det a th
      subst this
      rw [hp.mpr b] at h; cases h
  · rw [if_neg hb, if_pos rfl]
    exact ⟨false, μ, rfl, fr_refl _ _, fun h => (by cases h), fun _ => fun ⟨A, a, b⟩ => hb ⟨a.1, a.2.1⟩⟩
/-- what thoughts change -/
def ZX : Nat → Nat → Prop := fun c j => (c = 122 ∧ (j = 7 ∨ j = 8 ∨ j = 9 ∨ j = 41 ∨ j = 42)) ∨ (127 ≤ c ∧ c ≤ 129 ∧ j < 36) ∨ (c = 130 ∧ j < 300) ∨ (140 ≤ c ∧ c ≤ 146)
theorem x9_thinks {G : TG} {μ : Mem} (rule m : Int32) (hM : MG G μ) (hG : g_ok G) :
    ∃ r μ', f_X9_thinks rule m μ = some (r, μ') ∧ fr ZX μ μ' ∧ ((∃ A, t_th G rule m A ∧ t_stop (g_S G) (g_T G) (g_cost G) A ∧ MR (g_S G) (g_T G) (g_cost G) A μ' ∧ r = t_tot (g_cost G) A) ∨ (r = -5 ∧ ¬ ∃ A, t_th G rule m A ∧ t_stop (g_S G) (g_T G) (g_cost G) A)) := by
  have h1 := hG.1
  have h2 := hG.2.1
  unfold f_X9_thinks
  by_cases a : G.1 = 0
  · rw [if_pos (by rw [hM.1, a]; rfl)]
    exact ⟨-5, μ, rfl, fr_refl _ _, Or.inr ⟨rfl, fun ⟨A, x, _⟩ => by have := x.1; omega⟩⟩
  · rw [if_neg (by rw [hM.1]; exact nI_ne0 (by omega) (by omega))]
    by_cases b : G.2.1 = 0
    · rw [if_pos (by rw [hM.2.1, b]; rfl)]
      exact ⟨-5, μ, rfl, fr_refl _ _, Or.inr ⟨rfl, fun ⟨A, x, _⟩ => by have := x.2.1; omega⟩⟩
    · rw [if_neg (by rw [hM.2.1]; exact nI_ne0 (by omega) (by omega))]
      obtain ⟨m1, s', e1, f1, ⟨f, hr⟩, ok, x1, -⟩ := x9_starts rule hM hG (by omega) (by omega)
      rw [e1, bnv_s]
      obtain ⟨d, A, m2, e2, hd, hrun, x2, f2⟩ := x9_goes m 100 (by omega) ok x1
      rw [show f_X9_goes m 100 m1 = _ from e2, bnd_s]
      have ok2 := t_run_ok 100 ok hrun
      obtain ⟨r, m3, e3, f3, hp, -⟩ := x9_proved ok2 x2
      rw [e3, bnd_s]
      have th : t_th G rule m A := ⟨by omega, by omega, f, s', d, hr, ok, hrun⟩
      have x3 : MR (g_S G) (g_T G) (g_cost G) A m3 := MR_fr x2 (fr_mono f3 (fun c j h => by unfold MA at h; unfold EA; omega))
      have ff : fr ZX μ m3 := fr_trans (fr_trans (C := ZX) f1 f2 (fun c j h => by unfold SA at h; unfold ZX; omega) (fun c j h => by unfold NA at h; unfold ZX; omega)) f3 (fun c j h => h) (fun c j h => by unfold MA at h; unfold ZX; omega)
      cases r
      · rw [show b01 false = 0 from rfl, if_pos rfl]
        refine ⟨-5, m3, rfl, ff, Or.inr ⟨rfl, ?_⟩⟩
        rintro ⟨A', x, y⟩
        have := t_th_det x th
        subst this
        have := hp.mpr y
        cases this
      · rw [show b01 true = 1 from rfl, if_neg (by decide), x9_total' ok2 x3, bnv_s]
        exact ⟨_, m3, rfl, ff, Or.inl ⟨A, th, hp.mp rfl, x3, rfl⟩⟩
/-! what is laid by and taken back -/
def DA : Nat → Nat → Prop := fun c j => c = 139 ∨ (c = 122 ∧ j = 30)
theorem x9_lays {a n s : Nat} {μ : Mem} (ha : a ≠ 139) (ha2 : a ≠ 122) (hs : μ.1 122 30 = nI s) (hn : s + n ≤ 411) :
    ∃ μ', f_X9_lays a n μ = some μ' ∧ fr DA μ μ' ∧ μ'.1 122 30 = nI (s + n) ∧ (∀ j, j < n → μ'.1 139 (s + j) = μ.1 a j) ∧ ∀ p, p < s → μ'.1 139 p = μ.1 139 p := by
  refine q_loop0 (fun f i m => f_X9_lays_2 a n f (nI i) m) n (by omega) (fun i m => fr DA μ m ∧ m.1 122 30 = nI (s + i) ∧ (∀ j, j < i → m.1 139 (s + j) = μ.1 a j) ∧ ∀ p, p < s → m.1 139 p = μ.1 139 p)
    (fun z => ∃ μ', z = some μ' ∧ fr DA μ μ' ∧ μ'.1 122 30 = nI (s + n) ∧ (∀ j, j < n → μ'.1 139 (s + j) = μ.1 a j) ∧ ∀ p, p < s → μ'.1 139 p = μ.1 139 p) ?_ ?_ μ ⟨fr_refl _ _, hs, fun j h => by omega, fun p h => rfl⟩
  · rintro f i m hi ⟨p1, p2, p3, p4⟩
    right
    have ra : m.1 a i = μ.1 a i := p1.2 _ _ (by unfold DA; omega)
    refine ⟨st (st m 139 (s + i) (μ.1 a i)) 122 30 (nI (s + i + 1)), ⟨fr_st' (fr_st' p1 (by unfold DA; omega)) (by unfold DA; omega), by simp (disch := omega) only [lt_k, bnv_s, bnd_s, grd_t, q_in, q_inb, q_c, q_leT, q_leF, q_ltT, q_ltF, q_neg, q_nn, q_z, q_le0, q_b0, q_b1, nI_add, nI_0, q_off, q_self, q_oth, cst_2, st_2, ↓reduceIte, f_X8_cellAt, f_X8_roadAt, q_le1, q_nle1, q_le2, q_nle2, q_le5, q_nle5, q_le6, q_nle6, q_le8, q_nle8, q_le12, q_nle12, q_le25, q_nle25, q_le36, q_nle36, q_le60, q_nle60, q_le99, q_nle99, q_le100, q_nle100, q_le300, q_nle300, q_le640, q_nle640, q_le411, q_nle411, q_mul2, q_lmul2, q_mul3, q_lmul3, q_mul5, q_lmul5, q_mul6, q_lmul6, q_mul10, q_lmul10, q_add1, q_ladd1, q_add2, q_ladd2, q_add3, q_ladd3, q_add5, q_ladd5, q_add6, q_ladd6, q_add100, q_ladd100, q_div2, q_rem2, q_div3, q_rem3, q_div6, q_rem6, q_div10, q_rem10, lt_k]; rfl, fun j hj => ?_, fun p hp => ?_⟩, ?_⟩
    · rw [q_off _ _ _ (by omega), q_at]
      by_cases q : j = i
      · rw [if_pos (by omega), q]
      · rw [if_neg (by omega)]; exact p3 j (by omega)
    · rw [q_off _ _ _ (by omega), q_at, if_neg (by omega)]; exact p4 p hp
    · show g_X9_lays_2 a n _ (nI i) m = _
      unfold g_X9_lays_2
      simp (disch := omega) only [lt_k, bnv_s, bnd_s, grd_t, q_in, q_inb, q_c, q_leT, q_leF, q_ltT, q_ltF, q_neg, q_nn, q_z, q_le0, q_b0, q_b1, nI_add, nI_0, q_off, q_self, q_oth, cst_2, st_2, ↓reduceIte, f_X8_cellAt, f_X8_roadAt, q_le1, q_nle1, q_le2, q_nle2, q_le5, q_nle5, q_le6, q_nle6, q_le8, q_nle8, q_le12, q_nle12, q_le25, q_nle25, q_le36, q_nle36, q_le60, q_nle60, q_le99, q_nle99, q_le100, q_nle100, q_le300, q_nle300, q_le640, q_nle640, q_le411, q_nle411, q_mul2, q_lmul2, q_mul3, q_lmul3, q_mul5, q_lmul5, q_mul6, q_lmul6, q_mul10, q_lmul10, q_add1, q_ladd1, q_add2, q_ladd2, q_add3, q_ladd3, q_add5, q_ladd5, q_add6, q_ladd6, q_add100, q_ladd100, q_div2, q_rem2, q_div3, q_rem3, q_div6, q_rem6, q_div10, q_rem10, p2, ra]
  · rintro f m ⟨p1, p2, p3, p4⟩
    refine ⟨m, ?_, p1, p2, p3, p4⟩
    show g_X9_lays_2 a n _ (nI n) m = _
    unfold g_X9_lays_2
    simp (disch := omega) only [lt_k, bnv_s, bnd_s, grd_t, q_in, q_inb, q_c, q_leT, q_leF, q_ltT, q_ltF, q_neg, q_nn, q_z, q_le0, q_b0, q_b1, nI_add, nI_0, q_off, q_self, q_oth, cst_2, st_2, ↓reduceIte, f_X8_cellAt, f_X8_roadAt, q_le1, q_nle1, q_le2, q_nle2, q_le5, q_nle5, q_le6, q_nle6, q_le8, q_nle8, q_le12, q_nle12, q_le25, q_nle25, q_le36, q_nle36, q_le60, q_nle60, q_le99, q_nle99, q_le100, q_nle100, q_le300, q_nle300, q_le640, q_nle640, q_le411, q_nle411, q_mul2, q_lmul2, q_mul3, q_lmul3, q_mul5, q_lmul5, q_mul6, q_lmul6, q_mul10, q_lmul10, q_add1, q_ladd1, q_add2, q_ladd2, q_add3, q_ladd3, q_add5, q_ladd5, q_add6, q_ladd6, q_add100, q_ladd100, q_div2, q_rem2, q_div3, q_rem3, q_div6, q_rem6, q_div10, q_rem10, lt_k]
theorem x9_takes {a n s : Nat} {μ : Mem} (ha : a ≠ 139) (ha2 : a ≠ 122) (hs : μ.1 122 30 = nI s) (hn : s + n ≤ 411) :
    ∃ μ', f_X9_takesBack a n μ = some μ' ∧ fr (fun c j => (c = a ∧ j < n) ∨ (c = 122 ∧ j = 30)) μ μ' ∧ μ'.1 122 30 = nI (s + n) ∧ ∀ j, j < n → μ'.1 a j = μ.1 139 (s + j) := by
  refine q_loop0 (fun f i m => f_X9_takesBack_2 a n f (nI i) m) n (by omega) (fun i m => fr (fun c j => (c = a ∧ j < n) ∨ (c = 122 ∧ j = 30)) μ m ∧ m.1 122 30 = nI (s + i) ∧ ∀ j, j < i → m.1 a j = μ.1 139 (s + j))
    (fun z => ∃ μ', z = some μ' ∧ fr (fun c j => (c = a ∧ j < n) ∨ (c = 122 ∧ j = 30)) μ μ' ∧ μ'.1 122 30 = nI (s + n) ∧ ∀ j, j < n → μ'.1 a j = μ.1 139 (s + j)) ?_ ?_ μ ⟨fr_refl _ _, hs, fun j h => by omega⟩
  · rintro f i m hi ⟨p1, p2, p3⟩
    right
    have ra : m.1 139 (s + i) = μ.1 139 (s + i) := p1.2 _ _ (by omega)
    refine ⟨st (st m a i (μ.1 139 (s + i))) 122 30 (nI (s + i + 1)), ⟨fr_st' (fr_st' p1 (by omega)) (by omega), by simp (disch := omega) only [lt_k, bnv_s, bnd_s, grd_t, q_in, q_inb, q_c, q_leT, q_leF, q_ltT, q_ltF, q_neg, q_nn, q_z, q_le0, q_b0, q_b1, nI_add, nI_0, q_off, q_self, q_oth, cst_2, st_2, ↓reduceIte, f_X8_cellAt, f_X8_roadAt, q_le1, q_nle1, q_le2, q_nle2, q_le5, q_nle5, q_le6, q_nle6, q_le8, q_nle8, q_le12, q_nle12, q_le25, q_nle25, q_le36, q_nle36, q_le60, q_nle60, q_le99, q_nle99, q_le100, q_nle100, q_le300, q_nle300, q_le640, q_nle640, q_le411, q_nle411, q_mul2, q_lmul2, q_mul3, q_lmul3, q_mul5, q_lmul5, q_mul6, q_lmul6, q_mul10, q_lmul10, q_add1, q_ladd1, q_add2, q_ladd2, q_add3, q_ladd3, q_add5, q_ladd5, q_add6, q_ladd6, q_add100, q_ladd100, q_div2, q_rem2, q_div3, q_rem3, q_div6, q_rem6, q_div10, q_rem10, lt_k]; rfl, fun j hj => ?_⟩, ?_⟩
    · rw [q_off _ _ _ (by omega), q_at]
      by_cases q : j = i
      · rw [if_pos q, q]
      · rw [if_neg q]; exact p3 j (by omega)
    · show g_X9_takesBack_2 a n _ (nI i) m = _
      unfold g_X9_takesBack_2
      simp (disch := omega) only [lt_k, bnv_s, bnd_s, grd_t, q_in, q_inb, q_c, q_leT, q_leF, q_ltT, q_ltF, q_neg, q_nn, q_z, q_le0, q_b0, q_b1, nI_add, nI_0, q_off, q_self, q_oth, cst_2, st_2, ↓reduceIte, f_X8_cellAt, f_X8_roadAt, q_le1, q_nle1, q_le2, q_nle2, q_le5, q_nle5, q_le6, q_nle6, q_le8, q_nle8, q_le12, q_nle12, q_le25, q_nle25, q_le36, q_nle36, q_le60, q_nle60, q_le99, q_nle99, q_le100, q_nle100, q_le300, q_nle300, q_le640, q_nle640, q_le411, q_nle411, q_mul2, q_lmul2, q_mul3, q_lmul3, q_mul5, q_lmul5, q_mul6, q_lmul6, q_mul10, q_lmul10, q_add1, q_ladd1, q_add2, q_ladd2, q_add3, q_ladd3, q_add5, q_ladd5, q_add6, q_ladd6, q_add100, q_ladd100, q_div2, q_rem2, q_div3, q_rem3, q_div6, q_rem6, q_div10, q_rem10, p2, ra]
  · rintro f m ⟨p1, p2, p3⟩
    refine ⟨m, ?_, p1, p2, p3⟩
    show g_X9_takesBack_2 a n _ (nI n) m = _
    unfold g_X9_takesBack_2
    simp (disch := omega) only [lt_k, bnv_s, bnd_s, grd_t, q_in, q_inb, q_c, q_leT, q_leF, q_ltT, q_ltF, q_neg, q_nn, q_z, q_le0, q_b0, q_b1, nI_add, nI_0, q_off, q_self, q_oth, cst_2, st_2, ↓reduceIte, f_X8_cellAt, f_X8_roadAt, q_le1, q_nle1, q_le2, q_nle2, q_le5, q_nle5, q_le6, q_nle6, q_le8, q_nle8, q_le12, q_nle12, q_le25, q_nle25, q_le36, q_nle36, q_le60, q_nle60, q_le99, q_nle99, q_le100, q_nle100, q_le300, q_nle300, q_le640, q_nle640, q_le411, q_nle411, q_mul2, q_lmul2, q_mul3, q_lmul3, q_mul5, q_lmul5, q_mul6, q_lmul6, q_mul10, q_lmul10, q_add1, q_ladd1, q_add2, q_ladd2, q_add3, q_ladd3, q_add5, q_ladd5, q_add6, q_ladd6, q_add100, q_ladd100, q_div2, q_rem2, q_div3, q_rem3, q_div6, q_rem6, q_div10, q_rem10, lt_k]
/-- 139 holds the plan of ν -/
def MI (ν μ : Mem) : Prop := μ.1 139 0 = ν.1 122 7 ∧ μ.1 139 1 = ν.1 122 8 ∧ μ.1 139 2 = ν.1 122 9 ∧ (∀ j, j < 36 → μ.1 139 (3 + j) = ν.1 127 j) ∧ (∀ j, j < 36 → μ.1 139 (39 + j) = ν.1 128 j) ∧ (∀ j, j < 36 → μ.1 139 (75 + j) = ν.1 129 j) ∧ ∀ j, j < 300 → μ.1 139 (111 + j) = ν.1 130 j
theorem x9_minds (μ : Mem) : ∃ μ', f_X9_minds μ = some μ' ∧ fr DA μ μ' ∧ MI μ μ' := by
  have t0 : (0 : Int32).toNatClampNeg = 0 := rfl
  have t1 : (1 : Int32).toNatClampNeg = 1 := rfl
  have t2 : (2 : Int32).toNatClampNeg = 2 := rfl
  have g0 : inb 0 411 = true := by decide
  have g1 : inb 1 411 = true := by decide
  have g2 : inb 2 411 = true := by decide
  unfold f_X9_minds
  simp (disch := omega) only [g0, g1, g2, t0, t1, t2, grd_t, lt_k, q_off]
  generalize em : st (st (st (st μ 139 0 (μ.1 122 7)) 139 1 (μ.1 122 8)) 139 2 (μ.1 122 9)) 122 30 3 = m
  have f0 : fr DA μ m := by rw [← em]; exact fr_st' (fr_st' (fr_st' (fr_st (by unfold DA; omega)) (by unfold DA; omega)) (by unfold DA; omega)) (by unfold DA; omega)
  have b0 : m.1 139 0 = μ.1 122 7 ∧ m.1 139 1 = μ.1 122 8 ∧ m.1 139 2 = μ.1 122 9 ∧ m.1 122 30 = nI 3 := by
    rw [← em]
    refine ⟨?_, ?_, ?_, ?_⟩
    · rw [q_off _ _ _ (by omega), q_oth _ _ _ (by omega), q_oth _ _ _ (by omega), q_self]
    · rw [q_off _ _ _ (by omega), q_oth _ _ _ (by omega), q_self]
    · rw [q_off _ _ _ (by omega), q_self]
    · rw [q_self]; rfl
  obtain ⟨b1, b2, b3, b4⟩ := b0
  obtain ⟨m1, e1, f1, s1, r1, k1⟩ := x9_lays (a := 127) (n := 36) (by omega) (by omega) b4 (by omega)
  obtain ⟨m2, e2, f2, s2, r2, k2⟩ := x9_lays (a := 128) (n := 36) (by omega) (by omega) s1 (by omega)
  obtain ⟨m3, e3, f3, s3, r3, k3⟩ := x9_lays (a := 129) (n := 36) (by omega) (by omega) s2 (by omega)
  obtain ⟨m4, e4, f4, s4, r4, k4⟩ := x9_lays (a := 130) (n := 300) (by omega) (by omega) s3 (by omega)
  have F1 := fr_then f0 f1
  have F2 := fr_then F1 f2
  have F3 := fr_then F2 f3
  refine ⟨m4, by rw [e1, bnv_s, e2, bnv_s, e3, bnv_s, e4, bnv_s], fr_then F3 f4, ?_, ?_, ?_, fun j hj => ?_, fun j hj => ?_, fun j hj => ?_, fun j hj => ?_⟩
  · rw [k4 _ (by omega), k3 _ (by omega), k2 _ (by omega), k1 _ (by omega)]; exact b1
  · rw [k4 _ (by omega), k3 _ (by omega), k2 _ (by omega), k1 _ (by omega)]; exact b2
  · rw [k4 _ (by omega), k3 _ (by omega), k2 _ (by omega), k1 _ (by omega)]; exact b3
  · rw [k4 _ (by omega), k3 _ (by omega), k2 _ (by omega), r1 j hj, f0.2 _ _ (by unfold DA; omega)]
  · rw [k4 _ (by omega), k3 _ (by omega), show 39 + j = 3 + 36 + j by omega, r2 j hj, F1.2 _ _ (by unfold DA; omega)]
  · rw [k4 _ (by omega), show 75 + j = 3 + 36 + 36 + j by omega, r3 j hj, F2.2 _ _ (by unfold DA; omega)]
  · rw [show 111 + j = 3 + 36 + 36 + 36 + j by omega, r4 j hj, F3.2 _ _ (by unfold DA; omega)]
/-- what is only scratch behind an asking -/
def ZA : Nat → Nat → Prop := fun c j => (139 ≤ c ∧ c ≤ 146) ∨ (c = 122 ∧ (j = 30 ∨ j = 41 ∨ j = 42))
theorem x9_forgets {ν μ : Mem} (h : MI ν μ) (f : fr (fun c j => ZX c j ∨ ZA c j) ν μ) : ∃ μ', f_X9_forgets μ = some μ' ∧ fr ZA ν μ' := by
  have t0 : (0 : Int32).toNatClampNeg = 0 := rfl
  have t1 : (1 : Int32).toNatClampNeg = 1 := rfl
  have t2 : (2 : Int32).toNatClampNeg = 2 := rfl
  have g0 : inb 0 411 = true := by decide
  have g1 : inb 1 411 = true := by decide
  have g2 : inb 2 411 = true := by decide
  obtain ⟨h0, h1, h2, h3, h4, h5, h6⟩ := h
  unfold f_X9_forgets
  simp (disch := omega) only [g0, g1, g2, t0, t1, t2, grd_t, lt_k, q_off, h0, h1, h2]
  generalize em : st (st (st (st μ 122 7 (ν.1 122 7)) 122 8 (ν.1 122 8)) 122 9 (ν.1 122 9)) 122 30 3 = m
  have r139 : m.1 139 = μ.1 139 := by rw [← em, q_off _ _ _ (by omega), q_off _ _ _ (by omega), q_off _ _ _ (by omega), q_off _ _ _ (by omega)]
  have b4 : m.1 122 30 = nI 3 := by rw [← em, q_self]; rfl
  obtain ⟨m1, e1, f1, s1, r1⟩ := x9_takes (a := 127) (n := 36) (by omega) (by omega) b4 (by omega)
  obtain ⟨m2, e2, f2, s2, r2⟩ := x9_takes (a := 128) (n := 36) (by omega) (by omega) s1 (by omega)
  obtain ⟨m3, e3, f3, s3, r3⟩ := x9_takes (a := 129) (n := 36) (by omega) (by omega) s2 (by omega)
  obtain ⟨m4, e4, f4, s4, r4⟩ := x9_takes (a := 130) (n := 300) (by omega) (by omega) s3 (by omega)
  have y1 : ∀ p, m1.1 139 p = μ.1 139 p := fun p => by rw [f1.2 _ _ (by omega), r139]
  have y2 : ∀ p, m2.1 139 p = μ.1 139 p := fun p => by rw [f2.2 _ _ (by omega), y1]
  have y3 : ∀ p, m3.1 139 p = μ.1 139 p := fun p => by rw [f3.2 _ _ (by omega), y2]
  refine ⟨m4, by rw [e1, bnv_s, e2, bnv_s, e3, bnv_s, e4, bnv_s], ?_, fun c j hn => ?_⟩
  · rw [f4.1, f3.1, f2.1, f1.1, ← em]; exact f.1
  · unfold ZA at hn
    by_cases q0 : c = 130 ∧ j < 300
    · obtain ⟨q0, q1⟩ := q0
      subst q0
      rw [r4 j q1, y3, show 3 + 36 + 36 + 36 + j = 111 + j by omega, h6 j q1]
    · rw [f4.2 _ _ (by omega)]
      by_cases q1 : c = 129 ∧ j < 36
      · obtain ⟨q0, q1⟩ := q1
        subst q0
        rw [r3 j q1, y2, show 3 + 36 + 36 + j = 75 + j by omega, h5 j q1]
      · rw [f3.2 _ _ (by omega)]
        by_cases q2 : c = 128 ∧ j < 36
        · obtain ⟨q0, q5⟩ := q2
          subst q0
          rw [r2 j q5, y1, show 3 + 36 + j = 39 + j by omega, h4 j q5]
        · rw [f2.2 _ _ (by omega)]
          by_cases q3 : c = 127 ∧ j < 36
          · obtain ⟨q0, q5⟩ := q3
            subst q0
            rw [r1 j q5, r139, h3 j q5]
          · rw [f1.2 _ _ (by omega), ← em]
            by_cases q4 : c = 122
            · subst q4
              by_cases j9 : j = 9
              · subst j9; rw [q_oth _ _ _ (by omega), q_self]
              · by_cases j8 : j = 8
                · subst j8; rw [q_oth _ _ _ (by omega), q_oth _ _ _ (by omega), q_self]
                · by_cases j7 : j = 7
                  · subst j7; rw [q_oth _ _ _ (by omega), q_oth _ _ _ (by omega), q_oth _ _ _ (by omega), q_self]
                  · rw [q_oth _ _ _ (by omega), q_oth _ _ _ (by omega), q_oth _ _ _ (by omega), q_oth _ _ _ (by omega)]
                    exact f.2 _ _ (by unfold ZX ZA; omega)
            · rw [q_off _ _ _ q4, q_off _ _ _ q4, q_off _ _ _ q4, q_off _ _ _ q4]
              exact f.2 _ _ (by unfold ZX ZA; omega)
