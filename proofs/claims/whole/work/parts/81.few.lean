/-! THE CALLS: cheapest, the fewest steps */ -/
def g_fw (G : TG) (k : Nat) (o : Option Nat) : Prop := (∃ A, g_is G (nI (k / 3)) (nI (k % 3)) A ∧ o = some A.1) ∨ (o = none ∧ ¬ ∃ A, g_is G (nI (k / 3)) (nI (k % 3)) A)
theorem g_fw_ex (G : TG) (k : Nat) : ∃ o, g_fw G k o := by
  by_cases q : ∃ A, g_is G (nI (k / 3)) (nI (k % 3)) A
  · obtain ⟨A, a⟩ := q
    exact ⟨some A.1, Or.inl ⟨A, a, rfl⟩⟩
  · exact ⟨none, Or.inr ⟨rfl, q⟩⟩
def c_nx (k : Nat) (o : Option Nat) (p : Option (Nat × Nat)) : Option (Nat × Nat) := match o with
  | none => p
  | some s => match p with
    | none => some (k, s)
    | some q => if s < q.2 then some (k, s) else some q
def c_fw (v : Nat → Option Nat) : Nat → Option (Nat × Nat)
  | 0 => none
  | k + 1 => c_nx k (v k) (c_fw v k)
def c_r (d : Int32) (p : Option (Nat × Nat)) (x1 x2 : Int32) : Prop := (p = none ∧ x1 = -5 ∧ x2 = d) ∨ ∃ b t, p = some (b, t) ∧ x1 = nI (10 * (b / 3) + b % 3) ∧ x2 = nI t ∧ t ≤ 100
theorem q_ne5 {k : Nat} (h : k < 1000) : ¬ nI k = -5 := by
  intro q
  have := congrArg Int32.toInt q
  rw [nI_i (by omega)] at this
  have e5 : (-5 : Int32).toInt = -5 := by decide
  omega
theorem c_code {i j : Nat} (hi : i < 3) (hj : j < 3) : 10 * nI i + nI j = nI (10 * ((3 * i + j) / 3) + (3 * i + j) % 3) := by
  rw [show (3 * i + j) / 3 = i by omega, show (3 * i + j) % 3 = j by omega, q_lmul10, nI_add]
theorem c_fw_lt (v : Nat → Option Nat) : ∀ k, ∀ b t, c_fw v k = some (b, t) → b < k
  | 0 => fun b t h => by unfold c_fw at h; cases h
  | k + 1 => fun b t h => by
    unfold c_fw c_nx at h
    cases ho : v k with
    | none => rw [ho] at h; have := c_fw_lt v k b t h; omega
    | some s =>
      rw [ho] at h
      cases hp : c_fw v k with
      | none => rw [hp] at h; injection h with h; injection h with h1 h2; omega
      | some q =>
        rw [hp] at h
        change (if s < q.2 then some (k, s) else some q) = _ at h
        by_cases z : s < q.2
        · rw [if_pos z] at h; injection h with h; injection h with h1 h2; omega
        · rw [if_neg z] at h
          injection h with h
          have := c_fw_lt v k b t (by rw [hp, h])
          omega
theorem x8_few {G : TG} {μ : Mem} (hX : XG 95 G μ) (hG : g_ok G) {v : Nat → Option Nat} (hv : ∀ k, g_fw G k (v k)) : ∃ x1 x2 μ', f_X8_fewestSteps_21 FU (-5) 0 0 μ = some (x1, μ') ∧ fr (KB 102) μ μ' ∧ c_r 0 (c_fw v 9) x1 x2 := by
  refine q_loop0 (fun n i (s : Int32 × Int32 × Mem) => f_X8_fewestSteps_21 n s.1 s.2.1 (nI i) s.2.2) 3 (by omega)
    (fun i s => fr (KB 102) μ s.2.2 ∧ c_r 0 (c_fw v (3 * i)) s.1 s.2.1)
    (fun z => ∃ x1 x2 μ', z = some (x1, μ') ∧ fr (KB 102) μ μ' ∧ c_r 0 (c_fw v 9) x1 x2) ?_ ?_ (-5, 0, μ) ⟨fr_refl _ _, Or.inl ⟨rfl, rfl, rfl⟩⟩
  · rintro n i ⟨x1, x2, m⟩ hi ⟨f, h⟩
    change fr (KB 102) μ m at f
    right
    have key := q_loop0 (fun n' j (s : Int32 × Int32 × Mem) => f_X8_fewestSteps_29 (f_X8_fewestSteps_21 n) n' s.1 s.2.1 (nI i) (nI j) s.2.2) 3 (by omega)
      (fun j s => fr (KB 102) μ s.2.2 ∧ c_r 0 (c_fw v (3 * i + j)) s.1 s.2.1)
      (fun z => ∃ s' : Int32 × Int32 × Mem, (fr (KB 102) μ s'.2.2 ∧ c_r 0 (c_fw v (3 * (i + 1))) s'.1 s'.2.1) ∧ z = f_X8_fewestSteps_21 n s'.1 s'.2.1 (nI (i + 1)) s'.2.2) ?_ ?_ (x1, x2, m) ⟨f, h⟩
    · obtain ⟨s', a, b⟩ := key
      refine ⟨s', a, ?_⟩
      rw [← b]
      show g_X8_fewestSteps_21 _ x1 x2 (nI i) m = _
      unfold g_X8_fewestSteps_21
      rw [if_neg (q_2lt hi)]
      rfl
    · rintro n' j ⟨x1, x2, m⟩ hj ⟨f, h⟩
      change fr (KB 102) μ m at f
      change c_r 0 (c_fw v (3 * i + j)) x1 x2 at h
      right
      obtain ⟨r, m2, e2, f2, p1, p2⟩ := x8_tryBest (nI i) (nI j) (XG_fr hX f (fun c j p q => by unfold KB; omega)) hG
      have hk := hv (3 * i + j)
      unfold g_fw at hk
      rw [show (3 * i + j) / 3 = i by omega, show (3 * i + j) % 3 = j by omega] at hk
      have hd : ∀ x, x = f_X8_fewestSteps_29 (f_X8_fewestSteps_21 n) (n' + 1) x1 x2 (nI i) (nI j) m → x = (if b01 r = 0 then f_X8_fewestSteps_29 (f_X8_fewestSteps_21 n) n' x1 x2 (nI i) (nI (j + 1)) m2 else if x1 = (-5) then f_X8_fewestSteps_62 (f_X8_fewestSteps_21 n) (f_X8_fewestSteps_29 (f_X8_fewestSteps_21 n) n') (nI i) (nI j) m2 else if x2 ≤ m2.1 102 3 then f_X8_fewestSteps_29 (f_X8_fewestSteps_21 n) n' x1 x2 (nI i) (nI (j + 1)) m2 else f_X8_fewestSteps_62 (f_X8_fewestSteps_21 n) (f_X8_fewestSteps_29 (f_X8_fewestSteps_21 n) n') (nI i) (nI j) m2) := by
        intro x hx
        rw [hx]
        show g_X8_fewestSteps_29 _ _ x1 x2 (nI i) (nI j) m = _
        unfold g_X8_fewestSteps_29
        rw [if_neg (q_2lt hj), e2, bnd_s, lt_k, q_add1]
      cases r
      · refine ⟨(x1, x2, m2), ⟨fr_then f f2, ?_⟩, ?_⟩
        · show c_r 0 (c_nx (3 * i + j) (v (3 * i + j)) (c_fw v (3 * i + j))) x1 x2
          rcases hk with ⟨A, a, -⟩ | ⟨a, -⟩
          · exact absurd ⟨A, a.1, a.2⟩ (p2 rfl)
          · rw [a]; exact h
        · refine (hd _ rfl).trans ?_
          rw [b01_f, if_pos rfl]
      · obtain ⟨A, a, b, c⟩ := p1 rfl
        have hA : A.1 ≤ 100 := (t_th_ok a).2.2.2.2.2.2
        have hvk : v (3 * i + j) = some A.1 := by
          rcases hk with ⟨A', a', b'⟩ | ⟨a', b'⟩
          · rw [g_is_det (A := A) ⟨a, b⟩ a']; exact b'
          · exact absurd ⟨A, a, b⟩ b'
        have c3 : m2.1 102 3 = nI A.1 := c.2.2.1
        have e62 : f_X8_fewestSteps_62 (f_X8_fewestSteps_21 n) (f_X8_fewestSteps_29 (f_X8_fewestSteps_21 n) n') (nI i) (nI j) m2 = f_X8_fewestSteps_29 (f_X8_fewestSteps_21 n) n' (nI (10 * ((3 * i + j) / 3) + (3 * i + j) % 3)) (nI A.1) (nI i) (nI (j + 1)) m2 := by
          unfold f_X8_fewestSteps_62
          rw [lt_k, lt_k, lt_k, c_code hi hj, c3, q_add1]
        rcases h with ⟨h1, h2, h3⟩ | ⟨b', t, h1, h2, h3, h4⟩
        · refine ⟨(nI (10 * ((3 * i + j) / 3) + (3 * i + j) % 3), nI A.1, m2), ⟨fr_then f f2, ?_⟩, ?_⟩
          · show c_r 0 (c_nx (3 * i + j) (v (3 * i + j)) (c_fw v (3 * i + j))) _ _
            rw [hvk, h1]
            exact Or.inr ⟨3 * i + j, A.1, rfl, rfl, rfl, hA⟩
          · refine (hd _ rfl).trans ?_
            rw [show b01 true = 1 from rfl, if_neg (by decide), if_pos h2, e62]
        · have hb := c_fw_lt v _ _ _ h1
          by_cases z : A.1 < t
          · refine ⟨(nI (10 * ((3 * i + j) / 3) + (3 * i + j) % 3), nI A.1, m2), ⟨fr_then f f2, ?_⟩, ?_⟩
            · show c_r 0 (c_nx (3 * i + j) (v (3 * i + j)) (c_fw v (3 * i + j))) _ _
              rw [hvk, h1]
              show c_r 0 (if A.1 < t then some (3 * i + j, A.1) else some (b', t)) _ _
              rw [if_pos z]
              exact Or.inr ⟨3 * i + j, A.1, rfl, rfl, rfl, hA⟩
            · refine (hd _ rfl).trans ?_
              rw [show b01 true = 1 from rfl, if_neg (by decide), if_neg (by rw [h2]; exact q_ne5 (by omega)), c3, if_neg (by rw [h3, Int32.le_iff_toInt_le, nI_i (by omega), nI_i (by omega)]; omega), e62]
          · refine ⟨(x1, x2, m2), ⟨fr_then f f2, ?_⟩, ?_⟩
            · show c_r 0 (c_nx (3 * i + j) (v (3 * i + j)) (c_fw v (3 * i + j))) x1 x2
              rw [hvk, h1]
              show c_r 0 (if A.1 < t then some (3 * i + j, A.1) else some (b', t)) _ _
              rw [if_neg z]
              exact Or.inr ⟨b', t, rfl, h2, h3, h4⟩
            · refine (hd _ rfl).trans ?_
              rw [show b01 true = 1 from rfl, if_neg (by decide), if_neg (by rw [h2]; exact q_ne5 (by omega)), c3, if_pos (by rw [h3, Int32.le_iff_toInt_le, nI_i (by omega), nI_i (by omega)]; omega)]
    · rintro n' ⟨x1, x2, m⟩ ⟨f, h⟩
      refine ⟨(x1, x2, m), ⟨f, h⟩, ?_⟩
      show g_X8_fewestSteps_29 _ _ x1 x2 (nI i) (nI 3) m = _
      unfold g_X8_fewestSteps_29
      rw [if_pos (by decide), lt_k, q_add1]
  · rintro n ⟨x1, x2, m⟩ ⟨f, h⟩
    refine ⟨x1, x2, m, ?_, f, h⟩
    show g_X8_fewestSteps_21 _ x1 x2 (nI 3) m = _
    unfold g_X8_fewestSteps_21
    rw [if_pos (by decide)]
theorem x9_few {G : TG} {μ : Mem} (hM : MG G μ) (hG : g_ok G) {v : Nat → Option Nat} (hv : ∀ k, g_fw G k (v k)) : ∃ x1 x2 μ', f_X9_fewest μ = some (x1, μ') ∧ fr ZA μ μ' ∧ c_r 101 (c_fw v 9) x1 x2 := by
  unfold f_X9_fewest
  obtain ⟨m1, e1, f1, mi⟩ := x9_minds μ
  rw [e1, bnv_s]
  have M1 := MG_fr hM f1 (fun c j q => by unfold DA; omega)
  refine q_loop0 (fun n i (s : Int32 × Int32 × Mem) => f_X9_fewest_12 n s.1 s.2.1 (nI i) s.2.2) 9 (by omega)
    (fun i s => fr ZX m1 s.2.2 ∧ c_r 101 (c_fw v i) s.1 s.2.1)
    (fun z => ∃ x1 x2 μ', z = some (x1, μ') ∧ fr ZA μ μ' ∧ c_r 101 (c_fw v 9) x1 x2) ?_ ?_ (-5, 101, m1) ⟨fr_refl _ _, Or.inl ⟨rfl, rfl, rfl⟩⟩
  · rintro n k ⟨x1, x2, m⟩ hk9 ⟨f, h⟩
    change fr ZX m1 m at f
    change c_r 101 (c_fw v k) x1 x2 at h
    right
    obtain ⟨r, m2, e2, f2, ho⟩ := x9_thinks (nI (k / 3)) (nI (k % 3)) (MG_fr M1 f (fun c j q => by unfold ZX; omega)) hG
    have hk := hv k
    have l9 : ¬ (9 : Int32) ≤ nI k := by
      rw [Int32.le_iff_toInt_le, nI_i (by omega), show (9 : Int32).toInt = 9 from rfl]; omega
    have hd : ∀ x, x = f_X9_fewest_12 (n + 1) x1 x2 (nI k) m → x = (if r < 0 then f_X9_fewest_12 n x1 x2 (nI (k + 1)) m2 else if x2 ≤ m2.1 122 9 then f_X9_fewest_12 n x1 x2 (nI (k + 1)) m2 else f_X9_fewest_12 n (nI (10 * (k / 3) + k % 3)) (m2.1 122 9) (nI (k + 1)) m2) := by
      intro x hx
      rw [hx]
      show g_X9_fewest_12 _ x1 x2 (nI k) m = _
      unfold g_X9_fewest_12
      rw [if_neg l9, q_div3 (by omega), q_rem3 (by omega), e2, bnd_s]
      simp only [lt_k]
      rw [q_add1, q_lmul10, nI_add]
    rcases ho with ⟨A, a, b, c, d⟩ | ⟨a, b⟩
    · have hA : A.1 ≤ 100 := (t_th_ok a).2.2.2.2.2.2
      have nn := g_tot_nn (A := A) ⟨a, b⟩
      have hvk : v k = some A.1 := by
        rcases hk with ⟨A', a', b'⟩ | ⟨a', b'⟩
        · rw [g_is_det (A := A) ⟨a, b⟩ a']; exact b'
        · exact absurd ⟨A, a, b⟩ b'
      have c3 : m2.1 122 9 = nI A.1 := c.2.2.1
      have nr : ¬ r < 0 := by rw [d, Int32.lt_iff_toInt_lt, show (0 : Int32).toInt = 0 from rfl]; omega
      rcases h with ⟨h1, h2, h3⟩ | ⟨b', t, h1, h2, h3, h4⟩
      · refine ⟨(nI (10 * (k / 3) + k % 3), nI A.1, m2), ⟨fr_then f f2, ?_⟩, ?_⟩
        · show c_r 101 (c_nx k (v k) (c_fw v k)) _ _
          rw [hvk, h1]
          exact Or.inr ⟨k, A.1, rfl, rfl, rfl, hA⟩
        · refine (hd _ rfl).trans ?_
          rw [if_neg nr, c3, if_neg (by rw [h3, Int32.le_iff_toInt_le, nI_i (by omega), show (101 : Int32).toInt = 101 from rfl]; omega)]
      · by_cases z : A.1 < t
        · refine ⟨(nI (10 * (k / 3) + k % 3), nI A.1, m2), ⟨fr_then f f2, ?_⟩, ?_⟩
          · show c_r 101 (c_nx k (v k) (c_fw v k)) _ _
            rw [hvk, h1]
            show c_r 101 (if A.1 < t then some (k, A.1) else some (b', t)) _ _
            rw [if_pos z]
            exact Or.inr ⟨k, A.1, rfl, rfl, rfl, hA⟩
          · refine (hd _ rfl).trans ?_
            rw [if_neg nr, c3, if_neg (by rw [h3, Int32.le_iff_toInt_le, nI_i (by omega), nI_i (by omega)]; omega)]
        · refine ⟨(x1, x2, m2), ⟨fr_then f f2, ?_⟩, ?_⟩
          · show c_r 101 (c_nx k (v k) (c_fw v k)) x1 x2
            rw [hvk, h1]
            show c_r 101 (if A.1 < t then some (k, A.1) else some (b', t)) _ _
            rw [if_neg z]
            exact Or.inr ⟨b', t, rfl, h2, h3, h4⟩
          · refine (hd _ rfl).trans ?_
            rw [if_neg nr, c3, if_pos (by rw [h3, Int32.le_iff_toInt_le, nI_i (by omega), nI_i (by omega)]; omega)]
    · refine ⟨(x1, x2, m2), ⟨fr_then f f2, ?_⟩, ?_⟩
      · show c_r 101 (c_nx k (v k) (c_fw v k)) x1 x2
        rcases hk with ⟨A, a', -⟩ | ⟨a', -⟩
        · exact absurd ⟨A, a'.1, a'.2⟩ b
        · rw [a']; exact h
      · refine (hd _ rfl).trans ?_
        rw [a, if_pos (by decide)]
  · rintro n ⟨x1, x2, m⟩ ⟨f, h⟩
    change fr ZX m1 m at f
    obtain ⟨m3, e3, f3⟩ := x9_forgets (MI_c mi (fr_c f (fun j => by unfold ZX; omega))) (fr_trans f1 f (fun c j h => by unfold DA at h; unfold ZA; omega) (fun c j h => Or.inl h))
    refine ⟨x1, x2, m3, ?_, f3, h⟩
    show g_X9_fewest_12 _ x1 x2 (nI 9) m = _
    unfold g_X9_fewest_12
    rw [if_pos (by decide), e3, bnv_s]
theorem c_r_eq {p : Option (Nat × Nat)} {d d' x1 x2 y1 y2 : Int32} (h : c_r d p x1 x2) (h' : c_r d' p y1 y2) : x1 = y1 := by
  rcases h with ⟨a, b, -⟩ | ⟨b, t, h1, h2, -⟩
  · rcases h' with ⟨a', b', -⟩ | ⟨b', t', h1', h2', -⟩
    · rw [b, b']
    · rw [a] at h1'; cases h1'
  · rcases h' with ⟨a', b', -⟩ | ⟨b', t', h1', h2', -⟩
    · rw [a'] at h1; cases h1
    · rw [h1] at h1'
      injection h1' with q
      injection q with q1 q2
      rw [h2, h2', q1]
theorem st_cheapest {μ : Mem} (hv : Inv μ) (a1 : Int32) : ∃ r μ1 μ2, f_X8_cheapest a1 μ = some (r, μ1) ∧ f_X9_cheapest a1 μ1 = some (r, μ2) ∧ Inv μ2 := by
  obtain ⟨⟨D, hD, hX, hM⟩, hR⟩ := id hv
  have g1 := hD.1.1
  have g2 := hD.1.2.1
  unfold f_X8_cheapest f_X9_cheapest
  by_cases h1 : inR a1 0 1 = true
  · have hb := x0_both (g := 15) (show XG 15 D.1 μ from hX.1) hD.1
    by_cases hbt : 0 < D.1.1 ∧ 0 < D.1.2.1
    · rw [if_pos hbt] at hb
      have n1 : ∀ m, MG D.1 m → ¬ m.1 122 0 = 0 := fun m h => by rw [h.1]; exact nI_ne0 hbt.1 (by omega)
      have n2 : ∀ m, MG D.1 m → ¬ m.1 122 1 = 0 := fun m h => by rw [h.2.1]; exact nI_ne0 hbt.2 (by omega)
      by_cases z : a1 = 0
      · have hex : ∀ i, ∃ v, g_sv D.1 i v := fun i => by
          obtain ⟨v, m, -, -, -, a⟩ := x3_sv (show XG 15 D.1 μ from hX.1) hD.1 hbt.1 hbt.2 i
          exact ⟨v, a⟩
        obtain ⟨v, hv'⟩ := Classical.axiomOfChoice hex
        obtain ⟨m1, e1, f1⟩ := x8_cheapS (show XG 15 D.1 μ from hX.1) hD.1 hbt.1 hbt.2 hv'
        have F1 : fr SCR μ m1 := fr_mono f1 (fun c j h => by unfold KB at h; unfold SCR; omega)
        have M1 := MD_fr hM hD F1 (fun c j q => by unfold SCR; omega)
        obtain ⟨m2, e2, f2⟩ := x9_cheapS M1.1 hD.1 hbt.1 hbt.2 hv'
        refine ⟨nI (c_ch v 3), m1, m2, ?_, ?_, Inv_scr (Inv_scr hv F1) (fr_mono f2 (fun c j h => by unfold ZA at h; unfold SCR; omega))⟩
        · rw [u8_1, bnv_s, h1, b2i_t, if_neg (by decide), hb, bnv_s, if_neg (by decide), if_pos z, e1, bnd_s]
        · rw [i9_1, bnv_s, h1, b2i_t, if_neg (by decide), if_neg (n1 m1 M1.1), if_neg (n2 m1 M1.1), if_pos z, e2, bnd_s]
      · obtain ⟨v, hv'⟩ := Classical.axiomOfChoice (g_fw_ex D.1)
        obtain ⟨m0, e0, x0, f0⟩ := x0_copyFrom (k := 95) (o := 15) (show XG 15 D.1 μ from hX.1) (by omega)
        obtain ⟨r, r2, m1, e1, f1, c1⟩ := x8_few x0 hD.1 hv'
        have F1 : fr SCR μ m1 := fr_trans f0 f1 (fun c j h => by unfold SCR; omega) (fun c j h => by unfold KB at h; unfold SCR; omega)
        have M1 := MD_fr hM hD F1 (fun c j q => by unfold SCR; omega)
        obtain ⟨s, s2, m2, e2, f2, c2⟩ := x9_few M1.1 hD.1 hv'
        have hrs := c_r_eq c1 c2
        subst hrs
        refine ⟨r, m1, m2, ?_, ?_, Inv_scr (Inv_scr hv F1) (fr_mono f2 (fun c j h => by unfold ZA at h; unfold SCR; omega))⟩
        · unfold f_X8_fewestSteps
          rw [u8_1, bnv_s, h1, b2i_t, if_neg (by decide), hb, bnv_s, if_neg (by decide), if_neg z, e0, bnv_s, e1, bnd_s]
        · rw [i9_1, bnv_s, h1, b2i_t, if_neg (by decide), if_neg (n1 m1 M1.1), if_neg (n2 m1 M1.1), if_neg z, e2, bnd_s]
    · rw [if_neg hbt] at hb
      refine ⟨-5, μ, μ, ?_, ?_, hv⟩
      · rw [u8_1, bnv_s, h1, b2i_t, if_neg (by decide), hb, bnv_s, if_pos rfl]
      · rw [i9_1, bnv_s, h1, b2i_t, if_neg (by decide)]
        by_cases q : D.1.1 = 0
        · rw [if_pos (by rw [hM.1.1, q]; rfl)]
        · rw [if_neg (by rw [hM.1.1]; exact nI_ne0 (by omega) (by omega)), if_pos (by rw [hM.1.2.1, show D.1.2.1 = 0 by omega]; rfl)]
  · have h1' := ff_t h1
    exact ⟨-1, μ, μ, by rw [u8_1, bnv_s, h1', b2i_f, if_pos rfl], by rw [i9_1, bnv_s, h1', b2i_f, if_pos rfl], hv⟩
