/-! THE CALLS: rise -/
theorem x9_risesG {S T e : Nat} {B K0 : Nat → Bool} {μ0 : Mem} (he : e < 36) (h1 : μ0.1 122 7 = nI S) (h2 : μ0.1 122 8 = nI T) (hS : S ≤ 6) (hT : T ≤ 6) (hB : ∀ c, c < 36 → μ0.1 129 c = b01 (B c)) (hK : t_brk B e K0) (hn : ∀ c, c < 36 → t_pl S T c → 0 ≤ (ms μ0 c).toInt) :
    ∃ kn n μ', f_X9_rises_6 (nI e) FU 0 μ0 = some (nI n, μ') ∧ fr RR μ0 μ' ∧ t_brk B e kn ∧ n ≤ 99 ∧ rs_at S T kn e (ms μ0) n ∧ (n < 99 → ¬ rs_at S T kn e (ms μ0) (n + 1)) := by
  have rounds : ∀ kn m, RP K0 e μ0 m kn → ∃ kn n μ', f_X9_rises_39 (nI e) FU 1 m = some (nI n, μ') ∧ fr RR μ0 μ' ∧ t_brk B e kn ∧ n ≤ 99 ∧ rs_at S T kn e (ms μ0) n ∧ (n < 99 → ¬ rs_at S T kn e (ms μ0) (n + 1)) := by
    intro kn m hp
    refine q_while (fun n (s : Int32 × Mem × (Nat → Bool)) => f_X9_rises_39 (nI e) n s.1 s.2.1) (fun s => t_cnt s.2.2 12 + if s.1 = 0 then 0 else 1) (fun s => RP K0 e μ0 s.2.1 s.2.2 ∧ (s.1 = 0 → ∀ c, c < 36 → B c = true → c ≠ e → s.2.2 (c / 6) = s.2.2 (6 + c % 6)) ∧ (s.1 = 0 ∨ s.1 = 1))
      (fun z => ∃ kn n μ', z = some (nI n, μ') ∧ fr RR μ0 μ' ∧ t_brk B e kn ∧ n ≤ 99 ∧ rs_at S T kn e (ms μ0) n ∧ (n < 99 → ¬ rs_at S T kn e (ms μ0) (n + 1))) ?_ 13 FU (1, m, kn) (by show t_cnt kn 12 + (if (1 : Int32) = 0 then 0 else 1) ≤ 13; have := t_cnt_le kn 12; rw [if_neg (show ¬ (1 : Int32) = 0 by decide)]; omega) (by unfold FU; omega) ⟨hp, fun h => absurd (show (1 : Int32) = 0 from h) (by decide), Or.inr rfl⟩
    rintro n ⟨x, s, kn1⟩ ⟨p1, p2, p3⟩
    change RP K0 e μ0 s kn1 at p1
    change x = 0 → ∀ c, c < 36 → B c = true → c ≠ e → kn1 (c / 6) = kn1 (6 + c % 6) at p2
    change x = 0 ∨ x = 1 at p3
    by_cases x0 : x = 0
    · left
      obtain ⟨q1, q2, q3, q4⟩ := p1
      have em : ms s = ms μ0 := by
        funext c
        unfold ms
        rw [q2.2 127 _ (by unfold RR; omega), q2.2 142 _ (by unfold RR; omega), q2.2 142 _ (by unfold RR; omega)]
      obtain ⟨r, e1, e2, e3, e4⟩ := x9_riseMin (S := S) (T := T) (kn := kn1) (μ := s) he (by rw [q2.2 _ _ (by unfold RR; omega)]; exact h1) (by rw [q2.2 _ _ (by unfold RR; omega)]; exact h2) hS hT q1 q3 (by rw [em]; exact hn)
      rw [em] at e3 e4
      refine ⟨kn1, r, s, ?_, q2, ⟨fun h => ?_, p2 x0⟩, e2, e3, e4⟩
      · show g_X9_rises_39 (nI e) _ x s = _
        unfold g_X9_rises_39
        rw [if_pos x0]
        exact e1
      · rw [q3] at h
        exact hK.1 (q4 _ (by omega) h.symm).symm
    · right
      obtain ⟨x', μ', kn', e1, e2, e3⟩ := x9_risepass (f_X9_rises_39 (nI e) n) he hB hK p1
      refine ⟨(x', μ', kn'), ⟨e2, fun h => ?_, ?_⟩, ?_, ?_⟩
      · rcases e3 with ⟨a, b⟩ | ⟨a, b⟩
        · exact b.2
        · change x' = 0 at h; rw [a] at h; exact absurd h (by decide)
      · rcases e3 with ⟨a, -⟩ | ⟨a, -⟩
        · exact Or.inl a
        · exact Or.inr a
      · show t_cnt kn' 12 + (if x' = 0 then 0 else 1) < t_cnt kn1 12 + (if x = 0 then 0 else 1)
        rw [if_neg x0]
        rcases e3 with ⟨a, b⟩ | ⟨a, b⟩
        · rw [if_pos a]
          rw [b.1]; omega
        · rw [if_neg (by rw [a]; decide)]; omega
      · show g_X9_rises_39 (nI e) _ x s = _
        unfold g_X9_rises_39
        rw [if_neg x0]
        exact e1
  refine q_loop0 (fun n i (s : Mem) => f_X9_rises_6 (nI e) n (nI i) s) 12 (by omega) (fun i s => fr RR μ0 s ∧ ∀ v, v < i → s.1 143 v = b01 (decide (v = e / 6)))
    (fun z => ∃ kn n μ', z = some (nI n, μ') ∧ fr RR μ0 μ' ∧ t_brk B e kn ∧ n ≤ 99 ∧ rs_at S T kn e (ms μ0) n ∧ (n < 99 → ¬ rs_at S T kn e (ms μ0) (n + 1))) ?_ ?_ μ0 ⟨fr_refl _ _, fun v h => by omega⟩
  · rintro n i s hi ⟨p1, p2⟩
    right
    refine ⟨st s 143 i (b01 (decide (i = e / 6))), ⟨fr_st' p1 (by unfold RR; omega), fun v hv => ?_⟩, ?_⟩
    · rw [q_at]
      by_cases q : v = i
      · rw [if_pos q, q]
      · rw [if_neg q]; exact p2 v (by omega)
    · show g_X9_rises_6 (nI e) _ (nI i) s = _
      unfold g_X9_rises_6
      by_cases q : i = e / 6
      · subst q
        simp (disch := omega) only [lt_k, bnv_s, bnd_s, grd_t, q_in, q_inb, q_c, q_leT, q_leF, q_ltT, q_ltF, q_neg, q_nn, q_z, q_le0, q_b0, q_b1, nI_add, nI_0, q_off, q_self, q_oth, cst_2, st_2, ↓reduceIte, f_X8_cellAt, f_X8_roadAt, q_le1, q_nle1, q_le2, q_nle2, q_le5, q_nle5, q_le6, q_nle6, q_le8, q_nle8, q_le12, q_nle12, q_le25, q_nle25, q_le36, q_nle36, q_le60, q_nle60, q_le99, q_nle99, q_le100, q_nle100, q_le300, q_nle300, q_le640, q_nle640, q_le411, q_nle411, q_mul2, q_lmul2, q_mul3, q_lmul3, q_mul5, q_lmul5, q_mul6, q_lmul6, q_mul10, q_lmul10, q_add1, q_ladd1, q_add2, q_ladd2, q_add3, q_ladd3, q_add5, q_ladd5, q_add6, q_ladd6, q_add100, q_ladd100, q_div2, q_rem2, q_div3, q_rem3, q_div6, q_rem6, q_div10, q_rem10, lt_k, decide_true, b01_t]
      · have ine : (nI i = nI (e / 6)) = False := q_eqF q (by omega) (by omega)
        rw [decide_eq_false q]
        simp (disch := omega) only [lt_k, bnv_s, bnd_s, grd_t, q_in, q_inb, q_c, q_leT, q_leF, q_ltT, q_ltF, q_neg, q_nn, q_z, q_le0, q_b0, q_b1, nI_add, nI_0, q_off, q_self, q_oth, cst_2, st_2, ↓reduceIte, f_X8_cellAt, f_X8_roadAt, q_le1, q_nle1, q_le2, q_nle2, q_le5, q_nle5, q_le6, q_nle6, q_le8, q_nle8, q_le12, q_nle12, q_le25, q_nle25, q_le36, q_nle36, q_le60, q_nle60, q_le99, q_nle99, q_le100, q_nle100, q_le300, q_nle300, q_le640, q_nle640, q_le411, q_nle411, q_mul2, q_lmul2, q_mul3, q_lmul3, q_mul5, q_lmul5, q_mul6, q_lmul6, q_mul10, q_lmul10, q_add1, q_ladd1, q_add2, q_ladd2, q_add3, q_ladd3, q_add5, q_ladd5, q_add6, q_ladd6, q_add100, q_ladd100, q_div2, q_rem2, q_div3, q_rem3, q_div6, q_rem6, q_div10, q_rem10, ine, b01_f]
  · rintro n s ⟨p1, p2⟩
    obtain ⟨kn, r, μ', e1, e2⟩ := rounds (fun v => decide (v = e / 6)) s ⟨p2, p1, decide_eq_true rfl, fun v _ hk => by rw [of_decide_eq_true hk]⟩
    refine ⟨kn, r, μ', ?_, e2⟩
    show g_X9_rises_6 (nI e) _ (nI 12) s = _
    unfold g_X9_rises_6
    simp (disch := omega) only [lt_k, bnv_s, bnd_s, grd_t, q_in, q_inb, q_c, q_leT, q_leF, q_ltT, q_ltF, q_neg, q_nn, q_z, q_le0, q_b0, q_b1, nI_add, nI_0, q_off, q_self, q_oth, cst_2, st_2, ↓reduceIte, f_X8_cellAt, f_X8_roadAt, q_le1, q_nle1, q_le2, q_nle2, q_le5, q_nle5, q_le6, q_nle6, q_le8, q_nle8, q_le12, q_nle12, q_le25, q_nle25, q_le36, q_nle36, q_le60, q_nle60, q_le99, q_nle99, q_le100, q_nle100, q_le300, q_nle300, q_le640, q_nle640, q_le411, q_nle411, q_mul2, q_lmul2, q_mul3, q_lmul3, q_mul5, q_lmul5, q_mul6, q_lmul6, q_mul10, q_lmul10, q_add1, q_ladd1, q_add2, q_ladd2, q_add3, q_ladd3, q_add5, q_ladd5, q_add6, q_ladd6, q_add100, q_ladd100, q_div2, q_rem2, q_div3, q_rem3, q_div6, q_rem6, q_div10, q_rem10, lt_k]
    exact e1
theorem rs_at_congr {S T e r : Nat} {K : Nat → Bool} {sp sp' : Nat → Int32} (h : ∀ c, c < 36 → t_pl S T c → sp c = sp' c) (a : rs_at S T K e sp r) : rs_at S T K e sp' r := fun c hc hp ne k1 k2 => by rw [← h c hc hp]; exact a c hc hp ne k1 k2
theorem rs_at_le {S T e r r' : Nat} {K : Nat → Bool} {sp : Nat → Int32} (h : r' ≤ r) (a : rs_at S T K e sp r) : rs_at S T K e sp r' := fun c hc hp ne k1 k2 => by have := a c hc hp ne k1 k2; omega
theorem rs_uniq {S T e n n' : Nat} {K : Nat → Bool} {sp : Nat → Int32} (hn : n ≤ 99) (a : rs_at S T K e sp n) (b : n < 99 → ¬ rs_at S T K e sp (n + 1)) (hn' : n' ≤ 99) (a' : rs_at S T K e sp n') (b' : n' < 99 → ¬ rs_at S T K e sp (n' + 1)) : n = n' := by
  rcases Nat.lt_trichotomy n n' with h | h | h
  · exact absurd (rs_at_le (by omega) a') (b (by omega))
  · exact h
  · exact absurd (rs_at_le (by omega) a) (b' (by omega))
theorem x9_rises {S T e : Nat} {cost : Nat → Int32} {A : TA} {μ : Mem} (ok : t_ok S T cost A) (mr : MR S T cost A μ) (he : e < 36) (hBe : A.2.2.1 e = true) (hs : t_stop S T cost A) :
    ∃ kn w n μ', f_X9_rises (nI e) μ = some (nI n, μ') ∧ fr MA μ μ' ∧ t_brk A.2.2.1 e kn ∧ t_W S T A.2.2.1 cost w ∧ t_none S T (t_sp cost w) 36 ∧ n ≤ 99 ∧ rs_at S T kn e (t_sp cost w) n ∧ (n < 99 → ¬ rs_at S T kn e (t_sp cost w) (n + 1)) := by
  obtain ⟨c1, c2, c3, c4⟩ := MR_cost ok mr
  have ht := ok.1
  obtain ⟨m1, e1, f1, w1⟩ := x9_values (S := S) (T := T) (μ := μ) (by rw [c2]; exact ht) c1 c3
  rw [c2] at w1
  have w1' := t_W_congr ht (fun c hc hp => mr.2.2.2.2.2.1 c hc hp) w1
  have hsp : ∀ c, c < 36 → t_pl S T c → ms m1 c = t_sp cost (m1.1 142) c := fun c hc hp => by
    unfold ms t_sp
    rw [f1.2 127 c (by unfold MA; omega), mr.2.2.2.2.2.1 c hc hp]
  obtain ⟨w0, v1, v2⟩ := hs
  have nn : t_none S T (t_sp cost (m1.1 142)) 36 := fun c hc hp h => v2 c hc hp (by rw [← t_sp_eq ht w1' v1 hp]; exact h)
  obtain ⟨K0, hK⟩ := ht.2.2.2.2.2.2 e he hBe
  obtain ⟨kn, n, m2, e2, f2, b1, b2, b3, b4⟩ := x9_risesG (S := S) (T := T) (B := A.2.2.1) (μ0 := m1) he (by rw [f1.2 _ _ (by unfold MA; omega)]; exact mr.1) (by rw [f1.2 _ _ (by unfold MA; omega)]; exact mr.2.1) ht.2.1 ht.2.2.2.1 (fun c hc => by rw [f1.2 _ _ (by unfold MA; omega)]; exact mr.2.2.2.2.1 c hc) hK (fun c hc hp => by
    have := nn c hc hp
    rw [← hsp c hc hp, i_lt, show (0 : Int32).toInt = 0 from rfl] at this
    omega)
  refine ⟨kn, m1.1 142, n, m2, ?_, fr_trans f1 f2 (fun c j h => h) (fun c j h => Or.inr h), b1, w1', nn, b2, rs_at_congr hsp b3, fun h q => b4 h (rs_at_congr (fun c hc hp => (hsp c hc hp).symm) q)⟩
  unfold f_X9_rises
  rw [e1, bnv_s]
  exact e2
theorem st_rise {μ : Mem} (hv : Inv μ) (a1 : Int32) (a2 : Int32) : ∃ r μ1 μ2, f_X8_rise a1 a2 μ = some (r, μ1) ∧ f_X9_rise a1 a2 μ1 = some (r, μ2) ∧ Inv μ2 := by
  obtain ⟨⟨D, hD, hX, hM⟩, hR⟩ := id hv
  have g1 := hD.1.1
  have g2 := hD.1.2.1
  have r8 := x0_isRoadG (g := 15) hX.1 hD.1 a1 a2
  have r9 := x9_isRoadG hM.1 hD.1 a1 a2
  unfold f_X8_rise f_X9_rise
  rcases road_cases D.1 hD.1 a1 a2 with ⟨i, j, hi, hj, rfl, rfl, ec⟩ | ec
  · rw [ec] at r8 r9
    have hp : XPl 22 D μ := hX.2.1
    have hq := hM.2.1
    have p0 := hp.1
    have q0 := hq.1
    cases hm : D.2.1
    · rw [hm] at p0 q0
      exact ⟨-3, μ, μ, by rw [r8, bnv_s, if_neg (by decide), p0, b01_f, if_pos rfl], by rw [r9, bnv_s, if_neg (by decide), q0, b01_f, if_pos rfl], hv⟩
    · rw [hm] at p0 q0
      have ok := (hD.2.2.1 hm).2.2
      have xr := hp.2.1 hm
      have hc : 6 * i + j < 36 := by omega
      obtain ⟨r, m1, e1, f1, hst⟩ := x3_proved (k := 22) ok xr
      have s1 : fr SCR μ m1 := fr_mono f1 (fun c j h => by unfold FA at h; unfold SCR; omega)
      have i1 := Inv_scr hv s1
      cases r
      · have M1 := MD_fr hM hD s1 (fun c j q => by unfold SCR; omega)
        obtain ⟨r', m2, e2, f2, hst', -⟩ := x9_proved ok (M1.2.1.2 hm)
        have r9' := x9_isRoadG M1.1 hD.1 (nI i) (nI j)
        rw [ec] at r9'
        have q1 := M1.2.1.1
        rw [hm] at q1
        have er : r' = false := by
          cases r'
          · rfl
          · have := hst.mpr (hst'.mp rfl); cases this
        rw [er] at e2
        exact ⟨-3, m1, m2, by rw [r8, bnv_s, if_neg (by decide), p0, if_neg (by decide), e1, bnd_s, b01_f, if_pos rfl], by rw [r9', bnv_s, if_neg (by decide), q1, if_neg (by decide), e2, bnd_s, b01_f, if_pos rfl], Inv_scr i1 (MA_scr f2)⟩
      · have st0 := hst.mp rfl
        have xb : m1.1 25 (6 * i + j) = b01 (D.2.2.1.2.2.1 (6 * i + j)) := by
          rw [f1.2 _ _ (by unfold FA; omega)]; exact xr.2.2.2.2.1 _ hc
        have tail9 : ∀ m, fr SCR μ m → ∃ m4, MR (g_S D.1) (g_T D.1) (g_cost D.1) D.2.2.1 m4 ∧ fr MA m m4 ∧ bnv (f_X9_isRoad (nI i) (nI j) m) (fun r2 => if r2 = 0 then some (-1, m) else if m.1 122 6 = 0 then some (-3, m) else bnd (f_X9_isProved m) (fun r6 μ7 => if r6 = 0 then some (-3, μ7) else grd (inb (6 * nI i + nI j) 36) (if μ7.1 129 (6 * nI i + nI j).toNatClampNeg = 0 then some (-3, μ7) else bnd (f_X9_rises (6 * nI i + nI j) μ7) (fun r12 μ13 => some (r12, μ13)))))
            = if b01 (D.2.2.1.2.2.1 (6 * i + j)) = 0 then some (-3, m4) else bnd (f_X9_rises (nI (6 * i + j)) m4) (fun r12 μ13 => some (r12, μ13)) := by
          intro m fm
          have M1 := MD_fr hM hD fm (fun c j q => by unfold SCR; omega)
          obtain ⟨r', m2, e2, f2, hst', -⟩ := x9_proved ok (M1.2.1.2 hm)
          have r9' := x9_isRoadG M1.1 hD.1 (nI i) (nI j)
          rw [ec] at r9'
          have q1 := M1.2.1.1
          rw [hm] at q1
          rw [hst'.mpr st0] at e2
          have mr2 : MR (g_S D.1) (g_T D.1) (g_cost D.1) D.2.2.1 m2 := MR_fr (M1.2.1.2 hm) (fr_mono f2 (fun c j h => by unfold MA at h; unfold EA; omega))
          refine ⟨m2, mr2, f2, ?_⟩
          rw [r9', bnv_s, if_neg (by decide), q1, if_neg (by decide), e2, bnd_s, if_neg (by decide), q_lmul6, nI_add, q_in hc (by omega), nI_c (by omega), mr2.2.2.2.2.1 _ hc]
        cases hb : D.2.2.1.2.2.1 (6 * i + j)
        · obtain ⟨m4, -, f4, e4⟩ := tail9 m1 s1
          rw [hb] at xb e4
          refine ⟨-3, m1, m4, ?_, ?_, Inv_scr i1 (MA_scr f4)⟩
          · unfold f_X8_cellAt
            rw [r8, bnv_s, if_neg (by decide), p0, if_neg (by decide), e1, bnd_s, if_neg (by decide), bnv_s, q_mul6, nI_add, Nat.mul_comm i 6, q_in hc (by omega), nI_c (by omega), xb, b01_f, if_pos rfl]
          · rw [e4, b01_f, if_pos rfl]
        · obtain ⟨m2, e2, x2, f2⟩ := x3_copyFrom (k := 102) (o := 22) (XPl_fr hp hD f1 (fun c j q => by unfold FA; omega)) hD (by omega)
          obtain ⟨w0, v1, v2⟩ := id st0
          obtain ⟨K0, hK⟩ := ok.1.2.2.2.2.2.2 _ hc hb
          have h1000 : (g_cost D.1 (6 * i + j)).toInt ≤ 1000 := by
            unfold g_cost
            rw [if_pos (by omega), show (6 * i + j) / 6 = i by omega, show (6 * i + j) % 6 = j by omega]
            exact (g_road_ok hD.1 (by omega) (by omega)).2
          obtain ⟨n, m3, e3, f3, -⟩ := x8_riseG ok (by omega) (by omega) hb h1000 hK v1 v2 (x2.2.1 hm)
          have s2 : fr SCR m1 m2 := fr_mono f2 (fun c j h => by unfold SCR; omega)
          have s3 : fr SCR μ m3 := fr_then (fr_then s1 s2) f3
          obtain ⟨m4, mr4, f4, e4⟩ := tail9 m3 s3
          obtain ⟨kn, w, n', m5, e5, f5, bk, hw, hnn, b2, b3, b4⟩ := x9_rises ok mr4 hc hb st0
          obtain ⟨n2, m3', e3', f3', c2, c3, c4⟩ := x8_riseG ok (by omega) (by omega) hb h1000 bk hw hnn (x2.2.1 hm)
          have en := rs_uniq c2 c3 c4 b2 b3 b4
          subst en
          have e33 := e3.symm.trans e3'
          have en3 : nI n = nI n2 := congrArg Prod.fst (Option.some.inj e33)
          rw [hb] at xb e4
          refine ⟨nI n2, m3, m5, ?_, ?_, Inv_scr (Inv_scr hv s3) (fr_then (MA_scr f4) (MA_scr f5))⟩
          · unfold f_X8_cellAt
            rw [r8, bnv_s, if_neg (by decide), p0, if_neg (by decide), e1, bnd_s, if_neg (by decide), bnv_s, q_mul6, nI_add, Nat.mul_comm i 6, q_in hc (by omega), nI_c (by omega), xb, if_neg (by decide), e2, bnv_s, e3, en3]
          · rw [e4, if_neg (by decide), e5, bnd_s]
  · rw [ec] at r8 r9
    exact ⟨-1, μ, μ, by rw [r8, bnv_s, if_pos rfl], by rw [r9, bnv_s, if_pos rfl], hv⟩
