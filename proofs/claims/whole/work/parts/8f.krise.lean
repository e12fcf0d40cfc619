/-! THE CALLS: rise: the model's side -/
def RR : Nat → Nat → Prop := fun c _ => c = 143
def RP (K0 : Nat → Bool) (e : Nat) (μ0 μ : Mem) (kn : Nat → Bool) : Prop := MW μ kn ∧ fr RR μ0 μ ∧ kn (e / 6) = true ∧ ∀ v, v < 12 → kn v = true → K0 v = K0 (e / 6)
theorem x9_risepass {B K0 kn : Nat → Bool} {e : Nat} {μ0 : Mem} (q39 : Int32 → Mem → Option (Int32 × Mem)) (he : e < 36) (hB : ∀ c, c < 36 → μ0.1 129 c = b01 (B c)) (hK : t_brk B e K0) {μ : Mem} (hp : RP K0 e μ0 μ kn) :
    ∃ x μ' kn', f_X9_rises_47 (nI e) q39 FU 0 0 μ = q39 x μ' ∧ RP K0 e μ0 μ' kn' ∧ ((x = 0 ∧ kn' = kn ∧ ∀ c, c < 36 → B c = true → c ≠ e → kn' (c / 6) = kn' (6 + c % 6)) ∨ (x = 1 ∧ t_cnt kn' 12 < t_cnt kn 12)) := by
  refine q_loop0 (fun n i (s : Int32 × Mem) => f_X9_rises_47 (nI e) q39 n s.1 (nI i) s.2) 36 (by omega)
    (fun i s => ∃ kn', RP K0 e μ0 s.2 kn' ∧ ((s.1 = 0 ∧ kn' = kn ∧ ∀ c, c < i → B c = true → c ≠ e → kn' (c / 6) = kn' (6 + c % 6)) ∨ (s.1 = 1 ∧ t_cnt kn' 12 < t_cnt kn 12)))
    (fun z => ∃ x μ' kn', z = q39 x μ' ∧ RP K0 e μ0 μ' kn' ∧ ((x = 0 ∧ kn' = kn ∧ ∀ c, c < 36 → B c = true → c ≠ e → kn' (c / 6) = kn' (6 + c % 6)) ∨ (x = 1 ∧ t_cnt kn' 12 < t_cnt kn 12))) ?_ ?_ (0, μ) ⟨kn, hp, Or.inl ⟨rfl, rfl, fun c h => by omega⟩⟩
  · rintro n i ⟨x1, m⟩ hi ⟨kn1, ⟨p1, p2, p3, p4⟩, p5⟩
    right
    change MW m kn1 at p1
    change fr RR μ0 m at p2
    have hBi : m.1 129 i = b01 (B i) := (p2.2 _ _ (by unfold RR; omega)).trans (hB i hi)
    have a1 := p1 (i / 6) (by omega)
    have a2 := p1 (6 + i % 6) (by omega)
    have same : (B i = true → i ≠ e → kn1 (i / 6) = kn1 (6 + i % 6)) → ∃ kn', RP K0 e μ0 m kn' ∧ ((x1 = 0 ∧ kn' = kn ∧ ∀ c, c < i + 1 → B c = true → c ≠ e → kn' (c / 6) = kn' (6 + c % 6)) ∨ (x1 = 1 ∧ t_cnt kn' 12 < t_cnt kn 12)) := by
      intro hs
      refine ⟨kn1, ⟨p1, p2, p3, p4⟩, ?_⟩
      rcases p5 with ⟨e1, e2, e3⟩ | e'
      · refine Or.inl ⟨e1, e2, fun c hci hb hn => ?_⟩
        by_cases q : c = i
        · subst q
          exact hs hb hn
        · exact e3 c (by omega) hb hn
      · exact Or.inr e'
    cases hb : B i
    · rw [hb] at hBi same
      refine ⟨(x1, m), same (fun h => by cases h), ?_⟩
      show g_X9_rises_47 (nI e) q39 _ x1 (nI i) m = _
      unfold g_X9_rises_47
      simp (disch := omega) only [lt_k, bnv_s, bnd_s, grd_t, q_in, q_inb, q_c, q_leT, q_leF, q_ltT, q_ltF, q_neg, q_nn, q_z, q_le0, q_b0, q_b1, nI_add, nI_0, q_off, q_self, q_oth, cst_2, st_2, ↓reduceIte, f_X8_cellAt, f_X8_roadAt, q_le1, q_nle1, q_le2, q_nle2, q_le5, q_nle5, q_le6, q_nle6, q_le8, q_nle8, q_le12, q_nle12, q_le25, q_nle25, q_le36, q_nle36, q_le60, q_nle60, q_le99, q_nle99, q_le100, q_nle100, q_le300, q_nle300, q_le640, q_nle640, q_le411, q_nle411, q_mul2, q_lmul2, q_mul3, q_lmul3, q_mul5, q_lmul5, q_mul6, q_lmul6, q_mul10, q_lmul10, q_add1, q_ladd1, q_add2, q_ladd2, q_add3, q_ladd3, q_add5, q_ladd5, q_add6, q_ladd6, q_add100, q_ladd100, q_div2, q_rem2, q_div3, q_rem3, q_div6, q_rem6, q_div10, q_rem10, hBi, b01_f, q_01]
    · rw [hb] at hBi same
      by_cases ie : i = e
      · subst ie
        refine ⟨(x1, m), same (fun _ h => absurd rfl h), ?_⟩
        show g_X9_rises_47 (nI i) q39 _ x1 (nI i) m = _
        unfold g_X9_rises_47
        simp (disch := omega) only [lt_k, bnv_s, bnd_s, grd_t, q_in, q_inb, q_c, q_leT, q_leF, q_ltT, q_ltF, q_neg, q_nn, q_z, q_le0, q_b0, q_b1, nI_add, nI_0, q_off, q_self, q_oth, cst_2, st_2, ↓reduceIte, f_X8_cellAt, f_X8_roadAt, q_le1, q_nle1, q_le2, q_nle2, q_le5, q_nle5, q_le6, q_nle6, q_le8, q_nle8, q_le12, q_nle12, q_le25, q_nle25, q_le36, q_nle36, q_le60, q_nle60, q_le99, q_nle99, q_le100, q_nle100, q_le300, q_nle300, q_le640, q_nle640, q_le411, q_nle411, q_mul2, q_lmul2, q_mul3, q_lmul3, q_mul5, q_lmul5, q_mul6, q_lmul6, q_mul10, q_lmul10, q_add1, q_ladd1, q_add2, q_ladd2, q_add3, q_ladd3, q_add5, q_ladd5, q_add6, q_ladd6, q_add100, q_ladd100, q_div2, q_rem2, q_div3, q_rem3, q_div6, q_rem6, q_div10, q_rem10, hBi, b01_t]
      · have ine : (nI i = nI e) = False := q_eqF ie (by omega) (by omega)
        have ext : kn1 (i / 6) ≠ kn1 (6 + i % 6) → ∃ kn', RP K0 e μ0 (st (st m 143 (i / 6) 1) 143 (6 + i % 6) 1) kn' ∧ (((1 : Int32) = 0 ∧ kn' = kn ∧ ∀ c, c < i + 1 → B c = true → c ≠ e → kn' (c / 6) = kn' (6 + c % 6)) ∨ ((1 : Int32) = 1 ∧ t_cnt kn' 12 < t_cnt kn 12)) := by
          intro hne
          have keq := hK.2 i hi hb ie
          have kk : K0 (i / 6) = K0 (e / 6) := by
            cases h1 : kn1 (i / 6)
            · cases h2 : kn1 (6 + i % 6)
              · rw [h1, h2] at hne; exact absurd rfl hne
              · rw [keq]; exact p4 _ (by omega) h2
            · exact p4 _ (by omega) h1
          refine ⟨t_put (t_put kn1 (i / 6) true) (6 + i % 6) true, ⟨fun v hv => ?_, fr_st' (fr_st' p2 (by unfold RR; omega)) (by unfold RR; omega), ?_, fun v hv hk => ?_⟩, Or.inr ⟨rfl, ?_⟩⟩
          · rw [q_at, q_at]
            unfold t_put
            by_cases q : v = 6 + i % 6
            · rw [if_pos q, if_pos q]; rfl
            · rw [if_neg q, if_neg q]
              by_cases q2 : v = i / 6
              · rw [if_pos q2, if_pos q2]; rfl
              · rw [if_neg q2, if_neg q2]; exact p1 v hv
          · unfold t_put
            by_cases q : e / 6 = 6 + i % 6
            · rw [if_pos q]
            · rw [if_neg q]
              by_cases q2 : e / 6 = i / 6
              · rw [if_pos q2]
              · rw [if_neg q2]; exact p3
          · unfold t_put at hk
            by_cases q : v = 6 + i % 6
            · rw [q, ← keq]; exact kk
            · rw [if_neg q] at hk
              by_cases q2 : v = i / 6
              · rw [q2]; exact kk
              · rw [if_neg q2] at hk; exact p4 v hv hk
          · have le0 : t_cnt kn1 12 ≤ t_cnt kn 12 := by
              rcases p5 with ⟨-, r, -⟩ | ⟨-, r⟩
              · rw [← r]; exact Nat.le_refl _
              · exact Nat.le_of_lt r
            have lt1 : t_cnt (t_put (t_put kn1 (i / 6) true) (6 + i % 6) true) 12 < t_cnt kn1 12 := by
              cases h1 : kn1 (i / 6)
              · have c1 := t_cnt_set h1 12
                rw [if_pos (by omega)] at c1
                have c2 := t_cnt_mono (f := t_put kn1 (i / 6) true) (g := t_put (t_put kn1 (i / 6) true) (6 + i % 6) true) 12 (fun k _ hk => by
                  show (if k = 6 + i % 6 then true else t_put kn1 (i / 6) true k) = true
                  by_cases q : k = 6 + i % 6
                  · rw [if_pos q]
                  · rw [if_neg q]; exact hk)
                omega
              · have h2 : t_put kn1 (i / 6) true (6 + i % 6) = false := by
                  unfold t_put
                  rw [if_neg (by omega)]
                  cases h2 : kn1 (6 + i % 6)
                  · rfl
                  · rw [h1, h2] at hne; exact absurd rfl hne
                have c1 := t_cnt_set h2 12
                rw [if_pos (by omega)] at c1
                have c2 := t_cnt_mono (f := kn1) (g := t_put kn1 (i / 6) true) 12 (fun k _ hk => by
                  show (if k = i / 6 then true else kn1 k) = true
                  by_cases q : k = i / 6
                  · rw [if_pos q]
                  · rw [if_neg q]; exact hk)
                omega
            omega
        by_cases hne : kn1 (i / 6) = kn1 (6 + i % 6)
        · refine ⟨(x1, m), same (fun _ _ => hne), ?_⟩
          show g_X9_rises_47 (nI e) q39 _ x1 (nI i) m = _
          unfold g_X9_rises_47
          rw [← hne] at a2
          simp (disch := omega) only [lt_k, bnv_s, bnd_s, grd_t, q_in, q_inb, q_c, q_leT, q_leF, q_ltT, q_ltF, q_neg, q_nn, q_z, q_le0, q_b0, q_b1, nI_add, nI_0, q_off, q_self, q_oth, cst_2, st_2, ↓reduceIte, f_X8_cellAt, f_X8_roadAt, q_le1, q_nle1, q_le2, q_nle2, q_le5, q_nle5, q_le6, q_nle6, q_le8, q_nle8, q_le12, q_nle12, q_le25, q_nle25, q_le36, q_nle36, q_le60, q_nle60, q_le99, q_nle99, q_le100, q_nle100, q_le300, q_nle300, q_le640, q_nle640, q_le411, q_nle411, q_mul2, q_lmul2, q_mul3, q_lmul3, q_mul5, q_lmul5, q_mul6, q_lmul6, q_mul10, q_lmul10, q_add1, q_ladd1, q_add2, q_ladd2, q_add3, q_ladd3, q_add5, q_ladd5, q_add6, q_ladd6, q_add100, q_ladd100, q_div2, q_rem2, q_div3, q_rem3, q_div6, q_rem6, q_div10, q_rem10, hBi, b01_t, ine, a1, a2]
        · refine ⟨(1, st (st m 143 (i / 6) 1) 143 (6 + i % 6) 1), ext hne, ?_⟩
          have nb : (b01 (kn1 (i / 6)) = b01 (kn1 (6 + i % 6))) = False := by
            refine eq_false (fun q => hne ?_)
            revert q
            cases kn1 (i / 6) <;> cases kn1 (6 + i % 6) <;> decide
          show g_X9_rises_47 (nI e) q39 _ x1 (nI i) m = f_X9_rises_47 (nI e) q39 n 1 (nI (i + 1)) _
          unfold g_X9_rises_47
          simp (disch := omega) only [lt_k, bnv_s, grd_t, q_in, q_inb, q_c, q_nle36, q_div6, q_rem6, q_ladd6, q_add1, hBi, b01_t, ine, a1, a2, nb, ↓reduceIte]
  · rintro n ⟨x1, m⟩ ⟨kn1, p, p5⟩
    refine ⟨x1, m, kn1, ?_, p, ?_⟩
    · show g_X9_rises_47 (nI e) q39 _ x1 (nI 36) m = _
      unfold g_X9_rises_47
      simp (disch := omega) only [lt_k, bnv_s, bnd_s, grd_t, q_in, q_inb, q_c, q_leT, q_leF, q_ltT, q_ltF, q_neg, q_nn, q_z, q_le0, q_b0, q_b1, nI_add, nI_0, q_off, q_self, q_oth, cst_2, st_2, ↓reduceIte, f_X8_cellAt, f_X8_roadAt, q_le1, q_nle1, q_le2, q_nle2, q_le5, q_nle5, q_le6, q_nle6, q_le8, q_nle8, q_le12, q_nle12, q_le25, q_nle25, q_le36, q_nle36, q_le60, q_nle60, q_le99, q_nle99, q_le100, q_nle100, q_le300, q_nle300, q_le640, q_nle640, q_le411, q_nle411, q_mul2, q_lmul2, q_mul3, q_lmul3, q_mul5, q_lmul5, q_mul6, q_lmul6, q_mul10, q_lmul10, q_add1, q_ladd1, q_add2, q_ladd2, q_add3, q_ladd3, q_add5, q_ladd5, q_add6, q_ladd6, q_add100, q_ladd100, q_div2, q_rem2, q_div3, q_rem3, q_div6, q_rem6, q_div10, q_rem10, lt_k]
    · rcases p5 with ⟨e1, e2, e3⟩ | e'
      · exact Or.inl ⟨e1, e2, e3⟩
      · exact Or.inr e'
/-- the least of the crossing spares, from 99 on -/
def rs_cr (S T : Nat) (K : Nat → Bool) (e c : Nat) : Prop := t_pl S T c ∧ c ≠ e ∧ K (c / 6) = K (e / 6) ∧ ¬ K (6 + c % 6) = K (e / 6)
theorem x9_riseMin {S T e : Nat} {kn : Nat → Bool} {μ : Mem} (he : e < 36) (h1 : μ.1 122 7 = nI S) (h2 : μ.1 122 8 = nI T) (hS : S ≤ 6) (hT : T ≤ 6) (hw : MW μ kn) (hke : kn (e / 6) = true) (hn : ∀ c, c < 36 → t_pl S T c → 0 ≤ (ms μ c).toInt) :
    ∃ n, f_X9_rises_133 (nI e) FU 99 0 μ = some (nI n, μ) ∧ n ≤ 99 ∧ rs_at S T kn e (ms μ) n ∧ (n < 99 → ¬ rs_at S T kn e (ms μ) (n + 1)) := by
  refine q_loop0 (fun f i (s : Int32) => f_X9_rises_133 (nI e) f s (nI i) μ) 36 (by omega)
    (fun i s => ∃ n, s = nI n ∧ n ≤ 99 ∧ (∀ c, c < i → rs_cr S T kn e c → (n : Int) ≤ (ms μ c).toInt) ∧ (n < 99 → ∃ c, c < 36 ∧ rs_cr S T kn e c ∧ (ms μ c).toInt = n))
    (fun z => ∃ n, z = some (nI n, μ) ∧ n ≤ 99 ∧ rs_at S T kn e (ms μ) n ∧ (n < 99 → ¬ rs_at S T kn e (ms μ) (n + 1))) ?_ ?_ 99 ⟨99, rfl, by omega, fun c h => by omega, fun h => by omega⟩
  · rintro f i s hi ⟨n, rfl, n99, p1, p2⟩
    right
    have ip := x9_inPlan h1 h2 hS hT hi
    have a1 := hw (i / 6) (by omega)
    have a2 := hw (6 + i % 6) (by omega)
    have skip : ¬ rs_cr S T kn e i → ∃ n', nI n = nI n' ∧ n' ≤ 99 ∧ (∀ c, c < i + 1 → rs_cr S T kn e c → (n' : Int) ≤ (ms μ c).toInt) ∧ (n' < 99 → ∃ c, c < 36 ∧ rs_cr S T kn e c ∧ (ms μ c).toInt = n') := by
      intro hs
      refine ⟨n, rfl, n99, fun c hc hr => ?_, p2⟩
      by_cases q : c = i
      · subst q; exact absurd hr hs
      · exact p1 c (by omega) hr
    by_cases hp : i / 6 < S ∧ i % 6 < T
    · rw [if_pos hp] at ip
      by_cases ie : i = e
      · subst ie
        refine ⟨nI n, skip (fun h => h.2.1 rfl), ?_⟩
        show g_X9_rises_133 (nI i) _ (nI n) (nI i) μ = _
        unfold g_X9_rises_133
        simp (disch := omega) only [lt_k, bnv_s, bnd_s, grd_t, q_in, q_inb, q_c, q_leT, q_leF, q_ltT, q_ltF, q_neg, q_nn, q_z, q_le0, q_b0, q_b1, nI_add, nI_0, q_off, q_self, q_oth, cst_2, st_2, ↓reduceIte, f_X8_cellAt, f_X8_roadAt, q_le1, q_nle1, q_le2, q_nle2, q_le5, q_nle5, q_le6, q_nle6, q_le8, q_nle8, q_le12, q_nle12, q_le25, q_nle25, q_le36, q_nle36, q_le60, q_nle60, q_le99, q_nle99, q_le100, q_nle100, q_le300, q_nle300, q_le640, q_nle640, q_le411, q_nle411, q_mul2, q_lmul2, q_mul3, q_lmul3, q_mul5, q_lmul5, q_mul6, q_lmul6, q_mul10, q_lmul10, q_add1, q_ladd1, q_add2, q_ladd2, q_add3, q_ladd3, q_add5, q_ladd5, q_add6, q_ladd6, q_add100, q_ladd100, q_div2, q_rem2, q_div3, q_rem3, q_div6, q_rem6, q_div10, q_rem10, ip, q_10]
      · have ine : (nI i = nI e) = False := q_eqF ie (by omega) (by omega)
        cases k1 : kn (i / 6)
        · rw [k1] at a1
          refine ⟨nI n, skip (fun h => by have := h.2.2.1; rw [k1, hke] at this; cases this), ?_⟩
          show g_X9_rises_133 (nI e) _ (nI n) (nI i) μ = _
          unfold g_X9_rises_133
          simp (disch := omega) only [lt_k, bnv_s, bnd_s, grd_t, q_in, q_inb, q_c, q_leT, q_leF, q_ltT, q_ltF, q_neg, q_nn, q_z, q_le0, q_b0, q_b1, nI_add, nI_0, q_off, q_self, q_oth, cst_2, st_2, ↓reduceIte, f_X8_cellAt, f_X8_roadAt, q_le1, q_nle1, q_le2, q_nle2, q_le5, q_nle5, q_le6, q_nle6, q_le8, q_nle8, q_le12, q_nle12, q_le25, q_nle25, q_le36, q_nle36, q_le60, q_nle60, q_le99, q_nle99, q_le100, q_nle100, q_le300, q_nle300, q_le640, q_nle640, q_le411, q_nle411, q_mul2, q_lmul2, q_mul3, q_lmul3, q_mul5, q_lmul5, q_mul6, q_lmul6, q_mul10, q_lmul10, q_add1, q_ladd1, q_add2, q_ladd2, q_add3, q_ladd3, q_add5, q_ladd5, q_add6, q_ladd6, q_add100, q_ladd100, q_div2, q_rem2, q_div3, q_rem3, q_div6, q_rem6, q_div10, q_rem10, ip, q_10, ine, a1, b01_f]
        · rw [k1] at a1
          cases k2 : kn (6 + i % 6)
          · rw [k2] at a2
            have nn := hn i hi hp
            have cr : rs_cr S T kn e i := ⟨hp, ie, by rw [k1, hke], by rw [k2, hke]; decide⟩
            obtain ⟨m1, m2, m3⟩ := mn_le (nI n) (ms μ i)
            have n0 : (nI n).toInt = n := nI_i (by omega)
            rw [n0] at m1
            have mm : 0 ≤ (mn (nI n) (ms μ i)).toInt := by
              rcases m3 with h | h
              · rw [h, n0]; omega
              · rw [h]; exact nn
            obtain ⟨r1, r2⟩ := nI_of_toInt mm
            generalize ew : mn (nI n) (ms μ i) = w at m1 m2 m3 mm r1 r2
            refine ⟨w, ⟨w.toInt.toNat, r1, by omega, fun c hc hr => ?_, fun hlt => ?_⟩, ?_⟩
            · by_cases q : c = i
              · subst q; omega
              · have := p1 c (by omega) hr; omega
            · rcases m3 with h | h
              · rw [h, n0] at hlt ⊢
                obtain ⟨c, y1, y2, y3⟩ := p2 (by omega)
                exact ⟨c, y1, y2, by omega⟩
              · exact ⟨i, hi, cr, by rw [h]; omega⟩
            · show g_X9_rises_133 (nI e) _ (nI n) (nI i) μ = _
              unfold g_X9_rises_133
              simp (disch := omega) only [lt_k, bnv_s, bnd_s, grd_t, q_in, q_inb, q_c, q_leT, q_leF, q_ltT, q_ltF, q_neg, q_nn, q_z, q_le0, q_b0, q_b1, nI_add, nI_0, q_off, q_self, q_oth, cst_2, st_2, ↓reduceIte, f_X8_cellAt, f_X8_roadAt, q_le1, q_nle1, q_le2, q_nle2, q_le5, q_nle5, q_le6, q_nle6, q_le8, q_nle8, q_le12, q_nle12, q_le25, q_nle25, q_le36, q_nle36, q_le60, q_nle60, q_le99, q_nle99, q_le100, q_nle100, q_le300, q_nle300, q_le640, q_nle640, q_le411, q_nle411, q_mul2, q_lmul2, q_mul3, q_lmul3, q_mul5, q_lmul5, q_mul6, q_lmul6, q_mul10, q_lmul10, q_add1, q_ladd1, q_add2, q_ladd2, q_add3, q_ladd3, q_add5, q_ladd5, q_add6, q_ladd6, q_add100, q_ladd100, q_div2, q_rem2, q_div3, q_rem3, q_div6, q_rem6, q_div10, q_rem10, ip, q_10, ine, a1, a2, b01_t, b01_f, x9_over μ hi, ew]
          · rw [k2] at a2
            refine ⟨nI n, skip (fun h => by have := h.2.2.2; rw [k2, hke] at this; exact this rfl), ?_⟩
            show g_X9_rises_133 (nI e) _ (nI n) (nI i) μ = _
            unfold g_X9_rises_133
            simp (disch := omega) only [lt_k, bnv_s, bnd_s, grd_t, q_in, q_inb, q_c, q_leT, q_leF, q_ltT, q_ltF, q_neg, q_nn, q_z, q_le0, q_b0, q_b1, nI_add, nI_0, q_off, q_self, q_oth, cst_2, st_2, ↓reduceIte, f_X8_cellAt, f_X8_roadAt, q_le1, q_nle1, q_le2, q_nle2, q_le5, q_nle5, q_le6, q_nle6, q_le8, q_nle8, q_le12, q_nle12, q_le25, q_nle25, q_le36, q_nle36, q_le60, q_nle60, q_le99, q_nle99, q_le100, q_nle100, q_le300, q_nle300, q_le640, q_nle640, q_le411, q_nle411, q_mul2, q_lmul2, q_mul3, q_lmul3, q_mul5, q_lmul5, q_mul6, q_lmul6, q_mul10, q_lmul10, q_add1, q_ladd1, q_add2, q_ladd2, q_add3, q_ladd3, q_add5, q_ladd5, q_add6, q_ladd6, q_add100, q_ladd100, q_div2, q_rem2, q_div3, q_rem3, q_div6, q_rem6, q_div10, q_rem10, ip, q_10, ine, a1, a2, b01_t]
    · rw [if_neg hp] at ip
      refine ⟨nI n, skip (fun h => hp h.1), ?_⟩
      show g_X9_rises_133 (nI e) _ (nI n) (nI i) μ = _
      unfold g_X9_rises_133
      simp (disch := omega) only [lt_k, bnv_s, bnd_s, grd_t, q_in, q_inb, q_c, q_leT, q_leF, q_ltT, q_ltF, q_neg, q_nn, q_z, q_le0, q_b0, q_b1, nI_add, nI_0, q_off, q_self, q_oth, cst_2, st_2, ↓reduceIte, f_X8_cellAt, f_X8_roadAt, q_le1, q_nle1, q_le2, q_nle2, q_le5, q_nle5, q_le6, q_nle6, q_le8, q_nle8, q_le12, q_nle12, q_le25, q_nle25, q_le36, q_nle36, q_le60, q_nle60, q_le99, q_nle99, q_le100, q_nle100, q_le300, q_nle300, q_le640, q_nle640, q_le411, q_nle411, q_mul2, q_lmul2, q_mul3, q_lmul3, q_mul5, q_lmul5, q_mul6, q_lmul6, q_mul10, q_lmul10, q_add1, q_ladd1, q_add2, q_ladd2, q_add3, q_ladd3, q_add5, q_ladd5, q_add6, q_ladd6, q_add100, q_ladd100, q_div2, q_rem2, q_div3, q_rem3, q_div6, q_rem6, q_div10, q_rem10, ip]
  · rintro f s ⟨n, rfl, n99, p1, p2⟩
    refine ⟨n, ?_, n99, fun c hc hp ne h1 h2 => p1 c hc ⟨hp, ne, h1, h2⟩, fun hlt ha => ?_⟩
    · show g_X9_rises_133 (nI e) _ (nI n) (nI 36) μ = _
      unfold g_X9_rises_133
      simp (disch := omega) only [lt_k, bnv_s, bnd_s, grd_t, q_in, q_inb, q_c, q_leT, q_leF, q_ltT, q_ltF, q_neg, q_nn, q_z, q_le0, q_b0, q_b1, nI_add, nI_0, q_off, q_self, q_oth, cst_2, st_2, ↓reduceIte, f_X8_cellAt, f_X8_roadAt, q_le1, q_nle1, q_le2, q_nle2, q_le5, q_nle5, q_le6, q_nle6, q_le8, q_nle8, q_le12, q_nle12, q_le25, q_nle25, q_le36, q_nle36, q_le60, q_nle60, q_le99, q_nle99, q_le100, q_nle100, q_le300, q_nle300, q_le640, q_nle640, q_le411, q_nle411, q_mul2, q_lmul2, q_mul3, q_lmul3, q_mul5, q_lmul5, q_mul6, q_lmul6, q_mul10, q_lmul10, q_add1, q_ladd1, q_add2, q_ladd2, q_add3, q_ladd3, q_add5, q_ladd5, q_add6, q_ladd6, q_add100, q_ladd100, q_div2, q_rem2, q_div3, q_rem3, q_div6, q_rem6, q_div10, q_rem10, lt_k]
    · obtain ⟨c, y1, y2, y3⟩ := p2 hlt
      have := ha c y1 y2.1 y2.2.1 y2.2.2.1 y2.2.2.2
      omega
