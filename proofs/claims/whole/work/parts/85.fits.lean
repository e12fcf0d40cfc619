/-! THE CALLS: fits */ -/
theorem x9_allSeen {r : TR} {μ : Mem} {ld : Nat → Int32} (h : MRw 20 131 r μ) (hr : r.1 ≤ 5) (hok : row_ok r) (hl : ∀ c, c < 36 → μ.1 128 c = ld c) : ∃ b : Bool, f_X9_isAllSeen μ = some (b01 b) ∧ (b = true ↔ ∀ j, j < r.1 → ld (r.2.1 j).toNatClampNeg = r.2.2 j) := by
  obtain ⟨h1, h2⟩ := h
  refine q_loop0 (fun n i (_ : Unit) => f_X9_isAllSeen_2 μ n (nI i)) r.1 (by omega) (fun i _ => ∀ j, j < i → ld (r.2.1 j).toNatClampNeg = r.2.2 j)
    (fun z => ∃ b : Bool, z = some (b01 b) ∧ (b = true ↔ ∀ j, j < r.1 → ld (r.2.1 j).toNatClampNeg = r.2.2 j)) ?_ ?_ () (fun j h => by omega)
  · intro n i _ hi hv
    obtain ⟨t1, t2⟩ := h2 i hi
    obtain ⟨c, hc, ec⟩ := hok i hi
    have lT : ¬ nI r.1 ≤ nI i := fun q => by have := (nI_leI (by omega) (by omega)).mp q; omega
    have e1 : μ.1 131 i = nI c := by rw [t1, ec]
    have e2 : μ.1 132 i = r.2.2 i := t2
    have e3 : ld (r.2.1 i).toNatClampNeg = ld c := by rw [ec, q_c (by omega)]
    by_cases q : ld c = r.2.2 i
    · right
      refine ⟨(), fun j hj => ?_, ?_⟩
      · by_cases z : j = i
        · subst z; rw [e3]; exact q
        · exact hv j (by omega)
      · show g_X9_isAllSeen_2 μ _ (nI i) = _
        unfold g_X9_isAllSeen_2
        rw [h1, if_neg lT]
        simp (disch := omega) only [lt_k, bnv_s, bnd_s, grd_t, q_in, q_inb, q_c, q_leT, q_leF, q_ltT, q_ltF, q_neg, q_nn, q_z, q_le0, q_b0, q_b1, nI_add, nI_0, q_off, q_self, q_oth, cst_2, st_2, ↓reduceIte, f_X8_cellAt, f_X8_roadAt, q_le1, q_nle1, q_le2, q_nle2, q_le5, q_nle5, q_le6, q_nle6, q_le8, q_nle8, q_le12, q_nle12, q_le25, q_nle25, q_le36, q_nle36, q_le60, q_nle60, q_le99, q_nle99, q_le100, q_nle100, q_le300, q_nle300, q_le640, q_nle640, q_le411, q_nle411, q_mul2, q_lmul2, q_mul3, q_lmul3, q_mul5, q_lmul5, q_mul6, q_lmul6, q_mul10, q_lmul10, q_add1, q_ladd1, q_add2, q_ladd2, q_add3, q_ladd3, q_add5, q_ladd5, q_add6, q_ladd6, q_add100, q_ladd100, q_div2, q_rem2, q_div3, q_rem3, q_div6, q_rem6, q_div10, q_rem10, e1, e2, hl c hc, q]
    · left
      refine ⟨false, ?_, fun z => (by cases z), fun z => absurd ((e3.symm.trans (z i hi))) q⟩
      show g_X9_isAllSeen_2 μ _ (nI i) = _
      unfold g_X9_isAllSeen_2
      rw [h1, if_neg lT]
      simp (disch := omega) only [lt_k, bnv_s, bnd_s, grd_t, q_in, q_inb, q_c, q_leT, q_leF, q_ltT, q_ltF, q_neg, q_nn, q_z, q_le0, q_b0, q_b1, nI_add, nI_0, q_off, q_self, q_oth, cst_2, st_2, ↓reduceIte, f_X8_cellAt, f_X8_roadAt, q_le1, q_nle1, q_le2, q_nle2, q_le5, q_nle5, q_le6, q_nle6, q_le8, q_nle8, q_le12, q_nle12, q_le25, q_nle25, q_le36, q_nle36, q_le60, q_nle60, q_le99, q_nle99, q_le100, q_nle100, q_le300, q_nle300, q_le640, q_nle640, q_le411, q_nle411, q_mul2, q_lmul2, q_mul3, q_lmul3, q_mul5, q_lmul5, q_mul6, q_lmul6, q_mul10, q_lmul10, q_add1, q_ladd1, q_add2, q_ladd2, q_add3, q_ladd3, q_add5, q_ladd5, q_add6, q_ladd6, q_add100, q_ladd100, q_div2, q_rem2, q_div3, q_rem3, q_div6, q_rem6, q_div10, q_rem10, e1, e2, hl c hc, q]
      rfl
  · intro n _ hv
    refine ⟨true, ?_, fun _ => hv, fun _ => rfl⟩
    show g_X9_isAllSeen_2 μ _ (nI r.1) = _
    unfold g_X9_isAllSeen_2
    rw [h1, if_pos (Int32.le_refl _)]
    rfl
/-- the least base cost that fits -/
def c_lo (w : Nat → Bool) (a N : Nat) (x : Int32) : Prop := (x = -5 ∧ ∀ b, a ≤ b → b < N → w b = false) ∨ ∃ b, a ≤ b ∧ b < N ∧ w b = true ∧ x = nI b ∧ ∀ c, a ≤ c → c < b → w c = false
theorem c_lo_eq {w : Nat → Bool} {a N : Nat} {x y : Int32} (h : c_lo w a N x) (h' : c_lo w a N y) : x = y := by
  rcases h with ⟨a1, a2⟩ | ⟨b, b1, b2, b3, b4, b5⟩
  · rcases h' with ⟨c1, c2⟩ | ⟨c, c1, c2, c3, c4, c5⟩
    · rw [a1, c1]
    · have := a2 c c1 c2; rw [c3] at this; cases this
  · rcases h' with ⟨c1, c2⟩ | ⟨c, c1, c2, c3, c4, c5⟩
    · have := c2 b b1 b2; rw [b3] at this; cases this
    · have : b = c := by
        rcases Nat.lt_trichotomy b c with q | q | q
        · have := c5 b b1 q; rw [b3] at this; cases this
        · exact q
        · have := b5 c c1 q; rw [c3] at this; cases this
      rw [b4, c4, this]
theorem t_ctr_mono (f : Nat → Bool) (a : Nat) : ∀ d, t_ctr f a ≤ t_ctr f (a + d)
  | 0 => Nat.le_refl _
  | d + 1 => by
    have := t_ctr_mono f a d
    have e := c_ctr f (a + d)
    rw [show a + (d + 1) = (a + d) + 1 from rfl, e]
    omega
def g_fit (r : TR) (A : TA) : Prop := ∀ j, j < r.1 → A.2.1 (r.2.1 j).toNatClampNeg = r.2.2 j
theorem x8_fitsG {G : TG} {μ : Mem} {r : TR} (hr : r.1 ≤ 5) (hok : row_ok r) (hR : XRw 42 5 r μ) (hG : g_ok G) {i j : Nat} (hi : i < 5) (hj : j < 5) (hX : XG 95 G μ) {w : Nat → Bool} (hw : ∀ y, g_w G (5 * i + j) (g_fit r) y (w y)) (x : Int32) : ∃ μ' y, fr SCR μ μ' ∧ c_lo w 0 31 y ∧ f_X8_fits_49 (nI i) (nI j) x FU 0 (-5) 0 μ = some (if x = 0 then nI (t_ctr w 31) else y, μ') := by
  refine q_loop0 (fun n t (s : Mem × Int32 × Int32) => f_X8_fits_49 (nI i) (nI j) x n s.2.1 s.2.2 (nI t) s.1) 31 (by omega)
    (fun t s => fr SCR μ s.1 ∧ (∀ y, XG 95 (g_bs G (5 * i + j) y) (st s.1 101 (5 * i + j) y)) ∧ s.2.1 = nI (t_ctr w t) ∧ c_lo w 0 t s.2.2)
    (fun z => ∃ μ' y, fr SCR μ μ' ∧ c_lo w 0 31 y ∧ z = some (if x = 0 then nI (t_ctr w 31) else y, μ')) ?_ ?_ (μ, 0, -5) ⟨fr_refl _ _, fun y => XG_bs hX _ y, rfl, Or.inl ⟨rfl, fun b _ h => by omega⟩⟩
  · rintro n t ⟨m, s, u⟩ ht ⟨f, X, hs, hu⟩
    change s = _ at hs
    change c_lo w 0 t u at hu
    change fr SCR μ m at f
    right
    obtain ⟨rr, m2, e2, f2, X2, p1, p2⟩ := x8_tried hG X (y := t) (by omega)
    change f_X8_tryTheBest (st m 101 (5 * i + j) (nI t)) = _ at e2
    have l31 : ¬ (31 : Int32) ≤ nI t := by
      rw [Int32.le_iff_toInt_le, nI_i (by omega), show (31 : Int32).toInt = 31 from rfl]; omega
    have keep : w t = false → c_lo w 0 (t + 1) u := by
      intro w0
      rcases hu with ⟨a1, a2⟩ | ⟨b, b1, b2, b3, b4, b5⟩
      · refine Or.inl ⟨a1, fun b h1 h2 => ?_⟩
        by_cases q : b = t
        · subst q; exact w0
        · exact a2 b h1 (by omega)
      · exact Or.inr ⟨b, b1, by omega, b3, b4, b5⟩
    cases rr
    · have hw0 := g_w_no (hw t) (p1 rfl)
      refine ⟨(m2, s, u), ⟨fr_then f f2, X2, ?_, keep hw0⟩, ?_⟩
      · show s = _
        rw [c_ctr, hw0, if_neg (by decide)]; exact hs
      · show g_X8_fits_49 (nI i) (nI j) x _ s u (nI t) m = _
        unfold g_X8_fits_49
        rw [if_neg l31]
        simp (disch := omega) only [lt_k, bnv_s, bnd_s, grd_t, q_in, q_inb, q_c, q_leT, q_leF, q_ltT, q_ltF, q_neg, q_nn, q_z, q_le0, q_b0, q_b1, nI_add, nI_0, q_off, q_self, q_oth, cst_2, st_2, ↓reduceIte, f_X8_cellAt, f_X8_roadAt, q_le1, q_nle1, q_le2, q_nle2, q_le5, q_nle5, q_le6, q_nle6, q_le8, q_nle8, q_le12, q_nle12, q_le25, q_nle25, q_le36, q_nle36, q_le60, q_nle60, q_le99, q_nle99, q_le100, q_nle100, q_le300, q_nle300, q_le640, q_nle640, q_le411, q_nle411, q_mul2, q_lmul2, q_mul3, q_lmul3, q_mul5, q_lmul5, q_mul6, q_lmul6, q_mul10, q_lmul10, q_add1, q_ladd1, q_add2, q_ladd2, q_add3, q_ladd3, q_add5, q_ladd5, q_add6, q_ladd6, q_add100, q_ladd100, q_div2, q_rem2, q_div3, q_rem3, q_div6, q_rem6, q_div10, q_rem10, Nat.mul_comm i 5, e2, b01_f]
    · obtain ⟨A, a, c⟩ := p2 rfl
      have hwA := g_w_at (hw t) a
      have R2 : XRw 42 5 r m2 := XRw_fr hR (fr_then f f2) (fun c j q => by unfold SCR; omega)
      rcases x4_firstOther (a1 := 104) R2 (by omega) hok c with ⟨k, e4, lk⟩ | ⟨e4, all⟩
      · have hw0 : w t = false := by
          cases q : w t
          · rfl
          · exact absurd (hwA.mp q k lk.1) lk.2.1
        have lk1 := lk.1
        refine ⟨(m2, s, u), ⟨fr_then f f2, X2, ?_, keep hw0⟩, ?_⟩
        · show s = _
          rw [c_ctr, hw0, if_neg (by decide)]; exact hs
        · show g_X8_fits_49 (nI i) (nI j) x _ s u (nI t) m = _
          unfold g_X8_fits_49
          rw [if_neg l31]
          have nk : (nI k = -5) = False := eq_false (q_ne5 (by omega))
          simp (disch := omega) only [lt_k, bnv_s, bnd_s, grd_t, q_in, q_inb, q_c, q_leT, q_leF, q_ltT, q_ltF, q_neg, q_nn, q_z, q_le0, q_b0, q_b1, nI_add, nI_0, q_off, q_self, q_oth, cst_2, st_2, ↓reduceIte, f_X8_cellAt, f_X8_roadAt, q_le1, q_nle1, q_le2, q_nle2, q_le5, q_nle5, q_le6, q_nle6, q_le8, q_nle8, q_le12, q_nle12, q_le25, q_nle25, q_le36, q_nle36, q_le60, q_nle60, q_le99, q_nle99, q_le100, q_nle100, q_le300, q_nle300, q_le640, q_nle640, q_le411, q_nle411, q_mul2, q_lmul2, q_mul3, q_lmul3, q_mul5, q_lmul5, q_mul6, q_lmul6, q_mul10, q_lmul10, q_add1, q_ladd1, q_add2, q_ladd2, q_add3, q_ladd3, q_add5, q_ladd5, q_add6, q_ladd6, q_add100, q_ladd100, q_div2, q_rem2, q_div3, q_rem3, q_div6, q_rem6, q_div10, q_rem10, Nat.mul_comm i 5, e2, show b01 true = 1 from rfl, q_10, e4, nk]
      · have hw1 : w t = true := hwA.mpr all
        rcases hu with ⟨a1, a2⟩ | ⟨b, b1, b2, b3, b4, b5⟩
        · refine ⟨(m2, s + 1, nI t), ⟨fr_then f f2, X2, ?_, Or.inr ⟨t, by omega, by omega, hw1, rfl, a2⟩⟩, ?_⟩
          · show s + 1 = _
            rw [c_ctr, hw1, if_pos rfl, hs, q_add1]
          · show g_X8_fits_49 (nI i) (nI j) x _ s u (nI t) m = _
            unfold g_X8_fits_49
            rw [if_neg l31]
            simp (disch := omega) only [lt_k, bnv_s, bnd_s, grd_t, q_in, q_inb, q_c, q_leT, q_leF, q_ltT, q_ltF, q_neg, q_nn, q_z, q_le0, q_b0, q_b1, nI_add, nI_0, q_off, q_self, q_oth, cst_2, st_2, ↓reduceIte, f_X8_cellAt, f_X8_roadAt, q_le1, q_nle1, q_le2, q_nle2, q_le5, q_nle5, q_le6, q_nle6, q_le8, q_nle8, q_le12, q_nle12, q_le25, q_nle25, q_le36, q_nle36, q_le60, q_nle60, q_le99, q_nle99, q_le100, q_nle100, q_le300, q_nle300, q_le640, q_nle640, q_le411, q_nle411, q_mul2, q_lmul2, q_mul3, q_lmul3, q_mul5, q_lmul5, q_mul6, q_lmul6, q_mul10, q_lmul10, q_add1, q_ladd1, q_add2, q_ladd2, q_add3, q_ladd3, q_add5, q_ladd5, q_add6, q_ladd6, q_add100, q_ladd100, q_div2, q_rem2, q_div3, q_rem3, q_div6, q_rem6, q_div10, q_rem10, Nat.mul_comm i 5, e2, show b01 true = 1 from rfl, q_10, e4, a1]
        · refine ⟨(m2, s + 1, u), ⟨fr_then f f2, X2, ?_, Or.inr ⟨b, b1, by omega, b3, b4, b5⟩⟩, ?_⟩
          · show s + 1 = _
            rw [c_ctr, hw1, if_pos rfl, hs, q_add1]
          · show g_X8_fits_49 (nI i) (nI j) x _ s u (nI t) m = _
            unfold g_X8_fits_49
            rw [if_neg l31]
            have nk : (nI b = -5) = False := eq_false (q_ne5 (by omega))
            simp (disch := omega) only [lt_k, bnv_s, bnd_s, grd_t, q_in, q_inb, q_c, q_leT, q_leF, q_ltT, q_ltF, q_neg, q_nn, q_z, q_le0, q_b0, q_b1, nI_add, nI_0, q_off, q_self, q_oth, cst_2, st_2, ↓reduceIte, f_X8_cellAt, f_X8_roadAt, q_le1, q_nle1, q_le2, q_nle2, q_le5, q_nle5, q_le6, q_nle6, q_le8, q_nle8, q_le12, q_nle12, q_le25, q_nle25, q_le36, q_nle36, q_le60, q_nle60, q_le99, q_nle99, q_le100, q_nle100, q_le300, q_nle300, q_le640, q_nle640, q_le411, q_nle411, q_mul2, q_lmul2, q_mul3, q_lmul3, q_mul5, q_lmul5, q_mul6, q_lmul6, q_mul10, q_lmul10, q_add1, q_ladd1, q_add2, q_ladd2, q_add3, q_ladd3, q_add5, q_ladd5, q_add6, q_ladd6, q_add100, q_ladd100, q_div2, q_rem2, q_div3, q_rem3, q_div6, q_rem6, q_div10, q_rem10, Nat.mul_comm i 5, e2, show b01 true = 1 from rfl, q_10, e4, b4, nk]
  · rintro n ⟨m, s, u⟩ ⟨f, X, hs, hu⟩
    change s = _ at hs
    refine ⟨m, u, f, hu, ?_⟩
    show g_X8_fits_49 (nI i) (nI j) x _ s u (nI 31) m = _
    unfold g_X8_fits_49
    rw [if_pos (by decide), hs]
    by_cases z : x = 0
    · rw [if_pos z, if_pos z]
    · rw [if_neg z, if_neg z]
def c_dn (t : Nat) : Int32 := if t ≤ 30 then nI (30 - t) else -1
theorem c_dn_s : ∀ t, t < 31 → c_dn t + (-1) = c_dn (t + 1) := by decide +kernel
theorem c_dn_n : ∀ t, t < 31 → ¬ c_dn t < 0 := by decide +kernel
theorem x9_fitsG {G : TG} {μ : Mem} {r : TR} (hr : r.1 ≤ 5) (hok : row_ok r) (hR : MRw 20 131 r μ) (hG : g_ok G) {i j : Nat} (hi : i < 5) (hj : j < 5) (hM : MG G μ) {w : Nat → Bool} (hw : ∀ y, g_w G (5 * i + j) (g_fit r) y (w y)) (x : Int32) : ∃ m1 μ' y, f_X9_minds μ = some m1 ∧ fr ZA μ μ' ∧ c_lo w 0 31 y ∧ f_X9_fits_48 (nI i) (nI j) x FU (μ.1 126 (5 * i + j)) 0 (-5) 30 m1 = some (if x = 0 then nI (t_ctr w 31) else y, μ') := by
  obtain ⟨m1, e1, f1, mi⟩ := x9_minds μ
  have M1 := MG_fr hM f1 (fun c j q => by unfold DA; omega)
  have R1 : MRw 20 131 r m1 := MRw_fr hR f1 (fun c j q => by unfold DA; omega)
  have key := q_loop0 (fun n t (s : Mem × Int32 × Int32) => f_X9_fits_48 (nI i) (nI j) x n (μ.1 126 (5 * i + j)) s.2.1 s.2.2 (c_dn t) s.1) 31 (by omega)
    (fun t s => fr (fun c p => ZX c p ∨ (c = 126 ∧ p = 5 * i + j)) m1 s.1 ∧ (∀ y, MG (g_bs G (5 * i + j) y) (st s.1 126 (5 * i + j) y)) ∧ s.2.1 = nI (t_ctr w 31 - t_ctr w (31 - t)) ∧ c_lo w (31 - t) 31 s.2.2)
    (fun z => ∃ μ' y, fr ZA μ μ' ∧ c_lo w 0 31 y ∧ z = some (if x = 0 then nI (t_ctr w 31) else y, μ')) ?_ ?_ (m1, 0, -5) ⟨fr_refl _ _, fun y => MG_bs M1 _ y, by rw [show 31 - 0 = 31 from rfl, Nat.sub_self]; rfl, Or.inl ⟨rfl, fun b _ h => by omega⟩⟩
  · obtain ⟨μ', y, a, b, c⟩ := key
    exact ⟨m1, μ', y, e1, a, b, c⟩
  · rintro n t ⟨m, s, u⟩ ht ⟨f, X, hs, hu⟩
    change s = _ at hs
    change c_lo w (31 - t) 31 u at hu
    change fr (fun c p => ZX c p ∨ (c = 126 ∧ p = 5 * i + j)) m1 m at f
    right
    obtain ⟨rr, m2, e2, f2, X2, ho⟩ := x9_tried hG X (y := 30 - t) (by omega)
    change f_X9_thinks 1 1 (st m 126 (5 * i + j) (nI (30 - t))) = _ at e2
    have dn : c_dn t = nI (30 - t) := by unfold c_dn; rw [if_pos (by omega)]
    rw [← dn] at e2
    have nn := c_dn_n t ht
    have sn := c_dn_s t ht
    have s31 : 31 - (t + 1) = 30 - t := by omega
    have s30 : 31 - t = (30 - t) + 1 := by omega
    have ctr := c_ctr w (30 - t)
    rw [← s30] at ctr
    have mono := t_ctr_mono w (31 - t) t
    rw [show 31 - t + t = 31 by omega] at mono
    have keep : w (30 - t) = false → c_lo w (31 - (t + 1)) 31 u ∧ s = nI (t_ctr w 31 - t_ctr w (31 - (t + 1))) := by
      intro w0
      refine ⟨?_, ?_⟩
      · rcases hu with ⟨a1, a2⟩ | ⟨b, b1, b2, b3, b4, b5⟩
        · refine Or.inl ⟨a1, fun b h1 h2 => ?_⟩
          by_cases q : b = 30 - t
          · subst q; exact w0
          · exact a2 b (by omega) h2
        · refine Or.inr ⟨b, by omega, b2, b3, b4, fun c h1 h2 => ?_⟩
          by_cases q : c = 30 - t
          · subst q; exact w0
          · exact b5 c (by omega) h2
      · rw [hs, s31, ctr, w0, if_neg (by decide)]; rfl
    rcases ho with ⟨rn, no⟩ | ⟨rn, A, a, c⟩
    · have hw0 := g_w_no (hw (30 - t)) no
      obtain ⟨k1, k2⟩ := keep hw0
      refine ⟨(m2, s, u), ⟨fr_then f f2, X2, k2, k1⟩, ?_⟩
      show g_X9_fits_48 (nI i) (nI j) x _ (μ.1 126 (5 * i + j)) s u (c_dn t) m = _
      unfold g_X9_fits_48
      rw [if_neg nn]
      simp (disch := omega) only [lt_k, bnv_s, bnd_s, grd_t, q_in, q_inb, q_c, q_leT, q_leF, q_ltT, q_ltF, q_neg, q_nn, q_z, q_le0, q_b0, q_b1, nI_add, nI_0, q_off, q_self, q_oth, cst_2, st_2, ↓reduceIte, f_X8_cellAt, f_X8_roadAt, q_le1, q_nle1, q_le2, q_nle2, q_le5, q_nle5, q_le6, q_nle6, q_le8, q_nle8, q_le12, q_nle12, q_le25, q_nle25, q_le36, q_nle36, q_le60, q_nle60, q_le99, q_nle99, q_le100, q_nle100, q_le300, q_nle300, q_le640, q_nle640, q_le411, q_nle411, q_mul2, q_lmul2, q_mul3, q_lmul3, q_mul5, q_lmul5, q_mul6, q_lmul6, q_mul10, q_lmul10, q_add1, q_ladd1, q_add2, q_ladd2, q_add3, q_ladd3, q_add5, q_ladd5, q_add6, q_ladd6, q_add100, q_ladd100, q_div2, q_rem2, q_div3, q_rem3, q_div6, q_rem6, q_div10, q_rem10, e2, rn, sn]
    · have hwA := g_w_at (hw (30 - t)) a
      have R2 : MRw 20 131 r m2 := MRw_fr R1 (fr_then f f2) (fun c j q => by unfold ZX; omega)
      obtain ⟨b, e4, hb⟩ := x9_allSeen R2 hr hok c
      cases b
      · have hw0 : w (30 - t) = false := by
          cases q : w (30 - t)
          · rfl
          · have := hb.mpr (hwA.mp q); cases this
        obtain ⟨k1, k2⟩ := keep hw0
        refine ⟨(m2, s, u), ⟨fr_then f f2, X2, k2, k1⟩, ?_⟩
        show g_X9_fits_48 (nI i) (nI j) x _ (μ.1 126 (5 * i + j)) s u (c_dn t) m = _
        unfold g_X9_fits_48
        rw [if_neg nn]
        simp (disch := omega) only [lt_k, bnv_s, bnd_s, grd_t, q_in, q_inb, q_c, q_leT, q_leF, q_ltT, q_ltF, q_neg, q_nn, q_z, q_le0, q_b0, q_b1, nI_add, nI_0, q_off, q_self, q_oth, cst_2, st_2, ↓reduceIte, f_X8_cellAt, f_X8_roadAt, q_le1, q_nle1, q_le2, q_nle2, q_le5, q_nle5, q_le6, q_nle6, q_le8, q_nle8, q_le12, q_nle12, q_le25, q_nle25, q_le36, q_nle36, q_le60, q_nle60, q_le99, q_nle99, q_le100, q_nle100, q_le300, q_nle300, q_le640, q_nle640, q_le411, q_nle411, q_mul2, q_lmul2, q_mul3, q_lmul3, q_mul5, q_lmul5, q_mul6, q_lmul6, q_mul10, q_lmul10, q_add1, q_ladd1, q_add2, q_ladd2, q_add3, q_ladd3, q_add5, q_ladd5, q_add6, q_ladd6, q_add100, q_ladd100, q_div2, q_rem2, q_div3, q_rem3, q_div6, q_rem6, q_div10, q_rem10, e2, rn, sn, e4, b01_f]
      · have hw1 : w (30 - t) = true := hwA.mpr (hb.mp rfl)
        refine ⟨(m2, s + 1, nI (30 - t)), ⟨fr_then f f2, X2, ?_, Or.inr ⟨30 - t, by omega, by omega, hw1, rfl, fun c h1 h2 => by omega⟩⟩, ?_⟩
        · show s + 1 = _
          rw [hs, q_add1, s31]
          rw [hw1, if_pos rfl] at ctr
          have e : t_ctr w 31 - t_ctr w (31 - t) + 1 = t_ctr w 31 - t_ctr w (30 - t) := by omega
          rw [e]
        · show g_X9_fits_48 (nI i) (nI j) x _ (μ.1 126 (5 * i + j)) s u (c_dn t) m = _
          unfold g_X9_fits_48
          rw [if_neg nn]
          simp (disch := omega) only [lt_k, bnv_s, bnd_s, grd_t, q_in, q_inb, q_c, q_leT, q_leF, q_ltT, q_ltF, q_neg, q_nn, q_z, q_le0, q_b0, q_b1, nI_add, nI_0, q_off, q_self, q_oth, cst_2, st_2, ↓reduceIte, f_X8_cellAt, f_X8_roadAt, q_le1, q_nle1, q_le2, q_nle2, q_le5, q_nle5, q_le6, q_nle6, q_le8, q_nle8, q_le12, q_nle12, q_le25, q_nle25, q_le36, q_nle36, q_le60, q_nle60, q_le99, q_nle99, q_le100, q_nle100, q_le300, q_nle300, q_le640, q_nle640, q_le411, q_nle411, q_mul2, q_lmul2, q_mul3, q_lmul3, q_mul5, q_lmul5, q_mul6, q_lmul6, q_mul10, q_lmul10, q_add1, q_ladd1, q_add2, q_ladd2, q_add3, q_ladd3, q_add5, q_ladd5, q_add6, q_ladd6, q_add100, q_ladd100, q_div2, q_rem2, q_div3, q_rem3, q_div6, q_rem6, q_div10, q_rem10, e2, rn, sn, e4, show b01 true = 1 from rfl, q_10]
          rw [dn]
  · rintro n ⟨m, s, u⟩ ⟨f, X, hs, hu⟩
    change s = _ at hs
    change fr (fun c p => ZX c p ∨ (c = 126 ∧ p = 5 * i + j)) m1 m at f
    obtain ⟨m3, e3, f3⟩ := x9_back (k := 5 * i + j) (MI_c mi (fr_c f (fun j => by unfold ZX; omega))) (fr_trans f1 f (fun c p h => by unfold DA at h; unfold ZA; omega) (fun c p h => h.elim Or.inl (fun h => Or.inr (Or.inr h))))
    refine ⟨_, u, f3, hu, ?_⟩
    show g_X9_fits_48 (nI i) (nI j) x _ (μ.1 126 (5 * i + j)) s u (c_dn 31) m = _
    unfold g_X9_fits_48
    rw [if_pos (by decide), e3, hs, show 31 - 31 = 0 from rfl, show t_ctr w 31 - t_ctr w 0 = t_ctr w 31 from rfl]
    simp (disch := omega) only [lt_k, bnv_s, bnd_s, grd_t, q_in, q_inb, q_c, q_leT, q_leF, q_ltT, q_ltF, q_neg, q_nn, q_z, q_le0, q_b0, q_b1, nI_add, nI_0, q_off, q_self, q_oth, cst_2, st_2, ↓reduceIte, f_X8_cellAt, f_X8_roadAt, q_le1, q_nle1, q_le2, q_nle2, q_le5, q_nle5, q_le6, q_nle6, q_le8, q_nle8, q_le12, q_nle12, q_le25, q_nle25, q_le36, q_nle36, q_le60, q_nle60, q_le99, q_nle99, q_le100, q_nle100, q_le300, q_nle300, q_le640, q_nle640, q_le411, q_nle411, q_mul2, q_lmul2, q_mul3, q_lmul3, q_mul5, q_lmul5, q_mul6, q_lmul6, q_mul10, q_lmul10, q_add1, q_ladd1, q_add2, q_ladd2, q_add3, q_ladd3, q_add5, q_ladd5, q_add6, q_ladd6, q_add100, q_ladd100, q_div2, q_rem2, q_div3, q_rem3, q_div6, q_rem6, q_div10, q_rem10, ]
    by_cases z : x = 0
    · rw [if_pos z, if_pos z]
    · rw [if_neg z, if_neg z]
theorem st_fits {μ : Mem} (hv : Inv μ) (a1 : Int32) (a2 : Int32) (a3 : Int32) : ∃ r μ1 μ2, f_X8_fits a1 a2 a3 μ = some (r, μ1) ∧ f_X9_fits a1 a2 a3 μ1 = some (r, μ2) ∧ Inv μ2 := by
  obtain ⟨⟨D, hD, hX, hM⟩, hR⟩ := id hv
  unfold f_X8_fits f_X9_fits
  have ex := x0_isRoadG (g := 15) (show XG 15 D.1 μ from hX.1) hD.1 a1 a2
  rcases road_cases D.1 hD.1 a1 a2 with ⟨i, j, hi, hj, rfl, rfl, e1⟩ | e1
  · rw [e1] at ex
    have g1 := hD.1.1
    have g2 := hD.1.2.1
    by_cases h3 : inR a3 0 1 = true
    · obtain ⟨m1, c1, x1, f1⟩ := x0_copyFrom (k := 95) (o := 15) (show XG 15 D.1 μ from hX.1) (by omega)
      obtain ⟨w, hw⟩ := Classical.axiomOfChoice (g_w_ex D.1 (5 * i + j) (g_fit D.2.2.2.1))
      have R1 : XRw 42 5 D.2.2.2.1 m1 := XRw_fr (show XRw 42 5 D.2.2.2.1 μ from hX.2.2.1) f1 (fun c j q => by omega)
      obtain ⟨m2, y, f2, k2, t2⟩ := x8_fitsG hD.2.2.2.1 hD.2.2.2.2.1 R1 hD.1 (i := i) (j := j) (by omega) (by omega) x1 hw a3
      have F : fr SCR μ m2 := fr_trans f1 f2 (fun c j h => by unfold SCR; omega) (fun c j h => h)
      have M := MD_fr hM hD F (fun c j q => by unfold SCR; omega)
      have em := x9_isRoadG M.1 hD.1 (nI i) (nI j)
      rw [e1] at em
      obtain ⟨m3, m4, y', e3, f4, k4, t4⟩ := x9_fitsG hD.2.2.2.1 hD.2.2.2.2.1 M.2.2.1 hD.1 (i := i) (j := j) (by omega) (by omega) M.1 hw a3
      have hy := c_lo_eq k2 k4
      subst hy
      refine ⟨if a3 = 0 then nI (t_ctr w 31) else y, m2, m4, ?_, ?_, Inv_scr (Inv_scr hv F) (fr_mono f4 (fun c j h => by unfold ZA at h; unfold SCR; omega))⟩
      · rw [ex, bnv_s, if_neg (by decide), u8_1, bnv_s, h3, b2i_t, if_neg (by decide), c1, bnv_s]
        exact t2
      · rw [em, bnv_s, if_neg (by decide), i9_1, bnv_s, h3, b2i_t, if_neg (by decide)]
        simp (disch := omega) only [lt_k, bnv_s, bnd_s, grd_t, q_in, q_inb, q_c, q_leT, q_leF, q_ltT, q_ltF, q_neg, q_nn, q_z, q_le0, q_b0, q_b1, nI_add, nI_0, q_off, q_self, q_oth, cst_2, st_2, ↓reduceIte, f_X8_cellAt, f_X8_roadAt, q_le1, q_nle1, q_le2, q_nle2, q_le5, q_nle5, q_le6, q_nle6, q_le8, q_nle8, q_le12, q_nle12, q_le25, q_nle25, q_le36, q_nle36, q_le60, q_nle60, q_le99, q_nle99, q_le100, q_nle100, q_le300, q_nle300, q_le640, q_nle640, q_le411, q_nle411, q_mul2, q_lmul2, q_mul3, q_lmul3, q_mul5, q_lmul5, q_mul6, q_lmul6, q_mul10, q_lmul10, q_add1, q_ladd1, q_add2, q_ladd2, q_add3, q_ladd3, q_add5, q_ladd5, q_add6, q_ladd6, q_add100, q_ladd100, q_div2, q_rem2, q_div3, q_rem3, q_div6, q_rem6, q_div10, q_rem10, e3]
        exact t4
    · have h3' := ff_t h3
      have em := x9_isRoadG hM.1 hD.1 (nI i) (nI j)
      rw [e1] at em
      exact ⟨-1, μ, μ, by rw [ex, bnv_s, if_neg (by decide), u8_1, bnv_s, h3', b2i_f, if_pos rfl], by rw [em, bnv_s, if_neg (by decide), i9_1, bnv_s, h3', b2i_f, if_pos rfl], hv⟩
  · rw [e1] at ex
    have em := x9_isRoadG hM.1 hD.1 a1 a2
    rw [e1] at em
    exact ⟨-1, μ, μ, by rw [ex, bnv_s, if_pos rfl], by rw [em, bnv_s, if_pos rfl], hv⟩
