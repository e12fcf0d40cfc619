/-! THE CALLS: rise: the class's rounds */ -/
theorem x8_riseG {S T i j : Nat} {cost w : Nat → Int32} {A : TA} {K : Nat → Bool} {m : Mem} (ok : t_ok S T cost A) (hi : i < 6) (hj : j < 6) (hB : A.2.2.1 (6 * i + j) = true) (h1000 : (cost (6 * i + j)).toInt ≤ 1000) (hK : t_brk A.2.2.1 (6 * i + j) K) (W : t_W S T A.2.2.1 cost w) (hn : t_none S T (t_sp cost w) 36) (x : XR 102 S T cost A m) :
    ∃ n m', f_X8_rise_66 (nI i) (nI j) FU 0 m = some (nI n, m') ∧ fr SCR m m' ∧ n ≤ 99 ∧ rs_at S T K (6 * i + j) (t_sp cost w) n ∧ (n < 99 → ¬ rs_at S T K (6 * i + j) (t_sp cost w) (n + 1)) := by
  have u0 : upd cost (6 * i + j) (cost (6 * i + j) + nI 0) = cost := by
    rw [nI_0, Int32.add_zero, upd_same]
  have a0 : rs_at S T K (6 * i + j) (t_sp cost w) 0 := by
    intro c hc hp _ _ _
    have := hn c hc hp
    rw [Int32.lt_iff_toInt_lt, show (0 : Int32).toInt = 0 from rfl] at this
    omega
  refine q_loop0 (fun n r s => f_X8_rise_66 (nI i) (nI j) n (nI r) s) 99 (by omega) (fun r s => fr SCR m s ∧ XR 102 S T (upd cost (6 * i + j) (cost (6 * i + j) + nI r)) A s ∧ rs_at S T K (6 * i + j) (t_sp cost w) r)
    (fun z => ∃ n m', z = some (nI n, m') ∧ fr SCR m m' ∧ n ≤ 99 ∧ rs_at S T K (6 * i + j) (t_sp cost w) n ∧ (n < 99 → ¬ rs_at S T K (6 * i + j) (t_sp cost w) (n + 1))) ?_ ?_ m ⟨fr_refl _ _, by rw [u0]; exact x, a0⟩
  · rintro n r s hr ⟨f, xs, ra⟩
    obtain ⟨m1, b, m2, e1, e2, x2, f2, hb⟩ := x3_dear ok (by omega) hB h1000 hr xs
    have hb' := hb.trans (rs_stop ok (by omega) hB hK W hn (by omega) x2.2.2.2.2.2.2.1)
    have l99 : ¬ (99 : Int32) ≤ nI r := by
      rw [Int32.le_iff_toInt_le, nI_i (by omega), show (99 : Int32).toInt = 99 from rfl]; omega
    have eh : f_X8_rise_66 (nI i) (nI j) (n + 1) (nI r) s = if b01 b = 0 then some (nI r, m2) else f_X8_rise_66 (nI i) (nI j) n (nI (r + 1)) m2 := by
      show g_X8_rise_66 (nI i) (nI j) _ (nI r) s = _
      unfold g_X8_rise_66
      rw [if_neg l99]
      simp (disch := omega) only [lt_k, bnv_s, bnd_s, grd_t, q_in, q_inb, q_c, q_leT, q_leF, q_ltT, q_ltF, q_neg, q_nn, q_z, q_le0, q_b0, q_b1, nI_add, nI_0, q_off, q_self, q_oth, cst_2, st_2, ↓reduceIte, f_X8_cellAt, f_X8_roadAt, q_le1, q_nle1, q_le2, q_nle2, q_le5, q_nle5, q_le6, q_nle6, q_le8, q_nle8, q_le12, q_nle12, q_le25, q_nle25, q_le36, q_nle36, q_le60, q_nle60, q_le99, q_nle99, q_le100, q_nle100, q_le300, q_nle300, q_le640, q_nle640, q_le411, q_nle411, q_mul2, q_lmul2, q_mul3, q_lmul3, q_mul5, q_lmul5, q_mul6, q_lmul6, q_mul10, q_lmul10, q_add1, q_ladd1, q_add2, q_ladd2, q_add3, q_ladd3, q_add5, q_ladd5, q_add6, q_ladd6, q_add100, q_ladd100, q_div2, q_rem2, q_div3, q_rem3, q_div6, q_rem6, q_div10, q_rem10, Nat.mul_comm i 6, e1, e2]
    cases b
    · left
      refine ⟨r, m2, ?_, fr_then f f2, by omega, ra, fun _ h => by have := hb'.mpr h; cases this⟩
      show f_X8_rise_66 (nI i) (nI j) (n + 1) (nI r) s = _
      rw [eh, b01_f, if_pos rfl]
    · right
      refine ⟨m2, ⟨fr_then f f2, x2, hb'.mp rfl⟩, ?_⟩
      show f_X8_rise_66 (nI i) (nI j) (n + 1) (nI r) s = _
      rw [eh, show b01 true = 1 from rfl, if_neg (by decide)]
  · rintro n s ⟨f, xs, ra⟩
    refine ⟨99, s, ?_, f, by omega, ra, fun h => by omega⟩
    show g_X8_rise_66 (nI i) (nI j) _ (nI 99) s = _
    unfold g_X8_rise_66
    rw [if_pos (by decide)]
    rfl
