/-! THE PURE PART: the class has started a plan -/
theorem t_ctr_cnt (f : Nat → Bool) : ∀ n, t_ctr f n + t_cnt f n = n
  | 0 => rfl
  | n + 1 => by
    have := t_ctr_cnt f n
    unfold t_ctr t_cnt
    by_cases q : f n = true
    · rw [if_pos q, if_pos q]; omega
    · rw [if_neg q, if_neg q]; omega
theorem g_ctr {G : TG} (h : g_ok G) : t_ctr (g_O G) 12 = g_S G + g_T G ∧ t_ctr (g_O G) 6 = g_S G ∧ t_sinks (g_O G) = g_T G := by
  obtain ⟨s1, s2, s3, s4⟩ := g_S6 h
  have a := t_ctr_cnt (g_O G) 12
  have b := t_cnt_nd (S := g_S G) (T := g_T G) s1 s3
  change t_cnt (g_O G) 12 + g_S G + g_T G = 12 at b
  have c6 : ∀ (n m : Nat) (f : Nat → Bool), n ≤ m → (∀ v, v < m → (f v = true ↔ v < n)) → t_ctr f m = n := by
    intro n m
    induction m with
    | zero => intro f hn _; unfold t_ctr; omega
    | succ m ih =>
      intro f hn hf
      unfold t_ctr
      by_cases q : n = m + 1
      · subst q
        have hm := (hf m (by omega)).mpr (by omega)
        rw [if_pos hm]
        have : t_ctr f m = m := by
          have := t_ctr_cnt f m
          have z : t_cnt f m = 0 := by
            have := t_cnt_mono (f := fun _ => true) (g := f) m (fun k hk _ => (hf k (by omega)).mpr (by omega))
            have z2 : ∀ m, t_cnt (fun _ => true) m = 0 := by
              intro m
              induction m with
              | zero => rfl
              | succ m ih => unfold t_cnt; rw [ih, if_pos rfl]
            rw [z2] at this; omega
          omega
        omega
      · rw [ih f (by omega) (fun v hv => hf v (by omega)), if_neg (fun e => by have := (hf m (by omega)).mp e; omega)]; rfl
  refine ⟨by omega, c6 _ _ _ s1 (fun v hv => ?_), c6 _ _ _ s3 (fun v hv => ?_)⟩
  · rw [g_O_nd]; unfold t_nd; omega
  · show g_O G (6 + v) = true ↔ _
    rw [g_O_nd]; unfold t_nd; omega
def t_A0 (s : TS) : TA := (0, s.2.2.2, s.2.2.1, fun _ => 0, fun _ => 0, fun _ => 0)
theorem x3_startOn {k g : Nat} {G : TG} {μ : Mem} (rule : Int32) (hX : XG g G μ) (hG : g_ok G) (hQ : 0 < G.1) (hW : 0 < G.2.1) (hsep : g + 7 ≤ k) :
    ∃ μ' s', f_X3_startOn k g rule μ = some μ' ∧ fr (KB k) μ μ' ∧ (∃ f, t_srun rule (g_cost G) f (g_st G) s') ∧ t_ok (g_S G) (g_T G) (g_cost G) (t_A0 s') ∧ μ'.1 k 0 = 1 ∧ XR k (g_S G) (g_T G) (g_cost G) (t_A0 s') μ' := by
  obtain ⟨s1, s2, s3, s4⟩ := g_S6 hG
  obtain ⟨c1, c2, c3⟩ := g_ctr hG
  obtain ⟨m1, e1, f1, o0, o1, o2, o3, xo, o14, o15⟩ := x2_openAll (o := k + 11) hX hG (by omega)
  have hX1 := XG_fr hX f1 (fun c j a b => by unfold QA; omega)
  obtain ⟨m2, e2, f2, l1, l2, l3, l4, l5⟩ := x3_layCells (k := k) hX1 hG hsep o0 o1 s1 s3
  have f12 : fr (KB k) μ m2 := fr_trans f1 f2 (fun c j h => by unfold QA at h; unfold KB; omega) (fun c j h => by unfold RA at h; unfold KB; omega)
  have hxs : XS k (g_S G) (g_T G) (g_cost G) (g_st G) m2 := by
    refine ⟨l1, l2, l3, fun v hv => ?_, ?_, ?_, ?_, ?_, fun v hv => ?_, fun v hv => ?_, fun c hc => l4 c hc, l5⟩
    · rw [f2.2 _ _ (by unfold RA; omega), f2.2 _ _ (by unfold RA; omega)]; exact xo v hv
    · rw [f2.2 _ _ (by unfold RA; omega)]; exact o0
    · rw [f2.2 _ _ (by unfold RA; omega)]; exact o1
    · rw [f2.2 _ _ (by unfold RA; omega), o2]; show _ = nI (t_ctr (g_O G) 6); rw [c2]
    · rw [f2.2 _ _ (by unfold RA; omega), o3]; show _ = nI (t_sinks (g_O G)); rw [c3]
    · rw [f2.2 _ _ (by unfold RA; omega)]; exact o14 v hv
    · rw [f2.2 _ _ (by unfold RA; omega)]; exact o15 v hv
  have hcok := g_cost_ok hG (g_S G) (g_T G)
  have eh : f_X3_startOn k g rule μ = f_X3_startOn_15 k g rule FU 0 m2 := by
    unfold f_X3_startOn
    rw [e1, bnv_s, e2, bnv_s]
  rw [eh]
  clear eh
  -- the end
  have fin : ∀ (s : TS) (m : Mem), t_sok (g_S G) (g_T G) s → XS k (g_S G) (g_T G) (g_cost G) s m → fr (KB k) μ m → t_sinks s.1 = 0 → (∃ f, t_srun rule (g_cost G) f (g_st G) s) →
      ∃ μ', bnv (f_X3_reckonWorths k (st m k 0 1)) (fun μ8 => some μ8) = some μ' ∧ fr (KB k) μ μ' ∧ (∃ f, t_srun rule (g_cost G) f (g_st G) s) ∧ t_ok (g_S G) (g_T G) (g_cost G) (t_A0 s) ∧ μ'.1 k 0 = 1 ∧ XR k (g_S G) (g_T G) (g_cost G) (t_A0 s) μ' := by
    intro s m hs hx hf h0 hr
    obtain ⟨a1, a2, a3, a4, a5, a6, a7, a8, a9, a10, a11, a12⟩ := hx
    have hok := t_sok_end hs (by omega) (by omega) h0 (g_cost G) hcok (fun _ => 0) (fun _ => 0) (fun _ => 0)
    have y1 : (st m k 0 1).1 k 1 = nI (g_S G) := by simp (disch := omega) only [lt_k, bnv_s, bnd_s, grd_t, q_in, q_inb, q_c, q_leT, q_leF, q_ltT, q_ltF, q_neg, q_nn, q_z, q_le0, q_b0, q_b1, nI_add, nI_0, q_off, q_self, q_oth, cst_2, st_2, ↓reduceIte, f_X8_cellAt, f_X8_roadAt, q_le1, q_nle1, q_le2, q_nle2, q_le5, q_nle5, q_le6, q_nle6, q_le8, q_nle8, q_le12, q_nle12, q_le25, q_nle25, q_le36, q_nle36, q_le60, q_nle60, q_le99, q_nle99, q_le100, q_nle100, q_le300, q_nle300, q_le640, q_nle640, q_le411, q_nle411, q_mul2, q_lmul2, q_mul3, q_lmul3, q_mul5, q_lmul5, q_mul6, q_lmul6, q_mul10, q_lmul10, q_add1, q_ladd1, q_add2, q_ladd2, q_add3, q_ladd3, q_add5, q_ladd5, q_add6, q_ladd6, q_add100, q_ladd100, q_div2, q_rem2, q_div3, q_rem3, q_div6, q_rem6, q_div10, q_rem10, a1]
    have y2 : (st m k 0 1).1 k 2 = nI (g_T G) := by simp (disch := omega) only [lt_k, bnv_s, bnd_s, grd_t, q_in, q_inb, q_c, q_leT, q_leF, q_ltT, q_ltF, q_neg, q_nn, q_z, q_le0, q_b0, q_b1, nI_add, nI_0, q_off, q_self, q_oth, cst_2, st_2, ↓reduceIte, f_X8_cellAt, f_X8_roadAt, q_le1, q_nle1, q_le2, q_nle2, q_le5, q_nle5, q_le6, q_nle6, q_le8, q_nle8, q_le12, q_nle12, q_le25, q_nle25, q_le36, q_nle36, q_le60, q_nle60, q_le99, q_nle99, q_le100, q_nle100, q_le300, q_nle300, q_le640, q_nle640, q_le411, q_nle411, q_mul2, q_lmul2, q_mul3, q_lmul3, q_mul5, q_lmul5, q_mul6, q_lmul6, q_mul10, q_lmul10, q_add1, q_ladd1, q_add2, q_ladd2, q_add3, q_ladd3, q_add5, q_ladd5, q_add6, q_ladd6, q_add100, q_ladd100, q_div2, q_rem2, q_div3, q_rem3, q_div6, q_rem6, q_div10, q_rem10, a2]
    have hB : bb ((st m k 0 1).1 (k + 3)) = s.2.2.1 := b01_bb (fun c hc => by rw [q_off _ _ _ (by omega)]; exact (a11 c hc).2) hok.2.2.2.2.2.1
    have hco : ∀ c, c < 36 → t_pl (g_S G) (g_T G) c → (st m k 0 1).1 (k + 1) c = g_cost G c := fun c hc hp => by rw [q_off _ _ _ (by omega)]; exact a12 c hc hp
    obtain ⟨m', e, f, w⟩ := x3_reckon y1 y2 (by rw [hB]; exact hok.1) (fun c hc a b => by rw [hco c hc ⟨a, b⟩]; exact hcok c hc a b)
    rw [hB] at w
    refine ⟨m', by rw [e, bnv_s], fr_then hf (fr_trans (fr_st (A := KB k) (by unfold KB; omega)) f (fun c j h => h) (fun c j h => by unfold XA at h; unfold KB; omega)), hr, hok, ?_, ?_, ?_, ?_, fun c hc => ?_, fun c hc => ?_, fun c hc hp => ?_, t_W_congr hok.1 hco w, fun j hj => by change j < 0 at hj; omega⟩
    · rw [f.2 _ _ (by unfold XA; omega), q_self]
    · rw [f.2 _ _ (by unfold XA; omega)]; exact y1
    · rw [f.2 _ _ (by unfold XA; omega)]; exact y2
    · rw [f.2 _ _ (by unfold XA; omega), q_oth _ _ _ (by omega), a3]; rfl
    · rw [f.2 _ _ (by unfold XA; omega), q_off _ _ _ (by omega)]; exact (a11 c hc).1
    · rw [f.2 _ _ (by unfold XA; omega), q_off _ _ _ (by omega)]; exact (a11 c hc).2
    · rw [f.2 _ _ (by unfold XA; omega)]; exact hco c hc hp
  refine q_loop0 (fun n i (s : Mem) => f_X3_startOn_15 k g rule n (nI i) s) (g_S G + g_T G) (by omega)
    (fun i m => ∃ s, t_sok (g_S G) (g_T G) s ∧ XS k (g_S G) (g_T G) (g_cost G) s m ∧ fr (KB k) μ m ∧ t_ctr s.1 12 + i ≤ g_S G + g_T G ∧ ∀ f s'', t_srun rule (g_cost G) f s s'' → ∃ f', t_srun rule (g_cost G) f' (g_st G) s'')
    (fun z => ∃ μ' s', z = some μ' ∧ fr (KB k) μ μ' ∧ (∃ f, t_srun rule (g_cost G) f (g_st G) s') ∧ t_ok (g_S G) (g_T G) (g_cost G) (t_A0 s') ∧ μ'.1 k 0 = 1 ∧ XR k (g_S G) (g_T G) (g_cost G) (t_A0 s') μ') ?_ ?_ m2
    ⟨g_st G, g_st_ok hG hQ hW, hxs, f12, by show t_ctr (g_O G) 12 + 0 ≤ _; omega, fun f s'' h => ⟨f, h⟩⟩
  · rintro n i m hi ⟨s, p1, p2, p3, p4, p5⟩
    by_cases h0 : t_sinks s.1 = 0
    · left
      obtain ⟨μ', r1, r2⟩ := fin s m p1 p2 p3 h0 (p5 0 s ⟨h0, rfl⟩)
      refine ⟨μ', s, ?_, r2⟩
      show g_X3_startOn_15 k g rule _ (nI i) m = _
      unfold g_X3_startOn_15
      have a8 := p2.2.2.2.2.2.2.2.1
      rw [h0] at a8
      simp (disch := omega) only [lt_k, bnv_s, bnd_s, grd_t, q_in, q_inb, q_c, q_leT, q_leF, q_ltT, q_ltF, q_neg, q_nn, q_z, q_le0, q_b0, q_b1, nI_add, nI_0, q_off, q_self, q_oth, cst_2, st_2, ↓reduceIte, f_X8_cellAt, f_X8_roadAt, q_le1, q_nle1, q_le2, q_nle2, q_le5, q_nle5, q_le6, q_nle6, q_le8, q_nle8, q_le12, q_nle12, q_le25, q_nle25, q_le36, q_nle36, q_le60, q_nle60, q_le99, q_nle99, q_le100, q_nle100, q_le300, q_nle300, q_le640, q_nle640, q_le411, q_nle411, q_mul2, q_lmul2, q_mul3, q_lmul3, q_mul5, q_lmul5, q_mul6, q_lmul6, q_mul10, q_lmul10, q_add1, q_ladd1, q_add2, q_ladd2, q_add3, q_ladd3, q_add5, q_ladd5, q_add6, q_ladd6, q_add100, q_ladd100, q_div2, q_rem2, q_div3, q_rem3, q_div6, q_rem6, q_div10, q_rem10, p2.1, p2.2.1, a8, show ((0 : Int32) ≤ 0) = True from eq_true (by decide)]
      exact r1
    · right
      obtain ⟨c, m', hpk, e, f, x⟩ := x3_pick rule p1 hcok p2 (by omega) (f_X3_startOn_15 k g rule n) i g hi
      obtain ⟨ho1, ho2⟩ := t_pk_open hpk
      obtain ⟨q1, q2⟩ := t_nx_ok p1 ho1 ho2
      refine ⟨m', ⟨t_nx s c, q1, x, fr_then p3 f, by omega, fun f s'' h => p5 (f + 1) s'' (Or.inr ⟨by omega, c, hpk, h⟩)⟩, e⟩
  · rintro n m ⟨s, p1, p2, p3, p4, p5⟩
    obtain ⟨u, hu, hu2⟩ := t_ctr_ex 6 p1.2.2.2.1
    have := t_ctr_pos hu2 12 (by omega)
    omega
