def m8 : Mem := (fun k => if k < 2 then (fun _ => 0) else if k < 4 then m7.1 (k - 2) else if k < 6 then m7.1 (k - 4) else if k < 8 then m7.1 (k - 6) else if k < 10 then m7.1 (k - 8) else if k < 12 then m7.1 (k - 10) else if k < 14 then m7.1 (k - 12) else if k < 51 then m6.1 (k - 14) else if k < 88 then m6.1 (k - 51) else if k < 95 then (fun _ => 0) else if k < 102 then m0.1 (k - 95) else (fun _ => 0), fun _ _ => 0)
set_option maxRecDepth 100000 in
set_option maxHeartbeats 8000000 in
theorem wteq_8 {D : va_G} {cy : Nat → ClassId} (h0 qt : Nat) (t0 t1 t2 t3 t4 t5 ad2 ad4 ad6 ad8 ad10 : Nat → Nat) : ((([(h0, .inr (8, [.ref (ad2 0), .ref (ad4 0), .int 0, .ref (ad6 0), .ref qt, .ref (ad8 0), .ref (ad10 0)])), (qt, .inl (cy 4, 6, vq (fun i => if i < 6 then some ((fun k => ([h0, qt] : List Nat).getD k (if k < 4 then t0 (k - 2) else if k < 6 then t1 (k - 4) else if k < 8 then t2 (k - 6) else if k < 10 then t3 (k - 8) else if k < 12 then t4 (k - 10) else if k < 14 then t5 (k - 12) else if k < 51 then ad2 (k - 14) else if k < 88 then ad4 (k - 51) else if k < 95 then ad6 (k - 88) else if k < 102 then ad8 (k - 95) else ad10 (k - 102))) (1 + 1 + 2 * i)) else none)))] ++ (wt D cy t0 m7 sTape ++ (wt D cy t1 m7 sTape ++ (wt D cy t2 m7 sTape ++ (wt D cy t3 m7 sTape ++ (wt D cy t4 m7 sTape ++ wt D cy t5 m7 sTape)))))) ++ (wt D cy ad2 m6 sState ++ (wt D cy ad4 m6 sState ++ (wt D cy ad6 mz sSetUp ++ (wt D cy ad8 m0 sGround ++ wt D cy ad10 mz sPlan))))) : va_W) = wt D cy (fun k => ([h0, qt] : List Nat).getD k (if k < 4 then t0 (k - 2) else if k < 6 then t1 (k - 4) else if k < 8 then t2 (k - 6) else if k < 10 then t3 (k - 8) else if k < 12 then t4 (k - 10) else if k < 14 then t5 (k - 12) else if k < 51 then ad2 (k - 14) else if k < 88 then ad4 (k - 51) else if k < 95 then ad6 (k - 88) else if k < 102 then ad8 (k - 95) else ad10 (k - 102))) m8 sStone := by
      rw [wt_wtf (D := D) (cy := cy) (ad := (fun k => ([h0, qt] : List Nat).getD k (if k < 4 then t0 (k - 2) else if k < 6 then t1 (k - 4) else if k < 8 then t2 (k - 6) else if k < 10 then t3 (k - 8) else if k < 12 then t4 (k - 10) else if k < 14 then t5 (k - 12) else if k < 51 then ad2 (k - 14) else if k < 88 then ad4 (k - 51) else if k < 95 then ad6 (k - 88) else if k < 102 then ad8 (k - 95) else ad10 (k - 102)))) (μ := m8) sStone]
      rw [show sStone = ([.inl (8, fs8), .inr (4, 6)] ++ (sTape ++ (sTape ++ (sTape ++ (sTape ++ (sTape ++ (sTape ++ (sState ++ (sState ++ (sSetUp ++ (sGround ++ sPlan)))))))))) : List Shp) from by decide +kernel]
      rw [wtf_app, wtf_app, wtf_app, wtf_app, wtf_app, wtf_app, wtf_app, wtf_app, wtf_app, wtf_app, wtf_app]
      simp only [List.length_cons, List.length_nil, len_sGround, len_sLoop, len_sOpening, len_sPlan, len_sRows, len_sSetUp, len_sState, len_sTape, Nat.zero_add, Nat.reduceAdd]
      have hs0 : wtf D cy (fun k => ([h0, qt] : List Nat).getD k (if k < 4 then t0 (k - 2) else if k < 6 then t1 (k - 4) else if k < 8 then t2 (k - 6) else if k < 10 then t3 (k - 8) else if k < 12 then t4 (k - 10) else if k < 14 then t5 (k - 12) else if k < 51 then ad2 (k - 14) else if k < 88 then ad4 (k - 51) else if k < 95 then ad6 (k - 88) else if k < 102 then ad8 (k - 95) else ad10 (k - 102))) m8 2 sTape = wt D cy t0 m7 sTape := by
        refine wtf_sub sTape (by decide +kernel) (fun k hk => ?_) (fun k hk => ?_) (fun k hk => ?_)
        · replace hk : k < 2 := hk
          show ([h0, qt] : List Nat).getD (2 + k) (if 2 + k < 4 then t0 (2 + k - 2) else if 2 + k < 6 then t1 (2 + k - 4) else if 2 + k < 8 then t2 (2 + k - 6) else if 2 + k < 10 then t3 (2 + k - 8) else if 2 + k < 12 then t4 (2 + k - 10) else if 2 + k < 14 then t5 (2 + k - 12) else if 2 + k < 51 then ad2 (2 + k - 14) else if 2 + k < 88 then ad4 (2 + k - 51) else if 2 + k < 95 then ad6 (2 + k - 88) else if 2 + k < 102 then ad8 (2 + k - 95) else ad10 (2 + k - 102)) = t0 k
          rw [getD_tail (by show 2 ≤ 2 + k; omega)]
          (repeat (first | rw [if_pos (by omega)] | rw [if_neg (by omega)])) <;> exact congrArg t0 (by omega)
        · replace hk : k < 2 := hk
          show m8.1 (2 + k) = m7.1 k
          (simp only [m8]; (repeat (first | rw [if_pos (by omega)] | rw [if_neg (by omega)])) <;> exact congrArg m7.1 (by omega))
        · rfl
      have hs1 : wtf D cy (fun k => ([h0, qt] : List Nat).getD k (if k < 4 then t0 (k - 2) else if k < 6 then t1 (k - 4) else if k < 8 then t2 (k - 6) else if k < 10 then t3 (k - 8) else if k < 12 then t4 (k - 10) else if k < 14 then t5 (k - 12) else if k < 51 then ad2 (k - 14) else if k < 88 then ad4 (k - 51) else if k < 95 then ad6 (k - 88) else if k < 102 then ad8 (k - 95) else ad10 (k - 102))) m8 4 sTape = wt D cy t1 m7 sTape := by
        refine wtf_sub sTape (by decide +kernel) (fun k hk => ?_) (fun k hk => ?_) (fun k hk => ?_)
        · replace hk : k < 2 := hk
          show ([h0, qt] : List Nat).getD (4 + k) (if 4 + k < 4 then t0 (4 + k - 2) else if 4 + k < 6 then t1 (4 + k - 4) else if 4 + k < 8 then t2 (4 + k - 6) else if 4 + k < 10 then t3 (4 + k - 8) else if 4 + k < 12 then t4 (4 + k - 10) else if 4 + k < 14 then t5 (4 + k - 12) else if 4 + k < 51 then ad2 (4 + k - 14) else if 4 + k < 88 then ad4 (4 + k - 51) else if 4 + k < 95 then ad6 (4 + k - 88) else if 4 + k < 102 then ad8 (4 + k - 95) else ad10 (4 + k - 102)) = t1 k
          rw [getD_tail (by show 2 ≤ 4 + k; omega)]
          (repeat (first | rw [if_pos (by omega)] | rw [if_neg (by omega)])) <;> exact congrArg t1 (by omega)
        · replace hk : k < 2 := hk
          show m8.1 (4 + k) = m7.1 k
          (simp only [m8]; (repeat (first | rw [if_pos (by omega)] | rw [if_neg (by omega)])) <;> exact congrArg m7.1 (by omega))
        · rfl
      have hs2 : wtf D cy (fun k => ([h0, qt] : List Nat).getD k (if k < 4 then t0 (k - 2) else if k < 6 then t1 (k - 4) else if k < 8 then t2 (k - 6) else if k < 10 then t3 (k - 8) else if k < 12 then t4 (k - 10) else if k < 14 then t5 (k - 12) else if k < 51 then ad2 (k - 14) else if k < 88 then ad4 (k - 51) else if k < 95 then ad6 (k - 88) else if k < 102 then ad8 (k - 95) else ad10 (k - 102))) m8 6 sTape = wt D cy t2 m7 sTape := by
        refine wtf_sub sTape (by decide +kernel) (fun k hk => ?_) (fun k hk => ?_) (fun k hk => ?_)
        · replace hk : k < 2 := hk
          show ([h0, qt] : List Nat).getD (6 + k) (if 6 + k < 4 then t0 (6 + k - 2) else if 6 + k < 6 then t1 (6 + k - 4) else if 6 + k < 8 then t2 (6 + k - 6) else if 6 + k < 10 then t3 (6 + k - 8) else if 6 + k < 12 then t4 (6 + k - 10) else if 6 + k < 14 then t5 (6 + k - 12) else if 6 + k < 51 then ad2 (6 + k - 14) else if 6 + k < 88 then ad4 (6 + k - 51) else if 6 + k < 95 then ad6 (6 + k - 88) else if 6 + k < 102 then ad8 (6 + k - 95) else ad10 (6 + k - 102)) = t2 k
          rw [getD_tail (by show 2 ≤ 6 + k; omega)]
          (repeat (first | rw [if_pos (by omega)] | rw [if_neg (by omega)])) <;> exact congrArg t2 (by omega)
        · replace hk : k < 2 := hk
          show m8.1 (6 + k) = m7.1 k
          (simp only [m8]; (repeat (first | rw [if_pos (by omega)] | rw [if_neg (by omega)])) <;> exact congrArg m7.1 (by omega))
        · rfl
      have hs3 : wtf D cy (fun k => ([h0, qt] : List Nat).getD k (if k < 4 then t0 (k - 2) else if k < 6 then t1 (k - 4) else if k < 8 then t2 (k - 6) else if k < 10 then t3 (k - 8) else if k < 12 then t4 (k - 10) else if k < 14 then t5 (k - 12) else if k < 51 then ad2 (k - 14) else if k < 88 then ad4 (k - 51) else if k < 95 then ad6 (k - 88) else if k < 102 then ad8 (k - 95) else ad10 (k - 102))) m8 8 sTape = wt D cy t3 m7 sTape := by
        refine wtf_sub sTape (by decide +kernel) (fun k hk => ?_) (fun k hk => ?_) (fun k hk => ?_)
        · replace hk : k < 2 := hk
          show ([h0, qt] : List Nat).getD (8 + k) (if 8 + k < 4 then t0 (8 + k - 2) else if 8 + k < 6 then t1 (8 + k - 4) else if 8 + k < 8 then t2 (8 + k - 6) else if 8 + k < 10 then t3 (8 + k - 8) else if 8 + k < 12 then t4 (8 + k - 10) else if 8 + k < 14 then t5 (8 + k - 12) else if 8 + k < 51 then ad2 (8 + k - 14) else if 8 + k < 88 then ad4 (8 + k - 51) else if 8 + k < 95 then ad6 (8 + k - 88) else if 8 + k < 102 then ad8 (8 + k - 95) else ad10 (8 + k - 102)) = t3 k
          rw [getD_tail (by show 2 ≤ 8 + k; omega)]
          (repeat (first | rw [if_pos (by omega)] | rw [if_neg (by omega)])) <;> exact congrArg t3 (by omega)
        · replace hk : k < 2 := hk
          show m8.1 (8 + k) = m7.1 k
          (simp only [m8]; (repeat (first | rw [if_pos (by omega)] | rw [if_neg (by omega)])) <;> exact congrArg m7.1 (by omega))
        · rfl
      have hs4 : wtf D cy (fun k => ([h0, qt] : List Nat).getD k (if k < 4 then t0 (k - 2) else if k < 6 then t1 (k - 4) else if k < 8 then t2 (k - 6) else if k < 10 then t3 (k - 8) else if k < 12 then t4 (k - 10) else if k < 14 then t5 (k - 12) else if k < 51 then ad2 (k - 14) else if k < 88 then ad4 (k - 51) else if k < 95 then ad6 (k - 88) else if k < 102 then ad8 (k - 95) else ad10 (k - 102))) m8 10 sTape = wt D cy t4 m7 sTape := by
        refine wtf_sub sTape (by decide +kernel) (fun k hk => ?_) (fun k hk => ?_) (fun k hk => ?_)
        · replace hk : k < 2 := hk
          show ([h0, qt] : List Nat).getD (10 + k) (if 10 + k < 4 then t0 (10 + k - 2) else if 10 + k < 6 then t1 (10 + k - 4) else if 10 + k < 8 then t2 (10 + k - 6) else if 10 + k < 10 then t3 (10 + k - 8) else if 10 + k < 12 then t4 (10 + k - 10) else if 10 + k < 14 then t5 (10 + k - 12) else if 10 + k < 51 then ad2 (10 + k - 14) else if 10 + k < 88 then ad4 (10 + k - 51) else if 10 + k < 95 then ad6 (10 + k - 88) else if 10 + k < 102 then ad8 (10 + k - 95) else ad10 (10 + k - 102)) = t4 k
          rw [getD_tail (by show 2 ≤ 10 + k; omega)]
          (repeat (first | rw [if_pos (by omega)] | rw [if_neg (by omega)])) <;> exact congrArg t4 (by omega)
        · replace hk : k < 2 := hk
          show m8.1 (10 + k) = m7.1 k
          (simp only [m8]; (repeat (first | rw [if_pos (by omega)] | rw [if_neg (by omega)])) <;> exact congrArg m7.1 (by omega))
        · rfl
      have hs5 : wtf D cy (fun k => ([h0, qt] : List Nat).getD k (if k < 4 then t0 (k - 2) else if k < 6 then t1 (k - 4) else if k < 8 then t2 (k - 6) else if k < 10 then t3 (k - 8) else if k < 12 then t4 (k - 10) else if k < 14 then t5 (k - 12) else if k < 51 then ad2 (k - 14) else if k < 88 then ad4 (k - 51) else if k < 95 then ad6 (k - 88) else if k < 102 then ad8 (k - 95) else ad10 (k - 102))) m8 12 sTape = wt D cy t5 m7 sTape := by
        refine wtf_sub sTape (by decide +kernel) (fun k hk => ?_) (fun k hk => ?_) (fun k hk => ?_)
        · replace hk : k < 2 := hk
          show ([h0, qt] : List Nat).getD (12 + k) (if 12 + k < 4 then t0 (12 + k - 2) else if 12 + k < 6 then t1 (12 + k - 4) else if 12 + k < 8 then t2 (12 + k - 6) else if 12 + k < 10 then t3 (12 + k - 8) else if 12 + k < 12 then t4 (12 + k - 10) else if 12 + k < 14 then t5 (12 + k - 12) else if 12 + k < 51 then ad2 (12 + k - 14) else if 12 + k < 88 then ad4 (12 + k - 51) else if 12 + k < 95 then ad6 (12 + k - 88) else if 12 + k < 102 then ad8 (12 + k - 95) else ad10 (12 + k - 102)) = t5 k
          rw [getD_tail (by show 2 ≤ 12 + k; omega)]
          (repeat (first | rw [if_pos (by omega)] | rw [if_neg (by omega)])) <;> exact congrArg t5 (by omega)
        · replace hk : k < 2 := hk
          show m8.1 (12 + k) = m7.1 k
          (simp only [m8]; (repeat (first | rw [if_pos (by omega)] | rw [if_neg (by omega)])) <;> exact congrArg m7.1 (by omega))
        · rfl
      have hs6 : wtf D cy (fun k => ([h0, qt] : List Nat).getD k (if k < 4 then t0 (k - 2) else if k < 6 then t1 (k - 4) else if k < 8 then t2 (k - 6) else if k < 10 then t3 (k - 8) else if k < 12 then t4 (k - 10) else if k < 14 then t5 (k - 12) else if k < 51 then ad2 (k - 14) else if k < 88 then ad4 (k - 51) else if k < 95 then ad6 (k - 88) else if k < 102 then ad8 (k - 95) else ad10 (k - 102))) m8 14 sState = wt D cy ad2 m6 sState := by
        refine wtf_sub sState (by decide +kernel) (fun k hk => ?_) (fun k hk => ?_) (fun k hk => ?_)
        · replace hk : k < 37 := hk
          show ([h0, qt] : List Nat).getD (14 + k) (if 14 + k < 4 then t0 (14 + k - 2) else if 14 + k < 6 then t1 (14 + k - 4) else if 14 + k < 8 then t2 (14 + k - 6) else if 14 + k < 10 then t3 (14 + k - 8) else if 14 + k < 12 then t4 (14 + k - 10) else if 14 + k < 14 then t5 (14 + k - 12) else if 14 + k < 51 then ad2 (14 + k - 14) else if 14 + k < 88 then ad4 (14 + k - 51) else if 14 + k < 95 then ad6 (14 + k - 88) else if 14 + k < 102 then ad8 (14 + k - 95) else ad10 (14 + k - 102)) = ad2 k
          rw [getD_tail (by show 2 ≤ 14 + k; omega)]
          (repeat (first | rw [if_pos (by omega)] | rw [if_neg (by omega)])) <;> exact congrArg ad2 (by omega)
        · replace hk : k < 37 := hk
          show m8.1 (14 + k) = m6.1 k
          (simp only [m8]; (repeat (first | rw [if_pos (by omega)] | rw [if_neg (by omega)])) <;> exact congrArg m6.1 (by omega))
        · rfl
      have hs7 : wtf D cy (fun k => ([h0, qt] : List Nat).getD k (if k < 4 then t0 (k - 2) else if k < 6 then t1 (k - 4) else if k < 8 then t2 (k - 6) else if k < 10 then t3 (k - 8) else if k < 12 then t4 (k - 10) else if k < 14 then t5 (k - 12) else if k < 51 then ad2 (k - 14) else if k < 88 then ad4 (k - 51) else if k < 95 then ad6 (k - 88) else if k < 102 then ad8 (k - 95) else ad10 (k - 102))) m8 51 sState = wt D cy ad4 m6 sState := by
        refine wtf_sub sState (by decide +kernel) (fun k hk => ?_) (fun k hk => ?_) (fun k hk => ?_)
        · replace hk : k < 37 := hk
          show ([h0, qt] : List Nat).getD (51 + k) (if 51 + k < 4 then t0 (51 + k - 2) else if 51 + k < 6 then t1 (51 + k - 4) else if 51 + k < 8 then t2 (51 + k - 6) else if 51 + k < 10 then t3 (51 + k - 8) else if 51 + k < 12 then t4 (51 + k - 10) else if 51 + k < 14 then t5 (51 + k - 12) else if 51 + k < 51 then ad2 (51 + k - 14) else if 51 + k < 88 then ad4 (51 + k - 51) else if 51 + k < 95 then ad6 (51 + k - 88) else if 51 + k < 102 then ad8 (51 + k - 95) else ad10 (51 + k - 102)) = ad4 k
          rw [getD_tail (by show 2 ≤ 51 + k; omega)]
          (repeat (first | rw [if_pos (by omega)] | rw [if_neg (by omega)])) <;> exact congrArg ad4 (by omega)
        · replace hk : k < 37 := hk
          show m8.1 (51 + k) = m6.1 k
          (simp only [m8]; (repeat (first | rw [if_pos (by omega)] | rw [if_neg (by omega)])) <;> exact congrArg m6.1 (by omega))
        · rfl
      have hs8 : wtf D cy (fun k => ([h0, qt] : List Nat).getD k (if k < 4 then t0 (k - 2) else if k < 6 then t1 (k - 4) else if k < 8 then t2 (k - 6) else if k < 10 then t3 (k - 8) else if k < 12 then t4 (k - 10) else if k < 14 then t5 (k - 12) else if k < 51 then ad2 (k - 14) else if k < 88 then ad4 (k - 51) else if k < 95 then ad6 (k - 88) else if k < 102 then ad8 (k - 95) else ad10 (k - 102))) m8 88 sSetUp = wt D cy ad6 mz sSetUp := by
        refine wtf_sub sSetUp (by decide +kernel) (fun k hk => ?_) (fun k hk => ?_) (fun k hk => ?_)
        · replace hk : k < 7 := hk
          show ([h0, qt] : List Nat).getD (88 + k) (if 88 + k < 4 then t0 (88 + k - 2) else if 88 + k < 6 then t1 (88 + k - 4) else if 88 + k < 8 then t2 (88 + k - 6) else if 88 + k < 10 then t3 (88 + k - 8) else if 88 + k < 12 then t4 (88 + k - 10) else if 88 + k < 14 then t5 (88 + k - 12) else if 88 + k < 51 then ad2 (88 + k - 14) else if 88 + k < 88 then ad4 (88 + k - 51) else if 88 + k < 95 then ad6 (88 + k - 88) else if 88 + k < 102 then ad8 (88 + k - 95) else ad10 (88 + k - 102)) = ad6 k
          rw [getD_tail (by show 2 ≤ 88 + k; omega)]
          (repeat (first | rw [if_pos (by omega)] | rw [if_neg (by omega)])) <;> exact congrArg ad6 (by omega)
        · replace hk : k < 7 := hk
          show m8.1 (88 + k) = mz.1 k
          (simp only [m8]; (repeat (first | rw [if_pos (by omega)] | rw [if_neg (by omega)])) <;> rfl)
        · rfl
      have hs9 : wtf D cy (fun k => ([h0, qt] : List Nat).getD k (if k < 4 then t0 (k - 2) else if k < 6 then t1 (k - 4) else if k < 8 then t2 (k - 6) else if k < 10 then t3 (k - 8) else if k < 12 then t4 (k - 10) else if k < 14 then t5 (k - 12) else if k < 51 then ad2 (k - 14) else if k < 88 then ad4 (k - 51) else if k < 95 then ad6 (k - 88) else if k < 102 then ad8 (k - 95) else ad10 (k - 102))) m8 95 sGround = wt D cy ad8 m0 sGround := by
        refine wtf_sub sGround (by decide +kernel) (fun k hk => ?_) (fun k hk => ?_) (fun k hk => ?_)
        · replace hk : k < 7 := hk
          show ([h0, qt] : List Nat).getD (95 + k) (if 95 + k < 4 then t0 (95 + k - 2) else if 95 + k < 6 then t1 (95 + k - 4) else if 95 + k < 8 then t2 (95 + k - 6) else if 95 + k < 10 then t3 (95 + k - 8) else if 95 + k < 12 then t4 (95 + k - 10) else if 95 + k < 14 then t5 (95 + k - 12) else if 95 + k < 51 then ad2 (95 + k - 14) else if 95 + k < 88 then ad4 (95 + k - 51) else if 95 + k < 95 then ad6 (95 + k - 88) else if 95 + k < 102 then ad8 (95 + k - 95) else ad10 (95 + k - 102)) = ad8 k
          rw [getD_tail (by show 2 ≤ 95 + k; omega)]
          (repeat (first | rw [if_pos (by omega)] | rw [if_neg (by omega)])) <;> exact congrArg ad8 (by omega)
        · replace hk : k < 7 := hk
          show m8.1 (95 + k) = m0.1 k
          (simp only [m8]; (repeat (first | rw [if_pos (by omega)] | rw [if_neg (by omega)])) <;> exact congrArg m0.1 (by omega))
        · rfl
      have hs10 : wtf D cy (fun k => ([h0, qt] : List Nat).getD k (if k < 4 then t0 (k - 2) else if k < 6 then t1 (k - 4) else if k < 8 then t2 (k - 6) else if k < 10 then t3 (k - 8) else if k < 12 then t4 (k - 10) else if k < 14 then t5 (k - 12) else if k < 51 then ad2 (k - 14) else if k < 88 then ad4 (k - 51) else if k < 95 then ad6 (k - 88) else if k < 102 then ad8 (k - 95) else ad10 (k - 102))) m8 102 sPlan = wt D cy ad10 mz sPlan := by
        refine wtf_sub sPlan (by decide +kernel) (fun k hk => ?_) (fun k hk => ?_) (fun k hk => ?_)
        · replace hk : k < 20 := hk
          show ([h0, qt] : List Nat).getD (102 + k) (if 102 + k < 4 then t0 (102 + k - 2) else if 102 + k < 6 then t1 (102 + k - 4) else if 102 + k < 8 then t2 (102 + k - 6) else if 102 + k < 10 then t3 (102 + k - 8) else if 102 + k < 12 then t4 (102 + k - 10) else if 102 + k < 14 then t5 (102 + k - 12) else if 102 + k < 51 then ad2 (102 + k - 14) else if 102 + k < 88 then ad4 (102 + k - 51) else if 102 + k < 95 then ad6 (102 + k - 88) else if 102 + k < 102 then ad8 (102 + k - 95) else ad10 (102 + k - 102)) = ad10 k
          rw [getD_tail (by show 2 ≤ 102 + k; omega)]
          (repeat (first | rw [if_pos (by omega)] | rw [if_neg (by omega)])) <;> exact congrArg ad10 (by omega)
        · replace hk : k < 20 := hk
          show m8.1 (102 + k) = mz.1 k
          (simp only [m8]; (repeat (first | rw [if_pos (by omega)] | rw [if_neg (by omega)])) <;> rfl)
        · rfl
      rw [hs0, hs1, hs2, hs3, hs4, hs5, hs6, hs7, hs8, hs9, hs10]
      simp only [wtf_cons, wtf_nil, List.nil_append, List.cons_append, List.append_assoc]
      rfl
set_option maxRecDepth 100000 in
set_option maxHeartbeats 8000000 in
theorem n_X8 {l : Launch} {D : va_G} {cy : Nat → ClassId} : CK l yX8_init cX8_init 2 4 83 121 2447 D cy 8 [.null, .null, .int 0, .null, .null, .null, .null] [] sStone m8 := by
  refine e_new (lv := (fun h0 => [(0, .ref h0)])) (by decide) (fun _ => Nat.le_of_ble_eq_true rfl) (fun _ => rfl) (fun h0 p e s m args below meth c ls A C I hAe hP hD hS hl => ?_) rfl
  have hP : va_P D vwCl ((h0, .inr (8, [.null, .null, .int 0, .null, .null, .null, .null])) :: []) s.heap := hP
  have hD : va_D A ((h0, .inr (8, [.null, .null, .int 0, .null, .null, .null, .null])) :: []) := hD
  refine lv_aload_n C.x C.b dX8_init_0 rfl (lv_at hl 0 rfl) ?_
  refine w_objInit u1_20 u1_21 u1_22 C hl.1 dX8_init_1 (by decide) (by decide) ?_
  refine lv_aload_n C.x C.b dX8_init_4 rfl (lv_at hl 0 rfl) ?_
  refine n_obj (ci := 6) (dflt := [.null, .null, .null, .null, .null]) (cells' := 1) (slots' := 5) C rfl cw6 tyX6 tyX6_ok (fun j hj => dfl_6 j hj) u1_23 u1_24 u1_2 rfl rfl (Nat.le_of_ble_eq_true rfl) (Nat.le_of_ble_eq_true rfl) hP hD hS dX8_init_5 (fun q1 H hP hD hS => ?_)
  refine lv_dup C.x C.b dX8_init_8 rfl ?_
  refine h_newN (q := q1) (as := []) (cells' := 37) (slots' := 653) (rest := [.ref q1, .ref h0]) (n_X6) MN_X6 n_RX8_13 C hP hD hS rfl (by decide) hl.1 rfl (Nat.le_of_ble_eq_true rfl) rfl rfl (Nat.le_of_ble_eq_true rfl) (Nat.le_of_ble_eq_true rfl) dX8_init_9 (fun ad2 H locs hadad2 hP1 hD1 hS1 => ?_)
  subst hadad2
  have hP := hP1; have hD := hD1; have hS := hS1; clear hP1 hD1 hS1
  refine q_fin (j := 0) (ty := .object "StoneRoads$State") (v := .ref (ad2 0)) C I.2.2 rfl cw8 tyX8_ok nmX8 (by decide) u2_79 rfl rfl (by decide +kernel) rfl rfl (Nat.le_of_ble_eq_true rfl) (fs' := [.ref (ad2 0), .null, .int 0, .null, .null, .null, .null]) rfl hP hD hS dX8_init_12 (fun H locs hP hD hS => ?_)
  refine lv_aload_n C.x C.b dX8_init_15 rfl (lv_at hl 0 rfl) ?_
  refine n_obj (ci := 6) (dflt := [.null, .null, .null, .null, .null]) (cells' := 38) (slots' := 658) C rfl cw6 tyX6 tyX6_ok (fun j hj => dfl_6 j hj) u1_23 u1_24 u1_2 rfl rfl (Nat.le_of_ble_eq_true rfl) (Nat.le_of_ble_eq_true rfl) hP hD hS dX8_init_16 (fun q3 H hP hD hS => ?_)
  refine lv_dup C.x C.b dX8_init_19 rfl ?_
  refine h_newN (q := q3) (as := []) (cells' := 74) (slots' := 1306) (rest := [.ref q3, .ref h0]) (n_X6) MN_X6 n_RX8_13 C hP hD hS rfl (by decide) hl.1 rfl (Nat.le_of_ble_eq_true rfl) rfl rfl (Nat.le_of_ble_eq_true rfl) (Nat.le_of_ble_eq_true rfl) dX8_init_20 (fun ad4 H locs hadad4 hP1 hD1 hS1 => ?_)
  subst hadad4
  have hP := hP1; have hD := hD1; have hS := hS1; clear hP1 hD1 hS1
  refine q_fin (j := 1) (ty := .object "StoneRoads$State") (v := .ref (ad4 0)) C I.2.2 rfl cw8 tyX8_ok nmX8 (by decide) u2_80 rfl rfl (by decide +kernel) rfl rfl (Nat.le_of_ble_eq_true rfl) (fs' := [.ref (ad2 0), .ref (ad4 0), .int 0, .null, .null, .null, .null]) rfl hP hD hS dX8_init_23 (fun H locs hP hD hS => ?_)
  refine lv_aload_n C.x C.b dX8_init_26 rfl (lv_at hl 0 rfl) ?_
  refine lv_iconst (v := 0) C.x C.b dX8_init_27 (by decide) ?_
  refine q_put (j := 2) (ty := .boolean) (v := .int 0) C rfl cw8 tyX8_ok nmX8 (by decide) u2_81 rfl rfl (by decide +kernel) rfl rfl (Nat.le_of_ble_eq_true rfl) (fs' := [.ref (ad2 0), .ref (ad4 0), .int 0, .null, .null, .null, .null]) rfl hP hD hS dX8_init_28 (fun H locs hP hD hS => ?_)
  refine lv_aload_n C.x C.b dX8_init_31 rfl (lv_at hl 0 rfl) ?_
  refine n_obj (ci := 5) (dflt := [.int 0, .int 0, .null, .int 0, .null, .null, .null, .null, .null]) (cells' := 75) (slots' := 1315) C rfl cw5 tyX5 tyX5_ok (fun j hj => dfl_5 j hj) u2_17 u2_18 u1_10 rfl rfl (Nat.le_of_ble_eq_true rfl) (Nat.le_of_ble_eq_true rfl) hP hD hS dX8_init_32 (fun q5 H hP hD hS => ?_)
  refine lv_dup C.x C.b dX8_init_35 rfl ?_
  refine h_newN (q := q5) (as := []) (cells' := 81) (slots' := 1475) (rest := [.ref q5, .ref h0]) (n_X5) MN_X5 n_RX8_27 C hP hD hS rfl (by decide) hl.1 rfl (Nat.le_of_ble_eq_true rfl) rfl rfl (Nat.le_of_ble_eq_true rfl) (Nat.le_of_ble_eq_true rfl) dX8_init_36 (fun ad6 H locs hadad6 hP1 hD1 hS1 => ?_)
  subst hadad6
  have hP := hP1; have hD := hD1; have hS := hS1; clear hP1 hD1 hS1
  refine q_fin (j := 3) (ty := .object "StoneRoads$SetUp") (v := .ref (ad6 0)) C I.2.2 rfl cw8 tyX8_ok nmX8 (by decide) u2_82 rfl rfl (by decide +kernel) rfl rfl (Nat.le_of_ble_eq_true rfl) (fs' := [.ref (ad2 0), .ref (ad4 0), .int 0, .ref (ad6 0), .null, .null, .null]) rfl hP hD hS dX8_init_39 (fun H locs hP hD hS => ?_)
  refine lv_aload_n C.x C.b dX8_init_42 rfl (lv_at hl 0 rfl) ?_
  refine lv_bipush (v := 6) C.x C.b dX8_init_43 (by decide) ?_
  refine h_anew (N' := 6) (cells' := 82) (slots' := 1481) C u2_54 (by decide) (by decide) (by decide) rfl rfl (Nat.le_of_ble_eq_true rfl) (Nat.le_of_ble_eq_true rfl) hP hD hS dX8_init_45 (fun qt H hP hD hS => ?_)
  refine q_fin (j := 4) (ty := .array (.object "StoneRoads$Tape")) (v := .ref qt) C I.2.2 rfl cw8 tyX8_ok nmX8 (by decide) u2_83 rfl rfl (by decide +kernel) rfl rfl (Nat.le_of_ble_eq_true rfl) (fs' := [.ref (ad2 0), .ref (ad4 0), .int 0, .ref (ad6 0), .ref qt, .null, .null]) rfl hP hD hS dX8_init_48 (fun H locs hP hD hS => ?_)
  refine lv_aload_n C.x C.b dX8_init_51 rfl (lv_at hl 0 rfl) ?_
  refine n_obj (ci := 0) (dflt := [.int 0, .int 0, .null, .null, .null, .null, .null, .null]) (cells' := 83) (slots' := 1489) C rfl cw0 tyX0 tyX0_ok (fun j hj => dfl_0 j hj) u2_56 u1_30 u1_3 rfl rfl (Nat.le_of_ble_eq_true rfl) (Nat.le_of_ble_eq_true rfl) hP hD hS dX8_init_52 (fun q7 H hP hD hS => ?_)
  refine lv_dup C.x C.b dX8_init_55 rfl ?_
  refine h_new (q := q7) (as := []) (cells' := 89) (slots' := 1559) (rest := [.ref q7, .ref h0]) (n_X0) MN_X0 u2_57 C hP hD hS rfl (by decide) hl.1 rfl (Nat.le_of_ble_eq_true rfl) rfl rfl (Nat.le_of_ble_eq_true rfl) (Nat.le_of_ble_eq_true rfl) dX8_init_56 (fun ad8 H locs hadad8 hP1 hD1 hS1 => ?_)
  subst hadad8
  have hP := hP1; have hD := hD1; have hS := hS1; clear hP1 hD1 hS1
  refine q_fin (j := 5) (ty := .object "StoneRoads$Ground") (v := .ref (ad8 0)) C I.2.2 rfl cw8 tyX8_ok nmX8 (by decide) u2_84 rfl rfl (by decide +kernel) rfl rfl (Nat.le_of_ble_eq_true rfl) (fs' := [.ref (ad2 0), .ref (ad4 0), .int 0, .ref (ad6 0), .ref qt, .ref (ad8 0), .null]) rfl hP hD hS dX8_init_59 (fun H locs hP hD hS => ?_)
  refine lv_aload_n C.x C.b dX8_init_62 rfl (lv_at hl 0 rfl) ?_
  refine n_obj (ci := 3) (dflt := [.int 0, .int 0, .int 0, .int 0, .null, .null, .null, .null, .null, .null, .null, .null, .null, .null, .null, .null]) (cells' := 90) (slots' := 1575) C rfl cw3 tyX3 tyX3_ok (fun j hj => dfl_3 j hj) u2_58 u1_79 u1_5 rfl rfl (Nat.le_of_ble_eq_true rfl) (Nat.le_of_ble_eq_true rfl) hP hD hS dX8_init_63 (fun q9 H hP hD hS => ?_)
  refine lv_dup C.x C.b dX8_init_66 rfl ?_
  refine h_newN (q := q9) (as := []) (cells' := 109) (slots' := 2069) (rest := [.ref q9, .ref h0]) (n_X3) MN_X3 n_RX8_47 C hP hD hS rfl (by decide) hl.1 rfl (Nat.le_of_ble_eq_true rfl) rfl rfl (Nat.le_of_ble_eq_true rfl) (Nat.le_of_ble_eq_true rfl) dX8_init_67 (fun ad10 H locs hadad10 hP1 hD1 hS1 => ?_)
  subst hadad10
  have hP := hP1; have hD := hD1; have hS := hS1; clear hP1 hD1 hS1
  refine q_fin (j := 6) (ty := .object "StoneRoads$Plan") (v := .ref (ad10 0)) C I.2.2 rfl cw8 tyX8_ok nmX8 (by decide) u2_85 rfl rfl (by decide +kernel) rfl rfl (Nat.le_of_ble_eq_true rfl) (fs' := [.ref (ad2 0), .ref (ad4 0), .int 0, .ref (ad6 0), .ref qt, .ref (ad8 0), .ref (ad10 0)]) rfl hP hD hS dX8_init_70 (fun H locs hP hD hS => ?_)
  refine lv_iconst (v := 0) C.x C.b dX8_init_73 (by decide) ?_
  refine lv_istore_n (lv' := [(1, .int 0), (0, .ref h0)]) C.x C.b dX8_init_74 rfl hl (by decide) rfl (fun ls hl => ?_)
  refine lv_iload_n C.x C.b dX8_init_75 rfl (lv_at hl 0 rfl) ?_
  refine lv_bipush (v := 6) C.x C.b dX8_init_76 (by decide) ?_
  refine lv_icmp_ge (tgt := 100) C.x C.b dX8_init_78 (by decide) (fun c1 => absurd c1 (by decide)) (fun _ => ?_)
  refine lv_aload_n C.x C.b dX8_init_81 rfl (lv_at hl 1 rfl) ?_
  refine q_get (j := 4) (v := .ref qt) C rfl cw8 (by decide) u2_83 rfl rfl hP dX8_init_82 ?_
  refine lv_iload_n C.x C.b dX8_init_85 rfl (lv_at hl 0 rfl) ?_
  refine n_obj (ci := 7) (dflt := [.int 0, .int 0, .null]) (cells' := 110) (slots' := 2072) C rfl cw7 tyX7 tyX7_ok (fun j hj => dfl_7 j hj) u2_54 u2_60 u1_11 rfl rfl (Nat.le_of_ble_eq_true rfl) (Nat.le_of_ble_eq_true rfl) hP hD hS dX8_init_86 (fun qn0 H hP hD hS => ?_)
  refine lv_dup C.x C.b dX8_init_89 rfl ?_
  refine h_newN (q := qn0) (as := []) (cells' := 111) (slots' := 2132) (rest := [.ref qn0, .int 0, .ref qt]) (n_X7) MN_X7 n_RX8_52 C hP hD hS rfl (by decide) hl.1 rfl (Nat.le_of_ble_eq_true rfl) rfl rfl (Nat.le_of_ble_eq_true rfl) (Nat.le_of_ble_eq_true rfl) dX8_init_90 (fun t0 H locs had hP1 hD1 hS1 => ?_)
  subst had; have hP := hP1; have hD := hD1; have hS := hS1; clear hP1 hD1 hS1
  simp only [List.cons_append] at hP hD
  refine h_aast C (inb_in (i := 0) (n := 6) (by decide)) hP hD hS dX8_init_93 (fun H locs hP hD hS => ?_)
  refine lv_iinc (v := 1) (lv' := [(1, .int 1), (0, .ref h0)]) C.x C.b dX8_init_94 hl (k := 0) rfl (by decide) (by decide) rfl (fun ls hl => ?_)
  refine lv_goto (tgt := 75) C.x C.b dX8_init_97 (by decide) ?_
  refine lv_iload_n C.x C.b dX8_init_75 rfl (lv_at hl 0 rfl) ?_
  refine lv_bipush (v := 6) C.x C.b dX8_init_76 (by decide) ?_
  refine lv_icmp_ge (tgt := 100) C.x C.b dX8_init_78 (by decide) (fun c1 => absurd c1 (by decide)) (fun _ => ?_)
  refine lv_aload_n C.x C.b dX8_init_81 rfl (lv_at hl 1 rfl) ?_
  refine q_get (j := 4) (v := .ref qt) C rfl cw8 (by decide) u2_83 rfl rfl hP dX8_init_82 ?_
  refine lv_iload_n C.x C.b dX8_init_85 rfl (lv_at hl 0 rfl) ?_
  refine n_obj (ci := 7) (dflt := [.int 0, .int 0, .null]) (cells' := 112) (slots' := 2135) C rfl cw7 tyX7 tyX7_ok (fun j hj => dfl_7 j hj) u2_54 u2_60 u1_11 rfl rfl (Nat.le_of_ble_eq_true rfl) (Nat.le_of_ble_eq_true rfl) hP hD hS dX8_init_86 (fun qn1 H hP hD hS => ?_)
  refine lv_dup C.x C.b dX8_init_89 rfl ?_
  refine h_newN (q := qn1) (as := []) (cells' := 113) (slots' := 2195) (rest := [.ref qn1, .int 1, .ref qt]) (n_X7) MN_X7 n_RX8_52 C hP hD hS rfl (by decide) hl.1 rfl (Nat.le_of_ble_eq_true rfl) rfl rfl (Nat.le_of_ble_eq_true rfl) (Nat.le_of_ble_eq_true rfl) dX8_init_90 (fun t1 H locs had hP1 hD1 hS1 => ?_)
  subst had; have hP := hP1; have hD := hD1; have hS := hS1; clear hP1 hD1 hS1
  simp only [List.cons_append] at hP hD
  refine h_aast C (inb_in (i := 1) (n := 6) (by decide)) hP hD hS dX8_init_93 (fun H locs hP hD hS => ?_)
  refine lv_iinc (v := 2) (lv' := [(1, .int 2), (0, .ref h0)]) C.x C.b dX8_init_94 hl (k := 0) rfl (by decide) (by decide) rfl (fun ls hl => ?_)
  refine lv_goto (tgt := 75) C.x C.b dX8_init_97 (by decide) ?_
  refine lv_iload_n C.x C.b dX8_init_75 rfl (lv_at hl 0 rfl) ?_
  refine lv_bipush (v := 6) C.x C.b dX8_init_76 (by decide) ?_
  refine lv_icmp_ge (tgt := 100) C.x C.b dX8_init_78 (by decide) (fun c1 => absurd c1 (by decide)) (fun _ => ?_)
  refine lv_aload_n C.x C.b dX8_init_81 rfl (lv_at hl 1 rfl) ?_
  refine q_get (j := 4) (v := .ref qt) C rfl cw8 (by decide) u2_83 rfl rfl hP dX8_init_82 ?_
  refine lv_iload_n C.x C.b dX8_init_85 rfl (lv_at hl 0 rfl) ?_
  refine n_obj (ci := 7) (dflt := [.int 0, .int 0, .null]) (cells' := 114) (slots' := 2198) C rfl cw7 tyX7 tyX7_ok (fun j hj => dfl_7 j hj) u2_54 u2_60 u1_11 rfl rfl (Nat.le_of_ble_eq_true rfl) (Nat.le_of_ble_eq_true rfl) hP hD hS dX8_init_86 (fun qn2 H hP hD hS => ?_)
  refine lv_dup C.x C.b dX8_init_89 rfl ?_
  refine h_newN (q := qn2) (as := []) (cells' := 115) (slots' := 2258) (rest := [.ref qn2, .int 2, .ref qt]) (n_X7) MN_X7 n_RX8_52 C hP hD hS rfl (by decide) hl.1 rfl (Nat.le_of_ble_eq_true rfl) rfl rfl (Nat.le_of_ble_eq_true rfl) (Nat.le_of_ble_eq_true rfl) dX8_init_90 (fun t2 H locs had hP1 hD1 hS1 => ?_)
  subst had; have hP := hP1; have hD := hD1; have hS := hS1; clear hP1 hD1 hS1
  simp only [List.cons_append] at hP hD
  refine h_aast C (inb_in (i := 2) (n := 6) (by decide)) hP hD hS dX8_init_93 (fun H locs hP hD hS => ?_)
  refine lv_iinc (v := 3) (lv' := [(1, .int 3), (0, .ref h0)]) C.x C.b dX8_init_94 hl (k := 0) rfl (by decide) (by decide) rfl (fun ls hl => ?_)
  refine lv_goto (tgt := 75) C.x C.b dX8_init_97 (by decide) ?_
  refine lv_iload_n C.x C.b dX8_init_75 rfl (lv_at hl 0 rfl) ?_
  refine lv_bipush (v := 6) C.x C.b dX8_init_76 (by decide) ?_
  refine lv_icmp_ge (tgt := 100) C.x C.b dX8_init_78 (by decide) (fun c1 => absurd c1 (by decide)) (fun _ => ?_)
  refine lv_aload_n C.x C.b dX8_init_81 rfl (lv_at hl 1 rfl) ?_
  refine q_get (j := 4) (v := .ref qt) C rfl cw8 (by decide) u2_83 rfl rfl hP dX8_init_82 ?_
  refine lv_iload_n C.x C.b dX8_init_85 rfl (lv_at hl 0 rfl) ?_
  refine n_obj (ci := 7) (dflt := [.int 0, .int 0, .null]) (cells' := 116) (slots' := 2261) C rfl cw7 tyX7 tyX7_ok (fun j hj => dfl_7 j hj) u2_54 u2_60 u1_11 rfl rfl (Nat.le_of_ble_eq_true rfl) (Nat.le_of_ble_eq_true rfl) hP hD hS dX8_init_86 (fun qn3 H hP hD hS => ?_)
  refine lv_dup C.x C.b dX8_init_89 rfl ?_
  refine h_newN (q := qn3) (as := []) (cells' := 117) (slots' := 2321) (rest := [.ref qn3, .int 3, .ref qt]) (n_X7) MN_X7 n_RX8_52 C hP hD hS rfl (by decide) hl.1 rfl (Nat.le_of_ble_eq_true rfl) rfl rfl (Nat.le_of_ble_eq_true rfl) (Nat.le_of_ble_eq_true rfl) dX8_init_90 (fun t3 H locs had hP1 hD1 hS1 => ?_)
  subst had; have hP := hP1; have hD := hD1; have hS := hS1; clear hP1 hD1 hS1
  simp only [List.cons_append] at hP hD
  refine h_aast C (inb_in (i := 3) (n := 6) (by decide)) hP hD hS dX8_init_93 (fun H locs hP hD hS => ?_)
  refine lv_iinc (v := 4) (lv' := [(1, .int 4), (0, .ref h0)]) C.x C.b dX8_init_94 hl (k := 0) rfl (by decide) (by decide) rfl (fun ls hl => ?_)
  refine lv_goto (tgt := 75) C.x C.b dX8_init_97 (by decide) ?_
  refine lv_iload_n C.x C.b dX8_init_75 rfl (lv_at hl 0 rfl) ?_
  refine lv_bipush (v := 6) C.x C.b dX8_init_76 (by decide) ?_
  refine lv_icmp_ge (tgt := 100) C.x C.b dX8_init_78 (by decide) (fun c1 => absurd c1 (by decide)) (fun _ => ?_)
  refine lv_aload_n C.x C.b dX8_init_81 rfl (lv_at hl 1 rfl) ?_
  refine q_get (j := 4) (v := .ref qt) C rfl cw8 (by decide) u2_83 rfl rfl hP dX8_init_82 ?_
  refine lv_iload_n C.x C.b dX8_init_85 rfl (lv_at hl 0 rfl) ?_
  refine n_obj (ci := 7) (dflt := [.int 0, .int 0, .null]) (cells' := 118) (slots' := 2324) C rfl cw7 tyX7 tyX7_ok (fun j hj => dfl_7 j hj) u2_54 u2_60 u1_11 rfl rfl (Nat.le_of_ble_eq_true rfl) (Nat.le_of_ble_eq_true rfl) hP hD hS dX8_init_86 (fun qn4 H hP hD hS => ?_)
  refine lv_dup C.x C.b dX8_init_89 rfl ?_
  refine h_newN (q := qn4) (as := []) (cells' := 119) (slots' := 2384) (rest := [.ref qn4, .int 4, .ref qt]) (n_X7) MN_X7 n_RX8_52 C hP hD hS rfl (by decide) hl.1 rfl (Nat.le_of_ble_eq_true rfl) rfl rfl (Nat.le_of_ble_eq_true rfl) (Nat.le_of_ble_eq_true rfl) dX8_init_90 (fun t4 H locs had hP1 hD1 hS1 => ?_)
  subst had; have hP := hP1; have hD := hD1; have hS := hS1; clear hP1 hD1 hS1
  simp only [List.cons_append] at hP hD
  refine h_aast C (inb_in (i := 4) (n := 6) (by decide)) hP hD hS dX8_init_93 (fun H locs hP hD hS => ?_)
  refine lv_iinc (v := 5) (lv' := [(1, .int 5), (0, .ref h0)]) C.x C.b dX8_init_94 hl (k := 0) rfl (by decide) (by decide) rfl (fun ls hl => ?_)
  refine lv_goto (tgt := 75) C.x C.b dX8_init_97 (by decide) ?_
  refine lv_iload_n C.x C.b dX8_init_75 rfl (lv_at hl 0 rfl) ?_
  refine lv_bipush (v := 6) C.x C.b dX8_init_76 (by decide) ?_
  refine lv_icmp_ge (tgt := 100) C.x C.b dX8_init_78 (by decide) (fun c1 => absurd c1 (by decide)) (fun _ => ?_)
  refine lv_aload_n C.x C.b dX8_init_81 rfl (lv_at hl 1 rfl) ?_
  refine q_get (j := 4) (v := .ref qt) C rfl cw8 (by decide) u2_83 rfl rfl hP dX8_init_82 ?_
  refine lv_iload_n C.x C.b dX8_init_85 rfl (lv_at hl 0 rfl) ?_
  refine n_obj (ci := 7) (dflt := [.int 0, .int 0, .null]) (cells' := 120) (slots' := 2387) C rfl cw7 tyX7 tyX7_ok (fun j hj => dfl_7 j hj) u2_54 u2_60 u1_11 rfl rfl (Nat.le_of_ble_eq_true rfl) (Nat.le_of_ble_eq_true rfl) hP hD hS dX8_init_86 (fun qn5 H hP hD hS => ?_)
  refine lv_dup C.x C.b dX8_init_89 rfl ?_
  refine h_newN (q := qn5) (as := []) (cells' := 121) (slots' := 2447) (rest := [.ref qn5, .int 5, .ref qt]) (n_X7) MN_X7 n_RX8_52 C hP hD hS rfl (by decide) hl.1 rfl (Nat.le_of_ble_eq_true rfl) rfl rfl (Nat.le_of_ble_eq_true rfl) (Nat.le_of_ble_eq_true rfl) dX8_init_90 (fun t5 H locs had hP1 hD1 hS1 => ?_)
  subst had; have hP := hP1; have hD := hD1; have hS := hS1; clear hP1 hD1 hS1
  simp only [List.cons_append] at hP hD
  refine h_aast C (inb_in (i := 5) (n := 6) (by decide)) hP hD hS dX8_init_93 (fun H locs hP hD hS => ?_)
  refine lv_iinc (v := 6) (lv' := [(1, .int 6), (0, .ref h0)]) C.x C.b dX8_init_94 hl (k := 0) rfl (by decide) (by decide) rfl (fun ls hl => ?_)
  refine lv_goto (tgt := 75) C.x C.b dX8_init_97 (by decide) ?_
  refine lv_iload_n C.x C.b dX8_init_75 rfl (lv_at hl 0 rfl) ?_
  refine lv_bipush (v := 6) C.x C.b dX8_init_76 (by decide) ?_
  refine lv_icmp_ge (tgt := 100) C.x C.b dX8_init_78 (by decide) (fun _ => ?_) (fun c1 => absurd (by decide) c1)
  obtain ⟨hP, hD⟩ := conv_q (k := 1) (g := fun i => if i < 6 then some ((fun k => ([h0, qt] : List Nat).getD k (if k < 4 then t0 (k - 2) else if k < 6 then t1 (k - 4) else if k < 8 then t2 (k - 6) else if k < 10 then t3 (k - 8) else if k < 12 then t4 (k - 10) else if k < 14 then t5 (k - 12) else if k < 51 then ad2 (k - 14) else if k < 88 then ad4 (k - 51) else if k < 95 then ad6 (k - 88) else if k < 102 then ad8 (k - 95) else ad10 (k - 102))) (1 + 1 + 2 * i)) else none) rfl (fun i hi => by rcases (show i = 0 ∨ i = 1 ∨ i = 2 ∨ i = 3 ∨ i = 4 ∨ i = 5 by omega) with rfl | rfl | rfl | rfl | rfl | rfl <;> rfl) hP hD
  simp only [List.set_cons_succ, List.set_cons_zero] at hP hD
  have hP2 : va_P D vwCl (([(h0, .inr (8, [.ref (ad2 0), .ref (ad4 0), .int 0, .ref (ad6 0), .ref qt, .ref (ad8 0), .ref (ad10 0)])), (qt, .inl (cy 4, 6, vq (fun i => if i < 6 then some ((fun k => ([h0, qt] : List Nat).getD k (if k < 4 then t0 (k - 2) else if k < 6 then t1 (k - 4) else if k < 8 then t2 (k - 6) else if k < 10 then t3 (k - 8) else if k < 12 then t4 (k - 10) else if k < 14 then t5 (k - 12) else if k < 51 then ad2 (k - 14) else if k < 88 then ad4 (k - 51) else if k < 95 then ad6 (k - 88) else if k < 102 then ad8 (k - 95) else ad10 (k - 102))) (1 + 1 + 2 * i)) else none)))] ++ (wt D cy ad2 m6 sState ++ (wt D cy ad4 m6 sState ++ (wt D cy ad6 mz sSetUp ++ (wt D cy ad8 m0 sGround ++ wt D cy ad10 mz sPlan))))) ++ (wt D cy t0 m7 sTape ++ (wt D cy t1 m7 sTape ++ (wt D cy t2 m7 sTape ++ (wt D cy t3 m7 sTape ++ (wt D cy t4 m7 sTape ++ wt D cy t5 m7 sTape)))))) H := by simpa only [List.nil_append, List.cons_append, List.append_assoc] using hP
  have hD2 : va_D A (([(h0, .inr (8, [.ref (ad2 0), .ref (ad4 0), .int 0, .ref (ad6 0), .ref qt, .ref (ad8 0), .ref (ad10 0)])), (qt, .inl (cy 4, 6, vq (fun i => if i < 6 then some ((fun k => ([h0, qt] : List Nat).getD k (if k < 4 then t0 (k - 2) else if k < 6 then t1 (k - 4) else if k < 8 then t2 (k - 6) else if k < 10 then t3 (k - 8) else if k < 12 then t4 (k - 10) else if k < 14 then t5 (k - 12) else if k < 51 then ad2 (k - 14) else if k < 88 then ad4 (k - 51) else if k < 95 then ad6 (k - 88) else if k < 102 then ad8 (k - 95) else ad10 (k - 102))) (1 + 1 + 2 * i)) else none)))] ++ (wt D cy ad2 m6 sState ++ (wt D cy ad4 m6 sState ++ (wt D cy ad6 mz sSetUp ++ (wt D cy ad8 m0 sGround ++ wt D cy ad10 mz sPlan))))) ++ (wt D cy t0 m7 sTape ++ (wt D cy t1 m7 sTape ++ (wt D cy t2 m7 sTape ++ (wt D cy t3 m7 sTape ++ (wt D cy t4 m7 sTape ++ wt D cy t5 m7 sTape)))))) := by simpa only [List.nil_append, List.cons_append, List.append_assoc] using hD
  exact r_new (ad := (fun k => ([h0, qt] : List Nat).getD k (if k < 4 then t0 (k - 2) else if k < 6 then t1 (k - 4) else if k < 8 then t2 (k - 6) else if k < 10 then t3 (k - 8) else if k < 12 then t4 (k - 10) else if k < 14 then t5 (k - 12) else if k < 51 then ad2 (k - 14) else if k < 88 then ad4 (k - 51) else if k < 95 then ad6 (k - 88) else if k < 102 then ad8 (k - 95) else ad10 (k - 102)))) rfl (wteq_8 h0 qt t0 t1 t2 t3 t4 t5 ad2 ad4 ad6 ad8 ad10) (Nat.le_of_ble_eq_true rfl) (Nat.le_of_ble_eq_true rfl) C I (va_P.swap hP2) (va_D.swap hD2) hS dX8_init_100
