/-! THE LAW, its start: the classes, the two objects, the first memory -/
theorem law_arr {ty : FieldType} {args : Array Value} {s : State} (h : (Cond.arrayClass ty).before args s = true) (hv : ∀ n : String, ty ≠ .object n) : ∃ cA : ClassId, ArrOfT s cA ty ∧ s.vm.findClass ("[" ++ ty.toString) = some cA := by
  obtain ⟨cA, kA, comp, h1, h2, h3⟩ := Cond.arrayClass_spec h
  exact ⟨cA, fun n z => ⟨fun k h => (by cases h), kA, h2, comp, h3⟩, h1⟩
theorem law_KD {args : Array Value} {s : State} (hts : ∀ w ∈ lw_tbl, w.before args s = true) : ∃ (D : va_G) (cy : Nat → ClassId), KD D cy s := by
  have ht := UU_hts hts
  obtain ⟨c0, i0, k0⟩ := u_known (C := RX0) (T := TX0) (N := 8) (n := 8) ht cw0 (ht _ u1_30)
  obtain ⟨c1, i1, k1⟩ := u_known (C := RX1) (T := TX1) (N := 4) (n := 4) ht cw1 (ht _ u1_128)
  obtain ⟨c2, i2, k2⟩ := u_known (C := RX2) (T := TX2) (N := 10) (n := 10) ht cw2 (ht _ u1_85)
  obtain ⟨c3, i3, k3⟩ := u_known (C := RX3) (T := TX3) (N := 16) (n := 16) ht cw3 (ht _ u1_79)
  obtain ⟨c4, i4, k4⟩ := u_known (C := RX4) (T := TX4) (N := 4) (n := 4) ht cw4 (ht _ u1_212)
  obtain ⟨c5, i5, k5⟩ := u_known (C := RX5) (T := TX5) (N := 9) (n := 9) ht cw5 (ht _ u2_18)
  obtain ⟨c6, i6, k6⟩ := u_known (C := RX6) (T := TX6) (N := 5) (n := 5) ht cw6 (ht _ u1_24)
  obtain ⟨c7, i7, k7⟩ := u_known (C := RX7) (T := TX7) (N := 3) (n := 3) ht cw7 (ht _ u2_60)
  obtain ⟨c8, i8, k8⟩ := u_known (C := RX8) (T := TX8) (N := 7) (n := 7) ht cw8 (ht _ u1_16)
  obtain ⟨c9, i9, k9⟩ := u_known (C := RX9) (T := TX9) (N := 51) (n := 51) ht cw9 (ht _ u4_122)
  obtain ⟨a0, x0, y0⟩ := law_arr (ht _ um_ac_int) (fun _ h => by cases h)
  obtain ⟨a1, x1, y1⟩ := law_arr (ht _ um_ac_boo) (fun _ h => by cases h)
  obtain ⟨a2, x2, y2⟩ := law_arr (ht _ um_ac_chr) (fun _ h => by cases h)
  obtain ⟨a3, x3, y3⟩ := law_arr (ht _ um_ac_lng) (fun _ h => by cases h)
  obtain ⟨p4, a4, q4, g1, -, g3, g4, g5⟩ := Cond.arrayOver_spec (hts _ v2_55)
  obtain ⟨p5, a5, q5, -, -, j3, j4, j5⟩ := Jvm.Stand.arrayOver_specB (hts _ v4_128)
  refine ⟨(fun k => [c0, c1, c2, c3, c4, c5, c6, c7, c8, c9].getD k c0, fun k => [i0, i1, i2, i3, i4, i5, i6, i7, i8, i9].getD k i0), fun k => [a0, a1, a2, a3, a4, a5].getD k a0, ⟨⟨fun c q hq => ?_, fun k q hk => ?_⟩, fun w hw => ?_⟩, va_AO.of (hts _ v2_55), Jvm.Stand.arrayOver_alikeB (Vm.Alike.refl _) (hts _ v4_128)⟩
  · have hc : c < 10 := (List.getElem?_eq_some_iff.mp hq).1
    rcases (show c = 0 ∨ c = 1 ∨ c = 2 ∨ c = 3 ∨ c = 4 ∨ c = 5 ∨ c = 6 ∨ c = 7 ∨ c = 8 ∨ c = 9 by omega) with rfl | rfl | rfl | rfl | rfl | rfl | rfl | rfl | rfl | rfl
    · cases hq; exact k0
    · cases hq; exact k1
    · cases hq; exact k2
    · cases hq; exact k3
    · cases hq; exact k4
    · cases hq; exact k5
    · cases hq; exact k6
    · cases hq; exact k7
    · cases hq; exact k8
    · cases hq; exact k9
  · have hc : k < 6 := (List.getElem?_eq_some_iff.mp hk).1
    rcases (show k = 0 ∨ k = 1 ∨ k = 2 ∨ k = 3 ∨ k = 4 ∨ k = 5 by omega) with rfl | rfl | rfl | rfl | rfl | rfl
    · cases hk; exact ⟨x0, y0⟩
    · cases hk; exact ⟨x1, y1⟩
    · cases hk; exact ⟨x2, y2⟩
    · cases hk; exact ⟨x3, y3⟩
    · cases hk; exact ⟨fun N z => ⟨(fun k h => by cases h), q4, g3, p4, g4⟩, q4, p4, g3, g4, g1, g5⟩
    · cases hk; exact ⟨fun N z => ⟨(fun k h => by cases h), q5, j3, p5, j4⟩, j5⟩
  · simp only [nests, List.mem_cons, List.not_mem_nil, or_false] at hw
    rcases hw with rfl | rfl | rfl | rfl | rfl | rfl | rfl | rfl | rfl | rfl | rfl | rfl
    · exact va_Nw.of rfl (hts _ v1_25)
    · exact va_Nw.of rfl (hts _ v2_19)
    · exact va_Nw.of rfl (hts _ v2_59)
    · exact va_Nw.of rfl (hts _ v2_61)
    · exact va_Nw.of rfl (hts _ v2_163)
    · exact va_Nw.of rfl (hts _ v3_88)
    · exact va_Nw.of rfl (hts _ v3_28)
    · exact va_Nw.of rfl (hts _ v1_86)
    · exact va_Nw.of rfl (hts _ v1_129)
    · exact va_Nw.of rfl (hts _ v3_8)
    · exact va_Nw.of rfl (hts _ v1_80)
    · exact va_Nw.of rfl (hts _ v2_145)
theorem len_sStone : sStone.length = 122 := rfl
def mu0 : Mem := (fun k => if k < 122 then m8.1 k else m9.1 (k - 122), fun _ _ => 0)
def ADj (adS adM : Nat → Nat) : Nat → Nat := fun k => if k < 122 then adS k else adM (k - 122)
theorem wl_join {D : va_G} {cy : Nat → ClassId} (adS adM : Nat → Nat) : wt D cy adS m8 sStone ++ wt D cy adM m9 sModel = wl (D, cy, ADj adS adM) mu0 := by
  show _ = wt D cy (ADj adS adM) mu0 (sStone ++ sModel)
  rw [wt_wtf (ad := ADj adS adM), wtf_app, len_sStone, Nat.zero_add]
  have e1 : wtf D cy (ADj adS adM) mu0 0 sStone = wt D cy adS m8 sStone := by
    refine wtf_sub sStone (by decide +kernel) (fun k hk => ?_) (fun k hk => ?_) (fun k hk => rfl)
    · replace hk : k < 122 := hk
      unfold ADj
      rw [Nat.zero_add, if_pos hk]
    · replace hk : k < 122 := hk
      show (if 0 + k < 122 then m8.1 (0 + k) else m9.1 (0 + k - 122)) = m8.1 k
      rw [Nat.zero_add, if_pos hk]
  have e2 : wtf D cy (ADj adS adM) mu0 122 sModel = wt D cy adM m9 sModel := by
    refine wtf_sub sModel (by decide +kernel) (fun k hk => ?_) (fun k hk => ?_) (fun k hk => rfl)
    · unfold ADj
      rw [if_neg (by omega), Nat.add_sub_cancel_left]
    · show (if 122 + k < 122 then m8.1 (122 + k) else m9.1 (122 + k - 122)) = m9.1 k
      rw [if_neg (by omega), Nat.add_sub_cancel_left]
  rw [e1, e2]
