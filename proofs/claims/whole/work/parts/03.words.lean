/-! THE WORDS that every method stands on: the good ones of the tables, one list for all methods -/
def UU : List Cond := lw_tbl.filter goodWord
theorem UU_in {w : Cond} (h : w ∈ lw_tbl) (g : goodWord w = true) : w ∈ UU := List.mem_filter.mpr ⟨h, g⟩
theorem UU_hts {args : Array Value} {s : State} (h : ∀ w ∈ lw_tbl, w.before args s = true) : ∀ w ∈ UU, w.before args s = true := fun w hw => h w (List.mem_filter.mp hw).1
theorem UU_good : UU.all goodWord = true := List.all_eq_true.mpr (fun w hw => (List.mem_filter.mp hw).2)
theorem goodIn_U {ws : List Cond} (hm : ∀ w ∈ ws, w ∈ UU) : GoodIn UU ws := fun w hw => ⟨hm w hw, good_of_word (List.mem_filter.mp (hm w hw)).2⟩
theorem UU_p : ∀ w ∈ k2_sels lw_privs, w ∈ lw_tbl := fun _ h => List.mem_append_left _ h
theorem UU_t : ∀ w ∈ tables_1, w ∈ lw_tbl := fun _ h => List.mem_append_right _ h
theorem UU_t1 : ∀ w ∈ tables_1_1, w ∈ lw_tbl := fun w h => UU_t w (List.mem_append_left _ h)
theorem UU_t2 : ∀ w ∈ tables_1_2, w ∈ lw_tbl := fun w h => UU_t w (List.mem_append_right _ (List.mem_append_left _ h))
theorem UU_t3 : ∀ w ∈ tables_1_3, w ∈ lw_tbl := fun w h => UU_t w (List.mem_append_right _ (List.mem_append_right _ (List.mem_append_left _ h)))
theorem UU_t4 : ∀ w ∈ tables_1_4, w ∈ lw_tbl := fun w h => UU_t w (List.mem_append_right _ (List.mem_append_right _ (List.mem_append_right _ (List.mem_append_left _ h))))
theorem UU_t5 : ∀ w ∈ tables_1_5, w ∈ lw_tbl := fun w h => UU_t w (List.mem_append_right _ (List.mem_append_right _ (List.mem_append_right _ (List.mem_append_right _ (List.mem_append_left _ h)))))
theorem UU_t6 : ∀ w ∈ tables_1_6, w ∈ lw_tbl := fun w h => UU_t w (List.mem_append_right _ (List.mem_append_right _ (List.mem_append_right _ (List.mem_append_right _ (List.mem_append_right _ h)))))
theorem mem_pos {big ws : List Cond} (ps : List Nat) (hp : ws = ps.filterMap (fun i => big[i]?)) : ∀ w ∈ ws, w ∈ big := by
  intro w hw
  rw [hp] at hw
  obtain ⟨i, -, hi⟩ := List.mem_filterMap.mp hw
  exact List.mem_of_getElem? hi
theorem u1_0 : Jvm.Cond.initialized "StoneRoadsLaw" ∈ UU := UU_in (UU_t1 _ (List.mem_of_getElem? (i := 0) rfl)) rfl
theorem u1_1 : Jvm.Cond.initialized "StoneRoads" ∈ UU := UU_in (UU_t1 _ (List.mem_of_getElem? (i := 1) rfl)) rfl
theorem u1_2 : Jvm.Cond.initialized "StoneRoads$State" ∈ UU := UU_in (UU_t1 _ (List.mem_of_getElem? (i := 2) rfl)) rfl
theorem u1_3 : Jvm.Cond.initialized "StoneRoads$Ground" ∈ UU := UU_in (UU_t1 _ (List.mem_of_getElem? (i := 3) rfl)) rfl
theorem u1_4 : Jvm.Cond.initialized "java/util/Arrays" ∈ UU := UU_in (UU_t1 _ (List.mem_of_getElem? (i := 4) rfl)) rfl
theorem u1_5 : Jvm.Cond.initialized "StoneRoads$Plan" ∈ UU := UU_in (UU_t1 _ (List.mem_of_getElem? (i := 5) rfl)) rfl
theorem u1_6 : Jvm.Cond.initialized "StoneRoads$Opening" ∈ UU := UU_in (UU_t1 _ (List.mem_of_getElem? (i := 6) rfl)) rfl
theorem u1_7 : Jvm.Cond.initialized "StoneRoads$Loop" ∈ UU := UU_in (UU_t1 _ (List.mem_of_getElem? (i := 7) rfl)) rfl
theorem u1_8 : Jvm.Cond.initialized "StoneRoads$Rows" ∈ UU := UU_in (UU_t1 _ (List.mem_of_getElem? (i := 8) rfl)) rfl
theorem u1_9 : Jvm.Cond.initialized "java/lang/Math" ∈ UU := UU_in (UU_t1 _ (List.mem_of_getElem? (i := 9) rfl)) rfl
theorem u1_10 : Jvm.Cond.initialized "StoneRoads$SetUp" ∈ UU := UU_in (UU_t1 _ (List.mem_of_getElem? (i := 10) rfl)) rfl
theorem u1_11 : Jvm.Cond.initialized "StoneRoads$Tape" ∈ UU := UU_in (UU_t1 _ (List.mem_of_getElem? (i := 11) rfl)) rfl
theorem u1_12 : Jvm.Cond.initialized "StoneRoadsModel" ∈ UU := UU_in (UU_t1 _ (List.mem_of_getElem? (i := 12) rfl)) rfl
theorem u1_13 : Jvm.Cond.initialized "java/lang/System" ∈ UU := UU_in (UU_t1 _ (List.mem_of_getElem? (i := 13) rfl)) rfl
theorem u1_14 : Jvm.Cond.initialized "java/lang/Integer" ∈ UU := UU_in (UU_t1 _ (List.mem_of_getElem? (i := 14) rfl)) rfl
theorem u1_15 : Jvm.Cond.classLink "StoneRoadsLaw" (7 : Nat) "StoneRoads" ∈ UU := UU_in (UU_t1 _ (List.mem_of_getElem? (i := 15) rfl)) rfl
theorem u1_16 : Jvm.Cond.instantiable "StoneRoads" (7 : Nat) ∈ UU := UU_in (UU_t1 _ (List.mem_of_getElem? (i := 16) rfl)) rfl
theorem u1_17 : Jvm.Cond.methodLink "StoneRoadsLaw" (9 : Nat) yX8_init ∈ UU := UU_in (UU_t1 _ (List.mem_of_getElem? (i := 17) rfl)) rfl
theorem u1_18 : Jvm.Cond.instanceMethod yX8_init ∈ UU := UU_in (UU_t1 _ (List.mem_of_getElem? (i := 18) rfl)) rfl
theorem u1_19 : Jvm.Cond.code yX8_init prog_1_method_1_code (2 : Nat) (Option.none : Option Jvm.ClassFile.FieldType) ∈ UU := UU_in (UU_t1 _ (List.mem_of_getElem? (i := 19) rfl)) rfl
theorem u1_20 : Jvm.Cond.methodLink "StoneRoads" (5 : Nat) objectInit ∈ UU := UU_in (UU_t1 _ (List.mem_of_getElem? (i := 20) rfl)) rfl
theorem u1_21 : Jvm.Cond.instanceMethod objectInit ∈ UU := UU_in (UU_t1 _ (List.mem_of_getElem? (i := 21) rfl)) rfl
theorem u1_22 : Jvm.Cond.code objectInit object_method_1_code (1 : Nat) (Option.none : Option Jvm.ClassFile.FieldType) ∈ UU := UU_in (UU_t1 _ (List.mem_of_getElem? (i := 22) rfl)) rfl
theorem u1_23 : Jvm.Cond.classLink "StoneRoads" (11 : Nat) "StoneRoads$State" ∈ UU := UU_in (UU_t1 _ (List.mem_of_getElem? (i := 23) rfl)) rfl
theorem u1_24 : Jvm.Cond.instantiable "StoneRoads$State" (5 : Nat) ∈ UU := UU_in (UU_t1 _ (List.mem_of_getElem? (i := 24) rfl)) rfl
theorem v1_25 : Jvm.Cond.methodLinkNest "StoneRoads" (13 : Nat) yX6_init "StoneRoads" ∈ lw_tbl := UU_t1 _ (List.mem_of_getElem? (i := 25) rfl)
theorem u1_26 : Jvm.Cond.instanceMethod yX6_init ∈ UU := UU_in (UU_t1 _ (List.mem_of_getElem? (i := 26) rfl)) rfl
theorem u1_27 : Jvm.Cond.code yX6_init prog_8_method_1_code (1 : Nat) (Option.none : Option Jvm.ClassFile.FieldType) ∈ UU := UU_in (UU_t1 _ (List.mem_of_getElem? (i := 27) rfl)) rfl
theorem u1_28 : Jvm.Cond.methodLink "StoneRoads$State" (3 : Nat) objectInit ∈ UU := UU_in (UU_t1 _ (List.mem_of_getElem? (i := 28) rfl)) rfl
theorem u1_29 : Jvm.Cond.classLink "StoneRoads$State" (9 : Nat) "StoneRoads$Ground" ∈ UU := UU_in (UU_t1 _ (List.mem_of_getElem? (i := 29) rfl)) rfl
theorem u1_30 : Jvm.Cond.instantiable "StoneRoads$Ground" (8 : Nat) ∈ UU := UU_in (UU_t1 _ (List.mem_of_getElem? (i := 30) rfl)) rfl
theorem u1_31 : Jvm.Cond.methodLink "StoneRoads$State" (11 : Nat) yX0_init ∈ UU := UU_in (UU_t1 _ (List.mem_of_getElem? (i := 31) rfl)) rfl
theorem u1_32 : Jvm.Cond.instanceMethod yX0_init ∈ UU := UU_in (UU_t1 _ (List.mem_of_getElem? (i := 32) rfl)) rfl
theorem u1_33 : Jvm.Cond.code yX0_init prog_2_method_1_code (1 : Nat) (Option.none : Option Jvm.ClassFile.FieldType) ∈ UU := UU_in (UU_t1 _ (List.mem_of_getElem? (i := 33) rfl)) rfl
theorem u1_34 : Jvm.Cond.methodLink "StoneRoads$Ground" (3 : Nat) objectInit ∈ UU := UU_in (UU_t1 _ (List.mem_of_getElem? (i := 34) rfl)) rfl
theorem u1_35 : Jvm.Cond.methodLink "StoneRoads$Ground" (37 : Nat) yJ7_fill_53178 ∈ UU := UU_in (UU_t1 _ (List.mem_of_getElem? (i := 35) rfl)) rfl
theorem u1_36 : Jvm.Cond.static yJ7_fill_53178 ∈ UU := UU_in (UU_t1 _ (List.mem_of_getElem? (i := 36) rfl)) rfl
theorem u1_37 : Jvm.Cond.code yJ7_fill_53178 prog_15_method_103_code (4 : Nat) (Option.none : Option Jvm.ClassFile.FieldType) ∈ UU := UU_in (UU_t1 _ (List.mem_of_getElem? (i := 37) rfl)) rfl
theorem u1_38 : Jvm.Cond.fieldLink "StoneRoads$Ground" (9 : Nat) "StoneRoads$Ground" "quarries" "I" ∈ UU := UU_in (UU_t1 _ (List.mem_of_getElem? (i := 38) rfl)) rfl
theorem u1_39 : Jvm.Cond.fieldLink "StoneRoads$Opening" (65 : Nat) "StoneRoads$Ground" "quarries" "I" ∈ UU := UU_in (UU_t1 _ (List.mem_of_getElem? (i := 39) rfl)) rfl
theorem u1_40 : Jvm.Cond.fieldLink "StoneRoads$State" (50 : Nat) "StoneRoads$Ground" "quarries" "I" ∈ UU := UU_in (UU_t1 _ (List.mem_of_getElem? (i := 40) rfl)) rfl
theorem u1_41 : Jvm.Cond.fieldLink "StoneRoads" (240 : Nat) "StoneRoads$Ground" "quarries" "I" ∈ UU := UU_in (UU_t1 _ (List.mem_of_getElem? (i := 41) rfl)) rfl
theorem u1_42 : Jvm.Cond.fieldLink "StoneRoads$Ground" (15 : Nat) "StoneRoads$Ground" "works" "I" ∈ UU := UU_in (UU_t1 _ (List.mem_of_getElem? (i := 42) rfl)) rfl
theorem u1_43 : Jvm.Cond.fieldLink "StoneRoads$Opening" (74 : Nat) "StoneRoads$Ground" "works" "I" ∈ UU := UU_in (UU_t1 _ (List.mem_of_getElem? (i := 43) rfl)) rfl
theorem u1_44 : Jvm.Cond.fieldLink "StoneRoads$State" (54 : Nat) "StoneRoads$Ground" "works" "I" ∈ UU := UU_in (UU_t1 _ (List.mem_of_getElem? (i := 44) rfl)) rfl
theorem u1_45 : Jvm.Cond.fieldLink "StoneRoads" (243 : Nat) "StoneRoads$Ground" "works" "I" ∈ UU := UU_in (UU_t1 _ (List.mem_of_getElem? (i := 45) rfl)) rfl
theorem u1_46 : Jvm.Cond.fieldLink "StoneRoads$Ground" (18 : Nat) "StoneRoads$Ground" "stones" "[I" ∈ UU := UU_in (UU_t1 _ (List.mem_of_getElem? (i := 46) rfl)) rfl
theorem u1_47 : Jvm.Cond.fieldLink "StoneRoads$Opening" (53 : Nat) "StoneRoads$Ground" "stones" "[I" ∈ UU := UU_in (UU_t1 _ (List.mem_of_getElem? (i := 47) rfl)) rfl
theorem u1_48 : Jvm.Cond.fieldLink "StoneRoads" (225 : Nat) "StoneRoads$Ground" "stones" "[I" ∈ UU := UU_in (UU_t1 _ (List.mem_of_getElem? (i := 48) rfl)) rfl
theorem u1_49 : Jvm.Cond.fieldLink "StoneRoads$Ground" (22 : Nat) "StoneRoads$Ground" "tolls" "[I" ∈ UU := UU_in (UU_t1 _ (List.mem_of_getElem? (i := 49) rfl)) rfl
theorem u1_50 : Jvm.Cond.fieldLink "StoneRoads$Ground" (25 : Nat) "StoneRoads$Ground" "wants" "[I" ∈ UU := UU_in (UU_t1 _ (List.mem_of_getElem? (i := 50) rfl)) rfl
theorem u1_51 : Jvm.Cond.fieldLink "StoneRoads$Opening" (62 : Nat) "StoneRoads$Ground" "wants" "[I" ∈ UU := UU_in (UU_t1 _ (List.mem_of_getElem? (i := 51) rfl)) rfl
theorem u1_52 : Jvm.Cond.fieldLink "StoneRoads" (228 : Nat) "StoneRoads$Ground" "wants" "[I" ∈ UU := UU_in (UU_t1 _ (List.mem_of_getElem? (i := 52) rfl)) rfl
theorem u1_53 : Jvm.Cond.fieldLink "StoneRoads$Ground" (28 : Nat) "StoneRoads$Ground" "fees" "[I" ∈ UU := UU_in (UU_t1 _ (List.mem_of_getElem? (i := 53) rfl)) rfl
theorem u1_54 : Jvm.Cond.fieldLink "StoneRoads$Ground" (31 : Nat) "StoneRoads$Ground" "kinds" "[I" ∈ UU := UU_in (UU_t1 _ (List.mem_of_getElem? (i := 54) rfl)) rfl
theorem u1_55 : Jvm.Cond.fieldLink "StoneRoads$State" (73 : Nat) "StoneRoads$Ground" "kinds" "[I" ∈ UU := UU_in (UU_t1 _ (List.mem_of_getElem? (i := 55) rfl)) rfl
theorem u1_56 : Jvm.Cond.fieldLink "StoneRoads" (81 : Nat) "StoneRoads$Ground" "kinds" "[I" ∈ UU := UU_in (UU_t1 _ (List.mem_of_getElem? (i := 56) rfl)) rfl
theorem u1_57 : Jvm.Cond.fieldLink "StoneRoads$Ground" (34 : Nat) "StoneRoads$Ground" "bases" "[I" ∈ UU := UU_in (UU_t1 _ (List.mem_of_getElem? (i := 57) rfl)) rfl
theorem u1_58 : Jvm.Cond.fieldLink "StoneRoads$State" (77 : Nat) "StoneRoads$Ground" "bases" "[I" ∈ UU := UU_in (UU_t1 _ (List.mem_of_getElem? (i := 58) rfl)) rfl
theorem u1_59 : Jvm.Cond.fieldLink "StoneRoads" (89 : Nat) "StoneRoads$Ground" "bases" "[I" ∈ UU := UU_in (UU_t1 _ (List.mem_of_getElem? (i := 59) rfl)) rfl
theorem u1_77 : Jvm.Cond.arrayClass Jvm.ClassFile.FieldType.int ∈ UU := UU_in (UU_t1 _ (List.mem_of_getElem? (i := 77) rfl)) rfl
theorem u1_78 : Jvm.Cond.classLink "StoneRoads$State" (18 : Nat) "StoneRoads$Plan" ∈ UU := UU_in (UU_t1 _ (List.mem_of_getElem? (i := 78) rfl)) rfl
theorem u1_79 : Jvm.Cond.instantiable "StoneRoads$Plan" (16 : Nat) ∈ UU := UU_in (UU_t1 _ (List.mem_of_getElem? (i := 79) rfl)) rfl
theorem v1_80 : Jvm.Cond.methodLinkNest "StoneRoads$State" (20 : Nat) yX3_init "StoneRoads" ∈ lw_tbl := UU_t1 _ (List.mem_of_getElem? (i := 80) rfl)
theorem u1_81 : Jvm.Cond.instanceMethod yX3_init ∈ UU := UU_in (UU_t1 _ (List.mem_of_getElem? (i := 81) rfl)) rfl
theorem u1_82 : Jvm.Cond.code yX3_init prog_5_method_1_code (1 : Nat) (Option.none : Option Jvm.ClassFile.FieldType) ∈ UU := UU_in (UU_t1 _ (List.mem_of_getElem? (i := 82) rfl)) rfl
theorem u1_83 : Jvm.Cond.methodLink "StoneRoads$Plan" (3 : Nat) objectInit ∈ UU := UU_in (UU_t1 _ (List.mem_of_getElem? (i := 83) rfl)) rfl
theorem u1_84 : Jvm.Cond.classLink "StoneRoads$Plan" (57 : Nat) "StoneRoads$Opening" ∈ UU := UU_in (UU_t1 _ (List.mem_of_getElem? (i := 84) rfl)) rfl
theorem u1_85 : Jvm.Cond.instantiable "StoneRoads$Opening" (10 : Nat) ∈ UU := UU_in (UU_t1 _ (List.mem_of_getElem? (i := 85) rfl)) rfl
theorem v1_86 : Jvm.Cond.methodLinkNest "StoneRoads$Plan" (59 : Nat) yX2_init "StoneRoads" ∈ lw_tbl := UU_t1 _ (List.mem_of_getElem? (i := 86) rfl)
theorem u1_87 : Jvm.Cond.instanceMethod yX2_init ∈ UU := UU_in (UU_t1 _ (List.mem_of_getElem? (i := 87) rfl)) rfl
theorem u1_88 : Jvm.Cond.code yX2_init prog_4_method_1_code (1 : Nat) (Option.none : Option Jvm.ClassFile.FieldType) ∈ UU := UU_in (UU_t1 _ (List.mem_of_getElem? (i := 88) rfl)) rfl
theorem u1_89 : Jvm.Cond.methodLink "StoneRoads$Opening" (3 : Nat) objectInit ∈ UU := UU_in (UU_t1 _ (List.mem_of_getElem? (i := 89) rfl)) rfl
theorem u1_90 : Jvm.Cond.fieldLink "StoneRoads$Opening" (9 : Nat) "StoneRoads$Opening" "sources" "I" ∈ UU := UU_in (UU_t1 _ (List.mem_of_getElem? (i := 90) rfl)) rfl
theorem u1_91 : Jvm.Cond.fieldLink "StoneRoads$Plan" (111 : Nat) "StoneRoads$Opening" "sources" "I" ∈ UU := UU_in (UU_t1 _ (List.mem_of_getElem? (i := 91) rfl)) rfl
theorem u1_92 : Jvm.Cond.fieldLink "StoneRoads$Opening" (15 : Nat) "StoneRoads$Opening" "sinks" "I" ∈ UU := UU_in (UU_t1 _ (List.mem_of_getElem? (i := 92) rfl)) rfl
theorem u1_93 : Jvm.Cond.fieldLink "StoneRoads$Plan" (112 : Nat) "StoneRoads$Opening" "sinks" "I" ∈ UU := UU_in (UU_t1 _ (List.mem_of_getElem? (i := 93) rfl)) rfl
theorem u1_94 : Jvm.Cond.fieldLink "StoneRoads$Opening" (18 : Nat) "StoneRoads$Opening" "openSources" "I" ∈ UU := UU_in (UU_t1 _ (List.mem_of_getElem? (i := 94) rfl)) rfl
theorem u1_95 : Jvm.Cond.fieldLink "StoneRoads$Opening" (21 : Nat) "StoneRoads$Opening" "openSinks" "I" ∈ UU := UU_in (UU_t1 _ (List.mem_of_getElem? (i := 95) rfl)) rfl
theorem u1_96 : Jvm.Cond.fieldLink "StoneRoads$Plan" (84 : Nat) "StoneRoads$Opening" "openSinks" "I" ∈ UU := UU_in (UU_t1 _ (List.mem_of_getElem? (i := 96) rfl)) rfl
theorem u1_97 : Jvm.Cond.fieldLink "StoneRoads$Opening" (24 : Nat) "StoneRoads$Opening" "source" "I" ∈ UU := UU_in (UU_t1 _ (List.mem_of_getElem? (i := 97) rfl)) rfl
theorem u1_98 : Jvm.Cond.fieldLink "StoneRoads$Plan" (91 : Nat) "StoneRoads$Opening" "source" "I" ∈ UU := UU_in (UU_t1 _ (List.mem_of_getElem? (i := 98) rfl)) rfl
theorem u1_99 : Jvm.Cond.fieldLink "StoneRoads$Opening" (27 : Nat) "StoneRoads$Opening" "sink" "I" ∈ UU := UU_in (UU_t1 _ (List.mem_of_getElem? (i := 99) rfl)) rfl
theorem u1_100 : Jvm.Cond.fieldLink "StoneRoads$Plan" (94 : Nat) "StoneRoads$Opening" "sink" "I" ∈ UU := UU_in (UU_t1 _ (List.mem_of_getElem? (i := 100) rfl)) rfl
theorem u1_101 : Jvm.Cond.fieldLink "StoneRoads$Opening" (30 : Nat) "StoneRoads$Opening" "sourceOpen" "[Z" ∈ UU := UU_in (UU_t1 _ (List.mem_of_getElem? (i := 101) rfl)) rfl
theorem u1_102 : Jvm.Cond.fieldLink "StoneRoads$Opening" (34 : Nat) "StoneRoads$Opening" "sinkOpen" "[Z" ∈ UU := UU_in (UU_t1 _ (List.mem_of_getElem? (i := 102) rfl)) rfl
theorem u1_103 : Jvm.Cond.fieldLink "StoneRoads$Opening" (37 : Nat) "StoneRoads$Opening" "sourceLeft" "[I" ∈ UU := UU_in (UU_t1 _ (List.mem_of_getElem? (i := 103) rfl)) rfl
theorem u1_104 : Jvm.Cond.fieldLink "StoneRoads$Opening" (41 : Nat) "StoneRoads$Opening" "sinkLeft" "[I" ∈ UU := UU_in (UU_t1 _ (List.mem_of_getElem? (i := 104) rfl)) rfl
theorem u1_126 : Jvm.Cond.arrayClass Jvm.ClassFile.FieldType.boolean ∈ UU := UU_in (UU_t1 _ (List.mem_of_getElem? (i := 126) rfl)) rfl
theorem u1_127 : Jvm.Cond.classLink "StoneRoads$Plan" (64 : Nat) "StoneRoads$Loop" ∈ UU := UU_in (UU_t1 _ (List.mem_of_getElem? (i := 127) rfl)) rfl
theorem u1_128 : Jvm.Cond.instantiable "StoneRoads$Loop" (4 : Nat) ∈ UU := UU_in (UU_t1 _ (List.mem_of_getElem? (i := 128) rfl)) rfl
theorem v1_129 : Jvm.Cond.methodLinkNest "StoneRoads$Plan" (66 : Nat) yX1_init "StoneRoads" ∈ lw_tbl := UU_t1 _ (List.mem_of_getElem? (i := 129) rfl)
theorem u1_130 : Jvm.Cond.instanceMethod yX1_init ∈ UU := UU_in (UU_t1 _ (List.mem_of_getElem? (i := 130) rfl)) rfl
theorem u1_131 : Jvm.Cond.code yX1_init prog_3_method_1_code (1 : Nat) (Option.none : Option Jvm.ClassFile.FieldType) ∈ UU := UU_in (UU_t1 _ (List.mem_of_getElem? (i := 131) rfl)) rfl
theorem u1_132 : Jvm.Cond.methodLink "StoneRoads$Loop" (3 : Nat) objectInit ∈ UU := UU_in (UU_t1 _ (List.mem_of_getElem? (i := 132) rfl)) rfl
theorem u1_133 : Jvm.Cond.fieldLink "StoneRoads$Loop" (9 : Nat) "StoneRoads$Loop" "size" "I" ∈ UU := UU_in (UU_t1 _ (List.mem_of_getElem? (i := 133) rfl)) rfl
theorem u1_134 : Jvm.Cond.fieldLink "StoneRoads" (174 : Nat) "StoneRoads$Loop" "size" "I" ∈ UU := UU_in (UU_t1 _ (List.mem_of_getElem? (i := 134) rfl)) rfl
theorem u1_135 : Jvm.Cond.fieldLink "StoneRoads$Loop" (15 : Nat) "StoneRoads$Loop" "cells" "[I" ∈ UU := UU_in (UU_t1 _ (List.mem_of_getElem? (i := 135) rfl)) rfl
theorem u1_136 : Jvm.Cond.fieldLink "StoneRoads" (179 : Nat) "StoneRoads$Loop" "cells" "[I" ∈ UU := UU_in (UU_t1 _ (List.mem_of_getElem? (i := 136) rfl)) rfl
theorem u1_137 : Jvm.Cond.fieldLink "StoneRoads$Loop" (19 : Nat) "StoneRoads$Loop" "sourceNext" "[I" ∈ UU := UU_in (UU_t1 _ (List.mem_of_getElem? (i := 137) rfl)) rfl
theorem u1_138 : Jvm.Cond.fieldLink "StoneRoads$Loop" (22 : Nat) "StoneRoads$Loop" "sinkNext" "[I" ∈ UU := UU_in (UU_t1 _ (List.mem_of_getElem? (i := 138) rfl)) rfl
theorem u1_148 : Jvm.Cond.fieldLink "StoneRoads$Plan" (9 : Nat) "StoneRoads$Plan" "made" "Z" ∈ UU := UU_in (UU_t1 _ (List.mem_of_getElem? (i := 148) rfl)) rfl
theorem u1_149 : Jvm.Cond.fieldLink "StoneRoads$State" (61 : Nat) "StoneRoads$Plan" "made" "Z" ∈ UU := UU_in (UU_t1 _ (List.mem_of_getElem? (i := 149) rfl)) rfl
theorem u1_150 : Jvm.Cond.fieldLink "StoneRoads" (128 : Nat) "StoneRoads$Plan" "made" "Z" ∈ UU := UU_in (UU_t1 _ (List.mem_of_getElem? (i := 150) rfl)) rfl
theorem u1_151 : Jvm.Cond.fieldLink "StoneRoads$Plan" (15 : Nat) "StoneRoads$Plan" "sources" "I" ∈ UU := UU_in (UU_t1 _ (List.mem_of_getElem? (i := 151) rfl)) rfl
theorem u1_152 : Jvm.Cond.fieldLink "StoneRoads" (149 : Nat) "StoneRoads$Plan" "sources" "I" ∈ UU := UU_in (UU_t1 _ (List.mem_of_getElem? (i := 152) rfl)) rfl
theorem u1_153 : Jvm.Cond.fieldLink "StoneRoads$Plan" (19 : Nat) "StoneRoads$Plan" "sinks" "I" ∈ UU := UU_in (UU_t1 _ (List.mem_of_getElem? (i := 153) rfl)) rfl
theorem u1_154 : Jvm.Cond.fieldLink "StoneRoads" (155 : Nat) "StoneRoads$Plan" "sinks" "I" ∈ UU := UU_in (UU_t1 _ (List.mem_of_getElem? (i := 154) rfl)) rfl
theorem u1_155 : Jvm.Cond.fieldLink "StoneRoads$Plan" (22 : Nat) "StoneRoads$Plan" "steps" "I" ∈ UU := UU_in (UU_t1 _ (List.mem_of_getElem? (i := 155) rfl)) rfl
theorem u1_156 : Jvm.Cond.fieldLink "StoneRoads" (188 : Nat) "StoneRoads$Plan" "steps" "I" ∈ UU := UU_in (UU_t1 _ (List.mem_of_getElem? (i := 156) rfl)) rfl
theorem u1_157 : Jvm.Cond.fieldLink "StoneRoads$Plan" (25 : Nat) "StoneRoads$Plan" "costs" "[I" ∈ UU := UU_in (UU_t1 _ (List.mem_of_getElem? (i := 157) rfl)) rfl
theorem u1_158 : Jvm.Cond.fieldLink "StoneRoads" (234 : Nat) "StoneRoads$Plan" "costs" "[I" ∈ UU := UU_in (UU_t1 _ (List.mem_of_getElem? (i := 158) rfl)) rfl
theorem u1_159 : Jvm.Cond.fieldLink "StoneRoads$Plan" (29 : Nat) "StoneRoads$Plan" "loads" "[I" ∈ UU := UU_in (UU_t1 _ (List.mem_of_getElem? (i := 159) rfl)) rfl
theorem u1_160 : Jvm.Cond.fieldLink "StoneRoads" (137 : Nat) "StoneRoads$Plan" "loads" "[I" ∈ UU := UU_in (UU_t1 _ (List.mem_of_getElem? (i := 160) rfl)) rfl
theorem u1_161 : Jvm.Cond.fieldLink "StoneRoads$Plan" (32 : Nat) "StoneRoads$Plan" "basics" "[Z" ∈ UU := UU_in (UU_t1 _ (List.mem_of_getElem? (i := 161) rfl)) rfl
theorem u1_162 : Jvm.Cond.fieldLink "StoneRoads" (143 : Nat) "StoneRoads$Plan" "basics" "[Z" ∈ UU := UU_in (UU_t1 _ (List.mem_of_getElem? (i := 162) rfl)) rfl
theorem u1_163 : Jvm.Cond.fieldLink "StoneRoads$Plan" (36 : Nat) "StoneRoads$Plan" "sourceWorths" "[I" ∈ UU := UU_in (UU_t1 _ (List.mem_of_getElem? (i := 163) rfl)) rfl
theorem u1_164 : Jvm.Cond.fieldLink "StoneRoads" (152 : Nat) "StoneRoads$Plan" "sourceWorths" "[I" ∈ UU := UU_in (UU_t1 _ (List.mem_of_getElem? (i := 164) rfl)) rfl
theorem u1_165 : Jvm.Cond.fieldLink "StoneRoads$Plan" (39 : Nat) "StoneRoads$Plan" "sinkWorths" "[I" ∈ UU := UU_in (UU_t1 _ (List.mem_of_getElem? (i := 165) rfl)) rfl
theorem u1_166 : Jvm.Cond.fieldLink "StoneRoads" (158 : Nat) "StoneRoads$Plan" "sinkWorths" "[I" ∈ UU := UU_in (UU_t1 _ (List.mem_of_getElem? (i := 166) rfl)) rfl
theorem u1_167 : Jvm.Cond.fieldLink "StoneRoads$Plan" (42 : Nat) "StoneRoads$Plan" "entered" "[I" ∈ UU := UU_in (UU_t1 _ (List.mem_of_getElem? (i := 167) rfl)) rfl
theorem u1_168 : Jvm.Cond.fieldLink "StoneRoads" (200 : Nat) "StoneRoads$Plan" "entered" "[I" ∈ UU := UU_in (UU_t1 _ (List.mem_of_getElem? (i := 168) rfl)) rfl
theorem u1_169 : Jvm.Cond.fieldLink "StoneRoads$Plan" (45 : Nat) "StoneRoads$Plan" "gone" "[I" ∈ UU := UU_in (UU_t1 _ (List.mem_of_getElem? (i := 169) rfl)) rfl
theorem u1_170 : Jvm.Cond.fieldLink "StoneRoads" (203 : Nat) "StoneRoads$Plan" "gone" "[I" ∈ UU := UU_in (UU_t1 _ (List.mem_of_getElem? (i := 170) rfl)) rfl
theorem u1_171 : Jvm.Cond.fieldLink "StoneRoads$Plan" (48 : Nat) "StoneRoads$Plan" "turned" "[I" ∈ UU := UU_in (UU_t1 _ (List.mem_of_getElem? (i := 171) rfl)) rfl
theorem u1_172 : Jvm.Cond.fieldLink "StoneRoads" (206 : Nat) "StoneRoads$Plan" "turned" "[I" ∈ UU := UU_in (UU_t1 _ (List.mem_of_getElem? (i := 172) rfl)) rfl
theorem u1_173 : Jvm.Cond.fieldLink "StoneRoads$Plan" (51 : Nat) "StoneRoads$Plan" "sourceKnown" "[Z" ∈ UU := UU_in (UU_t1 _ (List.mem_of_getElem? (i := 173) rfl)) rfl
theorem u1_174 : Jvm.Cond.fieldLink "StoneRoads$Plan" (54 : Nat) "StoneRoads$Plan" "sinkKnown" "[Z" ∈ UU := UU_in (UU_t1 _ (List.mem_of_getElem? (i := 174) rfl)) rfl
theorem u1_175 : Jvm.Cond.fieldLink "StoneRoads$Plan" (60 : Nat) "StoneRoads$Plan" "opening" "LStoneRoads$Opening;" ∈ UU := UU_in (UU_t1 _ (List.mem_of_getElem? (i := 175) rfl)) rfl
theorem u1_176 : Jvm.Cond.fieldLink "StoneRoads$Plan" (67 : Nat) "StoneRoads$Plan" "way" "LStoneRoads$Loop;" ∈ UU := UU_in (UU_t1 _ (List.mem_of_getElem? (i := 176) rfl)) rfl
theorem u1_177 : Jvm.Cond.fieldLink "StoneRoads" (164 : Nat) "StoneRoads$Plan" "way" "LStoneRoads$Loop;" ∈ UU := UU_in (UU_t1 _ (List.mem_of_getElem? (i := 177) rfl)) rfl
theorem u1_211 : Jvm.Cond.classLink "StoneRoads$State" (25 : Nat) "StoneRoads$Rows" ∈ UU := UU_in (UU_t1 _ (List.mem_of_getElem? (i := 211) rfl)) rfl
theorem u1_212 : Jvm.Cond.instantiable "StoneRoads$Rows" (4 : Nat) ∈ UU := UU_in (UU_t1 _ (List.mem_of_getElem? (i := 212) rfl)) rfl
theorem u1_213 : Jvm.Cond.methodLink "StoneRoads$State" (27 : Nat) yX4_init ∈ UU := UU_in (UU_t1 _ (List.mem_of_getElem? (i := 213) rfl)) rfl
theorem u1_214 : Jvm.Cond.instanceMethod yX4_init ∈ UU := UU_in (UU_t1 _ (List.mem_of_getElem? (i := 214) rfl)) rfl
theorem u1_215 : Jvm.Cond.code yX4_init prog_6_method_1_code (2 : Nat) (Option.none : Option Jvm.ClassFile.FieldType) ∈ UU := UU_in (UU_t1 _ (List.mem_of_getElem? (i := 215) rfl)) rfl
theorem u1_216 : Jvm.Cond.methodLink "StoneRoads$Rows" (3 : Nat) objectInit ∈ UU := UU_in (UU_t1 _ (List.mem_of_getElem? (i := 216) rfl)) rfl
theorem u1_217 : Jvm.Cond.methodLink "StoneRoads$Rows" (22 : Nat) Lib.Math.min.name ∈ UU := UU_in (UU_t1 _ (List.mem_of_getElem? (i := 217) rfl)) rfl
theorem u1_218 : Jvm.Cond.static Lib.Math.min.name ∈ UU := UU_in (UU_t1 _ (List.mem_of_getElem? (i := 218) rfl)) rfl
theorem u1_219 : Jvm.Cond.code Lib.Math.min.name prog_13_method_69_code (2 : Nat) (Option.some Jvm.ClassFile.FieldType.int) ∈ UU := UU_in (UU_t1 _ (List.mem_of_getElem? (i := 219) rfl)) rfl
theorem u1_220 : Jvm.Cond.fieldLink "StoneRoads$Rows" (28 : Nat) "StoneRoads$Rows" "most" "I" ∈ UU := UU_in (UU_t1 _ (List.mem_of_getElem? (i := 220) rfl)) rfl
theorem u1_221 : Jvm.Cond.fieldLink "StoneRoads$Rows" (9 : Nat) "StoneRoads$Rows" "size" "I" ∈ UU := UU_in (UU_t1 _ (List.mem_of_getElem? (i := 221) rfl)) rfl
theorem u1_222 : Jvm.Cond.fieldLink "StoneRoads" (276 : Nat) "StoneRoads$Rows" "size" "I" ∈ UU := UU_in (UU_t1 _ (List.mem_of_getElem? (i := 222) rfl)) rfl
theorem u1_223 : Jvm.Cond.fieldLink "StoneRoads$Rows" (15 : Nat) "StoneRoads$Rows" "firsts" "[I" ∈ UU := UU_in (UU_t1 _ (List.mem_of_getElem? (i := 223) rfl)) rfl
theorem u1_224 : Jvm.Cond.fieldLink "StoneRoads" (277 : Nat) "StoneRoads$Rows" "firsts" "[I" ∈ UU := UU_in (UU_t1 _ (List.mem_of_getElem? (i := 224) rfl)) rfl
theorem u1_225 : Jvm.Cond.fieldLink "StoneRoads$Rows" (19 : Nat) "StoneRoads$Rows" "seconds" "[I" ∈ UU := UU_in (UU_t1 _ (List.mem_of_getElem? (i := 225) rfl)) rfl
theorem u1_226 : Jvm.Cond.fieldLink "StoneRoads" (280 : Nat) "StoneRoads$Rows" "seconds" "[I" ∈ UU := UU_in (UU_t1 _ (List.mem_of_getElem? (i := 226) rfl)) rfl
theorem u1_236 : Jvm.Cond.fieldLink "StoneRoads$State" (12 : Nat) "StoneRoads$State" "ground" "LStoneRoads$Ground;" ∈ UU := UU_in (UU_t1 _ (List.mem_of_getElem? (i := 236) rfl)) rfl
theorem u1_237 : Jvm.Cond.fieldLink "StoneRoads" (61 : Nat) "StoneRoads$State" "ground" "LStoneRoads$Ground;" ∈ UU := UU_in (UU_t1 _ (List.mem_of_getElem? (i := 237) rfl)) rfl
theorem u1_238 : Jvm.Cond.fieldLink "StoneRoads$State" (21 : Nat) "StoneRoads$State" "plan" "LStoneRoads$Plan;" ∈ UU := UU_in (UU_t1 _ (List.mem_of_getElem? (i := 238) rfl)) rfl
theorem u1_239 : Jvm.Cond.fieldLink "StoneRoads" (118 : Nat) "StoneRoads$State" "plan" "LStoneRoads$Plan;" ∈ UU := UU_in (UU_t1 _ (List.mem_of_getElem? (i := 239) rfl)) rfl
theorem u2_0 : Jvm.Cond.fieldLink "StoneRoads$State" (30 : Nat) "StoneRoads$State" "seen" "LStoneRoads$Rows;" ∈ UU := UU_in (UU_t2 _ (List.mem_of_getElem? (i := 0) rfl)) rfl
theorem u2_1 : Jvm.Cond.fieldLink "StoneRoads" (249 : Nat) "StoneRoads$State" "seen" "LStoneRoads$Rows;" ∈ UU := UU_in (UU_t2 _ (List.mem_of_getElem? (i := 1) rfl)) rfl
theorem u2_2 : Jvm.Cond.fieldLink "StoneRoads$State" (34 : Nat) "StoneRoads$State" "orders" "LStoneRoads$Rows;" ∈ UU := UU_in (UU_t2 _ (List.mem_of_getElem? (i := 2) rfl)) rfl
theorem u2_3 : Jvm.Cond.fieldLink "StoneRoads" (270 : Nat) "StoneRoads$State" "orders" "LStoneRoads$Rows;" ∈ UU := UU_in (UU_t2 _ (List.mem_of_getElem? (i := 3) rfl)) rfl
theorem u2_4 : Jvm.Cond.fieldLink "StoneRoads$State" (37 : Nat) "StoneRoads$State" "books" "LStoneRoads$Rows;" ∈ UU := UU_in (UU_t2 _ (List.mem_of_getElem? (i := 4) rfl)) rfl
theorem u2_5 : Jvm.Cond.fieldLink "StoneRoads" (298 : Nat) "StoneRoads$State" "books" "LStoneRoads$Rows;" ∈ UU := UU_in (UU_t2 _ (List.mem_of_getElem? (i := 5) rfl)) rfl
theorem u2_17 : Jvm.Cond.classLink "StoneRoads" (25 : Nat) "StoneRoads$SetUp" ∈ UU := UU_in (UU_t2 _ (List.mem_of_getElem? (i := 17) rfl)) rfl
theorem u2_18 : Jvm.Cond.instantiable "StoneRoads$SetUp" (9 : Nat) ∈ UU := UU_in (UU_t2 _ (List.mem_of_getElem? (i := 18) rfl)) rfl
theorem v2_19 : Jvm.Cond.methodLinkNest "StoneRoads" (27 : Nat) yX5_init "StoneRoads" ∈ lw_tbl := UU_t2 _ (List.mem_of_getElem? (i := 19) rfl)
theorem u2_20 : Jvm.Cond.instanceMethod yX5_init ∈ UU := UU_in (UU_t2 _ (List.mem_of_getElem? (i := 20) rfl)) rfl
theorem u2_21 : Jvm.Cond.code yX5_init prog_7_method_1_code (1 : Nat) (Option.none : Option Jvm.ClassFile.FieldType) ∈ UU := UU_in (UU_t2 _ (List.mem_of_getElem? (i := 21) rfl)) rfl
theorem u2_22 : Jvm.Cond.methodLink "StoneRoads$SetUp" (3 : Nat) objectInit ∈ UU := UU_in (UU_t2 _ (List.mem_of_getElem? (i := 22) rfl)) rfl
theorem u2_23 : Jvm.Cond.fieldLink "StoneRoads$SetUp" (9 : Nat) "StoneRoads$SetUp" "size" "I" ∈ UU := UU_in (UU_t2 _ (List.mem_of_getElem? (i := 23) rfl)) rfl
theorem u2_24 : Jvm.Cond.fieldLink "StoneRoads" (103 : Nat) "StoneRoads$SetUp" "size" "I" ∈ UU := UU_in (UU_t2 _ (List.mem_of_getElem? (i := 24) rfl)) rfl
theorem u2_25 : Jvm.Cond.fieldLink "StoneRoads$SetUp" (15 : Nat) "StoneRoads$SetUp" "clauses" "I" ∈ UU := UU_in (UU_t2 _ (List.mem_of_getElem? (i := 25) rfl)) rfl
theorem u2_26 : Jvm.Cond.fieldLink "StoneRoads" (107 : Nat) "StoneRoads$SetUp" "clauses" "I" ∈ UU := UU_in (UU_t2 _ (List.mem_of_getElem? (i := 26) rfl)) rfl
theorem u2_27 : Jvm.Cond.fieldLink "StoneRoads$SetUp" (18 : Nat) "StoneRoads$SetUp" "signs" "[C" ∈ UU := UU_in (UU_t2 _ (List.mem_of_getElem? (i := 27) rfl)) rfl
theorem u2_28 : Jvm.Cond.fieldLink "StoneRoads$SetUp" (22 : Nat) "StoneRoads$SetUp" "at" "I" ∈ UU := UU_in (UU_t2 _ (List.mem_of_getElem? (i := 28) rfl)) rfl
theorem u2_29 : Jvm.Cond.fieldLink "StoneRoads$SetUp" (25 : Nat) "StoneRoads$SetUp" "letters" "[C" ∈ UU := UU_in (UU_t2 _ (List.mem_of_getElem? (i := 29) rfl)) rfl
theorem u2_30 : Jvm.Cond.fieldLink "StoneRoads$SetUp" (28 : Nat) "StoneRoads$SetUp" "firsts" "[I" ∈ UU := UU_in (UU_t2 _ (List.mem_of_getElem? (i := 30) rfl)) rfl
theorem u2_31 : Jvm.Cond.fieldLink "StoneRoads$SetUp" (32 : Nat) "StoneRoads$SetUp" "seconds" "[I" ∈ UU := UU_in (UU_t2 _ (List.mem_of_getElem? (i := 31) rfl)) rfl
theorem u2_32 : Jvm.Cond.fieldLink "StoneRoads$SetUp" (35 : Nat) "StoneRoads$SetUp" "kinds" "[I" ∈ UU := UU_in (UU_t2 _ (List.mem_of_getElem? (i := 32) rfl)) rfl
theorem u2_33 : Jvm.Cond.fieldLink "StoneRoads$SetUp" (38 : Nat) "StoneRoads$SetUp" "bases" "[I" ∈ UU := UU_in (UU_t2 _ (List.mem_of_getElem? (i := 33) rfl)) rfl
theorem u2_53 : Jvm.Cond.arrayClass Jvm.ClassFile.FieldType.char ∈ UU := UU_in (UU_t2 _ (List.mem_of_getElem? (i := 53) rfl)) rfl
theorem u2_54 : Jvm.Cond.classLink "StoneRoads" (32 : Nat) "StoneRoads$Tape" ∈ UU := UU_in (UU_t2 _ (List.mem_of_getElem? (i := 54) rfl)) rfl
theorem v2_55 : Jvm.Cond.arrayOver (Jvm.ClassFile.FieldType.object "StoneRoads$Tape") ∈ lw_tbl := UU_t2 _ (List.mem_of_getElem? (i := 55) rfl)
theorem u2_56 : Jvm.Cond.classLink "StoneRoads" (38 : Nat) "StoneRoads$Ground" ∈ UU := UU_in (UU_t2 _ (List.mem_of_getElem? (i := 56) rfl)) rfl
theorem u2_57 : Jvm.Cond.methodLink "StoneRoads" (40 : Nat) yX0_init ∈ UU := UU_in (UU_t2 _ (List.mem_of_getElem? (i := 57) rfl)) rfl
theorem u2_58 : Jvm.Cond.classLink "StoneRoads" (45 : Nat) "StoneRoads$Plan" ∈ UU := UU_in (UU_t2 _ (List.mem_of_getElem? (i := 58) rfl)) rfl
theorem v2_59 : Jvm.Cond.methodLinkNest "StoneRoads" (47 : Nat) yX3_init "StoneRoads" ∈ lw_tbl := UU_t2 _ (List.mem_of_getElem? (i := 59) rfl)
theorem u2_60 : Jvm.Cond.instantiable "StoneRoads$Tape" (3 : Nat) ∈ UU := UU_in (UU_t2 _ (List.mem_of_getElem? (i := 60) rfl)) rfl
theorem v2_61 : Jvm.Cond.methodLinkNest "StoneRoads" (52 : Nat) yX7_init "StoneRoads" ∈ lw_tbl := UU_t2 _ (List.mem_of_getElem? (i := 61) rfl)
theorem u2_62 : Jvm.Cond.instanceMethod yX7_init ∈ UU := UU_in (UU_t2 _ (List.mem_of_getElem? (i := 62) rfl)) rfl
theorem u2_63 : Jvm.Cond.code yX7_init prog_9_method_1_code (1 : Nat) (Option.none : Option Jvm.ClassFile.FieldType) ∈ UU := UU_in (UU_t2 _ (List.mem_of_getElem? (i := 63) rfl)) rfl
theorem u2_64 : Jvm.Cond.methodLink "StoneRoads$Tape" (3 : Nat) objectInit ∈ UU := UU_in (UU_t2 _ (List.mem_of_getElem? (i := 64) rfl)) rfl
theorem u2_65 : Jvm.Cond.fieldLink "StoneRoads$Tape" (9 : Nat) "StoneRoads$Tape" "sort" "I" ∈ UU := UU_in (UU_t2 _ (List.mem_of_getElem? (i := 65) rfl)) rfl
theorem u2_66 : Jvm.Cond.fieldLink "StoneRoads" (305 : Nat) "StoneRoads$Tape" "sort" "I" ∈ UU := UU_in (UU_t2 _ (List.mem_of_getElem? (i := 66) rfl)) rfl
theorem u2_67 : Jvm.Cond.fieldLink "StoneRoads$Tape" (15 : Nat) "StoneRoads$Tape" "size" "I" ∈ UU := UU_in (UU_t2 _ (List.mem_of_getElem? (i := 67) rfl)) rfl
theorem u2_68 : Jvm.Cond.fieldLink "StoneRoads$Tape" (18 : Nat) "StoneRoads$Tape" "items" "[J" ∈ UU := UU_in (UU_t2 _ (List.mem_of_getElem? (i := 68) rfl)) rfl
theorem u2_69 : Jvm.Cond.fieldLink "StoneRoads$Plan" (160 : Nat) "StoneRoads$Tape" "items" "[J" ∈ UU := UU_in (UU_t2 _ (List.mem_of_getElem? (i := 69) rfl)) rfl
theorem u2_70 : Jvm.Cond.fieldLink "StoneRoads" (324 : Nat) "StoneRoads$Tape" "items" "[J" ∈ UU := UU_in (UU_t2 _ (List.mem_of_getElem? (i := 70) rfl)) rfl
theorem u2_78 : Jvm.Cond.arrayClass Jvm.ClassFile.FieldType.long ∈ UU := UU_in (UU_t2 _ (List.mem_of_getElem? (i := 78) rfl)) rfl
theorem u2_79 : Jvm.Cond.fieldLink "StoneRoads" (14 : Nat) "StoneRoads" "now" "LStoneRoads$State;" ∈ UU := UU_in (UU_t2 _ (List.mem_of_getElem? (i := 79) rfl)) rfl
theorem u2_80 : Jvm.Cond.fieldLink "StoneRoads" (18 : Nat) "StoneRoads" "kept" "LStoneRoads$State;" ∈ UU := UU_in (UU_t2 _ (List.mem_of_getElem? (i := 80) rfl)) rfl
theorem u2_81 : Jvm.Cond.fieldLink "StoneRoads" (21 : Nat) "StoneRoads" "isKept" "Z" ∈ UU := UU_in (UU_t2 _ (List.mem_of_getElem? (i := 81) rfl)) rfl
theorem u2_82 : Jvm.Cond.fieldLink "StoneRoads" (28 : Nat) "StoneRoads" "text" "LStoneRoads$SetUp;" ∈ UU := UU_in (UU_t2 _ (List.mem_of_getElem? (i := 82) rfl)) rfl
theorem u2_83 : Jvm.Cond.fieldLink "StoneRoads" (34 : Nat) "StoneRoads" "tapes" "[LStoneRoads$Tape;" ∈ UU := UU_in (UU_t2 _ (List.mem_of_getElem? (i := 83) rfl)) rfl
theorem u2_84 : Jvm.Cond.fieldLink "StoneRoads" (41 : Nat) "StoneRoads" "trialGround" "LStoneRoads$Ground;" ∈ UU := UU_in (UU_t2 _ (List.mem_of_getElem? (i := 84) rfl)) rfl
theorem u2_85 : Jvm.Cond.fieldLink "StoneRoads" (48 : Nat) "StoneRoads" "trial" "LStoneRoads$Plan;" ∈ UU := UU_in (UU_t2 _ (List.mem_of_getElem? (i := 85) rfl)) rfl
theorem u2_101 : Jvm.Cond.methodLink "StoneRoadsLaw" (13 : Nat) yX8_quarry ∈ UU := UU_in (UU_t2 _ (List.mem_of_getElem? (i := 101) rfl)) rfl
theorem u2_102 : Jvm.Cond.instanceMethod yX8_quarry ∈ UU := UU_in (UU_t2 _ (List.mem_of_getElem? (i := 102) rfl)) rfl
theorem u2_103 : Jvm.Cond.selects "StoneRoads" yX8_quarry yX8_quarry ∈ UU := UU_in (UU_t2 _ (List.mem_of_getElem? (i := 103) rfl)) rfl
theorem u2_104 : Jvm.Cond.code yX8_quarry prog_1_method_2_code (3 : Nat) (Option.some Jvm.ClassFile.FieldType.int) ∈ UU := UU_in (UU_t2 _ (List.mem_of_getElem? (i := 104) rfl)) rfl
theorem u2_105 : Jvm.Cond.methodLink "StoneRoads" (53 : Nat) yX8_isUpTo ∈ UU := UU_in (UU_t2 _ (List.mem_of_getElem? (i := 105) rfl)) rfl
theorem u2_106 : Jvm.Cond.static yX8_isUpTo ∈ UU := UU_in (UU_t2 _ (List.mem_of_getElem? (i := 106) rfl)) rfl
theorem u2_107 : Jvm.Cond.code yX8_isUpTo prog_1_method_41_code (2 : Nat) (Option.some Jvm.ClassFile.FieldType.boolean) ∈ UU := UU_in (UU_t2 _ (List.mem_of_getElem? (i := 107) rfl)) rfl
theorem u2_108 : Jvm.Cond.methodLink "StoneRoads" (57 : Nat) yX6_addSite ∈ UU := UU_in (UU_t2 _ (List.mem_of_getElem? (i := 108) rfl)) rfl
theorem u2_109 : Jvm.Cond.instanceMethod yX6_addSite ∈ UU := UU_in (UU_t2 _ (List.mem_of_getElem? (i := 109) rfl)) rfl
theorem u2_110 : Jvm.Cond.selects "StoneRoads$State" yX6_addSite yX6_addSite ∈ UU := UU_in (UU_t2 _ (List.mem_of_getElem? (i := 110) rfl)) rfl
theorem u2_111 : Jvm.Cond.code yX6_addSite prog_8_method_3_code (5 : Nat) (Option.some Jvm.ClassFile.FieldType.int) ∈ UU := UU_in (UU_t2 _ (List.mem_of_getElem? (i := 111) rfl)) rfl
theorem u2_112 : Jvm.Cond.methodLink "StoneRoads$State" (57 : Nat) yX0_row ∈ UU := UU_in (UU_t2 _ (List.mem_of_getElem? (i := 112) rfl)) rfl
theorem u2_113 : Jvm.Cond.instanceMethod yX0_row ∈ UU := UU_in (UU_t2 _ (List.mem_of_getElem? (i := 113) rfl)) rfl
theorem u2_114 : Jvm.Cond.selects "StoneRoads$Ground" yX0_row yX0_row ∈ UU := UU_in (UU_t2 _ (List.mem_of_getElem? (i := 114) rfl)) rfl
theorem u2_115 : Jvm.Cond.code yX0_row prog_2_method_6_code (3 : Nat) (Option.some (Jvm.ClassFile.FieldType.array Jvm.ClassFile.FieldType.int)) ∈ UU := UU_in (UU_t2 _ (List.mem_of_getElem? (i := 115) rfl)) rfl
theorem u2_116 : Jvm.Cond.methodLink "StoneRoadsLaw" (18 : Nat) yX8_work ∈ UU := UU_in (UU_t2 _ (List.mem_of_getElem? (i := 116) rfl)) rfl
theorem u2_117 : Jvm.Cond.instanceMethod yX8_work ∈ UU := UU_in (UU_t2 _ (List.mem_of_getElem? (i := 117) rfl)) rfl
theorem u2_118 : Jvm.Cond.selects "StoneRoads" yX8_work yX8_work ∈ UU := UU_in (UU_t2 _ (List.mem_of_getElem? (i := 118) rfl)) rfl
theorem u2_119 : Jvm.Cond.code yX8_work prog_1_method_3_code (3 : Nat) (Option.some Jvm.ClassFile.FieldType.int) ∈ UU := UU_in (UU_t2 _ (List.mem_of_getElem? (i := 119) rfl)) rfl
theorem u2_120 : Jvm.Cond.methodLink "StoneRoadsLaw" (22 : Nat) yX8_renew ∈ UU := UU_in (UU_t2 _ (List.mem_of_getElem? (i := 120) rfl)) rfl
theorem u2_121 : Jvm.Cond.instanceMethod yX8_renew ∈ UU := UU_in (UU_t2 _ (List.mem_of_getElem? (i := 121) rfl)) rfl
theorem u2_122 : Jvm.Cond.selects "StoneRoads" yX8_renew yX8_renew ∈ UU := UU_in (UU_t2 _ (List.mem_of_getElem? (i := 122) rfl)) rfl
theorem u2_123 : Jvm.Cond.code yX8_renew prog_1_method_4_code (5 : Nat) (Option.some Jvm.ClassFile.FieldType.int) ∈ UU := UU_in (UU_t2 _ (List.mem_of_getElem? (i := 123) rfl)) rfl
theorem u2_124 : Jvm.Cond.methodLink "StoneRoads" (64 : Nat) yX0_isSite ∈ UU := UU_in (UU_t2 _ (List.mem_of_getElem? (i := 124) rfl)) rfl
theorem u2_125 : Jvm.Cond.instanceMethod yX0_isSite ∈ UU := UU_in (UU_t2 _ (List.mem_of_getElem? (i := 125) rfl)) rfl
theorem u2_126 : Jvm.Cond.selects "StoneRoads$Ground" yX0_isSite yX0_isSite ∈ UU := UU_in (UU_t2 _ (List.mem_of_getElem? (i := 126) rfl)) rfl
theorem u2_127 : Jvm.Cond.code yX0_isSite prog_2_method_4_code (3 : Nat) (Option.some Jvm.ClassFile.FieldType.boolean) ∈ UU := UU_in (UU_t2 _ (List.mem_of_getElem? (i := 127) rfl)) rfl
theorem u2_128 : Jvm.Cond.methodLink "StoneRoads" (67 : Nat) yX6_changeSite ∈ UU := UU_in (UU_t2 _ (List.mem_of_getElem? (i := 128) rfl)) rfl
theorem u2_129 : Jvm.Cond.instanceMethod yX6_changeSite ∈ UU := UU_in (UU_t2 _ (List.mem_of_getElem? (i := 129) rfl)) rfl
theorem u2_130 : Jvm.Cond.selects "StoneRoads$State" yX6_changeSite yX6_changeSite ∈ UU := UU_in (UU_t2 _ (List.mem_of_getElem? (i := 130) rfl)) rfl
theorem u2_131 : Jvm.Cond.code yX6_changeSite prog_8_method_4_code (7 : Nat) (Option.some Jvm.ClassFile.FieldType.int) ∈ UU := UU_in (UU_t2 _ (List.mem_of_getElem? (i := 131) rfl)) rfl
theorem u2_132 : Jvm.Cond.methodLink "StoneRoadsLaw" (27 : Nat) yX8_road ∈ UU := UU_in (UU_t2 _ (List.mem_of_getElem? (i := 132) rfl)) rfl
theorem u2_133 : Jvm.Cond.instanceMethod yX8_road ∈ UU := UU_in (UU_t2 _ (List.mem_of_getElem? (i := 133) rfl)) rfl
theorem u2_134 : Jvm.Cond.selects "StoneRoads" yX8_road yX8_road ∈ UU := UU_in (UU_t2 _ (List.mem_of_getElem? (i := 134) rfl)) rfl
theorem u2_135 : Jvm.Cond.code yX8_road prog_1_method_5_code (5 : Nat) (Option.some Jvm.ClassFile.FieldType.int) ∈ UU := UU_in (UU_t2 _ (List.mem_of_getElem? (i := 135) rfl)) rfl
theorem u2_136 : Jvm.Cond.methodLink "StoneRoads" (71 : Nat) yX0_isRoad ∈ UU := UU_in (UU_t2 _ (List.mem_of_getElem? (i := 136) rfl)) rfl
theorem u2_137 : Jvm.Cond.instanceMethod yX0_isRoad ∈ UU := UU_in (UU_t2 _ (List.mem_of_getElem? (i := 137) rfl)) rfl
theorem u2_138 : Jvm.Cond.selects "StoneRoads$Ground" yX0_isRoad yX0_isRoad ∈ UU := UU_in (UU_t2 _ (List.mem_of_getElem? (i := 138) rfl)) rfl
theorem u2_139 : Jvm.Cond.code yX0_isRoad prog_2_method_5_code (3 : Nat) (Option.some Jvm.ClassFile.FieldType.boolean) ∈ UU := UU_in (UU_t2 _ (List.mem_of_getElem? (i := 139) rfl)) rfl
theorem u2_140 : Jvm.Cond.methodLink "StoneRoads" (74 : Nat) yX6_changeRoad ∈ UU := UU_in (UU_t2 _ (List.mem_of_getElem? (i := 140) rfl)) rfl
theorem u2_141 : Jvm.Cond.instanceMethod yX6_changeRoad ∈ UU := UU_in (UU_t2 _ (List.mem_of_getElem? (i := 141) rfl)) rfl
theorem u2_142 : Jvm.Cond.selects "StoneRoads$State" yX6_changeRoad yX6_changeRoad ∈ UU := UU_in (UU_t2 _ (List.mem_of_getElem? (i := 142) rfl)) rfl
theorem u2_143 : Jvm.Cond.code yX6_changeRoad prog_8_method_5_code (7 : Nat) (Option.some Jvm.ClassFile.FieldType.int) ∈ UU := UU_in (UU_t2 _ (List.mem_of_getElem? (i := 143) rfl)) rfl
theorem u2_144 : Jvm.Cond.methodLink "StoneRoads$State" (65 : Nat) yX0_isRoad ∈ UU := UU_in (UU_t2 _ (List.mem_of_getElem? (i := 144) rfl)) rfl
theorem v2_145 : Jvm.Cond.methodLinkNest "StoneRoads$State" (69 : Nat) yX8_roadAt "StoneRoads" ∈ lw_tbl := UU_t2 _ (List.mem_of_getElem? (i := 145) rfl)
theorem u2_146 : Jvm.Cond.static yX8_roadAt ∈ UU := UU_in (UU_t2 _ (List.mem_of_getElem? (i := 146) rfl)) rfl
theorem u2_147 : Jvm.Cond.code yX8_roadAt prog_1_method_43_code (2 : Nat) (Option.some Jvm.ClassFile.FieldType.int) ∈ UU := UU_in (UU_t2 _ (List.mem_of_getElem? (i := 147) rfl)) rfl
theorem u2_148 : Jvm.Cond.methodLink "StoneRoadsLaw" (31 : Nat) yX8_of ∈ UU := UU_in (UU_t2 _ (List.mem_of_getElem? (i := 148) rfl)) rfl
theorem u2_149 : Jvm.Cond.instanceMethod yX8_of ∈ UU := UU_in (UU_t2 _ (List.mem_of_getElem? (i := 149) rfl)) rfl
theorem u2_150 : Jvm.Cond.selects "StoneRoads" yX8_of yX8_of ∈ UU := UU_in (UU_t2 _ (List.mem_of_getElem? (i := 150) rfl)) rfl
theorem u2_151 : Jvm.Cond.code yX8_of prog_1_method_6_code (4 : Nat) (Option.some Jvm.ClassFile.FieldType.int) ∈ UU := UU_in (UU_t2 _ (List.mem_of_getElem? (i := 151) rfl)) rfl
theorem u2_152 : Jvm.Cond.methodLink "StoneRoads" (77 : Nat) yX0_row ∈ UU := UU_in (UU_t2 _ (List.mem_of_getElem? (i := 152) rfl)) rfl
theorem u2_153 : Jvm.Cond.methodLink "StoneRoadsLaw" (36 : Nat) yX8_roadOf ∈ UU := UU_in (UU_t2 _ (List.mem_of_getElem? (i := 153) rfl)) rfl
theorem u2_154 : Jvm.Cond.instanceMethod yX8_roadOf ∈ UU := UU_in (UU_t2 _ (List.mem_of_getElem? (i := 154) rfl)) rfl
theorem u2_155 : Jvm.Cond.selects "StoneRoads" yX8_roadOf yX8_roadOf ∈ UU := UU_in (UU_t2 _ (List.mem_of_getElem? (i := 155) rfl)) rfl
theorem u2_156 : Jvm.Cond.code yX8_roadOf prog_1_method_7_code (4 : Nat) (Option.some Jvm.ClassFile.FieldType.int) ∈ UU := UU_in (UU_t2 _ (List.mem_of_getElem? (i := 156) rfl)) rfl
theorem u2_157 : Jvm.Cond.methodLink "StoneRoads" (85 : Nat) yX8_roadAt ∈ UU := UU_in (UU_t2 _ (List.mem_of_getElem? (i := 157) rfl)) rfl
theorem u2_158 : Jvm.Cond.methodLink "StoneRoads" (92 : Nat) yX0_costOf ∈ UU := UU_in (UU_t2 _ (List.mem_of_getElem? (i := 158) rfl)) rfl
theorem u2_159 : Jvm.Cond.instanceMethod yX0_costOf ∈ UU := UU_in (UU_t2 _ (List.mem_of_getElem? (i := 159) rfl)) rfl
theorem u2_160 : Jvm.Cond.selects "StoneRoads$Ground" yX0_costOf yX0_costOf ∈ UU := UU_in (UU_t2 _ (List.mem_of_getElem? (i := 160) rfl)) rfl
theorem u2_161 : Jvm.Cond.code yX0_costOf prog_2_method_7_code (5 : Nat) (Option.some Jvm.ClassFile.FieldType.int) ∈ UU := UU_in (UU_t2 _ (List.mem_of_getElem? (i := 161) rfl)) rfl
theorem u2_162 : Jvm.Cond.methodLink "StoneRoads$Ground" (49 : Nat) yX0_isRoad ∈ UU := UU_in (UU_t2 _ (List.mem_of_getElem? (i := 162) rfl)) rfl
theorem v2_163 : Jvm.Cond.methodLinkNest "StoneRoads$Ground" (53 : Nat) yX8_roadAt "StoneRoads" ∈ lw_tbl := UU_t2 _ (List.mem_of_getElem? (i := 163) rfl)
theorem u2_164 : Jvm.Cond.methodLink "StoneRoadsLaw" (40 : Nat) yX8_feed ∈ UU := UU_in (UU_t2 _ (List.mem_of_getElem? (i := 164) rfl)) rfl
theorem u2_165 : Jvm.Cond.instanceMethod yX8_feed ∈ UU := UU_in (UU_t2 _ (List.mem_of_getElem? (i := 165) rfl)) rfl
theorem u2_166 : Jvm.Cond.selects "StoneRoads" yX8_feed yX8_feed ∈ UU := UU_in (UU_t2 _ (List.mem_of_getElem? (i := 166) rfl)) rfl
theorem u2_167 : Jvm.Cond.code yX8_feed prog_1_method_8_code (2 : Nat) (Option.some Jvm.ClassFile.FieldType.int) ∈ UU := UU_in (UU_t2 _ (List.mem_of_getElem? (i := 167) rfl)) rfl
theorem u2_168 : Jvm.Cond.methodLink "StoneRoads" (95 : Nat) yX5_add ∈ UU := UU_in (UU_t2 _ (List.mem_of_getElem? (i := 168) rfl)) rfl
theorem u2_169 : Jvm.Cond.instanceMethod yX5_add ∈ UU := UU_in (UU_t2 _ (List.mem_of_getElem? (i := 169) rfl)) rfl
theorem u2_170 : Jvm.Cond.selects "StoneRoads$SetUp" yX5_add yX5_add ∈ UU := UU_in (UU_t2 _ (List.mem_of_getElem? (i := 170) rfl)) rfl
theorem u2_171 : Jvm.Cond.code yX5_add prog_7_method_2_code (2 : Nat) (Option.some Jvm.ClassFile.FieldType.int) ∈ UU := UU_in (UU_t2 _ (List.mem_of_getElem? (i := 171) rfl)) rfl
theorem u2_172 : Jvm.Cond.methodLink "StoneRoadsLaw" (45 : Nat) yX8_read ∈ UU := UU_in (UU_t2 _ (List.mem_of_getElem? (i := 172) rfl)) rfl
theorem u2_173 : Jvm.Cond.instanceMethod yX8_read ∈ UU := UU_in (UU_t2 _ (List.mem_of_getElem? (i := 173) rfl)) rfl
theorem u2_174 : Jvm.Cond.selects "StoneRoads" yX8_read yX8_read ∈ UU := UU_in (UU_t2 _ (List.mem_of_getElem? (i := 174) rfl)) rfl
theorem u2_175 : Jvm.Cond.code yX8_read prog_1_method_9_code (4 : Nat) (Option.some Jvm.ClassFile.FieldType.int) ∈ UU := UU_in (UU_t2 _ (List.mem_of_getElem? (i := 175) rfl)) rfl
theorem u2_176 : Jvm.Cond.methodLink "StoneRoads" (99 : Nat) yX5_findFault ∈ UU := UU_in (UU_t2 _ (List.mem_of_getElem? (i := 176) rfl)) rfl
theorem u2_177 : Jvm.Cond.instanceMethod yX5_findFault ∈ UU := UU_in (UU_t2 _ (List.mem_of_getElem? (i := 177) rfl)) rfl
theorem u2_178 : Jvm.Cond.selects "StoneRoads$SetUp" yX5_findFault yX5_findFault ∈ UU := UU_in (UU_t2 _ (List.mem_of_getElem? (i := 178) rfl)) rfl
theorem u2_179 : Jvm.Cond.code yX5_findFault prog_7_method_3_code (2 : Nat) (Option.some Jvm.ClassFile.FieldType.int) ∈ UU := UU_in (UU_t2 _ (List.mem_of_getElem? (i := 179) rfl)) rfl
theorem u2_180 : Jvm.Cond.methodLink "StoneRoads$SetUp" (41 : Nat) yX5_takeClause ∈ UU := UU_in (UU_t2 _ (List.mem_of_getElem? (i := 180) rfl)) rfl
theorem u2_182 : Jvm.Cond.instanceMethod yX5_takeClause ∈ UU := UU_in (UU_t2 _ (List.mem_of_getElem? (i := 182) rfl)) rfl
theorem u2_183 : Jvm.Cond.code yX5_takeClause prog_7_method_5_code (2 : Nat) (Option.some Jvm.ClassFile.FieldType.boolean) ∈ UU := UU_in (UU_t2 _ (List.mem_of_getElem? (i := 183) rfl)) rfl
theorem u2_184 : Jvm.Cond.methodLink "StoneRoads$SetUp" (45 : Nat) yX5_take ∈ UU := UU_in (UU_t2 _ (List.mem_of_getElem? (i := 184) rfl)) rfl
theorem u2_186 : Jvm.Cond.instanceMethod yX5_take ∈ UU := UU_in (UU_t2 _ (List.mem_of_getElem? (i := 186) rfl)) rfl
theorem u2_187 : Jvm.Cond.code yX5_take prog_7_method_8_code (2 : Nat) (Option.some Jvm.ClassFile.FieldType.boolean) ∈ UU := UU_in (UU_t2 _ (List.mem_of_getElem? (i := 187) rfl)) rfl
theorem u2_188 : Jvm.Cond.methodLink "StoneRoads$SetUp" (59 : Nat) yX5_takeSite ∈ UU := UU_in (UU_t2 _ (List.mem_of_getElem? (i := 188) rfl)) rfl
theorem u2_190 : Jvm.Cond.instanceMethod yX5_takeSite ∈ UU := UU_in (UU_t2 _ (List.mem_of_getElem? (i := 190) rfl)) rfl
theorem u2_191 : Jvm.Cond.code yX5_takeSite prog_7_method_6_code (2 : Nat) (Option.some Jvm.ClassFile.FieldType.boolean) ∈ UU := UU_in (UU_t2 _ (List.mem_of_getElem? (i := 191) rfl)) rfl
theorem u2_192 : Jvm.Cond.methodLink "StoneRoads$SetUp" (65 : Nat) yX5_takeNumber ∈ UU := UU_in (UU_t2 _ (List.mem_of_getElem? (i := 192) rfl)) rfl
theorem u2_194 : Jvm.Cond.instanceMethod yX5_takeNumber ∈ UU := UU_in (UU_t2 _ (List.mem_of_getElem? (i := 194) rfl)) rfl
theorem u2_195 : Jvm.Cond.code yX5_takeNumber prog_7_method_11_code (3 : Nat) (Option.some Jvm.ClassFile.FieldType.int) ∈ UU := UU_in (UU_t2 _ (List.mem_of_getElem? (i := 195) rfl)) rfl
theorem u2_196 : Jvm.Cond.methodLink "StoneRoads$SetUp" (69 : Nat) yX5_takeDigit ∈ UU := UU_in (UU_t2 _ (List.mem_of_getElem? (i := 196) rfl)) rfl
theorem u2_198 : Jvm.Cond.instanceMethod yX5_takeDigit ∈ UU := UU_in (UU_t2 _ (List.mem_of_getElem? (i := 198) rfl)) rfl
theorem u2_199 : Jvm.Cond.code yX5_takeDigit prog_7_method_10_code (2 : Nat) (Option.some Jvm.ClassFile.FieldType.int) ∈ UU := UU_in (UU_t2 _ (List.mem_of_getElem? (i := 199) rfl)) rfl
theorem u2_200 : Jvm.Cond.methodLink "StoneRoads$SetUp" (62 : Nat) yX5_takeRoad ∈ UU := UU_in (UU_t2 _ (List.mem_of_getElem? (i := 200) rfl)) rfl
theorem u2_202 : Jvm.Cond.instanceMethod yX5_takeRoad ∈ UU := UU_in (UU_t2 _ (List.mem_of_getElem? (i := 202) rfl)) rfl
theorem u2_203 : Jvm.Cond.code yX5_takeRoad prog_7_method_7_code (2 : Nat) (Option.some Jvm.ClassFile.FieldType.boolean) ∈ UU := UU_in (UU_t2 _ (List.mem_of_getElem? (i := 203) rfl)) rfl
theorem u2_204 : Jvm.Cond.methodLink "StoneRoads$SetUp" (72 : Nat) yX5_takeKind ∈ UU := UU_in (UU_t2 _ (List.mem_of_getElem? (i := 204) rfl)) rfl
theorem u2_206 : Jvm.Cond.instanceMethod yX5_takeKind ∈ UU := UU_in (UU_t2 _ (List.mem_of_getElem? (i := 206) rfl)) rfl
theorem u2_207 : Jvm.Cond.code yX5_takeKind prog_7_method_9_code (1 : Nat) (Option.some Jvm.ClassFile.FieldType.int) ∈ UU := UU_in (UU_t2 _ (List.mem_of_getElem? (i := 207) rfl)) rfl
theorem u2_208 : Jvm.Cond.methodLink "StoneRoads" (110 : Nat) yX5_perform ∈ UU := UU_in (UU_t2 _ (List.mem_of_getElem? (i := 208) rfl)) rfl
theorem u2_209 : Jvm.Cond.instanceMethod yX5_perform ∈ UU := UU_in (UU_t2 _ (List.mem_of_getElem? (i := 209) rfl)) rfl
theorem u2_210 : Jvm.Cond.selects "StoneRoads$SetUp" yX5_perform yX5_perform ∈ UU := UU_in (UU_t2 _ (List.mem_of_getElem? (i := 210) rfl)) rfl
theorem u2_211 : Jvm.Cond.code yX5_perform prog_7_method_4_code (3 : Nat) (Option.some Jvm.ClassFile.FieldType.int) ∈ UU := UU_in (UU_t2 _ (List.mem_of_getElem? (i := 211) rfl)) rfl
theorem u2_212 : Jvm.Cond.methodLink "StoneRoads$SetUp" (49 : Nat) yX6_addSite ∈ UU := UU_in (UU_t2 _ (List.mem_of_getElem? (i := 212) rfl)) rfl
theorem u2_213 : Jvm.Cond.methodLink "StoneRoads$SetUp" (55 : Nat) yX6_changeRoad ∈ UU := UU_in (UU_t2 _ (List.mem_of_getElem? (i := 213) rfl)) rfl
theorem u2_214 : Jvm.Cond.methodLink "StoneRoadsLaw" (50 : Nat) yX8_start ∈ UU := UU_in (UU_t2 _ (List.mem_of_getElem? (i := 214) rfl)) rfl
theorem u2_215 : Jvm.Cond.instanceMethod yX8_start ∈ UU := UU_in (UU_t2 _ (List.mem_of_getElem? (i := 215) rfl)) rfl
theorem u2_216 : Jvm.Cond.selects "StoneRoads" yX8_start yX8_start ∈ UU := UU_in (UU_t2 _ (List.mem_of_getElem? (i := 216) rfl)) rfl
theorem u2_217 : Jvm.Cond.code yX8_start prog_1_method_10_code (2 : Nat) (Option.some Jvm.ClassFile.FieldType.int) ∈ UU := UU_in (UU_t2 _ (List.mem_of_getElem? (i := 217) rfl)) rfl
theorem u2_218 : Jvm.Cond.methodLink "StoneRoads" (114 : Nat) yX0_hasBothSides ∈ UU := UU_in (UU_t2 _ (List.mem_of_getElem? (i := 218) rfl)) rfl
theorem u2_219 : Jvm.Cond.instanceMethod yX0_hasBothSides ∈ UU := UU_in (UU_t2 _ (List.mem_of_getElem? (i := 219) rfl)) rfl
theorem u2_220 : Jvm.Cond.selects "StoneRoads$Ground" yX0_hasBothSides yX0_hasBothSides ∈ UU := UU_in (UU_t2 _ (List.mem_of_getElem? (i := 220) rfl)) rfl
theorem u2_221 : Jvm.Cond.code yX0_hasBothSides prog_2_method_3_code (1 : Nat) (Option.some Jvm.ClassFile.FieldType.boolean) ∈ UU := UU_in (UU_t2 _ (List.mem_of_getElem? (i := 221) rfl)) rfl
theorem u2_222 : Jvm.Cond.methodLink "StoneRoads" (121 : Nat) yX3_startOn ∈ UU := UU_in (UU_t2 _ (List.mem_of_getElem? (i := 222) rfl)) rfl
theorem u2_223 : Jvm.Cond.instanceMethod yX3_startOn ∈ UU := UU_in (UU_t2 _ (List.mem_of_getElem? (i := 223) rfl)) rfl
theorem u2_224 : Jvm.Cond.selects "StoneRoads$Plan" yX3_startOn yX3_startOn ∈ UU := UU_in (UU_t2 _ (List.mem_of_getElem? (i := 224) rfl)) rfl
theorem u2_225 : Jvm.Cond.code yX3_startOn prog_5_method_4_code (5 : Nat) (Option.none : Option Jvm.ClassFile.FieldType) ∈ UU := UU_in (UU_t2 _ (List.mem_of_getElem? (i := 225) rfl)) rfl
theorem u2_226 : Jvm.Cond.methodLink "StoneRoads$Plan" (77 : Nat) yX2_openAll ∈ UU := UU_in (UU_t2 _ (List.mem_of_getElem? (i := 226) rfl)) rfl
theorem u2_227 : Jvm.Cond.instanceMethod yX2_openAll ∈ UU := UU_in (UU_t2 _ (List.mem_of_getElem? (i := 227) rfl)) rfl
theorem u2_228 : Jvm.Cond.selects "StoneRoads$Opening" yX2_openAll yX2_openAll ∈ UU := UU_in (UU_t2 _ (List.mem_of_getElem? (i := 228) rfl)) rfl
theorem u2_229 : Jvm.Cond.code yX2_openAll prog_4_method_2_code (4 : Nat) (Option.none : Option Jvm.ClassFile.FieldType) ∈ UU := UU_in (UU_t2 _ (List.mem_of_getElem? (i := 229) rfl)) rfl
theorem u2_230 : Jvm.Cond.methodLink "StoneRoads$Opening" (44 : Nat) yX0_allStones ∈ UU := UU_in (UU_t2 _ (List.mem_of_getElem? (i := 230) rfl)) rfl
theorem u2_231 : Jvm.Cond.instanceMethod yX0_allStones ∈ UU := UU_in (UU_t2 _ (List.mem_of_getElem? (i := 231) rfl)) rfl
theorem u2_232 : Jvm.Cond.selects "StoneRoads$Ground" yX0_allStones yX0_allStones ∈ UU := UU_in (UU_t2 _ (List.mem_of_getElem? (i := 232) rfl)) rfl
theorem u2_233 : Jvm.Cond.code yX0_allStones prog_2_method_8_code (3 : Nat) (Option.some Jvm.ClassFile.FieldType.int) ∈ UU := UU_in (UU_t2 _ (List.mem_of_getElem? (i := 233) rfl)) rfl
theorem u2_234 : Jvm.Cond.methodLink "StoneRoads$Opening" (50 : Nat) yX0_allWants ∈ UU := UU_in (UU_t2 _ (List.mem_of_getElem? (i := 234) rfl)) rfl
theorem u2_235 : Jvm.Cond.instanceMethod yX0_allWants ∈ UU := UU_in (UU_t2 _ (List.mem_of_getElem? (i := 235) rfl)) rfl
theorem u2_236 : Jvm.Cond.selects "StoneRoads$Ground" yX0_allWants yX0_allWants ∈ UU := UU_in (UU_t2 _ (List.mem_of_getElem? (i := 236) rfl)) rfl
theorem u2_237 : Jvm.Cond.code yX0_allWants prog_2_method_9_code (3 : Nat) (Option.some Jvm.ClassFile.FieldType.int) ∈ UU := UU_in (UU_t2 _ (List.mem_of_getElem? (i := 237) rfl)) rfl
theorem u2_238 : Jvm.Cond.methodLink "StoneRoads$Opening" (56 : Nat) arraycopyName ∈ UU := UU_in (UU_t2 _ (List.mem_of_getElem? (i := 238) rfl)) rfl
theorem u2_239 : Jvm.Cond.static arraycopyName ∈ UU := UU_in (UU_t2 _ (List.mem_of_getElem? (i := 239) rfl)) rfl
theorem u3_0 : Jvm.Cond.native arraycopyName ∈ UU := UU_in (UU_t3 _ (List.mem_of_getElem? (i := 0) rfl)) rfl
theorem u3_1 : Jvm.Cond.methodLink "StoneRoads$Opening" (68 : Nat) Lib.Math.max.name ∈ UU := UU_in (UU_t3 _ (List.mem_of_getElem? (i := 1) rfl)) rfl
theorem u3_2 : Jvm.Cond.static Lib.Math.max.name ∈ UU := UU_in (UU_t3 _ (List.mem_of_getElem? (i := 2) rfl)) rfl
theorem u3_3 : Jvm.Cond.code Lib.Math.max.name prog_13_method_65_code (2 : Nat) (Option.some Jvm.ClassFile.FieldType.int) ∈ UU := UU_in (UU_t3 _ (List.mem_of_getElem? (i := 3) rfl)) rfl
theorem u3_4 : Jvm.Cond.methodLink "StoneRoads$Plan" (81 : Nat) yX3_layCells ∈ UU := UU_in (UU_t3 _ (List.mem_of_getElem? (i := 4) rfl)) rfl
theorem u3_6 : Jvm.Cond.instanceMethod yX3_layCells ∈ UU := UU_in (UU_t3 _ (List.mem_of_getElem? (i := 6) rfl)) rfl
theorem u3_7 : Jvm.Cond.code yX3_layCells prog_5_method_5_code (4 : Nat) (Option.none : Option Jvm.ClassFile.FieldType) ∈ UU := UU_in (UU_t3 _ (List.mem_of_getElem? (i := 7) rfl)) rfl
theorem v3_8 : Jvm.Cond.methodLinkNest "StoneRoads$Plan" (97 : Nat) yX8_cellAt "StoneRoads" ∈ lw_tbl := UU_t3 _ (List.mem_of_getElem? (i := 8) rfl)
theorem u3_9 : Jvm.Cond.static yX8_cellAt ∈ UU := UU_in (UU_t3 _ (List.mem_of_getElem? (i := 9) rfl)) rfl
theorem u3_10 : Jvm.Cond.code yX8_cellAt prog_1_method_44_code (2 : Nat) (Option.some Jvm.ClassFile.FieldType.int) ∈ UU := UU_in (UU_t3 _ (List.mem_of_getElem? (i := 10) rfl)) rfl
theorem u3_11 : Jvm.Cond.methodLink "StoneRoads$Plan" (113 : Nat) yX0_costOf ∈ UU := UU_in (UU_t3 _ (List.mem_of_getElem? (i := 11) rfl)) rfl
theorem u3_12 : Jvm.Cond.methodLink "StoneRoads$Plan" (87 : Nat) yX2_pickBy ∈ UU := UU_in (UU_t3 _ (List.mem_of_getElem? (i := 12) rfl)) rfl
theorem u3_13 : Jvm.Cond.instanceMethod yX2_pickBy ∈ UU := UU_in (UU_t3 _ (List.mem_of_getElem? (i := 13) rfl)) rfl
theorem u3_14 : Jvm.Cond.selects "StoneRoads$Opening" yX2_pickBy yX2_pickBy ∈ UU := UU_in (UU_t3 _ (List.mem_of_getElem? (i := 14) rfl)) rfl
theorem u3_15 : Jvm.Cond.code yX2_pickBy prog_4_method_3_code (3 : Nat) (Option.none : Option Jvm.ClassFile.FieldType) ∈ UU := UU_in (UU_t3 _ (List.mem_of_getElem? (i := 15) rfl)) rfl
theorem u3_16 : Jvm.Cond.methodLink "StoneRoads$Opening" (77 : Nat) yX2_pickCorner ∈ UU := UU_in (UU_t3 _ (List.mem_of_getElem? (i := 16) rfl)) rfl
theorem u3_18 : Jvm.Cond.instanceMethod yX2_pickCorner ∈ UU := UU_in (UU_t3 _ (List.mem_of_getElem? (i := 18) rfl)) rfl
theorem u3_19 : Jvm.Cond.code yX2_pickCorner prog_4_method_4_code (1 : Nat) (Option.none : Option Jvm.ClassFile.FieldType) ∈ UU := UU_in (UU_t3 _ (List.mem_of_getElem? (i := 19) rfl)) rfl
theorem u3_20 : Jvm.Cond.methodLink "StoneRoads$Opening" (87 : Nat) yX2_firstOf ∈ UU := UU_in (UU_t3 _ (List.mem_of_getElem? (i := 20) rfl)) rfl
theorem u3_21 : Jvm.Cond.static yX2_firstOf ∈ UU := UU_in (UU_t3 _ (List.mem_of_getElem? (i := 21) rfl)) rfl
theorem u3_22 : Jvm.Cond.code yX2_firstOf prog_4_method_5_code (2 : Nat) (Option.some Jvm.ClassFile.FieldType.int) ∈ UU := UU_in (UU_t3 _ (List.mem_of_getElem? (i := 22) rfl)) rfl
theorem u3_23 : Jvm.Cond.methodLink "StoneRoads$Opening" (80 : Nat) yX2_pickLeast ∈ UU := UU_in (UU_t3 _ (List.mem_of_getElem? (i := 23) rfl)) rfl
theorem u3_25 : Jvm.Cond.instanceMethod yX2_pickLeast ∈ UU := UU_in (UU_t3 _ (List.mem_of_getElem? (i := 25) rfl)) rfl
theorem u3_26 : Jvm.Cond.code yX2_pickLeast prog_4_method_6_code (5 : Nat) (Option.none : Option Jvm.ClassFile.FieldType) ∈ UU := UU_in (UU_t3 _ (List.mem_of_getElem? (i := 26) rfl)) rfl
theorem u3_27 : Jvm.Cond.constant "StoneRoads$Opening" (91 : Nat) (1000000 : Int32) ∈ UU := UU_in (UU_t3 _ (List.mem_of_getElem? (i := 27) rfl)) rfl
theorem v3_28 : Jvm.Cond.methodLinkNest "StoneRoads$Opening" (92 : Nat) yX8_cellAt "StoneRoads" ∈ lw_tbl := UU_t3 _ (List.mem_of_getElem? (i := 28) rfl)
theorem u3_29 : Jvm.Cond.methodLink "StoneRoads$Opening" (84 : Nat) yX2_pickRegret ∈ UU := UU_in (UU_t3 _ (List.mem_of_getElem? (i := 29) rfl)) rfl
theorem u3_31 : Jvm.Cond.instanceMethod yX2_pickRegret ∈ UU := UU_in (UU_t3 _ (List.mem_of_getElem? (i := 31) rfl)) rfl
theorem u3_32 : Jvm.Cond.code yX2_pickRegret prog_4_method_7_code (5 : Nat) (Option.none : Option Jvm.ClassFile.FieldType) ∈ UU := UU_in (UU_t3 _ (List.mem_of_getElem? (i := 32) rfl)) rfl
theorem u3_33 : Jvm.Cond.methodLink "StoneRoads$Opening" (95 : Nat) yX2_regretOf ∈ UU := UU_in (UU_t3 _ (List.mem_of_getElem? (i := 33) rfl)) rfl
theorem u3_34 : Jvm.Cond.static yX2_regretOf ∈ UU := UU_in (UU_t3 _ (List.mem_of_getElem? (i := 34) rfl)) rfl
theorem u3_35 : Jvm.Cond.code yX2_regretOf prog_4_method_8_code (9 : Nat) (Option.some Jvm.ClassFile.FieldType.int) ∈ UU := UU_in (UU_t3 _ (List.mem_of_getElem? (i := 35) rfl)) rfl
theorem u3_36 : Jvm.Cond.methodLink "StoneRoads$Opening" (99 : Nat) yX2_cheapestOf ∈ UU := UU_in (UU_t3 _ (List.mem_of_getElem? (i := 36) rfl)) rfl
theorem u3_37 : Jvm.Cond.static yX2_cheapestOf ∈ UU := UU_in (UU_t3 _ (List.mem_of_getElem? (i := 37) rfl)) rfl
theorem u3_38 : Jvm.Cond.code yX2_cheapestOf prog_4_method_9_code (8 : Nat) (Option.some Jvm.ClassFile.FieldType.int) ∈ UU := UU_in (UU_t3 _ (List.mem_of_getElem? (i := 38) rfl)) rfl
theorem u3_39 : Jvm.Cond.methodLink "StoneRoads$Plan" (101 : Nat) yX2_takeLesser ∈ UU := UU_in (UU_t3 _ (List.mem_of_getElem? (i := 39) rfl)) rfl
theorem u3_40 : Jvm.Cond.instanceMethod yX2_takeLesser ∈ UU := UU_in (UU_t3 _ (List.mem_of_getElem? (i := 40) rfl)) rfl
theorem u3_41 : Jvm.Cond.selects "StoneRoads$Opening" yX2_takeLesser yX2_takeLesser ∈ UU := UU_in (UU_t3 _ (List.mem_of_getElem? (i := 41) rfl)) rfl
theorem u3_42 : Jvm.Cond.code yX2_takeLesser prog_4_method_10_code (2 : Nat) (Option.some Jvm.ClassFile.FieldType.int) ∈ UU := UU_in (UU_t3 _ (List.mem_of_getElem? (i := 42) rfl)) rfl
theorem u3_43 : Jvm.Cond.methodLink "StoneRoads$Opening" (102 : Nat) Lib.Math.min.name ∈ UU := UU_in (UU_t3 _ (List.mem_of_getElem? (i := 43) rfl)) rfl
theorem u3_44 : Jvm.Cond.methodLink "StoneRoads$Plan" (105 : Nat) yX2_closeOne ∈ UU := UU_in (UU_t3 _ (List.mem_of_getElem? (i := 44) rfl)) rfl
theorem u3_45 : Jvm.Cond.instanceMethod yX2_closeOne ∈ UU := UU_in (UU_t3 _ (List.mem_of_getElem? (i := 45) rfl)) rfl
theorem u3_46 : Jvm.Cond.selects "StoneRoads$Opening" yX2_closeOne yX2_closeOne ∈ UU := UU_in (UU_t3 _ (List.mem_of_getElem? (i := 46) rfl)) rfl
theorem u3_47 : Jvm.Cond.code yX2_closeOne prog_4_method_11_code (1 : Nat) (Option.none : Option Jvm.ClassFile.FieldType) ∈ UU := UU_in (UU_t3 _ (List.mem_of_getElem? (i := 47) rfl)) rfl
theorem u3_48 : Jvm.Cond.methodLink "StoneRoads$Plan" (108 : Nat) yX3_reckonWorths ∈ UU := UU_in (UU_t3 _ (List.mem_of_getElem? (i := 48) rfl)) rfl
theorem u3_49 : Jvm.Cond.instanceMethod yX3_reckonWorths ∈ UU := UU_in (UU_t3 _ (List.mem_of_getElem? (i := 49) rfl)) rfl
theorem u3_50 : Jvm.Cond.selects "StoneRoads$Plan" yX3_reckonWorths yX3_reckonWorths ∈ UU := UU_in (UU_t3 _ (List.mem_of_getElem? (i := 50) rfl)) rfl
theorem u3_51 : Jvm.Cond.code yX3_reckonWorths prog_5_method_6_code (2 : Nat) (Option.none : Option Jvm.ClassFile.FieldType) ∈ UU := UU_in (UU_t3 _ (List.mem_of_getElem? (i := 51) rfl)) rfl
theorem u3_52 : Jvm.Cond.methodLink "StoneRoads$Plan" (118 : Nat) yX3_spreadWorths ∈ UU := UU_in (UU_t3 _ (List.mem_of_getElem? (i := 52) rfl)) rfl
theorem u3_54 : Jvm.Cond.instanceMethod yX3_spreadWorths ∈ UU := UU_in (UU_t3 _ (List.mem_of_getElem? (i := 54) rfl)) rfl
theorem u3_55 : Jvm.Cond.code yX3_spreadWorths prog_5_method_7_code (5 : Nat) (Option.some Jvm.ClassFile.FieldType.boolean) ∈ UU := UU_in (UU_t3 _ (List.mem_of_getElem? (i := 55) rfl)) rfl
theorem u3_56 : Jvm.Cond.methodLink "StoneRoads" (125 : Nat) yX3_total ∈ UU := UU_in (UU_t3 _ (List.mem_of_getElem? (i := 56) rfl)) rfl
theorem u3_57 : Jvm.Cond.instanceMethod yX3_total ∈ UU := UU_in (UU_t3 _ (List.mem_of_getElem? (i := 57) rfl)) rfl
theorem u3_58 : Jvm.Cond.selects "StoneRoads$Plan" yX3_total yX3_total ∈ UU := UU_in (UU_t3 _ (List.mem_of_getElem? (i := 58) rfl)) rfl
theorem u3_59 : Jvm.Cond.code yX3_total prog_5_method_13_code (4 : Nat) (Option.some Jvm.ClassFile.FieldType.int) ∈ UU := UU_in (UU_t3 _ (List.mem_of_getElem? (i := 59) rfl)) rfl
theorem u3_60 : Jvm.Cond.methodLink "StoneRoadsLaw" (54 : Nat) yX8_step ∈ UU := UU_in (UU_t3 _ (List.mem_of_getElem? (i := 60) rfl)) rfl
theorem u3_61 : Jvm.Cond.instanceMethod yX8_step ∈ UU := UU_in (UU_t3 _ (List.mem_of_getElem? (i := 61) rfl)) rfl
theorem u3_62 : Jvm.Cond.selects "StoneRoads" yX8_step yX8_step ∈ UU := UU_in (UU_t3 _ (List.mem_of_getElem? (i := 62) rfl)) rfl
theorem u3_63 : Jvm.Cond.code yX8_step prog_1_method_11_code (3 : Nat) (Option.some Jvm.ClassFile.FieldType.int) ∈ UU := UU_in (UU_t3 _ (List.mem_of_getElem? (i := 63) rfl)) rfl
theorem u3_64 : Jvm.Cond.methodLink "StoneRoads" (131 : Nat) yX3_stepOften ∈ UU := UU_in (UU_t3 _ (List.mem_of_getElem? (i := 64) rfl)) rfl
theorem u3_65 : Jvm.Cond.instanceMethod yX3_stepOften ∈ UU := UU_in (UU_t3 _ (List.mem_of_getElem? (i := 65) rfl)) rfl
theorem u3_66 : Jvm.Cond.selects "StoneRoads$Plan" yX3_stepOften yX3_stepOften ∈ UU := UU_in (UU_t3 _ (List.mem_of_getElem? (i := 66) rfl)) rfl
theorem u3_67 : Jvm.Cond.code yX3_stepOften prog_5_method_11_code (5 : Nat) (Option.some Jvm.ClassFile.FieldType.int) ∈ UU := UU_in (UU_t3 _ (List.mem_of_getElem? (i := 67) rfl)) rfl
theorem u3_68 : Jvm.Cond.methodLink "StoneRoads$Plan" (122 : Nat) yX3_findEntering ∈ UU := UU_in (UU_t3 _ (List.mem_of_getElem? (i := 68) rfl)) rfl
theorem u3_69 : Jvm.Cond.instanceMethod yX3_findEntering ∈ UU := UU_in (UU_t3 _ (List.mem_of_getElem? (i := 69) rfl)) rfl
theorem u3_70 : Jvm.Cond.selects "StoneRoads$Plan" yX3_findEntering yX3_findEntering ∈ UU := UU_in (UU_t3 _ (List.mem_of_getElem? (i := 70) rfl)) rfl
theorem u3_71 : Jvm.Cond.code yX3_findEntering prog_5_method_10_code (7 : Nat) (Option.some Jvm.ClassFile.FieldType.int) ∈ UU := UU_in (UU_t3 _ (List.mem_of_getElem? (i := 71) rfl)) rfl
theorem u3_72 : Jvm.Cond.methodLink "StoneRoads$Plan" (126 : Nat) yX3_surplusAt ∈ UU := UU_in (UU_t3 _ (List.mem_of_getElem? (i := 72) rfl)) rfl
theorem u3_73 : Jvm.Cond.instanceMethod yX3_surplusAt ∈ UU := UU_in (UU_t3 _ (List.mem_of_getElem? (i := 73) rfl)) rfl
theorem u3_74 : Jvm.Cond.selects "StoneRoads$Plan" yX3_surplusAt yX3_surplusAt ∈ UU := UU_in (UU_t3 _ (List.mem_of_getElem? (i := 74) rfl)) rfl
theorem u3_75 : Jvm.Cond.code yX3_surplusAt prog_5_method_8_code (3 : Nat) (Option.some Jvm.ClassFile.FieldType.int) ∈ UU := UU_in (UU_t3 _ (List.mem_of_getElem? (i := 75) rfl)) rfl
theorem u3_76 : Jvm.Cond.methodLink "StoneRoads$Plan" (129 : Nat) yX1_follow ∈ UU := UU_in (UU_t3 _ (List.mem_of_getElem? (i := 76) rfl)) rfl
theorem u3_77 : Jvm.Cond.instanceMethod yX1_follow ∈ UU := UU_in (UU_t3 _ (List.mem_of_getElem? (i := 77) rfl)) rfl
theorem u3_78 : Jvm.Cond.selects "StoneRoads$Loop" yX1_follow yX1_follow ∈ UU := UU_in (UU_t3 _ (List.mem_of_getElem? (i := 78) rfl)) rfl
theorem u3_79 : Jvm.Cond.code yX1_follow prog_3_method_2_code (7 : Nat) (Option.none : Option Jvm.ClassFile.FieldType) ∈ UU := UU_in (UU_t3 _ (List.mem_of_getElem? (i := 79) rfl)) rfl
theorem u3_80 : Jvm.Cond.methodLink "StoneRoads$Loop" (25 : Nat) yX1_pointHome ∈ UU := UU_in (UU_t3 _ (List.mem_of_getElem? (i := 80) rfl)) rfl
theorem u3_82 : Jvm.Cond.instanceMethod yX1_pointHome ∈ UU := UU_in (UU_t3 _ (List.mem_of_getElem? (i := 82) rfl)) rfl
theorem u3_83 : Jvm.Cond.code yX1_pointHome prog_3_method_4_code (9 : Nat) (Option.none : Option Jvm.ClassFile.FieldType) ∈ UU := UU_in (UU_t3 _ (List.mem_of_getElem? (i := 83) rfl)) rfl
theorem u3_84 : Jvm.Cond.methodLink "StoneRoads$Loop" (29 : Nat) yX1_add ∈ UU := UU_in (UU_t3 _ (List.mem_of_getElem? (i := 84) rfl)) rfl
theorem u3_86 : Jvm.Cond.instanceMethod yX1_add ∈ UU := UU_in (UU_t3 _ (List.mem_of_getElem? (i := 86) rfl)) rfl
theorem u3_87 : Jvm.Cond.code yX1_add prog_3_method_3_code (2 : Nat) (Option.none : Option Jvm.ClassFile.FieldType) ∈ UU := UU_in (UU_t3 _ (List.mem_of_getElem? (i := 87) rfl)) rfl
theorem v3_88 : Jvm.Cond.methodLinkNest "StoneRoads$Loop" (33 : Nat) yX8_cellAt "StoneRoads" ∈ lw_tbl := UU_t3 _ (List.mem_of_getElem? (i := 88) rfl)
theorem u3_89 : Jvm.Cond.methodLink "StoneRoads$Plan" (133 : Nat) yX1_turnOf ∈ UU := UU_in (UU_t3 _ (List.mem_of_getElem? (i := 89) rfl)) rfl
theorem u3_90 : Jvm.Cond.instanceMethod yX1_turnOf ∈ UU := UU_in (UU_t3 _ (List.mem_of_getElem? (i := 90) rfl)) rfl
theorem u3_91 : Jvm.Cond.selects "StoneRoads$Loop" yX1_turnOf yX1_turnOf ∈ UU := UU_in (UU_t3 _ (List.mem_of_getElem? (i := 91) rfl)) rfl
theorem u3_92 : Jvm.Cond.code yX1_turnOf prog_3_method_5_code (4 : Nat) (Option.some Jvm.ClassFile.FieldType.int) ∈ UU := UU_in (UU_t3 _ (List.mem_of_getElem? (i := 92) rfl)) rfl
theorem u3_93 : Jvm.Cond.constant "StoneRoads$Loop" (37 : Nat) (1000000 : Int32) ∈ UU := UU_in (UU_t3 _ (List.mem_of_getElem? (i := 93) rfl)) rfl
theorem u3_94 : Jvm.Cond.methodLink "StoneRoads$Loop" (38 : Nat) Lib.Math.min.name ∈ UU := UU_in (UU_t3 _ (List.mem_of_getElem? (i := 94) rfl)) rfl
theorem u3_95 : Jvm.Cond.methodLink "StoneRoads$Plan" (137 : Nat) yX3_turnWay ∈ UU := UU_in (UU_t3 _ (List.mem_of_getElem? (i := 95) rfl)) rfl
theorem u3_97 : Jvm.Cond.instanceMethod yX3_turnWay ∈ UU := UU_in (UU_t3 _ (List.mem_of_getElem? (i := 97) rfl)) rfl
theorem u3_98 : Jvm.Cond.code yX3_turnWay prog_5_method_12_code (4 : Nat) (Option.none : Option Jvm.ClassFile.FieldType) ∈ UU := UU_in (UU_t3 _ (List.mem_of_getElem? (i := 98) rfl)) rfl
theorem u3_99 : Jvm.Cond.methodLink "StoneRoads$Plan" (141 : Nat) yX1_findLeaving ∈ UU := UU_in (UU_t3 _ (List.mem_of_getElem? (i := 99) rfl)) rfl
theorem u3_100 : Jvm.Cond.instanceMethod yX1_findLeaving ∈ UU := UU_in (UU_t3 _ (List.mem_of_getElem? (i := 100) rfl)) rfl
theorem u3_101 : Jvm.Cond.selects "StoneRoads$Loop" yX1_findLeaving yX1_findLeaving ∈ UU := UU_in (UU_t3 _ (List.mem_of_getElem? (i := 101) rfl)) rfl
theorem u3_102 : Jvm.Cond.code yX1_findLeaving prog_3_method_6_code (6 : Nat) (Option.some Jvm.ClassFile.FieldType.int) ∈ UU := UU_in (UU_t3 _ (List.mem_of_getElem? (i := 102) rfl)) rfl
theorem u3_103 : Jvm.Cond.methodLink "StoneRoads$Plan" (145 : Nat) yX1_turnLoads ∈ UU := UU_in (UU_t3 _ (List.mem_of_getElem? (i := 103) rfl)) rfl
theorem u3_104 : Jvm.Cond.instanceMethod yX1_turnLoads ∈ UU := UU_in (UU_t3 _ (List.mem_of_getElem? (i := 104) rfl)) rfl
theorem u3_105 : Jvm.Cond.selects "StoneRoads$Loop" yX1_turnLoads yX1_turnLoads ∈ UU := UU_in (UU_t3 _ (List.mem_of_getElem? (i := 105) rfl)) rfl
theorem u3_106 : Jvm.Cond.code yX1_turnLoads prog_3_method_7_code (4 : Nat) (Option.none : Option Jvm.ClassFile.FieldType) ∈ UU := UU_in (UU_t3 _ (List.mem_of_getElem? (i := 106) rfl)) rfl
theorem u3_107 : Jvm.Cond.methodLink "StoneRoadsLaw" (58 : Nat) yX8_load ∈ UU := UU_in (UU_t3 _ (List.mem_of_getElem? (i := 107) rfl)) rfl
theorem u3_108 : Jvm.Cond.instanceMethod yX8_load ∈ UU := UU_in (UU_t3 _ (List.mem_of_getElem? (i := 108) rfl)) rfl
theorem u3_109 : Jvm.Cond.selects "StoneRoads" yX8_load yX8_load ∈ UU := UU_in (UU_t3 _ (List.mem_of_getElem? (i := 109) rfl)) rfl
theorem u3_110 : Jvm.Cond.code yX8_load prog_1_method_12_code (3 : Nat) (Option.some Jvm.ClassFile.FieldType.int) ∈ UU := UU_in (UU_t3 _ (List.mem_of_getElem? (i := 110) rfl)) rfl
theorem u3_111 : Jvm.Cond.methodLink "StoneRoads" (134 : Nat) yX3_isCell ∈ UU := UU_in (UU_t3 _ (List.mem_of_getElem? (i := 111) rfl)) rfl
theorem u3_112 : Jvm.Cond.instanceMethod yX3_isCell ∈ UU := UU_in (UU_t3 _ (List.mem_of_getElem? (i := 112) rfl)) rfl
theorem u3_113 : Jvm.Cond.selects "StoneRoads$Plan" yX3_isCell yX3_isCell ∈ UU := UU_in (UU_t3 _ (List.mem_of_getElem? (i := 113) rfl)) rfl
theorem u3_114 : Jvm.Cond.code yX3_isCell prog_5_method_3_code (3 : Nat) (Option.some Jvm.ClassFile.FieldType.boolean) ∈ UU := UU_in (UU_t3 _ (List.mem_of_getElem? (i := 114) rfl)) rfl
theorem u3_115 : Jvm.Cond.methodLink "StoneRoads" (140 : Nat) yX8_cellAt ∈ UU := UU_in (UU_t3 _ (List.mem_of_getElem? (i := 115) rfl)) rfl
theorem u3_116 : Jvm.Cond.methodLink "StoneRoadsLaw" (62 : Nat) yX8_basic ∈ UU := UU_in (UU_t3 _ (List.mem_of_getElem? (i := 116) rfl)) rfl
theorem u3_117 : Jvm.Cond.instanceMethod yX8_basic ∈ UU := UU_in (UU_t3 _ (List.mem_of_getElem? (i := 117) rfl)) rfl
theorem u3_118 : Jvm.Cond.selects "StoneRoads" yX8_basic yX8_basic ∈ UU := UU_in (UU_t3 _ (List.mem_of_getElem? (i := 118) rfl)) rfl
theorem u3_119 : Jvm.Cond.code yX8_basic prog_1_method_13_code (3 : Nat) (Option.some Jvm.ClassFile.FieldType.int) ∈ UU := UU_in (UU_t3 _ (List.mem_of_getElem? (i := 119) rfl)) rfl
theorem u3_120 : Jvm.Cond.methodLink "StoneRoadsLaw" (66 : Nat) yX8_worth ∈ UU := UU_in (UU_t3 _ (List.mem_of_getElem? (i := 120) rfl)) rfl
theorem u3_121 : Jvm.Cond.instanceMethod yX8_worth ∈ UU := UU_in (UU_t3 _ (List.mem_of_getElem? (i := 121) rfl)) rfl
theorem u3_122 : Jvm.Cond.selects "StoneRoads" yX8_worth yX8_worth ∈ UU := UU_in (UU_t3 _ (List.mem_of_getElem? (i := 122) rfl)) rfl
theorem u3_123 : Jvm.Cond.code yX8_worth prog_1_method_14_code (4 : Nat) (Option.some Jvm.ClassFile.FieldType.long) ∈ UU := UU_in (UU_t3 _ (List.mem_of_getElem? (i := 123) rfl)) rfl
theorem u3_124 : Jvm.Cond.constantLong "StoneRoads" (147 : Nat) (-9223372036854775808 : Int64) ∈ UU := UU_in (UU_t3 _ (List.mem_of_getElem? (i := 124) rfl)) rfl
theorem u3_125 : Jvm.Cond.methodLink "StoneRoadsLaw" (71 : Nat) yX8_surplus ∈ UU := UU_in (UU_t3 _ (List.mem_of_getElem? (i := 125) rfl)) rfl
theorem u3_126 : Jvm.Cond.instanceMethod yX8_surplus ∈ UU := UU_in (UU_t3 _ (List.mem_of_getElem? (i := 126) rfl)) rfl
theorem u3_127 : Jvm.Cond.selects "StoneRoads" yX8_surplus yX8_surplus ∈ UU := UU_in (UU_t3 _ (List.mem_of_getElem? (i := 127) rfl)) rfl
theorem u3_128 : Jvm.Cond.code yX8_surplus prog_1_method_15_code (3 : Nat) (Option.some Jvm.ClassFile.FieldType.long) ∈ UU := UU_in (UU_t3 _ (List.mem_of_getElem? (i := 128) rfl)) rfl
theorem u3_129 : Jvm.Cond.methodLink "StoneRoads" (161 : Nat) yX3_surplusAt ∈ UU := UU_in (UU_t3 _ (List.mem_of_getElem? (i := 129) rfl)) rfl
theorem u3_130 : Jvm.Cond.methodLink "StoneRoadsLaw" (75 : Nat) yX8_loop ∈ UU := UU_in (UU_t3 _ (List.mem_of_getElem? (i := 130) rfl)) rfl
theorem u3_131 : Jvm.Cond.instanceMethod yX8_loop ∈ UU := UU_in (UU_t3 _ (List.mem_of_getElem? (i := 131) rfl)) rfl
theorem u3_132 : Jvm.Cond.selects "StoneRoads" yX8_loop yX8_loop ∈ UU := UU_in (UU_t3 _ (List.mem_of_getElem? (i := 132) rfl)) rfl
theorem u3_133 : Jvm.Cond.code yX8_loop prog_1_method_16_code (6 : Nat) (Option.some Jvm.ClassFile.FieldType.int) ∈ UU := UU_in (UU_t3 _ (List.mem_of_getElem? (i := 133) rfl)) rfl
theorem u3_134 : Jvm.Cond.methodLink "StoneRoads" (168 : Nat) yX1_follow ∈ UU := UU_in (UU_t3 _ (List.mem_of_getElem? (i := 134) rfl)) rfl
theorem u3_135 : Jvm.Cond.methodLink "StoneRoads" (175 : Nat) yX1_turnOf ∈ UU := UU_in (UU_t3 _ (List.mem_of_getElem? (i := 135) rfl)) rfl
theorem u3_136 : Jvm.Cond.methodLink "StoneRoads" (182 : Nat) yX8_cellTold ∈ UU := UU_in (UU_t3 _ (List.mem_of_getElem? (i := 136) rfl)) rfl
theorem u3_137 : Jvm.Cond.static yX8_cellTold ∈ UU := UU_in (UU_t3 _ (List.mem_of_getElem? (i := 137) rfl)) rfl
theorem u3_138 : Jvm.Cond.code yX8_cellTold prog_1_method_45_code (1 : Nat) (Option.some Jvm.ClassFile.FieldType.int) ∈ UU := UU_in (UU_t3 _ (List.mem_of_getElem? (i := 138) rfl)) rfl
theorem u3_139 : Jvm.Cond.methodLink "StoneRoadsLaw" (79 : Nat) yX8_enters ∈ UU := UU_in (UU_t3 _ (List.mem_of_getElem? (i := 139) rfl)) rfl
theorem u3_140 : Jvm.Cond.instanceMethod yX8_enters ∈ UU := UU_in (UU_t3 _ (List.mem_of_getElem? (i := 140) rfl)) rfl
theorem u3_141 : Jvm.Cond.selects "StoneRoads" yX8_enters yX8_enters ∈ UU := UU_in (UU_t3 _ (List.mem_of_getElem? (i := 141) rfl)) rfl
theorem u3_142 : Jvm.Cond.code yX8_enters prog_1_method_17_code (3 : Nat) (Option.some Jvm.ClassFile.FieldType.int) ∈ UU := UU_in (UU_t3 _ (List.mem_of_getElem? (i := 142) rfl)) rfl
theorem u3_143 : Jvm.Cond.methodLink "StoneRoads" (185 : Nat) yX3_findEntering ∈ UU := UU_in (UU_t3 _ (List.mem_of_getElem? (i := 143) rfl)) rfl
theorem u3_144 : Jvm.Cond.methodLink "StoneRoadsLaw" (83 : Nat) yX8_told ∈ UU := UU_in (UU_t3 _ (List.mem_of_getElem? (i := 144) rfl)) rfl
theorem u3_145 : Jvm.Cond.instanceMethod yX8_told ∈ UU := UU_in (UU_t3 _ (List.mem_of_getElem? (i := 145) rfl)) rfl
theorem u3_146 : Jvm.Cond.selects "StoneRoads" yX8_told yX8_told ∈ UU := UU_in (UU_t3 _ (List.mem_of_getElem? (i := 146) rfl)) rfl
theorem u3_147 : Jvm.Cond.code yX8_told prog_1_method_18_code (3 : Nat) (Option.some Jvm.ClassFile.FieldType.int) ∈ UU := UU_in (UU_t3 _ (List.mem_of_getElem? (i := 147) rfl)) rfl
theorem u3_148 : Jvm.Cond.methodLink "StoneRoads" (191 : Nat) yX3_isProved ∈ UU := UU_in (UU_t3 _ (List.mem_of_getElem? (i := 148) rfl)) rfl
theorem u3_149 : Jvm.Cond.instanceMethod yX3_isProved ∈ UU := UU_in (UU_t3 _ (List.mem_of_getElem? (i := 149) rfl)) rfl
theorem u3_150 : Jvm.Cond.selects "StoneRoads$Plan" yX3_isProved yX3_isProved ∈ UU := UU_in (UU_t3 _ (List.mem_of_getElem? (i := 150) rfl)) rfl
theorem u3_151 : Jvm.Cond.code yX3_isProved prog_5_method_9_code (1 : Nat) (Option.some Jvm.ClassFile.FieldType.boolean) ∈ UU := UU_in (UU_t3 _ (List.mem_of_getElem? (i := 151) rfl)) rfl
theorem u3_152 : Jvm.Cond.methodLink "StoneRoads" (194 : Nat) yX3_keptZeros ∈ UU := UU_in (UU_t3 _ (List.mem_of_getElem? (i := 152) rfl)) rfl
theorem u3_153 : Jvm.Cond.instanceMethod yX3_keptZeros ∈ UU := UU_in (UU_t3 _ (List.mem_of_getElem? (i := 153) rfl)) rfl
theorem u3_154 : Jvm.Cond.selects "StoneRoads$Plan" yX3_keptZeros yX3_keptZeros ∈ UU := UU_in (UU_t3 _ (List.mem_of_getElem? (i := 154) rfl)) rfl
theorem u3_155 : Jvm.Cond.code yX3_keptZeros prog_5_method_15_code (4 : Nat) (Option.some Jvm.ClassFile.FieldType.int) ∈ UU := UU_in (UU_t3 _ (List.mem_of_getElem? (i := 155) rfl)) rfl
theorem u3_156 : Jvm.Cond.methodLink "StoneRoads" (197 : Nat) yX3_freeCells ∈ UU := UU_in (UU_t3 _ (List.mem_of_getElem? (i := 156) rfl)) rfl
theorem u3_157 : Jvm.Cond.instanceMethod yX3_freeCells ∈ UU := UU_in (UU_t3 _ (List.mem_of_getElem? (i := 157) rfl)) rfl
theorem u3_158 : Jvm.Cond.selects "StoneRoads$Plan" yX3_freeCells yX3_freeCells ∈ UU := UU_in (UU_t3 _ (List.mem_of_getElem? (i := 158) rfl)) rfl
theorem u3_159 : Jvm.Cond.code yX3_freeCells prog_5_method_16_code (6 : Nat) (Option.some Jvm.ClassFile.FieldType.int) ∈ UU := UU_in (UU_t3 _ (List.mem_of_getElem? (i := 159) rfl)) rfl
theorem u3_160 : Jvm.Cond.methodLink "StoneRoads$Plan" (149 : Nat) yJ6_compare_7cf53 ∈ UU := UU_in (UU_t3 _ (List.mem_of_getElem? (i := 160) rfl)) rfl
theorem u3_161 : Jvm.Cond.static yJ6_compare_7cf53 ∈ UU := UU_in (UU_t3 _ (List.mem_of_getElem? (i := 161) rfl)) rfl
theorem u3_162 : Jvm.Cond.code yJ6_compare_7cf53 prog_12_method_40_code (2 : Nat) (Option.some Jvm.ClassFile.FieldType.int) ∈ UU := UU_in (UU_t3 _ (List.mem_of_getElem? (i := 162) rfl)) rfl
theorem u3_163 : Jvm.Cond.methodLink "StoneRoadsLaw" (87 : Nat) yX8_trace ∈ UU := UU_in (UU_t3 _ (List.mem_of_getElem? (i := 163) rfl)) rfl
theorem u3_164 : Jvm.Cond.instanceMethod yX8_trace ∈ UU := UU_in (UU_t3 _ (List.mem_of_getElem? (i := 164) rfl)) rfl
theorem u3_165 : Jvm.Cond.selects "StoneRoads" yX8_trace yX8_trace ∈ UU := UU_in (UU_t3 _ (List.mem_of_getElem? (i := 165) rfl)) rfl
theorem u3_166 : Jvm.Cond.code yX8_trace prog_1_method_19_code (4 : Nat) (Option.some Jvm.ClassFile.FieldType.int) ∈ UU := UU_in (UU_t3 _ (List.mem_of_getElem? (i := 166) rfl)) rfl
theorem u3_167 : Jvm.Cond.methodLink "StoneRoadsLaw" (91 : Nat) yX8_best ∈ UU := UU_in (UU_t3 _ (List.mem_of_getElem? (i := 167) rfl)) rfl
theorem u3_168 : Jvm.Cond.instanceMethod yX8_best ∈ UU := UU_in (UU_t3 _ (List.mem_of_getElem? (i := 168) rfl)) rfl
theorem u3_169 : Jvm.Cond.selects "StoneRoads" yX8_best yX8_best ∈ UU := UU_in (UU_t3 _ (List.mem_of_getElem? (i := 169) rfl)) rfl
theorem u3_170 : Jvm.Cond.code yX8_best prog_1_method_20_code (4 : Nat) (Option.some Jvm.ClassFile.FieldType.int) ∈ UU := UU_in (UU_t3 _ (List.mem_of_getElem? (i := 170) rfl)) rfl
theorem u3_171 : Jvm.Cond.methodLink "StoneRoads" (209 : Nat) yX0_copyFrom ∈ UU := UU_in (UU_t3 _ (List.mem_of_getElem? (i := 171) rfl)) rfl
theorem u3_172 : Jvm.Cond.instanceMethod yX0_copyFrom ∈ UU := UU_in (UU_t3 _ (List.mem_of_getElem? (i := 172) rfl)) rfl
theorem u3_173 : Jvm.Cond.selects "StoneRoads$Ground" yX0_copyFrom yX0_copyFrom ∈ UU := UU_in (UU_t3 _ (List.mem_of_getElem? (i := 173) rfl)) rfl
theorem u3_174 : Jvm.Cond.code yX0_copyFrom prog_2_method_2_code (2 : Nat) (Option.none : Option Jvm.ClassFile.FieldType) ∈ UU := UU_in (UU_t3 _ (List.mem_of_getElem? (i := 174) rfl)) rfl
theorem u3_175 : Jvm.Cond.methodLink "StoneRoads$Ground" (43 : Nat) arraycopyName ∈ UU := UU_in (UU_t3 _ (List.mem_of_getElem? (i := 175) rfl)) rfl
theorem u3_176 : Jvm.Cond.methodLink "StoneRoads" (213 : Nat) yX8_tryBest ∈ UU := UU_in (UU_t3 _ (List.mem_of_getElem? (i := 176) rfl)) rfl
theorem u3_178 : Jvm.Cond.instanceMethod yX8_tryBest ∈ UU := UU_in (UU_t3 _ (List.mem_of_getElem? (i := 178) rfl)) rfl
theorem u3_179 : Jvm.Cond.code yX8_tryBest prog_1_method_46_code (3 : Nat) (Option.some Jvm.ClassFile.FieldType.boolean) ∈ UU := UU_in (UU_t3 _ (List.mem_of_getElem? (i := 179) rfl)) rfl
theorem u3_180 : Jvm.Cond.methodLink "StoneRoadsLaw" (95 : Nat) yX8_cheapest ∈ UU := UU_in (UU_t3 _ (List.mem_of_getElem? (i := 180) rfl)) rfl
theorem u3_181 : Jvm.Cond.instanceMethod yX8_cheapest ∈ UU := UU_in (UU_t3 _ (List.mem_of_getElem? (i := 181) rfl)) rfl
theorem u3_182 : Jvm.Cond.selects "StoneRoads" yX8_cheapest yX8_cheapest ∈ UU := UU_in (UU_t3 _ (List.mem_of_getElem? (i := 182) rfl)) rfl
theorem u3_183 : Jvm.Cond.code yX8_cheapest prog_1_method_21_code (2 : Nat) (Option.some Jvm.ClassFile.FieldType.int) ∈ UU := UU_in (UU_t3 _ (List.mem_of_getElem? (i := 183) rfl)) rfl
theorem u3_184 : Jvm.Cond.methodLink "StoneRoads" (216 : Nat) yX8_cheapestStart ∈ UU := UU_in (UU_t3 _ (List.mem_of_getElem? (i := 184) rfl)) rfl
theorem u3_186 : Jvm.Cond.instanceMethod yX8_cheapestStart ∈ UU := UU_in (UU_t3 _ (List.mem_of_getElem? (i := 186) rfl)) rfl
theorem u3_187 : Jvm.Cond.code yX8_cheapestStart prog_1_method_48_code (5 : Nat) (Option.some Jvm.ClassFile.FieldType.int) ∈ UU := UU_in (UU_t3 _ (List.mem_of_getElem? (i := 187) rfl)) rfl
theorem u3_188 : Jvm.Cond.methodLink "StoneRoads" (219 : Nat) yX8_fewestSteps ∈ UU := UU_in (UU_t3 _ (List.mem_of_getElem? (i := 188) rfl)) rfl
theorem u3_190 : Jvm.Cond.instanceMethod yX8_fewestSteps ∈ UU := UU_in (UU_t3 _ (List.mem_of_getElem? (i := 190) rfl)) rfl
theorem u3_191 : Jvm.Cond.code yX8_fewestSteps prog_1_method_49_code (5 : Nat) (Option.some Jvm.ClassFile.FieldType.int) ∈ UU := UU_in (UU_t3 _ (List.mem_of_getElem? (i := 191) rfl)) rfl
theorem u3_192 : Jvm.Cond.methodLink "StoneRoadsLaw" (99 : Nat) yX8_more ∈ UU := UU_in (UU_t3 _ (List.mem_of_getElem? (i := 192) rfl)) rfl
theorem u3_193 : Jvm.Cond.instanceMethod yX8_more ∈ UU := UU_in (UU_t3 _ (List.mem_of_getElem? (i := 193) rfl)) rfl
theorem u3_194 : Jvm.Cond.selects "StoneRoads" yX8_more yX8_more ∈ UU := UU_in (UU_t3 _ (List.mem_of_getElem? (i := 194) rfl)) rfl
theorem u3_195 : Jvm.Cond.code yX8_more prog_1_method_22_code (5 : Nat) (Option.some Jvm.ClassFile.FieldType.long) ∈ UU := UU_in (UU_t3 _ (List.mem_of_getElem? (i := 195) rfl)) rfl
theorem u3_196 : Jvm.Cond.methodLink "StoneRoads" (222 : Nat) yX8_tryTheBest ∈ UU := UU_in (UU_t3 _ (List.mem_of_getElem? (i := 196) rfl)) rfl
theorem u3_198 : Jvm.Cond.instanceMethod yX8_tryTheBest ∈ UU := UU_in (UU_t3 _ (List.mem_of_getElem? (i := 198) rfl)) rfl
theorem u3_199 : Jvm.Cond.code yX8_tryTheBest prog_1_method_47_code (1 : Nat) (Option.some Jvm.ClassFile.FieldType.boolean) ∈ UU := UU_in (UU_t3 _ (List.mem_of_getElem? (i := 199) rfl)) rfl
theorem u3_200 : Jvm.Cond.methodLink "StoneRoadsLaw" (103 : Nat) yX8_rise ∈ UU := UU_in (UU_t3 _ (List.mem_of_getElem? (i := 200) rfl)) rfl
theorem u3_201 : Jvm.Cond.instanceMethod yX8_rise ∈ UU := UU_in (UU_t3 _ (List.mem_of_getElem? (i := 201) rfl)) rfl
theorem u3_202 : Jvm.Cond.selects "StoneRoads" yX8_rise yX8_rise ∈ UU := UU_in (UU_t3 _ (List.mem_of_getElem? (i := 202) rfl)) rfl
theorem u3_203 : Jvm.Cond.code yX8_rise prog_1_method_23_code (5 : Nat) (Option.some Jvm.ClassFile.FieldType.int) ∈ UU := UU_in (UU_t3 _ (List.mem_of_getElem? (i := 203) rfl)) rfl
theorem u3_204 : Jvm.Cond.methodLink "StoneRoads" (231 : Nat) yX3_copyFrom ∈ UU := UU_in (UU_t3 _ (List.mem_of_getElem? (i := 204) rfl)) rfl
theorem u3_205 : Jvm.Cond.instanceMethod yX3_copyFrom ∈ UU := UU_in (UU_t3 _ (List.mem_of_getElem? (i := 205) rfl)) rfl
theorem u3_206 : Jvm.Cond.selects "StoneRoads$Plan" yX3_copyFrom yX3_copyFrom ∈ UU := UU_in (UU_t3 _ (List.mem_of_getElem? (i := 206) rfl)) rfl
theorem u3_207 : Jvm.Cond.code yX3_copyFrom prog_5_method_2_code (2 : Nat) (Option.none : Option Jvm.ClassFile.FieldType) ∈ UU := UU_in (UU_t3 _ (List.mem_of_getElem? (i := 207) rfl)) rfl
theorem u3_208 : Jvm.Cond.methodLink "StoneRoads$Plan" (71 : Nat) arraycopyName ∈ UU := UU_in (UU_t3 _ (List.mem_of_getElem? (i := 208) rfl)) rfl
theorem u3_209 : Jvm.Cond.methodLink "StoneRoads" (237 : Nat) yX3_reckonWorths ∈ UU := UU_in (UU_t3 _ (List.mem_of_getElem? (i := 209) rfl)) rfl
theorem u3_210 : Jvm.Cond.methodLink "StoneRoadsLaw" (107 : Nat) yX8_missed ∈ UU := UU_in (UU_t3 _ (List.mem_of_getElem? (i := 210) rfl)) rfl
theorem u3_211 : Jvm.Cond.instanceMethod yX8_missed ∈ UU := UU_in (UU_t3 _ (List.mem_of_getElem? (i := 211) rfl)) rfl
theorem u3_212 : Jvm.Cond.selects "StoneRoads" yX8_missed yX8_missed ∈ UU := UU_in (UU_t3 _ (List.mem_of_getElem? (i := 212) rfl)) rfl
theorem u3_213 : Jvm.Cond.code yX8_missed prog_1_method_24_code (6 : Nat) (Option.some Jvm.ClassFile.FieldType.int) ∈ UU := UU_in (UU_t3 _ (List.mem_of_getElem? (i := 213) rfl)) rfl
theorem u3_214 : Jvm.Cond.methodLink "StoneRoads" (246 : Nat) yX0_shutRoad ∈ UU := UU_in (UU_t3 _ (List.mem_of_getElem? (i := 214) rfl)) rfl
theorem u3_215 : Jvm.Cond.instanceMethod yX0_shutRoad ∈ UU := UU_in (UU_t3 _ (List.mem_of_getElem? (i := 215) rfl)) rfl
theorem u3_216 : Jvm.Cond.selects "StoneRoads$Ground" yX0_shutRoad yX0_shutRoad ∈ UU := UU_in (UU_t3 _ (List.mem_of_getElem? (i := 216) rfl)) rfl
theorem u3_217 : Jvm.Cond.code yX0_shutRoad prog_2_method_10_code (3 : Nat) (Option.some Jvm.ClassFile.FieldType.boolean) ∈ UU := UU_in (UU_t3 _ (List.mem_of_getElem? (i := 217) rfl)) rfl
theorem u3_218 : Jvm.Cond.methodLink "StoneRoadsLaw" (111 : Nat) yX8_see ∈ UU := UU_in (UU_t3 _ (List.mem_of_getElem? (i := 218) rfl)) rfl
theorem u3_219 : Jvm.Cond.instanceMethod yX8_see ∈ UU := UU_in (UU_t3 _ (List.mem_of_getElem? (i := 219) rfl)) rfl
theorem u3_220 : Jvm.Cond.selects "StoneRoads" yX8_see yX8_see ∈ UU := UU_in (UU_t3 _ (List.mem_of_getElem? (i := 220) rfl)) rfl
theorem u3_221 : Jvm.Cond.code yX8_see prog_1_method_25_code (4 : Nat) (Option.some Jvm.ClassFile.FieldType.int) ∈ UU := UU_in (UU_t3 _ (List.mem_of_getElem? (i := 221) rfl)) rfl
theorem u3_222 : Jvm.Cond.methodLink "StoneRoads" (253 : Nat) yX4_drop ∈ UU := UU_in (UU_t3 _ (List.mem_of_getElem? (i := 222) rfl)) rfl
theorem u3_223 : Jvm.Cond.instanceMethod yX4_drop ∈ UU := UU_in (UU_t3 _ (List.mem_of_getElem? (i := 223) rfl)) rfl
theorem u3_224 : Jvm.Cond.selects "StoneRoads$Rows" yX4_drop yX4_drop ∈ UU := UU_in (UU_t3 _ (List.mem_of_getElem? (i := 224) rfl)) rfl
theorem u3_225 : Jvm.Cond.code yX4_drop prog_6_method_3_code (1 : Nat) (Option.some Jvm.ClassFile.FieldType.int) ∈ UU := UU_in (UU_t3 _ (List.mem_of_getElem? (i := 225) rfl)) rfl
theorem u3_226 : Jvm.Cond.methodLink "StoneRoads" (258 : Nat) yX4_add ∈ UU := UU_in (UU_t3 _ (List.mem_of_getElem? (i := 226) rfl)) rfl
theorem u3_227 : Jvm.Cond.instanceMethod yX4_add ∈ UU := UU_in (UU_t3 _ (List.mem_of_getElem? (i := 227) rfl)) rfl
theorem u3_228 : Jvm.Cond.selects "StoneRoads$Rows" yX4_add yX4_add ∈ UU := UU_in (UU_t3 _ (List.mem_of_getElem? (i := 228) rfl)) rfl
theorem u3_229 : Jvm.Cond.code yX4_add prog_6_method_4_code (3 : Nat) (Option.some Jvm.ClassFile.FieldType.int) ∈ UU := UU_in (UU_t3 _ (List.mem_of_getElem? (i := 229) rfl)) rfl
theorem u3_230 : Jvm.Cond.methodLink "StoneRoadsLaw" (115 : Nat) yX8_fits ∈ UU := UU_in (UU_t3 _ (List.mem_of_getElem? (i := 230) rfl)) rfl
theorem u3_231 : Jvm.Cond.instanceMethod yX8_fits ∈ UU := UU_in (UU_t3 _ (List.mem_of_getElem? (i := 231) rfl)) rfl
theorem u3_232 : Jvm.Cond.selects "StoneRoads" yX8_fits yX8_fits ∈ UU := UU_in (UU_t3 _ (List.mem_of_getElem? (i := 232) rfl)) rfl
theorem u3_233 : Jvm.Cond.code yX8_fits prog_1_method_26_code (7 : Nat) (Option.some Jvm.ClassFile.FieldType.int) ∈ UU := UU_in (UU_t3 _ (List.mem_of_getElem? (i := 233) rfl)) rfl
theorem u3_234 : Jvm.Cond.methodLink "StoneRoads" (260 : Nat) yX4_firstOther ∈ UU := UU_in (UU_t3 _ (List.mem_of_getElem? (i := 234) rfl)) rfl
theorem u3_235 : Jvm.Cond.instanceMethod yX4_firstOther ∈ UU := UU_in (UU_t3 _ (List.mem_of_getElem? (i := 235) rfl)) rfl
theorem u3_236 : Jvm.Cond.selects "StoneRoads$Rows" yX4_firstOther yX4_firstOther ∈ UU := UU_in (UU_t3 _ (List.mem_of_getElem? (i := 236) rfl)) rfl
theorem u3_237 : Jvm.Cond.code yX4_firstOther prog_6_method_5_code (3 : Nat) (Option.some Jvm.ClassFile.FieldType.int) ∈ UU := UU_in (UU_t3 _ (List.mem_of_getElem? (i := 237) rfl)) rfl
theorem u3_238 : Jvm.Cond.methodLink "StoneRoadsLaw" (119 : Nat) yX8_odds ∈ UU := UU_in (UU_t3 _ (List.mem_of_getElem? (i := 238) rfl)) rfl
theorem u3_239 : Jvm.Cond.instanceMethod yX8_odds ∈ UU := UU_in (UU_t3 _ (List.mem_of_getElem? (i := 239) rfl)) rfl
theorem u4_0 : Jvm.Cond.selects "StoneRoads" yX8_odds yX8_odds ∈ UU := UU_in (UU_t4 _ (List.mem_of_getElem? (i := 0) rfl)) rfl
theorem u4_1 : Jvm.Cond.code yX8_odds prog_1_method_27_code (6 : Nat) (Option.some Jvm.ClassFile.FieldType.long) ∈ UU := UU_in (UU_t4 _ (List.mem_of_getElem? (i := 1) rfl)) rfl
theorem u4_2 : Jvm.Cond.methodLink "StoneRoads" (263 : Nat) yX8_fractionPart ∈ UU := UU_in (UU_t4 _ (List.mem_of_getElem? (i := 2) rfl)) rfl
theorem u4_3 : Jvm.Cond.static yX8_fractionPart ∈ UU := UU_in (UU_t4 _ (List.mem_of_getElem? (i := 3) rfl)) rfl
theorem u4_4 : Jvm.Cond.code yX8_fractionPart prog_1_method_51_code (4 : Nat) (Option.some Jvm.ClassFile.FieldType.long) ∈ UU := UU_in (UU_t4 _ (List.mem_of_getElem? (i := 4) rfl)) rfl
theorem u4_5 : Jvm.Cond.methodLink "StoneRoads" (341 : Nat) yX8_commonDivisor ∈ UU := UU_in (UU_t4 _ (List.mem_of_getElem? (i := 5) rfl)) rfl
theorem u4_6 : Jvm.Cond.static yX8_commonDivisor ∈ UU := UU_in (UU_t4 _ (List.mem_of_getElem? (i := 6) rfl)) rfl
theorem u4_7 : Jvm.Cond.code yX8_commonDivisor prog_1_method_52_code (4 : Nat) (Option.some Jvm.ClassFile.FieldType.int) ∈ UU := UU_in (UU_t4 _ (List.mem_of_getElem? (i := 7) rfl)) rfl
theorem u4_8 : Jvm.Cond.methodLink "StoneRoadsLaw" (124 : Nat) yX8_mean ∈ UU := UU_in (UU_t4 _ (List.mem_of_getElem? (i := 8) rfl)) rfl
theorem u4_9 : Jvm.Cond.instanceMethod yX8_mean ∈ UU := UU_in (UU_t4 _ (List.mem_of_getElem? (i := 9) rfl)) rfl
theorem u4_10 : Jvm.Cond.selects "StoneRoads" yX8_mean yX8_mean ∈ UU := UU_in (UU_t4 _ (List.mem_of_getElem? (i := 10) rfl)) rfl
theorem u4_11 : Jvm.Cond.code yX8_mean prog_1_method_28_code (2 : Nat) (Option.some Jvm.ClassFile.FieldType.long) ∈ UU := UU_in (UU_t4 _ (List.mem_of_getElem? (i := 11) rfl)) rfl
theorem u4_12 : Jvm.Cond.methodLink "StoneRoads" (267 : Nat) yX3_allLoads ∈ UU := UU_in (UU_t4 _ (List.mem_of_getElem? (i := 12) rfl)) rfl
theorem u4_13 : Jvm.Cond.instanceMethod yX3_allLoads ∈ UU := UU_in (UU_t4 _ (List.mem_of_getElem? (i := 13) rfl)) rfl
theorem u4_14 : Jvm.Cond.selects "StoneRoads$Plan" yX3_allLoads yX3_allLoads ∈ UU := UU_in (UU_t4 _ (List.mem_of_getElem? (i := 14) rfl)) rfl
theorem u4_15 : Jvm.Cond.code yX3_allLoads prog_5_method_14_code (4 : Nat) (Option.some Jvm.ClassFile.FieldType.int) ∈ UU := UU_in (UU_t4 _ (List.mem_of_getElem? (i := 15) rfl)) rfl
theorem u4_16 : Jvm.Cond.methodLink "StoneRoadsLaw" (129 : Nat) yX8_order ∈ UU := UU_in (UU_t4 _ (List.mem_of_getElem? (i := 16) rfl)) rfl
theorem u4_17 : Jvm.Cond.instanceMethod yX8_order ∈ UU := UU_in (UU_t4 _ (List.mem_of_getElem? (i := 17) rfl)) rfl
theorem u4_18 : Jvm.Cond.selects "StoneRoads" yX8_order yX8_order ∈ UU := UU_in (UU_t4 _ (List.mem_of_getElem? (i := 18) rfl)) rfl
theorem u4_19 : Jvm.Cond.code yX8_order prog_1_method_29_code (3 : Nat) (Option.some Jvm.ClassFile.FieldType.int) ∈ UU := UU_in (UU_t4 _ (List.mem_of_getElem? (i := 19) rfl)) rfl
theorem u4_20 : Jvm.Cond.methodLink "StoneRoads" (273 : Nat) yX8_isOrder ∈ UU := UU_in (UU_t4 _ (List.mem_of_getElem? (i := 20) rfl)) rfl
theorem u4_22 : Jvm.Cond.instanceMethod yX8_isOrder ∈ UU := UU_in (UU_t4 _ (List.mem_of_getElem? (i := 22) rfl)) rfl
theorem u4_23 : Jvm.Cond.code yX8_isOrder prog_1_method_50_code (3 : Nat) (Option.some Jvm.ClassFile.FieldType.boolean) ∈ UU := UU_in (UU_t4 _ (List.mem_of_getElem? (i := 23) rfl)) rfl
theorem u4_24 : Jvm.Cond.methodLink "StoneRoadsLaw" (133 : Nat) yX8_ends ∈ UU := UU_in (UU_t4 _ (List.mem_of_getElem? (i := 24) rfl)) rfl
theorem u4_25 : Jvm.Cond.instanceMethod yX8_ends ∈ UU := UU_in (UU_t4 _ (List.mem_of_getElem? (i := 25) rfl)) rfl
theorem u4_26 : Jvm.Cond.selects "StoneRoads" yX8_ends yX8_ends ∈ UU := UU_in (UU_t4 _ (List.mem_of_getElem? (i := 26) rfl)) rfl
theorem u4_27 : Jvm.Cond.code yX8_ends prog_1_method_30_code (3 : Nat) (Option.some Jvm.ClassFile.FieldType.int) ∈ UU := UU_in (UU_t4 _ (List.mem_of_getElem? (i := 27) rfl)) rfl
theorem u4_28 : Jvm.Cond.methodLink "StoneRoads" (283 : Nat) yX0_happen ∈ UU := UU_in (UU_t4 _ (List.mem_of_getElem? (i := 28) rfl)) rfl
theorem u4_29 : Jvm.Cond.instanceMethod yX0_happen ∈ UU := UU_in (UU_t4 _ (List.mem_of_getElem? (i := 29) rfl)) rfl
theorem u4_30 : Jvm.Cond.selects "StoneRoads$Ground" yX0_happen yX0_happen ∈ UU := UU_in (UU_t4 _ (List.mem_of_getElem? (i := 30) rfl)) rfl
theorem u4_31 : Jvm.Cond.code yX0_happen prog_2_method_12_code (3 : Nat) (Option.none : Option Jvm.ClassFile.FieldType) ∈ UU := UU_in (UU_t4 _ (List.mem_of_getElem? (i := 31) rfl)) rfl
theorem u4_32 : Jvm.Cond.methodLink "StoneRoads$Ground" (57 : Nat) yX0_isSite ∈ UU := UU_in (UU_t4 _ (List.mem_of_getElem? (i := 32) rfl)) rfl
theorem u4_33 : Jvm.Cond.methodLink "StoneRoads$Ground" (60 : Nat) Lib.Math.min.name ∈ UU := UU_in (UU_t4 _ (List.mem_of_getElem? (i := 33) rfl)) rfl
theorem u4_34 : Jvm.Cond.methodLink "StoneRoads$Ground" (65 : Nat) yX0_shutRoad ∈ UU := UU_in (UU_t4 _ (List.mem_of_getElem? (i := 34) rfl)) rfl
theorem u4_35 : Jvm.Cond.methodLink "StoneRoads" (287 : Nat) yX0_allStones ∈ UU := UU_in (UU_t4 _ (List.mem_of_getElem? (i := 35) rfl)) rfl
theorem u4_36 : Jvm.Cond.methodLink "StoneRoads" (290 : Nat) yX0_allWants ∈ UU := UU_in (UU_t4 _ (List.mem_of_getElem? (i := 36) rfl)) rfl
theorem u4_37 : Jvm.Cond.methodLink "StoneRoads" (293 : Nat) Lib.Math.max.name ∈ UU := UU_in (UU_t4 _ (List.mem_of_getElem? (i := 37) rfl)) rfl
theorem u4_38 : Jvm.Cond.methodLink "StoneRoadsLaw" (137 : Nat) yX8_book ∈ UU := UU_in (UU_t4 _ (List.mem_of_getElem? (i := 38) rfl)) rfl
theorem u4_39 : Jvm.Cond.instanceMethod yX8_book ∈ UU := UU_in (UU_t4 _ (List.mem_of_getElem? (i := 39) rfl)) rfl
theorem u4_40 : Jvm.Cond.selects "StoneRoads" yX8_book yX8_book ∈ UU := UU_in (UU_t4 _ (List.mem_of_getElem? (i := 40) rfl)) rfl
theorem u4_41 : Jvm.Cond.code yX8_book prog_1_method_31_code (4 : Nat) (Option.some Jvm.ClassFile.FieldType.int) ∈ UU := UU_in (UU_t4 _ (List.mem_of_getElem? (i := 41) rfl)) rfl
theorem u4_42 : Jvm.Cond.methodLink "StoneRoadsLaw" (141 : Nat) yX8_looked ∈ UU := UU_in (UU_t4 _ (List.mem_of_getElem? (i := 42) rfl)) rfl
theorem u4_43 : Jvm.Cond.instanceMethod yX8_looked ∈ UU := UU_in (UU_t4 _ (List.mem_of_getElem? (i := 43) rfl)) rfl
theorem u4_44 : Jvm.Cond.selects "StoneRoads" yX8_looked yX8_looked ∈ UU := UU_in (UU_t4 _ (List.mem_of_getElem? (i := 44) rfl)) rfl
theorem u4_45 : Jvm.Cond.code yX8_looked prog_1_method_32_code (1 : Nat) (Option.some Jvm.ClassFile.FieldType.int) ∈ UU := UU_in (UU_t4 _ (List.mem_of_getElem? (i := 45) rfl)) rfl
theorem u4_46 : Jvm.Cond.methodLink "StoneRoadsLaw" (145 : Nat) yX8_judge ∈ UU := UU_in (UU_t4 _ (List.mem_of_getElem? (i := 46) rfl)) rfl
theorem u4_47 : Jvm.Cond.instanceMethod yX8_judge ∈ UU := UU_in (UU_t4 _ (List.mem_of_getElem? (i := 47) rfl)) rfl
theorem u4_48 : Jvm.Cond.selects "StoneRoads" yX8_judge yX8_judge ∈ UU := UU_in (UU_t4 _ (List.mem_of_getElem? (i := 48) rfl)) rfl
theorem u4_49 : Jvm.Cond.code yX8_judge prog_1_method_33_code (4 : Nat) (Option.some Jvm.ClassFile.FieldType.int) ∈ UU := UU_in (UU_t4 _ (List.mem_of_getElem? (i := 49) rfl)) rfl
theorem u4_50 : Jvm.Cond.methodLink "StoneRoads" (301 : Nat) yX8_isTape ∈ UU := UU_in (UU_t4 _ (List.mem_of_getElem? (i := 50) rfl)) rfl
theorem u4_51 : Jvm.Cond.static yX8_isTape ∈ UU := UU_in (UU_t4 _ (List.mem_of_getElem? (i := 51) rfl)) rfl
theorem u4_52 : Jvm.Cond.code yX8_isTape prog_1_method_42_code (1 : Nat) (Option.some Jvm.ClassFile.FieldType.boolean) ∈ UU := UU_in (UU_t4 _ (List.mem_of_getElem? (i := 52) rfl)) rfl
theorem u4_53 : Jvm.Cond.methodLink "StoneRoads" (308 : Nat) yX3_judgeRow ∈ UU := UU_in (UU_t4 _ (List.mem_of_getElem? (i := 53) rfl)) rfl
theorem u4_54 : Jvm.Cond.instanceMethod yX3_judgeRow ∈ UU := UU_in (UU_t4 _ (List.mem_of_getElem? (i := 54) rfl)) rfl
theorem u4_55 : Jvm.Cond.selects "StoneRoads$Plan" yX3_judgeRow yX3_judgeRow ∈ UU := UU_in (UU_t4 _ (List.mem_of_getElem? (i := 55) rfl)) rfl
theorem u4_56 : Jvm.Cond.code yX3_judgeRow prog_5_method_17_code (6 : Nat) (Option.some Jvm.ClassFile.FieldType.int) ∈ UU := UU_in (UU_t4 _ (List.mem_of_getElem? (i := 56) rfl)) rfl
theorem u4_57 : Jvm.Cond.methodLink "StoneRoads$Plan" (154 : Nat) yX7_hasRun ∈ UU := UU_in (UU_t4 _ (List.mem_of_getElem? (i := 57) rfl)) rfl
theorem u4_58 : Jvm.Cond.instanceMethod yX7_hasRun ∈ UU := UU_in (UU_t4 _ (List.mem_of_getElem? (i := 58) rfl)) rfl
theorem u4_59 : Jvm.Cond.selects "StoneRoads$Tape" yX7_hasRun yX7_hasRun ∈ UU := UU_in (UU_t4 _ (List.mem_of_getElem? (i := 59) rfl)) rfl
theorem u4_60 : Jvm.Cond.code yX7_hasRun prog_9_method_4_code (3 : Nat) (Option.some Jvm.ClassFile.FieldType.boolean) ∈ UU := UU_in (UU_t4 _ (List.mem_of_getElem? (i := 60) rfl)) rfl
theorem u4_61 : Jvm.Cond.methodLink "StoneRoadsLaw" (149 : Nat) yX8_image ∈ UU := UU_in (UU_t4 _ (List.mem_of_getElem? (i := 61) rfl)) rfl
theorem u4_62 : Jvm.Cond.instanceMethod yX8_image ∈ UU := UU_in (UU_t4 _ (List.mem_of_getElem? (i := 62) rfl)) rfl
theorem u4_63 : Jvm.Cond.selects "StoneRoads" yX8_image yX8_image ∈ UU := UU_in (UU_t4 _ (List.mem_of_getElem? (i := 63) rfl)) rfl
theorem u4_64 : Jvm.Cond.code yX8_image prog_1_method_34_code (1 : Nat) (Option.some Jvm.ClassFile.FieldType.int) ∈ UU := UU_in (UU_t4 _ (List.mem_of_getElem? (i := 64) rfl)) rfl
theorem u4_65 : Jvm.Cond.methodLink "StoneRoads" (312 : Nat) yX6_copyFrom ∈ UU := UU_in (UU_t4 _ (List.mem_of_getElem? (i := 65) rfl)) rfl
theorem u4_66 : Jvm.Cond.instanceMethod yX6_copyFrom ∈ UU := UU_in (UU_t4 _ (List.mem_of_getElem? (i := 66) rfl)) rfl
theorem u4_67 : Jvm.Cond.selects "StoneRoads$State" yX6_copyFrom yX6_copyFrom ∈ UU := UU_in (UU_t4 _ (List.mem_of_getElem? (i := 67) rfl)) rfl
theorem u4_68 : Jvm.Cond.code yX6_copyFrom prog_8_method_2_code (2 : Nat) (Option.none : Option Jvm.ClassFile.FieldType) ∈ UU := UU_in (UU_t4 _ (List.mem_of_getElem? (i := 68) rfl)) rfl
theorem u4_69 : Jvm.Cond.methodLink "StoneRoads$State" (40 : Nat) yX0_copyFrom ∈ UU := UU_in (UU_t4 _ (List.mem_of_getElem? (i := 69) rfl)) rfl
theorem u4_70 : Jvm.Cond.methodLink "StoneRoads$State" (44 : Nat) yX3_copyFrom ∈ UU := UU_in (UU_t4 _ (List.mem_of_getElem? (i := 70) rfl)) rfl
theorem u4_71 : Jvm.Cond.methodLink "StoneRoads$State" (47 : Nat) yX4_copyFrom ∈ UU := UU_in (UU_t4 _ (List.mem_of_getElem? (i := 71) rfl)) rfl
theorem u4_72 : Jvm.Cond.instanceMethod yX4_copyFrom ∈ UU := UU_in (UU_t4 _ (List.mem_of_getElem? (i := 72) rfl)) rfl
theorem u4_73 : Jvm.Cond.selects "StoneRoads$Rows" yX4_copyFrom yX4_copyFrom ∈ UU := UU_in (UU_t4 _ (List.mem_of_getElem? (i := 73) rfl)) rfl
theorem u4_74 : Jvm.Cond.code yX4_copyFrom prog_6_method_2_code (2 : Nat) (Option.none : Option Jvm.ClassFile.FieldType) ∈ UU := UU_in (UU_t4 _ (List.mem_of_getElem? (i := 74) rfl)) rfl
theorem u4_75 : Jvm.Cond.methodLink "StoneRoads$Rows" (31 : Nat) arraycopyName ∈ UU := UU_in (UU_t4 _ (List.mem_of_getElem? (i := 75) rfl)) rfl
theorem u4_76 : Jvm.Cond.methodLink "StoneRoadsLaw" (153 : Nat) yX8_undo ∈ UU := UU_in (UU_t4 _ (List.mem_of_getElem? (i := 76) rfl)) rfl
theorem u4_77 : Jvm.Cond.instanceMethod yX8_undo ∈ UU := UU_in (UU_t4 _ (List.mem_of_getElem? (i := 77) rfl)) rfl
theorem u4_78 : Jvm.Cond.selects "StoneRoads" yX8_undo yX8_undo ∈ UU := UU_in (UU_t4 _ (List.mem_of_getElem? (i := 78) rfl)) rfl
theorem u4_79 : Jvm.Cond.code yX8_undo prog_1_method_35_code (1 : Nat) (Option.some Jvm.ClassFile.FieldType.int) ∈ UU := UU_in (UU_t4 _ (List.mem_of_getElem? (i := 79) rfl)) rfl
theorem u4_80 : Jvm.Cond.methodLink "StoneRoadsLaw" (157 : Nat) yX8_count ∈ UU := UU_in (UU_t4 _ (List.mem_of_getElem? (i := 80) rfl)) rfl
theorem u4_81 : Jvm.Cond.instanceMethod yX8_count ∈ UU := UU_in (UU_t4 _ (List.mem_of_getElem? (i := 81) rfl)) rfl
theorem u4_82 : Jvm.Cond.selects "StoneRoads" yX8_count yX8_count ∈ UU := UU_in (UU_t4 _ (List.mem_of_getElem? (i := 82) rfl)) rfl
theorem u4_83 : Jvm.Cond.code yX8_count prog_1_method_36_code (2 : Nat) (Option.some Jvm.ClassFile.FieldType.int) ∈ UU := UU_in (UU_t4 _ (List.mem_of_getElem? (i := 83) rfl)) rfl
theorem u4_84 : Jvm.Cond.methodLink "StoneRoads" (315 : Nat) yX0_shutRoads ∈ UU := UU_in (UU_t4 _ (List.mem_of_getElem? (i := 84) rfl)) rfl
theorem u4_85 : Jvm.Cond.instanceMethod yX0_shutRoads ∈ UU := UU_in (UU_t4 _ (List.mem_of_getElem? (i := 85) rfl)) rfl
theorem u4_86 : Jvm.Cond.selects "StoneRoads$Ground" yX0_shutRoads yX0_shutRoads ∈ UU := UU_in (UU_t4 _ (List.mem_of_getElem? (i := 86) rfl)) rfl
theorem u4_87 : Jvm.Cond.code yX0_shutRoads prog_2_method_11_code (4 : Nat) (Option.some Jvm.ClassFile.FieldType.int) ∈ UU := UU_in (UU_t4 _ (List.mem_of_getElem? (i := 87) rfl)) rfl
theorem u4_88 : Jvm.Cond.methodLink "StoneRoadsLaw" (161 : Nat) yX8_tape ∈ UU := UU_in (UU_t4 _ (List.mem_of_getElem? (i := 88) rfl)) rfl
theorem u4_89 : Jvm.Cond.instanceMethod yX8_tape ∈ UU := UU_in (UU_t4 _ (List.mem_of_getElem? (i := 89) rfl)) rfl
theorem u4_90 : Jvm.Cond.selects "StoneRoads" yX8_tape yX8_tape ∈ UU := UU_in (UU_t4 _ (List.mem_of_getElem? (i := 90) rfl)) rfl
theorem u4_91 : Jvm.Cond.code yX8_tape prog_1_method_37_code (4 : Nat) (Option.some Jvm.ClassFile.FieldType.int) ∈ UU := UU_in (UU_t4 _ (List.mem_of_getElem? (i := 91) rfl)) rfl
theorem u4_92 : Jvm.Cond.methodLink "StoneRoads" (318 : Nat) yX7_become ∈ UU := UU_in (UU_t4 _ (List.mem_of_getElem? (i := 92) rfl)) rfl
theorem u4_93 : Jvm.Cond.instanceMethod yX7_become ∈ UU := UU_in (UU_t4 _ (List.mem_of_getElem? (i := 93) rfl)) rfl
theorem u4_94 : Jvm.Cond.selects "StoneRoads$Tape" yX7_become yX7_become ∈ UU := UU_in (UU_t4 _ (List.mem_of_getElem? (i := 94) rfl)) rfl
theorem u4_95 : Jvm.Cond.code yX7_become prog_9_method_2_code (3 : Nat) (Option.none : Option Jvm.ClassFile.FieldType) ∈ UU := UU_in (UU_t4 _ (List.mem_of_getElem? (i := 95) rfl)) rfl
theorem u4_96 : Jvm.Cond.methodLink "StoneRoads$Tape" (22 : Nat) yJ7_fill_d0a16 ∈ UU := UU_in (UU_t4 _ (List.mem_of_getElem? (i := 96) rfl)) rfl
theorem u4_97 : Jvm.Cond.static yJ7_fill_d0a16 ∈ UU := UU_in (UU_t4 _ (List.mem_of_getElem? (i := 97) rfl)) rfl
theorem u4_98 : Jvm.Cond.code yJ7_fill_d0a16 prog_15_method_101_code (5 : Nat) (Option.none : Option Jvm.ClassFile.FieldType) ∈ UU := UU_in (UU_t4 _ (List.mem_of_getElem? (i := 98) rfl)) rfl
theorem u4_99 : Jvm.Cond.methodLink "StoneRoadsLaw" (167 : Nat) yX8_item ∈ UU := UU_in (UU_t4 _ (List.mem_of_getElem? (i := 99) rfl)) rfl
theorem u4_100 : Jvm.Cond.instanceMethod yX8_item ∈ UU := UU_in (UU_t4 _ (List.mem_of_getElem? (i := 100) rfl)) rfl
theorem u4_101 : Jvm.Cond.selects "StoneRoads" yX8_item yX8_item ∈ UU := UU_in (UU_t4 _ (List.mem_of_getElem? (i := 101) rfl)) rfl
theorem u4_102 : Jvm.Cond.code yX8_item prog_1_method_38_code (6 : Nat) (Option.some Jvm.ClassFile.FieldType.int) ∈ UU := UU_in (UU_t4 _ (List.mem_of_getElem? (i := 102) rfl)) rfl
theorem u4_103 : Jvm.Cond.methodLink "StoneRoads" (321 : Nat) yX7_hasPlace ∈ UU := UU_in (UU_t4 _ (List.mem_of_getElem? (i := 103) rfl)) rfl
theorem u4_104 : Jvm.Cond.instanceMethod yX7_hasPlace ∈ UU := UU_in (UU_t4 _ (List.mem_of_getElem? (i := 104) rfl)) rfl
theorem u4_105 : Jvm.Cond.selects "StoneRoads$Tape" yX7_hasPlace yX7_hasPlace ∈ UU := UU_in (UU_t4 _ (List.mem_of_getElem? (i := 105) rfl)) rfl
theorem u4_106 : Jvm.Cond.code yX7_hasPlace prog_9_method_3_code (2 : Nat) (Option.some Jvm.ClassFile.FieldType.boolean) ∈ UU := UU_in (UU_t4 _ (List.mem_of_getElem? (i := 106) rfl)) rfl
theorem u4_107 : Jvm.Cond.methodLink "StoneRoads" (328 : Nat) yX7_fitted ∈ UU := UU_in (UU_t4 _ (List.mem_of_getElem? (i := 107) rfl)) rfl
theorem u4_108 : Jvm.Cond.instanceMethod yX7_fitted ∈ UU := UU_in (UU_t4 _ (List.mem_of_getElem? (i := 108) rfl)) rfl
theorem u4_109 : Jvm.Cond.selects "StoneRoads$Tape" yX7_fitted yX7_fitted ∈ UU := UU_in (UU_t4 _ (List.mem_of_getElem? (i := 109) rfl)) rfl
theorem u4_110 : Jvm.Cond.code yX7_fitted prog_9_method_5_code (3 : Nat) (Option.some Jvm.ClassFile.FieldType.long) ∈ UU := UU_in (UU_t4 _ (List.mem_of_getElem? (i := 110) rfl)) rfl
theorem u4_111 : Jvm.Cond.methodLink "StoneRoadsLaw" (172 : Nat) yX8_peek ∈ UU := UU_in (UU_t4 _ (List.mem_of_getElem? (i := 111) rfl)) rfl
theorem u4_112 : Jvm.Cond.instanceMethod yX8_peek ∈ UU := UU_in (UU_t4 _ (List.mem_of_getElem? (i := 112) rfl)) rfl
theorem u4_113 : Jvm.Cond.selects "StoneRoads" yX8_peek yX8_peek ∈ UU := UU_in (UU_t4 _ (List.mem_of_getElem? (i := 113) rfl)) rfl
theorem u4_114 : Jvm.Cond.code yX8_peek prog_1_method_39_code (3 : Nat) (Option.some Jvm.ClassFile.FieldType.long) ∈ UU := UU_in (UU_t4 _ (List.mem_of_getElem? (i := 114) rfl)) rfl
theorem u4_115 : Jvm.Cond.methodLink "StoneRoadsLaw" (176 : Nat) yX8_shift ∈ UU := UU_in (UU_t4 _ (List.mem_of_getElem? (i := 115) rfl)) rfl
theorem u4_116 : Jvm.Cond.instanceMethod yX8_shift ∈ UU := UU_in (UU_t4 _ (List.mem_of_getElem? (i := 116) rfl)) rfl
theorem u4_117 : Jvm.Cond.selects "StoneRoads" yX8_shift yX8_shift ∈ UU := UU_in (UU_t4 _ (List.mem_of_getElem? (i := 117) rfl)) rfl
theorem u4_118 : Jvm.Cond.code yX8_shift prog_1_method_40_code (8 : Nat) (Option.some Jvm.ClassFile.FieldType.int) ∈ UU := UU_in (UU_t4 _ (List.mem_of_getElem? (i := 118) rfl)) rfl
theorem u4_119 : Jvm.Cond.methodLink "StoneRoads" (332 : Nat) yX7_hasRun ∈ UU := UU_in (UU_t4 _ (List.mem_of_getElem? (i := 119) rfl)) rfl
theorem u4_120 : Jvm.Cond.methodLink "StoneRoads" (335 : Nat) arraycopyName ∈ UU := UU_in (UU_t4 _ (List.mem_of_getElem? (i := 120) rfl)) rfl
theorem u4_121 : Jvm.Cond.classLink "StoneRoadsLaw" (10 : Nat) "StoneRoadsModel" ∈ UU := UU_in (UU_t4 _ (List.mem_of_getElem? (i := 121) rfl)) rfl
theorem u4_122 : Jvm.Cond.instantiable "StoneRoadsModel" (51 : Nat) ∈ UU := UU_in (UU_t4 _ (List.mem_of_getElem? (i := 122) rfl)) rfl
theorem u4_123 : Jvm.Cond.methodLink "StoneRoadsLaw" (12 : Nat) yX9_init ∈ UU := UU_in (UU_t4 _ (List.mem_of_getElem? (i := 123) rfl)) rfl
theorem u4_124 : Jvm.Cond.instanceMethod yX9_init ∈ UU := UU_in (UU_t4 _ (List.mem_of_getElem? (i := 124) rfl)) rfl
theorem u4_125 : Jvm.Cond.code yX9_init prog_11_method_1_code (2 : Nat) (Option.none : Option Jvm.ClassFile.FieldType) ∈ UU := UU_in (UU_t4 _ (List.mem_of_getElem? (i := 125) rfl)) rfl
theorem u4_126 : Jvm.Cond.methodLink "StoneRoadsModel" (3 : Nat) objectInit ∈ UU := UU_in (UU_t4 _ (List.mem_of_getElem? (i := 126) rfl)) rfl
theorem u4_127 : Jvm.Cond.classLink "StoneRoadsModel" (94 : Nat) "[[J" ∈ UU := UU_in (UU_t4 _ (List.mem_of_getElem? (i := 127) rfl)) rfl
theorem v4_128 : Jvm.Cond.arrayOver (Jvm.ClassFile.FieldType.array Jvm.ClassFile.FieldType.long) ∈ lw_tbl := UU_t4 _ (List.mem_of_getElem? (i := 128) rfl)
theorem u4_129 : Jvm.Cond.fieldLink "StoneRoadsModel" (109 : Nat) "StoneRoadsModel" "quarries" "I" ∈ UU := UU_in (UU_t4 _ (List.mem_of_getElem? (i := 129) rfl)) rfl
theorem u4_130 : Jvm.Cond.fieldLink "StoneRoadsModel" (113 : Nat) "StoneRoadsModel" "works" "I" ∈ UU := UU_in (UU_t4 _ (List.mem_of_getElem? (i := 130) rfl)) rfl
theorem u4_131 : Jvm.Cond.fieldLink "StoneRoadsModel" (11 : Nat) "StoneRoadsModel" "much" "[I" ∈ UU := UU_in (UU_t4 _ (List.mem_of_getElem? (i := 131) rfl)) rfl
theorem u4_132 : Jvm.Cond.fieldLink "StoneRoadsModel" (15 : Nat) "StoneRoadsModel" "due" "[I" ∈ UU := UU_in (UU_t4 _ (List.mem_of_getElem? (i := 132) rfl)) rfl
theorem u4_133 : Jvm.Cond.fieldLink "StoneRoadsModel" (18 : Nat) "StoneRoadsModel" "kind" "[I" ∈ UU := UU_in (UU_t4 _ (List.mem_of_getElem? (i := 133) rfl)) rfl
theorem u4_134 : Jvm.Cond.fieldLink "StoneRoadsModel" (21 : Nat) "StoneRoadsModel" "base" "[I" ∈ UU := UU_in (UU_t4 _ (List.mem_of_getElem? (i := 134) rfl)) rfl
theorem u4_135 : Jvm.Cond.fieldLink "StoneRoadsModel" (141 : Nat) "StoneRoadsModel" "isPlan" "I" ∈ UU := UU_in (UU_t4 _ (List.mem_of_getElem? (i := 135) rfl)) rfl
theorem u4_136 : Jvm.Cond.fieldLink "StoneRoadsModel" (124 : Nat) "StoneRoadsModel" "sources" "I" ∈ UU := UU_in (UU_t4 _ (List.mem_of_getElem? (i := 136) rfl)) rfl
theorem u4_137 : Jvm.Cond.fieldLink "StoneRoadsModel" (127 : Nat) "StoneRoadsModel" "sinks" "I" ∈ UU := UU_in (UU_t4 _ (List.mem_of_getElem? (i := 137) rfl)) rfl
theorem u4_138 : Jvm.Cond.fieldLink "StoneRoadsModel" (144 : Nat) "StoneRoadsModel" "steps" "I" ∈ UU := UU_in (UU_t4 _ (List.mem_of_getElem? (i := 138) rfl)) rfl
theorem u4_139 : Jvm.Cond.fieldLink "StoneRoadsModel" (24 : Nat) "StoneRoadsModel" "cost" "[I" ∈ UU := UU_in (UU_t4 _ (List.mem_of_getElem? (i := 139) rfl)) rfl
theorem u4_140 : Jvm.Cond.fieldLink "StoneRoadsModel" (27 : Nat) "StoneRoadsModel" "load" "[I" ∈ UU := UU_in (UU_t4 _ (List.mem_of_getElem? (i := 140) rfl)) rfl
theorem u4_141 : Jvm.Cond.fieldLink "StoneRoadsModel" (30 : Nat) "StoneRoadsModel" "basic" "[I" ∈ UU := UU_in (UU_t4 _ (List.mem_of_getElem? (i := 141) rfl)) rfl
theorem u4_142 : Jvm.Cond.fieldLink "StoneRoadsModel" (33 : Nat) "StoneRoadsModel" "trace" "[I" ∈ UU := UU_in (UU_t4 _ (List.mem_of_getElem? (i := 142) rfl)) rfl
theorem u4_143 : Jvm.Cond.fieldLink "StoneRoadsModel" (36 : Nat) "StoneRoadsModel" "seenRoad" "[I" ∈ UU := UU_in (UU_t4 _ (List.mem_of_getElem? (i := 143) rfl)) rfl
theorem u4_144 : Jvm.Cond.fieldLink "StoneRoadsModel" (39 : Nat) "StoneRoadsModel" "seenLoad" "[I" ∈ UU := UU_in (UU_t4 _ (List.mem_of_getElem? (i := 144) rfl)) rfl
theorem u4_145 : Jvm.Cond.fieldLink "StoneRoadsModel" (42 : Nat) "StoneRoadsModel" "orderWhat" "[I" ∈ UU := UU_in (UU_t4 _ (List.mem_of_getElem? (i := 145) rfl)) rfl
theorem u4_146 : Jvm.Cond.fieldLink "StoneRoadsModel" (45 : Nat) "StoneRoadsModel" "orderN" "[I" ∈ UU := UU_in (UU_t4 _ (List.mem_of_getElem? (i := 146) rfl)) rfl
theorem u4_147 : Jvm.Cond.fieldLink "StoneRoadsModel" (48 : Nat) "StoneRoadsModel" "bookRoad" "[I" ∈ UU := UU_in (UU_t4 _ (List.mem_of_getElem? (i := 147) rfl)) rfl
theorem u4_148 : Jvm.Cond.fieldLink "StoneRoadsModel" (51 : Nat) "StoneRoadsModel" "bookLoad" "[I" ∈ UU := UU_in (UU_t4 _ (List.mem_of_getElem? (i := 148) rfl)) rfl
theorem u4_149 : Jvm.Cond.fieldLink "StoneRoadsModel" (147 : Nat) "StoneRoadsModel" "seen" "I" ∈ UU := UU_in (UU_t4 _ (List.mem_of_getElem? (i := 149) rfl)) rfl
theorem u4_150 : Jvm.Cond.fieldLink "StoneRoadsModel" (150 : Nat) "StoneRoadsModel" "orders" "I" ∈ UU := UU_in (UU_t4 _ (List.mem_of_getElem? (i := 150) rfl)) rfl
theorem u4_151 : Jvm.Cond.fieldLink "StoneRoadsModel" (153 : Nat) "StoneRoadsModel" "books" "I" ∈ UU := UU_in (UU_t4 _ (List.mem_of_getElem? (i := 151) rfl)) rfl
theorem u4_152 : Jvm.Cond.fieldLink "StoneRoadsModel" (54 : Nat) "StoneRoadsModel" "text" "[I" ∈ UU := UU_in (UU_t4 _ (List.mem_of_getElem? (i := 152) rfl)) rfl
theorem u4_153 : Jvm.Cond.fieldLink "StoneRoadsModel" (205 : Nat) "StoneRoadsModel" "texted" "I" ∈ UU := UU_in (UU_t4 _ (List.mem_of_getElem? (i := 153) rfl)) rfl
theorem u4_154 : Jvm.Cond.fieldLink "StoneRoadsModel" (57 : Nat) "StoneRoadsModel" "imaged" "[I" ∈ UU := UU_in (UU_t4 _ (List.mem_of_getElem? (i := 154) rfl)) rfl
theorem u4_155 : Jvm.Cond.fieldLink "StoneRoadsModel" (160 : Nat) "StoneRoadsModel" "isKept" "Z" ∈ UU := UU_in (UU_t4 _ (List.mem_of_getElem? (i := 155) rfl)) rfl
theorem u4_156 : Jvm.Cond.fieldLink "StoneRoadsModel" (134 : Nat) "StoneRoadsModel" "spot" "I" ∈ UU := UU_in (UU_t4 _ (List.mem_of_getElem? (i := 156) rfl)) rfl
theorem u4_157 : Jvm.Cond.fieldLink "StoneRoadsModel" (130 : Nat) "StoneRoadsModel" "keeps" "Z" ∈ UU := UU_in (UU_t4 _ (List.mem_of_getElem? (i := 157) rfl)) rfl
theorem u4_158 : Jvm.Cond.fieldLink "StoneRoadsModel" (60 : Nat) "StoneRoadsModel" "mind" "[I" ∈ UU := UU_in (UU_t4 _ (List.mem_of_getElem? (i := 158) rfl)) rfl
theorem u4_159 : Jvm.Cond.fieldLink "StoneRoadsModel" (167 : Nat) "StoneRoadsModel" "mindAt" "I" ∈ UU := UU_in (UU_t4 _ (List.mem_of_getElem? (i := 159) rfl)) rfl
theorem u4_160 : Jvm.Cond.fieldLink "StoneRoadsModel" (202 : Nat) "StoneRoadsModel" "at" "I" ∈ UU := UU_in (UU_t4 _ (List.mem_of_getElem? (i := 160) rfl)) rfl
theorem u4_161 : Jvm.Cond.fieldLink "StoneRoadsModel" (208 : Nat) "StoneRoadsModel" "isFaulty" "Z" ∈ UU := UU_in (UU_t4 _ (List.mem_of_getElem? (i := 161) rfl)) rfl
theorem u4_162 : Jvm.Cond.fieldLink "StoneRoadsModel" (232 : Nat) "StoneRoadsModel" "whole" "I" ∈ UU := UU_in (UU_t4 _ (List.mem_of_getElem? (i := 162) rfl)) rfl
theorem u4_163 : Jvm.Cond.fieldLink "StoneRoadsModel" (235 : Nat) "StoneRoadsModel" "done" "I" ∈ UU := UU_in (UU_t4 _ (List.mem_of_getElem? (i := 163) rfl)) rfl
theorem u4_164 : Jvm.Cond.fieldLink "StoneRoadsModel" (63 : Nat) "StoneRoadsModel" "left" "[I" ∈ UU := UU_in (UU_t4 _ (List.mem_of_getElem? (i := 164) rfl)) rfl
theorem u4_165 : Jvm.Cond.fieldLink "StoneRoadsModel" (66 : Nat) "StoneRoadsModel" "isOpen" "[Z" ∈ UU := UU_in (UU_t4 _ (List.mem_of_getElem? (i := 165) rfl)) rfl
theorem u4_166 : Jvm.Cond.fieldLink "StoneRoadsModel" (70 : Nat) "StoneRoadsModel" "worth" "[I" ∈ UU := UU_in (UU_t4 _ (List.mem_of_getElem? (i := 166) rfl)) rfl
theorem u4_167 : Jvm.Cond.fieldLink "StoneRoadsModel" (73 : Nat) "StoneRoadsModel" "isKnown" "[Z" ∈ UU := UU_in (UU_t4 _ (List.mem_of_getElem? (i := 167) rfl)) rfl
theorem u4_168 : Jvm.Cond.fieldLink "StoneRoadsModel" (76 : Nat) "StoneRoadsModel" "isIn" "[Z" ∈ UU := UU_in (UU_t4 _ (List.mem_of_getElem? (i := 168) rfl)) rfl
theorem u4_169 : Jvm.Cond.fieldLink "StoneRoadsModel" (79 : Nat) "StoneRoadsModel" "round" "[I" ∈ UU := UU_in (UU_t4 _ (List.mem_of_getElem? (i := 169) rfl)) rfl
theorem u4_170 : Jvm.Cond.fieldLink "StoneRoadsModel" (300 : Nat) "StoneRoadsModel" "rounds" "I" ∈ UU := UU_in (UU_t4 _ (List.mem_of_getElem? (i := 170) rfl)) rfl
theorem u4_171 : Jvm.Cond.fieldLink "StoneRoadsModel" (306 : Nat) "StoneRoadsModel" "turn" "I" ∈ UU := UU_in (UU_t4 _ (List.mem_of_getElem? (i := 171) rfl)) rfl
theorem u4_172 : Jvm.Cond.fieldLink "StoneRoadsModel" (82 : Nat) "StoneRoadsModel" "ties" "[I" ∈ UU := UU_in (UU_t4 _ (List.mem_of_getElem? (i := 172) rfl)) rfl
theorem u4_173 : Jvm.Cond.fieldLink "StoneRoadsModel" (85 : Nat) "StoneRoadsModel" "muchWas" "[I" ∈ UU := UU_in (UU_t4 _ (List.mem_of_getElem? (i := 173) rfl)) rfl
theorem u4_174 : Jvm.Cond.fieldLink "StoneRoadsModel" (88 : Nat) "StoneRoadsModel" "dueWas" "[I" ∈ UU := UU_in (UU_t4 _ (List.mem_of_getElem? (i := 174) rfl)) rfl
theorem u4_175 : Jvm.Cond.fieldLink "StoneRoadsModel" (91 : Nat) "StoneRoadsModel" "kindWas" "[I" ∈ UU := UU_in (UU_t4 _ (List.mem_of_getElem? (i := 175) rfl)) rfl
theorem u4_176 : Jvm.Cond.fieldLink "StoneRoadsModel" (96 : Nat) "StoneRoadsModel" "tapes" "[[J" ∈ UU := UU_in (UU_t4 _ (List.mem_of_getElem? (i := 176) rfl)) rfl
theorem u4_177 : Jvm.Cond.fieldLink "StoneRoadsModel" (99 : Nat) "StoneRoadsModel" "tapeSort" "[I" ∈ UU := UU_in (UU_t4 _ (List.mem_of_getElem? (i := 177) rfl)) rfl
theorem u4_178 : Jvm.Cond.fieldLink "StoneRoadsModel" (102 : Nat) "StoneRoadsModel" "tapeSize" "[I" ∈ UU := UU_in (UU_t4 _ (List.mem_of_getElem? (i := 178) rfl)) rfl
theorem u4_179 : Jvm.Cond.fieldLink "StoneRoadsModel" (105 : Nat) "StoneRoadsModel" "moved" "[J" ∈ UU := UU_in (UU_t4 _ (List.mem_of_getElem? (i := 179) rfl)) rfl
theorem u5_43 : Jvm.Cond.methodLink "StoneRoadsLaw" (152 : Nat) yX9_image ∈ UU := UU_in (UU_t5 _ (List.mem_of_getElem? (i := 43) rfl)) rfl
theorem u5_44 : Jvm.Cond.instanceMethod yX9_image ∈ UU := UU_in (UU_t5 _ (List.mem_of_getElem? (i := 44) rfl)) rfl
theorem u5_45 : Jvm.Cond.selects "StoneRoadsModel" yX9_image yX9_image ∈ UU := UU_in (UU_t5 _ (List.mem_of_getElem? (i := 45) rfl)) rfl
theorem u5_46 : Jvm.Cond.code yX9_image prog_11_method_10_code (1 : Nat) (Option.some Jvm.ClassFile.FieldType.int) ∈ UU := UU_in (UU_t5 _ (List.mem_of_getElem? (i := 46) rfl)) rfl
theorem u5_47 : Jvm.Cond.methodLink "StoneRoadsModel" (163 : Nat) yX9_passesAll ∈ UU := UU_in (UU_t5 _ (List.mem_of_getElem? (i := 47) rfl)) rfl
theorem u5_49 : Jvm.Cond.instanceMethod yX9_passesAll ∈ UU := UU_in (UU_t5 _ (List.mem_of_getElem? (i := 49) rfl)) rfl
theorem u5_50 : Jvm.Cond.code yX9_passesAll prog_11_method_9_code (2 : Nat) (Option.some Jvm.ClassFile.FieldType.int) ∈ UU := UU_in (UU_t5 _ (List.mem_of_getElem? (i := 50) rfl)) rfl
theorem u5_51 : Jvm.Cond.methodLink "StoneRoadsModel" (137 : Nat) yX9_passes ∈ UU := UU_in (UU_t5 _ (List.mem_of_getElem? (i := 51) rfl)) rfl
theorem u5_53 : Jvm.Cond.instanceMethod yX9_passes ∈ UU := UU_in (UU_t5 _ (List.mem_of_getElem? (i := 53) rfl)) rfl
theorem u5_54 : Jvm.Cond.code yX9_passes prog_11_method_7_code (3 : Nat) (Option.some Jvm.ClassFile.FieldType.int) ∈ UU := UU_in (UU_t5 _ (List.mem_of_getElem? (i := 54) rfl)) rfl
theorem u5_55 : Jvm.Cond.methodLink "StoneRoadsModel" (156 : Nat) yX9_passesRow ∈ UU := UU_in (UU_t5 _ (List.mem_of_getElem? (i := 55) rfl)) rfl
theorem u5_57 : Jvm.Cond.instanceMethod yX9_passesRow ∈ UU := UU_in (UU_t5 _ (List.mem_of_getElem? (i := 57) rfl)) rfl
theorem u5_58 : Jvm.Cond.code yX9_passesRow prog_11_method_8_code (3 : Nat) (Option.none : Option Jvm.ClassFile.FieldType) ∈ UU := UU_in (UU_t5 _ (List.mem_of_getElem? (i := 58) rfl)) rfl
theorem u5_59 : Jvm.Cond.methodLink "StoneRoadsLaw" (156 : Nat) yX9_undo ∈ UU := UU_in (UU_t5 _ (List.mem_of_getElem? (i := 59) rfl)) rfl
theorem u5_60 : Jvm.Cond.instanceMethod yX9_undo ∈ UU := UU_in (UU_t5 _ (List.mem_of_getElem? (i := 60) rfl)) rfl
theorem u5_61 : Jvm.Cond.selects "StoneRoadsModel" yX9_undo yX9_undo ∈ UU := UU_in (UU_t5 _ (List.mem_of_getElem? (i := 61) rfl)) rfl
theorem u5_62 : Jvm.Cond.code yX9_undo prog_11_method_11_code (1 : Nat) (Option.some Jvm.ClassFile.FieldType.int) ∈ UU := UU_in (UU_t5 _ (List.mem_of_getElem? (i := 62) rfl)) rfl
theorem u5_63 : Jvm.Cond.methodLink "StoneRoadsLaw" (17 : Nat) yX9_quarry ∈ UU := UU_in (UU_t5 _ (List.mem_of_getElem? (i := 63) rfl)) rfl
theorem u5_64 : Jvm.Cond.instanceMethod yX9_quarry ∈ UU := UU_in (UU_t5 _ (List.mem_of_getElem? (i := 64) rfl)) rfl
theorem u5_65 : Jvm.Cond.selects "StoneRoadsModel" yX9_quarry yX9_quarry ∈ UU := UU_in (UU_t5 _ (List.mem_of_getElem? (i := 65) rfl)) rfl
theorem u5_66 : Jvm.Cond.code yX9_quarry prog_11_method_17_code (3 : Nat) (Option.some Jvm.ClassFile.FieldType.int) ∈ UU := UU_in (UU_t5 _ (List.mem_of_getElem? (i := 66) rfl)) rfl
theorem u5_67 : Jvm.Cond.methodLink "StoneRoadsModel" (183 : Nat) yX9_comes ∈ UU := UU_in (UU_t5 _ (List.mem_of_getElem? (i := 67) rfl)) rfl
theorem u5_69 : Jvm.Cond.instanceMethod yX9_comes ∈ UU := UU_in (UU_t5 _ (List.mem_of_getElem? (i := 69) rfl)) rfl
theorem u5_70 : Jvm.Cond.code yX9_comes prog_11_method_16_code (5 : Nat) (Option.some Jvm.ClassFile.FieldType.int) ∈ UU := UU_in (UU_t5 _ (List.mem_of_getElem? (i := 70) rfl)) rfl
theorem u5_71 : Jvm.Cond.constantLong "StoneRoadsModel" (176 : Nat) (99 : Int64) ∈ UU := UU_in (UU_t5 _ (List.mem_of_getElem? (i := 71) rfl)) rfl
theorem u5_72 : Jvm.Cond.methodLink "StoneRoadsModel" (116 : Nat) yX9_in ∈ UU := UU_in (UU_t5 _ (List.mem_of_getElem? (i := 72) rfl)) rfl
theorem u5_73 : Jvm.Cond.static yX9_in ∈ UU := UU_in (UU_t5 _ (List.mem_of_getElem? (i := 73) rfl)) rfl
theorem u5_74 : Jvm.Cond.code yX9_in prog_11_method_2_code (6 : Nat) (Option.some Jvm.ClassFile.FieldType.boolean) ∈ UU := UU_in (UU_t5 _ (List.mem_of_getElem? (i := 74) rfl)) rfl
theorem u5_75 : Jvm.Cond.constantLong "StoneRoadsModel" (178 : Nat) (9 : Int64) ∈ UU := UU_in (UU_t5 _ (List.mem_of_getElem? (i := 75) rfl)) rfl
theorem u5_76 : Jvm.Cond.methodLink "StoneRoadsModel" (180 : Nat) yX9_many ∈ UU := UU_in (UU_t5 _ (List.mem_of_getElem? (i := 76) rfl)) rfl
theorem u5_78 : Jvm.Cond.instanceMethod yX9_many ∈ UU := UU_in (UU_t5 _ (List.mem_of_getElem? (i := 78) rfl)) rfl
theorem u5_79 : Jvm.Cond.code yX9_many prog_11_method_3_code (2 : Nat) (Option.some Jvm.ClassFile.FieldType.int) ∈ UU := UU_in (UU_t5 _ (List.mem_of_getElem? (i := 79) rfl)) rfl
theorem u5_80 : Jvm.Cond.methodLink "StoneRoadsLaw" (21 : Nat) yX9_work ∈ UU := UU_in (UU_t5 _ (List.mem_of_getElem? (i := 80) rfl)) rfl
theorem u5_81 : Jvm.Cond.instanceMethod yX9_work ∈ UU := UU_in (UU_t5 _ (List.mem_of_getElem? (i := 81) rfl)) rfl
theorem u5_82 : Jvm.Cond.selects "StoneRoadsModel" yX9_work yX9_work ∈ UU := UU_in (UU_t5 _ (List.mem_of_getElem? (i := 82) rfl)) rfl
theorem u5_83 : Jvm.Cond.code yX9_work prog_11_method_18_code (3 : Nat) (Option.some Jvm.ClassFile.FieldType.int) ∈ UU := UU_in (UU_t5 _ (List.mem_of_getElem? (i := 83) rfl)) rfl
theorem u5_84 : Jvm.Cond.methodLink "StoneRoadsLaw" (26 : Nat) yX9_renew ∈ UU := UU_in (UU_t5 _ (List.mem_of_getElem? (i := 84) rfl)) rfl
theorem u5_85 : Jvm.Cond.instanceMethod yX9_renew ∈ UU := UU_in (UU_t5 _ (List.mem_of_getElem? (i := 85) rfl)) rfl
theorem u5_86 : Jvm.Cond.selects "StoneRoadsModel" yX9_renew yX9_renew ∈ UU := UU_in (UU_t5 _ (List.mem_of_getElem? (i := 86) rfl)) rfl
theorem u5_87 : Jvm.Cond.code yX9_renew prog_11_method_20_code (6 : Nat) (Option.some Jvm.ClassFile.FieldType.int) ∈ UU := UU_in (UU_t5 _ (List.mem_of_getElem? (i := 87) rfl)) rfl
theorem u5_88 : Jvm.Cond.methodLink "StoneRoadsModel" (187 : Nat) yX9_isThing ∈ UU := UU_in (UU_t5 _ (List.mem_of_getElem? (i := 88) rfl)) rfl
theorem u5_90 : Jvm.Cond.instanceMethod yX9_isThing ∈ UU := UU_in (UU_t5 _ (List.mem_of_getElem? (i := 90) rfl)) rfl
theorem u5_91 : Jvm.Cond.code yX9_isThing prog_11_method_19_code (4 : Nat) (Option.some Jvm.ClassFile.FieldType.boolean) ∈ UU := UU_in (UU_t5 _ (List.mem_of_getElem? (i := 91) rfl)) rfl
theorem u5_92 : Jvm.Cond.methodLink "StoneRoadsModel" (191 : Nat) yX9_of ∈ UU := UU_in (UU_t5 _ (List.mem_of_getElem? (i := 92) rfl)) rfl
theorem u5_93 : Jvm.Cond.instanceMethod yX9_of ∈ UU := UU_in (UU_t5 _ (List.mem_of_getElem? (i := 93) rfl)) rfl
theorem u5_94 : Jvm.Cond.selects "StoneRoadsModel" yX9_of yX9_of ∈ UU := UU_in (UU_t5 _ (List.mem_of_getElem? (i := 94) rfl)) rfl
theorem u5_95 : Jvm.Cond.code yX9_of prog_11_method_21_code (4 : Nat) (Option.some Jvm.ClassFile.FieldType.int) ∈ UU := UU_in (UU_t5 _ (List.mem_of_getElem? (i := 95) rfl)) rfl
theorem u5_96 : Jvm.Cond.methodLink "StoneRoadsLaw" (35 : Nat) yX9_of ∈ UU := UU_in (UU_t5 _ (List.mem_of_getElem? (i := 96) rfl)) rfl
theorem u5_97 : Jvm.Cond.methodLink "StoneRoadsLaw" (30 : Nat) yX9_road ∈ UU := UU_in (UU_t5 _ (List.mem_of_getElem? (i := 97) rfl)) rfl
theorem u5_98 : Jvm.Cond.instanceMethod yX9_road ∈ UU := UU_in (UU_t5 _ (List.mem_of_getElem? (i := 98) rfl)) rfl
theorem u5_99 : Jvm.Cond.selects "StoneRoadsModel" yX9_road yX9_road ∈ UU := UU_in (UU_t5 _ (List.mem_of_getElem? (i := 99) rfl)) rfl
theorem u5_100 : Jvm.Cond.code yX9_road prog_11_method_22_code (6 : Nat) (Option.some Jvm.ClassFile.FieldType.int) ∈ UU := UU_in (UU_t5 _ (List.mem_of_getElem? (i := 100) rfl)) rfl
theorem u5_101 : Jvm.Cond.methodLink "StoneRoadsModel" (120 : Nat) yX9_isRoad ∈ UU := UU_in (UU_t5 _ (List.mem_of_getElem? (i := 101) rfl)) rfl
theorem u5_103 : Jvm.Cond.instanceMethod yX9_isRoad ∈ UU := UU_in (UU_t5 _ (List.mem_of_getElem? (i := 103) rfl)) rfl
theorem u5_104 : Jvm.Cond.code yX9_isRoad prog_11_method_4_code (3 : Nat) (Option.some Jvm.ClassFile.FieldType.boolean) ∈ UU := UU_in (UU_t5 _ (List.mem_of_getElem? (i := 104) rfl)) rfl
theorem u5_105 : Jvm.Cond.constantLong "StoneRoadsModel" (194 : Nat) (3 : Int64) ∈ UU := UU_in (UU_t5 _ (List.mem_of_getElem? (i := 105) rfl)) rfl
theorem u5_106 : Jvm.Cond.methodLink "StoneRoadsLaw" (39 : Nat) yX9_roadOf ∈ UU := UU_in (UU_t5 _ (List.mem_of_getElem? (i := 106) rfl)) rfl
theorem u5_107 : Jvm.Cond.instanceMethod yX9_roadOf ∈ UU := UU_in (UU_t5 _ (List.mem_of_getElem? (i := 107) rfl)) rfl
theorem u5_108 : Jvm.Cond.selects "StoneRoadsModel" yX9_roadOf yX9_roadOf ∈ UU := UU_in (UU_t5 _ (List.mem_of_getElem? (i := 108) rfl)) rfl
theorem u5_109 : Jvm.Cond.code yX9_roadOf prog_11_method_24_code (4 : Nat) (Option.some Jvm.ClassFile.FieldType.int) ∈ UU := UU_in (UU_t5 _ (List.mem_of_getElem? (i := 109) rfl)) rfl
theorem u5_110 : Jvm.Cond.constantLong "StoneRoadsModel" (196 : Nat) (2 : Int64) ∈ UU := UU_in (UU_t5 _ (List.mem_of_getElem? (i := 110) rfl)) rfl
theorem u5_111 : Jvm.Cond.methodLink "StoneRoadsModel" (198 : Nat) yX9_costOf ∈ UU := UU_in (UU_t5 _ (List.mem_of_getElem? (i := 111) rfl)) rfl
theorem u5_113 : Jvm.Cond.instanceMethod yX9_costOf ∈ UU := UU_in (UU_t5 _ (List.mem_of_getElem? (i := 113) rfl)) rfl
theorem u5_114 : Jvm.Cond.code yX9_costOf prog_11_method_23_code (4 : Nat) (Option.some Jvm.ClassFile.FieldType.int) ∈ UU := UU_in (UU_t5 _ (List.mem_of_getElem? (i := 114) rfl)) rfl
theorem u5_115 : Jvm.Cond.methodLink "StoneRoadsLaw" (44 : Nat) yX9_feed ∈ UU := UU_in (UU_t5 _ (List.mem_of_getElem? (i := 115) rfl)) rfl
theorem u5_116 : Jvm.Cond.instanceMethod yX9_feed ∈ UU := UU_in (UU_t5 _ (List.mem_of_getElem? (i := 116) rfl)) rfl
theorem u5_117 : Jvm.Cond.selects "StoneRoadsModel" yX9_feed yX9_feed ∈ UU := UU_in (UU_t5 _ (List.mem_of_getElem? (i := 117) rfl)) rfl
theorem u5_118 : Jvm.Cond.code yX9_feed prog_11_method_31_code (2 : Nat) (Option.some Jvm.ClassFile.FieldType.int) ∈ UU := UU_in (UU_t5 _ (List.mem_of_getElem? (i := 118) rfl)) rfl
theorem u5_119 : Jvm.Cond.constantLong "StoneRoadsModel" (242 : Nat) (127 : Int64) ∈ UU := UU_in (UU_t5 _ (List.mem_of_getElem? (i := 119) rfl)) rfl
theorem u5_120 : Jvm.Cond.methodLink "StoneRoadsLaw" (49 : Nat) yX9_read ∈ UU := UU_in (UU_t5 _ (List.mem_of_getElem? (i := 120) rfl)) rfl
theorem u5_121 : Jvm.Cond.instanceMethod yX9_read ∈ UU := UU_in (UU_t5 _ (List.mem_of_getElem? (i := 121) rfl)) rfl
theorem u5_122 : Jvm.Cond.selects "StoneRoadsModel" yX9_read yX9_read ∈ UU := UU_in (UU_t5 _ (List.mem_of_getElem? (i := 122) rfl)) rfl
theorem u5_123 : Jvm.Cond.code yX9_read prog_11_method_32_code (2 : Nat) (Option.some Jvm.ClassFile.FieldType.int) ∈ UU := UU_in (UU_t5 _ (List.mem_of_getElem? (i := 123) rfl)) rfl
theorem u5_124 : Jvm.Cond.methodLink "StoneRoadsModel" (244 : Nat) yX9_goesThrough ∈ UU := UU_in (UU_t5 _ (List.mem_of_getElem? (i := 124) rfl)) rfl
theorem u5_126 : Jvm.Cond.instanceMethod yX9_goesThrough ∈ UU := UU_in (UU_t5 _ (List.mem_of_getElem? (i := 126) rfl)) rfl
theorem u5_127 : Jvm.Cond.code yX9_goesThrough prog_11_method_30_code (2 : Nat) (Option.none : Option Jvm.ClassFile.FieldType) ∈ UU := UU_in (UU_t5 _ (List.mem_of_getElem? (i := 127) rfl)) rfl
theorem u5_128 : Jvm.Cond.methodLink "StoneRoadsModel" (238 : Nat) yX9_clause ∈ UU := UU_in (UU_t5 _ (List.mem_of_getElem? (i := 128) rfl)) rfl
theorem u5_130 : Jvm.Cond.instanceMethod yX9_clause ∈ UU := UU_in (UU_t5 _ (List.mem_of_getElem? (i := 130) rfl)) rfl
theorem u5_131 : Jvm.Cond.code yX9_clause prog_11_method_29_code (8 : Nat) (Option.none : Option Jvm.ClassFile.FieldType) ∈ UU := UU_in (UU_t5 _ (List.mem_of_getElem? (i := 131) rfl)) rfl
theorem u5_132 : Jvm.Cond.methodLink "StoneRoadsModel" (211 : Nat) yX9_here ∈ UU := UU_in (UU_t5 _ (List.mem_of_getElem? (i := 132) rfl)) rfl
theorem u5_134 : Jvm.Cond.instanceMethod yX9_here ∈ UU := UU_in (UU_t5 _ (List.mem_of_getElem? (i := 134) rfl)) rfl
theorem u5_135 : Jvm.Cond.code yX9_here prog_11_method_25_code (1 : Nat) (Option.some Jvm.ClassFile.FieldType.int) ∈ UU := UU_in (UU_t5 _ (List.mem_of_getElem? (i := 135) rfl)) rfl
theorem u5_136 : Jvm.Cond.methodLink "StoneRoadsModel" (215 : Nat) yX9_takes ∈ UU := UU_in (UU_t5 _ (List.mem_of_getElem? (i := 136) rfl)) rfl
theorem u5_138 : Jvm.Cond.instanceMethod yX9_takes ∈ UU := UU_in (UU_t5 _ (List.mem_of_getElem? (i := 138) rfl)) rfl
theorem u5_139 : Jvm.Cond.code yX9_takes prog_11_method_26_code (4 : Nat) (Option.some Jvm.ClassFile.FieldType.int) ∈ UU := UU_in (UU_t5 _ (List.mem_of_getElem? (i := 139) rfl)) rfl
theorem u5_140 : Jvm.Cond.methodLink "StoneRoadsModel" (222 : Nat) yX9_takesKind ∈ UU := UU_in (UU_t5 _ (List.mem_of_getElem? (i := 140) rfl)) rfl
theorem u5_142 : Jvm.Cond.instanceMethod yX9_takesKind ∈ UU := UU_in (UU_t5 _ (List.mem_of_getElem? (i := 142) rfl)) rfl
theorem u5_143 : Jvm.Cond.code yX9_takesKind prog_11_method_28_code (3 : Nat) (Option.some Jvm.ClassFile.FieldType.int) ∈ UU := UU_in (UU_t5 _ (List.mem_of_getElem? (i := 143) rfl)) rfl
theorem u5_144 : Jvm.Cond.methodLink "StoneRoadsModel" (225 : Nat) yX9_takesNumber ∈ UU := UU_in (UU_t5 _ (List.mem_of_getElem? (i := 144) rfl)) rfl
theorem u5_146 : Jvm.Cond.instanceMethod yX9_takesNumber ∈ UU := UU_in (UU_t5 _ (List.mem_of_getElem? (i := 146) rfl)) rfl
theorem u5_147 : Jvm.Cond.code yX9_takesNumber prog_11_method_27_code (2 : Nat) (Option.some Jvm.ClassFile.FieldType.int) ∈ UU := UU_in (UU_t5 _ (List.mem_of_getElem? (i := 147) rfl)) rfl
theorem u5_148 : Jvm.Cond.constantLong "StoneRoadsModel" (218 : Nat) (48 : Int64) ∈ UU := UU_in (UU_t5 _ (List.mem_of_getElem? (i := 148) rfl)) rfl
theorem u5_149 : Jvm.Cond.constantLong "StoneRoadsModel" (220 : Nat) (57 : Int64) ∈ UU := UU_in (UU_t5 _ (List.mem_of_getElem? (i := 149) rfl)) rfl
theorem u5_150 : Jvm.Cond.methodLink "StoneRoadsModel" (228 : Nat) yX9_road ∈ UU := UU_in (UU_t5 _ (List.mem_of_getElem? (i := 150) rfl)) rfl
theorem u5_151 : Jvm.Cond.methodLink "StoneRoadsLaw" (53 : Nat) yX9_start ∈ UU := UU_in (UU_t5 _ (List.mem_of_getElem? (i := 151) rfl)) rfl
theorem u5_152 : Jvm.Cond.instanceMethod yX9_start ∈ UU := UU_in (UU_t5 _ (List.mem_of_getElem? (i := 152) rfl)) rfl
theorem u5_153 : Jvm.Cond.selects "StoneRoadsModel" yX9_start yX9_start ∈ UU := UU_in (UU_t5 _ (List.mem_of_getElem? (i := 153) rfl)) rfl
theorem u5_154 : Jvm.Cond.code yX9_start prog_11_method_42_code (2 : Nat) (Option.some Jvm.ClassFile.FieldType.int) ∈ UU := UU_in (UU_t5 _ (List.mem_of_getElem? (i := 154) rfl)) rfl
theorem u5_155 : Jvm.Cond.methodLink "StoneRoadsModel" (277 : Nat) yX9_starts ∈ UU := UU_in (UU_t5 _ (List.mem_of_getElem? (i := 155) rfl)) rfl
theorem u5_157 : Jvm.Cond.instanceMethod yX9_starts ∈ UU := UU_in (UU_t5 _ (List.mem_of_getElem? (i := 157) rfl)) rfl
theorem u5_158 : Jvm.Cond.code yX9_starts prog_11_method_41_code (6 : Nat) (Option.none : Option Jvm.ClassFile.FieldType) ∈ UU := UU_in (UU_t5 _ (List.mem_of_getElem? (i := 158) rfl)) rfl
theorem u5_159 : Jvm.Cond.methodLink "StoneRoadsModel" (263 : Nat) yX9_opens ∈ UU := UU_in (UU_t5 _ (List.mem_of_getElem? (i := 159) rfl)) rfl
theorem u5_161 : Jvm.Cond.instanceMethod yX9_opens ∈ UU := UU_in (UU_t5 _ (List.mem_of_getElem? (i := 161) rfl)) rfl
theorem u5_162 : Jvm.Cond.code yX9_opens prog_11_method_34_code (3 : Nat) (Option.none : Option Jvm.ClassFile.FieldType) ∈ UU := UU_in (UU_t5 _ (List.mem_of_getElem? (i := 162) rfl)) rfl
theorem u5_163 : Jvm.Cond.methodLink "StoneRoadsModel" (247 : Nat) yX9_sum ∈ UU := UU_in (UU_t5 _ (List.mem_of_getElem? (i := 163) rfl)) rfl
theorem u5_165 : Jvm.Cond.instanceMethod yX9_sum ∈ UU := UU_in (UU_t5 _ (List.mem_of_getElem? (i := 165) rfl)) rfl
theorem u5_166 : Jvm.Cond.code yX9_sum prog_11_method_33_code (4 : Nat) (Option.some Jvm.ClassFile.FieldType.int) ∈ UU := UU_in (UU_t5 _ (List.mem_of_getElem? (i := 166) rfl)) rfl
theorem u5_167 : Jvm.Cond.methodLink "StoneRoadsModel" (266 : Nat) yX9_openOnes ∈ UU := UU_in (UU_t5 _ (List.mem_of_getElem? (i := 167) rfl)) rfl
theorem u5_169 : Jvm.Cond.instanceMethod yX9_openOnes ∈ UU := UU_in (UU_t5 _ (List.mem_of_getElem? (i := 169) rfl)) rfl
theorem u5_170 : Jvm.Cond.code yX9_openOnes prog_11_method_35_code (4 : Nat) (Option.some Jvm.ClassFile.FieldType.int) ∈ UU := UU_in (UU_t5 _ (List.mem_of_getElem? (i := 170) rfl)) rfl
theorem u5_171 : Jvm.Cond.methodLink "StoneRoadsModel" (269 : Nat) yX9_picked ∈ UU := UU_in (UU_t5 _ (List.mem_of_getElem? (i := 171) rfl)) rfl
theorem u5_173 : Jvm.Cond.instanceMethod yX9_picked ∈ UU := UU_in (UU_t5 _ (List.mem_of_getElem? (i := 173) rfl)) rfl
theorem u5_174 : Jvm.Cond.code yX9_picked prog_11_method_40_code (4 : Nat) (Option.some Jvm.ClassFile.FieldType.int) ∈ UU := UU_in (UU_t5 _ (List.mem_of_getElem? (i := 174) rfl)) rfl
theorem u5_175 : Jvm.Cond.methodLink "StoneRoadsModel" (257 : Nat) yX9_corner ∈ UU := UU_in (UU_t5 _ (List.mem_of_getElem? (i := 175) rfl)) rfl
theorem u5_177 : Jvm.Cond.instanceMethod yX9_corner ∈ UU := UU_in (UU_t5 _ (List.mem_of_getElem? (i := 177) rfl)) rfl
theorem u5_178 : Jvm.Cond.code yX9_corner prog_11_method_39_code (2 : Nat) (Option.some Jvm.ClassFile.FieldType.int) ∈ UU := UU_in (UU_t5 _ (List.mem_of_getElem? (i := 178) rfl)) rfl
theorem u5_179 : Jvm.Cond.methodLink "StoneRoadsModel" (250 : Nat) yX9_isOpenCell ∈ UU := UU_in (UU_t5 _ (List.mem_of_getElem? (i := 179) rfl)) rfl
theorem u5_181 : Jvm.Cond.instanceMethod yX9_isOpenCell ∈ UU := UU_in (UU_t5 _ (List.mem_of_getElem? (i := 181) rfl)) rfl
theorem u5_182 : Jvm.Cond.code yX9_isOpenCell prog_11_method_36_code (2 : Nat) (Option.some Jvm.ClassFile.FieldType.boolean) ∈ UU := UU_in (UU_t5 _ (List.mem_of_getElem? (i := 182) rfl)) rfl
theorem u5_183 : Jvm.Cond.methodLink "StoneRoadsModel" (254 : Nat) yX9_cheapestCell ∈ UU := UU_in (UU_t5 _ (List.mem_of_getElem? (i := 183) rfl)) rfl
theorem u5_185 : Jvm.Cond.instanceMethod yX9_cheapestCell ∈ UU := UU_in (UU_t5 _ (List.mem_of_getElem? (i := 185) rfl)) rfl
theorem u5_186 : Jvm.Cond.code yX9_cheapestCell prog_11_method_37_code (5 : Nat) (Option.some Jvm.ClassFile.FieldType.int) ∈ UU := UU_in (UU_t5 _ (List.mem_of_getElem? (i := 186) rfl)) rfl
theorem u5_187 : Jvm.Cond.methodLink "StoneRoadsModel" (260 : Nat) yX9_regret ∈ UU := UU_in (UU_t5 _ (List.mem_of_getElem? (i := 187) rfl)) rfl
theorem u5_189 : Jvm.Cond.instanceMethod yX9_regret ∈ UU := UU_in (UU_t5 _ (List.mem_of_getElem? (i := 189) rfl)) rfl
theorem u5_190 : Jvm.Cond.code yX9_regret prog_11_method_38_code (6 : Nat) (Option.some Jvm.ClassFile.FieldType.int) ∈ UU := UU_in (UU_t5 _ (List.mem_of_getElem? (i := 190) rfl)) rfl
theorem u5_191 : Jvm.Cond.methodLink "StoneRoadsModel" (272 : Nat) Lib.Math.min.name ∈ UU := UU_in (UU_t5 _ (List.mem_of_getElem? (i := 191) rfl)) rfl
theorem u5_192 : Jvm.Cond.methodLink "StoneRoadsModel" (281 : Nat) yX9_total ∈ UU := UU_in (UU_t5 _ (List.mem_of_getElem? (i := 192) rfl)) rfl
theorem u5_194 : Jvm.Cond.instanceMethod yX9_total ∈ UU := UU_in (UU_t5 _ (List.mem_of_getElem? (i := 194) rfl)) rfl
theorem u5_195 : Jvm.Cond.code yX9_total prog_11_method_43_code (3 : Nat) (Option.some Jvm.ClassFile.FieldType.int) ∈ UU := UU_in (UU_t5 _ (List.mem_of_getElem? (i := 195) rfl)) rfl
theorem u5_196 : Jvm.Cond.methodLink "StoneRoadsLaw" (57 : Nat) yX9_step ∈ UU := UU_in (UU_t5 _ (List.mem_of_getElem? (i := 196) rfl)) rfl
theorem u5_197 : Jvm.Cond.instanceMethod yX9_step ∈ UU := UU_in (UU_t5 _ (List.mem_of_getElem? (i := 197) rfl)) rfl
theorem u5_198 : Jvm.Cond.selects "StoneRoadsModel" yX9_step yX9_step ∈ UU := UU_in (UU_t5 _ (List.mem_of_getElem? (i := 198) rfl)) rfl
theorem u5_199 : Jvm.Cond.code yX9_step prog_11_method_56_code (3 : Nat) (Option.some Jvm.ClassFile.FieldType.int) ∈ UU := UU_in (UU_t5 _ (List.mem_of_getElem? (i := 199) rfl)) rfl
theorem u5_200 : Jvm.Cond.constantLong "StoneRoadsModel" (324 : Nat) (100 : Int64) ∈ UU := UU_in (UU_t5 _ (List.mem_of_getElem? (i := 200) rfl)) rfl
theorem u5_201 : Jvm.Cond.methodLink "StoneRoadsModel" (326 : Nat) yX9_goes ∈ UU := UU_in (UU_t5 _ (List.mem_of_getElem? (i := 201) rfl)) rfl
theorem u5_203 : Jvm.Cond.instanceMethod yX9_goes ∈ UU := UU_in (UU_t5 _ (List.mem_of_getElem? (i := 203) rfl)) rfl
theorem u5_204 : Jvm.Cond.code yX9_goes prog_11_method_55_code (4 : Nat) (Option.some Jvm.ClassFile.FieldType.int) ∈ UU := UU_in (UU_t5 _ (List.mem_of_getElem? (i := 204) rfl)) rfl
theorem u5_205 : Jvm.Cond.methodLink "StoneRoadsModel" (321 : Nat) yX9_moves ∈ UU := UU_in (UU_t5 _ (List.mem_of_getElem? (i := 205) rfl)) rfl
theorem u5_207 : Jvm.Cond.instanceMethod yX9_moves ∈ UU := UU_in (UU_t5 _ (List.mem_of_getElem? (i := 207) rfl)) rfl
theorem u5_208 : Jvm.Cond.code yX9_moves prog_11_method_53_code (5 : Nat) (Option.some Jvm.ClassFile.FieldType.boolean) ∈ UU := UU_in (UU_t5 _ (List.mem_of_getElem? (i := 208) rfl)) rfl
theorem u5_209 : Jvm.Cond.methodLink "StoneRoadsModel" (315 : Nat) yX9_enterer ∈ UU := UU_in (UU_t5 _ (List.mem_of_getElem? (i := 209) rfl)) rfl
theorem u5_211 : Jvm.Cond.instanceMethod yX9_enterer ∈ UU := UU_in (UU_t5 _ (List.mem_of_getElem? (i := 211) rfl)) rfl
theorem u5_212 : Jvm.Cond.code yX9_enterer prog_11_method_52_code (6 : Nat) (Option.some Jvm.ClassFile.FieldType.int) ∈ UU := UU_in (UU_t5 _ (List.mem_of_getElem? (i := 212) rfl)) rfl
theorem u5_213 : Jvm.Cond.methodLink "StoneRoadsModel" (284 : Nat) yX9_values ∈ UU := UU_in (UU_t5 _ (List.mem_of_getElem? (i := 213) rfl)) rfl
theorem u5_215 : Jvm.Cond.instanceMethod yX9_values ∈ UU := UU_in (UU_t5 _ (List.mem_of_getElem? (i := 215) rfl)) rfl
theorem u5_216 : Jvm.Cond.code yX9_values prog_11_method_44_code (6 : Nat) (Option.none : Option Jvm.ClassFile.FieldType) ∈ UU := UU_in (UU_t5 _ (List.mem_of_getElem? (i := 216) rfl)) rfl
theorem u5_217 : Jvm.Cond.methodLink "StoneRoadsModel" (290 : Nat) yX9_isInPlan ∈ UU := UU_in (UU_t5 _ (List.mem_of_getElem? (i := 217) rfl)) rfl
theorem u5_219 : Jvm.Cond.instanceMethod yX9_isInPlan ∈ UU := UU_in (UU_t5 _ (List.mem_of_getElem? (i := 219) rfl)) rfl
theorem u5_220 : Jvm.Cond.code yX9_isInPlan prog_11_method_46_code (2 : Nat) (Option.some Jvm.ClassFile.FieldType.boolean) ∈ UU := UU_in (UU_t5 _ (List.mem_of_getElem? (i := 220) rfl)) rfl
theorem u5_221 : Jvm.Cond.methodLink "StoneRoadsModel" (287 : Nat) yX9_over ∈ UU := UU_in (UU_t5 _ (List.mem_of_getElem? (i := 221) rfl)) rfl
theorem u5_223 : Jvm.Cond.instanceMethod yX9_over ∈ UU := UU_in (UU_t5 _ (List.mem_of_getElem? (i := 223) rfl)) rfl
theorem u5_224 : Jvm.Cond.code yX9_over prog_11_method_45_code (2 : Nat) (Option.some Jvm.ClassFile.FieldType.int) ∈ UU := UU_in (UU_t5 _ (List.mem_of_getElem? (i := 224) rfl)) rfl
theorem u5_225 : Jvm.Cond.methodLink "StoneRoadsModel" (312 : Nat) yX9_loops ∈ UU := UU_in (UU_t5 _ (List.mem_of_getElem? (i := 225) rfl)) rfl
theorem u5_227 : Jvm.Cond.instanceMethod yX9_loops ∈ UU := UU_in (UU_t5 _ (List.mem_of_getElem? (i := 227) rfl)) rfl
theorem u5_228 : Jvm.Cond.code yX9_loops prog_11_method_51_code (4 : Nat) (Option.none : Option Jvm.ClassFile.FieldType) ∈ UU := UU_in (UU_t5 _ (List.mem_of_getElem? (i := 228) rfl)) rfl
theorem u5_229 : Jvm.Cond.methodLink "StoneRoadsModel" (296 : Nat) yX9_tie ∈ UU := UU_in (UU_t5 _ (List.mem_of_getElem? (i := 229) rfl)) rfl
theorem u5_231 : Jvm.Cond.instanceMethod yX9_tie ∈ UU := UU_in (UU_t5 _ (List.mem_of_getElem? (i := 231) rfl)) rfl
theorem u5_232 : Jvm.Cond.code yX9_tie prog_11_method_49_code (3 : Nat) (Option.none : Option Jvm.ClassFile.FieldType) ∈ UU := UU_in (UU_t5 _ (List.mem_of_getElem? (i := 232) rfl)) rfl
theorem u5_233 : Jvm.Cond.constant "StoneRoadsModel" (305 : Nat) (2147483647 : Int32) ∈ UU := UU_in (UU_t5 _ (List.mem_of_getElem? (i := 233) rfl)) rfl
theorem u5_234 : Jvm.Cond.methodLink "StoneRoadsModel" (309 : Nat) yX9_otherIn ∈ UU := UU_in (UU_t5 _ (List.mem_of_getElem? (i := 234) rfl)) rfl
theorem u5_236 : Jvm.Cond.instanceMethod yX9_otherIn ∈ UU := UU_in (UU_t5 _ (List.mem_of_getElem? (i := 236) rfl)) rfl
theorem u5_237 : Jvm.Cond.code yX9_otherIn prog_11_method_50_code (4 : Nat) (Option.some Jvm.ClassFile.FieldType.int) ∈ UU := UU_in (UU_t5 _ (List.mem_of_getElem? (i := 237) rfl)) rfl
theorem u5_238 : Jvm.Cond.methodLink "StoneRoadsModel" (318 : Nat) yX9_spelled ∈ UU := UU_in (UU_t5 _ (List.mem_of_getElem? (i := 238) rfl)) rfl
theorem u5_239 : Jvm.Cond.static yX9_spelled ∈ UU := UU_in (UU_t5 _ (List.mem_of_getElem? (i := 239) rfl)) rfl
theorem u6_0 : Jvm.Cond.code yX9_spelled prog_11_method_54_code (1 : Nat) (Option.some Jvm.ClassFile.FieldType.int) ∈ UU := UU_in (UU_t6 _ (List.mem_of_getElem? (i := 0) rfl)) rfl
theorem u6_1 : Jvm.Cond.methodLink "StoneRoadsLaw" (61 : Nat) yX9_load ∈ UU := UU_in (UU_t6 _ (List.mem_of_getElem? (i := 1) rfl)) rfl
theorem u6_2 : Jvm.Cond.instanceMethod yX9_load ∈ UU := UU_in (UU_t6 _ (List.mem_of_getElem? (i := 2) rfl)) rfl
theorem u6_3 : Jvm.Cond.selects "StoneRoadsModel" yX9_load yX9_load ∈ UU := UU_in (UU_t6 _ (List.mem_of_getElem? (i := 3) rfl)) rfl
theorem u6_4 : Jvm.Cond.code yX9_load prog_11_method_57_code (3 : Nat) (Option.some Jvm.ClassFile.FieldType.int) ∈ UU := UU_in (UU_t6 _ (List.mem_of_getElem? (i := 4) rfl)) rfl
theorem u6_5 : Jvm.Cond.methodLink "StoneRoadsModel" (329 : Nat) yX9_isCell ∈ UU := UU_in (UU_t6 _ (List.mem_of_getElem? (i := 5) rfl)) rfl
theorem u6_7 : Jvm.Cond.instanceMethod yX9_isCell ∈ UU := UU_in (UU_t6 _ (List.mem_of_getElem? (i := 7) rfl)) rfl
theorem u6_8 : Jvm.Cond.code yX9_isCell prog_11_method_6_code (3 : Nat) (Option.some Jvm.ClassFile.FieldType.boolean) ∈ UU := UU_in (UU_t6 _ (List.mem_of_getElem? (i := 8) rfl)) rfl
theorem u6_9 : Jvm.Cond.methodLink "StoneRoadsLaw" (65 : Nat) yX9_basic ∈ UU := UU_in (UU_t6 _ (List.mem_of_getElem? (i := 9) rfl)) rfl
theorem u6_10 : Jvm.Cond.instanceMethod yX9_basic ∈ UU := UU_in (UU_t6 _ (List.mem_of_getElem? (i := 10) rfl)) rfl
theorem u6_11 : Jvm.Cond.selects "StoneRoadsModel" yX9_basic yX9_basic ∈ UU := UU_in (UU_t6 _ (List.mem_of_getElem? (i := 11) rfl)) rfl
theorem u6_12 : Jvm.Cond.code yX9_basic prog_11_method_58_code (3 : Nat) (Option.some Jvm.ClassFile.FieldType.int) ∈ UU := UU_in (UU_t6 _ (List.mem_of_getElem? (i := 12) rfl)) rfl
theorem u6_13 : Jvm.Cond.methodLink "StoneRoadsLaw" (70 : Nat) yX9_worth ∈ UU := UU_in (UU_t6 _ (List.mem_of_getElem? (i := 13) rfl)) rfl
theorem u6_14 : Jvm.Cond.instanceMethod yX9_worth ∈ UU := UU_in (UU_t6 _ (List.mem_of_getElem? (i := 14) rfl)) rfl
theorem u6_15 : Jvm.Cond.selects "StoneRoadsModel" yX9_worth yX9_worth ∈ UU := UU_in (UU_t6 _ (List.mem_of_getElem? (i := 15) rfl)) rfl
theorem u6_16 : Jvm.Cond.code yX9_worth prog_11_method_59_code (3 : Nat) (Option.some Jvm.ClassFile.FieldType.long) ∈ UU := UU_in (UU_t6 _ (List.mem_of_getElem? (i := 16) rfl)) rfl
theorem u6_17 : Jvm.Cond.constantLong "StoneRoadsModel" (332 : Nat) (-9223372036854775808 : Int64) ∈ UU := UU_in (UU_t6 _ (List.mem_of_getElem? (i := 17) rfl)) rfl
theorem u6_18 : Jvm.Cond.methodLink "StoneRoadsLaw" (74 : Nat) yX9_surplus ∈ UU := UU_in (UU_t6 _ (List.mem_of_getElem? (i := 18) rfl)) rfl
theorem u6_19 : Jvm.Cond.instanceMethod yX9_surplus ∈ UU := UU_in (UU_t6 _ (List.mem_of_getElem? (i := 19) rfl)) rfl
theorem u6_20 : Jvm.Cond.selects "StoneRoadsModel" yX9_surplus yX9_surplus ∈ UU := UU_in (UU_t6 _ (List.mem_of_getElem? (i := 20) rfl)) rfl
theorem u6_21 : Jvm.Cond.code yX9_surplus prog_11_method_60_code (3 : Nat) (Option.some Jvm.ClassFile.FieldType.long) ∈ UU := UU_in (UU_t6 _ (List.mem_of_getElem? (i := 21) rfl)) rfl
theorem u6_22 : Jvm.Cond.methodLink "StoneRoadsLaw" (78 : Nat) yX9_loop ∈ UU := UU_in (UU_t6 _ (List.mem_of_getElem? (i := 22) rfl)) rfl
theorem u6_23 : Jvm.Cond.instanceMethod yX9_loop ∈ UU := UU_in (UU_t6 _ (List.mem_of_getElem? (i := 23) rfl)) rfl
theorem u6_24 : Jvm.Cond.selects "StoneRoadsModel" yX9_loop yX9_loop ∈ UU := UU_in (UU_t6 _ (List.mem_of_getElem? (i := 24) rfl)) rfl
theorem u6_25 : Jvm.Cond.code yX9_loop prog_11_method_61_code (4 : Nat) (Option.some Jvm.ClassFile.FieldType.int) ∈ UU := UU_in (UU_t6 _ (List.mem_of_getElem? (i := 25) rfl)) rfl
theorem u6_26 : Jvm.Cond.methodLink "StoneRoadsLaw" (82 : Nat) yX9_enters ∈ UU := UU_in (UU_t6 _ (List.mem_of_getElem? (i := 26) rfl)) rfl
theorem u6_27 : Jvm.Cond.instanceMethod yX9_enters ∈ UU := UU_in (UU_t6 _ (List.mem_of_getElem? (i := 27) rfl)) rfl
theorem u6_28 : Jvm.Cond.selects "StoneRoadsModel" yX9_enters yX9_enters ∈ UU := UU_in (UU_t6 _ (List.mem_of_getElem? (i := 28) rfl)) rfl
theorem u6_29 : Jvm.Cond.code yX9_enters prog_11_method_62_code (3 : Nat) (Option.some Jvm.ClassFile.FieldType.int) ∈ UU := UU_in (UU_t6 _ (List.mem_of_getElem? (i := 29) rfl)) rfl
theorem u6_30 : Jvm.Cond.methodLink "StoneRoadsLaw" (86 : Nat) yX9_told ∈ UU := UU_in (UU_t6 _ (List.mem_of_getElem? (i := 30) rfl)) rfl
theorem u6_31 : Jvm.Cond.instanceMethod yX9_told ∈ UU := UU_in (UU_t6 _ (List.mem_of_getElem? (i := 31) rfl)) rfl
theorem u6_32 : Jvm.Cond.selects "StoneRoadsModel" yX9_told yX9_told ∈ UU := UU_in (UU_t6 _ (List.mem_of_getElem? (i := 32) rfl)) rfl
theorem u6_33 : Jvm.Cond.code yX9_told prog_11_method_63_code (2 : Nat) (Option.some Jvm.ClassFile.FieldType.int) ∈ UU := UU_in (UU_t6 _ (List.mem_of_getElem? (i := 33) rfl)) rfl
theorem u6_34 : Jvm.Cond.methodLink "StoneRoadsModel" (334 : Nat) yX9_isProved ∈ UU := UU_in (UU_t6 _ (List.mem_of_getElem? (i := 34) rfl)) rfl
theorem u6_36 : Jvm.Cond.instanceMethod yX9_isProved ∈ UU := UU_in (UU_t6 _ (List.mem_of_getElem? (i := 36) rfl)) rfl
theorem u6_37 : Jvm.Cond.code yX9_isProved prog_11_method_48_code (1 : Nat) (Option.some Jvm.ClassFile.FieldType.boolean) ∈ UU := UU_in (UU_t6 _ (List.mem_of_getElem? (i := 37) rfl)) rfl
theorem u6_38 : Jvm.Cond.methodLink "StoneRoadsModel" (293 : Nat) yX9_counted ∈ UU := UU_in (UU_t6 _ (List.mem_of_getElem? (i := 38) rfl)) rfl
theorem u6_40 : Jvm.Cond.instanceMethod yX9_counted ∈ UU := UU_in (UU_t6 _ (List.mem_of_getElem? (i := 40) rfl)) rfl
theorem u6_41 : Jvm.Cond.code yX9_counted prog_11_method_47_code (5 : Nat) (Option.some Jvm.ClassFile.FieldType.int) ∈ UU := UU_in (UU_t6 _ (List.mem_of_getElem? (i := 41) rfl)) rfl
theorem u6_42 : Jvm.Cond.methodLink "StoneRoadsLaw" (90 : Nat) yX9_trace ∈ UU := UU_in (UU_t6 _ (List.mem_of_getElem? (i := 42) rfl)) rfl
theorem u6_43 : Jvm.Cond.instanceMethod yX9_trace ∈ UU := UU_in (UU_t6 _ (List.mem_of_getElem? (i := 43) rfl)) rfl
theorem u6_44 : Jvm.Cond.selects "StoneRoadsModel" yX9_trace yX9_trace ∈ UU := UU_in (UU_t6 _ (List.mem_of_getElem? (i := 44) rfl)) rfl
theorem u6_45 : Jvm.Cond.code yX9_trace prog_11_method_64_code (3 : Nat) (Option.some Jvm.ClassFile.FieldType.int) ∈ UU := UU_in (UU_t6 _ (List.mem_of_getElem? (i := 45) rfl)) rfl
theorem u6_46 : Jvm.Cond.methodLink "StoneRoadsLaw" (94 : Nat) yX9_best ∈ UU := UU_in (UU_t6 _ (List.mem_of_getElem? (i := 46) rfl)) rfl
theorem u6_47 : Jvm.Cond.instanceMethod yX9_best ∈ UU := UU_in (UU_t6 _ (List.mem_of_getElem? (i := 47) rfl)) rfl
theorem u6_48 : Jvm.Cond.selects "StoneRoadsModel" yX9_best yX9_best ∈ UU := UU_in (UU_t6 _ (List.mem_of_getElem? (i := 48) rfl)) rfl
theorem u6_49 : Jvm.Cond.code yX9_best prog_11_method_67_code (6 : Nat) (Option.some Jvm.ClassFile.FieldType.int) ∈ UU := UU_in (UU_t6 _ (List.mem_of_getElem? (i := 49) rfl)) rfl
theorem u6_50 : Jvm.Cond.methodLink "StoneRoadsModel" (338 : Nat) yX9_minds ∈ UU := UU_in (UU_t6 _ (List.mem_of_getElem? (i := 50) rfl)) rfl
theorem u6_52 : Jvm.Cond.instanceMethod yX9_minds ∈ UU := UU_in (UU_t6 _ (List.mem_of_getElem? (i := 52) rfl)) rfl
theorem u6_53 : Jvm.Cond.code yX9_minds prog_11_method_14_code (1 : Nat) (Option.none : Option Jvm.ClassFile.FieldType) ∈ UU := UU_in (UU_t6 _ (List.mem_of_getElem? (i := 53) rfl)) rfl
theorem u6_54 : Jvm.Cond.methodLink "StoneRoadsModel" (170 : Nat) yX9_lays ∈ UU := UU_in (UU_t6 _ (List.mem_of_getElem? (i := 54) rfl)) rfl
theorem u6_56 : Jvm.Cond.instanceMethod yX9_lays ∈ UU := UU_in (UU_t6 _ (List.mem_of_getElem? (i := 56) rfl)) rfl
theorem u6_57 : Jvm.Cond.code yX9_lays prog_11_method_12_code (3 : Nat) (Option.none : Option Jvm.ClassFile.FieldType) ∈ UU := UU_in (UU_t6 _ (List.mem_of_getElem? (i := 57) rfl)) rfl
theorem u6_58 : Jvm.Cond.methodLink "StoneRoadsModel" (341 : Nat) yX9_thinks ∈ UU := UU_in (UU_t6 _ (List.mem_of_getElem? (i := 58) rfl)) rfl
theorem u6_60 : Jvm.Cond.instanceMethod yX9_thinks ∈ UU := UU_in (UU_t6 _ (List.mem_of_getElem? (i := 60) rfl)) rfl
theorem u6_61 : Jvm.Cond.code yX9_thinks prog_11_method_65_code (3 : Nat) (Option.some Jvm.ClassFile.FieldType.int) ∈ UU := UU_in (UU_t6 _ (List.mem_of_getElem? (i := 61) rfl)) rfl
theorem u6_62 : Jvm.Cond.methodLink "StoneRoadsModel" (344 : Nat) yX9_forgets ∈ UU := UU_in (UU_t6 _ (List.mem_of_getElem? (i := 62) rfl)) rfl
theorem u6_64 : Jvm.Cond.instanceMethod yX9_forgets ∈ UU := UU_in (UU_t6 _ (List.mem_of_getElem? (i := 64) rfl)) rfl
theorem u6_65 : Jvm.Cond.code yX9_forgets prog_11_method_15_code (1 : Nat) (Option.none : Option Jvm.ClassFile.FieldType) ∈ UU := UU_in (UU_t6 _ (List.mem_of_getElem? (i := 65) rfl)) rfl
theorem u6_66 : Jvm.Cond.methodLink "StoneRoadsModel" (173 : Nat) yX9_takesBack ∈ UU := UU_in (UU_t6 _ (List.mem_of_getElem? (i := 66) rfl)) rfl
theorem u6_68 : Jvm.Cond.instanceMethod yX9_takesBack ∈ UU := UU_in (UU_t6 _ (List.mem_of_getElem? (i := 68) rfl)) rfl
theorem u6_69 : Jvm.Cond.code yX9_takesBack prog_11_method_13_code (3 : Nat) (Option.none : Option Jvm.ClassFile.FieldType) ∈ UU := UU_in (UU_t6 _ (List.mem_of_getElem? (i := 69) rfl)) rfl
theorem u6_70 : Jvm.Cond.methodLink "StoneRoadsLaw" (98 : Nat) yX9_cheapest ∈ UU := UU_in (UU_t6 _ (List.mem_of_getElem? (i := 70) rfl)) rfl
theorem u6_71 : Jvm.Cond.instanceMethod yX9_cheapest ∈ UU := UU_in (UU_t6 _ (List.mem_of_getElem? (i := 71) rfl)) rfl
theorem u6_72 : Jvm.Cond.selects "StoneRoadsModel" yX9_cheapest yX9_cheapest ∈ UU := UU_in (UU_t6 _ (List.mem_of_getElem? (i := 72) rfl)) rfl
theorem u6_73 : Jvm.Cond.code yX9_cheapest prog_11_method_70_code (2 : Nat) (Option.some Jvm.ClassFile.FieldType.int) ∈ UU := UU_in (UU_t6 _ (List.mem_of_getElem? (i := 73) rfl)) rfl
theorem u6_74 : Jvm.Cond.methodLink "StoneRoadsModel" (347 : Nat) yX9_cheapestStart ∈ UU := UU_in (UU_t6 _ (List.mem_of_getElem? (i := 74) rfl)) rfl
theorem u6_76 : Jvm.Cond.instanceMethod yX9_cheapestStart ∈ UU := UU_in (UU_t6 _ (List.mem_of_getElem? (i := 76) rfl)) rfl
theorem u6_77 : Jvm.Cond.code yX9_cheapestStart prog_11_method_68_code (4 : Nat) (Option.some Jvm.ClassFile.FieldType.int) ∈ UU := UU_in (UU_t6 _ (List.mem_of_getElem? (i := 77) rfl)) rfl
theorem u6_78 : Jvm.Cond.methodLink "StoneRoadsModel" (350 : Nat) yX9_fewest ∈ UU := UU_in (UU_t6 _ (List.mem_of_getElem? (i := 78) rfl)) rfl
theorem u6_80 : Jvm.Cond.instanceMethod yX9_fewest ∈ UU := UU_in (UU_t6 _ (List.mem_of_getElem? (i := 80) rfl)) rfl
theorem u6_81 : Jvm.Cond.code yX9_fewest prog_11_method_69_code (4 : Nat) (Option.some Jvm.ClassFile.FieldType.int) ∈ UU := UU_in (UU_t6 _ (List.mem_of_getElem? (i := 81) rfl)) rfl
theorem u6_82 : Jvm.Cond.methodLink "StoneRoadsLaw" (102 : Nat) yX9_more ∈ UU := UU_in (UU_t6 _ (List.mem_of_getElem? (i := 82) rfl)) rfl
theorem u6_83 : Jvm.Cond.instanceMethod yX9_more ∈ UU := UU_in (UU_t6 _ (List.mem_of_getElem? (i := 83) rfl)) rfl
theorem u6_84 : Jvm.Cond.selects "StoneRoadsModel" yX9_more yX9_more ∈ UU := UU_in (UU_t6 _ (List.mem_of_getElem? (i := 84) rfl)) rfl
theorem u6_85 : Jvm.Cond.code yX9_more prog_11_method_71_code (5 : Nat) (Option.some Jvm.ClassFile.FieldType.long) ∈ UU := UU_in (UU_t6 _ (List.mem_of_getElem? (i := 85) rfl)) rfl
theorem u6_86 : Jvm.Cond.methodLink "StoneRoadsModel" (353 : Nat) yX9_theBest ∈ UU := UU_in (UU_t6 _ (List.mem_of_getElem? (i := 86) rfl)) rfl
theorem u6_88 : Jvm.Cond.instanceMethod yX9_theBest ∈ UU := UU_in (UU_t6 _ (List.mem_of_getElem? (i := 88) rfl)) rfl
theorem u6_89 : Jvm.Cond.code yX9_theBest prog_11_method_66_code (2 : Nat) (Option.some Jvm.ClassFile.FieldType.int) ∈ UU := UU_in (UU_t6 _ (List.mem_of_getElem? (i := 89) rfl)) rfl
theorem u6_90 : Jvm.Cond.methodLink "StoneRoadsLaw" (106 : Nat) yX9_rise ∈ UU := UU_in (UU_t6 _ (List.mem_of_getElem? (i := 90) rfl)) rfl
theorem u6_91 : Jvm.Cond.instanceMethod yX9_rise ∈ UU := UU_in (UU_t6 _ (List.mem_of_getElem? (i := 91) rfl)) rfl
theorem u6_92 : Jvm.Cond.selects "StoneRoadsModel" yX9_rise yX9_rise ∈ UU := UU_in (UU_t6 _ (List.mem_of_getElem? (i := 92) rfl)) rfl
theorem u6_93 : Jvm.Cond.code yX9_rise prog_11_method_73_code (3 : Nat) (Option.some Jvm.ClassFile.FieldType.int) ∈ UU := UU_in (UU_t6 _ (List.mem_of_getElem? (i := 93) rfl)) rfl
theorem u6_94 : Jvm.Cond.methodLink "StoneRoadsModel" (356 : Nat) yX9_rises ∈ UU := UU_in (UU_t6 _ (List.mem_of_getElem? (i := 94) rfl)) rfl
theorem u6_96 : Jvm.Cond.instanceMethod yX9_rises ∈ UU := UU_in (UU_t6 _ (List.mem_of_getElem? (i := 96) rfl)) rfl
theorem u6_97 : Jvm.Cond.code yX9_rises prog_11_method_72_code (6 : Nat) (Option.some Jvm.ClassFile.FieldType.int) ∈ UU := UU_in (UU_t6 _ (List.mem_of_getElem? (i := 97) rfl)) rfl
theorem u6_98 : Jvm.Cond.methodLink "StoneRoadsLaw" (110 : Nat) yX9_missed ∈ UU := UU_in (UU_t6 _ (List.mem_of_getElem? (i := 98) rfl)) rfl
theorem u6_99 : Jvm.Cond.instanceMethod yX9_missed ∈ UU := UU_in (UU_t6 _ (List.mem_of_getElem? (i := 99) rfl)) rfl
theorem u6_100 : Jvm.Cond.selects "StoneRoadsModel" yX9_missed yX9_missed ∈ UU := UU_in (UU_t6 _ (List.mem_of_getElem? (i := 100) rfl)) rfl
theorem u6_101 : Jvm.Cond.code yX9_missed prog_11_method_74_code (8 : Nat) (Option.some Jvm.ClassFile.FieldType.int) ∈ UU := UU_in (UU_t6 _ (List.mem_of_getElem? (i := 101) rfl)) rfl
theorem u6_102 : Jvm.Cond.methodLink "StoneRoadsModel" (359 : Nat) Lib.Math.max.name ∈ UU := UU_in (UU_t6 _ (List.mem_of_getElem? (i := 102) rfl)) rfl
theorem u6_103 : Jvm.Cond.methodLink "StoneRoadsLaw" (114 : Nat) yX9_see ∈ UU := UU_in (UU_t6 _ (List.mem_of_getElem? (i := 103) rfl)) rfl
theorem u6_104 : Jvm.Cond.instanceMethod yX9_see ∈ UU := UU_in (UU_t6 _ (List.mem_of_getElem? (i := 104) rfl)) rfl
theorem u6_105 : Jvm.Cond.selects "StoneRoadsModel" yX9_see yX9_see ∈ UU := UU_in (UU_t6 _ (List.mem_of_getElem? (i := 105) rfl)) rfl
theorem u6_106 : Jvm.Cond.code yX9_see prog_11_method_75_code (4 : Nat) (Option.some Jvm.ClassFile.FieldType.int) ∈ UU := UU_in (UU_t6 _ (List.mem_of_getElem? (i := 106) rfl)) rfl
theorem u6_107 : Jvm.Cond.methodLink "StoneRoadsLaw" (118 : Nat) yX9_fits ∈ UU := UU_in (UU_t6 _ (List.mem_of_getElem? (i := 107) rfl)) rfl
theorem u6_108 : Jvm.Cond.instanceMethod yX9_fits ∈ UU := UU_in (UU_t6 _ (List.mem_of_getElem? (i := 108) rfl)) rfl
theorem u6_109 : Jvm.Cond.selects "StoneRoadsModel" yX9_fits yX9_fits ∈ UU := UU_in (UU_t6 _ (List.mem_of_getElem? (i := 109) rfl)) rfl
theorem u6_110 : Jvm.Cond.code yX9_fits prog_11_method_77_code (8 : Nat) (Option.some Jvm.ClassFile.FieldType.int) ∈ UU := UU_in (UU_t6 _ (List.mem_of_getElem? (i := 110) rfl)) rfl
theorem u6_111 : Jvm.Cond.methodLink "StoneRoadsModel" (362 : Nat) yX9_isAllSeen ∈ UU := UU_in (UU_t6 _ (List.mem_of_getElem? (i := 111) rfl)) rfl
theorem u6_113 : Jvm.Cond.instanceMethod yX9_isAllSeen ∈ UU := UU_in (UU_t6 _ (List.mem_of_getElem? (i := 113) rfl)) rfl
theorem u6_114 : Jvm.Cond.code yX9_isAllSeen prog_11_method_76_code (2 : Nat) (Option.some Jvm.ClassFile.FieldType.boolean) ∈ UU := UU_in (UU_t6 _ (List.mem_of_getElem? (i := 114) rfl)) rfl
theorem u6_115 : Jvm.Cond.methodLink "StoneRoadsLaw" (123 : Nat) yX9_odds ∈ UU := UU_in (UU_t6 _ (List.mem_of_getElem? (i := 115) rfl)) rfl
theorem u6_116 : Jvm.Cond.instanceMethod yX9_odds ∈ UU := UU_in (UU_t6 _ (List.mem_of_getElem? (i := 116) rfl)) rfl
theorem u6_117 : Jvm.Cond.selects "StoneRoadsModel" yX9_odds yX9_odds ∈ UU := UU_in (UU_t6 _ (List.mem_of_getElem? (i := 117) rfl)) rfl
theorem u6_118 : Jvm.Cond.code yX9_odds prog_11_method_79_code (7 : Nat) (Option.some Jvm.ClassFile.FieldType.long) ∈ UU := UU_in (UU_t6 _ (List.mem_of_getElem? (i := 118) rfl)) rfl
theorem u6_119 : Jvm.Cond.constantLong "StoneRoadsModel" (365 : Nat) (10 : Int64) ∈ UU := UU_in (UU_t6 _ (List.mem_of_getElem? (i := 119) rfl)) rfl
theorem u6_120 : Jvm.Cond.methodLink "StoneRoadsModel" (367 : Nat) yX9_lowest ∈ UU := UU_in (UU_t6 _ (List.mem_of_getElem? (i := 120) rfl)) rfl
theorem u6_121 : Jvm.Cond.static yX9_lowest ∈ UU := UU_in (UU_t6 _ (List.mem_of_getElem? (i := 121) rfl)) rfl
theorem u6_122 : Jvm.Cond.code yX9_lowest prog_11_method_78_code (11 : Nat) (Option.some Jvm.ClassFile.FieldType.long) ∈ UU := UU_in (UU_t6 _ (List.mem_of_getElem? (i := 122) rfl)) rfl
theorem u6_123 : Jvm.Cond.methodLink "StoneRoadsLaw" (128 : Nat) yX9_mean ∈ UU := UU_in (UU_t6 _ (List.mem_of_getElem? (i := 123) rfl)) rfl
theorem u6_124 : Jvm.Cond.instanceMethod yX9_mean ∈ UU := UU_in (UU_t6 _ (List.mem_of_getElem? (i := 124) rfl)) rfl
theorem u6_125 : Jvm.Cond.selects "StoneRoadsModel" yX9_mean yX9_mean ∈ UU := UU_in (UU_t6 _ (List.mem_of_getElem? (i := 125) rfl)) rfl
theorem u6_126 : Jvm.Cond.code yX9_mean prog_11_method_80_code (4 : Nat) (Option.some Jvm.ClassFile.FieldType.long) ∈ UU := UU_in (UU_t6 _ (List.mem_of_getElem? (i := 126) rfl)) rfl
theorem u6_127 : Jvm.Cond.methodLink "StoneRoadsLaw" (132 : Nat) yX9_order ∈ UU := UU_in (UU_t6 _ (List.mem_of_getElem? (i := 127) rfl)) rfl
theorem u6_128 : Jvm.Cond.instanceMethod yX9_order ∈ UU := UU_in (UU_t6 _ (List.mem_of_getElem? (i := 128) rfl)) rfl
theorem u6_129 : Jvm.Cond.selects "StoneRoadsModel" yX9_order yX9_order ∈ UU := UU_in (UU_t6 _ (List.mem_of_getElem? (i := 129) rfl)) rfl
theorem u6_130 : Jvm.Cond.code yX9_order prog_11_method_81_code (3 : Nat) (Option.some Jvm.ClassFile.FieldType.int) ∈ UU := UU_in (UU_t6 _ (List.mem_of_getElem? (i := 130) rfl)) rfl
theorem u6_131 : Jvm.Cond.methodLink "StoneRoadsModel" (371 : Nat) yX9_isSpelled ∈ UU := UU_in (UU_t6 _ (List.mem_of_getElem? (i := 131) rfl)) rfl
theorem u6_133 : Jvm.Cond.instanceMethod yX9_isSpelled ∈ UU := UU_in (UU_t6 _ (List.mem_of_getElem? (i := 133) rfl)) rfl
theorem u6_134 : Jvm.Cond.code yX9_isSpelled prog_11_method_5_code (2 : Nat) (Option.some Jvm.ClassFile.FieldType.boolean) ∈ UU := UU_in (UU_t6 _ (List.mem_of_getElem? (i := 134) rfl)) rfl
theorem u6_135 : Jvm.Cond.methodLink "StoneRoadsLaw" (136 : Nat) yX9_ends ∈ UU := UU_in (UU_t6 _ (List.mem_of_getElem? (i := 135) rfl)) rfl
theorem u6_136 : Jvm.Cond.instanceMethod yX9_ends ∈ UU := UU_in (UU_t6 _ (List.mem_of_getElem? (i := 136) rfl)) rfl
theorem u6_137 : Jvm.Cond.selects "StoneRoadsModel" yX9_ends yX9_ends ∈ UU := UU_in (UU_t6 _ (List.mem_of_getElem? (i := 137) rfl)) rfl
theorem u6_138 : Jvm.Cond.code yX9_ends prog_11_method_84_code (4 : Nat) (Option.some Jvm.ClassFile.FieldType.int) ∈ UU := UU_in (UU_t6 _ (List.mem_of_getElem? (i := 138) rfl)) rfl
theorem u6_139 : Jvm.Cond.methodLink "StoneRoadsModel" (374 : Nat) yX9_copies ∈ UU := UU_in (UU_t6 _ (List.mem_of_getElem? (i := 139) rfl)) rfl
theorem u6_140 : Jvm.Cond.static yX9_copies ∈ UU := UU_in (UU_t6 _ (List.mem_of_getElem? (i := 140) rfl)) rfl
theorem u6_141 : Jvm.Cond.code yX9_copies prog_11_method_82_code (3 : Nat) (Option.none : Option Jvm.ClassFile.FieldType) ∈ UU := UU_in (UU_t6 _ (List.mem_of_getElem? (i := 141) rfl)) rfl
theorem u6_142 : Jvm.Cond.methodLink "StoneRoadsModel" (378 : Nat) yX9_happens ∈ UU := UU_in (UU_t6 _ (List.mem_of_getElem? (i := 142) rfl)) rfl
theorem u6_144 : Jvm.Cond.instanceMethod yX9_happens ∈ UU := UU_in (UU_t6 _ (List.mem_of_getElem? (i := 144) rfl)) rfl
theorem u6_145 : Jvm.Cond.code yX9_happens prog_11_method_83_code (3 : Nat) (Option.none : Option Jvm.ClassFile.FieldType) ∈ UU := UU_in (UU_t6 _ (List.mem_of_getElem? (i := 145) rfl)) rfl
theorem u6_146 : Jvm.Cond.methodLink "StoneRoadsLaw" (140 : Nat) yX9_book ∈ UU := UU_in (UU_t6 _ (List.mem_of_getElem? (i := 146) rfl)) rfl
theorem u6_147 : Jvm.Cond.instanceMethod yX9_book ∈ UU := UU_in (UU_t6 _ (List.mem_of_getElem? (i := 147) rfl)) rfl
theorem u6_148 : Jvm.Cond.selects "StoneRoadsModel" yX9_book yX9_book ∈ UU := UU_in (UU_t6 _ (List.mem_of_getElem? (i := 148) rfl)) rfl
theorem u6_149 : Jvm.Cond.code yX9_book prog_11_method_85_code (4 : Nat) (Option.some Jvm.ClassFile.FieldType.int) ∈ UU := UU_in (UU_t6 _ (List.mem_of_getElem? (i := 149) rfl)) rfl
theorem u6_150 : Jvm.Cond.methodLink "StoneRoadsLaw" (144 : Nat) yX9_looked ∈ UU := UU_in (UU_t6 _ (List.mem_of_getElem? (i := 150) rfl)) rfl
theorem u6_151 : Jvm.Cond.instanceMethod yX9_looked ∈ UU := UU_in (UU_t6 _ (List.mem_of_getElem? (i := 151) rfl)) rfl
theorem u6_152 : Jvm.Cond.selects "StoneRoadsModel" yX9_looked yX9_looked ∈ UU := UU_in (UU_t6 _ (List.mem_of_getElem? (i := 152) rfl)) rfl
theorem u6_153 : Jvm.Cond.code yX9_looked prog_11_method_86_code (2 : Nat) (Option.some Jvm.ClassFile.FieldType.int) ∈ UU := UU_in (UU_t6 _ (List.mem_of_getElem? (i := 153) rfl)) rfl
theorem u6_154 : Jvm.Cond.methodLink "StoneRoadsLaw" (148 : Nat) yX9_judge ∈ UU := UU_in (UU_t6 _ (List.mem_of_getElem? (i := 154) rfl)) rfl
theorem u6_155 : Jvm.Cond.instanceMethod yX9_judge ∈ UU := UU_in (UU_t6 _ (List.mem_of_getElem? (i := 155) rfl)) rfl
theorem u6_156 : Jvm.Cond.selects "StoneRoadsModel" yX9_judge yX9_judge ∈ UU := UU_in (UU_t6 _ (List.mem_of_getElem? (i := 156) rfl)) rfl
theorem u6_157 : Jvm.Cond.code yX9_judge prog_11_method_88_code (5 : Nat) (Option.some Jvm.ClassFile.FieldType.int) ∈ UU := UU_in (UU_t6 _ (List.mem_of_getElem? (i := 157) rfl)) rfl
theorem u6_158 : Jvm.Cond.methodLink "StoneRoadsModel" (383 : Nat) yX9_isTape ∈ UU := UU_in (UU_t6 _ (List.mem_of_getElem? (i := 158) rfl)) rfl
theorem u6_159 : Jvm.Cond.static yX9_isTape ∈ UU := UU_in (UU_t6 _ (List.mem_of_getElem? (i := 159) rfl)) rfl
theorem u6_160 : Jvm.Cond.code yX9_isTape prog_11_method_87_code (1 : Nat) (Option.some Jvm.ClassFile.FieldType.boolean) ∈ UU := UU_in (UU_t6 _ (List.mem_of_getElem? (i := 160) rfl)) rfl
theorem u6_161 : Jvm.Cond.constantLong "StoneRoadsModel" (381 : Nat) (5 : Int64) ∈ UU := UU_in (UU_t6 _ (List.mem_of_getElem? (i := 161) rfl)) rfl
theorem u6_162 : Jvm.Cond.methodLink "StoneRoadsLaw" (160 : Nat) yX9_count ∈ UU := UU_in (UU_t6 _ (List.mem_of_getElem? (i := 162) rfl)) rfl
theorem u6_163 : Jvm.Cond.instanceMethod yX9_count ∈ UU := UU_in (UU_t6 _ (List.mem_of_getElem? (i := 163) rfl)) rfl
theorem u6_164 : Jvm.Cond.selects "StoneRoadsModel" yX9_count yX9_count ∈ UU := UU_in (UU_t6 _ (List.mem_of_getElem? (i := 164) rfl)) rfl
theorem u6_165 : Jvm.Cond.code yX9_count prog_11_method_90_code (2 : Nat) (Option.some Jvm.ClassFile.FieldType.int) ∈ UU := UU_in (UU_t6 _ (List.mem_of_getElem? (i := 165) rfl)) rfl
theorem u6_166 : Jvm.Cond.methodLink "StoneRoadsModel" (386 : Nat) yX9_shutRoads ∈ UU := UU_in (UU_t6 _ (List.mem_of_getElem? (i := 166) rfl)) rfl
theorem u6_168 : Jvm.Cond.instanceMethod yX9_shutRoads ∈ UU := UU_in (UU_t6 _ (List.mem_of_getElem? (i := 168) rfl)) rfl
theorem u6_169 : Jvm.Cond.code yX9_shutRoads prog_11_method_89_code (4 : Nat) (Option.some Jvm.ClassFile.FieldType.int) ∈ UU := UU_in (UU_t6 _ (List.mem_of_getElem? (i := 169) rfl)) rfl
theorem u6_170 : Jvm.Cond.methodLink "StoneRoadsLaw" (164 : Nat) yX9_tape ∈ UU := UU_in (UU_t6 _ (List.mem_of_getElem? (i := 170) rfl)) rfl
theorem u6_171 : Jvm.Cond.instanceMethod yX9_tape ∈ UU := UU_in (UU_t6 _ (List.mem_of_getElem? (i := 171) rfl)) rfl
theorem u6_172 : Jvm.Cond.selects "StoneRoadsModel" yX9_tape yX9_tape ∈ UU := UU_in (UU_t6 _ (List.mem_of_getElem? (i := 172) rfl)) rfl
theorem u6_173 : Jvm.Cond.code yX9_tape prog_11_method_91_code (5 : Nat) (Option.some Jvm.ClassFile.FieldType.int) ∈ UU := UU_in (UU_t6 _ (List.mem_of_getElem? (i := 173) rfl)) rfl
theorem u6_174 : Jvm.Cond.constantLong "StoneRoadsModel" (389 : Nat) (-1 : Int64) ∈ UU := UU_in (UU_t6 _ (List.mem_of_getElem? (i := 174) rfl)) rfl
theorem u6_175 : Jvm.Cond.constantLong "StoneRoadsModel" (391 : Nat) (4 : Int64) ∈ UU := UU_in (UU_t6 _ (List.mem_of_getElem? (i := 175) rfl)) rfl
theorem u6_176 : Jvm.Cond.methodLink "StoneRoadsLaw" (171 : Nat) yX9_item ∈ UU := UU_in (UU_t6 _ (List.mem_of_getElem? (i := 176) rfl)) rfl
theorem u6_177 : Jvm.Cond.instanceMethod yX9_item ∈ UU := UU_in (UU_t6 _ (List.mem_of_getElem? (i := 177) rfl)) rfl
theorem u6_178 : Jvm.Cond.selects "StoneRoadsModel" yX9_item yX9_item ∈ UU := UU_in (UU_t6 _ (List.mem_of_getElem? (i := 178) rfl)) rfl
theorem u6_179 : Jvm.Cond.code yX9_item prog_11_method_93_code (5 : Nat) (Option.some Jvm.ClassFile.FieldType.int) ∈ UU := UU_in (UU_t6 _ (List.mem_of_getElem? (i := 179) rfl)) rfl
theorem u6_180 : Jvm.Cond.methodLink "StoneRoadsModel" (393 : Nat) yX9_fit ∈ UU := UU_in (UU_t6 _ (List.mem_of_getElem? (i := 180) rfl)) rfl
theorem u6_181 : Jvm.Cond.static yX9_fit ∈ UU := UU_in (UU_t6 _ (List.mem_of_getElem? (i := 181) rfl)) rfl
theorem u6_182 : Jvm.Cond.code yX9_fit prog_11_method_92_code (3 : Nat) (Option.some Jvm.ClassFile.FieldType.long) ∈ UU := UU_in (UU_t6 _ (List.mem_of_getElem? (i := 182) rfl)) rfl
theorem u6_183 : Jvm.Cond.methodLink "StoneRoadsLaw" (175 : Nat) yX9_peek ∈ UU := UU_in (UU_t6 _ (List.mem_of_getElem? (i := 183) rfl)) rfl
theorem u6_184 : Jvm.Cond.instanceMethod yX9_peek ∈ UU := UU_in (UU_t6 _ (List.mem_of_getElem? (i := 184) rfl)) rfl
theorem u6_185 : Jvm.Cond.selects "StoneRoadsModel" yX9_peek yX9_peek ∈ UU := UU_in (UU_t6 _ (List.mem_of_getElem? (i := 185) rfl)) rfl
theorem u6_186 : Jvm.Cond.code yX9_peek prog_11_method_94_code (3 : Nat) (Option.some Jvm.ClassFile.FieldType.long) ∈ UU := UU_in (UU_t6 _ (List.mem_of_getElem? (i := 186) rfl)) rfl
theorem u6_187 : Jvm.Cond.methodLink "StoneRoadsLaw" (180 : Nat) yX9_shift ∈ UU := UU_in (UU_t6 _ (List.mem_of_getElem? (i := 187) rfl)) rfl
theorem u6_188 : Jvm.Cond.instanceMethod yX9_shift ∈ UU := UU_in (UU_t6 _ (List.mem_of_getElem? (i := 188) rfl)) rfl
theorem u6_189 : Jvm.Cond.selects "StoneRoadsModel" yX9_shift yX9_shift ∈ UU := UU_in (UU_t6 _ (List.mem_of_getElem? (i := 189) rfl)) rfl
theorem u6_190 : Jvm.Cond.code yX9_shift prog_11_method_95_code (7 : Nat) (Option.some Jvm.ClassFile.FieldType.int) ∈ UU := UU_in (UU_t6 _ (List.mem_of_getElem? (i := 190) rfl)) rfl
theorem u6_191 : Jvm.Cond.constantLong "StoneRoadsLaw" (165 : Nat) (4294967295 : Int64) ∈ UU := UU_in (UU_t6 _ (List.mem_of_getElem? (i := 191) rfl)) rfl
theorem up_0 : Cond.selects yX5_takeClause.cls yX5_takeClause yX5_takeClause ∈ UU := UU_in (UU_p _ (List.mem_of_getElem? (i := 0) rfl)) rfl
theorem up_1 : Cond.selects yX5_take.cls yX5_take yX5_take ∈ UU := UU_in (UU_p _ (List.mem_of_getElem? (i := 1) rfl)) rfl
theorem up_2 : Cond.selects yX5_takeSite.cls yX5_takeSite yX5_takeSite ∈ UU := UU_in (UU_p _ (List.mem_of_getElem? (i := 2) rfl)) rfl
theorem up_3 : Cond.selects yX5_takeNumber.cls yX5_takeNumber yX5_takeNumber ∈ UU := UU_in (UU_p _ (List.mem_of_getElem? (i := 3) rfl)) rfl
theorem up_4 : Cond.selects yX5_takeDigit.cls yX5_takeDigit yX5_takeDigit ∈ UU := UU_in (UU_p _ (List.mem_of_getElem? (i := 4) rfl)) rfl
theorem up_5 : Cond.selects yX5_takeRoad.cls yX5_takeRoad yX5_takeRoad ∈ UU := UU_in (UU_p _ (List.mem_of_getElem? (i := 5) rfl)) rfl
theorem up_6 : Cond.selects yX5_takeKind.cls yX5_takeKind yX5_takeKind ∈ UU := UU_in (UU_p _ (List.mem_of_getElem? (i := 6) rfl)) rfl
theorem up_7 : Cond.selects yX3_layCells.cls yX3_layCells yX3_layCells ∈ UU := UU_in (UU_p _ (List.mem_of_getElem? (i := 7) rfl)) rfl
theorem up_8 : Cond.selects yX2_pickCorner.cls yX2_pickCorner yX2_pickCorner ∈ UU := UU_in (UU_p _ (List.mem_of_getElem? (i := 8) rfl)) rfl
theorem up_9 : Cond.selects yX2_pickLeast.cls yX2_pickLeast yX2_pickLeast ∈ UU := UU_in (UU_p _ (List.mem_of_getElem? (i := 9) rfl)) rfl
theorem up_10 : Cond.selects yX2_pickRegret.cls yX2_pickRegret yX2_pickRegret ∈ UU := UU_in (UU_p _ (List.mem_of_getElem? (i := 10) rfl)) rfl
theorem up_11 : Cond.selects yX3_spreadWorths.cls yX3_spreadWorths yX3_spreadWorths ∈ UU := UU_in (UU_p _ (List.mem_of_getElem? (i := 11) rfl)) rfl
theorem up_12 : Cond.selects yX1_pointHome.cls yX1_pointHome yX1_pointHome ∈ UU := UU_in (UU_p _ (List.mem_of_getElem? (i := 12) rfl)) rfl
theorem up_13 : Cond.selects yX1_add.cls yX1_add yX1_add ∈ UU := UU_in (UU_p _ (List.mem_of_getElem? (i := 13) rfl)) rfl
theorem up_14 : Cond.selects yX3_turnWay.cls yX3_turnWay yX3_turnWay ∈ UU := UU_in (UU_p _ (List.mem_of_getElem? (i := 14) rfl)) rfl
theorem up_15 : Cond.selects yX8_tryBest.cls yX8_tryBest yX8_tryBest ∈ UU := UU_in (UU_p _ (List.mem_of_getElem? (i := 15) rfl)) rfl
theorem up_16 : Cond.selects yX8_cheapestStart.cls yX8_cheapestStart yX8_cheapestStart ∈ UU := UU_in (UU_p _ (List.mem_of_getElem? (i := 16) rfl)) rfl
theorem up_17 : Cond.selects yX8_fewestSteps.cls yX8_fewestSteps yX8_fewestSteps ∈ UU := UU_in (UU_p _ (List.mem_of_getElem? (i := 17) rfl)) rfl
theorem up_18 : Cond.selects yX8_tryTheBest.cls yX8_tryTheBest yX8_tryTheBest ∈ UU := UU_in (UU_p _ (List.mem_of_getElem? (i := 18) rfl)) rfl
theorem up_19 : Cond.selects yX8_isOrder.cls yX8_isOrder yX8_isOrder ∈ UU := UU_in (UU_p _ (List.mem_of_getElem? (i := 19) rfl)) rfl
theorem up_20 : Cond.selects yX9_passesAll.cls yX9_passesAll yX9_passesAll ∈ UU := UU_in (UU_p _ (List.mem_of_getElem? (i := 20) rfl)) rfl
theorem up_21 : Cond.selects yX9_passes.cls yX9_passes yX9_passes ∈ UU := UU_in (UU_p _ (List.mem_of_getElem? (i := 21) rfl)) rfl
theorem up_22 : Cond.selects yX9_passesRow.cls yX9_passesRow yX9_passesRow ∈ UU := UU_in (UU_p _ (List.mem_of_getElem? (i := 22) rfl)) rfl
theorem up_23 : Cond.selects yX9_comes.cls yX9_comes yX9_comes ∈ UU := UU_in (UU_p _ (List.mem_of_getElem? (i := 23) rfl)) rfl
theorem up_24 : Cond.selects yX9_many.cls yX9_many yX9_many ∈ UU := UU_in (UU_p _ (List.mem_of_getElem? (i := 24) rfl)) rfl
theorem up_25 : Cond.selects yX9_isThing.cls yX9_isThing yX9_isThing ∈ UU := UU_in (UU_p _ (List.mem_of_getElem? (i := 25) rfl)) rfl
theorem up_26 : Cond.selects yX9_isRoad.cls yX9_isRoad yX9_isRoad ∈ UU := UU_in (UU_p _ (List.mem_of_getElem? (i := 26) rfl)) rfl
theorem up_27 : Cond.selects yX9_costOf.cls yX9_costOf yX9_costOf ∈ UU := UU_in (UU_p _ (List.mem_of_getElem? (i := 27) rfl)) rfl
theorem up_28 : Cond.selects yX9_goesThrough.cls yX9_goesThrough yX9_goesThrough ∈ UU := UU_in (UU_p _ (List.mem_of_getElem? (i := 28) rfl)) rfl
theorem up_29 : Cond.selects yX9_clause.cls yX9_clause yX9_clause ∈ UU := UU_in (UU_p _ (List.mem_of_getElem? (i := 29) rfl)) rfl
theorem up_30 : Cond.selects yX9_here.cls yX9_here yX9_here ∈ UU := UU_in (UU_p _ (List.mem_of_getElem? (i := 30) rfl)) rfl
theorem up_31 : Cond.selects yX9_takes.cls yX9_takes yX9_takes ∈ UU := UU_in (UU_p _ (List.mem_of_getElem? (i := 31) rfl)) rfl
theorem up_32 : Cond.selects yX9_takesKind.cls yX9_takesKind yX9_takesKind ∈ UU := UU_in (UU_p _ (List.mem_of_getElem? (i := 32) rfl)) rfl
theorem up_33 : Cond.selects yX9_takesNumber.cls yX9_takesNumber yX9_takesNumber ∈ UU := UU_in (UU_p _ (List.mem_of_getElem? (i := 33) rfl)) rfl
theorem up_34 : Cond.selects yX9_starts.cls yX9_starts yX9_starts ∈ UU := UU_in (UU_p _ (List.mem_of_getElem? (i := 34) rfl)) rfl
theorem up_35 : Cond.selects yX9_opens.cls yX9_opens yX9_opens ∈ UU := UU_in (UU_p _ (List.mem_of_getElem? (i := 35) rfl)) rfl
theorem up_36 : Cond.selects yX9_sum.cls yX9_sum yX9_sum ∈ UU := UU_in (UU_p _ (List.mem_of_getElem? (i := 36) rfl)) rfl
theorem up_37 : Cond.selects yX9_openOnes.cls yX9_openOnes yX9_openOnes ∈ UU := UU_in (UU_p _ (List.mem_of_getElem? (i := 37) rfl)) rfl
theorem up_38 : Cond.selects yX9_picked.cls yX9_picked yX9_picked ∈ UU := UU_in (UU_p _ (List.mem_of_getElem? (i := 38) rfl)) rfl
theorem up_39 : Cond.selects yX9_corner.cls yX9_corner yX9_corner ∈ UU := UU_in (UU_p _ (List.mem_of_getElem? (i := 39) rfl)) rfl
theorem up_40 : Cond.selects yX9_isOpenCell.cls yX9_isOpenCell yX9_isOpenCell ∈ UU := UU_in (UU_p _ (List.mem_of_getElem? (i := 40) rfl)) rfl
theorem up_41 : Cond.selects yX9_cheapestCell.cls yX9_cheapestCell yX9_cheapestCell ∈ UU := UU_in (UU_p _ (List.mem_of_getElem? (i := 41) rfl)) rfl
theorem up_42 : Cond.selects yX9_regret.cls yX9_regret yX9_regret ∈ UU := UU_in (UU_p _ (List.mem_of_getElem? (i := 42) rfl)) rfl
theorem up_43 : Cond.selects yX9_total.cls yX9_total yX9_total ∈ UU := UU_in (UU_p _ (List.mem_of_getElem? (i := 43) rfl)) rfl
theorem up_44 : Cond.selects yX9_goes.cls yX9_goes yX9_goes ∈ UU := UU_in (UU_p _ (List.mem_of_getElem? (i := 44) rfl)) rfl
theorem up_45 : Cond.selects yX9_moves.cls yX9_moves yX9_moves ∈ UU := UU_in (UU_p _ (List.mem_of_getElem? (i := 45) rfl)) rfl
theorem up_46 : Cond.selects yX9_enterer.cls yX9_enterer yX9_enterer ∈ UU := UU_in (UU_p _ (List.mem_of_getElem? (i := 46) rfl)) rfl
theorem up_47 : Cond.selects yX9_values.cls yX9_values yX9_values ∈ UU := UU_in (UU_p _ (List.mem_of_getElem? (i := 47) rfl)) rfl
theorem up_48 : Cond.selects yX9_isInPlan.cls yX9_isInPlan yX9_isInPlan ∈ UU := UU_in (UU_p _ (List.mem_of_getElem? (i := 48) rfl)) rfl
theorem up_49 : Cond.selects yX9_over.cls yX9_over yX9_over ∈ UU := UU_in (UU_p _ (List.mem_of_getElem? (i := 49) rfl)) rfl
theorem up_50 : Cond.selects yX9_loops.cls yX9_loops yX9_loops ∈ UU := UU_in (UU_p _ (List.mem_of_getElem? (i := 50) rfl)) rfl
theorem up_51 : Cond.selects yX9_tie.cls yX9_tie yX9_tie ∈ UU := UU_in (UU_p _ (List.mem_of_getElem? (i := 51) rfl)) rfl
theorem up_52 : Cond.selects yX9_otherIn.cls yX9_otherIn yX9_otherIn ∈ UU := UU_in (UU_p _ (List.mem_of_getElem? (i := 52) rfl)) rfl
theorem up_53 : Cond.selects yX9_isCell.cls yX9_isCell yX9_isCell ∈ UU := UU_in (UU_p _ (List.mem_of_getElem? (i := 53) rfl)) rfl
theorem up_54 : Cond.selects yX9_isProved.cls yX9_isProved yX9_isProved ∈ UU := UU_in (UU_p _ (List.mem_of_getElem? (i := 54) rfl)) rfl
theorem up_55 : Cond.selects yX9_counted.cls yX9_counted yX9_counted ∈ UU := UU_in (UU_p _ (List.mem_of_getElem? (i := 55) rfl)) rfl
theorem up_56 : Cond.selects yX9_minds.cls yX9_minds yX9_minds ∈ UU := UU_in (UU_p _ (List.mem_of_getElem? (i := 56) rfl)) rfl
theorem up_57 : Cond.selects yX9_lays.cls yX9_lays yX9_lays ∈ UU := UU_in (UU_p _ (List.mem_of_getElem? (i := 57) rfl)) rfl
theorem up_58 : Cond.selects yX9_thinks.cls yX9_thinks yX9_thinks ∈ UU := UU_in (UU_p _ (List.mem_of_getElem? (i := 58) rfl)) rfl
theorem up_59 : Cond.selects yX9_forgets.cls yX9_forgets yX9_forgets ∈ UU := UU_in (UU_p _ (List.mem_of_getElem? (i := 59) rfl)) rfl
theorem up_60 : Cond.selects yX9_takesBack.cls yX9_takesBack yX9_takesBack ∈ UU := UU_in (UU_p _ (List.mem_of_getElem? (i := 60) rfl)) rfl
theorem up_61 : Cond.selects yX9_cheapestStart.cls yX9_cheapestStart yX9_cheapestStart ∈ UU := UU_in (UU_p _ (List.mem_of_getElem? (i := 61) rfl)) rfl
theorem up_62 : Cond.selects yX9_fewest.cls yX9_fewest yX9_fewest ∈ UU := UU_in (UU_p _ (List.mem_of_getElem? (i := 62) rfl)) rfl
theorem up_63 : Cond.selects yX9_theBest.cls yX9_theBest yX9_theBest ∈ UU := UU_in (UU_p _ (List.mem_of_getElem? (i := 63) rfl)) rfl
theorem up_64 : Cond.selects yX9_rises.cls yX9_rises yX9_rises ∈ UU := UU_in (UU_p _ (List.mem_of_getElem? (i := 64) rfl)) rfl
theorem up_65 : Cond.selects yX9_isAllSeen.cls yX9_isAllSeen yX9_isAllSeen ∈ UU := UU_in (UU_p _ (List.mem_of_getElem? (i := 65) rfl)) rfl
theorem up_66 : Cond.selects yX9_isSpelled.cls yX9_isSpelled yX9_isSpelled ∈ UU := UU_in (UU_p _ (List.mem_of_getElem? (i := 66) rfl)) rfl
theorem up_67 : Cond.selects yX9_happens.cls yX9_happens yX9_happens ∈ UU := UU_in (UU_p _ (List.mem_of_getElem? (i := 67) rfl)) rfl
theorem up_68 : Cond.selects yX9_shutRoads.cls yX9_shutRoads yX9_shutRoads ∈ UU := UU_in (UU_p _ (List.mem_of_getElem? (i := 68) rfl)) rfl
theorem um_max_s : Cond.static Lib.Math.max.name ∈ UU := u3_2
theorem um_min_s : Cond.static Lib.Math.min.name ∈ UU := u1_218
theorem um_math : Cond.initialized "java/lang/Math" ∈ UU := u1_9
theorem um_max_c : Cond.code Lib.Math.max.name Lib.Math.max.code 2 (some .int) ∈ UU := u3_3
theorem um_min_c : Cond.code Lib.Math.min.name Lib.Math.min.code 2 (some .int) ∈ UU := u1_219
theorem um_cpy_n : Cond.native arraycopyName ∈ UU := u3_0
theorem um_cpy_s : Cond.static arraycopyName ∈ UU := u2_239
theorem um_ac_int : Cond.arrayClass .int ∈ UU := u1_77
theorem um_ac_boo : Cond.arrayClass .boolean ∈ UU := u1_126
theorem um_ac_chr : Cond.arrayClass .char ∈ UU := u2_53
theorem um_ac_lng : Cond.arrayClass .long ∈ UU := u2_78
theorem um_sys : Cond.initialized "java/lang/System" ∈ UU := u1_13
set_option maxRecDepth 20000 in
theorem cw0 : ∀ w ∈ wsX00, w ∈ UU := fun w h => UU_in (UU_t w (mem_pos [60, 62, 64, 66, 68, 70, 72, 74] (by decide +kernel) w h)) (List.all_eq_true.mp (by decide +kernel : wsX00.all goodWord = true) w h)
set_option maxRecDepth 20000 in
theorem cw1 : ∀ w ∈ wsX10, w ∈ UU := fun w h => UU_in (UU_t w (mem_pos [139, 141, 143, 145] (by decide +kernel) w h)) (List.all_eq_true.mp (by decide +kernel : wsX10.all goodWord = true) w h)
set_option maxRecDepth 20000 in
theorem cw2 : ∀ w ∈ wsX20, w ∈ UU := fun w h => UU_in (UU_t w (mem_pos [105, 107, 109, 111, 113, 115, 117, 119, 121, 123] (by decide +kernel) w h)) (List.all_eq_true.mp (by decide +kernel : wsX20.all goodWord = true) w h)
set_option maxRecDepth 20000 in
theorem cw3 : ∀ w ∈ wsX30, w ∈ UU := fun w h => UU_in (UU_t w (mem_pos [178, 180, 182, 184, 186, 188, 190, 192, 194, 196, 198, 200, 202, 204, 206, 208] (by decide +kernel) w h)) (List.all_eq_true.mp (by decide +kernel : wsX30.all goodWord = true) w h)
set_option maxRecDepth 20000 in
theorem cw4 : ∀ w ∈ wsX40, w ∈ UU := fun w h => UU_in (UU_t w (mem_pos [227, 229, 231, 233] (by decide +kernel) w h)) (List.all_eq_true.mp (by decide +kernel : wsX40.all goodWord = true) w h)
set_option maxRecDepth 20000 in
theorem cw5 : ∀ w ∈ wsX50, w ∈ UU := fun w h => UU_in (UU_t w (mem_pos [274, 276, 278, 280, 282, 284, 286, 288, 290] (by decide +kernel) w h)) (List.all_eq_true.mp (by decide +kernel : wsX50.all goodWord = true) w h)
set_option maxRecDepth 20000 in
theorem cw6 : ∀ w ∈ wsX60, w ∈ UU := fun w h => UU_in (UU_t w (mem_pos [246, 248, 250, 252, 254] (by decide +kernel) w h)) (List.all_eq_true.mp (by decide +kernel : wsX60.all goodWord = true) w h)
set_option maxRecDepth 20000 in
theorem cw7 : ∀ w ∈ wsX70, w ∈ UU := fun w h => UU_in (UU_t w (mem_pos [311, 313, 315] (by decide +kernel) w h)) (List.all_eq_true.mp (by decide +kernel : wsX70.all goodWord = true) w h)
set_option maxRecDepth 20000 in
theorem cw8 : ∀ w ∈ wsX80, w ∈ UU := fun w h => UU_in (UU_t w (mem_pos [326, 328, 330, 332, 334, 336, 338] (by decide +kernel) w h)) (List.all_eq_true.mp (by decide +kernel : wsX80.all goodWord = true) w h)
set_option maxRecDepth 20000 in
theorem cw9 : ∀ w ∈ wsX90, w ∈ UU := fun w h => UU_in (UU_t w (mem_pos [900, 902, 904, 906, 908, 910, 912, 914, 916, 918, 920, 922, 924, 926, 928, 930, 932, 934, 936, 938, 940, 942, 944, 946, 948, 950, 952, 954, 956, 958, 960, 962, 964, 966, 968, 970, 972, 974, 976, 978, 980, 982, 984, 986, 988, 990, 992, 994, 996, 998, 1000] (by decide +kernel) w h)) (List.all_eq_true.mp (by decide +kernel : wsX90.all goodWord = true) w h)
