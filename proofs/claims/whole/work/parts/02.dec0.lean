theorem dX0_init_0 : decode cX0_init 0 = .ok (.aload_n 0, 1) := by decide +kernel
theorem dX0_init_1 : decode cX0_init 1 = .ok (.invokespecial 3, 3) := by decide +kernel
theorem dX0_init_4 : decode cX0_init 4 = .ok (.aload_n 0, 1) := by decide +kernel
theorem dX0_init_5 : decode cX0_init 5 = .ok (.iconst 0, 1) := by decide +kernel
theorem dX0_init_6 : decode cX0_init 6 = .ok (.putfield 9, 3) := by decide +kernel
theorem dX0_init_9 : decode cX0_init 9 = .ok (.aload_n 0, 1) := by decide +kernel
theorem dX0_init_10 : decode cX0_init 10 = .ok (.iconst 0, 1) := by decide +kernel
theorem dX0_init_11 : decode cX0_init 11 = .ok (.putfield 15, 3) := by decide +kernel
theorem dX0_init_14 : decode cX0_init 14 = .ok (.aload_n 0, 1) := by decide +kernel
theorem dX0_init_15 : decode cX0_init 15 = .ok (.iconst 5, 1) := by decide +kernel
theorem dX0_init_16 : decode cX0_init 16 = .ok (.newarray .int, 2) := by decide +kernel
theorem dX0_init_18 : decode cX0_init 18 = .ok (.putfield 18, 3) := by decide +kernel
theorem dX0_init_21 : decode cX0_init 21 = .ok (.aload_n 0, 1) := by decide +kernel
theorem dX0_init_22 : decode cX0_init 22 = .ok (.iconst 5, 1) := by decide +kernel
theorem dX0_init_23 : decode cX0_init 23 = .ok (.newarray .int, 2) := by decide +kernel
theorem dX0_init_25 : decode cX0_init 25 = .ok (.putfield 22, 3) := by decide +kernel
theorem dX0_init_28 : decode cX0_init 28 = .ok (.aload_n 0, 1) := by decide +kernel
theorem dX0_init_29 : decode cX0_init 29 = .ok (.iconst 5, 1) := by decide +kernel
theorem dX0_init_30 : decode cX0_init 30 = .ok (.newarray .int, 2) := by decide +kernel
theorem dX0_init_32 : decode cX0_init 32 = .ok (.putfield 25, 3) := by decide +kernel
theorem dX0_init_35 : decode cX0_init 35 = .ok (.aload_n 0, 1) := by decide +kernel
theorem dX0_init_36 : decode cX0_init 36 = .ok (.iconst 5, 1) := by decide +kernel
theorem dX0_init_37 : decode cX0_init 37 = .ok (.newarray .int, 2) := by decide +kernel
theorem dX0_init_39 : decode cX0_init 39 = .ok (.putfield 28, 3) := by decide +kernel
theorem dX0_init_42 : decode cX0_init 42 = .ok (.aload_n 0, 1) := by decide +kernel
theorem dX0_init_43 : decode cX0_init 43 = .ok (.bipush 25, 2) := by decide +kernel
theorem dX0_init_45 : decode cX0_init 45 = .ok (.newarray .int, 2) := by decide +kernel
theorem dX0_init_47 : decode cX0_init 47 = .ok (.putfield 31, 3) := by decide +kernel
theorem dX0_init_50 : decode cX0_init 50 = .ok (.aload_n 0, 1) := by decide +kernel
theorem dX0_init_51 : decode cX0_init 51 = .ok (.bipush 25, 2) := by decide +kernel
theorem dX0_init_53 : decode cX0_init 53 = .ok (.newarray .int, 2) := by decide +kernel
theorem dX0_init_55 : decode cX0_init 55 = .ok (.putfield 34, 3) := by decide +kernel
theorem dX0_init_58 : decode cX0_init 58 = .ok (.aload_n 0, 1) := by decide +kernel
theorem dX0_init_59 : decode cX0_init 59 = .ok (.getfield 34, 3) := by decide +kernel
theorem dX0_init_62 : decode cX0_init 62 = .ok (.bipush 10, 2) := by decide +kernel
theorem dX0_init_64 : decode cX0_init 64 = .ok (.invokestatic 37, 3) := by decide +kernel
theorem dX0_init_67 : decode cX0_init 67 = .ok (.return_, 1) := by decide +kernel
theorem dX0_copyFrom_0 : decode cX0_copyFrom 0 = .ok (.aload_n 0, 1) := by decide +kernel
theorem dX0_copyFrom_1 : decode cX0_copyFrom 1 = .ok (.aload_n 1, 1) := by decide +kernel
theorem dX0_copyFrom_2 : decode cX0_copyFrom 2 = .ok (.getfield 9, 3) := by decide +kernel
theorem dX0_copyFrom_5 : decode cX0_copyFrom 5 = .ok (.putfield 9, 3) := by decide +kernel
theorem dX0_copyFrom_8 : decode cX0_copyFrom 8 = .ok (.aload_n 0, 1) := by decide +kernel
theorem dX0_copyFrom_9 : decode cX0_copyFrom 9 = .ok (.aload_n 1, 1) := by decide +kernel
theorem dX0_copyFrom_10 : decode cX0_copyFrom 10 = .ok (.getfield 15, 3) := by decide +kernel
theorem dX0_copyFrom_13 : decode cX0_copyFrom 13 = .ok (.putfield 15, 3) := by decide +kernel
theorem dX0_copyFrom_16 : decode cX0_copyFrom 16 = .ok (.aload_n 1, 1) := by decide +kernel
theorem dX0_copyFrom_17 : decode cX0_copyFrom 17 = .ok (.getfield 18, 3) := by decide +kernel
theorem dX0_copyFrom_20 : decode cX0_copyFrom 20 = .ok (.iconst 0, 1) := by decide +kernel
theorem dX0_copyFrom_21 : decode cX0_copyFrom 21 = .ok (.aload_n 0, 1) := by decide +kernel
theorem dX0_copyFrom_22 : decode cX0_copyFrom 22 = .ok (.getfield 18, 3) := by decide +kernel
theorem dX0_copyFrom_25 : decode cX0_copyFrom 25 = .ok (.iconst 0, 1) := by decide +kernel
theorem dX0_copyFrom_26 : decode cX0_copyFrom 26 = .ok (.iconst 5, 1) := by decide +kernel
theorem dX0_copyFrom_27 : decode cX0_copyFrom 27 = .ok (.invokestatic 43, 3) := by decide +kernel
theorem dX0_copyFrom_30 : decode cX0_copyFrom 30 = .ok (.aload_n 1, 1) := by decide +kernel
theorem dX0_copyFrom_31 : decode cX0_copyFrom 31 = .ok (.getfield 22, 3) := by decide +kernel
theorem dX0_copyFrom_34 : decode cX0_copyFrom 34 = .ok (.iconst 0, 1) := by decide +kernel
theorem dX0_copyFrom_35 : decode cX0_copyFrom 35 = .ok (.aload_n 0, 1) := by decide +kernel
theorem dX0_copyFrom_36 : decode cX0_copyFrom 36 = .ok (.getfield 22, 3) := by decide +kernel
theorem dX0_copyFrom_39 : decode cX0_copyFrom 39 = .ok (.iconst 0, 1) := by decide +kernel
theorem dX0_copyFrom_40 : decode cX0_copyFrom 40 = .ok (.iconst 5, 1) := by decide +kernel
theorem dX0_copyFrom_41 : decode cX0_copyFrom 41 = .ok (.invokestatic 43, 3) := by decide +kernel
theorem dX0_copyFrom_44 : decode cX0_copyFrom 44 = .ok (.aload_n 1, 1) := by decide +kernel
theorem dX0_copyFrom_45 : decode cX0_copyFrom 45 = .ok (.getfield 25, 3) := by decide +kernel
theorem dX0_copyFrom_48 : decode cX0_copyFrom 48 = .ok (.iconst 0, 1) := by decide +kernel
theorem dX0_copyFrom_49 : decode cX0_copyFrom 49 = .ok (.aload_n 0, 1) := by decide +kernel
theorem dX0_copyFrom_50 : decode cX0_copyFrom 50 = .ok (.getfield 25, 3) := by decide +kernel
theorem dX0_copyFrom_53 : decode cX0_copyFrom 53 = .ok (.iconst 0, 1) := by decide +kernel
theorem dX0_copyFrom_54 : decode cX0_copyFrom 54 = .ok (.iconst 5, 1) := by decide +kernel
theorem dX0_copyFrom_55 : decode cX0_copyFrom 55 = .ok (.invokestatic 43, 3) := by decide +kernel
theorem dX0_copyFrom_58 : decode cX0_copyFrom 58 = .ok (.aload_n 1, 1) := by decide +kernel
theorem dX0_copyFrom_59 : decode cX0_copyFrom 59 = .ok (.getfield 28, 3) := by decide +kernel
theorem dX0_copyFrom_62 : decode cX0_copyFrom 62 = .ok (.iconst 0, 1) := by decide +kernel
theorem dX0_copyFrom_63 : decode cX0_copyFrom 63 = .ok (.aload_n 0, 1) := by decide +kernel
theorem dX0_copyFrom_64 : decode cX0_copyFrom 64 = .ok (.getfield 28, 3) := by decide +kernel
theorem dX0_copyFrom_67 : decode cX0_copyFrom 67 = .ok (.iconst 0, 1) := by decide +kernel
theorem dX0_copyFrom_68 : decode cX0_copyFrom 68 = .ok (.iconst 5, 1) := by decide +kernel
theorem dX0_copyFrom_69 : decode cX0_copyFrom 69 = .ok (.invokestatic 43, 3) := by decide +kernel
theorem dX0_copyFrom_72 : decode cX0_copyFrom 72 = .ok (.aload_n 1, 1) := by decide +kernel
theorem dX0_copyFrom_73 : decode cX0_copyFrom 73 = .ok (.getfield 31, 3) := by decide +kernel
theorem dX0_copyFrom_76 : decode cX0_copyFrom 76 = .ok (.iconst 0, 1) := by decide +kernel
theorem dX0_copyFrom_77 : decode cX0_copyFrom 77 = .ok (.aload_n 0, 1) := by decide +kernel
theorem dX0_copyFrom_78 : decode cX0_copyFrom 78 = .ok (.getfield 31, 3) := by decide +kernel
theorem dX0_copyFrom_81 : decode cX0_copyFrom 81 = .ok (.iconst 0, 1) := by decide +kernel
theorem dX0_copyFrom_82 : decode cX0_copyFrom 82 = .ok (.bipush 25, 2) := by decide +kernel
theorem dX0_copyFrom_84 : decode cX0_copyFrom 84 = .ok (.invokestatic 43, 3) := by decide +kernel
theorem dX0_copyFrom_87 : decode cX0_copyFrom 87 = .ok (.aload_n 1, 1) := by decide +kernel
theorem dX0_copyFrom_88 : decode cX0_copyFrom 88 = .ok (.getfield 34, 3) := by decide +kernel
theorem dX0_copyFrom_91 : decode cX0_copyFrom 91 = .ok (.iconst 0, 1) := by decide +kernel
theorem dX0_copyFrom_92 : decode cX0_copyFrom 92 = .ok (.aload_n 0, 1) := by decide +kernel
theorem dX0_copyFrom_93 : decode cX0_copyFrom 93 = .ok (.getfield 34, 3) := by decide +kernel
theorem dX0_copyFrom_96 : decode cX0_copyFrom 96 = .ok (.iconst 0, 1) := by decide +kernel
theorem dX0_copyFrom_97 : decode cX0_copyFrom 97 = .ok (.bipush 25, 2) := by decide +kernel
theorem dX0_copyFrom_99 : decode cX0_copyFrom 99 = .ok (.invokestatic 43, 3) := by decide +kernel
theorem dX0_copyFrom_102 : decode cX0_copyFrom 102 = .ok (.return_, 1) := by decide +kernel
theorem dX0_hasBothSides_0 : decode cX0_hasBothSides 0 = .ok (.aload_n 0, 1) := by decide +kernel
theorem dX0_hasBothSides_1 : decode cX0_hasBothSides 1 = .ok (.getfield 9, 3) := by decide +kernel
theorem dX0_hasBothSides_4 : decode cX0_hasBothSides 4 = .ok (.ifCond .le 14, 3) := by decide +kernel
theorem dX0_hasBothSides_7 : decode cX0_hasBothSides 7 = .ok (.aload_n 0, 1) := by decide +kernel
theorem dX0_hasBothSides_8 : decode cX0_hasBothSides 8 = .ok (.getfield 15, 3) := by decide +kernel
theorem dX0_hasBothSides_11 : decode cX0_hasBothSides 11 = .ok (.ifCond .le 7, 3) := by decide +kernel
theorem dX0_hasBothSides_14 : decode cX0_hasBothSides 14 = .ok (.iconst 1, 1) := by decide +kernel
theorem dX0_hasBothSides_15 : decode cX0_hasBothSides 15 = .ok (.goto 4, 3) := by decide +kernel
theorem dX0_hasBothSides_18 : decode cX0_hasBothSides 18 = .ok (.iconst 0, 1) := by decide +kernel
theorem dX0_hasBothSides_19 : decode cX0_hasBothSides 19 = .ok (.ireturn, 1) := by decide +kernel
theorem dX0_isSite_0 : decode cX0_isSite 0 = .ok (.iload_n 1, 1) := by decide +kernel
theorem dX0_isSite_1 : decode cX0_isSite 1 = .ok (.ifCond .ne 21, 3) := by decide +kernel
theorem dX0_isSite_4 : decode cX0_isSite 4 = .ok (.iload_n 2, 1) := by decide +kernel
theorem dX0_isSite_5 : decode cX0_isSite 5 = .ok (.ifCond .lt 15, 3) := by decide +kernel
theorem dX0_isSite_8 : decode cX0_isSite 8 = .ok (.iload_n 2, 1) := by decide +kernel
theorem dX0_isSite_9 : decode cX0_isSite 9 = .ok (.aload_n 0, 1) := by decide +kernel
theorem dX0_isSite_10 : decode cX0_isSite 10 = .ok (.getfield 9, 3) := by decide +kernel
theorem dX0_isSite_13 : decode cX0_isSite 13 = .ok (.if_icmp .ge 7, 3) := by decide +kernel
theorem dX0_isSite_16 : decode cX0_isSite 16 = .ok (.iconst 1, 1) := by decide +kernel
theorem dX0_isSite_17 : decode cX0_isSite 17 = .ok (.goto 4, 3) := by decide +kernel
theorem dX0_isSite_20 : decode cX0_isSite 20 = .ok (.iconst 0, 1) := by decide +kernel
theorem dX0_isSite_21 : decode cX0_isSite 21 = .ok (.ireturn, 1) := by decide +kernel
theorem dX0_isSite_22 : decode cX0_isSite 22 = .ok (.iload_n 1, 1) := by decide +kernel
theorem dX0_isSite_23 : decode cX0_isSite 23 = .ok (.iconst 1, 1) := by decide +kernel
theorem dX0_isSite_24 : decode cX0_isSite 24 = .ok (.if_icmp .ne 19, 3) := by decide +kernel
theorem dX0_isSite_27 : decode cX0_isSite 27 = .ok (.iload_n 2, 1) := by decide +kernel
theorem dX0_isSite_28 : decode cX0_isSite 28 = .ok (.ifCond .lt 15, 3) := by decide +kernel
theorem dX0_isSite_31 : decode cX0_isSite 31 = .ok (.iload_n 2, 1) := by decide +kernel
theorem dX0_isSite_32 : decode cX0_isSite 32 = .ok (.aload_n 0, 1) := by decide +kernel
theorem dX0_isSite_33 : decode cX0_isSite 33 = .ok (.getfield 15, 3) := by decide +kernel
theorem dX0_isSite_36 : decode cX0_isSite 36 = .ok (.if_icmp .ge 7, 3) := by decide +kernel
theorem dX0_isSite_39 : decode cX0_isSite 39 = .ok (.iconst 1, 1) := by decide +kernel
theorem dX0_isSite_40 : decode cX0_isSite 40 = .ok (.goto 4, 3) := by decide +kernel
theorem dX0_isSite_43 : decode cX0_isSite 43 = .ok (.iconst 0, 1) := by decide +kernel
theorem dX0_isSite_44 : decode cX0_isSite 44 = .ok (.ireturn, 1) := by decide +kernel
theorem dX0_isRoad_0 : decode cX0_isRoad 0 = .ok (.iload_n 1, 1) := by decide +kernel
theorem dX0_isRoad_1 : decode cX0_isRoad 1 = .ok (.ifCond .lt 27, 3) := by decide +kernel
theorem dX0_isRoad_4 : decode cX0_isRoad 4 = .ok (.iload_n 1, 1) := by decide +kernel
theorem dX0_isRoad_5 : decode cX0_isRoad 5 = .ok (.aload_n 0, 1) := by decide +kernel
theorem dX0_isRoad_6 : decode cX0_isRoad 6 = .ok (.getfield 9, 3) := by decide +kernel
theorem dX0_isRoad_9 : decode cX0_isRoad 9 = .ok (.if_icmp .ge 19, 3) := by decide +kernel
theorem dX0_isRoad_12 : decode cX0_isRoad 12 = .ok (.iload_n 2, 1) := by decide +kernel
theorem dX0_isRoad_13 : decode cX0_isRoad 13 = .ok (.ifCond .lt 15, 3) := by decide +kernel
theorem dX0_isRoad_16 : decode cX0_isRoad 16 = .ok (.iload_n 2, 1) := by decide +kernel
theorem dX0_isRoad_17 : decode cX0_isRoad 17 = .ok (.aload_n 0, 1) := by decide +kernel
theorem dX0_isRoad_18 : decode cX0_isRoad 18 = .ok (.getfield 15, 3) := by decide +kernel
theorem dX0_isRoad_21 : decode cX0_isRoad 21 = .ok (.if_icmp .ge 7, 3) := by decide +kernel
theorem dX0_isRoad_24 : decode cX0_isRoad 24 = .ok (.iconst 1, 1) := by decide +kernel
theorem dX0_isRoad_25 : decode cX0_isRoad 25 = .ok (.goto 4, 3) := by decide +kernel
theorem dX0_isRoad_28 : decode cX0_isRoad 28 = .ok (.iconst 0, 1) := by decide +kernel
theorem dX0_isRoad_29 : decode cX0_isRoad 29 = .ok (.ireturn, 1) := by decide +kernel
theorem dX0_row_0 : decode cX0_row 0 = .ok (.iload_n 1, 1) := by decide +kernel
theorem dX0_row_1 : decode cX0_row 1 = .ok (.ifCond .ne 19, 3) := by decide +kernel
theorem dX0_row_4 : decode cX0_row 4 = .ok (.iload_n 2, 1) := by decide +kernel
theorem dX0_row_5 : decode cX0_row 5 = .ok (.ifCond .ne 10, 3) := by decide +kernel
theorem dX0_row_8 : decode cX0_row 8 = .ok (.aload_n 0, 1) := by decide +kernel
theorem dX0_row_9 : decode cX0_row 9 = .ok (.getfield 18, 3) := by decide +kernel
theorem dX0_row_12 : decode cX0_row 12 = .ok (.goto 7, 3) := by decide +kernel
theorem dX0_row_15 : decode cX0_row 15 = .ok (.aload_n 0, 1) := by decide +kernel
theorem dX0_row_16 : decode cX0_row 16 = .ok (.getfield 22, 3) := by decide +kernel
theorem dX0_row_19 : decode cX0_row 19 = .ok (.areturn, 1) := by decide +kernel
theorem dX0_row_20 : decode cX0_row 20 = .ok (.iload_n 2, 1) := by decide +kernel
theorem dX0_row_21 : decode cX0_row 21 = .ok (.ifCond .ne 10, 3) := by decide +kernel
theorem dX0_row_24 : decode cX0_row 24 = .ok (.aload_n 0, 1) := by decide +kernel
theorem dX0_row_25 : decode cX0_row 25 = .ok (.getfield 25, 3) := by decide +kernel
theorem dX0_row_28 : decode cX0_row 28 = .ok (.goto 7, 3) := by decide +kernel
theorem dX0_row_31 : decode cX0_row 31 = .ok (.aload_n 0, 1) := by decide +kernel
theorem dX0_row_32 : decode cX0_row 32 = .ok (.getfield 28, 3) := by decide +kernel
theorem dX0_row_35 : decode cX0_row 35 = .ok (.areturn, 1) := by decide +kernel
theorem dX0_costOf_0 : decode cX0_costOf 0 = .ok (.aload_n 0, 1) := by decide +kernel
theorem dX0_costOf_1 : decode cX0_costOf 1 = .ok (.iload_n 1, 1) := by decide +kernel
theorem dX0_costOf_2 : decode cX0_costOf 2 = .ok (.iload_n 2, 1) := by decide +kernel
theorem dX0_costOf_3 : decode cX0_costOf 3 = .ok (.invokevirtual 49, 3) := by decide +kernel
theorem dX0_costOf_6 : decode cX0_costOf 6 = .ok (.ifCond .ne 5, 3) := by decide +kernel
theorem dX0_costOf_9 : decode cX0_costOf 9 = .ok (.iconst 0, 1) := by decide +kernel
theorem dX0_costOf_10 : decode cX0_costOf 10 = .ok (.ireturn, 1) := by decide +kernel
theorem dX0_costOf_11 : decode cX0_costOf 11 = .ok (.aload_n 0, 1) := by decide +kernel
theorem dX0_costOf_12 : decode cX0_costOf 12 = .ok (.getfield 34, 3) := by decide +kernel
theorem dX0_costOf_15 : decode cX0_costOf 15 = .ok (.iload_n 1, 1) := by decide +kernel
theorem dX0_costOf_16 : decode cX0_costOf 16 = .ok (.iload_n 2, 1) := by decide +kernel
theorem dX0_costOf_17 : decode cX0_costOf 17 = .ok (.invokestatic 53, 3) := by decide +kernel
theorem dX0_costOf_20 : decode cX0_costOf 20 = .ok (.iaload, 1) := by decide +kernel
theorem dX0_costOf_21 : decode cX0_costOf 21 = .ok (.istore_n 3, 1) := by decide +kernel
theorem dX0_costOf_22 : decode cX0_costOf 22 = .ok (.iload_n 3, 1) := by decide +kernel
theorem dX0_costOf_23 : decode cX0_costOf 23 = .ok (.aload_n 0, 1) := by decide +kernel
theorem dX0_costOf_24 : decode cX0_costOf 24 = .ok (.getfield 22, 3) := by decide +kernel
theorem dX0_costOf_27 : decode cX0_costOf 27 = .ok (.iload_n 1, 1) := by decide +kernel
theorem dX0_costOf_28 : decode cX0_costOf 28 = .ok (.iaload, 1) := by decide +kernel
theorem dX0_costOf_29 : decode cX0_costOf 29 = .ok (.iadd, 1) := by decide +kernel
theorem dX0_costOf_30 : decode cX0_costOf 30 = .ok (.istore 4, 2) := by decide +kernel
theorem dX0_costOf_32 : decode cX0_costOf 32 = .ok (.aload_n 0, 1) := by decide +kernel
theorem dX0_costOf_33 : decode cX0_costOf 33 = .ok (.getfield 31, 3) := by decide +kernel
theorem dX0_costOf_36 : decode cX0_costOf 36 = .ok (.iload_n 1, 1) := by decide +kernel
theorem dX0_costOf_37 : decode cX0_costOf 37 = .ok (.iload_n 2, 1) := by decide +kernel
theorem dX0_costOf_38 : decode cX0_costOf 38 = .ok (.invokestatic 53, 3) := by decide +kernel
theorem dX0_costOf_41 : decode cX0_costOf 41 = .ok (.iaload, 1) := by decide +kernel
theorem dX0_costOf_42 : decode cX0_costOf 42 = .ok (.tableswitch 43 0 2 #[26, 28, 31], 26) := by decide +kernel
theorem dX0_costOf_68 : decode cX0_costOf 68 = .ok (.iload_n 3, 1) := by decide +kernel
theorem dX0_costOf_69 : decode cX0_costOf 69 = .ok (.ireturn, 1) := by decide +kernel
theorem dX0_costOf_70 : decode cX0_costOf 70 = .ok (.iload 4, 2) := by decide +kernel
theorem dX0_costOf_72 : decode cX0_costOf 72 = .ok (.ireturn, 1) := by decide +kernel
theorem dX0_costOf_73 : decode cX0_costOf 73 = .ok (.iconst 2, 1) := by decide +kernel
theorem dX0_costOf_74 : decode cX0_costOf 74 = .ok (.iload 4, 2) := by decide +kernel
theorem dX0_costOf_76 : decode cX0_costOf 76 = .ok (.imul, 1) := by decide +kernel
theorem dX0_costOf_77 : decode cX0_costOf 77 = .ok (.aload_n 0, 1) := by decide +kernel
theorem dX0_costOf_78 : decode cX0_costOf 78 = .ok (.getfield 28, 3) := by decide +kernel
theorem dX0_costOf_81 : decode cX0_costOf 81 = .ok (.iload_n 2, 1) := by decide +kernel
theorem dX0_costOf_82 : decode cX0_costOf 82 = .ok (.iaload, 1) := by decide +kernel
theorem dX0_costOf_83 : decode cX0_costOf 83 = .ok (.iadd, 1) := by decide +kernel
theorem dX0_costOf_84 : decode cX0_costOf 84 = .ok (.ireturn, 1) := by decide +kernel
theorem dX0_costOf_85 : decode cX0_costOf 85 = .ok (.sipush 1000, 3) := by decide +kernel
theorem dX0_costOf_88 : decode cX0_costOf 88 = .ok (.ireturn, 1) := by decide +kernel
theorem dX0_allStones_0 : decode cX0_allStones 0 = .ok (.iconst 0, 1) := by decide +kernel
theorem dX0_allStones_1 : decode cX0_allStones 1 = .ok (.istore_n 1, 1) := by decide +kernel
theorem dX0_allStones_2 : decode cX0_allStones 2 = .ok (.iconst 0, 1) := by decide +kernel
theorem dX0_allStones_3 : decode cX0_allStones 3 = .ok (.istore_n 2, 1) := by decide +kernel
theorem dX0_allStones_4 : decode cX0_allStones 4 = .ok (.iload_n 2, 1) := by decide +kernel
theorem dX0_allStones_5 : decode cX0_allStones 5 = .ok (.aload_n 0, 1) := by decide +kernel
theorem dX0_allStones_6 : decode cX0_allStones 6 = .ok (.getfield 9, 3) := by decide +kernel
theorem dX0_allStones_9 : decode cX0_allStones 9 = .ok (.if_icmp .ge 18, 3) := by decide +kernel
theorem dX0_allStones_12 : decode cX0_allStones 12 = .ok (.iload_n 1, 1) := by decide +kernel
theorem dX0_allStones_13 : decode cX0_allStones 13 = .ok (.aload_n 0, 1) := by decide +kernel
theorem dX0_allStones_14 : decode cX0_allStones 14 = .ok (.getfield 18, 3) := by decide +kernel
theorem dX0_allStones_17 : decode cX0_allStones 17 = .ok (.iload_n 2, 1) := by decide +kernel
theorem dX0_allStones_18 : decode cX0_allStones 18 = .ok (.iaload, 1) := by decide +kernel
theorem dX0_allStones_19 : decode cX0_allStones 19 = .ok (.iadd, 1) := by decide +kernel
theorem dX0_allStones_20 : decode cX0_allStones 20 = .ok (.istore_n 1, 1) := by decide +kernel
theorem dX0_allStones_21 : decode cX0_allStones 21 = .ok (.iinc 2 1, 3) := by decide +kernel
theorem dX0_allStones_24 : decode cX0_allStones 24 = .ok (.goto (-20), 3) := by decide +kernel
theorem dX0_allStones_27 : decode cX0_allStones 27 = .ok (.iload_n 1, 1) := by decide +kernel
theorem dX0_allStones_28 : decode cX0_allStones 28 = .ok (.ireturn, 1) := by decide +kernel
theorem dX0_allWants_0 : decode cX0_allWants 0 = .ok (.iconst 0, 1) := by decide +kernel
theorem dX0_allWants_1 : decode cX0_allWants 1 = .ok (.istore_n 1, 1) := by decide +kernel
theorem dX0_allWants_2 : decode cX0_allWants 2 = .ok (.iconst 0, 1) := by decide +kernel
theorem dX0_allWants_3 : decode cX0_allWants 3 = .ok (.istore_n 2, 1) := by decide +kernel
theorem dX0_allWants_4 : decode cX0_allWants 4 = .ok (.iload_n 2, 1) := by decide +kernel
theorem dX0_allWants_5 : decode cX0_allWants 5 = .ok (.aload_n 0, 1) := by decide +kernel
theorem dX0_allWants_6 : decode cX0_allWants 6 = .ok (.getfield 15, 3) := by decide +kernel
theorem dX0_allWants_9 : decode cX0_allWants 9 = .ok (.if_icmp .ge 18, 3) := by decide +kernel
theorem dX0_allWants_12 : decode cX0_allWants 12 = .ok (.iload_n 1, 1) := by decide +kernel
theorem dX0_allWants_13 : decode cX0_allWants 13 = .ok (.aload_n 0, 1) := by decide +kernel
theorem dX0_allWants_14 : decode cX0_allWants 14 = .ok (.getfield 25, 3) := by decide +kernel
theorem dX0_allWants_17 : decode cX0_allWants 17 = .ok (.iload_n 2, 1) := by decide +kernel
theorem dX0_allWants_18 : decode cX0_allWants 18 = .ok (.iaload, 1) := by decide +kernel
theorem dX0_allWants_19 : decode cX0_allWants 19 = .ok (.iadd, 1) := by decide +kernel
theorem dX0_allWants_20 : decode cX0_allWants 20 = .ok (.istore_n 1, 1) := by decide +kernel
theorem dX0_allWants_21 : decode cX0_allWants 21 = .ok (.iinc 2 1, 3) := by decide +kernel
theorem dX0_allWants_24 : decode cX0_allWants 24 = .ok (.goto (-20), 3) := by decide +kernel
theorem dX0_allWants_27 : decode cX0_allWants 27 = .ok (.iload_n 1, 1) := by decide +kernel
theorem dX0_allWants_28 : decode cX0_allWants 28 = .ok (.ireturn, 1) := by decide +kernel
theorem dX0_shutRoad_0 : decode cX0_shutRoad 0 = .ok (.aload_n 0, 1) := by decide +kernel
theorem dX0_shutRoad_1 : decode cX0_shutRoad 1 = .ok (.iload_n 1, 1) := by decide +kernel
theorem dX0_shutRoad_2 : decode cX0_shutRoad 2 = .ok (.iload_n 2, 1) := by decide +kernel
theorem dX0_shutRoad_3 : decode cX0_shutRoad 3 = .ok (.invokevirtual 49, 3) := by decide +kernel
theorem dX0_shutRoad_6 : decode cX0_shutRoad 6 = .ok (.ifCond .eq 17, 3) := by decide +kernel
theorem dX0_shutRoad_9 : decode cX0_shutRoad 9 = .ok (.aload_n 0, 1) := by decide +kernel
theorem dX0_shutRoad_10 : decode cX0_shutRoad 10 = .ok (.getfield 31, 3) := by decide +kernel
theorem dX0_shutRoad_13 : decode cX0_shutRoad 13 = .ok (.iload_n 1, 1) := by decide +kernel
theorem dX0_shutRoad_14 : decode cX0_shutRoad 14 = .ok (.iload_n 2, 1) := by decide +kernel
theorem dX0_shutRoad_15 : decode cX0_shutRoad 15 = .ok (.invokestatic 53, 3) := by decide +kernel
theorem dX0_shutRoad_18 : decode cX0_shutRoad 18 = .ok (.iaload, 1) := by decide +kernel
theorem dX0_shutRoad_19 : decode cX0_shutRoad 19 = .ok (.iconst 3, 1) := by decide +kernel
theorem dX0_shutRoad_20 : decode cX0_shutRoad 20 = .ok (.if_icmp .ne 5, 3) := by decide +kernel
theorem dX0_shutRoad_23 : decode cX0_shutRoad 23 = .ok (.iconst 0, 1) := by decide +kernel
theorem dX0_shutRoad_24 : decode cX0_shutRoad 24 = .ok (.ireturn, 1) := by decide +kernel
theorem dX0_shutRoad_25 : decode cX0_shutRoad 25 = .ok (.aload_n 0, 1) := by decide +kernel
theorem dX0_shutRoad_26 : decode cX0_shutRoad 26 = .ok (.getfield 31, 3) := by decide +kernel
theorem dX0_shutRoad_29 : decode cX0_shutRoad 29 = .ok (.iload_n 1, 1) := by decide +kernel
theorem dX0_shutRoad_30 : decode cX0_shutRoad 30 = .ok (.iload_n 2, 1) := by decide +kernel
theorem dX0_shutRoad_31 : decode cX0_shutRoad 31 = .ok (.invokestatic 53, 3) := by decide +kernel
theorem dX0_shutRoad_34 : decode cX0_shutRoad 34 = .ok (.iconst 3, 1) := by decide +kernel
theorem dX0_shutRoad_35 : decode cX0_shutRoad 35 = .ok (.iastore, 1) := by decide +kernel
theorem dX0_shutRoad_36 : decode cX0_shutRoad 36 = .ok (.iconst 1, 1) := by decide +kernel
theorem dX0_shutRoad_37 : decode cX0_shutRoad 37 = .ok (.ireturn, 1) := by decide +kernel
theorem dX0_shutRoads_0 : decode cX0_shutRoads 0 = .ok (.iconst 0, 1) := by decide +kernel
theorem dX0_shutRoads_1 : decode cX0_shutRoads 1 = .ok (.istore_n 1, 1) := by decide +kernel
theorem dX0_shutRoads_2 : decode cX0_shutRoads 2 = .ok (.iconst 0, 1) := by decide +kernel
theorem dX0_shutRoads_3 : decode cX0_shutRoads 3 = .ok (.istore_n 2, 1) := by decide +kernel
theorem dX0_shutRoads_4 : decode cX0_shutRoads 4 = .ok (.iload_n 2, 1) := by decide +kernel
theorem dX0_shutRoads_5 : decode cX0_shutRoads 5 = .ok (.aload_n 0, 1) := by decide +kernel
theorem dX0_shutRoads_6 : decode cX0_shutRoads 6 = .ok (.getfield 9, 3) := by decide +kernel
theorem dX0_shutRoads_9 : decode cX0_shutRoads 9 = .ok (.if_icmp .ge 47, 3) := by decide +kernel
theorem dX0_shutRoads_12 : decode cX0_shutRoads 12 = .ok (.iconst 0, 1) := by decide +kernel
theorem dX0_shutRoads_13 : decode cX0_shutRoads 13 = .ok (.istore_n 3, 1) := by decide +kernel
theorem dX0_shutRoads_14 : decode cX0_shutRoads 14 = .ok (.iload_n 3, 1) := by decide +kernel
theorem dX0_shutRoads_15 : decode cX0_shutRoads 15 = .ok (.aload_n 0, 1) := by decide +kernel
theorem dX0_shutRoads_16 : decode cX0_shutRoads 16 = .ok (.getfield 15, 3) := by decide +kernel
theorem dX0_shutRoads_19 : decode cX0_shutRoads 19 = .ok (.if_icmp .ge 31, 3) := by decide +kernel
theorem dX0_shutRoads_22 : decode cX0_shutRoads 22 = .ok (.iload_n 1, 1) := by decide +kernel
theorem dX0_shutRoads_23 : decode cX0_shutRoads 23 = .ok (.aload_n 0, 1) := by decide +kernel
theorem dX0_shutRoads_24 : decode cX0_shutRoads 24 = .ok (.getfield 31, 3) := by decide +kernel
theorem dX0_shutRoads_27 : decode cX0_shutRoads 27 = .ok (.iload_n 2, 1) := by decide +kernel
theorem dX0_shutRoads_28 : decode cX0_shutRoads 28 = .ok (.iload_n 3, 1) := by decide +kernel
theorem dX0_shutRoads_29 : decode cX0_shutRoads 29 = .ok (.invokestatic 53, 3) := by decide +kernel
theorem dX0_shutRoads_32 : decode cX0_shutRoads 32 = .ok (.iaload, 1) := by decide +kernel
theorem dX0_shutRoads_33 : decode cX0_shutRoads 33 = .ok (.iconst 3, 1) := by decide +kernel
theorem dX0_shutRoads_34 : decode cX0_shutRoads 34 = .ok (.if_icmp .ne 7, 3) := by decide +kernel
theorem dX0_shutRoads_37 : decode cX0_shutRoads 37 = .ok (.iconst 1, 1) := by decide +kernel
theorem dX0_shutRoads_38 : decode cX0_shutRoads 38 = .ok (.goto 4, 3) := by decide +kernel
theorem dX0_shutRoads_41 : decode cX0_shutRoads 41 = .ok (.iconst 0, 1) := by decide +kernel
theorem dX0_shutRoads_42 : decode cX0_shutRoads 42 = .ok (.iadd, 1) := by decide +kernel
theorem dX0_shutRoads_43 : decode cX0_shutRoads 43 = .ok (.istore_n 1, 1) := by decide +kernel
theorem dX0_shutRoads_44 : decode cX0_shutRoads 44 = .ok (.iinc 3 1, 3) := by decide +kernel
theorem dX0_shutRoads_47 : decode cX0_shutRoads 47 = .ok (.goto (-33), 3) := by decide +kernel
theorem dX0_shutRoads_50 : decode cX0_shutRoads 50 = .ok (.iinc 2 1, 3) := by decide +kernel
theorem dX0_shutRoads_53 : decode cX0_shutRoads 53 = .ok (.goto (-49), 3) := by decide +kernel
theorem dX0_shutRoads_56 : decode cX0_shutRoads 56 = .ok (.iload_n 1, 1) := by decide +kernel
theorem dX0_shutRoads_57 : decode cX0_shutRoads 57 = .ok (.ireturn, 1) := by decide +kernel
theorem dX0_happen_0 : decode cX0_happen 0 = .ok (.iload_n 1, 1) := by decide +kernel
theorem dX0_happen_1 : decode cX0_happen 1 = .ok (.ifCond .ne 34, 3) := by decide +kernel
theorem dX0_happen_4 : decode cX0_happen 4 = .ok (.aload_n 0, 1) := by decide +kernel
theorem dX0_happen_5 : decode cX0_happen 5 = .ok (.iconst 0, 1) := by decide +kernel
theorem dX0_happen_6 : decode cX0_happen 6 = .ok (.iload_n 2, 1) := by decide +kernel
theorem dX0_happen_7 : decode cX0_happen 7 = .ok (.invokevirtual 57, 3) := by decide +kernel
theorem dX0_happen_10 : decode cX0_happen 10 = .ok (.ifCond .eq 25, 3) := by decide +kernel
theorem dX0_happen_13 : decode cX0_happen 13 = .ok (.aload_n 0, 1) := by decide +kernel
theorem dX0_happen_14 : decode cX0_happen 14 = .ok (.getfield 18, 3) := by decide +kernel
theorem dX0_happen_17 : decode cX0_happen 17 = .ok (.iload_n 2, 1) := by decide +kernel
theorem dX0_happen_18 : decode cX0_happen 18 = .ok (.bipush 99, 2) := by decide +kernel
theorem dX0_happen_20 : decode cX0_happen 20 = .ok (.aload_n 0, 1) := by decide +kernel
theorem dX0_happen_21 : decode cX0_happen 21 = .ok (.getfield 18, 3) := by decide +kernel
theorem dX0_happen_24 : decode cX0_happen 24 = .ok (.iload_n 2, 1) := by decide +kernel
theorem dX0_happen_25 : decode cX0_happen 25 = .ok (.iaload, 1) := by decide +kernel
theorem dX0_happen_26 : decode cX0_happen 26 = .ok (.iconst 1, 1) := by decide +kernel
theorem dX0_happen_27 : decode cX0_happen 27 = .ok (.iadd, 1) := by decide +kernel
theorem dX0_happen_28 : decode cX0_happen 28 = .ok (.invokestatic 60, 3) := by decide +kernel
theorem dX0_happen_31 : decode cX0_happen 31 = .ok (.iastore, 1) := by decide +kernel
theorem dX0_happen_32 : decode cX0_happen 32 = .ok (.goto 81, 3) := by decide +kernel
theorem dX0_happen_35 : decode cX0_happen 35 = .ok (.iload_n 1, 1) := by decide +kernel
theorem dX0_happen_36 : decode cX0_happen 36 = .ok (.iconst 1, 1) := by decide +kernel
theorem dX0_happen_37 : decode cX0_happen 37 = .ok (.if_icmp .ne 34, 3) := by decide +kernel
theorem dX0_happen_40 : decode cX0_happen 40 = .ok (.aload_n 0, 1) := by decide +kernel
theorem dX0_happen_41 : decode cX0_happen 41 = .ok (.iconst 1, 1) := by decide +kernel
theorem dX0_happen_42 : decode cX0_happen 42 = .ok (.iload_n 2, 1) := by decide +kernel
theorem dX0_happen_43 : decode cX0_happen 43 = .ok (.invokevirtual 57, 3) := by decide +kernel
theorem dX0_happen_46 : decode cX0_happen 46 = .ok (.ifCond .eq 25, 3) := by decide +kernel
theorem dX0_happen_49 : decode cX0_happen 49 = .ok (.aload_n 0, 1) := by decide +kernel
theorem dX0_happen_50 : decode cX0_happen 50 = .ok (.getfield 25, 3) := by decide +kernel
theorem dX0_happen_53 : decode cX0_happen 53 = .ok (.iload_n 2, 1) := by decide +kernel
theorem dX0_happen_54 : decode cX0_happen 54 = .ok (.bipush 99, 2) := by decide +kernel
theorem dX0_happen_56 : decode cX0_happen 56 = .ok (.aload_n 0, 1) := by decide +kernel
theorem dX0_happen_57 : decode cX0_happen 57 = .ok (.getfield 25, 3) := by decide +kernel
theorem dX0_happen_60 : decode cX0_happen 60 = .ok (.iload_n 2, 1) := by decide +kernel
theorem dX0_happen_61 : decode cX0_happen 61 = .ok (.iaload, 1) := by decide +kernel
theorem dX0_happen_62 : decode cX0_happen 62 = .ok (.iconst 1, 1) := by decide +kernel
theorem dX0_happen_63 : decode cX0_happen 63 = .ok (.iadd, 1) := by decide +kernel
theorem dX0_happen_64 : decode cX0_happen 64 = .ok (.invokestatic 60, 3) := by decide +kernel
theorem dX0_happen_67 : decode cX0_happen 67 = .ok (.iastore, 1) := by decide +kernel
theorem dX0_happen_68 : decode cX0_happen 68 = .ok (.goto 45, 3) := by decide +kernel
theorem dX0_happen_71 : decode cX0_happen 71 = .ok (.iload_n 1, 1) := by decide +kernel
theorem dX0_happen_72 : decode cX0_happen 72 = .ok (.iconst 2, 1) := by decide +kernel
theorem dX0_happen_73 : decode cX0_happen 73 = .ok (.if_icmp .ne 19, 3) := by decide +kernel
theorem dX0_happen_76 : decode cX0_happen 76 = .ok (.aload_n 0, 1) := by decide +kernel
theorem dX0_happen_77 : decode cX0_happen 77 = .ok (.iload_n 2, 1) := by decide +kernel
theorem dX0_happen_78 : decode cX0_happen 78 = .ok (.bipush 10, 2) := by decide +kernel
theorem dX0_happen_80 : decode cX0_happen 80 = .ok (.idiv, 1) := by decide +kernel
theorem dX0_happen_81 : decode cX0_happen 81 = .ok (.iload_n 2, 1) := by decide +kernel
theorem dX0_happen_82 : decode cX0_happen 82 = .ok (.bipush 10, 2) := by decide +kernel
theorem dX0_happen_84 : decode cX0_happen 84 = .ok (.irem, 1) := by decide +kernel
theorem dX0_happen_85 : decode cX0_happen 85 = .ok (.invokevirtual 65, 3) := by decide +kernel
theorem dX0_happen_88 : decode cX0_happen 88 = .ok (.pop, 1) := by decide +kernel
theorem dX0_happen_89 : decode cX0_happen 89 = .ok (.goto 24, 3) := by decide +kernel
theorem dX0_happen_92 : decode cX0_happen 92 = .ok (.iload_n 1, 1) := by decide +kernel
theorem dX0_happen_93 : decode cX0_happen 93 = .ok (.iconst 3, 1) := by decide +kernel
theorem dX0_happen_94 : decode cX0_happen 94 = .ok (.if_icmp .ne 19, 3) := by decide +kernel
theorem dX0_happen_97 : decode cX0_happen 97 = .ok (.aload_n 0, 1) := by decide +kernel
theorem dX0_happen_98 : decode cX0_happen 98 = .ok (.iconst 0, 1) := by decide +kernel
theorem dX0_happen_99 : decode cX0_happen 99 = .ok (.iload_n 2, 1) := by decide +kernel
theorem dX0_happen_100 : decode cX0_happen 100 = .ok (.invokevirtual 57, 3) := by decide +kernel
theorem dX0_happen_103 : decode cX0_happen 103 = .ok (.ifCond .eq 10, 3) := by decide +kernel
theorem dX0_happen_106 : decode cX0_happen 106 = .ok (.aload_n 0, 1) := by decide +kernel
theorem dX0_happen_107 : decode cX0_happen 107 = .ok (.getfield 22, 3) := by decide +kernel
theorem dX0_happen_110 : decode cX0_happen 110 = .ok (.iload_n 2, 1) := by decide +kernel
theorem dX0_happen_111 : decode cX0_happen 111 = .ok (.iconst 0, 1) := by decide +kernel
theorem dX0_happen_112 : decode cX0_happen 112 = .ok (.iastore, 1) := by decide +kernel
theorem dX0_happen_113 : decode cX0_happen 113 = .ok (.return_, 1) := by decide +kernel
theorem dX1_init_0 : decode cX1_init 0 = .ok (.aload_n 0, 1) := by decide +kernel
theorem dX1_init_1 : decode cX1_init 1 = .ok (.invokespecial 3, 3) := by decide +kernel
theorem dX1_init_4 : decode cX1_init 4 = .ok (.aload_n 0, 1) := by decide +kernel
theorem dX1_init_5 : decode cX1_init 5 = .ok (.iconst 0, 1) := by decide +kernel
theorem dX1_init_6 : decode cX1_init 6 = .ok (.putfield 9, 3) := by decide +kernel
theorem dX1_init_9 : decode cX1_init 9 = .ok (.aload_n 0, 1) := by decide +kernel
theorem dX1_init_10 : decode cX1_init 10 = .ok (.bipush 12, 2) := by decide +kernel
theorem dX1_init_12 : decode cX1_init 12 = .ok (.newarray .int, 2) := by decide +kernel
theorem dX1_init_14 : decode cX1_init 14 = .ok (.putfield 15, 3) := by decide +kernel
theorem dX1_init_17 : decode cX1_init 17 = .ok (.aload_n 0, 1) := by decide +kernel
theorem dX1_init_18 : decode cX1_init 18 = .ok (.bipush 6, 2) := by decide +kernel
theorem dX1_init_20 : decode cX1_init 20 = .ok (.newarray .int, 2) := by decide +kernel
theorem dX1_init_22 : decode cX1_init 22 = .ok (.putfield 19, 3) := by decide +kernel
theorem dX1_init_25 : decode cX1_init 25 = .ok (.aload_n 0, 1) := by decide +kernel
theorem dX1_init_26 : decode cX1_init 26 = .ok (.bipush 6, 2) := by decide +kernel
theorem dX1_init_28 : decode cX1_init 28 = .ok (.newarray .int, 2) := by decide +kernel
theorem dX1_init_30 : decode cX1_init 30 = .ok (.putfield 22, 3) := by decide +kernel
theorem dX1_init_33 : decode cX1_init 33 = .ok (.return_, 1) := by decide +kernel
theorem dX1_follow_0 : decode cX1_follow 0 = .ok (.iload_n 1, 1) := by decide +kernel
theorem dX1_follow_1 : decode cX1_follow 1 = .ok (.bipush 6, 2) := by decide +kernel
theorem dX1_follow_3 : decode cX1_follow 3 = .ok (.idiv, 1) := by decide +kernel
theorem dX1_follow_4 : decode cX1_follow 4 = .ok (.istore_n 3, 1) := by decide +kernel
theorem dX1_follow_5 : decode cX1_follow 5 = .ok (.aload_n 0, 1) := by decide +kernel
theorem dX1_follow_6 : decode cX1_follow 6 = .ok (.iload_n 3, 1) := by decide +kernel
theorem dX1_follow_7 : decode cX1_follow 7 = .ok (.aload_n 2, 1) := by decide +kernel
theorem dX1_follow_8 : decode cX1_follow 8 = .ok (.invokevirtual 25, 3) := by decide +kernel
theorem dX1_follow_11 : decode cX1_follow 11 = .ok (.aload_n 0, 1) := by decide +kernel
theorem dX1_follow_12 : decode cX1_follow 12 = .ok (.iconst 0, 1) := by decide +kernel
theorem dX1_follow_13 : decode cX1_follow 13 = .ok (.putfield 9, 3) := by decide +kernel
theorem dX1_follow_16 : decode cX1_follow 16 = .ok (.aload_n 0, 1) := by decide +kernel
theorem dX1_follow_17 : decode cX1_follow 17 = .ok (.iload_n 1, 1) := by decide +kernel
theorem dX1_follow_18 : decode cX1_follow 18 = .ok (.invokevirtual 29, 3) := by decide +kernel
theorem dX1_follow_21 : decode cX1_follow 21 = .ok (.iload_n 1, 1) := by decide +kernel
theorem dX1_follow_22 : decode cX1_follow 22 = .ok (.bipush 6, 2) := by decide +kernel
theorem dX1_follow_24 : decode cX1_follow 24 = .ok (.irem, 1) := by decide +kernel
theorem dX1_follow_25 : decode cX1_follow 25 = .ok (.istore 4, 2) := by decide +kernel
theorem dX1_follow_27 : decode cX1_follow 27 = .ok (.iconst 0, 1) := by decide +kernel
theorem dX1_follow_28 : decode cX1_follow 28 = .ok (.istore 5, 2) := by decide +kernel
theorem dX1_follow_30 : decode cX1_follow 30 = .ok (.iload 5, 2) := by decide +kernel
theorem dX1_follow_32 : decode cX1_follow 32 = .ok (.bipush 6, 2) := by decide +kernel
theorem dX1_follow_34 : decode cX1_follow 34 = .ok (.if_icmp .ge 76, 3) := by decide +kernel
theorem dX1_follow_37 : decode cX1_follow 37 = .ok (.aload_n 0, 1) := by decide +kernel
theorem dX1_follow_38 : decode cX1_follow 38 = .ok (.getfield 22, 3) := by decide +kernel
theorem dX1_follow_41 : decode cX1_follow 41 = .ok (.iload 4, 2) := by decide +kernel
theorem dX1_follow_43 : decode cX1_follow 43 = .ok (.iaload, 1) := by decide +kernel
theorem dX1_follow_44 : decode cX1_follow 44 = .ok (.ifCond .lt 66, 3) := by decide +kernel
theorem dX1_follow_47 : decode cX1_follow 47 = .ok (.aload_n 0, 1) := by decide +kernel
theorem dX1_follow_48 : decode cX1_follow 48 = .ok (.getfield 22, 3) := by decide +kernel
theorem dX1_follow_51 : decode cX1_follow 51 = .ok (.iload 4, 2) := by decide +kernel
theorem dX1_follow_53 : decode cX1_follow 53 = .ok (.iaload, 1) := by decide +kernel
theorem dX1_follow_54 : decode cX1_follow 54 = .ok (.istore 6, 2) := by decide +kernel
theorem dX1_follow_56 : decode cX1_follow 56 = .ok (.aload_n 0, 1) := by decide +kernel
theorem dX1_follow_57 : decode cX1_follow 57 = .ok (.iload 6, 2) := by decide +kernel
theorem dX1_follow_59 : decode cX1_follow 59 = .ok (.iload 4, 2) := by decide +kernel
theorem dX1_follow_61 : decode cX1_follow 61 = .ok (.invokestatic 33, 3) := by decide +kernel
theorem dX1_follow_64 : decode cX1_follow 64 = .ok (.invokevirtual 29, 3) := by decide +kernel
theorem dX1_follow_67 : decode cX1_follow 67 = .ok (.iload 6, 2) := by decide +kernel
theorem dX1_follow_69 : decode cX1_follow 69 = .ok (.iload_n 3, 1) := by decide +kernel
theorem dX1_follow_70 : decode cX1_follow 70 = .ok (.if_icmp .eq 13, 3) := by decide +kernel
theorem dX1_follow_73 : decode cX1_follow 73 = .ok (.aload_n 0, 1) := by decide +kernel
theorem dX1_follow_74 : decode cX1_follow 74 = .ok (.getfield 19, 3) := by decide +kernel
theorem dX1_follow_77 : decode cX1_follow 77 = .ok (.iload 6, 2) := by decide +kernel
theorem dX1_follow_79 : decode cX1_follow 79 = .ok (.iaload, 1) := by decide +kernel
theorem dX1_follow_80 : decode cX1_follow 80 = .ok (.ifCond .ge 4, 3) := by decide +kernel
theorem dX1_follow_83 : decode cX1_follow 83 = .ok (.return_, 1) := by decide +kernel
theorem dX1_follow_84 : decode cX1_follow 84 = .ok (.aload_n 0, 1) := by decide +kernel
theorem dX1_follow_85 : decode cX1_follow 85 = .ok (.getfield 19, 3) := by decide +kernel
theorem dX1_follow_88 : decode cX1_follow 88 = .ok (.iload 6, 2) := by decide +kernel
theorem dX1_follow_90 : decode cX1_follow 90 = .ok (.iaload, 1) := by decide +kernel
theorem dX1_follow_91 : decode cX1_follow 91 = .ok (.istore 4, 2) := by decide +kernel
theorem dX1_follow_93 : decode cX1_follow 93 = .ok (.aload_n 0, 1) := by decide +kernel
theorem dX1_follow_94 : decode cX1_follow 94 = .ok (.iload 6, 2) := by decide +kernel
theorem dX1_follow_96 : decode cX1_follow 96 = .ok (.iload 4, 2) := by decide +kernel
theorem dX1_follow_98 : decode cX1_follow 98 = .ok (.invokestatic 33, 3) := by decide +kernel
theorem dX1_follow_101 : decode cX1_follow 101 = .ok (.invokevirtual 29, 3) := by decide +kernel
theorem dX1_follow_104 : decode cX1_follow 104 = .ok (.iinc 5 1, 3) := by decide +kernel
theorem dX1_follow_107 : decode cX1_follow 107 = .ok (.goto (-77), 3) := by decide +kernel
theorem dX1_follow_110 : decode cX1_follow 110 = .ok (.return_, 1) := by decide +kernel
theorem dX1_add_0 : decode cX1_add 0 = .ok (.aload_n 0, 1) := by decide +kernel
theorem dX1_add_1 : decode cX1_add 1 = .ok (.getfield 9, 3) := by decide +kernel
theorem dX1_add_4 : decode cX1_add 4 = .ok (.aload_n 0, 1) := by decide +kernel
theorem dX1_add_5 : decode cX1_add 5 = .ok (.getfield 15, 3) := by decide +kernel
theorem dX1_add_8 : decode cX1_add 8 = .ok (.arraylength, 1) := by decide +kernel
theorem dX1_add_9 : decode cX1_add 9 = .ok (.if_icmp .ge 23, 3) := by decide +kernel
theorem dX1_add_12 : decode cX1_add 12 = .ok (.aload_n 0, 1) := by decide +kernel
theorem dX1_add_13 : decode cX1_add 13 = .ok (.getfield 15, 3) := by decide +kernel
theorem dX1_add_16 : decode cX1_add 16 = .ok (.aload_n 0, 1) := by decide +kernel
theorem dX1_add_17 : decode cX1_add 17 = .ok (.getfield 9, 3) := by decide +kernel
theorem dX1_add_20 : decode cX1_add 20 = .ok (.iload_n 1, 1) := by decide +kernel
theorem dX1_add_21 : decode cX1_add 21 = .ok (.iastore, 1) := by decide +kernel
theorem dX1_add_22 : decode cX1_add 22 = .ok (.aload_n 0, 1) := by decide +kernel
theorem dX1_add_23 : decode cX1_add 23 = .ok (.dup, 1) := by decide +kernel
theorem dX1_add_24 : decode cX1_add 24 = .ok (.getfield 9, 3) := by decide +kernel
theorem dX1_add_27 : decode cX1_add 27 = .ok (.iconst 1, 1) := by decide +kernel
theorem dX1_add_28 : decode cX1_add 28 = .ok (.iadd, 1) := by decide +kernel
theorem dX1_add_29 : decode cX1_add 29 = .ok (.putfield 9, 3) := by decide +kernel
theorem dX1_add_32 : decode cX1_add 32 = .ok (.return_, 1) := by decide +kernel
theorem dX1_pointHome_0 : decode cX1_pointHome 0 = .ok (.iconst 0, 1) := by decide +kernel
theorem dX1_pointHome_1 : decode cX1_pointHome 1 = .ok (.istore_n 3, 1) := by decide +kernel
theorem dX1_pointHome_2 : decode cX1_pointHome 2 = .ok (.iload_n 3, 1) := by decide +kernel
theorem dX1_pointHome_3 : decode cX1_pointHome 3 = .ok (.bipush 6, 2) := by decide +kernel
theorem dX1_pointHome_5 : decode cX1_pointHome 5 = .ok (.if_icmp .ge 23, 3) := by decide +kernel
theorem dX1_pointHome_8 : decode cX1_pointHome 8 = .ok (.aload_n 0, 1) := by decide +kernel
theorem dX1_pointHome_9 : decode cX1_pointHome 9 = .ok (.getfield 19, 3) := by decide +kernel
theorem dX1_pointHome_12 : decode cX1_pointHome 12 = .ok (.iload_n 3, 1) := by decide +kernel
theorem dX1_pointHome_13 : decode cX1_pointHome 13 = .ok (.iconst (-1), 1) := by decide +kernel
theorem dX1_pointHome_14 : decode cX1_pointHome 14 = .ok (.iastore, 1) := by decide +kernel
theorem dX1_pointHome_15 : decode cX1_pointHome 15 = .ok (.aload_n 0, 1) := by decide +kernel
theorem dX1_pointHome_16 : decode cX1_pointHome 16 = .ok (.getfield 22, 3) := by decide +kernel
theorem dX1_pointHome_19 : decode cX1_pointHome 19 = .ok (.iload_n 3, 1) := by decide +kernel
theorem dX1_pointHome_20 : decode cX1_pointHome 20 = .ok (.iconst (-1), 1) := by decide +kernel
theorem dX1_pointHome_21 : decode cX1_pointHome 21 = .ok (.iastore, 1) := by decide +kernel
theorem dX1_pointHome_22 : decode cX1_pointHome 22 = .ok (.iinc 3 1, 3) := by decide +kernel
theorem dX1_pointHome_25 : decode cX1_pointHome 25 = .ok (.goto (-23), 3) := by decide +kernel
theorem dX1_pointHome_28 : decode cX1_pointHome 28 = .ok (.iconst 1, 1) := by decide +kernel
theorem dX1_pointHome_29 : decode cX1_pointHome 29 = .ok (.istore_n 3, 1) := by decide +kernel
theorem dX1_pointHome_30 : decode cX1_pointHome 30 = .ok (.iconst 0, 1) := by decide +kernel
theorem dX1_pointHome_31 : decode cX1_pointHome 31 = .ok (.istore 4, 2) := by decide +kernel
theorem dX1_pointHome_33 : decode cX1_pointHome 33 = .ok (.iload 4, 2) := by decide +kernel
theorem dX1_pointHome_35 : decode cX1_pointHome 35 = .ok (.bipush 12, 2) := by decide +kernel
theorem dX1_pointHome_37 : decode cX1_pointHome 37 = .ok (.if_icmp .ge 126, 3) := by decide +kernel
theorem dX1_pointHome_40 : decode cX1_pointHome 40 = .ok (.iload_n 3, 1) := by decide +kernel
theorem dX1_pointHome_41 : decode cX1_pointHome 41 = .ok (.ifCond .eq 122, 3) := by decide +kernel
theorem dX1_pointHome_44 : decode cX1_pointHome 44 = .ok (.iconst 0, 1) := by decide +kernel
theorem dX1_pointHome_45 : decode cX1_pointHome 45 = .ok (.istore_n 3, 1) := by decide +kernel
theorem dX1_pointHome_46 : decode cX1_pointHome 46 = .ok (.iconst 0, 1) := by decide +kernel
theorem dX1_pointHome_47 : decode cX1_pointHome 47 = .ok (.istore 5, 2) := by decide +kernel
theorem dX1_pointHome_49 : decode cX1_pointHome 49 = .ok (.iload 5, 2) := by decide +kernel
theorem dX1_pointHome_51 : decode cX1_pointHome 51 = .ok (.bipush 36, 2) := by decide +kernel
theorem dX1_pointHome_53 : decode cX1_pointHome 53 = .ok (.if_icmp .ge 104, 3) := by decide +kernel
theorem dX1_pointHome_56 : decode cX1_pointHome 56 = .ok (.iload 5, 2) := by decide +kernel
theorem dX1_pointHome_58 : decode cX1_pointHome 58 = .ok (.bipush 6, 2) := by decide +kernel
theorem dX1_pointHome_60 : decode cX1_pointHome 60 = .ok (.idiv, 1) := by decide +kernel
theorem dX1_pointHome_61 : decode cX1_pointHome 61 = .ok (.istore 6, 2) := by decide +kernel
theorem dX1_pointHome_63 : decode cX1_pointHome 63 = .ok (.iload 5, 2) := by decide +kernel
theorem dX1_pointHome_65 : decode cX1_pointHome 65 = .ok (.bipush 6, 2) := by decide +kernel
theorem dX1_pointHome_67 : decode cX1_pointHome 67 = .ok (.irem, 1) := by decide +kernel
theorem dX1_pointHome_68 : decode cX1_pointHome 68 = .ok (.istore 7, 2) := by decide +kernel
theorem dX1_pointHome_70 : decode cX1_pointHome 70 = .ok (.iload 6, 2) := by decide +kernel
theorem dX1_pointHome_72 : decode cX1_pointHome 72 = .ok (.iload_n 1, 1) := by decide +kernel
theorem dX1_pointHome_73 : decode cX1_pointHome 73 = .ok (.if_icmp .eq 13, 3) := by decide +kernel
theorem dX1_pointHome_76 : decode cX1_pointHome 76 = .ok (.aload_n 0, 1) := by decide +kernel
theorem dX1_pointHome_77 : decode cX1_pointHome 77 = .ok (.getfield 19, 3) := by decide +kernel
theorem dX1_pointHome_80 : decode cX1_pointHome 80 = .ok (.iload 6, 2) := by decide +kernel
theorem dX1_pointHome_82 : decode cX1_pointHome 82 = .ok (.iaload, 1) := by decide +kernel
theorem dX1_pointHome_83 : decode cX1_pointHome 83 = .ok (.ifCond .lt 7, 3) := by decide +kernel
theorem dX1_pointHome_86 : decode cX1_pointHome 86 = .ok (.iconst 1, 1) := by decide +kernel
theorem dX1_pointHome_87 : decode cX1_pointHome 87 = .ok (.goto 4, 3) := by decide +kernel
theorem dX1_pointHome_90 : decode cX1_pointHome 90 = .ok (.iconst 0, 1) := by decide +kernel
theorem dX1_pointHome_91 : decode cX1_pointHome 91 = .ok (.istore 8, 2) := by decide +kernel
theorem dX1_pointHome_93 : decode cX1_pointHome 93 = .ok (.aload_n 2, 1) := by decide +kernel
theorem dX1_pointHome_94 : decode cX1_pointHome 94 = .ok (.iload 5, 2) := by decide +kernel
theorem dX1_pointHome_96 : decode cX1_pointHome 96 = .ok (.baload, 1) := by decide +kernel
theorem dX1_pointHome_97 : decode cX1_pointHome 97 = .ok (.ifCond .eq 54, 3) := by decide +kernel
theorem dX1_pointHome_100 : decode cX1_pointHome 100 = .ok (.iload 8, 2) := by decide +kernel
theorem dX1_pointHome_102 : decode cX1_pointHome 102 = .ok (.aload_n 0, 1) := by decide +kernel
theorem dX1_pointHome_103 : decode cX1_pointHome 103 = .ok (.getfield 22, 3) := by decide +kernel
theorem dX1_pointHome_106 : decode cX1_pointHome 106 = .ok (.iload 7, 2) := by decide +kernel
theorem dX1_pointHome_108 : decode cX1_pointHome 108 = .ok (.iaload, 1) := by decide +kernel
theorem dX1_pointHome_109 : decode cX1_pointHome 109 = .ok (.ifCond .lt 7, 3) := by decide +kernel
theorem dX1_pointHome_112 : decode cX1_pointHome 112 = .ok (.iconst 1, 1) := by decide +kernel
theorem dX1_pointHome_113 : decode cX1_pointHome 113 = .ok (.goto 4, 3) := by decide +kernel
theorem dX1_pointHome_116 : decode cX1_pointHome 116 = .ok (.iconst 0, 1) := by decide +kernel
theorem dX1_pointHome_117 : decode cX1_pointHome 117 = .ok (.if_icmp .ne 6, 3) := by decide +kernel
theorem dX1_pointHome_120 : decode cX1_pointHome 120 = .ok (.goto 31, 3) := by decide +kernel
theorem dX1_pointHome_123 : decode cX1_pointHome 123 = .ok (.iload 8, 2) := by decide +kernel
theorem dX1_pointHome_125 : decode cX1_pointHome 125 = .ok (.ifCond .eq 15, 3) := by decide +kernel
theorem dX1_pointHome_128 : decode cX1_pointHome 128 = .ok (.aload_n 0, 1) := by decide +kernel
theorem dX1_pointHome_129 : decode cX1_pointHome 129 = .ok (.getfield 22, 3) := by decide +kernel
theorem dX1_pointHome_132 : decode cX1_pointHome 132 = .ok (.iload 7, 2) := by decide +kernel
theorem dX1_pointHome_134 : decode cX1_pointHome 134 = .ok (.iload 6, 2) := by decide +kernel
theorem dX1_pointHome_136 : decode cX1_pointHome 136 = .ok (.iastore, 1) := by decide +kernel
theorem dX1_pointHome_137 : decode cX1_pointHome 137 = .ok (.goto 12, 3) := by decide +kernel
theorem dX1_pointHome_140 : decode cX1_pointHome 140 = .ok (.aload_n 0, 1) := by decide +kernel
theorem dX1_pointHome_141 : decode cX1_pointHome 141 = .ok (.getfield 19, 3) := by decide +kernel
theorem dX1_pointHome_144 : decode cX1_pointHome 144 = .ok (.iload 6, 2) := by decide +kernel
theorem dX1_pointHome_146 : decode cX1_pointHome 146 = .ok (.iload 7, 2) := by decide +kernel
theorem dX1_pointHome_148 : decode cX1_pointHome 148 = .ok (.iastore, 1) := by decide +kernel
theorem dX1_pointHome_149 : decode cX1_pointHome 149 = .ok (.iconst 1, 1) := by decide +kernel
theorem dX1_pointHome_150 : decode cX1_pointHome 150 = .ok (.istore_n 3, 1) := by decide +kernel
theorem dX1_pointHome_151 : decode cX1_pointHome 151 = .ok (.iinc 5 1, 3) := by decide +kernel
theorem dX1_pointHome_154 : decode cX1_pointHome 154 = .ok (.goto (-105), 3) := by decide +kernel
theorem dX1_pointHome_157 : decode cX1_pointHome 157 = .ok (.iinc 4 1, 3) := by decide +kernel
theorem dX1_pointHome_160 : decode cX1_pointHome 160 = .ok (.goto (-127), 3) := by decide +kernel
theorem dX1_pointHome_163 : decode cX1_pointHome 163 = .ok (.return_, 1) := by decide +kernel
theorem dX1_turnOf_0 : decode cX1_turnOf 0 = .ok (.ldc 37, 2) := by decide +kernel
theorem dX1_turnOf_2 : decode cX1_turnOf 2 = .ok (.istore_n 2, 1) := by decide +kernel
theorem dX1_turnOf_3 : decode cX1_turnOf 3 = .ok (.iconst 1, 1) := by decide +kernel
theorem dX1_turnOf_4 : decode cX1_turnOf 4 = .ok (.istore_n 3, 1) := by decide +kernel
theorem dX1_turnOf_5 : decode cX1_turnOf 5 = .ok (.iload_n 3, 1) := by decide +kernel
theorem dX1_turnOf_6 : decode cX1_turnOf 6 = .ok (.aload_n 0, 1) := by decide +kernel
theorem dX1_turnOf_7 : decode cX1_turnOf 7 = .ok (.getfield 9, 3) := by decide +kernel
theorem dX1_turnOf_10 : decode cX1_turnOf 10 = .ok (.if_icmp .ge 22, 3) := by decide +kernel
theorem dX1_turnOf_13 : decode cX1_turnOf 13 = .ok (.iload_n 2, 1) := by decide +kernel
theorem dX1_turnOf_14 : decode cX1_turnOf 14 = .ok (.aload_n 1, 1) := by decide +kernel
theorem dX1_turnOf_15 : decode cX1_turnOf 15 = .ok (.aload_n 0, 1) := by decide +kernel
theorem dX1_turnOf_16 : decode cX1_turnOf 16 = .ok (.getfield 15, 3) := by decide +kernel
theorem dX1_turnOf_19 : decode cX1_turnOf 19 = .ok (.iload_n 3, 1) := by decide +kernel
theorem dX1_turnOf_20 : decode cX1_turnOf 20 = .ok (.iaload, 1) := by decide +kernel
theorem dX1_turnOf_21 : decode cX1_turnOf 21 = .ok (.iaload, 1) := by decide +kernel
theorem dX1_turnOf_22 : decode cX1_turnOf 22 = .ok (.invokestatic 38, 3) := by decide +kernel
theorem dX1_turnOf_25 : decode cX1_turnOf 25 = .ok (.istore_n 2, 1) := by decide +kernel
theorem dX1_turnOf_26 : decode cX1_turnOf 26 = .ok (.iinc 3 2, 3) := by decide +kernel
theorem dX1_turnOf_29 : decode cX1_turnOf 29 = .ok (.goto (-24), 3) := by decide +kernel
theorem dX1_turnOf_32 : decode cX1_turnOf 32 = .ok (.iload_n 2, 1) := by decide +kernel
theorem dX1_turnOf_33 : decode cX1_turnOf 33 = .ok (.ireturn, 1) := by decide +kernel
theorem dX1_findLeaving_0 : decode cX1_findLeaving 0 = .ok (.aload_n 0, 1) := by decide +kernel
theorem dX1_findLeaving_1 : decode cX1_findLeaving 1 = .ok (.getfield 15, 3) := by decide +kernel
theorem dX1_findLeaving_4 : decode cX1_findLeaving 4 = .ok (.iconst 1, 1) := by decide +kernel
theorem dX1_findLeaving_5 : decode cX1_findLeaving 5 = .ok (.iaload, 1) := by decide +kernel
theorem dX1_findLeaving_6 : decode cX1_findLeaving 6 = .ok (.istore_n 3, 1) := by decide +kernel
theorem dX1_findLeaving_7 : decode cX1_findLeaving 7 = .ok (.iconst 0, 1) := by decide +kernel
theorem dX1_findLeaving_8 : decode cX1_findLeaving 8 = .ok (.istore 4, 2) := by decide +kernel
theorem dX1_findLeaving_10 : decode cX1_findLeaving 10 = .ok (.iconst 1, 1) := by decide +kernel
theorem dX1_findLeaving_11 : decode cX1_findLeaving 11 = .ok (.istore 5, 2) := by decide +kernel
theorem dX1_findLeaving_13 : decode cX1_findLeaving 13 = .ok (.iload 5, 2) := by decide +kernel
theorem dX1_findLeaving_15 : decode cX1_findLeaving 15 = .ok (.aload_n 0, 1) := by decide +kernel
theorem dX1_findLeaving_16 : decode cX1_findLeaving 16 = .ok (.getfield 9, 3) := by decide +kernel
theorem dX1_findLeaving_19 : decode cX1_findLeaving 19 = .ok (.if_icmp .ge 49, 3) := by decide +kernel
theorem dX1_findLeaving_22 : decode cX1_findLeaving 22 = .ok (.aload_n 1, 1) := by decide +kernel
theorem dX1_findLeaving_23 : decode cX1_findLeaving 23 = .ok (.aload_n 0, 1) := by decide +kernel
theorem dX1_findLeaving_24 : decode cX1_findLeaving 24 = .ok (.getfield 15, 3) := by decide +kernel
theorem dX1_findLeaving_27 : decode cX1_findLeaving 27 = .ok (.iload 5, 2) := by decide +kernel
theorem dX1_findLeaving_29 : decode cX1_findLeaving 29 = .ok (.iaload, 1) := by decide +kernel
theorem dX1_findLeaving_30 : decode cX1_findLeaving 30 = .ok (.iaload, 1) := by decide +kernel
theorem dX1_findLeaving_31 : decode cX1_findLeaving 31 = .ok (.iload_n 2, 1) := by decide +kernel
theorem dX1_findLeaving_32 : decode cX1_findLeaving 32 = .ok (.if_icmp .ne 30, 3) := by decide +kernel
theorem dX1_findLeaving_35 : decode cX1_findLeaving 35 = .ok (.iload 4, 2) := by decide +kernel
theorem dX1_findLeaving_37 : decode cX1_findLeaving 37 = .ok (.ifCond .eq 14, 3) := by decide +kernel
theorem dX1_findLeaving_40 : decode cX1_findLeaving 40 = .ok (.aload_n 0, 1) := by decide +kernel
theorem dX1_findLeaving_41 : decode cX1_findLeaving 41 = .ok (.getfield 15, 3) := by decide +kernel
theorem dX1_findLeaving_44 : decode cX1_findLeaving 44 = .ok (.iload 5, 2) := by decide +kernel
theorem dX1_findLeaving_46 : decode cX1_findLeaving 46 = .ok (.iaload, 1) := by decide +kernel
theorem dX1_findLeaving_47 : decode cX1_findLeaving 47 = .ok (.iload_n 3, 1) := by decide +kernel
theorem dX1_findLeaving_48 : decode cX1_findLeaving 48 = .ok (.if_icmp .ge 14, 3) := by decide +kernel
theorem dX1_findLeaving_51 : decode cX1_findLeaving 51 = .ok (.aload_n 0, 1) := by decide +kernel
theorem dX1_findLeaving_52 : decode cX1_findLeaving 52 = .ok (.getfield 15, 3) := by decide +kernel
theorem dX1_findLeaving_55 : decode cX1_findLeaving 55 = .ok (.iload 5, 2) := by decide +kernel
theorem dX1_findLeaving_57 : decode cX1_findLeaving 57 = .ok (.iaload, 1) := by decide +kernel
theorem dX1_findLeaving_58 : decode cX1_findLeaving 58 = .ok (.istore_n 3, 1) := by decide +kernel
theorem dX1_findLeaving_59 : decode cX1_findLeaving 59 = .ok (.iconst 1, 1) := by decide +kernel
theorem dX1_findLeaving_60 : decode cX1_findLeaving 60 = .ok (.istore 4, 2) := by decide +kernel
theorem dX1_findLeaving_62 : decode cX1_findLeaving 62 = .ok (.iinc 5 2, 3) := by decide +kernel
theorem dX1_findLeaving_65 : decode cX1_findLeaving 65 = .ok (.goto (-52), 3) := by decide +kernel
theorem dX1_findLeaving_68 : decode cX1_findLeaving 68 = .ok (.iload_n 3, 1) := by decide +kernel
theorem dX1_findLeaving_69 : decode cX1_findLeaving 69 = .ok (.ireturn, 1) := by decide +kernel
theorem dX1_turnLoads_0 : decode cX1_turnLoads 0 = .ok (.iconst 0, 1) := by decide +kernel
theorem dX1_turnLoads_1 : decode cX1_turnLoads 1 = .ok (.istore_n 3, 1) := by decide +kernel
theorem dX1_turnLoads_2 : decode cX1_turnLoads 2 = .ok (.iload_n 3, 1) := by decide +kernel
theorem dX1_turnLoads_3 : decode cX1_turnLoads 3 = .ok (.aload_n 0, 1) := by decide +kernel
theorem dX1_turnLoads_4 : decode cX1_turnLoads 4 = .ok (.getfield 9, 3) := by decide +kernel
theorem dX1_turnLoads_7 : decode cX1_turnLoads 7 = .ok (.if_icmp .ge 32, 3) := by decide +kernel
theorem dX1_turnLoads_10 : decode cX1_turnLoads 10 = .ok (.aload_n 1, 1) := by decide +kernel
theorem dX1_turnLoads_11 : decode cX1_turnLoads 11 = .ok (.aload_n 0, 1) := by decide +kernel
theorem dX1_turnLoads_12 : decode cX1_turnLoads 12 = .ok (.getfield 15, 3) := by decide +kernel
theorem dX1_turnLoads_15 : decode cX1_turnLoads 15 = .ok (.iload_n 3, 1) := by decide +kernel
theorem dX1_turnLoads_16 : decode cX1_turnLoads 16 = .ok (.iaload, 1) := by decide +kernel
theorem dX1_turnLoads_17 : decode cX1_turnLoads 17 = .ok (.dup2, 1) := by decide +kernel
theorem dX1_turnLoads_18 : decode cX1_turnLoads 18 = .ok (.iaload, 1) := by decide +kernel
theorem dX1_turnLoads_19 : decode cX1_turnLoads 19 = .ok (.iload_n 3, 1) := by decide +kernel
theorem dX1_turnLoads_20 : decode cX1_turnLoads 20 = .ok (.iconst 2, 1) := by decide +kernel
theorem dX1_turnLoads_21 : decode cX1_turnLoads 21 = .ok (.irem, 1) := by decide +kernel
theorem dX1_turnLoads_22 : decode cX1_turnLoads 22 = .ok (.ifCond .ne 7, 3) := by decide +kernel
theorem dX1_turnLoads_25 : decode cX1_turnLoads 25 = .ok (.iload_n 2, 1) := by decide +kernel
theorem dX1_turnLoads_26 : decode cX1_turnLoads 26 = .ok (.goto 5, 3) := by decide +kernel
theorem dX1_turnLoads_29 : decode cX1_turnLoads 29 = .ok (.iload_n 2, 1) := by decide +kernel
theorem dX1_turnLoads_30 : decode cX1_turnLoads 30 = .ok (.ineg, 1) := by decide +kernel
theorem dX1_turnLoads_31 : decode cX1_turnLoads 31 = .ok (.iadd, 1) := by decide +kernel
theorem dX1_turnLoads_32 : decode cX1_turnLoads 32 = .ok (.iastore, 1) := by decide +kernel
theorem dX1_turnLoads_33 : decode cX1_turnLoads 33 = .ok (.iinc 3 1, 3) := by decide +kernel
theorem dX1_turnLoads_36 : decode cX1_turnLoads 36 = .ok (.goto (-34), 3) := by decide +kernel
theorem dX1_turnLoads_39 : decode cX1_turnLoads 39 = .ok (.return_, 1) := by decide +kernel
theorem dX2_init_0 : decode cX2_init 0 = .ok (.aload_n 0, 1) := by decide +kernel
theorem dX2_init_1 : decode cX2_init 1 = .ok (.invokespecial 3, 3) := by decide +kernel
theorem dX2_init_4 : decode cX2_init 4 = .ok (.aload_n 0, 1) := by decide +kernel
theorem dX2_init_5 : decode cX2_init 5 = .ok (.iconst 0, 1) := by decide +kernel
theorem dX2_init_6 : decode cX2_init 6 = .ok (.putfield 9, 3) := by decide +kernel
theorem dX2_init_9 : decode cX2_init 9 = .ok (.aload_n 0, 1) := by decide +kernel
theorem dX2_init_10 : decode cX2_init 10 = .ok (.iconst 0, 1) := by decide +kernel
theorem dX2_init_11 : decode cX2_init 11 = .ok (.putfield 15, 3) := by decide +kernel
theorem dX2_init_14 : decode cX2_init 14 = .ok (.aload_n 0, 1) := by decide +kernel
theorem dX2_init_15 : decode cX2_init 15 = .ok (.iconst 0, 1) := by decide +kernel
theorem dX2_init_16 : decode cX2_init 16 = .ok (.putfield 18, 3) := by decide +kernel
theorem dX2_init_19 : decode cX2_init 19 = .ok (.aload_n 0, 1) := by decide +kernel
theorem dX2_init_20 : decode cX2_init 20 = .ok (.iconst 0, 1) := by decide +kernel
theorem dX2_init_21 : decode cX2_init 21 = .ok (.putfield 21, 3) := by decide +kernel
theorem dX2_init_24 : decode cX2_init 24 = .ok (.aload_n 0, 1) := by decide +kernel
theorem dX2_init_25 : decode cX2_init 25 = .ok (.iconst 0, 1) := by decide +kernel
theorem dX2_init_26 : decode cX2_init 26 = .ok (.putfield 24, 3) := by decide +kernel
theorem dX2_init_29 : decode cX2_init 29 = .ok (.aload_n 0, 1) := by decide +kernel
theorem dX2_init_30 : decode cX2_init 30 = .ok (.iconst 0, 1) := by decide +kernel
theorem dX2_init_31 : decode cX2_init 31 = .ok (.putfield 27, 3) := by decide +kernel
theorem dX2_init_34 : decode cX2_init 34 = .ok (.aload_n 0, 1) := by decide +kernel
theorem dX2_init_35 : decode cX2_init 35 = .ok (.bipush 6, 2) := by decide +kernel
theorem dX2_init_37 : decode cX2_init 37 = .ok (.newarray .boolean, 2) := by decide +kernel
theorem dX2_init_39 : decode cX2_init 39 = .ok (.putfield 30, 3) := by decide +kernel
theorem dX2_init_42 : decode cX2_init 42 = .ok (.aload_n 0, 1) := by decide +kernel
theorem dX2_init_43 : decode cX2_init 43 = .ok (.bipush 6, 2) := by decide +kernel
theorem dX2_init_45 : decode cX2_init 45 = .ok (.newarray .boolean, 2) := by decide +kernel
theorem dX2_init_47 : decode cX2_init 47 = .ok (.putfield 34, 3) := by decide +kernel
theorem dX2_init_50 : decode cX2_init 50 = .ok (.aload_n 0, 1) := by decide +kernel
theorem dX2_init_51 : decode cX2_init 51 = .ok (.bipush 6, 2) := by decide +kernel
theorem dX2_init_53 : decode cX2_init 53 = .ok (.newarray .int, 2) := by decide +kernel
theorem dX2_init_55 : decode cX2_init 55 = .ok (.putfield 37, 3) := by decide +kernel
theorem dX2_init_58 : decode cX2_init 58 = .ok (.aload_n 0, 1) := by decide +kernel
theorem dX2_init_59 : decode cX2_init 59 = .ok (.bipush 6, 2) := by decide +kernel
theorem dX2_init_61 : decode cX2_init 61 = .ok (.newarray .int, 2) := by decide +kernel
theorem dX2_init_63 : decode cX2_init 63 = .ok (.putfield 41, 3) := by decide +kernel
theorem dX2_init_66 : decode cX2_init 66 = .ok (.return_, 1) := by decide +kernel
theorem dX2_openAll_0 : decode cX2_openAll 0 = .ok (.aload_n 1, 1) := by decide +kernel
theorem dX2_openAll_1 : decode cX2_openAll 1 = .ok (.invokevirtual 44, 3) := by decide +kernel
theorem dX2_openAll_4 : decode cX2_openAll 4 = .ok (.aload_n 1, 1) := by decide +kernel
theorem dX2_openAll_5 : decode cX2_openAll 5 = .ok (.invokevirtual 50, 3) := by decide +kernel
theorem dX2_openAll_8 : decode cX2_openAll 8 = .ok (.isub, 1) := by decide +kernel
theorem dX2_openAll_9 : decode cX2_openAll 9 = .ok (.istore_n 2, 1) := by decide +kernel
theorem dX2_openAll_10 : decode cX2_openAll 10 = .ok (.aload_n 1, 1) := by decide +kernel
theorem dX2_openAll_11 : decode cX2_openAll 11 = .ok (.getfield 53, 3) := by decide +kernel
theorem dX2_openAll_14 : decode cX2_openAll 14 = .ok (.iconst 0, 1) := by decide +kernel
theorem dX2_openAll_15 : decode cX2_openAll 15 = .ok (.aload_n 0, 1) := by decide +kernel
theorem dX2_openAll_16 : decode cX2_openAll 16 = .ok (.getfield 37, 3) := by decide +kernel
theorem dX2_openAll_19 : decode cX2_openAll 19 = .ok (.iconst 0, 1) := by decide +kernel
theorem dX2_openAll_20 : decode cX2_openAll 20 = .ok (.iconst 5, 1) := by decide +kernel
theorem dX2_openAll_21 : decode cX2_openAll 21 = .ok (.invokestatic 56, 3) := by decide +kernel
theorem dX2_openAll_24 : decode cX2_openAll 24 = .ok (.aload_n 1, 1) := by decide +kernel
theorem dX2_openAll_25 : decode cX2_openAll 25 = .ok (.getfield 62, 3) := by decide +kernel
theorem dX2_openAll_28 : decode cX2_openAll 28 = .ok (.iconst 0, 1) := by decide +kernel
theorem dX2_openAll_29 : decode cX2_openAll 29 = .ok (.aload_n 0, 1) := by decide +kernel
theorem dX2_openAll_30 : decode cX2_openAll 30 = .ok (.getfield 41, 3) := by decide +kernel
theorem dX2_openAll_33 : decode cX2_openAll 33 = .ok (.iconst 0, 1) := by decide +kernel
theorem dX2_openAll_34 : decode cX2_openAll 34 = .ok (.iconst 5, 1) := by decide +kernel
theorem dX2_openAll_35 : decode cX2_openAll 35 = .ok (.invokestatic 56, 3) := by decide +kernel
theorem dX2_openAll_38 : decode cX2_openAll 38 = .ok (.aload_n 0, 1) := by decide +kernel
theorem dX2_openAll_39 : decode cX2_openAll 39 = .ok (.getfield 37, 3) := by decide +kernel
theorem dX2_openAll_42 : decode cX2_openAll 42 = .ok (.aload_n 1, 1) := by decide +kernel
theorem dX2_openAll_43 : decode cX2_openAll 43 = .ok (.getfield 65, 3) := by decide +kernel
theorem dX2_openAll_46 : decode cX2_openAll 46 = .ok (.iconst 0, 1) := by decide +kernel
theorem dX2_openAll_47 : decode cX2_openAll 47 = .ok (.iload_n 2, 1) := by decide +kernel
theorem dX2_openAll_48 : decode cX2_openAll 48 = .ok (.ineg, 1) := by decide +kernel
theorem dX2_openAll_49 : decode cX2_openAll 49 = .ok (.invokestatic 68, 3) := by decide +kernel
theorem dX2_openAll_52 : decode cX2_openAll 52 = .ok (.iastore, 1) := by decide +kernel
theorem dX2_openAll_53 : decode cX2_openAll 53 = .ok (.aload_n 0, 1) := by decide +kernel
theorem dX2_openAll_54 : decode cX2_openAll 54 = .ok (.getfield 41, 3) := by decide +kernel
theorem dX2_openAll_57 : decode cX2_openAll 57 = .ok (.aload_n 1, 1) := by decide +kernel
theorem dX2_openAll_58 : decode cX2_openAll 58 = .ok (.getfield 74, 3) := by decide +kernel
theorem dX2_openAll_61 : decode cX2_openAll 61 = .ok (.iconst 0, 1) := by decide +kernel
theorem dX2_openAll_62 : decode cX2_openAll 62 = .ok (.iload_n 2, 1) := by decide +kernel
theorem dX2_openAll_63 : decode cX2_openAll 63 = .ok (.invokestatic 68, 3) := by decide +kernel
theorem dX2_openAll_66 : decode cX2_openAll 66 = .ok (.iastore, 1) := by decide +kernel
theorem dX2_openAll_67 : decode cX2_openAll 67 = .ok (.aload_n 0, 1) := by decide +kernel
theorem dX2_openAll_68 : decode cX2_openAll 68 = .ok (.aload_n 1, 1) := by decide +kernel
theorem dX2_openAll_69 : decode cX2_openAll 69 = .ok (.getfield 65, 3) := by decide +kernel
theorem dX2_openAll_72 : decode cX2_openAll 72 = .ok (.iload_n 2, 1) := by decide +kernel
theorem dX2_openAll_73 : decode cX2_openAll 73 = .ok (.ifCond .ge 7, 3) := by decide +kernel
theorem dX2_openAll_76 : decode cX2_openAll 76 = .ok (.iconst 1, 1) := by decide +kernel
theorem dX2_openAll_77 : decode cX2_openAll 77 = .ok (.goto 4, 3) := by decide +kernel
theorem dX2_openAll_80 : decode cX2_openAll 80 = .ok (.iconst 0, 1) := by decide +kernel
theorem dX2_openAll_81 : decode cX2_openAll 81 = .ok (.iadd, 1) := by decide +kernel
theorem dX2_openAll_82 : decode cX2_openAll 82 = .ok (.putfield 9, 3) := by decide +kernel
theorem dX2_openAll_85 : decode cX2_openAll 85 = .ok (.aload_n 0, 1) := by decide +kernel
theorem dX2_openAll_86 : decode cX2_openAll 86 = .ok (.aload_n 1, 1) := by decide +kernel
theorem dX2_openAll_87 : decode cX2_openAll 87 = .ok (.getfield 74, 3) := by decide +kernel
theorem dX2_openAll_90 : decode cX2_openAll 90 = .ok (.iload_n 2, 1) := by decide +kernel
theorem dX2_openAll_91 : decode cX2_openAll 91 = .ok (.ifCond .le 7, 3) := by decide +kernel
theorem dX2_openAll_94 : decode cX2_openAll 94 = .ok (.iconst 1, 1) := by decide +kernel
theorem dX2_openAll_95 : decode cX2_openAll 95 = .ok (.goto 4, 3) := by decide +kernel
theorem dX2_openAll_98 : decode cX2_openAll 98 = .ok (.iconst 0, 1) := by decide +kernel
theorem dX2_openAll_99 : decode cX2_openAll 99 = .ok (.iadd, 1) := by decide +kernel
theorem dX2_openAll_100 : decode cX2_openAll 100 = .ok (.putfield 15, 3) := by decide +kernel
theorem dX2_openAll_103 : decode cX2_openAll 103 = .ok (.aload_n 0, 1) := by decide +kernel
theorem dX2_openAll_104 : decode cX2_openAll 104 = .ok (.aload_n 0, 1) := by decide +kernel
theorem dX2_openAll_105 : decode cX2_openAll 105 = .ok (.getfield 9, 3) := by decide +kernel
theorem dX2_openAll_108 : decode cX2_openAll 108 = .ok (.putfield 18, 3) := by decide +kernel
theorem dX2_openAll_111 : decode cX2_openAll 111 = .ok (.aload_n 0, 1) := by decide +kernel
theorem dX2_openAll_112 : decode cX2_openAll 112 = .ok (.aload_n 0, 1) := by decide +kernel
theorem dX2_openAll_113 : decode cX2_openAll 113 = .ok (.getfield 15, 3) := by decide +kernel
theorem dX2_openAll_116 : decode cX2_openAll 116 = .ok (.putfield 21, 3) := by decide +kernel
theorem dX2_openAll_119 : decode cX2_openAll 119 = .ok (.iconst 0, 1) := by decide +kernel
theorem dX2_openAll_120 : decode cX2_openAll 120 = .ok (.istore_n 3, 1) := by decide +kernel
theorem dX2_openAll_121 : decode cX2_openAll 121 = .ok (.iload_n 3, 1) := by decide +kernel
theorem dX2_openAll_122 : decode cX2_openAll 122 = .ok (.bipush 6, 2) := by decide +kernel
theorem dX2_openAll_124 : decode cX2_openAll 124 = .ok (.if_icmp .ge 47, 3) := by decide +kernel
theorem dX2_openAll_127 : decode cX2_openAll 127 = .ok (.aload_n 0, 1) := by decide +kernel
theorem dX2_openAll_128 : decode cX2_openAll 128 = .ok (.getfield 30, 3) := by decide +kernel
theorem dX2_openAll_131 : decode cX2_openAll 131 = .ok (.iload_n 3, 1) := by decide +kernel
theorem dX2_openAll_132 : decode cX2_openAll 132 = .ok (.iload_n 3, 1) := by decide +kernel
theorem dX2_openAll_133 : decode cX2_openAll 133 = .ok (.aload_n 0, 1) := by decide +kernel
theorem dX2_openAll_134 : decode cX2_openAll 134 = .ok (.getfield 9, 3) := by decide +kernel
theorem dX2_openAll_137 : decode cX2_openAll 137 = .ok (.if_icmp .ge 7, 3) := by decide +kernel
theorem dX2_openAll_140 : decode cX2_openAll 140 = .ok (.iconst 1, 1) := by decide +kernel
theorem dX2_openAll_141 : decode cX2_openAll 141 = .ok (.goto 4, 3) := by decide +kernel
theorem dX2_openAll_144 : decode cX2_openAll 144 = .ok (.iconst 0, 1) := by decide +kernel
theorem dX2_openAll_145 : decode cX2_openAll 145 = .ok (.bastore, 1) := by decide +kernel
theorem dX2_openAll_146 : decode cX2_openAll 146 = .ok (.aload_n 0, 1) := by decide +kernel
theorem dX2_openAll_147 : decode cX2_openAll 147 = .ok (.getfield 34, 3) := by decide +kernel
theorem dX2_openAll_150 : decode cX2_openAll 150 = .ok (.iload_n 3, 1) := by decide +kernel
theorem dX2_openAll_151 : decode cX2_openAll 151 = .ok (.iload_n 3, 1) := by decide +kernel
theorem dX2_openAll_152 : decode cX2_openAll 152 = .ok (.aload_n 0, 1) := by decide +kernel
theorem dX2_openAll_153 : decode cX2_openAll 153 = .ok (.getfield 15, 3) := by decide +kernel
theorem dX2_openAll_156 : decode cX2_openAll 156 = .ok (.if_icmp .ge 7, 3) := by decide +kernel
theorem dX2_openAll_159 : decode cX2_openAll 159 = .ok (.iconst 1, 1) := by decide +kernel
theorem dX2_openAll_160 : decode cX2_openAll 160 = .ok (.goto 4, 3) := by decide +kernel
theorem dX2_openAll_163 : decode cX2_openAll 163 = .ok (.iconst 0, 1) := by decide +kernel
theorem dX2_openAll_164 : decode cX2_openAll 164 = .ok (.bastore, 1) := by decide +kernel
theorem dX2_openAll_165 : decode cX2_openAll 165 = .ok (.iinc 3 1, 3) := by decide +kernel
theorem dX2_openAll_168 : decode cX2_openAll 168 = .ok (.goto (-47), 3) := by decide +kernel
theorem dX2_openAll_171 : decode cX2_openAll 171 = .ok (.return_, 1) := by decide +kernel
theorem dX2_pickBy_0 : decode cX2_pickBy 0 = .ok (.iload_n 1, 1) := by decide +kernel
theorem dX2_pickBy_1 : decode cX2_pickBy 1 = .ok (.lookupswitch 42 #[(0, 27), (1, 34)], 27) := by decide +kernel
theorem dX2_pickBy_28 : decode cX2_pickBy 28 = .ok (.aload_n 0, 1) := by decide +kernel
theorem dX2_pickBy_29 : decode cX2_pickBy 29 = .ok (.invokevirtual 77, 3) := by decide +kernel
theorem dX2_pickBy_32 : decode cX2_pickBy 32 = .ok (.goto 16, 3) := by decide +kernel
theorem dX2_pickBy_35 : decode cX2_pickBy 35 = .ok (.aload_n 0, 1) := by decide +kernel
theorem dX2_pickBy_36 : decode cX2_pickBy 36 = .ok (.aload_n 2, 1) := by decide +kernel
theorem dX2_pickBy_37 : decode cX2_pickBy 37 = .ok (.invokevirtual 80, 3) := by decide +kernel
theorem dX2_pickBy_40 : decode cX2_pickBy 40 = .ok (.goto 8, 3) := by decide +kernel
theorem dX2_pickBy_43 : decode cX2_pickBy 43 = .ok (.aload_n 0, 1) := by decide +kernel
theorem dX2_pickBy_44 : decode cX2_pickBy 44 = .ok (.aload_n 2, 1) := by decide +kernel
theorem dX2_pickBy_45 : decode cX2_pickBy 45 = .ok (.invokevirtual 84, 3) := by decide +kernel
theorem dX2_pickBy_48 : decode cX2_pickBy 48 = .ok (.return_, 1) := by decide +kernel
theorem dX2_pickCorner_0 : decode cX2_pickCorner 0 = .ok (.aload_n 0, 1) := by decide +kernel
theorem dX2_pickCorner_1 : decode cX2_pickCorner 1 = .ok (.aload_n 0, 1) := by decide +kernel
theorem dX2_pickCorner_2 : decode cX2_pickCorner 2 = .ok (.getfield 30, 3) := by decide +kernel
theorem dX2_pickCorner_5 : decode cX2_pickCorner 5 = .ok (.invokestatic 87, 3) := by decide +kernel
theorem dX2_pickCorner_8 : decode cX2_pickCorner 8 = .ok (.putfield 24, 3) := by decide +kernel
theorem dX2_pickCorner_11 : decode cX2_pickCorner 11 = .ok (.aload_n 0, 1) := by decide +kernel
theorem dX2_pickCorner_12 : decode cX2_pickCorner 12 = .ok (.aload_n 0, 1) := by decide +kernel
theorem dX2_pickCorner_13 : decode cX2_pickCorner 13 = .ok (.getfield 34, 3) := by decide +kernel
theorem dX2_pickCorner_16 : decode cX2_pickCorner 16 = .ok (.invokestatic 87, 3) := by decide +kernel
theorem dX2_pickCorner_19 : decode cX2_pickCorner 19 = .ok (.putfield 27, 3) := by decide +kernel
theorem dX2_pickCorner_22 : decode cX2_pickCorner 22 = .ok (.return_, 1) := by decide +kernel
theorem dX2_firstOf_0 : decode cX2_firstOf 0 = .ok (.iconst 0, 1) := by decide +kernel
theorem dX2_firstOf_1 : decode cX2_firstOf 1 = .ok (.istore_n 1, 1) := by decide +kernel
theorem dX2_firstOf_2 : decode cX2_firstOf 2 = .ok (.iload_n 1, 1) := by decide +kernel
theorem dX2_firstOf_3 : decode cX2_firstOf 3 = .ok (.bipush 6, 2) := by decide +kernel
theorem dX2_firstOf_5 : decode cX2_firstOf 5 = .ok (.if_icmp .ge 17, 3) := by decide +kernel
theorem dX2_firstOf_8 : decode cX2_firstOf 8 = .ok (.aload_n 0, 1) := by decide +kernel
theorem dX2_firstOf_9 : decode cX2_firstOf 9 = .ok (.iload_n 1, 1) := by decide +kernel
theorem dX2_firstOf_10 : decode cX2_firstOf 10 = .ok (.baload, 1) := by decide +kernel
theorem dX2_firstOf_11 : decode cX2_firstOf 11 = .ok (.ifCond .eq 5, 3) := by decide +kernel
theorem dX2_firstOf_14 : decode cX2_firstOf 14 = .ok (.iload_n 1, 1) := by decide +kernel
theorem dX2_firstOf_15 : decode cX2_firstOf 15 = .ok (.ireturn, 1) := by decide +kernel
theorem dX2_firstOf_16 : decode cX2_firstOf 16 = .ok (.iinc 1 1, 3) := by decide +kernel
theorem dX2_firstOf_19 : decode cX2_firstOf 19 = .ok (.goto (-17), 3) := by decide +kernel
theorem dX2_firstOf_22 : decode cX2_firstOf 22 = .ok (.iconst 0, 1) := by decide +kernel
theorem dX2_firstOf_23 : decode cX2_firstOf 23 = .ok (.ireturn, 1) := by decide +kernel
theorem dX2_pickLeast_0 : decode cX2_pickLeast 0 = .ok (.ldc 91, 2) := by decide +kernel
theorem dX2_pickLeast_2 : decode cX2_pickLeast 2 = .ok (.istore_n 2, 1) := by decide +kernel
theorem dX2_pickLeast_3 : decode cX2_pickLeast 3 = .ok (.iconst 0, 1) := by decide +kernel
theorem dX2_pickLeast_4 : decode cX2_pickLeast 4 = .ok (.istore_n 3, 1) := by decide +kernel
theorem dX2_pickLeast_5 : decode cX2_pickLeast 5 = .ok (.iload_n 3, 1) := by decide +kernel
theorem dX2_pickLeast_6 : decode cX2_pickLeast 6 = .ok (.aload_n 0, 1) := by decide +kernel
theorem dX2_pickLeast_7 : decode cX2_pickLeast 7 = .ok (.getfield 9, 3) := by decide +kernel
theorem dX2_pickLeast_10 : decode cX2_pickLeast 10 = .ok (.if_icmp .ge 78, 3) := by decide +kernel
theorem dX2_pickLeast_13 : decode cX2_pickLeast 13 = .ok (.iconst 0, 1) := by decide +kernel
theorem dX2_pickLeast_14 : decode cX2_pickLeast 14 = .ok (.istore 4, 2) := by decide +kernel
theorem dX2_pickLeast_16 : decode cX2_pickLeast 16 = .ok (.iload 4, 2) := by decide +kernel
theorem dX2_pickLeast_18 : decode cX2_pickLeast 18 = .ok (.aload_n 0, 1) := by decide +kernel
theorem dX2_pickLeast_19 : decode cX2_pickLeast 19 = .ok (.getfield 15, 3) := by decide +kernel
theorem dX2_pickLeast_22 : decode cX2_pickLeast 22 = .ok (.if_icmp .ge 60, 3) := by decide +kernel
theorem dX2_pickLeast_25 : decode cX2_pickLeast 25 = .ok (.aload_n 0, 1) := by decide +kernel
theorem dX2_pickLeast_26 : decode cX2_pickLeast 26 = .ok (.getfield 30, 3) := by decide +kernel
theorem dX2_pickLeast_29 : decode cX2_pickLeast 29 = .ok (.iload_n 3, 1) := by decide +kernel
theorem dX2_pickLeast_30 : decode cX2_pickLeast 30 = .ok (.baload, 1) := by decide +kernel
theorem dX2_pickLeast_31 : decode cX2_pickLeast 31 = .ok (.ifCond .eq 45, 3) := by decide +kernel
theorem dX2_pickLeast_34 : decode cX2_pickLeast 34 = .ok (.aload_n 0, 1) := by decide +kernel
theorem dX2_pickLeast_35 : decode cX2_pickLeast 35 = .ok (.getfield 34, 3) := by decide +kernel
theorem dX2_pickLeast_38 : decode cX2_pickLeast 38 = .ok (.iload 4, 2) := by decide +kernel
theorem dX2_pickLeast_40 : decode cX2_pickLeast 40 = .ok (.baload, 1) := by decide +kernel
theorem dX2_pickLeast_41 : decode cX2_pickLeast 41 = .ok (.ifCond .eq 35, 3) := by decide +kernel
theorem dX2_pickLeast_44 : decode cX2_pickLeast 44 = .ok (.aload_n 1, 1) := by decide +kernel
theorem dX2_pickLeast_45 : decode cX2_pickLeast 45 = .ok (.iload_n 3, 1) := by decide +kernel
theorem dX2_pickLeast_46 : decode cX2_pickLeast 46 = .ok (.iload 4, 2) := by decide +kernel
theorem dX2_pickLeast_48 : decode cX2_pickLeast 48 = .ok (.invokestatic 92, 3) := by decide +kernel
theorem dX2_pickLeast_51 : decode cX2_pickLeast 51 = .ok (.iaload, 1) := by decide +kernel
theorem dX2_pickLeast_52 : decode cX2_pickLeast 52 = .ok (.iload_n 2, 1) := by decide +kernel
theorem dX2_pickLeast_53 : decode cX2_pickLeast 53 = .ok (.if_icmp .ge 23, 3) := by decide +kernel
theorem dX2_pickLeast_56 : decode cX2_pickLeast 56 = .ok (.aload_n 1, 1) := by decide +kernel
theorem dX2_pickLeast_57 : decode cX2_pickLeast 57 = .ok (.iload_n 3, 1) := by decide +kernel
theorem dX2_pickLeast_58 : decode cX2_pickLeast 58 = .ok (.iload 4, 2) := by decide +kernel
theorem dX2_pickLeast_60 : decode cX2_pickLeast 60 = .ok (.invokestatic 92, 3) := by decide +kernel
theorem dX2_pickLeast_63 : decode cX2_pickLeast 63 = .ok (.iaload, 1) := by decide +kernel
theorem dX2_pickLeast_64 : decode cX2_pickLeast 64 = .ok (.istore_n 2, 1) := by decide +kernel
theorem dX2_pickLeast_65 : decode cX2_pickLeast 65 = .ok (.aload_n 0, 1) := by decide +kernel
theorem dX2_pickLeast_66 : decode cX2_pickLeast 66 = .ok (.iload_n 3, 1) := by decide +kernel
theorem dX2_pickLeast_67 : decode cX2_pickLeast 67 = .ok (.putfield 24, 3) := by decide +kernel
theorem dX2_pickLeast_70 : decode cX2_pickLeast 70 = .ok (.aload_n 0, 1) := by decide +kernel
theorem dX2_pickLeast_71 : decode cX2_pickLeast 71 = .ok (.iload 4, 2) := by decide +kernel
theorem dX2_pickLeast_73 : decode cX2_pickLeast 73 = .ok (.putfield 27, 3) := by decide +kernel
theorem dX2_pickLeast_76 : decode cX2_pickLeast 76 = .ok (.iinc 4 1, 3) := by decide +kernel
theorem dX2_pickLeast_79 : decode cX2_pickLeast 79 = .ok (.goto (-63), 3) := by decide +kernel
theorem dX2_pickLeast_82 : decode cX2_pickLeast 82 = .ok (.iinc 3 1, 3) := by decide +kernel
theorem dX2_pickLeast_85 : decode cX2_pickLeast 85 = .ok (.goto (-80), 3) := by decide +kernel
theorem dX2_pickLeast_88 : decode cX2_pickLeast 88 = .ok (.return_, 1) := by decide +kernel
theorem dX2_pickRegret_0 : decode cX2_pickRegret 0 = .ok (.iconst (-1), 1) := by decide +kernel
theorem dX2_pickRegret_1 : decode cX2_pickRegret 1 = .ok (.istore_n 2, 1) := by decide +kernel
theorem dX2_pickRegret_2 : decode cX2_pickRegret 2 = .ok (.iconst 0, 1) := by decide +kernel
theorem dX2_pickRegret_3 : decode cX2_pickRegret 3 = .ok (.istore_n 3, 1) := by decide +kernel
theorem dX2_pickRegret_4 : decode cX2_pickRegret 4 = .ok (.iload_n 3, 1) := by decide +kernel
theorem dX2_pickRegret_5 : decode cX2_pickRegret 5 = .ok (.aload_n 0, 1) := by decide +kernel
theorem dX2_pickRegret_6 : decode cX2_pickRegret 6 = .ok (.getfield 9, 3) := by decide +kernel
theorem dX2_pickRegret_9 : decode cX2_pickRegret 9 = .ok (.if_icmp .ge 78, 3) := by decide +kernel
theorem dX2_pickRegret_12 : decode cX2_pickRegret 12 = .ok (.aload_n 0, 1) := by decide +kernel
theorem dX2_pickRegret_13 : decode cX2_pickRegret 13 = .ok (.getfield 30, 3) := by decide +kernel
theorem dX2_pickRegret_16 : decode cX2_pickRegret 16 = .ok (.iload_n 3, 1) := by decide +kernel
theorem dX2_pickRegret_17 : decode cX2_pickRegret 17 = .ok (.baload, 1) := by decide +kernel
theorem dX2_pickRegret_18 : decode cX2_pickRegret 18 = .ok (.ifCond .eq 24, 3) := by decide +kernel
theorem dX2_pickRegret_21 : decode cX2_pickRegret 21 = .ok (.aload_n 1, 1) := by decide +kernel
theorem dX2_pickRegret_22 : decode cX2_pickRegret 22 = .ok (.iload_n 3, 1) := by decide +kernel
theorem dX2_pickRegret_23 : decode cX2_pickRegret 23 = .ok (.iconst 0, 1) := by decide +kernel
theorem dX2_pickRegret_24 : decode cX2_pickRegret 24 = .ok (.invokestatic 92, 3) := by decide +kernel
theorem dX2_pickRegret_27 : decode cX2_pickRegret 27 = .ok (.iconst 1, 1) := by decide +kernel
theorem dX2_pickRegret_28 : decode cX2_pickRegret 28 = .ok (.aload_n 0, 1) := by decide +kernel
theorem dX2_pickRegret_29 : decode cX2_pickRegret 29 = .ok (.getfield 34, 3) := by decide +kernel
theorem dX2_pickRegret_32 : decode cX2_pickRegret 32 = .ok (.aload_n 0, 1) := by decide +kernel
theorem dX2_pickRegret_33 : decode cX2_pickRegret 33 = .ok (.getfield 15, 3) := by decide +kernel
theorem dX2_pickRegret_36 : decode cX2_pickRegret 36 = .ok (.invokestatic 95, 3) := by decide +kernel
theorem dX2_pickRegret_39 : decode cX2_pickRegret 39 = .ok (.goto 4, 3) := by decide +kernel
theorem dX2_pickRegret_42 : decode cX2_pickRegret 42 = .ok (.iconst (-1), 1) := by decide +kernel
theorem dX2_pickRegret_43 : decode cX2_pickRegret 43 = .ok (.istore 4, 2) := by decide +kernel
theorem dX2_pickRegret_45 : decode cX2_pickRegret 45 = .ok (.iload 4, 2) := by decide +kernel
theorem dX2_pickRegret_47 : decode cX2_pickRegret 47 = .ok (.iload_n 2, 1) := by decide +kernel
theorem dX2_pickRegret_48 : decode cX2_pickRegret 48 = .ok (.if_icmp .le 33, 3) := by decide +kernel
theorem dX2_pickRegret_51 : decode cX2_pickRegret 51 = .ok (.iload 4, 2) := by decide +kernel
theorem dX2_pickRegret_53 : decode cX2_pickRegret 53 = .ok (.istore_n 2, 1) := by decide +kernel
theorem dX2_pickRegret_54 : decode cX2_pickRegret 54 = .ok (.aload_n 0, 1) := by decide +kernel
theorem dX2_pickRegret_55 : decode cX2_pickRegret 55 = .ok (.iload_n 3, 1) := by decide +kernel
theorem dX2_pickRegret_56 : decode cX2_pickRegret 56 = .ok (.putfield 24, 3) := by decide +kernel
theorem dX2_pickRegret_59 : decode cX2_pickRegret 59 = .ok (.aload_n 0, 1) := by decide +kernel
theorem dX2_pickRegret_60 : decode cX2_pickRegret 60 = .ok (.aload_n 1, 1) := by decide +kernel
theorem dX2_pickRegret_61 : decode cX2_pickRegret 61 = .ok (.iload_n 3, 1) := by decide +kernel
theorem dX2_pickRegret_62 : decode cX2_pickRegret 62 = .ok (.iconst 0, 1) := by decide +kernel
theorem dX2_pickRegret_63 : decode cX2_pickRegret 63 = .ok (.invokestatic 92, 3) := by decide +kernel
theorem dX2_pickRegret_66 : decode cX2_pickRegret 66 = .ok (.iconst 1, 1) := by decide +kernel
theorem dX2_pickRegret_67 : decode cX2_pickRegret 67 = .ok (.aload_n 0, 1) := by decide +kernel
theorem dX2_pickRegret_68 : decode cX2_pickRegret 68 = .ok (.getfield 34, 3) := by decide +kernel
theorem dX2_pickRegret_71 : decode cX2_pickRegret 71 = .ok (.aload_n 0, 1) := by decide +kernel
theorem dX2_pickRegret_72 : decode cX2_pickRegret 72 = .ok (.getfield 15, 3) := by decide +kernel
theorem dX2_pickRegret_75 : decode cX2_pickRegret 75 = .ok (.invokestatic 99, 3) := by decide +kernel
theorem dX2_pickRegret_78 : decode cX2_pickRegret 78 = .ok (.putfield 27, 3) := by decide +kernel
theorem dX2_pickRegret_81 : decode cX2_pickRegret 81 = .ok (.iinc 3 1, 3) := by decide +kernel
theorem dX2_pickRegret_84 : decode cX2_pickRegret 84 = .ok (.goto (-80), 3) := by decide +kernel
theorem dX2_pickRegret_87 : decode cX2_pickRegret 87 = .ok (.iconst 0, 1) := by decide +kernel
theorem dX2_pickRegret_88 : decode cX2_pickRegret 88 = .ok (.istore_n 3, 1) := by decide +kernel
theorem dX2_pickRegret_89 : decode cX2_pickRegret 89 = .ok (.iload_n 3, 1) := by decide +kernel
theorem dX2_pickRegret_90 : decode cX2_pickRegret 90 = .ok (.aload_n 0, 1) := by decide +kernel
theorem dX2_pickRegret_91 : decode cX2_pickRegret 91 = .ok (.getfield 15, 3) := by decide +kernel
theorem dX2_pickRegret_94 : decode cX2_pickRegret 94 = .ok (.if_icmp .ge 72, 3) := by decide +kernel
theorem dX2_pickRegret_97 : decode cX2_pickRegret 97 = .ok (.aload_n 0, 1) := by decide +kernel
theorem dX2_pickRegret_98 : decode cX2_pickRegret 98 = .ok (.getfield 34, 3) := by decide +kernel
theorem dX2_pickRegret_101 : decode cX2_pickRegret 101 = .ok (.iload_n 3, 1) := by decide +kernel
theorem dX2_pickRegret_102 : decode cX2_pickRegret 102 = .ok (.baload, 1) := by decide +kernel
theorem dX2_pickRegret_103 : decode cX2_pickRegret 103 = .ok (.ifCond .eq 21, 3) := by decide +kernel
theorem dX2_pickRegret_106 : decode cX2_pickRegret 106 = .ok (.aload_n 1, 1) := by decide +kernel
theorem dX2_pickRegret_107 : decode cX2_pickRegret 107 = .ok (.iload_n 3, 1) := by decide +kernel
theorem dX2_pickRegret_108 : decode cX2_pickRegret 108 = .ok (.bipush 6, 2) := by decide +kernel
theorem dX2_pickRegret_110 : decode cX2_pickRegret 110 = .ok (.aload_n 0, 1) := by decide +kernel
theorem dX2_pickRegret_111 : decode cX2_pickRegret 111 = .ok (.getfield 30, 3) := by decide +kernel
theorem dX2_pickRegret_114 : decode cX2_pickRegret 114 = .ok (.aload_n 0, 1) := by decide +kernel
theorem dX2_pickRegret_115 : decode cX2_pickRegret 115 = .ok (.getfield 9, 3) := by decide +kernel
theorem dX2_pickRegret_118 : decode cX2_pickRegret 118 = .ok (.invokestatic 95, 3) := by decide +kernel
theorem dX2_pickRegret_121 : decode cX2_pickRegret 121 = .ok (.goto 4, 3) := by decide +kernel
theorem dX2_pickRegret_124 : decode cX2_pickRegret 124 = .ok (.iconst (-1), 1) := by decide +kernel
theorem dX2_pickRegret_125 : decode cX2_pickRegret 125 = .ok (.istore 4, 2) := by decide +kernel
theorem dX2_pickRegret_127 : decode cX2_pickRegret 127 = .ok (.iload 4, 2) := by decide +kernel
theorem dX2_pickRegret_129 : decode cX2_pickRegret 129 = .ok (.iload_n 2, 1) := by decide +kernel
theorem dX2_pickRegret_130 : decode cX2_pickRegret 130 = .ok (.if_icmp .le 30, 3) := by decide +kernel
theorem dX2_pickRegret_133 : decode cX2_pickRegret 133 = .ok (.iload 4, 2) := by decide +kernel
theorem dX2_pickRegret_135 : decode cX2_pickRegret 135 = .ok (.istore_n 2, 1) := by decide +kernel
theorem dX2_pickRegret_136 : decode cX2_pickRegret 136 = .ok (.aload_n 0, 1) := by decide +kernel
theorem dX2_pickRegret_137 : decode cX2_pickRegret 137 = .ok (.aload_n 1, 1) := by decide +kernel
theorem dX2_pickRegret_138 : decode cX2_pickRegret 138 = .ok (.iload_n 3, 1) := by decide +kernel
theorem dX2_pickRegret_139 : decode cX2_pickRegret 139 = .ok (.bipush 6, 2) := by decide +kernel
theorem dX2_pickRegret_141 : decode cX2_pickRegret 141 = .ok (.aload_n 0, 1) := by decide +kernel
theorem dX2_pickRegret_142 : decode cX2_pickRegret 142 = .ok (.getfield 30, 3) := by decide +kernel
theorem dX2_pickRegret_145 : decode cX2_pickRegret 145 = .ok (.aload_n 0, 1) := by decide +kernel
theorem dX2_pickRegret_146 : decode cX2_pickRegret 146 = .ok (.getfield 9, 3) := by decide +kernel
theorem dX2_pickRegret_149 : decode cX2_pickRegret 149 = .ok (.invokestatic 99, 3) := by decide +kernel
theorem dX2_pickRegret_152 : decode cX2_pickRegret 152 = .ok (.putfield 24, 3) := by decide +kernel
theorem dX2_pickRegret_155 : decode cX2_pickRegret 155 = .ok (.aload_n 0, 1) := by decide +kernel
theorem dX2_pickRegret_156 : decode cX2_pickRegret 156 = .ok (.iload_n 3, 1) := by decide +kernel
theorem dX2_pickRegret_157 : decode cX2_pickRegret 157 = .ok (.putfield 27, 3) := by decide +kernel
theorem dX2_pickRegret_160 : decode cX2_pickRegret 160 = .ok (.iinc 3 1, 3) := by decide +kernel
theorem dX2_pickRegret_163 : decode cX2_pickRegret 163 = .ok (.goto (-74), 3) := by decide +kernel
theorem dX2_pickRegret_166 : decode cX2_pickRegret 166 = .ok (.return_, 1) := by decide +kernel
theorem dX2_regretOf_0 : decode cX2_regretOf 0 = .ok (.ldc 91, 2) := by decide +kernel
theorem dX2_regretOf_2 : decode cX2_regretOf 2 = .ok (.istore 5, 2) := by decide +kernel
theorem dX2_regretOf_4 : decode cX2_regretOf 4 = .ok (.ldc 91, 2) := by decide +kernel
theorem dX2_regretOf_6 : decode cX2_regretOf 6 = .ok (.istore 6, 2) := by decide +kernel
theorem dX2_regretOf_8 : decode cX2_regretOf 8 = .ok (.iconst 0, 1) := by decide +kernel
theorem dX2_regretOf_9 : decode cX2_regretOf 9 = .ok (.istore 7, 2) := by decide +kernel
theorem dX2_regretOf_11 : decode cX2_regretOf 11 = .ok (.iload 7, 2) := by decide +kernel
theorem dX2_regretOf_13 : decode cX2_regretOf 13 = .ok (.iload 4, 2) := by decide +kernel
theorem dX2_regretOf_15 : decode cX2_regretOf 15 = .ok (.if_icmp .ge 62, 3) := by decide +kernel
theorem dX2_regretOf_18 : decode cX2_regretOf 18 = .ok (.aload_n 0, 1) := by decide +kernel
theorem dX2_regretOf_19 : decode cX2_regretOf 19 = .ok (.iload_n 1, 1) := by decide +kernel
theorem dX2_regretOf_20 : decode cX2_regretOf 20 = .ok (.iload 7, 2) := by decide +kernel
theorem dX2_regretOf_22 : decode cX2_regretOf 22 = .ok (.iload_n 2, 1) := by decide +kernel
theorem dX2_regretOf_23 : decode cX2_regretOf 23 = .ok (.imul, 1) := by decide +kernel
theorem dX2_regretOf_24 : decode cX2_regretOf 24 = .ok (.iadd, 1) := by decide +kernel
theorem dX2_regretOf_25 : decode cX2_regretOf 25 = .ok (.iaload, 1) := by decide +kernel
theorem dX2_regretOf_26 : decode cX2_regretOf 26 = .ok (.istore 8, 2) := by decide +kernel
theorem dX2_regretOf_28 : decode cX2_regretOf 28 = .ok (.aload_n 3, 1) := by decide +kernel
theorem dX2_regretOf_29 : decode cX2_regretOf 29 = .ok (.iload 7, 2) := by decide +kernel
theorem dX2_regretOf_31 : decode cX2_regretOf 31 = .ok (.baload, 1) := by decide +kernel
theorem dX2_regretOf_32 : decode cX2_regretOf 32 = .ok (.ifCond .eq 21, 3) := by decide +kernel
theorem dX2_regretOf_35 : decode cX2_regretOf 35 = .ok (.iload 8, 2) := by decide +kernel
theorem dX2_regretOf_37 : decode cX2_regretOf 37 = .ok (.iload 5, 2) := by decide +kernel
theorem dX2_regretOf_39 : decode cX2_regretOf 39 = .ok (.if_icmp .ge 14, 3) := by decide +kernel
theorem dX2_regretOf_42 : decode cX2_regretOf 42 = .ok (.iload 5, 2) := by decide +kernel
theorem dX2_regretOf_44 : decode cX2_regretOf 44 = .ok (.istore 6, 2) := by decide +kernel
theorem dX2_regretOf_46 : decode cX2_regretOf 46 = .ok (.iload 8, 2) := by decide +kernel
theorem dX2_regretOf_48 : decode cX2_regretOf 48 = .ok (.istore 5, 2) := by decide +kernel
theorem dX2_regretOf_50 : decode cX2_regretOf 50 = .ok (.goto 21, 3) := by decide +kernel
theorem dX2_regretOf_53 : decode cX2_regretOf 53 = .ok (.aload_n 3, 1) := by decide +kernel
theorem dX2_regretOf_54 : decode cX2_regretOf 54 = .ok (.iload 7, 2) := by decide +kernel
theorem dX2_regretOf_56 : decode cX2_regretOf 56 = .ok (.baload, 1) := by decide +kernel
theorem dX2_regretOf_57 : decode cX2_regretOf 57 = .ok (.ifCond .eq 14, 3) := by decide +kernel
theorem dX2_regretOf_60 : decode cX2_regretOf 60 = .ok (.iload 8, 2) := by decide +kernel
theorem dX2_regretOf_62 : decode cX2_regretOf 62 = .ok (.iload 6, 2) := by decide +kernel
theorem dX2_regretOf_64 : decode cX2_regretOf 64 = .ok (.if_icmp .ge 7, 3) := by decide +kernel
theorem dX2_regretOf_67 : decode cX2_regretOf 67 = .ok (.iload 8, 2) := by decide +kernel
theorem dX2_regretOf_69 : decode cX2_regretOf 69 = .ok (.istore 6, 2) := by decide +kernel
theorem dX2_regretOf_71 : decode cX2_regretOf 71 = .ok (.iinc 7 1, 3) := by decide +kernel
theorem dX2_regretOf_74 : decode cX2_regretOf 74 = .ok (.goto (-63), 3) := by decide +kernel
theorem dX2_regretOf_77 : decode cX2_regretOf 77 = .ok (.iload 6, 2) := by decide +kernel
theorem dX2_regretOf_79 : decode cX2_regretOf 79 = .ok (.ldc 91, 2) := by decide +kernel
theorem dX2_regretOf_81 : decode cX2_regretOf 81 = .ok (.if_icmp .ne 8, 3) := by decide +kernel
theorem dX2_regretOf_84 : decode cX2_regretOf 84 = .ok (.iload 5, 2) := by decide +kernel
theorem dX2_regretOf_86 : decode cX2_regretOf 86 = .ok (.goto 8, 3) := by decide +kernel
theorem dX2_regretOf_89 : decode cX2_regretOf 89 = .ok (.iload 6, 2) := by decide +kernel
theorem dX2_regretOf_91 : decode cX2_regretOf 91 = .ok (.iload 5, 2) := by decide +kernel
theorem dX2_regretOf_93 : decode cX2_regretOf 93 = .ok (.isub, 1) := by decide +kernel
theorem dX2_regretOf_94 : decode cX2_regretOf 94 = .ok (.ireturn, 1) := by decide +kernel
theorem dX2_cheapestOf_0 : decode cX2_cheapestOf 0 = .ok (.iconst 0, 1) := by decide +kernel
theorem dX2_cheapestOf_1 : decode cX2_cheapestOf 1 = .ok (.istore 5, 2) := by decide +kernel
theorem dX2_cheapestOf_3 : decode cX2_cheapestOf 3 = .ok (.ldc 91, 2) := by decide +kernel
theorem dX2_cheapestOf_5 : decode cX2_cheapestOf 5 = .ok (.istore 6, 2) := by decide +kernel
theorem dX2_cheapestOf_7 : decode cX2_cheapestOf 7 = .ok (.iconst 0, 1) := by decide +kernel
theorem dX2_cheapestOf_8 : decode cX2_cheapestOf 8 = .ok (.istore 7, 2) := by decide +kernel
theorem dX2_cheapestOf_10 : decode cX2_cheapestOf 10 = .ok (.iload 7, 2) := by decide +kernel
theorem dX2_cheapestOf_12 : decode cX2_cheapestOf 12 = .ok (.iload 4, 2) := by decide +kernel
theorem dX2_cheapestOf_14 : decode cX2_cheapestOf 14 = .ok (.if_icmp .ge 43, 3) := by decide +kernel
theorem dX2_cheapestOf_17 : decode cX2_cheapestOf 17 = .ok (.aload_n 3, 1) := by decide +kernel
theorem dX2_cheapestOf_18 : decode cX2_cheapestOf 18 = .ok (.iload 7, 2) := by decide +kernel
theorem dX2_cheapestOf_20 : decode cX2_cheapestOf 20 = .ok (.baload, 1) := by decide +kernel
theorem dX2_cheapestOf_21 : decode cX2_cheapestOf 21 = .ok (.ifCond .eq 30, 3) := by decide +kernel
theorem dX2_cheapestOf_24 : decode cX2_cheapestOf 24 = .ok (.aload_n 0, 1) := by decide +kernel
theorem dX2_cheapestOf_25 : decode cX2_cheapestOf 25 = .ok (.iload_n 1, 1) := by decide +kernel
theorem dX2_cheapestOf_26 : decode cX2_cheapestOf 26 = .ok (.iload 7, 2) := by decide +kernel
theorem dX2_cheapestOf_28 : decode cX2_cheapestOf 28 = .ok (.iload_n 2, 1) := by decide +kernel
theorem dX2_cheapestOf_29 : decode cX2_cheapestOf 29 = .ok (.imul, 1) := by decide +kernel
theorem dX2_cheapestOf_30 : decode cX2_cheapestOf 30 = .ok (.iadd, 1) := by decide +kernel
theorem dX2_cheapestOf_31 : decode cX2_cheapestOf 31 = .ok (.iaload, 1) := by decide +kernel
theorem dX2_cheapestOf_32 : decode cX2_cheapestOf 32 = .ok (.iload 6, 2) := by decide +kernel
theorem dX2_cheapestOf_34 : decode cX2_cheapestOf 34 = .ok (.if_icmp .ge 17, 3) := by decide +kernel
theorem dX2_cheapestOf_37 : decode cX2_cheapestOf 37 = .ok (.aload_n 0, 1) := by decide +kernel
theorem dX2_cheapestOf_38 : decode cX2_cheapestOf 38 = .ok (.iload_n 1, 1) := by decide +kernel
theorem dX2_cheapestOf_39 : decode cX2_cheapestOf 39 = .ok (.iload 7, 2) := by decide +kernel
theorem dX2_cheapestOf_41 : decode cX2_cheapestOf 41 = .ok (.iload_n 2, 1) := by decide +kernel
theorem dX2_cheapestOf_42 : decode cX2_cheapestOf 42 = .ok (.imul, 1) := by decide +kernel
theorem dX2_cheapestOf_43 : decode cX2_cheapestOf 43 = .ok (.iadd, 1) := by decide +kernel
theorem dX2_cheapestOf_44 : decode cX2_cheapestOf 44 = .ok (.iaload, 1) := by decide +kernel
theorem dX2_cheapestOf_45 : decode cX2_cheapestOf 45 = .ok (.istore 6, 2) := by decide +kernel
theorem dX2_cheapestOf_47 : decode cX2_cheapestOf 47 = .ok (.iload 7, 2) := by decide +kernel
theorem dX2_cheapestOf_49 : decode cX2_cheapestOf 49 = .ok (.istore 5, 2) := by decide +kernel
theorem dX2_cheapestOf_51 : decode cX2_cheapestOf 51 = .ok (.iinc 7 1, 3) := by decide +kernel
theorem dX2_cheapestOf_54 : decode cX2_cheapestOf 54 = .ok (.goto (-44), 3) := by decide +kernel
theorem dX2_cheapestOf_57 : decode cX2_cheapestOf 57 = .ok (.iload 5, 2) := by decide +kernel
theorem dX2_cheapestOf_59 : decode cX2_cheapestOf 59 = .ok (.ireturn, 1) := by decide +kernel
theorem dX2_takeLesser_0 : decode cX2_takeLesser 0 = .ok (.aload_n 0, 1) := by decide +kernel
theorem dX2_takeLesser_1 : decode cX2_takeLesser 1 = .ok (.getfield 37, 3) := by decide +kernel
theorem dX2_takeLesser_4 : decode cX2_takeLesser 4 = .ok (.aload_n 0, 1) := by decide +kernel
theorem dX2_takeLesser_5 : decode cX2_takeLesser 5 = .ok (.getfield 24, 3) := by decide +kernel
theorem dX2_takeLesser_8 : decode cX2_takeLesser 8 = .ok (.iaload, 1) := by decide +kernel
theorem dX2_takeLesser_9 : decode cX2_takeLesser 9 = .ok (.aload_n 0, 1) := by decide +kernel
theorem dX2_takeLesser_10 : decode cX2_takeLesser 10 = .ok (.getfield 41, 3) := by decide +kernel
theorem dX2_takeLesser_13 : decode cX2_takeLesser 13 = .ok (.aload_n 0, 1) := by decide +kernel
theorem dX2_takeLesser_14 : decode cX2_takeLesser 14 = .ok (.getfield 27, 3) := by decide +kernel
theorem dX2_takeLesser_17 : decode cX2_takeLesser 17 = .ok (.iaload, 1) := by decide +kernel
theorem dX2_takeLesser_18 : decode cX2_takeLesser 18 = .ok (.invokestatic 102, 3) := by decide +kernel
theorem dX2_takeLesser_21 : decode cX2_takeLesser 21 = .ok (.istore_n 1, 1) := by decide +kernel
theorem dX2_takeLesser_22 : decode cX2_takeLesser 22 = .ok (.aload_n 0, 1) := by decide +kernel
theorem dX2_takeLesser_23 : decode cX2_takeLesser 23 = .ok (.getfield 37, 3) := by decide +kernel
theorem dX2_takeLesser_26 : decode cX2_takeLesser 26 = .ok (.aload_n 0, 1) := by decide +kernel
theorem dX2_takeLesser_27 : decode cX2_takeLesser 27 = .ok (.getfield 24, 3) := by decide +kernel
theorem dX2_takeLesser_30 : decode cX2_takeLesser 30 = .ok (.dup2, 1) := by decide +kernel
theorem dX2_takeLesser_31 : decode cX2_takeLesser 31 = .ok (.iaload, 1) := by decide +kernel
theorem dX2_takeLesser_32 : decode cX2_takeLesser 32 = .ok (.iload_n 1, 1) := by decide +kernel
theorem dX2_takeLesser_33 : decode cX2_takeLesser 33 = .ok (.isub, 1) := by decide +kernel
theorem dX2_takeLesser_34 : decode cX2_takeLesser 34 = .ok (.iastore, 1) := by decide +kernel
theorem dX2_takeLesser_35 : decode cX2_takeLesser 35 = .ok (.aload_n 0, 1) := by decide +kernel
theorem dX2_takeLesser_36 : decode cX2_takeLesser 36 = .ok (.getfield 41, 3) := by decide +kernel
theorem dX2_takeLesser_39 : decode cX2_takeLesser 39 = .ok (.aload_n 0, 1) := by decide +kernel
theorem dX2_takeLesser_40 : decode cX2_takeLesser 40 = .ok (.getfield 27, 3) := by decide +kernel
theorem dX2_takeLesser_43 : decode cX2_takeLesser 43 = .ok (.dup2, 1) := by decide +kernel
theorem dX2_takeLesser_44 : decode cX2_takeLesser 44 = .ok (.iaload, 1) := by decide +kernel
theorem dX2_takeLesser_45 : decode cX2_takeLesser 45 = .ok (.iload_n 1, 1) := by decide +kernel
theorem dX2_takeLesser_46 : decode cX2_takeLesser 46 = .ok (.isub, 1) := by decide +kernel
theorem dX2_takeLesser_47 : decode cX2_takeLesser 47 = .ok (.iastore, 1) := by decide +kernel
theorem dX2_takeLesser_48 : decode cX2_takeLesser 48 = .ok (.iload_n 1, 1) := by decide +kernel
theorem dX2_takeLesser_49 : decode cX2_takeLesser 49 = .ok (.ireturn, 1) := by decide +kernel
theorem dX2_closeOne_0 : decode cX2_closeOne 0 = .ok (.aload_n 0, 1) := by decide +kernel
theorem dX2_closeOne_1 : decode cX2_closeOne 1 = .ok (.getfield 37, 3) := by decide +kernel
theorem dX2_closeOne_4 : decode cX2_closeOne 4 = .ok (.aload_n 0, 1) := by decide +kernel
theorem dX2_closeOne_5 : decode cX2_closeOne 5 = .ok (.getfield 24, 3) := by decide +kernel
theorem dX2_closeOne_8 : decode cX2_closeOne 8 = .ok (.iaload, 1) := by decide +kernel
theorem dX2_closeOne_9 : decode cX2_closeOne 9 = .ok (.ifCond .ne 34, 3) := by decide +kernel
theorem dX2_closeOne_12 : decode cX2_closeOne 12 = .ok (.aload_n 0, 1) := by decide +kernel
theorem dX2_closeOne_13 : decode cX2_closeOne 13 = .ok (.getfield 18, 3) := by decide +kernel
theorem dX2_closeOne_16 : decode cX2_closeOne 16 = .ok (.iconst 1, 1) := by decide +kernel
theorem dX2_closeOne_17 : decode cX2_closeOne 17 = .ok (.if_icmp .le 26, 3) := by decide +kernel
theorem dX2_closeOne_20 : decode cX2_closeOne 20 = .ok (.aload_n 0, 1) := by decide +kernel
theorem dX2_closeOne_21 : decode cX2_closeOne 21 = .ok (.getfield 30, 3) := by decide +kernel
theorem dX2_closeOne_24 : decode cX2_closeOne 24 = .ok (.aload_n 0, 1) := by decide +kernel
theorem dX2_closeOne_25 : decode cX2_closeOne 25 = .ok (.getfield 24, 3) := by decide +kernel
theorem dX2_closeOne_28 : decode cX2_closeOne 28 = .ok (.iconst 0, 1) := by decide +kernel
theorem dX2_closeOne_29 : decode cX2_closeOne 29 = .ok (.bastore, 1) := by decide +kernel
theorem dX2_closeOne_30 : decode cX2_closeOne 30 = .ok (.aload_n 0, 1) := by decide +kernel
theorem dX2_closeOne_31 : decode cX2_closeOne 31 = .ok (.dup, 1) := by decide +kernel
theorem dX2_closeOne_32 : decode cX2_closeOne 32 = .ok (.getfield 18, 3) := by decide +kernel
theorem dX2_closeOne_35 : decode cX2_closeOne 35 = .ok (.iconst 1, 1) := by decide +kernel
theorem dX2_closeOne_36 : decode cX2_closeOne 36 = .ok (.isub, 1) := by decide +kernel
theorem dX2_closeOne_37 : decode cX2_closeOne 37 = .ok (.putfield 18, 3) := by decide +kernel
theorem dX2_closeOne_40 : decode cX2_closeOne 40 = .ok (.goto 23, 3) := by decide +kernel
theorem dX2_closeOne_43 : decode cX2_closeOne 43 = .ok (.aload_n 0, 1) := by decide +kernel
theorem dX2_closeOne_44 : decode cX2_closeOne 44 = .ok (.getfield 34, 3) := by decide +kernel
theorem dX2_closeOne_47 : decode cX2_closeOne 47 = .ok (.aload_n 0, 1) := by decide +kernel
theorem dX2_closeOne_48 : decode cX2_closeOne 48 = .ok (.getfield 27, 3) := by decide +kernel
theorem dX2_closeOne_51 : decode cX2_closeOne 51 = .ok (.iconst 0, 1) := by decide +kernel
theorem dX2_closeOne_52 : decode cX2_closeOne 52 = .ok (.bastore, 1) := by decide +kernel
theorem dX2_closeOne_53 : decode cX2_closeOne 53 = .ok (.aload_n 0, 1) := by decide +kernel
theorem dX2_closeOne_54 : decode cX2_closeOne 54 = .ok (.dup, 1) := by decide +kernel
theorem dX2_closeOne_55 : decode cX2_closeOne 55 = .ok (.getfield 21, 3) := by decide +kernel
theorem dX2_closeOne_58 : decode cX2_closeOne 58 = .ok (.iconst 1, 1) := by decide +kernel
theorem dX2_closeOne_59 : decode cX2_closeOne 59 = .ok (.isub, 1) := by decide +kernel
theorem dX2_closeOne_60 : decode cX2_closeOne 60 = .ok (.putfield 21, 3) := by decide +kernel
theorem dX2_closeOne_63 : decode cX2_closeOne 63 = .ok (.return_, 1) := by decide +kernel
theorem dX3_init_0 : decode cX3_init 0 = .ok (.aload_n 0, 1) := by decide +kernel
theorem dX3_init_1 : decode cX3_init 1 = .ok (.invokespecial 3, 3) := by decide +kernel
theorem dX3_init_4 : decode cX3_init 4 = .ok (.aload_n 0, 1) := by decide +kernel
theorem dX3_init_5 : decode cX3_init 5 = .ok (.iconst 0, 1) := by decide +kernel
theorem dX3_init_6 : decode cX3_init 6 = .ok (.putfield 9, 3) := by decide +kernel
theorem dX3_init_9 : decode cX3_init 9 = .ok (.aload_n 0, 1) := by decide +kernel
theorem dX3_init_10 : decode cX3_init 10 = .ok (.iconst 0, 1) := by decide +kernel
theorem dX3_init_11 : decode cX3_init 11 = .ok (.putfield 15, 3) := by decide +kernel
theorem dX3_init_14 : decode cX3_init 14 = .ok (.aload_n 0, 1) := by decide +kernel
theorem dX3_init_15 : decode cX3_init 15 = .ok (.iconst 0, 1) := by decide +kernel
theorem dX3_init_16 : decode cX3_init 16 = .ok (.putfield 19, 3) := by decide +kernel
theorem dX3_init_19 : decode cX3_init 19 = .ok (.aload_n 0, 1) := by decide +kernel
theorem dX3_init_20 : decode cX3_init 20 = .ok (.iconst 0, 1) := by decide +kernel
theorem dX3_init_21 : decode cX3_init 21 = .ok (.putfield 22, 3) := by decide +kernel
theorem dX3_init_24 : decode cX3_init 24 = .ok (.aload_n 0, 1) := by decide +kernel
theorem dX3_init_25 : decode cX3_init 25 = .ok (.bipush 36, 2) := by decide +kernel
theorem dX3_init_27 : decode cX3_init 27 = .ok (.newarray .int, 2) := by decide +kernel
theorem dX3_init_29 : decode cX3_init 29 = .ok (.putfield 25, 3) := by decide +kernel
theorem dX3_init_32 : decode cX3_init 32 = .ok (.aload_n 0, 1) := by decide +kernel
theorem dX3_init_33 : decode cX3_init 33 = .ok (.bipush 36, 2) := by decide +kernel
theorem dX3_init_35 : decode cX3_init 35 = .ok (.newarray .int, 2) := by decide +kernel
theorem dX3_init_37 : decode cX3_init 37 = .ok (.putfield 29, 3) := by decide +kernel
theorem dX3_init_40 : decode cX3_init 40 = .ok (.aload_n 0, 1) := by decide +kernel
theorem dX3_init_41 : decode cX3_init 41 = .ok (.bipush 36, 2) := by decide +kernel
theorem dX3_init_43 : decode cX3_init 43 = .ok (.newarray .boolean, 2) := by decide +kernel
theorem dX3_init_45 : decode cX3_init 45 = .ok (.putfield 32, 3) := by decide +kernel
theorem dX3_init_48 : decode cX3_init 48 = .ok (.aload_n 0, 1) := by decide +kernel
theorem dX3_init_49 : decode cX3_init 49 = .ok (.bipush 6, 2) := by decide +kernel
theorem dX3_init_51 : decode cX3_init 51 = .ok (.newarray .int, 2) := by decide +kernel
theorem dX3_init_53 : decode cX3_init 53 = .ok (.putfield 36, 3) := by decide +kernel
theorem dX3_init_56 : decode cX3_init 56 = .ok (.aload_n 0, 1) := by decide +kernel
theorem dX3_init_57 : decode cX3_init 57 = .ok (.bipush 6, 2) := by decide +kernel
theorem dX3_init_59 : decode cX3_init 59 = .ok (.newarray .int, 2) := by decide +kernel
theorem dX3_init_61 : decode cX3_init 61 = .ok (.putfield 39, 3) := by decide +kernel
theorem dX3_init_64 : decode cX3_init 64 = .ok (.aload_n 0, 1) := by decide +kernel
theorem dX3_init_65 : decode cX3_init 65 = .ok (.bipush 100, 2) := by decide +kernel
theorem dX3_init_67 : decode cX3_init 67 = .ok (.newarray .int, 2) := by decide +kernel
theorem dX3_init_69 : decode cX3_init 69 = .ok (.putfield 42, 3) := by decide +kernel
theorem dX3_init_72 : decode cX3_init 72 = .ok (.aload_n 0, 1) := by decide +kernel
theorem dX3_init_73 : decode cX3_init 73 = .ok (.bipush 100, 2) := by decide +kernel
theorem dX3_init_75 : decode cX3_init 75 = .ok (.newarray .int, 2) := by decide +kernel
theorem dX3_init_77 : decode cX3_init 77 = .ok (.putfield 45, 3) := by decide +kernel
theorem dX3_init_80 : decode cX3_init 80 = .ok (.aload_n 0, 1) := by decide +kernel
theorem dX3_init_81 : decode cX3_init 81 = .ok (.bipush 100, 2) := by decide +kernel
theorem dX3_init_83 : decode cX3_init 83 = .ok (.newarray .int, 2) := by decide +kernel
theorem dX3_init_85 : decode cX3_init 85 = .ok (.putfield 48, 3) := by decide +kernel
theorem dX3_init_88 : decode cX3_init 88 = .ok (.aload_n 0, 1) := by decide +kernel
theorem dX3_init_89 : decode cX3_init 89 = .ok (.bipush 6, 2) := by decide +kernel
theorem dX3_init_91 : decode cX3_init 91 = .ok (.newarray .boolean, 2) := by decide +kernel
theorem dX3_init_93 : decode cX3_init 93 = .ok (.putfield 51, 3) := by decide +kernel
theorem dX3_init_96 : decode cX3_init 96 = .ok (.aload_n 0, 1) := by decide +kernel
theorem dX3_init_97 : decode cX3_init 97 = .ok (.bipush 6, 2) := by decide +kernel
theorem dX3_init_99 : decode cX3_init 99 = .ok (.newarray .boolean, 2) := by decide +kernel
theorem dX3_init_101 : decode cX3_init 101 = .ok (.putfield 54, 3) := by decide +kernel
theorem dX3_init_104 : decode cX3_init 104 = .ok (.aload_n 0, 1) := by decide +kernel
theorem dX3_init_105 : decode cX3_init 105 = .ok (.new 57, 3) := by decide +kernel
theorem dX3_init_108 : decode cX3_init 108 = .ok (.dup, 1) := by decide +kernel
theorem dX3_init_109 : decode cX3_init 109 = .ok (.invokespecial 59, 3) := by decide +kernel
theorem dX3_init_112 : decode cX3_init 112 = .ok (.putfield 60, 3) := by decide +kernel
theorem dX3_init_115 : decode cX3_init 115 = .ok (.aload_n 0, 1) := by decide +kernel
theorem dX3_init_116 : decode cX3_init 116 = .ok (.new 64, 3) := by decide +kernel
theorem dX3_init_119 : decode cX3_init 119 = .ok (.dup, 1) := by decide +kernel
theorem dX3_init_120 : decode cX3_init 120 = .ok (.invokespecial 66, 3) := by decide +kernel
theorem dX3_init_123 : decode cX3_init 123 = .ok (.putfield 67, 3) := by decide +kernel
theorem dX3_init_126 : decode cX3_init 126 = .ok (.return_, 1) := by decide +kernel
theorem dX3_copyFrom_0 : decode cX3_copyFrom 0 = .ok (.aload_n 0, 1) := by decide +kernel
theorem dX3_copyFrom_1 : decode cX3_copyFrom 1 = .ok (.aload_n 1, 1) := by decide +kernel
theorem dX3_copyFrom_2 : decode cX3_copyFrom 2 = .ok (.getfield 9, 3) := by decide +kernel
theorem dX3_copyFrom_5 : decode cX3_copyFrom 5 = .ok (.putfield 9, 3) := by decide +kernel
theorem dX3_copyFrom_8 : decode cX3_copyFrom 8 = .ok (.aload_n 0, 1) := by decide +kernel
theorem dX3_copyFrom_9 : decode cX3_copyFrom 9 = .ok (.aload_n 1, 1) := by decide +kernel
theorem dX3_copyFrom_10 : decode cX3_copyFrom 10 = .ok (.getfield 15, 3) := by decide +kernel
theorem dX3_copyFrom_13 : decode cX3_copyFrom 13 = .ok (.putfield 15, 3) := by decide +kernel
theorem dX3_copyFrom_16 : decode cX3_copyFrom 16 = .ok (.aload_n 0, 1) := by decide +kernel
theorem dX3_copyFrom_17 : decode cX3_copyFrom 17 = .ok (.aload_n 1, 1) := by decide +kernel
theorem dX3_copyFrom_18 : decode cX3_copyFrom 18 = .ok (.getfield 19, 3) := by decide +kernel
theorem dX3_copyFrom_21 : decode cX3_copyFrom 21 = .ok (.putfield 19, 3) := by decide +kernel
theorem dX3_copyFrom_24 : decode cX3_copyFrom 24 = .ok (.aload_n 0, 1) := by decide +kernel
theorem dX3_copyFrom_25 : decode cX3_copyFrom 25 = .ok (.aload_n 1, 1) := by decide +kernel
theorem dX3_copyFrom_26 : decode cX3_copyFrom 26 = .ok (.getfield 22, 3) := by decide +kernel
theorem dX3_copyFrom_29 : decode cX3_copyFrom 29 = .ok (.putfield 22, 3) := by decide +kernel
theorem dX3_copyFrom_32 : decode cX3_copyFrom 32 = .ok (.aload_n 1, 1) := by decide +kernel
theorem dX3_copyFrom_33 : decode cX3_copyFrom 33 = .ok (.getfield 25, 3) := by decide +kernel
theorem dX3_copyFrom_36 : decode cX3_copyFrom 36 = .ok (.iconst 0, 1) := by decide +kernel
theorem dX3_copyFrom_37 : decode cX3_copyFrom 37 = .ok (.aload_n 0, 1) := by decide +kernel
theorem dX3_copyFrom_38 : decode cX3_copyFrom 38 = .ok (.getfield 25, 3) := by decide +kernel
theorem dX3_copyFrom_41 : decode cX3_copyFrom 41 = .ok (.iconst 0, 1) := by decide +kernel
theorem dX3_copyFrom_42 : decode cX3_copyFrom 42 = .ok (.bipush 36, 2) := by decide +kernel
theorem dX3_copyFrom_44 : decode cX3_copyFrom 44 = .ok (.invokestatic 71, 3) := by decide +kernel
theorem dX3_copyFrom_47 : decode cX3_copyFrom 47 = .ok (.aload_n 1, 1) := by decide +kernel
theorem dX3_copyFrom_48 : decode cX3_copyFrom 48 = .ok (.getfield 29, 3) := by decide +kernel
theorem dX3_copyFrom_51 : decode cX3_copyFrom 51 = .ok (.iconst 0, 1) := by decide +kernel
theorem dX3_copyFrom_52 : decode cX3_copyFrom 52 = .ok (.aload_n 0, 1) := by decide +kernel
theorem dX3_copyFrom_53 : decode cX3_copyFrom 53 = .ok (.getfield 29, 3) := by decide +kernel
theorem dX3_copyFrom_56 : decode cX3_copyFrom 56 = .ok (.iconst 0, 1) := by decide +kernel
theorem dX3_copyFrom_57 : decode cX3_copyFrom 57 = .ok (.bipush 36, 2) := by decide +kernel
theorem dX3_copyFrom_59 : decode cX3_copyFrom 59 = .ok (.invokestatic 71, 3) := by decide +kernel
theorem dX3_copyFrom_62 : decode cX3_copyFrom 62 = .ok (.aload_n 1, 1) := by decide +kernel
theorem dX3_copyFrom_63 : decode cX3_copyFrom 63 = .ok (.getfield 32, 3) := by decide +kernel
theorem dX3_copyFrom_66 : decode cX3_copyFrom 66 = .ok (.iconst 0, 1) := by decide +kernel
theorem dX3_copyFrom_67 : decode cX3_copyFrom 67 = .ok (.aload_n 0, 1) := by decide +kernel
theorem dX3_copyFrom_68 : decode cX3_copyFrom 68 = .ok (.getfield 32, 3) := by decide +kernel
theorem dX3_copyFrom_71 : decode cX3_copyFrom 71 = .ok (.iconst 0, 1) := by decide +kernel
theorem dX3_copyFrom_72 : decode cX3_copyFrom 72 = .ok (.bipush 36, 2) := by decide +kernel
theorem dX3_copyFrom_74 : decode cX3_copyFrom 74 = .ok (.invokestatic 71, 3) := by decide +kernel
theorem dX3_copyFrom_77 : decode cX3_copyFrom 77 = .ok (.aload_n 1, 1) := by decide +kernel
theorem dX3_copyFrom_78 : decode cX3_copyFrom 78 = .ok (.getfield 36, 3) := by decide +kernel
theorem dX3_copyFrom_81 : decode cX3_copyFrom 81 = .ok (.iconst 0, 1) := by decide +kernel
theorem dX3_copyFrom_82 : decode cX3_copyFrom 82 = .ok (.aload_n 0, 1) := by decide +kernel
theorem dX3_copyFrom_83 : decode cX3_copyFrom 83 = .ok (.getfield 36, 3) := by decide +kernel
theorem dX3_copyFrom_86 : decode cX3_copyFrom 86 = .ok (.iconst 0, 1) := by decide +kernel
theorem dX3_copyFrom_87 : decode cX3_copyFrom 87 = .ok (.bipush 6, 2) := by decide +kernel
theorem dX3_copyFrom_89 : decode cX3_copyFrom 89 = .ok (.invokestatic 71, 3) := by decide +kernel
theorem dX3_copyFrom_92 : decode cX3_copyFrom 92 = .ok (.aload_n 1, 1) := by decide +kernel
theorem dX3_copyFrom_93 : decode cX3_copyFrom 93 = .ok (.getfield 39, 3) := by decide +kernel
theorem dX3_copyFrom_96 : decode cX3_copyFrom 96 = .ok (.iconst 0, 1) := by decide +kernel
theorem dX3_copyFrom_97 : decode cX3_copyFrom 97 = .ok (.aload_n 0, 1) := by decide +kernel
theorem dX3_copyFrom_98 : decode cX3_copyFrom 98 = .ok (.getfield 39, 3) := by decide +kernel
theorem dX3_copyFrom_101 : decode cX3_copyFrom 101 = .ok (.iconst 0, 1) := by decide +kernel
theorem dX3_copyFrom_102 : decode cX3_copyFrom 102 = .ok (.bipush 6, 2) := by decide +kernel
theorem dX3_copyFrom_104 : decode cX3_copyFrom 104 = .ok (.invokestatic 71, 3) := by decide +kernel
theorem dX3_copyFrom_107 : decode cX3_copyFrom 107 = .ok (.aload_n 1, 1) := by decide +kernel
theorem dX3_copyFrom_108 : decode cX3_copyFrom 108 = .ok (.getfield 42, 3) := by decide +kernel
theorem dX3_copyFrom_111 : decode cX3_copyFrom 111 = .ok (.iconst 0, 1) := by decide +kernel
theorem dX3_copyFrom_112 : decode cX3_copyFrom 112 = .ok (.aload_n 0, 1) := by decide +kernel
theorem dX3_copyFrom_113 : decode cX3_copyFrom 113 = .ok (.getfield 42, 3) := by decide +kernel
theorem dX3_copyFrom_116 : decode cX3_copyFrom 116 = .ok (.iconst 0, 1) := by decide +kernel
theorem dX3_copyFrom_117 : decode cX3_copyFrom 117 = .ok (.bipush 100, 2) := by decide +kernel
theorem dX3_copyFrom_119 : decode cX3_copyFrom 119 = .ok (.invokestatic 71, 3) := by decide +kernel
theorem dX3_copyFrom_122 : decode cX3_copyFrom 122 = .ok (.aload_n 1, 1) := by decide +kernel
theorem dX3_copyFrom_123 : decode cX3_copyFrom 123 = .ok (.getfield 45, 3) := by decide +kernel
theorem dX3_copyFrom_126 : decode cX3_copyFrom 126 = .ok (.iconst 0, 1) := by decide +kernel
theorem dX3_copyFrom_127 : decode cX3_copyFrom 127 = .ok (.aload_n 0, 1) := by decide +kernel
theorem dX3_copyFrom_128 : decode cX3_copyFrom 128 = .ok (.getfield 45, 3) := by decide +kernel
theorem dX3_copyFrom_131 : decode cX3_copyFrom 131 = .ok (.iconst 0, 1) := by decide +kernel
theorem dX3_copyFrom_132 : decode cX3_copyFrom 132 = .ok (.bipush 100, 2) := by decide +kernel
theorem dX3_copyFrom_134 : decode cX3_copyFrom 134 = .ok (.invokestatic 71, 3) := by decide +kernel
theorem dX3_copyFrom_137 : decode cX3_copyFrom 137 = .ok (.aload_n 1, 1) := by decide +kernel
theorem dX3_copyFrom_138 : decode cX3_copyFrom 138 = .ok (.getfield 48, 3) := by decide +kernel
theorem dX3_copyFrom_141 : decode cX3_copyFrom 141 = .ok (.iconst 0, 1) := by decide +kernel
theorem dX3_copyFrom_142 : decode cX3_copyFrom 142 = .ok (.aload_n 0, 1) := by decide +kernel
theorem dX3_copyFrom_143 : decode cX3_copyFrom 143 = .ok (.getfield 48, 3) := by decide +kernel
theorem dX3_copyFrom_146 : decode cX3_copyFrom 146 = .ok (.iconst 0, 1) := by decide +kernel
theorem dX3_copyFrom_147 : decode cX3_copyFrom 147 = .ok (.bipush 100, 2) := by decide +kernel
theorem dX3_copyFrom_149 : decode cX3_copyFrom 149 = .ok (.invokestatic 71, 3) := by decide +kernel
theorem dX3_copyFrom_152 : decode cX3_copyFrom 152 = .ok (.return_, 1) := by decide +kernel
theorem dX3_isCell_0 : decode cX3_isCell 0 = .ok (.iload_n 1, 1) := by decide +kernel
theorem dX3_isCell_1 : decode cX3_isCell 1 = .ok (.ifCond .lt 27, 3) := by decide +kernel
theorem dX3_isCell_4 : decode cX3_isCell 4 = .ok (.iload_n 1, 1) := by decide +kernel
theorem dX3_isCell_5 : decode cX3_isCell 5 = .ok (.aload_n 0, 1) := by decide +kernel
theorem dX3_isCell_6 : decode cX3_isCell 6 = .ok (.getfield 15, 3) := by decide +kernel
theorem dX3_isCell_9 : decode cX3_isCell 9 = .ok (.if_icmp .ge 19, 3) := by decide +kernel
theorem dX3_isCell_12 : decode cX3_isCell 12 = .ok (.iload_n 2, 1) := by decide +kernel
theorem dX3_isCell_13 : decode cX3_isCell 13 = .ok (.ifCond .lt 15, 3) := by decide +kernel
theorem dX3_isCell_16 : decode cX3_isCell 16 = .ok (.iload_n 2, 1) := by decide +kernel
theorem dX3_isCell_17 : decode cX3_isCell 17 = .ok (.aload_n 0, 1) := by decide +kernel
theorem dX3_isCell_18 : decode cX3_isCell 18 = .ok (.getfield 19, 3) := by decide +kernel
theorem dX3_isCell_21 : decode cX3_isCell 21 = .ok (.if_icmp .ge 7, 3) := by decide +kernel
theorem dX3_isCell_24 : decode cX3_isCell 24 = .ok (.iconst 1, 1) := by decide +kernel
theorem dX3_isCell_25 : decode cX3_isCell 25 = .ok (.goto 4, 3) := by decide +kernel
theorem dX3_isCell_28 : decode cX3_isCell 28 = .ok (.iconst 0, 1) := by decide +kernel
theorem dX3_isCell_29 : decode cX3_isCell 29 = .ok (.ireturn, 1) := by decide +kernel
theorem dX3_startOn_0 : decode cX3_startOn 0 = .ok (.aload_n 0, 1) := by decide +kernel
theorem dX3_startOn_1 : decode cX3_startOn 1 = .ok (.getfield 60, 3) := by decide +kernel
theorem dX3_startOn_4 : decode cX3_startOn 4 = .ok (.aload_n 1, 1) := by decide +kernel
theorem dX3_startOn_5 : decode cX3_startOn 5 = .ok (.invokevirtual 77, 3) := by decide +kernel
theorem dX3_startOn_8 : decode cX3_startOn 8 = .ok (.aload_n 0, 1) := by decide +kernel
theorem dX3_startOn_9 : decode cX3_startOn 9 = .ok (.aload_n 1, 1) := by decide +kernel
theorem dX3_startOn_10 : decode cX3_startOn 10 = .ok (.invokevirtual 81, 3) := by decide +kernel
theorem dX3_startOn_13 : decode cX3_startOn 13 = .ok (.iconst 0, 1) := by decide +kernel
theorem dX3_startOn_14 : decode cX3_startOn 14 = .ok (.istore_n 3, 1) := by decide +kernel
theorem dX3_startOn_15 : decode cX3_startOn 15 = .ok (.iload_n 3, 1) := by decide +kernel
theorem dX3_startOn_16 : decode cX3_startOn 16 = .ok (.aload_n 0, 1) := by decide +kernel
theorem dX3_startOn_17 : decode cX3_startOn 17 = .ok (.getfield 15, 3) := by decide +kernel
theorem dX3_startOn_20 : decode cX3_startOn 20 = .ok (.aload_n 0, 1) := by decide +kernel
theorem dX3_startOn_21 : decode cX3_startOn 21 = .ok (.getfield 19, 3) := by decide +kernel
theorem dX3_startOn_24 : decode cX3_startOn 24 = .ok (.iadd, 1) := by decide +kernel
theorem dX3_startOn_25 : decode cX3_startOn 25 = .ok (.if_icmp .ge 79, 3) := by decide +kernel
theorem dX3_startOn_28 : decode cX3_startOn 28 = .ok (.aload_n 0, 1) := by decide +kernel
theorem dX3_startOn_29 : decode cX3_startOn 29 = .ok (.getfield 60, 3) := by decide +kernel
theorem dX3_startOn_32 : decode cX3_startOn 32 = .ok (.getfield 84, 3) := by decide +kernel
theorem dX3_startOn_35 : decode cX3_startOn 35 = .ok (.ifCond .le 69, 3) := by decide +kernel
theorem dX3_startOn_38 : decode cX3_startOn 38 = .ok (.aload_n 0, 1) := by decide +kernel
theorem dX3_startOn_39 : decode cX3_startOn 39 = .ok (.getfield 60, 3) := by decide +kernel
theorem dX3_startOn_42 : decode cX3_startOn 42 = .ok (.iload_n 2, 1) := by decide +kernel
theorem dX3_startOn_43 : decode cX3_startOn 43 = .ok (.aload_n 0, 1) := by decide +kernel
theorem dX3_startOn_44 : decode cX3_startOn 44 = .ok (.getfield 25, 3) := by decide +kernel
theorem dX3_startOn_47 : decode cX3_startOn 47 = .ok (.invokevirtual 87, 3) := by decide +kernel
theorem dX3_startOn_50 : decode cX3_startOn 50 = .ok (.aload_n 0, 1) := by decide +kernel
theorem dX3_startOn_51 : decode cX3_startOn 51 = .ok (.getfield 60, 3) := by decide +kernel
theorem dX3_startOn_54 : decode cX3_startOn 54 = .ok (.getfield 91, 3) := by decide +kernel
theorem dX3_startOn_57 : decode cX3_startOn 57 = .ok (.aload_n 0, 1) := by decide +kernel
theorem dX3_startOn_58 : decode cX3_startOn 58 = .ok (.getfield 60, 3) := by decide +kernel
theorem dX3_startOn_61 : decode cX3_startOn 61 = .ok (.getfield 94, 3) := by decide +kernel
theorem dX3_startOn_64 : decode cX3_startOn 64 = .ok (.invokestatic 97, 3) := by decide +kernel
theorem dX3_startOn_67 : decode cX3_startOn 67 = .ok (.istore 4, 2) := by decide +kernel
theorem dX3_startOn_69 : decode cX3_startOn 69 = .ok (.aload_n 0, 1) := by decide +kernel
theorem dX3_startOn_70 : decode cX3_startOn 70 = .ok (.getfield 32, 3) := by decide +kernel
theorem dX3_startOn_73 : decode cX3_startOn 73 = .ok (.iload 4, 2) := by decide +kernel
theorem dX3_startOn_75 : decode cX3_startOn 75 = .ok (.iconst 1, 1) := by decide +kernel
theorem dX3_startOn_76 : decode cX3_startOn 76 = .ok (.bastore, 1) := by decide +kernel
theorem dX3_startOn_77 : decode cX3_startOn 77 = .ok (.aload_n 0, 1) := by decide +kernel
theorem dX3_startOn_78 : decode cX3_startOn 78 = .ok (.getfield 29, 3) := by decide +kernel
theorem dX3_startOn_81 : decode cX3_startOn 81 = .ok (.iload 4, 2) := by decide +kernel
theorem dX3_startOn_83 : decode cX3_startOn 83 = .ok (.aload_n 0, 1) := by decide +kernel
theorem dX3_startOn_84 : decode cX3_startOn 84 = .ok (.getfield 60, 3) := by decide +kernel
theorem dX3_startOn_87 : decode cX3_startOn 87 = .ok (.invokevirtual 101, 3) := by decide +kernel
theorem dX3_startOn_90 : decode cX3_startOn 90 = .ok (.iastore, 1) := by decide +kernel
theorem dX3_startOn_91 : decode cX3_startOn 91 = .ok (.aload_n 0, 1) := by decide +kernel
theorem dX3_startOn_92 : decode cX3_startOn 92 = .ok (.getfield 60, 3) := by decide +kernel
theorem dX3_startOn_95 : decode cX3_startOn 95 = .ok (.invokevirtual 105, 3) := by decide +kernel
theorem dX3_startOn_98 : decode cX3_startOn 98 = .ok (.iinc 3 1, 3) := by decide +kernel
theorem dX3_startOn_101 : decode cX3_startOn 101 = .ok (.goto (-86), 3) := by decide +kernel
theorem dX3_startOn_104 : decode cX3_startOn 104 = .ok (.aload_n 0, 1) := by decide +kernel
theorem dX3_startOn_105 : decode cX3_startOn 105 = .ok (.iconst 1, 1) := by decide +kernel
theorem dX3_startOn_106 : decode cX3_startOn 106 = .ok (.putfield 9, 3) := by decide +kernel
theorem dX3_startOn_109 : decode cX3_startOn 109 = .ok (.aload_n 0, 1) := by decide +kernel
theorem dX3_startOn_110 : decode cX3_startOn 110 = .ok (.invokevirtual 108, 3) := by decide +kernel
theorem dX3_startOn_113 : decode cX3_startOn 113 = .ok (.return_, 1) := by decide +kernel
theorem dX3_layCells_0 : decode cX3_layCells 0 = .ok (.aload_n 0, 1) := by decide +kernel
theorem dX3_layCells_1 : decode cX3_layCells 1 = .ok (.aload_n 0, 1) := by decide +kernel
theorem dX3_layCells_2 : decode cX3_layCells 2 = .ok (.getfield 60, 3) := by decide +kernel
theorem dX3_layCells_5 : decode cX3_layCells 5 = .ok (.getfield 111, 3) := by decide +kernel
theorem dX3_layCells_8 : decode cX3_layCells 8 = .ok (.putfield 15, 3) := by decide +kernel
theorem dX3_layCells_11 : decode cX3_layCells 11 = .ok (.aload_n 0, 1) := by decide +kernel
theorem dX3_layCells_12 : decode cX3_layCells 12 = .ok (.aload_n 0, 1) := by decide +kernel
theorem dX3_layCells_13 : decode cX3_layCells 13 = .ok (.getfield 60, 3) := by decide +kernel
theorem dX3_layCells_16 : decode cX3_layCells 16 = .ok (.getfield 112, 3) := by decide +kernel
theorem dX3_layCells_19 : decode cX3_layCells 19 = .ok (.putfield 19, 3) := by decide +kernel
theorem dX3_layCells_22 : decode cX3_layCells 22 = .ok (.aload_n 0, 1) := by decide +kernel
theorem dX3_layCells_23 : decode cX3_layCells 23 = .ok (.iconst 0, 1) := by decide +kernel
theorem dX3_layCells_24 : decode cX3_layCells 24 = .ok (.putfield 22, 3) := by decide +kernel
theorem dX3_layCells_27 : decode cX3_layCells 27 = .ok (.iconst 0, 1) := by decide +kernel
theorem dX3_layCells_28 : decode cX3_layCells 28 = .ok (.istore_n 2, 1) := by decide +kernel
theorem dX3_layCells_29 : decode cX3_layCells 29 = .ok (.iload_n 2, 1) := by decide +kernel
theorem dX3_layCells_30 : decode cX3_layCells 30 = .ok (.bipush 36, 2) := by decide +kernel
theorem dX3_layCells_32 : decode cX3_layCells 32 = .ok (.if_icmp .ge 23, 3) := by decide +kernel
theorem dX3_layCells_35 : decode cX3_layCells 35 = .ok (.aload_n 0, 1) := by decide +kernel
theorem dX3_layCells_36 : decode cX3_layCells 36 = .ok (.getfield 29, 3) := by decide +kernel
theorem dX3_layCells_39 : decode cX3_layCells 39 = .ok (.iload_n 2, 1) := by decide +kernel
theorem dX3_layCells_40 : decode cX3_layCells 40 = .ok (.iconst 0, 1) := by decide +kernel
theorem dX3_layCells_41 : decode cX3_layCells 41 = .ok (.iastore, 1) := by decide +kernel
theorem dX3_layCells_42 : decode cX3_layCells 42 = .ok (.aload_n 0, 1) := by decide +kernel
theorem dX3_layCells_43 : decode cX3_layCells 43 = .ok (.getfield 32, 3) := by decide +kernel
theorem dX3_layCells_46 : decode cX3_layCells 46 = .ok (.iload_n 2, 1) := by decide +kernel
theorem dX3_layCells_47 : decode cX3_layCells 47 = .ok (.iconst 0, 1) := by decide +kernel
theorem dX3_layCells_48 : decode cX3_layCells 48 = .ok (.bastore, 1) := by decide +kernel
theorem dX3_layCells_49 : decode cX3_layCells 49 = .ok (.iinc 2 1, 3) := by decide +kernel
theorem dX3_layCells_52 : decode cX3_layCells 52 = .ok (.goto (-23), 3) := by decide +kernel
theorem dX3_layCells_55 : decode cX3_layCells 55 = .ok (.iconst 0, 1) := by decide +kernel
theorem dX3_layCells_56 : decode cX3_layCells 56 = .ok (.istore_n 2, 1) := by decide +kernel
theorem dX3_layCells_57 : decode cX3_layCells 57 = .ok (.iload_n 2, 1) := by decide +kernel
theorem dX3_layCells_58 : decode cX3_layCells 58 = .ok (.aload_n 0, 1) := by decide +kernel
theorem dX3_layCells_59 : decode cX3_layCells 59 = .ok (.getfield 15, 3) := by decide +kernel
theorem dX3_layCells_62 : decode cX3_layCells 62 = .ok (.if_icmp .ge 41, 3) := by decide +kernel
theorem dX3_layCells_65 : decode cX3_layCells 65 = .ok (.iconst 0, 1) := by decide +kernel
theorem dX3_layCells_66 : decode cX3_layCells 66 = .ok (.istore_n 3, 1) := by decide +kernel
theorem dX3_layCells_67 : decode cX3_layCells 67 = .ok (.iload_n 3, 1) := by decide +kernel
theorem dX3_layCells_68 : decode cX3_layCells 68 = .ok (.aload_n 0, 1) := by decide +kernel
theorem dX3_layCells_69 : decode cX3_layCells 69 = .ok (.getfield 19, 3) := by decide +kernel
theorem dX3_layCells_72 : decode cX3_layCells 72 = .ok (.if_icmp .ge 25, 3) := by decide +kernel
theorem dX3_layCells_75 : decode cX3_layCells 75 = .ok (.aload_n 0, 1) := by decide +kernel
theorem dX3_layCells_76 : decode cX3_layCells 76 = .ok (.getfield 25, 3) := by decide +kernel
theorem dX3_layCells_79 : decode cX3_layCells 79 = .ok (.iload_n 2, 1) := by decide +kernel
theorem dX3_layCells_80 : decode cX3_layCells 80 = .ok (.iload_n 3, 1) := by decide +kernel
theorem dX3_layCells_81 : decode cX3_layCells 81 = .ok (.invokestatic 97, 3) := by decide +kernel
theorem dX3_layCells_84 : decode cX3_layCells 84 = .ok (.aload_n 1, 1) := by decide +kernel
theorem dX3_layCells_85 : decode cX3_layCells 85 = .ok (.iload_n 2, 1) := by decide +kernel
theorem dX3_layCells_86 : decode cX3_layCells 86 = .ok (.iload_n 3, 1) := by decide +kernel
theorem dX3_layCells_87 : decode cX3_layCells 87 = .ok (.invokevirtual 113, 3) := by decide +kernel
theorem dX3_layCells_90 : decode cX3_layCells 90 = .ok (.iastore, 1) := by decide +kernel
theorem dX3_layCells_91 : decode cX3_layCells 91 = .ok (.iinc 3 1, 3) := by decide +kernel
theorem dX3_layCells_94 : decode cX3_layCells 94 = .ok (.goto (-27), 3) := by decide +kernel
theorem dX3_layCells_97 : decode cX3_layCells 97 = .ok (.iinc 2 1, 3) := by decide +kernel
theorem dX3_layCells_100 : decode cX3_layCells 100 = .ok (.goto (-43), 3) := by decide +kernel
theorem dX3_layCells_103 : decode cX3_layCells 103 = .ok (.return_, 1) := by decide +kernel
theorem dX3_reckonWorths_0 : decode cX3_reckonWorths 0 = .ok (.iconst 0, 1) := by decide +kernel
theorem dX3_reckonWorths_1 : decode cX3_reckonWorths 1 = .ok (.istore_n 1, 1) := by decide +kernel
theorem dX3_reckonWorths_2 : decode cX3_reckonWorths 2 = .ok (.iload_n 1, 1) := by decide +kernel
theorem dX3_reckonWorths_3 : decode cX3_reckonWorths 3 = .ok (.bipush 6, 2) := by decide +kernel
theorem dX3_reckonWorths_5 : decode cX3_reckonWorths 5 = .ok (.if_icmp .ge 23, 3) := by decide +kernel
theorem dX3_reckonWorths_8 : decode cX3_reckonWorths 8 = .ok (.aload_n 0, 1) := by decide +kernel
theorem dX3_reckonWorths_9 : decode cX3_reckonWorths 9 = .ok (.getfield 51, 3) := by decide +kernel
theorem dX3_reckonWorths_12 : decode cX3_reckonWorths 12 = .ok (.iload_n 1, 1) := by decide +kernel
theorem dX3_reckonWorths_13 : decode cX3_reckonWorths 13 = .ok (.iconst 0, 1) := by decide +kernel
theorem dX3_reckonWorths_14 : decode cX3_reckonWorths 14 = .ok (.bastore, 1) := by decide +kernel
theorem dX3_reckonWorths_15 : decode cX3_reckonWorths 15 = .ok (.aload_n 0, 1) := by decide +kernel
theorem dX3_reckonWorths_16 : decode cX3_reckonWorths 16 = .ok (.getfield 54, 3) := by decide +kernel
theorem dX3_reckonWorths_19 : decode cX3_reckonWorths 19 = .ok (.iload_n 1, 1) := by decide +kernel
theorem dX3_reckonWorths_20 : decode cX3_reckonWorths 20 = .ok (.iconst 0, 1) := by decide +kernel
theorem dX3_reckonWorths_21 : decode cX3_reckonWorths 21 = .ok (.bastore, 1) := by decide +kernel
theorem dX3_reckonWorths_22 : decode cX3_reckonWorths 22 = .ok (.iinc 1 1, 3) := by decide +kernel
theorem dX3_reckonWorths_25 : decode cX3_reckonWorths 25 = .ok (.goto (-23), 3) := by decide +kernel
theorem dX3_reckonWorths_28 : decode cX3_reckonWorths 28 = .ok (.aload_n 0, 1) := by decide +kernel
theorem dX3_reckonWorths_29 : decode cX3_reckonWorths 29 = .ok (.getfield 36, 3) := by decide +kernel
theorem dX3_reckonWorths_32 : decode cX3_reckonWorths 32 = .ok (.iconst 0, 1) := by decide +kernel
theorem dX3_reckonWorths_33 : decode cX3_reckonWorths 33 = .ok (.iconst 0, 1) := by decide +kernel
theorem dX3_reckonWorths_34 : decode cX3_reckonWorths 34 = .ok (.iastore, 1) := by decide +kernel
theorem dX3_reckonWorths_35 : decode cX3_reckonWorths 35 = .ok (.aload_n 0, 1) := by decide +kernel
theorem dX3_reckonWorths_36 : decode cX3_reckonWorths 36 = .ok (.getfield 51, 3) := by decide +kernel
theorem dX3_reckonWorths_39 : decode cX3_reckonWorths 39 = .ok (.iconst 0, 1) := by decide +kernel
theorem dX3_reckonWorths_40 : decode cX3_reckonWorths 40 = .ok (.iconst 1, 1) := by decide +kernel
theorem dX3_reckonWorths_41 : decode cX3_reckonWorths 41 = .ok (.bastore, 1) := by decide +kernel
theorem dX3_reckonWorths_42 : decode cX3_reckonWorths 42 = .ok (.iconst 0, 1) := by decide +kernel
theorem dX3_reckonWorths_43 : decode cX3_reckonWorths 43 = .ok (.istore_n 1, 1) := by decide +kernel
theorem dX3_reckonWorths_44 : decode cX3_reckonWorths 44 = .ok (.iload_n 1, 1) := by decide +kernel
theorem dX3_reckonWorths_45 : decode cX3_reckonWorths 45 = .ok (.aload_n 0, 1) := by decide +kernel
theorem dX3_reckonWorths_46 : decode cX3_reckonWorths 46 = .ok (.getfield 15, 3) := by decide +kernel
theorem dX3_reckonWorths_49 : decode cX3_reckonWorths 49 = .ok (.aload_n 0, 1) := by decide +kernel
theorem dX3_reckonWorths_50 : decode cX3_reckonWorths 50 = .ok (.getfield 19, 3) := by decide +kernel
theorem dX3_reckonWorths_53 : decode cX3_reckonWorths 53 = .ok (.iadd, 1) := by decide +kernel
theorem dX3_reckonWorths_54 : decode cX3_reckonWorths 54 = .ok (.if_icmp .ge 17, 3) := by decide +kernel
theorem dX3_reckonWorths_57 : decode cX3_reckonWorths 57 = .ok (.aload_n 0, 1) := by decide +kernel
theorem dX3_reckonWorths_58 : decode cX3_reckonWorths 58 = .ok (.invokevirtual 118, 3) := by decide +kernel
theorem dX3_reckonWorths_61 : decode cX3_reckonWorths 61 = .ok (.ifCond .ne 4, 3) := by decide +kernel
theorem dX3_reckonWorths_64 : decode cX3_reckonWorths 64 = .ok (.return_, 1) := by decide +kernel
theorem dX3_reckonWorths_65 : decode cX3_reckonWorths 65 = .ok (.iinc 1 1, 3) := by decide +kernel
theorem dX3_reckonWorths_68 : decode cX3_reckonWorths 68 = .ok (.goto (-24), 3) := by decide +kernel
theorem dX3_reckonWorths_71 : decode cX3_reckonWorths 71 = .ok (.return_, 1) := by decide +kernel
theorem dX3_spreadWorths_0 : decode cX3_spreadWorths 0 = .ok (.iconst 0, 1) := by decide +kernel
theorem dX3_spreadWorths_1 : decode cX3_spreadWorths 1 = .ok (.istore_n 1, 1) := by decide +kernel
theorem dX3_spreadWorths_2 : decode cX3_spreadWorths 2 = .ok (.iconst 0, 1) := by decide +kernel
theorem dX3_spreadWorths_3 : decode cX3_spreadWorths 3 = .ok (.istore_n 2, 1) := by decide +kernel
theorem dX3_spreadWorths_4 : decode cX3_spreadWorths 4 = .ok (.iload_n 2, 1) := by decide +kernel
theorem dX3_spreadWorths_5 : decode cX3_spreadWorths 5 = .ok (.bipush 36, 2) := by decide +kernel
theorem dX3_spreadWorths_7 : decode cX3_spreadWorths 7 = .ok (.if_icmp .ge 117, 3) := by decide +kernel
theorem dX3_spreadWorths_10 : decode cX3_spreadWorths 10 = .ok (.iload_n 2, 1) := by decide +kernel
theorem dX3_spreadWorths_11 : decode cX3_spreadWorths 11 = .ok (.bipush 6, 2) := by decide +kernel
theorem dX3_spreadWorths_13 : decode cX3_spreadWorths 13 = .ok (.idiv, 1) := by decide +kernel
theorem dX3_spreadWorths_14 : decode cX3_spreadWorths 14 = .ok (.istore_n 3, 1) := by decide +kernel
theorem dX3_spreadWorths_15 : decode cX3_spreadWorths 15 = .ok (.iload_n 2, 1) := by decide +kernel
theorem dX3_spreadWorths_16 : decode cX3_spreadWorths 16 = .ok (.bipush 6, 2) := by decide +kernel
theorem dX3_spreadWorths_18 : decode cX3_spreadWorths 18 = .ok (.irem, 1) := by decide +kernel
theorem dX3_spreadWorths_19 : decode cX3_spreadWorths 19 = .ok (.istore 4, 2) := by decide +kernel
theorem dX3_spreadWorths_21 : decode cX3_spreadWorths 21 = .ok (.aload_n 0, 1) := by decide +kernel
theorem dX3_spreadWorths_22 : decode cX3_spreadWorths 22 = .ok (.getfield 32, 3) := by decide +kernel
theorem dX3_spreadWorths_25 : decode cX3_spreadWorths 25 = .ok (.iload_n 2, 1) := by decide +kernel
theorem dX3_spreadWorths_26 : decode cX3_spreadWorths 26 = .ok (.baload, 1) := by decide +kernel
theorem dX3_spreadWorths_27 : decode cX3_spreadWorths 27 = .ok (.ifCond .eq 91, 3) := by decide +kernel
theorem dX3_spreadWorths_30 : decode cX3_spreadWorths 30 = .ok (.aload_n 0, 1) := by decide +kernel
theorem dX3_spreadWorths_31 : decode cX3_spreadWorths 31 = .ok (.getfield 51, 3) := by decide +kernel
theorem dX3_spreadWorths_34 : decode cX3_spreadWorths 34 = .ok (.iload_n 3, 1) := by decide +kernel
theorem dX3_spreadWorths_35 : decode cX3_spreadWorths 35 = .ok (.baload, 1) := by decide +kernel
theorem dX3_spreadWorths_36 : decode cX3_spreadWorths 36 = .ok (.aload_n 0, 1) := by decide +kernel
theorem dX3_spreadWorths_37 : decode cX3_spreadWorths 37 = .ok (.getfield 54, 3) := by decide +kernel
theorem dX3_spreadWorths_40 : decode cX3_spreadWorths 40 = .ok (.iload 4, 2) := by decide +kernel
theorem dX3_spreadWorths_42 : decode cX3_spreadWorths 42 = .ok (.baload, 1) := by decide +kernel
theorem dX3_spreadWorths_43 : decode cX3_spreadWorths 43 = .ok (.if_icmp .ne 6, 3) := by decide +kernel
theorem dX3_spreadWorths_46 : decode cX3_spreadWorths 46 = .ok (.goto 72, 3) := by decide +kernel
theorem dX3_spreadWorths_49 : decode cX3_spreadWorths 49 = .ok (.aload_n 0, 1) := by decide +kernel
theorem dX3_spreadWorths_50 : decode cX3_spreadWorths 50 = .ok (.getfield 51, 3) := by decide +kernel
theorem dX3_spreadWorths_53 : decode cX3_spreadWorths 53 = .ok (.iload_n 3, 1) := by decide +kernel
theorem dX3_spreadWorths_54 : decode cX3_spreadWorths 54 = .ok (.baload, 1) := by decide +kernel
theorem dX3_spreadWorths_55 : decode cX3_spreadWorths 55 = .ok (.ifCond .eq 26, 3) := by decide +kernel
theorem dX3_spreadWorths_58 : decode cX3_spreadWorths 58 = .ok (.aload_n 0, 1) := by decide +kernel
theorem dX3_spreadWorths_59 : decode cX3_spreadWorths 59 = .ok (.getfield 39, 3) := by decide +kernel
theorem dX3_spreadWorths_62 : decode cX3_spreadWorths 62 = .ok (.iload 4, 2) := by decide +kernel
theorem dX3_spreadWorths_64 : decode cX3_spreadWorths 64 = .ok (.aload_n 0, 1) := by decide +kernel
theorem dX3_spreadWorths_65 : decode cX3_spreadWorths 65 = .ok (.getfield 25, 3) := by decide +kernel
theorem dX3_spreadWorths_68 : decode cX3_spreadWorths 68 = .ok (.iload_n 2, 1) := by decide +kernel
theorem dX3_spreadWorths_69 : decode cX3_spreadWorths 69 = .ok (.iaload, 1) := by decide +kernel
theorem dX3_spreadWorths_70 : decode cX3_spreadWorths 70 = .ok (.aload_n 0, 1) := by decide +kernel
theorem dX3_spreadWorths_71 : decode cX3_spreadWorths 71 = .ok (.getfield 36, 3) := by decide +kernel
theorem dX3_spreadWorths_74 : decode cX3_spreadWorths 74 = .ok (.iload_n 3, 1) := by decide +kernel
theorem dX3_spreadWorths_75 : decode cX3_spreadWorths 75 = .ok (.iaload, 1) := by decide +kernel
theorem dX3_spreadWorths_76 : decode cX3_spreadWorths 76 = .ok (.isub, 1) := by decide +kernel
theorem dX3_spreadWorths_77 : decode cX3_spreadWorths 77 = .ok (.iastore, 1) := by decide +kernel
theorem dX3_spreadWorths_78 : decode cX3_spreadWorths 78 = .ok (.goto 23, 3) := by decide +kernel
theorem dX3_spreadWorths_81 : decode cX3_spreadWorths 81 = .ok (.aload_n 0, 1) := by decide +kernel
theorem dX3_spreadWorths_82 : decode cX3_spreadWorths 82 = .ok (.getfield 36, 3) := by decide +kernel
theorem dX3_spreadWorths_85 : decode cX3_spreadWorths 85 = .ok (.iload_n 3, 1) := by decide +kernel
theorem dX3_spreadWorths_86 : decode cX3_spreadWorths 86 = .ok (.aload_n 0, 1) := by decide +kernel
theorem dX3_spreadWorths_87 : decode cX3_spreadWorths 87 = .ok (.getfield 25, 3) := by decide +kernel
theorem dX3_spreadWorths_90 : decode cX3_spreadWorths 90 = .ok (.iload_n 2, 1) := by decide +kernel
theorem dX3_spreadWorths_91 : decode cX3_spreadWorths 91 = .ok (.iaload, 1) := by decide +kernel
theorem dX3_spreadWorths_92 : decode cX3_spreadWorths 92 = .ok (.aload_n 0, 1) := by decide +kernel
theorem dX3_spreadWorths_93 : decode cX3_spreadWorths 93 = .ok (.getfield 39, 3) := by decide +kernel
theorem dX3_spreadWorths_96 : decode cX3_spreadWorths 96 = .ok (.iload 4, 2) := by decide +kernel
theorem dX3_spreadWorths_98 : decode cX3_spreadWorths 98 = .ok (.iaload, 1) := by decide +kernel
theorem dX3_spreadWorths_99 : decode cX3_spreadWorths 99 = .ok (.isub, 1) := by decide +kernel
theorem dX3_spreadWorths_100 : decode cX3_spreadWorths 100 = .ok (.iastore, 1) := by decide +kernel
theorem dX3_spreadWorths_101 : decode cX3_spreadWorths 101 = .ok (.aload_n 0, 1) := by decide +kernel
theorem dX3_spreadWorths_102 : decode cX3_spreadWorths 102 = .ok (.getfield 51, 3) := by decide +kernel
theorem dX3_spreadWorths_105 : decode cX3_spreadWorths 105 = .ok (.iload_n 3, 1) := by decide +kernel
theorem dX3_spreadWorths_106 : decode cX3_spreadWorths 106 = .ok (.iconst 1, 1) := by decide +kernel
theorem dX3_spreadWorths_107 : decode cX3_spreadWorths 107 = .ok (.bastore, 1) := by decide +kernel
theorem dX3_spreadWorths_108 : decode cX3_spreadWorths 108 = .ok (.aload_n 0, 1) := by decide +kernel
theorem dX3_spreadWorths_109 : decode cX3_spreadWorths 109 = .ok (.getfield 54, 3) := by decide +kernel
theorem dX3_spreadWorths_112 : decode cX3_spreadWorths 112 = .ok (.iload 4, 2) := by decide +kernel
theorem dX3_spreadWorths_114 : decode cX3_spreadWorths 114 = .ok (.iconst 1, 1) := by decide +kernel
theorem dX3_spreadWorths_115 : decode cX3_spreadWorths 115 = .ok (.bastore, 1) := by decide +kernel
theorem dX3_spreadWorths_116 : decode cX3_spreadWorths 116 = .ok (.iconst 1, 1) := by decide +kernel
theorem dX3_spreadWorths_117 : decode cX3_spreadWorths 117 = .ok (.istore_n 1, 1) := by decide +kernel
theorem dX3_spreadWorths_118 : decode cX3_spreadWorths 118 = .ok (.iinc 2 1, 3) := by decide +kernel
theorem dX3_spreadWorths_121 : decode cX3_spreadWorths 121 = .ok (.goto (-117), 3) := by decide +kernel
theorem dX3_spreadWorths_124 : decode cX3_spreadWorths 124 = .ok (.iload_n 1, 1) := by decide +kernel
theorem dX3_spreadWorths_125 : decode cX3_spreadWorths 125 = .ok (.ireturn, 1) := by decide +kernel
theorem dX3_surplusAt_0 : decode cX3_surplusAt 0 = .ok (.aload_n 0, 1) := by decide +kernel
theorem dX3_surplusAt_1 : decode cX3_surplusAt 1 = .ok (.getfield 25, 3) := by decide +kernel
theorem dX3_surplusAt_4 : decode cX3_surplusAt 4 = .ok (.iload_n 1, 1) := by decide +kernel
theorem dX3_surplusAt_5 : decode cX3_surplusAt 5 = .ok (.iload_n 2, 1) := by decide +kernel
theorem dX3_surplusAt_6 : decode cX3_surplusAt 6 = .ok (.invokestatic 97, 3) := by decide +kernel
theorem dX3_surplusAt_9 : decode cX3_surplusAt 9 = .ok (.iaload, 1) := by decide +kernel
theorem dX3_surplusAt_10 : decode cX3_surplusAt 10 = .ok (.aload_n 0, 1) := by decide +kernel
theorem dX3_surplusAt_11 : decode cX3_surplusAt 11 = .ok (.getfield 36, 3) := by decide +kernel
theorem dX3_surplusAt_14 : decode cX3_surplusAt 14 = .ok (.iload_n 1, 1) := by decide +kernel
theorem dX3_surplusAt_15 : decode cX3_surplusAt 15 = .ok (.iaload, 1) := by decide +kernel
theorem dX3_surplusAt_16 : decode cX3_surplusAt 16 = .ok (.isub, 1) := by decide +kernel
theorem dX3_surplusAt_17 : decode cX3_surplusAt 17 = .ok (.aload_n 0, 1) := by decide +kernel
theorem dX3_surplusAt_18 : decode cX3_surplusAt 18 = .ok (.getfield 39, 3) := by decide +kernel
theorem dX3_surplusAt_21 : decode cX3_surplusAt 21 = .ok (.iload_n 2, 1) := by decide +kernel
theorem dX3_surplusAt_22 : decode cX3_surplusAt 22 = .ok (.iaload, 1) := by decide +kernel
theorem dX3_surplusAt_23 : decode cX3_surplusAt 23 = .ok (.isub, 1) := by decide +kernel
theorem dX3_surplusAt_24 : decode cX3_surplusAt 24 = .ok (.ireturn, 1) := by decide +kernel
theorem dX3_isProved_0 : decode cX3_isProved 0 = .ok (.aload_n 0, 1) := by decide +kernel
theorem dX3_isProved_1 : decode cX3_isProved 1 = .ok (.iconst 1, 1) := by decide +kernel
theorem dX3_isProved_2 : decode cX3_isProved 2 = .ok (.invokevirtual 122, 3) := by decide +kernel
theorem dX3_isProved_5 : decode cX3_isProved 5 = .ok (.iconst (-1), 1) := by decide +kernel
theorem dX3_isProved_6 : decode cX3_isProved 6 = .ok (.if_icmp .ne 7, 3) := by decide +kernel
theorem dX3_isProved_9 : decode cX3_isProved 9 = .ok (.iconst 1, 1) := by decide +kernel
theorem dX3_isProved_10 : decode cX3_isProved 10 = .ok (.goto 4, 3) := by decide +kernel
theorem dX3_isProved_13 : decode cX3_isProved 13 = .ok (.iconst 0, 1) := by decide +kernel
theorem dX3_isProved_14 : decode cX3_isProved 14 = .ok (.ireturn, 1) := by decide +kernel
theorem dX3_findEntering_0 : decode cX3_findEntering 0 = .ok (.iconst (-1), 1) := by decide +kernel
theorem dX3_findEntering_1 : decode cX3_findEntering 1 = .ok (.istore_n 2, 1) := by decide +kernel
theorem dX3_findEntering_2 : decode cX3_findEntering 2 = .ok (.iconst 0, 1) := by decide +kernel
theorem dX3_findEntering_3 : decode cX3_findEntering 3 = .ok (.istore_n 3, 1) := by decide +kernel
theorem dX3_findEntering_4 : decode cX3_findEntering 4 = .ok (.iconst 0, 1) := by decide +kernel
theorem dX3_findEntering_5 : decode cX3_findEntering 5 = .ok (.istore 4, 2) := by decide +kernel
theorem dX3_findEntering_7 : decode cX3_findEntering 7 = .ok (.iload 4, 2) := by decide +kernel
theorem dX3_findEntering_9 : decode cX3_findEntering 9 = .ok (.aload_n 0, 1) := by decide +kernel
theorem dX3_findEntering_10 : decode cX3_findEntering 10 = .ok (.getfield 15, 3) := by decide +kernel
theorem dX3_findEntering_13 : decode cX3_findEntering 13 = .ok (.if_icmp .ge 121, 3) := by decide +kernel
theorem dX3_findEntering_16 : decode cX3_findEntering 16 = .ok (.iconst 0, 1) := by decide +kernel
theorem dX3_findEntering_17 : decode cX3_findEntering 17 = .ok (.istore 5, 2) := by decide +kernel
theorem dX3_findEntering_19 : decode cX3_findEntering 19 = .ok (.iload 5, 2) := by decide +kernel
theorem dX3_findEntering_21 : decode cX3_findEntering 21 = .ok (.aload_n 0, 1) := by decide +kernel
theorem dX3_findEntering_22 : decode cX3_findEntering 22 = .ok (.getfield 19, 3) := by decide +kernel
theorem dX3_findEntering_25 : decode cX3_findEntering 25 = .ok (.if_icmp .ge 103, 3) := by decide +kernel
theorem dX3_findEntering_28 : decode cX3_findEntering 28 = .ok (.aload_n 0, 1) := by decide +kernel
theorem dX3_findEntering_29 : decode cX3_findEntering 29 = .ok (.iload 4, 2) := by decide +kernel
theorem dX3_findEntering_31 : decode cX3_findEntering 31 = .ok (.iload 5, 2) := by decide +kernel
theorem dX3_findEntering_33 : decode cX3_findEntering 33 = .ok (.invokevirtual 126, 3) := by decide +kernel
theorem dX3_findEntering_36 : decode cX3_findEntering 36 = .ok (.ifCond .lt 6, 3) := by decide +kernel
theorem dX3_findEntering_39 : decode cX3_findEntering 39 = .ok (.goto 83, 3) := by decide +kernel
theorem dX3_findEntering_42 : decode cX3_findEntering 42 = .ok (.iload_n 1, 1) := by decide +kernel
theorem dX3_findEntering_43 : decode cX3_findEntering 43 = .ok (.iconst 1, 1) := by decide +kernel
theorem dX3_findEntering_44 : decode cX3_findEntering 44 = .ok (.if_icmp .ne 7, 3) := by decide +kernel
theorem dX3_findEntering_47 : decode cX3_findEntering 47 = .ok (.iconst 0, 1) := by decide +kernel
theorem dX3_findEntering_48 : decode cX3_findEntering 48 = .ok (.goto 11, 3) := by decide +kernel
theorem dX3_findEntering_51 : decode cX3_findEntering 51 = .ok (.aload_n 0, 1) := by decide +kernel
theorem dX3_findEntering_52 : decode cX3_findEntering 52 = .ok (.iload 4, 2) := by decide +kernel
theorem dX3_findEntering_54 : decode cX3_findEntering 54 = .ok (.iload 5, 2) := by decide +kernel
theorem dX3_findEntering_56 : decode cX3_findEntering 56 = .ok (.invokevirtual 126, 3) := by decide +kernel
theorem dX3_findEntering_59 : decode cX3_findEntering 59 = .ok (.istore 6, 2) := by decide +kernel
theorem dX3_findEntering_61 : decode cX3_findEntering 61 = .ok (.iload_n 1, 1) := by decide +kernel
theorem dX3_findEntering_62 : decode cX3_findEntering 62 = .ok (.iconst 2, 1) := by decide +kernel
theorem dX3_findEntering_63 : decode cX3_findEntering 63 = .ok (.if_icmp .ne 37, 3) := by decide +kernel
theorem dX3_findEntering_66 : decode cX3_findEntering 66 = .ok (.aload_n 0, 1) := by decide +kernel
theorem dX3_findEntering_67 : decode cX3_findEntering 67 = .ok (.getfield 67, 3) := by decide +kernel
theorem dX3_findEntering_70 : decode cX3_findEntering 70 = .ok (.iload 4, 2) := by decide +kernel
theorem dX3_findEntering_72 : decode cX3_findEntering 72 = .ok (.iload 5, 2) := by decide +kernel
theorem dX3_findEntering_74 : decode cX3_findEntering 74 = .ok (.invokestatic 97, 3) := by decide +kernel
theorem dX3_findEntering_77 : decode cX3_findEntering 77 = .ok (.aload_n 0, 1) := by decide +kernel
theorem dX3_findEntering_78 : decode cX3_findEntering 78 = .ok (.getfield 32, 3) := by decide +kernel
theorem dX3_findEntering_81 : decode cX3_findEntering 81 = .ok (.invokevirtual 129, 3) := by decide +kernel
theorem dX3_findEntering_84 : decode cX3_findEntering 84 = .ok (.iload 6, 2) := by decide +kernel
theorem dX3_findEntering_86 : decode cX3_findEntering 86 = .ok (.aload_n 0, 1) := by decide +kernel
theorem dX3_findEntering_87 : decode cX3_findEntering 87 = .ok (.getfield 67, 3) := by decide +kernel
theorem dX3_findEntering_90 : decode cX3_findEntering 90 = .ok (.aload_n 0, 1) := by decide +kernel
theorem dX3_findEntering_91 : decode cX3_findEntering 91 = .ok (.getfield 29, 3) := by decide +kernel
theorem dX3_findEntering_94 : decode cX3_findEntering 94 = .ok (.invokevirtual 133, 3) := by decide +kernel
theorem dX3_findEntering_97 : decode cX3_findEntering 97 = .ok (.imul, 1) := by decide +kernel
theorem dX3_findEntering_98 : decode cX3_findEntering 98 = .ok (.istore 6, 2) := by decide +kernel
theorem dX3_findEntering_100 : decode cX3_findEntering 100 = .ok (.iload_n 2, 1) := by decide +kernel
theorem dX3_findEntering_101 : decode cX3_findEntering 101 = .ok (.iconst (-1), 1) := by decide +kernel
theorem dX3_findEntering_102 : decode cX3_findEntering 102 = .ok (.if_icmp .eq 9, 3) := by decide +kernel
theorem dX3_findEntering_105 : decode cX3_findEntering 105 = .ok (.iload 6, 2) := by decide +kernel
theorem dX3_findEntering_107 : decode cX3_findEntering 107 = .ok (.iload_n 3, 1) := by decide +kernel
theorem dX3_findEntering_108 : decode cX3_findEntering 108 = .ok (.if_icmp .ge 14, 3) := by decide +kernel
theorem dX3_findEntering_111 : decode cX3_findEntering 111 = .ok (.iload 4, 2) := by decide +kernel
theorem dX3_findEntering_113 : decode cX3_findEntering 113 = .ok (.iload 5, 2) := by decide +kernel
theorem dX3_findEntering_115 : decode cX3_findEntering 115 = .ok (.invokestatic 97, 3) := by decide +kernel
theorem dX3_findEntering_118 : decode cX3_findEntering 118 = .ok (.istore_n 2, 1) := by decide +kernel
theorem dX3_findEntering_119 : decode cX3_findEntering 119 = .ok (.iload 6, 2) := by decide +kernel
theorem dX3_findEntering_121 : decode cX3_findEntering 121 = .ok (.istore_n 3, 1) := by decide +kernel
theorem dX3_findEntering_122 : decode cX3_findEntering 122 = .ok (.iinc 5 1, 3) := by decide +kernel
theorem dX3_findEntering_125 : decode cX3_findEntering 125 = .ok (.goto (-106), 3) := by decide +kernel
theorem dX3_findEntering_128 : decode cX3_findEntering 128 = .ok (.iinc 4 1, 3) := by decide +kernel
theorem dX3_findEntering_131 : decode cX3_findEntering 131 = .ok (.goto (-124), 3) := by decide +kernel
theorem dX3_findEntering_134 : decode cX3_findEntering 134 = .ok (.iload_n 2, 1) := by decide +kernel
theorem dX3_findEntering_135 : decode cX3_findEntering 135 = .ok (.ireturn, 1) := by decide +kernel
theorem dX3_stepOften_0 : decode cX3_stepOften 0 = .ok (.iconst 0, 1) := by decide +kernel
theorem dX3_stepOften_1 : decode cX3_stepOften 1 = .ok (.istore_n 3, 1) := by decide +kernel
theorem dX3_stepOften_2 : decode cX3_stepOften 2 = .ok (.iload_n 3, 1) := by decide +kernel
theorem dX3_stepOften_3 : decode cX3_stepOften 3 = .ok (.iload_n 2, 1) := by decide +kernel
theorem dX3_stepOften_4 : decode cX3_stepOften 4 = .ok (.if_icmp .ge 56, 3) := by decide +kernel
theorem dX3_stepOften_7 : decode cX3_stepOften 7 = .ok (.aload_n 0, 1) := by decide +kernel
theorem dX3_stepOften_8 : decode cX3_stepOften 8 = .ok (.iload_n 1, 1) := by decide +kernel
theorem dX3_stepOften_9 : decode cX3_stepOften 9 = .ok (.invokevirtual 122, 3) := by decide +kernel
theorem dX3_stepOften_12 : decode cX3_stepOften 12 = .ok (.istore 4, 2) := by decide +kernel
theorem dX3_stepOften_14 : decode cX3_stepOften 14 = .ok (.iload 4, 2) := by decide +kernel
theorem dX3_stepOften_16 : decode cX3_stepOften 16 = .ok (.iconst (-1), 1) := by decide +kernel
theorem dX3_stepOften_17 : decode cX3_stepOften 17 = .ok (.if_icmp .eq 12, 3) := by decide +kernel
theorem dX3_stepOften_20 : decode cX3_stepOften 20 = .ok (.aload_n 0, 1) := by decide +kernel
theorem dX3_stepOften_21 : decode cX3_stepOften 21 = .ok (.getfield 22, 3) := by decide +kernel
theorem dX3_stepOften_24 : decode cX3_stepOften 24 = .ok (.bipush 100, 2) := by decide +kernel
theorem dX3_stepOften_26 : decode cX3_stepOften 26 = .ok (.if_icmp .lt 5, 3) := by decide +kernel
theorem dX3_stepOften_29 : decode cX3_stepOften 29 = .ok (.iload_n 3, 1) := by decide +kernel
theorem dX3_stepOften_30 : decode cX3_stepOften 30 = .ok (.ireturn, 1) := by decide +kernel
theorem dX3_stepOften_31 : decode cX3_stepOften 31 = .ok (.aload_n 0, 1) := by decide +kernel
theorem dX3_stepOften_32 : decode cX3_stepOften 32 = .ok (.getfield 67, 3) := by decide +kernel
theorem dX3_stepOften_35 : decode cX3_stepOften 35 = .ok (.iload 4, 2) := by decide +kernel
theorem dX3_stepOften_37 : decode cX3_stepOften 37 = .ok (.aload_n 0, 1) := by decide +kernel
theorem dX3_stepOften_38 : decode cX3_stepOften 38 = .ok (.getfield 32, 3) := by decide +kernel
theorem dX3_stepOften_41 : decode cX3_stepOften 41 = .ok (.invokevirtual 129, 3) := by decide +kernel
theorem dX3_stepOften_44 : decode cX3_stepOften 44 = .ok (.aload_n 0, 1) := by decide +kernel
theorem dX3_stepOften_45 : decode cX3_stepOften 45 = .ok (.iload 4, 2) := by decide +kernel
theorem dX3_stepOften_47 : decode cX3_stepOften 47 = .ok (.invokevirtual 137, 3) := by decide +kernel
theorem dX3_stepOften_50 : decode cX3_stepOften 50 = .ok (.aload_n 0, 1) := by decide +kernel
theorem dX3_stepOften_51 : decode cX3_stepOften 51 = .ok (.invokevirtual 108, 3) := by decide +kernel
theorem dX3_stepOften_54 : decode cX3_stepOften 54 = .ok (.iinc 3 1, 3) := by decide +kernel
theorem dX3_stepOften_57 : decode cX3_stepOften 57 = .ok (.goto (-55), 3) := by decide +kernel
theorem dX3_stepOften_60 : decode cX3_stepOften 60 = .ok (.iload_n 2, 1) := by decide +kernel
theorem dX3_stepOften_61 : decode cX3_stepOften 61 = .ok (.ireturn, 1) := by decide +kernel
theorem dX3_turnWay_0 : decode cX3_turnWay 0 = .ok (.aload_n 0, 1) := by decide +kernel
theorem dX3_turnWay_1 : decode cX3_turnWay 1 = .ok (.getfield 67, 3) := by decide +kernel
theorem dX3_turnWay_4 : decode cX3_turnWay 4 = .ok (.aload_n 0, 1) := by decide +kernel
theorem dX3_turnWay_5 : decode cX3_turnWay 5 = .ok (.getfield 29, 3) := by decide +kernel
theorem dX3_turnWay_8 : decode cX3_turnWay 8 = .ok (.invokevirtual 133, 3) := by decide +kernel
theorem dX3_turnWay_11 : decode cX3_turnWay 11 = .ok (.istore_n 2, 1) := by decide +kernel
theorem dX3_turnWay_12 : decode cX3_turnWay 12 = .ok (.aload_n 0, 1) := by decide +kernel
theorem dX3_turnWay_13 : decode cX3_turnWay 13 = .ok (.getfield 67, 3) := by decide +kernel
theorem dX3_turnWay_16 : decode cX3_turnWay 16 = .ok (.aload_n 0, 1) := by decide +kernel
theorem dX3_turnWay_17 : decode cX3_turnWay 17 = .ok (.getfield 29, 3) := by decide +kernel
theorem dX3_turnWay_20 : decode cX3_turnWay 20 = .ok (.iload_n 2, 1) := by decide +kernel
theorem dX3_turnWay_21 : decode cX3_turnWay 21 = .ok (.invokevirtual 141, 3) := by decide +kernel
theorem dX3_turnWay_24 : decode cX3_turnWay 24 = .ok (.istore_n 3, 1) := by decide +kernel
theorem dX3_turnWay_25 : decode cX3_turnWay 25 = .ok (.aload_n 0, 1) := by decide +kernel
theorem dX3_turnWay_26 : decode cX3_turnWay 26 = .ok (.getfield 67, 3) := by decide +kernel
theorem dX3_turnWay_29 : decode cX3_turnWay 29 = .ok (.aload_n 0, 1) := by decide +kernel
theorem dX3_turnWay_30 : decode cX3_turnWay 30 = .ok (.getfield 29, 3) := by decide +kernel
theorem dX3_turnWay_33 : decode cX3_turnWay 33 = .ok (.iload_n 2, 1) := by decide +kernel
theorem dX3_turnWay_34 : decode cX3_turnWay 34 = .ok (.invokevirtual 145, 3) := by decide +kernel
theorem dX3_turnWay_37 : decode cX3_turnWay 37 = .ok (.aload_n 0, 1) := by decide +kernel
theorem dX3_turnWay_38 : decode cX3_turnWay 38 = .ok (.getfield 32, 3) := by decide +kernel
theorem dX3_turnWay_41 : decode cX3_turnWay 41 = .ok (.iload_n 1, 1) := by decide +kernel
theorem dX3_turnWay_42 : decode cX3_turnWay 42 = .ok (.iconst 1, 1) := by decide +kernel
theorem dX3_turnWay_43 : decode cX3_turnWay 43 = .ok (.bastore, 1) := by decide +kernel
theorem dX3_turnWay_44 : decode cX3_turnWay 44 = .ok (.aload_n 0, 1) := by decide +kernel
theorem dX3_turnWay_45 : decode cX3_turnWay 45 = .ok (.getfield 32, 3) := by decide +kernel
theorem dX3_turnWay_48 : decode cX3_turnWay 48 = .ok (.iload_n 3, 1) := by decide +kernel
theorem dX3_turnWay_49 : decode cX3_turnWay 49 = .ok (.iconst 0, 1) := by decide +kernel
theorem dX3_turnWay_50 : decode cX3_turnWay 50 = .ok (.bastore, 1) := by decide +kernel
theorem dX3_turnWay_51 : decode cX3_turnWay 51 = .ok (.aload_n 0, 1) := by decide +kernel
theorem dX3_turnWay_52 : decode cX3_turnWay 52 = .ok (.getfield 42, 3) := by decide +kernel
theorem dX3_turnWay_55 : decode cX3_turnWay 55 = .ok (.aload_n 0, 1) := by decide +kernel
theorem dX3_turnWay_56 : decode cX3_turnWay 56 = .ok (.getfield 22, 3) := by decide +kernel
theorem dX3_turnWay_59 : decode cX3_turnWay 59 = .ok (.iload_n 1, 1) := by decide +kernel
theorem dX3_turnWay_60 : decode cX3_turnWay 60 = .ok (.iastore, 1) := by decide +kernel
theorem dX3_turnWay_61 : decode cX3_turnWay 61 = .ok (.aload_n 0, 1) := by decide +kernel
theorem dX3_turnWay_62 : decode cX3_turnWay 62 = .ok (.getfield 45, 3) := by decide +kernel
theorem dX3_turnWay_65 : decode cX3_turnWay 65 = .ok (.aload_n 0, 1) := by decide +kernel
theorem dX3_turnWay_66 : decode cX3_turnWay 66 = .ok (.getfield 22, 3) := by decide +kernel
theorem dX3_turnWay_69 : decode cX3_turnWay 69 = .ok (.iload_n 3, 1) := by decide +kernel
theorem dX3_turnWay_70 : decode cX3_turnWay 70 = .ok (.iastore, 1) := by decide +kernel
theorem dX3_turnWay_71 : decode cX3_turnWay 71 = .ok (.aload_n 0, 1) := by decide +kernel
theorem dX3_turnWay_72 : decode cX3_turnWay 72 = .ok (.getfield 48, 3) := by decide +kernel
theorem dX3_turnWay_75 : decode cX3_turnWay 75 = .ok (.aload_n 0, 1) := by decide +kernel
theorem dX3_turnWay_76 : decode cX3_turnWay 76 = .ok (.getfield 22, 3) := by decide +kernel
theorem dX3_turnWay_79 : decode cX3_turnWay 79 = .ok (.iload_n 2, 1) := by decide +kernel
theorem dX3_turnWay_80 : decode cX3_turnWay 80 = .ok (.iastore, 1) := by decide +kernel
theorem dX3_turnWay_81 : decode cX3_turnWay 81 = .ok (.aload_n 0, 1) := by decide +kernel
theorem dX3_turnWay_82 : decode cX3_turnWay 82 = .ok (.dup, 1) := by decide +kernel
theorem dX3_turnWay_83 : decode cX3_turnWay 83 = .ok (.getfield 22, 3) := by decide +kernel
theorem dX3_turnWay_86 : decode cX3_turnWay 86 = .ok (.iconst 1, 1) := by decide +kernel
theorem dX3_turnWay_87 : decode cX3_turnWay 87 = .ok (.iadd, 1) := by decide +kernel
theorem dX3_turnWay_88 : decode cX3_turnWay 88 = .ok (.putfield 22, 3) := by decide +kernel
theorem dX3_turnWay_91 : decode cX3_turnWay 91 = .ok (.return_, 1) := by decide +kernel
theorem dX3_total_0 : decode cX3_total 0 = .ok (.iconst 0, 1) := by decide +kernel
theorem dX3_total_1 : decode cX3_total 1 = .ok (.istore_n 1, 1) := by decide +kernel
theorem dX3_total_2 : decode cX3_total 2 = .ok (.iconst 0, 1) := by decide +kernel
theorem dX3_total_3 : decode cX3_total 3 = .ok (.istore_n 2, 1) := by decide +kernel
theorem dX3_total_4 : decode cX3_total 4 = .ok (.iload_n 2, 1) := by decide +kernel
theorem dX3_total_5 : decode cX3_total 5 = .ok (.aload_n 0, 1) := by decide +kernel
theorem dX3_total_6 : decode cX3_total 6 = .ok (.getfield 15, 3) := by decide +kernel
theorem dX3_total_9 : decode cX3_total 9 = .ok (.if_icmp .ge 49, 3) := by decide +kernel
theorem dX3_total_12 : decode cX3_total 12 = .ok (.iconst 0, 1) := by decide +kernel
theorem dX3_total_13 : decode cX3_total 13 = .ok (.istore_n 3, 1) := by decide +kernel
theorem dX3_total_14 : decode cX3_total 14 = .ok (.iload_n 3, 1) := by decide +kernel
theorem dX3_total_15 : decode cX3_total 15 = .ok (.aload_n 0, 1) := by decide +kernel
theorem dX3_total_16 : decode cX3_total 16 = .ok (.getfield 19, 3) := by decide +kernel
theorem dX3_total_19 : decode cX3_total 19 = .ok (.if_icmp .ge 33, 3) := by decide +kernel
theorem dX3_total_22 : decode cX3_total 22 = .ok (.iload_n 1, 1) := by decide +kernel
theorem dX3_total_23 : decode cX3_total 23 = .ok (.aload_n 0, 1) := by decide +kernel
theorem dX3_total_24 : decode cX3_total 24 = .ok (.getfield 29, 3) := by decide +kernel
theorem dX3_total_27 : decode cX3_total 27 = .ok (.iload_n 2, 1) := by decide +kernel
theorem dX3_total_28 : decode cX3_total 28 = .ok (.iload_n 3, 1) := by decide +kernel
theorem dX3_total_29 : decode cX3_total 29 = .ok (.invokestatic 97, 3) := by decide +kernel
theorem dX3_total_32 : decode cX3_total 32 = .ok (.iaload, 1) := by decide +kernel
theorem dX3_total_33 : decode cX3_total 33 = .ok (.aload_n 0, 1) := by decide +kernel
theorem dX3_total_34 : decode cX3_total 34 = .ok (.getfield 25, 3) := by decide +kernel
theorem dX3_total_37 : decode cX3_total 37 = .ok (.iload_n 2, 1) := by decide +kernel
theorem dX3_total_38 : decode cX3_total 38 = .ok (.iload_n 3, 1) := by decide +kernel
theorem dX3_total_39 : decode cX3_total 39 = .ok (.invokestatic 97, 3) := by decide +kernel
theorem dX3_total_42 : decode cX3_total 42 = .ok (.iaload, 1) := by decide +kernel
theorem dX3_total_43 : decode cX3_total 43 = .ok (.imul, 1) := by decide +kernel
theorem dX3_total_44 : decode cX3_total 44 = .ok (.iadd, 1) := by decide +kernel
theorem dX3_total_45 : decode cX3_total 45 = .ok (.istore_n 1, 1) := by decide +kernel
theorem dX3_total_46 : decode cX3_total 46 = .ok (.iinc 3 1, 3) := by decide +kernel
theorem dX3_total_49 : decode cX3_total 49 = .ok (.goto (-35), 3) := by decide +kernel
theorem dX3_total_52 : decode cX3_total 52 = .ok (.iinc 2 1, 3) := by decide +kernel
theorem dX3_total_55 : decode cX3_total 55 = .ok (.goto (-51), 3) := by decide +kernel
theorem dX3_total_58 : decode cX3_total 58 = .ok (.iload_n 1, 1) := by decide +kernel
theorem dX3_total_59 : decode cX3_total 59 = .ok (.ireturn, 1) := by decide +kernel
theorem dX3_allLoads_0 : decode cX3_allLoads 0 = .ok (.iconst 0, 1) := by decide +kernel
theorem dX3_allLoads_1 : decode cX3_allLoads 1 = .ok (.istore_n 1, 1) := by decide +kernel
theorem dX3_allLoads_2 : decode cX3_allLoads 2 = .ok (.iconst 0, 1) := by decide +kernel
theorem dX3_allLoads_3 : decode cX3_allLoads 3 = .ok (.istore_n 2, 1) := by decide +kernel
theorem dX3_allLoads_4 : decode cX3_allLoads 4 = .ok (.iload_n 2, 1) := by decide +kernel
theorem dX3_allLoads_5 : decode cX3_allLoads 5 = .ok (.aload_n 0, 1) := by decide +kernel
theorem dX3_allLoads_6 : decode cX3_allLoads 6 = .ok (.getfield 15, 3) := by decide +kernel
theorem dX3_allLoads_9 : decode cX3_allLoads 9 = .ok (.if_icmp .ge 38, 3) := by decide +kernel
theorem dX3_allLoads_12 : decode cX3_allLoads 12 = .ok (.iconst 0, 1) := by decide +kernel
theorem dX3_allLoads_13 : decode cX3_allLoads 13 = .ok (.istore_n 3, 1) := by decide +kernel
theorem dX3_allLoads_14 : decode cX3_allLoads 14 = .ok (.iload_n 3, 1) := by decide +kernel
theorem dX3_allLoads_15 : decode cX3_allLoads 15 = .ok (.aload_n 0, 1) := by decide +kernel
theorem dX3_allLoads_16 : decode cX3_allLoads 16 = .ok (.getfield 19, 3) := by decide +kernel
theorem dX3_allLoads_19 : decode cX3_allLoads 19 = .ok (.if_icmp .ge 22, 3) := by decide +kernel
theorem dX3_allLoads_22 : decode cX3_allLoads 22 = .ok (.iload_n 1, 1) := by decide +kernel
theorem dX3_allLoads_23 : decode cX3_allLoads 23 = .ok (.aload_n 0, 1) := by decide +kernel
theorem dX3_allLoads_24 : decode cX3_allLoads 24 = .ok (.getfield 29, 3) := by decide +kernel
theorem dX3_allLoads_27 : decode cX3_allLoads 27 = .ok (.iload_n 2, 1) := by decide +kernel
theorem dX3_allLoads_28 : decode cX3_allLoads 28 = .ok (.iload_n 3, 1) := by decide +kernel
theorem dX3_allLoads_29 : decode cX3_allLoads 29 = .ok (.invokestatic 97, 3) := by decide +kernel
theorem dX3_allLoads_32 : decode cX3_allLoads 32 = .ok (.iaload, 1) := by decide +kernel
theorem dX3_allLoads_33 : decode cX3_allLoads 33 = .ok (.iadd, 1) := by decide +kernel
theorem dX3_allLoads_34 : decode cX3_allLoads 34 = .ok (.istore_n 1, 1) := by decide +kernel
theorem dX3_allLoads_35 : decode cX3_allLoads 35 = .ok (.iinc 3 1, 3) := by decide +kernel
theorem dX3_allLoads_38 : decode cX3_allLoads 38 = .ok (.goto (-24), 3) := by decide +kernel
theorem dX3_allLoads_41 : decode cX3_allLoads 41 = .ok (.iinc 2 1, 3) := by decide +kernel
theorem dX3_allLoads_44 : decode cX3_allLoads 44 = .ok (.goto (-40), 3) := by decide +kernel
theorem dX3_allLoads_47 : decode cX3_allLoads 47 = .ok (.iload_n 1, 1) := by decide +kernel
theorem dX3_allLoads_48 : decode cX3_allLoads 48 = .ok (.ireturn, 1) := by decide +kernel
theorem dX3_keptZeros_0 : decode cX3_keptZeros 0 = .ok (.iconst 0, 1) := by decide +kernel
theorem dX3_keptZeros_1 : decode cX3_keptZeros 1 = .ok (.istore_n 1, 1) := by decide +kernel
theorem dX3_keptZeros_2 : decode cX3_keptZeros 2 = .ok (.iconst 0, 1) := by decide +kernel
theorem dX3_keptZeros_3 : decode cX3_keptZeros 3 = .ok (.istore_n 2, 1) := by decide +kernel
theorem dX3_keptZeros_4 : decode cX3_keptZeros 4 = .ok (.iload_n 2, 1) := by decide +kernel
theorem dX3_keptZeros_5 : decode cX3_keptZeros 5 = .ok (.aload_n 0, 1) := by decide +kernel
theorem dX3_keptZeros_6 : decode cX3_keptZeros 6 = .ok (.getfield 15, 3) := by decide +kernel
theorem dX3_keptZeros_9 : decode cX3_keptZeros 9 = .ok (.if_icmp .ge 59, 3) := by decide +kernel
theorem dX3_keptZeros_12 : decode cX3_keptZeros 12 = .ok (.iconst 0, 1) := by decide +kernel
theorem dX3_keptZeros_13 : decode cX3_keptZeros 13 = .ok (.istore_n 3, 1) := by decide +kernel
theorem dX3_keptZeros_14 : decode cX3_keptZeros 14 = .ok (.iload_n 3, 1) := by decide +kernel
theorem dX3_keptZeros_15 : decode cX3_keptZeros 15 = .ok (.aload_n 0, 1) := by decide +kernel
theorem dX3_keptZeros_16 : decode cX3_keptZeros 16 = .ok (.getfield 19, 3) := by decide +kernel
theorem dX3_keptZeros_19 : decode cX3_keptZeros 19 = .ok (.if_icmp .ge 43, 3) := by decide +kernel
theorem dX3_keptZeros_22 : decode cX3_keptZeros 22 = .ok (.iload_n 1, 1) := by decide +kernel
theorem dX3_keptZeros_23 : decode cX3_keptZeros 23 = .ok (.aload_n 0, 1) := by decide +kernel
theorem dX3_keptZeros_24 : decode cX3_keptZeros 24 = .ok (.getfield 32, 3) := by decide +kernel
theorem dX3_keptZeros_27 : decode cX3_keptZeros 27 = .ok (.iload_n 2, 1) := by decide +kernel
theorem dX3_keptZeros_28 : decode cX3_keptZeros 28 = .ok (.iload_n 3, 1) := by decide +kernel
theorem dX3_keptZeros_29 : decode cX3_keptZeros 29 = .ok (.invokestatic 97, 3) := by decide +kernel
theorem dX3_keptZeros_32 : decode cX3_keptZeros 32 = .ok (.baload, 1) := by decide +kernel
theorem dX3_keptZeros_33 : decode cX3_keptZeros 33 = .ok (.ifCond .eq 20, 3) := by decide +kernel
theorem dX3_keptZeros_36 : decode cX3_keptZeros 36 = .ok (.aload_n 0, 1) := by decide +kernel
theorem dX3_keptZeros_37 : decode cX3_keptZeros 37 = .ok (.getfield 29, 3) := by decide +kernel
theorem dX3_keptZeros_40 : decode cX3_keptZeros 40 = .ok (.iload_n 2, 1) := by decide +kernel
theorem dX3_keptZeros_41 : decode cX3_keptZeros 41 = .ok (.iload_n 3, 1) := by decide +kernel
theorem dX3_keptZeros_42 : decode cX3_keptZeros 42 = .ok (.invokestatic 97, 3) := by decide +kernel
theorem dX3_keptZeros_45 : decode cX3_keptZeros 45 = .ok (.iaload, 1) := by decide +kernel
theorem dX3_keptZeros_46 : decode cX3_keptZeros 46 = .ok (.ifCond .ne 7, 3) := by decide +kernel
theorem dX3_keptZeros_49 : decode cX3_keptZeros 49 = .ok (.iconst 1, 1) := by decide +kernel
theorem dX3_keptZeros_50 : decode cX3_keptZeros 50 = .ok (.goto 4, 3) := by decide +kernel
theorem dX3_keptZeros_53 : decode cX3_keptZeros 53 = .ok (.iconst 0, 1) := by decide +kernel
theorem dX3_keptZeros_54 : decode cX3_keptZeros 54 = .ok (.iadd, 1) := by decide +kernel
theorem dX3_keptZeros_55 : decode cX3_keptZeros 55 = .ok (.istore_n 1, 1) := by decide +kernel
theorem dX3_keptZeros_56 : decode cX3_keptZeros 56 = .ok (.iinc 3 1, 3) := by decide +kernel
theorem dX3_keptZeros_59 : decode cX3_keptZeros 59 = .ok (.goto (-45), 3) := by decide +kernel
theorem dX3_keptZeros_62 : decode cX3_keptZeros 62 = .ok (.iinc 2 1, 3) := by decide +kernel
theorem dX3_keptZeros_65 : decode cX3_keptZeros 65 = .ok (.goto (-61), 3) := by decide +kernel
theorem dX3_keptZeros_68 : decode cX3_keptZeros 68 = .ok (.iload_n 1, 1) := by decide +kernel
theorem dX3_keptZeros_69 : decode cX3_keptZeros 69 = .ok (.ireturn, 1) := by decide +kernel
theorem dX3_freeCells_0 : decode cX3_freeCells 0 = .ok (.iconst 0, 1) := by decide +kernel
theorem dX3_freeCells_1 : decode cX3_freeCells 1 = .ok (.istore_n 2, 1) := by decide +kernel
theorem dX3_freeCells_2 : decode cX3_freeCells 2 = .ok (.iconst 0, 1) := by decide +kernel
theorem dX3_freeCells_3 : decode cX3_freeCells 3 = .ok (.istore_n 3, 1) := by decide +kernel
theorem dX3_freeCells_4 : decode cX3_freeCells 4 = .ok (.iload_n 3, 1) := by decide +kernel
theorem dX3_freeCells_5 : decode cX3_freeCells 5 = .ok (.aload_n 0, 1) := by decide +kernel
theorem dX3_freeCells_6 : decode cX3_freeCells 6 = .ok (.getfield 15, 3) := by decide +kernel
theorem dX3_freeCells_9 : decode cX3_freeCells 9 = .ok (.if_icmp .ge 76, 3) := by decide +kernel
theorem dX3_freeCells_12 : decode cX3_freeCells 12 = .ok (.iconst 0, 1) := by decide +kernel
theorem dX3_freeCells_13 : decode cX3_freeCells 13 = .ok (.istore 4, 2) := by decide +kernel
theorem dX3_freeCells_15 : decode cX3_freeCells 15 = .ok (.iload 4, 2) := by decide +kernel
theorem dX3_freeCells_17 : decode cX3_freeCells 17 = .ok (.aload_n 0, 1) := by decide +kernel
theorem dX3_freeCells_18 : decode cX3_freeCells 18 = .ok (.getfield 19, 3) := by decide +kernel
theorem dX3_freeCells_21 : decode cX3_freeCells 21 = .ok (.if_icmp .ge 58, 3) := by decide +kernel
theorem dX3_freeCells_24 : decode cX3_freeCells 24 = .ok (.aload_n 0, 1) := by decide +kernel
theorem dX3_freeCells_25 : decode cX3_freeCells 25 = .ok (.iload_n 3, 1) := by decide +kernel
theorem dX3_freeCells_26 : decode cX3_freeCells 26 = .ok (.iload 4, 2) := by decide +kernel
theorem dX3_freeCells_28 : decode cX3_freeCells 28 = .ok (.invokevirtual 126, 3) := by decide +kernel
theorem dX3_freeCells_31 : decode cX3_freeCells 31 = .ok (.iconst 0, 1) := by decide +kernel
theorem dX3_freeCells_32 : decode cX3_freeCells 32 = .ok (.invokestatic 149, 3) := by decide +kernel
theorem dX3_freeCells_35 : decode cX3_freeCells 35 = .ok (.iload_n 1, 1) := by decide +kernel
theorem dX3_freeCells_36 : decode cX3_freeCells 36 = .ok (.if_icmp .ne 7, 3) := by decide +kernel
theorem dX3_freeCells_39 : decode cX3_freeCells 39 = .ok (.iconst 1, 1) := by decide +kernel
theorem dX3_freeCells_40 : decode cX3_freeCells 40 = .ok (.goto 4, 3) := by decide +kernel
theorem dX3_freeCells_43 : decode cX3_freeCells 43 = .ok (.iconst 0, 1) := by decide +kernel
theorem dX3_freeCells_44 : decode cX3_freeCells 44 = .ok (.istore 5, 2) := by decide +kernel
theorem dX3_freeCells_46 : decode cX3_freeCells 46 = .ok (.iload_n 2, 1) := by decide +kernel
theorem dX3_freeCells_47 : decode cX3_freeCells 47 = .ok (.iload 5, 2) := by decide +kernel
theorem dX3_freeCells_49 : decode cX3_freeCells 49 = .ok (.ifCond .eq 21, 3) := by decide +kernel
theorem dX3_freeCells_52 : decode cX3_freeCells 52 = .ok (.aload_n 0, 1) := by decide +kernel
theorem dX3_freeCells_53 : decode cX3_freeCells 53 = .ok (.getfield 32, 3) := by decide +kernel
theorem dX3_freeCells_56 : decode cX3_freeCells 56 = .ok (.iload_n 3, 1) := by decide +kernel
theorem dX3_freeCells_57 : decode cX3_freeCells 57 = .ok (.iload 4, 2) := by decide +kernel
theorem dX3_freeCells_59 : decode cX3_freeCells 59 = .ok (.invokestatic 97, 3) := by decide +kernel
theorem dX3_freeCells_62 : decode cX3_freeCells 62 = .ok (.baload, 1) := by decide +kernel
theorem dX3_freeCells_63 : decode cX3_freeCells 63 = .ok (.ifCond .ne 7, 3) := by decide +kernel
theorem dX3_freeCells_66 : decode cX3_freeCells 66 = .ok (.iconst 1, 1) := by decide +kernel
theorem dX3_freeCells_67 : decode cX3_freeCells 67 = .ok (.goto 4, 3) := by decide +kernel
theorem dX3_freeCells_70 : decode cX3_freeCells 70 = .ok (.iconst 0, 1) := by decide +kernel
theorem dX3_freeCells_71 : decode cX3_freeCells 71 = .ok (.iadd, 1) := by decide +kernel
theorem dX3_freeCells_72 : decode cX3_freeCells 72 = .ok (.istore_n 2, 1) := by decide +kernel
theorem dX3_freeCells_73 : decode cX3_freeCells 73 = .ok (.iinc 4 1, 3) := by decide +kernel
theorem dX3_freeCells_76 : decode cX3_freeCells 76 = .ok (.goto (-61), 3) := by decide +kernel
theorem dX3_freeCells_79 : decode cX3_freeCells 79 = .ok (.iinc 3 1, 3) := by decide +kernel
theorem dX3_freeCells_82 : decode cX3_freeCells 82 = .ok (.goto (-78), 3) := by decide +kernel
theorem dX3_freeCells_85 : decode cX3_freeCells 85 = .ok (.iload_n 2, 1) := by decide +kernel
theorem dX3_freeCells_86 : decode cX3_freeCells 86 = .ok (.ireturn, 1) := by decide +kernel
theorem dX3_judgeRow_0 : decode cX3_judgeRow 0 = .ok (.iconst 0, 1) := by decide +kernel
theorem dX3_judgeRow_1 : decode cX3_judgeRow 1 = .ok (.istore_n 3, 1) := by decide +kernel
theorem dX3_judgeRow_2 : decode cX3_judgeRow 2 = .ok (.iconst 0, 1) := by decide +kernel
theorem dX3_judgeRow_3 : decode cX3_judgeRow 3 = .ok (.istore 4, 2) := by decide +kernel
theorem dX3_judgeRow_5 : decode cX3_judgeRow 5 = .ok (.iload 4, 2) := by decide +kernel
theorem dX3_judgeRow_7 : decode cX3_judgeRow 7 = .ok (.aload_n 0, 1) := by decide +kernel
theorem dX3_judgeRow_8 : decode cX3_judgeRow 8 = .ok (.getfield 15, 3) := by decide +kernel
theorem dX3_judgeRow_11 : decode cX3_judgeRow 11 = .ok (.if_icmp .ge 73, 3) := by decide +kernel
theorem dX3_judgeRow_14 : decode cX3_judgeRow 14 = .ok (.iconst 0, 1) := by decide +kernel
theorem dX3_judgeRow_15 : decode cX3_judgeRow 15 = .ok (.istore 5, 2) := by decide +kernel
theorem dX3_judgeRow_17 : decode cX3_judgeRow 17 = .ok (.iload 5, 2) := by decide +kernel
theorem dX3_judgeRow_19 : decode cX3_judgeRow 19 = .ok (.aload_n 0, 1) := by decide +kernel
theorem dX3_judgeRow_20 : decode cX3_judgeRow 20 = .ok (.getfield 19, 3) := by decide +kernel
theorem dX3_judgeRow_23 : decode cX3_judgeRow 23 = .ok (.if_icmp .ge 55, 3) := by decide +kernel
theorem dX3_judgeRow_26 : decode cX3_judgeRow 26 = .ok (.aload_n 1, 1) := by decide +kernel
theorem dX3_judgeRow_27 : decode cX3_judgeRow 27 = .ok (.iload_n 2, 1) := by decide +kernel
theorem dX3_judgeRow_28 : decode cX3_judgeRow 28 = .ok (.iload_n 3, 1) := by decide +kernel
theorem dX3_judgeRow_29 : decode cX3_judgeRow 29 = .ok (.iconst 1, 1) := by decide +kernel
theorem dX3_judgeRow_30 : decode cX3_judgeRow 30 = .ok (.iadd, 1) := by decide +kernel
theorem dX3_judgeRow_31 : decode cX3_judgeRow 31 = .ok (.invokevirtual 154, 3) := by decide +kernel
theorem dX3_judgeRow_34 : decode cX3_judgeRow 34 = .ok (.ifCond .ne 8, 3) := by decide +kernel
theorem dX3_judgeRow_37 : decode cX3_judgeRow 37 = .ok (.bipush 100, 2) := by decide +kernel
theorem dX3_judgeRow_39 : decode cX3_judgeRow 39 = .ok (.iload_n 3, 1) := by decide +kernel
theorem dX3_judgeRow_40 : decode cX3_judgeRow 40 = .ok (.iadd, 1) := by decide +kernel
theorem dX3_judgeRow_41 : decode cX3_judgeRow 41 = .ok (.ireturn, 1) := by decide +kernel
theorem dX3_judgeRow_42 : decode cX3_judgeRow 42 = .ok (.aload_n 1, 1) := by decide +kernel
theorem dX3_judgeRow_43 : decode cX3_judgeRow 43 = .ok (.getfield 160, 3) := by decide +kernel
theorem dX3_judgeRow_46 : decode cX3_judgeRow 46 = .ok (.iload_n 2, 1) := by decide +kernel
theorem dX3_judgeRow_47 : decode cX3_judgeRow 47 = .ok (.iload_n 3, 1) := by decide +kernel
theorem dX3_judgeRow_48 : decode cX3_judgeRow 48 = .ok (.iadd, 1) := by decide +kernel
theorem dX3_judgeRow_49 : decode cX3_judgeRow 49 = .ok (.laload, 1) := by decide +kernel
theorem dX3_judgeRow_50 : decode cX3_judgeRow 50 = .ok (.aload_n 0, 1) := by decide +kernel
theorem dX3_judgeRow_51 : decode cX3_judgeRow 51 = .ok (.getfield 29, 3) := by decide +kernel
theorem dX3_judgeRow_54 : decode cX3_judgeRow 54 = .ok (.iload 4, 2) := by decide +kernel
theorem dX3_judgeRow_56 : decode cX3_judgeRow 56 = .ok (.iload 5, 2) := by decide +kernel
theorem dX3_judgeRow_58 : decode cX3_judgeRow 58 = .ok (.invokestatic 97, 3) := by decide +kernel
theorem dX3_judgeRow_61 : decode cX3_judgeRow 61 = .ok (.iaload, 1) := by decide +kernel
theorem dX3_judgeRow_62 : decode cX3_judgeRow 62 = .ok (.i2l, 1) := by decide +kernel
theorem dX3_judgeRow_63 : decode cX3_judgeRow 63 = .ok (.lcmp, 1) := by decide +kernel
theorem dX3_judgeRow_64 : decode cX3_judgeRow 64 = .ok (.ifCond .eq 5, 3) := by decide +kernel
theorem dX3_judgeRow_67 : decode cX3_judgeRow 67 = .ok (.iload_n 3, 1) := by decide +kernel
theorem dX3_judgeRow_68 : decode cX3_judgeRow 68 = .ok (.ireturn, 1) := by decide +kernel
theorem dX3_judgeRow_69 : decode cX3_judgeRow 69 = .ok (.iinc 3 1, 3) := by decide +kernel
theorem dX3_judgeRow_72 : decode cX3_judgeRow 72 = .ok (.iinc 5 1, 3) := by decide +kernel
theorem dX3_judgeRow_75 : decode cX3_judgeRow 75 = .ok (.goto (-58), 3) := by decide +kernel
theorem dX3_judgeRow_78 : decode cX3_judgeRow 78 = .ok (.iinc 4 1, 3) := by decide +kernel
theorem dX3_judgeRow_81 : decode cX3_judgeRow 81 = .ok (.goto (-76), 3) := by decide +kernel
theorem dX3_judgeRow_84 : decode cX3_judgeRow 84 = .ok (.bipush (-5), 2) := by decide +kernel
theorem dX3_judgeRow_86 : decode cX3_judgeRow 86 = .ok (.ireturn, 1) := by decide +kernel
theorem dX4_init_0 : decode cX4_init 0 = .ok (.aload_n 0, 1) := by decide +kernel
theorem dX4_init_1 : decode cX4_init 1 = .ok (.invokespecial 3, 3) := by decide +kernel
theorem dX4_init_4 : decode cX4_init 4 = .ok (.aload_n 0, 1) := by decide +kernel
theorem dX4_init_5 : decode cX4_init 5 = .ok (.iconst 0, 1) := by decide +kernel
theorem dX4_init_6 : decode cX4_init 6 = .ok (.putfield 9, 3) := by decide +kernel
theorem dX4_init_9 : decode cX4_init 9 = .ok (.aload_n 0, 1) := by decide +kernel
theorem dX4_init_10 : decode cX4_init 10 = .ok (.bipush 8, 2) := by decide +kernel
theorem dX4_init_12 : decode cX4_init 12 = .ok (.newarray .int, 2) := by decide +kernel
theorem dX4_init_14 : decode cX4_init 14 = .ok (.putfield 15, 3) := by decide +kernel
theorem dX4_init_17 : decode cX4_init 17 = .ok (.aload_n 0, 1) := by decide +kernel
theorem dX4_init_18 : decode cX4_init 18 = .ok (.bipush 8, 2) := by decide +kernel
theorem dX4_init_20 : decode cX4_init 20 = .ok (.newarray .int, 2) := by decide +kernel
theorem dX4_init_22 : decode cX4_init 22 = .ok (.putfield 19, 3) := by decide +kernel
theorem dX4_init_25 : decode cX4_init 25 = .ok (.aload_n 0, 1) := by decide +kernel
theorem dX4_init_26 : decode cX4_init 26 = .ok (.iload_n 1, 1) := by decide +kernel
theorem dX4_init_27 : decode cX4_init 27 = .ok (.bipush 8, 2) := by decide +kernel
theorem dX4_init_29 : decode cX4_init 29 = .ok (.invokestatic 22, 3) := by decide +kernel
theorem dX4_init_32 : decode cX4_init 32 = .ok (.putfield 28, 3) := by decide +kernel
theorem dX4_init_35 : decode cX4_init 35 = .ok (.return_, 1) := by decide +kernel
theorem dX4_copyFrom_0 : decode cX4_copyFrom 0 = .ok (.aload_n 0, 1) := by decide +kernel
theorem dX4_copyFrom_1 : decode cX4_copyFrom 1 = .ok (.aload_n 1, 1) := by decide +kernel
theorem dX4_copyFrom_2 : decode cX4_copyFrom 2 = .ok (.getfield 9, 3) := by decide +kernel
theorem dX4_copyFrom_5 : decode cX4_copyFrom 5 = .ok (.putfield 9, 3) := by decide +kernel
theorem dX4_copyFrom_8 : decode cX4_copyFrom 8 = .ok (.aload_n 1, 1) := by decide +kernel
theorem dX4_copyFrom_9 : decode cX4_copyFrom 9 = .ok (.getfield 15, 3) := by decide +kernel
theorem dX4_copyFrom_12 : decode cX4_copyFrom 12 = .ok (.iconst 0, 1) := by decide +kernel
theorem dX4_copyFrom_13 : decode cX4_copyFrom 13 = .ok (.aload_n 0, 1) := by decide +kernel
theorem dX4_copyFrom_14 : decode cX4_copyFrom 14 = .ok (.getfield 15, 3) := by decide +kernel
theorem dX4_copyFrom_17 : decode cX4_copyFrom 17 = .ok (.iconst 0, 1) := by decide +kernel
theorem dX4_copyFrom_18 : decode cX4_copyFrom 18 = .ok (.bipush 8, 2) := by decide +kernel
theorem dX4_copyFrom_20 : decode cX4_copyFrom 20 = .ok (.invokestatic 31, 3) := by decide +kernel
theorem dX4_copyFrom_23 : decode cX4_copyFrom 23 = .ok (.aload_n 1, 1) := by decide +kernel
theorem dX4_copyFrom_24 : decode cX4_copyFrom 24 = .ok (.getfield 19, 3) := by decide +kernel
theorem dX4_copyFrom_27 : decode cX4_copyFrom 27 = .ok (.iconst 0, 1) := by decide +kernel
theorem dX4_copyFrom_28 : decode cX4_copyFrom 28 = .ok (.aload_n 0, 1) := by decide +kernel
theorem dX4_copyFrom_29 : decode cX4_copyFrom 29 = .ok (.getfield 19, 3) := by decide +kernel
theorem dX4_copyFrom_32 : decode cX4_copyFrom 32 = .ok (.iconst 0, 1) := by decide +kernel
theorem dX4_copyFrom_33 : decode cX4_copyFrom 33 = .ok (.bipush 8, 2) := by decide +kernel
theorem dX4_copyFrom_35 : decode cX4_copyFrom 35 = .ok (.invokestatic 31, 3) := by decide +kernel
theorem dX4_copyFrom_38 : decode cX4_copyFrom 38 = .ok (.return_, 1) := by decide +kernel
theorem dX4_drop_0 : decode cX4_drop 0 = .ok (.aload_n 0, 1) := by decide +kernel
theorem dX4_drop_1 : decode cX4_drop 1 = .ok (.iconst 0, 1) := by decide +kernel
theorem dX4_drop_2 : decode cX4_drop 2 = .ok (.putfield 9, 3) := by decide +kernel
theorem dX4_drop_5 : decode cX4_drop 5 = .ok (.iconst 0, 1) := by decide +kernel
theorem dX4_drop_6 : decode cX4_drop 6 = .ok (.ireturn, 1) := by decide +kernel
theorem dX4_add_0 : decode cX4_add 0 = .ok (.aload_n 0, 1) := by decide +kernel
theorem dX4_add_1 : decode cX4_add 1 = .ok (.getfield 9, 3) := by decide +kernel
theorem dX4_add_4 : decode cX4_add 4 = .ok (.aload_n 0, 1) := by decide +kernel
theorem dX4_add_5 : decode cX4_add 5 = .ok (.getfield 28, 3) := by decide +kernel
theorem dX4_add_8 : decode cX4_add 8 = .ok (.if_icmp .lt 6, 3) := by decide +kernel
theorem dX4_add_11 : decode cX4_add 11 = .ok (.bipush (-4), 2) := by decide +kernel
theorem dX4_add_13 : decode cX4_add 13 = .ok (.ireturn, 1) := by decide +kernel
theorem dX4_add_14 : decode cX4_add 14 = .ok (.aload_n 0, 1) := by decide +kernel
theorem dX4_add_15 : decode cX4_add 15 = .ok (.getfield 15, 3) := by decide +kernel
theorem dX4_add_18 : decode cX4_add 18 = .ok (.aload_n 0, 1) := by decide +kernel
theorem dX4_add_19 : decode cX4_add 19 = .ok (.getfield 9, 3) := by decide +kernel
theorem dX4_add_22 : decode cX4_add 22 = .ok (.iload_n 1, 1) := by decide +kernel
theorem dX4_add_23 : decode cX4_add 23 = .ok (.iastore, 1) := by decide +kernel
theorem dX4_add_24 : decode cX4_add 24 = .ok (.aload_n 0, 1) := by decide +kernel
theorem dX4_add_25 : decode cX4_add 25 = .ok (.getfield 19, 3) := by decide +kernel
theorem dX4_add_28 : decode cX4_add 28 = .ok (.aload_n 0, 1) := by decide +kernel
theorem dX4_add_29 : decode cX4_add 29 = .ok (.getfield 9, 3) := by decide +kernel
theorem dX4_add_32 : decode cX4_add 32 = .ok (.iload_n 2, 1) := by decide +kernel
theorem dX4_add_33 : decode cX4_add 33 = .ok (.iastore, 1) := by decide +kernel
theorem dX4_add_34 : decode cX4_add 34 = .ok (.aload_n 0, 1) := by decide +kernel
theorem dX4_add_35 : decode cX4_add 35 = .ok (.dup, 1) := by decide +kernel
theorem dX4_add_36 : decode cX4_add 36 = .ok (.getfield 9, 3) := by decide +kernel
theorem dX4_add_39 : decode cX4_add 39 = .ok (.iconst 1, 1) := by decide +kernel
theorem dX4_add_40 : decode cX4_add 40 = .ok (.iadd, 1) := by decide +kernel
theorem dX4_add_41 : decode cX4_add 41 = .ok (.putfield 9, 3) := by decide +kernel
theorem dX4_add_44 : decode cX4_add 44 = .ok (.aload_n 0, 1) := by decide +kernel
theorem dX4_add_45 : decode cX4_add 45 = .ok (.getfield 9, 3) := by decide +kernel
theorem dX4_add_48 : decode cX4_add 48 = .ok (.ireturn, 1) := by decide +kernel
theorem dX4_firstOther_0 : decode cX4_firstOther 0 = .ok (.iconst 0, 1) := by decide +kernel
theorem dX4_firstOther_1 : decode cX4_firstOther 1 = .ok (.istore_n 2, 1) := by decide +kernel
theorem dX4_firstOther_2 : decode cX4_firstOther 2 = .ok (.iload_n 2, 1) := by decide +kernel
theorem dX4_firstOther_3 : decode cX4_firstOther 3 = .ok (.aload_n 0, 1) := by decide +kernel
theorem dX4_firstOther_4 : decode cX4_firstOther 4 = .ok (.getfield 9, 3) := by decide +kernel
theorem dX4_firstOther_7 : decode cX4_firstOther 7 = .ok (.if_icmp .ge 28, 3) := by decide +kernel
theorem dX4_firstOther_10 : decode cX4_firstOther 10 = .ok (.aload_n 1, 1) := by decide +kernel
theorem dX4_firstOther_11 : decode cX4_firstOther 11 = .ok (.aload_n 0, 1) := by decide +kernel
theorem dX4_firstOther_12 : decode cX4_firstOther 12 = .ok (.getfield 15, 3) := by decide +kernel
theorem dX4_firstOther_15 : decode cX4_firstOther 15 = .ok (.iload_n 2, 1) := by decide +kernel
theorem dX4_firstOther_16 : decode cX4_firstOther 16 = .ok (.iaload, 1) := by decide +kernel
theorem dX4_firstOther_17 : decode cX4_firstOther 17 = .ok (.iaload, 1) := by decide +kernel
theorem dX4_firstOther_18 : decode cX4_firstOther 18 = .ok (.aload_n 0, 1) := by decide +kernel
theorem dX4_firstOther_19 : decode cX4_firstOther 19 = .ok (.getfield 19, 3) := by decide +kernel
theorem dX4_firstOther_22 : decode cX4_firstOther 22 = .ok (.iload_n 2, 1) := by decide +kernel
theorem dX4_firstOther_23 : decode cX4_firstOther 23 = .ok (.iaload, 1) := by decide +kernel
theorem dX4_firstOther_24 : decode cX4_firstOther 24 = .ok (.if_icmp .eq 5, 3) := by decide +kernel
theorem dX4_firstOther_27 : decode cX4_firstOther 27 = .ok (.iload_n 2, 1) := by decide +kernel
theorem dX4_firstOther_28 : decode cX4_firstOther 28 = .ok (.ireturn, 1) := by decide +kernel
theorem dX4_firstOther_29 : decode cX4_firstOther 29 = .ok (.iinc 2 1, 3) := by decide +kernel
theorem dX4_firstOther_32 : decode cX4_firstOther 32 = .ok (.goto (-30), 3) := by decide +kernel
theorem dX4_firstOther_35 : decode cX4_firstOther 35 = .ok (.bipush (-5), 2) := by decide +kernel
theorem dX4_firstOther_37 : decode cX4_firstOther 37 = .ok (.ireturn, 1) := by decide +kernel
theorem dX5_init_0 : decode cX5_init 0 = .ok (.aload_n 0, 1) := by decide +kernel
theorem dX5_init_1 : decode cX5_init 1 = .ok (.invokespecial 3, 3) := by decide +kernel
theorem dX5_init_4 : decode cX5_init 4 = .ok (.aload_n 0, 1) := by decide +kernel
theorem dX5_init_5 : decode cX5_init 5 = .ok (.iconst 0, 1) := by decide +kernel
theorem dX5_init_6 : decode cX5_init 6 = .ok (.putfield 9, 3) := by decide +kernel
theorem dX5_init_9 : decode cX5_init 9 = .ok (.aload_n 0, 1) := by decide +kernel
theorem dX5_init_10 : decode cX5_init 10 = .ok (.iconst 0, 1) := by decide +kernel
theorem dX5_init_11 : decode cX5_init 11 = .ok (.putfield 15, 3) := by decide +kernel
theorem dX5_init_14 : decode cX5_init 14 = .ok (.aload_n 0, 1) := by decide +kernel
theorem dX5_init_15 : decode cX5_init 15 = .ok (.bipush 100, 2) := by decide +kernel
theorem dX5_init_17 : decode cX5_init 17 = .ok (.newarray .char, 2) := by decide +kernel
theorem dX5_init_19 : decode cX5_init 19 = .ok (.putfield 18, 3) := by decide +kernel
theorem dX5_init_22 : decode cX5_init 22 = .ok (.aload_n 0, 1) := by decide +kernel
theorem dX5_init_23 : decode cX5_init 23 = .ok (.iconst 0, 1) := by decide +kernel
theorem dX5_init_24 : decode cX5_init 24 = .ok (.putfield 22, 3) := by decide +kernel
theorem dX5_init_27 : decode cX5_init 27 = .ok (.aload_n 0, 1) := by decide +kernel
theorem dX5_init_28 : decode cX5_init 28 = .ok (.bipush 12, 2) := by decide +kernel
theorem dX5_init_30 : decode cX5_init 30 = .ok (.newarray .char, 2) := by decide +kernel
theorem dX5_init_32 : decode cX5_init 32 = .ok (.putfield 25, 3) := by decide +kernel
theorem dX5_init_35 : decode cX5_init 35 = .ok (.aload_n 0, 1) := by decide +kernel
theorem dX5_init_36 : decode cX5_init 36 = .ok (.bipush 12, 2) := by decide +kernel
theorem dX5_init_38 : decode cX5_init 38 = .ok (.newarray .int, 2) := by decide +kernel
theorem dX5_init_40 : decode cX5_init 40 = .ok (.putfield 28, 3) := by decide +kernel
theorem dX5_init_43 : decode cX5_init 43 = .ok (.aload_n 0, 1) := by decide +kernel
theorem dX5_init_44 : decode cX5_init 44 = .ok (.bipush 12, 2) := by decide +kernel
theorem dX5_init_46 : decode cX5_init 46 = .ok (.newarray .int, 2) := by decide +kernel
theorem dX5_init_48 : decode cX5_init 48 = .ok (.putfield 32, 3) := by decide +kernel
theorem dX5_init_51 : decode cX5_init 51 = .ok (.aload_n 0, 1) := by decide +kernel
theorem dX5_init_52 : decode cX5_init 52 = .ok (.bipush 12, 2) := by decide +kernel
theorem dX5_init_54 : decode cX5_init 54 = .ok (.newarray .int, 2) := by decide +kernel
theorem dX5_init_56 : decode cX5_init 56 = .ok (.putfield 35, 3) := by decide +kernel
theorem dX5_init_59 : decode cX5_init 59 = .ok (.aload_n 0, 1) := by decide +kernel
theorem dX5_init_60 : decode cX5_init 60 = .ok (.bipush 12, 2) := by decide +kernel
theorem dX5_init_62 : decode cX5_init 62 = .ok (.newarray .int, 2) := by decide +kernel
theorem dX5_init_64 : decode cX5_init 64 = .ok (.putfield 38, 3) := by decide +kernel
theorem dX5_init_67 : decode cX5_init 67 = .ok (.return_, 1) := by decide +kernel
theorem dX5_add_0 : decode cX5_add 0 = .ok (.aload_n 0, 1) := by decide +kernel
theorem dX5_add_1 : decode cX5_add 1 = .ok (.getfield 9, 3) := by decide +kernel
theorem dX5_add_4 : decode cX5_add 4 = .ok (.bipush 100, 2) := by decide +kernel
theorem dX5_add_6 : decode cX5_add 6 = .ok (.if_icmp .lt 6, 3) := by decide +kernel
theorem dX5_add_9 : decode cX5_add 9 = .ok (.bipush (-4), 2) := by decide +kernel
theorem dX5_add_11 : decode cX5_add 11 = .ok (.ireturn, 1) := by decide +kernel
theorem dX5_add_12 : decode cX5_add 12 = .ok (.aload_n 0, 1) := by decide +kernel
theorem dX5_add_13 : decode cX5_add 13 = .ok (.getfield 18, 3) := by decide +kernel
theorem dX5_add_16 : decode cX5_add 16 = .ok (.aload_n 0, 1) := by decide +kernel
theorem dX5_add_17 : decode cX5_add 17 = .ok (.getfield 9, 3) := by decide +kernel
theorem dX5_add_20 : decode cX5_add 20 = .ok (.iload_n 1, 1) := by decide +kernel
theorem dX5_add_21 : decode cX5_add 21 = .ok (.i2c, 1) := by decide +kernel
theorem dX5_add_22 : decode cX5_add 22 = .ok (.castore, 1) := by decide +kernel
theorem dX5_add_23 : decode cX5_add 23 = .ok (.aload_n 0, 1) := by decide +kernel
theorem dX5_add_24 : decode cX5_add 24 = .ok (.dup, 1) := by decide +kernel
theorem dX5_add_25 : decode cX5_add 25 = .ok (.getfield 9, 3) := by decide +kernel
theorem dX5_add_28 : decode cX5_add 28 = .ok (.iconst 1, 1) := by decide +kernel
theorem dX5_add_29 : decode cX5_add 29 = .ok (.iadd, 1) := by decide +kernel
theorem dX5_add_30 : decode cX5_add 30 = .ok (.putfield 9, 3) := by decide +kernel
theorem dX5_add_33 : decode cX5_add 33 = .ok (.aload_n 0, 1) := by decide +kernel
theorem dX5_add_34 : decode cX5_add 34 = .ok (.getfield 9, 3) := by decide +kernel
theorem dX5_add_37 : decode cX5_add 37 = .ok (.ireturn, 1) := by decide +kernel
theorem dX5_findFault_0 : decode cX5_findFault 0 = .ok (.aload_n 0, 1) := by decide +kernel
theorem dX5_findFault_1 : decode cX5_findFault 1 = .ok (.iconst 0, 1) := by decide +kernel
theorem dX5_findFault_2 : decode cX5_findFault 2 = .ok (.putfield 22, 3) := by decide +kernel
theorem dX5_findFault_5 : decode cX5_findFault 5 = .ok (.aload_n 0, 1) := by decide +kernel
theorem dX5_findFault_6 : decode cX5_findFault 6 = .ok (.iconst 0, 1) := by decide +kernel
theorem dX5_findFault_7 : decode cX5_findFault 7 = .ok (.putfield 15, 3) := by decide +kernel
theorem dX5_findFault_10 : decode cX5_findFault 10 = .ok (.iconst 0, 1) := by decide +kernel
theorem dX5_findFault_11 : decode cX5_findFault 11 = .ok (.istore_n 1, 1) := by decide +kernel
theorem dX5_findFault_12 : decode cX5_findFault 12 = .ok (.iload_n 1, 1) := by decide +kernel
theorem dX5_findFault_13 : decode cX5_findFault 13 = .ok (.bipush 12, 2) := by decide +kernel
theorem dX5_findFault_15 : decode cX5_findFault 15 = .ok (.if_icmp .ge 65, 3) := by decide +kernel
theorem dX5_findFault_18 : decode cX5_findFault 18 = .ok (.aload_n 0, 1) := by decide +kernel
theorem dX5_findFault_19 : decode cX5_findFault 19 = .ok (.iload_n 1, 1) := by decide +kernel
theorem dX5_findFault_20 : decode cX5_findFault 20 = .ok (.invokevirtual 41, 3) := by decide +kernel
theorem dX5_findFault_23 : decode cX5_findFault 23 = .ok (.ifCond .ne 8, 3) := by decide +kernel
theorem dX5_findFault_26 : decode cX5_findFault 26 = .ok (.aload_n 0, 1) := by decide +kernel
theorem dX5_findFault_27 : decode cX5_findFault 27 = .ok (.getfield 22, 3) := by decide +kernel
theorem dX5_findFault_30 : decode cX5_findFault 30 = .ok (.ireturn, 1) := by decide +kernel
theorem dX5_findFault_31 : decode cX5_findFault 31 = .ok (.aload_n 0, 1) := by decide +kernel
theorem dX5_findFault_32 : decode cX5_findFault 32 = .ok (.iload_n 1, 1) := by decide +kernel
theorem dX5_findFault_33 : decode cX5_findFault 33 = .ok (.iconst 1, 1) := by decide +kernel
theorem dX5_findFault_34 : decode cX5_findFault 34 = .ok (.iadd, 1) := by decide +kernel
theorem dX5_findFault_35 : decode cX5_findFault 35 = .ok (.putfield 15, 3) := by decide +kernel
theorem dX5_findFault_38 : decode cX5_findFault 38 = .ok (.aload_n 0, 1) := by decide +kernel
theorem dX5_findFault_39 : decode cX5_findFault 39 = .ok (.getfield 22, 3) := by decide +kernel
theorem dX5_findFault_42 : decode cX5_findFault 42 = .ok (.aload_n 0, 1) := by decide +kernel
theorem dX5_findFault_43 : decode cX5_findFault 43 = .ok (.getfield 9, 3) := by decide +kernel
theorem dX5_findFault_46 : decode cX5_findFault 46 = .ok (.if_icmp .ne 5, 3) := by decide +kernel
theorem dX5_findFault_49 : decode cX5_findFault 49 = .ok (.iconst (-1), 1) := by decide +kernel
theorem dX5_findFault_50 : decode cX5_findFault 50 = .ok (.ireturn, 1) := by decide +kernel
theorem dX5_findFault_51 : decode cX5_findFault 51 = .ok (.aload_n 0, 1) := by decide +kernel
theorem dX5_findFault_52 : decode cX5_findFault 52 = .ok (.getfield 15, 3) := by decide +kernel
theorem dX5_findFault_55 : decode cX5_findFault 55 = .ok (.bipush 12, 2) := by decide +kernel
theorem dX5_findFault_57 : decode cX5_findFault 57 = .ok (.if_icmp .eq 12, 3) := by decide +kernel
theorem dX5_findFault_60 : decode cX5_findFault 60 = .ok (.aload_n 0, 1) := by decide +kernel
theorem dX5_findFault_61 : decode cX5_findFault 61 = .ok (.bipush 59, 2) := by decide +kernel
theorem dX5_findFault_63 : decode cX5_findFault 63 = .ok (.invokevirtual 45, 3) := by decide +kernel
theorem dX5_findFault_66 : decode cX5_findFault 66 = .ok (.ifCond .ne 8, 3) := by decide +kernel
theorem dX5_findFault_69 : decode cX5_findFault 69 = .ok (.aload_n 0, 1) := by decide +kernel
theorem dX5_findFault_70 : decode cX5_findFault 70 = .ok (.getfield 22, 3) := by decide +kernel
theorem dX5_findFault_73 : decode cX5_findFault 73 = .ok (.ireturn, 1) := by decide +kernel
theorem dX5_findFault_74 : decode cX5_findFault 74 = .ok (.iinc 1 1, 3) := by decide +kernel
theorem dX5_findFault_77 : decode cX5_findFault 77 = .ok (.goto (-65), 3) := by decide +kernel
theorem dX5_findFault_80 : decode cX5_findFault 80 = .ok (.aload_n 0, 1) := by decide +kernel
theorem dX5_findFault_81 : decode cX5_findFault 81 = .ok (.getfield 22, 3) := by decide +kernel
theorem dX5_findFault_84 : decode cX5_findFault 84 = .ok (.ireturn, 1) := by decide +kernel
theorem dX5_perform_0 : decode cX5_perform 0 = .ok (.iload_n 1, 1) := by decide +kernel
theorem dX5_perform_1 : decode cX5_perform 1 = .ok (.ifCond .lt 11, 3) := by decide +kernel
theorem dX5_perform_4 : decode cX5_perform 4 = .ok (.iload_n 1, 1) := by decide +kernel
theorem dX5_perform_5 : decode cX5_perform 5 = .ok (.aload_n 0, 1) := by decide +kernel
theorem dX5_perform_6 : decode cX5_perform 6 = .ok (.getfield 15, 3) := by decide +kernel
theorem dX5_perform_9 : decode cX5_perform 9 = .ok (.if_icmp .lt 5, 3) := by decide +kernel
theorem dX5_perform_12 : decode cX5_perform 12 = .ok (.iconst (-1), 1) := by decide +kernel
theorem dX5_perform_13 : decode cX5_perform 13 = .ok (.ireturn, 1) := by decide +kernel
theorem dX5_perform_14 : decode cX5_perform 14 = .ok (.aload_n 0, 1) := by decide +kernel
theorem dX5_perform_15 : decode cX5_perform 15 = .ok (.getfield 25, 3) := by decide +kernel
theorem dX5_perform_18 : decode cX5_perform 18 = .ok (.iload_n 1, 1) := by decide +kernel
theorem dX5_perform_19 : decode cX5_perform 19 = .ok (.caload, 1) := by decide +kernel
theorem dX5_perform_20 : decode cX5_perform 20 = .ok (.bipush 113, 2) := by decide +kernel
theorem dX5_perform_22 : decode cX5_perform 22 = .ok (.if_icmp .ne 21, 3) := by decide +kernel
theorem dX5_perform_25 : decode cX5_perform 25 = .ok (.aload_n 2, 1) := by decide +kernel
theorem dX5_perform_26 : decode cX5_perform 26 = .ok (.iconst 0, 1) := by decide +kernel
theorem dX5_perform_27 : decode cX5_perform 27 = .ok (.aload_n 0, 1) := by decide +kernel
theorem dX5_perform_28 : decode cX5_perform 28 = .ok (.getfield 28, 3) := by decide +kernel
theorem dX5_perform_31 : decode cX5_perform 31 = .ok (.iload_n 1, 1) := by decide +kernel
theorem dX5_perform_32 : decode cX5_perform 32 = .ok (.iaload, 1) := by decide +kernel
theorem dX5_perform_33 : decode cX5_perform 33 = .ok (.aload_n 0, 1) := by decide +kernel
theorem dX5_perform_34 : decode cX5_perform 34 = .ok (.getfield 32, 3) := by decide +kernel
theorem dX5_perform_37 : decode cX5_perform 37 = .ok (.iload_n 1, 1) := by decide +kernel
theorem dX5_perform_38 : decode cX5_perform 38 = .ok (.iaload, 1) := by decide +kernel
theorem dX5_perform_39 : decode cX5_perform 39 = .ok (.invokevirtual 49, 3) := by decide +kernel
theorem dX5_perform_42 : decode cX5_perform 42 = .ok (.ireturn, 1) := by decide +kernel
theorem dX5_perform_43 : decode cX5_perform 43 = .ok (.aload_n 0, 1) := by decide +kernel
theorem dX5_perform_44 : decode cX5_perform 44 = .ok (.getfield 25, 3) := by decide +kernel
theorem dX5_perform_47 : decode cX5_perform 47 = .ok (.iload_n 1, 1) := by decide +kernel
theorem dX5_perform_48 : decode cX5_perform 48 = .ok (.caload, 1) := by decide +kernel
theorem dX5_perform_49 : decode cX5_perform 49 = .ok (.bipush 119, 2) := by decide +kernel
theorem dX5_perform_51 : decode cX5_perform 51 = .ok (.if_icmp .ne 21, 3) := by decide +kernel
theorem dX5_perform_54 : decode cX5_perform 54 = .ok (.aload_n 2, 1) := by decide +kernel
theorem dX5_perform_55 : decode cX5_perform 55 = .ok (.iconst 1, 1) := by decide +kernel
theorem dX5_perform_56 : decode cX5_perform 56 = .ok (.aload_n 0, 1) := by decide +kernel
theorem dX5_perform_57 : decode cX5_perform 57 = .ok (.getfield 28, 3) := by decide +kernel
theorem dX5_perform_60 : decode cX5_perform 60 = .ok (.iload_n 1, 1) := by decide +kernel
theorem dX5_perform_61 : decode cX5_perform 61 = .ok (.iaload, 1) := by decide +kernel
theorem dX5_perform_62 : decode cX5_perform 62 = .ok (.aload_n 0, 1) := by decide +kernel
theorem dX5_perform_63 : decode cX5_perform 63 = .ok (.getfield 32, 3) := by decide +kernel
theorem dX5_perform_66 : decode cX5_perform 66 = .ok (.iload_n 1, 1) := by decide +kernel
theorem dX5_perform_67 : decode cX5_perform 67 = .ok (.iaload, 1) := by decide +kernel
theorem dX5_perform_68 : decode cX5_perform 68 = .ok (.invokevirtual 49, 3) := by decide +kernel
theorem dX5_perform_71 : decode cX5_perform 71 = .ok (.ireturn, 1) := by decide +kernel
theorem dX5_perform_72 : decode cX5_perform 72 = .ok (.aload_n 2, 1) := by decide +kernel
theorem dX5_perform_73 : decode cX5_perform 73 = .ok (.aload_n 0, 1) := by decide +kernel
theorem dX5_perform_74 : decode cX5_perform 74 = .ok (.getfield 28, 3) := by decide +kernel
theorem dX5_perform_77 : decode cX5_perform 77 = .ok (.iload_n 1, 1) := by decide +kernel
theorem dX5_perform_78 : decode cX5_perform 78 = .ok (.iaload, 1) := by decide +kernel
theorem dX5_perform_79 : decode cX5_perform 79 = .ok (.aload_n 0, 1) := by decide +kernel
theorem dX5_perform_80 : decode cX5_perform 80 = .ok (.getfield 32, 3) := by decide +kernel
theorem dX5_perform_83 : decode cX5_perform 83 = .ok (.iload_n 1, 1) := by decide +kernel
theorem dX5_perform_84 : decode cX5_perform 84 = .ok (.iaload, 1) := by decide +kernel
theorem dX5_perform_85 : decode cX5_perform 85 = .ok (.aload_n 0, 1) := by decide +kernel
theorem dX5_perform_86 : decode cX5_perform 86 = .ok (.getfield 35, 3) := by decide +kernel
theorem dX5_perform_89 : decode cX5_perform 89 = .ok (.iload_n 1, 1) := by decide +kernel
theorem dX5_perform_90 : decode cX5_perform 90 = .ok (.iaload, 1) := by decide +kernel
theorem dX5_perform_91 : decode cX5_perform 91 = .ok (.aload_n 0, 1) := by decide +kernel
theorem dX5_perform_92 : decode cX5_perform 92 = .ok (.getfield 38, 3) := by decide +kernel
theorem dX5_perform_95 : decode cX5_perform 95 = .ok (.iload_n 1, 1) := by decide +kernel
theorem dX5_perform_96 : decode cX5_perform 96 = .ok (.iaload, 1) := by decide +kernel
theorem dX5_perform_97 : decode cX5_perform 97 = .ok (.invokevirtual 55, 3) := by decide +kernel
theorem dX5_perform_100 : decode cX5_perform 100 = .ok (.ireturn, 1) := by decide +kernel
theorem dX5_takeClause_0 : decode cX5_takeClause 0 = .ok (.aload_n 0, 1) := by decide +kernel
theorem dX5_takeClause_1 : decode cX5_takeClause 1 = .ok (.bipush 113, 2) := by decide +kernel
theorem dX5_takeClause_3 : decode cX5_takeClause 3 = .ok (.invokevirtual 45, 3) := by decide +kernel
theorem dX5_takeClause_6 : decode cX5_takeClause 6 = .ok (.ifCond .eq 17, 3) := by decide +kernel
theorem dX5_takeClause_9 : decode cX5_takeClause 9 = .ok (.aload_n 0, 1) := by decide +kernel
theorem dX5_takeClause_10 : decode cX5_takeClause 10 = .ok (.getfield 25, 3) := by decide +kernel
theorem dX5_takeClause_13 : decode cX5_takeClause 13 = .ok (.iload_n 1, 1) := by decide +kernel
theorem dX5_takeClause_14 : decode cX5_takeClause 14 = .ok (.bipush 113, 2) := by decide +kernel
theorem dX5_takeClause_16 : decode cX5_takeClause 16 = .ok (.castore, 1) := by decide +kernel
theorem dX5_takeClause_17 : decode cX5_takeClause 17 = .ok (.aload_n 0, 1) := by decide +kernel
theorem dX5_takeClause_18 : decode cX5_takeClause 18 = .ok (.iload_n 1, 1) := by decide +kernel
theorem dX5_takeClause_19 : decode cX5_takeClause 19 = .ok (.invokevirtual 59, 3) := by decide +kernel
theorem dX5_takeClause_22 : decode cX5_takeClause 22 = .ok (.ireturn, 1) := by decide +kernel
theorem dX5_takeClause_23 : decode cX5_takeClause 23 = .ok (.aload_n 0, 1) := by decide +kernel
theorem dX5_takeClause_24 : decode cX5_takeClause 24 = .ok (.bipush 119, 2) := by decide +kernel
theorem dX5_takeClause_26 : decode cX5_takeClause 26 = .ok (.invokevirtual 45, 3) := by decide +kernel
theorem dX5_takeClause_29 : decode cX5_takeClause 29 = .ok (.ifCond .eq 17, 3) := by decide +kernel
theorem dX5_takeClause_32 : decode cX5_takeClause 32 = .ok (.aload_n 0, 1) := by decide +kernel
theorem dX5_takeClause_33 : decode cX5_takeClause 33 = .ok (.getfield 25, 3) := by decide +kernel
theorem dX5_takeClause_36 : decode cX5_takeClause 36 = .ok (.iload_n 1, 1) := by decide +kernel
theorem dX5_takeClause_37 : decode cX5_takeClause 37 = .ok (.bipush 119, 2) := by decide +kernel
theorem dX5_takeClause_39 : decode cX5_takeClause 39 = .ok (.castore, 1) := by decide +kernel
theorem dX5_takeClause_40 : decode cX5_takeClause 40 = .ok (.aload_n 0, 1) := by decide +kernel
theorem dX5_takeClause_41 : decode cX5_takeClause 41 = .ok (.iload_n 1, 1) := by decide +kernel
theorem dX5_takeClause_42 : decode cX5_takeClause 42 = .ok (.invokevirtual 59, 3) := by decide +kernel
theorem dX5_takeClause_45 : decode cX5_takeClause 45 = .ok (.ireturn, 1) := by decide +kernel
theorem dX5_takeClause_46 : decode cX5_takeClause 46 = .ok (.aload_n 0, 1) := by decide +kernel
theorem dX5_takeClause_47 : decode cX5_takeClause 47 = .ok (.bipush 114, 2) := by decide +kernel
theorem dX5_takeClause_49 : decode cX5_takeClause 49 = .ok (.invokevirtual 45, 3) := by decide +kernel
theorem dX5_takeClause_52 : decode cX5_takeClause 52 = .ok (.ifCond .eq 17, 3) := by decide +kernel
theorem dX5_takeClause_55 : decode cX5_takeClause 55 = .ok (.aload_n 0, 1) := by decide +kernel
theorem dX5_takeClause_56 : decode cX5_takeClause 56 = .ok (.getfield 25, 3) := by decide +kernel
theorem dX5_takeClause_59 : decode cX5_takeClause 59 = .ok (.iload_n 1, 1) := by decide +kernel
theorem dX5_takeClause_60 : decode cX5_takeClause 60 = .ok (.bipush 114, 2) := by decide +kernel
theorem dX5_takeClause_62 : decode cX5_takeClause 62 = .ok (.castore, 1) := by decide +kernel
theorem dX5_takeClause_63 : decode cX5_takeClause 63 = .ok (.aload_n 0, 1) := by decide +kernel
theorem dX5_takeClause_64 : decode cX5_takeClause 64 = .ok (.iload_n 1, 1) := by decide +kernel
theorem dX5_takeClause_65 : decode cX5_takeClause 65 = .ok (.invokevirtual 62, 3) := by decide +kernel
theorem dX5_takeClause_68 : decode cX5_takeClause 68 = .ok (.ireturn, 1) := by decide +kernel
theorem dX5_takeClause_69 : decode cX5_takeClause 69 = .ok (.iconst 0, 1) := by decide +kernel
theorem dX5_takeClause_70 : decode cX5_takeClause 70 = .ok (.ireturn, 1) := by decide +kernel
theorem dX5_takeSite_0 : decode cX5_takeSite 0 = .ok (.aload_n 0, 1) := by decide +kernel
theorem dX5_takeSite_1 : decode cX5_takeSite 1 = .ok (.getfield 28, 3) := by decide +kernel
theorem dX5_takeSite_4 : decode cX5_takeSite 4 = .ok (.iload_n 1, 1) := by decide +kernel
theorem dX5_takeSite_5 : decode cX5_takeSite 5 = .ok (.aload_n 0, 1) := by decide +kernel
theorem dX5_takeSite_6 : decode cX5_takeSite 6 = .ok (.invokevirtual 65, 3) := by decide +kernel
theorem dX5_takeSite_9 : decode cX5_takeSite 9 = .ok (.iastore, 1) := by decide +kernel
theorem dX5_takeSite_10 : decode cX5_takeSite 10 = .ok (.aload_n 0, 1) := by decide +kernel
theorem dX5_takeSite_11 : decode cX5_takeSite 11 = .ok (.getfield 28, 3) := by decide +kernel
theorem dX5_takeSite_14 : decode cX5_takeSite 14 = .ok (.iload_n 1, 1) := by decide +kernel
theorem dX5_takeSite_15 : decode cX5_takeSite 15 = .ok (.iaload, 1) := by decide +kernel
theorem dX5_takeSite_16 : decode cX5_takeSite 16 = .ok (.ifCond .lt 12, 3) := by decide +kernel
theorem dX5_takeSite_19 : decode cX5_takeSite 19 = .ok (.aload_n 0, 1) := by decide +kernel
theorem dX5_takeSite_20 : decode cX5_takeSite 20 = .ok (.bipush 44, 2) := by decide +kernel
theorem dX5_takeSite_22 : decode cX5_takeSite 22 = .ok (.invokevirtual 45, 3) := by decide +kernel
theorem dX5_takeSite_25 : decode cX5_takeSite 25 = .ok (.ifCond .ne 5, 3) := by decide +kernel
theorem dX5_takeSite_28 : decode cX5_takeSite 28 = .ok (.iconst 0, 1) := by decide +kernel
theorem dX5_takeSite_29 : decode cX5_takeSite 29 = .ok (.ireturn, 1) := by decide +kernel
theorem dX5_takeSite_30 : decode cX5_takeSite 30 = .ok (.aload_n 0, 1) := by decide +kernel
theorem dX5_takeSite_31 : decode cX5_takeSite 31 = .ok (.getfield 32, 3) := by decide +kernel
theorem dX5_takeSite_34 : decode cX5_takeSite 34 = .ok (.iload_n 1, 1) := by decide +kernel
theorem dX5_takeSite_35 : decode cX5_takeSite 35 = .ok (.aload_n 0, 1) := by decide +kernel
theorem dX5_takeSite_36 : decode cX5_takeSite 36 = .ok (.invokevirtual 69, 3) := by decide +kernel
theorem dX5_takeSite_39 : decode cX5_takeSite 39 = .ok (.iastore, 1) := by decide +kernel
theorem dX5_takeSite_40 : decode cX5_takeSite 40 = .ok (.aload_n 0, 1) := by decide +kernel
theorem dX5_takeSite_41 : decode cX5_takeSite 41 = .ok (.getfield 32, 3) := by decide +kernel
theorem dX5_takeSite_44 : decode cX5_takeSite 44 = .ok (.iload_n 1, 1) := by decide +kernel
theorem dX5_takeSite_45 : decode cX5_takeSite 45 = .ok (.iaload, 1) := by decide +kernel
theorem dX5_takeSite_46 : decode cX5_takeSite 46 = .ok (.ifCond .lt 7, 3) := by decide +kernel
theorem dX5_takeSite_49 : decode cX5_takeSite 49 = .ok (.iconst 1, 1) := by decide +kernel
theorem dX5_takeSite_50 : decode cX5_takeSite 50 = .ok (.goto 4, 3) := by decide +kernel
theorem dX5_takeSite_53 : decode cX5_takeSite 53 = .ok (.iconst 0, 1) := by decide +kernel
theorem dX5_takeSite_54 : decode cX5_takeSite 54 = .ok (.ireturn, 1) := by decide +kernel
theorem dX5_takeRoad_0 : decode cX5_takeRoad 0 = .ok (.aload_n 0, 1) := by decide +kernel
theorem dX5_takeRoad_1 : decode cX5_takeRoad 1 = .ok (.getfield 28, 3) := by decide +kernel
theorem dX5_takeRoad_4 : decode cX5_takeRoad 4 = .ok (.iload_n 1, 1) := by decide +kernel
theorem dX5_takeRoad_5 : decode cX5_takeRoad 5 = .ok (.aload_n 0, 1) := by decide +kernel
theorem dX5_takeRoad_6 : decode cX5_takeRoad 6 = .ok (.invokevirtual 69, 3) := by decide +kernel
theorem dX5_takeRoad_9 : decode cX5_takeRoad 9 = .ok (.iastore, 1) := by decide +kernel
theorem dX5_takeRoad_10 : decode cX5_takeRoad 10 = .ok (.aload_n 0, 1) := by decide +kernel
theorem dX5_takeRoad_11 : decode cX5_takeRoad 11 = .ok (.getfield 28, 3) := by decide +kernel
theorem dX5_takeRoad_14 : decode cX5_takeRoad 14 = .ok (.iload_n 1, 1) := by decide +kernel
theorem dX5_takeRoad_15 : decode cX5_takeRoad 15 = .ok (.iaload, 1) := by decide +kernel
theorem dX5_takeRoad_16 : decode cX5_takeRoad 16 = .ok (.ifCond .ge 5, 3) := by decide +kernel
theorem dX5_takeRoad_19 : decode cX5_takeRoad 19 = .ok (.iconst 0, 1) := by decide +kernel
theorem dX5_takeRoad_20 : decode cX5_takeRoad 20 = .ok (.ireturn, 1) := by decide +kernel
theorem dX5_takeRoad_21 : decode cX5_takeRoad 21 = .ok (.aload_n 0, 1) := by decide +kernel
theorem dX5_takeRoad_22 : decode cX5_takeRoad 22 = .ok (.getfield 32, 3) := by decide +kernel
theorem dX5_takeRoad_25 : decode cX5_takeRoad 25 = .ok (.iload_n 1, 1) := by decide +kernel
theorem dX5_takeRoad_26 : decode cX5_takeRoad 26 = .ok (.aload_n 0, 1) := by decide +kernel
theorem dX5_takeRoad_27 : decode cX5_takeRoad 27 = .ok (.invokevirtual 69, 3) := by decide +kernel
theorem dX5_takeRoad_30 : decode cX5_takeRoad 30 = .ok (.iastore, 1) := by decide +kernel
theorem dX5_takeRoad_31 : decode cX5_takeRoad 31 = .ok (.aload_n 0, 1) := by decide +kernel
theorem dX5_takeRoad_32 : decode cX5_takeRoad 32 = .ok (.getfield 32, 3) := by decide +kernel
theorem dX5_takeRoad_35 : decode cX5_takeRoad 35 = .ok (.iload_n 1, 1) := by decide +kernel
theorem dX5_takeRoad_36 : decode cX5_takeRoad 36 = .ok (.iaload, 1) := by decide +kernel
theorem dX5_takeRoad_37 : decode cX5_takeRoad 37 = .ok (.ifCond .ge 5, 3) := by decide +kernel
theorem dX5_takeRoad_40 : decode cX5_takeRoad 40 = .ok (.iconst 0, 1) := by decide +kernel
theorem dX5_takeRoad_41 : decode cX5_takeRoad 41 = .ok (.ireturn, 1) := by decide +kernel
theorem dX5_takeRoad_42 : decode cX5_takeRoad 42 = .ok (.aload_n 0, 1) := by decide +kernel
theorem dX5_takeRoad_43 : decode cX5_takeRoad 43 = .ok (.getfield 35, 3) := by decide +kernel
theorem dX5_takeRoad_46 : decode cX5_takeRoad 46 = .ok (.iload_n 1, 1) := by decide +kernel
theorem dX5_takeRoad_47 : decode cX5_takeRoad 47 = .ok (.aload_n 0, 1) := by decide +kernel
theorem dX5_takeRoad_48 : decode cX5_takeRoad 48 = .ok (.invokevirtual 72, 3) := by decide +kernel
theorem dX5_takeRoad_51 : decode cX5_takeRoad 51 = .ok (.iastore, 1) := by decide +kernel
theorem dX5_takeRoad_52 : decode cX5_takeRoad 52 = .ok (.aload_n 0, 1) := by decide +kernel
theorem dX5_takeRoad_53 : decode cX5_takeRoad 53 = .ok (.getfield 35, 3) := by decide +kernel
theorem dX5_takeRoad_56 : decode cX5_takeRoad 56 = .ok (.iload_n 1, 1) := by decide +kernel
theorem dX5_takeRoad_57 : decode cX5_takeRoad 57 = .ok (.iaload, 1) := by decide +kernel
theorem dX5_takeRoad_58 : decode cX5_takeRoad 58 = .ok (.ifCond .ge 5, 3) := by decide +kernel
theorem dX5_takeRoad_61 : decode cX5_takeRoad 61 = .ok (.iconst 0, 1) := by decide +kernel
theorem dX5_takeRoad_62 : decode cX5_takeRoad 62 = .ok (.ireturn, 1) := by decide +kernel
theorem dX5_takeRoad_63 : decode cX5_takeRoad 63 = .ok (.aload_n 0, 1) := by decide +kernel
theorem dX5_takeRoad_64 : decode cX5_takeRoad 64 = .ok (.getfield 38, 3) := by decide +kernel
theorem dX5_takeRoad_67 : decode cX5_takeRoad 67 = .ok (.iload_n 1, 1) := by decide +kernel
theorem dX5_takeRoad_68 : decode cX5_takeRoad 68 = .ok (.aload_n 0, 1) := by decide +kernel
theorem dX5_takeRoad_69 : decode cX5_takeRoad 69 = .ok (.invokevirtual 65, 3) := by decide +kernel
theorem dX5_takeRoad_72 : decode cX5_takeRoad 72 = .ok (.iastore, 1) := by decide +kernel
theorem dX5_takeRoad_73 : decode cX5_takeRoad 73 = .ok (.aload_n 0, 1) := by decide +kernel
theorem dX5_takeRoad_74 : decode cX5_takeRoad 74 = .ok (.getfield 38, 3) := by decide +kernel
theorem dX5_takeRoad_77 : decode cX5_takeRoad 77 = .ok (.iload_n 1, 1) := by decide +kernel
theorem dX5_takeRoad_78 : decode cX5_takeRoad 78 = .ok (.iaload, 1) := by decide +kernel
theorem dX5_takeRoad_79 : decode cX5_takeRoad 79 = .ok (.ifCond .lt 7, 3) := by decide +kernel
theorem dX5_takeRoad_82 : decode cX5_takeRoad 82 = .ok (.iconst 1, 1) := by decide +kernel
theorem dX5_takeRoad_83 : decode cX5_takeRoad 83 = .ok (.goto 4, 3) := by decide +kernel
theorem dX5_takeRoad_86 : decode cX5_takeRoad 86 = .ok (.iconst 0, 1) := by decide +kernel
theorem dX5_takeRoad_87 : decode cX5_takeRoad 87 = .ok (.ireturn, 1) := by decide +kernel
theorem dX5_take_0 : decode cX5_take 0 = .ok (.aload_n 0, 1) := by decide +kernel
theorem dX5_take_1 : decode cX5_take 1 = .ok (.getfield 22, 3) := by decide +kernel
theorem dX5_take_4 : decode cX5_take 4 = .ok (.aload_n 0, 1) := by decide +kernel
theorem dX5_take_5 : decode cX5_take 5 = .ok (.getfield 9, 3) := by decide +kernel
theorem dX5_take_8 : decode cX5_take 8 = .ok (.if_icmp .ge 16, 3) := by decide +kernel
theorem dX5_take_11 : decode cX5_take 11 = .ok (.aload_n 0, 1) := by decide +kernel
theorem dX5_take_12 : decode cX5_take 12 = .ok (.getfield 18, 3) := by decide +kernel
theorem dX5_take_15 : decode cX5_take 15 = .ok (.aload_n 0, 1) := by decide +kernel
theorem dX5_take_16 : decode cX5_take 16 = .ok (.getfield 22, 3) := by decide +kernel
theorem dX5_take_19 : decode cX5_take 19 = .ok (.caload, 1) := by decide +kernel
theorem dX5_take_20 : decode cX5_take 20 = .ok (.iload_n 1, 1) := by decide +kernel
theorem dX5_take_21 : decode cX5_take 21 = .ok (.if_icmp .eq 5, 3) := by decide +kernel
theorem dX5_take_24 : decode cX5_take 24 = .ok (.iconst 0, 1) := by decide +kernel
theorem dX5_take_25 : decode cX5_take 25 = .ok (.ireturn, 1) := by decide +kernel
theorem dX5_take_26 : decode cX5_take 26 = .ok (.aload_n 0, 1) := by decide +kernel
theorem dX5_take_27 : decode cX5_take 27 = .ok (.dup, 1) := by decide +kernel
theorem dX5_take_28 : decode cX5_take 28 = .ok (.getfield 22, 3) := by decide +kernel
theorem dX5_take_31 : decode cX5_take 31 = .ok (.iconst 1, 1) := by decide +kernel
theorem dX5_take_32 : decode cX5_take 32 = .ok (.iadd, 1) := by decide +kernel
theorem dX5_take_33 : decode cX5_take 33 = .ok (.putfield 22, 3) := by decide +kernel
theorem dX5_take_36 : decode cX5_take 36 = .ok (.iconst 1, 1) := by decide +kernel
theorem dX5_take_37 : decode cX5_take 37 = .ok (.ireturn, 1) := by decide +kernel
theorem dX5_takeKind_0 : decode cX5_takeKind 0 = .ok (.aload_n 0, 1) := by decide +kernel
theorem dX5_takeKind_1 : decode cX5_takeKind 1 = .ok (.bipush 112, 2) := by decide +kernel
theorem dX5_takeKind_3 : decode cX5_takeKind 3 = .ok (.invokevirtual 45, 3) := by decide +kernel
theorem dX5_takeKind_6 : decode cX5_takeKind 6 = .ok (.ifCond .eq 5, 3) := by decide +kernel
theorem dX5_takeKind_9 : decode cX5_takeKind 9 = .ok (.iconst 0, 1) := by decide +kernel
theorem dX5_takeKind_10 : decode cX5_takeKind 10 = .ok (.ireturn, 1) := by decide +kernel
theorem dX5_takeKind_11 : decode cX5_takeKind 11 = .ok (.aload_n 0, 1) := by decide +kernel
theorem dX5_takeKind_12 : decode cX5_takeKind 12 = .ok (.bipush 116, 2) := by decide +kernel
theorem dX5_takeKind_14 : decode cX5_takeKind 14 = .ok (.invokevirtual 45, 3) := by decide +kernel
theorem dX5_takeKind_17 : decode cX5_takeKind 17 = .ok (.ifCond .eq 5, 3) := by decide +kernel
theorem dX5_takeKind_20 : decode cX5_takeKind 20 = .ok (.iconst 1, 1) := by decide +kernel
theorem dX5_takeKind_21 : decode cX5_takeKind 21 = .ok (.ireturn, 1) := by decide +kernel
theorem dX5_takeKind_22 : decode cX5_takeKind 22 = .ok (.aload_n 0, 1) := by decide +kernel
theorem dX5_takeKind_23 : decode cX5_takeKind 23 = .ok (.bipush 115, 2) := by decide +kernel
theorem dX5_takeKind_25 : decode cX5_takeKind 25 = .ok (.invokevirtual 45, 3) := by decide +kernel
theorem dX5_takeKind_28 : decode cX5_takeKind 28 = .ok (.ifCond .eq 5, 3) := by decide +kernel
theorem dX5_takeKind_31 : decode cX5_takeKind 31 = .ok (.iconst 2, 1) := by decide +kernel
theorem dX5_takeKind_32 : decode cX5_takeKind 32 = .ok (.ireturn, 1) := by decide +kernel
theorem dX5_takeKind_33 : decode cX5_takeKind 33 = .ok (.aload_n 0, 1) := by decide +kernel
theorem dX5_takeKind_34 : decode cX5_takeKind 34 = .ok (.bipush 120, 2) := by decide +kernel
theorem dX5_takeKind_36 : decode cX5_takeKind 36 = .ok (.invokevirtual 45, 3) := by decide +kernel
theorem dX5_takeKind_39 : decode cX5_takeKind 39 = .ok (.ifCond .eq 7, 3) := by decide +kernel
theorem dX5_takeKind_42 : decode cX5_takeKind 42 = .ok (.iconst 3, 1) := by decide +kernel
theorem dX5_takeKind_43 : decode cX5_takeKind 43 = .ok (.goto 4, 3) := by decide +kernel
theorem dX5_takeKind_46 : decode cX5_takeKind 46 = .ok (.iconst (-1), 1) := by decide +kernel
theorem dX5_takeKind_47 : decode cX5_takeKind 47 = .ok (.ireturn, 1) := by decide +kernel
theorem dX5_takeDigit_0 : decode cX5_takeDigit 0 = .ok (.aload_n 0, 1) := by decide +kernel
theorem dX5_takeDigit_1 : decode cX5_takeDigit 1 = .ok (.getfield 22, 3) := by decide +kernel
theorem dX5_takeDigit_4 : decode cX5_takeDigit 4 = .ok (.aload_n 0, 1) := by decide +kernel
theorem dX5_takeDigit_5 : decode cX5_takeDigit 5 = .ok (.getfield 9, 3) := by decide +kernel
theorem dX5_takeDigit_8 : decode cX5_takeDigit 8 = .ok (.if_icmp .ge 31, 3) := by decide +kernel
theorem dX5_takeDigit_11 : decode cX5_takeDigit 11 = .ok (.aload_n 0, 1) := by decide +kernel
theorem dX5_takeDigit_12 : decode cX5_takeDigit 12 = .ok (.getfield 18, 3) := by decide +kernel
theorem dX5_takeDigit_15 : decode cX5_takeDigit 15 = .ok (.aload_n 0, 1) := by decide +kernel
theorem dX5_takeDigit_16 : decode cX5_takeDigit 16 = .ok (.getfield 22, 3) := by decide +kernel
theorem dX5_takeDigit_19 : decode cX5_takeDigit 19 = .ok (.caload, 1) := by decide +kernel
theorem dX5_takeDigit_20 : decode cX5_takeDigit 20 = .ok (.bipush 48, 2) := by decide +kernel
theorem dX5_takeDigit_22 : decode cX5_takeDigit 22 = .ok (.if_icmp .lt 17, 3) := by decide +kernel
theorem dX5_takeDigit_25 : decode cX5_takeDigit 25 = .ok (.aload_n 0, 1) := by decide +kernel
theorem dX5_takeDigit_26 : decode cX5_takeDigit 26 = .ok (.getfield 18, 3) := by decide +kernel
theorem dX5_takeDigit_29 : decode cX5_takeDigit 29 = .ok (.aload_n 0, 1) := by decide +kernel
theorem dX5_takeDigit_30 : decode cX5_takeDigit 30 = .ok (.getfield 22, 3) := by decide +kernel
theorem dX5_takeDigit_33 : decode cX5_takeDigit 33 = .ok (.caload, 1) := by decide +kernel
theorem dX5_takeDigit_34 : decode cX5_takeDigit 34 = .ok (.bipush 57, 2) := by decide +kernel
theorem dX5_takeDigit_36 : decode cX5_takeDigit 36 = .ok (.if_icmp .le 5, 3) := by decide +kernel
theorem dX5_takeDigit_39 : decode cX5_takeDigit 39 = .ok (.iconst (-1), 1) := by decide +kernel
theorem dX5_takeDigit_40 : decode cX5_takeDigit 40 = .ok (.ireturn, 1) := by decide +kernel
theorem dX5_takeDigit_41 : decode cX5_takeDigit 41 = .ok (.aload_n 0, 1) := by decide +kernel
theorem dX5_takeDigit_42 : decode cX5_takeDigit 42 = .ok (.getfield 18, 3) := by decide +kernel
theorem dX5_takeDigit_45 : decode cX5_takeDigit 45 = .ok (.aload_n 0, 1) := by decide +kernel
theorem dX5_takeDigit_46 : decode cX5_takeDigit 46 = .ok (.getfield 22, 3) := by decide +kernel
theorem dX5_takeDigit_49 : decode cX5_takeDigit 49 = .ok (.caload, 1) := by decide +kernel
theorem dX5_takeDigit_50 : decode cX5_takeDigit 50 = .ok (.bipush 48, 2) := by decide +kernel
theorem dX5_takeDigit_52 : decode cX5_takeDigit 52 = .ok (.isub, 1) := by decide +kernel
theorem dX5_takeDigit_53 : decode cX5_takeDigit 53 = .ok (.istore_n 1, 1) := by decide +kernel
theorem dX5_takeDigit_54 : decode cX5_takeDigit 54 = .ok (.aload_n 0, 1) := by decide +kernel
theorem dX5_takeDigit_55 : decode cX5_takeDigit 55 = .ok (.dup, 1) := by decide +kernel
theorem dX5_takeDigit_56 : decode cX5_takeDigit 56 = .ok (.getfield 22, 3) := by decide +kernel
theorem dX5_takeDigit_59 : decode cX5_takeDigit 59 = .ok (.iconst 1, 1) := by decide +kernel
theorem dX5_takeDigit_60 : decode cX5_takeDigit 60 = .ok (.iadd, 1) := by decide +kernel
theorem dX5_takeDigit_61 : decode cX5_takeDigit 61 = .ok (.putfield 22, 3) := by decide +kernel
theorem dX5_takeDigit_64 : decode cX5_takeDigit 64 = .ok (.iload_n 1, 1) := by decide +kernel
theorem dX5_takeDigit_65 : decode cX5_takeDigit 65 = .ok (.ireturn, 1) := by decide +kernel
theorem dX5_takeNumber_0 : decode cX5_takeNumber 0 = .ok (.aload_n 0, 1) := by decide +kernel
theorem dX5_takeNumber_1 : decode cX5_takeNumber 1 = .ok (.invokevirtual 69, 3) := by decide +kernel
theorem dX5_takeNumber_4 : decode cX5_takeNumber 4 = .ok (.istore_n 1, 1) := by decide +kernel
theorem dX5_takeNumber_5 : decode cX5_takeNumber 5 = .ok (.iload_n 1, 1) := by decide +kernel
theorem dX5_takeNumber_6 : decode cX5_takeNumber 6 = .ok (.ifCond .ge 5, 3) := by decide +kernel
theorem dX5_takeNumber_9 : decode cX5_takeNumber 9 = .ok (.iconst (-1), 1) := by decide +kernel
theorem dX5_takeNumber_10 : decode cX5_takeNumber 10 = .ok (.ireturn, 1) := by decide +kernel
theorem dX5_takeNumber_11 : decode cX5_takeNumber 11 = .ok (.aload_n 0, 1) := by decide +kernel
theorem dX5_takeNumber_12 : decode cX5_takeNumber 12 = .ok (.invokevirtual 69, 3) := by decide +kernel
theorem dX5_takeNumber_15 : decode cX5_takeNumber 15 = .ok (.istore_n 2, 1) := by decide +kernel
theorem dX5_takeNumber_16 : decode cX5_takeNumber 16 = .ok (.iload_n 2, 1) := by decide +kernel
theorem dX5_takeNumber_17 : decode cX5_takeNumber 17 = .ok (.ifCond .ge 7, 3) := by decide +kernel
theorem dX5_takeNumber_20 : decode cX5_takeNumber 20 = .ok (.iload_n 1, 1) := by decide +kernel
theorem dX5_takeNumber_21 : decode cX5_takeNumber 21 = .ok (.goto 9, 3) := by decide +kernel
theorem dX5_takeNumber_24 : decode cX5_takeNumber 24 = .ok (.bipush 10, 2) := by decide +kernel
theorem dX5_takeNumber_26 : decode cX5_takeNumber 26 = .ok (.iload_n 1, 1) := by decide +kernel
theorem dX5_takeNumber_27 : decode cX5_takeNumber 27 = .ok (.imul, 1) := by decide +kernel
theorem dX5_takeNumber_28 : decode cX5_takeNumber 28 = .ok (.iload_n 2, 1) := by decide +kernel
theorem dX5_takeNumber_29 : decode cX5_takeNumber 29 = .ok (.iadd, 1) := by decide +kernel
theorem dX5_takeNumber_30 : decode cX5_takeNumber 30 = .ok (.ireturn, 1) := by decide +kernel
theorem dX6_init_0 : decode cX6_init 0 = .ok (.aload_n 0, 1) := by decide +kernel
theorem dX6_init_1 : decode cX6_init 1 = .ok (.invokespecial 3, 3) := by decide +kernel
theorem dX6_init_4 : decode cX6_init 4 = .ok (.aload_n 0, 1) := by decide +kernel
theorem dX6_init_5 : decode cX6_init 5 = .ok (.new 9, 3) := by decide +kernel
theorem dX6_init_8 : decode cX6_init 8 = .ok (.dup, 1) := by decide +kernel
theorem dX6_init_9 : decode cX6_init 9 = .ok (.invokespecial 11, 3) := by decide +kernel
theorem dX6_init_12 : decode cX6_init 12 = .ok (.putfield 12, 3) := by decide +kernel
theorem dX6_init_15 : decode cX6_init 15 = .ok (.aload_n 0, 1) := by decide +kernel
theorem dX6_init_16 : decode cX6_init 16 = .ok (.new 18, 3) := by decide +kernel
theorem dX6_init_19 : decode cX6_init 19 = .ok (.dup, 1) := by decide +kernel
theorem dX6_init_20 : decode cX6_init 20 = .ok (.invokespecial 20, 3) := by decide +kernel
theorem dX6_init_23 : decode cX6_init 23 = .ok (.putfield 21, 3) := by decide +kernel
theorem dX6_init_26 : decode cX6_init 26 = .ok (.aload_n 0, 1) := by decide +kernel
theorem dX6_init_27 : decode cX6_init 27 = .ok (.new 25, 3) := by decide +kernel
theorem dX6_init_30 : decode cX6_init 30 = .ok (.dup, 1) := by decide +kernel
theorem dX6_init_31 : decode cX6_init 31 = .ok (.iconst 5, 1) := by decide +kernel
theorem dX6_init_32 : decode cX6_init 32 = .ok (.invokespecial 27, 3) := by decide +kernel
theorem dX6_init_35 : decode cX6_init 35 = .ok (.putfield 30, 3) := by decide +kernel
theorem dX6_init_38 : decode cX6_init 38 = .ok (.aload_n 0, 1) := by decide +kernel
theorem dX6_init_39 : decode cX6_init 39 = .ok (.new 25, 3) := by decide +kernel
theorem dX6_init_42 : decode cX6_init 42 = .ok (.dup, 1) := by decide +kernel
theorem dX6_init_43 : decode cX6_init 43 = .ok (.bipush 8, 2) := by decide +kernel
theorem dX6_init_45 : decode cX6_init 45 = .ok (.invokespecial 27, 3) := by decide +kernel
theorem dX6_init_48 : decode cX6_init 48 = .ok (.putfield 34, 3) := by decide +kernel
theorem dX6_init_51 : decode cX6_init 51 = .ok (.aload_n 0, 1) := by decide +kernel
theorem dX6_init_52 : decode cX6_init 52 = .ok (.new 25, 3) := by decide +kernel
theorem dX6_init_55 : decode cX6_init 55 = .ok (.dup, 1) := by decide +kernel
theorem dX6_init_56 : decode cX6_init 56 = .ok (.bipush 8, 2) := by decide +kernel
theorem dX6_init_58 : decode cX6_init 58 = .ok (.invokespecial 27, 3) := by decide +kernel
theorem dX6_init_61 : decode cX6_init 61 = .ok (.putfield 37, 3) := by decide +kernel
theorem dX6_init_64 : decode cX6_init 64 = .ok (.return_, 1) := by decide +kernel
theorem dX6_copyFrom_0 : decode cX6_copyFrom 0 = .ok (.aload_n 0, 1) := by decide +kernel
theorem dX6_copyFrom_1 : decode cX6_copyFrom 1 = .ok (.getfield 12, 3) := by decide +kernel
theorem dX6_copyFrom_4 : decode cX6_copyFrom 4 = .ok (.aload_n 1, 1) := by decide +kernel
theorem dX6_copyFrom_5 : decode cX6_copyFrom 5 = .ok (.getfield 12, 3) := by decide +kernel
theorem dX6_copyFrom_8 : decode cX6_copyFrom 8 = .ok (.invokevirtual 40, 3) := by decide +kernel
theorem dX6_copyFrom_11 : decode cX6_copyFrom 11 = .ok (.aload_n 0, 1) := by decide +kernel
theorem dX6_copyFrom_12 : decode cX6_copyFrom 12 = .ok (.getfield 21, 3) := by decide +kernel
theorem dX6_copyFrom_15 : decode cX6_copyFrom 15 = .ok (.aload_n 1, 1) := by decide +kernel
theorem dX6_copyFrom_16 : decode cX6_copyFrom 16 = .ok (.getfield 21, 3) := by decide +kernel
theorem dX6_copyFrom_19 : decode cX6_copyFrom 19 = .ok (.invokevirtual 44, 3) := by decide +kernel
theorem dX6_copyFrom_22 : decode cX6_copyFrom 22 = .ok (.aload_n 0, 1) := by decide +kernel
theorem dX6_copyFrom_23 : decode cX6_copyFrom 23 = .ok (.getfield 30, 3) := by decide +kernel
theorem dX6_copyFrom_26 : decode cX6_copyFrom 26 = .ok (.aload_n 1, 1) := by decide +kernel
theorem dX6_copyFrom_27 : decode cX6_copyFrom 27 = .ok (.getfield 30, 3) := by decide +kernel
theorem dX6_copyFrom_30 : decode cX6_copyFrom 30 = .ok (.invokevirtual 47, 3) := by decide +kernel
theorem dX6_copyFrom_33 : decode cX6_copyFrom 33 = .ok (.aload_n 0, 1) := by decide +kernel
theorem dX6_copyFrom_34 : decode cX6_copyFrom 34 = .ok (.getfield 34, 3) := by decide +kernel
theorem dX6_copyFrom_37 : decode cX6_copyFrom 37 = .ok (.aload_n 1, 1) := by decide +kernel
theorem dX6_copyFrom_38 : decode cX6_copyFrom 38 = .ok (.getfield 34, 3) := by decide +kernel
theorem dX6_copyFrom_41 : decode cX6_copyFrom 41 = .ok (.invokevirtual 47, 3) := by decide +kernel
theorem dX6_copyFrom_44 : decode cX6_copyFrom 44 = .ok (.aload_n 0, 1) := by decide +kernel
theorem dX6_copyFrom_45 : decode cX6_copyFrom 45 = .ok (.getfield 37, 3) := by decide +kernel
theorem dX6_copyFrom_48 : decode cX6_copyFrom 48 = .ok (.aload_n 1, 1) := by decide +kernel
theorem dX6_copyFrom_49 : decode cX6_copyFrom 49 = .ok (.getfield 37, 3) := by decide +kernel
theorem dX6_copyFrom_52 : decode cX6_copyFrom 52 = .ok (.invokevirtual 47, 3) := by decide +kernel
theorem dX6_copyFrom_55 : decode cX6_copyFrom 55 = .ok (.return_, 1) := by decide +kernel
theorem dX6_addSite_0 : decode cX6_addSite 0 = .ok (.iload_n 1, 1) := by decide +kernel
theorem dX6_addSite_1 : decode cX6_addSite 1 = .ok (.ifCond .ne 13, 3) := by decide +kernel
theorem dX6_addSite_4 : decode cX6_addSite 4 = .ok (.aload_n 0, 1) := by decide +kernel
theorem dX6_addSite_5 : decode cX6_addSite 5 = .ok (.getfield 12, 3) := by decide +kernel
theorem dX6_addSite_8 : decode cX6_addSite 8 = .ok (.getfield 50, 3) := by decide +kernel
theorem dX6_addSite_11 : decode cX6_addSite 11 = .ok (.goto 10, 3) := by decide +kernel
theorem dX6_addSite_14 : decode cX6_addSite 14 = .ok (.aload_n 0, 1) := by decide +kernel
theorem dX6_addSite_15 : decode cX6_addSite 15 = .ok (.getfield 12, 3) := by decide +kernel
theorem dX6_addSite_18 : decode cX6_addSite 18 = .ok (.getfield 54, 3) := by decide +kernel
theorem dX6_addSite_21 : decode cX6_addSite 21 = .ok (.istore 4, 2) := by decide +kernel
theorem dX6_addSite_23 : decode cX6_addSite 23 = .ok (.iload 4, 2) := by decide +kernel
theorem dX6_addSite_25 : decode cX6_addSite 25 = .ok (.iconst 5, 1) := by decide +kernel
theorem dX6_addSite_26 : decode cX6_addSite 26 = .ok (.if_icmp .lt 6, 3) := by decide +kernel
theorem dX6_addSite_29 : decode cX6_addSite 29 = .ok (.bipush (-4), 2) := by decide +kernel
theorem dX6_addSite_31 : decode cX6_addSite 31 = .ok (.ireturn, 1) := by decide +kernel
theorem dX6_addSite_32 : decode cX6_addSite 32 = .ok (.aload_n 0, 1) := by decide +kernel
theorem dX6_addSite_33 : decode cX6_addSite 33 = .ok (.getfield 12, 3) := by decide +kernel
theorem dX6_addSite_36 : decode cX6_addSite 36 = .ok (.iload_n 1, 1) := by decide +kernel
theorem dX6_addSite_37 : decode cX6_addSite 37 = .ok (.iconst 0, 1) := by decide +kernel
theorem dX6_addSite_38 : decode cX6_addSite 38 = .ok (.invokevirtual 57, 3) := by decide +kernel
theorem dX6_addSite_41 : decode cX6_addSite 41 = .ok (.iload 4, 2) := by decide +kernel
theorem dX6_addSite_43 : decode cX6_addSite 43 = .ok (.iload_n 2, 1) := by decide +kernel
theorem dX6_addSite_44 : decode cX6_addSite 44 = .ok (.iastore, 1) := by decide +kernel
theorem dX6_addSite_45 : decode cX6_addSite 45 = .ok (.aload_n 0, 1) := by decide +kernel
theorem dX6_addSite_46 : decode cX6_addSite 46 = .ok (.getfield 12, 3) := by decide +kernel
theorem dX6_addSite_49 : decode cX6_addSite 49 = .ok (.iload_n 1, 1) := by decide +kernel
theorem dX6_addSite_50 : decode cX6_addSite 50 = .ok (.iconst 1, 1) := by decide +kernel
theorem dX6_addSite_51 : decode cX6_addSite 51 = .ok (.invokevirtual 57, 3) := by decide +kernel
theorem dX6_addSite_54 : decode cX6_addSite 54 = .ok (.iload 4, 2) := by decide +kernel
theorem dX6_addSite_56 : decode cX6_addSite 56 = .ok (.iload_n 3, 1) := by decide +kernel
theorem dX6_addSite_57 : decode cX6_addSite 57 = .ok (.iastore, 1) := by decide +kernel
theorem dX6_addSite_58 : decode cX6_addSite 58 = .ok (.iload_n 1, 1) := by decide +kernel
theorem dX6_addSite_59 : decode cX6_addSite 59 = .ok (.ifCond .ne 19, 3) := by decide +kernel
theorem dX6_addSite_62 : decode cX6_addSite 62 = .ok (.aload_n 0, 1) := by decide +kernel
theorem dX6_addSite_63 : decode cX6_addSite 63 = .ok (.getfield 12, 3) := by decide +kernel
theorem dX6_addSite_66 : decode cX6_addSite 66 = .ok (.dup, 1) := by decide +kernel
theorem dX6_addSite_67 : decode cX6_addSite 67 = .ok (.getfield 50, 3) := by decide +kernel
theorem dX6_addSite_70 : decode cX6_addSite 70 = .ok (.iconst 1, 1) := by decide +kernel
theorem dX6_addSite_71 : decode cX6_addSite 71 = .ok (.iadd, 1) := by decide +kernel
theorem dX6_addSite_72 : decode cX6_addSite 72 = .ok (.putfield 50, 3) := by decide +kernel
theorem dX6_addSite_75 : decode cX6_addSite 75 = .ok (.goto 16, 3) := by decide +kernel
theorem dX6_addSite_78 : decode cX6_addSite 78 = .ok (.aload_n 0, 1) := by decide +kernel
theorem dX6_addSite_79 : decode cX6_addSite 79 = .ok (.getfield 12, 3) := by decide +kernel
theorem dX6_addSite_82 : decode cX6_addSite 82 = .ok (.dup, 1) := by decide +kernel
theorem dX6_addSite_83 : decode cX6_addSite 83 = .ok (.getfield 54, 3) := by decide +kernel
theorem dX6_addSite_86 : decode cX6_addSite 86 = .ok (.iconst 1, 1) := by decide +kernel
theorem dX6_addSite_87 : decode cX6_addSite 87 = .ok (.iadd, 1) := by decide +kernel
theorem dX6_addSite_88 : decode cX6_addSite 88 = .ok (.putfield 54, 3) := by decide +kernel
theorem dX6_addSite_91 : decode cX6_addSite 91 = .ok (.aload_n 0, 1) := by decide +kernel
theorem dX6_addSite_92 : decode cX6_addSite 92 = .ok (.getfield 21, 3) := by decide +kernel
theorem dX6_addSite_95 : decode cX6_addSite 95 = .ok (.iconst 0, 1) := by decide +kernel
theorem dX6_addSite_96 : decode cX6_addSite 96 = .ok (.putfield 61, 3) := by decide +kernel
theorem dX6_addSite_99 : decode cX6_addSite 99 = .ok (.iload 4, 2) := by decide +kernel
theorem dX6_addSite_101 : decode cX6_addSite 101 = .ok (.ireturn, 1) := by decide +kernel
theorem dX6_changeSite_0 : decode cX6_changeSite 0 = .ok (.aload_n 0, 1) := by decide +kernel
theorem dX6_changeSite_1 : decode cX6_changeSite 1 = .ok (.getfield 12, 3) := by decide +kernel
theorem dX6_changeSite_4 : decode cX6_changeSite 4 = .ok (.iload_n 1, 1) := by decide +kernel
theorem dX6_changeSite_5 : decode cX6_changeSite 5 = .ok (.iload_n 3, 1) := by decide +kernel
theorem dX6_changeSite_6 : decode cX6_changeSite 6 = .ok (.invokevirtual 57, 3) := by decide +kernel
theorem dX6_changeSite_9 : decode cX6_changeSite 9 = .ok (.astore 5, 2) := by decide +kernel
theorem dX6_changeSite_11 : decode cX6_changeSite 11 = .ok (.aload 5, 2) := by decide +kernel
theorem dX6_changeSite_13 : decode cX6_changeSite 13 = .ok (.iload_n 2, 1) := by decide +kernel
theorem dX6_changeSite_14 : decode cX6_changeSite 14 = .ok (.iaload, 1) := by decide +kernel
theorem dX6_changeSite_15 : decode cX6_changeSite 15 = .ok (.istore 6, 2) := by decide +kernel
theorem dX6_changeSite_17 : decode cX6_changeSite 17 = .ok (.aload 5, 2) := by decide +kernel
theorem dX6_changeSite_19 : decode cX6_changeSite 19 = .ok (.iload_n 2, 1) := by decide +kernel
theorem dX6_changeSite_20 : decode cX6_changeSite 20 = .ok (.iload 4, 2) := by decide +kernel
theorem dX6_changeSite_22 : decode cX6_changeSite 22 = .ok (.iastore, 1) := by decide +kernel
theorem dX6_changeSite_23 : decode cX6_changeSite 23 = .ok (.aload_n 0, 1) := by decide +kernel
theorem dX6_changeSite_24 : decode cX6_changeSite 24 = .ok (.getfield 21, 3) := by decide +kernel
theorem dX6_changeSite_27 : decode cX6_changeSite 27 = .ok (.iconst 0, 1) := by decide +kernel
theorem dX6_changeSite_28 : decode cX6_changeSite 28 = .ok (.putfield 61, 3) := by decide +kernel
theorem dX6_changeSite_31 : decode cX6_changeSite 31 = .ok (.iload 6, 2) := by decide +kernel
theorem dX6_changeSite_33 : decode cX6_changeSite 33 = .ok (.ireturn, 1) := by decide +kernel
theorem dX6_changeRoad_0 : decode cX6_changeRoad 0 = .ok (.aload_n 0, 1) := by decide +kernel
theorem dX6_changeRoad_1 : decode cX6_changeRoad 1 = .ok (.getfield 12, 3) := by decide +kernel
theorem dX6_changeRoad_4 : decode cX6_changeRoad 4 = .ok (.iload_n 1, 1) := by decide +kernel
theorem dX6_changeRoad_5 : decode cX6_changeRoad 5 = .ok (.iload_n 2, 1) := by decide +kernel
theorem dX6_changeRoad_6 : decode cX6_changeRoad 6 = .ok (.invokevirtual 65, 3) := by decide +kernel
theorem dX6_changeRoad_9 : decode cX6_changeRoad 9 = .ok (.ifCond .ne 5, 3) := by decide +kernel
theorem dX6_changeRoad_12 : decode cX6_changeRoad 12 = .ok (.iconst (-1), 1) := by decide +kernel
theorem dX6_changeRoad_13 : decode cX6_changeRoad 13 = .ok (.ireturn, 1) := by decide +kernel
theorem dX6_changeRoad_14 : decode cX6_changeRoad 14 = .ok (.iload_n 1, 1) := by decide +kernel
theorem dX6_changeRoad_15 : decode cX6_changeRoad 15 = .ok (.iload_n 2, 1) := by decide +kernel
theorem dX6_changeRoad_16 : decode cX6_changeRoad 16 = .ok (.invokestatic 69, 3) := by decide +kernel
theorem dX6_changeRoad_19 : decode cX6_changeRoad 19 = .ok (.istore 5, 2) := by decide +kernel
theorem dX6_changeRoad_21 : decode cX6_changeRoad 21 = .ok (.bipush 100, 2) := by decide +kernel
theorem dX6_changeRoad_23 : decode cX6_changeRoad 23 = .ok (.aload_n 0, 1) := by decide +kernel
theorem dX6_changeRoad_24 : decode cX6_changeRoad 24 = .ok (.getfield 12, 3) := by decide +kernel
theorem dX6_changeRoad_27 : decode cX6_changeRoad 27 = .ok (.getfield 73, 3) := by decide +kernel
theorem dX6_changeRoad_30 : decode cX6_changeRoad 30 = .ok (.iload 5, 2) := by decide +kernel
theorem dX6_changeRoad_32 : decode cX6_changeRoad 32 = .ok (.iaload, 1) := by decide +kernel
theorem dX6_changeRoad_33 : decode cX6_changeRoad 33 = .ok (.imul, 1) := by decide +kernel
theorem dX6_changeRoad_34 : decode cX6_changeRoad 34 = .ok (.aload_n 0, 1) := by decide +kernel
theorem dX6_changeRoad_35 : decode cX6_changeRoad 35 = .ok (.getfield 12, 3) := by decide +kernel
theorem dX6_changeRoad_38 : decode cX6_changeRoad 38 = .ok (.getfield 77, 3) := by decide +kernel
theorem dX6_changeRoad_41 : decode cX6_changeRoad 41 = .ok (.iload 5, 2) := by decide +kernel
theorem dX6_changeRoad_43 : decode cX6_changeRoad 43 = .ok (.iaload, 1) := by decide +kernel
theorem dX6_changeRoad_44 : decode cX6_changeRoad 44 = .ok (.iadd, 1) := by decide +kernel
theorem dX6_changeRoad_45 : decode cX6_changeRoad 45 = .ok (.istore 6, 2) := by decide +kernel
theorem dX6_changeRoad_47 : decode cX6_changeRoad 47 = .ok (.aload_n 0, 1) := by decide +kernel
theorem dX6_changeRoad_48 : decode cX6_changeRoad 48 = .ok (.getfield 12, 3) := by decide +kernel
theorem dX6_changeRoad_51 : decode cX6_changeRoad 51 = .ok (.getfield 73, 3) := by decide +kernel
theorem dX6_changeRoad_54 : decode cX6_changeRoad 54 = .ok (.iload 5, 2) := by decide +kernel
theorem dX6_changeRoad_56 : decode cX6_changeRoad 56 = .ok (.iload_n 3, 1) := by decide +kernel
theorem dX6_changeRoad_57 : decode cX6_changeRoad 57 = .ok (.iastore, 1) := by decide +kernel
theorem dX6_changeRoad_58 : decode cX6_changeRoad 58 = .ok (.aload_n 0, 1) := by decide +kernel
theorem dX6_changeRoad_59 : decode cX6_changeRoad 59 = .ok (.getfield 12, 3) := by decide +kernel
theorem dX6_changeRoad_62 : decode cX6_changeRoad 62 = .ok (.getfield 77, 3) := by decide +kernel
theorem dX6_changeRoad_65 : decode cX6_changeRoad 65 = .ok (.iload 5, 2) := by decide +kernel
theorem dX6_changeRoad_67 : decode cX6_changeRoad 67 = .ok (.iload 4, 2) := by decide +kernel
theorem dX6_changeRoad_69 : decode cX6_changeRoad 69 = .ok (.iastore, 1) := by decide +kernel
theorem dX6_changeRoad_70 : decode cX6_changeRoad 70 = .ok (.aload_n 0, 1) := by decide +kernel
theorem dX6_changeRoad_71 : decode cX6_changeRoad 71 = .ok (.getfield 21, 3) := by decide +kernel
theorem dX6_changeRoad_74 : decode cX6_changeRoad 74 = .ok (.iconst 0, 1) := by decide +kernel
theorem dX6_changeRoad_75 : decode cX6_changeRoad 75 = .ok (.putfield 61, 3) := by decide +kernel
theorem dX6_changeRoad_78 : decode cX6_changeRoad 78 = .ok (.iload 6, 2) := by decide +kernel
theorem dX6_changeRoad_80 : decode cX6_changeRoad 80 = .ok (.ireturn, 1) := by decide +kernel
theorem dX7_init_0 : decode cX7_init 0 = .ok (.aload_n 0, 1) := by decide +kernel
theorem dX7_init_1 : decode cX7_init 1 = .ok (.invokespecial 3, 3) := by decide +kernel
theorem dX7_init_4 : decode cX7_init 4 = .ok (.aload_n 0, 1) := by decide +kernel
theorem dX7_init_5 : decode cX7_init 5 = .ok (.iconst (-1), 1) := by decide +kernel
theorem dX7_init_6 : decode cX7_init 6 = .ok (.putfield 9, 3) := by decide +kernel
theorem dX7_init_9 : decode cX7_init 9 = .ok (.aload_n 0, 1) := by decide +kernel
theorem dX7_init_10 : decode cX7_init 10 = .ok (.iconst 0, 1) := by decide +kernel
theorem dX7_init_11 : decode cX7_init 11 = .ok (.putfield 15, 3) := by decide +kernel
theorem dX7_init_14 : decode cX7_init 14 = .ok (.aload_n 0, 1) := by decide +kernel
theorem dX7_init_15 : decode cX7_init 15 = .ok (.bipush 60, 2) := by decide +kernel
theorem dX7_init_17 : decode cX7_init 17 = .ok (.newarray .long, 2) := by decide +kernel
theorem dX7_init_19 : decode cX7_init 19 = .ok (.putfield 18, 3) := by decide +kernel
theorem dX7_init_22 : decode cX7_init 22 = .ok (.return_, 1) := by decide +kernel
theorem dX7_become_0 : decode cX7_become 0 = .ok (.aload_n 0, 1) := by decide +kernel
theorem dX7_become_1 : decode cX7_become 1 = .ok (.iload_n 1, 1) := by decide +kernel
theorem dX7_become_2 : decode cX7_become 2 = .ok (.putfield 9, 3) := by decide +kernel
theorem dX7_become_5 : decode cX7_become 5 = .ok (.aload_n 0, 1) := by decide +kernel
theorem dX7_become_6 : decode cX7_become 6 = .ok (.iload_n 2, 1) := by decide +kernel
theorem dX7_become_7 : decode cX7_become 7 = .ok (.putfield 15, 3) := by decide +kernel
theorem dX7_become_10 : decode cX7_become 10 = .ok (.aload_n 0, 1) := by decide +kernel
theorem dX7_become_11 : decode cX7_become 11 = .ok (.getfield 18, 3) := by decide +kernel
theorem dX7_become_14 : decode cX7_become 14 = .ok (.lconst 0, 1) := by decide +kernel
theorem dX7_become_15 : decode cX7_become 15 = .ok (.invokestatic 22, 3) := by decide +kernel
theorem dX7_become_18 : decode cX7_become 18 = .ok (.return_, 1) := by decide +kernel
theorem dX7_hasPlace_0 : decode cX7_hasPlace 0 = .ok (.iload_n 1, 1) := by decide +kernel
theorem dX7_hasPlace_1 : decode cX7_hasPlace 1 = .ok (.ifCond .lt 15, 3) := by decide +kernel
theorem dX7_hasPlace_4 : decode cX7_hasPlace 4 = .ok (.iload_n 1, 1) := by decide +kernel
theorem dX7_hasPlace_5 : decode cX7_hasPlace 5 = .ok (.aload_n 0, 1) := by decide +kernel
theorem dX7_hasPlace_6 : decode cX7_hasPlace 6 = .ok (.getfield 15, 3) := by decide +kernel
theorem dX7_hasPlace_9 : decode cX7_hasPlace 9 = .ok (.if_icmp .ge 7, 3) := by decide +kernel
theorem dX7_hasPlace_12 : decode cX7_hasPlace 12 = .ok (.iconst 1, 1) := by decide +kernel
theorem dX7_hasPlace_13 : decode cX7_hasPlace 13 = .ok (.goto 4, 3) := by decide +kernel
theorem dX7_hasPlace_16 : decode cX7_hasPlace 16 = .ok (.iconst 0, 1) := by decide +kernel
theorem dX7_hasPlace_17 : decode cX7_hasPlace 17 = .ok (.ireturn, 1) := by decide +kernel
theorem dX7_hasRun_0 : decode cX7_hasRun 0 = .ok (.iload_n 2, 1) := by decide +kernel
theorem dX7_hasRun_1 : decode cX7_hasRun 1 = .ok (.ifCond .lt 21, 3) := by decide +kernel
theorem dX7_hasRun_4 : decode cX7_hasRun 4 = .ok (.iload_n 1, 1) := by decide +kernel
theorem dX7_hasRun_5 : decode cX7_hasRun 5 = .ok (.ifCond .lt 17, 3) := by decide +kernel
theorem dX7_hasRun_8 : decode cX7_hasRun 8 = .ok (.iload_n 2, 1) := by decide +kernel
theorem dX7_hasRun_9 : decode cX7_hasRun 9 = .ok (.aload_n 0, 1) := by decide +kernel
theorem dX7_hasRun_10 : decode cX7_hasRun 10 = .ok (.getfield 15, 3) := by decide +kernel
theorem dX7_hasRun_13 : decode cX7_hasRun 13 = .ok (.iload_n 1, 1) := by decide +kernel
theorem dX7_hasRun_14 : decode cX7_hasRun 14 = .ok (.isub, 1) := by decide +kernel
theorem dX7_hasRun_15 : decode cX7_hasRun 15 = .ok (.if_icmp .gt 7, 3) := by decide +kernel
theorem dX7_hasRun_18 : decode cX7_hasRun 18 = .ok (.iconst 1, 1) := by decide +kernel
theorem dX7_hasRun_19 : decode cX7_hasRun 19 = .ok (.goto 4, 3) := by decide +kernel
theorem dX7_hasRun_22 : decode cX7_hasRun 22 = .ok (.iconst 0, 1) := by decide +kernel
theorem dX7_hasRun_23 : decode cX7_hasRun 23 = .ok (.ireturn, 1) := by decide +kernel
theorem dX7_fitted_0 : decode cX7_fitted 0 = .ok (.aload_n 0, 1) := by decide +kernel
theorem dX7_fitted_1 : decode cX7_fitted 1 = .ok (.getfield 9, 3) := by decide +kernel
theorem dX7_fitted_4 : decode cX7_fitted 4 = .ok (.tableswitch 62 0 4 #[36, 41, 46, 62, 50], 36) := by decide +kernel
theorem dX7_fitted_40 : decode cX7_fitted 40 = .ok (.lload_n 1, 1) := by decide +kernel
theorem dX7_fitted_41 : decode cX7_fitted 41 = .ok (.l2i, 1) := by decide +kernel
theorem dX7_fitted_42 : decode cX7_fitted 42 = .ok (.i2b, 1) := by decide +kernel
theorem dX7_fitted_43 : decode cX7_fitted 43 = .ok (.i2l, 1) := by decide +kernel
theorem dX7_fitted_44 : decode cX7_fitted 44 = .ok (.lreturn, 1) := by decide +kernel
theorem dX7_fitted_45 : decode cX7_fitted 45 = .ok (.lload_n 1, 1) := by decide +kernel
theorem dX7_fitted_46 : decode cX7_fitted 46 = .ok (.l2i, 1) := by decide +kernel
theorem dX7_fitted_47 : decode cX7_fitted 47 = .ok (.i2s, 1) := by decide +kernel
theorem dX7_fitted_48 : decode cX7_fitted 48 = .ok (.i2l, 1) := by decide +kernel
theorem dX7_fitted_49 : decode cX7_fitted 49 = .ok (.lreturn, 1) := by decide +kernel
theorem dX7_fitted_50 : decode cX7_fitted 50 = .ok (.lload_n 1, 1) := by decide +kernel
theorem dX7_fitted_51 : decode cX7_fitted 51 = .ok (.l2i, 1) := by decide +kernel
theorem dX7_fitted_52 : decode cX7_fitted 52 = .ok (.i2l, 1) := by decide +kernel
theorem dX7_fitted_53 : decode cX7_fitted 53 = .ok (.lreturn, 1) := by decide +kernel
theorem dX7_fitted_54 : decode cX7_fitted 54 = .ok (.lload_n 1, 1) := by decide +kernel
theorem dX7_fitted_55 : decode cX7_fitted 55 = .ok (.lconst 0, 1) := by decide +kernel
theorem dX7_fitted_56 : decode cX7_fitted 56 = .ok (.lcmp, 1) := by decide +kernel
theorem dX7_fitted_57 : decode cX7_fitted 57 = .ok (.ifCond .eq 7, 3) := by decide +kernel
theorem dX7_fitted_60 : decode cX7_fitted 60 = .ok (.lconst 1, 1) := by decide +kernel
theorem dX7_fitted_61 : decode cX7_fitted 61 = .ok (.goto 4, 3) := by decide +kernel
theorem dX7_fitted_64 : decode cX7_fitted 64 = .ok (.lconst 0, 1) := by decide +kernel
theorem dX7_fitted_65 : decode cX7_fitted 65 = .ok (.lreturn, 1) := by decide +kernel
theorem dX7_fitted_66 : decode cX7_fitted 66 = .ok (.lload_n 1, 1) := by decide +kernel
theorem dX7_fitted_67 : decode cX7_fitted 67 = .ok (.lreturn, 1) := by decide +kernel
theorem dX8_init_0 : decode cX8_init 0 = .ok (.aload_n 0, 1) := by decide +kernel
theorem dX8_init_1 : decode cX8_init 1 = .ok (.invokespecial 5, 3) := by decide +kernel
theorem dX8_init_4 : decode cX8_init 4 = .ok (.aload_n 0, 1) := by decide +kernel
theorem dX8_init_5 : decode cX8_init 5 = .ok (.new 11, 3) := by decide +kernel
theorem dX8_init_8 : decode cX8_init 8 = .ok (.dup, 1) := by decide +kernel
theorem dX8_init_9 : decode cX8_init 9 = .ok (.invokespecial 13, 3) := by decide +kernel
theorem dX8_init_12 : decode cX8_init 12 = .ok (.putfield 14, 3) := by decide +kernel
theorem dX8_init_15 : decode cX8_init 15 = .ok (.aload_n 0, 1) := by decide +kernel
theorem dX8_init_16 : decode cX8_init 16 = .ok (.new 11, 3) := by decide +kernel
theorem dX8_init_19 : decode cX8_init 19 = .ok (.dup, 1) := by decide +kernel
theorem dX8_init_20 : decode cX8_init 20 = .ok (.invokespecial 13, 3) := by decide +kernel
theorem dX8_init_23 : decode cX8_init 23 = .ok (.putfield 18, 3) := by decide +kernel
theorem dX8_init_26 : decode cX8_init 26 = .ok (.aload_n 0, 1) := by decide +kernel
theorem dX8_init_27 : decode cX8_init 27 = .ok (.iconst 0, 1) := by decide +kernel
theorem dX8_init_28 : decode cX8_init 28 = .ok (.putfield 21, 3) := by decide +kernel
theorem dX8_init_31 : decode cX8_init 31 = .ok (.aload_n 0, 1) := by decide +kernel
theorem dX8_init_32 : decode cX8_init 32 = .ok (.new 25, 3) := by decide +kernel
theorem dX8_init_35 : decode cX8_init 35 = .ok (.dup, 1) := by decide +kernel
theorem dX8_init_36 : decode cX8_init 36 = .ok (.invokespecial 27, 3) := by decide +kernel
theorem dX8_init_39 : decode cX8_init 39 = .ok (.putfield 28, 3) := by decide +kernel
theorem dX8_init_42 : decode cX8_init 42 = .ok (.aload_n 0, 1) := by decide +kernel
theorem dX8_init_43 : decode cX8_init 43 = .ok (.bipush 6, 2) := by decide +kernel
theorem dX8_init_45 : decode cX8_init 45 = .ok (.anewarray 32, 3) := by decide +kernel
theorem dX8_init_48 : decode cX8_init 48 = .ok (.putfield 34, 3) := by decide +kernel
theorem dX8_init_51 : decode cX8_init 51 = .ok (.aload_n 0, 1) := by decide +kernel
theorem dX8_init_52 : decode cX8_init 52 = .ok (.new 38, 3) := by decide +kernel
theorem dX8_init_55 : decode cX8_init 55 = .ok (.dup, 1) := by decide +kernel
theorem dX8_init_56 : decode cX8_init 56 = .ok (.invokespecial 40, 3) := by decide +kernel
theorem dX8_init_59 : decode cX8_init 59 = .ok (.putfield 41, 3) := by decide +kernel
theorem dX8_init_62 : decode cX8_init 62 = .ok (.aload_n 0, 1) := by decide +kernel
theorem dX8_init_63 : decode cX8_init 63 = .ok (.new 45, 3) := by decide +kernel
theorem dX8_init_66 : decode cX8_init 66 = .ok (.dup, 1) := by decide +kernel
theorem dX8_init_67 : decode cX8_init 67 = .ok (.invokespecial 47, 3) := by decide +kernel
theorem dX8_init_70 : decode cX8_init 70 = .ok (.putfield 48, 3) := by decide +kernel
theorem dX8_init_73 : decode cX8_init 73 = .ok (.iconst 0, 1) := by decide +kernel
theorem dX8_init_74 : decode cX8_init 74 = .ok (.istore_n 1, 1) := by decide +kernel
theorem dX8_init_75 : decode cX8_init 75 = .ok (.iload_n 1, 1) := by decide +kernel
theorem dX8_init_76 : decode cX8_init 76 = .ok (.bipush 6, 2) := by decide +kernel
theorem dX8_init_78 : decode cX8_init 78 = .ok (.if_icmp .ge 22, 3) := by decide +kernel
theorem dX8_init_81 : decode cX8_init 81 = .ok (.aload_n 0, 1) := by decide +kernel
theorem dX8_init_82 : decode cX8_init 82 = .ok (.getfield 34, 3) := by decide +kernel
theorem dX8_init_85 : decode cX8_init 85 = .ok (.iload_n 1, 1) := by decide +kernel
theorem dX8_init_86 : decode cX8_init 86 = .ok (.new 32, 3) := by decide +kernel
theorem dX8_init_89 : decode cX8_init 89 = .ok (.dup, 1) := by decide +kernel
theorem dX8_init_90 : decode cX8_init 90 = .ok (.invokespecial 52, 3) := by decide +kernel
theorem dX8_init_93 : decode cX8_init 93 = .ok (.aastore, 1) := by decide +kernel
theorem dX8_init_94 : decode cX8_init 94 = .ok (.iinc 1 1, 3) := by decide +kernel
theorem dX8_init_97 : decode cX8_init 97 = .ok (.goto (-22), 3) := by decide +kernel
theorem dX8_init_100 : decode cX8_init 100 = .ok (.return_, 1) := by decide +kernel
theorem dX8_quarry_0 : decode cX8_quarry 0 = .ok (.iload_n 1, 1) := by decide +kernel
theorem dX8_quarry_1 : decode cX8_quarry 1 = .ok (.bipush 99, 2) := by decide +kernel
theorem dX8_quarry_3 : decode cX8_quarry 3 = .ok (.invokestatic 53, 3) := by decide +kernel
theorem dX8_quarry_6 : decode cX8_quarry 6 = .ok (.ifCond .eq 12, 3) := by decide +kernel
theorem dX8_quarry_9 : decode cX8_quarry 9 = .ok (.iload_n 2, 1) := by decide +kernel
theorem dX8_quarry_10 : decode cX8_quarry 10 = .ok (.bipush 9, 2) := by decide +kernel
theorem dX8_quarry_12 : decode cX8_quarry 12 = .ok (.invokestatic 53, 3) := by decide +kernel
theorem dX8_quarry_15 : decode cX8_quarry 15 = .ok (.ifCond .ne 6, 3) := by decide +kernel
theorem dX8_quarry_18 : decode cX8_quarry 18 = .ok (.bipush (-2), 2) := by decide +kernel
theorem dX8_quarry_20 : decode cX8_quarry 20 = .ok (.ireturn, 1) := by decide +kernel
theorem dX8_quarry_21 : decode cX8_quarry 21 = .ok (.aload_n 0, 1) := by decide +kernel
theorem dX8_quarry_22 : decode cX8_quarry 22 = .ok (.getfield 14, 3) := by decide +kernel
theorem dX8_quarry_25 : decode cX8_quarry 25 = .ok (.iconst 0, 1) := by decide +kernel
theorem dX8_quarry_26 : decode cX8_quarry 26 = .ok (.iload_n 1, 1) := by decide +kernel
theorem dX8_quarry_27 : decode cX8_quarry 27 = .ok (.iload_n 2, 1) := by decide +kernel
theorem dX8_quarry_28 : decode cX8_quarry 28 = .ok (.invokevirtual 57, 3) := by decide +kernel
theorem dX8_quarry_31 : decode cX8_quarry 31 = .ok (.ireturn, 1) := by decide +kernel
theorem dX8_work_0 : decode cX8_work 0 = .ok (.iload_n 1, 1) := by decide +kernel
theorem dX8_work_1 : decode cX8_work 1 = .ok (.bipush 99, 2) := by decide +kernel
theorem dX8_work_3 : decode cX8_work 3 = .ok (.invokestatic 53, 3) := by decide +kernel
theorem dX8_work_6 : decode cX8_work 6 = .ok (.ifCond .eq 12, 3) := by decide +kernel
theorem dX8_work_9 : decode cX8_work 9 = .ok (.iload_n 2, 1) := by decide +kernel
theorem dX8_work_10 : decode cX8_work 10 = .ok (.bipush 9, 2) := by decide +kernel
theorem dX8_work_12 : decode cX8_work 12 = .ok (.invokestatic 53, 3) := by decide +kernel
theorem dX8_work_15 : decode cX8_work 15 = .ok (.ifCond .ne 6, 3) := by decide +kernel
theorem dX8_work_18 : decode cX8_work 18 = .ok (.bipush (-2), 2) := by decide +kernel
theorem dX8_work_20 : decode cX8_work 20 = .ok (.ireturn, 1) := by decide +kernel
theorem dX8_work_21 : decode cX8_work 21 = .ok (.aload_n 0, 1) := by decide +kernel
theorem dX8_work_22 : decode cX8_work 22 = .ok (.getfield 14, 3) := by decide +kernel
theorem dX8_work_25 : decode cX8_work 25 = .ok (.iconst 1, 1) := by decide +kernel
theorem dX8_work_26 : decode cX8_work 26 = .ok (.iload_n 1, 1) := by decide +kernel
theorem dX8_work_27 : decode cX8_work 27 = .ok (.iload_n 2, 1) := by decide +kernel
theorem dX8_work_28 : decode cX8_work 28 = .ok (.invokevirtual 57, 3) := by decide +kernel
theorem dX8_work_31 : decode cX8_work 31 = .ok (.ireturn, 1) := by decide +kernel
theorem dX8_renew_0 : decode cX8_renew 0 = .ok (.aload_n 0, 1) := by decide +kernel
theorem dX8_renew_1 : decode cX8_renew 1 = .ok (.getfield 14, 3) := by decide +kernel
theorem dX8_renew_4 : decode cX8_renew 4 = .ok (.getfield 61, 3) := by decide +kernel
theorem dX8_renew_7 : decode cX8_renew 7 = .ok (.iload_n 1, 1) := by decide +kernel
theorem dX8_renew_8 : decode cX8_renew 8 = .ok (.iload_n 2, 1) := by decide +kernel
theorem dX8_renew_9 : decode cX8_renew 9 = .ok (.invokevirtual 64, 3) := by decide +kernel
theorem dX8_renew_12 : decode cX8_renew 12 = .ok (.ifCond .eq 11, 3) := by decide +kernel
theorem dX8_renew_15 : decode cX8_renew 15 = .ok (.iload_n 3, 1) := by decide +kernel
theorem dX8_renew_16 : decode cX8_renew 16 = .ok (.iconst 1, 1) := by decide +kernel
theorem dX8_renew_17 : decode cX8_renew 17 = .ok (.invokestatic 53, 3) := by decide +kernel
theorem dX8_renew_20 : decode cX8_renew 20 = .ok (.ifCond .ne 5, 3) := by decide +kernel
theorem dX8_renew_23 : decode cX8_renew 23 = .ok (.iconst (-1), 1) := by decide +kernel
theorem dX8_renew_24 : decode cX8_renew 24 = .ok (.ireturn, 1) := by decide +kernel
theorem dX8_renew_25 : decode cX8_renew 25 = .ok (.iload 4, 2) := by decide +kernel
theorem dX8_renew_27 : decode cX8_renew 27 = .ok (.iload_n 3, 1) := by decide +kernel
theorem dX8_renew_28 : decode cX8_renew 28 = .ok (.ifCond .ne 8, 3) := by decide +kernel
theorem dX8_renew_31 : decode cX8_renew 31 = .ok (.bipush 99, 2) := by decide +kernel
theorem dX8_renew_33 : decode cX8_renew 33 = .ok (.goto 5, 3) := by decide +kernel
theorem dX8_renew_36 : decode cX8_renew 36 = .ok (.bipush 9, 2) := by decide +kernel
theorem dX8_renew_38 : decode cX8_renew 38 = .ok (.invokestatic 53, 3) := by decide +kernel
theorem dX8_renew_41 : decode cX8_renew 41 = .ok (.ifCond .ne 6, 3) := by decide +kernel
theorem dX8_renew_44 : decode cX8_renew 44 = .ok (.bipush (-2), 2) := by decide +kernel
theorem dX8_renew_46 : decode cX8_renew 46 = .ok (.ireturn, 1) := by decide +kernel
theorem dX8_renew_47 : decode cX8_renew 47 = .ok (.aload_n 0, 1) := by decide +kernel
theorem dX8_renew_48 : decode cX8_renew 48 = .ok (.getfield 14, 3) := by decide +kernel
theorem dX8_renew_51 : decode cX8_renew 51 = .ok (.iload_n 1, 1) := by decide +kernel
theorem dX8_renew_52 : decode cX8_renew 52 = .ok (.iload_n 2, 1) := by decide +kernel
theorem dX8_renew_53 : decode cX8_renew 53 = .ok (.iload_n 3, 1) := by decide +kernel
theorem dX8_renew_54 : decode cX8_renew 54 = .ok (.iload 4, 2) := by decide +kernel
theorem dX8_renew_56 : decode cX8_renew 56 = .ok (.invokevirtual 67, 3) := by decide +kernel
theorem dX8_renew_59 : decode cX8_renew 59 = .ok (.ireturn, 1) := by decide +kernel
theorem dX8_road_0 : decode cX8_road 0 = .ok (.aload_n 0, 1) := by decide +kernel
theorem dX8_road_1 : decode cX8_road 1 = .ok (.getfield 14, 3) := by decide +kernel
theorem dX8_road_4 : decode cX8_road 4 = .ok (.getfield 61, 3) := by decide +kernel
theorem dX8_road_7 : decode cX8_road 7 = .ok (.iload_n 1, 1) := by decide +kernel
theorem dX8_road_8 : decode cX8_road 8 = .ok (.iload_n 2, 1) := by decide +kernel
theorem dX8_road_9 : decode cX8_road 9 = .ok (.invokevirtual 71, 3) := by decide +kernel
theorem dX8_road_12 : decode cX8_road 12 = .ok (.ifCond .ne 5, 3) := by decide +kernel
theorem dX8_road_15 : decode cX8_road 15 = .ok (.iconst (-1), 1) := by decide +kernel
theorem dX8_road_16 : decode cX8_road 16 = .ok (.ireturn, 1) := by decide +kernel
theorem dX8_road_17 : decode cX8_road 17 = .ok (.iload_n 3, 1) := by decide +kernel
theorem dX8_road_18 : decode cX8_road 18 = .ok (.iconst 3, 1) := by decide +kernel
theorem dX8_road_19 : decode cX8_road 19 = .ok (.invokestatic 53, 3) := by decide +kernel
theorem dX8_road_22 : decode cX8_road 22 = .ok (.ifCond .eq 13, 3) := by decide +kernel
theorem dX8_road_25 : decode cX8_road 25 = .ok (.iload 4, 2) := by decide +kernel
theorem dX8_road_27 : decode cX8_road 27 = .ok (.bipush 99, 2) := by decide +kernel
theorem dX8_road_29 : decode cX8_road 29 = .ok (.invokestatic 53, 3) := by decide +kernel
theorem dX8_road_32 : decode cX8_road 32 = .ok (.ifCond .ne 6, 3) := by decide +kernel
theorem dX8_road_35 : decode cX8_road 35 = .ok (.bipush (-2), 2) := by decide +kernel
theorem dX8_road_37 : decode cX8_road 37 = .ok (.ireturn, 1) := by decide +kernel
theorem dX8_road_38 : decode cX8_road 38 = .ok (.aload_n 0, 1) := by decide +kernel
theorem dX8_road_39 : decode cX8_road 39 = .ok (.getfield 14, 3) := by decide +kernel
theorem dX8_road_42 : decode cX8_road 42 = .ok (.iload_n 1, 1) := by decide +kernel
theorem dX8_road_43 : decode cX8_road 43 = .ok (.iload_n 2, 1) := by decide +kernel
theorem dX8_road_44 : decode cX8_road 44 = .ok (.iload_n 3, 1) := by decide +kernel
theorem dX8_road_45 : decode cX8_road 45 = .ok (.iload 4, 2) := by decide +kernel
theorem dX8_road_47 : decode cX8_road 47 = .ok (.invokevirtual 74, 3) := by decide +kernel
theorem dX8_road_50 : decode cX8_road 50 = .ok (.ireturn, 1) := by decide +kernel
theorem dX8_of_0 : decode cX8_of 0 = .ok (.aload_n 0, 1) := by decide +kernel
theorem dX8_of_1 : decode cX8_of 1 = .ok (.getfield 14, 3) := by decide +kernel
theorem dX8_of_4 : decode cX8_of 4 = .ok (.getfield 61, 3) := by decide +kernel
theorem dX8_of_7 : decode cX8_of 7 = .ok (.iload_n 1, 1) := by decide +kernel
theorem dX8_of_8 : decode cX8_of 8 = .ok (.iload_n 2, 1) := by decide +kernel
theorem dX8_of_9 : decode cX8_of 9 = .ok (.invokevirtual 64, 3) := by decide +kernel
theorem dX8_of_12 : decode cX8_of 12 = .ok (.ifCond .eq 11, 3) := by decide +kernel
theorem dX8_of_15 : decode cX8_of 15 = .ok (.iload_n 3, 1) := by decide +kernel
theorem dX8_of_16 : decode cX8_of 16 = .ok (.iconst 1, 1) := by decide +kernel
theorem dX8_of_17 : decode cX8_of 17 = .ok (.invokestatic 53, 3) := by decide +kernel
theorem dX8_of_20 : decode cX8_of 20 = .ok (.ifCond .ne 5, 3) := by decide +kernel
theorem dX8_of_23 : decode cX8_of 23 = .ok (.iconst (-1), 1) := by decide +kernel
theorem dX8_of_24 : decode cX8_of 24 = .ok (.ireturn, 1) := by decide +kernel
theorem dX8_of_25 : decode cX8_of 25 = .ok (.aload_n 0, 1) := by decide +kernel
theorem dX8_of_26 : decode cX8_of 26 = .ok (.getfield 14, 3) := by decide +kernel
theorem dX8_of_29 : decode cX8_of 29 = .ok (.getfield 61, 3) := by decide +kernel
theorem dX8_of_32 : decode cX8_of 32 = .ok (.iload_n 1, 1) := by decide +kernel
theorem dX8_of_33 : decode cX8_of 33 = .ok (.iload_n 3, 1) := by decide +kernel
theorem dX8_of_34 : decode cX8_of 34 = .ok (.invokevirtual 77, 3) := by decide +kernel
theorem dX8_of_37 : decode cX8_of 37 = .ok (.iload_n 2, 1) := by decide +kernel
theorem dX8_of_38 : decode cX8_of 38 = .ok (.iaload, 1) := by decide +kernel
theorem dX8_of_39 : decode cX8_of 39 = .ok (.ireturn, 1) := by decide +kernel
theorem dX8_roadOf_0 : decode cX8_roadOf 0 = .ok (.aload_n 0, 1) := by decide +kernel
theorem dX8_roadOf_1 : decode cX8_roadOf 1 = .ok (.getfield 14, 3) := by decide +kernel
theorem dX8_roadOf_4 : decode cX8_roadOf 4 = .ok (.getfield 61, 3) := by decide +kernel
theorem dX8_roadOf_7 : decode cX8_roadOf 7 = .ok (.iload_n 1, 1) := by decide +kernel
theorem dX8_roadOf_8 : decode cX8_roadOf 8 = .ok (.iload_n 2, 1) := by decide +kernel
theorem dX8_roadOf_9 : decode cX8_roadOf 9 = .ok (.invokevirtual 71, 3) := by decide +kernel
theorem dX8_roadOf_12 : decode cX8_roadOf 12 = .ok (.ifCond .ne 5, 3) := by decide +kernel
theorem dX8_roadOf_15 : decode cX8_roadOf 15 = .ok (.iconst (-1), 1) := by decide +kernel
theorem dX8_roadOf_16 : decode cX8_roadOf 16 = .ok (.ireturn, 1) := by decide +kernel
theorem dX8_roadOf_17 : decode cX8_roadOf 17 = .ok (.iload_n 3, 1) := by decide +kernel
theorem dX8_roadOf_18 : decode cX8_roadOf 18 = .ok (.tableswitch 73 0 2 #[26, 43, 60], 26) := by decide +kernel
theorem dX8_roadOf_44 : decode cX8_roadOf 44 = .ok (.aload_n 0, 1) := by decide +kernel
theorem dX8_roadOf_45 : decode cX8_roadOf 45 = .ok (.getfield 14, 3) := by decide +kernel
theorem dX8_roadOf_48 : decode cX8_roadOf 48 = .ok (.getfield 61, 3) := by decide +kernel
theorem dX8_roadOf_51 : decode cX8_roadOf 51 = .ok (.getfield 81, 3) := by decide +kernel
theorem dX8_roadOf_54 : decode cX8_roadOf 54 = .ok (.iload_n 1, 1) := by decide +kernel
theorem dX8_roadOf_55 : decode cX8_roadOf 55 = .ok (.iload_n 2, 1) := by decide +kernel
theorem dX8_roadOf_56 : decode cX8_roadOf 56 = .ok (.invokestatic 85, 3) := by decide +kernel
theorem dX8_roadOf_59 : decode cX8_roadOf 59 = .ok (.iaload, 1) := by decide +kernel
theorem dX8_roadOf_60 : decode cX8_roadOf 60 = .ok (.ireturn, 1) := by decide +kernel
theorem dX8_roadOf_61 : decode cX8_roadOf 61 = .ok (.aload_n 0, 1) := by decide +kernel
theorem dX8_roadOf_62 : decode cX8_roadOf 62 = .ok (.getfield 14, 3) := by decide +kernel
theorem dX8_roadOf_65 : decode cX8_roadOf 65 = .ok (.getfield 61, 3) := by decide +kernel
theorem dX8_roadOf_68 : decode cX8_roadOf 68 = .ok (.getfield 89, 3) := by decide +kernel
theorem dX8_roadOf_71 : decode cX8_roadOf 71 = .ok (.iload_n 1, 1) := by decide +kernel
theorem dX8_roadOf_72 : decode cX8_roadOf 72 = .ok (.iload_n 2, 1) := by decide +kernel
theorem dX8_roadOf_73 : decode cX8_roadOf 73 = .ok (.invokestatic 85, 3) := by decide +kernel
theorem dX8_roadOf_76 : decode cX8_roadOf 76 = .ok (.iaload, 1) := by decide +kernel
theorem dX8_roadOf_77 : decode cX8_roadOf 77 = .ok (.ireturn, 1) := by decide +kernel
theorem dX8_roadOf_78 : decode cX8_roadOf 78 = .ok (.aload_n 0, 1) := by decide +kernel
theorem dX8_roadOf_79 : decode cX8_roadOf 79 = .ok (.getfield 14, 3) := by decide +kernel
theorem dX8_roadOf_82 : decode cX8_roadOf 82 = .ok (.getfield 61, 3) := by decide +kernel
theorem dX8_roadOf_85 : decode cX8_roadOf 85 = .ok (.iload_n 1, 1) := by decide +kernel
theorem dX8_roadOf_86 : decode cX8_roadOf 86 = .ok (.iload_n 2, 1) := by decide +kernel
theorem dX8_roadOf_87 : decode cX8_roadOf 87 = .ok (.invokevirtual 92, 3) := by decide +kernel
theorem dX8_roadOf_90 : decode cX8_roadOf 90 = .ok (.ireturn, 1) := by decide +kernel
theorem dX8_roadOf_91 : decode cX8_roadOf 91 = .ok (.iconst (-1), 1) := by decide +kernel
theorem dX8_roadOf_92 : decode cX8_roadOf 92 = .ok (.ireturn, 1) := by decide +kernel
theorem dX8_feed_0 : decode cX8_feed 0 = .ok (.iload_n 1, 1) := by decide +kernel
theorem dX8_feed_1 : decode cX8_feed 1 = .ok (.bipush 127, 2) := by decide +kernel
theorem dX8_feed_3 : decode cX8_feed 3 = .ok (.invokestatic 53, 3) := by decide +kernel
theorem dX8_feed_6 : decode cX8_feed 6 = .ok (.ifCond .ne 6, 3) := by decide +kernel
theorem dX8_feed_9 : decode cX8_feed 9 = .ok (.bipush (-2), 2) := by decide +kernel
theorem dX8_feed_11 : decode cX8_feed 11 = .ok (.ireturn, 1) := by decide +kernel
theorem dX8_feed_12 : decode cX8_feed 12 = .ok (.aload_n 0, 1) := by decide +kernel
theorem dX8_feed_13 : decode cX8_feed 13 = .ok (.getfield 28, 3) := by decide +kernel
theorem dX8_feed_16 : decode cX8_feed 16 = .ok (.iload_n 1, 1) := by decide +kernel
theorem dX8_feed_17 : decode cX8_feed 17 = .ok (.invokevirtual 95, 3) := by decide +kernel
theorem dX8_feed_20 : decode cX8_feed 20 = .ok (.ireturn, 1) := by decide +kernel
theorem dX8_read_0 : decode cX8_read 0 = .ok (.aload_n 0, 1) := by decide +kernel
theorem dX8_read_1 : decode cX8_read 1 = .ok (.getfield 28, 3) := by decide +kernel
theorem dX8_read_4 : decode cX8_read 4 = .ok (.invokevirtual 99, 3) := by decide +kernel
theorem dX8_read_7 : decode cX8_read 7 = .ok (.istore_n 1, 1) := by decide +kernel
theorem dX8_read_8 : decode cX8_read 8 = .ok (.aload_n 0, 1) := by decide +kernel
theorem dX8_read_9 : decode cX8_read 9 = .ok (.getfield 28, 3) := by decide +kernel
theorem dX8_read_12 : decode cX8_read 12 = .ok (.iconst 0, 1) := by decide +kernel
theorem dX8_read_13 : decode cX8_read 13 = .ok (.putfield 103, 3) := by decide +kernel
theorem dX8_read_16 : decode cX8_read 16 = .ok (.iload_n 1, 1) := by decide +kernel
theorem dX8_read_17 : decode cX8_read 17 = .ok (.ifCond .lt 8, 3) := by decide +kernel
theorem dX8_read_20 : decode cX8_read 20 = .ok (.bipush (-10), 2) := by decide +kernel
theorem dX8_read_22 : decode cX8_read 22 = .ok (.iload_n 1, 1) := by decide +kernel
theorem dX8_read_23 : decode cX8_read 23 = .ok (.isub, 1) := by decide +kernel
theorem dX8_read_24 : decode cX8_read 24 = .ok (.ireturn, 1) := by decide +kernel
theorem dX8_read_25 : decode cX8_read 25 = .ok (.iconst 0, 1) := by decide +kernel
theorem dX8_read_26 : decode cX8_read 26 = .ok (.istore_n 2, 1) := by decide +kernel
theorem dX8_read_27 : decode cX8_read 27 = .ok (.iconst 0, 1) := by decide +kernel
theorem dX8_read_28 : decode cX8_read 28 = .ok (.istore_n 3, 1) := by decide +kernel
theorem dX8_read_29 : decode cX8_read 29 = .ok (.iload_n 3, 1) := by decide +kernel
theorem dX8_read_30 : decode cX8_read 30 = .ok (.aload_n 0, 1) := by decide +kernel
theorem dX8_read_31 : decode cX8_read 31 = .ok (.getfield 28, 3) := by decide +kernel
theorem dX8_read_34 : decode cX8_read 34 = .ok (.getfield 107, 3) := by decide +kernel
theorem dX8_read_37 : decode cX8_read 37 = .ok (.if_icmp .ge 27, 3) := by decide +kernel
theorem dX8_read_40 : decode cX8_read 40 = .ok (.aload_n 0, 1) := by decide +kernel
theorem dX8_read_41 : decode cX8_read 41 = .ok (.getfield 28, 3) := by decide +kernel
theorem dX8_read_44 : decode cX8_read 44 = .ok (.iload_n 3, 1) := by decide +kernel
theorem dX8_read_45 : decode cX8_read 45 = .ok (.aload_n 0, 1) := by decide +kernel
theorem dX8_read_46 : decode cX8_read 46 = .ok (.getfield 14, 3) := by decide +kernel
theorem dX8_read_49 : decode cX8_read 49 = .ok (.invokevirtual 110, 3) := by decide +kernel
theorem dX8_read_52 : decode cX8_read 52 = .ok (.ifCond .lt 6, 3) := by decide +kernel
theorem dX8_read_55 : decode cX8_read 55 = .ok (.iinc 2 1, 3) := by decide +kernel
theorem dX8_read_58 : decode cX8_read 58 = .ok (.iinc 3 1, 3) := by decide +kernel
theorem dX8_read_61 : decode cX8_read 61 = .ok (.goto (-32), 3) := by decide +kernel
theorem dX8_read_64 : decode cX8_read 64 = .ok (.iload_n 2, 1) := by decide +kernel
theorem dX8_read_65 : decode cX8_read 65 = .ok (.ireturn, 1) := by decide +kernel
theorem dX8_start_0 : decode cX8_start 0 = .ok (.iload_n 1, 1) := by decide +kernel
theorem dX8_start_1 : decode cX8_start 1 = .ok (.iconst 2, 1) := by decide +kernel
theorem dX8_start_2 : decode cX8_start 2 = .ok (.invokestatic 53, 3) := by decide +kernel
theorem dX8_start_5 : decode cX8_start 5 = .ok (.ifCond .ne 6, 3) := by decide +kernel
theorem dX8_start_8 : decode cX8_start 8 = .ok (.bipush (-2), 2) := by decide +kernel
theorem dX8_start_10 : decode cX8_start 10 = .ok (.ireturn, 1) := by decide +kernel
theorem dX8_start_11 : decode cX8_start 11 = .ok (.aload_n 0, 1) := by decide +kernel
theorem dX8_start_12 : decode cX8_start 12 = .ok (.getfield 14, 3) := by decide +kernel
theorem dX8_start_15 : decode cX8_start 15 = .ok (.getfield 61, 3) := by decide +kernel
theorem dX8_start_18 : decode cX8_start 18 = .ok (.invokevirtual 114, 3) := by decide +kernel
theorem dX8_start_21 : decode cX8_start 21 = .ok (.ifCond .ne 6, 3) := by decide +kernel
theorem dX8_start_24 : decode cX8_start 24 = .ok (.bipush (-3), 2) := by decide +kernel
theorem dX8_start_26 : decode cX8_start 26 = .ok (.ireturn, 1) := by decide +kernel
theorem dX8_start_27 : decode cX8_start 27 = .ok (.aload_n 0, 1) := by decide +kernel
theorem dX8_start_28 : decode cX8_start 28 = .ok (.getfield 14, 3) := by decide +kernel
theorem dX8_start_31 : decode cX8_start 31 = .ok (.getfield 118, 3) := by decide +kernel
theorem dX8_start_34 : decode cX8_start 34 = .ok (.aload_n 0, 1) := by decide +kernel
theorem dX8_start_35 : decode cX8_start 35 = .ok (.getfield 14, 3) := by decide +kernel
theorem dX8_start_38 : decode cX8_start 38 = .ok (.getfield 61, 3) := by decide +kernel
theorem dX8_start_41 : decode cX8_start 41 = .ok (.iload_n 1, 1) := by decide +kernel
theorem dX8_start_42 : decode cX8_start 42 = .ok (.invokevirtual 121, 3) := by decide +kernel
theorem dX8_start_45 : decode cX8_start 45 = .ok (.aload_n 0, 1) := by decide +kernel
theorem dX8_start_46 : decode cX8_start 46 = .ok (.getfield 14, 3) := by decide +kernel
theorem dX8_start_49 : decode cX8_start 49 = .ok (.getfield 118, 3) := by decide +kernel
theorem dX8_start_52 : decode cX8_start 52 = .ok (.invokevirtual 125, 3) := by decide +kernel
theorem dX8_start_55 : decode cX8_start 55 = .ok (.ireturn, 1) := by decide +kernel
theorem dX8_step_0 : decode cX8_step 0 = .ok (.iload_n 1, 1) := by decide +kernel
theorem dX8_step_1 : decode cX8_step 1 = .ok (.iconst 2, 1) := by decide +kernel
theorem dX8_step_2 : decode cX8_step 2 = .ok (.invokestatic 53, 3) := by decide +kernel
theorem dX8_step_5 : decode cX8_step 5 = .ok (.ifCond .eq 12, 3) := by decide +kernel
theorem dX8_step_8 : decode cX8_step 8 = .ok (.iload_n 2, 1) := by decide +kernel
theorem dX8_step_9 : decode cX8_step 9 = .ok (.bipush 100, 2) := by decide +kernel
theorem dX8_step_11 : decode cX8_step 11 = .ok (.invokestatic 53, 3) := by decide +kernel
theorem dX8_step_14 : decode cX8_step 14 = .ok (.ifCond .ne 6, 3) := by decide +kernel
theorem dX8_step_17 : decode cX8_step 17 = .ok (.bipush (-2), 2) := by decide +kernel
theorem dX8_step_19 : decode cX8_step 19 = .ok (.ireturn, 1) := by decide +kernel
theorem dX8_step_20 : decode cX8_step 20 = .ok (.aload_n 0, 1) := by decide +kernel
theorem dX8_step_21 : decode cX8_step 21 = .ok (.getfield 14, 3) := by decide +kernel
theorem dX8_step_24 : decode cX8_step 24 = .ok (.getfield 118, 3) := by decide +kernel
theorem dX8_step_27 : decode cX8_step 27 = .ok (.getfield 128, 3) := by decide +kernel
theorem dX8_step_30 : decode cX8_step 30 = .ok (.ifCond .ne 6, 3) := by decide +kernel
theorem dX8_step_33 : decode cX8_step 33 = .ok (.bipush (-3), 2) := by decide +kernel
theorem dX8_step_35 : decode cX8_step 35 = .ok (.ireturn, 1) := by decide +kernel
theorem dX8_step_36 : decode cX8_step 36 = .ok (.aload_n 0, 1) := by decide +kernel
theorem dX8_step_37 : decode cX8_step 37 = .ok (.getfield 14, 3) := by decide +kernel
theorem dX8_step_40 : decode cX8_step 40 = .ok (.getfield 118, 3) := by decide +kernel
theorem dX8_step_43 : decode cX8_step 43 = .ok (.iload_n 1, 1) := by decide +kernel
theorem dX8_step_44 : decode cX8_step 44 = .ok (.iload_n 2, 1) := by decide +kernel
theorem dX8_step_45 : decode cX8_step 45 = .ok (.invokevirtual 131, 3) := by decide +kernel
theorem dX8_step_48 : decode cX8_step 48 = .ok (.ireturn, 1) := by decide +kernel
theorem dX8_load_0 : decode cX8_load 0 = .ok (.aload_n 0, 1) := by decide +kernel
theorem dX8_load_1 : decode cX8_load 1 = .ok (.getfield 14, 3) := by decide +kernel
theorem dX8_load_4 : decode cX8_load 4 = .ok (.getfield 118, 3) := by decide +kernel
theorem dX8_load_7 : decode cX8_load 7 = .ok (.getfield 128, 3) := by decide +kernel
theorem dX8_load_10 : decode cX8_load 10 = .ok (.ifCond .ne 6, 3) := by decide +kernel
theorem dX8_load_13 : decode cX8_load 13 = .ok (.bipush (-3), 2) := by decide +kernel
theorem dX8_load_15 : decode cX8_load 15 = .ok (.ireturn, 1) := by decide +kernel
theorem dX8_load_16 : decode cX8_load 16 = .ok (.aload_n 0, 1) := by decide +kernel
theorem dX8_load_17 : decode cX8_load 17 = .ok (.getfield 14, 3) := by decide +kernel
theorem dX8_load_20 : decode cX8_load 20 = .ok (.getfield 118, 3) := by decide +kernel
theorem dX8_load_23 : decode cX8_load 23 = .ok (.iload_n 1, 1) := by decide +kernel
theorem dX8_load_24 : decode cX8_load 24 = .ok (.iload_n 2, 1) := by decide +kernel
theorem dX8_load_25 : decode cX8_load 25 = .ok (.invokevirtual 134, 3) := by decide +kernel
theorem dX8_load_28 : decode cX8_load 28 = .ok (.ifCond .ne 5, 3) := by decide +kernel
theorem dX8_load_31 : decode cX8_load 31 = .ok (.iconst (-1), 1) := by decide +kernel
theorem dX8_load_32 : decode cX8_load 32 = .ok (.ireturn, 1) := by decide +kernel
theorem dX8_load_33 : decode cX8_load 33 = .ok (.aload_n 0, 1) := by decide +kernel
theorem dX8_load_34 : decode cX8_load 34 = .ok (.getfield 14, 3) := by decide +kernel
theorem dX8_load_37 : decode cX8_load 37 = .ok (.getfield 118, 3) := by decide +kernel
theorem dX8_load_40 : decode cX8_load 40 = .ok (.getfield 137, 3) := by decide +kernel
theorem dX8_load_43 : decode cX8_load 43 = .ok (.iload_n 1, 1) := by decide +kernel
theorem dX8_load_44 : decode cX8_load 44 = .ok (.iload_n 2, 1) := by decide +kernel
theorem dX8_load_45 : decode cX8_load 45 = .ok (.invokestatic 140, 3) := by decide +kernel
theorem dX8_load_48 : decode cX8_load 48 = .ok (.iaload, 1) := by decide +kernel
theorem dX8_load_49 : decode cX8_load 49 = .ok (.ireturn, 1) := by decide +kernel
theorem dX8_basic_0 : decode cX8_basic 0 = .ok (.aload_n 0, 1) := by decide +kernel
theorem dX8_basic_1 : decode cX8_basic 1 = .ok (.getfield 14, 3) := by decide +kernel
theorem dX8_basic_4 : decode cX8_basic 4 = .ok (.getfield 118, 3) := by decide +kernel
theorem dX8_basic_7 : decode cX8_basic 7 = .ok (.getfield 128, 3) := by decide +kernel
theorem dX8_basic_10 : decode cX8_basic 10 = .ok (.ifCond .ne 6, 3) := by decide +kernel
theorem dX8_basic_13 : decode cX8_basic 13 = .ok (.bipush (-3), 2) := by decide +kernel
theorem dX8_basic_15 : decode cX8_basic 15 = .ok (.ireturn, 1) := by decide +kernel
theorem dX8_basic_16 : decode cX8_basic 16 = .ok (.aload_n 0, 1) := by decide +kernel
theorem dX8_basic_17 : decode cX8_basic 17 = .ok (.getfield 14, 3) := by decide +kernel
theorem dX8_basic_20 : decode cX8_basic 20 = .ok (.getfield 118, 3) := by decide +kernel
theorem dX8_basic_23 : decode cX8_basic 23 = .ok (.iload_n 1, 1) := by decide +kernel
theorem dX8_basic_24 : decode cX8_basic 24 = .ok (.iload_n 2, 1) := by decide +kernel
theorem dX8_basic_25 : decode cX8_basic 25 = .ok (.invokevirtual 134, 3) := by decide +kernel
theorem dX8_basic_28 : decode cX8_basic 28 = .ok (.ifCond .ne 5, 3) := by decide +kernel
theorem dX8_basic_31 : decode cX8_basic 31 = .ok (.iconst (-1), 1) := by decide +kernel
theorem dX8_basic_32 : decode cX8_basic 32 = .ok (.ireturn, 1) := by decide +kernel
theorem dX8_basic_33 : decode cX8_basic 33 = .ok (.aload_n 0, 1) := by decide +kernel
theorem dX8_basic_34 : decode cX8_basic 34 = .ok (.getfield 14, 3) := by decide +kernel
theorem dX8_basic_37 : decode cX8_basic 37 = .ok (.getfield 118, 3) := by decide +kernel
theorem dX8_basic_40 : decode cX8_basic 40 = .ok (.getfield 143, 3) := by decide +kernel
theorem dX8_basic_43 : decode cX8_basic 43 = .ok (.iload_n 1, 1) := by decide +kernel
theorem dX8_basic_44 : decode cX8_basic 44 = .ok (.iload_n 2, 1) := by decide +kernel
theorem dX8_basic_45 : decode cX8_basic 45 = .ok (.invokestatic 140, 3) := by decide +kernel
theorem dX8_basic_48 : decode cX8_basic 48 = .ok (.baload, 1) := by decide +kernel
theorem dX8_basic_49 : decode cX8_basic 49 = .ok (.ifCond .eq 7, 3) := by decide +kernel
theorem dX8_basic_52 : decode cX8_basic 52 = .ok (.iconst 1, 1) := by decide +kernel
theorem dX8_basic_53 : decode cX8_basic 53 = .ok (.goto 4, 3) := by decide +kernel
theorem dX8_basic_56 : decode cX8_basic 56 = .ok (.iconst 0, 1) := by decide +kernel
theorem dX8_basic_57 : decode cX8_basic 57 = .ok (.ireturn, 1) := by decide +kernel
theorem dX8_worth_0 : decode cX8_worth 0 = .ok (.aload_n 0, 1) := by decide +kernel
theorem dX8_worth_1 : decode cX8_worth 1 = .ok (.getfield 14, 3) := by decide +kernel
theorem dX8_worth_4 : decode cX8_worth 4 = .ok (.getfield 118, 3) := by decide +kernel
theorem dX8_worth_7 : decode cX8_worth 7 = .ok (.astore_n 3, 1) := by decide +kernel
theorem dX8_worth_8 : decode cX8_worth 8 = .ok (.aload_n 3, 1) := by decide +kernel
theorem dX8_worth_9 : decode cX8_worth 9 = .ok (.getfield 128, 3) := by decide +kernel
theorem dX8_worth_12 : decode cX8_worth 12 = .ok (.ifCond .eq 7, 3) := by decide +kernel
theorem dX8_worth_15 : decode cX8_worth 15 = .ok (.iload_n 2, 1) := by decide +kernel
theorem dX8_worth_16 : decode cX8_worth 16 = .ok (.ifCond .ge 7, 3) := by decide +kernel
theorem dX8_worth_19 : decode cX8_worth 19 = .ok (.ldc2_w 147, 3) := by decide +kernel
theorem dX8_worth_22 : decode cX8_worth 22 = .ok (.lreturn, 1) := by decide +kernel
theorem dX8_worth_23 : decode cX8_worth 23 = .ok (.iload_n 1, 1) := by decide +kernel
theorem dX8_worth_24 : decode cX8_worth 24 = .ok (.ifCond .ne 19, 3) := by decide +kernel
theorem dX8_worth_27 : decode cX8_worth 27 = .ok (.iload_n 2, 1) := by decide +kernel
theorem dX8_worth_28 : decode cX8_worth 28 = .ok (.aload_n 3, 1) := by decide +kernel
theorem dX8_worth_29 : decode cX8_worth 29 = .ok (.getfield 149, 3) := by decide +kernel
theorem dX8_worth_32 : decode cX8_worth 32 = .ok (.if_icmp .ge 11, 3) := by decide +kernel
theorem dX8_worth_35 : decode cX8_worth 35 = .ok (.aload_n 3, 1) := by decide +kernel
theorem dX8_worth_36 : decode cX8_worth 36 = .ok (.getfield 152, 3) := by decide +kernel
theorem dX8_worth_39 : decode cX8_worth 39 = .ok (.iload_n 2, 1) := by decide +kernel
theorem dX8_worth_40 : decode cX8_worth 40 = .ok (.iaload, 1) := by decide +kernel
theorem dX8_worth_41 : decode cX8_worth 41 = .ok (.i2l, 1) := by decide +kernel
theorem dX8_worth_42 : decode cX8_worth 42 = .ok (.lreturn, 1) := by decide +kernel
theorem dX8_worth_43 : decode cX8_worth 43 = .ok (.iload_n 1, 1) := by decide +kernel
theorem dX8_worth_44 : decode cX8_worth 44 = .ok (.iconst 1, 1) := by decide +kernel
theorem dX8_worth_45 : decode cX8_worth 45 = .ok (.if_icmp .ne 19, 3) := by decide +kernel
theorem dX8_worth_48 : decode cX8_worth 48 = .ok (.iload_n 2, 1) := by decide +kernel
theorem dX8_worth_49 : decode cX8_worth 49 = .ok (.aload_n 3, 1) := by decide +kernel
theorem dX8_worth_50 : decode cX8_worth 50 = .ok (.getfield 155, 3) := by decide +kernel
theorem dX8_worth_53 : decode cX8_worth 53 = .ok (.if_icmp .ge 11, 3) := by decide +kernel
theorem dX8_worth_56 : decode cX8_worth 56 = .ok (.aload_n 3, 1) := by decide +kernel
theorem dX8_worth_57 : decode cX8_worth 57 = .ok (.getfield 158, 3) := by decide +kernel
theorem dX8_worth_60 : decode cX8_worth 60 = .ok (.iload_n 2, 1) := by decide +kernel
theorem dX8_worth_61 : decode cX8_worth 61 = .ok (.iaload, 1) := by decide +kernel
theorem dX8_worth_62 : decode cX8_worth 62 = .ok (.i2l, 1) := by decide +kernel
theorem dX8_worth_63 : decode cX8_worth 63 = .ok (.lreturn, 1) := by decide +kernel
theorem dX8_worth_64 : decode cX8_worth 64 = .ok (.ldc2_w 147, 3) := by decide +kernel
theorem dX8_worth_67 : decode cX8_worth 67 = .ok (.lreturn, 1) := by decide +kernel
theorem dX8_surplus_0 : decode cX8_surplus 0 = .ok (.aload_n 0, 1) := by decide +kernel
theorem dX8_surplus_1 : decode cX8_surplus 1 = .ok (.getfield 14, 3) := by decide +kernel
theorem dX8_surplus_4 : decode cX8_surplus 4 = .ok (.getfield 118, 3) := by decide +kernel
theorem dX8_surplus_7 : decode cX8_surplus 7 = .ok (.getfield 128, 3) := by decide +kernel
theorem dX8_surplus_10 : decode cX8_surplus 10 = .ok (.ifCond .eq 18, 3) := by decide +kernel
theorem dX8_surplus_13 : decode cX8_surplus 13 = .ok (.aload_n 0, 1) := by decide +kernel
theorem dX8_surplus_14 : decode cX8_surplus 14 = .ok (.getfield 14, 3) := by decide +kernel
theorem dX8_surplus_17 : decode cX8_surplus 17 = .ok (.getfield 118, 3) := by decide +kernel
theorem dX8_surplus_20 : decode cX8_surplus 20 = .ok (.iload_n 1, 1) := by decide +kernel
theorem dX8_surplus_21 : decode cX8_surplus 21 = .ok (.iload_n 2, 1) := by decide +kernel
theorem dX8_surplus_22 : decode cX8_surplus 22 = .ok (.invokevirtual 134, 3) := by decide +kernel
theorem dX8_surplus_25 : decode cX8_surplus 25 = .ok (.ifCond .ne 7, 3) := by decide +kernel
theorem dX8_surplus_28 : decode cX8_surplus 28 = .ok (.ldc2_w 147, 3) := by decide +kernel
theorem dX8_surplus_31 : decode cX8_surplus 31 = .ok (.lreturn, 1) := by decide +kernel
theorem dX8_surplus_32 : decode cX8_surplus 32 = .ok (.aload_n 0, 1) := by decide +kernel
theorem dX8_surplus_33 : decode cX8_surplus 33 = .ok (.getfield 14, 3) := by decide +kernel
theorem dX8_surplus_36 : decode cX8_surplus 36 = .ok (.getfield 118, 3) := by decide +kernel
theorem dX8_surplus_39 : decode cX8_surplus 39 = .ok (.iload_n 1, 1) := by decide +kernel
theorem dX8_surplus_40 : decode cX8_surplus 40 = .ok (.iload_n 2, 1) := by decide +kernel
theorem dX8_surplus_41 : decode cX8_surplus 41 = .ok (.invokevirtual 161, 3) := by decide +kernel
theorem dX8_surplus_44 : decode cX8_surplus 44 = .ok (.i2l, 1) := by decide +kernel
theorem dX8_surplus_45 : decode cX8_surplus 45 = .ok (.lreturn, 1) := by decide +kernel
theorem dX8_loop_0 : decode cX8_loop 0 = .ok (.aload_n 0, 1) := by decide +kernel
theorem dX8_loop_1 : decode cX8_loop 1 = .ok (.getfield 14, 3) := by decide +kernel
theorem dX8_loop_4 : decode cX8_loop 4 = .ok (.getfield 118, 3) := by decide +kernel
theorem dX8_loop_7 : decode cX8_loop 7 = .ok (.astore 4, 2) := by decide +kernel
theorem dX8_loop_9 : decode cX8_loop 9 = .ok (.aload 4, 2) := by decide +kernel
theorem dX8_loop_11 : decode cX8_loop 11 = .ok (.getfield 128, 3) := by decide +kernel
theorem dX8_loop_14 : decode cX8_loop 14 = .ok (.ifCond .ne 6, 3) := by decide +kernel
theorem dX8_loop_17 : decode cX8_loop 17 = .ok (.bipush (-3), 2) := by decide +kernel
theorem dX8_loop_19 : decode cX8_loop 19 = .ok (.ireturn, 1) := by decide +kernel
theorem dX8_loop_20 : decode cX8_loop 20 = .ok (.aload 4, 2) := by decide +kernel
theorem dX8_loop_22 : decode cX8_loop 22 = .ok (.iload_n 1, 1) := by decide +kernel
theorem dX8_loop_23 : decode cX8_loop 23 = .ok (.iload_n 2, 1) := by decide +kernel
theorem dX8_loop_24 : decode cX8_loop 24 = .ok (.invokevirtual 134, 3) := by decide +kernel
theorem dX8_loop_27 : decode cX8_loop 27 = .ok (.ifCond .ne 5, 3) := by decide +kernel
theorem dX8_loop_30 : decode cX8_loop 30 = .ok (.iconst (-1), 1) := by decide +kernel
theorem dX8_loop_31 : decode cX8_loop 31 = .ok (.ireturn, 1) := by decide +kernel
theorem dX8_loop_32 : decode cX8_loop 32 = .ok (.aload 4, 2) := by decide +kernel
theorem dX8_loop_34 : decode cX8_loop 34 = .ok (.getfield 143, 3) := by decide +kernel
theorem dX8_loop_37 : decode cX8_loop 37 = .ok (.iload_n 1, 1) := by decide +kernel
theorem dX8_loop_38 : decode cX8_loop 38 = .ok (.iload_n 2, 1) := by decide +kernel
theorem dX8_loop_39 : decode cX8_loop 39 = .ok (.invokestatic 140, 3) := by decide +kernel
theorem dX8_loop_42 : decode cX8_loop 42 = .ok (.baload, 1) := by decide +kernel
theorem dX8_loop_43 : decode cX8_loop 43 = .ok (.ifCond .eq 6, 3) := by decide +kernel
theorem dX8_loop_46 : decode cX8_loop 46 = .ok (.bipush (-2), 2) := by decide +kernel
theorem dX8_loop_48 : decode cX8_loop 48 = .ok (.ireturn, 1) := by decide +kernel
theorem dX8_loop_49 : decode cX8_loop 49 = .ok (.aload 4, 2) := by decide +kernel
theorem dX8_loop_51 : decode cX8_loop 51 = .ok (.getfield 164, 3) := by decide +kernel
theorem dX8_loop_54 : decode cX8_loop 54 = .ok (.astore 5, 2) := by decide +kernel
theorem dX8_loop_56 : decode cX8_loop 56 = .ok (.aload 5, 2) := by decide +kernel
theorem dX8_loop_58 : decode cX8_loop 58 = .ok (.iload_n 1, 1) := by decide +kernel
theorem dX8_loop_59 : decode cX8_loop 59 = .ok (.iload_n 2, 1) := by decide +kernel
theorem dX8_loop_60 : decode cX8_loop 60 = .ok (.invokestatic 140, 3) := by decide +kernel
theorem dX8_loop_63 : decode cX8_loop 63 = .ok (.aload 4, 2) := by decide +kernel
theorem dX8_loop_65 : decode cX8_loop 65 = .ok (.getfield 143, 3) := by decide +kernel
theorem dX8_loop_68 : decode cX8_loop 68 = .ok (.invokevirtual 168, 3) := by decide +kernel
theorem dX8_loop_71 : decode cX8_loop 71 = .ok (.iload_n 3, 1) := by decide +kernel
theorem dX8_loop_72 : decode cX8_loop 72 = .ok (.iconst (-1), 1) := by decide +kernel
theorem dX8_loop_73 : decode cX8_loop 73 = .ok (.if_icmp .ne 9, 3) := by decide +kernel
theorem dX8_loop_76 : decode cX8_loop 76 = .ok (.aload 5, 2) := by decide +kernel
theorem dX8_loop_78 : decode cX8_loop 78 = .ok (.getfield 174, 3) := by decide +kernel
theorem dX8_loop_81 : decode cX8_loop 81 = .ok (.ireturn, 1) := by decide +kernel
theorem dX8_loop_82 : decode cX8_loop 82 = .ok (.iload_n 3, 1) := by decide +kernel
theorem dX8_loop_83 : decode cX8_loop 83 = .ok (.bipush (-2), 2) := by decide +kernel
theorem dX8_loop_85 : decode cX8_loop 85 = .ok (.if_icmp .ne 14, 3) := by decide +kernel
theorem dX8_loop_88 : decode cX8_loop 88 = .ok (.aload 5, 2) := by decide +kernel
theorem dX8_loop_90 : decode cX8_loop 90 = .ok (.aload 4, 2) := by decide +kernel
theorem dX8_loop_92 : decode cX8_loop 92 = .ok (.getfield 137, 3) := by decide +kernel
theorem dX8_loop_95 : decode cX8_loop 95 = .ok (.invokevirtual 175, 3) := by decide +kernel
theorem dX8_loop_98 : decode cX8_loop 98 = .ok (.ireturn, 1) := by decide +kernel
theorem dX8_loop_99 : decode cX8_loop 99 = .ok (.iload_n 3, 1) := by decide +kernel
theorem dX8_loop_100 : decode cX8_loop 100 = .ok (.ifCond .lt 25, 3) := by decide +kernel
theorem dX8_loop_103 : decode cX8_loop 103 = .ok (.iload_n 3, 1) := by decide +kernel
theorem dX8_loop_104 : decode cX8_loop 104 = .ok (.aload 5, 2) := by decide +kernel
theorem dX8_loop_106 : decode cX8_loop 106 = .ok (.getfield 174, 3) := by decide +kernel
theorem dX8_loop_109 : decode cX8_loop 109 = .ok (.if_icmp .ge 16, 3) := by decide +kernel
theorem dX8_loop_112 : decode cX8_loop 112 = .ok (.aload 5, 2) := by decide +kernel
theorem dX8_loop_114 : decode cX8_loop 114 = .ok (.getfield 179, 3) := by decide +kernel
theorem dX8_loop_117 : decode cX8_loop 117 = .ok (.iload_n 3, 1) := by decide +kernel
theorem dX8_loop_118 : decode cX8_loop 118 = .ok (.iaload, 1) := by decide +kernel
theorem dX8_loop_119 : decode cX8_loop 119 = .ok (.invokestatic 182, 3) := by decide +kernel
theorem dX8_loop_122 : decode cX8_loop 122 = .ok (.goto 4, 3) := by decide +kernel
theorem dX8_loop_125 : decode cX8_loop 125 = .ok (.iconst (-1), 1) := by decide +kernel
theorem dX8_loop_126 : decode cX8_loop 126 = .ok (.ireturn, 1) := by decide +kernel
theorem dX8_enters_0 : decode cX8_enters 0 = .ok (.iload_n 1, 1) := by decide +kernel
theorem dX8_enters_1 : decode cX8_enters 1 = .ok (.iconst 2, 1) := by decide +kernel
theorem dX8_enters_2 : decode cX8_enters 2 = .ok (.invokestatic 53, 3) := by decide +kernel
theorem dX8_enters_5 : decode cX8_enters 5 = .ok (.ifCond .ne 6, 3) := by decide +kernel
theorem dX8_enters_8 : decode cX8_enters 8 = .ok (.bipush (-2), 2) := by decide +kernel
theorem dX8_enters_10 : decode cX8_enters 10 = .ok (.ireturn, 1) := by decide +kernel
theorem dX8_enters_11 : decode cX8_enters 11 = .ok (.aload_n 0, 1) := by decide +kernel
theorem dX8_enters_12 : decode cX8_enters 12 = .ok (.getfield 14, 3) := by decide +kernel
theorem dX8_enters_15 : decode cX8_enters 15 = .ok (.getfield 118, 3) := by decide +kernel
theorem dX8_enters_18 : decode cX8_enters 18 = .ok (.getfield 128, 3) := by decide +kernel
theorem dX8_enters_21 : decode cX8_enters 21 = .ok (.ifCond .ne 6, 3) := by decide +kernel
theorem dX8_enters_24 : decode cX8_enters 24 = .ok (.bipush (-3), 2) := by decide +kernel
theorem dX8_enters_26 : decode cX8_enters 26 = .ok (.ireturn, 1) := by decide +kernel
theorem dX8_enters_27 : decode cX8_enters 27 = .ok (.aload_n 0, 1) := by decide +kernel
theorem dX8_enters_28 : decode cX8_enters 28 = .ok (.getfield 14, 3) := by decide +kernel
theorem dX8_enters_31 : decode cX8_enters 31 = .ok (.getfield 118, 3) := by decide +kernel
theorem dX8_enters_34 : decode cX8_enters 34 = .ok (.iload_n 1, 1) := by decide +kernel
theorem dX8_enters_35 : decode cX8_enters 35 = .ok (.invokevirtual 185, 3) := by decide +kernel
theorem dX8_enters_38 : decode cX8_enters 38 = .ok (.istore_n 2, 1) := by decide +kernel
theorem dX8_enters_39 : decode cX8_enters 39 = .ok (.iload_n 2, 1) := by decide +kernel
theorem dX8_enters_40 : decode cX8_enters 40 = .ok (.iconst (-1), 1) := by decide +kernel
theorem dX8_enters_41 : decode cX8_enters 41 = .ok (.if_icmp .ne 8, 3) := by decide +kernel
theorem dX8_enters_44 : decode cX8_enters 44 = .ok (.bipush (-5), 2) := by decide +kernel
theorem dX8_enters_46 : decode cX8_enters 46 = .ok (.goto 7, 3) := by decide +kernel
theorem dX8_enters_49 : decode cX8_enters 49 = .ok (.iload_n 2, 1) := by decide +kernel
theorem dX8_enters_50 : decode cX8_enters 50 = .ok (.invokestatic 182, 3) := by decide +kernel
theorem dX8_enters_53 : decode cX8_enters 53 = .ok (.ireturn, 1) := by decide +kernel
theorem dX8_told_0 : decode cX8_told 0 = .ok (.aload_n 0, 1) := by decide +kernel
theorem dX8_told_1 : decode cX8_told 1 = .ok (.getfield 14, 3) := by decide +kernel
theorem dX8_told_4 : decode cX8_told 4 = .ok (.getfield 118, 3) := by decide +kernel
theorem dX8_told_7 : decode cX8_told 7 = .ok (.astore_n 2, 1) := by decide +kernel
theorem dX8_told_8 : decode cX8_told 8 = .ok (.aload_n 2, 1) := by decide +kernel
theorem dX8_told_9 : decode cX8_told 9 = .ok (.getfield 128, 3) := by decide +kernel
theorem dX8_told_12 : decode cX8_told 12 = .ok (.ifCond .ne 6, 3) := by decide +kernel
theorem dX8_told_15 : decode cX8_told 15 = .ok (.bipush (-3), 2) := by decide +kernel
theorem dX8_told_17 : decode cX8_told 17 = .ok (.ireturn, 1) := by decide +kernel
theorem dX8_told_18 : decode cX8_told 18 = .ok (.iload_n 1, 1) := by decide +kernel
theorem dX8_told_19 : decode cX8_told 19 = .ok (.tableswitch 95 0 7 #[45, 50, 55, 68, 73, 79, 85, 90], 45) := by decide +kernel
theorem dX8_told_64 : decode cX8_told 64 = .ok (.aload_n 2, 1) := by decide +kernel
theorem dX8_told_65 : decode cX8_told 65 = .ok (.invokevirtual 125, 3) := by decide +kernel
theorem dX8_told_68 : decode cX8_told 68 = .ok (.ireturn, 1) := by decide +kernel
theorem dX8_told_69 : decode cX8_told 69 = .ok (.aload_n 2, 1) := by decide +kernel
theorem dX8_told_70 : decode cX8_told 70 = .ok (.getfield 188, 3) := by decide +kernel
theorem dX8_told_73 : decode cX8_told 73 = .ok (.ireturn, 1) := by decide +kernel
theorem dX8_told_74 : decode cX8_told 74 = .ok (.aload_n 2, 1) := by decide +kernel
theorem dX8_told_75 : decode cX8_told 75 = .ok (.invokevirtual 191, 3) := by decide +kernel
theorem dX8_told_78 : decode cX8_told 78 = .ok (.ifCond .eq 7, 3) := by decide +kernel
theorem dX8_told_81 : decode cX8_told 81 = .ok (.iconst 1, 1) := by decide +kernel
theorem dX8_told_82 : decode cX8_told 82 = .ok (.goto 4, 3) := by decide +kernel
theorem dX8_told_85 : decode cX8_told 85 = .ok (.iconst 0, 1) := by decide +kernel
theorem dX8_told_86 : decode cX8_told 86 = .ok (.ireturn, 1) := by decide +kernel
theorem dX8_told_87 : decode cX8_told 87 = .ok (.aload_n 2, 1) := by decide +kernel
theorem dX8_told_88 : decode cX8_told 88 = .ok (.invokevirtual 194, 3) := by decide +kernel
theorem dX8_told_91 : decode cX8_told 91 = .ok (.ireturn, 1) := by decide +kernel
theorem dX8_told_92 : decode cX8_told 92 = .ok (.aload_n 2, 1) := by decide +kernel
theorem dX8_told_93 : decode cX8_told 93 = .ok (.iconst 0, 1) := by decide +kernel
theorem dX8_told_94 : decode cX8_told 94 = .ok (.invokevirtual 197, 3) := by decide +kernel
theorem dX8_told_97 : decode cX8_told 97 = .ok (.ireturn, 1) := by decide +kernel
theorem dX8_told_98 : decode cX8_told 98 = .ok (.aload_n 2, 1) := by decide +kernel
theorem dX8_told_99 : decode cX8_told 99 = .ok (.iconst (-1), 1) := by decide +kernel
theorem dX8_told_100 : decode cX8_told 100 = .ok (.invokevirtual 197, 3) := by decide +kernel
theorem dX8_told_103 : decode cX8_told 103 = .ok (.ireturn, 1) := by decide +kernel
theorem dX8_told_104 : decode cX8_told 104 = .ok (.aload_n 2, 1) := by decide +kernel
theorem dX8_told_105 : decode cX8_told 105 = .ok (.getfield 149, 3) := by decide +kernel
theorem dX8_told_108 : decode cX8_told 108 = .ok (.ireturn, 1) := by decide +kernel
theorem dX8_told_109 : decode cX8_told 109 = .ok (.aload_n 2, 1) := by decide +kernel
theorem dX8_told_110 : decode cX8_told 110 = .ok (.getfield 155, 3) := by decide +kernel
theorem dX8_told_113 : decode cX8_told 113 = .ok (.ireturn, 1) := by decide +kernel
theorem dX8_told_114 : decode cX8_told 114 = .ok (.iconst (-1), 1) := by decide +kernel
theorem dX8_told_115 : decode cX8_told 115 = .ok (.ireturn, 1) := by decide +kernel
theorem dX8_trace_0 : decode cX8_trace 0 = .ok (.aload_n 0, 1) := by decide +kernel
theorem dX8_trace_1 : decode cX8_trace 1 = .ok (.getfield 14, 3) := by decide +kernel
theorem dX8_trace_4 : decode cX8_trace 4 = .ok (.getfield 118, 3) := by decide +kernel
theorem dX8_trace_7 : decode cX8_trace 7 = .ok (.astore_n 3, 1) := by decide +kernel
theorem dX8_trace_8 : decode cX8_trace 8 = .ok (.aload_n 3, 1) := by decide +kernel
theorem dX8_trace_9 : decode cX8_trace 9 = .ok (.getfield 128, 3) := by decide +kernel
theorem dX8_trace_12 : decode cX8_trace 12 = .ok (.ifCond .ne 6, 3) := by decide +kernel
theorem dX8_trace_15 : decode cX8_trace 15 = .ok (.bipush (-3), 2) := by decide +kernel
theorem dX8_trace_17 : decode cX8_trace 17 = .ok (.ireturn, 1) := by decide +kernel
theorem dX8_trace_18 : decode cX8_trace 18 = .ok (.iload_n 1, 1) := by decide +kernel
theorem dX8_trace_19 : decode cX8_trace 19 = .ok (.ifCond .lt 11, 3) := by decide +kernel
theorem dX8_trace_22 : decode cX8_trace 22 = .ok (.iload_n 1, 1) := by decide +kernel
theorem dX8_trace_23 : decode cX8_trace 23 = .ok (.aload_n 3, 1) := by decide +kernel
theorem dX8_trace_24 : decode cX8_trace 24 = .ok (.getfield 188, 3) := by decide +kernel
theorem dX8_trace_27 : decode cX8_trace 27 = .ok (.if_icmp .lt 5, 3) := by decide +kernel
theorem dX8_trace_30 : decode cX8_trace 30 = .ok (.iconst (-1), 1) := by decide +kernel
theorem dX8_trace_31 : decode cX8_trace 31 = .ok (.ireturn, 1) := by decide +kernel
theorem dX8_trace_32 : decode cX8_trace 32 = .ok (.iload_n 2, 1) := by decide +kernel
theorem dX8_trace_33 : decode cX8_trace 33 = .ok (.tableswitch 54 0 2 #[27, 37, 47], 27) := by decide +kernel
theorem dX8_trace_60 : decode cX8_trace 60 = .ok (.aload_n 3, 1) := by decide +kernel
theorem dX8_trace_61 : decode cX8_trace 61 = .ok (.getfield 200, 3) := by decide +kernel
theorem dX8_trace_64 : decode cX8_trace 64 = .ok (.iload_n 1, 1) := by decide +kernel
theorem dX8_trace_65 : decode cX8_trace 65 = .ok (.iaload, 1) := by decide +kernel
theorem dX8_trace_66 : decode cX8_trace 66 = .ok (.invokestatic 182, 3) := by decide +kernel
