theorem dX8_trace_69 : decode cX8_trace 69 = .ok (.ireturn, 1) := by decide +kernel
theorem dX8_trace_70 : decode cX8_trace 70 = .ok (.aload_n 3, 1) := by decide +kernel
theorem dX8_trace_71 : decode cX8_trace 71 = .ok (.getfield 203, 3) := by decide +kernel
theorem dX8_trace_74 : decode cX8_trace 74 = .ok (.iload_n 1, 1) := by decide +kernel
theorem dX8_trace_75 : decode cX8_trace 75 = .ok (.iaload, 1) := by decide +kernel
theorem dX8_trace_76 : decode cX8_trace 76 = .ok (.invokestatic 182, 3) := by decide +kernel
theorem dX8_trace_79 : decode cX8_trace 79 = .ok (.ireturn, 1) := by decide +kernel
theorem dX8_trace_80 : decode cX8_trace 80 = .ok (.aload_n 3, 1) := by decide +kernel
theorem dX8_trace_81 : decode cX8_trace 81 = .ok (.getfield 206, 3) := by decide +kernel
theorem dX8_trace_84 : decode cX8_trace 84 = .ok (.iload_n 1, 1) := by decide +kernel
theorem dX8_trace_85 : decode cX8_trace 85 = .ok (.iaload, 1) := by decide +kernel
theorem dX8_trace_86 : decode cX8_trace 86 = .ok (.ireturn, 1) := by decide +kernel
theorem dX8_trace_87 : decode cX8_trace 87 = .ok (.iconst (-1), 1) := by decide +kernel
theorem dX8_trace_88 : decode cX8_trace 88 = .ok (.ireturn, 1) := by decide +kernel
theorem dX8_best_0 : decode cX8_best 0 = .ok (.iload_n 1, 1) := by decide +kernel
theorem dX8_best_1 : decode cX8_best 1 = .ok (.iconst 2, 1) := by decide +kernel
theorem dX8_best_2 : decode cX8_best 2 = .ok (.invokestatic 53, 3) := by decide +kernel
theorem dX8_best_5 : decode cX8_best 5 = .ok (.ifCond .eq 11, 3) := by decide +kernel
theorem dX8_best_8 : decode cX8_best 8 = .ok (.iload_n 2, 1) := by decide +kernel
theorem dX8_best_9 : decode cX8_best 9 = .ok (.iconst 2, 1) := by decide +kernel
theorem dX8_best_10 : decode cX8_best 10 = .ok (.invokestatic 53, 3) := by decide +kernel
theorem dX8_best_13 : decode cX8_best 13 = .ok (.ifCond .ne 6, 3) := by decide +kernel
theorem dX8_best_16 : decode cX8_best 16 = .ok (.bipush (-2), 2) := by decide +kernel
theorem dX8_best_18 : decode cX8_best 18 = .ok (.ireturn, 1) := by decide +kernel
theorem dX8_best_19 : decode cX8_best 19 = .ok (.iload_n 3, 1) := by decide +kernel
theorem dX8_best_20 : decode cX8_best 20 = .ok (.iconst 1, 1) := by decide +kernel
theorem dX8_best_21 : decode cX8_best 21 = .ok (.invokestatic 53, 3) := by decide +kernel
theorem dX8_best_24 : decode cX8_best 24 = .ok (.ifCond .ne 5, 3) := by decide +kernel
theorem dX8_best_27 : decode cX8_best 27 = .ok (.iconst (-1), 1) := by decide +kernel
theorem dX8_best_28 : decode cX8_best 28 = .ok (.ireturn, 1) := by decide +kernel
theorem dX8_best_29 : decode cX8_best 29 = .ok (.aload_n 0, 1) := by decide +kernel
theorem dX8_best_30 : decode cX8_best 30 = .ok (.getfield 41, 3) := by decide +kernel
theorem dX8_best_33 : decode cX8_best 33 = .ok (.aload_n 0, 1) := by decide +kernel
theorem dX8_best_34 : decode cX8_best 34 = .ok (.getfield 14, 3) := by decide +kernel
theorem dX8_best_37 : decode cX8_best 37 = .ok (.getfield 61, 3) := by decide +kernel
theorem dX8_best_40 : decode cX8_best 40 = .ok (.invokevirtual 209, 3) := by decide +kernel
theorem dX8_best_43 : decode cX8_best 43 = .ok (.aload_n 0, 1) := by decide +kernel
theorem dX8_best_44 : decode cX8_best 44 = .ok (.iload_n 1, 1) := by decide +kernel
theorem dX8_best_45 : decode cX8_best 45 = .ok (.iload_n 2, 1) := by decide +kernel
theorem dX8_best_46 : decode cX8_best 46 = .ok (.invokevirtual 213, 3) := by decide +kernel
theorem dX8_best_49 : decode cX8_best 49 = .ok (.ifCond .ne 6, 3) := by decide +kernel
theorem dX8_best_52 : decode cX8_best 52 = .ok (.bipush (-5), 2) := by decide +kernel
theorem dX8_best_54 : decode cX8_best 54 = .ok (.ireturn, 1) := by decide +kernel
theorem dX8_best_55 : decode cX8_best 55 = .ok (.iload_n 3, 1) := by decide +kernel
theorem dX8_best_56 : decode cX8_best 56 = .ok (.ifCond .ne 13, 3) := by decide +kernel
theorem dX8_best_59 : decode cX8_best 59 = .ok (.aload_n 0, 1) := by decide +kernel
theorem dX8_best_60 : decode cX8_best 60 = .ok (.getfield 48, 3) := by decide +kernel
theorem dX8_best_63 : decode cX8_best 63 = .ok (.invokevirtual 125, 3) := by decide +kernel
theorem dX8_best_66 : decode cX8_best 66 = .ok (.goto 10, 3) := by decide +kernel
theorem dX8_best_69 : decode cX8_best 69 = .ok (.aload_n 0, 1) := by decide +kernel
theorem dX8_best_70 : decode cX8_best 70 = .ok (.getfield 48, 3) := by decide +kernel
theorem dX8_best_73 : decode cX8_best 73 = .ok (.getfield 188, 3) := by decide +kernel
theorem dX8_best_76 : decode cX8_best 76 = .ok (.ireturn, 1) := by decide +kernel
theorem dX8_cheapest_0 : decode cX8_cheapest 0 = .ok (.iload_n 1, 1) := by decide +kernel
theorem dX8_cheapest_1 : decode cX8_cheapest 1 = .ok (.iconst 1, 1) := by decide +kernel
theorem dX8_cheapest_2 : decode cX8_cheapest 2 = .ok (.invokestatic 53, 3) := by decide +kernel
theorem dX8_cheapest_5 : decode cX8_cheapest 5 = .ok (.ifCond .ne 5, 3) := by decide +kernel
theorem dX8_cheapest_8 : decode cX8_cheapest 8 = .ok (.iconst (-1), 1) := by decide +kernel
theorem dX8_cheapest_9 : decode cX8_cheapest 9 = .ok (.ireturn, 1) := by decide +kernel
theorem dX8_cheapest_10 : decode cX8_cheapest 10 = .ok (.aload_n 0, 1) := by decide +kernel
theorem dX8_cheapest_11 : decode cX8_cheapest 11 = .ok (.getfield 14, 3) := by decide +kernel
theorem dX8_cheapest_14 : decode cX8_cheapest 14 = .ok (.getfield 61, 3) := by decide +kernel
theorem dX8_cheapest_17 : decode cX8_cheapest 17 = .ok (.invokevirtual 114, 3) := by decide +kernel
theorem dX8_cheapest_20 : decode cX8_cheapest 20 = .ok (.ifCond .ne 6, 3) := by decide +kernel
theorem dX8_cheapest_23 : decode cX8_cheapest 23 = .ok (.bipush (-5), 2) := by decide +kernel
theorem dX8_cheapest_25 : decode cX8_cheapest 25 = .ok (.ireturn, 1) := by decide +kernel
theorem dX8_cheapest_26 : decode cX8_cheapest 26 = .ok (.iload_n 1, 1) := by decide +kernel
theorem dX8_cheapest_27 : decode cX8_cheapest 27 = .ok (.ifCond .ne 10, 3) := by decide +kernel
theorem dX8_cheapest_30 : decode cX8_cheapest 30 = .ok (.aload_n 0, 1) := by decide +kernel
theorem dX8_cheapest_31 : decode cX8_cheapest 31 = .ok (.invokevirtual 216, 3) := by decide +kernel
theorem dX8_cheapest_34 : decode cX8_cheapest 34 = .ok (.goto 7, 3) := by decide +kernel
theorem dX8_cheapest_37 : decode cX8_cheapest 37 = .ok (.aload_n 0, 1) := by decide +kernel
theorem dX8_cheapest_38 : decode cX8_cheapest 38 = .ok (.invokevirtual 219, 3) := by decide +kernel
theorem dX8_cheapest_41 : decode cX8_cheapest 41 = .ok (.ireturn, 1) := by decide +kernel
theorem dX8_more_0 : decode cX8_more 0 = .ok (.aload_n 0, 1) := by decide +kernel
theorem dX8_more_1 : decode cX8_more 1 = .ok (.getfield 14, 3) := by decide +kernel
theorem dX8_more_4 : decode cX8_more 4 = .ok (.getfield 61, 3) := by decide +kernel
theorem dX8_more_7 : decode cX8_more 7 = .ok (.iload_n 1, 1) := by decide +kernel
theorem dX8_more_8 : decode cX8_more 8 = .ok (.iload_n 2, 1) := by decide +kernel
theorem dX8_more_9 : decode cX8_more 9 = .ok (.invokevirtual 71, 3) := by decide +kernel
theorem dX8_more_12 : decode cX8_more 12 = .ok (.ifCond .ne 7, 3) := by decide +kernel
theorem dX8_more_15 : decode cX8_more 15 = .ok (.ldc2_w 147, 3) := by decide +kernel
theorem dX8_more_18 : decode cX8_more 18 = .ok (.lreturn, 1) := by decide +kernel
theorem dX8_more_19 : decode cX8_more 19 = .ok (.aload_n 0, 1) := by decide +kernel
theorem dX8_more_20 : decode cX8_more 20 = .ok (.getfield 41, 3) := by decide +kernel
theorem dX8_more_23 : decode cX8_more 23 = .ok (.aload_n 0, 1) := by decide +kernel
theorem dX8_more_24 : decode cX8_more 24 = .ok (.getfield 14, 3) := by decide +kernel
theorem dX8_more_27 : decode cX8_more 27 = .ok (.getfield 61, 3) := by decide +kernel
theorem dX8_more_30 : decode cX8_more 30 = .ok (.invokevirtual 209, 3) := by decide +kernel
theorem dX8_more_33 : decode cX8_more 33 = .ok (.aload_n 0, 1) := by decide +kernel
theorem dX8_more_34 : decode cX8_more 34 = .ok (.invokevirtual 222, 3) := by decide +kernel
theorem dX8_more_37 : decode cX8_more 37 = .ok (.ifCond .ne 7, 3) := by decide +kernel
theorem dX8_more_40 : decode cX8_more 40 = .ok (.ldc2_w 147, 3) := by decide +kernel
theorem dX8_more_43 : decode cX8_more 43 = .ok (.lreturn, 1) := by decide +kernel
theorem dX8_more_44 : decode cX8_more 44 = .ok (.aload_n 0, 1) := by decide +kernel
theorem dX8_more_45 : decode cX8_more 45 = .ok (.getfield 48, 3) := by decide +kernel
theorem dX8_more_48 : decode cX8_more 48 = .ok (.invokevirtual 125, 3) := by decide +kernel
theorem dX8_more_51 : decode cX8_more 51 = .ok (.i2l, 1) := by decide +kernel
theorem dX8_more_52 : decode cX8_more 52 = .ok (.lstore_n 3, 1) := by decide +kernel
theorem dX8_more_53 : decode cX8_more 53 = .ok (.aload_n 0, 1) := by decide +kernel
theorem dX8_more_54 : decode cX8_more 54 = .ok (.getfield 41, 3) := by decide +kernel
theorem dX8_more_57 : decode cX8_more 57 = .ok (.getfield 225, 3) := by decide +kernel
theorem dX8_more_60 : decode cX8_more 60 = .ok (.iload_n 1, 1) := by decide +kernel
theorem dX8_more_61 : decode cX8_more 61 = .ok (.dup2, 1) := by decide +kernel
theorem dX8_more_62 : decode cX8_more 62 = .ok (.iaload, 1) := by decide +kernel
theorem dX8_more_63 : decode cX8_more 63 = .ok (.iconst 1, 1) := by decide +kernel
theorem dX8_more_64 : decode cX8_more 64 = .ok (.iadd, 1) := by decide +kernel
theorem dX8_more_65 : decode cX8_more 65 = .ok (.iastore, 1) := by decide +kernel
theorem dX8_more_66 : decode cX8_more 66 = .ok (.aload_n 0, 1) := by decide +kernel
theorem dX8_more_67 : decode cX8_more 67 = .ok (.getfield 41, 3) := by decide +kernel
theorem dX8_more_70 : decode cX8_more 70 = .ok (.getfield 228, 3) := by decide +kernel
theorem dX8_more_73 : decode cX8_more 73 = .ok (.iload_n 2, 1) := by decide +kernel
theorem dX8_more_74 : decode cX8_more 74 = .ok (.dup2, 1) := by decide +kernel
theorem dX8_more_75 : decode cX8_more 75 = .ok (.iaload, 1) := by decide +kernel
theorem dX8_more_76 : decode cX8_more 76 = .ok (.iconst 1, 1) := by decide +kernel
theorem dX8_more_77 : decode cX8_more 77 = .ok (.iadd, 1) := by decide +kernel
theorem dX8_more_78 : decode cX8_more 78 = .ok (.iastore, 1) := by decide +kernel
theorem dX8_more_79 : decode cX8_more 79 = .ok (.aload_n 0, 1) := by decide +kernel
theorem dX8_more_80 : decode cX8_more 80 = .ok (.invokevirtual 222, 3) := by decide +kernel
theorem dX8_more_83 : decode cX8_more 83 = .ok (.ifCond .eq 16, 3) := by decide +kernel
theorem dX8_more_86 : decode cX8_more 86 = .ok (.aload_n 0, 1) := by decide +kernel
theorem dX8_more_87 : decode cX8_more 87 = .ok (.getfield 48, 3) := by decide +kernel
theorem dX8_more_90 : decode cX8_more 90 = .ok (.invokevirtual 125, 3) := by decide +kernel
theorem dX8_more_93 : decode cX8_more 93 = .ok (.i2l, 1) := by decide +kernel
theorem dX8_more_94 : decode cX8_more 94 = .ok (.lload_n 3, 1) := by decide +kernel
theorem dX8_more_95 : decode cX8_more 95 = .ok (.lsub, 1) := by decide +kernel
theorem dX8_more_96 : decode cX8_more 96 = .ok (.goto 6, 3) := by decide +kernel
theorem dX8_more_99 : decode cX8_more 99 = .ok (.ldc2_w 147, 3) := by decide +kernel
theorem dX8_more_102 : decode cX8_more 102 = .ok (.lreturn, 1) := by decide +kernel
theorem dX8_rise_0 : decode cX8_rise 0 = .ok (.aload_n 0, 1) := by decide +kernel
theorem dX8_rise_1 : decode cX8_rise 1 = .ok (.getfield 14, 3) := by decide +kernel
theorem dX8_rise_4 : decode cX8_rise 4 = .ok (.getfield 61, 3) := by decide +kernel
theorem dX8_rise_7 : decode cX8_rise 7 = .ok (.iload_n 1, 1) := by decide +kernel
theorem dX8_rise_8 : decode cX8_rise 8 = .ok (.iload_n 2, 1) := by decide +kernel
theorem dX8_rise_9 : decode cX8_rise 9 = .ok (.invokevirtual 71, 3) := by decide +kernel
theorem dX8_rise_12 : decode cX8_rise 12 = .ok (.ifCond .ne 5, 3) := by decide +kernel
theorem dX8_rise_15 : decode cX8_rise 15 = .ok (.iconst (-1), 1) := by decide +kernel
theorem dX8_rise_16 : decode cX8_rise 16 = .ok (.ireturn, 1) := by decide +kernel
theorem dX8_rise_17 : decode cX8_rise 17 = .ok (.aload_n 0, 1) := by decide +kernel
theorem dX8_rise_18 : decode cX8_rise 18 = .ok (.getfield 14, 3) := by decide +kernel
theorem dX8_rise_21 : decode cX8_rise 21 = .ok (.getfield 118, 3) := by decide +kernel
theorem dX8_rise_24 : decode cX8_rise 24 = .ok (.astore_n 3, 1) := by decide +kernel
theorem dX8_rise_25 : decode cX8_rise 25 = .ok (.aload_n 3, 1) := by decide +kernel
theorem dX8_rise_26 : decode cX8_rise 26 = .ok (.getfield 128, 3) := by decide +kernel
theorem dX8_rise_29 : decode cX8_rise 29 = .ok (.ifCond .eq 23, 3) := by decide +kernel
theorem dX8_rise_32 : decode cX8_rise 32 = .ok (.aload_n 3, 1) := by decide +kernel
theorem dX8_rise_33 : decode cX8_rise 33 = .ok (.invokevirtual 191, 3) := by decide +kernel
theorem dX8_rise_36 : decode cX8_rise 36 = .ok (.ifCond .eq 16, 3) := by decide +kernel
theorem dX8_rise_39 : decode cX8_rise 39 = .ok (.aload_n 3, 1) := by decide +kernel
theorem dX8_rise_40 : decode cX8_rise 40 = .ok (.getfield 143, 3) := by decide +kernel
theorem dX8_rise_43 : decode cX8_rise 43 = .ok (.iload_n 1, 1) := by decide +kernel
theorem dX8_rise_44 : decode cX8_rise 44 = .ok (.iload_n 2, 1) := by decide +kernel
theorem dX8_rise_45 : decode cX8_rise 45 = .ok (.invokestatic 140, 3) := by decide +kernel
theorem dX8_rise_48 : decode cX8_rise 48 = .ok (.baload, 1) := by decide +kernel
theorem dX8_rise_49 : decode cX8_rise 49 = .ok (.ifCond .ne 6, 3) := by decide +kernel
theorem dX8_rise_52 : decode cX8_rise 52 = .ok (.bipush (-3), 2) := by decide +kernel
theorem dX8_rise_54 : decode cX8_rise 54 = .ok (.ireturn, 1) := by decide +kernel
theorem dX8_rise_55 : decode cX8_rise 55 = .ok (.aload_n 0, 1) := by decide +kernel
theorem dX8_rise_56 : decode cX8_rise 56 = .ok (.getfield 48, 3) := by decide +kernel
theorem dX8_rise_59 : decode cX8_rise 59 = .ok (.aload_n 3, 1) := by decide +kernel
theorem dX8_rise_60 : decode cX8_rise 60 = .ok (.invokevirtual 231, 3) := by decide +kernel
theorem dX8_rise_63 : decode cX8_rise 63 = .ok (.iconst 0, 1) := by decide +kernel
theorem dX8_rise_64 : decode cX8_rise 64 = .ok (.istore 4, 2) := by decide +kernel
theorem dX8_rise_66 : decode cX8_rise 66 = .ok (.iload 4, 2) := by decide +kernel
theorem dX8_rise_68 : decode cX8_rise 68 = .ok (.bipush 99, 2) := by decide +kernel
theorem dX8_rise_70 : decode cX8_rise 70 = .ok (.if_icmp .ge 46, 3) := by decide +kernel
theorem dX8_rise_73 : decode cX8_rise 73 = .ok (.aload_n 0, 1) := by decide +kernel
theorem dX8_rise_74 : decode cX8_rise 74 = .ok (.getfield 48, 3) := by decide +kernel
theorem dX8_rise_77 : decode cX8_rise 77 = .ok (.getfield 234, 3) := by decide +kernel
theorem dX8_rise_80 : decode cX8_rise 80 = .ok (.iload_n 1, 1) := by decide +kernel
theorem dX8_rise_81 : decode cX8_rise 81 = .ok (.iload_n 2, 1) := by decide +kernel
theorem dX8_rise_82 : decode cX8_rise 82 = .ok (.invokestatic 140, 3) := by decide +kernel
theorem dX8_rise_85 : decode cX8_rise 85 = .ok (.dup2, 1) := by decide +kernel
theorem dX8_rise_86 : decode cX8_rise 86 = .ok (.iaload, 1) := by decide +kernel
theorem dX8_rise_87 : decode cX8_rise 87 = .ok (.iconst 1, 1) := by decide +kernel
theorem dX8_rise_88 : decode cX8_rise 88 = .ok (.iadd, 1) := by decide +kernel
theorem dX8_rise_89 : decode cX8_rise 89 = .ok (.iastore, 1) := by decide +kernel
theorem dX8_rise_90 : decode cX8_rise 90 = .ok (.aload_n 0, 1) := by decide +kernel
theorem dX8_rise_91 : decode cX8_rise 91 = .ok (.getfield 48, 3) := by decide +kernel
theorem dX8_rise_94 : decode cX8_rise 94 = .ok (.invokevirtual 237, 3) := by decide +kernel
theorem dX8_rise_97 : decode cX8_rise 97 = .ok (.aload_n 0, 1) := by decide +kernel
theorem dX8_rise_98 : decode cX8_rise 98 = .ok (.getfield 48, 3) := by decide +kernel
theorem dX8_rise_101 : decode cX8_rise 101 = .ok (.invokevirtual 191, 3) := by decide +kernel
theorem dX8_rise_104 : decode cX8_rise 104 = .ok (.ifCond .ne 6, 3) := by decide +kernel
theorem dX8_rise_107 : decode cX8_rise 107 = .ok (.iload 4, 2) := by decide +kernel
theorem dX8_rise_109 : decode cX8_rise 109 = .ok (.ireturn, 1) := by decide +kernel
theorem dX8_rise_110 : decode cX8_rise 110 = .ok (.iinc 4 1, 3) := by decide +kernel
theorem dX8_rise_113 : decode cX8_rise 113 = .ok (.goto (-47), 3) := by decide +kernel
theorem dX8_rise_116 : decode cX8_rise 116 = .ok (.bipush 99, 2) := by decide +kernel
theorem dX8_rise_118 : decode cX8_rise 118 = .ok (.ireturn, 1) := by decide +kernel
theorem dX8_missed_0 : decode cX8_missed 0 = .ok (.iload_n 1, 1) := by decide +kernel
theorem dX8_missed_1 : decode cX8_missed 1 = .ok (.iconst 1, 1) := by decide +kernel
theorem dX8_missed_2 : decode cX8_missed 2 = .ok (.invokestatic 53, 3) := by decide +kernel
theorem dX8_missed_5 : decode cX8_missed 5 = .ok (.ifCond .ne 5, 3) := by decide +kernel
theorem dX8_missed_8 : decode cX8_missed 8 = .ok (.iconst (-1), 1) := by decide +kernel
theorem dX8_missed_9 : decode cX8_missed 9 = .ok (.ireturn, 1) := by decide +kernel
theorem dX8_missed_10 : decode cX8_missed 10 = .ok (.bipush (-5), 2) := by decide +kernel
theorem dX8_missed_12 : decode cX8_missed 12 = .ok (.istore_n 2, 1) := by decide +kernel
theorem dX8_missed_13 : decode cX8_missed 13 = .ok (.bipush (-5), 2) := by decide +kernel
theorem dX8_missed_15 : decode cX8_missed 15 = .ok (.istore_n 3, 1) := by decide +kernel
theorem dX8_missed_16 : decode cX8_missed 16 = .ok (.iconst 0, 1) := by decide +kernel
theorem dX8_missed_17 : decode cX8_missed 17 = .ok (.istore 4, 2) := by decide +kernel
theorem dX8_missed_19 : decode cX8_missed 19 = .ok (.iload 4, 2) := by decide +kernel
theorem dX8_missed_21 : decode cX8_missed 21 = .ok (.aload_n 0, 1) := by decide +kernel
theorem dX8_missed_22 : decode cX8_missed 22 = .ok (.getfield 14, 3) := by decide +kernel
theorem dX8_missed_25 : decode cX8_missed 25 = .ok (.getfield 61, 3) := by decide +kernel
theorem dX8_missed_28 : decode cX8_missed 28 = .ok (.getfield 240, 3) := by decide +kernel
theorem dX8_missed_31 : decode cX8_missed 31 = .ok (.if_icmp .ge 96, 3) := by decide +kernel
theorem dX8_missed_34 : decode cX8_missed 34 = .ok (.iconst 0, 1) := by decide +kernel
theorem dX8_missed_35 : decode cX8_missed 35 = .ok (.istore 5, 2) := by decide +kernel
theorem dX8_missed_37 : decode cX8_missed 37 = .ok (.iload 5, 2) := by decide +kernel
theorem dX8_missed_39 : decode cX8_missed 39 = .ok (.aload_n 0, 1) := by decide +kernel
theorem dX8_missed_40 : decode cX8_missed 40 = .ok (.getfield 14, 3) := by decide +kernel
theorem dX8_missed_43 : decode cX8_missed 43 = .ok (.getfield 61, 3) := by decide +kernel
theorem dX8_missed_46 : decode cX8_missed 46 = .ok (.getfield 243, 3) := by decide +kernel
theorem dX8_missed_49 : decode cX8_missed 49 = .ok (.if_icmp .ge 72, 3) := by decide +kernel
theorem dX8_missed_52 : decode cX8_missed 52 = .ok (.aload_n 0, 1) := by decide +kernel
theorem dX8_missed_53 : decode cX8_missed 53 = .ok (.getfield 41, 3) := by decide +kernel
theorem dX8_missed_56 : decode cX8_missed 56 = .ok (.aload_n 0, 1) := by decide +kernel
theorem dX8_missed_57 : decode cX8_missed 57 = .ok (.getfield 14, 3) := by decide +kernel
theorem dX8_missed_60 : decode cX8_missed 60 = .ok (.getfield 61, 3) := by decide +kernel
theorem dX8_missed_63 : decode cX8_missed 63 = .ok (.invokevirtual 209, 3) := by decide +kernel
theorem dX8_missed_66 : decode cX8_missed 66 = .ok (.aload_n 0, 1) := by decide +kernel
theorem dX8_missed_67 : decode cX8_missed 67 = .ok (.getfield 41, 3) := by decide +kernel
theorem dX8_missed_70 : decode cX8_missed 70 = .ok (.iload 4, 2) := by decide +kernel
theorem dX8_missed_72 : decode cX8_missed 72 = .ok (.iload 5, 2) := by decide +kernel
theorem dX8_missed_74 : decode cX8_missed 74 = .ok (.invokevirtual 246, 3) := by decide +kernel
theorem dX8_missed_77 : decode cX8_missed 77 = .ok (.ifCond .eq 38, 3) := by decide +kernel
theorem dX8_missed_80 : decode cX8_missed 80 = .ok (.aload_n 0, 1) := by decide +kernel
theorem dX8_missed_81 : decode cX8_missed 81 = .ok (.invokevirtual 222, 3) := by decide +kernel
theorem dX8_missed_84 : decode cX8_missed 84 = .ok (.ifCond .eq 31, 3) := by decide +kernel
theorem dX8_missed_87 : decode cX8_missed 87 = .ok (.aload_n 0, 1) := by decide +kernel
theorem dX8_missed_88 : decode cX8_missed 88 = .ok (.getfield 48, 3) := by decide +kernel
theorem dX8_missed_91 : decode cX8_missed 91 = .ok (.invokevirtual 125, 3) := by decide +kernel
theorem dX8_missed_94 : decode cX8_missed 94 = .ok (.iload_n 2, 1) := by decide +kernel
theorem dX8_missed_95 : decode cX8_missed 95 = .ok (.if_icmp .le 20, 3) := by decide +kernel
theorem dX8_missed_98 : decode cX8_missed 98 = .ok (.aload_n 0, 1) := by decide +kernel
theorem dX8_missed_99 : decode cX8_missed 99 = .ok (.getfield 48, 3) := by decide +kernel
theorem dX8_missed_102 : decode cX8_missed 102 = .ok (.invokevirtual 125, 3) := by decide +kernel
theorem dX8_missed_105 : decode cX8_missed 105 = .ok (.istore_n 2, 1) := by decide +kernel
theorem dX8_missed_106 : decode cX8_missed 106 = .ok (.bipush 10, 2) := by decide +kernel
theorem dX8_missed_108 : decode cX8_missed 108 = .ok (.iload 4, 2) := by decide +kernel
theorem dX8_missed_110 : decode cX8_missed 110 = .ok (.imul, 1) := by decide +kernel
theorem dX8_missed_111 : decode cX8_missed 111 = .ok (.iload 5, 2) := by decide +kernel
theorem dX8_missed_113 : decode cX8_missed 113 = .ok (.iadd, 1) := by decide +kernel
theorem dX8_missed_114 : decode cX8_missed 114 = .ok (.istore_n 3, 1) := by decide +kernel
theorem dX8_missed_115 : decode cX8_missed 115 = .ok (.iinc 5 1, 3) := by decide +kernel
theorem dX8_missed_118 : decode cX8_missed 118 = .ok (.goto (-81), 3) := by decide +kernel
theorem dX8_missed_121 : decode cX8_missed 121 = .ok (.iinc 4 1, 3) := by decide +kernel
theorem dX8_missed_124 : decode cX8_missed 124 = .ok (.goto (-105), 3) := by decide +kernel
theorem dX8_missed_127 : decode cX8_missed 127 = .ok (.iload_n 1, 1) := by decide +kernel
theorem dX8_missed_128 : decode cX8_missed 128 = .ok (.ifCond .ne 7, 3) := by decide +kernel
theorem dX8_missed_131 : decode cX8_missed 131 = .ok (.iload_n 3, 1) := by decide +kernel
theorem dX8_missed_132 : decode cX8_missed 132 = .ok (.goto 4, 3) := by decide +kernel
theorem dX8_missed_135 : decode cX8_missed 135 = .ok (.iload_n 2, 1) := by decide +kernel
theorem dX8_missed_136 : decode cX8_missed 136 = .ok (.ireturn, 1) := by decide +kernel
theorem dX8_see_0 : decode cX8_see 0 = .ok (.iload_n 1, 1) := by decide +kernel
theorem dX8_see_1 : decode cX8_see 1 = .ok (.iconst (-1), 1) := by decide +kernel
theorem dX8_see_2 : decode cX8_see 2 = .ok (.if_icmp .ne 14, 3) := by decide +kernel
theorem dX8_see_5 : decode cX8_see 5 = .ok (.aload_n 0, 1) := by decide +kernel
theorem dX8_see_6 : decode cX8_see 6 = .ok (.getfield 14, 3) := by decide +kernel
theorem dX8_see_9 : decode cX8_see 9 = .ok (.getfield 249, 3) := by decide +kernel
theorem dX8_see_12 : decode cX8_see 12 = .ok (.invokevirtual 253, 3) := by decide +kernel
theorem dX8_see_15 : decode cX8_see 15 = .ok (.ireturn, 1) := by decide +kernel
theorem dX8_see_16 : decode cX8_see 16 = .ok (.aload_n 0, 1) := by decide +kernel
theorem dX8_see_17 : decode cX8_see 17 = .ok (.getfield 14, 3) := by decide +kernel
theorem dX8_see_20 : decode cX8_see 20 = .ok (.getfield 61, 3) := by decide +kernel
theorem dX8_see_23 : decode cX8_see 23 = .ok (.iload_n 1, 1) := by decide +kernel
theorem dX8_see_24 : decode cX8_see 24 = .ok (.iload_n 2, 1) := by decide +kernel
theorem dX8_see_25 : decode cX8_see 25 = .ok (.invokevirtual 71, 3) := by decide +kernel
theorem dX8_see_28 : decode cX8_see 28 = .ok (.ifCond .ne 5, 3) := by decide +kernel
theorem dX8_see_31 : decode cX8_see 31 = .ok (.iconst (-1), 1) := by decide +kernel
theorem dX8_see_32 : decode cX8_see 32 = .ok (.ireturn, 1) := by decide +kernel
theorem dX8_see_33 : decode cX8_see 33 = .ok (.iload_n 3, 1) := by decide +kernel
theorem dX8_see_34 : decode cX8_see 34 = .ok (.bipush 99, 2) := by decide +kernel
theorem dX8_see_36 : decode cX8_see 36 = .ok (.invokestatic 53, 3) := by decide +kernel
theorem dX8_see_39 : decode cX8_see 39 = .ok (.ifCond .eq 22, 3) := by decide +kernel
theorem dX8_see_42 : decode cX8_see 42 = .ok (.aload_n 0, 1) := by decide +kernel
theorem dX8_see_43 : decode cX8_see 43 = .ok (.getfield 14, 3) := by decide +kernel
theorem dX8_see_46 : decode cX8_see 46 = .ok (.getfield 249, 3) := by decide +kernel
theorem dX8_see_49 : decode cX8_see 49 = .ok (.iload_n 1, 1) := by decide +kernel
theorem dX8_see_50 : decode cX8_see 50 = .ok (.iload_n 2, 1) := by decide +kernel
theorem dX8_see_51 : decode cX8_see 51 = .ok (.invokestatic 140, 3) := by decide +kernel
theorem dX8_see_54 : decode cX8_see 54 = .ok (.iload_n 3, 1) := by decide +kernel
theorem dX8_see_55 : decode cX8_see 55 = .ok (.invokevirtual 258, 3) := by decide +kernel
theorem dX8_see_58 : decode cX8_see 58 = .ok (.goto 5, 3) := by decide +kernel
theorem dX8_see_61 : decode cX8_see 61 = .ok (.bipush (-2), 2) := by decide +kernel
theorem dX8_see_63 : decode cX8_see 63 = .ok (.ireturn, 1) := by decide +kernel
theorem dX8_fits_0 : decode cX8_fits 0 = .ok (.aload_n 0, 1) := by decide +kernel
theorem dX8_fits_1 : decode cX8_fits 1 = .ok (.getfield 14, 3) := by decide +kernel
theorem dX8_fits_4 : decode cX8_fits 4 = .ok (.getfield 61, 3) := by decide +kernel
theorem dX8_fits_7 : decode cX8_fits 7 = .ok (.iload_n 1, 1) := by decide +kernel
theorem dX8_fits_8 : decode cX8_fits 8 = .ok (.iload_n 2, 1) := by decide +kernel
theorem dX8_fits_9 : decode cX8_fits 9 = .ok (.invokevirtual 71, 3) := by decide +kernel
theorem dX8_fits_12 : decode cX8_fits 12 = .ok (.ifCond .eq 11, 3) := by decide +kernel
theorem dX8_fits_15 : decode cX8_fits 15 = .ok (.iload_n 3, 1) := by decide +kernel
theorem dX8_fits_16 : decode cX8_fits 16 = .ok (.iconst 1, 1) := by decide +kernel
theorem dX8_fits_17 : decode cX8_fits 17 = .ok (.invokestatic 53, 3) := by decide +kernel
theorem dX8_fits_20 : decode cX8_fits 20 = .ok (.ifCond .ne 5, 3) := by decide +kernel
theorem dX8_fits_23 : decode cX8_fits 23 = .ok (.iconst (-1), 1) := by decide +kernel
theorem dX8_fits_24 : decode cX8_fits 24 = .ok (.ireturn, 1) := by decide +kernel
theorem dX8_fits_25 : decode cX8_fits 25 = .ok (.aload_n 0, 1) := by decide +kernel
theorem dX8_fits_26 : decode cX8_fits 26 = .ok (.getfield 41, 3) := by decide +kernel
theorem dX8_fits_29 : decode cX8_fits 29 = .ok (.aload_n 0, 1) := by decide +kernel
theorem dX8_fits_30 : decode cX8_fits 30 = .ok (.getfield 14, 3) := by decide +kernel
theorem dX8_fits_33 : decode cX8_fits 33 = .ok (.getfield 61, 3) := by decide +kernel
theorem dX8_fits_36 : decode cX8_fits 36 = .ok (.invokevirtual 209, 3) := by decide +kernel
theorem dX8_fits_39 : decode cX8_fits 39 = .ok (.iconst 0, 1) := by decide +kernel
theorem dX8_fits_40 : decode cX8_fits 40 = .ok (.istore 4, 2) := by decide +kernel
theorem dX8_fits_42 : decode cX8_fits 42 = .ok (.bipush (-5), 2) := by decide +kernel
theorem dX8_fits_44 : decode cX8_fits 44 = .ok (.istore 5, 2) := by decide +kernel
theorem dX8_fits_46 : decode cX8_fits 46 = .ok (.iconst 0, 1) := by decide +kernel
theorem dX8_fits_47 : decode cX8_fits 47 = .ok (.istore 6, 2) := by decide +kernel
theorem dX8_fits_49 : decode cX8_fits 49 = .ok (.iload 6, 2) := by decide +kernel
theorem dX8_fits_51 : decode cX8_fits 51 = .ok (.bipush 31, 2) := by decide +kernel
theorem dX8_fits_53 : decode cX8_fits 53 = .ok (.if_icmp .ge 72, 3) := by decide +kernel
theorem dX8_fits_56 : decode cX8_fits 56 = .ok (.aload_n 0, 1) := by decide +kernel
theorem dX8_fits_57 : decode cX8_fits 57 = .ok (.getfield 41, 3) := by decide +kernel
theorem dX8_fits_60 : decode cX8_fits 60 = .ok (.getfield 89, 3) := by decide +kernel
theorem dX8_fits_63 : decode cX8_fits 63 = .ok (.iload_n 1, 1) := by decide +kernel
theorem dX8_fits_64 : decode cX8_fits 64 = .ok (.iload_n 2, 1) := by decide +kernel
theorem dX8_fits_65 : decode cX8_fits 65 = .ok (.invokestatic 85, 3) := by decide +kernel
theorem dX8_fits_68 : decode cX8_fits 68 = .ok (.iload 6, 2) := by decide +kernel
theorem dX8_fits_70 : decode cX8_fits 70 = .ok (.iastore, 1) := by decide +kernel
theorem dX8_fits_71 : decode cX8_fits 71 = .ok (.aload_n 0, 1) := by decide +kernel
theorem dX8_fits_72 : decode cX8_fits 72 = .ok (.invokevirtual 222, 3) := by decide +kernel
theorem dX8_fits_75 : decode cX8_fits 75 = .ok (.ifCond .eq 44, 3) := by decide +kernel
theorem dX8_fits_78 : decode cX8_fits 78 = .ok (.aload_n 0, 1) := by decide +kernel
theorem dX8_fits_79 : decode cX8_fits 79 = .ok (.getfield 14, 3) := by decide +kernel
theorem dX8_fits_82 : decode cX8_fits 82 = .ok (.getfield 249, 3) := by decide +kernel
theorem dX8_fits_85 : decode cX8_fits 85 = .ok (.aload_n 0, 1) := by decide +kernel
theorem dX8_fits_86 : decode cX8_fits 86 = .ok (.getfield 48, 3) := by decide +kernel
theorem dX8_fits_89 : decode cX8_fits 89 = .ok (.getfield 137, 3) := by decide +kernel
theorem dX8_fits_92 : decode cX8_fits 92 = .ok (.invokevirtual 260, 3) := by decide +kernel
theorem dX8_fits_95 : decode cX8_fits 95 = .ok (.bipush (-5), 2) := by decide +kernel
theorem dX8_fits_97 : decode cX8_fits 97 = .ok (.if_icmp .ne 22, 3) := by decide +kernel
theorem dX8_fits_100 : decode cX8_fits 100 = .ok (.iinc 4 1, 3) := by decide +kernel
theorem dX8_fits_103 : decode cX8_fits 103 = .ok (.iload 5, 2) := by decide +kernel
theorem dX8_fits_105 : decode cX8_fits 105 = .ok (.bipush (-5), 2) := by decide +kernel
theorem dX8_fits_107 : decode cX8_fits 107 = .ok (.if_icmp .ne 8, 3) := by decide +kernel
theorem dX8_fits_110 : decode cX8_fits 110 = .ok (.iload 6, 2) := by decide +kernel
theorem dX8_fits_112 : decode cX8_fits 112 = .ok (.goto 5, 3) := by decide +kernel
theorem dX8_fits_115 : decode cX8_fits 115 = .ok (.iload 5, 2) := by decide +kernel
theorem dX8_fits_117 : decode cX8_fits 117 = .ok (.istore 5, 2) := by decide +kernel
theorem dX8_fits_119 : decode cX8_fits 119 = .ok (.iinc 6 1, 3) := by decide +kernel
theorem dX8_fits_122 : decode cX8_fits 122 = .ok (.goto (-73), 3) := by decide +kernel
theorem dX8_fits_125 : decode cX8_fits 125 = .ok (.iload_n 3, 1) := by decide +kernel
theorem dX8_fits_126 : decode cX8_fits 126 = .ok (.ifCond .ne 8, 3) := by decide +kernel
theorem dX8_fits_129 : decode cX8_fits 129 = .ok (.iload 4, 2) := by decide +kernel
theorem dX8_fits_131 : decode cX8_fits 131 = .ok (.goto 5, 3) := by decide +kernel
theorem dX8_fits_134 : decode cX8_fits 134 = .ok (.iload 5, 2) := by decide +kernel
theorem dX8_fits_136 : decode cX8_fits 136 = .ok (.ireturn, 1) := by decide +kernel
theorem dX8_odds_0 : decode cX8_odds 0 = .ok (.aload_n 0, 1) := by decide +kernel
theorem dX8_odds_1 : decode cX8_odds 1 = .ok (.getfield 14, 3) := by decide +kernel
theorem dX8_odds_4 : decode cX8_odds 4 = .ok (.getfield 61, 3) := by decide +kernel
theorem dX8_odds_7 : decode cX8_odds 7 = .ok (.iload_n 1, 1) := by decide +kernel
theorem dX8_odds_8 : decode cX8_odds 8 = .ok (.iload_n 2, 1) := by decide +kernel
theorem dX8_odds_9 : decode cX8_odds 9 = .ok (.invokevirtual 71, 3) := by decide +kernel
theorem dX8_odds_12 : decode cX8_odds 12 = .ok (.ifCond .eq 11, 3) := by decide +kernel
theorem dX8_odds_15 : decode cX8_odds 15 = .ok (.iload_n 3, 1) := by decide +kernel
theorem dX8_odds_16 : decode cX8_odds 16 = .ok (.iconst 1, 1) := by decide +kernel
theorem dX8_odds_17 : decode cX8_odds 17 = .ok (.invokestatic 53, 3) := by decide +kernel
theorem dX8_odds_20 : decode cX8_odds 20 = .ok (.ifCond .ne 7, 3) := by decide +kernel
theorem dX8_odds_23 : decode cX8_odds 23 = .ok (.ldc2_w 147, 3) := by decide +kernel
theorem dX8_odds_26 : decode cX8_odds 26 = .ok (.lreturn, 1) := by decide +kernel
theorem dX8_odds_27 : decode cX8_odds 27 = .ok (.aload_n 0, 1) := by decide +kernel
theorem dX8_odds_28 : decode cX8_odds 28 = .ok (.getfield 41, 3) := by decide +kernel
theorem dX8_odds_31 : decode cX8_odds 31 = .ok (.aload_n 0, 1) := by decide +kernel
theorem dX8_odds_32 : decode cX8_odds 32 = .ok (.getfield 14, 3) := by decide +kernel
theorem dX8_odds_35 : decode cX8_odds 35 = .ok (.getfield 61, 3) := by decide +kernel
theorem dX8_odds_38 : decode cX8_odds 38 = .ok (.invokevirtual 209, 3) := by decide +kernel
theorem dX8_odds_41 : decode cX8_odds 41 = .ok (.iconst 0, 1) := by decide +kernel
theorem dX8_odds_42 : decode cX8_odds 42 = .ok (.istore 4, 2) := by decide +kernel
theorem dX8_odds_44 : decode cX8_odds 44 = .ok (.iconst 0, 1) := by decide +kernel
theorem dX8_odds_45 : decode cX8_odds 45 = .ok (.istore 5, 2) := by decide +kernel
theorem dX8_odds_47 : decode cX8_odds 47 = .ok (.iload 5, 2) := by decide +kernel
theorem dX8_odds_49 : decode cX8_odds 49 = .ok (.bipush 10, 2) := by decide +kernel
theorem dX8_odds_51 : decode cX8_odds 51 = .ok (.if_icmp .ge 53, 3) := by decide +kernel
theorem dX8_odds_54 : decode cX8_odds 54 = .ok (.aload_n 0, 1) := by decide +kernel
theorem dX8_odds_55 : decode cX8_odds 55 = .ok (.getfield 41, 3) := by decide +kernel
theorem dX8_odds_58 : decode cX8_odds 58 = .ok (.getfield 89, 3) := by decide +kernel
theorem dX8_odds_61 : decode cX8_odds 61 = .ok (.iload_n 1, 1) := by decide +kernel
theorem dX8_odds_62 : decode cX8_odds 62 = .ok (.iload_n 2, 1) := by decide +kernel
theorem dX8_odds_63 : decode cX8_odds 63 = .ok (.invokestatic 85, 3) := by decide +kernel
theorem dX8_odds_66 : decode cX8_odds 66 = .ok (.iload 5, 2) := by decide +kernel
theorem dX8_odds_68 : decode cX8_odds 68 = .ok (.bipush 10, 2) := by decide +kernel
theorem dX8_odds_70 : decode cX8_odds 70 = .ok (.imul, 1) := by decide +kernel
theorem dX8_odds_71 : decode cX8_odds 71 = .ok (.iastore, 1) := by decide +kernel
theorem dX8_odds_72 : decode cX8_odds 72 = .ok (.aload_n 0, 1) := by decide +kernel
theorem dX8_odds_73 : decode cX8_odds 73 = .ok (.invokevirtual 222, 3) := by decide +kernel
theorem dX8_odds_76 : decode cX8_odds 76 = .ok (.ifCond .eq 22, 3) := by decide +kernel
theorem dX8_odds_79 : decode cX8_odds 79 = .ok (.aload_n 0, 1) := by decide +kernel
theorem dX8_odds_80 : decode cX8_odds 80 = .ok (.getfield 48, 3) := by decide +kernel
theorem dX8_odds_83 : decode cX8_odds 83 = .ok (.getfield 137, 3) := by decide +kernel
theorem dX8_odds_86 : decode cX8_odds 86 = .ok (.iload_n 1, 1) := by decide +kernel
theorem dX8_odds_87 : decode cX8_odds 87 = .ok (.iload_n 2, 1) := by decide +kernel
theorem dX8_odds_88 : decode cX8_odds 88 = .ok (.invokestatic 140, 3) := by decide +kernel
theorem dX8_odds_91 : decode cX8_odds 91 = .ok (.iaload, 1) := by decide +kernel
theorem dX8_odds_92 : decode cX8_odds 92 = .ok (.ifCond .le 6, 3) := by decide +kernel
theorem dX8_odds_95 : decode cX8_odds 95 = .ok (.iinc 4 1, 3) := by decide +kernel
theorem dX8_odds_98 : decode cX8_odds 98 = .ok (.iinc 5 1, 3) := by decide +kernel
theorem dX8_odds_101 : decode cX8_odds 101 = .ok (.goto (-54), 3) := by decide +kernel
theorem dX8_odds_104 : decode cX8_odds 104 = .ok (.iload 4, 2) := by decide +kernel
theorem dX8_odds_106 : decode cX8_odds 106 = .ok (.bipush 10, 2) := by decide +kernel
theorem dX8_odds_108 : decode cX8_odds 108 = .ok (.iload_n 3, 1) := by decide +kernel
theorem dX8_odds_109 : decode cX8_odds 109 = .ok (.invokestatic 263, 3) := by decide +kernel
theorem dX8_odds_112 : decode cX8_odds 112 = .ok (.lreturn, 1) := by decide +kernel
theorem dX8_mean_0 : decode cX8_mean 0 = .ok (.aload_n 0, 1) := by decide +kernel
theorem dX8_mean_1 : decode cX8_mean 1 = .ok (.getfield 14, 3) := by decide +kernel
theorem dX8_mean_4 : decode cX8_mean 4 = .ok (.getfield 118, 3) := by decide +kernel
theorem dX8_mean_7 : decode cX8_mean 7 = .ok (.getfield 128, 3) := by decide +kernel
theorem dX8_mean_10 : decode cX8_mean 10 = .ok (.ifCond .eq 11, 3) := by decide +kernel
theorem dX8_mean_13 : decode cX8_mean 13 = .ok (.iload_n 1, 1) := by decide +kernel
theorem dX8_mean_14 : decode cX8_mean 14 = .ok (.iconst 1, 1) := by decide +kernel
theorem dX8_mean_15 : decode cX8_mean 15 = .ok (.invokestatic 53, 3) := by decide +kernel
theorem dX8_mean_18 : decode cX8_mean 18 = .ok (.ifCond .ne 7, 3) := by decide +kernel
theorem dX8_mean_21 : decode cX8_mean 21 = .ok (.ldc2_w 147, 3) := by decide +kernel
theorem dX8_mean_24 : decode cX8_mean 24 = .ok (.lreturn, 1) := by decide +kernel
theorem dX8_mean_25 : decode cX8_mean 25 = .ok (.aload_n 0, 1) := by decide +kernel
theorem dX8_mean_26 : decode cX8_mean 26 = .ok (.getfield 14, 3) := by decide +kernel
theorem dX8_mean_29 : decode cX8_mean 29 = .ok (.getfield 118, 3) := by decide +kernel
theorem dX8_mean_32 : decode cX8_mean 32 = .ok (.invokevirtual 125, 3) := by decide +kernel
theorem dX8_mean_35 : decode cX8_mean 35 = .ok (.aload_n 0, 1) := by decide +kernel
theorem dX8_mean_36 : decode cX8_mean 36 = .ok (.getfield 14, 3) := by decide +kernel
theorem dX8_mean_39 : decode cX8_mean 39 = .ok (.getfield 118, 3) := by decide +kernel
theorem dX8_mean_42 : decode cX8_mean 42 = .ok (.invokevirtual 267, 3) := by decide +kernel
theorem dX8_mean_45 : decode cX8_mean 45 = .ok (.iload_n 1, 1) := by decide +kernel
theorem dX8_mean_46 : decode cX8_mean 46 = .ok (.invokestatic 263, 3) := by decide +kernel
theorem dX8_mean_49 : decode cX8_mean 49 = .ok (.lreturn, 1) := by decide +kernel
theorem dX8_order_0 : decode cX8_order 0 = .ok (.iload_n 1, 1) := by decide +kernel
theorem dX8_order_1 : decode cX8_order 1 = .ok (.iconst (-1), 1) := by decide +kernel
theorem dX8_order_2 : decode cX8_order 2 = .ok (.if_icmp .ne 14, 3) := by decide +kernel
theorem dX8_order_5 : decode cX8_order 5 = .ok (.aload_n 0, 1) := by decide +kernel
theorem dX8_order_6 : decode cX8_order 6 = .ok (.getfield 14, 3) := by decide +kernel
theorem dX8_order_9 : decode cX8_order 9 = .ok (.getfield 270, 3) := by decide +kernel
theorem dX8_order_12 : decode cX8_order 12 = .ok (.invokevirtual 253, 3) := by decide +kernel
theorem dX8_order_15 : decode cX8_order 15 = .ok (.ireturn, 1) := by decide +kernel
theorem dX8_order_16 : decode cX8_order 16 = .ok (.aload_n 0, 1) := by decide +kernel
theorem dX8_order_17 : decode cX8_order 17 = .ok (.iload_n 1, 1) := by decide +kernel
theorem dX8_order_18 : decode cX8_order 18 = .ok (.iload_n 2, 1) := by decide +kernel
theorem dX8_order_19 : decode cX8_order 19 = .ok (.invokevirtual 273, 3) := by decide +kernel
theorem dX8_order_22 : decode cX8_order 22 = .ok (.ifCond .eq 18, 3) := by decide +kernel
theorem dX8_order_25 : decode cX8_order 25 = .ok (.aload_n 0, 1) := by decide +kernel
theorem dX8_order_26 : decode cX8_order 26 = .ok (.getfield 14, 3) := by decide +kernel
theorem dX8_order_29 : decode cX8_order 29 = .ok (.getfield 270, 3) := by decide +kernel
theorem dX8_order_32 : decode cX8_order 32 = .ok (.iload_n 1, 1) := by decide +kernel
theorem dX8_order_33 : decode cX8_order 33 = .ok (.iload_n 2, 1) := by decide +kernel
theorem dX8_order_34 : decode cX8_order 34 = .ok (.invokevirtual 258, 3) := by decide +kernel
theorem dX8_order_37 : decode cX8_order 37 = .ok (.goto 4, 3) := by decide +kernel
theorem dX8_order_40 : decode cX8_order 40 = .ok (.iconst (-1), 1) := by decide +kernel
theorem dX8_order_41 : decode cX8_order 41 = .ok (.ireturn, 1) := by decide +kernel
theorem dX8_ends_0 : decode cX8_ends 0 = .ok (.iload_n 1, 1) := by decide +kernel
theorem dX8_ends_1 : decode cX8_ends 1 = .ok (.iconst 2, 1) := by decide +kernel
theorem dX8_ends_2 : decode cX8_ends 2 = .ok (.invokestatic 53, 3) := by decide +kernel
theorem dX8_ends_5 : decode cX8_ends 5 = .ok (.ifCond .ne 5, 3) := by decide +kernel
theorem dX8_ends_8 : decode cX8_ends 8 = .ok (.iconst (-1), 1) := by decide +kernel
theorem dX8_ends_9 : decode cX8_ends 9 = .ok (.ireturn, 1) := by decide +kernel
theorem dX8_ends_10 : decode cX8_ends 10 = .ok (.aload_n 0, 1) := by decide +kernel
theorem dX8_ends_11 : decode cX8_ends 11 = .ok (.getfield 41, 3) := by decide +kernel
theorem dX8_ends_14 : decode cX8_ends 14 = .ok (.aload_n 0, 1) := by decide +kernel
theorem dX8_ends_15 : decode cX8_ends 15 = .ok (.getfield 14, 3) := by decide +kernel
theorem dX8_ends_18 : decode cX8_ends 18 = .ok (.getfield 61, 3) := by decide +kernel
theorem dX8_ends_21 : decode cX8_ends 21 = .ok (.invokevirtual 209, 3) := by decide +kernel
theorem dX8_ends_24 : decode cX8_ends 24 = .ok (.iconst 0, 1) := by decide +kernel
theorem dX8_ends_25 : decode cX8_ends 25 = .ok (.istore_n 2, 1) := by decide +kernel
theorem dX8_ends_26 : decode cX8_ends 26 = .ok (.iload_n 2, 1) := by decide +kernel
theorem dX8_ends_27 : decode cX8_ends 27 = .ok (.aload_n 0, 1) := by decide +kernel
theorem dX8_ends_28 : decode cX8_ends 28 = .ok (.getfield 14, 3) := by decide +kernel
theorem dX8_ends_31 : decode cX8_ends 31 = .ok (.getfield 270, 3) := by decide +kernel
theorem dX8_ends_34 : decode cX8_ends 34 = .ok (.getfield 276, 3) := by decide +kernel
theorem dX8_ends_37 : decode cX8_ends 37 = .ok (.if_icmp .ge 40, 3) := by decide +kernel
theorem dX8_ends_40 : decode cX8_ends 40 = .ok (.aload_n 0, 1) := by decide +kernel
theorem dX8_ends_41 : decode cX8_ends 41 = .ok (.getfield 41, 3) := by decide +kernel
theorem dX8_ends_44 : decode cX8_ends 44 = .ok (.aload_n 0, 1) := by decide +kernel
theorem dX8_ends_45 : decode cX8_ends 45 = .ok (.getfield 14, 3) := by decide +kernel
theorem dX8_ends_48 : decode cX8_ends 48 = .ok (.getfield 270, 3) := by decide +kernel
theorem dX8_ends_51 : decode cX8_ends 51 = .ok (.getfield 277, 3) := by decide +kernel
theorem dX8_ends_54 : decode cX8_ends 54 = .ok (.iload_n 2, 1) := by decide +kernel
theorem dX8_ends_55 : decode cX8_ends 55 = .ok (.iaload, 1) := by decide +kernel
theorem dX8_ends_56 : decode cX8_ends 56 = .ok (.aload_n 0, 1) := by decide +kernel
theorem dX8_ends_57 : decode cX8_ends 57 = .ok (.getfield 14, 3) := by decide +kernel
theorem dX8_ends_60 : decode cX8_ends 60 = .ok (.getfield 270, 3) := by decide +kernel
theorem dX8_ends_63 : decode cX8_ends 63 = .ok (.getfield 280, 3) := by decide +kernel
theorem dX8_ends_66 : decode cX8_ends 66 = .ok (.iload_n 2, 1) := by decide +kernel
theorem dX8_ends_67 : decode cX8_ends 67 = .ok (.iaload, 1) := by decide +kernel
theorem dX8_ends_68 : decode cX8_ends 68 = .ok (.invokevirtual 283, 3) := by decide +kernel
theorem dX8_ends_71 : decode cX8_ends 71 = .ok (.iinc 2 1, 3) := by decide +kernel
theorem dX8_ends_74 : decode cX8_ends 74 = .ok (.goto (-48), 3) := by decide +kernel
theorem dX8_ends_77 : decode cX8_ends 77 = .ok (.iload_n 1, 1) := by decide +kernel
theorem dX8_ends_78 : decode cX8_ends 78 = .ok (.ifCond .ne 23, 3) := by decide +kernel
theorem dX8_ends_81 : decode cX8_ends 81 = .ok (.aload_n 0, 1) := by decide +kernel
theorem dX8_ends_82 : decode cX8_ends 82 = .ok (.invokevirtual 222, 3) := by decide +kernel
theorem dX8_ends_85 : decode cX8_ends 85 = .ok (.ifCond .eq 13, 3) := by decide +kernel
theorem dX8_ends_88 : decode cX8_ends 88 = .ok (.aload_n 0, 1) := by decide +kernel
theorem dX8_ends_89 : decode cX8_ends 89 = .ok (.getfield 48, 3) := by decide +kernel
theorem dX8_ends_92 : decode cX8_ends 92 = .ok (.invokevirtual 125, 3) := by decide +kernel
theorem dX8_ends_95 : decode cX8_ends 95 = .ok (.goto 5, 3) := by decide +kernel
theorem dX8_ends_98 : decode cX8_ends 98 = .ok (.bipush (-5), 2) := by decide +kernel
theorem dX8_ends_100 : decode cX8_ends 100 = .ok (.ireturn, 1) := by decide +kernel
theorem dX8_ends_101 : decode cX8_ends 101 = .ok (.aload_n 0, 1) := by decide +kernel
theorem dX8_ends_102 : decode cX8_ends 102 = .ok (.getfield 41, 3) := by decide +kernel
theorem dX8_ends_105 : decode cX8_ends 105 = .ok (.invokevirtual 287, 3) := by decide +kernel
theorem dX8_ends_108 : decode cX8_ends 108 = .ok (.aload_n 0, 1) := by decide +kernel
theorem dX8_ends_109 : decode cX8_ends 109 = .ok (.getfield 41, 3) := by decide +kernel
theorem dX8_ends_112 : decode cX8_ends 112 = .ok (.invokevirtual 290, 3) := by decide +kernel
theorem dX8_ends_115 : decode cX8_ends 115 = .ok (.isub, 1) := by decide +kernel
theorem dX8_ends_116 : decode cX8_ends 116 = .ok (.istore_n 2, 1) := by decide +kernel
theorem dX8_ends_117 : decode cX8_ends 117 = .ok (.iconst 0, 1) := by decide +kernel
theorem dX8_ends_118 : decode cX8_ends 118 = .ok (.iload_n 1, 1) := by decide +kernel
theorem dX8_ends_119 : decode cX8_ends 119 = .ok (.iconst 1, 1) := by decide +kernel
theorem dX8_ends_120 : decode cX8_ends 120 = .ok (.if_icmp .ne 7, 3) := by decide +kernel
theorem dX8_ends_123 : decode cX8_ends 123 = .ok (.iload_n 2, 1) := by decide +kernel
theorem dX8_ends_124 : decode cX8_ends 124 = .ok (.goto 5, 3) := by decide +kernel
theorem dX8_ends_127 : decode cX8_ends 127 = .ok (.iload_n 2, 1) := by decide +kernel
theorem dX8_ends_128 : decode cX8_ends 128 = .ok (.ineg, 1) := by decide +kernel
theorem dX8_ends_129 : decode cX8_ends 129 = .ok (.invokestatic 293, 3) := by decide +kernel
theorem dX8_ends_132 : decode cX8_ends 132 = .ok (.ireturn, 1) := by decide +kernel
theorem dX8_book_0 : decode cX8_book 0 = .ok (.iload_n 1, 1) := by decide +kernel
theorem dX8_book_1 : decode cX8_book 1 = .ok (.iconst (-1), 1) := by decide +kernel
theorem dX8_book_2 : decode cX8_book 2 = .ok (.if_icmp .ne 14, 3) := by decide +kernel
theorem dX8_book_5 : decode cX8_book 5 = .ok (.aload_n 0, 1) := by decide +kernel
theorem dX8_book_6 : decode cX8_book 6 = .ok (.getfield 14, 3) := by decide +kernel
theorem dX8_book_9 : decode cX8_book 9 = .ok (.getfield 298, 3) := by decide +kernel
theorem dX8_book_12 : decode cX8_book 12 = .ok (.invokevirtual 253, 3) := by decide +kernel
theorem dX8_book_15 : decode cX8_book 15 = .ok (.ireturn, 1) := by decide +kernel
theorem dX8_book_16 : decode cX8_book 16 = .ok (.aload_n 0, 1) := by decide +kernel
theorem dX8_book_17 : decode cX8_book 17 = .ok (.getfield 14, 3) := by decide +kernel
theorem dX8_book_20 : decode cX8_book 20 = .ok (.getfield 61, 3) := by decide +kernel
theorem dX8_book_23 : decode cX8_book 23 = .ok (.iload_n 1, 1) := by decide +kernel
theorem dX8_book_24 : decode cX8_book 24 = .ok (.iload_n 2, 1) := by decide +kernel
theorem dX8_book_25 : decode cX8_book 25 = .ok (.invokevirtual 71, 3) := by decide +kernel
theorem dX8_book_28 : decode cX8_book 28 = .ok (.ifCond .ne 5, 3) := by decide +kernel
theorem dX8_book_31 : decode cX8_book 31 = .ok (.iconst (-1), 1) := by decide +kernel
theorem dX8_book_32 : decode cX8_book 32 = .ok (.ireturn, 1) := by decide +kernel
theorem dX8_book_33 : decode cX8_book 33 = .ok (.iload_n 3, 1) := by decide +kernel
theorem dX8_book_34 : decode cX8_book 34 = .ok (.bipush 99, 2) := by decide +kernel
theorem dX8_book_36 : decode cX8_book 36 = .ok (.invokestatic 53, 3) := by decide +kernel
theorem dX8_book_39 : decode cX8_book 39 = .ok (.ifCond .eq 22, 3) := by decide +kernel
theorem dX8_book_42 : decode cX8_book 42 = .ok (.aload_n 0, 1) := by decide +kernel
theorem dX8_book_43 : decode cX8_book 43 = .ok (.getfield 14, 3) := by decide +kernel
theorem dX8_book_46 : decode cX8_book 46 = .ok (.getfield 298, 3) := by decide +kernel
theorem dX8_book_49 : decode cX8_book 49 = .ok (.iload_n 1, 1) := by decide +kernel
theorem dX8_book_50 : decode cX8_book 50 = .ok (.iload_n 2, 1) := by decide +kernel
theorem dX8_book_51 : decode cX8_book 51 = .ok (.invokestatic 140, 3) := by decide +kernel
theorem dX8_book_54 : decode cX8_book 54 = .ok (.iload_n 3, 1) := by decide +kernel
theorem dX8_book_55 : decode cX8_book 55 = .ok (.invokevirtual 258, 3) := by decide +kernel
theorem dX8_book_58 : decode cX8_book 58 = .ok (.goto 5, 3) := by decide +kernel
theorem dX8_book_61 : decode cX8_book 61 = .ok (.bipush (-2), 2) := by decide +kernel
theorem dX8_book_63 : decode cX8_book 63 = .ok (.ireturn, 1) := by decide +kernel
theorem dX8_looked_0 : decode cX8_looked 0 = .ok (.aload_n 0, 1) := by decide +kernel
theorem dX8_looked_1 : decode cX8_looked 1 = .ok (.getfield 14, 3) := by decide +kernel
theorem dX8_looked_4 : decode cX8_looked 4 = .ok (.getfield 118, 3) := by decide +kernel
theorem dX8_looked_7 : decode cX8_looked 7 = .ok (.getfield 128, 3) := by decide +kernel
theorem dX8_looked_10 : decode cX8_looked 10 = .ok (.ifCond .eq 26, 3) := by decide +kernel
theorem dX8_looked_13 : decode cX8_looked 13 = .ok (.aload_n 0, 1) := by decide +kernel
theorem dX8_looked_14 : decode cX8_looked 14 = .ok (.getfield 14, 3) := by decide +kernel
theorem dX8_looked_17 : decode cX8_looked 17 = .ok (.getfield 298, 3) := by decide +kernel
theorem dX8_looked_20 : decode cX8_looked 20 = .ok (.aload_n 0, 1) := by decide +kernel
theorem dX8_looked_21 : decode cX8_looked 21 = .ok (.getfield 14, 3) := by decide +kernel
theorem dX8_looked_24 : decode cX8_looked 24 = .ok (.getfield 118, 3) := by decide +kernel
theorem dX8_looked_27 : decode cX8_looked 27 = .ok (.getfield 137, 3) := by decide +kernel
theorem dX8_looked_30 : decode cX8_looked 30 = .ok (.invokevirtual 260, 3) := by decide +kernel
theorem dX8_looked_33 : decode cX8_looked 33 = .ok (.goto 5, 3) := by decide +kernel
theorem dX8_looked_36 : decode cX8_looked 36 = .ok (.bipush (-3), 2) := by decide +kernel
theorem dX8_looked_38 : decode cX8_looked 38 = .ok (.ireturn, 1) := by decide +kernel
theorem dX8_judge_0 : decode cX8_judge 0 = .ok (.iload_n 1, 1) := by decide +kernel
theorem dX8_judge_1 : decode cX8_judge 1 = .ok (.invokestatic 301, 3) := by decide +kernel
theorem dX8_judge_4 : decode cX8_judge 4 = .ok (.ifCond .ne 5, 3) := by decide +kernel
theorem dX8_judge_7 : decode cX8_judge 7 = .ok (.iconst (-1), 1) := by decide +kernel
theorem dX8_judge_8 : decode cX8_judge 8 = .ok (.ireturn, 1) := by decide +kernel
theorem dX8_judge_9 : decode cX8_judge 9 = .ok (.aload_n 0, 1) := by decide +kernel
theorem dX8_judge_10 : decode cX8_judge 10 = .ok (.getfield 14, 3) := by decide +kernel
theorem dX8_judge_13 : decode cX8_judge 13 = .ok (.getfield 118, 3) := by decide +kernel
theorem dX8_judge_16 : decode cX8_judge 16 = .ok (.getfield 128, 3) := by decide +kernel
theorem dX8_judge_19 : decode cX8_judge 19 = .ok (.ifCond .ne 6, 3) := by decide +kernel
theorem dX8_judge_22 : decode cX8_judge 22 = .ok (.bipush (-3), 2) := by decide +kernel
theorem dX8_judge_24 : decode cX8_judge 24 = .ok (.ireturn, 1) := by decide +kernel
theorem dX8_judge_25 : decode cX8_judge 25 = .ok (.aload_n 0, 1) := by decide +kernel
theorem dX8_judge_26 : decode cX8_judge 26 = .ok (.getfield 34, 3) := by decide +kernel
theorem dX8_judge_29 : decode cX8_judge 29 = .ok (.iload_n 1, 1) := by decide +kernel
theorem dX8_judge_30 : decode cX8_judge 30 = .ok (.aaload, 1) := by decide +kernel
theorem dX8_judge_31 : decode cX8_judge 31 = .ok (.astore_n 3, 1) := by decide +kernel
theorem dX8_judge_32 : decode cX8_judge 32 = .ok (.aload_n 3, 1) := by decide +kernel
theorem dX8_judge_33 : decode cX8_judge 33 = .ok (.getfield 305, 3) := by decide +kernel
theorem dX8_judge_36 : decode cX8_judge 36 = .ok (.iconst 3, 1) := by decide +kernel
theorem dX8_judge_37 : decode cX8_judge 37 = .ok (.if_icmp .eq 14, 3) := by decide +kernel
theorem dX8_judge_40 : decode cX8_judge 40 = .ok (.aload_n 3, 1) := by decide +kernel
theorem dX8_judge_41 : decode cX8_judge 41 = .ok (.getfield 305, 3) := by decide +kernel
theorem dX8_judge_44 : decode cX8_judge 44 = .ok (.iconst (-1), 1) := by decide +kernel
theorem dX8_judge_45 : decode cX8_judge 45 = .ok (.if_icmp .eq 6, 3) := by decide +kernel
theorem dX8_judge_48 : decode cX8_judge 48 = .ok (.bipush (-12), 2) := by decide +kernel
theorem dX8_judge_50 : decode cX8_judge 50 = .ok (.ireturn, 1) := by decide +kernel
theorem dX8_judge_51 : decode cX8_judge 51 = .ok (.aload_n 0, 1) := by decide +kernel
theorem dX8_judge_52 : decode cX8_judge 52 = .ok (.getfield 14, 3) := by decide +kernel
theorem dX8_judge_55 : decode cX8_judge 55 = .ok (.getfield 118, 3) := by decide +kernel
theorem dX8_judge_58 : decode cX8_judge 58 = .ok (.aload_n 3, 1) := by decide +kernel
theorem dX8_judge_59 : decode cX8_judge 59 = .ok (.iload_n 2, 1) := by decide +kernel
theorem dX8_judge_60 : decode cX8_judge 60 = .ok (.invokevirtual 308, 3) := by decide +kernel
theorem dX8_judge_63 : decode cX8_judge 63 = .ok (.ireturn, 1) := by decide +kernel
theorem dX8_image_0 : decode cX8_image 0 = .ok (.aload_n 0, 1) := by decide +kernel
theorem dX8_image_1 : decode cX8_image 1 = .ok (.getfield 18, 3) := by decide +kernel
theorem dX8_image_4 : decode cX8_image 4 = .ok (.aload_n 0, 1) := by decide +kernel
theorem dX8_image_5 : decode cX8_image 5 = .ok (.getfield 14, 3) := by decide +kernel
theorem dX8_image_8 : decode cX8_image 8 = .ok (.invokevirtual 312, 3) := by decide +kernel
theorem dX8_image_11 : decode cX8_image 11 = .ok (.aload_n 0, 1) := by decide +kernel
theorem dX8_image_12 : decode cX8_image 12 = .ok (.iconst 1, 1) := by decide +kernel
theorem dX8_image_13 : decode cX8_image 13 = .ok (.putfield 21, 3) := by decide +kernel
theorem dX8_image_16 : decode cX8_image 16 = .ok (.aload_n 0, 1) := by decide +kernel
theorem dX8_image_17 : decode cX8_image 17 = .ok (.getfield 14, 3) := by decide +kernel
theorem dX8_image_20 : decode cX8_image 20 = .ok (.getfield 61, 3) := by decide +kernel
theorem dX8_image_23 : decode cX8_image 23 = .ok (.getfield 240, 3) := by decide +kernel
theorem dX8_image_26 : decode cX8_image 26 = .ok (.ireturn, 1) := by decide +kernel
theorem dX8_undo_0 : decode cX8_undo 0 = .ok (.aload_n 0, 1) := by decide +kernel
theorem dX8_undo_1 : decode cX8_undo 1 = .ok (.getfield 21, 3) := by decide +kernel
theorem dX8_undo_4 : decode cX8_undo 4 = .ok (.ifCond .ne 6, 3) := by decide +kernel
theorem dX8_undo_7 : decode cX8_undo 7 = .ok (.bipush (-3), 2) := by decide +kernel
theorem dX8_undo_9 : decode cX8_undo 9 = .ok (.ireturn, 1) := by decide +kernel
theorem dX8_undo_10 : decode cX8_undo 10 = .ok (.aload_n 0, 1) := by decide +kernel
theorem dX8_undo_11 : decode cX8_undo 11 = .ok (.getfield 14, 3) := by decide +kernel
theorem dX8_undo_14 : decode cX8_undo 14 = .ok (.aload_n 0, 1) := by decide +kernel
theorem dX8_undo_15 : decode cX8_undo 15 = .ok (.getfield 18, 3) := by decide +kernel
theorem dX8_undo_18 : decode cX8_undo 18 = .ok (.invokevirtual 312, 3) := by decide +kernel
theorem dX8_undo_21 : decode cX8_undo 21 = .ok (.aload_n 0, 1) := by decide +kernel
theorem dX8_undo_22 : decode cX8_undo 22 = .ok (.getfield 14, 3) := by decide +kernel
theorem dX8_undo_25 : decode cX8_undo 25 = .ok (.getfield 61, 3) := by decide +kernel
theorem dX8_undo_28 : decode cX8_undo 28 = .ok (.getfield 240, 3) := by decide +kernel
theorem dX8_undo_31 : decode cX8_undo 31 = .ok (.ireturn, 1) := by decide +kernel
theorem dX8_count_0 : decode cX8_count 0 = .ok (.iload_n 1, 1) := by decide +kernel
theorem dX8_count_1 : decode cX8_count 1 = .ok (.tableswitch 140 0 7 #[47, 58, 69, 80, 91, 102, 113, 121], 47) := by decide +kernel
theorem dX8_count_48 : decode cX8_count 48 = .ok (.aload_n 0, 1) := by decide +kernel
theorem dX8_count_49 : decode cX8_count 49 = .ok (.getfield 14, 3) := by decide +kernel
theorem dX8_count_52 : decode cX8_count 52 = .ok (.getfield 61, 3) := by decide +kernel
theorem dX8_count_55 : decode cX8_count 55 = .ok (.getfield 240, 3) := by decide +kernel
theorem dX8_count_58 : decode cX8_count 58 = .ok (.ireturn, 1) := by decide +kernel
theorem dX8_count_59 : decode cX8_count 59 = .ok (.aload_n 0, 1) := by decide +kernel
theorem dX8_count_60 : decode cX8_count 60 = .ok (.getfield 14, 3) := by decide +kernel
theorem dX8_count_63 : decode cX8_count 63 = .ok (.getfield 61, 3) := by decide +kernel
theorem dX8_count_66 : decode cX8_count 66 = .ok (.getfield 243, 3) := by decide +kernel
theorem dX8_count_69 : decode cX8_count 69 = .ok (.ireturn, 1) := by decide +kernel
theorem dX8_count_70 : decode cX8_count 70 = .ok (.aload_n 0, 1) := by decide +kernel
theorem dX8_count_71 : decode cX8_count 71 = .ok (.getfield 14, 3) := by decide +kernel
theorem dX8_count_74 : decode cX8_count 74 = .ok (.getfield 61, 3) := by decide +kernel
theorem dX8_count_77 : decode cX8_count 77 = .ok (.invokevirtual 315, 3) := by decide +kernel
theorem dX8_count_80 : decode cX8_count 80 = .ok (.ireturn, 1) := by decide +kernel
theorem dX8_count_81 : decode cX8_count 81 = .ok (.aload_n 0, 1) := by decide +kernel
theorem dX8_count_82 : decode cX8_count 82 = .ok (.getfield 14, 3) := by decide +kernel
theorem dX8_count_85 : decode cX8_count 85 = .ok (.getfield 249, 3) := by decide +kernel
theorem dX8_count_88 : decode cX8_count 88 = .ok (.getfield 276, 3) := by decide +kernel
theorem dX8_count_91 : decode cX8_count 91 = .ok (.ireturn, 1) := by decide +kernel
theorem dX8_count_92 : decode cX8_count 92 = .ok (.aload_n 0, 1) := by decide +kernel
theorem dX8_count_93 : decode cX8_count 93 = .ok (.getfield 14, 3) := by decide +kernel
theorem dX8_count_96 : decode cX8_count 96 = .ok (.getfield 270, 3) := by decide +kernel
theorem dX8_count_99 : decode cX8_count 99 = .ok (.getfield 276, 3) := by decide +kernel
theorem dX8_count_102 : decode cX8_count 102 = .ok (.ireturn, 1) := by decide +kernel
theorem dX8_count_103 : decode cX8_count 103 = .ok (.aload_n 0, 1) := by decide +kernel
theorem dX8_count_104 : decode cX8_count 104 = .ok (.getfield 14, 3) := by decide +kernel
theorem dX8_count_107 : decode cX8_count 107 = .ok (.getfield 298, 3) := by decide +kernel
theorem dX8_count_110 : decode cX8_count 110 = .ok (.getfield 276, 3) := by decide +kernel
theorem dX8_count_113 : decode cX8_count 113 = .ok (.ireturn, 1) := by decide +kernel
theorem dX8_count_114 : decode cX8_count 114 = .ok (.aload_n 0, 1) := by decide +kernel
theorem dX8_count_115 : decode cX8_count 115 = .ok (.getfield 28, 3) := by decide +kernel
theorem dX8_count_118 : decode cX8_count 118 = .ok (.getfield 103, 3) := by decide +kernel
theorem dX8_count_121 : decode cX8_count 121 = .ok (.ireturn, 1) := by decide +kernel
theorem dX8_count_122 : decode cX8_count 122 = .ok (.aload_n 0, 1) := by decide +kernel
theorem dX8_count_123 : decode cX8_count 123 = .ok (.getfield 14, 3) := by decide +kernel
theorem dX8_count_126 : decode cX8_count 126 = .ok (.getfield 118, 3) := by decide +kernel
theorem dX8_count_129 : decode cX8_count 129 = .ok (.getfield 128, 3) := by decide +kernel
theorem dX8_count_132 : decode cX8_count 132 = .ok (.ifCond .eq 7, 3) := by decide +kernel
theorem dX8_count_135 : decode cX8_count 135 = .ok (.iconst 1, 1) := by decide +kernel
theorem dX8_count_136 : decode cX8_count 136 = .ok (.goto 4, 3) := by decide +kernel
theorem dX8_count_139 : decode cX8_count 139 = .ok (.iconst 0, 1) := by decide +kernel
theorem dX8_count_140 : decode cX8_count 140 = .ok (.ireturn, 1) := by decide +kernel
theorem dX8_count_141 : decode cX8_count 141 = .ok (.bipush (-2), 2) := by decide +kernel
theorem dX8_count_143 : decode cX8_count 143 = .ok (.ireturn, 1) := by decide +kernel
theorem dX8_tape_0 : decode cX8_tape 0 = .ok (.iload_n 1, 1) := by decide +kernel
theorem dX8_tape_1 : decode cX8_tape 1 = .ok (.invokestatic 301, 3) := by decide +kernel
theorem dX8_tape_4 : decode cX8_tape 4 = .ok (.ifCond .ne 5, 3) := by decide +kernel
theorem dX8_tape_7 : decode cX8_tape 7 = .ok (.iconst (-1), 1) := by decide +kernel
theorem dX8_tape_8 : decode cX8_tape 8 = .ok (.ireturn, 1) := by decide +kernel
theorem dX8_tape_9 : decode cX8_tape 9 = .ok (.iload_n 2, 1) := by decide +kernel
theorem dX8_tape_10 : decode cX8_tape 10 = .ok (.iconst (-1), 1) := by decide +kernel
theorem dX8_tape_11 : decode cX8_tape 11 = .ok (.if_icmp .ne 16, 3) := by decide +kernel
theorem dX8_tape_14 : decode cX8_tape 14 = .ok (.aload_n 0, 1) := by decide +kernel
theorem dX8_tape_15 : decode cX8_tape 15 = .ok (.getfield 34, 3) := by decide +kernel
theorem dX8_tape_18 : decode cX8_tape 18 = .ok (.iload_n 1, 1) := by decide +kernel
theorem dX8_tape_19 : decode cX8_tape 19 = .ok (.aaload, 1) := by decide +kernel
theorem dX8_tape_20 : decode cX8_tape 20 = .ok (.iconst (-1), 1) := by decide +kernel
theorem dX8_tape_21 : decode cX8_tape 21 = .ok (.iconst 0, 1) := by decide +kernel
theorem dX8_tape_22 : decode cX8_tape 22 = .ok (.invokevirtual 318, 3) := by decide +kernel
theorem dX8_tape_25 : decode cX8_tape 25 = .ok (.iconst 1, 1) := by decide +kernel
theorem dX8_tape_26 : decode cX8_tape 26 = .ok (.ireturn, 1) := by decide +kernel
theorem dX8_tape_27 : decode cX8_tape 27 = .ok (.iload_n 2, 1) := by decide +kernel
theorem dX8_tape_28 : decode cX8_tape 28 = .ok (.iconst 4, 1) := by decide +kernel
theorem dX8_tape_29 : decode cX8_tape 29 = .ok (.invokestatic 53, 3) := by decide +kernel
theorem dX8_tape_32 : decode cX8_tape 32 = .ok (.ifCond .eq 9, 3) := by decide +kernel
theorem dX8_tape_35 : decode cX8_tape 35 = .ok (.iload_n 3, 1) := by decide +kernel
theorem dX8_tape_36 : decode cX8_tape 36 = .ok (.bipush 60, 2) := by decide +kernel
theorem dX8_tape_38 : decode cX8_tape 38 = .ok (.if_icmp .le 6, 3) := by decide +kernel
theorem dX8_tape_41 : decode cX8_tape 41 = .ok (.bipush (-2), 2) := by decide +kernel
theorem dX8_tape_43 : decode cX8_tape 43 = .ok (.ireturn, 1) := by decide +kernel
theorem dX8_tape_44 : decode cX8_tape 44 = .ok (.iload_n 3, 1) := by decide +kernel
theorem dX8_tape_45 : decode cX8_tape 45 = .ok (.ifCond .ge 6, 3) := by decide +kernel
theorem dX8_tape_48 : decode cX8_tape 48 = .ok (.bipush (-14), 2) := by decide +kernel
theorem dX8_tape_50 : decode cX8_tape 50 = .ok (.ireturn, 1) := by decide +kernel
theorem dX8_tape_51 : decode cX8_tape 51 = .ok (.aload_n 0, 1) := by decide +kernel
theorem dX8_tape_52 : decode cX8_tape 52 = .ok (.getfield 34, 3) := by decide +kernel
theorem dX8_tape_55 : decode cX8_tape 55 = .ok (.iload_n 1, 1) := by decide +kernel
theorem dX8_tape_56 : decode cX8_tape 56 = .ok (.aaload, 1) := by decide +kernel
theorem dX8_tape_57 : decode cX8_tape 57 = .ok (.iload_n 2, 1) := by decide +kernel
theorem dX8_tape_58 : decode cX8_tape 58 = .ok (.iload_n 3, 1) := by decide +kernel
theorem dX8_tape_59 : decode cX8_tape 59 = .ok (.invokevirtual 318, 3) := by decide +kernel
theorem dX8_tape_62 : decode cX8_tape 62 = .ok (.iconst 1, 1) := by decide +kernel
theorem dX8_tape_63 : decode cX8_tape 63 = .ok (.ireturn, 1) := by decide +kernel
theorem dX8_item_0 : decode cX8_item 0 = .ok (.iload_n 1, 1) := by decide +kernel
theorem dX8_item_1 : decode cX8_item 1 = .ok (.invokestatic 301, 3) := by decide +kernel
theorem dX8_item_4 : decode cX8_item 4 = .ok (.ifCond .ne 5, 3) := by decide +kernel
theorem dX8_item_7 : decode cX8_item 7 = .ok (.iconst (-1), 1) := by decide +kernel
theorem dX8_item_8 : decode cX8_item 8 = .ok (.ireturn, 1) := by decide +kernel
theorem dX8_item_9 : decode cX8_item 9 = .ok (.aload_n 0, 1) := by decide +kernel
theorem dX8_item_10 : decode cX8_item 10 = .ok (.getfield 34, 3) := by decide +kernel
theorem dX8_item_13 : decode cX8_item 13 = .ok (.iload_n 1, 1) := by decide +kernel
theorem dX8_item_14 : decode cX8_item 14 = .ok (.aaload, 1) := by decide +kernel
theorem dX8_item_15 : decode cX8_item 15 = .ok (.astore 5, 2) := by decide +kernel
theorem dX8_item_17 : decode cX8_item 17 = .ok (.aload 5, 2) := by decide +kernel
theorem dX8_item_19 : decode cX8_item 19 = .ok (.getfield 305, 3) := by decide +kernel
theorem dX8_item_22 : decode cX8_item 22 = .ok (.iconst (-1), 1) := by decide +kernel
theorem dX8_item_23 : decode cX8_item 23 = .ok (.if_icmp .ne 6, 3) := by decide +kernel
theorem dX8_item_26 : decode cX8_item 26 = .ok (.bipush (-11), 2) := by decide +kernel
theorem dX8_item_28 : decode cX8_item 28 = .ok (.ireturn, 1) := by decide +kernel
theorem dX8_item_29 : decode cX8_item 29 = .ok (.aload 5, 2) := by decide +kernel
theorem dX8_item_31 : decode cX8_item 31 = .ok (.iload_n 2, 1) := by decide +kernel
theorem dX8_item_32 : decode cX8_item 32 = .ok (.invokevirtual 321, 3) := by decide +kernel
theorem dX8_item_35 : decode cX8_item 35 = .ok (.ifCond .ne 6, 3) := by decide +kernel
theorem dX8_item_38 : decode cX8_item 38 = .ok (.bipush (-13), 2) := by decide +kernel
theorem dX8_item_40 : decode cX8_item 40 = .ok (.ireturn, 1) := by decide +kernel
theorem dX8_item_41 : decode cX8_item 41 = .ok (.aload 5, 2) := by decide +kernel
theorem dX8_item_43 : decode cX8_item 43 = .ok (.getfield 324, 3) := by decide +kernel
theorem dX8_item_46 : decode cX8_item 46 = .ok (.iload_n 2, 1) := by decide +kernel
theorem dX8_item_47 : decode cX8_item 47 = .ok (.aload 5, 2) := by decide +kernel
theorem dX8_item_49 : decode cX8_item 49 = .ok (.lload_n 3, 1) := by decide +kernel
theorem dX8_item_50 : decode cX8_item 50 = .ok (.invokevirtual 328, 3) := by decide +kernel
theorem dX8_item_53 : decode cX8_item 53 = .ok (.lastore, 1) := by decide +kernel
theorem dX8_item_54 : decode cX8_item 54 = .ok (.iconst 1, 1) := by decide +kernel
theorem dX8_item_55 : decode cX8_item 55 = .ok (.ireturn, 1) := by decide +kernel
theorem dX8_peek_0 : decode cX8_peek 0 = .ok (.iload_n 1, 1) := by decide +kernel
theorem dX8_peek_1 : decode cX8_peek 1 = .ok (.invokestatic 301, 3) := by decide +kernel
theorem dX8_peek_4 : decode cX8_peek 4 = .ok (.ifCond .eq 16, 3) := by decide +kernel
theorem dX8_peek_7 : decode cX8_peek 7 = .ok (.aload_n 0, 1) := by decide +kernel
theorem dX8_peek_8 : decode cX8_peek 8 = .ok (.getfield 34, 3) := by decide +kernel
theorem dX8_peek_11 : decode cX8_peek 11 = .ok (.iload_n 1, 1) := by decide +kernel
theorem dX8_peek_12 : decode cX8_peek 12 = .ok (.aaload, 1) := by decide +kernel
theorem dX8_peek_13 : decode cX8_peek 13 = .ok (.iload_n 2, 1) := by decide +kernel
theorem dX8_peek_14 : decode cX8_peek 14 = .ok (.invokevirtual 321, 3) := by decide +kernel
theorem dX8_peek_17 : decode cX8_peek 17 = .ok (.ifCond .ne 7, 3) := by decide +kernel
theorem dX8_peek_20 : decode cX8_peek 20 = .ok (.ldc2_w 147, 3) := by decide +kernel
theorem dX8_peek_23 : decode cX8_peek 23 = .ok (.lreturn, 1) := by decide +kernel
theorem dX8_peek_24 : decode cX8_peek 24 = .ok (.aload_n 0, 1) := by decide +kernel
theorem dX8_peek_25 : decode cX8_peek 25 = .ok (.getfield 34, 3) := by decide +kernel
theorem dX8_peek_28 : decode cX8_peek 28 = .ok (.iload_n 1, 1) := by decide +kernel
theorem dX8_peek_29 : decode cX8_peek 29 = .ok (.aaload, 1) := by decide +kernel
theorem dX8_peek_30 : decode cX8_peek 30 = .ok (.getfield 324, 3) := by decide +kernel
theorem dX8_peek_33 : decode cX8_peek 33 = .ok (.iload_n 2, 1) := by decide +kernel
theorem dX8_peek_34 : decode cX8_peek 34 = .ok (.laload, 1) := by decide +kernel
theorem dX8_peek_35 : decode cX8_peek 35 = .ok (.lreturn, 1) := by decide +kernel
theorem dX8_shift_0 : decode cX8_shift 0 = .ok (.iload_n 1, 1) := by decide +kernel
theorem dX8_shift_1 : decode cX8_shift 1 = .ok (.invokestatic 301, 3) := by decide +kernel
theorem dX8_shift_4 : decode cX8_shift 4 = .ok (.ifCond .eq 10, 3) := by decide +kernel
theorem dX8_shift_7 : decode cX8_shift 7 = .ok (.iload_n 3, 1) := by decide +kernel
theorem dX8_shift_8 : decode cX8_shift 8 = .ok (.invokestatic 301, 3) := by decide +kernel
theorem dX8_shift_11 : decode cX8_shift 11 = .ok (.ifCond .ne 5, 3) := by decide +kernel
theorem dX8_shift_14 : decode cX8_shift 14 = .ok (.iconst (-1), 1) := by decide +kernel
theorem dX8_shift_15 : decode cX8_shift 15 = .ok (.ireturn, 1) := by decide +kernel
theorem dX8_shift_16 : decode cX8_shift 16 = .ok (.aload_n 0, 1) := by decide +kernel
theorem dX8_shift_17 : decode cX8_shift 17 = .ok (.getfield 34, 3) := by decide +kernel
theorem dX8_shift_20 : decode cX8_shift 20 = .ok (.iload_n 1, 1) := by decide +kernel
theorem dX8_shift_21 : decode cX8_shift 21 = .ok (.aaload, 1) := by decide +kernel
theorem dX8_shift_22 : decode cX8_shift 22 = .ok (.astore 6, 2) := by decide +kernel
theorem dX8_shift_24 : decode cX8_shift 24 = .ok (.aload_n 0, 1) := by decide +kernel
theorem dX8_shift_25 : decode cX8_shift 25 = .ok (.getfield 34, 3) := by decide +kernel
theorem dX8_shift_28 : decode cX8_shift 28 = .ok (.iload_n 3, 1) := by decide +kernel
theorem dX8_shift_29 : decode cX8_shift 29 = .ok (.aaload, 1) := by decide +kernel
theorem dX8_shift_30 : decode cX8_shift 30 = .ok (.astore 7, 2) := by decide +kernel
theorem dX8_shift_32 : decode cX8_shift 32 = .ok (.aload 6, 2) := by decide +kernel
theorem dX8_shift_34 : decode cX8_shift 34 = .ok (.getfield 305, 3) := by decide +kernel
theorem dX8_shift_37 : decode cX8_shift 37 = .ok (.iconst (-1), 1) := by decide +kernel
theorem dX8_shift_38 : decode cX8_shift 38 = .ok (.if_icmp .eq 12, 3) := by decide +kernel
theorem dX8_shift_41 : decode cX8_shift 41 = .ok (.aload 7, 2) := by decide +kernel
theorem dX8_shift_43 : decode cX8_shift 43 = .ok (.getfield 305, 3) := by decide +kernel
theorem dX8_shift_46 : decode cX8_shift 46 = .ok (.iconst (-1), 1) := by decide +kernel
theorem dX8_shift_47 : decode cX8_shift 47 = .ok (.if_icmp .ne 6, 3) := by decide +kernel
theorem dX8_shift_50 : decode cX8_shift 50 = .ok (.bipush (-11), 2) := by decide +kernel
theorem dX8_shift_52 : decode cX8_shift 52 = .ok (.ireturn, 1) := by decide +kernel
theorem dX8_shift_53 : decode cX8_shift 53 = .ok (.aload 6, 2) := by decide +kernel
theorem dX8_shift_55 : decode cX8_shift 55 = .ok (.getfield 305, 3) := by decide +kernel
theorem dX8_shift_58 : decode cX8_shift 58 = .ok (.aload 7, 2) := by decide +kernel
theorem dX8_shift_60 : decode cX8_shift 60 = .ok (.getfield 305, 3) := by decide +kernel
theorem dX8_shift_63 : decode cX8_shift 63 = .ok (.if_icmp .eq 6, 3) := by decide +kernel
theorem dX8_shift_66 : decode cX8_shift 66 = .ok (.bipush (-12), 2) := by decide +kernel
theorem dX8_shift_68 : decode cX8_shift 68 = .ok (.ireturn, 1) := by decide +kernel
theorem dX8_shift_69 : decode cX8_shift 69 = .ok (.aload 6, 2) := by decide +kernel
theorem dX8_shift_71 : decode cX8_shift 71 = .ok (.iload_n 2, 1) := by decide +kernel
theorem dX8_shift_72 : decode cX8_shift 72 = .ok (.iload 5, 2) := by decide +kernel
theorem dX8_shift_74 : decode cX8_shift 74 = .ok (.invokevirtual 332, 3) := by decide +kernel
theorem dX8_shift_77 : decode cX8_shift 77 = .ok (.ifCond .eq 15, 3) := by decide +kernel
theorem dX8_shift_80 : decode cX8_shift 80 = .ok (.aload 7, 2) := by decide +kernel
theorem dX8_shift_82 : decode cX8_shift 82 = .ok (.iload 4, 2) := by decide +kernel
theorem dX8_shift_84 : decode cX8_shift 84 = .ok (.iload 5, 2) := by decide +kernel
theorem dX8_shift_86 : decode cX8_shift 86 = .ok (.invokevirtual 332, 3) := by decide +kernel
theorem dX8_shift_89 : decode cX8_shift 89 = .ok (.ifCond .ne 6, 3) := by decide +kernel
theorem dX8_shift_92 : decode cX8_shift 92 = .ok (.bipush (-13), 2) := by decide +kernel
theorem dX8_shift_94 : decode cX8_shift 94 = .ok (.ireturn, 1) := by decide +kernel
theorem dX8_shift_95 : decode cX8_shift 95 = .ok (.aload 6, 2) := by decide +kernel
theorem dX8_shift_97 : decode cX8_shift 97 = .ok (.getfield 324, 3) := by decide +kernel
theorem dX8_shift_100 : decode cX8_shift 100 = .ok (.iload_n 2, 1) := by decide +kernel
theorem dX8_shift_101 : decode cX8_shift 101 = .ok (.aload 7, 2) := by decide +kernel
theorem dX8_shift_103 : decode cX8_shift 103 = .ok (.getfield 324, 3) := by decide +kernel
theorem dX8_shift_106 : decode cX8_shift 106 = .ok (.iload 4, 2) := by decide +kernel
theorem dX8_shift_108 : decode cX8_shift 108 = .ok (.iload 5, 2) := by decide +kernel
theorem dX8_shift_110 : decode cX8_shift 110 = .ok (.invokestatic 335, 3) := by decide +kernel
theorem dX8_shift_113 : decode cX8_shift 113 = .ok (.iload 5, 2) := by decide +kernel
theorem dX8_shift_115 : decode cX8_shift 115 = .ok (.ireturn, 1) := by decide +kernel
theorem dX8_isUpTo_0 : decode cX8_isUpTo 0 = .ok (.iload_n 0, 1) := by decide +kernel
theorem dX8_isUpTo_1 : decode cX8_isUpTo 1 = .ok (.ifCond .lt 12, 3) := by decide +kernel
theorem dX8_isUpTo_4 : decode cX8_isUpTo 4 = .ok (.iload_n 0, 1) := by decide +kernel
theorem dX8_isUpTo_5 : decode cX8_isUpTo 5 = .ok (.iload_n 1, 1) := by decide +kernel
theorem dX8_isUpTo_6 : decode cX8_isUpTo 6 = .ok (.if_icmp .gt 7, 3) := by decide +kernel
theorem dX8_isUpTo_9 : decode cX8_isUpTo 9 = .ok (.iconst 1, 1) := by decide +kernel
theorem dX8_isUpTo_10 : decode cX8_isUpTo 10 = .ok (.goto 4, 3) := by decide +kernel
theorem dX8_isUpTo_13 : decode cX8_isUpTo 13 = .ok (.iconst 0, 1) := by decide +kernel
theorem dX8_isUpTo_14 : decode cX8_isUpTo 14 = .ok (.ireturn, 1) := by decide +kernel
theorem dX8_isTape_0 : decode cX8_isTape 0 = .ok (.iload_n 0, 1) := by decide +kernel
theorem dX8_isTape_1 : decode cX8_isTape 1 = .ok (.ifCond .lt 13, 3) := by decide +kernel
theorem dX8_isTape_4 : decode cX8_isTape 4 = .ok (.iload_n 0, 1) := by decide +kernel
theorem dX8_isTape_5 : decode cX8_isTape 5 = .ok (.bipush 6, 2) := by decide +kernel
theorem dX8_isTape_7 : decode cX8_isTape 7 = .ok (.if_icmp .ge 7, 3) := by decide +kernel
theorem dX8_isTape_10 : decode cX8_isTape 10 = .ok (.iconst 1, 1) := by decide +kernel
theorem dX8_isTape_11 : decode cX8_isTape 11 = .ok (.goto 4, 3) := by decide +kernel
theorem dX8_isTape_14 : decode cX8_isTape 14 = .ok (.iconst 0, 1) := by decide +kernel
theorem dX8_isTape_15 : decode cX8_isTape 15 = .ok (.ireturn, 1) := by decide +kernel
theorem dX8_roadAt_0 : decode cX8_roadAt 0 = .ok (.iload_n 0, 1) := by decide +kernel
theorem dX8_roadAt_1 : decode cX8_roadAt 1 = .ok (.iconst 5, 1) := by decide +kernel
theorem dX8_roadAt_2 : decode cX8_roadAt 2 = .ok (.imul, 1) := by decide +kernel
theorem dX8_roadAt_3 : decode cX8_roadAt 3 = .ok (.iload_n 1, 1) := by decide +kernel
theorem dX8_roadAt_4 : decode cX8_roadAt 4 = .ok (.iadd, 1) := by decide +kernel
theorem dX8_roadAt_5 : decode cX8_roadAt 5 = .ok (.ireturn, 1) := by decide +kernel
theorem dX8_cellAt_0 : decode cX8_cellAt 0 = .ok (.iload_n 0, 1) := by decide +kernel
theorem dX8_cellAt_1 : decode cX8_cellAt 1 = .ok (.bipush 6, 2) := by decide +kernel
theorem dX8_cellAt_3 : decode cX8_cellAt 3 = .ok (.imul, 1) := by decide +kernel
theorem dX8_cellAt_4 : decode cX8_cellAt 4 = .ok (.iload_n 1, 1) := by decide +kernel
theorem dX8_cellAt_5 : decode cX8_cellAt 5 = .ok (.iadd, 1) := by decide +kernel
theorem dX8_cellAt_6 : decode cX8_cellAt 6 = .ok (.ireturn, 1) := by decide +kernel
theorem dX8_cellTold_0 : decode cX8_cellTold 0 = .ok (.bipush 10, 2) := by decide +kernel
theorem dX8_cellTold_2 : decode cX8_cellTold 2 = .ok (.iload_n 0, 1) := by decide +kernel
theorem dX8_cellTold_3 : decode cX8_cellTold 3 = .ok (.bipush 6, 2) := by decide +kernel
theorem dX8_cellTold_5 : decode cX8_cellTold 5 = .ok (.idiv, 1) := by decide +kernel
theorem dX8_cellTold_6 : decode cX8_cellTold 6 = .ok (.imul, 1) := by decide +kernel
theorem dX8_cellTold_7 : decode cX8_cellTold 7 = .ok (.iload_n 0, 1) := by decide +kernel
theorem dX8_cellTold_8 : decode cX8_cellTold 8 = .ok (.bipush 6, 2) := by decide +kernel
theorem dX8_cellTold_10 : decode cX8_cellTold 10 = .ok (.irem, 1) := by decide +kernel
theorem dX8_cellTold_11 : decode cX8_cellTold 11 = .ok (.iadd, 1) := by decide +kernel
theorem dX8_cellTold_12 : decode cX8_cellTold 12 = .ok (.ireturn, 1) := by decide +kernel
theorem dX8_tryBest_0 : decode cX8_tryBest 0 = .ok (.aload_n 0, 1) := by decide +kernel
theorem dX8_tryBest_1 : decode cX8_tryBest 1 = .ok (.getfield 41, 3) := by decide +kernel
theorem dX8_tryBest_4 : decode cX8_tryBest 4 = .ok (.invokevirtual 114, 3) := by decide +kernel
theorem dX8_tryBest_7 : decode cX8_tryBest 7 = .ok (.ifCond .ne 5, 3) := by decide +kernel
theorem dX8_tryBest_10 : decode cX8_tryBest 10 = .ok (.iconst 0, 1) := by decide +kernel
theorem dX8_tryBest_11 : decode cX8_tryBest 11 = .ok (.ireturn, 1) := by decide +kernel
theorem dX8_tryBest_12 : decode cX8_tryBest 12 = .ok (.aload_n 0, 1) := by decide +kernel
theorem dX8_tryBest_13 : decode cX8_tryBest 13 = .ok (.getfield 48, 3) := by decide +kernel
theorem dX8_tryBest_16 : decode cX8_tryBest 16 = .ok (.aload_n 0, 1) := by decide +kernel
theorem dX8_tryBest_17 : decode cX8_tryBest 17 = .ok (.getfield 41, 3) := by decide +kernel
theorem dX8_tryBest_20 : decode cX8_tryBest 20 = .ok (.iload_n 1, 1) := by decide +kernel
theorem dX8_tryBest_21 : decode cX8_tryBest 21 = .ok (.invokevirtual 121, 3) := by decide +kernel
theorem dX8_tryBest_24 : decode cX8_tryBest 24 = .ok (.aload_n 0, 1) := by decide +kernel
theorem dX8_tryBest_25 : decode cX8_tryBest 25 = .ok (.getfield 48, 3) := by decide +kernel
theorem dX8_tryBest_28 : decode cX8_tryBest 28 = .ok (.iload_n 2, 1) := by decide +kernel
theorem dX8_tryBest_29 : decode cX8_tryBest 29 = .ok (.bipush 100, 2) := by decide +kernel
theorem dX8_tryBest_31 : decode cX8_tryBest 31 = .ok (.invokevirtual 131, 3) := by decide +kernel
theorem dX8_tryBest_34 : decode cX8_tryBest 34 = .ok (.pop, 1) := by decide +kernel
theorem dX8_tryBest_35 : decode cX8_tryBest 35 = .ok (.aload_n 0, 1) := by decide +kernel
theorem dX8_tryBest_36 : decode cX8_tryBest 36 = .ok (.getfield 48, 3) := by decide +kernel
theorem dX8_tryBest_39 : decode cX8_tryBest 39 = .ok (.invokevirtual 191, 3) := by decide +kernel
theorem dX8_tryBest_42 : decode cX8_tryBest 42 = .ok (.ireturn, 1) := by decide +kernel
theorem dX8_tryTheBest_0 : decode cX8_tryTheBest 0 = .ok (.aload_n 0, 1) := by decide +kernel
theorem dX8_tryTheBest_1 : decode cX8_tryTheBest 1 = .ok (.iconst 1, 1) := by decide +kernel
theorem dX8_tryTheBest_2 : decode cX8_tryTheBest 2 = .ok (.iconst 1, 1) := by decide +kernel
theorem dX8_tryTheBest_3 : decode cX8_tryTheBest 3 = .ok (.invokevirtual 213, 3) := by decide +kernel
theorem dX8_tryTheBest_6 : decode cX8_tryTheBest 6 = .ok (.ireturn, 1) := by decide +kernel
theorem dX8_cheapestStart_0 : decode cX8_cheapestStart 0 = .ok (.bipush (-5), 2) := by decide +kernel
theorem dX8_cheapestStart_2 : decode cX8_cheapestStart 2 = .ok (.istore_n 1, 1) := by decide +kernel
theorem dX8_cheapestStart_3 : decode cX8_cheapestStart 3 = .ok (.iconst 0, 1) := by decide +kernel
theorem dX8_cheapestStart_4 : decode cX8_cheapestStart 4 = .ok (.istore_n 2, 1) := by decide +kernel
theorem dX8_cheapestStart_5 : decode cX8_cheapestStart 5 = .ok (.iconst 0, 1) := by decide +kernel
theorem dX8_cheapestStart_6 : decode cX8_cheapestStart 6 = .ok (.istore_n 3, 1) := by decide +kernel
theorem dX8_cheapestStart_7 : decode cX8_cheapestStart 7 = .ok (.iload_n 3, 1) := by decide +kernel
theorem dX8_cheapestStart_8 : decode cX8_cheapestStart 8 = .ok (.iconst 2, 1) := by decide +kernel
theorem dX8_cheapestStart_9 : decode cX8_cheapestStart 9 = .ok (.if_icmp .gt 50, 3) := by decide +kernel
theorem dX8_cheapestStart_12 : decode cX8_cheapestStart 12 = .ok (.aload_n 0, 1) := by decide +kernel
theorem dX8_cheapestStart_13 : decode cX8_cheapestStart 13 = .ok (.getfield 48, 3) := by decide +kernel
theorem dX8_cheapestStart_16 : decode cX8_cheapestStart 16 = .ok (.aload_n 0, 1) := by decide +kernel
theorem dX8_cheapestStart_17 : decode cX8_cheapestStart 17 = .ok (.getfield 14, 3) := by decide +kernel
theorem dX8_cheapestStart_20 : decode cX8_cheapestStart 20 = .ok (.getfield 61, 3) := by decide +kernel
theorem dX8_cheapestStart_23 : decode cX8_cheapestStart 23 = .ok (.iload_n 3, 1) := by decide +kernel
theorem dX8_cheapestStart_24 : decode cX8_cheapestStart 24 = .ok (.invokevirtual 121, 3) := by decide +kernel
theorem dX8_cheapestStart_27 : decode cX8_cheapestStart 27 = .ok (.aload_n 0, 1) := by decide +kernel
theorem dX8_cheapestStart_28 : decode cX8_cheapestStart 28 = .ok (.getfield 48, 3) := by decide +kernel
theorem dX8_cheapestStart_31 : decode cX8_cheapestStart 31 = .ok (.invokevirtual 125, 3) := by decide +kernel
theorem dX8_cheapestStart_34 : decode cX8_cheapestStart 34 = .ok (.istore 4, 2) := by decide +kernel
theorem dX8_cheapestStart_36 : decode cX8_cheapestStart 36 = .ok (.iload_n 1, 1) := by decide +kernel
theorem dX8_cheapestStart_37 : decode cX8_cheapestStart 37 = .ok (.bipush (-5), 2) := by decide +kernel
theorem dX8_cheapestStart_39 : decode cX8_cheapestStart 39 = .ok (.if_icmp .eq 9, 3) := by decide +kernel
theorem dX8_cheapestStart_42 : decode cX8_cheapestStart 42 = .ok (.iload 4, 2) := by decide +kernel
theorem dX8_cheapestStart_44 : decode cX8_cheapestStart 44 = .ok (.iload_n 2, 1) := by decide +kernel
theorem dX8_cheapestStart_45 : decode cX8_cheapestStart 45 = .ok (.if_icmp .ge 8, 3) := by decide +kernel
theorem dX8_cheapestStart_48 : decode cX8_cheapestStart 48 = .ok (.iload_n 3, 1) := by decide +kernel
theorem dX8_cheapestStart_49 : decode cX8_cheapestStart 49 = .ok (.istore_n 1, 1) := by decide +kernel
theorem dX8_cheapestStart_50 : decode cX8_cheapestStart 50 = .ok (.iload 4, 2) := by decide +kernel
theorem dX8_cheapestStart_52 : decode cX8_cheapestStart 52 = .ok (.istore_n 2, 1) := by decide +kernel
theorem dX8_cheapestStart_53 : decode cX8_cheapestStart 53 = .ok (.iinc 3 1, 3) := by decide +kernel
theorem dX8_cheapestStart_56 : decode cX8_cheapestStart 56 = .ok (.goto (-49), 3) := by decide +kernel
theorem dX8_cheapestStart_59 : decode cX8_cheapestStart 59 = .ok (.iload_n 1, 1) := by decide +kernel
theorem dX8_cheapestStart_60 : decode cX8_cheapestStart 60 = .ok (.ireturn, 1) := by decide +kernel
theorem dX8_fewestSteps_0 : decode cX8_fewestSteps 0 = .ok (.aload_n 0, 1) := by decide +kernel
theorem dX8_fewestSteps_1 : decode cX8_fewestSteps 1 = .ok (.getfield 41, 3) := by decide +kernel
theorem dX8_fewestSteps_4 : decode cX8_fewestSteps 4 = .ok (.aload_n 0, 1) := by decide +kernel
theorem dX8_fewestSteps_5 : decode cX8_fewestSteps 5 = .ok (.getfield 14, 3) := by decide +kernel
theorem dX8_fewestSteps_8 : decode cX8_fewestSteps 8 = .ok (.getfield 61, 3) := by decide +kernel
theorem dX8_fewestSteps_11 : decode cX8_fewestSteps 11 = .ok (.invokevirtual 209, 3) := by decide +kernel
theorem dX8_fewestSteps_14 : decode cX8_fewestSteps 14 = .ok (.bipush (-5), 2) := by decide +kernel
theorem dX8_fewestSteps_16 : decode cX8_fewestSteps 16 = .ok (.istore_n 1, 1) := by decide +kernel
theorem dX8_fewestSteps_17 : decode cX8_fewestSteps 17 = .ok (.iconst 0, 1) := by decide +kernel
theorem dX8_fewestSteps_18 : decode cX8_fewestSteps 18 = .ok (.istore_n 2, 1) := by decide +kernel
theorem dX8_fewestSteps_19 : decode cX8_fewestSteps 19 = .ok (.iconst 0, 1) := by decide +kernel
theorem dX8_fewestSteps_20 : decode cX8_fewestSteps 20 = .ok (.istore_n 3, 1) := by decide +kernel
theorem dX8_fewestSteps_21 : decode cX8_fewestSteps 21 = .ok (.iload_n 3, 1) := by decide +kernel
theorem dX8_fewestSteps_22 : decode cX8_fewestSteps 22 = .ok (.iconst 2, 1) := by decide +kernel
theorem dX8_fewestSteps_23 : decode cX8_fewestSteps 23 = .ok (.if_icmp .gt 67, 3) := by decide +kernel
theorem dX8_fewestSteps_26 : decode cX8_fewestSteps 26 = .ok (.iconst 0, 1) := by decide +kernel
theorem dX8_fewestSteps_27 : decode cX8_fewestSteps 27 = .ok (.istore 4, 2) := by decide +kernel
theorem dX8_fewestSteps_29 : decode cX8_fewestSteps 29 = .ok (.iload 4, 2) := by decide +kernel
theorem dX8_fewestSteps_31 : decode cX8_fewestSteps 31 = .ok (.iconst 2, 1) := by decide +kernel
theorem dX8_fewestSteps_32 : decode cX8_fewestSteps 32 = .ok (.if_icmp .gt 52, 3) := by decide +kernel
theorem dX8_fewestSteps_35 : decode cX8_fewestSteps 35 = .ok (.aload_n 0, 1) := by decide +kernel
theorem dX8_fewestSteps_36 : decode cX8_fewestSteps 36 = .ok (.iload_n 3, 1) := by decide +kernel
theorem dX8_fewestSteps_37 : decode cX8_fewestSteps 37 = .ok (.iload 4, 2) := by decide +kernel
theorem dX8_fewestSteps_39 : decode cX8_fewestSteps 39 = .ok (.invokevirtual 213, 3) := by decide +kernel
theorem dX8_fewestSteps_42 : decode cX8_fewestSteps 42 = .ok (.ifCond .eq 36, 3) := by decide +kernel
theorem dX8_fewestSteps_45 : decode cX8_fewestSteps 45 = .ok (.iload_n 1, 1) := by decide +kernel
theorem dX8_fewestSteps_46 : decode cX8_fewestSteps 46 = .ok (.bipush (-5), 2) := by decide +kernel
theorem dX8_fewestSteps_48 : decode cX8_fewestSteps 48 = .ok (.if_icmp .eq 14, 3) := by decide +kernel
theorem dX8_fewestSteps_51 : decode cX8_fewestSteps 51 = .ok (.aload_n 0, 1) := by decide +kernel
theorem dX8_fewestSteps_52 : decode cX8_fewestSteps 52 = .ok (.getfield 48, 3) := by decide +kernel
theorem dX8_fewestSteps_55 : decode cX8_fewestSteps 55 = .ok (.getfield 188, 3) := by decide +kernel
theorem dX8_fewestSteps_58 : decode cX8_fewestSteps 58 = .ok (.iload_n 2, 1) := by decide +kernel
theorem dX8_fewestSteps_59 : decode cX8_fewestSteps 59 = .ok (.if_icmp .ge 19, 3) := by decide +kernel
theorem dX8_fewestSteps_62 : decode cX8_fewestSteps 62 = .ok (.bipush 10, 2) := by decide +kernel
theorem dX8_fewestSteps_64 : decode cX8_fewestSteps 64 = .ok (.iload_n 3, 1) := by decide +kernel
theorem dX8_fewestSteps_65 : decode cX8_fewestSteps 65 = .ok (.imul, 1) := by decide +kernel
theorem dX8_fewestSteps_66 : decode cX8_fewestSteps 66 = .ok (.iload 4, 2) := by decide +kernel
theorem dX8_fewestSteps_68 : decode cX8_fewestSteps 68 = .ok (.iadd, 1) := by decide +kernel
theorem dX8_fewestSteps_69 : decode cX8_fewestSteps 69 = .ok (.istore_n 1, 1) := by decide +kernel
theorem dX8_fewestSteps_70 : decode cX8_fewestSteps 70 = .ok (.aload_n 0, 1) := by decide +kernel
theorem dX8_fewestSteps_71 : decode cX8_fewestSteps 71 = .ok (.getfield 48, 3) := by decide +kernel
theorem dX8_fewestSteps_74 : decode cX8_fewestSteps 74 = .ok (.getfield 188, 3) := by decide +kernel
theorem dX8_fewestSteps_77 : decode cX8_fewestSteps 77 = .ok (.istore_n 2, 1) := by decide +kernel
theorem dX8_fewestSteps_78 : decode cX8_fewestSteps 78 = .ok (.iinc 4 1, 3) := by decide +kernel
theorem dX8_fewestSteps_81 : decode cX8_fewestSteps 81 = .ok (.goto (-52), 3) := by decide +kernel
theorem dX8_fewestSteps_84 : decode cX8_fewestSteps 84 = .ok (.iinc 3 1, 3) := by decide +kernel
theorem dX8_fewestSteps_87 : decode cX8_fewestSteps 87 = .ok (.goto (-66), 3) := by decide +kernel
theorem dX8_fewestSteps_90 : decode cX8_fewestSteps 90 = .ok (.iload_n 1, 1) := by decide +kernel
theorem dX8_fewestSteps_91 : decode cX8_fewestSteps 91 = .ok (.ireturn, 1) := by decide +kernel
theorem dX8_isOrder_0 : decode cX8_isOrder 0 = .ok (.iload_n 1, 1) := by decide +kernel
theorem dX8_isOrder_1 : decode cX8_isOrder 1 = .ok (.tableswitch 88 0 3 #[31, 44, 57, 31], 31) := by decide +kernel
theorem dX8_isOrder_32 : decode cX8_isOrder 32 = .ok (.aload_n 0, 1) := by decide +kernel
theorem dX8_isOrder_33 : decode cX8_isOrder 33 = .ok (.getfield 14, 3) := by decide +kernel
theorem dX8_isOrder_36 : decode cX8_isOrder 36 = .ok (.getfield 61, 3) := by decide +kernel
theorem dX8_isOrder_39 : decode cX8_isOrder 39 = .ok (.iconst 0, 1) := by decide +kernel
theorem dX8_isOrder_40 : decode cX8_isOrder 40 = .ok (.iload_n 2, 1) := by decide +kernel
theorem dX8_isOrder_41 : decode cX8_isOrder 41 = .ok (.invokevirtual 64, 3) := by decide +kernel
theorem dX8_isOrder_44 : decode cX8_isOrder 44 = .ok (.ireturn, 1) := by decide +kernel
theorem dX8_isOrder_45 : decode cX8_isOrder 45 = .ok (.aload_n 0, 1) := by decide +kernel
theorem dX8_isOrder_46 : decode cX8_isOrder 46 = .ok (.getfield 14, 3) := by decide +kernel
theorem dX8_isOrder_49 : decode cX8_isOrder 49 = .ok (.getfield 61, 3) := by decide +kernel
theorem dX8_isOrder_52 : decode cX8_isOrder 52 = .ok (.iconst 1, 1) := by decide +kernel
theorem dX8_isOrder_53 : decode cX8_isOrder 53 = .ok (.iload_n 2, 1) := by decide +kernel
theorem dX8_isOrder_54 : decode cX8_isOrder 54 = .ok (.invokevirtual 64, 3) := by decide +kernel
theorem dX8_isOrder_57 : decode cX8_isOrder 57 = .ok (.ireturn, 1) := by decide +kernel
theorem dX8_isOrder_58 : decode cX8_isOrder 58 = .ok (.iload_n 2, 1) := by decide +kernel
theorem dX8_isOrder_59 : decode cX8_isOrder 59 = .ok (.ifCond .lt 28, 3) := by decide +kernel
theorem dX8_isOrder_62 : decode cX8_isOrder 62 = .ok (.aload_n 0, 1) := by decide +kernel
theorem dX8_isOrder_63 : decode cX8_isOrder 63 = .ok (.getfield 14, 3) := by decide +kernel
theorem dX8_isOrder_66 : decode cX8_isOrder 66 = .ok (.getfield 61, 3) := by decide +kernel
theorem dX8_isOrder_69 : decode cX8_isOrder 69 = .ok (.iload_n 2, 1) := by decide +kernel
theorem dX8_isOrder_70 : decode cX8_isOrder 70 = .ok (.bipush 10, 2) := by decide +kernel
theorem dX8_isOrder_72 : decode cX8_isOrder 72 = .ok (.idiv, 1) := by decide +kernel
theorem dX8_isOrder_73 : decode cX8_isOrder 73 = .ok (.iload_n 2, 1) := by decide +kernel
theorem dX8_isOrder_74 : decode cX8_isOrder 74 = .ok (.bipush 10, 2) := by decide +kernel
theorem dX8_isOrder_76 : decode cX8_isOrder 76 = .ok (.irem, 1) := by decide +kernel
theorem dX8_isOrder_77 : decode cX8_isOrder 77 = .ok (.invokevirtual 71, 3) := by decide +kernel
theorem dX8_isOrder_80 : decode cX8_isOrder 80 = .ok (.ifCond .eq 7, 3) := by decide +kernel
theorem dX8_isOrder_83 : decode cX8_isOrder 83 = .ok (.iconst 1, 1) := by decide +kernel
theorem dX8_isOrder_84 : decode cX8_isOrder 84 = .ok (.goto 4, 3) := by decide +kernel
theorem dX8_isOrder_87 : decode cX8_isOrder 87 = .ok (.iconst 0, 1) := by decide +kernel
theorem dX8_isOrder_88 : decode cX8_isOrder 88 = .ok (.ireturn, 1) := by decide +kernel
theorem dX8_isOrder_89 : decode cX8_isOrder 89 = .ok (.iconst 0, 1) := by decide +kernel
theorem dX8_isOrder_90 : decode cX8_isOrder 90 = .ok (.ireturn, 1) := by decide +kernel
theorem dX8_fractionPart_0 : decode cX8_fractionPart 0 = .ok (.iload_n 0, 1) := by decide +kernel
theorem dX8_fractionPart_1 : decode cX8_fractionPart 1 = .ok (.iload_n 1, 1) := by decide +kernel
theorem dX8_fractionPart_2 : decode cX8_fractionPart 2 = .ok (.invokestatic 341, 3) := by decide +kernel
theorem dX8_fractionPart_5 : decode cX8_fractionPart 5 = .ok (.istore_n 3, 1) := by decide +kernel
theorem dX8_fractionPart_6 : decode cX8_fractionPart 6 = .ok (.iload_n 1, 1) := by decide +kernel
theorem dX8_fractionPart_7 : decode cX8_fractionPart 7 = .ok (.ifCond .le 7, 3) := by decide +kernel
theorem dX8_fractionPart_10 : decode cX8_fractionPart 10 = .ok (.iload_n 3, 1) := by decide +kernel
theorem dX8_fractionPart_11 : decode cX8_fractionPart 11 = .ok (.ifCond .gt 7, 3) := by decide +kernel
theorem dX8_fractionPart_14 : decode cX8_fractionPart 14 = .ok (.ldc2_w 147, 3) := by decide +kernel
theorem dX8_fractionPart_17 : decode cX8_fractionPart 17 = .ok (.lreturn, 1) := by decide +kernel
theorem dX8_fractionPart_18 : decode cX8_fractionPart 18 = .ok (.iload_n 2, 1) := by decide +kernel
theorem dX8_fractionPart_19 : decode cX8_fractionPart 19 = .ok (.ifCond .ne 7, 3) := by decide +kernel
theorem dX8_fractionPart_22 : decode cX8_fractionPart 22 = .ok (.iload_n 0, 1) := by decide +kernel
theorem dX8_fractionPart_23 : decode cX8_fractionPart 23 = .ok (.goto 4, 3) := by decide +kernel
theorem dX8_fractionPart_26 : decode cX8_fractionPart 26 = .ok (.iload_n 1, 1) := by decide +kernel
theorem dX8_fractionPart_27 : decode cX8_fractionPart 27 = .ok (.iload_n 3, 1) := by decide +kernel
theorem dX8_fractionPart_28 : decode cX8_fractionPart 28 = .ok (.idiv, 1) := by decide +kernel
theorem dX8_fractionPart_29 : decode cX8_fractionPart 29 = .ok (.i2l, 1) := by decide +kernel
theorem dX8_fractionPart_30 : decode cX8_fractionPart 30 = .ok (.lreturn, 1) := by decide +kernel
theorem dX8_commonDivisor_0 : decode cX8_commonDivisor 0 = .ok (.iconst 0, 1) := by decide +kernel
theorem dX8_commonDivisor_1 : decode cX8_commonDivisor 1 = .ok (.istore_n 2, 1) := by decide +kernel
theorem dX8_commonDivisor_2 : decode cX8_commonDivisor 2 = .ok (.iload_n 2, 1) := by decide +kernel
theorem dX8_commonDivisor_3 : decode cX8_commonDivisor 3 = .ok (.bipush 100, 2) := by decide +kernel
theorem dX8_commonDivisor_5 : decode cX8_commonDivisor 5 = .ok (.if_icmp .ge 21, 3) := by decide +kernel
theorem dX8_commonDivisor_8 : decode cX8_commonDivisor 8 = .ok (.iload_n 1, 1) := by decide +kernel
theorem dX8_commonDivisor_9 : decode cX8_commonDivisor 9 = .ok (.ifCond .eq 17, 3) := by decide +kernel
theorem dX8_commonDivisor_12 : decode cX8_commonDivisor 12 = .ok (.iload_n 0, 1) := by decide +kernel
theorem dX8_commonDivisor_13 : decode cX8_commonDivisor 13 = .ok (.iload_n 1, 1) := by decide +kernel
theorem dX8_commonDivisor_14 : decode cX8_commonDivisor 14 = .ok (.irem, 1) := by decide +kernel
theorem dX8_commonDivisor_15 : decode cX8_commonDivisor 15 = .ok (.istore_n 3, 1) := by decide +kernel
theorem dX8_commonDivisor_16 : decode cX8_commonDivisor 16 = .ok (.iload_n 1, 1) := by decide +kernel
theorem dX8_commonDivisor_17 : decode cX8_commonDivisor 17 = .ok (.istore_n 0, 1) := by decide +kernel
theorem dX8_commonDivisor_18 : decode cX8_commonDivisor 18 = .ok (.iload_n 3, 1) := by decide +kernel
theorem dX8_commonDivisor_19 : decode cX8_commonDivisor 19 = .ok (.istore_n 1, 1) := by decide +kernel
theorem dX8_commonDivisor_20 : decode cX8_commonDivisor 20 = .ok (.iinc 2 1, 3) := by decide +kernel
theorem dX8_commonDivisor_23 : decode cX8_commonDivisor 23 = .ok (.goto (-21), 3) := by decide +kernel
theorem dX8_commonDivisor_26 : decode cX8_commonDivisor 26 = .ok (.iload_n 0, 1) := by decide +kernel
theorem dX8_commonDivisor_27 : decode cX8_commonDivisor 27 = .ok (.ireturn, 1) := by decide +kernel
theorem dX9_init_0 : decode cX9_init 0 = .ok (.aload_n 0, 1) := by decide +kernel
theorem dX9_init_1 : decode cX9_init 1 = .ok (.invokespecial 3, 3) := by decide +kernel
theorem dX9_init_4 : decode cX9_init 4 = .ok (.aload_n 0, 1) := by decide +kernel
theorem dX9_init_5 : decode cX9_init 5 = .ok (.bipush 10, 2) := by decide +kernel
theorem dX9_init_7 : decode cX9_init 7 = .ok (.newarray .int, 2) := by decide +kernel
theorem dX9_init_9 : decode cX9_init 9 = .ok (.putfield 11, 3) := by decide +kernel
theorem dX9_init_12 : decode cX9_init 12 = .ok (.aload_n 0, 1) := by decide +kernel
theorem dX9_init_13 : decode cX9_init 13 = .ok (.bipush 10, 2) := by decide +kernel
theorem dX9_init_15 : decode cX9_init 15 = .ok (.newarray .int, 2) := by decide +kernel
theorem dX9_init_17 : decode cX9_init 17 = .ok (.putfield 15, 3) := by decide +kernel
theorem dX9_init_20 : decode cX9_init 20 = .ok (.aload_n 0, 1) := by decide +kernel
theorem dX9_init_21 : decode cX9_init 21 = .ok (.bipush 25, 2) := by decide +kernel
theorem dX9_init_23 : decode cX9_init 23 = .ok (.newarray .int, 2) := by decide +kernel
theorem dX9_init_25 : decode cX9_init 25 = .ok (.putfield 18, 3) := by decide +kernel
theorem dX9_init_28 : decode cX9_init 28 = .ok (.aload_n 0, 1) := by decide +kernel
theorem dX9_init_29 : decode cX9_init 29 = .ok (.bipush 25, 2) := by decide +kernel
theorem dX9_init_31 : decode cX9_init 31 = .ok (.newarray .int, 2) := by decide +kernel
theorem dX9_init_33 : decode cX9_init 33 = .ok (.putfield 21, 3) := by decide +kernel
theorem dX9_init_36 : decode cX9_init 36 = .ok (.aload_n 0, 1) := by decide +kernel
theorem dX9_init_37 : decode cX9_init 37 = .ok (.bipush 36, 2) := by decide +kernel
theorem dX9_init_39 : decode cX9_init 39 = .ok (.newarray .int, 2) := by decide +kernel
theorem dX9_init_41 : decode cX9_init 41 = .ok (.putfield 24, 3) := by decide +kernel
theorem dX9_init_44 : decode cX9_init 44 = .ok (.aload_n 0, 1) := by decide +kernel
theorem dX9_init_45 : decode cX9_init 45 = .ok (.bipush 36, 2) := by decide +kernel
theorem dX9_init_47 : decode cX9_init 47 = .ok (.newarray .int, 2) := by decide +kernel
theorem dX9_init_49 : decode cX9_init 49 = .ok (.putfield 27, 3) := by decide +kernel
theorem dX9_init_52 : decode cX9_init 52 = .ok (.aload_n 0, 1) := by decide +kernel
theorem dX9_init_53 : decode cX9_init 53 = .ok (.bipush 36, 2) := by decide +kernel
theorem dX9_init_55 : decode cX9_init 55 = .ok (.newarray .int, 2) := by decide +kernel
theorem dX9_init_57 : decode cX9_init 57 = .ok (.putfield 30, 3) := by decide +kernel
theorem dX9_init_60 : decode cX9_init 60 = .ok (.aload_n 0, 1) := by decide +kernel
theorem dX9_init_61 : decode cX9_init 61 = .ok (.sipush 300, 3) := by decide +kernel
theorem dX9_init_64 : decode cX9_init 64 = .ok (.newarray .int, 2) := by decide +kernel
theorem dX9_init_66 : decode cX9_init 66 = .ok (.putfield 33, 3) := by decide +kernel
theorem dX9_init_69 : decode cX9_init 69 = .ok (.aload_n 0, 1) := by decide +kernel
theorem dX9_init_70 : decode cX9_init 70 = .ok (.iconst 5, 1) := by decide +kernel
theorem dX9_init_71 : decode cX9_init 71 = .ok (.newarray .int, 2) := by decide +kernel
theorem dX9_init_73 : decode cX9_init 73 = .ok (.putfield 36, 3) := by decide +kernel
theorem dX9_init_76 : decode cX9_init 76 = .ok (.aload_n 0, 1) := by decide +kernel
theorem dX9_init_77 : decode cX9_init 77 = .ok (.iconst 5, 1) := by decide +kernel
theorem dX9_init_78 : decode cX9_init 78 = .ok (.newarray .int, 2) := by decide +kernel
theorem dX9_init_80 : decode cX9_init 80 = .ok (.putfield 39, 3) := by decide +kernel
theorem dX9_init_83 : decode cX9_init 83 = .ok (.aload_n 0, 1) := by decide +kernel
theorem dX9_init_84 : decode cX9_init 84 = .ok (.bipush 8, 2) := by decide +kernel
theorem dX9_init_86 : decode cX9_init 86 = .ok (.newarray .int, 2) := by decide +kernel
theorem dX9_init_88 : decode cX9_init 88 = .ok (.putfield 42, 3) := by decide +kernel
theorem dX9_init_91 : decode cX9_init 91 = .ok (.aload_n 0, 1) := by decide +kernel
theorem dX9_init_92 : decode cX9_init 92 = .ok (.bipush 8, 2) := by decide +kernel
theorem dX9_init_94 : decode cX9_init 94 = .ok (.newarray .int, 2) := by decide +kernel
theorem dX9_init_96 : decode cX9_init 96 = .ok (.putfield 45, 3) := by decide +kernel
theorem dX9_init_99 : decode cX9_init 99 = .ok (.aload_n 0, 1) := by decide +kernel
theorem dX9_init_100 : decode cX9_init 100 = .ok (.bipush 8, 2) := by decide +kernel
theorem dX9_init_102 : decode cX9_init 102 = .ok (.newarray .int, 2) := by decide +kernel
theorem dX9_init_104 : decode cX9_init 104 = .ok (.putfield 48, 3) := by decide +kernel
theorem dX9_init_107 : decode cX9_init 107 = .ok (.aload_n 0, 1) := by decide +kernel
theorem dX9_init_108 : decode cX9_init 108 = .ok (.bipush 8, 2) := by decide +kernel
theorem dX9_init_110 : decode cX9_init 110 = .ok (.newarray .int, 2) := by decide +kernel
theorem dX9_init_112 : decode cX9_init 112 = .ok (.putfield 51, 3) := by decide +kernel
theorem dX9_init_115 : decode cX9_init 115 = .ok (.aload_n 0, 1) := by decide +kernel
theorem dX9_init_116 : decode cX9_init 116 = .ok (.bipush 100, 2) := by decide +kernel
theorem dX9_init_118 : decode cX9_init 118 = .ok (.newarray .int, 2) := by decide +kernel
theorem dX9_init_120 : decode cX9_init 120 = .ok (.putfield 54, 3) := by decide +kernel
theorem dX9_init_123 : decode cX9_init 123 = .ok (.aload_n 0, 1) := by decide +kernel
theorem dX9_init_124 : decode cX9_init 124 = .ok (.sipush 640, 3) := by decide +kernel
theorem dX9_init_127 : decode cX9_init 127 = .ok (.newarray .int, 2) := by decide +kernel
theorem dX9_init_129 : decode cX9_init 129 = .ok (.putfield 57, 3) := by decide +kernel
theorem dX9_init_132 : decode cX9_init 132 = .ok (.aload_n 0, 1) := by decide +kernel
theorem dX9_init_133 : decode cX9_init 133 = .ok (.sipush 411, 3) := by decide +kernel
theorem dX9_init_136 : decode cX9_init 136 = .ok (.newarray .int, 2) := by decide +kernel
theorem dX9_init_138 : decode cX9_init 138 = .ok (.putfield 60, 3) := by decide +kernel
theorem dX9_init_141 : decode cX9_init 141 = .ok (.aload_n 0, 1) := by decide +kernel
theorem dX9_init_142 : decode cX9_init 142 = .ok (.bipush 12, 2) := by decide +kernel
theorem dX9_init_144 : decode cX9_init 144 = .ok (.newarray .int, 2) := by decide +kernel
theorem dX9_init_146 : decode cX9_init 146 = .ok (.putfield 63, 3) := by decide +kernel
theorem dX9_init_149 : decode cX9_init 149 = .ok (.aload_n 0, 1) := by decide +kernel
theorem dX9_init_150 : decode cX9_init 150 = .ok (.bipush 12, 2) := by decide +kernel
theorem dX9_init_152 : decode cX9_init 152 = .ok (.newarray .boolean, 2) := by decide +kernel
theorem dX9_init_154 : decode cX9_init 154 = .ok (.putfield 66, 3) := by decide +kernel
theorem dX9_init_157 : decode cX9_init 157 = .ok (.aload_n 0, 1) := by decide +kernel
theorem dX9_init_158 : decode cX9_init 158 = .ok (.bipush 12, 2) := by decide +kernel
theorem dX9_init_160 : decode cX9_init 160 = .ok (.newarray .int, 2) := by decide +kernel
theorem dX9_init_162 : decode cX9_init 162 = .ok (.putfield 70, 3) := by decide +kernel
theorem dX9_init_165 : decode cX9_init 165 = .ok (.aload_n 0, 1) := by decide +kernel
theorem dX9_init_166 : decode cX9_init 166 = .ok (.bipush 12, 2) := by decide +kernel
theorem dX9_init_168 : decode cX9_init 168 = .ok (.newarray .boolean, 2) := by decide +kernel
theorem dX9_init_170 : decode cX9_init 170 = .ok (.putfield 73, 3) := by decide +kernel
theorem dX9_init_173 : decode cX9_init 173 = .ok (.aload_n 0, 1) := by decide +kernel
theorem dX9_init_174 : decode cX9_init 174 = .ok (.bipush 36, 2) := by decide +kernel
theorem dX9_init_176 : decode cX9_init 176 = .ok (.newarray .boolean, 2) := by decide +kernel
theorem dX9_init_178 : decode cX9_init 178 = .ok (.putfield 76, 3) := by decide +kernel
theorem dX9_init_181 : decode cX9_init 181 = .ok (.aload_n 0, 1) := by decide +kernel
theorem dX9_init_182 : decode cX9_init 182 = .ok (.bipush 12, 2) := by decide +kernel
theorem dX9_init_184 : decode cX9_init 184 = .ok (.newarray .int, 2) := by decide +kernel
theorem dX9_init_186 : decode cX9_init 186 = .ok (.putfield 79, 3) := by decide +kernel
theorem dX9_init_189 : decode cX9_init 189 = .ok (.aload_n 0, 1) := by decide +kernel
theorem dX9_init_190 : decode cX9_init 190 = .ok (.bipush 12, 2) := by decide +kernel
theorem dX9_init_192 : decode cX9_init 192 = .ok (.newarray .int, 2) := by decide +kernel
theorem dX9_init_194 : decode cX9_init 194 = .ok (.putfield 82, 3) := by decide +kernel
theorem dX9_init_197 : decode cX9_init 197 = .ok (.aload_n 0, 1) := by decide +kernel
theorem dX9_init_198 : decode cX9_init 198 = .ok (.bipush 10, 2) := by decide +kernel
theorem dX9_init_200 : decode cX9_init 200 = .ok (.newarray .int, 2) := by decide +kernel
theorem dX9_init_202 : decode cX9_init 202 = .ok (.putfield 85, 3) := by decide +kernel
theorem dX9_init_205 : decode cX9_init 205 = .ok (.aload_n 0, 1) := by decide +kernel
theorem dX9_init_206 : decode cX9_init 206 = .ok (.bipush 10, 2) := by decide +kernel
theorem dX9_init_208 : decode cX9_init 208 = .ok (.newarray .int, 2) := by decide +kernel
theorem dX9_init_210 : decode cX9_init 210 = .ok (.putfield 88, 3) := by decide +kernel
theorem dX9_init_213 : decode cX9_init 213 = .ok (.aload_n 0, 1) := by decide +kernel
theorem dX9_init_214 : decode cX9_init 214 = .ok (.bipush 25, 2) := by decide +kernel
theorem dX9_init_216 : decode cX9_init 216 = .ok (.newarray .int, 2) := by decide +kernel
theorem dX9_init_218 : decode cX9_init 218 = .ok (.putfield 91, 3) := by decide +kernel
theorem dX9_init_221 : decode cX9_init 221 = .ok (.aload_n 0, 1) := by decide +kernel
theorem dX9_init_222 : decode cX9_init 222 = .ok (.bipush 6, 2) := by decide +kernel
theorem dX9_init_224 : decode cX9_init 224 = .ok (.bipush 60, 2) := by decide +kernel
theorem dX9_init_226 : decode cX9_init 226 = .ok (.multianewarray 94 2, 4) := by decide +kernel
theorem dX9_init_230 : decode cX9_init 230 = .ok (.putfield 96, 3) := by decide +kernel
theorem dX9_init_233 : decode cX9_init 233 = .ok (.aload_n 0, 1) := by decide +kernel
theorem dX9_init_234 : decode cX9_init 234 = .ok (.bipush 6, 2) := by decide +kernel
theorem dX9_init_236 : decode cX9_init 236 = .ok (.newarray .int, 2) := by decide +kernel
theorem dX9_init_238 : decode cX9_init 238 = .ok (.dup, 1) := by decide +kernel
theorem dX9_init_239 : decode cX9_init 239 = .ok (.iconst 0, 1) := by decide +kernel
theorem dX9_init_240 : decode cX9_init 240 = .ok (.iconst (-1), 1) := by decide +kernel
theorem dX9_init_241 : decode cX9_init 241 = .ok (.iastore, 1) := by decide +kernel
theorem dX9_init_242 : decode cX9_init 242 = .ok (.dup, 1) := by decide +kernel
theorem dX9_init_243 : decode cX9_init 243 = .ok (.iconst 1, 1) := by decide +kernel
theorem dX9_init_244 : decode cX9_init 244 = .ok (.iconst (-1), 1) := by decide +kernel
theorem dX9_init_245 : decode cX9_init 245 = .ok (.iastore, 1) := by decide +kernel
theorem dX9_init_246 : decode cX9_init 246 = .ok (.dup, 1) := by decide +kernel
theorem dX9_init_247 : decode cX9_init 247 = .ok (.iconst 2, 1) := by decide +kernel
theorem dX9_init_248 : decode cX9_init 248 = .ok (.iconst (-1), 1) := by decide +kernel
theorem dX9_init_249 : decode cX9_init 249 = .ok (.iastore, 1) := by decide +kernel
theorem dX9_init_250 : decode cX9_init 250 = .ok (.dup, 1) := by decide +kernel
theorem dX9_init_251 : decode cX9_init 251 = .ok (.iconst 3, 1) := by decide +kernel
theorem dX9_init_252 : decode cX9_init 252 = .ok (.iconst (-1), 1) := by decide +kernel
theorem dX9_init_253 : decode cX9_init 253 = .ok (.iastore, 1) := by decide +kernel
theorem dX9_init_254 : decode cX9_init 254 = .ok (.dup, 1) := by decide +kernel
theorem dX9_init_255 : decode cX9_init 255 = .ok (.iconst 4, 1) := by decide +kernel
theorem dX9_init_256 : decode cX9_init 256 = .ok (.iconst (-1), 1) := by decide +kernel
theorem dX9_init_257 : decode cX9_init 257 = .ok (.iastore, 1) := by decide +kernel
theorem dX9_init_258 : decode cX9_init 258 = .ok (.dup, 1) := by decide +kernel
theorem dX9_init_259 : decode cX9_init 259 = .ok (.iconst 5, 1) := by decide +kernel
theorem dX9_init_260 : decode cX9_init 260 = .ok (.iconst (-1), 1) := by decide +kernel
theorem dX9_init_261 : decode cX9_init 261 = .ok (.iastore, 1) := by decide +kernel
theorem dX9_init_262 : decode cX9_init 262 = .ok (.putfield 99, 3) := by decide +kernel
theorem dX9_init_265 : decode cX9_init 265 = .ok (.aload_n 0, 1) := by decide +kernel
theorem dX9_init_266 : decode cX9_init 266 = .ok (.bipush 6, 2) := by decide +kernel
theorem dX9_init_268 : decode cX9_init 268 = .ok (.newarray .int, 2) := by decide +kernel
theorem dX9_init_270 : decode cX9_init 270 = .ok (.putfield 102, 3) := by decide +kernel
theorem dX9_init_273 : decode cX9_init 273 = .ok (.aload_n 0, 1) := by decide +kernel
theorem dX9_init_274 : decode cX9_init 274 = .ok (.bipush 60, 2) := by decide +kernel
theorem dX9_init_276 : decode cX9_init 276 = .ok (.newarray .long, 2) := by decide +kernel
theorem dX9_init_278 : decode cX9_init 278 = .ok (.putfield 105, 3) := by decide +kernel
theorem dX9_init_281 : decode cX9_init 281 = .ok (.iconst 0, 1) := by decide +kernel
theorem dX9_init_282 : decode cX9_init 282 = .ok (.istore_n 1, 1) := by decide +kernel
theorem dX9_init_283 : decode cX9_init 283 = .ok (.iload_n 1, 1) := by decide +kernel
theorem dX9_init_284 : decode cX9_init 284 = .ok (.bipush 25, 2) := by decide +kernel
theorem dX9_init_286 : decode cX9_init 286 = .ok (.if_icmp .ge 17, 3) := by decide +kernel
theorem dX9_init_289 : decode cX9_init 289 = .ok (.aload_n 0, 1) := by decide +kernel
theorem dX9_init_290 : decode cX9_init 290 = .ok (.getfield 21, 3) := by decide +kernel
theorem dX9_init_293 : decode cX9_init 293 = .ok (.iload_n 1, 1) := by decide +kernel
theorem dX9_init_294 : decode cX9_init 294 = .ok (.bipush 10, 2) := by decide +kernel
theorem dX9_init_296 : decode cX9_init 296 = .ok (.iastore, 1) := by decide +kernel
theorem dX9_init_297 : decode cX9_init 297 = .ok (.iinc 1 1, 3) := by decide +kernel
theorem dX9_init_300 : decode cX9_init 300 = .ok (.goto (-17), 3) := by decide +kernel
theorem dX9_init_303 : decode cX9_init 303 = .ok (.return_, 1) := by decide +kernel
theorem dX9_in_0 : decode cX9_in 0 = .ok (.lload_n 0, 1) := by decide +kernel
theorem dX9_in_1 : decode cX9_in 1 = .ok (.lload_n 2, 1) := by decide +kernel
theorem dX9_in_2 : decode cX9_in 2 = .ok (.lcmp, 1) := by decide +kernel
theorem dX9_in_3 : decode cX9_in 3 = .ok (.ifCond .lt 14, 3) := by decide +kernel
theorem dX9_in_6 : decode cX9_in 6 = .ok (.lload_n 0, 1) := by decide +kernel
theorem dX9_in_7 : decode cX9_in 7 = .ok (.lload 4, 2) := by decide +kernel
theorem dX9_in_9 : decode cX9_in 9 = .ok (.lcmp, 1) := by decide +kernel
theorem dX9_in_10 : decode cX9_in 10 = .ok (.ifCond .gt 7, 3) := by decide +kernel
theorem dX9_in_13 : decode cX9_in 13 = .ok (.iconst 1, 1) := by decide +kernel
theorem dX9_in_14 : decode cX9_in 14 = .ok (.goto 4, 3) := by decide +kernel
theorem dX9_in_17 : decode cX9_in 17 = .ok (.iconst 0, 1) := by decide +kernel
theorem dX9_in_18 : decode cX9_in 18 = .ok (.ireturn, 1) := by decide +kernel
theorem dX9_many_0 : decode cX9_many 0 = .ok (.iload_n 1, 1) := by decide +kernel
theorem dX9_many_1 : decode cX9_many 1 = .ok (.ifCond .ne 10, 3) := by decide +kernel
theorem dX9_many_4 : decode cX9_many 4 = .ok (.aload_n 0, 1) := by decide +kernel
theorem dX9_many_5 : decode cX9_many 5 = .ok (.getfield 109, 3) := by decide +kernel
theorem dX9_many_8 : decode cX9_many 8 = .ok (.goto 7, 3) := by decide +kernel
theorem dX9_many_11 : decode cX9_many 11 = .ok (.aload_n 0, 1) := by decide +kernel
theorem dX9_many_12 : decode cX9_many 12 = .ok (.getfield 113, 3) := by decide +kernel
theorem dX9_many_15 : decode cX9_many 15 = .ok (.ireturn, 1) := by decide +kernel
theorem dX9_isRoad_0 : decode cX9_isRoad 0 = .ok (.iload_n 1, 1) := by decide +kernel
theorem dX9_isRoad_1 : decode cX9_isRoad 1 = .ok (.i2l, 1) := by decide +kernel
theorem dX9_isRoad_2 : decode cX9_isRoad 2 = .ok (.lconst 0, 1) := by decide +kernel
theorem dX9_isRoad_3 : decode cX9_isRoad 3 = .ok (.aload_n 0, 1) := by decide +kernel
theorem dX9_isRoad_4 : decode cX9_isRoad 4 = .ok (.getfield 109, 3) := by decide +kernel
theorem dX9_isRoad_7 : decode cX9_isRoad 7 = .ok (.iconst 1, 1) := by decide +kernel
theorem dX9_isRoad_8 : decode cX9_isRoad 8 = .ok (.isub, 1) := by decide +kernel
theorem dX9_isRoad_9 : decode cX9_isRoad 9 = .ok (.i2l, 1) := by decide +kernel
theorem dX9_isRoad_10 : decode cX9_isRoad 10 = .ok (.invokestatic 116, 3) := by decide +kernel
theorem dX9_isRoad_13 : decode cX9_isRoad 13 = .ok (.ifCond .eq 23, 3) := by decide +kernel
theorem dX9_isRoad_16 : decode cX9_isRoad 16 = .ok (.iload_n 2, 1) := by decide +kernel
theorem dX9_isRoad_17 : decode cX9_isRoad 17 = .ok (.i2l, 1) := by decide +kernel
theorem dX9_isRoad_18 : decode cX9_isRoad 18 = .ok (.lconst 0, 1) := by decide +kernel
theorem dX9_isRoad_19 : decode cX9_isRoad 19 = .ok (.aload_n 0, 1) := by decide +kernel
theorem dX9_isRoad_20 : decode cX9_isRoad 20 = .ok (.getfield 113, 3) := by decide +kernel
theorem dX9_isRoad_23 : decode cX9_isRoad 23 = .ok (.iconst 1, 1) := by decide +kernel
theorem dX9_isRoad_24 : decode cX9_isRoad 24 = .ok (.isub, 1) := by decide +kernel
theorem dX9_isRoad_25 : decode cX9_isRoad 25 = .ok (.i2l, 1) := by decide +kernel
theorem dX9_isRoad_26 : decode cX9_isRoad 26 = .ok (.invokestatic 116, 3) := by decide +kernel
theorem dX9_isRoad_29 : decode cX9_isRoad 29 = .ok (.ifCond .eq 7, 3) := by decide +kernel
theorem dX9_isRoad_32 : decode cX9_isRoad 32 = .ok (.iconst 1, 1) := by decide +kernel
theorem dX9_isRoad_33 : decode cX9_isRoad 33 = .ok (.goto 4, 3) := by decide +kernel
theorem dX9_isRoad_36 : decode cX9_isRoad 36 = .ok (.iconst 0, 1) := by decide +kernel
theorem dX9_isRoad_37 : decode cX9_isRoad 37 = .ok (.ireturn, 1) := by decide +kernel
theorem dX9_isSpelled_0 : decode cX9_isSpelled 0 = .ok (.iload_n 1, 1) := by decide +kernel
theorem dX9_isSpelled_1 : decode cX9_isSpelled 1 = .ok (.ifCond .lt 22, 3) := by decide +kernel
theorem dX9_isSpelled_4 : decode cX9_isSpelled 4 = .ok (.aload_n 0, 1) := by decide +kernel
theorem dX9_isSpelled_5 : decode cX9_isSpelled 5 = .ok (.iload_n 1, 1) := by decide +kernel
theorem dX9_isSpelled_6 : decode cX9_isSpelled 6 = .ok (.bipush 10, 2) := by decide +kernel
theorem dX9_isSpelled_8 : decode cX9_isSpelled 8 = .ok (.idiv, 1) := by decide +kernel
theorem dX9_isSpelled_9 : decode cX9_isSpelled 9 = .ok (.iload_n 1, 1) := by decide +kernel
theorem dX9_isSpelled_10 : decode cX9_isSpelled 10 = .ok (.bipush 10, 2) := by decide +kernel
theorem dX9_isSpelled_12 : decode cX9_isSpelled 12 = .ok (.irem, 1) := by decide +kernel
theorem dX9_isSpelled_13 : decode cX9_isSpelled 13 = .ok (.invokevirtual 120, 3) := by decide +kernel
theorem dX9_isSpelled_16 : decode cX9_isSpelled 16 = .ok (.ifCond .eq 7, 3) := by decide +kernel
theorem dX9_isSpelled_19 : decode cX9_isSpelled 19 = .ok (.iconst 1, 1) := by decide +kernel
theorem dX9_isSpelled_20 : decode cX9_isSpelled 20 = .ok (.goto 4, 3) := by decide +kernel
theorem dX9_isSpelled_23 : decode cX9_isSpelled 23 = .ok (.iconst 0, 1) := by decide +kernel
theorem dX9_isSpelled_24 : decode cX9_isSpelled 24 = .ok (.ireturn, 1) := by decide +kernel
theorem dX9_isCell_0 : decode cX9_isCell 0 = .ok (.iload_n 1, 1) := by decide +kernel
theorem dX9_isCell_1 : decode cX9_isCell 1 = .ok (.i2l, 1) := by decide +kernel
theorem dX9_isCell_2 : decode cX9_isCell 2 = .ok (.lconst 0, 1) := by decide +kernel
theorem dX9_isCell_3 : decode cX9_isCell 3 = .ok (.aload_n 0, 1) := by decide +kernel
theorem dX9_isCell_4 : decode cX9_isCell 4 = .ok (.getfield 124, 3) := by decide +kernel
theorem dX9_isCell_7 : decode cX9_isCell 7 = .ok (.iconst 1, 1) := by decide +kernel
theorem dX9_isCell_8 : decode cX9_isCell 8 = .ok (.isub, 1) := by decide +kernel
theorem dX9_isCell_9 : decode cX9_isCell 9 = .ok (.i2l, 1) := by decide +kernel
theorem dX9_isCell_10 : decode cX9_isCell 10 = .ok (.invokestatic 116, 3) := by decide +kernel
theorem dX9_isCell_13 : decode cX9_isCell 13 = .ok (.ifCond .eq 23, 3) := by decide +kernel
theorem dX9_isCell_16 : decode cX9_isCell 16 = .ok (.iload_n 2, 1) := by decide +kernel
theorem dX9_isCell_17 : decode cX9_isCell 17 = .ok (.i2l, 1) := by decide +kernel
theorem dX9_isCell_18 : decode cX9_isCell 18 = .ok (.lconst 0, 1) := by decide +kernel
theorem dX9_isCell_19 : decode cX9_isCell 19 = .ok (.aload_n 0, 1) := by decide +kernel
theorem dX9_isCell_20 : decode cX9_isCell 20 = .ok (.getfield 127, 3) := by decide +kernel
theorem dX9_isCell_23 : decode cX9_isCell 23 = .ok (.iconst 1, 1) := by decide +kernel
theorem dX9_isCell_24 : decode cX9_isCell 24 = .ok (.isub, 1) := by decide +kernel
theorem dX9_isCell_25 : decode cX9_isCell 25 = .ok (.i2l, 1) := by decide +kernel
theorem dX9_isCell_26 : decode cX9_isCell 26 = .ok (.invokestatic 116, 3) := by decide +kernel
theorem dX9_isCell_29 : decode cX9_isCell 29 = .ok (.ifCond .eq 7, 3) := by decide +kernel
theorem dX9_isCell_32 : decode cX9_isCell 32 = .ok (.iconst 1, 1) := by decide +kernel
theorem dX9_isCell_33 : decode cX9_isCell 33 = .ok (.goto 4, 3) := by decide +kernel
theorem dX9_isCell_36 : decode cX9_isCell 36 = .ok (.iconst 0, 1) := by decide +kernel
theorem dX9_isCell_37 : decode cX9_isCell 37 = .ok (.ireturn, 1) := by decide +kernel
theorem dX9_passes_0 : decode cX9_passes 0 = .ok (.aload_n 0, 1) := by decide +kernel
theorem dX9_passes_1 : decode cX9_passes 1 = .ok (.getfield 130, 3) := by decide +kernel
theorem dX9_passes_4 : decode cX9_passes 4 = .ok (.ifCond .eq 7, 3) := by decide +kernel
theorem dX9_passes_7 : decode cX9_passes 7 = .ok (.iload_n 1, 1) := by decide +kernel
theorem dX9_passes_8 : decode cX9_passes 8 = .ok (.goto 12, 3) := by decide +kernel
theorem dX9_passes_11 : decode cX9_passes 11 = .ok (.aload_n 0, 1) := by decide +kernel
theorem dX9_passes_12 : decode cX9_passes 12 = .ok (.getfield 57, 3) := by decide +kernel
theorem dX9_passes_15 : decode cX9_passes 15 = .ok (.aload_n 0, 1) := by decide +kernel
theorem dX9_passes_16 : decode cX9_passes 16 = .ok (.getfield 134, 3) := by decide +kernel
theorem dX9_passes_19 : decode cX9_passes 19 = .ok (.iaload, 1) := by decide +kernel
theorem dX9_passes_20 : decode cX9_passes 20 = .ok (.istore_n 2, 1) := by decide +kernel
theorem dX9_passes_21 : decode cX9_passes 21 = .ok (.aload_n 0, 1) := by decide +kernel
theorem dX9_passes_22 : decode cX9_passes 22 = .ok (.getfield 57, 3) := by decide +kernel
theorem dX9_passes_25 : decode cX9_passes 25 = .ok (.aload_n 0, 1) := by decide +kernel
theorem dX9_passes_26 : decode cX9_passes 26 = .ok (.getfield 134, 3) := by decide +kernel
theorem dX9_passes_29 : decode cX9_passes 29 = .ok (.iload_n 2, 1) := by decide +kernel
theorem dX9_passes_30 : decode cX9_passes 30 = .ok (.iastore, 1) := by decide +kernel
theorem dX9_passes_31 : decode cX9_passes 31 = .ok (.aload_n 0, 1) := by decide +kernel
theorem dX9_passes_32 : decode cX9_passes 32 = .ok (.dup, 1) := by decide +kernel
theorem dX9_passes_33 : decode cX9_passes 33 = .ok (.getfield 134, 3) := by decide +kernel
theorem dX9_passes_36 : decode cX9_passes 36 = .ok (.iconst 1, 1) := by decide +kernel
theorem dX9_passes_37 : decode cX9_passes 37 = .ok (.iadd, 1) := by decide +kernel
theorem dX9_passes_38 : decode cX9_passes 38 = .ok (.putfield 134, 3) := by decide +kernel
theorem dX9_passes_41 : decode cX9_passes 41 = .ok (.iload_n 2, 1) := by decide +kernel
theorem dX9_passes_42 : decode cX9_passes 42 = .ok (.ireturn, 1) := by decide +kernel
theorem dX9_passesRow_0 : decode cX9_passesRow 0 = .ok (.iconst 0, 1) := by decide +kernel
theorem dX9_passesRow_1 : decode cX9_passesRow 1 = .ok (.istore_n 2, 1) := by decide +kernel
theorem dX9_passesRow_2 : decode cX9_passesRow 2 = .ok (.iload_n 2, 1) := by decide +kernel
theorem dX9_passesRow_3 : decode cX9_passesRow 3 = .ok (.aload_n 1, 1) := by decide +kernel
theorem dX9_passesRow_4 : decode cX9_passesRow 4 = .ok (.arraylength, 1) := by decide +kernel
theorem dX9_passesRow_5 : decode cX9_passesRow 5 = .ok (.if_icmp .ge 19, 3) := by decide +kernel
theorem dX9_passesRow_8 : decode cX9_passesRow 8 = .ok (.aload_n 1, 1) := by decide +kernel
theorem dX9_passesRow_9 : decode cX9_passesRow 9 = .ok (.iload_n 2, 1) := by decide +kernel
theorem dX9_passesRow_10 : decode cX9_passesRow 10 = .ok (.aload_n 0, 1) := by decide +kernel
theorem dX9_passesRow_11 : decode cX9_passesRow 11 = .ok (.aload_n 1, 1) := by decide +kernel
theorem dX9_passesRow_12 : decode cX9_passesRow 12 = .ok (.iload_n 2, 1) := by decide +kernel
theorem dX9_passesRow_13 : decode cX9_passesRow 13 = .ok (.iaload, 1) := by decide +kernel
theorem dX9_passesRow_14 : decode cX9_passesRow 14 = .ok (.invokevirtual 137, 3) := by decide +kernel
theorem dX9_passesRow_17 : decode cX9_passesRow 17 = .ok (.iastore, 1) := by decide +kernel
theorem dX9_passesRow_18 : decode cX9_passesRow 18 = .ok (.iinc 2 1, 3) := by decide +kernel
theorem dX9_passesRow_21 : decode cX9_passesRow 21 = .ok (.goto (-19), 3) := by decide +kernel
theorem dX9_passesRow_24 : decode cX9_passesRow 24 = .ok (.return_, 1) := by decide +kernel
theorem dX9_passesAll_0 : decode cX9_passesAll 0 = .ok (.aload_n 0, 1) := by decide +kernel
theorem dX9_passesAll_1 : decode cX9_passesAll 1 = .ok (.iload_n 1, 1) := by decide +kernel
theorem dX9_passesAll_2 : decode cX9_passesAll 2 = .ok (.putfield 130, 3) := by decide +kernel
theorem dX9_passesAll_5 : decode cX9_passesAll 5 = .ok (.aload_n 0, 1) := by decide +kernel
theorem dX9_passesAll_6 : decode cX9_passesAll 6 = .ok (.iconst 0, 1) := by decide +kernel
theorem dX9_passesAll_7 : decode cX9_passesAll 7 = .ok (.putfield 134, 3) := by decide +kernel
theorem dX9_passesAll_10 : decode cX9_passesAll 10 = .ok (.aload_n 0, 1) := by decide +kernel
theorem dX9_passesAll_11 : decode cX9_passesAll 11 = .ok (.aload_n 0, 1) := by decide +kernel
theorem dX9_passesAll_12 : decode cX9_passesAll 12 = .ok (.aload_n 0, 1) := by decide +kernel
theorem dX9_passesAll_13 : decode cX9_passesAll 13 = .ok (.getfield 109, 3) := by decide +kernel
theorem dX9_passesAll_16 : decode cX9_passesAll 16 = .ok (.invokevirtual 137, 3) := by decide +kernel
theorem dX9_passesAll_19 : decode cX9_passesAll 19 = .ok (.putfield 109, 3) := by decide +kernel
theorem dX9_passesAll_22 : decode cX9_passesAll 22 = .ok (.aload_n 0, 1) := by decide +kernel
theorem dX9_passesAll_23 : decode cX9_passesAll 23 = .ok (.aload_n 0, 1) := by decide +kernel
theorem dX9_passesAll_24 : decode cX9_passesAll 24 = .ok (.aload_n 0, 1) := by decide +kernel
theorem dX9_passesAll_25 : decode cX9_passesAll 25 = .ok (.getfield 113, 3) := by decide +kernel
theorem dX9_passesAll_28 : decode cX9_passesAll 28 = .ok (.invokevirtual 137, 3) := by decide +kernel
theorem dX9_passesAll_31 : decode cX9_passesAll 31 = .ok (.putfield 113, 3) := by decide +kernel
theorem dX9_passesAll_34 : decode cX9_passesAll 34 = .ok (.aload_n 0, 1) := by decide +kernel
theorem dX9_passesAll_35 : decode cX9_passesAll 35 = .ok (.aload_n 0, 1) := by decide +kernel
theorem dX9_passesAll_36 : decode cX9_passesAll 36 = .ok (.aload_n 0, 1) := by decide +kernel
theorem dX9_passesAll_37 : decode cX9_passesAll 37 = .ok (.getfield 141, 3) := by decide +kernel
theorem dX9_passesAll_40 : decode cX9_passesAll 40 = .ok (.invokevirtual 137, 3) := by decide +kernel
theorem dX9_passesAll_43 : decode cX9_passesAll 43 = .ok (.putfield 141, 3) := by decide +kernel
theorem dX9_passesAll_46 : decode cX9_passesAll 46 = .ok (.aload_n 0, 1) := by decide +kernel
theorem dX9_passesAll_47 : decode cX9_passesAll 47 = .ok (.aload_n 0, 1) := by decide +kernel
theorem dX9_passesAll_48 : decode cX9_passesAll 48 = .ok (.aload_n 0, 1) := by decide +kernel
theorem dX9_passesAll_49 : decode cX9_passesAll 49 = .ok (.getfield 124, 3) := by decide +kernel
theorem dX9_passesAll_52 : decode cX9_passesAll 52 = .ok (.invokevirtual 137, 3) := by decide +kernel
theorem dX9_passesAll_55 : decode cX9_passesAll 55 = .ok (.putfield 124, 3) := by decide +kernel
theorem dX9_passesAll_58 : decode cX9_passesAll 58 = .ok (.aload_n 0, 1) := by decide +kernel
theorem dX9_passesAll_59 : decode cX9_passesAll 59 = .ok (.aload_n 0, 1) := by decide +kernel
theorem dX9_passesAll_60 : decode cX9_passesAll 60 = .ok (.aload_n 0, 1) := by decide +kernel
theorem dX9_passesAll_61 : decode cX9_passesAll 61 = .ok (.getfield 127, 3) := by decide +kernel
theorem dX9_passesAll_64 : decode cX9_passesAll 64 = .ok (.invokevirtual 137, 3) := by decide +kernel
theorem dX9_passesAll_67 : decode cX9_passesAll 67 = .ok (.putfield 127, 3) := by decide +kernel
theorem dX9_passesAll_70 : decode cX9_passesAll 70 = .ok (.aload_n 0, 1) := by decide +kernel
theorem dX9_passesAll_71 : decode cX9_passesAll 71 = .ok (.aload_n 0, 1) := by decide +kernel
theorem dX9_passesAll_72 : decode cX9_passesAll 72 = .ok (.aload_n 0, 1) := by decide +kernel
theorem dX9_passesAll_73 : decode cX9_passesAll 73 = .ok (.getfield 144, 3) := by decide +kernel
theorem dX9_passesAll_76 : decode cX9_passesAll 76 = .ok (.invokevirtual 137, 3) := by decide +kernel
theorem dX9_passesAll_79 : decode cX9_passesAll 79 = .ok (.putfield 144, 3) := by decide +kernel
theorem dX9_passesAll_82 : decode cX9_passesAll 82 = .ok (.aload_n 0, 1) := by decide +kernel
theorem dX9_passesAll_83 : decode cX9_passesAll 83 = .ok (.aload_n 0, 1) := by decide +kernel
theorem dX9_passesAll_84 : decode cX9_passesAll 84 = .ok (.aload_n 0, 1) := by decide +kernel
theorem dX9_passesAll_85 : decode cX9_passesAll 85 = .ok (.getfield 147, 3) := by decide +kernel
theorem dX9_passesAll_88 : decode cX9_passesAll 88 = .ok (.invokevirtual 137, 3) := by decide +kernel
theorem dX9_passesAll_91 : decode cX9_passesAll 91 = .ok (.putfield 147, 3) := by decide +kernel
theorem dX9_passesAll_94 : decode cX9_passesAll 94 = .ok (.aload_n 0, 1) := by decide +kernel
theorem dX9_passesAll_95 : decode cX9_passesAll 95 = .ok (.aload_n 0, 1) := by decide +kernel
theorem dX9_passesAll_96 : decode cX9_passesAll 96 = .ok (.aload_n 0, 1) := by decide +kernel
theorem dX9_passesAll_97 : decode cX9_passesAll 97 = .ok (.getfield 150, 3) := by decide +kernel
theorem dX9_passesAll_100 : decode cX9_passesAll 100 = .ok (.invokevirtual 137, 3) := by decide +kernel
theorem dX9_passesAll_103 : decode cX9_passesAll 103 = .ok (.putfield 150, 3) := by decide +kernel
theorem dX9_passesAll_106 : decode cX9_passesAll 106 = .ok (.aload_n 0, 1) := by decide +kernel
theorem dX9_passesAll_107 : decode cX9_passesAll 107 = .ok (.aload_n 0, 1) := by decide +kernel
theorem dX9_passesAll_108 : decode cX9_passesAll 108 = .ok (.aload_n 0, 1) := by decide +kernel
theorem dX9_passesAll_109 : decode cX9_passesAll 109 = .ok (.getfield 153, 3) := by decide +kernel
theorem dX9_passesAll_112 : decode cX9_passesAll 112 = .ok (.invokevirtual 137, 3) := by decide +kernel
theorem dX9_passesAll_115 : decode cX9_passesAll 115 = .ok (.putfield 153, 3) := by decide +kernel
theorem dX9_passesAll_118 : decode cX9_passesAll 118 = .ok (.aload_n 0, 1) := by decide +kernel
theorem dX9_passesAll_119 : decode cX9_passesAll 119 = .ok (.aload_n 0, 1) := by decide +kernel
theorem dX9_passesAll_120 : decode cX9_passesAll 120 = .ok (.getfield 11, 3) := by decide +kernel
theorem dX9_passesAll_123 : decode cX9_passesAll 123 = .ok (.invokevirtual 156, 3) := by decide +kernel
theorem dX9_passesAll_126 : decode cX9_passesAll 126 = .ok (.aload_n 0, 1) := by decide +kernel
theorem dX9_passesAll_127 : decode cX9_passesAll 127 = .ok (.aload_n 0, 1) := by decide +kernel
theorem dX9_passesAll_128 : decode cX9_passesAll 128 = .ok (.getfield 15, 3) := by decide +kernel
theorem dX9_passesAll_131 : decode cX9_passesAll 131 = .ok (.invokevirtual 156, 3) := by decide +kernel
theorem dX9_passesAll_134 : decode cX9_passesAll 134 = .ok (.aload_n 0, 1) := by decide +kernel
theorem dX9_passesAll_135 : decode cX9_passesAll 135 = .ok (.aload_n 0, 1) := by decide +kernel
theorem dX9_passesAll_136 : decode cX9_passesAll 136 = .ok (.getfield 18, 3) := by decide +kernel
theorem dX9_passesAll_139 : decode cX9_passesAll 139 = .ok (.invokevirtual 156, 3) := by decide +kernel
theorem dX9_passesAll_142 : decode cX9_passesAll 142 = .ok (.aload_n 0, 1) := by decide +kernel
theorem dX9_passesAll_143 : decode cX9_passesAll 143 = .ok (.aload_n 0, 1) := by decide +kernel
theorem dX9_passesAll_144 : decode cX9_passesAll 144 = .ok (.getfield 21, 3) := by decide +kernel
theorem dX9_passesAll_147 : decode cX9_passesAll 147 = .ok (.invokevirtual 156, 3) := by decide +kernel
theorem dX9_passesAll_150 : decode cX9_passesAll 150 = .ok (.aload_n 0, 1) := by decide +kernel
theorem dX9_passesAll_151 : decode cX9_passesAll 151 = .ok (.aload_n 0, 1) := by decide +kernel
theorem dX9_passesAll_152 : decode cX9_passesAll 152 = .ok (.getfield 24, 3) := by decide +kernel
theorem dX9_passesAll_155 : decode cX9_passesAll 155 = .ok (.invokevirtual 156, 3) := by decide +kernel
theorem dX9_passesAll_158 : decode cX9_passesAll 158 = .ok (.aload_n 0, 1) := by decide +kernel
theorem dX9_passesAll_159 : decode cX9_passesAll 159 = .ok (.aload_n 0, 1) := by decide +kernel
theorem dX9_passesAll_160 : decode cX9_passesAll 160 = .ok (.getfield 27, 3) := by decide +kernel
theorem dX9_passesAll_163 : decode cX9_passesAll 163 = .ok (.invokevirtual 156, 3) := by decide +kernel
theorem dX9_passesAll_166 : decode cX9_passesAll 166 = .ok (.aload_n 0, 1) := by decide +kernel
theorem dX9_passesAll_167 : decode cX9_passesAll 167 = .ok (.aload_n 0, 1) := by decide +kernel
theorem dX9_passesAll_168 : decode cX9_passesAll 168 = .ok (.getfield 30, 3) := by decide +kernel
theorem dX9_passesAll_171 : decode cX9_passesAll 171 = .ok (.invokevirtual 156, 3) := by decide +kernel
theorem dX9_passesAll_174 : decode cX9_passesAll 174 = .ok (.aload_n 0, 1) := by decide +kernel
theorem dX9_passesAll_175 : decode cX9_passesAll 175 = .ok (.aload_n 0, 1) := by decide +kernel
theorem dX9_passesAll_176 : decode cX9_passesAll 176 = .ok (.getfield 33, 3) := by decide +kernel
theorem dX9_passesAll_179 : decode cX9_passesAll 179 = .ok (.invokevirtual 156, 3) := by decide +kernel
theorem dX9_passesAll_182 : decode cX9_passesAll 182 = .ok (.aload_n 0, 1) := by decide +kernel
theorem dX9_passesAll_183 : decode cX9_passesAll 183 = .ok (.aload_n 0, 1) := by decide +kernel
theorem dX9_passesAll_184 : decode cX9_passesAll 184 = .ok (.getfield 36, 3) := by decide +kernel
theorem dX9_passesAll_187 : decode cX9_passesAll 187 = .ok (.invokevirtual 156, 3) := by decide +kernel
theorem dX9_passesAll_190 : decode cX9_passesAll 190 = .ok (.aload_n 0, 1) := by decide +kernel
theorem dX9_passesAll_191 : decode cX9_passesAll 191 = .ok (.aload_n 0, 1) := by decide +kernel
theorem dX9_passesAll_192 : decode cX9_passesAll 192 = .ok (.getfield 39, 3) := by decide +kernel
theorem dX9_passesAll_195 : decode cX9_passesAll 195 = .ok (.invokevirtual 156, 3) := by decide +kernel
theorem dX9_passesAll_198 : decode cX9_passesAll 198 = .ok (.aload_n 0, 1) := by decide +kernel
theorem dX9_passesAll_199 : decode cX9_passesAll 199 = .ok (.aload_n 0, 1) := by decide +kernel
theorem dX9_passesAll_200 : decode cX9_passesAll 200 = .ok (.getfield 42, 3) := by decide +kernel
theorem dX9_passesAll_203 : decode cX9_passesAll 203 = .ok (.invokevirtual 156, 3) := by decide +kernel
theorem dX9_passesAll_206 : decode cX9_passesAll 206 = .ok (.aload_n 0, 1) := by decide +kernel
theorem dX9_passesAll_207 : decode cX9_passesAll 207 = .ok (.aload_n 0, 1) := by decide +kernel
theorem dX9_passesAll_208 : decode cX9_passesAll 208 = .ok (.getfield 45, 3) := by decide +kernel
theorem dX9_passesAll_211 : decode cX9_passesAll 211 = .ok (.invokevirtual 156, 3) := by decide +kernel
theorem dX9_passesAll_214 : decode cX9_passesAll 214 = .ok (.aload_n 0, 1) := by decide +kernel
theorem dX9_passesAll_215 : decode cX9_passesAll 215 = .ok (.aload_n 0, 1) := by decide +kernel
theorem dX9_passesAll_216 : decode cX9_passesAll 216 = .ok (.getfield 48, 3) := by decide +kernel
theorem dX9_passesAll_219 : decode cX9_passesAll 219 = .ok (.invokevirtual 156, 3) := by decide +kernel
theorem dX9_passesAll_222 : decode cX9_passesAll 222 = .ok (.aload_n 0, 1) := by decide +kernel
theorem dX9_passesAll_223 : decode cX9_passesAll 223 = .ok (.aload_n 0, 1) := by decide +kernel
theorem dX9_passesAll_224 : decode cX9_passesAll 224 = .ok (.getfield 51, 3) := by decide +kernel
theorem dX9_passesAll_227 : decode cX9_passesAll 227 = .ok (.invokevirtual 156, 3) := by decide +kernel
theorem dX9_passesAll_230 : decode cX9_passesAll 230 = .ok (.aload_n 0, 1) := by decide +kernel
theorem dX9_passesAll_231 : decode cX9_passesAll 231 = .ok (.getfield 109, 3) := by decide +kernel
theorem dX9_passesAll_234 : decode cX9_passesAll 234 = .ok (.ireturn, 1) := by decide +kernel
theorem dX9_image_0 : decode cX9_image 0 = .ok (.aload_n 0, 1) := by decide +kernel
theorem dX9_image_1 : decode cX9_image 1 = .ok (.iconst 1, 1) := by decide +kernel
theorem dX9_image_2 : decode cX9_image 2 = .ok (.putfield 160, 3) := by decide +kernel
theorem dX9_image_5 : decode cX9_image 5 = .ok (.aload_n 0, 1) := by decide +kernel
theorem dX9_image_6 : decode cX9_image 6 = .ok (.iconst 1, 1) := by decide +kernel
theorem dX9_image_7 : decode cX9_image 7 = .ok (.invokevirtual 163, 3) := by decide +kernel
theorem dX9_image_10 : decode cX9_image 10 = .ok (.ireturn, 1) := by decide +kernel
theorem dX9_undo_0 : decode cX9_undo 0 = .ok (.aload_n 0, 1) := by decide +kernel
theorem dX9_undo_1 : decode cX9_undo 1 = .ok (.getfield 160, 3) := by decide +kernel
theorem dX9_undo_4 : decode cX9_undo 4 = .ok (.ifCond .eq 11, 3) := by decide +kernel
theorem dX9_undo_7 : decode cX9_undo 7 = .ok (.aload_n 0, 1) := by decide +kernel
theorem dX9_undo_8 : decode cX9_undo 8 = .ok (.iconst 0, 1) := by decide +kernel
theorem dX9_undo_9 : decode cX9_undo 9 = .ok (.invokevirtual 163, 3) := by decide +kernel
theorem dX9_undo_12 : decode cX9_undo 12 = .ok (.goto 5, 3) := by decide +kernel
theorem dX9_undo_15 : decode cX9_undo 15 = .ok (.bipush (-3), 2) := by decide +kernel
theorem dX9_undo_17 : decode cX9_undo 17 = .ok (.ireturn, 1) := by decide +kernel
theorem dX9_lays_0 : decode cX9_lays 0 = .ok (.iconst 0, 1) := by decide +kernel
theorem dX9_lays_1 : decode cX9_lays 1 = .ok (.istore_n 2, 1) := by decide +kernel
theorem dX9_lays_2 : decode cX9_lays 2 = .ok (.iload_n 2, 1) := by decide +kernel
theorem dX9_lays_3 : decode cX9_lays 3 = .ok (.aload_n 1, 1) := by decide +kernel
theorem dX9_lays_4 : decode cX9_lays 4 = .ok (.arraylength, 1) := by decide +kernel
theorem dX9_lays_5 : decode cX9_lays 5 = .ok (.if_icmp .ge 31, 3) := by decide +kernel
theorem dX9_lays_8 : decode cX9_lays 8 = .ok (.aload_n 0, 1) := by decide +kernel
theorem dX9_lays_9 : decode cX9_lays 9 = .ok (.getfield 60, 3) := by decide +kernel
theorem dX9_lays_12 : decode cX9_lays 12 = .ok (.aload_n 0, 1) := by decide +kernel
theorem dX9_lays_13 : decode cX9_lays 13 = .ok (.getfield 167, 3) := by decide +kernel
theorem dX9_lays_16 : decode cX9_lays 16 = .ok (.aload_n 1, 1) := by decide +kernel
theorem dX9_lays_17 : decode cX9_lays 17 = .ok (.iload_n 2, 1) := by decide +kernel
theorem dX9_lays_18 : decode cX9_lays 18 = .ok (.iaload, 1) := by decide +kernel
theorem dX9_lays_19 : decode cX9_lays 19 = .ok (.iastore, 1) := by decide +kernel
theorem dX9_lays_20 : decode cX9_lays 20 = .ok (.aload_n 0, 1) := by decide +kernel
theorem dX9_lays_21 : decode cX9_lays 21 = .ok (.dup, 1) := by decide +kernel
theorem dX9_lays_22 : decode cX9_lays 22 = .ok (.getfield 167, 3) := by decide +kernel
theorem dX9_lays_25 : decode cX9_lays 25 = .ok (.iconst 1, 1) := by decide +kernel
theorem dX9_lays_26 : decode cX9_lays 26 = .ok (.iadd, 1) := by decide +kernel
theorem dX9_lays_27 : decode cX9_lays 27 = .ok (.putfield 167, 3) := by decide +kernel
theorem dX9_lays_30 : decode cX9_lays 30 = .ok (.iinc 2 1, 3) := by decide +kernel
theorem dX9_lays_33 : decode cX9_lays 33 = .ok (.goto (-31), 3) := by decide +kernel
theorem dX9_lays_36 : decode cX9_lays 36 = .ok (.return_, 1) := by decide +kernel
theorem dX9_takesBack_0 : decode cX9_takesBack 0 = .ok (.iconst 0, 1) := by decide +kernel
theorem dX9_takesBack_1 : decode cX9_takesBack 1 = .ok (.istore_n 2, 1) := by decide +kernel
theorem dX9_takesBack_2 : decode cX9_takesBack 2 = .ok (.iload_n 2, 1) := by decide +kernel
theorem dX9_takesBack_3 : decode cX9_takesBack 3 = .ok (.aload_n 1, 1) := by decide +kernel
theorem dX9_takesBack_4 : decode cX9_takesBack 4 = .ok (.arraylength, 1) := by decide +kernel
theorem dX9_takesBack_5 : decode cX9_takesBack 5 = .ok (.if_icmp .ge 31, 3) := by decide +kernel
theorem dX9_takesBack_8 : decode cX9_takesBack 8 = .ok (.aload_n 1, 1) := by decide +kernel
theorem dX9_takesBack_9 : decode cX9_takesBack 9 = .ok (.iload_n 2, 1) := by decide +kernel
theorem dX9_takesBack_10 : decode cX9_takesBack 10 = .ok (.aload_n 0, 1) := by decide +kernel
theorem dX9_takesBack_11 : decode cX9_takesBack 11 = .ok (.getfield 60, 3) := by decide +kernel
theorem dX9_takesBack_14 : decode cX9_takesBack 14 = .ok (.aload_n 0, 1) := by decide +kernel
theorem dX9_takesBack_15 : decode cX9_takesBack 15 = .ok (.getfield 167, 3) := by decide +kernel
theorem dX9_takesBack_18 : decode cX9_takesBack 18 = .ok (.iaload, 1) := by decide +kernel
theorem dX9_takesBack_19 : decode cX9_takesBack 19 = .ok (.iastore, 1) := by decide +kernel
theorem dX9_takesBack_20 : decode cX9_takesBack 20 = .ok (.aload_n 0, 1) := by decide +kernel
theorem dX9_takesBack_21 : decode cX9_takesBack 21 = .ok (.dup, 1) := by decide +kernel
theorem dX9_takesBack_22 : decode cX9_takesBack 22 = .ok (.getfield 167, 3) := by decide +kernel
theorem dX9_takesBack_25 : decode cX9_takesBack 25 = .ok (.iconst 1, 1) := by decide +kernel
theorem dX9_takesBack_26 : decode cX9_takesBack 26 = .ok (.iadd, 1) := by decide +kernel
theorem dX9_takesBack_27 : decode cX9_takesBack 27 = .ok (.putfield 167, 3) := by decide +kernel
theorem dX9_takesBack_30 : decode cX9_takesBack 30 = .ok (.iinc 2 1, 3) := by decide +kernel
theorem dX9_takesBack_33 : decode cX9_takesBack 33 = .ok (.goto (-31), 3) := by decide +kernel
theorem dX9_takesBack_36 : decode cX9_takesBack 36 = .ok (.return_, 1) := by decide +kernel
theorem dX9_minds_0 : decode cX9_minds 0 = .ok (.aload_n 0, 1) := by decide +kernel
theorem dX9_minds_1 : decode cX9_minds 1 = .ok (.getfield 60, 3) := by decide +kernel
theorem dX9_minds_4 : decode cX9_minds 4 = .ok (.iconst 0, 1) := by decide +kernel
theorem dX9_minds_5 : decode cX9_minds 5 = .ok (.aload_n 0, 1) := by decide +kernel
theorem dX9_minds_6 : decode cX9_minds 6 = .ok (.getfield 124, 3) := by decide +kernel
theorem dX9_minds_9 : decode cX9_minds 9 = .ok (.iastore, 1) := by decide +kernel
theorem dX9_minds_10 : decode cX9_minds 10 = .ok (.aload_n 0, 1) := by decide +kernel
theorem dX9_minds_11 : decode cX9_minds 11 = .ok (.getfield 60, 3) := by decide +kernel
theorem dX9_minds_14 : decode cX9_minds 14 = .ok (.iconst 1, 1) := by decide +kernel
theorem dX9_minds_15 : decode cX9_minds 15 = .ok (.aload_n 0, 1) := by decide +kernel
theorem dX9_minds_16 : decode cX9_minds 16 = .ok (.getfield 127, 3) := by decide +kernel
theorem dX9_minds_19 : decode cX9_minds 19 = .ok (.iastore, 1) := by decide +kernel
theorem dX9_minds_20 : decode cX9_minds 20 = .ok (.aload_n 0, 1) := by decide +kernel
theorem dX9_minds_21 : decode cX9_minds 21 = .ok (.getfield 60, 3) := by decide +kernel
theorem dX9_minds_24 : decode cX9_minds 24 = .ok (.iconst 2, 1) := by decide +kernel
theorem dX9_minds_25 : decode cX9_minds 25 = .ok (.aload_n 0, 1) := by decide +kernel
theorem dX9_minds_26 : decode cX9_minds 26 = .ok (.getfield 144, 3) := by decide +kernel
theorem dX9_minds_29 : decode cX9_minds 29 = .ok (.iastore, 1) := by decide +kernel
theorem dX9_minds_30 : decode cX9_minds 30 = .ok (.aload_n 0, 1) := by decide +kernel
theorem dX9_minds_31 : decode cX9_minds 31 = .ok (.iconst 3, 1) := by decide +kernel
theorem dX9_minds_32 : decode cX9_minds 32 = .ok (.putfield 167, 3) := by decide +kernel
theorem dX9_minds_35 : decode cX9_minds 35 = .ok (.aload_n 0, 1) := by decide +kernel
theorem dX9_minds_36 : decode cX9_minds 36 = .ok (.aload_n 0, 1) := by decide +kernel
theorem dX9_minds_37 : decode cX9_minds 37 = .ok (.getfield 24, 3) := by decide +kernel
theorem dX9_minds_40 : decode cX9_minds 40 = .ok (.invokevirtual 170, 3) := by decide +kernel
theorem dX9_minds_43 : decode cX9_minds 43 = .ok (.aload_n 0, 1) := by decide +kernel
theorem dX9_minds_44 : decode cX9_minds 44 = .ok (.aload_n 0, 1) := by decide +kernel
theorem dX9_minds_45 : decode cX9_minds 45 = .ok (.getfield 27, 3) := by decide +kernel
theorem dX9_minds_48 : decode cX9_minds 48 = .ok (.invokevirtual 170, 3) := by decide +kernel
theorem dX9_minds_51 : decode cX9_minds 51 = .ok (.aload_n 0, 1) := by decide +kernel
theorem dX9_minds_52 : decode cX9_minds 52 = .ok (.aload_n 0, 1) := by decide +kernel
theorem dX9_minds_53 : decode cX9_minds 53 = .ok (.getfield 30, 3) := by decide +kernel
theorem dX9_minds_56 : decode cX9_minds 56 = .ok (.invokevirtual 170, 3) := by decide +kernel
theorem dX9_minds_59 : decode cX9_minds 59 = .ok (.aload_n 0, 1) := by decide +kernel
theorem dX9_minds_60 : decode cX9_minds 60 = .ok (.aload_n 0, 1) := by decide +kernel
theorem dX9_minds_61 : decode cX9_minds 61 = .ok (.getfield 33, 3) := by decide +kernel
theorem dX9_minds_64 : decode cX9_minds 64 = .ok (.invokevirtual 170, 3) := by decide +kernel
theorem dX9_minds_67 : decode cX9_minds 67 = .ok (.return_, 1) := by decide +kernel
theorem dX9_forgets_0 : decode cX9_forgets 0 = .ok (.aload_n 0, 1) := by decide +kernel
theorem dX9_forgets_1 : decode cX9_forgets 1 = .ok (.aload_n 0, 1) := by decide +kernel
theorem dX9_forgets_2 : decode cX9_forgets 2 = .ok (.getfield 60, 3) := by decide +kernel
theorem dX9_forgets_5 : decode cX9_forgets 5 = .ok (.iconst 0, 1) := by decide +kernel
theorem dX9_forgets_6 : decode cX9_forgets 6 = .ok (.iaload, 1) := by decide +kernel
theorem dX9_forgets_7 : decode cX9_forgets 7 = .ok (.putfield 124, 3) := by decide +kernel
theorem dX9_forgets_10 : decode cX9_forgets 10 = .ok (.aload_n 0, 1) := by decide +kernel
theorem dX9_forgets_11 : decode cX9_forgets 11 = .ok (.aload_n 0, 1) := by decide +kernel
theorem dX9_forgets_12 : decode cX9_forgets 12 = .ok (.getfield 60, 3) := by decide +kernel
theorem dX9_forgets_15 : decode cX9_forgets 15 = .ok (.iconst 1, 1) := by decide +kernel
theorem dX9_forgets_16 : decode cX9_forgets 16 = .ok (.iaload, 1) := by decide +kernel
theorem dX9_forgets_17 : decode cX9_forgets 17 = .ok (.putfield 127, 3) := by decide +kernel
theorem dX9_forgets_20 : decode cX9_forgets 20 = .ok (.aload_n 0, 1) := by decide +kernel
theorem dX9_forgets_21 : decode cX9_forgets 21 = .ok (.aload_n 0, 1) := by decide +kernel
theorem dX9_forgets_22 : decode cX9_forgets 22 = .ok (.getfield 60, 3) := by decide +kernel
theorem dX9_forgets_25 : decode cX9_forgets 25 = .ok (.iconst 2, 1) := by decide +kernel
theorem dX9_forgets_26 : decode cX9_forgets 26 = .ok (.iaload, 1) := by decide +kernel
theorem dX9_forgets_27 : decode cX9_forgets 27 = .ok (.putfield 144, 3) := by decide +kernel
theorem dX9_forgets_30 : decode cX9_forgets 30 = .ok (.aload_n 0, 1) := by decide +kernel
theorem dX9_forgets_31 : decode cX9_forgets 31 = .ok (.iconst 3, 1) := by decide +kernel
theorem dX9_forgets_32 : decode cX9_forgets 32 = .ok (.putfield 167, 3) := by decide +kernel
theorem dX9_forgets_35 : decode cX9_forgets 35 = .ok (.aload_n 0, 1) := by decide +kernel
theorem dX9_forgets_36 : decode cX9_forgets 36 = .ok (.aload_n 0, 1) := by decide +kernel
theorem dX9_forgets_37 : decode cX9_forgets 37 = .ok (.getfield 24, 3) := by decide +kernel
theorem dX9_forgets_40 : decode cX9_forgets 40 = .ok (.invokevirtual 173, 3) := by decide +kernel
theorem dX9_forgets_43 : decode cX9_forgets 43 = .ok (.aload_n 0, 1) := by decide +kernel
theorem dX9_forgets_44 : decode cX9_forgets 44 = .ok (.aload_n 0, 1) := by decide +kernel
theorem dX9_forgets_45 : decode cX9_forgets 45 = .ok (.getfield 27, 3) := by decide +kernel
theorem dX9_forgets_48 : decode cX9_forgets 48 = .ok (.invokevirtual 173, 3) := by decide +kernel
theorem dX9_forgets_51 : decode cX9_forgets 51 = .ok (.aload_n 0, 1) := by decide +kernel
theorem dX9_forgets_52 : decode cX9_forgets 52 = .ok (.aload_n 0, 1) := by decide +kernel
theorem dX9_forgets_53 : decode cX9_forgets 53 = .ok (.getfield 30, 3) := by decide +kernel
theorem dX9_forgets_56 : decode cX9_forgets 56 = .ok (.invokevirtual 173, 3) := by decide +kernel
theorem dX9_forgets_59 : decode cX9_forgets 59 = .ok (.aload_n 0, 1) := by decide +kernel
theorem dX9_forgets_60 : decode cX9_forgets 60 = .ok (.aload_n 0, 1) := by decide +kernel
theorem dX9_forgets_61 : decode cX9_forgets 61 = .ok (.getfield 33, 3) := by decide +kernel
theorem dX9_forgets_64 : decode cX9_forgets 64 = .ok (.invokevirtual 173, 3) := by decide +kernel
theorem dX9_forgets_67 : decode cX9_forgets 67 = .ok (.return_, 1) := by decide +kernel
theorem dX9_comes_0 : decode cX9_comes 0 = .ok (.iload_n 2, 1) := by decide +kernel
theorem dX9_comes_1 : decode cX9_comes 1 = .ok (.i2l, 1) := by decide +kernel
theorem dX9_comes_2 : decode cX9_comes 2 = .ok (.lconst 0, 1) := by decide +kernel
theorem dX9_comes_3 : decode cX9_comes 3 = .ok (.ldc2_w 176, 3) := by decide +kernel
theorem dX9_comes_6 : decode cX9_comes 6 = .ok (.invokestatic 116, 3) := by decide +kernel
theorem dX9_comes_9 : decode cX9_comes 9 = .ok (.ifCond .eq 15, 3) := by decide +kernel
theorem dX9_comes_12 : decode cX9_comes 12 = .ok (.iload_n 3, 1) := by decide +kernel
theorem dX9_comes_13 : decode cX9_comes 13 = .ok (.i2l, 1) := by decide +kernel
theorem dX9_comes_14 : decode cX9_comes 14 = .ok (.lconst 0, 1) := by decide +kernel
theorem dX9_comes_15 : decode cX9_comes 15 = .ok (.ldc2_w 178, 3) := by decide +kernel
theorem dX9_comes_18 : decode cX9_comes 18 = .ok (.invokestatic 116, 3) := by decide +kernel
theorem dX9_comes_21 : decode cX9_comes 21 = .ok (.ifCond .ne 6, 3) := by decide +kernel
theorem dX9_comes_24 : decode cX9_comes 24 = .ok (.bipush (-2), 2) := by decide +kernel
theorem dX9_comes_26 : decode cX9_comes 26 = .ok (.ireturn, 1) := by decide +kernel
theorem dX9_comes_27 : decode cX9_comes 27 = .ok (.aload_n 0, 1) := by decide +kernel
theorem dX9_comes_28 : decode cX9_comes 28 = .ok (.iload_n 1, 1) := by decide +kernel
theorem dX9_comes_29 : decode cX9_comes 29 = .ok (.invokevirtual 180, 3) := by decide +kernel
theorem dX9_comes_32 : decode cX9_comes 32 = .ok (.istore 4, 2) := by decide +kernel
theorem dX9_comes_34 : decode cX9_comes 34 = .ok (.iload 4, 2) := by decide +kernel
theorem dX9_comes_36 : decode cX9_comes 36 = .ok (.iconst 5, 1) := by decide +kernel
theorem dX9_comes_37 : decode cX9_comes 37 = .ok (.if_icmp .ne 6, 3) := by decide +kernel
theorem dX9_comes_40 : decode cX9_comes 40 = .ok (.bipush (-4), 2) := by decide +kernel
theorem dX9_comes_42 : decode cX9_comes 42 = .ok (.ireturn, 1) := by decide +kernel
theorem dX9_comes_43 : decode cX9_comes 43 = .ok (.aload_n 0, 1) := by decide +kernel
theorem dX9_comes_44 : decode cX9_comes 44 = .ok (.getfield 11, 3) := by decide +kernel
theorem dX9_comes_47 : decode cX9_comes 47 = .ok (.iconst 5, 1) := by decide +kernel
theorem dX9_comes_48 : decode cX9_comes 48 = .ok (.iload_n 1, 1) := by decide +kernel
theorem dX9_comes_49 : decode cX9_comes 49 = .ok (.imul, 1) := by decide +kernel
theorem dX9_comes_50 : decode cX9_comes 50 = .ok (.iload 4, 2) := by decide +kernel
theorem dX9_comes_52 : decode cX9_comes 52 = .ok (.iadd, 1) := by decide +kernel
theorem dX9_comes_53 : decode cX9_comes 53 = .ok (.iload_n 2, 1) := by decide +kernel
theorem dX9_comes_54 : decode cX9_comes 54 = .ok (.iastore, 1) := by decide +kernel
theorem dX9_comes_55 : decode cX9_comes 55 = .ok (.aload_n 0, 1) := by decide +kernel
theorem dX9_comes_56 : decode cX9_comes 56 = .ok (.getfield 15, 3) := by decide +kernel
theorem dX9_comes_59 : decode cX9_comes 59 = .ok (.iconst 5, 1) := by decide +kernel
theorem dX9_comes_60 : decode cX9_comes 60 = .ok (.iload_n 1, 1) := by decide +kernel
theorem dX9_comes_61 : decode cX9_comes 61 = .ok (.imul, 1) := by decide +kernel
theorem dX9_comes_62 : decode cX9_comes 62 = .ok (.iload 4, 2) := by decide +kernel
theorem dX9_comes_64 : decode cX9_comes 64 = .ok (.iadd, 1) := by decide +kernel
theorem dX9_comes_65 : decode cX9_comes 65 = .ok (.iload_n 3, 1) := by decide +kernel
theorem dX9_comes_66 : decode cX9_comes 66 = .ok (.iastore, 1) := by decide +kernel
theorem dX9_comes_67 : decode cX9_comes 67 = .ok (.aload_n 0, 1) := by decide +kernel
theorem dX9_comes_68 : decode cX9_comes 68 = .ok (.dup, 1) := by decide +kernel
theorem dX9_comes_69 : decode cX9_comes 69 = .ok (.getfield 109, 3) := by decide +kernel
theorem dX9_comes_72 : decode cX9_comes 72 = .ok (.iload_n 1, 1) := by decide +kernel
theorem dX9_comes_73 : decode cX9_comes 73 = .ok (.ifCond .ne 7, 3) := by decide +kernel
theorem dX9_comes_76 : decode cX9_comes 76 = .ok (.iconst 1, 1) := by decide +kernel
theorem dX9_comes_77 : decode cX9_comes 77 = .ok (.goto 4, 3) := by decide +kernel
theorem dX9_comes_80 : decode cX9_comes 80 = .ok (.iconst 0, 1) := by decide +kernel
theorem dX9_comes_81 : decode cX9_comes 81 = .ok (.iadd, 1) := by decide +kernel
theorem dX9_comes_82 : decode cX9_comes 82 = .ok (.putfield 109, 3) := by decide +kernel
theorem dX9_comes_85 : decode cX9_comes 85 = .ok (.aload_n 0, 1) := by decide +kernel
theorem dX9_comes_86 : decode cX9_comes 86 = .ok (.dup, 1) := by decide +kernel
theorem dX9_comes_87 : decode cX9_comes 87 = .ok (.getfield 113, 3) := by decide +kernel
theorem dX9_comes_90 : decode cX9_comes 90 = .ok (.iload_n 1, 1) := by decide +kernel
theorem dX9_comes_91 : decode cX9_comes 91 = .ok (.ifCond .ne 7, 3) := by decide +kernel
theorem dX9_comes_94 : decode cX9_comes 94 = .ok (.iconst 0, 1) := by decide +kernel
theorem dX9_comes_95 : decode cX9_comes 95 = .ok (.goto 4, 3) := by decide +kernel
theorem dX9_comes_98 : decode cX9_comes 98 = .ok (.iconst 1, 1) := by decide +kernel
theorem dX9_comes_99 : decode cX9_comes 99 = .ok (.iadd, 1) := by decide +kernel
theorem dX9_comes_100 : decode cX9_comes 100 = .ok (.putfield 113, 3) := by decide +kernel
theorem dX9_comes_103 : decode cX9_comes 103 = .ok (.aload_n 0, 1) := by decide +kernel
theorem dX9_comes_104 : decode cX9_comes 104 = .ok (.iconst 0, 1) := by decide +kernel
theorem dX9_comes_105 : decode cX9_comes 105 = .ok (.putfield 141, 3) := by decide +kernel
theorem dX9_comes_108 : decode cX9_comes 108 = .ok (.iload 4, 2) := by decide +kernel
theorem dX9_comes_110 : decode cX9_comes 110 = .ok (.ireturn, 1) := by decide +kernel
theorem dX9_quarry_0 : decode cX9_quarry 0 = .ok (.aload_n 0, 1) := by decide +kernel
theorem dX9_quarry_1 : decode cX9_quarry 1 = .ok (.iconst 0, 1) := by decide +kernel
theorem dX9_quarry_2 : decode cX9_quarry 2 = .ok (.iload_n 1, 1) := by decide +kernel
theorem dX9_quarry_3 : decode cX9_quarry 3 = .ok (.iload_n 2, 1) := by decide +kernel
theorem dX9_quarry_4 : decode cX9_quarry 4 = .ok (.invokevirtual 183, 3) := by decide +kernel
theorem dX9_quarry_7 : decode cX9_quarry 7 = .ok (.ireturn, 1) := by decide +kernel
theorem dX9_work_0 : decode cX9_work 0 = .ok (.aload_n 0, 1) := by decide +kernel
theorem dX9_work_1 : decode cX9_work 1 = .ok (.iconst 1, 1) := by decide +kernel
theorem dX9_work_2 : decode cX9_work 2 = .ok (.iload_n 1, 1) := by decide +kernel
theorem dX9_work_3 : decode cX9_work 3 = .ok (.iload_n 2, 1) := by decide +kernel
theorem dX9_work_4 : decode cX9_work 4 = .ok (.invokevirtual 183, 3) := by decide +kernel
theorem dX9_work_7 : decode cX9_work 7 = .ok (.ireturn, 1) := by decide +kernel
theorem dX9_isThing_0 : decode cX9_isThing 0 = .ok (.iload_n 1, 1) := by decide +kernel
theorem dX9_isThing_1 : decode cX9_isThing 1 = .ok (.i2l, 1) := by decide +kernel
theorem dX9_isThing_2 : decode cX9_isThing 2 = .ok (.lconst 0, 1) := by decide +kernel
theorem dX9_isThing_3 : decode cX9_isThing 3 = .ok (.lconst 1, 1) := by decide +kernel
theorem dX9_isThing_4 : decode cX9_isThing 4 = .ok (.invokestatic 116, 3) := by decide +kernel
theorem dX9_isThing_7 : decode cX9_isThing 7 = .ok (.ifCond .eq 34, 3) := by decide +kernel
theorem dX9_isThing_10 : decode cX9_isThing 10 = .ok (.iload_n 2, 1) := by decide +kernel
theorem dX9_isThing_11 : decode cX9_isThing 11 = .ok (.i2l, 1) := by decide +kernel
theorem dX9_isThing_12 : decode cX9_isThing 12 = .ok (.lconst 0, 1) := by decide +kernel
theorem dX9_isThing_13 : decode cX9_isThing 13 = .ok (.aload_n 0, 1) := by decide +kernel
theorem dX9_isThing_14 : decode cX9_isThing 14 = .ok (.iload_n 1, 1) := by decide +kernel
theorem dX9_isThing_15 : decode cX9_isThing 15 = .ok (.invokevirtual 180, 3) := by decide +kernel
theorem dX9_isThing_18 : decode cX9_isThing 18 = .ok (.iconst 1, 1) := by decide +kernel
theorem dX9_isThing_19 : decode cX9_isThing 19 = .ok (.isub, 1) := by decide +kernel
theorem dX9_isThing_20 : decode cX9_isThing 20 = .ok (.i2l, 1) := by decide +kernel
theorem dX9_isThing_21 : decode cX9_isThing 21 = .ok (.invokestatic 116, 3) := by decide +kernel
theorem dX9_isThing_24 : decode cX9_isThing 24 = .ok (.ifCond .eq 17, 3) := by decide +kernel
theorem dX9_isThing_27 : decode cX9_isThing 27 = .ok (.iload_n 3, 1) := by decide +kernel
theorem dX9_isThing_28 : decode cX9_isThing 28 = .ok (.i2l, 1) := by decide +kernel
theorem dX9_isThing_29 : decode cX9_isThing 29 = .ok (.lconst 0, 1) := by decide +kernel
theorem dX9_isThing_30 : decode cX9_isThing 30 = .ok (.lconst 1, 1) := by decide +kernel
theorem dX9_isThing_31 : decode cX9_isThing 31 = .ok (.invokestatic 116, 3) := by decide +kernel
theorem dX9_isThing_34 : decode cX9_isThing 34 = .ok (.ifCond .eq 7, 3) := by decide +kernel
theorem dX9_isThing_37 : decode cX9_isThing 37 = .ok (.iconst 1, 1) := by decide +kernel
theorem dX9_isThing_38 : decode cX9_isThing 38 = .ok (.goto 4, 3) := by decide +kernel
theorem dX9_isThing_41 : decode cX9_isThing 41 = .ok (.iconst 0, 1) := by decide +kernel
theorem dX9_isThing_42 : decode cX9_isThing 42 = .ok (.ireturn, 1) := by decide +kernel
theorem dX9_renew_0 : decode cX9_renew 0 = .ok (.aload_n 0, 1) := by decide +kernel
theorem dX9_renew_1 : decode cX9_renew 1 = .ok (.iload_n 1, 1) := by decide +kernel
theorem dX9_renew_2 : decode cX9_renew 2 = .ok (.iload_n 2, 1) := by decide +kernel
theorem dX9_renew_3 : decode cX9_renew 3 = .ok (.iload_n 3, 1) := by decide +kernel
theorem dX9_renew_4 : decode cX9_renew 4 = .ok (.invokevirtual 187, 3) := by decide +kernel
theorem dX9_renew_7 : decode cX9_renew 7 = .ok (.ifCond .ne 5, 3) := by decide +kernel
theorem dX9_renew_10 : decode cX9_renew 10 = .ok (.iconst (-1), 1) := by decide +kernel
theorem dX9_renew_11 : decode cX9_renew 11 = .ok (.ireturn, 1) := by decide +kernel
theorem dX9_renew_12 : decode cX9_renew 12 = .ok (.iload 4, 2) := by decide +kernel
theorem dX9_renew_14 : decode cX9_renew 14 = .ok (.i2l, 1) := by decide +kernel
theorem dX9_renew_15 : decode cX9_renew 15 = .ok (.lconst 0, 1) := by decide +kernel
theorem dX9_renew_16 : decode cX9_renew 16 = .ok (.iload_n 3, 1) := by decide +kernel
theorem dX9_renew_17 : decode cX9_renew 17 = .ok (.ifCond .ne 9, 3) := by decide +kernel
theorem dX9_renew_20 : decode cX9_renew 20 = .ok (.ldc2_w 176, 3) := by decide +kernel
theorem dX9_renew_23 : decode cX9_renew 23 = .ok (.goto 6, 3) := by decide +kernel
theorem dX9_renew_26 : decode cX9_renew 26 = .ok (.ldc2_w 178, 3) := by decide +kernel
theorem dX9_renew_29 : decode cX9_renew 29 = .ok (.invokestatic 116, 3) := by decide +kernel
theorem dX9_renew_32 : decode cX9_renew 32 = .ok (.ifCond .ne 6, 3) := by decide +kernel
theorem dX9_renew_35 : decode cX9_renew 35 = .ok (.bipush (-2), 2) := by decide +kernel
theorem dX9_renew_37 : decode cX9_renew 37 = .ok (.ireturn, 1) := by decide +kernel
theorem dX9_renew_38 : decode cX9_renew 38 = .ok (.aload_n 0, 1) := by decide +kernel
theorem dX9_renew_39 : decode cX9_renew 39 = .ok (.iload_n 1, 1) := by decide +kernel
theorem dX9_renew_40 : decode cX9_renew 40 = .ok (.iload_n 2, 1) := by decide +kernel
theorem dX9_renew_41 : decode cX9_renew 41 = .ok (.iload_n 3, 1) := by decide +kernel
theorem dX9_renew_42 : decode cX9_renew 42 = .ok (.invokevirtual 191, 3) := by decide +kernel
theorem dX9_renew_45 : decode cX9_renew 45 = .ok (.istore 5, 2) := by decide +kernel
theorem dX9_renew_47 : decode cX9_renew 47 = .ok (.iload_n 3, 1) := by decide +kernel
theorem dX9_renew_48 : decode cX9_renew 48 = .ok (.ifCond .ne 18, 3) := by decide +kernel
theorem dX9_renew_51 : decode cX9_renew 51 = .ok (.aload_n 0, 1) := by decide +kernel
theorem dX9_renew_52 : decode cX9_renew 52 = .ok (.getfield 11, 3) := by decide +kernel
theorem dX9_renew_55 : decode cX9_renew 55 = .ok (.iconst 5, 1) := by decide +kernel
theorem dX9_renew_56 : decode cX9_renew 56 = .ok (.iload_n 1, 1) := by decide +kernel
theorem dX9_renew_57 : decode cX9_renew 57 = .ok (.imul, 1) := by decide +kernel
theorem dX9_renew_58 : decode cX9_renew 58 = .ok (.iload_n 2, 1) := by decide +kernel
theorem dX9_renew_59 : decode cX9_renew 59 = .ok (.iadd, 1) := by decide +kernel
theorem dX9_renew_60 : decode cX9_renew 60 = .ok (.iload 4, 2) := by decide +kernel
theorem dX9_renew_62 : decode cX9_renew 62 = .ok (.iastore, 1) := by decide +kernel
theorem dX9_renew_63 : decode cX9_renew 63 = .ok (.goto 15, 3) := by decide +kernel
theorem dX9_renew_66 : decode cX9_renew 66 = .ok (.aload_n 0, 1) := by decide +kernel
theorem dX9_renew_67 : decode cX9_renew 67 = .ok (.getfield 15, 3) := by decide +kernel
theorem dX9_renew_70 : decode cX9_renew 70 = .ok (.iconst 5, 1) := by decide +kernel
theorem dX9_renew_71 : decode cX9_renew 71 = .ok (.iload_n 1, 1) := by decide +kernel
theorem dX9_renew_72 : decode cX9_renew 72 = .ok (.imul, 1) := by decide +kernel
theorem dX9_renew_73 : decode cX9_renew 73 = .ok (.iload_n 2, 1) := by decide +kernel
theorem dX9_renew_74 : decode cX9_renew 74 = .ok (.iadd, 1) := by decide +kernel
theorem dX9_renew_75 : decode cX9_renew 75 = .ok (.iload 4, 2) := by decide +kernel
theorem dX9_renew_77 : decode cX9_renew 77 = .ok (.iastore, 1) := by decide +kernel
theorem dX9_renew_78 : decode cX9_renew 78 = .ok (.aload_n 0, 1) := by decide +kernel
theorem dX9_renew_79 : decode cX9_renew 79 = .ok (.iconst 0, 1) := by decide +kernel
theorem dX9_renew_80 : decode cX9_renew 80 = .ok (.putfield 141, 3) := by decide +kernel
theorem dX9_renew_83 : decode cX9_renew 83 = .ok (.iload 5, 2) := by decide +kernel
theorem dX9_renew_85 : decode cX9_renew 85 = .ok (.ireturn, 1) := by decide +kernel
theorem dX9_of_0 : decode cX9_of 0 = .ok (.aload_n 0, 1) := by decide +kernel
theorem dX9_of_1 : decode cX9_of 1 = .ok (.iload_n 1, 1) := by decide +kernel
theorem dX9_of_2 : decode cX9_of 2 = .ok (.iload_n 2, 1) := by decide +kernel
theorem dX9_of_3 : decode cX9_of 3 = .ok (.iload_n 3, 1) := by decide +kernel
theorem dX9_of_4 : decode cX9_of 4 = .ok (.invokevirtual 187, 3) := by decide +kernel
theorem dX9_of_7 : decode cX9_of 7 = .ok (.ifCond .ne 5, 3) := by decide +kernel
theorem dX9_of_10 : decode cX9_of 10 = .ok (.iconst (-1), 1) := by decide +kernel
theorem dX9_of_11 : decode cX9_of 11 = .ok (.ireturn, 1) := by decide +kernel
theorem dX9_of_12 : decode cX9_of 12 = .ok (.iload_n 3, 1) := by decide +kernel
theorem dX9_of_13 : decode cX9_of 13 = .ok (.ifCond .ne 16, 3) := by decide +kernel
theorem dX9_of_16 : decode cX9_of 16 = .ok (.aload_n 0, 1) := by decide +kernel
theorem dX9_of_17 : decode cX9_of 17 = .ok (.getfield 11, 3) := by decide +kernel
theorem dX9_of_20 : decode cX9_of 20 = .ok (.iconst 5, 1) := by decide +kernel
theorem dX9_of_21 : decode cX9_of 21 = .ok (.iload_n 1, 1) := by decide +kernel
theorem dX9_of_22 : decode cX9_of 22 = .ok (.imul, 1) := by decide +kernel
theorem dX9_of_23 : decode cX9_of 23 = .ok (.iload_n 2, 1) := by decide +kernel
theorem dX9_of_24 : decode cX9_of 24 = .ok (.iadd, 1) := by decide +kernel
theorem dX9_of_25 : decode cX9_of 25 = .ok (.iaload, 1) := by decide +kernel
theorem dX9_of_26 : decode cX9_of 26 = .ok (.goto 13, 3) := by decide +kernel
theorem dX9_of_29 : decode cX9_of 29 = .ok (.aload_n 0, 1) := by decide +kernel
theorem dX9_of_30 : decode cX9_of 30 = .ok (.getfield 15, 3) := by decide +kernel
theorem dX9_of_33 : decode cX9_of 33 = .ok (.iconst 5, 1) := by decide +kernel
theorem dX9_of_34 : decode cX9_of 34 = .ok (.iload_n 1, 1) := by decide +kernel
theorem dX9_of_35 : decode cX9_of 35 = .ok (.imul, 1) := by decide +kernel
theorem dX9_of_36 : decode cX9_of 36 = .ok (.iload_n 2, 1) := by decide +kernel
theorem dX9_of_37 : decode cX9_of 37 = .ok (.iadd, 1) := by decide +kernel
theorem dX9_of_38 : decode cX9_of 38 = .ok (.iaload, 1) := by decide +kernel
theorem dX9_of_39 : decode cX9_of 39 = .ok (.ireturn, 1) := by decide +kernel
theorem dX9_road_0 : decode cX9_road 0 = .ok (.aload_n 0, 1) := by decide +kernel
theorem dX9_road_1 : decode cX9_road 1 = .ok (.iload_n 1, 1) := by decide +kernel
theorem dX9_road_2 : decode cX9_road 2 = .ok (.iload_n 2, 1) := by decide +kernel
theorem dX9_road_3 : decode cX9_road 3 = .ok (.invokevirtual 120, 3) := by decide +kernel
theorem dX9_road_6 : decode cX9_road 6 = .ok (.ifCond .ne 5, 3) := by decide +kernel
theorem dX9_road_9 : decode cX9_road 9 = .ok (.iconst (-1), 1) := by decide +kernel
theorem dX9_road_10 : decode cX9_road 10 = .ok (.ireturn, 1) := by decide +kernel
theorem dX9_road_11 : decode cX9_road 11 = .ok (.iload_n 3, 1) := by decide +kernel
theorem dX9_road_12 : decode cX9_road 12 = .ok (.i2l, 1) := by decide +kernel
theorem dX9_road_13 : decode cX9_road 13 = .ok (.lconst 0, 1) := by decide +kernel
theorem dX9_road_14 : decode cX9_road 14 = .ok (.ldc2_w 194, 3) := by decide +kernel
theorem dX9_road_17 : decode cX9_road 17 = .ok (.invokestatic 116, 3) := by decide +kernel
theorem dX9_road_20 : decode cX9_road 20 = .ok (.ifCond .eq 16, 3) := by decide +kernel
theorem dX9_road_23 : decode cX9_road 23 = .ok (.iload 4, 2) := by decide +kernel
theorem dX9_road_25 : decode cX9_road 25 = .ok (.i2l, 1) := by decide +kernel
theorem dX9_road_26 : decode cX9_road 26 = .ok (.lconst 0, 1) := by decide +kernel
theorem dX9_road_27 : decode cX9_road 27 = .ok (.ldc2_w 176, 3) := by decide +kernel
theorem dX9_road_30 : decode cX9_road 30 = .ok (.invokestatic 116, 3) := by decide +kernel
theorem dX9_road_33 : decode cX9_road 33 = .ok (.ifCond .ne 6, 3) := by decide +kernel
theorem dX9_road_36 : decode cX9_road 36 = .ok (.bipush (-2), 2) := by decide +kernel
theorem dX9_road_38 : decode cX9_road 38 = .ok (.ireturn, 1) := by decide +kernel
theorem dX9_road_39 : decode cX9_road 39 = .ok (.bipush 100, 2) := by decide +kernel
theorem dX9_road_41 : decode cX9_road 41 = .ok (.aload_n 0, 1) := by decide +kernel
theorem dX9_road_42 : decode cX9_road 42 = .ok (.getfield 18, 3) := by decide +kernel
theorem dX9_road_45 : decode cX9_road 45 = .ok (.iconst 5, 1) := by decide +kernel
theorem dX9_road_46 : decode cX9_road 46 = .ok (.iload_n 1, 1) := by decide +kernel
theorem dX9_road_47 : decode cX9_road 47 = .ok (.imul, 1) := by decide +kernel
theorem dX9_road_48 : decode cX9_road 48 = .ok (.iload_n 2, 1) := by decide +kernel
theorem dX9_road_49 : decode cX9_road 49 = .ok (.iadd, 1) := by decide +kernel
theorem dX9_road_50 : decode cX9_road 50 = .ok (.iaload, 1) := by decide +kernel
theorem dX9_road_51 : decode cX9_road 51 = .ok (.imul, 1) := by decide +kernel
theorem dX9_road_52 : decode cX9_road 52 = .ok (.aload_n 0, 1) := by decide +kernel
theorem dX9_road_53 : decode cX9_road 53 = .ok (.getfield 21, 3) := by decide +kernel
theorem dX9_road_56 : decode cX9_road 56 = .ok (.iconst 5, 1) := by decide +kernel
theorem dX9_road_57 : decode cX9_road 57 = .ok (.iload_n 1, 1) := by decide +kernel
theorem dX9_road_58 : decode cX9_road 58 = .ok (.imul, 1) := by decide +kernel
theorem dX9_road_59 : decode cX9_road 59 = .ok (.iload_n 2, 1) := by decide +kernel
theorem dX9_road_60 : decode cX9_road 60 = .ok (.iadd, 1) := by decide +kernel
theorem dX9_road_61 : decode cX9_road 61 = .ok (.iaload, 1) := by decide +kernel
theorem dX9_road_62 : decode cX9_road 62 = .ok (.iadd, 1) := by decide +kernel
theorem dX9_road_63 : decode cX9_road 63 = .ok (.istore 5, 2) := by decide +kernel
theorem dX9_road_65 : decode cX9_road 65 = .ok (.aload_n 0, 1) := by decide +kernel
theorem dX9_road_66 : decode cX9_road 66 = .ok (.getfield 18, 3) := by decide +kernel
theorem dX9_road_69 : decode cX9_road 69 = .ok (.iconst 5, 1) := by decide +kernel
theorem dX9_road_70 : decode cX9_road 70 = .ok (.iload_n 1, 1) := by decide +kernel
theorem dX9_road_71 : decode cX9_road 71 = .ok (.imul, 1) := by decide +kernel
theorem dX9_road_72 : decode cX9_road 72 = .ok (.iload_n 2, 1) := by decide +kernel
theorem dX9_road_73 : decode cX9_road 73 = .ok (.iadd, 1) := by decide +kernel
theorem dX9_road_74 : decode cX9_road 74 = .ok (.iload_n 3, 1) := by decide +kernel
theorem dX9_road_75 : decode cX9_road 75 = .ok (.iastore, 1) := by decide +kernel
theorem dX9_road_76 : decode cX9_road 76 = .ok (.aload_n 0, 1) := by decide +kernel
theorem dX9_road_77 : decode cX9_road 77 = .ok (.getfield 21, 3) := by decide +kernel
theorem dX9_road_80 : decode cX9_road 80 = .ok (.iconst 5, 1) := by decide +kernel
theorem dX9_road_81 : decode cX9_road 81 = .ok (.iload_n 1, 1) := by decide +kernel
theorem dX9_road_82 : decode cX9_road 82 = .ok (.imul, 1) := by decide +kernel
theorem dX9_road_83 : decode cX9_road 83 = .ok (.iload_n 2, 1) := by decide +kernel
theorem dX9_road_84 : decode cX9_road 84 = .ok (.iadd, 1) := by decide +kernel
theorem dX9_road_85 : decode cX9_road 85 = .ok (.iload 4, 2) := by decide +kernel
theorem dX9_road_87 : decode cX9_road 87 = .ok (.iastore, 1) := by decide +kernel
theorem dX9_road_88 : decode cX9_road 88 = .ok (.aload_n 0, 1) := by decide +kernel
theorem dX9_road_89 : decode cX9_road 89 = .ok (.iconst 0, 1) := by decide +kernel
theorem dX9_road_90 : decode cX9_road 90 = .ok (.putfield 141, 3) := by decide +kernel
theorem dX9_road_93 : decode cX9_road 93 = .ok (.iload 5, 2) := by decide +kernel
theorem dX9_road_95 : decode cX9_road 95 = .ok (.ireturn, 1) := by decide +kernel
theorem dX9_costOf_0 : decode cX9_costOf 0 = .ok (.aload_n 0, 1) := by decide +kernel
theorem dX9_costOf_1 : decode cX9_costOf 1 = .ok (.getfield 21, 3) := by decide +kernel
theorem dX9_costOf_4 : decode cX9_costOf 4 = .ok (.iconst 5, 1) := by decide +kernel
theorem dX9_costOf_5 : decode cX9_costOf 5 = .ok (.iload_n 1, 1) := by decide +kernel
theorem dX9_costOf_6 : decode cX9_costOf 6 = .ok (.imul, 1) := by decide +kernel
theorem dX9_costOf_7 : decode cX9_costOf 7 = .ok (.iload_n 2, 1) := by decide +kernel
theorem dX9_costOf_8 : decode cX9_costOf 8 = .ok (.iadd, 1) := by decide +kernel
theorem dX9_costOf_9 : decode cX9_costOf 9 = .ok (.iaload, 1) := by decide +kernel
theorem dX9_costOf_10 : decode cX9_costOf 10 = .ok (.istore_n 3, 1) := by decide +kernel
theorem dX9_costOf_11 : decode cX9_costOf 11 = .ok (.aload_n 0, 1) := by decide +kernel
theorem dX9_costOf_12 : decode cX9_costOf 12 = .ok (.getfield 18, 3) := by decide +kernel
theorem dX9_costOf_15 : decode cX9_costOf 15 = .ok (.iconst 5, 1) := by decide +kernel
theorem dX9_costOf_16 : decode cX9_costOf 16 = .ok (.iload_n 1, 1) := by decide +kernel
theorem dX9_costOf_17 : decode cX9_costOf 17 = .ok (.imul, 1) := by decide +kernel
theorem dX9_costOf_18 : decode cX9_costOf 18 = .ok (.iload_n 2, 1) := by decide +kernel
theorem dX9_costOf_19 : decode cX9_costOf 19 = .ok (.iadd, 1) := by decide +kernel
theorem dX9_costOf_20 : decode cX9_costOf 20 = .ok (.iaload, 1) := by decide +kernel
theorem dX9_costOf_21 : decode cX9_costOf 21 = .ok (.tableswitch 58 0 2 #[27, 29, 38], 27) := by decide +kernel
theorem dX9_costOf_48 : decode cX9_costOf 48 = .ok (.iload_n 3, 1) := by decide +kernel
theorem dX9_costOf_49 : decode cX9_costOf 49 = .ok (.ireturn, 1) := by decide +kernel
theorem dX9_costOf_50 : decode cX9_costOf 50 = .ok (.iload_n 3, 1) := by decide +kernel
theorem dX9_costOf_51 : decode cX9_costOf 51 = .ok (.aload_n 0, 1) := by decide +kernel
theorem dX9_costOf_52 : decode cX9_costOf 52 = .ok (.getfield 15, 3) := by decide +kernel
theorem dX9_costOf_55 : decode cX9_costOf 55 = .ok (.iload_n 1, 1) := by decide +kernel
theorem dX9_costOf_56 : decode cX9_costOf 56 = .ok (.iaload, 1) := by decide +kernel
theorem dX9_costOf_57 : decode cX9_costOf 57 = .ok (.iadd, 1) := by decide +kernel
theorem dX9_costOf_58 : decode cX9_costOf 58 = .ok (.ireturn, 1) := by decide +kernel
theorem dX9_costOf_59 : decode cX9_costOf 59 = .ok (.iconst 2, 1) := by decide +kernel
theorem dX9_costOf_60 : decode cX9_costOf 60 = .ok (.iload_n 3, 1) := by decide +kernel
theorem dX9_costOf_61 : decode cX9_costOf 61 = .ok (.aload_n 0, 1) := by decide +kernel
theorem dX9_costOf_62 : decode cX9_costOf 62 = .ok (.getfield 15, 3) := by decide +kernel
theorem dX9_costOf_65 : decode cX9_costOf 65 = .ok (.iload_n 1, 1) := by decide +kernel
theorem dX9_costOf_66 : decode cX9_costOf 66 = .ok (.iaload, 1) := by decide +kernel
theorem dX9_costOf_67 : decode cX9_costOf 67 = .ok (.iadd, 1) := by decide +kernel
theorem dX9_costOf_68 : decode cX9_costOf 68 = .ok (.imul, 1) := by decide +kernel
theorem dX9_costOf_69 : decode cX9_costOf 69 = .ok (.aload_n 0, 1) := by decide +kernel
theorem dX9_costOf_70 : decode cX9_costOf 70 = .ok (.getfield 15, 3) := by decide +kernel
theorem dX9_costOf_73 : decode cX9_costOf 73 = .ok (.iconst 5, 1) := by decide +kernel
theorem dX9_costOf_74 : decode cX9_costOf 74 = .ok (.iload_n 2, 1) := by decide +kernel
theorem dX9_costOf_75 : decode cX9_costOf 75 = .ok (.iadd, 1) := by decide +kernel
theorem dX9_costOf_76 : decode cX9_costOf 76 = .ok (.iaload, 1) := by decide +kernel
theorem dX9_costOf_77 : decode cX9_costOf 77 = .ok (.iadd, 1) := by decide +kernel
theorem dX9_costOf_78 : decode cX9_costOf 78 = .ok (.ireturn, 1) := by decide +kernel
theorem dX9_costOf_79 : decode cX9_costOf 79 = .ok (.sipush 1000, 3) := by decide +kernel
theorem dX9_costOf_82 : decode cX9_costOf 82 = .ok (.ireturn, 1) := by decide +kernel
theorem dX9_roadOf_0 : decode cX9_roadOf 0 = .ok (.aload_n 0, 1) := by decide +kernel
theorem dX9_roadOf_1 : decode cX9_roadOf 1 = .ok (.iload_n 1, 1) := by decide +kernel
theorem dX9_roadOf_2 : decode cX9_roadOf 2 = .ok (.iload_n 2, 1) := by decide +kernel
theorem dX9_roadOf_3 : decode cX9_roadOf 3 = .ok (.invokevirtual 120, 3) := by decide +kernel
theorem dX9_roadOf_6 : decode cX9_roadOf 6 = .ok (.ifCond .eq 15, 3) := by decide +kernel
theorem dX9_roadOf_9 : decode cX9_roadOf 9 = .ok (.iload_n 3, 1) := by decide +kernel
theorem dX9_roadOf_10 : decode cX9_roadOf 10 = .ok (.i2l, 1) := by decide +kernel
theorem dX9_roadOf_11 : decode cX9_roadOf 11 = .ok (.lconst 0, 1) := by decide +kernel
theorem dX9_roadOf_12 : decode cX9_roadOf 12 = .ok (.ldc2_w 196, 3) := by decide +kernel
theorem dX9_roadOf_15 : decode cX9_roadOf 15 = .ok (.invokestatic 116, 3) := by decide +kernel
theorem dX9_roadOf_18 : decode cX9_roadOf 18 = .ok (.ifCond .ne 5, 3) := by decide +kernel
theorem dX9_roadOf_21 : decode cX9_roadOf 21 = .ok (.iconst (-1), 1) := by decide +kernel
theorem dX9_roadOf_22 : decode cX9_roadOf 22 = .ok (.ireturn, 1) := by decide +kernel
theorem dX9_roadOf_23 : decode cX9_roadOf 23 = .ok (.iload_n 3, 1) := by decide +kernel
theorem dX9_roadOf_24 : decode cX9_roadOf 24 = .ok (.ifCond .ne 16, 3) := by decide +kernel
theorem dX9_roadOf_27 : decode cX9_roadOf 27 = .ok (.aload_n 0, 1) := by decide +kernel
theorem dX9_roadOf_28 : decode cX9_roadOf 28 = .ok (.getfield 18, 3) := by decide +kernel
theorem dX9_roadOf_31 : decode cX9_roadOf 31 = .ok (.iconst 5, 1) := by decide +kernel
theorem dX9_roadOf_32 : decode cX9_roadOf 32 = .ok (.iload_n 1, 1) := by decide +kernel
theorem dX9_roadOf_33 : decode cX9_roadOf 33 = .ok (.imul, 1) := by decide +kernel
theorem dX9_roadOf_34 : decode cX9_roadOf 34 = .ok (.iload_n 2, 1) := by decide +kernel
theorem dX9_roadOf_35 : decode cX9_roadOf 35 = .ok (.iadd, 1) := by decide +kernel
theorem dX9_roadOf_36 : decode cX9_roadOf 36 = .ok (.iaload, 1) := by decide +kernel
theorem dX9_roadOf_37 : decode cX9_roadOf 37 = .ok (.goto 27, 3) := by decide +kernel
theorem dX9_roadOf_40 : decode cX9_roadOf 40 = .ok (.iload_n 3, 1) := by decide +kernel
theorem dX9_roadOf_41 : decode cX9_roadOf 41 = .ok (.iconst 1, 1) := by decide +kernel
theorem dX9_roadOf_42 : decode cX9_roadOf 42 = .ok (.if_icmp .ne 16, 3) := by decide +kernel
theorem dX9_roadOf_45 : decode cX9_roadOf 45 = .ok (.aload_n 0, 1) := by decide +kernel
theorem dX9_roadOf_46 : decode cX9_roadOf 46 = .ok (.getfield 21, 3) := by decide +kernel
theorem dX9_roadOf_49 : decode cX9_roadOf 49 = .ok (.iconst 5, 1) := by decide +kernel
theorem dX9_roadOf_50 : decode cX9_roadOf 50 = .ok (.iload_n 1, 1) := by decide +kernel
theorem dX9_roadOf_51 : decode cX9_roadOf 51 = .ok (.imul, 1) := by decide +kernel
theorem dX9_roadOf_52 : decode cX9_roadOf 52 = .ok (.iload_n 2, 1) := by decide +kernel
theorem dX9_roadOf_53 : decode cX9_roadOf 53 = .ok (.iadd, 1) := by decide +kernel
theorem dX9_roadOf_54 : decode cX9_roadOf 54 = .ok (.iaload, 1) := by decide +kernel
theorem dX9_roadOf_55 : decode cX9_roadOf 55 = .ok (.goto 9, 3) := by decide +kernel
theorem dX9_roadOf_58 : decode cX9_roadOf 58 = .ok (.aload_n 0, 1) := by decide +kernel
theorem dX9_roadOf_59 : decode cX9_roadOf 59 = .ok (.iload_n 1, 1) := by decide +kernel
theorem dX9_roadOf_60 : decode cX9_roadOf 60 = .ok (.iload_n 2, 1) := by decide +kernel
theorem dX9_roadOf_61 : decode cX9_roadOf 61 = .ok (.invokevirtual 198, 3) := by decide +kernel
theorem dX9_roadOf_64 : decode cX9_roadOf 64 = .ok (.ireturn, 1) := by decide +kernel
theorem dX9_here_0 : decode cX9_here 0 = .ok (.aload_n 0, 1) := by decide +kernel
theorem dX9_here_1 : decode cX9_here 1 = .ok (.getfield 202, 3) := by decide +kernel
theorem dX9_here_4 : decode cX9_here 4 = .ok (.aload_n 0, 1) := by decide +kernel
theorem dX9_here_5 : decode cX9_here 5 = .ok (.getfield 205, 3) := by decide +kernel
theorem dX9_here_8 : decode cX9_here 8 = .ok (.if_icmp .ge 15, 3) := by decide +kernel
theorem dX9_here_11 : decode cX9_here 11 = .ok (.aload_n 0, 1) := by decide +kernel
theorem dX9_here_12 : decode cX9_here 12 = .ok (.getfield 54, 3) := by decide +kernel
theorem dX9_here_15 : decode cX9_here 15 = .ok (.aload_n 0, 1) := by decide +kernel
theorem dX9_here_16 : decode cX9_here 16 = .ok (.getfield 202, 3) := by decide +kernel
theorem dX9_here_19 : decode cX9_here 19 = .ok (.iaload, 1) := by decide +kernel
theorem dX9_here_20 : decode cX9_here 20 = .ok (.goto 4, 3) := by decide +kernel
theorem dX9_here_23 : decode cX9_here 23 = .ok (.iconst (-1), 1) := by decide +kernel
theorem dX9_here_24 : decode cX9_here 24 = .ok (.ireturn, 1) := by decide +kernel
theorem dX9_takes_0 : decode cX9_takes 0 = .ok (.aload_n 0, 1) := by decide +kernel
theorem dX9_takes_1 : decode cX9_takes 1 = .ok (.dup, 1) := by decide +kernel
theorem dX9_takes_2 : decode cX9_takes 2 = .ok (.getfield 208, 3) := by decide +kernel
theorem dX9_takes_5 : decode cX9_takes 5 = .ok (.aload_n 0, 1) := by decide +kernel
theorem dX9_takes_6 : decode cX9_takes 6 = .ok (.invokevirtual 211, 3) := by decide +kernel
theorem dX9_takes_9 : decode cX9_takes 9 = .ok (.i2l, 1) := by decide +kernel
theorem dX9_takes_10 : decode cX9_takes 10 = .ok (.iload_n 1, 1) := by decide +kernel
theorem dX9_takes_11 : decode cX9_takes 11 = .ok (.i2l, 1) := by decide +kernel
theorem dX9_takes_12 : decode cX9_takes 12 = .ok (.iload_n 2, 1) := by decide +kernel
theorem dX9_takes_13 : decode cX9_takes 13 = .ok (.i2l, 1) := by decide +kernel
theorem dX9_takes_14 : decode cX9_takes 14 = .ok (.invokestatic 116, 3) := by decide +kernel
theorem dX9_takes_17 : decode cX9_takes 17 = .ok (.ifCond .ne 7, 3) := by decide +kernel
theorem dX9_takes_20 : decode cX9_takes 20 = .ok (.iconst 1, 1) := by decide +kernel
theorem dX9_takes_21 : decode cX9_takes 21 = .ok (.goto 4, 3) := by decide +kernel
theorem dX9_takes_24 : decode cX9_takes 24 = .ok (.iconst 0, 1) := by decide +kernel
theorem dX9_takes_25 : decode cX9_takes 25 = .ok (.ior, 1) := by decide +kernel
theorem dX9_takes_26 : decode cX9_takes 26 = .ok (.putfield 208, 3) := by decide +kernel
theorem dX9_takes_29 : decode cX9_takes 29 = .ok (.aload_n 0, 1) := by decide +kernel
theorem dX9_takes_30 : decode cX9_takes 30 = .ok (.getfield 208, 3) := by decide +kernel
theorem dX9_takes_33 : decode cX9_takes 33 = .ok (.ifCond .eq 7, 3) := by decide +kernel
theorem dX9_takes_36 : decode cX9_takes 36 = .ok (.iconst 0, 1) := by decide +kernel
theorem dX9_takes_37 : decode cX9_takes 37 = .ok (.goto 9, 3) := by decide +kernel
theorem dX9_takes_40 : decode cX9_takes 40 = .ok (.aload_n 0, 1) := by decide +kernel
theorem dX9_takes_41 : decode cX9_takes 41 = .ok (.invokevirtual 211, 3) := by decide +kernel
theorem dX9_takes_44 : decode cX9_takes 44 = .ok (.iload_n 1, 1) := by decide +kernel
theorem dX9_takes_45 : decode cX9_takes 45 = .ok (.isub, 1) := by decide +kernel
theorem dX9_takes_46 : decode cX9_takes 46 = .ok (.istore_n 3, 1) := by decide +kernel
theorem dX9_takes_47 : decode cX9_takes 47 = .ok (.aload_n 0, 1) := by decide +kernel
theorem dX9_takes_48 : decode cX9_takes 48 = .ok (.dup, 1) := by decide +kernel
theorem dX9_takes_49 : decode cX9_takes 49 = .ok (.getfield 202, 3) := by decide +kernel
theorem dX9_takes_52 : decode cX9_takes 52 = .ok (.aload_n 0, 1) := by decide +kernel
theorem dX9_takes_53 : decode cX9_takes 53 = .ok (.getfield 208, 3) := by decide +kernel
theorem dX9_takes_56 : decode cX9_takes 56 = .ok (.ifCond .eq 7, 3) := by decide +kernel
theorem dX9_takes_59 : decode cX9_takes 59 = .ok (.iconst 0, 1) := by decide +kernel
theorem dX9_takes_60 : decode cX9_takes 60 = .ok (.goto 4, 3) := by decide +kernel
theorem dX9_takes_63 : decode cX9_takes 63 = .ok (.iconst 1, 1) := by decide +kernel
theorem dX9_takes_64 : decode cX9_takes 64 = .ok (.iadd, 1) := by decide +kernel
theorem dX9_takes_65 : decode cX9_takes 65 = .ok (.putfield 202, 3) := by decide +kernel
theorem dX9_takes_68 : decode cX9_takes 68 = .ok (.iload_n 3, 1) := by decide +kernel
theorem dX9_takes_69 : decode cX9_takes 69 = .ok (.ireturn, 1) := by decide +kernel
theorem dX9_takesNumber_0 : decode cX9_takesNumber 0 = .ok (.aload_n 0, 1) := by decide +kernel
theorem dX9_takesNumber_1 : decode cX9_takesNumber 1 = .ok (.bipush 48, 2) := by decide +kernel
theorem dX9_takesNumber_3 : decode cX9_takesNumber 3 = .ok (.bipush 57, 2) := by decide +kernel
theorem dX9_takesNumber_5 : decode cX9_takesNumber 5 = .ok (.invokevirtual 215, 3) := by decide +kernel
theorem dX9_takesNumber_8 : decode cX9_takesNumber 8 = .ok (.istore_n 1, 1) := by decide +kernel
theorem dX9_takesNumber_9 : decode cX9_takesNumber 9 = .ok (.aload_n 0, 1) := by decide +kernel
theorem dX9_takesNumber_10 : decode cX9_takesNumber 10 = .ok (.getfield 208, 3) := by decide +kernel
theorem dX9_takesNumber_13 : decode cX9_takesNumber 13 = .ok (.ifCond .ne 36, 3) := by decide +kernel
theorem dX9_takesNumber_16 : decode cX9_takesNumber 16 = .ok (.aload_n 0, 1) := by decide +kernel
theorem dX9_takesNumber_17 : decode cX9_takesNumber 17 = .ok (.invokevirtual 211, 3) := by decide +kernel
theorem dX9_takesNumber_20 : decode cX9_takesNumber 20 = .ok (.i2l, 1) := by decide +kernel
theorem dX9_takesNumber_21 : decode cX9_takesNumber 21 = .ok (.ldc2_w 218, 3) := by decide +kernel
theorem dX9_takesNumber_24 : decode cX9_takesNumber 24 = .ok (.ldc2_w 220, 3) := by decide +kernel
theorem dX9_takesNumber_27 : decode cX9_takesNumber 27 = .ok (.invokestatic 116, 3) := by decide +kernel
theorem dX9_takesNumber_30 : decode cX9_takesNumber 30 = .ok (.ifCond .eq 19, 3) := by decide +kernel
theorem dX9_takesNumber_33 : decode cX9_takesNumber 33 = .ok (.bipush 10, 2) := by decide +kernel
theorem dX9_takesNumber_35 : decode cX9_takesNumber 35 = .ok (.iload_n 1, 1) := by decide +kernel
theorem dX9_takesNumber_36 : decode cX9_takesNumber 36 = .ok (.imul, 1) := by decide +kernel
theorem dX9_takesNumber_37 : decode cX9_takesNumber 37 = .ok (.aload_n 0, 1) := by decide +kernel
theorem dX9_takesNumber_38 : decode cX9_takesNumber 38 = .ok (.bipush 48, 2) := by decide +kernel
theorem dX9_takesNumber_40 : decode cX9_takesNumber 40 = .ok (.bipush 57, 2) := by decide +kernel
theorem dX9_takesNumber_42 : decode cX9_takesNumber 42 = .ok (.invokevirtual 215, 3) := by decide +kernel
theorem dX9_takesNumber_45 : decode cX9_takesNumber 45 = .ok (.iadd, 1) := by decide +kernel
theorem dX9_takesNumber_46 : decode cX9_takesNumber 46 = .ok (.goto 4, 3) := by decide +kernel
theorem dX9_takesNumber_49 : decode cX9_takesNumber 49 = .ok (.iload_n 1, 1) := by decide +kernel
theorem dX9_takesNumber_50 : decode cX9_takesNumber 50 = .ok (.ireturn, 1) := by decide +kernel
theorem dX9_takesKind_0 : decode cX9_takesKind 0 = .ok (.aload_n 0, 1) := by decide +kernel
theorem dX9_takesKind_1 : decode cX9_takesKind 1 = .ok (.invokevirtual 211, 3) := by decide +kernel
theorem dX9_takesKind_4 : decode cX9_takesKind 4 = .ok (.istore_n 1, 1) := by decide +kernel
theorem dX9_takesKind_5 : decode cX9_takesKind 5 = .ok (.iload_n 1, 1) := by decide +kernel
theorem dX9_takesKind_6 : decode cX9_takesKind 6 = .ok (.bipush 112, 2) := by decide +kernel
theorem dX9_takesKind_8 : decode cX9_takesKind 8 = .ok (.if_icmp .ne 7, 3) := by decide +kernel
theorem dX9_takesKind_11 : decode cX9_takesKind 11 = .ok (.iconst 0, 1) := by decide +kernel
theorem dX9_takesKind_12 : decode cX9_takesKind 12 = .ok (.goto 34, 3) := by decide +kernel
theorem dX9_takesKind_15 : decode cX9_takesKind 15 = .ok (.iload_n 1, 1) := by decide +kernel
theorem dX9_takesKind_16 : decode cX9_takesKind 16 = .ok (.bipush 116, 2) := by decide +kernel
theorem dX9_takesKind_18 : decode cX9_takesKind 18 = .ok (.if_icmp .ne 7, 3) := by decide +kernel
theorem dX9_takesKind_21 : decode cX9_takesKind 21 = .ok (.iconst 1, 1) := by decide +kernel
theorem dX9_takesKind_22 : decode cX9_takesKind 22 = .ok (.goto 24, 3) := by decide +kernel
theorem dX9_takesKind_25 : decode cX9_takesKind 25 = .ok (.iload_n 1, 1) := by decide +kernel
theorem dX9_takesKind_26 : decode cX9_takesKind 26 = .ok (.bipush 115, 2) := by decide +kernel
theorem dX9_takesKind_28 : decode cX9_takesKind 28 = .ok (.if_icmp .ne 7, 3) := by decide +kernel
theorem dX9_takesKind_31 : decode cX9_takesKind 31 = .ok (.iconst 2, 1) := by decide +kernel
theorem dX9_takesKind_32 : decode cX9_takesKind 32 = .ok (.goto 14, 3) := by decide +kernel
theorem dX9_takesKind_35 : decode cX9_takesKind 35 = .ok (.iload_n 1, 1) := by decide +kernel
theorem dX9_takesKind_36 : decode cX9_takesKind 36 = .ok (.bipush 120, 2) := by decide +kernel
theorem dX9_takesKind_38 : decode cX9_takesKind 38 = .ok (.if_icmp .ne 7, 3) := by decide +kernel
theorem dX9_takesKind_41 : decode cX9_takesKind 41 = .ok (.iconst 3, 1) := by decide +kernel
theorem dX9_takesKind_42 : decode cX9_takesKind 42 = .ok (.goto 4, 3) := by decide +kernel
theorem dX9_takesKind_45 : decode cX9_takesKind 45 = .ok (.iconst (-1), 1) := by decide +kernel
theorem dX9_takesKind_46 : decode cX9_takesKind 46 = .ok (.istore_n 2, 1) := by decide +kernel
theorem dX9_takesKind_47 : decode cX9_takesKind 47 = .ok (.aload_n 0, 1) := by decide +kernel
theorem dX9_takesKind_48 : decode cX9_takesKind 48 = .ok (.dup, 1) := by decide +kernel
theorem dX9_takesKind_49 : decode cX9_takesKind 49 = .ok (.getfield 208, 3) := by decide +kernel
theorem dX9_takesKind_52 : decode cX9_takesKind 52 = .ok (.iload_n 2, 1) := by decide +kernel
theorem dX9_takesKind_53 : decode cX9_takesKind 53 = .ok (.ifCond .ge 7, 3) := by decide +kernel
theorem dX9_takesKind_56 : decode cX9_takesKind 56 = .ok (.iconst 1, 1) := by decide +kernel
theorem dX9_takesKind_57 : decode cX9_takesKind 57 = .ok (.goto 4, 3) := by decide +kernel
theorem dX9_takesKind_60 : decode cX9_takesKind 60 = .ok (.iconst 0, 1) := by decide +kernel
theorem dX9_takesKind_61 : decode cX9_takesKind 61 = .ok (.ior, 1) := by decide +kernel
theorem dX9_takesKind_62 : decode cX9_takesKind 62 = .ok (.putfield 208, 3) := by decide +kernel
theorem dX9_takesKind_65 : decode cX9_takesKind 65 = .ok (.aload_n 0, 1) := by decide +kernel
theorem dX9_takesKind_66 : decode cX9_takesKind 66 = .ok (.dup, 1) := by decide +kernel
theorem dX9_takesKind_67 : decode cX9_takesKind 67 = .ok (.getfield 202, 3) := by decide +kernel
theorem dX9_takesKind_70 : decode cX9_takesKind 70 = .ok (.aload_n 0, 1) := by decide +kernel
theorem dX9_takesKind_71 : decode cX9_takesKind 71 = .ok (.getfield 208, 3) := by decide +kernel
theorem dX9_takesKind_74 : decode cX9_takesKind 74 = .ok (.ifCond .eq 7, 3) := by decide +kernel
theorem dX9_takesKind_77 : decode cX9_takesKind 77 = .ok (.iconst 0, 1) := by decide +kernel
theorem dX9_takesKind_78 : decode cX9_takesKind 78 = .ok (.goto 4, 3) := by decide +kernel
theorem dX9_takesKind_81 : decode cX9_takesKind 81 = .ok (.iconst 1, 1) := by decide +kernel
theorem dX9_takesKind_82 : decode cX9_takesKind 82 = .ok (.iadd, 1) := by decide +kernel
theorem dX9_takesKind_83 : decode cX9_takesKind 83 = .ok (.putfield 202, 3) := by decide +kernel
theorem dX9_takesKind_86 : decode cX9_takesKind 86 = .ok (.iload_n 2, 1) := by decide +kernel
theorem dX9_takesKind_87 : decode cX9_takesKind 87 = .ok (.ireturn, 1) := by decide +kernel
theorem dX9_clause_0 : decode cX9_clause 0 = .ok (.aload_n 0, 1) := by decide +kernel
theorem dX9_clause_1 : decode cX9_clause 1 = .ok (.invokevirtual 211, 3) := by decide +kernel
theorem dX9_clause_4 : decode cX9_clause 4 = .ok (.istore_n 2, 1) := by decide +kernel
theorem dX9_clause_5 : decode cX9_clause 5 = .ok (.iload_n 2, 1) := by decide +kernel
theorem dX9_clause_6 : decode cX9_clause 6 = .ok (.bipush 113, 2) := by decide +kernel
theorem dX9_clause_8 : decode cX9_clause 8 = .ok (.if_icmp .eq 21, 3) := by decide +kernel
theorem dX9_clause_11 : decode cX9_clause 11 = .ok (.iload_n 2, 1) := by decide +kernel
theorem dX9_clause_12 : decode cX9_clause 12 = .ok (.bipush 119, 2) := by decide +kernel
theorem dX9_clause_14 : decode cX9_clause 14 = .ok (.if_icmp .eq 15, 3) := by decide +kernel
theorem dX9_clause_17 : decode cX9_clause 17 = .ok (.iload_n 2, 1) := by decide +kernel
theorem dX9_clause_18 : decode cX9_clause 18 = .ok (.bipush 114, 2) := by decide +kernel
theorem dX9_clause_20 : decode cX9_clause 20 = .ok (.if_icmp .eq 9, 3) := by decide +kernel
theorem dX9_clause_23 : decode cX9_clause 23 = .ok (.aload_n 0, 1) := by decide +kernel
theorem dX9_clause_24 : decode cX9_clause 24 = .ok (.iconst 1, 1) := by decide +kernel
theorem dX9_clause_25 : decode cX9_clause 25 = .ok (.putfield 208, 3) := by decide +kernel
theorem dX9_clause_28 : decode cX9_clause 28 = .ok (.return_, 1) := by decide +kernel
theorem dX9_clause_29 : decode cX9_clause 29 = .ok (.aload_n 0, 1) := by decide +kernel
theorem dX9_clause_30 : decode cX9_clause 30 = .ok (.dup, 1) := by decide +kernel
theorem dX9_clause_31 : decode cX9_clause 31 = .ok (.getfield 202, 3) := by decide +kernel
theorem dX9_clause_34 : decode cX9_clause 34 = .ok (.iconst 1, 1) := by decide +kernel
theorem dX9_clause_35 : decode cX9_clause 35 = .ok (.iadd, 1) := by decide +kernel
theorem dX9_clause_36 : decode cX9_clause 36 = .ok (.putfield 202, 3) := by decide +kernel
theorem dX9_clause_39 : decode cX9_clause 39 = .ok (.iload_n 2, 1) := by decide +kernel
theorem dX9_clause_40 : decode cX9_clause 40 = .ok (.bipush 114, 2) := by decide +kernel
theorem dX9_clause_42 : decode cX9_clause 42 = .ok (.if_icmp .ne 70, 3) := by decide +kernel
theorem dX9_clause_45 : decode cX9_clause 45 = .ok (.aload_n 0, 1) := by decide +kernel
theorem dX9_clause_46 : decode cX9_clause 46 = .ok (.bipush 48, 2) := by decide +kernel
theorem dX9_clause_48 : decode cX9_clause 48 = .ok (.bipush 57, 2) := by decide +kernel
theorem dX9_clause_50 : decode cX9_clause 50 = .ok (.invokevirtual 215, 3) := by decide +kernel
theorem dX9_clause_53 : decode cX9_clause 53 = .ok (.istore 4, 2) := by decide +kernel
theorem dX9_clause_55 : decode cX9_clause 55 = .ok (.aload_n 0, 1) := by decide +kernel
theorem dX9_clause_56 : decode cX9_clause 56 = .ok (.bipush 48, 2) := by decide +kernel
theorem dX9_clause_58 : decode cX9_clause 58 = .ok (.bipush 57, 2) := by decide +kernel
theorem dX9_clause_60 : decode cX9_clause 60 = .ok (.invokevirtual 215, 3) := by decide +kernel
theorem dX9_clause_63 : decode cX9_clause 63 = .ok (.istore 5, 2) := by decide +kernel
theorem dX9_clause_65 : decode cX9_clause 65 = .ok (.aload_n 0, 1) := by decide +kernel
theorem dX9_clause_66 : decode cX9_clause 66 = .ok (.getfield 208, 3) := by decide +kernel
theorem dX9_clause_69 : decode cX9_clause 69 = .ok (.ifCond .eq 7, 3) := by decide +kernel
theorem dX9_clause_72 : decode cX9_clause 72 = .ok (.iconst 0, 1) := by decide +kernel
theorem dX9_clause_73 : decode cX9_clause 73 = .ok (.goto 7, 3) := by decide +kernel
theorem dX9_clause_76 : decode cX9_clause 76 = .ok (.aload_n 0, 1) := by decide +kernel
theorem dX9_clause_77 : decode cX9_clause 77 = .ok (.invokevirtual 222, 3) := by decide +kernel
theorem dX9_clause_80 : decode cX9_clause 80 = .ok (.istore 6, 2) := by decide +kernel
theorem dX9_clause_82 : decode cX9_clause 82 = .ok (.aload_n 0, 1) := by decide +kernel
theorem dX9_clause_83 : decode cX9_clause 83 = .ok (.invokevirtual 225, 3) := by decide +kernel
theorem dX9_clause_86 : decode cX9_clause 86 = .ok (.istore 7, 2) := by decide +kernel
theorem dX9_clause_88 : decode cX9_clause 88 = .ok (.iload_n 1, 1) := by decide +kernel
theorem dX9_clause_89 : decode cX9_clause 89 = .ok (.ifCond .eq 18, 3) := by decide +kernel
theorem dX9_clause_92 : decode cX9_clause 92 = .ok (.aload_n 0, 1) := by decide +kernel
theorem dX9_clause_93 : decode cX9_clause 93 = .ok (.iload 4, 2) := by decide +kernel
theorem dX9_clause_95 : decode cX9_clause 95 = .ok (.iload 5, 2) := by decide +kernel
theorem dX9_clause_97 : decode cX9_clause 97 = .ok (.iload 6, 2) := by decide +kernel
theorem dX9_clause_99 : decode cX9_clause 99 = .ok (.iload 7, 2) := by decide +kernel
theorem dX9_clause_101 : decode cX9_clause 101 = .ok (.invokevirtual 228, 3) := by decide +kernel
theorem dX9_clause_104 : decode cX9_clause 104 = .ok (.goto 4, 3) := by decide +kernel
theorem dX9_clause_107 : decode cX9_clause 107 = .ok (.iconst 0, 1) := by decide +kernel
theorem dX9_clause_108 : decode cX9_clause 108 = .ok (.istore_n 3, 1) := by decide +kernel
theorem dX9_clause_109 : decode cX9_clause 109 = .ok (.goto 56, 3) := by decide +kernel
theorem dX9_clause_112 : decode cX9_clause 112 = .ok (.aload_n 0, 1) := by decide +kernel
theorem dX9_clause_113 : decode cX9_clause 113 = .ok (.invokevirtual 225, 3) := by decide +kernel
theorem dX9_clause_116 : decode cX9_clause 116 = .ok (.istore 4, 2) := by decide +kernel
theorem dX9_clause_118 : decode cX9_clause 118 = .ok (.aload_n 0, 1) := by decide +kernel
theorem dX9_clause_119 : decode cX9_clause 119 = .ok (.bipush 44, 2) := by decide +kernel
theorem dX9_clause_121 : decode cX9_clause 121 = .ok (.bipush 44, 2) := by decide +kernel
theorem dX9_clause_123 : decode cX9_clause 123 = .ok (.invokevirtual 215, 3) := by decide +kernel
theorem dX9_clause_126 : decode cX9_clause 126 = .ok (.pop, 1) := by decide +kernel
theorem dX9_clause_127 : decode cX9_clause 127 = .ok (.aload_n 0, 1) := by decide +kernel
theorem dX9_clause_128 : decode cX9_clause 128 = .ok (.bipush 48, 2) := by decide +kernel
theorem dX9_clause_130 : decode cX9_clause 130 = .ok (.bipush 57, 2) := by decide +kernel
theorem dX9_clause_132 : decode cX9_clause 132 = .ok (.invokevirtual 215, 3) := by decide +kernel
theorem dX9_clause_135 : decode cX9_clause 135 = .ok (.istore 5, 2) := by decide +kernel
theorem dX9_clause_137 : decode cX9_clause 137 = .ok (.iload_n 1, 1) := by decide +kernel
theorem dX9_clause_138 : decode cX9_clause 138 = .ok (.ifCond .eq 25, 3) := by decide +kernel
theorem dX9_clause_141 : decode cX9_clause 141 = .ok (.aload_n 0, 1) := by decide +kernel
theorem dX9_clause_142 : decode cX9_clause 142 = .ok (.iload_n 2, 1) := by decide +kernel
theorem dX9_clause_143 : decode cX9_clause 143 = .ok (.bipush 113, 2) := by decide +kernel
theorem dX9_clause_145 : decode cX9_clause 145 = .ok (.if_icmp .ne 7, 3) := by decide +kernel
theorem dX9_clause_148 : decode cX9_clause 148 = .ok (.iconst 0, 1) := by decide +kernel
theorem dX9_clause_149 : decode cX9_clause 149 = .ok (.goto 4, 3) := by decide +kernel
theorem dX9_clause_152 : decode cX9_clause 152 = .ok (.iconst 1, 1) := by decide +kernel
theorem dX9_clause_153 : decode cX9_clause 153 = .ok (.iload 4, 2) := by decide +kernel
theorem dX9_clause_155 : decode cX9_clause 155 = .ok (.iload 5, 2) := by decide +kernel
theorem dX9_clause_157 : decode cX9_clause 157 = .ok (.invokevirtual 183, 3) := by decide +kernel
theorem dX9_clause_160 : decode cX9_clause 160 = .ok (.goto 4, 3) := by decide +kernel
theorem dX9_clause_163 : decode cX9_clause 163 = .ok (.iconst 0, 1) := by decide +kernel
theorem dX9_clause_164 : decode cX9_clause 164 = .ok (.istore_n 3, 1) := by decide +kernel
theorem dX9_clause_165 : decode cX9_clause 165 = .ok (.aload_n 0, 1) := by decide +kernel
theorem dX9_clause_166 : decode cX9_clause 166 = .ok (.dup, 1) := by decide +kernel
theorem dX9_clause_167 : decode cX9_clause 167 = .ok (.getfield 232, 3) := by decide +kernel
theorem dX9_clause_170 : decode cX9_clause 170 = .ok (.aload_n 0, 1) := by decide +kernel
theorem dX9_clause_171 : decode cX9_clause 171 = .ok (.getfield 208, 3) := by decide +kernel
theorem dX9_clause_174 : decode cX9_clause 174 = .ok (.ifCond .eq 7, 3) := by decide +kernel
theorem dX9_clause_177 : decode cX9_clause 177 = .ok (.iconst 0, 1) := by decide +kernel
theorem dX9_clause_178 : decode cX9_clause 178 = .ok (.goto 4, 3) := by decide +kernel
theorem dX9_clause_181 : decode cX9_clause 181 = .ok (.iconst 1, 1) := by decide +kernel
theorem dX9_clause_182 : decode cX9_clause 182 = .ok (.iadd, 1) := by decide +kernel
theorem dX9_clause_183 : decode cX9_clause 183 = .ok (.putfield 232, 3) := by decide +kernel
theorem dX9_clause_186 : decode cX9_clause 186 = .ok (.aload_n 0, 1) := by decide +kernel
theorem dX9_clause_187 : decode cX9_clause 187 = .ok (.dup, 1) := by decide +kernel
theorem dX9_clause_188 : decode cX9_clause 188 = .ok (.getfield 235, 3) := by decide +kernel
theorem dX9_clause_191 : decode cX9_clause 191 = .ok (.iload_n 3, 1) := by decide +kernel
theorem dX9_clause_192 : decode cX9_clause 192 = .ok (.ifCond .lt 7, 3) := by decide +kernel
theorem dX9_clause_195 : decode cX9_clause 195 = .ok (.iconst 1, 1) := by decide +kernel
theorem dX9_clause_196 : decode cX9_clause 196 = .ok (.goto 4, 3) := by decide +kernel
theorem dX9_clause_199 : decode cX9_clause 199 = .ok (.iconst 0, 1) := by decide +kernel
theorem dX9_clause_200 : decode cX9_clause 200 = .ok (.iadd, 1) := by decide +kernel
theorem dX9_clause_201 : decode cX9_clause 201 = .ok (.putfield 235, 3) := by decide +kernel
theorem dX9_clause_204 : decode cX9_clause 204 = .ok (.return_, 1) := by decide +kernel
theorem dX9_goesThrough_0 : decode cX9_goesThrough 0 = .ok (.aload_n 0, 1) := by decide +kernel
theorem dX9_goesThrough_1 : decode cX9_goesThrough 1 = .ok (.iconst 0, 1) := by decide +kernel
theorem dX9_goesThrough_2 : decode cX9_goesThrough 2 = .ok (.putfield 202, 3) := by decide +kernel
theorem dX9_goesThrough_5 : decode cX9_goesThrough 5 = .ok (.aload_n 0, 1) := by decide +kernel
theorem dX9_goesThrough_6 : decode cX9_goesThrough 6 = .ok (.iconst 0, 1) := by decide +kernel
theorem dX9_goesThrough_7 : decode cX9_goesThrough 7 = .ok (.putfield 232, 3) := by decide +kernel
theorem dX9_goesThrough_10 : decode cX9_goesThrough 10 = .ok (.aload_n 0, 1) := by decide +kernel
theorem dX9_goesThrough_11 : decode cX9_goesThrough 11 = .ok (.iconst 0, 1) := by decide +kernel
theorem dX9_goesThrough_12 : decode cX9_goesThrough 12 = .ok (.putfield 235, 3) := by decide +kernel
theorem dX9_goesThrough_15 : decode cX9_goesThrough 15 = .ok (.aload_n 0, 1) := by decide +kernel
theorem dX9_goesThrough_16 : decode cX9_goesThrough 16 = .ok (.iconst 0, 1) := by decide +kernel
theorem dX9_goesThrough_17 : decode cX9_goesThrough 17 = .ok (.putfield 208, 3) := by decide +kernel
theorem dX9_goesThrough_20 : decode cX9_goesThrough 20 = .ok (.aload_n 0, 1) := by decide +kernel
theorem dX9_goesThrough_21 : decode cX9_goesThrough 21 = .ok (.iload_n 1, 1) := by decide +kernel
theorem dX9_goesThrough_22 : decode cX9_goesThrough 22 = .ok (.invokevirtual 238, 3) := by decide +kernel
theorem dX9_goesThrough_25 : decode cX9_goesThrough 25 = .ok (.aload_n 0, 1) := by decide +kernel
theorem dX9_goesThrough_26 : decode cX9_goesThrough 26 = .ok (.getfield 208, 3) := by decide +kernel
theorem dX9_goesThrough_29 : decode cX9_goesThrough 29 = .ok (.ifCond .ne 66, 3) := by decide +kernel
theorem dX9_goesThrough_32 : decode cX9_goesThrough 32 = .ok (.aload_n 0, 1) := by decide +kernel
theorem dX9_goesThrough_33 : decode cX9_goesThrough 33 = .ok (.getfield 202, 3) := by decide +kernel
theorem dX9_goesThrough_36 : decode cX9_goesThrough 36 = .ok (.aload_n 0, 1) := by decide +kernel
theorem dX9_goesThrough_37 : decode cX9_goesThrough 37 = .ok (.getfield 205, 3) := by decide +kernel
theorem dX9_goesThrough_40 : decode cX9_goesThrough 40 = .ok (.if_icmp .ge 55, 3) := by decide +kernel
theorem dX9_goesThrough_43 : decode cX9_goesThrough 43 = .ok (.aload_n 0, 1) := by decide +kernel
theorem dX9_goesThrough_44 : decode cX9_goesThrough 44 = .ok (.aload_n 0, 1) := by decide +kernel
theorem dX9_goesThrough_45 : decode cX9_goesThrough 45 = .ok (.getfield 232, 3) := by decide +kernel
theorem dX9_goesThrough_48 : decode cX9_goesThrough 48 = .ok (.bipush 12, 2) := by decide +kernel
theorem dX9_goesThrough_50 : decode cX9_goesThrough 50 = .ok (.if_icmp .eq 12, 3) := by decide +kernel
theorem dX9_goesThrough_53 : decode cX9_goesThrough 53 = .ok (.aload_n 0, 1) := by decide +kernel
theorem dX9_goesThrough_54 : decode cX9_goesThrough 54 = .ok (.invokevirtual 211, 3) := by decide +kernel
theorem dX9_goesThrough_57 : decode cX9_goesThrough 57 = .ok (.bipush 59, 2) := by decide +kernel
theorem dX9_goesThrough_59 : decode cX9_goesThrough 59 = .ok (.if_icmp .eq 7, 3) := by decide +kernel
theorem dX9_goesThrough_62 : decode cX9_goesThrough 62 = .ok (.iconst 1, 1) := by decide +kernel
theorem dX9_goesThrough_63 : decode cX9_goesThrough 63 = .ok (.goto 4, 3) := by decide +kernel
theorem dX9_goesThrough_66 : decode cX9_goesThrough 66 = .ok (.iconst 0, 1) := by decide +kernel
theorem dX9_goesThrough_67 : decode cX9_goesThrough 67 = .ok (.putfield 208, 3) := by decide +kernel
theorem dX9_goesThrough_70 : decode cX9_goesThrough 70 = .ok (.aload_n 0, 1) := by decide +kernel
theorem dX9_goesThrough_71 : decode cX9_goesThrough 71 = .ok (.getfield 208, 3) := by decide +kernel
theorem dX9_goesThrough_74 : decode cX9_goesThrough 74 = .ok (.ifCond .ne (-49), 3) := by decide +kernel
theorem dX9_goesThrough_77 : decode cX9_goesThrough 77 = .ok (.aload_n 0, 1) := by decide +kernel
theorem dX9_goesThrough_78 : decode cX9_goesThrough 78 = .ok (.dup, 1) := by decide +kernel
theorem dX9_goesThrough_79 : decode cX9_goesThrough 79 = .ok (.getfield 202, 3) := by decide +kernel
theorem dX9_goesThrough_82 : decode cX9_goesThrough 82 = .ok (.iconst 1, 1) := by decide +kernel
theorem dX9_goesThrough_83 : decode cX9_goesThrough 83 = .ok (.iadd, 1) := by decide +kernel
theorem dX9_goesThrough_84 : decode cX9_goesThrough 84 = .ok (.putfield 202, 3) := by decide +kernel
theorem dX9_goesThrough_87 : decode cX9_goesThrough 87 = .ok (.aload_n 0, 1) := by decide +kernel
theorem dX9_goesThrough_88 : decode cX9_goesThrough 88 = .ok (.iload_n 1, 1) := by decide +kernel
theorem dX9_goesThrough_89 : decode cX9_goesThrough 89 = .ok (.invokevirtual 238, 3) := by decide +kernel
theorem dX9_goesThrough_92 : decode cX9_goesThrough 92 = .ok (.goto (-67), 3) := by decide +kernel
theorem dX9_goesThrough_95 : decode cX9_goesThrough 95 = .ok (.return_, 1) := by decide +kernel
theorem dX9_feed_0 : decode cX9_feed 0 = .ok (.iload_n 1, 1) := by decide +kernel
theorem dX9_feed_1 : decode cX9_feed 1 = .ok (.i2l, 1) := by decide +kernel
theorem dX9_feed_2 : decode cX9_feed 2 = .ok (.lconst 0, 1) := by decide +kernel
theorem dX9_feed_3 : decode cX9_feed 3 = .ok (.ldc2_w 242, 3) := by decide +kernel
theorem dX9_feed_6 : decode cX9_feed 6 = .ok (.invokestatic 116, 3) := by decide +kernel
theorem dX9_feed_9 : decode cX9_feed 9 = .ok (.ifCond .ne 6, 3) := by decide +kernel
theorem dX9_feed_12 : decode cX9_feed 12 = .ok (.bipush (-2), 2) := by decide +kernel
theorem dX9_feed_14 : decode cX9_feed 14 = .ok (.ireturn, 1) := by decide +kernel
theorem dX9_feed_15 : decode cX9_feed 15 = .ok (.aload_n 0, 1) := by decide +kernel
theorem dX9_feed_16 : decode cX9_feed 16 = .ok (.getfield 205, 3) := by decide +kernel
theorem dX9_feed_19 : decode cX9_feed 19 = .ok (.bipush 100, 2) := by decide +kernel
theorem dX9_feed_21 : decode cX9_feed 21 = .ok (.if_icmp .ne 6, 3) := by decide +kernel
theorem dX9_feed_24 : decode cX9_feed 24 = .ok (.bipush (-4), 2) := by decide +kernel
theorem dX9_feed_26 : decode cX9_feed 26 = .ok (.ireturn, 1) := by decide +kernel
theorem dX9_feed_27 : decode cX9_feed 27 = .ok (.aload_n 0, 1) := by decide +kernel
theorem dX9_feed_28 : decode cX9_feed 28 = .ok (.getfield 54, 3) := by decide +kernel
theorem dX9_feed_31 : decode cX9_feed 31 = .ok (.aload_n 0, 1) := by decide +kernel
theorem dX9_feed_32 : decode cX9_feed 32 = .ok (.getfield 205, 3) := by decide +kernel
theorem dX9_feed_35 : decode cX9_feed 35 = .ok (.iload_n 1, 1) := by decide +kernel
theorem dX9_feed_36 : decode cX9_feed 36 = .ok (.iastore, 1) := by decide +kernel
theorem dX9_feed_37 : decode cX9_feed 37 = .ok (.aload_n 0, 1) := by decide +kernel
theorem dX9_feed_38 : decode cX9_feed 38 = .ok (.dup, 1) := by decide +kernel
theorem dX9_feed_39 : decode cX9_feed 39 = .ok (.getfield 205, 3) := by decide +kernel
theorem dX9_feed_42 : decode cX9_feed 42 = .ok (.iconst 1, 1) := by decide +kernel
theorem dX9_feed_43 : decode cX9_feed 43 = .ok (.iadd, 1) := by decide +kernel
theorem dX9_feed_44 : decode cX9_feed 44 = .ok (.putfield 205, 3) := by decide +kernel
theorem dX9_feed_47 : decode cX9_feed 47 = .ok (.aload_n 0, 1) := by decide +kernel
theorem dX9_feed_48 : decode cX9_feed 48 = .ok (.getfield 205, 3) := by decide +kernel
theorem dX9_feed_51 : decode cX9_feed 51 = .ok (.ireturn, 1) := by decide +kernel
theorem dX9_read_0 : decode cX9_read 0 = .ok (.aload_n 0, 1) := by decide +kernel
theorem dX9_read_1 : decode cX9_read 1 = .ok (.iconst 0, 1) := by decide +kernel
theorem dX9_read_2 : decode cX9_read 2 = .ok (.invokevirtual 244, 3) := by decide +kernel
theorem dX9_read_5 : decode cX9_read 5 = .ok (.bipush (-10), 2) := by decide +kernel
theorem dX9_read_7 : decode cX9_read 7 = .ok (.aload_n 0, 1) := by decide +kernel
theorem dX9_read_8 : decode cX9_read 8 = .ok (.getfield 202, 3) := by decide +kernel
theorem dX9_read_11 : decode cX9_read 11 = .ok (.isub, 1) := by decide +kernel
theorem dX9_read_12 : decode cX9_read 12 = .ok (.istore_n 1, 1) := by decide +kernel
theorem dX9_read_13 : decode cX9_read 13 = .ok (.aload_n 0, 1) := by decide +kernel
theorem dX9_read_14 : decode cX9_read 14 = .ok (.getfield 208, 3) := by decide +kernel
theorem dX9_read_17 : decode cX9_read 17 = .ok (.ifCond .ne 13, 3) := by decide +kernel
theorem dX9_read_20 : decode cX9_read 20 = .ok (.aload_n 0, 1) := by decide +kernel
theorem dX9_read_21 : decode cX9_read 21 = .ok (.iconst 1, 1) := by decide +kernel
theorem dX9_read_22 : decode cX9_read 22 = .ok (.invokevirtual 244, 3) := by decide +kernel
theorem dX9_read_25 : decode cX9_read 25 = .ok (.aload_n 0, 1) := by decide +kernel
theorem dX9_read_26 : decode cX9_read 26 = .ok (.getfield 235, 3) := by decide +kernel
theorem dX9_read_29 : decode cX9_read 29 = .ok (.istore_n 1, 1) := by decide +kernel
theorem dX9_read_30 : decode cX9_read 30 = .ok (.aload_n 0, 1) := by decide +kernel
theorem dX9_read_31 : decode cX9_read 31 = .ok (.iconst 0, 1) := by decide +kernel
theorem dX9_read_32 : decode cX9_read 32 = .ok (.putfield 205, 3) := by decide +kernel
theorem dX9_read_35 : decode cX9_read 35 = .ok (.iload_n 1, 1) := by decide +kernel
theorem dX9_read_36 : decode cX9_read 36 = .ok (.ireturn, 1) := by decide +kernel
theorem dX9_sum_0 : decode cX9_sum 0 = .ok (.iconst 0, 1) := by decide +kernel
theorem dX9_sum_1 : decode cX9_sum 1 = .ok (.istore_n 2, 1) := by decide +kernel
theorem dX9_sum_2 : decode cX9_sum 2 = .ok (.iconst 0, 1) := by decide +kernel
theorem dX9_sum_3 : decode cX9_sum 3 = .ok (.istore_n 3, 1) := by decide +kernel
theorem dX9_sum_4 : decode cX9_sum 4 = .ok (.iload_n 3, 1) := by decide +kernel
theorem dX9_sum_5 : decode cX9_sum 5 = .ok (.aload_n 0, 1) := by decide +kernel
theorem dX9_sum_6 : decode cX9_sum 6 = .ok (.iload_n 1, 1) := by decide +kernel
theorem dX9_sum_7 : decode cX9_sum 7 = .ok (.invokevirtual 180, 3) := by decide +kernel
theorem dX9_sum_10 : decode cX9_sum 10 = .ok (.if_icmp .ge 22, 3) := by decide +kernel
theorem dX9_sum_13 : decode cX9_sum 13 = .ok (.iload_n 2, 1) := by decide +kernel
theorem dX9_sum_14 : decode cX9_sum 14 = .ok (.aload_n 0, 1) := by decide +kernel
theorem dX9_sum_15 : decode cX9_sum 15 = .ok (.getfield 11, 3) := by decide +kernel
theorem dX9_sum_18 : decode cX9_sum 18 = .ok (.iconst 5, 1) := by decide +kernel
theorem dX9_sum_19 : decode cX9_sum 19 = .ok (.iload_n 1, 1) := by decide +kernel
theorem dX9_sum_20 : decode cX9_sum 20 = .ok (.imul, 1) := by decide +kernel
theorem dX9_sum_21 : decode cX9_sum 21 = .ok (.iload_n 3, 1) := by decide +kernel
theorem dX9_sum_22 : decode cX9_sum 22 = .ok (.iadd, 1) := by decide +kernel
theorem dX9_sum_23 : decode cX9_sum 23 = .ok (.iaload, 1) := by decide +kernel
theorem dX9_sum_24 : decode cX9_sum 24 = .ok (.iadd, 1) := by decide +kernel
theorem dX9_sum_25 : decode cX9_sum 25 = .ok (.istore_n 2, 1) := by decide +kernel
theorem dX9_sum_26 : decode cX9_sum 26 = .ok (.iinc 3 1, 3) := by decide +kernel
theorem dX9_sum_29 : decode cX9_sum 29 = .ok (.goto (-25), 3) := by decide +kernel
theorem dX9_sum_32 : decode cX9_sum 32 = .ok (.iload_n 2, 1) := by decide +kernel
theorem dX9_sum_33 : decode cX9_sum 33 = .ok (.ireturn, 1) := by decide +kernel
theorem dX9_opens_0 : decode cX9_opens 0 = .ok (.aload_n 0, 1) := by decide +kernel
theorem dX9_opens_1 : decode cX9_opens 1 = .ok (.iconst 0, 1) := by decide +kernel
theorem dX9_opens_2 : decode cX9_opens 2 = .ok (.invokevirtual 247, 3) := by decide +kernel
theorem dX9_opens_5 : decode cX9_opens 5 = .ok (.aload_n 0, 1) := by decide +kernel
theorem dX9_opens_6 : decode cX9_opens 6 = .ok (.iconst 1, 1) := by decide +kernel
theorem dX9_opens_7 : decode cX9_opens 7 = .ok (.invokevirtual 247, 3) := by decide +kernel
theorem dX9_opens_10 : decode cX9_opens 10 = .ok (.isub, 1) := by decide +kernel
theorem dX9_opens_11 : decode cX9_opens 11 = .ok (.istore_n 1, 1) := by decide +kernel
theorem dX9_opens_12 : decode cX9_opens 12 = .ok (.aload_n 0, 1) := by decide +kernel
theorem dX9_opens_13 : decode cX9_opens 13 = .ok (.aload_n 0, 1) := by decide +kernel
theorem dX9_opens_14 : decode cX9_opens 14 = .ok (.getfield 109, 3) := by decide +kernel
theorem dX9_opens_17 : decode cX9_opens 17 = .ok (.iload_n 1, 1) := by decide +kernel
theorem dX9_opens_18 : decode cX9_opens 18 = .ok (.ifCond .ge 7, 3) := by decide +kernel
theorem dX9_opens_21 : decode cX9_opens 21 = .ok (.iconst 1, 1) := by decide +kernel
theorem dX9_opens_22 : decode cX9_opens 22 = .ok (.goto 4, 3) := by decide +kernel
theorem dX9_opens_25 : decode cX9_opens 25 = .ok (.iconst 0, 1) := by decide +kernel
theorem dX9_opens_26 : decode cX9_opens 26 = .ok (.iadd, 1) := by decide +kernel
theorem dX9_opens_27 : decode cX9_opens 27 = .ok (.putfield 124, 3) := by decide +kernel
theorem dX9_opens_30 : decode cX9_opens 30 = .ok (.aload_n 0, 1) := by decide +kernel
theorem dX9_opens_31 : decode cX9_opens 31 = .ok (.aload_n 0, 1) := by decide +kernel
theorem dX9_opens_32 : decode cX9_opens 32 = .ok (.getfield 113, 3) := by decide +kernel
theorem dX9_opens_35 : decode cX9_opens 35 = .ok (.iload_n 1, 1) := by decide +kernel
theorem dX9_opens_36 : decode cX9_opens 36 = .ok (.ifCond .le 7, 3) := by decide +kernel
theorem dX9_opens_39 : decode cX9_opens 39 = .ok (.iconst 1, 1) := by decide +kernel
theorem dX9_opens_40 : decode cX9_opens 40 = .ok (.goto 4, 3) := by decide +kernel
theorem dX9_opens_43 : decode cX9_opens 43 = .ok (.iconst 0, 1) := by decide +kernel
theorem dX9_opens_44 : decode cX9_opens 44 = .ok (.iadd, 1) := by decide +kernel
theorem dX9_opens_45 : decode cX9_opens 45 = .ok (.putfield 127, 3) := by decide +kernel
theorem dX9_opens_48 : decode cX9_opens 48 = .ok (.aload_n 0, 1) := by decide +kernel
theorem dX9_opens_49 : decode cX9_opens 49 = .ok (.iconst 0, 1) := by decide +kernel
theorem dX9_opens_50 : decode cX9_opens 50 = .ok (.putfield 144, 3) := by decide +kernel
theorem dX9_opens_53 : decode cX9_opens 53 = .ok (.iconst 0, 1) := by decide +kernel
theorem dX9_opens_54 : decode cX9_opens 54 = .ok (.istore_n 2, 1) := by decide +kernel
theorem dX9_opens_55 : decode cX9_opens 55 = .ok (.iload_n 2, 1) := by decide +kernel
theorem dX9_opens_56 : decode cX9_opens 56 = .ok (.bipush 6, 2) := by decide +kernel
theorem dX9_opens_58 : decode cX9_opens 58 = .ok (.if_icmp .ge 104, 3) := by decide +kernel
theorem dX9_opens_61 : decode cX9_opens 61 = .ok (.aload_n 0, 1) := by decide +kernel
theorem dX9_opens_62 : decode cX9_opens 62 = .ok (.getfield 63, 3) := by decide +kernel
theorem dX9_opens_65 : decode cX9_opens 65 = .ok (.iload_n 2, 1) := by decide +kernel
theorem dX9_opens_66 : decode cX9_opens 66 = .ok (.iload_n 2, 1) := by decide +kernel
theorem dX9_opens_67 : decode cX9_opens 67 = .ok (.aload_n 0, 1) := by decide +kernel
theorem dX9_opens_68 : decode cX9_opens 68 = .ok (.getfield 109, 3) := by decide +kernel
theorem dX9_opens_71 : decode cX9_opens 71 = .ok (.if_icmp .ge 12, 3) := by decide +kernel
theorem dX9_opens_74 : decode cX9_opens 74 = .ok (.aload_n 0, 1) := by decide +kernel
theorem dX9_opens_75 : decode cX9_opens 75 = .ok (.getfield 11, 3) := by decide +kernel
theorem dX9_opens_78 : decode cX9_opens 78 = .ok (.iload_n 2, 1) := by decide +kernel
theorem dX9_opens_79 : decode cX9_opens 79 = .ok (.iaload, 1) := by decide +kernel
theorem dX9_opens_80 : decode cX9_opens 80 = .ok (.goto 5, 3) := by decide +kernel
theorem dX9_opens_83 : decode cX9_opens 83 = .ok (.iload_n 1, 1) := by decide +kernel
theorem dX9_opens_84 : decode cX9_opens 84 = .ok (.ineg, 1) := by decide +kernel
theorem dX9_opens_85 : decode cX9_opens 85 = .ok (.iastore, 1) := by decide +kernel
theorem dX9_opens_86 : decode cX9_opens 86 = .ok (.aload_n 0, 1) := by decide +kernel
theorem dX9_opens_87 : decode cX9_opens 87 = .ok (.getfield 63, 3) := by decide +kernel
theorem dX9_opens_90 : decode cX9_opens 90 = .ok (.bipush 6, 2) := by decide +kernel
theorem dX9_opens_92 : decode cX9_opens 92 = .ok (.iload_n 2, 1) := by decide +kernel
theorem dX9_opens_93 : decode cX9_opens 93 = .ok (.iadd, 1) := by decide +kernel
theorem dX9_opens_94 : decode cX9_opens 94 = .ok (.iload_n 2, 1) := by decide +kernel
theorem dX9_opens_95 : decode cX9_opens 95 = .ok (.aload_n 0, 1) := by decide +kernel
theorem dX9_opens_96 : decode cX9_opens 96 = .ok (.getfield 113, 3) := by decide +kernel
theorem dX9_opens_99 : decode cX9_opens 99 = .ok (.if_icmp .ge 14, 3) := by decide +kernel
theorem dX9_opens_102 : decode cX9_opens 102 = .ok (.aload_n 0, 1) := by decide +kernel
theorem dX9_opens_103 : decode cX9_opens 103 = .ok (.getfield 11, 3) := by decide +kernel
theorem dX9_opens_106 : decode cX9_opens 106 = .ok (.iconst 5, 1) := by decide +kernel
theorem dX9_opens_107 : decode cX9_opens 107 = .ok (.iload_n 2, 1) := by decide +kernel
theorem dX9_opens_108 : decode cX9_opens 108 = .ok (.iadd, 1) := by decide +kernel
theorem dX9_opens_109 : decode cX9_opens 109 = .ok (.iaload, 1) := by decide +kernel
theorem dX9_opens_110 : decode cX9_opens 110 = .ok (.goto 4, 3) := by decide +kernel
theorem dX9_opens_113 : decode cX9_opens 113 = .ok (.iload_n 1, 1) := by decide +kernel
theorem dX9_opens_114 : decode cX9_opens 114 = .ok (.iastore, 1) := by decide +kernel
theorem dX9_opens_115 : decode cX9_opens 115 = .ok (.aload_n 0, 1) := by decide +kernel
theorem dX9_opens_116 : decode cX9_opens 116 = .ok (.getfield 66, 3) := by decide +kernel
theorem dX9_opens_119 : decode cX9_opens 119 = .ok (.iload_n 2, 1) := by decide +kernel
theorem dX9_opens_120 : decode cX9_opens 120 = .ok (.iload_n 2, 1) := by decide +kernel
theorem dX9_opens_121 : decode cX9_opens 121 = .ok (.aload_n 0, 1) := by decide +kernel
theorem dX9_opens_122 : decode cX9_opens 122 = .ok (.getfield 124, 3) := by decide +kernel
theorem dX9_opens_125 : decode cX9_opens 125 = .ok (.if_icmp .ge 7, 3) := by decide +kernel
theorem dX9_opens_128 : decode cX9_opens 128 = .ok (.iconst 1, 1) := by decide +kernel
theorem dX9_opens_129 : decode cX9_opens 129 = .ok (.goto 4, 3) := by decide +kernel
theorem dX9_opens_132 : decode cX9_opens 132 = .ok (.iconst 0, 1) := by decide +kernel
theorem dX9_opens_133 : decode cX9_opens 133 = .ok (.bastore, 1) := by decide +kernel
theorem dX9_opens_134 : decode cX9_opens 134 = .ok (.aload_n 0, 1) := by decide +kernel
theorem dX9_opens_135 : decode cX9_opens 135 = .ok (.getfield 66, 3) := by decide +kernel
theorem dX9_opens_138 : decode cX9_opens 138 = .ok (.bipush 6, 2) := by decide +kernel
theorem dX9_opens_140 : decode cX9_opens 140 = .ok (.iload_n 2, 1) := by decide +kernel
theorem dX9_opens_141 : decode cX9_opens 141 = .ok (.iadd, 1) := by decide +kernel
theorem dX9_opens_142 : decode cX9_opens 142 = .ok (.iload_n 2, 1) := by decide +kernel
theorem dX9_opens_143 : decode cX9_opens 143 = .ok (.aload_n 0, 1) := by decide +kernel
theorem dX9_opens_144 : decode cX9_opens 144 = .ok (.getfield 127, 3) := by decide +kernel
theorem dX9_opens_147 : decode cX9_opens 147 = .ok (.if_icmp .ge 7, 3) := by decide +kernel
theorem dX9_opens_150 : decode cX9_opens 150 = .ok (.iconst 1, 1) := by decide +kernel
theorem dX9_opens_151 : decode cX9_opens 151 = .ok (.goto 4, 3) := by decide +kernel
theorem dX9_opens_154 : decode cX9_opens 154 = .ok (.iconst 0, 1) := by decide +kernel
theorem dX9_opens_155 : decode cX9_opens 155 = .ok (.bastore, 1) := by decide +kernel
theorem dX9_opens_156 : decode cX9_opens 156 = .ok (.iinc 2 1, 3) := by decide +kernel
theorem dX9_opens_159 : decode cX9_opens 159 = .ok (.goto (-104), 3) := by decide +kernel
theorem dX9_opens_162 : decode cX9_opens 162 = .ok (.iconst 0, 1) := by decide +kernel
theorem dX9_opens_163 : decode cX9_opens 163 = .ok (.istore_n 2, 1) := by decide +kernel
theorem dX9_opens_164 : decode cX9_opens 164 = .ok (.iload_n 2, 1) := by decide +kernel
theorem dX9_opens_165 : decode cX9_opens 165 = .ok (.bipush 36, 2) := by decide +kernel
theorem dX9_opens_167 : decode cX9_opens 167 = .ok (.if_icmp .ge 60, 3) := by decide +kernel
theorem dX9_opens_170 : decode cX9_opens 170 = .ok (.aload_n 0, 1) := by decide +kernel
theorem dX9_opens_171 : decode cX9_opens 171 = .ok (.getfield 24, 3) := by decide +kernel
theorem dX9_opens_174 : decode cX9_opens 174 = .ok (.iload_n 2, 1) := by decide +kernel
theorem dX9_opens_175 : decode cX9_opens 175 = .ok (.aload_n 0, 1) := by decide +kernel
theorem dX9_opens_176 : decode cX9_opens 176 = .ok (.iload_n 2, 1) := by decide +kernel
theorem dX9_opens_177 : decode cX9_opens 177 = .ok (.bipush 6, 2) := by decide +kernel
theorem dX9_opens_179 : decode cX9_opens 179 = .ok (.idiv, 1) := by decide +kernel
theorem dX9_opens_180 : decode cX9_opens 180 = .ok (.iload_n 2, 1) := by decide +kernel
theorem dX9_opens_181 : decode cX9_opens 181 = .ok (.bipush 6, 2) := by decide +kernel
theorem dX9_opens_183 : decode cX9_opens 183 = .ok (.irem, 1) := by decide +kernel
theorem dX9_opens_184 : decode cX9_opens 184 = .ok (.invokevirtual 120, 3) := by decide +kernel
theorem dX9_opens_187 : decode cX9_opens 187 = .ok (.ifCond .eq 18, 3) := by decide +kernel
theorem dX9_opens_190 : decode cX9_opens 190 = .ok (.aload_n 0, 1) := by decide +kernel
theorem dX9_opens_191 : decode cX9_opens 191 = .ok (.iload_n 2, 1) := by decide +kernel
theorem dX9_opens_192 : decode cX9_opens 192 = .ok (.bipush 6, 2) := by decide +kernel
theorem dX9_opens_194 : decode cX9_opens 194 = .ok (.idiv, 1) := by decide +kernel
theorem dX9_opens_195 : decode cX9_opens 195 = .ok (.iload_n 2, 1) := by decide +kernel
theorem dX9_opens_196 : decode cX9_opens 196 = .ok (.bipush 6, 2) := by decide +kernel
theorem dX9_opens_198 : decode cX9_opens 198 = .ok (.irem, 1) := by decide +kernel
theorem dX9_opens_199 : decode cX9_opens 199 = .ok (.invokevirtual 198, 3) := by decide +kernel
theorem dX9_opens_202 : decode cX9_opens 202 = .ok (.goto 4, 3) := by decide +kernel
theorem dX9_opens_205 : decode cX9_opens 205 = .ok (.iconst 0, 1) := by decide +kernel
theorem dX9_opens_206 : decode cX9_opens 206 = .ok (.iastore, 1) := by decide +kernel
theorem dX9_opens_207 : decode cX9_opens 207 = .ok (.aload_n 0, 1) := by decide +kernel
theorem dX9_opens_208 : decode cX9_opens 208 = .ok (.getfield 27, 3) := by decide +kernel
theorem dX9_opens_211 : decode cX9_opens 211 = .ok (.iload_n 2, 1) := by decide +kernel
theorem dX9_opens_212 : decode cX9_opens 212 = .ok (.iconst 0, 1) := by decide +kernel
theorem dX9_opens_213 : decode cX9_opens 213 = .ok (.iastore, 1) := by decide +kernel
theorem dX9_opens_214 : decode cX9_opens 214 = .ok (.aload_n 0, 1) := by decide +kernel
theorem dX9_opens_215 : decode cX9_opens 215 = .ok (.getfield 30, 3) := by decide +kernel
theorem dX9_opens_218 : decode cX9_opens 218 = .ok (.iload_n 2, 1) := by decide +kernel
theorem dX9_opens_219 : decode cX9_opens 219 = .ok (.iconst 0, 1) := by decide +kernel
theorem dX9_opens_220 : decode cX9_opens 220 = .ok (.iastore, 1) := by decide +kernel
theorem dX9_opens_221 : decode cX9_opens 221 = .ok (.iinc 2 1, 3) := by decide +kernel
theorem dX9_opens_224 : decode cX9_opens 224 = .ok (.goto (-60), 3) := by decide +kernel
theorem dX9_opens_227 : decode cX9_opens 227 = .ok (.return_, 1) := by decide +kernel
theorem dX9_openOnes_0 : decode cX9_openOnes 0 = .ok (.iconst 0, 1) := by decide +kernel
theorem dX9_openOnes_1 : decode cX9_openOnes 1 = .ok (.istore_n 2, 1) := by decide +kernel
theorem dX9_openOnes_2 : decode cX9_openOnes 2 = .ok (.iload_n 1, 1) := by decide +kernel
theorem dX9_openOnes_3 : decode cX9_openOnes 3 = .ok (.istore_n 3, 1) := by decide +kernel
theorem dX9_openOnes_4 : decode cX9_openOnes 4 = .ok (.iload_n 3, 1) := by decide +kernel
theorem dX9_openOnes_5 : decode cX9_openOnes 5 = .ok (.iload_n 1, 1) := by decide +kernel
theorem dX9_openOnes_6 : decode cX9_openOnes 6 = .ok (.bipush 6, 2) := by decide +kernel
theorem dX9_openOnes_8 : decode cX9_openOnes 8 = .ok (.iadd, 1) := by decide +kernel
theorem dX9_openOnes_9 : decode cX9_openOnes 9 = .ok (.if_icmp .ge 26, 3) := by decide +kernel
theorem dX9_openOnes_12 : decode cX9_openOnes 12 = .ok (.iload_n 2, 1) := by decide +kernel
theorem dX9_openOnes_13 : decode cX9_openOnes 13 = .ok (.aload_n 0, 1) := by decide +kernel
theorem dX9_openOnes_14 : decode cX9_openOnes 14 = .ok (.getfield 66, 3) := by decide +kernel
theorem dX9_openOnes_17 : decode cX9_openOnes 17 = .ok (.iload_n 3, 1) := by decide +kernel
theorem dX9_openOnes_18 : decode cX9_openOnes 18 = .ok (.baload, 1) := by decide +kernel
theorem dX9_openOnes_19 : decode cX9_openOnes 19 = .ok (.ifCond .eq 7, 3) := by decide +kernel
theorem dX9_openOnes_22 : decode cX9_openOnes 22 = .ok (.iconst 1, 1) := by decide +kernel
theorem dX9_openOnes_23 : decode cX9_openOnes 23 = .ok (.goto 4, 3) := by decide +kernel
theorem dX9_openOnes_26 : decode cX9_openOnes 26 = .ok (.iconst 0, 1) := by decide +kernel
theorem dX9_openOnes_27 : decode cX9_openOnes 27 = .ok (.iadd, 1) := by decide +kernel
theorem dX9_openOnes_28 : decode cX9_openOnes 28 = .ok (.istore_n 2, 1) := by decide +kernel
theorem dX9_openOnes_29 : decode cX9_openOnes 29 = .ok (.iinc 3 1, 3) := by decide +kernel
theorem dX9_openOnes_32 : decode cX9_openOnes 32 = .ok (.goto (-28), 3) := by decide +kernel
theorem dX9_openOnes_35 : decode cX9_openOnes 35 = .ok (.iload_n 2, 1) := by decide +kernel
theorem dX9_openOnes_36 : decode cX9_openOnes 36 = .ok (.ireturn, 1) := by decide +kernel
theorem dX9_isOpenCell_0 : decode cX9_isOpenCell 0 = .ok (.aload_n 0, 1) := by decide +kernel
theorem dX9_isOpenCell_1 : decode cX9_isOpenCell 1 = .ok (.getfield 66, 3) := by decide +kernel
theorem dX9_isOpenCell_4 : decode cX9_isOpenCell 4 = .ok (.iload_n 1, 1) := by decide +kernel
theorem dX9_isOpenCell_5 : decode cX9_isOpenCell 5 = .ok (.bipush 6, 2) := by decide +kernel
theorem dX9_isOpenCell_7 : decode cX9_isOpenCell 7 = .ok (.idiv, 1) := by decide +kernel
theorem dX9_isOpenCell_8 : decode cX9_isOpenCell 8 = .ok (.baload, 1) := by decide +kernel
theorem dX9_isOpenCell_9 : decode cX9_isOpenCell 9 = .ok (.ifCond .eq 22, 3) := by decide +kernel
theorem dX9_isOpenCell_12 : decode cX9_isOpenCell 12 = .ok (.aload_n 0, 1) := by decide +kernel
theorem dX9_isOpenCell_13 : decode cX9_isOpenCell 13 = .ok (.getfield 66, 3) := by decide +kernel
theorem dX9_isOpenCell_16 : decode cX9_isOpenCell 16 = .ok (.bipush 6, 2) := by decide +kernel
theorem dX9_isOpenCell_18 : decode cX9_isOpenCell 18 = .ok (.iload_n 1, 1) := by decide +kernel
theorem dX9_isOpenCell_19 : decode cX9_isOpenCell 19 = .ok (.bipush 6, 2) := by decide +kernel
theorem dX9_isOpenCell_21 : decode cX9_isOpenCell 21 = .ok (.irem, 1) := by decide +kernel
theorem dX9_isOpenCell_22 : decode cX9_isOpenCell 22 = .ok (.iadd, 1) := by decide +kernel
theorem dX9_isOpenCell_23 : decode cX9_isOpenCell 23 = .ok (.baload, 1) := by decide +kernel
theorem dX9_isOpenCell_24 : decode cX9_isOpenCell 24 = .ok (.ifCond .eq 7, 3) := by decide +kernel
theorem dX9_isOpenCell_27 : decode cX9_isOpenCell 27 = .ok (.iconst 1, 1) := by decide +kernel
theorem dX9_isOpenCell_28 : decode cX9_isOpenCell 28 = .ok (.goto 4, 3) := by decide +kernel
theorem dX9_isOpenCell_31 : decode cX9_isOpenCell 31 = .ok (.iconst 0, 1) := by decide +kernel
theorem dX9_isOpenCell_32 : decode cX9_isOpenCell 32 = .ok (.ireturn, 1) := by decide +kernel
theorem dX9_cheapestCell_0 : decode cX9_cheapestCell 0 = .ok (.iconst (-1), 1) := by decide +kernel
theorem dX9_cheapestCell_1 : decode cX9_cheapestCell 1 = .ok (.istore_n 2, 1) := by decide +kernel
theorem dX9_cheapestCell_2 : decode cX9_cheapestCell 2 = .ok (.iconst 0, 1) := by decide +kernel
theorem dX9_cheapestCell_3 : decode cX9_cheapestCell 3 = .ok (.istore_n 3, 1) := by decide +kernel
theorem dX9_cheapestCell_4 : decode cX9_cheapestCell 4 = .ok (.iload_n 3, 1) := by decide +kernel
theorem dX9_cheapestCell_5 : decode cX9_cheapestCell 5 = .ok (.bipush 36, 2) := by decide +kernel
theorem dX9_cheapestCell_7 : decode cX9_cheapestCell 7 = .ok (.if_icmp .ge 73, 3) := by decide +kernel
theorem dX9_cheapestCell_10 : decode cX9_cheapestCell 10 = .ok (.iload_n 1, 1) := by decide +kernel
theorem dX9_cheapestCell_11 : decode cX9_cheapestCell 11 = .ok (.ifCond .lt 22, 3) := by decide +kernel
theorem dX9_cheapestCell_14 : decode cX9_cheapestCell 14 = .ok (.iload_n 3, 1) := by decide +kernel
theorem dX9_cheapestCell_15 : decode cX9_cheapestCell 15 = .ok (.bipush 6, 2) := by decide +kernel
theorem dX9_cheapestCell_17 : decode cX9_cheapestCell 17 = .ok (.idiv, 1) := by decide +kernel
theorem dX9_cheapestCell_18 : decode cX9_cheapestCell 18 = .ok (.iload_n 1, 1) := by decide +kernel
theorem dX9_cheapestCell_19 : decode cX9_cheapestCell 19 = .ok (.if_icmp .eq 14, 3) := by decide +kernel
theorem dX9_cheapestCell_22 : decode cX9_cheapestCell 22 = .ok (.bipush 6, 2) := by decide +kernel
theorem dX9_cheapestCell_24 : decode cX9_cheapestCell 24 = .ok (.iload_n 3, 1) := by decide +kernel
theorem dX9_cheapestCell_25 : decode cX9_cheapestCell 25 = .ok (.bipush 6, 2) := by decide +kernel
theorem dX9_cheapestCell_27 : decode cX9_cheapestCell 27 = .ok (.irem, 1) := by decide +kernel
theorem dX9_cheapestCell_28 : decode cX9_cheapestCell 28 = .ok (.iadd, 1) := by decide +kernel
theorem dX9_cheapestCell_29 : decode cX9_cheapestCell 29 = .ok (.iload_n 1, 1) := by decide +kernel
theorem dX9_cheapestCell_30 : decode cX9_cheapestCell 30 = .ok (.if_icmp .ne 7, 3) := by decide +kernel
theorem dX9_cheapestCell_33 : decode cX9_cheapestCell 33 = .ok (.iconst 1, 1) := by decide +kernel
theorem dX9_cheapestCell_34 : decode cX9_cheapestCell 34 = .ok (.goto 4, 3) := by decide +kernel
theorem dX9_cheapestCell_37 : decode cX9_cheapestCell 37 = .ok (.iconst 0, 1) := by decide +kernel
theorem dX9_cheapestCell_38 : decode cX9_cheapestCell 38 = .ok (.istore 4, 2) := by decide +kernel
theorem dX9_cheapestCell_40 : decode cX9_cheapestCell 40 = .ok (.iload 4, 2) := by decide +kernel
theorem dX9_cheapestCell_42 : decode cX9_cheapestCell 42 = .ok (.ifCond .eq 32, 3) := by decide +kernel
theorem dX9_cheapestCell_45 : decode cX9_cheapestCell 45 = .ok (.aload_n 0, 1) := by decide +kernel
theorem dX9_cheapestCell_46 : decode cX9_cheapestCell 46 = .ok (.iload_n 3, 1) := by decide +kernel
theorem dX9_cheapestCell_47 : decode cX9_cheapestCell 47 = .ok (.invokevirtual 250, 3) := by decide +kernel
theorem dX9_cheapestCell_50 : decode cX9_cheapestCell 50 = .ok (.ifCond .eq 24, 3) := by decide +kernel
theorem dX9_cheapestCell_53 : decode cX9_cheapestCell 53 = .ok (.iload_n 2, 1) := by decide +kernel
theorem dX9_cheapestCell_54 : decode cX9_cheapestCell 54 = .ok (.ifCond .lt 18, 3) := by decide +kernel
theorem dX9_cheapestCell_57 : decode cX9_cheapestCell 57 = .ok (.aload_n 0, 1) := by decide +kernel
theorem dX9_cheapestCell_58 : decode cX9_cheapestCell 58 = .ok (.getfield 24, 3) := by decide +kernel
theorem dX9_cheapestCell_61 : decode cX9_cheapestCell 61 = .ok (.iload_n 3, 1) := by decide +kernel
theorem dX9_cheapestCell_62 : decode cX9_cheapestCell 62 = .ok (.iaload, 1) := by decide +kernel
theorem dX9_cheapestCell_63 : decode cX9_cheapestCell 63 = .ok (.aload_n 0, 1) := by decide +kernel
theorem dX9_cheapestCell_64 : decode cX9_cheapestCell 64 = .ok (.getfield 24, 3) := by decide +kernel
theorem dX9_cheapestCell_67 : decode cX9_cheapestCell 67 = .ok (.iload_n 2, 1) := by decide +kernel
theorem dX9_cheapestCell_68 : decode cX9_cheapestCell 68 = .ok (.iaload, 1) := by decide +kernel
theorem dX9_cheapestCell_69 : decode cX9_cheapestCell 69 = .ok (.if_icmp .ge 5, 3) := by decide +kernel
theorem dX9_cheapestCell_72 : decode cX9_cheapestCell 72 = .ok (.iload_n 3, 1) := by decide +kernel
theorem dX9_cheapestCell_73 : decode cX9_cheapestCell 73 = .ok (.istore_n 2, 1) := by decide +kernel
theorem dX9_cheapestCell_74 : decode cX9_cheapestCell 74 = .ok (.iinc 3 1, 3) := by decide +kernel
theorem dX9_cheapestCell_77 : decode cX9_cheapestCell 77 = .ok (.goto (-73), 3) := by decide +kernel
theorem dX9_cheapestCell_80 : decode cX9_cheapestCell 80 = .ok (.iload_n 2, 1) := by decide +kernel
theorem dX9_cheapestCell_81 : decode cX9_cheapestCell 81 = .ok (.ireturn, 1) := by decide +kernel
theorem dX9_regret_0 : decode cX9_regret 0 = .ok (.aload_n 0, 1) := by decide +kernel
theorem dX9_regret_1 : decode cX9_regret 1 = .ok (.iload_n 1, 1) := by decide +kernel
theorem dX9_regret_2 : decode cX9_regret 2 = .ok (.invokevirtual 254, 3) := by decide +kernel
theorem dX9_regret_5 : decode cX9_regret 5 = .ok (.istore_n 2, 1) := by decide +kernel
theorem dX9_regret_6 : decode cX9_regret 6 = .ok (.iconst (-1), 1) := by decide +kernel
theorem dX9_regret_7 : decode cX9_regret 7 = .ok (.istore_n 3, 1) := by decide +kernel
theorem dX9_regret_8 : decode cX9_regret 8 = .ok (.iconst 0, 1) := by decide +kernel
theorem dX9_regret_9 : decode cX9_regret 9 = .ok (.istore 4, 2) := by decide +kernel
theorem dX9_regret_11 : decode cX9_regret 11 = .ok (.iload 4, 2) := by decide +kernel
theorem dX9_regret_13 : decode cX9_regret 13 = .ok (.bipush 36, 2) := by decide +kernel
theorem dX9_regret_15 : decode cX9_regret 15 = .ok (.if_icmp .ge 80, 3) := by decide +kernel
theorem dX9_regret_18 : decode cX9_regret 18 = .ok (.iload 4, 2) := by decide +kernel
theorem dX9_regret_20 : decode cX9_regret 20 = .ok (.bipush 6, 2) := by decide +kernel
theorem dX9_regret_22 : decode cX9_regret 22 = .ok (.idiv, 1) := by decide +kernel
theorem dX9_regret_23 : decode cX9_regret 23 = .ok (.iload_n 1, 1) := by decide +kernel
theorem dX9_regret_24 : decode cX9_regret 24 = .ok (.if_icmp .eq 15, 3) := by decide +kernel
theorem dX9_regret_27 : decode cX9_regret 27 = .ok (.bipush 6, 2) := by decide +kernel
theorem dX9_regret_29 : decode cX9_regret 29 = .ok (.iload 4, 2) := by decide +kernel
theorem dX9_regret_31 : decode cX9_regret 31 = .ok (.bipush 6, 2) := by decide +kernel
theorem dX9_regret_33 : decode cX9_regret 33 = .ok (.irem, 1) := by decide +kernel
theorem dX9_regret_34 : decode cX9_regret 34 = .ok (.iadd, 1) := by decide +kernel
theorem dX9_regret_35 : decode cX9_regret 35 = .ok (.iload_n 1, 1) := by decide +kernel
theorem dX9_regret_36 : decode cX9_regret 36 = .ok (.if_icmp .ne 7, 3) := by decide +kernel
theorem dX9_regret_39 : decode cX9_regret 39 = .ok (.iconst 1, 1) := by decide +kernel
theorem dX9_regret_40 : decode cX9_regret 40 = .ok (.goto 4, 3) := by decide +kernel
theorem dX9_regret_43 : decode cX9_regret 43 = .ok (.iconst 0, 1) := by decide +kernel
theorem dX9_regret_44 : decode cX9_regret 44 = .ok (.istore 5, 2) := by decide +kernel
theorem dX9_regret_46 : decode cX9_regret 46 = .ok (.iload 5, 2) := by decide +kernel
theorem dX9_regret_48 : decode cX9_regret 48 = .ok (.ifCond .eq 41, 3) := by decide +kernel
theorem dX9_regret_51 : decode cX9_regret 51 = .ok (.iload 4, 2) := by decide +kernel
theorem dX9_regret_53 : decode cX9_regret 53 = .ok (.iload_n 2, 1) := by decide +kernel
theorem dX9_regret_54 : decode cX9_regret 54 = .ok (.if_icmp .eq 35, 3) := by decide +kernel
theorem dX9_regret_57 : decode cX9_regret 57 = .ok (.aload_n 0, 1) := by decide +kernel
theorem dX9_regret_58 : decode cX9_regret 58 = .ok (.iload 4, 2) := by decide +kernel
theorem dX9_regret_60 : decode cX9_regret 60 = .ok (.invokevirtual 250, 3) := by decide +kernel
theorem dX9_regret_63 : decode cX9_regret 63 = .ok (.ifCond .eq 26, 3) := by decide +kernel
theorem dX9_regret_66 : decode cX9_regret 66 = .ok (.iload_n 3, 1) := by decide +kernel
theorem dX9_regret_67 : decode cX9_regret 67 = .ok (.ifCond .lt 14, 3) := by decide +kernel
theorem dX9_regret_70 : decode cX9_regret 70 = .ok (.aload_n 0, 1) := by decide +kernel
theorem dX9_regret_71 : decode cX9_regret 71 = .ok (.getfield 24, 3) := by decide +kernel
theorem dX9_regret_74 : decode cX9_regret 74 = .ok (.iload 4, 2) := by decide +kernel
theorem dX9_regret_76 : decode cX9_regret 76 = .ok (.iaload, 1) := by decide +kernel
theorem dX9_regret_77 : decode cX9_regret 77 = .ok (.iload_n 3, 1) := by decide +kernel
theorem dX9_regret_78 : decode cX9_regret 78 = .ok (.if_icmp .ge 11, 3) := by decide +kernel
theorem dX9_regret_81 : decode cX9_regret 81 = .ok (.aload_n 0, 1) := by decide +kernel
theorem dX9_regret_82 : decode cX9_regret 82 = .ok (.getfield 24, 3) := by decide +kernel
theorem dX9_regret_85 : decode cX9_regret 85 = .ok (.iload 4, 2) := by decide +kernel
theorem dX9_regret_87 : decode cX9_regret 87 = .ok (.iaload, 1) := by decide +kernel
theorem dX9_regret_88 : decode cX9_regret 88 = .ok (.istore_n 3, 1) := by decide +kernel
theorem dX9_regret_89 : decode cX9_regret 89 = .ok (.iinc 4 1, 3) := by decide +kernel
theorem dX9_regret_92 : decode cX9_regret 92 = .ok (.goto (-81), 3) := by decide +kernel
theorem dX9_regret_95 : decode cX9_regret 95 = .ok (.iload_n 3, 1) := by decide +kernel
theorem dX9_regret_96 : decode cX9_regret 96 = .ok (.ifCond .ge 12, 3) := by decide +kernel
theorem dX9_regret_99 : decode cX9_regret 99 = .ok (.aload_n 0, 1) := by decide +kernel
theorem dX9_regret_100 : decode cX9_regret 100 = .ok (.getfield 24, 3) := by decide +kernel
theorem dX9_regret_103 : decode cX9_regret 103 = .ok (.iload_n 2, 1) := by decide +kernel
theorem dX9_regret_104 : decode cX9_regret 104 = .ok (.iaload, 1) := by decide +kernel
theorem dX9_regret_105 : decode cX9_regret 105 = .ok (.goto 11, 3) := by decide +kernel
theorem dX9_regret_108 : decode cX9_regret 108 = .ok (.iload_n 3, 1) := by decide +kernel
theorem dX9_regret_109 : decode cX9_regret 109 = .ok (.aload_n 0, 1) := by decide +kernel
theorem dX9_regret_110 : decode cX9_regret 110 = .ok (.getfield 24, 3) := by decide +kernel
theorem dX9_regret_113 : decode cX9_regret 113 = .ok (.iload_n 2, 1) := by decide +kernel
theorem dX9_regret_114 : decode cX9_regret 114 = .ok (.iaload, 1) := by decide +kernel
theorem dX9_regret_115 : decode cX9_regret 115 = .ok (.isub, 1) := by decide +kernel
theorem dX9_regret_116 : decode cX9_regret 116 = .ok (.ireturn, 1) := by decide +kernel
theorem dX9_corner_0 : decode cX9_corner 0 = .ok (.iconst 0, 1) := by decide +kernel
theorem dX9_corner_1 : decode cX9_corner 1 = .ok (.istore_n 1, 1) := by decide +kernel
theorem dX9_corner_2 : decode cX9_corner 2 = .ok (.aload_n 0, 1) := by decide +kernel
theorem dX9_corner_3 : decode cX9_corner 3 = .ok (.iload_n 1, 1) := by decide +kernel
theorem dX9_corner_4 : decode cX9_corner 4 = .ok (.invokevirtual 250, 3) := by decide +kernel
theorem dX9_corner_7 : decode cX9_corner 7 = .ok (.ifCond .ne 9, 3) := by decide +kernel
theorem dX9_corner_10 : decode cX9_corner 10 = .ok (.iinc 1 1, 3) := by decide +kernel
theorem dX9_corner_13 : decode cX9_corner 13 = .ok (.goto (-11), 3) := by decide +kernel
theorem dX9_corner_16 : decode cX9_corner 16 = .ok (.iload_n 1, 1) := by decide +kernel
theorem dX9_corner_17 : decode cX9_corner 17 = .ok (.ireturn, 1) := by decide +kernel
theorem dX9_picked_0 : decode cX9_picked 0 = .ok (.iload_n 1, 1) := by decide +kernel
theorem dX9_picked_1 : decode cX9_picked 1 = .ok (.ifCond .ne 8, 3) := by decide +kernel
theorem dX9_picked_4 : decode cX9_picked 4 = .ok (.aload_n 0, 1) := by decide +kernel
theorem dX9_picked_5 : decode cX9_picked 5 = .ok (.invokevirtual 257, 3) := by decide +kernel
theorem dX9_picked_8 : decode cX9_picked 8 = .ok (.ireturn, 1) := by decide +kernel
theorem dX9_picked_9 : decode cX9_picked 9 = .ok (.iload_n 1, 1) := by decide +kernel
theorem dX9_picked_10 : decode cX9_picked 10 = .ok (.iconst 1, 1) := by decide +kernel
theorem dX9_picked_11 : decode cX9_picked 11 = .ok (.if_icmp .ne 9, 3) := by decide +kernel
theorem dX9_picked_14 : decode cX9_picked 14 = .ok (.aload_n 0, 1) := by decide +kernel
theorem dX9_picked_15 : decode cX9_picked 15 = .ok (.iconst (-1), 1) := by decide +kernel
theorem dX9_picked_16 : decode cX9_picked 16 = .ok (.invokevirtual 254, 3) := by decide +kernel
theorem dX9_picked_19 : decode cX9_picked 19 = .ok (.ireturn, 1) := by decide +kernel
theorem dX9_picked_20 : decode cX9_picked 20 = .ok (.iconst (-1), 1) := by decide +kernel
theorem dX9_picked_21 : decode cX9_picked 21 = .ok (.istore_n 2, 1) := by decide +kernel
theorem dX9_picked_22 : decode cX9_picked 22 = .ok (.iconst 0, 1) := by decide +kernel
theorem dX9_picked_23 : decode cX9_picked 23 = .ok (.istore_n 3, 1) := by decide +kernel
theorem dX9_picked_24 : decode cX9_picked 24 = .ok (.iload_n 3, 1) := by decide +kernel
theorem dX9_picked_25 : decode cX9_picked 25 = .ok (.bipush 12, 2) := by decide +kernel
theorem dX9_picked_27 : decode cX9_picked 27 = .ok (.if_icmp .ge 37, 3) := by decide +kernel
theorem dX9_picked_30 : decode cX9_picked 30 = .ok (.aload_n 0, 1) := by decide +kernel
theorem dX9_picked_31 : decode cX9_picked 31 = .ok (.getfield 66, 3) := by decide +kernel
theorem dX9_picked_34 : decode cX9_picked 34 = .ok (.iload_n 3, 1) := by decide +kernel
theorem dX9_picked_35 : decode cX9_picked 35 = .ok (.baload, 1) := by decide +kernel
theorem dX9_picked_36 : decode cX9_picked 36 = .ok (.ifCond .eq 22, 3) := by decide +kernel
theorem dX9_picked_39 : decode cX9_picked 39 = .ok (.iload_n 2, 1) := by decide +kernel
theorem dX9_picked_40 : decode cX9_picked 40 = .ok (.ifCond .lt 16, 3) := by decide +kernel
theorem dX9_picked_43 : decode cX9_picked 43 = .ok (.aload_n 0, 1) := by decide +kernel
theorem dX9_picked_44 : decode cX9_picked 44 = .ok (.iload_n 3, 1) := by decide +kernel
theorem dX9_picked_45 : decode cX9_picked 45 = .ok (.invokevirtual 260, 3) := by decide +kernel
theorem dX9_picked_48 : decode cX9_picked 48 = .ok (.aload_n 0, 1) := by decide +kernel
theorem dX9_picked_49 : decode cX9_picked 49 = .ok (.iload_n 2, 1) := by decide +kernel
theorem dX9_picked_50 : decode cX9_picked 50 = .ok (.invokevirtual 260, 3) := by decide +kernel
theorem dX9_picked_53 : decode cX9_picked 53 = .ok (.if_icmp .le 5, 3) := by decide +kernel
theorem dX9_picked_56 : decode cX9_picked 56 = .ok (.iload_n 3, 1) := by decide +kernel
theorem dX9_picked_57 : decode cX9_picked 57 = .ok (.istore_n 2, 1) := by decide +kernel
theorem dX9_picked_58 : decode cX9_picked 58 = .ok (.iinc 3 1, 3) := by decide +kernel
theorem dX9_picked_61 : decode cX9_picked 61 = .ok (.goto (-37), 3) := by decide +kernel
theorem dX9_picked_64 : decode cX9_picked 64 = .ok (.aload_n 0, 1) := by decide +kernel
theorem dX9_picked_65 : decode cX9_picked 65 = .ok (.iload_n 2, 1) := by decide +kernel
theorem dX9_picked_66 : decode cX9_picked 66 = .ok (.invokevirtual 254, 3) := by decide +kernel
theorem dX9_picked_69 : decode cX9_picked 69 = .ok (.ireturn, 1) := by decide +kernel
theorem dX9_starts_0 : decode cX9_starts 0 = .ok (.aload_n 0, 1) := by decide +kernel
theorem dX9_starts_1 : decode cX9_starts 1 = .ok (.invokevirtual 263, 3) := by decide +kernel
theorem dX9_starts_4 : decode cX9_starts 4 = .ok (.aload_n 0, 1) := by decide +kernel
theorem dX9_starts_5 : decode cX9_starts 5 = .ok (.bipush 6, 2) := by decide +kernel
theorem dX9_starts_7 : decode cX9_starts 7 = .ok (.invokevirtual 266, 3) := by decide +kernel
theorem dX9_starts_10 : decode cX9_starts 10 = .ok (.ifCond .le 112, 3) := by decide +kernel
theorem dX9_starts_13 : decode cX9_starts 13 = .ok (.aload_n 0, 1) := by decide +kernel
theorem dX9_starts_14 : decode cX9_starts 14 = .ok (.iload_n 1, 1) := by decide +kernel
theorem dX9_starts_15 : decode cX9_starts 15 = .ok (.invokevirtual 269, 3) := by decide +kernel
theorem dX9_starts_18 : decode cX9_starts 18 = .ok (.istore_n 2, 1) := by decide +kernel
theorem dX9_starts_19 : decode cX9_starts 19 = .ok (.iload_n 2, 1) := by decide +kernel
theorem dX9_starts_20 : decode cX9_starts 20 = .ok (.bipush 6, 2) := by decide +kernel
theorem dX9_starts_22 : decode cX9_starts 22 = .ok (.idiv, 1) := by decide +kernel
theorem dX9_starts_23 : decode cX9_starts 23 = .ok (.istore_n 3, 1) := by decide +kernel
theorem dX9_starts_24 : decode cX9_starts 24 = .ok (.bipush 6, 2) := by decide +kernel
theorem dX9_starts_26 : decode cX9_starts 26 = .ok (.iload_n 2, 1) := by decide +kernel
theorem dX9_starts_27 : decode cX9_starts 27 = .ok (.bipush 6, 2) := by decide +kernel
theorem dX9_starts_29 : decode cX9_starts 29 = .ok (.irem, 1) := by decide +kernel
theorem dX9_starts_30 : decode cX9_starts 30 = .ok (.iadd, 1) := by decide +kernel
theorem dX9_starts_31 : decode cX9_starts 31 = .ok (.istore 4, 2) := by decide +kernel
theorem dX9_starts_33 : decode cX9_starts 33 = .ok (.aload_n 0, 1) := by decide +kernel
theorem dX9_starts_34 : decode cX9_starts 34 = .ok (.getfield 63, 3) := by decide +kernel
theorem dX9_starts_37 : decode cX9_starts 37 = .ok (.iload_n 3, 1) := by decide +kernel
theorem dX9_starts_38 : decode cX9_starts 38 = .ok (.iaload, 1) := by decide +kernel
theorem dX9_starts_39 : decode cX9_starts 39 = .ok (.aload_n 0, 1) := by decide +kernel
theorem dX9_starts_40 : decode cX9_starts 40 = .ok (.getfield 63, 3) := by decide +kernel
theorem dX9_starts_43 : decode cX9_starts 43 = .ok (.iload 4, 2) := by decide +kernel
theorem dX9_starts_45 : decode cX9_starts 45 = .ok (.iaload, 1) := by decide +kernel
theorem dX9_starts_46 : decode cX9_starts 46 = .ok (.invokestatic 272, 3) := by decide +kernel
theorem dX9_starts_49 : decode cX9_starts 49 = .ok (.istore 5, 2) := by decide +kernel
theorem dX9_starts_51 : decode cX9_starts 51 = .ok (.aload_n 0, 1) := by decide +kernel
theorem dX9_starts_52 : decode cX9_starts 52 = .ok (.getfield 27, 3) := by decide +kernel
theorem dX9_starts_55 : decode cX9_starts 55 = .ok (.iload_n 2, 1) := by decide +kernel
theorem dX9_starts_56 : decode cX9_starts 56 = .ok (.iload 5, 2) := by decide +kernel
theorem dX9_starts_58 : decode cX9_starts 58 = .ok (.iastore, 1) := by decide +kernel
theorem dX9_starts_59 : decode cX9_starts 59 = .ok (.aload_n 0, 1) := by decide +kernel
theorem dX9_starts_60 : decode cX9_starts 60 = .ok (.getfield 30, 3) := by decide +kernel
theorem dX9_starts_63 : decode cX9_starts 63 = .ok (.iload_n 2, 1) := by decide +kernel
theorem dX9_starts_64 : decode cX9_starts 64 = .ok (.iconst 1, 1) := by decide +kernel
theorem dX9_starts_65 : decode cX9_starts 65 = .ok (.iastore, 1) := by decide +kernel
theorem dX9_starts_66 : decode cX9_starts 66 = .ok (.aload_n 0, 1) := by decide +kernel
theorem dX9_starts_67 : decode cX9_starts 67 = .ok (.getfield 63, 3) := by decide +kernel
theorem dX9_starts_70 : decode cX9_starts 70 = .ok (.iload_n 3, 1) := by decide +kernel
theorem dX9_starts_71 : decode cX9_starts 71 = .ok (.dup2, 1) := by decide +kernel
theorem dX9_starts_72 : decode cX9_starts 72 = .ok (.iaload, 1) := by decide +kernel
theorem dX9_starts_73 : decode cX9_starts 73 = .ok (.iload 5, 2) := by decide +kernel
theorem dX9_starts_75 : decode cX9_starts 75 = .ok (.isub, 1) := by decide +kernel
theorem dX9_starts_76 : decode cX9_starts 76 = .ok (.iastore, 1) := by decide +kernel
theorem dX9_starts_77 : decode cX9_starts 77 = .ok (.aload_n 0, 1) := by decide +kernel
theorem dX9_starts_78 : decode cX9_starts 78 = .ok (.getfield 63, 3) := by decide +kernel
theorem dX9_starts_81 : decode cX9_starts 81 = .ok (.iload 4, 2) := by decide +kernel
theorem dX9_starts_83 : decode cX9_starts 83 = .ok (.dup2, 1) := by decide +kernel
theorem dX9_starts_84 : decode cX9_starts 84 = .ok (.iaload, 1) := by decide +kernel
theorem dX9_starts_85 : decode cX9_starts 85 = .ok (.iload 5, 2) := by decide +kernel
theorem dX9_starts_87 : decode cX9_starts 87 = .ok (.isub, 1) := by decide +kernel
theorem dX9_starts_88 : decode cX9_starts 88 = .ok (.iastore, 1) := by decide +kernel
theorem dX9_starts_89 : decode cX9_starts 89 = .ok (.aload_n 0, 1) := by decide +kernel
theorem dX9_starts_90 : decode cX9_starts 90 = .ok (.getfield 66, 3) := by decide +kernel
theorem dX9_starts_93 : decode cX9_starts 93 = .ok (.aload_n 0, 1) := by decide +kernel
theorem dX9_starts_94 : decode cX9_starts 94 = .ok (.getfield 63, 3) := by decide +kernel
theorem dX9_starts_97 : decode cX9_starts 97 = .ok (.iload_n 3, 1) := by decide +kernel
theorem dX9_starts_98 : decode cX9_starts 98 = .ok (.iaload, 1) := by decide +kernel
theorem dX9_starts_99 : decode cX9_starts 99 = .ok (.ifCond .ne 16, 3) := by decide +kernel
theorem dX9_starts_102 : decode cX9_starts 102 = .ok (.aload_n 0, 1) := by decide +kernel
theorem dX9_starts_103 : decode cX9_starts 103 = .ok (.iconst 0, 1) := by decide +kernel
theorem dX9_starts_104 : decode cX9_starts 104 = .ok (.invokevirtual 266, 3) := by decide +kernel
theorem dX9_starts_107 : decode cX9_starts 107 = .ok (.iconst 1, 1) := by decide +kernel
theorem dX9_starts_108 : decode cX9_starts 108 = .ok (.if_icmp .le 7, 3) := by decide +kernel
theorem dX9_starts_111 : decode cX9_starts 111 = .ok (.iload_n 3, 1) := by decide +kernel
theorem dX9_starts_112 : decode cX9_starts 112 = .ok (.goto 5, 3) := by decide +kernel
theorem dX9_starts_115 : decode cX9_starts 115 = .ok (.iload 4, 2) := by decide +kernel
theorem dX9_starts_117 : decode cX9_starts 117 = .ok (.iconst 0, 1) := by decide +kernel
theorem dX9_starts_118 : decode cX9_starts 118 = .ok (.bastore, 1) := by decide +kernel
theorem dX9_starts_119 : decode cX9_starts 119 = .ok (.goto (-115), 3) := by decide +kernel
theorem dX9_starts_122 : decode cX9_starts 122 = .ok (.return_, 1) := by decide +kernel
theorem dX9_start_0 : decode cX9_start 0 = .ok (.iload_n 1, 1) := by decide +kernel
theorem dX9_start_1 : decode cX9_start 1 = .ok (.i2l, 1) := by decide +kernel
theorem dX9_start_2 : decode cX9_start 2 = .ok (.lconst 0, 1) := by decide +kernel
theorem dX9_start_3 : decode cX9_start 3 = .ok (.ldc2_w 196, 3) := by decide +kernel
theorem dX9_start_6 : decode cX9_start 6 = .ok (.invokestatic 116, 3) := by decide +kernel
theorem dX9_start_9 : decode cX9_start 9 = .ok (.ifCond .ne 6, 3) := by decide +kernel
theorem dX9_start_12 : decode cX9_start 12 = .ok (.bipush (-2), 2) := by decide +kernel
theorem dX9_start_14 : decode cX9_start 14 = .ok (.ireturn, 1) := by decide +kernel
theorem dX9_start_15 : decode cX9_start 15 = .ok (.aload_n 0, 1) := by decide +kernel
theorem dX9_start_16 : decode cX9_start 16 = .ok (.getfield 109, 3) := by decide +kernel
theorem dX9_start_19 : decode cX9_start 19 = .ok (.ifCond .eq 10, 3) := by decide +kernel
theorem dX9_start_22 : decode cX9_start 22 = .ok (.aload_n 0, 1) := by decide +kernel
theorem dX9_start_23 : decode cX9_start 23 = .ok (.getfield 113, 3) := by decide +kernel
theorem dX9_start_26 : decode cX9_start 26 = .ok (.ifCond .ne 6, 3) := by decide +kernel
theorem dX9_start_29 : decode cX9_start 29 = .ok (.bipush (-3), 2) := by decide +kernel
theorem dX9_start_31 : decode cX9_start 31 = .ok (.ireturn, 1) := by decide +kernel
theorem dX9_start_32 : decode cX9_start 32 = .ok (.aload_n 0, 1) := by decide +kernel
theorem dX9_start_33 : decode cX9_start 33 = .ok (.iload_n 1, 1) := by decide +kernel
theorem dX9_start_34 : decode cX9_start 34 = .ok (.invokevirtual 277, 3) := by decide +kernel
theorem dX9_start_37 : decode cX9_start 37 = .ok (.aload_n 0, 1) := by decide +kernel
theorem dX9_start_38 : decode cX9_start 38 = .ok (.iconst 1, 1) := by decide +kernel
theorem dX9_start_39 : decode cX9_start 39 = .ok (.putfield 141, 3) := by decide +kernel
theorem dX9_start_42 : decode cX9_start 42 = .ok (.aload_n 0, 1) := by decide +kernel
theorem dX9_start_43 : decode cX9_start 43 = .ok (.invokevirtual 281, 3) := by decide +kernel
theorem dX9_start_46 : decode cX9_start 46 = .ok (.ireturn, 1) := by decide +kernel
theorem dX9_total_0 : decode cX9_total 0 = .ok (.iconst 0, 1) := by decide +kernel
theorem dX9_total_1 : decode cX9_total 1 = .ok (.istore_n 1, 1) := by decide +kernel
theorem dX9_total_2 : decode cX9_total 2 = .ok (.iconst 0, 1) := by decide +kernel
theorem dX9_total_3 : decode cX9_total 3 = .ok (.istore_n 2, 1) := by decide +kernel
theorem dX9_total_4 : decode cX9_total 4 = .ok (.iload_n 2, 1) := by decide +kernel
theorem dX9_total_5 : decode cX9_total 5 = .ok (.bipush 36, 2) := by decide +kernel
theorem dX9_total_7 : decode cX9_total 7 = .ok (.if_icmp .ge 25, 3) := by decide +kernel
theorem dX9_total_10 : decode cX9_total 10 = .ok (.iload_n 1, 1) := by decide +kernel
theorem dX9_total_11 : decode cX9_total 11 = .ok (.aload_n 0, 1) := by decide +kernel
theorem dX9_total_12 : decode cX9_total 12 = .ok (.getfield 27, 3) := by decide +kernel
theorem dX9_total_15 : decode cX9_total 15 = .ok (.iload_n 2, 1) := by decide +kernel
theorem dX9_total_16 : decode cX9_total 16 = .ok (.iaload, 1) := by decide +kernel
theorem dX9_total_17 : decode cX9_total 17 = .ok (.aload_n 0, 1) := by decide +kernel
theorem dX9_total_18 : decode cX9_total 18 = .ok (.getfield 24, 3) := by decide +kernel
theorem dX9_total_21 : decode cX9_total 21 = .ok (.iload_n 2, 1) := by decide +kernel
theorem dX9_total_22 : decode cX9_total 22 = .ok (.iaload, 1) := by decide +kernel
theorem dX9_total_23 : decode cX9_total 23 = .ok (.imul, 1) := by decide +kernel
theorem dX9_total_24 : decode cX9_total 24 = .ok (.iadd, 1) := by decide +kernel
theorem dX9_total_25 : decode cX9_total 25 = .ok (.istore_n 1, 1) := by decide +kernel
theorem dX9_total_26 : decode cX9_total 26 = .ok (.iinc 2 1, 3) := by decide +kernel
theorem dX9_total_29 : decode cX9_total 29 = .ok (.goto (-25), 3) := by decide +kernel
theorem dX9_total_32 : decode cX9_total 32 = .ok (.iload_n 1, 1) := by decide +kernel
theorem dX9_total_33 : decode cX9_total 33 = .ok (.ireturn, 1) := by decide +kernel
theorem dX9_values_0 : decode cX9_values 0 = .ok (.iconst 0, 1) := by decide +kernel
theorem dX9_values_1 : decode cX9_values 1 = .ok (.istore_n 1, 1) := by decide +kernel
theorem dX9_values_2 : decode cX9_values 2 = .ok (.iload_n 1, 1) := by decide +kernel
theorem dX9_values_3 : decode cX9_values 3 = .ok (.bipush 12, 2) := by decide +kernel
theorem dX9_values_5 : decode cX9_values 5 = .ok (.if_icmp .ge 31, 3) := by decide +kernel
theorem dX9_values_8 : decode cX9_values 8 = .ok (.aload_n 0, 1) := by decide +kernel
theorem dX9_values_9 : decode cX9_values 9 = .ok (.getfield 73, 3) := by decide +kernel
theorem dX9_values_12 : decode cX9_values 12 = .ok (.iload_n 1, 1) := by decide +kernel
theorem dX9_values_13 : decode cX9_values 13 = .ok (.iload_n 1, 1) := by decide +kernel
theorem dX9_values_14 : decode cX9_values 14 = .ok (.ifCond .ne 7, 3) := by decide +kernel
theorem dX9_values_17 : decode cX9_values 17 = .ok (.iconst 1, 1) := by decide +kernel
theorem dX9_values_18 : decode cX9_values 18 = .ok (.goto 4, 3) := by decide +kernel
theorem dX9_values_21 : decode cX9_values 21 = .ok (.iconst 0, 1) := by decide +kernel
theorem dX9_values_22 : decode cX9_values 22 = .ok (.bastore, 1) := by decide +kernel
theorem dX9_values_23 : decode cX9_values 23 = .ok (.aload_n 0, 1) := by decide +kernel
theorem dX9_values_24 : decode cX9_values 24 = .ok (.getfield 70, 3) := by decide +kernel
theorem dX9_values_27 : decode cX9_values 27 = .ok (.iload_n 1, 1) := by decide +kernel
theorem dX9_values_28 : decode cX9_values 28 = .ok (.iconst 0, 1) := by decide +kernel
theorem dX9_values_29 : decode cX9_values 29 = .ok (.iastore, 1) := by decide +kernel
theorem dX9_values_30 : decode cX9_values 30 = .ok (.iinc 1 1, 3) := by decide +kernel
theorem dX9_values_33 : decode cX9_values 33 = .ok (.goto (-31), 3) := by decide +kernel
theorem dX9_values_36 : decode cX9_values 36 = .ok (.iconst 1, 1) := by decide +kernel
theorem dX9_values_37 : decode cX9_values 37 = .ok (.istore_n 1, 1) := by decide +kernel
theorem dX9_values_38 : decode cX9_values 38 = .ok (.iload_n 1, 1) := by decide +kernel
theorem dX9_values_39 : decode cX9_values 39 = .ok (.ifCond .eq 115, 3) := by decide +kernel
theorem dX9_values_42 : decode cX9_values 42 = .ok (.iconst 0, 1) := by decide +kernel
theorem dX9_values_43 : decode cX9_values 43 = .ok (.istore_n 1, 1) := by decide +kernel
theorem dX9_values_44 : decode cX9_values 44 = .ok (.iconst 0, 1) := by decide +kernel
theorem dX9_values_45 : decode cX9_values 45 = .ok (.istore_n 2, 1) := by decide +kernel
theorem dX9_values_46 : decode cX9_values 46 = .ok (.iload_n 2, 1) := by decide +kernel
theorem dX9_values_47 : decode cX9_values 47 = .ok (.bipush 36, 2) := by decide +kernel
theorem dX9_values_49 : decode cX9_values 49 = .ok (.if_icmp .ge 102, 3) := by decide +kernel
theorem dX9_values_52 : decode cX9_values 52 = .ok (.iload_n 2, 1) := by decide +kernel
theorem dX9_values_53 : decode cX9_values 53 = .ok (.bipush 6, 2) := by decide +kernel
theorem dX9_values_55 : decode cX9_values 55 = .ok (.idiv, 1) := by decide +kernel
theorem dX9_values_56 : decode cX9_values 56 = .ok (.istore_n 3, 1) := by decide +kernel
theorem dX9_values_57 : decode cX9_values 57 = .ok (.bipush 6, 2) := by decide +kernel
theorem dX9_values_59 : decode cX9_values 59 = .ok (.iload_n 2, 1) := by decide +kernel
theorem dX9_values_60 : decode cX9_values 60 = .ok (.bipush 6, 2) := by decide +kernel
theorem dX9_values_62 : decode cX9_values 62 = .ok (.irem, 1) := by decide +kernel
theorem dX9_values_63 : decode cX9_values 63 = .ok (.iadd, 1) := by decide +kernel
theorem dX9_values_64 : decode cX9_values 64 = .ok (.istore 4, 2) := by decide +kernel
theorem dX9_values_66 : decode cX9_values 66 = .ok (.aload_n 0, 1) := by decide +kernel
theorem dX9_values_67 : decode cX9_values 67 = .ok (.getfield 30, 3) := by decide +kernel
theorem dX9_values_70 : decode cX9_values 70 = .ok (.iload_n 2, 1) := by decide +kernel
theorem dX9_values_71 : decode cX9_values 71 = .ok (.iaload, 1) := by decide +kernel
theorem dX9_values_72 : decode cX9_values 72 = .ok (.iconst 1, 1) := by decide +kernel
theorem dX9_values_73 : decode cX9_values 73 = .ok (.if_icmp .ne 72, 3) := by decide +kernel
theorem dX9_values_76 : decode cX9_values 76 = .ok (.aload_n 0, 1) := by decide +kernel
theorem dX9_values_77 : decode cX9_values 77 = .ok (.getfield 73, 3) := by decide +kernel
theorem dX9_values_80 : decode cX9_values 80 = .ok (.iload_n 3, 1) := by decide +kernel
theorem dX9_values_81 : decode cX9_values 81 = .ok (.baload, 1) := by decide +kernel
theorem dX9_values_82 : decode cX9_values 82 = .ok (.aload_n 0, 1) := by decide +kernel
theorem dX9_values_83 : decode cX9_values 83 = .ok (.getfield 73, 3) := by decide +kernel
theorem dX9_values_86 : decode cX9_values 86 = .ok (.iload 4, 2) := by decide +kernel
theorem dX9_values_88 : decode cX9_values 88 = .ok (.baload, 1) := by decide +kernel
theorem dX9_values_89 : decode cX9_values 89 = .ok (.if_icmp .eq 56, 3) := by decide +kernel
theorem dX9_values_92 : decode cX9_values 92 = .ok (.aload_n 0, 1) := by decide +kernel
theorem dX9_values_93 : decode cX9_values 93 = .ok (.getfield 73, 3) := by decide +kernel
theorem dX9_values_96 : decode cX9_values 96 = .ok (.iload_n 3, 1) := by decide +kernel
theorem dX9_values_97 : decode cX9_values 97 = .ok (.baload, 1) := by decide +kernel
theorem dX9_values_98 : decode cX9_values 98 = .ok (.ifCond .eq 8, 3) := by decide +kernel
theorem dX9_values_101 : decode cX9_values 101 = .ok (.iload 4, 2) := by decide +kernel
theorem dX9_values_103 : decode cX9_values 103 = .ok (.goto 4, 3) := by decide +kernel
theorem dX9_values_106 : decode cX9_values 106 = .ok (.iload_n 3, 1) := by decide +kernel
theorem dX9_values_107 : decode cX9_values 107 = .ok (.istore 5, 2) := by decide +kernel
theorem dX9_values_109 : decode cX9_values 109 = .ok (.aload_n 0, 1) := by decide +kernel
theorem dX9_values_110 : decode cX9_values 110 = .ok (.getfield 70, 3) := by decide +kernel
theorem dX9_values_113 : decode cX9_values 113 = .ok (.iload 5, 2) := by decide +kernel
theorem dX9_values_115 : decode cX9_values 115 = .ok (.aload_n 0, 1) := by decide +kernel
theorem dX9_values_116 : decode cX9_values 116 = .ok (.getfield 24, 3) := by decide +kernel
theorem dX9_values_119 : decode cX9_values 119 = .ok (.iload_n 2, 1) := by decide +kernel
theorem dX9_values_120 : decode cX9_values 120 = .ok (.iaload, 1) := by decide +kernel
theorem dX9_values_121 : decode cX9_values 121 = .ok (.aload_n 0, 1) := by decide +kernel
theorem dX9_values_122 : decode cX9_values 122 = .ok (.getfield 70, 3) := by decide +kernel
theorem dX9_values_125 : decode cX9_values 125 = .ok (.iload_n 3, 1) := by decide +kernel
theorem dX9_values_126 : decode cX9_values 126 = .ok (.iload 4, 2) := by decide +kernel
theorem dX9_values_128 : decode cX9_values 128 = .ok (.iadd, 1) := by decide +kernel
theorem dX9_values_129 : decode cX9_values 129 = .ok (.iload 5, 2) := by decide +kernel
theorem dX9_values_131 : decode cX9_values 131 = .ok (.isub, 1) := by decide +kernel
theorem dX9_values_132 : decode cX9_values 132 = .ok (.iaload, 1) := by decide +kernel
theorem dX9_values_133 : decode cX9_values 133 = .ok (.isub, 1) := by decide +kernel
theorem dX9_values_134 : decode cX9_values 134 = .ok (.iastore, 1) := by decide +kernel
theorem dX9_values_135 : decode cX9_values 135 = .ok (.aload_n 0, 1) := by decide +kernel
theorem dX9_values_136 : decode cX9_values 136 = .ok (.getfield 73, 3) := by decide +kernel
theorem dX9_values_139 : decode cX9_values 139 = .ok (.iload 5, 2) := by decide +kernel
theorem dX9_values_141 : decode cX9_values 141 = .ok (.iconst 1, 1) := by decide +kernel
theorem dX9_values_142 : decode cX9_values 142 = .ok (.bastore, 1) := by decide +kernel
theorem dX9_values_143 : decode cX9_values 143 = .ok (.iconst 1, 1) := by decide +kernel
theorem dX9_values_144 : decode cX9_values 144 = .ok (.istore_n 1, 1) := by decide +kernel
theorem dX9_values_145 : decode cX9_values 145 = .ok (.iinc 2 1, 3) := by decide +kernel
theorem dX9_values_148 : decode cX9_values 148 = .ok (.goto (-102), 3) := by decide +kernel
theorem dX9_values_151 : decode cX9_values 151 = .ok (.goto (-113), 3) := by decide +kernel
theorem dX9_values_154 : decode cX9_values 154 = .ok (.return_, 1) := by decide +kernel
theorem dX9_over_0 : decode cX9_over 0 = .ok (.aload_n 0, 1) := by decide +kernel
theorem dX9_over_1 : decode cX9_over 1 = .ok (.getfield 24, 3) := by decide +kernel
theorem dX9_over_4 : decode cX9_over 4 = .ok (.iload_n 1, 1) := by decide +kernel
theorem dX9_over_5 : decode cX9_over 5 = .ok (.iaload, 1) := by decide +kernel
theorem dX9_over_6 : decode cX9_over 6 = .ok (.aload_n 0, 1) := by decide +kernel
theorem dX9_over_7 : decode cX9_over 7 = .ok (.getfield 70, 3) := by decide +kernel
theorem dX9_over_10 : decode cX9_over 10 = .ok (.iload_n 1, 1) := by decide +kernel
theorem dX9_over_11 : decode cX9_over 11 = .ok (.bipush 6, 2) := by decide +kernel
theorem dX9_over_13 : decode cX9_over 13 = .ok (.idiv, 1) := by decide +kernel
theorem dX9_over_14 : decode cX9_over 14 = .ok (.iaload, 1) := by decide +kernel
theorem dX9_over_15 : decode cX9_over 15 = .ok (.isub, 1) := by decide +kernel
theorem dX9_over_16 : decode cX9_over 16 = .ok (.aload_n 0, 1) := by decide +kernel
theorem dX9_over_17 : decode cX9_over 17 = .ok (.getfield 70, 3) := by decide +kernel
theorem dX9_over_20 : decode cX9_over 20 = .ok (.bipush 6, 2) := by decide +kernel
theorem dX9_over_22 : decode cX9_over 22 = .ok (.iload_n 1, 1) := by decide +kernel
theorem dX9_over_23 : decode cX9_over 23 = .ok (.bipush 6, 2) := by decide +kernel
theorem dX9_over_25 : decode cX9_over 25 = .ok (.irem, 1) := by decide +kernel
theorem dX9_over_26 : decode cX9_over 26 = .ok (.iadd, 1) := by decide +kernel
theorem dX9_over_27 : decode cX9_over 27 = .ok (.iaload, 1) := by decide +kernel
theorem dX9_over_28 : decode cX9_over 28 = .ok (.isub, 1) := by decide +kernel
theorem dX9_over_29 : decode cX9_over 29 = .ok (.ireturn, 1) := by decide +kernel
theorem dX9_isInPlan_0 : decode cX9_isInPlan 0 = .ok (.iload_n 1, 1) := by decide +kernel
theorem dX9_isInPlan_1 : decode cX9_isInPlan 1 = .ok (.bipush 6, 2) := by decide +kernel
theorem dX9_isInPlan_3 : decode cX9_isInPlan 3 = .ok (.idiv, 1) := by decide +kernel
theorem dX9_isInPlan_4 : decode cX9_isInPlan 4 = .ok (.aload_n 0, 1) := by decide +kernel
theorem dX9_isInPlan_5 : decode cX9_isInPlan 5 = .ok (.getfield 124, 3) := by decide +kernel
theorem dX9_isInPlan_8 : decode cX9_isInPlan 8 = .ok (.if_icmp .ge 18, 3) := by decide +kernel
theorem dX9_isInPlan_11 : decode cX9_isInPlan 11 = .ok (.iload_n 1, 1) := by decide +kernel
theorem dX9_isInPlan_12 : decode cX9_isInPlan 12 = .ok (.bipush 6, 2) := by decide +kernel
theorem dX9_isInPlan_14 : decode cX9_isInPlan 14 = .ok (.irem, 1) := by decide +kernel
theorem dX9_isInPlan_15 : decode cX9_isInPlan 15 = .ok (.aload_n 0, 1) := by decide +kernel
theorem dX9_isInPlan_16 : decode cX9_isInPlan 16 = .ok (.getfield 127, 3) := by decide +kernel
theorem dX9_isInPlan_19 : decode cX9_isInPlan 19 = .ok (.if_icmp .ge 7, 3) := by decide +kernel
theorem dX9_isInPlan_22 : decode cX9_isInPlan 22 = .ok (.iconst 1, 1) := by decide +kernel
theorem dX9_isInPlan_23 : decode cX9_isInPlan 23 = .ok (.goto 4, 3) := by decide +kernel
theorem dX9_isInPlan_26 : decode cX9_isInPlan 26 = .ok (.iconst 0, 1) := by decide +kernel
theorem dX9_isInPlan_27 : decode cX9_isInPlan 27 = .ok (.ireturn, 1) := by decide +kernel
theorem dX9_counted_0 : decode cX9_counted 0 = .ok (.aload_n 0, 1) := by decide +kernel
theorem dX9_counted_1 : decode cX9_counted 1 = .ok (.invokevirtual 284, 3) := by decide +kernel
theorem dX9_counted_4 : decode cX9_counted 4 = .ok (.iconst 0, 1) := by decide +kernel
theorem dX9_counted_5 : decode cX9_counted 5 = .ok (.istore_n 2, 1) := by decide +kernel
theorem dX9_counted_6 : decode cX9_counted 6 = .ok (.iconst 0, 1) := by decide +kernel
theorem dX9_counted_7 : decode cX9_counted 7 = .ok (.istore_n 3, 1) := by decide +kernel
theorem dX9_counted_8 : decode cX9_counted 8 = .ok (.iload_n 3, 1) := by decide +kernel
theorem dX9_counted_9 : decode cX9_counted 9 = .ok (.bipush 36, 2) := by decide +kernel
theorem dX9_counted_11 : decode cX9_counted 11 = .ok (.if_icmp .ge 107, 3) := by decide +kernel
theorem dX9_counted_14 : decode cX9_counted 14 = .ok (.iload_n 1, 1) := by decide +kernel
theorem dX9_counted_15 : decode cX9_counted 15 = .ok (.iconst 3, 1) := by decide +kernel
theorem dX9_counted_16 : decode cX9_counted 16 = .ok (.if_icmp .ne 30, 3) := by decide +kernel
theorem dX9_counted_19 : decode cX9_counted 19 = .ok (.aload_n 0, 1) := by decide +kernel
theorem dX9_counted_20 : decode cX9_counted 20 = .ok (.getfield 30, 3) := by decide +kernel
theorem dX9_counted_23 : decode cX9_counted 23 = .ok (.iload_n 3, 1) := by decide +kernel
theorem dX9_counted_24 : decode cX9_counted 24 = .ok (.iaload, 1) := by decide +kernel
theorem dX9_counted_25 : decode cX9_counted 25 = .ok (.iconst 1, 1) := by decide +kernel
theorem dX9_counted_26 : decode cX9_counted 26 = .ok (.if_icmp .ne 16, 3) := by decide +kernel
theorem dX9_counted_29 : decode cX9_counted 29 = .ok (.aload_n 0, 1) := by decide +kernel
theorem dX9_counted_30 : decode cX9_counted 30 = .ok (.getfield 27, 3) := by decide +kernel
theorem dX9_counted_33 : decode cX9_counted 33 = .ok (.iload_n 3, 1) := by decide +kernel
theorem dX9_counted_34 : decode cX9_counted 34 = .ok (.iaload, 1) := by decide +kernel
theorem dX9_counted_35 : decode cX9_counted 35 = .ok (.ifCond .ne 7, 3) := by decide +kernel
theorem dX9_counted_38 : decode cX9_counted 38 = .ok (.iconst 1, 1) := by decide +kernel
theorem dX9_counted_39 : decode cX9_counted 39 = .ok (.goto 50, 3) := by decide +kernel
theorem dX9_counted_42 : decode cX9_counted 42 = .ok (.iconst 0, 1) := by decide +kernel
theorem dX9_counted_43 : decode cX9_counted 43 = .ok (.goto 46, 3) := by decide +kernel
theorem dX9_counted_46 : decode cX9_counted 46 = .ok (.iload_n 1, 1) := by decide +kernel
theorem dX9_counted_47 : decode cX9_counted 47 = .ok (.iconst 4, 1) := by decide +kernel
theorem dX9_counted_48 : decode cX9_counted 48 = .ok (.if_icmp .ne 28, 3) := by decide +kernel
theorem dX9_counted_51 : decode cX9_counted 51 = .ok (.aload_n 0, 1) := by decide +kernel
theorem dX9_counted_52 : decode cX9_counted 52 = .ok (.getfield 30, 3) := by decide +kernel
theorem dX9_counted_55 : decode cX9_counted 55 = .ok (.iload_n 3, 1) := by decide +kernel
theorem dX9_counted_56 : decode cX9_counted 56 = .ok (.iaload, 1) := by decide +kernel
theorem dX9_counted_57 : decode cX9_counted 57 = .ok (.ifCond .ne 15, 3) := by decide +kernel
theorem dX9_counted_60 : decode cX9_counted 60 = .ok (.aload_n 0, 1) := by decide +kernel
theorem dX9_counted_61 : decode cX9_counted 61 = .ok (.iload_n 3, 1) := by decide +kernel
theorem dX9_counted_62 : decode cX9_counted 62 = .ok (.invokevirtual 287, 3) := by decide +kernel
theorem dX9_counted_65 : decode cX9_counted 65 = .ok (.ifCond .ne 7, 3) := by decide +kernel
theorem dX9_counted_68 : decode cX9_counted 68 = .ok (.iconst 1, 1) := by decide +kernel
theorem dX9_counted_69 : decode cX9_counted 69 = .ok (.goto 20, 3) := by decide +kernel
theorem dX9_counted_72 : decode cX9_counted 72 = .ok (.iconst 0, 1) := by decide +kernel
theorem dX9_counted_73 : decode cX9_counted 73 = .ok (.goto 16, 3) := by decide +kernel
theorem dX9_counted_76 : decode cX9_counted 76 = .ok (.aload_n 0, 1) := by decide +kernel
theorem dX9_counted_77 : decode cX9_counted 77 = .ok (.iload_n 3, 1) := by decide +kernel
theorem dX9_counted_78 : decode cX9_counted 78 = .ok (.invokevirtual 287, 3) := by decide +kernel
theorem dX9_counted_81 : decode cX9_counted 81 = .ok (.ifCond .ge 7, 3) := by decide +kernel
theorem dX9_counted_84 : decode cX9_counted 84 = .ok (.iconst 1, 1) := by decide +kernel
theorem dX9_counted_85 : decode cX9_counted 85 = .ok (.goto 4, 3) := by decide +kernel
theorem dX9_counted_88 : decode cX9_counted 88 = .ok (.iconst 0, 1) := by decide +kernel
theorem dX9_counted_89 : decode cX9_counted 89 = .ok (.istore 4, 2) := by decide +kernel
theorem dX9_counted_91 : decode cX9_counted 91 = .ok (.iload_n 2, 1) := by decide +kernel
theorem dX9_counted_92 : decode cX9_counted 92 = .ok (.aload_n 0, 1) := by decide +kernel
theorem dX9_counted_93 : decode cX9_counted 93 = .ok (.iload_n 3, 1) := by decide +kernel
theorem dX9_counted_94 : decode cX9_counted 94 = .ok (.invokevirtual 290, 3) := by decide +kernel
theorem dX9_counted_97 : decode cX9_counted 97 = .ok (.ifCond .eq 12, 3) := by decide +kernel
theorem dX9_counted_100 : decode cX9_counted 100 = .ok (.iload 4, 2) := by decide +kernel
theorem dX9_counted_102 : decode cX9_counted 102 = .ok (.ifCond .eq 7, 3) := by decide +kernel
theorem dX9_counted_105 : decode cX9_counted 105 = .ok (.iconst 1, 1) := by decide +kernel
theorem dX9_counted_106 : decode cX9_counted 106 = .ok (.goto 4, 3) := by decide +kernel
theorem dX9_counted_109 : decode cX9_counted 109 = .ok (.iconst 0, 1) := by decide +kernel
theorem dX9_counted_110 : decode cX9_counted 110 = .ok (.iadd, 1) := by decide +kernel
theorem dX9_counted_111 : decode cX9_counted 111 = .ok (.istore_n 2, 1) := by decide +kernel
theorem dX9_counted_112 : decode cX9_counted 112 = .ok (.iinc 3 1, 3) := by decide +kernel
theorem dX9_counted_115 : decode cX9_counted 115 = .ok (.goto (-107), 3) := by decide +kernel
theorem dX9_counted_118 : decode cX9_counted 118 = .ok (.iload_n 2, 1) := by decide +kernel
theorem dX9_counted_119 : decode cX9_counted 119 = .ok (.ireturn, 1) := by decide +kernel
theorem dX9_isProved_0 : decode cX9_isProved 0 = .ok (.aload_n 0, 1) := by decide +kernel
theorem dX9_isProved_1 : decode cX9_isProved 1 = .ok (.iconst 5, 1) := by decide +kernel
theorem dX9_isProved_2 : decode cX9_isProved 2 = .ok (.invokevirtual 293, 3) := by decide +kernel
theorem dX9_isProved_5 : decode cX9_isProved 5 = .ok (.ifCond .ne 7, 3) := by decide +kernel
theorem dX9_isProved_8 : decode cX9_isProved 8 = .ok (.iconst 1, 1) := by decide +kernel
theorem dX9_isProved_9 : decode cX9_isProved 9 = .ok (.goto 4, 3) := by decide +kernel
theorem dX9_isProved_12 : decode cX9_isProved 12 = .ok (.iconst 0, 1) := by decide +kernel
theorem dX9_isProved_13 : decode cX9_isProved 13 = .ok (.ireturn, 1) := by decide +kernel
theorem dX9_tie_0 : decode cX9_tie 0 = .ok (.aload_n 0, 1) := by decide +kernel
theorem dX9_tie_1 : decode cX9_tie 1 = .ok (.getfield 76, 3) := by decide +kernel
theorem dX9_tie_4 : decode cX9_tie 4 = .ok (.iload_n 1, 1) := by decide +kernel
theorem dX9_tie_5 : decode cX9_tie 5 = .ok (.iload_n 2, 1) := by decide +kernel
theorem dX9_tie_6 : decode cX9_tie 6 = .ok (.ifCond .le 7, 3) := by decide +kernel
theorem dX9_tie_9 : decode cX9_tie 9 = .ok (.iconst 1, 1) := by decide +kernel
theorem dX9_tie_10 : decode cX9_tie 10 = .ok (.goto 4, 3) := by decide +kernel
theorem dX9_tie_13 : decode cX9_tie 13 = .ok (.iconst 0, 1) := by decide +kernel
theorem dX9_tie_14 : decode cX9_tie 14 = .ok (.bastore, 1) := by decide +kernel
theorem dX9_tie_15 : decode cX9_tie 15 = .ok (.aload_n 0, 1) := by decide +kernel
theorem dX9_tie_16 : decode cX9_tie 16 = .ok (.getfield 82, 3) := by decide +kernel
theorem dX9_tie_19 : decode cX9_tie 19 = .ok (.iload_n 1, 1) := by decide +kernel
theorem dX9_tie_20 : decode cX9_tie 20 = .ok (.bipush 6, 2) := by decide +kernel
theorem dX9_tie_22 : decode cX9_tie 22 = .ok (.idiv, 1) := by decide +kernel
theorem dX9_tie_23 : decode cX9_tie 23 = .ok (.dup2, 1) := by decide +kernel
theorem dX9_tie_24 : decode cX9_tie 24 = .ok (.iaload, 1) := by decide +kernel
theorem dX9_tie_25 : decode cX9_tie 25 = .ok (.iload_n 2, 1) := by decide +kernel
theorem dX9_tie_26 : decode cX9_tie 26 = .ok (.iadd, 1) := by decide +kernel
theorem dX9_tie_27 : decode cX9_tie 27 = .ok (.iastore, 1) := by decide +kernel
theorem dX9_tie_28 : decode cX9_tie 28 = .ok (.aload_n 0, 1) := by decide +kernel
theorem dX9_tie_29 : decode cX9_tie 29 = .ok (.getfield 82, 3) := by decide +kernel
theorem dX9_tie_32 : decode cX9_tie 32 = .ok (.bipush 6, 2) := by decide +kernel
theorem dX9_tie_34 : decode cX9_tie 34 = .ok (.iload_n 1, 1) := by decide +kernel
theorem dX9_tie_35 : decode cX9_tie 35 = .ok (.bipush 6, 2) := by decide +kernel
theorem dX9_tie_37 : decode cX9_tie 37 = .ok (.irem, 1) := by decide +kernel
theorem dX9_tie_38 : decode cX9_tie 38 = .ok (.iadd, 1) := by decide +kernel
theorem dX9_tie_39 : decode cX9_tie 39 = .ok (.dup2, 1) := by decide +kernel
theorem dX9_tie_40 : decode cX9_tie 40 = .ok (.iaload, 1) := by decide +kernel
theorem dX9_tie_41 : decode cX9_tie 41 = .ok (.iload_n 2, 1) := by decide +kernel
theorem dX9_tie_42 : decode cX9_tie 42 = .ok (.iadd, 1) := by decide +kernel
theorem dX9_tie_43 : decode cX9_tie 43 = .ok (.iastore, 1) := by decide +kernel
theorem dX9_tie_44 : decode cX9_tie 44 = .ok (.return_, 1) := by decide +kernel
theorem dX9_otherIn_0 : decode cX9_otherIn 0 = .ok (.iconst 0, 1) := by decide +kernel
theorem dX9_otherIn_1 : decode cX9_otherIn 1 = .ok (.istore_n 3, 1) := by decide +kernel
theorem dX9_otherIn_2 : decode cX9_otherIn 2 = .ok (.iload_n 3, 1) := by decide +kernel
theorem dX9_otherIn_3 : decode cX9_otherIn 3 = .ok (.bipush 36, 2) := by decide +kernel
theorem dX9_otherIn_5 : decode cX9_otherIn 5 = .ok (.if_icmp .ge 44, 3) := by decide +kernel
theorem dX9_otherIn_8 : decode cX9_otherIn 8 = .ok (.iload_n 3, 1) := by decide +kernel
theorem dX9_otherIn_9 : decode cX9_otherIn 9 = .ok (.iload_n 2, 1) := by decide +kernel
theorem dX9_otherIn_10 : decode cX9_otherIn 10 = .ok (.if_icmp .eq 33, 3) := by decide +kernel
theorem dX9_otherIn_13 : decode cX9_otherIn 13 = .ok (.aload_n 0, 1) := by decide +kernel
theorem dX9_otherIn_14 : decode cX9_otherIn 14 = .ok (.getfield 76, 3) := by decide +kernel
theorem dX9_otherIn_17 : decode cX9_otherIn 17 = .ok (.iload_n 3, 1) := by decide +kernel
theorem dX9_otherIn_18 : decode cX9_otherIn 18 = .ok (.baload, 1) := by decide +kernel
theorem dX9_otherIn_19 : decode cX9_otherIn 19 = .ok (.ifCond .eq 24, 3) := by decide +kernel
theorem dX9_otherIn_22 : decode cX9_otherIn 22 = .ok (.iload_n 3, 1) := by decide +kernel
theorem dX9_otherIn_23 : decode cX9_otherIn 23 = .ok (.bipush 6, 2) := by decide +kernel
theorem dX9_otherIn_25 : decode cX9_otherIn 25 = .ok (.idiv, 1) := by decide +kernel
theorem dX9_otherIn_26 : decode cX9_otherIn 26 = .ok (.iload_n 1, 1) := by decide +kernel
theorem dX9_otherIn_27 : decode cX9_otherIn 27 = .ok (.if_icmp .eq 14, 3) := by decide +kernel
theorem dX9_otherIn_30 : decode cX9_otherIn 30 = .ok (.bipush 6, 2) := by decide +kernel
theorem dX9_otherIn_32 : decode cX9_otherIn 32 = .ok (.iload_n 3, 1) := by decide +kernel
theorem dX9_otherIn_33 : decode cX9_otherIn 33 = .ok (.bipush 6, 2) := by decide +kernel
theorem dX9_otherIn_35 : decode cX9_otherIn 35 = .ok (.irem, 1) := by decide +kernel
theorem dX9_otherIn_36 : decode cX9_otherIn 36 = .ok (.iadd, 1) := by decide +kernel
theorem dX9_otherIn_37 : decode cX9_otherIn 37 = .ok (.iload_n 1, 1) := by decide +kernel
theorem dX9_otherIn_38 : decode cX9_otherIn 38 = .ok (.if_icmp .ne 5, 3) := by decide +kernel
theorem dX9_otherIn_41 : decode cX9_otherIn 41 = .ok (.iload_n 3, 1) := by decide +kernel
theorem dX9_otherIn_42 : decode cX9_otherIn 42 = .ok (.ireturn, 1) := by decide +kernel
theorem dX9_otherIn_43 : decode cX9_otherIn 43 = .ok (.iinc 3 1, 3) := by decide +kernel
theorem dX9_otherIn_46 : decode cX9_otherIn 46 = .ok (.goto (-44), 3) := by decide +kernel
theorem dX9_otherIn_49 : decode cX9_otherIn 49 = .ok (.iload_n 2, 1) := by decide +kernel
theorem dX9_otherIn_50 : decode cX9_otherIn 50 = .ok (.ireturn, 1) := by decide +kernel
theorem dX9_loops_0 : decode cX9_loops 0 = .ok (.iconst 0, 1) := by decide +kernel
theorem dX9_loops_1 : decode cX9_loops 1 = .ok (.istore_n 2, 1) := by decide +kernel
theorem dX9_loops_2 : decode cX9_loops 2 = .ok (.iload_n 2, 1) := by decide +kernel
theorem dX9_loops_3 : decode cX9_loops 3 = .ok (.bipush 12, 2) := by decide +kernel
theorem dX9_loops_5 : decode cX9_loops 5 = .ok (.if_icmp .ge 16, 3) := by decide +kernel
theorem dX9_loops_8 : decode cX9_loops 8 = .ok (.aload_n 0, 1) := by decide +kernel
theorem dX9_loops_9 : decode cX9_loops 9 = .ok (.getfield 82, 3) := by decide +kernel
theorem dX9_loops_12 : decode cX9_loops 12 = .ok (.iload_n 2, 1) := by decide +kernel
theorem dX9_loops_13 : decode cX9_loops 13 = .ok (.iconst 0, 1) := by decide +kernel
theorem dX9_loops_14 : decode cX9_loops 14 = .ok (.iastore, 1) := by decide +kernel
theorem dX9_loops_15 : decode cX9_loops 15 = .ok (.iinc 2 1, 3) := by decide +kernel
theorem dX9_loops_18 : decode cX9_loops 18 = .ok (.goto (-16), 3) := by decide +kernel
theorem dX9_loops_21 : decode cX9_loops 21 = .ok (.iconst 0, 1) := by decide +kernel
theorem dX9_loops_22 : decode cX9_loops 22 = .ok (.istore_n 2, 1) := by decide +kernel
theorem dX9_loops_23 : decode cX9_loops 23 = .ok (.iload_n 2, 1) := by decide +kernel
theorem dX9_loops_24 : decode cX9_loops 24 = .ok (.bipush 36, 2) := by decide +kernel
theorem dX9_loops_26 : decode cX9_loops 26 = .ok (.if_icmp .ge 37, 3) := by decide +kernel
theorem dX9_loops_29 : decode cX9_loops 29 = .ok (.aload_n 0, 1) := by decide +kernel
theorem dX9_loops_30 : decode cX9_loops 30 = .ok (.getfield 76, 3) := by decide +kernel
theorem dX9_loops_33 : decode cX9_loops 33 = .ok (.iload_n 2, 1) := by decide +kernel
theorem dX9_loops_34 : decode cX9_loops 34 = .ok (.iconst 0, 1) := by decide +kernel
theorem dX9_loops_35 : decode cX9_loops 35 = .ok (.bastore, 1) := by decide +kernel
theorem dX9_loops_36 : decode cX9_loops 36 = .ok (.aload_n 0, 1) := by decide +kernel
theorem dX9_loops_37 : decode cX9_loops 37 = .ok (.getfield 30, 3) := by decide +kernel
theorem dX9_loops_40 : decode cX9_loops 40 = .ok (.iload_n 2, 1) := by decide +kernel
theorem dX9_loops_41 : decode cX9_loops 41 = .ok (.iaload, 1) := by decide +kernel
theorem dX9_loops_42 : decode cX9_loops 42 = .ok (.iconst 1, 1) := by decide +kernel
theorem dX9_loops_43 : decode cX9_loops 43 = .ok (.if_icmp .eq 8, 3) := by decide +kernel
theorem dX9_loops_46 : decode cX9_loops 46 = .ok (.iload_n 2, 1) := by decide +kernel
theorem dX9_loops_47 : decode cX9_loops 47 = .ok (.iload_n 1, 1) := by decide +kernel
theorem dX9_loops_48 : decode cX9_loops 48 = .ok (.if_icmp .ne 9, 3) := by decide +kernel
theorem dX9_loops_51 : decode cX9_loops 51 = .ok (.aload_n 0, 1) := by decide +kernel
theorem dX9_loops_52 : decode cX9_loops 52 = .ok (.iload_n 2, 1) := by decide +kernel
theorem dX9_loops_53 : decode cX9_loops 53 = .ok (.iconst 1, 1) := by decide +kernel
theorem dX9_loops_54 : decode cX9_loops 54 = .ok (.invokevirtual 296, 3) := by decide +kernel
theorem dX9_loops_57 : decode cX9_loops 57 = .ok (.iinc 2 1, 3) := by decide +kernel
theorem dX9_loops_60 : decode cX9_loops 60 = .ok (.goto (-37), 3) := by decide +kernel
theorem dX9_loops_63 : decode cX9_loops 63 = .ok (.iconst 1, 1) := by decide +kernel
theorem dX9_loops_64 : decode cX9_loops 64 = .ok (.istore_n 2, 1) := by decide +kernel
theorem dX9_loops_65 : decode cX9_loops 65 = .ok (.iload_n 2, 1) := by decide +kernel
theorem dX9_loops_66 : decode cX9_loops 66 = .ok (.ifCond .eq 68, 3) := by decide +kernel
theorem dX9_loops_69 : decode cX9_loops 69 = .ok (.iconst 0, 1) := by decide +kernel
theorem dX9_loops_70 : decode cX9_loops 70 = .ok (.istore_n 2, 1) := by decide +kernel
theorem dX9_loops_71 : decode cX9_loops 71 = .ok (.iconst 0, 1) := by decide +kernel
theorem dX9_loops_72 : decode cX9_loops 72 = .ok (.istore_n 3, 1) := by decide +kernel
theorem dX9_loops_73 : decode cX9_loops 73 = .ok (.iload_n 3, 1) := by decide +kernel
theorem dX9_loops_74 : decode cX9_loops 74 = .ok (.bipush 36, 2) := by decide +kernel
theorem dX9_loops_76 : decode cX9_loops 76 = .ok (.if_icmp .ge 55, 3) := by decide +kernel
theorem dX9_loops_79 : decode cX9_loops 79 = .ok (.aload_n 0, 1) := by decide +kernel
theorem dX9_loops_80 : decode cX9_loops 80 = .ok (.getfield 76, 3) := by decide +kernel
theorem dX9_loops_83 : decode cX9_loops 83 = .ok (.iload_n 3, 1) := by decide +kernel
theorem dX9_loops_84 : decode cX9_loops 84 = .ok (.baload, 1) := by decide +kernel
theorem dX9_loops_85 : decode cX9_loops 85 = .ok (.ifCond .eq 40, 3) := by decide +kernel
theorem dX9_loops_88 : decode cX9_loops 88 = .ok (.aload_n 0, 1) := by decide +kernel
theorem dX9_loops_89 : decode cX9_loops 89 = .ok (.getfield 82, 3) := by decide +kernel
theorem dX9_loops_92 : decode cX9_loops 92 = .ok (.iload_n 3, 1) := by decide +kernel
theorem dX9_loops_93 : decode cX9_loops 93 = .ok (.bipush 6, 2) := by decide +kernel
theorem dX9_loops_95 : decode cX9_loops 95 = .ok (.idiv, 1) := by decide +kernel
theorem dX9_loops_96 : decode cX9_loops 96 = .ok (.iaload, 1) := by decide +kernel
theorem dX9_loops_97 : decode cX9_loops 97 = .ok (.iconst 1, 1) := by decide +kernel
theorem dX9_loops_98 : decode cX9_loops 98 = .ok (.if_icmp .eq 19, 3) := by decide +kernel
theorem dX9_loops_101 : decode cX9_loops 101 = .ok (.aload_n 0, 1) := by decide +kernel
theorem dX9_loops_102 : decode cX9_loops 102 = .ok (.getfield 82, 3) := by decide +kernel
theorem dX9_loops_105 : decode cX9_loops 105 = .ok (.bipush 6, 2) := by decide +kernel
theorem dX9_loops_107 : decode cX9_loops 107 = .ok (.iload_n 3, 1) := by decide +kernel
theorem dX9_loops_108 : decode cX9_loops 108 = .ok (.bipush 6, 2) := by decide +kernel
theorem dX9_loops_110 : decode cX9_loops 110 = .ok (.irem, 1) := by decide +kernel
theorem dX9_loops_111 : decode cX9_loops 111 = .ok (.iadd, 1) := by decide +kernel
theorem dX9_loops_112 : decode cX9_loops 112 = .ok (.iaload, 1) := by decide +kernel
theorem dX9_loops_113 : decode cX9_loops 113 = .ok (.iconst 1, 1) := by decide +kernel
theorem dX9_loops_114 : decode cX9_loops 114 = .ok (.if_icmp .ne 11, 3) := by decide +kernel
theorem dX9_loops_117 : decode cX9_loops 117 = .ok (.aload_n 0, 1) := by decide +kernel
theorem dX9_loops_118 : decode cX9_loops 118 = .ok (.iload_n 3, 1) := by decide +kernel
theorem dX9_loops_119 : decode cX9_loops 119 = .ok (.iconst (-1), 1) := by decide +kernel
theorem dX9_loops_120 : decode cX9_loops 120 = .ok (.invokevirtual 296, 3) := by decide +kernel
theorem dX9_loops_123 : decode cX9_loops 123 = .ok (.iconst 1, 1) := by decide +kernel
theorem dX9_loops_124 : decode cX9_loops 124 = .ok (.istore_n 2, 1) := by decide +kernel
theorem dX9_loops_125 : decode cX9_loops 125 = .ok (.iinc 3 1, 3) := by decide +kernel
theorem dX9_loops_128 : decode cX9_loops 128 = .ok (.goto (-55), 3) := by decide +kernel
theorem dX9_loops_131 : decode cX9_loops 131 = .ok (.goto (-66), 3) := by decide +kernel
theorem dX9_loops_134 : decode cX9_loops 134 = .ok (.aload_n 0, 1) := by decide +kernel
theorem dX9_loops_135 : decode cX9_loops 135 = .ok (.iconst 0, 1) := by decide +kernel
theorem dX9_loops_136 : decode cX9_loops 136 = .ok (.putfield 300, 3) := by decide +kernel
theorem dX9_loops_139 : decode cX9_loops 139 = .ok (.aload_n 0, 1) := by decide +kernel
theorem dX9_loops_140 : decode cX9_loops 140 = .ok (.ldc_w 305, 3) := by decide +kernel
theorem dX9_loops_143 : decode cX9_loops 143 = .ok (.putfield 306, 3) := by decide +kernel
theorem dX9_loops_146 : decode cX9_loops 146 = .ok (.iload_n 1, 1) := by decide +kernel
theorem dX9_loops_147 : decode cX9_loops 147 = .ok (.istore_n 3, 1) := by decide +kernel
theorem dX9_loops_148 : decode cX9_loops 148 = .ok (.aload_n 0, 1) := by decide +kernel
theorem dX9_loops_149 : decode cX9_loops 149 = .ok (.getfield 300, 3) := by decide +kernel
theorem dX9_loops_152 : decode cX9_loops 152 = .ok (.ifCond .eq 8, 3) := by decide +kernel
theorem dX9_loops_155 : decode cX9_loops 155 = .ok (.iload_n 3, 1) := by decide +kernel
theorem dX9_loops_156 : decode cX9_loops 156 = .ok (.iload_n 1, 1) := by decide +kernel
theorem dX9_loops_157 : decode cX9_loops 157 = .ok (.if_icmp .eq 89, 3) := by decide +kernel
theorem dX9_loops_160 : decode cX9_loops 160 = .ok (.aload_n 0, 1) := by decide +kernel
theorem dX9_loops_161 : decode cX9_loops 161 = .ok (.getfield 79, 3) := by decide +kernel
theorem dX9_loops_164 : decode cX9_loops 164 = .ok (.aload_n 0, 1) := by decide +kernel
theorem dX9_loops_165 : decode cX9_loops 165 = .ok (.getfield 300, 3) := by decide +kernel
theorem dX9_loops_168 : decode cX9_loops 168 = .ok (.iload_n 3, 1) := by decide +kernel
theorem dX9_loops_169 : decode cX9_loops 169 = .ok (.iastore, 1) := by decide +kernel
theorem dX9_loops_170 : decode cX9_loops 170 = .ok (.aload_n 0, 1) := by decide +kernel
theorem dX9_loops_171 : decode cX9_loops 171 = .ok (.aload_n 0, 1) := by decide +kernel
theorem dX9_loops_172 : decode cX9_loops 172 = .ok (.getfield 300, 3) := by decide +kernel
theorem dX9_loops_175 : decode cX9_loops 175 = .ok (.iconst 2, 1) := by decide +kernel
theorem dX9_loops_176 : decode cX9_loops 176 = .ok (.irem, 1) := by decide +kernel
theorem dX9_loops_177 : decode cX9_loops 177 = .ok (.iconst 1, 1) := by decide +kernel
theorem dX9_loops_178 : decode cX9_loops 178 = .ok (.if_icmp .ne 19, 3) := by decide +kernel
theorem dX9_loops_181 : decode cX9_loops 181 = .ok (.aload_n 0, 1) := by decide +kernel
theorem dX9_loops_182 : decode cX9_loops 182 = .ok (.getfield 306, 3) := by decide +kernel
theorem dX9_loops_185 : decode cX9_loops 185 = .ok (.aload_n 0, 1) := by decide +kernel
theorem dX9_loops_186 : decode cX9_loops 186 = .ok (.getfield 27, 3) := by decide +kernel
theorem dX9_loops_189 : decode cX9_loops 189 = .ok (.iload_n 3, 1) := by decide +kernel
theorem dX9_loops_190 : decode cX9_loops 190 = .ok (.iaload, 1) := by decide +kernel
theorem dX9_loops_191 : decode cX9_loops 191 = .ok (.invokestatic 272, 3) := by decide +kernel
theorem dX9_loops_194 : decode cX9_loops 194 = .ok (.goto 7, 3) := by decide +kernel
theorem dX9_loops_197 : decode cX9_loops 197 = .ok (.aload_n 0, 1) := by decide +kernel
theorem dX9_loops_198 : decode cX9_loops 198 = .ok (.getfield 306, 3) := by decide +kernel
theorem dX9_loops_201 : decode cX9_loops 201 = .ok (.putfield 306, 3) := by decide +kernel
theorem dX9_loops_204 : decode cX9_loops 204 = .ok (.aload_n 0, 1) := by decide +kernel
theorem dX9_loops_205 : decode cX9_loops 205 = .ok (.aload_n 0, 1) := by decide +kernel
theorem dX9_loops_206 : decode cX9_loops 206 = .ok (.getfield 300, 3) := by decide +kernel
theorem dX9_loops_209 : decode cX9_loops 209 = .ok (.iconst 2, 1) := by decide +kernel
theorem dX9_loops_210 : decode cX9_loops 210 = .ok (.irem, 1) := by decide +kernel
theorem dX9_loops_211 : decode cX9_loops 211 = .ok (.ifCond .ne 13, 3) := by decide +kernel
theorem dX9_loops_214 : decode cX9_loops 214 = .ok (.bipush 6, 2) := by decide +kernel
theorem dX9_loops_216 : decode cX9_loops 216 = .ok (.iload_n 3, 1) := by decide +kernel
theorem dX9_loops_217 : decode cX9_loops 217 = .ok (.bipush 6, 2) := by decide +kernel
theorem dX9_loops_219 : decode cX9_loops 219 = .ok (.irem, 1) := by decide +kernel
theorem dX9_loops_220 : decode cX9_loops 220 = .ok (.iadd, 1) := by decide +kernel
theorem dX9_loops_221 : decode cX9_loops 221 = .ok (.goto 7, 3) := by decide +kernel
theorem dX9_loops_224 : decode cX9_loops 224 = .ok (.iload_n 3, 1) := by decide +kernel
theorem dX9_loops_225 : decode cX9_loops 225 = .ok (.bipush 6, 2) := by decide +kernel
theorem dX9_loops_227 : decode cX9_loops 227 = .ok (.idiv, 1) := by decide +kernel
theorem dX9_loops_228 : decode cX9_loops 228 = .ok (.iload_n 3, 1) := by decide +kernel
theorem dX9_loops_229 : decode cX9_loops 229 = .ok (.invokevirtual 309, 3) := by decide +kernel
theorem dX9_loops_232 : decode cX9_loops 232 = .ok (.istore_n 3, 1) := by decide +kernel
theorem dX9_loops_233 : decode cX9_loops 233 = .ok (.aload_n 0, 1) := by decide +kernel
theorem dX9_loops_234 : decode cX9_loops 234 = .ok (.dup, 1) := by decide +kernel
theorem dX9_loops_235 : decode cX9_loops 235 = .ok (.getfield 300, 3) := by decide +kernel
theorem dX9_loops_238 : decode cX9_loops 238 = .ok (.iconst 1, 1) := by decide +kernel
theorem dX9_loops_239 : decode cX9_loops 239 = .ok (.iadd, 1) := by decide +kernel
theorem dX9_loops_240 : decode cX9_loops 240 = .ok (.putfield 300, 3) := by decide +kernel
theorem dX9_loops_243 : decode cX9_loops 243 = .ok (.goto (-95), 3) := by decide +kernel
theorem dX9_loops_246 : decode cX9_loops 246 = .ok (.return_, 1) := by decide +kernel
theorem dX9_enterer_0 : decode cX9_enterer 0 = .ok (.aload_n 0, 1) := by decide +kernel
theorem dX9_enterer_1 : decode cX9_enterer 1 = .ok (.invokevirtual 284, 3) := by decide +kernel
theorem dX9_enterer_4 : decode cX9_enterer 4 = .ok (.iconst (-1), 1) := by decide +kernel
theorem dX9_enterer_5 : decode cX9_enterer 5 = .ok (.istore_n 2, 1) := by decide +kernel
theorem dX9_enterer_6 : decode cX9_enterer 6 = .ok (.iconst 0, 1) := by decide +kernel
theorem dX9_enterer_7 : decode cX9_enterer 7 = .ok (.istore_n 3, 1) := by decide +kernel
theorem dX9_enterer_8 : decode cX9_enterer 8 = .ok (.iconst 0, 1) := by decide +kernel
theorem dX9_enterer_9 : decode cX9_enterer 9 = .ok (.istore 4, 2) := by decide +kernel
theorem dX9_enterer_11 : decode cX9_enterer 11 = .ok (.iload 4, 2) := by decide +kernel
theorem dX9_enterer_13 : decode cX9_enterer 13 = .ok (.bipush 36, 2) := by decide +kernel
theorem dX9_enterer_15 : decode cX9_enterer 15 = .ok (.if_icmp .ge 97, 3) := by decide +kernel
theorem dX9_enterer_18 : decode cX9_enterer 18 = .ok (.aload_n 0, 1) := by decide +kernel
theorem dX9_enterer_19 : decode cX9_enterer 19 = .ok (.iload 4, 2) := by decide +kernel
theorem dX9_enterer_21 : decode cX9_enterer 21 = .ok (.invokevirtual 290, 3) := by decide +kernel
theorem dX9_enterer_24 : decode cX9_enterer 24 = .ok (.ifCond .eq 82, 3) := by decide +kernel
theorem dX9_enterer_27 : decode cX9_enterer 27 = .ok (.aload_n 0, 1) := by decide +kernel
theorem dX9_enterer_28 : decode cX9_enterer 28 = .ok (.iload 4, 2) := by decide +kernel
theorem dX9_enterer_30 : decode cX9_enterer 30 = .ok (.invokevirtual 287, 3) := by decide +kernel
theorem dX9_enterer_33 : decode cX9_enterer 33 = .ok (.ifCond .ge 73, 3) := by decide +kernel
theorem dX9_enterer_36 : decode cX9_enterer 36 = .ok (.iload_n 2, 1) := by decide +kernel
theorem dX9_enterer_37 : decode cX9_enterer 37 = .ok (.ifCond .lt 8, 3) := by decide +kernel
theorem dX9_enterer_40 : decode cX9_enterer 40 = .ok (.iload_n 1, 1) := by decide +kernel
theorem dX9_enterer_41 : decode cX9_enterer 41 = .ok (.iconst 1, 1) := by decide +kernel
theorem dX9_enterer_42 : decode cX9_enterer 42 = .ok (.if_icmp .eq 64, 3) := by decide +kernel
theorem dX9_enterer_45 : decode cX9_enterer 45 = .ok (.aload_n 0, 1) := by decide +kernel
theorem dX9_enterer_46 : decode cX9_enterer 46 = .ok (.iload 4, 2) := by decide +kernel
theorem dX9_enterer_48 : decode cX9_enterer 48 = .ok (.invokevirtual 287, 3) := by decide +kernel
theorem dX9_enterer_51 : decode cX9_enterer 51 = .ok (.istore 5, 2) := by decide +kernel
theorem dX9_enterer_53 : decode cX9_enterer 53 = .ok (.iload_n 1, 1) := by decide +kernel
theorem dX9_enterer_54 : decode cX9_enterer 54 = .ok (.iconst 2, 1) := by decide +kernel
theorem dX9_enterer_55 : decode cX9_enterer 55 = .ok (.if_icmp .ne 18, 3) := by decide +kernel
theorem dX9_enterer_58 : decode cX9_enterer 58 = .ok (.aload_n 0, 1) := by decide +kernel
theorem dX9_enterer_59 : decode cX9_enterer 59 = .ok (.iload 4, 2) := by decide +kernel
theorem dX9_enterer_61 : decode cX9_enterer 61 = .ok (.invokevirtual 312, 3) := by decide +kernel
theorem dX9_enterer_64 : decode cX9_enterer 64 = .ok (.iload 5, 2) := by decide +kernel
