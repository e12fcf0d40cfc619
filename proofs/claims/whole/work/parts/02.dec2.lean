theorem dX9_enterer_66 : decode cX9_enterer 66 = .ok (.aload_n 0, 1) := by decide +kernel
theorem dX9_enterer_67 : decode cX9_enterer 67 = .ok (.getfield 306, 3) := by decide +kernel
theorem dX9_enterer_70 : decode cX9_enterer 70 = .ok (.imul, 1) := by decide +kernel
theorem dX9_enterer_71 : decode cX9_enterer 71 = .ok (.istore 5, 2) := by decide +kernel
theorem dX9_enterer_73 : decode cX9_enterer 73 = .ok (.iload_n 2, 1) := by decide +kernel
theorem dX9_enterer_74 : decode cX9_enterer 74 = .ok (.ifCond .ge 10, 3) := by decide +kernel
theorem dX9_enterer_77 : decode cX9_enterer 77 = .ok (.iload 5, 2) := by decide +kernel
theorem dX9_enterer_79 : decode cX9_enterer 79 = .ok (.iconst 1, 1) := by decide +kernel
theorem dX9_enterer_80 : decode cX9_enterer 80 = .ok (.iadd, 1) := by decide +kernel
theorem dX9_enterer_81 : decode cX9_enterer 81 = .ok (.goto 4, 3) := by decide +kernel
theorem dX9_enterer_84 : decode cX9_enterer 84 = .ok (.iload_n 3, 1) := by decide +kernel
theorem dX9_enterer_85 : decode cX9_enterer 85 = .ok (.istore_n 3, 1) := by decide +kernel
theorem dX9_enterer_86 : decode cX9_enterer 86 = .ok (.iload 5, 2) := by decide +kernel
theorem dX9_enterer_88 : decode cX9_enterer 88 = .ok (.iload_n 3, 1) := by decide +kernel
theorem dX9_enterer_89 : decode cX9_enterer 89 = .ok (.if_icmp .ge 8, 3) := by decide +kernel
theorem dX9_enterer_92 : decode cX9_enterer 92 = .ok (.iload 4, 2) := by decide +kernel
theorem dX9_enterer_94 : decode cX9_enterer 94 = .ok (.goto 4, 3) := by decide +kernel
theorem dX9_enterer_97 : decode cX9_enterer 97 = .ok (.iload_n 2, 1) := by decide +kernel
theorem dX9_enterer_98 : decode cX9_enterer 98 = .ok (.istore_n 2, 1) := by decide +kernel
theorem dX9_enterer_99 : decode cX9_enterer 99 = .ok (.iload_n 3, 1) := by decide +kernel
theorem dX9_enterer_100 : decode cX9_enterer 100 = .ok (.iload 5, 2) := by decide +kernel
theorem dX9_enterer_102 : decode cX9_enterer 102 = .ok (.invokestatic 272, 3) := by decide +kernel
theorem dX9_enterer_105 : decode cX9_enterer 105 = .ok (.istore_n 3, 1) := by decide +kernel
theorem dX9_enterer_106 : decode cX9_enterer 106 = .ok (.iinc 4 1, 3) := by decide +kernel
theorem dX9_enterer_109 : decode cX9_enterer 109 = .ok (.goto (-98), 3) := by decide +kernel
theorem dX9_enterer_112 : decode cX9_enterer 112 = .ok (.iload_n 2, 1) := by decide +kernel
theorem dX9_enterer_113 : decode cX9_enterer 113 = .ok (.ireturn, 1) := by decide +kernel
theorem dX9_moves_0 : decode cX9_moves 0 = .ok (.aload_n 0, 1) := by decide +kernel
theorem dX9_moves_1 : decode cX9_moves 1 = .ok (.iload_n 1, 1) := by decide +kernel
theorem dX9_moves_2 : decode cX9_moves 2 = .ok (.invokevirtual 315, 3) := by decide +kernel
theorem dX9_moves_5 : decode cX9_moves 5 = .ok (.istore_n 2, 1) := by decide +kernel
theorem dX9_moves_6 : decode cX9_moves 6 = .ok (.iload_n 2, 1) := by decide +kernel
theorem dX9_moves_7 : decode cX9_moves 7 = .ok (.ifCond .ge 5, 3) := by decide +kernel
theorem dX9_moves_10 : decode cX9_moves 10 = .ok (.iconst 0, 1) := by decide +kernel
theorem dX9_moves_11 : decode cX9_moves 11 = .ok (.ireturn, 1) := by decide +kernel
theorem dX9_moves_12 : decode cX9_moves 12 = .ok (.aload_n 0, 1) := by decide +kernel
theorem dX9_moves_13 : decode cX9_moves 13 = .ok (.iload_n 2, 1) := by decide +kernel
theorem dX9_moves_14 : decode cX9_moves 14 = .ok (.invokevirtual 312, 3) := by decide +kernel
theorem dX9_moves_17 : decode cX9_moves 17 = .ok (.bipush 36, 2) := by decide +kernel
theorem dX9_moves_19 : decode cX9_moves 19 = .ok (.istore_n 3, 1) := by decide +kernel
theorem dX9_moves_20 : decode cX9_moves 20 = .ok (.iconst 0, 1) := by decide +kernel
theorem dX9_moves_21 : decode cX9_moves 21 = .ok (.istore 4, 2) := by decide +kernel
theorem dX9_moves_23 : decode cX9_moves 23 = .ok (.iload 4, 2) := by decide +kernel
theorem dX9_moves_25 : decode cX9_moves 25 = .ok (.aload_n 0, 1) := by decide +kernel
theorem dX9_moves_26 : decode cX9_moves 26 = .ok (.getfield 300, 3) := by decide +kernel
theorem dX9_moves_29 : decode cX9_moves 29 = .ok (.if_icmp .ge 82, 3) := by decide +kernel
theorem dX9_moves_32 : decode cX9_moves 32 = .ok (.aload_n 0, 1) := by decide +kernel
theorem dX9_moves_33 : decode cX9_moves 33 = .ok (.getfield 27, 3) := by decide +kernel
theorem dX9_moves_36 : decode cX9_moves 36 = .ok (.aload_n 0, 1) := by decide +kernel
theorem dX9_moves_37 : decode cX9_moves 37 = .ok (.getfield 79, 3) := by decide +kernel
theorem dX9_moves_40 : decode cX9_moves 40 = .ok (.iload 4, 2) := by decide +kernel
theorem dX9_moves_42 : decode cX9_moves 42 = .ok (.iaload, 1) := by decide +kernel
theorem dX9_moves_43 : decode cX9_moves 43 = .ok (.dup2, 1) := by decide +kernel
theorem dX9_moves_44 : decode cX9_moves 44 = .ok (.iaload, 1) := by decide +kernel
theorem dX9_moves_45 : decode cX9_moves 45 = .ok (.iload 4, 2) := by decide +kernel
theorem dX9_moves_47 : decode cX9_moves 47 = .ok (.iconst 2, 1) := by decide +kernel
theorem dX9_moves_48 : decode cX9_moves 48 = .ok (.irem, 1) := by decide +kernel
theorem dX9_moves_49 : decode cX9_moves 49 = .ok (.ifCond .ne 10, 3) := by decide +kernel
theorem dX9_moves_52 : decode cX9_moves 52 = .ok (.aload_n 0, 1) := by decide +kernel
theorem dX9_moves_53 : decode cX9_moves 53 = .ok (.getfield 306, 3) := by decide +kernel
theorem dX9_moves_56 : decode cX9_moves 56 = .ok (.goto 8, 3) := by decide +kernel
theorem dX9_moves_59 : decode cX9_moves 59 = .ok (.aload_n 0, 1) := by decide +kernel
theorem dX9_moves_60 : decode cX9_moves 60 = .ok (.getfield 306, 3) := by decide +kernel
theorem dX9_moves_63 : decode cX9_moves 63 = .ok (.ineg, 1) := by decide +kernel
theorem dX9_moves_64 : decode cX9_moves 64 = .ok (.iadd, 1) := by decide +kernel
theorem dX9_moves_65 : decode cX9_moves 65 = .ok (.iastore, 1) := by decide +kernel
theorem dX9_moves_66 : decode cX9_moves 66 = .ok (.iload 4, 2) := by decide +kernel
theorem dX9_moves_68 : decode cX9_moves 68 = .ok (.iconst 2, 1) := by decide +kernel
theorem dX9_moves_69 : decode cX9_moves 69 = .ok (.irem, 1) := by decide +kernel
theorem dX9_moves_70 : decode cX9_moves 70 = .ok (.iconst 1, 1) := by decide +kernel
theorem dX9_moves_71 : decode cX9_moves 71 = .ok (.if_icmp .ne 32, 3) := by decide +kernel
theorem dX9_moves_74 : decode cX9_moves 74 = .ok (.aload_n 0, 1) := by decide +kernel
theorem dX9_moves_75 : decode cX9_moves 75 = .ok (.getfield 27, 3) := by decide +kernel
theorem dX9_moves_78 : decode cX9_moves 78 = .ok (.aload_n 0, 1) := by decide +kernel
theorem dX9_moves_79 : decode cX9_moves 79 = .ok (.getfield 79, 3) := by decide +kernel
theorem dX9_moves_82 : decode cX9_moves 82 = .ok (.iload 4, 2) := by decide +kernel
theorem dX9_moves_84 : decode cX9_moves 84 = .ok (.iaload, 1) := by decide +kernel
theorem dX9_moves_85 : decode cX9_moves 85 = .ok (.iaload, 1) := by decide +kernel
theorem dX9_moves_86 : decode cX9_moves 86 = .ok (.ifCond .ne 17, 3) := by decide +kernel
theorem dX9_moves_89 : decode cX9_moves 89 = .ok (.iload_n 3, 1) := by decide +kernel
theorem dX9_moves_90 : decode cX9_moves 90 = .ok (.aload_n 0, 1) := by decide +kernel
theorem dX9_moves_91 : decode cX9_moves 91 = .ok (.getfield 79, 3) := by decide +kernel
theorem dX9_moves_94 : decode cX9_moves 94 = .ok (.iload 4, 2) := by decide +kernel
theorem dX9_moves_96 : decode cX9_moves 96 = .ok (.iaload, 1) := by decide +kernel
theorem dX9_moves_97 : decode cX9_moves 97 = .ok (.invokestatic 272, 3) := by decide +kernel
theorem dX9_moves_100 : decode cX9_moves 100 = .ok (.goto 4, 3) := by decide +kernel
theorem dX9_moves_103 : decode cX9_moves 103 = .ok (.iload_n 3, 1) := by decide +kernel
theorem dX9_moves_104 : decode cX9_moves 104 = .ok (.istore_n 3, 1) := by decide +kernel
theorem dX9_moves_105 : decode cX9_moves 105 = .ok (.iinc 4 1, 3) := by decide +kernel
theorem dX9_moves_108 : decode cX9_moves 108 = .ok (.goto (-85), 3) := by decide +kernel
theorem dX9_moves_111 : decode cX9_moves 111 = .ok (.aload_n 0, 1) := by decide +kernel
theorem dX9_moves_112 : decode cX9_moves 112 = .ok (.getfield 30, 3) := by decide +kernel
theorem dX9_moves_115 : decode cX9_moves 115 = .ok (.iload_n 2, 1) := by decide +kernel
theorem dX9_moves_116 : decode cX9_moves 116 = .ok (.iconst 1, 1) := by decide +kernel
theorem dX9_moves_117 : decode cX9_moves 117 = .ok (.iastore, 1) := by decide +kernel
theorem dX9_moves_118 : decode cX9_moves 118 = .ok (.aload_n 0, 1) := by decide +kernel
theorem dX9_moves_119 : decode cX9_moves 119 = .ok (.getfield 30, 3) := by decide +kernel
theorem dX9_moves_122 : decode cX9_moves 122 = .ok (.iload_n 3, 1) := by decide +kernel
theorem dX9_moves_123 : decode cX9_moves 123 = .ok (.iconst 0, 1) := by decide +kernel
theorem dX9_moves_124 : decode cX9_moves 124 = .ok (.iastore, 1) := by decide +kernel
theorem dX9_moves_125 : decode cX9_moves 125 = .ok (.aload_n 0, 1) := by decide +kernel
theorem dX9_moves_126 : decode cX9_moves 126 = .ok (.getfield 33, 3) := by decide +kernel
theorem dX9_moves_129 : decode cX9_moves 129 = .ok (.iconst 3, 1) := by decide +kernel
theorem dX9_moves_130 : decode cX9_moves 130 = .ok (.aload_n 0, 1) := by decide +kernel
theorem dX9_moves_131 : decode cX9_moves 131 = .ok (.getfield 144, 3) := by decide +kernel
theorem dX9_moves_134 : decode cX9_moves 134 = .ok (.imul, 1) := by decide +kernel
theorem dX9_moves_135 : decode cX9_moves 135 = .ok (.iload_n 2, 1) := by decide +kernel
theorem dX9_moves_136 : decode cX9_moves 136 = .ok (.invokestatic 318, 3) := by decide +kernel
theorem dX9_moves_139 : decode cX9_moves 139 = .ok (.iastore, 1) := by decide +kernel
theorem dX9_moves_140 : decode cX9_moves 140 = .ok (.aload_n 0, 1) := by decide +kernel
theorem dX9_moves_141 : decode cX9_moves 141 = .ok (.getfield 33, 3) := by decide +kernel
theorem dX9_moves_144 : decode cX9_moves 144 = .ok (.iconst 3, 1) := by decide +kernel
theorem dX9_moves_145 : decode cX9_moves 145 = .ok (.aload_n 0, 1) := by decide +kernel
theorem dX9_moves_146 : decode cX9_moves 146 = .ok (.getfield 144, 3) := by decide +kernel
theorem dX9_moves_149 : decode cX9_moves 149 = .ok (.imul, 1) := by decide +kernel
theorem dX9_moves_150 : decode cX9_moves 150 = .ok (.iconst 1, 1) := by decide +kernel
theorem dX9_moves_151 : decode cX9_moves 151 = .ok (.iadd, 1) := by decide +kernel
theorem dX9_moves_152 : decode cX9_moves 152 = .ok (.iload_n 3, 1) := by decide +kernel
theorem dX9_moves_153 : decode cX9_moves 153 = .ok (.invokestatic 318, 3) := by decide +kernel
theorem dX9_moves_156 : decode cX9_moves 156 = .ok (.iastore, 1) := by decide +kernel
theorem dX9_moves_157 : decode cX9_moves 157 = .ok (.aload_n 0, 1) := by decide +kernel
theorem dX9_moves_158 : decode cX9_moves 158 = .ok (.getfield 33, 3) := by decide +kernel
theorem dX9_moves_161 : decode cX9_moves 161 = .ok (.iconst 3, 1) := by decide +kernel
theorem dX9_moves_162 : decode cX9_moves 162 = .ok (.aload_n 0, 1) := by decide +kernel
theorem dX9_moves_163 : decode cX9_moves 163 = .ok (.getfield 144, 3) := by decide +kernel
theorem dX9_moves_166 : decode cX9_moves 166 = .ok (.imul, 1) := by decide +kernel
theorem dX9_moves_167 : decode cX9_moves 167 = .ok (.iconst 2, 1) := by decide +kernel
theorem dX9_moves_168 : decode cX9_moves 168 = .ok (.iadd, 1) := by decide +kernel
theorem dX9_moves_169 : decode cX9_moves 169 = .ok (.aload_n 0, 1) := by decide +kernel
theorem dX9_moves_170 : decode cX9_moves 170 = .ok (.getfield 306, 3) := by decide +kernel
theorem dX9_moves_173 : decode cX9_moves 173 = .ok (.iastore, 1) := by decide +kernel
theorem dX9_moves_174 : decode cX9_moves 174 = .ok (.aload_n 0, 1) := by decide +kernel
theorem dX9_moves_175 : decode cX9_moves 175 = .ok (.dup, 1) := by decide +kernel
theorem dX9_moves_176 : decode cX9_moves 176 = .ok (.getfield 144, 3) := by decide +kernel
theorem dX9_moves_179 : decode cX9_moves 179 = .ok (.iconst 1, 1) := by decide +kernel
theorem dX9_moves_180 : decode cX9_moves 180 = .ok (.iadd, 1) := by decide +kernel
theorem dX9_moves_181 : decode cX9_moves 181 = .ok (.putfield 144, 3) := by decide +kernel
theorem dX9_moves_184 : decode cX9_moves 184 = .ok (.iconst 1, 1) := by decide +kernel
theorem dX9_moves_185 : decode cX9_moves 185 = .ok (.ireturn, 1) := by decide +kernel
theorem dX9_spelled_0 : decode cX9_spelled 0 = .ok (.bipush 10, 2) := by decide +kernel
theorem dX9_spelled_2 : decode cX9_spelled 2 = .ok (.iload_n 0, 1) := by decide +kernel
theorem dX9_spelled_3 : decode cX9_spelled 3 = .ok (.bipush 6, 2) := by decide +kernel
theorem dX9_spelled_5 : decode cX9_spelled 5 = .ok (.idiv, 1) := by decide +kernel
theorem dX9_spelled_6 : decode cX9_spelled 6 = .ok (.imul, 1) := by decide +kernel
theorem dX9_spelled_7 : decode cX9_spelled 7 = .ok (.iload_n 0, 1) := by decide +kernel
theorem dX9_spelled_8 : decode cX9_spelled 8 = .ok (.bipush 6, 2) := by decide +kernel
theorem dX9_spelled_10 : decode cX9_spelled 10 = .ok (.irem, 1) := by decide +kernel
theorem dX9_spelled_11 : decode cX9_spelled 11 = .ok (.iadd, 1) := by decide +kernel
theorem dX9_spelled_12 : decode cX9_spelled 12 = .ok (.ireturn, 1) := by decide +kernel
theorem dX9_goes_0 : decode cX9_goes 0 = .ok (.iconst 0, 1) := by decide +kernel
theorem dX9_goes_1 : decode cX9_goes 1 = .ok (.istore_n 3, 1) := by decide +kernel
theorem dX9_goes_2 : decode cX9_goes 2 = .ok (.iload_n 3, 1) := by decide +kernel
theorem dX9_goes_3 : decode cX9_goes 3 = .ok (.iload_n 2, 1) := by decide +kernel
theorem dX9_goes_4 : decode cX9_goes 4 = .ok (.if_icmp .ge 26, 3) := by decide +kernel
theorem dX9_goes_7 : decode cX9_goes 7 = .ok (.aload_n 0, 1) := by decide +kernel
theorem dX9_goes_8 : decode cX9_goes 8 = .ok (.getfield 144, 3) := by decide +kernel
theorem dX9_goes_11 : decode cX9_goes 11 = .ok (.bipush 100, 2) := by decide +kernel
theorem dX9_goes_13 : decode cX9_goes 13 = .ok (.if_icmp .ge 17, 3) := by decide +kernel
theorem dX9_goes_16 : decode cX9_goes 16 = .ok (.aload_n 0, 1) := by decide +kernel
theorem dX9_goes_17 : decode cX9_goes 17 = .ok (.iload_n 1, 1) := by decide +kernel
theorem dX9_goes_18 : decode cX9_goes 18 = .ok (.invokevirtual 321, 3) := by decide +kernel
theorem dX9_goes_21 : decode cX9_goes 21 = .ok (.ifCond .eq 9, 3) := by decide +kernel
theorem dX9_goes_24 : decode cX9_goes 24 = .ok (.iinc 3 1, 3) := by decide +kernel
theorem dX9_goes_27 : decode cX9_goes 27 = .ok (.goto (-25), 3) := by decide +kernel
theorem dX9_goes_30 : decode cX9_goes 30 = .ok (.iload_n 3, 1) := by decide +kernel
theorem dX9_goes_31 : decode cX9_goes 31 = .ok (.ireturn, 1) := by decide +kernel
theorem dX9_step_0 : decode cX9_step 0 = .ok (.iload_n 1, 1) := by decide +kernel
theorem dX9_step_1 : decode cX9_step 1 = .ok (.i2l, 1) := by decide +kernel
theorem dX9_step_2 : decode cX9_step 2 = .ok (.lconst 0, 1) := by decide +kernel
theorem dX9_step_3 : decode cX9_step 3 = .ok (.ldc2_w 196, 3) := by decide +kernel
theorem dX9_step_6 : decode cX9_step 6 = .ok (.invokestatic 116, 3) := by decide +kernel
theorem dX9_step_9 : decode cX9_step 9 = .ok (.ifCond .eq 15, 3) := by decide +kernel
theorem dX9_step_12 : decode cX9_step 12 = .ok (.iload_n 2, 1) := by decide +kernel
theorem dX9_step_13 : decode cX9_step 13 = .ok (.i2l, 1) := by decide +kernel
theorem dX9_step_14 : decode cX9_step 14 = .ok (.lconst 0, 1) := by decide +kernel
theorem dX9_step_15 : decode cX9_step 15 = .ok (.ldc2_w 324, 3) := by decide +kernel
theorem dX9_step_18 : decode cX9_step 18 = .ok (.invokestatic 116, 3) := by decide +kernel
theorem dX9_step_21 : decode cX9_step 21 = .ok (.ifCond .ne 6, 3) := by decide +kernel
theorem dX9_step_24 : decode cX9_step 24 = .ok (.bipush (-2), 2) := by decide +kernel
theorem dX9_step_26 : decode cX9_step 26 = .ok (.ireturn, 1) := by decide +kernel
theorem dX9_step_27 : decode cX9_step 27 = .ok (.aload_n 0, 1) := by decide +kernel
theorem dX9_step_28 : decode cX9_step 28 = .ok (.getfield 141, 3) := by decide +kernel
theorem dX9_step_31 : decode cX9_step 31 = .ok (.ifCond .ne 8, 3) := by decide +kernel
theorem dX9_step_34 : decode cX9_step 34 = .ok (.bipush (-3), 2) := by decide +kernel
theorem dX9_step_36 : decode cX9_step 36 = .ok (.goto 9, 3) := by decide +kernel
theorem dX9_step_39 : decode cX9_step 39 = .ok (.aload_n 0, 1) := by decide +kernel
theorem dX9_step_40 : decode cX9_step 40 = .ok (.iload_n 1, 1) := by decide +kernel
theorem dX9_step_41 : decode cX9_step 41 = .ok (.iload_n 2, 1) := by decide +kernel
theorem dX9_step_42 : decode cX9_step 42 = .ok (.invokevirtual 326, 3) := by decide +kernel
theorem dX9_step_45 : decode cX9_step 45 = .ok (.ireturn, 1) := by decide +kernel
theorem dX9_load_0 : decode cX9_load 0 = .ok (.aload_n 0, 1) := by decide +kernel
theorem dX9_load_1 : decode cX9_load 1 = .ok (.getfield 141, 3) := by decide +kernel
theorem dX9_load_4 : decode cX9_load 4 = .ok (.ifCond .ne 6, 3) := by decide +kernel
theorem dX9_load_7 : decode cX9_load 7 = .ok (.bipush (-3), 2) := by decide +kernel
theorem dX9_load_9 : decode cX9_load 9 = .ok (.ireturn, 1) := by decide +kernel
theorem dX9_load_10 : decode cX9_load 10 = .ok (.aload_n 0, 1) := by decide +kernel
theorem dX9_load_11 : decode cX9_load 11 = .ok (.iload_n 1, 1) := by decide +kernel
theorem dX9_load_12 : decode cX9_load 12 = .ok (.iload_n 2, 1) := by decide +kernel
theorem dX9_load_13 : decode cX9_load 13 = .ok (.invokevirtual 329, 3) := by decide +kernel
theorem dX9_load_16 : decode cX9_load 16 = .ok (.ifCond .eq 17, 3) := by decide +kernel
theorem dX9_load_19 : decode cX9_load 19 = .ok (.aload_n 0, 1) := by decide +kernel
theorem dX9_load_20 : decode cX9_load 20 = .ok (.getfield 27, 3) := by decide +kernel
theorem dX9_load_23 : decode cX9_load 23 = .ok (.bipush 6, 2) := by decide +kernel
theorem dX9_load_25 : decode cX9_load 25 = .ok (.iload_n 1, 1) := by decide +kernel
theorem dX9_load_26 : decode cX9_load 26 = .ok (.imul, 1) := by decide +kernel
theorem dX9_load_27 : decode cX9_load 27 = .ok (.iload_n 2, 1) := by decide +kernel
theorem dX9_load_28 : decode cX9_load 28 = .ok (.iadd, 1) := by decide +kernel
theorem dX9_load_29 : decode cX9_load 29 = .ok (.iaload, 1) := by decide +kernel
theorem dX9_load_30 : decode cX9_load 30 = .ok (.goto 4, 3) := by decide +kernel
theorem dX9_load_33 : decode cX9_load 33 = .ok (.iconst (-1), 1) := by decide +kernel
theorem dX9_load_34 : decode cX9_load 34 = .ok (.ireturn, 1) := by decide +kernel
theorem dX9_basic_0 : decode cX9_basic 0 = .ok (.aload_n 0, 1) := by decide +kernel
theorem dX9_basic_1 : decode cX9_basic 1 = .ok (.getfield 141, 3) := by decide +kernel
theorem dX9_basic_4 : decode cX9_basic 4 = .ok (.ifCond .ne 6, 3) := by decide +kernel
theorem dX9_basic_7 : decode cX9_basic 7 = .ok (.bipush (-3), 2) := by decide +kernel
theorem dX9_basic_9 : decode cX9_basic 9 = .ok (.ireturn, 1) := by decide +kernel
theorem dX9_basic_10 : decode cX9_basic 10 = .ok (.aload_n 0, 1) := by decide +kernel
theorem dX9_basic_11 : decode cX9_basic 11 = .ok (.iload_n 1, 1) := by decide +kernel
theorem dX9_basic_12 : decode cX9_basic 12 = .ok (.iload_n 2, 1) := by decide +kernel
theorem dX9_basic_13 : decode cX9_basic 13 = .ok (.invokevirtual 329, 3) := by decide +kernel
theorem dX9_basic_16 : decode cX9_basic 16 = .ok (.ifCond .eq 17, 3) := by decide +kernel
theorem dX9_basic_19 : decode cX9_basic 19 = .ok (.aload_n 0, 1) := by decide +kernel
theorem dX9_basic_20 : decode cX9_basic 20 = .ok (.getfield 30, 3) := by decide +kernel
theorem dX9_basic_23 : decode cX9_basic 23 = .ok (.bipush 6, 2) := by decide +kernel
theorem dX9_basic_25 : decode cX9_basic 25 = .ok (.iload_n 1, 1) := by decide +kernel
theorem dX9_basic_26 : decode cX9_basic 26 = .ok (.imul, 1) := by decide +kernel
theorem dX9_basic_27 : decode cX9_basic 27 = .ok (.iload_n 2, 1) := by decide +kernel
theorem dX9_basic_28 : decode cX9_basic 28 = .ok (.iadd, 1) := by decide +kernel
theorem dX9_basic_29 : decode cX9_basic 29 = .ok (.iaload, 1) := by decide +kernel
theorem dX9_basic_30 : decode cX9_basic 30 = .ok (.goto 4, 3) := by decide +kernel
theorem dX9_basic_33 : decode cX9_basic 33 = .ok (.iconst (-1), 1) := by decide +kernel
theorem dX9_basic_34 : decode cX9_basic 34 = .ok (.ireturn, 1) := by decide +kernel
theorem dX9_worth_0 : decode cX9_worth 0 = .ok (.aload_n 0, 1) := by decide +kernel
theorem dX9_worth_1 : decode cX9_worth 1 = .ok (.getfield 141, 3) := by decide +kernel
theorem dX9_worth_4 : decode cX9_worth 4 = .ok (.ifCond .eq 40, 3) := by decide +kernel
theorem dX9_worth_7 : decode cX9_worth 7 = .ok (.iload_n 1, 1) := by decide +kernel
theorem dX9_worth_8 : decode cX9_worth 8 = .ok (.i2l, 1) := by decide +kernel
theorem dX9_worth_9 : decode cX9_worth 9 = .ok (.lconst 0, 1) := by decide +kernel
theorem dX9_worth_10 : decode cX9_worth 10 = .ok (.lconst 1, 1) := by decide +kernel
theorem dX9_worth_11 : decode cX9_worth 11 = .ok (.invokestatic 116, 3) := by decide +kernel
theorem dX9_worth_14 : decode cX9_worth 14 = .ok (.ifCond .eq 30, 3) := by decide +kernel
theorem dX9_worth_17 : decode cX9_worth 17 = .ok (.iload_n 2, 1) := by decide +kernel
theorem dX9_worth_18 : decode cX9_worth 18 = .ok (.i2l, 1) := by decide +kernel
theorem dX9_worth_19 : decode cX9_worth 19 = .ok (.lconst 0, 1) := by decide +kernel
theorem dX9_worth_20 : decode cX9_worth 20 = .ok (.iload_n 1, 1) := by decide +kernel
theorem dX9_worth_21 : decode cX9_worth 21 = .ok (.ifCond .ne 10, 3) := by decide +kernel
theorem dX9_worth_24 : decode cX9_worth 24 = .ok (.aload_n 0, 1) := by decide +kernel
theorem dX9_worth_25 : decode cX9_worth 25 = .ok (.getfield 124, 3) := by decide +kernel
theorem dX9_worth_28 : decode cX9_worth 28 = .ok (.goto 7, 3) := by decide +kernel
theorem dX9_worth_31 : decode cX9_worth 31 = .ok (.aload_n 0, 1) := by decide +kernel
theorem dX9_worth_32 : decode cX9_worth 32 = .ok (.getfield 127, 3) := by decide +kernel
theorem dX9_worth_35 : decode cX9_worth 35 = .ok (.iconst 1, 1) := by decide +kernel
theorem dX9_worth_36 : decode cX9_worth 36 = .ok (.isub, 1) := by decide +kernel
theorem dX9_worth_37 : decode cX9_worth 37 = .ok (.i2l, 1) := by decide +kernel
theorem dX9_worth_38 : decode cX9_worth 38 = .ok (.invokestatic 116, 3) := by decide +kernel
theorem dX9_worth_41 : decode cX9_worth 41 = .ok (.ifCond .ne 7, 3) := by decide +kernel
theorem dX9_worth_44 : decode cX9_worth 44 = .ok (.ldc2_w 332, 3) := by decide +kernel
theorem dX9_worth_47 : decode cX9_worth 47 = .ok (.lreturn, 1) := by decide +kernel
theorem dX9_worth_48 : decode cX9_worth 48 = .ok (.aload_n 0, 1) := by decide +kernel
theorem dX9_worth_49 : decode cX9_worth 49 = .ok (.invokevirtual 284, 3) := by decide +kernel
theorem dX9_worth_52 : decode cX9_worth 52 = .ok (.aload_n 0, 1) := by decide +kernel
theorem dX9_worth_53 : decode cX9_worth 53 = .ok (.getfield 70, 3) := by decide +kernel
theorem dX9_worth_56 : decode cX9_worth 56 = .ok (.bipush 6, 2) := by decide +kernel
theorem dX9_worth_58 : decode cX9_worth 58 = .ok (.iload_n 1, 1) := by decide +kernel
theorem dX9_worth_59 : decode cX9_worth 59 = .ok (.imul, 1) := by decide +kernel
theorem dX9_worth_60 : decode cX9_worth 60 = .ok (.iload_n 2, 1) := by decide +kernel
theorem dX9_worth_61 : decode cX9_worth 61 = .ok (.iadd, 1) := by decide +kernel
theorem dX9_worth_62 : decode cX9_worth 62 = .ok (.iaload, 1) := by decide +kernel
theorem dX9_worth_63 : decode cX9_worth 63 = .ok (.i2l, 1) := by decide +kernel
theorem dX9_worth_64 : decode cX9_worth 64 = .ok (.lreturn, 1) := by decide +kernel
theorem dX9_surplus_0 : decode cX9_surplus 0 = .ok (.aload_n 0, 1) := by decide +kernel
theorem dX9_surplus_1 : decode cX9_surplus 1 = .ok (.getfield 141, 3) := by decide +kernel
theorem dX9_surplus_4 : decode cX9_surplus 4 = .ok (.ifCond .eq 12, 3) := by decide +kernel
theorem dX9_surplus_7 : decode cX9_surplus 7 = .ok (.aload_n 0, 1) := by decide +kernel
theorem dX9_surplus_8 : decode cX9_surplus 8 = .ok (.iload_n 1, 1) := by decide +kernel
theorem dX9_surplus_9 : decode cX9_surplus 9 = .ok (.iload_n 2, 1) := by decide +kernel
theorem dX9_surplus_10 : decode cX9_surplus 10 = .ok (.invokevirtual 329, 3) := by decide +kernel
theorem dX9_surplus_13 : decode cX9_surplus 13 = .ok (.ifCond .ne 7, 3) := by decide +kernel
theorem dX9_surplus_16 : decode cX9_surplus 16 = .ok (.ldc2_w 332, 3) := by decide +kernel
theorem dX9_surplus_19 : decode cX9_surplus 19 = .ok (.lreturn, 1) := by decide +kernel
theorem dX9_surplus_20 : decode cX9_surplus 20 = .ok (.aload_n 0, 1) := by decide +kernel
theorem dX9_surplus_21 : decode cX9_surplus 21 = .ok (.invokevirtual 284, 3) := by decide +kernel
theorem dX9_surplus_24 : decode cX9_surplus 24 = .ok (.aload_n 0, 1) := by decide +kernel
theorem dX9_surplus_25 : decode cX9_surplus 25 = .ok (.bipush 6, 2) := by decide +kernel
theorem dX9_surplus_27 : decode cX9_surplus 27 = .ok (.iload_n 1, 1) := by decide +kernel
theorem dX9_surplus_28 : decode cX9_surplus 28 = .ok (.imul, 1) := by decide +kernel
theorem dX9_surplus_29 : decode cX9_surplus 29 = .ok (.iload_n 2, 1) := by decide +kernel
theorem dX9_surplus_30 : decode cX9_surplus 30 = .ok (.iadd, 1) := by decide +kernel
theorem dX9_surplus_31 : decode cX9_surplus 31 = .ok (.invokevirtual 287, 3) := by decide +kernel
theorem dX9_surplus_34 : decode cX9_surplus 34 = .ok (.i2l, 1) := by decide +kernel
theorem dX9_surplus_35 : decode cX9_surplus 35 = .ok (.lreturn, 1) := by decide +kernel
theorem dX9_loop_0 : decode cX9_loop 0 = .ok (.aload_n 0, 1) := by decide +kernel
theorem dX9_loop_1 : decode cX9_loop 1 = .ok (.getfield 141, 3) := by decide +kernel
theorem dX9_loop_4 : decode cX9_loop 4 = .ok (.ifCond .ne 6, 3) := by decide +kernel
theorem dX9_loop_7 : decode cX9_loop 7 = .ok (.bipush (-3), 2) := by decide +kernel
theorem dX9_loop_9 : decode cX9_loop 9 = .ok (.ireturn, 1) := by decide +kernel
theorem dX9_loop_10 : decode cX9_loop 10 = .ok (.aload_n 0, 1) := by decide +kernel
theorem dX9_loop_11 : decode cX9_loop 11 = .ok (.iload_n 1, 1) := by decide +kernel
theorem dX9_loop_12 : decode cX9_loop 12 = .ok (.iload_n 2, 1) := by decide +kernel
theorem dX9_loop_13 : decode cX9_loop 13 = .ok (.invokevirtual 329, 3) := by decide +kernel
theorem dX9_loop_16 : decode cX9_loop 16 = .ok (.ifCond .ne 5, 3) := by decide +kernel
theorem dX9_loop_19 : decode cX9_loop 19 = .ok (.iconst (-1), 1) := by decide +kernel
theorem dX9_loop_20 : decode cX9_loop 20 = .ok (.ireturn, 1) := by decide +kernel
theorem dX9_loop_21 : decode cX9_loop 21 = .ok (.aload_n 0, 1) := by decide +kernel
theorem dX9_loop_22 : decode cX9_loop 22 = .ok (.getfield 30, 3) := by decide +kernel
theorem dX9_loop_25 : decode cX9_loop 25 = .ok (.bipush 6, 2) := by decide +kernel
theorem dX9_loop_27 : decode cX9_loop 27 = .ok (.iload_n 1, 1) := by decide +kernel
theorem dX9_loop_28 : decode cX9_loop 28 = .ok (.imul, 1) := by decide +kernel
theorem dX9_loop_29 : decode cX9_loop 29 = .ok (.iload_n 2, 1) := by decide +kernel
theorem dX9_loop_30 : decode cX9_loop 30 = .ok (.iadd, 1) := by decide +kernel
theorem dX9_loop_31 : decode cX9_loop 31 = .ok (.iaload, 1) := by decide +kernel
theorem dX9_loop_32 : decode cX9_loop 32 = .ok (.iconst 1, 1) := by decide +kernel
theorem dX9_loop_33 : decode cX9_loop 33 = .ok (.if_icmp .ne 6, 3) := by decide +kernel
theorem dX9_loop_36 : decode cX9_loop 36 = .ok (.bipush (-2), 2) := by decide +kernel
theorem dX9_loop_38 : decode cX9_loop 38 = .ok (.ireturn, 1) := by decide +kernel
theorem dX9_loop_39 : decode cX9_loop 39 = .ok (.aload_n 0, 1) := by decide +kernel
theorem dX9_loop_40 : decode cX9_loop 40 = .ok (.bipush 6, 2) := by decide +kernel
theorem dX9_loop_42 : decode cX9_loop 42 = .ok (.iload_n 1, 1) := by decide +kernel
theorem dX9_loop_43 : decode cX9_loop 43 = .ok (.imul, 1) := by decide +kernel
theorem dX9_loop_44 : decode cX9_loop 44 = .ok (.iload_n 2, 1) := by decide +kernel
theorem dX9_loop_45 : decode cX9_loop 45 = .ok (.iadd, 1) := by decide +kernel
theorem dX9_loop_46 : decode cX9_loop 46 = .ok (.invokevirtual 312, 3) := by decide +kernel
theorem dX9_loop_49 : decode cX9_loop 49 = .ok (.iload_n 3, 1) := by decide +kernel
theorem dX9_loop_50 : decode cX9_loop 50 = .ok (.bipush (-2), 2) := by decide +kernel
theorem dX9_loop_52 : decode cX9_loop 52 = .ok (.if_icmp .ne 10, 3) := by decide +kernel
theorem dX9_loop_55 : decode cX9_loop 55 = .ok (.aload_n 0, 1) := by decide +kernel
theorem dX9_loop_56 : decode cX9_loop 56 = .ok (.getfield 306, 3) := by decide +kernel
theorem dX9_loop_59 : decode cX9_loop 59 = .ok (.goto 44, 3) := by decide +kernel
theorem dX9_loop_62 : decode cX9_loop 62 = .ok (.iload_n 3, 1) := by decide +kernel
theorem dX9_loop_63 : decode cX9_loop 63 = .ok (.iconst (-1), 1) := by decide +kernel
theorem dX9_loop_64 : decode cX9_loop 64 = .ok (.if_icmp .ne 10, 3) := by decide +kernel
theorem dX9_loop_67 : decode cX9_loop 67 = .ok (.aload_n 0, 1) := by decide +kernel
theorem dX9_loop_68 : decode cX9_loop 68 = .ok (.getfield 300, 3) := by decide +kernel
theorem dX9_loop_71 : decode cX9_loop 71 = .ok (.goto 32, 3) := by decide +kernel
theorem dX9_loop_74 : decode cX9_loop 74 = .ok (.iload_n 3, 1) := by decide +kernel
theorem dX9_loop_75 : decode cX9_loop 75 = .ok (.i2l, 1) := by decide +kernel
theorem dX9_loop_76 : decode cX9_loop 76 = .ok (.lconst 0, 1) := by decide +kernel
theorem dX9_loop_77 : decode cX9_loop 77 = .ok (.aload_n 0, 1) := by decide +kernel
theorem dX9_loop_78 : decode cX9_loop 78 = .ok (.getfield 300, 3) := by decide +kernel
theorem dX9_loop_81 : decode cX9_loop 81 = .ok (.iconst 1, 1) := by decide +kernel
theorem dX9_loop_82 : decode cX9_loop 82 = .ok (.isub, 1) := by decide +kernel
theorem dX9_loop_83 : decode cX9_loop 83 = .ok (.i2l, 1) := by decide +kernel
theorem dX9_loop_84 : decode cX9_loop 84 = .ok (.invokestatic 116, 3) := by decide +kernel
theorem dX9_loop_87 : decode cX9_loop 87 = .ok (.ifCond .eq 15, 3) := by decide +kernel
theorem dX9_loop_90 : decode cX9_loop 90 = .ok (.aload_n 0, 1) := by decide +kernel
theorem dX9_loop_91 : decode cX9_loop 91 = .ok (.getfield 79, 3) := by decide +kernel
theorem dX9_loop_94 : decode cX9_loop 94 = .ok (.iload_n 3, 1) := by decide +kernel
theorem dX9_loop_95 : decode cX9_loop 95 = .ok (.iaload, 1) := by decide +kernel
theorem dX9_loop_96 : decode cX9_loop 96 = .ok (.invokestatic 318, 3) := by decide +kernel
theorem dX9_loop_99 : decode cX9_loop 99 = .ok (.goto 4, 3) := by decide +kernel
theorem dX9_loop_102 : decode cX9_loop 102 = .ok (.iconst (-1), 1) := by decide +kernel
theorem dX9_loop_103 : decode cX9_loop 103 = .ok (.ireturn, 1) := by decide +kernel
theorem dX9_enters_0 : decode cX9_enters 0 = .ok (.iload_n 1, 1) := by decide +kernel
theorem dX9_enters_1 : decode cX9_enters 1 = .ok (.i2l, 1) := by decide +kernel
theorem dX9_enters_2 : decode cX9_enters 2 = .ok (.lconst 0, 1) := by decide +kernel
theorem dX9_enters_3 : decode cX9_enters 3 = .ok (.ldc2_w 196, 3) := by decide +kernel
theorem dX9_enters_6 : decode cX9_enters 6 = .ok (.invokestatic 116, 3) := by decide +kernel
theorem dX9_enters_9 : decode cX9_enters 9 = .ok (.ifCond .ne 6, 3) := by decide +kernel
theorem dX9_enters_12 : decode cX9_enters 12 = .ok (.bipush (-2), 2) := by decide +kernel
theorem dX9_enters_14 : decode cX9_enters 14 = .ok (.ireturn, 1) := by decide +kernel
theorem dX9_enters_15 : decode cX9_enters 15 = .ok (.aload_n 0, 1) := by decide +kernel
theorem dX9_enters_16 : decode cX9_enters 16 = .ok (.getfield 141, 3) := by decide +kernel
theorem dX9_enters_19 : decode cX9_enters 19 = .ok (.ifCond .ne 6, 3) := by decide +kernel
theorem dX9_enters_22 : decode cX9_enters 22 = .ok (.bipush (-3), 2) := by decide +kernel
theorem dX9_enters_24 : decode cX9_enters 24 = .ok (.ireturn, 1) := by decide +kernel
theorem dX9_enters_25 : decode cX9_enters 25 = .ok (.aload_n 0, 1) := by decide +kernel
theorem dX9_enters_26 : decode cX9_enters 26 = .ok (.iload_n 1, 1) := by decide +kernel
theorem dX9_enters_27 : decode cX9_enters 27 = .ok (.invokevirtual 315, 3) := by decide +kernel
theorem dX9_enters_30 : decode cX9_enters 30 = .ok (.istore_n 2, 1) := by decide +kernel
theorem dX9_enters_31 : decode cX9_enters 31 = .ok (.iload_n 2, 1) := by decide +kernel
theorem dX9_enters_32 : decode cX9_enters 32 = .ok (.ifCond .ge 8, 3) := by decide +kernel
theorem dX9_enters_35 : decode cX9_enters 35 = .ok (.bipush (-5), 2) := by decide +kernel
theorem dX9_enters_37 : decode cX9_enters 37 = .ok (.goto 7, 3) := by decide +kernel
theorem dX9_enters_40 : decode cX9_enters 40 = .ok (.iload_n 2, 1) := by decide +kernel
theorem dX9_enters_41 : decode cX9_enters 41 = .ok (.invokestatic 318, 3) := by decide +kernel
theorem dX9_enters_44 : decode cX9_enters 44 = .ok (.ireturn, 1) := by decide +kernel
theorem dX9_told_0 : decode cX9_told 0 = .ok (.aload_n 0, 1) := by decide +kernel
theorem dX9_told_1 : decode cX9_told 1 = .ok (.getfield 141, 3) := by decide +kernel
theorem dX9_told_4 : decode cX9_told 4 = .ok (.ifCond .ne 6, 3) := by decide +kernel
theorem dX9_told_7 : decode cX9_told 7 = .ok (.bipush (-3), 2) := by decide +kernel
theorem dX9_told_9 : decode cX9_told 9 = .ok (.ireturn, 1) := by decide +kernel
theorem dX9_told_10 : decode cX9_told 10 = .ok (.iload_n 1, 1) := by decide +kernel
theorem dX9_told_11 : decode cX9_told 11 = .ok (.tableswitch 84 0 7 #[45, 50, 55, 68, 68, 68, 74, 79], 45) := by decide +kernel
theorem dX9_told_56 : decode cX9_told 56 = .ok (.aload_n 0, 1) := by decide +kernel
theorem dX9_told_57 : decode cX9_told 57 = .ok (.invokevirtual 281, 3) := by decide +kernel
theorem dX9_told_60 : decode cX9_told 60 = .ok (.ireturn, 1) := by decide +kernel
theorem dX9_told_61 : decode cX9_told 61 = .ok (.aload_n 0, 1) := by decide +kernel
theorem dX9_told_62 : decode cX9_told 62 = .ok (.getfield 144, 3) := by decide +kernel
theorem dX9_told_65 : decode cX9_told 65 = .ok (.ireturn, 1) := by decide +kernel
theorem dX9_told_66 : decode cX9_told 66 = .ok (.aload_n 0, 1) := by decide +kernel
theorem dX9_told_67 : decode cX9_told 67 = .ok (.invokevirtual 334, 3) := by decide +kernel
theorem dX9_told_70 : decode cX9_told 70 = .ok (.ifCond .eq 7, 3) := by decide +kernel
theorem dX9_told_73 : decode cX9_told 73 = .ok (.iconst 1, 1) := by decide +kernel
theorem dX9_told_74 : decode cX9_told 74 = .ok (.goto 4, 3) := by decide +kernel
theorem dX9_told_77 : decode cX9_told 77 = .ok (.iconst 0, 1) := by decide +kernel
theorem dX9_told_78 : decode cX9_told 78 = .ok (.ireturn, 1) := by decide +kernel
theorem dX9_told_79 : decode cX9_told 79 = .ok (.aload_n 0, 1) := by decide +kernel
theorem dX9_told_80 : decode cX9_told 80 = .ok (.iload_n 1, 1) := by decide +kernel
theorem dX9_told_81 : decode cX9_told 81 = .ok (.invokevirtual 293, 3) := by decide +kernel
theorem dX9_told_84 : decode cX9_told 84 = .ok (.ireturn, 1) := by decide +kernel
theorem dX9_told_85 : decode cX9_told 85 = .ok (.aload_n 0, 1) := by decide +kernel
theorem dX9_told_86 : decode cX9_told 86 = .ok (.getfield 124, 3) := by decide +kernel
theorem dX9_told_89 : decode cX9_told 89 = .ok (.ireturn, 1) := by decide +kernel
theorem dX9_told_90 : decode cX9_told 90 = .ok (.aload_n 0, 1) := by decide +kernel
theorem dX9_told_91 : decode cX9_told 91 = .ok (.getfield 127, 3) := by decide +kernel
theorem dX9_told_94 : decode cX9_told 94 = .ok (.ireturn, 1) := by decide +kernel
theorem dX9_told_95 : decode cX9_told 95 = .ok (.iconst (-1), 1) := by decide +kernel
theorem dX9_told_96 : decode cX9_told 96 = .ok (.ireturn, 1) := by decide +kernel
theorem dX9_trace_0 : decode cX9_trace 0 = .ok (.aload_n 0, 1) := by decide +kernel
theorem dX9_trace_1 : decode cX9_trace 1 = .ok (.getfield 141, 3) := by decide +kernel
theorem dX9_trace_4 : decode cX9_trace 4 = .ok (.ifCond .ne 6, 3) := by decide +kernel
theorem dX9_trace_7 : decode cX9_trace 7 = .ok (.bipush (-3), 2) := by decide +kernel
theorem dX9_trace_9 : decode cX9_trace 9 = .ok (.ireturn, 1) := by decide +kernel
theorem dX9_trace_10 : decode cX9_trace 10 = .ok (.iload_n 1, 1) := by decide +kernel
theorem dX9_trace_11 : decode cX9_trace 11 = .ok (.i2l, 1) := by decide +kernel
theorem dX9_trace_12 : decode cX9_trace 12 = .ok (.lconst 0, 1) := by decide +kernel
theorem dX9_trace_13 : decode cX9_trace 13 = .ok (.aload_n 0, 1) := by decide +kernel
theorem dX9_trace_14 : decode cX9_trace 14 = .ok (.getfield 144, 3) := by decide +kernel
theorem dX9_trace_17 : decode cX9_trace 17 = .ok (.iconst 1, 1) := by decide +kernel
theorem dX9_trace_18 : decode cX9_trace 18 = .ok (.isub, 1) := by decide +kernel
theorem dX9_trace_19 : decode cX9_trace 19 = .ok (.i2l, 1) := by decide +kernel
theorem dX9_trace_20 : decode cX9_trace 20 = .ok (.invokestatic 116, 3) := by decide +kernel
theorem dX9_trace_23 : decode cX9_trace 23 = .ok (.ifCond .eq 28, 3) := by decide +kernel
theorem dX9_trace_26 : decode cX9_trace 26 = .ok (.iload_n 2, 1) := by decide +kernel
theorem dX9_trace_27 : decode cX9_trace 27 = .ok (.i2l, 1) := by decide +kernel
theorem dX9_trace_28 : decode cX9_trace 28 = .ok (.lconst 0, 1) := by decide +kernel
theorem dX9_trace_29 : decode cX9_trace 29 = .ok (.ldc2_w 196, 3) := by decide +kernel
theorem dX9_trace_32 : decode cX9_trace 32 = .ok (.invokestatic 116, 3) := by decide +kernel
theorem dX9_trace_35 : decode cX9_trace 35 = .ok (.ifCond .eq 16, 3) := by decide +kernel
theorem dX9_trace_38 : decode cX9_trace 38 = .ok (.aload_n 0, 1) := by decide +kernel
theorem dX9_trace_39 : decode cX9_trace 39 = .ok (.getfield 33, 3) := by decide +kernel
theorem dX9_trace_42 : decode cX9_trace 42 = .ok (.iconst 3, 1) := by decide +kernel
theorem dX9_trace_43 : decode cX9_trace 43 = .ok (.iload_n 1, 1) := by decide +kernel
theorem dX9_trace_44 : decode cX9_trace 44 = .ok (.imul, 1) := by decide +kernel
theorem dX9_trace_45 : decode cX9_trace 45 = .ok (.iload_n 2, 1) := by decide +kernel
theorem dX9_trace_46 : decode cX9_trace 46 = .ok (.iadd, 1) := by decide +kernel
theorem dX9_trace_47 : decode cX9_trace 47 = .ok (.iaload, 1) := by decide +kernel
theorem dX9_trace_48 : decode cX9_trace 48 = .ok (.goto 4, 3) := by decide +kernel
theorem dX9_trace_51 : decode cX9_trace 51 = .ok (.iconst (-1), 1) := by decide +kernel
theorem dX9_trace_52 : decode cX9_trace 52 = .ok (.ireturn, 1) := by decide +kernel
theorem dX9_thinks_0 : decode cX9_thinks 0 = .ok (.aload_n 0, 1) := by decide +kernel
theorem dX9_thinks_1 : decode cX9_thinks 1 = .ok (.getfield 109, 3) := by decide +kernel
theorem dX9_thinks_4 : decode cX9_thinks 4 = .ok (.ifCond .eq 10, 3) := by decide +kernel
theorem dX9_thinks_7 : decode cX9_thinks 7 = .ok (.aload_n 0, 1) := by decide +kernel
theorem dX9_thinks_8 : decode cX9_thinks 8 = .ok (.getfield 113, 3) := by decide +kernel
theorem dX9_thinks_11 : decode cX9_thinks 11 = .ok (.ifCond .ne 6, 3) := by decide +kernel
theorem dX9_thinks_14 : decode cX9_thinks 14 = .ok (.bipush (-5), 2) := by decide +kernel
theorem dX9_thinks_16 : decode cX9_thinks 16 = .ok (.ireturn, 1) := by decide +kernel
theorem dX9_thinks_17 : decode cX9_thinks 17 = .ok (.aload_n 0, 1) := by decide +kernel
theorem dX9_thinks_18 : decode cX9_thinks 18 = .ok (.iload_n 1, 1) := by decide +kernel
theorem dX9_thinks_19 : decode cX9_thinks 19 = .ok (.invokevirtual 277, 3) := by decide +kernel
theorem dX9_thinks_22 : decode cX9_thinks 22 = .ok (.aload_n 0, 1) := by decide +kernel
theorem dX9_thinks_23 : decode cX9_thinks 23 = .ok (.iload_n 2, 1) := by decide +kernel
theorem dX9_thinks_24 : decode cX9_thinks 24 = .ok (.bipush 100, 2) := by decide +kernel
theorem dX9_thinks_26 : decode cX9_thinks 26 = .ok (.invokevirtual 326, 3) := by decide +kernel
theorem dX9_thinks_29 : decode cX9_thinks 29 = .ok (.pop, 1) := by decide +kernel
theorem dX9_thinks_30 : decode cX9_thinks 30 = .ok (.aload_n 0, 1) := by decide +kernel
theorem dX9_thinks_31 : decode cX9_thinks 31 = .ok (.invokevirtual 334, 3) := by decide +kernel
theorem dX9_thinks_34 : decode cX9_thinks 34 = .ok (.ifCond .eq 10, 3) := by decide +kernel
theorem dX9_thinks_37 : decode cX9_thinks 37 = .ok (.aload_n 0, 1) := by decide +kernel
theorem dX9_thinks_38 : decode cX9_thinks 38 = .ok (.invokevirtual 281, 3) := by decide +kernel
theorem dX9_thinks_41 : decode cX9_thinks 41 = .ok (.goto 5, 3) := by decide +kernel
theorem dX9_thinks_44 : decode cX9_thinks 44 = .ok (.bipush (-5), 2) := by decide +kernel
theorem dX9_thinks_46 : decode cX9_thinks 46 = .ok (.ireturn, 1) := by decide +kernel
theorem dX9_theBest_0 : decode cX9_theBest 0 = .ok (.aload_n 0, 1) := by decide +kernel
theorem dX9_theBest_1 : decode cX9_theBest 1 = .ok (.invokevirtual 338, 3) := by decide +kernel
theorem dX9_theBest_4 : decode cX9_theBest 4 = .ok (.aload_n 0, 1) := by decide +kernel
theorem dX9_theBest_5 : decode cX9_theBest 5 = .ok (.iconst 1, 1) := by decide +kernel
theorem dX9_theBest_6 : decode cX9_theBest 6 = .ok (.iconst 1, 1) := by decide +kernel
theorem dX9_theBest_7 : decode cX9_theBest 7 = .ok (.invokevirtual 341, 3) := by decide +kernel
theorem dX9_theBest_10 : decode cX9_theBest 10 = .ok (.istore_n 1, 1) := by decide +kernel
theorem dX9_theBest_11 : decode cX9_theBest 11 = .ok (.aload_n 0, 1) := by decide +kernel
theorem dX9_theBest_12 : decode cX9_theBest 12 = .ok (.invokevirtual 344, 3) := by decide +kernel
theorem dX9_theBest_15 : decode cX9_theBest 15 = .ok (.iload_n 1, 1) := by decide +kernel
theorem dX9_theBest_16 : decode cX9_theBest 16 = .ok (.ireturn, 1) := by decide +kernel
theorem dX9_best_0 : decode cX9_best 0 = .ok (.iload_n 1, 1) := by decide +kernel
theorem dX9_best_1 : decode cX9_best 1 = .ok (.i2l, 1) := by decide +kernel
theorem dX9_best_2 : decode cX9_best 2 = .ok (.lconst 0, 1) := by decide +kernel
theorem dX9_best_3 : decode cX9_best 3 = .ok (.ldc2_w 196, 3) := by decide +kernel
theorem dX9_best_6 : decode cX9_best 6 = .ok (.invokestatic 116, 3) := by decide +kernel
theorem dX9_best_9 : decode cX9_best 9 = .ok (.ifCond .eq 15, 3) := by decide +kernel
theorem dX9_best_12 : decode cX9_best 12 = .ok (.iload_n 2, 1) := by decide +kernel
theorem dX9_best_13 : decode cX9_best 13 = .ok (.i2l, 1) := by decide +kernel
theorem dX9_best_14 : decode cX9_best 14 = .ok (.lconst 0, 1) := by decide +kernel
theorem dX9_best_15 : decode cX9_best 15 = .ok (.ldc2_w 196, 3) := by decide +kernel
theorem dX9_best_18 : decode cX9_best 18 = .ok (.invokestatic 116, 3) := by decide +kernel
theorem dX9_best_21 : decode cX9_best 21 = .ok (.ifCond .ne 6, 3) := by decide +kernel
theorem dX9_best_24 : decode cX9_best 24 = .ok (.bipush (-2), 2) := by decide +kernel
theorem dX9_best_26 : decode cX9_best 26 = .ok (.ireturn, 1) := by decide +kernel
theorem dX9_best_27 : decode cX9_best 27 = .ok (.iload_n 3, 1) := by decide +kernel
theorem dX9_best_28 : decode cX9_best 28 = .ok (.i2l, 1) := by decide +kernel
theorem dX9_best_29 : decode cX9_best 29 = .ok (.lconst 0, 1) := by decide +kernel
theorem dX9_best_30 : decode cX9_best 30 = .ok (.lconst 1, 1) := by decide +kernel
theorem dX9_best_31 : decode cX9_best 31 = .ok (.invokestatic 116, 3) := by decide +kernel
theorem dX9_best_34 : decode cX9_best 34 = .ok (.ifCond .ne 5, 3) := by decide +kernel
theorem dX9_best_37 : decode cX9_best 37 = .ok (.iconst (-1), 1) := by decide +kernel
theorem dX9_best_38 : decode cX9_best 38 = .ok (.ireturn, 1) := by decide +kernel
theorem dX9_best_39 : decode cX9_best 39 = .ok (.aload_n 0, 1) := by decide +kernel
theorem dX9_best_40 : decode cX9_best 40 = .ok (.invokevirtual 338, 3) := by decide +kernel
theorem dX9_best_43 : decode cX9_best 43 = .ok (.aload_n 0, 1) := by decide +kernel
theorem dX9_best_44 : decode cX9_best 44 = .ok (.iload_n 1, 1) := by decide +kernel
theorem dX9_best_45 : decode cX9_best 45 = .ok (.iload_n 2, 1) := by decide +kernel
theorem dX9_best_46 : decode cX9_best 46 = .ok (.invokevirtual 341, 3) := by decide +kernel
theorem dX9_best_49 : decode cX9_best 49 = .ok (.istore 4, 2) := by decide +kernel
theorem dX9_best_51 : decode cX9_best 51 = .ok (.aload_n 0, 1) := by decide +kernel
theorem dX9_best_52 : decode cX9_best 52 = .ok (.getfield 144, 3) := by decide +kernel
theorem dX9_best_55 : decode cX9_best 55 = .ok (.istore 5, 2) := by decide +kernel
theorem dX9_best_57 : decode cX9_best 57 = .ok (.aload_n 0, 1) := by decide +kernel
theorem dX9_best_58 : decode cX9_best 58 = .ok (.invokevirtual 344, 3) := by decide +kernel
theorem dX9_best_61 : decode cX9_best 61 = .ok (.iload_n 3, 1) := by decide +kernel
theorem dX9_best_62 : decode cX9_best 62 = .ok (.ifCond .eq 8, 3) := by decide +kernel
theorem dX9_best_65 : decode cX9_best 65 = .ok (.iload 4, 2) := by decide +kernel
theorem dX9_best_67 : decode cX9_best 67 = .ok (.ifCond .ge 8, 3) := by decide +kernel
theorem dX9_best_70 : decode cX9_best 70 = .ok (.iload 4, 2) := by decide +kernel
theorem dX9_best_72 : decode cX9_best 72 = .ok (.goto 5, 3) := by decide +kernel
theorem dX9_best_75 : decode cX9_best 75 = .ok (.iload 5, 2) := by decide +kernel
theorem dX9_best_77 : decode cX9_best 77 = .ok (.ireturn, 1) := by decide +kernel
theorem dX9_cheapestStart_0 : decode cX9_cheapestStart 0 = .ok (.iconst 0, 1) := by decide +kernel
theorem dX9_cheapestStart_1 : decode cX9_cheapestStart 1 = .ok (.istore_n 1, 1) := by decide +kernel
theorem dX9_cheapestStart_2 : decode cX9_cheapestStart 2 = .ok (.ldc_w 305, 3) := by decide +kernel
theorem dX9_cheapestStart_5 : decode cX9_cheapestStart 5 = .ok (.istore_n 2, 1) := by decide +kernel
theorem dX9_cheapestStart_6 : decode cX9_cheapestStart 6 = .ok (.aload_n 0, 1) := by decide +kernel
theorem dX9_cheapestStart_7 : decode cX9_cheapestStart 7 = .ok (.invokevirtual 338, 3) := by decide +kernel
theorem dX9_cheapestStart_10 : decode cX9_cheapestStart 10 = .ok (.iconst 0, 1) := by decide +kernel
theorem dX9_cheapestStart_11 : decode cX9_cheapestStart 11 = .ok (.istore_n 3, 1) := by decide +kernel
theorem dX9_cheapestStart_12 : decode cX9_cheapestStart 12 = .ok (.iload_n 3, 1) := by decide +kernel
theorem dX9_cheapestStart_13 : decode cX9_cheapestStart 13 = .ok (.iconst 3, 1) := by decide +kernel
theorem dX9_cheapestStart_14 : decode cX9_cheapestStart 14 = .ok (.if_icmp .ge 37, 3) := by decide +kernel
theorem dX9_cheapestStart_17 : decode cX9_cheapestStart 17 = .ok (.aload_n 0, 1) := by decide +kernel
theorem dX9_cheapestStart_18 : decode cX9_cheapestStart 18 = .ok (.iload_n 3, 1) := by decide +kernel
theorem dX9_cheapestStart_19 : decode cX9_cheapestStart 19 = .ok (.invokevirtual 277, 3) := by decide +kernel
theorem dX9_cheapestStart_22 : decode cX9_cheapestStart 22 = .ok (.aload_n 0, 1) := by decide +kernel
theorem dX9_cheapestStart_23 : decode cX9_cheapestStart 23 = .ok (.invokevirtual 281, 3) := by decide +kernel
theorem dX9_cheapestStart_26 : decode cX9_cheapestStart 26 = .ok (.iload_n 2, 1) := by decide +kernel
theorem dX9_cheapestStart_27 : decode cX9_cheapestStart 27 = .ok (.if_icmp .ge 7, 3) := by decide +kernel
theorem dX9_cheapestStart_30 : decode cX9_cheapestStart 30 = .ok (.iload_n 3, 1) := by decide +kernel
theorem dX9_cheapestStart_31 : decode cX9_cheapestStart 31 = .ok (.goto 4, 3) := by decide +kernel
theorem dX9_cheapestStart_34 : decode cX9_cheapestStart 34 = .ok (.iload_n 1, 1) := by decide +kernel
theorem dX9_cheapestStart_35 : decode cX9_cheapestStart 35 = .ok (.istore_n 1, 1) := by decide +kernel
theorem dX9_cheapestStart_36 : decode cX9_cheapestStart 36 = .ok (.iload_n 2, 1) := by decide +kernel
theorem dX9_cheapestStart_37 : decode cX9_cheapestStart 37 = .ok (.aload_n 0, 1) := by decide +kernel
theorem dX9_cheapestStart_38 : decode cX9_cheapestStart 38 = .ok (.invokevirtual 281, 3) := by decide +kernel
theorem dX9_cheapestStart_41 : decode cX9_cheapestStart 41 = .ok (.invokestatic 272, 3) := by decide +kernel
theorem dX9_cheapestStart_44 : decode cX9_cheapestStart 44 = .ok (.istore_n 2, 1) := by decide +kernel
theorem dX9_cheapestStart_45 : decode cX9_cheapestStart 45 = .ok (.iinc 3 1, 3) := by decide +kernel
theorem dX9_cheapestStart_48 : decode cX9_cheapestStart 48 = .ok (.goto (-36), 3) := by decide +kernel
theorem dX9_cheapestStart_51 : decode cX9_cheapestStart 51 = .ok (.aload_n 0, 1) := by decide +kernel
theorem dX9_cheapestStart_52 : decode cX9_cheapestStart 52 = .ok (.invokevirtual 344, 3) := by decide +kernel
theorem dX9_cheapestStart_55 : decode cX9_cheapestStart 55 = .ok (.iload_n 1, 1) := by decide +kernel
theorem dX9_cheapestStart_56 : decode cX9_cheapestStart 56 = .ok (.ireturn, 1) := by decide +kernel
theorem dX9_fewest_0 : decode cX9_fewest 0 = .ok (.bipush (-5), 2) := by decide +kernel
theorem dX9_fewest_2 : decode cX9_fewest 2 = .ok (.istore_n 1, 1) := by decide +kernel
theorem dX9_fewest_3 : decode cX9_fewest 3 = .ok (.bipush 101, 2) := by decide +kernel
theorem dX9_fewest_5 : decode cX9_fewest 5 = .ok (.istore_n 2, 1) := by decide +kernel
theorem dX9_fewest_6 : decode cX9_fewest 6 = .ok (.aload_n 0, 1) := by decide +kernel
theorem dX9_fewest_7 : decode cX9_fewest 7 = .ok (.invokevirtual 338, 3) := by decide +kernel
theorem dX9_fewest_10 : decode cX9_fewest 10 = .ok (.iconst 0, 1) := by decide +kernel
theorem dX9_fewest_11 : decode cX9_fewest 11 = .ok (.istore_n 3, 1) := by decide +kernel
theorem dX9_fewest_12 : decode cX9_fewest 12 = .ok (.iload_n 3, 1) := by decide +kernel
theorem dX9_fewest_13 : decode cX9_fewest 13 = .ok (.bipush 9, 2) := by decide +kernel
theorem dX9_fewest_15 : decode cX9_fewest 15 = .ok (.if_icmp .ge 46, 3) := by decide +kernel
theorem dX9_fewest_18 : decode cX9_fewest 18 = .ok (.aload_n 0, 1) := by decide +kernel
theorem dX9_fewest_19 : decode cX9_fewest 19 = .ok (.iload_n 3, 1) := by decide +kernel
theorem dX9_fewest_20 : decode cX9_fewest 20 = .ok (.iconst 3, 1) := by decide +kernel
theorem dX9_fewest_21 : decode cX9_fewest 21 = .ok (.idiv, 1) := by decide +kernel
theorem dX9_fewest_22 : decode cX9_fewest 22 = .ok (.iload_n 3, 1) := by decide +kernel
theorem dX9_fewest_23 : decode cX9_fewest 23 = .ok (.iconst 3, 1) := by decide +kernel
theorem dX9_fewest_24 : decode cX9_fewest 24 = .ok (.irem, 1) := by decide +kernel
theorem dX9_fewest_25 : decode cX9_fewest 25 = .ok (.invokevirtual 341, 3) := by decide +kernel
theorem dX9_fewest_28 : decode cX9_fewest 28 = .ok (.ifCond .lt 27, 3) := by decide +kernel
theorem dX9_fewest_31 : decode cX9_fewest 31 = .ok (.aload_n 0, 1) := by decide +kernel
theorem dX9_fewest_32 : decode cX9_fewest 32 = .ok (.getfield 144, 3) := by decide +kernel
theorem dX9_fewest_35 : decode cX9_fewest 35 = .ok (.iload_n 2, 1) := by decide +kernel
theorem dX9_fewest_36 : decode cX9_fewest 36 = .ok (.if_icmp .ge 19, 3) := by decide +kernel
theorem dX9_fewest_39 : decode cX9_fewest 39 = .ok (.aload_n 0, 1) := by decide +kernel
theorem dX9_fewest_40 : decode cX9_fewest 40 = .ok (.getfield 144, 3) := by decide +kernel
theorem dX9_fewest_43 : decode cX9_fewest 43 = .ok (.istore_n 2, 1) := by decide +kernel
theorem dX9_fewest_44 : decode cX9_fewest 44 = .ok (.bipush 10, 2) := by decide +kernel
theorem dX9_fewest_46 : decode cX9_fewest 46 = .ok (.iload_n 3, 1) := by decide +kernel
theorem dX9_fewest_47 : decode cX9_fewest 47 = .ok (.iconst 3, 1) := by decide +kernel
theorem dX9_fewest_48 : decode cX9_fewest 48 = .ok (.idiv, 1) := by decide +kernel
theorem dX9_fewest_49 : decode cX9_fewest 49 = .ok (.imul, 1) := by decide +kernel
theorem dX9_fewest_50 : decode cX9_fewest 50 = .ok (.iload_n 3, 1) := by decide +kernel
theorem dX9_fewest_51 : decode cX9_fewest 51 = .ok (.iconst 3, 1) := by decide +kernel
theorem dX9_fewest_52 : decode cX9_fewest 52 = .ok (.irem, 1) := by decide +kernel
theorem dX9_fewest_53 : decode cX9_fewest 53 = .ok (.iadd, 1) := by decide +kernel
theorem dX9_fewest_54 : decode cX9_fewest 54 = .ok (.istore_n 1, 1) := by decide +kernel
theorem dX9_fewest_55 : decode cX9_fewest 55 = .ok (.iinc 3 1, 3) := by decide +kernel
theorem dX9_fewest_58 : decode cX9_fewest 58 = .ok (.goto (-46), 3) := by decide +kernel
theorem dX9_fewest_61 : decode cX9_fewest 61 = .ok (.aload_n 0, 1) := by decide +kernel
theorem dX9_fewest_62 : decode cX9_fewest 62 = .ok (.invokevirtual 344, 3) := by decide +kernel
theorem dX9_fewest_65 : decode cX9_fewest 65 = .ok (.iload_n 1, 1) := by decide +kernel
theorem dX9_fewest_66 : decode cX9_fewest 66 = .ok (.ireturn, 1) := by decide +kernel
theorem dX9_cheapest_0 : decode cX9_cheapest 0 = .ok (.iload_n 1, 1) := by decide +kernel
theorem dX9_cheapest_1 : decode cX9_cheapest 1 = .ok (.i2l, 1) := by decide +kernel
theorem dX9_cheapest_2 : decode cX9_cheapest 2 = .ok (.lconst 0, 1) := by decide +kernel
theorem dX9_cheapest_3 : decode cX9_cheapest 3 = .ok (.lconst 1, 1) := by decide +kernel
theorem dX9_cheapest_4 : decode cX9_cheapest 4 = .ok (.invokestatic 116, 3) := by decide +kernel
theorem dX9_cheapest_7 : decode cX9_cheapest 7 = .ok (.ifCond .ne 5, 3) := by decide +kernel
theorem dX9_cheapest_10 : decode cX9_cheapest 10 = .ok (.iconst (-1), 1) := by decide +kernel
theorem dX9_cheapest_11 : decode cX9_cheapest 11 = .ok (.ireturn, 1) := by decide +kernel
theorem dX9_cheapest_12 : decode cX9_cheapest 12 = .ok (.aload_n 0, 1) := by decide +kernel
theorem dX9_cheapest_13 : decode cX9_cheapest 13 = .ok (.getfield 109, 3) := by decide +kernel
theorem dX9_cheapest_16 : decode cX9_cheapest 16 = .ok (.ifCond .eq 10, 3) := by decide +kernel
theorem dX9_cheapest_19 : decode cX9_cheapest 19 = .ok (.aload_n 0, 1) := by decide +kernel
theorem dX9_cheapest_20 : decode cX9_cheapest 20 = .ok (.getfield 113, 3) := by decide +kernel
theorem dX9_cheapest_23 : decode cX9_cheapest 23 = .ok (.ifCond .ne 6, 3) := by decide +kernel
theorem dX9_cheapest_26 : decode cX9_cheapest 26 = .ok (.bipush (-5), 2) := by decide +kernel
theorem dX9_cheapest_28 : decode cX9_cheapest 28 = .ok (.ireturn, 1) := by decide +kernel
theorem dX9_cheapest_29 : decode cX9_cheapest 29 = .ok (.iload_n 1, 1) := by decide +kernel
theorem dX9_cheapest_30 : decode cX9_cheapest 30 = .ok (.ifCond .ne 10, 3) := by decide +kernel
theorem dX9_cheapest_33 : decode cX9_cheapest 33 = .ok (.aload_n 0, 1) := by decide +kernel
theorem dX9_cheapest_34 : decode cX9_cheapest 34 = .ok (.invokevirtual 347, 3) := by decide +kernel
theorem dX9_cheapest_37 : decode cX9_cheapest 37 = .ok (.goto 7, 3) := by decide +kernel
theorem dX9_cheapest_40 : decode cX9_cheapest 40 = .ok (.aload_n 0, 1) := by decide +kernel
theorem dX9_cheapest_41 : decode cX9_cheapest 41 = .ok (.invokevirtual 350, 3) := by decide +kernel
theorem dX9_cheapest_44 : decode cX9_cheapest 44 = .ok (.ireturn, 1) := by decide +kernel
theorem dX9_more_0 : decode cX9_more 0 = .ok (.aload_n 0, 1) := by decide +kernel
theorem dX9_more_1 : decode cX9_more 1 = .ok (.iload_n 1, 1) := by decide +kernel
theorem dX9_more_2 : decode cX9_more 2 = .ok (.iload_n 2, 1) := by decide +kernel
theorem dX9_more_3 : decode cX9_more 3 = .ok (.invokevirtual 120, 3) := by decide +kernel
theorem dX9_more_6 : decode cX9_more 6 = .ok (.ifCond .ne 7, 3) := by decide +kernel
theorem dX9_more_9 : decode cX9_more 9 = .ok (.ldc2_w 332, 3) := by decide +kernel
theorem dX9_more_12 : decode cX9_more 12 = .ok (.lreturn, 1) := by decide +kernel
theorem dX9_more_13 : decode cX9_more 13 = .ok (.aload_n 0, 1) := by decide +kernel
theorem dX9_more_14 : decode cX9_more 14 = .ok (.invokevirtual 353, 3) := by decide +kernel
theorem dX9_more_17 : decode cX9_more 17 = .ok (.istore_n 3, 1) := by decide +kernel
theorem dX9_more_18 : decode cX9_more 18 = .ok (.aload_n 0, 1) := by decide +kernel
theorem dX9_more_19 : decode cX9_more 19 = .ok (.getfield 11, 3) := by decide +kernel
theorem dX9_more_22 : decode cX9_more 22 = .ok (.iload_n 1, 1) := by decide +kernel
theorem dX9_more_23 : decode cX9_more 23 = .ok (.dup2, 1) := by decide +kernel
theorem dX9_more_24 : decode cX9_more 24 = .ok (.iaload, 1) := by decide +kernel
theorem dX9_more_25 : decode cX9_more 25 = .ok (.iconst 1, 1) := by decide +kernel
theorem dX9_more_26 : decode cX9_more 26 = .ok (.iadd, 1) := by decide +kernel
theorem dX9_more_27 : decode cX9_more 27 = .ok (.iastore, 1) := by decide +kernel
theorem dX9_more_28 : decode cX9_more 28 = .ok (.aload_n 0, 1) := by decide +kernel
theorem dX9_more_29 : decode cX9_more 29 = .ok (.getfield 11, 3) := by decide +kernel
theorem dX9_more_32 : decode cX9_more 32 = .ok (.iconst 5, 1) := by decide +kernel
theorem dX9_more_33 : decode cX9_more 33 = .ok (.iload_n 2, 1) := by decide +kernel
theorem dX9_more_34 : decode cX9_more 34 = .ok (.iadd, 1) := by decide +kernel
theorem dX9_more_35 : decode cX9_more 35 = .ok (.dup2, 1) := by decide +kernel
theorem dX9_more_36 : decode cX9_more 36 = .ok (.iaload, 1) := by decide +kernel
theorem dX9_more_37 : decode cX9_more 37 = .ok (.iconst 1, 1) := by decide +kernel
theorem dX9_more_38 : decode cX9_more 38 = .ok (.iadd, 1) := by decide +kernel
theorem dX9_more_39 : decode cX9_more 39 = .ok (.iastore, 1) := by decide +kernel
theorem dX9_more_40 : decode cX9_more 40 = .ok (.aload_n 0, 1) := by decide +kernel
theorem dX9_more_41 : decode cX9_more 41 = .ok (.invokevirtual 353, 3) := by decide +kernel
theorem dX9_more_44 : decode cX9_more 44 = .ok (.istore 4, 2) := by decide +kernel
theorem dX9_more_46 : decode cX9_more 46 = .ok (.aload_n 0, 1) := by decide +kernel
theorem dX9_more_47 : decode cX9_more 47 = .ok (.getfield 11, 3) := by decide +kernel
theorem dX9_more_50 : decode cX9_more 50 = .ok (.iload_n 1, 1) := by decide +kernel
theorem dX9_more_51 : decode cX9_more 51 = .ok (.dup2, 1) := by decide +kernel
theorem dX9_more_52 : decode cX9_more 52 = .ok (.iaload, 1) := by decide +kernel
theorem dX9_more_53 : decode cX9_more 53 = .ok (.iconst 1, 1) := by decide +kernel
theorem dX9_more_54 : decode cX9_more 54 = .ok (.isub, 1) := by decide +kernel
theorem dX9_more_55 : decode cX9_more 55 = .ok (.iastore, 1) := by decide +kernel
theorem dX9_more_56 : decode cX9_more 56 = .ok (.aload_n 0, 1) := by decide +kernel
theorem dX9_more_57 : decode cX9_more 57 = .ok (.getfield 11, 3) := by decide +kernel
theorem dX9_more_60 : decode cX9_more 60 = .ok (.iconst 5, 1) := by decide +kernel
theorem dX9_more_61 : decode cX9_more 61 = .ok (.iload_n 2, 1) := by decide +kernel
theorem dX9_more_62 : decode cX9_more 62 = .ok (.iadd, 1) := by decide +kernel
theorem dX9_more_63 : decode cX9_more 63 = .ok (.dup2, 1) := by decide +kernel
theorem dX9_more_64 : decode cX9_more 64 = .ok (.iaload, 1) := by decide +kernel
theorem dX9_more_65 : decode cX9_more 65 = .ok (.iconst 1, 1) := by decide +kernel
theorem dX9_more_66 : decode cX9_more 66 = .ok (.isub, 1) := by decide +kernel
theorem dX9_more_67 : decode cX9_more 67 = .ok (.iastore, 1) := by decide +kernel
theorem dX9_more_68 : decode cX9_more 68 = .ok (.iload_n 3, 1) := by decide +kernel
theorem dX9_more_69 : decode cX9_more 69 = .ok (.ifCond .lt 8, 3) := by decide +kernel
theorem dX9_more_72 : decode cX9_more 72 = .ok (.iload 4, 2) := by decide +kernel
theorem dX9_more_74 : decode cX9_more 74 = .ok (.ifCond .ge 9, 3) := by decide +kernel
theorem dX9_more_77 : decode cX9_more 77 = .ok (.ldc2_w 332, 3) := by decide +kernel
theorem dX9_more_80 : decode cX9_more 80 = .ok (.goto 8, 3) := by decide +kernel
theorem dX9_more_83 : decode cX9_more 83 = .ok (.iload 4, 2) := by decide +kernel
theorem dX9_more_85 : decode cX9_more 85 = .ok (.iload_n 3, 1) := by decide +kernel
theorem dX9_more_86 : decode cX9_more 86 = .ok (.isub, 1) := by decide +kernel
theorem dX9_more_87 : decode cX9_more 87 = .ok (.i2l, 1) := by decide +kernel
theorem dX9_more_88 : decode cX9_more 88 = .ok (.lreturn, 1) := by decide +kernel
theorem dX9_rises_0 : decode cX9_rises 0 = .ok (.aload_n 0, 1) := by decide +kernel
theorem dX9_rises_1 : decode cX9_rises 1 = .ok (.invokevirtual 284, 3) := by decide +kernel
theorem dX9_rises_4 : decode cX9_rises 4 = .ok (.iconst 0, 1) := by decide +kernel
theorem dX9_rises_5 : decode cX9_rises 5 = .ok (.istore_n 2, 1) := by decide +kernel
theorem dX9_rises_6 : decode cX9_rises 6 = .ok (.iload_n 2, 1) := by decide +kernel
theorem dX9_rises_7 : decode cX9_rises 7 = .ok (.bipush 12, 2) := by decide +kernel
theorem dX9_rises_9 : decode cX9_rises 9 = .ok (.if_icmp .ge 28, 3) := by decide +kernel
theorem dX9_rises_12 : decode cX9_rises 12 = .ok (.aload_n 0, 1) := by decide +kernel
theorem dX9_rises_13 : decode cX9_rises 13 = .ok (.getfield 73, 3) := by decide +kernel
theorem dX9_rises_16 : decode cX9_rises 16 = .ok (.iload_n 2, 1) := by decide +kernel
theorem dX9_rises_17 : decode cX9_rises 17 = .ok (.iload_n 2, 1) := by decide +kernel
theorem dX9_rises_18 : decode cX9_rises 18 = .ok (.iload_n 1, 1) := by decide +kernel
theorem dX9_rises_19 : decode cX9_rises 19 = .ok (.bipush 6, 2) := by decide +kernel
theorem dX9_rises_21 : decode cX9_rises 21 = .ok (.idiv, 1) := by decide +kernel
theorem dX9_rises_22 : decode cX9_rises 22 = .ok (.if_icmp .ne 7, 3) := by decide +kernel
theorem dX9_rises_25 : decode cX9_rises 25 = .ok (.iconst 1, 1) := by decide +kernel
theorem dX9_rises_26 : decode cX9_rises 26 = .ok (.goto 4, 3) := by decide +kernel
theorem dX9_rises_29 : decode cX9_rises 29 = .ok (.iconst 0, 1) := by decide +kernel
theorem dX9_rises_30 : decode cX9_rises 30 = .ok (.bastore, 1) := by decide +kernel
theorem dX9_rises_31 : decode cX9_rises 31 = .ok (.iinc 2 1, 3) := by decide +kernel
theorem dX9_rises_34 : decode cX9_rises 34 = .ok (.goto (-28), 3) := by decide +kernel
theorem dX9_rises_37 : decode cX9_rises 37 = .ok (.iconst 1, 1) := by decide +kernel
theorem dX9_rises_38 : decode cX9_rises 38 = .ok (.istore_n 2, 1) := by decide +kernel
theorem dX9_rises_39 : decode cX9_rises 39 = .ok (.iload_n 2, 1) := by decide +kernel
theorem dX9_rises_40 : decode cX9_rises 40 = .ok (.ifCond .eq 87, 3) := by decide +kernel
theorem dX9_rises_43 : decode cX9_rises 43 = .ok (.iconst 0, 1) := by decide +kernel
theorem dX9_rises_44 : decode cX9_rises 44 = .ok (.istore_n 2, 1) := by decide +kernel
theorem dX9_rises_45 : decode cX9_rises 45 = .ok (.iconst 0, 1) := by decide +kernel
theorem dX9_rises_46 : decode cX9_rises 46 = .ok (.istore_n 3, 1) := by decide +kernel
theorem dX9_rises_47 : decode cX9_rises 47 = .ok (.iload_n 3, 1) := by decide +kernel
theorem dX9_rises_48 : decode cX9_rises 48 = .ok (.bipush 36, 2) := by decide +kernel
theorem dX9_rises_50 : decode cX9_rises 50 = .ok (.if_icmp .ge 74, 3) := by decide +kernel
theorem dX9_rises_53 : decode cX9_rises 53 = .ok (.iload_n 3, 1) := by decide +kernel
theorem dX9_rises_54 : decode cX9_rises 54 = .ok (.bipush 6, 2) := by decide +kernel
theorem dX9_rises_56 : decode cX9_rises 56 = .ok (.idiv, 1) := by decide +kernel
theorem dX9_rises_57 : decode cX9_rises 57 = .ok (.istore 4, 2) := by decide +kernel
theorem dX9_rises_59 : decode cX9_rises 59 = .ok (.bipush 6, 2) := by decide +kernel
theorem dX9_rises_61 : decode cX9_rises 61 = .ok (.iload_n 3, 1) := by decide +kernel
theorem dX9_rises_62 : decode cX9_rises 62 = .ok (.bipush 6, 2) := by decide +kernel
theorem dX9_rises_64 : decode cX9_rises 64 = .ok (.irem, 1) := by decide +kernel
theorem dX9_rises_65 : decode cX9_rises 65 = .ok (.iadd, 1) := by decide +kernel
theorem dX9_rises_66 : decode cX9_rises 66 = .ok (.istore 5, 2) := by decide +kernel
theorem dX9_rises_68 : decode cX9_rises 68 = .ok (.aload_n 0, 1) := by decide +kernel
theorem dX9_rises_69 : decode cX9_rises 69 = .ok (.getfield 30, 3) := by decide +kernel
theorem dX9_rises_72 : decode cX9_rises 72 = .ok (.iload_n 3, 1) := by decide +kernel
theorem dX9_rises_73 : decode cX9_rises 73 = .ok (.iaload, 1) := by decide +kernel
theorem dX9_rises_74 : decode cX9_rises 74 = .ok (.iconst 1, 1) := by decide +kernel
theorem dX9_rises_75 : decode cX9_rises 75 = .ok (.if_icmp .ne 43, 3) := by decide +kernel
theorem dX9_rises_78 : decode cX9_rises 78 = .ok (.iload_n 3, 1) := by decide +kernel
theorem dX9_rises_79 : decode cX9_rises 79 = .ok (.iload_n 1, 1) := by decide +kernel
theorem dX9_rises_80 : decode cX9_rises 80 = .ok (.if_icmp .eq 38, 3) := by decide +kernel
theorem dX9_rises_83 : decode cX9_rises 83 = .ok (.aload_n 0, 1) := by decide +kernel
theorem dX9_rises_84 : decode cX9_rises 84 = .ok (.getfield 73, 3) := by decide +kernel
theorem dX9_rises_87 : decode cX9_rises 87 = .ok (.iload 4, 2) := by decide +kernel
theorem dX9_rises_89 : decode cX9_rises 89 = .ok (.baload, 1) := by decide +kernel
theorem dX9_rises_90 : decode cX9_rises 90 = .ok (.aload_n 0, 1) := by decide +kernel
theorem dX9_rises_91 : decode cX9_rises 91 = .ok (.getfield 73, 3) := by decide +kernel
theorem dX9_rises_94 : decode cX9_rises 94 = .ok (.iload 5, 2) := by decide +kernel
theorem dX9_rises_96 : decode cX9_rises 96 = .ok (.baload, 1) := by decide +kernel
theorem dX9_rises_97 : decode cX9_rises 97 = .ok (.if_icmp .eq 21, 3) := by decide +kernel
theorem dX9_rises_100 : decode cX9_rises 100 = .ok (.aload_n 0, 1) := by decide +kernel
theorem dX9_rises_101 : decode cX9_rises 101 = .ok (.getfield 73, 3) := by decide +kernel
theorem dX9_rises_104 : decode cX9_rises 104 = .ok (.iload 4, 2) := by decide +kernel
theorem dX9_rises_106 : decode cX9_rises 106 = .ok (.iconst 1, 1) := by decide +kernel
theorem dX9_rises_107 : decode cX9_rises 107 = .ok (.bastore, 1) := by decide +kernel
theorem dX9_rises_108 : decode cX9_rises 108 = .ok (.aload_n 0, 1) := by decide +kernel
theorem dX9_rises_109 : decode cX9_rises 109 = .ok (.getfield 73, 3) := by decide +kernel
theorem dX9_rises_112 : decode cX9_rises 112 = .ok (.iload 5, 2) := by decide +kernel
theorem dX9_rises_114 : decode cX9_rises 114 = .ok (.iconst 1, 1) := by decide +kernel
theorem dX9_rises_115 : decode cX9_rises 115 = .ok (.bastore, 1) := by decide +kernel
theorem dX9_rises_116 : decode cX9_rises 116 = .ok (.iconst 1, 1) := by decide +kernel
theorem dX9_rises_117 : decode cX9_rises 117 = .ok (.istore_n 2, 1) := by decide +kernel
theorem dX9_rises_118 : decode cX9_rises 118 = .ok (.iinc 3 1, 3) := by decide +kernel
theorem dX9_rises_121 : decode cX9_rises 121 = .ok (.goto (-74), 3) := by decide +kernel
theorem dX9_rises_124 : decode cX9_rises 124 = .ok (.goto (-85), 3) := by decide +kernel
theorem dX9_rises_127 : decode cX9_rises 127 = .ok (.bipush 99, 2) := by decide +kernel
theorem dX9_rises_129 : decode cX9_rises 129 = .ok (.istore_n 3, 1) := by decide +kernel
theorem dX9_rises_130 : decode cX9_rises 130 = .ok (.iconst 0, 1) := by decide +kernel
theorem dX9_rises_131 : decode cX9_rises 131 = .ok (.istore 4, 2) := by decide +kernel
theorem dX9_rises_133 : decode cX9_rises 133 = .ok (.iload 4, 2) := by decide +kernel
theorem dX9_rises_135 : decode cX9_rises 135 = .ok (.bipush 36, 2) := by decide +kernel
theorem dX9_rises_137 : decode cX9_rises 137 = .ok (.if_icmp .ge 64, 3) := by decide +kernel
theorem dX9_rises_140 : decode cX9_rises 140 = .ok (.aload_n 0, 1) := by decide +kernel
theorem dX9_rises_141 : decode cX9_rises 141 = .ok (.iload 4, 2) := by decide +kernel
theorem dX9_rises_143 : decode cX9_rises 143 = .ok (.invokevirtual 290, 3) := by decide +kernel
theorem dX9_rises_146 : decode cX9_rises 146 = .ok (.ifCond .eq 49, 3) := by decide +kernel
theorem dX9_rises_149 : decode cX9_rises 149 = .ok (.iload 4, 2) := by decide +kernel
theorem dX9_rises_151 : decode cX9_rises 151 = .ok (.iload_n 1, 1) := by decide +kernel
theorem dX9_rises_152 : decode cX9_rises 152 = .ok (.if_icmp .eq 43, 3) := by decide +kernel
theorem dX9_rises_155 : decode cX9_rises 155 = .ok (.aload_n 0, 1) := by decide +kernel
theorem dX9_rises_156 : decode cX9_rises 156 = .ok (.getfield 73, 3) := by decide +kernel
theorem dX9_rises_159 : decode cX9_rises 159 = .ok (.iload 4, 2) := by decide +kernel
theorem dX9_rises_161 : decode cX9_rises 161 = .ok (.bipush 6, 2) := by decide +kernel
theorem dX9_rises_163 : decode cX9_rises 163 = .ok (.idiv, 1) := by decide +kernel
theorem dX9_rises_164 : decode cX9_rises 164 = .ok (.baload, 1) := by decide +kernel
theorem dX9_rises_165 : decode cX9_rises 165 = .ok (.ifCond .eq 30, 3) := by decide +kernel
theorem dX9_rises_168 : decode cX9_rises 168 = .ok (.aload_n 0, 1) := by decide +kernel
theorem dX9_rises_169 : decode cX9_rises 169 = .ok (.getfield 73, 3) := by decide +kernel
theorem dX9_rises_172 : decode cX9_rises 172 = .ok (.bipush 6, 2) := by decide +kernel
theorem dX9_rises_174 : decode cX9_rises 174 = .ok (.iload 4, 2) := by decide +kernel
theorem dX9_rises_176 : decode cX9_rises 176 = .ok (.bipush 6, 2) := by decide +kernel
theorem dX9_rises_178 : decode cX9_rises 178 = .ok (.irem, 1) := by decide +kernel
theorem dX9_rises_179 : decode cX9_rises 179 = .ok (.iadd, 1) := by decide +kernel
theorem dX9_rises_180 : decode cX9_rises 180 = .ok (.baload, 1) := by decide +kernel
theorem dX9_rises_181 : decode cX9_rises 181 = .ok (.ifCond .ne 14, 3) := by decide +kernel
theorem dX9_rises_184 : decode cX9_rises 184 = .ok (.iload_n 3, 1) := by decide +kernel
theorem dX9_rises_185 : decode cX9_rises 185 = .ok (.aload_n 0, 1) := by decide +kernel
theorem dX9_rises_186 : decode cX9_rises 186 = .ok (.iload 4, 2) := by decide +kernel
theorem dX9_rises_188 : decode cX9_rises 188 = .ok (.invokevirtual 287, 3) := by decide +kernel
theorem dX9_rises_191 : decode cX9_rises 191 = .ok (.invokestatic 272, 3) := by decide +kernel
theorem dX9_rises_194 : decode cX9_rises 194 = .ok (.istore_n 3, 1) := by decide +kernel
theorem dX9_rises_195 : decode cX9_rises 195 = .ok (.iinc 4 1, 3) := by decide +kernel
theorem dX9_rises_198 : decode cX9_rises 198 = .ok (.goto (-65), 3) := by decide +kernel
theorem dX9_rises_201 : decode cX9_rises 201 = .ok (.iload_n 3, 1) := by decide +kernel
theorem dX9_rises_202 : decode cX9_rises 202 = .ok (.ireturn, 1) := by decide +kernel
theorem dX9_rise_0 : decode cX9_rise 0 = .ok (.aload_n 0, 1) := by decide +kernel
theorem dX9_rise_1 : decode cX9_rise 1 = .ok (.iload_n 1, 1) := by decide +kernel
theorem dX9_rise_2 : decode cX9_rise 2 = .ok (.iload_n 2, 1) := by decide +kernel
theorem dX9_rise_3 : decode cX9_rise 3 = .ok (.invokevirtual 120, 3) := by decide +kernel
theorem dX9_rise_6 : decode cX9_rise 6 = .ok (.ifCond .ne 5, 3) := by decide +kernel
theorem dX9_rise_9 : decode cX9_rise 9 = .ok (.iconst (-1), 1) := by decide +kernel
theorem dX9_rise_10 : decode cX9_rise 10 = .ok (.ireturn, 1) := by decide +kernel
theorem dX9_rise_11 : decode cX9_rise 11 = .ok (.aload_n 0, 1) := by decide +kernel
theorem dX9_rise_12 : decode cX9_rise 12 = .ok (.getfield 141, 3) := by decide +kernel
theorem dX9_rise_15 : decode cX9_rise 15 = .ok (.ifCond .eq 24, 3) := by decide +kernel
theorem dX9_rise_18 : decode cX9_rise 18 = .ok (.aload_n 0, 1) := by decide +kernel
theorem dX9_rise_19 : decode cX9_rise 19 = .ok (.invokevirtual 334, 3) := by decide +kernel
theorem dX9_rise_22 : decode cX9_rise 22 = .ok (.ifCond .eq 17, 3) := by decide +kernel
theorem dX9_rise_25 : decode cX9_rise 25 = .ok (.aload_n 0, 1) := by decide +kernel
theorem dX9_rise_26 : decode cX9_rise 26 = .ok (.getfield 30, 3) := by decide +kernel
theorem dX9_rise_29 : decode cX9_rise 29 = .ok (.bipush 6, 2) := by decide +kernel
theorem dX9_rise_31 : decode cX9_rise 31 = .ok (.iload_n 1, 1) := by decide +kernel
theorem dX9_rise_32 : decode cX9_rise 32 = .ok (.imul, 1) := by decide +kernel
theorem dX9_rise_33 : decode cX9_rise 33 = .ok (.iload_n 2, 1) := by decide +kernel
theorem dX9_rise_34 : decode cX9_rise 34 = .ok (.iadd, 1) := by decide +kernel
theorem dX9_rise_35 : decode cX9_rise 35 = .ok (.iaload, 1) := by decide +kernel
theorem dX9_rise_36 : decode cX9_rise 36 = .ok (.ifCond .ne 6, 3) := by decide +kernel
theorem dX9_rise_39 : decode cX9_rise 39 = .ok (.bipush (-3), 2) := by decide +kernel
theorem dX9_rise_41 : decode cX9_rise 41 = .ok (.ireturn, 1) := by decide +kernel
theorem dX9_rise_42 : decode cX9_rise 42 = .ok (.aload_n 0, 1) := by decide +kernel
theorem dX9_rise_43 : decode cX9_rise 43 = .ok (.bipush 6, 2) := by decide +kernel
theorem dX9_rise_45 : decode cX9_rise 45 = .ok (.iload_n 1, 1) := by decide +kernel
theorem dX9_rise_46 : decode cX9_rise 46 = .ok (.imul, 1) := by decide +kernel
theorem dX9_rise_47 : decode cX9_rise 47 = .ok (.iload_n 2, 1) := by decide +kernel
theorem dX9_rise_48 : decode cX9_rise 48 = .ok (.iadd, 1) := by decide +kernel
theorem dX9_rise_49 : decode cX9_rise 49 = .ok (.invokevirtual 356, 3) := by decide +kernel
theorem dX9_rise_52 : decode cX9_rise 52 = .ok (.ireturn, 1) := by decide +kernel
theorem dX9_missed_0 : decode cX9_missed 0 = .ok (.iload_n 1, 1) := by decide +kernel
theorem dX9_missed_1 : decode cX9_missed 1 = .ok (.i2l, 1) := by decide +kernel
theorem dX9_missed_2 : decode cX9_missed 2 = .ok (.lconst 0, 1) := by decide +kernel
theorem dX9_missed_3 : decode cX9_missed 3 = .ok (.lconst 1, 1) := by decide +kernel
theorem dX9_missed_4 : decode cX9_missed 4 = .ok (.invokestatic 116, 3) := by decide +kernel
theorem dX9_missed_7 : decode cX9_missed 7 = .ok (.ifCond .ne 5, 3) := by decide +kernel
theorem dX9_missed_10 : decode cX9_missed 10 = .ok (.iconst (-1), 1) := by decide +kernel
theorem dX9_missed_11 : decode cX9_missed 11 = .ok (.ireturn, 1) := by decide +kernel
theorem dX9_missed_12 : decode cX9_missed 12 = .ok (.bipush (-5), 2) := by decide +kernel
theorem dX9_missed_14 : decode cX9_missed 14 = .ok (.istore_n 2, 1) := by decide +kernel
theorem dX9_missed_15 : decode cX9_missed 15 = .ok (.bipush (-5), 2) := by decide +kernel
theorem dX9_missed_17 : decode cX9_missed 17 = .ok (.istore_n 3, 1) := by decide +kernel
theorem dX9_missed_18 : decode cX9_missed 18 = .ok (.iconst 0, 1) := by decide +kernel
theorem dX9_missed_19 : decode cX9_missed 19 = .ok (.istore 4, 2) := by decide +kernel
theorem dX9_missed_21 : decode cX9_missed 21 = .ok (.iload 4, 2) := by decide +kernel
theorem dX9_missed_23 : decode cX9_missed 23 = .ok (.aload_n 0, 1) := by decide +kernel
theorem dX9_missed_24 : decode cX9_missed 24 = .ok (.getfield 109, 3) := by decide +kernel
theorem dX9_missed_27 : decode cX9_missed 27 = .ok (.if_icmp .ge 111, 3) := by decide +kernel
theorem dX9_missed_30 : decode cX9_missed 30 = .ok (.iconst 0, 1) := by decide +kernel
theorem dX9_missed_31 : decode cX9_missed 31 = .ok (.istore 5, 2) := by decide +kernel
theorem dX9_missed_33 : decode cX9_missed 33 = .ok (.iload 5, 2) := by decide +kernel
theorem dX9_missed_35 : decode cX9_missed 35 = .ok (.aload_n 0, 1) := by decide +kernel
theorem dX9_missed_36 : decode cX9_missed 36 = .ok (.getfield 113, 3) := by decide +kernel
theorem dX9_missed_39 : decode cX9_missed 39 = .ok (.if_icmp .ge 93, 3) := by decide +kernel
theorem dX9_missed_42 : decode cX9_missed 42 = .ok (.aload_n 0, 1) := by decide +kernel
theorem dX9_missed_43 : decode cX9_missed 43 = .ok (.getfield 18, 3) := by decide +kernel
theorem dX9_missed_46 : decode cX9_missed 46 = .ok (.iconst 5, 1) := by decide +kernel
theorem dX9_missed_47 : decode cX9_missed 47 = .ok (.iload 4, 2) := by decide +kernel
theorem dX9_missed_49 : decode cX9_missed 49 = .ok (.imul, 1) := by decide +kernel
theorem dX9_missed_50 : decode cX9_missed 50 = .ok (.iload 5, 2) := by decide +kernel
theorem dX9_missed_52 : decode cX9_missed 52 = .ok (.iadd, 1) := by decide +kernel
theorem dX9_missed_53 : decode cX9_missed 53 = .ok (.iaload, 1) := by decide +kernel
theorem dX9_missed_54 : decode cX9_missed 54 = .ok (.istore 6, 2) := by decide +kernel
theorem dX9_missed_56 : decode cX9_missed 56 = .ok (.aload_n 0, 1) := by decide +kernel
theorem dX9_missed_57 : decode cX9_missed 57 = .ok (.getfield 18, 3) := by decide +kernel
theorem dX9_missed_60 : decode cX9_missed 60 = .ok (.iconst 5, 1) := by decide +kernel
theorem dX9_missed_61 : decode cX9_missed 61 = .ok (.iload 4, 2) := by decide +kernel
theorem dX9_missed_63 : decode cX9_missed 63 = .ok (.imul, 1) := by decide +kernel
theorem dX9_missed_64 : decode cX9_missed 64 = .ok (.iload 5, 2) := by decide +kernel
theorem dX9_missed_66 : decode cX9_missed 66 = .ok (.iadd, 1) := by decide +kernel
theorem dX9_missed_67 : decode cX9_missed 67 = .ok (.iconst 3, 1) := by decide +kernel
theorem dX9_missed_68 : decode cX9_missed 68 = .ok (.iastore, 1) := by decide +kernel
theorem dX9_missed_69 : decode cX9_missed 69 = .ok (.iload 6, 2) := by decide +kernel
theorem dX9_missed_71 : decode cX9_missed 71 = .ok (.iconst 3, 1) := by decide +kernel
theorem dX9_missed_72 : decode cX9_missed 72 = .ok (.if_icmp .ne 8, 3) := by decide +kernel
theorem dX9_missed_75 : decode cX9_missed 75 = .ok (.bipush (-5), 2) := by decide +kernel
theorem dX9_missed_77 : decode cX9_missed 77 = .ok (.goto 7, 3) := by decide +kernel
theorem dX9_missed_80 : decode cX9_missed 80 = .ok (.aload_n 0, 1) := by decide +kernel
theorem dX9_missed_81 : decode cX9_missed 81 = .ok (.invokevirtual 353, 3) := by decide +kernel
theorem dX9_missed_84 : decode cX9_missed 84 = .ok (.istore 7, 2) := by decide +kernel
theorem dX9_missed_86 : decode cX9_missed 86 = .ok (.aload_n 0, 1) := by decide +kernel
theorem dX9_missed_87 : decode cX9_missed 87 = .ok (.getfield 18, 3) := by decide +kernel
theorem dX9_missed_90 : decode cX9_missed 90 = .ok (.iconst 5, 1) := by decide +kernel
theorem dX9_missed_91 : decode cX9_missed 91 = .ok (.iload 4, 2) := by decide +kernel
theorem dX9_missed_93 : decode cX9_missed 93 = .ok (.imul, 1) := by decide +kernel
theorem dX9_missed_94 : decode cX9_missed 94 = .ok (.iload 5, 2) := by decide +kernel
theorem dX9_missed_96 : decode cX9_missed 96 = .ok (.iadd, 1) := by decide +kernel
theorem dX9_missed_97 : decode cX9_missed 97 = .ok (.iload 6, 2) := by decide +kernel
theorem dX9_missed_99 : decode cX9_missed 99 = .ok (.iastore, 1) := by decide +kernel
theorem dX9_missed_100 : decode cX9_missed 100 = .ok (.iload 7, 2) := by decide +kernel
theorem dX9_missed_102 : decode cX9_missed 102 = .ok (.iload_n 3, 1) := by decide +kernel
theorem dX9_missed_103 : decode cX9_missed 103 = .ok (.if_icmp .le 14, 3) := by decide +kernel
theorem dX9_missed_106 : decode cX9_missed 106 = .ok (.bipush 10, 2) := by decide +kernel
theorem dX9_missed_108 : decode cX9_missed 108 = .ok (.iload 4, 2) := by decide +kernel
theorem dX9_missed_110 : decode cX9_missed 110 = .ok (.imul, 1) := by decide +kernel
theorem dX9_missed_111 : decode cX9_missed 111 = .ok (.iload 5, 2) := by decide +kernel
theorem dX9_missed_113 : decode cX9_missed 113 = .ok (.iadd, 1) := by decide +kernel
theorem dX9_missed_114 : decode cX9_missed 114 = .ok (.goto 4, 3) := by decide +kernel
theorem dX9_missed_117 : decode cX9_missed 117 = .ok (.iload_n 2, 1) := by decide +kernel
theorem dX9_missed_118 : decode cX9_missed 118 = .ok (.istore_n 2, 1) := by decide +kernel
theorem dX9_missed_119 : decode cX9_missed 119 = .ok (.iload_n 3, 1) := by decide +kernel
theorem dX9_missed_120 : decode cX9_missed 120 = .ok (.iload 7, 2) := by decide +kernel
theorem dX9_missed_122 : decode cX9_missed 122 = .ok (.invokestatic 359, 3) := by decide +kernel
theorem dX9_missed_125 : decode cX9_missed 125 = .ok (.istore_n 3, 1) := by decide +kernel
theorem dX9_missed_126 : decode cX9_missed 126 = .ok (.iinc 5 1, 3) := by decide +kernel
theorem dX9_missed_129 : decode cX9_missed 129 = .ok (.goto (-96), 3) := by decide +kernel
theorem dX9_missed_132 : decode cX9_missed 132 = .ok (.iinc 4 1, 3) := by decide +kernel
theorem dX9_missed_135 : decode cX9_missed 135 = .ok (.goto (-114), 3) := by decide +kernel
theorem dX9_missed_138 : decode cX9_missed 138 = .ok (.iload_n 1, 1) := by decide +kernel
theorem dX9_missed_139 : decode cX9_missed 139 = .ok (.ifCond .ne 7, 3) := by decide +kernel
theorem dX9_missed_142 : decode cX9_missed 142 = .ok (.iload_n 2, 1) := by decide +kernel
theorem dX9_missed_143 : decode cX9_missed 143 = .ok (.goto 4, 3) := by decide +kernel
theorem dX9_missed_146 : decode cX9_missed 146 = .ok (.iload_n 3, 1) := by decide +kernel
theorem dX9_missed_147 : decode cX9_missed 147 = .ok (.ireturn, 1) := by decide +kernel
theorem dX9_see_0 : decode cX9_see 0 = .ok (.iload_n 1, 1) := by decide +kernel
theorem dX9_see_1 : decode cX9_see 1 = .ok (.iconst (-1), 1) := by decide +kernel
theorem dX9_see_2 : decode cX9_see 2 = .ok (.if_icmp .ne 10, 3) := by decide +kernel
theorem dX9_see_5 : decode cX9_see 5 = .ok (.aload_n 0, 1) := by decide +kernel
theorem dX9_see_6 : decode cX9_see 6 = .ok (.iconst 0, 1) := by decide +kernel
theorem dX9_see_7 : decode cX9_see 7 = .ok (.putfield 147, 3) := by decide +kernel
theorem dX9_see_10 : decode cX9_see 10 = .ok (.iconst 0, 1) := by decide +kernel
theorem dX9_see_11 : decode cX9_see 11 = .ok (.ireturn, 1) := by decide +kernel
theorem dX9_see_12 : decode cX9_see 12 = .ok (.aload_n 0, 1) := by decide +kernel
theorem dX9_see_13 : decode cX9_see 13 = .ok (.iload_n 1, 1) := by decide +kernel
theorem dX9_see_14 : decode cX9_see 14 = .ok (.iload_n 2, 1) := by decide +kernel
theorem dX9_see_15 : decode cX9_see 15 = .ok (.invokevirtual 120, 3) := by decide +kernel
theorem dX9_see_18 : decode cX9_see 18 = .ok (.ifCond .ne 5, 3) := by decide +kernel
theorem dX9_see_21 : decode cX9_see 21 = .ok (.iconst (-1), 1) := by decide +kernel
theorem dX9_see_22 : decode cX9_see 22 = .ok (.ireturn, 1) := by decide +kernel
theorem dX9_see_23 : decode cX9_see 23 = .ok (.iload_n 3, 1) := by decide +kernel
theorem dX9_see_24 : decode cX9_see 24 = .ok (.i2l, 1) := by decide +kernel
theorem dX9_see_25 : decode cX9_see 25 = .ok (.lconst 0, 1) := by decide +kernel
theorem dX9_see_26 : decode cX9_see 26 = .ok (.ldc2_w 176, 3) := by decide +kernel
theorem dX9_see_29 : decode cX9_see 29 = .ok (.invokestatic 116, 3) := by decide +kernel
theorem dX9_see_32 : decode cX9_see 32 = .ok (.ifCond .ne 6, 3) := by decide +kernel
theorem dX9_see_35 : decode cX9_see 35 = .ok (.bipush (-2), 2) := by decide +kernel
theorem dX9_see_37 : decode cX9_see 37 = .ok (.ireturn, 1) := by decide +kernel
theorem dX9_see_38 : decode cX9_see 38 = .ok (.aload_n 0, 1) := by decide +kernel
theorem dX9_see_39 : decode cX9_see 39 = .ok (.getfield 147, 3) := by decide +kernel
theorem dX9_see_42 : decode cX9_see 42 = .ok (.iconst 5, 1) := by decide +kernel
theorem dX9_see_43 : decode cX9_see 43 = .ok (.if_icmp .ne 6, 3) := by decide +kernel
theorem dX9_see_46 : decode cX9_see 46 = .ok (.bipush (-4), 2) := by decide +kernel
theorem dX9_see_48 : decode cX9_see 48 = .ok (.ireturn, 1) := by decide +kernel
theorem dX9_see_49 : decode cX9_see 49 = .ok (.aload_n 0, 1) := by decide +kernel
theorem dX9_see_50 : decode cX9_see 50 = .ok (.getfield 36, 3) := by decide +kernel
theorem dX9_see_53 : decode cX9_see 53 = .ok (.aload_n 0, 1) := by decide +kernel
theorem dX9_see_54 : decode cX9_see 54 = .ok (.getfield 147, 3) := by decide +kernel
theorem dX9_see_57 : decode cX9_see 57 = .ok (.bipush 6, 2) := by decide +kernel
theorem dX9_see_59 : decode cX9_see 59 = .ok (.iload_n 1, 1) := by decide +kernel
theorem dX9_see_60 : decode cX9_see 60 = .ok (.imul, 1) := by decide +kernel
theorem dX9_see_61 : decode cX9_see 61 = .ok (.iload_n 2, 1) := by decide +kernel
theorem dX9_see_62 : decode cX9_see 62 = .ok (.iadd, 1) := by decide +kernel
theorem dX9_see_63 : decode cX9_see 63 = .ok (.iastore, 1) := by decide +kernel
theorem dX9_see_64 : decode cX9_see 64 = .ok (.aload_n 0, 1) := by decide +kernel
theorem dX9_see_65 : decode cX9_see 65 = .ok (.getfield 39, 3) := by decide +kernel
theorem dX9_see_68 : decode cX9_see 68 = .ok (.aload_n 0, 1) := by decide +kernel
theorem dX9_see_69 : decode cX9_see 69 = .ok (.getfield 147, 3) := by decide +kernel
theorem dX9_see_72 : decode cX9_see 72 = .ok (.iload_n 3, 1) := by decide +kernel
theorem dX9_see_73 : decode cX9_see 73 = .ok (.iastore, 1) := by decide +kernel
theorem dX9_see_74 : decode cX9_see 74 = .ok (.aload_n 0, 1) := by decide +kernel
theorem dX9_see_75 : decode cX9_see 75 = .ok (.dup, 1) := by decide +kernel
theorem dX9_see_76 : decode cX9_see 76 = .ok (.getfield 147, 3) := by decide +kernel
theorem dX9_see_79 : decode cX9_see 79 = .ok (.iconst 1, 1) := by decide +kernel
theorem dX9_see_80 : decode cX9_see 80 = .ok (.iadd, 1) := by decide +kernel
theorem dX9_see_81 : decode cX9_see 81 = .ok (.putfield 147, 3) := by decide +kernel
theorem dX9_see_84 : decode cX9_see 84 = .ok (.aload_n 0, 1) := by decide +kernel
theorem dX9_see_85 : decode cX9_see 85 = .ok (.getfield 147, 3) := by decide +kernel
theorem dX9_see_88 : decode cX9_see 88 = .ok (.ireturn, 1) := by decide +kernel
theorem dX9_isAllSeen_0 : decode cX9_isAllSeen 0 = .ok (.iconst 0, 1) := by decide +kernel
theorem dX9_isAllSeen_1 : decode cX9_isAllSeen 1 = .ok (.istore_n 1, 1) := by decide +kernel
theorem dX9_isAllSeen_2 : decode cX9_isAllSeen 2 = .ok (.iload_n 1, 1) := by decide +kernel
theorem dX9_isAllSeen_3 : decode cX9_isAllSeen 3 = .ok (.aload_n 0, 1) := by decide +kernel
theorem dX9_isAllSeen_4 : decode cX9_isAllSeen 4 = .ok (.getfield 147, 3) := by decide +kernel
theorem dX9_isAllSeen_7 : decode cX9_isAllSeen 7 = .ok (.if_icmp .ge 31, 3) := by decide +kernel
theorem dX9_isAllSeen_10 : decode cX9_isAllSeen 10 = .ok (.aload_n 0, 1) := by decide +kernel
theorem dX9_isAllSeen_11 : decode cX9_isAllSeen 11 = .ok (.getfield 27, 3) := by decide +kernel
theorem dX9_isAllSeen_14 : decode cX9_isAllSeen 14 = .ok (.aload_n 0, 1) := by decide +kernel
theorem dX9_isAllSeen_15 : decode cX9_isAllSeen 15 = .ok (.getfield 36, 3) := by decide +kernel
theorem dX9_isAllSeen_18 : decode cX9_isAllSeen 18 = .ok (.iload_n 1, 1) := by decide +kernel
theorem dX9_isAllSeen_19 : decode cX9_isAllSeen 19 = .ok (.iaload, 1) := by decide +kernel
theorem dX9_isAllSeen_20 : decode cX9_isAllSeen 20 = .ok (.iaload, 1) := by decide +kernel
theorem dX9_isAllSeen_21 : decode cX9_isAllSeen 21 = .ok (.aload_n 0, 1) := by decide +kernel
theorem dX9_isAllSeen_22 : decode cX9_isAllSeen 22 = .ok (.getfield 39, 3) := by decide +kernel
theorem dX9_isAllSeen_25 : decode cX9_isAllSeen 25 = .ok (.iload_n 1, 1) := by decide +kernel
theorem dX9_isAllSeen_26 : decode cX9_isAllSeen 26 = .ok (.iaload, 1) := by decide +kernel
theorem dX9_isAllSeen_27 : decode cX9_isAllSeen 27 = .ok (.if_icmp .eq 5, 3) := by decide +kernel
theorem dX9_isAllSeen_30 : decode cX9_isAllSeen 30 = .ok (.iconst 0, 1) := by decide +kernel
theorem dX9_isAllSeen_31 : decode cX9_isAllSeen 31 = .ok (.ireturn, 1) := by decide +kernel
theorem dX9_isAllSeen_32 : decode cX9_isAllSeen 32 = .ok (.iinc 1 1, 3) := by decide +kernel
theorem dX9_isAllSeen_35 : decode cX9_isAllSeen 35 = .ok (.goto (-33), 3) := by decide +kernel
theorem dX9_isAllSeen_38 : decode cX9_isAllSeen 38 = .ok (.iconst 1, 1) := by decide +kernel
theorem dX9_isAllSeen_39 : decode cX9_isAllSeen 39 = .ok (.ireturn, 1) := by decide +kernel
theorem dX9_fits_0 : decode cX9_fits 0 = .ok (.aload_n 0, 1) := by decide +kernel
theorem dX9_fits_1 : decode cX9_fits 1 = .ok (.iload_n 1, 1) := by decide +kernel
theorem dX9_fits_2 : decode cX9_fits 2 = .ok (.iload_n 2, 1) := by decide +kernel
theorem dX9_fits_3 : decode cX9_fits 3 = .ok (.invokevirtual 120, 3) := by decide +kernel
theorem dX9_fits_6 : decode cX9_fits 6 = .ok (.ifCond .eq 13, 3) := by decide +kernel
theorem dX9_fits_9 : decode cX9_fits 9 = .ok (.iload_n 3, 1) := by decide +kernel
theorem dX9_fits_10 : decode cX9_fits 10 = .ok (.i2l, 1) := by decide +kernel
theorem dX9_fits_11 : decode cX9_fits 11 = .ok (.lconst 0, 1) := by decide +kernel
theorem dX9_fits_12 : decode cX9_fits 12 = .ok (.lconst 1, 1) := by decide +kernel
theorem dX9_fits_13 : decode cX9_fits 13 = .ok (.invokestatic 116, 3) := by decide +kernel
theorem dX9_fits_16 : decode cX9_fits 16 = .ok (.ifCond .ne 5, 3) := by decide +kernel
theorem dX9_fits_19 : decode cX9_fits 19 = .ok (.iconst (-1), 1) := by decide +kernel
theorem dX9_fits_20 : decode cX9_fits 20 = .ok (.ireturn, 1) := by decide +kernel
theorem dX9_fits_21 : decode cX9_fits 21 = .ok (.aload_n 0, 1) := by decide +kernel
theorem dX9_fits_22 : decode cX9_fits 22 = .ok (.getfield 21, 3) := by decide +kernel
theorem dX9_fits_25 : decode cX9_fits 25 = .ok (.iconst 5, 1) := by decide +kernel
theorem dX9_fits_26 : decode cX9_fits 26 = .ok (.iload_n 1, 1) := by decide +kernel
theorem dX9_fits_27 : decode cX9_fits 27 = .ok (.imul, 1) := by decide +kernel
theorem dX9_fits_28 : decode cX9_fits 28 = .ok (.iload_n 2, 1) := by decide +kernel
theorem dX9_fits_29 : decode cX9_fits 29 = .ok (.iadd, 1) := by decide +kernel
theorem dX9_fits_30 : decode cX9_fits 30 = .ok (.iaload, 1) := by decide +kernel
theorem dX9_fits_31 : decode cX9_fits 31 = .ok (.istore 4, 2) := by decide +kernel
theorem dX9_fits_33 : decode cX9_fits 33 = .ok (.iconst 0, 1) := by decide +kernel
theorem dX9_fits_34 : decode cX9_fits 34 = .ok (.istore 5, 2) := by decide +kernel
theorem dX9_fits_36 : decode cX9_fits 36 = .ok (.bipush (-5), 2) := by decide +kernel
theorem dX9_fits_38 : decode cX9_fits 38 = .ok (.istore 6, 2) := by decide +kernel
theorem dX9_fits_40 : decode cX9_fits 40 = .ok (.aload_n 0, 1) := by decide +kernel
theorem dX9_fits_41 : decode cX9_fits 41 = .ok (.invokevirtual 338, 3) := by decide +kernel
theorem dX9_fits_44 : decode cX9_fits 44 = .ok (.bipush 30, 2) := by decide +kernel
theorem dX9_fits_46 : decode cX9_fits 46 = .ok (.istore 7, 2) := by decide +kernel
theorem dX9_fits_48 : decode cX9_fits 48 = .ok (.iload 7, 2) := by decide +kernel
theorem dX9_fits_50 : decode cX9_fits 50 = .ok (.ifCond .lt 44, 3) := by decide +kernel
theorem dX9_fits_53 : decode cX9_fits 53 = .ok (.aload_n 0, 1) := by decide +kernel
theorem dX9_fits_54 : decode cX9_fits 54 = .ok (.getfield 21, 3) := by decide +kernel
theorem dX9_fits_57 : decode cX9_fits 57 = .ok (.iconst 5, 1) := by decide +kernel
theorem dX9_fits_58 : decode cX9_fits 58 = .ok (.iload_n 1, 1) := by decide +kernel
theorem dX9_fits_59 : decode cX9_fits 59 = .ok (.imul, 1) := by decide +kernel
theorem dX9_fits_60 : decode cX9_fits 60 = .ok (.iload_n 2, 1) := by decide +kernel
theorem dX9_fits_61 : decode cX9_fits 61 = .ok (.iadd, 1) := by decide +kernel
theorem dX9_fits_62 : decode cX9_fits 62 = .ok (.iload 7, 2) := by decide +kernel
theorem dX9_fits_64 : decode cX9_fits 64 = .ok (.iastore, 1) := by decide +kernel
theorem dX9_fits_65 : decode cX9_fits 65 = .ok (.aload_n 0, 1) := by decide +kernel
theorem dX9_fits_66 : decode cX9_fits 66 = .ok (.iconst 1, 1) := by decide +kernel
theorem dX9_fits_67 : decode cX9_fits 67 = .ok (.iconst 1, 1) := by decide +kernel
theorem dX9_fits_68 : decode cX9_fits 68 = .ok (.invokevirtual 341, 3) := by decide +kernel
theorem dX9_fits_71 : decode cX9_fits 71 = .ok (.ifCond .lt 17, 3) := by decide +kernel
theorem dX9_fits_74 : decode cX9_fits 74 = .ok (.aload_n 0, 1) := by decide +kernel
theorem dX9_fits_75 : decode cX9_fits 75 = .ok (.invokevirtual 362, 3) := by decide +kernel
theorem dX9_fits_78 : decode cX9_fits 78 = .ok (.ifCond .eq 10, 3) := by decide +kernel
theorem dX9_fits_81 : decode cX9_fits 81 = .ok (.iinc 5 1, 3) := by decide +kernel
theorem dX9_fits_84 : decode cX9_fits 84 = .ok (.iload 7, 2) := by decide +kernel
theorem dX9_fits_86 : decode cX9_fits 86 = .ok (.istore 6, 2) := by decide +kernel
theorem dX9_fits_88 : decode cX9_fits 88 = .ok (.iinc 7 (-1), 3) := by decide +kernel
theorem dX9_fits_91 : decode cX9_fits 91 = .ok (.goto (-43), 3) := by decide +kernel
theorem dX9_fits_94 : decode cX9_fits 94 = .ok (.aload_n 0, 1) := by decide +kernel
theorem dX9_fits_95 : decode cX9_fits 95 = .ok (.invokevirtual 344, 3) := by decide +kernel
theorem dX9_fits_98 : decode cX9_fits 98 = .ok (.aload_n 0, 1) := by decide +kernel
theorem dX9_fits_99 : decode cX9_fits 99 = .ok (.getfield 21, 3) := by decide +kernel
theorem dX9_fits_102 : decode cX9_fits 102 = .ok (.iconst 5, 1) := by decide +kernel
theorem dX9_fits_103 : decode cX9_fits 103 = .ok (.iload_n 1, 1) := by decide +kernel
theorem dX9_fits_104 : decode cX9_fits 104 = .ok (.imul, 1) := by decide +kernel
theorem dX9_fits_105 : decode cX9_fits 105 = .ok (.iload_n 2, 1) := by decide +kernel
theorem dX9_fits_106 : decode cX9_fits 106 = .ok (.iadd, 1) := by decide +kernel
theorem dX9_fits_107 : decode cX9_fits 107 = .ok (.iload 4, 2) := by decide +kernel
theorem dX9_fits_109 : decode cX9_fits 109 = .ok (.iastore, 1) := by decide +kernel
theorem dX9_fits_110 : decode cX9_fits 110 = .ok (.iload_n 3, 1) := by decide +kernel
theorem dX9_fits_111 : decode cX9_fits 111 = .ok (.ifCond .ne 8, 3) := by decide +kernel
theorem dX9_fits_114 : decode cX9_fits 114 = .ok (.iload 5, 2) := by decide +kernel
theorem dX9_fits_116 : decode cX9_fits 116 = .ok (.goto 5, 3) := by decide +kernel
theorem dX9_fits_119 : decode cX9_fits 119 = .ok (.iload 6, 2) := by decide +kernel
theorem dX9_fits_121 : decode cX9_fits 121 = .ok (.ireturn, 1) := by decide +kernel
theorem dX9_lowest_0 : decode cX9_lowest 0 = .ok (.lload_n 0, 1) := by decide +kernel
theorem dX9_lowest_1 : decode cX9_lowest 1 = .ok (.lstore 5, 2) := by decide +kernel
theorem dX9_lowest_3 : decode cX9_lowest 3 = .ok (.lload_n 2, 1) := by decide +kernel
theorem dX9_lowest_4 : decode cX9_lowest 4 = .ok (.lstore 7, 2) := by decide +kernel
theorem dX9_lowest_6 : decode cX9_lowest 6 = .ok (.lload 7, 2) := by decide +kernel
theorem dX9_lowest_8 : decode cX9_lowest 8 = .ok (.lconst 0, 1) := by decide +kernel
theorem dX9_lowest_9 : decode cX9_lowest 9 = .ok (.lcmp, 1) := by decide +kernel
theorem dX9_lowest_10 : decode cX9_lowest 10 = .ok (.ifCond .eq 21, 3) := by decide +kernel
theorem dX9_lowest_13 : decode cX9_lowest 13 = .ok (.lload 5, 2) := by decide +kernel
theorem dX9_lowest_15 : decode cX9_lowest 15 = .ok (.lload 7, 2) := by decide +kernel
theorem dX9_lowest_17 : decode cX9_lowest 17 = .ok (.lrem, 1) := by decide +kernel
theorem dX9_lowest_18 : decode cX9_lowest 18 = .ok (.lstore 9, 2) := by decide +kernel
theorem dX9_lowest_20 : decode cX9_lowest 20 = .ok (.lload 7, 2) := by decide +kernel
theorem dX9_lowest_22 : decode cX9_lowest 22 = .ok (.lstore 5, 2) := by decide +kernel
theorem dX9_lowest_24 : decode cX9_lowest 24 = .ok (.lload 9, 2) := by decide +kernel
theorem dX9_lowest_26 : decode cX9_lowest 26 = .ok (.lstore 7, 2) := by decide +kernel
theorem dX9_lowest_28 : decode cX9_lowest 28 = .ok (.goto (-22), 3) := by decide +kernel
theorem dX9_lowest_31 : decode cX9_lowest 31 = .ok (.iload 4, 2) := by decide +kernel
theorem dX9_lowest_33 : decode cX9_lowest 33 = .ok (.ifCond .ne 7, 3) := by decide +kernel
theorem dX9_lowest_36 : decode cX9_lowest 36 = .ok (.lload_n 0, 1) := by decide +kernel
theorem dX9_lowest_37 : decode cX9_lowest 37 = .ok (.goto 4, 3) := by decide +kernel
theorem dX9_lowest_40 : decode cX9_lowest 40 = .ok (.lload_n 2, 1) := by decide +kernel
theorem dX9_lowest_41 : decode cX9_lowest 41 = .ok (.lload 5, 2) := by decide +kernel
theorem dX9_lowest_43 : decode cX9_lowest 43 = .ok (.ldiv, 1) := by decide +kernel
theorem dX9_lowest_44 : decode cX9_lowest 44 = .ok (.lreturn, 1) := by decide +kernel
theorem dX9_odds_0 : decode cX9_odds 0 = .ok (.aload_n 0, 1) := by decide +kernel
theorem dX9_odds_1 : decode cX9_odds 1 = .ok (.iload_n 1, 1) := by decide +kernel
theorem dX9_odds_2 : decode cX9_odds 2 = .ok (.iload_n 2, 1) := by decide +kernel
theorem dX9_odds_3 : decode cX9_odds 3 = .ok (.invokevirtual 120, 3) := by decide +kernel
theorem dX9_odds_6 : decode cX9_odds 6 = .ok (.ifCond .eq 13, 3) := by decide +kernel
theorem dX9_odds_9 : decode cX9_odds 9 = .ok (.iload_n 3, 1) := by decide +kernel
theorem dX9_odds_10 : decode cX9_odds 10 = .ok (.i2l, 1) := by decide +kernel
theorem dX9_odds_11 : decode cX9_odds 11 = .ok (.lconst 0, 1) := by decide +kernel
theorem dX9_odds_12 : decode cX9_odds 12 = .ok (.lconst 1, 1) := by decide +kernel
theorem dX9_odds_13 : decode cX9_odds 13 = .ok (.invokestatic 116, 3) := by decide +kernel
theorem dX9_odds_16 : decode cX9_odds 16 = .ok (.ifCond .ne 7, 3) := by decide +kernel
theorem dX9_odds_19 : decode cX9_odds 19 = .ok (.ldc2_w 332, 3) := by decide +kernel
theorem dX9_odds_22 : decode cX9_odds 22 = .ok (.lreturn, 1) := by decide +kernel
theorem dX9_odds_23 : decode cX9_odds 23 = .ok (.aload_n 0, 1) := by decide +kernel
theorem dX9_odds_24 : decode cX9_odds 24 = .ok (.getfield 21, 3) := by decide +kernel
theorem dX9_odds_27 : decode cX9_odds 27 = .ok (.iconst 5, 1) := by decide +kernel
theorem dX9_odds_28 : decode cX9_odds 28 = .ok (.iload_n 1, 1) := by decide +kernel
theorem dX9_odds_29 : decode cX9_odds 29 = .ok (.imul, 1) := by decide +kernel
theorem dX9_odds_30 : decode cX9_odds 30 = .ok (.iload_n 2, 1) := by decide +kernel
theorem dX9_odds_31 : decode cX9_odds 31 = .ok (.iadd, 1) := by decide +kernel
theorem dX9_odds_32 : decode cX9_odds 32 = .ok (.iaload, 1) := by decide +kernel
theorem dX9_odds_33 : decode cX9_odds 33 = .ok (.istore 4, 2) := by decide +kernel
theorem dX9_odds_35 : decode cX9_odds 35 = .ok (.iconst 0, 1) := by decide +kernel
theorem dX9_odds_36 : decode cX9_odds 36 = .ok (.istore 5, 2) := by decide +kernel
theorem dX9_odds_38 : decode cX9_odds 38 = .ok (.aload_n 0, 1) := by decide +kernel
theorem dX9_odds_39 : decode cX9_odds 39 = .ok (.invokevirtual 338, 3) := by decide +kernel
theorem dX9_odds_42 : decode cX9_odds 42 = .ok (.iconst 0, 1) := by decide +kernel
theorem dX9_odds_43 : decode cX9_odds 43 = .ok (.istore 6, 2) := by decide +kernel
theorem dX9_odds_45 : decode cX9_odds 45 = .ok (.iload 6, 2) := by decide +kernel
theorem dX9_odds_47 : decode cX9_odds 47 = .ok (.bipush 100, 2) := by decide +kernel
theorem dX9_odds_49 : decode cX9_odds 49 = .ok (.if_icmp .ge 54, 3) := by decide +kernel
theorem dX9_odds_52 : decode cX9_odds 52 = .ok (.aload_n 0, 1) := by decide +kernel
theorem dX9_odds_53 : decode cX9_odds 53 = .ok (.getfield 21, 3) := by decide +kernel
theorem dX9_odds_56 : decode cX9_odds 56 = .ok (.iconst 5, 1) := by decide +kernel
theorem dX9_odds_57 : decode cX9_odds 57 = .ok (.iload_n 1, 1) := by decide +kernel
theorem dX9_odds_58 : decode cX9_odds 58 = .ok (.imul, 1) := by decide +kernel
theorem dX9_odds_59 : decode cX9_odds 59 = .ok (.iload_n 2, 1) := by decide +kernel
theorem dX9_odds_60 : decode cX9_odds 60 = .ok (.iadd, 1) := by decide +kernel
theorem dX9_odds_61 : decode cX9_odds 61 = .ok (.iload 6, 2) := by decide +kernel
theorem dX9_odds_63 : decode cX9_odds 63 = .ok (.iastore, 1) := by decide +kernel
theorem dX9_odds_64 : decode cX9_odds 64 = .ok (.iload 5, 2) := by decide +kernel
theorem dX9_odds_66 : decode cX9_odds 66 = .ok (.aload_n 0, 1) := by decide +kernel
theorem dX9_odds_67 : decode cX9_odds 67 = .ok (.iconst 1, 1) := by decide +kernel
theorem dX9_odds_68 : decode cX9_odds 68 = .ok (.iconst 1, 1) := by decide +kernel
theorem dX9_odds_69 : decode cX9_odds 69 = .ok (.invokevirtual 341, 3) := by decide +kernel
theorem dX9_odds_72 : decode cX9_odds 72 = .ok (.ifCond .lt 21, 3) := by decide +kernel
theorem dX9_odds_75 : decode cX9_odds 75 = .ok (.aload_n 0, 1) := by decide +kernel
theorem dX9_odds_76 : decode cX9_odds 76 = .ok (.getfield 27, 3) := by decide +kernel
theorem dX9_odds_79 : decode cX9_odds 79 = .ok (.bipush 6, 2) := by decide +kernel
theorem dX9_odds_81 : decode cX9_odds 81 = .ok (.iload_n 1, 1) := by decide +kernel
theorem dX9_odds_82 : decode cX9_odds 82 = .ok (.imul, 1) := by decide +kernel
theorem dX9_odds_83 : decode cX9_odds 83 = .ok (.iload_n 2, 1) := by decide +kernel
theorem dX9_odds_84 : decode cX9_odds 84 = .ok (.iadd, 1) := by decide +kernel
theorem dX9_odds_85 : decode cX9_odds 85 = .ok (.iaload, 1) := by decide +kernel
theorem dX9_odds_86 : decode cX9_odds 86 = .ok (.ifCond .le 7, 3) := by decide +kernel
theorem dX9_odds_89 : decode cX9_odds 89 = .ok (.iconst 1, 1) := by decide +kernel
theorem dX9_odds_90 : decode cX9_odds 90 = .ok (.goto 4, 3) := by decide +kernel
theorem dX9_odds_93 : decode cX9_odds 93 = .ok (.iconst 0, 1) := by decide +kernel
theorem dX9_odds_94 : decode cX9_odds 94 = .ok (.iadd, 1) := by decide +kernel
theorem dX9_odds_95 : decode cX9_odds 95 = .ok (.istore 5, 2) := by decide +kernel
theorem dX9_odds_97 : decode cX9_odds 97 = .ok (.iinc 6 10, 3) := by decide +kernel
theorem dX9_odds_100 : decode cX9_odds 100 = .ok (.goto (-55), 3) := by decide +kernel
theorem dX9_odds_103 : decode cX9_odds 103 = .ok (.aload_n 0, 1) := by decide +kernel
theorem dX9_odds_104 : decode cX9_odds 104 = .ok (.invokevirtual 344, 3) := by decide +kernel
theorem dX9_odds_107 : decode cX9_odds 107 = .ok (.aload_n 0, 1) := by decide +kernel
theorem dX9_odds_108 : decode cX9_odds 108 = .ok (.getfield 21, 3) := by decide +kernel
theorem dX9_odds_111 : decode cX9_odds 111 = .ok (.iconst 5, 1) := by decide +kernel
theorem dX9_odds_112 : decode cX9_odds 112 = .ok (.iload_n 1, 1) := by decide +kernel
theorem dX9_odds_113 : decode cX9_odds 113 = .ok (.imul, 1) := by decide +kernel
theorem dX9_odds_114 : decode cX9_odds 114 = .ok (.iload_n 2, 1) := by decide +kernel
theorem dX9_odds_115 : decode cX9_odds 115 = .ok (.iadd, 1) := by decide +kernel
theorem dX9_odds_116 : decode cX9_odds 116 = .ok (.iload 4, 2) := by decide +kernel
theorem dX9_odds_118 : decode cX9_odds 118 = .ok (.iastore, 1) := by decide +kernel
theorem dX9_odds_119 : decode cX9_odds 119 = .ok (.iload 5, 2) := by decide +kernel
theorem dX9_odds_121 : decode cX9_odds 121 = .ok (.i2l, 1) := by decide +kernel
theorem dX9_odds_122 : decode cX9_odds 122 = .ok (.ldc2_w 365, 3) := by decide +kernel
theorem dX9_odds_125 : decode cX9_odds 125 = .ok (.iload_n 3, 1) := by decide +kernel
theorem dX9_odds_126 : decode cX9_odds 126 = .ok (.invokestatic 367, 3) := by decide +kernel
theorem dX9_odds_129 : decode cX9_odds 129 = .ok (.lreturn, 1) := by decide +kernel
theorem dX9_mean_0 : decode cX9_mean 0 = .ok (.iconst 0, 1) := by decide +kernel
theorem dX9_mean_1 : decode cX9_mean 1 = .ok (.istore_n 2, 1) := by decide +kernel
theorem dX9_mean_2 : decode cX9_mean 2 = .ok (.iconst 0, 1) := by decide +kernel
theorem dX9_mean_3 : decode cX9_mean 3 = .ok (.istore_n 3, 1) := by decide +kernel
theorem dX9_mean_4 : decode cX9_mean 4 = .ok (.iload_n 3, 1) := by decide +kernel
theorem dX9_mean_5 : decode cX9_mean 5 = .ok (.bipush 36, 2) := by decide +kernel
theorem dX9_mean_7 : decode cX9_mean 7 = .ok (.if_icmp .ge 18, 3) := by decide +kernel
theorem dX9_mean_10 : decode cX9_mean 10 = .ok (.iload_n 2, 1) := by decide +kernel
theorem dX9_mean_11 : decode cX9_mean 11 = .ok (.aload_n 0, 1) := by decide +kernel
theorem dX9_mean_12 : decode cX9_mean 12 = .ok (.getfield 27, 3) := by decide +kernel
theorem dX9_mean_15 : decode cX9_mean 15 = .ok (.iload_n 3, 1) := by decide +kernel
theorem dX9_mean_16 : decode cX9_mean 16 = .ok (.iaload, 1) := by decide +kernel
theorem dX9_mean_17 : decode cX9_mean 17 = .ok (.iadd, 1) := by decide +kernel
theorem dX9_mean_18 : decode cX9_mean 18 = .ok (.istore_n 2, 1) := by decide +kernel
theorem dX9_mean_19 : decode cX9_mean 19 = .ok (.iinc 3 1, 3) := by decide +kernel
theorem dX9_mean_22 : decode cX9_mean 22 = .ok (.goto (-18), 3) := by decide +kernel
theorem dX9_mean_25 : decode cX9_mean 25 = .ok (.aload_n 0, 1) := by decide +kernel
theorem dX9_mean_26 : decode cX9_mean 26 = .ok (.getfield 141, 3) := by decide +kernel
theorem dX9_mean_29 : decode cX9_mean 29 = .ok (.iconst 1, 1) := by decide +kernel
theorem dX9_mean_30 : decode cX9_mean 30 = .ok (.if_icmp .ne 31, 3) := by decide +kernel
theorem dX9_mean_33 : decode cX9_mean 33 = .ok (.iload_n 2, 1) := by decide +kernel
theorem dX9_mean_34 : decode cX9_mean 34 = .ok (.ifCond .le 27, 3) := by decide +kernel
theorem dX9_mean_37 : decode cX9_mean 37 = .ok (.iload_n 1, 1) := by decide +kernel
theorem dX9_mean_38 : decode cX9_mean 38 = .ok (.i2l, 1) := by decide +kernel
theorem dX9_mean_39 : decode cX9_mean 39 = .ok (.lconst 0, 1) := by decide +kernel
theorem dX9_mean_40 : decode cX9_mean 40 = .ok (.lconst 1, 1) := by decide +kernel
theorem dX9_mean_41 : decode cX9_mean 41 = .ok (.invokestatic 116, 3) := by decide +kernel
theorem dX9_mean_44 : decode cX9_mean 44 = .ok (.ifCond .eq 17, 3) := by decide +kernel
theorem dX9_mean_47 : decode cX9_mean 47 = .ok (.aload_n 0, 1) := by decide +kernel
theorem dX9_mean_48 : decode cX9_mean 48 = .ok (.invokevirtual 281, 3) := by decide +kernel
theorem dX9_mean_51 : decode cX9_mean 51 = .ok (.i2l, 1) := by decide +kernel
theorem dX9_mean_52 : decode cX9_mean 52 = .ok (.iload_n 2, 1) := by decide +kernel
theorem dX9_mean_53 : decode cX9_mean 53 = .ok (.i2l, 1) := by decide +kernel
theorem dX9_mean_54 : decode cX9_mean 54 = .ok (.iload_n 1, 1) := by decide +kernel
theorem dX9_mean_55 : decode cX9_mean 55 = .ok (.invokestatic 367, 3) := by decide +kernel
theorem dX9_mean_58 : decode cX9_mean 58 = .ok (.goto 6, 3) := by decide +kernel
theorem dX9_mean_61 : decode cX9_mean 61 = .ok (.ldc2_w 332, 3) := by decide +kernel
theorem dX9_mean_64 : decode cX9_mean 64 = .ok (.lreturn, 1) := by decide +kernel
theorem dX9_order_0 : decode cX9_order 0 = .ok (.iload_n 1, 1) := by decide +kernel
theorem dX9_order_1 : decode cX9_order 1 = .ok (.iconst (-1), 1) := by decide +kernel
theorem dX9_order_2 : decode cX9_order 2 = .ok (.if_icmp .ne 10, 3) := by decide +kernel
theorem dX9_order_5 : decode cX9_order 5 = .ok (.aload_n 0, 1) := by decide +kernel
theorem dX9_order_6 : decode cX9_order 6 = .ok (.iconst 0, 1) := by decide +kernel
theorem dX9_order_7 : decode cX9_order 7 = .ok (.putfield 150, 3) := by decide +kernel
theorem dX9_order_10 : decode cX9_order 10 = .ok (.iconst 0, 1) := by decide +kernel
theorem dX9_order_11 : decode cX9_order 11 = .ok (.ireturn, 1) := by decide +kernel
theorem dX9_order_12 : decode cX9_order 12 = .ok (.iload_n 1, 1) := by decide +kernel
theorem dX9_order_13 : decode cX9_order 13 = .ok (.i2l, 1) := by decide +kernel
theorem dX9_order_14 : decode cX9_order 14 = .ok (.lconst 0, 1) := by decide +kernel
theorem dX9_order_15 : decode cX9_order 15 = .ok (.ldc2_w 194, 3) := by decide +kernel
theorem dX9_order_18 : decode cX9_order 18 = .ok (.invokestatic 116, 3) := by decide +kernel
theorem dX9_order_21 : decode cX9_order 21 = .ok (.ifCond .eq 45, 3) := by decide +kernel
theorem dX9_order_24 : decode cX9_order 24 = .ok (.iload_n 1, 1) := by decide +kernel
theorem dX9_order_25 : decode cX9_order 25 = .ok (.iconst 2, 1) := by decide +kernel
theorem dX9_order_26 : decode cX9_order 26 = .ok (.if_icmp .ne 14, 3) := by decide +kernel
theorem dX9_order_29 : decode cX9_order 29 = .ok (.aload_n 0, 1) := by decide +kernel
theorem dX9_order_30 : decode cX9_order 30 = .ok (.iload_n 2, 1) := by decide +kernel
theorem dX9_order_31 : decode cX9_order 31 = .ok (.invokevirtual 371, 3) := by decide +kernel
theorem dX9_order_34 : decode cX9_order 34 = .ok (.ifCond .eq 32, 3) := by decide +kernel
theorem dX9_order_37 : decode cX9_order 37 = .ok (.goto 31, 3) := by decide +kernel
theorem dX9_order_40 : decode cX9_order 40 = .ok (.iload_n 2, 1) := by decide +kernel
theorem dX9_order_41 : decode cX9_order 41 = .ok (.i2l, 1) := by decide +kernel
theorem dX9_order_42 : decode cX9_order 42 = .ok (.lconst 0, 1) := by decide +kernel
theorem dX9_order_43 : decode cX9_order 43 = .ok (.aload_n 0, 1) := by decide +kernel
theorem dX9_order_44 : decode cX9_order 44 = .ok (.iload_n 1, 1) := by decide +kernel
theorem dX9_order_45 : decode cX9_order 45 = .ok (.iconst 1, 1) := by decide +kernel
theorem dX9_order_46 : decode cX9_order 46 = .ok (.if_icmp .ne 7, 3) := by decide +kernel
theorem dX9_order_49 : decode cX9_order 49 = .ok (.iconst 1, 1) := by decide +kernel
theorem dX9_order_50 : decode cX9_order 50 = .ok (.goto 4, 3) := by decide +kernel
theorem dX9_order_53 : decode cX9_order 53 = .ok (.iconst 0, 1) := by decide +kernel
theorem dX9_order_54 : decode cX9_order 54 = .ok (.invokevirtual 180, 3) := by decide +kernel
theorem dX9_order_57 : decode cX9_order 57 = .ok (.iconst 1, 1) := by decide +kernel
theorem dX9_order_58 : decode cX9_order 58 = .ok (.isub, 1) := by decide +kernel
theorem dX9_order_59 : decode cX9_order 59 = .ok (.i2l, 1) := by decide +kernel
theorem dX9_order_60 : decode cX9_order 60 = .ok (.invokestatic 116, 3) := by decide +kernel
theorem dX9_order_63 : decode cX9_order 63 = .ok (.ifCond .ne 5, 3) := by decide +kernel
theorem dX9_order_66 : decode cX9_order 66 = .ok (.iconst (-1), 1) := by decide +kernel
theorem dX9_order_67 : decode cX9_order 67 = .ok (.ireturn, 1) := by decide +kernel
theorem dX9_order_68 : decode cX9_order 68 = .ok (.aload_n 0, 1) := by decide +kernel
theorem dX9_order_69 : decode cX9_order 69 = .ok (.getfield 150, 3) := by decide +kernel
theorem dX9_order_72 : decode cX9_order 72 = .ok (.bipush 8, 2) := by decide +kernel
theorem dX9_order_74 : decode cX9_order 74 = .ok (.if_icmp .ne 6, 3) := by decide +kernel
theorem dX9_order_77 : decode cX9_order 77 = .ok (.bipush (-4), 2) := by decide +kernel
theorem dX9_order_79 : decode cX9_order 79 = .ok (.ireturn, 1) := by decide +kernel
theorem dX9_order_80 : decode cX9_order 80 = .ok (.aload_n 0, 1) := by decide +kernel
theorem dX9_order_81 : decode cX9_order 81 = .ok (.getfield 42, 3) := by decide +kernel
theorem dX9_order_84 : decode cX9_order 84 = .ok (.aload_n 0, 1) := by decide +kernel
theorem dX9_order_85 : decode cX9_order 85 = .ok (.getfield 150, 3) := by decide +kernel
theorem dX9_order_88 : decode cX9_order 88 = .ok (.iload_n 1, 1) := by decide +kernel
theorem dX9_order_89 : decode cX9_order 89 = .ok (.iastore, 1) := by decide +kernel
theorem dX9_order_90 : decode cX9_order 90 = .ok (.aload_n 0, 1) := by decide +kernel
theorem dX9_order_91 : decode cX9_order 91 = .ok (.getfield 45, 3) := by decide +kernel
theorem dX9_order_94 : decode cX9_order 94 = .ok (.aload_n 0, 1) := by decide +kernel
theorem dX9_order_95 : decode cX9_order 95 = .ok (.getfield 150, 3) := by decide +kernel
theorem dX9_order_98 : decode cX9_order 98 = .ok (.iload_n 2, 1) := by decide +kernel
theorem dX9_order_99 : decode cX9_order 99 = .ok (.iastore, 1) := by decide +kernel
theorem dX9_order_100 : decode cX9_order 100 = .ok (.aload_n 0, 1) := by decide +kernel
theorem dX9_order_101 : decode cX9_order 101 = .ok (.dup, 1) := by decide +kernel
theorem dX9_order_102 : decode cX9_order 102 = .ok (.getfield 150, 3) := by decide +kernel
theorem dX9_order_105 : decode cX9_order 105 = .ok (.iconst 1, 1) := by decide +kernel
theorem dX9_order_106 : decode cX9_order 106 = .ok (.iadd, 1) := by decide +kernel
theorem dX9_order_107 : decode cX9_order 107 = .ok (.putfield 150, 3) := by decide +kernel
theorem dX9_order_110 : decode cX9_order 110 = .ok (.aload_n 0, 1) := by decide +kernel
theorem dX9_order_111 : decode cX9_order 111 = .ok (.getfield 150, 3) := by decide +kernel
theorem dX9_order_114 : decode cX9_order 114 = .ok (.ireturn, 1) := by decide +kernel
theorem dX9_copies_0 : decode cX9_copies 0 = .ok (.iconst 0, 1) := by decide +kernel
theorem dX9_copies_1 : decode cX9_copies 1 = .ok (.istore_n 2, 1) := by decide +kernel
theorem dX9_copies_2 : decode cX9_copies 2 = .ok (.iload_n 2, 1) := by decide +kernel
theorem dX9_copies_3 : decode cX9_copies 3 = .ok (.aload_n 0, 1) := by decide +kernel
theorem dX9_copies_4 : decode cX9_copies 4 = .ok (.arraylength, 1) := by decide +kernel
theorem dX9_copies_5 : decode cX9_copies 5 = .ok (.if_icmp .ge 15, 3) := by decide +kernel
theorem dX9_copies_8 : decode cX9_copies 8 = .ok (.aload_n 1, 1) := by decide +kernel
theorem dX9_copies_9 : decode cX9_copies 9 = .ok (.iload_n 2, 1) := by decide +kernel
theorem dX9_copies_10 : decode cX9_copies 10 = .ok (.aload_n 0, 1) := by decide +kernel
theorem dX9_copies_11 : decode cX9_copies 11 = .ok (.iload_n 2, 1) := by decide +kernel
theorem dX9_copies_12 : decode cX9_copies 12 = .ok (.iaload, 1) := by decide +kernel
theorem dX9_copies_13 : decode cX9_copies 13 = .ok (.iastore, 1) := by decide +kernel
theorem dX9_copies_14 : decode cX9_copies 14 = .ok (.iinc 2 1, 3) := by decide +kernel
theorem dX9_copies_17 : decode cX9_copies 17 = .ok (.goto (-15), 3) := by decide +kernel
theorem dX9_copies_20 : decode cX9_copies 20 = .ok (.return_, 1) := by decide +kernel
theorem dX9_happens_0 : decode cX9_happens 0 = .ok (.iload_n 1, 1) := by decide +kernel
theorem dX9_happens_1 : decode cX9_happens 1 = .ok (.iconst 2, 1) := by decide +kernel
theorem dX9_happens_2 : decode cX9_happens 2 = .ok (.if_icmp .ge 33, 3) := by decide +kernel
theorem dX9_happens_5 : decode cX9_happens 5 = .ok (.aload_n 0, 1) := by decide +kernel
theorem dX9_happens_6 : decode cX9_happens 6 = .ok (.getfield 11, 3) := by decide +kernel
theorem dX9_happens_9 : decode cX9_happens 9 = .ok (.iconst 5, 1) := by decide +kernel
theorem dX9_happens_10 : decode cX9_happens 10 = .ok (.iload_n 1, 1) := by decide +kernel
theorem dX9_happens_11 : decode cX9_happens 11 = .ok (.imul, 1) := by decide +kernel
theorem dX9_happens_12 : decode cX9_happens 12 = .ok (.iload_n 2, 1) := by decide +kernel
theorem dX9_happens_13 : decode cX9_happens 13 = .ok (.iadd, 1) := by decide +kernel
theorem dX9_happens_14 : decode cX9_happens 14 = .ok (.bipush 99, 2) := by decide +kernel
theorem dX9_happens_16 : decode cX9_happens 16 = .ok (.aload_n 0, 1) := by decide +kernel
theorem dX9_happens_17 : decode cX9_happens 17 = .ok (.getfield 11, 3) := by decide +kernel
theorem dX9_happens_20 : decode cX9_happens 20 = .ok (.iconst 5, 1) := by decide +kernel
theorem dX9_happens_21 : decode cX9_happens 21 = .ok (.iload_n 1, 1) := by decide +kernel
theorem dX9_happens_22 : decode cX9_happens 22 = .ok (.imul, 1) := by decide +kernel
theorem dX9_happens_23 : decode cX9_happens 23 = .ok (.iload_n 2, 1) := by decide +kernel
theorem dX9_happens_24 : decode cX9_happens 24 = .ok (.iadd, 1) := by decide +kernel
theorem dX9_happens_25 : decode cX9_happens 25 = .ok (.iaload, 1) := by decide +kernel
theorem dX9_happens_26 : decode cX9_happens 26 = .ok (.iconst 1, 1) := by decide +kernel
theorem dX9_happens_27 : decode cX9_happens 27 = .ok (.iadd, 1) := by decide +kernel
theorem dX9_happens_28 : decode cX9_happens 28 = .ok (.invokestatic 272, 3) := by decide +kernel
theorem dX9_happens_31 : decode cX9_happens 31 = .ok (.iastore, 1) := by decide +kernel
theorem dX9_happens_32 : decode cX9_happens 32 = .ok (.goto 35, 3) := by decide +kernel
theorem dX9_happens_35 : decode cX9_happens 35 = .ok (.iload_n 1, 1) := by decide +kernel
theorem dX9_happens_36 : decode cX9_happens 36 = .ok (.iconst 2, 1) := by decide +kernel
theorem dX9_happens_37 : decode cX9_happens 37 = .ok (.if_icmp .ne 23, 3) := by decide +kernel
theorem dX9_happens_40 : decode cX9_happens 40 = .ok (.aload_n 0, 1) := by decide +kernel
theorem dX9_happens_41 : decode cX9_happens 41 = .ok (.getfield 18, 3) := by decide +kernel
theorem dX9_happens_44 : decode cX9_happens 44 = .ok (.iconst 5, 1) := by decide +kernel
theorem dX9_happens_45 : decode cX9_happens 45 = .ok (.iload_n 2, 1) := by decide +kernel
theorem dX9_happens_46 : decode cX9_happens 46 = .ok (.bipush 10, 2) := by decide +kernel
theorem dX9_happens_48 : decode cX9_happens 48 = .ok (.idiv, 1) := by decide +kernel
theorem dX9_happens_49 : decode cX9_happens 49 = .ok (.imul, 1) := by decide +kernel
theorem dX9_happens_50 : decode cX9_happens 50 = .ok (.iload_n 2, 1) := by decide +kernel
theorem dX9_happens_51 : decode cX9_happens 51 = .ok (.bipush 10, 2) := by decide +kernel
theorem dX9_happens_53 : decode cX9_happens 53 = .ok (.irem, 1) := by decide +kernel
theorem dX9_happens_54 : decode cX9_happens 54 = .ok (.iadd, 1) := by decide +kernel
theorem dX9_happens_55 : decode cX9_happens 55 = .ok (.iconst 3, 1) := by decide +kernel
theorem dX9_happens_56 : decode cX9_happens 56 = .ok (.iastore, 1) := by decide +kernel
theorem dX9_happens_57 : decode cX9_happens 57 = .ok (.goto 10, 3) := by decide +kernel
theorem dX9_happens_60 : decode cX9_happens 60 = .ok (.aload_n 0, 1) := by decide +kernel
theorem dX9_happens_61 : decode cX9_happens 61 = .ok (.getfield 15, 3) := by decide +kernel
theorem dX9_happens_64 : decode cX9_happens 64 = .ok (.iload_n 2, 1) := by decide +kernel
theorem dX9_happens_65 : decode cX9_happens 65 = .ok (.iconst 0, 1) := by decide +kernel
theorem dX9_happens_66 : decode cX9_happens 66 = .ok (.iastore, 1) := by decide +kernel
theorem dX9_happens_67 : decode cX9_happens 67 = .ok (.return_, 1) := by decide +kernel
theorem dX9_ends_0 : decode cX9_ends 0 = .ok (.iload_n 1, 1) := by decide +kernel
theorem dX9_ends_1 : decode cX9_ends 1 = .ok (.i2l, 1) := by decide +kernel
theorem dX9_ends_2 : decode cX9_ends 2 = .ok (.lconst 0, 1) := by decide +kernel
theorem dX9_ends_3 : decode cX9_ends 3 = .ok (.ldc2_w 196, 3) := by decide +kernel
theorem dX9_ends_6 : decode cX9_ends 6 = .ok (.invokestatic 116, 3) := by decide +kernel
theorem dX9_ends_9 : decode cX9_ends 9 = .ok (.ifCond .ne 5, 3) := by decide +kernel
theorem dX9_ends_12 : decode cX9_ends 12 = .ok (.iconst (-1), 1) := by decide +kernel
theorem dX9_ends_13 : decode cX9_ends 13 = .ok (.ireturn, 1) := by decide +kernel
theorem dX9_ends_14 : decode cX9_ends 14 = .ok (.aload_n 0, 1) := by decide +kernel
theorem dX9_ends_15 : decode cX9_ends 15 = .ok (.getfield 11, 3) := by decide +kernel
theorem dX9_ends_18 : decode cX9_ends 18 = .ok (.aload_n 0, 1) := by decide +kernel
theorem dX9_ends_19 : decode cX9_ends 19 = .ok (.getfield 85, 3) := by decide +kernel
theorem dX9_ends_22 : decode cX9_ends 22 = .ok (.invokestatic 374, 3) := by decide +kernel
theorem dX9_ends_25 : decode cX9_ends 25 = .ok (.aload_n 0, 1) := by decide +kernel
theorem dX9_ends_26 : decode cX9_ends 26 = .ok (.getfield 15, 3) := by decide +kernel
theorem dX9_ends_29 : decode cX9_ends 29 = .ok (.aload_n 0, 1) := by decide +kernel
theorem dX9_ends_30 : decode cX9_ends 30 = .ok (.getfield 88, 3) := by decide +kernel
theorem dX9_ends_33 : decode cX9_ends 33 = .ok (.invokestatic 374, 3) := by decide +kernel
theorem dX9_ends_36 : decode cX9_ends 36 = .ok (.aload_n 0, 1) := by decide +kernel
theorem dX9_ends_37 : decode cX9_ends 37 = .ok (.getfield 18, 3) := by decide +kernel
theorem dX9_ends_40 : decode cX9_ends 40 = .ok (.aload_n 0, 1) := by decide +kernel
theorem dX9_ends_41 : decode cX9_ends 41 = .ok (.getfield 91, 3) := by decide +kernel
theorem dX9_ends_44 : decode cX9_ends 44 = .ok (.invokestatic 374, 3) := by decide +kernel
theorem dX9_ends_47 : decode cX9_ends 47 = .ok (.iconst 0, 1) := by decide +kernel
theorem dX9_ends_48 : decode cX9_ends 48 = .ok (.istore_n 2, 1) := by decide +kernel
theorem dX9_ends_49 : decode cX9_ends 49 = .ok (.iload_n 2, 1) := by decide +kernel
theorem dX9_ends_50 : decode cX9_ends 50 = .ok (.aload_n 0, 1) := by decide +kernel
theorem dX9_ends_51 : decode cX9_ends 51 = .ok (.getfield 150, 3) := by decide +kernel
theorem dX9_ends_54 : decode cX9_ends 54 = .ok (.if_icmp .ge 25, 3) := by decide +kernel
theorem dX9_ends_57 : decode cX9_ends 57 = .ok (.aload_n 0, 1) := by decide +kernel
theorem dX9_ends_58 : decode cX9_ends 58 = .ok (.aload_n 0, 1) := by decide +kernel
theorem dX9_ends_59 : decode cX9_ends 59 = .ok (.getfield 42, 3) := by decide +kernel
theorem dX9_ends_62 : decode cX9_ends 62 = .ok (.iload_n 2, 1) := by decide +kernel
theorem dX9_ends_63 : decode cX9_ends 63 = .ok (.iaload, 1) := by decide +kernel
theorem dX9_ends_64 : decode cX9_ends 64 = .ok (.aload_n 0, 1) := by decide +kernel
theorem dX9_ends_65 : decode cX9_ends 65 = .ok (.getfield 45, 3) := by decide +kernel
theorem dX9_ends_68 : decode cX9_ends 68 = .ok (.iload_n 2, 1) := by decide +kernel
theorem dX9_ends_69 : decode cX9_ends 69 = .ok (.iaload, 1) := by decide +kernel
theorem dX9_ends_70 : decode cX9_ends 70 = .ok (.invokevirtual 378, 3) := by decide +kernel
theorem dX9_ends_73 : decode cX9_ends 73 = .ok (.iinc 2 1, 3) := by decide +kernel
theorem dX9_ends_76 : decode cX9_ends 76 = .ok (.goto (-27), 3) := by decide +kernel
theorem dX9_ends_79 : decode cX9_ends 79 = .ok (.aload_n 0, 1) := by decide +kernel
theorem dX9_ends_80 : decode cX9_ends 80 = .ok (.iconst 0, 1) := by decide +kernel
theorem dX9_ends_81 : decode cX9_ends 81 = .ok (.invokevirtual 247, 3) := by decide +kernel
theorem dX9_ends_84 : decode cX9_ends 84 = .ok (.aload_n 0, 1) := by decide +kernel
theorem dX9_ends_85 : decode cX9_ends 85 = .ok (.iconst 1, 1) := by decide +kernel
theorem dX9_ends_86 : decode cX9_ends 86 = .ok (.invokevirtual 247, 3) := by decide +kernel
theorem dX9_ends_89 : decode cX9_ends 89 = .ok (.isub, 1) := by decide +kernel
theorem dX9_ends_90 : decode cX9_ends 90 = .ok (.istore_n 2, 1) := by decide +kernel
theorem dX9_ends_91 : decode cX9_ends 91 = .ok (.iload_n 1, 1) := by decide +kernel
theorem dX9_ends_92 : decode cX9_ends 92 = .ok (.ifCond .ne 10, 3) := by decide +kernel
theorem dX9_ends_95 : decode cX9_ends 95 = .ok (.aload_n 0, 1) := by decide +kernel
theorem dX9_ends_96 : decode cX9_ends 96 = .ok (.invokevirtual 353, 3) := by decide +kernel
theorem dX9_ends_99 : decode cX9_ends 99 = .ok (.goto 18, 3) := by decide +kernel
theorem dX9_ends_102 : decode cX9_ends 102 = .ok (.iconst 0, 1) := by decide +kernel
theorem dX9_ends_103 : decode cX9_ends 103 = .ok (.iload_n 1, 1) := by decide +kernel
theorem dX9_ends_104 : decode cX9_ends 104 = .ok (.iconst 1, 1) := by decide +kernel
theorem dX9_ends_105 : decode cX9_ends 105 = .ok (.if_icmp .ne 7, 3) := by decide +kernel
theorem dX9_ends_108 : decode cX9_ends 108 = .ok (.iload_n 2, 1) := by decide +kernel
theorem dX9_ends_109 : decode cX9_ends 109 = .ok (.goto 5, 3) := by decide +kernel
theorem dX9_ends_112 : decode cX9_ends 112 = .ok (.iload_n 2, 1) := by decide +kernel
theorem dX9_ends_113 : decode cX9_ends 113 = .ok (.ineg, 1) := by decide +kernel
theorem dX9_ends_114 : decode cX9_ends 114 = .ok (.invokestatic 359, 3) := by decide +kernel
theorem dX9_ends_117 : decode cX9_ends 117 = .ok (.istore_n 3, 1) := by decide +kernel
theorem dX9_ends_118 : decode cX9_ends 118 = .ok (.aload_n 0, 1) := by decide +kernel
theorem dX9_ends_119 : decode cX9_ends 119 = .ok (.getfield 85, 3) := by decide +kernel
theorem dX9_ends_122 : decode cX9_ends 122 = .ok (.aload_n 0, 1) := by decide +kernel
theorem dX9_ends_123 : decode cX9_ends 123 = .ok (.getfield 11, 3) := by decide +kernel
theorem dX9_ends_126 : decode cX9_ends 126 = .ok (.invokestatic 374, 3) := by decide +kernel
theorem dX9_ends_129 : decode cX9_ends 129 = .ok (.aload_n 0, 1) := by decide +kernel
theorem dX9_ends_130 : decode cX9_ends 130 = .ok (.getfield 88, 3) := by decide +kernel
theorem dX9_ends_133 : decode cX9_ends 133 = .ok (.aload_n 0, 1) := by decide +kernel
theorem dX9_ends_134 : decode cX9_ends 134 = .ok (.getfield 15, 3) := by decide +kernel
theorem dX9_ends_137 : decode cX9_ends 137 = .ok (.invokestatic 374, 3) := by decide +kernel
theorem dX9_ends_140 : decode cX9_ends 140 = .ok (.aload_n 0, 1) := by decide +kernel
theorem dX9_ends_141 : decode cX9_ends 141 = .ok (.getfield 91, 3) := by decide +kernel
theorem dX9_ends_144 : decode cX9_ends 144 = .ok (.aload_n 0, 1) := by decide +kernel
theorem dX9_ends_145 : decode cX9_ends 145 = .ok (.getfield 18, 3) := by decide +kernel
theorem dX9_ends_148 : decode cX9_ends 148 = .ok (.invokestatic 374, 3) := by decide +kernel
theorem dX9_ends_151 : decode cX9_ends 151 = .ok (.iload_n 3, 1) := by decide +kernel
theorem dX9_ends_152 : decode cX9_ends 152 = .ok (.ireturn, 1) := by decide +kernel
theorem dX9_book_0 : decode cX9_book 0 = .ok (.iload_n 1, 1) := by decide +kernel
theorem dX9_book_1 : decode cX9_book 1 = .ok (.iconst (-1), 1) := by decide +kernel
theorem dX9_book_2 : decode cX9_book 2 = .ok (.if_icmp .ne 10, 3) := by decide +kernel
theorem dX9_book_5 : decode cX9_book 5 = .ok (.aload_n 0, 1) := by decide +kernel
theorem dX9_book_6 : decode cX9_book 6 = .ok (.iconst 0, 1) := by decide +kernel
theorem dX9_book_7 : decode cX9_book 7 = .ok (.putfield 153, 3) := by decide +kernel
theorem dX9_book_10 : decode cX9_book 10 = .ok (.iconst 0, 1) := by decide +kernel
theorem dX9_book_11 : decode cX9_book 11 = .ok (.ireturn, 1) := by decide +kernel
theorem dX9_book_12 : decode cX9_book 12 = .ok (.aload_n 0, 1) := by decide +kernel
theorem dX9_book_13 : decode cX9_book 13 = .ok (.iload_n 1, 1) := by decide +kernel
theorem dX9_book_14 : decode cX9_book 14 = .ok (.iload_n 2, 1) := by decide +kernel
theorem dX9_book_15 : decode cX9_book 15 = .ok (.invokevirtual 120, 3) := by decide +kernel
theorem dX9_book_18 : decode cX9_book 18 = .ok (.ifCond .ne 5, 3) := by decide +kernel
theorem dX9_book_21 : decode cX9_book 21 = .ok (.iconst (-1), 1) := by decide +kernel
theorem dX9_book_22 : decode cX9_book 22 = .ok (.ireturn, 1) := by decide +kernel
theorem dX9_book_23 : decode cX9_book 23 = .ok (.iload_n 3, 1) := by decide +kernel
theorem dX9_book_24 : decode cX9_book 24 = .ok (.i2l, 1) := by decide +kernel
theorem dX9_book_25 : decode cX9_book 25 = .ok (.lconst 0, 1) := by decide +kernel
theorem dX9_book_26 : decode cX9_book 26 = .ok (.ldc2_w 176, 3) := by decide +kernel
theorem dX9_book_29 : decode cX9_book 29 = .ok (.invokestatic 116, 3) := by decide +kernel
theorem dX9_book_32 : decode cX9_book 32 = .ok (.ifCond .ne 6, 3) := by decide +kernel
theorem dX9_book_35 : decode cX9_book 35 = .ok (.bipush (-2), 2) := by decide +kernel
theorem dX9_book_37 : decode cX9_book 37 = .ok (.ireturn, 1) := by decide +kernel
theorem dX9_book_38 : decode cX9_book 38 = .ok (.aload_n 0, 1) := by decide +kernel
theorem dX9_book_39 : decode cX9_book 39 = .ok (.getfield 153, 3) := by decide +kernel
theorem dX9_book_42 : decode cX9_book 42 = .ok (.bipush 8, 2) := by decide +kernel
theorem dX9_book_44 : decode cX9_book 44 = .ok (.if_icmp .ne 6, 3) := by decide +kernel
theorem dX9_book_47 : decode cX9_book 47 = .ok (.bipush (-4), 2) := by decide +kernel
theorem dX9_book_49 : decode cX9_book 49 = .ok (.ireturn, 1) := by decide +kernel
theorem dX9_book_50 : decode cX9_book 50 = .ok (.aload_n 0, 1) := by decide +kernel
theorem dX9_book_51 : decode cX9_book 51 = .ok (.getfield 48, 3) := by decide +kernel
theorem dX9_book_54 : decode cX9_book 54 = .ok (.aload_n 0, 1) := by decide +kernel
theorem dX9_book_55 : decode cX9_book 55 = .ok (.getfield 153, 3) := by decide +kernel
theorem dX9_book_58 : decode cX9_book 58 = .ok (.bipush 6, 2) := by decide +kernel
theorem dX9_book_60 : decode cX9_book 60 = .ok (.iload_n 1, 1) := by decide +kernel
theorem dX9_book_61 : decode cX9_book 61 = .ok (.imul, 1) := by decide +kernel
theorem dX9_book_62 : decode cX9_book 62 = .ok (.iload_n 2, 1) := by decide +kernel
theorem dX9_book_63 : decode cX9_book 63 = .ok (.iadd, 1) := by decide +kernel
theorem dX9_book_64 : decode cX9_book 64 = .ok (.iastore, 1) := by decide +kernel
theorem dX9_book_65 : decode cX9_book 65 = .ok (.aload_n 0, 1) := by decide +kernel
theorem dX9_book_66 : decode cX9_book 66 = .ok (.getfield 51, 3) := by decide +kernel
theorem dX9_book_69 : decode cX9_book 69 = .ok (.aload_n 0, 1) := by decide +kernel
theorem dX9_book_70 : decode cX9_book 70 = .ok (.getfield 153, 3) := by decide +kernel
theorem dX9_book_73 : decode cX9_book 73 = .ok (.iload_n 3, 1) := by decide +kernel
theorem dX9_book_74 : decode cX9_book 74 = .ok (.iastore, 1) := by decide +kernel
theorem dX9_book_75 : decode cX9_book 75 = .ok (.aload_n 0, 1) := by decide +kernel
theorem dX9_book_76 : decode cX9_book 76 = .ok (.dup, 1) := by decide +kernel
theorem dX9_book_77 : decode cX9_book 77 = .ok (.getfield 153, 3) := by decide +kernel
theorem dX9_book_80 : decode cX9_book 80 = .ok (.iconst 1, 1) := by decide +kernel
theorem dX9_book_81 : decode cX9_book 81 = .ok (.iadd, 1) := by decide +kernel
theorem dX9_book_82 : decode cX9_book 82 = .ok (.putfield 153, 3) := by decide +kernel
theorem dX9_book_85 : decode cX9_book 85 = .ok (.aload_n 0, 1) := by decide +kernel
theorem dX9_book_86 : decode cX9_book 86 = .ok (.getfield 153, 3) := by decide +kernel
theorem dX9_book_89 : decode cX9_book 89 = .ok (.ireturn, 1) := by decide +kernel
theorem dX9_looked_0 : decode cX9_looked 0 = .ok (.aload_n 0, 1) := by decide +kernel
theorem dX9_looked_1 : decode cX9_looked 1 = .ok (.getfield 141, 3) := by decide +kernel
theorem dX9_looked_4 : decode cX9_looked 4 = .ok (.ifCond .ne 6, 3) := by decide +kernel
theorem dX9_looked_7 : decode cX9_looked 7 = .ok (.bipush (-3), 2) := by decide +kernel
theorem dX9_looked_9 : decode cX9_looked 9 = .ok (.ireturn, 1) := by decide +kernel
theorem dX9_looked_10 : decode cX9_looked 10 = .ok (.iconst 0, 1) := by decide +kernel
theorem dX9_looked_11 : decode cX9_looked 11 = .ok (.istore_n 1, 1) := by decide +kernel
theorem dX9_looked_12 : decode cX9_looked 12 = .ok (.iload_n 1, 1) := by decide +kernel
theorem dX9_looked_13 : decode cX9_looked 13 = .ok (.aload_n 0, 1) := by decide +kernel
theorem dX9_looked_14 : decode cX9_looked 14 = .ok (.getfield 153, 3) := by decide +kernel
theorem dX9_looked_17 : decode cX9_looked 17 = .ok (.if_icmp .ge 31, 3) := by decide +kernel
theorem dX9_looked_20 : decode cX9_looked 20 = .ok (.aload_n 0, 1) := by decide +kernel
theorem dX9_looked_21 : decode cX9_looked 21 = .ok (.getfield 27, 3) := by decide +kernel
theorem dX9_looked_24 : decode cX9_looked 24 = .ok (.aload_n 0, 1) := by decide +kernel
theorem dX9_looked_25 : decode cX9_looked 25 = .ok (.getfield 48, 3) := by decide +kernel
theorem dX9_looked_28 : decode cX9_looked 28 = .ok (.iload_n 1, 1) := by decide +kernel
theorem dX9_looked_29 : decode cX9_looked 29 = .ok (.iaload, 1) := by decide +kernel
theorem dX9_looked_30 : decode cX9_looked 30 = .ok (.iaload, 1) := by decide +kernel
theorem dX9_looked_31 : decode cX9_looked 31 = .ok (.aload_n 0, 1) := by decide +kernel
theorem dX9_looked_32 : decode cX9_looked 32 = .ok (.getfield 51, 3) := by decide +kernel
theorem dX9_looked_35 : decode cX9_looked 35 = .ok (.iload_n 1, 1) := by decide +kernel
theorem dX9_looked_36 : decode cX9_looked 36 = .ok (.iaload, 1) := by decide +kernel
theorem dX9_looked_37 : decode cX9_looked 37 = .ok (.if_icmp .eq 5, 3) := by decide +kernel
theorem dX9_looked_40 : decode cX9_looked 40 = .ok (.iload_n 1, 1) := by decide +kernel
theorem dX9_looked_41 : decode cX9_looked 41 = .ok (.ireturn, 1) := by decide +kernel
theorem dX9_looked_42 : decode cX9_looked 42 = .ok (.iinc 1 1, 3) := by decide +kernel
theorem dX9_looked_45 : decode cX9_looked 45 = .ok (.goto (-33), 3) := by decide +kernel
theorem dX9_looked_48 : decode cX9_looked 48 = .ok (.bipush (-5), 2) := by decide +kernel
theorem dX9_looked_50 : decode cX9_looked 50 = .ok (.ireturn, 1) := by decide +kernel
theorem dX9_isTape_0 : decode cX9_isTape 0 = .ok (.iload_n 0, 1) := by decide +kernel
theorem dX9_isTape_1 : decode cX9_isTape 1 = .ok (.i2l, 1) := by decide +kernel
theorem dX9_isTape_2 : decode cX9_isTape 2 = .ok (.lconst 0, 1) := by decide +kernel
theorem dX9_isTape_3 : decode cX9_isTape 3 = .ok (.ldc2_w 381, 3) := by decide +kernel
theorem dX9_isTape_6 : decode cX9_isTape 6 = .ok (.invokestatic 116, 3) := by decide +kernel
theorem dX9_isTape_9 : decode cX9_isTape 9 = .ok (.ireturn, 1) := by decide +kernel
theorem dX9_judge_0 : decode cX9_judge 0 = .ok (.iload_n 1, 1) := by decide +kernel
theorem dX9_judge_1 : decode cX9_judge 1 = .ok (.invokestatic 383, 3) := by decide +kernel
theorem dX9_judge_4 : decode cX9_judge 4 = .ok (.ifCond .ne 5, 3) := by decide +kernel
theorem dX9_judge_7 : decode cX9_judge 7 = .ok (.iconst (-1), 1) := by decide +kernel
theorem dX9_judge_8 : decode cX9_judge 8 = .ok (.ireturn, 1) := by decide +kernel
theorem dX9_judge_9 : decode cX9_judge 9 = .ok (.aload_n 0, 1) := by decide +kernel
theorem dX9_judge_10 : decode cX9_judge 10 = .ok (.getfield 141, 3) := by decide +kernel
theorem dX9_judge_13 : decode cX9_judge 13 = .ok (.ifCond .ne 6, 3) := by decide +kernel
theorem dX9_judge_16 : decode cX9_judge 16 = .ok (.bipush (-3), 2) := by decide +kernel
theorem dX9_judge_18 : decode cX9_judge 18 = .ok (.ireturn, 1) := by decide +kernel
theorem dX9_judge_19 : decode cX9_judge 19 = .ok (.aload_n 0, 1) := by decide +kernel
theorem dX9_judge_20 : decode cX9_judge 20 = .ok (.getfield 99, 3) := by decide +kernel
theorem dX9_judge_23 : decode cX9_judge 23 = .ok (.iload_n 1, 1) := by decide +kernel
theorem dX9_judge_24 : decode cX9_judge 24 = .ok (.iaload, 1) := by decide +kernel
theorem dX9_judge_25 : decode cX9_judge 25 = .ok (.ifCond .lt 16, 3) := by decide +kernel
theorem dX9_judge_28 : decode cX9_judge 28 = .ok (.aload_n 0, 1) := by decide +kernel
theorem dX9_judge_29 : decode cX9_judge 29 = .ok (.getfield 99, 3) := by decide +kernel
theorem dX9_judge_32 : decode cX9_judge 32 = .ok (.iload_n 1, 1) := by decide +kernel
theorem dX9_judge_33 : decode cX9_judge 33 = .ok (.iaload, 1) := by decide +kernel
theorem dX9_judge_34 : decode cX9_judge 34 = .ok (.iconst 3, 1) := by decide +kernel
theorem dX9_judge_35 : decode cX9_judge 35 = .ok (.if_icmp .eq 6, 3) := by decide +kernel
theorem dX9_judge_38 : decode cX9_judge 38 = .ok (.bipush (-12), 2) := by decide +kernel
theorem dX9_judge_40 : decode cX9_judge 40 = .ok (.ireturn, 1) := by decide +kernel
theorem dX9_judge_41 : decode cX9_judge 41 = .ok (.iconst 0, 1) := by decide +kernel
theorem dX9_judge_42 : decode cX9_judge 42 = .ok (.istore_n 3, 1) := by decide +kernel
theorem dX9_judge_43 : decode cX9_judge 43 = .ok (.iconst 0, 1) := by decide +kernel
theorem dX9_judge_44 : decode cX9_judge 44 = .ok (.istore 4, 2) := by decide +kernel
theorem dX9_judge_46 : decode cX9_judge 46 = .ok (.iload 4, 2) := by decide +kernel
theorem dX9_judge_48 : decode cX9_judge 48 = .ok (.bipush 36, 2) := by decide +kernel
theorem dX9_judge_50 : decode cX9_judge 50 = .ok (.if_icmp .ge 66, 3) := by decide +kernel
theorem dX9_judge_53 : decode cX9_judge 53 = .ok (.aload_n 0, 1) := by decide +kernel
theorem dX9_judge_54 : decode cX9_judge 54 = .ok (.iload 4, 2) := by decide +kernel
theorem dX9_judge_56 : decode cX9_judge 56 = .ok (.invokevirtual 290, 3) := by decide +kernel
theorem dX9_judge_59 : decode cX9_judge 59 = .ok (.ifCond .eq 51, 3) := by decide +kernel
theorem dX9_judge_62 : decode cX9_judge 62 = .ok (.iload_n 2, 1) := by decide +kernel
theorem dX9_judge_63 : decode cX9_judge 63 = .ok (.ifCond .lt 15, 3) := by decide +kernel
theorem dX9_judge_66 : decode cX9_judge 66 = .ok (.iload_n 2, 1) := by decide +kernel
theorem dX9_judge_67 : decode cX9_judge 67 = .ok (.aload_n 0, 1) := by decide +kernel
theorem dX9_judge_68 : decode cX9_judge 68 = .ok (.getfield 102, 3) := by decide +kernel
theorem dX9_judge_71 : decode cX9_judge 71 = .ok (.iload_n 1, 1) := by decide +kernel
theorem dX9_judge_72 : decode cX9_judge 72 = .ok (.iaload, 1) := by decide +kernel
theorem dX9_judge_73 : decode cX9_judge 73 = .ok (.iload_n 3, 1) := by decide +kernel
theorem dX9_judge_74 : decode cX9_judge 74 = .ok (.isub, 1) := by decide +kernel
theorem dX9_judge_75 : decode cX9_judge 75 = .ok (.if_icmp .lt 8, 3) := by decide +kernel
theorem dX9_judge_78 : decode cX9_judge 78 = .ok (.bipush 100, 2) := by decide +kernel
theorem dX9_judge_80 : decode cX9_judge 80 = .ok (.iload_n 3, 1) := by decide +kernel
theorem dX9_judge_81 : decode cX9_judge 81 = .ok (.iadd, 1) := by decide +kernel
theorem dX9_judge_82 : decode cX9_judge 82 = .ok (.ireturn, 1) := by decide +kernel
theorem dX9_judge_83 : decode cX9_judge 83 = .ok (.aload_n 0, 1) := by decide +kernel
theorem dX9_judge_84 : decode cX9_judge 84 = .ok (.getfield 96, 3) := by decide +kernel
theorem dX9_judge_87 : decode cX9_judge 87 = .ok (.iload_n 1, 1) := by decide +kernel
theorem dX9_judge_88 : decode cX9_judge 88 = .ok (.aaload, 1) := by decide +kernel
theorem dX9_judge_89 : decode cX9_judge 89 = .ok (.iload_n 2, 1) := by decide +kernel
theorem dX9_judge_90 : decode cX9_judge 90 = .ok (.iload_n 3, 1) := by decide +kernel
theorem dX9_judge_91 : decode cX9_judge 91 = .ok (.iadd, 1) := by decide +kernel
theorem dX9_judge_92 : decode cX9_judge 92 = .ok (.laload, 1) := by decide +kernel
theorem dX9_judge_93 : decode cX9_judge 93 = .ok (.aload_n 0, 1) := by decide +kernel
theorem dX9_judge_94 : decode cX9_judge 94 = .ok (.getfield 27, 3) := by decide +kernel
theorem dX9_judge_97 : decode cX9_judge 97 = .ok (.iload 4, 2) := by decide +kernel
theorem dX9_judge_99 : decode cX9_judge 99 = .ok (.iaload, 1) := by decide +kernel
theorem dX9_judge_100 : decode cX9_judge 100 = .ok (.i2l, 1) := by decide +kernel
theorem dX9_judge_101 : decode cX9_judge 101 = .ok (.lcmp, 1) := by decide +kernel
theorem dX9_judge_102 : decode cX9_judge 102 = .ok (.ifCond .eq 5, 3) := by decide +kernel
theorem dX9_judge_105 : decode cX9_judge 105 = .ok (.iload_n 3, 1) := by decide +kernel
theorem dX9_judge_106 : decode cX9_judge 106 = .ok (.ireturn, 1) := by decide +kernel
theorem dX9_judge_107 : decode cX9_judge 107 = .ok (.iinc 3 1, 3) := by decide +kernel
theorem dX9_judge_110 : decode cX9_judge 110 = .ok (.iinc 4 1, 3) := by decide +kernel
theorem dX9_judge_113 : decode cX9_judge 113 = .ok (.goto (-67), 3) := by decide +kernel
theorem dX9_judge_116 : decode cX9_judge 116 = .ok (.bipush (-5), 2) := by decide +kernel
theorem dX9_judge_118 : decode cX9_judge 118 = .ok (.ireturn, 1) := by decide +kernel
theorem dX9_shutRoads_0 : decode cX9_shutRoads 0 = .ok (.iconst 0, 1) := by decide +kernel
theorem dX9_shutRoads_1 : decode cX9_shutRoads 1 = .ok (.istore_n 1, 1) := by decide +kernel
theorem dX9_shutRoads_2 : decode cX9_shutRoads 2 = .ok (.iconst 0, 1) := by decide +kernel
theorem dX9_shutRoads_3 : decode cX9_shutRoads 3 = .ok (.istore_n 2, 1) := by decide +kernel
theorem dX9_shutRoads_4 : decode cX9_shutRoads 4 = .ok (.iload_n 2, 1) := by decide +kernel
theorem dX9_shutRoads_5 : decode cX9_shutRoads 5 = .ok (.aload_n 0, 1) := by decide +kernel
theorem dX9_shutRoads_6 : decode cX9_shutRoads 6 = .ok (.getfield 109, 3) := by decide +kernel
theorem dX9_shutRoads_9 : decode cX9_shutRoads 9 = .ok (.if_icmp .ge 47, 3) := by decide +kernel
theorem dX9_shutRoads_12 : decode cX9_shutRoads 12 = .ok (.iconst 0, 1) := by decide +kernel
theorem dX9_shutRoads_13 : decode cX9_shutRoads 13 = .ok (.istore_n 3, 1) := by decide +kernel
theorem dX9_shutRoads_14 : decode cX9_shutRoads 14 = .ok (.iload_n 3, 1) := by decide +kernel
theorem dX9_shutRoads_15 : decode cX9_shutRoads 15 = .ok (.aload_n 0, 1) := by decide +kernel
theorem dX9_shutRoads_16 : decode cX9_shutRoads 16 = .ok (.getfield 113, 3) := by decide +kernel
theorem dX9_shutRoads_19 : decode cX9_shutRoads 19 = .ok (.if_icmp .ge 31, 3) := by decide +kernel
theorem dX9_shutRoads_22 : decode cX9_shutRoads 22 = .ok (.iload_n 1, 1) := by decide +kernel
theorem dX9_shutRoads_23 : decode cX9_shutRoads 23 = .ok (.aload_n 0, 1) := by decide +kernel
theorem dX9_shutRoads_24 : decode cX9_shutRoads 24 = .ok (.getfield 18, 3) := by decide +kernel
theorem dX9_shutRoads_27 : decode cX9_shutRoads 27 = .ok (.iconst 5, 1) := by decide +kernel
theorem dX9_shutRoads_28 : decode cX9_shutRoads 28 = .ok (.iload_n 2, 1) := by decide +kernel
theorem dX9_shutRoads_29 : decode cX9_shutRoads 29 = .ok (.imul, 1) := by decide +kernel
theorem dX9_shutRoads_30 : decode cX9_shutRoads 30 = .ok (.iload_n 3, 1) := by decide +kernel
theorem dX9_shutRoads_31 : decode cX9_shutRoads 31 = .ok (.iadd, 1) := by decide +kernel
theorem dX9_shutRoads_32 : decode cX9_shutRoads 32 = .ok (.iaload, 1) := by decide +kernel
theorem dX9_shutRoads_33 : decode cX9_shutRoads 33 = .ok (.iconst 3, 1) := by decide +kernel
theorem dX9_shutRoads_34 : decode cX9_shutRoads 34 = .ok (.if_icmp .ne 7, 3) := by decide +kernel
theorem dX9_shutRoads_37 : decode cX9_shutRoads 37 = .ok (.iconst 1, 1) := by decide +kernel
theorem dX9_shutRoads_38 : decode cX9_shutRoads 38 = .ok (.goto 4, 3) := by decide +kernel
theorem dX9_shutRoads_41 : decode cX9_shutRoads 41 = .ok (.iconst 0, 1) := by decide +kernel
theorem dX9_shutRoads_42 : decode cX9_shutRoads 42 = .ok (.iadd, 1) := by decide +kernel
theorem dX9_shutRoads_43 : decode cX9_shutRoads 43 = .ok (.istore_n 1, 1) := by decide +kernel
theorem dX9_shutRoads_44 : decode cX9_shutRoads 44 = .ok (.iinc 3 1, 3) := by decide +kernel
theorem dX9_shutRoads_47 : decode cX9_shutRoads 47 = .ok (.goto (-33), 3) := by decide +kernel
theorem dX9_shutRoads_50 : decode cX9_shutRoads 50 = .ok (.iinc 2 1, 3) := by decide +kernel
theorem dX9_shutRoads_53 : decode cX9_shutRoads 53 = .ok (.goto (-49), 3) := by decide +kernel
theorem dX9_shutRoads_56 : decode cX9_shutRoads 56 = .ok (.iload_n 1, 1) := by decide +kernel
theorem dX9_shutRoads_57 : decode cX9_shutRoads 57 = .ok (.ireturn, 1) := by decide +kernel
theorem dX9_count_0 : decode cX9_count 0 = .ok (.iload_n 1, 1) := by decide +kernel
theorem dX9_count_1 : decode cX9_count 1 = .ok (.tableswitch 87 0 7 #[47, 52, 57, 62, 67, 72, 77, 82], 47) := by decide +kernel
theorem dX9_count_48 : decode cX9_count 48 = .ok (.aload_n 0, 1) := by decide +kernel
theorem dX9_count_49 : decode cX9_count 49 = .ok (.getfield 109, 3) := by decide +kernel
theorem dX9_count_52 : decode cX9_count 52 = .ok (.ireturn, 1) := by decide +kernel
theorem dX9_count_53 : decode cX9_count 53 = .ok (.aload_n 0, 1) := by decide +kernel
theorem dX9_count_54 : decode cX9_count 54 = .ok (.getfield 113, 3) := by decide +kernel
theorem dX9_count_57 : decode cX9_count 57 = .ok (.ireturn, 1) := by decide +kernel
theorem dX9_count_58 : decode cX9_count 58 = .ok (.aload_n 0, 1) := by decide +kernel
theorem dX9_count_59 : decode cX9_count 59 = .ok (.invokevirtual 386, 3) := by decide +kernel
theorem dX9_count_62 : decode cX9_count 62 = .ok (.ireturn, 1) := by decide +kernel
theorem dX9_count_63 : decode cX9_count 63 = .ok (.aload_n 0, 1) := by decide +kernel
theorem dX9_count_64 : decode cX9_count 64 = .ok (.getfield 147, 3) := by decide +kernel
theorem dX9_count_67 : decode cX9_count 67 = .ok (.ireturn, 1) := by decide +kernel
theorem dX9_count_68 : decode cX9_count 68 = .ok (.aload_n 0, 1) := by decide +kernel
theorem dX9_count_69 : decode cX9_count 69 = .ok (.getfield 150, 3) := by decide +kernel
theorem dX9_count_72 : decode cX9_count 72 = .ok (.ireturn, 1) := by decide +kernel
theorem dX9_count_73 : decode cX9_count 73 = .ok (.aload_n 0, 1) := by decide +kernel
theorem dX9_count_74 : decode cX9_count 74 = .ok (.getfield 153, 3) := by decide +kernel
theorem dX9_count_77 : decode cX9_count 77 = .ok (.ireturn, 1) := by decide +kernel
theorem dX9_count_78 : decode cX9_count 78 = .ok (.aload_n 0, 1) := by decide +kernel
theorem dX9_count_79 : decode cX9_count 79 = .ok (.getfield 205, 3) := by decide +kernel
theorem dX9_count_82 : decode cX9_count 82 = .ok (.ireturn, 1) := by decide +kernel
theorem dX9_count_83 : decode cX9_count 83 = .ok (.aload_n 0, 1) := by decide +kernel
theorem dX9_count_84 : decode cX9_count 84 = .ok (.getfield 141, 3) := by decide +kernel
theorem dX9_count_87 : decode cX9_count 87 = .ok (.ireturn, 1) := by decide +kernel
theorem dX9_count_88 : decode cX9_count 88 = .ok (.bipush (-2), 2) := by decide +kernel
theorem dX9_count_90 : decode cX9_count 90 = .ok (.ireturn, 1) := by decide +kernel
theorem dX9_tape_0 : decode cX9_tape 0 = .ok (.iload_n 1, 1) := by decide +kernel
theorem dX9_tape_1 : decode cX9_tape 1 = .ok (.invokestatic 383, 3) := by decide +kernel
theorem dX9_tape_4 : decode cX9_tape 4 = .ok (.ifCond .ne 5, 3) := by decide +kernel
theorem dX9_tape_7 : decode cX9_tape 7 = .ok (.iconst (-1), 1) := by decide +kernel
theorem dX9_tape_8 : decode cX9_tape 8 = .ok (.ireturn, 1) := by decide +kernel
theorem dX9_tape_9 : decode cX9_tape 9 = .ok (.iload_n 2, 1) := by decide +kernel
theorem dX9_tape_10 : decode cX9_tape 10 = .ok (.i2l, 1) := by decide +kernel
theorem dX9_tape_11 : decode cX9_tape 11 = .ok (.ldc2_w 389, 3) := by decide +kernel
theorem dX9_tape_14 : decode cX9_tape 14 = .ok (.ldc2_w 391, 3) := by decide +kernel
theorem dX9_tape_17 : decode cX9_tape 17 = .ok (.invokestatic 116, 3) := by decide +kernel
theorem dX9_tape_20 : decode cX9_tape 20 = .ok (.ifCond .eq 13, 3) := by decide +kernel
theorem dX9_tape_23 : decode cX9_tape 23 = .ok (.iload_n 2, 1) := by decide +kernel
theorem dX9_tape_24 : decode cX9_tape 24 = .ok (.ifCond .lt 12, 3) := by decide +kernel
theorem dX9_tape_27 : decode cX9_tape 27 = .ok (.iload_n 3, 1) := by decide +kernel
theorem dX9_tape_28 : decode cX9_tape 28 = .ok (.bipush 60, 2) := by decide +kernel
theorem dX9_tape_30 : decode cX9_tape 30 = .ok (.if_icmp .le 6, 3) := by decide +kernel
theorem dX9_tape_33 : decode cX9_tape 33 = .ok (.bipush (-2), 2) := by decide +kernel
theorem dX9_tape_35 : decode cX9_tape 35 = .ok (.ireturn, 1) := by decide +kernel
theorem dX9_tape_36 : decode cX9_tape 36 = .ok (.iload_n 2, 1) := by decide +kernel
theorem dX9_tape_37 : decode cX9_tape 37 = .ok (.ifCond .lt 10, 3) := by decide +kernel
theorem dX9_tape_40 : decode cX9_tape 40 = .ok (.iload_n 3, 1) := by decide +kernel
theorem dX9_tape_41 : decode cX9_tape 41 = .ok (.ifCond .ge 6, 3) := by decide +kernel
theorem dX9_tape_44 : decode cX9_tape 44 = .ok (.bipush (-14), 2) := by decide +kernel
theorem dX9_tape_46 : decode cX9_tape 46 = .ok (.ireturn, 1) := by decide +kernel
theorem dX9_tape_47 : decode cX9_tape 47 = .ok (.aload_n 0, 1) := by decide +kernel
theorem dX9_tape_48 : decode cX9_tape 48 = .ok (.getfield 99, 3) := by decide +kernel
theorem dX9_tape_51 : decode cX9_tape 51 = .ok (.iload_n 1, 1) := by decide +kernel
theorem dX9_tape_52 : decode cX9_tape 52 = .ok (.iload_n 2, 1) := by decide +kernel
theorem dX9_tape_53 : decode cX9_tape 53 = .ok (.iastore, 1) := by decide +kernel
theorem dX9_tape_54 : decode cX9_tape 54 = .ok (.aload_n 0, 1) := by decide +kernel
theorem dX9_tape_55 : decode cX9_tape 55 = .ok (.getfield 102, 3) := by decide +kernel
theorem dX9_tape_58 : decode cX9_tape 58 = .ok (.iload_n 1, 1) := by decide +kernel
theorem dX9_tape_59 : decode cX9_tape 59 = .ok (.iload_n 2, 1) := by decide +kernel
theorem dX9_tape_60 : decode cX9_tape 60 = .ok (.ifCond .ge 7, 3) := by decide +kernel
theorem dX9_tape_63 : decode cX9_tape 63 = .ok (.iconst 0, 1) := by decide +kernel
theorem dX9_tape_64 : decode cX9_tape 64 = .ok (.goto 4, 3) := by decide +kernel
theorem dX9_tape_67 : decode cX9_tape 67 = .ok (.iload_n 3, 1) := by decide +kernel
theorem dX9_tape_68 : decode cX9_tape 68 = .ok (.iastore, 1) := by decide +kernel
theorem dX9_tape_69 : decode cX9_tape 69 = .ok (.iconst 0, 1) := by decide +kernel
theorem dX9_tape_70 : decode cX9_tape 70 = .ok (.istore 4, 2) := by decide +kernel
theorem dX9_tape_72 : decode cX9_tape 72 = .ok (.iload 4, 2) := by decide +kernel
theorem dX9_tape_74 : decode cX9_tape 74 = .ok (.bipush 60, 2) := by decide +kernel
theorem dX9_tape_76 : decode cX9_tape 76 = .ok (.if_icmp .ge 19, 3) := by decide +kernel
theorem dX9_tape_79 : decode cX9_tape 79 = .ok (.aload_n 0, 1) := by decide +kernel
theorem dX9_tape_80 : decode cX9_tape 80 = .ok (.getfield 96, 3) := by decide +kernel
theorem dX9_tape_83 : decode cX9_tape 83 = .ok (.iload_n 1, 1) := by decide +kernel
theorem dX9_tape_84 : decode cX9_tape 84 = .ok (.aaload, 1) := by decide +kernel
theorem dX9_tape_85 : decode cX9_tape 85 = .ok (.iload 4, 2) := by decide +kernel
theorem dX9_tape_87 : decode cX9_tape 87 = .ok (.lconst 0, 1) := by decide +kernel
theorem dX9_tape_88 : decode cX9_tape 88 = .ok (.lastore, 1) := by decide +kernel
theorem dX9_tape_89 : decode cX9_tape 89 = .ok (.iinc 4 1, 3) := by decide +kernel
theorem dX9_tape_92 : decode cX9_tape 92 = .ok (.goto (-20), 3) := by decide +kernel
theorem dX9_tape_95 : decode cX9_tape 95 = .ok (.iconst 1, 1) := by decide +kernel
theorem dX9_tape_96 : decode cX9_tape 96 = .ok (.ireturn, 1) := by decide +kernel
theorem dX9_fit_0 : decode cX9_fit 0 = .ok (.iload_n 0, 1) := by decide +kernel
theorem dX9_fit_1 : decode cX9_fit 1 = .ok (.tableswitch 47 0 3 #[31, 36, 41, 45], 31) := by decide +kernel
theorem dX9_fit_32 : decode cX9_fit 32 = .ok (.lload_n 1, 1) := by decide +kernel
theorem dX9_fit_33 : decode cX9_fit 33 = .ok (.l2i, 1) := by decide +kernel
theorem dX9_fit_34 : decode cX9_fit 34 = .ok (.i2b, 1) := by decide +kernel
theorem dX9_fit_35 : decode cX9_fit 35 = .ok (.i2l, 1) := by decide +kernel
theorem dX9_fit_36 : decode cX9_fit 36 = .ok (.lreturn, 1) := by decide +kernel
theorem dX9_fit_37 : decode cX9_fit 37 = .ok (.lload_n 1, 1) := by decide +kernel
theorem dX9_fit_38 : decode cX9_fit 38 = .ok (.l2i, 1) := by decide +kernel
theorem dX9_fit_39 : decode cX9_fit 39 = .ok (.i2s, 1) := by decide +kernel
theorem dX9_fit_40 : decode cX9_fit 40 = .ok (.i2l, 1) := by decide +kernel
theorem dX9_fit_41 : decode cX9_fit 41 = .ok (.lreturn, 1) := by decide +kernel
theorem dX9_fit_42 : decode cX9_fit 42 = .ok (.lload_n 1, 1) := by decide +kernel
theorem dX9_fit_43 : decode cX9_fit 43 = .ok (.l2i, 1) := by decide +kernel
theorem dX9_fit_44 : decode cX9_fit 44 = .ok (.i2l, 1) := by decide +kernel
theorem dX9_fit_45 : decode cX9_fit 45 = .ok (.lreturn, 1) := by decide +kernel
theorem dX9_fit_46 : decode cX9_fit 46 = .ok (.lload_n 1, 1) := by decide +kernel
theorem dX9_fit_47 : decode cX9_fit 47 = .ok (.lreturn, 1) := by decide +kernel
theorem dX9_fit_48 : decode cX9_fit 48 = .ok (.lload_n 1, 1) := by decide +kernel
theorem dX9_fit_49 : decode cX9_fit 49 = .ok (.lconst 0, 1) := by decide +kernel
theorem dX9_fit_50 : decode cX9_fit 50 = .ok (.lcmp, 1) := by decide +kernel
theorem dX9_fit_51 : decode cX9_fit 51 = .ok (.ifCond .eq 7, 3) := by decide +kernel
theorem dX9_fit_54 : decode cX9_fit 54 = .ok (.lconst 1, 1) := by decide +kernel
theorem dX9_fit_55 : decode cX9_fit 55 = .ok (.goto 4, 3) := by decide +kernel
theorem dX9_fit_58 : decode cX9_fit 58 = .ok (.lconst 0, 1) := by decide +kernel
theorem dX9_fit_59 : decode cX9_fit 59 = .ok (.lreturn, 1) := by decide +kernel
theorem dX9_item_0 : decode cX9_item 0 = .ok (.iload_n 1, 1) := by decide +kernel
theorem dX9_item_1 : decode cX9_item 1 = .ok (.invokestatic 383, 3) := by decide +kernel
theorem dX9_item_4 : decode cX9_item 4 = .ok (.ifCond .ne 5, 3) := by decide +kernel
theorem dX9_item_7 : decode cX9_item 7 = .ok (.iconst (-1), 1) := by decide +kernel
theorem dX9_item_8 : decode cX9_item 8 = .ok (.ireturn, 1) := by decide +kernel
theorem dX9_item_9 : decode cX9_item 9 = .ok (.aload_n 0, 1) := by decide +kernel
theorem dX9_item_10 : decode cX9_item 10 = .ok (.getfield 99, 3) := by decide +kernel
theorem dX9_item_13 : decode cX9_item 13 = .ok (.iload_n 1, 1) := by decide +kernel
theorem dX9_item_14 : decode cX9_item 14 = .ok (.iaload, 1) := by decide +kernel
theorem dX9_item_15 : decode cX9_item 15 = .ok (.ifCond .ge 6, 3) := by decide +kernel
theorem dX9_item_18 : decode cX9_item 18 = .ok (.bipush (-11), 2) := by decide +kernel
theorem dX9_item_20 : decode cX9_item 20 = .ok (.ireturn, 1) := by decide +kernel
theorem dX9_item_21 : decode cX9_item 21 = .ok (.iload_n 2, 1) := by decide +kernel
theorem dX9_item_22 : decode cX9_item 22 = .ok (.i2l, 1) := by decide +kernel
theorem dX9_item_23 : decode cX9_item 23 = .ok (.lconst 0, 1) := by decide +kernel
theorem dX9_item_24 : decode cX9_item 24 = .ok (.aload_n 0, 1) := by decide +kernel
theorem dX9_item_25 : decode cX9_item 25 = .ok (.getfield 102, 3) := by decide +kernel
theorem dX9_item_28 : decode cX9_item 28 = .ok (.iload_n 1, 1) := by decide +kernel
theorem dX9_item_29 : decode cX9_item 29 = .ok (.iaload, 1) := by decide +kernel
theorem dX9_item_30 : decode cX9_item 30 = .ok (.iconst 1, 1) := by decide +kernel
theorem dX9_item_31 : decode cX9_item 31 = .ok (.isub, 1) := by decide +kernel
theorem dX9_item_32 : decode cX9_item 32 = .ok (.i2l, 1) := by decide +kernel
theorem dX9_item_33 : decode cX9_item 33 = .ok (.invokestatic 116, 3) := by decide +kernel
theorem dX9_item_36 : decode cX9_item 36 = .ok (.ifCond .ne 6, 3) := by decide +kernel
theorem dX9_item_39 : decode cX9_item 39 = .ok (.bipush (-13), 2) := by decide +kernel
theorem dX9_item_41 : decode cX9_item 41 = .ok (.ireturn, 1) := by decide +kernel
theorem dX9_item_42 : decode cX9_item 42 = .ok (.aload_n 0, 1) := by decide +kernel
theorem dX9_item_43 : decode cX9_item 43 = .ok (.getfield 96, 3) := by decide +kernel
theorem dX9_item_46 : decode cX9_item 46 = .ok (.iload_n 1, 1) := by decide +kernel
theorem dX9_item_47 : decode cX9_item 47 = .ok (.aaload, 1) := by decide +kernel
theorem dX9_item_48 : decode cX9_item 48 = .ok (.iload_n 2, 1) := by decide +kernel
theorem dX9_item_49 : decode cX9_item 49 = .ok (.aload_n 0, 1) := by decide +kernel
theorem dX9_item_50 : decode cX9_item 50 = .ok (.getfield 99, 3) := by decide +kernel
theorem dX9_item_53 : decode cX9_item 53 = .ok (.iload_n 1, 1) := by decide +kernel
theorem dX9_item_54 : decode cX9_item 54 = .ok (.iaload, 1) := by decide +kernel
theorem dX9_item_55 : decode cX9_item 55 = .ok (.lload_n 3, 1) := by decide +kernel
theorem dX9_item_56 : decode cX9_item 56 = .ok (.invokestatic 393, 3) := by decide +kernel
theorem dX9_item_59 : decode cX9_item 59 = .ok (.lastore, 1) := by decide +kernel
theorem dX9_item_60 : decode cX9_item 60 = .ok (.iconst 1, 1) := by decide +kernel
theorem dX9_item_61 : decode cX9_item 61 = .ok (.ireturn, 1) := by decide +kernel
theorem dX9_peek_0 : decode cX9_peek 0 = .ok (.iload_n 1, 1) := by decide +kernel
theorem dX9_peek_1 : decode cX9_peek 1 = .ok (.invokestatic 383, 3) := by decide +kernel
theorem dX9_peek_4 : decode cX9_peek 4 = .ok (.ifCond .eq 41, 3) := by decide +kernel
theorem dX9_peek_7 : decode cX9_peek 7 = .ok (.aload_n 0, 1) := by decide +kernel
theorem dX9_peek_8 : decode cX9_peek 8 = .ok (.getfield 99, 3) := by decide +kernel
theorem dX9_peek_11 : decode cX9_peek 11 = .ok (.iload_n 1, 1) := by decide +kernel
theorem dX9_peek_12 : decode cX9_peek 12 = .ok (.iaload, 1) := by decide +kernel
theorem dX9_peek_13 : decode cX9_peek 13 = .ok (.ifCond .lt 32, 3) := by decide +kernel
theorem dX9_peek_16 : decode cX9_peek 16 = .ok (.iload_n 2, 1) := by decide +kernel
theorem dX9_peek_17 : decode cX9_peek 17 = .ok (.i2l, 1) := by decide +kernel
theorem dX9_peek_18 : decode cX9_peek 18 = .ok (.lconst 0, 1) := by decide +kernel
theorem dX9_peek_19 : decode cX9_peek 19 = .ok (.aload_n 0, 1) := by decide +kernel
theorem dX9_peek_20 : decode cX9_peek 20 = .ok (.getfield 102, 3) := by decide +kernel
theorem dX9_peek_23 : decode cX9_peek 23 = .ok (.iload_n 1, 1) := by decide +kernel
theorem dX9_peek_24 : decode cX9_peek 24 = .ok (.iaload, 1) := by decide +kernel
theorem dX9_peek_25 : decode cX9_peek 25 = .ok (.iconst 1, 1) := by decide +kernel
theorem dX9_peek_26 : decode cX9_peek 26 = .ok (.isub, 1) := by decide +kernel
theorem dX9_peek_27 : decode cX9_peek 27 = .ok (.i2l, 1) := by decide +kernel
theorem dX9_peek_28 : decode cX9_peek 28 = .ok (.invokestatic 116, 3) := by decide +kernel
theorem dX9_peek_31 : decode cX9_peek 31 = .ok (.ifCond .eq 14, 3) := by decide +kernel
theorem dX9_peek_34 : decode cX9_peek 34 = .ok (.aload_n 0, 1) := by decide +kernel
theorem dX9_peek_35 : decode cX9_peek 35 = .ok (.getfield 96, 3) := by decide +kernel
theorem dX9_peek_38 : decode cX9_peek 38 = .ok (.iload_n 1, 1) := by decide +kernel
theorem dX9_peek_39 : decode cX9_peek 39 = .ok (.aaload, 1) := by decide +kernel
theorem dX9_peek_40 : decode cX9_peek 40 = .ok (.iload_n 2, 1) := by decide +kernel
theorem dX9_peek_41 : decode cX9_peek 41 = .ok (.laload, 1) := by decide +kernel
theorem dX9_peek_42 : decode cX9_peek 42 = .ok (.goto 6, 3) := by decide +kernel
theorem dX9_peek_45 : decode cX9_peek 45 = .ok (.ldc2_w 332, 3) := by decide +kernel
theorem dX9_peek_48 : decode cX9_peek 48 = .ok (.lreturn, 1) := by decide +kernel
theorem dX9_shift_0 : decode cX9_shift 0 = .ok (.iload_n 1, 1) := by decide +kernel
theorem dX9_shift_1 : decode cX9_shift 1 = .ok (.invokestatic 383, 3) := by decide +kernel
theorem dX9_shift_4 : decode cX9_shift 4 = .ok (.ifCond .eq 10, 3) := by decide +kernel
theorem dX9_shift_7 : decode cX9_shift 7 = .ok (.iload_n 3, 1) := by decide +kernel
theorem dX9_shift_8 : decode cX9_shift 8 = .ok (.invokestatic 383, 3) := by decide +kernel
theorem dX9_shift_11 : decode cX9_shift 11 = .ok (.ifCond .ne 5, 3) := by decide +kernel
theorem dX9_shift_14 : decode cX9_shift 14 = .ok (.iconst (-1), 1) := by decide +kernel
theorem dX9_shift_15 : decode cX9_shift 15 = .ok (.ireturn, 1) := by decide +kernel
theorem dX9_shift_16 : decode cX9_shift 16 = .ok (.aload_n 0, 1) := by decide +kernel
theorem dX9_shift_17 : decode cX9_shift 17 = .ok (.getfield 99, 3) := by decide +kernel
theorem dX9_shift_20 : decode cX9_shift 20 = .ok (.iload_n 1, 1) := by decide +kernel
theorem dX9_shift_21 : decode cX9_shift 21 = .ok (.iaload, 1) := by decide +kernel
theorem dX9_shift_22 : decode cX9_shift 22 = .ok (.ifCond .lt 12, 3) := by decide +kernel
theorem dX9_shift_25 : decode cX9_shift 25 = .ok (.aload_n 0, 1) := by decide +kernel
theorem dX9_shift_26 : decode cX9_shift 26 = .ok (.getfield 99, 3) := by decide +kernel
theorem dX9_shift_29 : decode cX9_shift 29 = .ok (.iload_n 3, 1) := by decide +kernel
theorem dX9_shift_30 : decode cX9_shift 30 = .ok (.iaload, 1) := by decide +kernel
theorem dX9_shift_31 : decode cX9_shift 31 = .ok (.ifCond .ge 6, 3) := by decide +kernel
theorem dX9_shift_34 : decode cX9_shift 34 = .ok (.bipush (-11), 2) := by decide +kernel
theorem dX9_shift_36 : decode cX9_shift 36 = .ok (.ireturn, 1) := by decide +kernel
theorem dX9_shift_37 : decode cX9_shift 37 = .ok (.aload_n 0, 1) := by decide +kernel
theorem dX9_shift_38 : decode cX9_shift 38 = .ok (.getfield 99, 3) := by decide +kernel
theorem dX9_shift_41 : decode cX9_shift 41 = .ok (.iload_n 1, 1) := by decide +kernel
theorem dX9_shift_42 : decode cX9_shift 42 = .ok (.iaload, 1) := by decide +kernel
theorem dX9_shift_43 : decode cX9_shift 43 = .ok (.aload_n 0, 1) := by decide +kernel
theorem dX9_shift_44 : decode cX9_shift 44 = .ok (.getfield 99, 3) := by decide +kernel
theorem dX9_shift_47 : decode cX9_shift 47 = .ok (.iload_n 3, 1) := by decide +kernel
theorem dX9_shift_48 : decode cX9_shift 48 = .ok (.iaload, 1) := by decide +kernel
theorem dX9_shift_49 : decode cX9_shift 49 = .ok (.if_icmp .eq 6, 3) := by decide +kernel
theorem dX9_shift_52 : decode cX9_shift 52 = .ok (.bipush (-12), 2) := by decide +kernel
theorem dX9_shift_54 : decode cX9_shift 54 = .ok (.ireturn, 1) := by decide +kernel
theorem dX9_shift_55 : decode cX9_shift 55 = .ok (.iload 5, 2) := by decide +kernel
theorem dX9_shift_57 : decode cX9_shift 57 = .ok (.ifCond .lt 61, 3) := by decide +kernel
theorem dX9_shift_60 : decode cX9_shift 60 = .ok (.iload_n 2, 1) := by decide +kernel
theorem dX9_shift_61 : decode cX9_shift 61 = .ok (.ifCond .lt 57, 3) := by decide +kernel
theorem dX9_shift_64 : decode cX9_shift 64 = .ok (.iload 4, 2) := by decide +kernel
theorem dX9_shift_66 : decode cX9_shift 66 = .ok (.ifCond .lt 52, 3) := by decide +kernel
theorem dX9_shift_69 : decode cX9_shift 69 = .ok (.iload 5, 2) := by decide +kernel
theorem dX9_shift_71 : decode cX9_shift 71 = .ok (.aload_n 0, 1) := by decide +kernel
theorem dX9_shift_72 : decode cX9_shift 72 = .ok (.getfield 102, 3) := by decide +kernel
theorem dX9_shift_75 : decode cX9_shift 75 = .ok (.iload_n 1, 1) := by decide +kernel
theorem dX9_shift_76 : decode cX9_shift 76 = .ok (.iaload, 1) := by decide +kernel
theorem dX9_shift_77 : decode cX9_shift 77 = .ok (.if_icmp .gt 41, 3) := by decide +kernel
theorem dX9_shift_80 : decode cX9_shift 80 = .ok (.iload 5, 2) := by decide +kernel
theorem dX9_shift_82 : decode cX9_shift 82 = .ok (.aload_n 0, 1) := by decide +kernel
theorem dX9_shift_83 : decode cX9_shift 83 = .ok (.getfield 102, 3) := by decide +kernel
theorem dX9_shift_86 : decode cX9_shift 86 = .ok (.iload_n 3, 1) := by decide +kernel
theorem dX9_shift_87 : decode cX9_shift 87 = .ok (.iaload, 1) := by decide +kernel
theorem dX9_shift_88 : decode cX9_shift 88 = .ok (.if_icmp .gt 30, 3) := by decide +kernel
theorem dX9_shift_91 : decode cX9_shift 91 = .ok (.iload_n 2, 1) := by decide +kernel
theorem dX9_shift_92 : decode cX9_shift 92 = .ok (.aload_n 0, 1) := by decide +kernel
theorem dX9_shift_93 : decode cX9_shift 93 = .ok (.getfield 102, 3) := by decide +kernel
theorem dX9_shift_96 : decode cX9_shift 96 = .ok (.iload_n 1, 1) := by decide +kernel
theorem dX9_shift_97 : decode cX9_shift 97 = .ok (.iaload, 1) := by decide +kernel
theorem dX9_shift_98 : decode cX9_shift 98 = .ok (.iload 5, 2) := by decide +kernel
theorem dX9_shift_100 : decode cX9_shift 100 = .ok (.isub, 1) := by decide +kernel
theorem dX9_shift_101 : decode cX9_shift 101 = .ok (.if_icmp .gt 17, 3) := by decide +kernel
theorem dX9_shift_104 : decode cX9_shift 104 = .ok (.iload 4, 2) := by decide +kernel
theorem dX9_shift_106 : decode cX9_shift 106 = .ok (.aload_n 0, 1) := by decide +kernel
theorem dX9_shift_107 : decode cX9_shift 107 = .ok (.getfield 102, 3) := by decide +kernel
theorem dX9_shift_110 : decode cX9_shift 110 = .ok (.iload_n 3, 1) := by decide +kernel
theorem dX9_shift_111 : decode cX9_shift 111 = .ok (.iaload, 1) := by decide +kernel
theorem dX9_shift_112 : decode cX9_shift 112 = .ok (.iload 5, 2) := by decide +kernel
theorem dX9_shift_114 : decode cX9_shift 114 = .ok (.isub, 1) := by decide +kernel
theorem dX9_shift_115 : decode cX9_shift 115 = .ok (.if_icmp .le 6, 3) := by decide +kernel
theorem dX9_shift_118 : decode cX9_shift 118 = .ok (.bipush (-13), 2) := by decide +kernel
theorem dX9_shift_120 : decode cX9_shift 120 = .ok (.ireturn, 1) := by decide +kernel
theorem dX9_shift_121 : decode cX9_shift 121 = .ok (.iconst 0, 1) := by decide +kernel
theorem dX9_shift_122 : decode cX9_shift 122 = .ok (.istore 6, 2) := by decide +kernel
theorem dX9_shift_124 : decode cX9_shift 124 = .ok (.iload 6, 2) := by decide +kernel
theorem dX9_shift_126 : decode cX9_shift 126 = .ok (.iload 5, 2) := by decide +kernel
theorem dX9_shift_128 : decode cX9_shift 128 = .ok (.if_icmp .ge 27, 3) := by decide +kernel
theorem dX9_shift_131 : decode cX9_shift 131 = .ok (.aload_n 0, 1) := by decide +kernel
theorem dX9_shift_132 : decode cX9_shift 132 = .ok (.getfield 105, 3) := by decide +kernel
theorem dX9_shift_135 : decode cX9_shift 135 = .ok (.iload 6, 2) := by decide +kernel
theorem dX9_shift_137 : decode cX9_shift 137 = .ok (.aload_n 0, 1) := by decide +kernel
theorem dX9_shift_138 : decode cX9_shift 138 = .ok (.getfield 96, 3) := by decide +kernel
theorem dX9_shift_141 : decode cX9_shift 141 = .ok (.iload_n 1, 1) := by decide +kernel
theorem dX9_shift_142 : decode cX9_shift 142 = .ok (.aaload, 1) := by decide +kernel
theorem dX9_shift_143 : decode cX9_shift 143 = .ok (.iload_n 2, 1) := by decide +kernel
theorem dX9_shift_144 : decode cX9_shift 144 = .ok (.iload 6, 2) := by decide +kernel
theorem dX9_shift_146 : decode cX9_shift 146 = .ok (.iadd, 1) := by decide +kernel
theorem dX9_shift_147 : decode cX9_shift 147 = .ok (.laload, 1) := by decide +kernel
theorem dX9_shift_148 : decode cX9_shift 148 = .ok (.lastore, 1) := by decide +kernel
theorem dX9_shift_149 : decode cX9_shift 149 = .ok (.iinc 6 1, 3) := by decide +kernel
theorem dX9_shift_152 : decode cX9_shift 152 = .ok (.goto (-28), 3) := by decide +kernel
theorem dX9_shift_155 : decode cX9_shift 155 = .ok (.iconst 0, 1) := by decide +kernel
theorem dX9_shift_156 : decode cX9_shift 156 = .ok (.istore 6, 2) := by decide +kernel
theorem dX9_shift_158 : decode cX9_shift 158 = .ok (.iload 6, 2) := by decide +kernel
theorem dX9_shift_160 : decode cX9_shift 160 = .ok (.iload 5, 2) := by decide +kernel
theorem dX9_shift_162 : decode cX9_shift 162 = .ok (.if_icmp .ge 28, 3) := by decide +kernel
theorem dX9_shift_165 : decode cX9_shift 165 = .ok (.aload_n 0, 1) := by decide +kernel
theorem dX9_shift_166 : decode cX9_shift 166 = .ok (.getfield 96, 3) := by decide +kernel
theorem dX9_shift_169 : decode cX9_shift 169 = .ok (.iload_n 3, 1) := by decide +kernel
theorem dX9_shift_170 : decode cX9_shift 170 = .ok (.aaload, 1) := by decide +kernel
theorem dX9_shift_171 : decode cX9_shift 171 = .ok (.iload 4, 2) := by decide +kernel
theorem dX9_shift_173 : decode cX9_shift 173 = .ok (.iload 6, 2) := by decide +kernel
theorem dX9_shift_175 : decode cX9_shift 175 = .ok (.iadd, 1) := by decide +kernel
theorem dX9_shift_176 : decode cX9_shift 176 = .ok (.aload_n 0, 1) := by decide +kernel
theorem dX9_shift_177 : decode cX9_shift 177 = .ok (.getfield 105, 3) := by decide +kernel
theorem dX9_shift_180 : decode cX9_shift 180 = .ok (.iload 6, 2) := by decide +kernel
theorem dX9_shift_182 : decode cX9_shift 182 = .ok (.laload, 1) := by decide +kernel
theorem dX9_shift_183 : decode cX9_shift 183 = .ok (.lastore, 1) := by decide +kernel
theorem dX9_shift_184 : decode cX9_shift 184 = .ok (.iinc 6 1, 3) := by decide +kernel
theorem dX9_shift_187 : decode cX9_shift 187 = .ok (.goto (-29), 3) := by decide +kernel
theorem dX9_shift_190 : decode cX9_shift 190 = .ok (.iload 5, 2) := by decide +kernel
theorem dX9_shift_192 : decode cX9_shift 192 = .ok (.ireturn, 1) := by decide +kernel
theorem dJ6_compare_7cf53_0 : decode cJ6_compare_7cf53 0 = .ok (.iload_n 0, 1) := by decide +kernel
theorem dJ6_compare_7cf53_1 : decode cJ6_compare_7cf53 1 = .ok (.iload_n 1, 1) := by decide +kernel
theorem dJ6_compare_7cf53_2 : decode cJ6_compare_7cf53 2 = .ok (.if_icmp .ge 7, 3) := by decide +kernel
theorem dJ6_compare_7cf53_5 : decode cJ6_compare_7cf53 5 = .ok (.iconst (-1), 1) := by decide +kernel
theorem dJ6_compare_7cf53_6 : decode cJ6_compare_7cf53 6 = .ok (.goto 13, 3) := by decide +kernel
theorem dJ6_compare_7cf53_9 : decode cJ6_compare_7cf53 9 = .ok (.iload_n 0, 1) := by decide +kernel
theorem dJ6_compare_7cf53_10 : decode cJ6_compare_7cf53 10 = .ok (.iload_n 1, 1) := by decide +kernel
theorem dJ6_compare_7cf53_11 : decode cJ6_compare_7cf53 11 = .ok (.if_icmp .ne 7, 3) := by decide +kernel
theorem dJ6_compare_7cf53_14 : decode cJ6_compare_7cf53 14 = .ok (.iconst 0, 1) := by decide +kernel
theorem dJ6_compare_7cf53_15 : decode cJ6_compare_7cf53 15 = .ok (.goto 4, 3) := by decide +kernel
theorem dJ6_compare_7cf53_18 : decode cJ6_compare_7cf53 18 = .ok (.iconst 1, 1) := by decide +kernel
theorem dJ6_compare_7cf53_19 : decode cJ6_compare_7cf53 19 = .ok (.ireturn, 1) := by decide +kernel
theorem dJ9_max_7cf53_0 : decode cJ9_max_7cf53 0 = .ok (.iload_n 0, 1) := by decide +kernel
theorem dJ9_max_7cf53_1 : decode cJ9_max_7cf53 1 = .ok (.iload_n 1, 1) := by decide +kernel
theorem dJ9_max_7cf53_2 : decode cJ9_max_7cf53 2 = .ok (.if_icmp .lt 7, 3) := by decide +kernel
theorem dJ9_max_7cf53_5 : decode cJ9_max_7cf53 5 = .ok (.iload_n 0, 1) := by decide +kernel
theorem dJ9_max_7cf53_6 : decode cJ9_max_7cf53 6 = .ok (.goto 4, 3) := by decide +kernel
theorem dJ9_max_7cf53_9 : decode cJ9_max_7cf53 9 = .ok (.iload_n 1, 1) := by decide +kernel
theorem dJ9_max_7cf53_10 : decode cJ9_max_7cf53 10 = .ok (.ireturn, 1) := by decide +kernel
theorem dJ9_min_7cf53_0 : decode cJ9_min_7cf53 0 = .ok (.iload_n 0, 1) := by decide +kernel
theorem dJ9_min_7cf53_1 : decode cJ9_min_7cf53 1 = .ok (.iload_n 1, 1) := by decide +kernel
theorem dJ9_min_7cf53_2 : decode cJ9_min_7cf53 2 = .ok (.if_icmp .gt 7, 3) := by decide +kernel
theorem dJ9_min_7cf53_5 : decode cJ9_min_7cf53 5 = .ok (.iload_n 0, 1) := by decide +kernel
theorem dJ9_min_7cf53_6 : decode cJ9_min_7cf53 6 = .ok (.goto 4, 3) := by decide +kernel
theorem dJ9_min_7cf53_9 : decode cJ9_min_7cf53 9 = .ok (.iload_n 1, 1) := by decide +kernel
theorem dJ9_min_7cf53_10 : decode cJ9_min_7cf53 10 = .ok (.ireturn, 1) := by decide +kernel
theorem dJ7_fill_d0a16_0 : decode cJ7_fill_d0a16 0 = .ok (.iconst 0, 1) := by decide +kernel
theorem dJ7_fill_d0a16_1 : decode cJ7_fill_d0a16 1 = .ok (.istore_n 3, 1) := by decide +kernel
theorem dJ7_fill_d0a16_2 : decode cJ7_fill_d0a16 2 = .ok (.aload_n 0, 1) := by decide +kernel
theorem dJ7_fill_d0a16_3 : decode cJ7_fill_d0a16 3 = .ok (.arraylength, 1) := by decide +kernel
theorem dJ7_fill_d0a16_4 : decode cJ7_fill_d0a16 4 = .ok (.istore 4, 2) := by decide +kernel
theorem dJ7_fill_d0a16_6 : decode cJ7_fill_d0a16 6 = .ok (.iload_n 3, 1) := by decide +kernel
theorem dJ7_fill_d0a16_7 : decode cJ7_fill_d0a16 7 = .ok (.iload 4, 2) := by decide +kernel
theorem dJ7_fill_d0a16_9 : decode cJ7_fill_d0a16 9 = .ok (.if_icmp .ge 13, 3) := by decide +kernel
theorem dJ7_fill_d0a16_12 : decode cJ7_fill_d0a16 12 = .ok (.aload_n 0, 1) := by decide +kernel
theorem dJ7_fill_d0a16_13 : decode cJ7_fill_d0a16 13 = .ok (.iload_n 3, 1) := by decide +kernel
theorem dJ7_fill_d0a16_14 : decode cJ7_fill_d0a16 14 = .ok (.lload_n 1, 1) := by decide +kernel
theorem dJ7_fill_d0a16_15 : decode cJ7_fill_d0a16 15 = .ok (.lastore, 1) := by decide +kernel
theorem dJ7_fill_d0a16_16 : decode cJ7_fill_d0a16 16 = .ok (.iinc 3 1, 3) := by decide +kernel
theorem dJ7_fill_d0a16_19 : decode cJ7_fill_d0a16 19 = .ok (.goto (-13), 3) := by decide +kernel
theorem dJ7_fill_d0a16_22 : decode cJ7_fill_d0a16 22 = .ok (.return_, 1) := by decide +kernel
theorem dJ7_fill_53178_0 : decode cJ7_fill_53178 0 = .ok (.iconst 0, 1) := by decide +kernel
theorem dJ7_fill_53178_1 : decode cJ7_fill_53178 1 = .ok (.istore_n 2, 1) := by decide +kernel
theorem dJ7_fill_53178_2 : decode cJ7_fill_53178 2 = .ok (.aload_n 0, 1) := by decide +kernel
theorem dJ7_fill_53178_3 : decode cJ7_fill_53178 3 = .ok (.arraylength, 1) := by decide +kernel
theorem dJ7_fill_53178_4 : decode cJ7_fill_53178 4 = .ok (.istore_n 3, 1) := by decide +kernel
theorem dJ7_fill_53178_5 : decode cJ7_fill_53178 5 = .ok (.iload_n 2, 1) := by decide +kernel
theorem dJ7_fill_53178_6 : decode cJ7_fill_53178 6 = .ok (.iload_n 3, 1) := by decide +kernel
theorem dJ7_fill_53178_7 : decode cJ7_fill_53178 7 = .ok (.if_icmp .ge 13, 3) := by decide +kernel
theorem dJ7_fill_53178_10 : decode cJ7_fill_53178 10 = .ok (.aload_n 0, 1) := by decide +kernel
theorem dJ7_fill_53178_11 : decode cJ7_fill_53178 11 = .ok (.iload_n 2, 1) := by decide +kernel
theorem dJ7_fill_53178_12 : decode cJ7_fill_53178 12 = .ok (.iload_n 1, 1) := by decide +kernel
theorem dJ7_fill_53178_13 : decode cJ7_fill_53178 13 = .ok (.iastore, 1) := by decide +kernel
theorem dJ7_fill_53178_14 : decode cJ7_fill_53178 14 = .ok (.iinc 2 1, 3) := by decide +kernel
theorem dJ7_fill_53178_17 : decode cJ7_fill_53178 17 = .ok (.goto (-12), 3) := by decide +kernel
theorem dJ7_fill_53178_20 : decode cJ7_fill_53178 20 = .ok (.return_, 1) := by decide +kernel
theorem dL_law_0 : decode cL_law 0 = .ok (.new 7, 3) := by decide +kernel
theorem dL_law_3 : decode cL_law 3 = .ok (.dup, 1) := by decide +kernel
theorem dL_law_4 : decode cL_law 4 = .ok (.invokespecial 9, 3) := by decide +kernel
theorem dL_law_7 : decode cL_law 7 = .ok (.astore_n 1, 1) := by decide +kernel
theorem dL_law_8 : decode cL_law 8 = .ok (.new 10, 3) := by decide +kernel
theorem dL_law_11 : decode cL_law 11 = .ok (.dup, 1) := by decide +kernel
theorem dL_law_12 : decode cL_law 12 = .ok (.invokespecial 12, 3) := by decide +kernel
theorem dL_law_15 : decode cL_law 15 = .ok (.astore_n 2, 1) := by decide +kernel
theorem dL_law_16 : decode cL_law 16 = .ok (.iconst 0, 1) := by decide +kernel
theorem dL_law_17 : decode cL_law 17 = .ok (.istore_n 3, 1) := by decide +kernel
theorem dL_law_18 : decode cL_law 18 = .ok (.iload_n 3, 1) := by decide +kernel
theorem dL_law_19 : decode cL_law 19 = .ok (.aload_n 0, 1) := by decide +kernel
theorem dL_law_20 : decode cL_law 20 = .ok (.arraylength, 1) := by decide +kernel
theorem dL_law_21 : decode cL_law 21 = .ok (.bipush 6, 2) := by decide +kernel
theorem dL_law_23 : decode cL_law 23 = .ok (.isub, 1) := by decide +kernel
theorem dL_law_24 : decode cL_law 24 = .ok (.if_icmp .gt 1509, 3) := by decide +kernel
theorem dL_law_27 : decode cL_law 27 = .ok (.aload_n 0, 1) := by decide +kernel
theorem dL_law_28 : decode cL_law 28 = .ok (.iload_n 3, 1) := by decide +kernel
theorem dL_law_29 : decode cL_law 29 = .ok (.iaload, 1) := by decide +kernel
theorem dL_law_30 : decode cL_law 30 = .ok (.bipush 63, 2) := by decide +kernel
theorem dL_law_32 : decode cL_law 32 = .ok (.iand, 1) := by decide +kernel
theorem dL_law_33 : decode cL_law 33 = .ok (.tableswitch 1494 0 38 #[171, 204, 237, 290, 343, 386, 429, 452, 465, 488, 521, 554, 587, 621, 655, 698, 721, 744, 777, 820, 843, 877, 910, 933, 976, 1019, 1063, 1087, 1120, 1143, 1186, 1199, 1232, 1245, 1258, 1281, 1324, 1397, 1431], 171) := by decide +kernel
theorem dL_law_204 : decode cL_law 204 = .ok (.aload_n 1, 1) := by decide +kernel
theorem dL_law_205 : decode cL_law 205 = .ok (.aload_n 0, 1) := by decide +kernel
theorem dL_law_206 : decode cL_law 206 = .ok (.iload_n 3, 1) := by decide +kernel
theorem dL_law_207 : decode cL_law 207 = .ok (.iconst 1, 1) := by decide +kernel
theorem dL_law_208 : decode cL_law 208 = .ok (.iadd, 1) := by decide +kernel
theorem dL_law_209 : decode cL_law 209 = .ok (.iaload, 1) := by decide +kernel
theorem dL_law_210 : decode cL_law 210 = .ok (.aload_n 0, 1) := by decide +kernel
theorem dL_law_211 : decode cL_law 211 = .ok (.iload_n 3, 1) := by decide +kernel
theorem dL_law_212 : decode cL_law 212 = .ok (.iconst 2, 1) := by decide +kernel
theorem dL_law_213 : decode cL_law 213 = .ok (.iadd, 1) := by decide +kernel
theorem dL_law_214 : decode cL_law 214 = .ok (.iaload, 1) := by decide +kernel
theorem dL_law_215 : decode cL_law 215 = .ok (.invokevirtual 13, 3) := by decide +kernel
theorem dL_law_218 : decode cL_law 218 = .ok (.aload_n 2, 1) := by decide +kernel
theorem dL_law_219 : decode cL_law 219 = .ok (.aload_n 0, 1) := by decide +kernel
theorem dL_law_220 : decode cL_law 220 = .ok (.iload_n 3, 1) := by decide +kernel
theorem dL_law_221 : decode cL_law 221 = .ok (.iconst 1, 1) := by decide +kernel
theorem dL_law_222 : decode cL_law 222 = .ok (.iadd, 1) := by decide +kernel
theorem dL_law_223 : decode cL_law 223 = .ok (.iaload, 1) := by decide +kernel
theorem dL_law_224 : decode cL_law 224 = .ok (.aload_n 0, 1) := by decide +kernel
theorem dL_law_225 : decode cL_law 225 = .ok (.iload_n 3, 1) := by decide +kernel
theorem dL_law_226 : decode cL_law 226 = .ok (.iconst 2, 1) := by decide +kernel
theorem dL_law_227 : decode cL_law 227 = .ok (.iadd, 1) := by decide +kernel
theorem dL_law_228 : decode cL_law 228 = .ok (.iaload, 1) := by decide +kernel
theorem dL_law_229 : decode cL_law 229 = .ok (.invokevirtual 17, 3) := by decide +kernel
theorem dL_law_232 : decode cL_law 232 = .ok (.if_icmp .eq 1295, 3) := by decide +kernel
theorem dL_law_235 : decode cL_law 235 = .ok (.iconst 0, 1) := by decide +kernel
theorem dL_law_236 : decode cL_law 236 = .ok (.ireturn, 1) := by decide +kernel
theorem dL_law_237 : decode cL_law 237 = .ok (.aload_n 1, 1) := by decide +kernel
theorem dL_law_238 : decode cL_law 238 = .ok (.aload_n 0, 1) := by decide +kernel
theorem dL_law_239 : decode cL_law 239 = .ok (.iload_n 3, 1) := by decide +kernel
theorem dL_law_240 : decode cL_law 240 = .ok (.iconst 1, 1) := by decide +kernel
theorem dL_law_241 : decode cL_law 241 = .ok (.iadd, 1) := by decide +kernel
theorem dL_law_242 : decode cL_law 242 = .ok (.iaload, 1) := by decide +kernel
theorem dL_law_243 : decode cL_law 243 = .ok (.aload_n 0, 1) := by decide +kernel
theorem dL_law_244 : decode cL_law 244 = .ok (.iload_n 3, 1) := by decide +kernel
theorem dL_law_245 : decode cL_law 245 = .ok (.iconst 2, 1) := by decide +kernel
theorem dL_law_246 : decode cL_law 246 = .ok (.iadd, 1) := by decide +kernel
theorem dL_law_247 : decode cL_law 247 = .ok (.iaload, 1) := by decide +kernel
theorem dL_law_248 : decode cL_law 248 = .ok (.invokevirtual 18, 3) := by decide +kernel
theorem dL_law_251 : decode cL_law 251 = .ok (.aload_n 2, 1) := by decide +kernel
theorem dL_law_252 : decode cL_law 252 = .ok (.aload_n 0, 1) := by decide +kernel
theorem dL_law_253 : decode cL_law 253 = .ok (.iload_n 3, 1) := by decide +kernel
theorem dL_law_254 : decode cL_law 254 = .ok (.iconst 1, 1) := by decide +kernel
theorem dL_law_255 : decode cL_law 255 = .ok (.iadd, 1) := by decide +kernel
theorem dL_law_256 : decode cL_law 256 = .ok (.iaload, 1) := by decide +kernel
theorem dL_law_257 : decode cL_law 257 = .ok (.aload_n 0, 1) := by decide +kernel
theorem dL_law_258 : decode cL_law 258 = .ok (.iload_n 3, 1) := by decide +kernel
theorem dL_law_259 : decode cL_law 259 = .ok (.iconst 2, 1) := by decide +kernel
theorem dL_law_260 : decode cL_law 260 = .ok (.iadd, 1) := by decide +kernel
theorem dL_law_261 : decode cL_law 261 = .ok (.iaload, 1) := by decide +kernel
theorem dL_law_262 : decode cL_law 262 = .ok (.invokevirtual 21, 3) := by decide +kernel
theorem dL_law_265 : decode cL_law 265 = .ok (.if_icmp .eq 1262, 3) := by decide +kernel
theorem dL_law_268 : decode cL_law 268 = .ok (.iconst 0, 1) := by decide +kernel
theorem dL_law_269 : decode cL_law 269 = .ok (.ireturn, 1) := by decide +kernel
theorem dL_law_270 : decode cL_law 270 = .ok (.aload_n 1, 1) := by decide +kernel
theorem dL_law_271 : decode cL_law 271 = .ok (.aload_n 0, 1) := by decide +kernel
theorem dL_law_272 : decode cL_law 272 = .ok (.iload_n 3, 1) := by decide +kernel
theorem dL_law_273 : decode cL_law 273 = .ok (.iconst 1, 1) := by decide +kernel
theorem dL_law_274 : decode cL_law 274 = .ok (.iadd, 1) := by decide +kernel
theorem dL_law_275 : decode cL_law 275 = .ok (.iaload, 1) := by decide +kernel
theorem dL_law_276 : decode cL_law 276 = .ok (.aload_n 0, 1) := by decide +kernel
theorem dL_law_277 : decode cL_law 277 = .ok (.iload_n 3, 1) := by decide +kernel
theorem dL_law_278 : decode cL_law 278 = .ok (.iconst 2, 1) := by decide +kernel
theorem dL_law_279 : decode cL_law 279 = .ok (.iadd, 1) := by decide +kernel
theorem dL_law_280 : decode cL_law 280 = .ok (.iaload, 1) := by decide +kernel
theorem dL_law_281 : decode cL_law 281 = .ok (.aload_n 0, 1) := by decide +kernel
theorem dL_law_282 : decode cL_law 282 = .ok (.iload_n 3, 1) := by decide +kernel
theorem dL_law_283 : decode cL_law 283 = .ok (.iconst 3, 1) := by decide +kernel
theorem dL_law_284 : decode cL_law 284 = .ok (.iadd, 1) := by decide +kernel
theorem dL_law_285 : decode cL_law 285 = .ok (.iaload, 1) := by decide +kernel
theorem dL_law_286 : decode cL_law 286 = .ok (.aload_n 0, 1) := by decide +kernel
theorem dL_law_287 : decode cL_law 287 = .ok (.iload_n 3, 1) := by decide +kernel
theorem dL_law_288 : decode cL_law 288 = .ok (.iconst 4, 1) := by decide +kernel
theorem dL_law_289 : decode cL_law 289 = .ok (.iadd, 1) := by decide +kernel
theorem dL_law_290 : decode cL_law 290 = .ok (.iaload, 1) := by decide +kernel
theorem dL_law_291 : decode cL_law 291 = .ok (.invokevirtual 22, 3) := by decide +kernel
theorem dL_law_294 : decode cL_law 294 = .ok (.aload_n 2, 1) := by decide +kernel
theorem dL_law_295 : decode cL_law 295 = .ok (.aload_n 0, 1) := by decide +kernel
theorem dL_law_296 : decode cL_law 296 = .ok (.iload_n 3, 1) := by decide +kernel
theorem dL_law_297 : decode cL_law 297 = .ok (.iconst 1, 1) := by decide +kernel
theorem dL_law_298 : decode cL_law 298 = .ok (.iadd, 1) := by decide +kernel
theorem dL_law_299 : decode cL_law 299 = .ok (.iaload, 1) := by decide +kernel
theorem dL_law_300 : decode cL_law 300 = .ok (.aload_n 0, 1) := by decide +kernel
theorem dL_law_301 : decode cL_law 301 = .ok (.iload_n 3, 1) := by decide +kernel
theorem dL_law_302 : decode cL_law 302 = .ok (.iconst 2, 1) := by decide +kernel
theorem dL_law_303 : decode cL_law 303 = .ok (.iadd, 1) := by decide +kernel
theorem dL_law_304 : decode cL_law 304 = .ok (.iaload, 1) := by decide +kernel
theorem dL_law_305 : decode cL_law 305 = .ok (.aload_n 0, 1) := by decide +kernel
theorem dL_law_306 : decode cL_law 306 = .ok (.iload_n 3, 1) := by decide +kernel
theorem dL_law_307 : decode cL_law 307 = .ok (.iconst 3, 1) := by decide +kernel
theorem dL_law_308 : decode cL_law 308 = .ok (.iadd, 1) := by decide +kernel
theorem dL_law_309 : decode cL_law 309 = .ok (.iaload, 1) := by decide +kernel
theorem dL_law_310 : decode cL_law 310 = .ok (.aload_n 0, 1) := by decide +kernel
theorem dL_law_311 : decode cL_law 311 = .ok (.iload_n 3, 1) := by decide +kernel
theorem dL_law_312 : decode cL_law 312 = .ok (.iconst 4, 1) := by decide +kernel
theorem dL_law_313 : decode cL_law 313 = .ok (.iadd, 1) := by decide +kernel
theorem dL_law_314 : decode cL_law 314 = .ok (.iaload, 1) := by decide +kernel
theorem dL_law_315 : decode cL_law 315 = .ok (.invokevirtual 26, 3) := by decide +kernel
theorem dL_law_318 : decode cL_law 318 = .ok (.if_icmp .eq 1209, 3) := by decide +kernel
theorem dL_law_321 : decode cL_law 321 = .ok (.iconst 0, 1) := by decide +kernel
theorem dL_law_322 : decode cL_law 322 = .ok (.ireturn, 1) := by decide +kernel
theorem dL_law_323 : decode cL_law 323 = .ok (.aload_n 1, 1) := by decide +kernel
theorem dL_law_324 : decode cL_law 324 = .ok (.aload_n 0, 1) := by decide +kernel
theorem dL_law_325 : decode cL_law 325 = .ok (.iload_n 3, 1) := by decide +kernel
theorem dL_law_326 : decode cL_law 326 = .ok (.iconst 1, 1) := by decide +kernel
theorem dL_law_327 : decode cL_law 327 = .ok (.iadd, 1) := by decide +kernel
theorem dL_law_328 : decode cL_law 328 = .ok (.iaload, 1) := by decide +kernel
theorem dL_law_329 : decode cL_law 329 = .ok (.aload_n 0, 1) := by decide +kernel
theorem dL_law_330 : decode cL_law 330 = .ok (.iload_n 3, 1) := by decide +kernel
theorem dL_law_331 : decode cL_law 331 = .ok (.iconst 2, 1) := by decide +kernel
theorem dL_law_332 : decode cL_law 332 = .ok (.iadd, 1) := by decide +kernel
theorem dL_law_333 : decode cL_law 333 = .ok (.iaload, 1) := by decide +kernel
theorem dL_law_334 : decode cL_law 334 = .ok (.aload_n 0, 1) := by decide +kernel
theorem dL_law_335 : decode cL_law 335 = .ok (.iload_n 3, 1) := by decide +kernel
theorem dL_law_336 : decode cL_law 336 = .ok (.iconst 3, 1) := by decide +kernel
theorem dL_law_337 : decode cL_law 337 = .ok (.iadd, 1) := by decide +kernel
theorem dL_law_338 : decode cL_law 338 = .ok (.iaload, 1) := by decide +kernel
theorem dL_law_339 : decode cL_law 339 = .ok (.aload_n 0, 1) := by decide +kernel
theorem dL_law_340 : decode cL_law 340 = .ok (.iload_n 3, 1) := by decide +kernel
theorem dL_law_341 : decode cL_law 341 = .ok (.iconst 4, 1) := by decide +kernel
theorem dL_law_342 : decode cL_law 342 = .ok (.iadd, 1) := by decide +kernel
theorem dL_law_343 : decode cL_law 343 = .ok (.iaload, 1) := by decide +kernel
theorem dL_law_344 : decode cL_law 344 = .ok (.invokevirtual 27, 3) := by decide +kernel
theorem dL_law_347 : decode cL_law 347 = .ok (.aload_n 2, 1) := by decide +kernel
theorem dL_law_348 : decode cL_law 348 = .ok (.aload_n 0, 1) := by decide +kernel
theorem dL_law_349 : decode cL_law 349 = .ok (.iload_n 3, 1) := by decide +kernel
theorem dL_law_350 : decode cL_law 350 = .ok (.iconst 1, 1) := by decide +kernel
theorem dL_law_351 : decode cL_law 351 = .ok (.iadd, 1) := by decide +kernel
theorem dL_law_352 : decode cL_law 352 = .ok (.iaload, 1) := by decide +kernel
theorem dL_law_353 : decode cL_law 353 = .ok (.aload_n 0, 1) := by decide +kernel
theorem dL_law_354 : decode cL_law 354 = .ok (.iload_n 3, 1) := by decide +kernel
theorem dL_law_355 : decode cL_law 355 = .ok (.iconst 2, 1) := by decide +kernel
theorem dL_law_356 : decode cL_law 356 = .ok (.iadd, 1) := by decide +kernel
theorem dL_law_357 : decode cL_law 357 = .ok (.iaload, 1) := by decide +kernel
theorem dL_law_358 : decode cL_law 358 = .ok (.aload_n 0, 1) := by decide +kernel
theorem dL_law_359 : decode cL_law 359 = .ok (.iload_n 3, 1) := by decide +kernel
theorem dL_law_360 : decode cL_law 360 = .ok (.iconst 3, 1) := by decide +kernel
theorem dL_law_361 : decode cL_law 361 = .ok (.iadd, 1) := by decide +kernel
theorem dL_law_362 : decode cL_law 362 = .ok (.iaload, 1) := by decide +kernel
theorem dL_law_363 : decode cL_law 363 = .ok (.aload_n 0, 1) := by decide +kernel
theorem dL_law_364 : decode cL_law 364 = .ok (.iload_n 3, 1) := by decide +kernel
theorem dL_law_365 : decode cL_law 365 = .ok (.iconst 4, 1) := by decide +kernel
theorem dL_law_366 : decode cL_law 366 = .ok (.iadd, 1) := by decide +kernel
theorem dL_law_367 : decode cL_law 367 = .ok (.iaload, 1) := by decide +kernel
theorem dL_law_368 : decode cL_law 368 = .ok (.invokevirtual 30, 3) := by decide +kernel
theorem dL_law_371 : decode cL_law 371 = .ok (.if_icmp .eq 1156, 3) := by decide +kernel
theorem dL_law_374 : decode cL_law 374 = .ok (.iconst 0, 1) := by decide +kernel
theorem dL_law_375 : decode cL_law 375 = .ok (.ireturn, 1) := by decide +kernel
theorem dL_law_376 : decode cL_law 376 = .ok (.aload_n 1, 1) := by decide +kernel
theorem dL_law_377 : decode cL_law 377 = .ok (.aload_n 0, 1) := by decide +kernel
theorem dL_law_378 : decode cL_law 378 = .ok (.iload_n 3, 1) := by decide +kernel
theorem dL_law_379 : decode cL_law 379 = .ok (.iconst 1, 1) := by decide +kernel
theorem dL_law_380 : decode cL_law 380 = .ok (.iadd, 1) := by decide +kernel
theorem dL_law_381 : decode cL_law 381 = .ok (.iaload, 1) := by decide +kernel
theorem dL_law_382 : decode cL_law 382 = .ok (.aload_n 0, 1) := by decide +kernel
theorem dL_law_383 : decode cL_law 383 = .ok (.iload_n 3, 1) := by decide +kernel
theorem dL_law_384 : decode cL_law 384 = .ok (.iconst 2, 1) := by decide +kernel
theorem dL_law_385 : decode cL_law 385 = .ok (.iadd, 1) := by decide +kernel
theorem dL_law_386 : decode cL_law 386 = .ok (.iaload, 1) := by decide +kernel
theorem dL_law_387 : decode cL_law 387 = .ok (.aload_n 0, 1) := by decide +kernel
theorem dL_law_388 : decode cL_law 388 = .ok (.iload_n 3, 1) := by decide +kernel
theorem dL_law_389 : decode cL_law 389 = .ok (.iconst 3, 1) := by decide +kernel
theorem dL_law_390 : decode cL_law 390 = .ok (.iadd, 1) := by decide +kernel
theorem dL_law_391 : decode cL_law 391 = .ok (.iaload, 1) := by decide +kernel
theorem dL_law_392 : decode cL_law 392 = .ok (.invokevirtual 31, 3) := by decide +kernel
theorem dL_law_395 : decode cL_law 395 = .ok (.aload_n 2, 1) := by decide +kernel
theorem dL_law_396 : decode cL_law 396 = .ok (.aload_n 0, 1) := by decide +kernel
theorem dL_law_397 : decode cL_law 397 = .ok (.iload_n 3, 1) := by decide +kernel
theorem dL_law_398 : decode cL_law 398 = .ok (.iconst 1, 1) := by decide +kernel
theorem dL_law_399 : decode cL_law 399 = .ok (.iadd, 1) := by decide +kernel
theorem dL_law_400 : decode cL_law 400 = .ok (.iaload, 1) := by decide +kernel
theorem dL_law_401 : decode cL_law 401 = .ok (.aload_n 0, 1) := by decide +kernel
theorem dL_law_402 : decode cL_law 402 = .ok (.iload_n 3, 1) := by decide +kernel
theorem dL_law_403 : decode cL_law 403 = .ok (.iconst 2, 1) := by decide +kernel
theorem dL_law_404 : decode cL_law 404 = .ok (.iadd, 1) := by decide +kernel
theorem dL_law_405 : decode cL_law 405 = .ok (.iaload, 1) := by decide +kernel
theorem dL_law_406 : decode cL_law 406 = .ok (.aload_n 0, 1) := by decide +kernel
theorem dL_law_407 : decode cL_law 407 = .ok (.iload_n 3, 1) := by decide +kernel
theorem dL_law_408 : decode cL_law 408 = .ok (.iconst 3, 1) := by decide +kernel
theorem dL_law_409 : decode cL_law 409 = .ok (.iadd, 1) := by decide +kernel
theorem dL_law_410 : decode cL_law 410 = .ok (.iaload, 1) := by decide +kernel
theorem dL_law_411 : decode cL_law 411 = .ok (.invokevirtual 35, 3) := by decide +kernel
theorem dL_law_414 : decode cL_law 414 = .ok (.if_icmp .eq 1113, 3) := by decide +kernel
theorem dL_law_417 : decode cL_law 417 = .ok (.iconst 0, 1) := by decide +kernel
theorem dL_law_418 : decode cL_law 418 = .ok (.ireturn, 1) := by decide +kernel
theorem dL_law_419 : decode cL_law 419 = .ok (.aload_n 1, 1) := by decide +kernel
theorem dL_law_420 : decode cL_law 420 = .ok (.aload_n 0, 1) := by decide +kernel
theorem dL_law_421 : decode cL_law 421 = .ok (.iload_n 3, 1) := by decide +kernel
theorem dL_law_422 : decode cL_law 422 = .ok (.iconst 1, 1) := by decide +kernel
theorem dL_law_423 : decode cL_law 423 = .ok (.iadd, 1) := by decide +kernel
theorem dL_law_424 : decode cL_law 424 = .ok (.iaload, 1) := by decide +kernel
theorem dL_law_425 : decode cL_law 425 = .ok (.aload_n 0, 1) := by decide +kernel
theorem dL_law_426 : decode cL_law 426 = .ok (.iload_n 3, 1) := by decide +kernel
theorem dL_law_427 : decode cL_law 427 = .ok (.iconst 2, 1) := by decide +kernel
theorem dL_law_428 : decode cL_law 428 = .ok (.iadd, 1) := by decide +kernel
theorem dL_law_429 : decode cL_law 429 = .ok (.iaload, 1) := by decide +kernel
theorem dL_law_430 : decode cL_law 430 = .ok (.aload_n 0, 1) := by decide +kernel
theorem dL_law_431 : decode cL_law 431 = .ok (.iload_n 3, 1) := by decide +kernel
theorem dL_law_432 : decode cL_law 432 = .ok (.iconst 3, 1) := by decide +kernel
theorem dL_law_433 : decode cL_law 433 = .ok (.iadd, 1) := by decide +kernel
theorem dL_law_434 : decode cL_law 434 = .ok (.iaload, 1) := by decide +kernel
theorem dL_law_435 : decode cL_law 435 = .ok (.invokevirtual 36, 3) := by decide +kernel
theorem dL_law_438 : decode cL_law 438 = .ok (.aload_n 2, 1) := by decide +kernel
theorem dL_law_439 : decode cL_law 439 = .ok (.aload_n 0, 1) := by decide +kernel
theorem dL_law_440 : decode cL_law 440 = .ok (.iload_n 3, 1) := by decide +kernel
theorem dL_law_441 : decode cL_law 441 = .ok (.iconst 1, 1) := by decide +kernel
theorem dL_law_442 : decode cL_law 442 = .ok (.iadd, 1) := by decide +kernel
theorem dL_law_443 : decode cL_law 443 = .ok (.iaload, 1) := by decide +kernel
theorem dL_law_444 : decode cL_law 444 = .ok (.aload_n 0, 1) := by decide +kernel
theorem dL_law_445 : decode cL_law 445 = .ok (.iload_n 3, 1) := by decide +kernel
theorem dL_law_446 : decode cL_law 446 = .ok (.iconst 2, 1) := by decide +kernel
theorem dL_law_447 : decode cL_law 447 = .ok (.iadd, 1) := by decide +kernel
theorem dL_law_448 : decode cL_law 448 = .ok (.iaload, 1) := by decide +kernel
theorem dL_law_449 : decode cL_law 449 = .ok (.aload_n 0, 1) := by decide +kernel
theorem dL_law_450 : decode cL_law 450 = .ok (.iload_n 3, 1) := by decide +kernel
theorem dL_law_451 : decode cL_law 451 = .ok (.iconst 3, 1) := by decide +kernel
theorem dL_law_452 : decode cL_law 452 = .ok (.iadd, 1) := by decide +kernel
theorem dL_law_453 : decode cL_law 453 = .ok (.iaload, 1) := by decide +kernel
theorem dL_law_454 : decode cL_law 454 = .ok (.invokevirtual 39, 3) := by decide +kernel
theorem dL_law_457 : decode cL_law 457 = .ok (.if_icmp .eq 1070, 3) := by decide +kernel
theorem dL_law_460 : decode cL_law 460 = .ok (.iconst 0, 1) := by decide +kernel
theorem dL_law_461 : decode cL_law 461 = .ok (.ireturn, 1) := by decide +kernel
theorem dL_law_462 : decode cL_law 462 = .ok (.aload_n 1, 1) := by decide +kernel
theorem dL_law_463 : decode cL_law 463 = .ok (.aload_n 0, 1) := by decide +kernel
theorem dL_law_464 : decode cL_law 464 = .ok (.iload_n 3, 1) := by decide +kernel
theorem dL_law_465 : decode cL_law 465 = .ok (.iconst 1, 1) := by decide +kernel
theorem dL_law_466 : decode cL_law 466 = .ok (.iadd, 1) := by decide +kernel
theorem dL_law_467 : decode cL_law 467 = .ok (.iaload, 1) := by decide +kernel
theorem dL_law_468 : decode cL_law 468 = .ok (.invokevirtual 40, 3) := by decide +kernel
theorem dL_law_471 : decode cL_law 471 = .ok (.aload_n 2, 1) := by decide +kernel
theorem dL_law_472 : decode cL_law 472 = .ok (.aload_n 0, 1) := by decide +kernel
theorem dL_law_473 : decode cL_law 473 = .ok (.iload_n 3, 1) := by decide +kernel
theorem dL_law_474 : decode cL_law 474 = .ok (.iconst 1, 1) := by decide +kernel
theorem dL_law_475 : decode cL_law 475 = .ok (.iadd, 1) := by decide +kernel
theorem dL_law_476 : decode cL_law 476 = .ok (.iaload, 1) := by decide +kernel
theorem dL_law_477 : decode cL_law 477 = .ok (.invokevirtual 44, 3) := by decide +kernel
theorem dL_law_480 : decode cL_law 480 = .ok (.if_icmp .eq 1047, 3) := by decide +kernel
theorem dL_law_483 : decode cL_law 483 = .ok (.iconst 0, 1) := by decide +kernel
theorem dL_law_484 : decode cL_law 484 = .ok (.ireturn, 1) := by decide +kernel
theorem dL_law_485 : decode cL_law 485 = .ok (.aload_n 1, 1) := by decide +kernel
theorem dL_law_486 : decode cL_law 486 = .ok (.invokevirtual 45, 3) := by decide +kernel
theorem dL_law_489 : decode cL_law 489 = .ok (.aload_n 2, 1) := by decide +kernel
theorem dL_law_490 : decode cL_law 490 = .ok (.invokevirtual 49, 3) := by decide +kernel
theorem dL_law_493 : decode cL_law 493 = .ok (.if_icmp .eq 1034, 3) := by decide +kernel
theorem dL_law_496 : decode cL_law 496 = .ok (.iconst 0, 1) := by decide +kernel
theorem dL_law_497 : decode cL_law 497 = .ok (.ireturn, 1) := by decide +kernel
theorem dL_law_498 : decode cL_law 498 = .ok (.aload_n 1, 1) := by decide +kernel
theorem dL_law_499 : decode cL_law 499 = .ok (.aload_n 0, 1) := by decide +kernel
theorem dL_law_500 : decode cL_law 500 = .ok (.iload_n 3, 1) := by decide +kernel
theorem dL_law_501 : decode cL_law 501 = .ok (.iconst 1, 1) := by decide +kernel
theorem dL_law_502 : decode cL_law 502 = .ok (.iadd, 1) := by decide +kernel
theorem dL_law_503 : decode cL_law 503 = .ok (.iaload, 1) := by decide +kernel
theorem dL_law_504 : decode cL_law 504 = .ok (.invokevirtual 50, 3) := by decide +kernel
theorem dL_law_507 : decode cL_law 507 = .ok (.aload_n 2, 1) := by decide +kernel
theorem dL_law_508 : decode cL_law 508 = .ok (.aload_n 0, 1) := by decide +kernel
theorem dL_law_509 : decode cL_law 509 = .ok (.iload_n 3, 1) := by decide +kernel
theorem dL_law_510 : decode cL_law 510 = .ok (.iconst 1, 1) := by decide +kernel
theorem dL_law_511 : decode cL_law 511 = .ok (.iadd, 1) := by decide +kernel
theorem dL_law_512 : decode cL_law 512 = .ok (.iaload, 1) := by decide +kernel
theorem dL_law_513 : decode cL_law 513 = .ok (.invokevirtual 53, 3) := by decide +kernel
theorem dL_law_516 : decode cL_law 516 = .ok (.if_icmp .eq 1011, 3) := by decide +kernel
theorem dL_law_519 : decode cL_law 519 = .ok (.iconst 0, 1) := by decide +kernel
theorem dL_law_520 : decode cL_law 520 = .ok (.ireturn, 1) := by decide +kernel
theorem dL_law_521 : decode cL_law 521 = .ok (.aload_n 1, 1) := by decide +kernel
theorem dL_law_522 : decode cL_law 522 = .ok (.aload_n 0, 1) := by decide +kernel
theorem dL_law_523 : decode cL_law 523 = .ok (.iload_n 3, 1) := by decide +kernel
theorem dL_law_524 : decode cL_law 524 = .ok (.iconst 1, 1) := by decide +kernel
theorem dL_law_525 : decode cL_law 525 = .ok (.iadd, 1) := by decide +kernel
theorem dL_law_526 : decode cL_law 526 = .ok (.iaload, 1) := by decide +kernel
theorem dL_law_527 : decode cL_law 527 = .ok (.aload_n 0, 1) := by decide +kernel
theorem dL_law_528 : decode cL_law 528 = .ok (.iload_n 3, 1) := by decide +kernel
theorem dL_law_529 : decode cL_law 529 = .ok (.iconst 2, 1) := by decide +kernel
theorem dL_law_530 : decode cL_law 530 = .ok (.iadd, 1) := by decide +kernel
theorem dL_law_531 : decode cL_law 531 = .ok (.iaload, 1) := by decide +kernel
theorem dL_law_532 : decode cL_law 532 = .ok (.invokevirtual 54, 3) := by decide +kernel
theorem dL_law_535 : decode cL_law 535 = .ok (.aload_n 2, 1) := by decide +kernel
theorem dL_law_536 : decode cL_law 536 = .ok (.aload_n 0, 1) := by decide +kernel
theorem dL_law_537 : decode cL_law 537 = .ok (.iload_n 3, 1) := by decide +kernel
theorem dL_law_538 : decode cL_law 538 = .ok (.iconst 1, 1) := by decide +kernel
theorem dL_law_539 : decode cL_law 539 = .ok (.iadd, 1) := by decide +kernel
theorem dL_law_540 : decode cL_law 540 = .ok (.iaload, 1) := by decide +kernel
theorem dL_law_541 : decode cL_law 541 = .ok (.aload_n 0, 1) := by decide +kernel
theorem dL_law_542 : decode cL_law 542 = .ok (.iload_n 3, 1) := by decide +kernel
theorem dL_law_543 : decode cL_law 543 = .ok (.iconst 2, 1) := by decide +kernel
theorem dL_law_544 : decode cL_law 544 = .ok (.iadd, 1) := by decide +kernel
theorem dL_law_545 : decode cL_law 545 = .ok (.iaload, 1) := by decide +kernel
theorem dL_law_546 : decode cL_law 546 = .ok (.invokevirtual 57, 3) := by decide +kernel
theorem dL_law_549 : decode cL_law 549 = .ok (.if_icmp .eq 978, 3) := by decide +kernel
theorem dL_law_552 : decode cL_law 552 = .ok (.iconst 0, 1) := by decide +kernel
theorem dL_law_553 : decode cL_law 553 = .ok (.ireturn, 1) := by decide +kernel
theorem dL_law_554 : decode cL_law 554 = .ok (.aload_n 1, 1) := by decide +kernel
theorem dL_law_555 : decode cL_law 555 = .ok (.aload_n 0, 1) := by decide +kernel
theorem dL_law_556 : decode cL_law 556 = .ok (.iload_n 3, 1) := by decide +kernel
theorem dL_law_557 : decode cL_law 557 = .ok (.iconst 1, 1) := by decide +kernel
theorem dL_law_558 : decode cL_law 558 = .ok (.iadd, 1) := by decide +kernel
theorem dL_law_559 : decode cL_law 559 = .ok (.iaload, 1) := by decide +kernel
theorem dL_law_560 : decode cL_law 560 = .ok (.aload_n 0, 1) := by decide +kernel
theorem dL_law_561 : decode cL_law 561 = .ok (.iload_n 3, 1) := by decide +kernel
theorem dL_law_562 : decode cL_law 562 = .ok (.iconst 2, 1) := by decide +kernel
theorem dL_law_563 : decode cL_law 563 = .ok (.iadd, 1) := by decide +kernel
theorem dL_law_564 : decode cL_law 564 = .ok (.iaload, 1) := by decide +kernel
theorem dL_law_565 : decode cL_law 565 = .ok (.invokevirtual 58, 3) := by decide +kernel
theorem dL_law_568 : decode cL_law 568 = .ok (.aload_n 2, 1) := by decide +kernel
theorem dL_law_569 : decode cL_law 569 = .ok (.aload_n 0, 1) := by decide +kernel
theorem dL_law_570 : decode cL_law 570 = .ok (.iload_n 3, 1) := by decide +kernel
theorem dL_law_571 : decode cL_law 571 = .ok (.iconst 1, 1) := by decide +kernel
theorem dL_law_572 : decode cL_law 572 = .ok (.iadd, 1) := by decide +kernel
theorem dL_law_573 : decode cL_law 573 = .ok (.iaload, 1) := by decide +kernel
theorem dL_law_574 : decode cL_law 574 = .ok (.aload_n 0, 1) := by decide +kernel
theorem dL_law_575 : decode cL_law 575 = .ok (.iload_n 3, 1) := by decide +kernel
theorem dL_law_576 : decode cL_law 576 = .ok (.iconst 2, 1) := by decide +kernel
theorem dL_law_577 : decode cL_law 577 = .ok (.iadd, 1) := by decide +kernel
theorem dL_law_578 : decode cL_law 578 = .ok (.iaload, 1) := by decide +kernel
theorem dL_law_579 : decode cL_law 579 = .ok (.invokevirtual 61, 3) := by decide +kernel
theorem dL_law_582 : decode cL_law 582 = .ok (.if_icmp .eq 945, 3) := by decide +kernel
theorem dL_law_585 : decode cL_law 585 = .ok (.iconst 0, 1) := by decide +kernel
theorem dL_law_586 : decode cL_law 586 = .ok (.ireturn, 1) := by decide +kernel
theorem dL_law_587 : decode cL_law 587 = .ok (.aload_n 1, 1) := by decide +kernel
theorem dL_law_588 : decode cL_law 588 = .ok (.aload_n 0, 1) := by decide +kernel
theorem dL_law_589 : decode cL_law 589 = .ok (.iload_n 3, 1) := by decide +kernel
theorem dL_law_590 : decode cL_law 590 = .ok (.iconst 1, 1) := by decide +kernel
theorem dL_law_591 : decode cL_law 591 = .ok (.iadd, 1) := by decide +kernel
theorem dL_law_592 : decode cL_law 592 = .ok (.iaload, 1) := by decide +kernel
theorem dL_law_593 : decode cL_law 593 = .ok (.aload_n 0, 1) := by decide +kernel
theorem dL_law_594 : decode cL_law 594 = .ok (.iload_n 3, 1) := by decide +kernel
theorem dL_law_595 : decode cL_law 595 = .ok (.iconst 2, 1) := by decide +kernel
theorem dL_law_596 : decode cL_law 596 = .ok (.iadd, 1) := by decide +kernel
theorem dL_law_597 : decode cL_law 597 = .ok (.iaload, 1) := by decide +kernel
theorem dL_law_598 : decode cL_law 598 = .ok (.invokevirtual 62, 3) := by decide +kernel
theorem dL_law_601 : decode cL_law 601 = .ok (.aload_n 2, 1) := by decide +kernel
theorem dL_law_602 : decode cL_law 602 = .ok (.aload_n 0, 1) := by decide +kernel
theorem dL_law_603 : decode cL_law 603 = .ok (.iload_n 3, 1) := by decide +kernel
theorem dL_law_604 : decode cL_law 604 = .ok (.iconst 1, 1) := by decide +kernel
theorem dL_law_605 : decode cL_law 605 = .ok (.iadd, 1) := by decide +kernel
theorem dL_law_606 : decode cL_law 606 = .ok (.iaload, 1) := by decide +kernel
theorem dL_law_607 : decode cL_law 607 = .ok (.aload_n 0, 1) := by decide +kernel
theorem dL_law_608 : decode cL_law 608 = .ok (.iload_n 3, 1) := by decide +kernel
theorem dL_law_609 : decode cL_law 609 = .ok (.iconst 2, 1) := by decide +kernel
theorem dL_law_610 : decode cL_law 610 = .ok (.iadd, 1) := by decide +kernel
theorem dL_law_611 : decode cL_law 611 = .ok (.iaload, 1) := by decide +kernel
theorem dL_law_612 : decode cL_law 612 = .ok (.invokevirtual 65, 3) := by decide +kernel
theorem dL_law_615 : decode cL_law 615 = .ok (.if_icmp .eq 912, 3) := by decide +kernel
theorem dL_law_618 : decode cL_law 618 = .ok (.iconst 0, 1) := by decide +kernel
theorem dL_law_619 : decode cL_law 619 = .ok (.ireturn, 1) := by decide +kernel
theorem dL_law_620 : decode cL_law 620 = .ok (.aload_n 1, 1) := by decide +kernel
theorem dL_law_621 : decode cL_law 621 = .ok (.aload_n 0, 1) := by decide +kernel
theorem dL_law_622 : decode cL_law 622 = .ok (.iload_n 3, 1) := by decide +kernel
theorem dL_law_623 : decode cL_law 623 = .ok (.iconst 1, 1) := by decide +kernel
theorem dL_law_624 : decode cL_law 624 = .ok (.iadd, 1) := by decide +kernel
theorem dL_law_625 : decode cL_law 625 = .ok (.iaload, 1) := by decide +kernel
theorem dL_law_626 : decode cL_law 626 = .ok (.aload_n 0, 1) := by decide +kernel
theorem dL_law_627 : decode cL_law 627 = .ok (.iload_n 3, 1) := by decide +kernel
theorem dL_law_628 : decode cL_law 628 = .ok (.iconst 2, 1) := by decide +kernel
theorem dL_law_629 : decode cL_law 629 = .ok (.iadd, 1) := by decide +kernel
theorem dL_law_630 : decode cL_law 630 = .ok (.iaload, 1) := by decide +kernel
theorem dL_law_631 : decode cL_law 631 = .ok (.invokevirtual 66, 3) := by decide +kernel
theorem dL_law_634 : decode cL_law 634 = .ok (.aload_n 2, 1) := by decide +kernel
theorem dL_law_635 : decode cL_law 635 = .ok (.aload_n 0, 1) := by decide +kernel
theorem dL_law_636 : decode cL_law 636 = .ok (.iload_n 3, 1) := by decide +kernel
theorem dL_law_637 : decode cL_law 637 = .ok (.iconst 1, 1) := by decide +kernel
theorem dL_law_638 : decode cL_law 638 = .ok (.iadd, 1) := by decide +kernel
theorem dL_law_639 : decode cL_law 639 = .ok (.iaload, 1) := by decide +kernel
theorem dL_law_640 : decode cL_law 640 = .ok (.aload_n 0, 1) := by decide +kernel
theorem dL_law_641 : decode cL_law 641 = .ok (.iload_n 3, 1) := by decide +kernel
theorem dL_law_642 : decode cL_law 642 = .ok (.iconst 2, 1) := by decide +kernel
theorem dL_law_643 : decode cL_law 643 = .ok (.iadd, 1) := by decide +kernel
theorem dL_law_644 : decode cL_law 644 = .ok (.iaload, 1) := by decide +kernel
theorem dL_law_645 : decode cL_law 645 = .ok (.invokevirtual 70, 3) := by decide +kernel
theorem dL_law_648 : decode cL_law 648 = .ok (.lcmp, 1) := by decide +kernel
theorem dL_law_649 : decode cL_law 649 = .ok (.ifCond .eq 878, 3) := by decide +kernel
theorem dL_law_652 : decode cL_law 652 = .ok (.iconst 0, 1) := by decide +kernel
theorem dL_law_653 : decode cL_law 653 = .ok (.ireturn, 1) := by decide +kernel
theorem dL_law_654 : decode cL_law 654 = .ok (.aload_n 1, 1) := by decide +kernel
theorem dL_law_655 : decode cL_law 655 = .ok (.aload_n 0, 1) := by decide +kernel
theorem dL_law_656 : decode cL_law 656 = .ok (.iload_n 3, 1) := by decide +kernel
theorem dL_law_657 : decode cL_law 657 = .ok (.iconst 1, 1) := by decide +kernel
theorem dL_law_658 : decode cL_law 658 = .ok (.iadd, 1) := by decide +kernel
theorem dL_law_659 : decode cL_law 659 = .ok (.iaload, 1) := by decide +kernel
theorem dL_law_660 : decode cL_law 660 = .ok (.aload_n 0, 1) := by decide +kernel
theorem dL_law_661 : decode cL_law 661 = .ok (.iload_n 3, 1) := by decide +kernel
theorem dL_law_662 : decode cL_law 662 = .ok (.iconst 2, 1) := by decide +kernel
theorem dL_law_663 : decode cL_law 663 = .ok (.iadd, 1) := by decide +kernel
theorem dL_law_664 : decode cL_law 664 = .ok (.iaload, 1) := by decide +kernel
theorem dL_law_665 : decode cL_law 665 = .ok (.invokevirtual 71, 3) := by decide +kernel
theorem dL_law_668 : decode cL_law 668 = .ok (.aload_n 2, 1) := by decide +kernel
theorem dL_law_669 : decode cL_law 669 = .ok (.aload_n 0, 1) := by decide +kernel
theorem dL_law_670 : decode cL_law 670 = .ok (.iload_n 3, 1) := by decide +kernel
theorem dL_law_671 : decode cL_law 671 = .ok (.iconst 1, 1) := by decide +kernel
theorem dL_law_672 : decode cL_law 672 = .ok (.iadd, 1) := by decide +kernel
theorem dL_law_673 : decode cL_law 673 = .ok (.iaload, 1) := by decide +kernel
theorem dL_law_674 : decode cL_law 674 = .ok (.aload_n 0, 1) := by decide +kernel
theorem dL_law_675 : decode cL_law 675 = .ok (.iload_n 3, 1) := by decide +kernel
theorem dL_law_676 : decode cL_law 676 = .ok (.iconst 2, 1) := by decide +kernel
theorem dL_law_677 : decode cL_law 677 = .ok (.iadd, 1) := by decide +kernel
theorem dL_law_678 : decode cL_law 678 = .ok (.iaload, 1) := by decide +kernel
theorem dL_law_679 : decode cL_law 679 = .ok (.invokevirtual 74, 3) := by decide +kernel
theorem dL_law_682 : decode cL_law 682 = .ok (.lcmp, 1) := by decide +kernel
theorem dL_law_683 : decode cL_law 683 = .ok (.ifCond .eq 844, 3) := by decide +kernel
theorem dL_law_686 : decode cL_law 686 = .ok (.iconst 0, 1) := by decide +kernel
theorem dL_law_687 : decode cL_law 687 = .ok (.ireturn, 1) := by decide +kernel
theorem dL_law_688 : decode cL_law 688 = .ok (.aload_n 1, 1) := by decide +kernel
theorem dL_law_689 : decode cL_law 689 = .ok (.aload_n 0, 1) := by decide +kernel
theorem dL_law_690 : decode cL_law 690 = .ok (.iload_n 3, 1) := by decide +kernel
theorem dL_law_691 : decode cL_law 691 = .ok (.iconst 1, 1) := by decide +kernel
theorem dL_law_692 : decode cL_law 692 = .ok (.iadd, 1) := by decide +kernel
theorem dL_law_693 : decode cL_law 693 = .ok (.iaload, 1) := by decide +kernel
theorem dL_law_694 : decode cL_law 694 = .ok (.aload_n 0, 1) := by decide +kernel
theorem dL_law_695 : decode cL_law 695 = .ok (.iload_n 3, 1) := by decide +kernel
theorem dL_law_696 : decode cL_law 696 = .ok (.iconst 2, 1) := by decide +kernel
theorem dL_law_697 : decode cL_law 697 = .ok (.iadd, 1) := by decide +kernel
theorem dL_law_698 : decode cL_law 698 = .ok (.iaload, 1) := by decide +kernel
theorem dL_law_699 : decode cL_law 699 = .ok (.aload_n 0, 1) := by decide +kernel
theorem dL_law_700 : decode cL_law 700 = .ok (.iload_n 3, 1) := by decide +kernel
theorem dL_law_701 : decode cL_law 701 = .ok (.iconst 3, 1) := by decide +kernel
theorem dL_law_702 : decode cL_law 702 = .ok (.iadd, 1) := by decide +kernel
theorem dL_law_703 : decode cL_law 703 = .ok (.iaload, 1) := by decide +kernel
theorem dL_law_704 : decode cL_law 704 = .ok (.invokevirtual 75, 3) := by decide +kernel
theorem dL_law_707 : decode cL_law 707 = .ok (.aload_n 2, 1) := by decide +kernel
theorem dL_law_708 : decode cL_law 708 = .ok (.aload_n 0, 1) := by decide +kernel
theorem dL_law_709 : decode cL_law 709 = .ok (.iload_n 3, 1) := by decide +kernel
theorem dL_law_710 : decode cL_law 710 = .ok (.iconst 1, 1) := by decide +kernel
theorem dL_law_711 : decode cL_law 711 = .ok (.iadd, 1) := by decide +kernel
theorem dL_law_712 : decode cL_law 712 = .ok (.iaload, 1) := by decide +kernel
theorem dL_law_713 : decode cL_law 713 = .ok (.aload_n 0, 1) := by decide +kernel
theorem dL_law_714 : decode cL_law 714 = .ok (.iload_n 3, 1) := by decide +kernel
theorem dL_law_715 : decode cL_law 715 = .ok (.iconst 2, 1) := by decide +kernel
theorem dL_law_716 : decode cL_law 716 = .ok (.iadd, 1) := by decide +kernel
theorem dL_law_717 : decode cL_law 717 = .ok (.iaload, 1) := by decide +kernel
theorem dL_law_718 : decode cL_law 718 = .ok (.aload_n 0, 1) := by decide +kernel
theorem dL_law_719 : decode cL_law 719 = .ok (.iload_n 3, 1) := by decide +kernel
theorem dL_law_720 : decode cL_law 720 = .ok (.iconst 3, 1) := by decide +kernel
theorem dL_law_721 : decode cL_law 721 = .ok (.iadd, 1) := by decide +kernel
theorem dL_law_722 : decode cL_law 722 = .ok (.iaload, 1) := by decide +kernel
theorem dL_law_723 : decode cL_law 723 = .ok (.invokevirtual 78, 3) := by decide +kernel
theorem dL_law_726 : decode cL_law 726 = .ok (.if_icmp .eq 801, 3) := by decide +kernel
theorem dL_law_729 : decode cL_law 729 = .ok (.iconst 0, 1) := by decide +kernel
theorem dL_law_730 : decode cL_law 730 = .ok (.ireturn, 1) := by decide +kernel
theorem dL_law_731 : decode cL_law 731 = .ok (.aload_n 1, 1) := by decide +kernel
theorem dL_law_732 : decode cL_law 732 = .ok (.aload_n 0, 1) := by decide +kernel
theorem dL_law_733 : decode cL_law 733 = .ok (.iload_n 3, 1) := by decide +kernel
theorem dL_law_734 : decode cL_law 734 = .ok (.iconst 1, 1) := by decide +kernel
theorem dL_law_735 : decode cL_law 735 = .ok (.iadd, 1) := by decide +kernel
theorem dL_law_736 : decode cL_law 736 = .ok (.iaload, 1) := by decide +kernel
theorem dL_law_737 : decode cL_law 737 = .ok (.invokevirtual 79, 3) := by decide +kernel
theorem dL_law_740 : decode cL_law 740 = .ok (.aload_n 2, 1) := by decide +kernel
theorem dL_law_741 : decode cL_law 741 = .ok (.aload_n 0, 1) := by decide +kernel
theorem dL_law_742 : decode cL_law 742 = .ok (.iload_n 3, 1) := by decide +kernel
theorem dL_law_743 : decode cL_law 743 = .ok (.iconst 1, 1) := by decide +kernel
theorem dL_law_744 : decode cL_law 744 = .ok (.iadd, 1) := by decide +kernel
theorem dL_law_745 : decode cL_law 745 = .ok (.iaload, 1) := by decide +kernel
theorem dL_law_746 : decode cL_law 746 = .ok (.invokevirtual 82, 3) := by decide +kernel
theorem dL_law_749 : decode cL_law 749 = .ok (.if_icmp .eq 778, 3) := by decide +kernel
theorem dL_law_752 : decode cL_law 752 = .ok (.iconst 0, 1) := by decide +kernel
theorem dL_law_753 : decode cL_law 753 = .ok (.ireturn, 1) := by decide +kernel
theorem dL_law_754 : decode cL_law 754 = .ok (.aload_n 1, 1) := by decide +kernel
theorem dL_law_755 : decode cL_law 755 = .ok (.aload_n 0, 1) := by decide +kernel
theorem dL_law_756 : decode cL_law 756 = .ok (.iload_n 3, 1) := by decide +kernel
theorem dL_law_757 : decode cL_law 757 = .ok (.iconst 1, 1) := by decide +kernel
theorem dL_law_758 : decode cL_law 758 = .ok (.iadd, 1) := by decide +kernel
theorem dL_law_759 : decode cL_law 759 = .ok (.iaload, 1) := by decide +kernel
theorem dL_law_760 : decode cL_law 760 = .ok (.invokevirtual 83, 3) := by decide +kernel
theorem dL_law_763 : decode cL_law 763 = .ok (.aload_n 2, 1) := by decide +kernel
theorem dL_law_764 : decode cL_law 764 = .ok (.aload_n 0, 1) := by decide +kernel
theorem dL_law_765 : decode cL_law 765 = .ok (.iload_n 3, 1) := by decide +kernel
theorem dL_law_766 : decode cL_law 766 = .ok (.iconst 1, 1) := by decide +kernel
theorem dL_law_767 : decode cL_law 767 = .ok (.iadd, 1) := by decide +kernel
theorem dL_law_768 : decode cL_law 768 = .ok (.iaload, 1) := by decide +kernel
theorem dL_law_769 : decode cL_law 769 = .ok (.invokevirtual 86, 3) := by decide +kernel
theorem dL_law_772 : decode cL_law 772 = .ok (.if_icmp .eq 755, 3) := by decide +kernel
theorem dL_law_775 : decode cL_law 775 = .ok (.iconst 0, 1) := by decide +kernel
theorem dL_law_776 : decode cL_law 776 = .ok (.ireturn, 1) := by decide +kernel
theorem dL_law_777 : decode cL_law 777 = .ok (.aload_n 1, 1) := by decide +kernel
theorem dL_law_778 : decode cL_law 778 = .ok (.aload_n 0, 1) := by decide +kernel
theorem dL_law_779 : decode cL_law 779 = .ok (.iload_n 3, 1) := by decide +kernel
theorem dL_law_780 : decode cL_law 780 = .ok (.iconst 1, 1) := by decide +kernel
theorem dL_law_781 : decode cL_law 781 = .ok (.iadd, 1) := by decide +kernel
theorem dL_law_782 : decode cL_law 782 = .ok (.iaload, 1) := by decide +kernel
theorem dL_law_783 : decode cL_law 783 = .ok (.aload_n 0, 1) := by decide +kernel
theorem dL_law_784 : decode cL_law 784 = .ok (.iload_n 3, 1) := by decide +kernel
theorem dL_law_785 : decode cL_law 785 = .ok (.iconst 2, 1) := by decide +kernel
theorem dL_law_786 : decode cL_law 786 = .ok (.iadd, 1) := by decide +kernel
theorem dL_law_787 : decode cL_law 787 = .ok (.iaload, 1) := by decide +kernel
theorem dL_law_788 : decode cL_law 788 = .ok (.invokevirtual 87, 3) := by decide +kernel
theorem dL_law_791 : decode cL_law 791 = .ok (.aload_n 2, 1) := by decide +kernel
theorem dL_law_792 : decode cL_law 792 = .ok (.aload_n 0, 1) := by decide +kernel
theorem dL_law_793 : decode cL_law 793 = .ok (.iload_n 3, 1) := by decide +kernel
theorem dL_law_794 : decode cL_law 794 = .ok (.iconst 1, 1) := by decide +kernel
theorem dL_law_795 : decode cL_law 795 = .ok (.iadd, 1) := by decide +kernel
theorem dL_law_796 : decode cL_law 796 = .ok (.iaload, 1) := by decide +kernel
theorem dL_law_797 : decode cL_law 797 = .ok (.aload_n 0, 1) := by decide +kernel
theorem dL_law_798 : decode cL_law 798 = .ok (.iload_n 3, 1) := by decide +kernel
theorem dL_law_799 : decode cL_law 799 = .ok (.iconst 2, 1) := by decide +kernel
theorem dL_law_800 : decode cL_law 800 = .ok (.iadd, 1) := by decide +kernel
theorem dL_law_801 : decode cL_law 801 = .ok (.iaload, 1) := by decide +kernel
theorem dL_law_802 : decode cL_law 802 = .ok (.invokevirtual 90, 3) := by decide +kernel
theorem dL_law_805 : decode cL_law 805 = .ok (.if_icmp .eq 722, 3) := by decide +kernel
theorem dL_law_808 : decode cL_law 808 = .ok (.iconst 0, 1) := by decide +kernel
theorem dL_law_809 : decode cL_law 809 = .ok (.ireturn, 1) := by decide +kernel
theorem dL_law_810 : decode cL_law 810 = .ok (.aload_n 1, 1) := by decide +kernel
theorem dL_law_811 : decode cL_law 811 = .ok (.aload_n 0, 1) := by decide +kernel
theorem dL_law_812 : decode cL_law 812 = .ok (.iload_n 3, 1) := by decide +kernel
theorem dL_law_813 : decode cL_law 813 = .ok (.iconst 1, 1) := by decide +kernel
theorem dL_law_814 : decode cL_law 814 = .ok (.iadd, 1) := by decide +kernel
theorem dL_law_815 : decode cL_law 815 = .ok (.iaload, 1) := by decide +kernel
theorem dL_law_816 : decode cL_law 816 = .ok (.aload_n 0, 1) := by decide +kernel
theorem dL_law_817 : decode cL_law 817 = .ok (.iload_n 3, 1) := by decide +kernel
theorem dL_law_818 : decode cL_law 818 = .ok (.iconst 2, 1) := by decide +kernel
theorem dL_law_819 : decode cL_law 819 = .ok (.iadd, 1) := by decide +kernel
theorem dL_law_820 : decode cL_law 820 = .ok (.iaload, 1) := by decide +kernel
theorem dL_law_821 : decode cL_law 821 = .ok (.aload_n 0, 1) := by decide +kernel
theorem dL_law_822 : decode cL_law 822 = .ok (.iload_n 3, 1) := by decide +kernel
theorem dL_law_823 : decode cL_law 823 = .ok (.iconst 3, 1) := by decide +kernel
theorem dL_law_824 : decode cL_law 824 = .ok (.iadd, 1) := by decide +kernel
theorem dL_law_825 : decode cL_law 825 = .ok (.iaload, 1) := by decide +kernel
theorem dL_law_826 : decode cL_law 826 = .ok (.invokevirtual 91, 3) := by decide +kernel
theorem dL_law_829 : decode cL_law 829 = .ok (.aload_n 2, 1) := by decide +kernel
theorem dL_law_830 : decode cL_law 830 = .ok (.aload_n 0, 1) := by decide +kernel
theorem dL_law_831 : decode cL_law 831 = .ok (.iload_n 3, 1) := by decide +kernel
theorem dL_law_832 : decode cL_law 832 = .ok (.iconst 1, 1) := by decide +kernel
theorem dL_law_833 : decode cL_law 833 = .ok (.iadd, 1) := by decide +kernel
theorem dL_law_834 : decode cL_law 834 = .ok (.iaload, 1) := by decide +kernel
theorem dL_law_835 : decode cL_law 835 = .ok (.aload_n 0, 1) := by decide +kernel
theorem dL_law_836 : decode cL_law 836 = .ok (.iload_n 3, 1) := by decide +kernel
theorem dL_law_837 : decode cL_law 837 = .ok (.iconst 2, 1) := by decide +kernel
theorem dL_law_838 : decode cL_law 838 = .ok (.iadd, 1) := by decide +kernel
theorem dL_law_839 : decode cL_law 839 = .ok (.iaload, 1) := by decide +kernel
theorem dL_law_840 : decode cL_law 840 = .ok (.aload_n 0, 1) := by decide +kernel
theorem dL_law_841 : decode cL_law 841 = .ok (.iload_n 3, 1) := by decide +kernel
theorem dL_law_842 : decode cL_law 842 = .ok (.iconst 3, 1) := by decide +kernel
theorem dL_law_843 : decode cL_law 843 = .ok (.iadd, 1) := by decide +kernel
theorem dL_law_844 : decode cL_law 844 = .ok (.iaload, 1) := by decide +kernel
theorem dL_law_845 : decode cL_law 845 = .ok (.invokevirtual 94, 3) := by decide +kernel
theorem dL_law_848 : decode cL_law 848 = .ok (.if_icmp .eq 679, 3) := by decide +kernel
theorem dL_law_851 : decode cL_law 851 = .ok (.iconst 0, 1) := by decide +kernel
theorem dL_law_852 : decode cL_law 852 = .ok (.ireturn, 1) := by decide +kernel
theorem dL_law_853 : decode cL_law 853 = .ok (.aload_n 1, 1) := by decide +kernel
theorem dL_law_854 : decode cL_law 854 = .ok (.aload_n 0, 1) := by decide +kernel
theorem dL_law_855 : decode cL_law 855 = .ok (.iload_n 3, 1) := by decide +kernel
theorem dL_law_856 : decode cL_law 856 = .ok (.iconst 1, 1) := by decide +kernel
theorem dL_law_857 : decode cL_law 857 = .ok (.iadd, 1) := by decide +kernel
theorem dL_law_858 : decode cL_law 858 = .ok (.iaload, 1) := by decide +kernel
theorem dL_law_859 : decode cL_law 859 = .ok (.invokevirtual 95, 3) := by decide +kernel
theorem dL_law_862 : decode cL_law 862 = .ok (.aload_n 2, 1) := by decide +kernel
theorem dL_law_863 : decode cL_law 863 = .ok (.aload_n 0, 1) := by decide +kernel
theorem dL_law_864 : decode cL_law 864 = .ok (.iload_n 3, 1) := by decide +kernel
theorem dL_law_865 : decode cL_law 865 = .ok (.iconst 1, 1) := by decide +kernel
theorem dL_law_866 : decode cL_law 866 = .ok (.iadd, 1) := by decide +kernel
theorem dL_law_867 : decode cL_law 867 = .ok (.iaload, 1) := by decide +kernel
theorem dL_law_868 : decode cL_law 868 = .ok (.invokevirtual 98, 3) := by decide +kernel
theorem dL_law_871 : decode cL_law 871 = .ok (.if_icmp .eq 656, 3) := by decide +kernel
theorem dL_law_874 : decode cL_law 874 = .ok (.iconst 0, 1) := by decide +kernel
theorem dL_law_875 : decode cL_law 875 = .ok (.ireturn, 1) := by decide +kernel
theorem dL_law_876 : decode cL_law 876 = .ok (.aload_n 1, 1) := by decide +kernel
theorem dL_law_877 : decode cL_law 877 = .ok (.aload_n 0, 1) := by decide +kernel
theorem dL_law_878 : decode cL_law 878 = .ok (.iload_n 3, 1) := by decide +kernel
theorem dL_law_879 : decode cL_law 879 = .ok (.iconst 1, 1) := by decide +kernel
theorem dL_law_880 : decode cL_law 880 = .ok (.iadd, 1) := by decide +kernel
theorem dL_law_881 : decode cL_law 881 = .ok (.iaload, 1) := by decide +kernel
theorem dL_law_882 : decode cL_law 882 = .ok (.aload_n 0, 1) := by decide +kernel
theorem dL_law_883 : decode cL_law 883 = .ok (.iload_n 3, 1) := by decide +kernel
theorem dL_law_884 : decode cL_law 884 = .ok (.iconst 2, 1) := by decide +kernel
theorem dL_law_885 : decode cL_law 885 = .ok (.iadd, 1) := by decide +kernel
theorem dL_law_886 : decode cL_law 886 = .ok (.iaload, 1) := by decide +kernel
theorem dL_law_887 : decode cL_law 887 = .ok (.invokevirtual 99, 3) := by decide +kernel
theorem dL_law_890 : decode cL_law 890 = .ok (.aload_n 2, 1) := by decide +kernel
theorem dL_law_891 : decode cL_law 891 = .ok (.aload_n 0, 1) := by decide +kernel
theorem dL_law_892 : decode cL_law 892 = .ok (.iload_n 3, 1) := by decide +kernel
theorem dL_law_893 : decode cL_law 893 = .ok (.iconst 1, 1) := by decide +kernel
theorem dL_law_894 : decode cL_law 894 = .ok (.iadd, 1) := by decide +kernel
theorem dL_law_895 : decode cL_law 895 = .ok (.iaload, 1) := by decide +kernel
theorem dL_law_896 : decode cL_law 896 = .ok (.aload_n 0, 1) := by decide +kernel
theorem dL_law_897 : decode cL_law 897 = .ok (.iload_n 3, 1) := by decide +kernel
theorem dL_law_898 : decode cL_law 898 = .ok (.iconst 2, 1) := by decide +kernel
theorem dL_law_899 : decode cL_law 899 = .ok (.iadd, 1) := by decide +kernel
theorem dL_law_900 : decode cL_law 900 = .ok (.iaload, 1) := by decide +kernel
theorem dL_law_901 : decode cL_law 901 = .ok (.invokevirtual 102, 3) := by decide +kernel
theorem dL_law_904 : decode cL_law 904 = .ok (.lcmp, 1) := by decide +kernel
theorem dL_law_905 : decode cL_law 905 = .ok (.ifCond .eq 622, 3) := by decide +kernel
theorem dL_law_908 : decode cL_law 908 = .ok (.iconst 0, 1) := by decide +kernel
theorem dL_law_909 : decode cL_law 909 = .ok (.ireturn, 1) := by decide +kernel
theorem dL_law_910 : decode cL_law 910 = .ok (.aload_n 1, 1) := by decide +kernel
theorem dL_law_911 : decode cL_law 911 = .ok (.aload_n 0, 1) := by decide +kernel
theorem dL_law_912 : decode cL_law 912 = .ok (.iload_n 3, 1) := by decide +kernel
theorem dL_law_913 : decode cL_law 913 = .ok (.iconst 1, 1) := by decide +kernel
theorem dL_law_914 : decode cL_law 914 = .ok (.iadd, 1) := by decide +kernel
theorem dL_law_915 : decode cL_law 915 = .ok (.iaload, 1) := by decide +kernel
theorem dL_law_916 : decode cL_law 916 = .ok (.aload_n 0, 1) := by decide +kernel
theorem dL_law_917 : decode cL_law 917 = .ok (.iload_n 3, 1) := by decide +kernel
theorem dL_law_918 : decode cL_law 918 = .ok (.iconst 2, 1) := by decide +kernel
theorem dL_law_919 : decode cL_law 919 = .ok (.iadd, 1) := by decide +kernel
theorem dL_law_920 : decode cL_law 920 = .ok (.iaload, 1) := by decide +kernel
theorem dL_law_921 : decode cL_law 921 = .ok (.invokevirtual 103, 3) := by decide +kernel
theorem dL_law_924 : decode cL_law 924 = .ok (.aload_n 2, 1) := by decide +kernel
theorem dL_law_925 : decode cL_law 925 = .ok (.aload_n 0, 1) := by decide +kernel
theorem dL_law_926 : decode cL_law 926 = .ok (.iload_n 3, 1) := by decide +kernel
theorem dL_law_927 : decode cL_law 927 = .ok (.iconst 1, 1) := by decide +kernel
theorem dL_law_928 : decode cL_law 928 = .ok (.iadd, 1) := by decide +kernel
theorem dL_law_929 : decode cL_law 929 = .ok (.iaload, 1) := by decide +kernel
theorem dL_law_930 : decode cL_law 930 = .ok (.aload_n 0, 1) := by decide +kernel
theorem dL_law_931 : decode cL_law 931 = .ok (.iload_n 3, 1) := by decide +kernel
theorem dL_law_932 : decode cL_law 932 = .ok (.iconst 2, 1) := by decide +kernel
theorem dL_law_933 : decode cL_law 933 = .ok (.iadd, 1) := by decide +kernel
theorem dL_law_934 : decode cL_law 934 = .ok (.iaload, 1) := by decide +kernel
theorem dL_law_935 : decode cL_law 935 = .ok (.invokevirtual 106, 3) := by decide +kernel
theorem dL_law_938 : decode cL_law 938 = .ok (.if_icmp .eq 589, 3) := by decide +kernel
theorem dL_law_941 : decode cL_law 941 = .ok (.iconst 0, 1) := by decide +kernel
theorem dL_law_942 : decode cL_law 942 = .ok (.ireturn, 1) := by decide +kernel
theorem dL_law_943 : decode cL_law 943 = .ok (.aload_n 1, 1) := by decide +kernel
theorem dL_law_944 : decode cL_law 944 = .ok (.aload_n 0, 1) := by decide +kernel
theorem dL_law_945 : decode cL_law 945 = .ok (.iload_n 3, 1) := by decide +kernel
theorem dL_law_946 : decode cL_law 946 = .ok (.iconst 1, 1) := by decide +kernel
theorem dL_law_947 : decode cL_law 947 = .ok (.iadd, 1) := by decide +kernel
theorem dL_law_948 : decode cL_law 948 = .ok (.iaload, 1) := by decide +kernel
theorem dL_law_949 : decode cL_law 949 = .ok (.invokevirtual 107, 3) := by decide +kernel
theorem dL_law_952 : decode cL_law 952 = .ok (.aload_n 2, 1) := by decide +kernel
theorem dL_law_953 : decode cL_law 953 = .ok (.aload_n 0, 1) := by decide +kernel
theorem dL_law_954 : decode cL_law 954 = .ok (.iload_n 3, 1) := by decide +kernel
theorem dL_law_955 : decode cL_law 955 = .ok (.iconst 1, 1) := by decide +kernel
theorem dL_law_956 : decode cL_law 956 = .ok (.iadd, 1) := by decide +kernel
theorem dL_law_957 : decode cL_law 957 = .ok (.iaload, 1) := by decide +kernel
theorem dL_law_958 : decode cL_law 958 = .ok (.invokevirtual 110, 3) := by decide +kernel
theorem dL_law_961 : decode cL_law 961 = .ok (.if_icmp .eq 566, 3) := by decide +kernel
theorem dL_law_964 : decode cL_law 964 = .ok (.iconst 0, 1) := by decide +kernel
theorem dL_law_965 : decode cL_law 965 = .ok (.ireturn, 1) := by decide +kernel
theorem dL_law_966 : decode cL_law 966 = .ok (.aload_n 1, 1) := by decide +kernel
theorem dL_law_967 : decode cL_law 967 = .ok (.aload_n 0, 1) := by decide +kernel
theorem dL_law_968 : decode cL_law 968 = .ok (.iload_n 3, 1) := by decide +kernel
theorem dL_law_969 : decode cL_law 969 = .ok (.iconst 1, 1) := by decide +kernel
theorem dL_law_970 : decode cL_law 970 = .ok (.iadd, 1) := by decide +kernel
theorem dL_law_971 : decode cL_law 971 = .ok (.iaload, 1) := by decide +kernel
theorem dL_law_972 : decode cL_law 972 = .ok (.aload_n 0, 1) := by decide +kernel
theorem dL_law_973 : decode cL_law 973 = .ok (.iload_n 3, 1) := by decide +kernel
theorem dL_law_974 : decode cL_law 974 = .ok (.iconst 2, 1) := by decide +kernel
theorem dL_law_975 : decode cL_law 975 = .ok (.iadd, 1) := by decide +kernel
theorem dL_law_976 : decode cL_law 976 = .ok (.iaload, 1) := by decide +kernel
theorem dL_law_977 : decode cL_law 977 = .ok (.aload_n 0, 1) := by decide +kernel
theorem dL_law_978 : decode cL_law 978 = .ok (.iload_n 3, 1) := by decide +kernel
theorem dL_law_979 : decode cL_law 979 = .ok (.iconst 3, 1) := by decide +kernel
theorem dL_law_980 : decode cL_law 980 = .ok (.iadd, 1) := by decide +kernel
theorem dL_law_981 : decode cL_law 981 = .ok (.iaload, 1) := by decide +kernel
theorem dL_law_982 : decode cL_law 982 = .ok (.invokevirtual 111, 3) := by decide +kernel
theorem dL_law_985 : decode cL_law 985 = .ok (.aload_n 2, 1) := by decide +kernel
theorem dL_law_986 : decode cL_law 986 = .ok (.aload_n 0, 1) := by decide +kernel
theorem dL_law_987 : decode cL_law 987 = .ok (.iload_n 3, 1) := by decide +kernel
theorem dL_law_988 : decode cL_law 988 = .ok (.iconst 1, 1) := by decide +kernel
theorem dL_law_989 : decode cL_law 989 = .ok (.iadd, 1) := by decide +kernel
theorem dL_law_990 : decode cL_law 990 = .ok (.iaload, 1) := by decide +kernel
theorem dL_law_991 : decode cL_law 991 = .ok (.aload_n 0, 1) := by decide +kernel
theorem dL_law_992 : decode cL_law 992 = .ok (.iload_n 3, 1) := by decide +kernel
theorem dL_law_993 : decode cL_law 993 = .ok (.iconst 2, 1) := by decide +kernel
theorem dL_law_994 : decode cL_law 994 = .ok (.iadd, 1) := by decide +kernel
theorem dL_law_995 : decode cL_law 995 = .ok (.iaload, 1) := by decide +kernel
theorem dL_law_996 : decode cL_law 996 = .ok (.aload_n 0, 1) := by decide +kernel
theorem dL_law_997 : decode cL_law 997 = .ok (.iload_n 3, 1) := by decide +kernel
theorem dL_law_998 : decode cL_law 998 = .ok (.iconst 3, 1) := by decide +kernel
theorem dL_law_999 : decode cL_law 999 = .ok (.iadd, 1) := by decide +kernel
theorem dL_law_1000 : decode cL_law 1000 = .ok (.iaload, 1) := by decide +kernel
theorem dL_law_1001 : decode cL_law 1001 = .ok (.invokevirtual 114, 3) := by decide +kernel
theorem dL_law_1004 : decode cL_law 1004 = .ok (.if_icmp .eq 523, 3) := by decide +kernel
theorem dL_law_1007 : decode cL_law 1007 = .ok (.iconst 0, 1) := by decide +kernel
theorem dL_law_1008 : decode cL_law 1008 = .ok (.ireturn, 1) := by decide +kernel
theorem dL_law_1009 : decode cL_law 1009 = .ok (.aload_n 1, 1) := by decide +kernel
theorem dL_law_1010 : decode cL_law 1010 = .ok (.aload_n 0, 1) := by decide +kernel
theorem dL_law_1011 : decode cL_law 1011 = .ok (.iload_n 3, 1) := by decide +kernel
theorem dL_law_1012 : decode cL_law 1012 = .ok (.iconst 1, 1) := by decide +kernel
theorem dL_law_1013 : decode cL_law 1013 = .ok (.iadd, 1) := by decide +kernel
theorem dL_law_1014 : decode cL_law 1014 = .ok (.iaload, 1) := by decide +kernel
theorem dL_law_1015 : decode cL_law 1015 = .ok (.aload_n 0, 1) := by decide +kernel
theorem dL_law_1016 : decode cL_law 1016 = .ok (.iload_n 3, 1) := by decide +kernel
theorem dL_law_1017 : decode cL_law 1017 = .ok (.iconst 2, 1) := by decide +kernel
theorem dL_law_1018 : decode cL_law 1018 = .ok (.iadd, 1) := by decide +kernel
theorem dL_law_1019 : decode cL_law 1019 = .ok (.iaload, 1) := by decide +kernel
theorem dL_law_1020 : decode cL_law 1020 = .ok (.aload_n 0, 1) := by decide +kernel
theorem dL_law_1021 : decode cL_law 1021 = .ok (.iload_n 3, 1) := by decide +kernel
theorem dL_law_1022 : decode cL_law 1022 = .ok (.iconst 3, 1) := by decide +kernel
theorem dL_law_1023 : decode cL_law 1023 = .ok (.iadd, 1) := by decide +kernel
theorem dL_law_1024 : decode cL_law 1024 = .ok (.iaload, 1) := by decide +kernel
theorem dL_law_1025 : decode cL_law 1025 = .ok (.invokevirtual 115, 3) := by decide +kernel
theorem dL_law_1028 : decode cL_law 1028 = .ok (.aload_n 2, 1) := by decide +kernel
theorem dL_law_1029 : decode cL_law 1029 = .ok (.aload_n 0, 1) := by decide +kernel
theorem dL_law_1030 : decode cL_law 1030 = .ok (.iload_n 3, 1) := by decide +kernel
theorem dL_law_1031 : decode cL_law 1031 = .ok (.iconst 1, 1) := by decide +kernel
theorem dL_law_1032 : decode cL_law 1032 = .ok (.iadd, 1) := by decide +kernel
theorem dL_law_1033 : decode cL_law 1033 = .ok (.iaload, 1) := by decide +kernel
theorem dL_law_1034 : decode cL_law 1034 = .ok (.aload_n 0, 1) := by decide +kernel
theorem dL_law_1035 : decode cL_law 1035 = .ok (.iload_n 3, 1) := by decide +kernel
theorem dL_law_1036 : decode cL_law 1036 = .ok (.iconst 2, 1) := by decide +kernel
theorem dL_law_1037 : decode cL_law 1037 = .ok (.iadd, 1) := by decide +kernel
theorem dL_law_1038 : decode cL_law 1038 = .ok (.iaload, 1) := by decide +kernel
theorem dL_law_1039 : decode cL_law 1039 = .ok (.aload_n 0, 1) := by decide +kernel
theorem dL_law_1040 : decode cL_law 1040 = .ok (.iload_n 3, 1) := by decide +kernel
theorem dL_law_1041 : decode cL_law 1041 = .ok (.iconst 3, 1) := by decide +kernel
theorem dL_law_1042 : decode cL_law 1042 = .ok (.iadd, 1) := by decide +kernel
theorem dL_law_1043 : decode cL_law 1043 = .ok (.iaload, 1) := by decide +kernel
theorem dL_law_1044 : decode cL_law 1044 = .ok (.invokevirtual 118, 3) := by decide +kernel
theorem dL_law_1047 : decode cL_law 1047 = .ok (.if_icmp .eq 480, 3) := by decide +kernel
theorem dL_law_1050 : decode cL_law 1050 = .ok (.iconst 0, 1) := by decide +kernel
theorem dL_law_1051 : decode cL_law 1051 = .ok (.ireturn, 1) := by decide +kernel
theorem dL_law_1052 : decode cL_law 1052 = .ok (.aload_n 1, 1) := by decide +kernel
theorem dL_law_1053 : decode cL_law 1053 = .ok (.aload_n 0, 1) := by decide +kernel
theorem dL_law_1054 : decode cL_law 1054 = .ok (.iload_n 3, 1) := by decide +kernel
theorem dL_law_1055 : decode cL_law 1055 = .ok (.iconst 1, 1) := by decide +kernel
theorem dL_law_1056 : decode cL_law 1056 = .ok (.iadd, 1) := by decide +kernel
theorem dL_law_1057 : decode cL_law 1057 = .ok (.iaload, 1) := by decide +kernel
theorem dL_law_1058 : decode cL_law 1058 = .ok (.aload_n 0, 1) := by decide +kernel
theorem dL_law_1059 : decode cL_law 1059 = .ok (.iload_n 3, 1) := by decide +kernel
theorem dL_law_1060 : decode cL_law 1060 = .ok (.iconst 2, 1) := by decide +kernel
theorem dL_law_1061 : decode cL_law 1061 = .ok (.iadd, 1) := by decide +kernel
theorem dL_law_1062 : decode cL_law 1062 = .ok (.iaload, 1) := by decide +kernel
theorem dL_law_1063 : decode cL_law 1063 = .ok (.aload_n 0, 1) := by decide +kernel
theorem dL_law_1064 : decode cL_law 1064 = .ok (.iload_n 3, 1) := by decide +kernel
theorem dL_law_1065 : decode cL_law 1065 = .ok (.iconst 3, 1) := by decide +kernel
theorem dL_law_1066 : decode cL_law 1066 = .ok (.iadd, 1) := by decide +kernel
theorem dL_law_1067 : decode cL_law 1067 = .ok (.iaload, 1) := by decide +kernel
theorem dL_law_1068 : decode cL_law 1068 = .ok (.invokevirtual 119, 3) := by decide +kernel
theorem dL_law_1071 : decode cL_law 1071 = .ok (.aload_n 2, 1) := by decide +kernel
theorem dL_law_1072 : decode cL_law 1072 = .ok (.aload_n 0, 1) := by decide +kernel
theorem dL_law_1073 : decode cL_law 1073 = .ok (.iload_n 3, 1) := by decide +kernel
theorem dL_law_1074 : decode cL_law 1074 = .ok (.iconst 1, 1) := by decide +kernel
theorem dL_law_1075 : decode cL_law 1075 = .ok (.iadd, 1) := by decide +kernel
theorem dL_law_1076 : decode cL_law 1076 = .ok (.iaload, 1) := by decide +kernel
theorem dL_law_1077 : decode cL_law 1077 = .ok (.aload_n 0, 1) := by decide +kernel
theorem dL_law_1078 : decode cL_law 1078 = .ok (.iload_n 3, 1) := by decide +kernel
theorem dL_law_1079 : decode cL_law 1079 = .ok (.iconst 2, 1) := by decide +kernel
theorem dL_law_1080 : decode cL_law 1080 = .ok (.iadd, 1) := by decide +kernel
theorem dL_law_1081 : decode cL_law 1081 = .ok (.iaload, 1) := by decide +kernel
theorem dL_law_1082 : decode cL_law 1082 = .ok (.aload_n 0, 1) := by decide +kernel
theorem dL_law_1083 : decode cL_law 1083 = .ok (.iload_n 3, 1) := by decide +kernel
theorem dL_law_1084 : decode cL_law 1084 = .ok (.iconst 3, 1) := by decide +kernel
theorem dL_law_1085 : decode cL_law 1085 = .ok (.iadd, 1) := by decide +kernel
theorem dL_law_1086 : decode cL_law 1086 = .ok (.iaload, 1) := by decide +kernel
theorem dL_law_1087 : decode cL_law 1087 = .ok (.invokevirtual 123, 3) := by decide +kernel
theorem dL_law_1090 : decode cL_law 1090 = .ok (.lcmp, 1) := by decide +kernel
theorem dL_law_1091 : decode cL_law 1091 = .ok (.ifCond .eq 436, 3) := by decide +kernel
theorem dL_law_1094 : decode cL_law 1094 = .ok (.iconst 0, 1) := by decide +kernel
theorem dL_law_1095 : decode cL_law 1095 = .ok (.ireturn, 1) := by decide +kernel
theorem dL_law_1096 : decode cL_law 1096 = .ok (.aload_n 1, 1) := by decide +kernel
theorem dL_law_1097 : decode cL_law 1097 = .ok (.aload_n 0, 1) := by decide +kernel
theorem dL_law_1098 : decode cL_law 1098 = .ok (.iload_n 3, 1) := by decide +kernel
theorem dL_law_1099 : decode cL_law 1099 = .ok (.iconst 1, 1) := by decide +kernel
theorem dL_law_1100 : decode cL_law 1100 = .ok (.iadd, 1) := by decide +kernel
theorem dL_law_1101 : decode cL_law 1101 = .ok (.iaload, 1) := by decide +kernel
theorem dL_law_1102 : decode cL_law 1102 = .ok (.invokevirtual 124, 3) := by decide +kernel
theorem dL_law_1105 : decode cL_law 1105 = .ok (.aload_n 2, 1) := by decide +kernel
theorem dL_law_1106 : decode cL_law 1106 = .ok (.aload_n 0, 1) := by decide +kernel
theorem dL_law_1107 : decode cL_law 1107 = .ok (.iload_n 3, 1) := by decide +kernel
theorem dL_law_1108 : decode cL_law 1108 = .ok (.iconst 1, 1) := by decide +kernel
theorem dL_law_1109 : decode cL_law 1109 = .ok (.iadd, 1) := by decide +kernel
theorem dL_law_1110 : decode cL_law 1110 = .ok (.iaload, 1) := by decide +kernel
theorem dL_law_1111 : decode cL_law 1111 = .ok (.invokevirtual 128, 3) := by decide +kernel
theorem dL_law_1114 : decode cL_law 1114 = .ok (.lcmp, 1) := by decide +kernel
theorem dL_law_1115 : decode cL_law 1115 = .ok (.ifCond .eq 412, 3) := by decide +kernel
theorem dL_law_1118 : decode cL_law 1118 = .ok (.iconst 0, 1) := by decide +kernel
theorem dL_law_1119 : decode cL_law 1119 = .ok (.ireturn, 1) := by decide +kernel
theorem dL_law_1120 : decode cL_law 1120 = .ok (.aload_n 1, 1) := by decide +kernel
theorem dL_law_1121 : decode cL_law 1121 = .ok (.aload_n 0, 1) := by decide +kernel
theorem dL_law_1122 : decode cL_law 1122 = .ok (.iload_n 3, 1) := by decide +kernel
theorem dL_law_1123 : decode cL_law 1123 = .ok (.iconst 1, 1) := by decide +kernel
theorem dL_law_1124 : decode cL_law 1124 = .ok (.iadd, 1) := by decide +kernel
theorem dL_law_1125 : decode cL_law 1125 = .ok (.iaload, 1) := by decide +kernel
theorem dL_law_1126 : decode cL_law 1126 = .ok (.aload_n 0, 1) := by decide +kernel
theorem dL_law_1127 : decode cL_law 1127 = .ok (.iload_n 3, 1) := by decide +kernel
theorem dL_law_1128 : decode cL_law 1128 = .ok (.iconst 2, 1) := by decide +kernel
theorem dL_law_1129 : decode cL_law 1129 = .ok (.iadd, 1) := by decide +kernel
theorem dL_law_1130 : decode cL_law 1130 = .ok (.iaload, 1) := by decide +kernel
theorem dL_law_1131 : decode cL_law 1131 = .ok (.invokevirtual 129, 3) := by decide +kernel
theorem dL_law_1134 : decode cL_law 1134 = .ok (.aload_n 2, 1) := by decide +kernel
theorem dL_law_1135 : decode cL_law 1135 = .ok (.aload_n 0, 1) := by decide +kernel
theorem dL_law_1136 : decode cL_law 1136 = .ok (.iload_n 3, 1) := by decide +kernel
theorem dL_law_1137 : decode cL_law 1137 = .ok (.iconst 1, 1) := by decide +kernel
theorem dL_law_1138 : decode cL_law 1138 = .ok (.iadd, 1) := by decide +kernel
theorem dL_law_1139 : decode cL_law 1139 = .ok (.iaload, 1) := by decide +kernel
theorem dL_law_1140 : decode cL_law 1140 = .ok (.aload_n 0, 1) := by decide +kernel
theorem dL_law_1141 : decode cL_law 1141 = .ok (.iload_n 3, 1) := by decide +kernel
theorem dL_law_1142 : decode cL_law 1142 = .ok (.iconst 2, 1) := by decide +kernel
theorem dL_law_1143 : decode cL_law 1143 = .ok (.iadd, 1) := by decide +kernel
theorem dL_law_1144 : decode cL_law 1144 = .ok (.iaload, 1) := by decide +kernel
theorem dL_law_1145 : decode cL_law 1145 = .ok (.invokevirtual 132, 3) := by decide +kernel
theorem dL_law_1148 : decode cL_law 1148 = .ok (.if_icmp .eq 379, 3) := by decide +kernel
theorem dL_law_1151 : decode cL_law 1151 = .ok (.iconst 0, 1) := by decide +kernel
theorem dL_law_1152 : decode cL_law 1152 = .ok (.ireturn, 1) := by decide +kernel
theorem dL_law_1153 : decode cL_law 1153 = .ok (.aload_n 1, 1) := by decide +kernel
theorem dL_law_1154 : decode cL_law 1154 = .ok (.aload_n 0, 1) := by decide +kernel
theorem dL_law_1155 : decode cL_law 1155 = .ok (.iload_n 3, 1) := by decide +kernel
theorem dL_law_1156 : decode cL_law 1156 = .ok (.iconst 1, 1) := by decide +kernel
theorem dL_law_1157 : decode cL_law 1157 = .ok (.iadd, 1) := by decide +kernel
theorem dL_law_1158 : decode cL_law 1158 = .ok (.iaload, 1) := by decide +kernel
theorem dL_law_1159 : decode cL_law 1159 = .ok (.invokevirtual 133, 3) := by decide +kernel
theorem dL_law_1162 : decode cL_law 1162 = .ok (.aload_n 2, 1) := by decide +kernel
theorem dL_law_1163 : decode cL_law 1163 = .ok (.aload_n 0, 1) := by decide +kernel
theorem dL_law_1164 : decode cL_law 1164 = .ok (.iload_n 3, 1) := by decide +kernel
theorem dL_law_1165 : decode cL_law 1165 = .ok (.iconst 1, 1) := by decide +kernel
theorem dL_law_1166 : decode cL_law 1166 = .ok (.iadd, 1) := by decide +kernel
theorem dL_law_1167 : decode cL_law 1167 = .ok (.iaload, 1) := by decide +kernel
theorem dL_law_1168 : decode cL_law 1168 = .ok (.invokevirtual 136, 3) := by decide +kernel
theorem dL_law_1171 : decode cL_law 1171 = .ok (.if_icmp .eq 356, 3) := by decide +kernel
theorem dL_law_1174 : decode cL_law 1174 = .ok (.iconst 0, 1) := by decide +kernel
theorem dL_law_1175 : decode cL_law 1175 = .ok (.ireturn, 1) := by decide +kernel
theorem dL_law_1176 : decode cL_law 1176 = .ok (.aload_n 1, 1) := by decide +kernel
theorem dL_law_1177 : decode cL_law 1177 = .ok (.aload_n 0, 1) := by decide +kernel
theorem dL_law_1178 : decode cL_law 1178 = .ok (.iload_n 3, 1) := by decide +kernel
theorem dL_law_1179 : decode cL_law 1179 = .ok (.iconst 1, 1) := by decide +kernel
theorem dL_law_1180 : decode cL_law 1180 = .ok (.iadd, 1) := by decide +kernel
theorem dL_law_1181 : decode cL_law 1181 = .ok (.iaload, 1) := by decide +kernel
theorem dL_law_1182 : decode cL_law 1182 = .ok (.aload_n 0, 1) := by decide +kernel
theorem dL_law_1183 : decode cL_law 1183 = .ok (.iload_n 3, 1) := by decide +kernel
theorem dL_law_1184 : decode cL_law 1184 = .ok (.iconst 2, 1) := by decide +kernel
theorem dL_law_1185 : decode cL_law 1185 = .ok (.iadd, 1) := by decide +kernel
theorem dL_law_1186 : decode cL_law 1186 = .ok (.iaload, 1) := by decide +kernel
theorem dL_law_1187 : decode cL_law 1187 = .ok (.aload_n 0, 1) := by decide +kernel
theorem dL_law_1188 : decode cL_law 1188 = .ok (.iload_n 3, 1) := by decide +kernel
theorem dL_law_1189 : decode cL_law 1189 = .ok (.iconst 3, 1) := by decide +kernel
theorem dL_law_1190 : decode cL_law 1190 = .ok (.iadd, 1) := by decide +kernel
theorem dL_law_1191 : decode cL_law 1191 = .ok (.iaload, 1) := by decide +kernel
theorem dL_law_1192 : decode cL_law 1192 = .ok (.invokevirtual 137, 3) := by decide +kernel
theorem dL_law_1195 : decode cL_law 1195 = .ok (.aload_n 2, 1) := by decide +kernel
theorem dL_law_1196 : decode cL_law 1196 = .ok (.aload_n 0, 1) := by decide +kernel
theorem dL_law_1197 : decode cL_law 1197 = .ok (.iload_n 3, 1) := by decide +kernel
theorem dL_law_1198 : decode cL_law 1198 = .ok (.iconst 1, 1) := by decide +kernel
theorem dL_law_1199 : decode cL_law 1199 = .ok (.iadd, 1) := by decide +kernel
theorem dL_law_1200 : decode cL_law 1200 = .ok (.iaload, 1) := by decide +kernel
theorem dL_law_1201 : decode cL_law 1201 = .ok (.aload_n 0, 1) := by decide +kernel
theorem dL_law_1202 : decode cL_law 1202 = .ok (.iload_n 3, 1) := by decide +kernel
theorem dL_law_1203 : decode cL_law 1203 = .ok (.iconst 2, 1) := by decide +kernel
theorem dL_law_1204 : decode cL_law 1204 = .ok (.iadd, 1) := by decide +kernel
theorem dL_law_1205 : decode cL_law 1205 = .ok (.iaload, 1) := by decide +kernel
theorem dL_law_1206 : decode cL_law 1206 = .ok (.aload_n 0, 1) := by decide +kernel
theorem dL_law_1207 : decode cL_law 1207 = .ok (.iload_n 3, 1) := by decide +kernel
theorem dL_law_1208 : decode cL_law 1208 = .ok (.iconst 3, 1) := by decide +kernel
theorem dL_law_1209 : decode cL_law 1209 = .ok (.iadd, 1) := by decide +kernel
theorem dL_law_1210 : decode cL_law 1210 = .ok (.iaload, 1) := by decide +kernel
theorem dL_law_1211 : decode cL_law 1211 = .ok (.invokevirtual 140, 3) := by decide +kernel
theorem dL_law_1214 : decode cL_law 1214 = .ok (.if_icmp .eq 313, 3) := by decide +kernel
theorem dL_law_1217 : decode cL_law 1217 = .ok (.iconst 0, 1) := by decide +kernel
theorem dL_law_1218 : decode cL_law 1218 = .ok (.ireturn, 1) := by decide +kernel
theorem dL_law_1219 : decode cL_law 1219 = .ok (.aload_n 1, 1) := by decide +kernel
theorem dL_law_1220 : decode cL_law 1220 = .ok (.invokevirtual 141, 3) := by decide +kernel
theorem dL_law_1223 : decode cL_law 1223 = .ok (.aload_n 2, 1) := by decide +kernel
theorem dL_law_1224 : decode cL_law 1224 = .ok (.invokevirtual 144, 3) := by decide +kernel
theorem dL_law_1227 : decode cL_law 1227 = .ok (.if_icmp .eq 300, 3) := by decide +kernel
theorem dL_law_1230 : decode cL_law 1230 = .ok (.iconst 0, 1) := by decide +kernel
theorem dL_law_1231 : decode cL_law 1231 = .ok (.ireturn, 1) := by decide +kernel
theorem dL_law_1232 : decode cL_law 1232 = .ok (.aload_n 1, 1) := by decide +kernel
theorem dL_law_1233 : decode cL_law 1233 = .ok (.aload_n 0, 1) := by decide +kernel
theorem dL_law_1234 : decode cL_law 1234 = .ok (.iload_n 3, 1) := by decide +kernel
theorem dL_law_1235 : decode cL_law 1235 = .ok (.iconst 1, 1) := by decide +kernel
theorem dL_law_1236 : decode cL_law 1236 = .ok (.iadd, 1) := by decide +kernel
theorem dL_law_1237 : decode cL_law 1237 = .ok (.iaload, 1) := by decide +kernel
theorem dL_law_1238 : decode cL_law 1238 = .ok (.aload_n 0, 1) := by decide +kernel
theorem dL_law_1239 : decode cL_law 1239 = .ok (.iload_n 3, 1) := by decide +kernel
theorem dL_law_1240 : decode cL_law 1240 = .ok (.iconst 2, 1) := by decide +kernel
theorem dL_law_1241 : decode cL_law 1241 = .ok (.iadd, 1) := by decide +kernel
theorem dL_law_1242 : decode cL_law 1242 = .ok (.iaload, 1) := by decide +kernel
theorem dL_law_1243 : decode cL_law 1243 = .ok (.invokevirtual 145, 3) := by decide +kernel
theorem dL_law_1246 : decode cL_law 1246 = .ok (.aload_n 2, 1) := by decide +kernel
theorem dL_law_1247 : decode cL_law 1247 = .ok (.aload_n 0, 1) := by decide +kernel
theorem dL_law_1248 : decode cL_law 1248 = .ok (.iload_n 3, 1) := by decide +kernel
theorem dL_law_1249 : decode cL_law 1249 = .ok (.iconst 1, 1) := by decide +kernel
theorem dL_law_1250 : decode cL_law 1250 = .ok (.iadd, 1) := by decide +kernel
theorem dL_law_1251 : decode cL_law 1251 = .ok (.iaload, 1) := by decide +kernel
theorem dL_law_1252 : decode cL_law 1252 = .ok (.aload_n 0, 1) := by decide +kernel
theorem dL_law_1253 : decode cL_law 1253 = .ok (.iload_n 3, 1) := by decide +kernel
theorem dL_law_1254 : decode cL_law 1254 = .ok (.iconst 2, 1) := by decide +kernel
theorem dL_law_1255 : decode cL_law 1255 = .ok (.iadd, 1) := by decide +kernel
theorem dL_law_1256 : decode cL_law 1256 = .ok (.iaload, 1) := by decide +kernel
theorem dL_law_1257 : decode cL_law 1257 = .ok (.invokevirtual 148, 3) := by decide +kernel
theorem dL_law_1260 : decode cL_law 1260 = .ok (.if_icmp .eq 267, 3) := by decide +kernel
theorem dL_law_1263 : decode cL_law 1263 = .ok (.iconst 0, 1) := by decide +kernel
theorem dL_law_1264 : decode cL_law 1264 = .ok (.ireturn, 1) := by decide +kernel
theorem dL_law_1265 : decode cL_law 1265 = .ok (.aload_n 1, 1) := by decide +kernel
theorem dL_law_1266 : decode cL_law 1266 = .ok (.invokevirtual 149, 3) := by decide +kernel
theorem dL_law_1269 : decode cL_law 1269 = .ok (.aload_n 2, 1) := by decide +kernel
theorem dL_law_1270 : decode cL_law 1270 = .ok (.invokevirtual 152, 3) := by decide +kernel
theorem dL_law_1273 : decode cL_law 1273 = .ok (.if_icmp .eq 254, 3) := by decide +kernel
theorem dL_law_1276 : decode cL_law 1276 = .ok (.iconst 0, 1) := by decide +kernel
theorem dL_law_1277 : decode cL_law 1277 = .ok (.ireturn, 1) := by decide +kernel
theorem dL_law_1278 : decode cL_law 1278 = .ok (.aload_n 1, 1) := by decide +kernel
theorem dL_law_1279 : decode cL_law 1279 = .ok (.invokevirtual 153, 3) := by decide +kernel
theorem dL_law_1282 : decode cL_law 1282 = .ok (.aload_n 2, 1) := by decide +kernel
theorem dL_law_1283 : decode cL_law 1283 = .ok (.invokevirtual 156, 3) := by decide +kernel
theorem dL_law_1286 : decode cL_law 1286 = .ok (.if_icmp .eq 241, 3) := by decide +kernel
theorem dL_law_1289 : decode cL_law 1289 = .ok (.iconst 0, 1) := by decide +kernel
theorem dL_law_1290 : decode cL_law 1290 = .ok (.ireturn, 1) := by decide +kernel
theorem dL_law_1291 : decode cL_law 1291 = .ok (.aload_n 1, 1) := by decide +kernel
theorem dL_law_1292 : decode cL_law 1292 = .ok (.aload_n 0, 1) := by decide +kernel
theorem dL_law_1293 : decode cL_law 1293 = .ok (.iload_n 3, 1) := by decide +kernel
theorem dL_law_1294 : decode cL_law 1294 = .ok (.iconst 1, 1) := by decide +kernel
theorem dL_law_1295 : decode cL_law 1295 = .ok (.iadd, 1) := by decide +kernel
theorem dL_law_1296 : decode cL_law 1296 = .ok (.iaload, 1) := by decide +kernel
theorem dL_law_1297 : decode cL_law 1297 = .ok (.invokevirtual 157, 3) := by decide +kernel
theorem dL_law_1300 : decode cL_law 1300 = .ok (.aload_n 2, 1) := by decide +kernel
theorem dL_law_1301 : decode cL_law 1301 = .ok (.aload_n 0, 1) := by decide +kernel
theorem dL_law_1302 : decode cL_law 1302 = .ok (.iload_n 3, 1) := by decide +kernel
theorem dL_law_1303 : decode cL_law 1303 = .ok (.iconst 1, 1) := by decide +kernel
theorem dL_law_1304 : decode cL_law 1304 = .ok (.iadd, 1) := by decide +kernel
theorem dL_law_1305 : decode cL_law 1305 = .ok (.iaload, 1) := by decide +kernel
theorem dL_law_1306 : decode cL_law 1306 = .ok (.invokevirtual 160, 3) := by decide +kernel
theorem dL_law_1309 : decode cL_law 1309 = .ok (.if_icmp .eq 218, 3) := by decide +kernel
theorem dL_law_1312 : decode cL_law 1312 = .ok (.iconst 0, 1) := by decide +kernel
theorem dL_law_1313 : decode cL_law 1313 = .ok (.ireturn, 1) := by decide +kernel
theorem dL_law_1314 : decode cL_law 1314 = .ok (.aload_n 1, 1) := by decide +kernel
theorem dL_law_1315 : decode cL_law 1315 = .ok (.aload_n 0, 1) := by decide +kernel
theorem dL_law_1316 : decode cL_law 1316 = .ok (.iload_n 3, 1) := by decide +kernel
theorem dL_law_1317 : decode cL_law 1317 = .ok (.iconst 1, 1) := by decide +kernel
theorem dL_law_1318 : decode cL_law 1318 = .ok (.iadd, 1) := by decide +kernel
theorem dL_law_1319 : decode cL_law 1319 = .ok (.iaload, 1) := by decide +kernel
theorem dL_law_1320 : decode cL_law 1320 = .ok (.aload_n 0, 1) := by decide +kernel
theorem dL_law_1321 : decode cL_law 1321 = .ok (.iload_n 3, 1) := by decide +kernel
theorem dL_law_1322 : decode cL_law 1322 = .ok (.iconst 2, 1) := by decide +kernel
theorem dL_law_1323 : decode cL_law 1323 = .ok (.iadd, 1) := by decide +kernel
theorem dL_law_1324 : decode cL_law 1324 = .ok (.iaload, 1) := by decide +kernel
theorem dL_law_1325 : decode cL_law 1325 = .ok (.aload_n 0, 1) := by decide +kernel
theorem dL_law_1326 : decode cL_law 1326 = .ok (.iload_n 3, 1) := by decide +kernel
theorem dL_law_1327 : decode cL_law 1327 = .ok (.iconst 3, 1) := by decide +kernel
theorem dL_law_1328 : decode cL_law 1328 = .ok (.iadd, 1) := by decide +kernel
theorem dL_law_1329 : decode cL_law 1329 = .ok (.iaload, 1) := by decide +kernel
theorem dL_law_1330 : decode cL_law 1330 = .ok (.invokevirtual 161, 3) := by decide +kernel
theorem dL_law_1333 : decode cL_law 1333 = .ok (.aload_n 2, 1) := by decide +kernel
theorem dL_law_1334 : decode cL_law 1334 = .ok (.aload_n 0, 1) := by decide +kernel
theorem dL_law_1335 : decode cL_law 1335 = .ok (.iload_n 3, 1) := by decide +kernel
theorem dL_law_1336 : decode cL_law 1336 = .ok (.iconst 1, 1) := by decide +kernel
theorem dL_law_1337 : decode cL_law 1337 = .ok (.iadd, 1) := by decide +kernel
theorem dL_law_1338 : decode cL_law 1338 = .ok (.iaload, 1) := by decide +kernel
theorem dL_law_1339 : decode cL_law 1339 = .ok (.aload_n 0, 1) := by decide +kernel
theorem dL_law_1340 : decode cL_law 1340 = .ok (.iload_n 3, 1) := by decide +kernel
theorem dL_law_1341 : decode cL_law 1341 = .ok (.iconst 2, 1) := by decide +kernel
theorem dL_law_1342 : decode cL_law 1342 = .ok (.iadd, 1) := by decide +kernel
theorem dL_law_1343 : decode cL_law 1343 = .ok (.iaload, 1) := by decide +kernel
theorem dL_law_1344 : decode cL_law 1344 = .ok (.aload_n 0, 1) := by decide +kernel
theorem dL_law_1345 : decode cL_law 1345 = .ok (.iload_n 3, 1) := by decide +kernel
theorem dL_law_1346 : decode cL_law 1346 = .ok (.iconst 3, 1) := by decide +kernel
theorem dL_law_1347 : decode cL_law 1347 = .ok (.iadd, 1) := by decide +kernel
theorem dL_law_1348 : decode cL_law 1348 = .ok (.iaload, 1) := by decide +kernel
theorem dL_law_1349 : decode cL_law 1349 = .ok (.invokevirtual 164, 3) := by decide +kernel
theorem dL_law_1352 : decode cL_law 1352 = .ok (.if_icmp .eq 175, 3) := by decide +kernel
theorem dL_law_1355 : decode cL_law 1355 = .ok (.iconst 0, 1) := by decide +kernel
theorem dL_law_1356 : decode cL_law 1356 = .ok (.ireturn, 1) := by decide +kernel
theorem dL_law_1357 : decode cL_law 1357 = .ok (.aload_n 1, 1) := by decide +kernel
theorem dL_law_1358 : decode cL_law 1358 = .ok (.aload_n 0, 1) := by decide +kernel
theorem dL_law_1359 : decode cL_law 1359 = .ok (.iload_n 3, 1) := by decide +kernel
theorem dL_law_1360 : decode cL_law 1360 = .ok (.iconst 1, 1) := by decide +kernel
theorem dL_law_1361 : decode cL_law 1361 = .ok (.iadd, 1) := by decide +kernel
theorem dL_law_1362 : decode cL_law 1362 = .ok (.iaload, 1) := by decide +kernel
theorem dL_law_1363 : decode cL_law 1363 = .ok (.aload_n 0, 1) := by decide +kernel
theorem dL_law_1364 : decode cL_law 1364 = .ok (.iload_n 3, 1) := by decide +kernel
theorem dL_law_1365 : decode cL_law 1365 = .ok (.iconst 2, 1) := by decide +kernel
theorem dL_law_1366 : decode cL_law 1366 = .ok (.iadd, 1) := by decide +kernel
theorem dL_law_1367 : decode cL_law 1367 = .ok (.iaload, 1) := by decide +kernel
theorem dL_law_1368 : decode cL_law 1368 = .ok (.aload_n 0, 1) := by decide +kernel
theorem dL_law_1369 : decode cL_law 1369 = .ok (.iload_n 3, 1) := by decide +kernel
theorem dL_law_1370 : decode cL_law 1370 = .ok (.iconst 3, 1) := by decide +kernel
theorem dL_law_1371 : decode cL_law 1371 = .ok (.iadd, 1) := by decide +kernel
theorem dL_law_1372 : decode cL_law 1372 = .ok (.iaload, 1) := by decide +kernel
theorem dL_law_1373 : decode cL_law 1373 = .ok (.i2l, 1) := by decide +kernel
theorem dL_law_1374 : decode cL_law 1374 = .ok (.bipush 32, 2) := by decide +kernel
theorem dL_law_1376 : decode cL_law 1376 = .ok (.lshl, 1) := by decide +kernel
theorem dL_law_1377 : decode cL_law 1377 = .ok (.aload_n 0, 1) := by decide +kernel
theorem dL_law_1378 : decode cL_law 1378 = .ok (.iload_n 3, 1) := by decide +kernel
theorem dL_law_1379 : decode cL_law 1379 = .ok (.iconst 4, 1) := by decide +kernel
theorem dL_law_1380 : decode cL_law 1380 = .ok (.iadd, 1) := by decide +kernel
theorem dL_law_1381 : decode cL_law 1381 = .ok (.iaload, 1) := by decide +kernel
theorem dL_law_1382 : decode cL_law 1382 = .ok (.i2l, 1) := by decide +kernel
theorem dL_law_1383 : decode cL_law 1383 = .ok (.ldc2_w 165, 3) := by decide +kernel
theorem dL_law_1386 : decode cL_law 1386 = .ok (.land, 1) := by decide +kernel
theorem dL_law_1387 : decode cL_law 1387 = .ok (.lor, 1) := by decide +kernel
theorem dL_law_1388 : decode cL_law 1388 = .ok (.invokevirtual 167, 3) := by decide +kernel
theorem dL_law_1391 : decode cL_law 1391 = .ok (.aload_n 2, 1) := by decide +kernel
theorem dL_law_1392 : decode cL_law 1392 = .ok (.aload_n 0, 1) := by decide +kernel
theorem dL_law_1393 : decode cL_law 1393 = .ok (.iload_n 3, 1) := by decide +kernel
theorem dL_law_1394 : decode cL_law 1394 = .ok (.iconst 1, 1) := by decide +kernel
theorem dL_law_1395 : decode cL_law 1395 = .ok (.iadd, 1) := by decide +kernel
theorem dL_law_1396 : decode cL_law 1396 = .ok (.iaload, 1) := by decide +kernel
theorem dL_law_1397 : decode cL_law 1397 = .ok (.aload_n 0, 1) := by decide +kernel
theorem dL_law_1398 : decode cL_law 1398 = .ok (.iload_n 3, 1) := by decide +kernel
theorem dL_law_1399 : decode cL_law 1399 = .ok (.iconst 2, 1) := by decide +kernel
theorem dL_law_1400 : decode cL_law 1400 = .ok (.iadd, 1) := by decide +kernel
theorem dL_law_1401 : decode cL_law 1401 = .ok (.iaload, 1) := by decide +kernel
theorem dL_law_1402 : decode cL_law 1402 = .ok (.aload_n 0, 1) := by decide +kernel
theorem dL_law_1403 : decode cL_law 1403 = .ok (.iload_n 3, 1) := by decide +kernel
theorem dL_law_1404 : decode cL_law 1404 = .ok (.iconst 3, 1) := by decide +kernel
theorem dL_law_1405 : decode cL_law 1405 = .ok (.iadd, 1) := by decide +kernel
theorem dL_law_1406 : decode cL_law 1406 = .ok (.iaload, 1) := by decide +kernel
theorem dL_law_1407 : decode cL_law 1407 = .ok (.i2l, 1) := by decide +kernel
theorem dL_law_1408 : decode cL_law 1408 = .ok (.bipush 32, 2) := by decide +kernel
theorem dL_law_1410 : decode cL_law 1410 = .ok (.lshl, 1) := by decide +kernel
theorem dL_law_1411 : decode cL_law 1411 = .ok (.aload_n 0, 1) := by decide +kernel
theorem dL_law_1412 : decode cL_law 1412 = .ok (.iload_n 3, 1) := by decide +kernel
theorem dL_law_1413 : decode cL_law 1413 = .ok (.iconst 4, 1) := by decide +kernel
theorem dL_law_1414 : decode cL_law 1414 = .ok (.iadd, 1) := by decide +kernel
theorem dL_law_1415 : decode cL_law 1415 = .ok (.iaload, 1) := by decide +kernel
theorem dL_law_1416 : decode cL_law 1416 = .ok (.i2l, 1) := by decide +kernel
theorem dL_law_1417 : decode cL_law 1417 = .ok (.ldc2_w 165, 3) := by decide +kernel
theorem dL_law_1420 : decode cL_law 1420 = .ok (.land, 1) := by decide +kernel
theorem dL_law_1421 : decode cL_law 1421 = .ok (.lor, 1) := by decide +kernel
theorem dL_law_1422 : decode cL_law 1422 = .ok (.invokevirtual 171, 3) := by decide +kernel
theorem dL_law_1425 : decode cL_law 1425 = .ok (.if_icmp .eq 102, 3) := by decide +kernel
theorem dL_law_1428 : decode cL_law 1428 = .ok (.iconst 0, 1) := by decide +kernel
theorem dL_law_1429 : decode cL_law 1429 = .ok (.ireturn, 1) := by decide +kernel
theorem dL_law_1430 : decode cL_law 1430 = .ok (.aload_n 1, 1) := by decide +kernel
theorem dL_law_1431 : decode cL_law 1431 = .ok (.aload_n 0, 1) := by decide +kernel
theorem dL_law_1432 : decode cL_law 1432 = .ok (.iload_n 3, 1) := by decide +kernel
theorem dL_law_1433 : decode cL_law 1433 = .ok (.iconst 1, 1) := by decide +kernel
theorem dL_law_1434 : decode cL_law 1434 = .ok (.iadd, 1) := by decide +kernel
theorem dL_law_1435 : decode cL_law 1435 = .ok (.iaload, 1) := by decide +kernel
theorem dL_law_1436 : decode cL_law 1436 = .ok (.aload_n 0, 1) := by decide +kernel
theorem dL_law_1437 : decode cL_law 1437 = .ok (.iload_n 3, 1) := by decide +kernel
theorem dL_law_1438 : decode cL_law 1438 = .ok (.iconst 2, 1) := by decide +kernel
theorem dL_law_1439 : decode cL_law 1439 = .ok (.iadd, 1) := by decide +kernel
theorem dL_law_1440 : decode cL_law 1440 = .ok (.iaload, 1) := by decide +kernel
theorem dL_law_1441 : decode cL_law 1441 = .ok (.invokevirtual 172, 3) := by decide +kernel
theorem dL_law_1444 : decode cL_law 1444 = .ok (.aload_n 2, 1) := by decide +kernel
theorem dL_law_1445 : decode cL_law 1445 = .ok (.aload_n 0, 1) := by decide +kernel
theorem dL_law_1446 : decode cL_law 1446 = .ok (.iload_n 3, 1) := by decide +kernel
theorem dL_law_1447 : decode cL_law 1447 = .ok (.iconst 1, 1) := by decide +kernel
theorem dL_law_1448 : decode cL_law 1448 = .ok (.iadd, 1) := by decide +kernel
theorem dL_law_1449 : decode cL_law 1449 = .ok (.iaload, 1) := by decide +kernel
theorem dL_law_1450 : decode cL_law 1450 = .ok (.aload_n 0, 1) := by decide +kernel
theorem dL_law_1451 : decode cL_law 1451 = .ok (.iload_n 3, 1) := by decide +kernel
theorem dL_law_1452 : decode cL_law 1452 = .ok (.iconst 2, 1) := by decide +kernel
theorem dL_law_1453 : decode cL_law 1453 = .ok (.iadd, 1) := by decide +kernel
theorem dL_law_1454 : decode cL_law 1454 = .ok (.iaload, 1) := by decide +kernel
theorem dL_law_1455 : decode cL_law 1455 = .ok (.invokevirtual 175, 3) := by decide +kernel
theorem dL_law_1458 : decode cL_law 1458 = .ok (.lcmp, 1) := by decide +kernel
theorem dL_law_1459 : decode cL_law 1459 = .ok (.ifCond .eq 68, 3) := by decide +kernel
theorem dL_law_1462 : decode cL_law 1462 = .ok (.iconst 0, 1) := by decide +kernel
theorem dL_law_1463 : decode cL_law 1463 = .ok (.ireturn, 1) := by decide +kernel
theorem dL_law_1464 : decode cL_law 1464 = .ok (.aload_n 1, 1) := by decide +kernel
theorem dL_law_1465 : decode cL_law 1465 = .ok (.aload_n 0, 1) := by decide +kernel
theorem dL_law_1466 : decode cL_law 1466 = .ok (.iload_n 3, 1) := by decide +kernel
theorem dL_law_1467 : decode cL_law 1467 = .ok (.iconst 1, 1) := by decide +kernel
theorem dL_law_1468 : decode cL_law 1468 = .ok (.iadd, 1) := by decide +kernel
theorem dL_law_1469 : decode cL_law 1469 = .ok (.iaload, 1) := by decide +kernel
theorem dL_law_1470 : decode cL_law 1470 = .ok (.aload_n 0, 1) := by decide +kernel
theorem dL_law_1471 : decode cL_law 1471 = .ok (.iload_n 3, 1) := by decide +kernel
theorem dL_law_1472 : decode cL_law 1472 = .ok (.iconst 2, 1) := by decide +kernel
theorem dL_law_1473 : decode cL_law 1473 = .ok (.iadd, 1) := by decide +kernel
theorem dL_law_1474 : decode cL_law 1474 = .ok (.iaload, 1) := by decide +kernel
theorem dL_law_1475 : decode cL_law 1475 = .ok (.aload_n 0, 1) := by decide +kernel
theorem dL_law_1476 : decode cL_law 1476 = .ok (.iload_n 3, 1) := by decide +kernel
theorem dL_law_1477 : decode cL_law 1477 = .ok (.iconst 3, 1) := by decide +kernel
theorem dL_law_1478 : decode cL_law 1478 = .ok (.iadd, 1) := by decide +kernel
theorem dL_law_1479 : decode cL_law 1479 = .ok (.iaload, 1) := by decide +kernel
theorem dL_law_1480 : decode cL_law 1480 = .ok (.aload_n 0, 1) := by decide +kernel
theorem dL_law_1481 : decode cL_law 1481 = .ok (.iload_n 3, 1) := by decide +kernel
theorem dL_law_1482 : decode cL_law 1482 = .ok (.iconst 4, 1) := by decide +kernel
theorem dL_law_1483 : decode cL_law 1483 = .ok (.iadd, 1) := by decide +kernel
theorem dL_law_1484 : decode cL_law 1484 = .ok (.iaload, 1) := by decide +kernel
theorem dL_law_1485 : decode cL_law 1485 = .ok (.aload_n 0, 1) := by decide +kernel
theorem dL_law_1486 : decode cL_law 1486 = .ok (.iload_n 3, 1) := by decide +kernel
theorem dL_law_1487 : decode cL_law 1487 = .ok (.iconst 5, 1) := by decide +kernel
theorem dL_law_1488 : decode cL_law 1488 = .ok (.iadd, 1) := by decide +kernel
theorem dL_law_1489 : decode cL_law 1489 = .ok (.iaload, 1) := by decide +kernel
theorem dL_law_1490 : decode cL_law 1490 = .ok (.invokevirtual 176, 3) := by decide +kernel
theorem dL_law_1493 : decode cL_law 1493 = .ok (.aload_n 2, 1) := by decide +kernel
theorem dL_law_1494 : decode cL_law 1494 = .ok (.aload_n 0, 1) := by decide +kernel
theorem dL_law_1495 : decode cL_law 1495 = .ok (.iload_n 3, 1) := by decide +kernel
theorem dL_law_1496 : decode cL_law 1496 = .ok (.iconst 1, 1) := by decide +kernel
theorem dL_law_1497 : decode cL_law 1497 = .ok (.iadd, 1) := by decide +kernel
theorem dL_law_1498 : decode cL_law 1498 = .ok (.iaload, 1) := by decide +kernel
theorem dL_law_1499 : decode cL_law 1499 = .ok (.aload_n 0, 1) := by decide +kernel
theorem dL_law_1500 : decode cL_law 1500 = .ok (.iload_n 3, 1) := by decide +kernel
theorem dL_law_1501 : decode cL_law 1501 = .ok (.iconst 2, 1) := by decide +kernel
theorem dL_law_1502 : decode cL_law 1502 = .ok (.iadd, 1) := by decide +kernel
theorem dL_law_1503 : decode cL_law 1503 = .ok (.iaload, 1) := by decide +kernel
theorem dL_law_1504 : decode cL_law 1504 = .ok (.aload_n 0, 1) := by decide +kernel
theorem dL_law_1505 : decode cL_law 1505 = .ok (.iload_n 3, 1) := by decide +kernel
theorem dL_law_1506 : decode cL_law 1506 = .ok (.iconst 3, 1) := by decide +kernel
theorem dL_law_1507 : decode cL_law 1507 = .ok (.iadd, 1) := by decide +kernel
theorem dL_law_1508 : decode cL_law 1508 = .ok (.iaload, 1) := by decide +kernel
theorem dL_law_1509 : decode cL_law 1509 = .ok (.aload_n 0, 1) := by decide +kernel
theorem dL_law_1510 : decode cL_law 1510 = .ok (.iload_n 3, 1) := by decide +kernel
theorem dL_law_1511 : decode cL_law 1511 = .ok (.iconst 4, 1) := by decide +kernel
theorem dL_law_1512 : decode cL_law 1512 = .ok (.iadd, 1) := by decide +kernel
theorem dL_law_1513 : decode cL_law 1513 = .ok (.iaload, 1) := by decide +kernel
theorem dL_law_1514 : decode cL_law 1514 = .ok (.aload_n 0, 1) := by decide +kernel
theorem dL_law_1515 : decode cL_law 1515 = .ok (.iload_n 3, 1) := by decide +kernel
theorem dL_law_1516 : decode cL_law 1516 = .ok (.iconst 5, 1) := by decide +kernel
theorem dL_law_1517 : decode cL_law 1517 = .ok (.iadd, 1) := by decide +kernel
theorem dL_law_1518 : decode cL_law 1518 = .ok (.iaload, 1) := by decide +kernel
theorem dL_law_1519 : decode cL_law 1519 = .ok (.invokevirtual 180, 3) := by decide +kernel
theorem dL_law_1522 : decode cL_law 1522 = .ok (.if_icmp .eq 5, 3) := by decide +kernel
theorem dL_law_1525 : decode cL_law 1525 = .ok (.iconst 0, 1) := by decide +kernel
theorem dL_law_1526 : decode cL_law 1526 = .ok (.ireturn, 1) := by decide +kernel
theorem dL_law_1527 : decode cL_law 1527 = .ok (.iinc 3 6, 3) := by decide +kernel
theorem dL_law_1530 : decode cL_law 1530 = .ok (.goto (-1512), 3) := by decide +kernel
theorem dL_law_1533 : decode cL_law 1533 = .ok (.iconst 1, 1) := by decide +kernel
theorem dL_law_1534 : decode cL_law 1534 = .ok (.ireturn, 1) := by decide +kernel
