theorem dX0_init_0 : decode cX0_init 0 = .ok (.aload_n 0, 1) := by decide +kernel
theorem dX0_init_1 : decode cX0_init 1 = .ok (.invokespecial 3, 3) := by decide +kernel
theorem dX0_init_4 : decode cX0_init 4 = .ok (.aload_n 0, 1) := by decide +kernel
theorem dX0_init_5 : decode cX0_init 5 = .ok (.bipush 8, 2) := by decide +kernel
theorem dX0_init_7 : decode cX0_init 7 = .ok (.newarray .long, 2) := by decide +kernel
theorem dX0_init_9 : decode cX0_init 9 = .ok (.putfield 9, 3) := by decide +kernel
theorem dX0_init_12 : decode cX0_init 12 = .ok (.aload_n 0, 1) := by decide +kernel
theorem dX0_init_13 : decode cX0_init 13 = .ok (.bipush 8, 2) := by decide +kernel
theorem dX0_init_15 : decode cX0_init 15 = .ok (.newarray .long, 2) := by decide +kernel
theorem dX0_init_17 : decode cX0_init 17 = .ok (.putfield 15, 3) := by decide +kernel
theorem dX0_init_20 : decode cX0_init 20 = .ok (.aload_n 0, 1) := by decide +kernel
theorem dX0_init_21 : decode cX0_init 21 = .ok (.iconst (-1), 1) := by decide +kernel
theorem dX0_init_22 : decode cX0_init 22 = .ok (.putfield 18, 3) := by decide +kernel
theorem dX0_init_25 : decode cX0_init 25 = .ok (.aload_n 0, 1) := by decide +kernel
theorem dX0_init_26 : decode cX0_init 26 = .ok (.iconst (-1), 1) := by decide +kernel
theorem dX0_init_27 : decode cX0_init 27 = .ok (.putfield 22, 3) := by decide +kernel
theorem dX0_init_30 : decode cX0_init 30 = .ok (.aload_n 0, 1) := by decide +kernel
theorem dX0_init_31 : decode cX0_init 31 = .ok (.iconst 0, 1) := by decide +kernel
theorem dX0_init_32 : decode cX0_init 32 = .ok (.putfield 25, 3) := by decide +kernel
theorem dX0_init_35 : decode cX0_init 35 = .ok (.aload_n 0, 1) := by decide +kernel
theorem dX0_init_36 : decode cX0_init 36 = .ok (.aload_n 1, 1) := by decide +kernel
theorem dX0_init_37 : decode cX0_init 37 = .ok (.putfield 28, 3) := by decide +kernel
theorem dX0_init_40 : decode cX0_init 40 = .ok (.return_, 1) := by decide +kernel
theorem dX0_unsettle_0 : decode cX0_unsettle 0 = .ok (.aload_n 0, 1) := by decide +kernel
theorem dX0_unsettle_1 : decode cX0_unsettle 1 = .ok (.iconst (-1), 1) := by decide +kernel
theorem dX0_unsettle_2 : decode cX0_unsettle 2 = .ok (.putfield 18, 3) := by decide +kernel
theorem dX0_unsettle_5 : decode cX0_unsettle 5 = .ok (.return_, 1) := by decide +kernel
theorem dX0_above_0 : decode cX0_above 0 = .ok (.iload_n 1, 1) := by decide +kernel
theorem dX0_above_1 : decode cX0_above 1 = .ok (.ifCond .lt 21, 3) := by decide +kernel
theorem dX0_above_4 : decode cX0_above 4 = .ok (.iload_n 1, 1) := by decide +kernel
theorem dX0_above_5 : decode cX0_above 5 = .ok (.aload_n 0, 1) := by decide +kernel
theorem dX0_above_6 : decode cX0_above 6 = .ok (.getfield 9, 3) := by decide +kernel
theorem dX0_above_9 : decode cX0_above 9 = .ok (.arraylength, 1) := by decide +kernel
theorem dX0_above_10 : decode cX0_above 10 = .ok (.if_icmp .ge 12, 3) := by decide +kernel
theorem dX0_above_13 : decode cX0_above 13 = .ok (.aload_n 0, 1) := by decide +kernel
theorem dX0_above_14 : decode cX0_above 14 = .ok (.getfield 9, 3) := by decide +kernel
theorem dX0_above_17 : decode cX0_above 17 = .ok (.iload_n 1, 1) := by decide +kernel
theorem dX0_above_18 : decode cX0_above 18 = .ok (.laload, 1) := by decide +kernel
theorem dX0_above_19 : decode cX0_above 19 = .ok (.goto 4, 3) := by decide +kernel
theorem dX0_above_22 : decode cX0_above 22 = .ok (.lconst 0, 1) := by decide +kernel
theorem dX0_above_23 : decode cX0_above 23 = .ok (.lreturn, 1) := by decide +kernel
theorem dX0_below_0 : decode cX0_below 0 = .ok (.iload_n 1, 1) := by decide +kernel
theorem dX0_below_1 : decode cX0_below 1 = .ok (.ifCond .lt 21, 3) := by decide +kernel
theorem dX0_below_4 : decode cX0_below 4 = .ok (.iload_n 1, 1) := by decide +kernel
theorem dX0_below_5 : decode cX0_below 5 = .ok (.aload_n 0, 1) := by decide +kernel
theorem dX0_below_6 : decode cX0_below 6 = .ok (.getfield 15, 3) := by decide +kernel
theorem dX0_below_9 : decode cX0_below 9 = .ok (.arraylength, 1) := by decide +kernel
theorem dX0_below_10 : decode cX0_below 10 = .ok (.if_icmp .ge 12, 3) := by decide +kernel
theorem dX0_below_13 : decode cX0_below 13 = .ok (.aload_n 0, 1) := by decide +kernel
theorem dX0_below_14 : decode cX0_below 14 = .ok (.getfield 15, 3) := by decide +kernel
theorem dX0_below_17 : decode cX0_below 17 = .ok (.iload_n 1, 1) := by decide +kernel
theorem dX0_below_18 : decode cX0_below 18 = .ok (.laload, 1) := by decide +kernel
theorem dX0_below_19 : decode cX0_below 19 = .ok (.goto 4, 3) := by decide +kernel
theorem dX0_below_22 : decode cX0_below 22 = .ok (.lconst 1, 1) := by decide +kernel
theorem dX0_below_23 : decode cX0_below 23 = .ok (.lreturn, 1) := by decide +kernel
theorem dX0_findLiving_0 : decode cX0_findLiving 0 = .ok (.aload_n 0, 1) := by decide +kernel
theorem dX0_findLiving_1 : decode cX0_findLiving 1 = .ok (.getfield 18, 3) := by decide +kernel
theorem dX0_findLiving_4 : decode cX0_findLiving 4 = .ok (.iload_n 1, 1) := by decide +kernel
theorem dX0_findLiving_5 : decode cX0_findLiving 5 = .ok (.if_icmp .ne 12, 3) := by decide +kernel
theorem dX0_findLiving_8 : decode cX0_findLiving 8 = .ok (.aload_n 0, 1) := by decide +kernel
theorem dX0_findLiving_9 : decode cX0_findLiving 9 = .ok (.getfield 22, 3) := by decide +kernel
theorem dX0_findLiving_12 : decode cX0_findLiving 12 = .ok (.iload_n 2, 1) := by decide +kernel
theorem dX0_findLiving_13 : decode cX0_findLiving 13 = .ok (.if_icmp .ne 4, 3) := by decide +kernel
theorem dX0_findLiving_16 : decode cX0_findLiving 16 = .ok (.return_, 1) := by decide +kernel
theorem dX0_findLiving_17 : decode cX0_findLiving 17 = .ok (.aload_n 0, 1) := by decide +kernel
theorem dX0_findLiving_18 : decode cX0_findLiving 18 = .ok (.iload_n 1, 1) := by decide +kernel
theorem dX0_findLiving_19 : decode cX0_findLiving 19 = .ok (.putfield 18, 3) := by decide +kernel
theorem dX0_findLiving_22 : decode cX0_findLiving 22 = .ok (.aload_n 0, 1) := by decide +kernel
theorem dX0_findLiving_23 : decode cX0_findLiving 23 = .ok (.iload_n 2, 1) := by decide +kernel
theorem dX0_findLiving_24 : decode cX0_findLiving 24 = .ok (.putfield 22, 3) := by decide +kernel
theorem dX0_findLiving_27 : decode cX0_findLiving 27 = .ok (.aload_n 0, 1) := by decide +kernel
theorem dX0_findLiving_28 : decode cX0_findLiving 28 = .ok (.getfield 28, 3) := by decide +kernel
theorem dX0_findLiving_31 : decode cX0_findLiving 31 = .ok (.getfield 32, 3) := by decide +kernel
theorem dX0_findLiving_34 : decode cX0_findLiving 34 = .ok (.getfield 38, 3) := by decide +kernel
theorem dX0_findLiving_37 : decode cX0_findLiving 37 = .ok (.invokestatic 44, 3) := by decide +kernel
theorem dX0_findLiving_40 : decode cX0_findLiving 40 = .ok (.iconst 2, 1) := by decide +kernel
theorem dX0_findLiving_41 : decode cX0_findLiving 41 = .ok (.iload_n 2, 1) := by decide +kernel
theorem dX0_findLiving_42 : decode cX0_findLiving 42 = .ok (.ishl, 1) := by decide +kernel
theorem dX0_findLiving_43 : decode cX0_findLiving 43 = .ok (.iconst 1, 1) := by decide +kernel
theorem dX0_findLiving_44 : decode cX0_findLiving 44 = .ok (.isub, 1) := by decide +kernel
theorem dX0_findLiving_45 : decode cX0_findLiving 45 = .ok (.iand, 1) := by decide +kernel
theorem dX0_findLiving_46 : decode cX0_findLiving 46 = .ok (.istore_n 3, 1) := by decide +kernel
theorem dX0_findLiving_47 : decode cX0_findLiving 47 = .ok (.iload_n 3, 1) := by decide +kernel
theorem dX0_findLiving_48 : decode cX0_findLiving 48 = .ok (.invokestatic 50, 3) := by decide +kernel
theorem dX0_findLiving_51 : decode cX0_findLiving 51 = .ok (.istore 4, 2) := by decide +kernel
theorem dX0_findLiving_53 : decode cX0_findLiving 53 = .ok (.aload_n 0, 1) := by decide +kernel
theorem dX0_findLiving_54 : decode cX0_findLiving 54 = .ok (.getfield 9, 3) := by decide +kernel
theorem dX0_findLiving_57 : decode cX0_findLiving 57 = .ok (.lconst 0, 1) := by decide +kernel
theorem dX0_findLiving_58 : decode cX0_findLiving 58 = .ok (.invokestatic 56, 3) := by decide +kernel
theorem dX0_findLiving_61 : decode cX0_findLiving 61 = .ok (.aload_n 0, 1) := by decide +kernel
theorem dX0_findLiving_62 : decode cX0_findLiving 62 = .ok (.getfield 15, 3) := by decide +kernel
theorem dX0_findLiving_65 : decode cX0_findLiving 65 = .ok (.bipush 16, 2) := by decide +kernel
theorem dX0_findLiving_67 : decode cX0_findLiving 67 = .ok (.iload 4, 2) := by decide +kernel
theorem dX0_findLiving_69 : decode cX0_findLiving 69 = .ok (.invokestatic 62, 3) := by decide +kernel
theorem dX0_findLiving_72 : decode cX0_findLiving 72 = .ok (.invokestatic 56, 3) := by decide +kernel
theorem dX0_findLiving_75 : decode cX0_findLiving 75 = .ok (.iconst 0, 1) := by decide +kernel
theorem dX0_findLiving_76 : decode cX0_findLiving 76 = .ok (.istore 5, 2) := by decide +kernel
theorem dX0_findLiving_78 : decode cX0_findLiving 78 = .ok (.iconst 0, 1) := by decide +kernel
theorem dX0_findLiving_79 : decode cX0_findLiving 79 = .ok (.istore 6, 2) := by decide +kernel
theorem dX0_findLiving_81 : decode cX0_findLiving 81 = .ok (.iload 6, 2) := by decide +kernel
theorem dX0_findLiving_83 : decode cX0_findLiving 83 = .ok (.iconst 1, 1) := by decide +kernel
theorem dX0_findLiving_84 : decode cX0_findLiving 84 = .ok (.iload 4, 2) := by decide +kernel
theorem dX0_findLiving_86 : decode cX0_findLiving 86 = .ok (.ishl, 1) := by decide +kernel
theorem dX0_findLiving_87 : decode cX0_findLiving 87 = .ok (.if_icmp .ge 83, 3) := by decide +kernel
theorem dX0_findLiving_90 : decode cX0_findLiving 90 = .ok (.iload 5, 2) := by decide +kernel
theorem dX0_findLiving_92 : decode cX0_findLiving 92 = .ok (.invokestatic 50, 3) := by decide +kernel
theorem dX0_findLiving_95 : decode cX0_findLiving 95 = .ok (.istore 7, 2) := by decide +kernel
theorem dX0_findLiving_97 : decode cX0_findLiving 97 = .ok (.iload_n 1, 1) := by decide +kernel
theorem dX0_findLiving_98 : decode cX0_findLiving 98 = .ok (.iload 7, 2) := by decide +kernel
theorem dX0_findLiving_100 : decode cX0_findLiving 100 = .ok (.invokestatic 62, 3) := by decide +kernel
theorem dX0_findLiving_103 : decode cX0_findLiving 103 = .ok (.bipush 16, 2) := by decide +kernel
theorem dX0_findLiving_105 : decode cX0_findLiving 105 = .ok (.iload_n 1, 1) := by decide +kernel
theorem dX0_findLiving_106 : decode cX0_findLiving 106 = .ok (.isub, 1) := by decide +kernel
theorem dX0_findLiving_107 : decode cX0_findLiving 107 = .ok (.iload 4, 2) := by decide +kernel
theorem dX0_findLiving_109 : decode cX0_findLiving 109 = .ok (.iload 7, 2) := by decide +kernel
theorem dX0_findLiving_111 : decode cX0_findLiving 111 = .ok (.isub, 1) := by decide +kernel
theorem dX0_findLiving_112 : decode cX0_findLiving 112 = .ok (.invokestatic 62, 3) := by decide +kernel
theorem dX0_findLiving_115 : decode cX0_findLiving 115 = .ok (.lmul, 1) := by decide +kernel
theorem dX0_findLiving_116 : decode cX0_findLiving 116 = .ok (.lstore 8, 2) := by decide +kernel
theorem dX0_findLiving_118 : decode cX0_findLiving 118 = .ok (.lload 8, 2) := by decide +kernel
theorem dX0_findLiving_120 : decode cX0_findLiving 120 = .ok (.lconst 0, 1) := by decide +kernel
theorem dX0_findLiving_121 : decode cX0_findLiving 121 = .ok (.lcmp, 1) := by decide +kernel
theorem dX0_findLiving_122 : decode cX0_findLiving 122 = .ok (.ifCond .le 34, 3) := by decide +kernel
theorem dX0_findLiving_125 : decode cX0_findLiving 125 = .ok (.aload_n 0, 1) := by decide +kernel
theorem dX0_findLiving_126 : decode cX0_findLiving 126 = .ok (.getfield 28, 3) := by decide +kernel
theorem dX0_findLiving_129 : decode cX0_findLiving 129 = .ok (.invokevirtual 66, 3) := by decide +kernel
theorem dX0_findLiving_132 : decode cX0_findLiving 132 = .ok (.aload_n 0, 1) := by decide +kernel
theorem dX0_findLiving_133 : decode cX0_findLiving 133 = .ok (.iload 5, 2) := by decide +kernel
theorem dX0_findLiving_135 : decode cX0_findLiving 135 = .ok (.iload_n 2, 1) := by decide +kernel
theorem dX0_findLiving_136 : decode cX0_findLiving 136 = .ok (.invokevirtual 69, 3) := by decide +kernel
theorem dX0_findLiving_139 : decode cX0_findLiving 139 = .ok (.aload_n 0, 1) := by decide +kernel
theorem dX0_findLiving_140 : decode cX0_findLiving 140 = .ok (.getfield 28, 3) := by decide +kernel
theorem dX0_findLiving_143 : decode cX0_findLiving 143 = .ok (.getfield 73, 3) := by decide +kernel
theorem dX0_findLiving_146 : decode cX0_findLiving 146 = .ok (.iload_n 2, 1) := by decide +kernel
theorem dX0_findLiving_147 : decode cX0_findLiving 147 = .ok (.invokevirtual 77, 3) := by decide +kernel
theorem dX0_findLiving_150 : decode cX0_findLiving 150 = .ok (.aload_n 0, 1) := by decide +kernel
theorem dX0_findLiving_151 : decode cX0_findLiving 151 = .ok (.lload 8, 2) := by decide +kernel
theorem dX0_findLiving_153 : decode cX0_findLiving 153 = .ok (.invokevirtual 81, 3) := by decide +kernel
theorem dX0_findLiving_156 : decode cX0_findLiving 156 = .ok (.iload 5, 2) := by decide +kernel
theorem dX0_findLiving_158 : decode cX0_findLiving 158 = .ok (.iload_n 3, 1) := by decide +kernel
theorem dX0_findLiving_159 : decode cX0_findLiving 159 = .ok (.isub, 1) := by decide +kernel
theorem dX0_findLiving_160 : decode cX0_findLiving 160 = .ok (.iload_n 3, 1) := by decide +kernel
theorem dX0_findLiving_161 : decode cX0_findLiving 161 = .ok (.iand, 1) := by decide +kernel
theorem dX0_findLiving_162 : decode cX0_findLiving 162 = .ok (.istore 5, 2) := by decide +kernel
theorem dX0_findLiving_164 : decode cX0_findLiving 164 = .ok (.iinc 6 1, 3) := by decide +kernel
theorem dX0_findLiving_167 : decode cX0_findLiving 167 = .ok (.goto (-86), 3) := by decide +kernel
theorem dX0_findLiving_170 : decode cX0_findLiving 170 = .ok (.iconst 0, 1) := by decide +kernel
theorem dX0_findLiving_171 : decode cX0_findLiving 171 = .ok (.istore 6, 2) := by decide +kernel
theorem dX0_findLiving_173 : decode cX0_findLiving 173 = .ok (.iload 6, 2) := by decide +kernel
theorem dX0_findLiving_175 : decode cX0_findLiving 175 = .ok (.bipush 8, 2) := by decide +kernel
theorem dX0_findLiving_177 : decode cX0_findLiving 177 = .ok (.if_icmp .ge 15, 3) := by decide +kernel
theorem dX0_findLiving_180 : decode cX0_findLiving 180 = .ok (.aload_n 0, 1) := by decide +kernel
theorem dX0_findLiving_181 : decode cX0_findLiving 181 = .ok (.iload 6, 2) := by decide +kernel
theorem dX0_findLiving_183 : decode cX0_findLiving 183 = .ok (.invokevirtual 85, 3) := by decide +kernel
theorem dX0_findLiving_186 : decode cX0_findLiving 186 = .ok (.iinc 6 1, 3) := by decide +kernel
theorem dX0_findLiving_189 : decode cX0_findLiving 189 = .ok (.goto (-16), 3) := by decide +kernel
theorem dX0_findLiving_192 : decode cX0_findLiving 192 = .ok (.return_, 1) := by decide +kernel
theorem dX0_supposeFrosts_0 : decode cX0_supposeFrosts 0 = .ok (.aload_n 0, 1) := by decide +kernel
theorem dX0_supposeFrosts_1 : decode cX0_supposeFrosts 1 = .ok (.getfield 28, 3) := by decide +kernel
theorem dX0_supposeFrosts_4 : decode cX0_supposeFrosts 4 = .ok (.getfield 88, 3) := by decide +kernel
theorem dX0_supposeFrosts_7 : decode cX0_supposeFrosts 7 = .ok (.getfield 91, 3) := by decide +kernel
theorem dX0_supposeFrosts_10 : decode cX0_supposeFrosts 10 = .ok (.iconst 0, 1) := by decide +kernel
theorem dX0_supposeFrosts_11 : decode cX0_supposeFrosts 11 = .ok (.putfield 94, 3) := by decide +kernel
theorem dX0_supposeFrosts_14 : decode cX0_supposeFrosts 14 = .ok (.iconst 0, 1) := by decide +kernel
theorem dX0_supposeFrosts_15 : decode cX0_supposeFrosts 15 = .ok (.istore_n 3, 1) := by decide +kernel
theorem dX0_supposeFrosts_16 : decode cX0_supposeFrosts 16 = .ok (.iload_n 3, 1) := by decide +kernel
theorem dX0_supposeFrosts_17 : decode cX0_supposeFrosts 17 = .ok (.iload_n 2, 1) := by decide +kernel
theorem dX0_supposeFrosts_18 : decode cX0_supposeFrosts 18 = .ok (.if_icmp .gt 34, 3) := by decide +kernel
theorem dX0_supposeFrosts_21 : decode cX0_supposeFrosts 21 = .ok (.iload_n 1, 1) := by decide +kernel
theorem dX0_supposeFrosts_22 : decode cX0_supposeFrosts 22 = .ok (.iload_n 3, 1) := by decide +kernel
theorem dX0_supposeFrosts_23 : decode cX0_supposeFrosts 23 = .ok (.ishr, 1) := by decide +kernel
theorem dX0_supposeFrosts_24 : decode cX0_supposeFrosts 24 = .ok (.iconst 1, 1) := by decide +kernel
theorem dX0_supposeFrosts_25 : decode cX0_supposeFrosts 25 = .ok (.iand, 1) := by decide +kernel
theorem dX0_supposeFrosts_26 : decode cX0_supposeFrosts 26 = .ok (.ifCond .eq 20, 3) := by decide +kernel
theorem dX0_supposeFrosts_29 : decode cX0_supposeFrosts 29 = .ok (.aload_n 0, 1) := by decide +kernel
theorem dX0_supposeFrosts_30 : decode cX0_supposeFrosts 30 = .ok (.getfield 28, 3) := by decide +kernel
theorem dX0_supposeFrosts_33 : decode cX0_supposeFrosts 33 = .ok (.getfield 88, 3) := by decide +kernel
theorem dX0_supposeFrosts_36 : decode cX0_supposeFrosts 36 = .ok (.getfield 91, 3) := by decide +kernel
theorem dX0_supposeFrosts_39 : decode cX0_supposeFrosts 39 = .ok (.iload_n 3, 1) := by decide +kernel
theorem dX0_supposeFrosts_40 : decode cX0_supposeFrosts 40 = .ok (.iconst 0, 1) := by decide +kernel
theorem dX0_supposeFrosts_41 : decode cX0_supposeFrosts 41 = .ok (.iconst 0, 1) := by decide +kernel
theorem dX0_supposeFrosts_42 : decode cX0_supposeFrosts 42 = .ok (.invokevirtual 99, 3) := by decide +kernel
theorem dX0_supposeFrosts_45 : decode cX0_supposeFrosts 45 = .ok (.pop, 1) := by decide +kernel
theorem dX0_supposeFrosts_46 : decode cX0_supposeFrosts 46 = .ok (.iinc 3 1, 3) := by decide +kernel
theorem dX0_supposeFrosts_49 : decode cX0_supposeFrosts 49 = .ok (.goto (-33), 3) := by decide +kernel
theorem dX0_supposeFrosts_52 : decode cX0_supposeFrosts 52 = .ok (.return_, 1) := by decide +kernel
theorem dX0_addToLiving_0 : decode cX0_addToLiving 0 = .ok (.iconst 0, 1) := by decide +kernel
theorem dX0_addToLiving_1 : decode cX0_addToLiving 1 = .ok (.istore_n 3, 1) := by decide +kernel
theorem dX0_addToLiving_2 : decode cX0_addToLiving 2 = .ok (.iload_n 3, 1) := by decide +kernel
theorem dX0_addToLiving_3 : decode cX0_addToLiving 3 = .ok (.bipush 8, 2) := by decide +kernel
theorem dX0_addToLiving_5 : decode cX0_addToLiving 5 = .ok (.if_icmp .ge 38, 3) := by decide +kernel
theorem dX0_addToLiving_8 : decode cX0_addToLiving 8 = .ok (.aload_n 0, 1) := by decide +kernel
theorem dX0_addToLiving_9 : decode cX0_addToLiving 9 = .ok (.getfield 9, 3) := by decide +kernel
theorem dX0_addToLiving_12 : decode cX0_addToLiving 12 = .ok (.iload_n 3, 1) := by decide +kernel
theorem dX0_addToLiving_13 : decode cX0_addToLiving 13 = .ok (.dup2, 1) := by decide +kernel
theorem dX0_addToLiving_14 : decode cX0_addToLiving 14 = .ok (.laload, 1) := by decide +kernel
theorem dX0_addToLiving_15 : decode cX0_addToLiving 15 = .ok (.aload_n 0, 1) := by decide +kernel
theorem dX0_addToLiving_16 : decode cX0_addToLiving 16 = .ok (.getfield 28, 3) := by decide +kernel
theorem dX0_addToLiving_19 : decode cX0_addToLiving 19 = .ok (.getfield 73, 3) := by decide +kernel
theorem dX0_addToLiving_22 : decode cX0_addToLiving 22 = .ok (.iload_n 3, 1) := by decide +kernel
theorem dX0_addToLiving_23 : decode cX0_addToLiving 23 = .ok (.invokevirtual 103, 3) := by decide +kernel
theorem dX0_addToLiving_26 : decode cX0_addToLiving 26 = .ok (.iconst (-1), 1) := by decide +kernel
theorem dX0_addToLiving_27 : decode cX0_addToLiving 27 = .ok (.if_icmp .ne 7, 3) := by decide +kernel
theorem dX0_addToLiving_30 : decode cX0_addToLiving 30 = .ok (.lload_n 1, 1) := by decide +kernel
theorem dX0_addToLiving_31 : decode cX0_addToLiving 31 = .ok (.goto 4, 3) := by decide +kernel
theorem dX0_addToLiving_34 : decode cX0_addToLiving 34 = .ok (.lconst 0, 1) := by decide +kernel
theorem dX0_addToLiving_35 : decode cX0_addToLiving 35 = .ok (.ladd, 1) := by decide +kernel
theorem dX0_addToLiving_36 : decode cX0_addToLiving 36 = .ok (.lastore, 1) := by decide +kernel
theorem dX0_addToLiving_37 : decode cX0_addToLiving 37 = .ok (.iinc 3 1, 3) := by decide +kernel
theorem dX0_addToLiving_40 : decode cX0_addToLiving 40 = .ok (.goto (-38), 3) := by decide +kernel
theorem dX0_addToLiving_43 : decode cX0_addToLiving 43 = .ok (.return_, 1) := by decide +kernel
theorem dX0_reduce_0 : decode cX0_reduce 0 = .ok (.iconst 0, 1) := by decide +kernel
theorem dX0_reduce_1 : decode cX0_reduce 1 = .ok (.istore_n 2, 1) := by decide +kernel
theorem dX0_reduce_2 : decode cX0_reduce 2 = .ok (.iload_n 2, 1) := by decide +kernel
theorem dX0_reduce_3 : decode cX0_reduce 3 = .ok (.bipush 64, 2) := by decide +kernel
theorem dX0_reduce_5 : decode cX0_reduce 5 = .ok (.if_icmp .ge 53, 3) := by decide +kernel
theorem dX0_reduce_8 : decode cX0_reduce 8 = .ok (.aload_n 0, 1) := by decide +kernel
theorem dX0_reduce_9 : decode cX0_reduce 9 = .ok (.getfield 15, 3) := by decide +kernel
theorem dX0_reduce_12 : decode cX0_reduce 12 = .ok (.iload_n 1, 1) := by decide +kernel
theorem dX0_reduce_13 : decode cX0_reduce 13 = .ok (.laload, 1) := by decide +kernel
theorem dX0_reduce_14 : decode cX0_reduce 14 = .ok (.lconst 1, 1) := by decide +kernel
theorem dX0_reduce_15 : decode cX0_reduce 15 = .ok (.lcmp, 1) := by decide +kernel
theorem dX0_reduce_16 : decode cX0_reduce 16 = .ok (.ifCond .le 42, 3) := by decide +kernel
theorem dX0_reduce_19 : decode cX0_reduce 19 = .ok (.aload_n 0, 1) := by decide +kernel
theorem dX0_reduce_20 : decode cX0_reduce 20 = .ok (.getfield 9, 3) := by decide +kernel
theorem dX0_reduce_23 : decode cX0_reduce 23 = .ok (.iload_n 1, 1) := by decide +kernel
theorem dX0_reduce_24 : decode cX0_reduce 24 = .ok (.laload, 1) := by decide +kernel
theorem dX0_reduce_25 : decode cX0_reduce 25 = .ok (.lconst 1, 1) := by decide +kernel
theorem dX0_reduce_26 : decode cX0_reduce 26 = .ok (.land, 1) := by decide +kernel
theorem dX0_reduce_27 : decode cX0_reduce 27 = .ok (.lconst 0, 1) := by decide +kernel
theorem dX0_reduce_28 : decode cX0_reduce 28 = .ok (.lcmp, 1) := by decide +kernel
theorem dX0_reduce_29 : decode cX0_reduce 29 = .ok (.ifCond .ne 29, 3) := by decide +kernel
theorem dX0_reduce_32 : decode cX0_reduce 32 = .ok (.aload_n 0, 1) := by decide +kernel
theorem dX0_reduce_33 : decode cX0_reduce 33 = .ok (.getfield 9, 3) := by decide +kernel
theorem dX0_reduce_36 : decode cX0_reduce 36 = .ok (.iload_n 1, 1) := by decide +kernel
theorem dX0_reduce_37 : decode cX0_reduce 37 = .ok (.dup2, 1) := by decide +kernel
theorem dX0_reduce_38 : decode cX0_reduce 38 = .ok (.laload, 1) := by decide +kernel
theorem dX0_reduce_39 : decode cX0_reduce 39 = .ok (.iconst 1, 1) := by decide +kernel
theorem dX0_reduce_40 : decode cX0_reduce 40 = .ok (.lshr, 1) := by decide +kernel
theorem dX0_reduce_41 : decode cX0_reduce 41 = .ok (.lastore, 1) := by decide +kernel
theorem dX0_reduce_42 : decode cX0_reduce 42 = .ok (.aload_n 0, 1) := by decide +kernel
theorem dX0_reduce_43 : decode cX0_reduce 43 = .ok (.getfield 15, 3) := by decide +kernel
theorem dX0_reduce_46 : decode cX0_reduce 46 = .ok (.iload_n 1, 1) := by decide +kernel
theorem dX0_reduce_47 : decode cX0_reduce 47 = .ok (.dup2, 1) := by decide +kernel
theorem dX0_reduce_48 : decode cX0_reduce 48 = .ok (.laload, 1) := by decide +kernel
theorem dX0_reduce_49 : decode cX0_reduce 49 = .ok (.iconst 1, 1) := by decide +kernel
theorem dX0_reduce_50 : decode cX0_reduce 50 = .ok (.lshr, 1) := by decide +kernel
theorem dX0_reduce_51 : decode cX0_reduce 51 = .ok (.lastore, 1) := by decide +kernel
theorem dX0_reduce_52 : decode cX0_reduce 52 = .ok (.iinc 2 1, 3) := by decide +kernel
theorem dX0_reduce_55 : decode cX0_reduce 55 = .ok (.goto (-53), 3) := by decide +kernel
theorem dX0_reduce_58 : decode cX0_reduce 58 = .ok (.return_, 1) := by decide +kernel
theorem dX0_power_0 : decode cX0_power 0 = .ok (.lconst 1, 1) := by decide +kernel
theorem dX0_power_1 : decode cX0_power 1 = .ok (.lstore_n 2, 1) := by decide +kernel
theorem dX0_power_2 : decode cX0_power 2 = .ok (.iconst 0, 1) := by decide +kernel
theorem dX0_power_3 : decode cX0_power 3 = .ok (.istore 4, 2) := by decide +kernel
theorem dX0_power_5 : decode cX0_power 5 = .ok (.iload 4, 2) := by decide +kernel
theorem dX0_power_7 : decode cX0_power 7 = .ok (.iload_n 1, 1) := by decide +kernel
theorem dX0_power_8 : decode cX0_power 8 = .ok (.if_icmp .ge 14, 3) := by decide +kernel
theorem dX0_power_11 : decode cX0_power 11 = .ok (.lload_n 2, 1) := by decide +kernel
theorem dX0_power_12 : decode cX0_power 12 = .ok (.iload_n 0, 1) := by decide +kernel
theorem dX0_power_13 : decode cX0_power 13 = .ok (.i2l, 1) := by decide +kernel
theorem dX0_power_14 : decode cX0_power 14 = .ok (.lmul, 1) := by decide +kernel
theorem dX0_power_15 : decode cX0_power 15 = .ok (.lstore_n 2, 1) := by decide +kernel
theorem dX0_power_16 : decode cX0_power 16 = .ok (.iinc 4 1, 3) := by decide +kernel
theorem dX0_power_19 : decode cX0_power 19 = .ok (.goto (-14), 3) := by decide +kernel
theorem dX0_power_22 : decode cX0_power 22 = .ok (.lload_n 2, 1) := by decide +kernel
theorem dX0_power_23 : decode cX0_power 23 = .ok (.lreturn, 1) := by decide +kernel
theorem dX0_runYears_0 : decode cX0_runYears 0 = .ok (.aload_n 0, 1) := by decide +kernel
theorem dX0_runYears_1 : decode cX0_runYears 1 = .ok (.getfield 28, 3) := by decide +kernel
theorem dX0_runYears_4 : decode cX0_runYears 4 = .ok (.invokevirtual 66, 3) := by decide +kernel
theorem dX0_runYears_7 : decode cX0_runYears 7 = .ok (.aload_n 0, 1) := by decide +kernel
theorem dX0_runYears_8 : decode cX0_runYears 8 = .ok (.getfield 28, 3) := by decide +kernel
theorem dX0_runYears_11 : decode cX0_runYears 11 = .ok (.getfield 88, 3) := by decide +kernel
theorem dX0_runYears_14 : decode cX0_runYears 14 = .ok (.getfield 106, 3) := by decide +kernel
theorem dX0_runYears_17 : decode cX0_runYears 17 = .ok (.iconst 0, 1) := by decide +kernel
theorem dX0_runYears_18 : decode cX0_runYears 18 = .ok (.putfield 94, 3) := by decide +kernel
theorem dX0_runYears_21 : decode cX0_runYears 21 = .ok (.aload_n 0, 1) := by decide +kernel
theorem dX0_runYears_22 : decode cX0_runYears 22 = .ok (.iload_n 1, 1) := by decide +kernel
theorem dX0_runYears_23 : decode cX0_runYears 23 = .ok (.putfield 25, 3) := by decide +kernel
theorem dX0_runYears_26 : decode cX0_runYears 26 = .ok (.aload_n 0, 1) := by decide +kernel
theorem dX0_runYears_27 : decode cX0_runYears 27 = .ok (.getfield 28, 3) := by decide +kernel
theorem dX0_runYears_30 : decode cX0_runYears 30 = .ok (.getfield 88, 3) := by decide +kernel
theorem dX0_runYears_33 : decode cX0_runYears 33 = .ok (.getfield 109, 3) := by decide +kernel
theorem dX0_runYears_36 : decode cX0_runYears 36 = .ok (.getfield 94, 3) := by decide +kernel
theorem dX0_runYears_39 : decode cX0_runYears 39 = .ok (.istore_n 3, 1) := by decide +kernel
theorem dX0_runYears_40 : decode cX0_runYears 40 = .ok (.iconst 0, 1) := by decide +kernel
theorem dX0_runYears_41 : decode cX0_runYears 41 = .ok (.istore 4, 2) := by decide +kernel
theorem dX0_runYears_43 : decode cX0_runYears 43 = .ok (.iload 4, 2) := by decide +kernel
theorem dX0_runYears_45 : decode cX0_runYears 45 = .ok (.iload_n 2, 1) := by decide +kernel
theorem dX0_runYears_46 : decode cX0_runYears 46 = .ok (.if_icmp .ge 55, 3) := by decide +kernel
theorem dX0_runYears_49 : decode cX0_runYears 49 = .ok (.iload_n 3, 1) := by decide +kernel
theorem dX0_runYears_50 : decode cX0_runYears 50 = .ok (.ifCond .le 51, 3) := by decide +kernel
theorem dX0_runYears_53 : decode cX0_runYears 53 = .ok (.aload_n 0, 1) := by decide +kernel
theorem dX0_runYears_54 : decode cX0_runYears 54 = .ok (.bipush 24, 2) := by decide +kernel
theorem dX0_runYears_56 : decode cX0_runYears 56 = .ok (.invokevirtual 112, 3) := by decide +kernel
theorem dX0_runYears_59 : decode cX0_runYears 59 = .ok (.istore 5, 2) := by decide +kernel
theorem dX0_runYears_61 : decode cX0_runYears 61 = .ok (.aload_n 0, 1) := by decide +kernel
theorem dX0_runYears_62 : decode cX0_runYears 62 = .ok (.iload_n 3, 1) := by decide +kernel
theorem dX0_runYears_63 : decode cX0_runYears 63 = .ok (.invokevirtual 112, 3) := by decide +kernel
theorem dX0_runYears_66 : decode cX0_runYears 66 = .ok (.istore 6, 2) := by decide +kernel
theorem dX0_runYears_68 : decode cX0_runYears 68 = .ok (.aload_n 0, 1) := by decide +kernel
theorem dX0_runYears_69 : decode cX0_runYears 69 = .ok (.iconst 4, 1) := by decide +kernel
theorem dX0_runYears_70 : decode cX0_runYears 70 = .ok (.invokevirtual 112, 3) := by decide +kernel
theorem dX0_runYears_73 : decode cX0_runYears 73 = .ok (.istore 7, 2) := by decide +kernel
theorem dX0_runYears_75 : decode cX0_runYears 75 = .ok (.aload_n 0, 1) := by decide +kernel
theorem dX0_runYears_76 : decode cX0_runYears 76 = .ok (.getfield 28, 3) := by decide +kernel
theorem dX0_runYears_79 : decode cX0_runYears 79 = .ok (.getfield 88, 3) := by decide +kernel
theorem dX0_runYears_82 : decode cX0_runYears 82 = .ok (.getfield 106, 3) := by decide +kernel
theorem dX0_runYears_85 : decode cX0_runYears 85 = .ok (.iload 5, 2) := by decide +kernel
theorem dX0_runYears_87 : decode cX0_runYears 87 = .ok (.iload 6, 2) := by decide +kernel
theorem dX0_runYears_89 : decode cX0_runYears 89 = .ok (.iload 7, 2) := by decide +kernel
theorem dX0_runYears_91 : decode cX0_runYears 91 = .ok (.invokevirtual 99, 3) := by decide +kernel
theorem dX0_runYears_94 : decode cX0_runYears 94 = .ok (.pop, 1) := by decide +kernel
theorem dX0_runYears_95 : decode cX0_runYears 95 = .ok (.iinc 4 1, 3) := by decide +kernel
theorem dX0_runYears_98 : decode cX0_runYears 98 = .ok (.goto (-55), 3) := by decide +kernel
theorem dX0_runYears_101 : decode cX0_runYears 101 = .ok (.aload_n 0, 1) := by decide +kernel
theorem dX0_runYears_102 : decode cX0_runYears 102 = .ok (.getfield 28, 3) := by decide +kernel
theorem dX0_runYears_105 : decode cX0_runYears 105 = .ok (.getfield 73, 3) := by decide +kernel
theorem dX0_runYears_108 : decode cX0_runYears 108 = .ok (.bipush 23, 2) := by decide +kernel
theorem dX0_runYears_110 : decode cX0_runYears 110 = .ok (.invokevirtual 77, 3) := by decide +kernel
theorem dX0_runYears_113 : decode cX0_runYears 113 = .ok (.return_, 1) := by decide +kernel
theorem dX0_lot_0 : decode cX0_lot 0 = .ok (.aload_n 0, 1) := by decide +kernel
theorem dX0_lot_1 : decode cX0_lot 1 = .ok (.ldc 115, 2) := by decide +kernel
theorem dX0_lot_3 : decode cX0_lot 3 = .ok (.aload_n 0, 1) := by decide +kernel
theorem dX0_lot_4 : decode cX0_lot 4 = .ok (.getfield 25, 3) := by decide +kernel
theorem dX0_lot_7 : decode cX0_lot 7 = .ok (.imul, 1) := by decide +kernel
theorem dX0_lot_8 : decode cX0_lot 8 = .ok (.sipush 12345, 3) := by decide +kernel
theorem dX0_lot_11 : decode cX0_lot 11 = .ok (.iadd, 1) := by decide +kernel
theorem dX0_lot_12 : decode cX0_lot 12 = .ok (.putfield 25, 3) := by decide +kernel
theorem dX0_lot_15 : decode cX0_lot 15 = .ok (.iload_n 1, 1) := by decide +kernel
theorem dX0_lot_16 : decode cX0_lot 16 = .ok (.ifCond .le 15, 3) := by decide +kernel
theorem dX0_lot_19 : decode cX0_lot 19 = .ok (.aload_n 0, 1) := by decide +kernel
theorem dX0_lot_20 : decode cX0_lot 20 = .ok (.getfield 25, 3) := by decide +kernel
theorem dX0_lot_23 : decode cX0_lot 23 = .ok (.bipush 16, 2) := by decide +kernel
theorem dX0_lot_25 : decode cX0_lot 25 = .ok (.iushr, 1) := by decide +kernel
theorem dX0_lot_26 : decode cX0_lot 26 = .ok (.iload_n 1, 1) := by decide +kernel
theorem dX0_lot_27 : decode cX0_lot 27 = .ok (.irem, 1) := by decide +kernel
theorem dX0_lot_28 : decode cX0_lot 28 = .ok (.goto 4, 3) := by decide +kernel
theorem dX0_lot_31 : decode cX0_lot 31 = .ok (.iconst 0, 1) := by decide +kernel
theorem dX0_lot_32 : decode cX0_lot 32 = .ok (.ireturn, 1) := by decide +kernel
theorem dX1_init_0 : decode cX1_init 0 = .ok (.aload_n 0, 1) := by decide +kernel
theorem dX1_init_1 : decode cX1_init 1 = .ok (.invokespecial 3, 3) := by decide +kernel
theorem dX1_init_4 : decode cX1_init 4 = .ok (.aload_n 0, 1) := by decide +kernel
theorem dX1_init_5 : decode cX1_init 5 = .ok (.iconst (-1), 1) := by decide +kernel
theorem dX1_init_6 : decode cX1_init 6 = .ok (.putfield 9, 3) := by decide +kernel
theorem dX1_init_9 : decode cX1_init 9 = .ok (.aload_n 0, 1) := by decide +kernel
theorem dX1_init_10 : decode cX1_init 10 = .ok (.iconst (-1), 1) := by decide +kernel
theorem dX1_init_11 : decode cX1_init 11 = .ok (.putfield 15, 3) := by decide +kernel
theorem dX1_init_14 : decode cX1_init 14 = .ok (.return_, 1) := by decide +kernel
theorem dX1_begin_0 : decode cX1_begin 0 = .ok (.aload_n 0, 1) := by decide +kernel
theorem dX1_begin_1 : decode cX1_begin 1 = .ok (.iconst (-1), 1) := by decide +kernel
theorem dX1_begin_2 : decode cX1_begin 2 = .ok (.putfield 9, 3) := by decide +kernel
theorem dX1_begin_5 : decode cX1_begin 5 = .ok (.aload_n 0, 1) := by decide +kernel
theorem dX1_begin_6 : decode cX1_begin 6 = .ok (.iconst (-1), 1) := by decide +kernel
theorem dX1_begin_7 : decode cX1_begin 7 = .ok (.putfield 15, 3) := by decide +kernel
theorem dX1_begin_10 : decode cX1_begin 10 = .ok (.return_, 1) := by decide +kernel
theorem dX1_goOn_0 : decode cX1_goOn 0 = .ok (.aload_n 0, 1) := by decide +kernel
theorem dX1_goOn_1 : decode cX1_goOn 1 = .ok (.getfield 15, 3) := by decide +kernel
theorem dX1_goOn_4 : decode cX1_goOn 4 = .ok (.iconst (-1), 1) := by decide +kernel
theorem dX1_goOn_5 : decode cX1_goOn 5 = .ok (.if_icmp .ne 25, 3) := by decide +kernel
theorem dX1_goOn_8 : decode cX1_goOn 8 = .ok (.aload_n 0, 1) := by decide +kernel
theorem dX1_goOn_9 : decode cX1_goOn 9 = .ok (.getfield 9, 3) := by decide +kernel
theorem dX1_goOn_12 : decode cX1_goOn 12 = .ok (.iconst 1, 1) := by decide +kernel
theorem dX1_goOn_13 : decode cX1_goOn 13 = .ok (.iadd, 1) := by decide +kernel
theorem dX1_goOn_14 : decode cX1_goOn 14 = .ok (.iload_n 1, 1) := by decide +kernel
theorem dX1_goOn_15 : decode cX1_goOn 15 = .ok (.if_icmp .ge 15, 3) := by decide +kernel
theorem dX1_goOn_18 : decode cX1_goOn 18 = .ok (.aload_n 0, 1) := by decide +kernel
theorem dX1_goOn_19 : decode cX1_goOn 19 = .ok (.dup, 1) := by decide +kernel
theorem dX1_goOn_20 : decode cX1_goOn 20 = .ok (.getfield 9, 3) := by decide +kernel
theorem dX1_goOn_23 : decode cX1_goOn 23 = .ok (.iconst 1, 1) := by decide +kernel
theorem dX1_goOn_24 : decode cX1_goOn 24 = .ok (.iadd, 1) := by decide +kernel
theorem dX1_goOn_25 : decode cX1_goOn 25 = .ok (.putfield 9, 3) := by decide +kernel
theorem dX1_goOn_28 : decode cX1_goOn 28 = .ok (.iconst 1, 1) := by decide +kernel
theorem dX1_goOn_29 : decode cX1_goOn 29 = .ok (.ireturn, 1) := by decide +kernel
theorem dX1_goOn_30 : decode cX1_goOn 30 = .ok (.aload_n 0, 1) := by decide +kernel
theorem dX1_goOn_31 : decode cX1_goOn 31 = .ok (.getfield 15, 3) := by decide +kernel
theorem dX1_goOn_34 : decode cX1_goOn 34 = .ok (.iconst (-1), 1) := by decide +kernel
theorem dX1_goOn_35 : decode cX1_goOn 35 = .ok (.if_icmp .ne 16, 3) := by decide +kernel
theorem dX1_goOn_38 : decode cX1_goOn 38 = .ok (.aload_n 0, 1) := by decide +kernel
theorem dX1_goOn_39 : decode cX1_goOn 39 = .ok (.iconst 0, 1) := by decide +kernel
theorem dX1_goOn_40 : decode cX1_goOn 40 = .ok (.putfield 9, 3) := by decide +kernel
theorem dX1_goOn_43 : decode cX1_goOn 43 = .ok (.aload_n 0, 1) := by decide +kernel
theorem dX1_goOn_44 : decode cX1_goOn 44 = .ok (.iconst 1, 1) := by decide +kernel
theorem dX1_goOn_45 : decode cX1_goOn 45 = .ok (.putfield 15, 3) := by decide +kernel
theorem dX1_goOn_48 : decode cX1_goOn 48 = .ok (.goto 46, 3) := by decide +kernel
theorem dX1_goOn_51 : decode cX1_goOn 51 = .ok (.aload_n 0, 1) := by decide +kernel
theorem dX1_goOn_52 : decode cX1_goOn 52 = .ok (.getfield 15, 3) := by decide +kernel
theorem dX1_goOn_55 : decode cX1_goOn 55 = .ok (.iconst 1, 1) := by decide +kernel
theorem dX1_goOn_56 : decode cX1_goOn 56 = .ok (.iadd, 1) := by decide +kernel
theorem dX1_goOn_57 : decode cX1_goOn 57 = .ok (.iload_n 1, 1) := by decide +kernel
theorem dX1_goOn_58 : decode cX1_goOn 58 = .ok (.if_icmp .ge 16, 3) := by decide +kernel
theorem dX1_goOn_61 : decode cX1_goOn 61 = .ok (.aload_n 0, 1) := by decide +kernel
theorem dX1_goOn_62 : decode cX1_goOn 62 = .ok (.dup, 1) := by decide +kernel
theorem dX1_goOn_63 : decode cX1_goOn 63 = .ok (.getfield 15, 3) := by decide +kernel
theorem dX1_goOn_66 : decode cX1_goOn 66 = .ok (.iconst 1, 1) := by decide +kernel
theorem dX1_goOn_67 : decode cX1_goOn 67 = .ok (.iadd, 1) := by decide +kernel
theorem dX1_goOn_68 : decode cX1_goOn 68 = .ok (.putfield 15, 3) := by decide +kernel
theorem dX1_goOn_71 : decode cX1_goOn 71 = .ok (.goto 23, 3) := by decide +kernel
theorem dX1_goOn_74 : decode cX1_goOn 74 = .ok (.aload_n 0, 1) := by decide +kernel
theorem dX1_goOn_75 : decode cX1_goOn 75 = .ok (.dup, 1) := by decide +kernel
theorem dX1_goOn_76 : decode cX1_goOn 76 = .ok (.getfield 9, 3) := by decide +kernel
theorem dX1_goOn_79 : decode cX1_goOn 79 = .ok (.iconst 1, 1) := by decide +kernel
theorem dX1_goOn_80 : decode cX1_goOn 80 = .ok (.iadd, 1) := by decide +kernel
theorem dX1_goOn_81 : decode cX1_goOn 81 = .ok (.putfield 9, 3) := by decide +kernel
theorem dX1_goOn_84 : decode cX1_goOn 84 = .ok (.aload_n 0, 1) := by decide +kernel
theorem dX1_goOn_85 : decode cX1_goOn 85 = .ok (.aload_n 0, 1) := by decide +kernel
theorem dX1_goOn_86 : decode cX1_goOn 86 = .ok (.getfield 9, 3) := by decide +kernel
theorem dX1_goOn_89 : decode cX1_goOn 89 = .ok (.iconst 1, 1) := by decide +kernel
theorem dX1_goOn_90 : decode cX1_goOn 90 = .ok (.iadd, 1) := by decide +kernel
theorem dX1_goOn_91 : decode cX1_goOn 91 = .ok (.putfield 15, 3) := by decide +kernel
theorem dX1_goOn_94 : decode cX1_goOn 94 = .ok (.aload_n 0, 1) := by decide +kernel
theorem dX1_goOn_95 : decode cX1_goOn 95 = .ok (.getfield 15, 3) := by decide +kernel
theorem dX1_goOn_98 : decode cX1_goOn 98 = .ok (.iload_n 1, 1) := by decide +kernel
theorem dX1_goOn_99 : decode cX1_goOn 99 = .ok (.if_icmp .ge 7, 3) := by decide +kernel
theorem dX1_goOn_102 : decode cX1_goOn 102 = .ok (.iconst 1, 1) := by decide +kernel
theorem dX1_goOn_103 : decode cX1_goOn 103 = .ok (.goto 4, 3) := by decide +kernel
theorem dX1_goOn_106 : decode cX1_goOn 106 = .ok (.iconst 0, 1) := by decide +kernel
theorem dX1_goOn_107 : decode cX1_goOn 107 = .ok (.ireturn, 1) := by decide +kernel
theorem dX1_takeOutOf_0 : decode cX1_takeOutOf 0 = .ok (.aload_n 1, 1) := by decide +kernel
theorem dX1_takeOutOf_1 : decode cX1_takeOutOf 1 = .ok (.aload_n 0, 1) := by decide +kernel
theorem dX1_takeOutOf_2 : decode cX1_takeOutOf 2 = .ok (.getfield 15, 3) := by decide +kernel
theorem dX1_takeOutOf_5 : decode cX1_takeOutOf 5 = .ok (.invokevirtual 18, 3) := by decide +kernel
theorem dX1_takeOutOf_8 : decode cX1_takeOutOf 8 = .ok (.aload_n 1, 1) := by decide +kernel
theorem dX1_takeOutOf_9 : decode cX1_takeOutOf 9 = .ok (.aload_n 0, 1) := by decide +kernel
theorem dX1_takeOutOf_10 : decode cX1_takeOutOf 10 = .ok (.getfield 9, 3) := by decide +kernel
theorem dX1_takeOutOf_13 : decode cX1_takeOutOf 13 = .ok (.invokevirtual 18, 3) := by decide +kernel
theorem dX1_takeOutOf_16 : decode cX1_takeOutOf 16 = .ok (.return_, 1) := by decide +kernel
theorem dX1_tell_0 : decode cX1_tell 0 = .ok (.iload_n 1, 1) := by decide +kernel
theorem dX1_tell_1 : decode cX1_tell 1 = .ok (.iconst (-1), 1) := by decide +kernel
theorem dX1_tell_2 : decode cX1_tell 2 = .ok (.if_icmp .ne 29, 3) := by decide +kernel
theorem dX1_tell_5 : decode cX1_tell 5 = .ok (.aload_n 0, 1) := by decide +kernel
theorem dX1_tell_6 : decode cX1_tell 6 = .ok (.getfield 9, 3) := by decide +kernel
theorem dX1_tell_9 : decode cX1_tell 9 = .ok (.iconst (-1), 1) := by decide +kernel
theorem dX1_tell_10 : decode cX1_tell 10 = .ok (.if_icmp .ne 7, 3) := by decide +kernel
theorem dX1_tell_13 : decode cX1_tell 13 = .ok (.iconst 0, 1) := by decide +kernel
theorem dX1_tell_14 : decode cX1_tell 14 = .ok (.goto 16, 3) := by decide +kernel
theorem dX1_tell_17 : decode cX1_tell 17 = .ok (.aload_n 0, 1) := by decide +kernel
theorem dX1_tell_18 : decode cX1_tell 18 = .ok (.getfield 15, 3) := by decide +kernel
theorem dX1_tell_21 : decode cX1_tell 21 = .ok (.iconst (-1), 1) := by decide +kernel
theorem dX1_tell_22 : decode cX1_tell 22 = .ok (.if_icmp .ne 7, 3) := by decide +kernel
theorem dX1_tell_25 : decode cX1_tell 25 = .ok (.iconst 1, 1) := by decide +kernel
theorem dX1_tell_26 : decode cX1_tell 26 = .ok (.goto 4, 3) := by decide +kernel
theorem dX1_tell_29 : decode cX1_tell 29 = .ok (.iconst 2, 1) := by decide +kernel
theorem dX1_tell_30 : decode cX1_tell 30 = .ok (.ireturn, 1) := by decide +kernel
theorem dX1_tell_31 : decode cX1_tell 31 = .ok (.iload_n 1, 1) := by decide +kernel
theorem dX1_tell_32 : decode cX1_tell 32 = .ok (.ifCond .ne 10, 3) := by decide +kernel
theorem dX1_tell_35 : decode cX1_tell 35 = .ok (.aload_n 0, 1) := by decide +kernel
theorem dX1_tell_36 : decode cX1_tell 36 = .ok (.getfield 9, 3) := by decide +kernel
theorem dX1_tell_39 : decode cX1_tell 39 = .ok (.goto 7, 3) := by decide +kernel
theorem dX1_tell_42 : decode cX1_tell 42 = .ok (.aload_n 0, 1) := by decide +kernel
theorem dX1_tell_43 : decode cX1_tell 43 = .ok (.getfield 15, 3) := by decide +kernel
theorem dX1_tell_46 : decode cX1_tell 46 = .ok (.ireturn, 1) := by decide +kernel
theorem dX2_init_0 : decode cX2_init 0 = .ok (.aload_n 0, 1) := by decide +kernel
theorem dX2_init_1 : decode cX2_init 1 = .ok (.invokespecial 3, 3) := by decide +kernel
theorem dX2_init_4 : decode cX2_init 4 = .ok (.aload_n 0, 1) := by decide +kernel
theorem dX2_init_5 : decode cX2_init 5 = .ok (.bipush 41, 2) := by decide +kernel
theorem dX2_init_7 : decode cX2_init 7 = .ok (.newarray .int, 2) := by decide +kernel
theorem dX2_init_9 : decode cX2_init 9 = .ok (.putfield 9, 3) := by decide +kernel
theorem dX2_init_12 : decode cX2_init 12 = .ok (.aload_n 0, 1) := by decide +kernel
theorem dX2_init_13 : decode cX2_init 13 = .ok (.sipush 984, 3) := by decide +kernel
theorem dX2_init_16 : decode cX2_init 16 = .ok (.newarray .int, 2) := by decide +kernel
theorem dX2_init_18 : decode cX2_init 18 = .ok (.putfield 15, 3) := by decide +kernel
theorem dX2_init_21 : decode cX2_init 21 = .ok (.aload_n 0, 1) := by decide +kernel
theorem dX2_init_22 : decode cX2_init 22 = .ok (.bipush 8, 2) := by decide +kernel
theorem dX2_init_24 : decode cX2_init 24 = .ok (.newarray .int, 2) := by decide +kernel
theorem dX2_init_26 : decode cX2_init 26 = .ok (.putfield 18, 3) := by decide +kernel
theorem dX2_init_29 : decode cX2_init 29 = .ok (.aload_n 0, 1) := by decide +kernel
theorem dX2_init_30 : decode cX2_init 30 = .ok (.iconst (-1), 1) := by decide +kernel
theorem dX2_init_31 : decode cX2_init 31 = .ok (.putfield 21, 3) := by decide +kernel
theorem dX2_init_34 : decode cX2_init 34 = .ok (.aload_n 0, 1) := by decide +kernel
theorem dX2_init_35 : decode cX2_init 35 = .ok (.iconst (-1), 1) := by decide +kernel
theorem dX2_init_36 : decode cX2_init 36 = .ok (.putfield 25, 3) := by decide +kernel
theorem dX2_init_39 : decode cX2_init 39 = .ok (.aload_n 0, 1) := by decide +kernel
theorem dX2_init_40 : decode cX2_init 40 = .ok (.aload_n 1, 1) := by decide +kernel
theorem dX2_init_41 : decode cX2_init 41 = .ok (.putfield 28, 3) := by decide +kernel
theorem dX2_init_44 : decode cX2_init 44 = .ok (.return_, 1) := by decide +kernel
theorem dX2_run_0 : decode cX2_run 0 = .ok (.aload_n 0, 1) := by decide +kernel
theorem dX2_run_1 : decode cX2_run 1 = .ok (.invokevirtual 32, 3) := by decide +kernel
theorem dX2_run_4 : decode cX2_run 4 = .ok (.aload_n 0, 1) := by decide +kernel
theorem dX2_run_5 : decode cX2_run 5 = .ok (.getfield 28, 3) := by decide +kernel
theorem dX2_run_8 : decode cX2_run 8 = .ok (.getfield 35, 3) := by decide +kernel
theorem dX2_run_11 : decode cX2_run 11 = .ok (.invokestatic 41, 3) := by decide +kernel
theorem dX2_run_14 : decode cX2_run 14 = .ok (.istore_n 2, 1) := by decide +kernel
theorem dX2_run_15 : decode cX2_run 15 = .ok (.aload_n 0, 1) := by decide +kernel
theorem dX2_run_16 : decode cX2_run 16 = .ok (.getfield 28, 3) := by decide +kernel
theorem dX2_run_19 : decode cX2_run 19 = .ok (.getfield 45, 3) := by decide +kernel
theorem dX2_run_22 : decode cX2_run 22 = .ok (.invokestatic 41, 3) := by decide +kernel
theorem dX2_run_25 : decode cX2_run 25 = .ok (.istore_n 3, 1) := by decide +kernel
theorem dX2_run_26 : decode cX2_run 26 = .ok (.aload_n 0, 1) := by decide +kernel
theorem dX2_run_27 : decode cX2_run 27 = .ok (.getfield 28, 3) := by decide +kernel
theorem dX2_run_30 : decode cX2_run 30 = .ok (.getfield 48, 3) := by decide +kernel
theorem dX2_run_33 : decode cX2_run 33 = .ok (.invokestatic 41, 3) := by decide +kernel
theorem dX2_run_36 : decode cX2_run 36 = .ok (.istore 4, 2) := by decide +kernel
theorem dX2_run_38 : decode cX2_run 38 = .ok (.aload_n 0, 1) := by decide +kernel
theorem dX2_run_39 : decode cX2_run 39 = .ok (.getfield 28, 3) := by decide +kernel
theorem dX2_run_42 : decode cX2_run 42 = .ok (.getfield 51, 3) := by decide +kernel
theorem dX2_run_45 : decode cX2_run 45 = .ok (.invokestatic 41, 3) := by decide +kernel
theorem dX2_run_48 : decode cX2_run 48 = .ok (.istore 5, 2) := by decide +kernel
theorem dX2_run_50 : decode cX2_run 50 = .ok (.iconst 0, 1) := by decide +kernel
theorem dX2_run_51 : decode cX2_run 51 = .ok (.istore 6, 2) := by decide +kernel
theorem dX2_run_53 : decode cX2_run 53 = .ok (.iload 6, 2) := by decide +kernel
theorem dX2_run_55 : decode cX2_run 55 = .ok (.iload_n 1, 1) := by decide +kernel
theorem dX2_run_56 : decode cX2_run 56 = .ok (.if_icmp .gt 106, 3) := by decide +kernel
theorem dX2_run_59 : decode cX2_run 59 = .ok (.iload 6, 2) := by decide +kernel
theorem dX2_run_61 : decode cX2_run 61 = .ok (.bipush 24, 2) := by decide +kernel
theorem dX2_run_63 : decode cX2_run 63 = .ok (.if_icmp .ge 99, 3) := by decide +kernel
theorem dX2_run_66 : decode cX2_run 66 = .ok (.iconst 1, 1) := by decide +kernel
theorem dX2_run_67 : decode cX2_run 67 = .ok (.iload 6, 2) := by decide +kernel
theorem dX2_run_69 : decode cX2_run 69 = .ok (.ishl, 1) := by decide +kernel
theorem dX2_run_70 : decode cX2_run 70 = .ok (.istore 7, 2) := by decide +kernel
theorem dX2_run_72 : decode cX2_run 72 = .ok (.iload_n 2, 1) := by decide +kernel
theorem dX2_run_73 : decode cX2_run 73 = .ok (.iload 7, 2) := by decide +kernel
theorem dX2_run_75 : decode cX2_run 75 = .ok (.iand, 1) := by decide +kernel
theorem dX2_run_76 : decode cX2_run 76 = .ok (.ifCond .eq 12, 3) := by decide +kernel
theorem dX2_run_79 : decode cX2_run 79 = .ok (.aload_n 0, 1) := by decide +kernel
theorem dX2_run_80 : decode cX2_run 80 = .ok (.iload 6, 2) := by decide +kernel
theorem dX2_run_82 : decode cX2_run 82 = .ok (.invokevirtual 54, 3) := by decide +kernel
theorem dX2_run_85 : decode cX2_run 85 = .ok (.goto 4, 3) := by decide +kernel
theorem dX2_run_88 : decode cX2_run 88 = .ok (.iconst 0, 1) := by decide +kernel
theorem dX2_run_89 : decode cX2_run 89 = .ok (.istore 8, 2) := by decide +kernel
theorem dX2_run_91 : decode cX2_run 91 = .ok (.aload_n 0, 1) := by decide +kernel
theorem dX2_run_92 : decode cX2_run 92 = .ok (.iload 8, 2) := by decide +kernel
theorem dX2_run_94 : decode cX2_run 94 = .ok (.invokevirtual 58, 3) := by decide +kernel
theorem dX2_run_97 : decode cX2_run 97 = .ok (.iload_n 3, 1) := by decide +kernel
theorem dX2_run_98 : decode cX2_run 98 = .ok (.iload 7, 2) := by decide +kernel
theorem dX2_run_100 : decode cX2_run 100 = .ok (.iand, 1) := by decide +kernel
theorem dX2_run_101 : decode cX2_run 101 = .ok (.ifCond .eq 9, 3) := by decide +kernel
theorem dX2_run_104 : decode cX2_run 104 = .ok (.aload_n 0, 1) := by decide +kernel
theorem dX2_run_105 : decode cX2_run 105 = .ok (.iload 6, 2) := by decide +kernel
theorem dX2_run_107 : decode cX2_run 107 = .ok (.invokevirtual 62, 3) := by decide +kernel
theorem dX2_run_110 : decode cX2_run 110 = .ok (.iload 4, 2) := by decide +kernel
theorem dX2_run_112 : decode cX2_run 112 = .ok (.iload 7, 2) := by decide +kernel
theorem dX2_run_114 : decode cX2_run 114 = .ok (.iand, 1) := by decide +kernel
theorem dX2_run_115 : decode cX2_run 115 = .ok (.ifCond .eq 22, 3) := by decide +kernel
theorem dX2_run_118 : decode cX2_run 118 = .ok (.aload_n 0, 1) := by decide +kernel
theorem dX2_run_119 : decode cX2_run 119 = .ok (.iload 6, 2) := by decide +kernel
theorem dX2_run_121 : decode cX2_run 121 = .ok (.iload 5, 2) := by decide +kernel
theorem dX2_run_123 : decode cX2_run 123 = .ok (.iload 7, 2) := by decide +kernel
theorem dX2_run_125 : decode cX2_run 125 = .ok (.iand, 1) := by decide +kernel
theorem dX2_run_126 : decode cX2_run 126 = .ok (.ifCond .eq 7, 3) := by decide +kernel
theorem dX2_run_129 : decode cX2_run 129 = .ok (.iconst 1, 1) := by decide +kernel
theorem dX2_run_130 : decode cX2_run 130 = .ok (.goto 4, 3) := by decide +kernel
theorem dX2_run_133 : decode cX2_run 133 = .ok (.iconst 0, 1) := by decide +kernel
theorem dX2_run_134 : decode cX2_run 134 = .ok (.invokevirtual 65, 3) := by decide +kernel
theorem dX2_run_137 : decode cX2_run 137 = .ok (.aload_n 0, 1) := by decide +kernel
theorem dX2_run_138 : decode cX2_run 138 = .ok (.getfield 9, 3) := by decide +kernel
theorem dX2_run_141 : decode cX2_run 141 = .ok (.iconst 0, 1) := by decide +kernel
theorem dX2_run_142 : decode cX2_run 142 = .ok (.aload_n 0, 1) := by decide +kernel
theorem dX2_run_143 : decode cX2_run 143 = .ok (.getfield 15, 3) := by decide +kernel
theorem dX2_run_146 : decode cX2_run 146 = .ok (.iload 6, 2) := by decide +kernel
theorem dX2_run_148 : decode cX2_run 148 = .ok (.bipush 41, 2) := by decide +kernel
theorem dX2_run_150 : decode cX2_run 150 = .ok (.imul, 1) := by decide +kernel
theorem dX2_run_151 : decode cX2_run 151 = .ok (.bipush 41, 2) := by decide +kernel
theorem dX2_run_153 : decode cX2_run 153 = .ok (.invokestatic 69, 3) := by decide +kernel
theorem dX2_run_156 : decode cX2_run 156 = .ok (.iinc 6 1, 3) := by decide +kernel
theorem dX2_run_159 : decode cX2_run 159 = .ok (.goto (-106), 3) := by decide +kernel
theorem dX2_run_162 : decode cX2_run 162 = .ok (.return_, 1) := by decide +kernel
theorem dX2_begin_0 : decode cX2_begin 0 = .ok (.aload_n 0, 1) := by decide +kernel
theorem dX2_begin_1 : decode cX2_begin 1 = .ok (.getfield 9, 3) := by decide +kernel
theorem dX2_begin_4 : decode cX2_begin 4 = .ok (.iconst 0, 1) := by decide +kernel
theorem dX2_begin_5 : decode cX2_begin 5 = .ok (.invokestatic 75, 3) := by decide +kernel
theorem dX2_begin_8 : decode cX2_begin 8 = .ok (.aload_n 0, 1) := by decide +kernel
theorem dX2_begin_9 : decode cX2_begin 9 = .ok (.getfield 18, 3) := by decide +kernel
theorem dX2_begin_12 : decode cX2_begin 12 = .ok (.iconst (-1), 1) := by decide +kernel
theorem dX2_begin_13 : decode cX2_begin 13 = .ok (.invokestatic 75, 3) := by decide +kernel
theorem dX2_begin_16 : decode cX2_begin 16 = .ok (.aload_n 0, 1) := by decide +kernel
theorem dX2_begin_17 : decode cX2_begin 17 = .ok (.iconst (-1), 1) := by decide +kernel
theorem dX2_begin_18 : decode cX2_begin 18 = .ok (.putfield 21, 3) := by decide +kernel
theorem dX2_begin_21 : decode cX2_begin 21 = .ok (.aload_n 0, 1) := by decide +kernel
theorem dX2_begin_22 : decode cX2_begin 22 = .ok (.iconst (-1), 1) := by decide +kernel
theorem dX2_begin_23 : decode cX2_begin 23 = .ok (.putfield 25, 3) := by decide +kernel
theorem dX2_begin_26 : decode cX2_begin 26 = .ok (.aload_n 0, 1) := by decide +kernel
theorem dX2_begin_27 : decode cX2_begin 27 = .ok (.getfield 28, 3) := by decide +kernel
theorem dX2_begin_30 : decode cX2_begin 30 = .ok (.getfield 81, 3) := by decide +kernel
theorem dX2_begin_33 : decode cX2_begin 33 = .ok (.astore_n 1, 1) := by decide +kernel
theorem dX2_begin_34 : decode cX2_begin 34 = .ok (.iconst 0, 1) := by decide +kernel
theorem dX2_begin_35 : decode cX2_begin 35 = .ok (.istore_n 2, 1) := by decide +kernel
theorem dX2_begin_36 : decode cX2_begin 36 = .ok (.iload_n 2, 1) := by decide +kernel
theorem dX2_begin_37 : decode cX2_begin 37 = .ok (.aload_n 1, 1) := by decide +kernel
theorem dX2_begin_38 : decode cX2_begin 38 = .ok (.getfield 84, 3) := by decide +kernel
theorem dX2_begin_41 : decode cX2_begin 41 = .ok (.if_icmp .ge 38, 3) := by decide +kernel
theorem dX2_begin_44 : decode cX2_begin 44 = .ok (.aload_n 0, 1) := by decide +kernel
theorem dX2_begin_45 : decode cX2_begin 45 = .ok (.getfield 9, 3) := by decide +kernel
theorem dX2_begin_48 : decode cX2_begin 48 = .ok (.bipush 8, 2) := by decide +kernel
theorem dX2_begin_50 : decode cX2_begin 50 = .ok (.iload_n 2, 1) := by decide +kernel
theorem dX2_begin_51 : decode cX2_begin 51 = .ok (.iadd, 1) := by decide +kernel
theorem dX2_begin_52 : decode cX2_begin 52 = .ok (.aload_n 1, 1) := by decide +kernel
theorem dX2_begin_53 : decode cX2_begin 53 = .ok (.getfield 89, 3) := by decide +kernel
theorem dX2_begin_56 : decode cX2_begin 56 = .ok (.iload_n 2, 1) := by decide +kernel
theorem dX2_begin_57 : decode cX2_begin 57 = .ok (.iaload, 1) := by decide +kernel
theorem dX2_begin_58 : decode cX2_begin 58 = .ok (.iastore, 1) := by decide +kernel
theorem dX2_begin_59 : decode cX2_begin 59 = .ok (.aload_n 0, 1) := by decide +kernel
theorem dX2_begin_60 : decode cX2_begin 60 = .ok (.getfield 9, 3) := by decide +kernel
theorem dX2_begin_63 : decode cX2_begin 63 = .ok (.iconst 0, 1) := by decide +kernel
theorem dX2_begin_64 : decode cX2_begin 64 = .ok (.iload_n 2, 1) := by decide +kernel
theorem dX2_begin_65 : decode cX2_begin 65 = .ok (.iadd, 1) := by decide +kernel
theorem dX2_begin_66 : decode cX2_begin 66 = .ok (.aload_n 1, 1) := by decide +kernel
theorem dX2_begin_67 : decode cX2_begin 67 = .ok (.getfield 92, 3) := by decide +kernel
theorem dX2_begin_70 : decode cX2_begin 70 = .ok (.iload_n 2, 1) := by decide +kernel
theorem dX2_begin_71 : decode cX2_begin 71 = .ok (.iaload, 1) := by decide +kernel
theorem dX2_begin_72 : decode cX2_begin 72 = .ok (.iastore, 1) := by decide +kernel
theorem dX2_begin_73 : decode cX2_begin 73 = .ok (.iinc 2 1, 3) := by decide +kernel
theorem dX2_begin_76 : decode cX2_begin 76 = .ok (.goto (-40), 3) := by decide +kernel
theorem dX2_begin_79 : decode cX2_begin 79 = .ok (.return_, 1) := by decide +kernel
theorem dX2_monthsOf_0 : decode cX2_monthsOf 0 = .ok (.iconst 0, 1) := by decide +kernel
theorem dX2_monthsOf_1 : decode cX2_monthsOf 1 = .ok (.istore_n 1, 1) := by decide +kernel
theorem dX2_monthsOf_2 : decode cX2_monthsOf 2 = .ok (.iconst 0, 1) := by decide +kernel
theorem dX2_monthsOf_3 : decode cX2_monthsOf 3 = .ok (.istore_n 2, 1) := by decide +kernel
theorem dX2_monthsOf_4 : decode cX2_monthsOf 4 = .ok (.iload_n 2, 1) := by decide +kernel
theorem dX2_monthsOf_5 : decode cX2_monthsOf 5 = .ok (.aload_n 0, 1) := by decide +kernel
theorem dX2_monthsOf_6 : decode cX2_monthsOf 6 = .ok (.getfield 84, 3) := by decide +kernel
theorem dX2_monthsOf_9 : decode cX2_monthsOf 9 = .ok (.if_icmp .ge 20, 3) := by decide +kernel
theorem dX2_monthsOf_12 : decode cX2_monthsOf 12 = .ok (.iload_n 1, 1) := by decide +kernel
theorem dX2_monthsOf_13 : decode cX2_monthsOf 13 = .ok (.iconst 1, 1) := by decide +kernel
theorem dX2_monthsOf_14 : decode cX2_monthsOf 14 = .ok (.aload_n 0, 1) := by decide +kernel
theorem dX2_monthsOf_15 : decode cX2_monthsOf 15 = .ok (.getfield 95, 3) := by decide +kernel
theorem dX2_monthsOf_18 : decode cX2_monthsOf 18 = .ok (.iload_n 2, 1) := by decide +kernel
theorem dX2_monthsOf_19 : decode cX2_monthsOf 19 = .ok (.iaload, 1) := by decide +kernel
theorem dX2_monthsOf_20 : decode cX2_monthsOf 20 = .ok (.ishl, 1) := by decide +kernel
theorem dX2_monthsOf_21 : decode cX2_monthsOf 21 = .ok (.ior, 1) := by decide +kernel
theorem dX2_monthsOf_22 : decode cX2_monthsOf 22 = .ok (.istore_n 1, 1) := by decide +kernel
theorem dX2_monthsOf_23 : decode cX2_monthsOf 23 = .ok (.iinc 2 1, 3) := by decide +kernel
theorem dX2_monthsOf_26 : decode cX2_monthsOf 26 = .ok (.goto (-22), 3) := by decide +kernel
theorem dX2_monthsOf_29 : decode cX2_monthsOf 29 = .ok (.iload_n 1, 1) := by decide +kernel
theorem dX2_monthsOf_30 : decode cX2_monthsOf 30 = .ok (.ireturn, 1) := by decide +kernel
theorem dX2_doDeeds_0 : decode cX2_doDeeds 0 = .ok (.aload_n 0, 1) := by decide +kernel
theorem dX2_doDeeds_1 : decode cX2_doDeeds 1 = .ok (.getfield 28, 3) := by decide +kernel
theorem dX2_doDeeds_4 : decode cX2_doDeeds 4 = .ok (.getfield 35, 3) := by decide +kernel
theorem dX2_doDeeds_7 : decode cX2_doDeeds 7 = .ok (.astore_n 2, 1) := by decide +kernel
theorem dX2_doDeeds_8 : decode cX2_doDeeds 8 = .ok (.iconst 0, 1) := by decide +kernel
theorem dX2_doDeeds_9 : decode cX2_doDeeds 9 = .ok (.istore_n 3, 1) := by decide +kernel
theorem dX2_doDeeds_10 : decode cX2_doDeeds 10 = .ok (.iconst 0, 1) := by decide +kernel
theorem dX2_doDeeds_11 : decode cX2_doDeeds 11 = .ok (.istore 4, 2) := by decide +kernel
theorem dX2_doDeeds_13 : decode cX2_doDeeds 13 = .ok (.iload 4, 2) := by decide +kernel
theorem dX2_doDeeds_15 : decode cX2_doDeeds 15 = .ok (.aload_n 2, 1) := by decide +kernel
theorem dX2_doDeeds_16 : decode cX2_doDeeds 16 = .ok (.getfield 84, 3) := by decide +kernel
theorem dX2_doDeeds_19 : decode cX2_doDeeds 19 = .ok (.if_icmp .ge 80, 3) := by decide +kernel
theorem dX2_doDeeds_22 : decode cX2_doDeeds 22 = .ok (.aload_n 2, 1) := by decide +kernel
theorem dX2_doDeeds_23 : decode cX2_doDeeds 23 = .ok (.getfield 89, 3) := by decide +kernel
theorem dX2_doDeeds_26 : decode cX2_doDeeds 26 = .ok (.iload 4, 2) := by decide +kernel
theorem dX2_doDeeds_28 : decode cX2_doDeeds 28 = .ok (.iaload, 1) := by decide +kernel
theorem dX2_doDeeds_29 : decode cX2_doDeeds 29 = .ok (.istore 5, 2) := by decide +kernel
theorem dX2_doDeeds_31 : decode cX2_doDeeds 31 = .ok (.aload_n 2, 1) := by decide +kernel
theorem dX2_doDeeds_32 : decode cX2_doDeeds 32 = .ok (.getfield 95, 3) := by decide +kernel
theorem dX2_doDeeds_35 : decode cX2_doDeeds 35 = .ok (.iload 4, 2) := by decide +kernel
theorem dX2_doDeeds_37 : decode cX2_doDeeds 37 = .ok (.iaload, 1) := by decide +kernel
theorem dX2_doDeeds_38 : decode cX2_doDeeds 38 = .ok (.iload_n 1, 1) := by decide +kernel
theorem dX2_doDeeds_39 : decode cX2_doDeeds 39 = .ok (.if_icmp .ne 54, 3) := by decide +kernel
theorem dX2_doDeeds_42 : decode cX2_doDeeds 42 = .ok (.aload_n 0, 1) := by decide +kernel
theorem dX2_doDeeds_43 : decode cX2_doDeeds 43 = .ok (.iload 5, 2) := by decide +kernel
theorem dX2_doDeeds_45 : decode cX2_doDeeds 45 = .ok (.invokevirtual 98, 3) := by decide +kernel
theorem dX2_doDeeds_48 : decode cX2_doDeeds 48 = .ok (.ifCond .eq 45, 3) := by decide +kernel
theorem dX2_doDeeds_51 : decode cX2_doDeeds 51 = .ok (.aload_n 0, 1) := by decide +kernel
theorem dX2_doDeeds_52 : decode cX2_doDeeds 52 = .ok (.getfield 9, 3) := by decide +kernel
theorem dX2_doDeeds_55 : decode cX2_doDeeds 55 = .ok (.iconst 0, 1) := by decide +kernel
theorem dX2_doDeeds_56 : decode cX2_doDeeds 56 = .ok (.iload 5, 2) := by decide +kernel
theorem dX2_doDeeds_58 : decode cX2_doDeeds 58 = .ok (.iadd, 1) := by decide +kernel
theorem dX2_doDeeds_59 : decode cX2_doDeeds 59 = .ok (.dup2, 1) := by decide +kernel
theorem dX2_doDeeds_60 : decode cX2_doDeeds 60 = .ok (.iaload, 1) := by decide +kernel
theorem dX2_doDeeds_61 : decode cX2_doDeeds 61 = .ok (.aload_n 0, 1) := by decide +kernel
theorem dX2_doDeeds_62 : decode cX2_doDeeds 62 = .ok (.getfield 28, 3) := by decide +kernel
theorem dX2_doDeeds_65 : decode cX2_doDeeds 65 = .ok (.getfield 81, 3) := by decide +kernel
theorem dX2_doDeeds_68 : decode cX2_doDeeds 68 = .ok (.getfield 95, 3) := by decide +kernel
theorem dX2_doDeeds_71 : decode cX2_doDeeds 71 = .ok (.iload 5, 2) := by decide +kernel
theorem dX2_doDeeds_73 : decode cX2_doDeeds 73 = .ok (.iaload, 1) := by decide +kernel
theorem dX2_doDeeds_74 : decode cX2_doDeeds 74 = .ok (.aload_n 2, 1) := by decide +kernel
theorem dX2_doDeeds_75 : decode cX2_doDeeds 75 = .ok (.getfield 92, 3) := by decide +kernel
theorem dX2_doDeeds_78 : decode cX2_doDeeds 78 = .ok (.iload 4, 2) := by decide +kernel
theorem dX2_doDeeds_80 : decode cX2_doDeeds 80 = .ok (.iaload, 1) := by decide +kernel
theorem dX2_doDeeds_81 : decode cX2_doDeeds 81 = .ok (.invokestatic 102, 3) := by decide +kernel
theorem dX2_doDeeds_84 : decode cX2_doDeeds 84 = .ok (.iadd, 1) := by decide +kernel
theorem dX2_doDeeds_85 : decode cX2_doDeeds 85 = .ok (.iastore, 1) := by decide +kernel
theorem dX2_doDeeds_86 : decode cX2_doDeeds 86 = .ok (.iload_n 3, 1) := by decide +kernel
theorem dX2_doDeeds_87 : decode cX2_doDeeds 87 = .ok (.iconst 1, 1) := by decide +kernel
theorem dX2_doDeeds_88 : decode cX2_doDeeds 88 = .ok (.iload 5, 2) := by decide +kernel
theorem dX2_doDeeds_90 : decode cX2_doDeeds 90 = .ok (.ishl, 1) := by decide +kernel
theorem dX2_doDeeds_91 : decode cX2_doDeeds 91 = .ok (.ior, 1) := by decide +kernel
theorem dX2_doDeeds_92 : decode cX2_doDeeds 92 = .ok (.istore_n 3, 1) := by decide +kernel
theorem dX2_doDeeds_93 : decode cX2_doDeeds 93 = .ok (.iinc 4 1, 3) := by decide +kernel
theorem dX2_doDeeds_96 : decode cX2_doDeeds 96 = .ok (.goto (-83), 3) := by decide +kernel
theorem dX2_doDeeds_99 : decode cX2_doDeeds 99 = .ok (.iload_n 3, 1) := by decide +kernel
theorem dX2_doDeeds_100 : decode cX2_doDeeds 100 = .ok (.ireturn, 1) := by decide +kernel
theorem dX2_growth_0 : decode cX2_growth 0 = .ok (.iload_n 1, 1) := by decide +kernel
theorem dX2_growth_1 : decode cX2_growth 1 = .ok (.ifCond .ne 7, 3) := by decide +kernel
theorem dX2_growth_4 : decode cX2_growth 4 = .ok (.iconst 1, 1) := by decide +kernel
theorem dX2_growth_5 : decode cX2_growth 5 = .ok (.goto 23, 3) := by decide +kernel
theorem dX2_growth_8 : decode cX2_growth 8 = .ok (.iload_n 1, 1) := by decide +kernel
theorem dX2_growth_9 : decode cX2_growth 9 = .ok (.iconst 1, 1) := by decide +kernel
theorem dX2_growth_10 : decode cX2_growth 10 = .ok (.if_icmp .ne 7, 3) := by decide +kernel
theorem dX2_growth_13 : decode cX2_growth 13 = .ok (.iconst 3, 1) := by decide +kernel
theorem dX2_growth_14 : decode cX2_growth 14 = .ok (.goto 14, 3) := by decide +kernel
theorem dX2_growth_17 : decode cX2_growth 17 = .ok (.iload_n 1, 1) := by decide +kernel
theorem dX2_growth_18 : decode cX2_growth 18 = .ok (.iconst 2, 1) := by decide +kernel
theorem dX2_growth_19 : decode cX2_growth 19 = .ok (.if_icmp .ne 7, 3) := by decide +kernel
theorem dX2_growth_22 : decode cX2_growth 22 = .ok (.iconst 4, 1) := by decide +kernel
theorem dX2_growth_23 : decode cX2_growth 23 = .ok (.goto 5, 3) := by decide +kernel
theorem dX2_growth_26 : decode cX2_growth 26 = .ok (.bipush 9, 2) := by decide +kernel
theorem dX2_growth_28 : decode cX2_growth 28 = .ok (.istore_n 2, 1) := by decide +kernel
theorem dX2_growth_29 : decode cX2_growth 29 = .ok (.iload_n 0, 1) := by decide +kernel
theorem dX2_growth_30 : decode cX2_growth 30 = .ok (.lookupswitch 36 #[(0, 26), (1, 32)], 26) := by decide +kernel
theorem dX2_growth_56 : decode cX2_growth 56 = .ok (.iload_n 2, 1) := by decide +kernel
theorem dX2_growth_57 : decode cX2_growth 57 = .ok (.iconst 2, 1) := by decide +kernel
theorem dX2_growth_58 : decode cX2_growth 58 = .ok (.idiv, 1) := by decide +kernel
theorem dX2_growth_59 : decode cX2_growth 59 = .ok (.iconst 1, 1) := by decide +kernel
theorem dX2_growth_60 : decode cX2_growth 60 = .ok (.iadd, 1) := by decide +kernel
theorem dX2_growth_61 : decode cX2_growth 61 = .ok (.ireturn, 1) := by decide +kernel
theorem dX2_growth_62 : decode cX2_growth 62 = .ok (.iconst 2, 1) := by decide +kernel
theorem dX2_growth_63 : decode cX2_growth 63 = .ok (.iload_n 2, 1) := by decide +kernel
theorem dX2_growth_64 : decode cX2_growth 64 = .ok (.imul, 1) := by decide +kernel
theorem dX2_growth_65 : decode cX2_growth 65 = .ok (.ireturn, 1) := by decide +kernel
theorem dX2_growth_66 : decode cX2_growth 66 = .ok (.iload_n 2, 1) := by decide +kernel
theorem dX2_growth_67 : decode cX2_growth 67 = .ok (.ireturn, 1) := by decide +kernel
theorem dX2_moult_0 : decode cX2_moult 0 = .ok (.iconst 0, 1) := by decide +kernel
theorem dX2_moult_1 : decode cX2_moult 1 = .ok (.istore_n 2, 1) := by decide +kernel
theorem dX2_moult_2 : decode cX2_moult 2 = .ok (.iload_n 2, 1) := by decide +kernel
theorem dX2_moult_3 : decode cX2_moult 3 = .ok (.aload_n 0, 1) := by decide +kernel
theorem dX2_moult_4 : decode cX2_moult 4 = .ok (.getfield 28, 3) := by decide +kernel
theorem dX2_moult_7 : decode cX2_moult 7 = .ok (.getfield 81, 3) := by decide +kernel
theorem dX2_moult_10 : decode cX2_moult 10 = .ok (.getfield 84, 3) := by decide +kernel
theorem dX2_moult_13 : decode cX2_moult 13 = .ok (.if_icmp .ge 62, 3) := by decide +kernel
theorem dX2_moult_16 : decode cX2_moult 16 = .ok (.aload_n 0, 1) := by decide +kernel
theorem dX2_moult_17 : decode cX2_moult 17 = .ok (.getfield 9, 3) := by decide +kernel
theorem dX2_moult_20 : decode cX2_moult 20 = .ok (.iconst 0, 1) := by decide +kernel
theorem dX2_moult_21 : decode cX2_moult 21 = .ok (.iload_n 2, 1) := by decide +kernel
theorem dX2_moult_22 : decode cX2_moult 22 = .ok (.iadd, 1) := by decide +kernel
theorem dX2_moult_23 : decode cX2_moult 23 = .ok (.iaload, 1) := by decide +kernel
theorem dX2_moult_24 : decode cX2_moult 24 = .ok (.istore_n 3, 1) := by decide +kernel
theorem dX2_moult_25 : decode cX2_moult 25 = .ok (.iload_n 3, 1) := by decide +kernel
theorem dX2_moult_26 : decode cX2_moult 26 = .ok (.ifCond .le 43, 3) := by decide +kernel
theorem dX2_moult_29 : decode cX2_moult 29 = .ok (.iload_n 3, 1) := by decide +kernel
theorem dX2_moult_30 : decode cX2_moult 30 = .ok (.aload_n 0, 1) := by decide +kernel
theorem dX2_moult_31 : decode cX2_moult 31 = .ok (.getfield 28, 3) := by decide +kernel
theorem dX2_moult_34 : decode cX2_moult 34 = .ok (.getfield 106, 3) := by decide +kernel
theorem dX2_moult_37 : decode cX2_moult 37 = .ok (.if_icmp .gt 32, 3) := by decide +kernel
theorem dX2_moult_40 : decode cX2_moult 40 = .ok (.aload_n 0, 1) := by decide +kernel
theorem dX2_moult_41 : decode cX2_moult 41 = .ok (.getfield 18, 3) := by decide +kernel
theorem dX2_moult_44 : decode cX2_moult 44 = .ok (.iload_n 2, 1) := by decide +kernel
theorem dX2_moult_45 : decode cX2_moult 45 = .ok (.iaload, 1) := by decide +kernel
theorem dX2_moult_46 : decode cX2_moult 46 = .ok (.iconst (-1), 1) := by decide +kernel
theorem dX2_moult_47 : decode cX2_moult 47 = .ok (.if_icmp .ne 22, 3) := by decide +kernel
theorem dX2_moult_50 : decode cX2_moult 50 = .ok (.iload_n 1, 1) := by decide +kernel
theorem dX2_moult_51 : decode cX2_moult 51 = .ok (.iload_n 2, 1) := by decide +kernel
theorem dX2_moult_52 : decode cX2_moult 52 = .ok (.ishr, 1) := by decide +kernel
theorem dX2_moult_53 : decode cX2_moult 53 = .ok (.iconst 1, 1) := by decide +kernel
theorem dX2_moult_54 : decode cX2_moult 54 = .ok (.iand, 1) := by decide +kernel
theorem dX2_moult_55 : decode cX2_moult 55 = .ok (.ifCond .ne 14, 3) := by decide +kernel
theorem dX2_moult_58 : decode cX2_moult 58 = .ok (.aload_n 0, 1) := by decide +kernel
theorem dX2_moult_59 : decode cX2_moult 59 = .ok (.getfield 9, 3) := by decide +kernel
theorem dX2_moult_62 : decode cX2_moult 62 = .ok (.iconst 0, 1) := by decide +kernel
theorem dX2_moult_63 : decode cX2_moult 63 = .ok (.iload_n 2, 1) := by decide +kernel
theorem dX2_moult_64 : decode cX2_moult 64 = .ok (.iadd, 1) := by decide +kernel
theorem dX2_moult_65 : decode cX2_moult 65 = .ok (.iload_n 3, 1) := by decide +kernel
theorem dX2_moult_66 : decode cX2_moult 66 = .ok (.iconst 1, 1) := by decide +kernel
theorem dX2_moult_67 : decode cX2_moult 67 = .ok (.isub, 1) := by decide +kernel
theorem dX2_moult_68 : decode cX2_moult 68 = .ok (.iastore, 1) := by decide +kernel
theorem dX2_moult_69 : decode cX2_moult 69 = .ok (.iinc 2 1, 3) := by decide +kernel
theorem dX2_moult_72 : decode cX2_moult 72 = .ok (.goto (-70), 3) := by decide +kernel
theorem dX2_moult_75 : decode cX2_moult 75 = .ok (.return_, 1) := by decide +kernel
theorem dX2_travel_0 : decode cX2_travel 0 = .ok (.aload_n 0, 1) := by decide +kernel
theorem dX2_travel_1 : decode cX2_travel 1 = .ok (.getfield 28, 3) := by decide +kernel
theorem dX2_travel_4 : decode cX2_travel 4 = .ok (.getfield 45, 3) := by decide +kernel
theorem dX2_travel_7 : decode cX2_travel 7 = .ok (.astore_n 2, 1) := by decide +kernel
theorem dX2_travel_8 : decode cX2_travel 8 = .ok (.iconst 0, 1) := by decide +kernel
theorem dX2_travel_9 : decode cX2_travel 9 = .ok (.istore_n 3, 1) := by decide +kernel
theorem dX2_travel_10 : decode cX2_travel 10 = .ok (.iload_n 3, 1) := by decide +kernel
theorem dX2_travel_11 : decode cX2_travel 11 = .ok (.aload_n 2, 1) := by decide +kernel
theorem dX2_travel_12 : decode cX2_travel 12 = .ok (.getfield 84, 3) := by decide +kernel
theorem dX2_travel_15 : decode cX2_travel 15 = .ok (.if_icmp .ge 112, 3) := by decide +kernel
theorem dX2_travel_18 : decode cX2_travel 18 = .ok (.aload_n 2, 1) := by decide +kernel
theorem dX2_travel_19 : decode cX2_travel 19 = .ok (.getfield 89, 3) := by decide +kernel
theorem dX2_travel_22 : decode cX2_travel 22 = .ok (.iload_n 3, 1) := by decide +kernel
theorem dX2_travel_23 : decode cX2_travel 23 = .ok (.iaload, 1) := by decide +kernel
theorem dX2_travel_24 : decode cX2_travel 24 = .ok (.istore 4, 2) := by decide +kernel
theorem dX2_travel_26 : decode cX2_travel 26 = .ok (.aload_n 2, 1) := by decide +kernel
theorem dX2_travel_27 : decode cX2_travel 27 = .ok (.getfield 95, 3) := by decide +kernel
theorem dX2_travel_30 : decode cX2_travel 30 = .ok (.iload_n 3, 1) := by decide +kernel
theorem dX2_travel_31 : decode cX2_travel 31 = .ok (.iaload, 1) := by decide +kernel
theorem dX2_travel_32 : decode cX2_travel 32 = .ok (.iload_n 1, 1) := by decide +kernel
theorem dX2_travel_33 : decode cX2_travel 33 = .ok (.if_icmp .ne 88, 3) := by decide +kernel
theorem dX2_travel_36 : decode cX2_travel 36 = .ok (.aload_n 0, 1) := by decide +kernel
theorem dX2_travel_37 : decode cX2_travel 37 = .ok (.iload 4, 2) := by decide +kernel
theorem dX2_travel_39 : decode cX2_travel 39 = .ok (.invokevirtual 98, 3) := by decide +kernel
theorem dX2_travel_42 : decode cX2_travel 42 = .ok (.ifCond .eq 79, 3) := by decide +kernel
theorem dX2_travel_45 : decode cX2_travel 45 = .ok (.aload_n 0, 1) := by decide +kernel
theorem dX2_travel_46 : decode cX2_travel 46 = .ok (.getfield 9, 3) := by decide +kernel
theorem dX2_travel_49 : decode cX2_travel 49 = .ok (.bipush 8, 2) := by decide +kernel
theorem dX2_travel_51 : decode cX2_travel 51 = .ok (.iload 4, 2) := by decide +kernel
theorem dX2_travel_53 : decode cX2_travel 53 = .ok (.iadd, 1) := by decide +kernel
theorem dX2_travel_54 : decode cX2_travel 54 = .ok (.iaload, 1) := by decide +kernel
theorem dX2_travel_55 : decode cX2_travel 55 = .ok (.aload_n 2, 1) := by decide +kernel
theorem dX2_travel_56 : decode cX2_travel 56 = .ok (.getfield 92, 3) := by decide +kernel
theorem dX2_travel_59 : decode cX2_travel 59 = .ok (.iload_n 3, 1) := by decide +kernel
theorem dX2_travel_60 : decode cX2_travel 60 = .ok (.iaload, 1) := by decide +kernel
theorem dX2_travel_61 : decode cX2_travel 61 = .ok (.if_icmp .eq 60, 3) := by decide +kernel
theorem dX2_travel_64 : decode cX2_travel 64 = .ok (.iconst 2, 1) := by decide +kernel
theorem dX2_travel_65 : decode cX2_travel 65 = .ok (.aload_n 0, 1) := by decide +kernel
theorem dX2_travel_66 : decode cX2_travel 66 = .ok (.getfield 9, 3) := by decide +kernel
theorem dX2_travel_69 : decode cX2_travel 69 = .ok (.iconst 0, 1) := by decide +kernel
theorem dX2_travel_70 : decode cX2_travel 70 = .ok (.iload 4, 2) := by decide +kernel
theorem dX2_travel_72 : decode cX2_travel 72 = .ok (.iadd, 1) := by decide +kernel
theorem dX2_travel_73 : decode cX2_travel 73 = .ok (.iaload, 1) := by decide +kernel
theorem dX2_travel_74 : decode cX2_travel 74 = .ok (.invokestatic 109, 3) := by decide +kernel
theorem dX2_travel_77 : decode cX2_travel 77 = .ok (.istore 5, 2) := by decide +kernel
theorem dX2_travel_79 : decode cX2_travel 79 = .ok (.aload_n 0, 1) := by decide +kernel
theorem dX2_travel_80 : decode cX2_travel 80 = .ok (.getfield 9, 3) := by decide +kernel
theorem dX2_travel_83 : decode cX2_travel 83 = .ok (.iconst 0, 1) := by decide +kernel
theorem dX2_travel_84 : decode cX2_travel 84 = .ok (.iload 4, 2) := by decide +kernel
theorem dX2_travel_86 : decode cX2_travel 86 = .ok (.iadd, 1) := by decide +kernel
theorem dX2_travel_87 : decode cX2_travel 87 = .ok (.dup2, 1) := by decide +kernel
theorem dX2_travel_88 : decode cX2_travel 88 = .ok (.iaload, 1) := by decide +kernel
theorem dX2_travel_89 : decode cX2_travel 89 = .ok (.iload 5, 2) := by decide +kernel
theorem dX2_travel_91 : decode cX2_travel 91 = .ok (.isub, 1) := by decide +kernel
theorem dX2_travel_92 : decode cX2_travel 92 = .ok (.iastore, 1) := by decide +kernel
theorem dX2_travel_93 : decode cX2_travel 93 = .ok (.aload_n 0, 1) := by decide +kernel
theorem dX2_travel_94 : decode cX2_travel 94 = .ok (.getfield 9, 3) := by decide +kernel
theorem dX2_travel_97 : decode cX2_travel 97 = .ok (.bipush 32, 2) := by decide +kernel
theorem dX2_travel_99 : decode cX2_travel 99 = .ok (.dup2, 1) := by decide +kernel
theorem dX2_travel_100 : decode cX2_travel 100 = .ok (.iaload, 1) := by decide +kernel
theorem dX2_travel_101 : decode cX2_travel 101 = .ok (.iload 5, 2) := by decide +kernel
theorem dX2_travel_103 : decode cX2_travel 103 = .ok (.iadd, 1) := by decide +kernel
theorem dX2_travel_104 : decode cX2_travel 104 = .ok (.iastore, 1) := by decide +kernel
theorem dX2_travel_105 : decode cX2_travel 105 = .ok (.aload_n 0, 1) := by decide +kernel
theorem dX2_travel_106 : decode cX2_travel 106 = .ok (.getfield 9, 3) := by decide +kernel
theorem dX2_travel_109 : decode cX2_travel 109 = .ok (.bipush 8, 2) := by decide +kernel
theorem dX2_travel_111 : decode cX2_travel 111 = .ok (.iload 4, 2) := by decide +kernel
theorem dX2_travel_113 : decode cX2_travel 113 = .ok (.iadd, 1) := by decide +kernel
theorem dX2_travel_114 : decode cX2_travel 114 = .ok (.aload_n 2, 1) := by decide +kernel
theorem dX2_travel_115 : decode cX2_travel 115 = .ok (.getfield 92, 3) := by decide +kernel
theorem dX2_travel_118 : decode cX2_travel 118 = .ok (.iload_n 3, 1) := by decide +kernel
theorem dX2_travel_119 : decode cX2_travel 119 = .ok (.iaload, 1) := by decide +kernel
theorem dX2_travel_120 : decode cX2_travel 120 = .ok (.iastore, 1) := by decide +kernel
theorem dX2_travel_121 : decode cX2_travel 121 = .ok (.iinc 3 1, 3) := by decide +kernel
theorem dX2_travel_124 : decode cX2_travel 124 = .ok (.goto (-114), 3) := by decide +kernel
theorem dX2_travel_127 : decode cX2_travel 127 = .ok (.return_, 1) := by decide +kernel
theorem dX2_makeRounds_0 : decode cX2_makeRounds 0 = .ok (.aload_n 0, 1) := by decide +kernel
theorem dX2_makeRounds_1 : decode cX2_makeRounds 1 = .ok (.getfield 28, 3) := by decide +kernel
theorem dX2_makeRounds_4 : decode cX2_makeRounds 4 = .ok (.getfield 48, 3) := by decide +kernel
theorem dX2_makeRounds_7 : decode cX2_makeRounds 7 = .ok (.astore_n 3, 1) := by decide +kernel
theorem dX2_makeRounds_8 : decode cX2_makeRounds 8 = .ok (.iconst 0, 1) := by decide +kernel
theorem dX2_makeRounds_9 : decode cX2_makeRounds 9 = .ok (.istore 4, 2) := by decide +kernel
theorem dX2_makeRounds_11 : decode cX2_makeRounds 11 = .ok (.iload 4, 2) := by decide +kernel
theorem dX2_makeRounds_13 : decode cX2_makeRounds 13 = .ok (.aload_n 3, 1) := by decide +kernel
theorem dX2_makeRounds_14 : decode cX2_makeRounds 14 = .ok (.getfield 84, 3) := by decide +kernel
theorem dX2_makeRounds_17 : decode cX2_makeRounds 17 = .ok (.if_icmp .ge 84, 3) := by decide +kernel
theorem dX2_makeRounds_20 : decode cX2_makeRounds 20 = .ok (.aload_n 3, 1) := by decide +kernel
theorem dX2_makeRounds_21 : decode cX2_makeRounds 21 = .ok (.getfield 95, 3) := by decide +kernel
theorem dX2_makeRounds_24 : decode cX2_makeRounds 24 = .ok (.iload 4, 2) := by decide +kernel
theorem dX2_makeRounds_26 : decode cX2_makeRounds 26 = .ok (.iaload, 1) := by decide +kernel
theorem dX2_makeRounds_27 : decode cX2_makeRounds 27 = .ok (.iload_n 1, 1) := by decide +kernel
theorem dX2_makeRounds_28 : decode cX2_makeRounds 28 = .ok (.if_icmp .eq 6, 3) := by decide +kernel
theorem dX2_makeRounds_31 : decode cX2_makeRounds 31 = .ok (.goto 64, 3) := by decide +kernel
theorem dX2_makeRounds_34 : decode cX2_makeRounds 34 = .ok (.aload_n 0, 1) := by decide +kernel
theorem dX2_makeRounds_35 : decode cX2_makeRounds 35 = .ok (.aload_n 3, 1) := by decide +kernel
theorem dX2_makeRounds_36 : decode cX2_makeRounds 36 = .ok (.getfield 89, 3) := by decide +kernel
theorem dX2_makeRounds_39 : decode cX2_makeRounds 39 = .ok (.iload 4, 2) := by decide +kernel
theorem dX2_makeRounds_41 : decode cX2_makeRounds 41 = .ok (.iaload, 1) := by decide +kernel
theorem dX2_makeRounds_42 : decode cX2_makeRounds 42 = .ok (.invokevirtual 114, 3) := by decide +kernel
theorem dX2_makeRounds_45 : decode cX2_makeRounds 45 = .ok (.istore 5, 2) := by decide +kernel
theorem dX2_makeRounds_47 : decode cX2_makeRounds 47 = .ok (.iconst 0, 1) := by decide +kernel
theorem dX2_makeRounds_48 : decode cX2_makeRounds 48 = .ok (.istore 6, 2) := by decide +kernel
theorem dX2_makeRounds_50 : decode cX2_makeRounds 50 = .ok (.iload 6, 2) := by decide +kernel
theorem dX2_makeRounds_52 : decode cX2_makeRounds 52 = .ok (.aload_n 3, 1) := by decide +kernel
theorem dX2_makeRounds_53 : decode cX2_makeRounds 53 = .ok (.getfield 92, 3) := by decide +kernel
theorem dX2_makeRounds_56 : decode cX2_makeRounds 56 = .ok (.iload 4, 2) := by decide +kernel
theorem dX2_makeRounds_58 : decode cX2_makeRounds 58 = .ok (.iaload, 1) := by decide +kernel
theorem dX2_makeRounds_59 : decode cX2_makeRounds 59 = .ok (.if_icmp .ge 36, 3) := by decide +kernel
theorem dX2_makeRounds_62 : decode cX2_makeRounds 62 = .ok (.iload 5, 2) := by decide +kernel
theorem dX2_makeRounds_64 : decode cX2_makeRounds 64 = .ok (.iconst (-1), 1) := by decide +kernel
theorem dX2_makeRounds_65 : decode cX2_makeRounds 65 = .ok (.if_icmp .eq 30, 3) := by decide +kernel
theorem dX2_makeRounds_68 : decode cX2_makeRounds 68 = .ok (.aload_n 0, 1) := by decide +kernel
theorem dX2_makeRounds_69 : decode cX2_makeRounds 69 = .ok (.iload_n 1, 1) := by decide +kernel
theorem dX2_makeRounds_70 : decode cX2_makeRounds 70 = .ok (.iload 5, 2) := by decide +kernel
theorem dX2_makeRounds_72 : decode cX2_makeRounds 72 = .ok (.iload_n 2, 1) := by decide +kernel
theorem dX2_makeRounds_73 : decode cX2_makeRounds 73 = .ok (.invokevirtual 117, 3) := by decide +kernel
theorem dX2_makeRounds_76 : decode cX2_makeRounds 76 = .ok (.aload_n 0, 1) := by decide +kernel
theorem dX2_makeRounds_77 : decode cX2_makeRounds 77 = .ok (.aload_n 3, 1) := by decide +kernel
theorem dX2_makeRounds_78 : decode cX2_makeRounds 78 = .ok (.getfield 89, 3) := by decide +kernel
theorem dX2_makeRounds_81 : decode cX2_makeRounds 81 = .ok (.iload 4, 2) := by decide +kernel
theorem dX2_makeRounds_83 : decode cX2_makeRounds 83 = .ok (.iaload, 1) := by decide +kernel
theorem dX2_makeRounds_84 : decode cX2_makeRounds 84 = .ok (.invokevirtual 114, 3) := by decide +kernel
theorem dX2_makeRounds_87 : decode cX2_makeRounds 87 = .ok (.istore 5, 2) := by decide +kernel
theorem dX2_makeRounds_89 : decode cX2_makeRounds 89 = .ok (.iinc 6 1, 3) := by decide +kernel
theorem dX2_makeRounds_92 : decode cX2_makeRounds 92 = .ok (.goto (-42), 3) := by decide +kernel
theorem dX2_makeRounds_95 : decode cX2_makeRounds 95 = .ok (.iinc 4 1, 3) := by decide +kernel
theorem dX2_makeRounds_98 : decode cX2_makeRounds 98 = .ok (.goto (-87), 3) := by decide +kernel
theorem dX2_makeRounds_101 : decode cX2_makeRounds 101 = .ok (.return_, 1) := by decide +kernel
theorem dX2_woolliestIn_0 : decode cX2_woolliestIn 0 = .ok (.iconst (-1), 1) := by decide +kernel
theorem dX2_woolliestIn_1 : decode cX2_woolliestIn 1 = .ok (.istore_n 2, 1) := by decide +kernel
theorem dX2_woolliestIn_2 : decode cX2_woolliestIn 2 = .ok (.iconst 0, 1) := by decide +kernel
theorem dX2_woolliestIn_3 : decode cX2_woolliestIn 3 = .ok (.istore_n 3, 1) := by decide +kernel
theorem dX2_woolliestIn_4 : decode cX2_woolliestIn 4 = .ok (.iconst 0, 1) := by decide +kernel
theorem dX2_woolliestIn_5 : decode cX2_woolliestIn 5 = .ok (.istore 4, 2) := by decide +kernel
theorem dX2_woolliestIn_7 : decode cX2_woolliestIn 7 = .ok (.iload 4, 2) := by decide +kernel
theorem dX2_woolliestIn_9 : decode cX2_woolliestIn 9 = .ok (.aload_n 0, 1) := by decide +kernel
theorem dX2_woolliestIn_10 : decode cX2_woolliestIn 10 = .ok (.getfield 28, 3) := by decide +kernel
theorem dX2_woolliestIn_13 : decode cX2_woolliestIn 13 = .ok (.getfield 81, 3) := by decide +kernel
theorem dX2_woolliestIn_16 : decode cX2_woolliestIn 16 = .ok (.getfield 84, 3) := by decide +kernel
theorem dX2_woolliestIn_19 : decode cX2_woolliestIn 19 = .ok (.if_icmp .ge 60, 3) := by decide +kernel
theorem dX2_woolliestIn_22 : decode cX2_woolliestIn 22 = .ok (.aload_n 0, 1) := by decide +kernel
theorem dX2_woolliestIn_23 : decode cX2_woolliestIn 23 = .ok (.getfield 9, 3) := by decide +kernel
theorem dX2_woolliestIn_26 : decode cX2_woolliestIn 26 = .ok (.iconst 0, 1) := by decide +kernel
theorem dX2_woolliestIn_27 : decode cX2_woolliestIn 27 = .ok (.iload 4, 2) := by decide +kernel
theorem dX2_woolliestIn_29 : decode cX2_woolliestIn 29 = .ok (.iadd, 1) := by decide +kernel
theorem dX2_woolliestIn_30 : decode cX2_woolliestIn 30 = .ok (.iaload, 1) := by decide +kernel
theorem dX2_woolliestIn_31 : decode cX2_woolliestIn 31 = .ok (.iload_n 3, 1) := by decide +kernel
theorem dX2_woolliestIn_32 : decode cX2_woolliestIn 32 = .ok (.if_icmp .le 41, 3) := by decide +kernel
theorem dX2_woolliestIn_35 : decode cX2_woolliestIn 35 = .ok (.aload_n 0, 1) := by decide +kernel
theorem dX2_woolliestIn_36 : decode cX2_woolliestIn 36 = .ok (.getfield 9, 3) := by decide +kernel
theorem dX2_woolliestIn_39 : decode cX2_woolliestIn 39 = .ok (.bipush 8, 2) := by decide +kernel
theorem dX2_woolliestIn_41 : decode cX2_woolliestIn 41 = .ok (.iload 4, 2) := by decide +kernel
theorem dX2_woolliestIn_43 : decode cX2_woolliestIn 43 = .ok (.iadd, 1) := by decide +kernel
theorem dX2_woolliestIn_44 : decode cX2_woolliestIn 44 = .ok (.iaload, 1) := by decide +kernel
theorem dX2_woolliestIn_45 : decode cX2_woolliestIn 45 = .ok (.iload_n 1, 1) := by decide +kernel
theorem dX2_woolliestIn_46 : decode cX2_woolliestIn 46 = .ok (.if_icmp .ne 27, 3) := by decide +kernel
theorem dX2_woolliestIn_49 : decode cX2_woolliestIn 49 = .ok (.aload_n 0, 1) := by decide +kernel
theorem dX2_woolliestIn_50 : decode cX2_woolliestIn 50 = .ok (.getfield 18, 3) := by decide +kernel
theorem dX2_woolliestIn_53 : decode cX2_woolliestIn 53 = .ok (.iload 4, 2) := by decide +kernel
theorem dX2_woolliestIn_55 : decode cX2_woolliestIn 55 = .ok (.iaload, 1) := by decide +kernel
theorem dX2_woolliestIn_56 : decode cX2_woolliestIn 56 = .ok (.iconst (-1), 1) := by decide +kernel
theorem dX2_woolliestIn_57 : decode cX2_woolliestIn 57 = .ok (.if_icmp .ne 16, 3) := by decide +kernel
theorem dX2_woolliestIn_60 : decode cX2_woolliestIn 60 = .ok (.iload 4, 2) := by decide +kernel
theorem dX2_woolliestIn_62 : decode cX2_woolliestIn 62 = .ok (.istore_n 2, 1) := by decide +kernel
theorem dX2_woolliestIn_63 : decode cX2_woolliestIn 63 = .ok (.aload_n 0, 1) := by decide +kernel
theorem dX2_woolliestIn_64 : decode cX2_woolliestIn 64 = .ok (.getfield 9, 3) := by decide +kernel
theorem dX2_woolliestIn_67 : decode cX2_woolliestIn 67 = .ok (.iconst 0, 1) := by decide +kernel
theorem dX2_woolliestIn_68 : decode cX2_woolliestIn 68 = .ok (.iload 4, 2) := by decide +kernel
theorem dX2_woolliestIn_70 : decode cX2_woolliestIn 70 = .ok (.iadd, 1) := by decide +kernel
theorem dX2_woolliestIn_71 : decode cX2_woolliestIn 71 = .ok (.iaload, 1) := by decide +kernel
theorem dX2_woolliestIn_72 : decode cX2_woolliestIn 72 = .ok (.istore_n 3, 1) := by decide +kernel
theorem dX2_woolliestIn_73 : decode cX2_woolliestIn 73 = .ok (.iinc 4 1, 3) := by decide +kernel
theorem dX2_woolliestIn_76 : decode cX2_woolliestIn 76 = .ok (.goto (-69), 3) := by decide +kernel
theorem dX2_woolliestIn_79 : decode cX2_woolliestIn 79 = .ok (.iload_n 2, 1) := by decide +kernel
theorem dX2_woolliestIn_80 : decode cX2_woolliestIn 80 = .ok (.ireturn, 1) := by decide +kernel
theorem dX2_shear_0 : decode cX2_shear 0 = .ok (.aload_n 0, 1) := by decide +kernel
theorem dX2_shear_1 : decode cX2_shear 1 = .ok (.getfield 9, 3) := by decide +kernel
theorem dX2_shear_4 : decode cX2_shear 4 = .ok (.iconst 0, 1) := by decide +kernel
theorem dX2_shear_5 : decode cX2_shear 5 = .ok (.iload_n 2, 1) := by decide +kernel
theorem dX2_shear_6 : decode cX2_shear 6 = .ok (.iadd, 1) := by decide +kernel
theorem dX2_shear_7 : decode cX2_shear 7 = .ok (.iaload, 1) := by decide +kernel
theorem dX2_shear_8 : decode cX2_shear 8 = .ok (.istore 4, 2) := by decide +kernel
theorem dX2_shear_10 : decode cX2_shear 10 = .ok (.aload_n 0, 1) := by decide +kernel
theorem dX2_shear_11 : decode cX2_shear 11 = .ok (.getfield 9, 3) := by decide +kernel
theorem dX2_shear_14 : decode cX2_shear 14 = .ok (.bipush 8, 2) := by decide +kernel
theorem dX2_shear_16 : decode cX2_shear 16 = .ok (.iload_n 2, 1) := by decide +kernel
theorem dX2_shear_17 : decode cX2_shear 17 = .ok (.iadd, 1) := by decide +kernel
theorem dX2_shear_18 : decode cX2_shear 18 = .ok (.iaload, 1) := by decide +kernel
theorem dX2_shear_19 : decode cX2_shear 19 = .ok (.istore 5, 2) := by decide +kernel
theorem dX2_shear_21 : decode cX2_shear 21 = .ok (.aload_n 0, 1) := by decide +kernel
theorem dX2_shear_22 : decode cX2_shear 22 = .ok (.getfield 28, 3) := by decide +kernel
theorem dX2_shear_25 : decode cX2_shear 25 = .ok (.getfield 81, 3) := by decide +kernel
theorem dX2_shear_28 : decode cX2_shear 28 = .ok (.getfield 95, 3) := by decide +kernel
theorem dX2_shear_31 : decode cX2_shear 31 = .ok (.iload_n 2, 1) := by decide +kernel
theorem dX2_shear_32 : decode cX2_shear 32 = .ok (.iaload, 1) := by decide +kernel
theorem dX2_shear_33 : decode cX2_shear 33 = .ok (.istore 6, 2) := by decide +kernel
theorem dX2_shear_35 : decode cX2_shear 35 = .ok (.aload_n 0, 1) := by decide +kernel
theorem dX2_shear_36 : decode cX2_shear 36 = .ok (.getfield 9, 3) := by decide +kernel
theorem dX2_shear_39 : decode cX2_shear 39 = .ok (.iconst 0, 1) := by decide +kernel
theorem dX2_shear_40 : decode cX2_shear 40 = .ok (.iload_n 2, 1) := by decide +kernel
theorem dX2_shear_41 : decode cX2_shear 41 = .ok (.iadd, 1) := by decide +kernel
theorem dX2_shear_42 : decode cX2_shear 42 = .ok (.iconst 0, 1) := by decide +kernel
theorem dX2_shear_43 : decode cX2_shear 43 = .ok (.iastore, 1) := by decide +kernel
theorem dX2_shear_44 : decode cX2_shear 44 = .ok (.aload_n 0, 1) := by decide +kernel
theorem dX2_shear_45 : decode cX2_shear 45 = .ok (.getfield 9, 3) := by decide +kernel
theorem dX2_shear_48 : decode cX2_shear 48 = .ok (.bipush 16, 2) := by decide +kernel
theorem dX2_shear_50 : decode cX2_shear 50 = .ok (.iload_n 2, 1) := by decide +kernel
theorem dX2_shear_51 : decode cX2_shear 51 = .ok (.iadd, 1) := by decide +kernel
theorem dX2_shear_52 : decode cX2_shear 52 = .ok (.dup2, 1) := by decide +kernel
theorem dX2_shear_53 : decode cX2_shear 53 = .ok (.iaload, 1) := by decide +kernel
theorem dX2_shear_54 : decode cX2_shear 54 = .ok (.iconst 1, 1) := by decide +kernel
theorem dX2_shear_55 : decode cX2_shear 55 = .ok (.iadd, 1) := by decide +kernel
theorem dX2_shear_56 : decode cX2_shear 56 = .ok (.iastore, 1) := by decide +kernel
theorem dX2_shear_57 : decode cX2_shear 57 = .ok (.aload_n 0, 1) := by decide +kernel
theorem dX2_shear_58 : decode cX2_shear 58 = .ok (.getfield 9, 3) := by decide +kernel
theorem dX2_shear_61 : decode cX2_shear 61 = .ok (.bipush 33, 2) := by decide +kernel
theorem dX2_shear_63 : decode cX2_shear 63 = .ok (.iload_n 2, 1) := by decide +kernel
theorem dX2_shear_64 : decode cX2_shear 64 = .ok (.iadd, 1) := by decide +kernel
theorem dX2_shear_65 : decode cX2_shear 65 = .ok (.dup2, 1) := by decide +kernel
theorem dX2_shear_66 : decode cX2_shear 66 = .ok (.iaload, 1) := by decide +kernel
theorem dX2_shear_67 : decode cX2_shear 67 = .ok (.iload 4, 2) := by decide +kernel
theorem dX2_shear_69 : decode cX2_shear 69 = .ok (.iadd, 1) := by decide +kernel
theorem dX2_shear_70 : decode cX2_shear 70 = .ok (.iastore, 1) := by decide +kernel
theorem dX2_shear_71 : decode cX2_shear 71 = .ok (.aload_n 0, 1) := by decide +kernel
theorem dX2_shear_72 : decode cX2_shear 72 = .ok (.getfield 9, 3) := by decide +kernel
theorem dX2_shear_75 : decode cX2_shear 75 = .ok (.bipush 24, 2) := by decide +kernel
theorem dX2_shear_77 : decode cX2_shear 77 = .ok (.iload 5, 2) := by decide +kernel
theorem dX2_shear_79 : decode cX2_shear 79 = .ok (.iadd, 1) := by decide +kernel
theorem dX2_shear_80 : decode cX2_shear 80 = .ok (.dup2, 1) := by decide +kernel
theorem dX2_shear_81 : decode cX2_shear 81 = .ok (.iaload, 1) := by decide +kernel
theorem dX2_shear_82 : decode cX2_shear 82 = .ok (.iload 4, 2) := by decide +kernel
theorem dX2_shear_84 : decode cX2_shear 84 = .ok (.iadd, 1) := by decide +kernel
theorem dX2_shear_85 : decode cX2_shear 85 = .ok (.iastore, 1) := by decide +kernel
theorem dX2_shear_86 : decode cX2_shear 86 = .ok (.aload_n 0, 1) := by decide +kernel
theorem dX2_shear_87 : decode cX2_shear 87 = .ok (.getfield 9, 3) := by decide +kernel
theorem dX2_shear_90 : decode cX2_shear 90 = .ok (.bipush 28, 2) := by decide +kernel
theorem dX2_shear_92 : decode cX2_shear 92 = .ok (.iload 5, 2) := by decide +kernel
theorem dX2_shear_94 : decode cX2_shear 94 = .ok (.iadd, 1) := by decide +kernel
theorem dX2_shear_95 : decode cX2_shear 95 = .ok (.dup2, 1) := by decide +kernel
theorem dX2_shear_96 : decode cX2_shear 96 = .ok (.iaload, 1) := by decide +kernel
theorem dX2_shear_97 : decode cX2_shear 97 = .ok (.iload 4, 2) := by decide +kernel
theorem dX2_shear_99 : decode cX2_shear 99 = .ok (.iload 6, 2) := by decide +kernel
theorem dX2_shear_101 : decode cX2_shear 101 = .ok (.ifCond .ne 7, 3) := by decide +kernel
theorem dX2_shear_104 : decode cX2_shear 104 = .ok (.iconst 3, 1) := by decide +kernel
theorem dX2_shear_105 : decode cX2_shear 105 = .ok (.goto 14, 3) := by decide +kernel
theorem dX2_shear_108 : decode cX2_shear 108 = .ok (.iload 6, 2) := by decide +kernel
theorem dX2_shear_110 : decode cX2_shear 110 = .ok (.iconst 1, 1) := by decide +kernel
theorem dX2_shear_111 : decode cX2_shear 111 = .ok (.if_icmp .ne 7, 3) := by decide +kernel
theorem dX2_shear_114 : decode cX2_shear 114 = .ok (.iconst 1, 1) := by decide +kernel
theorem dX2_shear_115 : decode cX2_shear 115 = .ok (.goto 4, 3) := by decide +kernel
theorem dX2_shear_118 : decode cX2_shear 118 = .ok (.iconst 2, 1) := by decide +kernel
theorem dX2_shear_119 : decode cX2_shear 119 = .ok (.imul, 1) := by decide +kernel
theorem dX2_shear_120 : decode cX2_shear 120 = .ok (.iadd, 1) := by decide +kernel
theorem dX2_shear_121 : decode cX2_shear 121 = .ok (.iastore, 1) := by decide +kernel
theorem dX2_shear_122 : decode cX2_shear 122 = .ok (.aload_n 0, 1) := by decide +kernel
theorem dX2_shear_123 : decode cX2_shear 123 = .ok (.getfield 21, 3) := by decide +kernel
theorem dX2_shear_126 : decode cX2_shear 126 = .ok (.iconst (-1), 1) := by decide +kernel
theorem dX2_shear_127 : decode cX2_shear 127 = .ok (.if_icmp .ne 13, 3) := by decide +kernel
theorem dX2_shear_130 : decode cX2_shear 130 = .ok (.aload_n 0, 1) := by decide +kernel
theorem dX2_shear_131 : decode cX2_shear 131 = .ok (.iload_n 1, 1) := by decide +kernel
theorem dX2_shear_132 : decode cX2_shear 132 = .ok (.putfield 21, 3) := by decide +kernel
theorem dX2_shear_135 : decode cX2_shear 135 = .ok (.aload_n 0, 1) := by decide +kernel
theorem dX2_shear_136 : decode cX2_shear 136 = .ok (.iload_n 2, 1) := by decide +kernel
theorem dX2_shear_137 : decode cX2_shear 137 = .ok (.putfield 25, 3) := by decide +kernel
theorem dX2_shear_140 : decode cX2_shear 140 = .ok (.iload_n 3, 1) := by decide +kernel
theorem dX2_shear_141 : decode cX2_shear 141 = .ok (.ifCond .eq 22, 3) := by decide +kernel
theorem dX2_shear_144 : decode cX2_shear 144 = .ok (.iload 4, 2) := by decide +kernel
theorem dX2_shear_146 : decode cX2_shear 146 = .ok (.aload_n 0, 1) := by decide +kernel
theorem dX2_shear_147 : decode cX2_shear 147 = .ok (.getfield 28, 3) := by decide +kernel
theorem dX2_shear_150 : decode cX2_shear 150 = .ok (.getfield 121, 3) := by decide +kernel
theorem dX2_shear_153 : decode cX2_shear 153 = .ok (.if_icmp .lt 10, 3) := by decide +kernel
theorem dX2_shear_156 : decode cX2_shear 156 = .ok (.aload_n 0, 1) := by decide +kernel
theorem dX2_shear_157 : decode cX2_shear 157 = .ok (.getfield 18, 3) := by decide +kernel
theorem dX2_shear_160 : decode cX2_shear 160 = .ok (.iload_n 2, 1) := by decide +kernel
theorem dX2_shear_161 : decode cX2_shear 161 = .ok (.iload_n 1, 1) := by decide +kernel
theorem dX2_shear_162 : decode cX2_shear 162 = .ok (.iastore, 1) := by decide +kernel
theorem dX2_shear_163 : decode cX2_shear 163 = .ok (.return_, 1) := by decide +kernel
theorem dX2_lives_0 : decode cX2_lives 0 = .ok (.iload_n 1, 1) := by decide +kernel
theorem dX2_lives_1 : decode cX2_lives 1 = .ok (.ifCond .lt 31, 3) := by decide +kernel
theorem dX2_lives_4 : decode cX2_lives 4 = .ok (.iload_n 1, 1) := by decide +kernel
theorem dX2_lives_5 : decode cX2_lives 5 = .ok (.aload_n 0, 1) := by decide +kernel
theorem dX2_lives_6 : decode cX2_lives 6 = .ok (.getfield 28, 3) := by decide +kernel
theorem dX2_lives_9 : decode cX2_lives 9 = .ok (.getfield 81, 3) := by decide +kernel
theorem dX2_lives_12 : decode cX2_lives 12 = .ok (.getfield 84, 3) := by decide +kernel
theorem dX2_lives_15 : decode cX2_lives 15 = .ok (.if_icmp .ge 17, 3) := by decide +kernel
theorem dX2_lives_18 : decode cX2_lives 18 = .ok (.aload_n 0, 1) := by decide +kernel
theorem dX2_lives_19 : decode cX2_lives 19 = .ok (.getfield 18, 3) := by decide +kernel
theorem dX2_lives_22 : decode cX2_lives 22 = .ok (.iload_n 1, 1) := by decide +kernel
theorem dX2_lives_23 : decode cX2_lives 23 = .ok (.iaload, 1) := by decide +kernel
theorem dX2_lives_24 : decode cX2_lives 24 = .ok (.iconst (-1), 1) := by decide +kernel
theorem dX2_lives_25 : decode cX2_lives 25 = .ok (.if_icmp .ne 7, 3) := by decide +kernel
theorem dX2_lives_28 : decode cX2_lives 28 = .ok (.iconst 1, 1) := by decide +kernel
theorem dX2_lives_29 : decode cX2_lives 29 = .ok (.goto 4, 3) := by decide +kernel
theorem dX2_lives_32 : decode cX2_lives 32 = .ok (.iconst 0, 1) := by decide +kernel
theorem dX2_lives_33 : decode cX2_lives 33 = .ok (.ireturn, 1) := by decide +kernel
theorem dX2_livesBehind_0 : decode cX2_livesBehind 0 = .ok (.aload_n 0, 1) := by decide +kernel
theorem dX2_livesBehind_1 : decode cX2_livesBehind 1 = .ok (.getfield 18, 3) := by decide +kernel
theorem dX2_livesBehind_4 : decode cX2_livesBehind 4 = .ok (.iload_n 2, 1) := by decide +kernel
theorem dX2_livesBehind_5 : decode cX2_livesBehind 5 = .ok (.iaload, 1) := by decide +kernel
theorem dX2_livesBehind_6 : decode cX2_livesBehind 6 = .ok (.iconst (-1), 1) := by decide +kernel
theorem dX2_livesBehind_7 : decode cX2_livesBehind 7 = .ok (.if_icmp .eq 13, 3) := by decide +kernel
theorem dX2_livesBehind_10 : decode cX2_livesBehind 10 = .ok (.aload_n 0, 1) := by decide +kernel
theorem dX2_livesBehind_11 : decode cX2_livesBehind 11 = .ok (.getfield 18, 3) := by decide +kernel
theorem dX2_livesBehind_14 : decode cX2_livesBehind 14 = .ok (.iload_n 2, 1) := by decide +kernel
theorem dX2_livesBehind_15 : decode cX2_livesBehind 15 = .ok (.iaload, 1) := by decide +kernel
theorem dX2_livesBehind_16 : decode cX2_livesBehind 16 = .ok (.iload_n 1, 1) := by decide +kernel
theorem dX2_livesBehind_17 : decode cX2_livesBehind 17 = .ok (.if_icmp .le 7, 3) := by decide +kernel
theorem dX2_livesBehind_20 : decode cX2_livesBehind 20 = .ok (.iconst 1, 1) := by decide +kernel
theorem dX2_livesBehind_21 : decode cX2_livesBehind 21 = .ok (.goto 4, 3) := by decide +kernel
theorem dX2_livesBehind_24 : decode cX2_livesBehind 24 = .ok (.iconst 0, 1) := by decide +kernel
theorem dX2_livesBehind_25 : decode cX2_livesBehind 25 = .ok (.ireturn, 1) := by decide +kernel
theorem dX2_behind_0 : decode cX2_behind 0 = .ok (.iload_n 1, 1) := by decide +kernel
theorem dX2_behind_1 : decode cX2_behind 1 = .ok (.ifCond .lt 19, 3) := by decide +kernel
theorem dX2_behind_4 : decode cX2_behind 4 = .ok (.iload_n 1, 1) := by decide +kernel
theorem dX2_behind_5 : decode cX2_behind 5 = .ok (.bipush 24, 2) := by decide +kernel
theorem dX2_behind_7 : decode cX2_behind 7 = .ok (.if_icmp .ge 13, 3) := by decide +kernel
theorem dX2_behind_10 : decode cX2_behind 10 = .ok (.iload_n 2, 1) := by decide +kernel
theorem dX2_behind_11 : decode cX2_behind 11 = .ok (.ifCond .lt 9, 3) := by decide +kernel
theorem dX2_behind_14 : decode cX2_behind 14 = .ok (.iload_n 2, 1) := by decide +kernel
theorem dX2_behind_15 : decode cX2_behind 15 = .ok (.bipush 41, 2) := by decide +kernel
theorem dX2_behind_17 : decode cX2_behind 17 = .ok (.if_icmp .lt 5, 3) := by decide +kernel
theorem dX2_behind_20 : decode cX2_behind 20 = .ok (.iconst (-1), 1) := by decide +kernel
theorem dX2_behind_21 : decode cX2_behind 21 = .ok (.ireturn, 1) := by decide +kernel
theorem dX2_behind_22 : decode cX2_behind 22 = .ok (.aload_n 0, 1) := by decide +kernel
theorem dX2_behind_23 : decode cX2_behind 23 = .ok (.getfield 15, 3) := by decide +kernel
theorem dX2_behind_26 : decode cX2_behind 26 = .ok (.iload_n 1, 1) := by decide +kernel
theorem dX2_behind_27 : decode cX2_behind 27 = .ok (.bipush 41, 2) := by decide +kernel
theorem dX2_behind_29 : decode cX2_behind 29 = .ok (.imul, 1) := by decide +kernel
theorem dX2_behind_30 : decode cX2_behind 30 = .ok (.iload_n 2, 1) := by decide +kernel
theorem dX2_behind_31 : decode cX2_behind 31 = .ok (.iadd, 1) := by decide +kernel
theorem dX2_behind_32 : decode cX2_behind 32 = .ok (.iaload, 1) := by decide +kernel
theorem dX2_behind_33 : decode cX2_behind 33 = .ok (.ireturn, 1) := by decide +kernel
theorem dX2_deathOf_0 : decode cX2_deathOf 0 = .ok (.iload_n 1, 1) := by decide +kernel
theorem dX2_deathOf_1 : decode cX2_deathOf 1 = .ok (.ifCond .lt 21, 3) := by decide +kernel
theorem dX2_deathOf_4 : decode cX2_deathOf 4 = .ok (.iload_n 1, 1) := by decide +kernel
theorem dX2_deathOf_5 : decode cX2_deathOf 5 = .ok (.aload_n 0, 1) := by decide +kernel
theorem dX2_deathOf_6 : decode cX2_deathOf 6 = .ok (.getfield 18, 3) := by decide +kernel
theorem dX2_deathOf_9 : decode cX2_deathOf 9 = .ok (.arraylength, 1) := by decide +kernel
theorem dX2_deathOf_10 : decode cX2_deathOf 10 = .ok (.if_icmp .ge 12, 3) := by decide +kernel
theorem dX2_deathOf_13 : decode cX2_deathOf 13 = .ok (.aload_n 0, 1) := by decide +kernel
theorem dX2_deathOf_14 : decode cX2_deathOf 14 = .ok (.getfield 18, 3) := by decide +kernel
theorem dX2_deathOf_17 : decode cX2_deathOf 17 = .ok (.iload_n 1, 1) := by decide +kernel
theorem dX2_deathOf_18 : decode cX2_deathOf 18 = .ok (.iaload, 1) := by decide +kernel
theorem dX2_deathOf_19 : decode cX2_deathOf 19 = .ok (.goto 4, 3) := by decide +kernel
theorem dX2_deathOf_22 : decode cX2_deathOf 22 = .ok (.iconst (-1), 1) := by decide +kernel
theorem dX2_deathOf_23 : decode cX2_deathOf 23 = .ok (.ireturn, 1) := by decide +kernel
theorem dX2_living_0 : decode cX2_living 0 = .ok (.iconst 0, 1) := by decide +kernel
theorem dX2_living_1 : decode cX2_living 1 = .ok (.istore_n 1, 1) := by decide +kernel
theorem dX2_living_2 : decode cX2_living 2 = .ok (.iconst 0, 1) := by decide +kernel
theorem dX2_living_3 : decode cX2_living 3 = .ok (.istore_n 2, 1) := by decide +kernel
theorem dX2_living_4 : decode cX2_living 4 = .ok (.iload_n 2, 1) := by decide +kernel
theorem dX2_living_5 : decode cX2_living 5 = .ok (.aload_n 0, 1) := by decide +kernel
theorem dX2_living_6 : decode cX2_living 6 = .ok (.getfield 28, 3) := by decide +kernel
theorem dX2_living_9 : decode cX2_living 9 = .ok (.getfield 81, 3) := by decide +kernel
theorem dX2_living_12 : decode cX2_living 12 = .ok (.getfield 84, 3) := by decide +kernel
theorem dX2_living_15 : decode cX2_living 15 = .ok (.if_icmp .ge 27, 3) := by decide +kernel
theorem dX2_living_18 : decode cX2_living 18 = .ok (.iload_n 1, 1) := by decide +kernel
theorem dX2_living_19 : decode cX2_living 19 = .ok (.aload_n 0, 1) := by decide +kernel
theorem dX2_living_20 : decode cX2_living 20 = .ok (.getfield 18, 3) := by decide +kernel
theorem dX2_living_23 : decode cX2_living 23 = .ok (.iload_n 2, 1) := by decide +kernel
theorem dX2_living_24 : decode cX2_living 24 = .ok (.iaload, 1) := by decide +kernel
theorem dX2_living_25 : decode cX2_living 25 = .ok (.iconst (-1), 1) := by decide +kernel
theorem dX2_living_26 : decode cX2_living 26 = .ok (.if_icmp .ne 7, 3) := by decide +kernel
theorem dX2_living_29 : decode cX2_living 29 = .ok (.iconst 1, 1) := by decide +kernel
theorem dX2_living_30 : decode cX2_living 30 = .ok (.goto 4, 3) := by decide +kernel
theorem dX2_living_33 : decode cX2_living 33 = .ok (.iconst 0, 1) := by decide +kernel
theorem dX2_living_34 : decode cX2_living 34 = .ok (.iadd, 1) := by decide +kernel
theorem dX2_living_35 : decode cX2_living 35 = .ok (.istore_n 1, 1) := by decide +kernel
theorem dX2_living_36 : decode cX2_living 36 = .ok (.iinc 2 1, 3) := by decide +kernel
theorem dX2_living_39 : decode cX2_living 39 = .ok (.goto (-35), 3) := by decide +kernel
theorem dX2_living_42 : decode cX2_living 42 = .ok (.iload_n 1, 1) := by decide +kernel
theorem dX2_living_43 : decode cX2_living 43 = .ok (.ireturn, 1) := by decide +kernel
theorem dX2_taxBehind_0 : decode cX2_taxBehind 0 = .ok (.iconst 0, 1) := by decide +kernel
theorem dX2_taxBehind_1 : decode cX2_taxBehind 1 = .ok (.istore_n 2, 1) := by decide +kernel
theorem dX2_taxBehind_2 : decode cX2_taxBehind 2 = .ok (.iconst 0, 1) := by decide +kernel
theorem dX2_taxBehind_3 : decode cX2_taxBehind 3 = .ok (.istore_n 3, 1) := by decide +kernel
theorem dX2_taxBehind_4 : decode cX2_taxBehind 4 = .ok (.iload_n 3, 1) := by decide +kernel
theorem dX2_taxBehind_5 : decode cX2_taxBehind 5 = .ok (.aload_n 0, 1) := by decide +kernel
theorem dX2_taxBehind_6 : decode cX2_taxBehind 6 = .ok (.getfield 28, 3) := by decide +kernel
theorem dX2_taxBehind_9 : decode cX2_taxBehind 9 = .ok (.getfield 81, 3) := by decide +kernel
theorem dX2_taxBehind_12 : decode cX2_taxBehind 12 = .ok (.getfield 84, 3) := by decide +kernel
theorem dX2_taxBehind_15 : decode cX2_taxBehind 15 = .ok (.if_icmp .ge 33, 3) := by decide +kernel
theorem dX2_taxBehind_18 : decode cX2_taxBehind 18 = .ok (.iload_n 2, 1) := by decide +kernel
theorem dX2_taxBehind_19 : decode cX2_taxBehind 19 = .ok (.aload_n 0, 1) := by decide +kernel
theorem dX2_taxBehind_20 : decode cX2_taxBehind 20 = .ok (.iload_n 1, 1) := by decide +kernel
theorem dX2_taxBehind_21 : decode cX2_taxBehind 21 = .ok (.iload_n 3, 1) := by decide +kernel
theorem dX2_taxBehind_22 : decode cX2_taxBehind 22 = .ok (.invokevirtual 124, 3) := by decide +kernel
theorem dX2_taxBehind_25 : decode cX2_taxBehind 25 = .ok (.ifCond .eq 14, 3) := by decide +kernel
theorem dX2_taxBehind_28 : decode cX2_taxBehind 28 = .ok (.aload_n 0, 1) := by decide +kernel
theorem dX2_taxBehind_29 : decode cX2_taxBehind 29 = .ok (.iload_n 1, 1) := by decide +kernel
theorem dX2_taxBehind_30 : decode cX2_taxBehind 30 = .ok (.iconst 0, 1) := by decide +kernel
theorem dX2_taxBehind_31 : decode cX2_taxBehind 31 = .ok (.iload_n 3, 1) := by decide +kernel
theorem dX2_taxBehind_32 : decode cX2_taxBehind 32 = .ok (.iadd, 1) := by decide +kernel
theorem dX2_taxBehind_33 : decode cX2_taxBehind 33 = .ok (.invokevirtual 128, 3) := by decide +kernel
theorem dX2_taxBehind_36 : decode cX2_taxBehind 36 = .ok (.goto 4, 3) := by decide +kernel
theorem dX2_taxBehind_39 : decode cX2_taxBehind 39 = .ok (.iconst 0, 1) := by decide +kernel
theorem dX2_taxBehind_40 : decode cX2_taxBehind 40 = .ok (.iadd, 1) := by decide +kernel
theorem dX2_taxBehind_41 : decode cX2_taxBehind 41 = .ok (.istore_n 2, 1) := by decide +kernel
theorem dX2_taxBehind_42 : decode cX2_taxBehind 42 = .ok (.iinc 3 1, 3) := by decide +kernel
theorem dX2_taxBehind_45 : decode cX2_taxBehind 45 = .ok (.goto (-41), 3) := by decide +kernel
theorem dX2_taxBehind_48 : decode cX2_taxBehind 48 = .ok (.iload_n 2, 1) := by decide +kernel
theorem dX2_taxBehind_49 : decode cX2_taxBehind 49 = .ok (.ireturn, 1) := by decide +kernel
theorem dX2_heaviestBehind_0 : decode cX2_heaviestBehind 0 = .ok (.iconst (-1), 1) := by decide +kernel
theorem dX2_heaviestBehind_1 : decode cX2_heaviestBehind 1 = .ok (.istore_n 2, 1) := by decide +kernel
theorem dX2_heaviestBehind_2 : decode cX2_heaviestBehind 2 = .ok (.iconst (-1), 1) := by decide +kernel
theorem dX2_heaviestBehind_3 : decode cX2_heaviestBehind 3 = .ok (.istore_n 3, 1) := by decide +kernel
theorem dX2_heaviestBehind_4 : decode cX2_heaviestBehind 4 = .ok (.iconst 0, 1) := by decide +kernel
theorem dX2_heaviestBehind_5 : decode cX2_heaviestBehind 5 = .ok (.istore 4, 2) := by decide +kernel
theorem dX2_heaviestBehind_7 : decode cX2_heaviestBehind 7 = .ok (.iload 4, 2) := by decide +kernel
theorem dX2_heaviestBehind_9 : decode cX2_heaviestBehind 9 = .ok (.aload_n 0, 1) := by decide +kernel
theorem dX2_heaviestBehind_10 : decode cX2_heaviestBehind 10 = .ok (.getfield 28, 3) := by decide +kernel
theorem dX2_heaviestBehind_13 : decode cX2_heaviestBehind 13 = .ok (.getfield 81, 3) := by decide +kernel
theorem dX2_heaviestBehind_16 : decode cX2_heaviestBehind 16 = .ok (.getfield 84, 3) := by decide +kernel
theorem dX2_heaviestBehind_19 : decode cX2_heaviestBehind 19 = .ok (.if_icmp .ge 45, 3) := by decide +kernel
theorem dX2_heaviestBehind_22 : decode cX2_heaviestBehind 22 = .ok (.aload_n 0, 1) := by decide +kernel
theorem dX2_heaviestBehind_23 : decode cX2_heaviestBehind 23 = .ok (.iload_n 1, 1) := by decide +kernel
theorem dX2_heaviestBehind_24 : decode cX2_heaviestBehind 24 = .ok (.iload 4, 2) := by decide +kernel
theorem dX2_heaviestBehind_26 : decode cX2_heaviestBehind 26 = .ok (.invokevirtual 124, 3) := by decide +kernel
theorem dX2_heaviestBehind_29 : decode cX2_heaviestBehind 29 = .ok (.ifCond .eq 29, 3) := by decide +kernel
theorem dX2_heaviestBehind_32 : decode cX2_heaviestBehind 32 = .ok (.aload_n 0, 1) := by decide +kernel
theorem dX2_heaviestBehind_33 : decode cX2_heaviestBehind 33 = .ok (.iload_n 1, 1) := by decide +kernel
theorem dX2_heaviestBehind_34 : decode cX2_heaviestBehind 34 = .ok (.iconst 0, 1) := by decide +kernel
theorem dX2_heaviestBehind_35 : decode cX2_heaviestBehind 35 = .ok (.iload 4, 2) := by decide +kernel
theorem dX2_heaviestBehind_37 : decode cX2_heaviestBehind 37 = .ok (.iadd, 1) := by decide +kernel
theorem dX2_heaviestBehind_38 : decode cX2_heaviestBehind 38 = .ok (.invokevirtual 128, 3) := by decide +kernel
theorem dX2_heaviestBehind_41 : decode cX2_heaviestBehind 41 = .ok (.iload_n 3, 1) := by decide +kernel
theorem dX2_heaviestBehind_42 : decode cX2_heaviestBehind 42 = .ok (.if_icmp .le 16, 3) := by decide +kernel
theorem dX2_heaviestBehind_45 : decode cX2_heaviestBehind 45 = .ok (.iload 4, 2) := by decide +kernel
theorem dX2_heaviestBehind_47 : decode cX2_heaviestBehind 47 = .ok (.istore_n 2, 1) := by decide +kernel
theorem dX2_heaviestBehind_48 : decode cX2_heaviestBehind 48 = .ok (.aload_n 0, 1) := by decide +kernel
theorem dX2_heaviestBehind_49 : decode cX2_heaviestBehind 49 = .ok (.iload_n 1, 1) := by decide +kernel
theorem dX2_heaviestBehind_50 : decode cX2_heaviestBehind 50 = .ok (.iconst 0, 1) := by decide +kernel
theorem dX2_heaviestBehind_51 : decode cX2_heaviestBehind 51 = .ok (.iload 4, 2) := by decide +kernel
theorem dX2_heaviestBehind_53 : decode cX2_heaviestBehind 53 = .ok (.iadd, 1) := by decide +kernel
theorem dX2_heaviestBehind_54 : decode cX2_heaviestBehind 54 = .ok (.invokevirtual 128, 3) := by decide +kernel
theorem dX2_heaviestBehind_57 : decode cX2_heaviestBehind 57 = .ok (.istore_n 3, 1) := by decide +kernel
theorem dX2_heaviestBehind_58 : decode cX2_heaviestBehind 58 = .ok (.iinc 4 1, 3) := by decide +kernel
theorem dX2_heaviestBehind_61 : decode cX2_heaviestBehind 61 = .ok (.goto (-54), 3) := by decide +kernel
theorem dX2_heaviestBehind_64 : decode cX2_heaviestBehind 64 = .ok (.iload_n 2, 1) := by decide +kernel
theorem dX2_heaviestBehind_65 : decode cX2_heaviestBehind 65 = .ok (.ireturn, 1) := by decide +kernel
theorem dX2_worthInAll_0 : decode cX2_worthInAll 0 = .ok (.iconst 0, 1) := by decide +kernel
theorem dX2_worthInAll_1 : decode cX2_worthInAll 1 = .ok (.istore_n 1, 1) := by decide +kernel
theorem dX2_worthInAll_2 : decode cX2_worthInAll 2 = .ok (.iconst 0, 1) := by decide +kernel
theorem dX2_worthInAll_3 : decode cX2_worthInAll 3 = .ok (.istore_n 2, 1) := by decide +kernel
theorem dX2_worthInAll_4 : decode cX2_worthInAll 4 = .ok (.iload_n 2, 1) := by decide +kernel
theorem dX2_worthInAll_5 : decode cX2_worthInAll 5 = .ok (.iconst 4, 1) := by decide +kernel
theorem dX2_worthInAll_6 : decode cX2_worthInAll 6 = .ok (.if_icmp .ge 22, 3) := by decide +kernel
theorem dX2_worthInAll_9 : decode cX2_worthInAll 9 = .ok (.iload_n 1, 1) := by decide +kernel
theorem dX2_worthInAll_10 : decode cX2_worthInAll 10 = .ok (.aload_n 0, 1) := by decide +kernel
theorem dX2_worthInAll_11 : decode cX2_worthInAll 11 = .ok (.bipush 23, 2) := by decide +kernel
theorem dX2_worthInAll_13 : decode cX2_worthInAll 13 = .ok (.bipush 28, 2) := by decide +kernel
theorem dX2_worthInAll_15 : decode cX2_worthInAll 15 = .ok (.iload_n 2, 1) := by decide +kernel
theorem dX2_worthInAll_16 : decode cX2_worthInAll 16 = .ok (.iadd, 1) := by decide +kernel
theorem dX2_worthInAll_17 : decode cX2_worthInAll 17 = .ok (.invokevirtual 128, 3) := by decide +kernel
theorem dX2_worthInAll_20 : decode cX2_worthInAll 20 = .ok (.iadd, 1) := by decide +kernel
theorem dX2_worthInAll_21 : decode cX2_worthInAll 21 = .ok (.istore_n 1, 1) := by decide +kernel
theorem dX2_worthInAll_22 : decode cX2_worthInAll 22 = .ok (.iinc 2 1, 3) := by decide +kernel
theorem dX2_worthInAll_25 : decode cX2_worthInAll 25 = .ok (.goto (-21), 3) := by decide +kernel
theorem dX2_worthInAll_28 : decode cX2_worthInAll 28 = .ok (.iload_n 1, 1) := by decide +kernel
theorem dX2_worthInAll_29 : decode cX2_worthInAll 29 = .ok (.ireturn, 1) := by decide +kernel
theorem dX3_init_0 : decode cX3_init 0 = .ok (.aload_n 0, 1) := by decide +kernel
theorem dX3_init_1 : decode cX3_init 1 = .ok (.invokespecial 1, 3) := by decide +kernel
theorem dX3_init_4 : decode cX3_init 4 = .ok (.aload_n 0, 1) := by decide +kernel
theorem dX3_init_5 : decode cX3_init 5 = .ok (.new 7, 3) := by decide +kernel
theorem dX3_init_8 : decode cX3_init 8 = .ok (.dup, 1) := by decide +kernel
theorem dX3_init_9 : decode cX3_init 9 = .ok (.invokespecial 9, 3) := by decide +kernel
theorem dX3_init_12 : decode cX3_init 12 = .ok (.putfield 10, 3) := by decide +kernel
theorem dX3_init_15 : decode cX3_init 15 = .ok (.aload_n 0, 1) := by decide +kernel
theorem dX3_init_16 : decode cX3_init 16 = .ok (.new 16, 3) := by decide +kernel
theorem dX3_init_19 : decode cX3_init 19 = .ok (.dup, 1) := by decide +kernel
theorem dX3_init_20 : decode cX3_init 20 = .ok (.aload_n 0, 1) := by decide +kernel
theorem dX3_init_21 : decode cX3_init 21 = .ok (.getfield 10, 3) := by decide +kernel
theorem dX3_init_24 : decode cX3_init 24 = .ok (.invokespecial 18, 3) := by decide +kernel
theorem dX3_init_27 : decode cX3_init 27 = .ok (.putfield 21, 3) := by decide +kernel
theorem dX3_init_30 : decode cX3_init 30 = .ok (.aload_n 0, 1) := by decide +kernel
theorem dX3_init_31 : decode cX3_init 31 = .ok (.aload_n 1, 1) := by decide +kernel
theorem dX3_init_32 : decode cX3_init 32 = .ok (.putfield 25, 3) := by decide +kernel
theorem dX3_init_35 : decode cX3_init 35 = .ok (.return_, 1) := by decide +kernel
theorem dX3_afresh_0 : decode cX3_afresh 0 = .ok (.aload_n 0, 1) := by decide +kernel
theorem dX3_afresh_1 : decode cX3_afresh 1 = .ok (.getfield 10, 3) := by decide +kernel
theorem dX3_afresh_4 : decode cX3_afresh 4 = .ok (.aload_n 0, 1) := by decide +kernel
theorem dX3_afresh_5 : decode cX3_afresh 5 = .ok (.getfield 25, 3) := by decide +kernel
theorem dX3_afresh_8 : decode cX3_afresh 8 = .ok (.invokevirtual 28, 3) := by decide +kernel
theorem dX3_afresh_11 : decode cX3_afresh 11 = .ok (.return_, 1) := by decide +kernel
theorem dX4_init_0 : decode cX4_init 0 = .ok (.aload_n 0, 1) := by decide +kernel
theorem dX4_init_1 : decode cX4_init 1 = .ok (.invokespecial 3, 3) := by decide +kernel
theorem dX4_init_4 : decode cX4_init 4 = .ok (.aload_n 0, 1) := by decide +kernel
theorem dX4_init_5 : decode cX4_init 5 = .ok (.new 9, 3) := by decide +kernel
theorem dX4_init_8 : decode cX4_init 8 = .ok (.dup, 1) := by decide +kernel
theorem dX4_init_9 : decode cX4_init 9 = .ok (.invokespecial 11, 3) := by decide +kernel
theorem dX4_init_12 : decode cX4_init 12 = .ok (.putfield 12, 3) := by decide +kernel
theorem dX4_init_15 : decode cX4_init 15 = .ok (.aload_n 0, 1) := by decide +kernel
theorem dX4_init_16 : decode cX4_init 16 = .ok (.sipush 448, 3) := by decide +kernel
theorem dX4_init_19 : decode cX4_init 19 = .ok (.newarray .int, 2) := by decide +kernel
theorem dX4_init_21 : decode cX4_init 21 = .ok (.putfield 18, 3) := by decide +kernel
theorem dX4_init_24 : decode cX4_init 24 = .ok (.aload_n 0, 1) := by decide +kernel
theorem dX4_init_25 : decode cX4_init 25 = .ok (.iconst 0, 1) := by decide +kernel
theorem dX4_init_26 : decode cX4_init 26 = .ok (.putfield 22, 3) := by decide +kernel
theorem dX4_init_29 : decode cX4_init 29 = .ok (.aload_n 0, 1) := by decide +kernel
theorem dX4_init_30 : decode cX4_init 30 = .ok (.iconst (-1), 1) := by decide +kernel
theorem dX4_init_31 : decode cX4_init 31 = .ok (.putfield 26, 3) := by decide +kernel
theorem dX4_init_34 : decode cX4_init 34 = .ok (.aload_n 0, 1) := by decide +kernel
theorem dX4_init_35 : decode cX4_init 35 = .ok (.iconst (-1), 1) := by decide +kernel
theorem dX4_init_36 : decode cX4_init 36 = .ok (.putfield 29, 3) := by decide +kernel
theorem dX4_init_39 : decode cX4_init 39 = .ok (.aload_n 0, 1) := by decide +kernel
theorem dX4_init_40 : decode cX4_init 40 = .ok (.iconst (-1), 1) := by decide +kernel
theorem dX4_init_41 : decode cX4_init 41 = .ok (.putfield 32, 3) := by decide +kernel
theorem dX4_init_44 : decode cX4_init 44 = .ok (.aload_n 0, 1) := by decide +kernel
theorem dX4_init_45 : decode cX4_init 45 = .ok (.iconst (-1), 1) := by decide +kernel
theorem dX4_init_46 : decode cX4_init 46 = .ok (.putfield 35, 3) := by decide +kernel
theorem dX4_init_49 : decode cX4_init 49 = .ok (.aload_n 0, 1) := by decide +kernel
theorem dX4_init_50 : decode cX4_init 50 = .ok (.iconst (-1), 1) := by decide +kernel
theorem dX4_init_51 : decode cX4_init 51 = .ok (.putfield 38, 3) := by decide +kernel
theorem dX4_init_54 : decode cX4_init 54 = .ok (.aload_n 0, 1) := by decide +kernel
theorem dX4_init_55 : decode cX4_init 55 = .ok (.iconst (-1), 1) := by decide +kernel
theorem dX4_init_56 : decode cX4_init 56 = .ok (.putfield 41, 3) := by decide +kernel
theorem dX4_init_59 : decode cX4_init 59 = .ok (.aload_n 0, 1) := by decide +kernel
theorem dX4_init_60 : decode cX4_init 60 = .ok (.iconst (-1), 1) := by decide +kernel
theorem dX4_init_61 : decode cX4_init 61 = .ok (.putfield 44, 3) := by decide +kernel
theorem dX4_init_64 : decode cX4_init 64 = .ok (.aload_n 0, 1) := by decide +kernel
theorem dX4_init_65 : decode cX4_init 65 = .ok (.aload_n 1, 1) := by decide +kernel
theorem dX4_init_66 : decode cX4_init 66 = .ok (.putfield 47, 3) := by decide +kernel
theorem dX4_init_69 : decode cX4_init 69 = .ok (.return_, 1) := by decide +kernel
theorem dX4_unsettle_0 : decode cX4_unsettle 0 = .ok (.aload_n 0, 1) := by decide +kernel
theorem dX4_unsettle_1 : decode cX4_unsettle 1 = .ok (.iconst 0, 1) := by decide +kernel
theorem dX4_unsettle_2 : decode cX4_unsettle 2 = .ok (.putfield 22, 3) := by decide +kernel
theorem dX4_unsettle_5 : decode cX4_unsettle 5 = .ok (.aload_n 0, 1) := by decide +kernel
theorem dX4_unsettle_6 : decode cX4_unsettle 6 = .ok (.iconst (-1), 1) := by decide +kernel
theorem dX4_unsettle_7 : decode cX4_unsettle 7 = .ok (.putfield 26, 3) := by decide +kernel
theorem dX4_unsettle_10 : decode cX4_unsettle 10 = .ok (.aload_n 0, 1) := by decide +kernel
theorem dX4_unsettle_11 : decode cX4_unsettle 11 = .ok (.iconst (-1), 1) := by decide +kernel
theorem dX4_unsettle_12 : decode cX4_unsettle 12 = .ok (.putfield 38, 3) := by decide +kernel
theorem dX4_unsettle_15 : decode cX4_unsettle 15 = .ok (.return_, 1) := by decide +kernel
theorem dX4_findRound_0 : decode cX4_findRound 0 = .ok (.aload_n 0, 1) := by decide +kernel
theorem dX4_findRound_1 : decode cX4_findRound 1 = .ok (.getfield 26, 3) := by decide +kernel
theorem dX4_findRound_4 : decode cX4_findRound 4 = .ok (.iload_n 1, 1) := by decide +kernel
theorem dX4_findRound_5 : decode cX4_findRound 5 = .ok (.if_icmp .ne 4, 3) := by decide +kernel
theorem dX4_findRound_8 : decode cX4_findRound 8 = .ok (.return_, 1) := by decide +kernel
theorem dX4_findRound_9 : decode cX4_findRound 9 = .ok (.aload_n 0, 1) := by decide +kernel
theorem dX4_findRound_10 : decode cX4_findRound 10 = .ok (.iload_n 1, 1) := by decide +kernel
theorem dX4_findRound_11 : decode cX4_findRound 11 = .ok (.putfield 26, 3) := by decide +kernel
theorem dX4_findRound_14 : decode cX4_findRound 14 = .ok (.aload_n 0, 1) := by decide +kernel
theorem dX4_findRound_15 : decode cX4_findRound 15 = .ok (.iconst (-1), 1) := by decide +kernel
theorem dX4_findRound_16 : decode cX4_findRound 16 = .ok (.putfield 35, 3) := by decide +kernel
theorem dX4_findRound_19 : decode cX4_findRound 19 = .ok (.iconst 0, 1) := by decide +kernel
theorem dX4_findRound_20 : decode cX4_findRound 20 = .ok (.istore_n 2, 1) := by decide +kernel
theorem dX4_findRound_21 : decode cX4_findRound 21 = .ok (.iload_n 2, 1) := by decide +kernel
theorem dX4_findRound_22 : decode cX4_findRound 22 = .ok (.bipush 24, 2) := by decide +kernel
theorem dX4_findRound_24 : decode cX4_findRound 24 = .ok (.if_icmp .ge 95, 3) := by decide +kernel
theorem dX4_findRound_27 : decode cX4_findRound 27 = .ok (.iconst 0, 1) := by decide +kernel
theorem dX4_findRound_28 : decode cX4_findRound 28 = .ok (.istore_n 3, 1) := by decide +kernel
theorem dX4_findRound_29 : decode cX4_findRound 29 = .ok (.iload_n 3, 1) := by decide +kernel
theorem dX4_findRound_30 : decode cX4_findRound 30 = .ok (.iconst 4, 1) := by decide +kernel
theorem dX4_findRound_31 : decode cX4_findRound 31 = .ok (.if_icmp .ge 82, 3) := by decide +kernel
theorem dX4_findRound_34 : decode cX4_findRound 34 = .ok (.aload_n 0, 1) := by decide +kernel
theorem dX4_findRound_35 : decode cX4_findRound 35 = .ok (.getfield 47, 3) := by decide +kernel
theorem dX4_findRound_38 : decode cX4_findRound 38 = .ok (.invokevirtual 51, 3) := by decide +kernel
theorem dX4_findRound_41 : decode cX4_findRound 41 = .ok (.aload_n 0, 1) := by decide +kernel
theorem dX4_findRound_42 : decode cX4_findRound 42 = .ok (.getfield 47, 3) := by decide +kernel
theorem dX4_findRound_45 : decode cX4_findRound 45 = .ok (.getfield 56, 3) := by decide +kernel
theorem dX4_findRound_48 : decode cX4_findRound 48 = .ok (.getfield 60, 3) := by decide +kernel
theorem dX4_findRound_51 : decode cX4_findRound 51 = .ok (.iload_n 2, 1) := by decide +kernel
theorem dX4_findRound_52 : decode cX4_findRound 52 = .ok (.iload_n 3, 1) := by decide +kernel
theorem dX4_findRound_53 : decode cX4_findRound 53 = .ok (.iload_n 1, 1) := by decide +kernel
theorem dX4_findRound_54 : decode cX4_findRound 54 = .ok (.invokevirtual 66, 3) := by decide +kernel
theorem dX4_findRound_57 : decode cX4_findRound 57 = .ok (.pop, 1) := by decide +kernel
theorem dX4_findRound_58 : decode cX4_findRound 58 = .ok (.aload_n 0, 1) := by decide +kernel
theorem dX4_findRound_59 : decode cX4_findRound 59 = .ok (.getfield 47, 3) := by decide +kernel
theorem dX4_findRound_62 : decode cX4_findRound 62 = .ok (.getfield 72, 3) := by decide +kernel
theorem dX4_findRound_65 : decode cX4_findRound 65 = .ok (.bipush 23, 2) := by decide +kernel
theorem dX4_findRound_67 : decode cX4_findRound 67 = .ok (.invokevirtual 76, 3) := by decide +kernel
theorem dX4_findRound_70 : decode cX4_findRound 70 = .ok (.aload_n 0, 1) := by decide +kernel
theorem dX4_findRound_71 : decode cX4_findRound 71 = .ok (.getfield 47, 3) := by decide +kernel
theorem dX4_findRound_74 : decode cX4_findRound 74 = .ok (.getfield 72, 3) := by decide +kernel
theorem dX4_findRound_77 : decode cX4_findRound 77 = .ok (.invokevirtual 82, 3) := by decide +kernel
theorem dX4_findRound_80 : decode cX4_findRound 80 = .ok (.istore 4, 2) := by decide +kernel
theorem dX4_findRound_82 : decode cX4_findRound 82 = .ok (.iload 4, 2) := by decide +kernel
theorem dX4_findRound_84 : decode cX4_findRound 84 = .ok (.aload_n 0, 1) := by decide +kernel
theorem dX4_findRound_85 : decode cX4_findRound 85 = .ok (.getfield 35, 3) := by decide +kernel
theorem dX4_findRound_88 : decode cX4_findRound 88 = .ok (.if_icmp .le 19, 3) := by decide +kernel
theorem dX4_findRound_91 : decode cX4_findRound 91 = .ok (.aload_n 0, 1) := by decide +kernel
theorem dX4_findRound_92 : decode cX4_findRound 92 = .ok (.iload 4, 2) := by decide +kernel
theorem dX4_findRound_94 : decode cX4_findRound 94 = .ok (.putfield 35, 3) := by decide +kernel
theorem dX4_findRound_97 : decode cX4_findRound 97 = .ok (.aload_n 0, 1) := by decide +kernel
theorem dX4_findRound_98 : decode cX4_findRound 98 = .ok (.iload_n 2, 1) := by decide +kernel
theorem dX4_findRound_99 : decode cX4_findRound 99 = .ok (.putfield 29, 3) := by decide +kernel
theorem dX4_findRound_102 : decode cX4_findRound 102 = .ok (.aload_n 0, 1) := by decide +kernel
theorem dX4_findRound_103 : decode cX4_findRound 103 = .ok (.iload_n 3, 1) := by decide +kernel
theorem dX4_findRound_104 : decode cX4_findRound 104 = .ok (.putfield 32, 3) := by decide +kernel
theorem dX4_findRound_107 : decode cX4_findRound 107 = .ok (.iinc 3 1, 3) := by decide +kernel
theorem dX4_findRound_110 : decode cX4_findRound 110 = .ok (.goto (-81), 3) := by decide +kernel
theorem dX4_findRound_113 : decode cX4_findRound 113 = .ok (.iinc 2 1, 3) := by decide +kernel
theorem dX4_findRound_116 : decode cX4_findRound 116 = .ok (.goto (-95), 3) := by decide +kernel
theorem dX4_findRound_119 : decode cX4_findRound 119 = .ok (.return_, 1) := by decide +kernel
theorem dX4_fewestDeeds_0 : decode cX4_fewestDeeds 0 = .ok (.aload_n 0, 1) := by decide +kernel
theorem dX4_fewestDeeds_1 : decode cX4_fewestDeeds 1 = .ok (.getfield 12, 3) := by decide +kernel
theorem dX4_fewestDeeds_4 : decode cX4_fewestDeeds 4 = .ok (.invokevirtual 86, 3) := by decide +kernel
theorem dX4_fewestDeeds_7 : decode cX4_fewestDeeds 7 = .ok (.iconst 0, 1) := by decide +kernel
theorem dX4_fewestDeeds_8 : decode cX4_fewestDeeds 8 = .ok (.istore 4, 2) := by decide +kernel
theorem dX4_fewestDeeds_10 : decode cX4_fewestDeeds 10 = .ok (.iload 4, 2) := by decide +kernel
theorem dX4_fewestDeeds_12 : decode cX4_fewestDeeds 12 = .ok (.bipush 56, 2) := by decide +kernel
theorem dX4_fewestDeeds_14 : decode cX4_fewestDeeds 14 = .ok (.if_icmp .ge 110, 3) := by decide +kernel
theorem dX4_fewestDeeds_17 : decode cX4_fewestDeeds 17 = .ok (.iload 4, 2) := by decide +kernel
theorem dX4_fewestDeeds_19 : decode cX4_fewestDeeds 19 = .ok (.aload_n 0, 1) := by decide +kernel
theorem dX4_fewestDeeds_20 : decode cX4_fewestDeeds 20 = .ok (.getfield 22, 3) := by decide +kernel
theorem dX4_fewestDeeds_23 : decode cX4_fewestDeeds 23 = .ok (.if_icmp .lt 45, 3) := by decide +kernel
theorem dX4_fewestDeeds_26 : decode cX4_fewestDeeds 26 = .ok (.aload_n 0, 1) := by decide +kernel
theorem dX4_fewestDeeds_27 : decode cX4_fewestDeeds 27 = .ok (.getfield 47, 3) := by decide +kernel
theorem dX4_fewestDeeds_30 : decode cX4_fewestDeeds 30 = .ok (.invokevirtual 51, 3) := by decide +kernel
theorem dX4_fewestDeeds_33 : decode cX4_fewestDeeds 33 = .ok (.aload_n 0, 1) := by decide +kernel
theorem dX4_fewestDeeds_34 : decode cX4_fewestDeeds 34 = .ok (.getfield 12, 3) := by decide +kernel
theorem dX4_fewestDeeds_37 : decode cX4_fewestDeeds 37 = .ok (.aload_n 0, 1) := by decide +kernel
theorem dX4_fewestDeeds_38 : decode cX4_fewestDeeds 38 = .ok (.getfield 47, 3) := by decide +kernel
theorem dX4_fewestDeeds_41 : decode cX4_fewestDeeds 41 = .ok (.getfield 56, 3) := by decide +kernel
theorem dX4_fewestDeeds_44 : decode cX4_fewestDeeds 44 = .ok (.getfield 89, 3) := by decide +kernel
theorem dX4_fewestDeeds_47 : decode cX4_fewestDeeds 47 = .ok (.invokevirtual 92, 3) := by decide +kernel
theorem dX4_fewestDeeds_50 : decode cX4_fewestDeeds 50 = .ok (.aload_n 0, 1) := by decide +kernel
theorem dX4_fewestDeeds_51 : decode cX4_fewestDeeds 51 = .ok (.getfield 47, 3) := by decide +kernel
theorem dX4_fewestDeeds_54 : decode cX4_fewestDeeds 54 = .ok (.getfield 72, 3) := by decide +kernel
theorem dX4_fewestDeeds_57 : decode cX4_fewestDeeds 57 = .ok (.bipush 23, 2) := by decide +kernel
theorem dX4_fewestDeeds_59 : decode cX4_fewestDeeds 59 = .ok (.invokevirtual 76, 3) := by decide +kernel
theorem dX4_fewestDeeds_62 : decode cX4_fewestDeeds 62 = .ok (.aload_n 0, 1) := by decide +kernel
theorem dX4_fewestDeeds_63 : decode cX4_fewestDeeds 63 = .ok (.iload 4, 2) := by decide +kernel
theorem dX4_fewestDeeds_65 : decode cX4_fewestDeeds 65 = .ok (.invokevirtual 96, 3) := by decide +kernel
theorem dX4_fewestDeeds_68 : decode cX4_fewestDeeds 68 = .ok (.aload_n 0, 1) := by decide +kernel
theorem dX4_fewestDeeds_69 : decode cX4_fewestDeeds 69 = .ok (.getfield 18, 3) := by decide +kernel
theorem dX4_fewestDeeds_72 : decode cX4_fewestDeeds 72 = .ok (.iload 4, 2) := by decide +kernel
theorem dX4_fewestDeeds_74 : decode cX4_fewestDeeds 74 = .ok (.bipush 8, 2) := by decide +kernel
theorem dX4_fewestDeeds_76 : decode cX4_fewestDeeds 76 = .ok (.imul, 1) := by decide +kernel
theorem dX4_fewestDeeds_77 : decode cX4_fewestDeeds 77 = .ok (.iload_n 1, 1) := by decide +kernel
theorem dX4_fewestDeeds_78 : decode cX4_fewestDeeds 78 = .ok (.iadd, 1) := by decide +kernel
theorem dX4_fewestDeeds_79 : decode cX4_fewestDeeds 79 = .ok (.iaload, 1) := by decide +kernel
theorem dX4_fewestDeeds_80 : decode cX4_fewestDeeds 80 = .ok (.iload_n 2, 1) := by decide +kernel
theorem dX4_fewestDeeds_81 : decode cX4_fewestDeeds 81 = .ok (.if_icmp .gt 12, 3) := by decide +kernel
theorem dX4_fewestDeeds_84 : decode cX4_fewestDeeds 84 = .ok (.aload_n 0, 1) := by decide +kernel
theorem dX4_fewestDeeds_85 : decode cX4_fewestDeeds 85 = .ok (.getfield 12, 3) := by decide +kernel
theorem dX4_fewestDeeds_88 : decode cX4_fewestDeeds 88 = .ok (.iload_n 3, 1) := by decide +kernel
theorem dX4_fewestDeeds_89 : decode cX4_fewestDeeds 89 = .ok (.invokevirtual 99, 3) := by decide +kernel
theorem dX4_fewestDeeds_92 : decode cX4_fewestDeeds 92 = .ok (.ireturn, 1) := by decide +kernel
theorem dX4_fewestDeeds_93 : decode cX4_fewestDeeds 93 = .ok (.aload_n 0, 1) := by decide +kernel
theorem dX4_fewestDeeds_94 : decode cX4_fewestDeeds 94 = .ok (.getfield 12, 3) := by decide +kernel
theorem dX4_fewestDeeds_97 : decode cX4_fewestDeeds 97 = .ok (.aload_n 0, 1) := by decide +kernel
theorem dX4_fewestDeeds_98 : decode cX4_fewestDeeds 98 = .ok (.getfield 47, 3) := by decide +kernel
theorem dX4_fewestDeeds_101 : decode cX4_fewestDeeds 101 = .ok (.getfield 103, 3) := by decide +kernel
theorem dX4_fewestDeeds_104 : decode cX4_fewestDeeds 104 = .ok (.getfield 89, 3) := by decide +kernel
theorem dX4_fewestDeeds_107 : decode cX4_fewestDeeds 107 = .ok (.getfield 106, 3) := by decide +kernel
theorem dX4_fewestDeeds_110 : decode cX4_fewestDeeds 110 = .ok (.invokevirtual 109, 3) := by decide +kernel
theorem dX4_fewestDeeds_113 : decode cX4_fewestDeeds 113 = .ok (.ifCond .ne 5, 3) := by decide +kernel
theorem dX4_fewestDeeds_116 : decode cX4_fewestDeeds 116 = .ok (.iconst (-1), 1) := by decide +kernel
theorem dX4_fewestDeeds_117 : decode cX4_fewestDeeds 117 = .ok (.ireturn, 1) := by decide +kernel
theorem dX4_fewestDeeds_118 : decode cX4_fewestDeeds 118 = .ok (.iinc 4 1, 3) := by decide +kernel
theorem dX4_fewestDeeds_121 : decode cX4_fewestDeeds 121 = .ok (.goto (-111), 3) := by decide +kernel
theorem dX4_fewestDeeds_124 : decode cX4_fewestDeeds 124 = .ok (.iconst (-1), 1) := by decide +kernel
theorem dX4_fewestDeeds_125 : decode cX4_fewestDeeds 125 = .ok (.ireturn, 1) := by decide +kernel
theorem dX4_measure_0 : decode cX4_measure 0 = .ok (.iconst 0, 1) := by decide +kernel
theorem dX4_measure_1 : decode cX4_measure 1 = .ok (.istore_n 2, 1) := by decide +kernel
theorem dX4_measure_2 : decode cX4_measure 2 = .ok (.iload_n 2, 1) := by decide +kernel
theorem dX4_measure_3 : decode cX4_measure 3 = .ok (.aload_n 0, 1) := by decide +kernel
theorem dX4_measure_4 : decode cX4_measure 4 = .ok (.getfield 47, 3) := by decide +kernel
theorem dX4_measure_7 : decode cX4_measure 7 = .ok (.getfield 103, 3) := by decide +kernel
theorem dX4_measure_10 : decode cX4_measure 10 = .ok (.getfield 113, 3) := by decide +kernel
theorem dX4_measure_13 : decode cX4_measure 13 = .ok (.getfield 106, 3) := by decide +kernel
theorem dX4_measure_16 : decode cX4_measure 16 = .ok (.if_icmp .ge 59, 3) := by decide +kernel
theorem dX4_measure_19 : decode cX4_measure 19 = .ok (.iconst 0, 1) := by decide +kernel
theorem dX4_measure_20 : decode cX4_measure 20 = .ok (.istore_n 3, 1) := by decide +kernel
theorem dX4_measure_21 : decode cX4_measure 21 = .ok (.iconst 0, 1) := by decide +kernel
theorem dX4_measure_22 : decode cX4_measure 22 = .ok (.istore 4, 2) := by decide +kernel
theorem dX4_measure_24 : decode cX4_measure 24 = .ok (.iload 4, 2) := by decide +kernel
theorem dX4_measure_26 : decode cX4_measure 26 = .ok (.bipush 24, 2) := by decide +kernel
theorem dX4_measure_28 : decode cX4_measure 28 = .ok (.if_icmp .ge 29, 3) := by decide +kernel
theorem dX4_measure_31 : decode cX4_measure 31 = .ok (.iload_n 3, 1) := by decide +kernel
theorem dX4_measure_32 : decode cX4_measure 32 = .ok (.aload_n 0, 1) := by decide +kernel
theorem dX4_measure_33 : decode cX4_measure 33 = .ok (.getfield 47, 3) := by decide +kernel
theorem dX4_measure_36 : decode cX4_measure 36 = .ok (.getfield 72, 3) := by decide +kernel
theorem dX4_measure_39 : decode cX4_measure 39 = .ok (.iload 4, 2) := by decide +kernel
theorem dX4_measure_41 : decode cX4_measure 41 = .ok (.iconst 0, 1) := by decide +kernel
theorem dX4_measure_42 : decode cX4_measure 42 = .ok (.iload_n 2, 1) := by decide +kernel
theorem dX4_measure_43 : decode cX4_measure 43 = .ok (.iadd, 1) := by decide +kernel
theorem dX4_measure_44 : decode cX4_measure 44 = .ok (.invokevirtual 116, 3) := by decide +kernel
theorem dX4_measure_47 : decode cX4_measure 47 = .ok (.invokestatic 120, 3) := by decide +kernel
theorem dX4_measure_50 : decode cX4_measure 50 = .ok (.istore_n 3, 1) := by decide +kernel
theorem dX4_measure_51 : decode cX4_measure 51 = .ok (.iinc 4 1, 3) := by decide +kernel
theorem dX4_measure_54 : decode cX4_measure 54 = .ok (.goto (-30), 3) := by decide +kernel
theorem dX4_measure_57 : decode cX4_measure 57 = .ok (.aload_n 0, 1) := by decide +kernel
theorem dX4_measure_58 : decode cX4_measure 58 = .ok (.getfield 18, 3) := by decide +kernel
theorem dX4_measure_61 : decode cX4_measure 61 = .ok (.iload_n 1, 1) := by decide +kernel
theorem dX4_measure_62 : decode cX4_measure 62 = .ok (.bipush 8, 2) := by decide +kernel
theorem dX4_measure_64 : decode cX4_measure 64 = .ok (.imul, 1) := by decide +kernel
theorem dX4_measure_65 : decode cX4_measure 65 = .ok (.iload_n 2, 1) := by decide +kernel
theorem dX4_measure_66 : decode cX4_measure 66 = .ok (.iadd, 1) := by decide +kernel
theorem dX4_measure_67 : decode cX4_measure 67 = .ok (.iload_n 3, 1) := by decide +kernel
theorem dX4_measure_68 : decode cX4_measure 68 = .ok (.iastore, 1) := by decide +kernel
theorem dX4_measure_69 : decode cX4_measure 69 = .ok (.iinc 2 1, 3) := by decide +kernel
theorem dX4_measure_72 : decode cX4_measure 72 = .ok (.goto (-70), 3) := by decide +kernel
theorem dX4_measure_75 : decode cX4_measure 75 = .ok (.aload_n 0, 1) := by decide +kernel
theorem dX4_measure_76 : decode cX4_measure 76 = .ok (.iload_n 1, 1) := by decide +kernel
theorem dX4_measure_77 : decode cX4_measure 77 = .ok (.iconst 1, 1) := by decide +kernel
theorem dX4_measure_78 : decode cX4_measure 78 = .ok (.iadd, 1) := by decide +kernel
theorem dX4_measure_79 : decode cX4_measure 79 = .ok (.putfield 22, 3) := by decide +kernel
theorem dX4_measure_82 : decode cX4_measure 82 = .ok (.return_, 1) := by decide +kernel
theorem dX4_fewestRounds_0 : decode cX4_fewestRounds 0 = .ok (.aload_n 0, 1) := by decide +kernel
theorem dX4_fewestRounds_1 : decode cX4_fewestRounds 1 = .ok (.getfield 12, 3) := by decide +kernel
theorem dX4_fewestRounds_4 : decode cX4_fewestRounds 4 = .ok (.invokevirtual 86, 3) := by decide +kernel
theorem dX4_fewestRounds_7 : decode cX4_fewestRounds 7 = .ok (.iconst 0, 1) := by decide +kernel
theorem dX4_fewestRounds_8 : decode cX4_fewestRounds 8 = .ok (.istore_n 2, 1) := by decide +kernel
theorem dX4_fewestRounds_9 : decode cX4_fewestRounds 9 = .ok (.iload_n 2, 1) := by decide +kernel
theorem dX4_fewestRounds_10 : decode cX4_fewestRounds 10 = .ok (.bipush 56, 2) := by decide +kernel
theorem dX4_fewestRounds_12 : decode cX4_fewestRounds 12 = .ok (.if_icmp .ge 105, 3) := by decide +kernel
theorem dX4_fewestRounds_15 : decode cX4_fewestRounds 15 = .ok (.aload_n 0, 1) := by decide +kernel
theorem dX4_fewestRounds_16 : decode cX4_fewestRounds 16 = .ok (.getfield 47, 3) := by decide +kernel
theorem dX4_fewestRounds_19 : decode cX4_fewestRounds 19 = .ok (.invokevirtual 51, 3) := by decide +kernel
theorem dX4_fewestRounds_22 : decode cX4_fewestRounds 22 = .ok (.aload_n 0, 1) := by decide +kernel
theorem dX4_fewestRounds_23 : decode cX4_fewestRounds 23 = .ok (.getfield 12, 3) := by decide +kernel
theorem dX4_fewestRounds_26 : decode cX4_fewestRounds 26 = .ok (.aload_n 0, 1) := by decide +kernel
theorem dX4_fewestRounds_27 : decode cX4_fewestRounds 27 = .ok (.getfield 47, 3) := by decide +kernel
theorem dX4_fewestRounds_30 : decode cX4_fewestRounds 30 = .ok (.getfield 56, 3) := by decide +kernel
theorem dX4_fewestRounds_33 : decode cX4_fewestRounds 33 = .ok (.getfield 60, 3) := by decide +kernel
theorem dX4_fewestRounds_36 : decode cX4_fewestRounds 36 = .ok (.invokevirtual 92, 3) := by decide +kernel
theorem dX4_fewestRounds_39 : decode cX4_fewestRounds 39 = .ok (.aload_n 0, 1) := by decide +kernel
theorem dX4_fewestRounds_40 : decode cX4_fewestRounds 40 = .ok (.getfield 47, 3) := by decide +kernel
theorem dX4_fewestRounds_43 : decode cX4_fewestRounds 43 = .ok (.getfield 72, 3) := by decide +kernel
theorem dX4_fewestRounds_46 : decode cX4_fewestRounds 46 = .ok (.bipush 23, 2) := by decide +kernel
theorem dX4_fewestRounds_48 : decode cX4_fewestRounds 48 = .ok (.invokevirtual 76, 3) := by decide +kernel
theorem dX4_fewestRounds_51 : decode cX4_fewestRounds 51 = .ok (.aload_n 0, 1) := by decide +kernel
theorem dX4_fewestRounds_52 : decode cX4_fewestRounds 52 = .ok (.getfield 47, 3) := by decide +kernel
theorem dX4_fewestRounds_55 : decode cX4_fewestRounds 55 = .ok (.getfield 72, 3) := by decide +kernel
theorem dX4_fewestRounds_58 : decode cX4_fewestRounds 58 = .ok (.invokevirtual 125, 3) := by decide +kernel
theorem dX4_fewestRounds_61 : decode cX4_fewestRounds 61 = .ok (.aload_n 0, 1) := by decide +kernel
theorem dX4_fewestRounds_62 : decode cX4_fewestRounds 62 = .ok (.getfield 47, 3) := by decide +kernel
theorem dX4_fewestRounds_65 : decode cX4_fewestRounds 65 = .ok (.getfield 103, 3) := by decide +kernel
theorem dX4_fewestRounds_68 : decode cX4_fewestRounds 68 = .ok (.getfield 113, 3) := by decide +kernel
theorem dX4_fewestRounds_71 : decode cX4_fewestRounds 71 = .ok (.getfield 106, 3) := by decide +kernel
theorem dX4_fewestRounds_74 : decode cX4_fewestRounds 74 = .ok (.if_icmp .ne 12, 3) := by decide +kernel
theorem dX4_fewestRounds_77 : decode cX4_fewestRounds 77 = .ok (.aload_n 0, 1) := by decide +kernel
theorem dX4_fewestRounds_78 : decode cX4_fewestRounds 78 = .ok (.getfield 12, 3) := by decide +kernel
theorem dX4_fewestRounds_81 : decode cX4_fewestRounds 81 = .ok (.iload_n 1, 1) := by decide +kernel
theorem dX4_fewestRounds_82 : decode cX4_fewestRounds 82 = .ok (.invokevirtual 99, 3) := by decide +kernel
theorem dX4_fewestRounds_85 : decode cX4_fewestRounds 85 = .ok (.ireturn, 1) := by decide +kernel
theorem dX4_fewestRounds_86 : decode cX4_fewestRounds 86 = .ok (.aload_n 0, 1) := by decide +kernel
theorem dX4_fewestRounds_87 : decode cX4_fewestRounds 87 = .ok (.getfield 12, 3) := by decide +kernel
theorem dX4_fewestRounds_90 : decode cX4_fewestRounds 90 = .ok (.aload_n 0, 1) := by decide +kernel
theorem dX4_fewestRounds_91 : decode cX4_fewestRounds 91 = .ok (.getfield 47, 3) := by decide +kernel
theorem dX4_fewestRounds_94 : decode cX4_fewestRounds 94 = .ok (.getfield 103, 3) := by decide +kernel
theorem dX4_fewestRounds_97 : decode cX4_fewestRounds 97 = .ok (.getfield 60, 3) := by decide +kernel
theorem dX4_fewestRounds_100 : decode cX4_fewestRounds 100 = .ok (.getfield 106, 3) := by decide +kernel
theorem dX4_fewestRounds_103 : decode cX4_fewestRounds 103 = .ok (.invokevirtual 109, 3) := by decide +kernel
theorem dX4_fewestRounds_106 : decode cX4_fewestRounds 106 = .ok (.ifCond .ne 5, 3) := by decide +kernel
theorem dX4_fewestRounds_109 : decode cX4_fewestRounds 109 = .ok (.iconst (-1), 1) := by decide +kernel
theorem dX4_fewestRounds_110 : decode cX4_fewestRounds 110 = .ok (.ireturn, 1) := by decide +kernel
theorem dX4_fewestRounds_111 : decode cX4_fewestRounds 111 = .ok (.iinc 2 1, 3) := by decide +kernel
theorem dX4_fewestRounds_114 : decode cX4_fewestRounds 114 = .ok (.goto (-105), 3) := by decide +kernel
theorem dX4_fewestRounds_117 : decode cX4_fewestRounds 117 = .ok (.iconst (-1), 1) := by decide +kernel
theorem dX4_fewestRounds_118 : decode cX4_fewestRounds 118 = .ok (.ireturn, 1) := by decide +kernel
theorem dX4_findHome_0 : decode cX4_findHome 0 = .ok (.aload_n 0, 1) := by decide +kernel
theorem dX4_findHome_1 : decode cX4_findHome 1 = .ok (.getfield 38, 3) := by decide +kernel
theorem dX4_findHome_4 : decode cX4_findHome 4 = .ok (.iload_n 1, 1) := by decide +kernel
theorem dX4_findHome_5 : decode cX4_findHome 5 = .ok (.if_icmp .ne 4, 3) := by decide +kernel
theorem dX4_findHome_8 : decode cX4_findHome 8 = .ok (.return_, 1) := by decide +kernel
theorem dX4_findHome_9 : decode cX4_findHome 9 = .ok (.aload_n 0, 1) := by decide +kernel
theorem dX4_findHome_10 : decode cX4_findHome 10 = .ok (.iload_n 1, 1) := by decide +kernel
theorem dX4_findHome_11 : decode cX4_findHome 11 = .ok (.putfield 38, 3) := by decide +kernel
theorem dX4_findHome_14 : decode cX4_findHome 14 = .ok (.aload_n 0, 1) := by decide +kernel
theorem dX4_findHome_15 : decode cX4_findHome 15 = .ok (.iconst (-1), 1) := by decide +kernel
theorem dX4_findHome_16 : decode cX4_findHome 16 = .ok (.putfield 44, 3) := by decide +kernel
theorem dX4_findHome_19 : decode cX4_findHome 19 = .ok (.iconst 0, 1) := by decide +kernel
theorem dX4_findHome_20 : decode cX4_findHome 20 = .ok (.istore_n 2, 1) := by decide +kernel
theorem dX4_findHome_21 : decode cX4_findHome 21 = .ok (.iload_n 2, 1) := by decide +kernel
theorem dX4_findHome_22 : decode cX4_findHome 22 = .ok (.iconst 4, 1) := by decide +kernel
theorem dX4_findHome_23 : decode cX4_findHome 23 = .ok (.if_icmp .ge 79, 3) := by decide +kernel
theorem dX4_findHome_26 : decode cX4_findHome 26 = .ok (.aload_n 0, 1) := by decide +kernel
theorem dX4_findHome_27 : decode cX4_findHome 27 = .ok (.getfield 47, 3) := by decide +kernel
theorem dX4_findHome_30 : decode cX4_findHome 30 = .ok (.invokevirtual 51, 3) := by decide +kernel
theorem dX4_findHome_33 : decode cX4_findHome 33 = .ok (.aload_n 0, 1) := by decide +kernel
theorem dX4_findHome_34 : decode cX4_findHome 34 = .ok (.getfield 47, 3) := by decide +kernel
theorem dX4_findHome_37 : decode cX4_findHome 37 = .ok (.getfield 56, 3) := by decide +kernel
theorem dX4_findHome_40 : decode cX4_findHome 40 = .ok (.getfield 113, 3) := by decide +kernel
theorem dX4_findHome_43 : decode cX4_findHome 43 = .ok (.iload_n 1, 1) := by decide +kernel
theorem dX4_findHome_44 : decode cX4_findHome 44 = .ok (.iconst 1, 1) := by decide +kernel
theorem dX4_findHome_45 : decode cX4_findHome 45 = .ok (.iload_n 2, 1) := by decide +kernel
theorem dX4_findHome_46 : decode cX4_findHome 46 = .ok (.invokevirtual 128, 3) := by decide +kernel
theorem dX4_findHome_49 : decode cX4_findHome 49 = .ok (.aload_n 0, 1) := by decide +kernel
theorem dX4_findHome_50 : decode cX4_findHome 50 = .ok (.getfield 47, 3) := by decide +kernel
theorem dX4_findHome_53 : decode cX4_findHome 53 = .ok (.getfield 72, 3) := by decide +kernel
theorem dX4_findHome_56 : decode cX4_findHome 56 = .ok (.bipush 23, 2) := by decide +kernel
theorem dX4_findHome_58 : decode cX4_findHome 58 = .ok (.invokevirtual 76, 3) := by decide +kernel
theorem dX4_findHome_61 : decode cX4_findHome 61 = .ok (.aload_n 0, 1) := by decide +kernel
theorem dX4_findHome_62 : decode cX4_findHome 62 = .ok (.getfield 47, 3) := by decide +kernel
theorem dX4_findHome_65 : decode cX4_findHome 65 = .ok (.getfield 72, 3) := by decide +kernel
theorem dX4_findHome_68 : decode cX4_findHome 68 = .ok (.bipush 23, 2) := by decide +kernel
theorem dX4_findHome_70 : decode cX4_findHome 70 = .ok (.bipush 33, 2) := by decide +kernel
theorem dX4_findHome_72 : decode cX4_findHome 72 = .ok (.iload_n 1, 1) := by decide +kernel
theorem dX4_findHome_73 : decode cX4_findHome 73 = .ok (.iadd, 1) := by decide +kernel
theorem dX4_findHome_74 : decode cX4_findHome 74 = .ok (.invokevirtual 116, 3) := by decide +kernel
theorem dX4_findHome_77 : decode cX4_findHome 77 = .ok (.istore_n 3, 1) := by decide +kernel
theorem dX4_findHome_78 : decode cX4_findHome 78 = .ok (.iload_n 3, 1) := by decide +kernel
theorem dX4_findHome_79 : decode cX4_findHome 79 = .ok (.aload_n 0, 1) := by decide +kernel
theorem dX4_findHome_80 : decode cX4_findHome 80 = .ok (.getfield 44, 3) := by decide +kernel
theorem dX4_findHome_83 : decode cX4_findHome 83 = .ok (.if_icmp .le 13, 3) := by decide +kernel
theorem dX4_findHome_86 : decode cX4_findHome 86 = .ok (.aload_n 0, 1) := by decide +kernel
theorem dX4_findHome_87 : decode cX4_findHome 87 = .ok (.iload_n 3, 1) := by decide +kernel
theorem dX4_findHome_88 : decode cX4_findHome 88 = .ok (.putfield 44, 3) := by decide +kernel
theorem dX4_findHome_91 : decode cX4_findHome 91 = .ok (.aload_n 0, 1) := by decide +kernel
theorem dX4_findHome_92 : decode cX4_findHome 92 = .ok (.iload_n 2, 1) := by decide +kernel
theorem dX4_findHome_93 : decode cX4_findHome 93 = .ok (.putfield 41, 3) := by decide +kernel
theorem dX4_findHome_96 : decode cX4_findHome 96 = .ok (.iinc 2 1, 3) := by decide +kernel
theorem dX4_findHome_99 : decode cX4_findHome 99 = .ok (.goto (-78), 3) := by decide +kernel
theorem dX4_findHome_102 : decode cX4_findHome 102 = .ok (.return_, 1) := by decide +kernel
theorem dX5_init_0 : decode cX5_init 0 = .ok (.aload_n 0, 1) := by decide +kernel
theorem dX5_init_1 : decode cX5_init 1 = .ok (.invokespecial 3, 3) := by decide +kernel
theorem dX5_init_4 : decode cX5_init 4 = .ok (.aload_n 0, 1) := by decide +kernel
theorem dX5_init_5 : decode cX5_init 5 = .ok (.iconst 0, 1) := by decide +kernel
theorem dX5_init_6 : decode cX5_init 6 = .ok (.putfield 9, 3) := by decide +kernel
theorem dX5_init_9 : decode cX5_init 9 = .ok (.iload_n 1, 1) := by decide +kernel
theorem dX5_init_10 : decode cX5_init 10 = .ok (.iconst 0, 1) := by decide +kernel
theorem dX5_init_11 : decode cX5_init 11 = .ok (.invokestatic 15, 3) := by decide +kernel
theorem dX5_init_14 : decode cX5_init 14 = .ok (.istore_n 2, 1) := by decide +kernel
theorem dX5_init_15 : decode cX5_init 15 = .ok (.aload_n 0, 1) := by decide +kernel
theorem dX5_init_16 : decode cX5_init 16 = .ok (.iload_n 2, 1) := by decide +kernel
theorem dX5_init_17 : decode cX5_init 17 = .ok (.newarray .int, 2) := by decide +kernel
theorem dX5_init_19 : decode cX5_init 19 = .ok (.putfield 21, 3) := by decide +kernel
theorem dX5_init_22 : decode cX5_init 22 = .ok (.aload_n 0, 1) := by decide +kernel
theorem dX5_init_23 : decode cX5_init 23 = .ok (.iload_n 2, 1) := by decide +kernel
theorem dX5_init_24 : decode cX5_init 24 = .ok (.newarray .int, 2) := by decide +kernel
theorem dX5_init_26 : decode cX5_init 26 = .ok (.putfield 25, 3) := by decide +kernel
theorem dX5_init_29 : decode cX5_init 29 = .ok (.aload_n 0, 1) := by decide +kernel
theorem dX5_init_30 : decode cX5_init 30 = .ok (.iload_n 2, 1) := by decide +kernel
theorem dX5_init_31 : decode cX5_init 31 = .ok (.newarray .int, 2) := by decide +kernel
theorem dX5_init_33 : decode cX5_init 33 = .ok (.putfield 28, 3) := by decide +kernel
theorem dX5_init_36 : decode cX5_init 36 = .ok (.return_, 1) := by decide +kernel
theorem dX5_append_0 : decode cX5_append 0 = .ok (.aload_n 0, 1) := by decide +kernel
theorem dX5_append_1 : decode cX5_append 1 = .ok (.getfield 9, 3) := by decide +kernel
theorem dX5_append_4 : decode cX5_append 4 = .ok (.ifCond .lt 15, 3) := by decide +kernel
theorem dX5_append_7 : decode cX5_append 7 = .ok (.aload_n 0, 1) := by decide +kernel
theorem dX5_append_8 : decode cX5_append 8 = .ok (.getfield 9, 3) := by decide +kernel
theorem dX5_append_11 : decode cX5_append 11 = .ok (.aload_n 0, 1) := by decide +kernel
theorem dX5_append_12 : decode cX5_append 12 = .ok (.getfield 21, 3) := by decide +kernel
theorem dX5_append_15 : decode cX5_append 15 = .ok (.arraylength, 1) := by decide +kernel
theorem dX5_append_16 : decode cX5_append 16 = .ok (.if_icmp .lt 6, 3) := by decide +kernel
theorem dX5_append_19 : decode cX5_append 19 = .ok (.bipush (-4), 2) := by decide +kernel
theorem dX5_append_21 : decode cX5_append 21 = .ok (.ireturn, 1) := by decide +kernel
theorem dX5_append_22 : decode cX5_append 22 = .ok (.aload_n 0, 1) := by decide +kernel
theorem dX5_append_23 : decode cX5_append 23 = .ok (.getfield 21, 3) := by decide +kernel
theorem dX5_append_26 : decode cX5_append 26 = .ok (.aload_n 0, 1) := by decide +kernel
theorem dX5_append_27 : decode cX5_append 27 = .ok (.getfield 9, 3) := by decide +kernel
theorem dX5_append_30 : decode cX5_append 30 = .ok (.iload_n 1, 1) := by decide +kernel
theorem dX5_append_31 : decode cX5_append 31 = .ok (.iastore, 1) := by decide +kernel
theorem dX5_append_32 : decode cX5_append 32 = .ok (.aload_n 0, 1) := by decide +kernel
theorem dX5_append_33 : decode cX5_append 33 = .ok (.getfield 25, 3) := by decide +kernel
theorem dX5_append_36 : decode cX5_append 36 = .ok (.aload_n 0, 1) := by decide +kernel
theorem dX5_append_37 : decode cX5_append 37 = .ok (.getfield 9, 3) := by decide +kernel
theorem dX5_append_40 : decode cX5_append 40 = .ok (.iload_n 2, 1) := by decide +kernel
theorem dX5_append_41 : decode cX5_append 41 = .ok (.iastore, 1) := by decide +kernel
theorem dX5_append_42 : decode cX5_append 42 = .ok (.aload_n 0, 1) := by decide +kernel
theorem dX5_append_43 : decode cX5_append 43 = .ok (.getfield 28, 3) := by decide +kernel
theorem dX5_append_46 : decode cX5_append 46 = .ok (.aload_n 0, 1) := by decide +kernel
theorem dX5_append_47 : decode cX5_append 47 = .ok (.getfield 9, 3) := by decide +kernel
theorem dX5_append_50 : decode cX5_append 50 = .ok (.iload_n 3, 1) := by decide +kernel
theorem dX5_append_51 : decode cX5_append 51 = .ok (.iastore, 1) := by decide +kernel
theorem dX5_append_52 : decode cX5_append 52 = .ok (.aload_n 0, 1) := by decide +kernel
theorem dX5_append_53 : decode cX5_append 53 = .ok (.dup, 1) := by decide +kernel
theorem dX5_append_54 : decode cX5_append 54 = .ok (.getfield 9, 3) := by decide +kernel
theorem dX5_append_57 : decode cX5_append 57 = .ok (.iconst 1, 1) := by decide +kernel
theorem dX5_append_58 : decode cX5_append 58 = .ok (.iadd, 1) := by decide +kernel
theorem dX5_append_59 : decode cX5_append 59 = .ok (.putfield 9, 3) := by decide +kernel
theorem dX5_append_62 : decode cX5_append 62 = .ok (.aload_n 0, 1) := by decide +kernel
theorem dX5_append_63 : decode cX5_append 63 = .ok (.getfield 9, 3) := by decide +kernel
theorem dX5_append_66 : decode cX5_append 66 = .ok (.ireturn, 1) := by decide +kernel
theorem dX5_cell_0 : decode cX5_cell 0 = .ok (.iload_n 1, 1) := by decide +kernel
theorem dX5_cell_1 : decode cX5_cell 1 = .ok (.ifCond .lt 11, 3) := by decide +kernel
theorem dX5_cell_4 : decode cX5_cell 4 = .ok (.iload_n 1, 1) := by decide +kernel
theorem dX5_cell_5 : decode cX5_cell 5 = .ok (.aload_n 0, 1) := by decide +kernel
theorem dX5_cell_6 : decode cX5_cell 6 = .ok (.getfield 9, 3) := by decide +kernel
theorem dX5_cell_9 : decode cX5_cell 9 = .ok (.if_icmp .lt 5, 3) := by decide +kernel
theorem dX5_cell_12 : decode cX5_cell 12 = .ok (.iconst (-1), 1) := by decide +kernel
theorem dX5_cell_13 : decode cX5_cell 13 = .ok (.ireturn, 1) := by decide +kernel
theorem dX5_cell_14 : decode cX5_cell 14 = .ok (.iload_n 2, 1) := by decide +kernel
theorem dX5_cell_15 : decode cX5_cell 15 = .ok (.ifCond .ne 12, 3) := by decide +kernel
theorem dX5_cell_18 : decode cX5_cell 18 = .ok (.aload_n 0, 1) := by decide +kernel
theorem dX5_cell_19 : decode cX5_cell 19 = .ok (.getfield 21, 3) := by decide +kernel
theorem dX5_cell_22 : decode cX5_cell 22 = .ok (.iload_n 1, 1) := by decide +kernel
theorem dX5_cell_23 : decode cX5_cell 23 = .ok (.iaload, 1) := by decide +kernel
theorem dX5_cell_24 : decode cX5_cell 24 = .ok (.goto 23, 3) := by decide +kernel
theorem dX5_cell_27 : decode cX5_cell 27 = .ok (.iload_n 2, 1) := by decide +kernel
theorem dX5_cell_28 : decode cX5_cell 28 = .ok (.iconst 1, 1) := by decide +kernel
theorem dX5_cell_29 : decode cX5_cell 29 = .ok (.if_icmp .ne 12, 3) := by decide +kernel
theorem dX5_cell_32 : decode cX5_cell 32 = .ok (.aload_n 0, 1) := by decide +kernel
theorem dX5_cell_33 : decode cX5_cell 33 = .ok (.getfield 25, 3) := by decide +kernel
theorem dX5_cell_36 : decode cX5_cell 36 = .ok (.iload_n 1, 1) := by decide +kernel
theorem dX5_cell_37 : decode cX5_cell 37 = .ok (.iaload, 1) := by decide +kernel
theorem dX5_cell_38 : decode cX5_cell 38 = .ok (.goto 9, 3) := by decide +kernel
theorem dX5_cell_41 : decode cX5_cell 41 = .ok (.aload_n 0, 1) := by decide +kernel
theorem dX5_cell_42 : decode cX5_cell 42 = .ok (.getfield 28, 3) := by decide +kernel
theorem dX5_cell_45 : decode cX5_cell 45 = .ok (.iload_n 1, 1) := by decide +kernel
theorem dX5_cell_46 : decode cX5_cell 46 = .ok (.iaload, 1) := by decide +kernel
theorem dX5_cell_47 : decode cX5_cell 47 = .ok (.ireturn, 1) := by decide +kernel
theorem dX5_setCell_0 : decode cX5_setCell 0 = .ok (.iload_n 1, 1) := by decide +kernel
theorem dX5_setCell_1 : decode cX5_setCell 1 = .ok (.ifCond .lt 11, 3) := by decide +kernel
theorem dX5_setCell_4 : decode cX5_setCell 4 = .ok (.iload_n 1, 1) := by decide +kernel
theorem dX5_setCell_5 : decode cX5_setCell 5 = .ok (.aload_n 0, 1) := by decide +kernel
theorem dX5_setCell_6 : decode cX5_setCell 6 = .ok (.getfield 9, 3) := by decide +kernel
theorem dX5_setCell_9 : decode cX5_setCell 9 = .ok (.if_icmp .lt 4, 3) := by decide +kernel
theorem dX5_setCell_12 : decode cX5_setCell 12 = .ok (.return_, 1) := by decide +kernel
theorem dX5_setCell_13 : decode cX5_setCell 13 = .ok (.iload_n 2, 1) := by decide +kernel
theorem dX5_setCell_14 : decode cX5_setCell 14 = .ok (.ifCond .ne 13, 3) := by decide +kernel
theorem dX5_setCell_17 : decode cX5_setCell 17 = .ok (.aload_n 0, 1) := by decide +kernel
theorem dX5_setCell_18 : decode cX5_setCell 18 = .ok (.getfield 21, 3) := by decide +kernel
theorem dX5_setCell_21 : decode cX5_setCell 21 = .ok (.iload_n 1, 1) := by decide +kernel
theorem dX5_setCell_22 : decode cX5_setCell 22 = .ok (.iload_n 3, 1) := by decide +kernel
theorem dX5_setCell_23 : decode cX5_setCell 23 = .ok (.iastore, 1) := by decide +kernel
theorem dX5_setCell_24 : decode cX5_setCell 24 = .ok (.goto 25, 3) := by decide +kernel
theorem dX5_setCell_27 : decode cX5_setCell 27 = .ok (.iload_n 2, 1) := by decide +kernel
theorem dX5_setCell_28 : decode cX5_setCell 28 = .ok (.iconst 1, 1) := by decide +kernel
theorem dX5_setCell_29 : decode cX5_setCell 29 = .ok (.if_icmp .ne 13, 3) := by decide +kernel
theorem dX5_setCell_32 : decode cX5_setCell 32 = .ok (.aload_n 0, 1) := by decide +kernel
theorem dX5_setCell_33 : decode cX5_setCell 33 = .ok (.getfield 25, 3) := by decide +kernel
theorem dX5_setCell_36 : decode cX5_setCell 36 = .ok (.iload_n 1, 1) := by decide +kernel
theorem dX5_setCell_37 : decode cX5_setCell 37 = .ok (.iload_n 3, 1) := by decide +kernel
theorem dX5_setCell_38 : decode cX5_setCell 38 = .ok (.iastore, 1) := by decide +kernel
theorem dX5_setCell_39 : decode cX5_setCell 39 = .ok (.goto 10, 3) := by decide +kernel
theorem dX5_setCell_42 : decode cX5_setCell 42 = .ok (.aload_n 0, 1) := by decide +kernel
theorem dX5_setCell_43 : decode cX5_setCell 43 = .ok (.getfield 28, 3) := by decide +kernel
theorem dX5_setCell_46 : decode cX5_setCell 46 = .ok (.iload_n 1, 1) := by decide +kernel
theorem dX5_setCell_47 : decode cX5_setCell 47 = .ok (.iload_n 3, 1) := by decide +kernel
theorem dX5_setCell_48 : decode cX5_setCell 48 = .ok (.iastore, 1) := by decide +kernel
theorem dX5_setCell_49 : decode cX5_setCell 49 = .ok (.return_, 1) := by decide +kernel
theorem dX5_takeOut_0 : decode cX5_takeOut 0 = .ok (.iload_n 1, 1) := by decide +kernel
theorem dX5_takeOut_1 : decode cX5_takeOut 1 = .ok (.ifCond .lt 11, 3) := by decide +kernel
theorem dX5_takeOut_4 : decode cX5_takeOut 4 = .ok (.iload_n 1, 1) := by decide +kernel
theorem dX5_takeOut_5 : decode cX5_takeOut 5 = .ok (.aload_n 0, 1) := by decide +kernel
theorem dX5_takeOut_6 : decode cX5_takeOut 6 = .ok (.getfield 9, 3) := by decide +kernel
theorem dX5_takeOut_9 : decode cX5_takeOut 9 = .ok (.if_icmp .lt 4, 3) := by decide +kernel
theorem dX5_takeOut_12 : decode cX5_takeOut 12 = .ok (.return_, 1) := by decide +kernel
theorem dX5_takeOut_13 : decode cX5_takeOut 13 = .ok (.aload_n 0, 1) := by decide +kernel
theorem dX5_takeOut_14 : decode cX5_takeOut 14 = .ok (.getfield 9, 3) := by decide +kernel
theorem dX5_takeOut_17 : decode cX5_takeOut 17 = .ok (.iload_n 1, 1) := by decide +kernel
theorem dX5_takeOut_18 : decode cX5_takeOut 18 = .ok (.isub, 1) := by decide +kernel
theorem dX5_takeOut_19 : decode cX5_takeOut 19 = .ok (.iconst 1, 1) := by decide +kernel
theorem dX5_takeOut_20 : decode cX5_takeOut 20 = .ok (.isub, 1) := by decide +kernel
theorem dX5_takeOut_21 : decode cX5_takeOut 21 = .ok (.istore_n 2, 1) := by decide +kernel
theorem dX5_takeOut_22 : decode cX5_takeOut 22 = .ok (.aload_n 0, 1) := by decide +kernel
theorem dX5_takeOut_23 : decode cX5_takeOut 23 = .ok (.getfield 21, 3) := by decide +kernel
theorem dX5_takeOut_26 : decode cX5_takeOut 26 = .ok (.iload_n 1, 1) := by decide +kernel
theorem dX5_takeOut_27 : decode cX5_takeOut 27 = .ok (.iconst 1, 1) := by decide +kernel
theorem dX5_takeOut_28 : decode cX5_takeOut 28 = .ok (.iadd, 1) := by decide +kernel
theorem dX5_takeOut_29 : decode cX5_takeOut 29 = .ok (.aload_n 0, 1) := by decide +kernel
theorem dX5_takeOut_30 : decode cX5_takeOut 30 = .ok (.getfield 21, 3) := by decide +kernel
theorem dX5_takeOut_33 : decode cX5_takeOut 33 = .ok (.iload_n 1, 1) := by decide +kernel
theorem dX5_takeOut_34 : decode cX5_takeOut 34 = .ok (.iload_n 2, 1) := by decide +kernel
theorem dX5_takeOut_35 : decode cX5_takeOut 35 = .ok (.invokestatic 31, 3) := by decide +kernel
theorem dX5_takeOut_38 : decode cX5_takeOut 38 = .ok (.aload_n 0, 1) := by decide +kernel
theorem dX5_takeOut_39 : decode cX5_takeOut 39 = .ok (.getfield 25, 3) := by decide +kernel
theorem dX5_takeOut_42 : decode cX5_takeOut 42 = .ok (.iload_n 1, 1) := by decide +kernel
theorem dX5_takeOut_43 : decode cX5_takeOut 43 = .ok (.iconst 1, 1) := by decide +kernel
theorem dX5_takeOut_44 : decode cX5_takeOut 44 = .ok (.iadd, 1) := by decide +kernel
theorem dX5_takeOut_45 : decode cX5_takeOut 45 = .ok (.aload_n 0, 1) := by decide +kernel
theorem dX5_takeOut_46 : decode cX5_takeOut 46 = .ok (.getfield 25, 3) := by decide +kernel
theorem dX5_takeOut_49 : decode cX5_takeOut 49 = .ok (.iload_n 1, 1) := by decide +kernel
theorem dX5_takeOut_50 : decode cX5_takeOut 50 = .ok (.iload_n 2, 1) := by decide +kernel
theorem dX5_takeOut_51 : decode cX5_takeOut 51 = .ok (.invokestatic 31, 3) := by decide +kernel
theorem dX5_takeOut_54 : decode cX5_takeOut 54 = .ok (.aload_n 0, 1) := by decide +kernel
theorem dX5_takeOut_55 : decode cX5_takeOut 55 = .ok (.getfield 28, 3) := by decide +kernel
theorem dX5_takeOut_58 : decode cX5_takeOut 58 = .ok (.iload_n 1, 1) := by decide +kernel
theorem dX5_takeOut_59 : decode cX5_takeOut 59 = .ok (.iconst 1, 1) := by decide +kernel
theorem dX5_takeOut_60 : decode cX5_takeOut 60 = .ok (.iadd, 1) := by decide +kernel
theorem dX5_takeOut_61 : decode cX5_takeOut 61 = .ok (.aload_n 0, 1) := by decide +kernel
theorem dX5_takeOut_62 : decode cX5_takeOut 62 = .ok (.getfield 28, 3) := by decide +kernel
theorem dX5_takeOut_65 : decode cX5_takeOut 65 = .ok (.iload_n 1, 1) := by decide +kernel
theorem dX5_takeOut_66 : decode cX5_takeOut 66 = .ok (.iload_n 2, 1) := by decide +kernel
theorem dX5_takeOut_67 : decode cX5_takeOut 67 = .ok (.invokestatic 31, 3) := by decide +kernel
theorem dX5_takeOut_70 : decode cX5_takeOut 70 = .ok (.aload_n 0, 1) := by decide +kernel
theorem dX5_takeOut_71 : decode cX5_takeOut 71 = .ok (.dup, 1) := by decide +kernel
theorem dX5_takeOut_72 : decode cX5_takeOut 72 = .ok (.getfield 9, 3) := by decide +kernel
theorem dX5_takeOut_75 : decode cX5_takeOut 75 = .ok (.iconst 1, 1) := by decide +kernel
theorem dX5_takeOut_76 : decode cX5_takeOut 76 = .ok (.isub, 1) := by decide +kernel
theorem dX5_takeOut_77 : decode cX5_takeOut 77 = .ok (.putfield 9, 3) := by decide +kernel
theorem dX5_takeOut_80 : decode cX5_takeOut 80 = .ok (.return_, 1) := by decide +kernel
theorem dX5_become_0 : decode cX5_become 0 = .ok (.aload_n 1, 1) := by decide +kernel
theorem dX5_become_1 : decode cX5_become 1 = .ok (.getfield 9, 3) := by decide +kernel
theorem dX5_become_4 : decode cX5_become 4 = .ok (.aload_n 0, 1) := by decide +kernel
theorem dX5_become_5 : decode cX5_become 5 = .ok (.getfield 21, 3) := by decide +kernel
theorem dX5_become_8 : decode cX5_become 8 = .ok (.arraylength, 1) := by decide +kernel
theorem dX5_become_9 : decode cX5_become 9 = .ok (.invokestatic 37, 3) := by decide +kernel
theorem dX5_become_12 : decode cX5_become 12 = .ok (.istore_n 2, 1) := by decide +kernel
theorem dX5_become_13 : decode cX5_become 13 = .ok (.aload_n 1, 1) := by decide +kernel
theorem dX5_become_14 : decode cX5_become 14 = .ok (.getfield 21, 3) := by decide +kernel
theorem dX5_become_17 : decode cX5_become 17 = .ok (.iconst 0, 1) := by decide +kernel
theorem dX5_become_18 : decode cX5_become 18 = .ok (.aload_n 0, 1) := by decide +kernel
theorem dX5_become_19 : decode cX5_become 19 = .ok (.getfield 21, 3) := by decide +kernel
theorem dX5_become_22 : decode cX5_become 22 = .ok (.iconst 0, 1) := by decide +kernel
theorem dX5_become_23 : decode cX5_become 23 = .ok (.iload_n 2, 1) := by decide +kernel
theorem dX5_become_24 : decode cX5_become 24 = .ok (.invokestatic 31, 3) := by decide +kernel
theorem dX5_become_27 : decode cX5_become 27 = .ok (.aload_n 1, 1) := by decide +kernel
theorem dX5_become_28 : decode cX5_become 28 = .ok (.getfield 25, 3) := by decide +kernel
theorem dX5_become_31 : decode cX5_become 31 = .ok (.iconst 0, 1) := by decide +kernel
theorem dX5_become_32 : decode cX5_become 32 = .ok (.aload_n 0, 1) := by decide +kernel
theorem dX5_become_33 : decode cX5_become 33 = .ok (.getfield 25, 3) := by decide +kernel
theorem dX5_become_36 : decode cX5_become 36 = .ok (.iconst 0, 1) := by decide +kernel
theorem dX5_become_37 : decode cX5_become 37 = .ok (.iload_n 2, 1) := by decide +kernel
theorem dX5_become_38 : decode cX5_become 38 = .ok (.invokestatic 31, 3) := by decide +kernel
theorem dX5_become_41 : decode cX5_become 41 = .ok (.aload_n 1, 1) := by decide +kernel
theorem dX5_become_42 : decode cX5_become 42 = .ok (.getfield 28, 3) := by decide +kernel
theorem dX5_become_45 : decode cX5_become 45 = .ok (.iconst 0, 1) := by decide +kernel
theorem dX5_become_46 : decode cX5_become 46 = .ok (.aload_n 0, 1) := by decide +kernel
theorem dX5_become_47 : decode cX5_become 47 = .ok (.getfield 28, 3) := by decide +kernel
theorem dX5_become_50 : decode cX5_become 50 = .ok (.iconst 0, 1) := by decide +kernel
theorem dX5_become_51 : decode cX5_become 51 = .ok (.iload_n 2, 1) := by decide +kernel
theorem dX5_become_52 : decode cX5_become 52 = .ok (.invokestatic 31, 3) := by decide +kernel
theorem dX5_become_55 : decode cX5_become 55 = .ok (.aload_n 0, 1) := by decide +kernel
theorem dX5_become_56 : decode cX5_become 56 = .ok (.iload_n 2, 1) := by decide +kernel
theorem dX5_become_57 : decode cX5_become 57 = .ok (.putfield 9, 3) := by decide +kernel
theorem dX5_become_60 : decode cX5_become 60 = .ok (.return_, 1) := by decide +kernel
theorem dX6_init_0 : decode cX6_init 0 = .ok (.aload_n 0, 1) := by decide +kernel
theorem dX6_init_1 : decode cX6_init 1 = .ok (.invokespecial 3, 3) := by decide +kernel
theorem dX6_init_4 : decode cX6_init 4 = .ok (.aload_n 0, 1) := by decide +kernel
theorem dX6_init_5 : decode cX6_init 5 = .ok (.iconst 4, 1) := by decide +kernel
theorem dX6_init_6 : decode cX6_init 6 = .ok (.newarray .int, 2) := by decide +kernel
theorem dX6_init_8 : decode cX6_init 8 = .ok (.putfield 9, 3) := by decide +kernel
theorem dX6_init_11 : decode cX6_init 11 = .ok (.aload_n 0, 1) := by decide +kernel
theorem dX6_init_12 : decode cX6_init 12 = .ok (.iconst 4, 1) := by decide +kernel
theorem dX6_init_13 : decode cX6_init 13 = .ok (.newarray .int, 2) := by decide +kernel
theorem dX6_init_15 : decode cX6_init 15 = .ok (.putfield 15, 3) := by decide +kernel
theorem dX6_init_18 : decode cX6_init 18 = .ok (.aload_n 0, 1) := by decide +kernel
theorem dX6_init_19 : decode cX6_init 19 = .ok (.sipush 240, 3) := by decide +kernel
theorem dX6_init_22 : decode cX6_init 22 = .ok (.newarray .int, 2) := by decide +kernel
theorem dX6_init_24 : decode cX6_init 24 = .ok (.putfield 18, 3) := by decide +kernel
theorem dX6_init_27 : decode cX6_init 27 = .ok (.aload_n 0, 1) := by decide +kernel
theorem dX6_init_28 : decode cX6_init 28 = .ok (.iconst 0, 1) := by decide +kernel
theorem dX6_init_29 : decode cX6_init 29 = .ok (.putfield 21, 3) := by decide +kernel
theorem dX6_init_32 : decode cX6_init 32 = .ok (.aload_n 0, 1) := by decide +kernel
theorem dX6_init_33 : decode cX6_init 33 = .ok (.getfield 9, 3) := by decide +kernel
theorem dX6_init_36 : decode cX6_init 36 = .ok (.iconst (-1), 1) := by decide +kernel
theorem dX6_init_37 : decode cX6_init 37 = .ok (.invokestatic 25, 3) := by decide +kernel
theorem dX6_init_40 : decode cX6_init 40 = .ok (.return_, 1) := by decide +kernel
theorem dX6_finding_0 : decode cX6_finding 0 = .ok (.aload_n 0, 1) := by decide +kernel
theorem dX6_finding_1 : decode cX6_finding 1 = .ok (.iload_n 1, 1) := by decide +kernel
theorem dX6_finding_2 : decode cX6_finding 2 = .ok (.putfield 21, 3) := by decide +kernel
theorem dX6_finding_5 : decode cX6_finding 5 = .ok (.bipush (-10), 2) := by decide +kernel
theorem dX6_finding_7 : decode cX6_finding 7 = .ok (.iload_n 1, 1) := by decide +kernel
theorem dX6_finding_8 : decode cX6_finding 8 = .ok (.isub, 1) := by decide +kernel
theorem dX6_finding_9 : decode cX6_finding 9 = .ok (.ireturn, 1) := by decide +kernel
theorem dX6_isLost_0 : decode cX6_isLost 0 = .ok (.iload_n 1, 1) := by decide +kernel
theorem dX6_isLost_1 : decode cX6_isLost 1 = .ok (.ifCond .lt 22, 3) := by decide +kernel
theorem dX6_isLost_4 : decode cX6_isLost 4 = .ok (.iload_n 1, 1) := by decide +kernel
theorem dX6_isLost_5 : decode cX6_isLost 5 = .ok (.aload_n 0, 1) := by decide +kernel
theorem dX6_isLost_6 : decode cX6_isLost 6 = .ok (.getfield 9, 3) := by decide +kernel
theorem dX6_isLost_9 : decode cX6_isLost 9 = .ok (.arraylength, 1) := by decide +kernel
theorem dX6_isLost_10 : decode cX6_isLost 10 = .ok (.if_icmp .ge 13, 3) := by decide +kernel
theorem dX6_isLost_13 : decode cX6_isLost 13 = .ok (.aload_n 0, 1) := by decide +kernel
theorem dX6_isLost_14 : decode cX6_isLost 14 = .ok (.getfield 9, 3) := by decide +kernel
theorem dX6_isLost_17 : decode cX6_isLost 17 = .ok (.iload_n 1, 1) := by decide +kernel
theorem dX6_isLost_18 : decode cX6_isLost 18 = .ok (.iaload, 1) := by decide +kernel
theorem dX6_isLost_19 : decode cX6_isLost 19 = .ok (.iconst (-1), 1) := by decide +kernel
theorem dX6_isLost_20 : decode cX6_isLost 20 = .ok (.if_icmp .ne 7, 3) := by decide +kernel
theorem dX6_isLost_23 : decode cX6_isLost 23 = .ok (.iconst 1, 1) := by decide +kernel
theorem dX6_isLost_24 : decode cX6_isLost 24 = .ok (.goto 4, 3) := by decide +kernel
theorem dX6_isLost_27 : decode cX6_isLost 27 = .ok (.iconst 0, 1) := by decide +kernel
theorem dX6_isLost_28 : decode cX6_isLost 28 = .ok (.ireturn, 1) := by decide +kernel
theorem dX6_length_0 : decode cX6_length 0 = .ok (.aload_n 0, 1) := by decide +kernel
theorem dX6_length_1 : decode cX6_length 1 = .ok (.iload_n 1, 1) := by decide +kernel
theorem dX6_length_2 : decode cX6_length 2 = .ok (.invokevirtual 31, 3) := by decide +kernel
theorem dX6_length_5 : decode cX6_length 5 = .ok (.ifCond .eq 7, 3) := by decide +kernel
theorem dX6_length_8 : decode cX6_length 8 = .ok (.iconst 0, 1) := by decide +kernel
theorem dX6_length_9 : decode cX6_length 9 = .ok (.goto 9, 3) := by decide +kernel
theorem dX6_length_12 : decode cX6_length 12 = .ok (.aload_n 0, 1) := by decide +kernel
theorem dX6_length_13 : decode cX6_length 13 = .ok (.getfield 15, 3) := by decide +kernel
theorem dX6_length_16 : decode cX6_length 16 = .ok (.iload_n 1, 1) := by decide +kernel
theorem dX6_length_17 : decode cX6_length 17 = .ok (.iaload, 1) := by decide +kernel
theorem dX6_length_18 : decode cX6_length 18 = .ok (.ireturn, 1) := by decide +kernel
theorem dX6_renew_0 : decode cX6_renew 0 = .ok (.iload_n 1, 1) := by decide +kernel
theorem dX6_renew_1 : decode cX6_renew 1 = .ok (.ifCond .lt 22, 3) := by decide +kernel
theorem dX6_renew_4 : decode cX6_renew 4 = .ok (.iload_n 1, 1) := by decide +kernel
theorem dX6_renew_5 : decode cX6_renew 5 = .ok (.aload_n 0, 1) := by decide +kernel
theorem dX6_renew_6 : decode cX6_renew 6 = .ok (.getfield 9, 3) := by decide +kernel
theorem dX6_renew_9 : decode cX6_renew 9 = .ok (.arraylength, 1) := by decide +kernel
theorem dX6_renew_10 : decode cX6_renew 10 = .ok (.if_icmp .ge 13, 3) := by decide +kernel
theorem dX6_renew_13 : decode cX6_renew 13 = .ok (.iload_n 3, 1) := by decide +kernel
theorem dX6_renew_14 : decode cX6_renew 14 = .ok (.ifCond .lt 9, 3) := by decide +kernel
theorem dX6_renew_17 : decode cX6_renew 17 = .ok (.iload_n 3, 1) := by decide +kernel
theorem dX6_renew_18 : decode cX6_renew 18 = .ok (.bipush 60, 2) := by decide +kernel
theorem dX6_renew_20 : decode cX6_renew 20 = .ok (.if_icmp .le 6, 3) := by decide +kernel
theorem dX6_renew_23 : decode cX6_renew 23 = .ok (.bipush (-2), 2) := by decide +kernel
theorem dX6_renew_25 : decode cX6_renew 25 = .ok (.ireturn, 1) := by decide +kernel
theorem dX6_renew_26 : decode cX6_renew 26 = .ok (.aload_n 0, 1) := by decide +kernel
theorem dX6_renew_27 : decode cX6_renew 27 = .ok (.getfield 9, 3) := by decide +kernel
theorem dX6_renew_30 : decode cX6_renew 30 = .ok (.iload_n 1, 1) := by decide +kernel
theorem dX6_renew_31 : decode cX6_renew 31 = .ok (.iload_n 2, 1) := by decide +kernel
theorem dX6_renew_32 : decode cX6_renew 32 = .ok (.iastore, 1) := by decide +kernel
theorem dX6_renew_33 : decode cX6_renew 33 = .ok (.aload_n 0, 1) := by decide +kernel
theorem dX6_renew_34 : decode cX6_renew 34 = .ok (.getfield 15, 3) := by decide +kernel
theorem dX6_renew_37 : decode cX6_renew 37 = .ok (.iload_n 1, 1) := by decide +kernel
theorem dX6_renew_38 : decode cX6_renew 38 = .ok (.iload_n 3, 1) := by decide +kernel
theorem dX6_renew_39 : decode cX6_renew 39 = .ok (.iastore, 1) := by decide +kernel
theorem dX6_renew_40 : decode cX6_renew 40 = .ok (.iconst 0, 1) := by decide +kernel
theorem dX6_renew_41 : decode cX6_renew 41 = .ok (.istore 4, 2) := by decide +kernel
theorem dX6_renew_43 : decode cX6_renew 43 = .ok (.iload 4, 2) := by decide +kernel
theorem dX6_renew_45 : decode cX6_renew 45 = .ok (.bipush 60, 2) := by decide +kernel
theorem dX6_renew_47 : decode cX6_renew 47 = .ok (.if_icmp .ge 22, 3) := by decide +kernel
theorem dX6_renew_50 : decode cX6_renew 50 = .ok (.aload_n 0, 1) := by decide +kernel
theorem dX6_renew_51 : decode cX6_renew 51 = .ok (.getfield 18, 3) := by decide +kernel
theorem dX6_renew_54 : decode cX6_renew 54 = .ok (.iload_n 1, 1) := by decide +kernel
theorem dX6_renew_55 : decode cX6_renew 55 = .ok (.bipush 60, 2) := by decide +kernel
theorem dX6_renew_57 : decode cX6_renew 57 = .ok (.imul, 1) := by decide +kernel
theorem dX6_renew_58 : decode cX6_renew 58 = .ok (.iload 4, 2) := by decide +kernel
theorem dX6_renew_60 : decode cX6_renew 60 = .ok (.iadd, 1) := by decide +kernel
theorem dX6_renew_61 : decode cX6_renew 61 = .ok (.iconst 0, 1) := by decide +kernel
theorem dX6_renew_62 : decode cX6_renew 62 = .ok (.iastore, 1) := by decide +kernel
theorem dX6_renew_63 : decode cX6_renew 63 = .ok (.iinc 4 1, 3) := by decide +kernel
theorem dX6_renew_66 : decode cX6_renew 66 = .ok (.goto (-23), 3) := by decide +kernel
theorem dX6_renew_69 : decode cX6_renew 69 = .ok (.iload_n 3, 1) := by decide +kernel
theorem dX6_renew_70 : decode cX6_renew 70 = .ok (.ireturn, 1) := by decide +kernel
theorem dX6_drop_0 : decode cX6_drop 0 = .ok (.aload_n 0, 1) := by decide +kernel
theorem dX6_drop_1 : decode cX6_drop 1 = .ok (.iload_n 1, 1) := by decide +kernel
theorem dX6_drop_2 : decode cX6_drop 2 = .ok (.invokevirtual 31, 3) := by decide +kernel
theorem dX6_drop_5 : decode cX6_drop 5 = .ok (.ifCond .eq 5, 3) := by decide +kernel
theorem dX6_drop_8 : decode cX6_drop 8 = .ok (.iconst 0, 1) := by decide +kernel
theorem dX6_drop_9 : decode cX6_drop 9 = .ok (.ireturn, 1) := by decide +kernel
theorem dX6_drop_10 : decode cX6_drop 10 = .ok (.aload_n 0, 1) := by decide +kernel
theorem dX6_drop_11 : decode cX6_drop 11 = .ok (.getfield 9, 3) := by decide +kernel
theorem dX6_drop_14 : decode cX6_drop 14 = .ok (.iload_n 1, 1) := by decide +kernel
theorem dX6_drop_15 : decode cX6_drop 15 = .ok (.iconst (-1), 1) := by decide +kernel
theorem dX6_drop_16 : decode cX6_drop 16 = .ok (.iastore, 1) := by decide +kernel
theorem dX6_drop_17 : decode cX6_drop 17 = .ok (.aload_n 0, 1) := by decide +kernel
theorem dX6_drop_18 : decode cX6_drop 18 = .ok (.getfield 15, 3) := by decide +kernel
theorem dX6_drop_21 : decode cX6_drop 21 = .ok (.iload_n 1, 1) := by decide +kernel
theorem dX6_drop_22 : decode cX6_drop 22 = .ok (.iaload, 1) := by decide +kernel
theorem dX6_drop_23 : decode cX6_drop 23 = .ok (.ireturn, 1) := by decide +kernel
theorem dX6_holds_0 : decode cX6_holds 0 = .ok (.iload_n 2, 1) := by decide +kernel
theorem dX6_holds_1 : decode cX6_holds 1 = .ok (.ifCond .lt 22, 3) := by decide +kernel
theorem dX6_holds_4 : decode cX6_holds 4 = .ok (.iload_n 3, 1) := by decide +kernel
theorem dX6_holds_5 : decode cX6_holds 5 = .ok (.ifCond .lt 18, 3) := by decide +kernel
theorem dX6_holds_8 : decode cX6_holds 8 = .ok (.iload_n 2, 1) := by decide +kernel
theorem dX6_holds_9 : decode cX6_holds 9 = .ok (.aload_n 0, 1) := by decide +kernel
theorem dX6_holds_10 : decode cX6_holds 10 = .ok (.iload_n 1, 1) := by decide +kernel
theorem dX6_holds_11 : decode cX6_holds 11 = .ok (.invokevirtual 35, 3) := by decide +kernel
theorem dX6_holds_14 : decode cX6_holds 14 = .ok (.iload_n 3, 1) := by decide +kernel
theorem dX6_holds_15 : decode cX6_holds 15 = .ok (.isub, 1) := by decide +kernel
theorem dX6_holds_16 : decode cX6_holds 16 = .ok (.if_icmp .gt 7, 3) := by decide +kernel
theorem dX6_holds_19 : decode cX6_holds 19 = .ok (.iconst 1, 1) := by decide +kernel
theorem dX6_holds_20 : decode cX6_holds 20 = .ok (.goto 4, 3) := by decide +kernel
theorem dX6_holds_23 : decode cX6_holds 23 = .ok (.iconst 0, 1) := by decide +kernel
theorem dX6_holds_24 : decode cX6_holds 24 = .ok (.ireturn, 1) := by decide +kernel
theorem dX6_alike_0 : decode cX6_alike 0 = .ok (.aload_n 0, 1) := by decide +kernel
theorem dX6_alike_1 : decode cX6_alike 1 = .ok (.iload_n 1, 1) := by decide +kernel
theorem dX6_alike_2 : decode cX6_alike 2 = .ok (.invokevirtual 31, 3) := by decide +kernel
theorem dX6_alike_5 : decode cX6_alike 5 = .ok (.ifCond .ne 30, 3) := by decide +kernel
theorem dX6_alike_8 : decode cX6_alike 8 = .ok (.aload_n 0, 1) := by decide +kernel
theorem dX6_alike_9 : decode cX6_alike 9 = .ok (.iload_n 2, 1) := by decide +kernel
theorem dX6_alike_10 : decode cX6_alike 10 = .ok (.invokevirtual 31, 3) := by decide +kernel
theorem dX6_alike_13 : decode cX6_alike 13 = .ok (.ifCond .ne 22, 3) := by decide +kernel
theorem dX6_alike_16 : decode cX6_alike 16 = .ok (.aload_n 0, 1) := by decide +kernel
theorem dX6_alike_17 : decode cX6_alike 17 = .ok (.getfield 9, 3) := by decide +kernel
theorem dX6_alike_20 : decode cX6_alike 20 = .ok (.iload_n 1, 1) := by decide +kernel
theorem dX6_alike_21 : decode cX6_alike 21 = .ok (.iaload, 1) := by decide +kernel
theorem dX6_alike_22 : decode cX6_alike 22 = .ok (.aload_n 0, 1) := by decide +kernel
theorem dX6_alike_23 : decode cX6_alike 23 = .ok (.getfield 9, 3) := by decide +kernel
theorem dX6_alike_26 : decode cX6_alike 26 = .ok (.iload_n 2, 1) := by decide +kernel
theorem dX6_alike_27 : decode cX6_alike 27 = .ok (.iaload, 1) := by decide +kernel
theorem dX6_alike_28 : decode cX6_alike 28 = .ok (.if_icmp .ne 7, 3) := by decide +kernel
theorem dX6_alike_31 : decode cX6_alike 31 = .ok (.iconst 1, 1) := by decide +kernel
theorem dX6_alike_32 : decode cX6_alike 32 = .ok (.goto 4, 3) := by decide +kernel
theorem dX6_alike_35 : decode cX6_alike 35 = .ok (.iconst 0, 1) := by decide +kernel
theorem dX6_alike_36 : decode cX6_alike 36 = .ok (.ireturn, 1) := by decide +kernel
theorem dX6_faultAt_0 : decode cX6_faultAt 0 = .ok (.aload_n 0, 1) := by decide +kernel
theorem dX6_faultAt_1 : decode cX6_faultAt 1 = .ok (.iload_n 1, 1) := by decide +kernel
theorem dX6_faultAt_2 : decode cX6_faultAt 2 = .ok (.invokevirtual 31, 3) := by decide +kernel
theorem dX6_faultAt_5 : decode cX6_faultAt 5 = .ok (.ifCond .eq 5, 3) := by decide +kernel
theorem dX6_faultAt_8 : decode cX6_faultAt 8 = .ok (.iconst 1, 1) := by decide +kernel
theorem dX6_faultAt_9 : decode cX6_faultAt 9 = .ok (.ireturn, 1) := by decide +kernel
theorem dX6_faultAt_10 : decode cX6_faultAt 10 = .ok (.aload_n 0, 1) := by decide +kernel
theorem dX6_faultAt_11 : decode cX6_faultAt 11 = .ok (.getfield 9, 3) := by decide +kernel
theorem dX6_faultAt_14 : decode cX6_faultAt 14 = .ok (.iload_n 1, 1) := by decide +kernel
theorem dX6_faultAt_15 : decode cX6_faultAt 15 = .ok (.iaload, 1) := by decide +kernel
theorem dX6_faultAt_16 : decode cX6_faultAt 16 = .ok (.iload_n 2, 1) := by decide +kernel
theorem dX6_faultAt_17 : decode cX6_faultAt 17 = .ok (.if_icmp .eq 5, 3) := by decide +kernel
theorem dX6_faultAt_20 : decode cX6_faultAt 20 = .ok (.iconst 3, 1) := by decide +kernel
theorem dX6_faultAt_21 : decode cX6_faultAt 21 = .ok (.ireturn, 1) := by decide +kernel
theorem dX6_faultAt_22 : decode cX6_faultAt 22 = .ok (.aload_n 0, 1) := by decide +kernel
theorem dX6_faultAt_23 : decode cX6_faultAt 23 = .ok (.iload_n 1, 1) := by decide +kernel
theorem dX6_faultAt_24 : decode cX6_faultAt 24 = .ok (.iload_n 3, 1) := by decide +kernel
theorem dX6_faultAt_25 : decode cX6_faultAt 25 = .ok (.iconst 1, 1) := by decide +kernel
theorem dX6_faultAt_26 : decode cX6_faultAt 26 = .ok (.invokevirtual 39, 3) := by decide +kernel
theorem dX6_faultAt_29 : decode cX6_faultAt 29 = .ok (.ifCond .eq 7, 3) := by decide +kernel
theorem dX6_faultAt_32 : decode cX6_faultAt 32 = .ok (.iconst 0, 1) := by decide +kernel
theorem dX6_faultAt_33 : decode cX6_faultAt 33 = .ok (.goto 4, 3) := by decide +kernel
theorem dX6_faultAt_36 : decode cX6_faultAt 36 = .ok (.iconst 2, 1) := by decide +kernel
theorem dX6_faultAt_37 : decode cX6_faultAt 37 = .ok (.ireturn, 1) := by decide +kernel
theorem dX6_item_0 : decode cX6_item 0 = .ok (.aload_n 0, 1) := by decide +kernel
theorem dX6_item_1 : decode cX6_item 1 = .ok (.iload_n 1, 1) := by decide +kernel
theorem dX6_item_2 : decode cX6_item 2 = .ok (.iload_n 2, 1) := by decide +kernel
theorem dX6_item_3 : decode cX6_item 3 = .ok (.iconst 1, 1) := by decide +kernel
theorem dX6_item_4 : decode cX6_item 4 = .ok (.invokevirtual 39, 3) := by decide +kernel
theorem dX6_item_7 : decode cX6_item 7 = .ok (.ifCond .eq 17, 3) := by decide +kernel
theorem dX6_item_10 : decode cX6_item 10 = .ok (.aload_n 0, 1) := by decide +kernel
theorem dX6_item_11 : decode cX6_item 11 = .ok (.getfield 18, 3) := by decide +kernel
theorem dX6_item_14 : decode cX6_item 14 = .ok (.iload_n 1, 1) := by decide +kernel
theorem dX6_item_15 : decode cX6_item 15 = .ok (.bipush 60, 2) := by decide +kernel
theorem dX6_item_17 : decode cX6_item 17 = .ok (.imul, 1) := by decide +kernel
theorem dX6_item_18 : decode cX6_item 18 = .ok (.iload_n 2, 1) := by decide +kernel
theorem dX6_item_19 : decode cX6_item 19 = .ok (.iadd, 1) := by decide +kernel
theorem dX6_item_20 : decode cX6_item 20 = .ok (.iaload, 1) := by decide +kernel
theorem dX6_item_21 : decode cX6_item 21 = .ok (.goto 4, 3) := by decide +kernel
theorem dX6_item_24 : decode cX6_item 24 = .ok (.iconst 0, 1) := by decide +kernel
theorem dX6_item_25 : decode cX6_item 25 = .ok (.ireturn, 1) := by decide +kernel
theorem dX6_store_0 : decode cX6_store 0 = .ok (.aload_n 0, 1) := by decide +kernel
theorem dX6_store_1 : decode cX6_store 1 = .ok (.iload_n 1, 1) := by decide +kernel
theorem dX6_store_2 : decode cX6_store 2 = .ok (.iload_n 2, 1) := by decide +kernel
theorem dX6_store_3 : decode cX6_store 3 = .ok (.iconst 1, 1) := by decide +kernel
theorem dX6_store_4 : decode cX6_store 4 = .ok (.invokevirtual 39, 3) := by decide +kernel
theorem dX6_store_7 : decode cX6_store 7 = .ok (.ifCond .eq 44, 3) := by decide +kernel
theorem dX6_store_10 : decode cX6_store 10 = .ok (.aload_n 0, 1) := by decide +kernel
theorem dX6_store_11 : decode cX6_store 11 = .ok (.getfield 18, 3) := by decide +kernel
theorem dX6_store_14 : decode cX6_store 14 = .ok (.iload_n 1, 1) := by decide +kernel
theorem dX6_store_15 : decode cX6_store 15 = .ok (.bipush 60, 2) := by decide +kernel
theorem dX6_store_17 : decode cX6_store 17 = .ok (.imul, 1) := by decide +kernel
theorem dX6_store_18 : decode cX6_store 18 = .ok (.iload_n 2, 1) := by decide +kernel
theorem dX6_store_19 : decode cX6_store 19 = .ok (.iadd, 1) := by decide +kernel
theorem dX6_store_20 : decode cX6_store 20 = .ok (.aload_n 0, 1) := by decide +kernel
theorem dX6_store_21 : decode cX6_store 21 = .ok (.getfield 9, 3) := by decide +kernel
theorem dX6_store_24 : decode cX6_store 24 = .ok (.iload_n 1, 1) := by decide +kernel
theorem dX6_store_25 : decode cX6_store 25 = .ok (.iaload, 1) := by decide +kernel
theorem dX6_store_26 : decode cX6_store 26 = .ok (.ifCond .ne 8, 3) := by decide +kernel
theorem dX6_store_29 : decode cX6_store 29 = .ok (.iload_n 3, 1) := by decide +kernel
theorem dX6_store_30 : decode cX6_store 30 = .ok (.i2b, 1) := by decide +kernel
theorem dX6_store_31 : decode cX6_store 31 = .ok (.goto 19, 3) := by decide +kernel
theorem dX6_store_34 : decode cX6_store 34 = .ok (.aload_n 0, 1) := by decide +kernel
theorem dX6_store_35 : decode cX6_store 35 = .ok (.getfield 9, 3) := by decide +kernel
theorem dX6_store_38 : decode cX6_store 38 = .ok (.iload_n 1, 1) := by decide +kernel
theorem dX6_store_39 : decode cX6_store 39 = .ok (.iaload, 1) := by decide +kernel
theorem dX6_store_40 : decode cX6_store 40 = .ok (.iconst 1, 1) := by decide +kernel
theorem dX6_store_41 : decode cX6_store 41 = .ok (.if_icmp .ne 8, 3) := by decide +kernel
theorem dX6_store_44 : decode cX6_store 44 = .ok (.iload_n 3, 1) := by decide +kernel
theorem dX6_store_45 : decode cX6_store 45 = .ok (.i2s, 1) := by decide +kernel
theorem dX6_store_46 : decode cX6_store 46 = .ok (.goto 4, 3) := by decide +kernel
theorem dX6_store_49 : decode cX6_store 49 = .ok (.iload_n 3, 1) := by decide +kernel
theorem dX6_store_50 : decode cX6_store 50 = .ok (.iastore, 1) := by decide +kernel
theorem dX6_store_51 : decode cX6_store 51 = .ok (.return_, 1) := by decide +kernel
theorem dX6_move_0 : decode cX6_move 0 = .ok (.aload_n 0, 1) := by decide +kernel
theorem dX6_move_1 : decode cX6_move 1 = .ok (.iload_n 1, 1) := by decide +kernel
theorem dX6_move_2 : decode cX6_move 2 = .ok (.iload_n 2, 1) := by decide +kernel
theorem dX6_move_3 : decode cX6_move 3 = .ok (.iload 5, 2) := by decide +kernel
theorem dX6_move_5 : decode cX6_move 5 = .ok (.invokevirtual 39, 3) := by decide +kernel
theorem dX6_move_8 : decode cX6_move 8 = .ok (.ifCond .eq 41, 3) := by decide +kernel
theorem dX6_move_11 : decode cX6_move 11 = .ok (.aload_n 0, 1) := by decide +kernel
theorem dX6_move_12 : decode cX6_move 12 = .ok (.iload_n 3, 1) := by decide +kernel
theorem dX6_move_13 : decode cX6_move 13 = .ok (.iload 4, 2) := by decide +kernel
theorem dX6_move_15 : decode cX6_move 15 = .ok (.iload 5, 2) := by decide +kernel
theorem dX6_move_17 : decode cX6_move 17 = .ok (.invokevirtual 39, 3) := by decide +kernel
theorem dX6_move_20 : decode cX6_move 20 = .ok (.ifCond .eq 29, 3) := by decide +kernel
theorem dX6_move_23 : decode cX6_move 23 = .ok (.aload_n 0, 1) := by decide +kernel
theorem dX6_move_24 : decode cX6_move 24 = .ok (.getfield 18, 3) := by decide +kernel
theorem dX6_move_27 : decode cX6_move 27 = .ok (.iload_n 1, 1) := by decide +kernel
theorem dX6_move_28 : decode cX6_move 28 = .ok (.bipush 60, 2) := by decide +kernel
theorem dX6_move_30 : decode cX6_move 30 = .ok (.imul, 1) := by decide +kernel
theorem dX6_move_31 : decode cX6_move 31 = .ok (.iload_n 2, 1) := by decide +kernel
theorem dX6_move_32 : decode cX6_move 32 = .ok (.iadd, 1) := by decide +kernel
theorem dX6_move_33 : decode cX6_move 33 = .ok (.aload_n 0, 1) := by decide +kernel
theorem dX6_move_34 : decode cX6_move 34 = .ok (.getfield 18, 3) := by decide +kernel
theorem dX6_move_37 : decode cX6_move 37 = .ok (.iload_n 3, 1) := by decide +kernel
theorem dX6_move_38 : decode cX6_move 38 = .ok (.bipush 60, 2) := by decide +kernel
theorem dX6_move_40 : decode cX6_move 40 = .ok (.imul, 1) := by decide +kernel
theorem dX6_move_41 : decode cX6_move 41 = .ok (.iload 4, 2) := by decide +kernel
theorem dX6_move_43 : decode cX6_move 43 = .ok (.iadd, 1) := by decide +kernel
theorem dX6_move_44 : decode cX6_move 44 = .ok (.iload 5, 2) := by decide +kernel
theorem dX6_move_46 : decode cX6_move 46 = .ok (.invokestatic 43, 3) := by decide +kernel
theorem dX6_move_49 : decode cX6_move 49 = .ok (.return_, 1) := by decide +kernel
theorem dX7_init_0 : decode cX7_init 0 = .ok (.aload_n 0, 1) := by decide +kernel
theorem dX7_init_1 : decode cX7_init 1 = .ok (.invokespecial 3, 3) := by decide +kernel
theorem dX7_init_4 : decode cX7_init 4 = .ok (.aload_n 0, 1) := by decide +kernel
theorem dX7_init_5 : decode cX7_init 5 = .ok (.iconst 0, 1) := by decide +kernel
theorem dX7_init_6 : decode cX7_init 6 = .ok (.putfield 9, 3) := by decide +kernel
theorem dX7_init_9 : decode cX7_init 9 = .ok (.aload_n 0, 1) := by decide +kernel
theorem dX7_init_10 : decode cX7_init 10 = .ok (.iload_n 1, 1) := by decide +kernel
theorem dX7_init_11 : decode cX7_init 11 = .ok (.iconst 0, 1) := by decide +kernel
theorem dX7_init_12 : decode cX7_init 12 = .ok (.invokestatic 15, 3) := by decide +kernel
theorem dX7_init_15 : decode cX7_init 15 = .ok (.newarray .int, 2) := by decide +kernel
theorem dX7_init_17 : decode cX7_init 17 = .ok (.putfield 21, 3) := by decide +kernel
theorem dX7_init_20 : decode cX7_init 20 = .ok (.aload_n 0, 1) := by decide +kernel
theorem dX7_init_21 : decode cX7_init 21 = .ok (.aload_n 2, 1) := by decide +kernel
theorem dX7_init_22 : decode cX7_init 22 = .ok (.putfield 25, 3) := by decide +kernel
theorem dX7_init_25 : decode cX7_init 25 = .ok (.aload_n 0, 1) := by decide +kernel
theorem dX7_init_26 : decode cX7_init 26 = .ok (.aload_n 3, 1) := by decide +kernel
theorem dX7_init_27 : decode cX7_init 27 = .ok (.putfield 29, 3) := by decide +kernel
theorem dX7_init_30 : decode cX7_init 30 = .ok (.aload_n 0, 1) := by decide +kernel
theorem dX7_init_31 : decode cX7_init 31 = .ok (.aload 4, 2) := by decide +kernel
theorem dX7_init_33 : decode cX7_init 33 = .ok (.putfield 32, 3) := by decide +kernel
theorem dX7_init_36 : decode cX7_init 36 = .ok (.return_, 1) := by decide +kernel
theorem dX7_append_0 : decode cX7_append 0 = .ok (.aload_n 0, 1) := by decide +kernel
theorem dX7_append_1 : decode cX7_append 1 = .ok (.getfield 9, 3) := by decide +kernel
theorem dX7_append_4 : decode cX7_append 4 = .ok (.ifCond .lt 15, 3) := by decide +kernel
theorem dX7_append_7 : decode cX7_append 7 = .ok (.aload_n 0, 1) := by decide +kernel
theorem dX7_append_8 : decode cX7_append 8 = .ok (.getfield 9, 3) := by decide +kernel
theorem dX7_append_11 : decode cX7_append 11 = .ok (.aload_n 0, 1) := by decide +kernel
theorem dX7_append_12 : decode cX7_append 12 = .ok (.getfield 21, 3) := by decide +kernel
theorem dX7_append_15 : decode cX7_append 15 = .ok (.arraylength, 1) := by decide +kernel
theorem dX7_append_16 : decode cX7_append 16 = .ok (.if_icmp .lt 6, 3) := by decide +kernel
theorem dX7_append_19 : decode cX7_append 19 = .ok (.bipush (-4), 2) := by decide +kernel
theorem dX7_append_21 : decode cX7_append 21 = .ok (.ireturn, 1) := by decide +kernel
theorem dX7_append_22 : decode cX7_append 22 = .ok (.aload_n 0, 1) := by decide +kernel
theorem dX7_append_23 : decode cX7_append 23 = .ok (.getfield 21, 3) := by decide +kernel
theorem dX7_append_26 : decode cX7_append 26 = .ok (.aload_n 0, 1) := by decide +kernel
theorem dX7_append_27 : decode cX7_append 27 = .ok (.getfield 9, 3) := by decide +kernel
theorem dX7_append_30 : decode cX7_append 30 = .ok (.iload_n 1, 1) := by decide +kernel
theorem dX7_append_31 : decode cX7_append 31 = .ok (.iastore, 1) := by decide +kernel
theorem dX7_append_32 : decode cX7_append 32 = .ok (.aload_n 0, 1) := by decide +kernel
theorem dX7_append_33 : decode cX7_append 33 = .ok (.dup, 1) := by decide +kernel
theorem dX7_append_34 : decode cX7_append 34 = .ok (.getfield 9, 3) := by decide +kernel
theorem dX7_append_37 : decode cX7_append 37 = .ok (.iconst 1, 1) := by decide +kernel
theorem dX7_append_38 : decode cX7_append 38 = .ok (.iadd, 1) := by decide +kernel
theorem dX7_append_39 : decode cX7_append 39 = .ok (.putfield 9, 3) := by decide +kernel
theorem dX7_append_42 : decode cX7_append 42 = .ok (.aload_n 0, 1) := by decide +kernel
theorem dX7_append_43 : decode cX7_append 43 = .ok (.getfield 9, 3) := by decide +kernel
theorem dX7_append_46 : decode cX7_append 46 = .ok (.ireturn, 1) := by decide +kernel
theorem dX7_faultPlace_0 : decode cX7_faultPlace 0 = .ok (.iconst 0, 1) := by decide +kernel
theorem dX7_faultPlace_1 : decode cX7_faultPlace 1 = .ok (.istore_n 1, 1) := by decide +kernel
theorem dX7_faultPlace_2 : decode cX7_faultPlace 2 = .ok (.iload_n 1, 1) := by decide +kernel
theorem dX7_faultPlace_3 : decode cX7_faultPlace 3 = .ok (.aload_n 0, 1) := by decide +kernel
theorem dX7_faultPlace_4 : decode cX7_faultPlace 4 = .ok (.getfield 9, 3) := by decide +kernel
theorem dX7_faultPlace_7 : decode cX7_faultPlace 7 = .ok (.if_icmp .ge 19, 3) := by decide +kernel
theorem dX7_faultPlace_10 : decode cX7_faultPlace 10 = .ok (.aload_n 0, 1) := by decide +kernel
theorem dX7_faultPlace_11 : decode cX7_faultPlace 11 = .ok (.iload_n 1, 1) := by decide +kernel
theorem dX7_faultPlace_12 : decode cX7_faultPlace 12 = .ok (.invokevirtual 35, 3) := by decide +kernel
theorem dX7_faultPlace_15 : decode cX7_faultPlace 15 = .ok (.ifCond .ge 5, 3) := by decide +kernel
theorem dX7_faultPlace_18 : decode cX7_faultPlace 18 = .ok (.iload_n 1, 1) := by decide +kernel
theorem dX7_faultPlace_19 : decode cX7_faultPlace 19 = .ok (.ireturn, 1) := by decide +kernel
theorem dX7_faultPlace_20 : decode cX7_faultPlace 20 = .ok (.iinc 1 1, 3) := by decide +kernel
theorem dX7_faultPlace_23 : decode cX7_faultPlace 23 = .ok (.goto (-21), 3) := by decide +kernel
theorem dX7_faultPlace_26 : decode cX7_faultPlace 26 = .ok (.aload_n 0, 1) := by decide +kernel
theorem dX7_faultPlace_27 : decode cX7_faultPlace 27 = .ok (.getfield 9, 3) := by decide +kernel
theorem dX7_faultPlace_30 : decode cX7_faultPlace 30 = .ok (.ifCond .eq 13, 3) := by decide +kernel
theorem dX7_faultPlace_33 : decode cX7_faultPlace 33 = .ok (.aload_n 0, 1) := by decide +kernel
theorem dX7_faultPlace_34 : decode cX7_faultPlace 34 = .ok (.getfield 9, 3) := by decide +kernel
theorem dX7_faultPlace_37 : decode cX7_faultPlace 37 = .ok (.iconst 4, 1) := by decide +kernel
theorem dX7_faultPlace_38 : decode cX7_faultPlace 38 = .ok (.irem, 1) := by decide +kernel
theorem dX7_faultPlace_39 : decode cX7_faultPlace 39 = .ok (.iconst 3, 1) := by decide +kernel
theorem dX7_faultPlace_40 : decode cX7_faultPlace 40 = .ok (.if_icmp .ne 7, 3) := by decide +kernel
theorem dX7_faultPlace_43 : decode cX7_faultPlace 43 = .ok (.iconst (-1), 1) := by decide +kernel
theorem dX7_faultPlace_44 : decode cX7_faultPlace 44 = .ok (.goto 7, 3) := by decide +kernel
theorem dX7_faultPlace_47 : decode cX7_faultPlace 47 = .ok (.aload_n 0, 1) := by decide +kernel
theorem dX7_faultPlace_48 : decode cX7_faultPlace 48 = .ok (.getfield 9, 3) := by decide +kernel
theorem dX7_faultPlace_51 : decode cX7_faultPlace 51 = .ok (.ireturn, 1) := by decide +kernel
theorem dX7_readInto_0 : decode cX7_readInto 0 = .ok (.aload_n 1, 1) := by decide +kernel
theorem dX7_readInto_1 : decode cX7_readInto 1 = .ok (.iconst 0, 1) := by decide +kernel
theorem dX7_readInto_2 : decode cX7_readInto 2 = .ok (.putfield 39, 3) := by decide +kernel
theorem dX7_readInto_5 : decode cX7_readInto 5 = .ok (.aload_n 0, 1) := by decide +kernel
theorem dX7_readInto_6 : decode cX7_readInto 6 = .ok (.invokevirtual 44, 3) := by decide +kernel
theorem dX7_readInto_9 : decode cX7_readInto 9 = .ok (.iconst (-1), 1) := by decide +kernel
theorem dX7_readInto_10 : decode cX7_readInto 10 = .ok (.if_icmp .eq 4, 3) := by decide +kernel
theorem dX7_readInto_13 : decode cX7_readInto 13 = .ok (.return_, 1) := by decide +kernel
theorem dX7_readInto_14 : decode cX7_readInto 14 = .ok (.iconst 0, 1) := by decide +kernel
theorem dX7_readInto_15 : decode cX7_readInto 15 = .ok (.istore_n 2, 1) := by decide +kernel
theorem dX7_readInto_16 : decode cX7_readInto 16 = .ok (.iload_n 2, 1) := by decide +kernel
theorem dX7_readInto_17 : decode cX7_readInto 17 = .ok (.iconst 2, 1) := by decide +kernel
theorem dX7_readInto_18 : decode cX7_readInto 18 = .ok (.iadd, 1) := by decide +kernel
theorem dX7_readInto_19 : decode cX7_readInto 19 = .ok (.aload_n 0, 1) := by decide +kernel
theorem dX7_readInto_20 : decode cX7_readInto 20 = .ok (.getfield 9, 3) := by decide +kernel
theorem dX7_readInto_23 : decode cX7_readInto 23 = .ok (.if_icmp .ge 33, 3) := by decide +kernel
theorem dX7_readInto_26 : decode cX7_readInto 26 = .ok (.aload_n 1, 1) := by decide +kernel
theorem dX7_readInto_27 : decode cX7_readInto 27 = .ok (.aload_n 0, 1) := by decide +kernel
theorem dX7_readInto_28 : decode cX7_readInto 28 = .ok (.iload_n 2, 1) := by decide +kernel
theorem dX7_readInto_29 : decode cX7_readInto 29 = .ok (.invokevirtual 35, 3) := by decide +kernel
theorem dX7_readInto_32 : decode cX7_readInto 32 = .ok (.aload_n 0, 1) := by decide +kernel
theorem dX7_readInto_33 : decode cX7_readInto 33 = .ok (.iload_n 2, 1) := by decide +kernel
theorem dX7_readInto_34 : decode cX7_readInto 34 = .ok (.iconst 1, 1) := by decide +kernel
theorem dX7_readInto_35 : decode cX7_readInto 35 = .ok (.iadd, 1) := by decide +kernel
theorem dX7_readInto_36 : decode cX7_readInto 36 = .ok (.invokevirtual 35, 3) := by decide +kernel
theorem dX7_readInto_39 : decode cX7_readInto 39 = .ok (.aload_n 0, 1) := by decide +kernel
theorem dX7_readInto_40 : decode cX7_readInto 40 = .ok (.iload_n 2, 1) := by decide +kernel
theorem dX7_readInto_41 : decode cX7_readInto 41 = .ok (.iconst 2, 1) := by decide +kernel
theorem dX7_readInto_42 : decode cX7_readInto 42 = .ok (.iadd, 1) := by decide +kernel
theorem dX7_readInto_43 : decode cX7_readInto 43 = .ok (.invokevirtual 35, 3) := by decide +kernel
theorem dX7_readInto_46 : decode cX7_readInto 46 = .ok (.invokevirtual 48, 3) := by decide +kernel
theorem dX7_readInto_49 : decode cX7_readInto 49 = .ok (.pop, 1) := by decide +kernel
theorem dX7_readInto_50 : decode cX7_readInto 50 = .ok (.iinc 2 4, 3) := by decide +kernel
theorem dX7_readInto_53 : decode cX7_readInto 53 = .ok (.goto (-37), 3) := by decide +kernel
theorem dX7_readInto_56 : decode cX7_readInto 56 = .ok (.return_, 1) := by decide +kernel
theorem dX7_meaningAt_0 : decode cX7_meaningAt 0 = .ok (.iload_n 1, 1) := by decide +kernel
theorem dX7_meaningAt_1 : decode cX7_meaningAt 1 = .ok (.ifCond .lt 12, 3) := by decide +kernel
theorem dX7_meaningAt_4 : decode cX7_meaningAt 4 = .ok (.iload_n 1, 1) := by decide +kernel
theorem dX7_meaningAt_5 : decode cX7_meaningAt 5 = .ok (.aload_n 0, 1) := by decide +kernel
theorem dX7_meaningAt_6 : decode cX7_meaningAt 6 = .ok (.getfield 21, 3) := by decide +kernel
theorem dX7_meaningAt_9 : decode cX7_meaningAt 9 = .ok (.arraylength, 1) := by decide +kernel
theorem dX7_meaningAt_10 : decode cX7_meaningAt 10 = .ok (.if_icmp .lt 5, 3) := by decide +kernel
theorem dX7_meaningAt_13 : decode cX7_meaningAt 13 = .ok (.iconst (-1), 1) := by decide +kernel
theorem dX7_meaningAt_14 : decode cX7_meaningAt 14 = .ok (.ireturn, 1) := by decide +kernel
theorem dX7_meaningAt_15 : decode cX7_meaningAt 15 = .ok (.aload_n 0, 1) := by decide +kernel
theorem dX7_meaningAt_16 : decode cX7_meaningAt 16 = .ok (.iload_n 1, 1) := by decide +kernel
theorem dX7_meaningAt_17 : decode cX7_meaningAt 17 = .ok (.iconst 4, 1) := by decide +kernel
theorem dX7_meaningAt_18 : decode cX7_meaningAt 18 = .ok (.irem, 1) := by decide +kernel
theorem dX7_meaningAt_19 : decode cX7_meaningAt 19 = .ok (.invokevirtual 52, 3) := by decide +kernel
theorem dX7_meaningAt_22 : decode cX7_meaningAt 22 = .ok (.aload_n 0, 1) := by decide +kernel
theorem dX7_meaningAt_23 : decode cX7_meaningAt 23 = .ok (.getfield 21, 3) := by decide +kernel
theorem dX7_meaningAt_26 : decode cX7_meaningAt 26 = .ok (.iload_n 1, 1) := by decide +kernel
theorem dX7_meaningAt_27 : decode cX7_meaningAt 27 = .ok (.iaload, 1) := by decide +kernel
theorem dX7_meaningAt_28 : decode cX7_meaningAt 28 = .ok (.i2c, 1) := by decide +kernel
theorem dX7_meaningAt_29 : decode cX7_meaningAt 29 = .ok (.invokevirtual 56, 3) := by decide +kernel
theorem dX7_meaningAt_32 : decode cX7_meaningAt 32 = .ok (.ireturn, 1) := by decide +kernel
theorem dX7_signsAt_0 : decode cX7_signsAt 0 = .ok (.iload_n 1, 1) := by decide +kernel
theorem dX7_signsAt_1 : decode cX7_signsAt 1 = .ok (.tableswitch 42 0 2 #[27, 32, 37], 27) := by decide +kernel
theorem dX7_signsAt_28 : decode cX7_signsAt 28 = .ok (.aload_n 0, 1) := by decide +kernel
theorem dX7_signsAt_29 : decode cX7_signsAt 29 = .ok (.getfield 25, 3) := by decide +kernel
theorem dX7_signsAt_32 : decode cX7_signsAt 32 = .ok (.areturn, 1) := by decide +kernel
theorem dX7_signsAt_33 : decode cX7_signsAt 33 = .ok (.aload_n 0, 1) := by decide +kernel
theorem dX7_signsAt_34 : decode cX7_signsAt 34 = .ok (.getfield 29, 3) := by decide +kernel
theorem dX7_signsAt_37 : decode cX7_signsAt 37 = .ok (.areturn, 1) := by decide +kernel
theorem dX7_signsAt_38 : decode cX7_signsAt 38 = .ok (.aload_n 0, 1) := by decide +kernel
theorem dX7_signsAt_39 : decode cX7_signsAt 39 = .ok (.getfield 32, 3) := by decide +kernel
theorem dX7_signsAt_42 : decode cX7_signsAt 42 = .ok (.areturn, 1) := by decide +kernel
theorem dX7_signsAt_43 : decode cX7_signsAt 43 = .ok (.ldc 61, 2) := by decide +kernel
theorem dX7_signsAt_45 : decode cX7_signsAt 45 = .ok (.areturn, 1) := by decide +kernel
theorem dX8_init_0 : decode cX8_init 0 = .ok (.aload_n 0, 1) := by decide +kernel
theorem dX8_init_1 : decode cX8_init 1 = .ok (.invokespecial 3, 3) := by decide +kernel
theorem dX8_init_4 : decode cX8_init 4 = .ok (.aload_n 0, 1) := by decide +kernel
theorem dX8_init_5 : decode cX8_init 5 = .ok (.new 9, 3) := by decide +kernel
theorem dX8_init_8 : decode cX8_init 8 = .ok (.dup, 1) := by decide +kernel
theorem dX8_init_9 : decode cX8_init 9 = .ok (.bipush 8, 2) := by decide +kernel
theorem dX8_init_11 : decode cX8_init 11 = .ok (.invokespecial 11, 3) := by decide +kernel
theorem dX8_init_14 : decode cX8_init 14 = .ok (.putfield 14, 3) := by decide +kernel
theorem dX8_init_17 : decode cX8_init 17 = .ok (.aload_n 0, 1) := by decide +kernel
theorem dX8_init_18 : decode cX8_init 18 = .ok (.new 9, 3) := by decide +kernel
theorem dX8_init_21 : decode cX8_init 21 = .ok (.dup, 1) := by decide +kernel
theorem dX8_init_22 : decode cX8_init 22 = .ok (.bipush 10, 2) := by decide +kernel
theorem dX8_init_24 : decode cX8_init 24 = .ok (.invokespecial 11, 3) := by decide +kernel
theorem dX8_init_27 : decode cX8_init 27 = .ok (.putfield 20, 3) := by decide +kernel
theorem dX8_init_30 : decode cX8_init 30 = .ok (.aload_n 0, 1) := by decide +kernel
theorem dX8_init_31 : decode cX8_init 31 = .ok (.new 9, 3) := by decide +kernel
theorem dX8_init_34 : decode cX8_init 34 = .ok (.dup, 1) := by decide +kernel
theorem dX8_init_35 : decode cX8_init 35 = .ok (.bipush 9, 2) := by decide +kernel
theorem dX8_init_37 : decode cX8_init 37 = .ok (.invokespecial 11, 3) := by decide +kernel
theorem dX8_init_40 : decode cX8_init 40 = .ok (.putfield 23, 3) := by decide +kernel
theorem dX8_init_43 : decode cX8_init 43 = .ok (.aload_n 0, 1) := by decide +kernel
theorem dX8_init_44 : decode cX8_init 44 = .ok (.new 9, 3) := by decide +kernel
theorem dX8_init_47 : decode cX8_init 47 = .ok (.dup, 1) := by decide +kernel
theorem dX8_init_48 : decode cX8_init 48 = .ok (.bipush 8, 2) := by decide +kernel
theorem dX8_init_50 : decode cX8_init 50 = .ok (.invokespecial 11, 3) := by decide +kernel
theorem dX8_init_53 : decode cX8_init 53 = .ok (.putfield 26, 3) := by decide +kernel
theorem dX8_init_56 : decode cX8_init 56 = .ok (.aload_n 0, 1) := by decide +kernel
theorem dX8_init_57 : decode cX8_init 57 = .ok (.new 9, 3) := by decide +kernel
theorem dX8_init_60 : decode cX8_init 60 = .ok (.dup, 1) := by decide +kernel
theorem dX8_init_61 : decode cX8_init 61 = .ok (.bipush 8, 2) := by decide +kernel
theorem dX8_init_63 : decode cX8_init 63 = .ok (.invokespecial 11, 3) := by decide +kernel
theorem dX8_init_66 : decode cX8_init 66 = .ok (.putfield 29, 3) := by decide +kernel
theorem dX8_init_69 : decode cX8_init 69 = .ok (.aload_n 0, 1) := by decide +kernel
theorem dX8_init_70 : decode cX8_init 70 = .ok (.iconst 3, 1) := by decide +kernel
theorem dX8_init_71 : decode cX8_init 71 = .ok (.putfield 32, 3) := by decide +kernel
theorem dX8_init_74 : decode cX8_init 74 = .ok (.aload_n 0, 1) := by decide +kernel
theorem dX8_init_75 : decode cX8_init 75 = .ok (.bipush 10, 2) := by decide +kernel
theorem dX8_init_77 : decode cX8_init 77 = .ok (.putfield 36, 3) := by decide +kernel
theorem dX8_init_80 : decode cX8_init 80 = .ok (.return_, 1) := by decide +kernel
theorem dX8_become_0 : decode cX8_become 0 = .ok (.aload_n 0, 1) := by decide +kernel
theorem dX8_become_1 : decode cX8_become 1 = .ok (.getfield 14, 3) := by decide +kernel
theorem dX8_become_4 : decode cX8_become 4 = .ok (.aload_n 1, 1) := by decide +kernel
theorem dX8_become_5 : decode cX8_become 5 = .ok (.getfield 14, 3) := by decide +kernel
theorem dX8_become_8 : decode cX8_become 8 = .ok (.invokevirtual 39, 3) := by decide +kernel
theorem dX8_become_11 : decode cX8_become 11 = .ok (.aload_n 0, 1) := by decide +kernel
theorem dX8_become_12 : decode cX8_become 12 = .ok (.getfield 20, 3) := by decide +kernel
theorem dX8_become_15 : decode cX8_become 15 = .ok (.aload_n 1, 1) := by decide +kernel
theorem dX8_become_16 : decode cX8_become 16 = .ok (.getfield 20, 3) := by decide +kernel
theorem dX8_become_19 : decode cX8_become 19 = .ok (.invokevirtual 39, 3) := by decide +kernel
theorem dX8_become_22 : decode cX8_become 22 = .ok (.aload_n 0, 1) := by decide +kernel
theorem dX8_become_23 : decode cX8_become 23 = .ok (.getfield 23, 3) := by decide +kernel
theorem dX8_become_26 : decode cX8_become 26 = .ok (.aload_n 1, 1) := by decide +kernel
theorem dX8_become_27 : decode cX8_become 27 = .ok (.getfield 23, 3) := by decide +kernel
theorem dX8_become_30 : decode cX8_become 30 = .ok (.invokevirtual 39, 3) := by decide +kernel
theorem dX8_become_33 : decode cX8_become 33 = .ok (.aload_n 0, 1) := by decide +kernel
theorem dX8_become_34 : decode cX8_become 34 = .ok (.getfield 26, 3) := by decide +kernel
theorem dX8_become_37 : decode cX8_become 37 = .ok (.aload_n 1, 1) := by decide +kernel
theorem dX8_become_38 : decode cX8_become 38 = .ok (.getfield 26, 3) := by decide +kernel
theorem dX8_become_41 : decode cX8_become 41 = .ok (.invokevirtual 39, 3) := by decide +kernel
theorem dX8_become_44 : decode cX8_become 44 = .ok (.aload_n 0, 1) := by decide +kernel
theorem dX8_become_45 : decode cX8_become 45 = .ok (.getfield 29, 3) := by decide +kernel
theorem dX8_become_48 : decode cX8_become 48 = .ok (.aload_n 1, 1) := by decide +kernel
theorem dX8_become_49 : decode cX8_become 49 = .ok (.getfield 29, 3) := by decide +kernel
theorem dX8_become_52 : decode cX8_become 52 = .ok (.invokevirtual 39, 3) := by decide +kernel
theorem dX8_become_55 : decode cX8_become 55 = .ok (.aload_n 0, 1) := by decide +kernel
theorem dX8_become_56 : decode cX8_become 56 = .ok (.aload_n 1, 1) := by decide +kernel
theorem dX8_become_57 : decode cX8_become 57 = .ok (.getfield 32, 3) := by decide +kernel
theorem dX8_become_60 : decode cX8_become 60 = .ok (.putfield 32, 3) := by decide +kernel
theorem dX8_become_63 : decode cX8_become 63 = .ok (.aload_n 0, 1) := by decide +kernel
theorem dX8_become_64 : decode cX8_become 64 = .ok (.aload_n 1, 1) := by decide +kernel
theorem dX8_become_65 : decode cX8_become 65 = .ok (.getfield 36, 3) := by decide +kernel
theorem dX8_become_68 : decode cX8_become 68 = .ok (.putfield 36, 3) := by decide +kernel
theorem dX8_become_71 : decode cX8_become 71 = .ok (.return_, 1) := by decide +kernel
theorem dX9_init_0 : decode cX9_init 0 = .ok (.aload_n 0, 1) := by decide +kernel
theorem dX9_init_1 : decode cX9_init 1 = .ok (.invokespecial 3, 3) := by decide +kernel
theorem dX9_init_4 : decode cX9_init 4 = .ok (.aload_n 0, 1) := by decide +kernel
theorem dX9_init_5 : decode cX9_init 5 = .ok (.new 9, 3) := by decide +kernel
theorem dX9_init_8 : decode cX9_init 8 = .ok (.dup, 1) := by decide +kernel
theorem dX9_init_9 : decode cX9_init 9 = .ok (.bipush 8, 2) := by decide +kernel
theorem dX9_init_11 : decode cX9_init 11 = .ok (.invokespecial 11, 3) := by decide +kernel
theorem dX9_init_14 : decode cX9_init 14 = .ok (.putfield 14, 3) := by decide +kernel
theorem dX9_init_17 : decode cX9_init 17 = .ok (.aload_n 0, 1) := by decide +kernel
theorem dX9_init_18 : decode cX9_init 18 = .ok (.iconst 0, 1) := by decide +kernel
theorem dX9_init_19 : decode cX9_init 19 = .ok (.putfield 20, 3) := by decide +kernel
theorem dX9_init_22 : decode cX9_init 22 = .ok (.aload_n 0, 1) := by decide +kernel
theorem dX9_init_23 : decode cX9_init 23 = .ok (.sipush 1920, 3) := by decide +kernel
theorem dX9_init_26 : decode cX9_init 26 = .ok (.newarray .int, 2) := by decide +kernel
theorem dX9_init_28 : decode cX9_init 28 = .ok (.putfield 24, 3) := by decide +kernel
theorem dX9_init_31 : decode cX9_init 31 = .ok (.aload_n 0, 1) := by decide +kernel
theorem dX9_init_32 : decode cX9_init 32 = .ok (.iconst 0, 1) := by decide +kernel
theorem dX9_init_33 : decode cX9_init 33 = .ok (.putfield 28, 3) := by decide +kernel
theorem dX9_init_36 : decode cX9_init 36 = .ok (.aload_n 0, 1) := by decide +kernel
theorem dX9_init_37 : decode cX9_init 37 = .ok (.aload_n 1, 1) := by decide +kernel
theorem dX9_init_38 : decode cX9_init 38 = .ok (.putfield 32, 3) := by decide +kernel
theorem dX9_init_41 : decode cX9_init 41 = .ok (.return_, 1) := by decide +kernel
theorem dX9_unsettle_0 : decode cX9_unsettle 0 = .ok (.aload_n 0, 1) := by decide +kernel
theorem dX9_unsettle_1 : decode cX9_unsettle 1 = .ok (.iconst 0, 1) := by decide +kernel
theorem dX9_unsettle_2 : decode cX9_unsettle 2 = .ok (.putfield 28, 3) := by decide +kernel
theorem dX9_unsettle_5 : decode cX9_unsettle 5 = .ok (.return_, 1) := by decide +kernel
theorem dX9_survey_0 : decode cX9_survey 0 = .ok (.aload_n 0, 1) := by decide +kernel
theorem dX9_survey_1 : decode cX9_survey 1 = .ok (.getfield 28, 3) := by decide +kernel
theorem dX9_survey_4 : decode cX9_survey 4 = .ok (.ifCond .eq 4, 3) := by decide +kernel
theorem dX9_survey_7 : decode cX9_survey 7 = .ok (.return_, 1) := by decide +kernel
theorem dX9_survey_8 : decode cX9_survey 8 = .ok (.aload_n 0, 1) := by decide +kernel
theorem dX9_survey_9 : decode cX9_survey 9 = .ok (.iconst 1, 1) := by decide +kernel
theorem dX9_survey_10 : decode cX9_survey 10 = .ok (.putfield 28, 3) := by decide +kernel
theorem dX9_survey_13 : decode cX9_survey 13 = .ok (.aload_n 0, 1) := by decide +kernel
theorem dX9_survey_14 : decode cX9_survey 14 = .ok (.iconst 0, 1) := by decide +kernel
theorem dX9_survey_15 : decode cX9_survey 15 = .ok (.putfield 20, 3) := by decide +kernel
theorem dX9_survey_18 : decode cX9_survey 18 = .ok (.iconst 0, 1) := by decide +kernel
theorem dX9_survey_19 : decode cX9_survey 19 = .ok (.istore_n 1, 1) := by decide +kernel
theorem dX9_survey_20 : decode cX9_survey 20 = .ok (.iload_n 1, 1) := by decide +kernel
theorem dX9_survey_21 : decode cX9_survey 21 = .ok (.aload_n 0, 1) := by decide +kernel
theorem dX9_survey_22 : decode cX9_survey 22 = .ok (.getfield 32, 3) := by decide +kernel
theorem dX9_survey_25 : decode cX9_survey 25 = .ok (.getfield 36, 3) := by decide +kernel
theorem dX9_survey_28 : decode cX9_survey 28 = .ok (.getfield 42, 3) := by decide +kernel
theorem dX9_survey_31 : decode cX9_survey 31 = .ok (.getfield 47, 3) := by decide +kernel
theorem dX9_survey_34 : decode cX9_survey 34 = .ok (.if_icmp .ge 70, 3) := by decide +kernel
theorem dX9_survey_37 : decode cX9_survey 37 = .ok (.aload_n 0, 1) := by decide +kernel
theorem dX9_survey_38 : decode cX9_survey 38 = .ok (.getfield 32, 3) := by decide +kernel
theorem dX9_survey_41 : decode cX9_survey 41 = .ok (.invokevirtual 50, 3) := by decide +kernel
theorem dX9_survey_44 : decode cX9_survey 44 = .ok (.aload_n 0, 1) := by decide +kernel
theorem dX9_survey_45 : decode cX9_survey 45 = .ok (.getfield 32, 3) := by decide +kernel
theorem dX9_survey_48 : decode cX9_survey 48 = .ok (.getfield 53, 3) := by decide +kernel
theorem dX9_survey_51 : decode cX9_survey 51 = .ok (.getfield 42, 3) := by decide +kernel
theorem dX9_survey_54 : decode cX9_survey 54 = .ok (.iload_n 1, 1) := by decide +kernel
theorem dX9_survey_55 : decode cX9_survey 55 = .ok (.invokevirtual 56, 3) := by decide +kernel
theorem dX9_survey_58 : decode cX9_survey 58 = .ok (.aload_n 0, 1) := by decide +kernel
theorem dX9_survey_59 : decode cX9_survey 59 = .ok (.getfield 32, 3) := by decide +kernel
theorem dX9_survey_62 : decode cX9_survey 62 = .ok (.getfield 59, 3) := by decide +kernel
theorem dX9_survey_65 : decode cX9_survey 65 = .ok (.bipush 23, 2) := by decide +kernel
theorem dX9_survey_67 : decode cX9_survey 67 = .ok (.invokevirtual 63, 3) := by decide +kernel
theorem dX9_survey_70 : decode cX9_survey 70 = .ok (.aload_n 0, 1) := by decide +kernel
theorem dX9_survey_71 : decode cX9_survey 71 = .ok (.iload_n 1, 1) := by decide +kernel
theorem dX9_survey_72 : decode cX9_survey 72 = .ok (.invokevirtual 68, 3) := by decide +kernel
theorem dX9_survey_75 : decode cX9_survey 75 = .ok (.aload_n 0, 1) := by decide +kernel
theorem dX9_survey_76 : decode cX9_survey 76 = .ok (.dup, 1) := by decide +kernel
theorem dX9_survey_77 : decode cX9_survey 77 = .ok (.getfield 20, 3) := by decide +kernel
theorem dX9_survey_80 : decode cX9_survey 80 = .ok (.aload_n 0, 1) := by decide +kernel
theorem dX9_survey_81 : decode cX9_survey 81 = .ok (.invokevirtual 71, 3) := by decide +kernel
theorem dX9_survey_84 : decode cX9_survey 84 = .ok (.ifCond .eq 9, 3) := by decide +kernel
theorem dX9_survey_87 : decode cX9_survey 87 = .ok (.iconst 1, 1) := by decide +kernel
theorem dX9_survey_88 : decode cX9_survey 88 = .ok (.iload_n 1, 1) := by decide +kernel
theorem dX9_survey_89 : decode cX9_survey 89 = .ok (.ishl, 1) := by decide +kernel
theorem dX9_survey_90 : decode cX9_survey 90 = .ok (.goto 4, 3) := by decide +kernel
theorem dX9_survey_93 : decode cX9_survey 93 = .ok (.iconst 0, 1) := by decide +kernel
theorem dX9_survey_94 : decode cX9_survey 94 = .ok (.ior, 1) := by decide +kernel
theorem dX9_survey_95 : decode cX9_survey 95 = .ok (.putfield 20, 3) := by decide +kernel
theorem dX9_survey_98 : decode cX9_survey 98 = .ok (.iinc 1 1, 3) := by decide +kernel
theorem dX9_survey_101 : decode cX9_survey 101 = .ok (.goto (-81), 3) := by decide +kernel
theorem dX9_survey_104 : decode cX9_survey 104 = .ok (.return_, 1) := by decide +kernel
theorem dX9_keepWools_0 : decode cX9_keepWools 0 = .ok (.iconst 0, 1) := by decide +kernel
theorem dX9_keepWools_1 : decode cX9_keepWools 1 = .ok (.istore_n 2, 1) := by decide +kernel
theorem dX9_keepWools_2 : decode cX9_keepWools 2 = .ok (.iload_n 2, 1) := by decide +kernel
theorem dX9_keepWools_3 : decode cX9_keepWools 3 = .ok (.bipush 24, 2) := by decide +kernel
theorem dX9_keepWools_5 : decode cX9_keepWools 5 = .ok (.if_icmp .ge 59, 3) := by decide +kernel
theorem dX9_keepWools_8 : decode cX9_keepWools 8 = .ok (.iconst 0, 1) := by decide +kernel
theorem dX9_keepWools_9 : decode cX9_keepWools 9 = .ok (.istore_n 3, 1) := by decide +kernel
theorem dX9_keepWools_10 : decode cX9_keepWools 10 = .ok (.iload_n 3, 1) := by decide +kernel
theorem dX9_keepWools_11 : decode cX9_keepWools 11 = .ok (.aload_n 0, 1) := by decide +kernel
theorem dX9_keepWools_12 : decode cX9_keepWools 12 = .ok (.getfield 32, 3) := by decide +kernel
theorem dX9_keepWools_15 : decode cX9_keepWools 15 = .ok (.getfield 36, 3) := by decide +kernel
theorem dX9_keepWools_18 : decode cX9_keepWools 18 = .ok (.getfield 75, 3) := by decide +kernel
theorem dX9_keepWools_21 : decode cX9_keepWools 21 = .ok (.getfield 47, 3) := by decide +kernel
theorem dX9_keepWools_24 : decode cX9_keepWools 24 = .ok (.if_icmp .ge 34, 3) := by decide +kernel
theorem dX9_keepWools_27 : decode cX9_keepWools 27 = .ok (.aload_n 0, 1) := by decide +kernel
theorem dX9_keepWools_28 : decode cX9_keepWools 28 = .ok (.getfield 24, 3) := by decide +kernel
theorem dX9_keepWools_31 : decode cX9_keepWools 31 = .ok (.iload_n 1, 1) := by decide +kernel
theorem dX9_keepWools_32 : decode cX9_keepWools 32 = .ok (.iload_n 2, 1) := by decide +kernel
theorem dX9_keepWools_33 : decode cX9_keepWools 33 = .ok (.iload_n 3, 1) := by decide +kernel
theorem dX9_keepWools_34 : decode cX9_keepWools 34 = .ok (.invokestatic 78, 3) := by decide +kernel
theorem dX9_keepWools_37 : decode cX9_keepWools 37 = .ok (.aload_n 0, 1) := by decide +kernel
theorem dX9_keepWools_38 : decode cX9_keepWools 38 = .ok (.getfield 32, 3) := by decide +kernel
theorem dX9_keepWools_41 : decode cX9_keepWools 41 = .ok (.getfield 59, 3) := by decide +kernel
theorem dX9_keepWools_44 : decode cX9_keepWools 44 = .ok (.iload_n 2, 1) := by decide +kernel
theorem dX9_keepWools_45 : decode cX9_keepWools 45 = .ok (.iconst 0, 1) := by decide +kernel
theorem dX9_keepWools_46 : decode cX9_keepWools 46 = .ok (.iload_n 3, 1) := by decide +kernel
theorem dX9_keepWools_47 : decode cX9_keepWools 47 = .ok (.iadd, 1) := by decide +kernel
theorem dX9_keepWools_48 : decode cX9_keepWools 48 = .ok (.invokevirtual 82, 3) := by decide +kernel
theorem dX9_keepWools_51 : decode cX9_keepWools 51 = .ok (.iastore, 1) := by decide +kernel
theorem dX9_keepWools_52 : decode cX9_keepWools 52 = .ok (.iinc 3 1, 3) := by decide +kernel
theorem dX9_keepWools_55 : decode cX9_keepWools 55 = .ok (.goto (-45), 3) := by decide +kernel
theorem dX9_keepWools_58 : decode cX9_keepWools 58 = .ok (.iinc 2 1, 3) := by decide +kernel
theorem dX9_keepWools_61 : decode cX9_keepWools 61 = .ok (.goto (-59), 3) := by decide +kernel
theorem dX9_keepWools_64 : decode cX9_keepWools 64 = .ok (.return_, 1) := by decide +kernel
theorem dX9_placeOf_0 : decode cX9_placeOf 0 = .ok (.iload_n 0, 1) := by decide +kernel
theorem dX9_placeOf_1 : decode cX9_placeOf 1 = .ok (.bipush 24, 2) := by decide +kernel
theorem dX9_placeOf_3 : decode cX9_placeOf 3 = .ok (.imul, 1) := by decide +kernel
theorem dX9_placeOf_4 : decode cX9_placeOf 4 = .ok (.iload_n 1, 1) := by decide +kernel
theorem dX9_placeOf_5 : decode cX9_placeOf 5 = .ok (.iadd, 1) := by decide +kernel
theorem dX9_placeOf_6 : decode cX9_placeOf 6 = .ok (.bipush 8, 2) := by decide +kernel
theorem dX9_placeOf_8 : decode cX9_placeOf 8 = .ok (.imul, 1) := by decide +kernel
theorem dX9_placeOf_9 : decode cX9_placeOf 9 = .ok (.iload_n 2, 1) := by decide +kernel
theorem dX9_placeOf_10 : decode cX9_placeOf 10 = .ok (.iadd, 1) := by decide +kernel
theorem dX9_placeOf_11 : decode cX9_placeOf 11 = .ok (.ireturn, 1) := by decide +kernel
theorem dX9_fitting_0 : decode cX9_fitting 0 = .ok (.aload_n 0, 1) := by decide +kernel
theorem dX9_fitting_1 : decode cX9_fitting 1 = .ok (.invokevirtual 86, 3) := by decide +kernel
theorem dX9_fitting_4 : decode cX9_fitting 4 = .ok (.istore 4, 2) := by decide +kernel
theorem dX9_fitting_6 : decode cX9_fitting 6 = .ok (.iconst 0, 1) := by decide +kernel
theorem dX9_fitting_7 : decode cX9_fitting 7 = .ok (.istore 5, 2) := by decide +kernel
theorem dX9_fitting_9 : decode cX9_fitting 9 = .ok (.iconst 0, 1) := by decide +kernel
theorem dX9_fitting_10 : decode cX9_fitting 10 = .ok (.istore 6, 2) := by decide +kernel
theorem dX9_fitting_12 : decode cX9_fitting 12 = .ok (.iload 6, 2) := by decide +kernel
theorem dX9_fitting_14 : decode cX9_fitting 14 = .ok (.iload_n 3, 1) := by decide +kernel
theorem dX9_fitting_15 : decode cX9_fitting 15 = .ok (.if_icmp .ge 65, 3) := by decide +kernel
theorem dX9_fitting_18 : decode cX9_fitting 18 = .ok (.aload_n 0, 1) := by decide +kernel
theorem dX9_fitting_19 : decode cX9_fitting 19 = .ok (.getfield 32, 3) := by decide +kernel
theorem dX9_fitting_22 : decode cX9_fitting 22 = .ok (.invokevirtual 50, 3) := by decide +kernel
theorem dX9_fitting_25 : decode cX9_fitting 25 = .ok (.aload_n 0, 1) := by decide +kernel
theorem dX9_fitting_26 : decode cX9_fitting 26 = .ok (.getfield 32, 3) := by decide +kernel
theorem dX9_fitting_29 : decode cX9_fitting 29 = .ok (.getfield 53, 3) := by decide +kernel
theorem dX9_fitting_32 : decode cX9_fitting 32 = .ok (.getfield 42, 3) := by decide +kernel
theorem dX9_fitting_35 : decode cX9_fitting 35 = .ok (.iload_n 1, 1) := by decide +kernel
theorem dX9_fitting_36 : decode cX9_fitting 36 = .ok (.iload_n 2, 1) := by decide +kernel
theorem dX9_fitting_37 : decode cX9_fitting 37 = .ok (.iload 6, 2) := by decide +kernel
theorem dX9_fitting_39 : decode cX9_fitting 39 = .ok (.invokevirtual 90, 3) := by decide +kernel
theorem dX9_fitting_42 : decode cX9_fitting 42 = .ok (.aload_n 0, 1) := by decide +kernel
theorem dX9_fitting_43 : decode cX9_fitting 43 = .ok (.getfield 32, 3) := by decide +kernel
theorem dX9_fitting_46 : decode cX9_fitting 46 = .ok (.getfield 59, 3) := by decide +kernel
theorem dX9_fitting_49 : decode cX9_fitting 49 = .ok (.iload 4, 2) := by decide +kernel
theorem dX9_fitting_51 : decode cX9_fitting 51 = .ok (.invokevirtual 63, 3) := by decide +kernel
theorem dX9_fitting_54 : decode cX9_fitting 54 = .ok (.iload 5, 2) := by decide +kernel
theorem dX9_fitting_56 : decode cX9_fitting 56 = .ok (.aload_n 0, 1) := by decide +kernel
theorem dX9_fitting_57 : decode cX9_fitting 57 = .ok (.invokevirtual 71, 3) := by decide +kernel
theorem dX9_fitting_60 : decode cX9_fitting 60 = .ok (.ifCond .eq 10, 3) := by decide +kernel
theorem dX9_fitting_63 : decode cX9_fitting 63 = .ok (.iconst 1, 1) := by decide +kernel
theorem dX9_fitting_64 : decode cX9_fitting 64 = .ok (.iload 6, 2) := by decide +kernel
theorem dX9_fitting_66 : decode cX9_fitting 66 = .ok (.ishl, 1) := by decide +kernel
theorem dX9_fitting_67 : decode cX9_fitting 67 = .ok (.goto 4, 3) := by decide +kernel
theorem dX9_fitting_70 : decode cX9_fitting 70 = .ok (.iconst 0, 1) := by decide +kernel
theorem dX9_fitting_71 : decode cX9_fitting 71 = .ok (.ior, 1) := by decide +kernel
theorem dX9_fitting_72 : decode cX9_fitting 72 = .ok (.istore 5, 2) := by decide +kernel
theorem dX9_fitting_74 : decode cX9_fitting 74 = .ok (.iinc 6 1, 3) := by decide +kernel
theorem dX9_fitting_77 : decode cX9_fitting 77 = .ok (.goto (-65), 3) := by decide +kernel
theorem dX9_fitting_80 : decode cX9_fitting 80 = .ok (.iload 5, 2) := by decide +kernel
theorem dX9_fitting_82 : decode cX9_fitting 82 = .ok (.ireturn, 1) := by decide +kernel
theorem dX9_lastSeen_0 : decode cX9_lastSeen 0 = .ok (.iconst (-1), 1) := by decide +kernel
theorem dX9_lastSeen_1 : decode cX9_lastSeen 1 = .ok (.istore_n 1, 1) := by decide +kernel
theorem dX9_lastSeen_2 : decode cX9_lastSeen 2 = .ok (.iconst 0, 1) := by decide +kernel
theorem dX9_lastSeen_3 : decode cX9_lastSeen 3 = .ok (.istore_n 2, 1) := by decide +kernel
theorem dX9_lastSeen_4 : decode cX9_lastSeen 4 = .ok (.iload_n 2, 1) := by decide +kernel
theorem dX9_lastSeen_5 : decode cX9_lastSeen 5 = .ok (.aload_n 0, 1) := by decide +kernel
theorem dX9_lastSeen_6 : decode cX9_lastSeen 6 = .ok (.getfield 14, 3) := by decide +kernel
theorem dX9_lastSeen_9 : decode cX9_lastSeen 9 = .ok (.getfield 47, 3) := by decide +kernel
theorem dX9_lastSeen_12 : decode cX9_lastSeen 12 = .ok (.if_icmp .ge 23, 3) := by decide +kernel
theorem dX9_lastSeen_15 : decode cX9_lastSeen 15 = .ok (.iload_n 1, 1) := by decide +kernel
theorem dX9_lastSeen_16 : decode cX9_lastSeen 16 = .ok (.aload_n 0, 1) := by decide +kernel
theorem dX9_lastSeen_17 : decode cX9_lastSeen 17 = .ok (.getfield 14, 3) := by decide +kernel
theorem dX9_lastSeen_20 : decode cX9_lastSeen 20 = .ok (.getfield 94, 3) := by decide +kernel
theorem dX9_lastSeen_23 : decode cX9_lastSeen 23 = .ok (.iload_n 2, 1) := by decide +kernel
theorem dX9_lastSeen_24 : decode cX9_lastSeen 24 = .ok (.iaload, 1) := by decide +kernel
theorem dX9_lastSeen_25 : decode cX9_lastSeen 25 = .ok (.invokestatic 97, 3) := by decide +kernel
theorem dX9_lastSeen_28 : decode cX9_lastSeen 28 = .ok (.istore_n 1, 1) := by decide +kernel
theorem dX9_lastSeen_29 : decode cX9_lastSeen 29 = .ok (.iinc 2 1, 3) := by decide +kernel
theorem dX9_lastSeen_32 : decode cX9_lastSeen 32 = .ok (.goto (-28), 3) := by decide +kernel
theorem dX9_lastSeen_35 : decode cX9_lastSeen 35 = .ok (.iload_n 1, 1) := by decide +kernel
theorem dX9_lastSeen_36 : decode cX9_lastSeen 36 = .ok (.ireturn, 1) := by decide +kernel
theorem dX9_comesOut_0 : decode cX9_comesOut 0 = .ok (.iconst 0, 1) := by decide +kernel
theorem dX9_comesOut_1 : decode cX9_comesOut 1 = .ok (.istore_n 1, 1) := by decide +kernel
theorem dX9_comesOut_2 : decode cX9_comesOut 2 = .ok (.iload_n 1, 1) := by decide +kernel
theorem dX9_comesOut_3 : decode cX9_comesOut 3 = .ok (.aload_n 0, 1) := by decide +kernel
theorem dX9_comesOut_4 : decode cX9_comesOut 4 = .ok (.getfield 14, 3) := by decide +kernel
theorem dX9_comesOut_7 : decode cX9_comesOut 7 = .ok (.getfield 47, 3) := by decide +kernel
theorem dX9_comesOut_10 : decode cX9_comesOut 10 = .ok (.if_icmp .ge 72, 3) := by decide +kernel
theorem dX9_comesOut_13 : decode cX9_comesOut 13 = .ok (.aload_n 0, 1) := by decide +kernel
theorem dX9_comesOut_14 : decode cX9_comesOut 14 = .ok (.getfield 14, 3) := by decide +kernel
theorem dX9_comesOut_17 : decode cX9_comesOut 17 = .ok (.getfield 102, 3) := by decide +kernel
theorem dX9_comesOut_20 : decode cX9_comesOut 20 = .ok (.iload_n 1, 1) := by decide +kernel
theorem dX9_comesOut_21 : decode cX9_comesOut 21 = .ok (.iaload, 1) := by decide +kernel
theorem dX9_comesOut_22 : decode cX9_comesOut 22 = .ok (.istore_n 2, 1) := by decide +kernel
theorem dX9_comesOut_23 : decode cX9_comesOut 23 = .ok (.iload_n 2, 1) := by decide +kernel
theorem dX9_comesOut_24 : decode cX9_comesOut 24 = .ok (.aload_n 0, 1) := by decide +kernel
theorem dX9_comesOut_25 : decode cX9_comesOut 25 = .ok (.getfield 32, 3) := by decide +kernel
theorem dX9_comesOut_28 : decode cX9_comesOut 28 = .ok (.getfield 36, 3) := by decide +kernel
theorem dX9_comesOut_31 : decode cX9_comesOut 31 = .ok (.getfield 75, 3) := by decide +kernel
theorem dX9_comesOut_34 : decode cX9_comesOut 34 = .ok (.getfield 47, 3) := by decide +kernel
theorem dX9_comesOut_37 : decode cX9_comesOut 37 = .ok (.if_icmp .ge 37, 3) := by decide +kernel
theorem dX9_comesOut_40 : decode cX9_comesOut 40 = .ok (.aload_n 0, 1) := by decide +kernel
theorem dX9_comesOut_41 : decode cX9_comesOut 41 = .ok (.getfield 32, 3) := by decide +kernel
theorem dX9_comesOut_44 : decode cX9_comesOut 44 = .ok (.getfield 59, 3) := by decide +kernel
theorem dX9_comesOut_47 : decode cX9_comesOut 47 = .ok (.aload_n 0, 1) := by decide +kernel
theorem dX9_comesOut_48 : decode cX9_comesOut 48 = .ok (.getfield 14, 3) := by decide +kernel
theorem dX9_comesOut_51 : decode cX9_comesOut 51 = .ok (.getfield 94, 3) := by decide +kernel
theorem dX9_comesOut_54 : decode cX9_comesOut 54 = .ok (.iload_n 1, 1) := by decide +kernel
theorem dX9_comesOut_55 : decode cX9_comesOut 55 = .ok (.iaload, 1) := by decide +kernel
theorem dX9_comesOut_56 : decode cX9_comesOut 56 = .ok (.iconst 0, 1) := by decide +kernel
theorem dX9_comesOut_57 : decode cX9_comesOut 57 = .ok (.iload_n 2, 1) := by decide +kernel
theorem dX9_comesOut_58 : decode cX9_comesOut 58 = .ok (.iadd, 1) := by decide +kernel
theorem dX9_comesOut_59 : decode cX9_comesOut 59 = .ok (.invokevirtual 82, 3) := by decide +kernel
theorem dX9_comesOut_62 : decode cX9_comesOut 62 = .ok (.aload_n 0, 1) := by decide +kernel
theorem dX9_comesOut_63 : decode cX9_comesOut 63 = .ok (.getfield 14, 3) := by decide +kernel
theorem dX9_comesOut_66 : decode cX9_comesOut 66 = .ok (.getfield 105, 3) := by decide +kernel
theorem dX9_comesOut_69 : decode cX9_comesOut 69 = .ok (.iload_n 1, 1) := by decide +kernel
theorem dX9_comesOut_70 : decode cX9_comesOut 70 = .ok (.iaload, 1) := by decide +kernel
theorem dX9_comesOut_71 : decode cX9_comesOut 71 = .ok (.if_icmp .eq 5, 3) := by decide +kernel
theorem dX9_comesOut_74 : decode cX9_comesOut 74 = .ok (.iconst 0, 1) := by decide +kernel
theorem dX9_comesOut_75 : decode cX9_comesOut 75 = .ok (.ireturn, 1) := by decide +kernel
theorem dX9_comesOut_76 : decode cX9_comesOut 76 = .ok (.iinc 1 1, 3) := by decide +kernel
theorem dX9_comesOut_79 : decode cX9_comesOut 79 = .ok (.goto (-77), 3) := by decide +kernel
theorem dX9_comesOut_82 : decode cX9_comesOut 82 = .ok (.iconst 1, 1) := by decide +kernel
theorem dX9_comesOut_83 : decode cX9_comesOut 83 = .ok (.ireturn, 1) := by decide +kernel
theorem dX9_monthToAsk_0 : decode cX9_monthToAsk 0 = .ok (.iconst 0, 1) := by decide +kernel
theorem dX9_monthToAsk_1 : decode cX9_monthToAsk 1 = .ok (.istore_n 2, 1) := by decide +kernel
theorem dX9_monthToAsk_2 : decode cX9_monthToAsk 2 = .ok (.bipush 11, 2) := by decide +kernel
theorem dX9_monthToAsk_4 : decode cX9_monthToAsk 4 = .ok (.istore_n 3, 1) := by decide +kernel
theorem dX9_monthToAsk_5 : decode cX9_monthToAsk 5 = .ok (.iconst 0, 1) := by decide +kernel
theorem dX9_monthToAsk_6 : decode cX9_monthToAsk 6 = .ok (.istore 4, 2) := by decide +kernel
theorem dX9_monthToAsk_8 : decode cX9_monthToAsk 8 = .ok (.iload 4, 2) := by decide +kernel
theorem dX9_monthToAsk_10 : decode cX9_monthToAsk 10 = .ok (.bipush 24, 2) := by decide +kernel
theorem dX9_monthToAsk_12 : decode cX9_monthToAsk 12 = .ok (.if_icmp .ge 30, 3) := by decide +kernel
theorem dX9_monthToAsk_15 : decode cX9_monthToAsk 15 = .ok (.aload_n 0, 1) := by decide +kernel
theorem dX9_monthToAsk_16 : decode cX9_monthToAsk 16 = .ok (.iload 4, 2) := by decide +kernel
theorem dX9_monthToAsk_18 : decode cX9_monthToAsk 18 = .ok (.iload_n 1, 1) := by decide +kernel
theorem dX9_monthToAsk_19 : decode cX9_monthToAsk 19 = .ok (.invokevirtual 108, 3) := by decide +kernel
theorem dX9_monthToAsk_22 : decode cX9_monthToAsk 22 = .ok (.istore 5, 2) := by decide +kernel
theorem dX9_monthToAsk_24 : decode cX9_monthToAsk 24 = .ok (.iload 5, 2) := by decide +kernel
theorem dX9_monthToAsk_26 : decode cX9_monthToAsk 26 = .ok (.iload_n 3, 1) := by decide +kernel
theorem dX9_monthToAsk_27 : decode cX9_monthToAsk 27 = .ok (.if_icmp .ge 9, 3) := by decide +kernel
theorem dX9_monthToAsk_30 : decode cX9_monthToAsk 30 = .ok (.iload 5, 2) := by decide +kernel
theorem dX9_monthToAsk_32 : decode cX9_monthToAsk 32 = .ok (.istore_n 3, 1) := by decide +kernel
theorem dX9_monthToAsk_33 : decode cX9_monthToAsk 33 = .ok (.iload 4, 2) := by decide +kernel
theorem dX9_monthToAsk_35 : decode cX9_monthToAsk 35 = .ok (.istore_n 2, 1) := by decide +kernel
theorem dX9_monthToAsk_36 : decode cX9_monthToAsk 36 = .ok (.iinc 4 1, 3) := by decide +kernel
theorem dX9_monthToAsk_39 : decode cX9_monthToAsk 39 = .ok (.goto (-31), 3) := by decide +kernel
theorem dX9_monthToAsk_42 : decode cX9_monthToAsk 42 = .ok (.iload_n 2, 1) := by decide +kernel
theorem dX9_monthToAsk_43 : decode cX9_monthToAsk 43 = .ok (.ireturn, 1) := by decide +kernel
theorem dX9_mostAlike_0 : decode cX9_mostAlike 0 = .ok (.iconst 0, 1) := by decide +kernel
theorem dX9_mostAlike_1 : decode cX9_mostAlike 1 = .ok (.istore_n 3, 1) := by decide +kernel
theorem dX9_mostAlike_2 : decode cX9_mostAlike 2 = .ok (.iconst 0, 1) := by decide +kernel
theorem dX9_mostAlike_3 : decode cX9_mostAlike 3 = .ok (.istore 4, 2) := by decide +kernel
theorem dX9_mostAlike_5 : decode cX9_mostAlike 5 = .ok (.iload 4, 2) := by decide +kernel
theorem dX9_mostAlike_7 : decode cX9_mostAlike 7 = .ok (.aload_n 0, 1) := by decide +kernel
theorem dX9_mostAlike_8 : decode cX9_mostAlike 8 = .ok (.getfield 32, 3) := by decide +kernel
theorem dX9_mostAlike_11 : decode cX9_mostAlike 11 = .ok (.getfield 36, 3) := by decide +kernel
theorem dX9_mostAlike_14 : decode cX9_mostAlike 14 = .ok (.getfield 42, 3) := by decide +kernel
theorem dX9_mostAlike_17 : decode cX9_mostAlike 17 = .ok (.getfield 47, 3) := by decide +kernel
theorem dX9_mostAlike_20 : decode cX9_mostAlike 20 = .ok (.if_icmp .ge 34, 3) := by decide +kernel
theorem dX9_mostAlike_23 : decode cX9_mostAlike 23 = .ok (.aload_n 0, 1) := by decide +kernel
theorem dX9_mostAlike_24 : decode cX9_mostAlike 24 = .ok (.getfield 20, 3) := by decide +kernel
theorem dX9_mostAlike_27 : decode cX9_mostAlike 27 = .ok (.iload 4, 2) := by decide +kernel
theorem dX9_mostAlike_29 : decode cX9_mostAlike 29 = .ok (.ishr, 1) := by decide +kernel
theorem dX9_mostAlike_30 : decode cX9_mostAlike 30 = .ok (.iconst 1, 1) := by decide +kernel
theorem dX9_mostAlike_31 : decode cX9_mostAlike 31 = .ok (.iand, 1) := by decide +kernel
theorem dX9_mostAlike_32 : decode cX9_mostAlike 32 = .ok (.ifCond .eq 16, 3) := by decide +kernel
theorem dX9_mostAlike_35 : decode cX9_mostAlike 35 = .ok (.iload_n 3, 1) := by decide +kernel
theorem dX9_mostAlike_36 : decode cX9_mostAlike 36 = .ok (.aload_n 0, 1) := by decide +kernel
theorem dX9_mostAlike_37 : decode cX9_mostAlike 37 = .ok (.iload 4, 2) := by decide +kernel
theorem dX9_mostAlike_39 : decode cX9_mostAlike 39 = .ok (.iload_n 1, 1) := by decide +kernel
theorem dX9_mostAlike_40 : decode cX9_mostAlike 40 = .ok (.iload_n 2, 1) := by decide +kernel
theorem dX9_mostAlike_41 : decode cX9_mostAlike 41 = .ok (.invokevirtual 111, 3) := by decide +kernel
theorem dX9_mostAlike_44 : decode cX9_mostAlike 44 = .ok (.invokestatic 97, 3) := by decide +kernel
theorem dX9_mostAlike_47 : decode cX9_mostAlike 47 = .ok (.istore_n 3, 1) := by decide +kernel
theorem dX9_mostAlike_48 : decode cX9_mostAlike 48 = .ok (.iinc 4 1, 3) := by decide +kernel
theorem dX9_mostAlike_51 : decode cX9_mostAlike 51 = .ok (.goto (-46), 3) := by decide +kernel
theorem dX9_mostAlike_54 : decode cX9_mostAlike 54 = .ok (.iload_n 3, 1) := by decide +kernel
theorem dX9_mostAlike_55 : decode cX9_mostAlike 55 = .ok (.ireturn, 1) := by decide +kernel
theorem dX9_manyLike_0 : decode cX9_manyLike 0 = .ok (.aload_n 0, 1) := by decide +kernel
theorem dX9_manyLike_1 : decode cX9_manyLike 1 = .ok (.getfield 24, 3) := by decide +kernel
theorem dX9_manyLike_4 : decode cX9_manyLike 4 = .ok (.iload_n 1, 1) := by decide +kernel
theorem dX9_manyLike_5 : decode cX9_manyLike 5 = .ok (.iload_n 2, 1) := by decide +kernel
theorem dX9_manyLike_6 : decode cX9_manyLike 6 = .ok (.iload_n 3, 1) := by decide +kernel
theorem dX9_manyLike_7 : decode cX9_manyLike 7 = .ok (.invokestatic 78, 3) := by decide +kernel
theorem dX9_manyLike_10 : decode cX9_manyLike 10 = .ok (.iaload, 1) := by decide +kernel
theorem dX9_manyLike_11 : decode cX9_manyLike 11 = .ok (.istore 4, 2) := by decide +kernel
theorem dX9_manyLike_13 : decode cX9_manyLike 13 = .ok (.iconst 0, 1) := by decide +kernel
theorem dX9_manyLike_14 : decode cX9_manyLike 14 = .ok (.istore 5, 2) := by decide +kernel
theorem dX9_manyLike_16 : decode cX9_manyLike 16 = .ok (.iconst 0, 1) := by decide +kernel
theorem dX9_manyLike_17 : decode cX9_manyLike 17 = .ok (.istore 6, 2) := by decide +kernel
theorem dX9_manyLike_19 : decode cX9_manyLike 19 = .ok (.iload 6, 2) := by decide +kernel
theorem dX9_manyLike_21 : decode cX9_manyLike 21 = .ok (.aload_n 0, 1) := by decide +kernel
theorem dX9_manyLike_22 : decode cX9_manyLike 22 = .ok (.getfield 32, 3) := by decide +kernel
theorem dX9_manyLike_25 : decode cX9_manyLike 25 = .ok (.getfield 36, 3) := by decide +kernel
theorem dX9_manyLike_28 : decode cX9_manyLike 28 = .ok (.getfield 42, 3) := by decide +kernel
theorem dX9_manyLike_31 : decode cX9_manyLike 31 = .ok (.getfield 47, 3) := by decide +kernel
theorem dX9_manyLike_34 : decode cX9_manyLike 34 = .ok (.if_icmp .ge 41, 3) := by decide +kernel
theorem dX9_manyLike_37 : decode cX9_manyLike 37 = .ok (.aload_n 0, 1) := by decide +kernel
theorem dX9_manyLike_38 : decode cX9_manyLike 38 = .ok (.getfield 20, 3) := by decide +kernel
theorem dX9_manyLike_41 : decode cX9_manyLike 41 = .ok (.iload 6, 2) := by decide +kernel
theorem dX9_manyLike_43 : decode cX9_manyLike 43 = .ok (.ishr, 1) := by decide +kernel
theorem dX9_manyLike_44 : decode cX9_manyLike 44 = .ok (.iconst 1, 1) := by decide +kernel
theorem dX9_manyLike_45 : decode cX9_manyLike 45 = .ok (.iand, 1) := by decide +kernel
theorem dX9_manyLike_46 : decode cX9_manyLike 46 = .ok (.ifCond .eq 23, 3) := by decide +kernel
theorem dX9_manyLike_49 : decode cX9_manyLike 49 = .ok (.aload_n 0, 1) := by decide +kernel
theorem dX9_manyLike_50 : decode cX9_manyLike 50 = .ok (.getfield 24, 3) := by decide +kernel
theorem dX9_manyLike_53 : decode cX9_manyLike 53 = .ok (.iload 6, 2) := by decide +kernel
theorem dX9_manyLike_55 : decode cX9_manyLike 55 = .ok (.iload_n 2, 1) := by decide +kernel
theorem dX9_manyLike_56 : decode cX9_manyLike 56 = .ok (.iload_n 3, 1) := by decide +kernel
theorem dX9_manyLike_57 : decode cX9_manyLike 57 = .ok (.invokestatic 78, 3) := by decide +kernel
theorem dX9_manyLike_60 : decode cX9_manyLike 60 = .ok (.iaload, 1) := by decide +kernel
theorem dX9_manyLike_61 : decode cX9_manyLike 61 = .ok (.iload 4, 2) := by decide +kernel
theorem dX9_manyLike_63 : decode cX9_manyLike 63 = .ok (.if_icmp .ne 6, 3) := by decide +kernel
theorem dX9_manyLike_66 : decode cX9_manyLike 66 = .ok (.iinc 5 1, 3) := by decide +kernel
theorem dX9_manyLike_69 : decode cX9_manyLike 69 = .ok (.iinc 6 1, 3) := by decide +kernel
theorem dX9_manyLike_72 : decode cX9_manyLike 72 = .ok (.goto (-53), 3) := by decide +kernel
theorem dX9_manyLike_75 : decode cX9_manyLike 75 = .ok (.iload 5, 2) := by decide +kernel
theorem dX9_manyLike_77 : decode cX9_manyLike 77 = .ok (.ireturn, 1) := by decide +kernel
theorem dJ6_bitCount_0f7a4_0 : decode cJ6_bitCount_0f7a4 0 = .ok (.iload_n 0, 1) := by decide +kernel
theorem dJ6_bitCount_0f7a4_1 : decode cJ6_bitCount_0f7a4 1 = .ok (.iload_n 0, 1) := by decide +kernel
theorem dJ6_bitCount_0f7a4_2 : decode cJ6_bitCount_0f7a4 2 = .ok (.iconst 1, 1) := by decide +kernel
theorem dJ6_bitCount_0f7a4_3 : decode cJ6_bitCount_0f7a4 3 = .ok (.iushr, 1) := by decide +kernel
theorem dJ6_bitCount_0f7a4_4 : decode cJ6_bitCount_0f7a4 4 = .ok (.ldc_w 265, 3) := by decide +kernel
theorem dJ6_bitCount_0f7a4_7 : decode cJ6_bitCount_0f7a4 7 = .ok (.iand, 1) := by decide +kernel
theorem dJ6_bitCount_0f7a4_8 : decode cJ6_bitCount_0f7a4 8 = .ok (.isub, 1) := by decide +kernel
theorem dJ6_bitCount_0f7a4_9 : decode cJ6_bitCount_0f7a4 9 = .ok (.istore_n 0, 1) := by decide +kernel
theorem dJ6_bitCount_0f7a4_10 : decode cJ6_bitCount_0f7a4 10 = .ok (.iload_n 0, 1) := by decide +kernel
theorem dJ6_bitCount_0f7a4_11 : decode cJ6_bitCount_0f7a4 11 = .ok (.ldc_w 266, 3) := by decide +kernel
theorem dJ6_bitCount_0f7a4_14 : decode cJ6_bitCount_0f7a4 14 = .ok (.iand, 1) := by decide +kernel
theorem dJ6_bitCount_0f7a4_15 : decode cJ6_bitCount_0f7a4 15 = .ok (.iload_n 0, 1) := by decide +kernel
theorem dJ6_bitCount_0f7a4_16 : decode cJ6_bitCount_0f7a4 16 = .ok (.iconst 2, 1) := by decide +kernel
theorem dJ6_bitCount_0f7a4_17 : decode cJ6_bitCount_0f7a4 17 = .ok (.iushr, 1) := by decide +kernel
theorem dJ6_bitCount_0f7a4_18 : decode cJ6_bitCount_0f7a4 18 = .ok (.ldc_w 266, 3) := by decide +kernel
theorem dJ6_bitCount_0f7a4_21 : decode cJ6_bitCount_0f7a4 21 = .ok (.iand, 1) := by decide +kernel
theorem dJ6_bitCount_0f7a4_22 : decode cJ6_bitCount_0f7a4 22 = .ok (.iadd, 1) := by decide +kernel
theorem dJ6_bitCount_0f7a4_23 : decode cJ6_bitCount_0f7a4 23 = .ok (.istore_n 0, 1) := by decide +kernel
theorem dJ6_bitCount_0f7a4_24 : decode cJ6_bitCount_0f7a4 24 = .ok (.iload_n 0, 1) := by decide +kernel
theorem dJ6_bitCount_0f7a4_25 : decode cJ6_bitCount_0f7a4 25 = .ok (.iload_n 0, 1) := by decide +kernel
theorem dJ6_bitCount_0f7a4_26 : decode cJ6_bitCount_0f7a4 26 = .ok (.iconst 4, 1) := by decide +kernel
theorem dJ6_bitCount_0f7a4_27 : decode cJ6_bitCount_0f7a4 27 = .ok (.iushr, 1) := by decide +kernel
theorem dJ6_bitCount_0f7a4_28 : decode cJ6_bitCount_0f7a4 28 = .ok (.iadd, 1) := by decide +kernel
theorem dJ6_bitCount_0f7a4_29 : decode cJ6_bitCount_0f7a4 29 = .ok (.ldc_w 267, 3) := by decide +kernel
theorem dJ6_bitCount_0f7a4_32 : decode cJ6_bitCount_0f7a4 32 = .ok (.iand, 1) := by decide +kernel
theorem dJ6_bitCount_0f7a4_33 : decode cJ6_bitCount_0f7a4 33 = .ok (.istore_n 0, 1) := by decide +kernel
theorem dJ6_bitCount_0f7a4_34 : decode cJ6_bitCount_0f7a4 34 = .ok (.iload_n 0, 1) := by decide +kernel
theorem dJ6_bitCount_0f7a4_35 : decode cJ6_bitCount_0f7a4 35 = .ok (.iload_n 0, 1) := by decide +kernel
theorem dJ6_bitCount_0f7a4_36 : decode cJ6_bitCount_0f7a4 36 = .ok (.bipush 8, 2) := by decide +kernel
theorem dJ6_bitCount_0f7a4_38 : decode cJ6_bitCount_0f7a4 38 = .ok (.iushr, 1) := by decide +kernel
theorem dJ6_bitCount_0f7a4_39 : decode cJ6_bitCount_0f7a4 39 = .ok (.iadd, 1) := by decide +kernel
theorem dJ6_bitCount_0f7a4_40 : decode cJ6_bitCount_0f7a4 40 = .ok (.istore_n 0, 1) := by decide +kernel
theorem dJ6_bitCount_0f7a4_41 : decode cJ6_bitCount_0f7a4 41 = .ok (.iload_n 0, 1) := by decide +kernel
theorem dJ6_bitCount_0f7a4_42 : decode cJ6_bitCount_0f7a4 42 = .ok (.iload_n 0, 1) := by decide +kernel
theorem dJ6_bitCount_0f7a4_43 : decode cJ6_bitCount_0f7a4 43 = .ok (.bipush 16, 2) := by decide +kernel
theorem dJ6_bitCount_0f7a4_45 : decode cJ6_bitCount_0f7a4 45 = .ok (.iushr, 1) := by decide +kernel
theorem dJ6_bitCount_0f7a4_46 : decode cJ6_bitCount_0f7a4 46 = .ok (.iadd, 1) := by decide +kernel
theorem dJ6_bitCount_0f7a4_47 : decode cJ6_bitCount_0f7a4 47 = .ok (.istore_n 0, 1) := by decide +kernel
theorem dJ6_bitCount_0f7a4_48 : decode cJ6_bitCount_0f7a4 48 = .ok (.iload_n 0, 1) := by decide +kernel
theorem dJ6_bitCount_0f7a4_49 : decode cJ6_bitCount_0f7a4 49 = .ok (.bipush 63, 2) := by decide +kernel
theorem dJ6_bitCount_0f7a4_51 : decode cJ6_bitCount_0f7a4 51 = .ok (.iand, 1) := by decide +kernel
theorem dJ6_bitCount_0f7a4_52 : decode cJ6_bitCount_0f7a4 52 = .ok (.ireturn, 1) := by decide +kernel
theorem dJ0_length_8abf5_0 : decode cJ0_length_8abf5 0 = .ok (.aload_n 0, 1) := by decide +kernel
theorem dJ0_length_8abf5_1 : decode cJ0_length_8abf5 1 = .ok (.getfield 9, 3) := by decide +kernel
theorem dJ0_length_8abf5_4 : decode cJ0_length_8abf5 4 = .ok (.arraylength, 1) := by decide +kernel
theorem dJ0_length_8abf5_5 : decode cJ0_length_8abf5 5 = .ok (.aload_n 0, 1) := by decide +kernel
theorem dJ0_length_8abf5_6 : decode cJ0_length_8abf5 6 = .ok (.invokevirtual 335, 3) := by decide +kernel
theorem dJ0_length_8abf5_9 : decode cJ0_length_8abf5 9 = .ok (.ishr, 1) := by decide +kernel
theorem dJ0_length_8abf5_10 : decode cJ0_length_8abf5 10 = .ok (.ireturn, 1) := by decide +kernel
theorem dJ0_indexOf_0f7a4_0 : decode cJ0_indexOf_0f7a4 0 = .ok (.aload_n 0, 1) := by decide +kernel
theorem dJ0_indexOf_0f7a4_1 : decode cJ0_indexOf_0f7a4 1 = .ok (.iload_n 1, 1) := by decide +kernel
theorem dJ0_indexOf_0f7a4_2 : decode cJ0_indexOf_0f7a4 2 = .ok (.iconst 0, 1) := by decide +kernel
theorem dJ0_indexOf_0f7a4_3 : decode cJ0_indexOf_0f7a4 3 = .ok (.invokevirtual 633, 3) := by decide +kernel
theorem dJ0_indexOf_0f7a4_6 : decode cJ0_indexOf_0f7a4 6 = .ok (.ireturn, 1) := by decide +kernel
theorem dJ0_indexOf_7cf53_0 : decode cJ0_indexOf_7cf53 0 = .ok (.aload_n 0, 1) := by decide +kernel
theorem dJ0_indexOf_7cf53_1 : decode cJ0_indexOf_7cf53 1 = .ok (.invokevirtual 492, 3) := by decide +kernel
theorem dJ0_indexOf_7cf53_4 : decode cJ0_indexOf_7cf53 4 = .ok (.ifCond .eq 19, 3) := by decide +kernel
theorem dJ0_indexOf_7cf53_7 : decode cJ0_indexOf_7cf53 7 = .ok (.aload_n 0, 1) := by decide +kernel
theorem dJ0_indexOf_7cf53_8 : decode cJ0_indexOf_7cf53 8 = .ok (.getfield 9, 3) := by decide +kernel
theorem dJ0_indexOf_7cf53_11 : decode cJ0_indexOf_7cf53 11 = .ok (.iload_n 1, 1) := by decide +kernel
theorem dJ0_indexOf_7cf53_12 : decode cJ0_indexOf_7cf53 12 = .ok (.iload_n 2, 1) := by decide +kernel
theorem dJ0_indexOf_7cf53_13 : decode cJ0_indexOf_7cf53 13 = .ok (.aload_n 0, 1) := by decide +kernel
theorem dJ0_indexOf_7cf53_14 : decode cJ0_indexOf_7cf53 14 = .ok (.invokevirtual 505, 3) := by decide +kernel
theorem dJ0_indexOf_7cf53_17 : decode cJ0_indexOf_7cf53 17 = .ok (.invokestatic 637, 3) := by decide +kernel
theorem dJ0_indexOf_7cf53_20 : decode cJ0_indexOf_7cf53 20 = .ok (.goto 16, 3) := by decide +kernel
theorem dJ0_indexOf_7cf53_23 : decode cJ0_indexOf_7cf53 23 = .ok (.aload_n 0, 1) := by decide +kernel
theorem dJ0_indexOf_7cf53_24 : decode cJ0_indexOf_7cf53 24 = .ok (.getfield 9, 3) := by decide +kernel
theorem dJ0_indexOf_7cf53_27 : decode cJ0_indexOf_7cf53 27 = .ok (.iload_n 1, 1) := by decide +kernel
theorem dJ0_indexOf_7cf53_28 : decode cJ0_indexOf_7cf53 28 = .ok (.iload_n 2, 1) := by decide +kernel
theorem dJ0_indexOf_7cf53_29 : decode cJ0_indexOf_7cf53 29 = .ok (.aload_n 0, 1) := by decide +kernel
theorem dJ0_indexOf_7cf53_30 : decode cJ0_indexOf_7cf53 30 = .ok (.invokevirtual 505, 3) := by decide +kernel
theorem dJ0_indexOf_7cf53_33 : decode cJ0_indexOf_7cf53 33 = .ok (.invokestatic 640, 3) := by decide +kernel
theorem dJ0_indexOf_7cf53_36 : decode cJ0_indexOf_7cf53 36 = .ok (.ireturn, 1) := by decide +kernel
theorem dJ0_coder_7d493_0 : decode cJ0_coder_7d493 0 = .ok (.getstatic 38, 3) := by decide +kernel
theorem dJ0_coder_7d493_3 : decode cJ0_coder_7d493 3 = .ok (.ifCond .eq 10, 3) := by decide +kernel
theorem dJ0_coder_7d493_6 : decode cJ0_coder_7d493 6 = .ok (.aload_n 0, 1) := by decide +kernel
theorem dJ0_coder_7d493_7 : decode cJ0_coder_7d493 7 = .ok (.getfield 15, 3) := by decide +kernel
theorem dJ0_coder_7d493_10 : decode cJ0_coder_7d493 10 = .ok (.goto 4, 3) := by decide +kernel
theorem dJ0_coder_7d493_13 : decode cJ0_coder_7d493 13 = .ok (.iconst 1, 1) := by decide +kernel
theorem dJ0_coder_7d493_14 : decode cJ0_coder_7d493 14 = .ok (.ireturn, 1) := by decide +kernel
theorem dJ0_isLatin1_aae02_0 : decode cJ0_isLatin1_aae02 0 = .ok (.getstatic 38, 3) := by decide +kernel
theorem dJ0_isLatin1_aae02_3 : decode cJ0_isLatin1_aae02 3 = .ok (.ifCond .eq 14, 3) := by decide +kernel
theorem dJ0_isLatin1_aae02_6 : decode cJ0_isLatin1_aae02 6 = .ok (.aload_n 0, 1) := by decide +kernel
theorem dJ0_isLatin1_aae02_7 : decode cJ0_isLatin1_aae02 7 = .ok (.getfield 15, 3) := by decide +kernel
theorem dJ0_isLatin1_aae02_10 : decode cJ0_isLatin1_aae02 10 = .ok (.ifCond .ne 7, 3) := by decide +kernel
theorem dJ0_isLatin1_aae02_13 : decode cJ0_isLatin1_aae02 13 = .ok (.iconst 1, 1) := by decide +kernel
theorem dJ0_isLatin1_aae02_14 : decode cJ0_isLatin1_aae02 14 = .ok (.goto 4, 3) := by decide +kernel
theorem dJ0_isLatin1_aae02_17 : decode cJ0_isLatin1_aae02 17 = .ok (.iconst 0, 1) := by decide +kernel
theorem dJ0_isLatin1_aae02_18 : decode cJ0_isLatin1_aae02 18 = .ok (.ireturn, 1) := by decide +kernel
theorem dJ1_canEncode_9a6ad_0 : decode cJ1_canEncode_9a6ad 0 = .ok (.iload_n 0, 1) := by decide +kernel
theorem dJ1_canEncode_9a6ad_1 : decode cJ1_canEncode_9a6ad 1 = .ok (.ifCond .lt 14, 3) := by decide +kernel
theorem dJ1_canEncode_9a6ad_4 : decode cJ1_canEncode_9a6ad 4 = .ok (.iload_n 0, 1) := by decide +kernel
theorem dJ1_canEncode_9a6ad_5 : decode cJ1_canEncode_9a6ad 5 = .ok (.sipush 255, 3) := by decide +kernel
theorem dJ1_canEncode_9a6ad_8 : decode cJ1_canEncode_9a6ad 8 = .ok (.if_icmp .gt 7, 3) := by decide +kernel
theorem dJ1_canEncode_9a6ad_11 : decode cJ1_canEncode_9a6ad 11 = .ok (.iconst 1, 1) := by decide +kernel
theorem dJ1_canEncode_9a6ad_12 : decode cJ1_canEncode_9a6ad 12 = .ok (.goto 4, 3) := by decide +kernel
theorem dJ1_canEncode_9a6ad_15 : decode cJ1_canEncode_9a6ad 15 = .ok (.iconst 0, 1) := by decide +kernel
theorem dJ1_canEncode_9a6ad_16 : decode cJ1_canEncode_9a6ad 16 = .ok (.ireturn, 1) := by decide +kernel
theorem dJ1_indexOf_4cfef_0 : decode cJ1_indexOf_4cfef 0 = .ok (.iload_n 1, 1) := by decide +kernel
theorem dJ1_indexOf_4cfef_1 : decode cJ1_indexOf_4cfef 1 = .ok (.invokestatic 88, 3) := by decide +kernel
theorem dJ1_indexOf_4cfef_4 : decode cJ1_indexOf_4cfef 4 = .ok (.ifCond .ne 5, 3) := by decide +kernel
theorem dJ1_indexOf_4cfef_7 : decode cJ1_indexOf_4cfef 7 = .ok (.iconst (-1), 1) := by decide +kernel
theorem dJ1_indexOf_4cfef_8 : decode cJ1_indexOf_4cfef 8 = .ok (.ireturn, 1) := by decide +kernel
theorem dJ1_indexOf_4cfef_9 : decode cJ1_indexOf_4cfef 9 = .ok (.iload_n 2, 1) := by decide +kernel
theorem dJ1_indexOf_4cfef_10 : decode cJ1_indexOf_4cfef 10 = .ok (.iconst 0, 1) := by decide +kernel
theorem dJ1_indexOf_4cfef_11 : decode cJ1_indexOf_4cfef 11 = .ok (.invokestatic 92, 3) := by decide +kernel
theorem dJ1_indexOf_4cfef_14 : decode cJ1_indexOf_4cfef 14 = .ok (.istore_n 2, 1) := by decide +kernel
theorem dJ1_indexOf_4cfef_15 : decode cJ1_indexOf_4cfef 15 = .ok (.iload_n 3, 1) := by decide +kernel
theorem dJ1_indexOf_4cfef_16 : decode cJ1_indexOf_4cfef 16 = .ok (.aload_n 0, 1) := by decide +kernel
theorem dJ1_indexOf_4cfef_17 : decode cJ1_indexOf_4cfef 17 = .ok (.arraylength, 1) := by decide +kernel
theorem dJ1_indexOf_4cfef_18 : decode cJ1_indexOf_4cfef 18 = .ok (.invokestatic 38, 3) := by decide +kernel
theorem dJ1_indexOf_4cfef_21 : decode cJ1_indexOf_4cfef 21 = .ok (.istore_n 3, 1) := by decide +kernel
theorem dJ1_indexOf_4cfef_22 : decode cJ1_indexOf_4cfef 22 = .ok (.iload_n 2, 1) := by decide +kernel
theorem dJ1_indexOf_4cfef_23 : decode cJ1_indexOf_4cfef 23 = .ok (.iload_n 3, 1) := by decide +kernel
theorem dJ1_indexOf_4cfef_24 : decode cJ1_indexOf_4cfef 24 = .ok (.if_icmp .lt 5, 3) := by decide +kernel
theorem dJ1_indexOf_4cfef_27 : decode cJ1_indexOf_4cfef 27 = .ok (.iconst (-1), 1) := by decide +kernel
theorem dJ1_indexOf_4cfef_28 : decode cJ1_indexOf_4cfef 28 = .ok (.ireturn, 1) := by decide +kernel
theorem dJ1_indexOf_4cfef_29 : decode cJ1_indexOf_4cfef 29 = .ok (.aload_n 0, 1) := by decide +kernel
theorem dJ1_indexOf_4cfef_30 : decode cJ1_indexOf_4cfef 30 = .ok (.iload_n 1, 1) := by decide +kernel
theorem dJ1_indexOf_4cfef_31 : decode cJ1_indexOf_4cfef 31 = .ok (.iload_n 2, 1) := by decide +kernel
theorem dJ1_indexOf_4cfef_32 : decode cJ1_indexOf_4cfef 32 = .ok (.iload_n 3, 1) := by decide +kernel
theorem dJ1_indexOf_4cfef_33 : decode cJ1_indexOf_4cfef 33 = .ok (.invokestatic 95, 3) := by decide +kernel
theorem dJ1_indexOf_4cfef_36 : decode cJ1_indexOf_4cfef 36 = .ok (.ireturn, 1) := by decide +kernel
theorem dJ1_indexOfChar_4cfef_0 : decode cJ1_indexOfChar_4cfef 0 = .ok (.iload_n 1, 1) := by decide +kernel
theorem dJ1_indexOfChar_4cfef_1 : decode cJ1_indexOfChar_4cfef 1 = .ok (.i2b, 1) := by decide +kernel
theorem dJ1_indexOfChar_4cfef_2 : decode cJ1_indexOfChar_4cfef 2 = .ok (.istore 4, 2) := by decide +kernel
theorem dJ1_indexOfChar_4cfef_4 : decode cJ1_indexOfChar_4cfef 4 = .ok (.iload_n 2, 1) := by decide +kernel
theorem dJ1_indexOfChar_4cfef_5 : decode cJ1_indexOfChar_4cfef 5 = .ok (.istore 5, 2) := by decide +kernel
theorem dJ1_indexOfChar_4cfef_7 : decode cJ1_indexOfChar_4cfef 7 = .ok (.iload 5, 2) := by decide +kernel
theorem dJ1_indexOfChar_4cfef_9 : decode cJ1_indexOfChar_4cfef 9 = .ok (.iload_n 3, 1) := by decide +kernel
theorem dJ1_indexOfChar_4cfef_10 : decode cJ1_indexOfChar_4cfef 10 = .ok (.if_icmp .ge 21, 3) := by decide +kernel
theorem dJ1_indexOfChar_4cfef_13 : decode cJ1_indexOfChar_4cfef 13 = .ok (.aload_n 0, 1) := by decide +kernel
theorem dJ1_indexOfChar_4cfef_14 : decode cJ1_indexOfChar_4cfef 14 = .ok (.iload 5, 2) := by decide +kernel
theorem dJ1_indexOfChar_4cfef_16 : decode cJ1_indexOfChar_4cfef 16 = .ok (.baload, 1) := by decide +kernel
theorem dJ1_indexOfChar_4cfef_17 : decode cJ1_indexOfChar_4cfef 17 = .ok (.iload 4, 2) := by decide +kernel
theorem dJ1_indexOfChar_4cfef_19 : decode cJ1_indexOfChar_4cfef 19 = .ok (.if_icmp .ne 6, 3) := by decide +kernel
theorem dJ1_indexOfChar_4cfef_22 : decode cJ1_indexOfChar_4cfef 22 = .ok (.iload 5, 2) := by decide +kernel
theorem dJ1_indexOfChar_4cfef_24 : decode cJ1_indexOfChar_4cfef 24 = .ok (.ireturn, 1) := by decide +kernel
theorem dJ1_indexOfChar_4cfef_25 : decode cJ1_indexOfChar_4cfef 25 = .ok (.iinc 5 1, 3) := by decide +kernel
theorem dJ1_indexOfChar_4cfef_28 : decode cJ1_indexOfChar_4cfef 28 = .ok (.goto (-21), 3) := by decide +kernel
theorem dJ1_indexOfChar_4cfef_31 : decode cJ1_indexOfChar_4cfef 31 = .ok (.iconst (-1), 1) := by decide +kernel
theorem dJ1_indexOfChar_4cfef_32 : decode cJ1_indexOfChar_4cfef 32 = .ok (.ireturn, 1) := by decide +kernel
theorem dJ7_fill_d0a16_0 : decode cJ7_fill_d0a16 0 = .ok (.iconst 0, 1) := by decide +kernel
theorem dJ7_fill_d0a16_1 : decode cJ7_fill_d0a16 1 = .ok (.istore_n 3, 1) := by decide +kernel
theorem dJ7_fill_d0a16_2 : decode cJ7_fill_d0a16 2 = .ok (.aload_n 0, 1) := by decide +kernel
theorem dJ7_fill_d0a16_3 : decode cJ7_fill_d0a16 3 = .ok (.arraylength, 1) := by decide +kernel
theorem dJ7_fill_d0a16_4 : decode cJ7_fill_d0a16 4 = .ok (.istore 4, 2) := by decide +kernel
theorem dJ7_fill_d0a16_6 : decode cJ7_fill_d0a16 6 = .ok (.iload_n 3, 1) := by decide +kernel
theorem dJ7_fill_d0a16_7 : decode cJ7_fill_d0a16 7 = .ok (.iload 4, 2) := by decide +kernel
theorem dJ7_fill_d0a16_9 : decode cJ7_fill_d0a16 9 = .ok (.if_icmp .ge 13, 3) := by decide +kernel
theorem dJ7_fill_d0a16_12 : decode cJ7_fill_d0a16 12 = .ok (.aload_n 0, 1) := by decide +kernel
theorem dJ7_fill_d0a16_13 : decode cJ7_fill_d0a16 13 = .ok (.iload_n 3, 1) := by decide +kernel
theorem dJ7_fill_d0a16_14 : decode cJ7_fill_d0a16 14 = .ok (.lload_n 1, 1) := by decide +kernel
theorem dJ7_fill_d0a16_15 : decode cJ7_fill_d0a16 15 = .ok (.lastore, 1) := by decide +kernel
theorem dJ7_fill_d0a16_16 : decode cJ7_fill_d0a16 16 = .ok (.iinc 3 1, 3) := by decide +kernel
theorem dJ7_fill_d0a16_19 : decode cJ7_fill_d0a16 19 = .ok (.goto (-13), 3) := by decide +kernel
theorem dJ7_fill_d0a16_22 : decode cJ7_fill_d0a16 22 = .ok (.return_, 1) := by decide +kernel
theorem dJ7_fill_53178_0 : decode cJ7_fill_53178 0 = .ok (.iconst 0, 1) := by decide +kernel
theorem dJ7_fill_53178_1 : decode cJ7_fill_53178 1 = .ok (.istore_n 2, 1) := by decide +kernel
theorem dJ7_fill_53178_2 : decode cJ7_fill_53178 2 = .ok (.aload_n 0, 1) := by decide +kernel
theorem dJ7_fill_53178_3 : decode cJ7_fill_53178 3 = .ok (.arraylength, 1) := by decide +kernel
theorem dJ7_fill_53178_4 : decode cJ7_fill_53178 4 = .ok (.istore_n 3, 1) := by decide +kernel
theorem dJ7_fill_53178_5 : decode cJ7_fill_53178 5 = .ok (.iload_n 2, 1) := by decide +kernel
theorem dJ7_fill_53178_6 : decode cJ7_fill_53178 6 = .ok (.iload_n 3, 1) := by decide +kernel
theorem dJ7_fill_53178_7 : decode cJ7_fill_53178 7 = .ok (.if_icmp .ge 13, 3) := by decide +kernel
theorem dJ7_fill_53178_10 : decode cJ7_fill_53178 10 = .ok (.aload_n 0, 1) := by decide +kernel
theorem dJ7_fill_53178_11 : decode cJ7_fill_53178 11 = .ok (.iload_n 2, 1) := by decide +kernel
theorem dJ7_fill_53178_12 : decode cJ7_fill_53178 12 = .ok (.iload_n 1, 1) := by decide +kernel
theorem dJ7_fill_53178_13 : decode cJ7_fill_53178 13 = .ok (.iastore, 1) := by decide +kernel
theorem dJ7_fill_53178_14 : decode cJ7_fill_53178 14 = .ok (.iinc 2 1, 3) := by decide +kernel
theorem dJ7_fill_53178_17 : decode cJ7_fill_53178 17 = .ok (.goto (-12), 3) := by decide +kernel
theorem dJ7_fill_53178_20 : decode cJ7_fill_53178 20 = .ok (.return_, 1) := by decide +kernel
