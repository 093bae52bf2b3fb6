theorem dX11_firstOf_0 : decode cX11_firstOf 0 = .ok (.aload_n 0, 1) := by decide +kernel
theorem dX11_firstOf_1 : decode cX11_firstOf 1 = .ok (.invokevirtual 272, 3) := by decide +kernel
theorem dX11_firstOf_4 : decode cX11_firstOf 4 = .ok (.iload_n 1, 1) := by decide +kernel
theorem dX11_firstOf_5 : decode cX11_firstOf 5 = .ok (.ifCond .ne 10, 3) := by decide +kernel
theorem dX11_firstOf_8 : decode cX11_firstOf 8 = .ok (.aload_n 0, 1) := by decide +kernel
theorem dX11_firstOf_9 : decode cX11_firstOf 9 = .ok (.getfield 236, 3) := by decide +kernel
theorem dX11_firstOf_12 : decode cX11_firstOf 12 = .ok (.goto 7, 3) := by decide +kernel
theorem dX11_firstOf_15 : decode cX11_firstOf 15 = .ok (.aload_n 0, 1) := by decide +kernel
theorem dX11_firstOf_16 : decode cX11_firstOf 16 = .ok (.getfield 239, 3) := by decide +kernel
theorem dX11_firstOf_19 : decode cX11_firstOf 19 = .ok (.ireturn, 1) := by decide +kernel
theorem dX11_first_0 : decode cX11_first 0 = .ok (.iload_n 1, 1) := by decide +kernel
theorem dX11_first_1 : decode cX11_first 1 = .ok (.iconst 0, 1) := by decide +kernel
theorem dX11_first_2 : decode cX11_first 2 = .ok (.iconst 1, 1) := by decide +kernel
theorem dX11_first_3 : decode cX11_first 3 = .ok (.invokestatic 140, 3) := by decide +kernel
theorem dX11_first_6 : decode cX11_first 6 = .ok (.ifCond .eq 11, 3) := by decide +kernel
theorem dX11_first_9 : decode cX11_first 9 = .ok (.aload_n 0, 1) := by decide +kernel
theorem dX11_first_10 : decode cX11_first 10 = .ok (.iload_n 1, 1) := by decide +kernel
theorem dX11_first_11 : decode cX11_first 11 = .ok (.invokevirtual 293, 3) := by decide +kernel
theorem dX11_first_14 : decode cX11_first 14 = .ok (.goto 5, 3) := by decide +kernel
theorem dX11_first_17 : decode cX11_first 17 = .ok (.bipush (-2), 2) := by decide +kernel
theorem dX11_first_19 : decode cX11_first 19 = .ok (.ireturn, 1) := by decide +kernel
theorem dX11_worthAll_0 : decode cX11_worthAll 0 = .ok (.iconst 0, 1) := by decide +kernel
theorem dX11_worthAll_1 : decode cX11_worthAll 1 = .ok (.istore_n 1, 1) := by decide +kernel
theorem dX11_worthAll_2 : decode cX11_worthAll 2 = .ok (.iconst 0, 1) := by decide +kernel
theorem dX11_worthAll_3 : decode cX11_worthAll 3 = .ok (.istore_n 2, 1) := by decide +kernel
theorem dX11_worthAll_4 : decode cX11_worthAll 4 = .ok (.iload_n 2, 1) := by decide +kernel
theorem dX11_worthAll_5 : decode cX11_worthAll 5 = .ok (.iconst 4, 1) := by decide +kernel
theorem dX11_worthAll_6 : decode cX11_worthAll 6 = .ok (.if_icmp .ge 18, 3) := by decide +kernel
theorem dX11_worthAll_9 : decode cX11_worthAll 9 = .ok (.iload_n 1, 1) := by decide +kernel
theorem dX11_worthAll_10 : decode cX11_worthAll 10 = .ok (.aload_n 0, 1) := by decide +kernel
theorem dX11_worthAll_11 : decode cX11_worthAll 11 = .ok (.getfield 73, 3) := by decide +kernel
theorem dX11_worthAll_14 : decode cX11_worthAll 14 = .ok (.iload_n 2, 1) := by decide +kernel
theorem dX11_worthAll_15 : decode cX11_worthAll 15 = .ok (.iaload, 1) := by decide +kernel
theorem dX11_worthAll_16 : decode cX11_worthAll 16 = .ok (.iadd, 1) := by decide +kernel
theorem dX11_worthAll_17 : decode cX11_worthAll 17 = .ok (.istore_n 1, 1) := by decide +kernel
theorem dX11_worthAll_18 : decode cX11_worthAll 18 = .ok (.iinc 2 1, 3) := by decide +kernel
theorem dX11_worthAll_21 : decode cX11_worthAll 21 = .ok (.goto (-17), 3) := by decide +kernel
theorem dX11_worthAll_24 : decode cX11_worthAll 24 = .ok (.iload_n 1, 1) := by decide +kernel
theorem dX11_worthAll_25 : decode cX11_worthAll 25 = .ok (.ireturn, 1) := by decide +kernel
theorem dX11_planOf_0 : decode cX11_planOf 0 = .ok (.aload_n 0, 1) := by decide +kernel
theorem dX11_planOf_1 : decode cX11_planOf 1 = .ok (.invokevirtual 266, 3) := by decide +kernel
theorem dX11_planOf_4 : decode cX11_planOf 4 = .ok (.aload_n 0, 1) := by decide +kernel
theorem dX11_planOf_5 : decode cX11_planOf 5 = .ok (.getfield 192, 3) := by decide +kernel
theorem dX11_planOf_8 : decode cX11_planOf 8 = .ok (.istore_n 3, 1) := by decide +kernel
theorem dX11_planOf_9 : decode cX11_planOf 9 = .ok (.iconst (-1), 1) := by decide +kernel
theorem dX11_planOf_10 : decode cX11_planOf 10 = .ok (.istore 4, 2) := by decide +kernel
theorem dX11_planOf_12 : decode cX11_planOf 12 = .ok (.iconst (-1), 1) := by decide +kernel
theorem dX11_planOf_13 : decode cX11_planOf 13 = .ok (.istore 5, 2) := by decide +kernel
theorem dX11_planOf_15 : decode cX11_planOf 15 = .ok (.aload_n 0, 1) := by decide +kernel
theorem dX11_planOf_16 : decode cX11_planOf 16 = .ok (.dup, 1) := by decide +kernel
theorem dX11_planOf_17 : decode cX11_planOf 17 = .ok (.getfield 192, 3) := by decide +kernel
theorem dX11_planOf_20 : decode cX11_planOf 20 = .ok (.iconst 1, 1) := by decide +kernel
theorem dX11_planOf_21 : decode cX11_planOf 21 = .ok (.iadd, 1) := by decide +kernel
theorem dX11_planOf_22 : decode cX11_planOf 22 = .ok (.putfield 192, 3) := by decide +kernel
theorem dX11_planOf_25 : decode cX11_planOf 25 = .ok (.aload_n 0, 1) := by decide +kernel
theorem dX11_planOf_26 : decode cX11_planOf 26 = .ok (.getfield 40, 3) := by decide +kernel
theorem dX11_planOf_29 : decode cX11_planOf 29 = .ok (.iload_n 3, 1) := by decide +kernel
theorem dX11_planOf_30 : decode cX11_planOf 30 = .ok (.iload_n 1, 1) := by decide +kernel
theorem dX11_planOf_31 : decode cX11_planOf 31 = .ok (.iastore, 1) := by decide +kernel
theorem dX11_planOf_32 : decode cX11_planOf 32 = .ok (.iconst 0, 1) := by decide +kernel
theorem dX11_planOf_33 : decode cX11_planOf 33 = .ok (.istore 6, 2) := by decide +kernel
theorem dX11_planOf_35 : decode cX11_planOf 35 = .ok (.iload 6, 2) := by decide +kernel
theorem dX11_planOf_37 : decode cX11_planOf 37 = .ok (.bipush 96, 2) := by decide +kernel
theorem dX11_planOf_39 : decode cX11_planOf 39 = .ok (.if_icmp .ge 71, 3) := by decide +kernel
theorem dX11_planOf_42 : decode cX11_planOf 42 = .ok (.aload_n 0, 1) := by decide +kernel
theorem dX11_planOf_43 : decode cX11_planOf 43 = .ok (.getfield 34, 3) := by decide +kernel
theorem dX11_planOf_46 : decode cX11_planOf 46 = .ok (.iload_n 3, 1) := by decide +kernel
theorem dX11_planOf_47 : decode cX11_planOf 47 = .ok (.iload 6, 2) := by decide +kernel
theorem dX11_planOf_49 : decode cX11_planOf 49 = .ok (.iconst 4, 1) := by decide +kernel
theorem dX11_planOf_50 : decode cX11_planOf 50 = .ok (.idiv, 1) := by decide +kernel
theorem dX11_planOf_51 : decode cX11_planOf 51 = .ok (.iastore, 1) := by decide +kernel
theorem dX11_planOf_52 : decode cX11_planOf 52 = .ok (.aload_n 0, 1) := by decide +kernel
theorem dX11_planOf_53 : decode cX11_planOf 53 = .ok (.getfield 37, 3) := by decide +kernel
theorem dX11_planOf_56 : decode cX11_planOf 56 = .ok (.iload_n 3, 1) := by decide +kernel
theorem dX11_planOf_57 : decode cX11_planOf 57 = .ok (.iload 6, 2) := by decide +kernel
theorem dX11_planOf_59 : decode cX11_planOf 59 = .ok (.iconst 4, 1) := by decide +kernel
theorem dX11_planOf_60 : decode cX11_planOf 60 = .ok (.irem, 1) := by decide +kernel
theorem dX11_planOf_61 : decode cX11_planOf 61 = .ok (.iastore, 1) := by decide +kernel
theorem dX11_planOf_62 : decode cX11_planOf 62 = .ok (.aload_n 0, 1) := by decide +kernel
theorem dX11_planOf_63 : decode cX11_planOf 63 = .ok (.invokevirtual 269, 3) := by decide +kernel
theorem dX11_planOf_66 : decode cX11_planOf 66 = .ok (.aload_n 0, 1) := by decide +kernel
theorem dX11_planOf_67 : decode cX11_planOf 67 = .ok (.invokevirtual 296, 3) := by decide +kernel
theorem dX11_planOf_70 : decode cX11_planOf 70 = .ok (.istore 7, 2) := by decide +kernel
theorem dX11_planOf_72 : decode cX11_planOf 72 = .ok (.iload 7, 2) := by decide +kernel
theorem dX11_planOf_74 : decode cX11_planOf 74 = .ok (.iload 5, 2) := by decide +kernel
theorem dX11_planOf_76 : decode cX11_planOf 76 = .ok (.if_icmp .le 8, 3) := by decide +kernel
theorem dX11_planOf_79 : decode cX11_planOf 79 = .ok (.iload 6, 2) := by decide +kernel
theorem dX11_planOf_81 : decode cX11_planOf 81 = .ok (.goto 5, 3) := by decide +kernel
theorem dX11_planOf_84 : decode cX11_planOf 84 = .ok (.iload 4, 2) := by decide +kernel
theorem dX11_planOf_86 : decode cX11_planOf 86 = .ok (.istore 4, 2) := by decide +kernel
theorem dX11_planOf_88 : decode cX11_planOf 88 = .ok (.iload 7, 2) := by decide +kernel
theorem dX11_planOf_90 : decode cX11_planOf 90 = .ok (.iload 5, 2) := by decide +kernel
theorem dX11_planOf_92 : decode cX11_planOf 92 = .ok (.if_icmp .le 8, 3) := by decide +kernel
theorem dX11_planOf_95 : decode cX11_planOf 95 = .ok (.iload 7, 2) := by decide +kernel
theorem dX11_planOf_97 : decode cX11_planOf 97 = .ok (.goto 5, 3) := by decide +kernel
theorem dX11_planOf_100 : decode cX11_planOf 100 = .ok (.iload 5, 2) := by decide +kernel
theorem dX11_planOf_102 : decode cX11_planOf 102 = .ok (.istore 5, 2) := by decide +kernel
theorem dX11_planOf_104 : decode cX11_planOf 104 = .ok (.iinc 6 1, 3) := by decide +kernel
theorem dX11_planOf_107 : decode cX11_planOf 107 = .ok (.goto (-72), 3) := by decide +kernel
theorem dX11_planOf_110 : decode cX11_planOf 110 = .ok (.aload_n 0, 1) := by decide +kernel
theorem dX11_planOf_111 : decode cX11_planOf 111 = .ok (.iload_n 3, 1) := by decide +kernel
theorem dX11_planOf_112 : decode cX11_planOf 112 = .ok (.putfield 192, 3) := by decide +kernel
theorem dX11_planOf_115 : decode cX11_planOf 115 = .ok (.iload_n 2, 1) := by decide +kernel
theorem dX11_planOf_116 : decode cX11_planOf 116 = .ok (.ifCond .ne 10, 3) := by decide +kernel
theorem dX11_planOf_119 : decode cX11_planOf 119 = .ok (.iload 4, 2) := by decide +kernel
theorem dX11_planOf_121 : decode cX11_planOf 121 = .ok (.iconst 4, 1) := by decide +kernel
theorem dX11_planOf_122 : decode cX11_planOf 122 = .ok (.idiv, 1) := by decide +kernel
theorem dX11_planOf_123 : decode cX11_planOf 123 = .ok (.goto 17, 3) := by decide +kernel
theorem dX11_planOf_126 : decode cX11_planOf 126 = .ok (.iload_n 2, 1) := by decide +kernel
theorem dX11_planOf_127 : decode cX11_planOf 127 = .ok (.iconst 1, 1) := by decide +kernel
theorem dX11_planOf_128 : decode cX11_planOf 128 = .ok (.if_icmp .ne 10, 3) := by decide +kernel
theorem dX11_planOf_131 : decode cX11_planOf 131 = .ok (.iload 4, 2) := by decide +kernel
theorem dX11_planOf_133 : decode cX11_planOf 133 = .ok (.iconst 4, 1) := by decide +kernel
theorem dX11_planOf_134 : decode cX11_planOf 134 = .ok (.irem, 1) := by decide +kernel
theorem dX11_planOf_135 : decode cX11_planOf 135 = .ok (.goto 5, 3) := by decide +kernel
theorem dX11_planOf_138 : decode cX11_planOf 138 = .ok (.iload 5, 2) := by decide +kernel
theorem dX11_planOf_140 : decode cX11_planOf 140 = .ok (.ireturn, 1) := by decide +kernel
theorem dX11_plan_0 : decode cX11_plan 0 = .ok (.iload_n 1, 1) := by decide +kernel
theorem dX11_plan_1 : decode cX11_plan 1 = .ok (.iconst 1, 1) := by decide +kernel
theorem dX11_plan_2 : decode cX11_plan 2 = .ok (.iconst 4, 1) := by decide +kernel
theorem dX11_plan_3 : decode cX11_plan 3 = .ok (.invokestatic 140, 3) := by decide +kernel
theorem dX11_plan_6 : decode cX11_plan 6 = .ok (.ifCond .eq 21, 3) := by decide +kernel
theorem dX11_plan_9 : decode cX11_plan 9 = .ok (.iload_n 2, 1) := by decide +kernel
theorem dX11_plan_10 : decode cX11_plan 10 = .ok (.iconst 0, 1) := by decide +kernel
theorem dX11_plan_11 : decode cX11_plan 11 = .ok (.iconst 2, 1) := by decide +kernel
theorem dX11_plan_12 : decode cX11_plan 12 = .ok (.invokestatic 140, 3) := by decide +kernel
theorem dX11_plan_15 : decode cX11_plan 15 = .ok (.ifCond .eq 12, 3) := by decide +kernel
theorem dX11_plan_18 : decode cX11_plan 18 = .ok (.aload_n 0, 1) := by decide +kernel
theorem dX11_plan_19 : decode cX11_plan 19 = .ok (.iload_n 1, 1) := by decide +kernel
theorem dX11_plan_20 : decode cX11_plan 20 = .ok (.iload_n 2, 1) := by decide +kernel
theorem dX11_plan_21 : decode cX11_plan 21 = .ok (.invokevirtual 299, 3) := by decide +kernel
theorem dX11_plan_24 : decode cX11_plan 24 = .ok (.goto 5, 3) := by decide +kernel
theorem dX11_plan_27 : decode cX11_plan 27 = .ok (.bipush (-2), 2) := by decide +kernel
theorem dX11_plan_29 : decode cX11_plan 29 = .ok (.ireturn, 1) := by decide +kernel
theorem dX11_ofRow_0 : decode cX11_ofRow 0 = .ok (.iload_n 2, 1) := by decide +kernel
theorem dX11_ofRow_1 : decode cX11_ofRow 1 = .ok (.iconst (-1), 1) := by decide +kernel
theorem dX11_ofRow_2 : decode cX11_ofRow 2 = .ok (.if_icmp .ne 7, 3) := by decide +kernel
theorem dX11_ofRow_5 : decode cX11_ofRow 5 = .ok (.iload_n 1, 1) := by decide +kernel
theorem dX11_ofRow_6 : decode cX11_ofRow 6 = .ok (.goto 18, 3) := by decide +kernel
theorem dX11_ofRow_9 : decode cX11_ofRow 9 = .ok (.iload_n 2, 1) := by decide +kernel
theorem dX11_ofRow_10 : decode cX11_ofRow 10 = .ok (.iload_n 1, 1) := by decide +kernel
theorem dX11_ofRow_11 : decode cX11_ofRow 11 = .ok (.if_icmp .ge 12, 3) := by decide +kernel
theorem dX11_ofRow_14 : decode cX11_ofRow 14 = .ok (.aload_n 0, 1) := by decide +kernel
theorem dX11_ofRow_15 : decode cX11_ofRow 15 = .ok (.getfield 100, 3) := by decide +kernel
theorem dX11_ofRow_18 : decode cX11_ofRow 18 = .ok (.iload_n 2, 1) := by decide +kernel
theorem dX11_ofRow_19 : decode cX11_ofRow 19 = .ok (.iaload, 1) := by decide +kernel
theorem dX11_ofRow_20 : decode cX11_ofRow 20 = .ok (.goto 4, 3) := by decide +kernel
theorem dX11_ofRow_23 : decode cX11_ofRow 23 = .ok (.iconst (-1), 1) := by decide +kernel
theorem dX11_ofRow_24 : decode cX11_ofRow 24 = .ok (.ireturn, 1) := by decide +kernel
theorem dX11_isLight_0 : decode cX11_isLight 0 = .ok (.aload_n 0, 1) := by decide +kernel
theorem dX11_isLight_1 : decode cX11_isLight 1 = .ok (.iload_n 3, 1) := by decide +kernel
theorem dX11_isLight_2 : decode cX11_isLight 2 = .ok (.putfield 211, 3) := by decide +kernel
theorem dX11_isLight_5 : decode cX11_isLight 5 = .ok (.aload_n 0, 1) := by decide +kernel
theorem dX11_isLight_6 : decode cX11_isLight 6 = .ok (.invokevirtual 269, 3) := by decide +kernel
theorem dX11_isLight_9 : decode cX11_isLight 9 = .ok (.iconst 1, 1) := by decide +kernel
theorem dX11_isLight_10 : decode cX11_isLight 10 = .ok (.istore 4, 2) := by decide +kernel
theorem dX11_isLight_12 : decode cX11_isLight 12 = .ok (.iconst 0, 1) := by decide +kernel
theorem dX11_isLight_13 : decode cX11_isLight 13 = .ok (.istore 5, 2) := by decide +kernel
theorem dX11_isLight_15 : decode cX11_isLight 15 = .ok (.iload 5, 2) := by decide +kernel
theorem dX11_isLight_17 : decode cX11_isLight 17 = .ok (.bipush 24, 2) := by decide +kernel
theorem dX11_isLight_19 : decode cX11_isLight 19 = .ok (.if_icmp .ge 37, 3) := by decide +kernel
theorem dX11_isLight_22 : decode cX11_isLight 22 = .ok (.iload 4, 2) := by decide +kernel
theorem dX11_isLight_24 : decode cX11_isLight 24 = .ok (.ifCond .eq 23, 3) := by decide +kernel
theorem dX11_isLight_27 : decode cX11_isLight 27 = .ok (.aload_n 0, 1) := by decide +kernel
theorem dX11_isLight_28 : decode cX11_isLight 28 = .ok (.getfield 76, 3) := by decide +kernel
theorem dX11_isLight_31 : decode cX11_isLight 31 = .ok (.bipush 8, 2) := by decide +kernel
theorem dX11_isLight_33 : decode cX11_isLight 33 = .ok (.iload 5, 2) := by decide +kernel
theorem dX11_isLight_35 : decode cX11_isLight 35 = .ok (.imul, 1) := by decide +kernel
theorem dX11_isLight_36 : decode cX11_isLight 36 = .ok (.iload_n 1, 1) := by decide +kernel
theorem dX11_isLight_37 : decode cX11_isLight 37 = .ok (.iadd, 1) := by decide +kernel
theorem dX11_isLight_38 : decode cX11_isLight 38 = .ok (.iaload, 1) := by decide +kernel
theorem dX11_isLight_39 : decode cX11_isLight 39 = .ok (.iload_n 2, 1) := by decide +kernel
theorem dX11_isLight_40 : decode cX11_isLight 40 = .ok (.if_icmp .gt 7, 3) := by decide +kernel
theorem dX11_isLight_43 : decode cX11_isLight 43 = .ok (.iconst 1, 1) := by decide +kernel
theorem dX11_isLight_44 : decode cX11_isLight 44 = .ok (.goto 4, 3) := by decide +kernel
theorem dX11_isLight_47 : decode cX11_isLight 47 = .ok (.iconst 0, 1) := by decide +kernel
theorem dX11_isLight_48 : decode cX11_isLight 48 = .ok (.istore 4, 2) := by decide +kernel
theorem dX11_isLight_50 : decode cX11_isLight 50 = .ok (.iinc 5 1, 3) := by decide +kernel
theorem dX11_isLight_53 : decode cX11_isLight 53 = .ok (.goto (-38), 3) := by decide +kernel
theorem dX11_isLight_56 : decode cX11_isLight 56 = .ok (.iload 4, 2) := by decide +kernel
theorem dX11_isLight_58 : decode cX11_isLight 58 = .ok (.ireturn, 1) := by decide +kernel
theorem dX11_lightBy_0 : decode cX11_lightBy 0 = .ok (.aload_n 0, 1) := by decide +kernel
theorem dX11_lightBy_1 : decode cX11_lightBy 1 = .ok (.invokevirtual 266, 3) := by decide +kernel
theorem dX11_lightBy_4 : decode cX11_lightBy 4 = .ok (.aload_n 0, 1) := by decide +kernel
theorem dX11_lightBy_5 : decode cX11_lightBy 5 = .ok (.iload_n 1, 1) := by decide +kernel
theorem dX11_lightBy_6 : decode cX11_lightBy 6 = .ok (.iload_n 2, 1) := by decide +kernel
theorem dX11_lightBy_7 : decode cX11_lightBy 7 = .ok (.iconst 0, 1) := by decide +kernel
theorem dX11_lightBy_8 : decode cX11_lightBy 8 = .ok (.invokevirtual 302, 3) := by decide +kernel
theorem dX11_lightBy_11 : decode cX11_lightBy 11 = .ok (.ifCond .eq 5, 3) := by decide +kernel
theorem dX11_lightBy_14 : decode cX11_lightBy 14 = .ok (.iconst 0, 1) := by decide +kernel
theorem dX11_lightBy_15 : decode cX11_lightBy 15 = .ok (.ireturn, 1) := by decide +kernel
theorem dX11_lightBy_16 : decode cX11_lightBy 16 = .ok (.iconst 0, 1) := by decide +kernel
theorem dX11_lightBy_17 : decode cX11_lightBy 17 = .ok (.istore_n 3, 1) := by decide +kernel
theorem dX11_lightBy_18 : decode cX11_lightBy 18 = .ok (.iload_n 3, 1) := by decide +kernel
theorem dX11_lightBy_19 : decode cX11_lightBy 19 = .ok (.aload_n 0, 1) := by decide +kernel
theorem dX11_lightBy_20 : decode cX11_lightBy 20 = .ok (.getfield 155, 3) := by decide +kernel
theorem dX11_lightBy_23 : decode cX11_lightBy 23 = .ok (.if_icmp .ge 30, 3) := by decide +kernel
theorem dX11_lightBy_26 : decode cX11_lightBy 26 = .ok (.aload_n 0, 1) := by decide +kernel
theorem dX11_lightBy_27 : decode cX11_lightBy 27 = .ok (.getfield 100, 3) := by decide +kernel
theorem dX11_lightBy_30 : decode cX11_lightBy 30 = .ok (.iconst 0, 1) := by decide +kernel
theorem dX11_lightBy_31 : decode cX11_lightBy 31 = .ok (.iload_n 3, 1) := by decide +kernel
theorem dX11_lightBy_32 : decode cX11_lightBy 32 = .ok (.iastore, 1) := by decide +kernel
theorem dX11_lightBy_33 : decode cX11_lightBy 33 = .ok (.aload_n 0, 1) := by decide +kernel
theorem dX11_lightBy_34 : decode cX11_lightBy 34 = .ok (.iload_n 1, 1) := by decide +kernel
theorem dX11_lightBy_35 : decode cX11_lightBy 35 = .ok (.iload_n 2, 1) := by decide +kernel
theorem dX11_lightBy_36 : decode cX11_lightBy 36 = .ok (.iconst 1, 1) := by decide +kernel
theorem dX11_lightBy_37 : decode cX11_lightBy 37 = .ok (.iload_n 3, 1) := by decide +kernel
theorem dX11_lightBy_38 : decode cX11_lightBy 38 = .ok (.ishl, 1) := by decide +kernel
theorem dX11_lightBy_39 : decode cX11_lightBy 39 = .ok (.invokevirtual 302, 3) := by decide +kernel
theorem dX11_lightBy_42 : decode cX11_lightBy 42 = .ok (.ifCond .eq 5, 3) := by decide +kernel
theorem dX11_lightBy_45 : decode cX11_lightBy 45 = .ok (.iconst 1, 1) := by decide +kernel
theorem dX11_lightBy_46 : decode cX11_lightBy 46 = .ok (.ireturn, 1) := by decide +kernel
theorem dX11_lightBy_47 : decode cX11_lightBy 47 = .ok (.iinc 3 1, 3) := by decide +kernel
theorem dX11_lightBy_50 : decode cX11_lightBy 50 = .ok (.goto (-32), 3) := by decide +kernel
theorem dX11_lightBy_53 : decode cX11_lightBy 53 = .ok (.iconst 0, 1) := by decide +kernel
theorem dX11_lightBy_54 : decode cX11_lightBy 54 = .ok (.istore_n 3, 1) := by decide +kernel
theorem dX11_lightBy_55 : decode cX11_lightBy 55 = .ok (.iload_n 3, 1) := by decide +kernel
theorem dX11_lightBy_56 : decode cX11_lightBy 56 = .ok (.aload_n 0, 1) := by decide +kernel
theorem dX11_lightBy_57 : decode cX11_lightBy 57 = .ok (.getfield 155, 3) := by decide +kernel
theorem dX11_lightBy_60 : decode cX11_lightBy 60 = .ok (.if_icmp .ge 63, 3) := by decide +kernel
theorem dX11_lightBy_63 : decode cX11_lightBy 63 = .ok (.iload_n 3, 1) := by decide +kernel
theorem dX11_lightBy_64 : decode cX11_lightBy 64 = .ok (.iconst 1, 1) := by decide +kernel
theorem dX11_lightBy_65 : decode cX11_lightBy 65 = .ok (.iadd, 1) := by decide +kernel
theorem dX11_lightBy_66 : decode cX11_lightBy 66 = .ok (.istore 4, 2) := by decide +kernel
theorem dX11_lightBy_68 : decode cX11_lightBy 68 = .ok (.iload 4, 2) := by decide +kernel
theorem dX11_lightBy_70 : decode cX11_lightBy 70 = .ok (.aload_n 0, 1) := by decide +kernel
theorem dX11_lightBy_71 : decode cX11_lightBy 71 = .ok (.getfield 155, 3) := by decide +kernel
theorem dX11_lightBy_74 : decode cX11_lightBy 74 = .ok (.if_icmp .ge 43, 3) := by decide +kernel
theorem dX11_lightBy_77 : decode cX11_lightBy 77 = .ok (.aload_n 0, 1) := by decide +kernel
theorem dX11_lightBy_78 : decode cX11_lightBy 78 = .ok (.getfield 100, 3) := by decide +kernel
theorem dX11_lightBy_81 : decode cX11_lightBy 81 = .ok (.iconst 0, 1) := by decide +kernel
theorem dX11_lightBy_82 : decode cX11_lightBy 82 = .ok (.iload_n 3, 1) := by decide +kernel
theorem dX11_lightBy_83 : decode cX11_lightBy 83 = .ok (.iastore, 1) := by decide +kernel
theorem dX11_lightBy_84 : decode cX11_lightBy 84 = .ok (.aload_n 0, 1) := by decide +kernel
theorem dX11_lightBy_85 : decode cX11_lightBy 85 = .ok (.getfield 100, 3) := by decide +kernel
theorem dX11_lightBy_88 : decode cX11_lightBy 88 = .ok (.iconst 1, 1) := by decide +kernel
theorem dX11_lightBy_89 : decode cX11_lightBy 89 = .ok (.iload 4, 2) := by decide +kernel
theorem dX11_lightBy_91 : decode cX11_lightBy 91 = .ok (.iastore, 1) := by decide +kernel
theorem dX11_lightBy_92 : decode cX11_lightBy 92 = .ok (.aload_n 0, 1) := by decide +kernel
theorem dX11_lightBy_93 : decode cX11_lightBy 93 = .ok (.iload_n 1, 1) := by decide +kernel
theorem dX11_lightBy_94 : decode cX11_lightBy 94 = .ok (.iload_n 2, 1) := by decide +kernel
theorem dX11_lightBy_95 : decode cX11_lightBy 95 = .ok (.iconst 1, 1) := by decide +kernel
theorem dX11_lightBy_96 : decode cX11_lightBy 96 = .ok (.iload_n 3, 1) := by decide +kernel
theorem dX11_lightBy_97 : decode cX11_lightBy 97 = .ok (.ishl, 1) := by decide +kernel
theorem dX11_lightBy_98 : decode cX11_lightBy 98 = .ok (.iconst 1, 1) := by decide +kernel
theorem dX11_lightBy_99 : decode cX11_lightBy 99 = .ok (.iload 4, 2) := by decide +kernel
theorem dX11_lightBy_101 : decode cX11_lightBy 101 = .ok (.ishl, 1) := by decide +kernel
theorem dX11_lightBy_102 : decode cX11_lightBy 102 = .ok (.ior, 1) := by decide +kernel
theorem dX11_lightBy_103 : decode cX11_lightBy 103 = .ok (.invokevirtual 302, 3) := by decide +kernel
theorem dX11_lightBy_106 : decode cX11_lightBy 106 = .ok (.ifCond .eq 5, 3) := by decide +kernel
theorem dX11_lightBy_109 : decode cX11_lightBy 109 = .ok (.iconst 2, 1) := by decide +kernel
theorem dX11_lightBy_110 : decode cX11_lightBy 110 = .ok (.ireturn, 1) := by decide +kernel
theorem dX11_lightBy_111 : decode cX11_lightBy 111 = .ok (.iinc 4 1, 3) := by decide +kernel
theorem dX11_lightBy_114 : decode cX11_lightBy 114 = .ok (.goto (-46), 3) := by decide +kernel
theorem dX11_lightBy_117 : decode cX11_lightBy 117 = .ok (.iinc 3 1, 3) := by decide +kernel
theorem dX11_lightBy_120 : decode cX11_lightBy 120 = .ok (.goto (-65), 3) := by decide +kernel
theorem dX11_lightBy_123 : decode cX11_lightBy 123 = .ok (.iconst (-1), 1) := by decide +kernel
theorem dX11_lightBy_124 : decode cX11_lightBy 124 = .ok (.ireturn, 1) := by decide +kernel
theorem dX11_light_0 : decode cX11_light 0 = .ok (.aload_n 0, 1) := by decide +kernel
theorem dX11_light_1 : decode cX11_light 1 = .ok (.iload_n 1, 1) := by decide +kernel
theorem dX11_light_2 : decode cX11_light 2 = .ok (.invokevirtual 174, 3) := by decide +kernel
theorem dX11_light_5 : decode cX11_light 5 = .ok (.ifCond .eq 36, 3) := by decide +kernel
theorem dX11_light_8 : decode cX11_light 8 = .ok (.iload_n 2, 1) := by decide +kernel
theorem dX11_light_9 : decode cX11_light 9 = .ok (.iconst 0, 1) := by decide +kernel
theorem dX11_light_10 : decode cX11_light 10 = .ok (.bipush 99, 2) := by decide +kernel
theorem dX11_light_12 : decode cX11_light 12 = .ok (.invokestatic 140, 3) := by decide +kernel
theorem dX11_light_15 : decode cX11_light 15 = .ok (.ifCond .eq 26, 3) := by decide +kernel
theorem dX11_light_18 : decode cX11_light 18 = .ok (.iload_n 3, 1) := by decide +kernel
theorem dX11_light_19 : decode cX11_light 19 = .ok (.iconst (-1), 1) := by decide +kernel
theorem dX11_light_20 : decode cX11_light 20 = .ok (.iconst 1, 1) := by decide +kernel
theorem dX11_light_21 : decode cX11_light 21 = .ok (.invokestatic 140, 3) := by decide +kernel
theorem dX11_light_24 : decode cX11_light 24 = .ok (.ifCond .eq 17, 3) := by decide +kernel
theorem dX11_light_27 : decode cX11_light 27 = .ok (.aload_n 0, 1) := by decide +kernel
theorem dX11_light_28 : decode cX11_light 28 = .ok (.aload_n 0, 1) := by decide +kernel
theorem dX11_light_29 : decode cX11_light 29 = .ok (.iload_n 1, 1) := by decide +kernel
theorem dX11_light_30 : decode cX11_light 30 = .ok (.iload_n 2, 1) := by decide +kernel
theorem dX11_light_31 : decode cX11_light 31 = .ok (.invokevirtual 305, 3) := by decide +kernel
theorem dX11_light_34 : decode cX11_light 34 = .ok (.iload_n 3, 1) := by decide +kernel
theorem dX11_light_35 : decode cX11_light 35 = .ok (.invokevirtual 308, 3) := by decide +kernel
theorem dX11_light_38 : decode cX11_light 38 = .ok (.goto 5, 3) := by decide +kernel
theorem dX11_light_41 : decode cX11_light 41 = .ok (.bipush (-2), 2) := by decide +kernel
theorem dX11_light_43 : decode cX11_light 43 = .ok (.ireturn, 1) := by decide +kernel
theorem dX11_livesMany_0 : decode cX11_livesMany 0 = .ok (.iconst 0, 1) := by decide +kernel
theorem dX11_livesMany_1 : decode cX11_livesMany 1 = .ok (.istore_n 1, 1) := by decide +kernel
theorem dX11_livesMany_2 : decode cX11_livesMany 2 = .ok (.iconst 0, 1) := by decide +kernel
theorem dX11_livesMany_3 : decode cX11_livesMany 3 = .ok (.istore_n 2, 1) := by decide +kernel
theorem dX11_livesMany_4 : decode cX11_livesMany 4 = .ok (.iload_n 2, 1) := by decide +kernel
theorem dX11_livesMany_5 : decode cX11_livesMany 5 = .ok (.aload_n 0, 1) := by decide +kernel
theorem dX11_livesMany_6 : decode cX11_livesMany 6 = .ok (.getfield 152, 3) := by decide +kernel
theorem dX11_livesMany_9 : decode cX11_livesMany 9 = .ok (.if_icmp .ge 25, 3) := by decide +kernel
theorem dX11_livesMany_12 : decode cX11_livesMany 12 = .ok (.iload_n 1, 1) := by decide +kernel
theorem dX11_livesMany_13 : decode cX11_livesMany 13 = .ok (.aload_n 0, 1) := by decide +kernel
theorem dX11_livesMany_14 : decode cX11_livesMany 14 = .ok (.iload_n 2, 1) := by decide +kernel
theorem dX11_livesMany_15 : decode cX11_livesMany 15 = .ok (.invokevirtual 227, 3) := by decide +kernel
theorem dX11_livesMany_18 : decode cX11_livesMany 18 = .ok (.ifCond .eq 7, 3) := by decide +kernel
theorem dX11_livesMany_21 : decode cX11_livesMany 21 = .ok (.iconst 1, 1) := by decide +kernel
theorem dX11_livesMany_22 : decode cX11_livesMany 22 = .ok (.goto 4, 3) := by decide +kernel
theorem dX11_livesMany_25 : decode cX11_livesMany 25 = .ok (.iconst 0, 1) := by decide +kernel
theorem dX11_livesMany_26 : decode cX11_livesMany 26 = .ok (.iadd, 1) := by decide +kernel
theorem dX11_livesMany_27 : decode cX11_livesMany 27 = .ok (.istore_n 1, 1) := by decide +kernel
theorem dX11_livesMany_28 : decode cX11_livesMany 28 = .ok (.iinc 2 1, 3) := by decide +kernel
theorem dX11_livesMany_31 : decode cX11_livesMany 31 = .ok (.goto (-27), 3) := by decide +kernel
theorem dX11_livesMany_34 : decode cX11_livesMany 34 = .ok (.iload_n 1, 1) := by decide +kernel
theorem dX11_livesMany_35 : decode cX11_livesMany 35 = .ok (.ireturn, 1) := by decide +kernel
theorem dX11_isSpared_0 : decode cX11_isSpared 0 = .ok (.aload_n 0, 1) := by decide +kernel
theorem dX11_isSpared_1 : decode cX11_isSpared 1 = .ok (.iload_n 1, 1) := by decide +kernel
theorem dX11_isSpared_2 : decode cX11_isSpared 2 = .ok (.putfield 214, 3) := by decide +kernel
theorem dX11_isSpared_5 : decode cX11_isSpared 5 = .ok (.aload_n 0, 1) := by decide +kernel
theorem dX11_isSpared_6 : decode cX11_isSpared 6 = .ok (.invokevirtual 269, 3) := by decide +kernel
theorem dX11_isSpared_9 : decode cX11_isSpared 9 = .ok (.aload_n 0, 1) := by decide +kernel
theorem dX11_isSpared_10 : decode cX11_isSpared 10 = .ok (.invokevirtual 311, 3) := by decide +kernel
theorem dX11_isSpared_13 : decode cX11_isSpared 13 = .ok (.aload_n 0, 1) := by decide +kernel
theorem dX11_isSpared_14 : decode cX11_isSpared 14 = .ok (.getfield 152, 3) := by decide +kernel
theorem dX11_isSpared_17 : decode cX11_isSpared 17 = .ok (.if_icmp .ne 7, 3) := by decide +kernel
theorem dX11_isSpared_20 : decode cX11_isSpared 20 = .ok (.iconst 1, 1) := by decide +kernel
theorem dX11_isSpared_21 : decode cX11_isSpared 21 = .ok (.goto 4, 3) := by decide +kernel
theorem dX11_isSpared_24 : decode cX11_isSpared 24 = .ok (.iconst 0, 1) := by decide +kernel
theorem dX11_isSpared_25 : decode cX11_isSpared 25 = .ok (.ireturn, 1) := by decide +kernel
theorem dX11_spareBy_0 : decode cX11_spareBy 0 = .ok (.aload_n 0, 1) := by decide +kernel
theorem dX11_spareBy_1 : decode cX11_spareBy 1 = .ok (.invokevirtual 266, 3) := by decide +kernel
theorem dX11_spareBy_4 : decode cX11_spareBy 4 = .ok (.aload_n 0, 1) := by decide +kernel
theorem dX11_spareBy_5 : decode cX11_spareBy 5 = .ok (.iconst 0, 1) := by decide +kernel
theorem dX11_spareBy_6 : decode cX11_spareBy 6 = .ok (.invokevirtual 314, 3) := by decide +kernel
theorem dX11_spareBy_9 : decode cX11_spareBy 9 = .ok (.ifCond .eq 5, 3) := by decide +kernel
theorem dX11_spareBy_12 : decode cX11_spareBy 12 = .ok (.iconst 0, 1) := by decide +kernel
theorem dX11_spareBy_13 : decode cX11_spareBy 13 = .ok (.ireturn, 1) := by decide +kernel
theorem dX11_spareBy_14 : decode cX11_spareBy 14 = .ok (.iconst 0, 1) := by decide +kernel
theorem dX11_spareBy_15 : decode cX11_spareBy 15 = .ok (.istore_n 1, 1) := by decide +kernel
theorem dX11_spareBy_16 : decode cX11_spareBy 16 = .ok (.iload_n 1, 1) := by decide +kernel
theorem dX11_spareBy_17 : decode cX11_spareBy 17 = .ok (.aload_n 0, 1) := by decide +kernel
theorem dX11_spareBy_18 : decode cX11_spareBy 18 = .ok (.getfield 192, 3) := by decide +kernel
theorem dX11_spareBy_21 : decode cX11_spareBy 21 = .ok (.if_icmp .ge 28, 3) := by decide +kernel
theorem dX11_spareBy_24 : decode cX11_spareBy 24 = .ok (.aload_n 0, 1) := by decide +kernel
theorem dX11_spareBy_25 : decode cX11_spareBy 25 = .ok (.getfield 100, 3) := by decide +kernel
theorem dX11_spareBy_28 : decode cX11_spareBy 28 = .ok (.iconst 0, 1) := by decide +kernel
theorem dX11_spareBy_29 : decode cX11_spareBy 29 = .ok (.iload_n 1, 1) := by decide +kernel
theorem dX11_spareBy_30 : decode cX11_spareBy 30 = .ok (.iastore, 1) := by decide +kernel
theorem dX11_spareBy_31 : decode cX11_spareBy 31 = .ok (.aload_n 0, 1) := by decide +kernel
theorem dX11_spareBy_32 : decode cX11_spareBy 32 = .ok (.iconst 1, 1) := by decide +kernel
theorem dX11_spareBy_33 : decode cX11_spareBy 33 = .ok (.iload_n 1, 1) := by decide +kernel
theorem dX11_spareBy_34 : decode cX11_spareBy 34 = .ok (.ishl, 1) := by decide +kernel
theorem dX11_spareBy_35 : decode cX11_spareBy 35 = .ok (.invokevirtual 314, 3) := by decide +kernel
theorem dX11_spareBy_38 : decode cX11_spareBy 38 = .ok (.ifCond .eq 5, 3) := by decide +kernel
theorem dX11_spareBy_41 : decode cX11_spareBy 41 = .ok (.iconst 1, 1) := by decide +kernel
theorem dX11_spareBy_42 : decode cX11_spareBy 42 = .ok (.ireturn, 1) := by decide +kernel
theorem dX11_spareBy_43 : decode cX11_spareBy 43 = .ok (.iinc 1 1, 3) := by decide +kernel
theorem dX11_spareBy_46 : decode cX11_spareBy 46 = .ok (.goto (-30), 3) := by decide +kernel
theorem dX11_spareBy_49 : decode cX11_spareBy 49 = .ok (.iconst 0, 1) := by decide +kernel
theorem dX11_spareBy_50 : decode cX11_spareBy 50 = .ok (.istore_n 1, 1) := by decide +kernel
theorem dX11_spareBy_51 : decode cX11_spareBy 51 = .ok (.iload_n 1, 1) := by decide +kernel
theorem dX11_spareBy_52 : decode cX11_spareBy 52 = .ok (.aload_n 0, 1) := by decide +kernel
theorem dX11_spareBy_53 : decode cX11_spareBy 53 = .ok (.getfield 192, 3) := by decide +kernel
theorem dX11_spareBy_56 : decode cX11_spareBy 56 = .ok (.if_icmp .ge 57, 3) := by decide +kernel
theorem dX11_spareBy_59 : decode cX11_spareBy 59 = .ok (.iload_n 1, 1) := by decide +kernel
theorem dX11_spareBy_60 : decode cX11_spareBy 60 = .ok (.iconst 1, 1) := by decide +kernel
theorem dX11_spareBy_61 : decode cX11_spareBy 61 = .ok (.iadd, 1) := by decide +kernel
theorem dX11_spareBy_62 : decode cX11_spareBy 62 = .ok (.istore_n 2, 1) := by decide +kernel
theorem dX11_spareBy_63 : decode cX11_spareBy 63 = .ok (.iload_n 2, 1) := by decide +kernel
theorem dX11_spareBy_64 : decode cX11_spareBy 64 = .ok (.aload_n 0, 1) := by decide +kernel
theorem dX11_spareBy_65 : decode cX11_spareBy 65 = .ok (.getfield 192, 3) := by decide +kernel
theorem dX11_spareBy_68 : decode cX11_spareBy 68 = .ok (.if_icmp .ge 39, 3) := by decide +kernel
theorem dX11_spareBy_71 : decode cX11_spareBy 71 = .ok (.aload_n 0, 1) := by decide +kernel
theorem dX11_spareBy_72 : decode cX11_spareBy 72 = .ok (.getfield 100, 3) := by decide +kernel
theorem dX11_spareBy_75 : decode cX11_spareBy 75 = .ok (.iconst 0, 1) := by decide +kernel
theorem dX11_spareBy_76 : decode cX11_spareBy 76 = .ok (.iload_n 1, 1) := by decide +kernel
theorem dX11_spareBy_77 : decode cX11_spareBy 77 = .ok (.iastore, 1) := by decide +kernel
theorem dX11_spareBy_78 : decode cX11_spareBy 78 = .ok (.aload_n 0, 1) := by decide +kernel
theorem dX11_spareBy_79 : decode cX11_spareBy 79 = .ok (.getfield 100, 3) := by decide +kernel
theorem dX11_spareBy_82 : decode cX11_spareBy 82 = .ok (.iconst 1, 1) := by decide +kernel
theorem dX11_spareBy_83 : decode cX11_spareBy 83 = .ok (.iload_n 2, 1) := by decide +kernel
theorem dX11_spareBy_84 : decode cX11_spareBy 84 = .ok (.iastore, 1) := by decide +kernel
theorem dX11_spareBy_85 : decode cX11_spareBy 85 = .ok (.aload_n 0, 1) := by decide +kernel
theorem dX11_spareBy_86 : decode cX11_spareBy 86 = .ok (.iconst 1, 1) := by decide +kernel
theorem dX11_spareBy_87 : decode cX11_spareBy 87 = .ok (.iload_n 1, 1) := by decide +kernel
theorem dX11_spareBy_88 : decode cX11_spareBy 88 = .ok (.ishl, 1) := by decide +kernel
theorem dX11_spareBy_89 : decode cX11_spareBy 89 = .ok (.iconst 1, 1) := by decide +kernel
theorem dX11_spareBy_90 : decode cX11_spareBy 90 = .ok (.iload_n 2, 1) := by decide +kernel
theorem dX11_spareBy_91 : decode cX11_spareBy 91 = .ok (.ishl, 1) := by decide +kernel
theorem dX11_spareBy_92 : decode cX11_spareBy 92 = .ok (.ior, 1) := by decide +kernel
theorem dX11_spareBy_93 : decode cX11_spareBy 93 = .ok (.invokevirtual 314, 3) := by decide +kernel
theorem dX11_spareBy_96 : decode cX11_spareBy 96 = .ok (.ifCond .eq 5, 3) := by decide +kernel
theorem dX11_spareBy_99 : decode cX11_spareBy 99 = .ok (.iconst 2, 1) := by decide +kernel
theorem dX11_spareBy_100 : decode cX11_spareBy 100 = .ok (.ireturn, 1) := by decide +kernel
theorem dX11_spareBy_101 : decode cX11_spareBy 101 = .ok (.iinc 2 1, 3) := by decide +kernel
theorem dX11_spareBy_104 : decode cX11_spareBy 104 = .ok (.goto (-41), 3) := by decide +kernel
theorem dX11_spareBy_107 : decode cX11_spareBy 107 = .ok (.iinc 1 1, 3) := by decide +kernel
theorem dX11_spareBy_110 : decode cX11_spareBy 110 = .ok (.goto (-59), 3) := by decide +kernel
theorem dX11_spareBy_113 : decode cX11_spareBy 113 = .ok (.iconst (-1), 1) := by decide +kernel
theorem dX11_spareBy_114 : decode cX11_spareBy 114 = .ok (.ireturn, 1) := by decide +kernel
theorem dX11_spare_0 : decode cX11_spare 0 = .ok (.iload_n 1, 1) := by decide +kernel
theorem dX11_spare_1 : decode cX11_spare 1 = .ok (.iconst (-1), 1) := by decide +kernel
theorem dX11_spare_2 : decode cX11_spare 2 = .ok (.iconst 1, 1) := by decide +kernel
theorem dX11_spare_3 : decode cX11_spare 3 = .ok (.invokestatic 140, 3) := by decide +kernel
theorem dX11_spare_6 : decode cX11_spare 6 = .ok (.ifCond .eq 15, 3) := by decide +kernel
theorem dX11_spare_9 : decode cX11_spare 9 = .ok (.aload_n 0, 1) := by decide +kernel
theorem dX11_spare_10 : decode cX11_spare 10 = .ok (.aload_n 0, 1) := by decide +kernel
theorem dX11_spare_11 : decode cX11_spare 11 = .ok (.invokevirtual 317, 3) := by decide +kernel
theorem dX11_spare_14 : decode cX11_spare 14 = .ok (.iload_n 1, 1) := by decide +kernel
theorem dX11_spare_15 : decode cX11_spare 15 = .ok (.invokevirtual 308, 3) := by decide +kernel
theorem dX11_spare_18 : decode cX11_spare 18 = .ok (.goto 5, 3) := by decide +kernel
theorem dX11_spare_21 : decode cX11_spare 21 = .ok (.bipush (-2), 2) := by decide +kernel
theorem dX11_spare_23 : decode cX11_spare 23 = .ok (.ireturn, 1) := by decide +kernel
theorem dX11_homeOf_0 : decode cX11_homeOf 0 = .ok (.aload_n 0, 1) := by decide +kernel
theorem dX11_homeOf_1 : decode cX11_homeOf 1 = .ok (.invokevirtual 266, 3) := by decide +kernel
theorem dX11_homeOf_4 : decode cX11_homeOf 4 = .ok (.aload_n 0, 1) := by decide +kernel
theorem dX11_homeOf_5 : decode cX11_homeOf 5 = .ok (.getfield 19, 3) := by decide +kernel
theorem dX11_homeOf_8 : decode cX11_homeOf 8 = .ok (.iload_n 1, 1) := by decide +kernel
theorem dX11_homeOf_9 : decode cX11_homeOf 9 = .ok (.iaload, 1) := by decide +kernel
theorem dX11_homeOf_10 : decode cX11_homeOf 10 = .ok (.istore_n 3, 1) := by decide +kernel
theorem dX11_homeOf_11 : decode cX11_homeOf 11 = .ok (.iconst (-1), 1) := by decide +kernel
theorem dX11_homeOf_12 : decode cX11_homeOf 12 = .ok (.istore 4, 2) := by decide +kernel
theorem dX11_homeOf_14 : decode cX11_homeOf 14 = .ok (.iconst (-1), 1) := by decide +kernel
theorem dX11_homeOf_15 : decode cX11_homeOf 15 = .ok (.istore 5, 2) := by decide +kernel
theorem dX11_homeOf_17 : decode cX11_homeOf 17 = .ok (.iconst 0, 1) := by decide +kernel
theorem dX11_homeOf_18 : decode cX11_homeOf 18 = .ok (.istore 6, 2) := by decide +kernel
theorem dX11_homeOf_20 : decode cX11_homeOf 20 = .ok (.iload 6, 2) := by decide +kernel
theorem dX11_homeOf_22 : decode cX11_homeOf 22 = .ok (.iconst 4, 1) := by decide +kernel
theorem dX11_homeOf_23 : decode cX11_homeOf 23 = .ok (.if_icmp .ge 65, 3) := by decide +kernel
theorem dX11_homeOf_26 : decode cX11_homeOf 26 = .ok (.aload_n 0, 1) := by decide +kernel
theorem dX11_homeOf_27 : decode cX11_homeOf 27 = .ok (.getfield 19, 3) := by decide +kernel
theorem dX11_homeOf_30 : decode cX11_homeOf 30 = .ok (.iload_n 1, 1) := by decide +kernel
theorem dX11_homeOf_31 : decode cX11_homeOf 31 = .ok (.iload 6, 2) := by decide +kernel
theorem dX11_homeOf_33 : decode cX11_homeOf 33 = .ok (.iastore, 1) := by decide +kernel
theorem dX11_homeOf_34 : decode cX11_homeOf 34 = .ok (.aload_n 0, 1) := by decide +kernel
theorem dX11_homeOf_35 : decode cX11_homeOf 35 = .ok (.invokevirtual 269, 3) := by decide +kernel
theorem dX11_homeOf_38 : decode cX11_homeOf 38 = .ok (.aload_n 0, 1) := by decide +kernel
theorem dX11_homeOf_39 : decode cX11_homeOf 39 = .ok (.getfield 64, 3) := by decide +kernel
theorem dX11_homeOf_42 : decode cX11_homeOf 42 = .ok (.iload_n 1, 1) := by decide +kernel
theorem dX11_homeOf_43 : decode cX11_homeOf 43 = .ok (.iaload, 1) := by decide +kernel
theorem dX11_homeOf_44 : decode cX11_homeOf 44 = .ok (.iload 5, 2) := by decide +kernel
theorem dX11_homeOf_46 : decode cX11_homeOf 46 = .ok (.if_icmp .le 8, 3) := by decide +kernel
theorem dX11_homeOf_49 : decode cX11_homeOf 49 = .ok (.iload 6, 2) := by decide +kernel
theorem dX11_homeOf_51 : decode cX11_homeOf 51 = .ok (.goto 5, 3) := by decide +kernel
theorem dX11_homeOf_54 : decode cX11_homeOf 54 = .ok (.iload 4, 2) := by decide +kernel
theorem dX11_homeOf_56 : decode cX11_homeOf 56 = .ok (.istore 4, 2) := by decide +kernel
theorem dX11_homeOf_58 : decode cX11_homeOf 58 = .ok (.aload_n 0, 1) := by decide +kernel
theorem dX11_homeOf_59 : decode cX11_homeOf 59 = .ok (.getfield 64, 3) := by decide +kernel
theorem dX11_homeOf_62 : decode cX11_homeOf 62 = .ok (.iload_n 1, 1) := by decide +kernel
theorem dX11_homeOf_63 : decode cX11_homeOf 63 = .ok (.iaload, 1) := by decide +kernel
theorem dX11_homeOf_64 : decode cX11_homeOf 64 = .ok (.iload 5, 2) := by decide +kernel
theorem dX11_homeOf_66 : decode cX11_homeOf 66 = .ok (.if_icmp .le 12, 3) := by decide +kernel
theorem dX11_homeOf_69 : decode cX11_homeOf 69 = .ok (.aload_n 0, 1) := by decide +kernel
theorem dX11_homeOf_70 : decode cX11_homeOf 70 = .ok (.getfield 64, 3) := by decide +kernel
theorem dX11_homeOf_73 : decode cX11_homeOf 73 = .ok (.iload_n 1, 1) := by decide +kernel
theorem dX11_homeOf_74 : decode cX11_homeOf 74 = .ok (.iaload, 1) := by decide +kernel
theorem dX11_homeOf_75 : decode cX11_homeOf 75 = .ok (.goto 5, 3) := by decide +kernel
theorem dX11_homeOf_78 : decode cX11_homeOf 78 = .ok (.iload 5, 2) := by decide +kernel
theorem dX11_homeOf_80 : decode cX11_homeOf 80 = .ok (.istore 5, 2) := by decide +kernel
theorem dX11_homeOf_82 : decode cX11_homeOf 82 = .ok (.iinc 6 1, 3) := by decide +kernel
theorem dX11_homeOf_85 : decode cX11_homeOf 85 = .ok (.goto (-65), 3) := by decide +kernel
theorem dX11_homeOf_88 : decode cX11_homeOf 88 = .ok (.aload_n 0, 1) := by decide +kernel
theorem dX11_homeOf_89 : decode cX11_homeOf 89 = .ok (.getfield 19, 3) := by decide +kernel
theorem dX11_homeOf_92 : decode cX11_homeOf 92 = .ok (.iload_n 1, 1) := by decide +kernel
theorem dX11_homeOf_93 : decode cX11_homeOf 93 = .ok (.iload_n 3, 1) := by decide +kernel
theorem dX11_homeOf_94 : decode cX11_homeOf 94 = .ok (.iastore, 1) := by decide +kernel
theorem dX11_homeOf_95 : decode cX11_homeOf 95 = .ok (.iload_n 2, 1) := by decide +kernel
theorem dX11_homeOf_96 : decode cX11_homeOf 96 = .ok (.ifCond .ne 8, 3) := by decide +kernel
theorem dX11_homeOf_99 : decode cX11_homeOf 99 = .ok (.iload 4, 2) := by decide +kernel
theorem dX11_homeOf_101 : decode cX11_homeOf 101 = .ok (.goto 5, 3) := by decide +kernel
theorem dX11_homeOf_104 : decode cX11_homeOf 104 = .ok (.iload 5, 2) := by decide +kernel
theorem dX11_homeOf_106 : decode cX11_homeOf 106 = .ok (.ireturn, 1) := by decide +kernel
theorem dX11_home_0 : decode cX11_home 0 = .ok (.aload_n 0, 1) := by decide +kernel
theorem dX11_home_1 : decode cX11_home 1 = .ok (.iload_n 1, 1) := by decide +kernel
theorem dX11_home_2 : decode cX11_home 2 = .ok (.invokevirtual 174, 3) := by decide +kernel
theorem dX11_home_5 : decode cX11_home 5 = .ok (.ifCond .eq 21, 3) := by decide +kernel
theorem dX11_home_8 : decode cX11_home 8 = .ok (.iload_n 2, 1) := by decide +kernel
theorem dX11_home_9 : decode cX11_home 9 = .ok (.iconst 0, 1) := by decide +kernel
theorem dX11_home_10 : decode cX11_home 10 = .ok (.iconst 1, 1) := by decide +kernel
theorem dX11_home_11 : decode cX11_home 11 = .ok (.invokestatic 140, 3) := by decide +kernel
theorem dX11_home_14 : decode cX11_home 14 = .ok (.ifCond .eq 12, 3) := by decide +kernel
theorem dX11_home_17 : decode cX11_home 17 = .ok (.aload_n 0, 1) := by decide +kernel
theorem dX11_home_18 : decode cX11_home 18 = .ok (.iload_n 1, 1) := by decide +kernel
theorem dX11_home_19 : decode cX11_home 19 = .ok (.iload_n 2, 1) := by decide +kernel
theorem dX11_home_20 : decode cX11_home 20 = .ok (.invokevirtual 320, 3) := by decide +kernel
theorem dX11_home_23 : decode cX11_home 23 = .ok (.goto 5, 3) := by decide +kernel
theorem dX11_home_26 : decode cX11_home 26 = .ok (.bipush (-2), 2) := by decide +kernel
theorem dX11_home_28 : decode cX11_home 28 = .ok (.ireturn, 1) := by decide +kernel
theorem dX11_seen_0 : decode cX11_seen 0 = .ok (.iload_n 1, 1) := by decide +kernel
theorem dX11_seen_1 : decode cX11_seen 1 = .ok (.invokestatic 186, 3) := by decide +kernel
theorem dX11_seen_4 : decode cX11_seen 4 = .ok (.ifCond .eq 23, 3) := by decide +kernel
theorem dX11_seen_7 : decode cX11_seen 7 = .ok (.iload_n 2, 1) := by decide +kernel
theorem dX11_seen_8 : decode cX11_seen 8 = .ok (.iconst 0, 1) := by decide +kernel
theorem dX11_seen_9 : decode cX11_seen 9 = .ok (.bipush 7, 2) := by decide +kernel
theorem dX11_seen_11 : decode cX11_seen 11 = .ok (.invokestatic 140, 3) := by decide +kernel
theorem dX11_seen_14 : decode cX11_seen 14 = .ok (.ifCond .eq 13, 3) := by decide +kernel
theorem dX11_seen_17 : decode cX11_seen 17 = .ok (.iload_n 3, 1) := by decide +kernel
theorem dX11_seen_18 : decode cX11_seen 18 = .ok (.iconst 0, 1) := by decide +kernel
theorem dX11_seen_19 : decode cX11_seen 19 = .ok (.bipush 99, 2) := by decide +kernel
theorem dX11_seen_21 : decode cX11_seen 21 = .ok (.invokestatic 140, 3) := by decide +kernel
theorem dX11_seen_24 : decode cX11_seen 24 = .ok (.ifCond .ne 6, 3) := by decide +kernel
theorem dX11_seen_27 : decode cX11_seen 27 = .ok (.bipush (-2), 2) := by decide +kernel
theorem dX11_seen_29 : decode cX11_seen 29 = .ok (.ireturn, 1) := by decide +kernel
theorem dX11_seen_30 : decode cX11_seen 30 = .ok (.aload_n 0, 1) := by decide +kernel
theorem dX11_seen_31 : decode cX11_seen 31 = .ok (.getfield 323, 3) := by decide +kernel
theorem dX11_seen_34 : decode cX11_seen 34 = .ok (.bipush 8, 2) := by decide +kernel
theorem dX11_seen_36 : decode cX11_seen 36 = .ok (.if_icmp .ne 6, 3) := by decide +kernel
theorem dX11_seen_39 : decode cX11_seen 39 = .ok (.bipush (-4), 2) := by decide +kernel
theorem dX11_seen_41 : decode cX11_seen 41 = .ok (.ireturn, 1) := by decide +kernel
theorem dX11_seen_42 : decode cX11_seen 42 = .ok (.aload_n 0, 1) := by decide +kernel
theorem dX11_seen_43 : decode cX11_seen 43 = .ok (.getfield 103, 3) := by decide +kernel
theorem dX11_seen_46 : decode cX11_seen 46 = .ok (.aload_n 0, 1) := by decide +kernel
theorem dX11_seen_47 : decode cX11_seen 47 = .ok (.getfield 323, 3) := by decide +kernel
theorem dX11_seen_50 : decode cX11_seen 50 = .ok (.iload_n 1, 1) := by decide +kernel
theorem dX11_seen_51 : decode cX11_seen 51 = .ok (.iastore, 1) := by decide +kernel
theorem dX11_seen_52 : decode cX11_seen 52 = .ok (.aload_n 0, 1) := by decide +kernel
theorem dX11_seen_53 : decode cX11_seen 53 = .ok (.getfield 106, 3) := by decide +kernel
theorem dX11_seen_56 : decode cX11_seen 56 = .ok (.aload_n 0, 1) := by decide +kernel
theorem dX11_seen_57 : decode cX11_seen 57 = .ok (.getfield 323, 3) := by decide +kernel
theorem dX11_seen_60 : decode cX11_seen 60 = .ok (.iload_n 2, 1) := by decide +kernel
theorem dX11_seen_61 : decode cX11_seen 61 = .ok (.iastore, 1) := by decide +kernel
theorem dX11_seen_62 : decode cX11_seen 62 = .ok (.aload_n 0, 1) := by decide +kernel
theorem dX11_seen_63 : decode cX11_seen 63 = .ok (.getfield 109, 3) := by decide +kernel
theorem dX11_seen_66 : decode cX11_seen 66 = .ok (.aload_n 0, 1) := by decide +kernel
theorem dX11_seen_67 : decode cX11_seen 67 = .ok (.getfield 323, 3) := by decide +kernel
theorem dX11_seen_70 : decode cX11_seen 70 = .ok (.iload_n 3, 1) := by decide +kernel
theorem dX11_seen_71 : decode cX11_seen 71 = .ok (.iastore, 1) := by decide +kernel
theorem dX11_seen_72 : decode cX11_seen 72 = .ok (.aload_n 0, 1) := by decide +kernel
theorem dX11_seen_73 : decode cX11_seen 73 = .ok (.dup, 1) := by decide +kernel
theorem dX11_seen_74 : decode cX11_seen 74 = .ok (.getfield 323, 3) := by decide +kernel
theorem dX11_seen_77 : decode cX11_seen 77 = .ok (.iconst 1, 1) := by decide +kernel
theorem dX11_seen_78 : decode cX11_seen 78 = .ok (.iadd, 1) := by decide +kernel
theorem dX11_seen_79 : decode cX11_seen 79 = .ok (.putfield 323, 3) := by decide +kernel
theorem dX11_seen_82 : decode cX11_seen 82 = .ok (.aload_n 0, 1) := by decide +kernel
theorem dX11_seen_83 : decode cX11_seen 83 = .ok (.getfield 323, 3) := by decide +kernel
theorem dX11_seen_86 : decode cX11_seen 86 = .ok (.ireturn, 1) := by decide +kernel
theorem dX11_forget_0 : decode cX11_forget 0 = .ok (.aload_n 0, 1) := by decide +kernel
theorem dX11_forget_1 : decode cX11_forget 1 = .ok (.getfield 323, 3) := by decide +kernel
theorem dX11_forget_4 : decode cX11_forget 4 = .ok (.istore_n 1, 1) := by decide +kernel
theorem dX11_forget_5 : decode cX11_forget 5 = .ok (.aload_n 0, 1) := by decide +kernel
theorem dX11_forget_6 : decode cX11_forget 6 = .ok (.iconst 0, 1) := by decide +kernel
theorem dX11_forget_7 : decode cX11_forget 7 = .ok (.putfield 323, 3) := by decide +kernel
theorem dX11_forget_10 : decode cX11_forget 10 = .ok (.iload_n 1, 1) := by decide +kernel
theorem dX11_forget_11 : decode cX11_forget 11 = .ok (.ireturn, 1) := by decide +kernel
theorem dX11_isSeen_0 : decode cX11_isSeen 0 = .ok (.aload_n 0, 1) := by decide +kernel
theorem dX11_isSeen_1 : decode cX11_isSeen 1 = .ok (.invokevirtual 269, 3) := by decide +kernel
theorem dX11_isSeen_4 : decode cX11_isSeen 4 = .ok (.iconst 1, 1) := by decide +kernel
theorem dX11_isSeen_5 : decode cX11_isSeen 5 = .ok (.istore_n 1, 1) := by decide +kernel
theorem dX11_isSeen_6 : decode cX11_isSeen 6 = .ok (.iconst 0, 1) := by decide +kernel
theorem dX11_isSeen_7 : decode cX11_isSeen 7 = .ok (.istore_n 2, 1) := by decide +kernel
theorem dX11_isSeen_8 : decode cX11_isSeen 8 = .ok (.iload_n 2, 1) := by decide +kernel
theorem dX11_isSeen_9 : decode cX11_isSeen 9 = .ok (.aload_n 0, 1) := by decide +kernel
theorem dX11_isSeen_10 : decode cX11_isSeen 10 = .ok (.getfield 323, 3) := by decide +kernel
theorem dX11_isSeen_13 : decode cX11_isSeen 13 = .ok (.if_icmp .ge 62, 3) := by decide +kernel
theorem dX11_isSeen_16 : decode cX11_isSeen 16 = .ok (.iload_n 1, 1) := by decide +kernel
theorem dX11_isSeen_17 : decode cX11_isSeen 17 = .ok (.ifCond .eq 58, 3) := by decide +kernel
theorem dX11_isSeen_20 : decode cX11_isSeen 20 = .ok (.aload_n 0, 1) := by decide +kernel
theorem dX11_isSeen_21 : decode cX11_isSeen 21 = .ok (.getfield 106, 3) := by decide +kernel
theorem dX11_isSeen_24 : decode cX11_isSeen 24 = .ok (.iload_n 2, 1) := by decide +kernel
theorem dX11_isSeen_25 : decode cX11_isSeen 25 = .ok (.iaload, 1) := by decide +kernel
theorem dX11_isSeen_26 : decode cX11_isSeen 26 = .ok (.aload_n 0, 1) := by decide +kernel
theorem dX11_isSeen_27 : decode cX11_isSeen 27 = .ok (.getfield 152, 3) := by decide +kernel
theorem dX11_isSeen_30 : decode cX11_isSeen 30 = .ok (.if_icmp .ge 37, 3) := by decide +kernel
theorem dX11_isSeen_33 : decode cX11_isSeen 33 = .ok (.aload_n 0, 1) := by decide +kernel
theorem dX11_isSeen_34 : decode cX11_isSeen 34 = .ok (.getfield 76, 3) := by decide +kernel
theorem dX11_isSeen_37 : decode cX11_isSeen 37 = .ok (.bipush 8, 2) := by decide +kernel
theorem dX11_isSeen_39 : decode cX11_isSeen 39 = .ok (.aload_n 0, 1) := by decide +kernel
theorem dX11_isSeen_40 : decode cX11_isSeen 40 = .ok (.getfield 103, 3) := by decide +kernel
theorem dX11_isSeen_43 : decode cX11_isSeen 43 = .ok (.iload_n 2, 1) := by decide +kernel
theorem dX11_isSeen_44 : decode cX11_isSeen 44 = .ok (.iaload, 1) := by decide +kernel
theorem dX11_isSeen_45 : decode cX11_isSeen 45 = .ok (.imul, 1) := by decide +kernel
theorem dX11_isSeen_46 : decode cX11_isSeen 46 = .ok (.aload_n 0, 1) := by decide +kernel
theorem dX11_isSeen_47 : decode cX11_isSeen 47 = .ok (.getfield 106, 3) := by decide +kernel
theorem dX11_isSeen_50 : decode cX11_isSeen 50 = .ok (.iload_n 2, 1) := by decide +kernel
theorem dX11_isSeen_51 : decode cX11_isSeen 51 = .ok (.iaload, 1) := by decide +kernel
theorem dX11_isSeen_52 : decode cX11_isSeen 52 = .ok (.iadd, 1) := by decide +kernel
theorem dX11_isSeen_53 : decode cX11_isSeen 53 = .ok (.iaload, 1) := by decide +kernel
theorem dX11_isSeen_54 : decode cX11_isSeen 54 = .ok (.aload_n 0, 1) := by decide +kernel
theorem dX11_isSeen_55 : decode cX11_isSeen 55 = .ok (.getfield 109, 3) := by decide +kernel
theorem dX11_isSeen_58 : decode cX11_isSeen 58 = .ok (.iload_n 2, 1) := by decide +kernel
theorem dX11_isSeen_59 : decode cX11_isSeen 59 = .ok (.iaload, 1) := by decide +kernel
theorem dX11_isSeen_60 : decode cX11_isSeen 60 = .ok (.if_icmp .ne 7, 3) := by decide +kernel
theorem dX11_isSeen_63 : decode cX11_isSeen 63 = .ok (.iconst 1, 1) := by decide +kernel
theorem dX11_isSeen_64 : decode cX11_isSeen 64 = .ok (.goto 4, 3) := by decide +kernel
theorem dX11_isSeen_67 : decode cX11_isSeen 67 = .ok (.iconst 0, 1) := by decide +kernel
theorem dX11_isSeen_68 : decode cX11_isSeen 68 = .ok (.istore_n 1, 1) := by decide +kernel
theorem dX11_isSeen_69 : decode cX11_isSeen 69 = .ok (.iinc 2 1, 3) := by decide +kernel
theorem dX11_isSeen_72 : decode cX11_isSeen 72 = .ok (.goto (-64), 3) := by decide +kernel
theorem dX11_isSeen_75 : decode cX11_isSeen 75 = .ok (.iload_n 1, 1) := by decide +kernel
theorem dX11_isSeen_76 : decode cX11_isSeen 76 = .ok (.ireturn, 1) := by decide +kernel
theorem dX11_neverNow_0 : decode cX11_neverNow 0 = .ok (.aload_n 0, 1) := by decide +kernel
theorem dX11_neverNow_1 : decode cX11_neverNow 1 = .ok (.invokevirtual 266, 3) := by decide +kernel
theorem dX11_neverNow_4 : decode cX11_neverNow 4 = .ok (.iconst 0, 1) := by decide +kernel
theorem dX11_neverNow_5 : decode cX11_neverNow 5 = .ok (.istore_n 1, 1) := by decide +kernel
theorem dX11_neverNow_6 : decode cX11_neverNow 6 = .ok (.iconst 0, 1) := by decide +kernel
theorem dX11_neverNow_7 : decode cX11_neverNow 7 = .ok (.istore_n 2, 1) := by decide +kernel
theorem dX11_neverNow_8 : decode cX11_neverNow 8 = .ok (.iload_n 2, 1) := by decide +kernel
theorem dX11_neverNow_9 : decode cX11_neverNow 9 = .ok (.aload_n 0, 1) := by decide +kernel
theorem dX11_neverNow_10 : decode cX11_neverNow 10 = .ok (.getfield 155, 3) := by decide +kernel
theorem dX11_neverNow_13 : decode cX11_neverNow 13 = .ok (.if_icmp .ge 33, 3) := by decide +kernel
theorem dX11_neverNow_16 : decode cX11_neverNow 16 = .ok (.aload_n 0, 1) := by decide +kernel
theorem dX11_neverNow_17 : decode cX11_neverNow 17 = .ok (.iconst 1, 1) := by decide +kernel
theorem dX11_neverNow_18 : decode cX11_neverNow 18 = .ok (.iload_n 2, 1) := by decide +kernel
theorem dX11_neverNow_19 : decode cX11_neverNow 19 = .ok (.ishl, 1) := by decide +kernel
theorem dX11_neverNow_20 : decode cX11_neverNow 20 = .ok (.putfield 211, 3) := by decide +kernel
theorem dX11_neverNow_23 : decode cX11_neverNow 23 = .ok (.iload_n 1, 1) := by decide +kernel
theorem dX11_neverNow_24 : decode cX11_neverNow 24 = .ok (.aload_n 0, 1) := by decide +kernel
theorem dX11_neverNow_25 : decode cX11_neverNow 25 = .ok (.invokevirtual 326, 3) := by decide +kernel
theorem dX11_neverNow_28 : decode cX11_neverNow 28 = .ok (.ifCond .eq 9, 3) := by decide +kernel
theorem dX11_neverNow_31 : decode cX11_neverNow 31 = .ok (.iconst 1, 1) := by decide +kernel
theorem dX11_neverNow_32 : decode cX11_neverNow 32 = .ok (.iload_n 2, 1) := by decide +kernel
theorem dX11_neverNow_33 : decode cX11_neverNow 33 = .ok (.ishl, 1) := by decide +kernel
theorem dX11_neverNow_34 : decode cX11_neverNow 34 = .ok (.goto 4, 3) := by decide +kernel
theorem dX11_neverNow_37 : decode cX11_neverNow 37 = .ok (.iconst 0, 1) := by decide +kernel
theorem dX11_neverNow_38 : decode cX11_neverNow 38 = .ok (.ior, 1) := by decide +kernel
theorem dX11_neverNow_39 : decode cX11_neverNow 39 = .ok (.istore_n 1, 1) := by decide +kernel
theorem dX11_neverNow_40 : decode cX11_neverNow 40 = .ok (.iinc 2 1, 3) := by decide +kernel
theorem dX11_neverNow_43 : decode cX11_neverNow 43 = .ok (.goto (-35), 3) := by decide +kernel
theorem dX11_neverNow_46 : decode cX11_neverNow 46 = .ok (.iload_n 1, 1) := by decide +kernel
theorem dX11_neverNow_47 : decode cX11_neverNow 47 = .ok (.ireturn, 1) := by decide +kernel
theorem dX11_never_0 : decode cX11_never 0 = .ok (.aload_n 0, 1) := by decide +kernel
theorem dX11_never_1 : decode cX11_never 1 = .ok (.invokevirtual 330, 3) := by decide +kernel
theorem dX11_never_4 : decode cX11_never 4 = .ok (.ireturn, 1) := by decide +kernel
theorem dX11_wasOf_0 : decode cX11_wasOf 0 = .ok (.aload_n 0, 1) := by decide +kernel
theorem dX11_wasOf_1 : decode cX11_wasOf 1 = .ok (.invokevirtual 266, 3) := by decide +kernel
theorem dX11_wasOf_4 : decode cX11_wasOf 4 = .ok (.aload_n 0, 1) := by decide +kernel
theorem dX11_wasOf_5 : decode cX11_wasOf 5 = .ok (.getfield 28, 3) := by decide +kernel
theorem dX11_wasOf_8 : decode cX11_wasOf 8 = .ok (.iload_n 1, 1) := by decide +kernel
theorem dX11_wasOf_9 : decode cX11_wasOf 9 = .ok (.iaload, 1) := by decide +kernel
theorem dX11_wasOf_10 : decode cX11_wasOf 10 = .ok (.istore_n 3, 1) := by decide +kernel
theorem dX11_wasOf_11 : decode cX11_wasOf 11 = .ok (.aload_n 0, 1) := by decide +kernel
theorem dX11_wasOf_12 : decode cX11_wasOf 12 = .ok (.getfield 31, 3) := by decide +kernel
theorem dX11_wasOf_15 : decode cX11_wasOf 15 = .ok (.iload_n 1, 1) := by decide +kernel
theorem dX11_wasOf_16 : decode cX11_wasOf 16 = .ok (.iaload, 1) := by decide +kernel
theorem dX11_wasOf_17 : decode cX11_wasOf 17 = .ok (.istore 4, 2) := by decide +kernel
theorem dX11_wasOf_19 : decode cX11_wasOf 19 = .ok (.iconst 0, 1) := by decide +kernel
theorem dX11_wasOf_20 : decode cX11_wasOf 20 = .ok (.istore 5, 2) := by decide +kernel
theorem dX11_wasOf_22 : decode cX11_wasOf 22 = .ok (.iconst 0, 1) := by decide +kernel
theorem dX11_wasOf_23 : decode cX11_wasOf 23 = .ok (.istore 6, 2) := by decide +kernel
theorem dX11_wasOf_25 : decode cX11_wasOf 25 = .ok (.iload 6, 2) := by decide +kernel
theorem dX11_wasOf_27 : decode cX11_wasOf 27 = .ok (.iload_n 2, 1) := by decide +kernel
theorem dX11_wasOf_28 : decode cX11_wasOf 28 = .ok (.ifCond .ne 7, 3) := by decide +kernel
theorem dX11_wasOf_31 : decode cX11_wasOf 31 = .ok (.iconst 4, 1) := by decide +kernel
theorem dX11_wasOf_32 : decode cX11_wasOf 32 = .ok (.goto 7, 3) := by decide +kernel
theorem dX11_wasOf_35 : decode cX11_wasOf 35 = .ok (.aload_n 0, 1) := by decide +kernel
theorem dX11_wasOf_36 : decode cX11_wasOf 36 = .ok (.getfield 152, 3) := by decide +kernel
theorem dX11_wasOf_39 : decode cX11_wasOf 39 = .ok (.if_icmp .ge 63, 3) := by decide +kernel
theorem dX11_wasOf_42 : decode cX11_wasOf 42 = .ok (.aload_n 0, 1) := by decide +kernel
theorem dX11_wasOf_43 : decode cX11_wasOf 43 = .ok (.getfield 28, 3) := by decide +kernel
theorem dX11_wasOf_46 : decode cX11_wasOf 46 = .ok (.iload_n 1, 1) := by decide +kernel
theorem dX11_wasOf_47 : decode cX11_wasOf 47 = .ok (.iload_n 2, 1) := by decide +kernel
theorem dX11_wasOf_48 : decode cX11_wasOf 48 = .ok (.iconst 1, 1) := by decide +kernel
theorem dX11_wasOf_49 : decode cX11_wasOf 49 = .ok (.if_icmp .ne 8, 3) := by decide +kernel
theorem dX11_wasOf_52 : decode cX11_wasOf 52 = .ok (.iload 6, 2) := by decide +kernel
theorem dX11_wasOf_54 : decode cX11_wasOf 54 = .ok (.goto 4, 3) := by decide +kernel
theorem dX11_wasOf_57 : decode cX11_wasOf 57 = .ok (.iload_n 3, 1) := by decide +kernel
theorem dX11_wasOf_58 : decode cX11_wasOf 58 = .ok (.iastore, 1) := by decide +kernel
theorem dX11_wasOf_59 : decode cX11_wasOf 59 = .ok (.aload_n 0, 1) := by decide +kernel
theorem dX11_wasOf_60 : decode cX11_wasOf 60 = .ok (.getfield 31, 3) := by decide +kernel
theorem dX11_wasOf_63 : decode cX11_wasOf 63 = .ok (.iload_n 1, 1) := by decide +kernel
theorem dX11_wasOf_64 : decode cX11_wasOf 64 = .ok (.iload_n 2, 1) := by decide +kernel
theorem dX11_wasOf_65 : decode cX11_wasOf 65 = .ok (.ifCond .ne 8, 3) := by decide +kernel
theorem dX11_wasOf_68 : decode cX11_wasOf 68 = .ok (.iload 6, 2) := by decide +kernel
theorem dX11_wasOf_70 : decode cX11_wasOf 70 = .ok (.goto 5, 3) := by decide +kernel
theorem dX11_wasOf_73 : decode cX11_wasOf 73 = .ok (.iload 4, 2) := by decide +kernel
theorem dX11_wasOf_75 : decode cX11_wasOf 75 = .ok (.iastore, 1) := by decide +kernel
theorem dX11_wasOf_76 : decode cX11_wasOf 76 = .ok (.iload 5, 2) := by decide +kernel
theorem dX11_wasOf_78 : decode cX11_wasOf 78 = .ok (.aload_n 0, 1) := by decide +kernel
theorem dX11_wasOf_79 : decode cX11_wasOf 79 = .ok (.invokevirtual 326, 3) := by decide +kernel
theorem dX11_wasOf_82 : decode cX11_wasOf 82 = .ok (.ifCond .eq 10, 3) := by decide +kernel
theorem dX11_wasOf_85 : decode cX11_wasOf 85 = .ok (.iconst 1, 1) := by decide +kernel
theorem dX11_wasOf_86 : decode cX11_wasOf 86 = .ok (.iload 6, 2) := by decide +kernel
theorem dX11_wasOf_88 : decode cX11_wasOf 88 = .ok (.ishl, 1) := by decide +kernel
theorem dX11_wasOf_89 : decode cX11_wasOf 89 = .ok (.goto 4, 3) := by decide +kernel
theorem dX11_wasOf_92 : decode cX11_wasOf 92 = .ok (.iconst 0, 1) := by decide +kernel
theorem dX11_wasOf_93 : decode cX11_wasOf 93 = .ok (.ior, 1) := by decide +kernel
theorem dX11_wasOf_94 : decode cX11_wasOf 94 = .ok (.istore 5, 2) := by decide +kernel
theorem dX11_wasOf_96 : decode cX11_wasOf 96 = .ok (.iinc 6 1, 3) := by decide +kernel
theorem dX11_wasOf_99 : decode cX11_wasOf 99 = .ok (.goto (-74), 3) := by decide +kernel
theorem dX11_wasOf_102 : decode cX11_wasOf 102 = .ok (.aload_n 0, 1) := by decide +kernel
theorem dX11_wasOf_103 : decode cX11_wasOf 103 = .ok (.getfield 28, 3) := by decide +kernel
theorem dX11_wasOf_106 : decode cX11_wasOf 106 = .ok (.iload_n 1, 1) := by decide +kernel
theorem dX11_wasOf_107 : decode cX11_wasOf 107 = .ok (.iload_n 3, 1) := by decide +kernel
theorem dX11_wasOf_108 : decode cX11_wasOf 108 = .ok (.iastore, 1) := by decide +kernel
theorem dX11_wasOf_109 : decode cX11_wasOf 109 = .ok (.aload_n 0, 1) := by decide +kernel
theorem dX11_wasOf_110 : decode cX11_wasOf 110 = .ok (.getfield 31, 3) := by decide +kernel
theorem dX11_wasOf_113 : decode cX11_wasOf 113 = .ok (.iload_n 1, 1) := by decide +kernel
theorem dX11_wasOf_114 : decode cX11_wasOf 114 = .ok (.iload 4, 2) := by decide +kernel
theorem dX11_wasOf_116 : decode cX11_wasOf 116 = .ok (.iastore, 1) := by decide +kernel
theorem dX11_wasOf_117 : decode cX11_wasOf 117 = .ok (.iload 5, 2) := by decide +kernel
theorem dX11_wasOf_119 : decode cX11_wasOf 119 = .ok (.ireturn, 1) := by decide +kernel
theorem dX11_was_0 : decode cX11_was 0 = .ok (.aload_n 0, 1) := by decide +kernel
theorem dX11_was_1 : decode cX11_was 1 = .ok (.iload_n 1, 1) := by decide +kernel
theorem dX11_was_2 : decode cX11_was 2 = .ok (.invokevirtual 180, 3) := by decide +kernel
theorem dX11_was_5 : decode cX11_was 5 = .ok (.ifCond .eq 21, 3) := by decide +kernel
theorem dX11_was_8 : decode cX11_was 8 = .ok (.iload_n 2, 1) := by decide +kernel
theorem dX11_was_9 : decode cX11_was 9 = .ok (.iconst 0, 1) := by decide +kernel
theorem dX11_was_10 : decode cX11_was 10 = .ok (.iconst 1, 1) := by decide +kernel
theorem dX11_was_11 : decode cX11_was 11 = .ok (.invokestatic 140, 3) := by decide +kernel
theorem dX11_was_14 : decode cX11_was 14 = .ok (.ifCond .eq 12, 3) := by decide +kernel
theorem dX11_was_17 : decode cX11_was 17 = .ok (.aload_n 0, 1) := by decide +kernel
theorem dX11_was_18 : decode cX11_was 18 = .ok (.iload_n 1, 1) := by decide +kernel
theorem dX11_was_19 : decode cX11_was 19 = .ok (.iload_n 2, 1) := by decide +kernel
theorem dX11_was_20 : decode cX11_was 20 = .ok (.invokevirtual 333, 3) := by decide +kernel
theorem dX11_was_23 : decode cX11_was 23 = .ok (.goto 5, 3) := by decide +kernel
theorem dX11_was_26 : decode cX11_was 26 = .ok (.bipush (-2), 2) := by decide +kernel
theorem dX11_was_28 : decode cX11_was 28 = .ok (.ireturn, 1) := by decide +kernel
theorem dX11_askOf_0 : decode cX11_askOf 0 = .ok (.aload_n 0, 1) := by decide +kernel
theorem dX11_askOf_1 : decode cX11_askOf 1 = .ok (.invokevirtual 330, 3) := by decide +kernel
theorem dX11_askOf_4 : decode cX11_askOf 4 = .ok (.istore_n 2, 1) := by decide +kernel
theorem dX11_askOf_5 : decode cX11_askOf 5 = .ok (.iconst 0, 1) := by decide +kernel
theorem dX11_askOf_6 : decode cX11_askOf 6 = .ok (.istore_n 3, 1) := by decide +kernel
theorem dX11_askOf_7 : decode cX11_askOf 7 = .ok (.iload_n 3, 1) := by decide +kernel
theorem dX11_askOf_8 : decode cX11_askOf 8 = .ok (.aload_n 0, 1) := by decide +kernel
theorem dX11_askOf_9 : decode cX11_askOf 9 = .ok (.getfield 155, 3) := by decide +kernel
theorem dX11_askOf_12 : decode cX11_askOf 12 = .ok (.if_icmp .ge 60, 3) := by decide +kernel
theorem dX11_askOf_15 : decode cX11_askOf 15 = .ok (.aload_n 0, 1) := by decide +kernel
theorem dX11_askOf_16 : decode cX11_askOf 16 = .ok (.iconst 1, 1) := by decide +kernel
theorem dX11_askOf_17 : decode cX11_askOf 17 = .ok (.iload_n 3, 1) := by decide +kernel
theorem dX11_askOf_18 : decode cX11_askOf 18 = .ok (.ishl, 1) := by decide +kernel
theorem dX11_askOf_19 : decode cX11_askOf 19 = .ok (.putfield 211, 3) := by decide +kernel
theorem dX11_askOf_22 : decode cX11_askOf 22 = .ok (.aload_n 0, 1) := by decide +kernel
theorem dX11_askOf_23 : decode cX11_askOf 23 = .ok (.invokevirtual 269, 3) := by decide +kernel
theorem dX11_askOf_26 : decode cX11_askOf 26 = .ok (.iconst 0, 1) := by decide +kernel
theorem dX11_askOf_27 : decode cX11_askOf 27 = .ok (.istore 4, 2) := by decide +kernel
theorem dX11_askOf_29 : decode cX11_askOf 29 = .ok (.iload 4, 2) := by decide +kernel
theorem dX11_askOf_31 : decode cX11_askOf 31 = .ok (.bipush 24, 2) := by decide +kernel
theorem dX11_askOf_33 : decode cX11_askOf 33 = .ok (.if_icmp .ge 33, 3) := by decide +kernel
theorem dX11_askOf_36 : decode cX11_askOf 36 = .ok (.aload_n 0, 1) := by decide +kernel
theorem dX11_askOf_37 : decode cX11_askOf 37 = .ok (.getfield 112, 3) := by decide +kernel
theorem dX11_askOf_40 : decode cX11_askOf 40 = .ok (.bipush 24, 2) := by decide +kernel
theorem dX11_askOf_42 : decode cX11_askOf 42 = .ok (.iload_n 3, 1) := by decide +kernel
theorem dX11_askOf_43 : decode cX11_askOf 43 = .ok (.imul, 1) := by decide +kernel
theorem dX11_askOf_44 : decode cX11_askOf 44 = .ok (.iload 4, 2) := by decide +kernel
theorem dX11_askOf_46 : decode cX11_askOf 46 = .ok (.iadd, 1) := by decide +kernel
theorem dX11_askOf_47 : decode cX11_askOf 47 = .ok (.aload_n 0, 1) := by decide +kernel
theorem dX11_askOf_48 : decode cX11_askOf 48 = .ok (.getfield 76, 3) := by decide +kernel
theorem dX11_askOf_51 : decode cX11_askOf 51 = .ok (.bipush 8, 2) := by decide +kernel
theorem dX11_askOf_53 : decode cX11_askOf 53 = .ok (.iload 4, 2) := by decide +kernel
theorem dX11_askOf_55 : decode cX11_askOf 55 = .ok (.imul, 1) := by decide +kernel
theorem dX11_askOf_56 : decode cX11_askOf 56 = .ok (.iload_n 1, 1) := by decide +kernel
theorem dX11_askOf_57 : decode cX11_askOf 57 = .ok (.iadd, 1) := by decide +kernel
theorem dX11_askOf_58 : decode cX11_askOf 58 = .ok (.iaload, 1) := by decide +kernel
theorem dX11_askOf_59 : decode cX11_askOf 59 = .ok (.iastore, 1) := by decide +kernel
theorem dX11_askOf_60 : decode cX11_askOf 60 = .ok (.iinc 4 1, 3) := by decide +kernel
theorem dX11_askOf_63 : decode cX11_askOf 63 = .ok (.goto (-34), 3) := by decide +kernel
theorem dX11_askOf_66 : decode cX11_askOf 66 = .ok (.iinc 3 1, 3) := by decide +kernel
theorem dX11_askOf_69 : decode cX11_askOf 69 = .ok (.goto (-62), 3) := by decide +kernel
theorem dX11_askOf_72 : decode cX11_askOf 72 = .ok (.iconst (-1), 1) := by decide +kernel
theorem dX11_askOf_73 : decode cX11_askOf 73 = .ok (.istore_n 3, 1) := by decide +kernel
theorem dX11_askOf_74 : decode cX11_askOf 74 = .ok (.iconst 0, 1) := by decide +kernel
theorem dX11_askOf_75 : decode cX11_askOf 75 = .ok (.istore 4, 2) := by decide +kernel
theorem dX11_askOf_77 : decode cX11_askOf 77 = .ok (.iconst 0, 1) := by decide +kernel
theorem dX11_askOf_78 : decode cX11_askOf 78 = .ok (.istore 5, 2) := by decide +kernel
theorem dX11_askOf_80 : decode cX11_askOf 80 = .ok (.iload 5, 2) := by decide +kernel
theorem dX11_askOf_82 : decode cX11_askOf 82 = .ok (.bipush 24, 2) := by decide +kernel
theorem dX11_askOf_84 : decode cX11_askOf 84 = .ok (.if_icmp .ge 169, 3) := by decide +kernel
theorem dX11_askOf_87 : decode cX11_askOf 87 = .ok (.iconst 0, 1) := by decide +kernel
theorem dX11_askOf_88 : decode cX11_askOf 88 = .ok (.istore 6, 2) := by decide +kernel
theorem dX11_askOf_90 : decode cX11_askOf 90 = .ok (.iconst 0, 1) := by decide +kernel
theorem dX11_askOf_91 : decode cX11_askOf 91 = .ok (.istore 7, 2) := by decide +kernel
theorem dX11_askOf_93 : decode cX11_askOf 93 = .ok (.iload 7, 2) := by decide +kernel
theorem dX11_askOf_95 : decode cX11_askOf 95 = .ok (.aload_n 0, 1) := by decide +kernel
theorem dX11_askOf_96 : decode cX11_askOf 96 = .ok (.getfield 155, 3) := by decide +kernel
theorem dX11_askOf_99 : decode cX11_askOf 99 = .ok (.if_icmp .ge 103, 3) := by decide +kernel
theorem dX11_askOf_102 : decode cX11_askOf 102 = .ok (.iconst 0, 1) := by decide +kernel
theorem dX11_askOf_103 : decode cX11_askOf 103 = .ok (.istore 8, 2) := by decide +kernel
theorem dX11_askOf_105 : decode cX11_askOf 105 = .ok (.iconst 0, 1) := by decide +kernel
theorem dX11_askOf_106 : decode cX11_askOf 106 = .ok (.istore 9, 2) := by decide +kernel
theorem dX11_askOf_108 : decode cX11_askOf 108 = .ok (.iload 9, 2) := by decide +kernel
theorem dX11_askOf_110 : decode cX11_askOf 110 = .ok (.aload_n 0, 1) := by decide +kernel
theorem dX11_askOf_111 : decode cX11_askOf 111 = .ok (.getfield 155, 3) := by decide +kernel
theorem dX11_askOf_114 : decode cX11_askOf 114 = .ok (.if_icmp .ge 66, 3) := by decide +kernel
theorem dX11_askOf_117 : decode cX11_askOf 117 = .ok (.iload 8, 2) := by decide +kernel
theorem dX11_askOf_119 : decode cX11_askOf 119 = .ok (.iload_n 2, 1) := by decide +kernel
theorem dX11_askOf_120 : decode cX11_askOf 120 = .ok (.iload 7, 2) := by decide +kernel
theorem dX11_askOf_122 : decode cX11_askOf 122 = .ok (.invokestatic 223, 3) := by decide +kernel
theorem dX11_askOf_125 : decode cX11_askOf 125 = .ok (.ifCond .eq 45, 3) := by decide +kernel
theorem dX11_askOf_128 : decode cX11_askOf 128 = .ok (.iload_n 2, 1) := by decide +kernel
theorem dX11_askOf_129 : decode cX11_askOf 129 = .ok (.iload 9, 2) := by decide +kernel
theorem dX11_askOf_131 : decode cX11_askOf 131 = .ok (.invokestatic 223, 3) := by decide +kernel
theorem dX11_askOf_134 : decode cX11_askOf 134 = .ok (.ifCond .eq 36, 3) := by decide +kernel
theorem dX11_askOf_137 : decode cX11_askOf 137 = .ok (.aload_n 0, 1) := by decide +kernel
theorem dX11_askOf_138 : decode cX11_askOf 138 = .ok (.getfield 112, 3) := by decide +kernel
theorem dX11_askOf_141 : decode cX11_askOf 141 = .ok (.bipush 24, 2) := by decide +kernel
theorem dX11_askOf_143 : decode cX11_askOf 143 = .ok (.iload 7, 2) := by decide +kernel
theorem dX11_askOf_145 : decode cX11_askOf 145 = .ok (.imul, 1) := by decide +kernel
theorem dX11_askOf_146 : decode cX11_askOf 146 = .ok (.iload 5, 2) := by decide +kernel
theorem dX11_askOf_148 : decode cX11_askOf 148 = .ok (.iadd, 1) := by decide +kernel
theorem dX11_askOf_149 : decode cX11_askOf 149 = .ok (.iaload, 1) := by decide +kernel
theorem dX11_askOf_150 : decode cX11_askOf 150 = .ok (.aload_n 0, 1) := by decide +kernel
theorem dX11_askOf_151 : decode cX11_askOf 151 = .ok (.getfield 112, 3) := by decide +kernel
theorem dX11_askOf_154 : decode cX11_askOf 154 = .ok (.bipush 24, 2) := by decide +kernel
theorem dX11_askOf_156 : decode cX11_askOf 156 = .ok (.iload 9, 2) := by decide +kernel
theorem dX11_askOf_158 : decode cX11_askOf 158 = .ok (.imul, 1) := by decide +kernel
theorem dX11_askOf_159 : decode cX11_askOf 159 = .ok (.iload 5, 2) := by decide +kernel
theorem dX11_askOf_161 : decode cX11_askOf 161 = .ok (.iadd, 1) := by decide +kernel
theorem dX11_askOf_162 : decode cX11_askOf 162 = .ok (.iaload, 1) := by decide +kernel
theorem dX11_askOf_163 : decode cX11_askOf 163 = .ok (.if_icmp .ne 7, 3) := by decide +kernel
theorem dX11_askOf_166 : decode cX11_askOf 166 = .ok (.iconst 1, 1) := by decide +kernel
theorem dX11_askOf_167 : decode cX11_askOf 167 = .ok (.goto 4, 3) := by decide +kernel
theorem dX11_askOf_170 : decode cX11_askOf 170 = .ok (.iconst 0, 1) := by decide +kernel
theorem dX11_askOf_171 : decode cX11_askOf 171 = .ok (.iadd, 1) := by decide +kernel
theorem dX11_askOf_172 : decode cX11_askOf 172 = .ok (.istore 8, 2) := by decide +kernel
theorem dX11_askOf_174 : decode cX11_askOf 174 = .ok (.iinc 9 1, 3) := by decide +kernel
theorem dX11_askOf_177 : decode cX11_askOf 177 = .ok (.goto (-69), 3) := by decide +kernel
theorem dX11_askOf_180 : decode cX11_askOf 180 = .ok (.iload 8, 2) := by decide +kernel
theorem dX11_askOf_182 : decode cX11_askOf 182 = .ok (.iload 6, 2) := by decide +kernel
theorem dX11_askOf_184 : decode cX11_askOf 184 = .ok (.if_icmp .le 8, 3) := by decide +kernel
theorem dX11_askOf_187 : decode cX11_askOf 187 = .ok (.iload 8, 2) := by decide +kernel
theorem dX11_askOf_189 : decode cX11_askOf 189 = .ok (.goto 5, 3) := by decide +kernel
theorem dX11_askOf_192 : decode cX11_askOf 192 = .ok (.iload 6, 2) := by decide +kernel
theorem dX11_askOf_194 : decode cX11_askOf 194 = .ok (.istore 6, 2) := by decide +kernel
theorem dX11_askOf_196 : decode cX11_askOf 196 = .ok (.iinc 7 1, 3) := by decide +kernel
theorem dX11_askOf_199 : decode cX11_askOf 199 = .ok (.goto (-106), 3) := by decide +kernel
theorem dX11_askOf_202 : decode cX11_askOf 202 = .ok (.iload_n 3, 1) := by decide +kernel
theorem dX11_askOf_203 : decode cX11_askOf 203 = .ok (.iconst (-1), 1) := by decide +kernel
theorem dX11_askOf_204 : decode cX11_askOf 204 = .ok (.if_icmp .eq 10, 3) := by decide +kernel
theorem dX11_askOf_207 : decode cX11_askOf 207 = .ok (.iload 6, 2) := by decide +kernel
theorem dX11_askOf_209 : decode cX11_askOf 209 = .ok (.iload 4, 2) := by decide +kernel
theorem dX11_askOf_211 : decode cX11_askOf 211 = .ok (.if_icmp .ge 7, 3) := by decide +kernel
theorem dX11_askOf_214 : decode cX11_askOf 214 = .ok (.iconst 1, 1) := by decide +kernel
theorem dX11_askOf_215 : decode cX11_askOf 215 = .ok (.goto 4, 3) := by decide +kernel
theorem dX11_askOf_218 : decode cX11_askOf 218 = .ok (.iconst 0, 1) := by decide +kernel
theorem dX11_askOf_219 : decode cX11_askOf 219 = .ok (.istore 7, 2) := by decide +kernel
theorem dX11_askOf_221 : decode cX11_askOf 221 = .ok (.iload 7, 2) := by decide +kernel
theorem dX11_askOf_223 : decode cX11_askOf 223 = .ok (.ifCond .eq 8, 3) := by decide +kernel
theorem dX11_askOf_226 : decode cX11_askOf 226 = .ok (.iload 5, 2) := by decide +kernel
theorem dX11_askOf_228 : decode cX11_askOf 228 = .ok (.goto 4, 3) := by decide +kernel
theorem dX11_askOf_231 : decode cX11_askOf 231 = .ok (.iload_n 3, 1) := by decide +kernel
theorem dX11_askOf_232 : decode cX11_askOf 232 = .ok (.istore_n 3, 1) := by decide +kernel
theorem dX11_askOf_233 : decode cX11_askOf 233 = .ok (.iload 7, 2) := by decide +kernel
theorem dX11_askOf_235 : decode cX11_askOf 235 = .ok (.ifCond .eq 8, 3) := by decide +kernel
theorem dX11_askOf_238 : decode cX11_askOf 238 = .ok (.iload 6, 2) := by decide +kernel
theorem dX11_askOf_240 : decode cX11_askOf 240 = .ok (.goto 5, 3) := by decide +kernel
theorem dX11_askOf_243 : decode cX11_askOf 243 = .ok (.iload 4, 2) := by decide +kernel
theorem dX11_askOf_245 : decode cX11_askOf 245 = .ok (.istore 4, 2) := by decide +kernel
theorem dX11_askOf_247 : decode cX11_askOf 247 = .ok (.iinc 5 1, 3) := by decide +kernel
theorem dX11_askOf_250 : decode cX11_askOf 250 = .ok (.goto (-170), 3) := by decide +kernel
theorem dX11_askOf_253 : decode cX11_askOf 253 = .ok (.iload_n 3, 1) := by decide +kernel
theorem dX11_askOf_254 : decode cX11_askOf 254 = .ok (.ireturn, 1) := by decide +kernel
theorem dX11_ask_0 : decode cX11_ask 0 = .ok (.aload_n 0, 1) := by decide +kernel
theorem dX11_ask_1 : decode cX11_ask 1 = .ok (.iload_n 1, 1) := by decide +kernel
theorem dX11_ask_2 : decode cX11_ask 2 = .ok (.invokevirtual 174, 3) := by decide +kernel
theorem dX11_ask_5 : decode cX11_ask 5 = .ok (.ifCond .eq 11, 3) := by decide +kernel
theorem dX11_ask_8 : decode cX11_ask 8 = .ok (.aload_n 0, 1) := by decide +kernel
theorem dX11_ask_9 : decode cX11_ask 9 = .ok (.iload_n 1, 1) := by decide +kernel
theorem dX11_ask_10 : decode cX11_ask 10 = .ok (.invokevirtual 336, 3) := by decide +kernel
theorem dX11_ask_13 : decode cX11_ask 13 = .ok (.goto 5, 3) := by decide +kernel
theorem dX11_ask_16 : decode cX11_ask 16 = .ok (.bipush (-2), 2) := by decide +kernel
theorem dX11_ask_18 : decode cX11_ask 18 = .ok (.ireturn, 1) := by decide +kernel
theorem dX11_virtueOf_0 : decode cX11_virtueOf 0 = .ok (.aload_n 0, 1) := by decide +kernel
theorem dX11_virtueOf_1 : decode cX11_virtueOf 1 = .ok (.invokevirtual 266, 3) := by decide +kernel
theorem dX11_virtueOf_4 : decode cX11_virtueOf 4 = .ok (.lconst 0, 1) := by decide +kernel
theorem dX11_virtueOf_5 : decode cX11_virtueOf 5 = .ok (.lstore 5, 2) := by decide +kernel
theorem dX11_virtueOf_7 : decode cX11_virtueOf 7 = .ok (.iconst 0, 1) := by decide +kernel
theorem dX11_virtueOf_8 : decode cX11_virtueOf 8 = .ok (.istore 7, 2) := by decide +kernel
theorem dX11_virtueOf_10 : decode cX11_virtueOf 10 = .ok (.iload 7, 2) := by decide +kernel
theorem dX11_virtueOf_12 : decode cX11_virtueOf 12 = .ok (.iconst 1, 1) := by decide +kernel
theorem dX11_virtueOf_13 : decode cX11_virtueOf 13 = .ok (.iload_n 2, 1) := by decide +kernel
theorem dX11_virtueOf_14 : decode cX11_virtueOf 14 = .ok (.iconst 1, 1) := by decide +kernel
theorem dX11_virtueOf_15 : decode cX11_virtueOf 15 = .ok (.iadd, 1) := by decide +kernel
theorem dX11_virtueOf_16 : decode cX11_virtueOf 16 = .ok (.ishl, 1) := by decide +kernel
theorem dX11_virtueOf_17 : decode cX11_virtueOf 17 = .ok (.if_icmp .ge 88, 3) := by decide +kernel
theorem dX11_virtueOf_20 : decode cX11_virtueOf 20 = .ok (.lconst 1, 1) := by decide +kernel
theorem dX11_virtueOf_21 : decode cX11_virtueOf 21 = .ok (.lstore 8, 2) := by decide +kernel
theorem dX11_virtueOf_23 : decode cX11_virtueOf 23 = .ok (.iconst 0, 1) := by decide +kernel
theorem dX11_virtueOf_24 : decode cX11_virtueOf 24 = .ok (.istore 10, 2) := by decide +kernel
theorem dX11_virtueOf_26 : decode cX11_virtueOf 26 = .ok (.iload 10, 2) := by decide +kernel
theorem dX11_virtueOf_28 : decode cX11_virtueOf 28 = .ok (.iload_n 2, 1) := by decide +kernel
theorem dX11_virtueOf_29 : decode cX11_virtueOf 29 = .ok (.if_icmp .gt 34, 3) := by decide +kernel
theorem dX11_virtueOf_32 : decode cX11_virtueOf 32 = .ok (.lload 8, 2) := by decide +kernel
theorem dX11_virtueOf_34 : decode cX11_virtueOf 34 = .ok (.iload 7, 2) := by decide +kernel
theorem dX11_virtueOf_36 : decode cX11_virtueOf 36 = .ok (.iload 10, 2) := by decide +kernel
theorem dX11_virtueOf_38 : decode cX11_virtueOf 38 = .ok (.invokestatic 223, 3) := by decide +kernel
theorem dX11_virtueOf_41 : decode cX11_virtueOf 41 = .ok (.ifCond .eq 8, 3) := by decide +kernel
theorem dX11_virtueOf_44 : decode cX11_virtueOf 44 = .ok (.iload_n 1, 1) := by decide +kernel
theorem dX11_virtueOf_45 : decode cX11_virtueOf 45 = .ok (.i2l, 1) := by decide +kernel
theorem dX11_virtueOf_46 : decode cX11_virtueOf 46 = .ok (.goto 8, 3) := by decide +kernel
theorem dX11_virtueOf_49 : decode cX11_virtueOf 49 = .ok (.bipush 16, 2) := by decide +kernel
theorem dX11_virtueOf_51 : decode cX11_virtueOf 51 = .ok (.iload_n 1, 1) := by decide +kernel
theorem dX11_virtueOf_52 : decode cX11_virtueOf 52 = .ok (.isub, 1) := by decide +kernel
theorem dX11_virtueOf_53 : decode cX11_virtueOf 53 = .ok (.i2l, 1) := by decide +kernel
theorem dX11_virtueOf_54 : decode cX11_virtueOf 54 = .ok (.lmul, 1) := by decide +kernel
theorem dX11_virtueOf_55 : decode cX11_virtueOf 55 = .ok (.lstore 8, 2) := by decide +kernel
theorem dX11_virtueOf_57 : decode cX11_virtueOf 57 = .ok (.iinc 10 1, 3) := by decide +kernel
theorem dX11_virtueOf_60 : decode cX11_virtueOf 60 = .ok (.goto (-34), 3) := by decide +kernel
theorem dX11_virtueOf_63 : decode cX11_virtueOf 63 = .ok (.lload 8, 2) := by decide +kernel
theorem dX11_virtueOf_65 : decode cX11_virtueOf 65 = .ok (.lconst 0, 1) := by decide +kernel
theorem dX11_virtueOf_66 : decode cX11_virtueOf 66 = .ok (.lcmp, 1) := by decide +kernel
theorem dX11_virtueOf_67 : decode cX11_virtueOf 67 = .ok (.ifCond .le 32, 3) := by decide +kernel
theorem dX11_virtueOf_70 : decode cX11_virtueOf 70 = .ok (.aload_n 0, 1) := by decide +kernel
theorem dX11_virtueOf_71 : decode cX11_virtueOf 71 = .ok (.iload 7, 2) := by decide +kernel
theorem dX11_virtueOf_73 : decode cX11_virtueOf 73 = .ok (.putfield 217, 3) := by decide +kernel
theorem dX11_virtueOf_76 : decode cX11_virtueOf 76 = .ok (.aload_n 0, 1) := by decide +kernel
theorem dX11_virtueOf_77 : decode cX11_virtueOf 77 = .ok (.invokevirtual 269, 3) := by decide +kernel
theorem dX11_virtueOf_80 : decode cX11_virtueOf 80 = .ok (.lload 5, 2) := by decide +kernel
theorem dX11_virtueOf_82 : decode cX11_virtueOf 82 = .ok (.aload_n 0, 1) := by decide +kernel
theorem dX11_virtueOf_83 : decode cX11_virtueOf 83 = .ok (.iload_n 3, 1) := by decide +kernel
theorem dX11_virtueOf_84 : decode cX11_virtueOf 84 = .ok (.invokevirtual 227, 3) := by decide +kernel
theorem dX11_virtueOf_87 : decode cX11_virtueOf 87 = .ok (.ifCond .eq 8, 3) := by decide +kernel
theorem dX11_virtueOf_90 : decode cX11_virtueOf 90 = .ok (.lload 8, 2) := by decide +kernel
theorem dX11_virtueOf_92 : decode cX11_virtueOf 92 = .ok (.goto 4, 3) := by decide +kernel
theorem dX11_virtueOf_95 : decode cX11_virtueOf 95 = .ok (.lconst 0, 1) := by decide +kernel
theorem dX11_virtueOf_96 : decode cX11_virtueOf 96 = .ok (.ladd, 1) := by decide +kernel
theorem dX11_virtueOf_97 : decode cX11_virtueOf 97 = .ok (.lstore 5, 2) := by decide +kernel
theorem dX11_virtueOf_99 : decode cX11_virtueOf 99 = .ok (.iinc 7 1, 3) := by decide +kernel
theorem dX11_virtueOf_102 : decode cX11_virtueOf 102 = .ok (.goto (-92), 3) := by decide +kernel
theorem dX11_virtueOf_105 : decode cX11_virtueOf 105 = .ok (.lload 5, 2) := by decide +kernel
theorem dX11_virtueOf_107 : decode cX11_virtueOf 107 = .ok (.lconst 1, 1) := by decide +kernel
theorem dX11_virtueOf_108 : decode cX11_virtueOf 108 = .ok (.iconst 4, 1) := by decide +kernel
theorem dX11_virtueOf_109 : decode cX11_virtueOf 109 = .ok (.iload_n 2, 1) := by decide +kernel
theorem dX11_virtueOf_110 : decode cX11_virtueOf 110 = .ok (.iconst 1, 1) := by decide +kernel
theorem dX11_virtueOf_111 : decode cX11_virtueOf 111 = .ok (.iadd, 1) := by decide +kernel
theorem dX11_virtueOf_112 : decode cX11_virtueOf 112 = .ok (.imul, 1) := by decide +kernel
theorem dX11_virtueOf_113 : decode cX11_virtueOf 113 = .ok (.lshl, 1) := by decide +kernel
theorem dX11_virtueOf_114 : decode cX11_virtueOf 114 = .ok (.iload 4, 2) := by decide +kernel
theorem dX11_virtueOf_116 : decode cX11_virtueOf 116 = .ok (.invokestatic 339, 3) := by decide +kernel
theorem dX11_virtueOf_119 : decode cX11_virtueOf 119 = .ok (.lreturn, 1) := by decide +kernel
theorem dX11_virtue_0 : decode cX11_virtue 0 = .ok (.iload_n 1, 1) := by decide +kernel
theorem dX11_virtue_1 : decode cX11_virtue 1 = .ok (.iconst 0, 1) := by decide +kernel
theorem dX11_virtue_2 : decode cX11_virtue 2 = .ok (.bipush 16, 2) := by decide +kernel
theorem dX11_virtue_4 : decode cX11_virtue 4 = .ok (.invokestatic 140, 3) := by decide +kernel
theorem dX11_virtue_7 : decode cX11_virtue 7 = .ok (.ifCond .eq 43, 3) := by decide +kernel
theorem dX11_virtue_10 : decode cX11_virtue 10 = .ok (.iload_n 2, 1) := by decide +kernel
theorem dX11_virtue_11 : decode cX11_virtue 11 = .ok (.iconst 0, 1) := by decide +kernel
theorem dX11_virtue_12 : decode cX11_virtue 12 = .ok (.bipush 9, 2) := by decide +kernel
theorem dX11_virtue_14 : decode cX11_virtue 14 = .ok (.invokestatic 140, 3) := by decide +kernel
theorem dX11_virtue_17 : decode cX11_virtue 17 = .ok (.ifCond .eq 33, 3) := by decide +kernel
theorem dX11_virtue_20 : decode cX11_virtue 20 = .ok (.aload_n 0, 1) := by decide +kernel
theorem dX11_virtue_21 : decode cX11_virtue 21 = .ok (.iload_n 3, 1) := by decide +kernel
theorem dX11_virtue_22 : decode cX11_virtue 22 = .ok (.invokevirtual 174, 3) := by decide +kernel
theorem dX11_virtue_25 : decode cX11_virtue 25 = .ok (.ifCond .eq 25, 3) := by decide +kernel
theorem dX11_virtue_28 : decode cX11_virtue 28 = .ok (.iload 4, 2) := by decide +kernel
theorem dX11_virtue_30 : decode cX11_virtue 30 = .ok (.iconst 0, 1) := by decide +kernel
theorem dX11_virtue_31 : decode cX11_virtue 31 = .ok (.iconst 1, 1) := by decide +kernel
theorem dX11_virtue_32 : decode cX11_virtue 32 = .ok (.invokestatic 140, 3) := by decide +kernel
theorem dX11_virtue_35 : decode cX11_virtue 35 = .ok (.ifCond .eq 15, 3) := by decide +kernel
theorem dX11_virtue_38 : decode cX11_virtue 38 = .ok (.aload_n 0, 1) := by decide +kernel
theorem dX11_virtue_39 : decode cX11_virtue 39 = .ok (.iload_n 1, 1) := by decide +kernel
theorem dX11_virtue_40 : decode cX11_virtue 40 = .ok (.iload_n 2, 1) := by decide +kernel
theorem dX11_virtue_41 : decode cX11_virtue 41 = .ok (.iload_n 3, 1) := by decide +kernel
theorem dX11_virtue_42 : decode cX11_virtue 42 = .ok (.iload 4, 2) := by decide +kernel
theorem dX11_virtue_44 : decode cX11_virtue 44 = .ok (.invokevirtual 343, 3) := by decide +kernel
theorem dX11_virtue_47 : decode cX11_virtue 47 = .ok (.goto 8, 3) := by decide +kernel
theorem dX11_virtue_50 : decode cX11_virtue 50 = .ok (.bipush (-2), 2) := by decide +kernel
theorem dX11_virtue_52 : decode cX11_virtue 52 = .ok (.invokestatic 347, 3) := by decide +kernel
theorem dX11_virtue_55 : decode cX11_virtue 55 = .ok (.lreturn, 1) := by decide +kernel
theorem dX11_yearsOf_0 : decode cX11_yearsOf 0 = .ok (.aload_n 0, 1) := by decide +kernel
theorem dX11_yearsOf_1 : decode cX11_yearsOf 1 = .ok (.invokevirtual 266, 3) := by decide +kernel
theorem dX11_yearsOf_4 : decode cX11_yearsOf 4 = .ok (.iload_n 1, 1) := by decide +kernel
theorem dX11_yearsOf_5 : decode cX11_yearsOf 5 = .ok (.istore 4, 2) := by decide +kernel
theorem dX11_yearsOf_7 : decode cX11_yearsOf 7 = .ok (.aload_n 0, 1) := by decide +kernel
theorem dX11_yearsOf_8 : decode cX11_yearsOf 8 = .ok (.aload_n 0, 1) := by decide +kernel
theorem dX11_yearsOf_9 : decode cX11_yearsOf 9 = .ok (.getfield 152, 3) := by decide +kernel
theorem dX11_yearsOf_12 : decode cX11_yearsOf 12 = .ok (.ifCond .ne 7, 3) := by decide +kernel
theorem dX11_yearsOf_15 : decode cX11_yearsOf 15 = .ok (.iconst 0, 1) := by decide +kernel
theorem dX11_yearsOf_16 : decode cX11_yearsOf 16 = .ok (.goto 4, 3) := by decide +kernel
theorem dX11_yearsOf_19 : decode cX11_yearsOf 19 = .ok (.iload_n 2, 1) := by decide +kernel
theorem dX11_yearsOf_20 : decode cX11_yearsOf 20 = .ok (.putfield 155, 3) := by decide +kernel
theorem dX11_yearsOf_23 : decode cX11_yearsOf 23 = .ok (.iconst 0, 1) := by decide +kernel
theorem dX11_yearsOf_24 : decode cX11_yearsOf 24 = .ok (.istore 5, 2) := by decide +kernel
theorem dX11_yearsOf_26 : decode cX11_yearsOf 26 = .ok (.iload 5, 2) := by decide +kernel
theorem dX11_yearsOf_28 : decode cX11_yearsOf 28 = .ok (.aload_n 0, 1) := by decide +kernel
theorem dX11_yearsOf_29 : decode cX11_yearsOf 29 = .ok (.getfield 155, 3) := by decide +kernel
theorem dX11_yearsOf_32 : decode cX11_yearsOf 32 = .ok (.if_icmp .ge 91, 3) := by decide +kernel
theorem dX11_yearsOf_35 : decode cX11_yearsOf 35 = .ok (.ldc_w 351, 3) := by decide +kernel
theorem dX11_yearsOf_38 : decode cX11_yearsOf 38 = .ok (.iload 4, 2) := by decide +kernel
theorem dX11_yearsOf_40 : decode cX11_yearsOf 40 = .ok (.imul, 1) := by decide +kernel
theorem dX11_yearsOf_41 : decode cX11_yearsOf 41 = .ok (.sipush 12345, 3) := by decide +kernel
theorem dX11_yearsOf_44 : decode cX11_yearsOf 44 = .ok (.iadd, 1) := by decide +kernel
theorem dX11_yearsOf_45 : decode cX11_yearsOf 45 = .ok (.istore 4, 2) := by decide +kernel
theorem dX11_yearsOf_47 : decode cX11_yearsOf 47 = .ok (.aload_n 0, 1) := by decide +kernel
theorem dX11_yearsOf_48 : decode cX11_yearsOf 48 = .ok (.getfield 25, 3) := by decide +kernel
theorem dX11_yearsOf_51 : decode cX11_yearsOf 51 = .ok (.iload 5, 2) := by decide +kernel
theorem dX11_yearsOf_53 : decode cX11_yearsOf 53 = .ok (.iload 4, 2) := by decide +kernel
theorem dX11_yearsOf_55 : decode cX11_yearsOf 55 = .ok (.bipush 16, 2) := by decide +kernel
theorem dX11_yearsOf_57 : decode cX11_yearsOf 57 = .ok (.iushr, 1) := by decide +kernel
theorem dX11_yearsOf_58 : decode cX11_yearsOf 58 = .ok (.bipush 24, 2) := by decide +kernel
theorem dX11_yearsOf_60 : decode cX11_yearsOf 60 = .ok (.irem, 1) := by decide +kernel
theorem dX11_yearsOf_61 : decode cX11_yearsOf 61 = .ok (.iastore, 1) := by decide +kernel
theorem dX11_yearsOf_62 : decode cX11_yearsOf 62 = .ok (.ldc_w 351, 3) := by decide +kernel
theorem dX11_yearsOf_65 : decode cX11_yearsOf 65 = .ok (.iload 4, 2) := by decide +kernel
theorem dX11_yearsOf_67 : decode cX11_yearsOf 67 = .ok (.imul, 1) := by decide +kernel
theorem dX11_yearsOf_68 : decode cX11_yearsOf 68 = .ok (.sipush 12345, 3) := by decide +kernel
theorem dX11_yearsOf_71 : decode cX11_yearsOf 71 = .ok (.iadd, 1) := by decide +kernel
theorem dX11_yearsOf_72 : decode cX11_yearsOf 72 = .ok (.istore 4, 2) := by decide +kernel
theorem dX11_yearsOf_74 : decode cX11_yearsOf 74 = .ok (.aload_n 0, 1) := by decide +kernel
theorem dX11_yearsOf_75 : decode cX11_yearsOf 75 = .ok (.getfield 28, 3) := by decide +kernel
theorem dX11_yearsOf_78 : decode cX11_yearsOf 78 = .ok (.iload 5, 2) := by decide +kernel
theorem dX11_yearsOf_80 : decode cX11_yearsOf 80 = .ok (.iload 4, 2) := by decide +kernel
theorem dX11_yearsOf_82 : decode cX11_yearsOf 82 = .ok (.bipush 16, 2) := by decide +kernel
theorem dX11_yearsOf_84 : decode cX11_yearsOf 84 = .ok (.iushr, 1) := by decide +kernel
theorem dX11_yearsOf_85 : decode cX11_yearsOf 85 = .ok (.aload_n 0, 1) := by decide +kernel
theorem dX11_yearsOf_86 : decode cX11_yearsOf 86 = .ok (.getfield 152, 3) := by decide +kernel
theorem dX11_yearsOf_89 : decode cX11_yearsOf 89 = .ok (.irem, 1) := by decide +kernel
theorem dX11_yearsOf_90 : decode cX11_yearsOf 90 = .ok (.iastore, 1) := by decide +kernel
theorem dX11_yearsOf_91 : decode cX11_yearsOf 91 = .ok (.ldc_w 351, 3) := by decide +kernel
theorem dX11_yearsOf_94 : decode cX11_yearsOf 94 = .ok (.iload 4, 2) := by decide +kernel
theorem dX11_yearsOf_96 : decode cX11_yearsOf 96 = .ok (.imul, 1) := by decide +kernel
theorem dX11_yearsOf_97 : decode cX11_yearsOf 97 = .ok (.sipush 12345, 3) := by decide +kernel
theorem dX11_yearsOf_100 : decode cX11_yearsOf 100 = .ok (.iadd, 1) := by decide +kernel
theorem dX11_yearsOf_101 : decode cX11_yearsOf 101 = .ok (.istore 4, 2) := by decide +kernel
theorem dX11_yearsOf_103 : decode cX11_yearsOf 103 = .ok (.aload_n 0, 1) := by decide +kernel
theorem dX11_yearsOf_104 : decode cX11_yearsOf 104 = .ok (.getfield 31, 3) := by decide +kernel
theorem dX11_yearsOf_107 : decode cX11_yearsOf 107 = .ok (.iload 5, 2) := by decide +kernel
theorem dX11_yearsOf_109 : decode cX11_yearsOf 109 = .ok (.iload 4, 2) := by decide +kernel
theorem dX11_yearsOf_111 : decode cX11_yearsOf 111 = .ok (.bipush 16, 2) := by decide +kernel
theorem dX11_yearsOf_113 : decode cX11_yearsOf 113 = .ok (.iushr, 1) := by decide +kernel
theorem dX11_yearsOf_114 : decode cX11_yearsOf 114 = .ok (.iconst 4, 1) := by decide +kernel
theorem dX11_yearsOf_115 : decode cX11_yearsOf 115 = .ok (.irem, 1) := by decide +kernel
theorem dX11_yearsOf_116 : decode cX11_yearsOf 116 = .ok (.iastore, 1) := by decide +kernel
theorem dX11_yearsOf_117 : decode cX11_yearsOf 117 = .ok (.iinc 5 1, 3) := by decide +kernel
theorem dX11_yearsOf_120 : decode cX11_yearsOf 120 = .ok (.goto (-94), 3) := by decide +kernel
theorem dX11_yearsOf_123 : decode cX11_yearsOf 123 = .ok (.aload_n 0, 1) := by decide +kernel
theorem dX11_yearsOf_124 : decode cX11_yearsOf 124 = .ok (.invokevirtual 269, 3) := by decide +kernel
theorem dX11_yearsOf_127 : decode cX11_yearsOf 127 = .ok (.iload_n 3, 1) := by decide +kernel
theorem dX11_yearsOf_128 : decode cX11_yearsOf 128 = .ok (.ifCond .ne 10, 3) := by decide +kernel
theorem dX11_yearsOf_131 : decode cX11_yearsOf 131 = .ok (.aload_n 0, 1) := by decide +kernel
theorem dX11_yearsOf_132 : decode cX11_yearsOf 132 = .ok (.invokevirtual 296, 3) := by decide +kernel
theorem dX11_yearsOf_135 : decode cX11_yearsOf 135 = .ok (.goto 16, 3) := by decide +kernel
theorem dX11_yearsOf_138 : decode cX11_yearsOf 138 = .ok (.aload_n 0, 1) := by decide +kernel
theorem dX11_yearsOf_139 : decode cX11_yearsOf 139 = .ok (.getfield 97, 3) := by decide +kernel
theorem dX11_yearsOf_142 : decode cX11_yearsOf 142 = .ok (.iconst 0, 1) := by decide +kernel
theorem dX11_yearsOf_143 : decode cX11_yearsOf 143 = .ok (.iaload, 1) := by decide +kernel
theorem dX11_yearsOf_144 : decode cX11_yearsOf 144 = .ok (.aload_n 0, 1) := by decide +kernel
theorem dX11_yearsOf_145 : decode cX11_yearsOf 145 = .ok (.getfield 97, 3) := by decide +kernel
theorem dX11_yearsOf_148 : decode cX11_yearsOf 148 = .ok (.iconst 1, 1) := by decide +kernel
theorem dX11_yearsOf_149 : decode cX11_yearsOf 149 = .ok (.iaload, 1) := by decide +kernel
theorem dX11_yearsOf_150 : decode cX11_yearsOf 150 = .ok (.iadd, 1) := by decide +kernel
theorem dX11_yearsOf_151 : decode cX11_yearsOf 151 = .ok (.ireturn, 1) := by decide +kernel
