theorem dX11_frost_0 : decode cX11_frost 0 = .ok (.iload_n 1, 1) := by decide +kernel
theorem dX11_frost_1 : decode cX11_frost 1 = .ok (.invokestatic 186, 3) := by decide +kernel
theorem dX11_frost_4 : decode cX11_frost 4 = .ok (.ifCond .ne 6, 3) := by decide +kernel
theorem dX11_frost_7 : decode cX11_frost 7 = .ok (.bipush (-2), 2) := by decide +kernel
theorem dX11_frost_9 : decode cX11_frost 9 = .ok (.ireturn, 1) := by decide +kernel
theorem dX11_frost_10 : decode cX11_frost 10 = .ok (.aload_n 0, 1) := by decide +kernel
theorem dX11_frost_11 : decode cX11_frost 11 = .ok (.getfield 198, 3) := by decide +kernel
theorem dX11_frost_14 : decode cX11_frost 14 = .ok (.bipush 6, 2) := by decide +kernel
theorem dX11_frost_16 : decode cX11_frost 16 = .ok (.if_icmp .ne 6, 3) := by decide +kernel
theorem dX11_frost_19 : decode cX11_frost 19 = .ok (.bipush (-4), 2) := by decide +kernel
theorem dX11_frost_21 : decode cX11_frost 21 = .ok (.ireturn, 1) := by decide +kernel
theorem dX11_frost_22 : decode cX11_frost 22 = .ok (.aload_n 0, 1) := by decide +kernel
theorem dX11_frost_23 : decode cX11_frost 23 = .ok (.getfield 52, 3) := by decide +kernel
theorem dX11_frost_26 : decode cX11_frost 26 = .ok (.aload_n 0, 1) := by decide +kernel
theorem dX11_frost_27 : decode cX11_frost 27 = .ok (.getfield 198, 3) := by decide +kernel
theorem dX11_frost_30 : decode cX11_frost 30 = .ok (.iload_n 1, 1) := by decide +kernel
theorem dX11_frost_31 : decode cX11_frost 31 = .ok (.iastore, 1) := by decide +kernel
theorem dX11_frost_32 : decode cX11_frost 32 = .ok (.aload_n 0, 1) := by decide +kernel
theorem dX11_frost_33 : decode cX11_frost 33 = .ok (.dup, 1) := by decide +kernel
theorem dX11_frost_34 : decode cX11_frost 34 = .ok (.getfield 198, 3) := by decide +kernel
theorem dX11_frost_37 : decode cX11_frost 37 = .ok (.iconst 1, 1) := by decide +kernel
theorem dX11_frost_38 : decode cX11_frost 38 = .ok (.iadd, 1) := by decide +kernel
theorem dX11_frost_39 : decode cX11_frost 39 = .ok (.putfield 198, 3) := by decide +kernel
theorem dX11_frost_42 : decode cX11_frost 42 = .ok (.aload_n 0, 1) := by decide +kernel
theorem dX11_frost_43 : decode cX11_frost 43 = .ok (.getfield 198, 3) := by decide +kernel
theorem dX11_frost_46 : decode cX11_frost 46 = .ok (.ireturn, 1) := by decide +kernel
theorem dX11_back_0 : decode cX11_back 0 = .ok (.iload_n 1, 1) := by decide +kernel
theorem dX11_back_1 : decode cX11_back 1 = .ok (.iconst 0, 1) := by decide +kernel
theorem dX11_back_2 : decode cX11_back 2 = .ok (.iconst 2, 1) := by decide +kernel
theorem dX11_back_3 : decode cX11_back 3 = .ok (.invokestatic 140, 3) := by decide +kernel
theorem dX11_back_6 : decode cX11_back 6 = .ok (.ifCond .ne 6, 3) := by decide +kernel
theorem dX11_back_9 : decode cX11_back 9 = .ok (.bipush (-2), 2) := by decide +kernel
theorem dX11_back_11 : decode cX11_back 11 = .ok (.ireturn, 1) := by decide +kernel
theorem dX11_back_12 : decode cX11_back 12 = .ok (.iload_n 1, 1) := by decide +kernel
theorem dX11_back_13 : decode cX11_back 13 = .ok (.ifCond .ne 10, 3) := by decide +kernel
theorem dX11_back_16 : decode cX11_back 16 = .ok (.aload_n 0, 1) := by decide +kernel
theorem dX11_back_17 : decode cX11_back 17 = .ok (.getfield 192, 3) := by decide +kernel
theorem dX11_back_20 : decode cX11_back 20 = .ok (.goto 19, 3) := by decide +kernel
theorem dX11_back_23 : decode cX11_back 23 = .ok (.iload_n 1, 1) := by decide +kernel
theorem dX11_back_24 : decode cX11_back 24 = .ok (.iconst 1, 1) := by decide +kernel
theorem dX11_back_25 : decode cX11_back 25 = .ok (.if_icmp .ne 10, 3) := by decide +kernel
theorem dX11_back_28 : decode cX11_back 28 = .ok (.aload_n 0, 1) := by decide +kernel
theorem dX11_back_29 : decode cX11_back 29 = .ok (.getfield 195, 3) := by decide +kernel
theorem dX11_back_32 : decode cX11_back 32 = .ok (.goto 7, 3) := by decide +kernel
theorem dX11_back_35 : decode cX11_back 35 = .ok (.aload_n 0, 1) := by decide +kernel
theorem dX11_back_36 : decode cX11_back 36 = .ok (.getfield 198, 3) := by decide +kernel
theorem dX11_back_39 : decode cX11_back 39 = .ok (.istore_n 2, 1) := by decide +kernel
theorem dX11_back_40 : decode cX11_back 40 = .ok (.iload_n 2, 1) := by decide +kernel
theorem dX11_back_41 : decode cX11_back 41 = .ok (.ifCond .ne 6, 3) := by decide +kernel
theorem dX11_back_44 : decode cX11_back 44 = .ok (.bipush (-3), 2) := by decide +kernel
theorem dX11_back_46 : decode cX11_back 46 = .ok (.ireturn, 1) := by decide +kernel
theorem dX11_back_47 : decode cX11_back 47 = .ok (.aload_n 0, 1) := by decide +kernel
theorem dX11_back_48 : decode cX11_back 48 = .ok (.dup, 1) := by decide +kernel
theorem dX11_back_49 : decode cX11_back 49 = .ok (.getfield 192, 3) := by decide +kernel
theorem dX11_back_52 : decode cX11_back 52 = .ok (.iload_n 1, 1) := by decide +kernel
theorem dX11_back_53 : decode cX11_back 53 = .ok (.ifCond .ne 7, 3) := by decide +kernel
theorem dX11_back_56 : decode cX11_back 56 = .ok (.iconst 1, 1) := by decide +kernel
theorem dX11_back_57 : decode cX11_back 57 = .ok (.goto 4, 3) := by decide +kernel
theorem dX11_back_60 : decode cX11_back 60 = .ok (.iconst 0, 1) := by decide +kernel
theorem dX11_back_61 : decode cX11_back 61 = .ok (.isub, 1) := by decide +kernel
theorem dX11_back_62 : decode cX11_back 62 = .ok (.putfield 192, 3) := by decide +kernel
theorem dX11_back_65 : decode cX11_back 65 = .ok (.aload_n 0, 1) := by decide +kernel
theorem dX11_back_66 : decode cX11_back 66 = .ok (.dup, 1) := by decide +kernel
theorem dX11_back_67 : decode cX11_back 67 = .ok (.getfield 195, 3) := by decide +kernel
theorem dX11_back_70 : decode cX11_back 70 = .ok (.iload_n 1, 1) := by decide +kernel
theorem dX11_back_71 : decode cX11_back 71 = .ok (.iconst 1, 1) := by decide +kernel
theorem dX11_back_72 : decode cX11_back 72 = .ok (.if_icmp .ne 7, 3) := by decide +kernel
theorem dX11_back_75 : decode cX11_back 75 = .ok (.iconst 1, 1) := by decide +kernel
theorem dX11_back_76 : decode cX11_back 76 = .ok (.goto 4, 3) := by decide +kernel
theorem dX11_back_79 : decode cX11_back 79 = .ok (.iconst 0, 1) := by decide +kernel
theorem dX11_back_80 : decode cX11_back 80 = .ok (.isub, 1) := by decide +kernel
theorem dX11_back_81 : decode cX11_back 81 = .ok (.putfield 195, 3) := by decide +kernel
theorem dX11_back_84 : decode cX11_back 84 = .ok (.aload_n 0, 1) := by decide +kernel
theorem dX11_back_85 : decode cX11_back 85 = .ok (.dup, 1) := by decide +kernel
theorem dX11_back_86 : decode cX11_back 86 = .ok (.getfield 198, 3) := by decide +kernel
theorem dX11_back_89 : decode cX11_back 89 = .ok (.iload_n 1, 1) := by decide +kernel
theorem dX11_back_90 : decode cX11_back 90 = .ok (.iconst 2, 1) := by decide +kernel
theorem dX11_back_91 : decode cX11_back 91 = .ok (.if_icmp .ne 7, 3) := by decide +kernel
theorem dX11_back_94 : decode cX11_back 94 = .ok (.iconst 1, 1) := by decide +kernel
theorem dX11_back_95 : decode cX11_back 95 = .ok (.goto 4, 3) := by decide +kernel
theorem dX11_back_98 : decode cX11_back 98 = .ok (.iconst 0, 1) := by decide +kernel
theorem dX11_back_99 : decode cX11_back 99 = .ok (.isub, 1) := by decide +kernel
theorem dX11_back_100 : decode cX11_back 100 = .ok (.putfield 198, 3) := by decide +kernel
theorem dX11_back_103 : decode cX11_back 103 = .ok (.iload_n 2, 1) := by decide +kernel
theorem dX11_back_104 : decode cX11_back 104 = .ok (.iconst 1, 1) := by decide +kernel
theorem dX11_back_105 : decode cX11_back 105 = .ok (.isub, 1) := by decide +kernel
theorem dX11_back_106 : decode cX11_back 106 = .ok (.ireturn, 1) := by decide +kernel
theorem dX11_read_0 : decode cX11_read 0 = .ok (.iload_n 1, 1) := by decide +kernel
theorem dX11_read_1 : decode cX11_read 1 = .ok (.invokestatic 201, 3) := by decide +kernel
theorem dX11_read_4 : decode cX11_read 4 = .ok (.ifCond .ne 6, 3) := by decide +kernel
theorem dX11_read_7 : decode cX11_read 7 = .ok (.bipush (-2), 2) := by decide +kernel
theorem dX11_read_9 : decode cX11_read 9 = .ok (.ireturn, 1) := by decide +kernel
theorem dX11_read_10 : decode cX11_read 10 = .ok (.aload_n 0, 1) := by decide +kernel
theorem dX11_read_11 : decode cX11_read 11 = .ok (.getfield 115, 3) := by decide +kernel
theorem dX11_read_14 : decode cX11_read 14 = .ok (.iload_n 1, 1) := by decide +kernel
theorem dX11_read_15 : decode cX11_read 15 = .ok (.baload, 1) := by decide +kernel
theorem dX11_read_16 : decode cX11_read 16 = .ok (.ifCond .ne 9, 3) := by decide +kernel
theorem dX11_read_19 : decode cX11_read 19 = .ok (.aload_n 0, 1) := by decide +kernel
theorem dX11_read_20 : decode cX11_read 20 = .ok (.iconst 1, 1) := by decide +kernel
theorem dX11_read_21 : decode cX11_read 21 = .ok (.invokevirtual 204, 3) := by decide +kernel
theorem dX11_read_24 : decode cX11_read 24 = .ok (.ireturn, 1) := by decide +kernel
theorem dX11_read_25 : decode cX11_read 25 = .ok (.iconst 0, 1) := by decide +kernel
theorem dX11_read_26 : decode cX11_read 26 = .ok (.istore_n 2, 1) := by decide +kernel
theorem dX11_read_27 : decode cX11_read 27 = .ok (.iconst 3, 1) := by decide +kernel
theorem dX11_read_28 : decode cX11_read 28 = .ok (.iload_n 2, 1) := by decide +kernel
theorem dX11_read_29 : decode cX11_read 29 = .ok (.imul, 1) := by decide +kernel
theorem dX11_read_30 : decode cX11_read 30 = .ok (.iconst 2, 1) := by decide +kernel
theorem dX11_read_31 : decode cX11_read 31 = .ok (.iadd, 1) := by decide +kernel
theorem dX11_read_32 : decode cX11_read 32 = .ok (.aload_n 0, 1) := by decide +kernel
theorem dX11_read_33 : decode cX11_read 33 = .ok (.getfield 122, 3) := by decide +kernel
theorem dX11_read_36 : decode cX11_read 36 = .ok (.iload_n 1, 1) := by decide +kernel
theorem dX11_read_37 : decode cX11_read 37 = .ok (.iaload, 1) := by decide +kernel
theorem dX11_read_38 : decode cX11_read 38 = .ok (.if_icmp .ge 59, 3) := by decide +kernel
theorem dX11_read_41 : decode cX11_read 41 = .ok (.aload_n 0, 1) := by decide +kernel
theorem dX11_read_42 : decode cX11_read 42 = .ok (.aload_n 0, 1) := by decide +kernel
theorem dX11_read_43 : decode cX11_read 43 = .ok (.getfield 125, 3) := by decide +kernel
theorem dX11_read_46 : decode cX11_read 46 = .ok (.bipush 60, 2) := by decide +kernel
theorem dX11_read_48 : decode cX11_read 48 = .ok (.iload_n 1, 1) := by decide +kernel
theorem dX11_read_49 : decode cX11_read 49 = .ok (.imul, 1) := by decide +kernel
theorem dX11_read_50 : decode cX11_read 50 = .ok (.iconst 3, 1) := by decide +kernel
theorem dX11_read_51 : decode cX11_read 51 = .ok (.iload_n 2, 1) := by decide +kernel
theorem dX11_read_52 : decode cX11_read 52 = .ok (.imul, 1) := by decide +kernel
theorem dX11_read_53 : decode cX11_read 53 = .ok (.iadd, 1) := by decide +kernel
theorem dX11_read_54 : decode cX11_read 54 = .ok (.iaload, 1) := by decide +kernel
theorem dX11_read_55 : decode cX11_read 55 = .ok (.aload_n 0, 1) := by decide +kernel
theorem dX11_read_56 : decode cX11_read 56 = .ok (.getfield 125, 3) := by decide +kernel
theorem dX11_read_59 : decode cX11_read 59 = .ok (.bipush 60, 2) := by decide +kernel
theorem dX11_read_61 : decode cX11_read 61 = .ok (.iload_n 1, 1) := by decide +kernel
theorem dX11_read_62 : decode cX11_read 62 = .ok (.imul, 1) := by decide +kernel
theorem dX11_read_63 : decode cX11_read 63 = .ok (.iconst 3, 1) := by decide +kernel
theorem dX11_read_64 : decode cX11_read 64 = .ok (.iload_n 2, 1) := by decide +kernel
theorem dX11_read_65 : decode cX11_read 65 = .ok (.imul, 1) := by decide +kernel
theorem dX11_read_66 : decode cX11_read 66 = .ok (.iadd, 1) := by decide +kernel
theorem dX11_read_67 : decode cX11_read 67 = .ok (.iconst 1, 1) := by decide +kernel
theorem dX11_read_68 : decode cX11_read 68 = .ok (.iadd, 1) := by decide +kernel
theorem dX11_read_69 : decode cX11_read 69 = .ok (.iaload, 1) := by decide +kernel
theorem dX11_read_70 : decode cX11_read 70 = .ok (.aload_n 0, 1) := by decide +kernel
theorem dX11_read_71 : decode cX11_read 71 = .ok (.getfield 125, 3) := by decide +kernel
theorem dX11_read_74 : decode cX11_read 74 = .ok (.bipush 60, 2) := by decide +kernel
theorem dX11_read_76 : decode cX11_read 76 = .ok (.iload_n 1, 1) := by decide +kernel
theorem dX11_read_77 : decode cX11_read 77 = .ok (.imul, 1) := by decide +kernel
theorem dX11_read_78 : decode cX11_read 78 = .ok (.iconst 3, 1) := by decide +kernel
theorem dX11_read_79 : decode cX11_read 79 = .ok (.iload_n 2, 1) := by decide +kernel
theorem dX11_read_80 : decode cX11_read 80 = .ok (.imul, 1) := by decide +kernel
theorem dX11_read_81 : decode cX11_read 81 = .ok (.iadd, 1) := by decide +kernel
theorem dX11_read_82 : decode cX11_read 82 = .ok (.iconst 2, 1) := by decide +kernel
theorem dX11_read_83 : decode cX11_read 83 = .ok (.iadd, 1) := by decide +kernel
theorem dX11_read_84 : decode cX11_read 84 = .ok (.iaload, 1) := by decide +kernel
theorem dX11_read_85 : decode cX11_read 85 = .ok (.invokevirtual 207, 3) := by decide +kernel
theorem dX11_read_88 : decode cX11_read 88 = .ok (.ifCond .le 9, 3) := by decide +kernel
theorem dX11_read_91 : decode cX11_read 91 = .ok (.iinc 2 1, 3) := by decide +kernel
theorem dX11_read_94 : decode cX11_read 94 = .ok (.goto (-67), 3) := by decide +kernel
theorem dX11_read_97 : decode cX11_read 97 = .ok (.iload_n 2, 1) := by decide +kernel
theorem dX11_read_98 : decode cX11_read 98 = .ok (.ireturn, 1) := by decide +kernel
theorem dX11_asTold_0 : decode cX11_asTold 0 = .ok (.aload_n 0, 1) := by decide +kernel
theorem dX11_asTold_1 : decode cX11_asTold 1 = .ok (.invokevirtual 171, 3) := by decide +kernel
theorem dX11_asTold_4 : decode cX11_asTold 4 = .ok (.aload_n 0, 1) := by decide +kernel
theorem dX11_asTold_5 : decode cX11_asTold 5 = .ok (.iconst 0, 1) := by decide +kernel
theorem dX11_asTold_6 : decode cX11_asTold 6 = .ok (.putfield 211, 3) := by decide +kernel
theorem dX11_asTold_9 : decode cX11_asTold 9 = .ok (.aload_n 0, 1) := by decide +kernel
theorem dX11_asTold_10 : decode cX11_asTold 10 = .ok (.iconst 0, 1) := by decide +kernel
theorem dX11_asTold_11 : decode cX11_asTold 11 = .ok (.putfield 214, 3) := by decide +kernel
theorem dX11_asTold_14 : decode cX11_asTold 14 = .ok (.aload_n 0, 1) := by decide +kernel
theorem dX11_asTold_15 : decode cX11_asTold 15 = .ok (.iconst 0, 1) := by decide +kernel
theorem dX11_asTold_16 : decode cX11_asTold 16 = .ok (.putfield 217, 3) := by decide +kernel
theorem dX11_asTold_19 : decode cX11_asTold 19 = .ok (.iconst 0, 1) := by decide +kernel
theorem dX11_asTold_20 : decode cX11_asTold 20 = .ok (.istore_n 1, 1) := by decide +kernel
theorem dX11_asTold_21 : decode cX11_asTold 21 = .ok (.iload_n 1, 1) := by decide +kernel
theorem dX11_asTold_22 : decode cX11_asTold 22 = .ok (.aload_n 0, 1) := by decide +kernel
theorem dX11_asTold_23 : decode cX11_asTold 23 = .ok (.getfield 198, 3) := by decide +kernel
theorem dX11_asTold_26 : decode cX11_asTold 26 = .ok (.if_icmp .ge 26, 3) := by decide +kernel
theorem dX11_asTold_29 : decode cX11_asTold 29 = .ok (.aload_n 0, 1) := by decide +kernel
theorem dX11_asTold_30 : decode cX11_asTold 30 = .ok (.dup, 1) := by decide +kernel
theorem dX11_asTold_31 : decode cX11_asTold 31 = .ok (.getfield 217, 3) := by decide +kernel
theorem dX11_asTold_34 : decode cX11_asTold 34 = .ok (.iconst 1, 1) := by decide +kernel
theorem dX11_asTold_35 : decode cX11_asTold 35 = .ok (.aload_n 0, 1) := by decide +kernel
theorem dX11_asTold_36 : decode cX11_asTold 36 = .ok (.getfield 52, 3) := by decide +kernel
theorem dX11_asTold_39 : decode cX11_asTold 39 = .ok (.iload_n 1, 1) := by decide +kernel
theorem dX11_asTold_40 : decode cX11_asTold 40 = .ok (.iaload, 1) := by decide +kernel
theorem dX11_asTold_41 : decode cX11_asTold 41 = .ok (.ishl, 1) := by decide +kernel
theorem dX11_asTold_42 : decode cX11_asTold 42 = .ok (.ior, 1) := by decide +kernel
theorem dX11_asTold_43 : decode cX11_asTold 43 = .ok (.putfield 217, 3) := by decide +kernel
theorem dX11_asTold_46 : decode cX11_asTold 46 = .ok (.iinc 1 1, 3) := by decide +kernel
theorem dX11_asTold_49 : decode cX11_asTold 49 = .ok (.goto (-28), 3) := by decide +kernel
theorem dX11_asTold_52 : decode cX11_asTold 52 = .ok (.return_, 1) := by decide +kernel
theorem dX11_lives_0 : decode cX11_lives 0 = .ok (.iload_n 1, 1) := by decide +kernel
theorem dX11_lives_1 : decode cX11_lives 1 = .ok (.iconst 0, 1) := by decide +kernel
theorem dX11_lives_2 : decode cX11_lives 2 = .ok (.aload_n 0, 1) := by decide +kernel
theorem dX11_lives_3 : decode cX11_lives 3 = .ok (.getfield 152, 3) := by decide +kernel
theorem dX11_lives_6 : decode cX11_lives 6 = .ok (.iconst 1, 1) := by decide +kernel
theorem dX11_lives_7 : decode cX11_lives 7 = .ok (.isub, 1) := by decide +kernel
theorem dX11_lives_8 : decode cX11_lives 8 = .ok (.invokestatic 140, 3) := by decide +kernel
theorem dX11_lives_11 : decode cX11_lives 11 = .ok (.ifCond .eq 17, 3) := by decide +kernel
theorem dX11_lives_14 : decode cX11_lives 14 = .ok (.aload_n 0, 1) := by decide +kernel
theorem dX11_lives_15 : decode cX11_lives 15 = .ok (.getfield 67, 3) := by decide +kernel
theorem dX11_lives_18 : decode cX11_lives 18 = .ok (.iload_n 1, 1) := by decide +kernel
theorem dX11_lives_19 : decode cX11_lives 19 = .ok (.iaload, 1) := by decide +kernel
theorem dX11_lives_20 : decode cX11_lives 20 = .ok (.iconst (-1), 1) := by decide +kernel
theorem dX11_lives_21 : decode cX11_lives 21 = .ok (.if_icmp .ne 7, 3) := by decide +kernel
theorem dX11_lives_24 : decode cX11_lives 24 = .ok (.iconst 1, 1) := by decide +kernel
theorem dX11_lives_25 : decode cX11_lives 25 = .ok (.goto 4, 3) := by decide +kernel
theorem dX11_lives_28 : decode cX11_lives 28 = .ok (.iconst 0, 1) := by decide +kernel
theorem dX11_lives_29 : decode cX11_lives 29 = .ok (.ireturn, 1) := by decide +kernel
theorem dX11_weightOf_0 : decode cX11_weightOf 0 = .ok (.iload_n 0, 1) := by decide +kernel
theorem dX11_weightOf_1 : decode cX11_weightOf 1 = .ok (.ifCond .ne 7, 3) := by decide +kernel
theorem dX11_weightOf_4 : decode cX11_weightOf 4 = .ok (.iconst 1, 1) := by decide +kernel
theorem dX11_weightOf_5 : decode cX11_weightOf 5 = .ok (.goto 23, 3) := by decide +kernel
theorem dX11_weightOf_8 : decode cX11_weightOf 8 = .ok (.iload_n 0, 1) := by decide +kernel
theorem dX11_weightOf_9 : decode cX11_weightOf 9 = .ok (.iconst 1, 1) := by decide +kernel
theorem dX11_weightOf_10 : decode cX11_weightOf 10 = .ok (.if_icmp .ne 7, 3) := by decide +kernel
theorem dX11_weightOf_13 : decode cX11_weightOf 13 = .ok (.iconst 3, 1) := by decide +kernel
theorem dX11_weightOf_14 : decode cX11_weightOf 14 = .ok (.goto 14, 3) := by decide +kernel
theorem dX11_weightOf_17 : decode cX11_weightOf 17 = .ok (.iload_n 0, 1) := by decide +kernel
theorem dX11_weightOf_18 : decode cX11_weightOf 18 = .ok (.iconst 2, 1) := by decide +kernel
theorem dX11_weightOf_19 : decode cX11_weightOf 19 = .ok (.if_icmp .ne 7, 3) := by decide +kernel
theorem dX11_weightOf_22 : decode cX11_weightOf 22 = .ok (.iconst 4, 1) := by decide +kernel
theorem dX11_weightOf_23 : decode cX11_weightOf 23 = .ok (.goto 5, 3) := by decide +kernel
theorem dX11_weightOf_26 : decode cX11_weightOf 26 = .ok (.bipush 9, 2) := by decide +kernel
theorem dX11_weightOf_28 : decode cX11_weightOf 28 = .ok (.ireturn, 1) := by decide +kernel
theorem dX11_grows_0 : decode cX11_grows 0 = .ok (.aload_n 0, 1) := by decide +kernel
theorem dX11_grows_1 : decode cX11_grows 1 = .ok (.iconst 0, 1) := by decide +kernel
theorem dX11_grows_2 : decode cX11_grows 2 = .ok (.putfield 220, 3) := by decide +kernel
theorem dX11_grows_5 : decode cX11_grows 5 = .ok (.iconst 0, 1) := by decide +kernel
theorem dX11_grows_6 : decode cX11_grows 6 = .ok (.istore_n 2, 1) := by decide +kernel
theorem dX11_grows_7 : decode cX11_grows 7 = .ok (.iload_n 2, 1) := by decide +kernel
theorem dX11_grows_8 : decode cX11_grows 8 = .ok (.aload_n 0, 1) := by decide +kernel
theorem dX11_grows_9 : decode cX11_grows 9 = .ok (.getfield 155, 3) := by decide +kernel
theorem dX11_grows_12 : decode cX11_grows 12 = .ok (.if_icmp .ge 114, 3) := by decide +kernel
theorem dX11_grows_15 : decode cX11_grows 15 = .ok (.aload_n 0, 1) := by decide +kernel
theorem dX11_grows_16 : decode cX11_grows 16 = .ok (.getfield 28, 3) := by decide +kernel
theorem dX11_grows_19 : decode cX11_grows 19 = .ok (.iload_n 2, 1) := by decide +kernel
theorem dX11_grows_20 : decode cX11_grows 20 = .ok (.iaload, 1) := by decide +kernel
theorem dX11_grows_21 : decode cX11_grows 21 = .ok (.istore_n 3, 1) := by decide +kernel
theorem dX11_grows_22 : decode cX11_grows 22 = .ok (.aload_n 0, 1) := by decide +kernel
theorem dX11_grows_23 : decode cX11_grows 23 = .ok (.getfield 25, 3) := by decide +kernel
theorem dX11_grows_26 : decode cX11_grows 26 = .ok (.iload_n 2, 1) := by decide +kernel
theorem dX11_grows_27 : decode cX11_grows 27 = .ok (.iaload, 1) := by decide +kernel
theorem dX11_grows_28 : decode cX11_grows 28 = .ok (.iload_n 1, 1) := by decide +kernel
theorem dX11_grows_29 : decode cX11_grows 29 = .ok (.if_icmp .ne 91, 3) := by decide +kernel
theorem dX11_grows_32 : decode cX11_grows 32 = .ok (.aload_n 0, 1) := by decide +kernel
theorem dX11_grows_33 : decode cX11_grows 33 = .ok (.getfield 211, 3) := by decide +kernel
theorem dX11_grows_36 : decode cX11_grows 36 = .ok (.iload_n 2, 1) := by decide +kernel
theorem dX11_grows_37 : decode cX11_grows 37 = .ok (.invokestatic 223, 3) := by decide +kernel
theorem dX11_grows_40 : decode cX11_grows 40 = .ok (.ifCond .ne 80, 3) := by decide +kernel
theorem dX11_grows_43 : decode cX11_grows 43 = .ok (.aload_n 0, 1) := by decide +kernel
theorem dX11_grows_44 : decode cX11_grows 44 = .ok (.iload_n 3, 1) := by decide +kernel
theorem dX11_grows_45 : decode cX11_grows 45 = .ok (.invokevirtual 227, 3) := by decide +kernel
theorem dX11_grows_48 : decode cX11_grows 48 = .ok (.ifCond .eq 72, 3) := by decide +kernel
theorem dX11_grows_51 : decode cX11_grows 51 = .ok (.aload_n 0, 1) := by decide +kernel
theorem dX11_grows_52 : decode cX11_grows 52 = .ok (.getfield 31, 3) := by decide +kernel
theorem dX11_grows_55 : decode cX11_grows 55 = .ok (.iload_n 2, 1) := by decide +kernel
theorem dX11_grows_56 : decode cX11_grows 56 = .ok (.iaload, 1) := by decide +kernel
theorem dX11_grows_57 : decode cX11_grows 57 = .ok (.invokestatic 230, 3) := by decide +kernel
theorem dX11_grows_60 : decode cX11_grows 60 = .ok (.istore 4, 2) := by decide +kernel
theorem dX11_grows_62 : decode cX11_grows 62 = .ok (.aload_n 0, 1) := by decide +kernel
theorem dX11_grows_63 : decode cX11_grows 63 = .ok (.getfield 55, 3) := by decide +kernel
theorem dX11_grows_66 : decode cX11_grows 66 = .ok (.iload_n 3, 1) := by decide +kernel
theorem dX11_grows_67 : decode cX11_grows 67 = .ok (.dup2, 1) := by decide +kernel
theorem dX11_grows_68 : decode cX11_grows 68 = .ok (.iaload, 1) := by decide +kernel
theorem dX11_grows_69 : decode cX11_grows 69 = .ok (.aload_n 0, 1) := by decide +kernel
theorem dX11_grows_70 : decode cX11_grows 70 = .ok (.getfield 16, 3) := by decide +kernel
theorem dX11_grows_73 : decode cX11_grows 73 = .ok (.iload_n 3, 1) := by decide +kernel
theorem dX11_grows_74 : decode cX11_grows 74 = .ok (.iaload, 1) := by decide +kernel
theorem dX11_grows_75 : decode cX11_grows 75 = .ok (.ifCond .ne 12, 3) := by decide +kernel
theorem dX11_grows_78 : decode cX11_grows 78 = .ok (.iload 4, 2) := by decide +kernel
theorem dX11_grows_80 : decode cX11_grows 80 = .ok (.iconst 2, 1) := by decide +kernel
theorem dX11_grows_81 : decode cX11_grows 81 = .ok (.idiv, 1) := by decide +kernel
theorem dX11_grows_82 : decode cX11_grows 82 = .ok (.iconst 1, 1) := by decide +kernel
theorem dX11_grows_83 : decode cX11_grows 83 = .ok (.iadd, 1) := by decide +kernel
theorem dX11_grows_84 : decode cX11_grows 84 = .ok (.goto 22, 3) := by decide +kernel
theorem dX11_grows_87 : decode cX11_grows 87 = .ok (.aload_n 0, 1) := by decide +kernel
theorem dX11_grows_88 : decode cX11_grows 88 = .ok (.getfield 16, 3) := by decide +kernel
theorem dX11_grows_91 : decode cX11_grows 91 = .ok (.iload_n 3, 1) := by decide +kernel
theorem dX11_grows_92 : decode cX11_grows 92 = .ok (.iaload, 1) := by decide +kernel
theorem dX11_grows_93 : decode cX11_grows 93 = .ok (.iconst 1, 1) := by decide +kernel
theorem dX11_grows_94 : decode cX11_grows 94 = .ok (.if_icmp .ne 10, 3) := by decide +kernel
theorem dX11_grows_97 : decode cX11_grows 97 = .ok (.iconst 2, 1) := by decide +kernel
theorem dX11_grows_98 : decode cX11_grows 98 = .ok (.iload 4, 2) := by decide +kernel
theorem dX11_grows_100 : decode cX11_grows 100 = .ok (.imul, 1) := by decide +kernel
theorem dX11_grows_101 : decode cX11_grows 101 = .ok (.goto 5, 3) := by decide +kernel
theorem dX11_grows_104 : decode cX11_grows 104 = .ok (.iload 4, 2) := by decide +kernel
theorem dX11_grows_106 : decode cX11_grows 106 = .ok (.iadd, 1) := by decide +kernel
theorem dX11_grows_107 : decode cX11_grows 107 = .ok (.iastore, 1) := by decide +kernel
theorem dX11_grows_108 : decode cX11_grows 108 = .ok (.aload_n 0, 1) := by decide +kernel
theorem dX11_grows_109 : decode cX11_grows 109 = .ok (.dup, 1) := by decide +kernel
theorem dX11_grows_110 : decode cX11_grows 110 = .ok (.getfield 220, 3) := by decide +kernel
theorem dX11_grows_113 : decode cX11_grows 113 = .ok (.iconst 1, 1) := by decide +kernel
theorem dX11_grows_114 : decode cX11_grows 114 = .ok (.iload_n 3, 1) := by decide +kernel
theorem dX11_grows_115 : decode cX11_grows 115 = .ok (.ishl, 1) := by decide +kernel
theorem dX11_grows_116 : decode cX11_grows 116 = .ok (.ior, 1) := by decide +kernel
theorem dX11_grows_117 : decode cX11_grows 117 = .ok (.putfield 220, 3) := by decide +kernel
theorem dX11_grows_120 : decode cX11_grows 120 = .ok (.iinc 2 1, 3) := by decide +kernel
theorem dX11_grows_123 : decode cX11_grows 123 = .ok (.goto (-116), 3) := by decide +kernel
theorem dX11_grows_126 : decode cX11_grows 126 = .ok (.iconst 0, 1) := by decide +kernel
theorem dX11_grows_127 : decode cX11_grows 127 = .ok (.istore_n 2, 1) := by decide +kernel
theorem dX11_grows_128 : decode cX11_grows 128 = .ok (.iload_n 2, 1) := by decide +kernel
theorem dX11_grows_129 : decode cX11_grows 129 = .ok (.aload_n 0, 1) := by decide +kernel
theorem dX11_grows_130 : decode cX11_grows 130 = .ok (.getfield 152, 3) := by decide +kernel
theorem dX11_grows_133 : decode cX11_grows 133 = .ok (.if_icmp .ge 59, 3) := by decide +kernel
theorem dX11_grows_136 : decode cX11_grows 136 = .ok (.aload_n 0, 1) := by decide +kernel
theorem dX11_grows_137 : decode cX11_grows 137 = .ok (.getfield 55, 3) := by decide +kernel
theorem dX11_grows_140 : decode cX11_grows 140 = .ok (.iload_n 2, 1) := by decide +kernel
theorem dX11_grows_141 : decode cX11_grows 141 = .ok (.dup2, 1) := by decide +kernel
theorem dX11_grows_142 : decode cX11_grows 142 = .ok (.iaload, 1) := by decide +kernel
theorem dX11_grows_143 : decode cX11_grows 143 = .ok (.aload_n 0, 1) := by decide +kernel
theorem dX11_grows_144 : decode cX11_grows 144 = .ok (.iload_n 2, 1) := by decide +kernel
theorem dX11_grows_145 : decode cX11_grows 145 = .ok (.invokevirtual 227, 3) := by decide +kernel
theorem dX11_grows_148 : decode cX11_grows 148 = .ok (.ifCond .eq 35, 3) := by decide +kernel
theorem dX11_grows_151 : decode cX11_grows 151 = .ok (.aload_n 0, 1) := by decide +kernel
theorem dX11_grows_152 : decode cX11_grows 152 = .ok (.getfield 220, 3) := by decide +kernel
theorem dX11_grows_155 : decode cX11_grows 155 = .ok (.iload_n 2, 1) := by decide +kernel
theorem dX11_grows_156 : decode cX11_grows 156 = .ok (.invokestatic 223, 3) := by decide +kernel
theorem dX11_grows_159 : decode cX11_grows 159 = .ok (.ifCond .ne 24, 3) := by decide +kernel
theorem dX11_grows_162 : decode cX11_grows 162 = .ok (.aload_n 0, 1) := by decide +kernel
theorem dX11_grows_163 : decode cX11_grows 163 = .ok (.getfield 55, 3) := by decide +kernel
theorem dX11_grows_166 : decode cX11_grows 166 = .ok (.iload_n 2, 1) := by decide +kernel
theorem dX11_grows_167 : decode cX11_grows 167 = .ok (.iaload, 1) := by decide +kernel
theorem dX11_grows_168 : decode cX11_grows 168 = .ok (.iconst 1, 1) := by decide +kernel
theorem dX11_grows_169 : decode cX11_grows 169 = .ok (.aload_n 0, 1) := by decide +kernel
theorem dX11_grows_170 : decode cX11_grows 170 = .ok (.getfield 131, 3) := by decide +kernel
theorem dX11_grows_173 : decode cX11_grows 173 = .ok (.invokestatic 140, 3) := by decide +kernel
theorem dX11_grows_176 : decode cX11_grows 176 = .ok (.ifCond .eq 7, 3) := by decide +kernel
theorem dX11_grows_179 : decode cX11_grows 179 = .ok (.iconst 1, 1) := by decide +kernel
theorem dX11_grows_180 : decode cX11_grows 180 = .ok (.goto 4, 3) := by decide +kernel
theorem dX11_grows_183 : decode cX11_grows 183 = .ok (.iconst 0, 1) := by decide +kernel
theorem dX11_grows_184 : decode cX11_grows 184 = .ok (.isub, 1) := by decide +kernel
theorem dX11_grows_185 : decode cX11_grows 185 = .ok (.iastore, 1) := by decide +kernel
theorem dX11_grows_186 : decode cX11_grows 186 = .ok (.iinc 2 1, 3) := by decide +kernel
theorem dX11_grows_189 : decode cX11_grows 189 = .ok (.goto (-61), 3) := by decide +kernel
theorem dX11_grows_192 : decode cX11_grows 192 = .ok (.return_, 1) := by decide +kernel
theorem dX11_goes_0 : decode cX11_goes 0 = .ok (.iconst 0, 1) := by decide +kernel
theorem dX11_goes_1 : decode cX11_goes 1 = .ok (.istore_n 2, 1) := by decide +kernel
theorem dX11_goes_2 : decode cX11_goes 2 = .ok (.iload_n 2, 1) := by decide +kernel
theorem dX11_goes_3 : decode cX11_goes 3 = .ok (.aload_n 0, 1) := by decide +kernel
theorem dX11_goes_4 : decode cX11_goes 4 = .ok (.getfield 195, 3) := by decide +kernel
theorem dX11_goes_7 : decode cX11_goes 7 = .ok (.if_icmp .ge 105, 3) := by decide +kernel
theorem dX11_goes_10 : decode cX11_goes 10 = .ok (.aload_n 0, 1) := by decide +kernel
theorem dX11_goes_11 : decode cX11_goes 11 = .ok (.getfield 46, 3) := by decide +kernel
theorem dX11_goes_14 : decode cX11_goes 14 = .ok (.iload_n 2, 1) := by decide +kernel
theorem dX11_goes_15 : decode cX11_goes 15 = .ok (.iaload, 1) := by decide +kernel
theorem dX11_goes_16 : decode cX11_goes 16 = .ok (.istore_n 3, 1) := by decide +kernel
theorem dX11_goes_17 : decode cX11_goes 17 = .ok (.aload_n 0, 1) := by decide +kernel
theorem dX11_goes_18 : decode cX11_goes 18 = .ok (.getfield 43, 3) := by decide +kernel
theorem dX11_goes_21 : decode cX11_goes 21 = .ok (.iload_n 2, 1) := by decide +kernel
theorem dX11_goes_22 : decode cX11_goes 22 = .ok (.iaload, 1) := by decide +kernel
theorem dX11_goes_23 : decode cX11_goes 23 = .ok (.iload_n 1, 1) := by decide +kernel
theorem dX11_goes_24 : decode cX11_goes 24 = .ok (.if_icmp .ne 82, 3) := by decide +kernel
theorem dX11_goes_27 : decode cX11_goes 27 = .ok (.aload_n 0, 1) := by decide +kernel
theorem dX11_goes_28 : decode cX11_goes 28 = .ok (.iload_n 3, 1) := by decide +kernel
theorem dX11_goes_29 : decode cX11_goes 29 = .ok (.invokevirtual 227, 3) := by decide +kernel
theorem dX11_goes_32 : decode cX11_goes 32 = .ok (.ifCond .eq 74, 3) := by decide +kernel
theorem dX11_goes_35 : decode cX11_goes 35 = .ok (.aload_n 0, 1) := by decide +kernel
theorem dX11_goes_36 : decode cX11_goes 36 = .ok (.getfield 58, 3) := by decide +kernel
theorem dX11_goes_39 : decode cX11_goes 39 = .ok (.iload_n 3, 1) := by decide +kernel
theorem dX11_goes_40 : decode cX11_goes 40 = .ok (.iaload, 1) := by decide +kernel
theorem dX11_goes_41 : decode cX11_goes 41 = .ok (.aload_n 0, 1) := by decide +kernel
theorem dX11_goes_42 : decode cX11_goes 42 = .ok (.getfield 49, 3) := by decide +kernel
theorem dX11_goes_45 : decode cX11_goes 45 = .ok (.iload_n 2, 1) := by decide +kernel
theorem dX11_goes_46 : decode cX11_goes 46 = .ok (.iaload, 1) := by decide +kernel
theorem dX11_goes_47 : decode cX11_goes 47 = .ok (.if_icmp .eq 59, 3) := by decide +kernel
theorem dX11_goes_50 : decode cX11_goes 50 = .ok (.aload_n 0, 1) := by decide +kernel
theorem dX11_goes_51 : decode cX11_goes 51 = .ok (.getfield 55, 3) := by decide +kernel
theorem dX11_goes_54 : decode cX11_goes 54 = .ok (.iload_n 3, 1) := by decide +kernel
theorem dX11_goes_55 : decode cX11_goes 55 = .ok (.iaload, 1) := by decide +kernel
theorem dX11_goes_56 : decode cX11_goes 56 = .ok (.iconst 2, 1) := by decide +kernel
theorem dX11_goes_57 : decode cX11_goes 57 = .ok (.if_icmp .ge 12, 3) := by decide +kernel
theorem dX11_goes_60 : decode cX11_goes 60 = .ok (.aload_n 0, 1) := by decide +kernel
theorem dX11_goes_61 : decode cX11_goes 61 = .ok (.getfield 55, 3) := by decide +kernel
theorem dX11_goes_64 : decode cX11_goes 64 = .ok (.iload_n 3, 1) := by decide +kernel
theorem dX11_goes_65 : decode cX11_goes 65 = .ok (.iaload, 1) := by decide +kernel
theorem dX11_goes_66 : decode cX11_goes 66 = .ok (.goto 4, 3) := by decide +kernel
theorem dX11_goes_69 : decode cX11_goes 69 = .ok (.iconst 2, 1) := by decide +kernel
theorem dX11_goes_70 : decode cX11_goes 70 = .ok (.istore 4, 2) := by decide +kernel
theorem dX11_goes_72 : decode cX11_goes 72 = .ok (.aload_n 0, 1) := by decide +kernel
theorem dX11_goes_73 : decode cX11_goes 73 = .ok (.getfield 55, 3) := by decide +kernel
theorem dX11_goes_76 : decode cX11_goes 76 = .ok (.iload_n 3, 1) := by decide +kernel
theorem dX11_goes_77 : decode cX11_goes 77 = .ok (.dup2, 1) := by decide +kernel
theorem dX11_goes_78 : decode cX11_goes 78 = .ok (.iaload, 1) := by decide +kernel
theorem dX11_goes_79 : decode cX11_goes 79 = .ok (.iload 4, 2) := by decide +kernel
theorem dX11_goes_81 : decode cX11_goes 81 = .ok (.isub, 1) := by decide +kernel
theorem dX11_goes_82 : decode cX11_goes 82 = .ok (.iastore, 1) := by decide +kernel
theorem dX11_goes_83 : decode cX11_goes 83 = .ok (.aload_n 0, 1) := by decide +kernel
theorem dX11_goes_84 : decode cX11_goes 84 = .ok (.dup, 1) := by decide +kernel
theorem dX11_goes_85 : decode cX11_goes 85 = .ok (.getfield 233, 3) := by decide +kernel
theorem dX11_goes_88 : decode cX11_goes 88 = .ok (.iload 4, 2) := by decide +kernel
theorem dX11_goes_90 : decode cX11_goes 90 = .ok (.iadd, 1) := by decide +kernel
theorem dX11_goes_91 : decode cX11_goes 91 = .ok (.putfield 233, 3) := by decide +kernel
theorem dX11_goes_94 : decode cX11_goes 94 = .ok (.aload_n 0, 1) := by decide +kernel
theorem dX11_goes_95 : decode cX11_goes 95 = .ok (.getfield 58, 3) := by decide +kernel
theorem dX11_goes_98 : decode cX11_goes 98 = .ok (.iload_n 3, 1) := by decide +kernel
theorem dX11_goes_99 : decode cX11_goes 99 = .ok (.aload_n 0, 1) := by decide +kernel
theorem dX11_goes_100 : decode cX11_goes 100 = .ok (.getfield 49, 3) := by decide +kernel
theorem dX11_goes_103 : decode cX11_goes 103 = .ok (.iload_n 2, 1) := by decide +kernel
theorem dX11_goes_104 : decode cX11_goes 104 = .ok (.iaload, 1) := by decide +kernel
theorem dX11_goes_105 : decode cX11_goes 105 = .ok (.iastore, 1) := by decide +kernel
theorem dX11_goes_106 : decode cX11_goes 106 = .ok (.iinc 2 1, 3) := by decide +kernel
theorem dX11_goes_109 : decode cX11_goes 109 = .ok (.goto (-107), 3) := by decide +kernel
theorem dX11_goes_112 : decode cX11_goes 112 = .ok (.return_, 1) := by decide +kernel
theorem dX11_nextIn_0 : decode cX11_nextIn 0 = .ok (.iconst (-1), 1) := by decide +kernel
theorem dX11_nextIn_1 : decode cX11_nextIn 1 = .ok (.istore_n 2, 1) := by decide +kernel
theorem dX11_nextIn_2 : decode cX11_nextIn 2 = .ok (.iconst 0, 1) := by decide +kernel
theorem dX11_nextIn_3 : decode cX11_nextIn 3 = .ok (.istore_n 3, 1) := by decide +kernel
theorem dX11_nextIn_4 : decode cX11_nextIn 4 = .ok (.iload_n 3, 1) := by decide +kernel
theorem dX11_nextIn_5 : decode cX11_nextIn 5 = .ok (.aload_n 0, 1) := by decide +kernel
theorem dX11_nextIn_6 : decode cX11_nextIn 6 = .ok (.getfield 152, 3) := by decide +kernel
theorem dX11_nextIn_9 : decode cX11_nextIn 9 = .ok (.if_icmp .ge 74, 3) := by decide +kernel
theorem dX11_nextIn_12 : decode cX11_nextIn 12 = .ok (.aload_n 0, 1) := by decide +kernel
theorem dX11_nextIn_13 : decode cX11_nextIn 13 = .ok (.iload_n 3, 1) := by decide +kernel
theorem dX11_nextIn_14 : decode cX11_nextIn 14 = .ok (.invokevirtual 227, 3) := by decide +kernel
theorem dX11_nextIn_17 : decode cX11_nextIn 17 = .ok (.ifCond .eq 26, 3) := by decide +kernel
theorem dX11_nextIn_20 : decode cX11_nextIn 20 = .ok (.aload_n 0, 1) := by decide +kernel
theorem dX11_nextIn_21 : decode cX11_nextIn 21 = .ok (.getfield 58, 3) := by decide +kernel
theorem dX11_nextIn_24 : decode cX11_nextIn 24 = .ok (.iload_n 3, 1) := by decide +kernel
theorem dX11_nextIn_25 : decode cX11_nextIn 25 = .ok (.iaload, 1) := by decide +kernel
theorem dX11_nextIn_26 : decode cX11_nextIn 26 = .ok (.iload_n 1, 1) := by decide +kernel
theorem dX11_nextIn_27 : decode cX11_nextIn 27 = .ok (.if_icmp .ne 16, 3) := by decide +kernel
theorem dX11_nextIn_30 : decode cX11_nextIn 30 = .ok (.aload_n 0, 1) := by decide +kernel
theorem dX11_nextIn_31 : decode cX11_nextIn 31 = .ok (.getfield 55, 3) := by decide +kernel
theorem dX11_nextIn_34 : decode cX11_nextIn 34 = .ok (.iload_n 3, 1) := by decide +kernel
theorem dX11_nextIn_35 : decode cX11_nextIn 35 = .ok (.iaload, 1) := by decide +kernel
theorem dX11_nextIn_36 : decode cX11_nextIn 36 = .ok (.ifCond .le 7, 3) := by decide +kernel
theorem dX11_nextIn_39 : decode cX11_nextIn 39 = .ok (.iconst 1, 1) := by decide +kernel
theorem dX11_nextIn_40 : decode cX11_nextIn 40 = .ok (.goto 4, 3) := by decide +kernel
theorem dX11_nextIn_43 : decode cX11_nextIn 43 = .ok (.iconst 0, 1) := by decide +kernel
theorem dX11_nextIn_44 : decode cX11_nextIn 44 = .ok (.istore 4, 2) := by decide +kernel
theorem dX11_nextIn_46 : decode cX11_nextIn 46 = .ok (.iload 4, 2) := by decide +kernel
theorem dX11_nextIn_48 : decode cX11_nextIn 48 = .ok (.ifCond .eq 27, 3) := by decide +kernel
theorem dX11_nextIn_51 : decode cX11_nextIn 51 = .ok (.iload_n 2, 1) := by decide +kernel
theorem dX11_nextIn_52 : decode cX11_nextIn 52 = .ok (.iconst (-1), 1) := by decide +kernel
theorem dX11_nextIn_53 : decode cX11_nextIn 53 = .ok (.if_icmp .eq 18, 3) := by decide +kernel
theorem dX11_nextIn_56 : decode cX11_nextIn 56 = .ok (.aload_n 0, 1) := by decide +kernel
theorem dX11_nextIn_57 : decode cX11_nextIn 57 = .ok (.getfield 55, 3) := by decide +kernel
theorem dX11_nextIn_60 : decode cX11_nextIn 60 = .ok (.iload_n 3, 1) := by decide +kernel
theorem dX11_nextIn_61 : decode cX11_nextIn 61 = .ok (.iaload, 1) := by decide +kernel
theorem dX11_nextIn_62 : decode cX11_nextIn 62 = .ok (.aload_n 0, 1) := by decide +kernel
theorem dX11_nextIn_63 : decode cX11_nextIn 63 = .ok (.getfield 55, 3) := by decide +kernel
theorem dX11_nextIn_66 : decode cX11_nextIn 66 = .ok (.iload_n 2, 1) := by decide +kernel
theorem dX11_nextIn_67 : decode cX11_nextIn 67 = .ok (.iaload, 1) := by decide +kernel
theorem dX11_nextIn_68 : decode cX11_nextIn 68 = .ok (.if_icmp .le 7, 3) := by decide +kernel
theorem dX11_nextIn_71 : decode cX11_nextIn 71 = .ok (.iload_n 3, 1) := by decide +kernel
theorem dX11_nextIn_72 : decode cX11_nextIn 72 = .ok (.goto 4, 3) := by decide +kernel
theorem dX11_nextIn_75 : decode cX11_nextIn 75 = .ok (.iload_n 2, 1) := by decide +kernel
theorem dX11_nextIn_76 : decode cX11_nextIn 76 = .ok (.istore_n 2, 1) := by decide +kernel
theorem dX11_nextIn_77 : decode cX11_nextIn 77 = .ok (.iinc 3 1, 3) := by decide +kernel
theorem dX11_nextIn_80 : decode cX11_nextIn 80 = .ok (.goto (-76), 3) := by decide +kernel
theorem dX11_nextIn_83 : decode cX11_nextIn 83 = .ok (.iload_n 2, 1) := by decide +kernel
theorem dX11_nextIn_84 : decode cX11_nextIn 84 = .ok (.ireturn, 1) := by decide +kernel
theorem dX11_shears_0 : decode cX11_shears 0 = .ok (.aload_n 0, 1) := by decide +kernel
theorem dX11_shears_1 : decode cX11_shears 1 = .ok (.getfield 58, 3) := by decide +kernel
theorem dX11_shears_4 : decode cX11_shears 4 = .ok (.iload_n 1, 1) := by decide +kernel
theorem dX11_shears_5 : decode cX11_shears 5 = .ok (.iaload, 1) := by decide +kernel
theorem dX11_shears_6 : decode cX11_shears 6 = .ok (.istore_n 3, 1) := by decide +kernel
theorem dX11_shears_7 : decode cX11_shears 7 = .ok (.aload_n 0, 1) := by decide +kernel
theorem dX11_shears_8 : decode cX11_shears 8 = .ok (.getfield 70, 3) := by decide +kernel
theorem dX11_shears_11 : decode cX11_shears 11 = .ok (.iload_n 3, 1) := by decide +kernel
theorem dX11_shears_12 : decode cX11_shears 12 = .ok (.dup2, 1) := by decide +kernel
theorem dX11_shears_13 : decode cX11_shears 13 = .ok (.iaload, 1) := by decide +kernel
theorem dX11_shears_14 : decode cX11_shears 14 = .ok (.aload_n 0, 1) := by decide +kernel
theorem dX11_shears_15 : decode cX11_shears 15 = .ok (.getfield 55, 3) := by decide +kernel
theorem dX11_shears_18 : decode cX11_shears 18 = .ok (.iload_n 1, 1) := by decide +kernel
theorem dX11_shears_19 : decode cX11_shears 19 = .ok (.iaload, 1) := by decide +kernel
theorem dX11_shears_20 : decode cX11_shears 20 = .ok (.iadd, 1) := by decide +kernel
theorem dX11_shears_21 : decode cX11_shears 21 = .ok (.iastore, 1) := by decide +kernel
theorem dX11_shears_22 : decode cX11_shears 22 = .ok (.aload_n 0, 1) := by decide +kernel
theorem dX11_shears_23 : decode cX11_shears 23 = .ok (.getfield 73, 3) := by decide +kernel
theorem dX11_shears_26 : decode cX11_shears 26 = .ok (.iload_n 3, 1) := by decide +kernel
theorem dX11_shears_27 : decode cX11_shears 27 = .ok (.dup2, 1) := by decide +kernel
theorem dX11_shears_28 : decode cX11_shears 28 = .ok (.iaload, 1) := by decide +kernel
theorem dX11_shears_29 : decode cX11_shears 29 = .ok (.aload_n 0, 1) := by decide +kernel
theorem dX11_shears_30 : decode cX11_shears 30 = .ok (.getfield 55, 3) := by decide +kernel
theorem dX11_shears_33 : decode cX11_shears 33 = .ok (.iload_n 1, 1) := by decide +kernel
theorem dX11_shears_34 : decode cX11_shears 34 = .ok (.iaload, 1) := by decide +kernel
theorem dX11_shears_35 : decode cX11_shears 35 = .ok (.aload_n 0, 1) := by decide +kernel
theorem dX11_shears_36 : decode cX11_shears 36 = .ok (.getfield 16, 3) := by decide +kernel
theorem dX11_shears_39 : decode cX11_shears 39 = .ok (.iload_n 1, 1) := by decide +kernel
theorem dX11_shears_40 : decode cX11_shears 40 = .ok (.iaload, 1) := by decide +kernel
theorem dX11_shears_41 : decode cX11_shears 41 = .ok (.ifCond .ne 7, 3) := by decide +kernel
theorem dX11_shears_44 : decode cX11_shears 44 = .ok (.iconst 3, 1) := by decide +kernel
theorem dX11_shears_45 : decode cX11_shears 45 = .ok (.goto 18, 3) := by decide +kernel
theorem dX11_shears_48 : decode cX11_shears 48 = .ok (.aload_n 0, 1) := by decide +kernel
theorem dX11_shears_49 : decode cX11_shears 49 = .ok (.getfield 16, 3) := by decide +kernel
theorem dX11_shears_52 : decode cX11_shears 52 = .ok (.iload_n 1, 1) := by decide +kernel
theorem dX11_shears_53 : decode cX11_shears 53 = .ok (.iaload, 1) := by decide +kernel
theorem dX11_shears_54 : decode cX11_shears 54 = .ok (.iconst 1, 1) := by decide +kernel
theorem dX11_shears_55 : decode cX11_shears 55 = .ok (.if_icmp .ne 7, 3) := by decide +kernel
theorem dX11_shears_58 : decode cX11_shears 58 = .ok (.iconst 1, 1) := by decide +kernel
theorem dX11_shears_59 : decode cX11_shears 59 = .ok (.goto 4, 3) := by decide +kernel
theorem dX11_shears_62 : decode cX11_shears 62 = .ok (.iconst 2, 1) := by decide +kernel
theorem dX11_shears_63 : decode cX11_shears 63 = .ok (.imul, 1) := by decide +kernel
theorem dX11_shears_64 : decode cX11_shears 64 = .ok (.iadd, 1) := by decide +kernel
theorem dX11_shears_65 : decode cX11_shears 65 = .ok (.iastore, 1) := by decide +kernel
theorem dX11_shears_66 : decode cX11_shears 66 = .ok (.aload_n 0, 1) := by decide +kernel
theorem dX11_shears_67 : decode cX11_shears 67 = .ok (.getfield 64, 3) := by decide +kernel
theorem dX11_shears_70 : decode cX11_shears 70 = .ok (.iload_n 1, 1) := by decide +kernel
theorem dX11_shears_71 : decode cX11_shears 71 = .ok (.dup2, 1) := by decide +kernel
theorem dX11_shears_72 : decode cX11_shears 72 = .ok (.iaload, 1) := by decide +kernel
theorem dX11_shears_73 : decode cX11_shears 73 = .ok (.aload_n 0, 1) := by decide +kernel
theorem dX11_shears_74 : decode cX11_shears 74 = .ok (.getfield 55, 3) := by decide +kernel
theorem dX11_shears_77 : decode cX11_shears 77 = .ok (.iload_n 1, 1) := by decide +kernel
theorem dX11_shears_78 : decode cX11_shears 78 = .ok (.iaload, 1) := by decide +kernel
theorem dX11_shears_79 : decode cX11_shears 79 = .ok (.iadd, 1) := by decide +kernel
theorem dX11_shears_80 : decode cX11_shears 80 = .ok (.iastore, 1) := by decide +kernel
theorem dX11_shears_81 : decode cX11_shears 81 = .ok (.aload_n 0, 1) := by decide +kernel
theorem dX11_shears_82 : decode cX11_shears 82 = .ok (.getfield 61, 3) := by decide +kernel
theorem dX11_shears_85 : decode cX11_shears 85 = .ok (.iload_n 1, 1) := by decide +kernel
theorem dX11_shears_86 : decode cX11_shears 86 = .ok (.dup2, 1) := by decide +kernel
theorem dX11_shears_87 : decode cX11_shears 87 = .ok (.iaload, 1) := by decide +kernel
theorem dX11_shears_88 : decode cX11_shears 88 = .ok (.iconst 1, 1) := by decide +kernel
theorem dX11_shears_89 : decode cX11_shears 89 = .ok (.iadd, 1) := by decide +kernel
theorem dX11_shears_90 : decode cX11_shears 90 = .ok (.iastore, 1) := by decide +kernel
theorem dX11_shears_91 : decode cX11_shears 91 = .ok (.aload_n 0, 1) := by decide +kernel
theorem dX11_shears_92 : decode cX11_shears 92 = .ok (.getfield 67, 3) := by decide +kernel
theorem dX11_shears_95 : decode cX11_shears 95 = .ok (.iload_n 1, 1) := by decide +kernel
theorem dX11_shears_96 : decode cX11_shears 96 = .ok (.aload_n 0, 1) := by decide +kernel
theorem dX11_shears_97 : decode cX11_shears 97 = .ok (.getfield 217, 3) := by decide +kernel
theorem dX11_shears_100 : decode cX11_shears 100 = .ok (.iload_n 2, 1) := by decide +kernel
theorem dX11_shears_101 : decode cX11_shears 101 = .ok (.invokestatic 223, 3) := by decide +kernel
theorem dX11_shears_104 : decode cX11_shears 104 = .ok (.ifCond .eq 20, 3) := by decide +kernel
theorem dX11_shears_107 : decode cX11_shears 107 = .ok (.aload_n 0, 1) := by decide +kernel
theorem dX11_shears_108 : decode cX11_shears 108 = .ok (.getfield 55, 3) := by decide +kernel
theorem dX11_shears_111 : decode cX11_shears 111 = .ok (.iload_n 1, 1) := by decide +kernel
theorem dX11_shears_112 : decode cX11_shears 112 = .ok (.iaload, 1) := by decide +kernel
theorem dX11_shears_113 : decode cX11_shears 113 = .ok (.aload_n 0, 1) := by decide +kernel
theorem dX11_shears_114 : decode cX11_shears 114 = .ok (.getfield 135, 3) := by decide +kernel
theorem dX11_shears_117 : decode cX11_shears 117 = .ok (.if_icmp .lt 7, 3) := by decide +kernel
theorem dX11_shears_120 : decode cX11_shears 120 = .ok (.iload_n 2, 1) := by decide +kernel
theorem dX11_shears_121 : decode cX11_shears 121 = .ok (.goto 4, 3) := by decide +kernel
theorem dX11_shears_124 : decode cX11_shears 124 = .ok (.iconst (-1), 1) := by decide +kernel
theorem dX11_shears_125 : decode cX11_shears 125 = .ok (.iastore, 1) := by decide +kernel
theorem dX11_shears_126 : decode cX11_shears 126 = .ok (.aload_n 0, 1) := by decide +kernel
theorem dX11_shears_127 : decode cX11_shears 127 = .ok (.getfield 55, 3) := by decide +kernel
theorem dX11_shears_130 : decode cX11_shears 130 = .ok (.iload_n 1, 1) := by decide +kernel
theorem dX11_shears_131 : decode cX11_shears 131 = .ok (.iconst 0, 1) := by decide +kernel
theorem dX11_shears_132 : decode cX11_shears 132 = .ok (.iastore, 1) := by decide +kernel
theorem dX11_shears_133 : decode cX11_shears 133 = .ok (.aload_n 0, 1) := by decide +kernel
theorem dX11_shears_134 : decode cX11_shears 134 = .ok (.aload_n 0, 1) := by decide +kernel
theorem dX11_shears_135 : decode cX11_shears 135 = .ok (.getfield 236, 3) := by decide +kernel
theorem dX11_shears_138 : decode cX11_shears 138 = .ok (.iconst (-1), 1) := by decide +kernel
theorem dX11_shears_139 : decode cX11_shears 139 = .ok (.if_icmp .ne 7, 3) := by decide +kernel
theorem dX11_shears_142 : decode cX11_shears 142 = .ok (.iload_n 1, 1) := by decide +kernel
theorem dX11_shears_143 : decode cX11_shears 143 = .ok (.goto 7, 3) := by decide +kernel
theorem dX11_shears_146 : decode cX11_shears 146 = .ok (.aload_n 0, 1) := by decide +kernel
theorem dX11_shears_147 : decode cX11_shears 147 = .ok (.getfield 239, 3) := by decide +kernel
theorem dX11_shears_150 : decode cX11_shears 150 = .ok (.putfield 239, 3) := by decide +kernel
theorem dX11_shears_153 : decode cX11_shears 153 = .ok (.aload_n 0, 1) := by decide +kernel
theorem dX11_shears_154 : decode cX11_shears 154 = .ok (.aload_n 0, 1) := by decide +kernel
theorem dX11_shears_155 : decode cX11_shears 155 = .ok (.getfield 236, 3) := by decide +kernel
theorem dX11_shears_158 : decode cX11_shears 158 = .ok (.iconst (-1), 1) := by decide +kernel
theorem dX11_shears_159 : decode cX11_shears 159 = .ok (.if_icmp .ne 7, 3) := by decide +kernel
theorem dX11_shears_162 : decode cX11_shears 162 = .ok (.iload_n 2, 1) := by decide +kernel
theorem dX11_shears_163 : decode cX11_shears 163 = .ok (.goto 7, 3) := by decide +kernel
theorem dX11_shears_166 : decode cX11_shears 166 = .ok (.aload_n 0, 1) := by decide +kernel
theorem dX11_shears_167 : decode cX11_shears 167 = .ok (.getfield 236, 3) := by decide +kernel
theorem dX11_shears_170 : decode cX11_shears 170 = .ok (.putfield 236, 3) := by decide +kernel
theorem dX11_shears_173 : decode cX11_shears 173 = .ok (.return_, 1) := by decide +kernel
theorem dX11_shearsAll_0 : decode cX11_shearsAll 0 = .ok (.iconst 0, 1) := by decide +kernel
theorem dX11_shearsAll_1 : decode cX11_shearsAll 1 = .ok (.istore_n 2, 1) := by decide +kernel
theorem dX11_shearsAll_2 : decode cX11_shearsAll 2 = .ok (.iload_n 2, 1) := by decide +kernel
theorem dX11_shearsAll_3 : decode cX11_shearsAll 3 = .ok (.aload_n 0, 1) := by decide +kernel
theorem dX11_shearsAll_4 : decode cX11_shearsAll 4 = .ok (.getfield 192, 3) := by decide +kernel
theorem dX11_shearsAll_7 : decode cX11_shearsAll 7 = .ok (.if_icmp .ge 73, 3) := by decide +kernel
theorem dX11_shearsAll_10 : decode cX11_shearsAll 10 = .ok (.aload_n 0, 1) := by decide +kernel
theorem dX11_shearsAll_11 : decode cX11_shearsAll 11 = .ok (.getfield 34, 3) := by decide +kernel
theorem dX11_shearsAll_14 : decode cX11_shearsAll 14 = .ok (.iload_n 2, 1) := by decide +kernel
theorem dX11_shearsAll_15 : decode cX11_shearsAll 15 = .ok (.iaload, 1) := by decide +kernel
theorem dX11_shearsAll_16 : decode cX11_shearsAll 16 = .ok (.iload_n 1, 1) := by decide +kernel
theorem dX11_shearsAll_17 : decode cX11_shearsAll 17 = .ok (.if_icmp .ne 57, 3) := by decide +kernel
theorem dX11_shearsAll_20 : decode cX11_shearsAll 20 = .ok (.aload_n 0, 1) := by decide +kernel
theorem dX11_shearsAll_21 : decode cX11_shearsAll 21 = .ok (.getfield 214, 3) := by decide +kernel
theorem dX11_shearsAll_24 : decode cX11_shearsAll 24 = .ok (.iload_n 2, 1) := by decide +kernel
theorem dX11_shearsAll_25 : decode cX11_shearsAll 25 = .ok (.invokestatic 223, 3) := by decide +kernel
theorem dX11_shearsAll_28 : decode cX11_shearsAll 28 = .ok (.ifCond .ne 46, 3) := by decide +kernel
theorem dX11_shearsAll_31 : decode cX11_shearsAll 31 = .ok (.iconst 0, 1) := by decide +kernel
theorem dX11_shearsAll_32 : decode cX11_shearsAll 32 = .ok (.istore_n 3, 1) := by decide +kernel
theorem dX11_shearsAll_33 : decode cX11_shearsAll 33 = .ok (.iload_n 3, 1) := by decide +kernel
theorem dX11_shearsAll_34 : decode cX11_shearsAll 34 = .ok (.aload_n 0, 1) := by decide +kernel
theorem dX11_shearsAll_35 : decode cX11_shearsAll 35 = .ok (.getfield 40, 3) := by decide +kernel
theorem dX11_shearsAll_38 : decode cX11_shearsAll 38 = .ok (.iload_n 2, 1) := by decide +kernel
theorem dX11_shearsAll_39 : decode cX11_shearsAll 39 = .ok (.iaload, 1) := by decide +kernel
theorem dX11_shearsAll_40 : decode cX11_shearsAll 40 = .ok (.if_icmp .ge 34, 3) := by decide +kernel
theorem dX11_shearsAll_43 : decode cX11_shearsAll 43 = .ok (.aload_n 0, 1) := by decide +kernel
theorem dX11_shearsAll_44 : decode cX11_shearsAll 44 = .ok (.aload_n 0, 1) := by decide +kernel
theorem dX11_shearsAll_45 : decode cX11_shearsAll 45 = .ok (.getfield 37, 3) := by decide +kernel
theorem dX11_shearsAll_48 : decode cX11_shearsAll 48 = .ok (.iload_n 2, 1) := by decide +kernel
theorem dX11_shearsAll_49 : decode cX11_shearsAll 49 = .ok (.iaload, 1) := by decide +kernel
theorem dX11_shearsAll_50 : decode cX11_shearsAll 50 = .ok (.invokevirtual 242, 3) := by decide +kernel
theorem dX11_shearsAll_53 : decode cX11_shearsAll 53 = .ok (.istore 4, 2) := by decide +kernel
theorem dX11_shearsAll_55 : decode cX11_shearsAll 55 = .ok (.iload 4, 2) := by decide +kernel
theorem dX11_shearsAll_57 : decode cX11_shearsAll 57 = .ok (.iconst (-1), 1) := by decide +kernel
theorem dX11_shearsAll_58 : decode cX11_shearsAll 58 = .ok (.if_icmp .eq 10, 3) := by decide +kernel
theorem dX11_shearsAll_61 : decode cX11_shearsAll 61 = .ok (.aload_n 0, 1) := by decide +kernel
theorem dX11_shearsAll_62 : decode cX11_shearsAll 62 = .ok (.iload 4, 2) := by decide +kernel
theorem dX11_shearsAll_64 : decode cX11_shearsAll 64 = .ok (.iload_n 1, 1) := by decide +kernel
theorem dX11_shearsAll_65 : decode cX11_shearsAll 65 = .ok (.invokevirtual 245, 3) := by decide +kernel
theorem dX11_shearsAll_68 : decode cX11_shearsAll 68 = .ok (.iinc 3 1, 3) := by decide +kernel
theorem dX11_shearsAll_71 : decode cX11_shearsAll 71 = .ok (.goto (-38), 3) := by decide +kernel
theorem dX11_shearsAll_74 : decode cX11_shearsAll 74 = .ok (.iinc 2 1, 3) := by decide +kernel
theorem dX11_shearsAll_77 : decode cX11_shearsAll 77 = .ok (.goto (-75), 3) := by decide +kernel
theorem dX11_shearsAll_80 : decode cX11_shearsAll 80 = .ok (.return_, 1) := by decide +kernel
theorem dX11_heaviestNow_0 : decode cX11_heaviestNow 0 = .ok (.iconst (-1), 1) := by decide +kernel
theorem dX11_heaviestNow_1 : decode cX11_heaviestNow 1 = .ok (.istore_n 1, 1) := by decide +kernel
theorem dX11_heaviestNow_2 : decode cX11_heaviestNow 2 = .ok (.iconst 0, 1) := by decide +kernel
theorem dX11_heaviestNow_3 : decode cX11_heaviestNow 3 = .ok (.istore_n 2, 1) := by decide +kernel
theorem dX11_heaviestNow_4 : decode cX11_heaviestNow 4 = .ok (.iload_n 2, 1) := by decide +kernel
theorem dX11_heaviestNow_5 : decode cX11_heaviestNow 5 = .ok (.aload_n 0, 1) := by decide +kernel
theorem dX11_heaviestNow_6 : decode cX11_heaviestNow 6 = .ok (.getfield 152, 3) := by decide +kernel
theorem dX11_heaviestNow_9 : decode cX11_heaviestNow 9 = .ok (.if_icmp .ge 43, 3) := by decide +kernel
theorem dX11_heaviestNow_12 : decode cX11_heaviestNow 12 = .ok (.aload_n 0, 1) := by decide +kernel
theorem dX11_heaviestNow_13 : decode cX11_heaviestNow 13 = .ok (.iload_n 2, 1) := by decide +kernel
theorem dX11_heaviestNow_14 : decode cX11_heaviestNow 14 = .ok (.invokevirtual 227, 3) := by decide +kernel
theorem dX11_heaviestNow_17 : decode cX11_heaviestNow 17 = .ok (.ifCond .eq 27, 3) := by decide +kernel
theorem dX11_heaviestNow_20 : decode cX11_heaviestNow 20 = .ok (.iload_n 1, 1) := by decide +kernel
theorem dX11_heaviestNow_21 : decode cX11_heaviestNow 21 = .ok (.iconst (-1), 1) := by decide +kernel
theorem dX11_heaviestNow_22 : decode cX11_heaviestNow 22 = .ok (.if_icmp .eq 18, 3) := by decide +kernel
theorem dX11_heaviestNow_25 : decode cX11_heaviestNow 25 = .ok (.aload_n 0, 1) := by decide +kernel
theorem dX11_heaviestNow_26 : decode cX11_heaviestNow 26 = .ok (.getfield 55, 3) := by decide +kernel
theorem dX11_heaviestNow_29 : decode cX11_heaviestNow 29 = .ok (.iload_n 2, 1) := by decide +kernel
theorem dX11_heaviestNow_30 : decode cX11_heaviestNow 30 = .ok (.iaload, 1) := by decide +kernel
theorem dX11_heaviestNow_31 : decode cX11_heaviestNow 31 = .ok (.aload_n 0, 1) := by decide +kernel
theorem dX11_heaviestNow_32 : decode cX11_heaviestNow 32 = .ok (.getfield 55, 3) := by decide +kernel
theorem dX11_heaviestNow_35 : decode cX11_heaviestNow 35 = .ok (.iload_n 1, 1) := by decide +kernel
theorem dX11_heaviestNow_36 : decode cX11_heaviestNow 36 = .ok (.iaload, 1) := by decide +kernel
theorem dX11_heaviestNow_37 : decode cX11_heaviestNow 37 = .ok (.if_icmp .le 7, 3) := by decide +kernel
theorem dX11_heaviestNow_40 : decode cX11_heaviestNow 40 = .ok (.iload_n 2, 1) := by decide +kernel
theorem dX11_heaviestNow_41 : decode cX11_heaviestNow 41 = .ok (.goto 4, 3) := by decide +kernel
theorem dX11_heaviestNow_44 : decode cX11_heaviestNow 44 = .ok (.iload_n 1, 1) := by decide +kernel
theorem dX11_heaviestNow_45 : decode cX11_heaviestNow 45 = .ok (.istore_n 1, 1) := by decide +kernel
theorem dX11_heaviestNow_46 : decode cX11_heaviestNow 46 = .ok (.iinc 2 1, 3) := by decide +kernel
theorem dX11_heaviestNow_49 : decode cX11_heaviestNow 49 = .ok (.goto (-45), 3) := by decide +kernel
theorem dX11_heaviestNow_52 : decode cX11_heaviestNow 52 = .ok (.iload_n 1, 1) := by decide +kernel
theorem dX11_heaviestNow_53 : decode cX11_heaviestNow 53 = .ok (.ireturn, 1) := by decide +kernel
theorem dX11_keeps_0 : decode cX11_keeps 0 = .ok (.iconst 0, 1) := by decide +kernel
theorem dX11_keeps_1 : decode cX11_keeps 1 = .ok (.istore_n 2, 1) := by decide +kernel
theorem dX11_keeps_2 : decode cX11_keeps 2 = .ok (.iconst 0, 1) := by decide +kernel
theorem dX11_keeps_3 : decode cX11_keeps 3 = .ok (.istore_n 3, 1) := by decide +kernel
theorem dX11_keeps_4 : decode cX11_keeps 4 = .ok (.iload_n 3, 1) := by decide +kernel
theorem dX11_keeps_5 : decode cX11_keeps 5 = .ok (.aload_n 0, 1) := by decide +kernel
theorem dX11_keeps_6 : decode cX11_keeps 6 = .ok (.getfield 152, 3) := by decide +kernel
theorem dX11_keeps_9 : decode cX11_keeps 9 = .ok (.if_icmp .ge 81, 3) := by decide +kernel
theorem dX11_keeps_12 : decode cX11_keeps 12 = .ok (.aload_n 0, 1) := by decide +kernel
theorem dX11_keeps_13 : decode cX11_keeps 13 = .ok (.getfield 76, 3) := by decide +kernel
theorem dX11_keeps_16 : decode cX11_keeps 16 = .ok (.bipush 8, 2) := by decide +kernel
theorem dX11_keeps_18 : decode cX11_keeps 18 = .ok (.iload_n 1, 1) := by decide +kernel
theorem dX11_keeps_19 : decode cX11_keeps 19 = .ok (.imul, 1) := by decide +kernel
theorem dX11_keeps_20 : decode cX11_keeps 20 = .ok (.iload_n 3, 1) := by decide +kernel
theorem dX11_keeps_21 : decode cX11_keeps 21 = .ok (.iadd, 1) := by decide +kernel
theorem dX11_keeps_22 : decode cX11_keeps 22 = .ok (.aload_n 0, 1) := by decide +kernel
theorem dX11_keeps_23 : decode cX11_keeps 23 = .ok (.getfield 55, 3) := by decide +kernel
theorem dX11_keeps_26 : decode cX11_keeps 26 = .ok (.iload_n 3, 1) := by decide +kernel
theorem dX11_keeps_27 : decode cX11_keeps 27 = .ok (.iaload, 1) := by decide +kernel
theorem dX11_keeps_28 : decode cX11_keeps 28 = .ok (.iastore, 1) := by decide +kernel
theorem dX11_keeps_29 : decode cX11_keeps 29 = .ok (.aload_n 0, 1) := by decide +kernel
theorem dX11_keeps_30 : decode cX11_keeps 30 = .ok (.getfield 79, 3) := by decide +kernel
theorem dX11_keeps_33 : decode cX11_keeps 33 = .ok (.bipush 8, 2) := by decide +kernel
theorem dX11_keeps_35 : decode cX11_keeps 35 = .ok (.iload_n 1, 1) := by decide +kernel
theorem dX11_keeps_36 : decode cX11_keeps 36 = .ok (.imul, 1) := by decide +kernel
theorem dX11_keeps_37 : decode cX11_keeps 37 = .ok (.iload_n 3, 1) := by decide +kernel
theorem dX11_keeps_38 : decode cX11_keeps 38 = .ok (.iadd, 1) := by decide +kernel
theorem dX11_keeps_39 : decode cX11_keeps 39 = .ok (.aload_n 0, 1) := by decide +kernel
theorem dX11_keeps_40 : decode cX11_keeps 40 = .ok (.getfield 58, 3) := by decide +kernel
theorem dX11_keeps_43 : decode cX11_keeps 43 = .ok (.iload_n 3, 1) := by decide +kernel
theorem dX11_keeps_44 : decode cX11_keeps 44 = .ok (.iaload, 1) := by decide +kernel
theorem dX11_keeps_45 : decode cX11_keeps 45 = .ok (.iastore, 1) := by decide +kernel
theorem dX11_keeps_46 : decode cX11_keeps 46 = .ok (.aload_n 0, 1) := by decide +kernel
theorem dX11_keeps_47 : decode cX11_keeps 47 = .ok (.getfield 82, 3) := by decide +kernel
theorem dX11_keeps_50 : decode cX11_keeps 50 = .ok (.bipush 8, 2) := by decide +kernel
theorem dX11_keeps_52 : decode cX11_keeps 52 = .ok (.iload_n 1, 1) := by decide +kernel
theorem dX11_keeps_53 : decode cX11_keeps 53 = .ok (.imul, 1) := by decide +kernel
theorem dX11_keeps_54 : decode cX11_keeps 54 = .ok (.iload_n 3, 1) := by decide +kernel
theorem dX11_keeps_55 : decode cX11_keeps 55 = .ok (.iadd, 1) := by decide +kernel
theorem dX11_keeps_56 : decode cX11_keeps 56 = .ok (.aload_n 0, 1) := by decide +kernel
theorem dX11_keeps_57 : decode cX11_keeps 57 = .ok (.getfield 61, 3) := by decide +kernel
theorem dX11_keeps_60 : decode cX11_keeps 60 = .ok (.iload_n 3, 1) := by decide +kernel
theorem dX11_keeps_61 : decode cX11_keeps 61 = .ok (.iaload, 1) := by decide +kernel
theorem dX11_keeps_62 : decode cX11_keeps 62 = .ok (.iastore, 1) := by decide +kernel
theorem dX11_keeps_63 : decode cX11_keeps 63 = .ok (.iload_n 2, 1) := by decide +kernel
theorem dX11_keeps_64 : decode cX11_keeps 64 = .ok (.aload_n 0, 1) := by decide +kernel
theorem dX11_keeps_65 : decode cX11_keeps 65 = .ok (.iload_n 3, 1) := by decide +kernel
theorem dX11_keeps_66 : decode cX11_keeps 66 = .ok (.invokevirtual 227, 3) := by decide +kernel
theorem dX11_keeps_69 : decode cX11_keeps 69 = .ok (.ifCond .eq 12, 3) := by decide +kernel
theorem dX11_keeps_72 : decode cX11_keeps 72 = .ok (.aload_n 0, 1) := by decide +kernel
theorem dX11_keeps_73 : decode cX11_keeps 73 = .ok (.getfield 55, 3) := by decide +kernel
theorem dX11_keeps_76 : decode cX11_keeps 76 = .ok (.iload_n 3, 1) := by decide +kernel
theorem dX11_keeps_77 : decode cX11_keeps 77 = .ok (.iaload, 1) := by decide +kernel
theorem dX11_keeps_78 : decode cX11_keeps 78 = .ok (.goto 4, 3) := by decide +kernel
theorem dX11_keeps_81 : decode cX11_keeps 81 = .ok (.iconst 0, 1) := by decide +kernel
theorem dX11_keeps_82 : decode cX11_keeps 82 = .ok (.iadd, 1) := by decide +kernel
theorem dX11_keeps_83 : decode cX11_keeps 83 = .ok (.istore_n 2, 1) := by decide +kernel
theorem dX11_keeps_84 : decode cX11_keeps 84 = .ok (.iinc 3 1, 3) := by decide +kernel
theorem dX11_keeps_87 : decode cX11_keeps 87 = .ok (.goto (-83), 3) := by decide +kernel
theorem dX11_keeps_90 : decode cX11_keeps 90 = .ok (.iconst 0, 1) := by decide +kernel
theorem dX11_keeps_91 : decode cX11_keeps 91 = .ok (.istore_n 3, 1) := by decide +kernel
theorem dX11_keeps_92 : decode cX11_keeps 92 = .ok (.iload_n 3, 1) := by decide +kernel
theorem dX11_keeps_93 : decode cX11_keeps 93 = .ok (.iconst 4, 1) := by decide +kernel
theorem dX11_keeps_94 : decode cX11_keeps 94 = .ok (.if_icmp .ge 41, 3) := by decide +kernel
theorem dX11_keeps_97 : decode cX11_keeps 97 = .ok (.aload_n 0, 1) := by decide +kernel
theorem dX11_keeps_98 : decode cX11_keeps 98 = .ok (.getfield 91, 3) := by decide +kernel
theorem dX11_keeps_101 : decode cX11_keeps 101 = .ok (.iconst 4, 1) := by decide +kernel
theorem dX11_keeps_102 : decode cX11_keeps 102 = .ok (.iload_n 1, 1) := by decide +kernel
theorem dX11_keeps_103 : decode cX11_keeps 103 = .ok (.imul, 1) := by decide +kernel
theorem dX11_keeps_104 : decode cX11_keeps 104 = .ok (.iload_n 3, 1) := by decide +kernel
theorem dX11_keeps_105 : decode cX11_keeps 105 = .ok (.iadd, 1) := by decide +kernel
theorem dX11_keeps_106 : decode cX11_keeps 106 = .ok (.aload_n 0, 1) := by decide +kernel
theorem dX11_keeps_107 : decode cX11_keeps 107 = .ok (.getfield 70, 3) := by decide +kernel
theorem dX11_keeps_110 : decode cX11_keeps 110 = .ok (.iload_n 3, 1) := by decide +kernel
theorem dX11_keeps_111 : decode cX11_keeps 111 = .ok (.iaload, 1) := by decide +kernel
theorem dX11_keeps_112 : decode cX11_keeps 112 = .ok (.iastore, 1) := by decide +kernel
theorem dX11_keeps_113 : decode cX11_keeps 113 = .ok (.aload_n 0, 1) := by decide +kernel
theorem dX11_keeps_114 : decode cX11_keeps 114 = .ok (.getfield 94, 3) := by decide +kernel
theorem dX11_keeps_117 : decode cX11_keeps 117 = .ok (.iconst 4, 1) := by decide +kernel
theorem dX11_keeps_118 : decode cX11_keeps 118 = .ok (.iload_n 1, 1) := by decide +kernel
theorem dX11_keeps_119 : decode cX11_keeps 119 = .ok (.imul, 1) := by decide +kernel
theorem dX11_keeps_120 : decode cX11_keeps 120 = .ok (.iload_n 3, 1) := by decide +kernel
theorem dX11_keeps_121 : decode cX11_keeps 121 = .ok (.iadd, 1) := by decide +kernel
theorem dX11_keeps_122 : decode cX11_keeps 122 = .ok (.aload_n 0, 1) := by decide +kernel
theorem dX11_keeps_123 : decode cX11_keeps 123 = .ok (.getfield 73, 3) := by decide +kernel
theorem dX11_keeps_126 : decode cX11_keeps 126 = .ok (.iload_n 3, 1) := by decide +kernel
theorem dX11_keeps_127 : decode cX11_keeps 127 = .ok (.iaload, 1) := by decide +kernel
theorem dX11_keeps_128 : decode cX11_keeps 128 = .ok (.iastore, 1) := by decide +kernel
theorem dX11_keeps_129 : decode cX11_keeps 129 = .ok (.iinc 3 1, 3) := by decide +kernel
theorem dX11_keeps_132 : decode cX11_keeps 132 = .ok (.goto (-40), 3) := by decide +kernel
theorem dX11_keeps_135 : decode cX11_keeps 135 = .ok (.aload_n 0, 1) := by decide +kernel
theorem dX11_keeps_136 : decode cX11_keeps 136 = .ok (.getfield 85, 3) := by decide +kernel
theorem dX11_keeps_139 : decode cX11_keeps 139 = .ok (.iload_n 1, 1) := by decide +kernel
theorem dX11_keeps_140 : decode cX11_keeps 140 = .ok (.aload_n 0, 1) := by decide +kernel
theorem dX11_keeps_141 : decode cX11_keeps 141 = .ok (.getfield 233, 3) := by decide +kernel
theorem dX11_keeps_144 : decode cX11_keeps 144 = .ok (.iastore, 1) := by decide +kernel
theorem dX11_keeps_145 : decode cX11_keeps 145 = .ok (.aload_n 0, 1) := by decide +kernel
theorem dX11_keeps_146 : decode cX11_keeps 146 = .ok (.getfield 88, 3) := by decide +kernel
theorem dX11_keeps_149 : decode cX11_keeps 149 = .ok (.iload_n 1, 1) := by decide +kernel
theorem dX11_keeps_150 : decode cX11_keeps 150 = .ok (.aload_n 0, 1) := by decide +kernel
theorem dX11_keeps_151 : decode cX11_keeps 151 = .ok (.invokevirtual 249, 3) := by decide +kernel
theorem dX11_keeps_154 : decode cX11_keeps 154 = .ok (.iastore, 1) := by decide +kernel
theorem dX11_keeps_155 : decode cX11_keeps 155 = .ok (.aload_n 0, 1) := by decide +kernel
theorem dX11_keeps_156 : decode cX11_keeps 156 = .ok (.getfield 97, 3) := by decide +kernel
theorem dX11_keeps_159 : decode cX11_keeps 159 = .ok (.iconst 0, 1) := by decide +kernel
theorem dX11_keeps_160 : decode cX11_keeps 160 = .ok (.iload_n 1, 1) := by decide +kernel
theorem dX11_keeps_161 : decode cX11_keeps 161 = .ok (.bipush 11, 2) := by decide +kernel
theorem dX11_keeps_163 : decode cX11_keeps 163 = .ok (.if_icmp .ne 7, 3) := by decide +kernel
theorem dX11_keeps_166 : decode cX11_keeps 166 = .ok (.iload_n 2, 1) := by decide +kernel
theorem dX11_keeps_167 : decode cX11_keeps 167 = .ok (.goto 9, 3) := by decide +kernel
theorem dX11_keeps_170 : decode cX11_keeps 170 = .ok (.aload_n 0, 1) := by decide +kernel
theorem dX11_keeps_171 : decode cX11_keeps 171 = .ok (.getfield 97, 3) := by decide +kernel
theorem dX11_keeps_174 : decode cX11_keeps 174 = .ok (.iconst 0, 1) := by decide +kernel
theorem dX11_keeps_175 : decode cX11_keeps 175 = .ok (.iaload, 1) := by decide +kernel
theorem dX11_keeps_176 : decode cX11_keeps 176 = .ok (.iastore, 1) := by decide +kernel
theorem dX11_keeps_177 : decode cX11_keeps 177 = .ok (.aload_n 0, 1) := by decide +kernel
theorem dX11_keeps_178 : decode cX11_keeps 178 = .ok (.getfield 97, 3) := by decide +kernel
theorem dX11_keeps_181 : decode cX11_keeps 181 = .ok (.iconst 1, 1) := by decide +kernel
theorem dX11_keeps_182 : decode cX11_keeps 182 = .ok (.iload_n 1, 1) := by decide +kernel
theorem dX11_keeps_183 : decode cX11_keeps 183 = .ok (.bipush 23, 2) := by decide +kernel
theorem dX11_keeps_185 : decode cX11_keeps 185 = .ok (.if_icmp .ne 7, 3) := by decide +kernel
theorem dX11_keeps_188 : decode cX11_keeps 188 = .ok (.iload_n 2, 1) := by decide +kernel
theorem dX11_keeps_189 : decode cX11_keeps 189 = .ok (.goto 9, 3) := by decide +kernel
theorem dX11_keeps_192 : decode cX11_keeps 192 = .ok (.aload_n 0, 1) := by decide +kernel
theorem dX11_keeps_193 : decode cX11_keeps 193 = .ok (.getfield 97, 3) := by decide +kernel
theorem dX11_keeps_196 : decode cX11_keeps 196 = .ok (.iconst 1, 1) := by decide +kernel
theorem dX11_keeps_197 : decode cX11_keeps 197 = .ok (.iaload, 1) := by decide +kernel
theorem dX11_keeps_198 : decode cX11_keeps 198 = .ok (.iastore, 1) := by decide +kernel
theorem dX11_keeps_199 : decode cX11_keeps 199 = .ok (.return_, 1) := by decide +kernel
theorem dX11_runs_0 : decode cX11_runs 0 = .ok (.iconst 0, 1) := by decide +kernel
theorem dX11_runs_1 : decode cX11_runs 1 = .ok (.istore_n 1, 1) := by decide +kernel
theorem dX11_runs_2 : decode cX11_runs 2 = .ok (.iload_n 1, 1) := by decide +kernel
theorem dX11_runs_3 : decode cX11_runs 3 = .ok (.aload_n 0, 1) := by decide +kernel
theorem dX11_runs_4 : decode cX11_runs 4 = .ok (.getfield 152, 3) := by decide +kernel
theorem dX11_runs_7 : decode cX11_runs 7 = .ok (.if_icmp .ge 54, 3) := by decide +kernel
theorem dX11_runs_10 : decode cX11_runs 10 = .ok (.aload_n 0, 1) := by decide +kernel
theorem dX11_runs_11 : decode cX11_runs 11 = .ok (.getfield 55, 3) := by decide +kernel
theorem dX11_runs_14 : decode cX11_runs 14 = .ok (.iload_n 1, 1) := by decide +kernel
theorem dX11_runs_15 : decode cX11_runs 15 = .ok (.aload_n 0, 1) := by decide +kernel
theorem dX11_runs_16 : decode cX11_runs 16 = .ok (.getfield 22, 3) := by decide +kernel
theorem dX11_runs_19 : decode cX11_runs 19 = .ok (.iload_n 1, 1) := by decide +kernel
theorem dX11_runs_20 : decode cX11_runs 20 = .ok (.iaload, 1) := by decide +kernel
theorem dX11_runs_21 : decode cX11_runs 21 = .ok (.iastore, 1) := by decide +kernel
theorem dX11_runs_22 : decode cX11_runs 22 = .ok (.aload_n 0, 1) := by decide +kernel
theorem dX11_runs_23 : decode cX11_runs 23 = .ok (.getfield 58, 3) := by decide +kernel
theorem dX11_runs_26 : decode cX11_runs 26 = .ok (.iload_n 1, 1) := by decide +kernel
theorem dX11_runs_27 : decode cX11_runs 27 = .ok (.aload_n 0, 1) := by decide +kernel
theorem dX11_runs_28 : decode cX11_runs 28 = .ok (.getfield 19, 3) := by decide +kernel
theorem dX11_runs_31 : decode cX11_runs 31 = .ok (.iload_n 1, 1) := by decide +kernel
theorem dX11_runs_32 : decode cX11_runs 32 = .ok (.iaload, 1) := by decide +kernel
theorem dX11_runs_33 : decode cX11_runs 33 = .ok (.iastore, 1) := by decide +kernel
theorem dX11_runs_34 : decode cX11_runs 34 = .ok (.aload_n 0, 1) := by decide +kernel
theorem dX11_runs_35 : decode cX11_runs 35 = .ok (.getfield 61, 3) := by decide +kernel
theorem dX11_runs_38 : decode cX11_runs 38 = .ok (.iload_n 1, 1) := by decide +kernel
theorem dX11_runs_39 : decode cX11_runs 39 = .ok (.iconst 0, 1) := by decide +kernel
theorem dX11_runs_40 : decode cX11_runs 40 = .ok (.iastore, 1) := by decide +kernel
theorem dX11_runs_41 : decode cX11_runs 41 = .ok (.aload_n 0, 1) := by decide +kernel
theorem dX11_runs_42 : decode cX11_runs 42 = .ok (.getfield 64, 3) := by decide +kernel
theorem dX11_runs_45 : decode cX11_runs 45 = .ok (.iload_n 1, 1) := by decide +kernel
theorem dX11_runs_46 : decode cX11_runs 46 = .ok (.iconst 0, 1) := by decide +kernel
theorem dX11_runs_47 : decode cX11_runs 47 = .ok (.iastore, 1) := by decide +kernel
theorem dX11_runs_48 : decode cX11_runs 48 = .ok (.aload_n 0, 1) := by decide +kernel
theorem dX11_runs_49 : decode cX11_runs 49 = .ok (.getfield 67, 3) := by decide +kernel
theorem dX11_runs_52 : decode cX11_runs 52 = .ok (.iload_n 1, 1) := by decide +kernel
theorem dX11_runs_53 : decode cX11_runs 53 = .ok (.iconst (-1), 1) := by decide +kernel
theorem dX11_runs_54 : decode cX11_runs 54 = .ok (.iastore, 1) := by decide +kernel
theorem dX11_runs_55 : decode cX11_runs 55 = .ok (.iinc 1 1, 3) := by decide +kernel
theorem dX11_runs_58 : decode cX11_runs 58 = .ok (.goto (-56), 3) := by decide +kernel
theorem dX11_runs_61 : decode cX11_runs 61 = .ok (.iconst 0, 1) := by decide +kernel
theorem dX11_runs_62 : decode cX11_runs 62 = .ok (.istore_n 1, 1) := by decide +kernel
theorem dX11_runs_63 : decode cX11_runs 63 = .ok (.iload_n 1, 1) := by decide +kernel
theorem dX11_runs_64 : decode cX11_runs 64 = .ok (.iconst 4, 1) := by decide +kernel
theorem dX11_runs_65 : decode cX11_runs 65 = .ok (.if_icmp .ge 23, 3) := by decide +kernel
theorem dX11_runs_68 : decode cX11_runs 68 = .ok (.aload_n 0, 1) := by decide +kernel
theorem dX11_runs_69 : decode cX11_runs 69 = .ok (.getfield 70, 3) := by decide +kernel
theorem dX11_runs_72 : decode cX11_runs 72 = .ok (.iload_n 1, 1) := by decide +kernel
theorem dX11_runs_73 : decode cX11_runs 73 = .ok (.iconst 0, 1) := by decide +kernel
theorem dX11_runs_74 : decode cX11_runs 74 = .ok (.iastore, 1) := by decide +kernel
theorem dX11_runs_75 : decode cX11_runs 75 = .ok (.aload_n 0, 1) := by decide +kernel
theorem dX11_runs_76 : decode cX11_runs 76 = .ok (.getfield 73, 3) := by decide +kernel
theorem dX11_runs_79 : decode cX11_runs 79 = .ok (.iload_n 1, 1) := by decide +kernel
theorem dX11_runs_80 : decode cX11_runs 80 = .ok (.iconst 0, 1) := by decide +kernel
theorem dX11_runs_81 : decode cX11_runs 81 = .ok (.iastore, 1) := by decide +kernel
theorem dX11_runs_82 : decode cX11_runs 82 = .ok (.iinc 1 1, 3) := by decide +kernel
theorem dX11_runs_85 : decode cX11_runs 85 = .ok (.goto (-22), 3) := by decide +kernel
theorem dX11_runs_88 : decode cX11_runs 88 = .ok (.aload_n 0, 1) := by decide +kernel
theorem dX11_runs_89 : decode cX11_runs 89 = .ok (.iconst 0, 1) := by decide +kernel
theorem dX11_runs_90 : decode cX11_runs 90 = .ok (.putfield 233, 3) := by decide +kernel
theorem dX11_runs_93 : decode cX11_runs 93 = .ok (.aload_n 0, 1) := by decide +kernel
theorem dX11_runs_94 : decode cX11_runs 94 = .ok (.iconst (-1), 1) := by decide +kernel
theorem dX11_runs_95 : decode cX11_runs 95 = .ok (.putfield 236, 3) := by decide +kernel
theorem dX11_runs_98 : decode cX11_runs 98 = .ok (.aload_n 0, 1) := by decide +kernel
theorem dX11_runs_99 : decode cX11_runs 99 = .ok (.iconst (-1), 1) := by decide +kernel
theorem dX11_runs_100 : decode cX11_runs 100 = .ok (.putfield 239, 3) := by decide +kernel
theorem dX11_runs_103 : decode cX11_runs 103 = .ok (.iconst 0, 1) := by decide +kernel
theorem dX11_runs_104 : decode cX11_runs 104 = .ok (.istore_n 1, 1) := by decide +kernel
theorem dX11_runs_105 : decode cX11_runs 105 = .ok (.iload_n 1, 1) := by decide +kernel
theorem dX11_runs_106 : decode cX11_runs 106 = .ok (.bipush 24, 2) := by decide +kernel
theorem dX11_runs_108 : decode cX11_runs 108 = .ok (.if_icmp .ge 29, 3) := by decide +kernel
theorem dX11_runs_111 : decode cX11_runs 111 = .ok (.aload_n 0, 1) := by decide +kernel
theorem dX11_runs_112 : decode cX11_runs 112 = .ok (.iload_n 1, 1) := by decide +kernel
theorem dX11_runs_113 : decode cX11_runs 113 = .ok (.invokevirtual 253, 3) := by decide +kernel
theorem dX11_runs_116 : decode cX11_runs 116 = .ok (.aload_n 0, 1) := by decide +kernel
theorem dX11_runs_117 : decode cX11_runs 117 = .ok (.iload_n 1, 1) := by decide +kernel
theorem dX11_runs_118 : decode cX11_runs 118 = .ok (.invokevirtual 257, 3) := by decide +kernel
theorem dX11_runs_121 : decode cX11_runs 121 = .ok (.aload_n 0, 1) := by decide +kernel
theorem dX11_runs_122 : decode cX11_runs 122 = .ok (.iload_n 1, 1) := by decide +kernel
theorem dX11_runs_123 : decode cX11_runs 123 = .ok (.invokevirtual 260, 3) := by decide +kernel
theorem dX11_runs_126 : decode cX11_runs 126 = .ok (.aload_n 0, 1) := by decide +kernel
theorem dX11_runs_127 : decode cX11_runs 127 = .ok (.iload_n 1, 1) := by decide +kernel
theorem dX11_runs_128 : decode cX11_runs 128 = .ok (.invokevirtual 263, 3) := by decide +kernel
theorem dX11_runs_131 : decode cX11_runs 131 = .ok (.iinc 1 1, 3) := by decide +kernel
theorem dX11_runs_134 : decode cX11_runs 134 = .ok (.goto (-29), 3) := by decide +kernel
theorem dX11_runs_137 : decode cX11_runs 137 = .ok (.return_, 1) := by decide +kernel
theorem dX11_runsTold_0 : decode cX11_runsTold 0 = .ok (.aload_n 0, 1) := by decide +kernel
theorem dX11_runsTold_1 : decode cX11_runsTold 1 = .ok (.invokevirtual 266, 3) := by decide +kernel
theorem dX11_runsTold_4 : decode cX11_runsTold 4 = .ok (.aload_n 0, 1) := by decide +kernel
theorem dX11_runsTold_5 : decode cX11_runsTold 5 = .ok (.invokevirtual 269, 3) := by decide +kernel
theorem dX11_runsTold_8 : decode cX11_runsTold 8 = .ok (.return_, 1) := by decide +kernel
theorem dX11_woolOf_0 : decode cX11_woolOf 0 = .ok (.aload_n 0, 1) := by decide +kernel
theorem dX11_woolOf_1 : decode cX11_woolOf 1 = .ok (.invokevirtual 272, 3) := by decide +kernel
theorem dX11_woolOf_4 : decode cX11_woolOf 4 = .ok (.iload_n 3, 1) := by decide +kernel
theorem dX11_woolOf_5 : decode cX11_woolOf 5 = .ok (.ifCond .ne 17, 3) := by decide +kernel
theorem dX11_woolOf_8 : decode cX11_woolOf 8 = .ok (.aload_n 0, 1) := by decide +kernel
theorem dX11_woolOf_9 : decode cX11_woolOf 9 = .ok (.getfield 76, 3) := by decide +kernel
theorem dX11_woolOf_12 : decode cX11_woolOf 12 = .ok (.bipush 8, 2) := by decide +kernel
theorem dX11_woolOf_14 : decode cX11_woolOf 14 = .ok (.iload_n 1, 1) := by decide +kernel
theorem dX11_woolOf_15 : decode cX11_woolOf 15 = .ok (.imul, 1) := by decide +kernel
theorem dX11_woolOf_16 : decode cX11_woolOf 16 = .ok (.iload_n 2, 1) := by decide +kernel
theorem dX11_woolOf_17 : decode cX11_woolOf 17 = .ok (.iadd, 1) := by decide +kernel
theorem dX11_woolOf_18 : decode cX11_woolOf 18 = .ok (.iaload, 1) := by decide +kernel
theorem dX11_woolOf_19 : decode cX11_woolOf 19 = .ok (.goto 33, 3) := by decide +kernel
theorem dX11_woolOf_22 : decode cX11_woolOf 22 = .ok (.iload_n 3, 1) := by decide +kernel
theorem dX11_woolOf_23 : decode cX11_woolOf 23 = .ok (.iconst 1, 1) := by decide +kernel
theorem dX11_woolOf_24 : decode cX11_woolOf 24 = .ok (.if_icmp .ne 17, 3) := by decide +kernel
theorem dX11_woolOf_27 : decode cX11_woolOf 27 = .ok (.aload_n 0, 1) := by decide +kernel
theorem dX11_woolOf_28 : decode cX11_woolOf 28 = .ok (.getfield 79, 3) := by decide +kernel
theorem dX11_woolOf_31 : decode cX11_woolOf 31 = .ok (.bipush 8, 2) := by decide +kernel
theorem dX11_woolOf_33 : decode cX11_woolOf 33 = .ok (.iload_n 1, 1) := by decide +kernel
theorem dX11_woolOf_34 : decode cX11_woolOf 34 = .ok (.imul, 1) := by decide +kernel
theorem dX11_woolOf_35 : decode cX11_woolOf 35 = .ok (.iload_n 2, 1) := by decide +kernel
theorem dX11_woolOf_36 : decode cX11_woolOf 36 = .ok (.iadd, 1) := by decide +kernel
theorem dX11_woolOf_37 : decode cX11_woolOf 37 = .ok (.iaload, 1) := by decide +kernel
theorem dX11_woolOf_38 : decode cX11_woolOf 38 = .ok (.goto 14, 3) := by decide +kernel
theorem dX11_woolOf_41 : decode cX11_woolOf 41 = .ok (.aload_n 0, 1) := by decide +kernel
theorem dX11_woolOf_42 : decode cX11_woolOf 42 = .ok (.getfield 82, 3) := by decide +kernel
theorem dX11_woolOf_45 : decode cX11_woolOf 45 = .ok (.bipush 8, 2) := by decide +kernel
theorem dX11_woolOf_47 : decode cX11_woolOf 47 = .ok (.iload_n 1, 1) := by decide +kernel
theorem dX11_woolOf_48 : decode cX11_woolOf 48 = .ok (.imul, 1) := by decide +kernel
theorem dX11_woolOf_49 : decode cX11_woolOf 49 = .ok (.iload_n 2, 1) := by decide +kernel
theorem dX11_woolOf_50 : decode cX11_woolOf 50 = .ok (.iadd, 1) := by decide +kernel
theorem dX11_woolOf_51 : decode cX11_woolOf 51 = .ok (.iaload, 1) := by decide +kernel
theorem dX11_woolOf_52 : decode cX11_woolOf 52 = .ok (.ireturn, 1) := by decide +kernel
theorem dX11_wool_0 : decode cX11_wool 0 = .ok (.iload_n 1, 1) := by decide +kernel
theorem dX11_wool_1 : decode cX11_wool 1 = .ok (.invokestatic 186, 3) := by decide +kernel
theorem dX11_wool_4 : decode cX11_wool 4 = .ok (.ifCond .eq 30, 3) := by decide +kernel
theorem dX11_wool_7 : decode cX11_wool 7 = .ok (.aload_n 0, 1) := by decide +kernel
theorem dX11_wool_8 : decode cX11_wool 8 = .ok (.iload_n 2, 1) := by decide +kernel
theorem dX11_wool_9 : decode cX11_wool 9 = .ok (.invokevirtual 174, 3) := by decide +kernel
theorem dX11_wool_12 : decode cX11_wool 12 = .ok (.ifCond .eq 22, 3) := by decide +kernel
theorem dX11_wool_15 : decode cX11_wool 15 = .ok (.iload_n 3, 1) := by decide +kernel
theorem dX11_wool_16 : decode cX11_wool 16 = .ok (.iconst 0, 1) := by decide +kernel
theorem dX11_wool_17 : decode cX11_wool 17 = .ok (.iconst 2, 1) := by decide +kernel
theorem dX11_wool_18 : decode cX11_wool 18 = .ok (.invokestatic 140, 3) := by decide +kernel
theorem dX11_wool_21 : decode cX11_wool 21 = .ok (.ifCond .eq 13, 3) := by decide +kernel
theorem dX11_wool_24 : decode cX11_wool 24 = .ok (.aload_n 0, 1) := by decide +kernel
theorem dX11_wool_25 : decode cX11_wool 25 = .ok (.iload_n 1, 1) := by decide +kernel
theorem dX11_wool_26 : decode cX11_wool 26 = .ok (.iload_n 2, 1) := by decide +kernel
theorem dX11_wool_27 : decode cX11_wool 27 = .ok (.iload_n 3, 1) := by decide +kernel
theorem dX11_wool_28 : decode cX11_wool 28 = .ok (.invokevirtual 275, 3) := by decide +kernel
theorem dX11_wool_31 : decode cX11_wool 31 = .ok (.goto 5, 3) := by decide +kernel
theorem dX11_wool_34 : decode cX11_wool 34 = .ok (.bipush (-2), 2) := by decide +kernel
theorem dX11_wool_36 : decode cX11_wool 36 = .ok (.ireturn, 1) := by decide +kernel
theorem dX11_diesOf_0 : decode cX11_diesOf 0 = .ok (.aload_n 0, 1) := by decide +kernel
theorem dX11_diesOf_1 : decode cX11_diesOf 1 = .ok (.invokevirtual 272, 3) := by decide +kernel
theorem dX11_diesOf_4 : decode cX11_diesOf 4 = .ok (.aload_n 0, 1) := by decide +kernel
theorem dX11_diesOf_5 : decode cX11_diesOf 5 = .ok (.getfield 67, 3) := by decide +kernel
theorem dX11_diesOf_8 : decode cX11_diesOf 8 = .ok (.iload_n 1, 1) := by decide +kernel
theorem dX11_diesOf_9 : decode cX11_diesOf 9 = .ok (.iaload, 1) := by decide +kernel
theorem dX11_diesOf_10 : decode cX11_diesOf 10 = .ok (.ireturn, 1) := by decide +kernel
theorem dX11_dies_0 : decode cX11_dies 0 = .ok (.aload_n 0, 1) := by decide +kernel
theorem dX11_dies_1 : decode cX11_dies 1 = .ok (.iload_n 1, 1) := by decide +kernel
theorem dX11_dies_2 : decode cX11_dies 2 = .ok (.invokevirtual 174, 3) := by decide +kernel
theorem dX11_dies_5 : decode cX11_dies 5 = .ok (.ifCond .eq 11, 3) := by decide +kernel
theorem dX11_dies_8 : decode cX11_dies 8 = .ok (.aload_n 0, 1) := by decide +kernel
theorem dX11_dies_9 : decode cX11_dies 9 = .ok (.iload_n 1, 1) := by decide +kernel
theorem dX11_dies_10 : decode cX11_dies 10 = .ok (.invokevirtual 278, 3) := by decide +kernel
theorem dX11_dies_13 : decode cX11_dies 13 = .ok (.goto 5, 3) := by decide +kernel
theorem dX11_dies_16 : decode cX11_dies 16 = .ok (.bipush (-2), 2) := by decide +kernel
theorem dX11_dies_18 : decode cX11_dies 18 = .ok (.ireturn, 1) := by decide +kernel
theorem dX11_clothOf_0 : decode cX11_clothOf 0 = .ok (.aload_n 0, 1) := by decide +kernel
theorem dX11_clothOf_1 : decode cX11_clothOf 1 = .ok (.invokevirtual 272, 3) := by decide +kernel
theorem dX11_clothOf_4 : decode cX11_clothOf 4 = .ok (.iload_n 3, 1) := by decide +kernel
theorem dX11_clothOf_5 : decode cX11_clothOf 5 = .ok (.ifCond .ne 16, 3) := by decide +kernel
theorem dX11_clothOf_8 : decode cX11_clothOf 8 = .ok (.aload_n 0, 1) := by decide +kernel
theorem dX11_clothOf_9 : decode cX11_clothOf 9 = .ok (.getfield 91, 3) := by decide +kernel
theorem dX11_clothOf_12 : decode cX11_clothOf 12 = .ok (.iconst 4, 1) := by decide +kernel
theorem dX11_clothOf_13 : decode cX11_clothOf 13 = .ok (.iload_n 1, 1) := by decide +kernel
theorem dX11_clothOf_14 : decode cX11_clothOf 14 = .ok (.imul, 1) := by decide +kernel
theorem dX11_clothOf_15 : decode cX11_clothOf 15 = .ok (.iload_n 2, 1) := by decide +kernel
theorem dX11_clothOf_16 : decode cX11_clothOf 16 = .ok (.iadd, 1) := by decide +kernel
theorem dX11_clothOf_17 : decode cX11_clothOf 17 = .ok (.iaload, 1) := by decide +kernel
theorem dX11_clothOf_18 : decode cX11_clothOf 18 = .ok (.goto 13, 3) := by decide +kernel
theorem dX11_clothOf_21 : decode cX11_clothOf 21 = .ok (.aload_n 0, 1) := by decide +kernel
theorem dX11_clothOf_22 : decode cX11_clothOf 22 = .ok (.getfield 94, 3) := by decide +kernel
theorem dX11_clothOf_25 : decode cX11_clothOf 25 = .ok (.iconst 4, 1) := by decide +kernel
theorem dX11_clothOf_26 : decode cX11_clothOf 26 = .ok (.iload_n 1, 1) := by decide +kernel
theorem dX11_clothOf_27 : decode cX11_clothOf 27 = .ok (.imul, 1) := by decide +kernel
theorem dX11_clothOf_28 : decode cX11_clothOf 28 = .ok (.iload_n 2, 1) := by decide +kernel
theorem dX11_clothOf_29 : decode cX11_clothOf 29 = .ok (.iadd, 1) := by decide +kernel
theorem dX11_clothOf_30 : decode cX11_clothOf 30 = .ok (.iaload, 1) := by decide +kernel
theorem dX11_clothOf_31 : decode cX11_clothOf 31 = .ok (.ireturn, 1) := by decide +kernel
theorem dX11_cloth_0 : decode cX11_cloth 0 = .ok (.iload_n 1, 1) := by decide +kernel
theorem dX11_cloth_1 : decode cX11_cloth 1 = .ok (.invokestatic 186, 3) := by decide +kernel
theorem dX11_cloth_4 : decode cX11_cloth 4 = .ok (.ifCond .eq 29, 3) := by decide +kernel
theorem dX11_cloth_7 : decode cX11_cloth 7 = .ok (.iload_n 2, 1) := by decide +kernel
theorem dX11_cloth_8 : decode cX11_cloth 8 = .ok (.invokestatic 189, 3) := by decide +kernel
theorem dX11_cloth_11 : decode cX11_cloth 11 = .ok (.ifCond .eq 22, 3) := by decide +kernel
theorem dX11_cloth_14 : decode cX11_cloth 14 = .ok (.iload_n 3, 1) := by decide +kernel
theorem dX11_cloth_15 : decode cX11_cloth 15 = .ok (.iconst 0, 1) := by decide +kernel
theorem dX11_cloth_16 : decode cX11_cloth 16 = .ok (.iconst 1, 1) := by decide +kernel
theorem dX11_cloth_17 : decode cX11_cloth 17 = .ok (.invokestatic 140, 3) := by decide +kernel
theorem dX11_cloth_20 : decode cX11_cloth 20 = .ok (.ifCond .eq 13, 3) := by decide +kernel
theorem dX11_cloth_23 : decode cX11_cloth 23 = .ok (.aload_n 0, 1) := by decide +kernel
theorem dX11_cloth_24 : decode cX11_cloth 24 = .ok (.iload_n 1, 1) := by decide +kernel
theorem dX11_cloth_25 : decode cX11_cloth 25 = .ok (.iload_n 2, 1) := by decide +kernel
theorem dX11_cloth_26 : decode cX11_cloth 26 = .ok (.iload_n 3, 1) := by decide +kernel
theorem dX11_cloth_27 : decode cX11_cloth 27 = .ok (.invokevirtual 281, 3) := by decide +kernel
theorem dX11_cloth_30 : decode cX11_cloth 30 = .ok (.goto 5, 3) := by decide +kernel
theorem dX11_cloth_33 : decode cX11_cloth 33 = .ok (.bipush (-2), 2) := by decide +kernel
theorem dX11_cloth_35 : decode cX11_cloth 35 = .ok (.ireturn, 1) := by decide +kernel
theorem dX11_thornOf_0 : decode cX11_thornOf 0 = .ok (.aload_n 0, 1) := by decide +kernel
theorem dX11_thornOf_1 : decode cX11_thornOf 1 = .ok (.invokevirtual 272, 3) := by decide +kernel
theorem dX11_thornOf_4 : decode cX11_thornOf 4 = .ok (.aload_n 0, 1) := by decide +kernel
theorem dX11_thornOf_5 : decode cX11_thornOf 5 = .ok (.getfield 85, 3) := by decide +kernel
theorem dX11_thornOf_8 : decode cX11_thornOf 8 = .ok (.iload_n 1, 1) := by decide +kernel
theorem dX11_thornOf_9 : decode cX11_thornOf 9 = .ok (.iaload, 1) := by decide +kernel
theorem dX11_thornOf_10 : decode cX11_thornOf 10 = .ok (.ireturn, 1) := by decide +kernel
theorem dX11_thorn_0 : decode cX11_thorn 0 = .ok (.iload_n 1, 1) := by decide +kernel
theorem dX11_thorn_1 : decode cX11_thorn 1 = .ok (.invokestatic 186, 3) := by decide +kernel
theorem dX11_thorn_4 : decode cX11_thorn 4 = .ok (.ifCond .eq 11, 3) := by decide +kernel
theorem dX11_thorn_7 : decode cX11_thorn 7 = .ok (.aload_n 0, 1) := by decide +kernel
theorem dX11_thorn_8 : decode cX11_thorn 8 = .ok (.iload_n 1, 1) := by decide +kernel
theorem dX11_thorn_9 : decode cX11_thorn 9 = .ok (.invokevirtual 284, 3) := by decide +kernel
theorem dX11_thorn_12 : decode cX11_thorn 12 = .ok (.goto 5, 3) := by decide +kernel
theorem dX11_thorn_15 : decode cX11_thorn 15 = .ok (.bipush (-2), 2) := by decide +kernel
theorem dX11_thorn_17 : decode cX11_thorn 17 = .ok (.ireturn, 1) := by decide +kernel
theorem dX11_taxOf_0 : decode cX11_taxOf 0 = .ok (.aload_n 0, 1) := by decide +kernel
theorem dX11_taxOf_1 : decode cX11_taxOf 1 = .ok (.invokevirtual 272, 3) := by decide +kernel
theorem dX11_taxOf_4 : decode cX11_taxOf 4 = .ok (.aload_n 0, 1) := by decide +kernel
theorem dX11_taxOf_5 : decode cX11_taxOf 5 = .ok (.getfield 97, 3) := by decide +kernel
theorem dX11_taxOf_8 : decode cX11_taxOf 8 = .ok (.iload_n 1, 1) := by decide +kernel
theorem dX11_taxOf_9 : decode cX11_taxOf 9 = .ok (.iaload, 1) := by decide +kernel
theorem dX11_taxOf_10 : decode cX11_taxOf 10 = .ok (.ireturn, 1) := by decide +kernel
theorem dX11_tax_0 : decode cX11_tax 0 = .ok (.iload_n 1, 1) := by decide +kernel
theorem dX11_tax_1 : decode cX11_tax 1 = .ok (.iconst 0, 1) := by decide +kernel
theorem dX11_tax_2 : decode cX11_tax 2 = .ok (.iconst 1, 1) := by decide +kernel
theorem dX11_tax_3 : decode cX11_tax 3 = .ok (.invokestatic 140, 3) := by decide +kernel
theorem dX11_tax_6 : decode cX11_tax 6 = .ok (.ifCond .eq 11, 3) := by decide +kernel
theorem dX11_tax_9 : decode cX11_tax 9 = .ok (.aload_n 0, 1) := by decide +kernel
theorem dX11_tax_10 : decode cX11_tax 10 = .ok (.iload_n 1, 1) := by decide +kernel
theorem dX11_tax_11 : decode cX11_tax 11 = .ok (.invokevirtual 287, 3) := by decide +kernel
theorem dX11_tax_14 : decode cX11_tax 14 = .ok (.goto 5, 3) := by decide +kernel
theorem dX11_tax_17 : decode cX11_tax 17 = .ok (.bipush (-2), 2) := by decide +kernel
theorem dX11_tax_19 : decode cX11_tax 19 = .ok (.ireturn, 1) := by decide +kernel
theorem dX11_heaviestOf_0 : decode cX11_heaviestOf 0 = .ok (.aload_n 0, 1) := by decide +kernel
theorem dX11_heaviestOf_1 : decode cX11_heaviestOf 1 = .ok (.invokevirtual 272, 3) := by decide +kernel
theorem dX11_heaviestOf_4 : decode cX11_heaviestOf 4 = .ok (.aload_n 0, 1) := by decide +kernel
theorem dX11_heaviestOf_5 : decode cX11_heaviestOf 5 = .ok (.getfield 88, 3) := by decide +kernel
theorem dX11_heaviestOf_8 : decode cX11_heaviestOf 8 = .ok (.iload_n 1, 1) := by decide +kernel
theorem dX11_heaviestOf_9 : decode cX11_heaviestOf 9 = .ok (.iaload, 1) := by decide +kernel
theorem dX11_heaviestOf_10 : decode cX11_heaviestOf 10 = .ok (.ireturn, 1) := by decide +kernel
theorem dX11_heaviest_0 : decode cX11_heaviest 0 = .ok (.iload_n 1, 1) := by decide +kernel
theorem dX11_heaviest_1 : decode cX11_heaviest 1 = .ok (.invokestatic 186, 3) := by decide +kernel
theorem dX11_heaviest_4 : decode cX11_heaviest 4 = .ok (.ifCond .eq 11, 3) := by decide +kernel
theorem dX11_heaviest_7 : decode cX11_heaviest 7 = .ok (.aload_n 0, 1) := by decide +kernel
theorem dX11_heaviest_8 : decode cX11_heaviest 8 = .ok (.iload_n 1, 1) := by decide +kernel
theorem dX11_heaviest_9 : decode cX11_heaviest 9 = .ok (.invokevirtual 290, 3) := by decide +kernel
theorem dX11_heaviest_12 : decode cX11_heaviest 12 = .ok (.goto 5, 3) := by decide +kernel
theorem dX11_heaviest_15 : decode cX11_heaviest 15 = .ok (.bipush (-2), 2) := by decide +kernel
theorem dX11_heaviest_17 : decode cX11_heaviest 17 = .ok (.ireturn, 1) := by decide +kernel
