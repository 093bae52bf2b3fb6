theorem dX10_years_0 : decode cX10_years 0 = .ok (.iload_n 2, 1) := by decide +kernel
theorem dX10_years_1 : decode cX10_years 1 = .ok (.iconst 1, 1) := by decide +kernel
theorem dX10_years_2 : decode cX10_years 2 = .ok (.bipush 10, 2) := by decide +kernel
theorem dX10_years_4 : decode cX10_years 4 = .ok (.invokestatic 90, 3) := by decide +kernel
theorem dX10_years_7 : decode cX10_years 7 = .ok (.ifCond .eq 12, 3) := by decide +kernel
theorem dX10_years_10 : decode cX10_years 10 = .ok (.iload_n 3, 1) := by decide +kernel
theorem dX10_years_11 : decode cX10_years 11 = .ok (.iconst 0, 1) := by decide +kernel
theorem dX10_years_12 : decode cX10_years 12 = .ok (.iconst 1, 1) := by decide +kernel
theorem dX10_years_13 : decode cX10_years 13 = .ok (.invokestatic 90, 3) := by decide +kernel
theorem dX10_years_16 : decode cX10_years 16 = .ok (.ifCond .ne 6, 3) := by decide +kernel
theorem dX10_years_19 : decode cX10_years 19 = .ok (.bipush (-2), 2) := by decide +kernel
theorem dX10_years_21 : decode cX10_years 21 = .ok (.ireturn, 1) := by decide +kernel
theorem dX10_years_22 : decode cX10_years 22 = .ok (.aload_n 0, 1) := by decide +kernel
theorem dX10_years_23 : decode cX10_years 23 = .ok (.getfield 75, 3) := by decide +kernel
theorem dX10_years_26 : decode cX10_years 26 = .ok (.iload_n 1, 1) := by decide +kernel
theorem dX10_years_27 : decode cX10_years 27 = .ok (.iload_n 2, 1) := by decide +kernel
theorem dX10_years_28 : decode cX10_years 28 = .ok (.invokevirtual 260, 3) := by decide +kernel
theorem dX10_years_31 : decode cX10_years 31 = .ok (.aload_n 0, 1) := by decide +kernel
theorem dX10_years_32 : decode cX10_years 32 = .ok (.getfield 52, 3) := by decide +kernel
theorem dX10_years_35 : decode cX10_years 35 = .ok (.getfield 263, 3) := by decide +kernel
theorem dX10_years_38 : decode cX10_years 38 = .ok (.astore 4, 2) := by decide +kernel
theorem dX10_years_40 : decode cX10_years 40 = .ok (.iload_n 3, 1) := by decide +kernel
theorem dX10_years_41 : decode cX10_years 41 = .ok (.ifCond .ne 11, 3) := by decide +kernel
theorem dX10_years_44 : decode cX10_years 44 = .ok (.aload 4, 2) := by decide +kernel
theorem dX10_years_46 : decode cX10_years 46 = .ok (.invokevirtual 264, 3) := by decide +kernel
theorem dX10_years_49 : decode cX10_years 49 = .ok (.goto 18, 3) := by decide +kernel
theorem dX10_years_52 : decode cX10_years 52 = .ok (.aload 4, 2) := by decide +kernel
theorem dX10_years_54 : decode cX10_years 54 = .ok (.bipush 11, 2) := by decide +kernel
theorem dX10_years_56 : decode cX10_years 56 = .ok (.invokevirtual 189, 3) := by decide +kernel
theorem dX10_years_59 : decode cX10_years 59 = .ok (.aload 4, 2) := by decide +kernel
theorem dX10_years_61 : decode cX10_years 61 = .ok (.bipush 23, 2) := by decide +kernel
theorem dX10_years_63 : decode cX10_years 63 = .ok (.invokevirtual 189, 3) := by decide +kernel
theorem dX10_years_66 : decode cX10_years 66 = .ok (.iadd, 1) := by decide +kernel
theorem dX10_years_67 : decode cX10_years 67 = .ok (.ireturn, 1) := by decide +kernel
theorem dX10_sheet_0 : decode cX10_sheet 0 = .ok (.iload_n 1, 1) := by decide +kernel
theorem dX10_sheet_1 : decode cX10_sheet 1 = .ok (.invokestatic 163, 3) := by decide +kernel
theorem dX10_sheet_4 : decode cX10_sheet 4 = .ok (.ifCond .eq 18, 3) := by decide +kernel
theorem dX10_sheet_7 : decode cX10_sheet 7 = .ok (.iload_n 2, 1) := by decide +kernel
theorem dX10_sheet_8 : decode cX10_sheet 8 = .ok (.iconst 0, 1) := by decide +kernel
theorem dX10_sheet_9 : decode cX10_sheet 9 = .ok (.iconst 2, 1) := by decide +kernel
theorem dX10_sheet_10 : decode cX10_sheet 10 = .ok (.invokestatic 90, 3) := by decide +kernel
theorem dX10_sheet_13 : decode cX10_sheet 13 = .ok (.ifCond .eq 9, 3) := by decide +kernel
theorem dX10_sheet_16 : decode cX10_sheet 16 = .ok (.iload_n 3, 1) := by decide +kernel
theorem dX10_sheet_17 : decode cX10_sheet 17 = .ok (.bipush 60, 2) := by decide +kernel
theorem dX10_sheet_19 : decode cX10_sheet 19 = .ok (.if_icmp .le 6, 3) := by decide +kernel
theorem dX10_sheet_22 : decode cX10_sheet 22 = .ok (.bipush (-2), 2) := by decide +kernel
theorem dX10_sheet_24 : decode cX10_sheet 24 = .ok (.ireturn, 1) := by decide +kernel
theorem dX10_sheet_25 : decode cX10_sheet 25 = .ok (.iload_n 3, 1) := by decide +kernel
theorem dX10_sheet_26 : decode cX10_sheet 26 = .ok (.ifCond .ge 14, 3) := by decide +kernel
theorem dX10_sheet_29 : decode cX10_sheet 29 = .ok (.aload_n 0, 1) := by decide +kernel
theorem dX10_sheet_30 : decode cX10_sheet 30 = .ok (.getfield 82, 3) := by decide +kernel
theorem dX10_sheet_33 : decode cX10_sheet 33 = .ok (.iconst 5, 1) := by decide +kernel
theorem dX10_sheet_34 : decode cX10_sheet 34 = .ok (.invokevirtual 169, 3) := by decide +kernel
theorem dX10_sheet_37 : decode cX10_sheet 37 = .ok (.goto 13, 3) := by decide +kernel
theorem dX10_sheet_40 : decode cX10_sheet 40 = .ok (.aload_n 0, 1) := by decide +kernel
theorem dX10_sheet_41 : decode cX10_sheet 41 = .ok (.getfield 82, 3) := by decide +kernel
theorem dX10_sheet_44 : decode cX10_sheet 44 = .ok (.iload_n 1, 1) := by decide +kernel
theorem dX10_sheet_45 : decode cX10_sheet 45 = .ok (.iload_n 2, 1) := by decide +kernel
theorem dX10_sheet_46 : decode cX10_sheet 46 = .ok (.iload_n 3, 1) := by decide +kernel
theorem dX10_sheet_47 : decode cX10_sheet 47 = .ok (.invokevirtual 267, 3) := by decide +kernel
theorem dX10_sheet_50 : decode cX10_sheet 50 = .ok (.ireturn, 1) := by decide +kernel
theorem dX10_lose_0 : decode cX10_lose 0 = .ok (.iload_n 1, 1) := by decide +kernel
theorem dX10_lose_1 : decode cX10_lose 1 = .ok (.invokestatic 163, 3) := by decide +kernel
theorem dX10_lose_4 : decode cX10_lose 4 = .ok (.ifCond .ne 6, 3) := by decide +kernel
theorem dX10_lose_7 : decode cX10_lose 7 = .ok (.bipush (-2), 2) := by decide +kernel
theorem dX10_lose_9 : decode cX10_lose 9 = .ok (.ireturn, 1) := by decide +kernel
theorem dX10_lose_10 : decode cX10_lose 10 = .ok (.aload_n 0, 1) := by decide +kernel
theorem dX10_lose_11 : decode cX10_lose 11 = .ok (.getfield 82, 3) := by decide +kernel
theorem dX10_lose_14 : decode cX10_lose 14 = .ok (.iload_n 1, 1) := by decide +kernel
theorem dX10_lose_15 : decode cX10_lose 15 = .ok (.invokevirtual 166, 3) := by decide +kernel
theorem dX10_lose_18 : decode cX10_lose 18 = .ok (.ifCond .eq 14, 3) := by decide +kernel
theorem dX10_lose_21 : decode cX10_lose 21 = .ok (.aload_n 0, 1) := by decide +kernel
theorem dX10_lose_22 : decode cX10_lose 22 = .ok (.getfield 82, 3) := by decide +kernel
theorem dX10_lose_25 : decode cX10_lose 25 = .ok (.iconst 1, 1) := by decide +kernel
theorem dX10_lose_26 : decode cX10_lose 26 = .ok (.invokevirtual 169, 3) := by decide +kernel
theorem dX10_lose_29 : decode cX10_lose 29 = .ok (.goto 11, 3) := by decide +kernel
theorem dX10_lose_32 : decode cX10_lose 32 = .ok (.aload_n 0, 1) := by decide +kernel
theorem dX10_lose_33 : decode cX10_lose 33 = .ok (.getfield 82, 3) := by decide +kernel
theorem dX10_lose_36 : decode cX10_lose 36 = .ok (.iload_n 1, 1) := by decide +kernel
theorem dX10_lose_37 : decode cX10_lose 37 = .ok (.invokevirtual 270, 3) := by decide +kernel
theorem dX10_lose_40 : decode cX10_lose 40 = .ok (.ireturn, 1) := by decide +kernel
theorem dX10_put_0 : decode cX10_put 0 = .ok (.iload_n 1, 1) := by decide +kernel
theorem dX10_put_1 : decode cX10_put 1 = .ok (.invokestatic 163, 3) := by decide +kernel
theorem dX10_put_4 : decode cX10_put 4 = .ok (.ifCond .eq 12, 3) := by decide +kernel
theorem dX10_put_7 : decode cX10_put 7 = .ok (.iload_n 2, 1) := by decide +kernel
theorem dX10_put_8 : decode cX10_put 8 = .ok (.iconst 0, 1) := by decide +kernel
theorem dX10_put_9 : decode cX10_put 9 = .ok (.iconst 2, 1) := by decide +kernel
theorem dX10_put_10 : decode cX10_put 10 = .ok (.invokestatic 90, 3) := by decide +kernel
theorem dX10_put_13 : decode cX10_put 13 = .ok (.ifCond .ne 6, 3) := by decide +kernel
theorem dX10_put_16 : decode cX10_put 16 = .ok (.bipush (-2), 2) := by decide +kernel
theorem dX10_put_18 : decode cX10_put 18 = .ok (.ireturn, 1) := by decide +kernel
theorem dX10_put_19 : decode cX10_put 19 = .ok (.aload_n 0, 1) := by decide +kernel
theorem dX10_put_20 : decode cX10_put 20 = .ok (.getfield 82, 3) := by decide +kernel
theorem dX10_put_23 : decode cX10_put 23 = .ok (.iload_n 1, 1) := by decide +kernel
theorem dX10_put_24 : decode cX10_put 24 = .ok (.iload_n 2, 1) := by decide +kernel
theorem dX10_put_25 : decode cX10_put 25 = .ok (.iload_n 3, 1) := by decide +kernel
theorem dX10_put_26 : decode cX10_put 26 = .ok (.invokevirtual 273, 3) := by decide +kernel
theorem dX10_put_29 : decode cX10_put 29 = .ok (.istore 5, 2) := by decide +kernel
theorem dX10_put_31 : decode cX10_put 31 = .ok (.iload 5, 2) := by decide +kernel
theorem dX10_put_33 : decode cX10_put 33 = .ok (.ifCond .eq 13, 3) := by decide +kernel
theorem dX10_put_36 : decode cX10_put 36 = .ok (.aload_n 0, 1) := by decide +kernel
theorem dX10_put_37 : decode cX10_put 37 = .ok (.getfield 82, 3) := by decide +kernel
theorem dX10_put_40 : decode cX10_put 40 = .ok (.iload 5, 2) := by decide +kernel
theorem dX10_put_42 : decode cX10_put 42 = .ok (.invokevirtual 169, 3) := by decide +kernel
theorem dX10_put_45 : decode cX10_put 45 = .ok (.ireturn, 1) := by decide +kernel
theorem dX10_put_46 : decode cX10_put 46 = .ok (.aload_n 0, 1) := by decide +kernel
theorem dX10_put_47 : decode cX10_put 47 = .ok (.getfield 82, 3) := by decide +kernel
theorem dX10_put_50 : decode cX10_put 50 = .ok (.iload_n 1, 1) := by decide +kernel
theorem dX10_put_51 : decode cX10_put 51 = .ok (.iload_n 3, 1) := by decide +kernel
theorem dX10_put_52 : decode cX10_put 52 = .ok (.iload 4, 2) := by decide +kernel
theorem dX10_put_54 : decode cX10_put 54 = .ok (.invokevirtual 276, 3) := by decide +kernel
theorem dX10_put_57 : decode cX10_put 57 = .ok (.iconst 1, 1) := by decide +kernel
theorem dX10_put_58 : decode cX10_put 58 = .ok (.ireturn, 1) := by decide +kernel
theorem dX10_get_0 : decode cX10_get 0 = .ok (.iload_n 1, 1) := by decide +kernel
theorem dX10_get_1 : decode cX10_get 1 = .ok (.invokestatic 163, 3) := by decide +kernel
theorem dX10_get_4 : decode cX10_get 4 = .ok (.ifCond .eq 12, 3) := by decide +kernel
theorem dX10_get_7 : decode cX10_get 7 = .ok (.iload_n 2, 1) := by decide +kernel
theorem dX10_get_8 : decode cX10_get 8 = .ok (.iconst 0, 1) := by decide +kernel
theorem dX10_get_9 : decode cX10_get 9 = .ok (.iconst 2, 1) := by decide +kernel
theorem dX10_get_10 : decode cX10_get 10 = .ok (.invokestatic 90, 3) := by decide +kernel
theorem dX10_get_13 : decode cX10_get 13 = .ok (.ifCond .ne 7, 3) := by decide +kernel
theorem dX10_get_16 : decode cX10_get 16 = .ok (.ldc_w 282, 3) := by decide +kernel
theorem dX10_get_19 : decode cX10_get 19 = .ok (.ireturn, 1) := by decide +kernel
theorem dX10_get_20 : decode cX10_get 20 = .ok (.aload_n 0, 1) := by decide +kernel
theorem dX10_get_21 : decode cX10_get 21 = .ok (.getfield 82, 3) := by decide +kernel
theorem dX10_get_24 : decode cX10_get 24 = .ok (.iload_n 1, 1) := by decide +kernel
theorem dX10_get_25 : decode cX10_get 25 = .ok (.iload_n 2, 1) := by decide +kernel
theorem dX10_get_26 : decode cX10_get 26 = .ok (.iload_n 3, 1) := by decide +kernel
theorem dX10_get_27 : decode cX10_get 27 = .ok (.invokevirtual 273, 3) := by decide +kernel
theorem dX10_get_30 : decode cX10_get 30 = .ok (.istore 4, 2) := by decide +kernel
theorem dX10_get_32 : decode cX10_get 32 = .ok (.iload 4, 2) := by decide +kernel
theorem dX10_get_34 : decode cX10_get 34 = .ok (.ifCond .eq 17, 3) := by decide +kernel
theorem dX10_get_37 : decode cX10_get 37 = .ok (.aload_n 0, 1) := by decide +kernel
theorem dX10_get_38 : decode cX10_get 38 = .ok (.getfield 82, 3) := by decide +kernel
theorem dX10_get_41 : decode cX10_get 41 = .ok (.iload 4, 2) := by decide +kernel
theorem dX10_get_43 : decode cX10_get 43 = .ok (.invokevirtual 169, 3) := by decide +kernel
theorem dX10_get_46 : decode cX10_get 46 = .ok (.pop, 1) := by decide +kernel
theorem dX10_get_47 : decode cX10_get 47 = .ok (.ldc_w 282, 3) := by decide +kernel
theorem dX10_get_50 : decode cX10_get 50 = .ok (.ireturn, 1) := by decide +kernel
theorem dX10_get_51 : decode cX10_get 51 = .ok (.aload_n 0, 1) := by decide +kernel
theorem dX10_get_52 : decode cX10_get 52 = .ok (.getfield 82, 3) := by decide +kernel
theorem dX10_get_55 : decode cX10_get 55 = .ok (.iload_n 1, 1) := by decide +kernel
theorem dX10_get_56 : decode cX10_get 56 = .ok (.iload_n 3, 1) := by decide +kernel
theorem dX10_get_57 : decode cX10_get 57 = .ok (.invokevirtual 174, 3) := by decide +kernel
theorem dX10_get_60 : decode cX10_get 60 = .ok (.ireturn, 1) := by decide +kernel
theorem dX10_copy_0 : decode cX10_copy 0 = .ok (.iload_n 1, 1) := by decide +kernel
theorem dX10_copy_1 : decode cX10_copy 1 = .ok (.invokestatic 163, 3) := by decide +kernel
theorem dX10_copy_4 : decode cX10_copy 4 = .ok (.ifCond .eq 10, 3) := by decide +kernel
theorem dX10_copy_7 : decode cX10_copy 7 = .ok (.iload_n 3, 1) := by decide +kernel
theorem dX10_copy_8 : decode cX10_copy 8 = .ok (.invokestatic 163, 3) := by decide +kernel
theorem dX10_copy_11 : decode cX10_copy 11 = .ok (.ifCond .ne 6, 3) := by decide +kernel
theorem dX10_copy_14 : decode cX10_copy 14 = .ok (.bipush (-2), 2) := by decide +kernel
theorem dX10_copy_16 : decode cX10_copy 16 = .ok (.ireturn, 1) := by decide +kernel
theorem dX10_copy_17 : decode cX10_copy 17 = .ok (.aload_n 0, 1) := by decide +kernel
theorem dX10_copy_18 : decode cX10_copy 18 = .ok (.getfield 82, 3) := by decide +kernel
theorem dX10_copy_21 : decode cX10_copy 21 = .ok (.iload_n 1, 1) := by decide +kernel
theorem dX10_copy_22 : decode cX10_copy 22 = .ok (.invokevirtual 166, 3) := by decide +kernel
theorem dX10_copy_25 : decode cX10_copy 25 = .ok (.ifCond .ne 14, 3) := by decide +kernel
theorem dX10_copy_28 : decode cX10_copy 28 = .ok (.aload_n 0, 1) := by decide +kernel
theorem dX10_copy_29 : decode cX10_copy 29 = .ok (.getfield 82, 3) := by decide +kernel
theorem dX10_copy_32 : decode cX10_copy 32 = .ok (.iload_n 3, 1) := by decide +kernel
theorem dX10_copy_33 : decode cX10_copy 33 = .ok (.invokevirtual 166, 3) := by decide +kernel
theorem dX10_copy_36 : decode cX10_copy 36 = .ok (.ifCond .eq 12, 3) := by decide +kernel
theorem dX10_copy_39 : decode cX10_copy 39 = .ok (.aload_n 0, 1) := by decide +kernel
theorem dX10_copy_40 : decode cX10_copy 40 = .ok (.getfield 82, 3) := by decide +kernel
theorem dX10_copy_43 : decode cX10_copy 43 = .ok (.iconst 1, 1) := by decide +kernel
theorem dX10_copy_44 : decode cX10_copy 44 = .ok (.invokevirtual 169, 3) := by decide +kernel
theorem dX10_copy_47 : decode cX10_copy 47 = .ok (.ireturn, 1) := by decide +kernel
theorem dX10_copy_48 : decode cX10_copy 48 = .ok (.aload_n 0, 1) := by decide +kernel
theorem dX10_copy_49 : decode cX10_copy 49 = .ok (.getfield 82, 3) := by decide +kernel
theorem dX10_copy_52 : decode cX10_copy 52 = .ok (.iload_n 1, 1) := by decide +kernel
theorem dX10_copy_53 : decode cX10_copy 53 = .ok (.iload_n 3, 1) := by decide +kernel
theorem dX10_copy_54 : decode cX10_copy 54 = .ok (.invokevirtual 283, 3) := by decide +kernel
theorem dX10_copy_57 : decode cX10_copy 57 = .ok (.ifCond .ne 12, 3) := by decide +kernel
theorem dX10_copy_60 : decode cX10_copy 60 = .ok (.aload_n 0, 1) := by decide +kernel
theorem dX10_copy_61 : decode cX10_copy 61 = .ok (.getfield 82, 3) := by decide +kernel
theorem dX10_copy_64 : decode cX10_copy 64 = .ok (.iconst 4, 1) := by decide +kernel
theorem dX10_copy_65 : decode cX10_copy 65 = .ok (.invokevirtual 169, 3) := by decide +kernel
theorem dX10_copy_68 : decode cX10_copy 68 = .ok (.ireturn, 1) := by decide +kernel
theorem dX10_copy_69 : decode cX10_copy 69 = .ok (.aload_n 0, 1) := by decide +kernel
theorem dX10_copy_70 : decode cX10_copy 70 = .ok (.getfield 82, 3) := by decide +kernel
theorem dX10_copy_73 : decode cX10_copy 73 = .ok (.iload_n 1, 1) := by decide +kernel
theorem dX10_copy_74 : decode cX10_copy 74 = .ok (.iload_n 2, 1) := by decide +kernel
theorem dX10_copy_75 : decode cX10_copy 75 = .ok (.iload 5, 2) := by decide +kernel
theorem dX10_copy_77 : decode cX10_copy 77 = .ok (.invokevirtual 287, 3) := by decide +kernel
theorem dX10_copy_80 : decode cX10_copy 80 = .ok (.ifCond .eq 18, 3) := by decide +kernel
theorem dX10_copy_83 : decode cX10_copy 83 = .ok (.aload_n 0, 1) := by decide +kernel
theorem dX10_copy_84 : decode cX10_copy 84 = .ok (.getfield 82, 3) := by decide +kernel
theorem dX10_copy_87 : decode cX10_copy 87 = .ok (.iload_n 3, 1) := by decide +kernel
theorem dX10_copy_88 : decode cX10_copy 88 = .ok (.iload 4, 2) := by decide +kernel
theorem dX10_copy_90 : decode cX10_copy 90 = .ok (.iload 5, 2) := by decide +kernel
theorem dX10_copy_92 : decode cX10_copy 92 = .ok (.invokevirtual 287, 3) := by decide +kernel
theorem dX10_copy_95 : decode cX10_copy 95 = .ok (.ifCond .ne 12, 3) := by decide +kernel
theorem dX10_copy_98 : decode cX10_copy 98 = .ok (.aload_n 0, 1) := by decide +kernel
theorem dX10_copy_99 : decode cX10_copy 99 = .ok (.getfield 82, 3) := by decide +kernel
theorem dX10_copy_102 : decode cX10_copy 102 = .ok (.iconst 2, 1) := by decide +kernel
theorem dX10_copy_103 : decode cX10_copy 103 = .ok (.invokevirtual 169, 3) := by decide +kernel
theorem dX10_copy_106 : decode cX10_copy 106 = .ok (.ireturn, 1) := by decide +kernel
theorem dX10_copy_107 : decode cX10_copy 107 = .ok (.aload_n 0, 1) := by decide +kernel
theorem dX10_copy_108 : decode cX10_copy 108 = .ok (.getfield 82, 3) := by decide +kernel
theorem dX10_copy_111 : decode cX10_copy 111 = .ok (.iload_n 1, 1) := by decide +kernel
theorem dX10_copy_112 : decode cX10_copy 112 = .ok (.iload_n 2, 1) := by decide +kernel
theorem dX10_copy_113 : decode cX10_copy 113 = .ok (.iload_n 3, 1) := by decide +kernel
theorem dX10_copy_114 : decode cX10_copy 114 = .ok (.iload 4, 2) := by decide +kernel
theorem dX10_copy_116 : decode cX10_copy 116 = .ok (.iload 5, 2) := by decide +kernel
theorem dX10_copy_118 : decode cX10_copy 118 = .ok (.invokevirtual 290, 3) := by decide +kernel
theorem dX10_copy_121 : decode cX10_copy 121 = .ok (.iconst 1, 1) := by decide +kernel
theorem dX10_copy_122 : decode cX10_copy 122 = .ok (.ireturn, 1) := by decide +kernel
theorem dX10_write_0 : decode cX10_write 0 = .ok (.aload_n 0, 1) := by decide +kernel
theorem dX10_write_1 : decode cX10_write 1 = .ok (.iload_n 1, 1) := by decide +kernel
theorem dX10_write_2 : decode cX10_write 2 = .ok (.invokevirtual 113, 3) := by decide +kernel
theorem dX10_write_5 : decode cX10_write 5 = .ok (.ifCond .eq 10, 3) := by decide +kernel
theorem dX10_write_8 : decode cX10_write 8 = .ok (.iload_n 2, 1) := by decide +kernel
theorem dX10_write_9 : decode cX10_write 9 = .ok (.invokestatic 163, 3) := by decide +kernel
theorem dX10_write_12 : decode cX10_write 12 = .ok (.ifCond .ne 6, 3) := by decide +kernel
theorem dX10_write_15 : decode cX10_write 15 = .ok (.bipush (-2), 2) := by decide +kernel
theorem dX10_write_17 : decode cX10_write 17 = .ok (.ireturn, 1) := by decide +kernel
theorem dX10_write_18 : decode cX10_write 18 = .ok (.aload_n 0, 1) := by decide +kernel
theorem dX10_write_19 : decode cX10_write 19 = .ok (.getfield 82, 3) := by decide +kernel
theorem dX10_write_22 : decode cX10_write 22 = .ok (.iload_n 2, 1) := by decide +kernel
theorem dX10_write_23 : decode cX10_write 23 = .ok (.invokevirtual 166, 3) := by decide +kernel
theorem dX10_write_26 : decode cX10_write 26 = .ok (.ifCond .eq 12, 3) := by decide +kernel
theorem dX10_write_29 : decode cX10_write 29 = .ok (.aload_n 0, 1) := by decide +kernel
theorem dX10_write_30 : decode cX10_write 30 = .ok (.getfield 82, 3) := by decide +kernel
theorem dX10_write_33 : decode cX10_write 33 = .ok (.iconst 1, 1) := by decide +kernel
theorem dX10_write_34 : decode cX10_write 34 = .ok (.invokevirtual 169, 3) := by decide +kernel
theorem dX10_write_37 : decode cX10_write 37 = .ok (.ireturn, 1) := by decide +kernel
theorem dX10_write_38 : decode cX10_write 38 = .ok (.aload_n 0, 1) := by decide +kernel
theorem dX10_write_39 : decode cX10_write 39 = .ok (.invokevirtual 180, 3) := by decide +kernel
theorem dX10_write_42 : decode cX10_write 42 = .ok (.aload_n 0, 1) := by decide +kernel
theorem dX10_write_43 : decode cX10_write 43 = .ok (.getfield 82, 3) := by decide +kernel
theorem dX10_write_46 : decode cX10_write 46 = .ok (.iload_n 2, 1) := by decide +kernel
theorem dX10_write_47 : decode cX10_write 47 = .ok (.invokevirtual 172, 3) := by decide +kernel
theorem dX10_write_50 : decode cX10_write 50 = .ok (.bipush 24, 2) := by decide +kernel
theorem dX10_write_52 : decode cX10_write 52 = .ok (.invokestatic 294, 3) := by decide +kernel
theorem dX10_write_55 : decode cX10_write 55 = .ok (.istore_n 3, 1) := by decide +kernel
theorem dX10_write_56 : decode cX10_write 56 = .ok (.iconst 0, 1) := by decide +kernel
theorem dX10_write_57 : decode cX10_write 57 = .ok (.istore 4, 2) := by decide +kernel
theorem dX10_write_59 : decode cX10_write 59 = .ok (.iload 4, 2) := by decide +kernel
theorem dX10_write_61 : decode cX10_write 61 = .ok (.iload_n 3, 1) := by decide +kernel
theorem dX10_write_62 : decode cX10_write 62 = .ok (.if_icmp .ge 31, 3) := by decide +kernel
theorem dX10_write_65 : decode cX10_write 65 = .ok (.aload_n 0, 1) := by decide +kernel
theorem dX10_write_66 : decode cX10_write 66 = .ok (.getfield 82, 3) := by decide +kernel
theorem dX10_write_69 : decode cX10_write 69 = .ok (.iload_n 2, 1) := by decide +kernel
theorem dX10_write_70 : decode cX10_write 70 = .ok (.iload 4, 2) := by decide +kernel
theorem dX10_write_72 : decode cX10_write 72 = .ok (.aload_n 0, 1) := by decide +kernel
theorem dX10_write_73 : decode cX10_write 73 = .ok (.getfield 45, 3) := by decide +kernel
theorem dX10_write_76 : decode cX10_write 76 = .ok (.iload 4, 2) := by decide +kernel
theorem dX10_write_78 : decode cX10_write 78 = .ok (.iconst 0, 1) := by decide +kernel
theorem dX10_write_79 : decode cX10_write 79 = .ok (.iload_n 1, 1) := by decide +kernel
theorem dX10_write_80 : decode cX10_write 80 = .ok (.iadd, 1) := by decide +kernel
theorem dX10_write_81 : decode cX10_write 81 = .ok (.invokevirtual 183, 3) := by decide +kernel
theorem dX10_write_84 : decode cX10_write 84 = .ok (.invokevirtual 276, 3) := by decide +kernel
theorem dX10_write_87 : decode cX10_write 87 = .ok (.iinc 4 1, 3) := by decide +kernel
theorem dX10_write_90 : decode cX10_write 90 = .ok (.goto (-31), 3) := by decide +kernel
theorem dX10_write_93 : decode cX10_write 93 = .ok (.iload_n 3, 1) := by decide +kernel
theorem dX10_write_94 : decode cX10_write 94 = .ok (.ireturn, 1) := by decide +kernel
theorem dX10_count_0 : decode cX10_count 0 = .ok (.iload_n 1, 1) := by decide +kernel
theorem dX10_count_1 : decode cX10_count 1 = .ok (.tableswitch 153 0 8 #[51, 62, 73, 81, 89, 100, 122, 134, 145], 51) := by decide +kernel
theorem dX10_count_52 : decode cX10_count 52 = .ok (.aload_n 0, 1) := by decide +kernel
theorem dX10_count_53 : decode cX10_count 53 = .ok (.getfield 36, 3) := by decide +kernel
theorem dX10_count_56 : decode cX10_count 56 = .ok (.getfield 117, 3) := by decide +kernel
theorem dX10_count_59 : decode cX10_count 59 = .ok (.getfield 151, 3) := by decide +kernel
theorem dX10_count_62 : decode cX10_count 62 = .ok (.ireturn, 1) := by decide +kernel
theorem dX10_count_63 : decode cX10_count 63 = .ok (.aload_n 0, 1) := by decide +kernel
theorem dX10_count_64 : decode cX10_count 64 = .ok (.getfield 36, 3) := by decide +kernel
theorem dX10_count_67 : decode cX10_count 67 = .ok (.getfield 130, 3) := by decide +kernel
theorem dX10_count_70 : decode cX10_count 70 = .ok (.getfield 151, 3) := by decide +kernel
theorem dX10_count_73 : decode cX10_count 73 = .ok (.ireturn, 1) := by decide +kernel
theorem dX10_count_74 : decode cX10_count 74 = .ok (.aload_n 0, 1) := by decide +kernel
theorem dX10_count_75 : decode cX10_count 75 = .ok (.getfield 20, 3) := by decide +kernel
theorem dX10_count_78 : decode cX10_count 78 = .ok (.getfield 105, 3) := by decide +kernel
theorem dX10_count_81 : decode cX10_count 81 = .ok (.ireturn, 1) := by decide +kernel
theorem dX10_count_82 : decode cX10_count 82 = .ok (.aload_n 0, 1) := by decide +kernel
theorem dX10_count_83 : decode cX10_count 83 = .ok (.getfield 30, 3) := by decide +kernel
theorem dX10_count_86 : decode cX10_count 86 = .ok (.getfield 105, 3) := by decide +kernel
theorem dX10_count_89 : decode cX10_count 89 = .ok (.ireturn, 1) := by decide +kernel
theorem dX10_count_90 : decode cX10_count 90 = .ok (.aload_n 0, 1) := by decide +kernel
theorem dX10_count_91 : decode cX10_count 91 = .ok (.getfield 36, 3) := by decide +kernel
theorem dX10_count_94 : decode cX10_count 94 = .ok (.getfield 148, 3) := by decide +kernel
theorem dX10_count_97 : decode cX10_count 97 = .ok (.getfield 151, 3) := by decide +kernel
theorem dX10_count_100 : decode cX10_count 100 = .ok (.ireturn, 1) := by decide +kernel
theorem dX10_count_101 : decode cX10_count 101 = .ok (.aload_n 0, 1) := by decide +kernel
theorem dX10_count_102 : decode cX10_count 102 = .ok (.getfield 36, 3) := by decide +kernel
theorem dX10_count_105 : decode cX10_count 105 = .ok (.getfield 157, 3) := by decide +kernel
theorem dX10_count_108 : decode cX10_count 108 = .ok (.getfield 151, 3) := by decide +kernel
theorem dX10_count_111 : decode cX10_count 111 = .ok (.aload_n 0, 1) := by decide +kernel
theorem dX10_count_112 : decode cX10_count 112 = .ok (.getfield 36, 3) := by decide +kernel
theorem dX10_count_115 : decode cX10_count 115 = .ok (.getfield 160, 3) := by decide +kernel
theorem dX10_count_118 : decode cX10_count 118 = .ok (.getfield 151, 3) := by decide +kernel
theorem dX10_count_121 : decode cX10_count 121 = .ok (.iadd, 1) := by decide +kernel
theorem dX10_count_122 : decode cX10_count 122 = .ok (.ireturn, 1) := by decide +kernel
theorem dX10_count_123 : decode cX10_count 123 = .ok (.aload_n 0, 1) := by decide +kernel
theorem dX10_count_124 : decode cX10_count 124 = .ok (.invokevirtual 180, 3) := by decide +kernel
theorem dX10_count_127 : decode cX10_count 127 = .ok (.aload_n 0, 1) := by decide +kernel
theorem dX10_count_128 : decode cX10_count 128 = .ok (.getfield 45, 3) := by decide +kernel
theorem dX10_count_131 : decode cX10_count 131 = .ok (.invokevirtual 299, 3) := by decide +kernel
theorem dX10_count_134 : decode cX10_count 134 = .ok (.ireturn, 1) := by decide +kernel
theorem dX10_count_135 : decode cX10_count 135 = .ok (.aload_n 0, 1) := by decide +kernel
theorem dX10_count_136 : decode cX10_count 136 = .ok (.getfield 68, 3) := by decide +kernel
theorem dX10_count_139 : decode cX10_count 139 = .ok (.getfield 229, 3) := by decide +kernel
theorem dX10_count_142 : decode cX10_count 142 = .ok (.getfield 151, 3) := by decide +kernel
theorem dX10_count_145 : decode cX10_count 145 = .ok (.ireturn, 1) := by decide +kernel
theorem dX10_count_146 : decode cX10_count 146 = .ok (.aload_n 0, 1) := by decide +kernel
theorem dX10_count_147 : decode cX10_count 147 = .ok (.getfield 82, 3) := by decide +kernel
theorem dX10_count_150 : decode cX10_count 150 = .ok (.getfield 302, 3) := by decide +kernel
theorem dX10_count_153 : decode cX10_count 153 = .ok (.ireturn, 1) := by decide +kernel
theorem dX10_count_154 : decode cX10_count 154 = .ok (.bipush (-2), 2) := by decide +kernel
theorem dX10_count_156 : decode cX10_count 156 = .ok (.ireturn, 1) := by decide +kernel
theorem dX10_digest_0 : decode cX10_digest 0 = .ok (.ldc2_w 305, 3) := by decide +kernel
theorem dX10_digest_3 : decode cX10_digest 3 = .ok (.lstore_n 1, 1) := by decide +kernel
theorem dX10_digest_4 : decode cX10_digest 4 = .ok (.iconst 0, 1) := by decide +kernel
theorem dX10_digest_5 : decode cX10_digest 5 = .ok (.istore_n 3, 1) := by decide +kernel
theorem dX10_digest_6 : decode cX10_digest 6 = .ok (.iload_n 3, 1) := by decide +kernel
theorem dX10_digest_7 : decode cX10_digest 7 = .ok (.bipush 7, 2) := by decide +kernel
theorem dX10_digest_9 : decode cX10_digest 9 = .ok (.if_icmp .gt 22, 3) := by decide +kernel
theorem dX10_digest_12 : decode cX10_digest 12 = .ok (.ldc2_w 307, 3) := by decide +kernel
theorem dX10_digest_15 : decode cX10_digest 15 = .ok (.lload_n 1, 1) := by decide +kernel
theorem dX10_digest_16 : decode cX10_digest 16 = .ok (.lmul, 1) := by decide +kernel
theorem dX10_digest_17 : decode cX10_digest 17 = .ok (.aload_n 0, 1) := by decide +kernel
theorem dX10_digest_18 : decode cX10_digest 18 = .ok (.iload_n 3, 1) := by decide +kernel
theorem dX10_digest_19 : decode cX10_digest 19 = .ok (.invokevirtual 309, 3) := by decide +kernel
theorem dX10_digest_22 : decode cX10_digest 22 = .ok (.i2l, 1) := by decide +kernel
theorem dX10_digest_23 : decode cX10_digest 23 = .ok (.ladd, 1) := by decide +kernel
theorem dX10_digest_24 : decode cX10_digest 24 = .ok (.lstore_n 1, 1) := by decide +kernel
theorem dX10_digest_25 : decode cX10_digest 25 = .ok (.iinc 3 1, 3) := by decide +kernel
theorem dX10_digest_28 : decode cX10_digest 28 = .ok (.goto (-22), 3) := by decide +kernel
theorem dX10_digest_31 : decode cX10_digest 31 = .ok (.ldc2_w 307, 3) := by decide +kernel
theorem dX10_digest_34 : decode cX10_digest 34 = .ok (.ldc2_w 307, 3) := by decide +kernel
theorem dX10_digest_37 : decode cX10_digest 37 = .ok (.lload_n 1, 1) := by decide +kernel
theorem dX10_digest_38 : decode cX10_digest 38 = .ok (.lmul, 1) := by decide +kernel
theorem dX10_digest_39 : decode cX10_digest 39 = .ok (.aload_n 0, 1) := by decide +kernel
theorem dX10_digest_40 : decode cX10_digest 40 = .ok (.iconst 0, 1) := by decide +kernel
theorem dX10_digest_41 : decode cX10_digest 41 = .ok (.invokevirtual 311, 3) := by decide +kernel
theorem dX10_digest_44 : decode cX10_digest 44 = .ok (.i2l, 1) := by decide +kernel
theorem dX10_digest_45 : decode cX10_digest 45 = .ok (.ladd, 1) := by decide +kernel
theorem dX10_digest_46 : decode cX10_digest 46 = .ok (.lmul, 1) := by decide +kernel
theorem dX10_digest_47 : decode cX10_digest 47 = .ok (.aload_n 0, 1) := by decide +kernel
theorem dX10_digest_48 : decode cX10_digest 48 = .ok (.iconst 1, 1) := by decide +kernel
theorem dX10_digest_49 : decode cX10_digest 49 = .ok (.invokevirtual 311, 3) := by decide +kernel
theorem dX10_digest_52 : decode cX10_digest 52 = .ok (.i2l, 1) := by decide +kernel
theorem dX10_digest_53 : decode cX10_digest 53 = .ok (.ladd, 1) := by decide +kernel
theorem dX10_digest_54 : decode cX10_digest 54 = .ok (.lstore_n 1, 1) := by decide +kernel
theorem dX10_digest_55 : decode cX10_digest 55 = .ok (.iconst 0, 1) := by decide +kernel
theorem dX10_digest_56 : decode cX10_digest 56 = .ok (.istore_n 3, 1) := by decide +kernel
theorem dX10_digest_57 : decode cX10_digest 57 = .ok (.iload_n 3, 1) := by decide +kernel
theorem dX10_digest_58 : decode cX10_digest 58 = .ok (.aload_n 0, 1) := by decide +kernel
theorem dX10_digest_59 : decode cX10_digest 59 = .ok (.getfield 36, 3) := by decide +kernel
theorem dX10_digest_62 : decode cX10_digest 62 = .ok (.getfield 117, 3) := by decide +kernel
theorem dX10_digest_65 : decode cX10_digest 65 = .ok (.getfield 151, 3) := by decide +kernel
theorem dX10_digest_68 : decode cX10_digest 68 = .ok (.if_icmp .ge 16, 3) := by decide +kernel
theorem dX10_digest_71 : decode cX10_digest 71 = .ok (.aload_n 0, 1) := by decide +kernel
theorem dX10_digest_72 : decode cX10_digest 72 = .ok (.lload_n 1, 1) := by decide +kernel
theorem dX10_digest_73 : decode cX10_digest 73 = .ok (.iload_n 3, 1) := by decide +kernel
theorem dX10_digest_74 : decode cX10_digest 74 = .ok (.invokevirtual 314, 3) := by decide +kernel
theorem dX10_digest_77 : decode cX10_digest 77 = .ok (.lstore_n 1, 1) := by decide +kernel
theorem dX10_digest_78 : decode cX10_digest 78 = .ok (.iinc 3 1, 3) := by decide +kernel
theorem dX10_digest_81 : decode cX10_digest 81 = .ok (.goto (-24), 3) := by decide +kernel
theorem dX10_digest_84 : decode cX10_digest 84 = .ok (.iconst 0, 1) := by decide +kernel
theorem dX10_digest_85 : decode cX10_digest 85 = .ok (.istore_n 3, 1) := by decide +kernel
theorem dX10_digest_86 : decode cX10_digest 86 = .ok (.iload_n 3, 1) := by decide +kernel
theorem dX10_digest_87 : decode cX10_digest 87 = .ok (.aload_n 0, 1) := by decide +kernel
theorem dX10_digest_88 : decode cX10_digest 88 = .ok (.getfield 36, 3) := by decide +kernel
theorem dX10_digest_91 : decode cX10_digest 91 = .ok (.getfield 130, 3) := by decide +kernel
theorem dX10_digest_94 : decode cX10_digest 94 = .ok (.getfield 151, 3) := by decide +kernel
theorem dX10_digest_97 : decode cX10_digest 97 = .ok (.if_icmp .ge 65, 3) := by decide +kernel
theorem dX10_digest_100 : decode cX10_digest 100 = .ok (.iconst 0, 1) := by decide +kernel
theorem dX10_digest_101 : decode cX10_digest 101 = .ok (.istore 4, 2) := by decide +kernel
theorem dX10_digest_103 : decode cX10_digest 103 = .ok (.iload 4, 2) := by decide +kernel
theorem dX10_digest_105 : decode cX10_digest 105 = .ok (.iconst 2, 1) := by decide +kernel
theorem dX10_digest_106 : decode cX10_digest 106 = .ok (.if_icmp .gt 24, 3) := by decide +kernel
theorem dX10_digest_109 : decode cX10_digest 109 = .ok (.ldc2_w 307, 3) := by decide +kernel
theorem dX10_digest_112 : decode cX10_digest 112 = .ok (.lload_n 1, 1) := by decide +kernel
theorem dX10_digest_113 : decode cX10_digest 113 = .ok (.lmul, 1) := by decide +kernel
theorem dX10_digest_114 : decode cX10_digest 114 = .ok (.aload_n 0, 1) := by decide +kernel
theorem dX10_digest_115 : decode cX10_digest 115 = .ok (.iload_n 3, 1) := by decide +kernel
theorem dX10_digest_116 : decode cX10_digest 116 = .ok (.iload 4, 2) := by decide +kernel
theorem dX10_digest_118 : decode cX10_digest 118 = .ok (.invokevirtual 318, 3) := by decide +kernel
theorem dX10_digest_121 : decode cX10_digest 121 = .ok (.i2l, 1) := by decide +kernel
theorem dX10_digest_122 : decode cX10_digest 122 = .ok (.ladd, 1) := by decide +kernel
theorem dX10_digest_123 : decode cX10_digest 123 = .ok (.lstore_n 1, 1) := by decide +kernel
theorem dX10_digest_124 : decode cX10_digest 124 = .ok (.iinc 4 1, 3) := by decide +kernel
theorem dX10_digest_127 : decode cX10_digest 127 = .ok (.goto (-24), 3) := by decide +kernel
theorem dX10_digest_130 : decode cX10_digest 130 = .ok (.ldc2_w 307, 3) := by decide +kernel
theorem dX10_digest_133 : decode cX10_digest 133 = .ok (.ldc2_w 307, 3) := by decide +kernel
theorem dX10_digest_136 : decode cX10_digest 136 = .ok (.lload_n 1, 1) := by decide +kernel
theorem dX10_digest_137 : decode cX10_digest 137 = .ok (.lmul, 1) := by decide +kernel
theorem dX10_digest_138 : decode cX10_digest 138 = .ok (.aload_n 0, 1) := by decide +kernel
theorem dX10_digest_139 : decode cX10_digest 139 = .ok (.iload_n 3, 1) := by decide +kernel
theorem dX10_digest_140 : decode cX10_digest 140 = .ok (.iconst 0, 1) := by decide +kernel
theorem dX10_digest_141 : decode cX10_digest 141 = .ok (.invokevirtual 321, 3) := by decide +kernel
theorem dX10_digest_144 : decode cX10_digest 144 = .ok (.i2l, 1) := by decide +kernel
theorem dX10_digest_145 : decode cX10_digest 145 = .ok (.ladd, 1) := by decide +kernel
theorem dX10_digest_146 : decode cX10_digest 146 = .ok (.lmul, 1) := by decide +kernel
theorem dX10_digest_147 : decode cX10_digest 147 = .ok (.aload_n 0, 1) := by decide +kernel
theorem dX10_digest_148 : decode cX10_digest 148 = .ok (.iload_n 3, 1) := by decide +kernel
theorem dX10_digest_149 : decode cX10_digest 149 = .ok (.iconst 1, 1) := by decide +kernel
theorem dX10_digest_150 : decode cX10_digest 150 = .ok (.invokevirtual 321, 3) := by decide +kernel
theorem dX10_digest_153 : decode cX10_digest 153 = .ok (.i2l, 1) := by decide +kernel
theorem dX10_digest_154 : decode cX10_digest 154 = .ok (.ladd, 1) := by decide +kernel
theorem dX10_digest_155 : decode cX10_digest 155 = .ok (.lstore_n 1, 1) := by decide +kernel
theorem dX10_digest_156 : decode cX10_digest 156 = .ok (.iinc 3 1, 3) := by decide +kernel
theorem dX10_digest_159 : decode cX10_digest 159 = .ok (.goto (-73), 3) := by decide +kernel
theorem dX10_digest_162 : decode cX10_digest 162 = .ok (.iconst 0, 1) := by decide +kernel
theorem dX10_digest_163 : decode cX10_digest 163 = .ok (.istore_n 3, 1) := by decide +kernel
theorem dX10_digest_164 : decode cX10_digest 164 = .ok (.iload_n 3, 1) := by decide +kernel
theorem dX10_digest_165 : decode cX10_digest 165 = .ok (.iconst 4, 1) := by decide +kernel
theorem dX10_digest_166 : decode cX10_digest 166 = .ok (.if_icmp .ge 69, 3) := by decide +kernel
theorem dX10_digest_169 : decode cX10_digest 169 = .ok (.ldc2_w 307, 3) := by decide +kernel
theorem dX10_digest_172 : decode cX10_digest 172 = .ok (.ldc2_w 307, 3) := by decide +kernel
theorem dX10_digest_175 : decode cX10_digest 175 = .ok (.lload_n 1, 1) := by decide +kernel
theorem dX10_digest_176 : decode cX10_digest 176 = .ok (.lmul, 1) := by decide +kernel
theorem dX10_digest_177 : decode cX10_digest 177 = .ok (.aload_n 0, 1) := by decide +kernel
theorem dX10_digest_178 : decode cX10_digest 178 = .ok (.bipush 11, 2) := by decide +kernel
theorem dX10_digest_180 : decode cX10_digest 180 = .ok (.iload_n 3, 1) := by decide +kernel
theorem dX10_digest_181 : decode cX10_digest 181 = .ok (.iconst 0, 1) := by decide +kernel
theorem dX10_digest_182 : decode cX10_digest 182 = .ok (.invokevirtual 324, 3) := by decide +kernel
theorem dX10_digest_185 : decode cX10_digest 185 = .ok (.i2l, 1) := by decide +kernel
theorem dX10_digest_186 : decode cX10_digest 186 = .ok (.ladd, 1) := by decide +kernel
theorem dX10_digest_187 : decode cX10_digest 187 = .ok (.lmul, 1) := by decide +kernel
theorem dX10_digest_188 : decode cX10_digest 188 = .ok (.aload_n 0, 1) := by decide +kernel
theorem dX10_digest_189 : decode cX10_digest 189 = .ok (.bipush 11, 2) := by decide +kernel
theorem dX10_digest_191 : decode cX10_digest 191 = .ok (.iload_n 3, 1) := by decide +kernel
theorem dX10_digest_192 : decode cX10_digest 192 = .ok (.iconst 1, 1) := by decide +kernel
theorem dX10_digest_193 : decode cX10_digest 193 = .ok (.invokevirtual 324, 3) := by decide +kernel
theorem dX10_digest_196 : decode cX10_digest 196 = .ok (.i2l, 1) := by decide +kernel
theorem dX10_digest_197 : decode cX10_digest 197 = .ok (.ladd, 1) := by decide +kernel
theorem dX10_digest_198 : decode cX10_digest 198 = .ok (.lstore_n 1, 1) := by decide +kernel
theorem dX10_digest_199 : decode cX10_digest 199 = .ok (.ldc2_w 307, 3) := by decide +kernel
theorem dX10_digest_202 : decode cX10_digest 202 = .ok (.ldc2_w 307, 3) := by decide +kernel
theorem dX10_digest_205 : decode cX10_digest 205 = .ok (.lload_n 1, 1) := by decide +kernel
theorem dX10_digest_206 : decode cX10_digest 206 = .ok (.lmul, 1) := by decide +kernel
theorem dX10_digest_207 : decode cX10_digest 207 = .ok (.aload_n 0, 1) := by decide +kernel
theorem dX10_digest_208 : decode cX10_digest 208 = .ok (.bipush 23, 2) := by decide +kernel
theorem dX10_digest_210 : decode cX10_digest 210 = .ok (.iload_n 3, 1) := by decide +kernel
theorem dX10_digest_211 : decode cX10_digest 211 = .ok (.iconst 0, 1) := by decide +kernel
theorem dX10_digest_212 : decode cX10_digest 212 = .ok (.invokevirtual 324, 3) := by decide +kernel
theorem dX10_digest_215 : decode cX10_digest 215 = .ok (.i2l, 1) := by decide +kernel
theorem dX10_digest_216 : decode cX10_digest 216 = .ok (.ladd, 1) := by decide +kernel
theorem dX10_digest_217 : decode cX10_digest 217 = .ok (.lmul, 1) := by decide +kernel
theorem dX10_digest_218 : decode cX10_digest 218 = .ok (.aload_n 0, 1) := by decide +kernel
theorem dX10_digest_219 : decode cX10_digest 219 = .ok (.bipush 23, 2) := by decide +kernel
theorem dX10_digest_221 : decode cX10_digest 221 = .ok (.iload_n 3, 1) := by decide +kernel
theorem dX10_digest_222 : decode cX10_digest 222 = .ok (.iconst 1, 1) := by decide +kernel
theorem dX10_digest_223 : decode cX10_digest 223 = .ok (.invokevirtual 324, 3) := by decide +kernel
theorem dX10_digest_226 : decode cX10_digest 226 = .ok (.i2l, 1) := by decide +kernel
theorem dX10_digest_227 : decode cX10_digest 227 = .ok (.ladd, 1) := by decide +kernel
theorem dX10_digest_228 : decode cX10_digest 228 = .ok (.lstore_n 1, 1) := by decide +kernel
theorem dX10_digest_229 : decode cX10_digest 229 = .ok (.iinc 3 1, 3) := by decide +kernel
theorem dX10_digest_232 : decode cX10_digest 232 = .ok (.goto (-68), 3) := by decide +kernel
theorem dX10_digest_235 : decode cX10_digest 235 = .ok (.ldc2_w 307, 3) := by decide +kernel
theorem dX10_digest_238 : decode cX10_digest 238 = .ok (.ldc2_w 307, 3) := by decide +kernel
theorem dX10_digest_241 : decode cX10_digest 241 = .ok (.lload_n 1, 1) := by decide +kernel
theorem dX10_digest_242 : decode cX10_digest 242 = .ok (.lmul, 1) := by decide +kernel
theorem dX10_digest_243 : decode cX10_digest 243 = .ok (.aload_n 0, 1) := by decide +kernel
theorem dX10_digest_244 : decode cX10_digest 244 = .ok (.iconst 0, 1) := by decide +kernel
theorem dX10_digest_245 : decode cX10_digest 245 = .ok (.invokevirtual 327, 3) := by decide +kernel
theorem dX10_digest_248 : decode cX10_digest 248 = .ok (.i2l, 1) := by decide +kernel
theorem dX10_digest_249 : decode cX10_digest 249 = .ok (.ladd, 1) := by decide +kernel
theorem dX10_digest_250 : decode cX10_digest 250 = .ok (.lmul, 1) := by decide +kernel
theorem dX10_digest_251 : decode cX10_digest 251 = .ok (.aload_n 0, 1) := by decide +kernel
theorem dX10_digest_252 : decode cX10_digest 252 = .ok (.iconst 0, 1) := by decide +kernel
theorem dX10_digest_253 : decode cX10_digest 253 = .ok (.invokevirtual 330, 3) := by decide +kernel
theorem dX10_digest_256 : decode cX10_digest 256 = .ok (.i2l, 1) := by decide +kernel
theorem dX10_digest_257 : decode cX10_digest 257 = .ok (.ladd, 1) := by decide +kernel
theorem dX10_digest_258 : decode cX10_digest 258 = .ok (.lstore_n 1, 1) := by decide +kernel
theorem dX10_digest_259 : decode cX10_digest 259 = .ok (.ldc2_w 307, 3) := by decide +kernel
theorem dX10_digest_262 : decode cX10_digest 262 = .ok (.ldc2_w 307, 3) := by decide +kernel
theorem dX10_digest_265 : decode cX10_digest 265 = .ok (.lload_n 1, 1) := by decide +kernel
theorem dX10_digest_266 : decode cX10_digest 266 = .ok (.lmul, 1) := by decide +kernel
theorem dX10_digest_267 : decode cX10_digest 267 = .ok (.aload_n 0, 1) := by decide +kernel
theorem dX10_digest_268 : decode cX10_digest 268 = .ok (.bipush 11, 2) := by decide +kernel
theorem dX10_digest_270 : decode cX10_digest 270 = .ok (.invokevirtual 327, 3) := by decide +kernel
theorem dX10_digest_273 : decode cX10_digest 273 = .ok (.i2l, 1) := by decide +kernel
theorem dX10_digest_274 : decode cX10_digest 274 = .ok (.ladd, 1) := by decide +kernel
theorem dX10_digest_275 : decode cX10_digest 275 = .ok (.lmul, 1) := by decide +kernel
theorem dX10_digest_276 : decode cX10_digest 276 = .ok (.aload_n 0, 1) := by decide +kernel
theorem dX10_digest_277 : decode cX10_digest 277 = .ok (.bipush 11, 2) := by decide +kernel
theorem dX10_digest_279 : decode cX10_digest 279 = .ok (.invokevirtual 330, 3) := by decide +kernel
theorem dX10_digest_282 : decode cX10_digest 282 = .ok (.i2l, 1) := by decide +kernel
theorem dX10_digest_283 : decode cX10_digest 283 = .ok (.ladd, 1) := by decide +kernel
theorem dX10_digest_284 : decode cX10_digest 284 = .ok (.lstore_n 1, 1) := by decide +kernel
theorem dX10_digest_285 : decode cX10_digest 285 = .ok (.ldc2_w 307, 3) := by decide +kernel
theorem dX10_digest_288 : decode cX10_digest 288 = .ok (.ldc2_w 307, 3) := by decide +kernel
theorem dX10_digest_291 : decode cX10_digest 291 = .ok (.lload_n 1, 1) := by decide +kernel
theorem dX10_digest_292 : decode cX10_digest 292 = .ok (.lmul, 1) := by decide +kernel
theorem dX10_digest_293 : decode cX10_digest 293 = .ok (.aload_n 0, 1) := by decide +kernel
theorem dX10_digest_294 : decode cX10_digest 294 = .ok (.bipush 23, 2) := by decide +kernel
theorem dX10_digest_296 : decode cX10_digest 296 = .ok (.invokevirtual 327, 3) := by decide +kernel
theorem dX10_digest_299 : decode cX10_digest 299 = .ok (.i2l, 1) := by decide +kernel
theorem dX10_digest_300 : decode cX10_digest 300 = .ok (.ladd, 1) := by decide +kernel
theorem dX10_digest_301 : decode cX10_digest 301 = .ok (.lmul, 1) := by decide +kernel
theorem dX10_digest_302 : decode cX10_digest 302 = .ok (.aload_n 0, 1) := by decide +kernel
theorem dX10_digest_303 : decode cX10_digest 303 = .ok (.bipush 23, 2) := by decide +kernel
theorem dX10_digest_305 : decode cX10_digest 305 = .ok (.invokevirtual 330, 3) := by decide +kernel
theorem dX10_digest_308 : decode cX10_digest 308 = .ok (.i2l, 1) := by decide +kernel
theorem dX10_digest_309 : decode cX10_digest 309 = .ok (.ladd, 1) := by decide +kernel
theorem dX10_digest_310 : decode cX10_digest 310 = .ok (.lstore_n 1, 1) := by decide +kernel
theorem dX10_digest_311 : decode cX10_digest 311 = .ok (.ldc2_w 307, 3) := by decide +kernel
theorem dX10_digest_314 : decode cX10_digest 314 = .ok (.ldc2_w 307, 3) := by decide +kernel
theorem dX10_digest_317 : decode cX10_digest 317 = .ok (.lload_n 1, 1) := by decide +kernel
theorem dX10_digest_318 : decode cX10_digest 318 = .ok (.lmul, 1) := by decide +kernel
theorem dX10_digest_319 : decode cX10_digest 319 = .ok (.aload_n 0, 1) := by decide +kernel
theorem dX10_digest_320 : decode cX10_digest 320 = .ok (.iconst 0, 1) := by decide +kernel
theorem dX10_digest_321 : decode cX10_digest 321 = .ok (.invokevirtual 333, 3) := by decide +kernel
theorem dX10_digest_324 : decode cX10_digest 324 = .ok (.i2l, 1) := by decide +kernel
theorem dX10_digest_325 : decode cX10_digest 325 = .ok (.ladd, 1) := by decide +kernel
theorem dX10_digest_326 : decode cX10_digest 326 = .ok (.lmul, 1) := by decide +kernel
theorem dX10_digest_327 : decode cX10_digest 327 = .ok (.aload_n 0, 1) := by decide +kernel
theorem dX10_digest_328 : decode cX10_digest 328 = .ok (.iconst 1, 1) := by decide +kernel
theorem dX10_digest_329 : decode cX10_digest 329 = .ok (.invokevirtual 333, 3) := by decide +kernel
theorem dX10_digest_332 : decode cX10_digest 332 = .ok (.i2l, 1) := by decide +kernel
theorem dX10_digest_333 : decode cX10_digest 333 = .ok (.ladd, 1) := by decide +kernel
theorem dX10_digest_334 : decode cX10_digest 334 = .ok (.lstore_n 1, 1) := by decide +kernel
theorem dX10_digest_335 : decode cX10_digest 335 = .ok (.ldc2_w 307, 3) := by decide +kernel
theorem dX10_digest_338 : decode cX10_digest 338 = .ok (.ldc2_w 307, 3) := by decide +kernel
theorem dX10_digest_341 : decode cX10_digest 341 = .ok (.lload_n 1, 1) := by decide +kernel
theorem dX10_digest_342 : decode cX10_digest 342 = .ok (.lmul, 1) := by decide +kernel
theorem dX10_digest_343 : decode cX10_digest 343 = .ok (.aload_n 0, 1) := by decide +kernel
theorem dX10_digest_344 : decode cX10_digest 344 = .ok (.iconst 0, 1) := by decide +kernel
theorem dX10_digest_345 : decode cX10_digest 345 = .ok (.invokevirtual 336, 3) := by decide +kernel
theorem dX10_digest_348 : decode cX10_digest 348 = .ok (.i2l, 1) := by decide +kernel
theorem dX10_digest_349 : decode cX10_digest 349 = .ok (.ladd, 1) := by decide +kernel
theorem dX10_digest_350 : decode cX10_digest 350 = .ok (.lmul, 1) := by decide +kernel
theorem dX10_digest_351 : decode cX10_digest 351 = .ok (.aload_n 0, 1) := by decide +kernel
theorem dX10_digest_352 : decode cX10_digest 352 = .ok (.iconst 1, 1) := by decide +kernel
theorem dX10_digest_353 : decode cX10_digest 353 = .ok (.invokevirtual 336, 3) := by decide +kernel
theorem dX10_digest_356 : decode cX10_digest 356 = .ok (.i2l, 1) := by decide +kernel
theorem dX10_digest_357 : decode cX10_digest 357 = .ok (.ladd, 1) := by decide +kernel
theorem dX10_digest_358 : decode cX10_digest 358 = .ok (.lstore_n 1, 1) := by decide +kernel
theorem dX10_digest_359 : decode cX10_digest 359 = .ok (.iconst 0, 1) := by decide +kernel
theorem dX10_digest_360 : decode cX10_digest 360 = .ok (.istore_n 3, 1) := by decide +kernel
theorem dX10_digest_361 : decode cX10_digest 361 = .ok (.iload_n 3, 1) := by decide +kernel
theorem dX10_digest_362 : decode cX10_digest 362 = .ok (.iconst 2, 1) := by decide +kernel
theorem dX10_digest_363 : decode cX10_digest 363 = .ok (.if_icmp .gt 23, 3) := by decide +kernel
theorem dX10_digest_366 : decode cX10_digest 366 = .ok (.ldc2_w 307, 3) := by decide +kernel
theorem dX10_digest_369 : decode cX10_digest 369 = .ok (.lload_n 1, 1) := by decide +kernel
theorem dX10_digest_370 : decode cX10_digest 370 = .ok (.lmul, 1) := by decide +kernel
theorem dX10_digest_371 : decode cX10_digest 371 = .ok (.aload_n 0, 1) := by decide +kernel
theorem dX10_digest_372 : decode cX10_digest 372 = .ok (.iconst 2, 1) := by decide +kernel
theorem dX10_digest_373 : decode cX10_digest 373 = .ok (.iload_n 3, 1) := by decide +kernel
theorem dX10_digest_374 : decode cX10_digest 374 = .ok (.invokevirtual 339, 3) := by decide +kernel
theorem dX10_digest_377 : decode cX10_digest 377 = .ok (.i2l, 1) := by decide +kernel
theorem dX10_digest_378 : decode cX10_digest 378 = .ok (.ladd, 1) := by decide +kernel
theorem dX10_digest_379 : decode cX10_digest 379 = .ok (.lstore_n 1, 1) := by decide +kernel
theorem dX10_digest_380 : decode cX10_digest 380 = .ok (.iinc 3 1, 3) := by decide +kernel
theorem dX10_digest_383 : decode cX10_digest 383 = .ok (.goto (-22), 3) := by decide +kernel
theorem dX10_digest_386 : decode cX10_digest 386 = .ok (.ldc2_w 307, 3) := by decide +kernel
theorem dX10_digest_389 : decode cX10_digest 389 = .ok (.ldc2_w 307, 3) := by decide +kernel
theorem dX10_digest_392 : decode cX10_digest 392 = .ok (.lload_n 1, 1) := by decide +kernel
theorem dX10_digest_393 : decode cX10_digest 393 = .ok (.lmul, 1) := by decide +kernel
theorem dX10_digest_394 : decode cX10_digest 394 = .ok (.aload_n 0, 1) := by decide +kernel
theorem dX10_digest_395 : decode cX10_digest 395 = .ok (.iconst (-1), 1) := by decide +kernel
theorem dX10_digest_396 : decode cX10_digest 396 = .ok (.invokevirtual 342, 3) := by decide +kernel
theorem dX10_digest_399 : decode cX10_digest 399 = .ok (.i2l, 1) := by decide +kernel
theorem dX10_digest_400 : decode cX10_digest 400 = .ok (.ladd, 1) := by decide +kernel
theorem dX10_digest_401 : decode cX10_digest 401 = .ok (.lmul, 1) := by decide +kernel
theorem dX10_digest_402 : decode cX10_digest 402 = .ok (.aload_n 0, 1) := by decide +kernel
theorem dX10_digest_403 : decode cX10_digest 403 = .ok (.iconst 0, 1) := by decide +kernel
theorem dX10_digest_404 : decode cX10_digest 404 = .ok (.invokevirtual 342, 3) := by decide +kernel
theorem dX10_digest_407 : decode cX10_digest 407 = .ok (.i2l, 1) := by decide +kernel
theorem dX10_digest_408 : decode cX10_digest 408 = .ok (.ladd, 1) := by decide +kernel
theorem dX10_digest_409 : decode cX10_digest 409 = .ok (.lstore_n 1, 1) := by decide +kernel
theorem dX10_digest_410 : decode cX10_digest 410 = .ok (.ldc2_w 307, 3) := by decide +kernel
theorem dX10_digest_413 : decode cX10_digest 413 = .ok (.lload_n 1, 1) := by decide +kernel
theorem dX10_digest_414 : decode cX10_digest 414 = .ok (.lmul, 1) := by decide +kernel
theorem dX10_digest_415 : decode cX10_digest 415 = .ok (.aload_n 0, 1) := by decide +kernel
theorem dX10_digest_416 : decode cX10_digest 416 = .ok (.invokevirtual 345, 3) := by decide +kernel
theorem dX10_digest_419 : decode cX10_digest 419 = .ok (.i2l, 1) := by decide +kernel
theorem dX10_digest_420 : decode cX10_digest 420 = .ok (.ladd, 1) := by decide +kernel
theorem dX10_digest_421 : decode cX10_digest 421 = .ok (.lstore_n 1, 1) := by decide +kernel
theorem dX10_digest_422 : decode cX10_digest 422 = .ok (.ldc2_w 307, 3) := by decide +kernel
theorem dX10_digest_425 : decode cX10_digest 425 = .ok (.ldc2_w 307, 3) := by decide +kernel
theorem dX10_digest_428 : decode cX10_digest 428 = .ok (.lload_n 1, 1) := by decide +kernel
theorem dX10_digest_429 : decode cX10_digest 429 = .ok (.lmul, 1) := by decide +kernel
theorem dX10_digest_430 : decode cX10_digest 430 = .ok (.aload_n 0, 1) := by decide +kernel
theorem dX10_digest_431 : decode cX10_digest 431 = .ok (.bipush 7, 2) := by decide +kernel
theorem dX10_digest_433 : decode cX10_digest 433 = .ok (.bipush 9, 2) := by decide +kernel
theorem dX10_digest_435 : decode cX10_digest 435 = .ok (.iconst 0, 1) := by decide +kernel
theorem dX10_digest_436 : decode cX10_digest 436 = .ok (.invokevirtual 347, 3) := by decide +kernel
theorem dX10_digest_439 : decode cX10_digest 439 = .ok (.i2l, 1) := by decide +kernel
theorem dX10_digest_440 : decode cX10_digest 440 = .ok (.ladd, 1) := by decide +kernel
theorem dX10_digest_441 : decode cX10_digest 441 = .ok (.lmul, 1) := by decide +kernel
theorem dX10_digest_442 : decode cX10_digest 442 = .ok (.aload_n 0, 1) := by decide +kernel
theorem dX10_digest_443 : decode cX10_digest 443 = .ok (.bipush 7, 2) := by decide +kernel
theorem dX10_digest_445 : decode cX10_digest 445 = .ok (.bipush 9, 2) := by decide +kernel
theorem dX10_digest_447 : decode cX10_digest 447 = .ok (.iconst 1, 1) := by decide +kernel
theorem dX10_digest_448 : decode cX10_digest 448 = .ok (.invokevirtual 347, 3) := by decide +kernel
theorem dX10_digest_451 : decode cX10_digest 451 = .ok (.i2l, 1) := by decide +kernel
theorem dX10_digest_452 : decode cX10_digest 452 = .ok (.ladd, 1) := by decide +kernel
theorem dX10_digest_453 : decode cX10_digest 453 = .ok (.lreturn, 1) := by decide +kernel
theorem dX10_digestPerson_0 : decode cX10_digestPerson 0 = .ok (.lload_n 1, 1) := by decide +kernel
theorem dX10_digestPerson_1 : decode cX10_digestPerson 1 = .ok (.lstore 4, 2) := by decide +kernel
theorem dX10_digestPerson_3 : decode cX10_digestPerson 3 = .ok (.iconst 0, 1) := by decide +kernel
theorem dX10_digestPerson_4 : decode cX10_digestPerson 4 = .ok (.istore 6, 2) := by decide +kernel
theorem dX10_digestPerson_6 : decode cX10_digestPerson 6 = .ok (.iload 6, 2) := by decide +kernel
theorem dX10_digestPerson_8 : decode cX10_digestPerson 8 = .ok (.iconst 2, 1) := by decide +kernel
theorem dX10_digestPerson_9 : decode cX10_digestPerson 9 = .ok (.if_icmp .gt 26, 3) := by decide +kernel
theorem dX10_digestPerson_12 : decode cX10_digestPerson 12 = .ok (.ldc2_w 307, 3) := by decide +kernel
theorem dX10_digestPerson_15 : decode cX10_digestPerson 15 = .ok (.lload 4, 2) := by decide +kernel
theorem dX10_digestPerson_17 : decode cX10_digestPerson 17 = .ok (.lmul, 1) := by decide +kernel
theorem dX10_digestPerson_18 : decode cX10_digestPerson 18 = .ok (.aload_n 0, 1) := by decide +kernel
theorem dX10_digestPerson_19 : decode cX10_digestPerson 19 = .ok (.iload_n 3, 1) := by decide +kernel
theorem dX10_digestPerson_20 : decode cX10_digestPerson 20 = .ok (.iload 6, 2) := by decide +kernel
theorem dX10_digestPerson_22 : decode cX10_digestPerson 22 = .ok (.invokevirtual 350, 3) := by decide +kernel
theorem dX10_digestPerson_25 : decode cX10_digestPerson 25 = .ok (.i2l, 1) := by decide +kernel
theorem dX10_digestPerson_26 : decode cX10_digestPerson 26 = .ok (.ladd, 1) := by decide +kernel
theorem dX10_digestPerson_27 : decode cX10_digestPerson 27 = .ok (.lstore 4, 2) := by decide +kernel
theorem dX10_digestPerson_29 : decode cX10_digestPerson 29 = .ok (.iinc 6 1, 3) := by decide +kernel
theorem dX10_digestPerson_32 : decode cX10_digestPerson 32 = .ok (.goto (-26), 3) := by decide +kernel
theorem dX10_digestPerson_35 : decode cX10_digestPerson 35 = .ok (.iconst 0, 1) := by decide +kernel
theorem dX10_digestPerson_36 : decode cX10_digestPerson 36 = .ok (.istore 6, 2) := by decide +kernel
theorem dX10_digestPerson_38 : decode cX10_digestPerson 38 = .ok (.iload 6, 2) := by decide +kernel
theorem dX10_digestPerson_40 : decode cX10_digestPerson 40 = .ok (.iconst 4, 1) := by decide +kernel
theorem dX10_digestPerson_41 : decode cX10_digestPerson 41 = .ok (.if_icmp .ge 77, 3) := by decide +kernel
theorem dX10_digestPerson_44 : decode cX10_digestPerson 44 = .ok (.iload 6, 2) := by decide +kernel
theorem dX10_digestPerson_46 : decode cX10_digestPerson 46 = .ok (.ifCond .ne 7, 3) := by decide +kernel
theorem dX10_digestPerson_49 : decode cX10_digestPerson 49 = .ok (.iconst 0, 1) := by decide +kernel
theorem dX10_digestPerson_50 : decode cX10_digestPerson 50 = .ok (.goto 26, 3) := by decide +kernel
theorem dX10_digestPerson_53 : decode cX10_digestPerson 53 = .ok (.iload 6, 2) := by decide +kernel
theorem dX10_digestPerson_55 : decode cX10_digestPerson 55 = .ok (.iconst 1, 1) := by decide +kernel
theorem dX10_digestPerson_56 : decode cX10_digestPerson 56 = .ok (.if_icmp .ne 7, 3) := by decide +kernel
theorem dX10_digestPerson_59 : decode cX10_digestPerson 59 = .ok (.iconst 5, 1) := by decide +kernel
theorem dX10_digestPerson_60 : decode cX10_digestPerson 60 = .ok (.goto 16, 3) := by decide +kernel
theorem dX10_digestPerson_63 : decode cX10_digestPerson 63 = .ok (.iload 6, 2) := by decide +kernel
theorem dX10_digestPerson_65 : decode cX10_digestPerson 65 = .ok (.iconst 2, 1) := by decide +kernel
theorem dX10_digestPerson_66 : decode cX10_digestPerson 66 = .ok (.if_icmp .ne 8, 3) := by decide +kernel
theorem dX10_digestPerson_69 : decode cX10_digestPerson 69 = .ok (.bipush 11, 2) := by decide +kernel
theorem dX10_digestPerson_71 : decode cX10_digestPerson 71 = .ok (.goto 5, 3) := by decide +kernel
theorem dX10_digestPerson_74 : decode cX10_digestPerson 74 = .ok (.bipush 23, 2) := by decide +kernel
theorem dX10_digestPerson_76 : decode cX10_digestPerson 76 = .ok (.istore 7, 2) := by decide +kernel
theorem dX10_digestPerson_78 : decode cX10_digestPerson 78 = .ok (.iconst 0, 1) := by decide +kernel
theorem dX10_digestPerson_79 : decode cX10_digestPerson 79 = .ok (.istore 8, 2) := by decide +kernel
theorem dX10_digestPerson_81 : decode cX10_digestPerson 81 = .ok (.iload 8, 2) := by decide +kernel
theorem dX10_digestPerson_83 : decode cX10_digestPerson 83 = .ok (.iconst 2, 1) := by decide +kernel
theorem dX10_digestPerson_84 : decode cX10_digestPerson 84 = .ok (.if_icmp .gt 28, 3) := by decide +kernel
theorem dX10_digestPerson_87 : decode cX10_digestPerson 87 = .ok (.ldc2_w 307, 3) := by decide +kernel
theorem dX10_digestPerson_90 : decode cX10_digestPerson 90 = .ok (.lload 4, 2) := by decide +kernel
theorem dX10_digestPerson_92 : decode cX10_digestPerson 92 = .ok (.lmul, 1) := by decide +kernel
theorem dX10_digestPerson_93 : decode cX10_digestPerson 93 = .ok (.aload_n 0, 1) := by decide +kernel
theorem dX10_digestPerson_94 : decode cX10_digestPerson 94 = .ok (.iload 7, 2) := by decide +kernel
theorem dX10_digestPerson_96 : decode cX10_digestPerson 96 = .ok (.iload_n 3, 1) := by decide +kernel
theorem dX10_digestPerson_97 : decode cX10_digestPerson 97 = .ok (.iload 8, 2) := by decide +kernel
theorem dX10_digestPerson_99 : decode cX10_digestPerson 99 = .ok (.invokevirtual 353, 3) := by decide +kernel
theorem dX10_digestPerson_102 : decode cX10_digestPerson 102 = .ok (.i2l, 1) := by decide +kernel
theorem dX10_digestPerson_103 : decode cX10_digestPerson 103 = .ok (.ladd, 1) := by decide +kernel
theorem dX10_digestPerson_104 : decode cX10_digestPerson 104 = .ok (.lstore 4, 2) := by decide +kernel
theorem dX10_digestPerson_106 : decode cX10_digestPerson 106 = .ok (.iinc 8 1, 3) := by decide +kernel
theorem dX10_digestPerson_109 : decode cX10_digestPerson 109 = .ok (.goto (-28), 3) := by decide +kernel
theorem dX10_digestPerson_112 : decode cX10_digestPerson 112 = .ok (.iinc 6 1, 3) := by decide +kernel
theorem dX10_digestPerson_115 : decode cX10_digestPerson 115 = .ok (.goto (-77), 3) := by decide +kernel
theorem dX10_digestPerson_118 : decode cX10_digestPerson 118 = .ok (.ldc2_w 307, 3) := by decide +kernel
theorem dX10_digestPerson_121 : decode cX10_digestPerson 121 = .ok (.lload 4, 2) := by decide +kernel
theorem dX10_digestPerson_123 : decode cX10_digestPerson 123 = .ok (.lmul, 1) := by decide +kernel
theorem dX10_digestPerson_124 : decode cX10_digestPerson 124 = .ok (.aload_n 0, 1) := by decide +kernel
theorem dX10_digestPerson_125 : decode cX10_digestPerson 125 = .ok (.iload_n 3, 1) := by decide +kernel
theorem dX10_digestPerson_126 : decode cX10_digestPerson 126 = .ok (.invokevirtual 356, 3) := by decide +kernel
theorem dX10_digestPerson_129 : decode cX10_digestPerson 129 = .ok (.i2l, 1) := by decide +kernel
theorem dX10_digestPerson_130 : decode cX10_digestPerson 130 = .ok (.ladd, 1) := by decide +kernel
theorem dX10_digestPerson_131 : decode cX10_digestPerson 131 = .ok (.lstore 4, 2) := by decide +kernel
theorem dX10_digestPerson_133 : decode cX10_digestPerson 133 = .ok (.ldc2_w 307, 3) := by decide +kernel
theorem dX10_digestPerson_136 : decode cX10_digestPerson 136 = .ok (.ldc2_w 307, 3) := by decide +kernel
theorem dX10_digestPerson_139 : decode cX10_digestPerson 139 = .ok (.lload 4, 2) := by decide +kernel
theorem dX10_digestPerson_141 : decode cX10_digestPerson 141 = .ok (.lmul, 1) := by decide +kernel
theorem dX10_digestPerson_142 : decode cX10_digestPerson 142 = .ok (.aload_n 0, 1) := by decide +kernel
theorem dX10_digestPerson_143 : decode cX10_digestPerson 143 = .ok (.iload_n 3, 1) := by decide +kernel
theorem dX10_digestPerson_144 : decode cX10_digestPerson 144 = .ok (.bipush 9, 2) := by decide +kernel
theorem dX10_digestPerson_146 : decode cX10_digestPerson 146 = .ok (.iconst (-1), 1) := by decide +kernel
theorem dX10_digestPerson_147 : decode cX10_digestPerson 147 = .ok (.invokevirtual 359, 3) := by decide +kernel
theorem dX10_digestPerson_150 : decode cX10_digestPerson 150 = .ok (.i2l, 1) := by decide +kernel
theorem dX10_digestPerson_151 : decode cX10_digestPerson 151 = .ok (.ladd, 1) := by decide +kernel
theorem dX10_digestPerson_152 : decode cX10_digestPerson 152 = .ok (.lmul, 1) := by decide +kernel
theorem dX10_digestPerson_153 : decode cX10_digestPerson 153 = .ok (.aload_n 0, 1) := by decide +kernel
theorem dX10_digestPerson_154 : decode cX10_digestPerson 154 = .ok (.iload_n 3, 1) := by decide +kernel
theorem dX10_digestPerson_155 : decode cX10_digestPerson 155 = .ok (.bipush 9, 2) := by decide +kernel
theorem dX10_digestPerson_157 : decode cX10_digestPerson 157 = .ok (.iconst 0, 1) := by decide +kernel
theorem dX10_digestPerson_158 : decode cX10_digestPerson 158 = .ok (.invokevirtual 359, 3) := by decide +kernel
theorem dX10_digestPerson_161 : decode cX10_digestPerson 161 = .ok (.i2l, 1) := by decide +kernel
theorem dX10_digestPerson_162 : decode cX10_digestPerson 162 = .ok (.ladd, 1) := by decide +kernel
theorem dX10_digestPerson_163 : decode cX10_digestPerson 163 = .ok (.lstore 4, 2) := by decide +kernel
theorem dX10_digestPerson_165 : decode cX10_digestPerson 165 = .ok (.ldc2_w 307, 3) := by decide +kernel
theorem dX10_digestPerson_168 : decode cX10_digestPerson 168 = .ok (.ldc2_w 307, 3) := by decide +kernel
theorem dX10_digestPerson_171 : decode cX10_digestPerson 171 = .ok (.lload 4, 2) := by decide +kernel
theorem dX10_digestPerson_173 : decode cX10_digestPerson 173 = .ok (.lmul, 1) := by decide +kernel
theorem dX10_digestPerson_174 : decode cX10_digestPerson 174 = .ok (.aload_n 0, 1) := by decide +kernel
theorem dX10_digestPerson_175 : decode cX10_digestPerson 175 = .ok (.iload_n 3, 1) := by decide +kernel
theorem dX10_digestPerson_176 : decode cX10_digestPerson 176 = .ok (.iconst 0, 1) := by decide +kernel
theorem dX10_digestPerson_177 : decode cX10_digestPerson 177 = .ok (.invokevirtual 362, 3) := by decide +kernel
theorem dX10_digestPerson_180 : decode cX10_digestPerson 180 = .ok (.i2l, 1) := by decide +kernel
theorem dX10_digestPerson_181 : decode cX10_digestPerson 181 = .ok (.ladd, 1) := by decide +kernel
theorem dX10_digestPerson_182 : decode cX10_digestPerson 182 = .ok (.lmul, 1) := by decide +kernel
theorem dX10_digestPerson_183 : decode cX10_digestPerson 183 = .ok (.aload_n 0, 1) := by decide +kernel
theorem dX10_digestPerson_184 : decode cX10_digestPerson 184 = .ok (.iload_n 3, 1) := by decide +kernel
theorem dX10_digestPerson_185 : decode cX10_digestPerson 185 = .ok (.iconst 1, 1) := by decide +kernel
theorem dX10_digestPerson_186 : decode cX10_digestPerson 186 = .ok (.invokevirtual 362, 3) := by decide +kernel
theorem dX10_digestPerson_189 : decode cX10_digestPerson 189 = .ok (.i2l, 1) := by decide +kernel
theorem dX10_digestPerson_190 : decode cX10_digestPerson 190 = .ok (.ladd, 1) := by decide +kernel
theorem dX10_digestPerson_191 : decode cX10_digestPerson 191 = .ok (.lstore 4, 2) := by decide +kernel
theorem dX10_digestPerson_193 : decode cX10_digestPerson 193 = .ok (.ldc2_w 307, 3) := by decide +kernel
theorem dX10_digestPerson_196 : decode cX10_digestPerson 196 = .ok (.lload 4, 2) := by decide +kernel
theorem dX10_digestPerson_198 : decode cX10_digestPerson 198 = .ok (.lmul, 1) := by decide +kernel
theorem dX10_digestPerson_199 : decode cX10_digestPerson 199 = .ok (.aload_n 0, 1) := by decide +kernel
theorem dX10_digestPerson_200 : decode cX10_digestPerson 200 = .ok (.iload_n 3, 1) := by decide +kernel
theorem dX10_digestPerson_201 : decode cX10_digestPerson 201 = .ok (.invokevirtual 365, 3) := by decide +kernel
theorem dX10_digestPerson_204 : decode cX10_digestPerson 204 = .ok (.i2l, 1) := by decide +kernel
theorem dX10_digestPerson_205 : decode cX10_digestPerson 205 = .ok (.ladd, 1) := by decide +kernel
theorem dX10_digestPerson_206 : decode cX10_digestPerson 206 = .ok (.lstore 4, 2) := by decide +kernel
theorem dX10_digestPerson_208 : decode cX10_digestPerson 208 = .ok (.ldc2_w 307, 3) := by decide +kernel
theorem dX10_digestPerson_211 : decode cX10_digestPerson 211 = .ok (.ldc2_w 307, 3) := by decide +kernel
theorem dX10_digestPerson_214 : decode cX10_digestPerson 214 = .ok (.lload 4, 2) := by decide +kernel
theorem dX10_digestPerson_216 : decode cX10_digestPerson 216 = .ok (.lmul, 1) := by decide +kernel
theorem dX10_digestPerson_217 : decode cX10_digestPerson 217 = .ok (.aload_n 0, 1) := by decide +kernel
theorem dX10_digestPerson_218 : decode cX10_digestPerson 218 = .ok (.iconst 5, 1) := by decide +kernel
theorem dX10_digestPerson_219 : decode cX10_digestPerson 219 = .ok (.iconst 5, 1) := by decide +kernel
theorem dX10_digestPerson_220 : decode cX10_digestPerson 220 = .ok (.iload_n 3, 1) := by decide +kernel
theorem dX10_digestPerson_221 : decode cX10_digestPerson 221 = .ok (.iconst 0, 1) := by decide +kernel
theorem dX10_digestPerson_222 : decode cX10_digestPerson 222 = .ok (.invokevirtual 368, 3) := by decide +kernel
theorem dX10_digestPerson_225 : decode cX10_digestPerson 225 = .ok (.ladd, 1) := by decide +kernel
theorem dX10_digestPerson_226 : decode cX10_digestPerson 226 = .ok (.lmul, 1) := by decide +kernel
theorem dX10_digestPerson_227 : decode cX10_digestPerson 227 = .ok (.aload_n 0, 1) := by decide +kernel
theorem dX10_digestPerson_228 : decode cX10_digestPerson 228 = .ok (.iconst 5, 1) := by decide +kernel
theorem dX10_digestPerson_229 : decode cX10_digestPerson 229 = .ok (.iconst 5, 1) := by decide +kernel
theorem dX10_digestPerson_230 : decode cX10_digestPerson 230 = .ok (.iload_n 3, 1) := by decide +kernel
theorem dX10_digestPerson_231 : decode cX10_digestPerson 231 = .ok (.iconst 1, 1) := by decide +kernel
theorem dX10_digestPerson_232 : decode cX10_digestPerson 232 = .ok (.invokevirtual 368, 3) := by decide +kernel
theorem dX10_digestPerson_235 : decode cX10_digestPerson 235 = .ok (.ladd, 1) := by decide +kernel
theorem dX10_digestPerson_236 : decode cX10_digestPerson 236 = .ok (.lreturn, 1) := by decide +kernel
theorem dX10_within_0 : decode cX10_within 0 = .ok (.iload_n 0, 1) := by decide +kernel
theorem dX10_within_1 : decode cX10_within 1 = .ok (.iload_n 1, 1) := by decide +kernel
theorem dX10_within_2 : decode cX10_within 2 = .ok (.if_icmp .lt 12, 3) := by decide +kernel
theorem dX10_within_5 : decode cX10_within 5 = .ok (.iload_n 0, 1) := by decide +kernel
theorem dX10_within_6 : decode cX10_within 6 = .ok (.iload_n 2, 1) := by decide +kernel
theorem dX10_within_7 : decode cX10_within 7 = .ok (.if_icmp .gt 7, 3) := by decide +kernel
theorem dX10_within_10 : decode cX10_within 10 = .ok (.iconst 1, 1) := by decide +kernel
theorem dX10_within_11 : decode cX10_within 11 = .ok (.goto 4, 3) := by decide +kernel
theorem dX10_within_14 : decode cX10_within 14 = .ok (.iconst 0, 1) := by decide +kernel
theorem dX10_within_15 : decode cX10_within 15 = .ok (.ireturn, 1) := by decide +kernel
theorem dX10_isMonth_0 : decode cX10_isMonth 0 = .ok (.iload_n 0, 1) := by decide +kernel
theorem dX10_isMonth_1 : decode cX10_isMonth 1 = .ok (.iconst 0, 1) := by decide +kernel
theorem dX10_isMonth_2 : decode cX10_isMonth 2 = .ok (.bipush 23, 2) := by decide +kernel
theorem dX10_isMonth_4 : decode cX10_isMonth 4 = .ok (.invokestatic 90, 3) := by decide +kernel
theorem dX10_isMonth_7 : decode cX10_isMonth 7 = .ok (.ireturn, 1) := by decide +kernel
theorem dX10_isCounty_0 : decode cX10_isCounty 0 = .ok (.iload_n 0, 1) := by decide +kernel
theorem dX10_isCounty_1 : decode cX10_isCounty 1 = .ok (.iconst 0, 1) := by decide +kernel
theorem dX10_isCounty_2 : decode cX10_isCounty 2 = .ok (.iconst 3, 1) := by decide +kernel
theorem dX10_isCounty_3 : decode cX10_isCounty 3 = .ok (.invokestatic 90, 3) := by decide +kernel
theorem dX10_isCounty_6 : decode cX10_isCounty 6 = .ok (.ireturn, 1) := by decide +kernel
theorem dX10_isSheet_0 : decode cX10_isSheet 0 = .ok (.iload_n 0, 1) := by decide +kernel
theorem dX10_isSheet_1 : decode cX10_isSheet 1 = .ok (.iconst 0, 1) := by decide +kernel
theorem dX10_isSheet_2 : decode cX10_isSheet 2 = .ok (.iconst 3, 1) := by decide +kernel
theorem dX10_isSheet_3 : decode cX10_isSheet 3 = .ok (.invokestatic 90, 3) := by decide +kernel
theorem dX10_isSheet_6 : decode cX10_isSheet 6 = .ok (.ireturn, 1) := by decide +kernel
theorem dX10_isPerson_0 : decode cX10_isPerson 0 = .ok (.iload_n 1, 1) := by decide +kernel
theorem dX10_isPerson_1 : decode cX10_isPerson 1 = .ok (.iconst 0, 1) := by decide +kernel
theorem dX10_isPerson_2 : decode cX10_isPerson 2 = .ok (.aload_n 0, 1) := by decide +kernel
theorem dX10_isPerson_3 : decode cX10_isPerson 3 = .ok (.getfield 36, 3) := by decide +kernel
theorem dX10_isPerson_6 : decode cX10_isPerson 6 = .ok (.getfield 117, 3) := by decide +kernel
theorem dX10_isPerson_9 : decode cX10_isPerson 9 = .ok (.getfield 151, 3) := by decide +kernel
theorem dX10_isPerson_12 : decode cX10_isPerson 12 = .ok (.iconst 1, 1) := by decide +kernel
theorem dX10_isPerson_13 : decode cX10_isPerson 13 = .ok (.isub, 1) := by decide +kernel
theorem dX10_isPerson_14 : decode cX10_isPerson 14 = .ok (.invokestatic 90, 3) := by decide +kernel
theorem dX10_isPerson_17 : decode cX10_isPerson 17 = .ok (.ireturn, 1) := by decide +kernel
theorem dX10_isDeed_0 : decode cX10_isDeed 0 = .ok (.iload_n 1, 1) := by decide +kernel
theorem dX10_isDeed_1 : decode cX10_isDeed 1 = .ok (.iconst 0, 1) := by decide +kernel
theorem dX10_isDeed_2 : decode cX10_isDeed 2 = .ok (.aload_n 0, 1) := by decide +kernel
theorem dX10_isDeed_3 : decode cX10_isDeed 3 = .ok (.getfield 36, 3) := by decide +kernel
theorem dX10_isDeed_6 : decode cX10_isDeed 6 = .ok (.getfield 130, 3) := by decide +kernel
theorem dX10_isDeed_9 : decode cX10_isDeed 9 = .ok (.getfield 151, 3) := by decide +kernel
theorem dX10_isDeed_12 : decode cX10_isDeed 12 = .ok (.iconst 1, 1) := by decide +kernel
theorem dX10_isDeed_13 : decode cX10_isDeed 13 = .ok (.isub, 1) := by decide +kernel
theorem dX10_isDeed_14 : decode cX10_isDeed 14 = .ok (.invokestatic 90, 3) := by decide +kernel
theorem dX10_isDeed_17 : decode cX10_isDeed 17 = .ok (.ireturn, 1) := by decide +kernel
theorem dX10_textOf_0 : decode cX10_textOf 0 = .ok (.iload_n 1, 1) := by decide +kernel
theorem dX10_textOf_1 : decode cX10_textOf 1 = .ok (.ifCond .ne 10, 3) := by decide +kernel
theorem dX10_textOf_4 : decode cX10_textOf 4 = .ok (.aload_n 0, 1) := by decide +kernel
theorem dX10_textOf_5 : decode cX10_textOf 5 = .ok (.getfield 20, 3) := by decide +kernel
theorem dX10_textOf_8 : decode cX10_textOf 8 = .ok (.goto 7, 3) := by decide +kernel
theorem dX10_textOf_11 : decode cX10_textOf 11 = .ok (.aload_n 0, 1) := by decide +kernel
theorem dX10_textOf_12 : decode cX10_textOf 12 = .ok (.getfield 30, 3) := by decide +kernel
theorem dX10_textOf_15 : decode cX10_textOf 15 = .ok (.areturn, 1) := by decide +kernel
theorem dX10_readTexts_0 : decode cX10_readTexts 0 = .ok (.aload_n 0, 1) := by decide +kernel
theorem dX10_readTexts_1 : decode cX10_readTexts 1 = .ok (.getfield 20, 3) := by decide +kernel
theorem dX10_readTexts_4 : decode cX10_readTexts 4 = .ok (.aload_n 0, 1) := by decide +kernel
theorem dX10_readTexts_5 : decode cX10_readTexts 5 = .ok (.getfield 36, 3) := by decide +kernel
theorem dX10_readTexts_8 : decode cX10_readTexts 8 = .ok (.getfield 117, 3) := by decide +kernel
theorem dX10_readTexts_11 : decode cX10_readTexts 11 = .ok (.invokevirtual 372, 3) := by decide +kernel
theorem dX10_readTexts_14 : decode cX10_readTexts 14 = .ok (.aload_n 0, 1) := by decide +kernel
theorem dX10_readTexts_15 : decode cX10_readTexts 15 = .ok (.getfield 30, 3) := by decide +kernel
theorem dX10_readTexts_18 : decode cX10_readTexts 18 = .ok (.aload_n 0, 1) := by decide +kernel
theorem dX10_readTexts_19 : decode cX10_readTexts 19 = .ok (.getfield 36, 3) := by decide +kernel
theorem dX10_readTexts_22 : decode cX10_readTexts 22 = .ok (.getfield 130, 3) := by decide +kernel
theorem dX10_readTexts_25 : decode cX10_readTexts 25 = .ok (.invokevirtual 372, 3) := by decide +kernel
theorem dX10_readTexts_28 : decode cX10_readTexts 28 = .ok (.aload_n 0, 1) := by decide +kernel
theorem dX10_readTexts_29 : decode cX10_readTexts 29 = .ok (.invokevirtual 139, 3) := by decide +kernel
theorem dX10_readTexts_32 : decode cX10_readTexts 32 = .ok (.return_, 1) := by decide +kernel
theorem dX10_unsettle_0 : decode cX10_unsettle 0 = .ok (.aload_n 0, 1) := by decide +kernel
theorem dX10_unsettle_1 : decode cX10_unsettle 1 = .ok (.iconst 0, 1) := by decide +kernel
theorem dX10_unsettle_2 : decode cX10_unsettle 2 = .ok (.putfield 86, 3) := by decide +kernel
theorem dX10_unsettle_5 : decode cX10_unsettle 5 = .ok (.aload_n 0, 1) := by decide +kernel
theorem dX10_unsettle_6 : decode cX10_unsettle 6 = .ok (.getfield 61, 3) := by decide +kernel
theorem dX10_unsettle_9 : decode cX10_unsettle 9 = .ok (.invokevirtual 376, 3) := by decide +kernel
theorem dX10_unsettle_12 : decode cX10_unsettle 12 = .ok (.aload_n 0, 1) := by decide +kernel
theorem dX10_unsettle_13 : decode cX10_unsettle 13 = .ok (.getfield 68, 3) := by decide +kernel
theorem dX10_unsettle_16 : decode cX10_unsettle 16 = .ok (.invokevirtual 232, 3) := by decide +kernel
theorem dX10_unsettle_19 : decode cX10_unsettle 19 = .ok (.aload_n 0, 1) := by decide +kernel
theorem dX10_unsettle_20 : decode cX10_unsettle 20 = .ok (.getfield 75, 3) := by decide +kernel
theorem dX10_unsettle_23 : decode cX10_unsettle 23 = .ok (.invokevirtual 377, 3) := by decide +kernel
theorem dX10_unsettle_26 : decode cX10_unsettle 26 = .ok (.return_, 1) := by decide +kernel
theorem dX10_settle_0 : decode cX10_settle 0 = .ok (.aload_n 0, 1) := by decide +kernel
theorem dX10_settle_1 : decode cX10_settle 1 = .ok (.getfield 86, 3) := by decide +kernel
theorem dX10_settle_4 : decode cX10_settle 4 = .ok (.ifCond .ne 17, 3) := by decide +kernel
theorem dX10_settle_7 : decode cX10_settle 7 = .ok (.aload_n 0, 1) := by decide +kernel
theorem dX10_settle_8 : decode cX10_settle 8 = .ok (.getfield 45, 3) := by decide +kernel
theorem dX10_settle_11 : decode cX10_settle 11 = .ok (.bipush 23, 2) := by decide +kernel
theorem dX10_settle_13 : decode cX10_settle 13 = .ok (.invokevirtual 378, 3) := by decide +kernel
theorem dX10_settle_16 : decode cX10_settle 16 = .ok (.aload_n 0, 1) := by decide +kernel
theorem dX10_settle_17 : decode cX10_settle 17 = .ok (.iconst 1, 1) := by decide +kernel
theorem dX10_settle_18 : decode cX10_settle 18 = .ok (.putfield 86, 3) := by decide +kernel
theorem dX10_settle_21 : decode cX10_settle 21 = .ok (.return_, 1) := by decide +kernel
