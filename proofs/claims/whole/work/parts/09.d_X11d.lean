theorem dX11_years_0 : decode cX11_years 0 = .ok (.iload_n 2, 1) := by decide +kernel
theorem dX11_years_1 : decode cX11_years 1 = .ok (.iconst 1, 1) := by decide +kernel
theorem dX11_years_2 : decode cX11_years 2 = .ok (.bipush 10, 2) := by decide +kernel
theorem dX11_years_4 : decode cX11_years 4 = .ok (.invokestatic 140, 3) := by decide +kernel
theorem dX11_years_7 : decode cX11_years 7 = .ok (.ifCond .eq 22, 3) := by decide +kernel
theorem dX11_years_10 : decode cX11_years 10 = .ok (.iload_n 3, 1) := by decide +kernel
theorem dX11_years_11 : decode cX11_years 11 = .ok (.iconst 0, 1) := by decide +kernel
theorem dX11_years_12 : decode cX11_years 12 = .ok (.iconst 1, 1) := by decide +kernel
theorem dX11_years_13 : decode cX11_years 13 = .ok (.invokestatic 140, 3) := by decide +kernel
theorem dX11_years_16 : decode cX11_years 16 = .ok (.ifCond .eq 13, 3) := by decide +kernel
theorem dX11_years_19 : decode cX11_years 19 = .ok (.aload_n 0, 1) := by decide +kernel
theorem dX11_years_20 : decode cX11_years 20 = .ok (.iload_n 1, 1) := by decide +kernel
theorem dX11_years_21 : decode cX11_years 21 = .ok (.iload_n 2, 1) := by decide +kernel
theorem dX11_years_22 : decode cX11_years 22 = .ok (.iload_n 3, 1) := by decide +kernel
theorem dX11_years_23 : decode cX11_years 23 = .ok (.invokevirtual 352, 3) := by decide +kernel
theorem dX11_years_26 : decode cX11_years 26 = .ok (.goto 5, 3) := by decide +kernel
theorem dX11_years_29 : decode cX11_years 29 = .ok (.bipush (-2), 2) := by decide +kernel
theorem dX11_years_31 : decode cX11_years 31 = .ok (.ireturn, 1) := by decide +kernel
theorem dX11_meets_0 : decode cX11_meets 0 = .ok (.aload_n 0, 1) := by decide +kernel
theorem dX11_meets_1 : decode cX11_meets 1 = .ok (.iload_n 1, 1) := by decide +kernel
theorem dX11_meets_2 : decode cX11_meets 2 = .ok (.putfield 355, 3) := by decide +kernel
theorem dX11_meets_5 : decode cX11_meets 5 = .ok (.bipush (-10), 2) := by decide +kernel
theorem dX11_meets_7 : decode cX11_meets 7 = .ok (.iload_n 1, 1) := by decide +kernel
theorem dX11_meets_8 : decode cX11_meets 8 = .ok (.isub, 1) := by decide +kernel
theorem dX11_meets_9 : decode cX11_meets 9 = .ok (.ireturn, 1) := by decide +kernel
theorem dX11_isSheet_0 : decode cX11_isSheet 0 = .ok (.iload_n 0, 1) := by decide +kernel
theorem dX11_isSheet_1 : decode cX11_isSheet 1 = .ok (.iconst 0, 1) := by decide +kernel
theorem dX11_isSheet_2 : decode cX11_isSheet 2 = .ok (.iconst 3, 1) := by decide +kernel
theorem dX11_isSheet_3 : decode cX11_isSheet 3 = .ok (.invokestatic 140, 3) := by decide +kernel
theorem dX11_isSheet_6 : decode cX11_isSheet 6 = .ok (.ireturn, 1) := by decide +kernel
theorem dX11_sheet_0 : decode cX11_sheet 0 = .ok (.iload_n 1, 1) := by decide +kernel
theorem dX11_sheet_1 : decode cX11_sheet 1 = .ok (.invokestatic 201, 3) := by decide +kernel
theorem dX11_sheet_4 : decode cX11_sheet 4 = .ok (.ifCond .eq 18, 3) := by decide +kernel
theorem dX11_sheet_7 : decode cX11_sheet 7 = .ok (.iload_n 2, 1) := by decide +kernel
theorem dX11_sheet_8 : decode cX11_sheet 8 = .ok (.iconst 0, 1) := by decide +kernel
theorem dX11_sheet_9 : decode cX11_sheet 9 = .ok (.iconst 2, 1) := by decide +kernel
theorem dX11_sheet_10 : decode cX11_sheet 10 = .ok (.invokestatic 140, 3) := by decide +kernel
theorem dX11_sheet_13 : decode cX11_sheet 13 = .ok (.ifCond .eq 9, 3) := by decide +kernel
theorem dX11_sheet_16 : decode cX11_sheet 16 = .ok (.iload_n 3, 1) := by decide +kernel
theorem dX11_sheet_17 : decode cX11_sheet 17 = .ok (.bipush 60, 2) := by decide +kernel
theorem dX11_sheet_19 : decode cX11_sheet 19 = .ok (.if_icmp .le 6, 3) := by decide +kernel
theorem dX11_sheet_22 : decode cX11_sheet 22 = .ok (.bipush (-2), 2) := by decide +kernel
theorem dX11_sheet_24 : decode cX11_sheet 24 = .ok (.ireturn, 1) := by decide +kernel
theorem dX11_sheet_25 : decode cX11_sheet 25 = .ok (.iload_n 3, 1) := by decide +kernel
theorem dX11_sheet_26 : decode cX11_sheet 26 = .ok (.ifCond .ge 9, 3) := by decide +kernel
theorem dX11_sheet_29 : decode cX11_sheet 29 = .ok (.aload_n 0, 1) := by decide +kernel
theorem dX11_sheet_30 : decode cX11_sheet 30 = .ok (.iconst 5, 1) := by decide +kernel
theorem dX11_sheet_31 : decode cX11_sheet 31 = .ok (.invokevirtual 204, 3) := by decide +kernel
theorem dX11_sheet_34 : decode cX11_sheet 34 = .ok (.ireturn, 1) := by decide +kernel
theorem dX11_sheet_35 : decode cX11_sheet 35 = .ok (.aload_n 0, 1) := by decide +kernel
theorem dX11_sheet_36 : decode cX11_sheet 36 = .ok (.getfield 115, 3) := by decide +kernel
theorem dX11_sheet_39 : decode cX11_sheet 39 = .ok (.iload_n 1, 1) := by decide +kernel
theorem dX11_sheet_40 : decode cX11_sheet 40 = .ok (.iconst 1, 1) := by decide +kernel
theorem dX11_sheet_41 : decode cX11_sheet 41 = .ok (.bastore, 1) := by decide +kernel
theorem dX11_sheet_42 : decode cX11_sheet 42 = .ok (.aload_n 0, 1) := by decide +kernel
theorem dX11_sheet_43 : decode cX11_sheet 43 = .ok (.getfield 119, 3) := by decide +kernel
theorem dX11_sheet_46 : decode cX11_sheet 46 = .ok (.iload_n 1, 1) := by decide +kernel
theorem dX11_sheet_47 : decode cX11_sheet 47 = .ok (.iload_n 2, 1) := by decide +kernel
theorem dX11_sheet_48 : decode cX11_sheet 48 = .ok (.iastore, 1) := by decide +kernel
theorem dX11_sheet_49 : decode cX11_sheet 49 = .ok (.aload_n 0, 1) := by decide +kernel
theorem dX11_sheet_50 : decode cX11_sheet 50 = .ok (.getfield 122, 3) := by decide +kernel
theorem dX11_sheet_53 : decode cX11_sheet 53 = .ok (.iload_n 1, 1) := by decide +kernel
theorem dX11_sheet_54 : decode cX11_sheet 54 = .ok (.iload_n 3, 1) := by decide +kernel
theorem dX11_sheet_55 : decode cX11_sheet 55 = .ok (.iastore, 1) := by decide +kernel
theorem dX11_sheet_56 : decode cX11_sheet 56 = .ok (.iconst 0, 1) := by decide +kernel
theorem dX11_sheet_57 : decode cX11_sheet 57 = .ok (.istore 4, 2) := by decide +kernel
theorem dX11_sheet_59 : decode cX11_sheet 59 = .ok (.iload 4, 2) := by decide +kernel
theorem dX11_sheet_61 : decode cX11_sheet 61 = .ok (.bipush 60, 2) := by decide +kernel
theorem dX11_sheet_63 : decode cX11_sheet 63 = .ok (.if_icmp .ge 22, 3) := by decide +kernel
theorem dX11_sheet_66 : decode cX11_sheet 66 = .ok (.aload_n 0, 1) := by decide +kernel
theorem dX11_sheet_67 : decode cX11_sheet 67 = .ok (.getfield 125, 3) := by decide +kernel
theorem dX11_sheet_70 : decode cX11_sheet 70 = .ok (.bipush 60, 2) := by decide +kernel
theorem dX11_sheet_72 : decode cX11_sheet 72 = .ok (.iload_n 1, 1) := by decide +kernel
theorem dX11_sheet_73 : decode cX11_sheet 73 = .ok (.imul, 1) := by decide +kernel
theorem dX11_sheet_74 : decode cX11_sheet 74 = .ok (.iload 4, 2) := by decide +kernel
theorem dX11_sheet_76 : decode cX11_sheet 76 = .ok (.iadd, 1) := by decide +kernel
theorem dX11_sheet_77 : decode cX11_sheet 77 = .ok (.iconst 0, 1) := by decide +kernel
theorem dX11_sheet_78 : decode cX11_sheet 78 = .ok (.iastore, 1) := by decide +kernel
theorem dX11_sheet_79 : decode cX11_sheet 79 = .ok (.iinc 4 1, 3) := by decide +kernel
theorem dX11_sheet_82 : decode cX11_sheet 82 = .ok (.goto (-23), 3) := by decide +kernel
theorem dX11_sheet_85 : decode cX11_sheet 85 = .ok (.iload_n 3, 1) := by decide +kernel
theorem dX11_sheet_86 : decode cX11_sheet 86 = .ok (.ireturn, 1) := by decide +kernel
theorem dX11_lose_0 : decode cX11_lose 0 = .ok (.iload_n 1, 1) := by decide +kernel
theorem dX11_lose_1 : decode cX11_lose 1 = .ok (.invokestatic 201, 3) := by decide +kernel
theorem dX11_lose_4 : decode cX11_lose 4 = .ok (.ifCond .ne 6, 3) := by decide +kernel
theorem dX11_lose_7 : decode cX11_lose 7 = .ok (.bipush (-2), 2) := by decide +kernel
theorem dX11_lose_9 : decode cX11_lose 9 = .ok (.ireturn, 1) := by decide +kernel
theorem dX11_lose_10 : decode cX11_lose 10 = .ok (.aload_n 0, 1) := by decide +kernel
theorem dX11_lose_11 : decode cX11_lose 11 = .ok (.getfield 115, 3) := by decide +kernel
theorem dX11_lose_14 : decode cX11_lose 14 = .ok (.iload_n 1, 1) := by decide +kernel
theorem dX11_lose_15 : decode cX11_lose 15 = .ok (.baload, 1) := by decide +kernel
theorem dX11_lose_16 : decode cX11_lose 16 = .ok (.ifCond .ne 9, 3) := by decide +kernel
theorem dX11_lose_19 : decode cX11_lose 19 = .ok (.aload_n 0, 1) := by decide +kernel
theorem dX11_lose_20 : decode cX11_lose 20 = .ok (.iconst 1, 1) := by decide +kernel
theorem dX11_lose_21 : decode cX11_lose 21 = .ok (.invokevirtual 204, 3) := by decide +kernel
theorem dX11_lose_24 : decode cX11_lose 24 = .ok (.ireturn, 1) := by decide +kernel
theorem dX11_lose_25 : decode cX11_lose 25 = .ok (.aload_n 0, 1) := by decide +kernel
theorem dX11_lose_26 : decode cX11_lose 26 = .ok (.getfield 115, 3) := by decide +kernel
theorem dX11_lose_29 : decode cX11_lose 29 = .ok (.iload_n 1, 1) := by decide +kernel
theorem dX11_lose_30 : decode cX11_lose 30 = .ok (.iconst 0, 1) := by decide +kernel
theorem dX11_lose_31 : decode cX11_lose 31 = .ok (.bastore, 1) := by decide +kernel
theorem dX11_lose_32 : decode cX11_lose 32 = .ok (.aload_n 0, 1) := by decide +kernel
theorem dX11_lose_33 : decode cX11_lose 33 = .ok (.getfield 122, 3) := by decide +kernel
theorem dX11_lose_36 : decode cX11_lose 36 = .ok (.iload_n 1, 1) := by decide +kernel
theorem dX11_lose_37 : decode cX11_lose 37 = .ok (.iaload, 1) := by decide +kernel
theorem dX11_lose_38 : decode cX11_lose 38 = .ok (.ireturn, 1) := by decide +kernel
theorem dX11_lacks_0 : decode cX11_lacks 0 = .ok (.aload_n 0, 1) := by decide +kernel
theorem dX11_lacks_1 : decode cX11_lacks 1 = .ok (.getfield 115, 3) := by decide +kernel
theorem dX11_lacks_4 : decode cX11_lacks 4 = .ok (.iload_n 1, 1) := by decide +kernel
theorem dX11_lacks_5 : decode cX11_lacks 5 = .ok (.baload, 1) := by decide +kernel
theorem dX11_lacks_6 : decode cX11_lacks 6 = .ok (.ifCond .ne 7, 3) := by decide +kernel
theorem dX11_lacks_9 : decode cX11_lacks 9 = .ok (.iconst 1, 1) := by decide +kernel
theorem dX11_lacks_10 : decode cX11_lacks 10 = .ok (.goto 38, 3) := by decide +kernel
theorem dX11_lacks_13 : decode cX11_lacks 13 = .ok (.aload_n 0, 1) := by decide +kernel
theorem dX11_lacks_14 : decode cX11_lacks 14 = .ok (.getfield 119, 3) := by decide +kernel
theorem dX11_lacks_17 : decode cX11_lacks 17 = .ok (.iload_n 1, 1) := by decide +kernel
theorem dX11_lacks_18 : decode cX11_lacks 18 = .ok (.iaload, 1) := by decide +kernel
theorem dX11_lacks_19 : decode cX11_lacks 19 = .ok (.iload_n 2, 1) := by decide +kernel
theorem dX11_lacks_20 : decode cX11_lacks 20 = .ok (.if_icmp .eq 7, 3) := by decide +kernel
theorem dX11_lacks_23 : decode cX11_lacks 23 = .ok (.iconst 3, 1) := by decide +kernel
theorem dX11_lacks_24 : decode cX11_lacks 24 = .ok (.goto 24, 3) := by decide +kernel
theorem dX11_lacks_27 : decode cX11_lacks 27 = .ok (.iload_n 3, 1) := by decide +kernel
theorem dX11_lacks_28 : decode cX11_lacks 28 = .ok (.iconst 0, 1) := by decide +kernel
theorem dX11_lacks_29 : decode cX11_lacks 29 = .ok (.aload_n 0, 1) := by decide +kernel
theorem dX11_lacks_30 : decode cX11_lacks 30 = .ok (.getfield 122, 3) := by decide +kernel
theorem dX11_lacks_33 : decode cX11_lacks 33 = .ok (.iload_n 1, 1) := by decide +kernel
theorem dX11_lacks_34 : decode cX11_lacks 34 = .ok (.iaload, 1) := by decide +kernel
theorem dX11_lacks_35 : decode cX11_lacks 35 = .ok (.iconst 1, 1) := by decide +kernel
theorem dX11_lacks_36 : decode cX11_lacks 36 = .ok (.isub, 1) := by decide +kernel
theorem dX11_lacks_37 : decode cX11_lacks 37 = .ok (.invokestatic 140, 3) := by decide +kernel
theorem dX11_lacks_40 : decode cX11_lacks 40 = .ok (.ifCond .eq 7, 3) := by decide +kernel
theorem dX11_lacks_43 : decode cX11_lacks 43 = .ok (.iconst 0, 1) := by decide +kernel
theorem dX11_lacks_44 : decode cX11_lacks 44 = .ok (.goto 4, 3) := by decide +kernel
theorem dX11_lacks_47 : decode cX11_lacks 47 = .ok (.iconst 2, 1) := by decide +kernel
theorem dX11_lacks_48 : decode cX11_lacks 48 = .ok (.ireturn, 1) := by decide +kernel
theorem dX11_keep_0 : decode cX11_keep 0 = .ok (.aload_n 0, 1) := by decide +kernel
theorem dX11_keep_1 : decode cX11_keep 1 = .ok (.getfield 125, 3) := by decide +kernel
theorem dX11_keep_4 : decode cX11_keep 4 = .ok (.bipush 60, 2) := by decide +kernel
theorem dX11_keep_6 : decode cX11_keep 6 = .ok (.iload_n 1, 1) := by decide +kernel
theorem dX11_keep_7 : decode cX11_keep 7 = .ok (.imul, 1) := by decide +kernel
theorem dX11_keep_8 : decode cX11_keep 8 = .ok (.iload_n 2, 1) := by decide +kernel
theorem dX11_keep_9 : decode cX11_keep 9 = .ok (.iadd, 1) := by decide +kernel
theorem dX11_keep_10 : decode cX11_keep 10 = .ok (.aload_n 0, 1) := by decide +kernel
theorem dX11_keep_11 : decode cX11_keep 11 = .ok (.getfield 119, 3) := by decide +kernel
theorem dX11_keep_14 : decode cX11_keep 14 = .ok (.iload_n 1, 1) := by decide +kernel
theorem dX11_keep_15 : decode cX11_keep 15 = .ok (.iaload, 1) := by decide +kernel
theorem dX11_keep_16 : decode cX11_keep 16 = .ok (.ifCond .ne 8, 3) := by decide +kernel
theorem dX11_keep_19 : decode cX11_keep 19 = .ok (.iload_n 3, 1) := by decide +kernel
theorem dX11_keep_20 : decode cX11_keep 20 = .ok (.i2b, 1) := by decide +kernel
theorem dX11_keep_21 : decode cX11_keep 21 = .ok (.goto 19, 3) := by decide +kernel
theorem dX11_keep_24 : decode cX11_keep 24 = .ok (.aload_n 0, 1) := by decide +kernel
theorem dX11_keep_25 : decode cX11_keep 25 = .ok (.getfield 119, 3) := by decide +kernel
theorem dX11_keep_28 : decode cX11_keep 28 = .ok (.iload_n 1, 1) := by decide +kernel
theorem dX11_keep_29 : decode cX11_keep 29 = .ok (.iaload, 1) := by decide +kernel
theorem dX11_keep_30 : decode cX11_keep 30 = .ok (.iconst 1, 1) := by decide +kernel
theorem dX11_keep_31 : decode cX11_keep 31 = .ok (.if_icmp .ne 8, 3) := by decide +kernel
theorem dX11_keep_34 : decode cX11_keep 34 = .ok (.iload_n 3, 1) := by decide +kernel
theorem dX11_keep_35 : decode cX11_keep 35 = .ok (.i2s, 1) := by decide +kernel
theorem dX11_keep_36 : decode cX11_keep 36 = .ok (.goto 4, 3) := by decide +kernel
theorem dX11_keep_39 : decode cX11_keep 39 = .ok (.iload_n 3, 1) := by decide +kernel
theorem dX11_keep_40 : decode cX11_keep 40 = .ok (.iastore, 1) := by decide +kernel
theorem dX11_keep_41 : decode cX11_keep 41 = .ok (.return_, 1) := by decide +kernel
theorem dX11_put_0 : decode cX11_put 0 = .ok (.iload_n 1, 1) := by decide +kernel
theorem dX11_put_1 : decode cX11_put 1 = .ok (.invokestatic 201, 3) := by decide +kernel
theorem dX11_put_4 : decode cX11_put 4 = .ok (.ifCond .eq 12, 3) := by decide +kernel
theorem dX11_put_7 : decode cX11_put 7 = .ok (.iload_n 2, 1) := by decide +kernel
theorem dX11_put_8 : decode cX11_put 8 = .ok (.iconst 0, 1) := by decide +kernel
theorem dX11_put_9 : decode cX11_put 9 = .ok (.iconst 2, 1) := by decide +kernel
theorem dX11_put_10 : decode cX11_put 10 = .ok (.invokestatic 140, 3) := by decide +kernel
theorem dX11_put_13 : decode cX11_put 13 = .ok (.ifCond .ne 6, 3) := by decide +kernel
theorem dX11_put_16 : decode cX11_put 16 = .ok (.bipush (-2), 2) := by decide +kernel
theorem dX11_put_18 : decode cX11_put 18 = .ok (.ireturn, 1) := by decide +kernel
theorem dX11_put_19 : decode cX11_put 19 = .ok (.aload_n 0, 1) := by decide +kernel
theorem dX11_put_20 : decode cX11_put 20 = .ok (.iload_n 1, 1) := by decide +kernel
theorem dX11_put_21 : decode cX11_put 21 = .ok (.iload_n 2, 1) := by decide +kernel
theorem dX11_put_22 : decode cX11_put 22 = .ok (.iload_n 3, 1) := by decide +kernel
theorem dX11_put_23 : decode cX11_put 23 = .ok (.invokevirtual 358, 3) := by decide +kernel
theorem dX11_put_26 : decode cX11_put 26 = .ok (.istore 5, 2) := by decide +kernel
theorem dX11_put_28 : decode cX11_put 28 = .ok (.iload 5, 2) := by decide +kernel
theorem dX11_put_30 : decode cX11_put 30 = .ok (.ifCond .le 10, 3) := by decide +kernel
theorem dX11_put_33 : decode cX11_put 33 = .ok (.aload_n 0, 1) := by decide +kernel
theorem dX11_put_34 : decode cX11_put 34 = .ok (.iload 5, 2) := by decide +kernel
theorem dX11_put_36 : decode cX11_put 36 = .ok (.invokevirtual 204, 3) := by decide +kernel
theorem dX11_put_39 : decode cX11_put 39 = .ok (.ireturn, 1) := by decide +kernel
theorem dX11_put_40 : decode cX11_put 40 = .ok (.aload_n 0, 1) := by decide +kernel
theorem dX11_put_41 : decode cX11_put 41 = .ok (.iload_n 1, 1) := by decide +kernel
theorem dX11_put_42 : decode cX11_put 42 = .ok (.iload_n 3, 1) := by decide +kernel
theorem dX11_put_43 : decode cX11_put 43 = .ok (.iload 4, 2) := by decide +kernel
theorem dX11_put_45 : decode cX11_put 45 = .ok (.invokevirtual 361, 3) := by decide +kernel
theorem dX11_put_48 : decode cX11_put 48 = .ok (.iconst 1, 1) := by decide +kernel
theorem dX11_put_49 : decode cX11_put 49 = .ok (.ireturn, 1) := by decide +kernel
theorem dX11_get_0 : decode cX11_get 0 = .ok (.iload_n 1, 1) := by decide +kernel
theorem dX11_get_1 : decode cX11_get 1 = .ok (.invokestatic 201, 3) := by decide +kernel
theorem dX11_get_4 : decode cX11_get 4 = .ok (.ifCond .eq 12, 3) := by decide +kernel
theorem dX11_get_7 : decode cX11_get 7 = .ok (.iload_n 2, 1) := by decide +kernel
theorem dX11_get_8 : decode cX11_get 8 = .ok (.iconst 0, 1) := by decide +kernel
theorem dX11_get_9 : decode cX11_get 9 = .ok (.iconst 2, 1) := by decide +kernel
theorem dX11_get_10 : decode cX11_get 10 = .ok (.invokestatic 140, 3) := by decide +kernel
theorem dX11_get_13 : decode cX11_get 13 = .ok (.ifCond .ne 7, 3) := by decide +kernel
theorem dX11_get_16 : decode cX11_get 16 = .ok (.ldc_w 365, 3) := by decide +kernel
theorem dX11_get_19 : decode cX11_get 19 = .ok (.ireturn, 1) := by decide +kernel
theorem dX11_get_20 : decode cX11_get 20 = .ok (.aload_n 0, 1) := by decide +kernel
theorem dX11_get_21 : decode cX11_get 21 = .ok (.iload_n 1, 1) := by decide +kernel
theorem dX11_get_22 : decode cX11_get 22 = .ok (.iload_n 2, 1) := by decide +kernel
theorem dX11_get_23 : decode cX11_get 23 = .ok (.iload_n 3, 1) := by decide +kernel
theorem dX11_get_24 : decode cX11_get 24 = .ok (.invokevirtual 358, 3) := by decide +kernel
theorem dX11_get_27 : decode cX11_get 27 = .ok (.istore 4, 2) := by decide +kernel
theorem dX11_get_29 : decode cX11_get 29 = .ok (.iload 4, 2) := by decide +kernel
theorem dX11_get_31 : decode cX11_get 31 = .ok (.ifCond .le 13, 3) := by decide +kernel
theorem dX11_get_34 : decode cX11_get 34 = .ok (.aload_n 0, 1) := by decide +kernel
theorem dX11_get_35 : decode cX11_get 35 = .ok (.iload 4, 2) := by decide +kernel
theorem dX11_get_37 : decode cX11_get 37 = .ok (.putfield 355, 3) := by decide +kernel
theorem dX11_get_40 : decode cX11_get 40 = .ok (.ldc_w 365, 3) := by decide +kernel
theorem dX11_get_43 : decode cX11_get 43 = .ok (.ireturn, 1) := by decide +kernel
theorem dX11_get_44 : decode cX11_get 44 = .ok (.aload_n 0, 1) := by decide +kernel
theorem dX11_get_45 : decode cX11_get 45 = .ok (.getfield 125, 3) := by decide +kernel
theorem dX11_get_48 : decode cX11_get 48 = .ok (.bipush 60, 2) := by decide +kernel
theorem dX11_get_50 : decode cX11_get 50 = .ok (.iload_n 1, 1) := by decide +kernel
theorem dX11_get_51 : decode cX11_get 51 = .ok (.imul, 1) := by decide +kernel
theorem dX11_get_52 : decode cX11_get 52 = .ok (.iload_n 3, 1) := by decide +kernel
theorem dX11_get_53 : decode cX11_get 53 = .ok (.iadd, 1) := by decide +kernel
theorem dX11_get_54 : decode cX11_get 54 = .ok (.iaload, 1) := by decide +kernel
theorem dX11_get_55 : decode cX11_get 55 = .ok (.ireturn, 1) := by decide +kernel
theorem dX11_copy_0 : decode cX11_copy 0 = .ok (.iload_n 1, 1) := by decide +kernel
theorem dX11_copy_1 : decode cX11_copy 1 = .ok (.invokestatic 201, 3) := by decide +kernel
theorem dX11_copy_4 : decode cX11_copy 4 = .ok (.ifCond .eq 10, 3) := by decide +kernel
theorem dX11_copy_7 : decode cX11_copy 7 = .ok (.iload_n 3, 1) := by decide +kernel
theorem dX11_copy_8 : decode cX11_copy 8 = .ok (.invokestatic 201, 3) := by decide +kernel
theorem dX11_copy_11 : decode cX11_copy 11 = .ok (.ifCond .ne 6, 3) := by decide +kernel
theorem dX11_copy_14 : decode cX11_copy 14 = .ok (.bipush (-2), 2) := by decide +kernel
theorem dX11_copy_16 : decode cX11_copy 16 = .ok (.ireturn, 1) := by decide +kernel
theorem dX11_copy_17 : decode cX11_copy 17 = .ok (.aload_n 0, 1) := by decide +kernel
theorem dX11_copy_18 : decode cX11_copy 18 = .ok (.getfield 115, 3) := by decide +kernel
theorem dX11_copy_21 : decode cX11_copy 21 = .ok (.iload_n 1, 1) := by decide +kernel
theorem dX11_copy_22 : decode cX11_copy 22 = .ok (.baload, 1) := by decide +kernel
theorem dX11_copy_23 : decode cX11_copy 23 = .ok (.ifCond .eq 12, 3) := by decide +kernel
theorem dX11_copy_26 : decode cX11_copy 26 = .ok (.aload_n 0, 1) := by decide +kernel
theorem dX11_copy_27 : decode cX11_copy 27 = .ok (.getfield 115, 3) := by decide +kernel
theorem dX11_copy_30 : decode cX11_copy 30 = .ok (.iload_n 3, 1) := by decide +kernel
theorem dX11_copy_31 : decode cX11_copy 31 = .ok (.baload, 1) := by decide +kernel
theorem dX11_copy_32 : decode cX11_copy 32 = .ok (.ifCond .ne 9, 3) := by decide +kernel
theorem dX11_copy_35 : decode cX11_copy 35 = .ok (.aload_n 0, 1) := by decide +kernel
theorem dX11_copy_36 : decode cX11_copy 36 = .ok (.iconst 1, 1) := by decide +kernel
theorem dX11_copy_37 : decode cX11_copy 37 = .ok (.invokevirtual 204, 3) := by decide +kernel
theorem dX11_copy_40 : decode cX11_copy 40 = .ok (.ireturn, 1) := by decide +kernel
theorem dX11_copy_41 : decode cX11_copy 41 = .ok (.aload_n 0, 1) := by decide +kernel
theorem dX11_copy_42 : decode cX11_copy 42 = .ok (.getfield 119, 3) := by decide +kernel
theorem dX11_copy_45 : decode cX11_copy 45 = .ok (.iload_n 1, 1) := by decide +kernel
theorem dX11_copy_46 : decode cX11_copy 46 = .ok (.iaload, 1) := by decide +kernel
theorem dX11_copy_47 : decode cX11_copy 47 = .ok (.aload_n 0, 1) := by decide +kernel
theorem dX11_copy_48 : decode cX11_copy 48 = .ok (.getfield 119, 3) := by decide +kernel
theorem dX11_copy_51 : decode cX11_copy 51 = .ok (.iload_n 3, 1) := by decide +kernel
theorem dX11_copy_52 : decode cX11_copy 52 = .ok (.iaload, 1) := by decide +kernel
theorem dX11_copy_53 : decode cX11_copy 53 = .ok (.if_icmp .eq 9, 3) := by decide +kernel
theorem dX11_copy_56 : decode cX11_copy 56 = .ok (.aload_n 0, 1) := by decide +kernel
theorem dX11_copy_57 : decode cX11_copy 57 = .ok (.iconst 4, 1) := by decide +kernel
theorem dX11_copy_58 : decode cX11_copy 58 = .ok (.invokevirtual 204, 3) := by decide +kernel
theorem dX11_copy_61 : decode cX11_copy 61 = .ok (.ireturn, 1) := by decide +kernel
theorem dX11_copy_62 : decode cX11_copy 62 = .ok (.iload_n 2, 1) := by decide +kernel
theorem dX11_copy_63 : decode cX11_copy 63 = .ok (.ifCond .lt 48, 3) := by decide +kernel
theorem dX11_copy_66 : decode cX11_copy 66 = .ok (.iload 4, 2) := by decide +kernel
theorem dX11_copy_68 : decode cX11_copy 68 = .ok (.ifCond .lt 43, 3) := by decide +kernel
theorem dX11_copy_71 : decode cX11_copy 71 = .ok (.iload 5, 2) := by decide +kernel
theorem dX11_copy_73 : decode cX11_copy 73 = .ok (.ifCond .lt 38, 3) := by decide +kernel
theorem dX11_copy_76 : decode cX11_copy 76 = .ok (.iload_n 2, 1) := by decide +kernel
theorem dX11_copy_77 : decode cX11_copy 77 = .ok (.i2l, 1) := by decide +kernel
theorem dX11_copy_78 : decode cX11_copy 78 = .ok (.iload 5, 2) := by decide +kernel
theorem dX11_copy_80 : decode cX11_copy 80 = .ok (.i2l, 1) := by decide +kernel
theorem dX11_copy_81 : decode cX11_copy 81 = .ok (.ladd, 1) := by decide +kernel
theorem dX11_copy_82 : decode cX11_copy 82 = .ok (.aload_n 0, 1) := by decide +kernel
theorem dX11_copy_83 : decode cX11_copy 83 = .ok (.getfield 122, 3) := by decide +kernel
theorem dX11_copy_86 : decode cX11_copy 86 = .ok (.iload_n 1, 1) := by decide +kernel
theorem dX11_copy_87 : decode cX11_copy 87 = .ok (.iaload, 1) := by decide +kernel
theorem dX11_copy_88 : decode cX11_copy 88 = .ok (.i2l, 1) := by decide +kernel
theorem dX11_copy_89 : decode cX11_copy 89 = .ok (.lcmp, 1) := by decide +kernel
theorem dX11_copy_90 : decode cX11_copy 90 = .ok (.ifCond .gt 21, 3) := by decide +kernel
theorem dX11_copy_93 : decode cX11_copy 93 = .ok (.iload 4, 2) := by decide +kernel
theorem dX11_copy_95 : decode cX11_copy 95 = .ok (.i2l, 1) := by decide +kernel
theorem dX11_copy_96 : decode cX11_copy 96 = .ok (.iload 5, 2) := by decide +kernel
theorem dX11_copy_98 : decode cX11_copy 98 = .ok (.i2l, 1) := by decide +kernel
theorem dX11_copy_99 : decode cX11_copy 99 = .ok (.ladd, 1) := by decide +kernel
theorem dX11_copy_100 : decode cX11_copy 100 = .ok (.aload_n 0, 1) := by decide +kernel
theorem dX11_copy_101 : decode cX11_copy 101 = .ok (.getfield 122, 3) := by decide +kernel
theorem dX11_copy_104 : decode cX11_copy 104 = .ok (.iload_n 3, 1) := by decide +kernel
theorem dX11_copy_105 : decode cX11_copy 105 = .ok (.iaload, 1) := by decide +kernel
theorem dX11_copy_106 : decode cX11_copy 106 = .ok (.i2l, 1) := by decide +kernel
theorem dX11_copy_107 : decode cX11_copy 107 = .ok (.lcmp, 1) := by decide +kernel
theorem dX11_copy_108 : decode cX11_copy 108 = .ok (.ifCond .le 9, 3) := by decide +kernel
theorem dX11_copy_111 : decode cX11_copy 111 = .ok (.aload_n 0, 1) := by decide +kernel
theorem dX11_copy_112 : decode cX11_copy 112 = .ok (.iconst 2, 1) := by decide +kernel
theorem dX11_copy_113 : decode cX11_copy 113 = .ok (.invokevirtual 204, 3) := by decide +kernel
theorem dX11_copy_116 : decode cX11_copy 116 = .ok (.ireturn, 1) := by decide +kernel
theorem dX11_copy_117 : decode cX11_copy 117 = .ok (.iconst 0, 1) := by decide +kernel
theorem dX11_copy_118 : decode cX11_copy 118 = .ok (.istore 6, 2) := by decide +kernel
theorem dX11_copy_120 : decode cX11_copy 120 = .ok (.iload 6, 2) := by decide +kernel
theorem dX11_copy_122 : decode cX11_copy 122 = .ok (.iload 5, 2) := by decide +kernel
theorem dX11_copy_124 : decode cX11_copy 124 = .ok (.if_icmp .ge 30, 3) := by decide +kernel
theorem dX11_copy_127 : decode cX11_copy 127 = .ok (.aload_n 0, 1) := by decide +kernel
theorem dX11_copy_128 : decode cX11_copy 128 = .ok (.getfield 128, 3) := by decide +kernel
theorem dX11_copy_131 : decode cX11_copy 131 = .ok (.iload 6, 2) := by decide +kernel
theorem dX11_copy_133 : decode cX11_copy 133 = .ok (.aload_n 0, 1) := by decide +kernel
theorem dX11_copy_134 : decode cX11_copy 134 = .ok (.getfield 125, 3) := by decide +kernel
theorem dX11_copy_137 : decode cX11_copy 137 = .ok (.bipush 60, 2) := by decide +kernel
theorem dX11_copy_139 : decode cX11_copy 139 = .ok (.iload_n 1, 1) := by decide +kernel
theorem dX11_copy_140 : decode cX11_copy 140 = .ok (.imul, 1) := by decide +kernel
theorem dX11_copy_141 : decode cX11_copy 141 = .ok (.iload_n 2, 1) := by decide +kernel
theorem dX11_copy_142 : decode cX11_copy 142 = .ok (.iadd, 1) := by decide +kernel
theorem dX11_copy_143 : decode cX11_copy 143 = .ok (.iload 6, 2) := by decide +kernel
theorem dX11_copy_145 : decode cX11_copy 145 = .ok (.iadd, 1) := by decide +kernel
theorem dX11_copy_146 : decode cX11_copy 146 = .ok (.iaload, 1) := by decide +kernel
theorem dX11_copy_147 : decode cX11_copy 147 = .ok (.iastore, 1) := by decide +kernel
theorem dX11_copy_148 : decode cX11_copy 148 = .ok (.iinc 6 1, 3) := by decide +kernel
theorem dX11_copy_151 : decode cX11_copy 151 = .ok (.goto (-31), 3) := by decide +kernel
theorem dX11_copy_154 : decode cX11_copy 154 = .ok (.iconst 0, 1) := by decide +kernel
theorem dX11_copy_155 : decode cX11_copy 155 = .ok (.istore 6, 2) := by decide +kernel
theorem dX11_copy_157 : decode cX11_copy 157 = .ok (.iload 6, 2) := by decide +kernel
theorem dX11_copy_159 : decode cX11_copy 159 = .ok (.iload 5, 2) := by decide +kernel
theorem dX11_copy_161 : decode cX11_copy 161 = .ok (.if_icmp .ge 31, 3) := by decide +kernel
theorem dX11_copy_164 : decode cX11_copy 164 = .ok (.aload_n 0, 1) := by decide +kernel
theorem dX11_copy_165 : decode cX11_copy 165 = .ok (.getfield 125, 3) := by decide +kernel
theorem dX11_copy_168 : decode cX11_copy 168 = .ok (.bipush 60, 2) := by decide +kernel
theorem dX11_copy_170 : decode cX11_copy 170 = .ok (.iload_n 3, 1) := by decide +kernel
theorem dX11_copy_171 : decode cX11_copy 171 = .ok (.imul, 1) := by decide +kernel
theorem dX11_copy_172 : decode cX11_copy 172 = .ok (.iload 4, 2) := by decide +kernel
theorem dX11_copy_174 : decode cX11_copy 174 = .ok (.iadd, 1) := by decide +kernel
theorem dX11_copy_175 : decode cX11_copy 175 = .ok (.iload 6, 2) := by decide +kernel
theorem dX11_copy_177 : decode cX11_copy 177 = .ok (.iadd, 1) := by decide +kernel
theorem dX11_copy_178 : decode cX11_copy 178 = .ok (.aload_n 0, 1) := by decide +kernel
theorem dX11_copy_179 : decode cX11_copy 179 = .ok (.getfield 128, 3) := by decide +kernel
theorem dX11_copy_182 : decode cX11_copy 182 = .ok (.iload 6, 2) := by decide +kernel
theorem dX11_copy_184 : decode cX11_copy 184 = .ok (.iaload, 1) := by decide +kernel
theorem dX11_copy_185 : decode cX11_copy 185 = .ok (.iastore, 1) := by decide +kernel
theorem dX11_copy_186 : decode cX11_copy 186 = .ok (.iinc 6 1, 3) := by decide +kernel
theorem dX11_copy_189 : decode cX11_copy 189 = .ok (.goto (-32), 3) := by decide +kernel
theorem dX11_copy_192 : decode cX11_copy 192 = .ok (.iconst 1, 1) := by decide +kernel
theorem dX11_copy_193 : decode cX11_copy 193 = .ok (.ireturn, 1) := by decide +kernel
theorem dX11_write_0 : decode cX11_write 0 = .ok (.aload_n 0, 1) := by decide +kernel
theorem dX11_write_1 : decode cX11_write 1 = .ok (.iload_n 1, 1) := by decide +kernel
theorem dX11_write_2 : decode cX11_write 2 = .ok (.invokevirtual 174, 3) := by decide +kernel
theorem dX11_write_5 : decode cX11_write 5 = .ok (.ifCond .eq 10, 3) := by decide +kernel
theorem dX11_write_8 : decode cX11_write 8 = .ok (.iload_n 2, 1) := by decide +kernel
theorem dX11_write_9 : decode cX11_write 9 = .ok (.invokestatic 201, 3) := by decide +kernel
theorem dX11_write_12 : decode cX11_write 12 = .ok (.ifCond .ne 6, 3) := by decide +kernel
theorem dX11_write_15 : decode cX11_write 15 = .ok (.bipush (-2), 2) := by decide +kernel
theorem dX11_write_17 : decode cX11_write 17 = .ok (.ireturn, 1) := by decide +kernel
theorem dX11_write_18 : decode cX11_write 18 = .ok (.aload_n 0, 1) := by decide +kernel
theorem dX11_write_19 : decode cX11_write 19 = .ok (.getfield 115, 3) := by decide +kernel
theorem dX11_write_22 : decode cX11_write 22 = .ok (.iload_n 2, 1) := by decide +kernel
theorem dX11_write_23 : decode cX11_write 23 = .ok (.baload, 1) := by decide +kernel
theorem dX11_write_24 : decode cX11_write 24 = .ok (.ifCond .ne 9, 3) := by decide +kernel
theorem dX11_write_27 : decode cX11_write 27 = .ok (.aload_n 0, 1) := by decide +kernel
theorem dX11_write_28 : decode cX11_write 28 = .ok (.iconst 1, 1) := by decide +kernel
theorem dX11_write_29 : decode cX11_write 29 = .ok (.invokevirtual 204, 3) := by decide +kernel
theorem dX11_write_32 : decode cX11_write 32 = .ok (.ireturn, 1) := by decide +kernel
theorem dX11_write_33 : decode cX11_write 33 = .ok (.aload_n 0, 1) := by decide +kernel
theorem dX11_write_34 : decode cX11_write 34 = .ok (.invokevirtual 272, 3) := by decide +kernel
theorem dX11_write_37 : decode cX11_write 37 = .ok (.iconst 0, 1) := by decide +kernel
theorem dX11_write_38 : decode cX11_write 38 = .ok (.istore_n 3, 1) := by decide +kernel
theorem dX11_write_39 : decode cX11_write 39 = .ok (.iload_n 3, 1) := by decide +kernel
theorem dX11_write_40 : decode cX11_write 40 = .ok (.aload_n 0, 1) := by decide +kernel
theorem dX11_write_41 : decode cX11_write 41 = .ok (.getfield 122, 3) := by decide +kernel
theorem dX11_write_44 : decode cX11_write 44 = .ok (.iload_n 2, 1) := by decide +kernel
theorem dX11_write_45 : decode cX11_write 45 = .ok (.iaload, 1) := by decide +kernel
theorem dX11_write_46 : decode cX11_write 46 = .ok (.if_icmp .ge 32, 3) := by decide +kernel
theorem dX11_write_49 : decode cX11_write 49 = .ok (.iload_n 3, 1) := by decide +kernel
theorem dX11_write_50 : decode cX11_write 50 = .ok (.bipush 24, 2) := by decide +kernel
theorem dX11_write_52 : decode cX11_write 52 = .ok (.if_icmp .ge 26, 3) := by decide +kernel
theorem dX11_write_55 : decode cX11_write 55 = .ok (.aload_n 0, 1) := by decide +kernel
theorem dX11_write_56 : decode cX11_write 56 = .ok (.iload_n 2, 1) := by decide +kernel
theorem dX11_write_57 : decode cX11_write 57 = .ok (.iload_n 3, 1) := by decide +kernel
theorem dX11_write_58 : decode cX11_write 58 = .ok (.aload_n 0, 1) := by decide +kernel
theorem dX11_write_59 : decode cX11_write 59 = .ok (.getfield 76, 3) := by decide +kernel
theorem dX11_write_62 : decode cX11_write 62 = .ok (.bipush 8, 2) := by decide +kernel
theorem dX11_write_64 : decode cX11_write 64 = .ok (.iload_n 3, 1) := by decide +kernel
theorem dX11_write_65 : decode cX11_write 65 = .ok (.imul, 1) := by decide +kernel
theorem dX11_write_66 : decode cX11_write 66 = .ok (.iload_n 1, 1) := by decide +kernel
theorem dX11_write_67 : decode cX11_write 67 = .ok (.iadd, 1) := by decide +kernel
theorem dX11_write_68 : decode cX11_write 68 = .ok (.iaload, 1) := by decide +kernel
theorem dX11_write_69 : decode cX11_write 69 = .ok (.invokevirtual 361, 3) := by decide +kernel
theorem dX11_write_72 : decode cX11_write 72 = .ok (.iinc 3 1, 3) := by decide +kernel
theorem dX11_write_75 : decode cX11_write 75 = .ok (.goto (-36), 3) := by decide +kernel
theorem dX11_write_78 : decode cX11_write 78 = .ok (.iload_n 3, 1) := by decide +kernel
theorem dX11_write_79 : decode cX11_write 79 = .ok (.ireturn, 1) := by decide +kernel
theorem dX11_sumOf_0 : decode cX11_sumOf 0 = .ok (.aload_n 0, 1) := by decide +kernel
theorem dX11_sumOf_1 : decode cX11_sumOf 1 = .ok (.invokevirtual 272, 3) := by decide +kernel
theorem dX11_sumOf_4 : decode cX11_sumOf 4 = .ok (.iload_n 1, 1) := by decide +kernel
theorem dX11_sumOf_5 : decode cX11_sumOf 5 = .ok (.ifCond .ne 10, 3) := by decide +kernel
theorem dX11_sumOf_8 : decode cX11_sumOf 8 = .ok (.aload_n 0, 1) := by decide +kernel
theorem dX11_sumOf_9 : decode cX11_sumOf 9 = .ok (.getfield 152, 3) := by decide +kernel
theorem dX11_sumOf_12 : decode cX11_sumOf 12 = .ok (.goto 19, 3) := by decide +kernel
theorem dX11_sumOf_15 : decode cX11_sumOf 15 = .ok (.iload_n 1, 1) := by decide +kernel
theorem dX11_sumOf_16 : decode cX11_sumOf 16 = .ok (.iconst 1, 1) := by decide +kernel
theorem dX11_sumOf_17 : decode cX11_sumOf 17 = .ok (.if_icmp .ne 10, 3) := by decide +kernel
theorem dX11_sumOf_20 : decode cX11_sumOf 20 = .ok (.aload_n 0, 1) := by decide +kernel
theorem dX11_sumOf_21 : decode cX11_sumOf 21 = .ok (.getfield 155, 3) := by decide +kernel
theorem dX11_sumOf_24 : decode cX11_sumOf 24 = .ok (.goto 7, 3) := by decide +kernel
theorem dX11_sumOf_27 : decode cX11_sumOf 27 = .ok (.aload_n 0, 1) := by decide +kernel
theorem dX11_sumOf_28 : decode cX11_sumOf 28 = .ok (.invokevirtual 311, 3) := by decide +kernel
theorem dX11_sumOf_31 : decode cX11_sumOf 31 = .ok (.ireturn, 1) := by decide +kernel
theorem dX11_count_0 : decode cX11_count 0 = .ok (.iload_n 1, 1) := by decide +kernel
theorem dX11_count_1 : decode cX11_count 1 = .ok (.tableswitch 91 0 8 #[51, 51, 57, 57, 66, 71, 51, 81, 86], 51) := by decide +kernel
theorem dX11_count_52 : decode cX11_count 52 = .ok (.aload_n 0, 1) := by decide +kernel
theorem dX11_count_53 : decode cX11_count 53 = .ok (.iload_n 1, 1) := by decide +kernel
theorem dX11_count_54 : decode cX11_count 54 = .ok (.invokevirtual 366, 3) := by decide +kernel
theorem dX11_count_57 : decode cX11_count 57 = .ok (.ireturn, 1) := by decide +kernel
theorem dX11_count_58 : decode cX11_count 58 = .ok (.aload_n 0, 1) := by decide +kernel
theorem dX11_count_59 : decode cX11_count 59 = .ok (.getfield 7, 3) := by decide +kernel
theorem dX11_count_62 : decode cX11_count 62 = .ok (.iload_n 1, 1) := by decide +kernel
theorem dX11_count_63 : decode cX11_count 63 = .ok (.iconst 2, 1) := by decide +kernel
theorem dX11_count_64 : decode cX11_count 64 = .ok (.isub, 1) := by decide +kernel
theorem dX11_count_65 : decode cX11_count 65 = .ok (.iaload, 1) := by decide +kernel
theorem dX11_count_66 : decode cX11_count 66 = .ok (.ireturn, 1) := by decide +kernel
theorem dX11_count_67 : decode cX11_count 67 = .ok (.aload_n 0, 1) := by decide +kernel
theorem dX11_count_68 : decode cX11_count 68 = .ok (.getfield 192, 3) := by decide +kernel
theorem dX11_count_71 : decode cX11_count 71 = .ok (.ireturn, 1) := by decide +kernel
theorem dX11_count_72 : decode cX11_count 72 = .ok (.aload_n 0, 1) := by decide +kernel
theorem dX11_count_73 : decode cX11_count 73 = .ok (.getfield 195, 3) := by decide +kernel
theorem dX11_count_76 : decode cX11_count 76 = .ok (.aload_n 0, 1) := by decide +kernel
theorem dX11_count_77 : decode cX11_count 77 = .ok (.getfield 198, 3) := by decide +kernel
theorem dX11_count_80 : decode cX11_count 80 = .ok (.iadd, 1) := by decide +kernel
theorem dX11_count_81 : decode cX11_count 81 = .ok (.ireturn, 1) := by decide +kernel
theorem dX11_count_82 : decode cX11_count 82 = .ok (.aload_n 0, 1) := by decide +kernel
theorem dX11_count_83 : decode cX11_count 83 = .ok (.getfield 323, 3) := by decide +kernel
theorem dX11_count_86 : decode cX11_count 86 = .ok (.ireturn, 1) := by decide +kernel
theorem dX11_count_87 : decode cX11_count 87 = .ok (.aload_n 0, 1) := by decide +kernel
theorem dX11_count_88 : decode cX11_count 88 = .ok (.getfield 355, 3) := by decide +kernel
theorem dX11_count_91 : decode cX11_count 91 = .ok (.ireturn, 1) := by decide +kernel
theorem dX11_count_92 : decode cX11_count 92 = .ok (.bipush (-2), 2) := by decide +kernel
theorem dX11_count_94 : decode cX11_count 94 = .ok (.ireturn, 1) := by decide +kernel
theorem dX11_monthDigest_0 : decode cX11_monthDigest 0 = .ok (.lload_n 1, 1) := by decide +kernel
theorem dX11_monthDigest_1 : decode cX11_monthDigest 1 = .ok (.lstore 5, 2) := by decide +kernel
theorem dX11_monthDigest_3 : decode cX11_monthDigest 3 = .ok (.iconst 0, 1) := by decide +kernel
theorem dX11_monthDigest_4 : decode cX11_monthDigest 4 = .ok (.istore 7, 2) := by decide +kernel
theorem dX11_monthDigest_6 : decode cX11_monthDigest 6 = .ok (.iload 7, 2) := by decide +kernel
theorem dX11_monthDigest_8 : decode cX11_monthDigest 8 = .ok (.iconst 3, 1) := by decide +kernel
theorem dX11_monthDigest_9 : decode cX11_monthDigest 9 = .ok (.if_icmp .ge 28, 3) := by decide +kernel
theorem dX11_monthDigest_12 : decode cX11_monthDigest 12 = .ok (.ldc2_w 369, 3) := by decide +kernel
theorem dX11_monthDigest_15 : decode cX11_monthDigest 15 = .ok (.lload 5, 2) := by decide +kernel
theorem dX11_monthDigest_17 : decode cX11_monthDigest 17 = .ok (.lmul, 1) := by decide +kernel
theorem dX11_monthDigest_18 : decode cX11_monthDigest 18 = .ok (.aload_n 0, 1) := by decide +kernel
theorem dX11_monthDigest_19 : decode cX11_monthDigest 19 = .ok (.iload_n 3, 1) := by decide +kernel
theorem dX11_monthDigest_20 : decode cX11_monthDigest 20 = .ok (.iload 4, 2) := by decide +kernel
theorem dX11_monthDigest_22 : decode cX11_monthDigest 22 = .ok (.iload 7, 2) := by decide +kernel
theorem dX11_monthDigest_24 : decode cX11_monthDigest 24 = .ok (.invokevirtual 275, 3) := by decide +kernel
theorem dX11_monthDigest_27 : decode cX11_monthDigest 27 = .ok (.i2l, 1) := by decide +kernel
theorem dX11_monthDigest_28 : decode cX11_monthDigest 28 = .ok (.ladd, 1) := by decide +kernel
theorem dX11_monthDigest_29 : decode cX11_monthDigest 29 = .ok (.lstore 5, 2) := by decide +kernel
theorem dX11_monthDigest_31 : decode cX11_monthDigest 31 = .ok (.iinc 7 1, 3) := by decide +kernel
theorem dX11_monthDigest_34 : decode cX11_monthDigest 34 = .ok (.goto (-28), 3) := by decide +kernel
theorem dX11_monthDigest_37 : decode cX11_monthDigest 37 = .ok (.lload 5, 2) := by decide +kernel
theorem dX11_monthDigest_39 : decode cX11_monthDigest 39 = .ok (.lreturn, 1) := by decide +kernel
theorem dX11_personDigest_0 : decode cX11_personDigest 0 = .ok (.lload_n 1, 1) := by decide +kernel
theorem dX11_personDigest_1 : decode cX11_personDigest 1 = .ok (.lstore 4, 2) := by decide +kernel
theorem dX11_personDigest_3 : decode cX11_personDigest 3 = .ok (.iconst 0, 1) := by decide +kernel
theorem dX11_personDigest_4 : decode cX11_personDigest 4 = .ok (.istore 6, 2) := by decide +kernel
theorem dX11_personDigest_6 : decode cX11_personDigest 6 = .ok (.iload 6, 2) := by decide +kernel
theorem dX11_personDigest_8 : decode cX11_personDigest 8 = .ok (.iconst 3, 1) := by decide +kernel
theorem dX11_personDigest_9 : decode cX11_personDigest 9 = .ok (.if_icmp .ge 26, 3) := by decide +kernel
theorem dX11_personDigest_12 : decode cX11_personDigest 12 = .ok (.ldc2_w 369, 3) := by decide +kernel
theorem dX11_personDigest_15 : decode cX11_personDigest 15 = .ok (.lload 4, 2) := by decide +kernel
theorem dX11_personDigest_17 : decode cX11_personDigest 17 = .ok (.lmul, 1) := by decide +kernel
theorem dX11_personDigest_18 : decode cX11_personDigest 18 = .ok (.aload_n 0, 1) := by decide +kernel
theorem dX11_personDigest_19 : decode cX11_personDigest 19 = .ok (.iload_n 3, 1) := by decide +kernel
theorem dX11_personDigest_20 : decode cX11_personDigest 20 = .ok (.iload 6, 2) := by decide +kernel
theorem dX11_personDigest_22 : decode cX11_personDigest 22 = .ok (.invokevirtual 177, 3) := by decide +kernel
theorem dX11_personDigest_25 : decode cX11_personDigest 25 = .ok (.i2l, 1) := by decide +kernel
theorem dX11_personDigest_26 : decode cX11_personDigest 26 = .ok (.ladd, 1) := by decide +kernel
theorem dX11_personDigest_27 : decode cX11_personDigest 27 = .ok (.lstore 4, 2) := by decide +kernel
theorem dX11_personDigest_29 : decode cX11_personDigest 29 = .ok (.iinc 6 1, 3) := by decide +kernel
theorem dX11_personDigest_32 : decode cX11_personDigest 32 = .ok (.goto (-26), 3) := by decide +kernel
theorem dX11_personDigest_35 : decode cX11_personDigest 35 = .ok (.aload_n 0, 1) := by decide +kernel
theorem dX11_personDigest_36 : decode cX11_personDigest 36 = .ok (.lload 4, 2) := by decide +kernel
theorem dX11_personDigest_38 : decode cX11_personDigest 38 = .ok (.iconst 0, 1) := by decide +kernel
theorem dX11_personDigest_39 : decode cX11_personDigest 39 = .ok (.iload_n 3, 1) := by decide +kernel
theorem dX11_personDigest_40 : decode cX11_personDigest 40 = .ok (.invokevirtual 371, 3) := by decide +kernel
theorem dX11_personDigest_43 : decode cX11_personDigest 43 = .ok (.lstore 4, 2) := by decide +kernel
theorem dX11_personDigest_45 : decode cX11_personDigest 45 = .ok (.aload_n 0, 1) := by decide +kernel
theorem dX11_personDigest_46 : decode cX11_personDigest 46 = .ok (.lload 4, 2) := by decide +kernel
theorem dX11_personDigest_48 : decode cX11_personDigest 48 = .ok (.iconst 5, 1) := by decide +kernel
theorem dX11_personDigest_49 : decode cX11_personDigest 49 = .ok (.iload_n 3, 1) := by decide +kernel
theorem dX11_personDigest_50 : decode cX11_personDigest 50 = .ok (.invokevirtual 371, 3) := by decide +kernel
theorem dX11_personDigest_53 : decode cX11_personDigest 53 = .ok (.lstore 4, 2) := by decide +kernel
theorem dX11_personDigest_55 : decode cX11_personDigest 55 = .ok (.aload_n 0, 1) := by decide +kernel
theorem dX11_personDigest_56 : decode cX11_personDigest 56 = .ok (.lload 4, 2) := by decide +kernel
theorem dX11_personDigest_58 : decode cX11_personDigest 58 = .ok (.bipush 11, 2) := by decide +kernel
theorem dX11_personDigest_60 : decode cX11_personDigest 60 = .ok (.iload_n 3, 1) := by decide +kernel
theorem dX11_personDigest_61 : decode cX11_personDigest 61 = .ok (.invokevirtual 371, 3) := by decide +kernel
theorem dX11_personDigest_64 : decode cX11_personDigest 64 = .ok (.lstore 4, 2) := by decide +kernel
theorem dX11_personDigest_66 : decode cX11_personDigest 66 = .ok (.aload_n 0, 1) := by decide +kernel
theorem dX11_personDigest_67 : decode cX11_personDigest 67 = .ok (.lload 4, 2) := by decide +kernel
theorem dX11_personDigest_69 : decode cX11_personDigest 69 = .ok (.bipush 23, 2) := by decide +kernel
theorem dX11_personDigest_71 : decode cX11_personDigest 71 = .ok (.iload_n 3, 1) := by decide +kernel
theorem dX11_personDigest_72 : decode cX11_personDigest 72 = .ok (.invokevirtual 371, 3) := by decide +kernel
theorem dX11_personDigest_75 : decode cX11_personDigest 75 = .ok (.lstore 4, 2) := by decide +kernel
theorem dX11_personDigest_77 : decode cX11_personDigest 77 = .ok (.ldc2_w 369, 3) := by decide +kernel
theorem dX11_personDigest_80 : decode cX11_personDigest 80 = .ok (.lload 4, 2) := by decide +kernel
theorem dX11_personDigest_82 : decode cX11_personDigest 82 = .ok (.lmul, 1) := by decide +kernel
theorem dX11_personDigest_83 : decode cX11_personDigest 83 = .ok (.aload_n 0, 1) := by decide +kernel
theorem dX11_personDigest_84 : decode cX11_personDigest 84 = .ok (.iload_n 3, 1) := by decide +kernel
theorem dX11_personDigest_85 : decode cX11_personDigest 85 = .ok (.invokevirtual 278, 3) := by decide +kernel
theorem dX11_personDigest_88 : decode cX11_personDigest 88 = .ok (.i2l, 1) := by decide +kernel
theorem dX11_personDigest_89 : decode cX11_personDigest 89 = .ok (.ladd, 1) := by decide +kernel
theorem dX11_personDigest_90 : decode cX11_personDigest 90 = .ok (.lstore 4, 2) := by decide +kernel
theorem dX11_personDigest_92 : decode cX11_personDigest 92 = .ok (.aload_n 0, 1) := by decide +kernel
theorem dX11_personDigest_93 : decode cX11_personDigest 93 = .ok (.iload_n 3, 1) := by decide +kernel
theorem dX11_personDigest_94 : decode cX11_personDigest 94 = .ok (.bipush 9, 2) := by decide +kernel
theorem dX11_personDigest_96 : decode cX11_personDigest 96 = .ok (.invokevirtual 305, 3) := by decide +kernel
theorem dX11_personDigest_99 : decode cX11_personDigest 99 = .ok (.istore 6, 2) := by decide +kernel
theorem dX11_personDigest_101 : decode cX11_personDigest 101 = .ok (.ldc2_w 369, 3) := by decide +kernel
theorem dX11_personDigest_104 : decode cX11_personDigest 104 = .ok (.lload 4, 2) := by decide +kernel
theorem dX11_personDigest_106 : decode cX11_personDigest 106 = .ok (.lmul, 1) := by decide +kernel
theorem dX11_personDigest_107 : decode cX11_personDigest 107 = .ok (.iload 6, 2) := by decide +kernel
theorem dX11_personDigest_109 : decode cX11_personDigest 109 = .ok (.i2l, 1) := by decide +kernel
theorem dX11_personDigest_110 : decode cX11_personDigest 110 = .ok (.ladd, 1) := by decide +kernel
theorem dX11_personDigest_111 : decode cX11_personDigest 111 = .ok (.lstore 4, 2) := by decide +kernel
theorem dX11_personDigest_113 : decode cX11_personDigest 113 = .ok (.ldc2_w 369, 3) := by decide +kernel
theorem dX11_personDigest_116 : decode cX11_personDigest 116 = .ok (.lload 4, 2) := by decide +kernel
theorem dX11_personDigest_118 : decode cX11_personDigest 118 = .ok (.lmul, 1) := by decide +kernel
theorem dX11_personDigest_119 : decode cX11_personDigest 119 = .ok (.aload_n 0, 1) := by decide +kernel
theorem dX11_personDigest_120 : decode cX11_personDigest 120 = .ok (.iload 6, 2) := by decide +kernel
theorem dX11_personDigest_122 : decode cX11_personDigest 122 = .ok (.iconst 0, 1) := by decide +kernel
theorem dX11_personDigest_123 : decode cX11_personDigest 123 = .ok (.invokevirtual 308, 3) := by decide +kernel
theorem dX11_personDigest_126 : decode cX11_personDigest 126 = .ok (.i2l, 1) := by decide +kernel
theorem dX11_personDigest_127 : decode cX11_personDigest 127 = .ok (.ladd, 1) := by decide +kernel
theorem dX11_personDigest_128 : decode cX11_personDigest 128 = .ok (.lstore 4, 2) := by decide +kernel
theorem dX11_personDigest_130 : decode cX11_personDigest 130 = .ok (.ldc2_w 369, 3) := by decide +kernel
theorem dX11_personDigest_133 : decode cX11_personDigest 133 = .ok (.lload 4, 2) := by decide +kernel
theorem dX11_personDigest_135 : decode cX11_personDigest 135 = .ok (.lmul, 1) := by decide +kernel
theorem dX11_personDigest_136 : decode cX11_personDigest 136 = .ok (.aload_n 0, 1) := by decide +kernel
theorem dX11_personDigest_137 : decode cX11_personDigest 137 = .ok (.iload_n 3, 1) := by decide +kernel
theorem dX11_personDigest_138 : decode cX11_personDigest 138 = .ok (.iconst 0, 1) := by decide +kernel
theorem dX11_personDigest_139 : decode cX11_personDigest 139 = .ok (.invokevirtual 320, 3) := by decide +kernel
theorem dX11_personDigest_142 : decode cX11_personDigest 142 = .ok (.i2l, 1) := by decide +kernel
theorem dX11_personDigest_143 : decode cX11_personDigest 143 = .ok (.ladd, 1) := by decide +kernel
theorem dX11_personDigest_144 : decode cX11_personDigest 144 = .ok (.lstore 4, 2) := by decide +kernel
theorem dX11_personDigest_146 : decode cX11_personDigest 146 = .ok (.ldc2_w 369, 3) := by decide +kernel
theorem dX11_personDigest_149 : decode cX11_personDigest 149 = .ok (.lload 4, 2) := by decide +kernel
theorem dX11_personDigest_151 : decode cX11_personDigest 151 = .ok (.lmul, 1) := by decide +kernel
theorem dX11_personDigest_152 : decode cX11_personDigest 152 = .ok (.aload_n 0, 1) := by decide +kernel
theorem dX11_personDigest_153 : decode cX11_personDigest 153 = .ok (.iload_n 3, 1) := by decide +kernel
theorem dX11_personDigest_154 : decode cX11_personDigest 154 = .ok (.iconst 1, 1) := by decide +kernel
theorem dX11_personDigest_155 : decode cX11_personDigest 155 = .ok (.invokevirtual 320, 3) := by decide +kernel
theorem dX11_personDigest_158 : decode cX11_personDigest 158 = .ok (.i2l, 1) := by decide +kernel
theorem dX11_personDigest_159 : decode cX11_personDigest 159 = .ok (.ladd, 1) := by decide +kernel
theorem dX11_personDigest_160 : decode cX11_personDigest 160 = .ok (.lstore 4, 2) := by decide +kernel
theorem dX11_personDigest_162 : decode cX11_personDigest 162 = .ok (.ldc2_w 369, 3) := by decide +kernel
theorem dX11_personDigest_165 : decode cX11_personDigest 165 = .ok (.lload 4, 2) := by decide +kernel
theorem dX11_personDigest_167 : decode cX11_personDigest 167 = .ok (.lmul, 1) := by decide +kernel
theorem dX11_personDigest_168 : decode cX11_personDigest 168 = .ok (.aload_n 0, 1) := by decide +kernel
theorem dX11_personDigest_169 : decode cX11_personDigest 169 = .ok (.iload_n 3, 1) := by decide +kernel
theorem dX11_personDigest_170 : decode cX11_personDigest 170 = .ok (.invokevirtual 336, 3) := by decide +kernel
theorem dX11_personDigest_173 : decode cX11_personDigest 173 = .ok (.i2l, 1) := by decide +kernel
theorem dX11_personDigest_174 : decode cX11_personDigest 174 = .ok (.ladd, 1) := by decide +kernel
theorem dX11_personDigest_175 : decode cX11_personDigest 175 = .ok (.lstore 4, 2) := by decide +kernel
theorem dX11_personDigest_177 : decode cX11_personDigest 177 = .ok (.ldc2_w 369, 3) := by decide +kernel
theorem dX11_personDigest_180 : decode cX11_personDigest 180 = .ok (.lload 4, 2) := by decide +kernel
theorem dX11_personDigest_182 : decode cX11_personDigest 182 = .ok (.lmul, 1) := by decide +kernel
theorem dX11_personDigest_183 : decode cX11_personDigest 183 = .ok (.aload_n 0, 1) := by decide +kernel
theorem dX11_personDigest_184 : decode cX11_personDigest 184 = .ok (.iconst 5, 1) := by decide +kernel
theorem dX11_personDigest_185 : decode cX11_personDigest 185 = .ok (.iconst 5, 1) := by decide +kernel
theorem dX11_personDigest_186 : decode cX11_personDigest 186 = .ok (.iload_n 3, 1) := by decide +kernel
theorem dX11_personDigest_187 : decode cX11_personDigest 187 = .ok (.iconst 0, 1) := by decide +kernel
theorem dX11_personDigest_188 : decode cX11_personDigest 188 = .ok (.invokevirtual 343, 3) := by decide +kernel
theorem dX11_personDigest_191 : decode cX11_personDigest 191 = .ok (.ladd, 1) := by decide +kernel
theorem dX11_personDigest_192 : decode cX11_personDigest 192 = .ok (.lstore 4, 2) := by decide +kernel
theorem dX11_personDigest_194 : decode cX11_personDigest 194 = .ok (.ldc2_w 369, 3) := by decide +kernel
theorem dX11_personDigest_197 : decode cX11_personDigest 197 = .ok (.lload 4, 2) := by decide +kernel
theorem dX11_personDigest_199 : decode cX11_personDigest 199 = .ok (.lmul, 1) := by decide +kernel
theorem dX11_personDigest_200 : decode cX11_personDigest 200 = .ok (.aload_n 0, 1) := by decide +kernel
theorem dX11_personDigest_201 : decode cX11_personDigest 201 = .ok (.iconst 5, 1) := by decide +kernel
theorem dX11_personDigest_202 : decode cX11_personDigest 202 = .ok (.iconst 5, 1) := by decide +kernel
theorem dX11_personDigest_203 : decode cX11_personDigest 203 = .ok (.iload_n 3, 1) := by decide +kernel
theorem dX11_personDigest_204 : decode cX11_personDigest 204 = .ok (.iconst 1, 1) := by decide +kernel
theorem dX11_personDigest_205 : decode cX11_personDigest 205 = .ok (.invokevirtual 343, 3) := by decide +kernel
theorem dX11_personDigest_208 : decode cX11_personDigest 208 = .ok (.ladd, 1) := by decide +kernel
theorem dX11_personDigest_209 : decode cX11_personDigest 209 = .ok (.lreturn, 1) := by decide +kernel
theorem dX11_deedDigest_0 : decode cX11_deedDigest 0 = .ok (.lload_n 1, 1) := by decide +kernel
theorem dX11_deedDigest_1 : decode cX11_deedDigest 1 = .ok (.lstore 4, 2) := by decide +kernel
theorem dX11_deedDigest_3 : decode cX11_deedDigest 3 = .ok (.iconst 0, 1) := by decide +kernel
theorem dX11_deedDigest_4 : decode cX11_deedDigest 4 = .ok (.istore 6, 2) := by decide +kernel
theorem dX11_deedDigest_6 : decode cX11_deedDigest 6 = .ok (.iload 6, 2) := by decide +kernel
theorem dX11_deedDigest_8 : decode cX11_deedDigest 8 = .ok (.iconst 3, 1) := by decide +kernel
theorem dX11_deedDigest_9 : decode cX11_deedDigest 9 = .ok (.if_icmp .ge 26, 3) := by decide +kernel
theorem dX11_deedDigest_12 : decode cX11_deedDigest 12 = .ok (.ldc2_w 369, 3) := by decide +kernel
theorem dX11_deedDigest_15 : decode cX11_deedDigest 15 = .ok (.lload 4, 2) := by decide +kernel
theorem dX11_deedDigest_17 : decode cX11_deedDigest 17 = .ok (.lmul, 1) := by decide +kernel
theorem dX11_deedDigest_18 : decode cX11_deedDigest 18 = .ok (.aload_n 0, 1) := by decide +kernel
theorem dX11_deedDigest_19 : decode cX11_deedDigest 19 = .ok (.iload_n 3, 1) := by decide +kernel
theorem dX11_deedDigest_20 : decode cX11_deedDigest 20 = .ok (.iload 6, 2) := by decide +kernel
theorem dX11_deedDigest_22 : decode cX11_deedDigest 22 = .ok (.invokevirtual 183, 3) := by decide +kernel
theorem dX11_deedDigest_25 : decode cX11_deedDigest 25 = .ok (.i2l, 1) := by decide +kernel
theorem dX11_deedDigest_26 : decode cX11_deedDigest 26 = .ok (.ladd, 1) := by decide +kernel
theorem dX11_deedDigest_27 : decode cX11_deedDigest 27 = .ok (.lstore 4, 2) := by decide +kernel
theorem dX11_deedDigest_29 : decode cX11_deedDigest 29 = .ok (.iinc 6 1, 3) := by decide +kernel
theorem dX11_deedDigest_32 : decode cX11_deedDigest 32 = .ok (.goto (-26), 3) := by decide +kernel
theorem dX11_deedDigest_35 : decode cX11_deedDigest 35 = .ok (.ldc2_w 369, 3) := by decide +kernel
theorem dX11_deedDigest_38 : decode cX11_deedDigest 38 = .ok (.lload 4, 2) := by decide +kernel
theorem dX11_deedDigest_40 : decode cX11_deedDigest 40 = .ok (.lmul, 1) := by decide +kernel
theorem dX11_deedDigest_41 : decode cX11_deedDigest 41 = .ok (.aload_n 0, 1) := by decide +kernel
theorem dX11_deedDigest_42 : decode cX11_deedDigest 42 = .ok (.iload_n 3, 1) := by decide +kernel
theorem dX11_deedDigest_43 : decode cX11_deedDigest 43 = .ok (.iconst 0, 1) := by decide +kernel
theorem dX11_deedDigest_44 : decode cX11_deedDigest 44 = .ok (.invokevirtual 333, 3) := by decide +kernel
theorem dX11_deedDigest_47 : decode cX11_deedDigest 47 = .ok (.i2l, 1) := by decide +kernel
theorem dX11_deedDigest_48 : decode cX11_deedDigest 48 = .ok (.ladd, 1) := by decide +kernel
theorem dX11_deedDigest_49 : decode cX11_deedDigest 49 = .ok (.lstore 4, 2) := by decide +kernel
theorem dX11_deedDigest_51 : decode cX11_deedDigest 51 = .ok (.ldc2_w 369, 3) := by decide +kernel
theorem dX11_deedDigest_54 : decode cX11_deedDigest 54 = .ok (.lload 4, 2) := by decide +kernel
theorem dX11_deedDigest_56 : decode cX11_deedDigest 56 = .ok (.lmul, 1) := by decide +kernel
theorem dX11_deedDigest_57 : decode cX11_deedDigest 57 = .ok (.aload_n 0, 1) := by decide +kernel
theorem dX11_deedDigest_58 : decode cX11_deedDigest 58 = .ok (.iload_n 3, 1) := by decide +kernel
theorem dX11_deedDigest_59 : decode cX11_deedDigest 59 = .ok (.iconst 1, 1) := by decide +kernel
theorem dX11_deedDigest_60 : decode cX11_deedDigest 60 = .ok (.invokevirtual 333, 3) := by decide +kernel
theorem dX11_deedDigest_63 : decode cX11_deedDigest 63 = .ok (.i2l, 1) := by decide +kernel
theorem dX11_deedDigest_64 : decode cX11_deedDigest 64 = .ok (.ladd, 1) := by decide +kernel
theorem dX11_deedDigest_65 : decode cX11_deedDigest 65 = .ok (.lreturn, 1) := by decide +kernel
theorem dX11_countyDigest_0 : decode cX11_countyDigest 0 = .ok (.ldc2_w 369, 3) := by decide +kernel
theorem dX11_countyDigest_3 : decode cX11_countyDigest 3 = .ok (.lload_n 1, 1) := by decide +kernel
theorem dX11_countyDigest_4 : decode cX11_countyDigest 4 = .ok (.lmul, 1) := by decide +kernel
theorem dX11_countyDigest_5 : decode cX11_countyDigest 5 = .ok (.aload_n 0, 1) := by decide +kernel
theorem dX11_countyDigest_6 : decode cX11_countyDigest 6 = .ok (.bipush 11, 2) := by decide +kernel
theorem dX11_countyDigest_8 : decode cX11_countyDigest 8 = .ok (.iload_n 3, 1) := by decide +kernel
theorem dX11_countyDigest_9 : decode cX11_countyDigest 9 = .ok (.iconst 0, 1) := by decide +kernel
theorem dX11_countyDigest_10 : decode cX11_countyDigest 10 = .ok (.invokevirtual 281, 3) := by decide +kernel
theorem dX11_countyDigest_13 : decode cX11_countyDigest 13 = .ok (.i2l, 1) := by decide +kernel
theorem dX11_countyDigest_14 : decode cX11_countyDigest 14 = .ok (.ladd, 1) := by decide +kernel
theorem dX11_countyDigest_15 : decode cX11_countyDigest 15 = .ok (.lstore 4, 2) := by decide +kernel
theorem dX11_countyDigest_17 : decode cX11_countyDigest 17 = .ok (.ldc2_w 369, 3) := by decide +kernel
theorem dX11_countyDigest_20 : decode cX11_countyDigest 20 = .ok (.lload 4, 2) := by decide +kernel
theorem dX11_countyDigest_22 : decode cX11_countyDigest 22 = .ok (.lmul, 1) := by decide +kernel
theorem dX11_countyDigest_23 : decode cX11_countyDigest 23 = .ok (.aload_n 0, 1) := by decide +kernel
theorem dX11_countyDigest_24 : decode cX11_countyDigest 24 = .ok (.bipush 11, 2) := by decide +kernel
theorem dX11_countyDigest_26 : decode cX11_countyDigest 26 = .ok (.iload_n 3, 1) := by decide +kernel
theorem dX11_countyDigest_27 : decode cX11_countyDigest 27 = .ok (.iconst 1, 1) := by decide +kernel
theorem dX11_countyDigest_28 : decode cX11_countyDigest 28 = .ok (.invokevirtual 281, 3) := by decide +kernel
theorem dX11_countyDigest_31 : decode cX11_countyDigest 31 = .ok (.i2l, 1) := by decide +kernel
theorem dX11_countyDigest_32 : decode cX11_countyDigest 32 = .ok (.ladd, 1) := by decide +kernel
theorem dX11_countyDigest_33 : decode cX11_countyDigest 33 = .ok (.lstore 4, 2) := by decide +kernel
theorem dX11_countyDigest_35 : decode cX11_countyDigest 35 = .ok (.ldc2_w 369, 3) := by decide +kernel
theorem dX11_countyDigest_38 : decode cX11_countyDigest 38 = .ok (.lload 4, 2) := by decide +kernel
theorem dX11_countyDigest_40 : decode cX11_countyDigest 40 = .ok (.lmul, 1) := by decide +kernel
theorem dX11_countyDigest_41 : decode cX11_countyDigest 41 = .ok (.aload_n 0, 1) := by decide +kernel
theorem dX11_countyDigest_42 : decode cX11_countyDigest 42 = .ok (.bipush 23, 2) := by decide +kernel
theorem dX11_countyDigest_44 : decode cX11_countyDigest 44 = .ok (.iload_n 3, 1) := by decide +kernel
theorem dX11_countyDigest_45 : decode cX11_countyDigest 45 = .ok (.iconst 0, 1) := by decide +kernel
theorem dX11_countyDigest_46 : decode cX11_countyDigest 46 = .ok (.invokevirtual 281, 3) := by decide +kernel
theorem dX11_countyDigest_49 : decode cX11_countyDigest 49 = .ok (.i2l, 1) := by decide +kernel
theorem dX11_countyDigest_50 : decode cX11_countyDigest 50 = .ok (.ladd, 1) := by decide +kernel
theorem dX11_countyDigest_51 : decode cX11_countyDigest 51 = .ok (.lstore 4, 2) := by decide +kernel
theorem dX11_countyDigest_53 : decode cX11_countyDigest 53 = .ok (.ldc2_w 369, 3) := by decide +kernel
theorem dX11_countyDigest_56 : decode cX11_countyDigest 56 = .ok (.lload 4, 2) := by decide +kernel
theorem dX11_countyDigest_58 : decode cX11_countyDigest 58 = .ok (.lmul, 1) := by decide +kernel
theorem dX11_countyDigest_59 : decode cX11_countyDigest 59 = .ok (.aload_n 0, 1) := by decide +kernel
theorem dX11_countyDigest_60 : decode cX11_countyDigest 60 = .ok (.bipush 23, 2) := by decide +kernel
theorem dX11_countyDigest_62 : decode cX11_countyDigest 62 = .ok (.iload_n 3, 1) := by decide +kernel
theorem dX11_countyDigest_63 : decode cX11_countyDigest 63 = .ok (.iconst 1, 1) := by decide +kernel
theorem dX11_countyDigest_64 : decode cX11_countyDigest 64 = .ok (.invokevirtual 281, 3) := by decide +kernel
theorem dX11_countyDigest_67 : decode cX11_countyDigest 67 = .ok (.i2l, 1) := by decide +kernel
theorem dX11_countyDigest_68 : decode cX11_countyDigest 68 = .ok (.ladd, 1) := by decide +kernel
theorem dX11_countyDigest_69 : decode cX11_countyDigest 69 = .ok (.lreturn, 1) := by decide +kernel
theorem dX11_thornDigest_0 : decode cX11_thornDigest 0 = .ok (.ldc2_w 369, 3) := by decide +kernel
theorem dX11_thornDigest_3 : decode cX11_thornDigest 3 = .ok (.lload_n 1, 1) := by decide +kernel
theorem dX11_thornDigest_4 : decode cX11_thornDigest 4 = .ok (.lmul, 1) := by decide +kernel
theorem dX11_thornDigest_5 : decode cX11_thornDigest 5 = .ok (.aload_n 0, 1) := by decide +kernel
theorem dX11_thornDigest_6 : decode cX11_thornDigest 6 = .ok (.iload_n 3, 1) := by decide +kernel
theorem dX11_thornDigest_7 : decode cX11_thornDigest 7 = .ok (.invokevirtual 284, 3) := by decide +kernel
theorem dX11_thornDigest_10 : decode cX11_thornDigest 10 = .ok (.i2l, 1) := by decide +kernel
theorem dX11_thornDigest_11 : decode cX11_thornDigest 11 = .ok (.ladd, 1) := by decide +kernel
theorem dX11_thornDigest_12 : decode cX11_thornDigest 12 = .ok (.lstore 4, 2) := by decide +kernel
theorem dX11_thornDigest_14 : decode cX11_thornDigest 14 = .ok (.ldc2_w 369, 3) := by decide +kernel
theorem dX11_thornDigest_17 : decode cX11_thornDigest 17 = .ok (.lload 4, 2) := by decide +kernel
theorem dX11_thornDigest_19 : decode cX11_thornDigest 19 = .ok (.lmul, 1) := by decide +kernel
theorem dX11_thornDigest_20 : decode cX11_thornDigest 20 = .ok (.aload_n 0, 1) := by decide +kernel
theorem dX11_thornDigest_21 : decode cX11_thornDigest 21 = .ok (.iload_n 3, 1) := by decide +kernel
theorem dX11_thornDigest_22 : decode cX11_thornDigest 22 = .ok (.invokevirtual 290, 3) := by decide +kernel
theorem dX11_thornDigest_25 : decode cX11_thornDigest 25 = .ok (.i2l, 1) := by decide +kernel
theorem dX11_thornDigest_26 : decode cX11_thornDigest 26 = .ok (.ladd, 1) := by decide +kernel
theorem dX11_thornDigest_27 : decode cX11_thornDigest 27 = .ok (.lreturn, 1) := by decide +kernel
theorem dX11_digest_0 : decode cX11_digest 0 = .ok (.ldc2_w 375, 3) := by decide +kernel
theorem dX11_digest_3 : decode cX11_digest 3 = .ok (.lstore_n 1, 1) := by decide +kernel
theorem dX11_digest_4 : decode cX11_digest 4 = .ok (.iconst 0, 1) := by decide +kernel
theorem dX11_digest_5 : decode cX11_digest 5 = .ok (.istore_n 3, 1) := by decide +kernel
theorem dX11_digest_6 : decode cX11_digest 6 = .ok (.iload_n 3, 1) := by decide +kernel
theorem dX11_digest_7 : decode cX11_digest 7 = .ok (.bipush 8, 2) := by decide +kernel
theorem dX11_digest_9 : decode cX11_digest 9 = .ok (.if_icmp .ge 22, 3) := by decide +kernel
theorem dX11_digest_12 : decode cX11_digest 12 = .ok (.ldc2_w 369, 3) := by decide +kernel
theorem dX11_digest_15 : decode cX11_digest 15 = .ok (.lload_n 1, 1) := by decide +kernel
theorem dX11_digest_16 : decode cX11_digest 16 = .ok (.lmul, 1) := by decide +kernel
theorem dX11_digest_17 : decode cX11_digest 17 = .ok (.aload_n 0, 1) := by decide +kernel
theorem dX11_digest_18 : decode cX11_digest 18 = .ok (.iload_n 3, 1) := by decide +kernel
theorem dX11_digest_19 : decode cX11_digest 19 = .ok (.invokevirtual 377, 3) := by decide +kernel
theorem dX11_digest_22 : decode cX11_digest 22 = .ok (.i2l, 1) := by decide +kernel
theorem dX11_digest_23 : decode cX11_digest 23 = .ok (.ladd, 1) := by decide +kernel
theorem dX11_digest_24 : decode cX11_digest 24 = .ok (.lstore_n 1, 1) := by decide +kernel
theorem dX11_digest_25 : decode cX11_digest 25 = .ok (.iinc 3 1, 3) := by decide +kernel
theorem dX11_digest_28 : decode cX11_digest 28 = .ok (.goto (-22), 3) := by decide +kernel
theorem dX11_digest_31 : decode cX11_digest 31 = .ok (.ldc2_w 369, 3) := by decide +kernel
theorem dX11_digest_34 : decode cX11_digest 34 = .ok (.lload_n 1, 1) := by decide +kernel
theorem dX11_digest_35 : decode cX11_digest 35 = .ok (.lmul, 1) := by decide +kernel
theorem dX11_digest_36 : decode cX11_digest 36 = .ok (.aload_n 0, 1) := by decide +kernel
theorem dX11_digest_37 : decode cX11_digest 37 = .ok (.iconst 0, 1) := by decide +kernel
theorem dX11_digest_38 : decode cX11_digest 38 = .ok (.invokevirtual 168, 3) := by decide +kernel
theorem dX11_digest_41 : decode cX11_digest 41 = .ok (.i2l, 1) := by decide +kernel
theorem dX11_digest_42 : decode cX11_digest 42 = .ok (.ladd, 1) := by decide +kernel
theorem dX11_digest_43 : decode cX11_digest 43 = .ok (.lstore_n 1, 1) := by decide +kernel
theorem dX11_digest_44 : decode cX11_digest 44 = .ok (.ldc2_w 369, 3) := by decide +kernel
theorem dX11_digest_47 : decode cX11_digest 47 = .ok (.lload_n 1, 1) := by decide +kernel
theorem dX11_digest_48 : decode cX11_digest 48 = .ok (.lmul, 1) := by decide +kernel
theorem dX11_digest_49 : decode cX11_digest 49 = .ok (.aload_n 0, 1) := by decide +kernel
theorem dX11_digest_50 : decode cX11_digest 50 = .ok (.iconst 1, 1) := by decide +kernel
theorem dX11_digest_51 : decode cX11_digest 51 = .ok (.invokevirtual 168, 3) := by decide +kernel
theorem dX11_digest_54 : decode cX11_digest 54 = .ok (.i2l, 1) := by decide +kernel
theorem dX11_digest_55 : decode cX11_digest 55 = .ok (.ladd, 1) := by decide +kernel
theorem dX11_digest_56 : decode cX11_digest 56 = .ok (.lstore_n 1, 1) := by decide +kernel
theorem dX11_digest_57 : decode cX11_digest 57 = .ok (.iconst 0, 1) := by decide +kernel
theorem dX11_digest_58 : decode cX11_digest 58 = .ok (.istore_n 3, 1) := by decide +kernel
theorem dX11_digest_59 : decode cX11_digest 59 = .ok (.iload_n 3, 1) := by decide +kernel
theorem dX11_digest_60 : decode cX11_digest 60 = .ok (.aload_n 0, 1) := by decide +kernel
theorem dX11_digest_61 : decode cX11_digest 61 = .ok (.getfield 152, 3) := by decide +kernel
theorem dX11_digest_64 : decode cX11_digest 64 = .ok (.if_icmp .ge 16, 3) := by decide +kernel
theorem dX11_digest_67 : decode cX11_digest 67 = .ok (.aload_n 0, 1) := by decide +kernel
theorem dX11_digest_68 : decode cX11_digest 68 = .ok (.lload_n 1, 1) := by decide +kernel
theorem dX11_digest_69 : decode cX11_digest 69 = .ok (.iload_n 3, 1) := by decide +kernel
theorem dX11_digest_70 : decode cX11_digest 70 = .ok (.invokevirtual 380, 3) := by decide +kernel
theorem dX11_digest_73 : decode cX11_digest 73 = .ok (.lstore_n 1, 1) := by decide +kernel
theorem dX11_digest_74 : decode cX11_digest 74 = .ok (.iinc 3 1, 3) := by decide +kernel
theorem dX11_digest_77 : decode cX11_digest 77 = .ok (.goto (-18), 3) := by decide +kernel
theorem dX11_digest_80 : decode cX11_digest 80 = .ok (.iconst 0, 1) := by decide +kernel
theorem dX11_digest_81 : decode cX11_digest 81 = .ok (.istore_n 3, 1) := by decide +kernel
theorem dX11_digest_82 : decode cX11_digest 82 = .ok (.iload_n 3, 1) := by decide +kernel
theorem dX11_digest_83 : decode cX11_digest 83 = .ok (.aload_n 0, 1) := by decide +kernel
theorem dX11_digest_84 : decode cX11_digest 84 = .ok (.getfield 155, 3) := by decide +kernel
theorem dX11_digest_87 : decode cX11_digest 87 = .ok (.if_icmp .ge 16, 3) := by decide +kernel
theorem dX11_digest_90 : decode cX11_digest 90 = .ok (.aload_n 0, 1) := by decide +kernel
theorem dX11_digest_91 : decode cX11_digest 91 = .ok (.lload_n 1, 1) := by decide +kernel
theorem dX11_digest_92 : decode cX11_digest 92 = .ok (.iload_n 3, 1) := by decide +kernel
theorem dX11_digest_93 : decode cX11_digest 93 = .ok (.invokevirtual 384, 3) := by decide +kernel
theorem dX11_digest_96 : decode cX11_digest 96 = .ok (.lstore_n 1, 1) := by decide +kernel
theorem dX11_digest_97 : decode cX11_digest 97 = .ok (.iinc 3 1, 3) := by decide +kernel
theorem dX11_digest_100 : decode cX11_digest 100 = .ok (.goto (-18), 3) := by decide +kernel
theorem dX11_digest_103 : decode cX11_digest 103 = .ok (.iconst 0, 1) := by decide +kernel
theorem dX11_digest_104 : decode cX11_digest 104 = .ok (.istore_n 3, 1) := by decide +kernel
theorem dX11_digest_105 : decode cX11_digest 105 = .ok (.iload_n 3, 1) := by decide +kernel
theorem dX11_digest_106 : decode cX11_digest 106 = .ok (.iconst 4, 1) := by decide +kernel
theorem dX11_digest_107 : decode cX11_digest 107 = .ok (.if_icmp .ge 16, 3) := by decide +kernel
theorem dX11_digest_110 : decode cX11_digest 110 = .ok (.aload_n 0, 1) := by decide +kernel
theorem dX11_digest_111 : decode cX11_digest 111 = .ok (.lload_n 1, 1) := by decide +kernel
theorem dX11_digest_112 : decode cX11_digest 112 = .ok (.iload_n 3, 1) := by decide +kernel
theorem dX11_digest_113 : decode cX11_digest 113 = .ok (.invokevirtual 387, 3) := by decide +kernel
theorem dX11_digest_116 : decode cX11_digest 116 = .ok (.lstore_n 1, 1) := by decide +kernel
theorem dX11_digest_117 : decode cX11_digest 117 = .ok (.iinc 3 1, 3) := by decide +kernel
theorem dX11_digest_120 : decode cX11_digest 120 = .ok (.goto (-15), 3) := by decide +kernel
theorem dX11_digest_123 : decode cX11_digest 123 = .ok (.aload_n 0, 1) := by decide +kernel
theorem dX11_digest_124 : decode cX11_digest 124 = .ok (.lload_n 1, 1) := by decide +kernel
theorem dX11_digest_125 : decode cX11_digest 125 = .ok (.iconst 0, 1) := by decide +kernel
theorem dX11_digest_126 : decode cX11_digest 126 = .ok (.invokevirtual 390, 3) := by decide +kernel
theorem dX11_digest_129 : decode cX11_digest 129 = .ok (.lstore_n 1, 1) := by decide +kernel
theorem dX11_digest_130 : decode cX11_digest 130 = .ok (.aload_n 0, 1) := by decide +kernel
theorem dX11_digest_131 : decode cX11_digest 131 = .ok (.lload_n 1, 1) := by decide +kernel
theorem dX11_digest_132 : decode cX11_digest 132 = .ok (.bipush 11, 2) := by decide +kernel
theorem dX11_digest_134 : decode cX11_digest 134 = .ok (.invokevirtual 390, 3) := by decide +kernel
theorem dX11_digest_137 : decode cX11_digest 137 = .ok (.lstore_n 1, 1) := by decide +kernel
theorem dX11_digest_138 : decode cX11_digest 138 = .ok (.aload_n 0, 1) := by decide +kernel
theorem dX11_digest_139 : decode cX11_digest 139 = .ok (.lload_n 1, 1) := by decide +kernel
theorem dX11_digest_140 : decode cX11_digest 140 = .ok (.bipush 23, 2) := by decide +kernel
theorem dX11_digest_142 : decode cX11_digest 142 = .ok (.invokevirtual 390, 3) := by decide +kernel
theorem dX11_digest_145 : decode cX11_digest 145 = .ok (.lstore_n 1, 1) := by decide +kernel
theorem dX11_digest_146 : decode cX11_digest 146 = .ok (.ldc2_w 369, 3) := by decide +kernel
theorem dX11_digest_149 : decode cX11_digest 149 = .ok (.lload_n 1, 1) := by decide +kernel
theorem dX11_digest_150 : decode cX11_digest 150 = .ok (.lmul, 1) := by decide +kernel
theorem dX11_digest_151 : decode cX11_digest 151 = .ok (.aload_n 0, 1) := by decide +kernel
theorem dX11_digest_152 : decode cX11_digest 152 = .ok (.iconst 0, 1) := by decide +kernel
theorem dX11_digest_153 : decode cX11_digest 153 = .ok (.invokevirtual 287, 3) := by decide +kernel
theorem dX11_digest_156 : decode cX11_digest 156 = .ok (.i2l, 1) := by decide +kernel
theorem dX11_digest_157 : decode cX11_digest 157 = .ok (.ladd, 1) := by decide +kernel
theorem dX11_digest_158 : decode cX11_digest 158 = .ok (.lstore_n 1, 1) := by decide +kernel
theorem dX11_digest_159 : decode cX11_digest 159 = .ok (.ldc2_w 369, 3) := by decide +kernel
theorem dX11_digest_162 : decode cX11_digest 162 = .ok (.lload_n 1, 1) := by decide +kernel
theorem dX11_digest_163 : decode cX11_digest 163 = .ok (.lmul, 1) := by decide +kernel
theorem dX11_digest_164 : decode cX11_digest 164 = .ok (.aload_n 0, 1) := by decide +kernel
theorem dX11_digest_165 : decode cX11_digest 165 = .ok (.iconst 1, 1) := by decide +kernel
theorem dX11_digest_166 : decode cX11_digest 166 = .ok (.invokevirtual 287, 3) := by decide +kernel
theorem dX11_digest_169 : decode cX11_digest 169 = .ok (.i2l, 1) := by decide +kernel
theorem dX11_digest_170 : decode cX11_digest 170 = .ok (.ladd, 1) := by decide +kernel
theorem dX11_digest_171 : decode cX11_digest 171 = .ok (.lstore_n 1, 1) := by decide +kernel
theorem dX11_digest_172 : decode cX11_digest 172 = .ok (.ldc2_w 369, 3) := by decide +kernel
theorem dX11_digest_175 : decode cX11_digest 175 = .ok (.lload_n 1, 1) := by decide +kernel
theorem dX11_digest_176 : decode cX11_digest 176 = .ok (.lmul, 1) := by decide +kernel
theorem dX11_digest_177 : decode cX11_digest 177 = .ok (.aload_n 0, 1) := by decide +kernel
theorem dX11_digest_178 : decode cX11_digest 178 = .ok (.iconst 0, 1) := by decide +kernel
theorem dX11_digest_179 : decode cX11_digest 179 = .ok (.invokevirtual 293, 3) := by decide +kernel
theorem dX11_digest_182 : decode cX11_digest 182 = .ok (.i2l, 1) := by decide +kernel
theorem dX11_digest_183 : decode cX11_digest 183 = .ok (.ladd, 1) := by decide +kernel
theorem dX11_digest_184 : decode cX11_digest 184 = .ok (.lstore_n 1, 1) := by decide +kernel
theorem dX11_digest_185 : decode cX11_digest 185 = .ok (.ldc2_w 369, 3) := by decide +kernel
theorem dX11_digest_188 : decode cX11_digest 188 = .ok (.lload_n 1, 1) := by decide +kernel
theorem dX11_digest_189 : decode cX11_digest 189 = .ok (.lmul, 1) := by decide +kernel
theorem dX11_digest_190 : decode cX11_digest 190 = .ok (.aload_n 0, 1) := by decide +kernel
theorem dX11_digest_191 : decode cX11_digest 191 = .ok (.iconst 1, 1) := by decide +kernel
theorem dX11_digest_192 : decode cX11_digest 192 = .ok (.invokevirtual 293, 3) := by decide +kernel
theorem dX11_digest_195 : decode cX11_digest 195 = .ok (.i2l, 1) := by decide +kernel
theorem dX11_digest_196 : decode cX11_digest 196 = .ok (.ladd, 1) := by decide +kernel
theorem dX11_digest_197 : decode cX11_digest 197 = .ok (.lstore_n 1, 1) := by decide +kernel
theorem dX11_digest_198 : decode cX11_digest 198 = .ok (.iconst 0, 1) := by decide +kernel
theorem dX11_digest_199 : decode cX11_digest 199 = .ok (.istore_n 3, 1) := by decide +kernel
theorem dX11_digest_200 : decode cX11_digest 200 = .ok (.iload_n 3, 1) := by decide +kernel
theorem dX11_digest_201 : decode cX11_digest 201 = .ok (.iconst 3, 1) := by decide +kernel
theorem dX11_digest_202 : decode cX11_digest 202 = .ok (.if_icmp .ge 23, 3) := by decide +kernel
theorem dX11_digest_205 : decode cX11_digest 205 = .ok (.ldc2_w 369, 3) := by decide +kernel
theorem dX11_digest_208 : decode cX11_digest 208 = .ok (.lload_n 1, 1) := by decide +kernel
theorem dX11_digest_209 : decode cX11_digest 209 = .ok (.lmul, 1) := by decide +kernel
theorem dX11_digest_210 : decode cX11_digest 210 = .ok (.aload_n 0, 1) := by decide +kernel
theorem dX11_digest_211 : decode cX11_digest 211 = .ok (.iconst 2, 1) := by decide +kernel
theorem dX11_digest_212 : decode cX11_digest 212 = .ok (.iload_n 3, 1) := by decide +kernel
theorem dX11_digest_213 : decode cX11_digest 213 = .ok (.invokevirtual 299, 3) := by decide +kernel
theorem dX11_digest_216 : decode cX11_digest 216 = .ok (.i2l, 1) := by decide +kernel
theorem dX11_digest_217 : decode cX11_digest 217 = .ok (.ladd, 1) := by decide +kernel
theorem dX11_digest_218 : decode cX11_digest 218 = .ok (.lstore_n 1, 1) := by decide +kernel
theorem dX11_digest_219 : decode cX11_digest 219 = .ok (.iinc 3 1, 3) := by decide +kernel
theorem dX11_digest_222 : decode cX11_digest 222 = .ok (.goto (-22), 3) := by decide +kernel
theorem dX11_digest_225 : decode cX11_digest 225 = .ok (.aload_n 0, 1) := by decide +kernel
theorem dX11_digest_226 : decode cX11_digest 226 = .ok (.invokevirtual 317, 3) := by decide +kernel
theorem dX11_digest_229 : decode cX11_digest 229 = .ok (.istore_n 3, 1) := by decide +kernel
theorem dX11_digest_230 : decode cX11_digest 230 = .ok (.ldc2_w 369, 3) := by decide +kernel
theorem dX11_digest_233 : decode cX11_digest 233 = .ok (.lload_n 1, 1) := by decide +kernel
theorem dX11_digest_234 : decode cX11_digest 234 = .ok (.lmul, 1) := by decide +kernel
theorem dX11_digest_235 : decode cX11_digest 235 = .ok (.iload_n 3, 1) := by decide +kernel
theorem dX11_digest_236 : decode cX11_digest 236 = .ok (.i2l, 1) := by decide +kernel
theorem dX11_digest_237 : decode cX11_digest 237 = .ok (.ladd, 1) := by decide +kernel
theorem dX11_digest_238 : decode cX11_digest 238 = .ok (.lstore_n 1, 1) := by decide +kernel
theorem dX11_digest_239 : decode cX11_digest 239 = .ok (.ldc2_w 369, 3) := by decide +kernel
theorem dX11_digest_242 : decode cX11_digest 242 = .ok (.lload_n 1, 1) := by decide +kernel
theorem dX11_digest_243 : decode cX11_digest 243 = .ok (.lmul, 1) := by decide +kernel
theorem dX11_digest_244 : decode cX11_digest 244 = .ok (.aload_n 0, 1) := by decide +kernel
theorem dX11_digest_245 : decode cX11_digest 245 = .ok (.iload_n 3, 1) := by decide +kernel
theorem dX11_digest_246 : decode cX11_digest 246 = .ok (.iconst 0, 1) := by decide +kernel
theorem dX11_digest_247 : decode cX11_digest 247 = .ok (.invokevirtual 308, 3) := by decide +kernel
theorem dX11_digest_250 : decode cX11_digest 250 = .ok (.i2l, 1) := by decide +kernel
theorem dX11_digest_251 : decode cX11_digest 251 = .ok (.ladd, 1) := by decide +kernel
theorem dX11_digest_252 : decode cX11_digest 252 = .ok (.lstore_n 1, 1) := by decide +kernel
theorem dX11_digest_253 : decode cX11_digest 253 = .ok (.ldc2_w 369, 3) := by decide +kernel
theorem dX11_digest_256 : decode cX11_digest 256 = .ok (.lload_n 1, 1) := by decide +kernel
theorem dX11_digest_257 : decode cX11_digest 257 = .ok (.lmul, 1) := by decide +kernel
theorem dX11_digest_258 : decode cX11_digest 258 = .ok (.aload_n 0, 1) := by decide +kernel
theorem dX11_digest_259 : decode cX11_digest 259 = .ok (.invokevirtual 330, 3) := by decide +kernel
theorem dX11_digest_262 : decode cX11_digest 262 = .ok (.i2l, 1) := by decide +kernel
theorem dX11_digest_263 : decode cX11_digest 263 = .ok (.ladd, 1) := by decide +kernel
theorem dX11_digest_264 : decode cX11_digest 264 = .ok (.lstore_n 1, 1) := by decide +kernel
theorem dX11_digest_265 : decode cX11_digest 265 = .ok (.ldc2_w 369, 3) := by decide +kernel
theorem dX11_digest_268 : decode cX11_digest 268 = .ok (.lload_n 1, 1) := by decide +kernel
theorem dX11_digest_269 : decode cX11_digest 269 = .ok (.lmul, 1) := by decide +kernel
theorem dX11_digest_270 : decode cX11_digest 270 = .ok (.aload_n 0, 1) := by decide +kernel
theorem dX11_digest_271 : decode cX11_digest 271 = .ok (.bipush 7, 2) := by decide +kernel
theorem dX11_digest_273 : decode cX11_digest 273 = .ok (.bipush 9, 2) := by decide +kernel
theorem dX11_digest_275 : decode cX11_digest 275 = .ok (.iconst 0, 1) := by decide +kernel
theorem dX11_digest_276 : decode cX11_digest 276 = .ok (.invokevirtual 352, 3) := by decide +kernel
theorem dX11_digest_279 : decode cX11_digest 279 = .ok (.i2l, 1) := by decide +kernel
theorem dX11_digest_280 : decode cX11_digest 280 = .ok (.ladd, 1) := by decide +kernel
theorem dX11_digest_281 : decode cX11_digest 281 = .ok (.lstore_n 1, 1) := by decide +kernel
theorem dX11_digest_282 : decode cX11_digest 282 = .ok (.ldc2_w 369, 3) := by decide +kernel
theorem dX11_digest_285 : decode cX11_digest 285 = .ok (.lload_n 1, 1) := by decide +kernel
theorem dX11_digest_286 : decode cX11_digest 286 = .ok (.lmul, 1) := by decide +kernel
theorem dX11_digest_287 : decode cX11_digest 287 = .ok (.aload_n 0, 1) := by decide +kernel
theorem dX11_digest_288 : decode cX11_digest 288 = .ok (.bipush 7, 2) := by decide +kernel
theorem dX11_digest_290 : decode cX11_digest 290 = .ok (.bipush 9, 2) := by decide +kernel
theorem dX11_digest_292 : decode cX11_digest 292 = .ok (.iconst 1, 1) := by decide +kernel
theorem dX11_digest_293 : decode cX11_digest 293 = .ok (.invokevirtual 352, 3) := by decide +kernel
theorem dX11_digest_296 : decode cX11_digest 296 = .ok (.i2l, 1) := by decide +kernel
theorem dX11_digest_297 : decode cX11_digest 297 = .ok (.ladd, 1) := by decide +kernel
theorem dX11_digest_298 : decode cX11_digest 298 = .ok (.lreturn, 1) := by decide +kernel
