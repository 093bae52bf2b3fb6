theorem dX10_init_0 : decode cX10_init 0 = .ok (.aload_n 0, 1) := by decide +kernel
theorem dX10_init_1 : decode cX10_init 1 = .ok (.invokespecial 1, 3) := by decide +kernel
theorem dX10_init_4 : decode cX10_init 4 = .ok (.aload_n 0, 1) := by decide +kernel
theorem dX10_init_5 : decode cX10_init 5 = .ok (.new 7, 3) := by decide +kernel
theorem dX10_init_8 : decode cX10_init 8 = .ok (.dup, 1) := by decide +kernel
theorem dX10_init_9 : decode cX10_init 9 = .ok (.bipush 31, 2) := by decide +kernel
theorem dX10_init_11 : decode cX10_init 11 = .ok (.ldc 11, 2) := by decide +kernel
theorem dX10_init_13 : decode cX10_init 13 = .ok (.ldc 13, 2) := by decide +kernel
theorem dX10_init_15 : decode cX10_init 15 = .ok (.ldc 15, 2) := by decide +kernel
theorem dX10_init_17 : decode cX10_init 17 = .ok (.invokespecial 17, 3) := by decide +kernel
theorem dX10_init_20 : decode cX10_init 20 = .ok (.putfield 20, 3) := by decide +kernel
theorem dX10_init_23 : decode cX10_init 23 = .ok (.aload_n 0, 1) := by decide +kernel
theorem dX10_init_24 : decode cX10_init 24 = .ok (.new 7, 3) := by decide +kernel
theorem dX10_init_27 : decode cX10_init 27 = .ok (.dup, 1) := by decide +kernel
theorem dX10_init_28 : decode cX10_init 28 = .ok (.bipush 39, 2) := by decide +kernel
theorem dX10_init_30 : decode cX10_init 30 = .ok (.ldc 24, 2) := by decide +kernel
theorem dX10_init_32 : decode cX10_init 32 = .ok (.ldc 26, 2) := by decide +kernel
theorem dX10_init_34 : decode cX10_init 34 = .ok (.ldc 28, 2) := by decide +kernel
theorem dX10_init_36 : decode cX10_init 36 = .ok (.invokespecial 17, 3) := by decide +kernel
theorem dX10_init_39 : decode cX10_init 39 = .ok (.putfield 30, 3) := by decide +kernel
theorem dX10_init_42 : decode cX10_init 42 = .ok (.aload_n 0, 1) := by decide +kernel
theorem dX10_init_43 : decode cX10_init 43 = .ok (.new 33, 3) := by decide +kernel
theorem dX10_init_46 : decode cX10_init 46 = .ok (.dup, 1) := by decide +kernel
theorem dX10_init_47 : decode cX10_init 47 = .ok (.invokespecial 35, 3) := by decide +kernel
theorem dX10_init_50 : decode cX10_init 50 = .ok (.putfield 36, 3) := by decide +kernel
theorem dX10_init_53 : decode cX10_init 53 = .ok (.aload_n 0, 1) := by decide +kernel
theorem dX10_init_54 : decode cX10_init 54 = .ok (.new 40, 3) := by decide +kernel
theorem dX10_init_57 : decode cX10_init 57 = .ok (.dup, 1) := by decide +kernel
theorem dX10_init_58 : decode cX10_init 58 = .ok (.aload_n 0, 1) := by decide +kernel
theorem dX10_init_59 : decode cX10_init 59 = .ok (.getfield 36, 3) := by decide +kernel
theorem dX10_init_62 : decode cX10_init 62 = .ok (.invokespecial 42, 3) := by decide +kernel
theorem dX10_init_65 : decode cX10_init 65 = .ok (.putfield 45, 3) := by decide +kernel
theorem dX10_init_68 : decode cX10_init 68 = .ok (.aload_n 0, 1) := by decide +kernel
theorem dX10_init_69 : decode cX10_init 69 = .ok (.new 49, 3) := by decide +kernel
theorem dX10_init_72 : decode cX10_init 72 = .ok (.dup, 1) := by decide +kernel
theorem dX10_init_73 : decode cX10_init 73 = .ok (.aload_n 0, 1) := by decide +kernel
theorem dX10_init_74 : decode cX10_init 74 = .ok (.getfield 36, 3) := by decide +kernel
theorem dX10_init_77 : decode cX10_init 77 = .ok (.invokespecial 51, 3) := by decide +kernel
theorem dX10_init_80 : decode cX10_init 80 = .ok (.putfield 52, 3) := by decide +kernel
theorem dX10_init_83 : decode cX10_init 83 = .ok (.aload_n 0, 1) := by decide +kernel
theorem dX10_init_84 : decode cX10_init 84 = .ok (.new 56, 3) := by decide +kernel
theorem dX10_init_87 : decode cX10_init 87 = .ok (.dup, 1) := by decide +kernel
theorem dX10_init_88 : decode cX10_init 88 = .ok (.aload_n 0, 1) := by decide +kernel
theorem dX10_init_89 : decode cX10_init 89 = .ok (.getfield 52, 3) := by decide +kernel
theorem dX10_init_92 : decode cX10_init 92 = .ok (.invokespecial 58, 3) := by decide +kernel
theorem dX10_init_95 : decode cX10_init 95 = .ok (.putfield 61, 3) := by decide +kernel
theorem dX10_init_98 : decode cX10_init 98 = .ok (.aload_n 0, 1) := by decide +kernel
theorem dX10_init_99 : decode cX10_init 99 = .ok (.new 65, 3) := by decide +kernel
theorem dX10_init_102 : decode cX10_init 102 = .ok (.dup, 1) := by decide +kernel
theorem dX10_init_103 : decode cX10_init 103 = .ok (.aload_n 0, 1) := by decide +kernel
theorem dX10_init_104 : decode cX10_init 104 = .ok (.getfield 52, 3) := by decide +kernel
theorem dX10_init_107 : decode cX10_init 107 = .ok (.invokespecial 67, 3) := by decide +kernel
theorem dX10_init_110 : decode cX10_init 110 = .ok (.putfield 68, 3) := by decide +kernel
theorem dX10_init_113 : decode cX10_init 113 = .ok (.aload_n 0, 1) := by decide +kernel
theorem dX10_init_114 : decode cX10_init 114 = .ok (.new 72, 3) := by decide +kernel
theorem dX10_init_117 : decode cX10_init 117 = .ok (.dup, 1) := by decide +kernel
theorem dX10_init_118 : decode cX10_init 118 = .ok (.aload_n 0, 1) := by decide +kernel
theorem dX10_init_119 : decode cX10_init 119 = .ok (.getfield 52, 3) := by decide +kernel
theorem dX10_init_122 : decode cX10_init 122 = .ok (.invokespecial 74, 3) := by decide +kernel
theorem dX10_init_125 : decode cX10_init 125 = .ok (.putfield 75, 3) := by decide +kernel
theorem dX10_init_128 : decode cX10_init 128 = .ok (.aload_n 0, 1) := by decide +kernel
theorem dX10_init_129 : decode cX10_init 129 = .ok (.new 79, 3) := by decide +kernel
theorem dX10_init_132 : decode cX10_init 132 = .ok (.dup, 1) := by decide +kernel
theorem dX10_init_133 : decode cX10_init 133 = .ok (.invokespecial 81, 3) := by decide +kernel
theorem dX10_init_136 : decode cX10_init 136 = .ok (.putfield 82, 3) := by decide +kernel
theorem dX10_init_139 : decode cX10_init 139 = .ok (.aload_n 0, 1) := by decide +kernel
theorem dX10_init_140 : decode cX10_init 140 = .ok (.iconst 0, 1) := by decide +kernel
theorem dX10_init_141 : decode cX10_init 141 = .ok (.putfield 86, 3) := by decide +kernel
theorem dX10_init_144 : decode cX10_init 144 = .ok (.return_, 1) := by decide +kernel
theorem dX10_type_0 : decode cX10_type 0 = .ok (.iload_n 1, 1) := by decide +kernel
theorem dX10_type_1 : decode cX10_type 1 = .ok (.iconst 0, 1) := by decide +kernel
theorem dX10_type_2 : decode cX10_type 2 = .ok (.iconst 1, 1) := by decide +kernel
theorem dX10_type_3 : decode cX10_type 3 = .ok (.invokestatic 90, 3) := by decide +kernel
theorem dX10_type_6 : decode cX10_type 6 = .ok (.ifCond .eq 14, 3) := by decide +kernel
theorem dX10_type_9 : decode cX10_type 9 = .ok (.iload_n 2, 1) := by decide +kernel
theorem dX10_type_10 : decode cX10_type 10 = .ok (.iconst 0, 1) := by decide +kernel
theorem dX10_type_11 : decode cX10_type 11 = .ok (.sipush 255, 3) := by decide +kernel
theorem dX10_type_14 : decode cX10_type 14 = .ok (.invokestatic 90, 3) := by decide +kernel
theorem dX10_type_17 : decode cX10_type 17 = .ok (.ifCond .ne 6, 3) := by decide +kernel
theorem dX10_type_20 : decode cX10_type 20 = .ok (.bipush (-2), 2) := by decide +kernel
theorem dX10_type_22 : decode cX10_type 22 = .ok (.ireturn, 1) := by decide +kernel
theorem dX10_type_23 : decode cX10_type 23 = .ok (.aload_n 0, 1) := by decide +kernel
theorem dX10_type_24 : decode cX10_type 24 = .ok (.iload_n 1, 1) := by decide +kernel
theorem dX10_type_25 : decode cX10_type 25 = .ok (.invokevirtual 94, 3) := by decide +kernel
theorem dX10_type_28 : decode cX10_type 28 = .ok (.iload_n 2, 1) := by decide +kernel
theorem dX10_type_29 : decode cX10_type 29 = .ok (.invokevirtual 98, 3) := by decide +kernel
theorem dX10_type_32 : decode cX10_type 32 = .ok (.istore_n 3, 1) := by decide +kernel
theorem dX10_type_33 : decode cX10_type 33 = .ok (.iload_n 3, 1) := by decide +kernel
theorem dX10_type_34 : decode cX10_type 34 = .ok (.bipush (-4), 2) := by decide +kernel
theorem dX10_type_36 : decode cX10_type 36 = .ok (.if_icmp .eq 7, 3) := by decide +kernel
theorem dX10_type_39 : decode cX10_type 39 = .ok (.aload_n 0, 1) := by decide +kernel
theorem dX10_type_40 : decode cX10_type 40 = .ok (.invokevirtual 102, 3) := by decide +kernel
theorem dX10_type_43 : decode cX10_type 43 = .ok (.iload_n 3, 1) := by decide +kernel
theorem dX10_type_44 : decode cX10_type 44 = .ok (.ireturn, 1) := by decide +kernel
theorem dX10_wipe_0 : decode cX10_wipe 0 = .ok (.iload_n 1, 1) := by decide +kernel
theorem dX10_wipe_1 : decode cX10_wipe 1 = .ok (.iconst 0, 1) := by decide +kernel
theorem dX10_wipe_2 : decode cX10_wipe 2 = .ok (.iconst 1, 1) := by decide +kernel
theorem dX10_wipe_3 : decode cX10_wipe 3 = .ok (.invokestatic 90, 3) := by decide +kernel
theorem dX10_wipe_6 : decode cX10_wipe 6 = .ok (.ifCond .ne 6, 3) := by decide +kernel
theorem dX10_wipe_9 : decode cX10_wipe 9 = .ok (.bipush (-2), 2) := by decide +kernel
theorem dX10_wipe_11 : decode cX10_wipe 11 = .ok (.ireturn, 1) := by decide +kernel
theorem dX10_wipe_12 : decode cX10_wipe 12 = .ok (.aload_n 0, 1) := by decide +kernel
theorem dX10_wipe_13 : decode cX10_wipe 13 = .ok (.iload_n 1, 1) := by decide +kernel
theorem dX10_wipe_14 : decode cX10_wipe 14 = .ok (.invokevirtual 94, 3) := by decide +kernel
theorem dX10_wipe_17 : decode cX10_wipe 17 = .ok (.getfield 105, 3) := by decide +kernel
theorem dX10_wipe_20 : decode cX10_wipe 20 = .ok (.istore_n 2, 1) := by decide +kernel
theorem dX10_wipe_21 : decode cX10_wipe 21 = .ok (.aload_n 0, 1) := by decide +kernel
theorem dX10_wipe_22 : decode cX10_wipe 22 = .ok (.iload_n 1, 1) := by decide +kernel
theorem dX10_wipe_23 : decode cX10_wipe 23 = .ok (.invokevirtual 94, 3) := by decide +kernel
theorem dX10_wipe_26 : decode cX10_wipe 26 = .ok (.iconst 0, 1) := by decide +kernel
theorem dX10_wipe_27 : decode cX10_wipe 27 = .ok (.putfield 105, 3) := by decide +kernel
theorem dX10_wipe_30 : decode cX10_wipe 30 = .ok (.aload_n 0, 1) := by decide +kernel
theorem dX10_wipe_31 : decode cX10_wipe 31 = .ok (.invokevirtual 102, 3) := by decide +kernel
theorem dX10_wipe_34 : decode cX10_wipe 34 = .ok (.iload_n 2, 1) := by decide +kernel
theorem dX10_wipe_35 : decode cX10_wipe 35 = .ok (.ireturn, 1) := by decide +kernel
theorem dX10_undo_0 : decode cX10_undo 0 = .ok (.iload_n 1, 1) := by decide +kernel
theorem dX10_undo_1 : decode cX10_undo 1 = .ok (.iconst 0, 1) := by decide +kernel
theorem dX10_undo_2 : decode cX10_undo 2 = .ok (.iconst 1, 1) := by decide +kernel
theorem dX10_undo_3 : decode cX10_undo 3 = .ok (.invokestatic 90, 3) := by decide +kernel
theorem dX10_undo_6 : decode cX10_undo 6 = .ok (.ifCond .ne 6, 3) := by decide +kernel
theorem dX10_undo_9 : decode cX10_undo 9 = .ok (.bipush (-2), 2) := by decide +kernel
theorem dX10_undo_11 : decode cX10_undo 11 = .ok (.ireturn, 1) := by decide +kernel
theorem dX10_undo_12 : decode cX10_undo 12 = .ok (.aload_n 0, 1) := by decide +kernel
theorem dX10_undo_13 : decode cX10_undo 13 = .ok (.iload_n 1, 1) := by decide +kernel
theorem dX10_undo_14 : decode cX10_undo 14 = .ok (.invokevirtual 94, 3) := by decide +kernel
theorem dX10_undo_17 : decode cX10_undo 17 = .ok (.getfield 105, 3) := by decide +kernel
theorem dX10_undo_20 : decode cX10_undo 20 = .ok (.ifCond .gt 6, 3) := by decide +kernel
theorem dX10_undo_23 : decode cX10_undo 23 = .ok (.bipush (-3), 2) := by decide +kernel
theorem dX10_undo_25 : decode cX10_undo 25 = .ok (.ireturn, 1) := by decide +kernel
theorem dX10_undo_26 : decode cX10_undo 26 = .ok (.aload_n 0, 1) := by decide +kernel
theorem dX10_undo_27 : decode cX10_undo 27 = .ok (.iload_n 1, 1) := by decide +kernel
theorem dX10_undo_28 : decode cX10_undo 28 = .ok (.invokevirtual 94, 3) := by decide +kernel
theorem dX10_undo_31 : decode cX10_undo 31 = .ok (.dup, 1) := by decide +kernel
theorem dX10_undo_32 : decode cX10_undo 32 = .ok (.getfield 105, 3) := by decide +kernel
theorem dX10_undo_35 : decode cX10_undo 35 = .ok (.iconst 1, 1) := by decide +kernel
theorem dX10_undo_36 : decode cX10_undo 36 = .ok (.isub, 1) := by decide +kernel
theorem dX10_undo_37 : decode cX10_undo 37 = .ok (.putfield 105, 3) := by decide +kernel
theorem dX10_undo_40 : decode cX10_undo 40 = .ok (.aload_n 0, 1) := by decide +kernel
theorem dX10_undo_41 : decode cX10_undo 41 = .ok (.invokevirtual 102, 3) := by decide +kernel
theorem dX10_undo_44 : decode cX10_undo 44 = .ok (.aload_n 0, 1) := by decide +kernel
theorem dX10_undo_45 : decode cX10_undo 45 = .ok (.iload_n 1, 1) := by decide +kernel
theorem dX10_undo_46 : decode cX10_undo 46 = .ok (.invokevirtual 94, 3) := by decide +kernel
theorem dX10_undo_49 : decode cX10_undo 49 = .ok (.getfield 105, 3) := by decide +kernel
theorem dX10_undo_52 : decode cX10_undo 52 = .ok (.ireturn, 1) := by decide +kernel
theorem dX10_fault_0 : decode cX10_fault 0 = .ok (.iload_n 1, 1) := by decide +kernel
theorem dX10_fault_1 : decode cX10_fault 1 = .ok (.iconst 0, 1) := by decide +kernel
theorem dX10_fault_2 : decode cX10_fault 2 = .ok (.iconst 1, 1) := by decide +kernel
theorem dX10_fault_3 : decode cX10_fault 3 = .ok (.invokestatic 90, 3) := by decide +kernel
theorem dX10_fault_6 : decode cX10_fault 6 = .ok (.ifCond .eq 14, 3) := by decide +kernel
theorem dX10_fault_9 : decode cX10_fault 9 = .ok (.aload_n 0, 1) := by decide +kernel
theorem dX10_fault_10 : decode cX10_fault 10 = .ok (.iload_n 1, 1) := by decide +kernel
theorem dX10_fault_11 : decode cX10_fault 11 = .ok (.invokevirtual 94, 3) := by decide +kernel
theorem dX10_fault_14 : decode cX10_fault 14 = .ok (.invokevirtual 109, 3) := by decide +kernel
theorem dX10_fault_17 : decode cX10_fault 17 = .ok (.goto 5, 3) := by decide +kernel
theorem dX10_fault_20 : decode cX10_fault 20 = .ok (.bipush (-2), 2) := by decide +kernel
theorem dX10_fault_22 : decode cX10_fault 22 = .ok (.ireturn, 1) := by decide +kernel
theorem dX10_person_0 : decode cX10_person 0 = .ok (.aload_n 0, 1) := by decide +kernel
theorem dX10_person_1 : decode cX10_person 1 = .ok (.iload_n 1, 1) := by decide +kernel
theorem dX10_person_2 : decode cX10_person 2 = .ok (.invokevirtual 113, 3) := by decide +kernel
theorem dX10_person_5 : decode cX10_person 5 = .ok (.ifCond .eq 12, 3) := by decide +kernel
theorem dX10_person_8 : decode cX10_person 8 = .ok (.iload_n 2, 1) := by decide +kernel
theorem dX10_person_9 : decode cX10_person 9 = .ok (.iconst 0, 1) := by decide +kernel
theorem dX10_person_10 : decode cX10_person 10 = .ok (.iconst 2, 1) := by decide +kernel
theorem dX10_person_11 : decode cX10_person 11 = .ok (.invokestatic 90, 3) := by decide +kernel
theorem dX10_person_14 : decode cX10_person 14 = .ok (.ifCond .ne 6, 3) := by decide +kernel
theorem dX10_person_17 : decode cX10_person 17 = .ok (.bipush (-2), 2) := by decide +kernel
theorem dX10_person_19 : decode cX10_person 19 = .ok (.ireturn, 1) := by decide +kernel
theorem dX10_person_20 : decode cX10_person 20 = .ok (.aload_n 0, 1) := by decide +kernel
theorem dX10_person_21 : decode cX10_person 21 = .ok (.getfield 36, 3) := by decide +kernel
theorem dX10_person_24 : decode cX10_person 24 = .ok (.getfield 117, 3) := by decide +kernel
theorem dX10_person_27 : decode cX10_person 27 = .ok (.iload_n 1, 1) := by decide +kernel
theorem dX10_person_28 : decode cX10_person 28 = .ok (.iload_n 2, 1) := by decide +kernel
theorem dX10_person_29 : decode cX10_person 29 = .ok (.invokevirtual 121, 3) := by decide +kernel
theorem dX10_person_32 : decode cX10_person 32 = .ok (.ireturn, 1) := by decide +kernel
theorem dX10_deed_0 : decode cX10_deed 0 = .ok (.aload_n 0, 1) := by decide +kernel
theorem dX10_deed_1 : decode cX10_deed 1 = .ok (.iload_n 1, 1) := by decide +kernel
theorem dX10_deed_2 : decode cX10_deed 2 = .ok (.invokevirtual 127, 3) := by decide +kernel
theorem dX10_deed_5 : decode cX10_deed 5 = .ok (.ifCond .eq 12, 3) := by decide +kernel
theorem dX10_deed_8 : decode cX10_deed 8 = .ok (.iload_n 2, 1) := by decide +kernel
theorem dX10_deed_9 : decode cX10_deed 9 = .ok (.iconst 0, 1) := by decide +kernel
theorem dX10_deed_10 : decode cX10_deed 10 = .ok (.iconst 2, 1) := by decide +kernel
theorem dX10_deed_11 : decode cX10_deed 11 = .ok (.invokestatic 90, 3) := by decide +kernel
theorem dX10_deed_14 : decode cX10_deed 14 = .ok (.ifCond .ne 6, 3) := by decide +kernel
theorem dX10_deed_17 : decode cX10_deed 17 = .ok (.bipush (-2), 2) := by decide +kernel
theorem dX10_deed_19 : decode cX10_deed 19 = .ok (.ireturn, 1) := by decide +kernel
theorem dX10_deed_20 : decode cX10_deed 20 = .ok (.aload_n 0, 1) := by decide +kernel
theorem dX10_deed_21 : decode cX10_deed 21 = .ok (.getfield 36, 3) := by decide +kernel
theorem dX10_deed_24 : decode cX10_deed 24 = .ok (.getfield 130, 3) := by decide +kernel
theorem dX10_deed_27 : decode cX10_deed 27 = .ok (.iload_n 1, 1) := by decide +kernel
theorem dX10_deed_28 : decode cX10_deed 28 = .ok (.iload_n 2, 1) := by decide +kernel
theorem dX10_deed_29 : decode cX10_deed 29 = .ok (.invokevirtual 121, 3) := by decide +kernel
theorem dX10_deed_32 : decode cX10_deed 32 = .ok (.ireturn, 1) := by decide +kernel
theorem dX10_set_0 : decode cX10_set 0 = .ok (.iload_n 1, 1) := by decide +kernel
theorem dX10_set_1 : decode cX10_set 1 = .ok (.iconst 0, 1) := by decide +kernel
theorem dX10_set_2 : decode cX10_set 2 = .ok (.iconst 1, 1) := by decide +kernel
theorem dX10_set_3 : decode cX10_set 3 = .ok (.invokestatic 90, 3) := by decide +kernel
theorem dX10_set_6 : decode cX10_set 6 = .ok (.ifCond .eq 22, 3) := by decide +kernel
theorem dX10_set_9 : decode cX10_set 9 = .ok (.iload_n 2, 1) := by decide +kernel
theorem dX10_set_10 : decode cX10_set 10 = .ok (.iconst 0, 1) := by decide +kernel
theorem dX10_set_11 : decode cX10_set 11 = .ok (.iload_n 1, 1) := by decide +kernel
theorem dX10_set_12 : decode cX10_set 12 = .ok (.ifCond .ne 8, 3) := by decide +kernel
theorem dX10_set_15 : decode cX10_set 15 = .ok (.bipush 9, 2) := by decide +kernel
theorem dX10_set_17 : decode cX10_set 17 = .ok (.goto 5, 3) := by decide +kernel
theorem dX10_set_20 : decode cX10_set 20 = .ok (.bipush 30, 2) := by decide +kernel
theorem dX10_set_22 : decode cX10_set 22 = .ok (.invokestatic 90, 3) := by decide +kernel
theorem dX10_set_25 : decode cX10_set 25 = .ok (.ifCond .ne 6, 3) := by decide +kernel
theorem dX10_set_28 : decode cX10_set 28 = .ok (.bipush (-2), 2) := by decide +kernel
theorem dX10_set_30 : decode cX10_set 30 = .ok (.ireturn, 1) := by decide +kernel
theorem dX10_set_31 : decode cX10_set 31 = .ok (.iload_n 1, 1) := by decide +kernel
theorem dX10_set_32 : decode cX10_set 32 = .ok (.ifCond .ne 13, 3) := by decide +kernel
theorem dX10_set_35 : decode cX10_set 35 = .ok (.aload_n 0, 1) := by decide +kernel
theorem dX10_set_36 : decode cX10_set 36 = .ok (.getfield 36, 3) := by decide +kernel
theorem dX10_set_39 : decode cX10_set 39 = .ok (.getfield 133, 3) := by decide +kernel
theorem dX10_set_42 : decode cX10_set 42 = .ok (.goto 10, 3) := by decide +kernel
theorem dX10_set_45 : decode cX10_set 45 = .ok (.aload_n 0, 1) := by decide +kernel
theorem dX10_set_46 : decode cX10_set 46 = .ok (.getfield 36, 3) := by decide +kernel
theorem dX10_set_49 : decode cX10_set 49 = .ok (.getfield 136, 3) := by decide +kernel
theorem dX10_set_52 : decode cX10_set 52 = .ok (.istore_n 3, 1) := by decide +kernel
theorem dX10_set_53 : decode cX10_set 53 = .ok (.iload_n 1, 1) := by decide +kernel
theorem dX10_set_54 : decode cX10_set 54 = .ok (.ifCond .ne 14, 3) := by decide +kernel
theorem dX10_set_57 : decode cX10_set 57 = .ok (.aload_n 0, 1) := by decide +kernel
theorem dX10_set_58 : decode cX10_set 58 = .ok (.getfield 36, 3) := by decide +kernel
theorem dX10_set_61 : decode cX10_set 61 = .ok (.iload_n 2, 1) := by decide +kernel
theorem dX10_set_62 : decode cX10_set 62 = .ok (.putfield 133, 3) := by decide +kernel
theorem dX10_set_65 : decode cX10_set 65 = .ok (.goto 11, 3) := by decide +kernel
theorem dX10_set_68 : decode cX10_set 68 = .ok (.aload_n 0, 1) := by decide +kernel
theorem dX10_set_69 : decode cX10_set 69 = .ok (.getfield 36, 3) := by decide +kernel
theorem dX10_set_72 : decode cX10_set 72 = .ok (.iload_n 2, 1) := by decide +kernel
theorem dX10_set_73 : decode cX10_set 73 = .ok (.putfield 136, 3) := by decide +kernel
theorem dX10_set_76 : decode cX10_set 76 = .ok (.aload_n 0, 1) := by decide +kernel
theorem dX10_set_77 : decode cX10_set 77 = .ok (.invokevirtual 139, 3) := by decide +kernel
theorem dX10_set_80 : decode cX10_set 80 = .ok (.iload_n 3, 1) := by decide +kernel
theorem dX10_set_81 : decode cX10_set 81 = .ok (.ireturn, 1) := by decide +kernel
theorem dX10_round_0 : decode cX10_round 0 = .ok (.iload_n 1, 1) := by decide +kernel
theorem dX10_round_1 : decode cX10_round 1 = .ok (.invokestatic 142, 3) := by decide +kernel
theorem dX10_round_4 : decode cX10_round 4 = .ok (.ifCond .eq 19, 3) := by decide +kernel
theorem dX10_round_7 : decode cX10_round 7 = .ok (.iload_n 2, 1) := by decide +kernel
theorem dX10_round_8 : decode cX10_round 8 = .ok (.invokestatic 145, 3) := by decide +kernel
theorem dX10_round_11 : decode cX10_round 11 = .ok (.ifCond .eq 12, 3) := by decide +kernel
theorem dX10_round_14 : decode cX10_round 14 = .ok (.iload_n 3, 1) := by decide +kernel
theorem dX10_round_15 : decode cX10_round 15 = .ok (.iconst 1, 1) := by decide +kernel
theorem dX10_round_16 : decode cX10_round 16 = .ok (.iconst 4, 1) := by decide +kernel
theorem dX10_round_17 : decode cX10_round 17 = .ok (.invokestatic 90, 3) := by decide +kernel
theorem dX10_round_20 : decode cX10_round 20 = .ok (.ifCond .ne 6, 3) := by decide +kernel
theorem dX10_round_23 : decode cX10_round 23 = .ok (.bipush (-2), 2) := by decide +kernel
theorem dX10_round_25 : decode cX10_round 25 = .ok (.ireturn, 1) := by decide +kernel
theorem dX10_round_26 : decode cX10_round 26 = .ok (.aload_n 0, 1) := by decide +kernel
theorem dX10_round_27 : decode cX10_round 27 = .ok (.getfield 36, 3) := by decide +kernel
theorem dX10_round_30 : decode cX10_round 30 = .ok (.getfield 148, 3) := by decide +kernel
theorem dX10_round_33 : decode cX10_round 33 = .ok (.getfield 151, 3) := by decide +kernel
theorem dX10_round_36 : decode cX10_round 36 = .ok (.bipush 8, 2) := by decide +kernel
theorem dX10_round_38 : decode cX10_round 38 = .ok (.if_icmp .lt 6, 3) := by decide +kernel
theorem dX10_round_41 : decode cX10_round 41 = .ok (.bipush (-4), 2) := by decide +kernel
theorem dX10_round_43 : decode cX10_round 43 = .ok (.ireturn, 1) := by decide +kernel
theorem dX10_round_44 : decode cX10_round 44 = .ok (.aload_n 0, 1) := by decide +kernel
theorem dX10_round_45 : decode cX10_round 45 = .ok (.invokevirtual 139, 3) := by decide +kernel
theorem dX10_round_48 : decode cX10_round 48 = .ok (.aload_n 0, 1) := by decide +kernel
theorem dX10_round_49 : decode cX10_round 49 = .ok (.getfield 36, 3) := by decide +kernel
theorem dX10_round_52 : decode cX10_round 52 = .ok (.getfield 148, 3) := by decide +kernel
theorem dX10_round_55 : decode cX10_round 55 = .ok (.iload_n 1, 1) := by decide +kernel
theorem dX10_round_56 : decode cX10_round 56 = .ok (.iload_n 2, 1) := by decide +kernel
theorem dX10_round_57 : decode cX10_round 57 = .ok (.iload_n 3, 1) := by decide +kernel
theorem dX10_round_58 : decode cX10_round 58 = .ok (.invokevirtual 154, 3) := by decide +kernel
theorem dX10_round_61 : decode cX10_round 61 = .ok (.ireturn, 1) := by decide +kernel
theorem dX10_journey_0 : decode cX10_journey 0 = .ok (.iload_n 1, 1) := by decide +kernel
theorem dX10_journey_1 : decode cX10_journey 1 = .ok (.invokestatic 142, 3) := by decide +kernel
theorem dX10_journey_4 : decode cX10_journey 4 = .ok (.ifCond .eq 20, 3) := by decide +kernel
theorem dX10_journey_7 : decode cX10_journey 7 = .ok (.iload_n 2, 1) := by decide +kernel
theorem dX10_journey_8 : decode cX10_journey 8 = .ok (.iconst 0, 1) := by decide +kernel
theorem dX10_journey_9 : decode cX10_journey 9 = .ok (.bipush 7, 2) := by decide +kernel
theorem dX10_journey_11 : decode cX10_journey 11 = .ok (.invokestatic 90, 3) := by decide +kernel
theorem dX10_journey_14 : decode cX10_journey 14 = .ok (.ifCond .eq 10, 3) := by decide +kernel
theorem dX10_journey_17 : decode cX10_journey 17 = .ok (.iload_n 3, 1) := by decide +kernel
theorem dX10_journey_18 : decode cX10_journey 18 = .ok (.invokestatic 145, 3) := by decide +kernel
theorem dX10_journey_21 : decode cX10_journey 21 = .ok (.ifCond .ne 6, 3) := by decide +kernel
theorem dX10_journey_24 : decode cX10_journey 24 = .ok (.bipush (-2), 2) := by decide +kernel
theorem dX10_journey_26 : decode cX10_journey 26 = .ok (.ireturn, 1) := by decide +kernel
theorem dX10_journey_27 : decode cX10_journey 27 = .ok (.aload_n 0, 1) := by decide +kernel
theorem dX10_journey_28 : decode cX10_journey 28 = .ok (.getfield 36, 3) := by decide +kernel
theorem dX10_journey_31 : decode cX10_journey 31 = .ok (.getfield 157, 3) := by decide +kernel
theorem dX10_journey_34 : decode cX10_journey 34 = .ok (.getfield 151, 3) := by decide +kernel
theorem dX10_journey_37 : decode cX10_journey 37 = .ok (.bipush 8, 2) := by decide +kernel
theorem dX10_journey_39 : decode cX10_journey 39 = .ok (.if_icmp .lt 6, 3) := by decide +kernel
theorem dX10_journey_42 : decode cX10_journey 42 = .ok (.bipush (-4), 2) := by decide +kernel
theorem dX10_journey_44 : decode cX10_journey 44 = .ok (.ireturn, 1) := by decide +kernel
theorem dX10_journey_45 : decode cX10_journey 45 = .ok (.aload_n 0, 1) := by decide +kernel
theorem dX10_journey_46 : decode cX10_journey 46 = .ok (.invokevirtual 139, 3) := by decide +kernel
theorem dX10_journey_49 : decode cX10_journey 49 = .ok (.aload_n 0, 1) := by decide +kernel
theorem dX10_journey_50 : decode cX10_journey 50 = .ok (.getfield 36, 3) := by decide +kernel
theorem dX10_journey_53 : decode cX10_journey 53 = .ok (.getfield 157, 3) := by decide +kernel
theorem dX10_journey_56 : decode cX10_journey 56 = .ok (.iload_n 1, 1) := by decide +kernel
theorem dX10_journey_57 : decode cX10_journey 57 = .ok (.iload_n 2, 1) := by decide +kernel
theorem dX10_journey_58 : decode cX10_journey 58 = .ok (.iload_n 3, 1) := by decide +kernel
theorem dX10_journey_59 : decode cX10_journey 59 = .ok (.invokevirtual 154, 3) := by decide +kernel
theorem dX10_journey_62 : decode cX10_journey 62 = .ok (.ireturn, 1) := by decide +kernel
theorem dX10_frost_0 : decode cX10_frost 0 = .ok (.iload_n 1, 1) := by decide +kernel
theorem dX10_frost_1 : decode cX10_frost 1 = .ok (.invokestatic 142, 3) := by decide +kernel
theorem dX10_frost_4 : decode cX10_frost 4 = .ok (.ifCond .ne 6, 3) := by decide +kernel
theorem dX10_frost_7 : decode cX10_frost 7 = .ok (.bipush (-2), 2) := by decide +kernel
theorem dX10_frost_9 : decode cX10_frost 9 = .ok (.ireturn, 1) := by decide +kernel
theorem dX10_frost_10 : decode cX10_frost 10 = .ok (.aload_n 0, 1) := by decide +kernel
theorem dX10_frost_11 : decode cX10_frost 11 = .ok (.getfield 36, 3) := by decide +kernel
theorem dX10_frost_14 : decode cX10_frost 14 = .ok (.getfield 160, 3) := by decide +kernel
theorem dX10_frost_17 : decode cX10_frost 17 = .ok (.getfield 151, 3) := by decide +kernel
theorem dX10_frost_20 : decode cX10_frost 20 = .ok (.bipush 6, 2) := by decide +kernel
theorem dX10_frost_22 : decode cX10_frost 22 = .ok (.if_icmp .lt 6, 3) := by decide +kernel
theorem dX10_frost_25 : decode cX10_frost 25 = .ok (.bipush (-4), 2) := by decide +kernel
theorem dX10_frost_27 : decode cX10_frost 27 = .ok (.ireturn, 1) := by decide +kernel
theorem dX10_frost_28 : decode cX10_frost 28 = .ok (.aload_n 0, 1) := by decide +kernel
theorem dX10_frost_29 : decode cX10_frost 29 = .ok (.invokevirtual 139, 3) := by decide +kernel
theorem dX10_frost_32 : decode cX10_frost 32 = .ok (.aload_n 0, 1) := by decide +kernel
theorem dX10_frost_33 : decode cX10_frost 33 = .ok (.getfield 36, 3) := by decide +kernel
theorem dX10_frost_36 : decode cX10_frost 36 = .ok (.getfield 160, 3) := by decide +kernel
theorem dX10_frost_39 : decode cX10_frost 39 = .ok (.iload_n 1, 1) := by decide +kernel
theorem dX10_frost_40 : decode cX10_frost 40 = .ok (.iconst 0, 1) := by decide +kernel
theorem dX10_frost_41 : decode cX10_frost 41 = .ok (.iconst 0, 1) := by decide +kernel
theorem dX10_frost_42 : decode cX10_frost 42 = .ok (.invokevirtual 154, 3) := by decide +kernel
theorem dX10_frost_45 : decode cX10_frost 45 = .ok (.ireturn, 1) := by decide +kernel
theorem dX10_back_0 : decode cX10_back 0 = .ok (.iload_n 1, 1) := by decide +kernel
theorem dX10_back_1 : decode cX10_back 1 = .ok (.iconst 0, 1) := by decide +kernel
theorem dX10_back_2 : decode cX10_back 2 = .ok (.iconst 2, 1) := by decide +kernel
theorem dX10_back_3 : decode cX10_back 3 = .ok (.invokestatic 90, 3) := by decide +kernel
theorem dX10_back_6 : decode cX10_back 6 = .ok (.ifCond .ne 6, 3) := by decide +kernel
theorem dX10_back_9 : decode cX10_back 9 = .ok (.bipush (-2), 2) := by decide +kernel
theorem dX10_back_11 : decode cX10_back 11 = .ok (.ireturn, 1) := by decide +kernel
theorem dX10_back_12 : decode cX10_back 12 = .ok (.iload_n 1, 1) := by decide +kernel
theorem dX10_back_13 : decode cX10_back 13 = .ok (.ifCond .ne 13, 3) := by decide +kernel
theorem dX10_back_16 : decode cX10_back 16 = .ok (.aload_n 0, 1) := by decide +kernel
theorem dX10_back_17 : decode cX10_back 17 = .ok (.getfield 36, 3) := by decide +kernel
theorem dX10_back_20 : decode cX10_back 20 = .ok (.getfield 148, 3) := by decide +kernel
theorem dX10_back_23 : decode cX10_back 23 = .ok (.goto 25, 3) := by decide +kernel
theorem dX10_back_26 : decode cX10_back 26 = .ok (.iload_n 1, 1) := by decide +kernel
theorem dX10_back_27 : decode cX10_back 27 = .ok (.iconst 1, 1) := by decide +kernel
theorem dX10_back_28 : decode cX10_back 28 = .ok (.if_icmp .ne 13, 3) := by decide +kernel
theorem dX10_back_31 : decode cX10_back 31 = .ok (.aload_n 0, 1) := by decide +kernel
theorem dX10_back_32 : decode cX10_back 32 = .ok (.getfield 36, 3) := by decide +kernel
theorem dX10_back_35 : decode cX10_back 35 = .ok (.getfield 157, 3) := by decide +kernel
theorem dX10_back_38 : decode cX10_back 38 = .ok (.goto 10, 3) := by decide +kernel
theorem dX10_back_41 : decode cX10_back 41 = .ok (.aload_n 0, 1) := by decide +kernel
theorem dX10_back_42 : decode cX10_back 42 = .ok (.getfield 36, 3) := by decide +kernel
theorem dX10_back_45 : decode cX10_back 45 = .ok (.getfield 160, 3) := by decide +kernel
theorem dX10_back_48 : decode cX10_back 48 = .ok (.astore_n 2, 1) := by decide +kernel
theorem dX10_back_49 : decode cX10_back 49 = .ok (.aload_n 2, 1) := by decide +kernel
theorem dX10_back_50 : decode cX10_back 50 = .ok (.getfield 151, 3) := by decide +kernel
theorem dX10_back_53 : decode cX10_back 53 = .ok (.ifCond .gt 6, 3) := by decide +kernel
theorem dX10_back_56 : decode cX10_back 56 = .ok (.bipush (-3), 2) := by decide +kernel
theorem dX10_back_58 : decode cX10_back 58 = .ok (.ireturn, 1) := by decide +kernel
theorem dX10_back_59 : decode cX10_back 59 = .ok (.aload_n 0, 1) := by decide +kernel
theorem dX10_back_60 : decode cX10_back 60 = .ok (.invokevirtual 139, 3) := by decide +kernel
theorem dX10_back_63 : decode cX10_back 63 = .ok (.aload_n 2, 1) := by decide +kernel
theorem dX10_back_64 : decode cX10_back 64 = .ok (.dup, 1) := by decide +kernel
theorem dX10_back_65 : decode cX10_back 65 = .ok (.getfield 151, 3) := by decide +kernel
theorem dX10_back_68 : decode cX10_back 68 = .ok (.iconst 1, 1) := by decide +kernel
theorem dX10_back_69 : decode cX10_back 69 = .ok (.isub, 1) := by decide +kernel
theorem dX10_back_70 : decode cX10_back 70 = .ok (.putfield 151, 3) := by decide +kernel
theorem dX10_back_73 : decode cX10_back 73 = .ok (.aload_n 2, 1) := by decide +kernel
theorem dX10_back_74 : decode cX10_back 74 = .ok (.getfield 151, 3) := by decide +kernel
theorem dX10_back_77 : decode cX10_back 77 = .ok (.ireturn, 1) := by decide +kernel
theorem dX10_read_0 : decode cX10_read 0 = .ok (.iload_n 1, 1) := by decide +kernel
theorem dX10_read_1 : decode cX10_read 1 = .ok (.invokestatic 163, 3) := by decide +kernel
theorem dX10_read_4 : decode cX10_read 4 = .ok (.ifCond .ne 6, 3) := by decide +kernel
theorem dX10_read_7 : decode cX10_read 7 = .ok (.bipush (-2), 2) := by decide +kernel
theorem dX10_read_9 : decode cX10_read 9 = .ok (.ireturn, 1) := by decide +kernel
theorem dX10_read_10 : decode cX10_read 10 = .ok (.aload_n 0, 1) := by decide +kernel
theorem dX10_read_11 : decode cX10_read 11 = .ok (.getfield 82, 3) := by decide +kernel
theorem dX10_read_14 : decode cX10_read 14 = .ok (.iload_n 1, 1) := by decide +kernel
theorem dX10_read_15 : decode cX10_read 15 = .ok (.invokevirtual 166, 3) := by decide +kernel
theorem dX10_read_18 : decode cX10_read 18 = .ok (.ifCond .eq 12, 3) := by decide +kernel
theorem dX10_read_21 : decode cX10_read 21 = .ok (.aload_n 0, 1) := by decide +kernel
theorem dX10_read_22 : decode cX10_read 22 = .ok (.getfield 82, 3) := by decide +kernel
theorem dX10_read_25 : decode cX10_read 25 = .ok (.iconst 1, 1) := by decide +kernel
theorem dX10_read_26 : decode cX10_read 26 = .ok (.invokevirtual 169, 3) := by decide +kernel
theorem dX10_read_29 : decode cX10_read 29 = .ok (.ireturn, 1) := by decide +kernel
theorem dX10_read_30 : decode cX10_read 30 = .ok (.iconst 0, 1) := by decide +kernel
theorem dX10_read_31 : decode cX10_read 31 = .ok (.istore_n 2, 1) := by decide +kernel
theorem dX10_read_32 : decode cX10_read 32 = .ok (.iconst 0, 1) := by decide +kernel
theorem dX10_read_33 : decode cX10_read 33 = .ok (.istore_n 3, 1) := by decide +kernel
theorem dX10_read_34 : decode cX10_read 34 = .ok (.iload_n 3, 1) := by decide +kernel
theorem dX10_read_35 : decode cX10_read 35 = .ok (.iconst 2, 1) := by decide +kernel
theorem dX10_read_36 : decode cX10_read 36 = .ok (.iadd, 1) := by decide +kernel
theorem dX10_read_37 : decode cX10_read 37 = .ok (.aload_n 0, 1) := by decide +kernel
theorem dX10_read_38 : decode cX10_read 38 = .ok (.getfield 82, 3) := by decide +kernel
theorem dX10_read_41 : decode cX10_read 41 = .ok (.iload_n 1, 1) := by decide +kernel
theorem dX10_read_42 : decode cX10_read 42 = .ok (.invokevirtual 172, 3) := by decide +kernel
theorem dX10_read_45 : decode cX10_read 45 = .ok (.if_icmp .ge 52, 3) := by decide +kernel
theorem dX10_read_48 : decode cX10_read 48 = .ok (.aload_n 0, 1) := by decide +kernel
theorem dX10_read_49 : decode cX10_read 49 = .ok (.aload_n 0, 1) := by decide +kernel
theorem dX10_read_50 : decode cX10_read 50 = .ok (.getfield 82, 3) := by decide +kernel
theorem dX10_read_53 : decode cX10_read 53 = .ok (.iload_n 1, 1) := by decide +kernel
theorem dX10_read_54 : decode cX10_read 54 = .ok (.iload_n 3, 1) := by decide +kernel
theorem dX10_read_55 : decode cX10_read 55 = .ok (.invokevirtual 174, 3) := by decide +kernel
theorem dX10_read_58 : decode cX10_read 58 = .ok (.aload_n 0, 1) := by decide +kernel
theorem dX10_read_59 : decode cX10_read 59 = .ok (.getfield 82, 3) := by decide +kernel
theorem dX10_read_62 : decode cX10_read 62 = .ok (.iload_n 1, 1) := by decide +kernel
theorem dX10_read_63 : decode cX10_read 63 = .ok (.iload_n 3, 1) := by decide +kernel
theorem dX10_read_64 : decode cX10_read 64 = .ok (.iconst 1, 1) := by decide +kernel
theorem dX10_read_65 : decode cX10_read 65 = .ok (.iadd, 1) := by decide +kernel
theorem dX10_read_66 : decode cX10_read 66 = .ok (.invokevirtual 174, 3) := by decide +kernel
theorem dX10_read_69 : decode cX10_read 69 = .ok (.aload_n 0, 1) := by decide +kernel
theorem dX10_read_70 : decode cX10_read 70 = .ok (.getfield 82, 3) := by decide +kernel
theorem dX10_read_73 : decode cX10_read 73 = .ok (.iload_n 1, 1) := by decide +kernel
theorem dX10_read_74 : decode cX10_read 74 = .ok (.iload_n 3, 1) := by decide +kernel
theorem dX10_read_75 : decode cX10_read 75 = .ok (.iconst 2, 1) := by decide +kernel
theorem dX10_read_76 : decode cX10_read 76 = .ok (.iadd, 1) := by decide +kernel
theorem dX10_read_77 : decode cX10_read 77 = .ok (.invokevirtual 174, 3) := by decide +kernel
theorem dX10_read_80 : decode cX10_read 80 = .ok (.invokevirtual 177, 3) := by decide +kernel
theorem dX10_read_83 : decode cX10_read 83 = .ok (.ifCond .ge 5, 3) := by decide +kernel
theorem dX10_read_86 : decode cX10_read 86 = .ok (.iload_n 2, 1) := by decide +kernel
theorem dX10_read_87 : decode cX10_read 87 = .ok (.ireturn, 1) := by decide +kernel
theorem dX10_read_88 : decode cX10_read 88 = .ok (.iinc 2 1, 3) := by decide +kernel
theorem dX10_read_91 : decode cX10_read 91 = .ok (.iinc 3 3, 3) := by decide +kernel
theorem dX10_read_94 : decode cX10_read 94 = .ok (.goto (-60), 3) := by decide +kernel
theorem dX10_read_97 : decode cX10_read 97 = .ok (.iload_n 2, 1) := by decide +kernel
theorem dX10_read_98 : decode cX10_read 98 = .ok (.ireturn, 1) := by decide +kernel
theorem dX10_wool_0 : decode cX10_wool 0 = .ok (.iload_n 1, 1) := by decide +kernel
theorem dX10_wool_1 : decode cX10_wool 1 = .ok (.invokestatic 142, 3) := by decide +kernel
theorem dX10_wool_4 : decode cX10_wool 4 = .ok (.ifCond .eq 20, 3) := by decide +kernel
theorem dX10_wool_7 : decode cX10_wool 7 = .ok (.aload_n 0, 1) := by decide +kernel
theorem dX10_wool_8 : decode cX10_wool 8 = .ok (.iload_n 2, 1) := by decide +kernel
theorem dX10_wool_9 : decode cX10_wool 9 = .ok (.invokevirtual 113, 3) := by decide +kernel
theorem dX10_wool_12 : decode cX10_wool 12 = .ok (.ifCond .eq 12, 3) := by decide +kernel
theorem dX10_wool_15 : decode cX10_wool 15 = .ok (.iload_n 3, 1) := by decide +kernel
theorem dX10_wool_16 : decode cX10_wool 16 = .ok (.iconst 0, 1) := by decide +kernel
theorem dX10_wool_17 : decode cX10_wool 17 = .ok (.iconst 2, 1) := by decide +kernel
theorem dX10_wool_18 : decode cX10_wool 18 = .ok (.invokestatic 90, 3) := by decide +kernel
theorem dX10_wool_21 : decode cX10_wool 21 = .ok (.ifCond .ne 6, 3) := by decide +kernel
theorem dX10_wool_24 : decode cX10_wool 24 = .ok (.bipush (-2), 2) := by decide +kernel
theorem dX10_wool_26 : decode cX10_wool 26 = .ok (.ireturn, 1) := by decide +kernel
theorem dX10_wool_27 : decode cX10_wool 27 = .ok (.aload_n 0, 1) := by decide +kernel
theorem dX10_wool_28 : decode cX10_wool 28 = .ok (.invokevirtual 180, 3) := by decide +kernel
theorem dX10_wool_31 : decode cX10_wool 31 = .ok (.aload_n 0, 1) := by decide +kernel
theorem dX10_wool_32 : decode cX10_wool 32 = .ok (.getfield 45, 3) := by decide +kernel
theorem dX10_wool_35 : decode cX10_wool 35 = .ok (.iload_n 1, 1) := by decide +kernel
theorem dX10_wool_36 : decode cX10_wool 36 = .ok (.iload_n 3, 1) := by decide +kernel
theorem dX10_wool_37 : decode cX10_wool 37 = .ok (.ifCond .ne 7, 3) := by decide +kernel
theorem dX10_wool_40 : decode cX10_wool 40 = .ok (.iconst 0, 1) := by decide +kernel
theorem dX10_wool_41 : decode cX10_wool 41 = .ok (.goto 15, 3) := by decide +kernel
theorem dX10_wool_44 : decode cX10_wool 44 = .ok (.iload_n 3, 1) := by decide +kernel
theorem dX10_wool_45 : decode cX10_wool 45 = .ok (.iconst 1, 1) := by decide +kernel
theorem dX10_wool_46 : decode cX10_wool 46 = .ok (.if_icmp .ne 8, 3) := by decide +kernel
theorem dX10_wool_49 : decode cX10_wool 49 = .ok (.bipush 8, 2) := by decide +kernel
theorem dX10_wool_51 : decode cX10_wool 51 = .ok (.goto 5, 3) := by decide +kernel
theorem dX10_wool_54 : decode cX10_wool 54 = .ok (.bipush 16, 2) := by decide +kernel
theorem dX10_wool_56 : decode cX10_wool 56 = .ok (.iload_n 2, 1) := by decide +kernel
theorem dX10_wool_57 : decode cX10_wool 57 = .ok (.iadd, 1) := by decide +kernel
theorem dX10_wool_58 : decode cX10_wool 58 = .ok (.invokevirtual 183, 3) := by decide +kernel
theorem dX10_wool_61 : decode cX10_wool 61 = .ok (.ireturn, 1) := by decide +kernel
theorem dX10_dies_0 : decode cX10_dies 0 = .ok (.aload_n 0, 1) := by decide +kernel
theorem dX10_dies_1 : decode cX10_dies 1 = .ok (.iload_n 1, 1) := by decide +kernel
theorem dX10_dies_2 : decode cX10_dies 2 = .ok (.invokevirtual 113, 3) := by decide +kernel
theorem dX10_dies_5 : decode cX10_dies 5 = .ok (.ifCond .ne 6, 3) := by decide +kernel
theorem dX10_dies_8 : decode cX10_dies 8 = .ok (.bipush (-2), 2) := by decide +kernel
theorem dX10_dies_10 : decode cX10_dies 10 = .ok (.ireturn, 1) := by decide +kernel
theorem dX10_dies_11 : decode cX10_dies 11 = .ok (.aload_n 0, 1) := by decide +kernel
theorem dX10_dies_12 : decode cX10_dies 12 = .ok (.invokevirtual 180, 3) := by decide +kernel
theorem dX10_dies_15 : decode cX10_dies 15 = .ok (.aload_n 0, 1) := by decide +kernel
theorem dX10_dies_16 : decode cX10_dies 16 = .ok (.getfield 45, 3) := by decide +kernel
theorem dX10_dies_19 : decode cX10_dies 19 = .ok (.iload_n 1, 1) := by decide +kernel
theorem dX10_dies_20 : decode cX10_dies 20 = .ok (.invokevirtual 186, 3) := by decide +kernel
theorem dX10_dies_23 : decode cX10_dies 23 = .ok (.ireturn, 1) := by decide +kernel
theorem dX10_cloth_0 : decode cX10_cloth 0 = .ok (.iload_n 1, 1) := by decide +kernel
theorem dX10_cloth_1 : decode cX10_cloth 1 = .ok (.invokestatic 142, 3) := by decide +kernel
theorem dX10_cloth_4 : decode cX10_cloth 4 = .ok (.ifCond .eq 19, 3) := by decide +kernel
theorem dX10_cloth_7 : decode cX10_cloth 7 = .ok (.iload_n 2, 1) := by decide +kernel
theorem dX10_cloth_8 : decode cX10_cloth 8 = .ok (.invokestatic 145, 3) := by decide +kernel
theorem dX10_cloth_11 : decode cX10_cloth 11 = .ok (.ifCond .eq 12, 3) := by decide +kernel
theorem dX10_cloth_14 : decode cX10_cloth 14 = .ok (.iload_n 3, 1) := by decide +kernel
theorem dX10_cloth_15 : decode cX10_cloth 15 = .ok (.iconst 0, 1) := by decide +kernel
theorem dX10_cloth_16 : decode cX10_cloth 16 = .ok (.iconst 1, 1) := by decide +kernel
theorem dX10_cloth_17 : decode cX10_cloth 17 = .ok (.invokestatic 90, 3) := by decide +kernel
theorem dX10_cloth_20 : decode cX10_cloth 20 = .ok (.ifCond .ne 6, 3) := by decide +kernel
theorem dX10_cloth_23 : decode cX10_cloth 23 = .ok (.bipush (-2), 2) := by decide +kernel
theorem dX10_cloth_25 : decode cX10_cloth 25 = .ok (.ireturn, 1) := by decide +kernel
theorem dX10_cloth_26 : decode cX10_cloth 26 = .ok (.aload_n 0, 1) := by decide +kernel
theorem dX10_cloth_27 : decode cX10_cloth 27 = .ok (.invokevirtual 180, 3) := by decide +kernel
theorem dX10_cloth_30 : decode cX10_cloth 30 = .ok (.aload_n 0, 1) := by decide +kernel
theorem dX10_cloth_31 : decode cX10_cloth 31 = .ok (.getfield 45, 3) := by decide +kernel
theorem dX10_cloth_34 : decode cX10_cloth 34 = .ok (.iload_n 1, 1) := by decide +kernel
theorem dX10_cloth_35 : decode cX10_cloth 35 = .ok (.iload_n 3, 1) := by decide +kernel
theorem dX10_cloth_36 : decode cX10_cloth 36 = .ok (.ifCond .ne 8, 3) := by decide +kernel
theorem dX10_cloth_39 : decode cX10_cloth 39 = .ok (.bipush 24, 2) := by decide +kernel
theorem dX10_cloth_41 : decode cX10_cloth 41 = .ok (.goto 5, 3) := by decide +kernel
theorem dX10_cloth_44 : decode cX10_cloth 44 = .ok (.bipush 28, 2) := by decide +kernel
theorem dX10_cloth_46 : decode cX10_cloth 46 = .ok (.iload_n 2, 1) := by decide +kernel
theorem dX10_cloth_47 : decode cX10_cloth 47 = .ok (.iadd, 1) := by decide +kernel
theorem dX10_cloth_48 : decode cX10_cloth 48 = .ok (.invokevirtual 183, 3) := by decide +kernel
theorem dX10_cloth_51 : decode cX10_cloth 51 = .ok (.ireturn, 1) := by decide +kernel
theorem dX10_thorn_0 : decode cX10_thorn 0 = .ok (.iload_n 1, 1) := by decide +kernel
theorem dX10_thorn_1 : decode cX10_thorn 1 = .ok (.invokestatic 142, 3) := by decide +kernel
theorem dX10_thorn_4 : decode cX10_thorn 4 = .ok (.ifCond .ne 6, 3) := by decide +kernel
theorem dX10_thorn_7 : decode cX10_thorn 7 = .ok (.bipush (-2), 2) := by decide +kernel
theorem dX10_thorn_9 : decode cX10_thorn 9 = .ok (.ireturn, 1) := by decide +kernel
theorem dX10_thorn_10 : decode cX10_thorn 10 = .ok (.aload_n 0, 1) := by decide +kernel
theorem dX10_thorn_11 : decode cX10_thorn 11 = .ok (.invokevirtual 180, 3) := by decide +kernel
theorem dX10_thorn_14 : decode cX10_thorn 14 = .ok (.aload_n 0, 1) := by decide +kernel
theorem dX10_thorn_15 : decode cX10_thorn 15 = .ok (.getfield 45, 3) := by decide +kernel
theorem dX10_thorn_18 : decode cX10_thorn 18 = .ok (.iload_n 1, 1) := by decide +kernel
theorem dX10_thorn_19 : decode cX10_thorn 19 = .ok (.bipush 32, 2) := by decide +kernel
theorem dX10_thorn_21 : decode cX10_thorn 21 = .ok (.invokevirtual 183, 3) := by decide +kernel
theorem dX10_thorn_24 : decode cX10_thorn 24 = .ok (.ireturn, 1) := by decide +kernel
theorem dX10_tax_0 : decode cX10_tax 0 = .ok (.iload_n 1, 1) := by decide +kernel
theorem dX10_tax_1 : decode cX10_tax 1 = .ok (.iconst 0, 1) := by decide +kernel
theorem dX10_tax_2 : decode cX10_tax 2 = .ok (.iconst 1, 1) := by decide +kernel
theorem dX10_tax_3 : decode cX10_tax 3 = .ok (.invokestatic 90, 3) := by decide +kernel
theorem dX10_tax_6 : decode cX10_tax 6 = .ok (.ifCond .ne 6, 3) := by decide +kernel
theorem dX10_tax_9 : decode cX10_tax 9 = .ok (.bipush (-2), 2) := by decide +kernel
theorem dX10_tax_11 : decode cX10_tax 11 = .ok (.ireturn, 1) := by decide +kernel
theorem dX10_tax_12 : decode cX10_tax 12 = .ok (.aload_n 0, 1) := by decide +kernel
theorem dX10_tax_13 : decode cX10_tax 13 = .ok (.invokevirtual 180, 3) := by decide +kernel
theorem dX10_tax_16 : decode cX10_tax 16 = .ok (.aload_n 0, 1) := by decide +kernel
theorem dX10_tax_17 : decode cX10_tax 17 = .ok (.getfield 45, 3) := by decide +kernel
theorem dX10_tax_20 : decode cX10_tax 20 = .ok (.iload_n 1, 1) := by decide +kernel
theorem dX10_tax_21 : decode cX10_tax 21 = .ok (.ifCond .ne 8, 3) := by decide +kernel
theorem dX10_tax_24 : decode cX10_tax 24 = .ok (.bipush 11, 2) := by decide +kernel
theorem dX10_tax_26 : decode cX10_tax 26 = .ok (.goto 5, 3) := by decide +kernel
theorem dX10_tax_29 : decode cX10_tax 29 = .ok (.bipush 23, 2) := by decide +kernel
theorem dX10_tax_31 : decode cX10_tax 31 = .ok (.invokevirtual 189, 3) := by decide +kernel
theorem dX10_tax_34 : decode cX10_tax 34 = .ok (.ireturn, 1) := by decide +kernel
theorem dX10_heaviest_0 : decode cX10_heaviest 0 = .ok (.iload_n 1, 1) := by decide +kernel
theorem dX10_heaviest_1 : decode cX10_heaviest 1 = .ok (.invokestatic 142, 3) := by decide +kernel
theorem dX10_heaviest_4 : decode cX10_heaviest 4 = .ok (.ifCond .ne 6, 3) := by decide +kernel
theorem dX10_heaviest_7 : decode cX10_heaviest 7 = .ok (.bipush (-2), 2) := by decide +kernel
theorem dX10_heaviest_9 : decode cX10_heaviest 9 = .ok (.ireturn, 1) := by decide +kernel
theorem dX10_heaviest_10 : decode cX10_heaviest 10 = .ok (.aload_n 0, 1) := by decide +kernel
theorem dX10_heaviest_11 : decode cX10_heaviest 11 = .ok (.invokevirtual 180, 3) := by decide +kernel
theorem dX10_heaviest_14 : decode cX10_heaviest 14 = .ok (.aload_n 0, 1) := by decide +kernel
theorem dX10_heaviest_15 : decode cX10_heaviest 15 = .ok (.getfield 45, 3) := by decide +kernel
theorem dX10_heaviest_18 : decode cX10_heaviest 18 = .ok (.iload_n 1, 1) := by decide +kernel
theorem dX10_heaviest_19 : decode cX10_heaviest 19 = .ok (.invokevirtual 192, 3) := by decide +kernel
theorem dX10_heaviest_22 : decode cX10_heaviest 22 = .ok (.ireturn, 1) := by decide +kernel
theorem dX10_first_0 : decode cX10_first 0 = .ok (.iload_n 1, 1) := by decide +kernel
theorem dX10_first_1 : decode cX10_first 1 = .ok (.iconst 0, 1) := by decide +kernel
theorem dX10_first_2 : decode cX10_first 2 = .ok (.iconst 1, 1) := by decide +kernel
theorem dX10_first_3 : decode cX10_first 3 = .ok (.invokestatic 90, 3) := by decide +kernel
theorem dX10_first_6 : decode cX10_first 6 = .ok (.ifCond .ne 6, 3) := by decide +kernel
theorem dX10_first_9 : decode cX10_first 9 = .ok (.bipush (-2), 2) := by decide +kernel
theorem dX10_first_11 : decode cX10_first 11 = .ok (.ireturn, 1) := by decide +kernel
theorem dX10_first_12 : decode cX10_first 12 = .ok (.aload_n 0, 1) := by decide +kernel
theorem dX10_first_13 : decode cX10_first 13 = .ok (.invokevirtual 180, 3) := by decide +kernel
theorem dX10_first_16 : decode cX10_first 16 = .ok (.iload_n 1, 1) := by decide +kernel
theorem dX10_first_17 : decode cX10_first 17 = .ok (.ifCond .ne 13, 3) := by decide +kernel
theorem dX10_first_20 : decode cX10_first 20 = .ok (.aload_n 0, 1) := by decide +kernel
theorem dX10_first_21 : decode cX10_first 21 = .ok (.getfield 45, 3) := by decide +kernel
theorem dX10_first_24 : decode cX10_first 24 = .ok (.getfield 195, 3) := by decide +kernel
theorem dX10_first_27 : decode cX10_first 27 = .ok (.goto 10, 3) := by decide +kernel
theorem dX10_first_30 : decode cX10_first 30 = .ok (.aload_n 0, 1) := by decide +kernel
theorem dX10_first_31 : decode cX10_first 31 = .ok (.getfield 45, 3) := by decide +kernel
theorem dX10_first_34 : decode cX10_first 34 = .ok (.getfield 198, 3) := by decide +kernel
theorem dX10_first_37 : decode cX10_first 37 = .ok (.ireturn, 1) := by decide +kernel
theorem dX10_plan_0 : decode cX10_plan 0 = .ok (.iload_n 1, 1) := by decide +kernel
theorem dX10_plan_1 : decode cX10_plan 1 = .ok (.iconst 1, 1) := by decide +kernel
theorem dX10_plan_2 : decode cX10_plan 2 = .ok (.iconst 4, 1) := by decide +kernel
theorem dX10_plan_3 : decode cX10_plan 3 = .ok (.invokestatic 90, 3) := by decide +kernel
theorem dX10_plan_6 : decode cX10_plan 6 = .ok (.ifCond .eq 12, 3) := by decide +kernel
theorem dX10_plan_9 : decode cX10_plan 9 = .ok (.iload_n 2, 1) := by decide +kernel
theorem dX10_plan_10 : decode cX10_plan 10 = .ok (.iconst 0, 1) := by decide +kernel
theorem dX10_plan_11 : decode cX10_plan 11 = .ok (.iconst 2, 1) := by decide +kernel
theorem dX10_plan_12 : decode cX10_plan 12 = .ok (.invokestatic 90, 3) := by decide +kernel
theorem dX10_plan_15 : decode cX10_plan 15 = .ok (.ifCond .ne 6, 3) := by decide +kernel
theorem dX10_plan_18 : decode cX10_plan 18 = .ok (.bipush (-2), 2) := by decide +kernel
theorem dX10_plan_20 : decode cX10_plan 20 = .ok (.ireturn, 1) := by decide +kernel
theorem dX10_plan_21 : decode cX10_plan 21 = .ok (.aload_n 0, 1) := by decide +kernel
theorem dX10_plan_22 : decode cX10_plan 22 = .ok (.getfield 61, 3) := by decide +kernel
theorem dX10_plan_25 : decode cX10_plan 25 = .ok (.iload_n 1, 1) := by decide +kernel
theorem dX10_plan_26 : decode cX10_plan 26 = .ok (.invokevirtual 201, 3) := by decide +kernel
theorem dX10_plan_29 : decode cX10_plan 29 = .ok (.iload_n 2, 1) := by decide +kernel
theorem dX10_plan_30 : decode cX10_plan 30 = .ok (.ifCond .ne 13, 3) := by decide +kernel
theorem dX10_plan_33 : decode cX10_plan 33 = .ok (.aload_n 0, 1) := by decide +kernel
theorem dX10_plan_34 : decode cX10_plan 34 = .ok (.getfield 61, 3) := by decide +kernel
theorem dX10_plan_37 : decode cX10_plan 37 = .ok (.getfield 205, 3) := by decide +kernel
theorem dX10_plan_40 : decode cX10_plan 40 = .ok (.goto 25, 3) := by decide +kernel
theorem dX10_plan_43 : decode cX10_plan 43 = .ok (.iload_n 2, 1) := by decide +kernel
theorem dX10_plan_44 : decode cX10_plan 44 = .ok (.iconst 1, 1) := by decide +kernel
theorem dX10_plan_45 : decode cX10_plan 45 = .ok (.if_icmp .ne 13, 3) := by decide +kernel
theorem dX10_plan_48 : decode cX10_plan 48 = .ok (.aload_n 0, 1) := by decide +kernel
theorem dX10_plan_49 : decode cX10_plan 49 = .ok (.getfield 61, 3) := by decide +kernel
theorem dX10_plan_52 : decode cX10_plan 52 = .ok (.getfield 208, 3) := by decide +kernel
theorem dX10_plan_55 : decode cX10_plan 55 = .ok (.goto 10, 3) := by decide +kernel
theorem dX10_plan_58 : decode cX10_plan 58 = .ok (.aload_n 0, 1) := by decide +kernel
theorem dX10_plan_59 : decode cX10_plan 59 = .ok (.getfield 61, 3) := by decide +kernel
theorem dX10_plan_62 : decode cX10_plan 62 = .ok (.getfield 211, 3) := by decide +kernel
theorem dX10_plan_65 : decode cX10_plan 65 = .ok (.ireturn, 1) := by decide +kernel
theorem dX10_light_0 : decode cX10_light 0 = .ok (.aload_n 0, 1) := by decide +kernel
theorem dX10_light_1 : decode cX10_light 1 = .ok (.iload_n 1, 1) := by decide +kernel
theorem dX10_light_2 : decode cX10_light 2 = .ok (.invokevirtual 113, 3) := by decide +kernel
theorem dX10_light_5 : decode cX10_light 5 = .ok (.ifCond .eq 22, 3) := by decide +kernel
theorem dX10_light_8 : decode cX10_light 8 = .ok (.iload_n 2, 1) := by decide +kernel
theorem dX10_light_9 : decode cX10_light 9 = .ok (.iconst 0, 1) := by decide +kernel
theorem dX10_light_10 : decode cX10_light 10 = .ok (.bipush 99, 2) := by decide +kernel
theorem dX10_light_12 : decode cX10_light 12 = .ok (.invokestatic 90, 3) := by decide +kernel
theorem dX10_light_15 : decode cX10_light 15 = .ok (.ifCond .eq 12, 3) := by decide +kernel
theorem dX10_light_18 : decode cX10_light 18 = .ok (.iload_n 3, 1) := by decide +kernel
theorem dX10_light_19 : decode cX10_light 19 = .ok (.iconst (-1), 1) := by decide +kernel
theorem dX10_light_20 : decode cX10_light 20 = .ok (.iconst 1, 1) := by decide +kernel
theorem dX10_light_21 : decode cX10_light 21 = .ok (.invokestatic 90, 3) := by decide +kernel
theorem dX10_light_24 : decode cX10_light 24 = .ok (.ifCond .ne 6, 3) := by decide +kernel
theorem dX10_light_27 : decode cX10_light 27 = .ok (.bipush (-2), 2) := by decide +kernel
theorem dX10_light_29 : decode cX10_light 29 = .ok (.ireturn, 1) := by decide +kernel
theorem dX10_light_30 : decode cX10_light 30 = .ok (.aload_n 0, 1) := by decide +kernel
theorem dX10_light_31 : decode cX10_light 31 = .ok (.getfield 61, 3) := by decide +kernel
theorem dX10_light_34 : decode cX10_light 34 = .ok (.iload_n 1, 1) := by decide +kernel
theorem dX10_light_35 : decode cX10_light 35 = .ok (.iload_n 2, 1) := by decide +kernel
theorem dX10_light_36 : decode cX10_light 36 = .ok (.iload_n 3, 1) := by decide +kernel
theorem dX10_light_37 : decode cX10_light 37 = .ok (.invokevirtual 214, 3) := by decide +kernel
theorem dX10_light_40 : decode cX10_light 40 = .ok (.ireturn, 1) := by decide +kernel
theorem dX10_spare_0 : decode cX10_spare 0 = .ok (.iload_n 1, 1) := by decide +kernel
theorem dX10_spare_1 : decode cX10_spare 1 = .ok (.iconst (-1), 1) := by decide +kernel
theorem dX10_spare_2 : decode cX10_spare 2 = .ok (.iconst 1, 1) := by decide +kernel
theorem dX10_spare_3 : decode cX10_spare 3 = .ok (.invokestatic 90, 3) := by decide +kernel
theorem dX10_spare_6 : decode cX10_spare 6 = .ok (.ifCond .eq 14, 3) := by decide +kernel
theorem dX10_spare_9 : decode cX10_spare 9 = .ok (.aload_n 0, 1) := by decide +kernel
theorem dX10_spare_10 : decode cX10_spare 10 = .ok (.getfield 61, 3) := by decide +kernel
theorem dX10_spare_13 : decode cX10_spare 13 = .ok (.iload_n 1, 1) := by decide +kernel
theorem dX10_spare_14 : decode cX10_spare 14 = .ok (.invokevirtual 217, 3) := by decide +kernel
theorem dX10_spare_17 : decode cX10_spare 17 = .ok (.goto 5, 3) := by decide +kernel
theorem dX10_spare_20 : decode cX10_spare 20 = .ok (.bipush (-2), 2) := by decide +kernel
theorem dX10_spare_22 : decode cX10_spare 22 = .ok (.ireturn, 1) := by decide +kernel
theorem dX10_home_0 : decode cX10_home 0 = .ok (.aload_n 0, 1) := by decide +kernel
theorem dX10_home_1 : decode cX10_home 1 = .ok (.iload_n 1, 1) := by decide +kernel
theorem dX10_home_2 : decode cX10_home 2 = .ok (.invokevirtual 113, 3) := by decide +kernel
theorem dX10_home_5 : decode cX10_home 5 = .ok (.ifCond .eq 12, 3) := by decide +kernel
theorem dX10_home_8 : decode cX10_home 8 = .ok (.iload_n 2, 1) := by decide +kernel
theorem dX10_home_9 : decode cX10_home 9 = .ok (.iconst 0, 1) := by decide +kernel
theorem dX10_home_10 : decode cX10_home 10 = .ok (.iconst 1, 1) := by decide +kernel
theorem dX10_home_11 : decode cX10_home 11 = .ok (.invokestatic 90, 3) := by decide +kernel
theorem dX10_home_14 : decode cX10_home 14 = .ok (.ifCond .ne 6, 3) := by decide +kernel
theorem dX10_home_17 : decode cX10_home 17 = .ok (.bipush (-2), 2) := by decide +kernel
theorem dX10_home_19 : decode cX10_home 19 = .ok (.ireturn, 1) := by decide +kernel
theorem dX10_home_20 : decode cX10_home 20 = .ok (.aload_n 0, 1) := by decide +kernel
theorem dX10_home_21 : decode cX10_home 21 = .ok (.getfield 61, 3) := by decide +kernel
theorem dX10_home_24 : decode cX10_home 24 = .ok (.iload_n 1, 1) := by decide +kernel
theorem dX10_home_25 : decode cX10_home 25 = .ok (.invokevirtual 220, 3) := by decide +kernel
theorem dX10_home_28 : decode cX10_home 28 = .ok (.iload_n 2, 1) := by decide +kernel
theorem dX10_home_29 : decode cX10_home 29 = .ok (.ifCond .ne 13, 3) := by decide +kernel
theorem dX10_home_32 : decode cX10_home 32 = .ok (.aload_n 0, 1) := by decide +kernel
theorem dX10_home_33 : decode cX10_home 33 = .ok (.getfield 61, 3) := by decide +kernel
theorem dX10_home_36 : decode cX10_home 36 = .ok (.getfield 223, 3) := by decide +kernel
theorem dX10_home_39 : decode cX10_home 39 = .ok (.goto 10, 3) := by decide +kernel
theorem dX10_home_42 : decode cX10_home 42 = .ok (.aload_n 0, 1) := by decide +kernel
theorem dX10_home_43 : decode cX10_home 43 = .ok (.getfield 61, 3) := by decide +kernel
theorem dX10_home_46 : decode cX10_home 46 = .ok (.getfield 226, 3) := by decide +kernel
theorem dX10_home_49 : decode cX10_home 49 = .ok (.ireturn, 1) := by decide +kernel
theorem dX10_seen_0 : decode cX10_seen 0 = .ok (.iload_n 1, 1) := by decide +kernel
theorem dX10_seen_1 : decode cX10_seen 1 = .ok (.invokestatic 142, 3) := by decide +kernel
theorem dX10_seen_4 : decode cX10_seen 4 = .ok (.ifCond .eq 23, 3) := by decide +kernel
theorem dX10_seen_7 : decode cX10_seen 7 = .ok (.iload_n 2, 1) := by decide +kernel
theorem dX10_seen_8 : decode cX10_seen 8 = .ok (.iconst 0, 1) := by decide +kernel
theorem dX10_seen_9 : decode cX10_seen 9 = .ok (.bipush 7, 2) := by decide +kernel
theorem dX10_seen_11 : decode cX10_seen 11 = .ok (.invokestatic 90, 3) := by decide +kernel
theorem dX10_seen_14 : decode cX10_seen 14 = .ok (.ifCond .eq 13, 3) := by decide +kernel
theorem dX10_seen_17 : decode cX10_seen 17 = .ok (.iload_n 3, 1) := by decide +kernel
theorem dX10_seen_18 : decode cX10_seen 18 = .ok (.iconst 0, 1) := by decide +kernel
theorem dX10_seen_19 : decode cX10_seen 19 = .ok (.bipush 99, 2) := by decide +kernel
theorem dX10_seen_21 : decode cX10_seen 21 = .ok (.invokestatic 90, 3) := by decide +kernel
theorem dX10_seen_24 : decode cX10_seen 24 = .ok (.ifCond .ne 6, 3) := by decide +kernel
theorem dX10_seen_27 : decode cX10_seen 27 = .ok (.bipush (-2), 2) := by decide +kernel
theorem dX10_seen_29 : decode cX10_seen 29 = .ok (.ireturn, 1) := by decide +kernel
theorem dX10_seen_30 : decode cX10_seen 30 = .ok (.aload_n 0, 1) := by decide +kernel
theorem dX10_seen_31 : decode cX10_seen 31 = .ok (.getfield 68, 3) := by decide +kernel
theorem dX10_seen_34 : decode cX10_seen 34 = .ok (.getfield 229, 3) := by decide +kernel
theorem dX10_seen_37 : decode cX10_seen 37 = .ok (.getfield 151, 3) := by decide +kernel
theorem dX10_seen_40 : decode cX10_seen 40 = .ok (.bipush 8, 2) := by decide +kernel
theorem dX10_seen_42 : decode cX10_seen 42 = .ok (.if_icmp .lt 6, 3) := by decide +kernel
theorem dX10_seen_45 : decode cX10_seen 45 = .ok (.bipush (-4), 2) := by decide +kernel
theorem dX10_seen_47 : decode cX10_seen 47 = .ok (.ireturn, 1) := by decide +kernel
theorem dX10_seen_48 : decode cX10_seen 48 = .ok (.aload_n 0, 1) := by decide +kernel
theorem dX10_seen_49 : decode cX10_seen 49 = .ok (.getfield 68, 3) := by decide +kernel
theorem dX10_seen_52 : decode cX10_seen 52 = .ok (.invokevirtual 232, 3) := by decide +kernel
theorem dX10_seen_55 : decode cX10_seen 55 = .ok (.aload_n 0, 1) := by decide +kernel
theorem dX10_seen_56 : decode cX10_seen 56 = .ok (.getfield 68, 3) := by decide +kernel
theorem dX10_seen_59 : decode cX10_seen 59 = .ok (.getfield 229, 3) := by decide +kernel
theorem dX10_seen_62 : decode cX10_seen 62 = .ok (.iload_n 1, 1) := by decide +kernel
theorem dX10_seen_63 : decode cX10_seen 63 = .ok (.iload_n 2, 1) := by decide +kernel
theorem dX10_seen_64 : decode cX10_seen 64 = .ok (.iload_n 3, 1) := by decide +kernel
theorem dX10_seen_65 : decode cX10_seen 65 = .ok (.invokevirtual 154, 3) := by decide +kernel
theorem dX10_seen_68 : decode cX10_seen 68 = .ok (.ireturn, 1) := by decide +kernel
theorem dX10_forget_0 : decode cX10_forget 0 = .ok (.aload_n 0, 1) := by decide +kernel
theorem dX10_forget_1 : decode cX10_forget 1 = .ok (.getfield 68, 3) := by decide +kernel
theorem dX10_forget_4 : decode cX10_forget 4 = .ok (.getfield 229, 3) := by decide +kernel
theorem dX10_forget_7 : decode cX10_forget 7 = .ok (.getfield 151, 3) := by decide +kernel
theorem dX10_forget_10 : decode cX10_forget 10 = .ok (.istore_n 1, 1) := by decide +kernel
theorem dX10_forget_11 : decode cX10_forget 11 = .ok (.aload_n 0, 1) := by decide +kernel
theorem dX10_forget_12 : decode cX10_forget 12 = .ok (.getfield 68, 3) := by decide +kernel
theorem dX10_forget_15 : decode cX10_forget 15 = .ok (.getfield 229, 3) := by decide +kernel
theorem dX10_forget_18 : decode cX10_forget 18 = .ok (.iconst 0, 1) := by decide +kernel
theorem dX10_forget_19 : decode cX10_forget 19 = .ok (.putfield 151, 3) := by decide +kernel
theorem dX10_forget_22 : decode cX10_forget 22 = .ok (.aload_n 0, 1) := by decide +kernel
theorem dX10_forget_23 : decode cX10_forget 23 = .ok (.getfield 68, 3) := by decide +kernel
theorem dX10_forget_26 : decode cX10_forget 26 = .ok (.invokevirtual 232, 3) := by decide +kernel
theorem dX10_forget_29 : decode cX10_forget 29 = .ok (.iload_n 1, 1) := by decide +kernel
theorem dX10_forget_30 : decode cX10_forget 30 = .ok (.ireturn, 1) := by decide +kernel
theorem dX10_never_0 : decode cX10_never 0 = .ok (.aload_n 0, 1) := by decide +kernel
theorem dX10_never_1 : decode cX10_never 1 = .ok (.getfield 68, 3) := by decide +kernel
theorem dX10_never_4 : decode cX10_never 4 = .ok (.invokevirtual 233, 3) := by decide +kernel
theorem dX10_never_7 : decode cX10_never 7 = .ok (.aload_n 0, 1) := by decide +kernel
theorem dX10_never_8 : decode cX10_never 8 = .ok (.getfield 68, 3) := by decide +kernel
theorem dX10_never_11 : decode cX10_never 11 = .ok (.getfield 236, 3) := by decide +kernel
theorem dX10_never_14 : decode cX10_never 14 = .ok (.ireturn, 1) := by decide +kernel
theorem dX10_was_0 : decode cX10_was 0 = .ok (.aload_n 0, 1) := by decide +kernel
theorem dX10_was_1 : decode cX10_was 1 = .ok (.iload_n 1, 1) := by decide +kernel
theorem dX10_was_2 : decode cX10_was 2 = .ok (.invokevirtual 127, 3) := by decide +kernel
theorem dX10_was_5 : decode cX10_was 5 = .ok (.ifCond .eq 12, 3) := by decide +kernel
theorem dX10_was_8 : decode cX10_was 8 = .ok (.iload_n 2, 1) := by decide +kernel
theorem dX10_was_9 : decode cX10_was 9 = .ok (.iconst 0, 1) := by decide +kernel
theorem dX10_was_10 : decode cX10_was 10 = .ok (.iconst 1, 1) := by decide +kernel
theorem dX10_was_11 : decode cX10_was 11 = .ok (.invokestatic 90, 3) := by decide +kernel
theorem dX10_was_14 : decode cX10_was 14 = .ok (.ifCond .ne 6, 3) := by decide +kernel
theorem dX10_was_17 : decode cX10_was 17 = .ok (.bipush (-2), 2) := by decide +kernel
theorem dX10_was_19 : decode cX10_was 19 = .ok (.ireturn, 1) := by decide +kernel
theorem dX10_was_20 : decode cX10_was 20 = .ok (.iload_n 2, 1) := by decide +kernel
theorem dX10_was_21 : decode cX10_was 21 = .ok (.ifCond .ne 16, 3) := by decide +kernel
theorem dX10_was_24 : decode cX10_was 24 = .ok (.aload_n 0, 1) := by decide +kernel
theorem dX10_was_25 : decode cX10_was 25 = .ok (.getfield 68, 3) := by decide +kernel
theorem dX10_was_28 : decode cX10_was 28 = .ok (.iload_n 1, 1) := by decide +kernel
theorem dX10_was_29 : decode cX10_was 29 = .ok (.iconst 2, 1) := by decide +kernel
theorem dX10_was_30 : decode cX10_was 30 = .ok (.iconst 4, 1) := by decide +kernel
theorem dX10_was_31 : decode cX10_was 31 = .ok (.invokevirtual 239, 3) := by decide +kernel
theorem dX10_was_34 : decode cX10_was 34 = .ok (.goto 22, 3) := by decide +kernel
theorem dX10_was_37 : decode cX10_was 37 = .ok (.aload_n 0, 1) := by decide +kernel
theorem dX10_was_38 : decode cX10_was 38 = .ok (.getfield 68, 3) := by decide +kernel
theorem dX10_was_41 : decode cX10_was 41 = .ok (.iload_n 1, 1) := by decide +kernel
theorem dX10_was_42 : decode cX10_was 42 = .ok (.iconst 1, 1) := by decide +kernel
theorem dX10_was_43 : decode cX10_was 43 = .ok (.aload_n 0, 1) := by decide +kernel
theorem dX10_was_44 : decode cX10_was 44 = .ok (.getfield 36, 3) := by decide +kernel
theorem dX10_was_47 : decode cX10_was 47 = .ok (.getfield 117, 3) := by decide +kernel
theorem dX10_was_50 : decode cX10_was 50 = .ok (.getfield 151, 3) := by decide +kernel
theorem dX10_was_53 : decode cX10_was 53 = .ok (.invokevirtual 239, 3) := by decide +kernel
theorem dX10_was_56 : decode cX10_was 56 = .ok (.ireturn, 1) := by decide +kernel
theorem dX10_ask_0 : decode cX10_ask 0 = .ok (.aload_n 0, 1) := by decide +kernel
theorem dX10_ask_1 : decode cX10_ask 1 = .ok (.iload_n 1, 1) := by decide +kernel
theorem dX10_ask_2 : decode cX10_ask 2 = .ok (.invokevirtual 113, 3) := by decide +kernel
theorem dX10_ask_5 : decode cX10_ask 5 = .ok (.ifCond .ne 6, 3) := by decide +kernel
theorem dX10_ask_8 : decode cX10_ask 8 = .ok (.bipush (-2), 2) := by decide +kernel
theorem dX10_ask_10 : decode cX10_ask 10 = .ok (.ireturn, 1) := by decide +kernel
theorem dX10_ask_11 : decode cX10_ask 11 = .ok (.aload_n 0, 1) := by decide +kernel
theorem dX10_ask_12 : decode cX10_ask 12 = .ok (.getfield 68, 3) := by decide +kernel
theorem dX10_ask_15 : decode cX10_ask 15 = .ok (.invokevirtual 233, 3) := by decide +kernel
theorem dX10_ask_18 : decode cX10_ask 18 = .ok (.aload_n 0, 1) := by decide +kernel
theorem dX10_ask_19 : decode cX10_ask 19 = .ok (.getfield 68, 3) := by decide +kernel
theorem dX10_ask_22 : decode cX10_ask 22 = .ok (.iload_n 1, 1) := by decide +kernel
theorem dX10_ask_23 : decode cX10_ask 23 = .ok (.invokevirtual 242, 3) := by decide +kernel
theorem dX10_ask_26 : decode cX10_ask 26 = .ok (.ireturn, 1) := by decide +kernel
theorem dX10_virtue_0 : decode cX10_virtue 0 = .ok (.iload_n 1, 1) := by decide +kernel
theorem dX10_virtue_1 : decode cX10_virtue 1 = .ok (.iconst 0, 1) := by decide +kernel
theorem dX10_virtue_2 : decode cX10_virtue 2 = .ok (.bipush 16, 2) := by decide +kernel
theorem dX10_virtue_4 : decode cX10_virtue 4 = .ok (.invokestatic 90, 3) := by decide +kernel
theorem dX10_virtue_7 : decode cX10_virtue 7 = .ok (.ifCond .eq 31, 3) := by decide +kernel
theorem dX10_virtue_10 : decode cX10_virtue 10 = .ok (.iload_n 2, 1) := by decide +kernel
theorem dX10_virtue_11 : decode cX10_virtue 11 = .ok (.iconst 0, 1) := by decide +kernel
theorem dX10_virtue_12 : decode cX10_virtue 12 = .ok (.bipush 9, 2) := by decide +kernel
theorem dX10_virtue_14 : decode cX10_virtue 14 = .ok (.invokestatic 90, 3) := by decide +kernel
theorem dX10_virtue_17 : decode cX10_virtue 17 = .ok (.ifCond .eq 21, 3) := by decide +kernel
theorem dX10_virtue_20 : decode cX10_virtue 20 = .ok (.aload_n 0, 1) := by decide +kernel
theorem dX10_virtue_21 : decode cX10_virtue 21 = .ok (.iload_n 3, 1) := by decide +kernel
theorem dX10_virtue_22 : decode cX10_virtue 22 = .ok (.invokevirtual 113, 3) := by decide +kernel
theorem dX10_virtue_25 : decode cX10_virtue 25 = .ok (.ifCond .eq 13, 3) := by decide +kernel
theorem dX10_virtue_28 : decode cX10_virtue 28 = .ok (.iload 4, 2) := by decide +kernel
theorem dX10_virtue_30 : decode cX10_virtue 30 = .ok (.iconst 0, 1) := by decide +kernel
theorem dX10_virtue_31 : decode cX10_virtue 31 = .ok (.iconst 1, 1) := by decide +kernel
theorem dX10_virtue_32 : decode cX10_virtue 32 = .ok (.invokestatic 90, 3) := by decide +kernel
theorem dX10_virtue_35 : decode cX10_virtue 35 = .ok (.ifCond .ne 7, 3) := by decide +kernel
theorem dX10_virtue_38 : decode cX10_virtue 38 = .ok (.ldc2_w 247, 3) := by decide +kernel
theorem dX10_virtue_41 : decode cX10_virtue 41 = .ok (.lreturn, 1) := by decide +kernel
theorem dX10_virtue_42 : decode cX10_virtue 42 = .ok (.aload_n 0, 1) := by decide +kernel
theorem dX10_virtue_43 : decode cX10_virtue 43 = .ok (.getfield 75, 3) := by decide +kernel
theorem dX10_virtue_46 : decode cX10_virtue 46 = .ok (.iload_n 1, 1) := by decide +kernel
theorem dX10_virtue_47 : decode cX10_virtue 47 = .ok (.iload_n 2, 1) := by decide +kernel
theorem dX10_virtue_48 : decode cX10_virtue 48 = .ok (.invokevirtual 249, 3) := by decide +kernel
theorem dX10_virtue_51 : decode cX10_virtue 51 = .ok (.iload 4, 2) := by decide +kernel
theorem dX10_virtue_53 : decode cX10_virtue 53 = .ok (.ifCond .ne 14, 3) := by decide +kernel
theorem dX10_virtue_56 : decode cX10_virtue 56 = .ok (.aload_n 0, 1) := by decide +kernel
theorem dX10_virtue_57 : decode cX10_virtue 57 = .ok (.getfield 75, 3) := by decide +kernel
theorem dX10_virtue_60 : decode cX10_virtue 60 = .ok (.iload_n 3, 1) := by decide +kernel
theorem dX10_virtue_61 : decode cX10_virtue 61 = .ok (.invokevirtual 253, 3) := by decide +kernel
theorem dX10_virtue_64 : decode cX10_virtue 64 = .ok (.goto 11, 3) := by decide +kernel
theorem dX10_virtue_67 : decode cX10_virtue 67 = .ok (.aload_n 0, 1) := by decide +kernel
theorem dX10_virtue_68 : decode cX10_virtue 68 = .ok (.getfield 75, 3) := by decide +kernel
theorem dX10_virtue_71 : decode cX10_virtue 71 = .ok (.iload_n 3, 1) := by decide +kernel
theorem dX10_virtue_72 : decode cX10_virtue 72 = .ok (.invokevirtual 257, 3) := by decide +kernel
theorem dX10_virtue_75 : decode cX10_virtue 75 = .ok (.lreturn, 1) := by decide +kernel
