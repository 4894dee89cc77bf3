theorem dL_cell_0 : decode cL_cell 0 = .ok (.iload_n 1, 1) := by decide +kernel
theorem dL_cell_1 : decode cL_cell 1 = .ok (.aload_n 0, 1) := by decide +kernel
theorem dL_cell_2 : decode cL_cell 2 = .ok (.arraylength, 1) := by decide +kernel
theorem dL_cell_3 : decode cL_cell 3 = .ok (.if_icmp .ge 9, 3) := by decide +kernel
theorem dL_cell_6 : decode cL_cell 6 = .ok (.aload_n 0, 1) := by decide +kernel
theorem dL_cell_7 : decode cL_cell 7 = .ok (.iload_n 1, 1) := by decide +kernel
theorem dL_cell_8 : decode cL_cell 8 = .ok (.iaload, 1) := by decide +kernel
theorem dL_cell_9 : decode cL_cell 9 = .ok (.goto 9, 3) := by decide +kernel
theorem dL_cell_12 : decode cL_cell 12 = .ok (.ldc 7, 2) := by decide +kernel
theorem dL_cell_14 : decode cL_cell 14 = .ok (.iload_n 1, 1) := by decide +kernel
theorem dL_cell_15 : decode cL_cell 15 = .ok (.iconst 3, 1) := by decide +kernel
theorem dL_cell_16 : decode cL_cell 16 = .ok (.iadd, 1) := by decide +kernel
theorem dL_cell_17 : decode cL_cell 17 = .ok (.imul, 1) := by decide +kernel
theorem dL_cell_18 : decode cL_cell 18 = .ok (.ireturn, 1) := by decide +kernel
theorem dL_low_0 : decode cL_low 0 = .ok (.iload_n 0, 1) := by decide +kernel
theorem dL_low_1 : decode cL_low 1 = .ok (.ldc 8, 2) := by decide +kernel
theorem dL_low_3 : decode cL_low 3 = .ok (.iand, 1) := by decide +kernel
theorem dL_low_4 : decode cL_low 4 = .ok (.iload_n 1, 1) := by decide +kernel
theorem dL_low_5 : decode cL_low 5 = .ok (.irem, 1) := by decide +kernel
theorem dL_low_6 : decode cL_low 6 = .ok (.ireturn, 1) := by decide +kernel
theorem dL_fixed_0 : decode cL_fixed 0 = .ok (.iload_n 2, 1) := by decide +kernel
theorem dL_fixed_1 : decode cL_fixed 1 = .ok (.istore_n 3, 1) := by decide +kernel
theorem dL_fixed_2 : decode cL_fixed 2 = .ok (.iload_n 3, 1) := by decide +kernel
theorem dL_fixed_3 : decode cL_fixed 3 = .ok (.aload_n 0, 1) := by decide +kernel
theorem dL_fixed_4 : decode cL_fixed 4 = .ok (.iconst 0, 1) := by decide +kernel
theorem dL_fixed_5 : decode cL_fixed 5 = .ok (.iaload, 1) := by decide +kernel
theorem dL_fixed_6 : decode cL_fixed 6 = .ok (.if_icmp .ge 29, 3) := by decide +kernel
theorem dL_fixed_9 : decode cL_fixed 9 = .ok (.aload_n 1, 1) := by decide +kernel
theorem dL_fixed_10 : decode cL_fixed 10 = .ok (.iconst 5, 1) := by decide +kernel
theorem dL_fixed_11 : decode cL_fixed 11 = .ok (.iload_n 3, 1) := by decide +kernel
theorem dL_fixed_12 : decode cL_fixed 12 = .ok (.imul, 1) := by decide +kernel
theorem dL_fixed_13 : decode cL_fixed 13 = .ok (.iconst 3, 1) := by decide +kernel
theorem dL_fixed_14 : decode cL_fixed 14 = .ok (.iadd, 1) := by decide +kernel
theorem dL_fixed_15 : decode cL_fixed 15 = .ok (.iaload, 1) := by decide +kernel
theorem dL_fixed_16 : decode cL_fixed 16 = .ok (.ifCond .ne 13, 3) := by decide +kernel
theorem dL_fixed_19 : decode cL_fixed 19 = .ok (.aload_n 1, 1) := by decide +kernel
theorem dL_fixed_20 : decode cL_fixed 20 = .ok (.iconst 5, 1) := by decide +kernel
theorem dL_fixed_21 : decode cL_fixed 21 = .ok (.iload_n 3, 1) := by decide +kernel
theorem dL_fixed_22 : decode cL_fixed 22 = .ok (.imul, 1) := by decide +kernel
theorem dL_fixed_23 : decode cL_fixed 23 = .ok (.iconst 1, 1) := by decide +kernel
theorem dL_fixed_24 : decode cL_fixed 24 = .ok (.iadd, 1) := by decide +kernel
theorem dL_fixed_25 : decode cL_fixed 25 = .ok (.iaload, 1) := by decide +kernel
theorem dL_fixed_26 : decode cL_fixed 26 = .ok (.ifCond .ge 9, 3) := by decide +kernel
theorem dL_fixed_29 : decode cL_fixed 29 = .ok (.iinc 3 1, 3) := by decide +kernel
theorem dL_fixed_32 : decode cL_fixed 32 = .ok (.goto (-30), 3) := by decide +kernel
theorem dL_fixed_35 : decode cL_fixed 35 = .ok (.iload_n 3, 1) := by decide +kernel
theorem dL_fixed_36 : decode cL_fixed 36 = .ok (.ireturn, 1) := by decide +kernel
theorem dL_timeAt_0 : decode cL_timeAt 0 = .ok (.iload_n 2, 1) := by decide +kernel
theorem dL_timeAt_1 : decode cL_timeAt 1 = .ok (.aload_n 0, 1) := by decide +kernel
theorem dL_timeAt_2 : decode cL_timeAt 2 = .ok (.iconst 0, 1) := by decide +kernel
theorem dL_timeAt_3 : decode cL_timeAt 3 = .ok (.iaload, 1) := by decide +kernel
theorem dL_timeAt_4 : decode cL_timeAt 4 = .ok (.if_icmp .ge 13, 3) := by decide +kernel
theorem dL_timeAt_7 : decode cL_timeAt 7 = .ok (.aload_n 1, 1) := by decide +kernel
theorem dL_timeAt_8 : decode cL_timeAt 8 = .ok (.iconst 5, 1) := by decide +kernel
theorem dL_timeAt_9 : decode cL_timeAt 9 = .ok (.iload_n 2, 1) := by decide +kernel
theorem dL_timeAt_10 : decode cL_timeAt 10 = .ok (.imul, 1) := by decide +kernel
theorem dL_timeAt_11 : decode cL_timeAt 11 = .ok (.iconst 1, 1) := by decide +kernel
theorem dL_timeAt_12 : decode cL_timeAt 12 = .ok (.iadd, 1) := by decide +kernel
theorem dL_timeAt_13 : decode cL_timeAt 13 = .ok (.iaload, 1) := by decide +kernel
theorem dL_timeAt_14 : decode cL_timeAt 14 = .ok (.goto 6, 3) := by decide +kernel
theorem dL_timeAt_17 : decode cL_timeAt 17 = .ok (.sipush 3600, 3) := by decide +kernel
theorem dL_timeAt_20 : decode cL_timeAt 20 = .ok (.ireturn, 1) := by decide +kernel
theorem dL_sum_0 : decode cL_sum 0 = .ok (.iconst 0, 1) := by decide +kernel
theorem dL_sum_1 : decode cL_sum 1 = .ok (.istore_n 3, 1) := by decide +kernel
theorem dL_sum_2 : decode cL_sum 2 = .ok (.iload_n 1, 1) := by decide +kernel
theorem dL_sum_3 : decode cL_sum 3 = .ok (.istore 4, 2) := by decide +kernel
theorem dL_sum_5 : decode cL_sum 5 = .ok (.iload 4, 2) := by decide +kernel
theorem dL_sum_7 : decode cL_sum 7 = .ok (.iload_n 2, 1) := by decide +kernel
theorem dL_sum_8 : decode cL_sum 8 = .ok (.if_icmp .ge 33, 3) := by decide +kernel
theorem dL_sum_11 : decode cL_sum 11 = .ok (.iload_n 3, 1) := by decide +kernel
theorem dL_sum_12 : decode cL_sum 12 = .ok (.aload_n 0, 1) := by decide +kernel
theorem dL_sum_13 : decode cL_sum 13 = .ok (.iconst 5, 1) := by decide +kernel
theorem dL_sum_14 : decode cL_sum 14 = .ok (.iload 4, 2) := by decide +kernel
theorem dL_sum_16 : decode cL_sum 16 = .ok (.imul, 1) := by decide +kernel
theorem dL_sum_17 : decode cL_sum 17 = .ok (.iconst 3, 1) := by decide +kernel
theorem dL_sum_18 : decode cL_sum 18 = .ok (.iadd, 1) := by decide +kernel
theorem dL_sum_19 : decode cL_sum 19 = .ok (.iaload, 1) := by decide +kernel
theorem dL_sum_20 : decode cL_sum 20 = .ok (.ifCond .ne 12, 3) := by decide +kernel
theorem dL_sum_23 : decode cL_sum 23 = .ok (.aload_n 0, 1) := by decide +kernel
theorem dL_sum_24 : decode cL_sum 24 = .ok (.iconst 5, 1) := by decide +kernel
theorem dL_sum_25 : decode cL_sum 25 = .ok (.iload 4, 2) := by decide +kernel
theorem dL_sum_27 : decode cL_sum 27 = .ok (.imul, 1) := by decide +kernel
theorem dL_sum_28 : decode cL_sum 28 = .ok (.iaload, 1) := by decide +kernel
theorem dL_sum_29 : decode cL_sum 29 = .ok (.goto 4, 3) := by decide +kernel
theorem dL_sum_32 : decode cL_sum 32 = .ok (.iconst 0, 1) := by decide +kernel
theorem dL_sum_33 : decode cL_sum 33 = .ok (.iadd, 1) := by decide +kernel
theorem dL_sum_34 : decode cL_sum 34 = .ok (.istore_n 3, 1) := by decide +kernel
theorem dL_sum_35 : decode cL_sum 35 = .ok (.iinc 4 1, 3) := by decide +kernel
theorem dL_sum_38 : decode cL_sum 38 = .ok (.goto (-33), 3) := by decide +kernel
theorem dL_sum_41 : decode cL_sum 41 = .ok (.iload_n 3, 1) := by decide +kernel
theorem dL_sum_42 : decode cL_sum 42 = .ok (.ireturn, 1) := by decide +kernel
theorem dL_total_0 : decode cL_total 0 = .ok (.iconst 0, 1) := by decide +kernel
theorem dL_total_1 : decode cL_total 1 = .ok (.istore_n 3, 1) := by decide +kernel
theorem dL_total_2 : decode cL_total 2 = .ok (.iconst 0, 1) := by decide +kernel
theorem dL_total_3 : decode cL_total 3 = .ok (.istore 4, 2) := by decide +kernel
theorem dL_total_5 : decode cL_total 5 = .ok (.iload 4, 2) := by decide +kernel
theorem dL_total_7 : decode cL_total 7 = .ok (.aload_n 0, 1) := by decide +kernel
theorem dL_total_8 : decode cL_total 8 = .ok (.iconst 1, 1) := by decide +kernel
theorem dL_total_9 : decode cL_total 9 = .ok (.iaload, 1) := by decide +kernel
theorem dL_total_10 : decode cL_total 10 = .ok (.if_icmp .ge 47, 3) := by decide +kernel
theorem dL_total_13 : decode cL_total 13 = .ok (.iload_n 3, 1) := by decide +kernel
theorem dL_total_14 : decode cL_total 14 = .ok (.iload_n 2, 1) := by decide +kernel
theorem dL_total_15 : decode cL_total 15 = .ok (.iload 4, 2) := by decide +kernel
theorem dL_total_17 : decode cL_total 17 = .ok (.ishr, 1) := by decide +kernel
theorem dL_total_18 : decode cL_total 18 = .ok (.iconst 1, 1) := by decide +kernel
theorem dL_total_19 : decode cL_total 19 = .ok (.iand, 1) := by decide +kernel
theorem dL_total_20 : decode cL_total 20 = .ok (.ifCond .ne 7, 3) := by decide +kernel
theorem dL_total_23 : decode cL_total 23 = .ok (.iconst 0, 1) := by decide +kernel
theorem dL_total_24 : decode cL_total 24 = .ok (.goto 25, 3) := by decide +kernel
theorem dL_total_27 : decode cL_total 27 = .ok (.aload_n 1, 1) := by decide +kernel
theorem dL_total_28 : decode cL_total 28 = .ok (.iconst 3, 1) := by decide +kernel
theorem dL_total_29 : decode cL_total 29 = .ok (.iload 4, 2) := by decide +kernel
theorem dL_total_31 : decode cL_total 31 = .ok (.imul, 1) := by decide +kernel
theorem dL_total_32 : decode cL_total 32 = .ok (.iconst 1, 1) := by decide +kernel
theorem dL_total_33 : decode cL_total 33 = .ok (.iadd, 1) := by decide +kernel
theorem dL_total_34 : decode cL_total 34 = .ok (.iaload, 1) := by decide +kernel
theorem dL_total_35 : decode cL_total 35 = .ok (.ifCond .ne 12, 3) := by decide +kernel
theorem dL_total_38 : decode cL_total 38 = .ok (.aload_n 1, 1) := by decide +kernel
theorem dL_total_39 : decode cL_total 39 = .ok (.iconst 3, 1) := by decide +kernel
theorem dL_total_40 : decode cL_total 40 = .ok (.iload 4, 2) := by decide +kernel
theorem dL_total_42 : decode cL_total 42 = .ok (.imul, 1) := by decide +kernel
theorem dL_total_43 : decode cL_total 43 = .ok (.iaload, 1) := by decide +kernel
theorem dL_total_44 : decode cL_total 44 = .ok (.goto 5, 3) := by decide +kernel
theorem dL_total_47 : decode cL_total 47 = .ok (.ldc 9, 2) := by decide +kernel
theorem dL_total_49 : decode cL_total 49 = .ok (.iadd, 1) := by decide +kernel
theorem dL_total_50 : decode cL_total 50 = .ok (.istore_n 3, 1) := by decide +kernel
theorem dL_total_51 : decode cL_total 51 = .ok (.iinc 4 1, 3) := by decide +kernel
theorem dL_total_54 : decode cL_total 54 = .ok (.goto (-49), 3) := by decide +kernel
theorem dL_total_57 : decode cL_total 57 = .ok (.iload_n 3, 1) := by decide +kernel
theorem dL_total_58 : decode cL_total 58 = .ok (.ireturn, 1) := by decide +kernel
theorem dL_choice_0 : decode cL_choice 0 = .ok (.iconst 0, 1) := by decide +kernel
theorem dL_choice_1 : decode cL_choice 1 = .ok (.istore_n 3, 1) := by decide +kernel
theorem dL_choice_2 : decode cL_choice 2 = .ok (.iconst 0, 1) := by decide +kernel
theorem dL_choice_3 : decode cL_choice 3 = .ok (.istore 4, 2) := by decide +kernel
theorem dL_choice_5 : decode cL_choice 5 = .ok (.iconst 1, 1) := by decide +kernel
theorem dL_choice_6 : decode cL_choice 6 = .ok (.istore 5, 2) := by decide +kernel
theorem dL_choice_8 : decode cL_choice 8 = .ok (.iload 5, 2) := by decide +kernel
theorem dL_choice_10 : decode cL_choice 10 = .ok (.iconst 1, 1) := by decide +kernel
theorem dL_choice_11 : decode cL_choice 11 = .ok (.aload_n 0, 1) := by decide +kernel
theorem dL_choice_12 : decode cL_choice 12 = .ok (.iconst 1, 1) := by decide +kernel
theorem dL_choice_13 : decode cL_choice 13 = .ok (.iaload, 1) := by decide +kernel
theorem dL_choice_14 : decode cL_choice 14 = .ok (.ishl, 1) := by decide +kernel
theorem dL_choice_15 : decode cL_choice 15 = .ok (.if_icmp .ge 103, 3) := by decide +kernel
theorem dL_choice_18 : decode cL_choice 18 = .ok (.aload_n 0, 1) := by decide +kernel
theorem dL_choice_19 : decode cL_choice 19 = .ok (.aload_n 1, 1) := by decide +kernel
theorem dL_choice_20 : decode cL_choice 20 = .ok (.iload 5, 2) := by decide +kernel
theorem dL_choice_22 : decode cL_choice 22 = .ok (.invokestatic 10, 3) := by decide +kernel
theorem dL_choice_25 : decode cL_choice 25 = .ok (.istore 6, 2) := by decide +kernel
theorem dL_choice_27 : decode cL_choice 27 = .ok (.iconst 0, 1) := by decide +kernel
theorem dL_choice_28 : decode cL_choice 28 = .ok (.istore 7, 2) := by decide +kernel
theorem dL_choice_30 : decode cL_choice 30 = .ok (.iconst 0, 1) := by decide +kernel
theorem dL_choice_31 : decode cL_choice 31 = .ok (.istore 8, 2) := by decide +kernel
theorem dL_choice_33 : decode cL_choice 33 = .ok (.iload 8, 2) := by decide +kernel
theorem dL_choice_35 : decode cL_choice 35 = .ok (.aload_n 0, 1) := by decide +kernel
theorem dL_choice_36 : decode cL_choice 36 = .ok (.iconst 1, 1) := by decide +kernel
theorem dL_choice_37 : decode cL_choice 37 = .ok (.iaload, 1) := by decide +kernel
theorem dL_choice_38 : decode cL_choice 38 = .ok (.if_icmp .ge 21, 3) := by decide +kernel
theorem dL_choice_41 : decode cL_choice 41 = .ok (.iload 7, 2) := by decide +kernel
theorem dL_choice_43 : decode cL_choice 43 = .ok (.iload 5, 2) := by decide +kernel
theorem dL_choice_45 : decode cL_choice 45 = .ok (.iload 8, 2) := by decide +kernel
theorem dL_choice_47 : decode cL_choice 47 = .ok (.ishr, 1) := by decide +kernel
theorem dL_choice_48 : decode cL_choice 48 = .ok (.iconst 1, 1) := by decide +kernel
theorem dL_choice_49 : decode cL_choice 49 = .ok (.iand, 1) := by decide +kernel
theorem dL_choice_50 : decode cL_choice 50 = .ok (.iadd, 1) := by decide +kernel
theorem dL_choice_51 : decode cL_choice 51 = .ok (.istore 7, 2) := by decide +kernel
theorem dL_choice_53 : decode cL_choice 53 = .ok (.iinc 8 1, 3) := by decide +kernel
theorem dL_choice_56 : decode cL_choice 56 = .ok (.goto (-23), 3) := by decide +kernel
theorem dL_choice_59 : decode cL_choice 59 = .ok (.iload 6, 2) := by decide +kernel
theorem dL_choice_61 : decode cL_choice 61 = .ok (.iload_n 2, 1) := by decide +kernel
theorem dL_choice_62 : decode cL_choice 62 = .ok (.if_icmp .gt 17, 3) := by decide +kernel
theorem dL_choice_65 : decode cL_choice 65 = .ok (.ldc 16, 2) := by decide +kernel
theorem dL_choice_67 : decode cL_choice 67 = .ok (.bipush 10, 2) := by decide +kernel
theorem dL_choice_69 : decode cL_choice 69 = .ok (.iload 6, 2) := by decide +kernel
theorem dL_choice_71 : decode cL_choice 71 = .ok (.imul, 1) := by decide +kernel
theorem dL_choice_72 : decode cL_choice 72 = .ok (.iadd, 1) := by decide +kernel
theorem dL_choice_73 : decode cL_choice 73 = .ok (.iload 7, 2) := by decide +kernel
theorem dL_choice_75 : decode cL_choice 75 = .ok (.isub, 1) := by decide +kernel
theorem dL_choice_76 : decode cL_choice 76 = .ok (.goto 4, 3) := by decide +kernel
theorem dL_choice_79 : decode cL_choice 79 = .ok (.iconst 0, 1) := by decide +kernel
theorem dL_choice_80 : decode cL_choice 80 = .ok (.istore 8, 2) := by decide +kernel
theorem dL_choice_82 : decode cL_choice 82 = .ok (.iload 8, 2) := by decide +kernel
theorem dL_choice_84 : decode cL_choice 84 = .ok (.iload 4, 2) := by decide +kernel
theorem dL_choice_86 : decode cL_choice 86 = .ok (.if_icmp .le 8, 3) := by decide +kernel
theorem dL_choice_89 : decode cL_choice 89 = .ok (.iload 5, 2) := by decide +kernel
theorem dL_choice_91 : decode cL_choice 91 = .ok (.goto 4, 3) := by decide +kernel
theorem dL_choice_94 : decode cL_choice 94 = .ok (.iload_n 3, 1) := by decide +kernel
theorem dL_choice_95 : decode cL_choice 95 = .ok (.istore_n 3, 1) := by decide +kernel
theorem dL_choice_96 : decode cL_choice 96 = .ok (.iload 8, 2) := by decide +kernel
theorem dL_choice_98 : decode cL_choice 98 = .ok (.iload 4, 2) := by decide +kernel
theorem dL_choice_100 : decode cL_choice 100 = .ok (.if_icmp .le 8, 3) := by decide +kernel
theorem dL_choice_103 : decode cL_choice 103 = .ok (.iload 8, 2) := by decide +kernel
theorem dL_choice_105 : decode cL_choice 105 = .ok (.goto 5, 3) := by decide +kernel
theorem dL_choice_108 : decode cL_choice 108 = .ok (.iload 4, 2) := by decide +kernel
theorem dL_choice_110 : decode cL_choice 110 = .ok (.istore 4, 2) := by decide +kernel
theorem dL_choice_112 : decode cL_choice 112 = .ok (.iinc 5 1, 3) := by decide +kernel
theorem dL_choice_115 : decode cL_choice 115 = .ok (.goto (-107), 3) := by decide +kernel
theorem dL_choice_118 : decode cL_choice 118 = .ok (.iload_n 3, 1) := by decide +kernel
theorem dL_choice_119 : decode cL_choice 119 = .ok (.ireturn, 1) := by decide +kernel
theorem dL_notes_0 : decode cL_notes 0 = .ok (.aload_n 0, 1) := by decide +kernel
theorem dL_notes_1 : decode cL_notes 1 = .ok (.bipush 8, 2) := by decide +kernel
theorem dL_notes_3 : decode cL_notes 3 = .ok (.iaload, 1) := by decide +kernel
theorem dL_notes_4 : decode cL_notes 4 = .ok (.bipush 21, 2) := by decide +kernel
theorem dL_notes_6 : decode cL_notes 6 = .ok (.if_icmp .ge 36, 3) := by decide +kernel
theorem dL_notes_9 : decode cL_notes 9 = .ok (.aload_n 1, 1) := by decide +kernel
theorem dL_notes_10 : decode cL_notes 10 = .ok (.iconst 3, 1) := by decide +kernel
theorem dL_notes_11 : decode cL_notes 11 = .ok (.aload_n 0, 1) := by decide +kernel
theorem dL_notes_12 : decode cL_notes 12 = .ok (.bipush 8, 2) := by decide +kernel
theorem dL_notes_14 : decode cL_notes 14 = .ok (.iaload, 1) := by decide +kernel
theorem dL_notes_15 : decode cL_notes 15 = .ok (.imul, 1) := by decide +kernel
theorem dL_notes_16 : decode cL_notes 16 = .ok (.aload_n 0, 1) := by decide +kernel
theorem dL_notes_17 : decode cL_notes 17 = .ok (.iconst 2, 1) := by decide +kernel
theorem dL_notes_18 : decode cL_notes 18 = .ok (.iaload, 1) := by decide +kernel
theorem dL_notes_19 : decode cL_notes 19 = .ok (.iastore, 1) := by decide +kernel
theorem dL_notes_20 : decode cL_notes 20 = .ok (.aload_n 1, 1) := by decide +kernel
theorem dL_notes_21 : decode cL_notes 21 = .ok (.iconst 3, 1) := by decide +kernel
theorem dL_notes_22 : decode cL_notes 22 = .ok (.aload_n 0, 1) := by decide +kernel
theorem dL_notes_23 : decode cL_notes 23 = .ok (.bipush 8, 2) := by decide +kernel
theorem dL_notes_25 : decode cL_notes 25 = .ok (.iaload, 1) := by decide +kernel
theorem dL_notes_26 : decode cL_notes 26 = .ok (.imul, 1) := by decide +kernel
theorem dL_notes_27 : decode cL_notes 27 = .ok (.iconst 1, 1) := by decide +kernel
theorem dL_notes_28 : decode cL_notes 28 = .ok (.iadd, 1) := by decide +kernel
theorem dL_notes_29 : decode cL_notes 29 = .ok (.iload_n 2, 1) := by decide +kernel
theorem dL_notes_30 : decode cL_notes 30 = .ok (.iastore, 1) := by decide +kernel
theorem dL_notes_31 : decode cL_notes 31 = .ok (.aload_n 1, 1) := by decide +kernel
theorem dL_notes_32 : decode cL_notes 32 = .ok (.iconst 3, 1) := by decide +kernel
theorem dL_notes_33 : decode cL_notes 33 = .ok (.aload_n 0, 1) := by decide +kernel
theorem dL_notes_34 : decode cL_notes 34 = .ok (.bipush 8, 2) := by decide +kernel
theorem dL_notes_36 : decode cL_notes 36 = .ok (.iaload, 1) := by decide +kernel
theorem dL_notes_37 : decode cL_notes 37 = .ok (.imul, 1) := by decide +kernel
theorem dL_notes_38 : decode cL_notes 38 = .ok (.iconst 2, 1) := by decide +kernel
theorem dL_notes_39 : decode cL_notes 39 = .ok (.iadd, 1) := by decide +kernel
theorem dL_notes_40 : decode cL_notes 40 = .ok (.iload_n 3, 1) := by decide +kernel
theorem dL_notes_41 : decode cL_notes 41 = .ok (.iastore, 1) := by decide +kernel
theorem dL_notes_42 : decode cL_notes 42 = .ok (.aload_n 0, 1) := by decide +kernel
theorem dL_notes_43 : decode cL_notes 43 = .ok (.bipush 8, 2) := by decide +kernel
theorem dL_notes_45 : decode cL_notes 45 = .ok (.dup2, 1) := by decide +kernel
theorem dL_notes_46 : decode cL_notes 46 = .ok (.iaload, 1) := by decide +kernel
theorem dL_notes_47 : decode cL_notes 47 = .ok (.iconst 1, 1) := by decide +kernel
theorem dL_notes_48 : decode cL_notes 48 = .ok (.iadd, 1) := by decide +kernel
theorem dL_notes_49 : decode cL_notes 49 = .ok (.iastore, 1) := by decide +kernel
theorem dL_notes_50 : decode cL_notes 50 = .ok (.return_, 1) := by decide +kernel
theorem dL_begins_0 : decode cL_begins 0 = .ok (.aload_n 1, 1) := by decide +kernel
theorem dL_begins_1 : decode cL_begins 1 = .ok (.iconst 5, 1) := by decide +kernel
theorem dL_begins_2 : decode cL_begins 2 = .ok (.iload_n 3, 1) := by decide +kernel
theorem dL_begins_3 : decode cL_begins 3 = .ok (.imul, 1) := by decide +kernel
theorem dL_begins_4 : decode cL_begins 4 = .ok (.iconst 3, 1) := by decide +kernel
theorem dL_begins_5 : decode cL_begins 5 = .ok (.iadd, 1) := by decide +kernel
theorem dL_begins_6 : decode cL_begins 6 = .ok (.iconst 1, 1) := by decide +kernel
theorem dL_begins_7 : decode cL_begins 7 = .ok (.iastore, 1) := by decide +kernel
theorem dL_begins_8 : decode cL_begins 8 = .ok (.aload_n 1, 1) := by decide +kernel
theorem dL_begins_9 : decode cL_begins 9 = .ok (.iconst 5, 1) := by decide +kernel
theorem dL_begins_10 : decode cL_begins 10 = .ok (.iload_n 3, 1) := by decide +kernel
theorem dL_begins_11 : decode cL_begins 11 = .ok (.imul, 1) := by decide +kernel
theorem dL_begins_12 : decode cL_begins 12 = .ok (.iconst 4, 1) := by decide +kernel
theorem dL_begins_13 : decode cL_begins 13 = .ok (.iadd, 1) := by decide +kernel
theorem dL_begins_14 : decode cL_begins 14 = .ok (.aload_n 0, 1) := by decide +kernel
theorem dL_begins_15 : decode cL_begins 15 = .ok (.iconst 2, 1) := by decide +kernel
theorem dL_begins_16 : decode cL_begins 16 = .ok (.iaload, 1) := by decide +kernel
theorem dL_begins_17 : decode cL_begins 17 = .ok (.iastore, 1) := by decide +kernel
theorem dL_begins_18 : decode cL_begins 18 = .ok (.aload_n 0, 1) := by decide +kernel
theorem dL_begins_19 : decode cL_begins 19 = .ok (.iconst 4, 1) := by decide +kernel
theorem dL_begins_20 : decode cL_begins 20 = .ok (.iconst 1, 1) := by decide +kernel
theorem dL_begins_21 : decode cL_begins 21 = .ok (.iload_n 3, 1) := by decide +kernel
theorem dL_begins_22 : decode cL_begins 22 = .ok (.iadd, 1) := by decide +kernel
theorem dL_begins_23 : decode cL_begins 23 = .ok (.iastore, 1) := by decide +kernel
theorem dL_begins_24 : decode cL_begins 24 = .ok (.aload_n 0, 1) := by decide +kernel
theorem dL_begins_25 : decode cL_begins 25 = .ok (.iconst 5, 1) := by decide +kernel
theorem dL_begins_26 : decode cL_begins 26 = .ok (.aload_n 1, 1) := by decide +kernel
theorem dL_begins_27 : decode cL_begins 27 = .ok (.iconst 5, 1) := by decide +kernel
theorem dL_begins_28 : decode cL_begins 28 = .ok (.iload_n 3, 1) := by decide +kernel
theorem dL_begins_29 : decode cL_begins 29 = .ok (.imul, 1) := by decide +kernel
theorem dL_begins_30 : decode cL_begins 30 = .ok (.iaload, 1) := by decide +kernel
theorem dL_begins_31 : decode cL_begins 31 = .ok (.iastore, 1) := by decide +kernel
theorem dL_begins_32 : decode cL_begins 32 = .ok (.aload_n 0, 1) := by decide +kernel
theorem dL_begins_33 : decode cL_begins 33 = .ok (.aload_n 2, 1) := by decide +kernel
theorem dL_begins_34 : decode cL_begins 34 = .ok (.iconst 0, 1) := by decide +kernel
theorem dL_begins_35 : decode cL_begins 35 = .ok (.iload_n 3, 1) := by decide +kernel
theorem dL_begins_36 : decode cL_begins 36 = .ok (.invokestatic 17, 3) := by decide +kernel
theorem dL_begins_39 : decode cL_begins 39 = .ok (.return_, 1) := by decide +kernel
theorem dL_next_0 : decode cL_next 0 = .ok (.aload_n 0, 1) := by decide +kernel
theorem dL_next_1 : decode cL_next 1 = .ok (.aload_n 1, 1) := by decide +kernel
theorem dL_next_2 : decode cL_next 2 = .ok (.iconst 0, 1) := by decide +kernel
theorem dL_next_3 : decode cL_next 3 = .ok (.invokestatic 21, 3) := by decide +kernel
theorem dL_next_6 : decode cL_next 6 = .ok (.istore 4, 2) := by decide +kernel
theorem dL_next_8 : decode cL_next 8 = .ok (.aload_n 0, 1) := by decide +kernel
theorem dL_next_9 : decode cL_next 9 = .ok (.aload_n 1, 1) := by decide +kernel
theorem dL_next_10 : decode cL_next 10 = .ok (.iload 4, 2) := by decide +kernel
theorem dL_next_12 : decode cL_next 12 = .ok (.invokestatic 24, 3) := by decide +kernel
theorem dL_next_15 : decode cL_next 15 = .ok (.istore 5, 2) := by decide +kernel
theorem dL_next_17 : decode cL_next 17 = .ok (.iconst 1, 1) := by decide +kernel
theorem dL_next_18 : decode cL_next 18 = .ok (.istore 6, 2) := by decide +kernel
theorem dL_next_20 : decode cL_next 20 = .ok (.iload 6, 2) := by decide +kernel
theorem dL_next_22 : decode cL_next 22 = .ok (.ifCond .eq 125, 3) := by decide +kernel
theorem dL_next_25 : decode cL_next 25 = .ok (.aload_n 0, 1) := by decide +kernel
theorem dL_next_26 : decode cL_next 26 = .ok (.iconst 2, 1) := by decide +kernel
theorem dL_next_27 : decode cL_next 27 = .ok (.iaload, 1) := by decide +kernel
theorem dL_next_28 : decode cL_next 28 = .ok (.aload_n 1, 1) := by decide +kernel
theorem dL_next_29 : decode cL_next 29 = .ok (.iconst 0, 1) := by decide +kernel
theorem dL_next_30 : decode cL_next 30 = .ok (.iload 4, 2) := by decide +kernel
theorem dL_next_32 : decode cL_next 32 = .ok (.invokestatic 27, 3) := by decide +kernel
theorem dL_next_35 : decode cL_next 35 = .ok (.iadd, 1) := by decide +kernel
theorem dL_next_36 : decode cL_next 36 = .ok (.iload 5, 2) := by decide +kernel
theorem dL_next_38 : decode cL_next 38 = .ok (.if_icmp .le 109, 3) := by decide +kernel
theorem dL_next_41 : decode cL_next 41 = .ok (.iconst (-1), 1) := by decide +kernel
theorem dL_next_42 : decode cL_next 42 = .ok (.istore 7, 2) := by decide +kernel
theorem dL_next_44 : decode cL_next 44 = .ok (.iload 4, 2) := by decide +kernel
theorem dL_next_46 : decode cL_next 46 = .ok (.iconst 1, 1) := by decide +kernel
theorem dL_next_47 : decode cL_next 47 = .ok (.isub, 1) := by decide +kernel
theorem dL_next_48 : decode cL_next 48 = .ok (.istore 8, 2) := by decide +kernel
theorem dL_next_50 : decode cL_next 50 = .ok (.iload 8, 2) := by decide +kernel
theorem dL_next_52 : decode cL_next 52 = .ok (.ifCond .lt 58, 3) := by decide +kernel
theorem dL_next_55 : decode cL_next 55 = .ok (.aload_n 1, 1) := by decide +kernel
theorem dL_next_56 : decode cL_next 56 = .ok (.iconst 5, 1) := by decide +kernel
theorem dL_next_57 : decode cL_next 57 = .ok (.iload 8, 2) := by decide +kernel
theorem dL_next_59 : decode cL_next 59 = .ok (.imul, 1) := by decide +kernel
theorem dL_next_60 : decode cL_next 60 = .ok (.iconst 3, 1) := by decide +kernel
theorem dL_next_61 : decode cL_next 61 = .ok (.iadd, 1) := by decide +kernel
theorem dL_next_62 : decode cL_next 62 = .ok (.iaload, 1) := by decide +kernel
theorem dL_next_63 : decode cL_next 63 = .ok (.ifCond .ne 37, 3) := by decide +kernel
theorem dL_next_66 : decode cL_next 66 = .ok (.aload_n 1, 1) := by decide +kernel
theorem dL_next_67 : decode cL_next 67 = .ok (.iconst 5, 1) := by decide +kernel
theorem dL_next_68 : decode cL_next 68 = .ok (.iload 8, 2) := by decide +kernel
theorem dL_next_70 : decode cL_next 70 = .ok (.imul, 1) := by decide +kernel
theorem dL_next_71 : decode cL_next 71 = .ok (.iconst 2, 1) := by decide +kernel
theorem dL_next_72 : decode cL_next 72 = .ok (.iadd, 1) := by decide +kernel
theorem dL_next_73 : decode cL_next 73 = .ok (.iaload, 1) := by decide +kernel
theorem dL_next_74 : decode cL_next 74 = .ok (.iload 7, 2) := by decide +kernel
theorem dL_next_76 : decode cL_next 76 = .ok (.ifCond .ge 8, 3) := by decide +kernel
theorem dL_next_79 : decode cL_next 79 = .ok (.bipush 9, 2) := by decide +kernel
theorem dL_next_81 : decode cL_next 81 = .ok (.goto 11, 3) := by decide +kernel
theorem dL_next_84 : decode cL_next 84 = .ok (.aload_n 1, 1) := by decide +kernel
theorem dL_next_85 : decode cL_next 85 = .ok (.iconst 5, 1) := by decide +kernel
theorem dL_next_86 : decode cL_next 86 = .ok (.iload 7, 2) := by decide +kernel
theorem dL_next_88 : decode cL_next 88 = .ok (.imul, 1) := by decide +kernel
theorem dL_next_89 : decode cL_next 89 = .ok (.iconst 2, 1) := by decide +kernel
theorem dL_next_90 : decode cL_next 90 = .ok (.iadd, 1) := by decide +kernel
theorem dL_next_91 : decode cL_next 91 = .ok (.iaload, 1) := by decide +kernel
theorem dL_next_92 : decode cL_next 92 = .ok (.if_icmp .ge 8, 3) := by decide +kernel
theorem dL_next_95 : decode cL_next 95 = .ok (.iload 8, 2) := by decide +kernel
theorem dL_next_97 : decode cL_next 97 = .ok (.goto 5, 3) := by decide +kernel
theorem dL_next_100 : decode cL_next 100 = .ok (.iload 7, 2) := by decide +kernel
theorem dL_next_102 : decode cL_next 102 = .ok (.istore 7, 2) := by decide +kernel
theorem dL_next_104 : decode cL_next 104 = .ok (.iinc 8 (-1), 3) := by decide +kernel
theorem dL_next_107 : decode cL_next 107 = .ok (.goto (-57), 3) := by decide +kernel
theorem dL_next_110 : decode cL_next 110 = .ok (.iload 7, 2) := by decide +kernel
theorem dL_next_112 : decode cL_next 112 = .ok (.ifCond .lt 7, 3) := by decide +kernel
theorem dL_next_115 : decode cL_next 115 = .ok (.iconst 1, 1) := by decide +kernel
theorem dL_next_116 : decode cL_next 116 = .ok (.goto 4, 3) := by decide +kernel
theorem dL_next_119 : decode cL_next 119 = .ok (.iconst 0, 1) := by decide +kernel
theorem dL_next_120 : decode cL_next 120 = .ok (.istore 6, 2) := by decide +kernel
theorem dL_next_122 : decode cL_next 122 = .ok (.iload 6, 2) := by decide +kernel
theorem dL_next_124 : decode cL_next 124 = .ok (.ifCond .eq 20, 3) := by decide +kernel
theorem dL_next_127 : decode cL_next 127 = .ok (.aload_n 1, 1) := by decide +kernel
theorem dL_next_128 : decode cL_next 128 = .ok (.iconst 5, 1) := by decide +kernel
theorem dL_next_129 : decode cL_next 129 = .ok (.iload 7, 2) := by decide +kernel
theorem dL_next_131 : decode cL_next 131 = .ok (.imul, 1) := by decide +kernel
theorem dL_next_132 : decode cL_next 132 = .ok (.iconst 3, 1) := by decide +kernel
theorem dL_next_133 : decode cL_next 133 = .ok (.iadd, 1) := by decide +kernel
theorem dL_next_134 : decode cL_next 134 = .ok (.iconst 3, 1) := by decide +kernel
theorem dL_next_135 : decode cL_next 135 = .ok (.iastore, 1) := by decide +kernel
theorem dL_next_136 : decode cL_next 136 = .ok (.aload_n 0, 1) := by decide +kernel
theorem dL_next_137 : decode cL_next 137 = .ok (.aload_n 3, 1) := by decide +kernel
theorem dL_next_138 : decode cL_next 138 = .ok (.iconst 3, 1) := by decide +kernel
theorem dL_next_139 : decode cL_next 139 = .ok (.iload 7, 2) := by decide +kernel
theorem dL_next_141 : decode cL_next 141 = .ok (.invokestatic 17, 3) := by decide +kernel
theorem dL_next_144 : decode cL_next 144 = .ok (.goto (-124), 3) := by decide +kernel
theorem dL_next_147 : decode cL_next 147 = .ok (.iconst 0, 1) := by decide +kernel
theorem dL_next_148 : decode cL_next 148 = .ok (.istore 7, 2) := by decide +kernel
theorem dL_next_150 : decode cL_next 150 = .ok (.iload 7, 2) := by decide +kernel
theorem dL_next_152 : decode cL_next 152 = .ok (.iload 4, 2) := by decide +kernel
theorem dL_next_154 : decode cL_next 154 = .ok (.if_icmp .ge 20, 3) := by decide +kernel
theorem dL_next_157 : decode cL_next 157 = .ok (.aload_n 1, 1) := by decide +kernel
theorem dL_next_158 : decode cL_next 158 = .ok (.iconst 5, 1) := by decide +kernel
theorem dL_next_159 : decode cL_next 159 = .ok (.iload 7, 2) := by decide +kernel
theorem dL_next_161 : decode cL_next 161 = .ok (.imul, 1) := by decide +kernel
theorem dL_next_162 : decode cL_next 162 = .ok (.iconst 3, 1) := by decide +kernel
theorem dL_next_163 : decode cL_next 163 = .ok (.iadd, 1) := by decide +kernel
theorem dL_next_164 : decode cL_next 164 = .ok (.iaload, 1) := by decide +kernel
theorem dL_next_165 : decode cL_next 165 = .ok (.ifCond .eq 9, 3) := by decide +kernel
theorem dL_next_168 : decode cL_next 168 = .ok (.iinc 7 1, 3) := by decide +kernel
theorem dL_next_171 : decode cL_next 171 = .ok (.goto (-21), 3) := by decide +kernel
theorem dL_next_174 : decode cL_next 174 = .ok (.iload 7, 2) := by decide +kernel
theorem dL_next_176 : decode cL_next 176 = .ok (.iload 4, 2) := by decide +kernel
theorem dL_next_178 : decode cL_next 178 = .ok (.if_icmp .lt 11, 3) := by decide +kernel
theorem dL_next_181 : decode cL_next 181 = .ok (.iload 5, 2) := by decide +kernel
theorem dL_next_183 : decode cL_next 183 = .ok (.aload_n 0, 1) := by decide +kernel
theorem dL_next_184 : decode cL_next 184 = .ok (.iconst 2, 1) := by decide +kernel
theorem dL_next_185 : decode cL_next 185 = .ok (.iaload, 1) := by decide +kernel
theorem dL_next_186 : decode cL_next 186 = .ok (.if_icmp .gt 7, 3) := by decide +kernel
theorem dL_next_189 : decode cL_next 189 = .ok (.iconst 0, 1) := by decide +kernel
theorem dL_next_190 : decode cL_next 190 = .ok (.goto 14, 3) := by decide +kernel
theorem dL_next_193 : decode cL_next 193 = .ok (.aload_n 0, 1) := by decide +kernel
theorem dL_next_194 : decode cL_next 194 = .ok (.aload_n 2, 1) := by decide +kernel
theorem dL_next_195 : decode cL_next 195 = .ok (.iload 5, 2) := by decide +kernel
theorem dL_next_197 : decode cL_next 197 = .ok (.aload_n 0, 1) := by decide +kernel
theorem dL_next_198 : decode cL_next 198 = .ok (.iconst 2, 1) := by decide +kernel
theorem dL_next_199 : decode cL_next 199 = .ok (.iaload, 1) := by decide +kernel
theorem dL_next_200 : decode cL_next 200 = .ok (.isub, 1) := by decide +kernel
theorem dL_next_201 : decode cL_next 201 = .ok (.invokestatic 31, 3) := by decide +kernel
theorem dL_next_204 : decode cL_next 204 = .ok (.istore 8, 2) := by decide +kernel
theorem dL_next_206 : decode cL_next 206 = .ok (.iload 7, 2) := by decide +kernel
theorem dL_next_208 : decode cL_next 208 = .ok (.aload_n 0, 1) := by decide +kernel
theorem dL_next_209 : decode cL_next 209 = .ok (.iconst 0, 1) := by decide +kernel
theorem dL_next_210 : decode cL_next 210 = .ok (.iaload, 1) := by decide +kernel
theorem dL_next_211 : decode cL_next 211 = .ok (.if_icmp .ge 29, 3) := by decide +kernel
theorem dL_next_214 : decode cL_next 214 = .ok (.iload 7, 2) := by decide +kernel
theorem dL_next_216 : decode cL_next 216 = .ok (.iload 4, 2) := by decide +kernel
theorem dL_next_218 : decode cL_next 218 = .ok (.if_icmp .lt 11, 3) := by decide +kernel
theorem dL_next_221 : decode cL_next 221 = .ok (.iload 5, 2) := by decide +kernel
theorem dL_next_223 : decode cL_next 223 = .ok (.aload_n 0, 1) := by decide +kernel
theorem dL_next_224 : decode cL_next 224 = .ok (.iconst 2, 1) := by decide +kernel
theorem dL_next_225 : decode cL_next 225 = .ok (.iaload, 1) := by decide +kernel
theorem dL_next_226 : decode cL_next 226 = .ok (.if_icmp .gt 14, 3) := by decide +kernel
theorem dL_next_229 : decode cL_next 229 = .ok (.aload_n 0, 1) := by decide +kernel
theorem dL_next_230 : decode cL_next 230 = .ok (.aload_n 1, 1) := by decide +kernel
theorem dL_next_231 : decode cL_next 231 = .ok (.aload_n 3, 1) := by decide +kernel
theorem dL_next_232 : decode cL_next 232 = .ok (.iload 7, 2) := by decide +kernel
theorem dL_next_234 : decode cL_next 234 = .ok (.invokestatic 34, 3) := by decide +kernel
theorem dL_next_237 : decode cL_next 237 = .ok (.goto 111, 3) := by decide +kernel
theorem dL_next_240 : decode cL_next 240 = .ok (.iload 8, 2) := by decide +kernel
theorem dL_next_242 : decode cL_next 242 = .ok (.ifCond .le 70, 3) := by decide +kernel
theorem dL_next_245 : decode cL_next 245 = .ok (.iconst 0, 1) := by decide +kernel
theorem dL_next_246 : decode cL_next 246 = .ok (.istore 9, 2) := by decide +kernel
theorem dL_next_248 : decode cL_next 248 = .ok (.iload 8, 2) := by decide +kernel
theorem dL_next_250 : decode cL_next 250 = .ok (.iload 9, 2) := by decide +kernel
theorem dL_next_252 : decode cL_next 252 = .ok (.ishr, 1) := by decide +kernel
theorem dL_next_253 : decode cL_next 253 = .ok (.iconst 1, 1) := by decide +kernel
theorem dL_next_254 : decode cL_next 254 = .ok (.iand, 1) := by decide +kernel
theorem dL_next_255 : decode cL_next 255 = .ok (.ifCond .ne 9, 3) := by decide +kernel
theorem dL_next_258 : decode cL_next 258 = .ok (.iinc 9 1, 3) := by decide +kernel
theorem dL_next_261 : decode cL_next 261 = .ok (.goto (-13), 3) := by decide +kernel
theorem dL_next_264 : decode cL_next 264 = .ok (.aload_n 2, 1) := by decide +kernel
theorem dL_next_265 : decode cL_next 265 = .ok (.iconst 3, 1) := by decide +kernel
theorem dL_next_266 : decode cL_next 266 = .ok (.iload 9, 2) := by decide +kernel
theorem dL_next_268 : decode cL_next 268 = .ok (.imul, 1) := by decide +kernel
theorem dL_next_269 : decode cL_next 269 = .ok (.iconst 1, 1) := by decide +kernel
theorem dL_next_270 : decode cL_next 270 = .ok (.iadd, 1) := by decide +kernel
theorem dL_next_271 : decode cL_next 271 = .ok (.iconst 1, 1) := by decide +kernel
theorem dL_next_272 : decode cL_next 272 = .ok (.iastore, 1) := by decide +kernel
theorem dL_next_273 : decode cL_next 273 = .ok (.aload_n 2, 1) := by decide +kernel
theorem dL_next_274 : decode cL_next 274 = .ok (.iconst 3, 1) := by decide +kernel
theorem dL_next_275 : decode cL_next 275 = .ok (.iload 9, 2) := by decide +kernel
theorem dL_next_277 : decode cL_next 277 = .ok (.imul, 1) := by decide +kernel
theorem dL_next_278 : decode cL_next 278 = .ok (.iconst 2, 1) := by decide +kernel
theorem dL_next_279 : decode cL_next 279 = .ok (.iadd, 1) := by decide +kernel
theorem dL_next_280 : decode cL_next 280 = .ok (.aload_n 0, 1) := by decide +kernel
theorem dL_next_281 : decode cL_next 281 = .ok (.iconst 2, 1) := by decide +kernel
theorem dL_next_282 : decode cL_next 282 = .ok (.iaload, 1) := by decide +kernel
theorem dL_next_283 : decode cL_next 283 = .ok (.iastore, 1) := by decide +kernel
theorem dL_next_284 : decode cL_next 284 = .ok (.aload_n 0, 1) := by decide +kernel
theorem dL_next_285 : decode cL_next 285 = .ok (.iconst 4, 1) := by decide +kernel
theorem dL_next_286 : decode cL_next 286 = .ok (.bipush 21, 2) := by decide +kernel
theorem dL_next_288 : decode cL_next 288 = .ok (.iload 9, 2) := by decide +kernel
theorem dL_next_290 : decode cL_next 290 = .ok (.iadd, 1) := by decide +kernel
theorem dL_next_291 : decode cL_next 291 = .ok (.iastore, 1) := by decide +kernel
theorem dL_next_292 : decode cL_next 292 = .ok (.aload_n 0, 1) := by decide +kernel
theorem dL_next_293 : decode cL_next 293 = .ok (.iconst 5, 1) := by decide +kernel
theorem dL_next_294 : decode cL_next 294 = .ok (.aload_n 2, 1) := by decide +kernel
theorem dL_next_295 : decode cL_next 295 = .ok (.iconst 3, 1) := by decide +kernel
theorem dL_next_296 : decode cL_next 296 = .ok (.iload 9, 2) := by decide +kernel
theorem dL_next_298 : decode cL_next 298 = .ok (.imul, 1) := by decide +kernel
theorem dL_next_299 : decode cL_next 299 = .ok (.iaload, 1) := by decide +kernel
theorem dL_next_300 : decode cL_next 300 = .ok (.iastore, 1) := by decide +kernel
theorem dL_next_301 : decode cL_next 301 = .ok (.aload_n 0, 1) := by decide +kernel
theorem dL_next_302 : decode cL_next 302 = .ok (.aload_n 3, 1) := by decide +kernel
theorem dL_next_303 : decode cL_next 303 = .ok (.iconst 1, 1) := by decide +kernel
theorem dL_next_304 : decode cL_next 304 = .ok (.iload 9, 2) := by decide +kernel
theorem dL_next_306 : decode cL_next 306 = .ok (.invokestatic 17, 3) := by decide +kernel
theorem dL_next_309 : decode cL_next 309 = .ok (.goto 39, 3) := by decide +kernel
theorem dL_next_312 : decode cL_next 312 = .ok (.iload 5, 2) := by decide +kernel
theorem dL_next_314 : decode cL_next 314 = .ok (.aload_n 0, 1) := by decide +kernel
theorem dL_next_315 : decode cL_next 315 = .ok (.iconst 2, 1) := by decide +kernel
theorem dL_next_316 : decode cL_next 316 = .ok (.iaload, 1) := by decide +kernel
theorem dL_next_317 : decode cL_next 317 = .ok (.if_icmp .le 27, 3) := by decide +kernel
theorem dL_next_320 : decode cL_next 320 = .ok (.aload_n 0, 1) := by decide +kernel
theorem dL_next_321 : decode cL_next 321 = .ok (.iconst 4, 1) := by decide +kernel
theorem dL_next_322 : decode cL_next 322 = .ok (.bipush 40, 2) := by decide +kernel
theorem dL_next_324 : decode cL_next 324 = .ok (.iastore, 1) := by decide +kernel
theorem dL_next_325 : decode cL_next 325 = .ok (.aload_n 0, 1) := by decide +kernel
theorem dL_next_326 : decode cL_next 326 = .ok (.iconst 5, 1) := by decide +kernel
theorem dL_next_327 : decode cL_next 327 = .ok (.iload 5, 2) := by decide +kernel
theorem dL_next_329 : decode cL_next 329 = .ok (.aload_n 0, 1) := by decide +kernel
theorem dL_next_330 : decode cL_next 330 = .ok (.iconst 2, 1) := by decide +kernel
theorem dL_next_331 : decode cL_next 331 = .ok (.iaload, 1) := by decide +kernel
theorem dL_next_332 : decode cL_next 332 = .ok (.isub, 1) := by decide +kernel
theorem dL_next_333 : decode cL_next 333 = .ok (.iastore, 1) := by decide +kernel
theorem dL_next_334 : decode cL_next 334 = .ok (.aload_n 0, 1) := by decide +kernel
theorem dL_next_335 : decode cL_next 335 = .ok (.aload_n 3, 1) := by decide +kernel
theorem dL_next_336 : decode cL_next 336 = .ok (.iconst 2, 1) := by decide +kernel
theorem dL_next_337 : decode cL_next 337 = .ok (.iconst (-1), 1) := by decide +kernel
theorem dL_next_338 : decode cL_next 338 = .ok (.invokestatic 17, 3) := by decide +kernel
theorem dL_next_341 : decode cL_next 341 = .ok (.goto 7, 3) := by decide +kernel
theorem dL_next_344 : decode cL_next 344 = .ok (.aload_n 0, 1) := by decide +kernel
theorem dL_next_345 : decode cL_next 345 = .ok (.iconst 3, 1) := by decide +kernel
theorem dL_next_346 : decode cL_next 346 = .ok (.iconst 1, 1) := by decide +kernel
theorem dL_next_347 : decode cL_next 347 = .ok (.iastore, 1) := by decide +kernel
theorem dL_next_348 : decode cL_next 348 = .ok (.return_, 1) := by decide +kernel
theorem dL_done_0 : decode cL_done 0 = .ok (.aload_n 0, 1) := by decide +kernel
theorem dL_done_1 : decode cL_done 1 = .ok (.iconst 4, 1) := by decide +kernel
theorem dL_done_2 : decode cL_done 2 = .ok (.iaload, 1) := by decide +kernel
theorem dL_done_3 : decode cL_done 3 = .ok (.ifCond .le 24, 3) := by decide +kernel
theorem dL_done_6 : decode cL_done 6 = .ok (.aload_n 0, 1) := by decide +kernel
theorem dL_done_7 : decode cL_done 7 = .ok (.iconst 4, 1) := by decide +kernel
theorem dL_done_8 : decode cL_done 8 = .ok (.iaload, 1) := by decide +kernel
theorem dL_done_9 : decode cL_done 9 = .ok (.bipush 21, 2) := by decide +kernel
theorem dL_done_11 : decode cL_done 11 = .ok (.if_icmp .ge 16, 3) := by decide +kernel
theorem dL_done_14 : decode cL_done 14 = .ok (.aload_n 1, 1) := by decide +kernel
theorem dL_done_15 : decode cL_done 15 = .ok (.iconst 5, 1) := by decide +kernel
theorem dL_done_16 : decode cL_done 16 = .ok (.aload_n 0, 1) := by decide +kernel
theorem dL_done_17 : decode cL_done 17 = .ok (.iconst 4, 1) := by decide +kernel
theorem dL_done_18 : decode cL_done 18 = .ok (.iaload, 1) := by decide +kernel
theorem dL_done_19 : decode cL_done 19 = .ok (.imul, 1) := by decide +kernel
theorem dL_done_20 : decode cL_done 20 = .ok (.iconst 2, 1) := by decide +kernel
theorem dL_done_21 : decode cL_done 21 = .ok (.isub, 1) := by decide +kernel
theorem dL_done_22 : decode cL_done 22 = .ok (.iconst 2, 1) := by decide +kernel
theorem dL_done_23 : decode cL_done 23 = .ok (.iastore, 1) := by decide +kernel
theorem dL_done_24 : decode cL_done 24 = .ok (.goto 28, 3) := by decide +kernel
theorem dL_done_27 : decode cL_done 27 = .ok (.aload_n 0, 1) := by decide +kernel
theorem dL_done_28 : decode cL_done 28 = .ok (.iconst 4, 1) := by decide +kernel
theorem dL_done_29 : decode cL_done 29 = .ok (.iaload, 1) := by decide +kernel
theorem dL_done_30 : decode cL_done 30 = .ok (.bipush 40, 2) := by decide +kernel
theorem dL_done_32 : decode cL_done 32 = .ok (.if_icmp .ge 20, 3) := by decide +kernel
theorem dL_done_35 : decode cL_done 35 = .ok (.aload_n 0, 1) := by decide +kernel
theorem dL_done_36 : decode cL_done 36 = .ok (.iconst 4, 1) := by decide +kernel
theorem dL_done_37 : decode cL_done 37 = .ok (.iaload, 1) := by decide +kernel
theorem dL_done_38 : decode cL_done 38 = .ok (.ifCond .le 14, 3) := by decide +kernel
theorem dL_done_41 : decode cL_done 41 = .ok (.aload_n 2, 1) := by decide +kernel
theorem dL_done_42 : decode cL_done 42 = .ok (.iconst 3, 1) := by decide +kernel
theorem dL_done_43 : decode cL_done 43 = .ok (.aload_n 0, 1) := by decide +kernel
theorem dL_done_44 : decode cL_done 44 = .ok (.iconst 4, 1) := by decide +kernel
theorem dL_done_45 : decode cL_done 45 = .ok (.iaload, 1) := by decide +kernel
theorem dL_done_46 : decode cL_done 46 = .ok (.imul, 1) := by decide +kernel
theorem dL_done_47 : decode cL_done 47 = .ok (.bipush 62, 2) := by decide +kernel
theorem dL_done_49 : decode cL_done 49 = .ok (.isub, 1) := by decide +kernel
theorem dL_done_50 : decode cL_done 50 = .ok (.iconst 2, 1) := by decide +kernel
theorem dL_done_51 : decode cL_done 51 = .ok (.iastore, 1) := by decide +kernel
theorem dL_done_52 : decode cL_done 52 = .ok (.aload_n 0, 1) := by decide +kernel
theorem dL_done_53 : decode cL_done 53 = .ok (.iconst 4, 1) := by decide +kernel
theorem dL_done_54 : decode cL_done 54 = .ok (.iconst 0, 1) := by decide +kernel
theorem dL_done_55 : decode cL_done 55 = .ok (.iastore, 1) := by decide +kernel
theorem dL_done_56 : decode cL_done 56 = .ok (.aload_n 0, 1) := by decide +kernel
theorem dL_done_57 : decode cL_done 57 = .ok (.iconst 5, 1) := by decide +kernel
theorem dL_done_58 : decode cL_done 58 = .ok (.iconst 0, 1) := by decide +kernel
theorem dL_done_59 : decode cL_done 59 = .ok (.iastore, 1) := by decide +kernel
theorem dL_done_60 : decode cL_done 60 = .ok (.return_, 1) := by decide +kernel
theorem dL_goes_0 : decode cL_goes 0 = .ok (.iconst 0, 1) := by decide +kernel
theorem dL_goes_1 : decode cL_goes 1 = .ok (.istore 5, 2) := by decide +kernel
theorem dL_goes_3 : decode cL_goes 3 = .ok (.iload 5, 2) := by decide +kernel
theorem dL_goes_5 : decode cL_goes 5 = .ok (.iload 4, 2) := by decide +kernel
theorem dL_goes_7 : decode cL_goes 7 = .ok (.if_icmp .ge 113, 3) := by decide +kernel
theorem dL_goes_10 : decode cL_goes 10 = .ok (.aload_n 0, 1) := by decide +kernel
theorem dL_goes_11 : decode cL_goes 11 = .ok (.iconst 3, 1) := by decide +kernel
theorem dL_goes_12 : decode cL_goes 12 = .ok (.iaload, 1) := by decide +kernel
theorem dL_goes_13 : decode cL_goes 13 = .ok (.ifCond .ne 107, 3) := by decide +kernel
theorem dL_goes_16 : decode cL_goes 16 = .ok (.aload_n 0, 1) := by decide +kernel
theorem dL_goes_17 : decode cL_goes 17 = .ok (.iconst 4, 1) := by decide +kernel
theorem dL_goes_18 : decode cL_goes 18 = .ok (.iaload, 1) := by decide +kernel
theorem dL_goes_19 : decode cL_goes 19 = .ok (.ifCond .ne 10, 3) := by decide +kernel
theorem dL_goes_22 : decode cL_goes 22 = .ok (.aload_n 0, 1) := by decide +kernel
theorem dL_goes_23 : decode cL_goes 23 = .ok (.aload_n 1, 1) := by decide +kernel
theorem dL_goes_24 : decode cL_goes 24 = .ok (.aload_n 2, 1) := by decide +kernel
theorem dL_goes_25 : decode cL_goes 25 = .ok (.aload_n 3, 1) := by decide +kernel
theorem dL_goes_26 : decode cL_goes 26 = .ok (.invokestatic 38, 3) := by decide +kernel
theorem dL_goes_29 : decode cL_goes 29 = .ok (.aload_n 0, 1) := by decide +kernel
theorem dL_goes_30 : decode cL_goes 30 = .ok (.iconst 3, 1) := by decide +kernel
theorem dL_goes_31 : decode cL_goes 31 = .ok (.iaload, 1) := by decide +kernel
theorem dL_goes_32 : decode cL_goes 32 = .ok (.ifCond .ne (-29), 3) := by decide +kernel
theorem dL_goes_35 : decode cL_goes 35 = .ok (.aload_n 0, 1) := by decide +kernel
theorem dL_goes_36 : decode cL_goes 36 = .ok (.iconst 5, 1) := by decide +kernel
theorem dL_goes_37 : decode cL_goes 37 = .ok (.iaload, 1) := by decide +kernel
theorem dL_goes_38 : decode cL_goes 38 = .ok (.bipush 70, 2) := by decide +kernel
theorem dL_goes_40 : decode cL_goes 40 = .ok (.if_icmp .le 18, 3) := by decide +kernel
theorem dL_goes_43 : decode cL_goes 43 = .ok (.iload 4, 2) := by decide +kernel
theorem dL_goes_45 : decode cL_goes 45 = .ok (.iload 5, 2) := by decide +kernel
theorem dL_goes_47 : decode cL_goes 47 = .ok (.isub, 1) := by decide +kernel
theorem dL_goes_48 : decode cL_goes 48 = .ok (.bipush 70, 2) := by decide +kernel
theorem dL_goes_50 : decode cL_goes 50 = .ok (.if_icmp .le 8, 3) := by decide +kernel
theorem dL_goes_53 : decode cL_goes 53 = .ok (.bipush 50, 2) := by decide +kernel
theorem dL_goes_55 : decode cL_goes 55 = .ok (.goto 4, 3) := by decide +kernel
theorem dL_goes_58 : decode cL_goes 58 = .ok (.iconst 1, 1) := by decide +kernel
theorem dL_goes_59 : decode cL_goes 59 = .ok (.istore 6, 2) := by decide +kernel
theorem dL_goes_61 : decode cL_goes 61 = .ok (.iload 5, 2) := by decide +kernel
theorem dL_goes_63 : decode cL_goes 63 = .ok (.iload 6, 2) := by decide +kernel
theorem dL_goes_65 : decode cL_goes 65 = .ok (.iadd, 1) := by decide +kernel
theorem dL_goes_66 : decode cL_goes 66 = .ok (.istore 5, 2) := by decide +kernel
theorem dL_goes_68 : decode cL_goes 68 = .ok (.aload_n 0, 1) := by decide +kernel
theorem dL_goes_69 : decode cL_goes 69 = .ok (.iconst 2, 1) := by decide +kernel
theorem dL_goes_70 : decode cL_goes 70 = .ok (.dup2, 1) := by decide +kernel
theorem dL_goes_71 : decode cL_goes 71 = .ok (.iaload, 1) := by decide +kernel
theorem dL_goes_72 : decode cL_goes 72 = .ok (.iload 6, 2) := by decide +kernel
theorem dL_goes_74 : decode cL_goes 74 = .ok (.iadd, 1) := by decide +kernel
theorem dL_goes_75 : decode cL_goes 75 = .ok (.iastore, 1) := by decide +kernel
theorem dL_goes_76 : decode cL_goes 76 = .ok (.aload_n 0, 1) := by decide +kernel
theorem dL_goes_77 : decode cL_goes 77 = .ok (.iconst 5, 1) := by decide +kernel
theorem dL_goes_78 : decode cL_goes 78 = .ok (.dup2, 1) := by decide +kernel
theorem dL_goes_79 : decode cL_goes 79 = .ok (.iaload, 1) := by decide +kernel
theorem dL_goes_80 : decode cL_goes 80 = .ok (.iload 6, 2) := by decide +kernel
theorem dL_goes_82 : decode cL_goes 82 = .ok (.isub, 1) := by decide +kernel
theorem dL_goes_83 : decode cL_goes 83 = .ok (.iastore, 1) := by decide +kernel
theorem dL_goes_84 : decode cL_goes 84 = .ok (.aload_n 0, 1) := by decide +kernel
theorem dL_goes_85 : decode cL_goes 85 = .ok (.bipush 6, 2) := by decide +kernel
theorem dL_goes_87 : decode cL_goes 87 = .ok (.dup2, 1) := by decide +kernel
theorem dL_goes_88 : decode cL_goes 88 = .ok (.iaload, 1) := by decide +kernel
theorem dL_goes_89 : decode cL_goes 89 = .ok (.aload_n 0, 1) := by decide +kernel
theorem dL_goes_90 : decode cL_goes 90 = .ok (.iconst 4, 1) := by decide +kernel
theorem dL_goes_91 : decode cL_goes 91 = .ok (.iaload, 1) := by decide +kernel
theorem dL_goes_92 : decode cL_goes 92 = .ok (.bipush 40, 2) := by decide +kernel
theorem dL_goes_94 : decode cL_goes 94 = .ok (.if_icmp .ne 8, 3) := by decide +kernel
theorem dL_goes_97 : decode cL_goes 97 = .ok (.iload 6, 2) := by decide +kernel
theorem dL_goes_99 : decode cL_goes 99 = .ok (.goto 4, 3) := by decide +kernel
theorem dL_goes_102 : decode cL_goes 102 = .ok (.iconst 0, 1) := by decide +kernel
theorem dL_goes_103 : decode cL_goes 103 = .ok (.iadd, 1) := by decide +kernel
theorem dL_goes_104 : decode cL_goes 104 = .ok (.iastore, 1) := by decide +kernel
theorem dL_goes_105 : decode cL_goes 105 = .ok (.aload_n 0, 1) := by decide +kernel
theorem dL_goes_106 : decode cL_goes 106 = .ok (.iconst 5, 1) := by decide +kernel
theorem dL_goes_107 : decode cL_goes 107 = .ok (.iaload, 1) := by decide +kernel
theorem dL_goes_108 : decode cL_goes 108 = .ok (.ifCond .ne 9, 3) := by decide +kernel
theorem dL_goes_111 : decode cL_goes 111 = .ok (.aload_n 0, 1) := by decide +kernel
theorem dL_goes_112 : decode cL_goes 112 = .ok (.aload_n 1, 1) := by decide +kernel
theorem dL_goes_113 : decode cL_goes 113 = .ok (.aload_n 2, 1) := by decide +kernel
theorem dL_goes_114 : decode cL_goes 114 = .ok (.invokestatic 42, 3) := by decide +kernel
theorem dL_goes_117 : decode cL_goes 117 = .ok (.goto (-114), 3) := by decide +kernel
theorem dL_goes_120 : decode cL_goes 120 = .ok (.iload 5, 2) := by decide +kernel
theorem dL_goes_122 : decode cL_goes 122 = .ok (.ireturn, 1) := by decide +kernel
theorem dL_inStatus_0 : decode cL_inStatus 0 = .ok (.iconst 0, 1) := by decide +kernel
theorem dL_inStatus_1 : decode cL_inStatus 1 = .ok (.istore_n 3, 1) := by decide +kernel
theorem dL_inStatus_2 : decode cL_inStatus 2 = .ok (.iconst 0, 1) := by decide +kernel
theorem dL_inStatus_3 : decode cL_inStatus 3 = .ok (.istore 4, 2) := by decide +kernel
theorem dL_inStatus_5 : decode cL_inStatus 5 = .ok (.iload 4, 2) := by decide +kernel
theorem dL_inStatus_7 : decode cL_inStatus 7 = .ok (.aload_n 0, 1) := by decide +kernel
theorem dL_inStatus_8 : decode cL_inStatus 8 = .ok (.iconst 0, 1) := by decide +kernel
theorem dL_inStatus_9 : decode cL_inStatus 9 = .ok (.iaload, 1) := by decide +kernel
theorem dL_inStatus_10 : decode cL_inStatus 10 = .ok (.if_icmp .ge 29, 3) := by decide +kernel
theorem dL_inStatus_13 : decode cL_inStatus 13 = .ok (.iload_n 3, 1) := by decide +kernel
theorem dL_inStatus_14 : decode cL_inStatus 14 = .ok (.aload_n 1, 1) := by decide +kernel
theorem dL_inStatus_15 : decode cL_inStatus 15 = .ok (.iconst 5, 1) := by decide +kernel
theorem dL_inStatus_16 : decode cL_inStatus 16 = .ok (.iload 4, 2) := by decide +kernel
theorem dL_inStatus_18 : decode cL_inStatus 18 = .ok (.imul, 1) := by decide +kernel
theorem dL_inStatus_19 : decode cL_inStatus 19 = .ok (.iconst 3, 1) := by decide +kernel
theorem dL_inStatus_20 : decode cL_inStatus 20 = .ok (.iadd, 1) := by decide +kernel
theorem dL_inStatus_21 : decode cL_inStatus 21 = .ok (.iaload, 1) := by decide +kernel
theorem dL_inStatus_22 : decode cL_inStatus 22 = .ok (.iload_n 2, 1) := by decide +kernel
theorem dL_inStatus_23 : decode cL_inStatus 23 = .ok (.if_icmp .ne 7, 3) := by decide +kernel
theorem dL_inStatus_26 : decode cL_inStatus 26 = .ok (.iconst 1, 1) := by decide +kernel
theorem dL_inStatus_27 : decode cL_inStatus 27 = .ok (.goto 4, 3) := by decide +kernel
theorem dL_inStatus_30 : decode cL_inStatus 30 = .ok (.iconst 0, 1) := by decide +kernel
theorem dL_inStatus_31 : decode cL_inStatus 31 = .ok (.iadd, 1) := by decide +kernel
theorem dL_inStatus_32 : decode cL_inStatus 32 = .ok (.istore_n 3, 1) := by decide +kernel
theorem dL_inStatus_33 : decode cL_inStatus 33 = .ok (.iinc 4 1, 3) := by decide +kernel
theorem dL_inStatus_36 : decode cL_inStatus 36 = .ok (.goto (-31), 3) := by decide +kernel
theorem dL_inStatus_39 : decode cL_inStatus 39 = .ok (.iload_n 3, 1) := by decide +kernel
theorem dL_inStatus_40 : decode cL_inStatus 40 = .ok (.ireturn, 1) := by decide +kernel
theorem dL_isSo_0 : decode cL_isSo 0 = .ok (.aload_n 1, 1) := by decide +kernel
theorem dL_isSo_1 : decode cL_isSo 1 = .ok (.aload_n 2, 1) := by decide +kernel
theorem dL_isSo_2 : decode cL_isSo 2 = .ok (.iconst 0, 1) := by decide +kernel
theorem dL_isSo_3 : decode cL_isSo 3 = .ok (.invokestatic 21, 3) := by decide +kernel
theorem dL_isSo_6 : decode cL_isSo 6 = .ok (.istore 5, 2) := by decide +kernel
theorem dL_isSo_8 : decode cL_isSo 8 = .ok (.iconst 0, 1) := by decide +kernel
theorem dL_isSo_9 : decode cL_isSo 9 = .ok (.istore 6, 2) := by decide +kernel
theorem dL_isSo_11 : decode cL_isSo 11 = .ok (.aload_n 0, 1) := by decide +kernel
theorem dL_isSo_12 : decode cL_isSo 12 = .ok (.iconst 0, 1) := by decide +kernel
theorem dL_isSo_13 : decode cL_isSo 13 = .ok (.invokestatic 130, 3) := by decide +kernel
theorem dL_isSo_16 : decode cL_isSo 16 = .ok (.aload_n 1, 1) := by decide +kernel
theorem dL_isSo_17 : decode cL_isSo 17 = .ok (.iconst 0, 1) := by decide +kernel
theorem dL_isSo_18 : decode cL_isSo 18 = .ok (.iaload, 1) := by decide +kernel
theorem dL_isSo_19 : decode cL_isSo 19 = .ok (.if_icmp .ne 40, 3) := by decide +kernel
theorem dL_isSo_22 : decode cL_isSo 22 = .ok (.aload_n 0, 1) := by decide +kernel
theorem dL_isSo_23 : decode cL_isSo 23 = .ok (.iconst 1, 1) := by decide +kernel
theorem dL_isSo_24 : decode cL_isSo 24 = .ok (.invokestatic 130, 3) := by decide +kernel
theorem dL_isSo_27 : decode cL_isSo 27 = .ok (.aload_n 1, 1) := by decide +kernel
theorem dL_isSo_28 : decode cL_isSo 28 = .ok (.iconst 1, 1) := by decide +kernel
theorem dL_isSo_29 : decode cL_isSo 29 = .ok (.iaload, 1) := by decide +kernel
theorem dL_isSo_30 : decode cL_isSo 30 = .ok (.if_icmp .ne 29, 3) := by decide +kernel
theorem dL_isSo_33 : decode cL_isSo 33 = .ok (.aload_n 0, 1) := by decide +kernel
theorem dL_isSo_34 : decode cL_isSo 34 = .ok (.iconst 2, 1) := by decide +kernel
theorem dL_isSo_35 : decode cL_isSo 35 = .ok (.invokestatic 130, 3) := by decide +kernel
theorem dL_isSo_38 : decode cL_isSo 38 = .ok (.aload_n 1, 1) := by decide +kernel
theorem dL_isSo_39 : decode cL_isSo 39 = .ok (.iconst 2, 1) := by decide +kernel
theorem dL_isSo_40 : decode cL_isSo 40 = .ok (.iaload, 1) := by decide +kernel
theorem dL_isSo_41 : decode cL_isSo 41 = .ok (.if_icmp .ne 18, 3) := by decide +kernel
theorem dL_isSo_44 : decode cL_isSo 44 = .ok (.aload_n 0, 1) := by decide +kernel
theorem dL_isSo_45 : decode cL_isSo 45 = .ok (.iconst 3, 1) := by decide +kernel
theorem dL_isSo_46 : decode cL_isSo 46 = .ok (.invokestatic 130, 3) := by decide +kernel
theorem dL_isSo_49 : decode cL_isSo 49 = .ok (.aload_n 1, 1) := by decide +kernel
theorem dL_isSo_50 : decode cL_isSo 50 = .ok (.iconst 3, 1) := by decide +kernel
theorem dL_isSo_51 : decode cL_isSo 51 = .ok (.iaload, 1) := by decide +kernel
theorem dL_isSo_52 : decode cL_isSo 52 = .ok (.if_icmp .ne 7, 3) := by decide +kernel
theorem dL_isSo_55 : decode cL_isSo 55 = .ok (.iconst 1, 1) := by decide +kernel
theorem dL_isSo_56 : decode cL_isSo 56 = .ok (.goto 4, 3) := by decide +kernel
theorem dL_isSo_59 : decode cL_isSo 59 = .ok (.iconst 0, 1) := by decide +kernel
theorem dL_isSo_60 : decode cL_isSo 60 = .ok (.istore 7, 2) := by decide +kernel
theorem dL_isSo_62 : decode cL_isSo 62 = .ok (.iconst 0, 1) := by decide +kernel
theorem dL_isSo_63 : decode cL_isSo 63 = .ok (.istore 8, 2) := by decide +kernel
theorem dL_isSo_65 : decode cL_isSo 65 = .ok (.iload 8, 2) := by decide +kernel
theorem dL_isSo_67 : decode cL_isSo 67 = .ok (.aload_n 1, 1) := by decide +kernel
theorem dL_isSo_68 : decode cL_isSo 68 = .ok (.iconst 0, 1) := by decide +kernel
theorem dL_isSo_69 : decode cL_isSo 69 = .ok (.iaload, 1) := by decide +kernel
theorem dL_isSo_70 : decode cL_isSo 70 = .ok (.if_icmp .ge 265, 3) := by decide +kernel
theorem dL_isSo_73 : decode cL_isSo 73 = .ok (.iload 7, 2) := by decide +kernel
theorem dL_isSo_75 : decode cL_isSo 75 = .ok (.ifCond .eq 260, 3) := by decide +kernel
theorem dL_isSo_78 : decode cL_isSo 78 = .ok (.aload_n 2, 1) := by decide +kernel
theorem dL_isSo_79 : decode cL_isSo 79 = .ok (.iconst 5, 1) := by decide +kernel
theorem dL_isSo_80 : decode cL_isSo 80 = .ok (.iload 8, 2) := by decide +kernel
theorem dL_isSo_82 : decode cL_isSo 82 = .ok (.imul, 1) := by decide +kernel
theorem dL_isSo_83 : decode cL_isSo 83 = .ok (.iconst 4, 1) := by decide +kernel
theorem dL_isSo_84 : decode cL_isSo 84 = .ok (.iadd, 1) := by decide +kernel
theorem dL_isSo_85 : decode cL_isSo 85 = .ok (.iaload, 1) := by decide +kernel
theorem dL_isSo_86 : decode cL_isSo 86 = .ok (.istore 9, 2) := by decide +kernel
theorem dL_isSo_88 : decode cL_isSo 88 = .ok (.aload_n 2, 1) := by decide +kernel
theorem dL_isSo_89 : decode cL_isSo 89 = .ok (.iconst 5, 1) := by decide +kernel
theorem dL_isSo_90 : decode cL_isSo 90 = .ok (.iload 8, 2) := by decide +kernel
theorem dL_isSo_92 : decode cL_isSo 92 = .ok (.imul, 1) := by decide +kernel
theorem dL_isSo_93 : decode cL_isSo 93 = .ok (.iconst 1, 1) := by decide +kernel
theorem dL_isSo_94 : decode cL_isSo 94 = .ok (.iadd, 1) := by decide +kernel
theorem dL_isSo_95 : decode cL_isSo 95 = .ok (.iaload, 1) := by decide +kernel
theorem dL_isSo_96 : decode cL_isSo 96 = .ok (.ifCond .lt 8, 3) := by decide +kernel
theorem dL_isSo_99 : decode cL_isSo 99 = .ok (.iload 9, 2) := by decide +kernel
theorem dL_isSo_101 : decode cL_isSo 101 = .ok (.ifCond .ge 7, 3) := by decide +kernel
theorem dL_isSo_104 : decode cL_isSo 104 = .ok (.iconst (-1), 1) := by decide +kernel
theorem dL_isSo_105 : decode cL_isSo 105 = .ok (.goto 14, 3) := by decide +kernel
theorem dL_isSo_108 : decode cL_isSo 108 = .ok (.iload 9, 2) := by decide +kernel
theorem dL_isSo_110 : decode cL_isSo 110 = .ok (.aload_n 2, 1) := by decide +kernel
theorem dL_isSo_111 : decode cL_isSo 111 = .ok (.iconst 5, 1) := by decide +kernel
theorem dL_isSo_112 : decode cL_isSo 112 = .ok (.iload 8, 2) := by decide +kernel
theorem dL_isSo_114 : decode cL_isSo 114 = .ok (.imul, 1) := by decide +kernel
theorem dL_isSo_115 : decode cL_isSo 115 = .ok (.iconst 1, 1) := by decide +kernel
theorem dL_isSo_116 : decode cL_isSo 116 = .ok (.iadd, 1) := by decide +kernel
theorem dL_isSo_117 : decode cL_isSo 117 = .ok (.iaload, 1) := by decide +kernel
theorem dL_isSo_118 : decode cL_isSo 118 = .ok (.isub, 1) := by decide +kernel
theorem dL_isSo_119 : decode cL_isSo 119 = .ok (.istore 10, 2) := by decide +kernel
theorem dL_isSo_121 : decode cL_isSo 121 = .ok (.iload 10, 2) := by decide +kernel
theorem dL_isSo_123 : decode cL_isSo 123 = .ok (.iload 6, 2) := by decide +kernel
theorem dL_isSo_125 : decode cL_isSo 125 = .ok (.if_icmp .le 8, 3) := by decide +kernel
theorem dL_isSo_128 : decode cL_isSo 128 = .ok (.iload 10, 2) := by decide +kernel
theorem dL_isSo_130 : decode cL_isSo 130 = .ok (.goto 5, 3) := by decide +kernel
theorem dL_isSo_133 : decode cL_isSo 133 = .ok (.iload 6, 2) := by decide +kernel
theorem dL_isSo_135 : decode cL_isSo 135 = .ok (.istore 6, 2) := by decide +kernel
theorem dL_isSo_137 : decode cL_isSo 137 = .ok (.aload_n 1, 1) := by decide +kernel
theorem dL_isSo_138 : decode cL_isSo 138 = .ok (.aload_n 2, 1) := by decide +kernel
theorem dL_isSo_139 : decode cL_isSo 139 = .ok (.iload 8, 2) := by decide +kernel
theorem dL_isSo_141 : decode cL_isSo 141 = .ok (.iconst 1, 1) := by decide +kernel
theorem dL_isSo_142 : decode cL_isSo 142 = .ok (.iadd, 1) := by decide +kernel
theorem dL_isSo_143 : decode cL_isSo 143 = .ok (.invokestatic 21, 3) := by decide +kernel
theorem dL_isSo_146 : decode cL_isSo 146 = .ok (.istore 11, 2) := by decide +kernel
theorem dL_isSo_148 : decode cL_isSo 148 = .ok (.aload_n 2, 1) := by decide +kernel
theorem dL_isSo_149 : decode cL_isSo 149 = .ok (.iconst 5, 1) := by decide +kernel
theorem dL_isSo_150 : decode cL_isSo 150 = .ok (.iload 8, 2) := by decide +kernel
theorem dL_isSo_152 : decode cL_isSo 152 = .ok (.imul, 1) := by decide +kernel
theorem dL_isSo_153 : decode cL_isSo 153 = .ok (.iconst 3, 1) := by decide +kernel
theorem dL_isSo_154 : decode cL_isSo 154 = .ok (.iadd, 1) := by decide +kernel
theorem dL_isSo_155 : decode cL_isSo 155 = .ok (.iaload, 1) := by decide +kernel
theorem dL_isSo_156 : decode cL_isSo 156 = .ok (.ifCond .ne 22, 3) := by decide +kernel
theorem dL_isSo_159 : decode cL_isSo 159 = .ok (.aload_n 1, 1) := by decide +kernel
theorem dL_isSo_160 : decode cL_isSo 160 = .ok (.aload_n 2, 1) := by decide +kernel
theorem dL_isSo_161 : decode cL_isSo 161 = .ok (.iload 11, 2) := by decide +kernel
theorem dL_isSo_163 : decode cL_isSo 163 = .ok (.invokestatic 24, 3) := by decide +kernel
theorem dL_isSo_166 : decode cL_isSo 166 = .ok (.aload_n 2, 1) := by decide +kernel
theorem dL_isSo_167 : decode cL_isSo 167 = .ok (.iload 8, 2) := by decide +kernel
theorem dL_isSo_169 : decode cL_isSo 169 = .ok (.iload 11, 2) := by decide +kernel
theorem dL_isSo_171 : decode cL_isSo 171 = .ok (.invokestatic 27, 3) := by decide +kernel
theorem dL_isSo_174 : decode cL_isSo 174 = .ok (.isub, 1) := by decide +kernel
theorem dL_isSo_175 : decode cL_isSo 175 = .ok (.goto 6, 3) := by decide +kernel
theorem dL_isSo_178 : decode cL_isSo 178 = .ok (.sipush (-10000), 3) := by decide +kernel
theorem dL_isSo_181 : decode cL_isSo 181 = .ok (.istore 12, 2) := by decide +kernel
theorem dL_isSo_183 : decode cL_isSo 183 = .ok (.aload_n 0, 1) := by decide +kernel
theorem dL_isSo_184 : decode cL_isSo 184 = .ok (.iload 8, 2) := by decide +kernel
theorem dL_isSo_186 : decode cL_isSo 186 = .ok (.iconst 0, 1) := by decide +kernel
theorem dL_isSo_187 : decode cL_isSo 187 = .ok (.invokestatic 133, 3) := by decide +kernel
theorem dL_isSo_190 : decode cL_isSo 190 = .ok (.aload_n 2, 1) := by decide +kernel
theorem dL_isSo_191 : decode cL_isSo 191 = .ok (.iconst 5, 1) := by decide +kernel
theorem dL_isSo_192 : decode cL_isSo 192 = .ok (.iload 8, 2) := by decide +kernel
theorem dL_isSo_194 : decode cL_isSo 194 = .ok (.imul, 1) := by decide +kernel
theorem dL_isSo_195 : decode cL_isSo 195 = .ok (.iaload, 1) := by decide +kernel
theorem dL_isSo_196 : decode cL_isSo 196 = .ok (.if_icmp .ne 130, 3) := by decide +kernel
theorem dL_isSo_199 : decode cL_isSo 199 = .ok (.aload_n 0, 1) := by decide +kernel
theorem dL_isSo_200 : decode cL_isSo 200 = .ok (.iload 8, 2) := by decide +kernel
theorem dL_isSo_202 : decode cL_isSo 202 = .ok (.iconst 1, 1) := by decide +kernel
theorem dL_isSo_203 : decode cL_isSo 203 = .ok (.invokestatic 133, 3) := by decide +kernel
theorem dL_isSo_206 : decode cL_isSo 206 = .ok (.aload_n 2, 1) := by decide +kernel
theorem dL_isSo_207 : decode cL_isSo 207 = .ok (.iconst 5, 1) := by decide +kernel
theorem dL_isSo_208 : decode cL_isSo 208 = .ok (.iload 8, 2) := by decide +kernel
theorem dL_isSo_210 : decode cL_isSo 210 = .ok (.imul, 1) := by decide +kernel
theorem dL_isSo_211 : decode cL_isSo 211 = .ok (.iconst 1, 1) := by decide +kernel
theorem dL_isSo_212 : decode cL_isSo 212 = .ok (.iadd, 1) := by decide +kernel
theorem dL_isSo_213 : decode cL_isSo 213 = .ok (.iaload, 1) := by decide +kernel
theorem dL_isSo_214 : decode cL_isSo 214 = .ok (.if_icmp .ne 112, 3) := by decide +kernel
theorem dL_isSo_217 : decode cL_isSo 217 = .ok (.aload_n 0, 1) := by decide +kernel
theorem dL_isSo_218 : decode cL_isSo 218 = .ok (.iload 8, 2) := by decide +kernel
theorem dL_isSo_220 : decode cL_isSo 220 = .ok (.iconst 2, 1) := by decide +kernel
theorem dL_isSo_221 : decode cL_isSo 221 = .ok (.invokestatic 133, 3) := by decide +kernel
theorem dL_isSo_224 : decode cL_isSo 224 = .ok (.aload_n 2, 1) := by decide +kernel
theorem dL_isSo_225 : decode cL_isSo 225 = .ok (.iconst 5, 1) := by decide +kernel
theorem dL_isSo_226 : decode cL_isSo 226 = .ok (.iload 8, 2) := by decide +kernel
theorem dL_isSo_228 : decode cL_isSo 228 = .ok (.imul, 1) := by decide +kernel
theorem dL_isSo_229 : decode cL_isSo 229 = .ok (.iconst 2, 1) := by decide +kernel
theorem dL_isSo_230 : decode cL_isSo 230 = .ok (.iadd, 1) := by decide +kernel
theorem dL_isSo_231 : decode cL_isSo 231 = .ok (.iaload, 1) := by decide +kernel
theorem dL_isSo_232 : decode cL_isSo 232 = .ok (.if_icmp .ne 94, 3) := by decide +kernel
theorem dL_isSo_235 : decode cL_isSo 235 = .ok (.aload_n 0, 1) := by decide +kernel
theorem dL_isSo_236 : decode cL_isSo 236 = .ok (.iload 8, 2) := by decide +kernel
theorem dL_isSo_238 : decode cL_isSo 238 = .ok (.iconst 3, 1) := by decide +kernel
theorem dL_isSo_239 : decode cL_isSo 239 = .ok (.invokestatic 133, 3) := by decide +kernel
theorem dL_isSo_242 : decode cL_isSo 242 = .ok (.aload_n 2, 1) := by decide +kernel
theorem dL_isSo_243 : decode cL_isSo 243 = .ok (.iconst 5, 1) := by decide +kernel
theorem dL_isSo_244 : decode cL_isSo 244 = .ok (.iload 8, 2) := by decide +kernel
theorem dL_isSo_246 : decode cL_isSo 246 = .ok (.imul, 1) := by decide +kernel
theorem dL_isSo_247 : decode cL_isSo 247 = .ok (.iconst 3, 1) := by decide +kernel
theorem dL_isSo_248 : decode cL_isSo 248 = .ok (.iadd, 1) := by decide +kernel
theorem dL_isSo_249 : decode cL_isSo 249 = .ok (.iaload, 1) := by decide +kernel
theorem dL_isSo_250 : decode cL_isSo 250 = .ok (.if_icmp .ne 76, 3) := by decide +kernel
theorem dL_isSo_253 : decode cL_isSo 253 = .ok (.aload_n 0, 1) := by decide +kernel
theorem dL_isSo_254 : decode cL_isSo 254 = .ok (.iload 8, 2) := by decide +kernel
theorem dL_isSo_256 : decode cL_isSo 256 = .ok (.iconst 4, 1) := by decide +kernel
theorem dL_isSo_257 : decode cL_isSo 257 = .ok (.invokestatic 133, 3) := by decide +kernel
theorem dL_isSo_260 : decode cL_isSo 260 = .ok (.iload 9, 2) := by decide +kernel
theorem dL_isSo_262 : decode cL_isSo 262 = .ok (.if_icmp .ne 64, 3) := by decide +kernel
theorem dL_isSo_265 : decode cL_isSo 265 = .ok (.aload_n 0, 1) := by decide +kernel
theorem dL_isSo_266 : decode cL_isSo 266 = .ok (.iload 8, 2) := by decide +kernel
theorem dL_isSo_268 : decode cL_isSo 268 = .ok (.iconst 5, 1) := by decide +kernel
theorem dL_isSo_269 : decode cL_isSo 269 = .ok (.invokestatic 133, 3) := by decide +kernel
theorem dL_isSo_272 : decode cL_isSo 272 = .ok (.iload 10, 2) := by decide +kernel
theorem dL_isSo_274 : decode cL_isSo 274 = .ok (.if_icmp .ne 52, 3) := by decide +kernel
theorem dL_isSo_277 : decode cL_isSo 277 = .ok (.aload_n 0, 1) := by decide +kernel
theorem dL_isSo_278 : decode cL_isSo 278 = .ok (.iload 8, 2) := by decide +kernel
theorem dL_isSo_280 : decode cL_isSo 280 = .ok (.bipush 6, 2) := by decide +kernel
theorem dL_isSo_282 : decode cL_isSo 282 = .ok (.invokestatic 133, 3) := by decide +kernel
theorem dL_isSo_285 : decode cL_isSo 285 = .ok (.aload_n 2, 1) := by decide +kernel
theorem dL_isSo_286 : decode cL_isSo 286 = .ok (.iconst 5, 1) := by decide +kernel
theorem dL_isSo_287 : decode cL_isSo 287 = .ok (.iload 8, 2) := by decide +kernel
theorem dL_isSo_289 : decode cL_isSo 289 = .ok (.imul, 1) := by decide +kernel
theorem dL_isSo_290 : decode cL_isSo 290 = .ok (.iconst 3, 1) := by decide +kernel
theorem dL_isSo_291 : decode cL_isSo 291 = .ok (.iadd, 1) := by decide +kernel
theorem dL_isSo_292 : decode cL_isSo 292 = .ok (.iaload, 1) := by decide +kernel
theorem dL_isSo_293 : decode cL_isSo 293 = .ok (.ifCond .ne 14, 3) := by decide +kernel
theorem dL_isSo_296 : decode cL_isSo 296 = .ok (.iload 8, 2) := by decide +kernel
theorem dL_isSo_298 : decode cL_isSo 298 = .ok (.iload 5, 2) := by decide +kernel
theorem dL_isSo_300 : decode cL_isSo 300 = .ok (.if_icmp .ge 7, 3) := by decide +kernel
theorem dL_isSo_303 : decode cL_isSo 303 = .ok (.iconst 1, 1) := by decide +kernel
theorem dL_isSo_304 : decode cL_isSo 304 = .ok (.goto 4, 3) := by decide +kernel
theorem dL_isSo_307 : decode cL_isSo 307 = .ok (.iconst 0, 1) := by decide +kernel
theorem dL_isSo_308 : decode cL_isSo 308 = .ok (.if_icmp .ne 18, 3) := by decide +kernel
theorem dL_isSo_311 : decode cL_isSo 311 = .ok (.aload_n 0, 1) := by decide +kernel
theorem dL_isSo_312 : decode cL_isSo 312 = .ok (.iload 8, 2) := by decide +kernel
theorem dL_isSo_314 : decode cL_isSo 314 = .ok (.invokestatic 136, 3) := by decide +kernel
theorem dL_isSo_317 : decode cL_isSo 317 = .ok (.iload 12, 2) := by decide +kernel
theorem dL_isSo_319 : decode cL_isSo 319 = .ok (.if_icmp .ne 7, 3) := by decide +kernel
theorem dL_isSo_322 : decode cL_isSo 322 = .ok (.iconst 1, 1) := by decide +kernel
theorem dL_isSo_323 : decode cL_isSo 323 = .ok (.goto 4, 3) := by decide +kernel
theorem dL_isSo_326 : decode cL_isSo 326 = .ok (.iconst 0, 1) := by decide +kernel
theorem dL_isSo_327 : decode cL_isSo 327 = .ok (.istore 7, 2) := by decide +kernel
theorem dL_isSo_329 : decode cL_isSo 329 = .ok (.iinc 8 1, 3) := by decide +kernel
theorem dL_isSo_332 : decode cL_isSo 332 = .ok (.goto (-267), 3) := by decide +kernel
theorem dL_isSo_335 : decode cL_isSo 335 = .ok (.iconst 0, 1) := by decide +kernel
theorem dL_isSo_336 : decode cL_isSo 336 = .ok (.istore 8, 2) := by decide +kernel
theorem dL_isSo_338 : decode cL_isSo 338 = .ok (.iconst 0, 1) := by decide +kernel
theorem dL_isSo_339 : decode cL_isSo 339 = .ok (.istore 9, 2) := by decide +kernel
theorem dL_isSo_341 : decode cL_isSo 341 = .ok (.iload 9, 2) := by decide +kernel
theorem dL_isSo_343 : decode cL_isSo 343 = .ok (.aload_n 1, 1) := by decide +kernel
theorem dL_isSo_344 : decode cL_isSo 344 = .ok (.iconst 1, 1) := by decide +kernel
theorem dL_isSo_345 : decode cL_isSo 345 = .ok (.iaload, 1) := by decide +kernel
theorem dL_isSo_346 : decode cL_isSo 346 = .ok (.if_icmp .ge 94, 3) := by decide +kernel
theorem dL_isSo_349 : decode cL_isSo 349 = .ok (.iload 7, 2) := by decide +kernel
theorem dL_isSo_351 : decode cL_isSo 351 = .ok (.ifCond .eq 89, 3) := by decide +kernel
theorem dL_isSo_354 : decode cL_isSo 354 = .ok (.iload 8, 2) := by decide +kernel
theorem dL_isSo_356 : decode cL_isSo 356 = .ok (.aload_n 3, 1) := by decide +kernel
theorem dL_isSo_357 : decode cL_isSo 357 = .ok (.iconst 3, 1) := by decide +kernel
theorem dL_isSo_358 : decode cL_isSo 358 = .ok (.iload 9, 2) := by decide +kernel
theorem dL_isSo_360 : decode cL_isSo 360 = .ok (.imul, 1) := by decide +kernel
theorem dL_isSo_361 : decode cL_isSo 361 = .ok (.iconst 1, 1) := by decide +kernel
theorem dL_isSo_362 : decode cL_isSo 362 = .ok (.iadd, 1) := by decide +kernel
theorem dL_isSo_363 : decode cL_isSo 363 = .ok (.iaload, 1) := by decide +kernel
theorem dL_isSo_364 : decode cL_isSo 364 = .ok (.ifCond .ne 7, 3) := by decide +kernel
theorem dL_isSo_367 : decode cL_isSo 367 = .ok (.iconst 1, 1) := by decide +kernel
theorem dL_isSo_368 : decode cL_isSo 368 = .ok (.goto 4, 3) := by decide +kernel
theorem dL_isSo_371 : decode cL_isSo 371 = .ok (.iconst 0, 1) := by decide +kernel
theorem dL_isSo_372 : decode cL_isSo 372 = .ok (.iadd, 1) := by decide +kernel
theorem dL_isSo_373 : decode cL_isSo 373 = .ok (.istore 8, 2) := by decide +kernel
theorem dL_isSo_375 : decode cL_isSo 375 = .ok (.aload_n 0, 1) := by decide +kernel
theorem dL_isSo_376 : decode cL_isSo 376 = .ok (.iload 9, 2) := by decide +kernel
theorem dL_isSo_378 : decode cL_isSo 378 = .ok (.iconst 0, 1) := by decide +kernel
theorem dL_isSo_379 : decode cL_isSo 379 = .ok (.invokestatic 139, 3) := by decide +kernel
theorem dL_isSo_382 : decode cL_isSo 382 = .ok (.aload_n 3, 1) := by decide +kernel
theorem dL_isSo_383 : decode cL_isSo 383 = .ok (.iconst 3, 1) := by decide +kernel
theorem dL_isSo_384 : decode cL_isSo 384 = .ok (.iload 9, 2) := by decide +kernel
theorem dL_isSo_386 : decode cL_isSo 386 = .ok (.imul, 1) := by decide +kernel
theorem dL_isSo_387 : decode cL_isSo 387 = .ok (.iaload, 1) := by decide +kernel
theorem dL_isSo_388 : decode cL_isSo 388 = .ok (.if_icmp .ne 43, 3) := by decide +kernel
theorem dL_isSo_391 : decode cL_isSo 391 = .ok (.aload_n 0, 1) := by decide +kernel
theorem dL_isSo_392 : decode cL_isSo 392 = .ok (.iload 9, 2) := by decide +kernel
theorem dL_isSo_394 : decode cL_isSo 394 = .ok (.iconst 1, 1) := by decide +kernel
theorem dL_isSo_395 : decode cL_isSo 395 = .ok (.invokestatic 139, 3) := by decide +kernel
theorem dL_isSo_398 : decode cL_isSo 398 = .ok (.aload_n 3, 1) := by decide +kernel
theorem dL_isSo_399 : decode cL_isSo 399 = .ok (.iconst 3, 1) := by decide +kernel
theorem dL_isSo_400 : decode cL_isSo 400 = .ok (.iload 9, 2) := by decide +kernel
theorem dL_isSo_402 : decode cL_isSo 402 = .ok (.imul, 1) := by decide +kernel
theorem dL_isSo_403 : decode cL_isSo 403 = .ok (.iconst 1, 1) := by decide +kernel
theorem dL_isSo_404 : decode cL_isSo 404 = .ok (.iadd, 1) := by decide +kernel
theorem dL_isSo_405 : decode cL_isSo 405 = .ok (.iaload, 1) := by decide +kernel
theorem dL_isSo_406 : decode cL_isSo 406 = .ok (.if_icmp .ne 25, 3) := by decide +kernel
theorem dL_isSo_409 : decode cL_isSo 409 = .ok (.aload_n 0, 1) := by decide +kernel
theorem dL_isSo_410 : decode cL_isSo 410 = .ok (.iload 9, 2) := by decide +kernel
theorem dL_isSo_412 : decode cL_isSo 412 = .ok (.iconst 2, 1) := by decide +kernel
theorem dL_isSo_413 : decode cL_isSo 413 = .ok (.invokestatic 139, 3) := by decide +kernel
theorem dL_isSo_416 : decode cL_isSo 416 = .ok (.aload_n 3, 1) := by decide +kernel
theorem dL_isSo_417 : decode cL_isSo 417 = .ok (.iconst 3, 1) := by decide +kernel
theorem dL_isSo_418 : decode cL_isSo 418 = .ok (.iload 9, 2) := by decide +kernel
theorem dL_isSo_420 : decode cL_isSo 420 = .ok (.imul, 1) := by decide +kernel
theorem dL_isSo_421 : decode cL_isSo 421 = .ok (.iconst 2, 1) := by decide +kernel
theorem dL_isSo_422 : decode cL_isSo 422 = .ok (.iadd, 1) := by decide +kernel
theorem dL_isSo_423 : decode cL_isSo 423 = .ok (.iaload, 1) := by decide +kernel
theorem dL_isSo_424 : decode cL_isSo 424 = .ok (.if_icmp .ne 7, 3) := by decide +kernel
theorem dL_isSo_427 : decode cL_isSo 427 = .ok (.iconst 1, 1) := by decide +kernel
theorem dL_isSo_428 : decode cL_isSo 428 = .ok (.goto 4, 3) := by decide +kernel
theorem dL_isSo_431 : decode cL_isSo 431 = .ok (.iconst 0, 1) := by decide +kernel
theorem dL_isSo_432 : decode cL_isSo 432 = .ok (.istore 7, 2) := by decide +kernel
theorem dL_isSo_434 : decode cL_isSo 434 = .ok (.iinc 9 1, 3) := by decide +kernel
theorem dL_isSo_437 : decode cL_isSo 437 = .ok (.goto (-96), 3) := by decide +kernel
theorem dL_isSo_440 : decode cL_isSo 440 = .ok (.iconst 0, 1) := by decide +kernel
theorem dL_isSo_441 : decode cL_isSo 441 = .ok (.istore 9, 2) := by decide +kernel
theorem dL_isSo_443 : decode cL_isSo 443 = .ok (.iload 9, 2) := by decide +kernel
theorem dL_isSo_445 : decode cL_isSo 445 = .ok (.aload_n 1, 1) := by decide +kernel
theorem dL_isSo_446 : decode cL_isSo 446 = .ok (.bipush 8, 2) := by decide +kernel
theorem dL_isSo_448 : decode cL_isSo 448 = .ok (.iaload, 1) := by decide +kernel
theorem dL_isSo_449 : decode cL_isSo 449 = .ok (.if_icmp .ge 83, 3) := by decide +kernel
theorem dL_isSo_452 : decode cL_isSo 452 = .ok (.iload 9, 2) := by decide +kernel
theorem dL_isSo_454 : decode cL_isSo 454 = .ok (.bipush 21, 2) := by decide +kernel
theorem dL_isSo_456 : decode cL_isSo 456 = .ok (.if_icmp .ge 76, 3) := by decide +kernel
theorem dL_isSo_459 : decode cL_isSo 459 = .ok (.iload 7, 2) := by decide +kernel
theorem dL_isSo_461 : decode cL_isSo 461 = .ok (.ifCond .eq 71, 3) := by decide +kernel
theorem dL_isSo_464 : decode cL_isSo 464 = .ok (.aload_n 0, 1) := by decide +kernel
theorem dL_isSo_465 : decode cL_isSo 465 = .ok (.iload 9, 2) := by decide +kernel
theorem dL_isSo_467 : decode cL_isSo 467 = .ok (.iconst 0, 1) := by decide +kernel
theorem dL_isSo_468 : decode cL_isSo 468 = .ok (.invokestatic 142, 3) := by decide +kernel
theorem dL_isSo_471 : decode cL_isSo 471 = .ok (.aload 4, 2) := by decide +kernel
theorem dL_isSo_473 : decode cL_isSo 473 = .ok (.iconst 3, 1) := by decide +kernel
theorem dL_isSo_474 : decode cL_isSo 474 = .ok (.iload 9, 2) := by decide +kernel
theorem dL_isSo_476 : decode cL_isSo 476 = .ok (.imul, 1) := by decide +kernel
theorem dL_isSo_477 : decode cL_isSo 477 = .ok (.iaload, 1) := by decide +kernel
theorem dL_isSo_478 : decode cL_isSo 478 = .ok (.if_icmp .ne 45, 3) := by decide +kernel
theorem dL_isSo_481 : decode cL_isSo 481 = .ok (.aload_n 0, 1) := by decide +kernel
theorem dL_isSo_482 : decode cL_isSo 482 = .ok (.iload 9, 2) := by decide +kernel
theorem dL_isSo_484 : decode cL_isSo 484 = .ok (.iconst 1, 1) := by decide +kernel
theorem dL_isSo_485 : decode cL_isSo 485 = .ok (.invokestatic 142, 3) := by decide +kernel
theorem dL_isSo_488 : decode cL_isSo 488 = .ok (.aload 4, 2) := by decide +kernel
theorem dL_isSo_490 : decode cL_isSo 490 = .ok (.iconst 3, 1) := by decide +kernel
theorem dL_isSo_491 : decode cL_isSo 491 = .ok (.iload 9, 2) := by decide +kernel
theorem dL_isSo_493 : decode cL_isSo 493 = .ok (.imul, 1) := by decide +kernel
theorem dL_isSo_494 : decode cL_isSo 494 = .ok (.iconst 1, 1) := by decide +kernel
theorem dL_isSo_495 : decode cL_isSo 495 = .ok (.iadd, 1) := by decide +kernel
theorem dL_isSo_496 : decode cL_isSo 496 = .ok (.iaload, 1) := by decide +kernel
theorem dL_isSo_497 : decode cL_isSo 497 = .ok (.if_icmp .ne 26, 3) := by decide +kernel
theorem dL_isSo_500 : decode cL_isSo 500 = .ok (.aload_n 0, 1) := by decide +kernel
theorem dL_isSo_501 : decode cL_isSo 501 = .ok (.iload 9, 2) := by decide +kernel
theorem dL_isSo_503 : decode cL_isSo 503 = .ok (.iconst 2, 1) := by decide +kernel
theorem dL_isSo_504 : decode cL_isSo 504 = .ok (.invokestatic 142, 3) := by decide +kernel
theorem dL_isSo_507 : decode cL_isSo 507 = .ok (.aload 4, 2) := by decide +kernel
theorem dL_isSo_509 : decode cL_isSo 509 = .ok (.iconst 3, 1) := by decide +kernel
theorem dL_isSo_510 : decode cL_isSo 510 = .ok (.iload 9, 2) := by decide +kernel
theorem dL_isSo_512 : decode cL_isSo 512 = .ok (.imul, 1) := by decide +kernel
theorem dL_isSo_513 : decode cL_isSo 513 = .ok (.iconst 2, 1) := by decide +kernel
theorem dL_isSo_514 : decode cL_isSo 514 = .ok (.iadd, 1) := by decide +kernel
theorem dL_isSo_515 : decode cL_isSo 515 = .ok (.iaload, 1) := by decide +kernel
theorem dL_isSo_516 : decode cL_isSo 516 = .ok (.if_icmp .ne 7, 3) := by decide +kernel
theorem dL_isSo_519 : decode cL_isSo 519 = .ok (.iconst 1, 1) := by decide +kernel
theorem dL_isSo_520 : decode cL_isSo 520 = .ok (.goto 4, 3) := by decide +kernel
theorem dL_isSo_523 : decode cL_isSo 523 = .ok (.iconst 0, 1) := by decide +kernel
theorem dL_isSo_524 : decode cL_isSo 524 = .ok (.istore 7, 2) := by decide +kernel
theorem dL_isSo_526 : decode cL_isSo 526 = .ok (.iinc 9 1, 3) := by decide +kernel
theorem dL_isSo_529 : decode cL_isSo 529 = .ok (.goto (-86), 3) := by decide +kernel
theorem dL_isSo_532 : decode cL_isSo 532 = .ok (.iload 7, 2) := by decide +kernel
theorem dL_isSo_534 : decode cL_isSo 534 = .ok (.ifCond .eq 151, 3) := by decide +kernel
theorem dL_isSo_537 : decode cL_isSo 537 = .ok (.aload_n 0, 1) := by decide +kernel
theorem dL_isSo_538 : decode cL_isSo 538 = .ok (.iconst 4, 1) := by decide +kernel
theorem dL_isSo_539 : decode cL_isSo 539 = .ok (.invokestatic 130, 3) := by decide +kernel
theorem dL_isSo_542 : decode cL_isSo 542 = .ok (.aload_n 1, 1) := by decide +kernel
theorem dL_isSo_543 : decode cL_isSo 543 = .ok (.aload_n 2, 1) := by decide +kernel
theorem dL_isSo_544 : decode cL_isSo 544 = .ok (.iconst 0, 1) := by decide +kernel
theorem dL_isSo_545 : decode cL_isSo 545 = .ok (.invokestatic 69, 3) := by decide +kernel
theorem dL_isSo_548 : decode cL_isSo 548 = .ok (.if_icmp .ne 137, 3) := by decide +kernel
theorem dL_isSo_551 : decode cL_isSo 551 = .ok (.aload_n 0, 1) := by decide +kernel
theorem dL_isSo_552 : decode cL_isSo 552 = .ok (.iconst 5, 1) := by decide +kernel
theorem dL_isSo_553 : decode cL_isSo 553 = .ok (.invokestatic 130, 3) := by decide +kernel
theorem dL_isSo_556 : decode cL_isSo 556 = .ok (.aload_n 1, 1) := by decide +kernel
theorem dL_isSo_557 : decode cL_isSo 557 = .ok (.aload_n 2, 1) := by decide +kernel
theorem dL_isSo_558 : decode cL_isSo 558 = .ok (.iconst 3, 1) := by decide +kernel
theorem dL_isSo_559 : decode cL_isSo 559 = .ok (.invokestatic 69, 3) := by decide +kernel
theorem dL_isSo_562 : decode cL_isSo 562 = .ok (.if_icmp .ne 123, 3) := by decide +kernel
theorem dL_isSo_565 : decode cL_isSo 565 = .ok (.aload_n 0, 1) := by decide +kernel
theorem dL_isSo_566 : decode cL_isSo 566 = .ok (.bipush 6, 2) := by decide +kernel
theorem dL_isSo_568 : decode cL_isSo 568 = .ok (.invokestatic 130, 3) := by decide +kernel
theorem dL_isSo_571 : decode cL_isSo 571 = .ok (.iload 8, 2) := by decide +kernel
theorem dL_isSo_573 : decode cL_isSo 573 = .ok (.if_icmp .ne 112, 3) := by decide +kernel
theorem dL_isSo_576 : decode cL_isSo 576 = .ok (.aload_n 0, 1) := by decide +kernel
theorem dL_isSo_577 : decode cL_isSo 577 = .ok (.bipush 7, 2) := by decide +kernel
theorem dL_isSo_579 : decode cL_isSo 579 = .ok (.invokestatic 130, 3) := by decide +kernel
theorem dL_isSo_582 : decode cL_isSo 582 = .ok (.aload_n 1, 1) := by decide +kernel
theorem dL_isSo_583 : decode cL_isSo 583 = .ok (.bipush 6, 2) := by decide +kernel
theorem dL_isSo_585 : decode cL_isSo 585 = .ok (.iaload, 1) := by decide +kernel
theorem dL_isSo_586 : decode cL_isSo 586 = .ok (.if_icmp .ne 99, 3) := by decide +kernel
theorem dL_isSo_589 : decode cL_isSo 589 = .ok (.aload_n 0, 1) := by decide +kernel
theorem dL_isSo_590 : decode cL_isSo 590 = .ok (.bipush 8, 2) := by decide +kernel
theorem dL_isSo_592 : decode cL_isSo 592 = .ok (.invokestatic 130, 3) := by decide +kernel
theorem dL_isSo_595 : decode cL_isSo 595 = .ok (.aload_n 1, 1) := by decide +kernel
theorem dL_isSo_596 : decode cL_isSo 596 = .ok (.aload_n 2, 1) := by decide +kernel
theorem dL_isSo_597 : decode cL_isSo 597 = .ok (.iload 5, 2) := by decide +kernel
theorem dL_isSo_599 : decode cL_isSo 599 = .ok (.invokestatic 24, 3) := by decide +kernel
theorem dL_isSo_602 : decode cL_isSo 602 = .ok (.if_icmp .ne 83, 3) := by decide +kernel
theorem dL_isSo_605 : decode cL_isSo 605 = .ok (.aload_n 0, 1) := by decide +kernel
theorem dL_isSo_606 : decode cL_isSo 606 = .ok (.bipush 9, 2) := by decide +kernel
theorem dL_isSo_608 : decode cL_isSo 608 = .ok (.invokestatic 130, 3) := by decide +kernel
theorem dL_isSo_611 : decode cL_isSo 611 = .ok (.aload_n 1, 1) := by decide +kernel
theorem dL_isSo_612 : decode cL_isSo 612 = .ok (.iconst 3, 1) := by decide +kernel
theorem dL_isSo_613 : decode cL_isSo 613 = .ok (.iaload, 1) := by decide +kernel
theorem dL_isSo_614 : decode cL_isSo 614 = .ok (.iconst 1, 1) := by decide +kernel
theorem dL_isSo_615 : decode cL_isSo 615 = .ok (.if_icmp .ne 13, 3) := by decide +kernel
theorem dL_isSo_618 : decode cL_isSo 618 = .ok (.aload_n 1, 1) := by decide +kernel
theorem dL_isSo_619 : decode cL_isSo 619 = .ok (.iconst 2, 1) := by decide +kernel
theorem dL_isSo_620 : decode cL_isSo 620 = .ok (.iaload, 1) := by decide +kernel
theorem dL_isSo_621 : decode cL_isSo 621 = .ok (.sipush 3600, 3) := by decide +kernel
theorem dL_isSo_624 : decode cL_isSo 624 = .ok (.isub, 1) := by decide +kernel
theorem dL_isSo_625 : decode cL_isSo 625 = .ok (.goto 4, 3) := by decide +kernel
theorem dL_isSo_628 : decode cL_isSo 628 = .ok (.iconst (-1), 1) := by decide +kernel
theorem dL_isSo_629 : decode cL_isSo 629 = .ok (.if_icmp .ne 56, 3) := by decide +kernel
theorem dL_isSo_632 : decode cL_isSo 632 = .ok (.aload_n 0, 1) := by decide +kernel
theorem dL_isSo_633 : decode cL_isSo 633 = .ok (.bipush 10, 2) := by decide +kernel
theorem dL_isSo_635 : decode cL_isSo 635 = .ok (.invokestatic 130, 3) := by decide +kernel
theorem dL_isSo_638 : decode cL_isSo 638 = .ok (.iload 6, 2) := by decide +kernel
theorem dL_isSo_640 : decode cL_isSo 640 = .ok (.if_icmp .ne 45, 3) := by decide +kernel
theorem dL_isSo_643 : decode cL_isSo 643 = .ok (.aload_n 0, 1) := by decide +kernel
theorem dL_isSo_644 : decode cL_isSo 644 = .ok (.bipush 11, 2) := by decide +kernel
theorem dL_isSo_646 : decode cL_isSo 646 = .ok (.invokestatic 130, 3) := by decide +kernel
theorem dL_isSo_649 : decode cL_isSo 649 = .ok (.aload_n 1, 1) := by decide +kernel
theorem dL_isSo_650 : decode cL_isSo 650 = .ok (.bipush 8, 2) := by decide +kernel
theorem dL_isSo_652 : decode cL_isSo 652 = .ok (.iaload, 1) := by decide +kernel
theorem dL_isSo_653 : decode cL_isSo 653 = .ok (.if_icmp .ne 32, 3) := by decide +kernel
theorem dL_isSo_656 : decode cL_isSo 656 = .ok (.aload_n 0, 1) := by decide +kernel
theorem dL_isSo_657 : decode cL_isSo 657 = .ok (.bipush 12, 2) := by decide +kernel
theorem dL_isSo_659 : decode cL_isSo 659 = .ok (.invokestatic 130, 3) := by decide +kernel
theorem dL_isSo_662 : decode cL_isSo 662 = .ok (.aload_n 1, 1) := by decide +kernel
theorem dL_isSo_663 : decode cL_isSo 663 = .ok (.bipush 7, 2) := by decide +kernel
theorem dL_isSo_665 : decode cL_isSo 665 = .ok (.iaload, 1) := by decide +kernel
theorem dL_isSo_666 : decode cL_isSo 666 = .ok (.if_icmp .ne 19, 3) := by decide +kernel
theorem dL_isSo_669 : decode cL_isSo 669 = .ok (.aload_n 0, 1) := by decide +kernel
theorem dL_isSo_670 : decode cL_isSo 670 = .ok (.bipush 13, 2) := by decide +kernel
theorem dL_isSo_672 : decode cL_isSo 672 = .ok (.invokestatic 130, 3) := by decide +kernel
theorem dL_isSo_675 : decode cL_isSo 675 = .ok (.aload_n 1, 1) := by decide +kernel
theorem dL_isSo_676 : decode cL_isSo 676 = .ok (.iconst 5, 1) := by decide +kernel
theorem dL_isSo_677 : decode cL_isSo 677 = .ok (.iaload, 1) := by decide +kernel
theorem dL_isSo_678 : decode cL_isSo 678 = .ok (.if_icmp .ne 7, 3) := by decide +kernel
theorem dL_isSo_681 : decode cL_isSo 681 = .ok (.iconst 1, 1) := by decide +kernel
theorem dL_isSo_682 : decode cL_isSo 682 = .ok (.goto 4, 3) := by decide +kernel
theorem dL_isSo_685 : decode cL_isSo 685 = .ok (.iconst 0, 1) := by decide +kernel
theorem dL_isSo_686 : decode cL_isSo 686 = .ok (.istore 7, 2) := by decide +kernel
theorem dL_isSo_688 : decode cL_isSo 688 = .ok (.aload_n 1, 1) := by decide +kernel
theorem dL_isSo_689 : decode cL_isSo 689 = .ok (.iconst 2, 1) := by decide +kernel
theorem dL_isSo_690 : decode cL_isSo 690 = .ok (.iaload, 1) := by decide +kernel
theorem dL_isSo_691 : decode cL_isSo 691 = .ok (.ifCond .ne 7, 3) := by decide +kernel
theorem dL_isSo_694 : decode cL_isSo 694 = .ok (.dconst 1, 1) := by decide +kernel
theorem dL_isSo_695 : decode cL_isSo 695 = .ok (.goto 17, 3) := by decide +kernel
theorem dL_isSo_698 : decode cL_isSo 698 = .ok (.aload_n 1, 1) := by decide +kernel
theorem dL_isSo_699 : decode cL_isSo 699 = .ok (.iconst 2, 1) := by decide +kernel
theorem dL_isSo_700 : decode cL_isSo 700 = .ok (.iaload, 1) := by decide +kernel
theorem dL_isSo_701 : decode cL_isSo 701 = .ok (.aload_n 1, 1) := by decide +kernel
theorem dL_isSo_702 : decode cL_isSo 702 = .ok (.bipush 6, 2) := by decide +kernel
theorem dL_isSo_704 : decode cL_isSo 704 = .ok (.iaload, 1) := by decide +kernel
theorem dL_isSo_705 : decode cL_isSo 705 = .ok (.isub, 1) := by decide +kernel
theorem dL_isSo_706 : decode cL_isSo 706 = .ok (.i2d, 1) := by decide +kernel
theorem dL_isSo_707 : decode cL_isSo 707 = .ok (.aload_n 1, 1) := by decide +kernel
theorem dL_isSo_708 : decode cL_isSo 708 = .ok (.iconst 2, 1) := by decide +kernel
theorem dL_isSo_709 : decode cL_isSo 709 = .ok (.iaload, 1) := by decide +kernel
theorem dL_isSo_710 : decode cL_isSo 710 = .ok (.i2d, 1) := by decide +kernel
theorem dL_isSo_711 : decode cL_isSo 711 = .ok (.ddiv, 1) := by decide +kernel
theorem dL_isSo_712 : decode cL_isSo 712 = .ok (.dstore 9, 2) := by decide +kernel
theorem dL_isSo_714 : decode cL_isSo 714 = .ok (.iload 7, 2) := by decide +kernel
theorem dL_isSo_716 : decode cL_isSo 716 = .ok (.ifCond .eq 67, 3) := by decide +kernel
theorem dL_isSo_719 : decode cL_isSo 719 = .ok (.aload_n 0, 1) := by decide +kernel
theorem dL_isSo_720 : decode cL_isSo 720 = .ok (.invokevirtual 145, 3) := by decide +kernel
theorem dL_isSo_723 : decode cL_isSo 723 = .ok (.dload 9, 2) := by decide +kernel
theorem dL_isSo_725 : decode cL_isSo 725 = .ok (.dcmp .l, 1) := by decide +kernel
theorem dL_isSo_726 : decode cL_isSo 726 = .ok (.ifCond .ne 57, 3) := by decide +kernel
theorem dL_isSo_729 : decode cL_isSo 729 = .ok (.aload_n 0, 1) := by decide +kernel
theorem dL_isSo_730 : decode cL_isSo 730 = .ok (.aload_n 1, 1) := by decide +kernel
theorem dL_isSo_731 : decode cL_isSo 731 = .ok (.iconst 0, 1) := by decide +kernel
theorem dL_isSo_732 : decode cL_isSo 732 = .ok (.iaload, 1) := by decide +kernel
theorem dL_isSo_733 : decode cL_isSo 733 = .ok (.iconst 0, 1) := by decide +kernel
theorem dL_isSo_734 : decode cL_isSo 734 = .ok (.invokestatic 133, 3) := by decide +kernel
theorem dL_isSo_737 : decode cL_isSo 737 = .ok (.ldc 65, 2) := by decide +kernel
theorem dL_isSo_739 : decode cL_isSo 739 = .ok (.if_icmp .ne 44, 3) := by decide +kernel
theorem dL_isSo_742 : decode cL_isSo 742 = .ok (.aload_n 0, 1) := by decide +kernel
theorem dL_isSo_743 : decode cL_isSo 743 = .ok (.aload_n 1, 1) := by decide +kernel
theorem dL_isSo_744 : decode cL_isSo 744 = .ok (.iconst 1, 1) := by decide +kernel
theorem dL_isSo_745 : decode cL_isSo 745 = .ok (.iaload, 1) := by decide +kernel
theorem dL_isSo_746 : decode cL_isSo 746 = .ok (.iconst 0, 1) := by decide +kernel
theorem dL_isSo_747 : decode cL_isSo 747 = .ok (.invokestatic 139, 3) := by decide +kernel
theorem dL_isSo_750 : decode cL_isSo 750 = .ok (.ldc 65, 2) := by decide +kernel
theorem dL_isSo_752 : decode cL_isSo 752 = .ok (.if_icmp .ne 31, 3) := by decide +kernel
theorem dL_isSo_755 : decode cL_isSo 755 = .ok (.aload_n 0, 1) := by decide +kernel
theorem dL_isSo_756 : decode cL_isSo 756 = .ok (.aload_n 1, 1) := by decide +kernel
theorem dL_isSo_757 : decode cL_isSo 757 = .ok (.bipush 8, 2) := by decide +kernel
theorem dL_isSo_759 : decode cL_isSo 759 = .ok (.iaload, 1) := by decide +kernel
theorem dL_isSo_760 : decode cL_isSo 760 = .ok (.iconst 0, 1) := by decide +kernel
theorem dL_isSo_761 : decode cL_isSo 761 = .ok (.invokestatic 142, 3) := by decide +kernel
theorem dL_isSo_764 : decode cL_isSo 764 = .ok (.ldc 65, 2) := by decide +kernel
theorem dL_isSo_766 : decode cL_isSo 766 = .ok (.if_icmp .ne 17, 3) := by decide +kernel
theorem dL_isSo_769 : decode cL_isSo 769 = .ok (.aload_n 0, 1) := by decide +kernel
theorem dL_isSo_770 : decode cL_isSo 770 = .ok (.iconst (-1), 1) := by decide +kernel
theorem dL_isSo_771 : decode cL_isSo 771 = .ok (.invokestatic 136, 3) := by decide +kernel
theorem dL_isSo_774 : decode cL_isSo 774 = .ok (.ldc 65, 2) := by decide +kernel
theorem dL_isSo_776 : decode cL_isSo 776 = .ok (.if_icmp .ne 7, 3) := by decide +kernel
theorem dL_isSo_779 : decode cL_isSo 779 = .ok (.iconst 1, 1) := by decide +kernel
theorem dL_isSo_780 : decode cL_isSo 780 = .ok (.goto 4, 3) := by decide +kernel
theorem dL_isSo_783 : decode cL_isSo 783 = .ok (.iconst 0, 1) := by decide +kernel
theorem dL_isSo_784 : decode cL_isSo 784 = .ok (.ireturn, 1) := by decide +kernel
