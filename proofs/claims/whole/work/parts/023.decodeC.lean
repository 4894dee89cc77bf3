theorem dX7_init_0 : decode cX7_init 0 = .ok (.aload_n 0, 1) := by decide +kernel
theorem dX7_init_1 : decode cX7_init 1 = .ok (.invokespecial 1, 3) := by decide +kernel
theorem dX7_init_4 : decode cX7_init 4 = .ok (.aload_n 0, 1) := by decide +kernel
theorem dX7_init_5 : decode cX7_init 5 = .ok (.sipush 220, 3) := by decide +kernel
theorem dX7_init_8 : decode cX7_init 8 = .ok (.newarray .int, 2) := by decide +kernel
theorem dX7_init_10 : decode cX7_init 10 = .ok (.putfield 7, 3) := by decide +kernel
theorem dX7_init_13 : decode cX7_init 13 = .ok (.aload_n 0, 1) := by decide +kernel
theorem dX7_init_14 : decode cX7_init 14 = .ok (.sipush 880, 3) := by decide +kernel
theorem dX7_init_17 : decode cX7_init 17 = .ok (.newarray .int, 2) := by decide +kernel
theorem dX7_init_19 : decode cX7_init 19 = .ok (.putfield 13, 3) := by decide +kernel
theorem dX7_init_22 : decode cX7_init 22 = .ok (.aload_n 0, 1) := by decide +kernel
theorem dX7_init_23 : decode cX7_init 23 = .ok (.sipush 220, 3) := by decide +kernel
theorem dX7_init_26 : decode cX7_init 26 = .ok (.newarray .int, 2) := by decide +kernel
theorem dX7_init_28 : decode cX7_init 28 = .ok (.putfield 16, 3) := by decide +kernel
theorem dX7_init_31 : decode cX7_init 31 = .ok (.aload_n 0, 1) := by decide +kernel
theorem dX7_init_32 : decode cX7_init 32 = .ok (.sipush 220, 3) := by decide +kernel
theorem dX7_init_35 : decode cX7_init 35 = .ok (.newarray .int, 2) := by decide +kernel
theorem dX7_init_37 : decode cX7_init 37 = .ok (.putfield 19, 3) := by decide +kernel
theorem dX7_init_40 : decode cX7_init 40 = .ok (.aload_n 0, 1) := by decide +kernel
theorem dX7_init_41 : decode cX7_init 41 = .ok (.bipush 100, 2) := by decide +kernel
theorem dX7_init_43 : decode cX7_init 43 = .ok (.newarray .int, 2) := by decide +kernel
theorem dX7_init_45 : decode cX7_init 45 = .ok (.putfield 22, 3) := by decide +kernel
theorem dX7_init_48 : decode cX7_init 48 = .ok (.aload_n 0, 1) := by decide +kernel
theorem dX7_init_49 : decode cX7_init 49 = .ok (.iconst 0, 1) := by decide +kernel
theorem dX7_init_50 : decode cX7_init 50 = .ok (.putfield 25, 3) := by decide +kernel
theorem dX7_init_53 : decode cX7_init 53 = .ok (.return_, 1) := by decide +kernel
theorem dX7_thrown_0 : decode cX7_thrown 0 = .ok (.aload_n 0, 1) := by decide +kernel
theorem dX7_thrown_1 : decode cX7_thrown 1 = .ok (.getfield 25, 3) := by decide +kernel
theorem dX7_thrown_4 : decode cX7_thrown 4 = .ok (.ireturn, 1) := by decide +kernel
theorem dX7_in_0 : decode cX7_in 0 = .ok (.iload_n 0, 1) := by decide +kernel
theorem dX7_in_1 : decode cX7_in 1 = .ok (.iload_n 1, 1) := by decide +kernel
theorem dX7_in_2 : decode cX7_in 2 = .ok (.if_icmp .lt 12, 3) := by decide +kernel
theorem dX7_in_5 : decode cX7_in 5 = .ok (.iload_n 0, 1) := by decide +kernel
theorem dX7_in_6 : decode cX7_in 6 = .ok (.iload_n 2, 1) := by decide +kernel
theorem dX7_in_7 : decode cX7_in 7 = .ok (.if_icmp .gt 7, 3) := by decide +kernel
theorem dX7_in_10 : decode cX7_in 10 = .ok (.iconst 1, 1) := by decide +kernel
theorem dX7_in_11 : decode cX7_in 11 = .ok (.goto 4, 3) := by decide +kernel
theorem dX7_in_14 : decode cX7_in 14 = .ok (.iconst 0, 1) := by decide +kernel
theorem dX7_in_15 : decode cX7_in 15 = .ok (.ireturn, 1) := by decide +kernel
theorem dX7_fails_0 : decode cX7_fails 0 = .ok (.aload_n 0, 1) := by decide +kernel
theorem dX7_fails_1 : decode cX7_fails 1 = .ok (.iload_n 1, 1) := by decide +kernel
theorem dX7_fails_2 : decode cX7_fails 2 = .ok (.putfield 25, 3) := by decide +kernel
theorem dX7_fails_5 : decode cX7_fails 5 = .ok (.iconst 0, 1) := by decide +kernel
theorem dX7_fails_6 : decode cX7_fails 6 = .ok (.ireturn, 1) := by decide +kernel
theorem dX7_tells_0 : decode cX7_tells 0 = .ok (.aload_n 0, 1) := by decide +kernel
theorem dX7_tells_1 : decode cX7_tells 1 = .ok (.iconst 0, 1) := by decide +kernel
theorem dX7_tells_2 : decode cX7_tells 2 = .ok (.putfield 25, 3) := by decide +kernel
theorem dX7_tells_5 : decode cX7_tells 5 = .ok (.iload_n 1, 1) := by decide +kernel
theorem dX7_tells_6 : decode cX7_tells 6 = .ok (.ireturn, 1) := by decide +kernel
theorem dX7_copies_0 : decode cX7_copies 0 = .ok (.iconst 0, 1) := by decide +kernel
theorem dX7_copies_1 : decode cX7_copies 1 = .ok (.istore_n 2, 1) := by decide +kernel
theorem dX7_copies_2 : decode cX7_copies 2 = .ok (.iload_n 2, 1) := by decide +kernel
theorem dX7_copies_3 : decode cX7_copies 3 = .ok (.sipush 220, 3) := by decide +kernel
theorem dX7_copies_6 : decode cX7_copies 6 = .ok (.if_icmp .ge 15, 3) := by decide +kernel
theorem dX7_copies_9 : decode cX7_copies 9 = .ok (.aload_n 1, 1) := by decide +kernel
theorem dX7_copies_10 : decode cX7_copies 10 = .ok (.iload_n 2, 1) := by decide +kernel
theorem dX7_copies_11 : decode cX7_copies 11 = .ok (.aload_n 0, 1) := by decide +kernel
theorem dX7_copies_12 : decode cX7_copies 12 = .ok (.iload_n 2, 1) := by decide +kernel
theorem dX7_copies_13 : decode cX7_copies 13 = .ok (.iaload, 1) := by decide +kernel
theorem dX7_copies_14 : decode cX7_copies 14 = .ok (.iastore, 1) := by decide +kernel
theorem dX7_copies_15 : decode cX7_copies 15 = .ok (.iinc 2 1, 3) := by decide +kernel
theorem dX7_copies_18 : decode cX7_copies 18 = .ok (.goto (-16), 3) := by decide +kernel
theorem dX7_copies_21 : decode cX7_copies 21 = .ok (.return_, 1) := by decide +kernel
theorem dX7_save_0 : decode cX7_save 0 = .ok (.aload_n 0, 1) := by decide +kernel
theorem dX7_save_1 : decode cX7_save 1 = .ok (.iconst 0, 1) := by decide +kernel
theorem dX7_save_2 : decode cX7_save 2 = .ok (.putfield 25, 3) := by decide +kernel
theorem dX7_save_5 : decode cX7_save 5 = .ok (.aload_n 0, 1) := by decide +kernel
theorem dX7_save_6 : decode cX7_save 6 = .ok (.getfield 29, 3) := by decide +kernel
theorem dX7_save_9 : decode cX7_save 9 = .ok (.iconst 4, 1) := by decide +kernel
theorem dX7_save_10 : decode cX7_save 10 = .ok (.if_icmp .ne 44, 3) := by decide +kernel
theorem dX7_save_13 : decode cX7_save 13 = .ok (.iconst 0, 1) := by decide +kernel
theorem dX7_save_14 : decode cX7_save 14 = .ok (.istore_n 1, 1) := by decide +kernel
theorem dX7_save_15 : decode cX7_save 15 = .ok (.iload_n 1, 1) := by decide +kernel
theorem dX7_save_16 : decode cX7_save 16 = .ok (.sipush 660, 3) := by decide +kernel
theorem dX7_save_19 : decode cX7_save 19 = .ok (.if_icmp .ge 25, 3) := by decide +kernel
theorem dX7_save_22 : decode cX7_save 22 = .ok (.aload_n 0, 1) := by decide +kernel
theorem dX7_save_23 : decode cX7_save 23 = .ok (.getfield 13, 3) := by decide +kernel
theorem dX7_save_26 : decode cX7_save 26 = .ok (.iload_n 1, 1) := by decide +kernel
theorem dX7_save_27 : decode cX7_save 27 = .ok (.aload_n 0, 1) := by decide +kernel
theorem dX7_save_28 : decode cX7_save 28 = .ok (.getfield 13, 3) := by decide +kernel
theorem dX7_save_31 : decode cX7_save 31 = .ok (.iload_n 1, 1) := by decide +kernel
theorem dX7_save_32 : decode cX7_save 32 = .ok (.sipush 220, 3) := by decide +kernel
theorem dX7_save_35 : decode cX7_save 35 = .ok (.iadd, 1) := by decide +kernel
theorem dX7_save_36 : decode cX7_save 36 = .ok (.iaload, 1) := by decide +kernel
theorem dX7_save_37 : decode cX7_save 37 = .ok (.iastore, 1) := by decide +kernel
theorem dX7_save_38 : decode cX7_save 38 = .ok (.iinc 1 1, 3) := by decide +kernel
theorem dX7_save_41 : decode cX7_save 41 = .ok (.goto (-26), 3) := by decide +kernel
theorem dX7_save_44 : decode cX7_save 44 = .ok (.aload_n 0, 1) := by decide +kernel
theorem dX7_save_45 : decode cX7_save 45 = .ok (.dup, 1) := by decide +kernel
theorem dX7_save_46 : decode cX7_save 46 = .ok (.getfield 29, 3) := by decide +kernel
theorem dX7_save_49 : decode cX7_save 49 = .ok (.iconst 1, 1) := by decide +kernel
theorem dX7_save_50 : decode cX7_save 50 = .ok (.isub, 1) := by decide +kernel
theorem dX7_save_51 : decode cX7_save 51 = .ok (.putfield 29, 3) := by decide +kernel
theorem dX7_save_54 : decode cX7_save 54 = .ok (.iconst 0, 1) := by decide +kernel
theorem dX7_save_55 : decode cX7_save 55 = .ok (.istore_n 1, 1) := by decide +kernel
theorem dX7_save_56 : decode cX7_save 56 = .ok (.iload_n 1, 1) := by decide +kernel
theorem dX7_save_57 : decode cX7_save 57 = .ok (.sipush 220, 3) := by decide +kernel
theorem dX7_save_60 : decode cX7_save 60 = .ok (.if_icmp .ge 30, 3) := by decide +kernel
theorem dX7_save_63 : decode cX7_save 63 = .ok (.aload_n 0, 1) := by decide +kernel
theorem dX7_save_64 : decode cX7_save 64 = .ok (.getfield 13, 3) := by decide +kernel
theorem dX7_save_67 : decode cX7_save 67 = .ok (.sipush 220, 3) := by decide +kernel
theorem dX7_save_70 : decode cX7_save 70 = .ok (.aload_n 0, 1) := by decide +kernel
theorem dX7_save_71 : decode cX7_save 71 = .ok (.getfield 29, 3) := by decide +kernel
theorem dX7_save_74 : decode cX7_save 74 = .ok (.imul, 1) := by decide +kernel
theorem dX7_save_75 : decode cX7_save 75 = .ok (.iload_n 1, 1) := by decide +kernel
theorem dX7_save_76 : decode cX7_save 76 = .ok (.iadd, 1) := by decide +kernel
theorem dX7_save_77 : decode cX7_save 77 = .ok (.aload_n 0, 1) := by decide +kernel
theorem dX7_save_78 : decode cX7_save 78 = .ok (.getfield 7, 3) := by decide +kernel
theorem dX7_save_81 : decode cX7_save 81 = .ok (.iload_n 1, 1) := by decide +kernel
theorem dX7_save_82 : decode cX7_save 82 = .ok (.iaload, 1) := by decide +kernel
theorem dX7_save_83 : decode cX7_save 83 = .ok (.iastore, 1) := by decide +kernel
theorem dX7_save_84 : decode cX7_save 84 = .ok (.iinc 1 1, 3) := by decide +kernel
theorem dX7_save_87 : decode cX7_save 87 = .ok (.goto (-31), 3) := by decide +kernel
theorem dX7_save_90 : decode cX7_save 90 = .ok (.aload_n 0, 1) := by decide +kernel
theorem dX7_save_91 : decode cX7_save 91 = .ok (.dup, 1) := by decide +kernel
theorem dX7_save_92 : decode cX7_save 92 = .ok (.getfield 29, 3) := by decide +kernel
theorem dX7_save_95 : decode cX7_save 95 = .ok (.iconst 1, 1) := by decide +kernel
theorem dX7_save_96 : decode cX7_save 96 = .ok (.iadd, 1) := by decide +kernel
theorem dX7_save_97 : decode cX7_save 97 = .ok (.putfield 29, 3) := by decide +kernel
theorem dX7_save_100 : decode cX7_save 100 = .ok (.return_, 1) := by decide +kernel
theorem dX7_isElement_0 : decode cX7_isElement 0 = .ok (.iload_n 1, 1) := by decide +kernel
theorem dX7_isElement_1 : decode cX7_isElement 1 = .ok (.ifCond .lt 18, 3) := by decide +kernel
theorem dX7_isElement_4 : decode cX7_isElement 4 = .ok (.iload_n 1, 1) := by decide +kernel
theorem dX7_isElement_5 : decode cX7_isElement 5 = .ok (.aload_n 0, 1) := by decide +kernel
theorem dX7_isElement_6 : decode cX7_isElement 6 = .ok (.getfield 7, 3) := by decide +kernel
theorem dX7_isElement_9 : decode cX7_isElement 9 = .ok (.bipush 7, 2) := by decide +kernel
theorem dX7_isElement_11 : decode cX7_isElement 11 = .ok (.iaload, 1) := by decide +kernel
theorem dX7_isElement_12 : decode cX7_isElement 12 = .ok (.if_icmp .ge 7, 3) := by decide +kernel
theorem dX7_isElement_15 : decode cX7_isElement 15 = .ok (.iconst 1, 1) := by decide +kernel
theorem dX7_isElement_16 : decode cX7_isElement 16 = .ok (.goto 4, 3) := by decide +kernel
theorem dX7_isElement_19 : decode cX7_isElement 19 = .ok (.iconst 0, 1) := by decide +kernel
theorem dX7_isElement_20 : decode cX7_isElement 20 = .ok (.ireturn, 1) := by decide +kernel
theorem dX7_isFiller_0 : decode cX7_isFiller 0 = .ok (.iload_n 1, 1) := by decide +kernel
theorem dX7_isFiller_1 : decode cX7_isFiller 1 = .ok (.ifCond .lt 18, 3) := by decide +kernel
theorem dX7_isFiller_4 : decode cX7_isFiller 4 = .ok (.iload_n 1, 1) := by decide +kernel
theorem dX7_isFiller_5 : decode cX7_isFiller 5 = .ok (.aload_n 0, 1) := by decide +kernel
theorem dX7_isFiller_6 : decode cX7_isFiller 6 = .ok (.getfield 7, 3) := by decide +kernel
theorem dX7_isFiller_9 : decode cX7_isFiller 9 = .ok (.bipush 8, 2) := by decide +kernel
theorem dX7_isFiller_11 : decode cX7_isFiller 11 = .ok (.iaload, 1) := by decide +kernel
theorem dX7_isFiller_12 : decode cX7_isFiller 12 = .ok (.if_icmp .ge 7, 3) := by decide +kernel
theorem dX7_isFiller_15 : decode cX7_isFiller 15 = .ok (.iconst 1, 1) := by decide +kernel
theorem dX7_isFiller_16 : decode cX7_isFiller 16 = .ok (.goto 4, 3) := by decide +kernel
theorem dX7_isFiller_19 : decode cX7_isFiller 19 = .ok (.iconst 0, 1) := by decide +kernel
theorem dX7_isFiller_20 : decode cX7_isFiller 20 = .ok (.ireturn, 1) := by decide +kernel
theorem dX7_of_0 : decode cX7_of 0 = .ok (.aload_n 0, 1) := by decide +kernel
theorem dX7_of_1 : decode cX7_of 1 = .ok (.getfield 7, 3) := by decide +kernel
theorem dX7_of_4 : decode cX7_of 4 = .ok (.bipush 10, 2) := by decide +kernel
theorem dX7_of_6 : decode cX7_of 6 = .ok (.iconst 5, 1) := by decide +kernel
theorem dX7_of_7 : decode cX7_of 7 = .ok (.iload_n 1, 1) := by decide +kernel
theorem dX7_of_8 : decode cX7_of 8 = .ok (.imul, 1) := by decide +kernel
theorem dX7_of_9 : decode cX7_of 9 = .ok (.iadd, 1) := by decide +kernel
theorem dX7_of_10 : decode cX7_of 10 = .ok (.iload_n 2, 1) := by decide +kernel
theorem dX7_of_11 : decode cX7_of 11 = .ok (.iadd, 1) := by decide +kernel
theorem dX7_of_12 : decode cX7_of 12 = .ok (.iaload, 1) := by decide +kernel
theorem dX7_of_13 : decode cX7_of 13 = .ok (.ireturn, 1) := by decide +kernel
theorem dX7_ofFiller_0 : decode cX7_ofFiller 0 = .ok (.aload_n 0, 1) := by decide +kernel
theorem dX7_ofFiller_1 : decode cX7_ofFiller 1 = .ok (.getfield 7, 3) := by decide +kernel
theorem dX7_ofFiller_4 : decode cX7_ofFiller 4 = .ok (.bipush 70, 2) := by decide +kernel
theorem dX7_ofFiller_6 : decode cX7_ofFiller 6 = .ok (.iconst 3, 1) := by decide +kernel
theorem dX7_ofFiller_7 : decode cX7_ofFiller 7 = .ok (.iload_n 1, 1) := by decide +kernel
theorem dX7_ofFiller_8 : decode cX7_ofFiller 8 = .ok (.imul, 1) := by decide +kernel
theorem dX7_ofFiller_9 : decode cX7_ofFiller 9 = .ok (.iadd, 1) := by decide +kernel
theorem dX7_ofFiller_10 : decode cX7_ofFiller 10 = .ok (.iload_n 2, 1) := by decide +kernel
theorem dX7_ofFiller_11 : decode cX7_ofFiller 11 = .ok (.iadd, 1) := by decide +kernel
theorem dX7_ofFiller_12 : decode cX7_ofFiller 12 = .ok (.iaload, 1) := by decide +kernel
theorem dX7_ofFiller_13 : decode cX7_ofFiller 13 = .ok (.ireturn, 1) := by decide +kernel
theorem dX7_waits_0 : decode cX7_waits 0 = .ok (.aload_n 0, 1) := by decide +kernel
theorem dX7_waits_1 : decode cX7_waits 1 = .ok (.iload_n 1, 1) := by decide +kernel
theorem dX7_waits_2 : decode cX7_waits 2 = .ok (.iconst 3, 1) := by decide +kernel
theorem dX7_waits_3 : decode cX7_waits 3 = .ok (.invokevirtual 32, 3) := by decide +kernel
theorem dX7_waits_6 : decode cX7_waits 6 = .ok (.ifCond .ne 7, 3) := by decide +kernel
theorem dX7_waits_9 : decode cX7_waits 9 = .ok (.iconst 1, 1) := by decide +kernel
theorem dX7_waits_10 : decode cX7_waits 10 = .ok (.goto 4, 3) := by decide +kernel
theorem dX7_waits_13 : decode cX7_waits 13 = .ok (.iconst 0, 1) := by decide +kernel
theorem dX7_waits_14 : decode cX7_waits 14 = .ok (.ireturn, 1) := by decide +kernel
theorem dX7_isFixed_0 : decode cX7_isFixed 0 = .ok (.aload_n 0, 1) := by decide +kernel
theorem dX7_isFixed_1 : decode cX7_isFixed 1 = .ok (.iload_n 1, 1) := by decide +kernel
theorem dX7_isFixed_2 : decode cX7_isFixed 2 = .ok (.iconst 1, 1) := by decide +kernel
theorem dX7_isFixed_3 : decode cX7_isFixed 3 = .ok (.invokevirtual 32, 3) := by decide +kernel
theorem dX7_isFixed_6 : decode cX7_isFixed 6 = .ok (.iconst (-1), 1) := by decide +kernel
theorem dX7_isFixed_7 : decode cX7_isFixed 7 = .ok (.if_icmp .eq 7, 3) := by decide +kernel
theorem dX7_isFixed_10 : decode cX7_isFixed 10 = .ok (.iconst 1, 1) := by decide +kernel
theorem dX7_isFixed_11 : decode cX7_isFixed 11 = .ok (.goto 4, 3) := by decide +kernel
theorem dX7_isFixed_14 : decode cX7_isFixed 14 = .ok (.iconst 0, 1) := by decide +kernel
theorem dX7_isFixed_15 : decode cX7_isFixed 15 = .ok (.ireturn, 1) := by decide +kernel
theorem dX7_nextFixed_0 : decode cX7_nextFixed 0 = .ok (.iload_n 1, 1) := by decide +kernel
theorem dX7_nextFixed_1 : decode cX7_nextFixed 1 = .ok (.istore_n 2, 1) := by decide +kernel
theorem dX7_nextFixed_2 : decode cX7_nextFixed 2 = .ok (.iload_n 2, 1) := by decide +kernel
theorem dX7_nextFixed_3 : decode cX7_nextFixed 3 = .ok (.aload_n 0, 1) := by decide +kernel
theorem dX7_nextFixed_4 : decode cX7_nextFixed 4 = .ok (.getfield 7, 3) := by decide +kernel
theorem dX7_nextFixed_7 : decode cX7_nextFixed 7 = .ok (.bipush 7, 2) := by decide +kernel
theorem dX7_nextFixed_9 : decode cX7_nextFixed 9 = .ok (.iaload, 1) := by decide +kernel
theorem dX7_nextFixed_10 : decode cX7_nextFixed 10 = .ok (.if_icmp .ge 25, 3) := by decide +kernel
theorem dX7_nextFixed_13 : decode cX7_nextFixed 13 = .ok (.aload_n 0, 1) := by decide +kernel
theorem dX7_nextFixed_14 : decode cX7_nextFixed 14 = .ok (.iload_n 2, 1) := by decide +kernel
theorem dX7_nextFixed_15 : decode cX7_nextFixed 15 = .ok (.invokevirtual 36, 3) := by decide +kernel
theorem dX7_nextFixed_18 : decode cX7_nextFixed 18 = .ok (.ifCond .eq 11, 3) := by decide +kernel
theorem dX7_nextFixed_21 : decode cX7_nextFixed 21 = .ok (.aload_n 0, 1) := by decide +kernel
theorem dX7_nextFixed_22 : decode cX7_nextFixed 22 = .ok (.iload_n 2, 1) := by decide +kernel
theorem dX7_nextFixed_23 : decode cX7_nextFixed 23 = .ok (.invokevirtual 40, 3) := by decide +kernel
theorem dX7_nextFixed_26 : decode cX7_nextFixed 26 = .ok (.ifCond .ne 9, 3) := by decide +kernel
theorem dX7_nextFixed_29 : decode cX7_nextFixed 29 = .ok (.iinc 2 1, 3) := by decide +kernel
theorem dX7_nextFixed_32 : decode cX7_nextFixed 32 = .ok (.goto (-30), 3) := by decide +kernel
theorem dX7_nextFixed_35 : decode cX7_nextFixed 35 = .ok (.iload_n 2, 1) := by decide +kernel
theorem dX7_nextFixed_36 : decode cX7_nextFixed 36 = .ok (.ireturn, 1) := by decide +kernel
theorem dX7_timeAt_0 : decode cX7_timeAt 0 = .ok (.iload_n 1, 1) := by decide +kernel
theorem dX7_timeAt_1 : decode cX7_timeAt 1 = .ok (.aload_n 0, 1) := by decide +kernel
theorem dX7_timeAt_2 : decode cX7_timeAt 2 = .ok (.getfield 7, 3) := by decide +kernel
theorem dX7_timeAt_5 : decode cX7_timeAt 5 = .ok (.bipush 7, 2) := by decide +kernel
theorem dX7_timeAt_7 : decode cX7_timeAt 7 = .ok (.iaload, 1) := by decide +kernel
theorem dX7_timeAt_8 : decode cX7_timeAt 8 = .ok (.if_icmp .ne 9, 3) := by decide +kernel
theorem dX7_timeAt_11 : decode cX7_timeAt 11 = .ok (.sipush 3600, 3) := by decide +kernel
theorem dX7_timeAt_14 : decode cX7_timeAt 14 = .ok (.goto 9, 3) := by decide +kernel
theorem dX7_timeAt_17 : decode cX7_timeAt 17 = .ok (.aload_n 0, 1) := by decide +kernel
theorem dX7_timeAt_18 : decode cX7_timeAt 18 = .ok (.iload_n 1, 1) := by decide +kernel
theorem dX7_timeAt_19 : decode cX7_timeAt 19 = .ok (.iconst 1, 1) := by decide +kernel
theorem dX7_timeAt_20 : decode cX7_timeAt 20 = .ok (.invokevirtual 32, 3) := by decide +kernel
theorem dX7_timeAt_23 : decode cX7_timeAt 23 = .ok (.ireturn, 1) := by decide +kernel
theorem dX7_goal_0 : decode cX7_goal 0 = .ok (.aload_n 0, 1) := by decide +kernel
theorem dX7_goal_1 : decode cX7_goal 1 = .ok (.aload_n 0, 1) := by decide +kernel
theorem dX7_goal_2 : decode cX7_goal 2 = .ok (.iconst 0, 1) := by decide +kernel
theorem dX7_goal_3 : decode cX7_goal 3 = .ok (.invokevirtual 43, 3) := by decide +kernel
theorem dX7_goal_6 : decode cX7_goal 6 = .ok (.invokevirtual 47, 3) := by decide +kernel
theorem dX7_goal_9 : decode cX7_goal 9 = .ok (.ireturn, 1) := by decide +kernel
theorem dX7_isInSection_0 : decode cX7_isInSection 0 = .ok (.aload_n 0, 1) := by decide +kernel
theorem dX7_isInSection_1 : decode cX7_isInSection 1 = .ok (.iload_n 1, 1) := by decide +kernel
theorem dX7_isInSection_2 : decode cX7_isInSection 2 = .ok (.invokevirtual 36, 3) := by decide +kernel
theorem dX7_isInSection_5 : decode cX7_isInSection 5 = .ok (.ifCond .eq 16, 3) := by decide +kernel
theorem dX7_isInSection_8 : decode cX7_isInSection 8 = .ok (.iload_n 1, 1) := by decide +kernel
theorem dX7_isInSection_9 : decode cX7_isInSection 9 = .ok (.aload_n 0, 1) := by decide +kernel
theorem dX7_isInSection_10 : decode cX7_isInSection 10 = .ok (.iconst 0, 1) := by decide +kernel
theorem dX7_isInSection_11 : decode cX7_isInSection 11 = .ok (.invokevirtual 43, 3) := by decide +kernel
theorem dX7_isInSection_14 : decode cX7_isInSection 14 = .ok (.if_icmp .ge 7, 3) := by decide +kernel
theorem dX7_isInSection_17 : decode cX7_isInSection 17 = .ok (.iconst 1, 1) := by decide +kernel
theorem dX7_isInSection_18 : decode cX7_isInSection 18 = .ok (.goto 4, 3) := by decide +kernel
theorem dX7_isInSection_21 : decode cX7_isInSection 21 = .ok (.iconst 0, 1) := by decide +kernel
theorem dX7_isInSection_22 : decode cX7_isInSection 22 = .ok (.ireturn, 1) := by decide +kernel
theorem dX7_sectionLength_0 : decode cX7_sectionLength 0 = .ok (.iconst 0, 1) := by decide +kernel
theorem dX7_sectionLength_1 : decode cX7_sectionLength 1 = .ok (.istore_n 2, 1) := by decide +kernel
theorem dX7_sectionLength_2 : decode cX7_sectionLength 2 = .ok (.iconst 0, 1) := by decide +kernel
theorem dX7_sectionLength_3 : decode cX7_sectionLength 3 = .ok (.istore_n 3, 1) := by decide +kernel
theorem dX7_sectionLength_4 : decode cX7_sectionLength 4 = .ok (.iload_n 3, 1) := by decide +kernel
theorem dX7_sectionLength_5 : decode cX7_sectionLength 5 = .ok (.iload_n 1, 1) := by decide +kernel
theorem dX7_sectionLength_6 : decode cX7_sectionLength 6 = .ok (.if_icmp .ge 30, 3) := by decide +kernel
theorem dX7_sectionLength_9 : decode cX7_sectionLength 9 = .ok (.iload_n 2, 1) := by decide +kernel
theorem dX7_sectionLength_10 : decode cX7_sectionLength 10 = .ok (.aload_n 0, 1) := by decide +kernel
theorem dX7_sectionLength_11 : decode cX7_sectionLength 11 = .ok (.iload_n 3, 1) := by decide +kernel
theorem dX7_sectionLength_12 : decode cX7_sectionLength 12 = .ok (.invokevirtual 36, 3) := by decide +kernel
theorem dX7_sectionLength_15 : decode cX7_sectionLength 15 = .ok (.ifCond .eq 12, 3) := by decide +kernel
theorem dX7_sectionLength_18 : decode cX7_sectionLength 18 = .ok (.aload_n 0, 1) := by decide +kernel
theorem dX7_sectionLength_19 : decode cX7_sectionLength 19 = .ok (.iload_n 3, 1) := by decide +kernel
theorem dX7_sectionLength_20 : decode cX7_sectionLength 20 = .ok (.iconst 0, 1) := by decide +kernel
theorem dX7_sectionLength_21 : decode cX7_sectionLength 21 = .ok (.invokevirtual 32, 3) := by decide +kernel
theorem dX7_sectionLength_24 : decode cX7_sectionLength 24 = .ok (.goto 4, 3) := by decide +kernel
theorem dX7_sectionLength_27 : decode cX7_sectionLength 27 = .ok (.iconst 0, 1) := by decide +kernel
theorem dX7_sectionLength_28 : decode cX7_sectionLength 28 = .ok (.iadd, 1) := by decide +kernel
theorem dX7_sectionLength_29 : decode cX7_sectionLength 29 = .ok (.istore_n 2, 1) := by decide +kernel
theorem dX7_sectionLength_30 : decode cX7_sectionLength 30 = .ok (.iinc 3 1, 3) := by decide +kernel
theorem dX7_sectionLength_33 : decode cX7_sectionLength 33 = .ok (.goto (-29), 3) := by decide +kernel
theorem dX7_sectionLength_36 : decode cX7_sectionLength 36 = .ok (.iload_n 2, 1) := by decide +kernel
theorem dX7_sectionLength_37 : decode cX7_sectionLength 37 = .ok (.ireturn, 1) := by decide +kernel
theorem dX7_lowest_0 : decode cX7_lowest 0 = .ok (.iconst (-1), 1) := by decide +kernel
theorem dX7_lowest_1 : decode cX7_lowest 1 = .ok (.istore_n 2, 1) := by decide +kernel
theorem dX7_lowest_2 : decode cX7_lowest 2 = .ok (.iconst 0, 1) := by decide +kernel
theorem dX7_lowest_3 : decode cX7_lowest 3 = .ok (.istore_n 3, 1) := by decide +kernel
theorem dX7_lowest_4 : decode cX7_lowest 4 = .ok (.iload_n 3, 1) := by decide +kernel
theorem dX7_lowest_5 : decode cX7_lowest 5 = .ok (.iload_n 1, 1) := by decide +kernel
theorem dX7_lowest_6 : decode cX7_lowest 6 = .ok (.if_icmp .ge 66, 3) := by decide +kernel
theorem dX7_lowest_9 : decode cX7_lowest 9 = .ok (.aload_n 0, 1) := by decide +kernel
theorem dX7_lowest_10 : decode cX7_lowest 10 = .ok (.iload_n 3, 1) := by decide +kernel
theorem dX7_lowest_11 : decode cX7_lowest 11 = .ok (.invokevirtual 36, 3) := by decide +kernel
theorem dX7_lowest_14 : decode cX7_lowest 14 = .ok (.ifCond .eq 18, 3) := by decide +kernel
theorem dX7_lowest_17 : decode cX7_lowest 17 = .ok (.aload_n 0, 1) := by decide +kernel
theorem dX7_lowest_18 : decode cX7_lowest 18 = .ok (.iload_n 3, 1) := by decide +kernel
theorem dX7_lowest_19 : decode cX7_lowest 19 = .ok (.iconst 2, 1) := by decide +kernel
theorem dX7_lowest_20 : decode cX7_lowest 20 = .ok (.invokevirtual 32, 3) := by decide +kernel
theorem dX7_lowest_23 : decode cX7_lowest 23 = .ok (.bipush 9, 2) := by decide +kernel
theorem dX7_lowest_25 : decode cX7_lowest 25 = .ok (.if_icmp .ge 7, 3) := by decide +kernel
theorem dX7_lowest_28 : decode cX7_lowest 28 = .ok (.iconst 1, 1) := by decide +kernel
theorem dX7_lowest_29 : decode cX7_lowest 29 = .ok (.goto 4, 3) := by decide +kernel
theorem dX7_lowest_32 : decode cX7_lowest 32 = .ok (.iconst 0, 1) := by decide +kernel
theorem dX7_lowest_33 : decode cX7_lowest 33 = .ok (.istore 4, 2) := by decide +kernel
theorem dX7_lowest_35 : decode cX7_lowest 35 = .ok (.iload 4, 2) := by decide +kernel
theorem dX7_lowest_37 : decode cX7_lowest 37 = .ok (.ifCond .eq 27, 3) := by decide +kernel
theorem dX7_lowest_40 : decode cX7_lowest 40 = .ok (.iload_n 2, 1) := by decide +kernel
theorem dX7_lowest_41 : decode cX7_lowest 41 = .ok (.iconst (-1), 1) := by decide +kernel
theorem dX7_lowest_42 : decode cX7_lowest 42 = .ok (.if_icmp .eq 18, 3) := by decide +kernel
theorem dX7_lowest_45 : decode cX7_lowest 45 = .ok (.aload_n 0, 1) := by decide +kernel
theorem dX7_lowest_46 : decode cX7_lowest 46 = .ok (.iload_n 3, 1) := by decide +kernel
theorem dX7_lowest_47 : decode cX7_lowest 47 = .ok (.iconst 2, 1) := by decide +kernel
theorem dX7_lowest_48 : decode cX7_lowest 48 = .ok (.invokevirtual 32, 3) := by decide +kernel
theorem dX7_lowest_51 : decode cX7_lowest 51 = .ok (.aload_n 0, 1) := by decide +kernel
theorem dX7_lowest_52 : decode cX7_lowest 52 = .ok (.iload_n 2, 1) := by decide +kernel
theorem dX7_lowest_53 : decode cX7_lowest 53 = .ok (.iconst 2, 1) := by decide +kernel
theorem dX7_lowest_54 : decode cX7_lowest 54 = .ok (.invokevirtual 32, 3) := by decide +kernel
theorem dX7_lowest_57 : decode cX7_lowest 57 = .ok (.if_icmp .gt 7, 3) := by decide +kernel
theorem dX7_lowest_60 : decode cX7_lowest 60 = .ok (.iload_n 3, 1) := by decide +kernel
theorem dX7_lowest_61 : decode cX7_lowest 61 = .ok (.goto 4, 3) := by decide +kernel
theorem dX7_lowest_64 : decode cX7_lowest 64 = .ok (.iload_n 2, 1) := by decide +kernel
theorem dX7_lowest_65 : decode cX7_lowest 65 = .ok (.istore_n 2, 1) := by decide +kernel
theorem dX7_lowest_66 : decode cX7_lowest 66 = .ok (.iinc 3 1, 3) := by decide +kernel
theorem dX7_lowest_69 : decode cX7_lowest 69 = .ok (.goto (-65), 3) := by decide +kernel
theorem dX7_lowest_72 : decode cX7_lowest 72 = .ok (.iload_n 2, 1) := by decide +kernel
theorem dX7_lowest_73 : decode cX7_lowest 73 = .ok (.ireturn, 1) := by decide +kernel
theorem dX7_firstWaiting_0 : decode cX7_firstWaiting 0 = .ok (.iconst 0, 1) := by decide +kernel
theorem dX7_firstWaiting_1 : decode cX7_firstWaiting 1 = .ok (.istore_n 2, 1) := by decide +kernel
theorem dX7_firstWaiting_2 : decode cX7_firstWaiting 2 = .ok (.iload_n 2, 1) := by decide +kernel
theorem dX7_firstWaiting_3 : decode cX7_firstWaiting 3 = .ok (.iload_n 1, 1) := by decide +kernel
theorem dX7_firstWaiting_4 : decode cX7_firstWaiting 4 = .ok (.if_icmp .ge 17, 3) := by decide +kernel
theorem dX7_firstWaiting_7 : decode cX7_firstWaiting 7 = .ok (.aload_n 0, 1) := by decide +kernel
theorem dX7_firstWaiting_8 : decode cX7_firstWaiting 8 = .ok (.iload_n 2, 1) := by decide +kernel
theorem dX7_firstWaiting_9 : decode cX7_firstWaiting 9 = .ok (.invokevirtual 36, 3) := by decide +kernel
theorem dX7_firstWaiting_12 : decode cX7_firstWaiting 12 = .ok (.ifCond .ne 9, 3) := by decide +kernel
theorem dX7_firstWaiting_15 : decode cX7_firstWaiting 15 = .ok (.iinc 2 1, 3) := by decide +kernel
theorem dX7_firstWaiting_18 : decode cX7_firstWaiting 18 = .ok (.goto (-16), 3) := by decide +kernel
theorem dX7_firstWaiting_21 : decode cX7_firstWaiting 21 = .ok (.iload_n 2, 1) := by decide +kernel
theorem dX7_firstWaiting_22 : decode cX7_firstWaiting 22 = .ok (.iload_n 1, 1) := by decide +kernel
theorem dX7_firstWaiting_23 : decode cX7_firstWaiting 23 = .ok (.if_icmp .ne 7, 3) := by decide +kernel
theorem dX7_firstWaiting_26 : decode cX7_firstWaiting 26 = .ok (.iconst (-1), 1) := by decide +kernel
theorem dX7_firstWaiting_27 : decode cX7_firstWaiting 27 = .ok (.goto 4, 3) := by decide +kernel
theorem dX7_firstWaiting_30 : decode cX7_firstWaiting 30 = .ok (.iload_n 2, 1) := by decide +kernel
theorem dX7_firstWaiting_31 : decode cX7_firstWaiting 31 = .ok (.ireturn, 1) := by decide +kernel
theorem dX7_logs_0 : decode cX7_logs 0 = .ok (.bipush 100, 2) := by decide +kernel
theorem dX7_logs_2 : decode cX7_logs 2 = .ok (.iconst 3, 1) := by decide +kernel
theorem dX7_logs_3 : decode cX7_logs 3 = .ok (.aload_n 0, 1) := by decide +kernel
theorem dX7_logs_4 : decode cX7_logs 4 = .ok (.getfield 7, 3) := by decide +kernel
theorem dX7_logs_7 : decode cX7_logs 7 = .ok (.bipush 9, 2) := by decide +kernel
theorem dX7_logs_9 : decode cX7_logs 9 = .ok (.iaload, 1) := by decide +kernel
theorem dX7_logs_10 : decode cX7_logs 10 = .ok (.imul, 1) := by decide +kernel
theorem dX7_logs_11 : decode cX7_logs 11 = .ok (.iadd, 1) := by decide +kernel
theorem dX7_logs_12 : decode cX7_logs 12 = .ok (.istore_n 3, 1) := by decide +kernel
theorem dX7_logs_13 : decode cX7_logs 13 = .ok (.aload_n 0, 1) := by decide +kernel
theorem dX7_logs_14 : decode cX7_logs 14 = .ok (.getfield 7, 3) := by decide +kernel
theorem dX7_logs_17 : decode cX7_logs 17 = .ok (.iload_n 3, 1) := by decide +kernel
theorem dX7_logs_18 : decode cX7_logs 18 = .ok (.aload_n 0, 1) := by decide +kernel
theorem dX7_logs_19 : decode cX7_logs 19 = .ok (.getfield 7, 3) := by decide +kernel
theorem dX7_logs_22 : decode cX7_logs 22 = .ok (.iconst 0, 1) := by decide +kernel
theorem dX7_logs_23 : decode cX7_logs 23 = .ok (.iaload, 1) := by decide +kernel
theorem dX7_logs_24 : decode cX7_logs 24 = .ok (.iastore, 1) := by decide +kernel
theorem dX7_logs_25 : decode cX7_logs 25 = .ok (.aload_n 0, 1) := by decide +kernel
theorem dX7_logs_26 : decode cX7_logs 26 = .ok (.getfield 7, 3) := by decide +kernel
theorem dX7_logs_29 : decode cX7_logs 29 = .ok (.iload_n 3, 1) := by decide +kernel
theorem dX7_logs_30 : decode cX7_logs 30 = .ok (.iconst 1, 1) := by decide +kernel
theorem dX7_logs_31 : decode cX7_logs 31 = .ok (.iadd, 1) := by decide +kernel
theorem dX7_logs_32 : decode cX7_logs 32 = .ok (.iload_n 1, 1) := by decide +kernel
theorem dX7_logs_33 : decode cX7_logs 33 = .ok (.iastore, 1) := by decide +kernel
theorem dX7_logs_34 : decode cX7_logs 34 = .ok (.aload_n 0, 1) := by decide +kernel
theorem dX7_logs_35 : decode cX7_logs 35 = .ok (.getfield 7, 3) := by decide +kernel
theorem dX7_logs_38 : decode cX7_logs 38 = .ok (.iload_n 3, 1) := by decide +kernel
theorem dX7_logs_39 : decode cX7_logs 39 = .ok (.iconst 2, 1) := by decide +kernel
theorem dX7_logs_40 : decode cX7_logs 40 = .ok (.iadd, 1) := by decide +kernel
theorem dX7_logs_41 : decode cX7_logs 41 = .ok (.iload_n 2, 1) := by decide +kernel
theorem dX7_logs_42 : decode cX7_logs 42 = .ok (.iastore, 1) := by decide +kernel
theorem dX7_logs_43 : decode cX7_logs 43 = .ok (.aload_n 0, 1) := by decide +kernel
theorem dX7_logs_44 : decode cX7_logs 44 = .ok (.getfield 7, 3) := by decide +kernel
theorem dX7_logs_47 : decode cX7_logs 47 = .ok (.bipush 9, 2) := by decide +kernel
theorem dX7_logs_49 : decode cX7_logs 49 = .ok (.dup2, 1) := by decide +kernel
theorem dX7_logs_50 : decode cX7_logs 50 = .ok (.iaload, 1) := by decide +kernel
theorem dX7_logs_51 : decode cX7_logs 51 = .ok (.iconst 1, 1) := by decide +kernel
theorem dX7_logs_52 : decode cX7_logs 52 = .ok (.iadd, 1) := by decide +kernel
theorem dX7_logs_53 : decode cX7_logs 53 = .ok (.iastore, 1) := by decide +kernel
theorem dX7_logs_54 : decode cX7_logs 54 = .ok (.return_, 1) := by decide +kernel
theorem dX7_lets_0 : decode cX7_lets 0 = .ok (.aload_n 0, 1) := by decide +kernel
theorem dX7_lets_1 : decode cX7_lets 1 = .ok (.getfield 7, 3) := by decide +kernel
theorem dX7_lets_4 : decode cX7_lets 4 = .ok (.bipush 10, 2) := by decide +kernel
theorem dX7_lets_6 : decode cX7_lets 6 = .ok (.iconst 5, 1) := by decide +kernel
theorem dX7_lets_7 : decode cX7_lets 7 = .ok (.iload_n 1, 1) := by decide +kernel
theorem dX7_lets_8 : decode cX7_lets 8 = .ok (.imul, 1) := by decide +kernel
theorem dX7_lets_9 : decode cX7_lets 9 = .ok (.iadd, 1) := by decide +kernel
theorem dX7_lets_10 : decode cX7_lets 10 = .ok (.iconst 3, 1) := by decide +kernel
theorem dX7_lets_11 : decode cX7_lets 11 = .ok (.iadd, 1) := by decide +kernel
theorem dX7_lets_12 : decode cX7_lets 12 = .ok (.iconst 3, 1) := by decide +kernel
theorem dX7_lets_13 : decode cX7_lets 13 = .ok (.iastore, 1) := by decide +kernel
theorem dX7_lets_14 : decode cX7_lets 14 = .ok (.aload_n 0, 1) := by decide +kernel
theorem dX7_lets_15 : decode cX7_lets 15 = .ok (.iconst 3, 1) := by decide +kernel
theorem dX7_lets_16 : decode cX7_lets 16 = .ok (.iload_n 1, 1) := by decide +kernel
theorem dX7_lets_17 : decode cX7_lets 17 = .ok (.invokevirtual 50, 3) := by decide +kernel
theorem dX7_lets_20 : decode cX7_lets 20 = .ok (.return_, 1) := by decide +kernel
theorem dX7_goesOnAir_0 : decode cX7_goesOnAir 0 = .ok (.aload_n 0, 1) := by decide +kernel
theorem dX7_goesOnAir_1 : decode cX7_goesOnAir 1 = .ok (.getfield 7, 3) := by decide +kernel
theorem dX7_goesOnAir_4 : decode cX7_goesOnAir 4 = .ok (.iconst 2, 1) := by decide +kernel
theorem dX7_goesOnAir_5 : decode cX7_goesOnAir 5 = .ok (.iload_n 1, 1) := by decide +kernel
theorem dX7_goesOnAir_6 : decode cX7_goesOnAir 6 = .ok (.iastore, 1) := by decide +kernel
theorem dX7_goesOnAir_7 : decode cX7_goesOnAir 7 = .ok (.aload_n 0, 1) := by decide +kernel
theorem dX7_goesOnAir_8 : decode cX7_goesOnAir 8 = .ok (.getfield 7, 3) := by decide +kernel
theorem dX7_goesOnAir_11 : decode cX7_goesOnAir 11 = .ok (.iconst 3, 1) := by decide +kernel
theorem dX7_goesOnAir_12 : decode cX7_goesOnAir 12 = .ok (.iload_n 2, 1) := by decide +kernel
theorem dX7_goesOnAir_13 : decode cX7_goesOnAir 13 = .ok (.iastore, 1) := by decide +kernel
theorem dX7_goesOnAir_14 : decode cX7_goesOnAir 14 = .ok (.aload_n 0, 1) := by decide +kernel
theorem dX7_goesOnAir_15 : decode cX7_goesOnAir 15 = .ok (.getfield 7, 3) := by decide +kernel
theorem dX7_goesOnAir_18 : decode cX7_goesOnAir 18 = .ok (.iconst 4, 1) := by decide +kernel
theorem dX7_goesOnAir_19 : decode cX7_goesOnAir 19 = .ok (.aload_n 0, 1) := by decide +kernel
theorem dX7_goesOnAir_20 : decode cX7_goesOnAir 20 = .ok (.getfield 7, 3) := by decide +kernel
theorem dX7_goesOnAir_23 : decode cX7_goesOnAir 23 = .ok (.iconst 0, 1) := by decide +kernel
theorem dX7_goesOnAir_24 : decode cX7_goesOnAir 24 = .ok (.iaload, 1) := by decide +kernel
theorem dX7_goesOnAir_25 : decode cX7_goesOnAir 25 = .ok (.iload_n 3, 1) := by decide +kernel
theorem dX7_goesOnAir_26 : decode cX7_goesOnAir 26 = .ok (.iadd, 1) := by decide +kernel
theorem dX7_goesOnAir_27 : decode cX7_goesOnAir 27 = .ok (.iastore, 1) := by decide +kernel
theorem dX7_goesOnAir_28 : decode cX7_goesOnAir 28 = .ok (.aload_n 0, 1) := by decide +kernel
theorem dX7_goesOnAir_29 : decode cX7_goesOnAir 29 = .ok (.iload_n 1, 1) := by decide +kernel
theorem dX7_goesOnAir_30 : decode cX7_goesOnAir 30 = .ok (.iconst 1, 1) := by decide +kernel
theorem dX7_goesOnAir_31 : decode cX7_goesOnAir 31 = .ok (.isub, 1) := by decide +kernel
theorem dX7_goesOnAir_32 : decode cX7_goesOnAir 32 = .ok (.iload_n 2, 1) := by decide +kernel
theorem dX7_goesOnAir_33 : decode cX7_goesOnAir 33 = .ok (.invokevirtual 50, 3) := by decide +kernel
theorem dX7_goesOnAir_36 : decode cX7_goesOnAir 36 = .ok (.return_, 1) := by decide +kernel
theorem dX7_beginsElement_0 : decode cX7_beginsElement 0 = .ok (.aload_n 0, 1) := by decide +kernel
theorem dX7_beginsElement_1 : decode cX7_beginsElement 1 = .ok (.getfield 7, 3) := by decide +kernel
theorem dX7_beginsElement_4 : decode cX7_beginsElement 4 = .ok (.bipush 10, 2) := by decide +kernel
theorem dX7_beginsElement_6 : decode cX7_beginsElement 6 = .ok (.iconst 5, 1) := by decide +kernel
theorem dX7_beginsElement_7 : decode cX7_beginsElement 7 = .ok (.iload_n 1, 1) := by decide +kernel
theorem dX7_beginsElement_8 : decode cX7_beginsElement 8 = .ok (.imul, 1) := by decide +kernel
theorem dX7_beginsElement_9 : decode cX7_beginsElement 9 = .ok (.iadd, 1) := by decide +kernel
theorem dX7_beginsElement_10 : decode cX7_beginsElement 10 = .ok (.iconst 3, 1) := by decide +kernel
theorem dX7_beginsElement_11 : decode cX7_beginsElement 11 = .ok (.iadd, 1) := by decide +kernel
theorem dX7_beginsElement_12 : decode cX7_beginsElement 12 = .ok (.iconst 1, 1) := by decide +kernel
theorem dX7_beginsElement_13 : decode cX7_beginsElement 13 = .ok (.iastore, 1) := by decide +kernel
theorem dX7_beginsElement_14 : decode cX7_beginsElement 14 = .ok (.aload_n 0, 1) := by decide +kernel
theorem dX7_beginsElement_15 : decode cX7_beginsElement 15 = .ok (.getfield 7, 3) := by decide +kernel
theorem dX7_beginsElement_18 : decode cX7_beginsElement 18 = .ok (.bipush 10, 2) := by decide +kernel
theorem dX7_beginsElement_20 : decode cX7_beginsElement 20 = .ok (.iconst 5, 1) := by decide +kernel
theorem dX7_beginsElement_21 : decode cX7_beginsElement 21 = .ok (.iload_n 1, 1) := by decide +kernel
theorem dX7_beginsElement_22 : decode cX7_beginsElement 22 = .ok (.imul, 1) := by decide +kernel
theorem dX7_beginsElement_23 : decode cX7_beginsElement 23 = .ok (.iadd, 1) := by decide +kernel
theorem dX7_beginsElement_24 : decode cX7_beginsElement 24 = .ok (.iconst 4, 1) := by decide +kernel
theorem dX7_beginsElement_25 : decode cX7_beginsElement 25 = .ok (.iadd, 1) := by decide +kernel
theorem dX7_beginsElement_26 : decode cX7_beginsElement 26 = .ok (.aload_n 0, 1) := by decide +kernel
theorem dX7_beginsElement_27 : decode cX7_beginsElement 27 = .ok (.getfield 7, 3) := by decide +kernel
theorem dX7_beginsElement_30 : decode cX7_beginsElement 30 = .ok (.iconst 0, 1) := by decide +kernel
theorem dX7_beginsElement_31 : decode cX7_beginsElement 31 = .ok (.iaload, 1) := by decide +kernel
theorem dX7_beginsElement_32 : decode cX7_beginsElement 32 = .ok (.iastore, 1) := by decide +kernel
theorem dX7_beginsElement_33 : decode cX7_beginsElement 33 = .ok (.aload_n 0, 1) := by decide +kernel
theorem dX7_beginsElement_34 : decode cX7_beginsElement 34 = .ok (.iconst 1, 1) := by decide +kernel
theorem dX7_beginsElement_35 : decode cX7_beginsElement 35 = .ok (.iload_n 1, 1) := by decide +kernel
theorem dX7_beginsElement_36 : decode cX7_beginsElement 36 = .ok (.aload_n 0, 1) := by decide +kernel
theorem dX7_beginsElement_37 : decode cX7_beginsElement 37 = .ok (.iload_n 1, 1) := by decide +kernel
theorem dX7_beginsElement_38 : decode cX7_beginsElement 38 = .ok (.iconst 0, 1) := by decide +kernel
theorem dX7_beginsElement_39 : decode cX7_beginsElement 39 = .ok (.invokevirtual 32, 3) := by decide +kernel
theorem dX7_beginsElement_42 : decode cX7_beginsElement 42 = .ok (.invokevirtual 54, 3) := by decide +kernel
theorem dX7_beginsElement_45 : decode cX7_beginsElement 45 = .ok (.return_, 1) := by decide +kernel
theorem dX7_beginsFiller_0 : decode cX7_beginsFiller 0 = .ok (.aload_n 0, 1) := by decide +kernel
theorem dX7_beginsFiller_1 : decode cX7_beginsFiller 1 = .ok (.getfield 7, 3) := by decide +kernel
theorem dX7_beginsFiller_4 : decode cX7_beginsFiller 4 = .ok (.bipush 70, 2) := by decide +kernel
theorem dX7_beginsFiller_6 : decode cX7_beginsFiller 6 = .ok (.iconst 3, 1) := by decide +kernel
theorem dX7_beginsFiller_7 : decode cX7_beginsFiller 7 = .ok (.iload_n 1, 1) := by decide +kernel
theorem dX7_beginsFiller_8 : decode cX7_beginsFiller 8 = .ok (.imul, 1) := by decide +kernel
theorem dX7_beginsFiller_9 : decode cX7_beginsFiller 9 = .ok (.iadd, 1) := by decide +kernel
theorem dX7_beginsFiller_10 : decode cX7_beginsFiller 10 = .ok (.iconst 1, 1) := by decide +kernel
theorem dX7_beginsFiller_11 : decode cX7_beginsFiller 11 = .ok (.iadd, 1) := by decide +kernel
theorem dX7_beginsFiller_12 : decode cX7_beginsFiller 12 = .ok (.iconst 1, 1) := by decide +kernel
theorem dX7_beginsFiller_13 : decode cX7_beginsFiller 13 = .ok (.iastore, 1) := by decide +kernel
theorem dX7_beginsFiller_14 : decode cX7_beginsFiller 14 = .ok (.aload_n 0, 1) := by decide +kernel
theorem dX7_beginsFiller_15 : decode cX7_beginsFiller 15 = .ok (.getfield 7, 3) := by decide +kernel
theorem dX7_beginsFiller_18 : decode cX7_beginsFiller 18 = .ok (.bipush 70, 2) := by decide +kernel
theorem dX7_beginsFiller_20 : decode cX7_beginsFiller 20 = .ok (.iconst 3, 1) := by decide +kernel
theorem dX7_beginsFiller_21 : decode cX7_beginsFiller 21 = .ok (.iload_n 1, 1) := by decide +kernel
theorem dX7_beginsFiller_22 : decode cX7_beginsFiller 22 = .ok (.imul, 1) := by decide +kernel
theorem dX7_beginsFiller_23 : decode cX7_beginsFiller 23 = .ok (.iadd, 1) := by decide +kernel
theorem dX7_beginsFiller_24 : decode cX7_beginsFiller 24 = .ok (.iconst 2, 1) := by decide +kernel
theorem dX7_beginsFiller_25 : decode cX7_beginsFiller 25 = .ok (.iadd, 1) := by decide +kernel
theorem dX7_beginsFiller_26 : decode cX7_beginsFiller 26 = .ok (.aload_n 0, 1) := by decide +kernel
theorem dX7_beginsFiller_27 : decode cX7_beginsFiller 27 = .ok (.getfield 7, 3) := by decide +kernel
theorem dX7_beginsFiller_30 : decode cX7_beginsFiller 30 = .ok (.iconst 0, 1) := by decide +kernel
theorem dX7_beginsFiller_31 : decode cX7_beginsFiller 31 = .ok (.iaload, 1) := by decide +kernel
theorem dX7_beginsFiller_32 : decode cX7_beginsFiller 32 = .ok (.iastore, 1) := by decide +kernel
theorem dX7_beginsFiller_33 : decode cX7_beginsFiller 33 = .ok (.aload_n 0, 1) := by decide +kernel
theorem dX7_beginsFiller_34 : decode cX7_beginsFiller 34 = .ok (.iconst 2, 1) := by decide +kernel
theorem dX7_beginsFiller_35 : decode cX7_beginsFiller 35 = .ok (.iload_n 1, 1) := by decide +kernel
theorem dX7_beginsFiller_36 : decode cX7_beginsFiller 36 = .ok (.aload_n 0, 1) := by decide +kernel
theorem dX7_beginsFiller_37 : decode cX7_beginsFiller 37 = .ok (.iload_n 1, 1) := by decide +kernel
theorem dX7_beginsFiller_38 : decode cX7_beginsFiller 38 = .ok (.iconst 0, 1) := by decide +kernel
theorem dX7_beginsFiller_39 : decode cX7_beginsFiller 39 = .ok (.invokevirtual 58, 3) := by decide +kernel
theorem dX7_beginsFiller_42 : decode cX7_beginsFiller 42 = .ok (.invokevirtual 54, 3) := by decide +kernel
theorem dX7_beginsFiller_45 : decode cX7_beginsFiller 45 = .ok (.return_, 1) := by decide +kernel
theorem dX7_ones_0 : decode cX7_ones 0 = .ok (.iconst 0, 1) := by decide +kernel
theorem dX7_ones_1 : decode cX7_ones 1 = .ok (.istore_n 1, 1) := by decide +kernel
theorem dX7_ones_2 : decode cX7_ones 2 = .ok (.iconst 0, 1) := by decide +kernel
theorem dX7_ones_3 : decode cX7_ones 3 = .ok (.istore_n 2, 1) := by decide +kernel
theorem dX7_ones_4 : decode cX7_ones 4 = .ok (.iload_n 2, 1) := by decide +kernel
theorem dX7_ones_5 : decode cX7_ones 5 = .ok (.bipush 10, 2) := by decide +kernel
theorem dX7_ones_7 : decode cX7_ones 7 = .ok (.if_icmp .ge 17, 3) := by decide +kernel
theorem dX7_ones_10 : decode cX7_ones 10 = .ok (.iload_n 1, 1) := by decide +kernel
theorem dX7_ones_11 : decode cX7_ones 11 = .ok (.iload_n 0, 1) := by decide +kernel
theorem dX7_ones_12 : decode cX7_ones 12 = .ok (.iload_n 2, 1) := by decide +kernel
theorem dX7_ones_13 : decode cX7_ones 13 = .ok (.ishr, 1) := by decide +kernel
theorem dX7_ones_14 : decode cX7_ones 14 = .ok (.iconst 1, 1) := by decide +kernel
theorem dX7_ones_15 : decode cX7_ones 15 = .ok (.iand, 1) := by decide +kernel
theorem dX7_ones_16 : decode cX7_ones 16 = .ok (.iadd, 1) := by decide +kernel
theorem dX7_ones_17 : decode cX7_ones 17 = .ok (.istore_n 1, 1) := by decide +kernel
theorem dX7_ones_18 : decode cX7_ones 18 = .ok (.iinc 2 1, 3) := by decide +kernel
theorem dX7_ones_21 : decode cX7_ones 21 = .ok (.goto (-17), 3) := by decide +kernel
theorem dX7_ones_24 : decode cX7_ones 24 = .ok (.iload_n 1, 1) := by decide +kernel
theorem dX7_ones_25 : decode cX7_ones 25 = .ok (.ireturn, 1) := by decide +kernel
theorem dX7_waitingFillers_0 : decode cX7_waitingFillers 0 = .ok (.iconst 0, 1) := by decide +kernel
theorem dX7_waitingFillers_1 : decode cX7_waitingFillers 1 = .ok (.istore_n 1, 1) := by decide +kernel
theorem dX7_waitingFillers_2 : decode cX7_waitingFillers 2 = .ok (.iconst 0, 1) := by decide +kernel
theorem dX7_waitingFillers_3 : decode cX7_waitingFillers 3 = .ok (.istore_n 2, 1) := by decide +kernel
theorem dX7_waitingFillers_4 : decode cX7_waitingFillers 4 = .ok (.iload_n 2, 1) := by decide +kernel
theorem dX7_waitingFillers_5 : decode cX7_waitingFillers 5 = .ok (.aload_n 0, 1) := by decide +kernel
theorem dX7_waitingFillers_6 : decode cX7_waitingFillers 6 = .ok (.getfield 7, 3) := by decide +kernel
theorem dX7_waitingFillers_9 : decode cX7_waitingFillers 9 = .ok (.bipush 8, 2) := by decide +kernel
theorem dX7_waitingFillers_11 : decode cX7_waitingFillers 11 = .ok (.iaload, 1) := by decide +kernel
theorem dX7_waitingFillers_12 : decode cX7_waitingFillers 12 = .ok (.if_icmp .ge 28, 3) := by decide +kernel
theorem dX7_waitingFillers_15 : decode cX7_waitingFillers 15 = .ok (.iload_n 1, 1) := by decide +kernel
theorem dX7_waitingFillers_16 : decode cX7_waitingFillers 16 = .ok (.aload_n 0, 1) := by decide +kernel
theorem dX7_waitingFillers_17 : decode cX7_waitingFillers 17 = .ok (.iload_n 2, 1) := by decide +kernel
theorem dX7_waitingFillers_18 : decode cX7_waitingFillers 18 = .ok (.iconst 1, 1) := by decide +kernel
theorem dX7_waitingFillers_19 : decode cX7_waitingFillers 19 = .ok (.invokevirtual 58, 3) := by decide +kernel
theorem dX7_waitingFillers_22 : decode cX7_waitingFillers 22 = .ok (.ifCond .ne 9, 3) := by decide +kernel
theorem dX7_waitingFillers_25 : decode cX7_waitingFillers 25 = .ok (.iconst 1, 1) := by decide +kernel
theorem dX7_waitingFillers_26 : decode cX7_waitingFillers 26 = .ok (.iload_n 2, 1) := by decide +kernel
theorem dX7_waitingFillers_27 : decode cX7_waitingFillers 27 = .ok (.ishl, 1) := by decide +kernel
theorem dX7_waitingFillers_28 : decode cX7_waitingFillers 28 = .ok (.goto 4, 3) := by decide +kernel
theorem dX7_waitingFillers_31 : decode cX7_waitingFillers 31 = .ok (.iconst 0, 1) := by decide +kernel
theorem dX7_waitingFillers_32 : decode cX7_waitingFillers 32 = .ok (.ior, 1) := by decide +kernel
theorem dX7_waitingFillers_33 : decode cX7_waitingFillers 33 = .ok (.istore_n 1, 1) := by decide +kernel
theorem dX7_waitingFillers_34 : decode cX7_waitingFillers 34 = .ok (.iinc 2 1, 3) := by decide +kernel
theorem dX7_waitingFillers_37 : decode cX7_waitingFillers 37 = .ok (.goto (-33), 3) := by decide +kernel
theorem dX7_waitingFillers_40 : decode cX7_waitingFillers 40 = .ok (.iload_n 1, 1) := by decide +kernel
theorem dX7_waitingFillers_41 : decode cX7_waitingFillers 41 = .ok (.ireturn, 1) := by decide +kernel
theorem dX7_lengthOf_0 : decode cX7_lengthOf 0 = .ok (.iconst 0, 1) := by decide +kernel
theorem dX7_lengthOf_1 : decode cX7_lengthOf 1 = .ok (.istore_n 2, 1) := by decide +kernel
theorem dX7_lengthOf_2 : decode cX7_lengthOf 2 = .ok (.iconst 0, 1) := by decide +kernel
theorem dX7_lengthOf_3 : decode cX7_lengthOf 3 = .ok (.istore_n 3, 1) := by decide +kernel
theorem dX7_lengthOf_4 : decode cX7_lengthOf 4 = .ok (.iload_n 3, 1) := by decide +kernel
theorem dX7_lengthOf_5 : decode cX7_lengthOf 5 = .ok (.aload_n 0, 1) := by decide +kernel
theorem dX7_lengthOf_6 : decode cX7_lengthOf 6 = .ok (.getfield 7, 3) := by decide +kernel
theorem dX7_lengthOf_9 : decode cX7_lengthOf 9 = .ok (.bipush 8, 2) := by decide +kernel
theorem dX7_lengthOf_11 : decode cX7_lengthOf 11 = .ok (.iaload, 1) := by decide +kernel
theorem dX7_lengthOf_12 : decode cX7_lengthOf 12 = .ok (.if_icmp .ge 31, 3) := by decide +kernel
theorem dX7_lengthOf_15 : decode cX7_lengthOf 15 = .ok (.iload_n 2, 1) := by decide +kernel
theorem dX7_lengthOf_16 : decode cX7_lengthOf 16 = .ok (.iload_n 1, 1) := by decide +kernel
theorem dX7_lengthOf_17 : decode cX7_lengthOf 17 = .ok (.iload_n 3, 1) := by decide +kernel
theorem dX7_lengthOf_18 : decode cX7_lengthOf 18 = .ok (.ishr, 1) := by decide +kernel
theorem dX7_lengthOf_19 : decode cX7_lengthOf 19 = .ok (.iconst 1, 1) := by decide +kernel
theorem dX7_lengthOf_20 : decode cX7_lengthOf 20 = .ok (.iand, 1) := by decide +kernel
theorem dX7_lengthOf_21 : decode cX7_lengthOf 21 = .ok (.iconst 1, 1) := by decide +kernel
theorem dX7_lengthOf_22 : decode cX7_lengthOf 22 = .ok (.if_icmp .ne 12, 3) := by decide +kernel
theorem dX7_lengthOf_25 : decode cX7_lengthOf 25 = .ok (.aload_n 0, 1) := by decide +kernel
theorem dX7_lengthOf_26 : decode cX7_lengthOf 26 = .ok (.iload_n 3, 1) := by decide +kernel
theorem dX7_lengthOf_27 : decode cX7_lengthOf 27 = .ok (.iconst 0, 1) := by decide +kernel
theorem dX7_lengthOf_28 : decode cX7_lengthOf 28 = .ok (.invokevirtual 58, 3) := by decide +kernel
theorem dX7_lengthOf_31 : decode cX7_lengthOf 31 = .ok (.goto 4, 3) := by decide +kernel
theorem dX7_lengthOf_34 : decode cX7_lengthOf 34 = .ok (.iconst 0, 1) := by decide +kernel
theorem dX7_lengthOf_35 : decode cX7_lengthOf 35 = .ok (.iadd, 1) := by decide +kernel
theorem dX7_lengthOf_36 : decode cX7_lengthOf 36 = .ok (.istore_n 2, 1) := by decide +kernel
theorem dX7_lengthOf_37 : decode cX7_lengthOf 37 = .ok (.iinc 3 1, 3) := by decide +kernel
theorem dX7_lengthOf_40 : decode cX7_lengthOf 40 = .ok (.goto (-36), 3) := by decide +kernel
theorem dX7_lengthOf_43 : decode cX7_lengthOf 43 = .ok (.iload_n 2, 1) := by decide +kernel
theorem dX7_lengthOf_44 : decode cX7_lengthOf 44 = .ok (.ireturn, 1) := by decide +kernel
theorem dX7_chosen_0 : decode cX7_chosen 0 = .ok (.aload_n 0, 1) := by decide +kernel
theorem dX7_chosen_1 : decode cX7_chosen 1 = .ok (.invokevirtual 61, 3) := by decide +kernel
theorem dX7_chosen_4 : decode cX7_chosen 4 = .ok (.istore_n 2, 1) := by decide +kernel
theorem dX7_chosen_5 : decode cX7_chosen 5 = .ok (.iconst 0, 1) := by decide +kernel
theorem dX7_chosen_6 : decode cX7_chosen 6 = .ok (.istore_n 3, 1) := by decide +kernel
theorem dX7_chosen_7 : decode cX7_chosen 7 = .ok (.iconst 0, 1) := by decide +kernel
theorem dX7_chosen_8 : decode cX7_chosen 8 = .ok (.istore 4, 2) := by decide +kernel
theorem dX7_chosen_10 : decode cX7_chosen 10 = .ok (.iconst 1, 1) := by decide +kernel
theorem dX7_chosen_11 : decode cX7_chosen 11 = .ok (.istore 5, 2) := by decide +kernel
theorem dX7_chosen_13 : decode cX7_chosen 13 = .ok (.iload 5, 2) := by decide +kernel
theorem dX7_chosen_15 : decode cX7_chosen 15 = .ok (.iload_n 2, 1) := by decide +kernel
theorem dX7_chosen_16 : decode cX7_chosen 16 = .ok (.if_icmp .gt 91, 3) := by decide +kernel
theorem dX7_chosen_19 : decode cX7_chosen 19 = .ok (.iload 5, 2) := by decide +kernel
theorem dX7_chosen_21 : decode cX7_chosen 21 = .ok (.iload_n 2, 1) := by decide +kernel
theorem dX7_chosen_22 : decode cX7_chosen 22 = .ok (.iconst (-1), 1) := by decide +kernel
theorem dX7_chosen_23 : decode cX7_chosen 23 = .ok (.ixor, 1) := by decide +kernel
theorem dX7_chosen_24 : decode cX7_chosen 24 = .ok (.iand, 1) := by decide +kernel
theorem dX7_chosen_25 : decode cX7_chosen 25 = .ok (.ifCond .ne 76, 3) := by decide +kernel
theorem dX7_chosen_28 : decode cX7_chosen 28 = .ok (.aload_n 0, 1) := by decide +kernel
theorem dX7_chosen_29 : decode cX7_chosen 29 = .ok (.iload 5, 2) := by decide +kernel
theorem dX7_chosen_31 : decode cX7_chosen 31 = .ok (.invokevirtual 65, 3) := by decide +kernel
theorem dX7_chosen_34 : decode cX7_chosen 34 = .ok (.istore 6, 2) := by decide +kernel
theorem dX7_chosen_36 : decode cX7_chosen 36 = .ok (.iload 6, 2) := by decide +kernel
theorem dX7_chosen_38 : decode cX7_chosen 38 = .ok (.iload_n 1, 1) := by decide +kernel
theorem dX7_chosen_39 : decode cX7_chosen 39 = .ok (.if_icmp .gt 33, 3) := by decide +kernel
theorem dX7_chosen_42 : decode cX7_chosen 42 = .ok (.iload 6, 2) := by decide +kernel
theorem dX7_chosen_44 : decode cX7_chosen 44 = .ok (.iload 4, 2) := by decide +kernel
theorem dX7_chosen_46 : decode cX7_chosen 46 = .ok (.if_icmp .gt 22, 3) := by decide +kernel
theorem dX7_chosen_49 : decode cX7_chosen 49 = .ok (.iload 6, 2) := by decide +kernel
theorem dX7_chosen_51 : decode cX7_chosen 51 = .ok (.iload 4, 2) := by decide +kernel
theorem dX7_chosen_53 : decode cX7_chosen 53 = .ok (.if_icmp .ne 19, 3) := by decide +kernel
theorem dX7_chosen_56 : decode cX7_chosen 56 = .ok (.iload 5, 2) := by decide +kernel
theorem dX7_chosen_58 : decode cX7_chosen 58 = .ok (.invokestatic 68, 3) := by decide +kernel
theorem dX7_chosen_61 : decode cX7_chosen 61 = .ok (.iload_n 3, 1) := by decide +kernel
theorem dX7_chosen_62 : decode cX7_chosen 62 = .ok (.invokestatic 68, 3) := by decide +kernel
theorem dX7_chosen_65 : decode cX7_chosen 65 = .ok (.if_icmp .ge 7, 3) := by decide +kernel
theorem dX7_chosen_68 : decode cX7_chosen 68 = .ok (.iconst 1, 1) := by decide +kernel
theorem dX7_chosen_69 : decode cX7_chosen 69 = .ok (.goto 4, 3) := by decide +kernel
theorem dX7_chosen_72 : decode cX7_chosen 72 = .ok (.iconst 0, 1) := by decide +kernel
theorem dX7_chosen_73 : decode cX7_chosen 73 = .ok (.istore 7, 2) := by decide +kernel
theorem dX7_chosen_75 : decode cX7_chosen 75 = .ok (.iload 7, 2) := by decide +kernel
theorem dX7_chosen_77 : decode cX7_chosen 77 = .ok (.ifCond .eq 8, 3) := by decide +kernel
theorem dX7_chosen_80 : decode cX7_chosen 80 = .ok (.iload 5, 2) := by decide +kernel
theorem dX7_chosen_82 : decode cX7_chosen 82 = .ok (.goto 4, 3) := by decide +kernel
theorem dX7_chosen_85 : decode cX7_chosen 85 = .ok (.iload_n 3, 1) := by decide +kernel
theorem dX7_chosen_86 : decode cX7_chosen 86 = .ok (.istore_n 3, 1) := by decide +kernel
theorem dX7_chosen_87 : decode cX7_chosen 87 = .ok (.iload 7, 2) := by decide +kernel
theorem dX7_chosen_89 : decode cX7_chosen 89 = .ok (.ifCond .eq 8, 3) := by decide +kernel
theorem dX7_chosen_92 : decode cX7_chosen 92 = .ok (.iload 6, 2) := by decide +kernel
theorem dX7_chosen_94 : decode cX7_chosen 94 = .ok (.goto 5, 3) := by decide +kernel
theorem dX7_chosen_97 : decode cX7_chosen 97 = .ok (.iload 4, 2) := by decide +kernel
theorem dX7_chosen_99 : decode cX7_chosen 99 = .ok (.istore 4, 2) := by decide +kernel
theorem dX7_chosen_101 : decode cX7_chosen 101 = .ok (.iinc 5 1, 3) := by decide +kernel
theorem dX7_chosen_104 : decode cX7_chosen 104 = .ok (.goto (-91), 3) := by decide +kernel
theorem dX7_chosen_107 : decode cX7_chosen 107 = .ok (.iload_n 3, 1) := by decide +kernel
theorem dX7_chosen_108 : decode cX7_chosen 108 = .ok (.ireturn, 1) := by decide +kernel
theorem dX7_lowestOf_0 : decode cX7_lowestOf 0 = .ok (.iconst 0, 1) := by decide +kernel
theorem dX7_lowestOf_1 : decode cX7_lowestOf 1 = .ok (.istore_n 1, 1) := by decide +kernel
theorem dX7_lowestOf_2 : decode cX7_lowestOf 2 = .ok (.iload_n 0, 1) := by decide +kernel
theorem dX7_lowestOf_3 : decode cX7_lowestOf 3 = .ok (.iload_n 1, 1) := by decide +kernel
theorem dX7_lowestOf_4 : decode cX7_lowestOf 4 = .ok (.ishr, 1) := by decide +kernel
theorem dX7_lowestOf_5 : decode cX7_lowestOf 5 = .ok (.iconst 1, 1) := by decide +kernel
theorem dX7_lowestOf_6 : decode cX7_lowestOf 6 = .ok (.iand, 1) := by decide +kernel
theorem dX7_lowestOf_7 : decode cX7_lowestOf 7 = .ok (.ifCond .ne 9, 3) := by decide +kernel
theorem dX7_lowestOf_10 : decode cX7_lowestOf 10 = .ok (.iinc 1 1, 3) := by decide +kernel
theorem dX7_lowestOf_13 : decode cX7_lowestOf 13 = .ok (.goto (-11), 3) := by decide +kernel
theorem dX7_lowestOf_16 : decode cX7_lowestOf 16 = .ok (.iload_n 1, 1) := by decide +kernel
theorem dX7_lowestOf_17 : decode cX7_lowestOf 17 = .ok (.ireturn, 1) := by decide +kernel
theorem dX7_finds_0 : decode cX7_finds 0 = .ok (.aload_n 0, 1) := by decide +kernel
theorem dX7_finds_1 : decode cX7_finds 1 = .ok (.iconst 0, 1) := by decide +kernel
theorem dX7_finds_2 : decode cX7_finds 2 = .ok (.invokevirtual 43, 3) := by decide +kernel
theorem dX7_finds_5 : decode cX7_finds 5 = .ok (.istore_n 1, 1) := by decide +kernel
theorem dX7_finds_6 : decode cX7_finds 6 = .ok (.aload_n 0, 1) := by decide +kernel
theorem dX7_finds_7 : decode cX7_finds 7 = .ok (.iload_n 1, 1) := by decide +kernel
theorem dX7_finds_8 : decode cX7_finds 8 = .ok (.invokevirtual 47, 3) := by decide +kernel
theorem dX7_finds_11 : decode cX7_finds 11 = .ok (.istore_n 2, 1) := by decide +kernel
theorem dX7_finds_12 : decode cX7_finds 12 = .ok (.aload_n 0, 1) := by decide +kernel
theorem dX7_finds_13 : decode cX7_finds 13 = .ok (.iload_n 1, 1) := by decide +kernel
theorem dX7_finds_14 : decode cX7_finds 14 = .ok (.invokevirtual 71, 3) := by decide +kernel
theorem dX7_finds_17 : decode cX7_finds 17 = .ok (.istore_n 3, 1) := by decide +kernel
theorem dX7_finds_18 : decode cX7_finds 18 = .ok (.iload_n 3, 1) := by decide +kernel
theorem dX7_finds_19 : decode cX7_finds 19 = .ok (.iconst (-1), 1) := by decide +kernel
theorem dX7_finds_20 : decode cX7_finds 20 = .ok (.if_icmp .eq 33, 3) := by decide +kernel
theorem dX7_finds_23 : decode cX7_finds 23 = .ok (.aload_n 0, 1) := by decide +kernel
theorem dX7_finds_24 : decode cX7_finds 24 = .ok (.getfield 7, 3) := by decide +kernel
theorem dX7_finds_27 : decode cX7_finds 27 = .ok (.iconst 0, 1) := by decide +kernel
theorem dX7_finds_28 : decode cX7_finds 28 = .ok (.iaload, 1) := by decide +kernel
theorem dX7_finds_29 : decode cX7_finds 29 = .ok (.aload_n 0, 1) := by decide +kernel
theorem dX7_finds_30 : decode cX7_finds 30 = .ok (.iload_n 1, 1) := by decide +kernel
theorem dX7_finds_31 : decode cX7_finds 31 = .ok (.invokevirtual 74, 3) := by decide +kernel
theorem dX7_finds_34 : decode cX7_finds 34 = .ok (.iadd, 1) := by decide +kernel
theorem dX7_finds_35 : decode cX7_finds 35 = .ok (.iload_n 2, 1) := by decide +kernel
theorem dX7_finds_36 : decode cX7_finds 36 = .ok (.if_icmp .le 17, 3) := by decide +kernel
theorem dX7_finds_39 : decode cX7_finds 39 = .ok (.aload_n 0, 1) := by decide +kernel
theorem dX7_finds_40 : decode cX7_finds 40 = .ok (.iload_n 3, 1) := by decide +kernel
theorem dX7_finds_41 : decode cX7_finds 41 = .ok (.invokevirtual 77, 3) := by decide +kernel
theorem dX7_finds_44 : decode cX7_finds 44 = .ok (.aload_n 0, 1) := by decide +kernel
theorem dX7_finds_45 : decode cX7_finds 45 = .ok (.iload_n 1, 1) := by decide +kernel
theorem dX7_finds_46 : decode cX7_finds 46 = .ok (.invokevirtual 71, 3) := by decide +kernel
theorem dX7_finds_49 : decode cX7_finds 49 = .ok (.istore_n 3, 1) := by decide +kernel
theorem dX7_finds_50 : decode cX7_finds 50 = .ok (.goto (-32), 3) := by decide +kernel
theorem dX7_finds_53 : decode cX7_finds 53 = .ok (.aload_n 0, 1) := by decide +kernel
theorem dX7_finds_54 : decode cX7_finds 54 = .ok (.iload_n 1, 1) := by decide +kernel
theorem dX7_finds_55 : decode cX7_finds 55 = .ok (.invokevirtual 81, 3) := by decide +kernel
theorem dX7_finds_58 : decode cX7_finds 58 = .ok (.istore 4, 2) := by decide +kernel
theorem dX7_finds_60 : decode cX7_finds 60 = .ok (.iload 4, 2) := by decide +kernel
theorem dX7_finds_62 : decode cX7_finds 62 = .ok (.iconst (-1), 1) := by decide +kernel
theorem dX7_finds_63 : decode cX7_finds 63 = .ok (.if_icmp .eq 10, 3) := by decide +kernel
theorem dX7_finds_66 : decode cX7_finds 66 = .ok (.aload_n 0, 1) := by decide +kernel
theorem dX7_finds_67 : decode cX7_finds 67 = .ok (.iload 4, 2) := by decide +kernel
theorem dX7_finds_69 : decode cX7_finds 69 = .ok (.invokevirtual 84, 3) := by decide +kernel
theorem dX7_finds_72 : decode cX7_finds 72 = .ok (.return_, 1) := by decide +kernel
theorem dX7_finds_73 : decode cX7_finds 73 = .ok (.iload_n 2, 1) := by decide +kernel
theorem dX7_finds_74 : decode cX7_finds 74 = .ok (.aload_n 0, 1) := by decide +kernel
theorem dX7_finds_75 : decode cX7_finds 75 = .ok (.getfield 7, 3) := by decide +kernel
theorem dX7_finds_78 : decode cX7_finds 78 = .ok (.iconst 0, 1) := by decide +kernel
theorem dX7_finds_79 : decode cX7_finds 79 = .ok (.iaload, 1) := by decide +kernel
theorem dX7_finds_80 : decode cX7_finds 80 = .ok (.if_icmp .le 49, 3) := by decide +kernel
theorem dX7_finds_83 : decode cX7_finds 83 = .ok (.aload_n 0, 1) := by decide +kernel
theorem dX7_finds_84 : decode cX7_finds 84 = .ok (.iload_n 2, 1) := by decide +kernel
theorem dX7_finds_85 : decode cX7_finds 85 = .ok (.aload_n 0, 1) := by decide +kernel
theorem dX7_finds_86 : decode cX7_finds 86 = .ok (.getfield 7, 3) := by decide +kernel
theorem dX7_finds_89 : decode cX7_finds 89 = .ok (.iconst 0, 1) := by decide +kernel
theorem dX7_finds_90 : decode cX7_finds 90 = .ok (.iaload, 1) := by decide +kernel
theorem dX7_finds_91 : decode cX7_finds 91 = .ok (.isub, 1) := by decide +kernel
theorem dX7_finds_92 : decode cX7_finds 92 = .ok (.invokevirtual 87, 3) := by decide +kernel
theorem dX7_finds_95 : decode cX7_finds 95 = .ok (.istore 5, 2) := by decide +kernel
theorem dX7_finds_97 : decode cX7_finds 97 = .ok (.iload 5, 2) := by decide +kernel
theorem dX7_finds_99 : decode cX7_finds 99 = .ok (.ifCond .ne 20, 3) := by decide +kernel
theorem dX7_finds_102 : decode cX7_finds 102 = .ok (.aload_n 0, 1) := by decide +kernel
theorem dX7_finds_103 : decode cX7_finds 103 = .ok (.iconst 3, 1) := by decide +kernel
theorem dX7_finds_104 : decode cX7_finds 104 = .ok (.iconst (-1), 1) := by decide +kernel
theorem dX7_finds_105 : decode cX7_finds 105 = .ok (.iload_n 2, 1) := by decide +kernel
theorem dX7_finds_106 : decode cX7_finds 106 = .ok (.aload_n 0, 1) := by decide +kernel
theorem dX7_finds_107 : decode cX7_finds 107 = .ok (.getfield 7, 3) := by decide +kernel
theorem dX7_finds_110 : decode cX7_finds 110 = .ok (.iconst 0, 1) := by decide +kernel
theorem dX7_finds_111 : decode cX7_finds 111 = .ok (.iaload, 1) := by decide +kernel
theorem dX7_finds_112 : decode cX7_finds 112 = .ok (.isub, 1) := by decide +kernel
theorem dX7_finds_113 : decode cX7_finds 113 = .ok (.invokevirtual 54, 3) := by decide +kernel
theorem dX7_finds_116 : decode cX7_finds 116 = .ok (.goto 12, 3) := by decide +kernel
theorem dX7_finds_119 : decode cX7_finds 119 = .ok (.aload_n 0, 1) := by decide +kernel
theorem dX7_finds_120 : decode cX7_finds 120 = .ok (.iload 5, 2) := by decide +kernel
theorem dX7_finds_122 : decode cX7_finds 122 = .ok (.invokestatic 90, 3) := by decide +kernel
theorem dX7_finds_125 : decode cX7_finds 125 = .ok (.invokevirtual 93, 3) := by decide +kernel
theorem dX7_finds_128 : decode cX7_finds 128 = .ok (.return_, 1) := by decide +kernel
theorem dX7_finds_129 : decode cX7_finds 129 = .ok (.iload_n 1, 1) := by decide +kernel
theorem dX7_finds_130 : decode cX7_finds 130 = .ok (.aload_n 0, 1) := by decide +kernel
theorem dX7_finds_131 : decode cX7_finds 131 = .ok (.getfield 7, 3) := by decide +kernel
theorem dX7_finds_134 : decode cX7_finds 134 = .ok (.bipush 7, 2) := by decide +kernel
theorem dX7_finds_136 : decode cX7_finds 136 = .ok (.iaload, 1) := by decide +kernel
theorem dX7_finds_137 : decode cX7_finds 137 = .ok (.if_icmp .ge 11, 3) := by decide +kernel
theorem dX7_finds_140 : decode cX7_finds 140 = .ok (.aload_n 0, 1) := by decide +kernel
theorem dX7_finds_141 : decode cX7_finds 141 = .ok (.iload_n 1, 1) := by decide +kernel
theorem dX7_finds_142 : decode cX7_finds 142 = .ok (.invokevirtual 84, 3) := by decide +kernel
theorem dX7_finds_145 : decode cX7_finds 145 = .ok (.goto 10, 3) := by decide +kernel
theorem dX7_finds_148 : decode cX7_finds 148 = .ok (.aload_n 0, 1) := by decide +kernel
theorem dX7_finds_149 : decode cX7_finds 149 = .ok (.getfield 7, 3) := by decide +kernel
theorem dX7_finds_152 : decode cX7_finds 152 = .ok (.iconst 1, 1) := by decide +kernel
theorem dX7_finds_153 : decode cX7_finds 153 = .ok (.iconst 1, 1) := by decide +kernel
theorem dX7_finds_154 : decode cX7_finds 154 = .ok (.iastore, 1) := by decide +kernel
theorem dX7_finds_155 : decode cX7_finds 155 = .ok (.return_, 1) := by decide +kernel
theorem dX7_endsOnAir_0 : decode cX7_endsOnAir 0 = .ok (.aload_n 0, 1) := by decide +kernel
theorem dX7_endsOnAir_1 : decode cX7_endsOnAir 1 = .ok (.getfield 7, 3) := by decide +kernel
theorem dX7_endsOnAir_4 : decode cX7_endsOnAir 4 = .ok (.iconst 2, 1) := by decide +kernel
theorem dX7_endsOnAir_5 : decode cX7_endsOnAir 5 = .ok (.iaload, 1) := by decide +kernel
theorem dX7_endsOnAir_6 : decode cX7_endsOnAir 6 = .ok (.iconst 1, 1) := by decide +kernel
theorem dX7_endsOnAir_7 : decode cX7_endsOnAir 7 = .ok (.if_icmp .ne 22, 3) := by decide +kernel
theorem dX7_endsOnAir_10 : decode cX7_endsOnAir 10 = .ok (.aload_n 0, 1) := by decide +kernel
theorem dX7_endsOnAir_11 : decode cX7_endsOnAir 11 = .ok (.getfield 7, 3) := by decide +kernel
theorem dX7_endsOnAir_14 : decode cX7_endsOnAir 14 = .ok (.bipush 10, 2) := by decide +kernel
theorem dX7_endsOnAir_16 : decode cX7_endsOnAir 16 = .ok (.iconst 5, 1) := by decide +kernel
theorem dX7_endsOnAir_17 : decode cX7_endsOnAir 17 = .ok (.aload_n 0, 1) := by decide +kernel
theorem dX7_endsOnAir_18 : decode cX7_endsOnAir 18 = .ok (.getfield 7, 3) := by decide +kernel
theorem dX7_endsOnAir_21 : decode cX7_endsOnAir 21 = .ok (.iconst 3, 1) := by decide +kernel
theorem dX7_endsOnAir_22 : decode cX7_endsOnAir 22 = .ok (.iaload, 1) := by decide +kernel
theorem dX7_endsOnAir_23 : decode cX7_endsOnAir 23 = .ok (.imul, 1) := by decide +kernel
theorem dX7_endsOnAir_24 : decode cX7_endsOnAir 24 = .ok (.iadd, 1) := by decide +kernel
theorem dX7_endsOnAir_25 : decode cX7_endsOnAir 25 = .ok (.iconst 3, 1) := by decide +kernel
theorem dX7_endsOnAir_26 : decode cX7_endsOnAir 26 = .ok (.iadd, 1) := by decide +kernel
theorem dX7_endsOnAir_27 : decode cX7_endsOnAir 27 = .ok (.iconst 2, 1) := by decide +kernel
theorem dX7_endsOnAir_28 : decode cX7_endsOnAir 28 = .ok (.iastore, 1) := by decide +kernel
theorem dX7_endsOnAir_29 : decode cX7_endsOnAir 29 = .ok (.aload_n 0, 1) := by decide +kernel
theorem dX7_endsOnAir_30 : decode cX7_endsOnAir 30 = .ok (.getfield 7, 3) := by decide +kernel
theorem dX7_endsOnAir_33 : decode cX7_endsOnAir 33 = .ok (.iconst 2, 1) := by decide +kernel
theorem dX7_endsOnAir_34 : decode cX7_endsOnAir 34 = .ok (.iaload, 1) := by decide +kernel
theorem dX7_endsOnAir_35 : decode cX7_endsOnAir 35 = .ok (.iconst 2, 1) := by decide +kernel
theorem dX7_endsOnAir_36 : decode cX7_endsOnAir 36 = .ok (.if_icmp .ne 22, 3) := by decide +kernel
theorem dX7_endsOnAir_39 : decode cX7_endsOnAir 39 = .ok (.aload_n 0, 1) := by decide +kernel
theorem dX7_endsOnAir_40 : decode cX7_endsOnAir 40 = .ok (.getfield 7, 3) := by decide +kernel
theorem dX7_endsOnAir_43 : decode cX7_endsOnAir 43 = .ok (.bipush 70, 2) := by decide +kernel
theorem dX7_endsOnAir_45 : decode cX7_endsOnAir 45 = .ok (.iconst 3, 1) := by decide +kernel
theorem dX7_endsOnAir_46 : decode cX7_endsOnAir 46 = .ok (.aload_n 0, 1) := by decide +kernel
theorem dX7_endsOnAir_47 : decode cX7_endsOnAir 47 = .ok (.getfield 7, 3) := by decide +kernel
theorem dX7_endsOnAir_50 : decode cX7_endsOnAir 50 = .ok (.iconst 3, 1) := by decide +kernel
theorem dX7_endsOnAir_51 : decode cX7_endsOnAir 51 = .ok (.iaload, 1) := by decide +kernel
theorem dX7_endsOnAir_52 : decode cX7_endsOnAir 52 = .ok (.imul, 1) := by decide +kernel
theorem dX7_endsOnAir_53 : decode cX7_endsOnAir 53 = .ok (.iadd, 1) := by decide +kernel
theorem dX7_endsOnAir_54 : decode cX7_endsOnAir 54 = .ok (.iconst 1, 1) := by decide +kernel
theorem dX7_endsOnAir_55 : decode cX7_endsOnAir 55 = .ok (.iadd, 1) := by decide +kernel
theorem dX7_endsOnAir_56 : decode cX7_endsOnAir 56 = .ok (.iconst 2, 1) := by decide +kernel
theorem dX7_endsOnAir_57 : decode cX7_endsOnAir 57 = .ok (.iastore, 1) := by decide +kernel
theorem dX7_endsOnAir_58 : decode cX7_endsOnAir 58 = .ok (.aload_n 0, 1) := by decide +kernel
theorem dX7_endsOnAir_59 : decode cX7_endsOnAir 59 = .ok (.getfield 7, 3) := by decide +kernel
theorem dX7_endsOnAir_62 : decode cX7_endsOnAir 62 = .ok (.iconst 2, 1) := by decide +kernel
theorem dX7_endsOnAir_63 : decode cX7_endsOnAir 63 = .ok (.iconst 0, 1) := by decide +kernel
theorem dX7_endsOnAir_64 : decode cX7_endsOnAir 64 = .ok (.iastore, 1) := by decide +kernel
theorem dX7_endsOnAir_65 : decode cX7_endsOnAir 65 = .ok (.aload_n 0, 1) := by decide +kernel
theorem dX7_endsOnAir_66 : decode cX7_endsOnAir 66 = .ok (.getfield 7, 3) := by decide +kernel
theorem dX7_endsOnAir_69 : decode cX7_endsOnAir 69 = .ok (.iconst 3, 1) := by decide +kernel
theorem dX7_endsOnAir_70 : decode cX7_endsOnAir 70 = .ok (.iconst 0, 1) := by decide +kernel
theorem dX7_endsOnAir_71 : decode cX7_endsOnAir 71 = .ok (.iastore, 1) := by decide +kernel
theorem dX7_endsOnAir_72 : decode cX7_endsOnAir 72 = .ok (.aload_n 0, 1) := by decide +kernel
theorem dX7_endsOnAir_73 : decode cX7_endsOnAir 73 = .ok (.getfield 7, 3) := by decide +kernel
theorem dX7_endsOnAir_76 : decode cX7_endsOnAir 76 = .ok (.iconst 4, 1) := by decide +kernel
theorem dX7_endsOnAir_77 : decode cX7_endsOnAir 77 = .ok (.iconst 0, 1) := by decide +kernel
theorem dX7_endsOnAir_78 : decode cX7_endsOnAir 78 = .ok (.iastore, 1) := by decide +kernel
theorem dX7_endsOnAir_79 : decode cX7_endsOnAir 79 = .ok (.return_, 1) := by decide +kernel
theorem dX7_goesOn_0 : decode cX7_goesOn 0 = .ok (.iload_n 1, 1) := by decide +kernel
theorem dX7_goesOn_1 : decode cX7_goesOn 1 = .ok (.istore_n 2, 1) := by decide +kernel
theorem dX7_goesOn_2 : decode cX7_goesOn 2 = .ok (.iload_n 2, 1) := by decide +kernel
theorem dX7_goesOn_3 : decode cX7_goesOn 3 = .ok (.ifCond .le 129, 3) := by decide +kernel
theorem dX7_goesOn_6 : decode cX7_goesOn 6 = .ok (.aload_n 0, 1) := by decide +kernel
theorem dX7_goesOn_7 : decode cX7_goesOn 7 = .ok (.getfield 7, 3) := by decide +kernel
theorem dX7_goesOn_10 : decode cX7_goesOn 10 = .ok (.iconst 1, 1) := by decide +kernel
theorem dX7_goesOn_11 : decode cX7_goesOn 11 = .ok (.iaload, 1) := by decide +kernel
theorem dX7_goesOn_12 : decode cX7_goesOn 12 = .ok (.ifCond .ne 120, 3) := by decide +kernel
theorem dX7_goesOn_15 : decode cX7_goesOn 15 = .ok (.aload_n 0, 1) := by decide +kernel
theorem dX7_goesOn_16 : decode cX7_goesOn 16 = .ok (.getfield 7, 3) := by decide +kernel
theorem dX7_goesOn_19 : decode cX7_goesOn 19 = .ok (.iconst 2, 1) := by decide +kernel
theorem dX7_goesOn_20 : decode cX7_goesOn 20 = .ok (.iaload, 1) := by decide +kernel
theorem dX7_goesOn_21 : decode cX7_goesOn 21 = .ok (.ifCond .ne 7, 3) := by decide +kernel
theorem dX7_goesOn_24 : decode cX7_goesOn 24 = .ok (.aload_n 0, 1) := by decide +kernel
theorem dX7_goesOn_25 : decode cX7_goesOn 25 = .ok (.invokevirtual 96, 3) := by decide +kernel
theorem dX7_goesOn_28 : decode cX7_goesOn 28 = .ok (.aload_n 0, 1) := by decide +kernel
theorem dX7_goesOn_29 : decode cX7_goesOn 29 = .ok (.getfield 7, 3) := by decide +kernel
theorem dX7_goesOn_32 : decode cX7_goesOn 32 = .ok (.iconst 1, 1) := by decide +kernel
theorem dX7_goesOn_33 : decode cX7_goesOn 33 = .ok (.iaload, 1) := by decide +kernel
theorem dX7_goesOn_34 : decode cX7_goesOn 34 = .ok (.ifCond .ne (-32), 3) := by decide +kernel
theorem dX7_goesOn_37 : decode cX7_goesOn 37 = .ok (.aload_n 0, 1) := by decide +kernel
theorem dX7_goesOn_38 : decode cX7_goesOn 38 = .ok (.getfield 7, 3) := by decide +kernel
theorem dX7_goesOn_41 : decode cX7_goesOn 41 = .ok (.iconst 4, 1) := by decide +kernel
theorem dX7_goesOn_42 : decode cX7_goesOn 42 = .ok (.iaload, 1) := by decide +kernel
theorem dX7_goesOn_43 : decode cX7_goesOn 43 = .ok (.aload_n 0, 1) := by decide +kernel
theorem dX7_goesOn_44 : decode cX7_goesOn 44 = .ok (.getfield 7, 3) := by decide +kernel
theorem dX7_goesOn_47 : decode cX7_goesOn 47 = .ok (.iconst 0, 1) := by decide +kernel
theorem dX7_goesOn_48 : decode cX7_goesOn 48 = .ok (.iaload, 1) := by decide +kernel
theorem dX7_goesOn_49 : decode cX7_goesOn 49 = .ok (.isub, 1) := by decide +kernel
theorem dX7_goesOn_50 : decode cX7_goesOn 50 = .ok (.iload_n 2, 1) := by decide +kernel
theorem dX7_goesOn_51 : decode cX7_goesOn 51 = .ok (.if_icmp .ge 19, 3) := by decide +kernel
theorem dX7_goesOn_54 : decode cX7_goesOn 54 = .ok (.aload_n 0, 1) := by decide +kernel
theorem dX7_goesOn_55 : decode cX7_goesOn 55 = .ok (.getfield 7, 3) := by decide +kernel
theorem dX7_goesOn_58 : decode cX7_goesOn 58 = .ok (.iconst 4, 1) := by decide +kernel
theorem dX7_goesOn_59 : decode cX7_goesOn 59 = .ok (.iaload, 1) := by decide +kernel
theorem dX7_goesOn_60 : decode cX7_goesOn 60 = .ok (.aload_n 0, 1) := by decide +kernel
theorem dX7_goesOn_61 : decode cX7_goesOn 61 = .ok (.getfield 7, 3) := by decide +kernel
theorem dX7_goesOn_64 : decode cX7_goesOn 64 = .ok (.iconst 0, 1) := by decide +kernel
theorem dX7_goesOn_65 : decode cX7_goesOn 65 = .ok (.iaload, 1) := by decide +kernel
theorem dX7_goesOn_66 : decode cX7_goesOn 66 = .ok (.isub, 1) := by decide +kernel
theorem dX7_goesOn_67 : decode cX7_goesOn 67 = .ok (.goto 4, 3) := by decide +kernel
theorem dX7_goesOn_70 : decode cX7_goesOn 70 = .ok (.iload_n 2, 1) := by decide +kernel
theorem dX7_goesOn_71 : decode cX7_goesOn 71 = .ok (.istore_n 3, 1) := by decide +kernel
theorem dX7_goesOn_72 : decode cX7_goesOn 72 = .ok (.aload_n 0, 1) := by decide +kernel
theorem dX7_goesOn_73 : decode cX7_goesOn 73 = .ok (.getfield 7, 3) := by decide +kernel
theorem dX7_goesOn_76 : decode cX7_goesOn 76 = .ok (.iconst 0, 1) := by decide +kernel
theorem dX7_goesOn_77 : decode cX7_goesOn 77 = .ok (.dup2, 1) := by decide +kernel
theorem dX7_goesOn_78 : decode cX7_goesOn 78 = .ok (.iaload, 1) := by decide +kernel
theorem dX7_goesOn_79 : decode cX7_goesOn 79 = .ok (.iload_n 3, 1) := by decide +kernel
theorem dX7_goesOn_80 : decode cX7_goesOn 80 = .ok (.iadd, 1) := by decide +kernel
theorem dX7_goesOn_81 : decode cX7_goesOn 81 = .ok (.iastore, 1) := by decide +kernel
theorem dX7_goesOn_82 : decode cX7_goesOn 82 = .ok (.iload_n 2, 1) := by decide +kernel
theorem dX7_goesOn_83 : decode cX7_goesOn 83 = .ok (.iload_n 3, 1) := by decide +kernel
theorem dX7_goesOn_84 : decode cX7_goesOn 84 = .ok (.isub, 1) := by decide +kernel
theorem dX7_goesOn_85 : decode cX7_goesOn 85 = .ok (.istore_n 2, 1) := by decide +kernel
theorem dX7_goesOn_86 : decode cX7_goesOn 86 = .ok (.aload_n 0, 1) := by decide +kernel
theorem dX7_goesOn_87 : decode cX7_goesOn 87 = .ok (.getfield 7, 3) := by decide +kernel
theorem dX7_goesOn_90 : decode cX7_goesOn 90 = .ok (.iconst 5, 1) := by decide +kernel
theorem dX7_goesOn_91 : decode cX7_goesOn 91 = .ok (.dup2, 1) := by decide +kernel
theorem dX7_goesOn_92 : decode cX7_goesOn 92 = .ok (.iaload, 1) := by decide +kernel
theorem dX7_goesOn_93 : decode cX7_goesOn 93 = .ok (.aload_n 0, 1) := by decide +kernel
theorem dX7_goesOn_94 : decode cX7_goesOn 94 = .ok (.getfield 7, 3) := by decide +kernel
theorem dX7_goesOn_97 : decode cX7_goesOn 97 = .ok (.iconst 2, 1) := by decide +kernel
theorem dX7_goesOn_98 : decode cX7_goesOn 98 = .ok (.iaload, 1) := by decide +kernel
theorem dX7_goesOn_99 : decode cX7_goesOn 99 = .ok (.iconst 3, 1) := by decide +kernel
theorem dX7_goesOn_100 : decode cX7_goesOn 100 = .ok (.if_icmp .ne 7, 3) := by decide +kernel
theorem dX7_goesOn_103 : decode cX7_goesOn 103 = .ok (.iload_n 3, 1) := by decide +kernel
theorem dX7_goesOn_104 : decode cX7_goesOn 104 = .ok (.goto 4, 3) := by decide +kernel
theorem dX7_goesOn_107 : decode cX7_goesOn 107 = .ok (.iconst 0, 1) := by decide +kernel
theorem dX7_goesOn_108 : decode cX7_goesOn 108 = .ok (.iadd, 1) := by decide +kernel
theorem dX7_goesOn_109 : decode cX7_goesOn 109 = .ok (.iastore, 1) := by decide +kernel
theorem dX7_goesOn_110 : decode cX7_goesOn 110 = .ok (.aload_n 0, 1) := by decide +kernel
theorem dX7_goesOn_111 : decode cX7_goesOn 111 = .ok (.getfield 7, 3) := by decide +kernel
theorem dX7_goesOn_114 : decode cX7_goesOn 114 = .ok (.iconst 0, 1) := by decide +kernel
theorem dX7_goesOn_115 : decode cX7_goesOn 115 = .ok (.iaload, 1) := by decide +kernel
theorem dX7_goesOn_116 : decode cX7_goesOn 116 = .ok (.aload_n 0, 1) := by decide +kernel
theorem dX7_goesOn_117 : decode cX7_goesOn 117 = .ok (.getfield 7, 3) := by decide +kernel
theorem dX7_goesOn_120 : decode cX7_goesOn 120 = .ok (.iconst 4, 1) := by decide +kernel
theorem dX7_goesOn_121 : decode cX7_goesOn 121 = .ok (.iaload, 1) := by decide +kernel
theorem dX7_goesOn_122 : decode cX7_goesOn 122 = .ok (.if_icmp .ne 7, 3) := by decide +kernel
theorem dX7_goesOn_125 : decode cX7_goesOn 125 = .ok (.aload_n 0, 1) := by decide +kernel
theorem dX7_goesOn_126 : decode cX7_goesOn 126 = .ok (.invokevirtual 99, 3) := by decide +kernel
theorem dX7_goesOn_129 : decode cX7_goesOn 129 = .ok (.goto (-127), 3) := by decide +kernel
theorem dX7_goesOn_132 : decode cX7_goesOn 132 = .ok (.iload_n 1, 1) := by decide +kernel
theorem dX7_goesOn_133 : decode cX7_goesOn 133 = .ok (.iload_n 2, 1) := by decide +kernel
theorem dX7_goesOn_134 : decode cX7_goesOn 134 = .ok (.isub, 1) := by decide +kernel
theorem dX7_goesOn_135 : decode cX7_goesOn 135 = .ok (.ireturn, 1) := by decide +kernel
theorem dX7_foresees_0 : decode cX7_foresees 0 = .ok (.aload_n 0, 1) := by decide +kernel
theorem dX7_foresees_1 : decode cX7_foresees 1 = .ok (.getfield 7, 3) := by decide +kernel
theorem dX7_foresees_4 : decode cX7_foresees 4 = .ok (.aload_n 0, 1) := by decide +kernel
theorem dX7_foresees_5 : decode cX7_foresees 5 = .ok (.getfield 16, 3) := by decide +kernel
theorem dX7_foresees_8 : decode cX7_foresees 8 = .ok (.invokestatic 102, 3) := by decide +kernel
theorem dX7_foresees_11 : decode cX7_foresees 11 = .ok (.aload_n 0, 1) := by decide +kernel
theorem dX7_foresees_12 : decode cX7_foresees 12 = .ok (.ldc 106, 2) := by decide +kernel
theorem dX7_foresees_14 : decode cX7_foresees 14 = .ok (.invokevirtual 107, 3) := by decide +kernel
theorem dX7_foresees_17 : decode cX7_foresees 17 = .ok (.istore_n 1, 1) := by decide +kernel
theorem dX7_foresees_18 : decode cX7_foresees 18 = .ok (.aload_n 0, 1) := by decide +kernel
theorem dX7_foresees_19 : decode cX7_foresees 19 = .ok (.getfield 7, 3) := by decide +kernel
theorem dX7_foresees_22 : decode cX7_foresees 22 = .ok (.aload_n 0, 1) := by decide +kernel
theorem dX7_foresees_23 : decode cX7_foresees 23 = .ok (.getfield 19, 3) := by decide +kernel
theorem dX7_foresees_26 : decode cX7_foresees 26 = .ok (.invokestatic 102, 3) := by decide +kernel
theorem dX7_foresees_29 : decode cX7_foresees 29 = .ok (.aload_n 0, 1) := by decide +kernel
theorem dX7_foresees_30 : decode cX7_foresees 30 = .ok (.getfield 16, 3) := by decide +kernel
theorem dX7_foresees_33 : decode cX7_foresees 33 = .ok (.aload_n 0, 1) := by decide +kernel
theorem dX7_foresees_34 : decode cX7_foresees 34 = .ok (.getfield 7, 3) := by decide +kernel
theorem dX7_foresees_37 : decode cX7_foresees 37 = .ok (.invokestatic 102, 3) := by decide +kernel
theorem dX7_foresees_40 : decode cX7_foresees 40 = .ok (.return_, 1) := by decide +kernel
theorem dX7_putElement_0 : decode cX7_putElement 0 = .ok (.bipush 10, 2) := by decide +kernel
theorem dX7_putElement_2 : decode cX7_putElement 2 = .ok (.iconst 5, 1) := by decide +kernel
theorem dX7_putElement_3 : decode cX7_putElement 3 = .ok (.aload_n 0, 1) := by decide +kernel
theorem dX7_putElement_4 : decode cX7_putElement 4 = .ok (.getfield 7, 3) := by decide +kernel
theorem dX7_putElement_7 : decode cX7_putElement 7 = .ok (.bipush 7, 2) := by decide +kernel
theorem dX7_putElement_9 : decode cX7_putElement 9 = .ok (.iaload, 1) := by decide +kernel
theorem dX7_putElement_10 : decode cX7_putElement 10 = .ok (.imul, 1) := by decide +kernel
theorem dX7_putElement_11 : decode cX7_putElement 11 = .ok (.iadd, 1) := by decide +kernel
theorem dX7_putElement_12 : decode cX7_putElement 12 = .ok (.istore 4, 2) := by decide +kernel
theorem dX7_putElement_14 : decode cX7_putElement 14 = .ok (.aload_n 0, 1) := by decide +kernel
theorem dX7_putElement_15 : decode cX7_putElement 15 = .ok (.getfield 7, 3) := by decide +kernel
theorem dX7_putElement_18 : decode cX7_putElement 18 = .ok (.iload 4, 2) := by decide +kernel
theorem dX7_putElement_20 : decode cX7_putElement 20 = .ok (.iconst 0, 1) := by decide +kernel
theorem dX7_putElement_21 : decode cX7_putElement 21 = .ok (.iadd, 1) := by decide +kernel
theorem dX7_putElement_22 : decode cX7_putElement 22 = .ok (.iload_n 1, 1) := by decide +kernel
theorem dX7_putElement_23 : decode cX7_putElement 23 = .ok (.iastore, 1) := by decide +kernel
theorem dX7_putElement_24 : decode cX7_putElement 24 = .ok (.aload_n 0, 1) := by decide +kernel
theorem dX7_putElement_25 : decode cX7_putElement 25 = .ok (.getfield 7, 3) := by decide +kernel
theorem dX7_putElement_28 : decode cX7_putElement 28 = .ok (.iload 4, 2) := by decide +kernel
theorem dX7_putElement_30 : decode cX7_putElement 30 = .ok (.iconst 1, 1) := by decide +kernel
theorem dX7_putElement_31 : decode cX7_putElement 31 = .ok (.iadd, 1) := by decide +kernel
theorem dX7_putElement_32 : decode cX7_putElement 32 = .ok (.iload_n 2, 1) := by decide +kernel
theorem dX7_putElement_33 : decode cX7_putElement 33 = .ok (.iastore, 1) := by decide +kernel
theorem dX7_putElement_34 : decode cX7_putElement 34 = .ok (.aload_n 0, 1) := by decide +kernel
theorem dX7_putElement_35 : decode cX7_putElement 35 = .ok (.getfield 7, 3) := by decide +kernel
theorem dX7_putElement_38 : decode cX7_putElement 38 = .ok (.iload 4, 2) := by decide +kernel
theorem dX7_putElement_40 : decode cX7_putElement 40 = .ok (.iconst 2, 1) := by decide +kernel
theorem dX7_putElement_41 : decode cX7_putElement 41 = .ok (.iadd, 1) := by decide +kernel
theorem dX7_putElement_42 : decode cX7_putElement 42 = .ok (.iload_n 3, 1) := by decide +kernel
theorem dX7_putElement_43 : decode cX7_putElement 43 = .ok (.iastore, 1) := by decide +kernel
theorem dX7_putElement_44 : decode cX7_putElement 44 = .ok (.aload_n 0, 1) := by decide +kernel
theorem dX7_putElement_45 : decode cX7_putElement 45 = .ok (.getfield 7, 3) := by decide +kernel
theorem dX7_putElement_48 : decode cX7_putElement 48 = .ok (.iload 4, 2) := by decide +kernel
theorem dX7_putElement_50 : decode cX7_putElement 50 = .ok (.iconst 3, 1) := by decide +kernel
theorem dX7_putElement_51 : decode cX7_putElement 51 = .ok (.iadd, 1) := by decide +kernel
theorem dX7_putElement_52 : decode cX7_putElement 52 = .ok (.iconst 0, 1) := by decide +kernel
theorem dX7_putElement_53 : decode cX7_putElement 53 = .ok (.iastore, 1) := by decide +kernel
theorem dX7_putElement_54 : decode cX7_putElement 54 = .ok (.aload_n 0, 1) := by decide +kernel
theorem dX7_putElement_55 : decode cX7_putElement 55 = .ok (.getfield 7, 3) := by decide +kernel
theorem dX7_putElement_58 : decode cX7_putElement 58 = .ok (.iload 4, 2) := by decide +kernel
theorem dX7_putElement_60 : decode cX7_putElement 60 = .ok (.iconst 4, 1) := by decide +kernel
theorem dX7_putElement_61 : decode cX7_putElement 61 = .ok (.iadd, 1) := by decide +kernel
theorem dX7_putElement_62 : decode cX7_putElement 62 = .ok (.iconst (-1), 1) := by decide +kernel
theorem dX7_putElement_63 : decode cX7_putElement 63 = .ok (.iastore, 1) := by decide +kernel
theorem dX7_putElement_64 : decode cX7_putElement 64 = .ok (.aload_n 0, 1) := by decide +kernel
theorem dX7_putElement_65 : decode cX7_putElement 65 = .ok (.getfield 7, 3) := by decide +kernel
theorem dX7_putElement_68 : decode cX7_putElement 68 = .ok (.bipush 7, 2) := by decide +kernel
theorem dX7_putElement_70 : decode cX7_putElement 70 = .ok (.dup2, 1) := by decide +kernel
theorem dX7_putElement_71 : decode cX7_putElement 71 = .ok (.iaload, 1) := by decide +kernel
theorem dX7_putElement_72 : decode cX7_putElement 72 = .ok (.iconst 1, 1) := by decide +kernel
theorem dX7_putElement_73 : decode cX7_putElement 73 = .ok (.iadd, 1) := by decide +kernel
theorem dX7_putElement_74 : decode cX7_putElement 74 = .ok (.iastore, 1) := by decide +kernel
theorem dX7_putElement_75 : decode cX7_putElement 75 = .ok (.return_, 1) := by decide +kernel
theorem dX7_putFiller_0 : decode cX7_putFiller 0 = .ok (.bipush 70, 2) := by decide +kernel
theorem dX7_putFiller_2 : decode cX7_putFiller 2 = .ok (.iconst 3, 1) := by decide +kernel
theorem dX7_putFiller_3 : decode cX7_putFiller 3 = .ok (.aload_n 0, 1) := by decide +kernel
theorem dX7_putFiller_4 : decode cX7_putFiller 4 = .ok (.getfield 7, 3) := by decide +kernel
theorem dX7_putFiller_7 : decode cX7_putFiller 7 = .ok (.bipush 8, 2) := by decide +kernel
theorem dX7_putFiller_9 : decode cX7_putFiller 9 = .ok (.iaload, 1) := by decide +kernel
theorem dX7_putFiller_10 : decode cX7_putFiller 10 = .ok (.imul, 1) := by decide +kernel
theorem dX7_putFiller_11 : decode cX7_putFiller 11 = .ok (.iadd, 1) := by decide +kernel
theorem dX7_putFiller_12 : decode cX7_putFiller 12 = .ok (.istore_n 2, 1) := by decide +kernel
theorem dX7_putFiller_13 : decode cX7_putFiller 13 = .ok (.aload_n 0, 1) := by decide +kernel
theorem dX7_putFiller_14 : decode cX7_putFiller 14 = .ok (.getfield 7, 3) := by decide +kernel
theorem dX7_putFiller_17 : decode cX7_putFiller 17 = .ok (.iload_n 2, 1) := by decide +kernel
theorem dX7_putFiller_18 : decode cX7_putFiller 18 = .ok (.iconst 0, 1) := by decide +kernel
theorem dX7_putFiller_19 : decode cX7_putFiller 19 = .ok (.iadd, 1) := by decide +kernel
theorem dX7_putFiller_20 : decode cX7_putFiller 20 = .ok (.iload_n 1, 1) := by decide +kernel
theorem dX7_putFiller_21 : decode cX7_putFiller 21 = .ok (.iastore, 1) := by decide +kernel
theorem dX7_putFiller_22 : decode cX7_putFiller 22 = .ok (.aload_n 0, 1) := by decide +kernel
theorem dX7_putFiller_23 : decode cX7_putFiller 23 = .ok (.getfield 7, 3) := by decide +kernel
theorem dX7_putFiller_26 : decode cX7_putFiller 26 = .ok (.iload_n 2, 1) := by decide +kernel
theorem dX7_putFiller_27 : decode cX7_putFiller 27 = .ok (.iconst 1, 1) := by decide +kernel
theorem dX7_putFiller_28 : decode cX7_putFiller 28 = .ok (.iadd, 1) := by decide +kernel
theorem dX7_putFiller_29 : decode cX7_putFiller 29 = .ok (.iconst 0, 1) := by decide +kernel
theorem dX7_putFiller_30 : decode cX7_putFiller 30 = .ok (.iastore, 1) := by decide +kernel
theorem dX7_putFiller_31 : decode cX7_putFiller 31 = .ok (.aload_n 0, 1) := by decide +kernel
theorem dX7_putFiller_32 : decode cX7_putFiller 32 = .ok (.getfield 7, 3) := by decide +kernel
theorem dX7_putFiller_35 : decode cX7_putFiller 35 = .ok (.iload_n 2, 1) := by decide +kernel
theorem dX7_putFiller_36 : decode cX7_putFiller 36 = .ok (.iconst 2, 1) := by decide +kernel
theorem dX7_putFiller_37 : decode cX7_putFiller 37 = .ok (.iadd, 1) := by decide +kernel
theorem dX7_putFiller_38 : decode cX7_putFiller 38 = .ok (.iconst (-1), 1) := by decide +kernel
theorem dX7_putFiller_39 : decode cX7_putFiller 39 = .ok (.iastore, 1) := by decide +kernel
theorem dX7_putFiller_40 : decode cX7_putFiller 40 = .ok (.aload_n 0, 1) := by decide +kernel
theorem dX7_putFiller_41 : decode cX7_putFiller 41 = .ok (.getfield 7, 3) := by decide +kernel
theorem dX7_putFiller_44 : decode cX7_putFiller 44 = .ok (.bipush 8, 2) := by decide +kernel
theorem dX7_putFiller_46 : decode cX7_putFiller 46 = .ok (.dup2, 1) := by decide +kernel
theorem dX7_putFiller_47 : decode cX7_putFiller 47 = .ok (.iaload, 1) := by decide +kernel
theorem dX7_putFiller_48 : decode cX7_putFiller 48 = .ok (.iconst 1, 1) := by decide +kernel
theorem dX7_putFiller_49 : decode cX7_putFiller 49 = .ok (.iadd, 1) := by decide +kernel
theorem dX7_putFiller_50 : decode cX7_putFiller 50 = .ok (.iastore, 1) := by decide +kernel
theorem dX7_putFiller_51 : decode cX7_putFiller 51 = .ok (.return_, 1) := by decide +kernel
theorem dX7_addElement_0 : decode cX7_addElement 0 = .ok (.iload_n 1, 1) := by decide +kernel
theorem dX7_addElement_1 : decode cX7_addElement 1 = .ok (.iconst 1, 1) := by decide +kernel
theorem dX7_addElement_2 : decode cX7_addElement 2 = .ok (.sipush 1800, 3) := by decide +kernel
theorem dX7_addElement_5 : decode cX7_addElement 5 = .ok (.invokestatic 110, 3) := by decide +kernel
theorem dX7_addElement_8 : decode cX7_addElement 8 = .ok (.ifCond .eq 24, 3) := by decide +kernel
theorem dX7_addElement_11 : decode cX7_addElement 11 = .ok (.iload_n 2, 1) := by decide +kernel
theorem dX7_addElement_12 : decode cX7_addElement 12 = .ok (.iconst (-1), 1) := by decide +kernel
theorem dX7_addElement_13 : decode cX7_addElement 13 = .ok (.sipush 3599, 3) := by decide +kernel
theorem dX7_addElement_16 : decode cX7_addElement 16 = .ok (.invokestatic 110, 3) := by decide +kernel
theorem dX7_addElement_19 : decode cX7_addElement 19 = .ok (.ifCond .eq 13, 3) := by decide +kernel
theorem dX7_addElement_22 : decode cX7_addElement 22 = .ok (.iload_n 3, 1) := by decide +kernel
theorem dX7_addElement_23 : decode cX7_addElement 23 = .ok (.iconst 0, 1) := by decide +kernel
theorem dX7_addElement_24 : decode cX7_addElement 24 = .ok (.bipush 9, 2) := by decide +kernel
theorem dX7_addElement_26 : decode cX7_addElement 26 = .ok (.invokestatic 110, 3) := by decide +kernel
theorem dX7_addElement_29 : decode cX7_addElement 29 = .ok (.ifCond .ne 9, 3) := by decide +kernel
theorem dX7_addElement_32 : decode cX7_addElement 32 = .ok (.aload_n 0, 1) := by decide +kernel
theorem dX7_addElement_33 : decode cX7_addElement 33 = .ok (.iconst 1, 1) := by decide +kernel
theorem dX7_addElement_34 : decode cX7_addElement 34 = .ok (.invokevirtual 114, 3) := by decide +kernel
theorem dX7_addElement_37 : decode cX7_addElement 37 = .ok (.ireturn, 1) := by decide +kernel
theorem dX7_addElement_38 : decode cX7_addElement 38 = .ok (.aload_n 0, 1) := by decide +kernel
theorem dX7_addElement_39 : decode cX7_addElement 39 = .ok (.getfield 7, 3) := by decide +kernel
theorem dX7_addElement_42 : decode cX7_addElement 42 = .ok (.bipush 7, 2) := by decide +kernel
theorem dX7_addElement_44 : decode cX7_addElement 44 = .ok (.iaload, 1) := by decide +kernel
theorem dX7_addElement_45 : decode cX7_addElement 45 = .ok (.bipush 12, 2) := by decide +kernel
theorem dX7_addElement_47 : decode cX7_addElement 47 = .ok (.if_icmp .eq 13, 3) := by decide +kernel
theorem dX7_addElement_50 : decode cX7_addElement 50 = .ok (.aload_n 0, 1) := by decide +kernel
theorem dX7_addElement_51 : decode cX7_addElement 51 = .ok (.getfield 7, 3) := by decide +kernel
theorem dX7_addElement_54 : decode cX7_addElement 54 = .ok (.iconst 1, 1) := by decide +kernel
theorem dX7_addElement_55 : decode cX7_addElement 55 = .ok (.iaload, 1) := by decide +kernel
theorem dX7_addElement_56 : decode cX7_addElement 56 = .ok (.iconst 1, 1) := by decide +kernel
theorem dX7_addElement_57 : decode cX7_addElement 57 = .ok (.if_icmp .ne 9, 3) := by decide +kernel
theorem dX7_addElement_60 : decode cX7_addElement 60 = .ok (.aload_n 0, 1) := by decide +kernel
theorem dX7_addElement_61 : decode cX7_addElement 61 = .ok (.iconst 2, 1) := by decide +kernel
theorem dX7_addElement_62 : decode cX7_addElement 62 = .ok (.invokevirtual 114, 3) := by decide +kernel
theorem dX7_addElement_65 : decode cX7_addElement 65 = .ok (.ireturn, 1) := by decide +kernel
theorem dX7_addElement_66 : decode cX7_addElement 66 = .ok (.aload_n 0, 1) := by decide +kernel
theorem dX7_addElement_67 : decode cX7_addElement 67 = .ok (.invokevirtual 117, 3) := by decide +kernel
theorem dX7_addElement_70 : decode cX7_addElement 70 = .ok (.aload_n 0, 1) := by decide +kernel
theorem dX7_addElement_71 : decode cX7_addElement 71 = .ok (.iload_n 1, 1) := by decide +kernel
theorem dX7_addElement_72 : decode cX7_addElement 72 = .ok (.iload_n 2, 1) := by decide +kernel
theorem dX7_addElement_73 : decode cX7_addElement 73 = .ok (.iload_n 3, 1) := by decide +kernel
theorem dX7_addElement_74 : decode cX7_addElement 74 = .ok (.invokevirtual 120, 3) := by decide +kernel
theorem dX7_addElement_77 : decode cX7_addElement 77 = .ok (.aload_n 0, 1) := by decide +kernel
theorem dX7_addElement_78 : decode cX7_addElement 78 = .ok (.getfield 7, 3) := by decide +kernel
theorem dX7_addElement_81 : decode cX7_addElement 81 = .ok (.bipush 7, 2) := by decide +kernel
theorem dX7_addElement_83 : decode cX7_addElement 83 = .ok (.iaload, 1) := by decide +kernel
theorem dX7_addElement_84 : decode cX7_addElement 84 = .ok (.iconst 1, 1) := by decide +kernel
theorem dX7_addElement_85 : decode cX7_addElement 85 = .ok (.isub, 1) := by decide +kernel
theorem dX7_addElement_86 : decode cX7_addElement 86 = .ok (.ireturn, 1) := by decide +kernel
theorem dX7_addFiller_0 : decode cX7_addFiller 0 = .ok (.iload_n 1, 1) := by decide +kernel
theorem dX7_addFiller_1 : decode cX7_addFiller 1 = .ok (.iconst 1, 1) := by decide +kernel
theorem dX7_addFiller_2 : decode cX7_addFiller 2 = .ok (.sipush 900, 3) := by decide +kernel
theorem dX7_addFiller_5 : decode cX7_addFiller 5 = .ok (.invokestatic 110, 3) := by decide +kernel
theorem dX7_addFiller_8 : decode cX7_addFiller 8 = .ok (.ifCond .ne 9, 3) := by decide +kernel
theorem dX7_addFiller_11 : decode cX7_addFiller 11 = .ok (.aload_n 0, 1) := by decide +kernel
theorem dX7_addFiller_12 : decode cX7_addFiller 12 = .ok (.iconst 1, 1) := by decide +kernel
theorem dX7_addFiller_13 : decode cX7_addFiller 13 = .ok (.invokevirtual 114, 3) := by decide +kernel
theorem dX7_addFiller_16 : decode cX7_addFiller 16 = .ok (.ireturn, 1) := by decide +kernel
theorem dX7_addFiller_17 : decode cX7_addFiller 17 = .ok (.aload_n 0, 1) := by decide +kernel
theorem dX7_addFiller_18 : decode cX7_addFiller 18 = .ok (.getfield 7, 3) := by decide +kernel
theorem dX7_addFiller_21 : decode cX7_addFiller 21 = .ok (.bipush 8, 2) := by decide +kernel
theorem dX7_addFiller_23 : decode cX7_addFiller 23 = .ok (.iaload, 1) := by decide +kernel
theorem dX7_addFiller_24 : decode cX7_addFiller 24 = .ok (.bipush 10, 2) := by decide +kernel
theorem dX7_addFiller_26 : decode cX7_addFiller 26 = .ok (.if_icmp .eq 13, 3) := by decide +kernel
theorem dX7_addFiller_29 : decode cX7_addFiller 29 = .ok (.aload_n 0, 1) := by decide +kernel
theorem dX7_addFiller_30 : decode cX7_addFiller 30 = .ok (.getfield 7, 3) := by decide +kernel
theorem dX7_addFiller_33 : decode cX7_addFiller 33 = .ok (.iconst 1, 1) := by decide +kernel
theorem dX7_addFiller_34 : decode cX7_addFiller 34 = .ok (.iaload, 1) := by decide +kernel
theorem dX7_addFiller_35 : decode cX7_addFiller 35 = .ok (.iconst 1, 1) := by decide +kernel
theorem dX7_addFiller_36 : decode cX7_addFiller 36 = .ok (.if_icmp .ne 9, 3) := by decide +kernel
theorem dX7_addFiller_39 : decode cX7_addFiller 39 = .ok (.aload_n 0, 1) := by decide +kernel
theorem dX7_addFiller_40 : decode cX7_addFiller 40 = .ok (.iconst 2, 1) := by decide +kernel
theorem dX7_addFiller_41 : decode cX7_addFiller 41 = .ok (.invokevirtual 114, 3) := by decide +kernel
theorem dX7_addFiller_44 : decode cX7_addFiller 44 = .ok (.ireturn, 1) := by decide +kernel
theorem dX7_addFiller_45 : decode cX7_addFiller 45 = .ok (.aload_n 0, 1) := by decide +kernel
theorem dX7_addFiller_46 : decode cX7_addFiller 46 = .ok (.invokevirtual 117, 3) := by decide +kernel
theorem dX7_addFiller_49 : decode cX7_addFiller 49 = .ok (.aload_n 0, 1) := by decide +kernel
theorem dX7_addFiller_50 : decode cX7_addFiller 50 = .ok (.iload_n 1, 1) := by decide +kernel
theorem dX7_addFiller_51 : decode cX7_addFiller 51 = .ok (.invokevirtual 123, 3) := by decide +kernel
theorem dX7_addFiller_54 : decode cX7_addFiller 54 = .ok (.aload_n 0, 1) := by decide +kernel
theorem dX7_addFiller_55 : decode cX7_addFiller 55 = .ok (.getfield 7, 3) := by decide +kernel
theorem dX7_addFiller_58 : decode cX7_addFiller 58 = .ok (.bipush 8, 2) := by decide +kernel
theorem dX7_addFiller_60 : decode cX7_addFiller 60 = .ok (.iaload, 1) := by decide +kernel
theorem dX7_addFiller_61 : decode cX7_addFiller 61 = .ok (.iconst 1, 1) := by decide +kernel
theorem dX7_addFiller_62 : decode cX7_addFiller 62 = .ok (.isub, 1) := by decide +kernel
theorem dX7_addFiller_63 : decode cX7_addFiller 63 = .ok (.ireturn, 1) := by decide +kernel
theorem dX7_canBe_0 : decode cX7_canBe 0 = .ok (.iload_n 2, 1) := by decide +kernel
theorem dX7_canBe_1 : decode cX7_canBe 1 = .ok (.iconst 1, 1) := by decide +kernel
theorem dX7_canBe_2 : decode cX7_canBe 2 = .ok (.sipush 3600, 3) := by decide +kernel
theorem dX7_canBe_5 : decode cX7_canBe 5 = .ok (.invokestatic 110, 3) := by decide +kernel
theorem dX7_canBe_8 : decode cX7_canBe 8 = .ok (.ifCond .eq 17, 3) := by decide +kernel
theorem dX7_canBe_11 : decode cX7_canBe 11 = .ok (.aload_n 0, 1) := by decide +kernel
theorem dX7_canBe_12 : decode cX7_canBe 12 = .ok (.iload_n 1, 1) := by decide +kernel
theorem dX7_canBe_13 : decode cX7_canBe 13 = .ok (.iconst 3, 1) := by decide +kernel
theorem dX7_canBe_14 : decode cX7_canBe 14 = .ok (.invokevirtual 32, 3) := by decide +kernel
theorem dX7_canBe_17 : decode cX7_canBe 17 = .ok (.iconst 2, 1) := by decide +kernel
theorem dX7_canBe_18 : decode cX7_canBe 18 = .ok (.if_icmp .ge 7, 3) := by decide +kernel
theorem dX7_canBe_21 : decode cX7_canBe 21 = .ok (.iconst 1, 1) := by decide +kernel
theorem dX7_canBe_22 : decode cX7_canBe 22 = .ok (.goto 4, 3) := by decide +kernel
theorem dX7_canBe_25 : decode cX7_canBe 25 = .ok (.iconst 0, 1) := by decide +kernel
theorem dX7_canBe_26 : decode cX7_canBe 26 = .ok (.istore_n 3, 1) := by decide +kernel
theorem dX7_canBe_27 : decode cX7_canBe 27 = .ok (.iload_n 3, 1) := by decide +kernel
theorem dX7_canBe_28 : decode cX7_canBe 28 = .ok (.ifCond .eq 33, 3) := by decide +kernel
theorem dX7_canBe_31 : decode cX7_canBe 31 = .ok (.aload_n 0, 1) := by decide +kernel
theorem dX7_canBe_32 : decode cX7_canBe 32 = .ok (.iload_n 1, 1) := by decide +kernel
theorem dX7_canBe_33 : decode cX7_canBe 33 = .ok (.iconst 3, 1) := by decide +kernel
theorem dX7_canBe_34 : decode cX7_canBe 34 = .ok (.invokevirtual 32, 3) := by decide +kernel
theorem dX7_canBe_37 : decode cX7_canBe 37 = .ok (.ifCond .eq 20, 3) := by decide +kernel
theorem dX7_canBe_40 : decode cX7_canBe 40 = .ok (.aload_n 0, 1) := by decide +kernel
theorem dX7_canBe_41 : decode cX7_canBe 41 = .ok (.iload_n 1, 1) := by decide +kernel
theorem dX7_canBe_42 : decode cX7_canBe 42 = .ok (.iconst 4, 1) := by decide +kernel
theorem dX7_canBe_43 : decode cX7_canBe 43 = .ok (.invokevirtual 32, 3) := by decide +kernel
theorem dX7_canBe_46 : decode cX7_canBe 46 = .ok (.iload_n 2, 1) := by decide +kernel
theorem dX7_canBe_47 : decode cX7_canBe 47 = .ok (.iadd, 1) := by decide +kernel
theorem dX7_canBe_48 : decode cX7_canBe 48 = .ok (.aload_n 0, 1) := by decide +kernel
theorem dX7_canBe_49 : decode cX7_canBe 49 = .ok (.getfield 7, 3) := by decide +kernel
theorem dX7_canBe_52 : decode cX7_canBe 52 = .ok (.iconst 0, 1) := by decide +kernel
theorem dX7_canBe_53 : decode cX7_canBe 53 = .ok (.iaload, 1) := by decide +kernel
theorem dX7_canBe_54 : decode cX7_canBe 54 = .ok (.if_icmp .lt 7, 3) := by decide +kernel
theorem dX7_canBe_57 : decode cX7_canBe 57 = .ok (.iconst 1, 1) := by decide +kernel
theorem dX7_canBe_58 : decode cX7_canBe 58 = .ok (.goto 4, 3) := by decide +kernel
theorem dX7_canBe_61 : decode cX7_canBe 61 = .ok (.iconst 0, 1) := by decide +kernel
theorem dX7_canBe_62 : decode cX7_canBe 62 = .ok (.ireturn, 1) := by decide +kernel
theorem dX7_stretch_0 : decode cX7_stretch 0 = .ok (.aload_n 0, 1) := by decide +kernel
theorem dX7_stretch_1 : decode cX7_stretch 1 = .ok (.iload_n 1, 1) := by decide +kernel
theorem dX7_stretch_2 : decode cX7_stretch 2 = .ok (.invokevirtual 126, 3) := by decide +kernel
theorem dX7_stretch_5 : decode cX7_stretch 5 = .ok (.ifCond .ne 9, 3) := by decide +kernel
theorem dX7_stretch_8 : decode cX7_stretch 8 = .ok (.aload_n 0, 1) := by decide +kernel
theorem dX7_stretch_9 : decode cX7_stretch 9 = .ok (.iconst 1, 1) := by decide +kernel
theorem dX7_stretch_10 : decode cX7_stretch 10 = .ok (.invokevirtual 114, 3) := by decide +kernel
theorem dX7_stretch_13 : decode cX7_stretch 13 = .ok (.ireturn, 1) := by decide +kernel
theorem dX7_stretch_14 : decode cX7_stretch 14 = .ok (.iload_n 2, 1) := by decide +kernel
theorem dX7_stretch_15 : decode cX7_stretch 15 = .ok (.sipush (-1800), 3) := by decide +kernel
theorem dX7_stretch_18 : decode cX7_stretch 18 = .ok (.sipush 1800, 3) := by decide +kernel
theorem dX7_stretch_21 : decode cX7_stretch 21 = .ok (.invokestatic 110, 3) := by decide +kernel
theorem dX7_stretch_24 : decode cX7_stretch 24 = .ok (.ifCond .ne 9, 3) := by decide +kernel
theorem dX7_stretch_27 : decode cX7_stretch 27 = .ok (.aload_n 0, 1) := by decide +kernel
theorem dX7_stretch_28 : decode cX7_stretch 28 = .ok (.iconst 2, 1) := by decide +kernel
theorem dX7_stretch_29 : decode cX7_stretch 29 = .ok (.invokevirtual 114, 3) := by decide +kernel
theorem dX7_stretch_32 : decode cX7_stretch 32 = .ok (.ireturn, 1) := by decide +kernel
theorem dX7_stretch_33 : decode cX7_stretch 33 = .ok (.aload_n 0, 1) := by decide +kernel
theorem dX7_stretch_34 : decode cX7_stretch 34 = .ok (.iload_n 1, 1) := by decide +kernel
theorem dX7_stretch_35 : decode cX7_stretch 35 = .ok (.iconst 0, 1) := by decide +kernel
theorem dX7_stretch_36 : decode cX7_stretch 36 = .ok (.invokevirtual 32, 3) := by decide +kernel
theorem dX7_stretch_39 : decode cX7_stretch 39 = .ok (.iload_n 2, 1) := by decide +kernel
theorem dX7_stretch_40 : decode cX7_stretch 40 = .ok (.iadd, 1) := by decide +kernel
theorem dX7_stretch_41 : decode cX7_stretch 41 = .ok (.istore_n 3, 1) := by decide +kernel
theorem dX7_stretch_42 : decode cX7_stretch 42 = .ok (.aload_n 0, 1) := by decide +kernel
theorem dX7_stretch_43 : decode cX7_stretch 43 = .ok (.iload_n 1, 1) := by decide +kernel
theorem dX7_stretch_44 : decode cX7_stretch 44 = .ok (.iload_n 3, 1) := by decide +kernel
theorem dX7_stretch_45 : decode cX7_stretch 45 = .ok (.invokevirtual 129, 3) := by decide +kernel
theorem dX7_stretch_48 : decode cX7_stretch 48 = .ok (.ifCond .ne 9, 3) := by decide +kernel
theorem dX7_stretch_51 : decode cX7_stretch 51 = .ok (.aload_n 0, 1) := by decide +kernel
theorem dX7_stretch_52 : decode cX7_stretch 52 = .ok (.iconst 3, 1) := by decide +kernel
theorem dX7_stretch_53 : decode cX7_stretch 53 = .ok (.invokevirtual 114, 3) := by decide +kernel
theorem dX7_stretch_56 : decode cX7_stretch 56 = .ok (.ireturn, 1) := by decide +kernel
theorem dX7_stretch_57 : decode cX7_stretch 57 = .ok (.aload_n 0, 1) := by decide +kernel
theorem dX7_stretch_58 : decode cX7_stretch 58 = .ok (.invokevirtual 117, 3) := by decide +kernel
theorem dX7_stretch_61 : decode cX7_stretch 61 = .ok (.aload_n 0, 1) := by decide +kernel
theorem dX7_stretch_62 : decode cX7_stretch 62 = .ok (.getfield 7, 3) := by decide +kernel
theorem dX7_stretch_65 : decode cX7_stretch 65 = .ok (.bipush 10, 2) := by decide +kernel
theorem dX7_stretch_67 : decode cX7_stretch 67 = .ok (.iconst 5, 1) := by decide +kernel
theorem dX7_stretch_68 : decode cX7_stretch 68 = .ok (.iload_n 1, 1) := by decide +kernel
theorem dX7_stretch_69 : decode cX7_stretch 69 = .ok (.imul, 1) := by decide +kernel
theorem dX7_stretch_70 : decode cX7_stretch 70 = .ok (.iadd, 1) := by decide +kernel
theorem dX7_stretch_71 : decode cX7_stretch 71 = .ok (.iconst 0, 1) := by decide +kernel
theorem dX7_stretch_72 : decode cX7_stretch 72 = .ok (.iadd, 1) := by decide +kernel
theorem dX7_stretch_73 : decode cX7_stretch 73 = .ok (.iload_n 3, 1) := by decide +kernel
theorem dX7_stretch_74 : decode cX7_stretch 74 = .ok (.iastore, 1) := by decide +kernel
theorem dX7_stretch_75 : decode cX7_stretch 75 = .ok (.aload_n 0, 1) := by decide +kernel
theorem dX7_stretch_76 : decode cX7_stretch 76 = .ok (.iload_n 1, 1) := by decide +kernel
theorem dX7_stretch_77 : decode cX7_stretch 77 = .ok (.iconst 3, 1) := by decide +kernel
theorem dX7_stretch_78 : decode cX7_stretch 78 = .ok (.invokevirtual 32, 3) := by decide +kernel
theorem dX7_stretch_81 : decode cX7_stretch 81 = .ok (.iconst 1, 1) := by decide +kernel
theorem dX7_stretch_82 : decode cX7_stretch 82 = .ok (.if_icmp .ne 36, 3) := by decide +kernel
theorem dX7_stretch_85 : decode cX7_stretch 85 = .ok (.aload_n 0, 1) := by decide +kernel
theorem dX7_stretch_86 : decode cX7_stretch 86 = .ok (.getfield 7, 3) := by decide +kernel
theorem dX7_stretch_89 : decode cX7_stretch 89 = .ok (.iconst 4, 1) := by decide +kernel
theorem dX7_stretch_90 : decode cX7_stretch 90 = .ok (.aload_n 0, 1) := by decide +kernel
theorem dX7_stretch_91 : decode cX7_stretch 91 = .ok (.iload_n 1, 1) := by decide +kernel
theorem dX7_stretch_92 : decode cX7_stretch 92 = .ok (.iconst 4, 1) := by decide +kernel
theorem dX7_stretch_93 : decode cX7_stretch 93 = .ok (.invokevirtual 32, 3) := by decide +kernel
theorem dX7_stretch_96 : decode cX7_stretch 96 = .ok (.iload_n 3, 1) := by decide +kernel
theorem dX7_stretch_97 : decode cX7_stretch 97 = .ok (.iadd, 1) := by decide +kernel
theorem dX7_stretch_98 : decode cX7_stretch 98 = .ok (.iastore, 1) := by decide +kernel
theorem dX7_stretch_99 : decode cX7_stretch 99 = .ok (.aload_n 0, 1) := by decide +kernel
theorem dX7_stretch_100 : decode cX7_stretch 100 = .ok (.getfield 7, 3) := by decide +kernel
theorem dX7_stretch_103 : decode cX7_stretch 103 = .ok (.iconst 4, 1) := by decide +kernel
theorem dX7_stretch_104 : decode cX7_stretch 104 = .ok (.iaload, 1) := by decide +kernel
theorem dX7_stretch_105 : decode cX7_stretch 105 = .ok (.aload_n 0, 1) := by decide +kernel
theorem dX7_stretch_106 : decode cX7_stretch 106 = .ok (.getfield 7, 3) := by decide +kernel
theorem dX7_stretch_109 : decode cX7_stretch 109 = .ok (.iconst 0, 1) := by decide +kernel
theorem dX7_stretch_110 : decode cX7_stretch 110 = .ok (.iaload, 1) := by decide +kernel
theorem dX7_stretch_111 : decode cX7_stretch 111 = .ok (.if_icmp .ne 7, 3) := by decide +kernel
theorem dX7_stretch_114 : decode cX7_stretch 114 = .ok (.aload_n 0, 1) := by decide +kernel
theorem dX7_stretch_115 : decode cX7_stretch 115 = .ok (.invokevirtual 99, 3) := by decide +kernel
theorem dX7_stretch_118 : decode cX7_stretch 118 = .ok (.iload_n 3, 1) := by decide +kernel
theorem dX7_stretch_119 : decode cX7_stretch 119 = .ok (.ireturn, 1) := by decide +kernel
theorem dX7_inStatus_0 : decode cX7_inStatus 0 = .ok (.iconst 0, 1) := by decide +kernel
theorem dX7_inStatus_1 : decode cX7_inStatus 1 = .ok (.istore_n 2, 1) := by decide +kernel
theorem dX7_inStatus_2 : decode cX7_inStatus 2 = .ok (.iconst 0, 1) := by decide +kernel
theorem dX7_inStatus_3 : decode cX7_inStatus 3 = .ok (.istore_n 3, 1) := by decide +kernel
theorem dX7_inStatus_4 : decode cX7_inStatus 4 = .ok (.iload_n 3, 1) := by decide +kernel
theorem dX7_inStatus_5 : decode cX7_inStatus 5 = .ok (.aload_n 0, 1) := by decide +kernel
theorem dX7_inStatus_6 : decode cX7_inStatus 6 = .ok (.getfield 7, 3) := by decide +kernel
theorem dX7_inStatus_9 : decode cX7_inStatus 9 = .ok (.bipush 7, 2) := by decide +kernel
theorem dX7_inStatus_11 : decode cX7_inStatus 11 = .ok (.iaload, 1) := by decide +kernel
theorem dX7_inStatus_12 : decode cX7_inStatus 12 = .ok (.if_icmp .ge 27, 3) := by decide +kernel
theorem dX7_inStatus_15 : decode cX7_inStatus 15 = .ok (.iload_n 2, 1) := by decide +kernel
theorem dX7_inStatus_16 : decode cX7_inStatus 16 = .ok (.aload_n 0, 1) := by decide +kernel
theorem dX7_inStatus_17 : decode cX7_inStatus 17 = .ok (.iload_n 3, 1) := by decide +kernel
theorem dX7_inStatus_18 : decode cX7_inStatus 18 = .ok (.iconst 3, 1) := by decide +kernel
theorem dX7_inStatus_19 : decode cX7_inStatus 19 = .ok (.invokevirtual 32, 3) := by decide +kernel
theorem dX7_inStatus_22 : decode cX7_inStatus 22 = .ok (.iload_n 1, 1) := by decide +kernel
theorem dX7_inStatus_23 : decode cX7_inStatus 23 = .ok (.if_icmp .ne 7, 3) := by decide +kernel
theorem dX7_inStatus_26 : decode cX7_inStatus 26 = .ok (.iconst 1, 1) := by decide +kernel
theorem dX7_inStatus_27 : decode cX7_inStatus 27 = .ok (.goto 4, 3) := by decide +kernel
theorem dX7_inStatus_30 : decode cX7_inStatus 30 = .ok (.iconst 0, 1) := by decide +kernel
theorem dX7_inStatus_31 : decode cX7_inStatus 31 = .ok (.iadd, 1) := by decide +kernel
theorem dX7_inStatus_32 : decode cX7_inStatus 32 = .ok (.istore_n 2, 1) := by decide +kernel
theorem dX7_inStatus_33 : decode cX7_inStatus 33 = .ok (.iinc 3 1, 3) := by decide +kernel
theorem dX7_inStatus_36 : decode cX7_inStatus 36 = .ok (.goto (-32), 3) := by decide +kernel
theorem dX7_inStatus_39 : decode cX7_inStatus 39 = .ok (.iload_n 2, 1) := by decide +kernel
theorem dX7_inStatus_40 : decode cX7_inStatus 40 = .ok (.ireturn, 1) := by decide +kernel
theorem dX7_drop_0 : decode cX7_drop 0 = .ok (.aload_n 0, 1) := by decide +kernel
theorem dX7_drop_1 : decode cX7_drop 1 = .ok (.iload_n 1, 1) := by decide +kernel
theorem dX7_drop_2 : decode cX7_drop 2 = .ok (.invokevirtual 126, 3) := by decide +kernel
theorem dX7_drop_5 : decode cX7_drop 5 = .ok (.ifCond .ne 9, 3) := by decide +kernel
theorem dX7_drop_8 : decode cX7_drop 8 = .ok (.aload_n 0, 1) := by decide +kernel
theorem dX7_drop_9 : decode cX7_drop 9 = .ok (.iconst 1, 1) := by decide +kernel
theorem dX7_drop_10 : decode cX7_drop 10 = .ok (.invokevirtual 114, 3) := by decide +kernel
theorem dX7_drop_13 : decode cX7_drop 13 = .ok (.ireturn, 1) := by decide +kernel
theorem dX7_drop_14 : decode cX7_drop 14 = .ok (.aload_n 0, 1) := by decide +kernel
theorem dX7_drop_15 : decode cX7_drop 15 = .ok (.iload_n 1, 1) := by decide +kernel
theorem dX7_drop_16 : decode cX7_drop 16 = .ok (.invokevirtual 36, 3) := by decide +kernel
theorem dX7_drop_19 : decode cX7_drop 19 = .ok (.ifCond .ne 9, 3) := by decide +kernel
theorem dX7_drop_22 : decode cX7_drop 22 = .ok (.aload_n 0, 1) := by decide +kernel
theorem dX7_drop_23 : decode cX7_drop 23 = .ok (.iconst 2, 1) := by decide +kernel
theorem dX7_drop_24 : decode cX7_drop 24 = .ok (.invokevirtual 114, 3) := by decide +kernel
theorem dX7_drop_27 : decode cX7_drop 27 = .ok (.ireturn, 1) := by decide +kernel
theorem dX7_drop_28 : decode cX7_drop 28 = .ok (.aload_n 0, 1) := by decide +kernel
theorem dX7_drop_29 : decode cX7_drop 29 = .ok (.invokevirtual 117, 3) := by decide +kernel
theorem dX7_drop_32 : decode cX7_drop 32 = .ok (.aload_n 0, 1) := by decide +kernel
theorem dX7_drop_33 : decode cX7_drop 33 = .ok (.iload_n 1, 1) := by decide +kernel
theorem dX7_drop_34 : decode cX7_drop 34 = .ok (.invokevirtual 77, 3) := by decide +kernel
theorem dX7_drop_37 : decode cX7_drop 37 = .ok (.aload_n 0, 1) := by decide +kernel
theorem dX7_drop_38 : decode cX7_drop 38 = .ok (.iconst 0, 1) := by decide +kernel
theorem dX7_drop_39 : decode cX7_drop 39 = .ok (.invokevirtual 133, 3) := by decide +kernel
theorem dX7_drop_42 : decode cX7_drop 42 = .ok (.ireturn, 1) := by decide +kernel
theorem dX7_pass_0 : decode cX7_pass 0 = .ok (.iload_n 1, 1) := by decide +kernel
theorem dX7_pass_1 : decode cX7_pass 1 = .ok (.iconst 1, 1) := by decide +kernel
theorem dX7_pass_2 : decode cX7_pass 2 = .ok (.sipush 3600, 3) := by decide +kernel
theorem dX7_pass_5 : decode cX7_pass 5 = .ok (.invokestatic 110, 3) := by decide +kernel
theorem dX7_pass_8 : decode cX7_pass 8 = .ok (.ifCond .ne 9, 3) := by decide +kernel
theorem dX7_pass_11 : decode cX7_pass 11 = .ok (.aload_n 0, 1) := by decide +kernel
theorem dX7_pass_12 : decode cX7_pass 12 = .ok (.iconst 1, 1) := by decide +kernel
theorem dX7_pass_13 : decode cX7_pass 13 = .ok (.invokevirtual 114, 3) := by decide +kernel
theorem dX7_pass_16 : decode cX7_pass 16 = .ok (.ireturn, 1) := by decide +kernel
theorem dX7_pass_17 : decode cX7_pass 17 = .ok (.aload_n 0, 1) := by decide +kernel
theorem dX7_pass_18 : decode cX7_pass 18 = .ok (.invokevirtual 117, 3) := by decide +kernel
theorem dX7_pass_21 : decode cX7_pass 21 = .ok (.aload_n 0, 1) := by decide +kernel
theorem dX7_pass_22 : decode cX7_pass 22 = .ok (.iload_n 1, 1) := by decide +kernel
theorem dX7_pass_23 : decode cX7_pass 23 = .ok (.invokevirtual 107, 3) := by decide +kernel
theorem dX7_pass_26 : decode cX7_pass 26 = .ok (.ireturn, 1) := by decide +kernel
theorem dX7_finish_0 : decode cX7_finish 0 = .ok (.aload_n 0, 1) := by decide +kernel
theorem dX7_finish_1 : decode cX7_finish 1 = .ok (.invokevirtual 117, 3) := by decide +kernel
theorem dX7_finish_4 : decode cX7_finish 4 = .ok (.aload_n 0, 1) := by decide +kernel
theorem dX7_finish_5 : decode cX7_finish 5 = .ok (.ldc 106, 2) := by decide +kernel
theorem dX7_finish_7 : decode cX7_finish 7 = .ok (.invokevirtual 107, 3) := by decide +kernel
theorem dX7_finish_10 : decode cX7_finish 10 = .ok (.istore_n 1, 1) := by decide +kernel
theorem dX7_finish_11 : decode cX7_finish 11 = .ok (.aload_n 0, 1) := by decide +kernel
theorem dX7_finish_12 : decode cX7_finish 12 = .ok (.getfield 7, 3) := by decide +kernel
theorem dX7_finish_15 : decode cX7_finish 15 = .ok (.iconst 0, 1) := by decide +kernel
theorem dX7_finish_16 : decode cX7_finish 16 = .ok (.iaload, 1) := by decide +kernel
theorem dX7_finish_17 : decode cX7_finish 17 = .ok (.sipush 3600, 3) := by decide +kernel
theorem dX7_finish_20 : decode cX7_finish 20 = .ok (.isub, 1) := by decide +kernel
theorem dX7_finish_21 : decode cX7_finish 21 = .ok (.ireturn, 1) := by decide +kernel
theorem dX7_begins_0 : decode cX7_begins 0 = .ok (.aload_n 0, 1) := by decide +kernel
theorem dX7_begins_1 : decode cX7_begins 1 = .ok (.getfield 7, 3) := by decide +kernel
theorem dX7_begins_4 : decode cX7_begins 4 = .ok (.iconst 0, 1) := by decide +kernel
theorem dX7_begins_5 : decode cX7_begins 5 = .ok (.iconst 0, 1) := by decide +kernel
theorem dX7_begins_6 : decode cX7_begins 6 = .ok (.iastore, 1) := by decide +kernel
theorem dX7_begins_7 : decode cX7_begins 7 = .ok (.aload_n 0, 1) := by decide +kernel
theorem dX7_begins_8 : decode cX7_begins 8 = .ok (.getfield 7, 3) := by decide +kernel
theorem dX7_begins_11 : decode cX7_begins 11 = .ok (.iconst 1, 1) := by decide +kernel
theorem dX7_begins_12 : decode cX7_begins 12 = .ok (.iconst 0, 1) := by decide +kernel
theorem dX7_begins_13 : decode cX7_begins 13 = .ok (.iastore, 1) := by decide +kernel
theorem dX7_begins_14 : decode cX7_begins 14 = .ok (.aload_n 0, 1) := by decide +kernel
theorem dX7_begins_15 : decode cX7_begins 15 = .ok (.getfield 7, 3) := by decide +kernel
theorem dX7_begins_18 : decode cX7_begins 18 = .ok (.iconst 2, 1) := by decide +kernel
theorem dX7_begins_19 : decode cX7_begins 19 = .ok (.iconst 0, 1) := by decide +kernel
theorem dX7_begins_20 : decode cX7_begins 20 = .ok (.iastore, 1) := by decide +kernel
theorem dX7_begins_21 : decode cX7_begins 21 = .ok (.aload_n 0, 1) := by decide +kernel
theorem dX7_begins_22 : decode cX7_begins 22 = .ok (.getfield 7, 3) := by decide +kernel
theorem dX7_begins_25 : decode cX7_begins 25 = .ok (.iconst 5, 1) := by decide +kernel
theorem dX7_begins_26 : decode cX7_begins 26 = .ok (.iconst 0, 1) := by decide +kernel
theorem dX7_begins_27 : decode cX7_begins 27 = .ok (.iastore, 1) := by decide +kernel
theorem dX7_begins_28 : decode cX7_begins 28 = .ok (.aload_n 0, 1) := by decide +kernel
theorem dX7_begins_29 : decode cX7_begins 29 = .ok (.getfield 7, 3) := by decide +kernel
theorem dX7_begins_32 : decode cX7_begins 32 = .ok (.bipush 9, 2) := by decide +kernel
theorem dX7_begins_34 : decode cX7_begins 34 = .ok (.iconst 0, 1) := by decide +kernel
theorem dX7_begins_35 : decode cX7_begins 35 = .ok (.iastore, 1) := by decide +kernel
theorem dX7_begins_36 : decode cX7_begins 36 = .ok (.iconst 0, 1) := by decide +kernel
theorem dX7_begins_37 : decode cX7_begins 37 = .ok (.istore_n 1, 1) := by decide +kernel
theorem dX7_begins_38 : decode cX7_begins 38 = .ok (.iload_n 1, 1) := by decide +kernel
theorem dX7_begins_39 : decode cX7_begins 39 = .ok (.aload_n 0, 1) := by decide +kernel
theorem dX7_begins_40 : decode cX7_begins 40 = .ok (.getfield 7, 3) := by decide +kernel
theorem dX7_begins_43 : decode cX7_begins 43 = .ok (.bipush 7, 2) := by decide +kernel
theorem dX7_begins_45 : decode cX7_begins 45 = .ok (.iaload, 1) := by decide +kernel
theorem dX7_begins_46 : decode cX7_begins 46 = .ok (.if_icmp .ge 37, 3) := by decide +kernel
theorem dX7_begins_49 : decode cX7_begins 49 = .ok (.aload_n 0, 1) := by decide +kernel
theorem dX7_begins_50 : decode cX7_begins 50 = .ok (.getfield 7, 3) := by decide +kernel
theorem dX7_begins_53 : decode cX7_begins 53 = .ok (.bipush 10, 2) := by decide +kernel
theorem dX7_begins_55 : decode cX7_begins 55 = .ok (.iconst 5, 1) := by decide +kernel
theorem dX7_begins_56 : decode cX7_begins 56 = .ok (.iload_n 1, 1) := by decide +kernel
theorem dX7_begins_57 : decode cX7_begins 57 = .ok (.imul, 1) := by decide +kernel
theorem dX7_begins_58 : decode cX7_begins 58 = .ok (.iadd, 1) := by decide +kernel
theorem dX7_begins_59 : decode cX7_begins 59 = .ok (.iconst 3, 1) := by decide +kernel
theorem dX7_begins_60 : decode cX7_begins 60 = .ok (.iadd, 1) := by decide +kernel
theorem dX7_begins_61 : decode cX7_begins 61 = .ok (.iconst 0, 1) := by decide +kernel
theorem dX7_begins_62 : decode cX7_begins 62 = .ok (.iastore, 1) := by decide +kernel
theorem dX7_begins_63 : decode cX7_begins 63 = .ok (.aload_n 0, 1) := by decide +kernel
theorem dX7_begins_64 : decode cX7_begins 64 = .ok (.getfield 7, 3) := by decide +kernel
theorem dX7_begins_67 : decode cX7_begins 67 = .ok (.bipush 10, 2) := by decide +kernel
theorem dX7_begins_69 : decode cX7_begins 69 = .ok (.iconst 5, 1) := by decide +kernel
theorem dX7_begins_70 : decode cX7_begins 70 = .ok (.iload_n 1, 1) := by decide +kernel
theorem dX7_begins_71 : decode cX7_begins 71 = .ok (.imul, 1) := by decide +kernel
theorem dX7_begins_72 : decode cX7_begins 72 = .ok (.iadd, 1) := by decide +kernel
theorem dX7_begins_73 : decode cX7_begins 73 = .ok (.iconst 4, 1) := by decide +kernel
theorem dX7_begins_74 : decode cX7_begins 74 = .ok (.iadd, 1) := by decide +kernel
theorem dX7_begins_75 : decode cX7_begins 75 = .ok (.iconst (-1), 1) := by decide +kernel
theorem dX7_begins_76 : decode cX7_begins 76 = .ok (.iastore, 1) := by decide +kernel
theorem dX7_begins_77 : decode cX7_begins 77 = .ok (.iinc 1 1, 3) := by decide +kernel
theorem dX7_begins_80 : decode cX7_begins 80 = .ok (.goto (-42), 3) := by decide +kernel
theorem dX7_begins_83 : decode cX7_begins 83 = .ok (.iconst 0, 1) := by decide +kernel
theorem dX7_begins_84 : decode cX7_begins 84 = .ok (.istore_n 1, 1) := by decide +kernel
theorem dX7_begins_85 : decode cX7_begins 85 = .ok (.iload_n 1, 1) := by decide +kernel
theorem dX7_begins_86 : decode cX7_begins 86 = .ok (.aload_n 0, 1) := by decide +kernel
theorem dX7_begins_87 : decode cX7_begins 87 = .ok (.getfield 7, 3) := by decide +kernel
theorem dX7_begins_90 : decode cX7_begins 90 = .ok (.bipush 8, 2) := by decide +kernel
theorem dX7_begins_92 : decode cX7_begins 92 = .ok (.iaload, 1) := by decide +kernel
theorem dX7_begins_93 : decode cX7_begins 93 = .ok (.if_icmp .ge 37, 3) := by decide +kernel
theorem dX7_begins_96 : decode cX7_begins 96 = .ok (.aload_n 0, 1) := by decide +kernel
theorem dX7_begins_97 : decode cX7_begins 97 = .ok (.getfield 7, 3) := by decide +kernel
theorem dX7_begins_100 : decode cX7_begins 100 = .ok (.bipush 70, 2) := by decide +kernel
theorem dX7_begins_102 : decode cX7_begins 102 = .ok (.iconst 3, 1) := by decide +kernel
theorem dX7_begins_103 : decode cX7_begins 103 = .ok (.iload_n 1, 1) := by decide +kernel
theorem dX7_begins_104 : decode cX7_begins 104 = .ok (.imul, 1) := by decide +kernel
theorem dX7_begins_105 : decode cX7_begins 105 = .ok (.iadd, 1) := by decide +kernel
theorem dX7_begins_106 : decode cX7_begins 106 = .ok (.iconst 1, 1) := by decide +kernel
theorem dX7_begins_107 : decode cX7_begins 107 = .ok (.iadd, 1) := by decide +kernel
theorem dX7_begins_108 : decode cX7_begins 108 = .ok (.iconst 0, 1) := by decide +kernel
theorem dX7_begins_109 : decode cX7_begins 109 = .ok (.iastore, 1) := by decide +kernel
theorem dX7_begins_110 : decode cX7_begins 110 = .ok (.aload_n 0, 1) := by decide +kernel
theorem dX7_begins_111 : decode cX7_begins 111 = .ok (.getfield 7, 3) := by decide +kernel
theorem dX7_begins_114 : decode cX7_begins 114 = .ok (.bipush 70, 2) := by decide +kernel
theorem dX7_begins_116 : decode cX7_begins 116 = .ok (.iconst 3, 1) := by decide +kernel
theorem dX7_begins_117 : decode cX7_begins 117 = .ok (.iload_n 1, 1) := by decide +kernel
theorem dX7_begins_118 : decode cX7_begins 118 = .ok (.imul, 1) := by decide +kernel
theorem dX7_begins_119 : decode cX7_begins 119 = .ok (.iadd, 1) := by decide +kernel
theorem dX7_begins_120 : decode cX7_begins 120 = .ok (.iconst 2, 1) := by decide +kernel
theorem dX7_begins_121 : decode cX7_begins 121 = .ok (.iadd, 1) := by decide +kernel
theorem dX7_begins_122 : decode cX7_begins 122 = .ok (.iconst (-1), 1) := by decide +kernel
theorem dX7_begins_123 : decode cX7_begins 123 = .ok (.iastore, 1) := by decide +kernel
theorem dX7_begins_124 : decode cX7_begins 124 = .ok (.iinc 1 1, 3) := by decide +kernel
theorem dX7_begins_127 : decode cX7_begins 127 = .ok (.goto (-42), 3) := by decide +kernel
theorem dX7_begins_130 : decode cX7_begins 130 = .ok (.return_, 1) := by decide +kernel
theorem dX7_again_0 : decode cX7_again 0 = .ok (.aload_n 0, 1) := by decide +kernel
theorem dX7_again_1 : decode cX7_again 1 = .ok (.getfield 7, 3) := by decide +kernel
theorem dX7_again_4 : decode cX7_again 4 = .ok (.iconst 1, 1) := by decide +kernel
theorem dX7_again_5 : decode cX7_again 5 = .ok (.iaload, 1) := by decide +kernel
theorem dX7_again_6 : decode cX7_again 6 = .ok (.ifCond .ne 9, 3) := by decide +kernel
theorem dX7_again_9 : decode cX7_again 9 = .ok (.aload_n 0, 1) := by decide +kernel
theorem dX7_again_10 : decode cX7_again 10 = .ok (.iconst 1, 1) := by decide +kernel
theorem dX7_again_11 : decode cX7_again 11 = .ok (.invokevirtual 114, 3) := by decide +kernel
theorem dX7_again_14 : decode cX7_again 14 = .ok (.ireturn, 1) := by decide +kernel
theorem dX7_again_15 : decode cX7_again 15 = .ok (.aload_n 0, 1) := by decide +kernel
theorem dX7_again_16 : decode cX7_again 16 = .ok (.invokevirtual 117, 3) := by decide +kernel
theorem dX7_again_19 : decode cX7_again 19 = .ok (.aload_n 0, 1) := by decide +kernel
theorem dX7_again_20 : decode cX7_again 20 = .ok (.invokevirtual 136, 3) := by decide +kernel
theorem dX7_again_23 : decode cX7_again 23 = .ok (.aload_n 0, 1) := by decide +kernel
theorem dX7_again_24 : decode cX7_again 24 = .ok (.getfield 7, 3) := by decide +kernel
theorem dX7_again_27 : decode cX7_again 27 = .ok (.bipush 6, 2) := by decide +kernel
theorem dX7_again_29 : decode cX7_again 29 = .ok (.dup2, 1) := by decide +kernel
theorem dX7_again_30 : decode cX7_again 30 = .ok (.iaload, 1) := by decide +kernel
theorem dX7_again_31 : decode cX7_again 31 = .ok (.iconst 1, 1) := by decide +kernel
theorem dX7_again_32 : decode cX7_again 32 = .ok (.iadd, 1) := by decide +kernel
theorem dX7_again_33 : decode cX7_again 33 = .ok (.iastore, 1) := by decide +kernel
theorem dX7_again_34 : decode cX7_again 34 = .ok (.aload_n 0, 1) := by decide +kernel
theorem dX7_again_35 : decode cX7_again 35 = .ok (.getfield 7, 3) := by decide +kernel
theorem dX7_again_38 : decode cX7_again 38 = .ok (.bipush 6, 2) := by decide +kernel
theorem dX7_again_40 : decode cX7_again 40 = .ok (.iaload, 1) := by decide +kernel
theorem dX7_again_41 : decode cX7_again 41 = .ok (.ireturn, 1) := by decide +kernel
theorem dX7_latenessOf_0 : decode cX7_latenessOf 0 = .ok (.aload_n 0, 1) := by decide +kernel
theorem dX7_latenessOf_1 : decode cX7_latenessOf 1 = .ok (.iload_n 1, 1) := by decide +kernel
theorem dX7_latenessOf_2 : decode cX7_latenessOf 2 = .ok (.invokevirtual 40, 3) := by decide +kernel
theorem dX7_latenessOf_5 : decode cX7_latenessOf 5 = .ok (.ifCond .eq 29, 3) := by decide +kernel
theorem dX7_latenessOf_8 : decode cX7_latenessOf 8 = .ok (.aload_n 0, 1) := by decide +kernel
theorem dX7_latenessOf_9 : decode cX7_latenessOf 9 = .ok (.iload_n 1, 1) := by decide +kernel
theorem dX7_latenessOf_10 : decode cX7_latenessOf 10 = .ok (.iconst 4, 1) := by decide +kernel
theorem dX7_latenessOf_11 : decode cX7_latenessOf 11 = .ok (.invokevirtual 32, 3) := by decide +kernel
theorem dX7_latenessOf_14 : decode cX7_latenessOf 14 = .ok (.iconst (-1), 1) := by decide +kernel
theorem dX7_latenessOf_15 : decode cX7_latenessOf 15 = .ok (.if_icmp .eq 19, 3) := by decide +kernel
theorem dX7_latenessOf_18 : decode cX7_latenessOf 18 = .ok (.aload_n 0, 1) := by decide +kernel
theorem dX7_latenessOf_19 : decode cX7_latenessOf 19 = .ok (.iload_n 1, 1) := by decide +kernel
theorem dX7_latenessOf_20 : decode cX7_latenessOf 20 = .ok (.iconst 4, 1) := by decide +kernel
theorem dX7_latenessOf_21 : decode cX7_latenessOf 21 = .ok (.invokevirtual 32, 3) := by decide +kernel
theorem dX7_latenessOf_24 : decode cX7_latenessOf 24 = .ok (.aload_n 0, 1) := by decide +kernel
theorem dX7_latenessOf_25 : decode cX7_latenessOf 25 = .ok (.iload_n 1, 1) := by decide +kernel
theorem dX7_latenessOf_26 : decode cX7_latenessOf 26 = .ok (.iconst 1, 1) := by decide +kernel
theorem dX7_latenessOf_27 : decode cX7_latenessOf 27 = .ok (.invokevirtual 32, 3) := by decide +kernel
theorem dX7_latenessOf_30 : decode cX7_latenessOf 30 = .ok (.isub, 1) := by decide +kernel
theorem dX7_latenessOf_31 : decode cX7_latenessOf 31 = .ok (.goto 4, 3) := by decide +kernel
theorem dX7_latenessOf_34 : decode cX7_latenessOf 34 = .ok (.iconst (-1), 1) := by decide +kernel
theorem dX7_latenessOf_35 : decode cX7_latenessOf 35 = .ok (.ireturn, 1) := by decide +kernel
theorem dX7_elementOf_0 : decode cX7_elementOf 0 = .ok (.iload_n 2, 1) := by decide +kernel
theorem dX7_elementOf_1 : decode cX7_elementOf 1 = .ok (.iconst 5, 1) := by decide +kernel
theorem dX7_elementOf_2 : decode cX7_elementOf 2 = .ok (.if_icmp .ge 12, 3) := by decide +kernel
theorem dX7_elementOf_5 : decode cX7_elementOf 5 = .ok (.aload_n 0, 1) := by decide +kernel
theorem dX7_elementOf_6 : decode cX7_elementOf 6 = .ok (.iload_n 1, 1) := by decide +kernel
theorem dX7_elementOf_7 : decode cX7_elementOf 7 = .ok (.iload_n 2, 1) := by decide +kernel
theorem dX7_elementOf_8 : decode cX7_elementOf 8 = .ok (.invokevirtual 32, 3) := by decide +kernel
theorem dX7_elementOf_11 : decode cX7_elementOf 11 = .ok (.goto 29, 3) := by decide +kernel
theorem dX7_elementOf_14 : decode cX7_elementOf 14 = .ok (.iload_n 2, 1) := by decide +kernel
theorem dX7_elementOf_15 : decode cX7_elementOf 15 = .ok (.iconst 5, 1) := by decide +kernel
theorem dX7_elementOf_16 : decode cX7_elementOf 16 = .ok (.if_icmp .ne 11, 3) := by decide +kernel
theorem dX7_elementOf_19 : decode cX7_elementOf 19 = .ok (.aload_n 0, 1) := by decide +kernel
theorem dX7_elementOf_20 : decode cX7_elementOf 20 = .ok (.iload_n 1, 1) := by decide +kernel
theorem dX7_elementOf_21 : decode cX7_elementOf 21 = .ok (.invokevirtual 139, 3) := by decide +kernel
theorem dX7_elementOf_24 : decode cX7_elementOf 24 = .ok (.goto 16, 3) := by decide +kernel
theorem dX7_elementOf_27 : decode cX7_elementOf 27 = .ok (.aload_n 0, 1) := by decide +kernel
theorem dX7_elementOf_28 : decode cX7_elementOf 28 = .ok (.iload_n 1, 1) := by decide +kernel
theorem dX7_elementOf_29 : decode cX7_elementOf 29 = .ok (.invokevirtual 142, 3) := by decide +kernel
theorem dX7_elementOf_32 : decode cX7_elementOf 32 = .ok (.ifCond .eq 7, 3) := by decide +kernel
theorem dX7_elementOf_35 : decode cX7_elementOf 35 = .ok (.iconst 1, 1) := by decide +kernel
theorem dX7_elementOf_36 : decode cX7_elementOf 36 = .ok (.goto 4, 3) := by decide +kernel
theorem dX7_elementOf_39 : decode cX7_elementOf 39 = .ok (.iconst 0, 1) := by decide +kernel
theorem dX7_elementOf_40 : decode cX7_elementOf 40 = .ok (.ireturn, 1) := by decide +kernel
theorem dX7_element_0 : decode cX7_element 0 = .ok (.aload_n 0, 1) := by decide +kernel
theorem dX7_element_1 : decode cX7_element 1 = .ok (.iload_n 1, 1) := by decide +kernel
theorem dX7_element_2 : decode cX7_element 2 = .ok (.invokevirtual 126, 3) := by decide +kernel
theorem dX7_element_5 : decode cX7_element 5 = .ok (.ifCond .ne 9, 3) := by decide +kernel
theorem dX7_element_8 : decode cX7_element 8 = .ok (.aload_n 0, 1) := by decide +kernel
theorem dX7_element_9 : decode cX7_element 9 = .ok (.iconst 1, 1) := by decide +kernel
theorem dX7_element_10 : decode cX7_element 10 = .ok (.invokevirtual 114, 3) := by decide +kernel
theorem dX7_element_13 : decode cX7_element 13 = .ok (.ireturn, 1) := by decide +kernel
theorem dX7_element_14 : decode cX7_element 14 = .ok (.iload_n 2, 1) := by decide +kernel
theorem dX7_element_15 : decode cX7_element 15 = .ok (.iconst 0, 1) := by decide +kernel
theorem dX7_element_16 : decode cX7_element 16 = .ok (.bipush 6, 2) := by decide +kernel
theorem dX7_element_18 : decode cX7_element 18 = .ok (.invokestatic 110, 3) := by decide +kernel
theorem dX7_element_21 : decode cX7_element 21 = .ok (.ifCond .eq 16, 3) := by decide +kernel
theorem dX7_element_24 : decode cX7_element 24 = .ok (.aload_n 0, 1) := by decide +kernel
theorem dX7_element_25 : decode cX7_element 25 = .ok (.aload_n 0, 1) := by decide +kernel
theorem dX7_element_26 : decode cX7_element 26 = .ok (.iload_n 1, 1) := by decide +kernel
theorem dX7_element_27 : decode cX7_element 27 = .ok (.iload_n 2, 1) := by decide +kernel
theorem dX7_element_28 : decode cX7_element 28 = .ok (.invokevirtual 145, 3) := by decide +kernel
theorem dX7_element_31 : decode cX7_element 31 = .ok (.invokevirtual 148, 3) := by decide +kernel
theorem dX7_element_34 : decode cX7_element 34 = .ok (.goto 8, 3) := by decide +kernel
theorem dX7_element_37 : decode cX7_element 37 = .ok (.aload_n 0, 1) := by decide +kernel
theorem dX7_element_38 : decode cX7_element 38 = .ok (.iconst 2, 1) := by decide +kernel
theorem dX7_element_39 : decode cX7_element 39 = .ok (.invokevirtual 114, 3) := by decide +kernel
theorem dX7_element_42 : decode cX7_element 42 = .ok (.ireturn, 1) := by decide +kernel
theorem dX7_filler_0 : decode cX7_filler 0 = .ok (.aload_n 0, 1) := by decide +kernel
theorem dX7_filler_1 : decode cX7_filler 1 = .ok (.iload_n 1, 1) := by decide +kernel
theorem dX7_filler_2 : decode cX7_filler 2 = .ok (.invokevirtual 151, 3) := by decide +kernel
theorem dX7_filler_5 : decode cX7_filler 5 = .ok (.ifCond .ne 9, 3) := by decide +kernel
theorem dX7_filler_8 : decode cX7_filler 8 = .ok (.aload_n 0, 1) := by decide +kernel
theorem dX7_filler_9 : decode cX7_filler 9 = .ok (.iconst 1, 1) := by decide +kernel
theorem dX7_filler_10 : decode cX7_filler 10 = .ok (.invokevirtual 114, 3) := by decide +kernel
theorem dX7_filler_13 : decode cX7_filler 13 = .ok (.ireturn, 1) := by decide +kernel
theorem dX7_filler_14 : decode cX7_filler 14 = .ok (.iload_n 2, 1) := by decide +kernel
theorem dX7_filler_15 : decode cX7_filler 15 = .ok (.iconst 0, 1) := by decide +kernel
theorem dX7_filler_16 : decode cX7_filler 16 = .ok (.iconst 2, 1) := by decide +kernel
theorem dX7_filler_17 : decode cX7_filler 17 = .ok (.invokestatic 110, 3) := by decide +kernel
theorem dX7_filler_20 : decode cX7_filler 20 = .ok (.ifCond .eq 16, 3) := by decide +kernel
theorem dX7_filler_23 : decode cX7_filler 23 = .ok (.aload_n 0, 1) := by decide +kernel
theorem dX7_filler_24 : decode cX7_filler 24 = .ok (.aload_n 0, 1) := by decide +kernel
theorem dX7_filler_25 : decode cX7_filler 25 = .ok (.iload_n 1, 1) := by decide +kernel
theorem dX7_filler_26 : decode cX7_filler 26 = .ok (.iload_n 2, 1) := by decide +kernel
theorem dX7_filler_27 : decode cX7_filler 27 = .ok (.invokevirtual 58, 3) := by decide +kernel
theorem dX7_filler_30 : decode cX7_filler 30 = .ok (.invokevirtual 148, 3) := by decide +kernel
theorem dX7_filler_33 : decode cX7_filler 33 = .ok (.goto 8, 3) := by decide +kernel
theorem dX7_filler_36 : decode cX7_filler 36 = .ok (.aload_n 0, 1) := by decide +kernel
theorem dX7_filler_37 : decode cX7_filler 37 = .ok (.iconst 2, 1) := by decide +kernel
theorem dX7_filler_38 : decode cX7_filler 38 = .ok (.invokevirtual 114, 3) := by decide +kernel
theorem dX7_filler_41 : decode cX7_filler 41 = .ok (.ireturn, 1) := by decide +kernel
theorem dX7_greatest_0 : decode cX7_greatest 0 = .ok (.iconst 0, 1) := by decide +kernel
theorem dX7_greatest_1 : decode cX7_greatest 1 = .ok (.istore_n 1, 1) := by decide +kernel
theorem dX7_greatest_2 : decode cX7_greatest 2 = .ok (.iconst 0, 1) := by decide +kernel
theorem dX7_greatest_3 : decode cX7_greatest 3 = .ok (.istore_n 2, 1) := by decide +kernel
theorem dX7_greatest_4 : decode cX7_greatest 4 = .ok (.iload_n 2, 1) := by decide +kernel
theorem dX7_greatest_5 : decode cX7_greatest 5 = .ok (.aload_n 0, 1) := by decide +kernel
theorem dX7_greatest_6 : decode cX7_greatest 6 = .ok (.getfield 7, 3) := by decide +kernel
theorem dX7_greatest_9 : decode cX7_greatest 9 = .ok (.bipush 7, 2) := by decide +kernel
theorem dX7_greatest_11 : decode cX7_greatest 11 = .ok (.iaload, 1) := by decide +kernel
theorem dX7_greatest_12 : decode cX7_greatest 12 = .ok (.if_icmp .ge 28, 3) := by decide +kernel
theorem dX7_greatest_15 : decode cX7_greatest 15 = .ok (.aload_n 0, 1) := by decide +kernel
theorem dX7_greatest_16 : decode cX7_greatest 16 = .ok (.iload_n 2, 1) := by decide +kernel
theorem dX7_greatest_17 : decode cX7_greatest 17 = .ok (.invokevirtual 139, 3) := by decide +kernel
theorem dX7_greatest_20 : decode cX7_greatest 20 = .ok (.iload_n 1, 1) := by decide +kernel
theorem dX7_greatest_21 : decode cX7_greatest 21 = .ok (.if_icmp .le 11, 3) := by decide +kernel
theorem dX7_greatest_24 : decode cX7_greatest 24 = .ok (.aload_n 0, 1) := by decide +kernel
theorem dX7_greatest_25 : decode cX7_greatest 25 = .ok (.iload_n 2, 1) := by decide +kernel
theorem dX7_greatest_26 : decode cX7_greatest 26 = .ok (.invokevirtual 139, 3) := by decide +kernel
theorem dX7_greatest_29 : decode cX7_greatest 29 = .ok (.goto 4, 3) := by decide +kernel
theorem dX7_greatest_32 : decode cX7_greatest 32 = .ok (.iload_n 1, 1) := by decide +kernel
theorem dX7_greatest_33 : decode cX7_greatest 33 = .ok (.istore_n 1, 1) := by decide +kernel
theorem dX7_greatest_34 : decode cX7_greatest 34 = .ok (.iinc 2 1, 3) := by decide +kernel
theorem dX7_greatest_37 : decode cX7_greatest 37 = .ok (.goto (-33), 3) := by decide +kernel
theorem dX7_greatest_40 : decode cX7_greatest 40 = .ok (.iload_n 1, 1) := by decide +kernel
theorem dX7_greatest_41 : decode cX7_greatest 41 = .ok (.ireturn, 1) := by decide +kernel
theorem dX7_valueOf_0 : decode cX7_valueOf 0 = .ok (.iload_n 1, 1) := by decide +kernel
theorem dX7_valueOf_1 : decode cX7_valueOf 1 = .ok (.tableswitch 175 0 12 #[67, 75, 83, 90, 97, 103, 109, 117, 124, 129, 154, 159, 167], 67) := by decide +kernel
theorem dX7_valueOf_68 : decode cX7_valueOf 68 = .ok (.aload_n 0, 1) := by decide +kernel
theorem dX7_valueOf_69 : decode cX7_valueOf 69 = .ok (.getfield 7, 3) := by decide +kernel
theorem dX7_valueOf_72 : decode cX7_valueOf 72 = .ok (.bipush 7, 2) := by decide +kernel
theorem dX7_valueOf_74 : decode cX7_valueOf 74 = .ok (.iaload, 1) := by decide +kernel
theorem dX7_valueOf_75 : decode cX7_valueOf 75 = .ok (.ireturn, 1) := by decide +kernel
theorem dX7_valueOf_76 : decode cX7_valueOf 76 = .ok (.aload_n 0, 1) := by decide +kernel
theorem dX7_valueOf_77 : decode cX7_valueOf 77 = .ok (.getfield 7, 3) := by decide +kernel
theorem dX7_valueOf_80 : decode cX7_valueOf 80 = .ok (.bipush 8, 2) := by decide +kernel
theorem dX7_valueOf_82 : decode cX7_valueOf 82 = .ok (.iaload, 1) := by decide +kernel
theorem dX7_valueOf_83 : decode cX7_valueOf 83 = .ok (.ireturn, 1) := by decide +kernel
theorem dX7_valueOf_84 : decode cX7_valueOf 84 = .ok (.aload_n 0, 1) := by decide +kernel
theorem dX7_valueOf_85 : decode cX7_valueOf 85 = .ok (.getfield 7, 3) := by decide +kernel
theorem dX7_valueOf_88 : decode cX7_valueOf 88 = .ok (.iconst 0, 1) := by decide +kernel
theorem dX7_valueOf_89 : decode cX7_valueOf 89 = .ok (.iaload, 1) := by decide +kernel
theorem dX7_valueOf_90 : decode cX7_valueOf 90 = .ok (.ireturn, 1) := by decide +kernel
theorem dX7_valueOf_91 : decode cX7_valueOf 91 = .ok (.aload_n 0, 1) := by decide +kernel
theorem dX7_valueOf_92 : decode cX7_valueOf 92 = .ok (.getfield 7, 3) := by decide +kernel
theorem dX7_valueOf_95 : decode cX7_valueOf 95 = .ok (.iconst 1, 1) := by decide +kernel
theorem dX7_valueOf_96 : decode cX7_valueOf 96 = .ok (.iaload, 1) := by decide +kernel
theorem dX7_valueOf_97 : decode cX7_valueOf 97 = .ok (.ireturn, 1) := by decide +kernel
theorem dX7_valueOf_98 : decode cX7_valueOf 98 = .ok (.aload_n 0, 1) := by decide +kernel
theorem dX7_valueOf_99 : decode cX7_valueOf 99 = .ok (.iconst 0, 1) := by decide +kernel
theorem dX7_valueOf_100 : decode cX7_valueOf 100 = .ok (.invokevirtual 133, 3) := by decide +kernel
theorem dX7_valueOf_103 : decode cX7_valueOf 103 = .ok (.ireturn, 1) := by decide +kernel
theorem dX7_valueOf_104 : decode cX7_valueOf 104 = .ok (.aload_n 0, 1) := by decide +kernel
theorem dX7_valueOf_105 : decode cX7_valueOf 105 = .ok (.iconst 3, 1) := by decide +kernel
theorem dX7_valueOf_106 : decode cX7_valueOf 106 = .ok (.invokevirtual 133, 3) := by decide +kernel
theorem dX7_valueOf_109 : decode cX7_valueOf 109 = .ok (.ireturn, 1) := by decide +kernel
theorem dX7_valueOf_110 : decode cX7_valueOf 110 = .ok (.aload_n 0, 1) := by decide +kernel
theorem dX7_valueOf_111 : decode cX7_valueOf 111 = .ok (.invokevirtual 61, 3) := by decide +kernel
theorem dX7_valueOf_114 : decode cX7_valueOf 114 = .ok (.invokestatic 68, 3) := by decide +kernel
theorem dX7_valueOf_117 : decode cX7_valueOf 117 = .ok (.ireturn, 1) := by decide +kernel
theorem dX7_valueOf_118 : decode cX7_valueOf 118 = .ok (.aload_n 0, 1) := by decide +kernel
theorem dX7_valueOf_119 : decode cX7_valueOf 119 = .ok (.getfield 7, 3) := by decide +kernel
theorem dX7_valueOf_122 : decode cX7_valueOf 122 = .ok (.iconst 5, 1) := by decide +kernel
theorem dX7_valueOf_123 : decode cX7_valueOf 123 = .ok (.iaload, 1) := by decide +kernel
theorem dX7_valueOf_124 : decode cX7_valueOf 124 = .ok (.ireturn, 1) := by decide +kernel
theorem dX7_valueOf_125 : decode cX7_valueOf 125 = .ok (.aload_n 0, 1) := by decide +kernel
theorem dX7_valueOf_126 : decode cX7_valueOf 126 = .ok (.invokevirtual 154, 3) := by decide +kernel
theorem dX7_valueOf_129 : decode cX7_valueOf 129 = .ok (.ireturn, 1) := by decide +kernel
theorem dX7_valueOf_130 : decode cX7_valueOf 130 = .ok (.aload_n 0, 1) := by decide +kernel
theorem dX7_valueOf_131 : decode cX7_valueOf 131 = .ok (.getfield 7, 3) := by decide +kernel
theorem dX7_valueOf_134 : decode cX7_valueOf 134 = .ok (.iconst 1, 1) := by decide +kernel
theorem dX7_valueOf_135 : decode cX7_valueOf 135 = .ok (.iaload, 1) := by decide +kernel
theorem dX7_valueOf_136 : decode cX7_valueOf 136 = .ok (.iconst 1, 1) := by decide +kernel
theorem dX7_valueOf_137 : decode cX7_valueOf 137 = .ok (.if_icmp .ne 16, 3) := by decide +kernel
theorem dX7_valueOf_140 : decode cX7_valueOf 140 = .ok (.aload_n 0, 1) := by decide +kernel
theorem dX7_valueOf_141 : decode cX7_valueOf 141 = .ok (.getfield 7, 3) := by decide +kernel
theorem dX7_valueOf_144 : decode cX7_valueOf 144 = .ok (.iconst 0, 1) := by decide +kernel
theorem dX7_valueOf_145 : decode cX7_valueOf 145 = .ok (.iaload, 1) := by decide +kernel
theorem dX7_valueOf_146 : decode cX7_valueOf 146 = .ok (.sipush 3600, 3) := by decide +kernel
theorem dX7_valueOf_149 : decode cX7_valueOf 149 = .ok (.isub, 1) := by decide +kernel
theorem dX7_valueOf_150 : decode cX7_valueOf 150 = .ok (.goto 4, 3) := by decide +kernel
theorem dX7_valueOf_153 : decode cX7_valueOf 153 = .ok (.iconst (-1), 1) := by decide +kernel
theorem dX7_valueOf_154 : decode cX7_valueOf 154 = .ok (.ireturn, 1) := by decide +kernel
theorem dX7_valueOf_155 : decode cX7_valueOf 155 = .ok (.aload_n 0, 1) := by decide +kernel
theorem dX7_valueOf_156 : decode cX7_valueOf 156 = .ok (.invokevirtual 157, 3) := by decide +kernel
theorem dX7_valueOf_159 : decode cX7_valueOf 159 = .ok (.ireturn, 1) := by decide +kernel
theorem dX7_valueOf_160 : decode cX7_valueOf 160 = .ok (.aload_n 0, 1) := by decide +kernel
theorem dX7_valueOf_161 : decode cX7_valueOf 161 = .ok (.getfield 7, 3) := by decide +kernel
theorem dX7_valueOf_164 : decode cX7_valueOf 164 = .ok (.bipush 9, 2) := by decide +kernel
theorem dX7_valueOf_166 : decode cX7_valueOf 166 = .ok (.iaload, 1) := by decide +kernel
theorem dX7_valueOf_167 : decode cX7_valueOf 167 = .ok (.ireturn, 1) := by decide +kernel
theorem dX7_valueOf_168 : decode cX7_valueOf 168 = .ok (.aload_n 0, 1) := by decide +kernel
theorem dX7_valueOf_169 : decode cX7_valueOf 169 = .ok (.getfield 7, 3) := by decide +kernel
theorem dX7_valueOf_172 : decode cX7_valueOf 172 = .ok (.bipush 6, 2) := by decide +kernel
theorem dX7_valueOf_174 : decode cX7_valueOf 174 = .ok (.iaload, 1) := by decide +kernel
theorem dX7_valueOf_175 : decode cX7_valueOf 175 = .ok (.ireturn, 1) := by decide +kernel
theorem dX7_valueOf_176 : decode cX7_valueOf 176 = .ok (.aload_n 0, 1) := by decide +kernel
theorem dX7_valueOf_177 : decode cX7_valueOf 177 = .ok (.getfield 7, 3) := by decide +kernel
theorem dX7_valueOf_180 : decode cX7_valueOf 180 = .ok (.iconst 2, 1) := by decide +kernel
theorem dX7_valueOf_181 : decode cX7_valueOf 181 = .ok (.iaload, 1) := by decide +kernel
theorem dX7_valueOf_182 : decode cX7_valueOf 182 = .ok (.ifCond .ne 7, 3) := by decide +kernel
theorem dX7_valueOf_185 : decode cX7_valueOf 185 = .ok (.iconst 0, 1) := by decide +kernel
theorem dX7_valueOf_186 : decode cX7_valueOf 186 = .ok (.goto 16, 3) := by decide +kernel
theorem dX7_valueOf_189 : decode cX7_valueOf 189 = .ok (.aload_n 0, 1) := by decide +kernel
theorem dX7_valueOf_190 : decode cX7_valueOf 190 = .ok (.getfield 7, 3) := by decide +kernel
theorem dX7_valueOf_193 : decode cX7_valueOf 193 = .ok (.iconst 4, 1) := by decide +kernel
theorem dX7_valueOf_194 : decode cX7_valueOf 194 = .ok (.iaload, 1) := by decide +kernel
theorem dX7_valueOf_195 : decode cX7_valueOf 195 = .ok (.aload_n 0, 1) := by decide +kernel
theorem dX7_valueOf_196 : decode cX7_valueOf 196 = .ok (.getfield 7, 3) := by decide +kernel
theorem dX7_valueOf_199 : decode cX7_valueOf 199 = .ok (.iconst 0, 1) := by decide +kernel
theorem dX7_valueOf_200 : decode cX7_valueOf 200 = .ok (.iaload, 1) := by decide +kernel
theorem dX7_valueOf_201 : decode cX7_valueOf 201 = .ok (.isub, 1) := by decide +kernel
theorem dX7_valueOf_202 : decode cX7_valueOf 202 = .ok (.ireturn, 1) := by decide +kernel
theorem dX7_value_0 : decode cX7_value 0 = .ok (.iload_n 1, 1) := by decide +kernel
theorem dX7_value_1 : decode cX7_value 1 = .ok (.iconst 0, 1) := by decide +kernel
theorem dX7_value_2 : decode cX7_value 2 = .ok (.bipush 13, 2) := by decide +kernel
theorem dX7_value_4 : decode cX7_value 4 = .ok (.invokestatic 110, 3) := by decide +kernel
theorem dX7_value_7 : decode cX7_value 7 = .ok (.ifCond .eq 15, 3) := by decide +kernel
theorem dX7_value_10 : decode cX7_value 10 = .ok (.aload_n 0, 1) := by decide +kernel
theorem dX7_value_11 : decode cX7_value 11 = .ok (.aload_n 0, 1) := by decide +kernel
theorem dX7_value_12 : decode cX7_value 12 = .ok (.iload_n 1, 1) := by decide +kernel
theorem dX7_value_13 : decode cX7_value 13 = .ok (.invokevirtual 160, 3) := by decide +kernel
theorem dX7_value_16 : decode cX7_value 16 = .ok (.invokevirtual 148, 3) := by decide +kernel
theorem dX7_value_19 : decode cX7_value 19 = .ok (.goto 8, 3) := by decide +kernel
theorem dX7_value_22 : decode cX7_value 22 = .ok (.aload_n 0, 1) := by decide +kernel
theorem dX7_value_23 : decode cX7_value 23 = .ok (.iconst 1, 1) := by decide +kernel
theorem dX7_value_24 : decode cX7_value 24 = .ok (.invokevirtual 114, 3) := by decide +kernel
theorem dX7_value_27 : decode cX7_value 27 = .ok (.ireturn, 1) := by decide +kernel
theorem dX7_entry_0 : decode cX7_entry 0 = .ok (.iload_n 1, 1) := by decide +kernel
theorem dX7_entry_1 : decode cX7_entry 1 = .ok (.ifCond .lt 14, 3) := by decide +kernel
theorem dX7_entry_4 : decode cX7_entry 4 = .ok (.iload_n 1, 1) := by decide +kernel
theorem dX7_entry_5 : decode cX7_entry 5 = .ok (.aload_n 0, 1) := by decide +kernel
theorem dX7_entry_6 : decode cX7_entry 6 = .ok (.getfield 7, 3) := by decide +kernel
theorem dX7_entry_9 : decode cX7_entry 9 = .ok (.bipush 9, 2) := by decide +kernel
theorem dX7_entry_11 : decode cX7_entry 11 = .ok (.iaload, 1) := by decide +kernel
theorem dX7_entry_12 : decode cX7_entry 12 = .ok (.if_icmp .lt 9, 3) := by decide +kernel
theorem dX7_entry_15 : decode cX7_entry 15 = .ok (.aload_n 0, 1) := by decide +kernel
theorem dX7_entry_16 : decode cX7_entry 16 = .ok (.iconst 1, 1) := by decide +kernel
theorem dX7_entry_17 : decode cX7_entry 17 = .ok (.invokevirtual 114, 3) := by decide +kernel
theorem dX7_entry_20 : decode cX7_entry 20 = .ok (.ireturn, 1) := by decide +kernel
theorem dX7_entry_21 : decode cX7_entry 21 = .ok (.iload_n 2, 1) := by decide +kernel
theorem dX7_entry_22 : decode cX7_entry 22 = .ok (.iconst 0, 1) := by decide +kernel
theorem dX7_entry_23 : decode cX7_entry 23 = .ok (.iconst 2, 1) := by decide +kernel
theorem dX7_entry_24 : decode cX7_entry 24 = .ok (.invokestatic 110, 3) := by decide +kernel
theorem dX7_entry_27 : decode cX7_entry 27 = .ok (.ifCond .eq 23, 3) := by decide +kernel
theorem dX7_entry_30 : decode cX7_entry 30 = .ok (.aload_n 0, 1) := by decide +kernel
theorem dX7_entry_31 : decode cX7_entry 31 = .ok (.aload_n 0, 1) := by decide +kernel
theorem dX7_entry_32 : decode cX7_entry 32 = .ok (.getfield 7, 3) := by decide +kernel
theorem dX7_entry_35 : decode cX7_entry 35 = .ok (.bipush 100, 2) := by decide +kernel
theorem dX7_entry_37 : decode cX7_entry 37 = .ok (.iconst 3, 1) := by decide +kernel
theorem dX7_entry_38 : decode cX7_entry 38 = .ok (.iload_n 1, 1) := by decide +kernel
theorem dX7_entry_39 : decode cX7_entry 39 = .ok (.imul, 1) := by decide +kernel
theorem dX7_entry_40 : decode cX7_entry 40 = .ok (.iadd, 1) := by decide +kernel
theorem dX7_entry_41 : decode cX7_entry 41 = .ok (.iload_n 2, 1) := by decide +kernel
theorem dX7_entry_42 : decode cX7_entry 42 = .ok (.iadd, 1) := by decide +kernel
theorem dX7_entry_43 : decode cX7_entry 43 = .ok (.iaload, 1) := by decide +kernel
theorem dX7_entry_44 : decode cX7_entry 44 = .ok (.invokevirtual 148, 3) := by decide +kernel
theorem dX7_entry_47 : decode cX7_entry 47 = .ok (.goto 8, 3) := by decide +kernel
theorem dX7_entry_50 : decode cX7_entry 50 = .ok (.aload_n 0, 1) := by decide +kernel
theorem dX7_entry_51 : decode cX7_entry 51 = .ok (.iconst 2, 1) := by decide +kernel
theorem dX7_entry_52 : decode cX7_entry 52 = .ok (.invokevirtual 114, 3) := by decide +kernel
theorem dX7_entry_55 : decode cX7_entry 55 = .ok (.ireturn, 1) := by decide +kernel
theorem dX7_backOf_0 : decode cX7_backOf 0 = .ok (.aload_n 0, 1) := by decide +kernel
theorem dX7_backOf_1 : decode cX7_backOf 1 = .ok (.iload_n 1, 1) := by decide +kernel
theorem dX7_backOf_2 : decode cX7_backOf 2 = .ok (.invokevirtual 36, 3) := by decide +kernel
theorem dX7_backOf_5 : decode cX7_backOf 5 = .ok (.ifCond .ne 7, 3) := by decide +kernel
theorem dX7_backOf_8 : decode cX7_backOf 8 = .ok (.sipush (-10000), 3) := by decide +kernel
theorem dX7_backOf_11 : decode cX7_backOf 11 = .ok (.ireturn, 1) := by decide +kernel
theorem dX7_backOf_12 : decode cX7_backOf 12 = .ok (.aload_n 0, 1) := by decide +kernel
theorem dX7_backOf_13 : decode cX7_backOf 13 = .ok (.iload_n 1, 1) := by decide +kernel
theorem dX7_backOf_14 : decode cX7_backOf 14 = .ok (.iconst 1, 1) := by decide +kernel
theorem dX7_backOf_15 : decode cX7_backOf 15 = .ok (.iadd, 1) := by decide +kernel
theorem dX7_backOf_16 : decode cX7_backOf 16 = .ok (.invokevirtual 43, 3) := by decide +kernel
theorem dX7_backOf_19 : decode cX7_backOf 19 = .ok (.istore_n 2, 1) := by decide +kernel
theorem dX7_backOf_20 : decode cX7_backOf 20 = .ok (.iconst 0, 1) := by decide +kernel
theorem dX7_backOf_21 : decode cX7_backOf 21 = .ok (.istore_n 3, 1) := by decide +kernel
theorem dX7_backOf_22 : decode cX7_backOf 22 = .ok (.iload_n 1, 1) := by decide +kernel
theorem dX7_backOf_23 : decode cX7_backOf 23 = .ok (.istore 4, 2) := by decide +kernel
theorem dX7_backOf_25 : decode cX7_backOf 25 = .ok (.iload 4, 2) := by decide +kernel
theorem dX7_backOf_27 : decode cX7_backOf 27 = .ok (.iload_n 2, 1) := by decide +kernel
theorem dX7_backOf_28 : decode cX7_backOf 28 = .ok (.if_icmp .ge 32, 3) := by decide +kernel
theorem dX7_backOf_31 : decode cX7_backOf 31 = .ok (.iload_n 3, 1) := by decide +kernel
theorem dX7_backOf_32 : decode cX7_backOf 32 = .ok (.aload_n 0, 1) := by decide +kernel
theorem dX7_backOf_33 : decode cX7_backOf 33 = .ok (.iload 4, 2) := by decide +kernel
theorem dX7_backOf_35 : decode cX7_backOf 35 = .ok (.invokevirtual 36, 3) := by decide +kernel
theorem dX7_backOf_38 : decode cX7_backOf 38 = .ok (.ifCond .eq 13, 3) := by decide +kernel
theorem dX7_backOf_41 : decode cX7_backOf 41 = .ok (.aload_n 0, 1) := by decide +kernel
theorem dX7_backOf_42 : decode cX7_backOf 42 = .ok (.iload 4, 2) := by decide +kernel
theorem dX7_backOf_44 : decode cX7_backOf 44 = .ok (.iconst 0, 1) := by decide +kernel
theorem dX7_backOf_45 : decode cX7_backOf 45 = .ok (.invokevirtual 32, 3) := by decide +kernel
theorem dX7_backOf_48 : decode cX7_backOf 48 = .ok (.goto 4, 3) := by decide +kernel
theorem dX7_backOf_51 : decode cX7_backOf 51 = .ok (.iconst 0, 1) := by decide +kernel
theorem dX7_backOf_52 : decode cX7_backOf 52 = .ok (.iadd, 1) := by decide +kernel
theorem dX7_backOf_53 : decode cX7_backOf 53 = .ok (.istore_n 3, 1) := by decide +kernel
theorem dX7_backOf_54 : decode cX7_backOf 54 = .ok (.iinc 4 1, 3) := by decide +kernel
theorem dX7_backOf_57 : decode cX7_backOf 57 = .ok (.goto (-32), 3) := by decide +kernel
theorem dX7_backOf_60 : decode cX7_backOf 60 = .ok (.aload_n 0, 1) := by decide +kernel
theorem dX7_backOf_61 : decode cX7_backOf 61 = .ok (.iload_n 2, 1) := by decide +kernel
theorem dX7_backOf_62 : decode cX7_backOf 62 = .ok (.invokevirtual 47, 3) := by decide +kernel
theorem dX7_backOf_65 : decode cX7_backOf 65 = .ok (.iload_n 3, 1) := by decide +kernel
theorem dX7_backOf_66 : decode cX7_backOf 66 = .ok (.isub, 1) := by decide +kernel
theorem dX7_backOf_67 : decode cX7_backOf 67 = .ok (.ireturn, 1) := by decide +kernel
theorem dX7_backTime_0 : decode cX7_backTime 0 = .ok (.aload_n 0, 1) := by decide +kernel
theorem dX7_backTime_1 : decode cX7_backTime 1 = .ok (.iload_n 1, 1) := by decide +kernel
theorem dX7_backTime_2 : decode cX7_backTime 2 = .ok (.invokevirtual 126, 3) := by decide +kernel
theorem dX7_backTime_5 : decode cX7_backTime 5 = .ok (.ifCond .eq 15, 3) := by decide +kernel
theorem dX7_backTime_8 : decode cX7_backTime 8 = .ok (.aload_n 0, 1) := by decide +kernel
theorem dX7_backTime_9 : decode cX7_backTime 9 = .ok (.aload_n 0, 1) := by decide +kernel
theorem dX7_backTime_10 : decode cX7_backTime 10 = .ok (.iload_n 1, 1) := by decide +kernel
theorem dX7_backTime_11 : decode cX7_backTime 11 = .ok (.invokevirtual 163, 3) := by decide +kernel
theorem dX7_backTime_14 : decode cX7_backTime 14 = .ok (.invokevirtual 148, 3) := by decide +kernel
theorem dX7_backTime_17 : decode cX7_backTime 17 = .ok (.goto 8, 3) := by decide +kernel
theorem dX7_backTime_20 : decode cX7_backTime 20 = .ok (.aload_n 0, 1) := by decide +kernel
theorem dX7_backTime_21 : decode cX7_backTime 21 = .ok (.iconst 1, 1) := by decide +kernel
theorem dX7_backTime_22 : decode cX7_backTime 22 = .ok (.invokevirtual 114, 3) := by decide +kernel
theorem dX7_backTime_25 : decode cX7_backTime 25 = .ok (.ireturn, 1) := by decide +kernel
theorem dX7_beginOf_0 : decode cX7_beginOf 0 = .ok (.aload_n 0, 1) := by decide +kernel
theorem dX7_beginOf_1 : decode cX7_beginOf 1 = .ok (.iload_n 1, 1) := by decide +kernel
theorem dX7_beginOf_2 : decode cX7_beginOf 2 = .ok (.invokevirtual 126, 3) := by decide +kernel
theorem dX7_beginOf_5 : decode cX7_beginOf 5 = .ok (.ifCond .ne 9, 3) := by decide +kernel
theorem dX7_beginOf_8 : decode cX7_beginOf 8 = .ok (.aload_n 0, 1) := by decide +kernel
theorem dX7_beginOf_9 : decode cX7_beginOf 9 = .ok (.iconst 1, 1) := by decide +kernel
theorem dX7_beginOf_10 : decode cX7_beginOf 10 = .ok (.invokevirtual 114, 3) := by decide +kernel
theorem dX7_beginOf_13 : decode cX7_beginOf 13 = .ok (.ireturn, 1) := by decide +kernel
theorem dX7_beginOf_14 : decode cX7_beginOf 14 = .ok (.aload_n 0, 1) := by decide +kernel
theorem dX7_beginOf_15 : decode cX7_beginOf 15 = .ok (.invokevirtual 166, 3) := by decide +kernel
theorem dX7_beginOf_18 : decode cX7_beginOf 18 = .ok (.aload_n 0, 1) := by decide +kernel
theorem dX7_beginOf_19 : decode cX7_beginOf 19 = .ok (.aload_n 0, 1) := by decide +kernel
theorem dX7_beginOf_20 : decode cX7_beginOf 20 = .ok (.getfield 19, 3) := by decide +kernel
theorem dX7_beginOf_23 : decode cX7_beginOf 23 = .ok (.bipush 10, 2) := by decide +kernel
theorem dX7_beginOf_25 : decode cX7_beginOf 25 = .ok (.iconst 5, 1) := by decide +kernel
theorem dX7_beginOf_26 : decode cX7_beginOf 26 = .ok (.iload_n 1, 1) := by decide +kernel
theorem dX7_beginOf_27 : decode cX7_beginOf 27 = .ok (.imul, 1) := by decide +kernel
theorem dX7_beginOf_28 : decode cX7_beginOf 28 = .ok (.iadd, 1) := by decide +kernel
theorem dX7_beginOf_29 : decode cX7_beginOf 29 = .ok (.iconst 4, 1) := by decide +kernel
theorem dX7_beginOf_30 : decode cX7_beginOf 30 = .ok (.iadd, 1) := by decide +kernel
theorem dX7_beginOf_31 : decode cX7_beginOf 31 = .ok (.iaload, 1) := by decide +kernel
theorem dX7_beginOf_32 : decode cX7_beginOf 32 = .ok (.invokevirtual 148, 3) := by decide +kernel
theorem dX7_beginOf_35 : decode cX7_beginOf 35 = .ok (.ireturn, 1) := by decide +kernel
theorem dX7_endOfHour_0 : decode cX7_endOfHour 0 = .ok (.aload_n 0, 1) := by decide +kernel
theorem dX7_endOfHour_1 : decode cX7_endOfHour 1 = .ok (.invokevirtual 166, 3) := by decide +kernel
theorem dX7_endOfHour_4 : decode cX7_endOfHour 4 = .ok (.aload_n 0, 1) := by decide +kernel
theorem dX7_endOfHour_5 : decode cX7_endOfHour 5 = .ok (.aload_n 0, 1) := by decide +kernel
theorem dX7_endOfHour_6 : decode cX7_endOfHour 6 = .ok (.getfield 19, 3) := by decide +kernel
theorem dX7_endOfHour_9 : decode cX7_endOfHour 9 = .ok (.iconst 0, 1) := by decide +kernel
theorem dX7_endOfHour_10 : decode cX7_endOfHour 10 = .ok (.iaload, 1) := by decide +kernel
theorem dX7_endOfHour_11 : decode cX7_endOfHour 11 = .ok (.invokevirtual 148, 3) := by decide +kernel
theorem dX7_endOfHour_14 : decode cX7_endOfHour 14 = .ok (.ireturn, 1) := by decide +kernel
theorem dX7_drops_0 : decode cX7_drops 0 = .ok (.aload_n 0, 1) := by decide +kernel
theorem dX7_drops_1 : decode cX7_drops 1 = .ok (.invokevirtual 166, 3) := by decide +kernel
theorem dX7_drops_4 : decode cX7_drops 4 = .ok (.iconst 0, 1) := by decide +kernel
theorem dX7_drops_5 : decode cX7_drops 5 = .ok (.istore_n 1, 1) := by decide +kernel
theorem dX7_drops_6 : decode cX7_drops 6 = .ok (.iconst 0, 1) := by decide +kernel
theorem dX7_drops_7 : decode cX7_drops 7 = .ok (.istore_n 2, 1) := by decide +kernel
theorem dX7_drops_8 : decode cX7_drops 8 = .ok (.iload_n 2, 1) := by decide +kernel
theorem dX7_drops_9 : decode cX7_drops 9 = .ok (.aload_n 0, 1) := by decide +kernel
theorem dX7_drops_10 : decode cX7_drops 10 = .ok (.getfield 7, 3) := by decide +kernel
theorem dX7_drops_13 : decode cX7_drops 13 = .ok (.bipush 7, 2) := by decide +kernel
theorem dX7_drops_15 : decode cX7_drops 15 = .ok (.iaload, 1) := by decide +kernel
theorem dX7_drops_16 : decode cX7_drops 16 = .ok (.if_icmp .ge 44, 3) := by decide +kernel
theorem dX7_drops_19 : decode cX7_drops 19 = .ok (.iload_n 1, 1) := by decide +kernel
theorem dX7_drops_20 : decode cX7_drops 20 = .ok (.aload_n 0, 1) := by decide +kernel
theorem dX7_drops_21 : decode cX7_drops 21 = .ok (.iload_n 2, 1) := by decide +kernel
theorem dX7_drops_22 : decode cX7_drops 22 = .ok (.invokevirtual 36, 3) := by decide +kernel
theorem dX7_drops_25 : decode cX7_drops 25 = .ok (.ifCond .eq 26, 3) := by decide +kernel
theorem dX7_drops_28 : decode cX7_drops 28 = .ok (.aload_n 0, 1) := by decide +kernel
theorem dX7_drops_29 : decode cX7_drops 29 = .ok (.getfield 19, 3) := by decide +kernel
theorem dX7_drops_32 : decode cX7_drops 32 = .ok (.bipush 10, 2) := by decide +kernel
theorem dX7_drops_34 : decode cX7_drops 34 = .ok (.iconst 5, 1) := by decide +kernel
theorem dX7_drops_35 : decode cX7_drops 35 = .ok (.iload_n 2, 1) := by decide +kernel
theorem dX7_drops_36 : decode cX7_drops 36 = .ok (.imul, 1) := by decide +kernel
theorem dX7_drops_37 : decode cX7_drops 37 = .ok (.iadd, 1) := by decide +kernel
theorem dX7_drops_38 : decode cX7_drops 38 = .ok (.iconst 3, 1) := by decide +kernel
theorem dX7_drops_39 : decode cX7_drops 39 = .ok (.iadd, 1) := by decide +kernel
theorem dX7_drops_40 : decode cX7_drops 40 = .ok (.iaload, 1) := by decide +kernel
theorem dX7_drops_41 : decode cX7_drops 41 = .ok (.iconst 3, 1) := by decide +kernel
theorem dX7_drops_42 : decode cX7_drops 42 = .ok (.if_icmp .ne 9, 3) := by decide +kernel
theorem dX7_drops_45 : decode cX7_drops 45 = .ok (.iconst 1, 1) := by decide +kernel
theorem dX7_drops_46 : decode cX7_drops 46 = .ok (.iload_n 2, 1) := by decide +kernel
theorem dX7_drops_47 : decode cX7_drops 47 = .ok (.ishl, 1) := by decide +kernel
theorem dX7_drops_48 : decode cX7_drops 48 = .ok (.goto 4, 3) := by decide +kernel
theorem dX7_drops_51 : decode cX7_drops 51 = .ok (.iconst 0, 1) := by decide +kernel
theorem dX7_drops_52 : decode cX7_drops 52 = .ok (.ior, 1) := by decide +kernel
theorem dX7_drops_53 : decode cX7_drops 53 = .ok (.istore_n 1, 1) := by decide +kernel
theorem dX7_drops_54 : decode cX7_drops 54 = .ok (.iinc 2 1, 3) := by decide +kernel
theorem dX7_drops_57 : decode cX7_drops 57 = .ok (.goto (-49), 3) := by decide +kernel
theorem dX7_drops_60 : decode cX7_drops 60 = .ok (.aload_n 0, 1) := by decide +kernel
theorem dX7_drops_61 : decode cX7_drops 61 = .ok (.iload_n 1, 1) := by decide +kernel
theorem dX7_drops_62 : decode cX7_drops 62 = .ok (.invokevirtual 148, 3) := by decide +kernel
theorem dX7_drops_65 : decode cX7_drops 65 = .ok (.ireturn, 1) := by decide +kernel
theorem dX7_silence_0 : decode cX7_silence 0 = .ok (.aload_n 0, 1) := by decide +kernel
theorem dX7_silence_1 : decode cX7_silence 1 = .ok (.invokevirtual 166, 3) := by decide +kernel
theorem dX7_silence_4 : decode cX7_silence 4 = .ok (.aload_n 0, 1) := by decide +kernel
theorem dX7_silence_5 : decode cX7_silence 5 = .ok (.aload_n 0, 1) := by decide +kernel
theorem dX7_silence_6 : decode cX7_silence 6 = .ok (.getfield 19, 3) := by decide +kernel
theorem dX7_silence_9 : decode cX7_silence 9 = .ok (.iconst 5, 1) := by decide +kernel
theorem dX7_silence_10 : decode cX7_silence 10 = .ok (.iaload, 1) := by decide +kernel
theorem dX7_silence_11 : decode cX7_silence 11 = .ok (.aload_n 0, 1) := by decide +kernel
theorem dX7_silence_12 : decode cX7_silence 12 = .ok (.getfield 7, 3) := by decide +kernel
theorem dX7_silence_15 : decode cX7_silence 15 = .ok (.iconst 5, 1) := by decide +kernel
theorem dX7_silence_16 : decode cX7_silence 16 = .ok (.iaload, 1) := by decide +kernel
theorem dX7_silence_17 : decode cX7_silence 17 = .ok (.isub, 1) := by decide +kernel
theorem dX7_silence_18 : decode cX7_silence 18 = .ok (.invokevirtual 148, 3) := by decide +kernel
theorem dX7_silence_21 : decode cX7_silence 21 = .ok (.ireturn, 1) := by decide +kernel
theorem dX7_choice_0 : decode cX7_choice 0 = .ok (.iload_n 1, 1) := by decide +kernel
theorem dX7_choice_1 : decode cX7_choice 1 = .ok (.iconst 1, 1) := by decide +kernel
theorem dX7_choice_2 : decode cX7_choice 2 = .ok (.sipush 3600, 3) := by decide +kernel
theorem dX7_choice_5 : decode cX7_choice 5 = .ok (.invokestatic 110, 3) := by decide +kernel
theorem dX7_choice_8 : decode cX7_choice 8 = .ok (.ifCond .eq 15, 3) := by decide +kernel
theorem dX7_choice_11 : decode cX7_choice 11 = .ok (.aload_n 0, 1) := by decide +kernel
theorem dX7_choice_12 : decode cX7_choice 12 = .ok (.aload_n 0, 1) := by decide +kernel
theorem dX7_choice_13 : decode cX7_choice 13 = .ok (.iload_n 1, 1) := by decide +kernel
theorem dX7_choice_14 : decode cX7_choice 14 = .ok (.invokevirtual 87, 3) := by decide +kernel
theorem dX7_choice_17 : decode cX7_choice 17 = .ok (.invokevirtual 148, 3) := by decide +kernel
theorem dX7_choice_20 : decode cX7_choice 20 = .ok (.goto 8, 3) := by decide +kernel
theorem dX7_choice_23 : decode cX7_choice 23 = .ok (.aload_n 0, 1) := by decide +kernel
theorem dX7_choice_24 : decode cX7_choice 24 = .ok (.iconst 1, 1) := by decide +kernel
theorem dX7_choice_25 : decode cX7_choice 25 = .ok (.invokevirtual 114, 3) := by decide +kernel
theorem dX7_choice_28 : decode cX7_choice 28 = .ok (.ireturn, 1) := by decide +kernel
theorem dX7_fullAbove_0 : decode cX7_fullAbove 0 = .ok (.aload_n 0, 1) := by decide +kernel
theorem dX7_fullAbove_1 : decode cX7_fullAbove 1 = .ok (.invokevirtual 61, 3) := by decide +kernel
theorem dX7_fullAbove_4 : decode cX7_fullAbove 4 = .ok (.istore_n 2, 1) := by decide +kernel
theorem dX7_fullAbove_5 : decode cX7_fullAbove 5 = .ok (.iconst (-1), 1) := by decide +kernel
theorem dX7_fullAbove_6 : decode cX7_fullAbove 6 = .ok (.istore_n 3, 1) := by decide +kernel
theorem dX7_fullAbove_7 : decode cX7_fullAbove 7 = .ok (.iconst 1, 1) := by decide +kernel
theorem dX7_fullAbove_8 : decode cX7_fullAbove 8 = .ok (.istore 4, 2) := by decide +kernel
theorem dX7_fullAbove_10 : decode cX7_fullAbove 10 = .ok (.iload 4, 2) := by decide +kernel
theorem dX7_fullAbove_12 : decode cX7_fullAbove 12 = .ok (.iload_n 2, 1) := by decide +kernel
theorem dX7_fullAbove_13 : decode cX7_fullAbove 13 = .ok (.if_icmp .gt 54, 3) := by decide +kernel
theorem dX7_fullAbove_16 : decode cX7_fullAbove 16 = .ok (.iload 4, 2) := by decide +kernel
theorem dX7_fullAbove_18 : decode cX7_fullAbove 18 = .ok (.iload_n 2, 1) := by decide +kernel
theorem dX7_fullAbove_19 : decode cX7_fullAbove 19 = .ok (.iconst (-1), 1) := by decide +kernel
theorem dX7_fullAbove_20 : decode cX7_fullAbove 20 = .ok (.ixor, 1) := by decide +kernel
theorem dX7_fullAbove_21 : decode cX7_fullAbove 21 = .ok (.iand, 1) := by decide +kernel
theorem dX7_fullAbove_22 : decode cX7_fullAbove 22 = .ok (.ifCond .ne 12, 3) := by decide +kernel
theorem dX7_fullAbove_25 : decode cX7_fullAbove 25 = .ok (.aload_n 0, 1) := by decide +kernel
theorem dX7_fullAbove_26 : decode cX7_fullAbove 26 = .ok (.iload 4, 2) := by decide +kernel
theorem dX7_fullAbove_28 : decode cX7_fullAbove 28 = .ok (.invokevirtual 65, 3) := by decide +kernel
theorem dX7_fullAbove_31 : decode cX7_fullAbove 31 = .ok (.goto 4, 3) := by decide +kernel
theorem dX7_fullAbove_34 : decode cX7_fullAbove 34 = .ok (.iconst 0, 1) := by decide +kernel
theorem dX7_fullAbove_35 : decode cX7_fullAbove 35 = .ok (.istore 5, 2) := by decide +kernel
theorem dX7_fullAbove_37 : decode cX7_fullAbove 37 = .ok (.iload 5, 2) := by decide +kernel
theorem dX7_fullAbove_39 : decode cX7_fullAbove 39 = .ok (.iload_n 1, 1) := by decide +kernel
theorem dX7_fullAbove_40 : decode cX7_fullAbove 40 = .ok (.if_icmp .le 19, 3) := by decide +kernel
theorem dX7_fullAbove_43 : decode cX7_fullAbove 43 = .ok (.iload_n 3, 1) := by decide +kernel
theorem dX7_fullAbove_44 : decode cX7_fullAbove 44 = .ok (.iconst (-1), 1) := by decide +kernel
theorem dX7_fullAbove_45 : decode cX7_fullAbove 45 = .ok (.if_icmp .eq 9, 3) := by decide +kernel
theorem dX7_fullAbove_48 : decode cX7_fullAbove 48 = .ok (.iload 5, 2) := by decide +kernel
theorem dX7_fullAbove_50 : decode cX7_fullAbove 50 = .ok (.iload_n 3, 1) := by decide +kernel
theorem dX7_fullAbove_51 : decode cX7_fullAbove 51 = .ok (.if_icmp .ge 8, 3) := by decide +kernel
theorem dX7_fullAbove_54 : decode cX7_fullAbove 54 = .ok (.iload 5, 2) := by decide +kernel
theorem dX7_fullAbove_56 : decode cX7_fullAbove 56 = .ok (.goto 4, 3) := by decide +kernel
theorem dX7_fullAbove_59 : decode cX7_fullAbove 59 = .ok (.iload_n 3, 1) := by decide +kernel
theorem dX7_fullAbove_60 : decode cX7_fullAbove 60 = .ok (.istore_n 3, 1) := by decide +kernel
theorem dX7_fullAbove_61 : decode cX7_fullAbove 61 = .ok (.iinc 4 1, 3) := by decide +kernel
theorem dX7_fullAbove_64 : decode cX7_fullAbove 64 = .ok (.goto (-54), 3) := by decide +kernel
theorem dX7_fullAbove_67 : decode cX7_fullAbove 67 = .ok (.iload_n 3, 1) := by decide +kernel
theorem dX7_fullAbove_68 : decode cX7_fullAbove 68 = .ok (.ireturn, 1) := by decide +kernel
theorem dX7_nextFull_0 : decode cX7_nextFull 0 = .ok (.iload_n 1, 1) := by decide +kernel
theorem dX7_nextFull_1 : decode cX7_nextFull 1 = .ok (.iconst 0, 1) := by decide +kernel
theorem dX7_nextFull_2 : decode cX7_nextFull 2 = .ok (.sipush 3600, 3) := by decide +kernel
theorem dX7_nextFull_5 : decode cX7_nextFull 5 = .ok (.invokestatic 110, 3) := by decide +kernel
theorem dX7_nextFull_8 : decode cX7_nextFull 8 = .ok (.ifCond .eq 15, 3) := by decide +kernel
theorem dX7_nextFull_11 : decode cX7_nextFull 11 = .ok (.aload_n 0, 1) := by decide +kernel
theorem dX7_nextFull_12 : decode cX7_nextFull 12 = .ok (.aload_n 0, 1) := by decide +kernel
theorem dX7_nextFull_13 : decode cX7_nextFull 13 = .ok (.iload_n 1, 1) := by decide +kernel
theorem dX7_nextFull_14 : decode cX7_nextFull 14 = .ok (.invokevirtual 169, 3) := by decide +kernel
theorem dX7_nextFull_17 : decode cX7_nextFull 17 = .ok (.invokevirtual 148, 3) := by decide +kernel
theorem dX7_nextFull_20 : decode cX7_nextFull 20 = .ok (.goto 8, 3) := by decide +kernel
theorem dX7_nextFull_23 : decode cX7_nextFull 23 = .ok (.aload_n 0, 1) := by decide +kernel
theorem dX7_nextFull_24 : decode cX7_nextFull 24 = .ok (.iconst 1, 1) := by decide +kernel
theorem dX7_nextFull_25 : decode cX7_nextFull 25 = .ok (.invokevirtual 114, 3) := by decide +kernel
theorem dX7_nextFull_28 : decode cX7_nextFull 28 = .ok (.ireturn, 1) := by decide +kernel
theorem dX7_doneThen_0 : decode cX7_doneThen 0 = .ok (.iconst 0, 1) := by decide +kernel
theorem dX7_doneThen_1 : decode cX7_doneThen 1 = .ok (.istore_n 1, 1) := by decide +kernel
theorem dX7_doneThen_2 : decode cX7_doneThen 2 = .ok (.iconst 0, 1) := by decide +kernel
theorem dX7_doneThen_3 : decode cX7_doneThen 3 = .ok (.istore_n 2, 1) := by decide +kernel
theorem dX7_doneThen_4 : decode cX7_doneThen 4 = .ok (.iload_n 2, 1) := by decide +kernel
theorem dX7_doneThen_5 : decode cX7_doneThen 5 = .ok (.aload_n 0, 1) := by decide +kernel
theorem dX7_doneThen_6 : decode cX7_doneThen 6 = .ok (.getfield 7, 3) := by decide +kernel
theorem dX7_doneThen_9 : decode cX7_doneThen 9 = .ok (.bipush 7, 2) := by decide +kernel
theorem dX7_doneThen_11 : decode cX7_doneThen 11 = .ok (.iaload, 1) := by decide +kernel
theorem dX7_doneThen_12 : decode cX7_doneThen 12 = .ok (.if_icmp .ge 34, 3) := by decide +kernel
theorem dX7_doneThen_15 : decode cX7_doneThen 15 = .ok (.iload_n 1, 1) := by decide +kernel
theorem dX7_doneThen_16 : decode cX7_doneThen 16 = .ok (.aload_n 0, 1) := by decide +kernel
theorem dX7_doneThen_17 : decode cX7_doneThen 17 = .ok (.getfield 19, 3) := by decide +kernel
theorem dX7_doneThen_20 : decode cX7_doneThen 20 = .ok (.bipush 10, 2) := by decide +kernel
theorem dX7_doneThen_22 : decode cX7_doneThen 22 = .ok (.iconst 5, 1) := by decide +kernel
theorem dX7_doneThen_23 : decode cX7_doneThen 23 = .ok (.iload_n 2, 1) := by decide +kernel
theorem dX7_doneThen_24 : decode cX7_doneThen 24 = .ok (.imul, 1) := by decide +kernel
theorem dX7_doneThen_25 : decode cX7_doneThen 25 = .ok (.iadd, 1) := by decide +kernel
theorem dX7_doneThen_26 : decode cX7_doneThen 26 = .ok (.iconst 3, 1) := by decide +kernel
theorem dX7_doneThen_27 : decode cX7_doneThen 27 = .ok (.iadd, 1) := by decide +kernel
theorem dX7_doneThen_28 : decode cX7_doneThen 28 = .ok (.iaload, 1) := by decide +kernel
theorem dX7_doneThen_29 : decode cX7_doneThen 29 = .ok (.iconst 2, 1) := by decide +kernel
theorem dX7_doneThen_30 : decode cX7_doneThen 30 = .ok (.if_icmp .ne 7, 3) := by decide +kernel
theorem dX7_doneThen_33 : decode cX7_doneThen 33 = .ok (.iconst 1, 1) := by decide +kernel
theorem dX7_doneThen_34 : decode cX7_doneThen 34 = .ok (.goto 4, 3) := by decide +kernel
theorem dX7_doneThen_37 : decode cX7_doneThen 37 = .ok (.iconst 0, 1) := by decide +kernel
theorem dX7_doneThen_38 : decode cX7_doneThen 38 = .ok (.iadd, 1) := by decide +kernel
theorem dX7_doneThen_39 : decode cX7_doneThen 39 = .ok (.istore_n 1, 1) := by decide +kernel
theorem dX7_doneThen_40 : decode cX7_doneThen 40 = .ok (.iinc 2 1, 3) := by decide +kernel
theorem dX7_doneThen_43 : decode cX7_doneThen 43 = .ok (.goto (-39), 3) := by decide +kernel
theorem dX7_doneThen_46 : decode cX7_doneThen 46 = .ok (.iload_n 1, 1) := by decide +kernel
theorem dX7_doneThen_47 : decode cX7_doneThen 47 = .ok (.ireturn, 1) := by decide +kernel
theorem dX7_bestDrop_0 : decode cX7_bestDrop 0 = .ok (.aload_n 0, 1) := by decide +kernel
theorem dX7_bestDrop_1 : decode cX7_bestDrop 1 = .ok (.iconst 0, 1) := by decide +kernel
theorem dX7_bestDrop_2 : decode cX7_bestDrop 2 = .ok (.putfield 25, 3) := by decide +kernel
theorem dX7_bestDrop_5 : decode cX7_bestDrop 5 = .ok (.aload_n 0, 1) := by decide +kernel
theorem dX7_bestDrop_6 : decode cX7_bestDrop 6 = .ok (.invokevirtual 166, 3) := by decide +kernel
theorem dX7_bestDrop_9 : decode cX7_bestDrop 9 = .ok (.aload_n 0, 1) := by decide +kernel
theorem dX7_bestDrop_10 : decode cX7_bestDrop 10 = .ok (.invokevirtual 172, 3) := by decide +kernel
theorem dX7_bestDrop_13 : decode cX7_bestDrop 13 = .ok (.istore_n 1, 1) := by decide +kernel
theorem dX7_bestDrop_14 : decode cX7_bestDrop 14 = .ok (.iconst (-1), 1) := by decide +kernel
theorem dX7_bestDrop_15 : decode cX7_bestDrop 15 = .ok (.istore_n 2, 1) := by decide +kernel
theorem dX7_bestDrop_16 : decode cX7_bestDrop 16 = .ok (.iconst 0, 1) := by decide +kernel
theorem dX7_bestDrop_17 : decode cX7_bestDrop 17 = .ok (.istore_n 3, 1) := by decide +kernel
theorem dX7_bestDrop_18 : decode cX7_bestDrop 18 = .ok (.iload_n 3, 1) := by decide +kernel
theorem dX7_bestDrop_19 : decode cX7_bestDrop 19 = .ok (.aload_n 0, 1) := by decide +kernel
theorem dX7_bestDrop_20 : decode cX7_bestDrop 20 = .ok (.getfield 7, 3) := by decide +kernel
theorem dX7_bestDrop_23 : decode cX7_bestDrop 23 = .ok (.bipush 7, 2) := by decide +kernel
theorem dX7_bestDrop_25 : decode cX7_bestDrop 25 = .ok (.iaload, 1) := by decide +kernel
theorem dX7_bestDrop_26 : decode cX7_bestDrop 26 = .ok (.if_icmp .ge 80, 3) := by decide +kernel
theorem dX7_bestDrop_29 : decode cX7_bestDrop 29 = .ok (.aload_n 0, 1) := by decide +kernel
theorem dX7_bestDrop_30 : decode cX7_bestDrop 30 = .ok (.iload_n 3, 1) := by decide +kernel
theorem dX7_bestDrop_31 : decode cX7_bestDrop 31 = .ok (.invokevirtual 36, 3) := by decide +kernel
theorem dX7_bestDrop_34 : decode cX7_bestDrop 34 = .ok (.ifCond .eq 66, 3) := by decide +kernel
theorem dX7_bestDrop_37 : decode cX7_bestDrop 37 = .ok (.aload_n 0, 1) := by decide +kernel
theorem dX7_bestDrop_38 : decode cX7_bestDrop 38 = .ok (.getfield 7, 3) := by decide +kernel
theorem dX7_bestDrop_41 : decode cX7_bestDrop 41 = .ok (.bipush 10, 2) := by decide +kernel
theorem dX7_bestDrop_43 : decode cX7_bestDrop 43 = .ok (.iconst 5, 1) := by decide +kernel
theorem dX7_bestDrop_44 : decode cX7_bestDrop 44 = .ok (.iload_n 3, 1) := by decide +kernel
theorem dX7_bestDrop_45 : decode cX7_bestDrop 45 = .ok (.imul, 1) := by decide +kernel
theorem dX7_bestDrop_46 : decode cX7_bestDrop 46 = .ok (.iadd, 1) := by decide +kernel
theorem dX7_bestDrop_47 : decode cX7_bestDrop 47 = .ok (.iconst 3, 1) := by decide +kernel
theorem dX7_bestDrop_48 : decode cX7_bestDrop 48 = .ok (.iadd, 1) := by decide +kernel
theorem dX7_bestDrop_49 : decode cX7_bestDrop 49 = .ok (.iconst 3, 1) := by decide +kernel
theorem dX7_bestDrop_50 : decode cX7_bestDrop 50 = .ok (.iastore, 1) := by decide +kernel
theorem dX7_bestDrop_51 : decode cX7_bestDrop 51 = .ok (.aload_n 0, 1) := by decide +kernel
theorem dX7_bestDrop_52 : decode cX7_bestDrop 52 = .ok (.invokevirtual 166, 3) := by decide +kernel
theorem dX7_bestDrop_55 : decode cX7_bestDrop 55 = .ok (.aload_n 0, 1) := by decide +kernel
theorem dX7_bestDrop_56 : decode cX7_bestDrop 56 = .ok (.getfield 7, 3) := by decide +kernel
theorem dX7_bestDrop_59 : decode cX7_bestDrop 59 = .ok (.bipush 10, 2) := by decide +kernel
theorem dX7_bestDrop_61 : decode cX7_bestDrop 61 = .ok (.iconst 5, 1) := by decide +kernel
theorem dX7_bestDrop_62 : decode cX7_bestDrop 62 = .ok (.iload_n 3, 1) := by decide +kernel
theorem dX7_bestDrop_63 : decode cX7_bestDrop 63 = .ok (.imul, 1) := by decide +kernel
theorem dX7_bestDrop_64 : decode cX7_bestDrop 64 = .ok (.iadd, 1) := by decide +kernel
theorem dX7_bestDrop_65 : decode cX7_bestDrop 65 = .ok (.iconst 3, 1) := by decide +kernel
theorem dX7_bestDrop_66 : decode cX7_bestDrop 66 = .ok (.iadd, 1) := by decide +kernel
theorem dX7_bestDrop_67 : decode cX7_bestDrop 67 = .ok (.iconst 0, 1) := by decide +kernel
theorem dX7_bestDrop_68 : decode cX7_bestDrop 68 = .ok (.iastore, 1) := by decide +kernel
theorem dX7_bestDrop_69 : decode cX7_bestDrop 69 = .ok (.aload_n 0, 1) := by decide +kernel
theorem dX7_bestDrop_70 : decode cX7_bestDrop 70 = .ok (.invokevirtual 172, 3) := by decide +kernel
theorem dX7_bestDrop_73 : decode cX7_bestDrop 73 = .ok (.iload_n 1, 1) := by decide +kernel
theorem dX7_bestDrop_74 : decode cX7_bestDrop 74 = .ok (.if_icmp .le 7, 3) := by decide +kernel
theorem dX7_bestDrop_77 : decode cX7_bestDrop 77 = .ok (.iload_n 3, 1) := by decide +kernel
theorem dX7_bestDrop_78 : decode cX7_bestDrop 78 = .ok (.goto 4, 3) := by decide +kernel
theorem dX7_bestDrop_81 : decode cX7_bestDrop 81 = .ok (.iload_n 2, 1) := by decide +kernel
theorem dX7_bestDrop_82 : decode cX7_bestDrop 82 = .ok (.istore_n 2, 1) := by decide +kernel
theorem dX7_bestDrop_83 : decode cX7_bestDrop 83 = .ok (.aload_n 0, 1) := by decide +kernel
theorem dX7_bestDrop_84 : decode cX7_bestDrop 84 = .ok (.invokevirtual 172, 3) := by decide +kernel
theorem dX7_bestDrop_87 : decode cX7_bestDrop 87 = .ok (.iload_n 1, 1) := by decide +kernel
theorem dX7_bestDrop_88 : decode cX7_bestDrop 88 = .ok (.if_icmp .le 10, 3) := by decide +kernel
theorem dX7_bestDrop_91 : decode cX7_bestDrop 91 = .ok (.aload_n 0, 1) := by decide +kernel
theorem dX7_bestDrop_92 : decode cX7_bestDrop 92 = .ok (.invokevirtual 172, 3) := by decide +kernel
theorem dX7_bestDrop_95 : decode cX7_bestDrop 95 = .ok (.goto 4, 3) := by decide +kernel
theorem dX7_bestDrop_98 : decode cX7_bestDrop 98 = .ok (.iload_n 1, 1) := by decide +kernel
theorem dX7_bestDrop_99 : decode cX7_bestDrop 99 = .ok (.istore_n 1, 1) := by decide +kernel
theorem dX7_bestDrop_100 : decode cX7_bestDrop 100 = .ok (.iinc 3 1, 3) := by decide +kernel
theorem dX7_bestDrop_103 : decode cX7_bestDrop 103 = .ok (.goto (-85), 3) := by decide +kernel
theorem dX7_bestDrop_106 : decode cX7_bestDrop 106 = .ok (.iload_n 2, 1) := by decide +kernel
theorem dX7_bestDrop_107 : decode cX7_bestDrop 107 = .ok (.ireturn, 1) := by decide +kernel
theorem dX7_sounding_0 : decode cX7_sounding 0 = .ok (.aload_n 0, 1) := by decide +kernel
theorem dX7_sounding_1 : decode cX7_sounding 1 = .ok (.iconst 0, 1) := by decide +kernel
theorem dX7_sounding_2 : decode cX7_sounding 2 = .ok (.putfield 25, 3) := by decide +kernel
theorem dX7_sounding_5 : decode cX7_sounding 5 = .ok (.aload_n 0, 1) := by decide +kernel
theorem dX7_sounding_6 : decode cX7_sounding 6 = .ok (.getfield 7, 3) := by decide +kernel
theorem dX7_sounding_9 : decode cX7_sounding 9 = .ok (.iconst 0, 1) := by decide +kernel
theorem dX7_sounding_10 : decode cX7_sounding 10 = .ok (.iaload, 1) := by decide +kernel
theorem dX7_sounding_11 : decode cX7_sounding 11 = .ok (.ifCond .ne 7, 3) := by decide +kernel
theorem dX7_sounding_14 : decode cX7_sounding 14 = .ok (.dconst 1, 1) := by decide +kernel
theorem dX7_sounding_15 : decode cX7_sounding 15 = .ok (.goto 25, 3) := by decide +kernel
theorem dX7_sounding_18 : decode cX7_sounding 18 = .ok (.aload_n 0, 1) := by decide +kernel
theorem dX7_sounding_19 : decode cX7_sounding 19 = .ok (.getfield 7, 3) := by decide +kernel
theorem dX7_sounding_22 : decode cX7_sounding 22 = .ok (.iconst 0, 1) := by decide +kernel
theorem dX7_sounding_23 : decode cX7_sounding 23 = .ok (.iaload, 1) := by decide +kernel
theorem dX7_sounding_24 : decode cX7_sounding 24 = .ok (.aload_n 0, 1) := by decide +kernel
theorem dX7_sounding_25 : decode cX7_sounding 25 = .ok (.getfield 7, 3) := by decide +kernel
theorem dX7_sounding_28 : decode cX7_sounding 28 = .ok (.iconst 5, 1) := by decide +kernel
theorem dX7_sounding_29 : decode cX7_sounding 29 = .ok (.iaload, 1) := by decide +kernel
theorem dX7_sounding_30 : decode cX7_sounding 30 = .ok (.isub, 1) := by decide +kernel
theorem dX7_sounding_31 : decode cX7_sounding 31 = .ok (.i2d, 1) := by decide +kernel
theorem dX7_sounding_32 : decode cX7_sounding 32 = .ok (.aload_n 0, 1) := by decide +kernel
theorem dX7_sounding_33 : decode cX7_sounding 33 = .ok (.getfield 7, 3) := by decide +kernel
theorem dX7_sounding_36 : decode cX7_sounding 36 = .ok (.iconst 0, 1) := by decide +kernel
theorem dX7_sounding_37 : decode cX7_sounding 37 = .ok (.iaload, 1) := by decide +kernel
theorem dX7_sounding_38 : decode cX7_sounding 38 = .ok (.i2d, 1) := by decide +kernel
theorem dX7_sounding_39 : decode cX7_sounding 39 = .ok (.ddiv, 1) := by decide +kernel
theorem dX7_sounding_40 : decode cX7_sounding 40 = .ok (.dreturn, 1) := by decide +kernel
theorem dX7_append_0 : decode cX7_append 0 = .ok (.iload_n 1, 1) := by decide +kernel
theorem dX7_append_1 : decode cX7_append 1 = .ok (.iconst 0, 1) := by decide +kernel
theorem dX7_append_2 : decode cX7_append 2 = .ok (.bipush 127, 2) := by decide +kernel
theorem dX7_append_4 : decode cX7_append 4 = .ok (.invokestatic 110, 3) := by decide +kernel
theorem dX7_append_7 : decode cX7_append 7 = .ok (.ifCond .ne 9, 3) := by decide +kernel
theorem dX7_append_10 : decode cX7_append 10 = .ok (.aload_n 0, 1) := by decide +kernel
theorem dX7_append_11 : decode cX7_append 11 = .ok (.iconst 1, 1) := by decide +kernel
theorem dX7_append_12 : decode cX7_append 12 = .ok (.invokevirtual 114, 3) := by decide +kernel
theorem dX7_append_15 : decode cX7_append 15 = .ok (.ireturn, 1) := by decide +kernel
theorem dX7_append_16 : decode cX7_append 16 = .ok (.aload_n 0, 1) := by decide +kernel
theorem dX7_append_17 : decode cX7_append 17 = .ok (.getfield 175, 3) := by decide +kernel
theorem dX7_append_20 : decode cX7_append 20 = .ok (.bipush 100, 2) := by decide +kernel
theorem dX7_append_22 : decode cX7_append 22 = .ok (.if_icmp .ne 9, 3) := by decide +kernel
theorem dX7_append_25 : decode cX7_append 25 = .ok (.aload_n 0, 1) := by decide +kernel
theorem dX7_append_26 : decode cX7_append 26 = .ok (.iconst 2, 1) := by decide +kernel
theorem dX7_append_27 : decode cX7_append 27 = .ok (.invokevirtual 114, 3) := by decide +kernel
theorem dX7_append_30 : decode cX7_append 30 = .ok (.ireturn, 1) := by decide +kernel
theorem dX7_append_31 : decode cX7_append 31 = .ok (.aload_n 0, 1) := by decide +kernel
theorem dX7_append_32 : decode cX7_append 32 = .ok (.getfield 22, 3) := by decide +kernel
theorem dX7_append_35 : decode cX7_append 35 = .ok (.aload_n 0, 1) := by decide +kernel
theorem dX7_append_36 : decode cX7_append 36 = .ok (.getfield 175, 3) := by decide +kernel
theorem dX7_append_39 : decode cX7_append 39 = .ok (.iload_n 1, 1) := by decide +kernel
theorem dX7_append_40 : decode cX7_append 40 = .ok (.iastore, 1) := by decide +kernel
theorem dX7_append_41 : decode cX7_append 41 = .ok (.aload_n 0, 1) := by decide +kernel
theorem dX7_append_42 : decode cX7_append 42 = .ok (.dup, 1) := by decide +kernel
theorem dX7_append_43 : decode cX7_append 43 = .ok (.getfield 175, 3) := by decide +kernel
theorem dX7_append_46 : decode cX7_append 46 = .ok (.iconst 1, 1) := by decide +kernel
theorem dX7_append_47 : decode cX7_append 47 = .ok (.iadd, 1) := by decide +kernel
theorem dX7_append_48 : decode cX7_append 48 = .ok (.putfield 175, 3) := by decide +kernel
theorem dX7_append_51 : decode cX7_append 51 = .ok (.aload_n 0, 1) := by decide +kernel
theorem dX7_append_52 : decode cX7_append 52 = .ok (.aload_n 0, 1) := by decide +kernel
theorem dX7_append_53 : decode cX7_append 53 = .ok (.getfield 175, 3) := by decide +kernel
theorem dX7_append_56 : decode cX7_append 56 = .ok (.invokevirtual 148, 3) := by decide +kernel
theorem dX7_append_59 : decode cX7_append 59 = .ok (.ireturn, 1) := by decide +kernel
theorem dX7_clearText_0 : decode cX7_clearText 0 = .ok (.aload_n 0, 1) := by decide +kernel
theorem dX7_clearText_1 : decode cX7_clearText 1 = .ok (.getfield 175, 3) := by decide +kernel
theorem dX7_clearText_4 : decode cX7_clearText 4 = .ok (.istore_n 1, 1) := by decide +kernel
theorem dX7_clearText_5 : decode cX7_clearText 5 = .ok (.aload_n 0, 1) := by decide +kernel
theorem dX7_clearText_6 : decode cX7_clearText 6 = .ok (.iconst 0, 1) := by decide +kernel
theorem dX7_clearText_7 : decode cX7_clearText 7 = .ok (.putfield 175, 3) := by decide +kernel
theorem dX7_clearText_10 : decode cX7_clearText 10 = .ok (.aload_n 0, 1) := by decide +kernel
theorem dX7_clearText_11 : decode cX7_clearText 11 = .ok (.iload_n 1, 1) := by decide +kernel
theorem dX7_clearText_12 : decode cX7_clearText 12 = .ok (.invokevirtual 148, 3) := by decide +kernel
theorem dX7_clearText_15 : decode cX7_clearText 15 = .ok (.ireturn, 1) := by decide +kernel
theorem dX7_isAt_0 : decode cX7_isAt 0 = .ok (.aload_n 0, 1) := by decide +kernel
theorem dX7_isAt_1 : decode cX7_isAt 1 = .ok (.getfield 178, 3) := by decide +kernel
theorem dX7_isAt_4 : decode cX7_isAt 4 = .ok (.aload_n 0, 1) := by decide +kernel
theorem dX7_isAt_5 : decode cX7_isAt 5 = .ok (.getfield 175, 3) := by decide +kernel
theorem dX7_isAt_8 : decode cX7_isAt 8 = .ok (.if_icmp .ge 24, 3) := by decide +kernel
theorem dX7_isAt_11 : decode cX7_isAt 11 = .ok (.aload_n 0, 1) := by decide +kernel
theorem dX7_isAt_12 : decode cX7_isAt 12 = .ok (.getfield 22, 3) := by decide +kernel
theorem dX7_isAt_15 : decode cX7_isAt 15 = .ok (.aload_n 0, 1) := by decide +kernel
theorem dX7_isAt_16 : decode cX7_isAt 16 = .ok (.getfield 178, 3) := by decide +kernel
theorem dX7_isAt_19 : decode cX7_isAt 19 = .ok (.iaload, 1) := by decide +kernel
theorem dX7_isAt_20 : decode cX7_isAt 20 = .ok (.iload_n 1, 1) := by decide +kernel
theorem dX7_isAt_21 : decode cX7_isAt 21 = .ok (.iload_n 2, 1) := by decide +kernel
theorem dX7_isAt_22 : decode cX7_isAt 22 = .ok (.invokestatic 110, 3) := by decide +kernel
theorem dX7_isAt_25 : decode cX7_isAt 25 = .ok (.ifCond .eq 7, 3) := by decide +kernel
theorem dX7_isAt_28 : decode cX7_isAt 28 = .ok (.iconst 1, 1) := by decide +kernel
theorem dX7_isAt_29 : decode cX7_isAt 29 = .ok (.goto 4, 3) := by decide +kernel
theorem dX7_isAt_32 : decode cX7_isAt 32 = .ok (.iconst 0, 1) := by decide +kernel
theorem dX7_isAt_33 : decode cX7_isAt 33 = .ok (.ireturn, 1) := by decide +kernel
theorem dX7_takes_0 : decode cX7_takes 0 = .ok (.aload_n 0, 1) := by decide +kernel
theorem dX7_takes_1 : decode cX7_takes 1 = .ok (.iload_n 1, 1) := by decide +kernel
theorem dX7_takes_2 : decode cX7_takes 2 = .ok (.iload_n 1, 1) := by decide +kernel
theorem dX7_takes_3 : decode cX7_takes 3 = .ok (.invokevirtual 181, 3) := by decide +kernel
theorem dX7_takes_6 : decode cX7_takes 6 = .ok (.istore_n 2, 1) := by decide +kernel
theorem dX7_takes_7 : decode cX7_takes 7 = .ok (.aload_n 0, 1) := by decide +kernel
theorem dX7_takes_8 : decode cX7_takes 8 = .ok (.dup, 1) := by decide +kernel
theorem dX7_takes_9 : decode cX7_takes 9 = .ok (.getfield 178, 3) := by decide +kernel
theorem dX7_takes_12 : decode cX7_takes 12 = .ok (.iload_n 2, 1) := by decide +kernel
theorem dX7_takes_13 : decode cX7_takes 13 = .ok (.ifCond .eq 7, 3) := by decide +kernel
theorem dX7_takes_16 : decode cX7_takes 16 = .ok (.iconst 1, 1) := by decide +kernel
theorem dX7_takes_17 : decode cX7_takes 17 = .ok (.goto 4, 3) := by decide +kernel
theorem dX7_takes_20 : decode cX7_takes 20 = .ok (.iconst 0, 1) := by decide +kernel
theorem dX7_takes_21 : decode cX7_takes 21 = .ok (.iadd, 1) := by decide +kernel
theorem dX7_takes_22 : decode cX7_takes 22 = .ok (.putfield 178, 3) := by decide +kernel
theorem dX7_takes_25 : decode cX7_takes 25 = .ok (.iload_n 2, 1) := by decide +kernel
theorem dX7_takes_26 : decode cX7_takes 26 = .ok (.ireturn, 1) := by decide +kernel
theorem dX7_readsNumber_0 : decode cX7_readsNumber 0 = .ok (.aload_n 0, 1) := by decide +kernel
theorem dX7_readsNumber_1 : decode cX7_readsNumber 1 = .ok (.getfield 178, 3) := by decide +kernel
theorem dX7_readsNumber_4 : decode cX7_readsNumber 4 = .ok (.istore 4, 2) := by decide +kernel
theorem dX7_readsNumber_6 : decode cX7_readsNumber 6 = .ok (.aload_n 0, 1) := by decide +kernel
theorem dX7_readsNumber_7 : decode cX7_readsNumber 7 = .ok (.iconst 0, 1) := by decide +kernel
theorem dX7_readsNumber_8 : decode cX7_readsNumber 8 = .ok (.putfield 184, 3) := by decide +kernel
theorem dX7_readsNumber_11 : decode cX7_readsNumber 11 = .ok (.aload_n 0, 1) := by decide +kernel
theorem dX7_readsNumber_12 : decode cX7_readsNumber 12 = .ok (.getfield 178, 3) := by decide +kernel
theorem dX7_readsNumber_15 : decode cX7_readsNumber 15 = .ok (.iload 4, 2) := by decide +kernel
theorem dX7_readsNumber_17 : decode cX7_readsNumber 17 = .ok (.isub, 1) := by decide +kernel
theorem dX7_readsNumber_18 : decode cX7_readsNumber 18 = .ok (.iload_n 1, 1) := by decide +kernel
theorem dX7_readsNumber_19 : decode cX7_readsNumber 19 = .ok (.if_icmp .ge 51, 3) := by decide +kernel
theorem dX7_readsNumber_22 : decode cX7_readsNumber 22 = .ok (.aload_n 0, 1) := by decide +kernel
theorem dX7_readsNumber_23 : decode cX7_readsNumber 23 = .ok (.bipush 48, 2) := by decide +kernel
theorem dX7_readsNumber_25 : decode cX7_readsNumber 25 = .ok (.bipush 57, 2) := by decide +kernel
theorem dX7_readsNumber_27 : decode cX7_readsNumber 27 = .ok (.invokevirtual 181, 3) := by decide +kernel
theorem dX7_readsNumber_30 : decode cX7_readsNumber 30 = .ok (.ifCond .eq 40, 3) := by decide +kernel
theorem dX7_readsNumber_33 : decode cX7_readsNumber 33 = .ok (.aload_n 0, 1) := by decide +kernel
theorem dX7_readsNumber_34 : decode cX7_readsNumber 34 = .ok (.bipush 10, 2) := by decide +kernel
theorem dX7_readsNumber_36 : decode cX7_readsNumber 36 = .ok (.aload_n 0, 1) := by decide +kernel
theorem dX7_readsNumber_37 : decode cX7_readsNumber 37 = .ok (.getfield 184, 3) := by decide +kernel
theorem dX7_readsNumber_40 : decode cX7_readsNumber 40 = .ok (.imul, 1) := by decide +kernel
theorem dX7_readsNumber_41 : decode cX7_readsNumber 41 = .ok (.aload_n 0, 1) := by decide +kernel
theorem dX7_readsNumber_42 : decode cX7_readsNumber 42 = .ok (.getfield 22, 3) := by decide +kernel
theorem dX7_readsNumber_45 : decode cX7_readsNumber 45 = .ok (.aload_n 0, 1) := by decide +kernel
theorem dX7_readsNumber_46 : decode cX7_readsNumber 46 = .ok (.getfield 178, 3) := by decide +kernel
theorem dX7_readsNumber_49 : decode cX7_readsNumber 49 = .ok (.iaload, 1) := by decide +kernel
theorem dX7_readsNumber_50 : decode cX7_readsNumber 50 = .ok (.iadd, 1) := by decide +kernel
theorem dX7_readsNumber_51 : decode cX7_readsNumber 51 = .ok (.bipush 48, 2) := by decide +kernel
theorem dX7_readsNumber_53 : decode cX7_readsNumber 53 = .ok (.isub, 1) := by decide +kernel
theorem dX7_readsNumber_54 : decode cX7_readsNumber 54 = .ok (.putfield 184, 3) := by decide +kernel
theorem dX7_readsNumber_57 : decode cX7_readsNumber 57 = .ok (.aload_n 0, 1) := by decide +kernel
theorem dX7_readsNumber_58 : decode cX7_readsNumber 58 = .ok (.dup, 1) := by decide +kernel
theorem dX7_readsNumber_59 : decode cX7_readsNumber 59 = .ok (.getfield 178, 3) := by decide +kernel
theorem dX7_readsNumber_62 : decode cX7_readsNumber 62 = .ok (.iconst 1, 1) := by decide +kernel
theorem dX7_readsNumber_63 : decode cX7_readsNumber 63 = .ok (.iadd, 1) := by decide +kernel
theorem dX7_readsNumber_64 : decode cX7_readsNumber 64 = .ok (.putfield 178, 3) := by decide +kernel
theorem dX7_readsNumber_67 : decode cX7_readsNumber 67 = .ok (.goto (-56), 3) := by decide +kernel
theorem dX7_readsNumber_70 : decode cX7_readsNumber 70 = .ok (.aload_n 0, 1) := by decide +kernel
theorem dX7_readsNumber_71 : decode cX7_readsNumber 71 = .ok (.getfield 178, 3) := by decide +kernel
theorem dX7_readsNumber_74 : decode cX7_readsNumber 74 = .ok (.iload 4, 2) := by decide +kernel
theorem dX7_readsNumber_76 : decode cX7_readsNumber 76 = .ok (.if_icmp .eq 14, 3) := by decide +kernel
theorem dX7_readsNumber_79 : decode cX7_readsNumber 79 = .ok (.aload_n 0, 1) := by decide +kernel
theorem dX7_readsNumber_80 : decode cX7_readsNumber 80 = .ok (.bipush 48, 2) := by decide +kernel
theorem dX7_readsNumber_82 : decode cX7_readsNumber 82 = .ok (.bipush 57, 2) := by decide +kernel
theorem dX7_readsNumber_84 : decode cX7_readsNumber 84 = .ok (.invokevirtual 181, 3) := by decide +kernel
theorem dX7_readsNumber_87 : decode cX7_readsNumber 87 = .ok (.ifCond .eq 5, 3) := by decide +kernel
theorem dX7_readsNumber_90 : decode cX7_readsNumber 90 = .ok (.iconst 0, 1) := by decide +kernel
theorem dX7_readsNumber_91 : decode cX7_readsNumber 91 = .ok (.ireturn, 1) := by decide +kernel
theorem dX7_readsNumber_92 : decode cX7_readsNumber 92 = .ok (.aload_n 0, 1) := by decide +kernel
theorem dX7_readsNumber_93 : decode cX7_readsNumber 93 = .ok (.getfield 184, 3) := by decide +kernel
theorem dX7_readsNumber_96 : decode cX7_readsNumber 96 = .ok (.iload_n 2, 1) := by decide +kernel
theorem dX7_readsNumber_97 : decode cX7_readsNumber 97 = .ok (.iload_n 3, 1) := by decide +kernel
theorem dX7_readsNumber_98 : decode cX7_readsNumber 98 = .ok (.invokestatic 110, 3) := by decide +kernel
theorem dX7_readsNumber_101 : decode cX7_readsNumber 101 = .ok (.istore 5, 2) := by decide +kernel
theorem dX7_readsNumber_103 : decode cX7_readsNumber 103 = .ok (.aload_n 0, 1) := by decide +kernel
theorem dX7_readsNumber_104 : decode cX7_readsNumber 104 = .ok (.iload 5, 2) := by decide +kernel
theorem dX7_readsNumber_106 : decode cX7_readsNumber 106 = .ok (.ifCond .eq 10, 3) := by decide +kernel
theorem dX7_readsNumber_109 : decode cX7_readsNumber 109 = .ok (.aload_n 0, 1) := by decide +kernel
theorem dX7_readsNumber_110 : decode cX7_readsNumber 110 = .ok (.getfield 178, 3) := by decide +kernel
theorem dX7_readsNumber_113 : decode cX7_readsNumber 113 = .ok (.goto 5, 3) := by decide +kernel
theorem dX7_readsNumber_116 : decode cX7_readsNumber 116 = .ok (.iload 4, 2) := by decide +kernel
theorem dX7_readsNumber_118 : decode cX7_readsNumber 118 = .ok (.putfield 178, 3) := by decide +kernel
theorem dX7_readsNumber_121 : decode cX7_readsNumber 121 = .ok (.iload 5, 2) := by decide +kernel
theorem dX7_readsNumber_123 : decode cX7_readsNumber 123 = .ok (.ireturn, 1) := by decide +kernel
theorem dX7_readsElement_0 : decode cX7_readsElement 0 = .ok (.aload_n 0, 1) := by decide +kernel
theorem dX7_readsElement_1 : decode cX7_readsElement 1 = .ok (.getfield 7, 3) := by decide +kernel
theorem dX7_readsElement_4 : decode cX7_readsElement 4 = .ok (.bipush 7, 2) := by decide +kernel
theorem dX7_readsElement_6 : decode cX7_readsElement 6 = .ok (.iaload, 1) := by decide +kernel
theorem dX7_readsElement_7 : decode cX7_readsElement 7 = .ok (.bipush 12, 2) := by decide +kernel
theorem dX7_readsElement_9 : decode cX7_readsElement 9 = .ok (.if_icmp .eq 15, 3) := by decide +kernel
theorem dX7_readsElement_12 : decode cX7_readsElement 12 = .ok (.aload_n 0, 1) := by decide +kernel
theorem dX7_readsElement_13 : decode cX7_readsElement 13 = .ok (.iconst 4, 1) := by decide +kernel
theorem dX7_readsElement_14 : decode cX7_readsElement 14 = .ok (.iconst 1, 1) := by decide +kernel
theorem dX7_readsElement_15 : decode cX7_readsElement 15 = .ok (.sipush 1800, 3) := by decide +kernel
theorem dX7_readsElement_18 : decode cX7_readsElement 18 = .ok (.invokevirtual 187, 3) := by decide +kernel
theorem dX7_readsElement_21 : decode cX7_readsElement 21 = .ok (.ifCond .ne 5, 3) := by decide +kernel
theorem dX7_readsElement_24 : decode cX7_readsElement 24 = .ok (.iconst 0, 1) := by decide +kernel
theorem dX7_readsElement_25 : decode cX7_readsElement 25 = .ok (.ireturn, 1) := by decide +kernel
theorem dX7_readsElement_26 : decode cX7_readsElement 26 = .ok (.aload_n 0, 1) := by decide +kernel
theorem dX7_readsElement_27 : decode cX7_readsElement 27 = .ok (.getfield 184, 3) := by decide +kernel
theorem dX7_readsElement_30 : decode cX7_readsElement 30 = .ok (.istore_n 1, 1) := by decide +kernel
theorem dX7_readsElement_31 : decode cX7_readsElement 31 = .ok (.iconst (-1), 1) := by decide +kernel
theorem dX7_readsElement_32 : decode cX7_readsElement 32 = .ok (.istore_n 2, 1) := by decide +kernel
theorem dX7_readsElement_33 : decode cX7_readsElement 33 = .ok (.iconst 5, 1) := by decide +kernel
theorem dX7_readsElement_34 : decode cX7_readsElement 34 = .ok (.istore_n 3, 1) := by decide +kernel
theorem dX7_readsElement_35 : decode cX7_readsElement 35 = .ok (.aload_n 0, 1) := by decide +kernel
theorem dX7_readsElement_36 : decode cX7_readsElement 36 = .ok (.bipush 64, 2) := by decide +kernel
theorem dX7_readsElement_38 : decode cX7_readsElement 38 = .ok (.invokevirtual 190, 3) := by decide +kernel
theorem dX7_readsElement_41 : decode cX7_readsElement 41 = .ok (.ifCond .eq 22, 3) := by decide +kernel
theorem dX7_readsElement_44 : decode cX7_readsElement 44 = .ok (.aload_n 0, 1) := by decide +kernel
theorem dX7_readsElement_45 : decode cX7_readsElement 45 = .ok (.iconst 4, 1) := by decide +kernel
theorem dX7_readsElement_46 : decode cX7_readsElement 46 = .ok (.iconst 0, 1) := by decide +kernel
theorem dX7_readsElement_47 : decode cX7_readsElement 47 = .ok (.sipush 3599, 3) := by decide +kernel
theorem dX7_readsElement_50 : decode cX7_readsElement 50 = .ok (.invokevirtual 187, 3) := by decide +kernel
theorem dX7_readsElement_53 : decode cX7_readsElement 53 = .ok (.ifCond .ne 5, 3) := by decide +kernel
theorem dX7_readsElement_56 : decode cX7_readsElement 56 = .ok (.iconst 0, 1) := by decide +kernel
theorem dX7_readsElement_57 : decode cX7_readsElement 57 = .ok (.ireturn, 1) := by decide +kernel
theorem dX7_readsElement_58 : decode cX7_readsElement 58 = .ok (.aload_n 0, 1) := by decide +kernel
theorem dX7_readsElement_59 : decode cX7_readsElement 59 = .ok (.getfield 184, 3) := by decide +kernel
theorem dX7_readsElement_62 : decode cX7_readsElement 62 = .ok (.istore_n 2, 1) := by decide +kernel
theorem dX7_readsElement_63 : decode cX7_readsElement 63 = .ok (.aload_n 0, 1) := by decide +kernel
theorem dX7_readsElement_64 : decode cX7_readsElement 64 = .ok (.bipush 114, 2) := by decide +kernel
theorem dX7_readsElement_66 : decode cX7_readsElement 66 = .ok (.invokevirtual 190, 3) := by decide +kernel
theorem dX7_readsElement_69 : decode cX7_readsElement 69 = .ok (.ifCond .eq 39, 3) := by decide +kernel
theorem dX7_readsElement_72 : decode cX7_readsElement 72 = .ok (.aload_n 0, 1) := by decide +kernel
theorem dX7_readsElement_73 : decode cX7_readsElement 73 = .ok (.bipush 48, 2) := by decide +kernel
theorem dX7_readsElement_75 : decode cX7_readsElement 75 = .ok (.bipush 57, 2) := by decide +kernel
theorem dX7_readsElement_77 : decode cX7_readsElement 77 = .ok (.invokevirtual 181, 3) := by decide +kernel
theorem dX7_readsElement_80 : decode cX7_readsElement 80 = .ok (.ifCond .ne 5, 3) := by decide +kernel
theorem dX7_readsElement_83 : decode cX7_readsElement 83 = .ok (.iconst 0, 1) := by decide +kernel
theorem dX7_readsElement_84 : decode cX7_readsElement 84 = .ok (.ireturn, 1) := by decide +kernel
theorem dX7_readsElement_85 : decode cX7_readsElement 85 = .ok (.aload_n 0, 1) := by decide +kernel
theorem dX7_readsElement_86 : decode cX7_readsElement 86 = .ok (.getfield 22, 3) := by decide +kernel
theorem dX7_readsElement_89 : decode cX7_readsElement 89 = .ok (.aload_n 0, 1) := by decide +kernel
theorem dX7_readsElement_90 : decode cX7_readsElement 90 = .ok (.getfield 178, 3) := by decide +kernel
theorem dX7_readsElement_93 : decode cX7_readsElement 93 = .ok (.iaload, 1) := by decide +kernel
theorem dX7_readsElement_94 : decode cX7_readsElement 94 = .ok (.bipush 48, 2) := by decide +kernel
theorem dX7_readsElement_96 : decode cX7_readsElement 96 = .ok (.isub, 1) := by decide +kernel
theorem dX7_readsElement_97 : decode cX7_readsElement 97 = .ok (.istore_n 3, 1) := by decide +kernel
theorem dX7_readsElement_98 : decode cX7_readsElement 98 = .ok (.aload_n 0, 1) := by decide +kernel
theorem dX7_readsElement_99 : decode cX7_readsElement 99 = .ok (.dup, 1) := by decide +kernel
theorem dX7_readsElement_100 : decode cX7_readsElement 100 = .ok (.getfield 178, 3) := by decide +kernel
theorem dX7_readsElement_103 : decode cX7_readsElement 103 = .ok (.iconst 1, 1) := by decide +kernel
theorem dX7_readsElement_104 : decode cX7_readsElement 104 = .ok (.iadd, 1) := by decide +kernel
theorem dX7_readsElement_105 : decode cX7_readsElement 105 = .ok (.putfield 178, 3) := by decide +kernel
theorem dX7_readsElement_108 : decode cX7_readsElement 108 = .ok (.aload_n 0, 1) := by decide +kernel
theorem dX7_readsElement_109 : decode cX7_readsElement 109 = .ok (.iload_n 1, 1) := by decide +kernel
theorem dX7_readsElement_110 : decode cX7_readsElement 110 = .ok (.iload_n 2, 1) := by decide +kernel
theorem dX7_readsElement_111 : decode cX7_readsElement 111 = .ok (.iload_n 3, 1) := by decide +kernel
theorem dX7_readsElement_112 : decode cX7_readsElement 112 = .ok (.invokevirtual 120, 3) := by decide +kernel
theorem dX7_readsElement_115 : decode cX7_readsElement 115 = .ok (.aload_n 0, 1) := by decide +kernel
theorem dX7_readsElement_116 : decode cX7_readsElement 116 = .ok (.bipush 59, 2) := by decide +kernel
theorem dX7_readsElement_118 : decode cX7_readsElement 118 = .ok (.invokevirtual 190, 3) := by decide +kernel
theorem dX7_readsElement_121 : decode cX7_readsElement 121 = .ok (.ireturn, 1) := by decide +kernel
theorem dX7_readsFiller_0 : decode cX7_readsFiller 0 = .ok (.aload_n 0, 1) := by decide +kernel
theorem dX7_readsFiller_1 : decode cX7_readsFiller 1 = .ok (.getfield 7, 3) := by decide +kernel
theorem dX7_readsFiller_4 : decode cX7_readsFiller 4 = .ok (.bipush 8, 2) := by decide +kernel
theorem dX7_readsFiller_6 : decode cX7_readsFiller 6 = .ok (.iaload, 1) := by decide +kernel
theorem dX7_readsFiller_7 : decode cX7_readsFiller 7 = .ok (.bipush 10, 2) := by decide +kernel
theorem dX7_readsFiller_9 : decode cX7_readsFiller 9 = .ok (.if_icmp .ne 5, 3) := by decide +kernel
theorem dX7_readsFiller_12 : decode cX7_readsFiller 12 = .ok (.iconst 0, 1) := by decide +kernel
theorem dX7_readsFiller_13 : decode cX7_readsFiller 13 = .ok (.ireturn, 1) := by decide +kernel
theorem dX7_readsFiller_14 : decode cX7_readsFiller 14 = .ok (.aload_n 0, 1) := by decide +kernel
theorem dX7_readsFiller_15 : decode cX7_readsFiller 15 = .ok (.dup, 1) := by decide +kernel
theorem dX7_readsFiller_16 : decode cX7_readsFiller 16 = .ok (.getfield 178, 3) := by decide +kernel
theorem dX7_readsFiller_19 : decode cX7_readsFiller 19 = .ok (.iconst 1, 1) := by decide +kernel
theorem dX7_readsFiller_20 : decode cX7_readsFiller 20 = .ok (.iadd, 1) := by decide +kernel
theorem dX7_readsFiller_21 : decode cX7_readsFiller 21 = .ok (.putfield 178, 3) := by decide +kernel
theorem dX7_readsFiller_24 : decode cX7_readsFiller 24 = .ok (.aload_n 0, 1) := by decide +kernel
theorem dX7_readsFiller_25 : decode cX7_readsFiller 25 = .ok (.iconst 3, 1) := by decide +kernel
theorem dX7_readsFiller_26 : decode cX7_readsFiller 26 = .ok (.iconst 1, 1) := by decide +kernel
theorem dX7_readsFiller_27 : decode cX7_readsFiller 27 = .ok (.sipush 900, 3) := by decide +kernel
theorem dX7_readsFiller_30 : decode cX7_readsFiller 30 = .ok (.invokevirtual 187, 3) := by decide +kernel
theorem dX7_readsFiller_33 : decode cX7_readsFiller 33 = .ok (.ifCond .ne 5, 3) := by decide +kernel
theorem dX7_readsFiller_36 : decode cX7_readsFiller 36 = .ok (.iconst 0, 1) := by decide +kernel
theorem dX7_readsFiller_37 : decode cX7_readsFiller 37 = .ok (.ireturn, 1) := by decide +kernel
theorem dX7_readsFiller_38 : decode cX7_readsFiller 38 = .ok (.aload_n 0, 1) := by decide +kernel
theorem dX7_readsFiller_39 : decode cX7_readsFiller 39 = .ok (.aload_n 0, 1) := by decide +kernel
theorem dX7_readsFiller_40 : decode cX7_readsFiller 40 = .ok (.getfield 184, 3) := by decide +kernel
theorem dX7_readsFiller_43 : decode cX7_readsFiller 43 = .ok (.invokevirtual 123, 3) := by decide +kernel
theorem dX7_readsFiller_46 : decode cX7_readsFiller 46 = .ok (.aload_n 0, 1) := by decide +kernel
theorem dX7_readsFiller_47 : decode cX7_readsFiller 47 = .ok (.bipush 59, 2) := by decide +kernel
theorem dX7_readsFiller_49 : decode cX7_readsFiller 49 = .ok (.invokevirtual 190, 3) := by decide +kernel
theorem dX7_readsFiller_52 : decode cX7_readsFiller 52 = .ok (.ireturn, 1) := by decide +kernel
theorem dX7_reads_0 : decode cX7_reads 0 = .ok (.iconst 0, 1) := by decide +kernel
theorem dX7_reads_1 : decode cX7_reads 1 = .ok (.istore_n 1, 1) := by decide +kernel
theorem dX7_reads_2 : decode cX7_reads 2 = .ok (.iload_n 1, 1) := by decide +kernel
theorem dX7_reads_3 : decode cX7_reads 3 = .ok (.sipush 220, 3) := by decide +kernel
theorem dX7_reads_6 : decode cX7_reads 6 = .ok (.if_icmp .ge 16, 3) := by decide +kernel
theorem dX7_reads_9 : decode cX7_reads 9 = .ok (.aload_n 0, 1) := by decide +kernel
theorem dX7_reads_10 : decode cX7_reads 10 = .ok (.getfield 7, 3) := by decide +kernel
theorem dX7_reads_13 : decode cX7_reads 13 = .ok (.iload_n 1, 1) := by decide +kernel
theorem dX7_reads_14 : decode cX7_reads 14 = .ok (.iconst 0, 1) := by decide +kernel
theorem dX7_reads_15 : decode cX7_reads 15 = .ok (.iastore, 1) := by decide +kernel
theorem dX7_reads_16 : decode cX7_reads 16 = .ok (.iinc 1 1, 3) := by decide +kernel
theorem dX7_reads_19 : decode cX7_reads 19 = .ok (.goto (-17), 3) := by decide +kernel
theorem dX7_reads_22 : decode cX7_reads 22 = .ok (.aload_n 0, 1) := by decide +kernel
theorem dX7_reads_23 : decode cX7_reads 23 = .ok (.iconst 0, 1) := by decide +kernel
theorem dX7_reads_24 : decode cX7_reads 24 = .ok (.putfield 178, 3) := by decide +kernel
theorem dX7_reads_27 : decode cX7_reads 27 = .ok (.aload_n 0, 1) := by decide +kernel
theorem dX7_reads_28 : decode cX7_reads 28 = .ok (.getfield 178, 3) := by decide +kernel
theorem dX7_reads_31 : decode cX7_reads 31 = .ok (.aload_n 0, 1) := by decide +kernel
theorem dX7_reads_32 : decode cX7_reads 32 = .ok (.getfield 175, 3) := by decide +kernel
theorem dX7_reads_35 : decode cX7_reads 35 = .ok (.if_icmp .ge 35, 3) := by decide +kernel
theorem dX7_reads_38 : decode cX7_reads 38 = .ok (.aload_n 0, 1) := by decide +kernel
theorem dX7_reads_39 : decode cX7_reads 39 = .ok (.bipush 43, 2) := by decide +kernel
theorem dX7_reads_41 : decode cX7_reads 41 = .ok (.bipush 43, 2) := by decide +kernel
theorem dX7_reads_43 : decode cX7_reads 43 = .ok (.invokevirtual 181, 3) := by decide +kernel
theorem dX7_reads_46 : decode cX7_reads 46 = .ok (.ifCond .eq 10, 3) := by decide +kernel
theorem dX7_reads_49 : decode cX7_reads 49 = .ok (.aload_n 0, 1) := by decide +kernel
theorem dX7_reads_50 : decode cX7_reads 50 = .ok (.invokevirtual 193, 3) := by decide +kernel
theorem dX7_reads_53 : decode cX7_reads 53 = .ok (.goto 7, 3) := by decide +kernel
theorem dX7_reads_56 : decode cX7_reads 56 = .ok (.aload_n 0, 1) := by decide +kernel
theorem dX7_reads_57 : decode cX7_reads 57 = .ok (.invokevirtual 197, 3) := by decide +kernel
theorem dX7_reads_60 : decode cX7_reads 60 = .ok (.istore_n 1, 1) := by decide +kernel
theorem dX7_reads_61 : decode cX7_reads 61 = .ok (.iload_n 1, 1) := by decide +kernel
theorem dX7_reads_62 : decode cX7_reads 62 = .ok (.ifCond .ne 5, 3) := by decide +kernel
theorem dX7_reads_65 : decode cX7_reads 65 = .ok (.iconst 0, 1) := by decide +kernel
theorem dX7_reads_66 : decode cX7_reads 66 = .ok (.ireturn, 1) := by decide +kernel
theorem dX7_reads_67 : decode cX7_reads 67 = .ok (.goto (-40), 3) := by decide +kernel
theorem dX7_reads_70 : decode cX7_reads 70 = .ok (.iconst 1, 1) := by decide +kernel
theorem dX7_reads_71 : decode cX7_reads 71 = .ok (.ireturn, 1) := by decide +kernel
theorem dX7_parse_0 : decode cX7_parse 0 = .ok (.aload_n 0, 1) := by decide +kernel
theorem dX7_parse_1 : decode cX7_parse 1 = .ok (.iconst 0, 1) := by decide +kernel
theorem dX7_parse_2 : decode cX7_parse 2 = .ok (.putfield 25, 3) := by decide +kernel
theorem dX7_parse_5 : decode cX7_parse 5 = .ok (.aload_n 0, 1) := by decide +kernel
theorem dX7_parse_6 : decode cX7_parse 6 = .ok (.getfield 7, 3) := by decide +kernel
theorem dX7_parse_9 : decode cX7_parse 9 = .ok (.aload_n 0, 1) := by decide +kernel
theorem dX7_parse_10 : decode cX7_parse 10 = .ok (.getfield 16, 3) := by decide +kernel
theorem dX7_parse_13 : decode cX7_parse 13 = .ok (.invokestatic 102, 3) := by decide +kernel
theorem dX7_parse_16 : decode cX7_parse 16 = .ok (.aload_n 0, 1) := by decide +kernel
theorem dX7_parse_17 : decode cX7_parse 17 = .ok (.invokevirtual 200, 3) := by decide +kernel
theorem dX7_parse_20 : decode cX7_parse 20 = .ok (.istore_n 1, 1) := by decide +kernel
theorem dX7_parse_21 : decode cX7_parse 21 = .ok (.aload_n 0, 1) := by decide +kernel
theorem dX7_parse_22 : decode cX7_parse 22 = .ok (.getfield 7, 3) := by decide +kernel
theorem dX7_parse_25 : decode cX7_parse 25 = .ok (.aload_n 0, 1) := by decide +kernel
theorem dX7_parse_26 : decode cX7_parse 26 = .ok (.getfield 19, 3) := by decide +kernel
theorem dX7_parse_29 : decode cX7_parse 29 = .ok (.invokestatic 102, 3) := by decide +kernel
theorem dX7_parse_32 : decode cX7_parse 32 = .ok (.aload_n 0, 1) := by decide +kernel
theorem dX7_parse_33 : decode cX7_parse 33 = .ok (.getfield 16, 3) := by decide +kernel
theorem dX7_parse_36 : decode cX7_parse 36 = .ok (.aload_n 0, 1) := by decide +kernel
theorem dX7_parse_37 : decode cX7_parse 37 = .ok (.getfield 7, 3) := by decide +kernel
theorem dX7_parse_40 : decode cX7_parse 40 = .ok (.invokestatic 102, 3) := by decide +kernel
theorem dX7_parse_43 : decode cX7_parse 43 = .ok (.iload_n 1, 1) := by decide +kernel
theorem dX7_parse_44 : decode cX7_parse 44 = .ok (.ifCond .ne 11, 3) := by decide +kernel
theorem dX7_parse_47 : decode cX7_parse 47 = .ok (.bipush (-10), 2) := by decide +kernel
theorem dX7_parse_49 : decode cX7_parse 49 = .ok (.aload_n 0, 1) := by decide +kernel
theorem dX7_parse_50 : decode cX7_parse 50 = .ok (.getfield 178, 3) := by decide +kernel
theorem dX7_parse_53 : decode cX7_parse 53 = .ok (.isub, 1) := by decide +kernel
theorem dX7_parse_54 : decode cX7_parse 54 = .ok (.ireturn, 1) := by decide +kernel
theorem dX7_parse_55 : decode cX7_parse 55 = .ok (.aload_n 0, 1) := by decide +kernel
theorem dX7_parse_56 : decode cX7_parse 56 = .ok (.invokevirtual 117, 3) := by decide +kernel
theorem dX7_parse_59 : decode cX7_parse 59 = .ok (.aload_n 0, 1) := by decide +kernel
theorem dX7_parse_60 : decode cX7_parse 60 = .ok (.getfield 19, 3) := by decide +kernel
theorem dX7_parse_63 : decode cX7_parse 63 = .ok (.aload_n 0, 1) := by decide +kernel
theorem dX7_parse_64 : decode cX7_parse 64 = .ok (.getfield 7, 3) := by decide +kernel
theorem dX7_parse_67 : decode cX7_parse 67 = .ok (.invokestatic 102, 3) := by decide +kernel
theorem dX7_parse_70 : decode cX7_parse 70 = .ok (.aload_n 0, 1) := by decide +kernel
theorem dX7_parse_71 : decode cX7_parse 71 = .ok (.getfield 7, 3) := by decide +kernel
theorem dX7_parse_74 : decode cX7_parse 74 = .ok (.bipush 7, 2) := by decide +kernel
theorem dX7_parse_76 : decode cX7_parse 76 = .ok (.iaload, 1) := by decide +kernel
theorem dX7_parse_77 : decode cX7_parse 77 = .ok (.ireturn, 1) := by decide +kernel
theorem dX7_undo_0 : decode cX7_undo 0 = .ok (.aload_n 0, 1) := by decide +kernel
theorem dX7_undo_1 : decode cX7_undo 1 = .ok (.getfield 29, 3) := by decide +kernel
theorem dX7_undo_4 : decode cX7_undo 4 = .ok (.ifCond .ne 9, 3) := by decide +kernel
theorem dX7_undo_7 : decode cX7_undo 7 = .ok (.aload_n 0, 1) := by decide +kernel
theorem dX7_undo_8 : decode cX7_undo 8 = .ok (.iconst 1, 1) := by decide +kernel
theorem dX7_undo_9 : decode cX7_undo 9 = .ok (.invokevirtual 114, 3) := by decide +kernel
theorem dX7_undo_12 : decode cX7_undo 12 = .ok (.ireturn, 1) := by decide +kernel
theorem dX7_undo_13 : decode cX7_undo 13 = .ok (.aload_n 0, 1) := by decide +kernel
theorem dX7_undo_14 : decode cX7_undo 14 = .ok (.dup, 1) := by decide +kernel
theorem dX7_undo_15 : decode cX7_undo 15 = .ok (.getfield 29, 3) := by decide +kernel
theorem dX7_undo_18 : decode cX7_undo 18 = .ok (.iconst 1, 1) := by decide +kernel
theorem dX7_undo_19 : decode cX7_undo 19 = .ok (.isub, 1) := by decide +kernel
theorem dX7_undo_20 : decode cX7_undo 20 = .ok (.putfield 29, 3) := by decide +kernel
theorem dX7_undo_23 : decode cX7_undo 23 = .ok (.iconst 0, 1) := by decide +kernel
theorem dX7_undo_24 : decode cX7_undo 24 = .ok (.istore_n 1, 1) := by decide +kernel
theorem dX7_undo_25 : decode cX7_undo 25 = .ok (.iload_n 1, 1) := by decide +kernel
theorem dX7_undo_26 : decode cX7_undo 26 = .ok (.sipush 220, 3) := by decide +kernel
theorem dX7_undo_29 : decode cX7_undo 29 = .ok (.if_icmp .ge 30, 3) := by decide +kernel
theorem dX7_undo_32 : decode cX7_undo 32 = .ok (.aload_n 0, 1) := by decide +kernel
theorem dX7_undo_33 : decode cX7_undo 33 = .ok (.getfield 7, 3) := by decide +kernel
theorem dX7_undo_36 : decode cX7_undo 36 = .ok (.iload_n 1, 1) := by decide +kernel
theorem dX7_undo_37 : decode cX7_undo 37 = .ok (.aload_n 0, 1) := by decide +kernel
theorem dX7_undo_38 : decode cX7_undo 38 = .ok (.getfield 13, 3) := by decide +kernel
theorem dX7_undo_41 : decode cX7_undo 41 = .ok (.sipush 220, 3) := by decide +kernel
theorem dX7_undo_44 : decode cX7_undo 44 = .ok (.aload_n 0, 1) := by decide +kernel
theorem dX7_undo_45 : decode cX7_undo 45 = .ok (.getfield 29, 3) := by decide +kernel
theorem dX7_undo_48 : decode cX7_undo 48 = .ok (.imul, 1) := by decide +kernel
theorem dX7_undo_49 : decode cX7_undo 49 = .ok (.iload_n 1, 1) := by decide +kernel
theorem dX7_undo_50 : decode cX7_undo 50 = .ok (.iadd, 1) := by decide +kernel
theorem dX7_undo_51 : decode cX7_undo 51 = .ok (.iaload, 1) := by decide +kernel
theorem dX7_undo_52 : decode cX7_undo 52 = .ok (.iastore, 1) := by decide +kernel
theorem dX7_undo_53 : decode cX7_undo 53 = .ok (.iinc 1 1, 3) := by decide +kernel
theorem dX7_undo_56 : decode cX7_undo 56 = .ok (.goto (-31), 3) := by decide +kernel
theorem dX7_undo_59 : decode cX7_undo 59 = .ok (.aload_n 0, 1) := by decide +kernel
theorem dX7_undo_60 : decode cX7_undo 60 = .ok (.aload_n 0, 1) := by decide +kernel
theorem dX7_undo_61 : decode cX7_undo 61 = .ok (.getfield 29, 3) := by decide +kernel
theorem dX7_undo_64 : decode cX7_undo 64 = .ok (.invokevirtual 148, 3) := by decide +kernel
theorem dX7_undo_67 : decode cX7_undo 67 = .ok (.ireturn, 1) := by decide +kernel
theorem dX7_mix_0 : decode cX7_mix 0 = .ok (.aload_n 0, 1) := by decide +kernel
theorem dX7_mix_1 : decode cX7_mix 1 = .ok (.ldc2_w 203, 3) := by decide +kernel
theorem dX7_mix_4 : decode cX7_mix 4 = .ok (.aload_n 0, 1) := by decide +kernel
theorem dX7_mix_5 : decode cX7_mix 5 = .ok (.getfield 205, 3) := by decide +kernel
theorem dX7_mix_8 : decode cX7_mix 8 = .ok (.lmul, 1) := by decide +kernel
theorem dX7_mix_9 : decode cX7_mix 9 = .ok (.iload_n 1, 1) := by decide +kernel
theorem dX7_mix_10 : decode cX7_mix 10 = .ok (.i2l, 1) := by decide +kernel
theorem dX7_mix_11 : decode cX7_mix 11 = .ok (.ladd, 1) := by decide +kernel
theorem dX7_mix_12 : decode cX7_mix 12 = .ok (.putfield 205, 3) := by decide +kernel
theorem dX7_mix_15 : decode cX7_mix 15 = .ok (.return_, 1) := by decide +kernel
theorem dX7_digest_0 : decode cX7_digest 0 = .ok (.aload_n 0, 1) := by decide +kernel
theorem dX7_digest_1 : decode cX7_digest 1 = .ok (.iconst 0, 1) := by decide +kernel
theorem dX7_digest_2 : decode cX7_digest 2 = .ok (.putfield 25, 3) := by decide +kernel
theorem dX7_digest_5 : decode cX7_digest 5 = .ok (.aload_n 0, 1) := by decide +kernel
theorem dX7_digest_6 : decode cX7_digest 6 = .ok (.invokevirtual 166, 3) := by decide +kernel
theorem dX7_digest_9 : decode cX7_digest 9 = .ok (.aload_n 0, 1) := by decide +kernel
theorem dX7_digest_10 : decode cX7_digest 10 = .ok (.ldc2_w 209, 3) := by decide +kernel
theorem dX7_digest_13 : decode cX7_digest 13 = .ok (.putfield 205, 3) := by decide +kernel
theorem dX7_digest_16 : decode cX7_digest 16 = .ok (.aload_n 0, 1) := by decide +kernel
theorem dX7_digest_17 : decode cX7_digest 17 = .ok (.aload_n 0, 1) := by decide +kernel
theorem dX7_digest_18 : decode cX7_digest 18 = .ok (.getfield 175, 3) := by decide +kernel
theorem dX7_digest_21 : decode cX7_digest 21 = .ok (.invokevirtual 211, 3) := by decide +kernel
theorem dX7_digest_24 : decode cX7_digest 24 = .ok (.iconst 0, 1) := by decide +kernel
theorem dX7_digest_25 : decode cX7_digest 25 = .ok (.istore_n 1, 1) := by decide +kernel
theorem dX7_digest_26 : decode cX7_digest 26 = .ok (.iload_n 1, 1) := by decide +kernel
theorem dX7_digest_27 : decode cX7_digest 27 = .ok (.bipush 14, 2) := by decide +kernel
theorem dX7_digest_29 : decode cX7_digest 29 = .ok (.if_icmp .ge 18, 3) := by decide +kernel
theorem dX7_digest_32 : decode cX7_digest 32 = .ok (.aload_n 0, 1) := by decide +kernel
theorem dX7_digest_33 : decode cX7_digest 33 = .ok (.aload_n 0, 1) := by decide +kernel
theorem dX7_digest_34 : decode cX7_digest 34 = .ok (.iload_n 1, 1) := by decide +kernel
theorem dX7_digest_35 : decode cX7_digest 35 = .ok (.invokevirtual 160, 3) := by decide +kernel
theorem dX7_digest_38 : decode cX7_digest 38 = .ok (.invokevirtual 211, 3) := by decide +kernel
theorem dX7_digest_41 : decode cX7_digest 41 = .ok (.iinc 1 1, 3) := by decide +kernel
theorem dX7_digest_44 : decode cX7_digest 44 = .ok (.goto (-18), 3) := by decide +kernel
theorem dX7_digest_47 : decode cX7_digest 47 = .ok (.iconst 0, 1) := by decide +kernel
theorem dX7_digest_48 : decode cX7_digest 48 = .ok (.istore_n 1, 1) := by decide +kernel
theorem dX7_digest_49 : decode cX7_digest 49 = .ok (.iload_n 1, 1) := by decide +kernel
theorem dX7_digest_50 : decode cX7_digest 50 = .ok (.aload_n 0, 1) := by decide +kernel
theorem dX7_digest_51 : decode cX7_digest 51 = .ok (.getfield 7, 3) := by decide +kernel
theorem dX7_digest_54 : decode cX7_digest 54 = .ok (.bipush 7, 2) := by decide +kernel
theorem dX7_digest_56 : decode cX7_digest 56 = .ok (.iaload, 1) := by decide +kernel
theorem dX7_digest_57 : decode cX7_digest 57 = .ok (.if_icmp .ge 59, 3) := by decide +kernel
theorem dX7_digest_60 : decode cX7_digest 60 = .ok (.iconst 0, 1) := by decide +kernel
theorem dX7_digest_61 : decode cX7_digest 61 = .ok (.istore_n 2, 1) := by decide +kernel
theorem dX7_digest_62 : decode cX7_digest 62 = .ok (.iload_n 2, 1) := by decide +kernel
theorem dX7_digest_63 : decode cX7_digest 63 = .ok (.bipush 7, 2) := by decide +kernel
theorem dX7_digest_65 : decode cX7_digest 65 = .ok (.if_icmp .ge 19, 3) := by decide +kernel
theorem dX7_digest_68 : decode cX7_digest 68 = .ok (.aload_n 0, 1) := by decide +kernel
theorem dX7_digest_69 : decode cX7_digest 69 = .ok (.aload_n 0, 1) := by decide +kernel
theorem dX7_digest_70 : decode cX7_digest 70 = .ok (.iload_n 1, 1) := by decide +kernel
theorem dX7_digest_71 : decode cX7_digest 71 = .ok (.iload_n 2, 1) := by decide +kernel
theorem dX7_digest_72 : decode cX7_digest 72 = .ok (.invokevirtual 145, 3) := by decide +kernel
theorem dX7_digest_75 : decode cX7_digest 75 = .ok (.invokevirtual 211, 3) := by decide +kernel
theorem dX7_digest_78 : decode cX7_digest 78 = .ok (.iinc 2 1, 3) := by decide +kernel
theorem dX7_digest_81 : decode cX7_digest 81 = .ok (.goto (-19), 3) := by decide +kernel
theorem dX7_digest_84 : decode cX7_digest 84 = .ok (.aload_n 0, 1) := by decide +kernel
theorem dX7_digest_85 : decode cX7_digest 85 = .ok (.aload_n 0, 1) := by decide +kernel
theorem dX7_digest_86 : decode cX7_digest 86 = .ok (.iload_n 1, 1) := by decide +kernel
theorem dX7_digest_87 : decode cX7_digest 87 = .ok (.invokevirtual 163, 3) := by decide +kernel
theorem dX7_digest_90 : decode cX7_digest 90 = .ok (.invokevirtual 211, 3) := by decide +kernel
theorem dX7_digest_93 : decode cX7_digest 93 = .ok (.aload_n 0, 1) := by decide +kernel
theorem dX7_digest_94 : decode cX7_digest 94 = .ok (.aload_n 0, 1) := by decide +kernel
theorem dX7_digest_95 : decode cX7_digest 95 = .ok (.getfield 19, 3) := by decide +kernel
theorem dX7_digest_98 : decode cX7_digest 98 = .ok (.bipush 10, 2) := by decide +kernel
theorem dX7_digest_100 : decode cX7_digest 100 = .ok (.iconst 5, 1) := by decide +kernel
theorem dX7_digest_101 : decode cX7_digest 101 = .ok (.iload_n 1, 1) := by decide +kernel
theorem dX7_digest_102 : decode cX7_digest 102 = .ok (.imul, 1) := by decide +kernel
theorem dX7_digest_103 : decode cX7_digest 103 = .ok (.iadd, 1) := by decide +kernel
theorem dX7_digest_104 : decode cX7_digest 104 = .ok (.iconst 4, 1) := by decide +kernel
theorem dX7_digest_105 : decode cX7_digest 105 = .ok (.iadd, 1) := by decide +kernel
theorem dX7_digest_106 : decode cX7_digest 106 = .ok (.iaload, 1) := by decide +kernel
theorem dX7_digest_107 : decode cX7_digest 107 = .ok (.invokevirtual 211, 3) := by decide +kernel
theorem dX7_digest_110 : decode cX7_digest 110 = .ok (.iinc 1 1, 3) := by decide +kernel
theorem dX7_digest_113 : decode cX7_digest 113 = .ok (.goto (-64), 3) := by decide +kernel
theorem dX7_digest_116 : decode cX7_digest 116 = .ok (.iconst 0, 1) := by decide +kernel
theorem dX7_digest_117 : decode cX7_digest 117 = .ok (.istore_n 1, 1) := by decide +kernel
theorem dX7_digest_118 : decode cX7_digest 118 = .ok (.iload_n 1, 1) := by decide +kernel
theorem dX7_digest_119 : decode cX7_digest 119 = .ok (.iconst 3, 1) := by decide +kernel
theorem dX7_digest_120 : decode cX7_digest 120 = .ok (.aload_n 0, 1) := by decide +kernel
theorem dX7_digest_121 : decode cX7_digest 121 = .ok (.getfield 7, 3) := by decide +kernel
theorem dX7_digest_124 : decode cX7_digest 124 = .ok (.bipush 8, 2) := by decide +kernel
theorem dX7_digest_126 : decode cX7_digest 126 = .ok (.iaload, 1) := by decide +kernel
theorem dX7_digest_127 : decode cX7_digest 127 = .ok (.imul, 1) := by decide +kernel
theorem dX7_digest_128 : decode cX7_digest 128 = .ok (.if_icmp .ge 23, 3) := by decide +kernel
theorem dX7_digest_131 : decode cX7_digest 131 = .ok (.aload_n 0, 1) := by decide +kernel
theorem dX7_digest_132 : decode cX7_digest 132 = .ok (.aload_n 0, 1) := by decide +kernel
theorem dX7_digest_133 : decode cX7_digest 133 = .ok (.iload_n 1, 1) := by decide +kernel
theorem dX7_digest_134 : decode cX7_digest 134 = .ok (.iconst 3, 1) := by decide +kernel
theorem dX7_digest_135 : decode cX7_digest 135 = .ok (.idiv, 1) := by decide +kernel
theorem dX7_digest_136 : decode cX7_digest 136 = .ok (.iload_n 1, 1) := by decide +kernel
theorem dX7_digest_137 : decode cX7_digest 137 = .ok (.iconst 3, 1) := by decide +kernel
theorem dX7_digest_138 : decode cX7_digest 138 = .ok (.irem, 1) := by decide +kernel
theorem dX7_digest_139 : decode cX7_digest 139 = .ok (.invokevirtual 58, 3) := by decide +kernel
theorem dX7_digest_142 : decode cX7_digest 142 = .ok (.invokevirtual 211, 3) := by decide +kernel
theorem dX7_digest_145 : decode cX7_digest 145 = .ok (.iinc 1 1, 3) := by decide +kernel
theorem dX7_digest_148 : decode cX7_digest 148 = .ok (.goto (-30), 3) := by decide +kernel
theorem dX7_digest_151 : decode cX7_digest 151 = .ok (.iconst 0, 1) := by decide +kernel
theorem dX7_digest_152 : decode cX7_digest 152 = .ok (.istore_n 1, 1) := by decide +kernel
theorem dX7_digest_153 : decode cX7_digest 153 = .ok (.iload_n 1, 1) := by decide +kernel
theorem dX7_digest_154 : decode cX7_digest 154 = .ok (.iconst 3, 1) := by decide +kernel
theorem dX7_digest_155 : decode cX7_digest 155 = .ok (.aload_n 0, 1) := by decide +kernel
theorem dX7_digest_156 : decode cX7_digest 156 = .ok (.getfield 7, 3) := by decide +kernel
theorem dX7_digest_159 : decode cX7_digest 159 = .ok (.bipush 9, 2) := by decide +kernel
theorem dX7_digest_161 : decode cX7_digest 161 = .ok (.iaload, 1) := by decide +kernel
theorem dX7_digest_162 : decode cX7_digest 162 = .ok (.imul, 1) := by decide +kernel
theorem dX7_digest_163 : decode cX7_digest 163 = .ok (.if_icmp .ge 22, 3) := by decide +kernel
theorem dX7_digest_166 : decode cX7_digest 166 = .ok (.aload_n 0, 1) := by decide +kernel
theorem dX7_digest_167 : decode cX7_digest 167 = .ok (.aload_n 0, 1) := by decide +kernel
theorem dX7_digest_168 : decode cX7_digest 168 = .ok (.getfield 7, 3) := by decide +kernel
theorem dX7_digest_171 : decode cX7_digest 171 = .ok (.bipush 100, 2) := by decide +kernel
theorem dX7_digest_173 : decode cX7_digest 173 = .ok (.iload_n 1, 1) := by decide +kernel
theorem dX7_digest_174 : decode cX7_digest 174 = .ok (.iadd, 1) := by decide +kernel
theorem dX7_digest_175 : decode cX7_digest 175 = .ok (.iaload, 1) := by decide +kernel
theorem dX7_digest_176 : decode cX7_digest 176 = .ok (.invokevirtual 211, 3) := by decide +kernel
theorem dX7_digest_179 : decode cX7_digest 179 = .ok (.iinc 1 1, 3) := by decide +kernel
theorem dX7_digest_182 : decode cX7_digest 182 = .ok (.goto (-29), 3) := by decide +kernel
theorem dX7_digest_185 : decode cX7_digest 185 = .ok (.aload_n 0, 1) := by decide +kernel
theorem dX7_digest_186 : decode cX7_digest 186 = .ok (.aload_n 0, 1) := by decide +kernel
theorem dX7_digest_187 : decode cX7_digest 187 = .ok (.getfield 19, 3) := by decide +kernel
theorem dX7_digest_190 : decode cX7_digest 190 = .ok (.iconst 0, 1) := by decide +kernel
theorem dX7_digest_191 : decode cX7_digest 191 = .ok (.iaload, 1) := by decide +kernel
theorem dX7_digest_192 : decode cX7_digest 192 = .ok (.invokevirtual 211, 3) := by decide +kernel
theorem dX7_digest_195 : decode cX7_digest 195 = .ok (.aload_n 0, 1) := by decide +kernel
theorem dX7_digest_196 : decode cX7_digest 196 = .ok (.aload_n 0, 1) := by decide +kernel
theorem dX7_digest_197 : decode cX7_digest 197 = .ok (.getfield 29, 3) := by decide +kernel
theorem dX7_digest_200 : decode cX7_digest 200 = .ok (.invokevirtual 211, 3) := by decide +kernel
theorem dX7_digest_203 : decode cX7_digest 203 = .ok (.aload_n 0, 1) := by decide +kernel
theorem dX7_digest_204 : decode cX7_digest 204 = .ok (.getfield 205, 3) := by decide +kernel
theorem dX7_digest_207 : decode cX7_digest 207 = .ok (.lreturn, 1) := by decide +kernel
theorem dJ6_numberOfTrailingZeros_0f7a4_0 : decode cJ6_numberOfTrailingZeros_0f7a4 0 = .ok (.iload_n 0, 1) := by decide +kernel
theorem dJ6_numberOfTrailingZeros_0f7a4_1 : decode cJ6_numberOfTrailingZeros_0f7a4 1 = .ok (.iconst (-1), 1) := by decide +kernel
theorem dJ6_numberOfTrailingZeros_0f7a4_2 : decode cJ6_numberOfTrailingZeros_0f7a4 2 = .ok (.ixor, 1) := by decide +kernel
theorem dJ6_numberOfTrailingZeros_0f7a4_3 : decode cJ6_numberOfTrailingZeros_0f7a4 3 = .ok (.iload_n 0, 1) := by decide +kernel
theorem dJ6_numberOfTrailingZeros_0f7a4_4 : decode cJ6_numberOfTrailingZeros_0f7a4 4 = .ok (.iconst 1, 1) := by decide +kernel
theorem dJ6_numberOfTrailingZeros_0f7a4_5 : decode cJ6_numberOfTrailingZeros_0f7a4 5 = .ok (.isub, 1) := by decide +kernel
theorem dJ6_numberOfTrailingZeros_0f7a4_6 : decode cJ6_numberOfTrailingZeros_0f7a4 6 = .ok (.iand, 1) := by decide +kernel
theorem dJ6_numberOfTrailingZeros_0f7a4_7 : decode cJ6_numberOfTrailingZeros_0f7a4 7 = .ok (.istore_n 0, 1) := by decide +kernel
theorem dJ6_numberOfTrailingZeros_0f7a4_8 : decode cJ6_numberOfTrailingZeros_0f7a4 8 = .ok (.iload_n 0, 1) := by decide +kernel
theorem dJ6_numberOfTrailingZeros_0f7a4_9 : decode cJ6_numberOfTrailingZeros_0f7a4 9 = .ok (.ifCond .gt 8, 3) := by decide +kernel
theorem dJ6_numberOfTrailingZeros_0f7a4_12 : decode cJ6_numberOfTrailingZeros_0f7a4 12 = .ok (.iload_n 0, 1) := by decide +kernel
theorem dJ6_numberOfTrailingZeros_0f7a4_13 : decode cJ6_numberOfTrailingZeros_0f7a4 13 = .ok (.bipush 32, 2) := by decide +kernel
theorem dJ6_numberOfTrailingZeros_0f7a4_15 : decode cJ6_numberOfTrailingZeros_0f7a4 15 = .ok (.iand, 1) := by decide +kernel
theorem dJ6_numberOfTrailingZeros_0f7a4_16 : decode cJ6_numberOfTrailingZeros_0f7a4 16 = .ok (.ireturn, 1) := by decide +kernel
theorem dJ6_numberOfTrailingZeros_0f7a4_17 : decode cJ6_numberOfTrailingZeros_0f7a4 17 = .ok (.iconst 1, 1) := by decide +kernel
theorem dJ6_numberOfTrailingZeros_0f7a4_18 : decode cJ6_numberOfTrailingZeros_0f7a4 18 = .ok (.istore_n 1, 1) := by decide +kernel
theorem dJ6_numberOfTrailingZeros_0f7a4_19 : decode cJ6_numberOfTrailingZeros_0f7a4 19 = .ok (.iload_n 0, 1) := by decide +kernel
theorem dJ6_numberOfTrailingZeros_0f7a4_20 : decode cJ6_numberOfTrailingZeros_0f7a4 20 = .ok (.ldc_w 264, 3) := by decide +kernel
theorem dJ6_numberOfTrailingZeros_0f7a4_23 : decode cJ6_numberOfTrailingZeros_0f7a4 23 = .ok (.if_icmp .le 11, 3) := by decide +kernel
theorem dJ6_numberOfTrailingZeros_0f7a4_26 : decode cJ6_numberOfTrailingZeros_0f7a4 26 = .ok (.iinc 1 16, 3) := by decide +kernel
theorem dJ6_numberOfTrailingZeros_0f7a4_29 : decode cJ6_numberOfTrailingZeros_0f7a4 29 = .ok (.iload_n 0, 1) := by decide +kernel
theorem dJ6_numberOfTrailingZeros_0f7a4_30 : decode cJ6_numberOfTrailingZeros_0f7a4 30 = .ok (.bipush 16, 2) := by decide +kernel
theorem dJ6_numberOfTrailingZeros_0f7a4_32 : decode cJ6_numberOfTrailingZeros_0f7a4 32 = .ok (.iushr, 1) := by decide +kernel
theorem dJ6_numberOfTrailingZeros_0f7a4_33 : decode cJ6_numberOfTrailingZeros_0f7a4 33 = .ok (.istore_n 0, 1) := by decide +kernel
theorem dJ6_numberOfTrailingZeros_0f7a4_34 : decode cJ6_numberOfTrailingZeros_0f7a4 34 = .ok (.iload_n 0, 1) := by decide +kernel
theorem dJ6_numberOfTrailingZeros_0f7a4_35 : decode cJ6_numberOfTrailingZeros_0f7a4 35 = .ok (.sipush 256, 3) := by decide +kernel
theorem dJ6_numberOfTrailingZeros_0f7a4_38 : decode cJ6_numberOfTrailingZeros_0f7a4 38 = .ok (.if_icmp .le 11, 3) := by decide +kernel
theorem dJ6_numberOfTrailingZeros_0f7a4_41 : decode cJ6_numberOfTrailingZeros_0f7a4 41 = .ok (.iinc 1 8, 3) := by decide +kernel
theorem dJ6_numberOfTrailingZeros_0f7a4_44 : decode cJ6_numberOfTrailingZeros_0f7a4 44 = .ok (.iload_n 0, 1) := by decide +kernel
theorem dJ6_numberOfTrailingZeros_0f7a4_45 : decode cJ6_numberOfTrailingZeros_0f7a4 45 = .ok (.bipush 8, 2) := by decide +kernel
theorem dJ6_numberOfTrailingZeros_0f7a4_47 : decode cJ6_numberOfTrailingZeros_0f7a4 47 = .ok (.iushr, 1) := by decide +kernel
theorem dJ6_numberOfTrailingZeros_0f7a4_48 : decode cJ6_numberOfTrailingZeros_0f7a4 48 = .ok (.istore_n 0, 1) := by decide +kernel
theorem dJ6_numberOfTrailingZeros_0f7a4_49 : decode cJ6_numberOfTrailingZeros_0f7a4 49 = .ok (.iload_n 0, 1) := by decide +kernel
theorem dJ6_numberOfTrailingZeros_0f7a4_50 : decode cJ6_numberOfTrailingZeros_0f7a4 50 = .ok (.bipush 16, 2) := by decide +kernel
theorem dJ6_numberOfTrailingZeros_0f7a4_52 : decode cJ6_numberOfTrailingZeros_0f7a4 52 = .ok (.if_icmp .le 10, 3) := by decide +kernel
theorem dJ6_numberOfTrailingZeros_0f7a4_55 : decode cJ6_numberOfTrailingZeros_0f7a4 55 = .ok (.iinc 1 4, 3) := by decide +kernel
theorem dJ6_numberOfTrailingZeros_0f7a4_58 : decode cJ6_numberOfTrailingZeros_0f7a4 58 = .ok (.iload_n 0, 1) := by decide +kernel
theorem dJ6_numberOfTrailingZeros_0f7a4_59 : decode cJ6_numberOfTrailingZeros_0f7a4 59 = .ok (.iconst 4, 1) := by decide +kernel
theorem dJ6_numberOfTrailingZeros_0f7a4_60 : decode cJ6_numberOfTrailingZeros_0f7a4 60 = .ok (.iushr, 1) := by decide +kernel
theorem dJ6_numberOfTrailingZeros_0f7a4_61 : decode cJ6_numberOfTrailingZeros_0f7a4 61 = .ok (.istore_n 0, 1) := by decide +kernel
theorem dJ6_numberOfTrailingZeros_0f7a4_62 : decode cJ6_numberOfTrailingZeros_0f7a4 62 = .ok (.iload_n 0, 1) := by decide +kernel
theorem dJ6_numberOfTrailingZeros_0f7a4_63 : decode cJ6_numberOfTrailingZeros_0f7a4 63 = .ok (.iconst 4, 1) := by decide +kernel
theorem dJ6_numberOfTrailingZeros_0f7a4_64 : decode cJ6_numberOfTrailingZeros_0f7a4 64 = .ok (.if_icmp .le 10, 3) := by decide +kernel
theorem dJ6_numberOfTrailingZeros_0f7a4_67 : decode cJ6_numberOfTrailingZeros_0f7a4 67 = .ok (.iinc 1 2, 3) := by decide +kernel
theorem dJ6_numberOfTrailingZeros_0f7a4_70 : decode cJ6_numberOfTrailingZeros_0f7a4 70 = .ok (.iload_n 0, 1) := by decide +kernel
theorem dJ6_numberOfTrailingZeros_0f7a4_71 : decode cJ6_numberOfTrailingZeros_0f7a4 71 = .ok (.iconst 2, 1) := by decide +kernel
theorem dJ6_numberOfTrailingZeros_0f7a4_72 : decode cJ6_numberOfTrailingZeros_0f7a4 72 = .ok (.iushr, 1) := by decide +kernel
theorem dJ6_numberOfTrailingZeros_0f7a4_73 : decode cJ6_numberOfTrailingZeros_0f7a4 73 = .ok (.istore_n 0, 1) := by decide +kernel
theorem dJ6_numberOfTrailingZeros_0f7a4_74 : decode cJ6_numberOfTrailingZeros_0f7a4 74 = .ok (.iload_n 1, 1) := by decide +kernel
theorem dJ6_numberOfTrailingZeros_0f7a4_75 : decode cJ6_numberOfTrailingZeros_0f7a4 75 = .ok (.iload_n 0, 1) := by decide +kernel
theorem dJ6_numberOfTrailingZeros_0f7a4_76 : decode cJ6_numberOfTrailingZeros_0f7a4 76 = .ok (.iconst 1, 1) := by decide +kernel
theorem dJ6_numberOfTrailingZeros_0f7a4_77 : decode cJ6_numberOfTrailingZeros_0f7a4 77 = .ok (.iushr, 1) := by decide +kernel
theorem dJ6_numberOfTrailingZeros_0f7a4_78 : decode cJ6_numberOfTrailingZeros_0f7a4 78 = .ok (.iadd, 1) := by decide +kernel
theorem dJ6_numberOfTrailingZeros_0f7a4_79 : decode cJ6_numberOfTrailingZeros_0f7a4 79 = .ok (.ireturn, 1) := by decide +kernel
theorem dJ9_max_7cf53_0 : decode cJ9_max_7cf53 0 = .ok (.iload_n 0, 1) := by decide +kernel
theorem dJ9_max_7cf53_1 : decode cJ9_max_7cf53 1 = .ok (.iload_n 1, 1) := by decide +kernel
theorem dJ9_max_7cf53_2 : decode cJ9_max_7cf53 2 = .ok (.if_icmp .lt 7, 3) := by decide +kernel
theorem dJ9_max_7cf53_5 : decode cJ9_max_7cf53 5 = .ok (.iload_n 0, 1) := by decide +kernel
theorem dJ9_max_7cf53_6 : decode cJ9_max_7cf53 6 = .ok (.goto 4, 3) := by decide +kernel
theorem dJ9_max_7cf53_9 : decode cJ9_max_7cf53 9 = .ok (.iload_n 1, 1) := by decide +kernel
theorem dJ9_max_7cf53_10 : decode cJ9_max_7cf53 10 = .ok (.ireturn, 1) := by decide +kernel
theorem dJ9_min_7cf53_0 : decode cJ9_min_7cf53 0 = .ok (.iload_n 0, 1) := by decide +kernel
theorem dJ9_min_7cf53_1 : decode cJ9_min_7cf53 1 = .ok (.iload_n 1, 1) := by decide +kernel
theorem dJ9_min_7cf53_2 : decode cJ9_min_7cf53 2 = .ok (.if_icmp .gt 7, 3) := by decide +kernel
theorem dJ9_min_7cf53_5 : decode cJ9_min_7cf53 5 = .ok (.iload_n 0, 1) := by decide +kernel
theorem dJ9_min_7cf53_6 : decode cJ9_min_7cf53 6 = .ok (.goto 4, 3) := by decide +kernel
theorem dJ9_min_7cf53_9 : decode cJ9_min_7cf53 9 = .ok (.iload_n 1, 1) := by decide +kernel
theorem dJ9_min_7cf53_10 : decode cJ9_min_7cf53 10 = .ok (.ireturn, 1) := by decide +kernel
