theorem dX0_init_0 : decode cX0_init 0 = .ok (.aload_n 0, 1) := by decide +kernel
theorem dX0_init_1 : decode cX0_init 1 = .ok (.invokespecial 3, 3) := by decide +kernel
theorem dX0_init_4 : decode cX0_init 4 = .ok (.aload_n 0, 1) := by decide +kernel
theorem dX0_init_5 : decode cX0_init 5 = .ok (.iconst 0, 1) := by decide +kernel
theorem dX0_init_6 : decode cX0_init 6 = .ok (.putfield 9, 3) := by decide +kernel
theorem dX0_init_9 : decode cX0_init 9 = .ok (.aload_n 0, 1) := by decide +kernel
theorem dX0_init_10 : decode cX0_init 10 = .ok (.bipush 12, 2) := by decide +kernel
theorem dX0_init_12 : decode cX0_init 12 = .ok (.newarray .int, 2) := by decide +kernel
theorem dX0_init_14 : decode cX0_init 14 = .ok (.putfield 15, 3) := by decide +kernel
theorem dX0_init_17 : decode cX0_init 17 = .ok (.aload_n 0, 1) := by decide +kernel
theorem dX0_init_18 : decode cX0_init 18 = .ok (.bipush 12, 2) := by decide +kernel
theorem dX0_init_20 : decode cX0_init 20 = .ok (.newarray .int, 2) := by decide +kernel
theorem dX0_init_22 : decode cX0_init 22 = .ok (.putfield 19, 3) := by decide +kernel
theorem dX0_init_25 : decode cX0_init 25 = .ok (.aload_n 0, 1) := by decide +kernel
theorem dX0_init_26 : decode cX0_init 26 = .ok (.bipush 12, 2) := by decide +kernel
theorem dX0_init_28 : decode cX0_init 28 = .ok (.newarray .int, 2) := by decide +kernel
theorem dX0_init_30 : decode cX0_init 30 = .ok (.putfield 22, 3) := by decide +kernel
theorem dX0_init_33 : decode cX0_init 33 = .ok (.aload_n 0, 1) := by decide +kernel
theorem dX0_init_34 : decode cX0_init 34 = .ok (.bipush 12, 2) := by decide +kernel
theorem dX0_init_36 : decode cX0_init 36 = .ok (.newarray .int, 2) := by decide +kernel
theorem dX0_init_38 : decode cX0_init 38 = .ok (.putfield 25, 3) := by decide +kernel
theorem dX0_init_41 : decode cX0_init 41 = .ok (.aload_n 0, 1) := by decide +kernel
theorem dX0_init_42 : decode cX0_init 42 = .ok (.bipush 12, 2) := by decide +kernel
theorem dX0_init_44 : decode cX0_init 44 = .ok (.newarray .int, 2) := by decide +kernel
theorem dX0_init_46 : decode cX0_init 46 = .ok (.putfield 28, 3) := by decide +kernel
theorem dX0_init_49 : decode cX0_init 49 = .ok (.return_, 1) := by decide +kernel
theorem dX0_copyFrom_0 : decode cX0_copyFrom 0 = .ok (.aload_n 0, 1) := by decide +kernel
theorem dX0_copyFrom_1 : decode cX0_copyFrom 1 = .ok (.aload_n 1, 1) := by decide +kernel
theorem dX0_copyFrom_2 : decode cX0_copyFrom 2 = .ok (.getfield 9, 3) := by decide +kernel
theorem dX0_copyFrom_5 : decode cX0_copyFrom 5 = .ok (.putfield 9, 3) := by decide +kernel
theorem dX0_copyFrom_8 : decode cX0_copyFrom 8 = .ok (.aload_n 1, 1) := by decide +kernel
theorem dX0_copyFrom_9 : decode cX0_copyFrom 9 = .ok (.getfield 15, 3) := by decide +kernel
theorem dX0_copyFrom_12 : decode cX0_copyFrom 12 = .ok (.iconst 0, 1) := by decide +kernel
theorem dX0_copyFrom_13 : decode cX0_copyFrom 13 = .ok (.aload_n 0, 1) := by decide +kernel
theorem dX0_copyFrom_14 : decode cX0_copyFrom 14 = .ok (.getfield 15, 3) := by decide +kernel
theorem dX0_copyFrom_17 : decode cX0_copyFrom 17 = .ok (.iconst 0, 1) := by decide +kernel
theorem dX0_copyFrom_18 : decode cX0_copyFrom 18 = .ok (.bipush 12, 2) := by decide +kernel
theorem dX0_copyFrom_20 : decode cX0_copyFrom 20 = .ok (.invokestatic 31, 3) := by decide +kernel
theorem dX0_copyFrom_23 : decode cX0_copyFrom 23 = .ok (.aload_n 1, 1) := by decide +kernel
theorem dX0_copyFrom_24 : decode cX0_copyFrom 24 = .ok (.getfield 19, 3) := by decide +kernel
theorem dX0_copyFrom_27 : decode cX0_copyFrom 27 = .ok (.iconst 0, 1) := by decide +kernel
theorem dX0_copyFrom_28 : decode cX0_copyFrom 28 = .ok (.aload_n 0, 1) := by decide +kernel
theorem dX0_copyFrom_29 : decode cX0_copyFrom 29 = .ok (.getfield 19, 3) := by decide +kernel
theorem dX0_copyFrom_32 : decode cX0_copyFrom 32 = .ok (.iconst 0, 1) := by decide +kernel
theorem dX0_copyFrom_33 : decode cX0_copyFrom 33 = .ok (.bipush 12, 2) := by decide +kernel
theorem dX0_copyFrom_35 : decode cX0_copyFrom 35 = .ok (.invokestatic 31, 3) := by decide +kernel
theorem dX0_copyFrom_38 : decode cX0_copyFrom 38 = .ok (.aload_n 1, 1) := by decide +kernel
theorem dX0_copyFrom_39 : decode cX0_copyFrom 39 = .ok (.getfield 22, 3) := by decide +kernel
theorem dX0_copyFrom_42 : decode cX0_copyFrom 42 = .ok (.iconst 0, 1) := by decide +kernel
theorem dX0_copyFrom_43 : decode cX0_copyFrom 43 = .ok (.aload_n 0, 1) := by decide +kernel
theorem dX0_copyFrom_44 : decode cX0_copyFrom 44 = .ok (.getfield 22, 3) := by decide +kernel
theorem dX0_copyFrom_47 : decode cX0_copyFrom 47 = .ok (.iconst 0, 1) := by decide +kernel
theorem dX0_copyFrom_48 : decode cX0_copyFrom 48 = .ok (.bipush 12, 2) := by decide +kernel
theorem dX0_copyFrom_50 : decode cX0_copyFrom 50 = .ok (.invokestatic 31, 3) := by decide +kernel
theorem dX0_copyFrom_53 : decode cX0_copyFrom 53 = .ok (.aload_n 1, 1) := by decide +kernel
theorem dX0_copyFrom_54 : decode cX0_copyFrom 54 = .ok (.getfield 25, 3) := by decide +kernel
theorem dX0_copyFrom_57 : decode cX0_copyFrom 57 = .ok (.iconst 0, 1) := by decide +kernel
theorem dX0_copyFrom_58 : decode cX0_copyFrom 58 = .ok (.aload_n 0, 1) := by decide +kernel
theorem dX0_copyFrom_59 : decode cX0_copyFrom 59 = .ok (.getfield 25, 3) := by decide +kernel
theorem dX0_copyFrom_62 : decode cX0_copyFrom 62 = .ok (.iconst 0, 1) := by decide +kernel
theorem dX0_copyFrom_63 : decode cX0_copyFrom 63 = .ok (.bipush 12, 2) := by decide +kernel
theorem dX0_copyFrom_65 : decode cX0_copyFrom 65 = .ok (.invokestatic 31, 3) := by decide +kernel
theorem dX0_copyFrom_68 : decode cX0_copyFrom 68 = .ok (.aload_n 1, 1) := by decide +kernel
theorem dX0_copyFrom_69 : decode cX0_copyFrom 69 = .ok (.getfield 28, 3) := by decide +kernel
theorem dX0_copyFrom_72 : decode cX0_copyFrom 72 = .ok (.iconst 0, 1) := by decide +kernel
theorem dX0_copyFrom_73 : decode cX0_copyFrom 73 = .ok (.aload_n 0, 1) := by decide +kernel
theorem dX0_copyFrom_74 : decode cX0_copyFrom 74 = .ok (.getfield 28, 3) := by decide +kernel
theorem dX0_copyFrom_77 : decode cX0_copyFrom 77 = .ok (.iconst 0, 1) := by decide +kernel
theorem dX0_copyFrom_78 : decode cX0_copyFrom 78 = .ok (.bipush 12, 2) := by decide +kernel
theorem dX0_copyFrom_80 : decode cX0_copyFrom 80 = .ok (.invokestatic 31, 3) := by decide +kernel
theorem dX0_copyFrom_83 : decode cX0_copyFrom 83 = .ok (.return_, 1) := by decide +kernel
theorem dX0_add_0 : decode cX0_add 0 = .ok (.aload_n 0, 1) := by decide +kernel
theorem dX0_add_1 : decode cX0_add 1 = .ok (.getfield 9, 3) := by decide +kernel
theorem dX0_add_4 : decode cX0_add 4 = .ok (.bipush 12, 2) := by decide +kernel
theorem dX0_add_6 : decode cX0_add 6 = .ok (.if_icmp .lt 4, 3) := by decide +kernel
theorem dX0_add_9 : decode cX0_add 9 = .ok (.return_, 1) := by decide +kernel
theorem dX0_add_10 : decode cX0_add 10 = .ok (.aload_n 0, 1) := by decide +kernel
theorem dX0_add_11 : decode cX0_add 11 = .ok (.getfield 15, 3) := by decide +kernel
theorem dX0_add_14 : decode cX0_add 14 = .ok (.aload_n 0, 1) := by decide +kernel
theorem dX0_add_15 : decode cX0_add 15 = .ok (.getfield 9, 3) := by decide +kernel
theorem dX0_add_18 : decode cX0_add 18 = .ok (.iload_n 1, 1) := by decide +kernel
theorem dX0_add_19 : decode cX0_add 19 = .ok (.iastore, 1) := by decide +kernel
theorem dX0_add_20 : decode cX0_add 20 = .ok (.aload_n 0, 1) := by decide +kernel
theorem dX0_add_21 : decode cX0_add 21 = .ok (.getfield 19, 3) := by decide +kernel
theorem dX0_add_24 : decode cX0_add 24 = .ok (.aload_n 0, 1) := by decide +kernel
theorem dX0_add_25 : decode cX0_add 25 = .ok (.getfield 9, 3) := by decide +kernel
theorem dX0_add_28 : decode cX0_add 28 = .ok (.iload_n 2, 1) := by decide +kernel
theorem dX0_add_29 : decode cX0_add 29 = .ok (.iastore, 1) := by decide +kernel
theorem dX0_add_30 : decode cX0_add 30 = .ok (.aload_n 0, 1) := by decide +kernel
theorem dX0_add_31 : decode cX0_add 31 = .ok (.getfield 22, 3) := by decide +kernel
theorem dX0_add_34 : decode cX0_add 34 = .ok (.aload_n 0, 1) := by decide +kernel
theorem dX0_add_35 : decode cX0_add 35 = .ok (.getfield 9, 3) := by decide +kernel
theorem dX0_add_38 : decode cX0_add 38 = .ok (.iload_n 3, 1) := by decide +kernel
theorem dX0_add_39 : decode cX0_add 39 = .ok (.iastore, 1) := by decide +kernel
theorem dX0_add_40 : decode cX0_add 40 = .ok (.aload_n 0, 1) := by decide +kernel
theorem dX0_add_41 : decode cX0_add 41 = .ok (.getfield 25, 3) := by decide +kernel
theorem dX0_add_44 : decode cX0_add 44 = .ok (.aload_n 0, 1) := by decide +kernel
theorem dX0_add_45 : decode cX0_add 45 = .ok (.getfield 9, 3) := by decide +kernel
theorem dX0_add_48 : decode cX0_add 48 = .ok (.iconst 0, 1) := by decide +kernel
theorem dX0_add_49 : decode cX0_add 49 = .ok (.iastore, 1) := by decide +kernel
theorem dX0_add_50 : decode cX0_add 50 = .ok (.aload_n 0, 1) := by decide +kernel
theorem dX0_add_51 : decode cX0_add 51 = .ok (.getfield 28, 3) := by decide +kernel
theorem dX0_add_54 : decode cX0_add 54 = .ok (.aload_n 0, 1) := by decide +kernel
theorem dX0_add_55 : decode cX0_add 55 = .ok (.getfield 9, 3) := by decide +kernel
theorem dX0_add_58 : decode cX0_add 58 = .ok (.iconst (-1), 1) := by decide +kernel
theorem dX0_add_59 : decode cX0_add 59 = .ok (.iastore, 1) := by decide +kernel
theorem dX0_add_60 : decode cX0_add 60 = .ok (.aload_n 0, 1) := by decide +kernel
theorem dX0_add_61 : decode cX0_add 61 = .ok (.dup, 1) := by decide +kernel
theorem dX0_add_62 : decode cX0_add 62 = .ok (.getfield 9, 3) := by decide +kernel
theorem dX0_add_65 : decode cX0_add 65 = .ok (.iconst 1, 1) := by decide +kernel
theorem dX0_add_66 : decode cX0_add 66 = .ok (.iadd, 1) := by decide +kernel
theorem dX0_add_67 : decode cX0_add 67 = .ok (.putfield 9, 3) := by decide +kernel
theorem dX0_add_70 : decode cX0_add 70 = .ok (.return_, 1) := by decide +kernel
theorem dX0_allWait_0 : decode cX0_allWait 0 = .ok (.iconst 0, 1) := by decide +kernel
theorem dX0_allWait_1 : decode cX0_allWait 1 = .ok (.istore_n 1, 1) := by decide +kernel
theorem dX0_allWait_2 : decode cX0_allWait 2 = .ok (.iload_n 1, 1) := by decide +kernel
theorem dX0_allWait_3 : decode cX0_allWait 3 = .ok (.aload_n 0, 1) := by decide +kernel
theorem dX0_allWait_4 : decode cX0_allWait 4 = .ok (.getfield 9, 3) := by decide +kernel
theorem dX0_allWait_7 : decode cX0_allWait 7 = .ok (.if_icmp .ge 23, 3) := by decide +kernel
theorem dX0_allWait_10 : decode cX0_allWait 10 = .ok (.aload_n 0, 1) := by decide +kernel
theorem dX0_allWait_11 : decode cX0_allWait 11 = .ok (.getfield 25, 3) := by decide +kernel
theorem dX0_allWait_14 : decode cX0_allWait 14 = .ok (.iload_n 1, 1) := by decide +kernel
theorem dX0_allWait_15 : decode cX0_allWait 15 = .ok (.iconst 0, 1) := by decide +kernel
theorem dX0_allWait_16 : decode cX0_allWait 16 = .ok (.iastore, 1) := by decide +kernel
theorem dX0_allWait_17 : decode cX0_allWait 17 = .ok (.aload_n 0, 1) := by decide +kernel
theorem dX0_allWait_18 : decode cX0_allWait 18 = .ok (.getfield 28, 3) := by decide +kernel
theorem dX0_allWait_21 : decode cX0_allWait 21 = .ok (.iload_n 1, 1) := by decide +kernel
theorem dX0_allWait_22 : decode cX0_allWait 22 = .ok (.iconst (-1), 1) := by decide +kernel
theorem dX0_allWait_23 : decode cX0_allWait 23 = .ok (.iastore, 1) := by decide +kernel
theorem dX0_allWait_24 : decode cX0_allWait 24 = .ok (.iinc 1 1, 3) := by decide +kernel
theorem dX0_allWait_27 : decode cX0_allWait 27 = .ok (.goto (-25), 3) := by decide +kernel
theorem dX0_allWait_30 : decode cX0_allWait 30 = .ok (.return_, 1) := by decide +kernel
theorem dX0_has_0 : decode cX0_has 0 = .ok (.iload_n 1, 1) := by decide +kernel
theorem dX0_has_1 : decode cX0_has 1 = .ok (.ifCond .lt 15, 3) := by decide +kernel
theorem dX0_has_4 : decode cX0_has 4 = .ok (.iload_n 1, 1) := by decide +kernel
theorem dX0_has_5 : decode cX0_has 5 = .ok (.aload_n 0, 1) := by decide +kernel
theorem dX0_has_6 : decode cX0_has 6 = .ok (.getfield 9, 3) := by decide +kernel
theorem dX0_has_9 : decode cX0_has 9 = .ok (.if_icmp .ge 7, 3) := by decide +kernel
theorem dX0_has_12 : decode cX0_has 12 = .ok (.iconst 1, 1) := by decide +kernel
theorem dX0_has_13 : decode cX0_has 13 = .ok (.goto 4, 3) := by decide +kernel
theorem dX0_has_16 : decode cX0_has 16 = .ok (.iconst 0, 1) := by decide +kernel
theorem dX0_has_17 : decode cX0_has 17 = .ok (.ireturn, 1) := by decide +kernel
theorem dX0_is_0 : decode cX0_is 0 = .ok (.aload_n 0, 1) := by decide +kernel
theorem dX0_is_1 : decode cX0_is 1 = .ok (.iload_n 1, 1) := by decide +kernel
theorem dX0_is_2 : decode cX0_is 2 = .ok (.invokevirtual 37, 3) := by decide +kernel
theorem dX0_is_5 : decode cX0_is 5 = .ok (.ifCond .eq 17, 3) := by decide +kernel
theorem dX0_is_8 : decode cX0_is 8 = .ok (.aload_n 0, 1) := by decide +kernel
theorem dX0_is_9 : decode cX0_is 9 = .ok (.getfield 25, 3) := by decide +kernel
theorem dX0_is_12 : decode cX0_is 12 = .ok (.iload_n 1, 1) := by decide +kernel
theorem dX0_is_13 : decode cX0_is 13 = .ok (.iaload, 1) := by decide +kernel
theorem dX0_is_14 : decode cX0_is 14 = .ok (.iload_n 2, 1) := by decide +kernel
theorem dX0_is_15 : decode cX0_is 15 = .ok (.if_icmp .ne 7, 3) := by decide +kernel
theorem dX0_is_18 : decode cX0_is 18 = .ok (.iconst 1, 1) := by decide +kernel
theorem dX0_is_19 : decode cX0_is 19 = .ok (.goto 4, 3) := by decide +kernel
theorem dX0_is_22 : decode cX0_is 22 = .ok (.iconst 0, 1) := by decide +kernel
theorem dX0_is_23 : decode cX0_is 23 = .ok (.ireturn, 1) := by decide +kernel
theorem dX0_waits_0 : decode cX0_waits 0 = .ok (.aload_n 0, 1) := by decide +kernel
theorem dX0_waits_1 : decode cX0_waits 1 = .ok (.iload_n 1, 1) := by decide +kernel
theorem dX0_waits_2 : decode cX0_waits 2 = .ok (.iconst 0, 1) := by decide +kernel
theorem dX0_waits_3 : decode cX0_waits 3 = .ok (.invokevirtual 41, 3) := by decide +kernel
theorem dX0_waits_6 : decode cX0_waits 6 = .ok (.ireturn, 1) := by decide +kernel
theorem dX0_isFixed_0 : decode cX0_isFixed 0 = .ok (.aload_n 0, 1) := by decide +kernel
theorem dX0_isFixed_1 : decode cX0_isFixed 1 = .ok (.iload_n 1, 1) := by decide +kernel
theorem dX0_isFixed_2 : decode cX0_isFixed 2 = .ok (.invokevirtual 37, 3) := by decide +kernel
theorem dX0_isFixed_5 : decode cX0_isFixed 5 = .ok (.ifCond .eq 17, 3) := by decide +kernel
theorem dX0_isFixed_8 : decode cX0_isFixed 8 = .ok (.aload_n 0, 1) := by decide +kernel
theorem dX0_isFixed_9 : decode cX0_isFixed 9 = .ok (.getfield 19, 3) := by decide +kernel
theorem dX0_isFixed_12 : decode cX0_isFixed 12 = .ok (.iload_n 1, 1) := by decide +kernel
theorem dX0_isFixed_13 : decode cX0_isFixed 13 = .ok (.iaload, 1) := by decide +kernel
theorem dX0_isFixed_14 : decode cX0_isFixed 14 = .ok (.iconst (-1), 1) := by decide +kernel
theorem dX0_isFixed_15 : decode cX0_isFixed 15 = .ok (.if_icmp .eq 7, 3) := by decide +kernel
theorem dX0_isFixed_18 : decode cX0_isFixed 18 = .ok (.iconst 1, 1) := by decide +kernel
theorem dX0_isFixed_19 : decode cX0_isFixed 19 = .ok (.goto 4, 3) := by decide +kernel
theorem dX0_isFixed_22 : decode cX0_isFixed 22 = .ok (.iconst 0, 1) := by decide +kernel
theorem dX0_isFixed_23 : decode cX0_isFixed 23 = .ok (.ireturn, 1) := by decide +kernel
theorem dX0_begunAt_0 : decode cX0_begunAt 0 = .ok (.aload_n 0, 1) := by decide +kernel
theorem dX0_begunAt_1 : decode cX0_begunAt 1 = .ok (.iload_n 1, 1) := by decide +kernel
theorem dX0_begunAt_2 : decode cX0_begunAt 2 = .ok (.invokevirtual 37, 3) := by decide +kernel
theorem dX0_begunAt_5 : decode cX0_begunAt 5 = .ok (.ifCond .eq 12, 3) := by decide +kernel
theorem dX0_begunAt_8 : decode cX0_begunAt 8 = .ok (.aload_n 0, 1) := by decide +kernel
theorem dX0_begunAt_9 : decode cX0_begunAt 9 = .ok (.getfield 28, 3) := by decide +kernel
theorem dX0_begunAt_12 : decode cX0_begunAt 12 = .ok (.iload_n 1, 1) := by decide +kernel
theorem dX0_begunAt_13 : decode cX0_begunAt 13 = .ok (.iaload, 1) := by decide +kernel
theorem dX0_begunAt_14 : decode cX0_begunAt 14 = .ok (.goto 4, 3) := by decide +kernel
theorem dX0_begunAt_17 : decode cX0_begunAt 17 = .ok (.iconst (-1), 1) := by decide +kernel
theorem dX0_begunAt_18 : decode cX0_begunAt 18 = .ok (.ireturn, 1) := by decide +kernel
theorem dX0_lateness_0 : decode cX0_lateness 0 = .ok (.aload_n 0, 1) := by decide +kernel
theorem dX0_lateness_1 : decode cX0_lateness 1 = .ok (.iload_n 1, 1) := by decide +kernel
theorem dX0_lateness_2 : decode cX0_lateness 2 = .ok (.invokevirtual 45, 3) := by decide +kernel
theorem dX0_lateness_5 : decode cX0_lateness 5 = .ok (.ifCond .eq 29, 3) := by decide +kernel
theorem dX0_lateness_8 : decode cX0_lateness 8 = .ok (.aload_n 0, 1) := by decide +kernel
theorem dX0_lateness_9 : decode cX0_lateness 9 = .ok (.getfield 28, 3) := by decide +kernel
theorem dX0_lateness_12 : decode cX0_lateness 12 = .ok (.iload_n 1, 1) := by decide +kernel
theorem dX0_lateness_13 : decode cX0_lateness 13 = .ok (.iaload, 1) := by decide +kernel
theorem dX0_lateness_14 : decode cX0_lateness 14 = .ok (.iconst (-1), 1) := by decide +kernel
theorem dX0_lateness_15 : decode cX0_lateness 15 = .ok (.if_icmp .eq 19, 3) := by decide +kernel
theorem dX0_lateness_18 : decode cX0_lateness 18 = .ok (.aload_n 0, 1) := by decide +kernel
theorem dX0_lateness_19 : decode cX0_lateness 19 = .ok (.getfield 28, 3) := by decide +kernel
theorem dX0_lateness_22 : decode cX0_lateness 22 = .ok (.iload_n 1, 1) := by decide +kernel
theorem dX0_lateness_23 : decode cX0_lateness 23 = .ok (.iaload, 1) := by decide +kernel
theorem dX0_lateness_24 : decode cX0_lateness 24 = .ok (.aload_n 0, 1) := by decide +kernel
theorem dX0_lateness_25 : decode cX0_lateness 25 = .ok (.getfield 19, 3) := by decide +kernel
theorem dX0_lateness_28 : decode cX0_lateness 28 = .ok (.iload_n 1, 1) := by decide +kernel
theorem dX0_lateness_29 : decode cX0_lateness 29 = .ok (.iaload, 1) := by decide +kernel
theorem dX0_lateness_30 : decode cX0_lateness 30 = .ok (.isub, 1) := by decide +kernel
theorem dX0_lateness_31 : decode cX0_lateness 31 = .ok (.goto 4, 3) := by decide +kernel
theorem dX0_lateness_34 : decode cX0_lateness 34 = .ok (.iconst (-1), 1) := by decide +kernel
theorem dX0_lateness_35 : decode cX0_lateness 35 = .ok (.ireturn, 1) := by decide +kernel
theorem dX0_countThatAre_0 : decode cX0_countThatAre 0 = .ok (.iconst 0, 1) := by decide +kernel
theorem dX0_countThatAre_1 : decode cX0_countThatAre 1 = .ok (.istore_n 2, 1) := by decide +kernel
theorem dX0_countThatAre_2 : decode cX0_countThatAre 2 = .ok (.iconst 0, 1) := by decide +kernel
theorem dX0_countThatAre_3 : decode cX0_countThatAre 3 = .ok (.istore_n 3, 1) := by decide +kernel
theorem dX0_countThatAre_4 : decode cX0_countThatAre 4 = .ok (.iload_n 3, 1) := by decide +kernel
theorem dX0_countThatAre_5 : decode cX0_countThatAre 5 = .ok (.aload_n 0, 1) := by decide +kernel
theorem dX0_countThatAre_6 : decode cX0_countThatAre 6 = .ok (.getfield 9, 3) := by decide +kernel
theorem dX0_countThatAre_9 : decode cX0_countThatAre 9 = .ok (.if_icmp .ge 22, 3) := by decide +kernel
theorem dX0_countThatAre_12 : decode cX0_countThatAre 12 = .ok (.aload_n 0, 1) := by decide +kernel
theorem dX0_countThatAre_13 : decode cX0_countThatAre 13 = .ok (.getfield 25, 3) := by decide +kernel
theorem dX0_countThatAre_16 : decode cX0_countThatAre 16 = .ok (.iload_n 3, 1) := by decide +kernel
theorem dX0_countThatAre_17 : decode cX0_countThatAre 17 = .ok (.iaload, 1) := by decide +kernel
theorem dX0_countThatAre_18 : decode cX0_countThatAre 18 = .ok (.iload_n 1, 1) := by decide +kernel
theorem dX0_countThatAre_19 : decode cX0_countThatAre 19 = .ok (.if_icmp .ne 6, 3) := by decide +kernel
theorem dX0_countThatAre_22 : decode cX0_countThatAre 22 = .ok (.iinc 2 1, 3) := by decide +kernel
theorem dX0_countThatAre_25 : decode cX0_countThatAre 25 = .ok (.iinc 3 1, 3) := by decide +kernel
theorem dX0_countThatAre_28 : decode cX0_countThatAre 28 = .ok (.goto (-24), 3) := by decide +kernel
theorem dX0_countThatAre_31 : decode cX0_countThatAre 31 = .ok (.iload_n 2, 1) := by decide +kernel
theorem dX0_countThatAre_32 : decode cX0_countThatAre 32 = .ok (.ireturn, 1) := by decide +kernel
theorem dX0_nextFixed_0 : decode cX0_nextFixed 0 = .ok (.iload_n 1, 1) := by decide +kernel
theorem dX0_nextFixed_1 : decode cX0_nextFixed 1 = .ok (.ifCond .ge 7, 3) := by decide +kernel
theorem dX0_nextFixed_4 : decode cX0_nextFixed 4 = .ok (.iconst 0, 1) := by decide +kernel
theorem dX0_nextFixed_5 : decode cX0_nextFixed 5 = .ok (.goto 4, 3) := by decide +kernel
theorem dX0_nextFixed_8 : decode cX0_nextFixed 8 = .ok (.iload_n 1, 1) := by decide +kernel
theorem dX0_nextFixed_9 : decode cX0_nextFixed 9 = .ok (.istore_n 2, 1) := by decide +kernel
theorem dX0_nextFixed_10 : decode cX0_nextFixed 10 = .ok (.iload_n 2, 1) := by decide +kernel
theorem dX0_nextFixed_11 : decode cX0_nextFixed 11 = .ok (.aload_n 0, 1) := by decide +kernel
theorem dX0_nextFixed_12 : decode cX0_nextFixed 12 = .ok (.getfield 9, 3) := by decide +kernel
theorem dX0_nextFixed_15 : decode cX0_nextFixed 15 = .ok (.if_icmp .ge 30, 3) := by decide +kernel
theorem dX0_nextFixed_18 : decode cX0_nextFixed 18 = .ok (.aload_n 0, 1) := by decide +kernel
theorem dX0_nextFixed_19 : decode cX0_nextFixed 19 = .ok (.getfield 25, 3) := by decide +kernel
theorem dX0_nextFixed_22 : decode cX0_nextFixed 22 = .ok (.iload_n 2, 1) := by decide +kernel
theorem dX0_nextFixed_23 : decode cX0_nextFixed 23 = .ok (.iaload, 1) := by decide +kernel
theorem dX0_nextFixed_24 : decode cX0_nextFixed 24 = .ok (.ifCond .ne 15, 3) := by decide +kernel
theorem dX0_nextFixed_27 : decode cX0_nextFixed 27 = .ok (.aload_n 0, 1) := by decide +kernel
theorem dX0_nextFixed_28 : decode cX0_nextFixed 28 = .ok (.getfield 19, 3) := by decide +kernel
theorem dX0_nextFixed_31 : decode cX0_nextFixed 31 = .ok (.iload_n 2, 1) := by decide +kernel
theorem dX0_nextFixed_32 : decode cX0_nextFixed 32 = .ok (.iaload, 1) := by decide +kernel
theorem dX0_nextFixed_33 : decode cX0_nextFixed 33 = .ok (.iconst (-1), 1) := by decide +kernel
theorem dX0_nextFixed_34 : decode cX0_nextFixed 34 = .ok (.if_icmp .eq 5, 3) := by decide +kernel
theorem dX0_nextFixed_37 : decode cX0_nextFixed 37 = .ok (.iload_n 2, 1) := by decide +kernel
theorem dX0_nextFixed_38 : decode cX0_nextFixed 38 = .ok (.ireturn, 1) := by decide +kernel
theorem dX0_nextFixed_39 : decode cX0_nextFixed 39 = .ok (.iinc 2 1, 3) := by decide +kernel
theorem dX0_nextFixed_42 : decode cX0_nextFixed 42 = .ok (.goto (-32), 3) := by decide +kernel
theorem dX0_nextFixed_45 : decode cX0_nextFixed 45 = .ok (.aload_n 0, 1) := by decide +kernel
theorem dX0_nextFixed_46 : decode cX0_nextFixed 46 = .ok (.getfield 9, 3) := by decide +kernel
theorem dX0_nextFixed_49 : decode cX0_nextFixed 49 = .ok (.ireturn, 1) := by decide +kernel
theorem dX0_timeOrHourEnd_0 : decode cX0_timeOrHourEnd 0 = .ok (.aload_n 0, 1) := by decide +kernel
theorem dX0_timeOrHourEnd_1 : decode cX0_timeOrHourEnd 1 = .ok (.iload_n 1, 1) := by decide +kernel
theorem dX0_timeOrHourEnd_2 : decode cX0_timeOrHourEnd 2 = .ok (.invokevirtual 37, 3) := by decide +kernel
theorem dX0_timeOrHourEnd_5 : decode cX0_timeOrHourEnd 5 = .ok (.ifCond .eq 12, 3) := by decide +kernel
theorem dX0_timeOrHourEnd_8 : decode cX0_timeOrHourEnd 8 = .ok (.aload_n 0, 1) := by decide +kernel
theorem dX0_timeOrHourEnd_9 : decode cX0_timeOrHourEnd 9 = .ok (.getfield 19, 3) := by decide +kernel
theorem dX0_timeOrHourEnd_12 : decode cX0_timeOrHourEnd 12 = .ok (.iload_n 1, 1) := by decide +kernel
theorem dX0_timeOrHourEnd_13 : decode cX0_timeOrHourEnd 13 = .ok (.iaload, 1) := by decide +kernel
theorem dX0_timeOrHourEnd_14 : decode cX0_timeOrHourEnd 14 = .ok (.goto 6, 3) := by decide +kernel
theorem dX0_timeOrHourEnd_17 : decode cX0_timeOrHourEnd 17 = .ok (.sipush 3600, 3) := by decide +kernel
theorem dX0_timeOrHourEnd_20 : decode cX0_timeOrHourEnd 20 = .ok (.ireturn, 1) := by decide +kernel
theorem dX0_goal_0 : decode cX0_goal 0 = .ok (.aload_n 0, 1) := by decide +kernel
theorem dX0_goal_1 : decode cX0_goal 1 = .ok (.aload_n 0, 1) := by decide +kernel
theorem dX0_goal_2 : decode cX0_goal 2 = .ok (.iconst 0, 1) := by decide +kernel
theorem dX0_goal_3 : decode cX0_goal 3 = .ok (.invokevirtual 48, 3) := by decide +kernel
theorem dX0_goal_6 : decode cX0_goal 6 = .ok (.invokevirtual 52, 3) := by decide +kernel
theorem dX0_goal_9 : decode cX0_goal 9 = .ok (.ireturn, 1) := by decide +kernel
theorem dX0_inSection_0 : decode cX0_inSection 0 = .ok (.aload_n 0, 1) := by decide +kernel
theorem dX0_inSection_1 : decode cX0_inSection 1 = .ok (.iload_n 1, 1) := by decide +kernel
theorem dX0_inSection_2 : decode cX0_inSection 2 = .ok (.invokevirtual 55, 3) := by decide +kernel
theorem dX0_inSection_5 : decode cX0_inSection 5 = .ok (.ifCond .eq 16, 3) := by decide +kernel
theorem dX0_inSection_8 : decode cX0_inSection 8 = .ok (.iload_n 1, 1) := by decide +kernel
theorem dX0_inSection_9 : decode cX0_inSection 9 = .ok (.aload_n 0, 1) := by decide +kernel
theorem dX0_inSection_10 : decode cX0_inSection 10 = .ok (.iconst 0, 1) := by decide +kernel
theorem dX0_inSection_11 : decode cX0_inSection 11 = .ok (.invokevirtual 48, 3) := by decide +kernel
theorem dX0_inSection_14 : decode cX0_inSection 14 = .ok (.if_icmp .ge 7, 3) := by decide +kernel
theorem dX0_inSection_17 : decode cX0_inSection 17 = .ok (.iconst 1, 1) := by decide +kernel
theorem dX0_inSection_18 : decode cX0_inSection 18 = .ok (.goto 4, 3) := by decide +kernel
theorem dX0_inSection_21 : decode cX0_inSection 21 = .ok (.iconst 0, 1) := by decide +kernel
theorem dX0_inSection_22 : decode cX0_inSection 22 = .ok (.ireturn, 1) := by decide +kernel
theorem dX0_firstThatWaits_0 : decode cX0_firstThatWaits 0 = .ok (.iconst 0, 1) := by decide +kernel
theorem dX0_firstThatWaits_1 : decode cX0_firstThatWaits 1 = .ok (.istore_n 1, 1) := by decide +kernel
theorem dX0_firstThatWaits_2 : decode cX0_firstThatWaits 2 = .ok (.iload_n 1, 1) := by decide +kernel
theorem dX0_firstThatWaits_3 : decode cX0_firstThatWaits 3 = .ok (.aload_n 0, 1) := by decide +kernel
theorem dX0_firstThatWaits_4 : decode cX0_firstThatWaits 4 = .ok (.getfield 9, 3) := by decide +kernel
theorem dX0_firstThatWaits_7 : decode cX0_firstThatWaits 7 = .ok (.if_icmp .ge 20, 3) := by decide +kernel
theorem dX0_firstThatWaits_10 : decode cX0_firstThatWaits 10 = .ok (.aload_n 0, 1) := by decide +kernel
theorem dX0_firstThatWaits_11 : decode cX0_firstThatWaits 11 = .ok (.getfield 25, 3) := by decide +kernel
theorem dX0_firstThatWaits_14 : decode cX0_firstThatWaits 14 = .ok (.iload_n 1, 1) := by decide +kernel
theorem dX0_firstThatWaits_15 : decode cX0_firstThatWaits 15 = .ok (.iaload, 1) := by decide +kernel
theorem dX0_firstThatWaits_16 : decode cX0_firstThatWaits 16 = .ok (.ifCond .ne 5, 3) := by decide +kernel
theorem dX0_firstThatWaits_19 : decode cX0_firstThatWaits 19 = .ok (.iload_n 1, 1) := by decide +kernel
theorem dX0_firstThatWaits_20 : decode cX0_firstThatWaits 20 = .ok (.ireturn, 1) := by decide +kernel
theorem dX0_firstThatWaits_21 : decode cX0_firstThatWaits 21 = .ok (.iinc 1 1, 3) := by decide +kernel
theorem dX0_firstThatWaits_24 : decode cX0_firstThatWaits 24 = .ok (.goto (-22), 3) := by decide +kernel
theorem dX0_firstThatWaits_27 : decode cX0_firstThatWaits 27 = .ok (.iconst (-1), 1) := by decide +kernel
theorem dX0_firstThatWaits_28 : decode cX0_firstThatWaits 28 = .ok (.ireturn, 1) := by decide +kernel
theorem dX0_waitingLength_0 : decode cX0_waitingLength 0 = .ok (.iconst 0, 1) := by decide +kernel
theorem dX0_waitingLength_1 : decode cX0_waitingLength 1 = .ok (.istore_n 3, 1) := by decide +kernel
theorem dX0_waitingLength_2 : decode cX0_waitingLength 2 = .ok (.iload_n 1, 1) := by decide +kernel
theorem dX0_waitingLength_3 : decode cX0_waitingLength 3 = .ok (.ifCond .ge 7, 3) := by decide +kernel
theorem dX0_waitingLength_6 : decode cX0_waitingLength 6 = .ok (.iconst 0, 1) := by decide +kernel
theorem dX0_waitingLength_7 : decode cX0_waitingLength 7 = .ok (.goto 4, 3) := by decide +kernel
theorem dX0_waitingLength_10 : decode cX0_waitingLength 10 = .ok (.iload_n 1, 1) := by decide +kernel
theorem dX0_waitingLength_11 : decode cX0_waitingLength 11 = .ok (.istore 4, 2) := by decide +kernel
theorem dX0_waitingLength_13 : decode cX0_waitingLength 13 = .ok (.iload 4, 2) := by decide +kernel
theorem dX0_waitingLength_15 : decode cX0_waitingLength 15 = .ok (.iload_n 2, 1) := by decide +kernel
theorem dX0_waitingLength_16 : decode cX0_waitingLength 16 = .ok (.if_icmp .ge 38, 3) := by decide +kernel
theorem dX0_waitingLength_19 : decode cX0_waitingLength 19 = .ok (.iload 4, 2) := by decide +kernel
theorem dX0_waitingLength_21 : decode cX0_waitingLength 21 = .ok (.aload_n 0, 1) := by decide +kernel
theorem dX0_waitingLength_22 : decode cX0_waitingLength 22 = .ok (.getfield 9, 3) := by decide +kernel
theorem dX0_waitingLength_25 : decode cX0_waitingLength 25 = .ok (.if_icmp .ge 29, 3) := by decide +kernel
theorem dX0_waitingLength_28 : decode cX0_waitingLength 28 = .ok (.aload_n 0, 1) := by decide +kernel
theorem dX0_waitingLength_29 : decode cX0_waitingLength 29 = .ok (.getfield 25, 3) := by decide +kernel
theorem dX0_waitingLength_32 : decode cX0_waitingLength 32 = .ok (.iload 4, 2) := by decide +kernel
theorem dX0_waitingLength_34 : decode cX0_waitingLength 34 = .ok (.iaload, 1) := by decide +kernel
theorem dX0_waitingLength_35 : decode cX0_waitingLength 35 = .ok (.ifCond .ne 13, 3) := by decide +kernel
theorem dX0_waitingLength_38 : decode cX0_waitingLength 38 = .ok (.iload_n 3, 1) := by decide +kernel
theorem dX0_waitingLength_39 : decode cX0_waitingLength 39 = .ok (.aload_n 0, 1) := by decide +kernel
theorem dX0_waitingLength_40 : decode cX0_waitingLength 40 = .ok (.getfield 15, 3) := by decide +kernel
theorem dX0_waitingLength_43 : decode cX0_waitingLength 43 = .ok (.iload 4, 2) := by decide +kernel
theorem dX0_waitingLength_45 : decode cX0_waitingLength 45 = .ok (.iaload, 1) := by decide +kernel
theorem dX0_waitingLength_46 : decode cX0_waitingLength 46 = .ok (.iadd, 1) := by decide +kernel
theorem dX0_waitingLength_47 : decode cX0_waitingLength 47 = .ok (.istore_n 3, 1) := by decide +kernel
theorem dX0_waitingLength_48 : decode cX0_waitingLength 48 = .ok (.iinc 4 1, 3) := by decide +kernel
theorem dX0_waitingLength_51 : decode cX0_waitingLength 51 = .ok (.goto (-38), 3) := by decide +kernel
theorem dX0_waitingLength_54 : decode cX0_waitingLength 54 = .ok (.iload_n 3, 1) := by decide +kernel
theorem dX0_waitingLength_55 : decode cX0_waitingLength 55 = .ok (.ireturn, 1) := by decide +kernel
theorem dX0_sectionLength_0 : decode cX0_sectionLength 0 = .ok (.aload_n 0, 1) := by decide +kernel
theorem dX0_sectionLength_1 : decode cX0_sectionLength 1 = .ok (.iconst 0, 1) := by decide +kernel
theorem dX0_sectionLength_2 : decode cX0_sectionLength 2 = .ok (.aload_n 0, 1) := by decide +kernel
theorem dX0_sectionLength_3 : decode cX0_sectionLength 3 = .ok (.iconst 0, 1) := by decide +kernel
theorem dX0_sectionLength_4 : decode cX0_sectionLength 4 = .ok (.invokevirtual 48, 3) := by decide +kernel
theorem dX0_sectionLength_7 : decode cX0_sectionLength 7 = .ok (.invokevirtual 58, 3) := by decide +kernel
theorem dX0_sectionLength_10 : decode cX0_sectionLength 10 = .ok (.ireturn, 1) := by decide +kernel
theorem dX0_leastOfSection_0 : decode cX0_leastOfSection 0 = .ok (.iconst (-1), 1) := by decide +kernel
theorem dX0_leastOfSection_1 : decode cX0_leastOfSection 1 = .ok (.istore_n 1, 1) := by decide +kernel
theorem dX0_leastOfSection_2 : decode cX0_leastOfSection 2 = .ok (.bipush 8, 2) := by decide +kernel
theorem dX0_leastOfSection_4 : decode cX0_leastOfSection 4 = .ok (.istore_n 2, 1) := by decide +kernel
theorem dX0_leastOfSection_5 : decode cX0_leastOfSection 5 = .ok (.aload_n 0, 1) := by decide +kernel
theorem dX0_leastOfSection_6 : decode cX0_leastOfSection 6 = .ok (.iconst 0, 1) := by decide +kernel
theorem dX0_leastOfSection_7 : decode cX0_leastOfSection 7 = .ok (.invokevirtual 48, 3) := by decide +kernel
theorem dX0_leastOfSection_10 : decode cX0_leastOfSection 10 = .ok (.istore_n 3, 1) := by decide +kernel
theorem dX0_leastOfSection_11 : decode cX0_leastOfSection 11 = .ok (.iconst 0, 1) := by decide +kernel
theorem dX0_leastOfSection_12 : decode cX0_leastOfSection 12 = .ok (.istore 4, 2) := by decide +kernel
theorem dX0_leastOfSection_14 : decode cX0_leastOfSection 14 = .ok (.iload 4, 2) := by decide +kernel
theorem dX0_leastOfSection_16 : decode cX0_leastOfSection 16 = .ok (.iload_n 3, 1) := by decide +kernel
theorem dX0_leastOfSection_17 : decode cX0_leastOfSection 17 = .ok (.if_icmp .ge 50, 3) := by decide +kernel
theorem dX0_leastOfSection_20 : decode cX0_leastOfSection 20 = .ok (.iload 4, 2) := by decide +kernel
theorem dX0_leastOfSection_22 : decode cX0_leastOfSection 22 = .ok (.aload_n 0, 1) := by decide +kernel
theorem dX0_leastOfSection_23 : decode cX0_leastOfSection 23 = .ok (.getfield 9, 3) := by decide +kernel
theorem dX0_leastOfSection_26 : decode cX0_leastOfSection 26 = .ok (.if_icmp .ge 41, 3) := by decide +kernel
theorem dX0_leastOfSection_29 : decode cX0_leastOfSection 29 = .ok (.aload_n 0, 1) := by decide +kernel
theorem dX0_leastOfSection_30 : decode cX0_leastOfSection 30 = .ok (.getfield 25, 3) := by decide +kernel
theorem dX0_leastOfSection_33 : decode cX0_leastOfSection 33 = .ok (.iload 4, 2) := by decide +kernel
theorem dX0_leastOfSection_35 : decode cX0_leastOfSection 35 = .ok (.iaload, 1) := by decide +kernel
theorem dX0_leastOfSection_36 : decode cX0_leastOfSection 36 = .ok (.ifCond .ne 25, 3) := by decide +kernel
theorem dX0_leastOfSection_39 : decode cX0_leastOfSection 39 = .ok (.aload_n 0, 1) := by decide +kernel
theorem dX0_leastOfSection_40 : decode cX0_leastOfSection 40 = .ok (.getfield 22, 3) := by decide +kernel
theorem dX0_leastOfSection_43 : decode cX0_leastOfSection 43 = .ok (.iload 4, 2) := by decide +kernel
theorem dX0_leastOfSection_45 : decode cX0_leastOfSection 45 = .ok (.iaload, 1) := by decide +kernel
theorem dX0_leastOfSection_46 : decode cX0_leastOfSection 46 = .ok (.iload_n 2, 1) := by decide +kernel
theorem dX0_leastOfSection_47 : decode cX0_leastOfSection 47 = .ok (.if_icmp .gt 14, 3) := by decide +kernel
theorem dX0_leastOfSection_50 : decode cX0_leastOfSection 50 = .ok (.iload 4, 2) := by decide +kernel
theorem dX0_leastOfSection_52 : decode cX0_leastOfSection 52 = .ok (.istore_n 1, 1) := by decide +kernel
theorem dX0_leastOfSection_53 : decode cX0_leastOfSection 53 = .ok (.aload_n 0, 1) := by decide +kernel
theorem dX0_leastOfSection_54 : decode cX0_leastOfSection 54 = .ok (.getfield 22, 3) := by decide +kernel
theorem dX0_leastOfSection_57 : decode cX0_leastOfSection 57 = .ok (.iload 4, 2) := by decide +kernel
theorem dX0_leastOfSection_59 : decode cX0_leastOfSection 59 = .ok (.iaload, 1) := by decide +kernel
theorem dX0_leastOfSection_60 : decode cX0_leastOfSection 60 = .ok (.istore_n 2, 1) := by decide +kernel
theorem dX0_leastOfSection_61 : decode cX0_leastOfSection 61 = .ok (.iinc 4 1, 3) := by decide +kernel
theorem dX0_leastOfSection_64 : decode cX0_leastOfSection 64 = .ok (.goto (-50), 3) := by decide +kernel
theorem dX0_leastOfSection_67 : decode cX0_leastOfSection 67 = .ok (.iload_n 1, 1) := by decide +kernel
theorem dX0_leastOfSection_68 : decode cX0_leastOfSection 68 = .ok (.ireturn, 1) := by decide +kernel
theorem dX0_latestBegin_0 : decode cX0_latestBegin 0 = .ok (.aload_n 0, 1) := by decide +kernel
theorem dX0_latestBegin_1 : decode cX0_latestBegin 1 = .ok (.iload_n 1, 1) := by decide +kernel
theorem dX0_latestBegin_2 : decode cX0_latestBegin 2 = .ok (.invokevirtual 55, 3) := by decide +kernel
theorem dX0_latestBegin_5 : decode cX0_latestBegin 5 = .ok (.ifCond .ne 7, 3) := by decide +kernel
theorem dX0_latestBegin_8 : decode cX0_latestBegin 8 = .ok (.sipush (-10000), 3) := by decide +kernel
theorem dX0_latestBegin_11 : decode cX0_latestBegin 11 = .ok (.ireturn, 1) := by decide +kernel
theorem dX0_latestBegin_12 : decode cX0_latestBegin 12 = .ok (.aload_n 0, 1) := by decide +kernel
theorem dX0_latestBegin_13 : decode cX0_latestBegin 13 = .ok (.iload_n 1, 1) := by decide +kernel
theorem dX0_latestBegin_14 : decode cX0_latestBegin 14 = .ok (.iconst 1, 1) := by decide +kernel
theorem dX0_latestBegin_15 : decode cX0_latestBegin 15 = .ok (.iadd, 1) := by decide +kernel
theorem dX0_latestBegin_16 : decode cX0_latestBegin 16 = .ok (.invokevirtual 48, 3) := by decide +kernel
theorem dX0_latestBegin_19 : decode cX0_latestBegin 19 = .ok (.istore_n 2, 1) := by decide +kernel
theorem dX0_latestBegin_20 : decode cX0_latestBegin 20 = .ok (.aload_n 0, 1) := by decide +kernel
theorem dX0_latestBegin_21 : decode cX0_latestBegin 21 = .ok (.iload_n 2, 1) := by decide +kernel
theorem dX0_latestBegin_22 : decode cX0_latestBegin 22 = .ok (.invokevirtual 52, 3) := by decide +kernel
theorem dX0_latestBegin_25 : decode cX0_latestBegin 25 = .ok (.aload_n 0, 1) := by decide +kernel
theorem dX0_latestBegin_26 : decode cX0_latestBegin 26 = .ok (.iload_n 1, 1) := by decide +kernel
theorem dX0_latestBegin_27 : decode cX0_latestBegin 27 = .ok (.iload_n 2, 1) := by decide +kernel
theorem dX0_latestBegin_28 : decode cX0_latestBegin 28 = .ok (.invokevirtual 58, 3) := by decide +kernel
theorem dX0_latestBegin_31 : decode cX0_latestBegin 31 = .ok (.isub, 1) := by decide +kernel
theorem dX0_latestBegin_32 : decode cX0_latestBegin 32 = .ok (.ireturn, 1) := by decide +kernel
theorem dX0_tell_0 : decode cX0_tell 0 = .ok (.aload_n 0, 1) := by decide +kernel
theorem dX0_tell_1 : decode cX0_tell 1 = .ok (.iload_n 1, 1) := by decide +kernel
theorem dX0_tell_2 : decode cX0_tell 2 = .ok (.invokevirtual 37, 3) := by decide +kernel
theorem dX0_tell_5 : decode cX0_tell 5 = .ok (.ifCond .ne 5, 3) := by decide +kernel
theorem dX0_tell_8 : decode cX0_tell 8 = .ok (.iconst (-1), 1) := by decide +kernel
theorem dX0_tell_9 : decode cX0_tell 9 = .ok (.ireturn, 1) := by decide +kernel
theorem dX0_tell_10 : decode cX0_tell 10 = .ok (.iload_n 2, 1) := by decide +kernel
theorem dX0_tell_11 : decode cX0_tell 11 = .ok (.tableswitch 78 0 5 #[37, 44, 51, 58, 65, 72], 37) := by decide +kernel
theorem dX0_tell_48 : decode cX0_tell 48 = .ok (.aload_n 0, 1) := by decide +kernel
theorem dX0_tell_49 : decode cX0_tell 49 = .ok (.getfield 15, 3) := by decide +kernel
theorem dX0_tell_52 : decode cX0_tell 52 = .ok (.iload_n 1, 1) := by decide +kernel
theorem dX0_tell_53 : decode cX0_tell 53 = .ok (.iaload, 1) := by decide +kernel
theorem dX0_tell_54 : decode cX0_tell 54 = .ok (.ireturn, 1) := by decide +kernel
theorem dX0_tell_55 : decode cX0_tell 55 = .ok (.aload_n 0, 1) := by decide +kernel
theorem dX0_tell_56 : decode cX0_tell 56 = .ok (.getfield 19, 3) := by decide +kernel
theorem dX0_tell_59 : decode cX0_tell 59 = .ok (.iload_n 1, 1) := by decide +kernel
theorem dX0_tell_60 : decode cX0_tell 60 = .ok (.iaload, 1) := by decide +kernel
theorem dX0_tell_61 : decode cX0_tell 61 = .ok (.ireturn, 1) := by decide +kernel
theorem dX0_tell_62 : decode cX0_tell 62 = .ok (.aload_n 0, 1) := by decide +kernel
theorem dX0_tell_63 : decode cX0_tell 63 = .ok (.getfield 22, 3) := by decide +kernel
theorem dX0_tell_66 : decode cX0_tell 66 = .ok (.iload_n 1, 1) := by decide +kernel
theorem dX0_tell_67 : decode cX0_tell 67 = .ok (.iaload, 1) := by decide +kernel
theorem dX0_tell_68 : decode cX0_tell 68 = .ok (.ireturn, 1) := by decide +kernel
theorem dX0_tell_69 : decode cX0_tell 69 = .ok (.aload_n 0, 1) := by decide +kernel
theorem dX0_tell_70 : decode cX0_tell 70 = .ok (.getfield 25, 3) := by decide +kernel
theorem dX0_tell_73 : decode cX0_tell 73 = .ok (.iload_n 1, 1) := by decide +kernel
theorem dX0_tell_74 : decode cX0_tell 74 = .ok (.iaload, 1) := by decide +kernel
theorem dX0_tell_75 : decode cX0_tell 75 = .ok (.ireturn, 1) := by decide +kernel
theorem dX0_tell_76 : decode cX0_tell 76 = .ok (.aload_n 0, 1) := by decide +kernel
theorem dX0_tell_77 : decode cX0_tell 77 = .ok (.getfield 28, 3) := by decide +kernel
theorem dX0_tell_80 : decode cX0_tell 80 = .ok (.iload_n 1, 1) := by decide +kernel
theorem dX0_tell_81 : decode cX0_tell 81 = .ok (.iaload, 1) := by decide +kernel
theorem dX0_tell_82 : decode cX0_tell 82 = .ok (.ireturn, 1) := by decide +kernel
theorem dX0_tell_83 : decode cX0_tell 83 = .ok (.aload_n 0, 1) := by decide +kernel
theorem dX0_tell_84 : decode cX0_tell 84 = .ok (.iload_n 1, 1) := by decide +kernel
theorem dX0_tell_85 : decode cX0_tell 85 = .ok (.invokevirtual 62, 3) := by decide +kernel
theorem dX0_tell_88 : decode cX0_tell 88 = .ok (.ireturn, 1) := by decide +kernel
theorem dX0_tell_89 : decode cX0_tell 89 = .ok (.aload_n 0, 1) := by decide +kernel
theorem dX0_tell_90 : decode cX0_tell 90 = .ok (.iload_n 1, 1) := by decide +kernel
theorem dX0_tell_91 : decode cX0_tell 91 = .ok (.invokevirtual 65, 3) := by decide +kernel
theorem dX0_tell_94 : decode cX0_tell 94 = .ok (.ifCond .eq 7, 3) := by decide +kernel
theorem dX0_tell_97 : decode cX0_tell 97 = .ok (.iconst 1, 1) := by decide +kernel
theorem dX0_tell_98 : decode cX0_tell 98 = .ok (.goto 4, 3) := by decide +kernel
theorem dX0_tell_101 : decode cX0_tell 101 = .ok (.iconst 0, 1) := by decide +kernel
theorem dX0_tell_102 : decode cX0_tell 102 = .ok (.ireturn, 1) := by decide +kernel
theorem dX1_init_0 : decode cX1_init 0 = .ok (.aload_n 0, 1) := by decide +kernel
theorem dX1_init_1 : decode cX1_init 1 = .ok (.invokespecial 3, 3) := by decide +kernel
theorem dX1_init_4 : decode cX1_init 4 = .ok (.aload_n 0, 1) := by decide +kernel
theorem dX1_init_5 : decode cX1_init 5 = .ok (.iconst 0, 1) := by decide +kernel
theorem dX1_init_6 : decode cX1_init 6 = .ok (.putfield 9, 3) := by decide +kernel
theorem dX1_init_9 : decode cX1_init 9 = .ok (.aload_n 0, 1) := by decide +kernel
theorem dX1_init_10 : decode cX1_init 10 = .ok (.bipush 10, 2) := by decide +kernel
theorem dX1_init_12 : decode cX1_init 12 = .ok (.newarray .int, 2) := by decide +kernel
theorem dX1_init_14 : decode cX1_init 14 = .ok (.putfield 15, 3) := by decide +kernel
theorem dX1_init_17 : decode cX1_init 17 = .ok (.aload_n 0, 1) := by decide +kernel
theorem dX1_init_18 : decode cX1_init 18 = .ok (.bipush 10, 2) := by decide +kernel
theorem dX1_init_20 : decode cX1_init 20 = .ok (.newarray .int, 2) := by decide +kernel
theorem dX1_init_22 : decode cX1_init 22 = .ok (.putfield 19, 3) := by decide +kernel
theorem dX1_init_25 : decode cX1_init 25 = .ok (.aload_n 0, 1) := by decide +kernel
theorem dX1_init_26 : decode cX1_init 26 = .ok (.bipush 10, 2) := by decide +kernel
theorem dX1_init_28 : decode cX1_init 28 = .ok (.newarray .int, 2) := by decide +kernel
theorem dX1_init_30 : decode cX1_init 30 = .ok (.putfield 22, 3) := by decide +kernel
theorem dX1_init_33 : decode cX1_init 33 = .ok (.aload_n 0, 1) := by decide +kernel
theorem dX1_init_34 : decode cX1_init 34 = .ok (.new 25, 3) := by decide +kernel
theorem dX1_init_37 : decode cX1_init 37 = .ok (.dup, 1) := by decide +kernel
theorem dX1_init_38 : decode cX1_init 38 = .ok (.invokespecial 27, 3) := by decide +kernel
theorem dX1_init_41 : decode cX1_init 41 = .ok (.putfield 28, 3) := by decide +kernel
theorem dX1_init_44 : decode cX1_init 44 = .ok (.return_, 1) := by decide +kernel
theorem dX1_copyFrom_0 : decode cX1_copyFrom 0 = .ok (.aload_n 0, 1) := by decide +kernel
theorem dX1_copyFrom_1 : decode cX1_copyFrom 1 = .ok (.aload_n 1, 1) := by decide +kernel
theorem dX1_copyFrom_2 : decode cX1_copyFrom 2 = .ok (.getfield 9, 3) := by decide +kernel
theorem dX1_copyFrom_5 : decode cX1_copyFrom 5 = .ok (.putfield 9, 3) := by decide +kernel
theorem dX1_copyFrom_8 : decode cX1_copyFrom 8 = .ok (.aload_n 1, 1) := by decide +kernel
theorem dX1_copyFrom_9 : decode cX1_copyFrom 9 = .ok (.getfield 15, 3) := by decide +kernel
theorem dX1_copyFrom_12 : decode cX1_copyFrom 12 = .ok (.iconst 0, 1) := by decide +kernel
theorem dX1_copyFrom_13 : decode cX1_copyFrom 13 = .ok (.aload_n 0, 1) := by decide +kernel
theorem dX1_copyFrom_14 : decode cX1_copyFrom 14 = .ok (.getfield 15, 3) := by decide +kernel
theorem dX1_copyFrom_17 : decode cX1_copyFrom 17 = .ok (.iconst 0, 1) := by decide +kernel
theorem dX1_copyFrom_18 : decode cX1_copyFrom 18 = .ok (.bipush 10, 2) := by decide +kernel
theorem dX1_copyFrom_20 : decode cX1_copyFrom 20 = .ok (.invokestatic 32, 3) := by decide +kernel
theorem dX1_copyFrom_23 : decode cX1_copyFrom 23 = .ok (.aload_n 1, 1) := by decide +kernel
theorem dX1_copyFrom_24 : decode cX1_copyFrom 24 = .ok (.getfield 19, 3) := by decide +kernel
theorem dX1_copyFrom_27 : decode cX1_copyFrom 27 = .ok (.iconst 0, 1) := by decide +kernel
theorem dX1_copyFrom_28 : decode cX1_copyFrom 28 = .ok (.aload_n 0, 1) := by decide +kernel
theorem dX1_copyFrom_29 : decode cX1_copyFrom 29 = .ok (.getfield 19, 3) := by decide +kernel
theorem dX1_copyFrom_32 : decode cX1_copyFrom 32 = .ok (.iconst 0, 1) := by decide +kernel
theorem dX1_copyFrom_33 : decode cX1_copyFrom 33 = .ok (.bipush 10, 2) := by decide +kernel
theorem dX1_copyFrom_35 : decode cX1_copyFrom 35 = .ok (.invokestatic 32, 3) := by decide +kernel
theorem dX1_copyFrom_38 : decode cX1_copyFrom 38 = .ok (.aload_n 1, 1) := by decide +kernel
theorem dX1_copyFrom_39 : decode cX1_copyFrom 39 = .ok (.getfield 22, 3) := by decide +kernel
theorem dX1_copyFrom_42 : decode cX1_copyFrom 42 = .ok (.iconst 0, 1) := by decide +kernel
theorem dX1_copyFrom_43 : decode cX1_copyFrom 43 = .ok (.aload_n 0, 1) := by decide +kernel
theorem dX1_copyFrom_44 : decode cX1_copyFrom 44 = .ok (.getfield 22, 3) := by decide +kernel
theorem dX1_copyFrom_47 : decode cX1_copyFrom 47 = .ok (.iconst 0, 1) := by decide +kernel
theorem dX1_copyFrom_48 : decode cX1_copyFrom 48 = .ok (.bipush 10, 2) := by decide +kernel
theorem dX1_copyFrom_50 : decode cX1_copyFrom 50 = .ok (.invokestatic 32, 3) := by decide +kernel
theorem dX1_copyFrom_53 : decode cX1_copyFrom 53 = .ok (.return_, 1) := by decide +kernel
theorem dX1_add_0 : decode cX1_add 0 = .ok (.aload_n 0, 1) := by decide +kernel
theorem dX1_add_1 : decode cX1_add 1 = .ok (.getfield 9, 3) := by decide +kernel
theorem dX1_add_4 : decode cX1_add 4 = .ok (.bipush 10, 2) := by decide +kernel
theorem dX1_add_6 : decode cX1_add 6 = .ok (.if_icmp .lt 4, 3) := by decide +kernel
theorem dX1_add_9 : decode cX1_add 9 = .ok (.return_, 1) := by decide +kernel
theorem dX1_add_10 : decode cX1_add 10 = .ok (.aload_n 0, 1) := by decide +kernel
theorem dX1_add_11 : decode cX1_add 11 = .ok (.getfield 15, 3) := by decide +kernel
theorem dX1_add_14 : decode cX1_add 14 = .ok (.aload_n 0, 1) := by decide +kernel
theorem dX1_add_15 : decode cX1_add 15 = .ok (.getfield 9, 3) := by decide +kernel
theorem dX1_add_18 : decode cX1_add 18 = .ok (.iload_n 1, 1) := by decide +kernel
theorem dX1_add_19 : decode cX1_add 19 = .ok (.iastore, 1) := by decide +kernel
theorem dX1_add_20 : decode cX1_add 20 = .ok (.aload_n 0, 1) := by decide +kernel
theorem dX1_add_21 : decode cX1_add 21 = .ok (.getfield 19, 3) := by decide +kernel
theorem dX1_add_24 : decode cX1_add 24 = .ok (.aload_n 0, 1) := by decide +kernel
theorem dX1_add_25 : decode cX1_add 25 = .ok (.getfield 9, 3) := by decide +kernel
theorem dX1_add_28 : decode cX1_add 28 = .ok (.iconst 0, 1) := by decide +kernel
theorem dX1_add_29 : decode cX1_add 29 = .ok (.iastore, 1) := by decide +kernel
theorem dX1_add_30 : decode cX1_add 30 = .ok (.aload_n 0, 1) := by decide +kernel
theorem dX1_add_31 : decode cX1_add 31 = .ok (.getfield 22, 3) := by decide +kernel
theorem dX1_add_34 : decode cX1_add 34 = .ok (.aload_n 0, 1) := by decide +kernel
theorem dX1_add_35 : decode cX1_add 35 = .ok (.getfield 9, 3) := by decide +kernel
theorem dX1_add_38 : decode cX1_add 38 = .ok (.iconst (-1), 1) := by decide +kernel
theorem dX1_add_39 : decode cX1_add 39 = .ok (.iastore, 1) := by decide +kernel
theorem dX1_add_40 : decode cX1_add 40 = .ok (.aload_n 0, 1) := by decide +kernel
theorem dX1_add_41 : decode cX1_add 41 = .ok (.dup, 1) := by decide +kernel
theorem dX1_add_42 : decode cX1_add 42 = .ok (.getfield 9, 3) := by decide +kernel
theorem dX1_add_45 : decode cX1_add 45 = .ok (.iconst 1, 1) := by decide +kernel
theorem dX1_add_46 : decode cX1_add 46 = .ok (.iadd, 1) := by decide +kernel
theorem dX1_add_47 : decode cX1_add 47 = .ok (.putfield 9, 3) := by decide +kernel
theorem dX1_add_50 : decode cX1_add 50 = .ok (.return_, 1) := by decide +kernel
theorem dX1_allWait_0 : decode cX1_allWait 0 = .ok (.iconst 0, 1) := by decide +kernel
theorem dX1_allWait_1 : decode cX1_allWait 1 = .ok (.istore_n 1, 1) := by decide +kernel
theorem dX1_allWait_2 : decode cX1_allWait 2 = .ok (.iload_n 1, 1) := by decide +kernel
theorem dX1_allWait_3 : decode cX1_allWait 3 = .ok (.aload_n 0, 1) := by decide +kernel
theorem dX1_allWait_4 : decode cX1_allWait 4 = .ok (.getfield 9, 3) := by decide +kernel
theorem dX1_allWait_7 : decode cX1_allWait 7 = .ok (.if_icmp .ge 23, 3) := by decide +kernel
theorem dX1_allWait_10 : decode cX1_allWait 10 = .ok (.aload_n 0, 1) := by decide +kernel
theorem dX1_allWait_11 : decode cX1_allWait 11 = .ok (.getfield 19, 3) := by decide +kernel
theorem dX1_allWait_14 : decode cX1_allWait 14 = .ok (.iload_n 1, 1) := by decide +kernel
theorem dX1_allWait_15 : decode cX1_allWait 15 = .ok (.iconst 0, 1) := by decide +kernel
theorem dX1_allWait_16 : decode cX1_allWait 16 = .ok (.iastore, 1) := by decide +kernel
theorem dX1_allWait_17 : decode cX1_allWait 17 = .ok (.aload_n 0, 1) := by decide +kernel
theorem dX1_allWait_18 : decode cX1_allWait 18 = .ok (.getfield 22, 3) := by decide +kernel
theorem dX1_allWait_21 : decode cX1_allWait 21 = .ok (.iload_n 1, 1) := by decide +kernel
theorem dX1_allWait_22 : decode cX1_allWait 22 = .ok (.iconst (-1), 1) := by decide +kernel
theorem dX1_allWait_23 : decode cX1_allWait 23 = .ok (.iastore, 1) := by decide +kernel
theorem dX1_allWait_24 : decode cX1_allWait 24 = .ok (.iinc 1 1, 3) := by decide +kernel
theorem dX1_allWait_27 : decode cX1_allWait 27 = .ok (.goto (-25), 3) := by decide +kernel
theorem dX1_allWait_30 : decode cX1_allWait 30 = .ok (.return_, 1) := by decide +kernel
theorem dX1_has_0 : decode cX1_has 0 = .ok (.iload_n 1, 1) := by decide +kernel
theorem dX1_has_1 : decode cX1_has 1 = .ok (.ifCond .lt 15, 3) := by decide +kernel
theorem dX1_has_4 : decode cX1_has 4 = .ok (.iload_n 1, 1) := by decide +kernel
theorem dX1_has_5 : decode cX1_has 5 = .ok (.aload_n 0, 1) := by decide +kernel
theorem dX1_has_6 : decode cX1_has 6 = .ok (.getfield 9, 3) := by decide +kernel
theorem dX1_has_9 : decode cX1_has 9 = .ok (.if_icmp .ge 7, 3) := by decide +kernel
theorem dX1_has_12 : decode cX1_has 12 = .ok (.iconst 1, 1) := by decide +kernel
theorem dX1_has_13 : decode cX1_has 13 = .ok (.goto 4, 3) := by decide +kernel
theorem dX1_has_16 : decode cX1_has 16 = .ok (.iconst 0, 1) := by decide +kernel
theorem dX1_has_17 : decode cX1_has 17 = .ok (.ireturn, 1) := by decide +kernel
theorem dX1_countThatWait_0 : decode cX1_countThatWait 0 = .ok (.iconst 0, 1) := by decide +kernel
theorem dX1_countThatWait_1 : decode cX1_countThatWait 1 = .ok (.istore_n 1, 1) := by decide +kernel
theorem dX1_countThatWait_2 : decode cX1_countThatWait 2 = .ok (.iconst 0, 1) := by decide +kernel
theorem dX1_countThatWait_3 : decode cX1_countThatWait 3 = .ok (.istore_n 2, 1) := by decide +kernel
theorem dX1_countThatWait_4 : decode cX1_countThatWait 4 = .ok (.iload_n 2, 1) := by decide +kernel
theorem dX1_countThatWait_5 : decode cX1_countThatWait 5 = .ok (.aload_n 0, 1) := by decide +kernel
theorem dX1_countThatWait_6 : decode cX1_countThatWait 6 = .ok (.getfield 9, 3) := by decide +kernel
theorem dX1_countThatWait_9 : decode cX1_countThatWait 9 = .ok (.if_icmp .ge 21, 3) := by decide +kernel
theorem dX1_countThatWait_12 : decode cX1_countThatWait 12 = .ok (.aload_n 0, 1) := by decide +kernel
theorem dX1_countThatWait_13 : decode cX1_countThatWait 13 = .ok (.getfield 19, 3) := by decide +kernel
theorem dX1_countThatWait_16 : decode cX1_countThatWait 16 = .ok (.iload_n 2, 1) := by decide +kernel
theorem dX1_countThatWait_17 : decode cX1_countThatWait 17 = .ok (.iaload, 1) := by decide +kernel
theorem dX1_countThatWait_18 : decode cX1_countThatWait 18 = .ok (.ifCond .ne 6, 3) := by decide +kernel
theorem dX1_countThatWait_21 : decode cX1_countThatWait 21 = .ok (.iinc 1 1, 3) := by decide +kernel
theorem dX1_countThatWait_24 : decode cX1_countThatWait 24 = .ok (.iinc 2 1, 3) := by decide +kernel
theorem dX1_countThatWait_27 : decode cX1_countThatWait 27 = .ok (.goto (-23), 3) := by decide +kernel
theorem dX1_countThatWait_30 : decode cX1_countThatWait 30 = .ok (.iload_n 1, 1) := by decide +kernel
theorem dX1_countThatWait_31 : decode cX1_countThatWait 31 = .ok (.ireturn, 1) := by decide +kernel
theorem dX1_chooseFor_0 : decode cX1_chooseFor 0 = .ok (.iconst 0, 1) := by decide +kernel
theorem dX1_chooseFor_1 : decode cX1_chooseFor 1 = .ok (.istore_n 2, 1) := by decide +kernel
theorem dX1_chooseFor_2 : decode cX1_chooseFor 2 = .ok (.iconst 0, 1) := by decide +kernel
theorem dX1_chooseFor_3 : decode cX1_chooseFor 3 = .ok (.istore_n 3, 1) := by decide +kernel
theorem dX1_chooseFor_4 : decode cX1_chooseFor 4 = .ok (.iconst 0, 1) := by decide +kernel
theorem dX1_chooseFor_5 : decode cX1_chooseFor 5 = .ok (.istore 4, 2) := by decide +kernel
theorem dX1_chooseFor_7 : decode cX1_chooseFor 7 = .ok (.aload_n 0, 1) := by decide +kernel
theorem dX1_chooseFor_8 : decode cX1_chooseFor 8 = .ok (.getfield 28, 3) := by decide +kernel
theorem dX1_chooseFor_11 : decode cX1_chooseFor 11 = .ok (.aload_n 0, 1) := by decide +kernel
theorem dX1_chooseFor_12 : decode cX1_chooseFor 12 = .ok (.invokevirtual 38, 3) := by decide +kernel
theorem dX1_chooseFor_15 : decode cX1_chooseFor 15 = .ok (.istore 5, 2) := by decide +kernel
theorem dX1_chooseFor_17 : decode cX1_chooseFor 17 = .ok (.iconst 1, 1) := by decide +kernel
theorem dX1_chooseFor_18 : decode cX1_chooseFor 18 = .ok (.istore 6, 2) := by decide +kernel
theorem dX1_chooseFor_20 : decode cX1_chooseFor 20 = .ok (.iload 6, 2) := by decide +kernel
theorem dX1_chooseFor_22 : decode cX1_chooseFor 22 = .ok (.iload 5, 2) := by decide +kernel
theorem dX1_chooseFor_24 : decode cX1_chooseFor 24 = .ok (.if_icmp .ge 134, 3) := by decide +kernel
theorem dX1_chooseFor_27 : decode cX1_chooseFor 27 = .ok (.aload_n 0, 1) := by decide +kernel
theorem dX1_chooseFor_28 : decode cX1_chooseFor 28 = .ok (.getfield 28, 3) := by decide +kernel
theorem dX1_chooseFor_31 : decode cX1_chooseFor 31 = .ok (.iload 6, 2) := by decide +kernel
theorem dX1_chooseFor_33 : decode cX1_chooseFor 33 = .ok (.invokevirtual 42, 3) := by decide +kernel
theorem dX1_chooseFor_36 : decode cX1_chooseFor 36 = .ok (.aload_n 0, 1) := by decide +kernel
theorem dX1_chooseFor_37 : decode cX1_chooseFor 37 = .ok (.getfield 28, 3) := by decide +kernel
theorem dX1_chooseFor_40 : decode cX1_chooseFor 40 = .ok (.getfield 46, 3) := by decide +kernel
theorem dX1_chooseFor_43 : decode cX1_chooseFor 43 = .ok (.iload_n 3, 1) := by decide +kernel
theorem dX1_chooseFor_44 : decode cX1_chooseFor 44 = .ok (.if_icmp .gt 60, 3) := by decide +kernel
theorem dX1_chooseFor_47 : decode cX1_chooseFor 47 = .ok (.aload_n 0, 1) := by decide +kernel
theorem dX1_chooseFor_48 : decode cX1_chooseFor 48 = .ok (.getfield 28, 3) := by decide +kernel
theorem dX1_chooseFor_51 : decode cX1_chooseFor 51 = .ok (.getfield 46, 3) := by decide +kernel
theorem dX1_chooseFor_54 : decode cX1_chooseFor 54 = .ok (.iload_n 3, 1) := by decide +kernel
theorem dX1_chooseFor_55 : decode cX1_chooseFor 55 = .ok (.if_icmp .ne 15, 3) := by decide +kernel
theorem dX1_chooseFor_58 : decode cX1_chooseFor 58 = .ok (.aload_n 0, 1) := by decide +kernel
theorem dX1_chooseFor_59 : decode cX1_chooseFor 59 = .ok (.getfield 28, 3) := by decide +kernel
theorem dX1_chooseFor_62 : decode cX1_chooseFor 62 = .ok (.getfield 49, 3) := by decide +kernel
theorem dX1_chooseFor_65 : decode cX1_chooseFor 65 = .ok (.iload 4, 2) := by decide +kernel
theorem dX1_chooseFor_67 : decode cX1_chooseFor 67 = .ok (.if_icmp .lt 37, 3) := by decide +kernel
theorem dX1_chooseFor_70 : decode cX1_chooseFor 70 = .ok (.aload_n 0, 1) := by decide +kernel
theorem dX1_chooseFor_71 : decode cX1_chooseFor 71 = .ok (.getfield 28, 3) := by decide +kernel
theorem dX1_chooseFor_74 : decode cX1_chooseFor 74 = .ok (.getfield 46, 3) := by decide +kernel
theorem dX1_chooseFor_77 : decode cX1_chooseFor 77 = .ok (.iload_n 3, 1) := by decide +kernel
theorem dX1_chooseFor_78 : decode cX1_chooseFor 78 = .ok (.if_icmp .ne 30, 3) := by decide +kernel
theorem dX1_chooseFor_81 : decode cX1_chooseFor 81 = .ok (.aload_n 0, 1) := by decide +kernel
theorem dX1_chooseFor_82 : decode cX1_chooseFor 82 = .ok (.getfield 28, 3) := by decide +kernel
theorem dX1_chooseFor_85 : decode cX1_chooseFor 85 = .ok (.getfield 49, 3) := by decide +kernel
theorem dX1_chooseFor_88 : decode cX1_chooseFor 88 = .ok (.iload 4, 2) := by decide +kernel
theorem dX1_chooseFor_90 : decode cX1_chooseFor 90 = .ok (.if_icmp .ne 18, 3) := by decide +kernel
theorem dX1_chooseFor_93 : decode cX1_chooseFor 93 = .ok (.aload_n 0, 1) := by decide +kernel
theorem dX1_chooseFor_94 : decode cX1_chooseFor 94 = .ok (.getfield 28, 3) := by decide +kernel
theorem dX1_chooseFor_97 : decode cX1_chooseFor 97 = .ok (.getfield 52, 3) := by decide +kernel
theorem dX1_chooseFor_100 : decode cX1_chooseFor 100 = .ok (.iload_n 2, 1) := by decide +kernel
theorem dX1_chooseFor_101 : decode cX1_chooseFor 101 = .ok (.if_icmp .ge 7, 3) := by decide +kernel
theorem dX1_chooseFor_104 : decode cX1_chooseFor 104 = .ok (.iconst 1, 1) := by decide +kernel
theorem dX1_chooseFor_105 : decode cX1_chooseFor 105 = .ok (.goto 4, 3) := by decide +kernel
theorem dX1_chooseFor_108 : decode cX1_chooseFor 108 = .ok (.iconst 0, 1) := by decide +kernel
theorem dX1_chooseFor_109 : decode cX1_chooseFor 109 = .ok (.istore 7, 2) := by decide +kernel
theorem dX1_chooseFor_111 : decode cX1_chooseFor 111 = .ok (.aload_n 0, 1) := by decide +kernel
theorem dX1_chooseFor_112 : decode cX1_chooseFor 112 = .ok (.getfield 28, 3) := by decide +kernel
theorem dX1_chooseFor_115 : decode cX1_chooseFor 115 = .ok (.getfield 46, 3) := by decide +kernel
theorem dX1_chooseFor_118 : decode cX1_chooseFor 118 = .ok (.iload_n 1, 1) := by decide +kernel
theorem dX1_chooseFor_119 : decode cX1_chooseFor 119 = .ok (.if_icmp .gt 33, 3) := by decide +kernel
theorem dX1_chooseFor_122 : decode cX1_chooseFor 122 = .ok (.iload 7, 2) := by decide +kernel
theorem dX1_chooseFor_124 : decode cX1_chooseFor 124 = .ok (.ifCond .eq 28, 3) := by decide +kernel
theorem dX1_chooseFor_127 : decode cX1_chooseFor 127 = .ok (.aload_n 0, 1) := by decide +kernel
theorem dX1_chooseFor_128 : decode cX1_chooseFor 128 = .ok (.getfield 28, 3) := by decide +kernel
theorem dX1_chooseFor_131 : decode cX1_chooseFor 131 = .ok (.getfield 52, 3) := by decide +kernel
theorem dX1_chooseFor_134 : decode cX1_chooseFor 134 = .ok (.istore_n 2, 1) := by decide +kernel
theorem dX1_chooseFor_135 : decode cX1_chooseFor 135 = .ok (.aload_n 0, 1) := by decide +kernel
theorem dX1_chooseFor_136 : decode cX1_chooseFor 136 = .ok (.getfield 28, 3) := by decide +kernel
theorem dX1_chooseFor_139 : decode cX1_chooseFor 139 = .ok (.getfield 46, 3) := by decide +kernel
theorem dX1_chooseFor_142 : decode cX1_chooseFor 142 = .ok (.istore_n 3, 1) := by decide +kernel
theorem dX1_chooseFor_143 : decode cX1_chooseFor 143 = .ok (.aload_n 0, 1) := by decide +kernel
theorem dX1_chooseFor_144 : decode cX1_chooseFor 144 = .ok (.getfield 28, 3) := by decide +kernel
theorem dX1_chooseFor_147 : decode cX1_chooseFor 147 = .ok (.getfield 49, 3) := by decide +kernel
theorem dX1_chooseFor_150 : decode cX1_chooseFor 150 = .ok (.istore 4, 2) := by decide +kernel
theorem dX1_chooseFor_152 : decode cX1_chooseFor 152 = .ok (.iinc 6 1, 3) := by decide +kernel
theorem dX1_chooseFor_155 : decode cX1_chooseFor 155 = .ok (.goto (-135), 3) := by decide +kernel
theorem dX1_chooseFor_158 : decode cX1_chooseFor 158 = .ok (.iload_n 2, 1) := by decide +kernel
theorem dX1_chooseFor_159 : decode cX1_chooseFor 159 = .ok (.ireturn, 1) := by decide +kernel
theorem dX1_tell_0 : decode cX1_tell 0 = .ok (.aload_n 0, 1) := by decide +kernel
theorem dX1_tell_1 : decode cX1_tell 1 = .ok (.iload_n 1, 1) := by decide +kernel
theorem dX1_tell_2 : decode cX1_tell 2 = .ok (.invokevirtual 55, 3) := by decide +kernel
theorem dX1_tell_5 : decode cX1_tell 5 = .ok (.ifCond .ne 5, 3) := by decide +kernel
theorem dX1_tell_8 : decode cX1_tell 8 = .ok (.iconst (-1), 1) := by decide +kernel
theorem dX1_tell_9 : decode cX1_tell 9 = .ok (.ireturn, 1) := by decide +kernel
theorem dX1_tell_10 : decode cX1_tell 10 = .ok (.iload_n 2, 1) := by decide +kernel
theorem dX1_tell_11 : decode cX1_tell 11 = .ok (.lookupswitch 39 #[(0, 25), (1, 32)], 25) := by decide +kernel
theorem dX1_tell_36 : decode cX1_tell 36 = .ok (.aload_n 0, 1) := by decide +kernel
theorem dX1_tell_37 : decode cX1_tell 37 = .ok (.getfield 15, 3) := by decide +kernel
theorem dX1_tell_40 : decode cX1_tell 40 = .ok (.iload_n 1, 1) := by decide +kernel
theorem dX1_tell_41 : decode cX1_tell 41 = .ok (.iaload, 1) := by decide +kernel
theorem dX1_tell_42 : decode cX1_tell 42 = .ok (.ireturn, 1) := by decide +kernel
theorem dX1_tell_43 : decode cX1_tell 43 = .ok (.aload_n 0, 1) := by decide +kernel
theorem dX1_tell_44 : decode cX1_tell 44 = .ok (.getfield 19, 3) := by decide +kernel
theorem dX1_tell_47 : decode cX1_tell 47 = .ok (.iload_n 1, 1) := by decide +kernel
theorem dX1_tell_48 : decode cX1_tell 48 = .ok (.iaload, 1) := by decide +kernel
theorem dX1_tell_49 : decode cX1_tell 49 = .ok (.ireturn, 1) := by decide +kernel
theorem dX1_tell_50 : decode cX1_tell 50 = .ok (.aload_n 0, 1) := by decide +kernel
theorem dX1_tell_51 : decode cX1_tell 51 = .ok (.getfield 22, 3) := by decide +kernel
theorem dX1_tell_54 : decode cX1_tell 54 = .ok (.iload_n 1, 1) := by decide +kernel
theorem dX1_tell_55 : decode cX1_tell 55 = .ok (.iaload, 1) := by decide +kernel
theorem dX1_tell_56 : decode cX1_tell 56 = .ok (.ireturn, 1) := by decide +kernel
theorem dX2_init_0 : decode cX2_init 0 = .ok (.aload_n 0, 1) := by decide +kernel
theorem dX2_init_1 : decode cX2_init 1 = .ok (.invokespecial 3, 3) := by decide +kernel
theorem dX2_init_4 : decode cX2_init 4 = .ok (.aload_n 0, 1) := by decide +kernel
theorem dX2_init_5 : decode cX2_init 5 = .ok (.new 9, 3) := by decide +kernel
theorem dX2_init_8 : decode cX2_init 8 = .ok (.dup, 1) := by decide +kernel
theorem dX2_init_9 : decode cX2_init 9 = .ok (.invokespecial 11, 3) := by decide +kernel
theorem dX2_init_12 : decode cX2_init 12 = .ok (.putfield 12, 3) := by decide +kernel
theorem dX2_init_15 : decode cX2_init 15 = .ok (.aload_n 0, 1) := by decide +kernel
theorem dX2_init_16 : decode cX2_init 16 = .ok (.new 18, 3) := by decide +kernel
theorem dX2_init_19 : decode cX2_init 19 = .ok (.dup, 1) := by decide +kernel
theorem dX2_init_20 : decode cX2_init 20 = .ok (.invokespecial 20, 3) := by decide +kernel
theorem dX2_init_23 : decode cX2_init 23 = .ok (.putfield 21, 3) := by decide +kernel
theorem dX2_init_26 : decode cX2_init 26 = .ok (.aload_n 0, 1) := by decide +kernel
theorem dX2_init_27 : decode cX2_init 27 = .ok (.new 25, 3) := by decide +kernel
theorem dX2_init_30 : decode cX2_init 30 = .ok (.dup, 1) := by decide +kernel
theorem dX2_init_31 : decode cX2_init 31 = .ok (.invokespecial 27, 3) := by decide +kernel
theorem dX2_init_34 : decode cX2_init 34 = .ok (.putfield 28, 3) := by decide +kernel
theorem dX2_init_37 : decode cX2_init 37 = .ok (.aload_n 0, 1) := by decide +kernel
theorem dX2_init_38 : decode cX2_init 38 = .ok (.iconst 0, 1) := by decide +kernel
theorem dX2_init_39 : decode cX2_init 39 = .ok (.putfield 32, 3) := by decide +kernel
theorem dX2_init_42 : decode cX2_init 42 = .ok (.aload_n 0, 1) := by decide +kernel
theorem dX2_init_43 : decode cX2_init 43 = .ok (.iconst 0, 1) := by decide +kernel
theorem dX2_init_44 : decode cX2_init 44 = .ok (.putfield 36, 3) := by decide +kernel
theorem dX2_init_47 : decode cX2_init 47 = .ok (.aload_n 0, 1) := by decide +kernel
theorem dX2_init_48 : decode cX2_init 48 = .ok (.iconst 0, 1) := by decide +kernel
theorem dX2_init_49 : decode cX2_init 49 = .ok (.putfield 40, 3) := by decide +kernel
theorem dX2_init_52 : decode cX2_init 52 = .ok (.aload_n 0, 1) := by decide +kernel
theorem dX2_init_53 : decode cX2_init 53 = .ok (.iconst 0, 1) := by decide +kernel
theorem dX2_init_54 : decode cX2_init 54 = .ok (.putfield 43, 3) := by decide +kernel
theorem dX2_init_57 : decode cX2_init 57 = .ok (.aload_n 0, 1) := by decide +kernel
theorem dX2_init_58 : decode cX2_init 58 = .ok (.iconst 0, 1) := by decide +kernel
theorem dX2_init_59 : decode cX2_init 59 = .ok (.putfield 46, 3) := by decide +kernel
theorem dX2_init_62 : decode cX2_init 62 = .ok (.aload_n 0, 1) := by decide +kernel
theorem dX2_init_63 : decode cX2_init 63 = .ok (.iconst (-1), 1) := by decide +kernel
theorem dX2_init_64 : decode cX2_init 64 = .ok (.putfield 49, 3) := by decide +kernel
theorem dX2_init_67 : decode cX2_init 67 = .ok (.aload_n 0, 1) := by decide +kernel
theorem dX2_init_68 : decode cX2_init 68 = .ok (.iconst (-1), 1) := by decide +kernel
theorem dX2_init_69 : decode cX2_init 69 = .ok (.putfield 52, 3) := by decide +kernel
theorem dX2_init_72 : decode cX2_init 72 = .ok (.aload_n 0, 1) := by decide +kernel
theorem dX2_init_73 : decode cX2_init 73 = .ok (.iconst 0, 1) := by decide +kernel
theorem dX2_init_74 : decode cX2_init 74 = .ok (.putfield 55, 3) := by decide +kernel
theorem dX2_init_77 : decode cX2_init 77 = .ok (.return_, 1) := by decide +kernel
theorem dX2_copyFrom_0 : decode cX2_copyFrom 0 = .ok (.aload_n 0, 1) := by decide +kernel
theorem dX2_copyFrom_1 : decode cX2_copyFrom 1 = .ok (.getfield 12, 3) := by decide +kernel
theorem dX2_copyFrom_4 : decode cX2_copyFrom 4 = .ok (.aload_n 1, 1) := by decide +kernel
theorem dX2_copyFrom_5 : decode cX2_copyFrom 5 = .ok (.getfield 12, 3) := by decide +kernel
theorem dX2_copyFrom_8 : decode cX2_copyFrom 8 = .ok (.invokevirtual 58, 3) := by decide +kernel
theorem dX2_copyFrom_11 : decode cX2_copyFrom 11 = .ok (.aload_n 0, 1) := by decide +kernel
theorem dX2_copyFrom_12 : decode cX2_copyFrom 12 = .ok (.getfield 21, 3) := by decide +kernel
theorem dX2_copyFrom_15 : decode cX2_copyFrom 15 = .ok (.aload_n 1, 1) := by decide +kernel
theorem dX2_copyFrom_16 : decode cX2_copyFrom 16 = .ok (.getfield 21, 3) := by decide +kernel
theorem dX2_copyFrom_19 : decode cX2_copyFrom 19 = .ok (.invokevirtual 62, 3) := by decide +kernel
theorem dX2_copyFrom_22 : decode cX2_copyFrom 22 = .ok (.aload_n 0, 1) := by decide +kernel
theorem dX2_copyFrom_23 : decode cX2_copyFrom 23 = .ok (.getfield 28, 3) := by decide +kernel
theorem dX2_copyFrom_26 : decode cX2_copyFrom 26 = .ok (.aload_n 1, 1) := by decide +kernel
theorem dX2_copyFrom_27 : decode cX2_copyFrom 27 = .ok (.getfield 28, 3) := by decide +kernel
theorem dX2_copyFrom_30 : decode cX2_copyFrom 30 = .ok (.invokevirtual 65, 3) := by decide +kernel
theorem dX2_copyFrom_33 : decode cX2_copyFrom 33 = .ok (.aload_n 0, 1) := by decide +kernel
theorem dX2_copyFrom_34 : decode cX2_copyFrom 34 = .ok (.aload_n 1, 1) := by decide +kernel
theorem dX2_copyFrom_35 : decode cX2_copyFrom 35 = .ok (.getfield 32, 3) := by decide +kernel
theorem dX2_copyFrom_38 : decode cX2_copyFrom 38 = .ok (.putfield 32, 3) := by decide +kernel
theorem dX2_copyFrom_41 : decode cX2_copyFrom 41 = .ok (.aload_n 0, 1) := by decide +kernel
theorem dX2_copyFrom_42 : decode cX2_copyFrom 42 = .ok (.aload_n 1, 1) := by decide +kernel
theorem dX2_copyFrom_43 : decode cX2_copyFrom 43 = .ok (.getfield 36, 3) := by decide +kernel
theorem dX2_copyFrom_46 : decode cX2_copyFrom 46 = .ok (.putfield 36, 3) := by decide +kernel
theorem dX2_copyFrom_49 : decode cX2_copyFrom 49 = .ok (.aload_n 0, 1) := by decide +kernel
theorem dX2_copyFrom_50 : decode cX2_copyFrom 50 = .ok (.aload_n 1, 1) := by decide +kernel
theorem dX2_copyFrom_51 : decode cX2_copyFrom 51 = .ok (.getfield 40, 3) := by decide +kernel
theorem dX2_copyFrom_54 : decode cX2_copyFrom 54 = .ok (.putfield 40, 3) := by decide +kernel
theorem dX2_copyFrom_57 : decode cX2_copyFrom 57 = .ok (.aload_n 0, 1) := by decide +kernel
theorem dX2_copyFrom_58 : decode cX2_copyFrom 58 = .ok (.aload_n 1, 1) := by decide +kernel
theorem dX2_copyFrom_59 : decode cX2_copyFrom 59 = .ok (.getfield 43, 3) := by decide +kernel
theorem dX2_copyFrom_62 : decode cX2_copyFrom 62 = .ok (.putfield 43, 3) := by decide +kernel
theorem dX2_copyFrom_65 : decode cX2_copyFrom 65 = .ok (.aload_n 0, 1) := by decide +kernel
theorem dX2_copyFrom_66 : decode cX2_copyFrom 66 = .ok (.aload_n 1, 1) := by decide +kernel
theorem dX2_copyFrom_67 : decode cX2_copyFrom 67 = .ok (.getfield 46, 3) := by decide +kernel
theorem dX2_copyFrom_70 : decode cX2_copyFrom 70 = .ok (.putfield 46, 3) := by decide +kernel
theorem dX2_copyFrom_73 : decode cX2_copyFrom 73 = .ok (.aload_n 0, 1) := by decide +kernel
theorem dX2_copyFrom_74 : decode cX2_copyFrom 74 = .ok (.aload_n 1, 1) := by decide +kernel
theorem dX2_copyFrom_75 : decode cX2_copyFrom 75 = .ok (.getfield 49, 3) := by decide +kernel
theorem dX2_copyFrom_78 : decode cX2_copyFrom 78 = .ok (.putfield 49, 3) := by decide +kernel
theorem dX2_copyFrom_81 : decode cX2_copyFrom 81 = .ok (.aload_n 0, 1) := by decide +kernel
theorem dX2_copyFrom_82 : decode cX2_copyFrom 82 = .ok (.aload_n 1, 1) := by decide +kernel
theorem dX2_copyFrom_83 : decode cX2_copyFrom 83 = .ok (.getfield 52, 3) := by decide +kernel
theorem dX2_copyFrom_86 : decode cX2_copyFrom 86 = .ok (.putfield 52, 3) := by decide +kernel
theorem dX2_copyFrom_89 : decode cX2_copyFrom 89 = .ok (.aload_n 0, 1) := by decide +kernel
theorem dX2_copyFrom_90 : decode cX2_copyFrom 90 = .ok (.aload_n 1, 1) := by decide +kernel
theorem dX2_copyFrom_91 : decode cX2_copyFrom 91 = .ok (.getfield 55, 3) := by decide +kernel
theorem dX2_copyFrom_94 : decode cX2_copyFrom 94 = .ok (.putfield 55, 3) := by decide +kernel
theorem dX2_copyFrom_97 : decode cX2_copyFrom 97 = .ok (.return_, 1) := by decide +kernel
theorem dX2_beginAnew_0 : decode cX2_beginAnew 0 = .ok (.aload_n 0, 1) := by decide +kernel
theorem dX2_beginAnew_1 : decode cX2_beginAnew 1 = .ok (.getfield 12, 3) := by decide +kernel
theorem dX2_beginAnew_4 : decode cX2_beginAnew 4 = .ok (.invokevirtual 68, 3) := by decide +kernel
theorem dX2_beginAnew_7 : decode cX2_beginAnew 7 = .ok (.aload_n 0, 1) := by decide +kernel
theorem dX2_beginAnew_8 : decode cX2_beginAnew 8 = .ok (.getfield 21, 3) := by decide +kernel
theorem dX2_beginAnew_11 : decode cX2_beginAnew 11 = .ok (.invokevirtual 71, 3) := by decide +kernel
theorem dX2_beginAnew_14 : decode cX2_beginAnew 14 = .ok (.aload_n 0, 1) := by decide +kernel
theorem dX2_beginAnew_15 : decode cX2_beginAnew 15 = .ok (.getfield 28, 3) := by decide +kernel
theorem dX2_beginAnew_18 : decode cX2_beginAnew 18 = .ok (.iconst 0, 1) := by decide +kernel
theorem dX2_beginAnew_19 : decode cX2_beginAnew 19 = .ok (.putfield 72, 3) := by decide +kernel
theorem dX2_beginAnew_22 : decode cX2_beginAnew 22 = .ok (.aload_n 0, 1) := by decide +kernel
theorem dX2_beginAnew_23 : decode cX2_beginAnew 23 = .ok (.iconst 0, 1) := by decide +kernel
theorem dX2_beginAnew_24 : decode cX2_beginAnew 24 = .ok (.putfield 32, 3) := by decide +kernel
theorem dX2_beginAnew_27 : decode cX2_beginAnew 27 = .ok (.aload_n 0, 1) := by decide +kernel
theorem dX2_beginAnew_28 : decode cX2_beginAnew 28 = .ok (.iconst 0, 1) := by decide +kernel
theorem dX2_beginAnew_29 : decode cX2_beginAnew 29 = .ok (.putfield 36, 3) := by decide +kernel
theorem dX2_beginAnew_32 : decode cX2_beginAnew 32 = .ok (.aload_n 0, 1) := by decide +kernel
theorem dX2_beginAnew_33 : decode cX2_beginAnew 33 = .ok (.iconst 0, 1) := by decide +kernel
theorem dX2_beginAnew_34 : decode cX2_beginAnew 34 = .ok (.putfield 40, 3) := by decide +kernel
theorem dX2_beginAnew_37 : decode cX2_beginAnew 37 = .ok (.aload_n 0, 1) := by decide +kernel
theorem dX2_beginAnew_38 : decode cX2_beginAnew 38 = .ok (.iconst 0, 1) := by decide +kernel
theorem dX2_beginAnew_39 : decode cX2_beginAnew 39 = .ok (.putfield 43, 3) := by decide +kernel
theorem dX2_beginAnew_42 : decode cX2_beginAnew 42 = .ok (.aload_n 0, 1) := by decide +kernel
theorem dX2_beginAnew_43 : decode cX2_beginAnew 43 = .ok (.invokevirtual 75, 3) := by decide +kernel
theorem dX2_beginAnew_46 : decode cX2_beginAnew 46 = .ok (.return_, 1) := by decide +kernel
theorem dX2_clearAir_0 : decode cX2_clearAir 0 = .ok (.aload_n 0, 1) := by decide +kernel
theorem dX2_clearAir_1 : decode cX2_clearAir 1 = .ok (.iconst (-1), 1) := by decide +kernel
theorem dX2_clearAir_2 : decode cX2_clearAir 2 = .ok (.putfield 49, 3) := by decide +kernel
theorem dX2_clearAir_5 : decode cX2_clearAir 5 = .ok (.aload_n 0, 1) := by decide +kernel
theorem dX2_clearAir_6 : decode cX2_clearAir 6 = .ok (.iconst (-1), 1) := by decide +kernel
theorem dX2_clearAir_7 : decode cX2_clearAir 7 = .ok (.putfield 52, 3) := by decide +kernel
theorem dX2_clearAir_10 : decode cX2_clearAir 10 = .ok (.aload_n 0, 1) := by decide +kernel
theorem dX2_clearAir_11 : decode cX2_clearAir 11 = .ok (.iconst 0, 1) := by decide +kernel
theorem dX2_clearAir_12 : decode cX2_clearAir 12 = .ok (.putfield 55, 3) := by decide +kernel
theorem dX2_clearAir_15 : decode cX2_clearAir 15 = .ok (.return_, 1) := by decide +kernel
theorem dX2_runTo_0 : decode cX2_runTo 0 = .ok (.iconst 0, 1) := by decide +kernel
theorem dX2_runTo_1 : decode cX2_runTo 1 = .ok (.istore_n 2, 1) := by decide +kernel
theorem dX2_runTo_2 : decode cX2_runTo 2 = .ok (.iload_n 2, 1) := by decide +kernel
theorem dX2_runTo_3 : decode cX2_runTo 3 = .ok (.sipush 1000, 3) := by decide +kernel
theorem dX2_runTo_6 : decode cX2_runTo 6 = .ok (.if_icmp .ge 48, 3) := by decide +kernel
theorem dX2_runTo_9 : decode cX2_runTo 9 = .ok (.aload_n 0, 1) := by decide +kernel
theorem dX2_runTo_10 : decode cX2_runTo 10 = .ok (.getfield 32, 3) := by decide +kernel
theorem dX2_runTo_13 : decode cX2_runTo 13 = .ok (.iload_n 1, 1) := by decide +kernel
theorem dX2_runTo_14 : decode cX2_runTo 14 = .ok (.if_icmp .ge 40, 3) := by decide +kernel
theorem dX2_runTo_17 : decode cX2_runTo 17 = .ok (.aload_n 0, 1) := by decide +kernel
theorem dX2_runTo_18 : decode cX2_runTo 18 = .ok (.getfield 36, 3) := by decide +kernel
theorem dX2_runTo_21 : decode cX2_runTo 21 = .ok (.ifCond .ne 33, 3) := by decide +kernel
theorem dX2_runTo_24 : decode cX2_runTo 24 = .ok (.aload_n 0, 1) := by decide +kernel
theorem dX2_runTo_25 : decode cX2_runTo 25 = .ok (.getfield 49, 3) := by decide +kernel
theorem dX2_runTo_28 : decode cX2_runTo 28 = .ok (.iconst (-1), 1) := by decide +kernel
theorem dX2_runTo_29 : decode cX2_runTo 29 = .ok (.if_icmp .ne 7, 3) := by decide +kernel
theorem dX2_runTo_32 : decode cX2_runTo 32 = .ok (.aload_n 0, 1) := by decide +kernel
theorem dX2_runTo_33 : decode cX2_runTo 33 = .ok (.invokevirtual 83, 3) := by decide +kernel
theorem dX2_runTo_36 : decode cX2_runTo 36 = .ok (.aload_n 0, 1) := by decide +kernel
theorem dX2_runTo_37 : decode cX2_runTo 37 = .ok (.getfield 36, 3) := by decide +kernel
theorem dX2_runTo_40 : decode cX2_runTo 40 = .ok (.ifCond .ne 8, 3) := by decide +kernel
theorem dX2_runTo_43 : decode cX2_runTo 43 = .ok (.aload_n 0, 1) := by decide +kernel
theorem dX2_runTo_44 : decode cX2_runTo 44 = .ok (.iload_n 1, 1) := by decide +kernel
theorem dX2_runTo_45 : decode cX2_runTo 45 = .ok (.invokevirtual 86, 3) := by decide +kernel
theorem dX2_runTo_48 : decode cX2_runTo 48 = .ok (.iinc 2 1, 3) := by decide +kernel
theorem dX2_runTo_51 : decode cX2_runTo 51 = .ok (.goto (-49), 3) := by decide +kernel
theorem dX2_runTo_54 : decode cX2_runTo 54 = .ok (.return_, 1) := by decide +kernel
theorem dX2_passAir_0 : decode cX2_passAir 0 = .ok (.aload_n 0, 1) := by decide +kernel
theorem dX2_passAir_1 : decode cX2_passAir 1 = .ok (.getfield 55, 3) := by decide +kernel
theorem dX2_passAir_4 : decode cX2_passAir 4 = .ok (.iload_n 1, 1) := by decide +kernel
theorem dX2_passAir_5 : decode cX2_passAir 5 = .ok (.invokestatic 90, 3) := by decide +kernel
theorem dX2_passAir_8 : decode cX2_passAir 8 = .ok (.istore_n 2, 1) := by decide +kernel
theorem dX2_passAir_9 : decode cX2_passAir 9 = .ok (.aload_n 0, 1) := by decide +kernel
theorem dX2_passAir_10 : decode cX2_passAir 10 = .ok (.getfield 49, 3) := by decide +kernel
theorem dX2_passAir_13 : decode cX2_passAir 13 = .ok (.iconst 2, 1) := by decide +kernel
theorem dX2_passAir_14 : decode cX2_passAir 14 = .ok (.if_icmp .ne 18, 3) := by decide +kernel
theorem dX2_passAir_17 : decode cX2_passAir 17 = .ok (.aload_n 0, 1) := by decide +kernel
theorem dX2_passAir_18 : decode cX2_passAir 18 = .ok (.dup, 1) := by decide +kernel
theorem dX2_passAir_19 : decode cX2_passAir 19 = .ok (.getfield 40, 3) := by decide +kernel
theorem dX2_passAir_22 : decode cX2_passAir 22 = .ok (.iload_n 2, 1) := by decide +kernel
theorem dX2_passAir_23 : decode cX2_passAir 23 = .ok (.aload_n 0, 1) := by decide +kernel
theorem dX2_passAir_24 : decode cX2_passAir 24 = .ok (.getfield 32, 3) := by decide +kernel
theorem dX2_passAir_27 : decode cX2_passAir 27 = .ok (.isub, 1) := by decide +kernel
theorem dX2_passAir_28 : decode cX2_passAir 28 = .ok (.iadd, 1) := by decide +kernel
theorem dX2_passAir_29 : decode cX2_passAir 29 = .ok (.putfield 40, 3) := by decide +kernel
theorem dX2_passAir_32 : decode cX2_passAir 32 = .ok (.aload_n 0, 1) := by decide +kernel
theorem dX2_passAir_33 : decode cX2_passAir 33 = .ok (.iload_n 2, 1) := by decide +kernel
theorem dX2_passAir_34 : decode cX2_passAir 34 = .ok (.putfield 32, 3) := by decide +kernel
theorem dX2_passAir_37 : decode cX2_passAir 37 = .ok (.aload_n 0, 1) := by decide +kernel
theorem dX2_passAir_38 : decode cX2_passAir 38 = .ok (.getfield 32, 3) := by decide +kernel
theorem dX2_passAir_41 : decode cX2_passAir 41 = .ok (.aload_n 0, 1) := by decide +kernel
theorem dX2_passAir_42 : decode cX2_passAir 42 = .ok (.getfield 55, 3) := by decide +kernel
theorem dX2_passAir_45 : decode cX2_passAir 45 = .ok (.if_icmp .lt 7, 3) := by decide +kernel
theorem dX2_passAir_48 : decode cX2_passAir 48 = .ok (.aload_n 0, 1) := by decide +kernel
theorem dX2_passAir_49 : decode cX2_passAir 49 = .ok (.invokevirtual 96, 3) := by decide +kernel
theorem dX2_passAir_52 : decode cX2_passAir 52 = .ok (.return_, 1) := by decide +kernel
theorem dX2_endAir_0 : decode cX2_endAir 0 = .ok (.aload_n 0, 1) := by decide +kernel
theorem dX2_endAir_1 : decode cX2_endAir 1 = .ok (.getfield 49, 3) := by decide +kernel
theorem dX2_endAir_4 : decode cX2_endAir 4 = .ok (.ifCond .ne 30, 3) := by decide +kernel
theorem dX2_endAir_7 : decode cX2_endAir 7 = .ok (.aload_n 0, 1) := by decide +kernel
theorem dX2_endAir_8 : decode cX2_endAir 8 = .ok (.getfield 12, 3) := by decide +kernel
theorem dX2_endAir_11 : decode cX2_endAir 11 = .ok (.aload_n 0, 1) := by decide +kernel
theorem dX2_endAir_12 : decode cX2_endAir 12 = .ok (.getfield 52, 3) := by decide +kernel
theorem dX2_endAir_15 : decode cX2_endAir 15 = .ok (.invokevirtual 99, 3) := by decide +kernel
theorem dX2_endAir_18 : decode cX2_endAir 18 = .ok (.ifCond .eq 16, 3) := by decide +kernel
theorem dX2_endAir_21 : decode cX2_endAir 21 = .ok (.aload_n 0, 1) := by decide +kernel
theorem dX2_endAir_22 : decode cX2_endAir 22 = .ok (.getfield 12, 3) := by decide +kernel
theorem dX2_endAir_25 : decode cX2_endAir 25 = .ok (.getfield 103, 3) := by decide +kernel
theorem dX2_endAir_28 : decode cX2_endAir 28 = .ok (.aload_n 0, 1) := by decide +kernel
theorem dX2_endAir_29 : decode cX2_endAir 29 = .ok (.getfield 52, 3) := by decide +kernel
theorem dX2_endAir_32 : decode cX2_endAir 32 = .ok (.iconst 2, 1) := by decide +kernel
theorem dX2_endAir_33 : decode cX2_endAir 33 = .ok (.iastore, 1) := by decide +kernel
theorem dX2_endAir_34 : decode cX2_endAir 34 = .ok (.aload_n 0, 1) := by decide +kernel
theorem dX2_endAir_35 : decode cX2_endAir 35 = .ok (.getfield 49, 3) := by decide +kernel
theorem dX2_endAir_38 : decode cX2_endAir 38 = .ok (.iconst 1, 1) := by decide +kernel
theorem dX2_endAir_39 : decode cX2_endAir 39 = .ok (.if_icmp .ne 30, 3) := by decide +kernel
theorem dX2_endAir_42 : decode cX2_endAir 42 = .ok (.aload_n 0, 1) := by decide +kernel
theorem dX2_endAir_43 : decode cX2_endAir 43 = .ok (.getfield 21, 3) := by decide +kernel
theorem dX2_endAir_46 : decode cX2_endAir 46 = .ok (.aload_n 0, 1) := by decide +kernel
theorem dX2_endAir_47 : decode cX2_endAir 47 = .ok (.getfield 52, 3) := by decide +kernel
theorem dX2_endAir_50 : decode cX2_endAir 50 = .ok (.invokevirtual 107, 3) := by decide +kernel
theorem dX2_endAir_53 : decode cX2_endAir 53 = .ok (.ifCond .eq 16, 3) := by decide +kernel
theorem dX2_endAir_56 : decode cX2_endAir 56 = .ok (.aload_n 0, 1) := by decide +kernel
theorem dX2_endAir_57 : decode cX2_endAir 57 = .ok (.getfield 21, 3) := by decide +kernel
theorem dX2_endAir_60 : decode cX2_endAir 60 = .ok (.getfield 108, 3) := by decide +kernel
theorem dX2_endAir_63 : decode cX2_endAir 63 = .ok (.aload_n 0, 1) := by decide +kernel
theorem dX2_endAir_64 : decode cX2_endAir 64 = .ok (.getfield 52, 3) := by decide +kernel
theorem dX2_endAir_67 : decode cX2_endAir 67 = .ok (.iconst 2, 1) := by decide +kernel
theorem dX2_endAir_68 : decode cX2_endAir 68 = .ok (.iastore, 1) := by decide +kernel
theorem dX2_endAir_69 : decode cX2_endAir 69 = .ok (.aload_n 0, 1) := by decide +kernel
theorem dX2_endAir_70 : decode cX2_endAir 70 = .ok (.invokevirtual 75, 3) := by decide +kernel
theorem dX2_endAir_73 : decode cX2_endAir 73 = .ok (.return_, 1) := by decide +kernel
theorem dX2_findNext_0 : decode cX2_findNext 0 = .ok (.aload_n 0, 1) := by decide +kernel
theorem dX2_findNext_1 : decode cX2_findNext 1 = .ok (.invokevirtual 109, 3) := by decide +kernel
theorem dX2_findNext_4 : decode cX2_findNext 4 = .ok (.aload_n 0, 1) := by decide +kernel
theorem dX2_findNext_5 : decode cX2_findNext 5 = .ok (.getfield 12, 3) := by decide +kernel
theorem dX2_findNext_8 : decode cX2_findNext 8 = .ok (.invokevirtual 112, 3) := by decide +kernel
theorem dX2_findNext_11 : decode cX2_findNext 11 = .ok (.istore_n 1, 1) := by decide +kernel
theorem dX2_findNext_12 : decode cX2_findNext 12 = .ok (.iload_n 1, 1) := by decide +kernel
theorem dX2_findNext_13 : decode cX2_findNext 13 = .ok (.iconst (-1), 1) := by decide +kernel
theorem dX2_findNext_14 : decode cX2_findNext 14 = .ok (.if_icmp .eq 14, 3) := by decide +kernel
theorem dX2_findNext_17 : decode cX2_findNext 17 = .ok (.aload_n 0, 1) := by decide +kernel
theorem dX2_findNext_18 : decode cX2_findNext 18 = .ok (.getfield 12, 3) := by decide +kernel
theorem dX2_findNext_21 : decode cX2_findNext 21 = .ok (.iload_n 1, 1) := by decide +kernel
theorem dX2_findNext_22 : decode cX2_findNext 22 = .ok (.invokevirtual 116, 3) := by decide +kernel
theorem dX2_findNext_25 : decode cX2_findNext 25 = .ok (.ifCond .eq 7, 3) := by decide +kernel
theorem dX2_findNext_28 : decode cX2_findNext 28 = .ok (.iconst 1, 1) := by decide +kernel
theorem dX2_findNext_29 : decode cX2_findNext 29 = .ok (.goto 4, 3) := by decide +kernel
theorem dX2_findNext_32 : decode cX2_findNext 32 = .ok (.iconst 0, 1) := by decide +kernel
theorem dX2_findNext_33 : decode cX2_findNext 33 = .ok (.istore_n 2, 1) := by decide +kernel
theorem dX2_findNext_34 : decode cX2_findNext 34 = .ok (.aload_n 0, 1) := by decide +kernel
theorem dX2_findNext_35 : decode cX2_findNext 35 = .ok (.getfield 12, 3) := by decide +kernel
theorem dX2_findNext_38 : decode cX2_findNext 38 = .ok (.invokevirtual 119, 3) := by decide +kernel
theorem dX2_findNext_41 : decode cX2_findNext 41 = .ok (.istore_n 3, 1) := by decide +kernel
theorem dX2_findNext_42 : decode cX2_findNext 42 = .ok (.iload_n 2, 1) := by decide +kernel
theorem dX2_findNext_43 : decode cX2_findNext 43 = .ok (.ifCond .eq 19, 3) := by decide +kernel
theorem dX2_findNext_46 : decode cX2_findNext 46 = .ok (.iload_n 3, 1) := by decide +kernel
theorem dX2_findNext_47 : decode cX2_findNext 47 = .ok (.aload_n 0, 1) := by decide +kernel
theorem dX2_findNext_48 : decode cX2_findNext 48 = .ok (.getfield 32, 3) := by decide +kernel
theorem dX2_findNext_51 : decode cX2_findNext 51 = .ok (.if_icmp .le 11, 3) := by decide +kernel
theorem dX2_findNext_54 : decode cX2_findNext 54 = .ok (.aload_n 0, 1) := by decide +kernel
theorem dX2_findNext_55 : decode cX2_findNext 55 = .ok (.iload_n 3, 1) := by decide +kernel
theorem dX2_findNext_56 : decode cX2_findNext 56 = .ok (.invokevirtual 122, 3) := by decide +kernel
theorem dX2_findNext_59 : decode cX2_findNext 59 = .ok (.goto 21, 3) := by decide +kernel
theorem dX2_findNext_62 : decode cX2_findNext 62 = .ok (.iload_n 1, 1) := by decide +kernel
theorem dX2_findNext_63 : decode cX2_findNext 63 = .ok (.iconst (-1), 1) := by decide +kernel
theorem dX2_findNext_64 : decode cX2_findNext 64 = .ok (.if_icmp .ne 11, 3) := by decide +kernel
theorem dX2_findNext_67 : decode cX2_findNext 67 = .ok (.aload_n 0, 1) := by decide +kernel
theorem dX2_findNext_68 : decode cX2_findNext 68 = .ok (.iconst 1, 1) := by decide +kernel
theorem dX2_findNext_69 : decode cX2_findNext 69 = .ok (.putfield 36, 3) := by decide +kernel
theorem dX2_findNext_72 : decode cX2_findNext 72 = .ok (.goto 8, 3) := by decide +kernel
theorem dX2_findNext_75 : decode cX2_findNext 75 = .ok (.aload_n 0, 1) := by decide +kernel
theorem dX2_findNext_76 : decode cX2_findNext 76 = .ok (.iload_n 1, 1) := by decide +kernel
theorem dX2_findNext_77 : decode cX2_findNext 77 = .ok (.invokevirtual 125, 3) := by decide +kernel
theorem dX2_findNext_80 : decode cX2_findNext 80 = .ok (.return_, 1) := by decide +kernel
theorem dX2_dropForTime_0 : decode cX2_dropForTime 0 = .ok (.iconst 0, 1) := by decide +kernel
theorem dX2_dropForTime_1 : decode cX2_dropForTime 1 = .ok (.istore_n 1, 1) := by decide +kernel
theorem dX2_dropForTime_2 : decode cX2_dropForTime 2 = .ok (.iload_n 1, 1) := by decide +kernel
theorem dX2_dropForTime_3 : decode cX2_dropForTime 3 = .ok (.bipush 12, 2) := by decide +kernel
theorem dX2_dropForTime_5 : decode cX2_dropForTime 5 = .ok (.if_icmp .ge 50, 3) := by decide +kernel
theorem dX2_dropForTime_8 : decode cX2_dropForTime 8 = .ok (.aload_n 0, 1) := by decide +kernel
theorem dX2_dropForTime_9 : decode cX2_dropForTime 9 = .ok (.getfield 12, 3) := by decide +kernel
theorem dX2_dropForTime_12 : decode cX2_dropForTime 12 = .ok (.invokevirtual 128, 3) := by decide +kernel
theorem dX2_dropForTime_15 : decode cX2_dropForTime 15 = .ok (.istore_n 2, 1) := by decide +kernel
theorem dX2_dropForTime_16 : decode cX2_dropForTime 16 = .ok (.iload_n 2, 1) := by decide +kernel
theorem dX2_dropForTime_17 : decode cX2_dropForTime 17 = .ok (.iconst (-1), 1) := by decide +kernel
theorem dX2_dropForTime_18 : decode cX2_dropForTime 18 = .ok (.if_icmp .eq 25, 3) := by decide +kernel
theorem dX2_dropForTime_21 : decode cX2_dropForTime 21 = .ok (.aload_n 0, 1) := by decide +kernel
theorem dX2_dropForTime_22 : decode cX2_dropForTime 22 = .ok (.getfield 32, 3) := by decide +kernel
theorem dX2_dropForTime_25 : decode cX2_dropForTime 25 = .ok (.aload_n 0, 1) := by decide +kernel
theorem dX2_dropForTime_26 : decode cX2_dropForTime 26 = .ok (.getfield 12, 3) := by decide +kernel
theorem dX2_dropForTime_29 : decode cX2_dropForTime 29 = .ok (.invokevirtual 131, 3) := by decide +kernel
theorem dX2_dropForTime_32 : decode cX2_dropForTime 32 = .ok (.iadd, 1) := by decide +kernel
theorem dX2_dropForTime_33 : decode cX2_dropForTime 33 = .ok (.aload_n 0, 1) := by decide +kernel
theorem dX2_dropForTime_34 : decode cX2_dropForTime 34 = .ok (.getfield 12, 3) := by decide +kernel
theorem dX2_dropForTime_37 : decode cX2_dropForTime 37 = .ok (.invokevirtual 119, 3) := by decide +kernel
theorem dX2_dropForTime_40 : decode cX2_dropForTime 40 = .ok (.if_icmp .gt 4, 3) := by decide +kernel
theorem dX2_dropForTime_43 : decode cX2_dropForTime 43 = .ok (.return_, 1) := by decide +kernel
theorem dX2_dropForTime_44 : decode cX2_dropForTime 44 = .ok (.aload_n 0, 1) := by decide +kernel
theorem dX2_dropForTime_45 : decode cX2_dropForTime 45 = .ok (.iload_n 2, 1) := by decide +kernel
theorem dX2_dropForTime_46 : decode cX2_dropForTime 46 = .ok (.invokevirtual 134, 3) := by decide +kernel
theorem dX2_dropForTime_49 : decode cX2_dropForTime 49 = .ok (.iinc 1 1, 3) := by decide +kernel
theorem dX2_dropForTime_52 : decode cX2_dropForTime 52 = .ok (.goto (-50), 3) := by decide +kernel
theorem dX2_dropForTime_55 : decode cX2_dropForTime 55 = .ok (.return_, 1) := by decide +kernel
theorem dX2_dropElement_0 : decode cX2_dropElement 0 = .ok (.aload_n 0, 1) := by decide +kernel
theorem dX2_dropElement_1 : decode cX2_dropElement 1 = .ok (.getfield 12, 3) := by decide +kernel
theorem dX2_dropElement_4 : decode cX2_dropElement 4 = .ok (.iload_n 1, 1) := by decide +kernel
theorem dX2_dropElement_5 : decode cX2_dropElement 5 = .ok (.invokevirtual 99, 3) := by decide +kernel
theorem dX2_dropElement_8 : decode cX2_dropElement 8 = .ok (.ifCond .eq 26, 3) := by decide +kernel
theorem dX2_dropElement_11 : decode cX2_dropElement 11 = .ok (.aload_n 0, 1) := by decide +kernel
theorem dX2_dropElement_12 : decode cX2_dropElement 12 = .ok (.getfield 12, 3) := by decide +kernel
theorem dX2_dropElement_15 : decode cX2_dropElement 15 = .ok (.getfield 103, 3) := by decide +kernel
theorem dX2_dropElement_18 : decode cX2_dropElement 18 = .ok (.iload_n 1, 1) := by decide +kernel
theorem dX2_dropElement_19 : decode cX2_dropElement 19 = .ok (.iconst 3, 1) := by decide +kernel
theorem dX2_dropElement_20 : decode cX2_dropElement 20 = .ok (.iastore, 1) := by decide +kernel
theorem dX2_dropElement_21 : decode cX2_dropElement 21 = .ok (.aload_n 0, 1) := by decide +kernel
theorem dX2_dropElement_22 : decode cX2_dropElement 22 = .ok (.getfield 28, 3) := by decide +kernel
theorem dX2_dropElement_25 : decode cX2_dropElement 25 = .ok (.aload_n 0, 1) := by decide +kernel
theorem dX2_dropElement_26 : decode cX2_dropElement 26 = .ok (.getfield 32, 3) := by decide +kernel
theorem dX2_dropElement_29 : decode cX2_dropElement 29 = .ok (.iconst 3, 1) := by decide +kernel
theorem dX2_dropElement_30 : decode cX2_dropElement 30 = .ok (.iload_n 1, 1) := by decide +kernel
theorem dX2_dropElement_31 : decode cX2_dropElement 31 = .ok (.invokevirtual 137, 3) := by decide +kernel
theorem dX2_dropElement_34 : decode cX2_dropElement 34 = .ok (.return_, 1) := by decide +kernel
theorem dX2_fillGap_0 : decode cX2_fillGap 0 = .ok (.aload_n 0, 1) := by decide +kernel
theorem dX2_fillGap_1 : decode cX2_fillGap 1 = .ok (.getfield 21, 3) := by decide +kernel
theorem dX2_fillGap_4 : decode cX2_fillGap 4 = .ok (.iload_n 1, 1) := by decide +kernel
theorem dX2_fillGap_5 : decode cX2_fillGap 5 = .ok (.aload_n 0, 1) := by decide +kernel
theorem dX2_fillGap_6 : decode cX2_fillGap 6 = .ok (.getfield 32, 3) := by decide +kernel
theorem dX2_fillGap_9 : decode cX2_fillGap 9 = .ok (.isub, 1) := by decide +kernel
theorem dX2_fillGap_10 : decode cX2_fillGap 10 = .ok (.invokevirtual 141, 3) := by decide +kernel
theorem dX2_fillGap_13 : decode cX2_fillGap 13 = .ok (.istore_n 2, 1) := by decide +kernel
theorem dX2_fillGap_14 : decode cX2_fillGap 14 = .ok (.iload_n 2, 1) := by decide +kernel
theorem dX2_fillGap_15 : decode cX2_fillGap 15 = .ok (.invokestatic 145, 3) := by decide +kernel
theorem dX2_fillGap_18 : decode cX2_fillGap 18 = .ok (.istore_n 3, 1) := by decide +kernel
theorem dX2_fillGap_19 : decode cX2_fillGap 19 = .ok (.iload_n 2, 1) := by decide +kernel
theorem dX2_fillGap_20 : decode cX2_fillGap 20 = .ok (.ifCond .eq 60, 3) := by decide +kernel
theorem dX2_fillGap_23 : decode cX2_fillGap 23 = .ok (.aload_n 0, 1) := by decide +kernel
theorem dX2_fillGap_24 : decode cX2_fillGap 24 = .ok (.getfield 21, 3) := by decide +kernel
theorem dX2_fillGap_27 : decode cX2_fillGap 27 = .ok (.iload_n 3, 1) := by decide +kernel
theorem dX2_fillGap_28 : decode cX2_fillGap 28 = .ok (.invokevirtual 107, 3) := by decide +kernel
theorem dX2_fillGap_31 : decode cX2_fillGap 31 = .ok (.ifCond .eq 49, 3) := by decide +kernel
theorem dX2_fillGap_34 : decode cX2_fillGap 34 = .ok (.aload_n 0, 1) := by decide +kernel
theorem dX2_fillGap_35 : decode cX2_fillGap 35 = .ok (.getfield 21, 3) := by decide +kernel
theorem dX2_fillGap_38 : decode cX2_fillGap 38 = .ok (.getfield 108, 3) := by decide +kernel
theorem dX2_fillGap_41 : decode cX2_fillGap 41 = .ok (.iload_n 3, 1) := by decide +kernel
theorem dX2_fillGap_42 : decode cX2_fillGap 42 = .ok (.iconst 1, 1) := by decide +kernel
theorem dX2_fillGap_43 : decode cX2_fillGap 43 = .ok (.iastore, 1) := by decide +kernel
theorem dX2_fillGap_44 : decode cX2_fillGap 44 = .ok (.aload_n 0, 1) := by decide +kernel
theorem dX2_fillGap_45 : decode cX2_fillGap 45 = .ok (.getfield 21, 3) := by decide +kernel
theorem dX2_fillGap_48 : decode cX2_fillGap 48 = .ok (.getfield 150, 3) := by decide +kernel
theorem dX2_fillGap_51 : decode cX2_fillGap 51 = .ok (.iload_n 3, 1) := by decide +kernel
theorem dX2_fillGap_52 : decode cX2_fillGap 52 = .ok (.aload_n 0, 1) := by decide +kernel
theorem dX2_fillGap_53 : decode cX2_fillGap 53 = .ok (.getfield 32, 3) := by decide +kernel
theorem dX2_fillGap_56 : decode cX2_fillGap 56 = .ok (.iastore, 1) := by decide +kernel
theorem dX2_fillGap_57 : decode cX2_fillGap 57 = .ok (.aload_n 0, 1) := by decide +kernel
theorem dX2_fillGap_58 : decode cX2_fillGap 58 = .ok (.iconst 1, 1) := by decide +kernel
theorem dX2_fillGap_59 : decode cX2_fillGap 59 = .ok (.iload_n 3, 1) := by decide +kernel
theorem dX2_fillGap_60 : decode cX2_fillGap 60 = .ok (.aload_n 0, 1) := by decide +kernel
theorem dX2_fillGap_61 : decode cX2_fillGap 61 = .ok (.getfield 32, 3) := by decide +kernel
theorem dX2_fillGap_64 : decode cX2_fillGap 64 = .ok (.aload_n 0, 1) := by decide +kernel
theorem dX2_fillGap_65 : decode cX2_fillGap 65 = .ok (.getfield 21, 3) := by decide +kernel
theorem dX2_fillGap_68 : decode cX2_fillGap 68 = .ok (.getfield 153, 3) := by decide +kernel
theorem dX2_fillGap_71 : decode cX2_fillGap 71 = .ok (.iload_n 3, 1) := by decide +kernel
theorem dX2_fillGap_72 : decode cX2_fillGap 72 = .ok (.iaload, 1) := by decide +kernel
theorem dX2_fillGap_73 : decode cX2_fillGap 73 = .ok (.iadd, 1) := by decide +kernel
theorem dX2_fillGap_74 : decode cX2_fillGap 74 = .ok (.invokevirtual 156, 3) := by decide +kernel
theorem dX2_fillGap_77 : decode cX2_fillGap 77 = .ok (.goto 10, 3) := by decide +kernel
theorem dX2_fillGap_80 : decode cX2_fillGap 80 = .ok (.aload_n 0, 1) := by decide +kernel
theorem dX2_fillGap_81 : decode cX2_fillGap 81 = .ok (.iconst 2, 1) := by decide +kernel
theorem dX2_fillGap_82 : decode cX2_fillGap 82 = .ok (.iconst (-1), 1) := by decide +kernel
theorem dX2_fillGap_83 : decode cX2_fillGap 83 = .ok (.iload_n 1, 1) := by decide +kernel
theorem dX2_fillGap_84 : decode cX2_fillGap 84 = .ok (.invokevirtual 156, 3) := by decide +kernel
theorem dX2_fillGap_87 : decode cX2_fillGap 87 = .ok (.return_, 1) := by decide +kernel
theorem dX2_beginElement_0 : decode cX2_beginElement 0 = .ok (.aload_n 0, 1) := by decide +kernel
theorem dX2_beginElement_1 : decode cX2_beginElement 1 = .ok (.getfield 12, 3) := by decide +kernel
theorem dX2_beginElement_4 : decode cX2_beginElement 4 = .ok (.iload_n 1, 1) := by decide +kernel
theorem dX2_beginElement_5 : decode cX2_beginElement 5 = .ok (.invokevirtual 99, 3) := by decide +kernel
theorem dX2_beginElement_8 : decode cX2_beginElement 8 = .ok (.ifCond .ne 4, 3) := by decide +kernel
theorem dX2_beginElement_11 : decode cX2_beginElement 11 = .ok (.return_, 1) := by decide +kernel
theorem dX2_beginElement_12 : decode cX2_beginElement 12 = .ok (.aload_n 0, 1) := by decide +kernel
theorem dX2_beginElement_13 : decode cX2_beginElement 13 = .ok (.getfield 12, 3) := by decide +kernel
theorem dX2_beginElement_16 : decode cX2_beginElement 16 = .ok (.getfield 103, 3) := by decide +kernel
theorem dX2_beginElement_19 : decode cX2_beginElement 19 = .ok (.iload_n 1, 1) := by decide +kernel
theorem dX2_beginElement_20 : decode cX2_beginElement 20 = .ok (.iconst 1, 1) := by decide +kernel
theorem dX2_beginElement_21 : decode cX2_beginElement 21 = .ok (.iastore, 1) := by decide +kernel
theorem dX2_beginElement_22 : decode cX2_beginElement 22 = .ok (.aload_n 0, 1) := by decide +kernel
theorem dX2_beginElement_23 : decode cX2_beginElement 23 = .ok (.getfield 12, 3) := by decide +kernel
theorem dX2_beginElement_26 : decode cX2_beginElement 26 = .ok (.getfield 159, 3) := by decide +kernel
theorem dX2_beginElement_29 : decode cX2_beginElement 29 = .ok (.iload_n 1, 1) := by decide +kernel
theorem dX2_beginElement_30 : decode cX2_beginElement 30 = .ok (.aload_n 0, 1) := by decide +kernel
theorem dX2_beginElement_31 : decode cX2_beginElement 31 = .ok (.getfield 32, 3) := by decide +kernel
theorem dX2_beginElement_34 : decode cX2_beginElement 34 = .ok (.iastore, 1) := by decide +kernel
theorem dX2_beginElement_35 : decode cX2_beginElement 35 = .ok (.aload_n 0, 1) := by decide +kernel
theorem dX2_beginElement_36 : decode cX2_beginElement 36 = .ok (.aload_n 0, 1) := by decide +kernel
theorem dX2_beginElement_37 : decode cX2_beginElement 37 = .ok (.getfield 43, 3) := by decide +kernel
theorem dX2_beginElement_40 : decode cX2_beginElement 40 = .ok (.aload_n 0, 1) := by decide +kernel
theorem dX2_beginElement_41 : decode cX2_beginElement 41 = .ok (.getfield 12, 3) := by decide +kernel
theorem dX2_beginElement_44 : decode cX2_beginElement 44 = .ok (.iload_n 1, 1) := by decide +kernel
theorem dX2_beginElement_45 : decode cX2_beginElement 45 = .ok (.invokevirtual 160, 3) := by decide +kernel
theorem dX2_beginElement_48 : decode cX2_beginElement 48 = .ok (.invokestatic 163, 3) := by decide +kernel
theorem dX2_beginElement_51 : decode cX2_beginElement 51 = .ok (.putfield 43, 3) := by decide +kernel
theorem dX2_beginElement_54 : decode cX2_beginElement 54 = .ok (.aload_n 0, 1) := by decide +kernel
theorem dX2_beginElement_55 : decode cX2_beginElement 55 = .ok (.iconst 0, 1) := by decide +kernel
theorem dX2_beginElement_56 : decode cX2_beginElement 56 = .ok (.iload_n 1, 1) := by decide +kernel
theorem dX2_beginElement_57 : decode cX2_beginElement 57 = .ok (.aload_n 0, 1) := by decide +kernel
theorem dX2_beginElement_58 : decode cX2_beginElement 58 = .ok (.getfield 32, 3) := by decide +kernel
theorem dX2_beginElement_61 : decode cX2_beginElement 61 = .ok (.aload_n 0, 1) := by decide +kernel
theorem dX2_beginElement_62 : decode cX2_beginElement 62 = .ok (.getfield 12, 3) := by decide +kernel
theorem dX2_beginElement_65 : decode cX2_beginElement 65 = .ok (.getfield 166, 3) := by decide +kernel
theorem dX2_beginElement_68 : decode cX2_beginElement 68 = .ok (.iload_n 1, 1) := by decide +kernel
theorem dX2_beginElement_69 : decode cX2_beginElement 69 = .ok (.iaload, 1) := by decide +kernel
theorem dX2_beginElement_70 : decode cX2_beginElement 70 = .ok (.iadd, 1) := by decide +kernel
theorem dX2_beginElement_71 : decode cX2_beginElement 71 = .ok (.invokevirtual 156, 3) := by decide +kernel
theorem dX2_beginElement_74 : decode cX2_beginElement 74 = .ok (.return_, 1) := by decide +kernel
theorem dX2_putOnAir_0 : decode cX2_putOnAir 0 = .ok (.aload_n 0, 1) := by decide +kernel
theorem dX2_putOnAir_1 : decode cX2_putOnAir 1 = .ok (.iload_n 1, 1) := by decide +kernel
theorem dX2_putOnAir_2 : decode cX2_putOnAir 2 = .ok (.putfield 49, 3) := by decide +kernel
theorem dX2_putOnAir_5 : decode cX2_putOnAir 5 = .ok (.aload_n 0, 1) := by decide +kernel
theorem dX2_putOnAir_6 : decode cX2_putOnAir 6 = .ok (.iload_n 2, 1) := by decide +kernel
theorem dX2_putOnAir_7 : decode cX2_putOnAir 7 = .ok (.putfield 52, 3) := by decide +kernel
theorem dX2_putOnAir_10 : decode cX2_putOnAir 10 = .ok (.aload_n 0, 1) := by decide +kernel
theorem dX2_putOnAir_11 : decode cX2_putOnAir 11 = .ok (.iload_n 3, 1) := by decide +kernel
theorem dX2_putOnAir_12 : decode cX2_putOnAir 12 = .ok (.putfield 55, 3) := by decide +kernel
theorem dX2_putOnAir_15 : decode cX2_putOnAir 15 = .ok (.aload_n 0, 1) := by decide +kernel
theorem dX2_putOnAir_16 : decode cX2_putOnAir 16 = .ok (.getfield 28, 3) := by decide +kernel
theorem dX2_putOnAir_19 : decode cX2_putOnAir 19 = .ok (.aload_n 0, 1) := by decide +kernel
theorem dX2_putOnAir_20 : decode cX2_putOnAir 20 = .ok (.getfield 32, 3) := by decide +kernel
theorem dX2_putOnAir_23 : decode cX2_putOnAir 23 = .ok (.iload_n 1, 1) := by decide +kernel
theorem dX2_putOnAir_24 : decode cX2_putOnAir 24 = .ok (.iload_n 2, 1) := by decide +kernel
theorem dX2_putOnAir_25 : decode cX2_putOnAir 25 = .ok (.invokevirtual 137, 3) := by decide +kernel
theorem dX2_putOnAir_28 : decode cX2_putOnAir 28 = .ok (.return_, 1) := by decide +kernel
theorem dX2_canHaveLength_0 : decode cX2_canHaveLength 0 = .ok (.iload_n 2, 1) := by decide +kernel
theorem dX2_canHaveLength_1 : decode cX2_canHaveLength 1 = .ok (.iconst 1, 1) := by decide +kernel
theorem dX2_canHaveLength_2 : decode cX2_canHaveLength 2 = .ok (.if_icmp .lt 10, 3) := by decide +kernel
theorem dX2_canHaveLength_5 : decode cX2_canHaveLength 5 = .ok (.iload_n 2, 1) := by decide +kernel
theorem dX2_canHaveLength_6 : decode cX2_canHaveLength 6 = .ok (.sipush 3600, 3) := by decide +kernel
theorem dX2_canHaveLength_9 : decode cX2_canHaveLength 9 = .ok (.if_icmp .le 5, 3) := by decide +kernel
theorem dX2_canHaveLength_12 : decode cX2_canHaveLength 12 = .ok (.iconst 0, 1) := by decide +kernel
theorem dX2_canHaveLength_13 : decode cX2_canHaveLength 13 = .ok (.ireturn, 1) := by decide +kernel
theorem dX2_canHaveLength_14 : decode cX2_canHaveLength 14 = .ok (.aload_n 0, 1) := by decide +kernel
theorem dX2_canHaveLength_15 : decode cX2_canHaveLength 15 = .ok (.getfield 12, 3) := by decide +kernel
theorem dX2_canHaveLength_18 : decode cX2_canHaveLength 18 = .ok (.iload_n 1, 1) := by decide +kernel
theorem dX2_canHaveLength_19 : decode cX2_canHaveLength 19 = .ok (.iconst 1, 1) := by decide +kernel
theorem dX2_canHaveLength_20 : decode cX2_canHaveLength 20 = .ok (.invokevirtual 167, 3) := by decide +kernel
theorem dX2_canHaveLength_23 : decode cX2_canHaveLength 23 = .ok (.ifCond .eq 26, 3) := by decide +kernel
theorem dX2_canHaveLength_26 : decode cX2_canHaveLength 26 = .ok (.aload_n 0, 1) := by decide +kernel
theorem dX2_canHaveLength_27 : decode cX2_canHaveLength 27 = .ok (.getfield 12, 3) := by decide +kernel
theorem dX2_canHaveLength_30 : decode cX2_canHaveLength 30 = .ok (.iload_n 1, 1) := by decide +kernel
theorem dX2_canHaveLength_31 : decode cX2_canHaveLength 31 = .ok (.invokevirtual 171, 3) := by decide +kernel
theorem dX2_canHaveLength_34 : decode cX2_canHaveLength 34 = .ok (.iload_n 2, 1) := by decide +kernel
theorem dX2_canHaveLength_35 : decode cX2_canHaveLength 35 = .ok (.iadd, 1) := by decide +kernel
theorem dX2_canHaveLength_36 : decode cX2_canHaveLength 36 = .ok (.aload_n 0, 1) := by decide +kernel
theorem dX2_canHaveLength_37 : decode cX2_canHaveLength 37 = .ok (.getfield 32, 3) := by decide +kernel
theorem dX2_canHaveLength_40 : decode cX2_canHaveLength 40 = .ok (.if_icmp .lt 7, 3) := by decide +kernel
theorem dX2_canHaveLength_43 : decode cX2_canHaveLength 43 = .ok (.iconst 1, 1) := by decide +kernel
theorem dX2_canHaveLength_44 : decode cX2_canHaveLength 44 = .ok (.goto 4, 3) := by decide +kernel
theorem dX2_canHaveLength_47 : decode cX2_canHaveLength 47 = .ok (.iconst 0, 1) := by decide +kernel
theorem dX2_canHaveLength_48 : decode cX2_canHaveLength 48 = .ok (.ireturn, 1) := by decide +kernel
theorem dX2_canHaveLength_49 : decode cX2_canHaveLength 49 = .ok (.aload_n 0, 1) := by decide +kernel
theorem dX2_canHaveLength_50 : decode cX2_canHaveLength 50 = .ok (.getfield 12, 3) := by decide +kernel
theorem dX2_canHaveLength_53 : decode cX2_canHaveLength 53 = .ok (.iload_n 1, 1) := by decide +kernel
theorem dX2_canHaveLength_54 : decode cX2_canHaveLength 54 = .ok (.invokevirtual 174, 3) := by decide +kernel
theorem dX2_canHaveLength_57 : decode cX2_canHaveLength 57 = .ok (.ireturn, 1) := by decide +kernel
theorem dX2_giveLength_0 : decode cX2_giveLength 0 = .ok (.aload_n 0, 1) := by decide +kernel
theorem dX2_giveLength_1 : decode cX2_giveLength 1 = .ok (.getfield 12, 3) := by decide +kernel
theorem dX2_giveLength_4 : decode cX2_giveLength 4 = .ok (.iload_n 1, 1) := by decide +kernel
theorem dX2_giveLength_5 : decode cX2_giveLength 5 = .ok (.invokevirtual 99, 3) := by decide +kernel
theorem dX2_giveLength_8 : decode cX2_giveLength 8 = .ok (.ifCond .ne 4, 3) := by decide +kernel
theorem dX2_giveLength_11 : decode cX2_giveLength 11 = .ok (.return_, 1) := by decide +kernel
theorem dX2_giveLength_12 : decode cX2_giveLength 12 = .ok (.aload_n 0, 1) := by decide +kernel
theorem dX2_giveLength_13 : decode cX2_giveLength 13 = .ok (.getfield 12, 3) := by decide +kernel
theorem dX2_giveLength_16 : decode cX2_giveLength 16 = .ok (.getfield 166, 3) := by decide +kernel
theorem dX2_giveLength_19 : decode cX2_giveLength 19 = .ok (.iload_n 1, 1) := by decide +kernel
theorem dX2_giveLength_20 : decode cX2_giveLength 20 = .ok (.iload_n 2, 1) := by decide +kernel
theorem dX2_giveLength_21 : decode cX2_giveLength 21 = .ok (.iastore, 1) := by decide +kernel
theorem dX2_giveLength_22 : decode cX2_giveLength 22 = .ok (.aload_n 0, 1) := by decide +kernel
theorem dX2_giveLength_23 : decode cX2_giveLength 23 = .ok (.getfield 12, 3) := by decide +kernel
theorem dX2_giveLength_26 : decode cX2_giveLength 26 = .ok (.iload_n 1, 1) := by decide +kernel
theorem dX2_giveLength_27 : decode cX2_giveLength 27 = .ok (.iconst 1, 1) := by decide +kernel
theorem dX2_giveLength_28 : decode cX2_giveLength 28 = .ok (.invokevirtual 167, 3) := by decide +kernel
theorem dX2_giveLength_31 : decode cX2_giveLength 31 = .ok (.ifCond .eq 32, 3) := by decide +kernel
theorem dX2_giveLength_34 : decode cX2_giveLength 34 = .ok (.aload_n 0, 1) := by decide +kernel
theorem dX2_giveLength_35 : decode cX2_giveLength 35 = .ok (.aload_n 0, 1) := by decide +kernel
theorem dX2_giveLength_36 : decode cX2_giveLength 36 = .ok (.getfield 12, 3) := by decide +kernel
theorem dX2_giveLength_39 : decode cX2_giveLength 39 = .ok (.iload_n 1, 1) := by decide +kernel
theorem dX2_giveLength_40 : decode cX2_giveLength 40 = .ok (.invokevirtual 171, 3) := by decide +kernel
theorem dX2_giveLength_43 : decode cX2_giveLength 43 = .ok (.iload_n 2, 1) := by decide +kernel
theorem dX2_giveLength_44 : decode cX2_giveLength 44 = .ok (.iadd, 1) := by decide +kernel
theorem dX2_giveLength_45 : decode cX2_giveLength 45 = .ok (.putfield 55, 3) := by decide +kernel
theorem dX2_giveLength_48 : decode cX2_giveLength 48 = .ok (.aload_n 0, 1) := by decide +kernel
theorem dX2_giveLength_49 : decode cX2_giveLength 49 = .ok (.getfield 55, 3) := by decide +kernel
theorem dX2_giveLength_52 : decode cX2_giveLength 52 = .ok (.aload_n 0, 1) := by decide +kernel
theorem dX2_giveLength_53 : decode cX2_giveLength 53 = .ok (.getfield 32, 3) := by decide +kernel
theorem dX2_giveLength_56 : decode cX2_giveLength 56 = .ok (.if_icmp .gt 7, 3) := by decide +kernel
theorem dX2_giveLength_59 : decode cX2_giveLength 59 = .ok (.aload_n 0, 1) := by decide +kernel
theorem dX2_giveLength_60 : decode cX2_giveLength 60 = .ok (.invokevirtual 96, 3) := by decide +kernel
theorem dX2_giveLength_63 : decode cX2_giveLength 63 = .ok (.return_, 1) := by decide +kernel
theorem dX2_tell_0 : decode cX2_tell 0 = .ok (.iload_n 1, 1) := by decide +kernel
theorem dX2_tell_1 : decode cX2_tell 1 = .ok (.tableswitch 178 0 12 #[67, 75, 83, 88, 101, 110, 119, 127, 132, 140, 160, 165, 173], 67) := by decide +kernel
theorem dX2_tell_68 : decode cX2_tell 68 = .ok (.aload_n 0, 1) := by decide +kernel
theorem dX2_tell_69 : decode cX2_tell 69 = .ok (.getfield 12, 3) := by decide +kernel
theorem dX2_tell_72 : decode cX2_tell 72 = .ok (.getfield 78, 3) := by decide +kernel
theorem dX2_tell_75 : decode cX2_tell 75 = .ok (.ireturn, 1) := by decide +kernel
theorem dX2_tell_76 : decode cX2_tell 76 = .ok (.aload_n 0, 1) := by decide +kernel
theorem dX2_tell_77 : decode cX2_tell 77 = .ok (.getfield 21, 3) := by decide +kernel
theorem dX2_tell_80 : decode cX2_tell 80 = .ok (.getfield 79, 3) := by decide +kernel
theorem dX2_tell_83 : decode cX2_tell 83 = .ok (.ireturn, 1) := by decide +kernel
theorem dX2_tell_84 : decode cX2_tell 84 = .ok (.aload_n 0, 1) := by decide +kernel
theorem dX2_tell_85 : decode cX2_tell 85 = .ok (.getfield 32, 3) := by decide +kernel
theorem dX2_tell_88 : decode cX2_tell 88 = .ok (.ireturn, 1) := by decide +kernel
theorem dX2_tell_89 : decode cX2_tell 89 = .ok (.aload_n 0, 1) := by decide +kernel
theorem dX2_tell_90 : decode cX2_tell 90 = .ok (.getfield 36, 3) := by decide +kernel
theorem dX2_tell_93 : decode cX2_tell 93 = .ok (.ifCond .eq 7, 3) := by decide +kernel
theorem dX2_tell_96 : decode cX2_tell 96 = .ok (.iconst 1, 1) := by decide +kernel
theorem dX2_tell_97 : decode cX2_tell 97 = .ok (.goto 4, 3) := by decide +kernel
theorem dX2_tell_100 : decode cX2_tell 100 = .ok (.iconst 0, 1) := by decide +kernel
theorem dX2_tell_101 : decode cX2_tell 101 = .ok (.ireturn, 1) := by decide +kernel
theorem dX2_tell_102 : decode cX2_tell 102 = .ok (.aload_n 0, 1) := by decide +kernel
theorem dX2_tell_103 : decode cX2_tell 103 = .ok (.getfield 12, 3) := by decide +kernel
theorem dX2_tell_106 : decode cX2_tell 106 = .ok (.iconst 0, 1) := by decide +kernel
theorem dX2_tell_107 : decode cX2_tell 107 = .ok (.invokevirtual 177, 3) := by decide +kernel
theorem dX2_tell_110 : decode cX2_tell 110 = .ok (.ireturn, 1) := by decide +kernel
theorem dX2_tell_111 : decode cX2_tell 111 = .ok (.aload_n 0, 1) := by decide +kernel
theorem dX2_tell_112 : decode cX2_tell 112 = .ok (.getfield 12, 3) := by decide +kernel
theorem dX2_tell_115 : decode cX2_tell 115 = .ok (.iconst 3, 1) := by decide +kernel
theorem dX2_tell_116 : decode cX2_tell 116 = .ok (.invokevirtual 177, 3) := by decide +kernel
theorem dX2_tell_119 : decode cX2_tell 119 = .ok (.ireturn, 1) := by decide +kernel
theorem dX2_tell_120 : decode cX2_tell 120 = .ok (.aload_n 0, 1) := by decide +kernel
theorem dX2_tell_121 : decode cX2_tell 121 = .ok (.getfield 21, 3) := by decide +kernel
theorem dX2_tell_124 : decode cX2_tell 124 = .ok (.invokevirtual 180, 3) := by decide +kernel
theorem dX2_tell_127 : decode cX2_tell 127 = .ok (.ireturn, 1) := by decide +kernel
theorem dX2_tell_128 : decode cX2_tell 128 = .ok (.aload_n 0, 1) := by decide +kernel
theorem dX2_tell_129 : decode cX2_tell 129 = .ok (.getfield 40, 3) := by decide +kernel
theorem dX2_tell_132 : decode cX2_tell 132 = .ok (.ireturn, 1) := by decide +kernel
theorem dX2_tell_133 : decode cX2_tell 133 = .ok (.aload_n 0, 1) := by decide +kernel
theorem dX2_tell_134 : decode cX2_tell 134 = .ok (.getfield 12, 3) := by decide +kernel
theorem dX2_tell_137 : decode cX2_tell 137 = .ok (.invokevirtual 119, 3) := by decide +kernel
theorem dX2_tell_140 : decode cX2_tell 140 = .ok (.ireturn, 1) := by decide +kernel
theorem dX2_tell_141 : decode cX2_tell 141 = .ok (.aload_n 0, 1) := by decide +kernel
theorem dX2_tell_142 : decode cX2_tell 142 = .ok (.getfield 36, 3) := by decide +kernel
theorem dX2_tell_145 : decode cX2_tell 145 = .ok (.ifCond .eq 14, 3) := by decide +kernel
theorem dX2_tell_148 : decode cX2_tell 148 = .ok (.aload_n 0, 1) := by decide +kernel
theorem dX2_tell_149 : decode cX2_tell 149 = .ok (.getfield 32, 3) := by decide +kernel
theorem dX2_tell_152 : decode cX2_tell 152 = .ok (.sipush 3600, 3) := by decide +kernel
theorem dX2_tell_155 : decode cX2_tell 155 = .ok (.isub, 1) := by decide +kernel
theorem dX2_tell_156 : decode cX2_tell 156 = .ok (.goto 4, 3) := by decide +kernel
theorem dX2_tell_159 : decode cX2_tell 159 = .ok (.iconst (-1), 1) := by decide +kernel
theorem dX2_tell_160 : decode cX2_tell 160 = .ok (.ireturn, 1) := by decide +kernel
theorem dX2_tell_161 : decode cX2_tell 161 = .ok (.aload_n 0, 1) := by decide +kernel
theorem dX2_tell_162 : decode cX2_tell 162 = .ok (.getfield 43, 3) := by decide +kernel
theorem dX2_tell_165 : decode cX2_tell 165 = .ok (.ireturn, 1) := by decide +kernel
theorem dX2_tell_166 : decode cX2_tell 166 = .ok (.aload_n 0, 1) := by decide +kernel
theorem dX2_tell_167 : decode cX2_tell 167 = .ok (.getfield 28, 3) := by decide +kernel
theorem dX2_tell_170 : decode cX2_tell 170 = .ok (.getfield 72, 3) := by decide +kernel
theorem dX2_tell_173 : decode cX2_tell 173 = .ok (.ireturn, 1) := by decide +kernel
theorem dX2_tell_174 : decode cX2_tell 174 = .ok (.aload_n 0, 1) := by decide +kernel
theorem dX2_tell_175 : decode cX2_tell 175 = .ok (.getfield 46, 3) := by decide +kernel
theorem dX2_tell_178 : decode cX2_tell 178 = .ok (.ireturn, 1) := by decide +kernel
theorem dX2_tell_179 : decode cX2_tell 179 = .ok (.aload_n 0, 1) := by decide +kernel
theorem dX2_tell_180 : decode cX2_tell 180 = .ok (.getfield 49, 3) := by decide +kernel
theorem dX2_tell_183 : decode cX2_tell 183 = .ok (.iconst (-1), 1) := by decide +kernel
theorem dX2_tell_184 : decode cX2_tell 184 = .ok (.if_icmp .ne 7, 3) := by decide +kernel
theorem dX2_tell_187 : decode cX2_tell 187 = .ok (.iconst 0, 1) := by decide +kernel
theorem dX2_tell_188 : decode cX2_tell 188 = .ok (.goto 12, 3) := by decide +kernel
theorem dX2_tell_191 : decode cX2_tell 191 = .ok (.aload_n 0, 1) := by decide +kernel
theorem dX2_tell_192 : decode cX2_tell 192 = .ok (.getfield 55, 3) := by decide +kernel
theorem dX2_tell_195 : decode cX2_tell 195 = .ok (.aload_n 0, 1) := by decide +kernel
theorem dX2_tell_196 : decode cX2_tell 196 = .ok (.getfield 32, 3) := by decide +kernel
theorem dX2_tell_199 : decode cX2_tell 199 = .ok (.isub, 1) := by decide +kernel
theorem dX2_tell_200 : decode cX2_tell 200 = .ok (.ireturn, 1) := by decide +kernel
theorem dX3_init_0 : decode cX3_init 0 = .ok (.aload_n 0, 1) := by decide +kernel
theorem dX3_init_1 : decode cX3_init 1 = .ok (.invokespecial 3, 3) := by decide +kernel
theorem dX3_init_4 : decode cX3_init 4 = .ok (.aload_n 0, 1) := by decide +kernel
theorem dX3_init_5 : decode cX3_init 5 = .ok (.iconst 0, 1) := by decide +kernel
theorem dX3_init_6 : decode cX3_init 6 = .ok (.putfield 9, 3) := by decide +kernel
theorem dX3_init_9 : decode cX3_init 9 = .ok (.aload_n 0, 1) := by decide +kernel
theorem dX3_init_10 : decode cX3_init 10 = .ok (.bipush 35, 2) := by decide +kernel
theorem dX3_init_12 : decode cX3_init 12 = .ok (.newarray .int, 2) := by decide +kernel
theorem dX3_init_14 : decode cX3_init 14 = .ok (.putfield 15, 3) := by decide +kernel
theorem dX3_init_17 : decode cX3_init 17 = .ok (.aload_n 0, 1) := by decide +kernel
theorem dX3_init_18 : decode cX3_init 18 = .ok (.bipush 35, 2) := by decide +kernel
theorem dX3_init_20 : decode cX3_init 20 = .ok (.newarray .int, 2) := by decide +kernel
theorem dX3_init_22 : decode cX3_init 22 = .ok (.putfield 19, 3) := by decide +kernel
theorem dX3_init_25 : decode cX3_init 25 = .ok (.aload_n 0, 1) := by decide +kernel
theorem dX3_init_26 : decode cX3_init 26 = .ok (.bipush 35, 2) := by decide +kernel
theorem dX3_init_28 : decode cX3_init 28 = .ok (.newarray .int, 2) := by decide +kernel
theorem dX3_init_30 : decode cX3_init 30 = .ok (.putfield 22, 3) := by decide +kernel
theorem dX3_init_33 : decode cX3_init 33 = .ok (.return_, 1) := by decide +kernel
theorem dX3_copyFrom_0 : decode cX3_copyFrom 0 = .ok (.aload_n 0, 1) := by decide +kernel
theorem dX3_copyFrom_1 : decode cX3_copyFrom 1 = .ok (.aload_n 1, 1) := by decide +kernel
theorem dX3_copyFrom_2 : decode cX3_copyFrom 2 = .ok (.getfield 9, 3) := by decide +kernel
theorem dX3_copyFrom_5 : decode cX3_copyFrom 5 = .ok (.putfield 9, 3) := by decide +kernel
theorem dX3_copyFrom_8 : decode cX3_copyFrom 8 = .ok (.aload_n 1, 1) := by decide +kernel
theorem dX3_copyFrom_9 : decode cX3_copyFrom 9 = .ok (.getfield 15, 3) := by decide +kernel
theorem dX3_copyFrom_12 : decode cX3_copyFrom 12 = .ok (.iconst 0, 1) := by decide +kernel
theorem dX3_copyFrom_13 : decode cX3_copyFrom 13 = .ok (.aload_n 0, 1) := by decide +kernel
theorem dX3_copyFrom_14 : decode cX3_copyFrom 14 = .ok (.getfield 15, 3) := by decide +kernel
theorem dX3_copyFrom_17 : decode cX3_copyFrom 17 = .ok (.iconst 0, 1) := by decide +kernel
theorem dX3_copyFrom_18 : decode cX3_copyFrom 18 = .ok (.bipush 35, 2) := by decide +kernel
theorem dX3_copyFrom_20 : decode cX3_copyFrom 20 = .ok (.invokestatic 25, 3) := by decide +kernel
theorem dX3_copyFrom_23 : decode cX3_copyFrom 23 = .ok (.aload_n 1, 1) := by decide +kernel
theorem dX3_copyFrom_24 : decode cX3_copyFrom 24 = .ok (.getfield 19, 3) := by decide +kernel
theorem dX3_copyFrom_27 : decode cX3_copyFrom 27 = .ok (.iconst 0, 1) := by decide +kernel
theorem dX3_copyFrom_28 : decode cX3_copyFrom 28 = .ok (.aload_n 0, 1) := by decide +kernel
theorem dX3_copyFrom_29 : decode cX3_copyFrom 29 = .ok (.getfield 19, 3) := by decide +kernel
theorem dX3_copyFrom_32 : decode cX3_copyFrom 32 = .ok (.iconst 0, 1) := by decide +kernel
theorem dX3_copyFrom_33 : decode cX3_copyFrom 33 = .ok (.bipush 35, 2) := by decide +kernel
theorem dX3_copyFrom_35 : decode cX3_copyFrom 35 = .ok (.invokestatic 25, 3) := by decide +kernel
theorem dX3_copyFrom_38 : decode cX3_copyFrom 38 = .ok (.aload_n 1, 1) := by decide +kernel
theorem dX3_copyFrom_39 : decode cX3_copyFrom 39 = .ok (.getfield 22, 3) := by decide +kernel
theorem dX3_copyFrom_42 : decode cX3_copyFrom 42 = .ok (.iconst 0, 1) := by decide +kernel
theorem dX3_copyFrom_43 : decode cX3_copyFrom 43 = .ok (.aload_n 0, 1) := by decide +kernel
theorem dX3_copyFrom_44 : decode cX3_copyFrom 44 = .ok (.getfield 22, 3) := by decide +kernel
theorem dX3_copyFrom_47 : decode cX3_copyFrom 47 = .ok (.iconst 0, 1) := by decide +kernel
theorem dX3_copyFrom_48 : decode cX3_copyFrom 48 = .ok (.bipush 35, 2) := by decide +kernel
theorem dX3_copyFrom_50 : decode cX3_copyFrom 50 = .ok (.invokestatic 25, 3) := by decide +kernel
theorem dX3_copyFrom_53 : decode cX3_copyFrom 53 = .ok (.return_, 1) := by decide +kernel
theorem dX3_add_0 : decode cX3_add 0 = .ok (.aload_n 0, 1) := by decide +kernel
theorem dX3_add_1 : decode cX3_add 1 = .ok (.getfield 9, 3) := by decide +kernel
theorem dX3_add_4 : decode cX3_add 4 = .ok (.bipush 35, 2) := by decide +kernel
theorem dX3_add_6 : decode cX3_add 6 = .ok (.if_icmp .lt 4, 3) := by decide +kernel
theorem dX3_add_9 : decode cX3_add 9 = .ok (.return_, 1) := by decide +kernel
theorem dX3_add_10 : decode cX3_add 10 = .ok (.aload_n 0, 1) := by decide +kernel
theorem dX3_add_11 : decode cX3_add 11 = .ok (.getfield 15, 3) := by decide +kernel
theorem dX3_add_14 : decode cX3_add 14 = .ok (.aload_n 0, 1) := by decide +kernel
theorem dX3_add_15 : decode cX3_add 15 = .ok (.getfield 9, 3) := by decide +kernel
theorem dX3_add_18 : decode cX3_add 18 = .ok (.iload_n 1, 1) := by decide +kernel
theorem dX3_add_19 : decode cX3_add 19 = .ok (.iastore, 1) := by decide +kernel
theorem dX3_add_20 : decode cX3_add 20 = .ok (.aload_n 0, 1) := by decide +kernel
theorem dX3_add_21 : decode cX3_add 21 = .ok (.getfield 19, 3) := by decide +kernel
theorem dX3_add_24 : decode cX3_add 24 = .ok (.aload_n 0, 1) := by decide +kernel
theorem dX3_add_25 : decode cX3_add 25 = .ok (.getfield 9, 3) := by decide +kernel
theorem dX3_add_28 : decode cX3_add 28 = .ok (.iload_n 2, 1) := by decide +kernel
theorem dX3_add_29 : decode cX3_add 29 = .ok (.iastore, 1) := by decide +kernel
theorem dX3_add_30 : decode cX3_add 30 = .ok (.aload_n 0, 1) := by decide +kernel
theorem dX3_add_31 : decode cX3_add 31 = .ok (.getfield 22, 3) := by decide +kernel
theorem dX3_add_34 : decode cX3_add 34 = .ok (.aload_n 0, 1) := by decide +kernel
theorem dX3_add_35 : decode cX3_add 35 = .ok (.getfield 9, 3) := by decide +kernel
theorem dX3_add_38 : decode cX3_add 38 = .ok (.iload_n 3, 1) := by decide +kernel
theorem dX3_add_39 : decode cX3_add 39 = .ok (.iastore, 1) := by decide +kernel
theorem dX3_add_40 : decode cX3_add 40 = .ok (.aload_n 0, 1) := by decide +kernel
theorem dX3_add_41 : decode cX3_add 41 = .ok (.dup, 1) := by decide +kernel
theorem dX3_add_42 : decode cX3_add 42 = .ok (.getfield 9, 3) := by decide +kernel
theorem dX3_add_45 : decode cX3_add 45 = .ok (.iconst 1, 1) := by decide +kernel
theorem dX3_add_46 : decode cX3_add 46 = .ok (.iadd, 1) := by decide +kernel
theorem dX3_add_47 : decode cX3_add 47 = .ok (.putfield 9, 3) := by decide +kernel
theorem dX3_add_50 : decode cX3_add 50 = .ok (.return_, 1) := by decide +kernel
theorem dX3_has_0 : decode cX3_has 0 = .ok (.iload_n 1, 1) := by decide +kernel
theorem dX3_has_1 : decode cX3_has 1 = .ok (.ifCond .lt 15, 3) := by decide +kernel
theorem dX3_has_4 : decode cX3_has 4 = .ok (.iload_n 1, 1) := by decide +kernel
theorem dX3_has_5 : decode cX3_has 5 = .ok (.aload_n 0, 1) := by decide +kernel
theorem dX3_has_6 : decode cX3_has 6 = .ok (.getfield 9, 3) := by decide +kernel
theorem dX3_has_9 : decode cX3_has 9 = .ok (.if_icmp .ge 7, 3) := by decide +kernel
theorem dX3_has_12 : decode cX3_has 12 = .ok (.iconst 1, 1) := by decide +kernel
theorem dX3_has_13 : decode cX3_has 13 = .ok (.goto 4, 3) := by decide +kernel
theorem dX3_has_16 : decode cX3_has 16 = .ok (.iconst 0, 1) := by decide +kernel
theorem dX3_has_17 : decode cX3_has 17 = .ok (.ireturn, 1) := by decide +kernel
theorem dX3_tell_0 : decode cX3_tell 0 = .ok (.aload_n 0, 1) := by decide +kernel
theorem dX3_tell_1 : decode cX3_tell 1 = .ok (.iload_n 1, 1) := by decide +kernel
theorem dX3_tell_2 : decode cX3_tell 2 = .ok (.invokevirtual 31, 3) := by decide +kernel
theorem dX3_tell_5 : decode cX3_tell 5 = .ok (.ifCond .ne 5, 3) := by decide +kernel
theorem dX3_tell_8 : decode cX3_tell 8 = .ok (.iconst (-1), 1) := by decide +kernel
theorem dX3_tell_9 : decode cX3_tell 9 = .ok (.ireturn, 1) := by decide +kernel
theorem dX3_tell_10 : decode cX3_tell 10 = .ok (.iload_n 2, 1) := by decide +kernel
theorem dX3_tell_11 : decode cX3_tell 11 = .ok (.lookupswitch 39 #[(0, 25), (1, 32)], 25) := by decide +kernel
theorem dX3_tell_36 : decode cX3_tell 36 = .ok (.aload_n 0, 1) := by decide +kernel
theorem dX3_tell_37 : decode cX3_tell 37 = .ok (.getfield 15, 3) := by decide +kernel
theorem dX3_tell_40 : decode cX3_tell 40 = .ok (.iload_n 1, 1) := by decide +kernel
theorem dX3_tell_41 : decode cX3_tell 41 = .ok (.iaload, 1) := by decide +kernel
theorem dX3_tell_42 : decode cX3_tell 42 = .ok (.ireturn, 1) := by decide +kernel
theorem dX3_tell_43 : decode cX3_tell 43 = .ok (.aload_n 0, 1) := by decide +kernel
theorem dX3_tell_44 : decode cX3_tell 44 = .ok (.getfield 19, 3) := by decide +kernel
theorem dX3_tell_47 : decode cX3_tell 47 = .ok (.iload_n 1, 1) := by decide +kernel
theorem dX3_tell_48 : decode cX3_tell 48 = .ok (.iaload, 1) := by decide +kernel
theorem dX3_tell_49 : decode cX3_tell 49 = .ok (.ireturn, 1) := by decide +kernel
theorem dX3_tell_50 : decode cX3_tell 50 = .ok (.aload_n 0, 1) := by decide +kernel
theorem dX3_tell_51 : decode cX3_tell 51 = .ok (.getfield 22, 3) := by decide +kernel
theorem dX3_tell_54 : decode cX3_tell 54 = .ok (.iload_n 1, 1) := by decide +kernel
theorem dX3_tell_55 : decode cX3_tell 55 = .ok (.iaload, 1) := by decide +kernel
theorem dX3_tell_56 : decode cX3_tell 56 = .ok (.ireturn, 1) := by decide +kernel
theorem dX4_init_0 : decode cX4_init 0 = .ok (.aload_n 0, 1) := by decide +kernel
theorem dX4_init_1 : decode cX4_init 1 = .ok (.invokespecial 3, 3) := by decide +kernel
theorem dX4_init_4 : decode cX4_init 4 = .ok (.aload_n 0, 1) := by decide +kernel
theorem dX4_init_5 : decode cX4_init 5 = .ok (.bipush 10, 2) := by decide +kernel
theorem dX4_init_7 : decode cX4_init 7 = .ok (.newarray .int, 2) := by decide +kernel
theorem dX4_init_9 : decode cX4_init 9 = .ok (.putfield 9, 3) := by decide +kernel
theorem dX4_init_12 : decode cX4_init 12 = .ok (.aload_n 0, 1) := by decide +kernel
theorem dX4_init_13 : decode cX4_init 13 = .ok (.bipush 10, 2) := by decide +kernel
theorem dX4_init_15 : decode cX4_init 15 = .ok (.newarray .int, 2) := by decide +kernel
theorem dX4_init_17 : decode cX4_init 17 = .ok (.putfield 15, 3) := by decide +kernel
theorem dX4_init_20 : decode cX4_init 20 = .ok (.aload_n 0, 1) := by decide +kernel
theorem dX4_init_21 : decode cX4_init 21 = .ok (.iconst 0, 1) := by decide +kernel
theorem dX4_init_22 : decode cX4_init 22 = .ok (.putfield 18, 3) := by decide +kernel
theorem dX4_init_25 : decode cX4_init 25 = .ok (.aload_n 0, 1) := by decide +kernel
theorem dX4_init_26 : decode cX4_init 26 = .ok (.iconst 0, 1) := by decide +kernel
theorem dX4_init_27 : decode cX4_init 27 = .ok (.putfield 22, 3) := by decide +kernel
theorem dX4_init_30 : decode cX4_init 30 = .ok (.aload_n 0, 1) := by decide +kernel
theorem dX4_init_31 : decode cX4_init 31 = .ok (.iconst 0, 1) := by decide +kernel
theorem dX4_init_32 : decode cX4_init 32 = .ok (.putfield 25, 3) := by decide +kernel
theorem dX4_init_35 : decode cX4_init 35 = .ok (.aload_n 0, 1) := by decide +kernel
theorem dX4_init_36 : decode cX4_init 36 = .ok (.iconst 0, 1) := by decide +kernel
theorem dX4_init_37 : decode cX4_init 37 = .ok (.putfield 28, 3) := by decide +kernel
theorem dX4_init_40 : decode cX4_init 40 = .ok (.return_, 1) := by decide +kernel
theorem dX4_begin_0 : decode cX4_begin 0 = .ok (.aload_n 0, 1) := by decide +kernel
theorem dX4_begin_1 : decode cX4_begin 1 = .ok (.iconst 0, 1) := by decide +kernel
theorem dX4_begin_2 : decode cX4_begin 2 = .ok (.putfield 18, 3) := by decide +kernel
theorem dX4_begin_5 : decode cX4_begin 5 = .ok (.aload_n 0, 1) := by decide +kernel
theorem dX4_begin_6 : decode cX4_begin 6 = .ok (.iconst 0, 1) := by decide +kernel
theorem dX4_begin_7 : decode cX4_begin 7 = .ok (.putfield 22, 3) := by decide +kernel
theorem dX4_begin_10 : decode cX4_begin 10 = .ok (.aload_n 0, 1) := by decide +kernel
theorem dX4_begin_11 : decode cX4_begin 11 = .ok (.iconst 0, 1) := by decide +kernel
theorem dX4_begin_12 : decode cX4_begin 12 = .ok (.putfield 25, 3) := by decide +kernel
theorem dX4_begin_15 : decode cX4_begin 15 = .ok (.aload_n 0, 1) := by decide +kernel
theorem dX4_begin_16 : decode cX4_begin 16 = .ok (.iconst 0, 1) := by decide +kernel
theorem dX4_begin_17 : decode cX4_begin 17 = .ok (.putfield 28, 3) := by decide +kernel
theorem dX4_begin_20 : decode cX4_begin 20 = .ok (.iconst 0, 1) := by decide +kernel
theorem dX4_begin_21 : decode cX4_begin 21 = .ok (.istore_n 2, 1) := by decide +kernel
theorem dX4_begin_22 : decode cX4_begin 22 = .ok (.iload_n 2, 1) := by decide +kernel
theorem dX4_begin_23 : decode cX4_begin 23 = .ok (.aload_n 1, 1) := by decide +kernel
theorem dX4_begin_24 : decode cX4_begin 24 = .ok (.getfield 31, 3) := by decide +kernel
theorem dX4_begin_27 : decode cX4_begin 27 = .ok (.if_icmp .ge 62, 3) := by decide +kernel
theorem dX4_begin_30 : decode cX4_begin 30 = .ok (.aload_n 0, 1) := by decide +kernel
theorem dX4_begin_31 : decode cX4_begin 31 = .ok (.getfield 18, 3) := by decide +kernel
theorem dX4_begin_34 : decode cX4_begin 34 = .ok (.bipush 10, 2) := by decide +kernel
theorem dX4_begin_36 : decode cX4_begin 36 = .ok (.if_icmp .ge 53, 3) := by decide +kernel
theorem dX4_begin_39 : decode cX4_begin 39 = .ok (.aload_n 1, 1) := by decide +kernel
theorem dX4_begin_40 : decode cX4_begin 40 = .ok (.getfield 34, 3) := by decide +kernel
theorem dX4_begin_43 : decode cX4_begin 43 = .ok (.iload_n 2, 1) := by decide +kernel
theorem dX4_begin_44 : decode cX4_begin 44 = .ok (.iaload, 1) := by decide +kernel
theorem dX4_begin_45 : decode cX4_begin 45 = .ok (.ifCond .ne 38, 3) := by decide +kernel
theorem dX4_begin_48 : decode cX4_begin 48 = .ok (.aload_n 0, 1) := by decide +kernel
theorem dX4_begin_49 : decode cX4_begin 49 = .ok (.getfield 9, 3) := by decide +kernel
theorem dX4_begin_52 : decode cX4_begin 52 = .ok (.aload_n 0, 1) := by decide +kernel
theorem dX4_begin_53 : decode cX4_begin 53 = .ok (.getfield 18, 3) := by decide +kernel
theorem dX4_begin_56 : decode cX4_begin 56 = .ok (.iload_n 2, 1) := by decide +kernel
theorem dX4_begin_57 : decode cX4_begin 57 = .ok (.iastore, 1) := by decide +kernel
theorem dX4_begin_58 : decode cX4_begin 58 = .ok (.aload_n 0, 1) := by decide +kernel
theorem dX4_begin_59 : decode cX4_begin 59 = .ok (.getfield 15, 3) := by decide +kernel
theorem dX4_begin_62 : decode cX4_begin 62 = .ok (.aload_n 0, 1) := by decide +kernel
theorem dX4_begin_63 : decode cX4_begin 63 = .ok (.getfield 18, 3) := by decide +kernel
theorem dX4_begin_66 : decode cX4_begin 66 = .ok (.aload_n 1, 1) := by decide +kernel
theorem dX4_begin_67 : decode cX4_begin 67 = .ok (.getfield 37, 3) := by decide +kernel
theorem dX4_begin_70 : decode cX4_begin 70 = .ok (.iload_n 2, 1) := by decide +kernel
theorem dX4_begin_71 : decode cX4_begin 71 = .ok (.iaload, 1) := by decide +kernel
theorem dX4_begin_72 : decode cX4_begin 72 = .ok (.iastore, 1) := by decide +kernel
theorem dX4_begin_73 : decode cX4_begin 73 = .ok (.aload_n 0, 1) := by decide +kernel
theorem dX4_begin_74 : decode cX4_begin 74 = .ok (.dup, 1) := by decide +kernel
theorem dX4_begin_75 : decode cX4_begin 75 = .ok (.getfield 18, 3) := by decide +kernel
theorem dX4_begin_78 : decode cX4_begin 78 = .ok (.iconst 1, 1) := by decide +kernel
theorem dX4_begin_79 : decode cX4_begin 79 = .ok (.iadd, 1) := by decide +kernel
theorem dX4_begin_80 : decode cX4_begin 80 = .ok (.putfield 18, 3) := by decide +kernel
theorem dX4_begin_83 : decode cX4_begin 83 = .ok (.iinc 2 1, 3) := by decide +kernel
theorem dX4_begin_86 : decode cX4_begin 86 = .ok (.goto (-64), 3) := by decide +kernel
theorem dX4_begin_89 : decode cX4_begin 89 = .ok (.iconst 1, 1) := by decide +kernel
theorem dX4_begin_90 : decode cX4_begin 90 = .ok (.aload_n 0, 1) := by decide +kernel
theorem dX4_begin_91 : decode cX4_begin 91 = .ok (.getfield 18, 3) := by decide +kernel
theorem dX4_begin_94 : decode cX4_begin 94 = .ok (.ishl, 1) := by decide +kernel
theorem dX4_begin_95 : decode cX4_begin 95 = .ok (.ireturn, 1) := by decide +kernel
theorem dX4_go_0 : decode cX4_go 0 = .ok (.iload_n 1, 1) := by decide +kernel
theorem dX4_go_1 : decode cX4_go 1 = .ok (.invokestatic 38, 3) := by decide +kernel
theorem dX4_go_4 : decode cX4_go 4 = .ok (.istore_n 2, 1) := by decide +kernel
theorem dX4_go_5 : decode cX4_go 5 = .ok (.iload_n 2, 1) := by decide +kernel
theorem dX4_go_6 : decode cX4_go 6 = .ok (.aload_n 0, 1) := by decide +kernel
theorem dX4_go_7 : decode cX4_go 7 = .ok (.getfield 18, 3) := by decide +kernel
theorem dX4_go_10 : decode cX4_go 10 = .ok (.if_icmp .lt 4, 3) := by decide +kernel
theorem dX4_go_13 : decode cX4_go 13 = .ok (.return_, 1) := by decide +kernel
theorem dX4_go_14 : decode cX4_go 14 = .ok (.iconst 1, 1) := by decide +kernel
theorem dX4_go_15 : decode cX4_go 15 = .ok (.aload_n 0, 1) := by decide +kernel
theorem dX4_go_16 : decode cX4_go 16 = .ok (.getfield 9, 3) := by decide +kernel
theorem dX4_go_19 : decode cX4_go 19 = .ok (.iload_n 2, 1) := by decide +kernel
theorem dX4_go_20 : decode cX4_go 20 = .ok (.iaload, 1) := by decide +kernel
theorem dX4_go_21 : decode cX4_go 21 = .ok (.ishl, 1) := by decide +kernel
theorem dX4_go_22 : decode cX4_go 22 = .ok (.istore_n 3, 1) := by decide +kernel
theorem dX4_go_23 : decode cX4_go 23 = .ok (.aload_n 0, 1) := by decide +kernel
theorem dX4_go_24 : decode cX4_go 24 = .ok (.dup, 1) := by decide +kernel
theorem dX4_go_25 : decode cX4_go 25 = .ok (.getfield 22, 3) := by decide +kernel
theorem dX4_go_28 : decode cX4_go 28 = .ok (.iload_n 3, 1) := by decide +kernel
theorem dX4_go_29 : decode cX4_go 29 = .ok (.ixor, 1) := by decide +kernel
theorem dX4_go_30 : decode cX4_go 30 = .ok (.putfield 22, 3) := by decide +kernel
theorem dX4_go_33 : decode cX4_go 33 = .ok (.aload_n 0, 1) := by decide +kernel
theorem dX4_go_34 : decode cX4_go 34 = .ok (.getfield 22, 3) := by decide +kernel
theorem dX4_go_37 : decode cX4_go 37 = .ok (.iload_n 3, 1) := by decide +kernel
theorem dX4_go_38 : decode cX4_go 38 = .ok (.iand, 1) := by decide +kernel
theorem dX4_go_39 : decode cX4_go 39 = .ok (.ifCond .eq 7, 3) := by decide +kernel
theorem dX4_go_42 : decode cX4_go 42 = .ok (.iconst 1, 1) := by decide +kernel
theorem dX4_go_43 : decode cX4_go 43 = .ok (.goto 4, 3) := by decide +kernel
theorem dX4_go_46 : decode cX4_go 46 = .ok (.iconst 0, 1) := by decide +kernel
theorem dX4_go_47 : decode cX4_go 47 = .ok (.istore 4, 2) := by decide +kernel
theorem dX4_go_49 : decode cX4_go 49 = .ok (.aload_n 0, 1) := by decide +kernel
theorem dX4_go_50 : decode cX4_go 50 = .ok (.dup, 1) := by decide +kernel
theorem dX4_go_51 : decode cX4_go 51 = .ok (.getfield 25, 3) := by decide +kernel
theorem dX4_go_54 : decode cX4_go 54 = .ok (.iload 4, 2) := by decide +kernel
theorem dX4_go_56 : decode cX4_go 56 = .ok (.ifCond .eq 12, 3) := by decide +kernel
theorem dX4_go_59 : decode cX4_go 59 = .ok (.aload_n 0, 1) := by decide +kernel
theorem dX4_go_60 : decode cX4_go 60 = .ok (.getfield 15, 3) := by decide +kernel
theorem dX4_go_63 : decode cX4_go 63 = .ok (.iload_n 2, 1) := by decide +kernel
theorem dX4_go_64 : decode cX4_go 64 = .ok (.iaload, 1) := by decide +kernel
theorem dX4_go_65 : decode cX4_go 65 = .ok (.goto 10, 3) := by decide +kernel
theorem dX4_go_68 : decode cX4_go 68 = .ok (.aload_n 0, 1) := by decide +kernel
theorem dX4_go_69 : decode cX4_go 69 = .ok (.getfield 15, 3) := by decide +kernel
theorem dX4_go_72 : decode cX4_go 72 = .ok (.iload_n 2, 1) := by decide +kernel
theorem dX4_go_73 : decode cX4_go 73 = .ok (.iaload, 1) := by decide +kernel
theorem dX4_go_74 : decode cX4_go 74 = .ok (.ineg, 1) := by decide +kernel
theorem dX4_go_75 : decode cX4_go 75 = .ok (.iadd, 1) := by decide +kernel
theorem dX4_go_76 : decode cX4_go 76 = .ok (.putfield 25, 3) := by decide +kernel
theorem dX4_go_79 : decode cX4_go 79 = .ok (.aload_n 0, 1) := by decide +kernel
theorem dX4_go_80 : decode cX4_go 80 = .ok (.dup, 1) := by decide +kernel
theorem dX4_go_81 : decode cX4_go 81 = .ok (.getfield 28, 3) := by decide +kernel
theorem dX4_go_84 : decode cX4_go 84 = .ok (.iload 4, 2) := by decide +kernel
theorem dX4_go_86 : decode cX4_go 86 = .ok (.ifCond .eq 7, 3) := by decide +kernel
theorem dX4_go_89 : decode cX4_go 89 = .ok (.iconst 1, 1) := by decide +kernel
theorem dX4_go_90 : decode cX4_go 90 = .ok (.goto 4, 3) := by decide +kernel
theorem dX4_go_93 : decode cX4_go 93 = .ok (.iconst (-1), 1) := by decide +kernel
theorem dX4_go_94 : decode cX4_go 94 = .ok (.iadd, 1) := by decide +kernel
theorem dX4_go_95 : decode cX4_go 95 = .ok (.putfield 28, 3) := by decide +kernel
theorem dX4_go_98 : decode cX4_go 98 = .ok (.return_, 1) := by decide +kernel
theorem dX5_init_0 : decode cX5_init 0 = .ok (.aload_n 0, 1) := by decide +kernel
theorem dX5_init_1 : decode cX5_init 1 = .ok (.invokespecial 3, 3) := by decide +kernel
theorem dX5_init_4 : decode cX5_init 4 = .ok (.aload_n 0, 1) := by decide +kernel
theorem dX5_init_5 : decode cX5_init 5 = .ok (.bipush 100, 2) := by decide +kernel
theorem dX5_init_7 : decode cX5_init 7 = .ok (.newarray .int, 2) := by decide +kernel
theorem dX5_init_9 : decode cX5_init 9 = .ok (.putfield 9, 3) := by decide +kernel
theorem dX5_init_12 : decode cX5_init 12 = .ok (.aload_n 0, 1) := by decide +kernel
theorem dX5_init_13 : decode cX5_init 13 = .ok (.iconst 0, 1) := by decide +kernel
theorem dX5_init_14 : decode cX5_init 14 = .ok (.putfield 15, 3) := by decide +kernel
theorem dX5_init_17 : decode cX5_init 17 = .ok (.aload_n 0, 1) := by decide +kernel
theorem dX5_init_18 : decode cX5_init 18 = .ok (.iconst 0, 1) := by decide +kernel
theorem dX5_init_19 : decode cX5_init 19 = .ok (.putfield 19, 3) := by decide +kernel
theorem dX5_init_22 : decode cX5_init 22 = .ok (.aload_n 0, 1) := by decide +kernel
theorem dX5_init_23 : decode cX5_init 23 = .ok (.iconst (-1), 1) := by decide +kernel
theorem dX5_init_24 : decode cX5_init 24 = .ok (.putfield 22, 3) := by decide +kernel
theorem dX5_init_27 : decode cX5_init 27 = .ok (.return_, 1) := by decide +kernel
theorem dJ6_numberOfTrailingZeros_0f7a4_0 : decode cJ6_numberOfTrailingZeros_0f7a4 0 = .ok (.iload_n 0, 1) := by decide +kernel
theorem dJ6_numberOfTrailingZeros_0f7a4_1 : decode cJ6_numberOfTrailingZeros_0f7a4 1 = .ok (.iconst (-1), 1) := by decide +kernel
theorem dJ6_numberOfTrailingZeros_0f7a4_2 : decode cJ6_numberOfTrailingZeros_0f7a4 2 = .ok (.ixor, 1) := by decide +kernel
theorem dJ6_numberOfTrailingZeros_0f7a4_3 : decode cJ6_numberOfTrailingZeros_0f7a4 3 = .ok (.iload_n 0, 1) := by decide +kernel
theorem dJ6_numberOfTrailingZeros_0f7a4_4 : decode cJ6_numberOfTrailingZeros_0f7a4 4 = .ok (.iconst 1, 1) := by decide +kernel
theorem dJ6_numberOfTrailingZeros_0f7a4_5 : decode cJ6_numberOfTrailingZeros_0f7a4 5 = .ok (.isub, 1) := by decide +kernel
theorem dJ6_numberOfTrailingZeros_0f7a4_6 : decode cJ6_numberOfTrailingZeros_0f7a4 6 = .ok (.iand, 1) := by decide +kernel
theorem dJ6_numberOfTrailingZeros_0f7a4_7 : decode cJ6_numberOfTrailingZeros_0f7a4 7 = .ok (.istore_n 0, 1) := by decide +kernel
theorem dJ6_numberOfTrailingZeros_0f7a4_8 : decode cJ6_numberOfTrailingZeros_0f7a4 8 = .ok (.iload_n 0, 1) := by decide +kernel
theorem dJ6_numberOfTrailingZeros_0f7a4_9 : decode cJ6_numberOfTrailingZeros_0f7a4 9 = .ok (.ifCond .gt 8, 3) := by decide +kernel
theorem dJ6_numberOfTrailingZeros_0f7a4_12 : decode cJ6_numberOfTrailingZeros_0f7a4 12 = .ok (.iload_n 0, 1) := by decide +kernel
theorem dJ6_numberOfTrailingZeros_0f7a4_13 : decode cJ6_numberOfTrailingZeros_0f7a4 13 = .ok (.bipush 32, 2) := by decide +kernel
theorem dJ6_numberOfTrailingZeros_0f7a4_15 : decode cJ6_numberOfTrailingZeros_0f7a4 15 = .ok (.iand, 1) := by decide +kernel
theorem dJ6_numberOfTrailingZeros_0f7a4_16 : decode cJ6_numberOfTrailingZeros_0f7a4 16 = .ok (.ireturn, 1) := by decide +kernel
theorem dJ6_numberOfTrailingZeros_0f7a4_17 : decode cJ6_numberOfTrailingZeros_0f7a4 17 = .ok (.iconst 1, 1) := by decide +kernel
theorem dJ6_numberOfTrailingZeros_0f7a4_18 : decode cJ6_numberOfTrailingZeros_0f7a4 18 = .ok (.istore_n 1, 1) := by decide +kernel
theorem dJ6_numberOfTrailingZeros_0f7a4_19 : decode cJ6_numberOfTrailingZeros_0f7a4 19 = .ok (.iload_n 0, 1) := by decide +kernel
theorem dJ6_numberOfTrailingZeros_0f7a4_20 : decode cJ6_numberOfTrailingZeros_0f7a4 20 = .ok (.ldc_w 264, 3) := by decide +kernel
theorem dJ6_numberOfTrailingZeros_0f7a4_23 : decode cJ6_numberOfTrailingZeros_0f7a4 23 = .ok (.if_icmp .le 11, 3) := by decide +kernel
theorem dJ6_numberOfTrailingZeros_0f7a4_26 : decode cJ6_numberOfTrailingZeros_0f7a4 26 = .ok (.iinc 1 16, 3) := by decide +kernel
theorem dJ6_numberOfTrailingZeros_0f7a4_29 : decode cJ6_numberOfTrailingZeros_0f7a4 29 = .ok (.iload_n 0, 1) := by decide +kernel
theorem dJ6_numberOfTrailingZeros_0f7a4_30 : decode cJ6_numberOfTrailingZeros_0f7a4 30 = .ok (.bipush 16, 2) := by decide +kernel
theorem dJ6_numberOfTrailingZeros_0f7a4_32 : decode cJ6_numberOfTrailingZeros_0f7a4 32 = .ok (.iushr, 1) := by decide +kernel
theorem dJ6_numberOfTrailingZeros_0f7a4_33 : decode cJ6_numberOfTrailingZeros_0f7a4 33 = .ok (.istore_n 0, 1) := by decide +kernel
theorem dJ6_numberOfTrailingZeros_0f7a4_34 : decode cJ6_numberOfTrailingZeros_0f7a4 34 = .ok (.iload_n 0, 1) := by decide +kernel
theorem dJ6_numberOfTrailingZeros_0f7a4_35 : decode cJ6_numberOfTrailingZeros_0f7a4 35 = .ok (.sipush 256, 3) := by decide +kernel
theorem dJ6_numberOfTrailingZeros_0f7a4_38 : decode cJ6_numberOfTrailingZeros_0f7a4 38 = .ok (.if_icmp .le 11, 3) := by decide +kernel
theorem dJ6_numberOfTrailingZeros_0f7a4_41 : decode cJ6_numberOfTrailingZeros_0f7a4 41 = .ok (.iinc 1 8, 3) := by decide +kernel
theorem dJ6_numberOfTrailingZeros_0f7a4_44 : decode cJ6_numberOfTrailingZeros_0f7a4 44 = .ok (.iload_n 0, 1) := by decide +kernel
theorem dJ6_numberOfTrailingZeros_0f7a4_45 : decode cJ6_numberOfTrailingZeros_0f7a4 45 = .ok (.bipush 8, 2) := by decide +kernel
theorem dJ6_numberOfTrailingZeros_0f7a4_47 : decode cJ6_numberOfTrailingZeros_0f7a4 47 = .ok (.iushr, 1) := by decide +kernel
theorem dJ6_numberOfTrailingZeros_0f7a4_48 : decode cJ6_numberOfTrailingZeros_0f7a4 48 = .ok (.istore_n 0, 1) := by decide +kernel
theorem dJ6_numberOfTrailingZeros_0f7a4_49 : decode cJ6_numberOfTrailingZeros_0f7a4 49 = .ok (.iload_n 0, 1) := by decide +kernel
theorem dJ6_numberOfTrailingZeros_0f7a4_50 : decode cJ6_numberOfTrailingZeros_0f7a4 50 = .ok (.bipush 16, 2) := by decide +kernel
theorem dJ6_numberOfTrailingZeros_0f7a4_52 : decode cJ6_numberOfTrailingZeros_0f7a4 52 = .ok (.if_icmp .le 10, 3) := by decide +kernel
theorem dJ6_numberOfTrailingZeros_0f7a4_55 : decode cJ6_numberOfTrailingZeros_0f7a4 55 = .ok (.iinc 1 4, 3) := by decide +kernel
theorem dJ6_numberOfTrailingZeros_0f7a4_58 : decode cJ6_numberOfTrailingZeros_0f7a4 58 = .ok (.iload_n 0, 1) := by decide +kernel
theorem dJ6_numberOfTrailingZeros_0f7a4_59 : decode cJ6_numberOfTrailingZeros_0f7a4 59 = .ok (.iconst 4, 1) := by decide +kernel
theorem dJ6_numberOfTrailingZeros_0f7a4_60 : decode cJ6_numberOfTrailingZeros_0f7a4 60 = .ok (.iushr, 1) := by decide +kernel
theorem dJ6_numberOfTrailingZeros_0f7a4_61 : decode cJ6_numberOfTrailingZeros_0f7a4 61 = .ok (.istore_n 0, 1) := by decide +kernel
theorem dJ6_numberOfTrailingZeros_0f7a4_62 : decode cJ6_numberOfTrailingZeros_0f7a4 62 = .ok (.iload_n 0, 1) := by decide +kernel
theorem dJ6_numberOfTrailingZeros_0f7a4_63 : decode cJ6_numberOfTrailingZeros_0f7a4 63 = .ok (.iconst 4, 1) := by decide +kernel
theorem dJ6_numberOfTrailingZeros_0f7a4_64 : decode cJ6_numberOfTrailingZeros_0f7a4 64 = .ok (.if_icmp .le 10, 3) := by decide +kernel
theorem dJ6_numberOfTrailingZeros_0f7a4_67 : decode cJ6_numberOfTrailingZeros_0f7a4 67 = .ok (.iinc 1 2, 3) := by decide +kernel
theorem dJ6_numberOfTrailingZeros_0f7a4_70 : decode cJ6_numberOfTrailingZeros_0f7a4 70 = .ok (.iload_n 0, 1) := by decide +kernel
theorem dJ6_numberOfTrailingZeros_0f7a4_71 : decode cJ6_numberOfTrailingZeros_0f7a4 71 = .ok (.iconst 2, 1) := by decide +kernel
theorem dJ6_numberOfTrailingZeros_0f7a4_72 : decode cJ6_numberOfTrailingZeros_0f7a4 72 = .ok (.iushr, 1) := by decide +kernel
theorem dJ6_numberOfTrailingZeros_0f7a4_73 : decode cJ6_numberOfTrailingZeros_0f7a4 73 = .ok (.istore_n 0, 1) := by decide +kernel
theorem dJ6_numberOfTrailingZeros_0f7a4_74 : decode cJ6_numberOfTrailingZeros_0f7a4 74 = .ok (.iload_n 1, 1) := by decide +kernel
theorem dJ6_numberOfTrailingZeros_0f7a4_75 : decode cJ6_numberOfTrailingZeros_0f7a4 75 = .ok (.iload_n 0, 1) := by decide +kernel
theorem dJ6_numberOfTrailingZeros_0f7a4_76 : decode cJ6_numberOfTrailingZeros_0f7a4 76 = .ok (.iconst 1, 1) := by decide +kernel
theorem dJ6_numberOfTrailingZeros_0f7a4_77 : decode cJ6_numberOfTrailingZeros_0f7a4 77 = .ok (.iushr, 1) := by decide +kernel
theorem dJ6_numberOfTrailingZeros_0f7a4_78 : decode cJ6_numberOfTrailingZeros_0f7a4 78 = .ok (.iadd, 1) := by decide +kernel
theorem dJ6_numberOfTrailingZeros_0f7a4_79 : decode cJ6_numberOfTrailingZeros_0f7a4 79 = .ok (.ireturn, 1) := by decide +kernel
theorem dJ9_max_7cf53_0 : decode cJ9_max_7cf53 0 = .ok (.iload_n 0, 1) := by decide +kernel
theorem dJ9_max_7cf53_1 : decode cJ9_max_7cf53 1 = .ok (.iload_n 1, 1) := by decide +kernel
theorem dJ9_max_7cf53_2 : decode cJ9_max_7cf53 2 = .ok (.if_icmp .lt 7, 3) := by decide +kernel
theorem dJ9_max_7cf53_5 : decode cJ9_max_7cf53 5 = .ok (.iload_n 0, 1) := by decide +kernel
theorem dJ9_max_7cf53_6 : decode cJ9_max_7cf53 6 = .ok (.goto 4, 3) := by decide +kernel
theorem dJ9_max_7cf53_9 : decode cJ9_max_7cf53 9 = .ok (.iload_n 1, 1) := by decide +kernel
theorem dJ9_max_7cf53_10 : decode cJ9_max_7cf53 10 = .ok (.ireturn, 1) := by decide +kernel
theorem dJ9_min_7cf53_0 : decode cJ9_min_7cf53 0 = .ok (.iload_n 0, 1) := by decide +kernel
theorem dJ9_min_7cf53_1 : decode cJ9_min_7cf53 1 = .ok (.iload_n 1, 1) := by decide +kernel
theorem dJ9_min_7cf53_2 : decode cJ9_min_7cf53 2 = .ok (.if_icmp .gt 7, 3) := by decide +kernel
theorem dJ9_min_7cf53_5 : decode cJ9_min_7cf53 5 = .ok (.iload_n 0, 1) := by decide +kernel
theorem dJ9_min_7cf53_6 : decode cJ9_min_7cf53 6 = .ok (.goto 4, 3) := by decide +kernel
theorem dJ9_min_7cf53_9 : decode cJ9_min_7cf53 9 = .ok (.iload_n 1, 1) := by decide +kernel
theorem dJ9_min_7cf53_10 : decode cJ9_min_7cf53 10 = .ok (.ireturn, 1) := by decide +kernel
