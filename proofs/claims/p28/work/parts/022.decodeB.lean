theorem dX6_init_0 : decode cX6_init 0 = .ok (.aload_n 0, 1) := by decide +kernel
theorem dX6_init_1 : decode cX6_init 1 = .ok (.invokespecial 3, 3) := by decide +kernel
theorem dX6_init_4 : decode cX6_init 4 = .ok (.aload_n 0, 1) := by decide +kernel
theorem dX6_init_5 : decode cX6_init 5 = .ok (.new 9, 3) := by decide +kernel
theorem dX6_init_8 : decode cX6_init 8 = .ok (.dup, 1) := by decide +kernel
theorem dX6_init_9 : decode cX6_init 9 = .ok (.invokespecial 11, 3) := by decide +kernel
theorem dX6_init_12 : decode cX6_init 12 = .ok (.putfield 12, 3) := by decide +kernel
theorem dX6_init_15 : decode cX6_init 15 = .ok (.aload_n 0, 1) := by decide +kernel
theorem dX6_init_16 : decode cX6_init 16 = .ok (.new 9, 3) := by decide +kernel
theorem dX6_init_19 : decode cX6_init 19 = .ok (.dup, 1) := by decide +kernel
theorem dX6_init_20 : decode cX6_init 20 = .ok (.invokespecial 11, 3) := by decide +kernel
theorem dX6_init_23 : decode cX6_init 23 = .ok (.putfield 16, 3) := by decide +kernel
theorem dX6_init_26 : decode cX6_init 26 = .ok (.aload_n 0, 1) := by decide +kernel
theorem dX6_init_27 : decode cX6_init 27 = .ok (.iconst 4, 1) := by decide +kernel
theorem dX6_init_28 : decode cX6_init 28 = .ok (.anewarray 9, 3) := by decide +kernel
theorem dX6_init_31 : decode cX6_init 31 = .ok (.putfield 19, 3) := by decide +kernel
theorem dX6_init_34 : decode cX6_init 34 = .ok (.aload_n 0, 1) := by decide +kernel
theorem dX6_init_35 : decode cX6_init 35 = .ok (.iconst 0, 1) := by decide +kernel
theorem dX6_init_36 : decode cX6_init 36 = .ok (.putfield 23, 3) := by decide +kernel
theorem dX6_init_39 : decode cX6_init 39 = .ok (.aload_n 0, 1) := by decide +kernel
theorem dX6_init_40 : decode cX6_init 40 = .ok (.new 27, 3) := by decide +kernel
theorem dX6_init_43 : decode cX6_init 43 = .ok (.dup, 1) := by decide +kernel
theorem dX6_init_44 : decode cX6_init 44 = .ok (.invokespecial 29, 3) := by decide +kernel
theorem dX6_init_47 : decode cX6_init 47 = .ok (.putfield 30, 3) := by decide +kernel
theorem dX6_init_50 : decode cX6_init 50 = .ok (.iconst 0, 1) := by decide +kernel
theorem dX6_init_51 : decode cX6_init 51 = .ok (.istore_n 1, 1) := by decide +kernel
theorem dX6_init_52 : decode cX6_init 52 = .ok (.iload_n 1, 1) := by decide +kernel
theorem dX6_init_53 : decode cX6_init 53 = .ok (.iconst 4, 1) := by decide +kernel
theorem dX6_init_54 : decode cX6_init 54 = .ok (.if_icmp .ge 22, 3) := by decide +kernel
theorem dX6_init_57 : decode cX6_init 57 = .ok (.aload_n 0, 1) := by decide +kernel
theorem dX6_init_58 : decode cX6_init 58 = .ok (.getfield 19, 3) := by decide +kernel
theorem dX6_init_61 : decode cX6_init 61 = .ok (.iload_n 1, 1) := by decide +kernel
theorem dX6_init_62 : decode cX6_init 62 = .ok (.new 9, 3) := by decide +kernel
theorem dX6_init_65 : decode cX6_init 65 = .ok (.dup, 1) := by decide +kernel
theorem dX6_init_66 : decode cX6_init 66 = .ok (.invokespecial 11, 3) := by decide +kernel
theorem dX6_init_69 : decode cX6_init 69 = .ok (.aastore, 1) := by decide +kernel
theorem dX6_init_70 : decode cX6_init 70 = .ok (.iinc 1 1, 3) := by decide +kernel
theorem dX6_init_73 : decode cX6_init 73 = .ok (.goto (-21), 3) := by decide +kernel
theorem dX6_init_76 : decode cX6_init 76 = .ok (.return_, 1) := by decide +kernel
theorem dX6_addElement_0 : decode cX6_addElement 0 = .ok (.iload_n 1, 1) := by decide +kernel
theorem dX6_addElement_1 : decode cX6_addElement 1 = .ok (.iconst 1, 1) := by decide +kernel
theorem dX6_addElement_2 : decode cX6_addElement 2 = .ok (.if_icmp .lt 10, 3) := by decide +kernel
theorem dX6_addElement_5 : decode cX6_addElement 5 = .ok (.iload_n 1, 1) := by decide +kernel
theorem dX6_addElement_6 : decode cX6_addElement 6 = .ok (.sipush 1800, 3) := by decide +kernel
theorem dX6_addElement_9 : decode cX6_addElement 9 = .ok (.if_icmp .le 13, 3) := by decide +kernel
theorem dX6_addElement_12 : decode cX6_addElement 12 = .ok (.new 34, 3) := by decide +kernel
theorem dX6_addElement_15 : decode cX6_addElement 15 = .ok (.dup, 1) := by decide +kernel
theorem dX6_addElement_16 : decode cX6_addElement 16 = .ok (.ldc 36, 2) := by decide +kernel
theorem dX6_addElement_18 : decode cX6_addElement 18 = .ok (.invokespecial 38, 3) := by decide +kernel
theorem dX6_addElement_21 : decode cX6_addElement 21 = .ok (.athrow, 1) := by decide +kernel
theorem dX6_addElement_22 : decode cX6_addElement 22 = .ok (.iload_n 2, 1) := by decide +kernel
theorem dX6_addElement_23 : decode cX6_addElement 23 = .ok (.iconst (-1), 1) := by decide +kernel
theorem dX6_addElement_24 : decode cX6_addElement 24 = .ok (.if_icmp .eq 24, 3) := by decide +kernel
theorem dX6_addElement_27 : decode cX6_addElement 27 = .ok (.iload_n 2, 1) := by decide +kernel
theorem dX6_addElement_28 : decode cX6_addElement 28 = .ok (.ifCond .lt 10, 3) := by decide +kernel
theorem dX6_addElement_31 : decode cX6_addElement 31 = .ok (.iload_n 2, 1) := by decide +kernel
theorem dX6_addElement_32 : decode cX6_addElement 32 = .ok (.sipush 3600, 3) := by decide +kernel
theorem dX6_addElement_35 : decode cX6_addElement 35 = .ok (.if_icmp .lt 13, 3) := by decide +kernel
theorem dX6_addElement_38 : decode cX6_addElement 38 = .ok (.new 34, 3) := by decide +kernel
theorem dX6_addElement_41 : decode cX6_addElement 41 = .ok (.dup, 1) := by decide +kernel
theorem dX6_addElement_42 : decode cX6_addElement 42 = .ok (.ldc 41, 2) := by decide +kernel
theorem dX6_addElement_44 : decode cX6_addElement 44 = .ok (.invokespecial 38, 3) := by decide +kernel
theorem dX6_addElement_47 : decode cX6_addElement 47 = .ok (.athrow, 1) := by decide +kernel
theorem dX6_addElement_48 : decode cX6_addElement 48 = .ok (.iload_n 3, 1) := by decide +kernel
theorem dX6_addElement_49 : decode cX6_addElement 49 = .ok (.ifCond .lt 9, 3) := by decide +kernel
theorem dX6_addElement_52 : decode cX6_addElement 52 = .ok (.iload_n 3, 1) := by decide +kernel
theorem dX6_addElement_53 : decode cX6_addElement 53 = .ok (.bipush 9, 2) := by decide +kernel
theorem dX6_addElement_55 : decode cX6_addElement 55 = .ok (.if_icmp .le 13, 3) := by decide +kernel
theorem dX6_addElement_58 : decode cX6_addElement 58 = .ok (.new 34, 3) := by decide +kernel
theorem dX6_addElement_61 : decode cX6_addElement 61 = .ok (.dup, 1) := by decide +kernel
theorem dX6_addElement_62 : decode cX6_addElement 62 = .ok (.ldc 43, 2) := by decide +kernel
theorem dX6_addElement_64 : decode cX6_addElement 64 = .ok (.invokespecial 38, 3) := by decide +kernel
theorem dX6_addElement_67 : decode cX6_addElement 67 = .ok (.athrow, 1) := by decide +kernel
theorem dX6_addElement_68 : decode cX6_addElement 68 = .ok (.aload_n 0, 1) := by decide +kernel
theorem dX6_addElement_69 : decode cX6_addElement 69 = .ok (.getfield 12, 3) := by decide +kernel
theorem dX6_addElement_72 : decode cX6_addElement 72 = .ok (.getfield 45, 3) := by decide +kernel
theorem dX6_addElement_75 : decode cX6_addElement 75 = .ok (.ifCond .ne 18, 3) := by decide +kernel
theorem dX6_addElement_78 : decode cX6_addElement 78 = .ok (.aload_n 0, 1) := by decide +kernel
theorem dX6_addElement_79 : decode cX6_addElement 79 = .ok (.getfield 12, 3) := by decide +kernel
theorem dX6_addElement_82 : decode cX6_addElement 82 = .ok (.getfield 49, 3) := by decide +kernel
theorem dX6_addElement_85 : decode cX6_addElement 85 = .ok (.getfield 53, 3) := by decide +kernel
theorem dX6_addElement_88 : decode cX6_addElement 88 = .ok (.bipush 12, 2) := by decide +kernel
theorem dX6_addElement_90 : decode cX6_addElement 90 = .ok (.if_icmp .lt 13, 3) := by decide +kernel
theorem dX6_addElement_93 : decode cX6_addElement 93 = .ok (.new 58, 3) := by decide +kernel
theorem dX6_addElement_96 : decode cX6_addElement 96 = .ok (.dup, 1) := by decide +kernel
theorem dX6_addElement_97 : decode cX6_addElement 97 = .ok (.ldc 60, 2) := by decide +kernel
theorem dX6_addElement_99 : decode cX6_addElement 99 = .ok (.invokespecial 62, 3) := by decide +kernel
theorem dX6_addElement_102 : decode cX6_addElement 102 = .ok (.athrow, 1) := by decide +kernel
theorem dX6_addElement_103 : decode cX6_addElement 103 = .ok (.aload_n 0, 1) := by decide +kernel
theorem dX6_addElement_104 : decode cX6_addElement 104 = .ok (.invokevirtual 63, 3) := by decide +kernel
theorem dX6_addElement_107 : decode cX6_addElement 107 = .ok (.aload_n 0, 1) := by decide +kernel
theorem dX6_addElement_108 : decode cX6_addElement 108 = .ok (.getfield 12, 3) := by decide +kernel
theorem dX6_addElement_111 : decode cX6_addElement 111 = .ok (.getfield 49, 3) := by decide +kernel
theorem dX6_addElement_114 : decode cX6_addElement 114 = .ok (.iload_n 1, 1) := by decide +kernel
theorem dX6_addElement_115 : decode cX6_addElement 115 = .ok (.iload_n 2, 1) := by decide +kernel
theorem dX6_addElement_116 : decode cX6_addElement 116 = .ok (.iload_n 3, 1) := by decide +kernel
theorem dX6_addElement_117 : decode cX6_addElement 117 = .ok (.invokevirtual 66, 3) := by decide +kernel
theorem dX6_addElement_120 : decode cX6_addElement 120 = .ok (.aload_n 0, 1) := by decide +kernel
theorem dX6_addElement_121 : decode cX6_addElement 121 = .ok (.getfield 12, 3) := by decide +kernel
theorem dX6_addElement_124 : decode cX6_addElement 124 = .ok (.getfield 49, 3) := by decide +kernel
theorem dX6_addElement_127 : decode cX6_addElement 127 = .ok (.getfield 53, 3) := by decide +kernel
theorem dX6_addElement_130 : decode cX6_addElement 130 = .ok (.iconst 1, 1) := by decide +kernel
theorem dX6_addElement_131 : decode cX6_addElement 131 = .ok (.isub, 1) := by decide +kernel
theorem dX6_addElement_132 : decode cX6_addElement 132 = .ok (.ireturn, 1) := by decide +kernel
theorem dX6_addFiller_0 : decode cX6_addFiller 0 = .ok (.iload_n 1, 1) := by decide +kernel
theorem dX6_addFiller_1 : decode cX6_addFiller 1 = .ok (.iconst 1, 1) := by decide +kernel
theorem dX6_addFiller_2 : decode cX6_addFiller 2 = .ok (.if_icmp .lt 10, 3) := by decide +kernel
theorem dX6_addFiller_5 : decode cX6_addFiller 5 = .ok (.iload_n 1, 1) := by decide +kernel
theorem dX6_addFiller_6 : decode cX6_addFiller 6 = .ok (.sipush 900, 3) := by decide +kernel
theorem dX6_addFiller_9 : decode cX6_addFiller 9 = .ok (.if_icmp .le 13, 3) := by decide +kernel
theorem dX6_addFiller_12 : decode cX6_addFiller 12 = .ok (.new 34, 3) := by decide +kernel
theorem dX6_addFiller_15 : decode cX6_addFiller 15 = .ok (.dup, 1) := by decide +kernel
theorem dX6_addFiller_16 : decode cX6_addFiller 16 = .ok (.ldc 36, 2) := by decide +kernel
theorem dX6_addFiller_18 : decode cX6_addFiller 18 = .ok (.invokespecial 38, 3) := by decide +kernel
theorem dX6_addFiller_21 : decode cX6_addFiller 21 = .ok (.athrow, 1) := by decide +kernel
theorem dX6_addFiller_22 : decode cX6_addFiller 22 = .ok (.aload_n 0, 1) := by decide +kernel
theorem dX6_addFiller_23 : decode cX6_addFiller 23 = .ok (.getfield 12, 3) := by decide +kernel
theorem dX6_addFiller_26 : decode cX6_addFiller 26 = .ok (.getfield 45, 3) := by decide +kernel
theorem dX6_addFiller_29 : decode cX6_addFiller 29 = .ok (.ifCond .ne 18, 3) := by decide +kernel
theorem dX6_addFiller_32 : decode cX6_addFiller 32 = .ok (.aload_n 0, 1) := by decide +kernel
theorem dX6_addFiller_33 : decode cX6_addFiller 33 = .ok (.getfield 12, 3) := by decide +kernel
theorem dX6_addFiller_36 : decode cX6_addFiller 36 = .ok (.getfield 70, 3) := by decide +kernel
theorem dX6_addFiller_39 : decode cX6_addFiller 39 = .ok (.getfield 74, 3) := by decide +kernel
theorem dX6_addFiller_42 : decode cX6_addFiller 42 = .ok (.bipush 10, 2) := by decide +kernel
theorem dX6_addFiller_44 : decode cX6_addFiller 44 = .ok (.if_icmp .lt 13, 3) := by decide +kernel
theorem dX6_addFiller_47 : decode cX6_addFiller 47 = .ok (.new 58, 3) := by decide +kernel
theorem dX6_addFiller_50 : decode cX6_addFiller 50 = .ok (.dup, 1) := by decide +kernel
theorem dX6_addFiller_51 : decode cX6_addFiller 51 = .ok (.ldc 77, 2) := by decide +kernel
theorem dX6_addFiller_53 : decode cX6_addFiller 53 = .ok (.invokespecial 62, 3) := by decide +kernel
theorem dX6_addFiller_56 : decode cX6_addFiller 56 = .ok (.athrow, 1) := by decide +kernel
theorem dX6_addFiller_57 : decode cX6_addFiller 57 = .ok (.aload_n 0, 1) := by decide +kernel
theorem dX6_addFiller_58 : decode cX6_addFiller 58 = .ok (.invokevirtual 63, 3) := by decide +kernel
theorem dX6_addFiller_61 : decode cX6_addFiller 61 = .ok (.aload_n 0, 1) := by decide +kernel
theorem dX6_addFiller_62 : decode cX6_addFiller 62 = .ok (.getfield 12, 3) := by decide +kernel
theorem dX6_addFiller_65 : decode cX6_addFiller 65 = .ok (.getfield 70, 3) := by decide +kernel
theorem dX6_addFiller_68 : decode cX6_addFiller 68 = .ok (.iload_n 1, 1) := by decide +kernel
theorem dX6_addFiller_69 : decode cX6_addFiller 69 = .ok (.invokevirtual 79, 3) := by decide +kernel
theorem dX6_addFiller_72 : decode cX6_addFiller 72 = .ok (.aload_n 0, 1) := by decide +kernel
theorem dX6_addFiller_73 : decode cX6_addFiller 73 = .ok (.getfield 12, 3) := by decide +kernel
theorem dX6_addFiller_76 : decode cX6_addFiller 76 = .ok (.getfield 70, 3) := by decide +kernel
theorem dX6_addFiller_79 : decode cX6_addFiller 79 = .ok (.getfield 74, 3) := by decide +kernel
theorem dX6_addFiller_82 : decode cX6_addFiller 82 = .ok (.iconst 1, 1) := by decide +kernel
theorem dX6_addFiller_83 : decode cX6_addFiller 83 = .ok (.isub, 1) := by decide +kernel
theorem dX6_addFiller_84 : decode cX6_addFiller 84 = .ok (.ireturn, 1) := by decide +kernel
theorem dX6_stretch_0 : decode cX6_stretch 0 = .ok (.aload_n 0, 1) := by decide +kernel
theorem dX6_stretch_1 : decode cX6_stretch 1 = .ok (.getfield 12, 3) := by decide +kernel
theorem dX6_stretch_4 : decode cX6_stretch 4 = .ok (.getfield 49, 3) := by decide +kernel
theorem dX6_stretch_7 : decode cX6_stretch 7 = .ok (.iload_n 1, 1) := by decide +kernel
theorem dX6_stretch_8 : decode cX6_stretch 8 = .ok (.invokevirtual 82, 3) := by decide +kernel
theorem dX6_stretch_11 : decode cX6_stretch 11 = .ok (.ifCond .ne 13, 3) := by decide +kernel
theorem dX6_stretch_14 : decode cX6_stretch 14 = .ok (.new 86, 3) := by decide +kernel
theorem dX6_stretch_17 : decode cX6_stretch 17 = .ok (.dup, 1) := by decide +kernel
theorem dX6_stretch_18 : decode cX6_stretch 18 = .ok (.ldc 88, 2) := by decide +kernel
theorem dX6_stretch_20 : decode cX6_stretch 20 = .ok (.invokespecial 90, 3) := by decide +kernel
theorem dX6_stretch_23 : decode cX6_stretch 23 = .ok (.athrow, 1) := by decide +kernel
theorem dX6_stretch_24 : decode cX6_stretch 24 = .ok (.iload_n 2, 1) := by decide +kernel
theorem dX6_stretch_25 : decode cX6_stretch 25 = .ok (.sipush (-1800), 3) := by decide +kernel
theorem dX6_stretch_28 : decode cX6_stretch 28 = .ok (.if_icmp .lt 10, 3) := by decide +kernel
theorem dX6_stretch_31 : decode cX6_stretch 31 = .ok (.iload_n 2, 1) := by decide +kernel
theorem dX6_stretch_32 : decode cX6_stretch 32 = .ok (.sipush 1800, 3) := by decide +kernel
theorem dX6_stretch_35 : decode cX6_stretch 35 = .ok (.if_icmp .le 13, 3) := by decide +kernel
theorem dX6_stretch_38 : decode cX6_stretch 38 = .ok (.new 34, 3) := by decide +kernel
theorem dX6_stretch_41 : decode cX6_stretch 41 = .ok (.dup, 1) := by decide +kernel
theorem dX6_stretch_42 : decode cX6_stretch 42 = .ok (.ldc 91, 2) := by decide +kernel
theorem dX6_stretch_44 : decode cX6_stretch 44 = .ok (.invokespecial 38, 3) := by decide +kernel
theorem dX6_stretch_47 : decode cX6_stretch 47 = .ok (.athrow, 1) := by decide +kernel
theorem dX6_stretch_48 : decode cX6_stretch 48 = .ok (.aload_n 0, 1) := by decide +kernel
theorem dX6_stretch_49 : decode cX6_stretch 49 = .ok (.getfield 12, 3) := by decide +kernel
theorem dX6_stretch_52 : decode cX6_stretch 52 = .ok (.getfield 49, 3) := by decide +kernel
theorem dX6_stretch_55 : decode cX6_stretch 55 = .ok (.getfield 93, 3) := by decide +kernel
theorem dX6_stretch_58 : decode cX6_stretch 58 = .ok (.iload_n 1, 1) := by decide +kernel
theorem dX6_stretch_59 : decode cX6_stretch 59 = .ok (.iaload, 1) := by decide +kernel
theorem dX6_stretch_60 : decode cX6_stretch 60 = .ok (.iload_n 2, 1) := by decide +kernel
theorem dX6_stretch_61 : decode cX6_stretch 61 = .ok (.iadd, 1) := by decide +kernel
theorem dX6_stretch_62 : decode cX6_stretch 62 = .ok (.istore_n 3, 1) := by decide +kernel
theorem dX6_stretch_63 : decode cX6_stretch 63 = .ok (.aload_n 0, 1) := by decide +kernel
theorem dX6_stretch_64 : decode cX6_stretch 64 = .ok (.getfield 12, 3) := by decide +kernel
theorem dX6_stretch_67 : decode cX6_stretch 67 = .ok (.iload_n 1, 1) := by decide +kernel
theorem dX6_stretch_68 : decode cX6_stretch 68 = .ok (.iload_n 3, 1) := by decide +kernel
theorem dX6_stretch_69 : decode cX6_stretch 69 = .ok (.invokevirtual 96, 3) := by decide +kernel
theorem dX6_stretch_72 : decode cX6_stretch 72 = .ok (.ifCond .ne 13, 3) := by decide +kernel
theorem dX6_stretch_75 : decode cX6_stretch 75 = .ok (.new 58, 3) := by decide +kernel
theorem dX6_stretch_78 : decode cX6_stretch 78 = .ok (.dup, 1) := by decide +kernel
theorem dX6_stretch_79 : decode cX6_stretch 79 = .ok (.ldc 100, 2) := by decide +kernel
theorem dX6_stretch_81 : decode cX6_stretch 81 = .ok (.invokespecial 62, 3) := by decide +kernel
theorem dX6_stretch_84 : decode cX6_stretch 84 = .ok (.athrow, 1) := by decide +kernel
theorem dX6_stretch_85 : decode cX6_stretch 85 = .ok (.aload_n 0, 1) := by decide +kernel
theorem dX6_stretch_86 : decode cX6_stretch 86 = .ok (.invokevirtual 63, 3) := by decide +kernel
theorem dX6_stretch_89 : decode cX6_stretch 89 = .ok (.aload_n 0, 1) := by decide +kernel
theorem dX6_stretch_90 : decode cX6_stretch 90 = .ok (.getfield 12, 3) := by decide +kernel
theorem dX6_stretch_93 : decode cX6_stretch 93 = .ok (.iload_n 1, 1) := by decide +kernel
theorem dX6_stretch_94 : decode cX6_stretch 94 = .ok (.iload_n 3, 1) := by decide +kernel
theorem dX6_stretch_95 : decode cX6_stretch 95 = .ok (.invokevirtual 102, 3) := by decide +kernel
theorem dX6_stretch_98 : decode cX6_stretch 98 = .ok (.iload_n 3, 1) := by decide +kernel
theorem dX6_stretch_99 : decode cX6_stretch 99 = .ok (.ireturn, 1) := by decide +kernel
theorem dX6_drop_0 : decode cX6_drop 0 = .ok (.aload_n 0, 1) := by decide +kernel
theorem dX6_drop_1 : decode cX6_drop 1 = .ok (.getfield 12, 3) := by decide +kernel
theorem dX6_drop_4 : decode cX6_drop 4 = .ok (.getfield 49, 3) := by decide +kernel
theorem dX6_drop_7 : decode cX6_drop 7 = .ok (.iload_n 1, 1) := by decide +kernel
theorem dX6_drop_8 : decode cX6_drop 8 = .ok (.invokevirtual 82, 3) := by decide +kernel
theorem dX6_drop_11 : decode cX6_drop 11 = .ok (.ifCond .ne 13, 3) := by decide +kernel
theorem dX6_drop_14 : decode cX6_drop 14 = .ok (.new 86, 3) := by decide +kernel
theorem dX6_drop_17 : decode cX6_drop 17 = .ok (.dup, 1) := by decide +kernel
theorem dX6_drop_18 : decode cX6_drop 18 = .ok (.ldc 88, 2) := by decide +kernel
theorem dX6_drop_20 : decode cX6_drop 20 = .ok (.invokespecial 90, 3) := by decide +kernel
theorem dX6_drop_23 : decode cX6_drop 23 = .ok (.athrow, 1) := by decide +kernel
theorem dX6_drop_24 : decode cX6_drop 24 = .ok (.aload_n 0, 1) := by decide +kernel
theorem dX6_drop_25 : decode cX6_drop 25 = .ok (.getfield 12, 3) := by decide +kernel
theorem dX6_drop_28 : decode cX6_drop 28 = .ok (.getfield 49, 3) := by decide +kernel
theorem dX6_drop_31 : decode cX6_drop 31 = .ok (.iload_n 1, 1) := by decide +kernel
theorem dX6_drop_32 : decode cX6_drop 32 = .ok (.invokevirtual 106, 3) := by decide +kernel
theorem dX6_drop_35 : decode cX6_drop 35 = .ok (.ifCond .ne 13, 3) := by decide +kernel
theorem dX6_drop_38 : decode cX6_drop 38 = .ok (.new 58, 3) := by decide +kernel
theorem dX6_drop_41 : decode cX6_drop 41 = .ok (.dup, 1) := by decide +kernel
theorem dX6_drop_42 : decode cX6_drop 42 = .ok (.ldc 109, 2) := by decide +kernel
theorem dX6_drop_44 : decode cX6_drop 44 = .ok (.invokespecial 62, 3) := by decide +kernel
theorem dX6_drop_47 : decode cX6_drop 47 = .ok (.athrow, 1) := by decide +kernel
theorem dX6_drop_48 : decode cX6_drop 48 = .ok (.aload_n 0, 1) := by decide +kernel
theorem dX6_drop_49 : decode cX6_drop 49 = .ok (.invokevirtual 63, 3) := by decide +kernel
theorem dX6_drop_52 : decode cX6_drop 52 = .ok (.aload_n 0, 1) := by decide +kernel
theorem dX6_drop_53 : decode cX6_drop 53 = .ok (.getfield 12, 3) := by decide +kernel
theorem dX6_drop_56 : decode cX6_drop 56 = .ok (.iload_n 1, 1) := by decide +kernel
theorem dX6_drop_57 : decode cX6_drop 57 = .ok (.invokevirtual 111, 3) := by decide +kernel
theorem dX6_drop_60 : decode cX6_drop 60 = .ok (.aload_n 0, 1) := by decide +kernel
theorem dX6_drop_61 : decode cX6_drop 61 = .ok (.getfield 12, 3) := by decide +kernel
theorem dX6_drop_64 : decode cX6_drop 64 = .ok (.getfield 49, 3) := by decide +kernel
theorem dX6_drop_67 : decode cX6_drop 67 = .ok (.iconst 0, 1) := by decide +kernel
theorem dX6_drop_68 : decode cX6_drop 68 = .ok (.invokevirtual 114, 3) := by decide +kernel
theorem dX6_drop_71 : decode cX6_drop 71 = .ok (.ireturn, 1) := by decide +kernel
theorem dX6_pass_0 : decode cX6_pass 0 = .ok (.iload_n 1, 1) := by decide +kernel
theorem dX6_pass_1 : decode cX6_pass 1 = .ok (.iconst 1, 1) := by decide +kernel
theorem dX6_pass_2 : decode cX6_pass 2 = .ok (.if_icmp .lt 10, 3) := by decide +kernel
theorem dX6_pass_5 : decode cX6_pass 5 = .ok (.iload_n 1, 1) := by decide +kernel
theorem dX6_pass_6 : decode cX6_pass 6 = .ok (.sipush 3600, 3) := by decide +kernel
theorem dX6_pass_9 : decode cX6_pass 9 = .ok (.if_icmp .le 13, 3) := by decide +kernel
theorem dX6_pass_12 : decode cX6_pass 12 = .ok (.new 34, 3) := by decide +kernel
theorem dX6_pass_15 : decode cX6_pass 15 = .ok (.dup, 1) := by decide +kernel
theorem dX6_pass_16 : decode cX6_pass 16 = .ok (.ldc 118, 2) := by decide +kernel
theorem dX6_pass_18 : decode cX6_pass 18 = .ok (.invokespecial 38, 3) := by decide +kernel
theorem dX6_pass_21 : decode cX6_pass 21 = .ok (.athrow, 1) := by decide +kernel
theorem dX6_pass_22 : decode cX6_pass 22 = .ok (.aload_n 0, 1) := by decide +kernel
theorem dX6_pass_23 : decode cX6_pass 23 = .ok (.invokevirtual 63, 3) := by decide +kernel
theorem dX6_pass_26 : decode cX6_pass 26 = .ok (.aload_n 0, 1) := by decide +kernel
theorem dX6_pass_27 : decode cX6_pass 27 = .ok (.getfield 12, 3) := by decide +kernel
theorem dX6_pass_30 : decode cX6_pass 30 = .ok (.getfield 120, 3) := by decide +kernel
theorem dX6_pass_33 : decode cX6_pass 33 = .ok (.istore_n 2, 1) := by decide +kernel
theorem dX6_pass_34 : decode cX6_pass 34 = .ok (.aload_n 0, 1) := by decide +kernel
theorem dX6_pass_35 : decode cX6_pass 35 = .ok (.getfield 12, 3) := by decide +kernel
theorem dX6_pass_38 : decode cX6_pass 38 = .ok (.iload_n 2, 1) := by decide +kernel
theorem dX6_pass_39 : decode cX6_pass 39 = .ok (.iload_n 1, 1) := by decide +kernel
theorem dX6_pass_40 : decode cX6_pass 40 = .ok (.iadd, 1) := by decide +kernel
theorem dX6_pass_41 : decode cX6_pass 41 = .ok (.invokevirtual 123, 3) := by decide +kernel
theorem dX6_pass_44 : decode cX6_pass 44 = .ok (.aload_n 0, 1) := by decide +kernel
theorem dX6_pass_45 : decode cX6_pass 45 = .ok (.getfield 12, 3) := by decide +kernel
theorem dX6_pass_48 : decode cX6_pass 48 = .ok (.getfield 120, 3) := by decide +kernel
theorem dX6_pass_51 : decode cX6_pass 51 = .ok (.iload_n 2, 1) := by decide +kernel
theorem dX6_pass_52 : decode cX6_pass 52 = .ok (.isub, 1) := by decide +kernel
theorem dX6_pass_53 : decode cX6_pass 53 = .ok (.ireturn, 1) := by decide +kernel
theorem dX6_finish_0 : decode cX6_finish 0 = .ok (.aload_n 0, 1) := by decide +kernel
theorem dX6_finish_1 : decode cX6_finish 1 = .ok (.invokevirtual 63, 3) := by decide +kernel
theorem dX6_finish_4 : decode cX6_finish 4 = .ok (.aload_n 0, 1) := by decide +kernel
theorem dX6_finish_5 : decode cX6_finish 5 = .ok (.getfield 12, 3) := by decide +kernel
theorem dX6_finish_8 : decode cX6_finish 8 = .ok (.ldc 126, 2) := by decide +kernel
theorem dX6_finish_10 : decode cX6_finish 10 = .ok (.invokevirtual 123, 3) := by decide +kernel
theorem dX6_finish_13 : decode cX6_finish 13 = .ok (.aload_n 0, 1) := by decide +kernel
theorem dX6_finish_14 : decode cX6_finish 14 = .ok (.getfield 12, 3) := by decide +kernel
theorem dX6_finish_17 : decode cX6_finish 17 = .ok (.getfield 120, 3) := by decide +kernel
theorem dX6_finish_20 : decode cX6_finish 20 = .ok (.sipush 3600, 3) := by decide +kernel
theorem dX6_finish_23 : decode cX6_finish 23 = .ok (.isub, 1) := by decide +kernel
theorem dX6_finish_24 : decode cX6_finish 24 = .ok (.ireturn, 1) := by decide +kernel
theorem dX6_again_0 : decode cX6_again 0 = .ok (.aload_n 0, 1) := by decide +kernel
theorem dX6_again_1 : decode cX6_again 1 = .ok (.getfield 12, 3) := by decide +kernel
theorem dX6_again_4 : decode cX6_again 4 = .ok (.getfield 45, 3) := by decide +kernel
theorem dX6_again_7 : decode cX6_again 7 = .ok (.ifCond .ne 13, 3) := by decide +kernel
theorem dX6_again_10 : decode cX6_again 10 = .ok (.new 58, 3) := by decide +kernel
theorem dX6_again_13 : decode cX6_again 13 = .ok (.dup, 1) := by decide +kernel
theorem dX6_again_14 : decode cX6_again 14 = .ok (.ldc 127, 2) := by decide +kernel
theorem dX6_again_16 : decode cX6_again 16 = .ok (.invokespecial 62, 3) := by decide +kernel
theorem dX6_again_19 : decode cX6_again 19 = .ok (.athrow, 1) := by decide +kernel
theorem dX6_again_20 : decode cX6_again 20 = .ok (.aload_n 0, 1) := by decide +kernel
theorem dX6_again_21 : decode cX6_again 21 = .ok (.invokevirtual 63, 3) := by decide +kernel
theorem dX6_again_24 : decode cX6_again 24 = .ok (.aload_n 0, 1) := by decide +kernel
theorem dX6_again_25 : decode cX6_again 25 = .ok (.getfield 12, 3) := by decide +kernel
theorem dX6_again_28 : decode cX6_again 28 = .ok (.invokevirtual 129, 3) := by decide +kernel
theorem dX6_again_31 : decode cX6_again 31 = .ok (.aload_n 0, 1) := by decide +kernel
theorem dX6_again_32 : decode cX6_again 32 = .ok (.getfield 12, 3) := by decide +kernel
theorem dX6_again_35 : decode cX6_again 35 = .ok (.dup, 1) := by decide +kernel
theorem dX6_again_36 : decode cX6_again 36 = .ok (.getfield 132, 3) := by decide +kernel
theorem dX6_again_39 : decode cX6_again 39 = .ok (.iconst 1, 1) := by decide +kernel
theorem dX6_again_40 : decode cX6_again 40 = .ok (.iadd, 1) := by decide +kernel
theorem dX6_again_41 : decode cX6_again 41 = .ok (.putfield 132, 3) := by decide +kernel
theorem dX6_again_44 : decode cX6_again 44 = .ok (.aload_n 0, 1) := by decide +kernel
theorem dX6_again_45 : decode cX6_again 45 = .ok (.getfield 12, 3) := by decide +kernel
theorem dX6_again_48 : decode cX6_again 48 = .ok (.getfield 132, 3) := by decide +kernel
theorem dX6_again_51 : decode cX6_again 51 = .ok (.ireturn, 1) := by decide +kernel
theorem dX6_element_0 : decode cX6_element 0 = .ok (.aload_n 0, 1) := by decide +kernel
theorem dX6_element_1 : decode cX6_element 1 = .ok (.getfield 12, 3) := by decide +kernel
theorem dX6_element_4 : decode cX6_element 4 = .ok (.getfield 49, 3) := by decide +kernel
theorem dX6_element_7 : decode cX6_element 7 = .ok (.iload_n 1, 1) := by decide +kernel
theorem dX6_element_8 : decode cX6_element 8 = .ok (.invokevirtual 82, 3) := by decide +kernel
theorem dX6_element_11 : decode cX6_element 11 = .ok (.ifCond .ne 13, 3) := by decide +kernel
theorem dX6_element_14 : decode cX6_element 14 = .ok (.new 86, 3) := by decide +kernel
theorem dX6_element_17 : decode cX6_element 17 = .ok (.dup, 1) := by decide +kernel
theorem dX6_element_18 : decode cX6_element 18 = .ok (.ldc 88, 2) := by decide +kernel
theorem dX6_element_20 : decode cX6_element 20 = .ok (.invokespecial 90, 3) := by decide +kernel
theorem dX6_element_23 : decode cX6_element 23 = .ok (.athrow, 1) := by decide +kernel
theorem dX6_element_24 : decode cX6_element 24 = .ok (.iload_n 2, 1) := by decide +kernel
theorem dX6_element_25 : decode cX6_element 25 = .ok (.ifCond .lt 9, 3) := by decide +kernel
theorem dX6_element_28 : decode cX6_element 28 = .ok (.iload_n 2, 1) := by decide +kernel
theorem dX6_element_29 : decode cX6_element 29 = .ok (.bipush 6, 2) := by decide +kernel
theorem dX6_element_31 : decode cX6_element 31 = .ok (.if_icmp .le 13, 3) := by decide +kernel
theorem dX6_element_34 : decode cX6_element 34 = .ok (.new 34, 3) := by decide +kernel
theorem dX6_element_37 : decode cX6_element 37 = .ok (.dup, 1) := by decide +kernel
theorem dX6_element_38 : decode cX6_element 38 = .ok (.ldc 135, 2) := by decide +kernel
theorem dX6_element_40 : decode cX6_element 40 = .ok (.invokespecial 38, 3) := by decide +kernel
theorem dX6_element_43 : decode cX6_element 43 = .ok (.athrow, 1) := by decide +kernel
theorem dX6_element_44 : decode cX6_element 44 = .ok (.aload_n 0, 1) := by decide +kernel
theorem dX6_element_45 : decode cX6_element 45 = .ok (.getfield 12, 3) := by decide +kernel
theorem dX6_element_48 : decode cX6_element 48 = .ok (.getfield 49, 3) := by decide +kernel
theorem dX6_element_51 : decode cX6_element 51 = .ok (.iload_n 1, 1) := by decide +kernel
theorem dX6_element_52 : decode cX6_element 52 = .ok (.iload_n 2, 1) := by decide +kernel
theorem dX6_element_53 : decode cX6_element 53 = .ok (.invokevirtual 137, 3) := by decide +kernel
theorem dX6_element_56 : decode cX6_element 56 = .ok (.ireturn, 1) := by decide +kernel
theorem dX6_filler_0 : decode cX6_filler 0 = .ok (.aload_n 0, 1) := by decide +kernel
theorem dX6_filler_1 : decode cX6_filler 1 = .ok (.getfield 12, 3) := by decide +kernel
theorem dX6_filler_4 : decode cX6_filler 4 = .ok (.getfield 70, 3) := by decide +kernel
theorem dX6_filler_7 : decode cX6_filler 7 = .ok (.iload_n 1, 1) := by decide +kernel
theorem dX6_filler_8 : decode cX6_filler 8 = .ok (.invokevirtual 141, 3) := by decide +kernel
theorem dX6_filler_11 : decode cX6_filler 11 = .ok (.ifCond .ne 13, 3) := by decide +kernel
theorem dX6_filler_14 : decode cX6_filler 14 = .ok (.new 86, 3) := by decide +kernel
theorem dX6_filler_17 : decode cX6_filler 17 = .ok (.dup, 1) := by decide +kernel
theorem dX6_filler_18 : decode cX6_filler 18 = .ok (.ldc 142, 2) := by decide +kernel
theorem dX6_filler_20 : decode cX6_filler 20 = .ok (.invokespecial 90, 3) := by decide +kernel
theorem dX6_filler_23 : decode cX6_filler 23 = .ok (.athrow, 1) := by decide +kernel
theorem dX6_filler_24 : decode cX6_filler 24 = .ok (.iload_n 2, 1) := by decide +kernel
theorem dX6_filler_25 : decode cX6_filler 25 = .ok (.ifCond .lt 8, 3) := by decide +kernel
theorem dX6_filler_28 : decode cX6_filler 28 = .ok (.iload_n 2, 1) := by decide +kernel
theorem dX6_filler_29 : decode cX6_filler 29 = .ok (.iconst 2, 1) := by decide +kernel
theorem dX6_filler_30 : decode cX6_filler 30 = .ok (.if_icmp .le 13, 3) := by decide +kernel
theorem dX6_filler_33 : decode cX6_filler 33 = .ok (.new 34, 3) := by decide +kernel
theorem dX6_filler_36 : decode cX6_filler 36 = .ok (.dup, 1) := by decide +kernel
theorem dX6_filler_37 : decode cX6_filler 37 = .ok (.ldc 135, 2) := by decide +kernel
theorem dX6_filler_39 : decode cX6_filler 39 = .ok (.invokespecial 38, 3) := by decide +kernel
theorem dX6_filler_42 : decode cX6_filler 42 = .ok (.athrow, 1) := by decide +kernel
theorem dX6_filler_43 : decode cX6_filler 43 = .ok (.aload_n 0, 1) := by decide +kernel
theorem dX6_filler_44 : decode cX6_filler 44 = .ok (.getfield 12, 3) := by decide +kernel
theorem dX6_filler_47 : decode cX6_filler 47 = .ok (.getfield 70, 3) := by decide +kernel
theorem dX6_filler_50 : decode cX6_filler 50 = .ok (.iload_n 1, 1) := by decide +kernel
theorem dX6_filler_51 : decode cX6_filler 51 = .ok (.iload_n 2, 1) := by decide +kernel
theorem dX6_filler_52 : decode cX6_filler 52 = .ok (.invokevirtual 144, 3) := by decide +kernel
theorem dX6_filler_55 : decode cX6_filler 55 = .ok (.ireturn, 1) := by decide +kernel
theorem dX6_value_0 : decode cX6_value 0 = .ok (.iload_n 1, 1) := by decide +kernel
theorem dX6_value_1 : decode cX6_value 1 = .ok (.ifCond .lt 9, 3) := by decide +kernel
theorem dX6_value_4 : decode cX6_value 4 = .ok (.iload_n 1, 1) := by decide +kernel
theorem dX6_value_5 : decode cX6_value 5 = .ok (.bipush 13, 2) := by decide +kernel
theorem dX6_value_7 : decode cX6_value 7 = .ok (.if_icmp .le 13, 3) := by decide +kernel
theorem dX6_value_10 : decode cX6_value 10 = .ok (.new 34, 3) := by decide +kernel
theorem dX6_value_13 : decode cX6_value 13 = .ok (.dup, 1) := by decide +kernel
theorem dX6_value_14 : decode cX6_value 14 = .ok (.ldc 135, 2) := by decide +kernel
theorem dX6_value_16 : decode cX6_value 16 = .ok (.invokespecial 38, 3) := by decide +kernel
theorem dX6_value_19 : decode cX6_value 19 = .ok (.athrow, 1) := by decide +kernel
theorem dX6_value_20 : decode cX6_value 20 = .ok (.aload_n 0, 1) := by decide +kernel
theorem dX6_value_21 : decode cX6_value 21 = .ok (.getfield 12, 3) := by decide +kernel
theorem dX6_value_24 : decode cX6_value 24 = .ok (.iload_n 1, 1) := by decide +kernel
theorem dX6_value_25 : decode cX6_value 25 = .ok (.invokevirtual 145, 3) := by decide +kernel
theorem dX6_value_28 : decode cX6_value 28 = .ok (.ireturn, 1) := by decide +kernel
theorem dX6_entry_0 : decode cX6_entry 0 = .ok (.aload_n 0, 1) := by decide +kernel
theorem dX6_entry_1 : decode cX6_entry 1 = .ok (.getfield 12, 3) := by decide +kernel
theorem dX6_entry_4 : decode cX6_entry 4 = .ok (.getfield 147, 3) := by decide +kernel
theorem dX6_entry_7 : decode cX6_entry 7 = .ok (.iload_n 1, 1) := by decide +kernel
theorem dX6_entry_8 : decode cX6_entry 8 = .ok (.invokevirtual 151, 3) := by decide +kernel
theorem dX6_entry_11 : decode cX6_entry 11 = .ok (.ifCond .ne 13, 3) := by decide +kernel
theorem dX6_entry_14 : decode cX6_entry 14 = .ok (.new 86, 3) := by decide +kernel
theorem dX6_entry_17 : decode cX6_entry 17 = .ok (.dup, 1) := by decide +kernel
theorem dX6_entry_18 : decode cX6_entry 18 = .ok (.ldc 154, 2) := by decide +kernel
theorem dX6_entry_20 : decode cX6_entry 20 = .ok (.invokespecial 90, 3) := by decide +kernel
theorem dX6_entry_23 : decode cX6_entry 23 = .ok (.athrow, 1) := by decide +kernel
theorem dX6_entry_24 : decode cX6_entry 24 = .ok (.iload_n 2, 1) := by decide +kernel
theorem dX6_entry_25 : decode cX6_entry 25 = .ok (.ifCond .lt 8, 3) := by decide +kernel
theorem dX6_entry_28 : decode cX6_entry 28 = .ok (.iload_n 2, 1) := by decide +kernel
theorem dX6_entry_29 : decode cX6_entry 29 = .ok (.iconst 2, 1) := by decide +kernel
theorem dX6_entry_30 : decode cX6_entry 30 = .ok (.if_icmp .le 13, 3) := by decide +kernel
theorem dX6_entry_33 : decode cX6_entry 33 = .ok (.new 34, 3) := by decide +kernel
theorem dX6_entry_36 : decode cX6_entry 36 = .ok (.dup, 1) := by decide +kernel
theorem dX6_entry_37 : decode cX6_entry 37 = .ok (.ldc 135, 2) := by decide +kernel
theorem dX6_entry_39 : decode cX6_entry 39 = .ok (.invokespecial 38, 3) := by decide +kernel
theorem dX6_entry_42 : decode cX6_entry 42 = .ok (.athrow, 1) := by decide +kernel
theorem dX6_entry_43 : decode cX6_entry 43 = .ok (.aload_n 0, 1) := by decide +kernel
theorem dX6_entry_44 : decode cX6_entry 44 = .ok (.getfield 12, 3) := by decide +kernel
theorem dX6_entry_47 : decode cX6_entry 47 = .ok (.getfield 147, 3) := by decide +kernel
theorem dX6_entry_50 : decode cX6_entry 50 = .ok (.iload_n 1, 1) := by decide +kernel
theorem dX6_entry_51 : decode cX6_entry 51 = .ok (.iload_n 2, 1) := by decide +kernel
theorem dX6_entry_52 : decode cX6_entry 52 = .ok (.invokevirtual 156, 3) := by decide +kernel
theorem dX6_entry_55 : decode cX6_entry 55 = .ok (.ireturn, 1) := by decide +kernel
theorem dX6_backTime_0 : decode cX6_backTime 0 = .ok (.aload_n 0, 1) := by decide +kernel
theorem dX6_backTime_1 : decode cX6_backTime 1 = .ok (.getfield 12, 3) := by decide +kernel
theorem dX6_backTime_4 : decode cX6_backTime 4 = .ok (.getfield 49, 3) := by decide +kernel
theorem dX6_backTime_7 : decode cX6_backTime 7 = .ok (.iload_n 1, 1) := by decide +kernel
theorem dX6_backTime_8 : decode cX6_backTime 8 = .ok (.invokevirtual 82, 3) := by decide +kernel
theorem dX6_backTime_11 : decode cX6_backTime 11 = .ok (.ifCond .ne 13, 3) := by decide +kernel
theorem dX6_backTime_14 : decode cX6_backTime 14 = .ok (.new 86, 3) := by decide +kernel
theorem dX6_backTime_17 : decode cX6_backTime 17 = .ok (.dup, 1) := by decide +kernel
theorem dX6_backTime_18 : decode cX6_backTime 18 = .ok (.ldc 88, 2) := by decide +kernel
theorem dX6_backTime_20 : decode cX6_backTime 20 = .ok (.invokespecial 90, 3) := by decide +kernel
theorem dX6_backTime_23 : decode cX6_backTime 23 = .ok (.athrow, 1) := by decide +kernel
theorem dX6_backTime_24 : decode cX6_backTime 24 = .ok (.aload_n 0, 1) := by decide +kernel
theorem dX6_backTime_25 : decode cX6_backTime 25 = .ok (.getfield 12, 3) := by decide +kernel
theorem dX6_backTime_28 : decode cX6_backTime 28 = .ok (.getfield 49, 3) := by decide +kernel
theorem dX6_backTime_31 : decode cX6_backTime 31 = .ok (.iload_n 1, 1) := by decide +kernel
theorem dX6_backTime_32 : decode cX6_backTime 32 = .ok (.invokevirtual 157, 3) := by decide +kernel
theorem dX6_backTime_35 : decode cX6_backTime 35 = .ok (.ireturn, 1) := by decide +kernel
theorem dX6_sounding_0 : decode cX6_sounding 0 = .ok (.aload_n 0, 1) := by decide +kernel
theorem dX6_sounding_1 : decode cX6_sounding 1 = .ok (.getfield 12, 3) := by decide +kernel
theorem dX6_sounding_4 : decode cX6_sounding 4 = .ok (.getfield 120, 3) := by decide +kernel
theorem dX6_sounding_7 : decode cX6_sounding 7 = .ok (.ifCond .ne 5, 3) := by decide +kernel
theorem dX6_sounding_10 : decode cX6_sounding 10 = .ok (.dconst 1, 1) := by decide +kernel
theorem dX6_sounding_11 : decode cX6_sounding 11 = .ok (.dreturn, 1) := by decide +kernel
theorem dX6_sounding_12 : decode cX6_sounding 12 = .ok (.aload_n 0, 1) := by decide +kernel
theorem dX6_sounding_13 : decode cX6_sounding 13 = .ok (.getfield 12, 3) := by decide +kernel
theorem dX6_sounding_16 : decode cX6_sounding 16 = .ok (.getfield 120, 3) := by decide +kernel
theorem dX6_sounding_19 : decode cX6_sounding 19 = .ok (.aload_n 0, 1) := by decide +kernel
theorem dX6_sounding_20 : decode cX6_sounding 20 = .ok (.getfield 12, 3) := by decide +kernel
theorem dX6_sounding_23 : decode cX6_sounding 23 = .ok (.getfield 170, 3) := by decide +kernel
theorem dX6_sounding_26 : decode cX6_sounding 26 = .ok (.isub, 1) := by decide +kernel
theorem dX6_sounding_27 : decode cX6_sounding 27 = .ok (.i2d, 1) := by decide +kernel
theorem dX6_sounding_28 : decode cX6_sounding 28 = .ok (.aload_n 0, 1) := by decide +kernel
theorem dX6_sounding_29 : decode cX6_sounding 29 = .ok (.getfield 12, 3) := by decide +kernel
theorem dX6_sounding_32 : decode cX6_sounding 32 = .ok (.getfield 120, 3) := by decide +kernel
theorem dX6_sounding_35 : decode cX6_sounding 35 = .ok (.i2d, 1) := by decide +kernel
theorem dX6_sounding_36 : decode cX6_sounding 36 = .ok (.ddiv, 1) := by decide +kernel
theorem dX6_sounding_37 : decode cX6_sounding 37 = .ok (.dreturn, 1) := by decide +kernel
theorem dX6_save_0 : decode cX6_save 0 = .ok (.aload_n 0, 1) := by decide +kernel
theorem dX6_save_1 : decode cX6_save 1 = .ok (.getfield 23, 3) := by decide +kernel
theorem dX6_save_4 : decode cX6_save 4 = .ok (.iconst 4, 1) := by decide +kernel
theorem dX6_save_5 : decode cX6_save 5 = .ok (.if_icmp .lt 7, 3) := by decide +kernel
theorem dX6_save_8 : decode cX6_save 8 = .ok (.aload_n 0, 1) := by decide +kernel
theorem dX6_save_9 : decode cX6_save 9 = .ok (.invokevirtual 207, 3) := by decide +kernel
theorem dX6_save_12 : decode cX6_save 12 = .ok (.aload_n 0, 1) := by decide +kernel
theorem dX6_save_13 : decode cX6_save 13 = .ok (.getfield 19, 3) := by decide +kernel
theorem dX6_save_16 : decode cX6_save 16 = .ok (.aload_n 0, 1) := by decide +kernel
theorem dX6_save_17 : decode cX6_save 17 = .ok (.getfield 23, 3) := by decide +kernel
theorem dX6_save_20 : decode cX6_save 20 = .ok (.aaload, 1) := by decide +kernel
theorem dX6_save_21 : decode cX6_save 21 = .ok (.aload_n 0, 1) := by decide +kernel
theorem dX6_save_22 : decode cX6_save 22 = .ok (.getfield 12, 3) := by decide +kernel
theorem dX6_save_25 : decode cX6_save 25 = .ok (.invokevirtual 196, 3) := by decide +kernel
theorem dX6_save_28 : decode cX6_save 28 = .ok (.aload_n 0, 1) := by decide +kernel
theorem dX6_save_29 : decode cX6_save 29 = .ok (.dup, 1) := by decide +kernel
theorem dX6_save_30 : decode cX6_save 30 = .ok (.getfield 23, 3) := by decide +kernel
theorem dX6_save_33 : decode cX6_save 33 = .ok (.iconst 1, 1) := by decide +kernel
theorem dX6_save_34 : decode cX6_save 34 = .ok (.iadd, 1) := by decide +kernel
theorem dX6_save_35 : decode cX6_save 35 = .ok (.putfield 23, 3) := by decide +kernel
theorem dX6_save_38 : decode cX6_save 38 = .ok (.return_, 1) := by decide +kernel
theorem dX6_forgetOldest_0 : decode cX6_forgetOldest 0 = .ok (.aload_n 0, 1) := by decide +kernel
theorem dX6_forgetOldest_1 : decode cX6_forgetOldest 1 = .ok (.getfield 19, 3) := by decide +kernel
theorem dX6_forgetOldest_4 : decode cX6_forgetOldest 4 = .ok (.iconst 0, 1) := by decide +kernel
theorem dX6_forgetOldest_5 : decode cX6_forgetOldest 5 = .ok (.aaload, 1) := by decide +kernel
theorem dX6_forgetOldest_6 : decode cX6_forgetOldest 6 = .ok (.astore_n 1, 1) := by decide +kernel
theorem dX6_forgetOldest_7 : decode cX6_forgetOldest 7 = .ok (.iconst 1, 1) := by decide +kernel
theorem dX6_forgetOldest_8 : decode cX6_forgetOldest 8 = .ok (.istore_n 2, 1) := by decide +kernel
theorem dX6_forgetOldest_9 : decode cX6_forgetOldest 9 = .ok (.iload_n 2, 1) := by decide +kernel
theorem dX6_forgetOldest_10 : decode cX6_forgetOldest 10 = .ok (.iconst 4, 1) := by decide +kernel
theorem dX6_forgetOldest_11 : decode cX6_forgetOldest 11 = .ok (.if_icmp .ge 23, 3) := by decide +kernel
theorem dX6_forgetOldest_14 : decode cX6_forgetOldest 14 = .ok (.aload_n 0, 1) := by decide +kernel
theorem dX6_forgetOldest_15 : decode cX6_forgetOldest 15 = .ok (.getfield 19, 3) := by decide +kernel
theorem dX6_forgetOldest_18 : decode cX6_forgetOldest 18 = .ok (.iload_n 2, 1) := by decide +kernel
theorem dX6_forgetOldest_19 : decode cX6_forgetOldest 19 = .ok (.iconst 1, 1) := by decide +kernel
theorem dX6_forgetOldest_20 : decode cX6_forgetOldest 20 = .ok (.isub, 1) := by decide +kernel
theorem dX6_forgetOldest_21 : decode cX6_forgetOldest 21 = .ok (.aload_n 0, 1) := by decide +kernel
theorem dX6_forgetOldest_22 : decode cX6_forgetOldest 22 = .ok (.getfield 19, 3) := by decide +kernel
theorem dX6_forgetOldest_25 : decode cX6_forgetOldest 25 = .ok (.iload_n 2, 1) := by decide +kernel
theorem dX6_forgetOldest_26 : decode cX6_forgetOldest 26 = .ok (.aaload, 1) := by decide +kernel
theorem dX6_forgetOldest_27 : decode cX6_forgetOldest 27 = .ok (.aastore, 1) := by decide +kernel
theorem dX6_forgetOldest_28 : decode cX6_forgetOldest 28 = .ok (.iinc 2 1, 3) := by decide +kernel
theorem dX6_forgetOldest_31 : decode cX6_forgetOldest 31 = .ok (.goto (-22), 3) := by decide +kernel
theorem dX6_forgetOldest_34 : decode cX6_forgetOldest 34 = .ok (.aload_n 0, 1) := by decide +kernel
theorem dX6_forgetOldest_35 : decode cX6_forgetOldest 35 = .ok (.getfield 19, 3) := by decide +kernel
theorem dX6_forgetOldest_38 : decode cX6_forgetOldest 38 = .ok (.iconst 3, 1) := by decide +kernel
theorem dX6_forgetOldest_39 : decode cX6_forgetOldest 39 = .ok (.aload_n 1, 1) := by decide +kernel
theorem dX6_forgetOldest_40 : decode cX6_forgetOldest 40 = .ok (.aastore, 1) := by decide +kernel
theorem dX6_forgetOldest_41 : decode cX6_forgetOldest 41 = .ok (.aload_n 0, 1) := by decide +kernel
theorem dX6_forgetOldest_42 : decode cX6_forgetOldest 42 = .ok (.iconst 3, 1) := by decide +kernel
theorem dX6_forgetOldest_43 : decode cX6_forgetOldest 43 = .ok (.putfield 23, 3) := by decide +kernel
theorem dX6_forgetOldest_46 : decode cX6_forgetOldest 46 = .ok (.return_, 1) := by decide +kernel
