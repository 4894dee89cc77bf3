theorem dX6_init_0 : decode cX6_init 0 = .ok (.aload_n 0, 1) := by decide +kernel
theorem dX6_init_1 : decode cX6_init 1 = .ok (.invokespecial 3, 3) := by decide +kernel
theorem dX6_init_4 : decode cX6_init 4 = .ok (.aload_n 0, 1) := by decide +kernel
theorem dX6_init_5 : decode cX6_init 5 = .ok (.new 9, 3) := by decide +kernel
theorem dX6_init_8 : decode cX6_init 8 = .ok (.dup, 1) := by decide +kernel
theorem dX6_init_9 : decode cX6_init 9 = .ok (.invokespecial 11, 3) := by decide +kernel
theorem dX6_init_12 : decode cX6_init 12 = .ok (.putfield 12, 3) := by decide +kernel
theorem dX6_init_15 : decode cX6_init 15 = .ok (.aload_n 0, 1) := by decide +kernel
theorem dX6_init_16 : decode cX6_init 16 = .ok (.new 9, 3) := by decide +kernel
theorem dX6_init_19 : decode cX6_init 19 = .ok (.dup, 1) := by decide +kernel
theorem dX6_init_20 : decode cX6_init 20 = .ok (.invokespecial 11, 3) := by decide +kernel
theorem dX6_init_23 : decode cX6_init 23 = .ok (.putfield 16, 3) := by decide +kernel
theorem dX6_init_26 : decode cX6_init 26 = .ok (.aload_n 0, 1) := by decide +kernel
theorem dX6_init_27 : decode cX6_init 27 = .ok (.iconst 4, 1) := by decide +kernel
theorem dX6_init_28 : decode cX6_init 28 = .ok (.anewarray 9, 3) := by decide +kernel
theorem dX6_init_31 : decode cX6_init 31 = .ok (.putfield 19, 3) := by decide +kernel
theorem dX6_init_34 : decode cX6_init 34 = .ok (.aload_n 0, 1) := by decide +kernel
theorem dX6_init_35 : decode cX6_init 35 = .ok (.iconst 0, 1) := by decide +kernel
theorem dX6_init_36 : decode cX6_init 36 = .ok (.putfield 23, 3) := by decide +kernel
theorem dX6_init_39 : decode cX6_init 39 = .ok (.aload_n 0, 1) := by decide +kernel
theorem dX6_init_40 : decode cX6_init 40 = .ok (.new 27, 3) := by decide +kernel
theorem dX6_init_43 : decode cX6_init 43 = .ok (.dup, 1) := by decide +kernel
theorem dX6_init_44 : decode cX6_init 44 = .ok (.invokespecial 29, 3) := by decide +kernel
theorem dX6_init_47 : decode cX6_init 47 = .ok (.putfield 30, 3) := by decide +kernel
theorem dX6_init_50 : decode cX6_init 50 = .ok (.iconst 0, 1) := by decide +kernel
theorem dX6_init_51 : decode cX6_init 51 = .ok (.istore_n 1, 1) := by decide +kernel
theorem dX6_init_52 : decode cX6_init 52 = .ok (.iload_n 1, 1) := by decide +kernel
theorem dX6_init_53 : decode cX6_init 53 = .ok (.iconst 4, 1) := by decide +kernel
theorem dX6_init_54 : decode cX6_init 54 = .ok (.if_icmp .ge 22, 3) := by decide +kernel
theorem dX6_init_57 : decode cX6_init 57 = .ok (.aload_n 0, 1) := by decide +kernel
theorem dX6_init_58 : decode cX6_init 58 = .ok (.getfield 19, 3) := by decide +kernel
theorem dX6_init_61 : decode cX6_init 61 = .ok (.iload_n 1, 1) := by decide +kernel
theorem dX6_init_62 : decode cX6_init 62 = .ok (.new 9, 3) := by decide +kernel
theorem dX6_init_65 : decode cX6_init 65 = .ok (.dup, 1) := by decide +kernel
theorem dX6_init_66 : decode cX6_init 66 = .ok (.invokespecial 11, 3) := by decide +kernel
theorem dX6_init_69 : decode cX6_init 69 = .ok (.aastore, 1) := by decide +kernel
theorem dX6_init_70 : decode cX6_init 70 = .ok (.iinc 1 1, 3) := by decide +kernel
theorem dX6_init_73 : decode cX6_init 73 = .ok (.goto (-21), 3) := by decide +kernel
theorem dX6_init_76 : decode cX6_init 76 = .ok (.return_, 1) := by decide +kernel
theorem dX6_addElement_0 : decode cX6_addElement 0 = .ok (.iload_n 1, 1) := by decide +kernel
theorem dX6_addElement_1 : decode cX6_addElement 1 = .ok (.iconst 1, 1) := by decide +kernel
theorem dX6_addElement_2 : decode cX6_addElement 2 = .ok (.if_icmp .lt 10, 3) := by decide +kernel
theorem dX6_addElement_5 : decode cX6_addElement 5 = .ok (.iload_n 1, 1) := by decide +kernel
theorem dX6_addElement_6 : decode cX6_addElement 6 = .ok (.sipush 1800, 3) := by decide +kernel
theorem dX6_addElement_9 : decode cX6_addElement 9 = .ok (.if_icmp .le 13, 3) := by decide +kernel
theorem dX6_addElement_12 : decode cX6_addElement 12 = .ok (.new 34, 3) := by decide +kernel
theorem dX6_addElement_15 : decode cX6_addElement 15 = .ok (.dup, 1) := by decide +kernel
theorem dX6_addElement_16 : decode cX6_addElement 16 = .ok (.ldc 36, 2) := by decide +kernel
theorem dX6_addElement_18 : decode cX6_addElement 18 = .ok (.invokespecial 38, 3) := by decide +kernel
theorem dX6_addElement_21 : decode cX6_addElement 21 = .ok (.athrow, 1) := by decide +kernel
theorem dX6_addElement_22 : decode cX6_addElement 22 = .ok (.iload_n 2, 1) := by decide +kernel
theorem dX6_addElement_23 : decode cX6_addElement 23 = .ok (.iconst (-1), 1) := by decide +kernel
theorem dX6_addElement_24 : decode cX6_addElement 24 = .ok (.if_icmp .eq 24, 3) := by decide +kernel
theorem dX6_addElement_27 : decode cX6_addElement 27 = .ok (.iload_n 2, 1) := by decide +kernel
theorem dX6_addElement_28 : decode cX6_addElement 28 = .ok (.ifCond .lt 10, 3) := by decide +kernel
theorem dX6_addElement_31 : decode cX6_addElement 31 = .ok (.iload_n 2, 1) := by decide +kernel
theorem dX6_addElement_32 : decode cX6_addElement 32 = .ok (.sipush 3600, 3) := by decide +kernel
theorem dX6_addElement_35 : decode cX6_addElement 35 = .ok (.if_icmp .lt 13, 3) := by decide +kernel
theorem dX6_addElement_38 : decode cX6_addElement 38 = .ok (.new 34, 3) := by decide +kernel
theorem dX6_addElement_41 : decode cX6_addElement 41 = .ok (.dup, 1) := by decide +kernel
theorem dX6_addElement_42 : decode cX6_addElement 42 = .ok (.ldc 41, 2) := by decide +kernel
theorem dX6_addElement_44 : decode cX6_addElement 44 = .ok (.invokespecial 38, 3) := by decide +kernel
theorem dX6_addElement_47 : decode cX6_addElement 47 = .ok (.athrow, 1) := by decide +kernel
theorem dX6_addElement_48 : decode cX6_addElement 48 = .ok (.iload_n 3, 1) := by decide +kernel
theorem dX6_addElement_49 : decode cX6_addElement 49 = .ok (.ifCond .lt 9, 3) := by decide +kernel
theorem dX6_addElement_52 : decode cX6_addElement 52 = .ok (.iload_n 3, 1) := by decide +kernel
theorem dX6_addElement_53 : decode cX6_addElement 53 = .ok (.bipush 9, 2) := by decide +kernel
theorem dX6_addElement_55 : decode cX6_addElement 55 = .ok (.if_icmp .le 13, 3) := by decide +kernel
theorem dX6_addElement_58 : decode cX6_addElement 58 = .ok (.new 34, 3) := by decide +kernel
theorem dX6_addElement_61 : decode cX6_addElement 61 = .ok (.dup, 1) := by decide +kernel
theorem dX6_addElement_62 : decode cX6_addElement 62 = .ok (.ldc 43, 2) := by decide +kernel
theorem dX6_addElement_64 : decode cX6_addElement 64 = .ok (.invokespecial 38, 3) := by decide +kernel
theorem dX6_addElement_67 : decode cX6_addElement 67 = .ok (.athrow, 1) := by decide +kernel
theorem dX6_addElement_68 : decode cX6_addElement 68 = .ok (.aload_n 0, 1) := by decide +kernel
theorem dX6_addElement_69 : decode cX6_addElement 69 = .ok (.getfield 12, 3) := by decide +kernel
theorem dX6_addElement_72 : decode cX6_addElement 72 = .ok (.getfield 45, 3) := by decide +kernel
theorem dX6_addElement_75 : decode cX6_addElement 75 = .ok (.ifCond .ne 18, 3) := by decide +kernel
theorem dX6_addElement_78 : decode cX6_addElement 78 = .ok (.aload_n 0, 1) := by decide +kernel
theorem dX6_addElement_79 : decode cX6_addElement 79 = .ok (.getfield 12, 3) := by decide +kernel
theorem dX6_addElement_82 : decode cX6_addElement 82 = .ok (.getfield 49, 3) := by decide +kernel
theorem dX6_addElement_85 : decode cX6_addElement 85 = .ok (.getfield 53, 3) := by decide +kernel
theorem dX6_addElement_88 : decode cX6_addElement 88 = .ok (.bipush 12, 2) := by decide +kernel
theorem dX6_addElement_90 : decode cX6_addElement 90 = .ok (.if_icmp .lt 13, 3) := by decide +kernel
theorem dX6_addElement_93 : decode cX6_addElement 93 = .ok (.new 58, 3) := by decide +kernel
theorem dX6_addElement_96 : decode cX6_addElement 96 = .ok (.dup, 1) := by decide +kernel
theorem dX6_addElement_97 : decode cX6_addElement 97 = .ok (.ldc 60, 2) := by decide +kernel
theorem dX6_addElement_99 : decode cX6_addElement 99 = .ok (.invokespecial 62, 3) := by decide +kernel
theorem dX6_addElement_102 : decode cX6_addElement 102 = .ok (.athrow, 1) := by decide +kernel
theorem dX6_addElement_103 : decode cX6_addElement 103 = .ok (.aload_n 0, 1) := by decide +kernel
theorem dX6_addElement_104 : decode cX6_addElement 104 = .ok (.invokevirtual 63, 3) := by decide +kernel
theorem dX6_addElement_107 : decode cX6_addElement 107 = .ok (.aload_n 0, 1) := by decide +kernel
theorem dX6_addElement_108 : decode cX6_addElement 108 = .ok (.getfield 12, 3) := by decide +kernel
theorem dX6_addElement_111 : decode cX6_addElement 111 = .ok (.getfield 49, 3) := by decide +kernel
theorem dX6_addElement_114 : decode cX6_addElement 114 = .ok (.iload_n 1, 1) := by decide +kernel
theorem dX6_addElement_115 : decode cX6_addElement 115 = .ok (.iload_n 2, 1) := by decide +kernel
theorem dX6_addElement_116 : decode cX6_addElement 116 = .ok (.iload_n 3, 1) := by decide +kernel
theorem dX6_addElement_117 : decode cX6_addElement 117 = .ok (.invokevirtual 66, 3) := by decide +kernel
theorem dX6_addElement_120 : decode cX6_addElement 120 = .ok (.aload_n 0, 1) := by decide +kernel
theorem dX6_addElement_121 : decode cX6_addElement 121 = .ok (.getfield 12, 3) := by decide +kernel
theorem dX6_addElement_124 : decode cX6_addElement 124 = .ok (.getfield 49, 3) := by decide +kernel
theorem dX6_addElement_127 : decode cX6_addElement 127 = .ok (.getfield 53, 3) := by decide +kernel
theorem dX6_addElement_130 : decode cX6_addElement 130 = .ok (.iconst 1, 1) := by decide +kernel
theorem dX6_addElement_131 : decode cX6_addElement 131 = .ok (.isub, 1) := by decide +kernel
theorem dX6_addElement_132 : decode cX6_addElement 132 = .ok (.ireturn, 1) := by decide +kernel
theorem dX6_addFiller_0 : decode cX6_addFiller 0 = .ok (.iload_n 1, 1) := by decide +kernel
theorem dX6_addFiller_1 : decode cX6_addFiller 1 = .ok (.iconst 1, 1) := by decide +kernel
theorem dX6_addFiller_2 : decode cX6_addFiller 2 = .ok (.if_icmp .lt 10, 3) := by decide +kernel
theorem dX6_addFiller_5 : decode cX6_addFiller 5 = .ok (.iload_n 1, 1) := by decide +kernel
theorem dX6_addFiller_6 : decode cX6_addFiller 6 = .ok (.sipush 900, 3) := by decide +kernel
theorem dX6_addFiller_9 : decode cX6_addFiller 9 = .ok (.if_icmp .le 13, 3) := by decide +kernel
theorem dX6_addFiller_12 : decode cX6_addFiller 12 = .ok (.new 34, 3) := by decide +kernel
theorem dX6_addFiller_15 : decode cX6_addFiller 15 = .ok (.dup, 1) := by decide +kernel
theorem dX6_addFiller_16 : decode cX6_addFiller 16 = .ok (.ldc 36, 2) := by decide +kernel
theorem dX6_addFiller_18 : decode cX6_addFiller 18 = .ok (.invokespecial 38, 3) := by decide +kernel
theorem dX6_addFiller_21 : decode cX6_addFiller 21 = .ok (.athrow, 1) := by decide +kernel
theorem dX6_addFiller_22 : decode cX6_addFiller 22 = .ok (.aload_n 0, 1) := by decide +kernel
theorem dX6_addFiller_23 : decode cX6_addFiller 23 = .ok (.getfield 12, 3) := by decide +kernel
theorem dX6_addFiller_26 : decode cX6_addFiller 26 = .ok (.getfield 45, 3) := by decide +kernel
theorem dX6_addFiller_29 : decode cX6_addFiller 29 = .ok (.ifCond .ne 18, 3) := by decide +kernel
theorem dX6_addFiller_32 : decode cX6_addFiller 32 = .ok (.aload_n 0, 1) := by decide +kernel
theorem dX6_addFiller_33 : decode cX6_addFiller 33 = .ok (.getfield 12, 3) := by decide +kernel
theorem dX6_addFiller_36 : decode cX6_addFiller 36 = .ok (.getfield 70, 3) := by decide +kernel
theorem dX6_addFiller_39 : decode cX6_addFiller 39 = .ok (.getfield 74, 3) := by decide +kernel
theorem dX6_addFiller_42 : decode cX6_addFiller 42 = .ok (.bipush 10, 2) := by decide +kernel
theorem dX6_addFiller_44 : decode cX6_addFiller 44 = .ok (.if_icmp .lt 13, 3) := by decide +kernel
theorem dX6_addFiller_47 : decode cX6_addFiller 47 = .ok (.new 58, 3) := by decide +kernel
theorem dX6_addFiller_50 : decode cX6_addFiller 50 = .ok (.dup, 1) := by decide +kernel
theorem dX6_addFiller_51 : decode cX6_addFiller 51 = .ok (.ldc 77, 2) := by decide +kernel
theorem dX6_addFiller_53 : decode cX6_addFiller 53 = .ok (.invokespecial 62, 3) := by decide +kernel
theorem dX6_addFiller_56 : decode cX6_addFiller 56 = .ok (.athrow, 1) := by decide +kernel
theorem dX6_addFiller_57 : decode cX6_addFiller 57 = .ok (.aload_n 0, 1) := by decide +kernel
theorem dX6_addFiller_58 : decode cX6_addFiller 58 = .ok (.invokevirtual 63, 3) := by decide +kernel
theorem dX6_addFiller_61 : decode cX6_addFiller 61 = .ok (.aload_n 0, 1) := by decide +kernel
theorem dX6_addFiller_62 : decode cX6_addFiller 62 = .ok (.getfield 12, 3) := by decide +kernel
theorem dX6_addFiller_65 : decode cX6_addFiller 65 = .ok (.getfield 70, 3) := by decide +kernel
theorem dX6_addFiller_68 : decode cX6_addFiller 68 = .ok (.iload_n 1, 1) := by decide +kernel
theorem dX6_addFiller_69 : decode cX6_addFiller 69 = .ok (.invokevirtual 79, 3) := by decide +kernel
theorem dX6_addFiller_72 : decode cX6_addFiller 72 = .ok (.aload_n 0, 1) := by decide +kernel
theorem dX6_addFiller_73 : decode cX6_addFiller 73 = .ok (.getfield 12, 3) := by decide +kernel
theorem dX6_addFiller_76 : decode cX6_addFiller 76 = .ok (.getfield 70, 3) := by decide +kernel
theorem dX6_addFiller_79 : decode cX6_addFiller 79 = .ok (.getfield 74, 3) := by decide +kernel
theorem dX6_addFiller_82 : decode cX6_addFiller 82 = .ok (.iconst 1, 1) := by decide +kernel
theorem dX6_addFiller_83 : decode cX6_addFiller 83 = .ok (.isub, 1) := by decide +kernel
theorem dX6_addFiller_84 : decode cX6_addFiller 84 = .ok (.ireturn, 1) := by decide +kernel
theorem dX6_stretch_0 : decode cX6_stretch 0 = .ok (.aload_n 0, 1) := by decide +kernel
theorem dX6_stretch_1 : decode cX6_stretch 1 = .ok (.getfield 12, 3) := by decide +kernel
theorem dX6_stretch_4 : decode cX6_stretch 4 = .ok (.getfield 49, 3) := by decide +kernel
theorem dX6_stretch_7 : decode cX6_stretch 7 = .ok (.iload_n 1, 1) := by decide +kernel
theorem dX6_stretch_8 : decode cX6_stretch 8 = .ok (.invokevirtual 82, 3) := by decide +kernel
theorem dX6_stretch_11 : decode cX6_stretch 11 = .ok (.ifCond .ne 13, 3) := by decide +kernel
theorem dX6_stretch_14 : decode cX6_stretch 14 = .ok (.new 86, 3) := by decide +kernel
theorem dX6_stretch_17 : decode cX6_stretch 17 = .ok (.dup, 1) := by decide +kernel
theorem dX6_stretch_18 : decode cX6_stretch 18 = .ok (.ldc 88, 2) := by decide +kernel
theorem dX6_stretch_20 : decode cX6_stretch 20 = .ok (.invokespecial 90, 3) := by decide +kernel
theorem dX6_stretch_23 : decode cX6_stretch 23 = .ok (.athrow, 1) := by decide +kernel
theorem dX6_stretch_24 : decode cX6_stretch 24 = .ok (.iload_n 2, 1) := by decide +kernel
theorem dX6_stretch_25 : decode cX6_stretch 25 = .ok (.sipush (-1800), 3) := by decide +kernel
theorem dX6_stretch_28 : decode cX6_stretch 28 = .ok (.if_icmp .lt 10, 3) := by decide +kernel
theorem dX6_stretch_31 : decode cX6_stretch 31 = .ok (.iload_n 2, 1) := by decide +kernel
theorem dX6_stretch_32 : decode cX6_stretch 32 = .ok (.sipush 1800, 3) := by decide +kernel
theorem dX6_stretch_35 : decode cX6_stretch 35 = .ok (.if_icmp .le 13, 3) := by decide +kernel
theorem dX6_stretch_38 : decode cX6_stretch 38 = .ok (.new 34, 3) := by decide +kernel
theorem dX6_stretch_41 : decode cX6_stretch 41 = .ok (.dup, 1) := by decide +kernel
theorem dX6_stretch_42 : decode cX6_stretch 42 = .ok (.ldc 91, 2) := by decide +kernel
theorem dX6_stretch_44 : decode cX6_stretch 44 = .ok (.invokespecial 38, 3) := by decide +kernel
theorem dX6_stretch_47 : decode cX6_stretch 47 = .ok (.athrow, 1) := by decide +kernel
theorem dX6_stretch_48 : decode cX6_stretch 48 = .ok (.aload_n 0, 1) := by decide +kernel
theorem dX6_stretch_49 : decode cX6_stretch 49 = .ok (.getfield 12, 3) := by decide +kernel
theorem dX6_stretch_52 : decode cX6_stretch 52 = .ok (.getfield 49, 3) := by decide +kernel
theorem dX6_stretch_55 : decode cX6_stretch 55 = .ok (.getfield 93, 3) := by decide +kernel
theorem dX6_stretch_58 : decode cX6_stretch 58 = .ok (.iload_n 1, 1) := by decide +kernel
theorem dX6_stretch_59 : decode cX6_stretch 59 = .ok (.iaload, 1) := by decide +kernel
theorem dX6_stretch_60 : decode cX6_stretch 60 = .ok (.iload_n 2, 1) := by decide +kernel
theorem dX6_stretch_61 : decode cX6_stretch 61 = .ok (.iadd, 1) := by decide +kernel
theorem dX6_stretch_62 : decode cX6_stretch 62 = .ok (.istore_n 3, 1) := by decide +kernel
theorem dX6_stretch_63 : decode cX6_stretch 63 = .ok (.aload_n 0, 1) := by decide +kernel
theorem dX6_stretch_64 : decode cX6_stretch 64 = .ok (.getfield 12, 3) := by decide +kernel
theorem dX6_stretch_67 : decode cX6_stretch 67 = .ok (.iload_n 1, 1) := by decide +kernel
theorem dX6_stretch_68 : decode cX6_stretch 68 = .ok (.iload_n 3, 1) := by decide +kernel
theorem dX6_stretch_69 : decode cX6_stretch 69 = .ok (.invokevirtual 96, 3) := by decide +kernel
theorem dX6_stretch_72 : decode cX6_stretch 72 = .ok (.ifCond .ne 13, 3) := by decide +kernel
theorem dX6_stretch_75 : decode cX6_stretch 75 = .ok (.new 58, 3) := by decide +kernel
theorem dX6_stretch_78 : decode cX6_stretch 78 = .ok (.dup, 1) := by decide +kernel
theorem dX6_stretch_79 : decode cX6_stretch 79 = .ok (.ldc 100, 2) := by decide +kernel
theorem dX6_stretch_81 : decode cX6_stretch 81 = .ok (.invokespecial 62, 3) := by decide +kernel
theorem dX6_stretch_84 : decode cX6_stretch 84 = .ok (.athrow, 1) := by decide +kernel
theorem dX6_stretch_85 : decode cX6_stretch 85 = .ok (.aload_n 0, 1) := by decide +kernel
theorem dX6_stretch_86 : decode cX6_stretch 86 = .ok (.invokevirtual 63, 3) := by decide +kernel
theorem dX6_stretch_89 : decode cX6_stretch 89 = .ok (.aload_n 0, 1) := by decide +kernel
theorem dX6_stretch_90 : decode cX6_stretch 90 = .ok (.getfield 12, 3) := by decide +kernel
theorem dX6_stretch_93 : decode cX6_stretch 93 = .ok (.iload_n 1, 1) := by decide +kernel
theorem dX6_stretch_94 : decode cX6_stretch 94 = .ok (.iload_n 3, 1) := by decide +kernel
theorem dX6_stretch_95 : decode cX6_stretch 95 = .ok (.invokevirtual 102, 3) := by decide +kernel
theorem dX6_stretch_98 : decode cX6_stretch 98 = .ok (.iload_n 3, 1) := by decide +kernel
theorem dX6_stretch_99 : decode cX6_stretch 99 = .ok (.ireturn, 1) := by decide +kernel
theorem dX6_drop_0 : decode cX6_drop 0 = .ok (.aload_n 0, 1) := by decide +kernel
theorem dX6_drop_1 : decode cX6_drop 1 = .ok (.getfield 12, 3) := by decide +kernel
theorem dX6_drop_4 : decode cX6_drop 4 = .ok (.getfield 49, 3) := by decide +kernel
theorem dX6_drop_7 : decode cX6_drop 7 = .ok (.iload_n 1, 1) := by decide +kernel
theorem dX6_drop_8 : decode cX6_drop 8 = .ok (.invokevirtual 82, 3) := by decide +kernel
theorem dX6_drop_11 : decode cX6_drop 11 = .ok (.ifCond .ne 13, 3) := by decide +kernel
theorem dX6_drop_14 : decode cX6_drop 14 = .ok (.new 86, 3) := by decide +kernel
theorem dX6_drop_17 : decode cX6_drop 17 = .ok (.dup, 1) := by decide +kernel
theorem dX6_drop_18 : decode cX6_drop 18 = .ok (.ldc 88, 2) := by decide +kernel
theorem dX6_drop_20 : decode cX6_drop 20 = .ok (.invokespecial 90, 3) := by decide +kernel
theorem dX6_drop_23 : decode cX6_drop 23 = .ok (.athrow, 1) := by decide +kernel
theorem dX6_drop_24 : decode cX6_drop 24 = .ok (.aload_n 0, 1) := by decide +kernel
theorem dX6_drop_25 : decode cX6_drop 25 = .ok (.getfield 12, 3) := by decide +kernel
theorem dX6_drop_28 : decode cX6_drop 28 = .ok (.getfield 49, 3) := by decide +kernel
theorem dX6_drop_31 : decode cX6_drop 31 = .ok (.iload_n 1, 1) := by decide +kernel
theorem dX6_drop_32 : decode cX6_drop 32 = .ok (.invokevirtual 106, 3) := by decide +kernel
theorem dX6_drop_35 : decode cX6_drop 35 = .ok (.ifCond .ne 13, 3) := by decide +kernel
theorem dX6_drop_38 : decode cX6_drop 38 = .ok (.new 58, 3) := by decide +kernel
theorem dX6_drop_41 : decode cX6_drop 41 = .ok (.dup, 1) := by decide +kernel
theorem dX6_drop_42 : decode cX6_drop 42 = .ok (.ldc 109, 2) := by decide +kernel
theorem dX6_drop_44 : decode cX6_drop 44 = .ok (.invokespecial 62, 3) := by decide +kernel
theorem dX6_drop_47 : decode cX6_drop 47 = .ok (.athrow, 1) := by decide +kernel
theorem dX6_drop_48 : decode cX6_drop 48 = .ok (.aload_n 0, 1) := by decide +kernel
theorem dX6_drop_49 : decode cX6_drop 49 = .ok (.invokevirtual 63, 3) := by decide +kernel
theorem dX6_drop_52 : decode cX6_drop 52 = .ok (.aload_n 0, 1) := by decide +kernel
theorem dX6_drop_53 : decode cX6_drop 53 = .ok (.getfield 12, 3) := by decide +kernel
theorem dX6_drop_56 : decode cX6_drop 56 = .ok (.iload_n 1, 1) := by decide +kernel
theorem dX6_drop_57 : decode cX6_drop 57 = .ok (.invokevirtual 111, 3) := by decide +kernel
theorem dX6_drop_60 : decode cX6_drop 60 = .ok (.aload_n 0, 1) := by decide +kernel
theorem dX6_drop_61 : decode cX6_drop 61 = .ok (.getfield 12, 3) := by decide +kernel
theorem dX6_drop_64 : decode cX6_drop 64 = .ok (.getfield 49, 3) := by decide +kernel
theorem dX6_drop_67 : decode cX6_drop 67 = .ok (.iconst 0, 1) := by decide +kernel
theorem dX6_drop_68 : decode cX6_drop 68 = .ok (.invokevirtual 114, 3) := by decide +kernel
theorem dX6_drop_71 : decode cX6_drop 71 = .ok (.ireturn, 1) := by decide +kernel
theorem dX6_pass_0 : decode cX6_pass 0 = .ok (.iload_n 1, 1) := by decide +kernel
theorem dX6_pass_1 : decode cX6_pass 1 = .ok (.iconst 1, 1) := by decide +kernel
theorem dX6_pass_2 : decode cX6_pass 2 = .ok (.if_icmp .lt 10, 3) := by decide +kernel
theorem dX6_pass_5 : decode cX6_pass 5 = .ok (.iload_n 1, 1) := by decide +kernel
theorem dX6_pass_6 : decode cX6_pass 6 = .ok (.sipush 3600, 3) := by decide +kernel
theorem dX6_pass_9 : decode cX6_pass 9 = .ok (.if_icmp .le 13, 3) := by decide +kernel
theorem dX6_pass_12 : decode cX6_pass 12 = .ok (.new 34, 3) := by decide +kernel
theorem dX6_pass_15 : decode cX6_pass 15 = .ok (.dup, 1) := by decide +kernel
theorem dX6_pass_16 : decode cX6_pass 16 = .ok (.ldc 118, 2) := by decide +kernel
theorem dX6_pass_18 : decode cX6_pass 18 = .ok (.invokespecial 38, 3) := by decide +kernel
theorem dX6_pass_21 : decode cX6_pass 21 = .ok (.athrow, 1) := by decide +kernel
theorem dX6_pass_22 : decode cX6_pass 22 = .ok (.aload_n 0, 1) := by decide +kernel
theorem dX6_pass_23 : decode cX6_pass 23 = .ok (.invokevirtual 63, 3) := by decide +kernel
theorem dX6_pass_26 : decode cX6_pass 26 = .ok (.aload_n 0, 1) := by decide +kernel
theorem dX6_pass_27 : decode cX6_pass 27 = .ok (.getfield 12, 3) := by decide +kernel
theorem dX6_pass_30 : decode cX6_pass 30 = .ok (.getfield 120, 3) := by decide +kernel
theorem dX6_pass_33 : decode cX6_pass 33 = .ok (.istore_n 2, 1) := by decide +kernel
theorem dX6_pass_34 : decode cX6_pass 34 = .ok (.aload_n 0, 1) := by decide +kernel
theorem dX6_pass_35 : decode cX6_pass 35 = .ok (.getfield 12, 3) := by decide +kernel
theorem dX6_pass_38 : decode cX6_pass 38 = .ok (.iload_n 2, 1) := by decide +kernel
theorem dX6_pass_39 : decode cX6_pass 39 = .ok (.iload_n 1, 1) := by decide +kernel
theorem dX6_pass_40 : decode cX6_pass 40 = .ok (.iadd, 1) := by decide +kernel
theorem dX6_pass_41 : decode cX6_pass 41 = .ok (.invokevirtual 123, 3) := by decide +kernel
theorem dX6_pass_44 : decode cX6_pass 44 = .ok (.aload_n 0, 1) := by decide +kernel
theorem dX6_pass_45 : decode cX6_pass 45 = .ok (.getfield 12, 3) := by decide +kernel
theorem dX6_pass_48 : decode cX6_pass 48 = .ok (.getfield 120, 3) := by decide +kernel
theorem dX6_pass_51 : decode cX6_pass 51 = .ok (.iload_n 2, 1) := by decide +kernel
theorem dX6_pass_52 : decode cX6_pass 52 = .ok (.isub, 1) := by decide +kernel
theorem dX6_pass_53 : decode cX6_pass 53 = .ok (.ireturn, 1) := by decide +kernel
theorem dX6_finish_0 : decode cX6_finish 0 = .ok (.aload_n 0, 1) := by decide +kernel
theorem dX6_finish_1 : decode cX6_finish 1 = .ok (.invokevirtual 63, 3) := by decide +kernel
theorem dX6_finish_4 : decode cX6_finish 4 = .ok (.aload_n 0, 1) := by decide +kernel
theorem dX6_finish_5 : decode cX6_finish 5 = .ok (.getfield 12, 3) := by decide +kernel
theorem dX6_finish_8 : decode cX6_finish 8 = .ok (.ldc 126, 2) := by decide +kernel
theorem dX6_finish_10 : decode cX6_finish 10 = .ok (.invokevirtual 123, 3) := by decide +kernel
theorem dX6_finish_13 : decode cX6_finish 13 = .ok (.aload_n 0, 1) := by decide +kernel
theorem dX6_finish_14 : decode cX6_finish 14 = .ok (.getfield 12, 3) := by decide +kernel
theorem dX6_finish_17 : decode cX6_finish 17 = .ok (.getfield 120, 3) := by decide +kernel
theorem dX6_finish_20 : decode cX6_finish 20 = .ok (.sipush 3600, 3) := by decide +kernel
theorem dX6_finish_23 : decode cX6_finish 23 = .ok (.isub, 1) := by decide +kernel
theorem dX6_finish_24 : decode cX6_finish 24 = .ok (.ireturn, 1) := by decide +kernel
theorem dX6_again_0 : decode cX6_again 0 = .ok (.aload_n 0, 1) := by decide +kernel
theorem dX6_again_1 : decode cX6_again 1 = .ok (.getfield 12, 3) := by decide +kernel
theorem dX6_again_4 : decode cX6_again 4 = .ok (.getfield 45, 3) := by decide +kernel
theorem dX6_again_7 : decode cX6_again 7 = .ok (.ifCond .ne 13, 3) := by decide +kernel
theorem dX6_again_10 : decode cX6_again 10 = .ok (.new 58, 3) := by decide +kernel
theorem dX6_again_13 : decode cX6_again 13 = .ok (.dup, 1) := by decide +kernel
theorem dX6_again_14 : decode cX6_again 14 = .ok (.ldc 127, 2) := by decide +kernel
theorem dX6_again_16 : decode cX6_again 16 = .ok (.invokespecial 62, 3) := by decide +kernel
theorem dX6_again_19 : decode cX6_again 19 = .ok (.athrow, 1) := by decide +kernel
theorem dX6_again_20 : decode cX6_again 20 = .ok (.aload_n 0, 1) := by decide +kernel
theorem dX6_again_21 : decode cX6_again 21 = .ok (.invokevirtual 63, 3) := by decide +kernel
theorem dX6_again_24 : decode cX6_again 24 = .ok (.aload_n 0, 1) := by decide +kernel
theorem dX6_again_25 : decode cX6_again 25 = .ok (.getfield 12, 3) := by decide +kernel
theorem dX6_again_28 : decode cX6_again 28 = .ok (.invokevirtual 129, 3) := by decide +kernel
theorem dX6_again_31 : decode cX6_again 31 = .ok (.aload_n 0, 1) := by decide +kernel
theorem dX6_again_32 : decode cX6_again 32 = .ok (.getfield 12, 3) := by decide +kernel
theorem dX6_again_35 : decode cX6_again 35 = .ok (.dup, 1) := by decide +kernel
theorem dX6_again_36 : decode cX6_again 36 = .ok (.getfield 132, 3) := by decide +kernel
theorem dX6_again_39 : decode cX6_again 39 = .ok (.iconst 1, 1) := by decide +kernel
theorem dX6_again_40 : decode cX6_again 40 = .ok (.iadd, 1) := by decide +kernel
theorem dX6_again_41 : decode cX6_again 41 = .ok (.putfield 132, 3) := by decide +kernel
theorem dX6_again_44 : decode cX6_again 44 = .ok (.aload_n 0, 1) := by decide +kernel
theorem dX6_again_45 : decode cX6_again 45 = .ok (.getfield 12, 3) := by decide +kernel
theorem dX6_again_48 : decode cX6_again 48 = .ok (.getfield 132, 3) := by decide +kernel
theorem dX6_again_51 : decode cX6_again 51 = .ok (.ireturn, 1) := by decide +kernel
theorem dX6_element_0 : decode cX6_element 0 = .ok (.aload_n 0, 1) := by decide +kernel
theorem dX6_element_1 : decode cX6_element 1 = .ok (.getfield 12, 3) := by decide +kernel
theorem dX6_element_4 : decode cX6_element 4 = .ok (.getfield 49, 3) := by decide +kernel
theorem dX6_element_7 : decode cX6_element 7 = .ok (.iload_n 1, 1) := by decide +kernel
theorem dX6_element_8 : decode cX6_element 8 = .ok (.invokevirtual 82, 3) := by decide +kernel
theorem dX6_element_11 : decode cX6_element 11 = .ok (.ifCond .ne 13, 3) := by decide +kernel
theorem dX6_element_14 : decode cX6_element 14 = .ok (.new 86, 3) := by decide +kernel
theorem dX6_element_17 : decode cX6_element 17 = .ok (.dup, 1) := by decide +kernel
theorem dX6_element_18 : decode cX6_element 18 = .ok (.ldc 88, 2) := by decide +kernel
theorem dX6_element_20 : decode cX6_element 20 = .ok (.invokespecial 90, 3) := by decide +kernel
theorem dX6_element_23 : decode cX6_element 23 = .ok (.athrow, 1) := by decide +kernel
theorem dX6_element_24 : decode cX6_element 24 = .ok (.iload_n 2, 1) := by decide +kernel
theorem dX6_element_25 : decode cX6_element 25 = .ok (.ifCond .lt 9, 3) := by decide +kernel
theorem dX6_element_28 : decode cX6_element 28 = .ok (.iload_n 2, 1) := by decide +kernel
theorem dX6_element_29 : decode cX6_element 29 = .ok (.bipush 6, 2) := by decide +kernel
theorem dX6_element_31 : decode cX6_element 31 = .ok (.if_icmp .le 13, 3) := by decide +kernel
theorem dX6_element_34 : decode cX6_element 34 = .ok (.new 34, 3) := by decide +kernel
theorem dX6_element_37 : decode cX6_element 37 = .ok (.dup, 1) := by decide +kernel
theorem dX6_element_38 : decode cX6_element 38 = .ok (.ldc 135, 2) := by decide +kernel
theorem dX6_element_40 : decode cX6_element 40 = .ok (.invokespecial 38, 3) := by decide +kernel
theorem dX6_element_43 : decode cX6_element 43 = .ok (.athrow, 1) := by decide +kernel
theorem dX6_element_44 : decode cX6_element 44 = .ok (.aload_n 0, 1) := by decide +kernel
theorem dX6_element_45 : decode cX6_element 45 = .ok (.getfield 12, 3) := by decide +kernel
theorem dX6_element_48 : decode cX6_element 48 = .ok (.getfield 49, 3) := by decide +kernel
theorem dX6_element_51 : decode cX6_element 51 = .ok (.iload_n 1, 1) := by decide +kernel
theorem dX6_element_52 : decode cX6_element 52 = .ok (.iload_n 2, 1) := by decide +kernel
theorem dX6_element_53 : decode cX6_element 53 = .ok (.invokevirtual 137, 3) := by decide +kernel
theorem dX6_element_56 : decode cX6_element 56 = .ok (.ireturn, 1) := by decide +kernel
theorem dX6_filler_0 : decode cX6_filler 0 = .ok (.aload_n 0, 1) := by decide +kernel
theorem dX6_filler_1 : decode cX6_filler 1 = .ok (.getfield 12, 3) := by decide +kernel
theorem dX6_filler_4 : decode cX6_filler 4 = .ok (.getfield 70, 3) := by decide +kernel
theorem dX6_filler_7 : decode cX6_filler 7 = .ok (.iload_n 1, 1) := by decide +kernel
theorem dX6_filler_8 : decode cX6_filler 8 = .ok (.invokevirtual 141, 3) := by decide +kernel
theorem dX6_filler_11 : decode cX6_filler 11 = .ok (.ifCond .ne 13, 3) := by decide +kernel
theorem dX6_filler_14 : decode cX6_filler 14 = .ok (.new 86, 3) := by decide +kernel
theorem dX6_filler_17 : decode cX6_filler 17 = .ok (.dup, 1) := by decide +kernel
theorem dX6_filler_18 : decode cX6_filler 18 = .ok (.ldc 142, 2) := by decide +kernel
theorem dX6_filler_20 : decode cX6_filler 20 = .ok (.invokespecial 90, 3) := by decide +kernel
theorem dX6_filler_23 : decode cX6_filler 23 = .ok (.athrow, 1) := by decide +kernel
theorem dX6_filler_24 : decode cX6_filler 24 = .ok (.iload_n 2, 1) := by decide +kernel
theorem dX6_filler_25 : decode cX6_filler 25 = .ok (.ifCond .lt 8, 3) := by decide +kernel
theorem dX6_filler_28 : decode cX6_filler 28 = .ok (.iload_n 2, 1) := by decide +kernel
theorem dX6_filler_29 : decode cX6_filler 29 = .ok (.iconst 2, 1) := by decide +kernel
theorem dX6_filler_30 : decode cX6_filler 30 = .ok (.if_icmp .le 13, 3) := by decide +kernel
theorem dX6_filler_33 : decode cX6_filler 33 = .ok (.new 34, 3) := by decide +kernel
theorem dX6_filler_36 : decode cX6_filler 36 = .ok (.dup, 1) := by decide +kernel
theorem dX6_filler_37 : decode cX6_filler 37 = .ok (.ldc 135, 2) := by decide +kernel
theorem dX6_filler_39 : decode cX6_filler 39 = .ok (.invokespecial 38, 3) := by decide +kernel
theorem dX6_filler_42 : decode cX6_filler 42 = .ok (.athrow, 1) := by decide +kernel
theorem dX6_filler_43 : decode cX6_filler 43 = .ok (.aload_n 0, 1) := by decide +kernel
theorem dX6_filler_44 : decode cX6_filler 44 = .ok (.getfield 12, 3) := by decide +kernel
theorem dX6_filler_47 : decode cX6_filler 47 = .ok (.getfield 70, 3) := by decide +kernel
theorem dX6_filler_50 : decode cX6_filler 50 = .ok (.iload_n 1, 1) := by decide +kernel
theorem dX6_filler_51 : decode cX6_filler 51 = .ok (.iload_n 2, 1) := by decide +kernel
theorem dX6_filler_52 : decode cX6_filler 52 = .ok (.invokevirtual 144, 3) := by decide +kernel
theorem dX6_filler_55 : decode cX6_filler 55 = .ok (.ireturn, 1) := by decide +kernel
theorem dX6_value_0 : decode cX6_value 0 = .ok (.iload_n 1, 1) := by decide +kernel
theorem dX6_value_1 : decode cX6_value 1 = .ok (.ifCond .lt 9, 3) := by decide +kernel
theorem dX6_value_4 : decode cX6_value 4 = .ok (.iload_n 1, 1) := by decide +kernel
theorem dX6_value_5 : decode cX6_value 5 = .ok (.bipush 13, 2) := by decide +kernel
theorem dX6_value_7 : decode cX6_value 7 = .ok (.if_icmp .le 13, 3) := by decide +kernel
theorem dX6_value_10 : decode cX6_value 10 = .ok (.new 34, 3) := by decide +kernel
theorem dX6_value_13 : decode cX6_value 13 = .ok (.dup, 1) := by decide +kernel
theorem dX6_value_14 : decode cX6_value 14 = .ok (.ldc 135, 2) := by decide +kernel
theorem dX6_value_16 : decode cX6_value 16 = .ok (.invokespecial 38, 3) := by decide +kernel
theorem dX6_value_19 : decode cX6_value 19 = .ok (.athrow, 1) := by decide +kernel
theorem dX6_value_20 : decode cX6_value 20 = .ok (.aload_n 0, 1) := by decide +kernel
theorem dX6_value_21 : decode cX6_value 21 = .ok (.getfield 12, 3) := by decide +kernel
theorem dX6_value_24 : decode cX6_value 24 = .ok (.iload_n 1, 1) := by decide +kernel
theorem dX6_value_25 : decode cX6_value 25 = .ok (.invokevirtual 145, 3) := by decide +kernel
theorem dX6_value_28 : decode cX6_value 28 = .ok (.ireturn, 1) := by decide +kernel
theorem dX6_entry_0 : decode cX6_entry 0 = .ok (.aload_n 0, 1) := by decide +kernel
theorem dX6_entry_1 : decode cX6_entry 1 = .ok (.getfield 12, 3) := by decide +kernel
theorem dX6_entry_4 : decode cX6_entry 4 = .ok (.getfield 147, 3) := by decide +kernel
theorem dX6_entry_7 : decode cX6_entry 7 = .ok (.iload_n 1, 1) := by decide +kernel
theorem dX6_entry_8 : decode cX6_entry 8 = .ok (.invokevirtual 151, 3) := by decide +kernel
theorem dX6_entry_11 : decode cX6_entry 11 = .ok (.ifCond .ne 13, 3) := by decide +kernel
theorem dX6_entry_14 : decode cX6_entry 14 = .ok (.new 86, 3) := by decide +kernel
theorem dX6_entry_17 : decode cX6_entry 17 = .ok (.dup, 1) := by decide +kernel
theorem dX6_entry_18 : decode cX6_entry 18 = .ok (.ldc 154, 2) := by decide +kernel
theorem dX6_entry_20 : decode cX6_entry 20 = .ok (.invokespecial 90, 3) := by decide +kernel
theorem dX6_entry_23 : decode cX6_entry 23 = .ok (.athrow, 1) := by decide +kernel
theorem dX6_entry_24 : decode cX6_entry 24 = .ok (.iload_n 2, 1) := by decide +kernel
theorem dX6_entry_25 : decode cX6_entry 25 = .ok (.ifCond .lt 8, 3) := by decide +kernel
theorem dX6_entry_28 : decode cX6_entry 28 = .ok (.iload_n 2, 1) := by decide +kernel
theorem dX6_entry_29 : decode cX6_entry 29 = .ok (.iconst 2, 1) := by decide +kernel
theorem dX6_entry_30 : decode cX6_entry 30 = .ok (.if_icmp .le 13, 3) := by decide +kernel
theorem dX6_entry_33 : decode cX6_entry 33 = .ok (.new 34, 3) := by decide +kernel
theorem dX6_entry_36 : decode cX6_entry 36 = .ok (.dup, 1) := by decide +kernel
theorem dX6_entry_37 : decode cX6_entry 37 = .ok (.ldc 135, 2) := by decide +kernel
theorem dX6_entry_39 : decode cX6_entry 39 = .ok (.invokespecial 38, 3) := by decide +kernel
theorem dX6_entry_42 : decode cX6_entry 42 = .ok (.athrow, 1) := by decide +kernel
theorem dX6_entry_43 : decode cX6_entry 43 = .ok (.aload_n 0, 1) := by decide +kernel
theorem dX6_entry_44 : decode cX6_entry 44 = .ok (.getfield 12, 3) := by decide +kernel
theorem dX6_entry_47 : decode cX6_entry 47 = .ok (.getfield 147, 3) := by decide +kernel
theorem dX6_entry_50 : decode cX6_entry 50 = .ok (.iload_n 1, 1) := by decide +kernel
theorem dX6_entry_51 : decode cX6_entry 51 = .ok (.iload_n 2, 1) := by decide +kernel
theorem dX6_entry_52 : decode cX6_entry 52 = .ok (.invokevirtual 156, 3) := by decide +kernel
theorem dX6_entry_55 : decode cX6_entry 55 = .ok (.ireturn, 1) := by decide +kernel
theorem dX6_backTime_0 : decode cX6_backTime 0 = .ok (.aload_n 0, 1) := by decide +kernel
theorem dX6_backTime_1 : decode cX6_backTime 1 = .ok (.getfield 12, 3) := by decide +kernel
theorem dX6_backTime_4 : decode cX6_backTime 4 = .ok (.getfield 49, 3) := by decide +kernel
theorem dX6_backTime_7 : decode cX6_backTime 7 = .ok (.iload_n 1, 1) := by decide +kernel
theorem dX6_backTime_8 : decode cX6_backTime 8 = .ok (.invokevirtual 82, 3) := by decide +kernel
theorem dX6_backTime_11 : decode cX6_backTime 11 = .ok (.ifCond .ne 13, 3) := by decide +kernel
theorem dX6_backTime_14 : decode cX6_backTime 14 = .ok (.new 86, 3) := by decide +kernel
theorem dX6_backTime_17 : decode cX6_backTime 17 = .ok (.dup, 1) := by decide +kernel
theorem dX6_backTime_18 : decode cX6_backTime 18 = .ok (.ldc 88, 2) := by decide +kernel
theorem dX6_backTime_20 : decode cX6_backTime 20 = .ok (.invokespecial 90, 3) := by decide +kernel
theorem dX6_backTime_23 : decode cX6_backTime 23 = .ok (.athrow, 1) := by decide +kernel
theorem dX6_backTime_24 : decode cX6_backTime 24 = .ok (.aload_n 0, 1) := by decide +kernel
theorem dX6_backTime_25 : decode cX6_backTime 25 = .ok (.getfield 12, 3) := by decide +kernel
theorem dX6_backTime_28 : decode cX6_backTime 28 = .ok (.getfield 49, 3) := by decide +kernel
theorem dX6_backTime_31 : decode cX6_backTime 31 = .ok (.iload_n 1, 1) := by decide +kernel
theorem dX6_backTime_32 : decode cX6_backTime 32 = .ok (.invokevirtual 157, 3) := by decide +kernel
theorem dX6_backTime_35 : decode cX6_backTime 35 = .ok (.ireturn, 1) := by decide +kernel
theorem dX6_beginOf_0 : decode cX6_beginOf 0 = .ok (.aload_n 0, 1) := by decide +kernel
theorem dX6_beginOf_1 : decode cX6_beginOf 1 = .ok (.getfield 12, 3) := by decide +kernel
theorem dX6_beginOf_4 : decode cX6_beginOf 4 = .ok (.getfield 49, 3) := by decide +kernel
theorem dX6_beginOf_7 : decode cX6_beginOf 7 = .ok (.iload_n 1, 1) := by decide +kernel
theorem dX6_beginOf_8 : decode cX6_beginOf 8 = .ok (.invokevirtual 82, 3) := by decide +kernel
theorem dX6_beginOf_11 : decode cX6_beginOf 11 = .ok (.ifCond .ne 13, 3) := by decide +kernel
theorem dX6_beginOf_14 : decode cX6_beginOf 14 = .ok (.new 86, 3) := by decide +kernel
theorem dX6_beginOf_17 : decode cX6_beginOf 17 = .ok (.dup, 1) := by decide +kernel
theorem dX6_beginOf_18 : decode cX6_beginOf 18 = .ok (.ldc 88, 2) := by decide +kernel
theorem dX6_beginOf_20 : decode cX6_beginOf 20 = .ok (.invokespecial 90, 3) := by decide +kernel
theorem dX6_beginOf_23 : decode cX6_beginOf 23 = .ok (.athrow, 1) := by decide +kernel
theorem dX6_beginOf_24 : decode cX6_beginOf 24 = .ok (.aload_n 0, 1) := by decide +kernel
theorem dX6_beginOf_25 : decode cX6_beginOf 25 = .ok (.iconst (-1), 1) := by decide +kernel
theorem dX6_beginOf_26 : decode cX6_beginOf 26 = .ok (.invokevirtual 160, 3) := by decide +kernel
theorem dX6_beginOf_29 : decode cX6_beginOf 29 = .ok (.getfield 49, 3) := by decide +kernel
theorem dX6_beginOf_32 : decode cX6_beginOf 32 = .ok (.iload_n 1, 1) := by decide +kernel
theorem dX6_beginOf_33 : decode cX6_beginOf 33 = .ok (.invokevirtual 164, 3) := by decide +kernel
theorem dX6_beginOf_36 : decode cX6_beginOf 36 = .ok (.ireturn, 1) := by decide +kernel
theorem dX6_endOfHour_0 : decode cX6_endOfHour 0 = .ok (.aload_n 0, 1) := by decide +kernel
theorem dX6_endOfHour_1 : decode cX6_endOfHour 1 = .ok (.iconst (-1), 1) := by decide +kernel
theorem dX6_endOfHour_2 : decode cX6_endOfHour 2 = .ok (.invokevirtual 160, 3) := by decide +kernel
theorem dX6_endOfHour_5 : decode cX6_endOfHour 5 = .ok (.getfield 120, 3) := by decide +kernel
theorem dX6_endOfHour_8 : decode cX6_endOfHour 8 = .ok (.ireturn, 1) := by decide +kernel
theorem dX6_drops_0 : decode cX6_drops 0 = .ok (.aload_n 0, 1) := by decide +kernel
theorem dX6_drops_1 : decode cX6_drops 1 = .ok (.iconst (-1), 1) := by decide +kernel
theorem dX6_drops_2 : decode cX6_drops 2 = .ok (.invokevirtual 160, 3) := by decide +kernel
theorem dX6_drops_5 : decode cX6_drops 5 = .ok (.astore_n 1, 1) := by decide +kernel
theorem dX6_drops_6 : decode cX6_drops 6 = .ok (.iconst 0, 1) := by decide +kernel
theorem dX6_drops_7 : decode cX6_drops 7 = .ok (.istore_n 2, 1) := by decide +kernel
theorem dX6_drops_8 : decode cX6_drops 8 = .ok (.iconst 0, 1) := by decide +kernel
theorem dX6_drops_9 : decode cX6_drops 9 = .ok (.istore_n 3, 1) := by decide +kernel
theorem dX6_drops_10 : decode cX6_drops 10 = .ok (.iload_n 3, 1) := by decide +kernel
theorem dX6_drops_11 : decode cX6_drops 11 = .ok (.aload_n 0, 1) := by decide +kernel
theorem dX6_drops_12 : decode cX6_drops 12 = .ok (.getfield 12, 3) := by decide +kernel
theorem dX6_drops_15 : decode cX6_drops 15 = .ok (.getfield 49, 3) := by decide +kernel
theorem dX6_drops_18 : decode cX6_drops 18 = .ok (.getfield 53, 3) := by decide +kernel
theorem dX6_drops_21 : decode cX6_drops 21 = .ok (.if_icmp .ge 41, 3) := by decide +kernel
theorem dX6_drops_24 : decode cX6_drops 24 = .ok (.aload_n 0, 1) := by decide +kernel
theorem dX6_drops_25 : decode cX6_drops 25 = .ok (.getfield 12, 3) := by decide +kernel
theorem dX6_drops_28 : decode cX6_drops 28 = .ok (.getfield 49, 3) := by decide +kernel
theorem dX6_drops_31 : decode cX6_drops 31 = .ok (.iload_n 3, 1) := by decide +kernel
theorem dX6_drops_32 : decode cX6_drops 32 = .ok (.invokevirtual 106, 3) := by decide +kernel
theorem dX6_drops_35 : decode cX6_drops 35 = .ok (.ifCond .eq 21, 3) := by decide +kernel
theorem dX6_drops_38 : decode cX6_drops 38 = .ok (.aload_n 1, 1) := by decide +kernel
theorem dX6_drops_39 : decode cX6_drops 39 = .ok (.getfield 49, 3) := by decide +kernel
theorem dX6_drops_42 : decode cX6_drops 42 = .ok (.iload_n 3, 1) := by decide +kernel
theorem dX6_drops_43 : decode cX6_drops 43 = .ok (.iconst 3, 1) := by decide +kernel
theorem dX6_drops_44 : decode cX6_drops 44 = .ok (.invokevirtual 167, 3) := by decide +kernel
theorem dX6_drops_47 : decode cX6_drops 47 = .ok (.ifCond .eq 9, 3) := by decide +kernel
theorem dX6_drops_50 : decode cX6_drops 50 = .ok (.iload_n 2, 1) := by decide +kernel
theorem dX6_drops_51 : decode cX6_drops 51 = .ok (.iconst 1, 1) := by decide +kernel
theorem dX6_drops_52 : decode cX6_drops 52 = .ok (.iload_n 3, 1) := by decide +kernel
theorem dX6_drops_53 : decode cX6_drops 53 = .ok (.ishl, 1) := by decide +kernel
theorem dX6_drops_54 : decode cX6_drops 54 = .ok (.ior, 1) := by decide +kernel
theorem dX6_drops_55 : decode cX6_drops 55 = .ok (.istore_n 2, 1) := by decide +kernel
theorem dX6_drops_56 : decode cX6_drops 56 = .ok (.iinc 3 1, 3) := by decide +kernel
theorem dX6_drops_59 : decode cX6_drops 59 = .ok (.goto (-49), 3) := by decide +kernel
theorem dX6_drops_62 : decode cX6_drops 62 = .ok (.iload_n 2, 1) := by decide +kernel
theorem dX6_drops_63 : decode cX6_drops 63 = .ok (.ireturn, 1) := by decide +kernel
theorem dX6_silence_0 : decode cX6_silence 0 = .ok (.aload_n 0, 1) := by decide +kernel
theorem dX6_silence_1 : decode cX6_silence 1 = .ok (.iconst (-1), 1) := by decide +kernel
theorem dX6_silence_2 : decode cX6_silence 2 = .ok (.invokevirtual 160, 3) := by decide +kernel
theorem dX6_silence_5 : decode cX6_silence 5 = .ok (.getfield 170, 3) := by decide +kernel
theorem dX6_silence_8 : decode cX6_silence 8 = .ok (.aload_n 0, 1) := by decide +kernel
theorem dX6_silence_9 : decode cX6_silence 9 = .ok (.getfield 12, 3) := by decide +kernel
theorem dX6_silence_12 : decode cX6_silence 12 = .ok (.getfield 170, 3) := by decide +kernel
theorem dX6_silence_15 : decode cX6_silence 15 = .ok (.isub, 1) := by decide +kernel
theorem dX6_silence_16 : decode cX6_silence 16 = .ok (.ireturn, 1) := by decide +kernel
theorem dX6_choice_0 : decode cX6_choice 0 = .ok (.iload_n 1, 1) := by decide +kernel
theorem dX6_choice_1 : decode cX6_choice 1 = .ok (.iconst 1, 1) := by decide +kernel
theorem dX6_choice_2 : decode cX6_choice 2 = .ok (.if_icmp .lt 10, 3) := by decide +kernel
theorem dX6_choice_5 : decode cX6_choice 5 = .ok (.iload_n 1, 1) := by decide +kernel
theorem dX6_choice_6 : decode cX6_choice 6 = .ok (.sipush 3600, 3) := by decide +kernel
theorem dX6_choice_9 : decode cX6_choice 9 = .ok (.if_icmp .le 13, 3) := by decide +kernel
theorem dX6_choice_12 : decode cX6_choice 12 = .ok (.new 34, 3) := by decide +kernel
theorem dX6_choice_15 : decode cX6_choice 15 = .ok (.dup, 1) := by decide +kernel
theorem dX6_choice_16 : decode cX6_choice 16 = .ok (.ldc 173, 2) := by decide +kernel
theorem dX6_choice_18 : decode cX6_choice 18 = .ok (.invokespecial 38, 3) := by decide +kernel
theorem dX6_choice_21 : decode cX6_choice 21 = .ok (.athrow, 1) := by decide +kernel
theorem dX6_choice_22 : decode cX6_choice 22 = .ok (.aload_n 0, 1) := by decide +kernel
theorem dX6_choice_23 : decode cX6_choice 23 = .ok (.getfield 12, 3) := by decide +kernel
theorem dX6_choice_26 : decode cX6_choice 26 = .ok (.getfield 70, 3) := by decide +kernel
theorem dX6_choice_29 : decode cX6_choice 29 = .ok (.iload_n 1, 1) := by decide +kernel
theorem dX6_choice_30 : decode cX6_choice 30 = .ok (.invokevirtual 175, 3) := by decide +kernel
theorem dX6_choice_33 : decode cX6_choice 33 = .ok (.ireturn, 1) := by decide +kernel
theorem dX6_nextFull_0 : decode cX6_nextFull 0 = .ok (.iload_n 1, 1) := by decide +kernel
theorem dX6_nextFull_1 : decode cX6_nextFull 1 = .ok (.ifCond .lt 10, 3) := by decide +kernel
theorem dX6_nextFull_4 : decode cX6_nextFull 4 = .ok (.iload_n 1, 1) := by decide +kernel
theorem dX6_nextFull_5 : decode cX6_nextFull 5 = .ok (.sipush 3600, 3) := by decide +kernel
theorem dX6_nextFull_8 : decode cX6_nextFull 8 = .ok (.if_icmp .le 13, 3) := by decide +kernel
theorem dX6_nextFull_11 : decode cX6_nextFull 11 = .ok (.new 34, 3) := by decide +kernel
theorem dX6_nextFull_14 : decode cX6_nextFull 14 = .ok (.dup, 1) := by decide +kernel
theorem dX6_nextFull_15 : decode cX6_nextFull 15 = .ok (.ldc 178, 2) := by decide +kernel
theorem dX6_nextFull_17 : decode cX6_nextFull 17 = .ok (.invokespecial 38, 3) := by decide +kernel
theorem dX6_nextFull_20 : decode cX6_nextFull 20 = .ok (.athrow, 1) := by decide +kernel
theorem dX6_nextFull_21 : decode cX6_nextFull 21 = .ok (.aload_n 0, 1) := by decide +kernel
theorem dX6_nextFull_22 : decode cX6_nextFull 22 = .ok (.getfield 12, 3) := by decide +kernel
theorem dX6_nextFull_25 : decode cX6_nextFull 25 = .ok (.getfield 70, 3) := by decide +kernel
theorem dX6_nextFull_28 : decode cX6_nextFull 28 = .ok (.iload_n 1, 1) := by decide +kernel
theorem dX6_nextFull_29 : decode cX6_nextFull 29 = .ok (.invokevirtual 180, 3) := by decide +kernel
theorem dX6_nextFull_32 : decode cX6_nextFull 32 = .ok (.ireturn, 1) := by decide +kernel
theorem dX6_bestDrop_0 : decode cX6_bestDrop 0 = .ok (.iconst (-1), 1) := by decide +kernel
theorem dX6_bestDrop_1 : decode cX6_bestDrop 1 = .ok (.istore_n 1, 1) := by decide +kernel
theorem dX6_bestDrop_2 : decode cX6_bestDrop 2 = .ok (.aload_n 0, 1) := by decide +kernel
theorem dX6_bestDrop_3 : decode cX6_bestDrop 3 = .ok (.iconst (-1), 1) := by decide +kernel
theorem dX6_bestDrop_4 : decode cX6_bestDrop 4 = .ok (.invokevirtual 160, 3) := by decide +kernel
theorem dX6_bestDrop_7 : decode cX6_bestDrop 7 = .ok (.getfield 49, 3) := by decide +kernel
theorem dX6_bestDrop_10 : decode cX6_bestDrop 10 = .ok (.iconst 2, 1) := by decide +kernel
theorem dX6_bestDrop_11 : decode cX6_bestDrop 11 = .ok (.invokevirtual 114, 3) := by decide +kernel
theorem dX6_bestDrop_14 : decode cX6_bestDrop 14 = .ok (.istore_n 2, 1) := by decide +kernel
theorem dX6_bestDrop_15 : decode cX6_bestDrop 15 = .ok (.iconst 0, 1) := by decide +kernel
theorem dX6_bestDrop_16 : decode cX6_bestDrop 16 = .ok (.istore_n 3, 1) := by decide +kernel
theorem dX6_bestDrop_17 : decode cX6_bestDrop 17 = .ok (.iload_n 3, 1) := by decide +kernel
theorem dX6_bestDrop_18 : decode cX6_bestDrop 18 = .ok (.aload_n 0, 1) := by decide +kernel
theorem dX6_bestDrop_19 : decode cX6_bestDrop 19 = .ok (.getfield 12, 3) := by decide +kernel
theorem dX6_bestDrop_22 : decode cX6_bestDrop 22 = .ok (.getfield 49, 3) := by decide +kernel
theorem dX6_bestDrop_25 : decode cX6_bestDrop 25 = .ok (.getfield 53, 3) := by decide +kernel
theorem dX6_bestDrop_28 : decode cX6_bestDrop 28 = .ok (.if_icmp .ge 48, 3) := by decide +kernel
theorem dX6_bestDrop_31 : decode cX6_bestDrop 31 = .ok (.aload_n 0, 1) := by decide +kernel
theorem dX6_bestDrop_32 : decode cX6_bestDrop 32 = .ok (.getfield 12, 3) := by decide +kernel
theorem dX6_bestDrop_35 : decode cX6_bestDrop 35 = .ok (.getfield 49, 3) := by decide +kernel
theorem dX6_bestDrop_38 : decode cX6_bestDrop 38 = .ok (.iload_n 3, 1) := by decide +kernel
theorem dX6_bestDrop_39 : decode cX6_bestDrop 39 = .ok (.invokevirtual 106, 3) := by decide +kernel
theorem dX6_bestDrop_42 : decode cX6_bestDrop 42 = .ok (.ifCond .eq 28, 3) := by decide +kernel
theorem dX6_bestDrop_45 : decode cX6_bestDrop 45 = .ok (.aload_n 0, 1) := by decide +kernel
theorem dX6_bestDrop_46 : decode cX6_bestDrop 46 = .ok (.iload_n 3, 1) := by decide +kernel
theorem dX6_bestDrop_47 : decode cX6_bestDrop 47 = .ok (.invokevirtual 160, 3) := by decide +kernel
theorem dX6_bestDrop_50 : decode cX6_bestDrop 50 = .ok (.getfield 49, 3) := by decide +kernel
theorem dX6_bestDrop_53 : decode cX6_bestDrop 53 = .ok (.iconst 2, 1) := by decide +kernel
theorem dX6_bestDrop_54 : decode cX6_bestDrop 54 = .ok (.invokevirtual 114, 3) := by decide +kernel
theorem dX6_bestDrop_57 : decode cX6_bestDrop 57 = .ok (.istore 4, 2) := by decide +kernel
theorem dX6_bestDrop_59 : decode cX6_bestDrop 59 = .ok (.iload 4, 2) := by decide +kernel
theorem dX6_bestDrop_61 : decode cX6_bestDrop 61 = .ok (.iload_n 2, 1) := by decide +kernel
theorem dX6_bestDrop_62 : decode cX6_bestDrop 62 = .ok (.if_icmp .le 8, 3) := by decide +kernel
theorem dX6_bestDrop_65 : decode cX6_bestDrop 65 = .ok (.iload_n 3, 1) := by decide +kernel
theorem dX6_bestDrop_66 : decode cX6_bestDrop 66 = .ok (.istore_n 1, 1) := by decide +kernel
theorem dX6_bestDrop_67 : decode cX6_bestDrop 67 = .ok (.iload 4, 2) := by decide +kernel
theorem dX6_bestDrop_69 : decode cX6_bestDrop 69 = .ok (.istore_n 2, 1) := by decide +kernel
theorem dX6_bestDrop_70 : decode cX6_bestDrop 70 = .ok (.iinc 3 1, 3) := by decide +kernel
theorem dX6_bestDrop_73 : decode cX6_bestDrop 73 = .ok (.goto (-56), 3) := by decide +kernel
theorem dX6_bestDrop_76 : decode cX6_bestDrop 76 = .ok (.iload_n 1, 1) := by decide +kernel
theorem dX6_bestDrop_77 : decode cX6_bestDrop 77 = .ok (.ireturn, 1) := by decide +kernel
theorem dX6_sounding_0 : decode cX6_sounding 0 = .ok (.aload_n 0, 1) := by decide +kernel
theorem dX6_sounding_1 : decode cX6_sounding 1 = .ok (.getfield 12, 3) := by decide +kernel
theorem dX6_sounding_4 : decode cX6_sounding 4 = .ok (.getfield 120, 3) := by decide +kernel
theorem dX6_sounding_7 : decode cX6_sounding 7 = .ok (.ifCond .ne 5, 3) := by decide +kernel
theorem dX6_sounding_10 : decode cX6_sounding 10 = .ok (.dconst 1, 1) := by decide +kernel
theorem dX6_sounding_11 : decode cX6_sounding 11 = .ok (.dreturn, 1) := by decide +kernel
theorem dX6_sounding_12 : decode cX6_sounding 12 = .ok (.aload_n 0, 1) := by decide +kernel
theorem dX6_sounding_13 : decode cX6_sounding 13 = .ok (.getfield 12, 3) := by decide +kernel
theorem dX6_sounding_16 : decode cX6_sounding 16 = .ok (.getfield 120, 3) := by decide +kernel
theorem dX6_sounding_19 : decode cX6_sounding 19 = .ok (.aload_n 0, 1) := by decide +kernel
theorem dX6_sounding_20 : decode cX6_sounding 20 = .ok (.getfield 12, 3) := by decide +kernel
theorem dX6_sounding_23 : decode cX6_sounding 23 = .ok (.getfield 170, 3) := by decide +kernel
theorem dX6_sounding_26 : decode cX6_sounding 26 = .ok (.isub, 1) := by decide +kernel
theorem dX6_sounding_27 : decode cX6_sounding 27 = .ok (.i2d, 1) := by decide +kernel
theorem dX6_sounding_28 : decode cX6_sounding 28 = .ok (.aload_n 0, 1) := by decide +kernel
theorem dX6_sounding_29 : decode cX6_sounding 29 = .ok (.getfield 12, 3) := by decide +kernel
theorem dX6_sounding_32 : decode cX6_sounding 32 = .ok (.getfield 120, 3) := by decide +kernel
theorem dX6_sounding_35 : decode cX6_sounding 35 = .ok (.i2d, 1) := by decide +kernel
theorem dX6_sounding_36 : decode cX6_sounding 36 = .ok (.ddiv, 1) := by decide +kernel
theorem dX6_sounding_37 : decode cX6_sounding 37 = .ok (.dreturn, 1) := by decide +kernel
theorem dX6_append_0 : decode cX6_append 0 = .ok (.iload_n 1, 1) := by decide +kernel
theorem dX6_append_1 : decode cX6_append 1 = .ok (.ifCond .lt 9, 3) := by decide +kernel
theorem dX6_append_4 : decode cX6_append 4 = .ok (.iload_n 1, 1) := by decide +kernel
theorem dX6_append_5 : decode cX6_append 5 = .ok (.bipush 127, 2) := by decide +kernel
theorem dX6_append_7 : decode cX6_append 7 = .ok (.if_icmp .le 13, 3) := by decide +kernel
theorem dX6_append_10 : decode cX6_append 10 = .ok (.new 34, 3) := by decide +kernel
theorem dX6_append_13 : decode cX6_append 13 = .ok (.dup, 1) := by decide +kernel
theorem dX6_append_14 : decode cX6_append 14 = .ok (.ldc 183, 2) := by decide +kernel
theorem dX6_append_16 : decode cX6_append 16 = .ok (.invokespecial 38, 3) := by decide +kernel
theorem dX6_append_19 : decode cX6_append 19 = .ok (.athrow, 1) := by decide +kernel
theorem dX6_append_20 : decode cX6_append 20 = .ok (.aload_n 0, 1) := by decide +kernel
theorem dX6_append_21 : decode cX6_append 21 = .ok (.getfield 30, 3) := by decide +kernel
theorem dX6_append_24 : decode cX6_append 24 = .ok (.getfield 185, 3) := by decide +kernel
theorem dX6_append_27 : decode cX6_append 27 = .ok (.bipush 100, 2) := by decide +kernel
theorem dX6_append_29 : decode cX6_append 29 = .ok (.if_icmp .lt 13, 3) := by decide +kernel
theorem dX6_append_32 : decode cX6_append 32 = .ok (.new 58, 3) := by decide +kernel
theorem dX6_append_35 : decode cX6_append 35 = .ok (.dup, 1) := by decide +kernel
theorem dX6_append_36 : decode cX6_append 36 = .ok (.ldc 187, 2) := by decide +kernel
theorem dX6_append_38 : decode cX6_append 38 = .ok (.invokespecial 62, 3) := by decide +kernel
theorem dX6_append_41 : decode cX6_append 41 = .ok (.athrow, 1) := by decide +kernel
theorem dX6_append_42 : decode cX6_append 42 = .ok (.aload_n 0, 1) := by decide +kernel
theorem dX6_append_43 : decode cX6_append 43 = .ok (.getfield 30, 3) := by decide +kernel
theorem dX6_append_46 : decode cX6_append 46 = .ok (.iload_n 1, 1) := by decide +kernel
theorem dX6_append_47 : decode cX6_append 47 = .ok (.invokevirtual 189, 3) := by decide +kernel
theorem dX6_append_50 : decode cX6_append 50 = .ok (.aload_n 0, 1) := by decide +kernel
theorem dX6_append_51 : decode cX6_append 51 = .ok (.getfield 30, 3) := by decide +kernel
theorem dX6_append_54 : decode cX6_append 54 = .ok (.getfield 185, 3) := by decide +kernel
theorem dX6_append_57 : decode cX6_append 57 = .ok (.ireturn, 1) := by decide +kernel
theorem dX6_clearText_0 : decode cX6_clearText 0 = .ok (.aload_n 0, 1) := by decide +kernel
theorem dX6_clearText_1 : decode cX6_clearText 1 = .ok (.getfield 30, 3) := by decide +kernel
theorem dX6_clearText_4 : decode cX6_clearText 4 = .ok (.getfield 185, 3) := by decide +kernel
theorem dX6_clearText_7 : decode cX6_clearText 7 = .ok (.istore_n 1, 1) := by decide +kernel
theorem dX6_clearText_8 : decode cX6_clearText 8 = .ok (.aload_n 0, 1) := by decide +kernel
theorem dX6_clearText_9 : decode cX6_clearText 9 = .ok (.getfield 30, 3) := by decide +kernel
theorem dX6_clearText_12 : decode cX6_clearText 12 = .ok (.iconst 0, 1) := by decide +kernel
theorem dX6_clearText_13 : decode cX6_clearText 13 = .ok (.putfield 185, 3) := by decide +kernel
theorem dX6_clearText_16 : decode cX6_clearText 16 = .ok (.iload_n 1, 1) := by decide +kernel
theorem dX6_clearText_17 : decode cX6_clearText 17 = .ok (.ireturn, 1) := by decide +kernel
theorem dX6_parse_0 : decode cX6_parse 0 = .ok (.aload_n 0, 1) := by decide +kernel
theorem dX6_parse_1 : decode cX6_parse 1 = .ok (.getfield 30, 3) := by decide +kernel
theorem dX6_parse_4 : decode cX6_parse 4 = .ok (.aload_n 0, 1) := by decide +kernel
theorem dX6_parse_5 : decode cX6_parse 5 = .ok (.getfield 16, 3) := by decide +kernel
theorem dX6_parse_8 : decode cX6_parse 8 = .ok (.invokevirtual 192, 3) := by decide +kernel
theorem dX6_parse_11 : decode cX6_parse 11 = .ok (.istore_n 1, 1) := by decide +kernel
theorem dX6_parse_12 : decode cX6_parse 12 = .ok (.iload_n 1, 1) := by decide +kernel
theorem dX6_parse_13 : decode cX6_parse 13 = .ok (.iconst (-1), 1) := by decide +kernel
theorem dX6_parse_14 : decode cX6_parse 14 = .ok (.if_icmp .eq 8, 3) := by decide +kernel
theorem dX6_parse_17 : decode cX6_parse 17 = .ok (.bipush (-10), 2) := by decide +kernel
theorem dX6_parse_19 : decode cX6_parse 19 = .ok (.iload_n 1, 1) := by decide +kernel
theorem dX6_parse_20 : decode cX6_parse 20 = .ok (.isub, 1) := by decide +kernel
theorem dX6_parse_21 : decode cX6_parse 21 = .ok (.ireturn, 1) := by decide +kernel
theorem dX6_parse_22 : decode cX6_parse 22 = .ok (.aload_n 0, 1) := by decide +kernel
theorem dX6_parse_23 : decode cX6_parse 23 = .ok (.invokevirtual 63, 3) := by decide +kernel
theorem dX6_parse_26 : decode cX6_parse 26 = .ok (.aload_n 0, 1) := by decide +kernel
theorem dX6_parse_27 : decode cX6_parse 27 = .ok (.getfield 12, 3) := by decide +kernel
theorem dX6_parse_30 : decode cX6_parse 30 = .ok (.aload_n 0, 1) := by decide +kernel
theorem dX6_parse_31 : decode cX6_parse 31 = .ok (.getfield 16, 3) := by decide +kernel
theorem dX6_parse_34 : decode cX6_parse 34 = .ok (.invokevirtual 196, 3) := by decide +kernel
theorem dX6_parse_37 : decode cX6_parse 37 = .ok (.aload_n 0, 1) := by decide +kernel
theorem dX6_parse_38 : decode cX6_parse 38 = .ok (.getfield 12, 3) := by decide +kernel
theorem dX6_parse_41 : decode cX6_parse 41 = .ok (.getfield 49, 3) := by decide +kernel
theorem dX6_parse_44 : decode cX6_parse 44 = .ok (.getfield 53, 3) := by decide +kernel
theorem dX6_parse_47 : decode cX6_parse 47 = .ok (.ireturn, 1) := by decide +kernel
theorem dX6_undo_0 : decode cX6_undo 0 = .ok (.aload_n 0, 1) := by decide +kernel
theorem dX6_undo_1 : decode cX6_undo 1 = .ok (.getfield 23, 3) := by decide +kernel
theorem dX6_undo_4 : decode cX6_undo 4 = .ok (.ifCond .gt 13, 3) := by decide +kernel
theorem dX6_undo_7 : decode cX6_undo 7 = .ok (.new 58, 3) := by decide +kernel
theorem dX6_undo_10 : decode cX6_undo 10 = .ok (.dup, 1) := by decide +kernel
theorem dX6_undo_11 : decode cX6_undo 11 = .ok (.ldc 200, 2) := by decide +kernel
theorem dX6_undo_13 : decode cX6_undo 13 = .ok (.invokespecial 62, 3) := by decide +kernel
theorem dX6_undo_16 : decode cX6_undo 16 = .ok (.athrow, 1) := by decide +kernel
theorem dX6_undo_17 : decode cX6_undo 17 = .ok (.aload_n 0, 1) := by decide +kernel
theorem dX6_undo_18 : decode cX6_undo 18 = .ok (.dup, 1) := by decide +kernel
theorem dX6_undo_19 : decode cX6_undo 19 = .ok (.getfield 23, 3) := by decide +kernel
theorem dX6_undo_22 : decode cX6_undo 22 = .ok (.iconst 1, 1) := by decide +kernel
theorem dX6_undo_23 : decode cX6_undo 23 = .ok (.isub, 1) := by decide +kernel
theorem dX6_undo_24 : decode cX6_undo 24 = .ok (.putfield 23, 3) := by decide +kernel
theorem dX6_undo_27 : decode cX6_undo 27 = .ok (.aload_n 0, 1) := by decide +kernel
theorem dX6_undo_28 : decode cX6_undo 28 = .ok (.getfield 12, 3) := by decide +kernel
theorem dX6_undo_31 : decode cX6_undo 31 = .ok (.aload_n 0, 1) := by decide +kernel
theorem dX6_undo_32 : decode cX6_undo 32 = .ok (.getfield 19, 3) := by decide +kernel
theorem dX6_undo_35 : decode cX6_undo 35 = .ok (.aload_n 0, 1) := by decide +kernel
theorem dX6_undo_36 : decode cX6_undo 36 = .ok (.getfield 23, 3) := by decide +kernel
theorem dX6_undo_39 : decode cX6_undo 39 = .ok (.aaload, 1) := by decide +kernel
theorem dX6_undo_40 : decode cX6_undo 40 = .ok (.invokevirtual 196, 3) := by decide +kernel
theorem dX6_undo_43 : decode cX6_undo 43 = .ok (.aload_n 0, 1) := by decide +kernel
theorem dX6_undo_44 : decode cX6_undo 44 = .ok (.getfield 23, 3) := by decide +kernel
theorem dX6_undo_47 : decode cX6_undo 47 = .ok (.ireturn, 1) := by decide +kernel
theorem dX6_digest_0 : decode cX6_digest 0 = .ok (.aload_n 0, 1) := by decide +kernel
theorem dX6_digest_1 : decode cX6_digest 1 = .ok (.iconst (-1), 1) := by decide +kernel
theorem dX6_digest_2 : decode cX6_digest 2 = .ok (.invokevirtual 160, 3) := by decide +kernel
theorem dX6_digest_5 : decode cX6_digest 5 = .ok (.astore_n 1, 1) := by decide +kernel
theorem dX6_digest_6 : decode cX6_digest 6 = .ok (.ldc2_w 202, 3) := by decide +kernel
theorem dX6_digest_9 : decode cX6_digest 9 = .ok (.lstore_n 2, 1) := by decide +kernel
theorem dX6_digest_10 : decode cX6_digest 10 = .ok (.ldc2_w 204, 3) := by decide +kernel
theorem dX6_digest_13 : decode cX6_digest 13 = .ok (.lload_n 2, 1) := by decide +kernel
theorem dX6_digest_14 : decode cX6_digest 14 = .ok (.lmul, 1) := by decide +kernel
theorem dX6_digest_15 : decode cX6_digest 15 = .ok (.aload_n 0, 1) := by decide +kernel
theorem dX6_digest_16 : decode cX6_digest 16 = .ok (.getfield 30, 3) := by decide +kernel
theorem dX6_digest_19 : decode cX6_digest 19 = .ok (.getfield 185, 3) := by decide +kernel
theorem dX6_digest_22 : decode cX6_digest 22 = .ok (.i2l, 1) := by decide +kernel
theorem dX6_digest_23 : decode cX6_digest 23 = .ok (.ladd, 1) := by decide +kernel
theorem dX6_digest_24 : decode cX6_digest 24 = .ok (.lstore_n 2, 1) := by decide +kernel
theorem dX6_digest_25 : decode cX6_digest 25 = .ok (.iconst 0, 1) := by decide +kernel
theorem dX6_digest_26 : decode cX6_digest 26 = .ok (.istore 4, 2) := by decide +kernel
theorem dX6_digest_28 : decode cX6_digest 28 = .ok (.iload 4, 2) := by decide +kernel
theorem dX6_digest_30 : decode cX6_digest 30 = .ok (.bipush 13, 2) := by decide +kernel
theorem dX6_digest_32 : decode cX6_digest 32 = .ok (.if_icmp .gt 26, 3) := by decide +kernel
theorem dX6_digest_35 : decode cX6_digest 35 = .ok (.ldc2_w 204, 3) := by decide +kernel
theorem dX6_digest_38 : decode cX6_digest 38 = .ok (.lload_n 2, 1) := by decide +kernel
theorem dX6_digest_39 : decode cX6_digest 39 = .ok (.lmul, 1) := by decide +kernel
theorem dX6_digest_40 : decode cX6_digest 40 = .ok (.aload_n 0, 1) := by decide +kernel
theorem dX6_digest_41 : decode cX6_digest 41 = .ok (.getfield 12, 3) := by decide +kernel
theorem dX6_digest_44 : decode cX6_digest 44 = .ok (.iload 4, 2) := by decide +kernel
theorem dX6_digest_46 : decode cX6_digest 46 = .ok (.invokevirtual 145, 3) := by decide +kernel
theorem dX6_digest_49 : decode cX6_digest 49 = .ok (.i2l, 1) := by decide +kernel
theorem dX6_digest_50 : decode cX6_digest 50 = .ok (.ladd, 1) := by decide +kernel
theorem dX6_digest_51 : decode cX6_digest 51 = .ok (.lstore_n 2, 1) := by decide +kernel
theorem dX6_digest_52 : decode cX6_digest 52 = .ok (.iinc 4 1, 3) := by decide +kernel
theorem dX6_digest_55 : decode cX6_digest 55 = .ok (.goto (-27), 3) := by decide +kernel
theorem dX6_digest_58 : decode cX6_digest 58 = .ok (.iconst 0, 1) := by decide +kernel
theorem dX6_digest_59 : decode cX6_digest 59 = .ok (.istore 4, 2) := by decide +kernel
theorem dX6_digest_61 : decode cX6_digest 61 = .ok (.iload 4, 2) := by decide +kernel
theorem dX6_digest_63 : decode cX6_digest 63 = .ok (.aload_n 0, 1) := by decide +kernel
theorem dX6_digest_64 : decode cX6_digest 64 = .ok (.getfield 12, 3) := by decide +kernel
theorem dX6_digest_67 : decode cX6_digest 67 = .ok (.getfield 49, 3) := by decide +kernel
theorem dX6_digest_70 : decode cX6_digest 70 = .ok (.getfield 53, 3) := by decide +kernel
theorem dX6_digest_73 : decode cX6_digest 73 = .ok (.if_icmp .ge 84, 3) := by decide +kernel
theorem dX6_digest_76 : decode cX6_digest 76 = .ok (.iconst 0, 1) := by decide +kernel
theorem dX6_digest_77 : decode cX6_digest 77 = .ok (.istore 5, 2) := by decide +kernel
theorem dX6_digest_79 : decode cX6_digest 79 = .ok (.iload 5, 2) := by decide +kernel
theorem dX6_digest_81 : decode cX6_digest 81 = .ok (.bipush 6, 2) := by decide +kernel
theorem dX6_digest_83 : decode cX6_digest 83 = .ok (.if_icmp .gt 31, 3) := by decide +kernel
theorem dX6_digest_86 : decode cX6_digest 86 = .ok (.ldc2_w 204, 3) := by decide +kernel
theorem dX6_digest_89 : decode cX6_digest 89 = .ok (.lload_n 2, 1) := by decide +kernel
theorem dX6_digest_90 : decode cX6_digest 90 = .ok (.lmul, 1) := by decide +kernel
theorem dX6_digest_91 : decode cX6_digest 91 = .ok (.aload_n 0, 1) := by decide +kernel
theorem dX6_digest_92 : decode cX6_digest 92 = .ok (.getfield 12, 3) := by decide +kernel
theorem dX6_digest_95 : decode cX6_digest 95 = .ok (.getfield 49, 3) := by decide +kernel
theorem dX6_digest_98 : decode cX6_digest 98 = .ok (.iload 4, 2) := by decide +kernel
theorem dX6_digest_100 : decode cX6_digest 100 = .ok (.iload 5, 2) := by decide +kernel
theorem dX6_digest_102 : decode cX6_digest 102 = .ok (.invokevirtual 137, 3) := by decide +kernel
theorem dX6_digest_105 : decode cX6_digest 105 = .ok (.i2l, 1) := by decide +kernel
theorem dX6_digest_106 : decode cX6_digest 106 = .ok (.ladd, 1) := by decide +kernel
theorem dX6_digest_107 : decode cX6_digest 107 = .ok (.lstore_n 2, 1) := by decide +kernel
theorem dX6_digest_108 : decode cX6_digest 108 = .ok (.iinc 5 1, 3) := by decide +kernel
theorem dX6_digest_111 : decode cX6_digest 111 = .ok (.goto (-32), 3) := by decide +kernel
theorem dX6_digest_114 : decode cX6_digest 114 = .ok (.ldc2_w 204, 3) := by decide +kernel
theorem dX6_digest_117 : decode cX6_digest 117 = .ok (.lload_n 2, 1) := by decide +kernel
theorem dX6_digest_118 : decode cX6_digest 118 = .ok (.lmul, 1) := by decide +kernel
theorem dX6_digest_119 : decode cX6_digest 119 = .ok (.aload_n 0, 1) := by decide +kernel
theorem dX6_digest_120 : decode cX6_digest 120 = .ok (.getfield 12, 3) := by decide +kernel
theorem dX6_digest_123 : decode cX6_digest 123 = .ok (.getfield 49, 3) := by decide +kernel
theorem dX6_digest_126 : decode cX6_digest 126 = .ok (.iload 4, 2) := by decide +kernel
theorem dX6_digest_128 : decode cX6_digest 128 = .ok (.invokevirtual 157, 3) := by decide +kernel
theorem dX6_digest_131 : decode cX6_digest 131 = .ok (.i2l, 1) := by decide +kernel
theorem dX6_digest_132 : decode cX6_digest 132 = .ok (.ladd, 1) := by decide +kernel
theorem dX6_digest_133 : decode cX6_digest 133 = .ok (.lstore_n 2, 1) := by decide +kernel
theorem dX6_digest_134 : decode cX6_digest 134 = .ok (.ldc2_w 204, 3) := by decide +kernel
theorem dX6_digest_137 : decode cX6_digest 137 = .ok (.lload_n 2, 1) := by decide +kernel
theorem dX6_digest_138 : decode cX6_digest 138 = .ok (.lmul, 1) := by decide +kernel
theorem dX6_digest_139 : decode cX6_digest 139 = .ok (.aload_n 1, 1) := by decide +kernel
theorem dX6_digest_140 : decode cX6_digest 140 = .ok (.getfield 49, 3) := by decide +kernel
theorem dX6_digest_143 : decode cX6_digest 143 = .ok (.iload 4, 2) := by decide +kernel
theorem dX6_digest_145 : decode cX6_digest 145 = .ok (.invokevirtual 164, 3) := by decide +kernel
theorem dX6_digest_148 : decode cX6_digest 148 = .ok (.i2l, 1) := by decide +kernel
theorem dX6_digest_149 : decode cX6_digest 149 = .ok (.ladd, 1) := by decide +kernel
theorem dX6_digest_150 : decode cX6_digest 150 = .ok (.lstore_n 2, 1) := by decide +kernel
theorem dX6_digest_151 : decode cX6_digest 151 = .ok (.iinc 4 1, 3) := by decide +kernel
theorem dX6_digest_154 : decode cX6_digest 154 = .ok (.goto (-93), 3) := by decide +kernel
theorem dX6_digest_157 : decode cX6_digest 157 = .ok (.iconst 0, 1) := by decide +kernel
theorem dX6_digest_158 : decode cX6_digest 158 = .ok (.istore 4, 2) := by decide +kernel
theorem dX6_digest_160 : decode cX6_digest 160 = .ok (.iload 4, 2) := by decide +kernel
theorem dX6_digest_162 : decode cX6_digest 162 = .ok (.aload_n 0, 1) := by decide +kernel
theorem dX6_digest_163 : decode cX6_digest 163 = .ok (.getfield 12, 3) := by decide +kernel
theorem dX6_digest_166 : decode cX6_digest 166 = .ok (.getfield 70, 3) := by decide +kernel
theorem dX6_digest_169 : decode cX6_digest 169 = .ok (.getfield 74, 3) := by decide +kernel
theorem dX6_digest_172 : decode cX6_digest 172 = .ok (.if_icmp .ge 46, 3) := by decide +kernel
theorem dX6_digest_175 : decode cX6_digest 175 = .ok (.iconst 0, 1) := by decide +kernel
theorem dX6_digest_176 : decode cX6_digest 176 = .ok (.istore 5, 2) := by decide +kernel
theorem dX6_digest_178 : decode cX6_digest 178 = .ok (.iload 5, 2) := by decide +kernel
theorem dX6_digest_180 : decode cX6_digest 180 = .ok (.iconst 2, 1) := by decide +kernel
theorem dX6_digest_181 : decode cX6_digest 181 = .ok (.if_icmp .gt 31, 3) := by decide +kernel
theorem dX6_digest_184 : decode cX6_digest 184 = .ok (.ldc2_w 204, 3) := by decide +kernel
theorem dX6_digest_187 : decode cX6_digest 187 = .ok (.lload_n 2, 1) := by decide +kernel
theorem dX6_digest_188 : decode cX6_digest 188 = .ok (.lmul, 1) := by decide +kernel
theorem dX6_digest_189 : decode cX6_digest 189 = .ok (.aload_n 0, 1) := by decide +kernel
theorem dX6_digest_190 : decode cX6_digest 190 = .ok (.getfield 12, 3) := by decide +kernel
theorem dX6_digest_193 : decode cX6_digest 193 = .ok (.getfield 70, 3) := by decide +kernel
theorem dX6_digest_196 : decode cX6_digest 196 = .ok (.iload 4, 2) := by decide +kernel
theorem dX6_digest_198 : decode cX6_digest 198 = .ok (.iload 5, 2) := by decide +kernel
theorem dX6_digest_200 : decode cX6_digest 200 = .ok (.invokevirtual 144, 3) := by decide +kernel
theorem dX6_digest_203 : decode cX6_digest 203 = .ok (.i2l, 1) := by decide +kernel
theorem dX6_digest_204 : decode cX6_digest 204 = .ok (.ladd, 1) := by decide +kernel
theorem dX6_digest_205 : decode cX6_digest 205 = .ok (.lstore_n 2, 1) := by decide +kernel
theorem dX6_digest_206 : decode cX6_digest 206 = .ok (.iinc 5 1, 3) := by decide +kernel
theorem dX6_digest_209 : decode cX6_digest 209 = .ok (.goto (-31), 3) := by decide +kernel
theorem dX6_digest_212 : decode cX6_digest 212 = .ok (.iinc 4 1, 3) := by decide +kernel
theorem dX6_digest_215 : decode cX6_digest 215 = .ok (.goto (-55), 3) := by decide +kernel
theorem dX6_digest_218 : decode cX6_digest 218 = .ok (.iconst 0, 1) := by decide +kernel
theorem dX6_digest_219 : decode cX6_digest 219 = .ok (.istore 4, 2) := by decide +kernel
theorem dX6_digest_221 : decode cX6_digest 221 = .ok (.iload 4, 2) := by decide +kernel
theorem dX6_digest_223 : decode cX6_digest 223 = .ok (.aload_n 0, 1) := by decide +kernel
theorem dX6_digest_224 : decode cX6_digest 224 = .ok (.getfield 12, 3) := by decide +kernel
theorem dX6_digest_227 : decode cX6_digest 227 = .ok (.getfield 147, 3) := by decide +kernel
theorem dX6_digest_230 : decode cX6_digest 230 = .ok (.getfield 206, 3) := by decide +kernel
theorem dX6_digest_233 : decode cX6_digest 233 = .ok (.if_icmp .ge 46, 3) := by decide +kernel
theorem dX6_digest_236 : decode cX6_digest 236 = .ok (.iconst 0, 1) := by decide +kernel
theorem dX6_digest_237 : decode cX6_digest 237 = .ok (.istore 5, 2) := by decide +kernel
theorem dX6_digest_239 : decode cX6_digest 239 = .ok (.iload 5, 2) := by decide +kernel
theorem dX6_digest_241 : decode cX6_digest 241 = .ok (.iconst 2, 1) := by decide +kernel
theorem dX6_digest_242 : decode cX6_digest 242 = .ok (.if_icmp .gt 31, 3) := by decide +kernel
theorem dX6_digest_245 : decode cX6_digest 245 = .ok (.ldc2_w 204, 3) := by decide +kernel
theorem dX6_digest_248 : decode cX6_digest 248 = .ok (.lload_n 2, 1) := by decide +kernel
theorem dX6_digest_249 : decode cX6_digest 249 = .ok (.lmul, 1) := by decide +kernel
theorem dX6_digest_250 : decode cX6_digest 250 = .ok (.aload_n 0, 1) := by decide +kernel
theorem dX6_digest_251 : decode cX6_digest 251 = .ok (.getfield 12, 3) := by decide +kernel
theorem dX6_digest_254 : decode cX6_digest 254 = .ok (.getfield 147, 3) := by decide +kernel
theorem dX6_digest_257 : decode cX6_digest 257 = .ok (.iload 4, 2) := by decide +kernel
theorem dX6_digest_259 : decode cX6_digest 259 = .ok (.iload 5, 2) := by decide +kernel
theorem dX6_digest_261 : decode cX6_digest 261 = .ok (.invokevirtual 156, 3) := by decide +kernel
theorem dX6_digest_264 : decode cX6_digest 264 = .ok (.i2l, 1) := by decide +kernel
theorem dX6_digest_265 : decode cX6_digest 265 = .ok (.ladd, 1) := by decide +kernel
theorem dX6_digest_266 : decode cX6_digest 266 = .ok (.lstore_n 2, 1) := by decide +kernel
theorem dX6_digest_267 : decode cX6_digest 267 = .ok (.iinc 5 1, 3) := by decide +kernel
theorem dX6_digest_270 : decode cX6_digest 270 = .ok (.goto (-31), 3) := by decide +kernel
theorem dX6_digest_273 : decode cX6_digest 273 = .ok (.iinc 4 1, 3) := by decide +kernel
theorem dX6_digest_276 : decode cX6_digest 276 = .ok (.goto (-55), 3) := by decide +kernel
theorem dX6_digest_279 : decode cX6_digest 279 = .ok (.ldc2_w 204, 3) := by decide +kernel
theorem dX6_digest_282 : decode cX6_digest 282 = .ok (.lload_n 2, 1) := by decide +kernel
theorem dX6_digest_283 : decode cX6_digest 283 = .ok (.lmul, 1) := by decide +kernel
theorem dX6_digest_284 : decode cX6_digest 284 = .ok (.aload_n 1, 1) := by decide +kernel
theorem dX6_digest_285 : decode cX6_digest 285 = .ok (.getfield 120, 3) := by decide +kernel
theorem dX6_digest_288 : decode cX6_digest 288 = .ok (.i2l, 1) := by decide +kernel
theorem dX6_digest_289 : decode cX6_digest 289 = .ok (.ladd, 1) := by decide +kernel
theorem dX6_digest_290 : decode cX6_digest 290 = .ok (.lstore_n 2, 1) := by decide +kernel
theorem dX6_digest_291 : decode cX6_digest 291 = .ok (.ldc2_w 204, 3) := by decide +kernel
theorem dX6_digest_294 : decode cX6_digest 294 = .ok (.lload_n 2, 1) := by decide +kernel
theorem dX6_digest_295 : decode cX6_digest 295 = .ok (.lmul, 1) := by decide +kernel
theorem dX6_digest_296 : decode cX6_digest 296 = .ok (.aload_n 0, 1) := by decide +kernel
theorem dX6_digest_297 : decode cX6_digest 297 = .ok (.getfield 23, 3) := by decide +kernel
theorem dX6_digest_300 : decode cX6_digest 300 = .ok (.i2l, 1) := by decide +kernel
theorem dX6_digest_301 : decode cX6_digest 301 = .ok (.ladd, 1) := by decide +kernel
theorem dX6_digest_302 : decode cX6_digest 302 = .ok (.lreturn, 1) := by decide +kernel
theorem dX6_save_0 : decode cX6_save 0 = .ok (.aload_n 0, 1) := by decide +kernel
theorem dX6_save_1 : decode cX6_save 1 = .ok (.getfield 23, 3) := by decide +kernel
theorem dX6_save_4 : decode cX6_save 4 = .ok (.iconst 4, 1) := by decide +kernel
theorem dX6_save_5 : decode cX6_save 5 = .ok (.if_icmp .lt 7, 3) := by decide +kernel
theorem dX6_save_8 : decode cX6_save 8 = .ok (.aload_n 0, 1) := by decide +kernel
theorem dX6_save_9 : decode cX6_save 9 = .ok (.invokevirtual 207, 3) := by decide +kernel
theorem dX6_save_12 : decode cX6_save 12 = .ok (.aload_n 0, 1) := by decide +kernel
theorem dX6_save_13 : decode cX6_save 13 = .ok (.getfield 19, 3) := by decide +kernel
theorem dX6_save_16 : decode cX6_save 16 = .ok (.aload_n 0, 1) := by decide +kernel
theorem dX6_save_17 : decode cX6_save 17 = .ok (.getfield 23, 3) := by decide +kernel
theorem dX6_save_20 : decode cX6_save 20 = .ok (.aaload, 1) := by decide +kernel
theorem dX6_save_21 : decode cX6_save 21 = .ok (.aload_n 0, 1) := by decide +kernel
theorem dX6_save_22 : decode cX6_save 22 = .ok (.getfield 12, 3) := by decide +kernel
theorem dX6_save_25 : decode cX6_save 25 = .ok (.invokevirtual 196, 3) := by decide +kernel
theorem dX6_save_28 : decode cX6_save 28 = .ok (.aload_n 0, 1) := by decide +kernel
theorem dX6_save_29 : decode cX6_save 29 = .ok (.dup, 1) := by decide +kernel
theorem dX6_save_30 : decode cX6_save 30 = .ok (.getfield 23, 3) := by decide +kernel
theorem dX6_save_33 : decode cX6_save 33 = .ok (.iconst 1, 1) := by decide +kernel
theorem dX6_save_34 : decode cX6_save 34 = .ok (.iadd, 1) := by decide +kernel
theorem dX6_save_35 : decode cX6_save 35 = .ok (.putfield 23, 3) := by decide +kernel
theorem dX6_save_38 : decode cX6_save 38 = .ok (.return_, 1) := by decide +kernel
theorem dX6_forgetOldest_0 : decode cX6_forgetOldest 0 = .ok (.aload_n 0, 1) := by decide +kernel
theorem dX6_forgetOldest_1 : decode cX6_forgetOldest 1 = .ok (.getfield 19, 3) := by decide +kernel
theorem dX6_forgetOldest_4 : decode cX6_forgetOldest 4 = .ok (.iconst 0, 1) := by decide +kernel
theorem dX6_forgetOldest_5 : decode cX6_forgetOldest 5 = .ok (.aaload, 1) := by decide +kernel
theorem dX6_forgetOldest_6 : decode cX6_forgetOldest 6 = .ok (.astore_n 1, 1) := by decide +kernel
theorem dX6_forgetOldest_7 : decode cX6_forgetOldest 7 = .ok (.iconst 1, 1) := by decide +kernel
theorem dX6_forgetOldest_8 : decode cX6_forgetOldest 8 = .ok (.istore_n 2, 1) := by decide +kernel
theorem dX6_forgetOldest_9 : decode cX6_forgetOldest 9 = .ok (.iload_n 2, 1) := by decide +kernel
theorem dX6_forgetOldest_10 : decode cX6_forgetOldest 10 = .ok (.iconst 4, 1) := by decide +kernel
theorem dX6_forgetOldest_11 : decode cX6_forgetOldest 11 = .ok (.if_icmp .ge 23, 3) := by decide +kernel
theorem dX6_forgetOldest_14 : decode cX6_forgetOldest 14 = .ok (.aload_n 0, 1) := by decide +kernel
theorem dX6_forgetOldest_15 : decode cX6_forgetOldest 15 = .ok (.getfield 19, 3) := by decide +kernel
theorem dX6_forgetOldest_18 : decode cX6_forgetOldest 18 = .ok (.iload_n 2, 1) := by decide +kernel
theorem dX6_forgetOldest_19 : decode cX6_forgetOldest 19 = .ok (.iconst 1, 1) := by decide +kernel
theorem dX6_forgetOldest_20 : decode cX6_forgetOldest 20 = .ok (.isub, 1) := by decide +kernel
theorem dX6_forgetOldest_21 : decode cX6_forgetOldest 21 = .ok (.aload_n 0, 1) := by decide +kernel
theorem dX6_forgetOldest_22 : decode cX6_forgetOldest 22 = .ok (.getfield 19, 3) := by decide +kernel
theorem dX6_forgetOldest_25 : decode cX6_forgetOldest 25 = .ok (.iload_n 2, 1) := by decide +kernel
theorem dX6_forgetOldest_26 : decode cX6_forgetOldest 26 = .ok (.aaload, 1) := by decide +kernel
theorem dX6_forgetOldest_27 : decode cX6_forgetOldest 27 = .ok (.aastore, 1) := by decide +kernel
theorem dX6_forgetOldest_28 : decode cX6_forgetOldest 28 = .ok (.iinc 2 1, 3) := by decide +kernel
theorem dX6_forgetOldest_31 : decode cX6_forgetOldest 31 = .ok (.goto (-22), 3) := by decide +kernel
theorem dX6_forgetOldest_34 : decode cX6_forgetOldest 34 = .ok (.aload_n 0, 1) := by decide +kernel
theorem dX6_forgetOldest_35 : decode cX6_forgetOldest 35 = .ok (.getfield 19, 3) := by decide +kernel
theorem dX6_forgetOldest_38 : decode cX6_forgetOldest 38 = .ok (.iconst 3, 1) := by decide +kernel
theorem dX6_forgetOldest_39 : decode cX6_forgetOldest 39 = .ok (.aload_n 1, 1) := by decide +kernel
theorem dX6_forgetOldest_40 : decode cX6_forgetOldest 40 = .ok (.aastore, 1) := by decide +kernel
theorem dX6_forgetOldest_41 : decode cX6_forgetOldest 41 = .ok (.aload_n 0, 1) := by decide +kernel
theorem dX6_forgetOldest_42 : decode cX6_forgetOldest 42 = .ok (.iconst 3, 1) := by decide +kernel
theorem dX6_forgetOldest_43 : decode cX6_forgetOldest 43 = .ok (.putfield 23, 3) := by decide +kernel
theorem dX6_forgetOldest_46 : decode cX6_forgetOldest 46 = .ok (.return_, 1) := by decide +kernel
theorem dX6_foresee_0 : decode cX6_foresee 0 = .ok (.aload_n 0, 1) := by decide +kernel
theorem dX6_foresee_1 : decode cX6_foresee 1 = .ok (.getfield 16, 3) := by decide +kernel
theorem dX6_foresee_4 : decode cX6_foresee 4 = .ok (.aload_n 0, 1) := by decide +kernel
theorem dX6_foresee_5 : decode cX6_foresee 5 = .ok (.getfield 12, 3) := by decide +kernel
theorem dX6_foresee_8 : decode cX6_foresee 8 = .ok (.invokevirtual 196, 3) := by decide +kernel
theorem dX6_foresee_11 : decode cX6_foresee 11 = .ok (.aload_n 0, 1) := by decide +kernel
theorem dX6_foresee_12 : decode cX6_foresee 12 = .ok (.getfield 16, 3) := by decide +kernel
theorem dX6_foresee_15 : decode cX6_foresee 15 = .ok (.getfield 49, 3) := by decide +kernel
theorem dX6_foresee_18 : decode cX6_foresee 18 = .ok (.iload_n 1, 1) := by decide +kernel
theorem dX6_foresee_19 : decode cX6_foresee 19 = .ok (.invokevirtual 82, 3) := by decide +kernel
theorem dX6_foresee_22 : decode cX6_foresee 22 = .ok (.ifCond .eq 11, 3) := by decide +kernel
theorem dX6_foresee_25 : decode cX6_foresee 25 = .ok (.aload_n 0, 1) := by decide +kernel
theorem dX6_foresee_26 : decode cX6_foresee 26 = .ok (.getfield 16, 3) := by decide +kernel
theorem dX6_foresee_29 : decode cX6_foresee 29 = .ok (.iload_n 1, 1) := by decide +kernel
theorem dX6_foresee_30 : decode cX6_foresee 30 = .ok (.invokevirtual 111, 3) := by decide +kernel
theorem dX6_foresee_33 : decode cX6_foresee 33 = .ok (.aload_n 0, 1) := by decide +kernel
theorem dX6_foresee_34 : decode cX6_foresee 34 = .ok (.getfield 16, 3) := by decide +kernel
theorem dX6_foresee_37 : decode cX6_foresee 37 = .ok (.ldc 126, 2) := by decide +kernel
theorem dX6_foresee_39 : decode cX6_foresee 39 = .ok (.invokevirtual 123, 3) := by decide +kernel
theorem dX6_foresee_42 : decode cX6_foresee 42 = .ok (.aload_n 0, 1) := by decide +kernel
theorem dX6_foresee_43 : decode cX6_foresee 43 = .ok (.getfield 16, 3) := by decide +kernel
theorem dX6_foresee_46 : decode cX6_foresee 46 = .ok (.areturn, 1) := by decide +kernel
