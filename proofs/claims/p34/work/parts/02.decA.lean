theorem dX0_init_0 : decode cX0_init 0 = .ok (.aload_n 0, 1) := by decide +kernel
theorem dX0_init_1 : decode cX0_init 1 = .ok (.invokespecial 1, 3) := by decide +kernel
theorem dX0_init_4 : decode cX0_init 4 = .ok (.return_, 1) := by decide +kernel
theorem dX0_takeFrom_0 : decode cX0_takeFrom 0 = .ok (.aload_n 0, 1) := by decide +kernel
theorem dX0_takeFrom_1 : decode cX0_takeFrom 1 = .ok (.aload_n 1, 1) := by decide +kernel
theorem dX0_takeFrom_2 : decode cX0_takeFrom 2 = .ok (.getfield 7, 3) := by decide +kernel
theorem dX0_takeFrom_5 : decode cX0_takeFrom 5 = .ok (.putfield 7, 3) := by decide +kernel
theorem dX0_takeFrom_8 : decode cX0_takeFrom 8 = .ok (.aload_n 0, 1) := by decide +kernel
theorem dX0_takeFrom_9 : decode cX0_takeFrom 9 = .ok (.aload_n 1, 1) := by decide +kernel
theorem dX0_takeFrom_10 : decode cX0_takeFrom 10 = .ok (.getfield 13, 3) := by decide +kernel
theorem dX0_takeFrom_13 : decode cX0_takeFrom 13 = .ok (.putfield 13, 3) := by decide +kernel
theorem dX0_takeFrom_16 : decode cX0_takeFrom 16 = .ok (.return_, 1) := by decide +kernel
theorem dX1_init_0 : decode cX1_init 0 = .ok (.aload_n 0, 1) := by decide +kernel
theorem dX1_init_1 : decode cX1_init 1 = .ok (.invokespecial 3, 3) := by decide +kernel
theorem dX1_init_4 : decode cX1_init 4 = .ok (.aload_n 0, 1) := by decide +kernel
theorem dX1_init_5 : decode cX1_init 5 = .ok (.iconst 5, 1) := by decide +kernel
theorem dX1_init_6 : decode cX1_init 6 = .ok (.anewarray 9, 3) := by decide +kernel
theorem dX1_init_9 : decode cX1_init 9 = .ok (.putfield 11, 3) := by decide +kernel
theorem dX1_init_12 : decode cX1_init 12 = .ok (.iconst 0, 1) := by decide +kernel
theorem dX1_init_13 : decode cX1_init 13 = .ok (.istore_n 1, 1) := by decide +kernel
theorem dX1_init_14 : decode cX1_init 14 = .ok (.iload_n 1, 1) := by decide +kernel
theorem dX1_init_15 : decode cX1_init 15 = .ok (.iconst 4, 1) := by decide +kernel
theorem dX1_init_16 : decode cX1_init 16 = .ok (.if_icmp .gt 22, 3) := by decide +kernel
theorem dX1_init_19 : decode cX1_init 19 = .ok (.aload_n 0, 1) := by decide +kernel
theorem dX1_init_20 : decode cX1_init 20 = .ok (.getfield 11, 3) := by decide +kernel
theorem dX1_init_23 : decode cX1_init 23 = .ok (.iload_n 1, 1) := by decide +kernel
theorem dX1_init_24 : decode cX1_init 24 = .ok (.new 9, 3) := by decide +kernel
theorem dX1_init_27 : decode cX1_init 27 = .ok (.dup, 1) := by decide +kernel
theorem dX1_init_28 : decode cX1_init 28 = .ok (.invokespecial 17, 3) := by decide +kernel
theorem dX1_init_31 : decode cX1_init 31 = .ok (.aastore, 1) := by decide +kernel
theorem dX1_init_32 : decode cX1_init 32 = .ok (.iinc 1 1, 3) := by decide +kernel
theorem dX1_init_35 : decode cX1_init 35 = .ok (.goto (-21), 3) := by decide +kernel
theorem dX1_init_38 : decode cX1_init 38 = .ok (.return_, 1) := by decide +kernel
theorem dX1_hold_0 : decode cX1_hold 0 = .ok (.aload_n 0, 1) := by decide +kernel
theorem dX1_hold_1 : decode cX1_hold 1 = .ok (.getfield 11, 3) := by decide +kernel
theorem dX1_hold_4 : decode cX1_hold 4 = .ok (.aload_n 0, 1) := by decide +kernel
theorem dX1_hold_5 : decode cX1_hold 5 = .ok (.getfield 18, 3) := by decide +kernel
theorem dX1_hold_8 : decode cX1_hold 8 = .ok (.aload_n 0, 1) := by decide +kernel
theorem dX1_hold_9 : decode cX1_hold 9 = .ok (.getfield 22, 3) := by decide +kernel
theorem dX1_hold_12 : decode cX1_hold 12 = .ok (.iadd, 1) := by decide +kernel
theorem dX1_hold_13 : decode cX1_hold 13 = .ok (.iconst 5, 1) := by decide +kernel
theorem dX1_hold_14 : decode cX1_hold 14 = .ok (.irem, 1) := by decide +kernel
theorem dX1_hold_15 : decode cX1_hold 15 = .ok (.aaload, 1) := by decide +kernel
theorem dX1_hold_16 : decode cX1_hold 16 = .ok (.aload_n 1, 1) := by decide +kernel
theorem dX1_hold_17 : decode cX1_hold 17 = .ok (.invokevirtual 25, 3) := by decide +kernel
theorem dX1_hold_20 : decode cX1_hold 20 = .ok (.return_, 1) := by decide +kernel
theorem dX1_keepIfDone_0 : decode cX1_keepIfDone 0 = .ok (.iload_n 1, 1) := by decide +kernel
theorem dX1_keepIfDone_1 : decode cX1_keepIfDone 1 = .ok (.ifCond .lt 36, 3) := by decide +kernel
theorem dX1_keepIfDone_4 : decode cX1_keepIfDone 4 = .ok (.aload_n 0, 1) := by decide +kernel
theorem dX1_keepIfDone_5 : decode cX1_keepIfDone 5 = .ok (.getfield 22, 3) := by decide +kernel
theorem dX1_keepIfDone_8 : decode cX1_keepIfDone 8 = .ok (.iconst 4, 1) := by decide +kernel
theorem dX1_keepIfDone_9 : decode cX1_keepIfDone 9 = .ok (.if_icmp .ge 16, 3) := by decide +kernel
theorem dX1_keepIfDone_12 : decode cX1_keepIfDone 12 = .ok (.aload_n 0, 1) := by decide +kernel
theorem dX1_keepIfDone_13 : decode cX1_keepIfDone 13 = .ok (.dup, 1) := by decide +kernel
theorem dX1_keepIfDone_14 : decode cX1_keepIfDone 14 = .ok (.getfield 22, 3) := by decide +kernel
theorem dX1_keepIfDone_17 : decode cX1_keepIfDone 17 = .ok (.iconst 1, 1) := by decide +kernel
theorem dX1_keepIfDone_18 : decode cX1_keepIfDone 18 = .ok (.iadd, 1) := by decide +kernel
theorem dX1_keepIfDone_19 : decode cX1_keepIfDone 19 = .ok (.putfield 22, 3) := by decide +kernel
theorem dX1_keepIfDone_22 : decode cX1_keepIfDone 22 = .ok (.goto 15, 3) := by decide +kernel
theorem dX1_keepIfDone_25 : decode cX1_keepIfDone 25 = .ok (.aload_n 0, 1) := by decide +kernel
theorem dX1_keepIfDone_26 : decode cX1_keepIfDone 26 = .ok (.aload_n 0, 1) := by decide +kernel
theorem dX1_keepIfDone_27 : decode cX1_keepIfDone 27 = .ok (.getfield 18, 3) := by decide +kernel
theorem dX1_keepIfDone_30 : decode cX1_keepIfDone 30 = .ok (.iconst 1, 1) := by decide +kernel
theorem dX1_keepIfDone_31 : decode cX1_keepIfDone 31 = .ok (.iadd, 1) := by decide +kernel
theorem dX1_keepIfDone_32 : decode cX1_keepIfDone 32 = .ok (.iconst 5, 1) := by decide +kernel
theorem dX1_keepIfDone_33 : decode cX1_keepIfDone 33 = .ok (.irem, 1) := by decide +kernel
theorem dX1_keepIfDone_34 : decode cX1_keepIfDone 34 = .ok (.putfield 18, 3) := by decide +kernel
theorem dX1_keepIfDone_37 : decode cX1_keepIfDone 37 = .ok (.iload_n 1, 1) := by decide +kernel
theorem dX1_keepIfDone_38 : decode cX1_keepIfDone 38 = .ok (.ireturn, 1) := by decide +kernel
theorem dX1_restore_0 : decode cX1_restore 0 = .ok (.aload_n 0, 1) := by decide +kernel
theorem dX1_restore_1 : decode cX1_restore 1 = .ok (.getfield 22, 3) := by decide +kernel
theorem dX1_restore_4 : decode cX1_restore 4 = .ok (.ifCond .ne 6, 3) := by decide +kernel
theorem dX1_restore_7 : decode cX1_restore 7 = .ok (.ldc 29, 2) := by decide +kernel
theorem dX1_restore_9 : decode cX1_restore 9 = .ok (.ireturn, 1) := by decide +kernel
theorem dX1_restore_10 : decode cX1_restore 10 = .ok (.aload_n 0, 1) := by decide +kernel
theorem dX1_restore_11 : decode cX1_restore 11 = .ok (.dup, 1) := by decide +kernel
theorem dX1_restore_12 : decode cX1_restore 12 = .ok (.getfield 22, 3) := by decide +kernel
theorem dX1_restore_15 : decode cX1_restore 15 = .ok (.iconst 1, 1) := by decide +kernel
theorem dX1_restore_16 : decode cX1_restore 16 = .ok (.isub, 1) := by decide +kernel
theorem dX1_restore_17 : decode cX1_restore 17 = .ok (.putfield 22, 3) := by decide +kernel
theorem dX1_restore_20 : decode cX1_restore 20 = .ok (.aload_n 1, 1) := by decide +kernel
theorem dX1_restore_21 : decode cX1_restore 21 = .ok (.aload_n 0, 1) := by decide +kernel
theorem dX1_restore_22 : decode cX1_restore 22 = .ok (.getfield 11, 3) := by decide +kernel
theorem dX1_restore_25 : decode cX1_restore 25 = .ok (.aload_n 0, 1) := by decide +kernel
theorem dX1_restore_26 : decode cX1_restore 26 = .ok (.getfield 18, 3) := by decide +kernel
theorem dX1_restore_29 : decode cX1_restore 29 = .ok (.aload_n 0, 1) := by decide +kernel
theorem dX1_restore_30 : decode cX1_restore 30 = .ok (.getfield 22, 3) := by decide +kernel
theorem dX1_restore_33 : decode cX1_restore 33 = .ok (.iadd, 1) := by decide +kernel
theorem dX1_restore_34 : decode cX1_restore 34 = .ok (.iconst 5, 1) := by decide +kernel
theorem dX1_restore_35 : decode cX1_restore 35 = .ok (.irem, 1) := by decide +kernel
theorem dX1_restore_36 : decode cX1_restore 36 = .ok (.aaload, 1) := by decide +kernel
theorem dX1_restore_37 : decode cX1_restore 37 = .ok (.invokevirtual 25, 3) := by decide +kernel
theorem dX1_restore_40 : decode cX1_restore 40 = .ok (.aload_n 0, 1) := by decide +kernel
theorem dX1_restore_41 : decode cX1_restore 41 = .ok (.getfield 22, 3) := by decide +kernel
theorem dX1_restore_44 : decode cX1_restore 44 = .ok (.ireturn, 1) := by decide +kernel
theorem dX2_init_0 : decode cX2_init 0 = .ok (.aload_n 0, 1) := by decide +kernel
theorem dX2_init_1 : decode cX2_init 1 = .ok (.invokespecial 1, 3) := by decide +kernel
theorem dX2_init_4 : decode cX2_init 4 = .ok (.return_, 1) := by decide +kernel
theorem dX2_takeFrom_0 : decode cX2_takeFrom 0 = .ok (.aload_n 0, 1) := by decide +kernel
theorem dX2_takeFrom_1 : decode cX2_takeFrom 1 = .ok (.aload_n 1, 1) := by decide +kernel
theorem dX2_takeFrom_2 : decode cX2_takeFrom 2 = .ok (.getfield 7, 3) := by decide +kernel
theorem dX2_takeFrom_5 : decode cX2_takeFrom 5 = .ok (.putfield 7, 3) := by decide +kernel
theorem dX2_takeFrom_8 : decode cX2_takeFrom 8 = .ok (.aload_n 0, 1) := by decide +kernel
theorem dX2_takeFrom_9 : decode cX2_takeFrom 9 = .ok (.aload_n 1, 1) := by decide +kernel
theorem dX2_takeFrom_10 : decode cX2_takeFrom 10 = .ok (.getfield 13, 3) := by decide +kernel
theorem dX2_takeFrom_13 : decode cX2_takeFrom 13 = .ok (.putfield 13, 3) := by decide +kernel
theorem dX2_takeFrom_16 : decode cX2_takeFrom 16 = .ok (.aload_n 0, 1) := by decide +kernel
theorem dX2_takeFrom_17 : decode cX2_takeFrom 17 = .ok (.aload_n 1, 1) := by decide +kernel
theorem dX2_takeFrom_18 : decode cX2_takeFrom 18 = .ok (.getfield 16, 3) := by decide +kernel
theorem dX2_takeFrom_21 : decode cX2_takeFrom 21 = .ok (.putfield 16, 3) := by decide +kernel
theorem dX2_takeFrom_24 : decode cX2_takeFrom 24 = .ok (.return_, 1) := by decide +kernel
theorem dX3_init_0 : decode cX3_init 0 = .ok (.aload_n 0, 1) := by decide +kernel
theorem dX3_init_1 : decode cX3_init 1 = .ok (.invokespecial 3, 3) := by decide +kernel
theorem dX3_init_4 : decode cX3_init 4 = .ok (.aload_n 0, 1) := by decide +kernel
theorem dX3_init_5 : decode cX3_init 5 = .ok (.getstatic 9, 3) := by decide +kernel
theorem dX3_init_8 : decode cX3_init 8 = .ok (.invokevirtual 13, 3) := by decide +kernel
theorem dX3_init_11 : decode cX3_init 11 = .ok (.checkcast 14, 3) := by decide +kernel
theorem dX3_init_14 : decode cX3_init 14 = .ok (.putfield 18, 3) := by decide +kernel
theorem dX3_init_17 : decode cX3_init 17 = .ok (.aload_n 0, 1) := by decide +kernel
theorem dX3_init_18 : decode cX3_init 18 = .ok (.getstatic 23, 3) := by decide +kernel
theorem dX3_init_21 : decode cX3_init 21 = .ok (.invokevirtual 13, 3) := by decide +kernel
theorem dX3_init_24 : decode cX3_init 24 = .ok (.checkcast 14, 3) := by decide +kernel
theorem dX3_init_27 : decode cX3_init 27 = .ok (.putfield 26, 3) := by decide +kernel
theorem dX3_init_30 : decode cX3_init 30 = .ok (.aload_n 0, 1) := by decide +kernel
theorem dX3_init_31 : decode cX3_init 31 = .ok (.bipush 6, 2) := by decide +kernel
theorem dX3_init_33 : decode cX3_init 33 = .ok (.anewarray 29, 3) := by decide +kernel
theorem dX3_init_36 : decode cX3_init 36 = .ok (.putfield 31, 3) := by decide +kernel
theorem dX3_init_39 : decode cX3_init 39 = .ok (.aload_n 0, 1) := by decide +kernel
theorem dX3_init_40 : decode cX3_init 40 = .ok (.bipush 8, 2) := by decide +kernel
theorem dX3_init_42 : decode cX3_init 42 = .ok (.anewarray 35, 3) := by decide +kernel
theorem dX3_init_45 : decode cX3_init 45 = .ok (.putfield 37, 3) := by decide +kernel
theorem dX3_init_48 : decode cX3_init 48 = .ok (.aload_n 0, 1) := by decide +kernel
theorem dX3_init_49 : decode cX3_init 49 = .ok (.bipush 24, 2) := by decide +kernel
theorem dX3_init_51 : decode cX3_init 51 = .ok (.anewarray 41, 3) := by decide +kernel
theorem dX3_init_54 : decode cX3_init 54 = .ok (.putfield 43, 3) := by decide +kernel
theorem dX3_init_57 : decode cX3_init 57 = .ok (.aload_n 0, 1) := by decide +kernel
theorem dX3_init_58 : decode cX3_init 58 = .ok (.iconst (-1), 1) := by decide +kernel
theorem dX3_init_59 : decode cX3_init 59 = .ok (.putfield 47, 3) := by decide +kernel
theorem dX3_init_62 : decode cX3_init 62 = .ok (.aload_n 0, 1) := by decide +kernel
theorem dX3_init_63 : decode cX3_init 63 = .ok (.iconst (-1), 1) := by decide +kernel
theorem dX3_init_64 : decode cX3_init 64 = .ok (.putfield 51, 3) := by decide +kernel
theorem dX3_init_67 : decode cX3_init 67 = .ok (.iconst 0, 1) := by decide +kernel
theorem dX3_init_68 : decode cX3_init 68 = .ok (.istore_n 1, 1) := by decide +kernel
theorem dX3_init_69 : decode cX3_init 69 = .ok (.iload_n 1, 1) := by decide +kernel
theorem dX3_init_70 : decode cX3_init 70 = .ok (.bipush 6, 2) := by decide +kernel
theorem dX3_init_72 : decode cX3_init 72 = .ok (.if_icmp .ge 22, 3) := by decide +kernel
theorem dX3_init_75 : decode cX3_init 75 = .ok (.aload_n 0, 1) := by decide +kernel
theorem dX3_init_76 : decode cX3_init 76 = .ok (.getfield 31, 3) := by decide +kernel
theorem dX3_init_79 : decode cX3_init 79 = .ok (.iload_n 1, 1) := by decide +kernel
theorem dX3_init_80 : decode cX3_init 80 = .ok (.new 29, 3) := by decide +kernel
theorem dX3_init_83 : decode cX3_init 83 = .ok (.dup, 1) := by decide +kernel
theorem dX3_init_84 : decode cX3_init 84 = .ok (.invokespecial 54, 3) := by decide +kernel
theorem dX3_init_87 : decode cX3_init 87 = .ok (.aastore, 1) := by decide +kernel
theorem dX3_init_88 : decode cX3_init 88 = .ok (.iinc 1 1, 3) := by decide +kernel
theorem dX3_init_91 : decode cX3_init 91 = .ok (.goto (-22), 3) := by decide +kernel
theorem dX3_init_94 : decode cX3_init 94 = .ok (.iconst 0, 1) := by decide +kernel
theorem dX3_init_95 : decode cX3_init 95 = .ok (.istore_n 1, 1) := by decide +kernel
theorem dX3_init_96 : decode cX3_init 96 = .ok (.iload_n 1, 1) := by decide +kernel
theorem dX3_init_97 : decode cX3_init 97 = .ok (.bipush 8, 2) := by decide +kernel
theorem dX3_init_99 : decode cX3_init 99 = .ok (.if_icmp .ge 22, 3) := by decide +kernel
theorem dX3_init_102 : decode cX3_init 102 = .ok (.aload_n 0, 1) := by decide +kernel
theorem dX3_init_103 : decode cX3_init 103 = .ok (.getfield 37, 3) := by decide +kernel
theorem dX3_init_106 : decode cX3_init 106 = .ok (.iload_n 1, 1) := by decide +kernel
theorem dX3_init_107 : decode cX3_init 107 = .ok (.new 35, 3) := by decide +kernel
theorem dX3_init_110 : decode cX3_init 110 = .ok (.dup, 1) := by decide +kernel
theorem dX3_init_111 : decode cX3_init 111 = .ok (.invokespecial 55, 3) := by decide +kernel
theorem dX3_init_114 : decode cX3_init 114 = .ok (.aastore, 1) := by decide +kernel
theorem dX3_init_115 : decode cX3_init 115 = .ok (.iinc 1 1, 3) := by decide +kernel
theorem dX3_init_118 : decode cX3_init 118 = .ok (.goto (-22), 3) := by decide +kernel
theorem dX3_init_121 : decode cX3_init 121 = .ok (.iconst 0, 1) := by decide +kernel
theorem dX3_init_122 : decode cX3_init 122 = .ok (.istore_n 1, 1) := by decide +kernel
theorem dX3_init_123 : decode cX3_init 123 = .ok (.iload_n 1, 1) := by decide +kernel
theorem dX3_init_124 : decode cX3_init 124 = .ok (.bipush 24, 2) := by decide +kernel
theorem dX3_init_126 : decode cX3_init 126 = .ok (.if_icmp .ge 22, 3) := by decide +kernel
theorem dX3_init_129 : decode cX3_init 129 = .ok (.aload_n 0, 1) := by decide +kernel
theorem dX3_init_130 : decode cX3_init 130 = .ok (.getfield 43, 3) := by decide +kernel
theorem dX3_init_133 : decode cX3_init 133 = .ok (.iload_n 1, 1) := by decide +kernel
theorem dX3_init_134 : decode cX3_init 134 = .ok (.new 41, 3) := by decide +kernel
theorem dX3_init_137 : decode cX3_init 137 = .ok (.dup, 1) := by decide +kernel
theorem dX3_init_138 : decode cX3_init 138 = .ok (.invokespecial 56, 3) := by decide +kernel
theorem dX3_init_141 : decode cX3_init 141 = .ok (.aastore, 1) := by decide +kernel
theorem dX3_init_142 : decode cX3_init 142 = .ok (.iinc 1 1, 3) := by decide +kernel
theorem dX3_init_145 : decode cX3_init 145 = .ok (.goto (-22), 3) := by decide +kernel
theorem dX3_init_148 : decode cX3_init 148 = .ok (.return_, 1) := by decide +kernel
theorem dX3_copyFrom_0 : decode cX3_copyFrom 0 = .ok (.aload_n 1, 1) := by decide +kernel
theorem dX3_copyFrom_1 : decode cX3_copyFrom 1 = .ok (.getfield 18, 3) := by decide +kernel
theorem dX3_copyFrom_4 : decode cX3_copyFrom 4 = .ok (.iconst 0, 1) := by decide +kernel
theorem dX3_copyFrom_5 : decode cX3_copyFrom 5 = .ok (.aload_n 0, 1) := by decide +kernel
theorem dX3_copyFrom_6 : decode cX3_copyFrom 6 = .ok (.getfield 18, 3) := by decide +kernel
theorem dX3_copyFrom_9 : decode cX3_copyFrom 9 = .ok (.iconst 0, 1) := by decide +kernel
theorem dX3_copyFrom_10 : decode cX3_copyFrom 10 = .ok (.bipush 13, 2) := by decide +kernel
theorem dX3_copyFrom_12 : decode cX3_copyFrom 12 = .ok (.invokestatic 57, 3) := by decide +kernel
theorem dX3_copyFrom_15 : decode cX3_copyFrom 15 = .ok (.aload_n 1, 1) := by decide +kernel
theorem dX3_copyFrom_16 : decode cX3_copyFrom 16 = .ok (.getfield 26, 3) := by decide +kernel
theorem dX3_copyFrom_19 : decode cX3_copyFrom 19 = .ok (.iconst 0, 1) := by decide +kernel
theorem dX3_copyFrom_20 : decode cX3_copyFrom 20 = .ok (.aload_n 0, 1) := by decide +kernel
theorem dX3_copyFrom_21 : decode cX3_copyFrom 21 = .ok (.getfield 26, 3) := by decide +kernel
theorem dX3_copyFrom_24 : decode cX3_copyFrom 24 = .ok (.iconst 0, 1) := by decide +kernel
theorem dX3_copyFrom_25 : decode cX3_copyFrom 25 = .ok (.iconst 4, 1) := by decide +kernel
theorem dX3_copyFrom_26 : decode cX3_copyFrom 26 = .ok (.invokestatic 57, 3) := by decide +kernel
theorem dX3_copyFrom_29 : decode cX3_copyFrom 29 = .ok (.aload_n 0, 1) := by decide +kernel
theorem dX3_copyFrom_30 : decode cX3_copyFrom 30 = .ok (.aload_n 1, 1) := by decide +kernel
theorem dX3_copyFrom_31 : decode cX3_copyFrom 31 = .ok (.invokevirtual 63, 3) := by decide +kernel
theorem dX3_copyFrom_34 : decode cX3_copyFrom 34 = .ok (.aload_n 0, 1) := by decide +kernel
theorem dX3_copyFrom_35 : decode cX3_copyFrom 35 = .ok (.aload_n 1, 1) := by decide +kernel
theorem dX3_copyFrom_36 : decode cX3_copyFrom 36 = .ok (.getfield 67, 3) := by decide +kernel
theorem dX3_copyFrom_39 : decode cX3_copyFrom 39 = .ok (.putfield 67, 3) := by decide +kernel
theorem dX3_copyFrom_42 : decode cX3_copyFrom 42 = .ok (.aload_n 0, 1) := by decide +kernel
theorem dX3_copyFrom_43 : decode cX3_copyFrom 43 = .ok (.aload_n 1, 1) := by decide +kernel
theorem dX3_copyFrom_44 : decode cX3_copyFrom 44 = .ok (.getfield 70, 3) := by decide +kernel
theorem dX3_copyFrom_47 : decode cX3_copyFrom 47 = .ok (.putfield 70, 3) := by decide +kernel
theorem dX3_copyFrom_50 : decode cX3_copyFrom 50 = .ok (.aload_n 0, 1) := by decide +kernel
theorem dX3_copyFrom_51 : decode cX3_copyFrom 51 = .ok (.aload_n 1, 1) := by decide +kernel
theorem dX3_copyFrom_52 : decode cX3_copyFrom 52 = .ok (.getfield 73, 3) := by decide +kernel
theorem dX3_copyFrom_55 : decode cX3_copyFrom 55 = .ok (.putfield 73, 3) := by decide +kernel
theorem dX3_copyFrom_58 : decode cX3_copyFrom 58 = .ok (.aload_n 0, 1) := by decide +kernel
theorem dX3_copyFrom_59 : decode cX3_copyFrom 59 = .ok (.aload_n 1, 1) := by decide +kernel
theorem dX3_copyFrom_60 : decode cX3_copyFrom 60 = .ok (.getfield 76, 3) := by decide +kernel
theorem dX3_copyFrom_63 : decode cX3_copyFrom 63 = .ok (.putfield 76, 3) := by decide +kernel
theorem dX3_copyFrom_66 : decode cX3_copyFrom 66 = .ok (.aload_n 0, 1) := by decide +kernel
theorem dX3_copyFrom_67 : decode cX3_copyFrom 67 = .ok (.aload_n 1, 1) := by decide +kernel
theorem dX3_copyFrom_68 : decode cX3_copyFrom 68 = .ok (.getfield 47, 3) := by decide +kernel
theorem dX3_copyFrom_71 : decode cX3_copyFrom 71 = .ok (.putfield 47, 3) := by decide +kernel
theorem dX3_copyFrom_74 : decode cX3_copyFrom 74 = .ok (.aload_n 0, 1) := by decide +kernel
theorem dX3_copyFrom_75 : decode cX3_copyFrom 75 = .ok (.aload_n 1, 1) := by decide +kernel
theorem dX3_copyFrom_76 : decode cX3_copyFrom 76 = .ok (.getfield 51, 3) := by decide +kernel
theorem dX3_copyFrom_79 : decode cX3_copyFrom 79 = .ok (.putfield 51, 3) := by decide +kernel
theorem dX3_copyFrom_82 : decode cX3_copyFrom 82 = .ok (.aload_n 0, 1) := by decide +kernel
theorem dX3_copyFrom_83 : decode cX3_copyFrom 83 = .ok (.aload_n 1, 1) := by decide +kernel
theorem dX3_copyFrom_84 : decode cX3_copyFrom 84 = .ok (.getfield 79, 3) := by decide +kernel
theorem dX3_copyFrom_87 : decode cX3_copyFrom 87 = .ok (.putfield 79, 3) := by decide +kernel
theorem dX3_copyFrom_90 : decode cX3_copyFrom 90 = .ok (.aload_n 0, 1) := by decide +kernel
theorem dX3_copyFrom_91 : decode cX3_copyFrom 91 = .ok (.aload_n 1, 1) := by decide +kernel
theorem dX3_copyFrom_92 : decode cX3_copyFrom 92 = .ok (.getfield 82, 3) := by decide +kernel
theorem dX3_copyFrom_95 : decode cX3_copyFrom 95 = .ok (.putfield 82, 3) := by decide +kernel
theorem dX3_copyFrom_98 : decode cX3_copyFrom 98 = .ok (.aload_n 0, 1) := by decide +kernel
theorem dX3_copyFrom_99 : decode cX3_copyFrom 99 = .ok (.aload_n 1, 1) := by decide +kernel
theorem dX3_copyFrom_100 : decode cX3_copyFrom 100 = .ok (.getfield 85, 3) := by decide +kernel
theorem dX3_copyFrom_103 : decode cX3_copyFrom 103 = .ok (.putfield 85, 3) := by decide +kernel
theorem dX3_copyFrom_106 : decode cX3_copyFrom 106 = .ok (.aload_n 0, 1) := by decide +kernel
theorem dX3_copyFrom_107 : decode cX3_copyFrom 107 = .ok (.aload_n 1, 1) := by decide +kernel
theorem dX3_copyFrom_108 : decode cX3_copyFrom 108 = .ok (.getfield 88, 3) := by decide +kernel
theorem dX3_copyFrom_111 : decode cX3_copyFrom 111 = .ok (.putfield 88, 3) := by decide +kernel
theorem dX3_copyFrom_114 : decode cX3_copyFrom 114 = .ok (.return_, 1) := by decide +kernel
theorem dX3_copyGrainFrom_0 : decode cX3_copyGrainFrom 0 = .ok (.aload_n 0, 1) := by decide +kernel
theorem dX3_copyGrainFrom_1 : decode cX3_copyGrainFrom 1 = .ok (.aload_n 1, 1) := by decide +kernel
theorem dX3_copyGrainFrom_2 : decode cX3_copyGrainFrom 2 = .ok (.getfield 91, 3) := by decide +kernel
theorem dX3_copyGrainFrom_5 : decode cX3_copyGrainFrom 5 = .ok (.putfield 91, 3) := by decide +kernel
theorem dX3_copyGrainFrom_8 : decode cX3_copyGrainFrom 8 = .ok (.aload_n 0, 1) := by decide +kernel
theorem dX3_copyGrainFrom_9 : decode cX3_copyGrainFrom 9 = .ok (.aload_n 1, 1) := by decide +kernel
theorem dX3_copyGrainFrom_10 : decode cX3_copyGrainFrom 10 = .ok (.getfield 94, 3) := by decide +kernel
theorem dX3_copyGrainFrom_13 : decode cX3_copyGrainFrom 13 = .ok (.putfield 94, 3) := by decide +kernel
theorem dX3_copyGrainFrom_16 : decode cX3_copyGrainFrom 16 = .ok (.aload_n 0, 1) := by decide +kernel
theorem dX3_copyGrainFrom_17 : decode cX3_copyGrainFrom 17 = .ok (.aload_n 1, 1) := by decide +kernel
theorem dX3_copyGrainFrom_18 : decode cX3_copyGrainFrom 18 = .ok (.getfield 97, 3) := by decide +kernel
theorem dX3_copyGrainFrom_21 : decode cX3_copyGrainFrom 21 = .ok (.putfield 97, 3) := by decide +kernel
theorem dX3_copyGrainFrom_24 : decode cX3_copyGrainFrom 24 = .ok (.iconst 0, 1) := by decide +kernel
theorem dX3_copyGrainFrom_25 : decode cX3_copyGrainFrom 25 = .ok (.istore_n 2, 1) := by decide +kernel
theorem dX3_copyGrainFrom_26 : decode cX3_copyGrainFrom 26 = .ok (.iload_n 2, 1) := by decide +kernel
theorem dX3_copyGrainFrom_27 : decode cX3_copyGrainFrom 27 = .ok (.aload_n 0, 1) := by decide +kernel
theorem dX3_copyGrainFrom_28 : decode cX3_copyGrainFrom 28 = .ok (.getfield 91, 3) := by decide +kernel
theorem dX3_copyGrainFrom_31 : decode cX3_copyGrainFrom 31 = .ok (.if_icmp .ge 24, 3) := by decide +kernel
theorem dX3_copyGrainFrom_34 : decode cX3_copyGrainFrom 34 = .ok (.aload_n 0, 1) := by decide +kernel
theorem dX3_copyGrainFrom_35 : decode cX3_copyGrainFrom 35 = .ok (.getfield 31, 3) := by decide +kernel
theorem dX3_copyGrainFrom_38 : decode cX3_copyGrainFrom 38 = .ok (.iload_n 2, 1) := by decide +kernel
theorem dX3_copyGrainFrom_39 : decode cX3_copyGrainFrom 39 = .ok (.aaload, 1) := by decide +kernel
theorem dX3_copyGrainFrom_40 : decode cX3_copyGrainFrom 40 = .ok (.aload_n 1, 1) := by decide +kernel
theorem dX3_copyGrainFrom_41 : decode cX3_copyGrainFrom 41 = .ok (.getfield 31, 3) := by decide +kernel
theorem dX3_copyGrainFrom_44 : decode cX3_copyGrainFrom 44 = .ok (.iload_n 2, 1) := by decide +kernel
theorem dX3_copyGrainFrom_45 : decode cX3_copyGrainFrom 45 = .ok (.aaload, 1) := by decide +kernel
theorem dX3_copyGrainFrom_46 : decode cX3_copyGrainFrom 46 = .ok (.invokevirtual 100, 3) := by decide +kernel
theorem dX3_copyGrainFrom_49 : decode cX3_copyGrainFrom 49 = .ok (.iinc 2 1, 3) := by decide +kernel
theorem dX3_copyGrainFrom_52 : decode cX3_copyGrainFrom 52 = .ok (.goto (-26), 3) := by decide +kernel
theorem dX3_copyGrainFrom_55 : decode cX3_copyGrainFrom 55 = .ok (.iconst 0, 1) := by decide +kernel
theorem dX3_copyGrainFrom_56 : decode cX3_copyGrainFrom 56 = .ok (.istore_n 2, 1) := by decide +kernel
theorem dX3_copyGrainFrom_57 : decode cX3_copyGrainFrom 57 = .ok (.iload_n 2, 1) := by decide +kernel
theorem dX3_copyGrainFrom_58 : decode cX3_copyGrainFrom 58 = .ok (.aload_n 0, 1) := by decide +kernel
theorem dX3_copyGrainFrom_59 : decode cX3_copyGrainFrom 59 = .ok (.getfield 94, 3) := by decide +kernel
theorem dX3_copyGrainFrom_62 : decode cX3_copyGrainFrom 62 = .ok (.if_icmp .ge 24, 3) := by decide +kernel
theorem dX3_copyGrainFrom_65 : decode cX3_copyGrainFrom 65 = .ok (.aload_n 0, 1) := by decide +kernel
theorem dX3_copyGrainFrom_66 : decode cX3_copyGrainFrom 66 = .ok (.getfield 37, 3) := by decide +kernel
theorem dX3_copyGrainFrom_69 : decode cX3_copyGrainFrom 69 = .ok (.iload_n 2, 1) := by decide +kernel
theorem dX3_copyGrainFrom_70 : decode cX3_copyGrainFrom 70 = .ok (.aaload, 1) := by decide +kernel
theorem dX3_copyGrainFrom_71 : decode cX3_copyGrainFrom 71 = .ok (.aload_n 1, 1) := by decide +kernel
theorem dX3_copyGrainFrom_72 : decode cX3_copyGrainFrom 72 = .ok (.getfield 37, 3) := by decide +kernel
theorem dX3_copyGrainFrom_75 : decode cX3_copyGrainFrom 75 = .ok (.iload_n 2, 1) := by decide +kernel
theorem dX3_copyGrainFrom_76 : decode cX3_copyGrainFrom 76 = .ok (.aaload, 1) := by decide +kernel
theorem dX3_copyGrainFrom_77 : decode cX3_copyGrainFrom 77 = .ok (.invokevirtual 104, 3) := by decide +kernel
theorem dX3_copyGrainFrom_80 : decode cX3_copyGrainFrom 80 = .ok (.iinc 2 1, 3) := by decide +kernel
theorem dX3_copyGrainFrom_83 : decode cX3_copyGrainFrom 83 = .ok (.goto (-26), 3) := by decide +kernel
theorem dX3_copyGrainFrom_86 : decode cX3_copyGrainFrom 86 = .ok (.iconst 0, 1) := by decide +kernel
theorem dX3_copyGrainFrom_87 : decode cX3_copyGrainFrom 87 = .ok (.istore_n 2, 1) := by decide +kernel
theorem dX3_copyGrainFrom_88 : decode cX3_copyGrainFrom 88 = .ok (.iload_n 2, 1) := by decide +kernel
theorem dX3_copyGrainFrom_89 : decode cX3_copyGrainFrom 89 = .ok (.aload_n 0, 1) := by decide +kernel
theorem dX3_copyGrainFrom_90 : decode cX3_copyGrainFrom 90 = .ok (.getfield 97, 3) := by decide +kernel
theorem dX3_copyGrainFrom_93 : decode cX3_copyGrainFrom 93 = .ok (.if_icmp .ge 24, 3) := by decide +kernel
theorem dX3_copyGrainFrom_96 : decode cX3_copyGrainFrom 96 = .ok (.aload_n 0, 1) := by decide +kernel
theorem dX3_copyGrainFrom_97 : decode cX3_copyGrainFrom 97 = .ok (.getfield 43, 3) := by decide +kernel
theorem dX3_copyGrainFrom_100 : decode cX3_copyGrainFrom 100 = .ok (.iload_n 2, 1) := by decide +kernel
theorem dX3_copyGrainFrom_101 : decode cX3_copyGrainFrom 101 = .ok (.aaload, 1) := by decide +kernel
theorem dX3_copyGrainFrom_102 : decode cX3_copyGrainFrom 102 = .ok (.aload_n 1, 1) := by decide +kernel
theorem dX3_copyGrainFrom_103 : decode cX3_copyGrainFrom 103 = .ok (.getfield 43, 3) := by decide +kernel
theorem dX3_copyGrainFrom_106 : decode cX3_copyGrainFrom 106 = .ok (.iload_n 2, 1) := by decide +kernel
theorem dX3_copyGrainFrom_107 : decode cX3_copyGrainFrom 107 = .ok (.aaload, 1) := by decide +kernel
theorem dX3_copyGrainFrom_108 : decode cX3_copyGrainFrom 108 = .ok (.invokevirtual 107, 3) := by decide +kernel
theorem dX3_copyGrainFrom_111 : decode cX3_copyGrainFrom 111 = .ok (.iinc 2 1, 3) := by decide +kernel
theorem dX3_copyGrainFrom_114 : decode cX3_copyGrainFrom 114 = .ok (.goto (-26), 3) := by decide +kernel
theorem dX3_copyGrainFrom_117 : decode cX3_copyGrainFrom 117 = .ok (.return_, 1) := by decide +kernel
theorem dX3_hasKind_0 : decode cX3_hasKind 0 = .ok (.iload_n 1, 1) := by decide +kernel
theorem dX3_hasKind_1 : decode cX3_hasKind 1 = .ok (.ifCond .lt 15, 3) := by decide +kernel
theorem dX3_hasKind_4 : decode cX3_hasKind 4 = .ok (.iload_n 1, 1) := by decide +kernel
theorem dX3_hasKind_5 : decode cX3_hasKind 5 = .ok (.aload_n 0, 1) := by decide +kernel
theorem dX3_hasKind_6 : decode cX3_hasKind 6 = .ok (.getfield 91, 3) := by decide +kernel
theorem dX3_hasKind_9 : decode cX3_hasKind 9 = .ok (.if_icmp .ge 7, 3) := by decide +kernel
theorem dX3_hasKind_12 : decode cX3_hasKind 12 = .ok (.iconst 1, 1) := by decide +kernel
theorem dX3_hasKind_13 : decode cX3_hasKind 13 = .ok (.goto 4, 3) := by decide +kernel
theorem dX3_hasKind_16 : decode cX3_hasKind 16 = .ok (.iconst 0, 1) := by decide +kernel
theorem dX3_hasKind_17 : decode cX3_hasKind 17 = .ok (.ireturn, 1) := by decide +kernel
theorem dX3_hasFarmer_0 : decode cX3_hasFarmer 0 = .ok (.iload_n 1, 1) := by decide +kernel
theorem dX3_hasFarmer_1 : decode cX3_hasFarmer 1 = .ok (.ifCond .lt 15, 3) := by decide +kernel
theorem dX3_hasFarmer_4 : decode cX3_hasFarmer 4 = .ok (.iload_n 1, 1) := by decide +kernel
theorem dX3_hasFarmer_5 : decode cX3_hasFarmer 5 = .ok (.aload_n 0, 1) := by decide +kernel
theorem dX3_hasFarmer_6 : decode cX3_hasFarmer 6 = .ok (.getfield 94, 3) := by decide +kernel
theorem dX3_hasFarmer_9 : decode cX3_hasFarmer 9 = .ok (.if_icmp .ge 7, 3) := by decide +kernel
theorem dX3_hasFarmer_12 : decode cX3_hasFarmer 12 = .ok (.iconst 1, 1) := by decide +kernel
theorem dX3_hasFarmer_13 : decode cX3_hasFarmer 13 = .ok (.goto 4, 3) := by decide +kernel
theorem dX3_hasFarmer_16 : decode cX3_hasFarmer 16 = .ok (.iconst 0, 1) := by decide +kernel
theorem dX3_hasFarmer_17 : decode cX3_hasFarmer 17 = .ok (.ireturn, 1) := by decide +kernel
theorem dX3_hasSack_0 : decode cX3_hasSack 0 = .ok (.iload_n 1, 1) := by decide +kernel
theorem dX3_hasSack_1 : decode cX3_hasSack 1 = .ok (.ifCond .lt 15, 3) := by decide +kernel
theorem dX3_hasSack_4 : decode cX3_hasSack 4 = .ok (.iload_n 1, 1) := by decide +kernel
theorem dX3_hasSack_5 : decode cX3_hasSack 5 = .ok (.aload_n 0, 1) := by decide +kernel
theorem dX3_hasSack_6 : decode cX3_hasSack 6 = .ok (.getfield 97, 3) := by decide +kernel
theorem dX3_hasSack_9 : decode cX3_hasSack 9 = .ok (.if_icmp .ge 7, 3) := by decide +kernel
theorem dX3_hasSack_12 : decode cX3_hasSack 12 = .ok (.iconst 1, 1) := by decide +kernel
theorem dX3_hasSack_13 : decode cX3_hasSack 13 = .ok (.goto 4, 3) := by decide +kernel
theorem dX3_hasSack_16 : decode cX3_hasSack 16 = .ok (.iconst 0, 1) := by decide +kernel
theorem dX3_hasSack_17 : decode cX3_hasSack 17 = .ok (.ireturn, 1) := by decide +kernel
theorem dX3_changeSetting_0 : decode cX3_changeSetting 0 = .ok (.iload_n 1, 1) := by decide +kernel
theorem dX3_changeSetting_1 : decode cX3_changeSetting 1 = .ok (.iconst 0, 1) := by decide +kernel
theorem dX3_changeSetting_2 : decode cX3_changeSetting 2 = .ok (.bipush 12, 2) := by decide +kernel
theorem dX3_changeSetting_4 : decode cX3_changeSetting 4 = .ok (.invokestatic 110, 3) := by decide +kernel
theorem dX3_changeSetting_7 : decode cX3_changeSetting 7 = .ok (.ifCond .eq 20, 3) := by decide +kernel
theorem dX3_changeSetting_10 : decode cX3_changeSetting 10 = .ok (.iload_n 2, 1) := by decide +kernel
theorem dX3_changeSetting_11 : decode cX3_changeSetting 11 = .ok (.getstatic 114, 3) := by decide +kernel
theorem dX3_changeSetting_14 : decode cX3_changeSetting 14 = .ok (.iload_n 1, 1) := by decide +kernel
theorem dX3_changeSetting_15 : decode cX3_changeSetting 15 = .ok (.iaload, 1) := by decide +kernel
theorem dX3_changeSetting_16 : decode cX3_changeSetting 16 = .ok (.getstatic 117, 3) := by decide +kernel
theorem dX3_changeSetting_19 : decode cX3_changeSetting 19 = .ok (.iload_n 1, 1) := by decide +kernel
theorem dX3_changeSetting_20 : decode cX3_changeSetting 20 = .ok (.iaload, 1) := by decide +kernel
theorem dX3_changeSetting_21 : decode cX3_changeSetting 21 = .ok (.invokestatic 110, 3) := by decide +kernel
theorem dX3_changeSetting_24 : decode cX3_changeSetting 24 = .ok (.ifCond .ne 6, 3) := by decide +kernel
theorem dX3_changeSetting_27 : decode cX3_changeSetting 27 = .ok (.ldc 120, 2) := by decide +kernel
theorem dX3_changeSetting_29 : decode cX3_changeSetting 29 = .ok (.ireturn, 1) := by decide +kernel
theorem dX3_changeSetting_30 : decode cX3_changeSetting 30 = .ok (.aload_n 0, 1) := by decide +kernel
theorem dX3_changeSetting_31 : decode cX3_changeSetting 31 = .ok (.getfield 18, 3) := by decide +kernel
theorem dX3_changeSetting_34 : decode cX3_changeSetting 34 = .ok (.iload_n 1, 1) := by decide +kernel
theorem dX3_changeSetting_35 : decode cX3_changeSetting 35 = .ok (.iaload, 1) := by decide +kernel
theorem dX3_changeSetting_36 : decode cX3_changeSetting 36 = .ok (.istore_n 3, 1) := by decide +kernel
theorem dX3_changeSetting_37 : decode cX3_changeSetting 37 = .ok (.aload_n 0, 1) := by decide +kernel
theorem dX3_changeSetting_38 : decode cX3_changeSetting 38 = .ok (.getfield 18, 3) := by decide +kernel
theorem dX3_changeSetting_41 : decode cX3_changeSetting 41 = .ok (.iload_n 1, 1) := by decide +kernel
theorem dX3_changeSetting_42 : decode cX3_changeSetting 42 = .ok (.iload_n 2, 1) := by decide +kernel
theorem dX3_changeSetting_43 : decode cX3_changeSetting 43 = .ok (.iastore, 1) := by decide +kernel
theorem dX3_changeSetting_44 : decode cX3_changeSetting 44 = .ok (.iload_n 3, 1) := by decide +kernel
theorem dX3_changeSetting_45 : decode cX3_changeSetting 45 = .ok (.ireturn, 1) := by decide +kernel
theorem dX3_changeLock_0 : decode cX3_changeLock 0 = .ok (.iload_n 1, 1) := by decide +kernel
theorem dX3_changeLock_1 : decode cX3_changeLock 1 = .ok (.iconst 0, 1) := by decide +kernel
theorem dX3_changeLock_2 : decode cX3_changeLock 2 = .ok (.iconst 1, 1) := by decide +kernel
theorem dX3_changeLock_3 : decode cX3_changeLock 3 = .ok (.invokestatic 110, 3) := by decide +kernel
theorem dX3_changeLock_6 : decode cX3_changeLock 6 = .ok (.ifCond .ne 6, 3) := by decide +kernel
theorem dX3_changeLock_9 : decode cX3_changeLock 9 = .ok (.ldc 120, 2) := by decide +kernel
theorem dX3_changeLock_11 : decode cX3_changeLock 11 = .ok (.ireturn, 1) := by decide +kernel
theorem dX3_changeLock_12 : decode cX3_changeLock 12 = .ok (.aload_n 0, 1) := by decide +kernel
theorem dX3_changeLock_13 : decode cX3_changeLock 13 = .ok (.getfield 73, 3) := by decide +kernel
theorem dX3_changeLock_16 : decode cX3_changeLock 16 = .ok (.istore_n 2, 1) := by decide +kernel
theorem dX3_changeLock_17 : decode cX3_changeLock 17 = .ok (.aload_n 0, 1) := by decide +kernel
theorem dX3_changeLock_18 : decode cX3_changeLock 18 = .ok (.iload_n 1, 1) := by decide +kernel
theorem dX3_changeLock_19 : decode cX3_changeLock 19 = .ok (.putfield 73, 3) := by decide +kernel
theorem dX3_changeLock_22 : decode cX3_changeLock 22 = .ok (.iload_n 2, 1) := by decide +kernel
theorem dX3_changeLock_23 : decode cX3_changeLock 23 = .ok (.ireturn, 1) := by decide +kernel
theorem dX3_changeOpening_0 : decode cX3_changeOpening 0 = .ok (.iload_n 1, 1) := by decide +kernel
theorem dX3_changeOpening_1 : decode cX3_changeOpening 1 = .ok (.iconst 0, 1) := by decide +kernel
theorem dX3_changeOpening_2 : decode cX3_changeOpening 2 = .ok (.iconst 3, 1) := by decide +kernel
theorem dX3_changeOpening_3 : decode cX3_changeOpening 3 = .ok (.invokestatic 110, 3) := by decide +kernel
theorem dX3_changeOpening_6 : decode cX3_changeOpening 6 = .ok (.ifCond .ne 6, 3) := by decide +kernel
theorem dX3_changeOpening_9 : decode cX3_changeOpening 9 = .ok (.ldc 120, 2) := by decide +kernel
theorem dX3_changeOpening_11 : decode cX3_changeOpening 11 = .ok (.ireturn, 1) := by decide +kernel
theorem dX3_changeOpening_12 : decode cX3_changeOpening 12 = .ok (.aload_n 0, 1) := by decide +kernel
theorem dX3_changeOpening_13 : decode cX3_changeOpening 13 = .ok (.getfield 76, 3) := by decide +kernel
theorem dX3_changeOpening_16 : decode cX3_changeOpening 16 = .ok (.istore_n 2, 1) := by decide +kernel
theorem dX3_changeOpening_17 : decode cX3_changeOpening 17 = .ok (.aload_n 0, 1) := by decide +kernel
theorem dX3_changeOpening_18 : decode cX3_changeOpening 18 = .ok (.iload_n 1, 1) := by decide +kernel
theorem dX3_changeOpening_19 : decode cX3_changeOpening 19 = .ok (.putfield 76, 3) := by decide +kernel
theorem dX3_changeOpening_22 : decode cX3_changeOpening 22 = .ok (.iload_n 2, 1) := by decide +kernel
theorem dX3_changeOpening_23 : decode cX3_changeOpening 23 = .ok (.ireturn, 1) := by decide +kernel
theorem dX3_addKind_0 : decode cX3_addKind 0 = .ok (.iload_n 1, 1) := by decide +kernel
theorem dX3_addKind_1 : decode cX3_addKind 1 = .ok (.iconst 1, 1) := by decide +kernel
theorem dX3_addKind_2 : decode cX3_addKind 2 = .ok (.bipush 9, 2) := by decide +kernel
theorem dX3_addKind_4 : decode cX3_addKind 4 = .ok (.invokestatic 110, 3) := by decide +kernel
theorem dX3_addKind_7 : decode cX3_addKind 7 = .ok (.ifCond .eq 23, 3) := by decide +kernel
theorem dX3_addKind_10 : decode cX3_addKind 10 = .ok (.iload_n 2, 1) := by decide +kernel
theorem dX3_addKind_11 : decode cX3_addKind 11 = .ok (.iconst 0, 1) := by decide +kernel
theorem dX3_addKind_12 : decode cX3_addKind 12 = .ok (.bipush 20, 2) := by decide +kernel
theorem dX3_addKind_14 : decode cX3_addKind 14 = .ok (.invokestatic 110, 3) := by decide +kernel
theorem dX3_addKind_17 : decode cX3_addKind 17 = .ok (.ifCond .eq 13, 3) := by decide +kernel
theorem dX3_addKind_20 : decode cX3_addKind 20 = .ok (.iload_n 3, 1) := by decide +kernel
theorem dX3_addKind_21 : decode cX3_addKind 21 = .ok (.iconst 1, 1) := by decide +kernel
theorem dX3_addKind_22 : decode cX3_addKind 22 = .ok (.ldc 121, 2) := by decide +kernel
theorem dX3_addKind_24 : decode cX3_addKind 24 = .ok (.invokestatic 110, 3) := by decide +kernel
theorem dX3_addKind_27 : decode cX3_addKind 27 = .ok (.ifCond .ne 6, 3) := by decide +kernel
theorem dX3_addKind_30 : decode cX3_addKind 30 = .ok (.ldc 120, 2) := by decide +kernel
theorem dX3_addKind_32 : decode cX3_addKind 32 = .ok (.ireturn, 1) := by decide +kernel
theorem dX3_addKind_33 : decode cX3_addKind 33 = .ok (.aload_n 0, 1) := by decide +kernel
theorem dX3_addKind_34 : decode cX3_addKind 34 = .ok (.getfield 91, 3) := by decide +kernel
theorem dX3_addKind_37 : decode cX3_addKind 37 = .ok (.bipush 6, 2) := by decide +kernel
theorem dX3_addKind_39 : decode cX3_addKind 39 = .ok (.if_icmp .lt 6, 3) := by decide +kernel
theorem dX3_addKind_42 : decode cX3_addKind 42 = .ok (.ldc 122, 2) := by decide +kernel
theorem dX3_addKind_44 : decode cX3_addKind 44 = .ok (.ireturn, 1) := by decide +kernel
theorem dX3_addKind_45 : decode cX3_addKind 45 = .ok (.aload_n 0, 1) := by decide +kernel
theorem dX3_addKind_46 : decode cX3_addKind 46 = .ok (.getfield 31, 3) := by decide +kernel
theorem dX3_addKind_49 : decode cX3_addKind 49 = .ok (.aload_n 0, 1) := by decide +kernel
theorem dX3_addKind_50 : decode cX3_addKind 50 = .ok (.getfield 91, 3) := by decide +kernel
theorem dX3_addKind_53 : decode cX3_addKind 53 = .ok (.aaload, 1) := by decide +kernel
theorem dX3_addKind_54 : decode cX3_addKind 54 = .ok (.astore 4, 2) := by decide +kernel
theorem dX3_addKind_56 : decode cX3_addKind 56 = .ok (.aload 4, 2) := by decide +kernel
theorem dX3_addKind_58 : decode cX3_addKind 58 = .ok (.iload_n 1, 1) := by decide +kernel
theorem dX3_addKind_59 : decode cX3_addKind 59 = .ok (.putfield 123, 3) := by decide +kernel
theorem dX3_addKind_62 : decode cX3_addKind 62 = .ok (.aload 4, 2) := by decide +kernel
theorem dX3_addKind_64 : decode cX3_addKind 64 = .ok (.iload_n 2, 1) := by decide +kernel
theorem dX3_addKind_65 : decode cX3_addKind 65 = .ok (.putfield 126, 3) := by decide +kernel
theorem dX3_addKind_68 : decode cX3_addKind 68 = .ok (.aload 4, 2) := by decide +kernel
theorem dX3_addKind_70 : decode cX3_addKind 70 = .ok (.iload_n 3, 1) := by decide +kernel
theorem dX3_addKind_71 : decode cX3_addKind 71 = .ok (.putfield 129, 3) := by decide +kernel
theorem dX3_addKind_74 : decode cX3_addKind 74 = .ok (.aload_n 0, 1) := by decide +kernel
theorem dX3_addKind_75 : decode cX3_addKind 75 = .ok (.dup, 1) := by decide +kernel
theorem dX3_addKind_76 : decode cX3_addKind 76 = .ok (.getfield 91, 3) := by decide +kernel
theorem dX3_addKind_79 : decode cX3_addKind 79 = .ok (.iconst 1, 1) := by decide +kernel
theorem dX3_addKind_80 : decode cX3_addKind 80 = .ok (.iadd, 1) := by decide +kernel
theorem dX3_addKind_81 : decode cX3_addKind 81 = .ok (.putfield 91, 3) := by decide +kernel
theorem dX3_addKind_84 : decode cX3_addKind 84 = .ok (.aload_n 0, 1) := by decide +kernel
theorem dX3_addKind_85 : decode cX3_addKind 85 = .ok (.getfield 91, 3) := by decide +kernel
theorem dX3_addKind_88 : decode cX3_addKind 88 = .ok (.iconst 1, 1) := by decide +kernel
theorem dX3_addKind_89 : decode cX3_addKind 89 = .ok (.isub, 1) := by decide +kernel
theorem dX3_addKind_90 : decode cX3_addKind 90 = .ok (.ireturn, 1) := by decide +kernel
theorem dX3_addFarmer_0 : decode cX3_addFarmer 0 = .ok (.aload_n 0, 1) := by decide +kernel
theorem dX3_addFarmer_1 : decode cX3_addFarmer 1 = .ok (.getfield 94, 3) := by decide +kernel
theorem dX3_addFarmer_4 : decode cX3_addFarmer 4 = .ok (.bipush 8, 2) := by decide +kernel
theorem dX3_addFarmer_6 : decode cX3_addFarmer 6 = .ok (.if_icmp .lt 6, 3) := by decide +kernel
theorem dX3_addFarmer_9 : decode cX3_addFarmer 9 = .ok (.ldc 122, 2) := by decide +kernel
theorem dX3_addFarmer_11 : decode cX3_addFarmer 11 = .ok (.ireturn, 1) := by decide +kernel
theorem dX3_addFarmer_12 : decode cX3_addFarmer 12 = .ok (.aload_n 0, 1) := by decide +kernel
theorem dX3_addFarmer_13 : decode cX3_addFarmer 13 = .ok (.getfield 37, 3) := by decide +kernel
theorem dX3_addFarmer_16 : decode cX3_addFarmer 16 = .ok (.aload_n 0, 1) := by decide +kernel
theorem dX3_addFarmer_17 : decode cX3_addFarmer 17 = .ok (.getfield 94, 3) := by decide +kernel
theorem dX3_addFarmer_20 : decode cX3_addFarmer 20 = .ok (.aaload, 1) := by decide +kernel
theorem dX3_addFarmer_21 : decode cX3_addFarmer 21 = .ok (.astore_n 1, 1) := by decide +kernel
theorem dX3_addFarmer_22 : decode cX3_addFarmer 22 = .ok (.aload_n 1, 1) := by decide +kernel
theorem dX3_addFarmer_23 : decode cX3_addFarmer 23 = .ok (.iconst 0, 1) := by decide +kernel
theorem dX3_addFarmer_24 : decode cX3_addFarmer 24 = .ok (.putfield 132, 3) := by decide +kernel
theorem dX3_addFarmer_27 : decode cX3_addFarmer 27 = .ok (.aload_n 1, 1) := by decide +kernel
theorem dX3_addFarmer_28 : decode cX3_addFarmer 28 = .ok (.iconst 0, 1) := by decide +kernel
theorem dX3_addFarmer_29 : decode cX3_addFarmer 29 = .ok (.putfield 135, 3) := by decide +kernel
theorem dX3_addFarmer_32 : decode cX3_addFarmer 32 = .ok (.aload_n 0, 1) := by decide +kernel
theorem dX3_addFarmer_33 : decode cX3_addFarmer 33 = .ok (.dup, 1) := by decide +kernel
theorem dX3_addFarmer_34 : decode cX3_addFarmer 34 = .ok (.getfield 94, 3) := by decide +kernel
theorem dX3_addFarmer_37 : decode cX3_addFarmer 37 = .ok (.iconst 1, 1) := by decide +kernel
theorem dX3_addFarmer_38 : decode cX3_addFarmer 38 = .ok (.iadd, 1) := by decide +kernel
theorem dX3_addFarmer_39 : decode cX3_addFarmer 39 = .ok (.putfield 94, 3) := by decide +kernel
theorem dX3_addFarmer_42 : decode cX3_addFarmer 42 = .ok (.aload_n 0, 1) := by decide +kernel
theorem dX3_addFarmer_43 : decode cX3_addFarmer 43 = .ok (.getfield 94, 3) := by decide +kernel
theorem dX3_addFarmer_46 : decode cX3_addFarmer 46 = .ok (.iconst 1, 1) := by decide +kernel
theorem dX3_addFarmer_47 : decode cX3_addFarmer 47 = .ok (.isub, 1) := by decide +kernel
theorem dX3_addFarmer_48 : decode cX3_addFarmer 48 = .ok (.ireturn, 1) := by decide +kernel
theorem dX3_addSack_0 : decode cX3_addSack 0 = .ok (.aload_n 0, 1) := by decide +kernel
theorem dX3_addSack_1 : decode cX3_addSack 1 = .ok (.iload_n 1, 1) := by decide +kernel
theorem dX3_addSack_2 : decode cX3_addSack 2 = .ok (.invokevirtual 138, 3) := by decide +kernel
theorem dX3_addSack_5 : decode cX3_addSack 5 = .ok (.ifCond .eq 22, 3) := by decide +kernel
theorem dX3_addSack_8 : decode cX3_addSack 8 = .ok (.aload_n 0, 1) := by decide +kernel
theorem dX3_addSack_9 : decode cX3_addSack 9 = .ok (.iload_n 2, 1) := by decide +kernel
theorem dX3_addSack_10 : decode cX3_addSack 10 = .ok (.invokevirtual 142, 3) := by decide +kernel
theorem dX3_addSack_13 : decode cX3_addSack 13 = .ok (.ifCond .eq 14, 3) := by decide +kernel
theorem dX3_addSack_16 : decode cX3_addSack 16 = .ok (.iload_n 3, 1) := by decide +kernel
theorem dX3_addSack_17 : decode cX3_addSack 17 = .ok (.iconst 1, 1) := by decide +kernel
theorem dX3_addSack_18 : decode cX3_addSack 18 = .ok (.sipush 200, 3) := by decide +kernel
theorem dX3_addSack_21 : decode cX3_addSack 21 = .ok (.invokestatic 110, 3) := by decide +kernel
theorem dX3_addSack_24 : decode cX3_addSack 24 = .ok (.ifCond .ne 6, 3) := by decide +kernel
theorem dX3_addSack_27 : decode cX3_addSack 27 = .ok (.ldc 120, 2) := by decide +kernel
theorem dX3_addSack_29 : decode cX3_addSack 29 = .ok (.ireturn, 1) := by decide +kernel
theorem dX3_addSack_30 : decode cX3_addSack 30 = .ok (.aload_n 0, 1) := by decide +kernel
theorem dX3_addSack_31 : decode cX3_addSack 31 = .ok (.getfield 97, 3) := by decide +kernel
theorem dX3_addSack_34 : decode cX3_addSack 34 = .ok (.bipush 24, 2) := by decide +kernel
theorem dX3_addSack_36 : decode cX3_addSack 36 = .ok (.if_icmp .lt 6, 3) := by decide +kernel
theorem dX3_addSack_39 : decode cX3_addSack 39 = .ok (.ldc 122, 2) := by decide +kernel
theorem dX3_addSack_41 : decode cX3_addSack 41 = .ok (.ireturn, 1) := by decide +kernel
theorem dX3_addSack_42 : decode cX3_addSack 42 = .ok (.aload_n 0, 1) := by decide +kernel
theorem dX3_addSack_43 : decode cX3_addSack 43 = .ok (.getfield 43, 3) := by decide +kernel
theorem dX3_addSack_46 : decode cX3_addSack 46 = .ok (.aload_n 0, 1) := by decide +kernel
theorem dX3_addSack_47 : decode cX3_addSack 47 = .ok (.getfield 97, 3) := by decide +kernel
theorem dX3_addSack_50 : decode cX3_addSack 50 = .ok (.aaload, 1) := by decide +kernel
theorem dX3_addSack_51 : decode cX3_addSack 51 = .ok (.iload_n 1, 1) := by decide +kernel
theorem dX3_addSack_52 : decode cX3_addSack 52 = .ok (.iload_n 2, 1) := by decide +kernel
theorem dX3_addSack_53 : decode cX3_addSack 53 = .ok (.aload_n 0, 1) := by decide +kernel
theorem dX3_addSack_54 : decode cX3_addSack 54 = .ok (.getfield 31, 3) := by decide +kernel
theorem dX3_addSack_57 : decode cX3_addSack 57 = .ok (.iload_n 2, 1) := by decide +kernel
theorem dX3_addSack_58 : decode cX3_addSack 58 = .ok (.aaload, 1) := by decide +kernel
theorem dX3_addSack_59 : decode cX3_addSack 59 = .ok (.iload_n 3, 1) := by decide +kernel
theorem dX3_addSack_60 : decode cX3_addSack 60 = .ok (.invokevirtual 145, 3) := by decide +kernel
theorem dX3_addSack_63 : decode cX3_addSack 63 = .ok (.aload_n 0, 1) := by decide +kernel
theorem dX3_addSack_64 : decode cX3_addSack 64 = .ok (.dup, 1) := by decide +kernel
theorem dX3_addSack_65 : decode cX3_addSack 65 = .ok (.getfield 97, 3) := by decide +kernel
theorem dX3_addSack_68 : decode cX3_addSack 68 = .ok (.iconst 1, 1) := by decide +kernel
theorem dX3_addSack_69 : decode cX3_addSack 69 = .ok (.iadd, 1) := by decide +kernel
theorem dX3_addSack_70 : decode cX3_addSack 70 = .ok (.putfield 97, 3) := by decide +kernel
theorem dX3_addSack_73 : decode cX3_addSack 73 = .ok (.aload_n 0, 1) := by decide +kernel
theorem dX3_addSack_74 : decode cX3_addSack 74 = .ok (.getfield 97, 3) := by decide +kernel
theorem dX3_addSack_77 : decode cX3_addSack 77 = .ok (.iconst 1, 1) := by decide +kernel
theorem dX3_addSack_78 : decode cX3_addSack 78 = .ok (.isub, 1) := by decide +kernel
theorem dX3_addSack_79 : decode cX3_addSack 79 = .ok (.ireturn, 1) := by decide +kernel
theorem dX3_withdrawSack_0 : decode cX3_withdrawSack 0 = .ok (.aload_n 0, 1) := by decide +kernel
theorem dX3_withdrawSack_1 : decode cX3_withdrawSack 1 = .ok (.iload_n 1, 1) := by decide +kernel
theorem dX3_withdrawSack_2 : decode cX3_withdrawSack 2 = .ok (.invokevirtual 149, 3) := by decide +kernel
theorem dX3_withdrawSack_5 : decode cX3_withdrawSack 5 = .ok (.ifCond .ne 6, 3) := by decide +kernel
theorem dX3_withdrawSack_8 : decode cX3_withdrawSack 8 = .ok (.ldc 120, 2) := by decide +kernel
theorem dX3_withdrawSack_10 : decode cX3_withdrawSack 10 = .ok (.ireturn, 1) := by decide +kernel
theorem dX3_withdrawSack_11 : decode cX3_withdrawSack 11 = .ok (.aload_n 0, 1) := by decide +kernel
theorem dX3_withdrawSack_12 : decode cX3_withdrawSack 12 = .ok (.getfield 43, 3) := by decide +kernel
theorem dX3_withdrawSack_15 : decode cX3_withdrawSack 15 = .ok (.iload_n 1, 1) := by decide +kernel
theorem dX3_withdrawSack_16 : decode cX3_withdrawSack 16 = .ok (.aaload, 1) := by decide +kernel
theorem dX3_withdrawSack_17 : decode cX3_withdrawSack 17 = .ok (.astore_n 2, 1) := by decide +kernel
theorem dX3_withdrawSack_18 : decode cX3_withdrawSack 18 = .ok (.aload_n 2, 1) := by decide +kernel
theorem dX3_withdrawSack_19 : decode cX3_withdrawSack 19 = .ok (.getfield 152, 3) := by decide +kernel
theorem dX3_withdrawSack_22 : decode cX3_withdrawSack 22 = .ok (.ifCond .eq 6, 3) := by decide +kernel
theorem dX3_withdrawSack_25 : decode cX3_withdrawSack 25 = .ok (.ldc 155, 2) := by decide +kernel
theorem dX3_withdrawSack_27 : decode cX3_withdrawSack 27 = .ok (.ireturn, 1) := by decide +kernel
theorem dX3_withdrawSack_28 : decode cX3_withdrawSack 28 = .ok (.aload_n 2, 1) := by decide +kernel
theorem dX3_withdrawSack_29 : decode cX3_withdrawSack 29 = .ok (.aload_n 2, 1) := by decide +kernel
theorem dX3_withdrawSack_30 : decode cX3_withdrawSack 30 = .ok (.invokevirtual 156, 3) := by decide +kernel
theorem dX3_withdrawSack_33 : decode cX3_withdrawSack 33 = .ok (.putfield 160, 3) := by decide +kernel
theorem dX3_withdrawSack_36 : decode cX3_withdrawSack 36 = .ok (.aload_n 2, 1) := by decide +kernel
theorem dX3_withdrawSack_37 : decode cX3_withdrawSack 37 = .ok (.iconst 3, 1) := by decide +kernel
theorem dX3_withdrawSack_38 : decode cX3_withdrawSack 38 = .ok (.putfield 152, 3) := by decide +kernel
theorem dX3_withdrawSack_41 : decode cX3_withdrawSack 41 = .ok (.aload_n 2, 1) := by decide +kernel
theorem dX3_withdrawSack_42 : decode cX3_withdrawSack 42 = .ok (.getfield 160, 3) := by decide +kernel
theorem dX3_withdrawSack_45 : decode cX3_withdrawSack 45 = .ok (.ireturn, 1) := by decide +kernel
theorem dX3_fetchSack_0 : decode cX3_fetchSack 0 = .ok (.aload_n 0, 1) := by decide +kernel
theorem dX3_fetchSack_1 : decode cX3_fetchSack 1 = .ok (.iload_n 1, 1) := by decide +kernel
theorem dX3_fetchSack_2 : decode cX3_fetchSack 2 = .ok (.invokevirtual 149, 3) := by decide +kernel
theorem dX3_fetchSack_5 : decode cX3_fetchSack 5 = .ok (.ifCond .ne 6, 3) := by decide +kernel
theorem dX3_fetchSack_8 : decode cX3_fetchSack 8 = .ok (.ldc 120, 2) := by decide +kernel
theorem dX3_fetchSack_10 : decode cX3_fetchSack 10 = .ok (.ireturn, 1) := by decide +kernel
theorem dX3_fetchSack_11 : decode cX3_fetchSack 11 = .ok (.aload_n 0, 1) := by decide +kernel
theorem dX3_fetchSack_12 : decode cX3_fetchSack 12 = .ok (.getfield 43, 3) := by decide +kernel
theorem dX3_fetchSack_15 : decode cX3_fetchSack 15 = .ok (.iload_n 1, 1) := by decide +kernel
theorem dX3_fetchSack_16 : decode cX3_fetchSack 16 = .ok (.aaload, 1) := by decide +kernel
theorem dX3_fetchSack_17 : decode cX3_fetchSack 17 = .ok (.astore_n 2, 1) := by decide +kernel
theorem dX3_fetchSack_18 : decode cX3_fetchSack 18 = .ok (.aload_n 2, 1) := by decide +kernel
theorem dX3_fetchSack_19 : decode cX3_fetchSack 19 = .ok (.getfield 152, 3) := by decide +kernel
theorem dX3_fetchSack_22 : decode cX3_fetchSack 22 = .ok (.iconst 2, 1) := by decide +kernel
theorem dX3_fetchSack_23 : decode cX3_fetchSack 23 = .ok (.if_icmp .ne 10, 3) := by decide +kernel
theorem dX3_fetchSack_26 : decode cX3_fetchSack 26 = .ok (.aload_n 2, 1) := by decide +kernel
theorem dX3_fetchSack_27 : decode cX3_fetchSack 27 = .ok (.invokevirtual 163, 3) := by decide +kernel
theorem dX3_fetchSack_30 : decode cX3_fetchSack 30 = .ok (.ifCond .eq 6, 3) := by decide +kernel
theorem dX3_fetchSack_33 : decode cX3_fetchSack 33 = .ok (.ldc 155, 2) := by decide +kernel
theorem dX3_fetchSack_35 : decode cX3_fetchSack 35 = .ok (.ireturn, 1) := by decide +kernel
theorem dX3_fetchSack_36 : decode cX3_fetchSack 36 = .ok (.aload_n 2, 1) := by decide +kernel
theorem dX3_fetchSack_37 : decode cX3_fetchSack 37 = .ok (.aload_n 2, 1) := by decide +kernel
theorem dX3_fetchSack_38 : decode cX3_fetchSack 38 = .ok (.invokevirtual 167, 3) := by decide +kernel
theorem dX3_fetchSack_41 : decode cX3_fetchSack 41 = .ok (.putfield 160, 3) := by decide +kernel
theorem dX3_fetchSack_44 : decode cX3_fetchSack 44 = .ok (.aload_n 2, 1) := by decide +kernel
theorem dX3_fetchSack_45 : decode cX3_fetchSack 45 = .ok (.iconst 3, 1) := by decide +kernel
theorem dX3_fetchSack_46 : decode cX3_fetchSack 46 = .ok (.putfield 152, 3) := by decide +kernel
theorem dX3_fetchSack_49 : decode cX3_fetchSack 49 = .ok (.aload_n 2, 1) := by decide +kernel
theorem dX3_fetchSack_50 : decode cX3_fetchSack 50 = .ok (.getfield 160, 3) := by decide +kernel
theorem dX3_fetchSack_53 : decode cX3_fetchSack 53 = .ok (.ireturn, 1) := by decide +kernel
theorem dX3_tellKind_0 : decode cX3_tellKind 0 = .ok (.iload_n 2, 1) := by decide +kernel
theorem dX3_tellKind_1 : decode cX3_tellKind 1 = .ok (.tableswitch 81 0 4 #[35, 45, 55, 65, 72], 35) := by decide +kernel
theorem dX3_tellKind_36 : decode cX3_tellKind 36 = .ok (.aload_n 0, 1) := by decide +kernel
theorem dX3_tellKind_37 : decode cX3_tellKind 37 = .ok (.getfield 31, 3) := by decide +kernel
theorem dX3_tellKind_40 : decode cX3_tellKind 40 = .ok (.iload_n 1, 1) := by decide +kernel
theorem dX3_tellKind_41 : decode cX3_tellKind 41 = .ok (.aaload, 1) := by decide +kernel
theorem dX3_tellKind_42 : decode cX3_tellKind 42 = .ok (.getfield 123, 3) := by decide +kernel
theorem dX3_tellKind_45 : decode cX3_tellKind 45 = .ok (.ireturn, 1) := by decide +kernel
theorem dX3_tellKind_46 : decode cX3_tellKind 46 = .ok (.aload_n 0, 1) := by decide +kernel
theorem dX3_tellKind_47 : decode cX3_tellKind 47 = .ok (.getfield 31, 3) := by decide +kernel
theorem dX3_tellKind_50 : decode cX3_tellKind 50 = .ok (.iload_n 1, 1) := by decide +kernel
theorem dX3_tellKind_51 : decode cX3_tellKind 51 = .ok (.aaload, 1) := by decide +kernel
theorem dX3_tellKind_52 : decode cX3_tellKind 52 = .ok (.getfield 126, 3) := by decide +kernel
theorem dX3_tellKind_55 : decode cX3_tellKind 55 = .ok (.ireturn, 1) := by decide +kernel
theorem dX3_tellKind_56 : decode cX3_tellKind 56 = .ok (.aload_n 0, 1) := by decide +kernel
theorem dX3_tellKind_57 : decode cX3_tellKind 57 = .ok (.getfield 31, 3) := by decide +kernel
theorem dX3_tellKind_60 : decode cX3_tellKind 60 = .ok (.iload_n 1, 1) := by decide +kernel
theorem dX3_tellKind_61 : decode cX3_tellKind 61 = .ok (.aaload, 1) := by decide +kernel
theorem dX3_tellKind_62 : decode cX3_tellKind 62 = .ok (.getfield 129, 3) := by decide +kernel
theorem dX3_tellKind_65 : decode cX3_tellKind 65 = .ok (.ireturn, 1) := by decide +kernel
theorem dX3_tellKind_66 : decode cX3_tellKind 66 = .ok (.aload_n 0, 1) := by decide +kernel
theorem dX3_tellKind_67 : decode cX3_tellKind 67 = .ok (.iconst (-1), 1) := by decide +kernel
theorem dX3_tellKind_68 : decode cX3_tellKind 68 = .ok (.iload_n 1, 1) := by decide +kernel
theorem dX3_tellKind_69 : decode cX3_tellKind 69 = .ok (.invokevirtual 170, 3) := by decide +kernel
theorem dX3_tellKind_72 : decode cX3_tellKind 72 = .ok (.ireturn, 1) := by decide +kernel
theorem dX3_tellKind_73 : decode cX3_tellKind 73 = .ok (.aload_n 0, 1) := by decide +kernel
theorem dX3_tellKind_74 : decode cX3_tellKind 74 = .ok (.iconst (-1), 1) := by decide +kernel
theorem dX3_tellKind_75 : decode cX3_tellKind 75 = .ok (.iload_n 1, 1) := by decide +kernel
theorem dX3_tellKind_76 : decode cX3_tellKind 76 = .ok (.bipush 6, 2) := by decide +kernel
theorem dX3_tellKind_78 : decode cX3_tellKind 78 = .ok (.invokevirtual 174, 3) := by decide +kernel
theorem dX3_tellKind_81 : decode cX3_tellKind 81 = .ok (.ireturn, 1) := by decide +kernel
theorem dX3_tellKind_82 : decode cX3_tellKind 82 = .ok (.aload_n 0, 1) := by decide +kernel
theorem dX3_tellKind_83 : decode cX3_tellKind 83 = .ok (.iconst (-1), 1) := by decide +kernel
theorem dX3_tellKind_84 : decode cX3_tellKind 84 = .ok (.iload_n 1, 1) := by decide +kernel
theorem dX3_tellKind_85 : decode cX3_tellKind 85 = .ok (.bipush 9, 2) := by decide +kernel
theorem dX3_tellKind_87 : decode cX3_tellKind 87 = .ok (.invokevirtual 174, 3) := by decide +kernel
theorem dX3_tellKind_90 : decode cX3_tellKind 90 = .ok (.ireturn, 1) := by decide +kernel
theorem dX3_tellFarmer_0 : decode cX3_tellFarmer 0 = .ok (.iload_n 2, 1) := by decide +kernel
theorem dX3_tellFarmer_1 : decode cX3_tellFarmer 1 = .ok (.tableswitch 76 0 4 #[35, 45, 52, 62, 68], 35) := by decide +kernel
theorem dX3_tellFarmer_36 : decode cX3_tellFarmer 36 = .ok (.aload_n 0, 1) := by decide +kernel
theorem dX3_tellFarmer_37 : decode cX3_tellFarmer 37 = .ok (.getfield 37, 3) := by decide +kernel
theorem dX3_tellFarmer_40 : decode cX3_tellFarmer 40 = .ok (.iload_n 1, 1) := by decide +kernel
theorem dX3_tellFarmer_41 : decode cX3_tellFarmer 41 = .ok (.aaload, 1) := by decide +kernel
theorem dX3_tellFarmer_42 : decode cX3_tellFarmer 42 = .ok (.getfield 132, 3) := by decide +kernel
theorem dX3_tellFarmer_45 : decode cX3_tellFarmer 45 = .ok (.ireturn, 1) := by decide +kernel
theorem dX3_tellFarmer_46 : decode cX3_tellFarmer 46 = .ok (.aload_n 0, 1) := by decide +kernel
theorem dX3_tellFarmer_47 : decode cX3_tellFarmer 47 = .ok (.iload_n 1, 1) := by decide +kernel
theorem dX3_tellFarmer_48 : decode cX3_tellFarmer 48 = .ok (.iconst (-1), 1) := by decide +kernel
theorem dX3_tellFarmer_49 : decode cX3_tellFarmer 49 = .ok (.invokevirtual 170, 3) := by decide +kernel
theorem dX3_tellFarmer_52 : decode cX3_tellFarmer 52 = .ok (.ireturn, 1) := by decide +kernel
theorem dX3_tellFarmer_53 : decode cX3_tellFarmer 53 = .ok (.aload_n 0, 1) := by decide +kernel
theorem dX3_tellFarmer_54 : decode cX3_tellFarmer 54 = .ok (.getfield 37, 3) := by decide +kernel
theorem dX3_tellFarmer_57 : decode cX3_tellFarmer 57 = .ok (.iload_n 1, 1) := by decide +kernel
theorem dX3_tellFarmer_58 : decode cX3_tellFarmer 58 = .ok (.aaload, 1) := by decide +kernel
theorem dX3_tellFarmer_59 : decode cX3_tellFarmer 59 = .ok (.getfield 135, 3) := by decide +kernel
theorem dX3_tellFarmer_62 : decode cX3_tellFarmer 62 = .ok (.ireturn, 1) := by decide +kernel
theorem dX3_tellFarmer_63 : decode cX3_tellFarmer 63 = .ok (.aload_n 0, 1) := by decide +kernel
theorem dX3_tellFarmer_64 : decode cX3_tellFarmer 64 = .ok (.iload_n 1, 1) := by decide +kernel
theorem dX3_tellFarmer_65 : decode cX3_tellFarmer 65 = .ok (.invokevirtual 178, 3) := by decide +kernel
theorem dX3_tellFarmer_68 : decode cX3_tellFarmer 68 = .ok (.ireturn, 1) := by decide +kernel
theorem dX3_tellFarmer_69 : decode cX3_tellFarmer 69 = .ok (.aload_n 0, 1) := by decide +kernel
theorem dX3_tellFarmer_70 : decode cX3_tellFarmer 70 = .ok (.iload_n 1, 1) := by decide +kernel
theorem dX3_tellFarmer_71 : decode cX3_tellFarmer 71 = .ok (.iconst (-1), 1) := by decide +kernel
theorem dX3_tellFarmer_72 : decode cX3_tellFarmer 72 = .ok (.iconst 5, 1) := by decide +kernel
theorem dX3_tellFarmer_73 : decode cX3_tellFarmer 73 = .ok (.invokevirtual 174, 3) := by decide +kernel
theorem dX3_tellFarmer_76 : decode cX3_tellFarmer 76 = .ok (.ireturn, 1) := by decide +kernel
theorem dX3_tellFarmer_77 : decode cX3_tellFarmer 77 = .ok (.aload_n 0, 1) := by decide +kernel
theorem dX3_tellFarmer_78 : decode cX3_tellFarmer 78 = .ok (.iload_n 1, 1) := by decide +kernel
theorem dX3_tellFarmer_79 : decode cX3_tellFarmer 79 = .ok (.iconst (-1), 1) := by decide +kernel
theorem dX3_tellFarmer_80 : decode cX3_tellFarmer 80 = .ok (.bipush 10, 2) := by decide +kernel
theorem dX3_tellFarmer_82 : decode cX3_tellFarmer 82 = .ok (.invokevirtual 174, 3) := by decide +kernel
theorem dX3_tellFarmer_85 : decode cX3_tellFarmer 85 = .ok (.ireturn, 1) := by decide +kernel
theorem dX3_sumOf_0 : decode cX3_sumOf 0 = .ok (.iconst 0, 1) := by decide +kernel
theorem dX3_sumOf_1 : decode cX3_sumOf 1 = .ok (.istore 4, 2) := by decide +kernel
theorem dX3_sumOf_3 : decode cX3_sumOf 3 = .ok (.iconst 0, 1) := by decide +kernel
theorem dX3_sumOf_4 : decode cX3_sumOf 4 = .ok (.istore 5, 2) := by decide +kernel
theorem dX3_sumOf_6 : decode cX3_sumOf 6 = .ok (.iload 5, 2) := by decide +kernel
theorem dX3_sumOf_8 : decode cX3_sumOf 8 = .ok (.aload_n 0, 1) := by decide +kernel
theorem dX3_sumOf_9 : decode cX3_sumOf 9 = .ok (.getfield 97, 3) := by decide +kernel
theorem dX3_sumOf_12 : decode cX3_sumOf 12 = .ok (.if_icmp .ge 40, 3) := by decide +kernel
theorem dX3_sumOf_15 : decode cX3_sumOf 15 = .ok (.aload_n 0, 1) := by decide +kernel
theorem dX3_sumOf_16 : decode cX3_sumOf 16 = .ok (.getfield 43, 3) := by decide +kernel
theorem dX3_sumOf_19 : decode cX3_sumOf 19 = .ok (.iload 5, 2) := by decide +kernel
theorem dX3_sumOf_21 : decode cX3_sumOf 21 = .ok (.aaload, 1) := by decide +kernel
theorem dX3_sumOf_22 : decode cX3_sumOf 22 = .ok (.iload_n 1, 1) := by decide +kernel
theorem dX3_sumOf_23 : decode cX3_sumOf 23 = .ok (.iload_n 2, 1) := by decide +kernel
theorem dX3_sumOf_24 : decode cX3_sumOf 24 = .ok (.invokevirtual 182, 3) := by decide +kernel
theorem dX3_sumOf_27 : decode cX3_sumOf 27 = .ok (.ifCond .eq 19, 3) := by decide +kernel
theorem dX3_sumOf_30 : decode cX3_sumOf 30 = .ok (.iload 4, 2) := by decide +kernel
theorem dX3_sumOf_32 : decode cX3_sumOf 32 = .ok (.aload_n 0, 1) := by decide +kernel
theorem dX3_sumOf_33 : decode cX3_sumOf 33 = .ok (.getfield 43, 3) := by decide +kernel
theorem dX3_sumOf_36 : decode cX3_sumOf 36 = .ok (.iload 5, 2) := by decide +kernel
theorem dX3_sumOf_38 : decode cX3_sumOf 38 = .ok (.aaload, 1) := by decide +kernel
theorem dX3_sumOf_39 : decode cX3_sumOf 39 = .ok (.iload_n 3, 1) := by decide +kernel
theorem dX3_sumOf_40 : decode cX3_sumOf 40 = .ok (.invokevirtual 186, 3) := by decide +kernel
theorem dX3_sumOf_43 : decode cX3_sumOf 43 = .ok (.iadd, 1) := by decide +kernel
theorem dX3_sumOf_44 : decode cX3_sumOf 44 = .ok (.istore 4, 2) := by decide +kernel
theorem dX3_sumOf_46 : decode cX3_sumOf 46 = .ok (.iinc 5 1, 3) := by decide +kernel
theorem dX3_sumOf_49 : decode cX3_sumOf 49 = .ok (.goto (-43), 3) := by decide +kernel
theorem dX3_sumOf_52 : decode cX3_sumOf 52 = .ok (.iload 4, 2) := by decide +kernel
theorem dX3_sumOf_54 : decode cX3_sumOf 54 = .ok (.ireturn, 1) := by decide +kernel
theorem dX3_sacksBrought_0 : decode cX3_sacksBrought 0 = .ok (.iconst 0, 1) := by decide +kernel
theorem dX3_sacksBrought_1 : decode cX3_sacksBrought 1 = .ok (.istore_n 3, 1) := by decide +kernel
theorem dX3_sacksBrought_2 : decode cX3_sacksBrought 2 = .ok (.iconst 0, 1) := by decide +kernel
theorem dX3_sacksBrought_3 : decode cX3_sacksBrought 3 = .ok (.istore 4, 2) := by decide +kernel
theorem dX3_sacksBrought_5 : decode cX3_sacksBrought 5 = .ok (.iload 4, 2) := by decide +kernel
theorem dX3_sacksBrought_7 : decode cX3_sacksBrought 7 = .ok (.aload_n 0, 1) := by decide +kernel
theorem dX3_sacksBrought_8 : decode cX3_sacksBrought 8 = .ok (.getfield 97, 3) := by decide +kernel
theorem dX3_sacksBrought_11 : decode cX3_sacksBrought 11 = .ok (.if_icmp .ge 27, 3) := by decide +kernel
theorem dX3_sacksBrought_14 : decode cX3_sacksBrought 14 = .ok (.aload_n 0, 1) := by decide +kernel
theorem dX3_sacksBrought_15 : decode cX3_sacksBrought 15 = .ok (.getfield 43, 3) := by decide +kernel
theorem dX3_sacksBrought_18 : decode cX3_sacksBrought 18 = .ok (.iload 4, 2) := by decide +kernel
theorem dX3_sacksBrought_20 : decode cX3_sacksBrought 20 = .ok (.aaload, 1) := by decide +kernel
theorem dX3_sacksBrought_21 : decode cX3_sacksBrought 21 = .ok (.iload_n 1, 1) := by decide +kernel
theorem dX3_sacksBrought_22 : decode cX3_sacksBrought 22 = .ok (.iload_n 2, 1) := by decide +kernel
theorem dX3_sacksBrought_23 : decode cX3_sacksBrought 23 = .ok (.invokevirtual 182, 3) := by decide +kernel
theorem dX3_sacksBrought_26 : decode cX3_sacksBrought 26 = .ok (.ifCond .eq 6, 3) := by decide +kernel
theorem dX3_sacksBrought_29 : decode cX3_sacksBrought 29 = .ok (.iinc 3 1, 3) := by decide +kernel
theorem dX3_sacksBrought_32 : decode cX3_sacksBrought 32 = .ok (.iinc 4 1, 3) := by decide +kernel
theorem dX3_sacksBrought_35 : decode cX3_sacksBrought 35 = .ok (.goto (-30), 3) := by decide +kernel
theorem dX3_sacksBrought_38 : decode cX3_sacksBrought 38 = .ok (.iload_n 3, 1) := by decide +kernel
theorem dX3_sacksBrought_39 : decode cX3_sacksBrought 39 = .ok (.ireturn, 1) := by decide +kernel
theorem dX3_sacksInStage_0 : decode cX3_sacksInStage 0 = .ok (.iconst 0, 1) := by decide +kernel
theorem dX3_sacksInStage_1 : decode cX3_sacksInStage 1 = .ok (.istore_n 2, 1) := by decide +kernel
theorem dX3_sacksInStage_2 : decode cX3_sacksInStage 2 = .ok (.iconst 0, 1) := by decide +kernel
theorem dX3_sacksInStage_3 : decode cX3_sacksInStage 3 = .ok (.istore_n 3, 1) := by decide +kernel
theorem dX3_sacksInStage_4 : decode cX3_sacksInStage 4 = .ok (.iload_n 3, 1) := by decide +kernel
theorem dX3_sacksInStage_5 : decode cX3_sacksInStage 5 = .ok (.aload_n 0, 1) := by decide +kernel
theorem dX3_sacksInStage_6 : decode cX3_sacksInStage 6 = .ok (.getfield 97, 3) := by decide +kernel
theorem dX3_sacksInStage_9 : decode cX3_sacksInStage 9 = .ok (.if_icmp .ge 25, 3) := by decide +kernel
theorem dX3_sacksInStage_12 : decode cX3_sacksInStage 12 = .ok (.aload_n 0, 1) := by decide +kernel
theorem dX3_sacksInStage_13 : decode cX3_sacksInStage 13 = .ok (.getfield 43, 3) := by decide +kernel
theorem dX3_sacksInStage_16 : decode cX3_sacksInStage 16 = .ok (.iload_n 3, 1) := by decide +kernel
theorem dX3_sacksInStage_17 : decode cX3_sacksInStage 17 = .ok (.aaload, 1) := by decide +kernel
theorem dX3_sacksInStage_18 : decode cX3_sacksInStage 18 = .ok (.getfield 152, 3) := by decide +kernel
theorem dX3_sacksInStage_21 : decode cX3_sacksInStage 21 = .ok (.iload_n 1, 1) := by decide +kernel
theorem dX3_sacksInStage_22 : decode cX3_sacksInStage 22 = .ok (.if_icmp .ne 6, 3) := by decide +kernel
theorem dX3_sacksInStage_25 : decode cX3_sacksInStage 25 = .ok (.iinc 2 1, 3) := by decide +kernel
theorem dX3_sacksInStage_28 : decode cX3_sacksInStage 28 = .ok (.iinc 3 1, 3) := by decide +kernel
theorem dX3_sacksInStage_31 : decode cX3_sacksInStage 31 = .ok (.goto (-27), 3) := by decide +kernel
theorem dX3_sacksInStage_34 : decode cX3_sacksInStage 34 = .ok (.iload_n 2, 1) := by decide +kernel
theorem dX3_sacksInStage_35 : decode cX3_sacksInStage 35 = .ok (.ireturn, 1) := by decide +kernel
theorem dX3_placeInQueue_0 : decode cX3_placeInQueue 0 = .ok (.aload_n 0, 1) := by decide +kernel
theorem dX3_placeInQueue_1 : decode cX3_placeInQueue 1 = .ok (.getfield 43, 3) := by decide +kernel
theorem dX3_placeInQueue_4 : decode cX3_placeInQueue 4 = .ok (.iload_n 1, 1) := by decide +kernel
theorem dX3_placeInQueue_5 : decode cX3_placeInQueue 5 = .ok (.aaload, 1) := by decide +kernel
theorem dX3_placeInQueue_6 : decode cX3_placeInQueue 6 = .ok (.getfield 152, 3) := by decide +kernel
theorem dX3_placeInQueue_9 : decode cX3_placeInQueue 9 = .ok (.ifCond .eq 6, 3) := by decide +kernel
theorem dX3_placeInQueue_12 : decode cX3_placeInQueue 12 = .ok (.ldc 189, 2) := by decide +kernel
theorem dX3_placeInQueue_14 : decode cX3_placeInQueue 14 = .ok (.ireturn, 1) := by decide +kernel
theorem dX3_placeInQueue_15 : decode cX3_placeInQueue 15 = .ok (.iconst 0, 1) := by decide +kernel
theorem dX3_placeInQueue_16 : decode cX3_placeInQueue 16 = .ok (.istore_n 2, 1) := by decide +kernel
theorem dX3_placeInQueue_17 : decode cX3_placeInQueue 17 = .ok (.iconst 0, 1) := by decide +kernel
theorem dX3_placeInQueue_18 : decode cX3_placeInQueue 18 = .ok (.istore_n 3, 1) := by decide +kernel
theorem dX3_placeInQueue_19 : decode cX3_placeInQueue 19 = .ok (.iload_n 3, 1) := by decide +kernel
theorem dX3_placeInQueue_20 : decode cX3_placeInQueue 20 = .ok (.aload_n 0, 1) := by decide +kernel
theorem dX3_placeInQueue_21 : decode cX3_placeInQueue 21 = .ok (.getfield 97, 3) := by decide +kernel
theorem dX3_placeInQueue_24 : decode cX3_placeInQueue 24 = .ok (.if_icmp .ge 33, 3) := by decide +kernel
theorem dX3_placeInQueue_27 : decode cX3_placeInQueue 27 = .ok (.aload_n 0, 1) := by decide +kernel
theorem dX3_placeInQueue_28 : decode cX3_placeInQueue 28 = .ok (.getfield 43, 3) := by decide +kernel
theorem dX3_placeInQueue_31 : decode cX3_placeInQueue 31 = .ok (.iload_n 3, 1) := by decide +kernel
theorem dX3_placeInQueue_32 : decode cX3_placeInQueue 32 = .ok (.aaload, 1) := by decide +kernel
theorem dX3_placeInQueue_33 : decode cX3_placeInQueue 33 = .ok (.getfield 152, 3) := by decide +kernel
theorem dX3_placeInQueue_36 : decode cX3_placeInQueue 36 = .ok (.ifCond .ne 15, 3) := by decide +kernel
theorem dX3_placeInQueue_39 : decode cX3_placeInQueue 39 = .ok (.aload_n 0, 1) := by decide +kernel
theorem dX3_placeInQueue_40 : decode cX3_placeInQueue 40 = .ok (.iload_n 3, 1) := by decide +kernel
theorem dX3_placeInQueue_41 : decode cX3_placeInQueue 41 = .ok (.iload_n 1, 1) := by decide +kernel
theorem dX3_placeInQueue_42 : decode cX3_placeInQueue 42 = .ok (.invokevirtual 190, 3) := by decide +kernel
theorem dX3_placeInQueue_45 : decode cX3_placeInQueue 45 = .ok (.ifCond .eq 6, 3) := by decide +kernel
theorem dX3_placeInQueue_48 : decode cX3_placeInQueue 48 = .ok (.iinc 2 1, 3) := by decide +kernel
theorem dX3_placeInQueue_51 : decode cX3_placeInQueue 51 = .ok (.iinc 3 1, 3) := by decide +kernel
theorem dX3_placeInQueue_54 : decode cX3_placeInQueue 54 = .ok (.goto (-35), 3) := by decide +kernel
theorem dX3_placeInQueue_57 : decode cX3_placeInQueue 57 = .ok (.iload_n 2, 1) := by decide +kernel
theorem dX3_placeInQueue_58 : decode cX3_placeInQueue 58 = .ok (.ireturn, 1) := by decide +kernel
theorem dX3_sackAtPlace_0 : decode cX3_sackAtPlace 0 = .ok (.iconst 0, 1) := by decide +kernel
theorem dX3_sackAtPlace_1 : decode cX3_sackAtPlace 1 = .ok (.istore_n 2, 1) := by decide +kernel
theorem dX3_sackAtPlace_2 : decode cX3_sackAtPlace 2 = .ok (.iload_n 2, 1) := by decide +kernel
theorem dX3_sackAtPlace_3 : decode cX3_sackAtPlace 3 = .ok (.aload_n 0, 1) := by decide +kernel
theorem dX3_sackAtPlace_4 : decode cX3_sackAtPlace 4 = .ok (.getfield 97, 3) := by decide +kernel
theorem dX3_sackAtPlace_7 : decode cX3_sackAtPlace 7 = .ok (.if_icmp .ge 20, 3) := by decide +kernel
theorem dX3_sackAtPlace_10 : decode cX3_sackAtPlace 10 = .ok (.aload_n 0, 1) := by decide +kernel
theorem dX3_sackAtPlace_11 : decode cX3_sackAtPlace 11 = .ok (.iload_n 2, 1) := by decide +kernel
theorem dX3_sackAtPlace_12 : decode cX3_sackAtPlace 12 = .ok (.invokevirtual 193, 3) := by decide +kernel
theorem dX3_sackAtPlace_15 : decode cX3_sackAtPlace 15 = .ok (.iload_n 1, 1) := by decide +kernel
theorem dX3_sackAtPlace_16 : decode cX3_sackAtPlace 16 = .ok (.if_icmp .ne 5, 3) := by decide +kernel
theorem dX3_sackAtPlace_19 : decode cX3_sackAtPlace 19 = .ok (.iload_n 2, 1) := by decide +kernel
theorem dX3_sackAtPlace_20 : decode cX3_sackAtPlace 20 = .ok (.ireturn, 1) := by decide +kernel
theorem dX3_sackAtPlace_21 : decode cX3_sackAtPlace 21 = .ok (.iinc 2 1, 3) := by decide +kernel
theorem dX3_sackAtPlace_24 : decode cX3_sackAtPlace 24 = .ok (.goto (-22), 3) := by decide +kernel
theorem dX3_sackAtPlace_27 : decode cX3_sackAtPlace 27 = .ok (.ldc 189, 2) := by decide +kernel
theorem dX3_sackAtPlace_29 : decode cX3_sackAtPlace 29 = .ok (.ireturn, 1) := by decide +kernel
theorem dX3_firstOfQueue_0 : decode cX3_firstOfQueue 0 = .ok (.iconst (-1), 1) := by decide +kernel
theorem dX3_firstOfQueue_1 : decode cX3_firstOfQueue 1 = .ok (.istore_n 1, 1) := by decide +kernel
theorem dX3_firstOfQueue_2 : decode cX3_firstOfQueue 2 = .ok (.iconst 0, 1) := by decide +kernel
theorem dX3_firstOfQueue_3 : decode cX3_firstOfQueue 3 = .ok (.istore_n 2, 1) := by decide +kernel
theorem dX3_firstOfQueue_4 : decode cX3_firstOfQueue 4 = .ok (.iconst 0, 1) := by decide +kernel
theorem dX3_firstOfQueue_5 : decode cX3_firstOfQueue 5 = .ok (.istore_n 3, 1) := by decide +kernel
theorem dX3_firstOfQueue_6 : decode cX3_firstOfQueue 6 = .ok (.iload_n 3, 1) := by decide +kernel
theorem dX3_firstOfQueue_7 : decode cX3_firstOfQueue 7 = .ok (.aload_n 0, 1) := by decide +kernel
theorem dX3_firstOfQueue_8 : decode cX3_firstOfQueue 8 = .ok (.getfield 97, 3) := by decide +kernel
theorem dX3_firstOfQueue_11 : decode cX3_firstOfQueue 11 = .ok (.if_icmp .ge 49, 3) := by decide +kernel
theorem dX3_firstOfQueue_14 : decode cX3_firstOfQueue 14 = .ok (.aload_n 0, 1) := by decide +kernel
theorem dX3_firstOfQueue_15 : decode cX3_firstOfQueue 15 = .ok (.getfield 43, 3) := by decide +kernel
theorem dX3_firstOfQueue_18 : decode cX3_firstOfQueue 18 = .ok (.iload_n 3, 1) := by decide +kernel
theorem dX3_firstOfQueue_19 : decode cX3_firstOfQueue 19 = .ok (.aaload, 1) := by decide +kernel
theorem dX3_firstOfQueue_20 : decode cX3_firstOfQueue 20 = .ok (.getfield 152, 3) := by decide +kernel
theorem dX3_firstOfQueue_23 : decode cX3_firstOfQueue 23 = .ok (.ifCond .ne 31, 3) := by decide +kernel
theorem dX3_firstOfQueue_26 : decode cX3_firstOfQueue 26 = .ok (.aload_n 0, 1) := by decide +kernel
theorem dX3_firstOfQueue_27 : decode cX3_firstOfQueue 27 = .ok (.aload_n 0, 1) := by decide +kernel
theorem dX3_firstOfQueue_28 : decode cX3_firstOfQueue 28 = .ok (.getfield 43, 3) := by decide +kernel
theorem dX3_firstOfQueue_31 : decode cX3_firstOfQueue 31 = .ok (.iload_n 3, 1) := by decide +kernel
theorem dX3_firstOfQueue_32 : decode cX3_firstOfQueue 32 = .ok (.aaload, 1) := by decide +kernel
theorem dX3_firstOfQueue_33 : decode cX3_firstOfQueue 33 = .ok (.invokevirtual 196, 3) := by decide +kernel
theorem dX3_firstOfQueue_36 : decode cX3_firstOfQueue 36 = .ok (.istore 4, 2) := by decide +kernel
theorem dX3_firstOfQueue_38 : decode cX3_firstOfQueue 38 = .ok (.iload_n 1, 1) := by decide +kernel
theorem dX3_firstOfQueue_39 : decode cX3_firstOfQueue 39 = .ok (.iconst (-1), 1) := by decide +kernel
theorem dX3_firstOfQueue_40 : decode cX3_firstOfQueue 40 = .ok (.if_icmp .eq 9, 3) := by decide +kernel
theorem dX3_firstOfQueue_43 : decode cX3_firstOfQueue 43 = .ok (.iload 4, 2) := by decide +kernel
theorem dX3_firstOfQueue_45 : decode cX3_firstOfQueue 45 = .ok (.iload_n 2, 1) := by decide +kernel
theorem dX3_firstOfQueue_46 : decode cX3_firstOfQueue 46 = .ok (.if_icmp .ge 8, 3) := by decide +kernel
theorem dX3_firstOfQueue_49 : decode cX3_firstOfQueue 49 = .ok (.iload_n 3, 1) := by decide +kernel
theorem dX3_firstOfQueue_50 : decode cX3_firstOfQueue 50 = .ok (.istore_n 1, 1) := by decide +kernel
theorem dX3_firstOfQueue_51 : decode cX3_firstOfQueue 51 = .ok (.iload 4, 2) := by decide +kernel
theorem dX3_firstOfQueue_53 : decode cX3_firstOfQueue 53 = .ok (.istore_n 2, 1) := by decide +kernel
theorem dX3_firstOfQueue_54 : decode cX3_firstOfQueue 54 = .ok (.iinc 3 1, 3) := by decide +kernel
theorem dX3_firstOfQueue_57 : decode cX3_firstOfQueue 57 = .ok (.goto (-51), 3) := by decide +kernel
theorem dX3_firstOfQueue_60 : decode cX3_firstOfQueue 60 = .ok (.iload_n 1, 1) := by decide +kernel
theorem dX3_firstOfQueue_61 : decode cX3_firstOfQueue 61 = .ok (.ireturn, 1) := by decide +kernel
theorem dX3_waitsAheadOf_0 : decode cX3_waitsAheadOf 0 = .ok (.aload_n 0, 1) := by decide +kernel
theorem dX3_waitsAheadOf_1 : decode cX3_waitsAheadOf 1 = .ok (.aload_n 0, 1) := by decide +kernel
theorem dX3_waitsAheadOf_2 : decode cX3_waitsAheadOf 2 = .ok (.getfield 43, 3) := by decide +kernel
theorem dX3_waitsAheadOf_5 : decode cX3_waitsAheadOf 5 = .ok (.iload_n 1, 1) := by decide +kernel
theorem dX3_waitsAheadOf_6 : decode cX3_waitsAheadOf 6 = .ok (.aaload, 1) := by decide +kernel
theorem dX3_waitsAheadOf_7 : decode cX3_waitsAheadOf 7 = .ok (.invokevirtual 196, 3) := by decide +kernel
theorem dX3_waitsAheadOf_10 : decode cX3_waitsAheadOf 10 = .ok (.istore_n 3, 1) := by decide +kernel
theorem dX3_waitsAheadOf_11 : decode cX3_waitsAheadOf 11 = .ok (.aload_n 0, 1) := by decide +kernel
theorem dX3_waitsAheadOf_12 : decode cX3_waitsAheadOf 12 = .ok (.aload_n 0, 1) := by decide +kernel
theorem dX3_waitsAheadOf_13 : decode cX3_waitsAheadOf 13 = .ok (.getfield 43, 3) := by decide +kernel
theorem dX3_waitsAheadOf_16 : decode cX3_waitsAheadOf 16 = .ok (.iload_n 2, 1) := by decide +kernel
theorem dX3_waitsAheadOf_17 : decode cX3_waitsAheadOf 17 = .ok (.aaload, 1) := by decide +kernel
theorem dX3_waitsAheadOf_18 : decode cX3_waitsAheadOf 18 = .ok (.invokevirtual 196, 3) := by decide +kernel
theorem dX3_waitsAheadOf_21 : decode cX3_waitsAheadOf 21 = .ok (.istore 4, 2) := by decide +kernel
theorem dX3_waitsAheadOf_23 : decode cX3_waitsAheadOf 23 = .ok (.iload_n 3, 1) := by decide +kernel
theorem dX3_waitsAheadOf_24 : decode cX3_waitsAheadOf 24 = .ok (.iload 4, 2) := by decide +kernel
theorem dX3_waitsAheadOf_26 : decode cX3_waitsAheadOf 26 = .ok (.if_icmp .lt 14, 3) := by decide +kernel
theorem dX3_waitsAheadOf_29 : decode cX3_waitsAheadOf 29 = .ok (.iload_n 3, 1) := by decide +kernel
theorem dX3_waitsAheadOf_30 : decode cX3_waitsAheadOf 30 = .ok (.iload 4, 2) := by decide +kernel
theorem dX3_waitsAheadOf_32 : decode cX3_waitsAheadOf 32 = .ok (.if_icmp .ne 12, 3) := by decide +kernel
theorem dX3_waitsAheadOf_35 : decode cX3_waitsAheadOf 35 = .ok (.iload_n 1, 1) := by decide +kernel
theorem dX3_waitsAheadOf_36 : decode cX3_waitsAheadOf 36 = .ok (.iload_n 2, 1) := by decide +kernel
theorem dX3_waitsAheadOf_37 : decode cX3_waitsAheadOf 37 = .ok (.if_icmp .ge 7, 3) := by decide +kernel
theorem dX3_waitsAheadOf_40 : decode cX3_waitsAheadOf 40 = .ok (.iconst 1, 1) := by decide +kernel
theorem dX3_waitsAheadOf_41 : decode cX3_waitsAheadOf 41 = .ok (.goto 4, 3) := by decide +kernel
theorem dX3_waitsAheadOf_44 : decode cX3_waitsAheadOf 44 = .ok (.iconst 0, 1) := by decide +kernel
theorem dX3_waitsAheadOf_45 : decode cX3_waitsAheadOf 45 = .ok (.ireturn, 1) := by decide +kernel
theorem dX3_rankInQueue_0 : decode cX3_rankInQueue 0 = .ok (.aload_n 0, 1) := by decide +kernel
theorem dX3_rankInQueue_1 : decode cX3_rankInQueue 1 = .ok (.getfield 18, 3) := by decide +kernel
theorem dX3_rankInQueue_4 : decode cX3_rankInQueue 4 = .ok (.bipush 12, 2) := by decide +kernel
theorem dX3_rankInQueue_6 : decode cX3_rankInQueue 6 = .ok (.iaload, 1) := by decide +kernel
theorem dX3_rankInQueue_7 : decode cX3_rankInQueue 7 = .ok (.tableswitch 78 1 3 #[25, 30, 58], 25) := by decide +kernel
theorem dX3_rankInQueue_32 : decode cX3_rankInQueue 32 = .ok (.aload_n 1, 1) := by decide +kernel
theorem dX3_rankInQueue_33 : decode cX3_rankInQueue 33 = .ok (.getfield 200, 3) := by decide +kernel
theorem dX3_rankInQueue_36 : decode cX3_rankInQueue 36 = .ok (.ireturn, 1) := by decide +kernel
theorem dX3_rankInQueue_37 : decode cX3_rankInQueue 37 = .ok (.aload_n 0, 1) := by decide +kernel
theorem dX3_rankInQueue_38 : decode cX3_rankInQueue 38 = .ok (.aload_n 1, 1) := by decide +kernel
theorem dX3_rankInQueue_39 : decode cX3_rankInQueue 39 = .ok (.getfield 203, 3) := by decide +kernel
theorem dX3_rankInQueue_42 : decode cX3_rankInQueue 42 = .ok (.invokevirtual 138, 3) := by decide +kernel
theorem dX3_rankInQueue_45 : decode cX3_rankInQueue 45 = .ok (.ifCond .eq 18, 3) := by decide +kernel
theorem dX3_rankInQueue_48 : decode cX3_rankInQueue 48 = .ok (.aload_n 0, 1) := by decide +kernel
theorem dX3_rankInQueue_49 : decode cX3_rankInQueue 49 = .ok (.getfield 37, 3) := by decide +kernel
theorem dX3_rankInQueue_52 : decode cX3_rankInQueue 52 = .ok (.aload_n 1, 1) := by decide +kernel
theorem dX3_rankInQueue_53 : decode cX3_rankInQueue 53 = .ok (.getfield 203, 3) := by decide +kernel
theorem dX3_rankInQueue_56 : decode cX3_rankInQueue 56 = .ok (.aaload, 1) := by decide +kernel
theorem dX3_rankInQueue_57 : decode cX3_rankInQueue 57 = .ok (.getfield 135, 3) := by decide +kernel
theorem dX3_rankInQueue_60 : decode cX3_rankInQueue 60 = .ok (.goto 4, 3) := by decide +kernel
theorem dX3_rankInQueue_63 : decode cX3_rankInQueue 63 = .ok (.iconst 0, 1) := by decide +kernel
theorem dX3_rankInQueue_64 : decode cX3_rankInQueue 64 = .ok (.ireturn, 1) := by decide +kernel
theorem dX3_rankInQueue_65 : decode cX3_rankInQueue 65 = .ok (.aload_n 1, 1) := by decide +kernel
theorem dX3_rankInQueue_66 : decode cX3_rankInQueue 66 = .ok (.getfield 206, 3) := by decide +kernel
theorem dX3_rankInQueue_69 : decode cX3_rankInQueue 69 = .ok (.aload_n 0, 1) := by decide +kernel
theorem dX3_rankInQueue_70 : decode cX3_rankInQueue 70 = .ok (.getfield 51, 3) := by decide +kernel
theorem dX3_rankInQueue_73 : decode cX3_rankInQueue 73 = .ok (.if_icmp .ne 7, 3) := by decide +kernel
theorem dX3_rankInQueue_76 : decode cX3_rankInQueue 76 = .ok (.iconst 0, 1) := by decide +kernel
theorem dX3_rankInQueue_77 : decode cX3_rankInQueue 77 = .ok (.goto 7, 3) := by decide +kernel
theorem dX3_rankInQueue_80 : decode cX3_rankInQueue 80 = .ok (.aload_n 1, 1) := by decide +kernel
theorem dX3_rankInQueue_81 : decode cX3_rankInQueue 81 = .ok (.getfield 209, 3) := by decide +kernel
theorem dX3_rankInQueue_84 : decode cX3_rankInQueue 84 = .ok (.ireturn, 1) := by decide +kernel
theorem dX3_rankInQueue_85 : decode cX3_rankInQueue 85 = .ok (.iconst 0, 1) := by decide +kernel
theorem dX3_rankInQueue_86 : decode cX3_rankInQueue 86 = .ok (.ireturn, 1) := by decide +kernel
theorem dX3_putInPledge_0 : decode cX3_putInPledge 0 = .ok (.aload_n 0, 1) := by decide +kernel
theorem dX3_putInPledge_1 : decode cX3_putInPledge 1 = .ok (.iload_n 1, 1) := by decide +kernel
theorem dX3_putInPledge_2 : decode cX3_putInPledge 2 = .ok (.invokevirtual 149, 3) := by decide +kernel
theorem dX3_putInPledge_5 : decode cX3_putInPledge 5 = .ok (.ifCond .eq 14, 3) := by decide +kernel
theorem dX3_putInPledge_8 : decode cX3_putInPledge 8 = .ok (.iload_n 2, 1) := by decide +kernel
theorem dX3_putInPledge_9 : decode cX3_putInPledge 9 = .ok (.iconst 1, 1) := by decide +kernel
theorem dX3_putInPledge_10 : decode cX3_putInPledge 10 = .ok (.sipush 200, 3) := by decide +kernel
theorem dX3_putInPledge_13 : decode cX3_putInPledge 13 = .ok (.invokestatic 110, 3) := by decide +kernel
theorem dX3_putInPledge_16 : decode cX3_putInPledge 16 = .ok (.ifCond .ne 6, 3) := by decide +kernel
theorem dX3_putInPledge_19 : decode cX3_putInPledge 19 = .ok (.ldc 120, 2) := by decide +kernel
theorem dX3_putInPledge_21 : decode cX3_putInPledge 21 = .ok (.ireturn, 1) := by decide +kernel
theorem dX3_putInPledge_22 : decode cX3_putInPledge 22 = .ok (.aload_n 0, 1) := by decide +kernel
theorem dX3_putInPledge_23 : decode cX3_putInPledge 23 = .ok (.getfield 43, 3) := by decide +kernel
theorem dX3_putInPledge_26 : decode cX3_putInPledge 26 = .ok (.iload_n 1, 1) := by decide +kernel
theorem dX3_putInPledge_27 : decode cX3_putInPledge 27 = .ok (.aaload, 1) := by decide +kernel
theorem dX3_putInPledge_28 : decode cX3_putInPledge 28 = .ok (.astore_n 3, 1) := by decide +kernel
theorem dX3_putInPledge_29 : decode cX3_putInPledge 29 = .ok (.aload_n 3, 1) := by decide +kernel
theorem dX3_putInPledge_30 : decode cX3_putInPledge 30 = .ok (.getfield 152, 3) := by decide +kernel
theorem dX3_putInPledge_33 : decode cX3_putInPledge 33 = .ok (.iconst 2, 1) := by decide +kernel
theorem dX3_putInPledge_34 : decode cX3_putInPledge 34 = .ok (.if_icmp .ne 29, 3) := by decide +kernel
theorem dX3_putInPledge_37 : decode cX3_putInPledge 37 = .ok (.aload_n 3, 1) := by decide +kernel
theorem dX3_putInPledge_38 : decode cX3_putInPledge 38 = .ok (.invokevirtual 163, 3) := by decide +kernel
theorem dX3_putInPledge_41 : decode cX3_putInPledge 41 = .ok (.ifCond .ne 22, 3) := by decide +kernel
theorem dX3_putInPledge_44 : decode cX3_putInPledge 44 = .ok (.aload_n 3, 1) := by decide +kernel
theorem dX3_putInPledge_45 : decode cX3_putInPledge 45 = .ok (.invokevirtual 167, 3) := by decide +kernel
theorem dX3_putInPledge_48 : decode cX3_putInPledge 48 = .ok (.iload_n 2, 1) := by decide +kernel
theorem dX3_putInPledge_49 : decode cX3_putInPledge 49 = .ok (.if_icmp .lt 14, 3) := by decide +kernel
theorem dX3_putInPledge_52 : decode cX3_putInPledge 52 = .ok (.aload_n 0, 1) := by decide +kernel
theorem dX3_putInPledge_53 : decode cX3_putInPledge 53 = .ok (.aload_n 3, 1) := by decide +kernel
theorem dX3_putInPledge_54 : decode cX3_putInPledge 54 = .ok (.getfield 203, 3) := by decide +kernel
theorem dX3_putInPledge_57 : decode cX3_putInPledge 57 = .ok (.invokevirtual 138, 3) := by decide +kernel
theorem dX3_putInPledge_60 : decode cX3_putInPledge 60 = .ok (.ifCond .ne 6, 3) := by decide +kernel
theorem dX3_putInPledge_63 : decode cX3_putInPledge 63 = .ok (.ldc 155, 2) := by decide +kernel
theorem dX3_putInPledge_65 : decode cX3_putInPledge 65 = .ok (.ireturn, 1) := by decide +kernel
theorem dX3_putInPledge_66 : decode cX3_putInPledge 66 = .ok (.aload_n 0, 1) := by decide +kernel
theorem dX3_putInPledge_67 : decode cX3_putInPledge 67 = .ok (.getfield 37, 3) := by decide +kernel
theorem dX3_putInPledge_70 : decode cX3_putInPledge 70 = .ok (.aload_n 3, 1) := by decide +kernel
theorem dX3_putInPledge_71 : decode cX3_putInPledge 71 = .ok (.getfield 203, 3) := by decide +kernel
theorem dX3_putInPledge_74 : decode cX3_putInPledge 74 = .ok (.aaload, 1) := by decide +kernel
theorem dX3_putInPledge_75 : decode cX3_putInPledge 75 = .ok (.astore 4, 2) := by decide +kernel
theorem dX3_putInPledge_77 : decode cX3_putInPledge 77 = .ok (.aload_n 0, 1) := by decide +kernel
theorem dX3_putInPledge_78 : decode cX3_putInPledge 78 = .ok (.aload_n 3, 1) := by decide +kernel
theorem dX3_putInPledge_79 : decode cX3_putInPledge 79 = .ok (.iload_n 2, 1) := by decide +kernel
theorem dX3_putInPledge_80 : decode cX3_putInPledge 80 = .ok (.invokevirtual 213, 3) := by decide +kernel
theorem dX3_putInPledge_83 : decode cX3_putInPledge 83 = .ok (.istore 5, 2) := by decide +kernel
theorem dX3_putInPledge_85 : decode cX3_putInPledge 85 = .ok (.iload 5, 2) := by decide +kernel
theorem dX3_putInPledge_87 : decode cX3_putInPledge 87 = .ok (.iconst (-1), 1) := by decide +kernel
theorem dX3_putInPledge_88 : decode cX3_putInPledge 88 = .ok (.if_icmp .eq 20, 3) := by decide +kernel
theorem dX3_putInPledge_91 : decode cX3_putInPledge 91 = .ok (.aload 4, 2) := by decide +kernel
theorem dX3_putInPledge_93 : decode cX3_putInPledge 93 = .ok (.getfield 132, 3) := by decide +kernel
theorem dX3_putInPledge_96 : decode cX3_putInPledge 96 = .ok (.i2l, 1) := by decide +kernel
theorem dX3_putInPledge_97 : decode cX3_putInPledge 97 = .ok (.iload 5, 2) := by decide +kernel
theorem dX3_putInPledge_99 : decode cX3_putInPledge 99 = .ok (.i2l, 1) := by decide +kernel
theorem dX3_putInPledge_100 : decode cX3_putInPledge 100 = .ok (.ladd, 1) := by decide +kernel
theorem dX3_putInPledge_101 : decode cX3_putInPledge 101 = .ok (.ldc2_w 211, 3) := by decide +kernel
theorem dX3_putInPledge_104 : decode cX3_putInPledge 104 = .ok (.lcmp, 1) := by decide +kernel
theorem dX3_putInPledge_105 : decode cX3_putInPledge 105 = .ok (.ifCond .le 6, 3) := by decide +kernel
theorem dX3_putInPledge_108 : decode cX3_putInPledge 108 = .ok (.ldc 155, 2) := by decide +kernel
theorem dX3_putInPledge_110 : decode cX3_putInPledge 110 = .ok (.ireturn, 1) := by decide +kernel
theorem dX3_putInPledge_111 : decode cX3_putInPledge 111 = .ok (.aload 4, 2) := by decide +kernel
theorem dX3_putInPledge_113 : decode cX3_putInPledge 113 = .ok (.dup, 1) := by decide +kernel
theorem dX3_putInPledge_114 : decode cX3_putInPledge 114 = .ok (.getfield 132, 3) := by decide +kernel
theorem dX3_putInPledge_117 : decode cX3_putInPledge 117 = .ok (.iload 5, 2) := by decide +kernel
theorem dX3_putInPledge_119 : decode cX3_putInPledge 119 = .ok (.iadd, 1) := by decide +kernel
theorem dX3_putInPledge_120 : decode cX3_putInPledge 120 = .ok (.putfield 132, 3) := by decide +kernel
theorem dX3_putInPledge_123 : decode cX3_putInPledge 123 = .ok (.aload_n 3, 1) := by decide +kernel
theorem dX3_putInPledge_124 : decode cX3_putInPledge 124 = .ok (.iload_n 2, 1) := by decide +kernel
theorem dX3_putInPledge_125 : decode cX3_putInPledge 125 = .ok (.putfield 217, 3) := by decide +kernel
theorem dX3_putInPledge_128 : decode cX3_putInPledge 128 = .ok (.aload_n 3, 1) := by decide +kernel
theorem dX3_putInPledge_129 : decode cX3_putInPledge 129 = .ok (.iload 5, 2) := by decide +kernel
theorem dX3_putInPledge_131 : decode cX3_putInPledge 131 = .ok (.putfield 220, 3) := by decide +kernel
theorem dX3_putInPledge_134 : decode cX3_putInPledge 134 = .ok (.aload_n 3, 1) := by decide +kernel
theorem dX3_putInPledge_135 : decode cX3_putInPledge 135 = .ok (.aload_n 0, 1) := by decide +kernel
theorem dX3_putInPledge_136 : decode cX3_putInPledge 136 = .ok (.invokevirtual 223, 3) := by decide +kernel
theorem dX3_putInPledge_139 : decode cX3_putInPledge 139 = .ok (.putfield 226, 3) := by decide +kernel
theorem dX3_putInPledge_142 : decode cX3_putInPledge 142 = .ok (.aload_n 3, 1) := by decide +kernel
theorem dX3_putInPledge_143 : decode cX3_putInPledge 143 = .ok (.aload_n 0, 1) := by decide +kernel
theorem dX3_putInPledge_144 : decode cX3_putInPledge 144 = .ok (.invokevirtual 223, 3) := by decide +kernel
theorem dX3_putInPledge_147 : decode cX3_putInPledge 147 = .ok (.aload_n 0, 1) := by decide +kernel
theorem dX3_putInPledge_148 : decode cX3_putInPledge 148 = .ok (.getfield 18, 3) := by decide +kernel
theorem dX3_putInPledge_151 : decode cX3_putInPledge 151 = .ok (.bipush 10, 2) := by decide +kernel
theorem dX3_putInPledge_153 : decode cX3_putInPledge 153 = .ok (.iaload, 1) := by decide +kernel
theorem dX3_putInPledge_154 : decode cX3_putInPledge 154 = .ok (.iadd, 1) := by decide +kernel
theorem dX3_putInPledge_155 : decode cX3_putInPledge 155 = .ok (.putfield 229, 3) := by decide +kernel
theorem dX3_putInPledge_158 : decode cX3_putInPledge 158 = .ok (.iload 5, 2) := by decide +kernel
theorem dX3_putInPledge_160 : decode cX3_putInPledge 160 = .ok (.ireturn, 1) := by decide +kernel
theorem dX3_loanFor_0 : decode cX3_loanFor 0 = .ok (.iload_n 2, 1) := by decide +kernel
theorem dX3_loanFor_1 : decode cX3_loanFor 1 = .ok (.i2l, 1) := by decide +kernel
theorem dX3_loanFor_2 : decode cX3_loanFor 2 = .ok (.aload_n 1, 1) := by decide +kernel
theorem dX3_loanFor_3 : decode cX3_loanFor 3 = .ok (.getfield 232, 3) := by decide +kernel
theorem dX3_loanFor_6 : decode cX3_loanFor 6 = .ok (.i2l, 1) := by decide +kernel
theorem dX3_loanFor_7 : decode cX3_loanFor 7 = .ok (.lmul, 1) := by decide +kernel
theorem dX3_loanFor_8 : decode cX3_loanFor 8 = .ok (.lstore_n 3, 1) := by decide +kernel
theorem dX3_loanFor_9 : decode cX3_loanFor 9 = .ok (.lload_n 3, 1) := by decide +kernel
theorem dX3_loanFor_10 : decode cX3_loanFor 10 = .ok (.aload_n 0, 1) := by decide +kernel
theorem dX3_loanFor_11 : decode cX3_loanFor 11 = .ok (.getfield 18, 3) := by decide +kernel
theorem dX3_loanFor_14 : decode cX3_loanFor 14 = .ok (.bipush 11, 2) := by decide +kernel
theorem dX3_loanFor_16 : decode cX3_loanFor 16 = .ok (.iaload, 1) := by decide +kernel
theorem dX3_loanFor_17 : decode cX3_loanFor 17 = .ok (.i2l, 1) := by decide +kernel
theorem dX3_loanFor_18 : decode cX3_loanFor 18 = .ok (.lmul, 1) := by decide +kernel
theorem dX3_loanFor_19 : decode cX3_loanFor 19 = .ok (.lstore 5, 2) := by decide +kernel
theorem dX3_loanFor_21 : decode cX3_loanFor 21 = .ok (.lload_n 3, 1) := by decide +kernel
theorem dX3_loanFor_22 : decode cX3_loanFor 22 = .ok (.ldc2_w 211, 3) := by decide +kernel
theorem dX3_loanFor_25 : decode cX3_loanFor 25 = .ok (.lcmp, 1) := by decide +kernel
theorem dX3_loanFor_26 : decode cX3_loanFor 26 = .ok (.ifCond .gt 12, 3) := by decide +kernel
theorem dX3_loanFor_29 : decode cX3_loanFor 29 = .ok (.lload 5, 2) := by decide +kernel
theorem dX3_loanFor_31 : decode cX3_loanFor 31 = .ok (.ldc2_w 211, 3) := by decide +kernel
theorem dX3_loanFor_34 : decode cX3_loanFor 34 = .ok (.lcmp, 1) := by decide +kernel
theorem dX3_loanFor_35 : decode cX3_loanFor 35 = .ok (.ifCond .le 5, 3) := by decide +kernel
theorem dX3_loanFor_38 : decode cX3_loanFor 38 = .ok (.iconst (-1), 1) := by decide +kernel
theorem dX3_loanFor_39 : decode cX3_loanFor 39 = .ok (.ireturn, 1) := by decide +kernel
theorem dX3_loanFor_40 : decode cX3_loanFor 40 = .ok (.lload 5, 2) := by decide +kernel
theorem dX3_loanFor_42 : decode cX3_loanFor 42 = .ok (.ldc2_w 233, 3) := by decide +kernel
theorem dX3_loanFor_45 : decode cX3_loanFor 45 = .ok (.ldiv, 1) := by decide +kernel
theorem dX3_loanFor_46 : decode cX3_loanFor 46 = .ok (.l2i, 1) := by decide +kernel
theorem dX3_loanFor_47 : decode cX3_loanFor 47 = .ok (.ireturn, 1) := by decide +kernel
theorem dX3_debtOf_0 : decode cX3_debtOf 0 = .ok (.aload_n 1, 1) := by decide +kernel
theorem dX3_debtOf_1 : decode cX3_debtOf 1 = .ok (.getfield 220, 3) := by decide +kernel
theorem dX3_debtOf_4 : decode cX3_debtOf 4 = .ok (.i2l, 1) := by decide +kernel
theorem dX3_debtOf_5 : decode cX3_debtOf 5 = .ok (.aload_n 0, 1) := by decide +kernel
theorem dX3_debtOf_6 : decode cX3_debtOf 6 = .ok (.getfield 18, 3) := by decide +kernel
theorem dX3_debtOf_9 : decode cX3_debtOf 9 = .ok (.bipush 9, 2) := by decide +kernel
theorem dX3_debtOf_11 : decode cX3_debtOf 11 = .ok (.iaload, 1) := by decide +kernel
theorem dX3_debtOf_12 : decode cX3_debtOf 12 = .ok (.i2l, 1) := by decide +kernel
theorem dX3_debtOf_13 : decode cX3_debtOf 13 = .ok (.lmul, 1) := by decide +kernel
theorem dX3_debtOf_14 : decode cX3_debtOf 14 = .ok (.lstore_n 2, 1) := by decide +kernel
theorem dX3_debtOf_15 : decode cX3_debtOf 15 = .ok (.lload_n 2, 1) := by decide +kernel
theorem dX3_debtOf_16 : decode cX3_debtOf 16 = .ok (.aload_n 0, 1) := by decide +kernel
theorem dX3_debtOf_17 : decode cX3_debtOf 17 = .ok (.invokevirtual 223, 3) := by decide +kernel
theorem dX3_debtOf_20 : decode cX3_debtOf 20 = .ok (.aload_n 1, 1) := by decide +kernel
theorem dX3_debtOf_21 : decode cX3_debtOf 21 = .ok (.getfield 226, 3) := by decide +kernel
theorem dX3_debtOf_24 : decode cX3_debtOf 24 = .ok (.isub, 1) := by decide +kernel
theorem dX3_debtOf_25 : decode cX3_debtOf 25 = .ok (.i2l, 1) := by decide +kernel
theorem dX3_debtOf_26 : decode cX3_debtOf 26 = .ok (.lmul, 1) := by decide +kernel
theorem dX3_debtOf_27 : decode cX3_debtOf 27 = .ok (.lstore 4, 2) := by decide +kernel
theorem dX3_debtOf_29 : decode cX3_debtOf 29 = .ok (.lload_n 2, 1) := by decide +kernel
theorem dX3_debtOf_30 : decode cX3_debtOf 30 = .ok (.ldc2_w 211, 3) := by decide +kernel
theorem dX3_debtOf_33 : decode cX3_debtOf 33 = .ok (.lcmp, 1) := by decide +kernel
theorem dX3_debtOf_34 : decode cX3_debtOf 34 = .ok (.ifCond .gt 12, 3) := by decide +kernel
theorem dX3_debtOf_37 : decode cX3_debtOf 37 = .ok (.lload 4, 2) := by decide +kernel
theorem dX3_debtOf_39 : decode cX3_debtOf 39 = .ok (.ldc2_w 211, 3) := by decide +kernel
theorem dX3_debtOf_42 : decode cX3_debtOf 42 = .ok (.lcmp, 1) := by decide +kernel
theorem dX3_debtOf_43 : decode cX3_debtOf 43 = .ok (.ifCond .le 6, 3) := by decide +kernel
theorem dX3_debtOf_46 : decode cX3_debtOf 46 = .ok (.ldc 235, 2) := by decide +kernel
theorem dX3_debtOf_48 : decode cX3_debtOf 48 = .ok (.ireturn, 1) := by decide +kernel
theorem dX3_debtOf_49 : decode cX3_debtOf 49 = .ok (.aload_n 1, 1) := by decide +kernel
theorem dX3_debtOf_50 : decode cX3_debtOf 50 = .ok (.getfield 220, 3) := by decide +kernel
theorem dX3_debtOf_53 : decode cX3_debtOf 53 = .ok (.i2l, 1) := by decide +kernel
theorem dX3_debtOf_54 : decode cX3_debtOf 54 = .ok (.lload 4, 2) := by decide +kernel
theorem dX3_debtOf_56 : decode cX3_debtOf 56 = .ok (.ldc2_w 236, 3) := by decide +kernel
theorem dX3_debtOf_59 : decode cX3_debtOf 59 = .ok (.ldiv, 1) := by decide +kernel
theorem dX3_debtOf_60 : decode cX3_debtOf 60 = .ok (.ladd, 1) := by decide +kernel
theorem dX3_debtOf_61 : decode cX3_debtOf 61 = .ok (.lstore 6, 2) := by decide +kernel
theorem dX3_debtOf_63 : decode cX3_debtOf 63 = .ok (.lload 6, 2) := by decide +kernel
theorem dX3_debtOf_65 : decode cX3_debtOf 65 = .ok (.ldc2_w 211, 3) := by decide +kernel
theorem dX3_debtOf_68 : decode cX3_debtOf 68 = .ok (.lcmp, 1) := by decide +kernel
theorem dX3_debtOf_69 : decode cX3_debtOf 69 = .ok (.ifCond .le 8, 3) := by decide +kernel
theorem dX3_debtOf_72 : decode cX3_debtOf 72 = .ok (.ldc 235, 2) := by decide +kernel
theorem dX3_debtOf_74 : decode cX3_debtOf 74 = .ok (.goto 6, 3) := by decide +kernel
theorem dX3_debtOf_77 : decode cX3_debtOf 77 = .ok (.lload 6, 2) := by decide +kernel
theorem dX3_debtOf_79 : decode cX3_debtOf 79 = .ok (.l2i, 1) := by decide +kernel
theorem dX3_debtOf_80 : decode cX3_debtOf 80 = .ok (.ireturn, 1) := by decide +kernel
theorem dX3_redeemPledge_0 : decode cX3_redeemPledge 0 = .ok (.aload_n 0, 1) := by decide +kernel
theorem dX3_redeemPledge_1 : decode cX3_redeemPledge 1 = .ok (.iload_n 1, 1) := by decide +kernel
theorem dX3_redeemPledge_2 : decode cX3_redeemPledge 2 = .ok (.invokevirtual 149, 3) := by decide +kernel
theorem dX3_redeemPledge_5 : decode cX3_redeemPledge 5 = .ok (.ifCond .ne 6, 3) := by decide +kernel
theorem dX3_redeemPledge_8 : decode cX3_redeemPledge 8 = .ok (.ldc 120, 2) := by decide +kernel
theorem dX3_redeemPledge_10 : decode cX3_redeemPledge 10 = .ok (.ireturn, 1) := by decide +kernel
theorem dX3_redeemPledge_11 : decode cX3_redeemPledge 11 = .ok (.aload_n 0, 1) := by decide +kernel
theorem dX3_redeemPledge_12 : decode cX3_redeemPledge 12 = .ok (.getfield 43, 3) := by decide +kernel
theorem dX3_redeemPledge_15 : decode cX3_redeemPledge 15 = .ok (.iload_n 1, 1) := by decide +kernel
theorem dX3_redeemPledge_16 : decode cX3_redeemPledge 16 = .ok (.aaload, 1) := by decide +kernel
theorem dX3_redeemPledge_17 : decode cX3_redeemPledge 17 = .ok (.astore_n 2, 1) := by decide +kernel
theorem dX3_redeemPledge_18 : decode cX3_redeemPledge 18 = .ok (.aload_n 2, 1) := by decide +kernel
theorem dX3_redeemPledge_19 : decode cX3_redeemPledge 19 = .ok (.invokevirtual 163, 3) := by decide +kernel
theorem dX3_redeemPledge_22 : decode cX3_redeemPledge 22 = .ok (.ifCond .eq 14, 3) := by decide +kernel
theorem dX3_redeemPledge_25 : decode cX3_redeemPledge 25 = .ok (.aload_n 0, 1) := by decide +kernel
theorem dX3_redeemPledge_26 : decode cX3_redeemPledge 26 = .ok (.aload_n 2, 1) := by decide +kernel
theorem dX3_redeemPledge_27 : decode cX3_redeemPledge 27 = .ok (.getfield 203, 3) := by decide +kernel
theorem dX3_redeemPledge_30 : decode cX3_redeemPledge 30 = .ok (.invokevirtual 138, 3) := by decide +kernel
theorem dX3_redeemPledge_33 : decode cX3_redeemPledge 33 = .ok (.ifCond .ne 6, 3) := by decide +kernel
theorem dX3_redeemPledge_36 : decode cX3_redeemPledge 36 = .ok (.ldc 155, 2) := by decide +kernel
theorem dX3_redeemPledge_38 : decode cX3_redeemPledge 38 = .ok (.ireturn, 1) := by decide +kernel
theorem dX3_redeemPledge_39 : decode cX3_redeemPledge 39 = .ok (.aload_n 0, 1) := by decide +kernel
theorem dX3_redeemPledge_40 : decode cX3_redeemPledge 40 = .ok (.getfield 37, 3) := by decide +kernel
theorem dX3_redeemPledge_43 : decode cX3_redeemPledge 43 = .ok (.aload_n 2, 1) := by decide +kernel
theorem dX3_redeemPledge_44 : decode cX3_redeemPledge 44 = .ok (.getfield 203, 3) := by decide +kernel
theorem dX3_redeemPledge_47 : decode cX3_redeemPledge 47 = .ok (.aaload, 1) := by decide +kernel
theorem dX3_redeemPledge_48 : decode cX3_redeemPledge 48 = .ok (.astore_n 3, 1) := by decide +kernel
theorem dX3_redeemPledge_49 : decode cX3_redeemPledge 49 = .ok (.aload_n 0, 1) := by decide +kernel
theorem dX3_redeemPledge_50 : decode cX3_redeemPledge 50 = .ok (.aload_n 2, 1) := by decide +kernel
theorem dX3_redeemPledge_51 : decode cX3_redeemPledge 51 = .ok (.invokevirtual 238, 3) := by decide +kernel
theorem dX3_redeemPledge_54 : decode cX3_redeemPledge 54 = .ok (.istore 4, 2) := by decide +kernel
theorem dX3_redeemPledge_56 : decode cX3_redeemPledge 56 = .ok (.iload 4, 2) := by decide +kernel
theorem dX3_redeemPledge_58 : decode cX3_redeemPledge 58 = .ok (.ldc 235, 2) := by decide +kernel
theorem dX3_redeemPledge_60 : decode cX3_redeemPledge 60 = .ok (.if_icmp .eq 12, 3) := by decide +kernel
theorem dX3_redeemPledge_63 : decode cX3_redeemPledge 63 = .ok (.aload_n 3, 1) := by decide +kernel
theorem dX3_redeemPledge_64 : decode cX3_redeemPledge 64 = .ok (.getfield 132, 3) := by decide +kernel
theorem dX3_redeemPledge_67 : decode cX3_redeemPledge 67 = .ok (.iload 4, 2) := by decide +kernel
theorem dX3_redeemPledge_69 : decode cX3_redeemPledge 69 = .ok (.if_icmp .ge 6, 3) := by decide +kernel
theorem dX3_redeemPledge_72 : decode cX3_redeemPledge 72 = .ok (.ldc 155, 2) := by decide +kernel
theorem dX3_redeemPledge_74 : decode cX3_redeemPledge 74 = .ok (.ireturn, 1) := by decide +kernel
theorem dX3_redeemPledge_75 : decode cX3_redeemPledge 75 = .ok (.aload_n 3, 1) := by decide +kernel
theorem dX3_redeemPledge_76 : decode cX3_redeemPledge 76 = .ok (.dup, 1) := by decide +kernel
theorem dX3_redeemPledge_77 : decode cX3_redeemPledge 77 = .ok (.getfield 132, 3) := by decide +kernel
theorem dX3_redeemPledge_80 : decode cX3_redeemPledge 80 = .ok (.iload 4, 2) := by decide +kernel
theorem dX3_redeemPledge_82 : decode cX3_redeemPledge 82 = .ok (.isub, 1) := by decide +kernel
theorem dX3_redeemPledge_83 : decode cX3_redeemPledge 83 = .ok (.putfield 132, 3) := by decide +kernel
theorem dX3_redeemPledge_86 : decode cX3_redeemPledge 86 = .ok (.aload_n 2, 1) := by decide +kernel
theorem dX3_redeemPledge_87 : decode cX3_redeemPledge 87 = .ok (.invokevirtual 241, 3) := by decide +kernel
theorem dX3_redeemPledge_90 : decode cX3_redeemPledge 90 = .ok (.aload_n 3, 1) := by decide +kernel
theorem dX3_redeemPledge_91 : decode cX3_redeemPledge 91 = .ok (.getfield 132, 3) := by decide +kernel
theorem dX3_redeemPledge_94 : decode cX3_redeemPledge 94 = .ok (.ireturn, 1) := by decide +kernel
theorem dX3_sackOfPledge_0 : decode cX3_sackOfPledge 0 = .ok (.iconst 0, 1) := by decide +kernel
theorem dX3_sackOfPledge_1 : decode cX3_sackOfPledge 1 = .ok (.istore_n 2, 1) := by decide +kernel
theorem dX3_sackOfPledge_2 : decode cX3_sackOfPledge 2 = .ok (.iload_n 2, 1) := by decide +kernel
theorem dX3_sackOfPledge_3 : decode cX3_sackOfPledge 3 = .ok (.aload_n 0, 1) := by decide +kernel
theorem dX3_sackOfPledge_4 : decode cX3_sackOfPledge 4 = .ok (.getfield 97, 3) := by decide +kernel
theorem dX3_sackOfPledge_7 : decode cX3_sackOfPledge 7 = .ok (.if_icmp .ge 32, 3) := by decide +kernel
theorem dX3_sackOfPledge_10 : decode cX3_sackOfPledge 10 = .ok (.aload_n 0, 1) := by decide +kernel
theorem dX3_sackOfPledge_11 : decode cX3_sackOfPledge 11 = .ok (.getfield 43, 3) := by decide +kernel
theorem dX3_sackOfPledge_14 : decode cX3_sackOfPledge 14 = .ok (.iload_n 2, 1) := by decide +kernel
theorem dX3_sackOfPledge_15 : decode cX3_sackOfPledge 15 = .ok (.aaload, 1) := by decide +kernel
theorem dX3_sackOfPledge_16 : decode cX3_sackOfPledge 16 = .ok (.invokevirtual 163, 3) := by decide +kernel
theorem dX3_sackOfPledge_19 : decode cX3_sackOfPledge 19 = .ok (.ifCond .eq 14, 3) := by decide +kernel
theorem dX3_sackOfPledge_22 : decode cX3_sackOfPledge 22 = .ok (.aload_n 0, 1) := by decide +kernel
theorem dX3_sackOfPledge_23 : decode cX3_sackOfPledge 23 = .ok (.iload_n 2, 1) := by decide +kernel
theorem dX3_sackOfPledge_24 : decode cX3_sackOfPledge 24 = .ok (.invokevirtual 244, 3) := by decide +kernel
theorem dX3_sackOfPledge_27 : decode cX3_sackOfPledge 27 = .ok (.iload_n 1, 1) := by decide +kernel
theorem dX3_sackOfPledge_28 : decode cX3_sackOfPledge 28 = .ok (.if_icmp .ne 5, 3) := by decide +kernel
theorem dX3_sackOfPledge_31 : decode cX3_sackOfPledge 31 = .ok (.iload_n 2, 1) := by decide +kernel
theorem dX3_sackOfPledge_32 : decode cX3_sackOfPledge 32 = .ok (.ireturn, 1) := by decide +kernel
theorem dX3_sackOfPledge_33 : decode cX3_sackOfPledge 33 = .ok (.iinc 2 1, 3) := by decide +kernel
theorem dX3_sackOfPledge_36 : decode cX3_sackOfPledge 36 = .ok (.goto (-34), 3) := by decide +kernel
theorem dX3_sackOfPledge_39 : decode cX3_sackOfPledge 39 = .ok (.iconst (-1), 1) := by decide +kernel
theorem dX3_sackOfPledge_40 : decode cX3_sackOfPledge 40 = .ok (.ireturn, 1) := by decide +kernel
theorem dX3_pledgesAheadOf_0 : decode cX3_pledgesAheadOf 0 = .ok (.aload_n 0, 1) := by decide +kernel
theorem dX3_pledgesAheadOf_1 : decode cX3_pledgesAheadOf 1 = .ok (.getfield 43, 3) := by decide +kernel
theorem dX3_pledgesAheadOf_4 : decode cX3_pledgesAheadOf 4 = .ok (.iload_n 1, 1) := by decide +kernel
theorem dX3_pledgesAheadOf_5 : decode cX3_pledgesAheadOf 5 = .ok (.aaload, 1) := by decide +kernel
theorem dX3_pledgesAheadOf_6 : decode cX3_pledgesAheadOf 6 = .ok (.getfield 229, 3) := by decide +kernel
theorem dX3_pledgesAheadOf_9 : decode cX3_pledgesAheadOf 9 = .ok (.istore_n 2, 1) := by decide +kernel
theorem dX3_pledgesAheadOf_10 : decode cX3_pledgesAheadOf 10 = .ok (.iconst 0, 1) := by decide +kernel
theorem dX3_pledgesAheadOf_11 : decode cX3_pledgesAheadOf 11 = .ok (.istore_n 3, 1) := by decide +kernel
theorem dX3_pledgesAheadOf_12 : decode cX3_pledgesAheadOf 12 = .ok (.iconst 0, 1) := by decide +kernel
theorem dX3_pledgesAheadOf_13 : decode cX3_pledgesAheadOf 13 = .ok (.istore 4, 2) := by decide +kernel
theorem dX3_pledgesAheadOf_15 : decode cX3_pledgesAheadOf 15 = .ok (.iload 4, 2) := by decide +kernel
theorem dX3_pledgesAheadOf_17 : decode cX3_pledgesAheadOf 17 = .ok (.aload_n 0, 1) := by decide +kernel
theorem dX3_pledgesAheadOf_18 : decode cX3_pledgesAheadOf 18 = .ok (.getfield 97, 3) := by decide +kernel
theorem dX3_pledgesAheadOf_21 : decode cX3_pledgesAheadOf 21 = .ok (.if_icmp .ge 71, 3) := by decide +kernel
theorem dX3_pledgesAheadOf_24 : decode cX3_pledgesAheadOf 24 = .ok (.aload_n 0, 1) := by decide +kernel
theorem dX3_pledgesAheadOf_25 : decode cX3_pledgesAheadOf 25 = .ok (.getfield 43, 3) := by decide +kernel
theorem dX3_pledgesAheadOf_28 : decode cX3_pledgesAheadOf 28 = .ok (.iload 4, 2) := by decide +kernel
theorem dX3_pledgesAheadOf_30 : decode cX3_pledgesAheadOf 30 = .ok (.aaload, 1) := by decide +kernel
theorem dX3_pledgesAheadOf_31 : decode cX3_pledgesAheadOf 31 = .ok (.getfield 229, 3) := by decide +kernel
theorem dX3_pledgesAheadOf_34 : decode cX3_pledgesAheadOf 34 = .ok (.iload_n 2, 1) := by decide +kernel
theorem dX3_pledgesAheadOf_35 : decode cX3_pledgesAheadOf 35 = .ok (.if_icmp .lt 23, 3) := by decide +kernel
theorem dX3_pledgesAheadOf_38 : decode cX3_pledgesAheadOf 38 = .ok (.aload_n 0, 1) := by decide +kernel
theorem dX3_pledgesAheadOf_39 : decode cX3_pledgesAheadOf 39 = .ok (.getfield 43, 3) := by decide +kernel
theorem dX3_pledgesAheadOf_42 : decode cX3_pledgesAheadOf 42 = .ok (.iload 4, 2) := by decide +kernel
theorem dX3_pledgesAheadOf_44 : decode cX3_pledgesAheadOf 44 = .ok (.aaload, 1) := by decide +kernel
theorem dX3_pledgesAheadOf_45 : decode cX3_pledgesAheadOf 45 = .ok (.getfield 229, 3) := by decide +kernel
theorem dX3_pledgesAheadOf_48 : decode cX3_pledgesAheadOf 48 = .ok (.iload_n 2, 1) := by decide +kernel
theorem dX3_pledgesAheadOf_49 : decode cX3_pledgesAheadOf 49 = .ok (.if_icmp .ne 13, 3) := by decide +kernel
theorem dX3_pledgesAheadOf_52 : decode cX3_pledgesAheadOf 52 = .ok (.iload 4, 2) := by decide +kernel
theorem dX3_pledgesAheadOf_54 : decode cX3_pledgesAheadOf 54 = .ok (.iload_n 1, 1) := by decide +kernel
theorem dX3_pledgesAheadOf_55 : decode cX3_pledgesAheadOf 55 = .ok (.if_icmp .ge 7, 3) := by decide +kernel
theorem dX3_pledgesAheadOf_58 : decode cX3_pledgesAheadOf 58 = .ok (.iconst 1, 1) := by decide +kernel
theorem dX3_pledgesAheadOf_59 : decode cX3_pledgesAheadOf 59 = .ok (.goto 4, 3) := by decide +kernel
theorem dX3_pledgesAheadOf_62 : decode cX3_pledgesAheadOf 62 = .ok (.iconst 0, 1) := by decide +kernel
theorem dX3_pledgesAheadOf_63 : decode cX3_pledgesAheadOf 63 = .ok (.istore 5, 2) := by decide +kernel
theorem dX3_pledgesAheadOf_65 : decode cX3_pledgesAheadOf 65 = .ok (.aload_n 0, 1) := by decide +kernel
theorem dX3_pledgesAheadOf_66 : decode cX3_pledgesAheadOf 66 = .ok (.getfield 43, 3) := by decide +kernel
theorem dX3_pledgesAheadOf_69 : decode cX3_pledgesAheadOf 69 = .ok (.iload 4, 2) := by decide +kernel
theorem dX3_pledgesAheadOf_71 : decode cX3_pledgesAheadOf 71 = .ok (.aaload, 1) := by decide +kernel
theorem dX3_pledgesAheadOf_72 : decode cX3_pledgesAheadOf 72 = .ok (.invokevirtual 163, 3) := by decide +kernel
theorem dX3_pledgesAheadOf_75 : decode cX3_pledgesAheadOf 75 = .ok (.ifCond .eq 11, 3) := by decide +kernel
theorem dX3_pledgesAheadOf_78 : decode cX3_pledgesAheadOf 78 = .ok (.iload 5, 2) := by decide +kernel
theorem dX3_pledgesAheadOf_80 : decode cX3_pledgesAheadOf 80 = .ok (.ifCond .eq 6, 3) := by decide +kernel
theorem dX3_pledgesAheadOf_83 : decode cX3_pledgesAheadOf 83 = .ok (.iinc 3 1, 3) := by decide +kernel
theorem dX3_pledgesAheadOf_86 : decode cX3_pledgesAheadOf 86 = .ok (.iinc 4 1, 3) := by decide +kernel
theorem dX3_pledgesAheadOf_89 : decode cX3_pledgesAheadOf 89 = .ok (.goto (-74), 3) := by decide +kernel
theorem dX3_pledgesAheadOf_92 : decode cX3_pledgesAheadOf 92 = .ok (.iload_n 3, 1) := by decide +kernel
theorem dX3_pledgesAheadOf_93 : decode cX3_pledgesAheadOf 93 = .ok (.ireturn, 1) := by decide +kernel
theorem dX3_tellPledge_0 : decode cX3_tellPledge 0 = .ok (.aload_n 0, 1) := by decide +kernel
theorem dX3_tellPledge_1 : decode cX3_tellPledge 1 = .ok (.getfield 43, 3) := by decide +kernel
theorem dX3_tellPledge_4 : decode cX3_tellPledge 4 = .ok (.iload_n 1, 1) := by decide +kernel
theorem dX3_tellPledge_5 : decode cX3_tellPledge 5 = .ok (.aaload, 1) := by decide +kernel
theorem dX3_tellPledge_6 : decode cX3_tellPledge 6 = .ok (.astore_n 3, 1) := by decide +kernel
theorem dX3_tellPledge_7 : decode cX3_tellPledge 7 = .ok (.iload_n 2, 1) := by decide +kernel
theorem dX3_tellPledge_8 : decode cX3_tellPledge 8 = .ok (.tableswitch 49 0 3 #[32, 34, 39, 44], 32) := by decide +kernel
theorem dX3_tellPledge_40 : decode cX3_tellPledge 40 = .ok (.iload_n 1, 1) := by decide +kernel
theorem dX3_tellPledge_41 : decode cX3_tellPledge 41 = .ok (.ireturn, 1) := by decide +kernel
theorem dX3_tellPledge_42 : decode cX3_tellPledge 42 = .ok (.aload_n 3, 1) := by decide +kernel
theorem dX3_tellPledge_43 : decode cX3_tellPledge 43 = .ok (.getfield 217, 3) := by decide +kernel
theorem dX3_tellPledge_46 : decode cX3_tellPledge 46 = .ok (.ireturn, 1) := by decide +kernel
theorem dX3_tellPledge_47 : decode cX3_tellPledge 47 = .ok (.aload_n 3, 1) := by decide +kernel
theorem dX3_tellPledge_48 : decode cX3_tellPledge 48 = .ok (.getfield 220, 3) := by decide +kernel
theorem dX3_tellPledge_51 : decode cX3_tellPledge 51 = .ok (.ireturn, 1) := by decide +kernel
theorem dX3_tellPledge_52 : decode cX3_tellPledge 52 = .ok (.aload_n 3, 1) := by decide +kernel
theorem dX3_tellPledge_53 : decode cX3_tellPledge 53 = .ok (.getfield 226, 3) := by decide +kernel
theorem dX3_tellPledge_56 : decode cX3_tellPledge 56 = .ok (.ireturn, 1) := by decide +kernel
theorem dX3_tellPledge_57 : decode cX3_tellPledge 57 = .ok (.aload_n 3, 1) := by decide +kernel
theorem dX3_tellPledge_58 : decode cX3_tellPledge 58 = .ok (.getfield 229, 3) := by decide +kernel
theorem dX3_tellPledge_61 : decode cX3_tellPledge 61 = .ok (.ireturn, 1) := by decide +kernel
theorem dX3_pledgesOf_0 : decode cX3_pledgesOf 0 = .ok (.iconst 0, 1) := by decide +kernel
theorem dX3_pledgesOf_1 : decode cX3_pledgesOf 1 = .ok (.istore_n 2, 1) := by decide +kernel
theorem dX3_pledgesOf_2 : decode cX3_pledgesOf 2 = .ok (.iconst 0, 1) := by decide +kernel
theorem dX3_pledgesOf_3 : decode cX3_pledgesOf 3 = .ok (.istore_n 3, 1) := by decide +kernel
theorem dX3_pledgesOf_4 : decode cX3_pledgesOf 4 = .ok (.iload_n 3, 1) := by decide +kernel
theorem dX3_pledgesOf_5 : decode cX3_pledgesOf 5 = .ok (.aload_n 0, 1) := by decide +kernel
theorem dX3_pledgesOf_6 : decode cX3_pledgesOf 6 = .ok (.getfield 97, 3) := by decide +kernel
theorem dX3_pledgesOf_9 : decode cX3_pledgesOf 9 = .ok (.if_icmp .ge 38, 3) := by decide +kernel
theorem dX3_pledgesOf_12 : decode cX3_pledgesOf 12 = .ok (.aload_n 0, 1) := by decide +kernel
theorem dX3_pledgesOf_13 : decode cX3_pledgesOf 13 = .ok (.getfield 43, 3) := by decide +kernel
theorem dX3_pledgesOf_16 : decode cX3_pledgesOf 16 = .ok (.iload_n 3, 1) := by decide +kernel
theorem dX3_pledgesOf_17 : decode cX3_pledgesOf 17 = .ok (.aaload, 1) := by decide +kernel
theorem dX3_pledgesOf_18 : decode cX3_pledgesOf 18 = .ok (.invokevirtual 163, 3) := by decide +kernel
theorem dX3_pledgesOf_21 : decode cX3_pledgesOf 21 = .ok (.ifCond .eq 20, 3) := by decide +kernel
theorem dX3_pledgesOf_24 : decode cX3_pledgesOf 24 = .ok (.aload_n 0, 1) := by decide +kernel
theorem dX3_pledgesOf_25 : decode cX3_pledgesOf 25 = .ok (.getfield 43, 3) := by decide +kernel
theorem dX3_pledgesOf_28 : decode cX3_pledgesOf 28 = .ok (.iload_n 3, 1) := by decide +kernel
theorem dX3_pledgesOf_29 : decode cX3_pledgesOf 29 = .ok (.aaload, 1) := by decide +kernel
theorem dX3_pledgesOf_30 : decode cX3_pledgesOf 30 = .ok (.iload_n 1, 1) := by decide +kernel
theorem dX3_pledgesOf_31 : decode cX3_pledgesOf 31 = .ok (.iconst (-1), 1) := by decide +kernel
theorem dX3_pledgesOf_32 : decode cX3_pledgesOf 32 = .ok (.invokevirtual 182, 3) := by decide +kernel
theorem dX3_pledgesOf_35 : decode cX3_pledgesOf 35 = .ok (.ifCond .eq 6, 3) := by decide +kernel
theorem dX3_pledgesOf_38 : decode cX3_pledgesOf 38 = .ok (.iinc 2 1, 3) := by decide +kernel
theorem dX3_pledgesOf_41 : decode cX3_pledgesOf 41 = .ok (.iinc 3 1, 3) := by decide +kernel
theorem dX3_pledgesOf_44 : decode cX3_pledgesOf 44 = .ok (.goto (-40), 3) := by decide +kernel
theorem dX3_pledgesOf_47 : decode cX3_pledgesOf 47 = .ok (.iload_n 2, 1) := by decide +kernel
theorem dX3_pledgesOf_48 : decode cX3_pledgesOf 48 = .ok (.ireturn, 1) := by decide +kernel
theorem dX3_dropOldPledges_0 : decode cX3_dropOldPledges 0 = .ok (.iconst 0, 1) := by decide +kernel
theorem dX3_dropOldPledges_1 : decode cX3_dropOldPledges 1 = .ok (.istore_n 1, 1) := by decide +kernel
theorem dX3_dropOldPledges_2 : decode cX3_dropOldPledges 2 = .ok (.iload_n 1, 1) := by decide +kernel
theorem dX3_dropOldPledges_3 : decode cX3_dropOldPledges 3 = .ok (.aload_n 0, 1) := by decide +kernel
theorem dX3_dropOldPledges_4 : decode cX3_dropOldPledges 4 = .ok (.getfield 97, 3) := by decide +kernel
theorem dX3_dropOldPledges_7 : decode cX3_dropOldPledges 7 = .ok (.if_icmp .ge 46, 3) := by decide +kernel
theorem dX3_dropOldPledges_10 : decode cX3_dropOldPledges 10 = .ok (.aload_n 0, 1) := by decide +kernel
theorem dX3_dropOldPledges_11 : decode cX3_dropOldPledges 11 = .ok (.getfield 43, 3) := by decide +kernel
theorem dX3_dropOldPledges_14 : decode cX3_dropOldPledges 14 = .ok (.iload_n 1, 1) := by decide +kernel
theorem dX3_dropOldPledges_15 : decode cX3_dropOldPledges 15 = .ok (.aaload, 1) := by decide +kernel
theorem dX3_dropOldPledges_16 : decode cX3_dropOldPledges 16 = .ok (.invokevirtual 163, 3) := by decide +kernel
theorem dX3_dropOldPledges_19 : decode cX3_dropOldPledges 19 = .ok (.ifCond .eq 28, 3) := by decide +kernel
theorem dX3_dropOldPledges_22 : decode cX3_dropOldPledges 22 = .ok (.aload_n 0, 1) := by decide +kernel
theorem dX3_dropOldPledges_23 : decode cX3_dropOldPledges 23 = .ok (.getfield 43, 3) := by decide +kernel
theorem dX3_dropOldPledges_26 : decode cX3_dropOldPledges 26 = .ok (.iload_n 1, 1) := by decide +kernel
theorem dX3_dropOldPledges_27 : decode cX3_dropOldPledges 27 = .ok (.aaload, 1) := by decide +kernel
theorem dX3_dropOldPledges_28 : decode cX3_dropOldPledges 28 = .ok (.getfield 229, 3) := by decide +kernel
theorem dX3_dropOldPledges_31 : decode cX3_dropOldPledges 31 = .ok (.aload_n 0, 1) := by decide +kernel
theorem dX3_dropOldPledges_32 : decode cX3_dropOldPledges 32 = .ok (.invokevirtual 223, 3) := by decide +kernel
theorem dX3_dropOldPledges_35 : decode cX3_dropOldPledges 35 = .ok (.if_icmp .ge 12, 3) := by decide +kernel
theorem dX3_dropOldPledges_38 : decode cX3_dropOldPledges 38 = .ok (.aload_n 0, 1) := by decide +kernel
theorem dX3_dropOldPledges_39 : decode cX3_dropOldPledges 39 = .ok (.getfield 43, 3) := by decide +kernel
theorem dX3_dropOldPledges_42 : decode cX3_dropOldPledges 42 = .ok (.iload_n 1, 1) := by decide +kernel
theorem dX3_dropOldPledges_43 : decode cX3_dropOldPledges 43 = .ok (.aaload, 1) := by decide +kernel
theorem dX3_dropOldPledges_44 : decode cX3_dropOldPledges 44 = .ok (.invokevirtual 247, 3) := by decide +kernel
theorem dX3_dropOldPledges_47 : decode cX3_dropOldPledges 47 = .ok (.iinc 1 1, 3) := by decide +kernel
theorem dX3_dropOldPledges_50 : decode cX3_dropOldPledges 50 = .ok (.goto (-48), 3) := by decide +kernel
theorem dX3_dropOldPledges_53 : decode cX3_dropOldPledges 53 = .ok (.return_, 1) := by decide +kernel
theorem dX3_today_0 : decode cX3_today 0 = .ok (.aload_n 0, 1) := by decide +kernel
theorem dX3_today_1 : decode cX3_today 1 = .ok (.getfield 67, 3) := by decide +kernel
theorem dX3_today_4 : decode cX3_today 4 = .ok (.bipush 96, 2) := by decide +kernel
theorem dX3_today_6 : decode cX3_today 6 = .ok (.idiv, 1) := by decide +kernel
theorem dX3_today_7 : decode cX3_today 7 = .ok (.ireturn, 1) := by decide +kernel
theorem dX3_letPass_0 : decode cX3_letPass 0 = .ok (.iload_n 1, 1) := by decide +kernel
theorem dX3_letPass_1 : decode cX3_letPass 1 = .ok (.iconst 1, 1) := by decide +kernel
theorem dX3_letPass_2 : decode cX3_letPass 2 = .ok (.sipush 200, 3) := by decide +kernel
theorem dX3_letPass_5 : decode cX3_letPass 5 = .ok (.invokestatic 110, 3) := by decide +kernel
theorem dX3_letPass_8 : decode cX3_letPass 8 = .ok (.ifCond .ne 6, 3) := by decide +kernel
theorem dX3_letPass_11 : decode cX3_letPass 11 = .ok (.ldc 120, 2) := by decide +kernel
theorem dX3_letPass_13 : decode cX3_letPass 13 = .ok (.ireturn, 1) := by decide +kernel
theorem dX3_letPass_14 : decode cX3_letPass 14 = .ok (.aload_n 0, 1) := by decide +kernel
theorem dX3_letPass_15 : decode cX3_letPass 15 = .ok (.getfield 67, 3) := by decide +kernel
theorem dX3_letPass_18 : decode cX3_letPass 18 = .ok (.iload_n 1, 1) := by decide +kernel
theorem dX3_letPass_19 : decode cX3_letPass 19 = .ok (.iadd, 1) := by decide +kernel
theorem dX3_letPass_20 : decode cX3_letPass 20 = .ok (.sipush 10000, 3) := by decide +kernel
theorem dX3_letPass_23 : decode cX3_letPass 23 = .ok (.if_icmp .le 6, 3) := by decide +kernel
theorem dX3_letPass_26 : decode cX3_letPass 26 = .ok (.ldc 122, 2) := by decide +kernel
theorem dX3_letPass_28 : decode cX3_letPass 28 = .ok (.ireturn, 1) := by decide +kernel
theorem dX3_letPass_29 : decode cX3_letPass 29 = .ok (.iconst 0, 1) := by decide +kernel
theorem dX3_letPass_30 : decode cX3_letPass 30 = .ok (.istore_n 2, 1) := by decide +kernel
theorem dX3_letPass_31 : decode cX3_letPass 31 = .ok (.iload_n 2, 1) := by decide +kernel
theorem dX3_letPass_32 : decode cX3_letPass 32 = .ok (.iload_n 1, 1) := by decide +kernel
theorem dX3_letPass_33 : decode cX3_letPass 33 = .ok (.if_icmp .ge 13, 3) := by decide +kernel
theorem dX3_letPass_36 : decode cX3_letPass 36 = .ok (.aload_n 0, 1) := by decide +kernel
theorem dX3_letPass_37 : decode cX3_letPass 37 = .ok (.invokevirtual 250, 3) := by decide +kernel
theorem dX3_letPass_40 : decode cX3_letPass 40 = .ok (.iinc 2 1, 3) := by decide +kernel
theorem dX3_letPass_43 : decode cX3_letPass 43 = .ok (.goto (-12), 3) := by decide +kernel
theorem dX3_letPass_46 : decode cX3_letPass 46 = .ok (.aload_n 0, 1) := by decide +kernel
theorem dX3_letPass_47 : decode cX3_letPass 47 = .ok (.getfield 67, 3) := by decide +kernel
theorem dX3_letPass_50 : decode cX3_letPass 50 = .ok (.ireturn, 1) := by decide +kernel
theorem dX3_step_0 : decode cX3_step 0 = .ok (.aload_n 0, 1) := by decide +kernel
theorem dX3_step_1 : decode cX3_step 1 = .ok (.dup, 1) := by decide +kernel
theorem dX3_step_2 : decode cX3_step 2 = .ok (.getfield 67, 3) := by decide +kernel
theorem dX3_step_5 : decode cX3_step 5 = .ok (.iconst 1, 1) := by decide +kernel
theorem dX3_step_6 : decode cX3_step 6 = .ok (.iadd, 1) := by decide +kernel
theorem dX3_step_7 : decode cX3_step 7 = .ok (.putfield 67, 3) := by decide +kernel
theorem dX3_step_10 : decode cX3_step 10 = .ok (.aload_n 0, 1) := by decide +kernel
theorem dX3_step_11 : decode cX3_step 11 = .ok (.getfield 67, 3) := by decide +kernel
theorem dX3_step_14 : decode cX3_step 14 = .ok (.bipush 96, 2) := by decide +kernel
theorem dX3_step_16 : decode cX3_step 16 = .ok (.irem, 1) := by decide +kernel
theorem dX3_step_17 : decode cX3_step 17 = .ok (.ifCond .ne 7, 3) := by decide +kernel
theorem dX3_step_20 : decode cX3_step 20 = .ok (.aload_n 0, 1) := by decide +kernel
theorem dX3_step_21 : decode cX3_step 21 = .ok (.invokevirtual 253, 3) := by decide +kernel
theorem dX3_step_24 : decode cX3_step 24 = .ok (.aload_n 0, 1) := by decide +kernel
theorem dX3_step_25 : decode cX3_step 25 = .ok (.aload_n 0, 1) := by decide +kernel
theorem dX3_step_26 : decode cX3_step 26 = .ok (.getfield 67, 3) := by decide +kernel
theorem dX3_step_29 : decode cX3_step 29 = .ok (.invokevirtual 256, 3) := by decide +kernel
theorem dX3_step_32 : decode cX3_step 32 = .ok (.istore_n 1, 1) := by decide +kernel
theorem dX3_step_33 : decode cX3_step 33 = .ok (.aload_n 0, 1) := by decide +kernel
theorem dX3_step_34 : decode cX3_step 34 = .ok (.iload_n 1, 1) := by decide +kernel
theorem dX3_step_35 : decode cX3_step 35 = .ok (.invokevirtual 259, 3) := by decide +kernel
theorem dX3_step_38 : decode cX3_step 38 = .ok (.aload_n 0, 1) := by decide +kernel
theorem dX3_step_39 : decode cX3_step 39 = .ok (.iload_n 1, 1) := by decide +kernel
theorem dX3_step_40 : decode cX3_step 40 = .ok (.invokevirtual 263, 3) := by decide +kernel
theorem dX3_step_43 : decode cX3_step 43 = .ok (.aload_n 0, 1) := by decide +kernel
theorem dX3_step_44 : decode cX3_step 44 = .ok (.iload_n 1, 1) := by decide +kernel
theorem dX3_step_45 : decode cX3_step 45 = .ok (.invokevirtual 266, 3) := by decide +kernel
theorem dX3_step_48 : decode cX3_step 48 = .ok (.return_, 1) := by decide +kernel
theorem dX3_seaAt_0 : decode cX3_seaAt 0 = .ok (.aload_n 0, 1) := by decide +kernel
theorem dX3_seaAt_1 : decode cX3_seaAt 1 = .ok (.getfield 18, 3) := by decide +kernel
theorem dX3_seaAt_4 : decode cX3_seaAt 4 = .ok (.iconst 4, 1) := by decide +kernel
theorem dX3_seaAt_5 : decode cX3_seaAt 5 = .ok (.iaload, 1) := by decide +kernel
theorem dX3_seaAt_6 : decode cX3_seaAt 6 = .ok (.istore_n 2, 1) := by decide +kernel
theorem dX3_seaAt_7 : decode cX3_seaAt 7 = .ok (.iload_n 1, 1) := by decide +kernel
theorem dX3_seaAt_8 : decode cX3_seaAt 8 = .ok (.iload_n 2, 1) := by decide +kernel
theorem dX3_seaAt_9 : decode cX3_seaAt 9 = .ok (.invokestatic 269, 3) := by decide +kernel
theorem dX3_seaAt_12 : decode cX3_seaAt 12 = .ok (.istore_n 3, 1) := by decide +kernel
theorem dX3_seaAt_13 : decode cX3_seaAt 13 = .ok (.iload_n 1, 1) := by decide +kernel
theorem dX3_seaAt_14 : decode cX3_seaAt 14 = .ok (.iload_n 3, 1) := by decide +kernel
theorem dX3_seaAt_15 : decode cX3_seaAt 15 = .ok (.iload_n 2, 1) := by decide +kernel
theorem dX3_seaAt_16 : decode cX3_seaAt 16 = .ok (.imul, 1) := by decide +kernel
theorem dX3_seaAt_17 : decode cX3_seaAt 17 = .ok (.isub, 1) := by decide +kernel
theorem dX3_seaAt_18 : decode cX3_seaAt 18 = .ok (.istore 4, 2) := by decide +kernel
theorem dX3_seaAt_20 : decode cX3_seaAt 20 = .ok (.iload_n 2, 1) := by decide +kernel
theorem dX3_seaAt_21 : decode cX3_seaAt 21 = .ok (.iconst 2, 1) := by decide +kernel
theorem dX3_seaAt_22 : decode cX3_seaAt 22 = .ok (.idiv, 1) := by decide +kernel
theorem dX3_seaAt_23 : decode cX3_seaAt 23 = .ok (.istore 5, 2) := by decide +kernel
theorem dX3_seaAt_25 : decode cX3_seaAt 25 = .ok (.aload_n 0, 1) := by decide +kernel
theorem dX3_seaAt_26 : decode cX3_seaAt 26 = .ok (.getfield 18, 3) := by decide +kernel
theorem dX3_seaAt_29 : decode cX3_seaAt 29 = .ok (.iconst 2, 1) := by decide +kernel
theorem dX3_seaAt_30 : decode cX3_seaAt 30 = .ok (.iaload, 1) := by decide +kernel
theorem dX3_seaAt_31 : decode cX3_seaAt 31 = .ok (.aload_n 0, 1) := by decide +kernel
theorem dX3_seaAt_32 : decode cX3_seaAt 32 = .ok (.getfield 18, 3) := by decide +kernel
theorem dX3_seaAt_35 : decode cX3_seaAt 35 = .ok (.iconst 3, 1) := by decide +kernel
theorem dX3_seaAt_36 : decode cX3_seaAt 36 = .ok (.iaload, 1) := by decide +kernel
theorem dX3_seaAt_37 : decode cX3_seaAt 37 = .ok (.iload_n 3, 1) := by decide +kernel
theorem dX3_seaAt_38 : decode cX3_seaAt 38 = .ok (.bipush 14, 2) := by decide +kernel
theorem dX3_seaAt_40 : decode cX3_seaAt 40 = .ok (.irem, 1) := by decide +kernel
theorem dX3_seaAt_41 : decode cX3_seaAt 41 = .ok (.bipush 7, 2) := by decide +kernel
theorem dX3_seaAt_43 : decode cX3_seaAt 43 = .ok (.isub, 1) := by decide +kernel
theorem dX3_seaAt_44 : decode cX3_seaAt 44 = .ok (.invokestatic 272, 3) := by decide +kernel
theorem dX3_seaAt_47 : decode cX3_seaAt 47 = .ok (.imul, 1) := by decide +kernel
theorem dX3_seaAt_48 : decode cX3_seaAt 48 = .ok (.bipush 7, 2) := by decide +kernel
theorem dX3_seaAt_50 : decode cX3_seaAt 50 = .ok (.idiv, 1) := by decide +kernel
theorem dX3_seaAt_51 : decode cX3_seaAt 51 = .ok (.iadd, 1) := by decide +kernel
theorem dX3_seaAt_52 : decode cX3_seaAt 52 = .ok (.istore 6, 2) := by decide +kernel
theorem dX3_seaAt_54 : decode cX3_seaAt 54 = .ok (.iload 4, 2) := by decide +kernel
theorem dX3_seaAt_56 : decode cX3_seaAt 56 = .ok (.iload 5, 2) := by decide +kernel
theorem dX3_seaAt_58 : decode cX3_seaAt 58 = .ok (.if_icmp .gt 16, 3) := by decide +kernel
theorem dX3_seaAt_61 : decode cX3_seaAt 61 = .ok (.iload 6, 2) := by decide +kernel
theorem dX3_seaAt_63 : decode cX3_seaAt 63 = .ok (.iload 4, 2) := by decide +kernel
theorem dX3_seaAt_65 : decode cX3_seaAt 65 = .ok (.imul, 1) := by decide +kernel
theorem dX3_seaAt_66 : decode cX3_seaAt 66 = .ok (.iload 5, 2) := by decide +kernel
theorem dX3_seaAt_68 : decode cX3_seaAt 68 = .ok (.invokestatic 269, 3) := by decide +kernel
theorem dX3_seaAt_71 : decode cX3_seaAt 71 = .ok (.goto 17, 3) := by decide +kernel
theorem dX3_seaAt_74 : decode cX3_seaAt 74 = .ok (.iload 6, 2) := by decide +kernel
theorem dX3_seaAt_76 : decode cX3_seaAt 76 = .ok (.iload_n 2, 1) := by decide +kernel
theorem dX3_seaAt_77 : decode cX3_seaAt 77 = .ok (.iload 4, 2) := by decide +kernel
theorem dX3_seaAt_79 : decode cX3_seaAt 79 = .ok (.isub, 1) := by decide +kernel
theorem dX3_seaAt_80 : decode cX3_seaAt 80 = .ok (.imul, 1) := by decide +kernel
theorem dX3_seaAt_81 : decode cX3_seaAt 81 = .ok (.iload_n 2, 1) := by decide +kernel
theorem dX3_seaAt_82 : decode cX3_seaAt 82 = .ok (.iload 5, 2) := by decide +kernel
theorem dX3_seaAt_84 : decode cX3_seaAt 84 = .ok (.isub, 1) := by decide +kernel
theorem dX3_seaAt_85 : decode cX3_seaAt 85 = .ok (.invokestatic 269, 3) := by decide +kernel
theorem dX3_seaAt_88 : decode cX3_seaAt 88 = .ok (.istore 7, 2) := by decide +kernel
theorem dX3_seaAt_90 : decode cX3_seaAt 90 = .ok (.aload_n 0, 1) := by decide +kernel
theorem dX3_seaAt_91 : decode cX3_seaAt 91 = .ok (.getfield 18, 3) := by decide +kernel
theorem dX3_seaAt_94 : decode cX3_seaAt 94 = .ok (.iconst 1, 1) := by decide +kernel
theorem dX3_seaAt_95 : decode cX3_seaAt 95 = .ok (.iaload, 1) := by decide +kernel
theorem dX3_seaAt_96 : decode cX3_seaAt 96 = .ok (.iload 7, 2) := by decide +kernel
theorem dX3_seaAt_98 : decode cX3_seaAt 98 = .ok (.iadd, 1) := by decide +kernel
theorem dX3_seaAt_99 : decode cX3_seaAt 99 = .ok (.ireturn, 1) := by decide +kernel
theorem dX3_level_0 : decode cX3_level 0 = .ok (.aload_n 0, 1) := by decide +kernel
theorem dX3_level_1 : decode cX3_level 1 = .ok (.getfield 70, 3) := by decide +kernel
theorem dX3_level_4 : decode cX3_level 4 = .ok (.aload_n 0, 1) := by decide +kernel
theorem dX3_level_5 : decode cX3_level 5 = .ok (.getfield 18, 3) := by decide +kernel
theorem dX3_level_8 : decode cX3_level 8 = .ok (.iconst 0, 1) := by decide +kernel
theorem dX3_level_9 : decode cX3_level 9 = .ok (.iaload, 1) := by decide +kernel
theorem dX3_level_10 : decode cX3_level 10 = .ok (.invokestatic 269, 3) := by decide +kernel
theorem dX3_level_13 : decode cX3_level 13 = .ok (.ireturn, 1) := by decide +kernel
theorem dX3_flowIn_0 : decode cX3_flowIn 0 = .ok (.iload_n 1, 1) := by decide +kernel
theorem dX3_flowIn_1 : decode cX3_flowIn 1 = .ok (.aload_n 0, 1) := by decide +kernel
theorem dX3_flowIn_2 : decode cX3_flowIn 2 = .ok (.invokevirtual 277, 3) := by decide +kernel
theorem dX3_flowIn_5 : decode cX3_flowIn 5 = .ok (.isub, 1) := by decide +kernel
theorem dX3_flowIn_6 : decode cX3_flowIn 6 = .ok (.istore_n 2, 1) := by decide +kernel
theorem dX3_flowIn_7 : decode cX3_flowIn 7 = .ok (.aload_n 0, 1) := by decide +kernel
theorem dX3_flowIn_8 : decode cX3_flowIn 8 = .ok (.getfield 73, 3) := by decide +kernel
theorem dX3_flowIn_11 : decode cX3_flowIn 11 = .ok (.iconst 1, 1) := by decide +kernel
theorem dX3_flowIn_12 : decode cX3_flowIn 12 = .ok (.if_icmp .eq 7, 3) := by decide +kernel
theorem dX3_flowIn_15 : decode cX3_flowIn 15 = .ok (.iload_n 2, 1) := by decide +kernel
theorem dX3_flowIn_16 : decode cX3_flowIn 16 = .ok (.ifCond .gt 4, 3) := by decide +kernel
theorem dX3_flowIn_19 : decode cX3_flowIn 19 = .ok (.return_, 1) := by decide +kernel
theorem dX3_flowIn_20 : decode cX3_flowIn 20 = .ok (.aload_n 0, 1) := by decide +kernel
theorem dX3_flowIn_21 : decode cX3_flowIn 21 = .ok (.getfield 18, 3) := by decide +kernel
theorem dX3_flowIn_24 : decode cX3_flowIn 24 = .ok (.iconst 5, 1) := by decide +kernel
theorem dX3_flowIn_25 : decode cX3_flowIn 25 = .ok (.iaload, 1) := by decide +kernel
theorem dX3_flowIn_26 : decode cX3_flowIn 26 = .ok (.aload_n 0, 1) := by decide +kernel
theorem dX3_flowIn_27 : decode cX3_flowIn 27 = .ok (.getfield 18, 3) := by decide +kernel
theorem dX3_flowIn_30 : decode cX3_flowIn 30 = .ok (.iconst 0, 1) := by decide +kernel
theorem dX3_flowIn_31 : decode cX3_flowIn 31 = .ok (.iaload, 1) := by decide +kernel
theorem dX3_flowIn_32 : decode cX3_flowIn 32 = .ok (.invokestatic 280, 3) := by decide +kernel
theorem dX3_flowIn_35 : decode cX3_flowIn 35 = .ok (.iload_n 2, 1) := by decide +kernel
theorem dX3_flowIn_36 : decode cX3_flowIn 36 = .ok (.imul, 1) := by decide +kernel
theorem dX3_flowIn_37 : decode cX3_flowIn 37 = .ok (.istore_n 3, 1) := by decide +kernel
theorem dX3_flowIn_38 : decode cX3_flowIn 38 = .ok (.aload_n 0, 1) := by decide +kernel
theorem dX3_flowIn_39 : decode cX3_flowIn 39 = .ok (.dup, 1) := by decide +kernel
theorem dX3_flowIn_40 : decode cX3_flowIn 40 = .ok (.getfield 70, 3) := by decide +kernel
theorem dX3_flowIn_43 : decode cX3_flowIn 43 = .ok (.iload_n 3, 1) := by decide +kernel
theorem dX3_flowIn_44 : decode cX3_flowIn 44 = .ok (.iadd, 1) := by decide +kernel
theorem dX3_flowIn_45 : decode cX3_flowIn 45 = .ok (.putfield 70, 3) := by decide +kernel
theorem dX3_flowIn_48 : decode cX3_flowIn 48 = .ok (.aload_n 0, 1) := by decide +kernel
theorem dX3_flowIn_49 : decode cX3_flowIn 49 = .ok (.dup, 1) := by decide +kernel
theorem dX3_flowIn_50 : decode cX3_flowIn 50 = .ok (.getfield 79, 3) := by decide +kernel
theorem dX3_flowIn_53 : decode cX3_flowIn 53 = .ok (.iload_n 3, 1) := by decide +kernel
theorem dX3_flowIn_54 : decode cX3_flowIn 54 = .ok (.iadd, 1) := by decide +kernel
theorem dX3_flowIn_55 : decode cX3_flowIn 55 = .ok (.putfield 79, 3) := by decide +kernel
theorem dX3_flowIn_58 : decode cX3_flowIn 58 = .ok (.return_, 1) := by decide +kernel
theorem dX3_leakOut_0 : decode cX3_leakOut 0 = .ok (.aload_n 0, 1) := by decide +kernel
theorem dX3_leakOut_1 : decode cX3_leakOut 1 = .ok (.invokevirtual 277, 3) := by decide +kernel
theorem dX3_leakOut_4 : decode cX3_leakOut 4 = .ok (.iload_n 1, 1) := by decide +kernel
theorem dX3_leakOut_5 : decode cX3_leakOut 5 = .ok (.isub, 1) := by decide +kernel
theorem dX3_leakOut_6 : decode cX3_leakOut 6 = .ok (.istore_n 2, 1) := by decide +kernel
theorem dX3_leakOut_7 : decode cX3_leakOut 7 = .ok (.iload_n 2, 1) := by decide +kernel
theorem dX3_leakOut_8 : decode cX3_leakOut 8 = .ok (.ifCond .gt 4, 3) := by decide +kernel
theorem dX3_leakOut_11 : decode cX3_leakOut 11 = .ok (.return_, 1) := by decide +kernel
theorem dX3_leakOut_12 : decode cX3_leakOut 12 = .ok (.iconst 0, 1) := by decide +kernel
theorem dX3_leakOut_13 : decode cX3_leakOut 13 = .ok (.istore_n 3, 1) := by decide +kernel
theorem dX3_leakOut_14 : decode cX3_leakOut 14 = .ok (.iload_n 3, 1) := by decide +kernel
theorem dX3_leakOut_15 : decode cX3_leakOut 15 = .ok (.iconst 4, 1) := by decide +kernel
theorem dX3_leakOut_16 : decode cX3_leakOut 16 = .ok (.if_icmp .ge 48, 3) := by decide +kernel
theorem dX3_leakOut_19 : decode cX3_leakOut 19 = .ok (.aload_n 0, 1) := by decide +kernel
theorem dX3_leakOut_20 : decode cX3_leakOut 20 = .ok (.getfield 26, 3) := by decide +kernel
theorem dX3_leakOut_23 : decode cX3_leakOut 23 = .ok (.iload_n 3, 1) := by decide +kernel
theorem dX3_leakOut_24 : decode cX3_leakOut 24 = .ok (.iaload, 1) := by decide +kernel
theorem dX3_leakOut_25 : decode cX3_leakOut 25 = .ok (.iload_n 2, 1) := by decide +kernel
theorem dX3_leakOut_26 : decode cX3_leakOut 26 = .ok (.imul, 1) := by decide +kernel
theorem dX3_leakOut_27 : decode cX3_leakOut 27 = .ok (.aload_n 0, 1) := by decide +kernel
theorem dX3_leakOut_28 : decode cX3_leakOut 28 = .ok (.getfield 70, 3) := by decide +kernel
theorem dX3_leakOut_31 : decode cX3_leakOut 31 = .ok (.invokestatic 280, 3) := by decide +kernel
theorem dX3_leakOut_34 : decode cX3_leakOut 34 = .ok (.istore 4, 2) := by decide +kernel
theorem dX3_leakOut_36 : decode cX3_leakOut 36 = .ok (.aload_n 0, 1) := by decide +kernel
theorem dX3_leakOut_37 : decode cX3_leakOut 37 = .ok (.dup, 1) := by decide +kernel
theorem dX3_leakOut_38 : decode cX3_leakOut 38 = .ok (.getfield 70, 3) := by decide +kernel
theorem dX3_leakOut_41 : decode cX3_leakOut 41 = .ok (.iload 4, 2) := by decide +kernel
theorem dX3_leakOut_43 : decode cX3_leakOut 43 = .ok (.isub, 1) := by decide +kernel
theorem dX3_leakOut_44 : decode cX3_leakOut 44 = .ok (.putfield 70, 3) := by decide +kernel
theorem dX3_leakOut_47 : decode cX3_leakOut 47 = .ok (.aload_n 0, 1) := by decide +kernel
theorem dX3_leakOut_48 : decode cX3_leakOut 48 = .ok (.dup, 1) := by decide +kernel
theorem dX3_leakOut_49 : decode cX3_leakOut 49 = .ok (.getfield 82, 3) := by decide +kernel
theorem dX3_leakOut_52 : decode cX3_leakOut 52 = .ok (.iload 4, 2) := by decide +kernel
theorem dX3_leakOut_54 : decode cX3_leakOut 54 = .ok (.iadd, 1) := by decide +kernel
theorem dX3_leakOut_55 : decode cX3_leakOut 55 = .ok (.putfield 82, 3) := by decide +kernel
theorem dX3_leakOut_58 : decode cX3_leakOut 58 = .ok (.iinc 3 1, 3) := by decide +kernel
theorem dX3_leakOut_61 : decode cX3_leakOut 61 = .ok (.goto (-47), 3) := by decide +kernel
theorem dX3_leakOut_64 : decode cX3_leakOut 64 = .ok (.return_, 1) := by decide +kernel
theorem dX3_grind_0 : decode cX3_grind 0 = .ok (.aload_n 0, 1) := by decide +kernel
theorem dX3_grind_1 : decode cX3_grind 1 = .ok (.invokevirtual 277, 3) := by decide +kernel
theorem dX3_grind_4 : decode cX3_grind 4 = .ok (.iload_n 1, 1) := by decide +kernel
theorem dX3_grind_5 : decode cX3_grind 5 = .ok (.isub, 1) := by decide +kernel
theorem dX3_grind_6 : decode cX3_grind 6 = .ok (.istore_n 2, 1) := by decide +kernel
theorem dX3_grind_7 : decode cX3_grind 7 = .ok (.aload_n 0, 1) := by decide +kernel
theorem dX3_grind_8 : decode cX3_grind 8 = .ok (.getfield 76, 3) := by decide +kernel
theorem dX3_grind_11 : decode cX3_grind 11 = .ok (.aload_n 0, 1) := by decide +kernel
theorem dX3_grind_12 : decode cX3_grind 12 = .ok (.getfield 18, 3) := by decide +kernel
theorem dX3_grind_15 : decode cX3_grind 15 = .ok (.bipush 7, 2) := by decide +kernel
theorem dX3_grind_17 : decode cX3_grind 17 = .ok (.iaload, 1) := by decide +kernel
theorem dX3_grind_18 : decode cX3_grind 18 = .ok (.imul, 1) := by decide +kernel
theorem dX3_grind_19 : decode cX3_grind 19 = .ok (.istore_n 3, 1) := by decide +kernel
theorem dX3_grind_20 : decode cX3_grind 20 = .ok (.aload_n 0, 1) := by decide +kernel
theorem dX3_grind_21 : decode cX3_grind 21 = .ok (.getfield 76, 3) := by decide +kernel
theorem dX3_grind_24 : decode cX3_grind 24 = .ok (.ifCond .eq 26, 3) := by decide +kernel
theorem dX3_grind_27 : decode cX3_grind 27 = .ok (.iload_n 2, 1) := by decide +kernel
theorem dX3_grind_28 : decode cX3_grind 28 = .ok (.ifCond .le 22, 3) := by decide +kernel
theorem dX3_grind_31 : decode cX3_grind 31 = .ok (.iload_n 2, 1) := by decide +kernel
theorem dX3_grind_32 : decode cX3_grind 32 = .ok (.aload_n 0, 1) := by decide +kernel
theorem dX3_grind_33 : decode cX3_grind 33 = .ok (.getfield 18, 3) := by decide +kernel
theorem dX3_grind_36 : decode cX3_grind 36 = .ok (.bipush 6, 2) := by decide +kernel
theorem dX3_grind_38 : decode cX3_grind 38 = .ok (.iaload, 1) := by decide +kernel
theorem dX3_grind_39 : decode cX3_grind 39 = .ok (.if_icmp .lt 11, 3) := by decide +kernel
theorem dX3_grind_42 : decode cX3_grind 42 = .ok (.aload_n 0, 1) := by decide +kernel
theorem dX3_grind_43 : decode cX3_grind 43 = .ok (.getfield 70, 3) := by decide +kernel
theorem dX3_grind_46 : decode cX3_grind 46 = .ok (.iload_n 3, 1) := by decide +kernel
theorem dX3_grind_47 : decode cX3_grind 47 = .ok (.if_icmp .ge 4, 3) := by decide +kernel
theorem dX3_grind_50 : decode cX3_grind 50 = .ok (.return_, 1) := by decide +kernel
theorem dX3_grind_51 : decode cX3_grind 51 = .ok (.aload_n 0, 1) := by decide +kernel
theorem dX3_grind_52 : decode cX3_grind 52 = .ok (.aload_n 0, 1) := by decide +kernel
theorem dX3_grind_53 : decode cX3_grind 53 = .ok (.getfield 47, 3) := by decide +kernel
theorem dX3_grind_56 : decode cX3_grind 56 = .ok (.invokevirtual 149, 3) := by decide +kernel
theorem dX3_grind_59 : decode cX3_grind 59 = .ok (.ifCond .ne 11, 3) := by decide +kernel
theorem dX3_grind_62 : decode cX3_grind 62 = .ok (.aload_n 0, 1) := by decide +kernel
theorem dX3_grind_63 : decode cX3_grind 63 = .ok (.aload_n 0, 1) := by decide +kernel
theorem dX3_grind_64 : decode cX3_grind 64 = .ok (.invokevirtual 283, 3) := by decide +kernel
theorem dX3_grind_67 : decode cX3_grind 67 = .ok (.invokevirtual 286, 3) := by decide +kernel
theorem dX3_grind_70 : decode cX3_grind 70 = .ok (.aload_n 0, 1) := by decide +kernel
theorem dX3_grind_71 : decode cX3_grind 71 = .ok (.aload_n 0, 1) := by decide +kernel
theorem dX3_grind_72 : decode cX3_grind 72 = .ok (.getfield 47, 3) := by decide +kernel
theorem dX3_grind_75 : decode cX3_grind 75 = .ok (.invokevirtual 149, 3) := by decide +kernel
theorem dX3_grind_78 : decode cX3_grind 78 = .ok (.ifCond .eq 42, 3) := by decide +kernel
theorem dX3_grind_81 : decode cX3_grind 81 = .ok (.aload_n 0, 1) := by decide +kernel
theorem dX3_grind_82 : decode cX3_grind 82 = .ok (.dup, 1) := by decide +kernel
theorem dX3_grind_83 : decode cX3_grind 83 = .ok (.getfield 70, 3) := by decide +kernel
theorem dX3_grind_86 : decode cX3_grind 86 = .ok (.iload_n 3, 1) := by decide +kernel
theorem dX3_grind_87 : decode cX3_grind 87 = .ok (.isub, 1) := by decide +kernel
theorem dX3_grind_88 : decode cX3_grind 88 = .ok (.putfield 70, 3) := by decide +kernel
theorem dX3_grind_91 : decode cX3_grind 91 = .ok (.aload_n 0, 1) := by decide +kernel
theorem dX3_grind_92 : decode cX3_grind 92 = .ok (.dup, 1) := by decide +kernel
theorem dX3_grind_93 : decode cX3_grind 93 = .ok (.getfield 85, 3) := by decide +kernel
theorem dX3_grind_96 : decode cX3_grind 96 = .ok (.iload_n 3, 1) := by decide +kernel
theorem dX3_grind_97 : decode cX3_grind 97 = .ok (.iadd, 1) := by decide +kernel
theorem dX3_grind_98 : decode cX3_grind 98 = .ok (.putfield 85, 3) := by decide +kernel
theorem dX3_grind_101 : decode cX3_grind 101 = .ok (.aload_n 0, 1) := by decide +kernel
theorem dX3_grind_102 : decode cX3_grind 102 = .ok (.aload_n 0, 1) := by decide +kernel
theorem dX3_grind_103 : decode cX3_grind 103 = .ok (.getfield 43, 3) := by decide +kernel
theorem dX3_grind_106 : decode cX3_grind 106 = .ok (.aload_n 0, 1) := by decide +kernel
theorem dX3_grind_107 : decode cX3_grind 107 = .ok (.getfield 47, 3) := by decide +kernel
theorem dX3_grind_110 : decode cX3_grind 110 = .ok (.aaload, 1) := by decide +kernel
theorem dX3_grind_111 : decode cX3_grind 111 = .ok (.aload_n 0, 1) := by decide +kernel
theorem dX3_grind_112 : decode cX3_grind 112 = .ok (.getfield 76, 3) := by decide +kernel
theorem dX3_grind_115 : decode cX3_grind 115 = .ok (.iload_n 2, 1) := by decide +kernel
theorem dX3_grind_116 : decode cX3_grind 116 = .ok (.imul, 1) := by decide +kernel
theorem dX3_grind_117 : decode cX3_grind 117 = .ok (.invokevirtual 289, 3) := by decide +kernel
theorem dX3_grind_120 : decode cX3_grind 120 = .ok (.return_, 1) := by decide +kernel
theorem dX3_putOnStones_0 : decode cX3_putOnStones 0 = .ok (.aload_n 0, 1) := by decide +kernel
theorem dX3_putOnStones_1 : decode cX3_putOnStones 1 = .ok (.iload_n 1, 1) := by decide +kernel
theorem dX3_putOnStones_2 : decode cX3_putOnStones 2 = .ok (.invokevirtual 149, 3) := by decide +kernel
theorem dX3_putOnStones_5 : decode cX3_putOnStones 5 = .ok (.ifCond .ne 4, 3) := by decide +kernel
theorem dX3_putOnStones_8 : decode cX3_putOnStones 8 = .ok (.return_, 1) := by decide +kernel
theorem dX3_putOnStones_9 : decode cX3_putOnStones 9 = .ok (.aload_n 0, 1) := by decide +kernel
theorem dX3_putOnStones_10 : decode cX3_putOnStones 10 = .ok (.getfield 43, 3) := by decide +kernel
theorem dX3_putOnStones_13 : decode cX3_putOnStones 13 = .ok (.iload_n 1, 1) := by decide +kernel
theorem dX3_putOnStones_14 : decode cX3_putOnStones 14 = .ok (.aaload, 1) := by decide +kernel
theorem dX3_putOnStones_15 : decode cX3_putOnStones 15 = .ok (.astore_n 2, 1) := by decide +kernel
theorem dX3_putOnStones_16 : decode cX3_putOnStones 16 = .ok (.aload_n 2, 1) := by decide +kernel
theorem dX3_putOnStones_17 : decode cX3_putOnStones 17 = .ok (.iconst 1, 1) := by decide +kernel
theorem dX3_putOnStones_18 : decode cX3_putOnStones 18 = .ok (.putfield 152, 3) := by decide +kernel
theorem dX3_putOnStones_21 : decode cX3_putOnStones 21 = .ok (.aload_n 2, 1) := by decide +kernel
theorem dX3_putOnStones_22 : decode cX3_putOnStones 22 = .ok (.aload_n 0, 1) := by decide +kernel
theorem dX3_putOnStones_23 : decode cX3_putOnStones 23 = .ok (.getfield 18, 3) := by decide +kernel
theorem dX3_putOnStones_26 : decode cX3_putOnStones 26 = .ok (.bipush 8, 2) := by decide +kernel
theorem dX3_putOnStones_28 : decode cX3_putOnStones 28 = .ok (.iaload, 1) := by decide +kernel
theorem dX3_putOnStones_29 : decode cX3_putOnStones 29 = .ok (.putfield 293, 3) := by decide +kernel
theorem dX3_putOnStones_32 : decode cX3_putOnStones 32 = .ok (.aload_n 0, 1) := by decide +kernel
theorem dX3_putOnStones_33 : decode cX3_putOnStones 33 = .ok (.iload_n 1, 1) := by decide +kernel
theorem dX3_putOnStones_34 : decode cX3_putOnStones 34 = .ok (.putfield 47, 3) := by decide +kernel
theorem dX3_putOnStones_37 : decode cX3_putOnStones 37 = .ok (.aload_n 0, 1) := by decide +kernel
theorem dX3_putOnStones_38 : decode cX3_putOnStones 38 = .ok (.aload_n 2, 1) := by decide +kernel
theorem dX3_putOnStones_39 : decode cX3_putOnStones 39 = .ok (.getfield 206, 3) := by decide +kernel
theorem dX3_putOnStones_42 : decode cX3_putOnStones 42 = .ok (.putfield 51, 3) := by decide +kernel
theorem dX3_putOnStones_45 : decode cX3_putOnStones 45 = .ok (.aload_n 0, 1) := by decide +kernel
theorem dX3_putOnStones_46 : decode cX3_putOnStones 46 = .ok (.aload_n 2, 1) := by decide +kernel
theorem dX3_putOnStones_47 : decode cX3_putOnStones 47 = .ok (.getfield 203, 3) := by decide +kernel
theorem dX3_putOnStones_50 : decode cX3_putOnStones 50 = .ok (.invokevirtual 138, 3) := by decide +kernel
theorem dX3_putOnStones_53 : decode cX3_putOnStones 53 = .ok (.ifCond .eq 21, 3) := by decide +kernel
theorem dX3_putOnStones_56 : decode cX3_putOnStones 56 = .ok (.aload_n 0, 1) := by decide +kernel
theorem dX3_putOnStones_57 : decode cX3_putOnStones 57 = .ok (.getfield 37, 3) := by decide +kernel
theorem dX3_putOnStones_60 : decode cX3_putOnStones 60 = .ok (.aload_n 2, 1) := by decide +kernel
theorem dX3_putOnStones_61 : decode cX3_putOnStones 61 = .ok (.getfield 203, 3) := by decide +kernel
theorem dX3_putOnStones_64 : decode cX3_putOnStones 64 = .ok (.aaload, 1) := by decide +kernel
theorem dX3_putOnStones_65 : decode cX3_putOnStones 65 = .ok (.dup, 1) := by decide +kernel
theorem dX3_putOnStones_66 : decode cX3_putOnStones 66 = .ok (.getfield 135, 3) := by decide +kernel
theorem dX3_putOnStones_69 : decode cX3_putOnStones 69 = .ok (.iconst 1, 1) := by decide +kernel
theorem dX3_putOnStones_70 : decode cX3_putOnStones 70 = .ok (.iadd, 1) := by decide +kernel
theorem dX3_putOnStones_71 : decode cX3_putOnStones 71 = .ok (.putfield 135, 3) := by decide +kernel
theorem dX3_putOnStones_74 : decode cX3_putOnStones 74 = .ok (.return_, 1) := by decide +kernel
theorem dX3_grindSack_0 : decode cX3_grindSack 0 = .ok (.iload_n 2, 1) := by decide +kernel
theorem dX3_grindSack_1 : decode cX3_grindSack 1 = .ok (.aload_n 1, 1) := by decide +kernel
theorem dX3_grindSack_2 : decode cX3_grindSack 2 = .ok (.getfield 209, 3) := by decide +kernel
theorem dX3_grindSack_5 : decode cX3_grindSack 5 = .ok (.invokestatic 269, 3) := by decide +kernel
theorem dX3_grindSack_8 : decode cX3_grindSack 8 = .ok (.iconst 1, 1) := by decide +kernel
theorem dX3_grindSack_9 : decode cX3_grindSack 9 = .ok (.invokestatic 296, 3) := by decide +kernel
theorem dX3_grindSack_12 : decode cX3_grindSack 12 = .ok (.aload_n 1, 1) := by decide +kernel
theorem dX3_grindSack_13 : decode cX3_grindSack 13 = .ok (.invokevirtual 156, 3) := by decide +kernel
theorem dX3_grindSack_16 : decode cX3_grindSack 16 = .ok (.invokestatic 280, 3) := by decide +kernel
theorem dX3_grindSack_19 : decode cX3_grindSack 19 = .ok (.istore_n 3, 1) := by decide +kernel
theorem dX3_grindSack_20 : decode cX3_grindSack 20 = .ok (.aload_n 1, 1) := by decide +kernel
theorem dX3_grindSack_21 : decode cX3_grindSack 21 = .ok (.iload_n 3, 1) := by decide +kernel
theorem dX3_grindSack_22 : decode cX3_grindSack 22 = .ok (.invokevirtual 299, 3) := by decide +kernel
theorem dX3_grindSack_25 : decode cX3_grindSack 25 = .ok (.aload_n 0, 1) := by decide +kernel
theorem dX3_grindSack_26 : decode cX3_grindSack 26 = .ok (.dup, 1) := by decide +kernel
theorem dX3_grindSack_27 : decode cX3_grindSack 27 = .ok (.getfield 88, 3) := by decide +kernel
theorem dX3_grindSack_30 : decode cX3_grindSack 30 = .ok (.iload_n 3, 1) := by decide +kernel
theorem dX3_grindSack_31 : decode cX3_grindSack 31 = .ok (.iadd, 1) := by decide +kernel
theorem dX3_grindSack_32 : decode cX3_grindSack 32 = .ok (.putfield 88, 3) := by decide +kernel
theorem dX3_grindSack_35 : decode cX3_grindSack 35 = .ok (.aload_n 1, 1) := by decide +kernel
theorem dX3_grindSack_36 : decode cX3_grindSack 36 = .ok (.getfield 152, 3) := by decide +kernel
theorem dX3_grindSack_39 : decode cX3_grindSack 39 = .ok (.iconst 2, 1) := by decide +kernel
theorem dX3_grindSack_40 : decode cX3_grindSack 40 = .ok (.if_icmp .ne 8, 3) := by decide +kernel
theorem dX3_grindSack_43 : decode cX3_grindSack 43 = .ok (.aload_n 0, 1) := by decide +kernel
theorem dX3_grindSack_44 : decode cX3_grindSack 44 = .ok (.iconst (-1), 1) := by decide +kernel
theorem dX3_grindSack_45 : decode cX3_grindSack 45 = .ok (.putfield 47, 3) := by decide +kernel
theorem dX3_grindSack_48 : decode cX3_grindSack 48 = .ok (.return_, 1) := by decide +kernel
theorem dX3_tellPond_0 : decode cX3_tellPond 0 = .ok (.iload_n 1, 1) := by decide +kernel
theorem dX3_tellPond_1 : decode cX3_tellPond 1 = .ok (.tableswitch 140 0 10 #[59, 64, 69, 78, 92, 97, 102, 120, 125, 130, 135], 59) := by decide +kernel
theorem dX3_tellPond_60 : decode cX3_tellPond 60 = .ok (.aload_n 0, 1) := by decide +kernel
theorem dX3_tellPond_61 : decode cX3_tellPond 61 = .ok (.getfield 70, 3) := by decide +kernel
theorem dX3_tellPond_64 : decode cX3_tellPond 64 = .ok (.ireturn, 1) := by decide +kernel
theorem dX3_tellPond_65 : decode cX3_tellPond 65 = .ok (.aload_n 0, 1) := by decide +kernel
theorem dX3_tellPond_66 : decode cX3_tellPond 66 = .ok (.invokevirtual 277, 3) := by decide +kernel
theorem dX3_tellPond_69 : decode cX3_tellPond 69 = .ok (.ireturn, 1) := by decide +kernel
theorem dX3_tellPond_70 : decode cX3_tellPond 70 = .ok (.aload_n 0, 1) := by decide +kernel
theorem dX3_tellPond_71 : decode cX3_tellPond 71 = .ok (.aload_n 0, 1) := by decide +kernel
theorem dX3_tellPond_72 : decode cX3_tellPond 72 = .ok (.getfield 67, 3) := by decide +kernel
theorem dX3_tellPond_75 : decode cX3_tellPond 75 = .ok (.invokevirtual 256, 3) := by decide +kernel
theorem dX3_tellPond_78 : decode cX3_tellPond 78 = .ok (.ireturn, 1) := by decide +kernel
theorem dX3_tellPond_79 : decode cX3_tellPond 79 = .ok (.aload_n 0, 1) := by decide +kernel
theorem dX3_tellPond_80 : decode cX3_tellPond 80 = .ok (.invokevirtual 277, 3) := by decide +kernel
theorem dX3_tellPond_83 : decode cX3_tellPond 83 = .ok (.aload_n 0, 1) := by decide +kernel
theorem dX3_tellPond_84 : decode cX3_tellPond 84 = .ok (.aload_n 0, 1) := by decide +kernel
theorem dX3_tellPond_85 : decode cX3_tellPond 85 = .ok (.getfield 67, 3) := by decide +kernel
theorem dX3_tellPond_88 : decode cX3_tellPond 88 = .ok (.invokevirtual 256, 3) := by decide +kernel
theorem dX3_tellPond_91 : decode cX3_tellPond 91 = .ok (.isub, 1) := by decide +kernel
theorem dX3_tellPond_92 : decode cX3_tellPond 92 = .ok (.ireturn, 1) := by decide +kernel
theorem dX3_tellPond_93 : decode cX3_tellPond 93 = .ok (.aload_n 0, 1) := by decide +kernel
theorem dX3_tellPond_94 : decode cX3_tellPond 94 = .ok (.getfield 76, 3) := by decide +kernel
theorem dX3_tellPond_97 : decode cX3_tellPond 97 = .ok (.ireturn, 1) := by decide +kernel
theorem dX3_tellPond_98 : decode cX3_tellPond 98 = .ok (.aload_n 0, 1) := by decide +kernel
theorem dX3_tellPond_99 : decode cX3_tellPond 99 = .ok (.getfield 73, 3) := by decide +kernel
theorem dX3_tellPond_102 : decode cX3_tellPond 102 = .ok (.ireturn, 1) := by decide +kernel
theorem dX3_tellPond_103 : decode cX3_tellPond 103 = .ok (.aload_n 0, 1) := by decide +kernel
theorem dX3_tellPond_104 : decode cX3_tellPond 104 = .ok (.getfield 47, 3) := by decide +kernel
theorem dX3_tellPond_107 : decode cX3_tellPond 107 = .ok (.iconst (-1), 1) := by decide +kernel
theorem dX3_tellPond_108 : decode cX3_tellPond 108 = .ok (.if_icmp .ne 8, 3) := by decide +kernel
theorem dX3_tellPond_111 : decode cX3_tellPond 111 = .ok (.ldc 189, 2) := by decide +kernel
theorem dX3_tellPond_113 : decode cX3_tellPond 113 = .ok (.goto 7, 3) := by decide +kernel
theorem dX3_tellPond_116 : decode cX3_tellPond 116 = .ok (.aload_n 0, 1) := by decide +kernel
theorem dX3_tellPond_117 : decode cX3_tellPond 117 = .ok (.getfield 47, 3) := by decide +kernel
theorem dX3_tellPond_120 : decode cX3_tellPond 120 = .ok (.ireturn, 1) := by decide +kernel
theorem dX3_tellPond_121 : decode cX3_tellPond 121 = .ok (.aload_n 0, 1) := by decide +kernel
theorem dX3_tellPond_122 : decode cX3_tellPond 122 = .ok (.getfield 79, 3) := by decide +kernel
theorem dX3_tellPond_125 : decode cX3_tellPond 125 = .ok (.ireturn, 1) := by decide +kernel
theorem dX3_tellPond_126 : decode cX3_tellPond 126 = .ok (.aload_n 0, 1) := by decide +kernel
theorem dX3_tellPond_127 : decode cX3_tellPond 127 = .ok (.getfield 82, 3) := by decide +kernel
theorem dX3_tellPond_130 : decode cX3_tellPond 130 = .ok (.ireturn, 1) := by decide +kernel
theorem dX3_tellPond_131 : decode cX3_tellPond 131 = .ok (.aload_n 0, 1) := by decide +kernel
theorem dX3_tellPond_132 : decode cX3_tellPond 132 = .ok (.getfield 85, 3) := by decide +kernel
theorem dX3_tellPond_135 : decode cX3_tellPond 135 = .ok (.ireturn, 1) := by decide +kernel
theorem dX3_tellPond_136 : decode cX3_tellPond 136 = .ok (.aload_n 0, 1) := by decide +kernel
theorem dX3_tellPond_137 : decode cX3_tellPond 137 = .ok (.getfield 88, 3) := by decide +kernel
theorem dX3_tellPond_140 : decode cX3_tellPond 140 = .ok (.ireturn, 1) := by decide +kernel
theorem dX3_tellPond_141 : decode cX3_tellPond 141 = .ok (.iload_n 1, 1) := by decide +kernel
theorem dX3_tellPond_142 : decode cX3_tellPond 142 = .ok (.bipush 11, 2) := by decide +kernel
theorem dX3_tellPond_144 : decode cX3_tellPond 144 = .ok (.bipush 14, 2) := by decide +kernel
theorem dX3_tellPond_146 : decode cX3_tellPond 146 = .ok (.invokestatic 110, 3) := by decide +kernel
theorem dX3_tellPond_149 : decode cX3_tellPond 149 = .ok (.ifCond .eq 15, 3) := by decide +kernel
theorem dX3_tellPond_152 : decode cX3_tellPond 152 = .ok (.aload_n 0, 1) := by decide +kernel
theorem dX3_tellPond_153 : decode cX3_tellPond 153 = .ok (.getfield 26, 3) := by decide +kernel
theorem dX3_tellPond_156 : decode cX3_tellPond 156 = .ok (.iload_n 1, 1) := by decide +kernel
theorem dX3_tellPond_157 : decode cX3_tellPond 157 = .ok (.bipush 11, 2) := by decide +kernel
theorem dX3_tellPond_159 : decode cX3_tellPond 159 = .ok (.isub, 1) := by decide +kernel
theorem dX3_tellPond_160 : decode cX3_tellPond 160 = .ok (.iaload, 1) := by decide +kernel
theorem dX3_tellPond_161 : decode cX3_tellPond 161 = .ok (.goto 5, 3) := by decide +kernel
theorem dX3_tellPond_164 : decode cX3_tellPond 164 = .ok (.ldc 120, 2) := by decide +kernel
theorem dX3_tellPond_166 : decode cX3_tellPond 166 = .ok (.ireturn, 1) := by decide +kernel
theorem dX3_countOf_0 : decode cX3_countOf 0 = .ok (.iload_n 1, 1) := by decide +kernel
theorem dX3_countOf_1 : decode cX3_countOf 1 = .ok (.tableswitch 100 0 8 #[51, 56, 61, 66, 72, 78, 84, 90, 95], 51) := by decide +kernel
theorem dX3_countOf_52 : decode cX3_countOf 52 = .ok (.aload_n 0, 1) := by decide +kernel
theorem dX3_countOf_53 : decode cX3_countOf 53 = .ok (.getfield 91, 3) := by decide +kernel
theorem dX3_countOf_56 : decode cX3_countOf 56 = .ok (.ireturn, 1) := by decide +kernel
theorem dX3_countOf_57 : decode cX3_countOf 57 = .ok (.aload_n 0, 1) := by decide +kernel
theorem dX3_countOf_58 : decode cX3_countOf 58 = .ok (.getfield 94, 3) := by decide +kernel
theorem dX3_countOf_61 : decode cX3_countOf 61 = .ok (.ireturn, 1) := by decide +kernel
theorem dX3_countOf_62 : decode cX3_countOf 62 = .ok (.aload_n 0, 1) := by decide +kernel
theorem dX3_countOf_63 : decode cX3_countOf 63 = .ok (.getfield 97, 3) := by decide +kernel
theorem dX3_countOf_66 : decode cX3_countOf 66 = .ok (.ireturn, 1) := by decide +kernel
theorem dX3_countOf_67 : decode cX3_countOf 67 = .ok (.aload_n 0, 1) := by decide +kernel
theorem dX3_countOf_68 : decode cX3_countOf 68 = .ok (.iconst 0, 1) := by decide +kernel
theorem dX3_countOf_69 : decode cX3_countOf 69 = .ok (.invokevirtual 302, 3) := by decide +kernel
theorem dX3_countOf_72 : decode cX3_countOf 72 = .ok (.ireturn, 1) := by decide +kernel
theorem dX3_countOf_73 : decode cX3_countOf 73 = .ok (.aload_n 0, 1) := by decide +kernel
theorem dX3_countOf_74 : decode cX3_countOf 74 = .ok (.iconst 2, 1) := by decide +kernel
theorem dX3_countOf_75 : decode cX3_countOf 75 = .ok (.invokevirtual 302, 3) := by decide +kernel
theorem dX3_countOf_78 : decode cX3_countOf 78 = .ok (.ireturn, 1) := by decide +kernel
theorem dX3_countOf_79 : decode cX3_countOf 79 = .ok (.aload_n 0, 1) := by decide +kernel
theorem dX3_countOf_80 : decode cX3_countOf 80 = .ok (.iconst 3, 1) := by decide +kernel
theorem dX3_countOf_81 : decode cX3_countOf 81 = .ok (.invokevirtual 302, 3) := by decide +kernel
theorem dX3_countOf_84 : decode cX3_countOf 84 = .ok (.ireturn, 1) := by decide +kernel
theorem dX3_countOf_85 : decode cX3_countOf 85 = .ok (.aload_n 0, 1) := by decide +kernel
theorem dX3_countOf_86 : decode cX3_countOf 86 = .ok (.iconst (-1), 1) := by decide +kernel
theorem dX3_countOf_87 : decode cX3_countOf 87 = .ok (.invokevirtual 178, 3) := by decide +kernel
theorem dX3_countOf_90 : decode cX3_countOf 90 = .ok (.ireturn, 1) := by decide +kernel
theorem dX3_countOf_91 : decode cX3_countOf 91 = .ok (.aload_n 0, 1) := by decide +kernel
theorem dX3_countOf_92 : decode cX3_countOf 92 = .ok (.getfield 67, 3) := by decide +kernel
theorem dX3_countOf_95 : decode cX3_countOf 95 = .ok (.ireturn, 1) := by decide +kernel
theorem dX3_countOf_96 : decode cX3_countOf 96 = .ok (.aload_n 0, 1) := by decide +kernel
theorem dX3_countOf_97 : decode cX3_countOf 97 = .ok (.invokevirtual 223, 3) := by decide +kernel
theorem dX3_countOf_100 : decode cX3_countOf 100 = .ok (.ireturn, 1) := by decide +kernel
theorem dX3_countOf_101 : decode cX3_countOf 101 = .ok (.ldc 120, 2) := by decide +kernel
theorem dX3_countOf_103 : decode cX3_countOf 103 = .ok (.ireturn, 1) := by decide +kernel
