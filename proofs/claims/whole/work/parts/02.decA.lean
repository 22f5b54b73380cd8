theorem dX0_init_0 : decode cX0_init 0 = .ok (.aload_n 0, 1) := by decide +kernel
theorem dX0_init_1 : decode cX0_init 1 = .ok (.invokespecial 1, 3) := by decide +kernel
theorem dX0_init_4 : decode cX0_init 4 = .ok (.return_, 1) := by decide +kernel
theorem dX0_takeFrom_0 : decode cX0_takeFrom 0 = .ok (.aload_n 0, 1) := by decide +kernel
theorem dX0_takeFrom_1 : decode cX0_takeFrom 1 = .ok (.aload_n 1, 1) := by decide +kernel
theorem dX0_takeFrom_2 : decode cX0_takeFrom 2 = .ok (.getfield 7, 3) := by decide +kernel
theorem dX0_takeFrom_5 : decode cX0_takeFrom 5 = .ok (.putfield 7, 3) := by decide +kernel
theorem dX0_takeFrom_8 : decode cX0_takeFrom 8 = .ok (.aload_n 0, 1) := by decide +kernel
theorem dX0_takeFrom_9 : decode cX0_takeFrom 9 = .ok (.aload_n 1, 1) := by decide +kernel
theorem dX0_takeFrom_10 : decode cX0_takeFrom 10 = .ok (.getfield 13, 3) := by decide +kernel
theorem dX0_takeFrom_13 : decode cX0_takeFrom 13 = .ok (.putfield 13, 3) := by decide +kernel
theorem dX0_takeFrom_16 : decode cX0_takeFrom 16 = .ok (.return_, 1) := by decide +kernel
theorem dX1_init_0 : decode cX1_init 0 = .ok (.aload_n 0, 1) := by decide +kernel
theorem dX1_init_1 : decode cX1_init 1 = .ok (.invokespecial 3, 3) := by decide +kernel
theorem dX1_init_4 : decode cX1_init 4 = .ok (.aload_n 0, 1) := by decide +kernel
theorem dX1_init_5 : decode cX1_init 5 = .ok (.iconst 5, 1) := by decide +kernel
theorem dX1_init_6 : decode cX1_init 6 = .ok (.anewarray 9, 3) := by decide +kernel
theorem dX1_init_9 : decode cX1_init 9 = .ok (.putfield 11, 3) := by decide +kernel
theorem dX1_init_12 : decode cX1_init 12 = .ok (.iconst 0, 1) := by decide +kernel
theorem dX1_init_13 : decode cX1_init 13 = .ok (.istore_n 1, 1) := by decide +kernel
theorem dX1_init_14 : decode cX1_init 14 = .ok (.iload_n 1, 1) := by decide +kernel
theorem dX1_init_15 : decode cX1_init 15 = .ok (.iconst 4, 1) := by decide +kernel
theorem dX1_init_16 : decode cX1_init 16 = .ok (.if_icmp .gt 22, 3) := by decide +kernel
theorem dX1_init_19 : decode cX1_init 19 = .ok (.aload_n 0, 1) := by decide +kernel
theorem dX1_init_20 : decode cX1_init 20 = .ok (.getfield 11, 3) := by decide +kernel
theorem dX1_init_23 : decode cX1_init 23 = .ok (.iload_n 1, 1) := by decide +kernel
theorem dX1_init_24 : decode cX1_init 24 = .ok (.new 9, 3) := by decide +kernel
theorem dX1_init_27 : decode cX1_init 27 = .ok (.dup, 1) := by decide +kernel
theorem dX1_init_28 : decode cX1_init 28 = .ok (.invokespecial 17, 3) := by decide +kernel
theorem dX1_init_31 : decode cX1_init 31 = .ok (.aastore, 1) := by decide +kernel
theorem dX1_init_32 : decode cX1_init 32 = .ok (.iinc 1 1, 3) := by decide +kernel
theorem dX1_init_35 : decode cX1_init 35 = .ok (.goto (-21), 3) := by decide +kernel
theorem dX1_init_38 : decode cX1_init 38 = .ok (.return_, 1) := by decide +kernel
theorem dX1_hold_0 : decode cX1_hold 0 = .ok (.aload_n 0, 1) := by decide +kernel
theorem dX1_hold_1 : decode cX1_hold 1 = .ok (.getfield 11, 3) := by decide +kernel
theorem dX1_hold_4 : decode cX1_hold 4 = .ok (.aload_n 0, 1) := by decide +kernel
theorem dX1_hold_5 : decode cX1_hold 5 = .ok (.getfield 18, 3) := by decide +kernel
theorem dX1_hold_8 : decode cX1_hold 8 = .ok (.aload_n 0, 1) := by decide +kernel
theorem dX1_hold_9 : decode cX1_hold 9 = .ok (.getfield 22, 3) := by decide +kernel
theorem dX1_hold_12 : decode cX1_hold 12 = .ok (.iadd, 1) := by decide +kernel
theorem dX1_hold_13 : decode cX1_hold 13 = .ok (.iconst 5, 1) := by decide +kernel
theorem dX1_hold_14 : decode cX1_hold 14 = .ok (.irem, 1) := by decide +kernel
theorem dX1_hold_15 : decode cX1_hold 15 = .ok (.aaload, 1) := by decide +kernel
theorem dX1_hold_16 : decode cX1_hold 16 = .ok (.aload_n 1, 1) := by decide +kernel
theorem dX1_hold_17 : decode cX1_hold 17 = .ok (.invokevirtual 25, 3) := by decide +kernel
theorem dX1_hold_20 : decode cX1_hold 20 = .ok (.return_, 1) := by decide +kernel
theorem dX1_keepIfDone_0 : decode cX1_keepIfDone 0 = .ok (.iload_n 1, 1) := by decide +kernel
theorem dX1_keepIfDone_1 : decode cX1_keepIfDone 1 = .ok (.ifCond .lt 36, 3) := by decide +kernel
theorem dX1_keepIfDone_4 : decode cX1_keepIfDone 4 = .ok (.aload_n 0, 1) := by decide +kernel
theorem dX1_keepIfDone_5 : decode cX1_keepIfDone 5 = .ok (.getfield 22, 3) := by decide +kernel
theorem dX1_keepIfDone_8 : decode cX1_keepIfDone 8 = .ok (.iconst 4, 1) := by decide +kernel
theorem dX1_keepIfDone_9 : decode cX1_keepIfDone 9 = .ok (.if_icmp .ge 16, 3) := by decide +kernel
theorem dX1_keepIfDone_12 : decode cX1_keepIfDone 12 = .ok (.aload_n 0, 1) := by decide +kernel
theorem dX1_keepIfDone_13 : decode cX1_keepIfDone 13 = .ok (.dup, 1) := by decide +kernel
theorem dX1_keepIfDone_14 : decode cX1_keepIfDone 14 = .ok (.getfield 22, 3) := by decide +kernel
theorem dX1_keepIfDone_17 : decode cX1_keepIfDone 17 = .ok (.iconst 1, 1) := by decide +kernel
theorem dX1_keepIfDone_18 : decode cX1_keepIfDone 18 = .ok (.iadd, 1) := by decide +kernel
theorem dX1_keepIfDone_19 : decode cX1_keepIfDone 19 = .ok (.putfield 22, 3) := by decide +kernel
theorem dX1_keepIfDone_22 : decode cX1_keepIfDone 22 = .ok (.goto 15, 3) := by decide +kernel
theorem dX1_keepIfDone_25 : decode cX1_keepIfDone 25 = .ok (.aload_n 0, 1) := by decide +kernel
theorem dX1_keepIfDone_26 : decode cX1_keepIfDone 26 = .ok (.aload_n 0, 1) := by decide +kernel
theorem dX1_keepIfDone_27 : decode cX1_keepIfDone 27 = .ok (.getfield 18, 3) := by decide +kernel
theorem dX1_keepIfDone_30 : decode cX1_keepIfDone 30 = .ok (.iconst 1, 1) := by decide +kernel
theorem dX1_keepIfDone_31 : decode cX1_keepIfDone 31 = .ok (.iadd, 1) := by decide +kernel
theorem dX1_keepIfDone_32 : decode cX1_keepIfDone 32 = .ok (.iconst 5, 1) := by decide +kernel
theorem dX1_keepIfDone_33 : decode cX1_keepIfDone 33 = .ok (.irem, 1) := by decide +kernel
theorem dX1_keepIfDone_34 : decode cX1_keepIfDone 34 = .ok (.putfield 18, 3) := by decide +kernel
theorem dX1_keepIfDone_37 : decode cX1_keepIfDone 37 = .ok (.iload_n 1, 1) := by decide +kernel
theorem dX1_keepIfDone_38 : decode cX1_keepIfDone 38 = .ok (.ireturn, 1) := by decide +kernel
theorem dX1_restore_0 : decode cX1_restore 0 = .ok (.aload_n 0, 1) := by decide +kernel
theorem dX1_restore_1 : decode cX1_restore 1 = .ok (.getfield 22, 3) := by decide +kernel
theorem dX1_restore_4 : decode cX1_restore 4 = .ok (.ifCond .ne 6, 3) := by decide +kernel
theorem dX1_restore_7 : decode cX1_restore 7 = .ok (.ldc 29, 2) := by decide +kernel
theorem dX1_restore_9 : decode cX1_restore 9 = .ok (.ireturn, 1) := by decide +kernel
theorem dX1_restore_10 : decode cX1_restore 10 = .ok (.aload_n 0, 1) := by decide +kernel
theorem dX1_restore_11 : decode cX1_restore 11 = .ok (.dup, 1) := by decide +kernel
theorem dX1_restore_12 : decode cX1_restore 12 = .ok (.getfield 22, 3) := by decide +kernel
theorem dX1_restore_15 : decode cX1_restore 15 = .ok (.iconst 1, 1) := by decide +kernel
theorem dX1_restore_16 : decode cX1_restore 16 = .ok (.isub, 1) := by decide +kernel
theorem dX1_restore_17 : decode cX1_restore 17 = .ok (.putfield 22, 3) := by decide +kernel
theorem dX1_restore_20 : decode cX1_restore 20 = .ok (.aload_n 1, 1) := by decide +kernel
theorem dX1_restore_21 : decode cX1_restore 21 = .ok (.aload_n 0, 1) := by decide +kernel
theorem dX1_restore_22 : decode cX1_restore 22 = .ok (.getfield 11, 3) := by decide +kernel
theorem dX1_restore_25 : decode cX1_restore 25 = .ok (.aload_n 0, 1) := by decide +kernel
theorem dX1_restore_26 : decode cX1_restore 26 = .ok (.getfield 18, 3) := by decide +kernel
theorem dX1_restore_29 : decode cX1_restore 29 = .ok (.aload_n 0, 1) := by decide +kernel
theorem dX1_restore_30 : decode cX1_restore 30 = .ok (.getfield 22, 3) := by decide +kernel
theorem dX1_restore_33 : decode cX1_restore 33 = .ok (.iadd, 1) := by decide +kernel
theorem dX1_restore_34 : decode cX1_restore 34 = .ok (.iconst 5, 1) := by decide +kernel
theorem dX1_restore_35 : decode cX1_restore 35 = .ok (.irem, 1) := by decide +kernel
theorem dX1_restore_36 : decode cX1_restore 36 = .ok (.aaload, 1) := by decide +kernel
theorem dX1_restore_37 : decode cX1_restore 37 = .ok (.invokevirtual 25, 3) := by decide +kernel
theorem dX1_restore_40 : decode cX1_restore 40 = .ok (.aload_n 0, 1) := by decide +kernel
theorem dX1_restore_41 : decode cX1_restore 41 = .ok (.getfield 22, 3) := by decide +kernel
theorem dX1_restore_44 : decode cX1_restore 44 = .ok (.ireturn, 1) := by decide +kernel
theorem dX2_init_0 : decode cX2_init 0 = .ok (.aload_n 0, 1) := by decide +kernel
theorem dX2_init_1 : decode cX2_init 1 = .ok (.invokespecial 1, 3) := by decide +kernel
theorem dX2_init_4 : decode cX2_init 4 = .ok (.return_, 1) := by decide +kernel
theorem dX2_takeFrom_0 : decode cX2_takeFrom 0 = .ok (.aload_n 0, 1) := by decide +kernel
theorem dX2_takeFrom_1 : decode cX2_takeFrom 1 = .ok (.aload_n 1, 1) := by decide +kernel
theorem dX2_takeFrom_2 : decode cX2_takeFrom 2 = .ok (.getfield 7, 3) := by decide +kernel
theorem dX2_takeFrom_5 : decode cX2_takeFrom 5 = .ok (.putfield 7, 3) := by decide +kernel
theorem dX2_takeFrom_8 : decode cX2_takeFrom 8 = .ok (.aload_n 0, 1) := by decide +kernel
theorem dX2_takeFrom_9 : decode cX2_takeFrom 9 = .ok (.aload_n 1, 1) := by decide +kernel
theorem dX2_takeFrom_10 : decode cX2_takeFrom 10 = .ok (.getfield 13, 3) := by decide +kernel
theorem dX2_takeFrom_13 : decode cX2_takeFrom 13 = .ok (.putfield 13, 3) := by decide +kernel
theorem dX2_takeFrom_16 : decode cX2_takeFrom 16 = .ok (.aload_n 0, 1) := by decide +kernel
theorem dX2_takeFrom_17 : decode cX2_takeFrom 17 = .ok (.aload_n 1, 1) := by decide +kernel
theorem dX2_takeFrom_18 : decode cX2_takeFrom 18 = .ok (.getfield 16, 3) := by decide +kernel
theorem dX2_takeFrom_21 : decode cX2_takeFrom 21 = .ok (.putfield 16, 3) := by decide +kernel
theorem dX2_takeFrom_24 : decode cX2_takeFrom 24 = .ok (.return_, 1) := by decide +kernel
theorem dX3_init_0 : decode cX3_init 0 = .ok (.aload_n 0, 1) := by decide +kernel
theorem dX3_init_1 : decode cX3_init 1 = .ok (.invokespecial 3, 3) := by decide +kernel
theorem dX3_init_4 : decode cX3_init 4 = .ok (.aload_n 0, 1) := by decide +kernel
theorem dX3_init_5 : decode cX3_init 5 = .ok (.getstatic 9, 3) := by decide +kernel
theorem dX3_init_8 : decode cX3_init 8 = .ok (.invokevirtual 13, 3) := by decide +kernel
theorem dX3_init_11 : decode cX3_init 11 = .ok (.checkcast 14, 3) := by decide +kernel
theorem dX3_init_14 : decode cX3_init 14 = .ok (.putfield 18, 3) := by decide +kernel
theorem dX3_init_17 : decode cX3_init 17 = .ok (.aload_n 0, 1) := by decide +kernel
theorem dX3_init_18 : decode cX3_init 18 = .ok (.getstatic 23, 3) := by decide +kernel
theorem dX3_init_21 : decode cX3_init 21 = .ok (.invokevirtual 13, 3) := by decide +kernel
theorem dX3_init_24 : decode cX3_init 24 = .ok (.checkcast 14, 3) := by decide +kernel
theorem dX3_init_27 : decode cX3_init 27 = .ok (.putfield 26, 3) := by decide +kernel
theorem dX3_init_30 : decode cX3_init 30 = .ok (.aload_n 0, 1) := by decide +kernel
theorem dX3_init_31 : decode cX3_init 31 = .ok (.bipush 6, 2) := by decide +kernel
theorem dX3_init_33 : decode cX3_init 33 = .ok (.anewarray 29, 3) := by decide +kernel
theorem dX3_init_36 : decode cX3_init 36 = .ok (.putfield 31, 3) := by decide +kernel
theorem dX3_init_39 : decode cX3_init 39 = .ok (.aload_n 0, 1) := by decide +kernel
theorem dX3_init_40 : decode cX3_init 40 = .ok (.bipush 8, 2) := by decide +kernel
theorem dX3_init_42 : decode cX3_init 42 = .ok (.anewarray 35, 3) := by decide +kernel
theorem dX3_init_45 : decode cX3_init 45 = .ok (.putfield 37, 3) := by decide +kernel
theorem dX3_init_48 : decode cX3_init 48 = .ok (.aload_n 0, 1) := by decide +kernel
theorem dX3_init_49 : decode cX3_init 49 = .ok (.bipush 24, 2) := by decide +kernel
theorem dX3_init_51 : decode cX3_init 51 = .ok (.anewarray 41, 3) := by decide +kernel
theorem dX3_init_54 : decode cX3_init 54 = .ok (.putfield 43, 3) := by decide +kernel
theorem dX3_init_57 : decode cX3_init 57 = .ok (.aload_n 0, 1) := by decide +kernel
theorem dX3_init_58 : decode cX3_init 58 = .ok (.iconst (-1), 1) := by decide +kernel
theorem dX3_init_59 : decode cX3_init 59 = .ok (.putfield 47, 3) := by decide +kernel
theorem dX3_init_62 : decode cX3_init 62 = .ok (.aload_n 0, 1) := by decide +kernel
theorem dX3_init_63 : decode cX3_init 63 = .ok (.iconst (-1), 1) := by decide +kernel
theorem dX3_init_64 : decode cX3_init 64 = .ok (.putfield 51, 3) := by decide +kernel
theorem dX3_init_67 : decode cX3_init 67 = .ok (.iconst 0, 1) := by decide +kernel
theorem dX3_init_68 : decode cX3_init 68 = .ok (.istore_n 1, 1) := by decide +kernel
theorem dX3_init_69 : decode cX3_init 69 = .ok (.iload_n 1, 1) := by decide +kernel
theorem dX3_init_70 : decode cX3_init 70 = .ok (.bipush 6, 2) := by decide +kernel
theorem dX3_init_72 : decode cX3_init 72 = .ok (.if_icmp .ge 22, 3) := by decide +kernel
theorem dX3_init_75 : decode cX3_init 75 = .ok (.aload_n 0, 1) := by decide +kernel
theorem dX3_init_76 : decode cX3_init 76 = .ok (.getfield 31, 3) := by decide +kernel
theorem dX3_init_79 : decode cX3_init 79 = .ok (.iload_n 1, 1) := by decide +kernel
theorem dX3_init_80 : decode cX3_init 80 = .ok (.new 29, 3) := by decide +kernel
theorem dX3_init_83 : decode cX3_init 83 = .ok (.dup, 1) := by decide +kernel
theorem dX3_init_84 : decode cX3_init 84 = .ok (.invokespecial 54, 3) := by decide +kernel
theorem dX3_init_87 : decode cX3_init 87 = .ok (.aastore, 1) := by decide +kernel
theorem dX3_init_88 : decode cX3_init 88 = .ok (.iinc 1 1, 3) := by decide +kernel
theorem dX3_init_91 : decode cX3_init 91 = .ok (.goto (-22), 3) := by decide +kernel
theorem dX3_init_94 : decode cX3_init 94 = .ok (.iconst 0, 1) := by decide +kernel
theorem dX3_init_95 : decode cX3_init 95 = .ok (.istore_n 1, 1) := by decide +kernel
theorem dX3_init_96 : decode cX3_init 96 = .ok (.iload_n 1, 1) := by decide +kernel
theorem dX3_init_97 : decode cX3_init 97 = .ok (.bipush 8, 2) := by decide +kernel
theorem dX3_init_99 : decode cX3_init 99 = .ok (.if_icmp .ge 22, 3) := by decide +kernel
theorem dX3_init_102 : decode cX3_init 102 = .ok (.aload_n 0, 1) := by decide +kernel
theorem dX3_init_103 : decode cX3_init 103 = .ok (.getfield 37, 3) := by decide +kernel
theorem dX3_init_106 : decode cX3_init 106 = .ok (.iload_n 1, 1) := by decide +kernel
theorem dX3_init_107 : decode cX3_init 107 = .ok (.new 35, 3) := by decide +kernel
theorem dX3_init_110 : decode cX3_init 110 = .ok (.dup, 1) := by decide +kernel
theorem dX3_init_111 : decode cX3_init 111 = .ok (.invokespecial 55, 3) := by decide +kernel
theorem dX3_init_114 : decode cX3_init 114 = .ok (.aastore, 1) := by decide +kernel
theorem dX3_init_115 : decode cX3_init 115 = .ok (.iinc 1 1, 3) := by decide +kernel
theorem dX3_init_118 : decode cX3_init 118 = .ok (.goto (-22), 3) := by decide +kernel
theorem dX3_init_121 : decode cX3_init 121 = .ok (.iconst 0, 1) := by decide +kernel
theorem dX3_init_122 : decode cX3_init 122 = .ok (.istore_n 1, 1) := by decide +kernel
theorem dX3_init_123 : decode cX3_init 123 = .ok (.iload_n 1, 1) := by decide +kernel
theorem dX3_init_124 : decode cX3_init 124 = .ok (.bipush 24, 2) := by decide +kernel
theorem dX3_init_126 : decode cX3_init 126 = .ok (.if_icmp .ge 22, 3) := by decide +kernel
theorem dX3_init_129 : decode cX3_init 129 = .ok (.aload_n 0, 1) := by decide +kernel
theorem dX3_init_130 : decode cX3_init 130 = .ok (.getfield 43, 3) := by decide +kernel
theorem dX3_init_133 : decode cX3_init 133 = .ok (.iload_n 1, 1) := by decide +kernel
theorem dX3_init_134 : decode cX3_init 134 = .ok (.new 41, 3) := by decide +kernel
theorem dX3_init_137 : decode cX3_init 137 = .ok (.dup, 1) := by decide +kernel
theorem dX3_init_138 : decode cX3_init 138 = .ok (.invokespecial 56, 3) := by decide +kernel
theorem dX3_init_141 : decode cX3_init 141 = .ok (.aastore, 1) := by decide +kernel
theorem dX3_init_142 : decode cX3_init 142 = .ok (.iinc 1 1, 3) := by decide +kernel
theorem dX3_init_145 : decode cX3_init 145 = .ok (.goto (-22), 3) := by decide +kernel
theorem dX3_init_148 : decode cX3_init 148 = .ok (.return_, 1) := by decide +kernel
theorem dX3_copyFrom_0 : decode cX3_copyFrom 0 = .ok (.aload_n 1, 1) := by decide +kernel
theorem dX3_copyFrom_1 : decode cX3_copyFrom 1 = .ok (.getfield 18, 3) := by decide +kernel
theorem dX3_copyFrom_4 : decode cX3_copyFrom 4 = .ok (.iconst 0, 1) := by decide +kernel
theorem dX3_copyFrom_5 : decode cX3_copyFrom 5 = .ok (.aload_n 0, 1) := by decide +kernel
theorem dX3_copyFrom_6 : decode cX3_copyFrom 6 = .ok (.getfield 18, 3) := by decide +kernel
theorem dX3_copyFrom_9 : decode cX3_copyFrom 9 = .ok (.iconst 0, 1) := by decide +kernel
theorem dX3_copyFrom_10 : decode cX3_copyFrom 10 = .ok (.bipush 13, 2) := by decide +kernel
theorem dX3_copyFrom_12 : decode cX3_copyFrom 12 = .ok (.invokestatic 57, 3) := by decide +kernel
theorem dX3_copyFrom_15 : decode cX3_copyFrom 15 = .ok (.aload_n 1, 1) := by decide +kernel
theorem dX3_copyFrom_16 : decode cX3_copyFrom 16 = .ok (.getfield 26, 3) := by decide +kernel
theorem dX3_copyFrom_19 : decode cX3_copyFrom 19 = .ok (.iconst 0, 1) := by decide +kernel
theorem dX3_copyFrom_20 : decode cX3_copyFrom 20 = .ok (.aload_n 0, 1) := by decide +kernel
theorem dX3_copyFrom_21 : decode cX3_copyFrom 21 = .ok (.getfield 26, 3) := by decide +kernel
theorem dX3_copyFrom_24 : decode cX3_copyFrom 24 = .ok (.iconst 0, 1) := by decide +kernel
theorem dX3_copyFrom_25 : decode cX3_copyFrom 25 = .ok (.iconst 4, 1) := by decide +kernel
theorem dX3_copyFrom_26 : decode cX3_copyFrom 26 = .ok (.invokestatic 57, 3) := by decide +kernel
theorem dX3_copyFrom_29 : decode cX3_copyFrom 29 = .ok (.aload_n 0, 1) := by decide +kernel
theorem dX3_copyFrom_30 : decode cX3_copyFrom 30 = .ok (.aload_n 1, 1) := by decide +kernel
theorem dX3_copyFrom_31 : decode cX3_copyFrom 31 = .ok (.invokevirtual 63, 3) := by decide +kernel
theorem dX3_copyFrom_34 : decode cX3_copyFrom 34 = .ok (.aload_n 0, 1) := by decide +kernel
theorem dX3_copyFrom_35 : decode cX3_copyFrom 35 = .ok (.aload_n 1, 1) := by decide +kernel
theorem dX3_copyFrom_36 : decode cX3_copyFrom 36 = .ok (.getfield 67, 3) := by decide +kernel
theorem dX3_copyFrom_39 : decode cX3_copyFrom 39 = .ok (.putfield 67, 3) := by decide +kernel
theorem dX3_copyFrom_42 : decode cX3_copyFrom 42 = .ok (.aload_n 0, 1) := by decide +kernel
theorem dX3_copyFrom_43 : decode cX3_copyFrom 43 = .ok (.aload_n 1, 1) := by decide +kernel
theorem dX3_copyFrom_44 : decode cX3_copyFrom 44 = .ok (.getfield 70, 3) := by decide +kernel
theorem dX3_copyFrom_47 : decode cX3_copyFrom 47 = .ok (.putfield 70, 3) := by decide +kernel
theorem dX3_copyFrom_50 : decode cX3_copyFrom 50 = .ok (.aload_n 0, 1) := by decide +kernel
theorem dX3_copyFrom_51 : decode cX3_copyFrom 51 = .ok (.aload_n 1, 1) := by decide +kernel
theorem dX3_copyFrom_52 : decode cX3_copyFrom 52 = .ok (.getfield 73, 3) := by decide +kernel
theorem dX3_copyFrom_55 : decode cX3_copyFrom 55 = .ok (.putfield 73, 3) := by decide +kernel
theorem dX3_copyFrom_58 : decode cX3_copyFrom 58 = .ok (.aload_n 0, 1) := by decide +kernel
theorem dX3_copyFrom_59 : decode cX3_copyFrom 59 = .ok (.aload_n 1, 1) := by decide +kernel
theorem dX3_copyFrom_60 : decode cX3_copyFrom 60 = .ok (.getfield 76, 3) := by decide +kernel
theorem dX3_copyFrom_63 : decode cX3_copyFrom 63 = .ok (.putfield 76, 3) := by decide +kernel
theorem dX3_copyFrom_66 : decode cX3_copyFrom 66 = .ok (.aload_n 0, 1) := by decide +kernel
theorem dX3_copyFrom_67 : decode cX3_copyFrom 67 = .ok (.aload_n 1, 1) := by decide +kernel
theorem dX3_copyFrom_68 : decode cX3_copyFrom 68 = .ok (.getfield 47, 3) := by decide +kernel
theorem dX3_copyFrom_71 : decode cX3_copyFrom 71 = .ok (.putfield 47, 3) := by decide +kernel
theorem dX3_copyFrom_74 : decode cX3_copyFrom 74 = .ok (.aload_n 0, 1) := by decide +kernel
theorem dX3_copyFrom_75 : decode cX3_copyFrom 75 = .ok (.aload_n 1, 1) := by decide +kernel
theorem dX3_copyFrom_76 : decode cX3_copyFrom 76 = .ok (.getfield 51, 3) := by decide +kernel
theorem dX3_copyFrom_79 : decode cX3_copyFrom 79 = .ok (.putfield 51, 3) := by decide +kernel
theorem dX3_copyFrom_82 : decode cX3_copyFrom 82 = .ok (.aload_n 0, 1) := by decide +kernel
theorem dX3_copyFrom_83 : decode cX3_copyFrom 83 = .ok (.aload_n 1, 1) := by decide +kernel
theorem dX3_copyFrom_84 : decode cX3_copyFrom 84 = .ok (.getfield 79, 3) := by decide +kernel
theorem dX3_copyFrom_87 : decode cX3_copyFrom 87 = .ok (.putfield 79, 3) := by decide +kernel
theorem dX3_copyFrom_90 : decode cX3_copyFrom 90 = .ok (.aload_n 0, 1) := by decide +kernel
theorem dX3_copyFrom_91 : decode cX3_copyFrom 91 = .ok (.aload_n 1, 1) := by decide +kernel
theorem dX3_copyFrom_92 : decode cX3_copyFrom 92 = .ok (.getfield 82, 3) := by decide +kernel
theorem dX3_copyFrom_95 : decode cX3_copyFrom 95 = .ok (.putfield 82, 3) := by decide +kernel
theorem dX3_copyFrom_98 : decode cX3_copyFrom 98 = .ok (.aload_n 0, 1) := by decide +kernel
theorem dX3_copyFrom_99 : decode cX3_copyFrom 99 = .ok (.aload_n 1, 1) := by decide +kernel
theorem dX3_copyFrom_100 : decode cX3_copyFrom 100 = .ok (.getfield 85, 3) := by decide +kernel
theorem dX3_copyFrom_103 : decode cX3_copyFrom 103 = .ok (.putfield 85, 3) := by decide +kernel
theorem dX3_copyFrom_106 : decode cX3_copyFrom 106 = .ok (.aload_n 0, 1) := by decide +kernel
theorem dX3_copyFrom_107 : decode cX3_copyFrom 107 = .ok (.aload_n 1, 1) := by decide +kernel
theorem dX3_copyFrom_108 : decode cX3_copyFrom 108 = .ok (.getfield 88, 3) := by decide +kernel
theorem dX3_copyFrom_111 : decode cX3_copyFrom 111 = .ok (.putfield 88, 3) := by decide +kernel
theorem dX3_copyFrom_114 : decode cX3_copyFrom 114 = .ok (.return_, 1) := by decide +kernel
theorem dX3_copyGrainFrom_0 : decode cX3_copyGrainFrom 0 = .ok (.aload_n 0, 1) := by decide +kernel
theorem dX3_copyGrainFrom_1 : decode cX3_copyGrainFrom 1 = .ok (.aload_n 1, 1) := by decide +kernel
theorem dX3_copyGrainFrom_2 : decode cX3_copyGrainFrom 2 = .ok (.getfield 91, 3) := by decide +kernel
theorem dX3_copyGrainFrom_5 : decode cX3_copyGrainFrom 5 = .ok (.putfield 91, 3) := by decide +kernel
theorem dX3_copyGrainFrom_8 : decode cX3_copyGrainFrom 8 = .ok (.aload_n 0, 1) := by decide +kernel
theorem dX3_copyGrainFrom_9 : decode cX3_copyGrainFrom 9 = .ok (.aload_n 1, 1) := by decide +kernel
theorem dX3_copyGrainFrom_10 : decode cX3_copyGrainFrom 10 = .ok (.getfield 94, 3) := by decide +kernel
theorem dX3_copyGrainFrom_13 : decode cX3_copyGrainFrom 13 = .ok (.putfield 94, 3) := by decide +kernel
theorem dX3_copyGrainFrom_16 : decode cX3_copyGrainFrom 16 = .ok (.aload_n 0, 1) := by decide +kernel
theorem dX3_copyGrainFrom_17 : decode cX3_copyGrainFrom 17 = .ok (.aload_n 1, 1) := by decide +kernel
theorem dX3_copyGrainFrom_18 : decode cX3_copyGrainFrom 18 = .ok (.getfield 97, 3) := by decide +kernel
theorem dX3_copyGrainFrom_21 : decode cX3_copyGrainFrom 21 = .ok (.putfield 97, 3) := by decide +kernel
theorem dX3_copyGrainFrom_24 : decode cX3_copyGrainFrom 24 = .ok (.iconst 0, 1) := by decide +kernel
theorem dX3_copyGrainFrom_25 : decode cX3_copyGrainFrom 25 = .ok (.istore_n 2, 1) := by decide +kernel
theorem dX3_copyGrainFrom_26 : decode cX3_copyGrainFrom 26 = .ok (.iload_n 2, 1) := by decide +kernel
theorem dX3_copyGrainFrom_27 : decode cX3_copyGrainFrom 27 = .ok (.aload_n 0, 1) := by decide +kernel
theorem dX3_copyGrainFrom_28 : decode cX3_copyGrainFrom 28 = .ok (.getfield 91, 3) := by decide +kernel
theorem dX3_copyGrainFrom_31 : decode cX3_copyGrainFrom 31 = .ok (.if_icmp .ge 24, 3) := by decide +kernel
theorem dX3_copyGrainFrom_34 : decode cX3_copyGrainFrom 34 = .ok (.aload_n 0, 1) := by decide +kernel
theorem dX3_copyGrainFrom_35 : decode cX3_copyGrainFrom 35 = .ok (.getfield 31, 3) := by decide +kernel
theorem dX3_copyGrainFrom_38 : decode cX3_copyGrainFrom 38 = .ok (.iload_n 2, 1) := by decide +kernel
theorem dX3_copyGrainFrom_39 : decode cX3_copyGrainFrom 39 = .ok (.aaload, 1) := by decide +kernel
theorem dX3_copyGrainFrom_40 : decode cX3_copyGrainFrom 40 = .ok (.aload_n 1, 1) := by decide +kernel
theorem dX3_copyGrainFrom_41 : decode cX3_copyGrainFrom 41 = .ok (.getfield 31, 3) := by decide +kernel
theorem dX3_copyGrainFrom_44 : decode cX3_copyGrainFrom 44 = .ok (.iload_n 2, 1) := by decide +kernel
theorem dX3_copyGrainFrom_45 : decode cX3_copyGrainFrom 45 = .ok (.aaload, 1) := by decide +kernel
theorem dX3_copyGrainFrom_46 : decode cX3_copyGrainFrom 46 = .ok (.invokevirtual 100, 3) := by decide +kernel
theorem dX3_copyGrainFrom_49 : decode cX3_copyGrainFrom 49 = .ok (.iinc 2 1, 3) := by decide +kernel
theorem dX3_copyGrainFrom_52 : decode cX3_copyGrainFrom 52 = .ok (.goto (-26), 3) := by decide +kernel
theorem dX3_copyGrainFrom_55 : decode cX3_copyGrainFrom 55 = .ok (.iconst 0, 1) := by decide +kernel
theorem dX3_copyGrainFrom_56 : decode cX3_copyGrainFrom 56 = .ok (.istore_n 2, 1) := by decide +kernel
theorem dX3_copyGrainFrom_57 : decode cX3_copyGrainFrom 57 = .ok (.iload_n 2, 1) := by decide +kernel
theorem dX3_copyGrainFrom_58 : decode cX3_copyGrainFrom 58 = .ok (.aload_n 0, 1) := by decide +kernel
theorem dX3_copyGrainFrom_59 : decode cX3_copyGrainFrom 59 = .ok (.getfield 94, 3) := by decide +kernel
theorem dX3_copyGrainFrom_62 : decode cX3_copyGrainFrom 62 = .ok (.if_icmp .ge 24, 3) := by decide +kernel
theorem dX3_copyGrainFrom_65 : decode cX3_copyGrainFrom 65 = .ok (.aload_n 0, 1) := by decide +kernel
theorem dX3_copyGrainFrom_66 : decode cX3_copyGrainFrom 66 = .ok (.getfield 37, 3) := by decide +kernel
theorem dX3_copyGrainFrom_69 : decode cX3_copyGrainFrom 69 = .ok (.iload_n 2, 1) := by decide +kernel
theorem dX3_copyGrainFrom_70 : decode cX3_copyGrainFrom 70 = .ok (.aaload, 1) := by decide +kernel
theorem dX3_copyGrainFrom_71 : decode cX3_copyGrainFrom 71 = .ok (.aload_n 1, 1) := by decide +kernel
theorem dX3_copyGrainFrom_72 : decode cX3_copyGrainFrom 72 = .ok (.getfield 37, 3) := by decide +kernel
theorem dX3_copyGrainFrom_75 : decode cX3_copyGrainFrom 75 = .ok (.iload_n 2, 1) := by decide +kernel
theorem dX3_copyGrainFrom_76 : decode cX3_copyGrainFrom 76 = .ok (.aaload, 1) := by decide +kernel
theorem dX3_copyGrainFrom_77 : decode cX3_copyGrainFrom 77 = .ok (.invokevirtual 104, 3) := by decide +kernel
theorem dX3_copyGrainFrom_80 : decode cX3_copyGrainFrom 80 = .ok (.iinc 2 1, 3) := by decide +kernel
theorem dX3_copyGrainFrom_83 : decode cX3_copyGrainFrom 83 = .ok (.goto (-26), 3) := by decide +kernel
theorem dX3_copyGrainFrom_86 : decode cX3_copyGrainFrom 86 = .ok (.iconst 0, 1) := by decide +kernel
theorem dX3_copyGrainFrom_87 : decode cX3_copyGrainFrom 87 = .ok (.istore_n 2, 1) := by decide +kernel
theorem dX3_copyGrainFrom_88 : decode cX3_copyGrainFrom 88 = .ok (.iload_n 2, 1) := by decide +kernel
theorem dX3_copyGrainFrom_89 : decode cX3_copyGrainFrom 89 = .ok (.aload_n 0, 1) := by decide +kernel
theorem dX3_copyGrainFrom_90 : decode cX3_copyGrainFrom 90 = .ok (.getfield 97, 3) := by decide +kernel
theorem dX3_copyGrainFrom_93 : decode cX3_copyGrainFrom 93 = .ok (.if_icmp .ge 24, 3) := by decide +kernel
theorem dX3_copyGrainFrom_96 : decode cX3_copyGrainFrom 96 = .ok (.aload_n 0, 1) := by decide +kernel
theorem dX3_copyGrainFrom_97 : decode cX3_copyGrainFrom 97 = .ok (.getfield 43, 3) := by decide +kernel
theorem dX3_copyGrainFrom_100 : decode cX3_copyGrainFrom 100 = .ok (.iload_n 2, 1) := by decide +kernel
theorem dX3_copyGrainFrom_101 : decode cX3_copyGrainFrom 101 = .ok (.aaload, 1) := by decide +kernel
theorem dX3_copyGrainFrom_102 : decode cX3_copyGrainFrom 102 = .ok (.aload_n 1, 1) := by decide +kernel
theorem dX3_copyGrainFrom_103 : decode cX3_copyGrainFrom 103 = .ok (.getfield 43, 3) := by decide +kernel
theorem dX3_copyGrainFrom_106 : decode cX3_copyGrainFrom 106 = .ok (.iload_n 2, 1) := by decide +kernel
theorem dX3_copyGrainFrom_107 : decode cX3_copyGrainFrom 107 = .ok (.aaload, 1) := by decide +kernel
theorem dX3_copyGrainFrom_108 : decode cX3_copyGrainFrom 108 = .ok (.invokevirtual 107, 3) := by decide +kernel
theorem dX3_copyGrainFrom_111 : decode cX3_copyGrainFrom 111 = .ok (.iinc 2 1, 3) := by decide +kernel
theorem dX3_copyGrainFrom_114 : decode cX3_copyGrainFrom 114 = .ok (.goto (-26), 3) := by decide +kernel
theorem dX3_copyGrainFrom_117 : decode cX3_copyGrainFrom 117 = .ok (.return_, 1) := by decide +kernel
theorem dX3_hasKind_0 : decode cX3_hasKind 0 = .ok (.iload_n 1, 1) := by decide +kernel
theorem dX3_hasKind_1 : decode cX3_hasKind 1 = .ok (.ifCond .lt 15, 3) := by decide +kernel
theorem dX3_hasKind_4 : decode cX3_hasKind 4 = .ok (.iload_n 1, 1) := by decide +kernel
theorem dX3_hasKind_5 : decode cX3_hasKind 5 = .ok (.aload_n 0, 1) := by decide +kernel
theorem dX3_hasKind_6 : decode cX3_hasKind 6 = .ok (.getfield 91, 3) := by decide +kernel
theorem dX3_hasKind_9 : decode cX3_hasKind 9 = .ok (.if_icmp .ge 7, 3) := by decide +kernel
theorem dX3_hasKind_12 : decode cX3_hasKind 12 = .ok (.iconst 1, 1) := by decide +kernel
theorem dX3_hasKind_13 : decode cX3_hasKind 13 = .ok (.goto 4, 3) := by decide +kernel
theorem dX3_hasKind_16 : decode cX3_hasKind 16 = .ok (.iconst 0, 1) := by decide +kernel
theorem dX3_hasKind_17 : decode cX3_hasKind 17 = .ok (.ireturn, 1) := by decide +kernel
theorem dX3_hasFarmer_0 : decode cX3_hasFarmer 0 = .ok (.iload_n 1, 1) := by decide +kernel
theorem dX3_hasFarmer_1 : decode cX3_hasFarmer 1 = .ok (.ifCond .lt 15, 3) := by decide +kernel
theorem dX3_hasFarmer_4 : decode cX3_hasFarmer 4 = .ok (.iload_n 1, 1) := by decide +kernel
theorem dX3_hasFarmer_5 : decode cX3_hasFarmer 5 = .ok (.aload_n 0, 1) := by decide +kernel
theorem dX3_hasFarmer_6 : decode cX3_hasFarmer 6 = .ok (.getfield 94, 3) := by decide +kernel
theorem dX3_hasFarmer_9 : decode cX3_hasFarmer 9 = .ok (.if_icmp .ge 7, 3) := by decide +kernel
theorem dX3_hasFarmer_12 : decode cX3_hasFarmer 12 = .ok (.iconst 1, 1) := by decide +kernel
theorem dX3_hasFarmer_13 : decode cX3_hasFarmer 13 = .ok (.goto 4, 3) := by decide +kernel
theorem dX3_hasFarmer_16 : decode cX3_hasFarmer 16 = .ok (.iconst 0, 1) := by decide +kernel
theorem dX3_hasFarmer_17 : decode cX3_hasFarmer 17 = .ok (.ireturn, 1) := by decide +kernel
theorem dX3_hasSack_0 : decode cX3_hasSack 0 = .ok (.iload_n 1, 1) := by decide +kernel
theorem dX3_hasSack_1 : decode cX3_hasSack 1 = .ok (.ifCond .lt 15, 3) := by decide +kernel
theorem dX3_hasSack_4 : decode cX3_hasSack 4 = .ok (.iload_n 1, 1) := by decide +kernel
theorem dX3_hasSack_5 : decode cX3_hasSack 5 = .ok (.aload_n 0, 1) := by decide +kernel
theorem dX3_hasSack_6 : decode cX3_hasSack 6 = .ok (.getfield 97, 3) := by decide +kernel
theorem dX3_hasSack_9 : decode cX3_hasSack 9 = .ok (.if_icmp .ge 7, 3) := by decide +kernel
theorem dX3_hasSack_12 : decode cX3_hasSack 12 = .ok (.iconst 1, 1) := by decide +kernel
theorem dX3_hasSack_13 : decode cX3_hasSack 13 = .ok (.goto 4, 3) := by decide +kernel
theorem dX3_hasSack_16 : decode cX3_hasSack 16 = .ok (.iconst 0, 1) := by decide +kernel
theorem dX3_hasSack_17 : decode cX3_hasSack 17 = .ok (.ireturn, 1) := by decide +kernel
theorem dX3_changeSetting_0 : decode cX3_changeSetting 0 = .ok (.iload_n 1, 1) := by decide +kernel
theorem dX3_changeSetting_1 : decode cX3_changeSetting 1 = .ok (.iconst 0, 1) := by decide +kernel
theorem dX3_changeSetting_2 : decode cX3_changeSetting 2 = .ok (.bipush 12, 2) := by decide +kernel
theorem dX3_changeSetting_4 : decode cX3_changeSetting 4 = .ok (.invokestatic 110, 3) := by decide +kernel
theorem dX3_changeSetting_7 : decode cX3_changeSetting 7 = .ok (.ifCond .eq 20, 3) := by decide +kernel
theorem dX3_changeSetting_10 : decode cX3_changeSetting 10 = .ok (.iload_n 2, 1) := by decide +kernel
theorem dX3_changeSetting_11 : decode cX3_changeSetting 11 = .ok (.getstatic 114, 3) := by decide +kernel
theorem dX3_changeSetting_14 : decode cX3_changeSetting 14 = .ok (.iload_n 1, 1) := by decide +kernel
theorem dX3_changeSetting_15 : decode cX3_changeSetting 15 = .ok (.iaload, 1) := by decide +kernel
theorem dX3_changeSetting_16 : decode cX3_changeSetting 16 = .ok (.getstatic 117, 3) := by decide +kernel
theorem dX3_changeSetting_19 : decode cX3_changeSetting 19 = .ok (.iload_n 1, 1) := by decide +kernel
theorem dX3_changeSetting_20 : decode cX3_changeSetting 20 = .ok (.iaload, 1) := by decide +kernel
theorem dX3_changeSetting_21 : decode cX3_changeSetting 21 = .ok (.invokestatic 110, 3) := by decide +kernel
theorem dX3_changeSetting_24 : decode cX3_changeSetting 24 = .ok (.ifCond .ne 6, 3) := by decide +kernel
theorem dX3_changeSetting_27 : decode cX3_changeSetting 27 = .ok (.ldc 120, 2) := by decide +kernel
theorem dX3_changeSetting_29 : decode cX3_changeSetting 29 = .ok (.ireturn, 1) := by decide +kernel
theorem dX3_changeSetting_30 : decode cX3_changeSetting 30 = .ok (.aload_n 0, 1) := by decide +kernel
theorem dX3_changeSetting_31 : decode cX3_changeSetting 31 = .ok (.getfield 18, 3) := by decide +kernel
theorem dX3_changeSetting_34 : decode cX3_changeSetting 34 = .ok (.iload_n 1, 1) := by decide +kernel
theorem dX3_changeSetting_35 : decode cX3_changeSetting 35 = .ok (.iaload, 1) := by decide +kernel
theorem dX3_changeSetting_36 : decode cX3_changeSetting 36 = .ok (.istore_n 3, 1) := by decide +kernel
theorem dX3_changeSetting_37 : decode cX3_changeSetting 37 = .ok (.aload_n 0, 1) := by decide +kernel
theorem dX3_changeSetting_38 : decode cX3_changeSetting 38 = .ok (.getfield 18, 3) := by decide +kernel
theorem dX3_changeSetting_41 : decode cX3_changeSetting 41 = .ok (.iload_n 1, 1) := by decide +kernel
theorem dX3_changeSetting_42 : decode cX3_changeSetting 42 = .ok (.iload_n 2, 1) := by decide +kernel
theorem dX3_changeSetting_43 : decode cX3_changeSetting 43 = .ok (.iastore, 1) := by decide +kernel
theorem dX3_changeSetting_44 : decode cX3_changeSetting 44 = .ok (.iload_n 3, 1) := by decide +kernel
theorem dX3_changeSetting_45 : decode cX3_changeSetting 45 = .ok (.ireturn, 1) := by decide +kernel
theorem dX3_changeLeak_0 : decode cX3_changeLeak 0 = .ok (.iload_n 1, 1) := by decide +kernel
theorem dX3_changeLeak_1 : decode cX3_changeLeak 1 = .ok (.iconst 0, 1) := by decide +kernel
theorem dX3_changeLeak_2 : decode cX3_changeLeak 2 = .ok (.iconst 3, 1) := by decide +kernel
theorem dX3_changeLeak_3 : decode cX3_changeLeak 3 = .ok (.invokestatic 110, 3) := by decide +kernel
theorem dX3_changeLeak_6 : decode cX3_changeLeak 6 = .ok (.ifCond .eq 13, 3) := by decide +kernel
theorem dX3_changeLeak_9 : decode cX3_changeLeak 9 = .ok (.iload_n 2, 1) := by decide +kernel
theorem dX3_changeLeak_10 : decode cX3_changeLeak 10 = .ok (.iconst 0, 1) := by decide +kernel
theorem dX3_changeLeak_11 : decode cX3_changeLeak 11 = .ok (.bipush 20, 2) := by decide +kernel
theorem dX3_changeLeak_13 : decode cX3_changeLeak 13 = .ok (.invokestatic 110, 3) := by decide +kernel
theorem dX3_changeLeak_16 : decode cX3_changeLeak 16 = .ok (.ifCond .ne 6, 3) := by decide +kernel
theorem dX3_changeLeak_19 : decode cX3_changeLeak 19 = .ok (.ldc 120, 2) := by decide +kernel
theorem dX3_changeLeak_21 : decode cX3_changeLeak 21 = .ok (.ireturn, 1) := by decide +kernel
theorem dX3_changeLeak_22 : decode cX3_changeLeak 22 = .ok (.aload_n 0, 1) := by decide +kernel
theorem dX3_changeLeak_23 : decode cX3_changeLeak 23 = .ok (.getfield 26, 3) := by decide +kernel
theorem dX3_changeLeak_26 : decode cX3_changeLeak 26 = .ok (.iload_n 1, 1) := by decide +kernel
theorem dX3_changeLeak_27 : decode cX3_changeLeak 27 = .ok (.iaload, 1) := by decide +kernel
theorem dX3_changeLeak_28 : decode cX3_changeLeak 28 = .ok (.istore_n 3, 1) := by decide +kernel
theorem dX3_changeLeak_29 : decode cX3_changeLeak 29 = .ok (.aload_n 0, 1) := by decide +kernel
theorem dX3_changeLeak_30 : decode cX3_changeLeak 30 = .ok (.getfield 26, 3) := by decide +kernel
theorem dX3_changeLeak_33 : decode cX3_changeLeak 33 = .ok (.iload_n 1, 1) := by decide +kernel
theorem dX3_changeLeak_34 : decode cX3_changeLeak 34 = .ok (.iload_n 2, 1) := by decide +kernel
theorem dX3_changeLeak_35 : decode cX3_changeLeak 35 = .ok (.iastore, 1) := by decide +kernel
theorem dX3_changeLeak_36 : decode cX3_changeLeak 36 = .ok (.iload_n 3, 1) := by decide +kernel
theorem dX3_changeLeak_37 : decode cX3_changeLeak 37 = .ok (.ireturn, 1) := by decide +kernel
theorem dX3_changeLock_0 : decode cX3_changeLock 0 = .ok (.iload_n 1, 1) := by decide +kernel
theorem dX3_changeLock_1 : decode cX3_changeLock 1 = .ok (.iconst 0, 1) := by decide +kernel
theorem dX3_changeLock_2 : decode cX3_changeLock 2 = .ok (.iconst 1, 1) := by decide +kernel
theorem dX3_changeLock_3 : decode cX3_changeLock 3 = .ok (.invokestatic 110, 3) := by decide +kernel
theorem dX3_changeLock_6 : decode cX3_changeLock 6 = .ok (.ifCond .ne 6, 3) := by decide +kernel
theorem dX3_changeLock_9 : decode cX3_changeLock 9 = .ok (.ldc 120, 2) := by decide +kernel
theorem dX3_changeLock_11 : decode cX3_changeLock 11 = .ok (.ireturn, 1) := by decide +kernel
theorem dX3_changeLock_12 : decode cX3_changeLock 12 = .ok (.aload_n 0, 1) := by decide +kernel
theorem dX3_changeLock_13 : decode cX3_changeLock 13 = .ok (.getfield 73, 3) := by decide +kernel
theorem dX3_changeLock_16 : decode cX3_changeLock 16 = .ok (.istore_n 2, 1) := by decide +kernel
theorem dX3_changeLock_17 : decode cX3_changeLock 17 = .ok (.aload_n 0, 1) := by decide +kernel
theorem dX3_changeLock_18 : decode cX3_changeLock 18 = .ok (.iload_n 1, 1) := by decide +kernel
theorem dX3_changeLock_19 : decode cX3_changeLock 19 = .ok (.putfield 73, 3) := by decide +kernel
theorem dX3_changeLock_22 : decode cX3_changeLock 22 = .ok (.iload_n 2, 1) := by decide +kernel
theorem dX3_changeLock_23 : decode cX3_changeLock 23 = .ok (.ireturn, 1) := by decide +kernel
theorem dX3_changeOpening_0 : decode cX3_changeOpening 0 = .ok (.iload_n 1, 1) := by decide +kernel
theorem dX3_changeOpening_1 : decode cX3_changeOpening 1 = .ok (.iconst 0, 1) := by decide +kernel
theorem dX3_changeOpening_2 : decode cX3_changeOpening 2 = .ok (.iconst 3, 1) := by decide +kernel
theorem dX3_changeOpening_3 : decode cX3_changeOpening 3 = .ok (.invokestatic 110, 3) := by decide +kernel
theorem dX3_changeOpening_6 : decode cX3_changeOpening 6 = .ok (.ifCond .ne 6, 3) := by decide +kernel
theorem dX3_changeOpening_9 : decode cX3_changeOpening 9 = .ok (.ldc 120, 2) := by decide +kernel
theorem dX3_changeOpening_11 : decode cX3_changeOpening 11 = .ok (.ireturn, 1) := by decide +kernel
theorem dX3_changeOpening_12 : decode cX3_changeOpening 12 = .ok (.aload_n 0, 1) := by decide +kernel
theorem dX3_changeOpening_13 : decode cX3_changeOpening 13 = .ok (.getfield 76, 3) := by decide +kernel
theorem dX3_changeOpening_16 : decode cX3_changeOpening 16 = .ok (.istore_n 2, 1) := by decide +kernel
theorem dX3_changeOpening_17 : decode cX3_changeOpening 17 = .ok (.aload_n 0, 1) := by decide +kernel
theorem dX3_changeOpening_18 : decode cX3_changeOpening 18 = .ok (.iload_n 1, 1) := by decide +kernel
theorem dX3_changeOpening_19 : decode cX3_changeOpening 19 = .ok (.putfield 76, 3) := by decide +kernel
theorem dX3_changeOpening_22 : decode cX3_changeOpening 22 = .ok (.iload_n 2, 1) := by decide +kernel
theorem dX3_changeOpening_23 : decode cX3_changeOpening 23 = .ok (.ireturn, 1) := by decide +kernel
theorem dX3_addKind_0 : decode cX3_addKind 0 = .ok (.iload_n 1, 1) := by decide +kernel
theorem dX3_addKind_1 : decode cX3_addKind 1 = .ok (.iconst 1, 1) := by decide +kernel
theorem dX3_addKind_2 : decode cX3_addKind 2 = .ok (.bipush 9, 2) := by decide +kernel
theorem dX3_addKind_4 : decode cX3_addKind 4 = .ok (.invokestatic 110, 3) := by decide +kernel
theorem dX3_addKind_7 : decode cX3_addKind 7 = .ok (.ifCond .eq 23, 3) := by decide +kernel
theorem dX3_addKind_10 : decode cX3_addKind 10 = .ok (.iload_n 2, 1) := by decide +kernel
theorem dX3_addKind_11 : decode cX3_addKind 11 = .ok (.iconst 0, 1) := by decide +kernel
theorem dX3_addKind_12 : decode cX3_addKind 12 = .ok (.bipush 20, 2) := by decide +kernel
theorem dX3_addKind_14 : decode cX3_addKind 14 = .ok (.invokestatic 110, 3) := by decide +kernel
theorem dX3_addKind_17 : decode cX3_addKind 17 = .ok (.ifCond .eq 13, 3) := by decide +kernel
theorem dX3_addKind_20 : decode cX3_addKind 20 = .ok (.iload_n 3, 1) := by decide +kernel
theorem dX3_addKind_21 : decode cX3_addKind 21 = .ok (.iconst 1, 1) := by decide +kernel
theorem dX3_addKind_22 : decode cX3_addKind 22 = .ok (.ldc 121, 2) := by decide +kernel
theorem dX3_addKind_24 : decode cX3_addKind 24 = .ok (.invokestatic 110, 3) := by decide +kernel
theorem dX3_addKind_27 : decode cX3_addKind 27 = .ok (.ifCond .ne 6, 3) := by decide +kernel
theorem dX3_addKind_30 : decode cX3_addKind 30 = .ok (.ldc 120, 2) := by decide +kernel
theorem dX3_addKind_32 : decode cX3_addKind 32 = .ok (.ireturn, 1) := by decide +kernel
theorem dX3_addKind_33 : decode cX3_addKind 33 = .ok (.aload_n 0, 1) := by decide +kernel
theorem dX3_addKind_34 : decode cX3_addKind 34 = .ok (.getfield 91, 3) := by decide +kernel
theorem dX3_addKind_37 : decode cX3_addKind 37 = .ok (.bipush 6, 2) := by decide +kernel
theorem dX3_addKind_39 : decode cX3_addKind 39 = .ok (.if_icmp .lt 6, 3) := by decide +kernel
theorem dX3_addKind_42 : decode cX3_addKind 42 = .ok (.ldc 122, 2) := by decide +kernel
theorem dX3_addKind_44 : decode cX3_addKind 44 = .ok (.ireturn, 1) := by decide +kernel
theorem dX3_addKind_45 : decode cX3_addKind 45 = .ok (.aload_n 0, 1) := by decide +kernel
theorem dX3_addKind_46 : decode cX3_addKind 46 = .ok (.getfield 31, 3) := by decide +kernel
theorem dX3_addKind_49 : decode cX3_addKind 49 = .ok (.aload_n 0, 1) := by decide +kernel
theorem dX3_addKind_50 : decode cX3_addKind 50 = .ok (.getfield 91, 3) := by decide +kernel
theorem dX3_addKind_53 : decode cX3_addKind 53 = .ok (.aaload, 1) := by decide +kernel
theorem dX3_addKind_54 : decode cX3_addKind 54 = .ok (.astore 4, 2) := by decide +kernel
theorem dX3_addKind_56 : decode cX3_addKind 56 = .ok (.aload 4, 2) := by decide +kernel
theorem dX3_addKind_58 : decode cX3_addKind 58 = .ok (.iload_n 1, 1) := by decide +kernel
theorem dX3_addKind_59 : decode cX3_addKind 59 = .ok (.putfield 123, 3) := by decide +kernel
theorem dX3_addKind_62 : decode cX3_addKind 62 = .ok (.aload 4, 2) := by decide +kernel
theorem dX3_addKind_64 : decode cX3_addKind 64 = .ok (.iload_n 2, 1) := by decide +kernel
theorem dX3_addKind_65 : decode cX3_addKind 65 = .ok (.putfield 126, 3) := by decide +kernel
theorem dX3_addKind_68 : decode cX3_addKind 68 = .ok (.aload 4, 2) := by decide +kernel
theorem dX3_addKind_70 : decode cX3_addKind 70 = .ok (.iload_n 3, 1) := by decide +kernel
theorem dX3_addKind_71 : decode cX3_addKind 71 = .ok (.putfield 129, 3) := by decide +kernel
theorem dX3_addKind_74 : decode cX3_addKind 74 = .ok (.aload_n 0, 1) := by decide +kernel
theorem dX3_addKind_75 : decode cX3_addKind 75 = .ok (.dup, 1) := by decide +kernel
theorem dX3_addKind_76 : decode cX3_addKind 76 = .ok (.getfield 91, 3) := by decide +kernel
theorem dX3_addKind_79 : decode cX3_addKind 79 = .ok (.iconst 1, 1) := by decide +kernel
theorem dX3_addKind_80 : decode cX3_addKind 80 = .ok (.iadd, 1) := by decide +kernel
theorem dX3_addKind_81 : decode cX3_addKind 81 = .ok (.putfield 91, 3) := by decide +kernel
theorem dX3_addKind_84 : decode cX3_addKind 84 = .ok (.aload_n 0, 1) := by decide +kernel
theorem dX3_addKind_85 : decode cX3_addKind 85 = .ok (.getfield 91, 3) := by decide +kernel
theorem dX3_addKind_88 : decode cX3_addKind 88 = .ok (.iconst 1, 1) := by decide +kernel
theorem dX3_addKind_89 : decode cX3_addKind 89 = .ok (.isub, 1) := by decide +kernel
theorem dX3_addKind_90 : decode cX3_addKind 90 = .ok (.ireturn, 1) := by decide +kernel
theorem dX3_addFarmer_0 : decode cX3_addFarmer 0 = .ok (.aload_n 0, 1) := by decide +kernel
theorem dX3_addFarmer_1 : decode cX3_addFarmer 1 = .ok (.getfield 94, 3) := by decide +kernel
theorem dX3_addFarmer_4 : decode cX3_addFarmer 4 = .ok (.bipush 8, 2) := by decide +kernel
theorem dX3_addFarmer_6 : decode cX3_addFarmer 6 = .ok (.if_icmp .lt 6, 3) := by decide +kernel
theorem dX3_addFarmer_9 : decode cX3_addFarmer 9 = .ok (.ldc 122, 2) := by decide +kernel
theorem dX3_addFarmer_11 : decode cX3_addFarmer 11 = .ok (.ireturn, 1) := by decide +kernel
theorem dX3_addFarmer_12 : decode cX3_addFarmer 12 = .ok (.aload_n 0, 1) := by decide +kernel
theorem dX3_addFarmer_13 : decode cX3_addFarmer 13 = .ok (.getfield 37, 3) := by decide +kernel
theorem dX3_addFarmer_16 : decode cX3_addFarmer 16 = .ok (.aload_n 0, 1) := by decide +kernel
theorem dX3_addFarmer_17 : decode cX3_addFarmer 17 = .ok (.getfield 94, 3) := by decide +kernel
theorem dX3_addFarmer_20 : decode cX3_addFarmer 20 = .ok (.aaload, 1) := by decide +kernel
theorem dX3_addFarmer_21 : decode cX3_addFarmer 21 = .ok (.astore_n 1, 1) := by decide +kernel
theorem dX3_addFarmer_22 : decode cX3_addFarmer 22 = .ok (.aload_n 1, 1) := by decide +kernel
theorem dX3_addFarmer_23 : decode cX3_addFarmer 23 = .ok (.iconst 0, 1) := by decide +kernel
theorem dX3_addFarmer_24 : decode cX3_addFarmer 24 = .ok (.putfield 132, 3) := by decide +kernel
theorem dX3_addFarmer_27 : decode cX3_addFarmer 27 = .ok (.aload_n 1, 1) := by decide +kernel
theorem dX3_addFarmer_28 : decode cX3_addFarmer 28 = .ok (.iconst 0, 1) := by decide +kernel
theorem dX3_addFarmer_29 : decode cX3_addFarmer 29 = .ok (.putfield 135, 3) := by decide +kernel
theorem dX3_addFarmer_32 : decode cX3_addFarmer 32 = .ok (.aload_n 0, 1) := by decide +kernel
theorem dX3_addFarmer_33 : decode cX3_addFarmer 33 = .ok (.dup, 1) := by decide +kernel
theorem dX3_addFarmer_34 : decode cX3_addFarmer 34 = .ok (.getfield 94, 3) := by decide +kernel
theorem dX3_addFarmer_37 : decode cX3_addFarmer 37 = .ok (.iconst 1, 1) := by decide +kernel
theorem dX3_addFarmer_38 : decode cX3_addFarmer 38 = .ok (.iadd, 1) := by decide +kernel
theorem dX3_addFarmer_39 : decode cX3_addFarmer 39 = .ok (.putfield 94, 3) := by decide +kernel
theorem dX3_addFarmer_42 : decode cX3_addFarmer 42 = .ok (.aload_n 0, 1) := by decide +kernel
theorem dX3_addFarmer_43 : decode cX3_addFarmer 43 = .ok (.getfield 94, 3) := by decide +kernel
theorem dX3_addFarmer_46 : decode cX3_addFarmer 46 = .ok (.iconst 1, 1) := by decide +kernel
theorem dX3_addFarmer_47 : decode cX3_addFarmer 47 = .ok (.isub, 1) := by decide +kernel
theorem dX3_addFarmer_48 : decode cX3_addFarmer 48 = .ok (.ireturn, 1) := by decide +kernel
theorem dX3_addSack_0 : decode cX3_addSack 0 = .ok (.aload_n 0, 1) := by decide +kernel
theorem dX3_addSack_1 : decode cX3_addSack 1 = .ok (.iload_n 1, 1) := by decide +kernel
theorem dX3_addSack_2 : decode cX3_addSack 2 = .ok (.invokevirtual 138, 3) := by decide +kernel
theorem dX3_addSack_5 : decode cX3_addSack 5 = .ok (.ifCond .eq 22, 3) := by decide +kernel
theorem dX3_addSack_8 : decode cX3_addSack 8 = .ok (.aload_n 0, 1) := by decide +kernel
theorem dX3_addSack_9 : decode cX3_addSack 9 = .ok (.iload_n 2, 1) := by decide +kernel
theorem dX3_addSack_10 : decode cX3_addSack 10 = .ok (.invokevirtual 142, 3) := by decide +kernel
theorem dX3_addSack_13 : decode cX3_addSack 13 = .ok (.ifCond .eq 14, 3) := by decide +kernel
theorem dX3_addSack_16 : decode cX3_addSack 16 = .ok (.iload_n 3, 1) := by decide +kernel
theorem dX3_addSack_17 : decode cX3_addSack 17 = .ok (.iconst 1, 1) := by decide +kernel
theorem dX3_addSack_18 : decode cX3_addSack 18 = .ok (.sipush 200, 3) := by decide +kernel
theorem dX3_addSack_21 : decode cX3_addSack 21 = .ok (.invokestatic 110, 3) := by decide +kernel
theorem dX3_addSack_24 : decode cX3_addSack 24 = .ok (.ifCond .ne 6, 3) := by decide +kernel
theorem dX3_addSack_27 : decode cX3_addSack 27 = .ok (.ldc 120, 2) := by decide +kernel
theorem dX3_addSack_29 : decode cX3_addSack 29 = .ok (.ireturn, 1) := by decide +kernel
theorem dX3_addSack_30 : decode cX3_addSack 30 = .ok (.aload_n 0, 1) := by decide +kernel
theorem dX3_addSack_31 : decode cX3_addSack 31 = .ok (.getfield 97, 3) := by decide +kernel
theorem dX3_addSack_34 : decode cX3_addSack 34 = .ok (.bipush 24, 2) := by decide +kernel
theorem dX3_addSack_36 : decode cX3_addSack 36 = .ok (.if_icmp .lt 6, 3) := by decide +kernel
theorem dX3_addSack_39 : decode cX3_addSack 39 = .ok (.ldc 122, 2) := by decide +kernel
theorem dX3_addSack_41 : decode cX3_addSack 41 = .ok (.ireturn, 1) := by decide +kernel
theorem dX3_addSack_42 : decode cX3_addSack 42 = .ok (.aload_n 0, 1) := by decide +kernel
theorem dX3_addSack_43 : decode cX3_addSack 43 = .ok (.getfield 43, 3) := by decide +kernel
theorem dX3_addSack_46 : decode cX3_addSack 46 = .ok (.aload_n 0, 1) := by decide +kernel
theorem dX3_addSack_47 : decode cX3_addSack 47 = .ok (.getfield 97, 3) := by decide +kernel
theorem dX3_addSack_50 : decode cX3_addSack 50 = .ok (.aaload, 1) := by decide +kernel
theorem dX3_addSack_51 : decode cX3_addSack 51 = .ok (.iload_n 1, 1) := by decide +kernel
theorem dX3_addSack_52 : decode cX3_addSack 52 = .ok (.iload_n 2, 1) := by decide +kernel
theorem dX3_addSack_53 : decode cX3_addSack 53 = .ok (.aload_n 0, 1) := by decide +kernel
theorem dX3_addSack_54 : decode cX3_addSack 54 = .ok (.getfield 31, 3) := by decide +kernel
theorem dX3_addSack_57 : decode cX3_addSack 57 = .ok (.iload_n 2, 1) := by decide +kernel
theorem dX3_addSack_58 : decode cX3_addSack 58 = .ok (.aaload, 1) := by decide +kernel
theorem dX3_addSack_59 : decode cX3_addSack 59 = .ok (.iload_n 3, 1) := by decide +kernel
theorem dX3_addSack_60 : decode cX3_addSack 60 = .ok (.invokevirtual 145, 3) := by decide +kernel
theorem dX3_addSack_63 : decode cX3_addSack 63 = .ok (.aload_n 0, 1) := by decide +kernel
theorem dX3_addSack_64 : decode cX3_addSack 64 = .ok (.dup, 1) := by decide +kernel
theorem dX3_addSack_65 : decode cX3_addSack 65 = .ok (.getfield 97, 3) := by decide +kernel
theorem dX3_addSack_68 : decode cX3_addSack 68 = .ok (.iconst 1, 1) := by decide +kernel
theorem dX3_addSack_69 : decode cX3_addSack 69 = .ok (.iadd, 1) := by decide +kernel
theorem dX3_addSack_70 : decode cX3_addSack 70 = .ok (.putfield 97, 3) := by decide +kernel
theorem dX3_addSack_73 : decode cX3_addSack 73 = .ok (.aload_n 0, 1) := by decide +kernel
theorem dX3_addSack_74 : decode cX3_addSack 74 = .ok (.getfield 97, 3) := by decide +kernel
theorem dX3_addSack_77 : decode cX3_addSack 77 = .ok (.iconst 1, 1) := by decide +kernel
theorem dX3_addSack_78 : decode cX3_addSack 78 = .ok (.isub, 1) := by decide +kernel
theorem dX3_addSack_79 : decode cX3_addSack 79 = .ok (.ireturn, 1) := by decide +kernel
theorem dX3_withdrawSack_0 : decode cX3_withdrawSack 0 = .ok (.aload_n 0, 1) := by decide +kernel
theorem dX3_withdrawSack_1 : decode cX3_withdrawSack 1 = .ok (.iload_n 1, 1) := by decide +kernel
theorem dX3_withdrawSack_2 : decode cX3_withdrawSack 2 = .ok (.invokevirtual 149, 3) := by decide +kernel
theorem dX3_withdrawSack_5 : decode cX3_withdrawSack 5 = .ok (.ifCond .ne 6, 3) := by decide +kernel
theorem dX3_withdrawSack_8 : decode cX3_withdrawSack 8 = .ok (.ldc 120, 2) := by decide +kernel
theorem dX3_withdrawSack_10 : decode cX3_withdrawSack 10 = .ok (.ireturn, 1) := by decide +kernel
theorem dX3_withdrawSack_11 : decode cX3_withdrawSack 11 = .ok (.aload_n 0, 1) := by decide +kernel
theorem dX3_withdrawSack_12 : decode cX3_withdrawSack 12 = .ok (.getfield 43, 3) := by decide +kernel
theorem dX3_withdrawSack_15 : decode cX3_withdrawSack 15 = .ok (.iload_n 1, 1) := by decide +kernel
theorem dX3_withdrawSack_16 : decode cX3_withdrawSack 16 = .ok (.aaload, 1) := by decide +kernel
theorem dX3_withdrawSack_17 : decode cX3_withdrawSack 17 = .ok (.astore_n 2, 1) := by decide +kernel
theorem dX3_withdrawSack_18 : decode cX3_withdrawSack 18 = .ok (.aload_n 2, 1) := by decide +kernel
theorem dX3_withdrawSack_19 : decode cX3_withdrawSack 19 = .ok (.getfield 152, 3) := by decide +kernel
theorem dX3_withdrawSack_22 : decode cX3_withdrawSack 22 = .ok (.ifCond .eq 6, 3) := by decide +kernel
theorem dX3_withdrawSack_25 : decode cX3_withdrawSack 25 = .ok (.ldc 155, 2) := by decide +kernel
theorem dX3_withdrawSack_27 : decode cX3_withdrawSack 27 = .ok (.ireturn, 1) := by decide +kernel
theorem dX3_withdrawSack_28 : decode cX3_withdrawSack 28 = .ok (.aload_n 2, 1) := by decide +kernel
theorem dX3_withdrawSack_29 : decode cX3_withdrawSack 29 = .ok (.aload_n 2, 1) := by decide +kernel
theorem dX3_withdrawSack_30 : decode cX3_withdrawSack 30 = .ok (.invokevirtual 156, 3) := by decide +kernel
theorem dX3_withdrawSack_33 : decode cX3_withdrawSack 33 = .ok (.putfield 160, 3) := by decide +kernel
theorem dX3_withdrawSack_36 : decode cX3_withdrawSack 36 = .ok (.aload_n 2, 1) := by decide +kernel
theorem dX3_withdrawSack_37 : decode cX3_withdrawSack 37 = .ok (.iconst 3, 1) := by decide +kernel
theorem dX3_withdrawSack_38 : decode cX3_withdrawSack 38 = .ok (.putfield 152, 3) := by decide +kernel
theorem dX3_withdrawSack_41 : decode cX3_withdrawSack 41 = .ok (.aload_n 2, 1) := by decide +kernel
theorem dX3_withdrawSack_42 : decode cX3_withdrawSack 42 = .ok (.getfield 160, 3) := by decide +kernel
theorem dX3_withdrawSack_45 : decode cX3_withdrawSack 45 = .ok (.ireturn, 1) := by decide +kernel
theorem dX3_fetchSack_0 : decode cX3_fetchSack 0 = .ok (.aload_n 0, 1) := by decide +kernel
theorem dX3_fetchSack_1 : decode cX3_fetchSack 1 = .ok (.iload_n 1, 1) := by decide +kernel
theorem dX3_fetchSack_2 : decode cX3_fetchSack 2 = .ok (.invokevirtual 149, 3) := by decide +kernel
theorem dX3_fetchSack_5 : decode cX3_fetchSack 5 = .ok (.ifCond .ne 6, 3) := by decide +kernel
theorem dX3_fetchSack_8 : decode cX3_fetchSack 8 = .ok (.ldc 120, 2) := by decide +kernel
theorem dX3_fetchSack_10 : decode cX3_fetchSack 10 = .ok (.ireturn, 1) := by decide +kernel
theorem dX3_fetchSack_11 : decode cX3_fetchSack 11 = .ok (.aload_n 0, 1) := by decide +kernel
theorem dX3_fetchSack_12 : decode cX3_fetchSack 12 = .ok (.getfield 43, 3) := by decide +kernel
theorem dX3_fetchSack_15 : decode cX3_fetchSack 15 = .ok (.iload_n 1, 1) := by decide +kernel
theorem dX3_fetchSack_16 : decode cX3_fetchSack 16 = .ok (.aaload, 1) := by decide +kernel
theorem dX3_fetchSack_17 : decode cX3_fetchSack 17 = .ok (.astore_n 2, 1) := by decide +kernel
theorem dX3_fetchSack_18 : decode cX3_fetchSack 18 = .ok (.aload_n 2, 1) := by decide +kernel
theorem dX3_fetchSack_19 : decode cX3_fetchSack 19 = .ok (.getfield 152, 3) := by decide +kernel
theorem dX3_fetchSack_22 : decode cX3_fetchSack 22 = .ok (.iconst 2, 1) := by decide +kernel
theorem dX3_fetchSack_23 : decode cX3_fetchSack 23 = .ok (.if_icmp .ne 10, 3) := by decide +kernel
theorem dX3_fetchSack_26 : decode cX3_fetchSack 26 = .ok (.aload_n 2, 1) := by decide +kernel
theorem dX3_fetchSack_27 : decode cX3_fetchSack 27 = .ok (.invokevirtual 163, 3) := by decide +kernel
theorem dX3_fetchSack_30 : decode cX3_fetchSack 30 = .ok (.ifCond .eq 6, 3) := by decide +kernel
theorem dX3_fetchSack_33 : decode cX3_fetchSack 33 = .ok (.ldc 155, 2) := by decide +kernel
theorem dX3_fetchSack_35 : decode cX3_fetchSack 35 = .ok (.ireturn, 1) := by decide +kernel
theorem dX3_fetchSack_36 : decode cX3_fetchSack 36 = .ok (.aload_n 2, 1) := by decide +kernel
theorem dX3_fetchSack_37 : decode cX3_fetchSack 37 = .ok (.aload_n 2, 1) := by decide +kernel
theorem dX3_fetchSack_38 : decode cX3_fetchSack 38 = .ok (.invokevirtual 167, 3) := by decide +kernel
theorem dX3_fetchSack_41 : decode cX3_fetchSack 41 = .ok (.putfield 160, 3) := by decide +kernel
theorem dX3_fetchSack_44 : decode cX3_fetchSack 44 = .ok (.aload_n 2, 1) := by decide +kernel
theorem dX3_fetchSack_45 : decode cX3_fetchSack 45 = .ok (.iconst 3, 1) := by decide +kernel
theorem dX3_fetchSack_46 : decode cX3_fetchSack 46 = .ok (.putfield 152, 3) := by decide +kernel
theorem dX3_fetchSack_49 : decode cX3_fetchSack 49 = .ok (.aload_n 2, 1) := by decide +kernel
theorem dX3_fetchSack_50 : decode cX3_fetchSack 50 = .ok (.getfield 160, 3) := by decide +kernel
theorem dX3_fetchSack_53 : decode cX3_fetchSack 53 = .ok (.ireturn, 1) := by decide +kernel
theorem dX3_tellKind_0 : decode cX3_tellKind 0 = .ok (.iload_n 2, 1) := by decide +kernel
theorem dX3_tellKind_1 : decode cX3_tellKind 1 = .ok (.tableswitch 81 0 4 #[35, 45, 55, 65, 72], 35) := by decide +kernel
theorem dX3_tellKind_36 : decode cX3_tellKind 36 = .ok (.aload_n 0, 1) := by decide +kernel
theorem dX3_tellKind_37 : decode cX3_tellKind 37 = .ok (.getfield 31, 3) := by decide +kernel
theorem dX3_tellKind_40 : decode cX3_tellKind 40 = .ok (.iload_n 1, 1) := by decide +kernel
theorem dX3_tellKind_41 : decode cX3_tellKind 41 = .ok (.aaload, 1) := by decide +kernel
theorem dX3_tellKind_42 : decode cX3_tellKind 42 = .ok (.getfield 123, 3) := by decide +kernel
theorem dX3_tellKind_45 : decode cX3_tellKind 45 = .ok (.ireturn, 1) := by decide +kernel
theorem dX3_tellKind_46 : decode cX3_tellKind 46 = .ok (.aload_n 0, 1) := by decide +kernel
theorem dX3_tellKind_47 : decode cX3_tellKind 47 = .ok (.getfield 31, 3) := by decide +kernel
theorem dX3_tellKind_50 : decode cX3_tellKind 50 = .ok (.iload_n 1, 1) := by decide +kernel
theorem dX3_tellKind_51 : decode cX3_tellKind 51 = .ok (.aaload, 1) := by decide +kernel
theorem dX3_tellKind_52 : decode cX3_tellKind 52 = .ok (.getfield 126, 3) := by decide +kernel
theorem dX3_tellKind_55 : decode cX3_tellKind 55 = .ok (.ireturn, 1) := by decide +kernel
theorem dX3_tellKind_56 : decode cX3_tellKind 56 = .ok (.aload_n 0, 1) := by decide +kernel
theorem dX3_tellKind_57 : decode cX3_tellKind 57 = .ok (.getfield 31, 3) := by decide +kernel
theorem dX3_tellKind_60 : decode cX3_tellKind 60 = .ok (.iload_n 1, 1) := by decide +kernel
theorem dX3_tellKind_61 : decode cX3_tellKind 61 = .ok (.aaload, 1) := by decide +kernel
theorem dX3_tellKind_62 : decode cX3_tellKind 62 = .ok (.getfield 129, 3) := by decide +kernel
theorem dX3_tellKind_65 : decode cX3_tellKind 65 = .ok (.ireturn, 1) := by decide +kernel
theorem dX3_tellKind_66 : decode cX3_tellKind 66 = .ok (.aload_n 0, 1) := by decide +kernel
theorem dX3_tellKind_67 : decode cX3_tellKind 67 = .ok (.iconst (-1), 1) := by decide +kernel
theorem dX3_tellKind_68 : decode cX3_tellKind 68 = .ok (.iload_n 1, 1) := by decide +kernel
theorem dX3_tellKind_69 : decode cX3_tellKind 69 = .ok (.invokevirtual 170, 3) := by decide +kernel
theorem dX3_tellKind_72 : decode cX3_tellKind 72 = .ok (.ireturn, 1) := by decide +kernel
theorem dX3_tellKind_73 : decode cX3_tellKind 73 = .ok (.aload_n 0, 1) := by decide +kernel
theorem dX3_tellKind_74 : decode cX3_tellKind 74 = .ok (.iconst (-1), 1) := by decide +kernel
theorem dX3_tellKind_75 : decode cX3_tellKind 75 = .ok (.iload_n 1, 1) := by decide +kernel
theorem dX3_tellKind_76 : decode cX3_tellKind 76 = .ok (.bipush 6, 2) := by decide +kernel
theorem dX3_tellKind_78 : decode cX3_tellKind 78 = .ok (.invokevirtual 174, 3) := by decide +kernel
theorem dX3_tellKind_81 : decode cX3_tellKind 81 = .ok (.ireturn, 1) := by decide +kernel
theorem dX3_tellKind_82 : decode cX3_tellKind 82 = .ok (.aload_n 0, 1) := by decide +kernel
theorem dX3_tellKind_83 : decode cX3_tellKind 83 = .ok (.iconst (-1), 1) := by decide +kernel
theorem dX3_tellKind_84 : decode cX3_tellKind 84 = .ok (.iload_n 1, 1) := by decide +kernel
theorem dX3_tellKind_85 : decode cX3_tellKind 85 = .ok (.bipush 9, 2) := by decide +kernel
theorem dX3_tellKind_87 : decode cX3_tellKind 87 = .ok (.invokevirtual 174, 3) := by decide +kernel
theorem dX3_tellKind_90 : decode cX3_tellKind 90 = .ok (.ireturn, 1) := by decide +kernel
theorem dX3_tellFarmer_0 : decode cX3_tellFarmer 0 = .ok (.iload_n 2, 1) := by decide +kernel
theorem dX3_tellFarmer_1 : decode cX3_tellFarmer 1 = .ok (.tableswitch 76 0 4 #[35, 45, 52, 62, 68], 35) := by decide +kernel
theorem dX3_tellFarmer_36 : decode cX3_tellFarmer 36 = .ok (.aload_n 0, 1) := by decide +kernel
theorem dX3_tellFarmer_37 : decode cX3_tellFarmer 37 = .ok (.getfield 37, 3) := by decide +kernel
theorem dX3_tellFarmer_40 : decode cX3_tellFarmer 40 = .ok (.iload_n 1, 1) := by decide +kernel
theorem dX3_tellFarmer_41 : decode cX3_tellFarmer 41 = .ok (.aaload, 1) := by decide +kernel
theorem dX3_tellFarmer_42 : decode cX3_tellFarmer 42 = .ok (.getfield 132, 3) := by decide +kernel
theorem dX3_tellFarmer_45 : decode cX3_tellFarmer 45 = .ok (.ireturn, 1) := by decide +kernel
theorem dX3_tellFarmer_46 : decode cX3_tellFarmer 46 = .ok (.aload_n 0, 1) := by decide +kernel
theorem dX3_tellFarmer_47 : decode cX3_tellFarmer 47 = .ok (.iload_n 1, 1) := by decide +kernel
theorem dX3_tellFarmer_48 : decode cX3_tellFarmer 48 = .ok (.iconst (-1), 1) := by decide +kernel
theorem dX3_tellFarmer_49 : decode cX3_tellFarmer 49 = .ok (.invokevirtual 170, 3) := by decide +kernel
theorem dX3_tellFarmer_52 : decode cX3_tellFarmer 52 = .ok (.ireturn, 1) := by decide +kernel
theorem dX3_tellFarmer_53 : decode cX3_tellFarmer 53 = .ok (.aload_n 0, 1) := by decide +kernel
theorem dX3_tellFarmer_54 : decode cX3_tellFarmer 54 = .ok (.getfield 37, 3) := by decide +kernel
theorem dX3_tellFarmer_57 : decode cX3_tellFarmer 57 = .ok (.iload_n 1, 1) := by decide +kernel
theorem dX3_tellFarmer_58 : decode cX3_tellFarmer 58 = .ok (.aaload, 1) := by decide +kernel
theorem dX3_tellFarmer_59 : decode cX3_tellFarmer 59 = .ok (.getfield 135, 3) := by decide +kernel
theorem dX3_tellFarmer_62 : decode cX3_tellFarmer 62 = .ok (.ireturn, 1) := by decide +kernel
theorem dX3_tellFarmer_63 : decode cX3_tellFarmer 63 = .ok (.aload_n 0, 1) := by decide +kernel
theorem dX3_tellFarmer_64 : decode cX3_tellFarmer 64 = .ok (.iload_n 1, 1) := by decide +kernel
theorem dX3_tellFarmer_65 : decode cX3_tellFarmer 65 = .ok (.invokevirtual 178, 3) := by decide +kernel
theorem dX3_tellFarmer_68 : decode cX3_tellFarmer 68 = .ok (.ireturn, 1) := by decide +kernel
theorem dX3_tellFarmer_69 : decode cX3_tellFarmer 69 = .ok (.aload_n 0, 1) := by decide +kernel
theorem dX3_tellFarmer_70 : decode cX3_tellFarmer 70 = .ok (.iload_n 1, 1) := by decide +kernel
theorem dX3_tellFarmer_71 : decode cX3_tellFarmer 71 = .ok (.iconst (-1), 1) := by decide +kernel
theorem dX3_tellFarmer_72 : decode cX3_tellFarmer 72 = .ok (.iconst 5, 1) := by decide +kernel
theorem dX3_tellFarmer_73 : decode cX3_tellFarmer 73 = .ok (.invokevirtual 174, 3) := by decide +kernel
theorem dX3_tellFarmer_76 : decode cX3_tellFarmer 76 = .ok (.ireturn, 1) := by decide +kernel
theorem dX3_tellFarmer_77 : decode cX3_tellFarmer 77 = .ok (.aload_n 0, 1) := by decide +kernel
theorem dX3_tellFarmer_78 : decode cX3_tellFarmer 78 = .ok (.iload_n 1, 1) := by decide +kernel
theorem dX3_tellFarmer_79 : decode cX3_tellFarmer 79 = .ok (.iconst (-1), 1) := by decide +kernel
theorem dX3_tellFarmer_80 : decode cX3_tellFarmer 80 = .ok (.bipush 10, 2) := by decide +kernel
theorem dX3_tellFarmer_82 : decode cX3_tellFarmer 82 = .ok (.invokevirtual 174, 3) := by decide +kernel
theorem dX3_tellFarmer_85 : decode cX3_tellFarmer 85 = .ok (.ireturn, 1) := by decide +kernel
theorem dX3_sumOf_0 : decode cX3_sumOf 0 = .ok (.iconst 0, 1) := by decide +kernel
theorem dX3_sumOf_1 : decode cX3_sumOf 1 = .ok (.istore 4, 2) := by decide +kernel
theorem dX3_sumOf_3 : decode cX3_sumOf 3 = .ok (.iconst 0, 1) := by decide +kernel
theorem dX3_sumOf_4 : decode cX3_sumOf 4 = .ok (.istore 5, 2) := by decide +kernel
theorem dX3_sumOf_6 : decode cX3_sumOf 6 = .ok (.iload 5, 2) := by decide +kernel
theorem dX3_sumOf_8 : decode cX3_sumOf 8 = .ok (.aload_n 0, 1) := by decide +kernel
theorem dX3_sumOf_9 : decode cX3_sumOf 9 = .ok (.getfield 97, 3) := by decide +kernel
theorem dX3_sumOf_12 : decode cX3_sumOf 12 = .ok (.if_icmp .ge 40, 3) := by decide +kernel
theorem dX3_sumOf_15 : decode cX3_sumOf 15 = .ok (.aload_n 0, 1) := by decide +kernel
theorem dX3_sumOf_16 : decode cX3_sumOf 16 = .ok (.getfield 43, 3) := by decide +kernel
theorem dX3_sumOf_19 : decode cX3_sumOf 19 = .ok (.iload 5, 2) := by decide +kernel
theorem dX3_sumOf_21 : decode cX3_sumOf 21 = .ok (.aaload, 1) := by decide +kernel
theorem dX3_sumOf_22 : decode cX3_sumOf 22 = .ok (.iload_n 1, 1) := by decide +kernel
theorem dX3_sumOf_23 : decode cX3_sumOf 23 = .ok (.iload_n 2, 1) := by decide +kernel
theorem dX3_sumOf_24 : decode cX3_sumOf 24 = .ok (.invokevirtual 182, 3) := by decide +kernel
theorem dX3_sumOf_27 : decode cX3_sumOf 27 = .ok (.ifCond .eq 19, 3) := by decide +kernel
theorem dX3_sumOf_30 : decode cX3_sumOf 30 = .ok (.iload 4, 2) := by decide +kernel
theorem dX3_sumOf_32 : decode cX3_sumOf 32 = .ok (.aload_n 0, 1) := by decide +kernel
theorem dX3_sumOf_33 : decode cX3_sumOf 33 = .ok (.getfield 43, 3) := by decide +kernel
theorem dX3_sumOf_36 : decode cX3_sumOf 36 = .ok (.iload 5, 2) := by decide +kernel
theorem dX3_sumOf_38 : decode cX3_sumOf 38 = .ok (.aaload, 1) := by decide +kernel
theorem dX3_sumOf_39 : decode cX3_sumOf 39 = .ok (.iload_n 3, 1) := by decide +kernel
theorem dX3_sumOf_40 : decode cX3_sumOf 40 = .ok (.invokevirtual 186, 3) := by decide +kernel
theorem dX3_sumOf_43 : decode cX3_sumOf 43 = .ok (.iadd, 1) := by decide +kernel
theorem dX3_sumOf_44 : decode cX3_sumOf 44 = .ok (.istore 4, 2) := by decide +kernel
theorem dX3_sumOf_46 : decode cX3_sumOf 46 = .ok (.iinc 5 1, 3) := by decide +kernel
theorem dX3_sumOf_49 : decode cX3_sumOf 49 = .ok (.goto (-43), 3) := by decide +kernel
theorem dX3_sumOf_52 : decode cX3_sumOf 52 = .ok (.iload 4, 2) := by decide +kernel
theorem dX3_sumOf_54 : decode cX3_sumOf 54 = .ok (.ireturn, 1) := by decide +kernel
theorem dX3_sacksBrought_0 : decode cX3_sacksBrought 0 = .ok (.iconst 0, 1) := by decide +kernel
theorem dX3_sacksBrought_1 : decode cX3_sacksBrought 1 = .ok (.istore_n 3, 1) := by decide +kernel
theorem dX3_sacksBrought_2 : decode cX3_sacksBrought 2 = .ok (.iconst 0, 1) := by decide +kernel
theorem dX3_sacksBrought_3 : decode cX3_sacksBrought 3 = .ok (.istore 4, 2) := by decide +kernel
theorem dX3_sacksBrought_5 : decode cX3_sacksBrought 5 = .ok (.iload 4, 2) := by decide +kernel
theorem dX3_sacksBrought_7 : decode cX3_sacksBrought 7 = .ok (.aload_n 0, 1) := by decide +kernel
theorem dX3_sacksBrought_8 : decode cX3_sacksBrought 8 = .ok (.getfield 97, 3) := by decide +kernel
theorem dX3_sacksBrought_11 : decode cX3_sacksBrought 11 = .ok (.if_icmp .ge 27, 3) := by decide +kernel
theorem dX3_sacksBrought_14 : decode cX3_sacksBrought 14 = .ok (.aload_n 0, 1) := by decide +kernel
theorem dX3_sacksBrought_15 : decode cX3_sacksBrought 15 = .ok (.getfield 43, 3) := by decide +kernel
theorem dX3_sacksBrought_18 : decode cX3_sacksBrought 18 = .ok (.iload 4, 2) := by decide +kernel
theorem dX3_sacksBrought_20 : decode cX3_sacksBrought 20 = .ok (.aaload, 1) := by decide +kernel
theorem dX3_sacksBrought_21 : decode cX3_sacksBrought 21 = .ok (.iload_n 1, 1) := by decide +kernel
theorem dX3_sacksBrought_22 : decode cX3_sacksBrought 22 = .ok (.iload_n 2, 1) := by decide +kernel
theorem dX3_sacksBrought_23 : decode cX3_sacksBrought 23 = .ok (.invokevirtual 182, 3) := by decide +kernel
theorem dX3_sacksBrought_26 : decode cX3_sacksBrought 26 = .ok (.ifCond .eq 6, 3) := by decide +kernel
theorem dX3_sacksBrought_29 : decode cX3_sacksBrought 29 = .ok (.iinc 3 1, 3) := by decide +kernel
theorem dX3_sacksBrought_32 : decode cX3_sacksBrought 32 = .ok (.iinc 4 1, 3) := by decide +kernel
theorem dX3_sacksBrought_35 : decode cX3_sacksBrought 35 = .ok (.goto (-30), 3) := by decide +kernel
theorem dX3_sacksBrought_38 : decode cX3_sacksBrought 38 = .ok (.iload_n 3, 1) := by decide +kernel
theorem dX3_sacksBrought_39 : decode cX3_sacksBrought 39 = .ok (.ireturn, 1) := by decide +kernel
theorem dX3_sacksInStage_0 : decode cX3_sacksInStage 0 = .ok (.iconst 0, 1) := by decide +kernel
theorem dX3_sacksInStage_1 : decode cX3_sacksInStage 1 = .ok (.istore_n 2, 1) := by decide +kernel
theorem dX3_sacksInStage_2 : decode cX3_sacksInStage 2 = .ok (.iconst 0, 1) := by decide +kernel
theorem dX3_sacksInStage_3 : decode cX3_sacksInStage 3 = .ok (.istore_n 3, 1) := by decide +kernel
theorem dX3_sacksInStage_4 : decode cX3_sacksInStage 4 = .ok (.iload_n 3, 1) := by decide +kernel
theorem dX3_sacksInStage_5 : decode cX3_sacksInStage 5 = .ok (.aload_n 0, 1) := by decide +kernel
theorem dX3_sacksInStage_6 : decode cX3_sacksInStage 6 = .ok (.getfield 97, 3) := by decide +kernel
theorem dX3_sacksInStage_9 : decode cX3_sacksInStage 9 = .ok (.if_icmp .ge 25, 3) := by decide +kernel
theorem dX3_sacksInStage_12 : decode cX3_sacksInStage 12 = .ok (.aload_n 0, 1) := by decide +kernel
theorem dX3_sacksInStage_13 : decode cX3_sacksInStage 13 = .ok (.getfield 43, 3) := by decide +kernel
theorem dX3_sacksInStage_16 : decode cX3_sacksInStage 16 = .ok (.iload_n 3, 1) := by decide +kernel
theorem dX3_sacksInStage_17 : decode cX3_sacksInStage 17 = .ok (.aaload, 1) := by decide +kernel
theorem dX3_sacksInStage_18 : decode cX3_sacksInStage 18 = .ok (.getfield 152, 3) := by decide +kernel
theorem dX3_sacksInStage_21 : decode cX3_sacksInStage 21 = .ok (.iload_n 1, 1) := by decide +kernel
theorem dX3_sacksInStage_22 : decode cX3_sacksInStage 22 = .ok (.if_icmp .ne 6, 3) := by decide +kernel
theorem dX3_sacksInStage_25 : decode cX3_sacksInStage 25 = .ok (.iinc 2 1, 3) := by decide +kernel
theorem dX3_sacksInStage_28 : decode cX3_sacksInStage 28 = .ok (.iinc 3 1, 3) := by decide +kernel
theorem dX3_sacksInStage_31 : decode cX3_sacksInStage 31 = .ok (.goto (-27), 3) := by decide +kernel
theorem dX3_sacksInStage_34 : decode cX3_sacksInStage 34 = .ok (.iload_n 2, 1) := by decide +kernel
theorem dX3_sacksInStage_35 : decode cX3_sacksInStage 35 = .ok (.ireturn, 1) := by decide +kernel
theorem dX3_placeInQueue_0 : decode cX3_placeInQueue 0 = .ok (.aload_n 0, 1) := by decide +kernel
theorem dX3_placeInQueue_1 : decode cX3_placeInQueue 1 = .ok (.getfield 43, 3) := by decide +kernel
theorem dX3_placeInQueue_4 : decode cX3_placeInQueue 4 = .ok (.iload_n 1, 1) := by decide +kernel
theorem dX3_placeInQueue_5 : decode cX3_placeInQueue 5 = .ok (.aaload, 1) := by decide +kernel
theorem dX3_placeInQueue_6 : decode cX3_placeInQueue 6 = .ok (.getfield 152, 3) := by decide +kernel
theorem dX3_placeInQueue_9 : decode cX3_placeInQueue 9 = .ok (.ifCond .eq 6, 3) := by decide +kernel
theorem dX3_placeInQueue_12 : decode cX3_placeInQueue 12 = .ok (.ldc 189, 2) := by decide +kernel
theorem dX3_placeInQueue_14 : decode cX3_placeInQueue 14 = .ok (.ireturn, 1) := by decide +kernel
theorem dX3_placeInQueue_15 : decode cX3_placeInQueue 15 = .ok (.iconst 0, 1) := by decide +kernel
theorem dX3_placeInQueue_16 : decode cX3_placeInQueue 16 = .ok (.istore_n 2, 1) := by decide +kernel
theorem dX3_placeInQueue_17 : decode cX3_placeInQueue 17 = .ok (.iconst 0, 1) := by decide +kernel
theorem dX3_placeInQueue_18 : decode cX3_placeInQueue 18 = .ok (.istore_n 3, 1) := by decide +kernel
theorem dX3_placeInQueue_19 : decode cX3_placeInQueue 19 = .ok (.iload_n 3, 1) := by decide +kernel
theorem dX3_placeInQueue_20 : decode cX3_placeInQueue 20 = .ok (.aload_n 0, 1) := by decide +kernel
theorem dX3_placeInQueue_21 : decode cX3_placeInQueue 21 = .ok (.getfield 97, 3) := by decide +kernel
theorem dX3_placeInQueue_24 : decode cX3_placeInQueue 24 = .ok (.if_icmp .ge 33, 3) := by decide +kernel
theorem dX3_placeInQueue_27 : decode cX3_placeInQueue 27 = .ok (.aload_n 0, 1) := by decide +kernel
theorem dX3_placeInQueue_28 : decode cX3_placeInQueue 28 = .ok (.getfield 43, 3) := by decide +kernel
theorem dX3_placeInQueue_31 : decode cX3_placeInQueue 31 = .ok (.iload_n 3, 1) := by decide +kernel
theorem dX3_placeInQueue_32 : decode cX3_placeInQueue 32 = .ok (.aaload, 1) := by decide +kernel
theorem dX3_placeInQueue_33 : decode cX3_placeInQueue 33 = .ok (.getfield 152, 3) := by decide +kernel
theorem dX3_placeInQueue_36 : decode cX3_placeInQueue 36 = .ok (.ifCond .ne 15, 3) := by decide +kernel
theorem dX3_placeInQueue_39 : decode cX3_placeInQueue 39 = .ok (.aload_n 0, 1) := by decide +kernel
theorem dX3_placeInQueue_40 : decode cX3_placeInQueue 40 = .ok (.iload_n 3, 1) := by decide +kernel
theorem dX3_placeInQueue_41 : decode cX3_placeInQueue 41 = .ok (.iload_n 1, 1) := by decide +kernel
theorem dX3_placeInQueue_42 : decode cX3_placeInQueue 42 = .ok (.invokevirtual 190, 3) := by decide +kernel
theorem dX3_placeInQueue_45 : decode cX3_placeInQueue 45 = .ok (.ifCond .eq 6, 3) := by decide +kernel
theorem dX3_placeInQueue_48 : decode cX3_placeInQueue 48 = .ok (.iinc 2 1, 3) := by decide +kernel
theorem dX3_placeInQueue_51 : decode cX3_placeInQueue 51 = .ok (.iinc 3 1, 3) := by decide +kernel
theorem dX3_placeInQueue_54 : decode cX3_placeInQueue 54 = .ok (.goto (-35), 3) := by decide +kernel
theorem dX3_placeInQueue_57 : decode cX3_placeInQueue 57 = .ok (.iload_n 2, 1) := by decide +kernel
theorem dX3_placeInQueue_58 : decode cX3_placeInQueue 58 = .ok (.ireturn, 1) := by decide +kernel
theorem dX3_sackAtPlace_0 : decode cX3_sackAtPlace 0 = .ok (.iconst 0, 1) := by decide +kernel
theorem dX3_sackAtPlace_1 : decode cX3_sackAtPlace 1 = .ok (.istore_n 2, 1) := by decide +kernel
theorem dX3_sackAtPlace_2 : decode cX3_sackAtPlace 2 = .ok (.iload_n 2, 1) := by decide +kernel
theorem dX3_sackAtPlace_3 : decode cX3_sackAtPlace 3 = .ok (.aload_n 0, 1) := by decide +kernel
theorem dX3_sackAtPlace_4 : decode cX3_sackAtPlace 4 = .ok (.getfield 97, 3) := by decide +kernel
theorem dX3_sackAtPlace_7 : decode cX3_sackAtPlace 7 = .ok (.if_icmp .ge 20, 3) := by decide +kernel
theorem dX3_sackAtPlace_10 : decode cX3_sackAtPlace 10 = .ok (.aload_n 0, 1) := by decide +kernel
theorem dX3_sackAtPlace_11 : decode cX3_sackAtPlace 11 = .ok (.iload_n 2, 1) := by decide +kernel
theorem dX3_sackAtPlace_12 : decode cX3_sackAtPlace 12 = .ok (.invokevirtual 193, 3) := by decide +kernel
theorem dX3_sackAtPlace_15 : decode cX3_sackAtPlace 15 = .ok (.iload_n 1, 1) := by decide +kernel
theorem dX3_sackAtPlace_16 : decode cX3_sackAtPlace 16 = .ok (.if_icmp .ne 5, 3) := by decide +kernel
theorem dX3_sackAtPlace_19 : decode cX3_sackAtPlace 19 = .ok (.iload_n 2, 1) := by decide +kernel
theorem dX3_sackAtPlace_20 : decode cX3_sackAtPlace 20 = .ok (.ireturn, 1) := by decide +kernel
theorem dX3_sackAtPlace_21 : decode cX3_sackAtPlace 21 = .ok (.iinc 2 1, 3) := by decide +kernel
theorem dX3_sackAtPlace_24 : decode cX3_sackAtPlace 24 = .ok (.goto (-22), 3) := by decide +kernel
theorem dX3_sackAtPlace_27 : decode cX3_sackAtPlace 27 = .ok (.ldc 189, 2) := by decide +kernel
theorem dX3_sackAtPlace_29 : decode cX3_sackAtPlace 29 = .ok (.ireturn, 1) := by decide +kernel
theorem dX3_firstOfQueue_0 : decode cX3_firstOfQueue 0 = .ok (.iconst (-1), 1) := by decide +kernel
theorem dX3_firstOfQueue_1 : decode cX3_firstOfQueue 1 = .ok (.istore_n 1, 1) := by decide +kernel
theorem dX3_firstOfQueue_2 : decode cX3_firstOfQueue 2 = .ok (.iconst 0, 1) := by decide +kernel
theorem dX3_firstOfQueue_3 : decode cX3_firstOfQueue 3 = .ok (.istore_n 2, 1) := by decide +kernel
theorem dX3_firstOfQueue_4 : decode cX3_firstOfQueue 4 = .ok (.iconst 0, 1) := by decide +kernel
theorem dX3_firstOfQueue_5 : decode cX3_firstOfQueue 5 = .ok (.istore_n 3, 1) := by decide +kernel
theorem dX3_firstOfQueue_6 : decode cX3_firstOfQueue 6 = .ok (.iload_n 3, 1) := by decide +kernel
theorem dX3_firstOfQueue_7 : decode cX3_firstOfQueue 7 = .ok (.aload_n 0, 1) := by decide +kernel
theorem dX3_firstOfQueue_8 : decode cX3_firstOfQueue 8 = .ok (.getfield 97, 3) := by decide +kernel
theorem dX3_firstOfQueue_11 : decode cX3_firstOfQueue 11 = .ok (.if_icmp .ge 49, 3) := by decide +kernel
theorem dX3_firstOfQueue_14 : decode cX3_firstOfQueue 14 = .ok (.aload_n 0, 1) := by decide +kernel
theorem dX3_firstOfQueue_15 : decode cX3_firstOfQueue 15 = .ok (.getfield 43, 3) := by decide +kernel
theorem dX3_firstOfQueue_18 : decode cX3_firstOfQueue 18 = .ok (.iload_n 3, 1) := by decide +kernel
theorem dX3_firstOfQueue_19 : decode cX3_firstOfQueue 19 = .ok (.aaload, 1) := by decide +kernel
theorem dX3_firstOfQueue_20 : decode cX3_firstOfQueue 20 = .ok (.getfield 152, 3) := by decide +kernel
theorem dX3_firstOfQueue_23 : decode cX3_firstOfQueue 23 = .ok (.ifCond .ne 31, 3) := by decide +kernel
theorem dX3_firstOfQueue_26 : decode cX3_firstOfQueue 26 = .ok (.aload_n 0, 1) := by decide +kernel
theorem dX3_firstOfQueue_27 : decode cX3_firstOfQueue 27 = .ok (.aload_n 0, 1) := by decide +kernel
theorem dX3_firstOfQueue_28 : decode cX3_firstOfQueue 28 = .ok (.getfield 43, 3) := by decide +kernel
theorem dX3_firstOfQueue_31 : decode cX3_firstOfQueue 31 = .ok (.iload_n 3, 1) := by decide +kernel
theorem dX3_firstOfQueue_32 : decode cX3_firstOfQueue 32 = .ok (.aaload, 1) := by decide +kernel
theorem dX3_firstOfQueue_33 : decode cX3_firstOfQueue 33 = .ok (.invokevirtual 196, 3) := by decide +kernel
theorem dX3_firstOfQueue_36 : decode cX3_firstOfQueue 36 = .ok (.istore 4, 2) := by decide +kernel
theorem dX3_firstOfQueue_38 : decode cX3_firstOfQueue 38 = .ok (.iload_n 1, 1) := by decide +kernel
theorem dX3_firstOfQueue_39 : decode cX3_firstOfQueue 39 = .ok (.iconst (-1), 1) := by decide +kernel
theorem dX3_firstOfQueue_40 : decode cX3_firstOfQueue 40 = .ok (.if_icmp .eq 9, 3) := by decide +kernel
theorem dX3_firstOfQueue_43 : decode cX3_firstOfQueue 43 = .ok (.iload 4, 2) := by decide +kernel
theorem dX3_firstOfQueue_45 : decode cX3_firstOfQueue 45 = .ok (.iload_n 2, 1) := by decide +kernel
theorem dX3_firstOfQueue_46 : decode cX3_firstOfQueue 46 = .ok (.if_icmp .ge 8, 3) := by decide +kernel
theorem dX3_firstOfQueue_49 : decode cX3_firstOfQueue 49 = .ok (.iload_n 3, 1) := by decide +kernel
theorem dX3_firstOfQueue_50 : decode cX3_firstOfQueue 50 = .ok (.istore_n 1, 1) := by decide +kernel
theorem dX3_firstOfQueue_51 : decode cX3_firstOfQueue 51 = .ok (.iload 4, 2) := by decide +kernel
theorem dX3_firstOfQueue_53 : decode cX3_firstOfQueue 53 = .ok (.istore_n 2, 1) := by decide +kernel
theorem dX3_firstOfQueue_54 : decode cX3_firstOfQueue 54 = .ok (.iinc 3 1, 3) := by decide +kernel
theorem dX3_firstOfQueue_57 : decode cX3_firstOfQueue 57 = .ok (.goto (-51), 3) := by decide +kernel
theorem dX3_firstOfQueue_60 : decode cX3_firstOfQueue 60 = .ok (.iload_n 1, 1) := by decide +kernel
theorem dX3_firstOfQueue_61 : decode cX3_firstOfQueue 61 = .ok (.ireturn, 1) := by decide +kernel
theorem dX3_waitsAheadOf_0 : decode cX3_waitsAheadOf 0 = .ok (.aload_n 0, 1) := by decide +kernel
theorem dX3_waitsAheadOf_1 : decode cX3_waitsAheadOf 1 = .ok (.aload_n 0, 1) := by decide +kernel
theorem dX3_waitsAheadOf_2 : decode cX3_waitsAheadOf 2 = .ok (.getfield 43, 3) := by decide +kernel
theorem dX3_waitsAheadOf_5 : decode cX3_waitsAheadOf 5 = .ok (.iload_n 1, 1) := by decide +kernel
theorem dX3_waitsAheadOf_6 : decode cX3_waitsAheadOf 6 = .ok (.aaload, 1) := by decide +kernel
theorem dX3_waitsAheadOf_7 : decode cX3_waitsAheadOf 7 = .ok (.invokevirtual 196, 3) := by decide +kernel
theorem dX3_waitsAheadOf_10 : decode cX3_waitsAheadOf 10 = .ok (.istore_n 3, 1) := by decide +kernel
theorem dX3_waitsAheadOf_11 : decode cX3_waitsAheadOf 11 = .ok (.aload_n 0, 1) := by decide +kernel
theorem dX3_waitsAheadOf_12 : decode cX3_waitsAheadOf 12 = .ok (.aload_n 0, 1) := by decide +kernel
theorem dX3_waitsAheadOf_13 : decode cX3_waitsAheadOf 13 = .ok (.getfield 43, 3) := by decide +kernel
theorem dX3_waitsAheadOf_16 : decode cX3_waitsAheadOf 16 = .ok (.iload_n 2, 1) := by decide +kernel
theorem dX3_waitsAheadOf_17 : decode cX3_waitsAheadOf 17 = .ok (.aaload, 1) := by decide +kernel
theorem dX3_waitsAheadOf_18 : decode cX3_waitsAheadOf 18 = .ok (.invokevirtual 196, 3) := by decide +kernel
theorem dX3_waitsAheadOf_21 : decode cX3_waitsAheadOf 21 = .ok (.istore 4, 2) := by decide +kernel
theorem dX3_waitsAheadOf_23 : decode cX3_waitsAheadOf 23 = .ok (.iload_n 3, 1) := by decide +kernel
theorem dX3_waitsAheadOf_24 : decode cX3_waitsAheadOf 24 = .ok (.iload 4, 2) := by decide +kernel
theorem dX3_waitsAheadOf_26 : decode cX3_waitsAheadOf 26 = .ok (.if_icmp .lt 14, 3) := by decide +kernel
theorem dX3_waitsAheadOf_29 : decode cX3_waitsAheadOf 29 = .ok (.iload_n 3, 1) := by decide +kernel
theorem dX3_waitsAheadOf_30 : decode cX3_waitsAheadOf 30 = .ok (.iload 4, 2) := by decide +kernel
theorem dX3_waitsAheadOf_32 : decode cX3_waitsAheadOf 32 = .ok (.if_icmp .ne 12, 3) := by decide +kernel
theorem dX3_waitsAheadOf_35 : decode cX3_waitsAheadOf 35 = .ok (.iload_n 1, 1) := by decide +kernel
theorem dX3_waitsAheadOf_36 : decode cX3_waitsAheadOf 36 = .ok (.iload_n 2, 1) := by decide +kernel
theorem dX3_waitsAheadOf_37 : decode cX3_waitsAheadOf 37 = .ok (.if_icmp .ge 7, 3) := by decide +kernel
theorem dX3_waitsAheadOf_40 : decode cX3_waitsAheadOf 40 = .ok (.iconst 1, 1) := by decide +kernel
theorem dX3_waitsAheadOf_41 : decode cX3_waitsAheadOf 41 = .ok (.goto 4, 3) := by decide +kernel
theorem dX3_waitsAheadOf_44 : decode cX3_waitsAheadOf 44 = .ok (.iconst 0, 1) := by decide +kernel
theorem dX3_waitsAheadOf_45 : decode cX3_waitsAheadOf 45 = .ok (.ireturn, 1) := by decide +kernel
theorem dX3_rankInQueue_0 : decode cX3_rankInQueue 0 = .ok (.aload_n 0, 1) := by decide +kernel
theorem dX3_rankInQueue_1 : decode cX3_rankInQueue 1 = .ok (.getfield 18, 3) := by decide +kernel
theorem dX3_rankInQueue_4 : decode cX3_rankInQueue 4 = .ok (.bipush 12, 2) := by decide +kernel
theorem dX3_rankInQueue_6 : decode cX3_rankInQueue 6 = .ok (.iaload, 1) := by decide +kernel
theorem dX3_rankInQueue_7 : decode cX3_rankInQueue 7 = .ok (.tableswitch 78 1 3 #[25, 30, 58], 25) := by decide +kernel
theorem dX3_rankInQueue_32 : decode cX3_rankInQueue 32 = .ok (.aload_n 1, 1) := by decide +kernel
theorem dX3_rankInQueue_33 : decode cX3_rankInQueue 33 = .ok (.getfield 200, 3) := by decide +kernel
theorem dX3_rankInQueue_36 : decode cX3_rankInQueue 36 = .ok (.ireturn, 1) := by decide +kernel
theorem dX3_rankInQueue_37 : decode cX3_rankInQueue 37 = .ok (.aload_n 0, 1) := by decide +kernel
theorem dX3_rankInQueue_38 : decode cX3_rankInQueue 38 = .ok (.aload_n 1, 1) := by decide +kernel
theorem dX3_rankInQueue_39 : decode cX3_rankInQueue 39 = .ok (.getfield 203, 3) := by decide +kernel
theorem dX3_rankInQueue_42 : decode cX3_rankInQueue 42 = .ok (.invokevirtual 138, 3) := by decide +kernel
theorem dX3_rankInQueue_45 : decode cX3_rankInQueue 45 = .ok (.ifCond .eq 18, 3) := by decide +kernel
theorem dX3_rankInQueue_48 : decode cX3_rankInQueue 48 = .ok (.aload_n 0, 1) := by decide +kernel
theorem dX3_rankInQueue_49 : decode cX3_rankInQueue 49 = .ok (.getfield 37, 3) := by decide +kernel
theorem dX3_rankInQueue_52 : decode cX3_rankInQueue 52 = .ok (.aload_n 1, 1) := by decide +kernel
theorem dX3_rankInQueue_53 : decode cX3_rankInQueue 53 = .ok (.getfield 203, 3) := by decide +kernel
theorem dX3_rankInQueue_56 : decode cX3_rankInQueue 56 = .ok (.aaload, 1) := by decide +kernel
theorem dX3_rankInQueue_57 : decode cX3_rankInQueue 57 = .ok (.getfield 135, 3) := by decide +kernel
theorem dX3_rankInQueue_60 : decode cX3_rankInQueue 60 = .ok (.goto 4, 3) := by decide +kernel
theorem dX3_rankInQueue_63 : decode cX3_rankInQueue 63 = .ok (.iconst 0, 1) := by decide +kernel
theorem dX3_rankInQueue_64 : decode cX3_rankInQueue 64 = .ok (.ireturn, 1) := by decide +kernel
theorem dX3_rankInQueue_65 : decode cX3_rankInQueue 65 = .ok (.aload_n 1, 1) := by decide +kernel
theorem dX3_rankInQueue_66 : decode cX3_rankInQueue 66 = .ok (.getfield 206, 3) := by decide +kernel
theorem dX3_rankInQueue_69 : decode cX3_rankInQueue 69 = .ok (.aload_n 0, 1) := by decide +kernel
theorem dX3_rankInQueue_70 : decode cX3_rankInQueue 70 = .ok (.getfield 51, 3) := by decide +kernel
theorem dX3_rankInQueue_73 : decode cX3_rankInQueue 73 = .ok (.if_icmp .ne 7, 3) := by decide +kernel
theorem dX3_rankInQueue_76 : decode cX3_rankInQueue 76 = .ok (.iconst 0, 1) := by decide +kernel
theorem dX3_rankInQueue_77 : decode cX3_rankInQueue 77 = .ok (.goto 7, 3) := by decide +kernel
theorem dX3_rankInQueue_80 : decode cX3_rankInQueue 80 = .ok (.aload_n 1, 1) := by decide +kernel
theorem dX3_rankInQueue_81 : decode cX3_rankInQueue 81 = .ok (.getfield 209, 3) := by decide +kernel
theorem dX3_rankInQueue_84 : decode cX3_rankInQueue 84 = .ok (.ireturn, 1) := by decide +kernel
theorem dX3_rankInQueue_85 : decode cX3_rankInQueue 85 = .ok (.iconst 0, 1) := by decide +kernel
theorem dX3_rankInQueue_86 : decode cX3_rankInQueue 86 = .ok (.ireturn, 1) := by decide +kernel
theorem dX3_addPence_0 : decode cX3_addPence 0 = .ok (.aload_n 0, 1) := by decide +kernel
theorem dX3_addPence_1 : decode cX3_addPence 1 = .ok (.iload_n 1, 1) := by decide +kernel
theorem dX3_addPence_2 : decode cX3_addPence 2 = .ok (.invokevirtual 138, 3) := by decide +kernel
theorem dX3_addPence_5 : decode cX3_addPence 5 = .ok (.ifCond .eq 13, 3) := by decide +kernel
theorem dX3_addPence_8 : decode cX3_addPence 8 = .ok (.iload_n 2, 1) := by decide +kernel
theorem dX3_addPence_9 : decode cX3_addPence 9 = .ok (.iconst 1, 1) := by decide +kernel
theorem dX3_addPence_10 : decode cX3_addPence 10 = .ok (.ldc 210, 2) := by decide +kernel
theorem dX3_addPence_12 : decode cX3_addPence 12 = .ok (.invokestatic 110, 3) := by decide +kernel
theorem dX3_addPence_15 : decode cX3_addPence 15 = .ok (.ifCond .ne 6, 3) := by decide +kernel
theorem dX3_addPence_18 : decode cX3_addPence 18 = .ok (.ldc 120, 2) := by decide +kernel
theorem dX3_addPence_20 : decode cX3_addPence 20 = .ok (.ireturn, 1) := by decide +kernel
theorem dX3_addPence_21 : decode cX3_addPence 21 = .ok (.aload_n 0, 1) := by decide +kernel
theorem dX3_addPence_22 : decode cX3_addPence 22 = .ok (.getfield 37, 3) := by decide +kernel
theorem dX3_addPence_25 : decode cX3_addPence 25 = .ok (.iload_n 1, 1) := by decide +kernel
theorem dX3_addPence_26 : decode cX3_addPence 26 = .ok (.aaload, 1) := by decide +kernel
theorem dX3_addPence_27 : decode cX3_addPence 27 = .ok (.astore_n 3, 1) := by decide +kernel
theorem dX3_addPence_28 : decode cX3_addPence 28 = .ok (.aload_n 3, 1) := by decide +kernel
theorem dX3_addPence_29 : decode cX3_addPence 29 = .ok (.getfield 132, 3) := by decide +kernel
theorem dX3_addPence_32 : decode cX3_addPence 32 = .ok (.i2l, 1) := by decide +kernel
theorem dX3_addPence_33 : decode cX3_addPence 33 = .ok (.iload_n 2, 1) := by decide +kernel
theorem dX3_addPence_34 : decode cX3_addPence 34 = .ok (.i2l, 1) := by decide +kernel
theorem dX3_addPence_35 : decode cX3_addPence 35 = .ok (.ladd, 1) := by decide +kernel
theorem dX3_addPence_36 : decode cX3_addPence 36 = .ok (.ldc2_w 211, 3) := by decide +kernel
theorem dX3_addPence_39 : decode cX3_addPence 39 = .ok (.lcmp, 1) := by decide +kernel
theorem dX3_addPence_40 : decode cX3_addPence 40 = .ok (.ifCond .le 6, 3) := by decide +kernel
theorem dX3_addPence_43 : decode cX3_addPence 43 = .ok (.ldc 155, 2) := by decide +kernel
theorem dX3_addPence_45 : decode cX3_addPence 45 = .ok (.ireturn, 1) := by decide +kernel
theorem dX3_addPence_46 : decode cX3_addPence 46 = .ok (.aload_n 3, 1) := by decide +kernel
theorem dX3_addPence_47 : decode cX3_addPence 47 = .ok (.dup, 1) := by decide +kernel
theorem dX3_addPence_48 : decode cX3_addPence 48 = .ok (.getfield 132, 3) := by decide +kernel
theorem dX3_addPence_51 : decode cX3_addPence 51 = .ok (.iload_n 2, 1) := by decide +kernel
theorem dX3_addPence_52 : decode cX3_addPence 52 = .ok (.iadd, 1) := by decide +kernel
theorem dX3_addPence_53 : decode cX3_addPence 53 = .ok (.putfield 132, 3) := by decide +kernel
theorem dX3_addPence_56 : decode cX3_addPence 56 = .ok (.aload_n 3, 1) := by decide +kernel
theorem dX3_addPence_57 : decode cX3_addPence 57 = .ok (.getfield 132, 3) := by decide +kernel
theorem dX3_addPence_60 : decode cX3_addPence 60 = .ok (.ireturn, 1) := by decide +kernel
theorem dX3_putInPledge_0 : decode cX3_putInPledge 0 = .ok (.aload_n 0, 1) := by decide +kernel
theorem dX3_putInPledge_1 : decode cX3_putInPledge 1 = .ok (.iload_n 1, 1) := by decide +kernel
theorem dX3_putInPledge_2 : decode cX3_putInPledge 2 = .ok (.invokevirtual 149, 3) := by decide +kernel
theorem dX3_putInPledge_5 : decode cX3_putInPledge 5 = .ok (.ifCond .eq 14, 3) := by decide +kernel
theorem dX3_putInPledge_8 : decode cX3_putInPledge 8 = .ok (.iload_n 2, 1) := by decide +kernel
theorem dX3_putInPledge_9 : decode cX3_putInPledge 9 = .ok (.iconst 1, 1) := by decide +kernel
theorem dX3_putInPledge_10 : decode cX3_putInPledge 10 = .ok (.sipush 200, 3) := by decide +kernel
theorem dX3_putInPledge_13 : decode cX3_putInPledge 13 = .ok (.invokestatic 110, 3) := by decide +kernel
theorem dX3_putInPledge_16 : decode cX3_putInPledge 16 = .ok (.ifCond .ne 6, 3) := by decide +kernel
theorem dX3_putInPledge_19 : decode cX3_putInPledge 19 = .ok (.ldc 120, 2) := by decide +kernel
theorem dX3_putInPledge_21 : decode cX3_putInPledge 21 = .ok (.ireturn, 1) := by decide +kernel
theorem dX3_putInPledge_22 : decode cX3_putInPledge 22 = .ok (.aload_n 0, 1) := by decide +kernel
theorem dX3_putInPledge_23 : decode cX3_putInPledge 23 = .ok (.getfield 43, 3) := by decide +kernel
theorem dX3_putInPledge_26 : decode cX3_putInPledge 26 = .ok (.iload_n 1, 1) := by decide +kernel
theorem dX3_putInPledge_27 : decode cX3_putInPledge 27 = .ok (.aaload, 1) := by decide +kernel
theorem dX3_putInPledge_28 : decode cX3_putInPledge 28 = .ok (.astore_n 3, 1) := by decide +kernel
theorem dX3_putInPledge_29 : decode cX3_putInPledge 29 = .ok (.aload_n 3, 1) := by decide +kernel
theorem dX3_putInPledge_30 : decode cX3_putInPledge 30 = .ok (.getfield 152, 3) := by decide +kernel
theorem dX3_putInPledge_33 : decode cX3_putInPledge 33 = .ok (.iconst 2, 1) := by decide +kernel
theorem dX3_putInPledge_34 : decode cX3_putInPledge 34 = .ok (.if_icmp .ne 29, 3) := by decide +kernel
theorem dX3_putInPledge_37 : decode cX3_putInPledge 37 = .ok (.aload_n 3, 1) := by decide +kernel
theorem dX3_putInPledge_38 : decode cX3_putInPledge 38 = .ok (.invokevirtual 163, 3) := by decide +kernel
theorem dX3_putInPledge_41 : decode cX3_putInPledge 41 = .ok (.ifCond .ne 22, 3) := by decide +kernel
theorem dX3_putInPledge_44 : decode cX3_putInPledge 44 = .ok (.aload_n 3, 1) := by decide +kernel
theorem dX3_putInPledge_45 : decode cX3_putInPledge 45 = .ok (.invokevirtual 167, 3) := by decide +kernel
theorem dX3_putInPledge_48 : decode cX3_putInPledge 48 = .ok (.iload_n 2, 1) := by decide +kernel
theorem dX3_putInPledge_49 : decode cX3_putInPledge 49 = .ok (.if_icmp .lt 14, 3) := by decide +kernel
theorem dX3_putInPledge_52 : decode cX3_putInPledge 52 = .ok (.aload_n 0, 1) := by decide +kernel
theorem dX3_putInPledge_53 : decode cX3_putInPledge 53 = .ok (.aload_n 3, 1) := by decide +kernel
theorem dX3_putInPledge_54 : decode cX3_putInPledge 54 = .ok (.getfield 203, 3) := by decide +kernel
theorem dX3_putInPledge_57 : decode cX3_putInPledge 57 = .ok (.invokevirtual 138, 3) := by decide +kernel
theorem dX3_putInPledge_60 : decode cX3_putInPledge 60 = .ok (.ifCond .ne 6, 3) := by decide +kernel
theorem dX3_putInPledge_63 : decode cX3_putInPledge 63 = .ok (.ldc 155, 2) := by decide +kernel
theorem dX3_putInPledge_65 : decode cX3_putInPledge 65 = .ok (.ireturn, 1) := by decide +kernel
theorem dX3_putInPledge_66 : decode cX3_putInPledge 66 = .ok (.aload_n 0, 1) := by decide +kernel
theorem dX3_putInPledge_67 : decode cX3_putInPledge 67 = .ok (.getfield 37, 3) := by decide +kernel
theorem dX3_putInPledge_70 : decode cX3_putInPledge 70 = .ok (.aload_n 3, 1) := by decide +kernel
theorem dX3_putInPledge_71 : decode cX3_putInPledge 71 = .ok (.getfield 203, 3) := by decide +kernel
theorem dX3_putInPledge_74 : decode cX3_putInPledge 74 = .ok (.aaload, 1) := by decide +kernel
theorem dX3_putInPledge_75 : decode cX3_putInPledge 75 = .ok (.astore 4, 2) := by decide +kernel
theorem dX3_putInPledge_77 : decode cX3_putInPledge 77 = .ok (.aload_n 0, 1) := by decide +kernel
theorem dX3_putInPledge_78 : decode cX3_putInPledge 78 = .ok (.aload_n 3, 1) := by decide +kernel
theorem dX3_putInPledge_79 : decode cX3_putInPledge 79 = .ok (.iload_n 2, 1) := by decide +kernel
theorem dX3_putInPledge_80 : decode cX3_putInPledge 80 = .ok (.invokevirtual 213, 3) := by decide +kernel
theorem dX3_putInPledge_83 : decode cX3_putInPledge 83 = .ok (.istore 5, 2) := by decide +kernel
theorem dX3_putInPledge_85 : decode cX3_putInPledge 85 = .ok (.iload 5, 2) := by decide +kernel
theorem dX3_putInPledge_87 : decode cX3_putInPledge 87 = .ok (.iconst (-1), 1) := by decide +kernel
theorem dX3_putInPledge_88 : decode cX3_putInPledge 88 = .ok (.if_icmp .eq 20, 3) := by decide +kernel
theorem dX3_putInPledge_91 : decode cX3_putInPledge 91 = .ok (.aload 4, 2) := by decide +kernel
theorem dX3_putInPledge_93 : decode cX3_putInPledge 93 = .ok (.getfield 132, 3) := by decide +kernel
theorem dX3_putInPledge_96 : decode cX3_putInPledge 96 = .ok (.i2l, 1) := by decide +kernel
theorem dX3_putInPledge_97 : decode cX3_putInPledge 97 = .ok (.iload 5, 2) := by decide +kernel
theorem dX3_putInPledge_99 : decode cX3_putInPledge 99 = .ok (.i2l, 1) := by decide +kernel
theorem dX3_putInPledge_100 : decode cX3_putInPledge 100 = .ok (.ladd, 1) := by decide +kernel
theorem dX3_putInPledge_101 : decode cX3_putInPledge 101 = .ok (.ldc2_w 211, 3) := by decide +kernel
theorem dX3_putInPledge_104 : decode cX3_putInPledge 104 = .ok (.lcmp, 1) := by decide +kernel
theorem dX3_putInPledge_105 : decode cX3_putInPledge 105 = .ok (.ifCond .le 6, 3) := by decide +kernel
theorem dX3_putInPledge_108 : decode cX3_putInPledge 108 = .ok (.ldc 155, 2) := by decide +kernel
theorem dX3_putInPledge_110 : decode cX3_putInPledge 110 = .ok (.ireturn, 1) := by decide +kernel
theorem dX3_putInPledge_111 : decode cX3_putInPledge 111 = .ok (.aload 4, 2) := by decide +kernel
theorem dX3_putInPledge_113 : decode cX3_putInPledge 113 = .ok (.dup, 1) := by decide +kernel
theorem dX3_putInPledge_114 : decode cX3_putInPledge 114 = .ok (.getfield 132, 3) := by decide +kernel
theorem dX3_putInPledge_117 : decode cX3_putInPledge 117 = .ok (.iload 5, 2) := by decide +kernel
theorem dX3_putInPledge_119 : decode cX3_putInPledge 119 = .ok (.iadd, 1) := by decide +kernel
theorem dX3_putInPledge_120 : decode cX3_putInPledge 120 = .ok (.putfield 132, 3) := by decide +kernel
theorem dX3_putInPledge_123 : decode cX3_putInPledge 123 = .ok (.aload_n 3, 1) := by decide +kernel
theorem dX3_putInPledge_124 : decode cX3_putInPledge 124 = .ok (.iload_n 2, 1) := by decide +kernel
theorem dX3_putInPledge_125 : decode cX3_putInPledge 125 = .ok (.putfield 217, 3) := by decide +kernel
theorem dX3_putInPledge_128 : decode cX3_putInPledge 128 = .ok (.aload_n 3, 1) := by decide +kernel
theorem dX3_putInPledge_129 : decode cX3_putInPledge 129 = .ok (.iload 5, 2) := by decide +kernel
theorem dX3_putInPledge_131 : decode cX3_putInPledge 131 = .ok (.putfield 220, 3) := by decide +kernel
theorem dX3_putInPledge_134 : decode cX3_putInPledge 134 = .ok (.aload_n 3, 1) := by decide +kernel
theorem dX3_putInPledge_135 : decode cX3_putInPledge 135 = .ok (.aload_n 0, 1) := by decide +kernel
theorem dX3_putInPledge_136 : decode cX3_putInPledge 136 = .ok (.invokevirtual 223, 3) := by decide +kernel
theorem dX3_putInPledge_139 : decode cX3_putInPledge 139 = .ok (.putfield 226, 3) := by decide +kernel
theorem dX3_putInPledge_142 : decode cX3_putInPledge 142 = .ok (.aload_n 3, 1) := by decide +kernel
theorem dX3_putInPledge_143 : decode cX3_putInPledge 143 = .ok (.aload_n 0, 1) := by decide +kernel
theorem dX3_putInPledge_144 : decode cX3_putInPledge 144 = .ok (.invokevirtual 223, 3) := by decide +kernel
theorem dX3_putInPledge_147 : decode cX3_putInPledge 147 = .ok (.aload_n 0, 1) := by decide +kernel
theorem dX3_putInPledge_148 : decode cX3_putInPledge 148 = .ok (.getfield 18, 3) := by decide +kernel
theorem dX3_putInPledge_151 : decode cX3_putInPledge 151 = .ok (.bipush 10, 2) := by decide +kernel
theorem dX3_putInPledge_153 : decode cX3_putInPledge 153 = .ok (.iaload, 1) := by decide +kernel
theorem dX3_putInPledge_154 : decode cX3_putInPledge 154 = .ok (.iadd, 1) := by decide +kernel
theorem dX3_putInPledge_155 : decode cX3_putInPledge 155 = .ok (.putfield 229, 3) := by decide +kernel
theorem dX3_putInPledge_158 : decode cX3_putInPledge 158 = .ok (.iload 5, 2) := by decide +kernel
theorem dX3_putInPledge_160 : decode cX3_putInPledge 160 = .ok (.ireturn, 1) := by decide +kernel
theorem dX3_loanFor_0 : decode cX3_loanFor 0 = .ok (.iload_n 2, 1) := by decide +kernel
theorem dX3_loanFor_1 : decode cX3_loanFor 1 = .ok (.i2l, 1) := by decide +kernel
theorem dX3_loanFor_2 : decode cX3_loanFor 2 = .ok (.aload_n 1, 1) := by decide +kernel
theorem dX3_loanFor_3 : decode cX3_loanFor 3 = .ok (.getfield 232, 3) := by decide +kernel
theorem dX3_loanFor_6 : decode cX3_loanFor 6 = .ok (.i2l, 1) := by decide +kernel
theorem dX3_loanFor_7 : decode cX3_loanFor 7 = .ok (.lmul, 1) := by decide +kernel
theorem dX3_loanFor_8 : decode cX3_loanFor 8 = .ok (.lstore_n 3, 1) := by decide +kernel
theorem dX3_loanFor_9 : decode cX3_loanFor 9 = .ok (.lload_n 3, 1) := by decide +kernel
theorem dX3_loanFor_10 : decode cX3_loanFor 10 = .ok (.aload_n 0, 1) := by decide +kernel
theorem dX3_loanFor_11 : decode cX3_loanFor 11 = .ok (.getfield 18, 3) := by decide +kernel
theorem dX3_loanFor_14 : decode cX3_loanFor 14 = .ok (.bipush 11, 2) := by decide +kernel
theorem dX3_loanFor_16 : decode cX3_loanFor 16 = .ok (.iaload, 1) := by decide +kernel
theorem dX3_loanFor_17 : decode cX3_loanFor 17 = .ok (.i2l, 1) := by decide +kernel
theorem dX3_loanFor_18 : decode cX3_loanFor 18 = .ok (.lmul, 1) := by decide +kernel
theorem dX3_loanFor_19 : decode cX3_loanFor 19 = .ok (.lstore 5, 2) := by decide +kernel
theorem dX3_loanFor_21 : decode cX3_loanFor 21 = .ok (.lload_n 3, 1) := by decide +kernel
theorem dX3_loanFor_22 : decode cX3_loanFor 22 = .ok (.ldc2_w 211, 3) := by decide +kernel
theorem dX3_loanFor_25 : decode cX3_loanFor 25 = .ok (.lcmp, 1) := by decide +kernel
theorem dX3_loanFor_26 : decode cX3_loanFor 26 = .ok (.ifCond .gt 12, 3) := by decide +kernel
theorem dX3_loanFor_29 : decode cX3_loanFor 29 = .ok (.lload 5, 2) := by decide +kernel
theorem dX3_loanFor_31 : decode cX3_loanFor 31 = .ok (.ldc2_w 211, 3) := by decide +kernel
theorem dX3_loanFor_34 : decode cX3_loanFor 34 = .ok (.lcmp, 1) := by decide +kernel
theorem dX3_loanFor_35 : decode cX3_loanFor 35 = .ok (.ifCond .le 5, 3) := by decide +kernel
theorem dX3_loanFor_38 : decode cX3_loanFor 38 = .ok (.iconst (-1), 1) := by decide +kernel
theorem dX3_loanFor_39 : decode cX3_loanFor 39 = .ok (.ireturn, 1) := by decide +kernel
theorem dX3_loanFor_40 : decode cX3_loanFor 40 = .ok (.lload 5, 2) := by decide +kernel
theorem dX3_loanFor_42 : decode cX3_loanFor 42 = .ok (.ldc2_w 233, 3) := by decide +kernel
theorem dX3_loanFor_45 : decode cX3_loanFor 45 = .ok (.ldiv, 1) := by decide +kernel
theorem dX3_loanFor_46 : decode cX3_loanFor 46 = .ok (.l2i, 1) := by decide +kernel
theorem dX3_loanFor_47 : decode cX3_loanFor 47 = .ok (.ireturn, 1) := by decide +kernel
theorem dX3_debtOf_0 : decode cX3_debtOf 0 = .ok (.aload_n 1, 1) := by decide +kernel
theorem dX3_debtOf_1 : decode cX3_debtOf 1 = .ok (.getfield 220, 3) := by decide +kernel
theorem dX3_debtOf_4 : decode cX3_debtOf 4 = .ok (.i2l, 1) := by decide +kernel
theorem dX3_debtOf_5 : decode cX3_debtOf 5 = .ok (.aload_n 0, 1) := by decide +kernel
theorem dX3_debtOf_6 : decode cX3_debtOf 6 = .ok (.getfield 18, 3) := by decide +kernel
theorem dX3_debtOf_9 : decode cX3_debtOf 9 = .ok (.bipush 9, 2) := by decide +kernel
theorem dX3_debtOf_11 : decode cX3_debtOf 11 = .ok (.iaload, 1) := by decide +kernel
theorem dX3_debtOf_12 : decode cX3_debtOf 12 = .ok (.i2l, 1) := by decide +kernel
theorem dX3_debtOf_13 : decode cX3_debtOf 13 = .ok (.lmul, 1) := by decide +kernel
theorem dX3_debtOf_14 : decode cX3_debtOf 14 = .ok (.lstore_n 2, 1) := by decide +kernel
theorem dX3_debtOf_15 : decode cX3_debtOf 15 = .ok (.lload_n 2, 1) := by decide +kernel
theorem dX3_debtOf_16 : decode cX3_debtOf 16 = .ok (.aload_n 0, 1) := by decide +kernel
theorem dX3_debtOf_17 : decode cX3_debtOf 17 = .ok (.invokevirtual 223, 3) := by decide +kernel
theorem dX3_debtOf_20 : decode cX3_debtOf 20 = .ok (.aload_n 1, 1) := by decide +kernel
theorem dX3_debtOf_21 : decode cX3_debtOf 21 = .ok (.getfield 226, 3) := by decide +kernel
theorem dX3_debtOf_24 : decode cX3_debtOf 24 = .ok (.isub, 1) := by decide +kernel
theorem dX3_debtOf_25 : decode cX3_debtOf 25 = .ok (.i2l, 1) := by decide +kernel
theorem dX3_debtOf_26 : decode cX3_debtOf 26 = .ok (.lmul, 1) := by decide +kernel
theorem dX3_debtOf_27 : decode cX3_debtOf 27 = .ok (.lstore 4, 2) := by decide +kernel
theorem dX3_debtOf_29 : decode cX3_debtOf 29 = .ok (.lload_n 2, 1) := by decide +kernel
theorem dX3_debtOf_30 : decode cX3_debtOf 30 = .ok (.ldc2_w 211, 3) := by decide +kernel
theorem dX3_debtOf_33 : decode cX3_debtOf 33 = .ok (.lcmp, 1) := by decide +kernel
theorem dX3_debtOf_34 : decode cX3_debtOf 34 = .ok (.ifCond .gt 12, 3) := by decide +kernel
theorem dX3_debtOf_37 : decode cX3_debtOf 37 = .ok (.lload 4, 2) := by decide +kernel
theorem dX3_debtOf_39 : decode cX3_debtOf 39 = .ok (.ldc2_w 211, 3) := by decide +kernel
theorem dX3_debtOf_42 : decode cX3_debtOf 42 = .ok (.lcmp, 1) := by decide +kernel
theorem dX3_debtOf_43 : decode cX3_debtOf 43 = .ok (.ifCond .le 6, 3) := by decide +kernel
theorem dX3_debtOf_46 : decode cX3_debtOf 46 = .ok (.ldc 235, 2) := by decide +kernel
theorem dX3_debtOf_48 : decode cX3_debtOf 48 = .ok (.ireturn, 1) := by decide +kernel
theorem dX3_debtOf_49 : decode cX3_debtOf 49 = .ok (.aload_n 1, 1) := by decide +kernel
theorem dX3_debtOf_50 : decode cX3_debtOf 50 = .ok (.getfield 220, 3) := by decide +kernel
theorem dX3_debtOf_53 : decode cX3_debtOf 53 = .ok (.i2l, 1) := by decide +kernel
theorem dX3_debtOf_54 : decode cX3_debtOf 54 = .ok (.lload 4, 2) := by decide +kernel
theorem dX3_debtOf_56 : decode cX3_debtOf 56 = .ok (.ldc2_w 236, 3) := by decide +kernel
theorem dX3_debtOf_59 : decode cX3_debtOf 59 = .ok (.ldiv, 1) := by decide +kernel
theorem dX3_debtOf_60 : decode cX3_debtOf 60 = .ok (.ladd, 1) := by decide +kernel
theorem dX3_debtOf_61 : decode cX3_debtOf 61 = .ok (.lstore 6, 2) := by decide +kernel
theorem dX3_debtOf_63 : decode cX3_debtOf 63 = .ok (.lload 6, 2) := by decide +kernel
theorem dX3_debtOf_65 : decode cX3_debtOf 65 = .ok (.ldc2_w 211, 3) := by decide +kernel
theorem dX3_debtOf_68 : decode cX3_debtOf 68 = .ok (.lcmp, 1) := by decide +kernel
theorem dX3_debtOf_69 : decode cX3_debtOf 69 = .ok (.ifCond .le 8, 3) := by decide +kernel
theorem dX3_debtOf_72 : decode cX3_debtOf 72 = .ok (.ldc 235, 2) := by decide +kernel
theorem dX3_debtOf_74 : decode cX3_debtOf 74 = .ok (.goto 6, 3) := by decide +kernel
theorem dX3_debtOf_77 : decode cX3_debtOf 77 = .ok (.lload 6, 2) := by decide +kernel
theorem dX3_debtOf_79 : decode cX3_debtOf 79 = .ok (.l2i, 1) := by decide +kernel
theorem dX3_debtOf_80 : decode cX3_debtOf 80 = .ok (.ireturn, 1) := by decide +kernel
theorem dX3_redeemPledge_0 : decode cX3_redeemPledge 0 = .ok (.aload_n 0, 1) := by decide +kernel
theorem dX3_redeemPledge_1 : decode cX3_redeemPledge 1 = .ok (.iload_n 1, 1) := by decide +kernel
theorem dX3_redeemPledge_2 : decode cX3_redeemPledge 2 = .ok (.invokevirtual 149, 3) := by decide +kernel
theorem dX3_redeemPledge_5 : decode cX3_redeemPledge 5 = .ok (.ifCond .ne 6, 3) := by decide +kernel
theorem dX3_redeemPledge_8 : decode cX3_redeemPledge 8 = .ok (.ldc 120, 2) := by decide +kernel
theorem dX3_redeemPledge_10 : decode cX3_redeemPledge 10 = .ok (.ireturn, 1) := by decide +kernel
theorem dX3_redeemPledge_11 : decode cX3_redeemPledge 11 = .ok (.aload_n 0, 1) := by decide +kernel
theorem dX3_redeemPledge_12 : decode cX3_redeemPledge 12 = .ok (.getfield 43, 3) := by decide +kernel
theorem dX3_redeemPledge_15 : decode cX3_redeemPledge 15 = .ok (.iload_n 1, 1) := by decide +kernel
theorem dX3_redeemPledge_16 : decode cX3_redeemPledge 16 = .ok (.aaload, 1) := by decide +kernel
theorem dX3_redeemPledge_17 : decode cX3_redeemPledge 17 = .ok (.astore_n 2, 1) := by decide +kernel
theorem dX3_redeemPledge_18 : decode cX3_redeemPledge 18 = .ok (.aload_n 2, 1) := by decide +kernel
theorem dX3_redeemPledge_19 : decode cX3_redeemPledge 19 = .ok (.invokevirtual 163, 3) := by decide +kernel
theorem dX3_redeemPledge_22 : decode cX3_redeemPledge 22 = .ok (.ifCond .eq 14, 3) := by decide +kernel
theorem dX3_redeemPledge_25 : decode cX3_redeemPledge 25 = .ok (.aload_n 0, 1) := by decide +kernel
theorem dX3_redeemPledge_26 : decode cX3_redeemPledge 26 = .ok (.aload_n 2, 1) := by decide +kernel
theorem dX3_redeemPledge_27 : decode cX3_redeemPledge 27 = .ok (.getfield 203, 3) := by decide +kernel
theorem dX3_redeemPledge_30 : decode cX3_redeemPledge 30 = .ok (.invokevirtual 138, 3) := by decide +kernel
theorem dX3_redeemPledge_33 : decode cX3_redeemPledge 33 = .ok (.ifCond .ne 6, 3) := by decide +kernel
theorem dX3_redeemPledge_36 : decode cX3_redeemPledge 36 = .ok (.ldc 155, 2) := by decide +kernel
theorem dX3_redeemPledge_38 : decode cX3_redeemPledge 38 = .ok (.ireturn, 1) := by decide +kernel
theorem dX3_redeemPledge_39 : decode cX3_redeemPledge 39 = .ok (.aload_n 0, 1) := by decide +kernel
theorem dX3_redeemPledge_40 : decode cX3_redeemPledge 40 = .ok (.getfield 37, 3) := by decide +kernel
theorem dX3_redeemPledge_43 : decode cX3_redeemPledge 43 = .ok (.aload_n 2, 1) := by decide +kernel
theorem dX3_redeemPledge_44 : decode cX3_redeemPledge 44 = .ok (.getfield 203, 3) := by decide +kernel
theorem dX3_redeemPledge_47 : decode cX3_redeemPledge 47 = .ok (.aaload, 1) := by decide +kernel
theorem dX3_redeemPledge_48 : decode cX3_redeemPledge 48 = .ok (.astore_n 3, 1) := by decide +kernel
theorem dX3_redeemPledge_49 : decode cX3_redeemPledge 49 = .ok (.aload_n 0, 1) := by decide +kernel
theorem dX3_redeemPledge_50 : decode cX3_redeemPledge 50 = .ok (.aload_n 2, 1) := by decide +kernel
theorem dX3_redeemPledge_51 : decode cX3_redeemPledge 51 = .ok (.invokevirtual 238, 3) := by decide +kernel
theorem dX3_redeemPledge_54 : decode cX3_redeemPledge 54 = .ok (.istore 4, 2) := by decide +kernel
theorem dX3_redeemPledge_56 : decode cX3_redeemPledge 56 = .ok (.iload 4, 2) := by decide +kernel
theorem dX3_redeemPledge_58 : decode cX3_redeemPledge 58 = .ok (.ldc 235, 2) := by decide +kernel
theorem dX3_redeemPledge_60 : decode cX3_redeemPledge 60 = .ok (.if_icmp .eq 12, 3) := by decide +kernel
theorem dX3_redeemPledge_63 : decode cX3_redeemPledge 63 = .ok (.aload_n 3, 1) := by decide +kernel
theorem dX3_redeemPledge_64 : decode cX3_redeemPledge 64 = .ok (.getfield 132, 3) := by decide +kernel
theorem dX3_redeemPledge_67 : decode cX3_redeemPledge 67 = .ok (.iload 4, 2) := by decide +kernel
theorem dX3_redeemPledge_69 : decode cX3_redeemPledge 69 = .ok (.if_icmp .ge 6, 3) := by decide +kernel
theorem dX3_redeemPledge_72 : decode cX3_redeemPledge 72 = .ok (.ldc 155, 2) := by decide +kernel
theorem dX3_redeemPledge_74 : decode cX3_redeemPledge 74 = .ok (.ireturn, 1) := by decide +kernel
theorem dX3_redeemPledge_75 : decode cX3_redeemPledge 75 = .ok (.aload_n 3, 1) := by decide +kernel
theorem dX3_redeemPledge_76 : decode cX3_redeemPledge 76 = .ok (.dup, 1) := by decide +kernel
theorem dX3_redeemPledge_77 : decode cX3_redeemPledge 77 = .ok (.getfield 132, 3) := by decide +kernel
theorem dX3_redeemPledge_80 : decode cX3_redeemPledge 80 = .ok (.iload 4, 2) := by decide +kernel
theorem dX3_redeemPledge_82 : decode cX3_redeemPledge 82 = .ok (.isub, 1) := by decide +kernel
theorem dX3_redeemPledge_83 : decode cX3_redeemPledge 83 = .ok (.putfield 132, 3) := by decide +kernel
theorem dX3_redeemPledge_86 : decode cX3_redeemPledge 86 = .ok (.aload_n 2, 1) := by decide +kernel
theorem dX3_redeemPledge_87 : decode cX3_redeemPledge 87 = .ok (.invokevirtual 241, 3) := by decide +kernel
theorem dX3_redeemPledge_90 : decode cX3_redeemPledge 90 = .ok (.aload_n 3, 1) := by decide +kernel
theorem dX3_redeemPledge_91 : decode cX3_redeemPledge 91 = .ok (.getfield 132, 3) := by decide +kernel
theorem dX3_redeemPledge_94 : decode cX3_redeemPledge 94 = .ok (.ireturn, 1) := by decide +kernel
theorem dX3_sackOfPledge_0 : decode cX3_sackOfPledge 0 = .ok (.iconst 0, 1) := by decide +kernel
theorem dX3_sackOfPledge_1 : decode cX3_sackOfPledge 1 = .ok (.istore_n 2, 1) := by decide +kernel
theorem dX3_sackOfPledge_2 : decode cX3_sackOfPledge 2 = .ok (.iload_n 2, 1) := by decide +kernel
theorem dX3_sackOfPledge_3 : decode cX3_sackOfPledge 3 = .ok (.aload_n 0, 1) := by decide +kernel
theorem dX3_sackOfPledge_4 : decode cX3_sackOfPledge 4 = .ok (.getfield 97, 3) := by decide +kernel
theorem dX3_sackOfPledge_7 : decode cX3_sackOfPledge 7 = .ok (.if_icmp .ge 32, 3) := by decide +kernel
theorem dX3_sackOfPledge_10 : decode cX3_sackOfPledge 10 = .ok (.aload_n 0, 1) := by decide +kernel
theorem dX3_sackOfPledge_11 : decode cX3_sackOfPledge 11 = .ok (.getfield 43, 3) := by decide +kernel
theorem dX3_sackOfPledge_14 : decode cX3_sackOfPledge 14 = .ok (.iload_n 2, 1) := by decide +kernel
theorem dX3_sackOfPledge_15 : decode cX3_sackOfPledge 15 = .ok (.aaload, 1) := by decide +kernel
theorem dX3_sackOfPledge_16 : decode cX3_sackOfPledge 16 = .ok (.invokevirtual 163, 3) := by decide +kernel
theorem dX3_sackOfPledge_19 : decode cX3_sackOfPledge 19 = .ok (.ifCond .eq 14, 3) := by decide +kernel
theorem dX3_sackOfPledge_22 : decode cX3_sackOfPledge 22 = .ok (.aload_n 0, 1) := by decide +kernel
theorem dX3_sackOfPledge_23 : decode cX3_sackOfPledge 23 = .ok (.iload_n 2, 1) := by decide +kernel
theorem dX3_sackOfPledge_24 : decode cX3_sackOfPledge 24 = .ok (.invokevirtual 244, 3) := by decide +kernel
theorem dX3_sackOfPledge_27 : decode cX3_sackOfPledge 27 = .ok (.iload_n 1, 1) := by decide +kernel
theorem dX3_sackOfPledge_28 : decode cX3_sackOfPledge 28 = .ok (.if_icmp .ne 5, 3) := by decide +kernel
theorem dX3_sackOfPledge_31 : decode cX3_sackOfPledge 31 = .ok (.iload_n 2, 1) := by decide +kernel
theorem dX3_sackOfPledge_32 : decode cX3_sackOfPledge 32 = .ok (.ireturn, 1) := by decide +kernel
theorem dX3_sackOfPledge_33 : decode cX3_sackOfPledge 33 = .ok (.iinc 2 1, 3) := by decide +kernel
theorem dX3_sackOfPledge_36 : decode cX3_sackOfPledge 36 = .ok (.goto (-34), 3) := by decide +kernel
theorem dX3_sackOfPledge_39 : decode cX3_sackOfPledge 39 = .ok (.iconst (-1), 1) := by decide +kernel
theorem dX3_sackOfPledge_40 : decode cX3_sackOfPledge 40 = .ok (.ireturn, 1) := by decide +kernel
theorem dX3_pledgesAheadOf_0 : decode cX3_pledgesAheadOf 0 = .ok (.aload_n 0, 1) := by decide +kernel
theorem dX3_pledgesAheadOf_1 : decode cX3_pledgesAheadOf 1 = .ok (.getfield 43, 3) := by decide +kernel
theorem dX3_pledgesAheadOf_4 : decode cX3_pledgesAheadOf 4 = .ok (.iload_n 1, 1) := by decide +kernel
theorem dX3_pledgesAheadOf_5 : decode cX3_pledgesAheadOf 5 = .ok (.aaload, 1) := by decide +kernel
theorem dX3_pledgesAheadOf_6 : decode cX3_pledgesAheadOf 6 = .ok (.getfield 229, 3) := by decide +kernel
theorem dX3_pledgesAheadOf_9 : decode cX3_pledgesAheadOf 9 = .ok (.istore_n 2, 1) := by decide +kernel
theorem dX3_pledgesAheadOf_10 : decode cX3_pledgesAheadOf 10 = .ok (.iconst 0, 1) := by decide +kernel
theorem dX3_pledgesAheadOf_11 : decode cX3_pledgesAheadOf 11 = .ok (.istore_n 3, 1) := by decide +kernel
theorem dX3_pledgesAheadOf_12 : decode cX3_pledgesAheadOf 12 = .ok (.iconst 0, 1) := by decide +kernel
theorem dX3_pledgesAheadOf_13 : decode cX3_pledgesAheadOf 13 = .ok (.istore 4, 2) := by decide +kernel
theorem dX3_pledgesAheadOf_15 : decode cX3_pledgesAheadOf 15 = .ok (.iload 4, 2) := by decide +kernel
theorem dX3_pledgesAheadOf_17 : decode cX3_pledgesAheadOf 17 = .ok (.aload_n 0, 1) := by decide +kernel
theorem dX3_pledgesAheadOf_18 : decode cX3_pledgesAheadOf 18 = .ok (.getfield 97, 3) := by decide +kernel
theorem dX3_pledgesAheadOf_21 : decode cX3_pledgesAheadOf 21 = .ok (.if_icmp .ge 71, 3) := by decide +kernel
theorem dX3_pledgesAheadOf_24 : decode cX3_pledgesAheadOf 24 = .ok (.aload_n 0, 1) := by decide +kernel
theorem dX3_pledgesAheadOf_25 : decode cX3_pledgesAheadOf 25 = .ok (.getfield 43, 3) := by decide +kernel
theorem dX3_pledgesAheadOf_28 : decode cX3_pledgesAheadOf 28 = .ok (.iload 4, 2) := by decide +kernel
theorem dX3_pledgesAheadOf_30 : decode cX3_pledgesAheadOf 30 = .ok (.aaload, 1) := by decide +kernel
theorem dX3_pledgesAheadOf_31 : decode cX3_pledgesAheadOf 31 = .ok (.getfield 229, 3) := by decide +kernel
theorem dX3_pledgesAheadOf_34 : decode cX3_pledgesAheadOf 34 = .ok (.iload_n 2, 1) := by decide +kernel
theorem dX3_pledgesAheadOf_35 : decode cX3_pledgesAheadOf 35 = .ok (.if_icmp .lt 23, 3) := by decide +kernel
theorem dX3_pledgesAheadOf_38 : decode cX3_pledgesAheadOf 38 = .ok (.aload_n 0, 1) := by decide +kernel
theorem dX3_pledgesAheadOf_39 : decode cX3_pledgesAheadOf 39 = .ok (.getfield 43, 3) := by decide +kernel
theorem dX3_pledgesAheadOf_42 : decode cX3_pledgesAheadOf 42 = .ok (.iload 4, 2) := by decide +kernel
theorem dX3_pledgesAheadOf_44 : decode cX3_pledgesAheadOf 44 = .ok (.aaload, 1) := by decide +kernel
theorem dX3_pledgesAheadOf_45 : decode cX3_pledgesAheadOf 45 = .ok (.getfield 229, 3) := by decide +kernel
theorem dX3_pledgesAheadOf_48 : decode cX3_pledgesAheadOf 48 = .ok (.iload_n 2, 1) := by decide +kernel
theorem dX3_pledgesAheadOf_49 : decode cX3_pledgesAheadOf 49 = .ok (.if_icmp .ne 13, 3) := by decide +kernel
theorem dX3_pledgesAheadOf_52 : decode cX3_pledgesAheadOf 52 = .ok (.iload 4, 2) := by decide +kernel
theorem dX3_pledgesAheadOf_54 : decode cX3_pledgesAheadOf 54 = .ok (.iload_n 1, 1) := by decide +kernel
theorem dX3_pledgesAheadOf_55 : decode cX3_pledgesAheadOf 55 = .ok (.if_icmp .ge 7, 3) := by decide +kernel
theorem dX3_pledgesAheadOf_58 : decode cX3_pledgesAheadOf 58 = .ok (.iconst 1, 1) := by decide +kernel
theorem dX3_pledgesAheadOf_59 : decode cX3_pledgesAheadOf 59 = .ok (.goto 4, 3) := by decide +kernel
theorem dX3_pledgesAheadOf_62 : decode cX3_pledgesAheadOf 62 = .ok (.iconst 0, 1) := by decide +kernel
theorem dX3_pledgesAheadOf_63 : decode cX3_pledgesAheadOf 63 = .ok (.istore 5, 2) := by decide +kernel
theorem dX3_pledgesAheadOf_65 : decode cX3_pledgesAheadOf 65 = .ok (.aload_n 0, 1) := by decide +kernel
theorem dX3_pledgesAheadOf_66 : decode cX3_pledgesAheadOf 66 = .ok (.getfield 43, 3) := by decide +kernel
theorem dX3_pledgesAheadOf_69 : decode cX3_pledgesAheadOf 69 = .ok (.iload 4, 2) := by decide +kernel
theorem dX3_pledgesAheadOf_71 : decode cX3_pledgesAheadOf 71 = .ok (.aaload, 1) := by decide +kernel
theorem dX3_pledgesAheadOf_72 : decode cX3_pledgesAheadOf 72 = .ok (.invokevirtual 163, 3) := by decide +kernel
theorem dX3_pledgesAheadOf_75 : decode cX3_pledgesAheadOf 75 = .ok (.ifCond .eq 11, 3) := by decide +kernel
theorem dX3_pledgesAheadOf_78 : decode cX3_pledgesAheadOf 78 = .ok (.iload 5, 2) := by decide +kernel
theorem dX3_pledgesAheadOf_80 : decode cX3_pledgesAheadOf 80 = .ok (.ifCond .eq 6, 3) := by decide +kernel
theorem dX3_pledgesAheadOf_83 : decode cX3_pledgesAheadOf 83 = .ok (.iinc 3 1, 3) := by decide +kernel
theorem dX3_pledgesAheadOf_86 : decode cX3_pledgesAheadOf 86 = .ok (.iinc 4 1, 3) := by decide +kernel
theorem dX3_pledgesAheadOf_89 : decode cX3_pledgesAheadOf 89 = .ok (.goto (-74), 3) := by decide +kernel
theorem dX3_pledgesAheadOf_92 : decode cX3_pledgesAheadOf 92 = .ok (.iload_n 3, 1) := by decide +kernel
theorem dX3_pledgesAheadOf_93 : decode cX3_pledgesAheadOf 93 = .ok (.ireturn, 1) := by decide +kernel
theorem dX3_tellPledge_0 : decode cX3_tellPledge 0 = .ok (.aload_n 0, 1) := by decide +kernel
theorem dX3_tellPledge_1 : decode cX3_tellPledge 1 = .ok (.getfield 43, 3) := by decide +kernel
theorem dX3_tellPledge_4 : decode cX3_tellPledge 4 = .ok (.iload_n 1, 1) := by decide +kernel
theorem dX3_tellPledge_5 : decode cX3_tellPledge 5 = .ok (.aaload, 1) := by decide +kernel
theorem dX3_tellPledge_6 : decode cX3_tellPledge 6 = .ok (.astore_n 3, 1) := by decide +kernel
theorem dX3_tellPledge_7 : decode cX3_tellPledge 7 = .ok (.iload_n 2, 1) := by decide +kernel
theorem dX3_tellPledge_8 : decode cX3_tellPledge 8 = .ok (.tableswitch 49 0 3 #[32, 34, 39, 44], 32) := by decide +kernel
theorem dX3_tellPledge_40 : decode cX3_tellPledge 40 = .ok (.iload_n 1, 1) := by decide +kernel
theorem dX3_tellPledge_41 : decode cX3_tellPledge 41 = .ok (.ireturn, 1) := by decide +kernel
theorem dX3_tellPledge_42 : decode cX3_tellPledge 42 = .ok (.aload_n 3, 1) := by decide +kernel
theorem dX3_tellPledge_43 : decode cX3_tellPledge 43 = .ok (.getfield 217, 3) := by decide +kernel
theorem dX3_tellPledge_46 : decode cX3_tellPledge 46 = .ok (.ireturn, 1) := by decide +kernel
theorem dX3_tellPledge_47 : decode cX3_tellPledge 47 = .ok (.aload_n 3, 1) := by decide +kernel
theorem dX3_tellPledge_48 : decode cX3_tellPledge 48 = .ok (.getfield 220, 3) := by decide +kernel
theorem dX3_tellPledge_51 : decode cX3_tellPledge 51 = .ok (.ireturn, 1) := by decide +kernel
theorem dX3_tellPledge_52 : decode cX3_tellPledge 52 = .ok (.aload_n 3, 1) := by decide +kernel
theorem dX3_tellPledge_53 : decode cX3_tellPledge 53 = .ok (.getfield 226, 3) := by decide +kernel
theorem dX3_tellPledge_56 : decode cX3_tellPledge 56 = .ok (.ireturn, 1) := by decide +kernel
theorem dX3_tellPledge_57 : decode cX3_tellPledge 57 = .ok (.aload_n 3, 1) := by decide +kernel
theorem dX3_tellPledge_58 : decode cX3_tellPledge 58 = .ok (.getfield 229, 3) := by decide +kernel
theorem dX3_tellPledge_61 : decode cX3_tellPledge 61 = .ok (.ireturn, 1) := by decide +kernel
theorem dX3_pledgesOf_0 : decode cX3_pledgesOf 0 = .ok (.iconst 0, 1) := by decide +kernel
theorem dX3_pledgesOf_1 : decode cX3_pledgesOf 1 = .ok (.istore_n 2, 1) := by decide +kernel
theorem dX3_pledgesOf_2 : decode cX3_pledgesOf 2 = .ok (.iconst 0, 1) := by decide +kernel
theorem dX3_pledgesOf_3 : decode cX3_pledgesOf 3 = .ok (.istore_n 3, 1) := by decide +kernel
theorem dX3_pledgesOf_4 : decode cX3_pledgesOf 4 = .ok (.iload_n 3, 1) := by decide +kernel
theorem dX3_pledgesOf_5 : decode cX3_pledgesOf 5 = .ok (.aload_n 0, 1) := by decide +kernel
theorem dX3_pledgesOf_6 : decode cX3_pledgesOf 6 = .ok (.getfield 97, 3) := by decide +kernel
theorem dX3_pledgesOf_9 : decode cX3_pledgesOf 9 = .ok (.if_icmp .ge 38, 3) := by decide +kernel
theorem dX3_pledgesOf_12 : decode cX3_pledgesOf 12 = .ok (.aload_n 0, 1) := by decide +kernel
theorem dX3_pledgesOf_13 : decode cX3_pledgesOf 13 = .ok (.getfield 43, 3) := by decide +kernel
theorem dX3_pledgesOf_16 : decode cX3_pledgesOf 16 = .ok (.iload_n 3, 1) := by decide +kernel
theorem dX3_pledgesOf_17 : decode cX3_pledgesOf 17 = .ok (.aaload, 1) := by decide +kernel
theorem dX3_pledgesOf_18 : decode cX3_pledgesOf 18 = .ok (.invokevirtual 163, 3) := by decide +kernel
theorem dX3_pledgesOf_21 : decode cX3_pledgesOf 21 = .ok (.ifCond .eq 20, 3) := by decide +kernel
theorem dX3_pledgesOf_24 : decode cX3_pledgesOf 24 = .ok (.aload_n 0, 1) := by decide +kernel
theorem dX3_pledgesOf_25 : decode cX3_pledgesOf 25 = .ok (.getfield 43, 3) := by decide +kernel
theorem dX3_pledgesOf_28 : decode cX3_pledgesOf 28 = .ok (.iload_n 3, 1) := by decide +kernel
theorem dX3_pledgesOf_29 : decode cX3_pledgesOf 29 = .ok (.aaload, 1) := by decide +kernel
theorem dX3_pledgesOf_30 : decode cX3_pledgesOf 30 = .ok (.iload_n 1, 1) := by decide +kernel
theorem dX3_pledgesOf_31 : decode cX3_pledgesOf 31 = .ok (.iconst (-1), 1) := by decide +kernel
theorem dX3_pledgesOf_32 : decode cX3_pledgesOf 32 = .ok (.invokevirtual 182, 3) := by decide +kernel
theorem dX3_pledgesOf_35 : decode cX3_pledgesOf 35 = .ok (.ifCond .eq 6, 3) := by decide +kernel
theorem dX3_pledgesOf_38 : decode cX3_pledgesOf 38 = .ok (.iinc 2 1, 3) := by decide +kernel
theorem dX3_pledgesOf_41 : decode cX3_pledgesOf 41 = .ok (.iinc 3 1, 3) := by decide +kernel
theorem dX3_pledgesOf_44 : decode cX3_pledgesOf 44 = .ok (.goto (-40), 3) := by decide +kernel
theorem dX3_pledgesOf_47 : decode cX3_pledgesOf 47 = .ok (.iload_n 2, 1) := by decide +kernel
theorem dX3_pledgesOf_48 : decode cX3_pledgesOf 48 = .ok (.ireturn, 1) := by decide +kernel
theorem dX3_dropOldPledges_0 : decode cX3_dropOldPledges 0 = .ok (.iconst 0, 1) := by decide +kernel
theorem dX3_dropOldPledges_1 : decode cX3_dropOldPledges 1 = .ok (.istore_n 1, 1) := by decide +kernel
theorem dX3_dropOldPledges_2 : decode cX3_dropOldPledges 2 = .ok (.iload_n 1, 1) := by decide +kernel
theorem dX3_dropOldPledges_3 : decode cX3_dropOldPledges 3 = .ok (.aload_n 0, 1) := by decide +kernel
theorem dX3_dropOldPledges_4 : decode cX3_dropOldPledges 4 = .ok (.getfield 97, 3) := by decide +kernel
theorem dX3_dropOldPledges_7 : decode cX3_dropOldPledges 7 = .ok (.if_icmp .ge 46, 3) := by decide +kernel
theorem dX3_dropOldPledges_10 : decode cX3_dropOldPledges 10 = .ok (.aload_n 0, 1) := by decide +kernel
theorem dX3_dropOldPledges_11 : decode cX3_dropOldPledges 11 = .ok (.getfield 43, 3) := by decide +kernel
theorem dX3_dropOldPledges_14 : decode cX3_dropOldPledges 14 = .ok (.iload_n 1, 1) := by decide +kernel
theorem dX3_dropOldPledges_15 : decode cX3_dropOldPledges 15 = .ok (.aaload, 1) := by decide +kernel
theorem dX3_dropOldPledges_16 : decode cX3_dropOldPledges 16 = .ok (.invokevirtual 163, 3) := by decide +kernel
theorem dX3_dropOldPledges_19 : decode cX3_dropOldPledges 19 = .ok (.ifCond .eq 28, 3) := by decide +kernel
theorem dX3_dropOldPledges_22 : decode cX3_dropOldPledges 22 = .ok (.aload_n 0, 1) := by decide +kernel
theorem dX3_dropOldPledges_23 : decode cX3_dropOldPledges 23 = .ok (.getfield 43, 3) := by decide +kernel
theorem dX3_dropOldPledges_26 : decode cX3_dropOldPledges 26 = .ok (.iload_n 1, 1) := by decide +kernel
theorem dX3_dropOldPledges_27 : decode cX3_dropOldPledges 27 = .ok (.aaload, 1) := by decide +kernel
theorem dX3_dropOldPledges_28 : decode cX3_dropOldPledges 28 = .ok (.getfield 229, 3) := by decide +kernel
theorem dX3_dropOldPledges_31 : decode cX3_dropOldPledges 31 = .ok (.aload_n 0, 1) := by decide +kernel
theorem dX3_dropOldPledges_32 : decode cX3_dropOldPledges 32 = .ok (.invokevirtual 223, 3) := by decide +kernel
theorem dX3_dropOldPledges_35 : decode cX3_dropOldPledges 35 = .ok (.if_icmp .ge 12, 3) := by decide +kernel
theorem dX3_dropOldPledges_38 : decode cX3_dropOldPledges 38 = .ok (.aload_n 0, 1) := by decide +kernel
theorem dX3_dropOldPledges_39 : decode cX3_dropOldPledges 39 = .ok (.getfield 43, 3) := by decide +kernel
theorem dX3_dropOldPledges_42 : decode cX3_dropOldPledges 42 = .ok (.iload_n 1, 1) := by decide +kernel
theorem dX3_dropOldPledges_43 : decode cX3_dropOldPledges 43 = .ok (.aaload, 1) := by decide +kernel
theorem dX3_dropOldPledges_44 : decode cX3_dropOldPledges 44 = .ok (.invokevirtual 247, 3) := by decide +kernel
theorem dX3_dropOldPledges_47 : decode cX3_dropOldPledges 47 = .ok (.iinc 1 1, 3) := by decide +kernel
theorem dX3_dropOldPledges_50 : decode cX3_dropOldPledges 50 = .ok (.goto (-48), 3) := by decide +kernel
theorem dX3_dropOldPledges_53 : decode cX3_dropOldPledges 53 = .ok (.return_, 1) := by decide +kernel
theorem dX3_today_0 : decode cX3_today 0 = .ok (.aload_n 0, 1) := by decide +kernel
theorem dX3_today_1 : decode cX3_today 1 = .ok (.getfield 67, 3) := by decide +kernel
theorem dX3_today_4 : decode cX3_today 4 = .ok (.bipush 96, 2) := by decide +kernel
theorem dX3_today_6 : decode cX3_today 6 = .ok (.idiv, 1) := by decide +kernel
theorem dX3_today_7 : decode cX3_today 7 = .ok (.ireturn, 1) := by decide +kernel
theorem dX3_letPass_0 : decode cX3_letPass 0 = .ok (.iload_n 1, 1) := by decide +kernel
theorem dX3_letPass_1 : decode cX3_letPass 1 = .ok (.iconst 1, 1) := by decide +kernel
theorem dX3_letPass_2 : decode cX3_letPass 2 = .ok (.sipush 200, 3) := by decide +kernel
theorem dX3_letPass_5 : decode cX3_letPass 5 = .ok (.invokestatic 110, 3) := by decide +kernel
theorem dX3_letPass_8 : decode cX3_letPass 8 = .ok (.ifCond .ne 6, 3) := by decide +kernel
theorem dX3_letPass_11 : decode cX3_letPass 11 = .ok (.ldc 120, 2) := by decide +kernel
theorem dX3_letPass_13 : decode cX3_letPass 13 = .ok (.ireturn, 1) := by decide +kernel
theorem dX3_letPass_14 : decode cX3_letPass 14 = .ok (.aload_n 0, 1) := by decide +kernel
theorem dX3_letPass_15 : decode cX3_letPass 15 = .ok (.getfield 67, 3) := by decide +kernel
theorem dX3_letPass_18 : decode cX3_letPass 18 = .ok (.iload_n 1, 1) := by decide +kernel
theorem dX3_letPass_19 : decode cX3_letPass 19 = .ok (.iadd, 1) := by decide +kernel
theorem dX3_letPass_20 : decode cX3_letPass 20 = .ok (.sipush 10000, 3) := by decide +kernel
theorem dX3_letPass_23 : decode cX3_letPass 23 = .ok (.if_icmp .le 6, 3) := by decide +kernel
theorem dX3_letPass_26 : decode cX3_letPass 26 = .ok (.ldc 122, 2) := by decide +kernel
theorem dX3_letPass_28 : decode cX3_letPass 28 = .ok (.ireturn, 1) := by decide +kernel
theorem dX3_letPass_29 : decode cX3_letPass 29 = .ok (.iconst 0, 1) := by decide +kernel
theorem dX3_letPass_30 : decode cX3_letPass 30 = .ok (.istore_n 2, 1) := by decide +kernel
theorem dX3_letPass_31 : decode cX3_letPass 31 = .ok (.iload_n 2, 1) := by decide +kernel
theorem dX3_letPass_32 : decode cX3_letPass 32 = .ok (.iload_n 1, 1) := by decide +kernel
theorem dX3_letPass_33 : decode cX3_letPass 33 = .ok (.if_icmp .ge 13, 3) := by decide +kernel
theorem dX3_letPass_36 : decode cX3_letPass 36 = .ok (.aload_n 0, 1) := by decide +kernel
theorem dX3_letPass_37 : decode cX3_letPass 37 = .ok (.invokevirtual 250, 3) := by decide +kernel
theorem dX3_letPass_40 : decode cX3_letPass 40 = .ok (.iinc 2 1, 3) := by decide +kernel
theorem dX3_letPass_43 : decode cX3_letPass 43 = .ok (.goto (-12), 3) := by decide +kernel
theorem dX3_letPass_46 : decode cX3_letPass 46 = .ok (.aload_n 0, 1) := by decide +kernel
theorem dX3_letPass_47 : decode cX3_letPass 47 = .ok (.getfield 67, 3) := by decide +kernel
theorem dX3_letPass_50 : decode cX3_letPass 50 = .ok (.ireturn, 1) := by decide +kernel
theorem dX3_step_0 : decode cX3_step 0 = .ok (.aload_n 0, 1) := by decide +kernel
theorem dX3_step_1 : decode cX3_step 1 = .ok (.dup, 1) := by decide +kernel
theorem dX3_step_2 : decode cX3_step 2 = .ok (.getfield 67, 3) := by decide +kernel
theorem dX3_step_5 : decode cX3_step 5 = .ok (.iconst 1, 1) := by decide +kernel
theorem dX3_step_6 : decode cX3_step 6 = .ok (.iadd, 1) := by decide +kernel
theorem dX3_step_7 : decode cX3_step 7 = .ok (.putfield 67, 3) := by decide +kernel
theorem dX3_step_10 : decode cX3_step 10 = .ok (.aload_n 0, 1) := by decide +kernel
theorem dX3_step_11 : decode cX3_step 11 = .ok (.getfield 67, 3) := by decide +kernel
theorem dX3_step_14 : decode cX3_step 14 = .ok (.bipush 96, 2) := by decide +kernel
theorem dX3_step_16 : decode cX3_step 16 = .ok (.irem, 1) := by decide +kernel
theorem dX3_step_17 : decode cX3_step 17 = .ok (.ifCond .ne 7, 3) := by decide +kernel
theorem dX3_step_20 : decode cX3_step 20 = .ok (.aload_n 0, 1) := by decide +kernel
theorem dX3_step_21 : decode cX3_step 21 = .ok (.invokevirtual 253, 3) := by decide +kernel
theorem dX3_step_24 : decode cX3_step 24 = .ok (.aload_n 0, 1) := by decide +kernel
theorem dX3_step_25 : decode cX3_step 25 = .ok (.aload_n 0, 1) := by decide +kernel
theorem dX3_step_26 : decode cX3_step 26 = .ok (.getfield 67, 3) := by decide +kernel
theorem dX3_step_29 : decode cX3_step 29 = .ok (.invokevirtual 256, 3) := by decide +kernel
theorem dX3_step_32 : decode cX3_step 32 = .ok (.istore_n 1, 1) := by decide +kernel
theorem dX3_step_33 : decode cX3_step 33 = .ok (.aload_n 0, 1) := by decide +kernel
theorem dX3_step_34 : decode cX3_step 34 = .ok (.iload_n 1, 1) := by decide +kernel
theorem dX3_step_35 : decode cX3_step 35 = .ok (.invokevirtual 259, 3) := by decide +kernel
theorem dX3_step_38 : decode cX3_step 38 = .ok (.aload_n 0, 1) := by decide +kernel
theorem dX3_step_39 : decode cX3_step 39 = .ok (.iload_n 1, 1) := by decide +kernel
theorem dX3_step_40 : decode cX3_step 40 = .ok (.invokevirtual 263, 3) := by decide +kernel
theorem dX3_step_43 : decode cX3_step 43 = .ok (.aload_n 0, 1) := by decide +kernel
theorem dX3_step_44 : decode cX3_step 44 = .ok (.iload_n 1, 1) := by decide +kernel
theorem dX3_step_45 : decode cX3_step 45 = .ok (.invokevirtual 266, 3) := by decide +kernel
theorem dX3_step_48 : decode cX3_step 48 = .ok (.return_, 1) := by decide +kernel
theorem dX3_seaAt_0 : decode cX3_seaAt 0 = .ok (.aload_n 0, 1) := by decide +kernel
theorem dX3_seaAt_1 : decode cX3_seaAt 1 = .ok (.getfield 18, 3) := by decide +kernel
theorem dX3_seaAt_4 : decode cX3_seaAt 4 = .ok (.iconst 4, 1) := by decide +kernel
theorem dX3_seaAt_5 : decode cX3_seaAt 5 = .ok (.iaload, 1) := by decide +kernel
theorem dX3_seaAt_6 : decode cX3_seaAt 6 = .ok (.istore_n 2, 1) := by decide +kernel
theorem dX3_seaAt_7 : decode cX3_seaAt 7 = .ok (.iload_n 1, 1) := by decide +kernel
theorem dX3_seaAt_8 : decode cX3_seaAt 8 = .ok (.iload_n 2, 1) := by decide +kernel
theorem dX3_seaAt_9 : decode cX3_seaAt 9 = .ok (.invokestatic 269, 3) := by decide +kernel
theorem dX3_seaAt_12 : decode cX3_seaAt 12 = .ok (.istore_n 3, 1) := by decide +kernel
theorem dX3_seaAt_13 : decode cX3_seaAt 13 = .ok (.iload_n 1, 1) := by decide +kernel
theorem dX3_seaAt_14 : decode cX3_seaAt 14 = .ok (.iload_n 3, 1) := by decide +kernel
theorem dX3_seaAt_15 : decode cX3_seaAt 15 = .ok (.iload_n 2, 1) := by decide +kernel
theorem dX3_seaAt_16 : decode cX3_seaAt 16 = .ok (.imul, 1) := by decide +kernel
theorem dX3_seaAt_17 : decode cX3_seaAt 17 = .ok (.isub, 1) := by decide +kernel
theorem dX3_seaAt_18 : decode cX3_seaAt 18 = .ok (.istore 4, 2) := by decide +kernel
theorem dX3_seaAt_20 : decode cX3_seaAt 20 = .ok (.iload_n 2, 1) := by decide +kernel
theorem dX3_seaAt_21 : decode cX3_seaAt 21 = .ok (.iconst 2, 1) := by decide +kernel
theorem dX3_seaAt_22 : decode cX3_seaAt 22 = .ok (.idiv, 1) := by decide +kernel
theorem dX3_seaAt_23 : decode cX3_seaAt 23 = .ok (.istore 5, 2) := by decide +kernel
theorem dX3_seaAt_25 : decode cX3_seaAt 25 = .ok (.aload_n 0, 1) := by decide +kernel
theorem dX3_seaAt_26 : decode cX3_seaAt 26 = .ok (.getfield 18, 3) := by decide +kernel
theorem dX3_seaAt_29 : decode cX3_seaAt 29 = .ok (.iconst 2, 1) := by decide +kernel
theorem dX3_seaAt_30 : decode cX3_seaAt 30 = .ok (.iaload, 1) := by decide +kernel
theorem dX3_seaAt_31 : decode cX3_seaAt 31 = .ok (.aload_n 0, 1) := by decide +kernel
theorem dX3_seaAt_32 : decode cX3_seaAt 32 = .ok (.getfield 18, 3) := by decide +kernel
theorem dX3_seaAt_35 : decode cX3_seaAt 35 = .ok (.iconst 3, 1) := by decide +kernel
theorem dX3_seaAt_36 : decode cX3_seaAt 36 = .ok (.iaload, 1) := by decide +kernel
theorem dX3_seaAt_37 : decode cX3_seaAt 37 = .ok (.iload_n 3, 1) := by decide +kernel
theorem dX3_seaAt_38 : decode cX3_seaAt 38 = .ok (.bipush 14, 2) := by decide +kernel
theorem dX3_seaAt_40 : decode cX3_seaAt 40 = .ok (.irem, 1) := by decide +kernel
theorem dX3_seaAt_41 : decode cX3_seaAt 41 = .ok (.bipush 7, 2) := by decide +kernel
theorem dX3_seaAt_43 : decode cX3_seaAt 43 = .ok (.isub, 1) := by decide +kernel
theorem dX3_seaAt_44 : decode cX3_seaAt 44 = .ok (.invokestatic 272, 3) := by decide +kernel
theorem dX3_seaAt_47 : decode cX3_seaAt 47 = .ok (.imul, 1) := by decide +kernel
theorem dX3_seaAt_48 : decode cX3_seaAt 48 = .ok (.bipush 7, 2) := by decide +kernel
theorem dX3_seaAt_50 : decode cX3_seaAt 50 = .ok (.idiv, 1) := by decide +kernel
theorem dX3_seaAt_51 : decode cX3_seaAt 51 = .ok (.iadd, 1) := by decide +kernel
theorem dX3_seaAt_52 : decode cX3_seaAt 52 = .ok (.istore 6, 2) := by decide +kernel
theorem dX3_seaAt_54 : decode cX3_seaAt 54 = .ok (.iload 4, 2) := by decide +kernel
theorem dX3_seaAt_56 : decode cX3_seaAt 56 = .ok (.iload 5, 2) := by decide +kernel
theorem dX3_seaAt_58 : decode cX3_seaAt 58 = .ok (.if_icmp .gt 16, 3) := by decide +kernel
theorem dX3_seaAt_61 : decode cX3_seaAt 61 = .ok (.iload 6, 2) := by decide +kernel
theorem dX3_seaAt_63 : decode cX3_seaAt 63 = .ok (.iload 4, 2) := by decide +kernel
theorem dX3_seaAt_65 : decode cX3_seaAt 65 = .ok (.imul, 1) := by decide +kernel
theorem dX3_seaAt_66 : decode cX3_seaAt 66 = .ok (.iload 5, 2) := by decide +kernel
theorem dX3_seaAt_68 : decode cX3_seaAt 68 = .ok (.invokestatic 269, 3) := by decide +kernel
theorem dX3_seaAt_71 : decode cX3_seaAt 71 = .ok (.goto 17, 3) := by decide +kernel
theorem dX3_seaAt_74 : decode cX3_seaAt 74 = .ok (.iload 6, 2) := by decide +kernel
theorem dX3_seaAt_76 : decode cX3_seaAt 76 = .ok (.iload_n 2, 1) := by decide +kernel
theorem dX3_seaAt_77 : decode cX3_seaAt 77 = .ok (.iload 4, 2) := by decide +kernel
theorem dX3_seaAt_79 : decode cX3_seaAt 79 = .ok (.isub, 1) := by decide +kernel
theorem dX3_seaAt_80 : decode cX3_seaAt 80 = .ok (.imul, 1) := by decide +kernel
theorem dX3_seaAt_81 : decode cX3_seaAt 81 = .ok (.iload_n 2, 1) := by decide +kernel
theorem dX3_seaAt_82 : decode cX3_seaAt 82 = .ok (.iload 5, 2) := by decide +kernel
theorem dX3_seaAt_84 : decode cX3_seaAt 84 = .ok (.isub, 1) := by decide +kernel
theorem dX3_seaAt_85 : decode cX3_seaAt 85 = .ok (.invokestatic 269, 3) := by decide +kernel
theorem dX3_seaAt_88 : decode cX3_seaAt 88 = .ok (.istore 7, 2) := by decide +kernel
theorem dX3_seaAt_90 : decode cX3_seaAt 90 = .ok (.aload_n 0, 1) := by decide +kernel
theorem dX3_seaAt_91 : decode cX3_seaAt 91 = .ok (.getfield 18, 3) := by decide +kernel
theorem dX3_seaAt_94 : decode cX3_seaAt 94 = .ok (.iconst 1, 1) := by decide +kernel
theorem dX3_seaAt_95 : decode cX3_seaAt 95 = .ok (.iaload, 1) := by decide +kernel
theorem dX3_seaAt_96 : decode cX3_seaAt 96 = .ok (.iload 7, 2) := by decide +kernel
theorem dX3_seaAt_98 : decode cX3_seaAt 98 = .ok (.iadd, 1) := by decide +kernel
theorem dX3_seaAt_99 : decode cX3_seaAt 99 = .ok (.ireturn, 1) := by decide +kernel
theorem dX3_stepsToHigh_0 : decode cX3_stepsToHigh 0 = .ok (.aload_n 0, 1) := by decide +kernel
theorem dX3_stepsToHigh_1 : decode cX3_stepsToHigh 1 = .ok (.getfield 18, 3) := by decide +kernel
theorem dX3_stepsToHigh_4 : decode cX3_stepsToHigh 4 = .ok (.iconst 4, 1) := by decide +kernel
theorem dX3_stepsToHigh_5 : decode cX3_stepsToHigh 5 = .ok (.iaload, 1) := by decide +kernel
theorem dX3_stepsToHigh_6 : decode cX3_stepsToHigh 6 = .ok (.istore_n 1, 1) := by decide +kernel
theorem dX3_stepsToHigh_7 : decode cX3_stepsToHigh 7 = .ok (.aload_n 0, 1) := by decide +kernel
theorem dX3_stepsToHigh_8 : decode cX3_stepsToHigh 8 = .ok (.getfield 67, 3) := by decide +kernel
theorem dX3_stepsToHigh_11 : decode cX3_stepsToHigh 11 = .ok (.aload_n 0, 1) := by decide +kernel
theorem dX3_stepsToHigh_12 : decode cX3_stepsToHigh 12 = .ok (.getfield 67, 3) := by decide +kernel
theorem dX3_stepsToHigh_15 : decode cX3_stepsToHigh 15 = .ok (.iload_n 1, 1) := by decide +kernel
theorem dX3_stepsToHigh_16 : decode cX3_stepsToHigh 16 = .ok (.invokestatic 269, 3) := by decide +kernel
theorem dX3_stepsToHigh_19 : decode cX3_stepsToHigh 19 = .ok (.iload_n 1, 1) := by decide +kernel
theorem dX3_stepsToHigh_20 : decode cX3_stepsToHigh 20 = .ok (.imul, 1) := by decide +kernel
theorem dX3_stepsToHigh_21 : decode cX3_stepsToHigh 21 = .ok (.isub, 1) := by decide +kernel
theorem dX3_stepsToHigh_22 : decode cX3_stepsToHigh 22 = .ok (.istore_n 2, 1) := by decide +kernel
theorem dX3_stepsToHigh_23 : decode cX3_stepsToHigh 23 = .ok (.iload_n 1, 1) := by decide +kernel
theorem dX3_stepsToHigh_24 : decode cX3_stepsToHigh 24 = .ok (.iconst 2, 1) := by decide +kernel
theorem dX3_stepsToHigh_25 : decode cX3_stepsToHigh 25 = .ok (.idiv, 1) := by decide +kernel
theorem dX3_stepsToHigh_26 : decode cX3_stepsToHigh 26 = .ok (.iload_n 2, 1) := by decide +kernel
theorem dX3_stepsToHigh_27 : decode cX3_stepsToHigh 27 = .ok (.isub, 1) := by decide +kernel
theorem dX3_stepsToHigh_28 : decode cX3_stepsToHigh 28 = .ok (.istore_n 3, 1) := by decide +kernel
theorem dX3_stepsToHigh_29 : decode cX3_stepsToHigh 29 = .ok (.iload_n 3, 1) := by decide +kernel
theorem dX3_stepsToHigh_30 : decode cX3_stepsToHigh 30 = .ok (.ifCond .le 7, 3) := by decide +kernel
theorem dX3_stepsToHigh_33 : decode cX3_stepsToHigh 33 = .ok (.iload_n 3, 1) := by decide +kernel
theorem dX3_stepsToHigh_34 : decode cX3_stepsToHigh 34 = .ok (.goto 6, 3) := by decide +kernel
theorem dX3_stepsToHigh_37 : decode cX3_stepsToHigh 37 = .ok (.iload_n 3, 1) := by decide +kernel
theorem dX3_stepsToHigh_38 : decode cX3_stepsToHigh 38 = .ok (.iload_n 1, 1) := by decide +kernel
theorem dX3_stepsToHigh_39 : decode cX3_stepsToHigh 39 = .ok (.iadd, 1) := by decide +kernel
theorem dX3_stepsToHigh_40 : decode cX3_stepsToHigh 40 = .ok (.ireturn, 1) := by decide +kernel
theorem dX3_level_0 : decode cX3_level 0 = .ok (.aload_n 0, 1) := by decide +kernel
theorem dX3_level_1 : decode cX3_level 1 = .ok (.getfield 70, 3) := by decide +kernel
theorem dX3_level_4 : decode cX3_level 4 = .ok (.aload_n 0, 1) := by decide +kernel
theorem dX3_level_5 : decode cX3_level 5 = .ok (.getfield 18, 3) := by decide +kernel
theorem dX3_level_8 : decode cX3_level 8 = .ok (.iconst 0, 1) := by decide +kernel
theorem dX3_level_9 : decode cX3_level 9 = .ok (.iaload, 1) := by decide +kernel
theorem dX3_level_10 : decode cX3_level 10 = .ok (.invokestatic 269, 3) := by decide +kernel
theorem dX3_level_13 : decode cX3_level 13 = .ok (.ireturn, 1) := by decide +kernel
theorem dX3_flowIn_0 : decode cX3_flowIn 0 = .ok (.iload_n 1, 1) := by decide +kernel
theorem dX3_flowIn_1 : decode cX3_flowIn 1 = .ok (.aload_n 0, 1) := by decide +kernel
theorem dX3_flowIn_2 : decode cX3_flowIn 2 = .ok (.invokevirtual 277, 3) := by decide +kernel
theorem dX3_flowIn_5 : decode cX3_flowIn 5 = .ok (.isub, 1) := by decide +kernel
theorem dX3_flowIn_6 : decode cX3_flowIn 6 = .ok (.istore_n 2, 1) := by decide +kernel
theorem dX3_flowIn_7 : decode cX3_flowIn 7 = .ok (.aload_n 0, 1) := by decide +kernel
theorem dX3_flowIn_8 : decode cX3_flowIn 8 = .ok (.getfield 73, 3) := by decide +kernel
theorem dX3_flowIn_11 : decode cX3_flowIn 11 = .ok (.iconst 1, 1) := by decide +kernel
theorem dX3_flowIn_12 : decode cX3_flowIn 12 = .ok (.if_icmp .eq 7, 3) := by decide +kernel
theorem dX3_flowIn_15 : decode cX3_flowIn 15 = .ok (.iload_n 2, 1) := by decide +kernel
theorem dX3_flowIn_16 : decode cX3_flowIn 16 = .ok (.ifCond .gt 4, 3) := by decide +kernel
theorem dX3_flowIn_19 : decode cX3_flowIn 19 = .ok (.return_, 1) := by decide +kernel
theorem dX3_flowIn_20 : decode cX3_flowIn 20 = .ok (.aload_n 0, 1) := by decide +kernel
theorem dX3_flowIn_21 : decode cX3_flowIn 21 = .ok (.getfield 18, 3) := by decide +kernel
theorem dX3_flowIn_24 : decode cX3_flowIn 24 = .ok (.iconst 5, 1) := by decide +kernel
theorem dX3_flowIn_25 : decode cX3_flowIn 25 = .ok (.iaload, 1) := by decide +kernel
theorem dX3_flowIn_26 : decode cX3_flowIn 26 = .ok (.aload_n 0, 1) := by decide +kernel
theorem dX3_flowIn_27 : decode cX3_flowIn 27 = .ok (.getfield 18, 3) := by decide +kernel
theorem dX3_flowIn_30 : decode cX3_flowIn 30 = .ok (.iconst 0, 1) := by decide +kernel
theorem dX3_flowIn_31 : decode cX3_flowIn 31 = .ok (.iaload, 1) := by decide +kernel
theorem dX3_flowIn_32 : decode cX3_flowIn 32 = .ok (.invokestatic 280, 3) := by decide +kernel
theorem dX3_flowIn_35 : decode cX3_flowIn 35 = .ok (.iload_n 2, 1) := by decide +kernel
theorem dX3_flowIn_36 : decode cX3_flowIn 36 = .ok (.imul, 1) := by decide +kernel
theorem dX3_flowIn_37 : decode cX3_flowIn 37 = .ok (.istore_n 3, 1) := by decide +kernel
theorem dX3_flowIn_38 : decode cX3_flowIn 38 = .ok (.aload_n 0, 1) := by decide +kernel
theorem dX3_flowIn_39 : decode cX3_flowIn 39 = .ok (.dup, 1) := by decide +kernel
theorem dX3_flowIn_40 : decode cX3_flowIn 40 = .ok (.getfield 70, 3) := by decide +kernel
theorem dX3_flowIn_43 : decode cX3_flowIn 43 = .ok (.iload_n 3, 1) := by decide +kernel
theorem dX3_flowIn_44 : decode cX3_flowIn 44 = .ok (.iadd, 1) := by decide +kernel
theorem dX3_flowIn_45 : decode cX3_flowIn 45 = .ok (.putfield 70, 3) := by decide +kernel
theorem dX3_flowIn_48 : decode cX3_flowIn 48 = .ok (.aload_n 0, 1) := by decide +kernel
theorem dX3_flowIn_49 : decode cX3_flowIn 49 = .ok (.dup, 1) := by decide +kernel
theorem dX3_flowIn_50 : decode cX3_flowIn 50 = .ok (.getfield 79, 3) := by decide +kernel
theorem dX3_flowIn_53 : decode cX3_flowIn 53 = .ok (.iload_n 3, 1) := by decide +kernel
theorem dX3_flowIn_54 : decode cX3_flowIn 54 = .ok (.iadd, 1) := by decide +kernel
theorem dX3_flowIn_55 : decode cX3_flowIn 55 = .ok (.putfield 79, 3) := by decide +kernel
theorem dX3_flowIn_58 : decode cX3_flowIn 58 = .ok (.return_, 1) := by decide +kernel
theorem dX3_leakOut_0 : decode cX3_leakOut 0 = .ok (.aload_n 0, 1) := by decide +kernel
theorem dX3_leakOut_1 : decode cX3_leakOut 1 = .ok (.invokevirtual 277, 3) := by decide +kernel
theorem dX3_leakOut_4 : decode cX3_leakOut 4 = .ok (.iload_n 1, 1) := by decide +kernel
theorem dX3_leakOut_5 : decode cX3_leakOut 5 = .ok (.isub, 1) := by decide +kernel
theorem dX3_leakOut_6 : decode cX3_leakOut 6 = .ok (.istore_n 2, 1) := by decide +kernel
theorem dX3_leakOut_7 : decode cX3_leakOut 7 = .ok (.iload_n 2, 1) := by decide +kernel
theorem dX3_leakOut_8 : decode cX3_leakOut 8 = .ok (.ifCond .gt 4, 3) := by decide +kernel
theorem dX3_leakOut_11 : decode cX3_leakOut 11 = .ok (.return_, 1) := by decide +kernel
theorem dX3_leakOut_12 : decode cX3_leakOut 12 = .ok (.iconst 0, 1) := by decide +kernel
theorem dX3_leakOut_13 : decode cX3_leakOut 13 = .ok (.istore_n 3, 1) := by decide +kernel
theorem dX3_leakOut_14 : decode cX3_leakOut 14 = .ok (.iload_n 3, 1) := by decide +kernel
theorem dX3_leakOut_15 : decode cX3_leakOut 15 = .ok (.iconst 4, 1) := by decide +kernel
theorem dX3_leakOut_16 : decode cX3_leakOut 16 = .ok (.if_icmp .ge 48, 3) := by decide +kernel
theorem dX3_leakOut_19 : decode cX3_leakOut 19 = .ok (.aload_n 0, 1) := by decide +kernel
theorem dX3_leakOut_20 : decode cX3_leakOut 20 = .ok (.getfield 26, 3) := by decide +kernel
theorem dX3_leakOut_23 : decode cX3_leakOut 23 = .ok (.iload_n 3, 1) := by decide +kernel
theorem dX3_leakOut_24 : decode cX3_leakOut 24 = .ok (.iaload, 1) := by decide +kernel
theorem dX3_leakOut_25 : decode cX3_leakOut 25 = .ok (.iload_n 2, 1) := by decide +kernel
theorem dX3_leakOut_26 : decode cX3_leakOut 26 = .ok (.imul, 1) := by decide +kernel
theorem dX3_leakOut_27 : decode cX3_leakOut 27 = .ok (.aload_n 0, 1) := by decide +kernel
theorem dX3_leakOut_28 : decode cX3_leakOut 28 = .ok (.getfield 70, 3) := by decide +kernel
theorem dX3_leakOut_31 : decode cX3_leakOut 31 = .ok (.invokestatic 280, 3) := by decide +kernel
theorem dX3_leakOut_34 : decode cX3_leakOut 34 = .ok (.istore 4, 2) := by decide +kernel
theorem dX3_leakOut_36 : decode cX3_leakOut 36 = .ok (.aload_n 0, 1) := by decide +kernel
theorem dX3_leakOut_37 : decode cX3_leakOut 37 = .ok (.dup, 1) := by decide +kernel
theorem dX3_leakOut_38 : decode cX3_leakOut 38 = .ok (.getfield 70, 3) := by decide +kernel
theorem dX3_leakOut_41 : decode cX3_leakOut 41 = .ok (.iload 4, 2) := by decide +kernel
theorem dX3_leakOut_43 : decode cX3_leakOut 43 = .ok (.isub, 1) := by decide +kernel
theorem dX3_leakOut_44 : decode cX3_leakOut 44 = .ok (.putfield 70, 3) := by decide +kernel
theorem dX3_leakOut_47 : decode cX3_leakOut 47 = .ok (.aload_n 0, 1) := by decide +kernel
theorem dX3_leakOut_48 : decode cX3_leakOut 48 = .ok (.dup, 1) := by decide +kernel
theorem dX3_leakOut_49 : decode cX3_leakOut 49 = .ok (.getfield 82, 3) := by decide +kernel
theorem dX3_leakOut_52 : decode cX3_leakOut 52 = .ok (.iload 4, 2) := by decide +kernel
theorem dX3_leakOut_54 : decode cX3_leakOut 54 = .ok (.iadd, 1) := by decide +kernel
theorem dX3_leakOut_55 : decode cX3_leakOut 55 = .ok (.putfield 82, 3) := by decide +kernel
theorem dX3_leakOut_58 : decode cX3_leakOut 58 = .ok (.iinc 3 1, 3) := by decide +kernel
theorem dX3_leakOut_61 : decode cX3_leakOut 61 = .ok (.goto (-47), 3) := by decide +kernel
theorem dX3_leakOut_64 : decode cX3_leakOut 64 = .ok (.return_, 1) := by decide +kernel
theorem dX3_grind_0 : decode cX3_grind 0 = .ok (.aload_n 0, 1) := by decide +kernel
theorem dX3_grind_1 : decode cX3_grind 1 = .ok (.invokevirtual 277, 3) := by decide +kernel
theorem dX3_grind_4 : decode cX3_grind 4 = .ok (.iload_n 1, 1) := by decide +kernel
theorem dX3_grind_5 : decode cX3_grind 5 = .ok (.isub, 1) := by decide +kernel
theorem dX3_grind_6 : decode cX3_grind 6 = .ok (.istore_n 2, 1) := by decide +kernel
theorem dX3_grind_7 : decode cX3_grind 7 = .ok (.aload_n 0, 1) := by decide +kernel
theorem dX3_grind_8 : decode cX3_grind 8 = .ok (.getfield 76, 3) := by decide +kernel
theorem dX3_grind_11 : decode cX3_grind 11 = .ok (.aload_n 0, 1) := by decide +kernel
theorem dX3_grind_12 : decode cX3_grind 12 = .ok (.getfield 18, 3) := by decide +kernel
theorem dX3_grind_15 : decode cX3_grind 15 = .ok (.bipush 7, 2) := by decide +kernel
theorem dX3_grind_17 : decode cX3_grind 17 = .ok (.iaload, 1) := by decide +kernel
theorem dX3_grind_18 : decode cX3_grind 18 = .ok (.imul, 1) := by decide +kernel
theorem dX3_grind_19 : decode cX3_grind 19 = .ok (.istore_n 3, 1) := by decide +kernel
theorem dX3_grind_20 : decode cX3_grind 20 = .ok (.aload_n 0, 1) := by decide +kernel
theorem dX3_grind_21 : decode cX3_grind 21 = .ok (.getfield 76, 3) := by decide +kernel
theorem dX3_grind_24 : decode cX3_grind 24 = .ok (.ifCond .eq 26, 3) := by decide +kernel
theorem dX3_grind_27 : decode cX3_grind 27 = .ok (.iload_n 2, 1) := by decide +kernel
theorem dX3_grind_28 : decode cX3_grind 28 = .ok (.ifCond .le 22, 3) := by decide +kernel
theorem dX3_grind_31 : decode cX3_grind 31 = .ok (.iload_n 2, 1) := by decide +kernel
theorem dX3_grind_32 : decode cX3_grind 32 = .ok (.aload_n 0, 1) := by decide +kernel
theorem dX3_grind_33 : decode cX3_grind 33 = .ok (.getfield 18, 3) := by decide +kernel
theorem dX3_grind_36 : decode cX3_grind 36 = .ok (.bipush 6, 2) := by decide +kernel
theorem dX3_grind_38 : decode cX3_grind 38 = .ok (.iaload, 1) := by decide +kernel
theorem dX3_grind_39 : decode cX3_grind 39 = .ok (.if_icmp .lt 11, 3) := by decide +kernel
theorem dX3_grind_42 : decode cX3_grind 42 = .ok (.aload_n 0, 1) := by decide +kernel
theorem dX3_grind_43 : decode cX3_grind 43 = .ok (.getfield 70, 3) := by decide +kernel
theorem dX3_grind_46 : decode cX3_grind 46 = .ok (.iload_n 3, 1) := by decide +kernel
theorem dX3_grind_47 : decode cX3_grind 47 = .ok (.if_icmp .ge 4, 3) := by decide +kernel
theorem dX3_grind_50 : decode cX3_grind 50 = .ok (.return_, 1) := by decide +kernel
theorem dX3_grind_51 : decode cX3_grind 51 = .ok (.aload_n 0, 1) := by decide +kernel
theorem dX3_grind_52 : decode cX3_grind 52 = .ok (.aload_n 0, 1) := by decide +kernel
theorem dX3_grind_53 : decode cX3_grind 53 = .ok (.getfield 47, 3) := by decide +kernel
theorem dX3_grind_56 : decode cX3_grind 56 = .ok (.invokevirtual 149, 3) := by decide +kernel
theorem dX3_grind_59 : decode cX3_grind 59 = .ok (.ifCond .ne 11, 3) := by decide +kernel
theorem dX3_grind_62 : decode cX3_grind 62 = .ok (.aload_n 0, 1) := by decide +kernel
theorem dX3_grind_63 : decode cX3_grind 63 = .ok (.aload_n 0, 1) := by decide +kernel
theorem dX3_grind_64 : decode cX3_grind 64 = .ok (.invokevirtual 283, 3) := by decide +kernel
theorem dX3_grind_67 : decode cX3_grind 67 = .ok (.invokevirtual 286, 3) := by decide +kernel
theorem dX3_grind_70 : decode cX3_grind 70 = .ok (.aload_n 0, 1) := by decide +kernel
theorem dX3_grind_71 : decode cX3_grind 71 = .ok (.aload_n 0, 1) := by decide +kernel
theorem dX3_grind_72 : decode cX3_grind 72 = .ok (.getfield 47, 3) := by decide +kernel
theorem dX3_grind_75 : decode cX3_grind 75 = .ok (.invokevirtual 149, 3) := by decide +kernel
theorem dX3_grind_78 : decode cX3_grind 78 = .ok (.ifCond .eq 42, 3) := by decide +kernel
theorem dX3_grind_81 : decode cX3_grind 81 = .ok (.aload_n 0, 1) := by decide +kernel
theorem dX3_grind_82 : decode cX3_grind 82 = .ok (.dup, 1) := by decide +kernel
theorem dX3_grind_83 : decode cX3_grind 83 = .ok (.getfield 70, 3) := by decide +kernel
theorem dX3_grind_86 : decode cX3_grind 86 = .ok (.iload_n 3, 1) := by decide +kernel
theorem dX3_grind_87 : decode cX3_grind 87 = .ok (.isub, 1) := by decide +kernel
theorem dX3_grind_88 : decode cX3_grind 88 = .ok (.putfield 70, 3) := by decide +kernel
theorem dX3_grind_91 : decode cX3_grind 91 = .ok (.aload_n 0, 1) := by decide +kernel
theorem dX3_grind_92 : decode cX3_grind 92 = .ok (.dup, 1) := by decide +kernel
theorem dX3_grind_93 : decode cX3_grind 93 = .ok (.getfield 85, 3) := by decide +kernel
theorem dX3_grind_96 : decode cX3_grind 96 = .ok (.iload_n 3, 1) := by decide +kernel
theorem dX3_grind_97 : decode cX3_grind 97 = .ok (.iadd, 1) := by decide +kernel
theorem dX3_grind_98 : decode cX3_grind 98 = .ok (.putfield 85, 3) := by decide +kernel
theorem dX3_grind_101 : decode cX3_grind 101 = .ok (.aload_n 0, 1) := by decide +kernel
theorem dX3_grind_102 : decode cX3_grind 102 = .ok (.aload_n 0, 1) := by decide +kernel
theorem dX3_grind_103 : decode cX3_grind 103 = .ok (.getfield 43, 3) := by decide +kernel
theorem dX3_grind_106 : decode cX3_grind 106 = .ok (.aload_n 0, 1) := by decide +kernel
theorem dX3_grind_107 : decode cX3_grind 107 = .ok (.getfield 47, 3) := by decide +kernel
theorem dX3_grind_110 : decode cX3_grind 110 = .ok (.aaload, 1) := by decide +kernel
theorem dX3_grind_111 : decode cX3_grind 111 = .ok (.aload_n 0, 1) := by decide +kernel
theorem dX3_grind_112 : decode cX3_grind 112 = .ok (.getfield 76, 3) := by decide +kernel
theorem dX3_grind_115 : decode cX3_grind 115 = .ok (.iload_n 2, 1) := by decide +kernel
theorem dX3_grind_116 : decode cX3_grind 116 = .ok (.imul, 1) := by decide +kernel
theorem dX3_grind_117 : decode cX3_grind 117 = .ok (.invokevirtual 289, 3) := by decide +kernel
theorem dX3_grind_120 : decode cX3_grind 120 = .ok (.return_, 1) := by decide +kernel
theorem dX3_putOnStones_0 : decode cX3_putOnStones 0 = .ok (.aload_n 0, 1) := by decide +kernel
theorem dX3_putOnStones_1 : decode cX3_putOnStones 1 = .ok (.iload_n 1, 1) := by decide +kernel
theorem dX3_putOnStones_2 : decode cX3_putOnStones 2 = .ok (.invokevirtual 149, 3) := by decide +kernel
theorem dX3_putOnStones_5 : decode cX3_putOnStones 5 = .ok (.ifCond .ne 4, 3) := by decide +kernel
theorem dX3_putOnStones_8 : decode cX3_putOnStones 8 = .ok (.return_, 1) := by decide +kernel
theorem dX3_putOnStones_9 : decode cX3_putOnStones 9 = .ok (.aload_n 0, 1) := by decide +kernel
theorem dX3_putOnStones_10 : decode cX3_putOnStones 10 = .ok (.getfield 43, 3) := by decide +kernel
theorem dX3_putOnStones_13 : decode cX3_putOnStones 13 = .ok (.iload_n 1, 1) := by decide +kernel
theorem dX3_putOnStones_14 : decode cX3_putOnStones 14 = .ok (.aaload, 1) := by decide +kernel
theorem dX3_putOnStones_15 : decode cX3_putOnStones 15 = .ok (.astore_n 2, 1) := by decide +kernel
theorem dX3_putOnStones_16 : decode cX3_putOnStones 16 = .ok (.aload_n 2, 1) := by decide +kernel
theorem dX3_putOnStones_17 : decode cX3_putOnStones 17 = .ok (.iconst 1, 1) := by decide +kernel
theorem dX3_putOnStones_18 : decode cX3_putOnStones 18 = .ok (.putfield 152, 3) := by decide +kernel
theorem dX3_putOnStones_21 : decode cX3_putOnStones 21 = .ok (.aload_n 2, 1) := by decide +kernel
theorem dX3_putOnStones_22 : decode cX3_putOnStones 22 = .ok (.aload_n 0, 1) := by decide +kernel
theorem dX3_putOnStones_23 : decode cX3_putOnStones 23 = .ok (.getfield 18, 3) := by decide +kernel
theorem dX3_putOnStones_26 : decode cX3_putOnStones 26 = .ok (.bipush 8, 2) := by decide +kernel
theorem dX3_putOnStones_28 : decode cX3_putOnStones 28 = .ok (.iaload, 1) := by decide +kernel
theorem dX3_putOnStones_29 : decode cX3_putOnStones 29 = .ok (.putfield 293, 3) := by decide +kernel
theorem dX3_putOnStones_32 : decode cX3_putOnStones 32 = .ok (.aload_n 0, 1) := by decide +kernel
theorem dX3_putOnStones_33 : decode cX3_putOnStones 33 = .ok (.iload_n 1, 1) := by decide +kernel
theorem dX3_putOnStones_34 : decode cX3_putOnStones 34 = .ok (.putfield 47, 3) := by decide +kernel
theorem dX3_putOnStones_37 : decode cX3_putOnStones 37 = .ok (.aload_n 0, 1) := by decide +kernel
theorem dX3_putOnStones_38 : decode cX3_putOnStones 38 = .ok (.aload_n 2, 1) := by decide +kernel
theorem dX3_putOnStones_39 : decode cX3_putOnStones 39 = .ok (.getfield 206, 3) := by decide +kernel
theorem dX3_putOnStones_42 : decode cX3_putOnStones 42 = .ok (.putfield 51, 3) := by decide +kernel
theorem dX3_putOnStones_45 : decode cX3_putOnStones 45 = .ok (.aload_n 0, 1) := by decide +kernel
theorem dX3_putOnStones_46 : decode cX3_putOnStones 46 = .ok (.aload_n 2, 1) := by decide +kernel
theorem dX3_putOnStones_47 : decode cX3_putOnStones 47 = .ok (.getfield 203, 3) := by decide +kernel
theorem dX3_putOnStones_50 : decode cX3_putOnStones 50 = .ok (.invokevirtual 138, 3) := by decide +kernel
theorem dX3_putOnStones_53 : decode cX3_putOnStones 53 = .ok (.ifCond .eq 21, 3) := by decide +kernel
theorem dX3_putOnStones_56 : decode cX3_putOnStones 56 = .ok (.aload_n 0, 1) := by decide +kernel
theorem dX3_putOnStones_57 : decode cX3_putOnStones 57 = .ok (.getfield 37, 3) := by decide +kernel
theorem dX3_putOnStones_60 : decode cX3_putOnStones 60 = .ok (.aload_n 2, 1) := by decide +kernel
theorem dX3_putOnStones_61 : decode cX3_putOnStones 61 = .ok (.getfield 203, 3) := by decide +kernel
theorem dX3_putOnStones_64 : decode cX3_putOnStones 64 = .ok (.aaload, 1) := by decide +kernel
theorem dX3_putOnStones_65 : decode cX3_putOnStones 65 = .ok (.dup, 1) := by decide +kernel
theorem dX3_putOnStones_66 : decode cX3_putOnStones 66 = .ok (.getfield 135, 3) := by decide +kernel
theorem dX3_putOnStones_69 : decode cX3_putOnStones 69 = .ok (.iconst 1, 1) := by decide +kernel
theorem dX3_putOnStones_70 : decode cX3_putOnStones 70 = .ok (.iadd, 1) := by decide +kernel
theorem dX3_putOnStones_71 : decode cX3_putOnStones 71 = .ok (.putfield 135, 3) := by decide +kernel
theorem dX3_putOnStones_74 : decode cX3_putOnStones 74 = .ok (.return_, 1) := by decide +kernel
theorem dX3_grindSack_0 : decode cX3_grindSack 0 = .ok (.iload_n 2, 1) := by decide +kernel
theorem dX3_grindSack_1 : decode cX3_grindSack 1 = .ok (.aload_n 1, 1) := by decide +kernel
theorem dX3_grindSack_2 : decode cX3_grindSack 2 = .ok (.getfield 209, 3) := by decide +kernel
theorem dX3_grindSack_5 : decode cX3_grindSack 5 = .ok (.invokestatic 269, 3) := by decide +kernel
theorem dX3_grindSack_8 : decode cX3_grindSack 8 = .ok (.iconst 1, 1) := by decide +kernel
theorem dX3_grindSack_9 : decode cX3_grindSack 9 = .ok (.invokestatic 296, 3) := by decide +kernel
theorem dX3_grindSack_12 : decode cX3_grindSack 12 = .ok (.aload_n 1, 1) := by decide +kernel
theorem dX3_grindSack_13 : decode cX3_grindSack 13 = .ok (.invokevirtual 156, 3) := by decide +kernel
theorem dX3_grindSack_16 : decode cX3_grindSack 16 = .ok (.invokestatic 280, 3) := by decide +kernel
theorem dX3_grindSack_19 : decode cX3_grindSack 19 = .ok (.istore_n 3, 1) := by decide +kernel
theorem dX3_grindSack_20 : decode cX3_grindSack 20 = .ok (.aload_n 1, 1) := by decide +kernel
theorem dX3_grindSack_21 : decode cX3_grindSack 21 = .ok (.iload_n 3, 1) := by decide +kernel
theorem dX3_grindSack_22 : decode cX3_grindSack 22 = .ok (.invokevirtual 299, 3) := by decide +kernel
theorem dX3_grindSack_25 : decode cX3_grindSack 25 = .ok (.aload_n 0, 1) := by decide +kernel
theorem dX3_grindSack_26 : decode cX3_grindSack 26 = .ok (.dup, 1) := by decide +kernel
theorem dX3_grindSack_27 : decode cX3_grindSack 27 = .ok (.getfield 88, 3) := by decide +kernel
theorem dX3_grindSack_30 : decode cX3_grindSack 30 = .ok (.iload_n 3, 1) := by decide +kernel
theorem dX3_grindSack_31 : decode cX3_grindSack 31 = .ok (.iadd, 1) := by decide +kernel
theorem dX3_grindSack_32 : decode cX3_grindSack 32 = .ok (.putfield 88, 3) := by decide +kernel
theorem dX3_grindSack_35 : decode cX3_grindSack 35 = .ok (.aload_n 1, 1) := by decide +kernel
theorem dX3_grindSack_36 : decode cX3_grindSack 36 = .ok (.getfield 152, 3) := by decide +kernel
theorem dX3_grindSack_39 : decode cX3_grindSack 39 = .ok (.iconst 2, 1) := by decide +kernel
theorem dX3_grindSack_40 : decode cX3_grindSack 40 = .ok (.if_icmp .ne 8, 3) := by decide +kernel
theorem dX3_grindSack_43 : decode cX3_grindSack 43 = .ok (.aload_n 0, 1) := by decide +kernel
theorem dX3_grindSack_44 : decode cX3_grindSack 44 = .ok (.iconst (-1), 1) := by decide +kernel
theorem dX3_grindSack_45 : decode cX3_grindSack 45 = .ok (.putfield 47, 3) := by decide +kernel
theorem dX3_grindSack_48 : decode cX3_grindSack 48 = .ok (.return_, 1) := by decide +kernel
theorem dX3_tellPond_0 : decode cX3_tellPond 0 = .ok (.iload_n 1, 1) := by decide +kernel
theorem dX3_tellPond_1 : decode cX3_tellPond 1 = .ok (.tableswitch 140 0 10 #[59, 64, 69, 78, 92, 97, 102, 120, 125, 130, 135], 59) := by decide +kernel
theorem dX3_tellPond_60 : decode cX3_tellPond 60 = .ok (.aload_n 0, 1) := by decide +kernel
theorem dX3_tellPond_61 : decode cX3_tellPond 61 = .ok (.getfield 70, 3) := by decide +kernel
theorem dX3_tellPond_64 : decode cX3_tellPond 64 = .ok (.ireturn, 1) := by decide +kernel
theorem dX3_tellPond_65 : decode cX3_tellPond 65 = .ok (.aload_n 0, 1) := by decide +kernel
theorem dX3_tellPond_66 : decode cX3_tellPond 66 = .ok (.invokevirtual 277, 3) := by decide +kernel
theorem dX3_tellPond_69 : decode cX3_tellPond 69 = .ok (.ireturn, 1) := by decide +kernel
theorem dX3_tellPond_70 : decode cX3_tellPond 70 = .ok (.aload_n 0, 1) := by decide +kernel
theorem dX3_tellPond_71 : decode cX3_tellPond 71 = .ok (.aload_n 0, 1) := by decide +kernel
theorem dX3_tellPond_72 : decode cX3_tellPond 72 = .ok (.getfield 67, 3) := by decide +kernel
theorem dX3_tellPond_75 : decode cX3_tellPond 75 = .ok (.invokevirtual 256, 3) := by decide +kernel
theorem dX3_tellPond_78 : decode cX3_tellPond 78 = .ok (.ireturn, 1) := by decide +kernel
theorem dX3_tellPond_79 : decode cX3_tellPond 79 = .ok (.aload_n 0, 1) := by decide +kernel
theorem dX3_tellPond_80 : decode cX3_tellPond 80 = .ok (.invokevirtual 277, 3) := by decide +kernel
theorem dX3_tellPond_83 : decode cX3_tellPond 83 = .ok (.aload_n 0, 1) := by decide +kernel
theorem dX3_tellPond_84 : decode cX3_tellPond 84 = .ok (.aload_n 0, 1) := by decide +kernel
theorem dX3_tellPond_85 : decode cX3_tellPond 85 = .ok (.getfield 67, 3) := by decide +kernel
theorem dX3_tellPond_88 : decode cX3_tellPond 88 = .ok (.invokevirtual 256, 3) := by decide +kernel
theorem dX3_tellPond_91 : decode cX3_tellPond 91 = .ok (.isub, 1) := by decide +kernel
theorem dX3_tellPond_92 : decode cX3_tellPond 92 = .ok (.ireturn, 1) := by decide +kernel
theorem dX3_tellPond_93 : decode cX3_tellPond 93 = .ok (.aload_n 0, 1) := by decide +kernel
theorem dX3_tellPond_94 : decode cX3_tellPond 94 = .ok (.getfield 76, 3) := by decide +kernel
theorem dX3_tellPond_97 : decode cX3_tellPond 97 = .ok (.ireturn, 1) := by decide +kernel
theorem dX3_tellPond_98 : decode cX3_tellPond 98 = .ok (.aload_n 0, 1) := by decide +kernel
theorem dX3_tellPond_99 : decode cX3_tellPond 99 = .ok (.getfield 73, 3) := by decide +kernel
theorem dX3_tellPond_102 : decode cX3_tellPond 102 = .ok (.ireturn, 1) := by decide +kernel
theorem dX3_tellPond_103 : decode cX3_tellPond 103 = .ok (.aload_n 0, 1) := by decide +kernel
theorem dX3_tellPond_104 : decode cX3_tellPond 104 = .ok (.getfield 47, 3) := by decide +kernel
theorem dX3_tellPond_107 : decode cX3_tellPond 107 = .ok (.iconst (-1), 1) := by decide +kernel
theorem dX3_tellPond_108 : decode cX3_tellPond 108 = .ok (.if_icmp .ne 8, 3) := by decide +kernel
theorem dX3_tellPond_111 : decode cX3_tellPond 111 = .ok (.ldc 189, 2) := by decide +kernel
theorem dX3_tellPond_113 : decode cX3_tellPond 113 = .ok (.goto 7, 3) := by decide +kernel
theorem dX3_tellPond_116 : decode cX3_tellPond 116 = .ok (.aload_n 0, 1) := by decide +kernel
theorem dX3_tellPond_117 : decode cX3_tellPond 117 = .ok (.getfield 47, 3) := by decide +kernel
theorem dX3_tellPond_120 : decode cX3_tellPond 120 = .ok (.ireturn, 1) := by decide +kernel
theorem dX3_tellPond_121 : decode cX3_tellPond 121 = .ok (.aload_n 0, 1) := by decide +kernel
theorem dX3_tellPond_122 : decode cX3_tellPond 122 = .ok (.getfield 79, 3) := by decide +kernel
theorem dX3_tellPond_125 : decode cX3_tellPond 125 = .ok (.ireturn, 1) := by decide +kernel
theorem dX3_tellPond_126 : decode cX3_tellPond 126 = .ok (.aload_n 0, 1) := by decide +kernel
theorem dX3_tellPond_127 : decode cX3_tellPond 127 = .ok (.getfield 82, 3) := by decide +kernel
theorem dX3_tellPond_130 : decode cX3_tellPond 130 = .ok (.ireturn, 1) := by decide +kernel
theorem dX3_tellPond_131 : decode cX3_tellPond 131 = .ok (.aload_n 0, 1) := by decide +kernel
theorem dX3_tellPond_132 : decode cX3_tellPond 132 = .ok (.getfield 85, 3) := by decide +kernel
theorem dX3_tellPond_135 : decode cX3_tellPond 135 = .ok (.ireturn, 1) := by decide +kernel
theorem dX3_tellPond_136 : decode cX3_tellPond 136 = .ok (.aload_n 0, 1) := by decide +kernel
theorem dX3_tellPond_137 : decode cX3_tellPond 137 = .ok (.getfield 88, 3) := by decide +kernel
theorem dX3_tellPond_140 : decode cX3_tellPond 140 = .ok (.ireturn, 1) := by decide +kernel
theorem dX3_tellPond_141 : decode cX3_tellPond 141 = .ok (.iload_n 1, 1) := by decide +kernel
theorem dX3_tellPond_142 : decode cX3_tellPond 142 = .ok (.bipush 11, 2) := by decide +kernel
theorem dX3_tellPond_144 : decode cX3_tellPond 144 = .ok (.bipush 14, 2) := by decide +kernel
theorem dX3_tellPond_146 : decode cX3_tellPond 146 = .ok (.invokestatic 110, 3) := by decide +kernel
theorem dX3_tellPond_149 : decode cX3_tellPond 149 = .ok (.ifCond .eq 15, 3) := by decide +kernel
theorem dX3_tellPond_152 : decode cX3_tellPond 152 = .ok (.aload_n 0, 1) := by decide +kernel
theorem dX3_tellPond_153 : decode cX3_tellPond 153 = .ok (.getfield 26, 3) := by decide +kernel
theorem dX3_tellPond_156 : decode cX3_tellPond 156 = .ok (.iload_n 1, 1) := by decide +kernel
theorem dX3_tellPond_157 : decode cX3_tellPond 157 = .ok (.bipush 11, 2) := by decide +kernel
theorem dX3_tellPond_159 : decode cX3_tellPond 159 = .ok (.isub, 1) := by decide +kernel
theorem dX3_tellPond_160 : decode cX3_tellPond 160 = .ok (.iaload, 1) := by decide +kernel
theorem dX3_tellPond_161 : decode cX3_tellPond 161 = .ok (.goto 5, 3) := by decide +kernel
theorem dX3_tellPond_164 : decode cX3_tellPond 164 = .ok (.ldc 120, 2) := by decide +kernel
theorem dX3_tellPond_166 : decode cX3_tellPond 166 = .ok (.ireturn, 1) := by decide +kernel
theorem dX3_countOf_0 : decode cX3_countOf 0 = .ok (.iload_n 1, 1) := by decide +kernel
theorem dX3_countOf_1 : decode cX3_countOf 1 = .ok (.tableswitch 100 0 8 #[51, 56, 61, 66, 72, 78, 84, 90, 95], 51) := by decide +kernel
theorem dX3_countOf_52 : decode cX3_countOf 52 = .ok (.aload_n 0, 1) := by decide +kernel
theorem dX3_countOf_53 : decode cX3_countOf 53 = .ok (.getfield 91, 3) := by decide +kernel
theorem dX3_countOf_56 : decode cX3_countOf 56 = .ok (.ireturn, 1) := by decide +kernel
theorem dX3_countOf_57 : decode cX3_countOf 57 = .ok (.aload_n 0, 1) := by decide +kernel
theorem dX3_countOf_58 : decode cX3_countOf 58 = .ok (.getfield 94, 3) := by decide +kernel
theorem dX3_countOf_61 : decode cX3_countOf 61 = .ok (.ireturn, 1) := by decide +kernel
theorem dX3_countOf_62 : decode cX3_countOf 62 = .ok (.aload_n 0, 1) := by decide +kernel
theorem dX3_countOf_63 : decode cX3_countOf 63 = .ok (.getfield 97, 3) := by decide +kernel
theorem dX3_countOf_66 : decode cX3_countOf 66 = .ok (.ireturn, 1) := by decide +kernel
theorem dX3_countOf_67 : decode cX3_countOf 67 = .ok (.aload_n 0, 1) := by decide +kernel
theorem dX3_countOf_68 : decode cX3_countOf 68 = .ok (.iconst 0, 1) := by decide +kernel
theorem dX3_countOf_69 : decode cX3_countOf 69 = .ok (.invokevirtual 302, 3) := by decide +kernel
theorem dX3_countOf_72 : decode cX3_countOf 72 = .ok (.ireturn, 1) := by decide +kernel
theorem dX3_countOf_73 : decode cX3_countOf 73 = .ok (.aload_n 0, 1) := by decide +kernel
theorem dX3_countOf_74 : decode cX3_countOf 74 = .ok (.iconst 2, 1) := by decide +kernel
theorem dX3_countOf_75 : decode cX3_countOf 75 = .ok (.invokevirtual 302, 3) := by decide +kernel
theorem dX3_countOf_78 : decode cX3_countOf 78 = .ok (.ireturn, 1) := by decide +kernel
theorem dX3_countOf_79 : decode cX3_countOf 79 = .ok (.aload_n 0, 1) := by decide +kernel
theorem dX3_countOf_80 : decode cX3_countOf 80 = .ok (.iconst 3, 1) := by decide +kernel
theorem dX3_countOf_81 : decode cX3_countOf 81 = .ok (.invokevirtual 302, 3) := by decide +kernel
theorem dX3_countOf_84 : decode cX3_countOf 84 = .ok (.ireturn, 1) := by decide +kernel
theorem dX3_countOf_85 : decode cX3_countOf 85 = .ok (.aload_n 0, 1) := by decide +kernel
theorem dX3_countOf_86 : decode cX3_countOf 86 = .ok (.iconst (-1), 1) := by decide +kernel
theorem dX3_countOf_87 : decode cX3_countOf 87 = .ok (.invokevirtual 178, 3) := by decide +kernel
theorem dX3_countOf_90 : decode cX3_countOf 90 = .ok (.ireturn, 1) := by decide +kernel
theorem dX3_countOf_91 : decode cX3_countOf 91 = .ok (.aload_n 0, 1) := by decide +kernel
theorem dX3_countOf_92 : decode cX3_countOf 92 = .ok (.getfield 67, 3) := by decide +kernel
theorem dX3_countOf_95 : decode cX3_countOf 95 = .ok (.ireturn, 1) := by decide +kernel
theorem dX3_countOf_96 : decode cX3_countOf 96 = .ok (.aload_n 0, 1) := by decide +kernel
theorem dX3_countOf_97 : decode cX3_countOf 97 = .ok (.invokevirtual 223, 3) := by decide +kernel
theorem dX3_countOf_100 : decode cX3_countOf 100 = .ok (.ireturn, 1) := by decide +kernel
theorem dX3_countOf_101 : decode cX3_countOf 101 = .ok (.ldc 120, 2) := by decide +kernel
theorem dX3_countOf_103 : decode cX3_countOf 103 = .ok (.ireturn, 1) := by decide +kernel
theorem dX4_init_0 : decode cX4_init 0 = .ok (.aload_n 0, 1) := by decide +kernel
theorem dX4_init_1 : decode cX4_init 1 = .ok (.invokespecial 3, 3) := by decide +kernel
theorem dX4_init_4 : decode cX4_init 4 = .ok (.aload_n 0, 1) := by decide +kernel
theorem dX4_init_5 : decode cX4_init 5 = .ok (.bipush 60, 2) := by decide +kernel
theorem dX4_init_7 : decode cX4_init 7 = .ok (.newarray .char, 2) := by decide +kernel
theorem dX4_init_9 : decode cX4_init 9 = .ok (.putfield 9, 3) := by decide +kernel
theorem dX4_init_12 : decode cX4_init 12 = .ok (.aload_n 0, 1) := by decide +kernel
theorem dX4_init_13 : decode cX4_init 13 = .ok (.iconst 3, 1) := by decide +kernel
theorem dX4_init_14 : decode cX4_init 14 = .ok (.newarray .int, 2) := by decide +kernel
theorem dX4_init_16 : decode cX4_init 16 = .ok (.putfield 15, 3) := by decide +kernel
theorem dX4_init_19 : decode cX4_init 19 = .ok (.return_, 1) := by decide +kernel
theorem dX4_append_0 : decode cX4_append 0 = .ok (.aload_n 0, 1) := by decide +kernel
theorem dX4_append_1 : decode cX4_append 1 = .ok (.getfield 19, 3) := by decide +kernel
theorem dX4_append_4 : decode cX4_append 4 = .ok (.bipush 60, 2) := by decide +kernel
theorem dX4_append_6 : decode cX4_append 6 = .ok (.if_icmp .lt 6, 3) := by decide +kernel
theorem dX4_append_9 : decode cX4_append 9 = .ok (.ldc 23, 2) := by decide +kernel
theorem dX4_append_11 : decode cX4_append 11 = .ok (.ireturn, 1) := by decide +kernel
theorem dX4_append_12 : decode cX4_append 12 = .ok (.aload_n 0, 1) := by decide +kernel
theorem dX4_append_13 : decode cX4_append 13 = .ok (.getfield 9, 3) := by decide +kernel
theorem dX4_append_16 : decode cX4_append 16 = .ok (.aload_n 0, 1) := by decide +kernel
theorem dX4_append_17 : decode cX4_append 17 = .ok (.getfield 19, 3) := by decide +kernel
theorem dX4_append_20 : decode cX4_append 20 = .ok (.iload_n 1, 1) := by decide +kernel
theorem dX4_append_21 : decode cX4_append 21 = .ok (.castore, 1) := by decide +kernel
theorem dX4_append_22 : decode cX4_append 22 = .ok (.aload_n 0, 1) := by decide +kernel
theorem dX4_append_23 : decode cX4_append 23 = .ok (.dup, 1) := by decide +kernel
theorem dX4_append_24 : decode cX4_append 24 = .ok (.getfield 19, 3) := by decide +kernel
theorem dX4_append_27 : decode cX4_append 27 = .ok (.iconst 1, 1) := by decide +kernel
theorem dX4_append_28 : decode cX4_append 28 = .ok (.iadd, 1) := by decide +kernel
theorem dX4_append_29 : decode cX4_append 29 = .ok (.putfield 19, 3) := by decide +kernel
theorem dX4_append_32 : decode cX4_append 32 = .ok (.aload_n 0, 1) := by decide +kernel
theorem dX4_append_33 : decode cX4_append 33 = .ok (.getfield 19, 3) := by decide +kernel
theorem dX4_append_36 : decode cX4_append 36 = .ok (.ireturn, 1) := by decide +kernel
theorem dX4_empty_0 : decode cX4_empty 0 = .ok (.aload_n 0, 1) := by decide +kernel
theorem dX4_empty_1 : decode cX4_empty 1 = .ok (.getfield 19, 3) := by decide +kernel
theorem dX4_empty_4 : decode cX4_empty 4 = .ok (.istore_n 1, 1) := by decide +kernel
theorem dX4_empty_5 : decode cX4_empty 5 = .ok (.aload_n 0, 1) := by decide +kernel
theorem dX4_empty_6 : decode cX4_empty 6 = .ok (.iconst 0, 1) := by decide +kernel
theorem dX4_empty_7 : decode cX4_empty 7 = .ok (.putfield 19, 3) := by decide +kernel
theorem dX4_empty_10 : decode cX4_empty 10 = .ok (.iload_n 1, 1) := by decide +kernel
theorem dX4_empty_11 : decode cX4_empty 11 = .ok (.ireturn, 1) := by decide +kernel
theorem dX4_doAll_0 : decode cX4_doAll 0 = .ok (.aload_n 0, 1) := by decide +kernel
theorem dX4_doAll_1 : decode cX4_doAll 1 = .ok (.iconst 0, 1) := by decide +kernel
theorem dX4_doAll_2 : decode cX4_doAll 2 = .ok (.putfield 24, 3) := by decide +kernel
theorem dX4_doAll_5 : decode cX4_doAll 5 = .ok (.aload_n 0, 1) := by decide +kernel
theorem dX4_doAll_6 : decode cX4_doAll 6 = .ok (.iconst 0, 1) := by decide +kernel
theorem dX4_doAll_7 : decode cX4_doAll 7 = .ok (.putfield 27, 3) := by decide +kernel
theorem dX4_doAll_10 : decode cX4_doAll 10 = .ok (.aload_n 0, 1) := by decide +kernel
theorem dX4_doAll_11 : decode cX4_doAll 11 = .ok (.iconst 0, 1) := by decide +kernel
theorem dX4_doAll_12 : decode cX4_doAll 12 = .ok (.putfield 30, 3) := by decide +kernel
theorem dX4_doAll_15 : decode cX4_doAll 15 = .ok (.aload_n 0, 1) := by decide +kernel
theorem dX4_doAll_16 : decode cX4_doAll 16 = .ok (.iconst 0, 1) := by decide +kernel
theorem dX4_doAll_17 : decode cX4_doAll 17 = .ok (.putfield 33, 3) := by decide +kernel
theorem dX4_doAll_20 : decode cX4_doAll 20 = .ok (.iconst 0, 1) := by decide +kernel
theorem dX4_doAll_21 : decode cX4_doAll 21 = .ok (.istore_n 2, 1) := by decide +kernel
theorem dX4_doAll_22 : decode cX4_doAll 22 = .ok (.iload_n 2, 1) := by decide +kernel
theorem dX4_doAll_23 : decode cX4_doAll 23 = .ok (.bipush 60, 2) := by decide +kernel
theorem dX4_doAll_25 : decode cX4_doAll 25 = .ok (.if_icmp .ge 72, 3) := by decide +kernel
theorem dX4_doAll_28 : decode cX4_doAll 28 = .ok (.aload_n 0, 1) := by decide +kernel
theorem dX4_doAll_29 : decode cX4_doAll 29 = .ok (.getfield 24, 3) := by decide +kernel
theorem dX4_doAll_32 : decode cX4_doAll 32 = .ok (.aload_n 0, 1) := by decide +kernel
theorem dX4_doAll_33 : decode cX4_doAll 33 = .ok (.getfield 19, 3) := by decide +kernel
theorem dX4_doAll_36 : decode cX4_doAll 36 = .ok (.if_icmp .ge 61, 3) := by decide +kernel
theorem dX4_doAll_39 : decode cX4_doAll 39 = .ok (.aload_n 0, 1) := by decide +kernel
theorem dX4_doAll_40 : decode cX4_doAll 40 = .ok (.getfield 30, 3) := by decide +kernel
theorem dX4_doAll_43 : decode cX4_doAll 43 = .ok (.ifCond .ne 54, 3) := by decide +kernel
theorem dX4_doAll_46 : decode cX4_doAll 46 = .ok (.aload_n 0, 1) := by decide +kernel
theorem dX4_doAll_47 : decode cX4_doAll 47 = .ok (.aload_n 0, 1) := by decide +kernel
theorem dX4_doAll_48 : decode cX4_doAll 48 = .ok (.getfield 24, 3) := by decide +kernel
theorem dX4_doAll_51 : decode cX4_doAll 51 = .ok (.putfield 27, 3) := by decide +kernel
theorem dX4_doAll_54 : decode cX4_doAll 54 = .ok (.aload_n 0, 1) := by decide +kernel
theorem dX4_doAll_55 : decode cX4_doAll 55 = .ok (.aload_n 0, 1) := by decide +kernel
theorem dX4_doAll_56 : decode cX4_doAll 56 = .ok (.invokevirtual 36, 3) := by decide +kernel
theorem dX4_doAll_59 : decode cX4_doAll 59 = .ok (.ifCond .eq 11, 3) := by decide +kernel
theorem dX4_doAll_62 : decode cX4_doAll 62 = .ok (.aload_n 0, 1) := by decide +kernel
theorem dX4_doAll_63 : decode cX4_doAll 63 = .ok (.aload_n 1, 1) := by decide +kernel
theorem dX4_doAll_64 : decode cX4_doAll 64 = .ok (.invokevirtual 40, 3) := by decide +kernel
theorem dX4_doAll_67 : decode cX4_doAll 67 = .ok (.goto 4, 3) := by decide +kernel
theorem dX4_doAll_70 : decode cX4_doAll 70 = .ok (.iconst 1, 1) := by decide +kernel
theorem dX4_doAll_71 : decode cX4_doAll 71 = .ok (.putfield 30, 3) := by decide +kernel
theorem dX4_doAll_74 : decode cX4_doAll 74 = .ok (.aload_n 0, 1) := by decide +kernel
theorem dX4_doAll_75 : decode cX4_doAll 75 = .ok (.getfield 30, 3) := by decide +kernel
theorem dX4_doAll_78 : decode cX4_doAll 78 = .ok (.ifCond .ne 13, 3) := by decide +kernel
theorem dX4_doAll_81 : decode cX4_doAll 81 = .ok (.aload_n 0, 1) := by decide +kernel
theorem dX4_doAll_82 : decode cX4_doAll 82 = .ok (.dup, 1) := by decide +kernel
theorem dX4_doAll_83 : decode cX4_doAll 83 = .ok (.getfield 33, 3) := by decide +kernel
theorem dX4_doAll_86 : decode cX4_doAll 86 = .ok (.iconst 1, 1) := by decide +kernel
theorem dX4_doAll_87 : decode cX4_doAll 87 = .ok (.iadd, 1) := by decide +kernel
theorem dX4_doAll_88 : decode cX4_doAll 88 = .ok (.putfield 33, 3) := by decide +kernel
theorem dX4_doAll_91 : decode cX4_doAll 91 = .ok (.iinc 2 1, 3) := by decide +kernel
theorem dX4_doAll_94 : decode cX4_doAll 94 = .ok (.goto (-72), 3) := by decide +kernel
theorem dX4_doAll_97 : decode cX4_doAll 97 = .ok (.return_, 1) := by decide +kernel
theorem dX4_readOrder_0 : decode cX4_readOrder 0 = .ok (.aload_n 0, 1) := by decide +kernel
theorem dX4_readOrder_1 : decode cX4_readOrder 1 = .ok (.getfield 9, 3) := by decide +kernel
theorem dX4_readOrder_4 : decode cX4_readOrder 4 = .ok (.aload_n 0, 1) := by decide +kernel
theorem dX4_readOrder_5 : decode cX4_readOrder 5 = .ok (.getfield 24, 3) := by decide +kernel
theorem dX4_readOrder_8 : decode cX4_readOrder 8 = .ok (.caload, 1) := by decide +kernel
theorem dX4_readOrder_9 : decode cX4_readOrder 9 = .ok (.invokestatic 44, 3) := by decide +kernel
theorem dX4_readOrder_12 : decode cX4_readOrder 12 = .ok (.istore_n 1, 1) := by decide +kernel
theorem dX4_readOrder_13 : decode cX4_readOrder 13 = .ok (.aload_n 0, 1) := by decide +kernel
theorem dX4_readOrder_14 : decode cX4_readOrder 14 = .ok (.dup, 1) := by decide +kernel
theorem dX4_readOrder_15 : decode cX4_readOrder 15 = .ok (.getfield 24, 3) := by decide +kernel
theorem dX4_readOrder_18 : decode cX4_readOrder 18 = .ok (.iconst 1, 1) := by decide +kernel
theorem dX4_readOrder_19 : decode cX4_readOrder 19 = .ok (.iadd, 1) := by decide +kernel
theorem dX4_readOrder_20 : decode cX4_readOrder 20 = .ok (.putfield 24, 3) := by decide +kernel
theorem dX4_readOrder_23 : decode cX4_readOrder 23 = .ok (.iconst 0, 1) := by decide +kernel
theorem dX4_readOrder_24 : decode cX4_readOrder 24 = .ok (.istore_n 2, 1) := by decide +kernel
theorem dX4_readOrder_25 : decode cX4_readOrder 25 = .ok (.iload_n 2, 1) := by decide +kernel
theorem dX4_readOrder_26 : decode cX4_readOrder 26 = .ok (.iload_n 1, 1) := by decide +kernel
theorem dX4_readOrder_27 : decode cX4_readOrder 27 = .ok (.if_icmp .ge 32, 3) := by decide +kernel
theorem dX4_readOrder_30 : decode cX4_readOrder 30 = .ok (.iload_n 2, 1) := by decide +kernel
theorem dX4_readOrder_31 : decode cX4_readOrder 31 = .ok (.ifCond .le 12, 3) := by decide +kernel
theorem dX4_readOrder_34 : decode cX4_readOrder 34 = .ok (.aload_n 0, 1) := by decide +kernel
theorem dX4_readOrder_35 : decode cX4_readOrder 35 = .ok (.bipush 44, 2) := by decide +kernel
theorem dX4_readOrder_37 : decode cX4_readOrder 37 = .ok (.invokevirtual 48, 3) := by decide +kernel
theorem dX4_readOrder_40 : decode cX4_readOrder 40 = .ok (.ifCond .eq 11, 3) := by decide +kernel
theorem dX4_readOrder_43 : decode cX4_readOrder 43 = .ok (.aload_n 0, 1) := by decide +kernel
theorem dX4_readOrder_44 : decode cX4_readOrder 44 = .ok (.iload_n 2, 1) := by decide +kernel
theorem dX4_readOrder_45 : decode cX4_readOrder 45 = .ok (.invokevirtual 52, 3) := by decide +kernel
theorem dX4_readOrder_48 : decode cX4_readOrder 48 = .ok (.ifCond .ne 5, 3) := by decide +kernel
theorem dX4_readOrder_51 : decode cX4_readOrder 51 = .ok (.iconst 0, 1) := by decide +kernel
theorem dX4_readOrder_52 : decode cX4_readOrder 52 = .ok (.ireturn, 1) := by decide +kernel
theorem dX4_readOrder_53 : decode cX4_readOrder 53 = .ok (.iinc 2 1, 3) := by decide +kernel
theorem dX4_readOrder_56 : decode cX4_readOrder 56 = .ok (.goto (-31), 3) := by decide +kernel
theorem dX4_readOrder_59 : decode cX4_readOrder 59 = .ok (.iload_n 1, 1) := by decide +kernel
theorem dX4_readOrder_60 : decode cX4_readOrder 60 = .ok (.ifCond .le 16, 3) := by decide +kernel
theorem dX4_readOrder_63 : decode cX4_readOrder 63 = .ok (.aload_n 0, 1) := by decide +kernel
theorem dX4_readOrder_64 : decode cX4_readOrder 64 = .ok (.bipush 59, 2) := by decide +kernel
theorem dX4_readOrder_66 : decode cX4_readOrder 66 = .ok (.invokevirtual 48, 3) := by decide +kernel
theorem dX4_readOrder_69 : decode cX4_readOrder 69 = .ok (.ifCond .eq 7, 3) := by decide +kernel
theorem dX4_readOrder_72 : decode cX4_readOrder 72 = .ok (.iconst 1, 1) := by decide +kernel
theorem dX4_readOrder_73 : decode cX4_readOrder 73 = .ok (.goto 4, 3) := by decide +kernel
theorem dX4_readOrder_76 : decode cX4_readOrder 76 = .ok (.iconst 0, 1) := by decide +kernel
theorem dX4_readOrder_77 : decode cX4_readOrder 77 = .ok (.ireturn, 1) := by decide +kernel
theorem dX4_numbersAfter_0 : decode cX4_numbersAfter 0 = .ok (.iload_n 0, 1) := by decide +kernel
theorem dX4_numbersAfter_1 : decode cX4_numbersAfter 1 = .ok (.lookupswitch 57 #[(98, 51), (102, 55), (103, 55), (112, 53), (114, 55)], 51) := by decide +kernel
theorem dX4_numbersAfter_52 : decode cX4_numbersAfter 52 = .ok (.iconst 3, 1) := by decide +kernel
theorem dX4_numbersAfter_53 : decode cX4_numbersAfter 53 = .ok (.ireturn, 1) := by decide +kernel
theorem dX4_numbersAfter_54 : decode cX4_numbersAfter 54 = .ok (.iconst 2, 1) := by decide +kernel
theorem dX4_numbersAfter_55 : decode cX4_numbersAfter 55 = .ok (.ireturn, 1) := by decide +kernel
theorem dX4_numbersAfter_56 : decode cX4_numbersAfter 56 = .ok (.iconst 1, 1) := by decide +kernel
theorem dX4_numbersAfter_57 : decode cX4_numbersAfter 57 = .ok (.ireturn, 1) := by decide +kernel
theorem dX4_numbersAfter_58 : decode cX4_numbersAfter 58 = .ok (.iconst 0, 1) := by decide +kernel
theorem dX4_numbersAfter_59 : decode cX4_numbersAfter 59 = .ok (.ireturn, 1) := by decide +kernel
theorem dX4_readSign_0 : decode cX4_readSign 0 = .ok (.aload_n 0, 1) := by decide +kernel
theorem dX4_readSign_1 : decode cX4_readSign 1 = .ok (.getfield 24, 3) := by decide +kernel
theorem dX4_readSign_4 : decode cX4_readSign 4 = .ok (.aload_n 0, 1) := by decide +kernel
theorem dX4_readSign_5 : decode cX4_readSign 5 = .ok (.getfield 19, 3) := by decide +kernel
theorem dX4_readSign_8 : decode cX4_readSign 8 = .ok (.if_icmp .ge 16, 3) := by decide +kernel
theorem dX4_readSign_11 : decode cX4_readSign 11 = .ok (.aload_n 0, 1) := by decide +kernel
theorem dX4_readSign_12 : decode cX4_readSign 12 = .ok (.getfield 9, 3) := by decide +kernel
theorem dX4_readSign_15 : decode cX4_readSign 15 = .ok (.aload_n 0, 1) := by decide +kernel
theorem dX4_readSign_16 : decode cX4_readSign 16 = .ok (.getfield 24, 3) := by decide +kernel
theorem dX4_readSign_19 : decode cX4_readSign 19 = .ok (.caload, 1) := by decide +kernel
theorem dX4_readSign_20 : decode cX4_readSign 20 = .ok (.iload_n 1, 1) := by decide +kernel
theorem dX4_readSign_21 : decode cX4_readSign 21 = .ok (.if_icmp .eq 5, 3) := by decide +kernel
theorem dX4_readSign_24 : decode cX4_readSign 24 = .ok (.iconst 0, 1) := by decide +kernel
theorem dX4_readSign_25 : decode cX4_readSign 25 = .ok (.ireturn, 1) := by decide +kernel
theorem dX4_readSign_26 : decode cX4_readSign 26 = .ok (.aload_n 0, 1) := by decide +kernel
theorem dX4_readSign_27 : decode cX4_readSign 27 = .ok (.dup, 1) := by decide +kernel
theorem dX4_readSign_28 : decode cX4_readSign 28 = .ok (.getfield 24, 3) := by decide +kernel
theorem dX4_readSign_31 : decode cX4_readSign 31 = .ok (.iconst 1, 1) := by decide +kernel
theorem dX4_readSign_32 : decode cX4_readSign 32 = .ok (.iadd, 1) := by decide +kernel
theorem dX4_readSign_33 : decode cX4_readSign 33 = .ok (.putfield 24, 3) := by decide +kernel
theorem dX4_readSign_36 : decode cX4_readSign 36 = .ok (.iconst 1, 1) := by decide +kernel
theorem dX4_readSign_37 : decode cX4_readSign 37 = .ok (.ireturn, 1) := by decide +kernel
theorem dX4_readNumber_0 : decode cX4_readNumber 0 = .ok (.iconst 0, 1) := by decide +kernel
theorem dX4_readNumber_1 : decode cX4_readNumber 1 = .ok (.istore_n 2, 1) := by decide +kernel
theorem dX4_readNumber_2 : decode cX4_readNumber 2 = .ok (.iconst 0, 1) := by decide +kernel
theorem dX4_readNumber_3 : decode cX4_readNumber 3 = .ok (.istore_n 3, 1) := by decide +kernel
theorem dX4_readNumber_4 : decode cX4_readNumber 4 = .ok (.iload_n 2, 1) := by decide +kernel
theorem dX4_readNumber_5 : decode cX4_readNumber 5 = .ok (.iconst 3, 1) := by decide +kernel
theorem dX4_readNumber_6 : decode cX4_readNumber 6 = .ok (.if_icmp .ge 67, 3) := by decide +kernel
theorem dX4_readNumber_9 : decode cX4_readNumber 9 = .ok (.aload_n 0, 1) := by decide +kernel
theorem dX4_readNumber_10 : decode cX4_readNumber 10 = .ok (.getfield 24, 3) := by decide +kernel
theorem dX4_readNumber_13 : decode cX4_readNumber 13 = .ok (.aload_n 0, 1) := by decide +kernel
theorem dX4_readNumber_14 : decode cX4_readNumber 14 = .ok (.getfield 19, 3) := by decide +kernel
theorem dX4_readNumber_17 : decode cX4_readNumber 17 = .ok (.if_icmp .ge 56, 3) := by decide +kernel
theorem dX4_readNumber_20 : decode cX4_readNumber 20 = .ok (.aload_n 0, 1) := by decide +kernel
theorem dX4_readNumber_21 : decode cX4_readNumber 21 = .ok (.getfield 9, 3) := by decide +kernel
theorem dX4_readNumber_24 : decode cX4_readNumber 24 = .ok (.aload_n 0, 1) := by decide +kernel
theorem dX4_readNumber_25 : decode cX4_readNumber 25 = .ok (.getfield 24, 3) := by decide +kernel
theorem dX4_readNumber_28 : decode cX4_readNumber 28 = .ok (.caload, 1) := by decide +kernel
theorem dX4_readNumber_29 : decode cX4_readNumber 29 = .ok (.bipush 48, 2) := by decide +kernel
theorem dX4_readNumber_31 : decode cX4_readNumber 31 = .ok (.bipush 57, 2) := by decide +kernel
theorem dX4_readNumber_33 : decode cX4_readNumber 33 = .ok (.invokestatic 56, 3) := by decide +kernel
theorem dX4_readNumber_36 : decode cX4_readNumber 36 = .ok (.ifCond .eq 37, 3) := by decide +kernel
theorem dX4_readNumber_39 : decode cX4_readNumber 39 = .ok (.iload_n 3, 1) := by decide +kernel
theorem dX4_readNumber_40 : decode cX4_readNumber 40 = .ok (.bipush 10, 2) := by decide +kernel
theorem dX4_readNumber_42 : decode cX4_readNumber 42 = .ok (.imul, 1) := by decide +kernel
theorem dX4_readNumber_43 : decode cX4_readNumber 43 = .ok (.aload_n 0, 1) := by decide +kernel
theorem dX4_readNumber_44 : decode cX4_readNumber 44 = .ok (.getfield 9, 3) := by decide +kernel
theorem dX4_readNumber_47 : decode cX4_readNumber 47 = .ok (.aload_n 0, 1) := by decide +kernel
theorem dX4_readNumber_48 : decode cX4_readNumber 48 = .ok (.getfield 24, 3) := by decide +kernel
theorem dX4_readNumber_51 : decode cX4_readNumber 51 = .ok (.caload, 1) := by decide +kernel
theorem dX4_readNumber_52 : decode cX4_readNumber 52 = .ok (.bipush 48, 2) := by decide +kernel
theorem dX4_readNumber_54 : decode cX4_readNumber 54 = .ok (.isub, 1) := by decide +kernel
theorem dX4_readNumber_55 : decode cX4_readNumber 55 = .ok (.iadd, 1) := by decide +kernel
theorem dX4_readNumber_56 : decode cX4_readNumber 56 = .ok (.istore_n 3, 1) := by decide +kernel
theorem dX4_readNumber_57 : decode cX4_readNumber 57 = .ok (.aload_n 0, 1) := by decide +kernel
theorem dX4_readNumber_58 : decode cX4_readNumber 58 = .ok (.dup, 1) := by decide +kernel
theorem dX4_readNumber_59 : decode cX4_readNumber 59 = .ok (.getfield 24, 3) := by decide +kernel
theorem dX4_readNumber_62 : decode cX4_readNumber 62 = .ok (.iconst 1, 1) := by decide +kernel
theorem dX4_readNumber_63 : decode cX4_readNumber 63 = .ok (.iadd, 1) := by decide +kernel
theorem dX4_readNumber_64 : decode cX4_readNumber 64 = .ok (.putfield 24, 3) := by decide +kernel
theorem dX4_readNumber_67 : decode cX4_readNumber 67 = .ok (.iinc 2 1, 3) := by decide +kernel
theorem dX4_readNumber_70 : decode cX4_readNumber 70 = .ok (.goto (-66), 3) := by decide +kernel
theorem dX4_readNumber_73 : decode cX4_readNumber 73 = .ok (.aload_n 0, 1) := by decide +kernel
theorem dX4_readNumber_74 : decode cX4_readNumber 74 = .ok (.getfield 15, 3) := by decide +kernel
theorem dX4_readNumber_77 : decode cX4_readNumber 77 = .ok (.iload_n 1, 1) := by decide +kernel
theorem dX4_readNumber_78 : decode cX4_readNumber 78 = .ok (.iload_n 3, 1) := by decide +kernel
theorem dX4_readNumber_79 : decode cX4_readNumber 79 = .ok (.iastore, 1) := by decide +kernel
theorem dX4_readNumber_80 : decode cX4_readNumber 80 = .ok (.iload_n 2, 1) := by decide +kernel
theorem dX4_readNumber_81 : decode cX4_readNumber 81 = .ok (.ifCond .le 7, 3) := by decide +kernel
theorem dX4_readNumber_84 : decode cX4_readNumber 84 = .ok (.iconst 1, 1) := by decide +kernel
theorem dX4_readNumber_85 : decode cX4_readNumber 85 = .ok (.goto 4, 3) := by decide +kernel
theorem dX4_readNumber_88 : decode cX4_readNumber 88 = .ok (.iconst 0, 1) := by decide +kernel
theorem dX4_readNumber_89 : decode cX4_readNumber 89 = .ok (.ireturn, 1) := by decide +kernel
theorem dX4_doOrder_0 : decode cX4_doOrder 0 = .ok (.aload_n 0, 1) := by decide +kernel
theorem dX4_doOrder_1 : decode cX4_doOrder 1 = .ok (.aload_n 1, 1) := by decide +kernel
theorem dX4_doOrder_2 : decode cX4_doOrder 2 = .ok (.invokevirtual 60, 3) := by decide +kernel
theorem dX4_doOrder_5 : decode cX4_doOrder 5 = .ok (.ifCond .ne 5, 3) := by decide +kernel
theorem dX4_doOrder_8 : decode cX4_doOrder 8 = .ok (.iconst 2, 1) := by decide +kernel
theorem dX4_doOrder_9 : decode cX4_doOrder 9 = .ok (.ireturn, 1) := by decide +kernel
theorem dX4_doOrder_10 : decode cX4_doOrder 10 = .ok (.aload_n 0, 1) := by decide +kernel
theorem dX4_doOrder_11 : decode cX4_doOrder 11 = .ok (.aload_n 1, 1) := by decide +kernel
theorem dX4_doOrder_12 : decode cX4_doOrder 12 = .ok (.invokevirtual 64, 3) := by decide +kernel
theorem dX4_doOrder_15 : decode cX4_doOrder 15 = .ok (.ifCond .ge 7, 3) := by decide +kernel
theorem dX4_doOrder_18 : decode cX4_doOrder 18 = .ok (.iconst 3, 1) := by decide +kernel
theorem dX4_doOrder_19 : decode cX4_doOrder 19 = .ok (.goto 4, 3) := by decide +kernel
theorem dX4_doOrder_22 : decode cX4_doOrder 22 = .ok (.iconst 0, 1) := by decide +kernel
theorem dX4_doOrder_23 : decode cX4_doOrder 23 = .ok (.ireturn, 1) := by decide +kernel
theorem dX4_isKnown_0 : decode cX4_isKnown 0 = .ok (.aload_n 0, 1) := by decide +kernel
theorem dX4_isKnown_1 : decode cX4_isKnown 1 = .ok (.getfield 9, 3) := by decide +kernel
theorem dX4_isKnown_4 : decode cX4_isKnown 4 = .ok (.aload_n 0, 1) := by decide +kernel
theorem dX4_isKnown_5 : decode cX4_isKnown 5 = .ok (.getfield 27, 3) := by decide +kernel
theorem dX4_isKnown_8 : decode cX4_isKnown 8 = .ok (.caload, 1) := by decide +kernel
theorem dX4_isKnown_9 : decode cX4_isKnown 9 = .ok (.lookupswitch 61 #[(98, 27), (103, 59)], 27) := by decide +kernel
theorem dX4_isKnown_36 : decode cX4_isKnown 36 = .ok (.aload_n 1, 1) := by decide +kernel
theorem dX4_isKnown_37 : decode cX4_isKnown 37 = .ok (.aload_n 0, 1) := by decide +kernel
theorem dX4_isKnown_38 : decode cX4_isKnown 38 = .ok (.getfield 15, 3) := by decide +kernel
theorem dX4_isKnown_41 : decode cX4_isKnown 41 = .ok (.iconst 0, 1) := by decide +kernel
theorem dX4_isKnown_42 : decode cX4_isKnown 42 = .ok (.iaload, 1) := by decide +kernel
theorem dX4_isKnown_43 : decode cX4_isKnown 43 = .ok (.invokevirtual 67, 3) := by decide +kernel
theorem dX4_isKnown_46 : decode cX4_isKnown 46 = .ok (.ifCond .eq 20, 3) := by decide +kernel
theorem dX4_isKnown_49 : decode cX4_isKnown 49 = .ok (.aload_n 1, 1) := by decide +kernel
theorem dX4_isKnown_50 : decode cX4_isKnown 50 = .ok (.aload_n 0, 1) := by decide +kernel
theorem dX4_isKnown_51 : decode cX4_isKnown 51 = .ok (.getfield 15, 3) := by decide +kernel
theorem dX4_isKnown_54 : decode cX4_isKnown 54 = .ok (.iconst 1, 1) := by decide +kernel
theorem dX4_isKnown_55 : decode cX4_isKnown 55 = .ok (.iaload, 1) := by decide +kernel
theorem dX4_isKnown_56 : decode cX4_isKnown 56 = .ok (.invokevirtual 72, 3) := by decide +kernel
theorem dX4_isKnown_59 : decode cX4_isKnown 59 = .ok (.ifCond .eq 7, 3) := by decide +kernel
theorem dX4_isKnown_62 : decode cX4_isKnown 62 = .ok (.iconst 1, 1) := by decide +kernel
theorem dX4_isKnown_63 : decode cX4_isKnown 63 = .ok (.goto 4, 3) := by decide +kernel
theorem dX4_isKnown_66 : decode cX4_isKnown 66 = .ok (.iconst 0, 1) := by decide +kernel
theorem dX4_isKnown_67 : decode cX4_isKnown 67 = .ok (.ireturn, 1) := by decide +kernel
theorem dX4_isKnown_68 : decode cX4_isKnown 68 = .ok (.iconst 1, 1) := by decide +kernel
theorem dX4_isKnown_69 : decode cX4_isKnown 69 = .ok (.ireturn, 1) := by decide +kernel
theorem dX4_isKnown_70 : decode cX4_isKnown 70 = .ok (.aload_n 1, 1) := by decide +kernel
theorem dX4_isKnown_71 : decode cX4_isKnown 71 = .ok (.aload_n 0, 1) := by decide +kernel
theorem dX4_isKnown_72 : decode cX4_isKnown 72 = .ok (.getfield 15, 3) := by decide +kernel
theorem dX4_isKnown_75 : decode cX4_isKnown 75 = .ok (.iconst 0, 1) := by decide +kernel
theorem dX4_isKnown_76 : decode cX4_isKnown 76 = .ok (.iaload, 1) := by decide +kernel
theorem dX4_isKnown_77 : decode cX4_isKnown 77 = .ok (.invokevirtual 75, 3) := by decide +kernel
theorem dX4_isKnown_80 : decode cX4_isKnown 80 = .ok (.ireturn, 1) := by decide +kernel
theorem dX4_answerOf_0 : decode cX4_answerOf 0 = .ok (.aload_n 0, 1) := by decide +kernel
theorem dX4_answerOf_1 : decode cX4_answerOf 1 = .ok (.getfield 9, 3) := by decide +kernel
theorem dX4_answerOf_4 : decode cX4_answerOf 4 = .ok (.aload_n 0, 1) := by decide +kernel
theorem dX4_answerOf_5 : decode cX4_answerOf 5 = .ok (.getfield 27, 3) := by decide +kernel
theorem dX4_answerOf_8 : decode cX4_answerOf 8 = .ok (.caload, 1) := by decide +kernel
theorem dX4_answerOf_9 : decode cX4_answerOf 9 = .ok (.lookupswitch 105 #[(98, 43), (102, 66), (112, 77), (114, 94)], 43) := by decide +kernel
theorem dX4_answerOf_52 : decode cX4_answerOf 52 = .ok (.aload_n 1, 1) := by decide +kernel
theorem dX4_answerOf_53 : decode cX4_answerOf 53 = .ok (.aload_n 0, 1) := by decide +kernel
theorem dX4_answerOf_54 : decode cX4_answerOf 54 = .ok (.getfield 15, 3) := by decide +kernel
theorem dX4_answerOf_57 : decode cX4_answerOf 57 = .ok (.iconst 0, 1) := by decide +kernel
theorem dX4_answerOf_58 : decode cX4_answerOf 58 = .ok (.iaload, 1) := by decide +kernel
theorem dX4_answerOf_59 : decode cX4_answerOf 59 = .ok (.aload_n 0, 1) := by decide +kernel
theorem dX4_answerOf_60 : decode cX4_answerOf 60 = .ok (.getfield 15, 3) := by decide +kernel
theorem dX4_answerOf_63 : decode cX4_answerOf 63 = .ok (.iconst 1, 1) := by decide +kernel
theorem dX4_answerOf_64 : decode cX4_answerOf 64 = .ok (.iaload, 1) := by decide +kernel
theorem dX4_answerOf_65 : decode cX4_answerOf 65 = .ok (.aload_n 0, 1) := by decide +kernel
theorem dX4_answerOf_66 : decode cX4_answerOf 66 = .ok (.getfield 15, 3) := by decide +kernel
theorem dX4_answerOf_69 : decode cX4_answerOf 69 = .ok (.iconst 2, 1) := by decide +kernel
theorem dX4_answerOf_70 : decode cX4_answerOf 70 = .ok (.iaload, 1) := by decide +kernel
theorem dX4_answerOf_71 : decode cX4_answerOf 71 = .ok (.invokevirtual 78, 3) := by decide +kernel
theorem dX4_answerOf_74 : decode cX4_answerOf 74 = .ok (.ireturn, 1) := by decide +kernel
theorem dX4_answerOf_75 : decode cX4_answerOf 75 = .ok (.aload_n 1, 1) := by decide +kernel
theorem dX4_answerOf_76 : decode cX4_answerOf 76 = .ok (.aload_n 0, 1) := by decide +kernel
theorem dX4_answerOf_77 : decode cX4_answerOf 77 = .ok (.getfield 15, 3) := by decide +kernel
theorem dX4_answerOf_80 : decode cX4_answerOf 80 = .ok (.iconst 0, 1) := by decide +kernel
theorem dX4_answerOf_81 : decode cX4_answerOf 81 = .ok (.iaload, 1) := by decide +kernel
theorem dX4_answerOf_82 : decode cX4_answerOf 82 = .ok (.invokevirtual 82, 3) := by decide +kernel
theorem dX4_answerOf_85 : decode cX4_answerOf 85 = .ok (.ireturn, 1) := by decide +kernel
theorem dX4_answerOf_86 : decode cX4_answerOf 86 = .ok (.aload_n 1, 1) := by decide +kernel
theorem dX4_answerOf_87 : decode cX4_answerOf 87 = .ok (.aload_n 0, 1) := by decide +kernel
theorem dX4_answerOf_88 : decode cX4_answerOf 88 = .ok (.getfield 15, 3) := by decide +kernel
theorem dX4_answerOf_91 : decode cX4_answerOf 91 = .ok (.iconst 0, 1) := by decide +kernel
theorem dX4_answerOf_92 : decode cX4_answerOf 92 = .ok (.iaload, 1) := by decide +kernel
theorem dX4_answerOf_93 : decode cX4_answerOf 93 = .ok (.aload_n 0, 1) := by decide +kernel
theorem dX4_answerOf_94 : decode cX4_answerOf 94 = .ok (.getfield 15, 3) := by decide +kernel
theorem dX4_answerOf_97 : decode cX4_answerOf 97 = .ok (.iconst 1, 1) := by decide +kernel
theorem dX4_answerOf_98 : decode cX4_answerOf 98 = .ok (.iaload, 1) := by decide +kernel
theorem dX4_answerOf_99 : decode cX4_answerOf 99 = .ok (.invokevirtual 86, 3) := by decide +kernel
theorem dX4_answerOf_102 : decode cX4_answerOf 102 = .ok (.ireturn, 1) := by decide +kernel
theorem dX4_answerOf_103 : decode cX4_answerOf 103 = .ok (.aload_n 1, 1) := by decide +kernel
theorem dX4_answerOf_104 : decode cX4_answerOf 104 = .ok (.aload_n 0, 1) := by decide +kernel
theorem dX4_answerOf_105 : decode cX4_answerOf 105 = .ok (.getfield 15, 3) := by decide +kernel
theorem dX4_answerOf_108 : decode cX4_answerOf 108 = .ok (.iconst 0, 1) := by decide +kernel
theorem dX4_answerOf_109 : decode cX4_answerOf 109 = .ok (.iaload, 1) := by decide +kernel
theorem dX4_answerOf_110 : decode cX4_answerOf 110 = .ok (.invokevirtual 90, 3) := by decide +kernel
theorem dX4_answerOf_113 : decode cX4_answerOf 113 = .ok (.ireturn, 1) := by decide +kernel
theorem dX4_answerOf_114 : decode cX4_answerOf 114 = .ok (.aload_n 1, 1) := by decide +kernel
theorem dX4_answerOf_115 : decode cX4_answerOf 115 = .ok (.aload_n 0, 1) := by decide +kernel
theorem dX4_answerOf_116 : decode cX4_answerOf 116 = .ok (.getfield 15, 3) := by decide +kernel
theorem dX4_answerOf_119 : decode cX4_answerOf 119 = .ok (.iconst 0, 1) := by decide +kernel
theorem dX4_answerOf_120 : decode cX4_answerOf 120 = .ok (.iaload, 1) := by decide +kernel
theorem dX4_answerOf_121 : decode cX4_answerOf 121 = .ok (.invokevirtual 93, 3) := by decide +kernel
theorem dX4_answerOf_124 : decode cX4_answerOf 124 = .ok (.ireturn, 1) := by decide +kernel
theorem dX5_init_0 : decode cX5_init 0 = .ok (.aload_n 0, 1) := by decide +kernel
theorem dX5_init_1 : decode cX5_init 1 = .ok (.invokespecial 3, 3) := by decide +kernel
theorem dX5_init_4 : decode cX5_init 4 = .ok (.return_, 1) := by decide +kernel
theorem dX5_takeFrom_0 : decode cX5_takeFrom 0 = .ok (.aload_n 0, 1) := by decide +kernel
theorem dX5_takeFrom_1 : decode cX5_takeFrom 1 = .ok (.aload_n 1, 1) := by decide +kernel
theorem dX5_takeFrom_2 : decode cX5_takeFrom 2 = .ok (.getfield 9, 3) := by decide +kernel
theorem dX5_takeFrom_5 : decode cX5_takeFrom 5 = .ok (.putfield 9, 3) := by decide +kernel
theorem dX5_takeFrom_8 : decode cX5_takeFrom 8 = .ok (.aload_n 0, 1) := by decide +kernel
theorem dX5_takeFrom_9 : decode cX5_takeFrom 9 = .ok (.aload_n 1, 1) := by decide +kernel
theorem dX5_takeFrom_10 : decode cX5_takeFrom 10 = .ok (.getfield 15, 3) := by decide +kernel
theorem dX5_takeFrom_13 : decode cX5_takeFrom 13 = .ok (.putfield 15, 3) := by decide +kernel
theorem dX5_takeFrom_16 : decode cX5_takeFrom 16 = .ok (.aload_n 0, 1) := by decide +kernel
theorem dX5_takeFrom_17 : decode cX5_takeFrom 17 = .ok (.aload_n 1, 1) := by decide +kernel
theorem dX5_takeFrom_18 : decode cX5_takeFrom 18 = .ok (.getfield 18, 3) := by decide +kernel
theorem dX5_takeFrom_21 : decode cX5_takeFrom 21 = .ok (.putfield 18, 3) := by decide +kernel
theorem dX5_takeFrom_24 : decode cX5_takeFrom 24 = .ok (.aload_n 0, 1) := by decide +kernel
theorem dX5_takeFrom_25 : decode cX5_takeFrom 25 = .ok (.aload_n 1, 1) := by decide +kernel
theorem dX5_takeFrom_26 : decode cX5_takeFrom 26 = .ok (.getfield 21, 3) := by decide +kernel
theorem dX5_takeFrom_29 : decode cX5_takeFrom 29 = .ok (.putfield 21, 3) := by decide +kernel
theorem dX5_takeFrom_32 : decode cX5_takeFrom 32 = .ok (.aload_n 0, 1) := by decide +kernel
theorem dX5_takeFrom_33 : decode cX5_takeFrom 33 = .ok (.aload_n 1, 1) := by decide +kernel
theorem dX5_takeFrom_34 : decode cX5_takeFrom 34 = .ok (.getfield 24, 3) := by decide +kernel
theorem dX5_takeFrom_37 : decode cX5_takeFrom 37 = .ok (.putfield 24, 3) := by decide +kernel
theorem dX5_takeFrom_40 : decode cX5_takeFrom 40 = .ok (.aload_n 0, 1) := by decide +kernel
theorem dX5_takeFrom_41 : decode cX5_takeFrom 41 = .ok (.aload_n 1, 1) := by decide +kernel
theorem dX5_takeFrom_42 : decode cX5_takeFrom 42 = .ok (.getfield 27, 3) := by decide +kernel
theorem dX5_takeFrom_45 : decode cX5_takeFrom 45 = .ok (.putfield 27, 3) := by decide +kernel
theorem dX5_takeFrom_48 : decode cX5_takeFrom 48 = .ok (.aload_n 0, 1) := by decide +kernel
theorem dX5_takeFrom_49 : decode cX5_takeFrom 49 = .ok (.aload_n 1, 1) := by decide +kernel
theorem dX5_takeFrom_50 : decode cX5_takeFrom 50 = .ok (.getfield 30, 3) := by decide +kernel
theorem dX5_takeFrom_53 : decode cX5_takeFrom 53 = .ok (.putfield 30, 3) := by decide +kernel
theorem dX5_takeFrom_56 : decode cX5_takeFrom 56 = .ok (.aload_n 0, 1) := by decide +kernel
theorem dX5_takeFrom_57 : decode cX5_takeFrom 57 = .ok (.aload_n 1, 1) := by decide +kernel
theorem dX5_takeFrom_58 : decode cX5_takeFrom 58 = .ok (.getfield 33, 3) := by decide +kernel
theorem dX5_takeFrom_61 : decode cX5_takeFrom 61 = .ok (.putfield 33, 3) := by decide +kernel
theorem dX5_takeFrom_64 : decode cX5_takeFrom 64 = .ok (.aload_n 0, 1) := by decide +kernel
theorem dX5_takeFrom_65 : decode cX5_takeFrom 65 = .ok (.aload_n 1, 1) := by decide +kernel
theorem dX5_takeFrom_66 : decode cX5_takeFrom 66 = .ok (.getfield 36, 3) := by decide +kernel
theorem dX5_takeFrom_69 : decode cX5_takeFrom 69 = .ok (.putfield 36, 3) := by decide +kernel
theorem dX5_takeFrom_72 : decode cX5_takeFrom 72 = .ok (.aload_n 0, 1) := by decide +kernel
theorem dX5_takeFrom_73 : decode cX5_takeFrom 73 = .ok (.aload_n 1, 1) := by decide +kernel
theorem dX5_takeFrom_74 : decode cX5_takeFrom 74 = .ok (.getfield 39, 3) := by decide +kernel
theorem dX5_takeFrom_77 : decode cX5_takeFrom 77 = .ok (.putfield 39, 3) := by decide +kernel
theorem dX5_takeFrom_80 : decode cX5_takeFrom 80 = .ok (.aload_n 0, 1) := by decide +kernel
theorem dX5_takeFrom_81 : decode cX5_takeFrom 81 = .ok (.aload_n 1, 1) := by decide +kernel
theorem dX5_takeFrom_82 : decode cX5_takeFrom 82 = .ok (.getfield 42, 3) := by decide +kernel
theorem dX5_takeFrom_85 : decode cX5_takeFrom 85 = .ok (.putfield 42, 3) := by decide +kernel
theorem dX5_takeFrom_88 : decode cX5_takeFrom 88 = .ok (.aload_n 0, 1) := by decide +kernel
theorem dX5_takeFrom_89 : decode cX5_takeFrom 89 = .ok (.aload_n 1, 1) := by decide +kernel
theorem dX5_takeFrom_90 : decode cX5_takeFrom 90 = .ok (.getfield 45, 3) := by decide +kernel
theorem dX5_takeFrom_93 : decode cX5_takeFrom 93 = .ok (.putfield 45, 3) := by decide +kernel
theorem dX5_takeFrom_96 : decode cX5_takeFrom 96 = .ok (.aload_n 0, 1) := by decide +kernel
theorem dX5_takeFrom_97 : decode cX5_takeFrom 97 = .ok (.aload_n 1, 1) := by decide +kernel
theorem dX5_takeFrom_98 : decode cX5_takeFrom 98 = .ok (.getfield 48, 3) := by decide +kernel
theorem dX5_takeFrom_101 : decode cX5_takeFrom 101 = .ok (.putfield 48, 3) := by decide +kernel
theorem dX5_takeFrom_104 : decode cX5_takeFrom 104 = .ok (.aload_n 0, 1) := by decide +kernel
theorem dX5_takeFrom_105 : decode cX5_takeFrom 105 = .ok (.aload_n 1, 1) := by decide +kernel
theorem dX5_takeFrom_106 : decode cX5_takeFrom 106 = .ok (.getfield 51, 3) := by decide +kernel
theorem dX5_takeFrom_109 : decode cX5_takeFrom 109 = .ok (.putfield 51, 3) := by decide +kernel
theorem dX5_takeFrom_112 : decode cX5_takeFrom 112 = .ok (.aload_n 0, 1) := by decide +kernel
theorem dX5_takeFrom_113 : decode cX5_takeFrom 113 = .ok (.aload_n 1, 1) := by decide +kernel
theorem dX5_takeFrom_114 : decode cX5_takeFrom 114 = .ok (.getfield 54, 3) := by decide +kernel
theorem dX5_takeFrom_117 : decode cX5_takeFrom 117 = .ok (.putfield 54, 3) := by decide +kernel
theorem dX5_takeFrom_120 : decode cX5_takeFrom 120 = .ok (.aload_n 0, 1) := by decide +kernel
theorem dX5_takeFrom_121 : decode cX5_takeFrom 121 = .ok (.aload_n 1, 1) := by decide +kernel
theorem dX5_takeFrom_122 : decode cX5_takeFrom 122 = .ok (.getfield 57, 3) := by decide +kernel
theorem dX5_takeFrom_125 : decode cX5_takeFrom 125 = .ok (.putfield 57, 3) := by decide +kernel
theorem dX5_takeFrom_128 : decode cX5_takeFrom 128 = .ok (.aload_n 0, 1) := by decide +kernel
theorem dX5_takeFrom_129 : decode cX5_takeFrom 129 = .ok (.aload_n 1, 1) := by decide +kernel
theorem dX5_takeFrom_130 : decode cX5_takeFrom 130 = .ok (.getfield 60, 3) := by decide +kernel
theorem dX5_takeFrom_133 : decode cX5_takeFrom 133 = .ok (.putfield 60, 3) := by decide +kernel
theorem dX5_takeFrom_136 : decode cX5_takeFrom 136 = .ok (.return_, 1) := by decide +kernel
theorem dX5_begin_0 : decode cX5_begin 0 = .ok (.aload_n 0, 1) := by decide +kernel
theorem dX5_begin_1 : decode cX5_begin 1 = .ok (.iload_n 1, 1) := by decide +kernel
theorem dX5_begin_2 : decode cX5_begin 2 = .ok (.putfield 9, 3) := by decide +kernel
theorem dX5_begin_5 : decode cX5_begin 5 = .ok (.aload_n 0, 1) := by decide +kernel
theorem dX5_begin_6 : decode cX5_begin 6 = .ok (.iload_n 2, 1) := by decide +kernel
theorem dX5_begin_7 : decode cX5_begin 7 = .ok (.putfield 15, 3) := by decide +kernel
theorem dX5_begin_10 : decode cX5_begin 10 = .ok (.aload_n 0, 1) := by decide +kernel
theorem dX5_begin_11 : decode cX5_begin 11 = .ok (.aload_n 3, 1) := by decide +kernel
theorem dX5_begin_12 : decode cX5_begin 12 = .ok (.getfield 63, 3) := by decide +kernel
theorem dX5_begin_15 : decode cX5_begin 15 = .ok (.putfield 18, 3) := by decide +kernel
theorem dX5_begin_18 : decode cX5_begin 18 = .ok (.aload_n 0, 1) := by decide +kernel
theorem dX5_begin_19 : decode cX5_begin 19 = .ok (.aload_n 3, 1) := by decide +kernel
theorem dX5_begin_20 : decode cX5_begin 20 = .ok (.getfield 66, 3) := by decide +kernel
theorem dX5_begin_23 : decode cX5_begin 23 = .ok (.putfield 21, 3) := by decide +kernel
theorem dX5_begin_26 : decode cX5_begin 26 = .ok (.aload_n 0, 1) := by decide +kernel
theorem dX5_begin_27 : decode cX5_begin 27 = .ok (.aload_n 3, 1) := by decide +kernel
theorem dX5_begin_28 : decode cX5_begin 28 = .ok (.getfield 67, 3) := by decide +kernel
theorem dX5_begin_31 : decode cX5_begin 31 = .ok (.putfield 24, 3) := by decide +kernel
theorem dX5_begin_34 : decode cX5_begin 34 = .ok (.aload_n 0, 1) := by decide +kernel
theorem dX5_begin_35 : decode cX5_begin 35 = .ok (.iload 4, 2) := by decide +kernel
theorem dX5_begin_37 : decode cX5_begin 37 = .ok (.putfield 27, 3) := by decide +kernel
theorem dX5_begin_40 : decode cX5_begin 40 = .ok (.aload_n 0, 1) := by decide +kernel
theorem dX5_begin_41 : decode cX5_begin 41 = .ok (.iconst 0, 1) := by decide +kernel
theorem dX5_begin_42 : decode cX5_begin 42 = .ok (.putfield 30, 3) := by decide +kernel
theorem dX5_begin_45 : decode cX5_begin 45 = .ok (.aload_n 0, 1) := by decide +kernel
theorem dX5_begin_46 : decode cX5_begin 46 = .ok (.iconst 0, 1) := by decide +kernel
theorem dX5_begin_47 : decode cX5_begin 47 = .ok (.putfield 33, 3) := by decide +kernel
theorem dX5_begin_50 : decode cX5_begin 50 = .ok (.aload_n 0, 1) := by decide +kernel
theorem dX5_begin_51 : decode cX5_begin 51 = .ok (.iconst 0, 1) := by decide +kernel
theorem dX5_begin_52 : decode cX5_begin 52 = .ok (.putfield 36, 3) := by decide +kernel
theorem dX5_begin_55 : decode cX5_begin 55 = .ok (.aload_n 0, 1) := by decide +kernel
theorem dX5_begin_56 : decode cX5_begin 56 = .ok (.iconst 0, 1) := by decide +kernel
theorem dX5_begin_57 : decode cX5_begin 57 = .ok (.putfield 39, 3) := by decide +kernel
theorem dX5_begin_60 : decode cX5_begin 60 = .ok (.aload_n 0, 1) := by decide +kernel
theorem dX5_begin_61 : decode cX5_begin 61 = .ok (.iconst 0, 1) := by decide +kernel
theorem dX5_begin_62 : decode cX5_begin 62 = .ok (.putfield 42, 3) := by decide +kernel
theorem dX5_begin_65 : decode cX5_begin 65 = .ok (.aload_n 0, 1) := by decide +kernel
theorem dX5_begin_66 : decode cX5_begin 66 = .ok (.invokevirtual 68, 3) := by decide +kernel
theorem dX5_begin_69 : decode cX5_begin 69 = .ok (.aload_n 0, 1) := by decide +kernel
theorem dX5_begin_70 : decode cX5_begin 70 = .ok (.iconst 0, 1) := by decide +kernel
theorem dX5_begin_71 : decode cX5_begin 71 = .ok (.putfield 57, 3) := by decide +kernel
theorem dX5_begin_74 : decode cX5_begin 74 = .ok (.aload_n 0, 1) := by decide +kernel
theorem dX5_begin_75 : decode cX5_begin 75 = .ok (.iconst 0, 1) := by decide +kernel
theorem dX5_begin_76 : decode cX5_begin 76 = .ok (.putfield 60, 3) := by decide +kernel
theorem dX5_begin_79 : decode cX5_begin 79 = .ok (.return_, 1) := by decide +kernel
theorem dX5_addGround_0 : decode cX5_addGround 0 = .ok (.aload_n 0, 1) := by decide +kernel
theorem dX5_addGround_1 : decode cX5_addGround 1 = .ok (.dup, 1) := by decide +kernel
theorem dX5_addGround_2 : decode cX5_addGround 2 = .ok (.getfield 33, 3) := by decide +kernel
theorem dX5_addGround_5 : decode cX5_addGround 5 = .ok (.iload_n 1, 1) := by decide +kernel
theorem dX5_addGround_6 : decode cX5_addGround 6 = .ok (.iadd, 1) := by decide +kernel
theorem dX5_addGround_7 : decode cX5_addGround 7 = .ok (.putfield 33, 3) := by decide +kernel
theorem dX5_addGround_10 : decode cX5_addGround 10 = .ok (.aload_n 0, 1) := by decide +kernel
theorem dX5_addGround_11 : decode cX5_addGround 11 = .ok (.aload_n 0, 1) := by decide +kernel
theorem dX5_addGround_12 : decode cX5_addGround 12 = .ok (.getfield 33, 3) := by decide +kernel
theorem dX5_addGround_15 : decode cX5_addGround 15 = .ok (.aload_n 0, 1) := by decide +kernel
theorem dX5_addGround_16 : decode cX5_addGround 16 = .ok (.getfield 36, 3) := by decide +kernel
theorem dX5_addGround_19 : decode cX5_addGround 19 = .ok (.imul, 1) := by decide +kernel
theorem dX5_addGround_20 : decode cX5_addGround 20 = .ok (.bipush 100, 2) := by decide +kernel
theorem dX5_addGround_22 : decode cX5_addGround 22 = .ok (.idiv, 1) := by decide +kernel
theorem dX5_addGround_23 : decode cX5_addGround 23 = .ok (.putfield 39, 3) := by decide +kernel
theorem dX5_addGround_26 : decode cX5_addGround 26 = .ok (.aload_n 0, 1) := by decide +kernel
theorem dX5_addGround_27 : decode cX5_addGround 27 = .ok (.aload_n 0, 1) := by decide +kernel
theorem dX5_addGround_28 : decode cX5_addGround 28 = .ok (.getfield 33, 3) := by decide +kernel
theorem dX5_addGround_31 : decode cX5_addGround 31 = .ok (.aload_n 0, 1) := by decide +kernel
theorem dX5_addGround_32 : decode cX5_addGround 32 = .ok (.getfield 39, 3) := by decide +kernel
theorem dX5_addGround_35 : decode cX5_addGround 35 = .ok (.isub, 1) := by decide +kernel
theorem dX5_addGround_36 : decode cX5_addGround 36 = .ok (.aload_n 0, 1) := by decide +kernel
theorem dX5_addGround_37 : decode cX5_addGround 37 = .ok (.getfield 21, 3) := by decide +kernel
theorem dX5_addGround_40 : decode cX5_addGround 40 = .ok (.imul, 1) := by decide +kernel
theorem dX5_addGround_41 : decode cX5_addGround 41 = .ok (.bipush 100, 2) := by decide +kernel
theorem dX5_addGround_43 : decode cX5_addGround 43 = .ok (.idiv, 1) := by decide +kernel
theorem dX5_addGround_44 : decode cX5_addGround 44 = .ok (.putfield 42, 3) := by decide +kernel
theorem dX5_addGround_47 : decode cX5_addGround 47 = .ok (.aload_n 0, 1) := by decide +kernel
theorem dX5_addGround_48 : decode cX5_addGround 48 = .ok (.getfield 33, 3) := by decide +kernel
theorem dX5_addGround_51 : decode cX5_addGround 51 = .ok (.aload_n 0, 1) := by decide +kernel
theorem dX5_addGround_52 : decode cX5_addGround 52 = .ok (.getfield 27, 3) := by decide +kernel
theorem dX5_addGround_55 : decode cX5_addGround 55 = .ok (.if_icmp .lt 8, 3) := by decide +kernel
theorem dX5_addGround_58 : decode cX5_addGround 58 = .ok (.aload_n 0, 1) := by decide +kernel
theorem dX5_addGround_59 : decode cX5_addGround 59 = .ok (.iconst 2, 1) := by decide +kernel
theorem dX5_addGround_60 : decode cX5_addGround 60 = .ok (.putfield 30, 3) := by decide +kernel
theorem dX5_addGround_63 : decode cX5_addGround 63 = .ok (.return_, 1) := by decide +kernel
theorem dX5_endPledge_0 : decode cX5_endPledge 0 = .ok (.aload_n 0, 1) := by decide +kernel
theorem dX5_endPledge_1 : decode cX5_endPledge 1 = .ok (.iconst 0, 1) := by decide +kernel
theorem dX5_endPledge_2 : decode cX5_endPledge 2 = .ok (.putfield 45, 3) := by decide +kernel
theorem dX5_endPledge_5 : decode cX5_endPledge 5 = .ok (.aload_n 0, 1) := by decide +kernel
theorem dX5_endPledge_6 : decode cX5_endPledge 6 = .ok (.iconst 0, 1) := by decide +kernel
theorem dX5_endPledge_7 : decode cX5_endPledge 7 = .ok (.putfield 48, 3) := by decide +kernel
theorem dX5_endPledge_10 : decode cX5_endPledge 10 = .ok (.aload_n 0, 1) := by decide +kernel
theorem dX5_endPledge_11 : decode cX5_endPledge 11 = .ok (.iconst 0, 1) := by decide +kernel
theorem dX5_endPledge_12 : decode cX5_endPledge 12 = .ok (.putfield 51, 3) := by decide +kernel
theorem dX5_endPledge_15 : decode cX5_endPledge 15 = .ok (.aload_n 0, 1) := by decide +kernel
theorem dX5_endPledge_16 : decode cX5_endPledge 16 = .ok (.iconst 0, 1) := by decide +kernel
theorem dX5_endPledge_17 : decode cX5_endPledge 17 = .ok (.putfield 54, 3) := by decide +kernel
theorem dX5_endPledge_20 : decode cX5_endPledge 20 = .ok (.return_, 1) := by decide +kernel
theorem dX5_fall_0 : decode cX5_fall 0 = .ok (.aload_n 0, 1) := by decide +kernel
theorem dX5_fall_1 : decode cX5_fall 1 = .ok (.dup, 1) := by decide +kernel
theorem dX5_fall_2 : decode cX5_fall 2 = .ok (.getfield 57, 3) := by decide +kernel
theorem dX5_fall_5 : decode cX5_fall 5 = .ok (.aload_n 0, 1) := by decide +kernel
theorem dX5_fall_6 : decode cX5_fall 6 = .ok (.getfield 45, 3) := by decide +kernel
theorem dX5_fall_9 : decode cX5_fall 9 = .ok (.iadd, 1) := by decide +kernel
theorem dX5_fall_10 : decode cX5_fall 10 = .ok (.putfield 57, 3) := by decide +kernel
theorem dX5_fall_13 : decode cX5_fall 13 = .ok (.aload_n 0, 1) := by decide +kernel
theorem dX5_fall_14 : decode cX5_fall 14 = .ok (.invokevirtual 68, 3) := by decide +kernel
theorem dX5_fall_17 : decode cX5_fall 17 = .ok (.return_, 1) := by decide +kernel
theorem dX5_hasPledge_0 : decode cX5_hasPledge 0 = .ok (.aload_n 0, 1) := by decide +kernel
theorem dX5_hasPledge_1 : decode cX5_hasPledge 1 = .ok (.getfield 45, 3) := by decide +kernel
theorem dX5_hasPledge_4 : decode cX5_hasPledge 4 = .ok (.ifCond .le 7, 3) := by decide +kernel
theorem dX5_hasPledge_7 : decode cX5_hasPledge 7 = .ok (.iconst 1, 1) := by decide +kernel
theorem dX5_hasPledge_8 : decode cX5_hasPledge 8 = .ok (.goto 4, 3) := by decide +kernel
theorem dX5_hasPledge_11 : decode cX5_hasPledge 11 = .ok (.iconst 0, 1) := by decide +kernel
theorem dX5_hasPledge_12 : decode cX5_hasPledge 12 = .ok (.ireturn, 1) := by decide +kernel
theorem dX5_grain_0 : decode cX5_grain 0 = .ok (.aload_n 0, 1) := by decide +kernel
theorem dX5_grain_1 : decode cX5_grain 1 = .ok (.getfield 30, 3) := by decide +kernel
theorem dX5_grain_4 : decode cX5_grain 4 = .ok (.iconst 3, 1) := by decide +kernel
theorem dX5_grain_5 : decode cX5_grain 5 = .ok (.if_icmp .ne 7, 3) := by decide +kernel
theorem dX5_grain_8 : decode cX5_grain 8 = .ok (.iconst 0, 1) := by decide +kernel
theorem dX5_grain_9 : decode cX5_grain 9 = .ok (.goto 12, 3) := by decide +kernel
theorem dX5_grain_12 : decode cX5_grain 12 = .ok (.aload_n 0, 1) := by decide +kernel
theorem dX5_grain_13 : decode cX5_grain 13 = .ok (.getfield 27, 3) := by decide +kernel
theorem dX5_grain_16 : decode cX5_grain 16 = .ok (.aload_n 0, 1) := by decide +kernel
theorem dX5_grain_17 : decode cX5_grain 17 = .ok (.getfield 33, 3) := by decide +kernel
theorem dX5_grain_20 : decode cX5_grain 20 = .ok (.isub, 1) := by decide +kernel
theorem dX5_grain_21 : decode cX5_grain 21 = .ok (.ireturn, 1) := by decide +kernel
theorem dX5_flour_0 : decode cX5_flour 0 = .ok (.aload_n 0, 1) := by decide +kernel
theorem dX5_flour_1 : decode cX5_flour 1 = .ok (.getfield 30, 3) := by decide +kernel
theorem dX5_flour_4 : decode cX5_flour 4 = .ok (.iconst 3, 1) := by decide +kernel
theorem dX5_flour_5 : decode cX5_flour 5 = .ok (.if_icmp .ne 7, 3) := by decide +kernel
theorem dX5_flour_8 : decode cX5_flour 8 = .ok (.iconst 0, 1) := by decide +kernel
theorem dX5_flour_9 : decode cX5_flour 9 = .ok (.goto 27, 3) := by decide +kernel
theorem dX5_flour_12 : decode cX5_flour 12 = .ok (.aload_n 0, 1) := by decide +kernel
theorem dX5_flour_13 : decode cX5_flour 13 = .ok (.getfield 33, 3) := by decide +kernel
theorem dX5_flour_16 : decode cX5_flour 16 = .ok (.aload_n 0, 1) := by decide +kernel
theorem dX5_flour_17 : decode cX5_flour 17 = .ok (.getfield 39, 3) := by decide +kernel
theorem dX5_flour_20 : decode cX5_flour 20 = .ok (.isub, 1) := by decide +kernel
theorem dX5_flour_21 : decode cX5_flour 21 = .ok (.aload_n 0, 1) := by decide +kernel
theorem dX5_flour_22 : decode cX5_flour 22 = .ok (.getfield 42, 3) := by decide +kernel
theorem dX5_flour_25 : decode cX5_flour 25 = .ok (.isub, 1) := by decide +kernel
theorem dX5_flour_26 : decode cX5_flour 26 = .ok (.aload_n 0, 1) := by decide +kernel
theorem dX5_flour_27 : decode cX5_flour 27 = .ok (.getfield 45, 3) := by decide +kernel
theorem dX5_flour_30 : decode cX5_flour 30 = .ok (.isub, 1) := by decide +kernel
theorem dX5_flour_31 : decode cX5_flour 31 = .ok (.aload_n 0, 1) := by decide +kernel
theorem dX5_flour_32 : decode cX5_flour 32 = .ok (.getfield 57, 3) := by decide +kernel
theorem dX5_flour_35 : decode cX5_flour 35 = .ok (.isub, 1) := by decide +kernel
theorem dX5_flour_36 : decode cX5_flour 36 = .ok (.ireturn, 1) := by decide +kernel
theorem dX5_isOf_0 : decode cX5_isOf 0 = .ok (.iload_n 1, 1) := by decide +kernel
theorem dX5_isOf_1 : decode cX5_isOf 1 = .ok (.iconst (-1), 1) := by decide +kernel
theorem dX5_isOf_2 : decode cX5_isOf 2 = .ok (.if_icmp .eq 11, 3) := by decide +kernel
theorem dX5_isOf_5 : decode cX5_isOf 5 = .ok (.iload_n 1, 1) := by decide +kernel
theorem dX5_isOf_6 : decode cX5_isOf 6 = .ok (.aload_n 0, 1) := by decide +kernel
theorem dX5_isOf_7 : decode cX5_isOf 7 = .ok (.getfield 9, 3) := by decide +kernel
theorem dX5_isOf_10 : decode cX5_isOf 10 = .ok (.if_icmp .ne 20, 3) := by decide +kernel
theorem dX5_isOf_13 : decode cX5_isOf 13 = .ok (.iload_n 2, 1) := by decide +kernel
theorem dX5_isOf_14 : decode cX5_isOf 14 = .ok (.iconst (-1), 1) := by decide +kernel
theorem dX5_isOf_15 : decode cX5_isOf 15 = .ok (.if_icmp .eq 11, 3) := by decide +kernel
theorem dX5_isOf_18 : decode cX5_isOf 18 = .ok (.iload_n 2, 1) := by decide +kernel
theorem dX5_isOf_19 : decode cX5_isOf 19 = .ok (.aload_n 0, 1) := by decide +kernel
theorem dX5_isOf_20 : decode cX5_isOf 20 = .ok (.getfield 15, 3) := by decide +kernel
theorem dX5_isOf_23 : decode cX5_isOf 23 = .ok (.if_icmp .ne 7, 3) := by decide +kernel
theorem dX5_isOf_26 : decode cX5_isOf 26 = .ok (.iconst 1, 1) := by decide +kernel
theorem dX5_isOf_27 : decode cX5_isOf 27 = .ok (.goto 4, 3) := by decide +kernel
theorem dX5_isOf_30 : decode cX5_isOf 30 = .ok (.iconst 0, 1) := by decide +kernel
theorem dX5_isOf_31 : decode cX5_isOf 31 = .ok (.ireturn, 1) := by decide +kernel
theorem dX5_tell_0 : decode cX5_tell 0 = .ok (.iload_n 1, 1) := by decide +kernel
theorem dX5_tell_1 : decode cX5_tell 1 = .ok (.tableswitch 105 0 9 #[55, 60, 65, 70, 75, 80, 85, 90, 95, 100], 55) := by decide +kernel
theorem dX5_tell_56 : decode cX5_tell 56 = .ok (.aload_n 0, 1) := by decide +kernel
theorem dX5_tell_57 : decode cX5_tell 57 = .ok (.getfield 9, 3) := by decide +kernel
theorem dX5_tell_60 : decode cX5_tell 60 = .ok (.ireturn, 1) := by decide +kernel
theorem dX5_tell_61 : decode cX5_tell 61 = .ok (.aload_n 0, 1) := by decide +kernel
theorem dX5_tell_62 : decode cX5_tell 62 = .ok (.getfield 15, 3) := by decide +kernel
theorem dX5_tell_65 : decode cX5_tell 65 = .ok (.ireturn, 1) := by decide +kernel
theorem dX5_tell_66 : decode cX5_tell 66 = .ok (.aload_n 0, 1) := by decide +kernel
theorem dX5_tell_67 : decode cX5_tell 67 = .ok (.getfield 27, 3) := by decide +kernel
theorem dX5_tell_70 : decode cX5_tell 70 = .ok (.ireturn, 1) := by decide +kernel
theorem dX5_tell_71 : decode cX5_tell 71 = .ok (.aload_n 0, 1) := by decide +kernel
theorem dX5_tell_72 : decode cX5_tell 72 = .ok (.getfield 30, 3) := by decide +kernel
theorem dX5_tell_75 : decode cX5_tell 75 = .ok (.ireturn, 1) := by decide +kernel
theorem dX5_tell_76 : decode cX5_tell 76 = .ok (.aload_n 0, 1) := by decide +kernel
theorem dX5_tell_77 : decode cX5_tell 77 = .ok (.invokevirtual 71, 3) := by decide +kernel
theorem dX5_tell_80 : decode cX5_tell 80 = .ok (.ireturn, 1) := by decide +kernel
theorem dX5_tell_81 : decode cX5_tell 81 = .ok (.aload_n 0, 1) := by decide +kernel
theorem dX5_tell_82 : decode cX5_tell 82 = .ok (.invokevirtual 75, 3) := by decide +kernel
theorem dX5_tell_85 : decode cX5_tell 85 = .ok (.ireturn, 1) := by decide +kernel
theorem dX5_tell_86 : decode cX5_tell 86 = .ok (.aload_n 0, 1) := by decide +kernel
theorem dX5_tell_87 : decode cX5_tell 87 = .ok (.getfield 39, 3) := by decide +kernel
theorem dX5_tell_90 : decode cX5_tell 90 = .ok (.ireturn, 1) := by decide +kernel
theorem dX5_tell_91 : decode cX5_tell 91 = .ok (.aload_n 0, 1) := by decide +kernel
theorem dX5_tell_92 : decode cX5_tell 92 = .ok (.getfield 42, 3) := by decide +kernel
theorem dX5_tell_95 : decode cX5_tell 95 = .ok (.ireturn, 1) := by decide +kernel
theorem dX5_tell_96 : decode cX5_tell 96 = .ok (.aload_n 0, 1) := by decide +kernel
theorem dX5_tell_97 : decode cX5_tell 97 = .ok (.getfield 45, 3) := by decide +kernel
theorem dX5_tell_100 : decode cX5_tell 100 = .ok (.ireturn, 1) := by decide +kernel
theorem dX5_tell_101 : decode cX5_tell 101 = .ok (.aload_n 0, 1) := by decide +kernel
theorem dX5_tell_102 : decode cX5_tell 102 = .ok (.getfield 57, 3) := by decide +kernel
theorem dX5_tell_105 : decode cX5_tell 105 = .ok (.ireturn, 1) := by decide +kernel
theorem dX5_tell_106 : decode cX5_tell 106 = .ok (.aload_n 0, 1) := by decide +kernel
theorem dX5_tell_107 : decode cX5_tell 107 = .ok (.getfield 60, 3) := by decide +kernel
theorem dX5_tell_110 : decode cX5_tell 110 = .ok (.ireturn, 1) := by decide +kernel
theorem dX6_init_0 : decode cX6_init 0 = .ok (.aload_n 0, 1) := by decide +kernel
theorem dX6_init_1 : decode cX6_init 1 = .ok (.invokespecial 1, 3) := by decide +kernel
theorem dX6_init_4 : decode cX6_init 4 = .ok (.aload_n 0, 1) := by decide +kernel
theorem dX6_init_5 : decode cX6_init 5 = .ok (.new 7, 3) := by decide +kernel
theorem dX6_init_8 : decode cX6_init 8 = .ok (.dup, 1) := by decide +kernel
theorem dX6_init_9 : decode cX6_init 9 = .ok (.invokespecial 9, 3) := by decide +kernel
theorem dX6_init_12 : decode cX6_init 12 = .ok (.putfield 10, 3) := by decide +kernel
theorem dX6_init_15 : decode cX6_init 15 = .ok (.aload_n 0, 1) := by decide +kernel
theorem dX6_init_16 : decode cX6_init 16 = .ok (.new 7, 3) := by decide +kernel
theorem dX6_init_19 : decode cX6_init 19 = .ok (.dup, 1) := by decide +kernel
theorem dX6_init_20 : decode cX6_init 20 = .ok (.invokespecial 9, 3) := by decide +kernel
theorem dX6_init_23 : decode cX6_init 23 = .ok (.putfield 16, 3) := by decide +kernel
theorem dX6_init_26 : decode cX6_init 26 = .ok (.aload_n 0, 1) := by decide +kernel
theorem dX6_init_27 : decode cX6_init 27 = .ok (.new 19, 3) := by decide +kernel
theorem dX6_init_30 : decode cX6_init 30 = .ok (.dup, 1) := by decide +kernel
theorem dX6_init_31 : decode cX6_init 31 = .ok (.invokespecial 21, 3) := by decide +kernel
theorem dX6_init_34 : decode cX6_init 34 = .ok (.putfield 22, 3) := by decide +kernel
theorem dX6_init_37 : decode cX6_init 37 = .ok (.aload_n 0, 1) := by decide +kernel
theorem dX6_init_38 : decode cX6_init 38 = .ok (.new 26, 3) := by decide +kernel
theorem dX6_init_41 : decode cX6_init 41 = .ok (.dup, 1) := by decide +kernel
theorem dX6_init_42 : decode cX6_init 42 = .ok (.invokespecial 28, 3) := by decide +kernel
theorem dX6_init_45 : decode cX6_init 45 = .ok (.putfield 29, 3) := by decide +kernel
theorem dX6_init_48 : decode cX6_init 48 = .ok (.return_, 1) := by decide +kernel
theorem dX6_set_0 : decode cX6_set 0 = .ok (.aload_n 0, 1) := by decide +kernel
theorem dX6_set_1 : decode cX6_set 1 = .ok (.getfield 22, 3) := by decide +kernel
theorem dX6_set_4 : decode cX6_set 4 = .ok (.aload_n 0, 1) := by decide +kernel
theorem dX6_set_5 : decode cX6_set 5 = .ok (.getfield 10, 3) := by decide +kernel
theorem dX6_set_8 : decode cX6_set 8 = .ok (.invokevirtual 33, 3) := by decide +kernel
theorem dX6_set_11 : decode cX6_set 11 = .ok (.aload_n 0, 1) := by decide +kernel
theorem dX6_set_12 : decode cX6_set 12 = .ok (.getfield 22, 3) := by decide +kernel
theorem dX6_set_15 : decode cX6_set 15 = .ok (.aload_n 0, 1) := by decide +kernel
theorem dX6_set_16 : decode cX6_set 16 = .ok (.getfield 10, 3) := by decide +kernel
theorem dX6_set_19 : decode cX6_set 19 = .ok (.iload_n 1, 1) := by decide +kernel
theorem dX6_set_20 : decode cX6_set 20 = .ok (.iload_n 2, 1) := by decide +kernel
theorem dX6_set_21 : decode cX6_set 21 = .ok (.invokevirtual 37, 3) := by decide +kernel
theorem dX6_set_24 : decode cX6_set 24 = .ok (.invokevirtual 41, 3) := by decide +kernel
theorem dX6_set_27 : decode cX6_set 27 = .ok (.ireturn, 1) := by decide +kernel
theorem dX6_leak_0 : decode cX6_leak 0 = .ok (.aload_n 0, 1) := by decide +kernel
theorem dX6_leak_1 : decode cX6_leak 1 = .ok (.getfield 22, 3) := by decide +kernel
theorem dX6_leak_4 : decode cX6_leak 4 = .ok (.aload_n 0, 1) := by decide +kernel
theorem dX6_leak_5 : decode cX6_leak 5 = .ok (.getfield 10, 3) := by decide +kernel
theorem dX6_leak_8 : decode cX6_leak 8 = .ok (.invokevirtual 33, 3) := by decide +kernel
theorem dX6_leak_11 : decode cX6_leak 11 = .ok (.aload_n 0, 1) := by decide +kernel
theorem dX6_leak_12 : decode cX6_leak 12 = .ok (.getfield 22, 3) := by decide +kernel
theorem dX6_leak_15 : decode cX6_leak 15 = .ok (.aload_n 0, 1) := by decide +kernel
theorem dX6_leak_16 : decode cX6_leak 16 = .ok (.getfield 10, 3) := by decide +kernel
theorem dX6_leak_19 : decode cX6_leak 19 = .ok (.iload_n 1, 1) := by decide +kernel
theorem dX6_leak_20 : decode cX6_leak 20 = .ok (.iload_n 2, 1) := by decide +kernel
theorem dX6_leak_21 : decode cX6_leak 21 = .ok (.invokevirtual 45, 3) := by decide +kernel
theorem dX6_leak_24 : decode cX6_leak 24 = .ok (.invokevirtual 41, 3) := by decide +kernel
theorem dX6_leak_27 : decode cX6_leak 27 = .ok (.ireturn, 1) := by decide +kernel
theorem dX6_lock_0 : decode cX6_lock 0 = .ok (.aload_n 0, 1) := by decide +kernel
theorem dX6_lock_1 : decode cX6_lock 1 = .ok (.getfield 22, 3) := by decide +kernel
theorem dX6_lock_4 : decode cX6_lock 4 = .ok (.aload_n 0, 1) := by decide +kernel
theorem dX6_lock_5 : decode cX6_lock 5 = .ok (.getfield 10, 3) := by decide +kernel
theorem dX6_lock_8 : decode cX6_lock 8 = .ok (.invokevirtual 33, 3) := by decide +kernel
theorem dX6_lock_11 : decode cX6_lock 11 = .ok (.aload_n 0, 1) := by decide +kernel
theorem dX6_lock_12 : decode cX6_lock 12 = .ok (.getfield 22, 3) := by decide +kernel
theorem dX6_lock_15 : decode cX6_lock 15 = .ok (.aload_n 0, 1) := by decide +kernel
theorem dX6_lock_16 : decode cX6_lock 16 = .ok (.getfield 10, 3) := by decide +kernel
theorem dX6_lock_19 : decode cX6_lock 19 = .ok (.iload_n 1, 1) := by decide +kernel
theorem dX6_lock_20 : decode cX6_lock 20 = .ok (.invokevirtual 48, 3) := by decide +kernel
theorem dX6_lock_23 : decode cX6_lock 23 = .ok (.invokevirtual 41, 3) := by decide +kernel
theorem dX6_lock_26 : decode cX6_lock 26 = .ok (.ireturn, 1) := by decide +kernel
theorem dX6_gate_0 : decode cX6_gate 0 = .ok (.aload_n 0, 1) := by decide +kernel
theorem dX6_gate_1 : decode cX6_gate 1 = .ok (.getfield 22, 3) := by decide +kernel
theorem dX6_gate_4 : decode cX6_gate 4 = .ok (.aload_n 0, 1) := by decide +kernel
theorem dX6_gate_5 : decode cX6_gate 5 = .ok (.getfield 10, 3) := by decide +kernel
theorem dX6_gate_8 : decode cX6_gate 8 = .ok (.invokevirtual 33, 3) := by decide +kernel
theorem dX6_gate_11 : decode cX6_gate 11 = .ok (.aload_n 0, 1) := by decide +kernel
theorem dX6_gate_12 : decode cX6_gate 12 = .ok (.getfield 22, 3) := by decide +kernel
theorem dX6_gate_15 : decode cX6_gate 15 = .ok (.aload_n 0, 1) := by decide +kernel
theorem dX6_gate_16 : decode cX6_gate 16 = .ok (.getfield 10, 3) := by decide +kernel
theorem dX6_gate_19 : decode cX6_gate 19 = .ok (.iload_n 1, 1) := by decide +kernel
theorem dX6_gate_20 : decode cX6_gate 20 = .ok (.invokevirtual 51, 3) := by decide +kernel
theorem dX6_gate_23 : decode cX6_gate 23 = .ok (.invokevirtual 41, 3) := by decide +kernel
theorem dX6_gate_26 : decode cX6_gate 26 = .ok (.ireturn, 1) := by decide +kernel
theorem dX6_kind_0 : decode cX6_kind 0 = .ok (.aload_n 0, 1) := by decide +kernel
theorem dX6_kind_1 : decode cX6_kind 1 = .ok (.getfield 22, 3) := by decide +kernel
theorem dX6_kind_4 : decode cX6_kind 4 = .ok (.aload_n 0, 1) := by decide +kernel
theorem dX6_kind_5 : decode cX6_kind 5 = .ok (.getfield 10, 3) := by decide +kernel
theorem dX6_kind_8 : decode cX6_kind 8 = .ok (.invokevirtual 33, 3) := by decide +kernel
theorem dX6_kind_11 : decode cX6_kind 11 = .ok (.aload_n 0, 1) := by decide +kernel
theorem dX6_kind_12 : decode cX6_kind 12 = .ok (.getfield 22, 3) := by decide +kernel
theorem dX6_kind_15 : decode cX6_kind 15 = .ok (.aload_n 0, 1) := by decide +kernel
theorem dX6_kind_16 : decode cX6_kind 16 = .ok (.getfield 10, 3) := by decide +kernel
theorem dX6_kind_19 : decode cX6_kind 19 = .ok (.iload_n 1, 1) := by decide +kernel
theorem dX6_kind_20 : decode cX6_kind 20 = .ok (.iload_n 2, 1) := by decide +kernel
theorem dX6_kind_21 : decode cX6_kind 21 = .ok (.iload_n 3, 1) := by decide +kernel
theorem dX6_kind_22 : decode cX6_kind 22 = .ok (.invokevirtual 54, 3) := by decide +kernel
theorem dX6_kind_25 : decode cX6_kind 25 = .ok (.invokevirtual 41, 3) := by decide +kernel
theorem dX6_kind_28 : decode cX6_kind 28 = .ok (.ireturn, 1) := by decide +kernel
theorem dX6_farmer_0 : decode cX6_farmer 0 = .ok (.aload_n 0, 1) := by decide +kernel
theorem dX6_farmer_1 : decode cX6_farmer 1 = .ok (.getfield 22, 3) := by decide +kernel
theorem dX6_farmer_4 : decode cX6_farmer 4 = .ok (.aload_n 0, 1) := by decide +kernel
theorem dX6_farmer_5 : decode cX6_farmer 5 = .ok (.getfield 10, 3) := by decide +kernel
theorem dX6_farmer_8 : decode cX6_farmer 8 = .ok (.invokevirtual 33, 3) := by decide +kernel
theorem dX6_farmer_11 : decode cX6_farmer 11 = .ok (.aload_n 0, 1) := by decide +kernel
theorem dX6_farmer_12 : decode cX6_farmer 12 = .ok (.getfield 22, 3) := by decide +kernel
theorem dX6_farmer_15 : decode cX6_farmer 15 = .ok (.aload_n 0, 1) := by decide +kernel
theorem dX6_farmer_16 : decode cX6_farmer 16 = .ok (.getfield 10, 3) := by decide +kernel
theorem dX6_farmer_19 : decode cX6_farmer 19 = .ok (.invokevirtual 58, 3) := by decide +kernel
theorem dX6_farmer_22 : decode cX6_farmer 22 = .ok (.invokevirtual 41, 3) := by decide +kernel
theorem dX6_farmer_25 : decode cX6_farmer 25 = .ok (.ireturn, 1) := by decide +kernel
theorem dX6_bring_0 : decode cX6_bring 0 = .ok (.aload_n 0, 1) := by decide +kernel
theorem dX6_bring_1 : decode cX6_bring 1 = .ok (.getfield 22, 3) := by decide +kernel
theorem dX6_bring_4 : decode cX6_bring 4 = .ok (.aload_n 0, 1) := by decide +kernel
theorem dX6_bring_5 : decode cX6_bring 5 = .ok (.getfield 10, 3) := by decide +kernel
theorem dX6_bring_8 : decode cX6_bring 8 = .ok (.invokevirtual 33, 3) := by decide +kernel
theorem dX6_bring_11 : decode cX6_bring 11 = .ok (.aload_n 0, 1) := by decide +kernel
theorem dX6_bring_12 : decode cX6_bring 12 = .ok (.getfield 22, 3) := by decide +kernel
theorem dX6_bring_15 : decode cX6_bring 15 = .ok (.aload_n 0, 1) := by decide +kernel
theorem dX6_bring_16 : decode cX6_bring 16 = .ok (.getfield 10, 3) := by decide +kernel
theorem dX6_bring_19 : decode cX6_bring 19 = .ok (.iload_n 1, 1) := by decide +kernel
theorem dX6_bring_20 : decode cX6_bring 20 = .ok (.iload_n 2, 1) := by decide +kernel
theorem dX6_bring_21 : decode cX6_bring 21 = .ok (.iload_n 3, 1) := by decide +kernel
theorem dX6_bring_22 : decode cX6_bring 22 = .ok (.invokevirtual 62, 3) := by decide +kernel
theorem dX6_bring_25 : decode cX6_bring 25 = .ok (.invokevirtual 41, 3) := by decide +kernel
theorem dX6_bring_28 : decode cX6_bring 28 = .ok (.ireturn, 1) := by decide +kernel
theorem dX6_withdraw_0 : decode cX6_withdraw 0 = .ok (.aload_n 0, 1) := by decide +kernel
theorem dX6_withdraw_1 : decode cX6_withdraw 1 = .ok (.getfield 22, 3) := by decide +kernel
theorem dX6_withdraw_4 : decode cX6_withdraw 4 = .ok (.aload_n 0, 1) := by decide +kernel
theorem dX6_withdraw_5 : decode cX6_withdraw 5 = .ok (.getfield 10, 3) := by decide +kernel
theorem dX6_withdraw_8 : decode cX6_withdraw 8 = .ok (.invokevirtual 33, 3) := by decide +kernel
theorem dX6_withdraw_11 : decode cX6_withdraw 11 = .ok (.aload_n 0, 1) := by decide +kernel
theorem dX6_withdraw_12 : decode cX6_withdraw 12 = .ok (.getfield 22, 3) := by decide +kernel
theorem dX6_withdraw_15 : decode cX6_withdraw 15 = .ok (.aload_n 0, 1) := by decide +kernel
theorem dX6_withdraw_16 : decode cX6_withdraw 16 = .ok (.getfield 10, 3) := by decide +kernel
theorem dX6_withdraw_19 : decode cX6_withdraw 19 = .ok (.iload_n 1, 1) := by decide +kernel
theorem dX6_withdraw_20 : decode cX6_withdraw 20 = .ok (.invokevirtual 65, 3) := by decide +kernel
theorem dX6_withdraw_23 : decode cX6_withdraw 23 = .ok (.invokevirtual 41, 3) := by decide +kernel
theorem dX6_withdraw_26 : decode cX6_withdraw 26 = .ok (.ireturn, 1) := by decide +kernel
theorem dX6_fetch_0 : decode cX6_fetch 0 = .ok (.aload_n 0, 1) := by decide +kernel
theorem dX6_fetch_1 : decode cX6_fetch 1 = .ok (.getfield 22, 3) := by decide +kernel
theorem dX6_fetch_4 : decode cX6_fetch 4 = .ok (.aload_n 0, 1) := by decide +kernel
theorem dX6_fetch_5 : decode cX6_fetch 5 = .ok (.getfield 10, 3) := by decide +kernel
theorem dX6_fetch_8 : decode cX6_fetch 8 = .ok (.invokevirtual 33, 3) := by decide +kernel
theorem dX6_fetch_11 : decode cX6_fetch 11 = .ok (.aload_n 0, 1) := by decide +kernel
theorem dX6_fetch_12 : decode cX6_fetch 12 = .ok (.getfield 22, 3) := by decide +kernel
theorem dX6_fetch_15 : decode cX6_fetch 15 = .ok (.aload_n 0, 1) := by decide +kernel
theorem dX6_fetch_16 : decode cX6_fetch 16 = .ok (.getfield 10, 3) := by decide +kernel
theorem dX6_fetch_19 : decode cX6_fetch 19 = .ok (.iload_n 1, 1) := by decide +kernel
theorem dX6_fetch_20 : decode cX6_fetch 20 = .ok (.invokevirtual 68, 3) := by decide +kernel
theorem dX6_fetch_23 : decode cX6_fetch 23 = .ok (.invokevirtual 41, 3) := by decide +kernel
theorem dX6_fetch_26 : decode cX6_fetch 26 = .ok (.ireturn, 1) := by decide +kernel
theorem dX6_kindOf_0 : decode cX6_kindOf 0 = .ok (.aload_n 0, 1) := by decide +kernel
theorem dX6_kindOf_1 : decode cX6_kindOf 1 = .ok (.getfield 10, 3) := by decide +kernel
theorem dX6_kindOf_4 : decode cX6_kindOf 4 = .ok (.iload_n 1, 1) := by decide +kernel
theorem dX6_kindOf_5 : decode cX6_kindOf 5 = .ok (.invokevirtual 71, 3) := by decide +kernel
theorem dX6_kindOf_8 : decode cX6_kindOf 8 = .ok (.ifCond .eq 12, 3) := by decide +kernel
theorem dX6_kindOf_11 : decode cX6_kindOf 11 = .ok (.iload_n 2, 1) := by decide +kernel
theorem dX6_kindOf_12 : decode cX6_kindOf 12 = .ok (.iconst 0, 1) := by decide +kernel
theorem dX6_kindOf_13 : decode cX6_kindOf 13 = .ok (.iconst 5, 1) := by decide +kernel
theorem dX6_kindOf_14 : decode cX6_kindOf 14 = .ok (.invokestatic 75, 3) := by decide +kernel
theorem dX6_kindOf_17 : decode cX6_kindOf 17 = .ok (.ifCond .ne 6, 3) := by decide +kernel
theorem dX6_kindOf_20 : decode cX6_kindOf 20 = .ok (.ldc 79, 2) := by decide +kernel
theorem dX6_kindOf_22 : decode cX6_kindOf 22 = .ok (.ireturn, 1) := by decide +kernel
theorem dX6_kindOf_23 : decode cX6_kindOf 23 = .ok (.aload_n 0, 1) := by decide +kernel
theorem dX6_kindOf_24 : decode cX6_kindOf 24 = .ok (.getfield 10, 3) := by decide +kernel
theorem dX6_kindOf_27 : decode cX6_kindOf 27 = .ok (.iload_n 1, 1) := by decide +kernel
theorem dX6_kindOf_28 : decode cX6_kindOf 28 = .ok (.iload_n 2, 1) := by decide +kernel
theorem dX6_kindOf_29 : decode cX6_kindOf 29 = .ok (.invokevirtual 80, 3) := by decide +kernel
theorem dX6_kindOf_32 : decode cX6_kindOf 32 = .ok (.ireturn, 1) := by decide +kernel
theorem dX6_farmerOf_0 : decode cX6_farmerOf 0 = .ok (.aload_n 0, 1) := by decide +kernel
theorem dX6_farmerOf_1 : decode cX6_farmerOf 1 = .ok (.getfield 10, 3) := by decide +kernel
theorem dX6_farmerOf_4 : decode cX6_farmerOf 4 = .ok (.iload_n 1, 1) := by decide +kernel
theorem dX6_farmerOf_5 : decode cX6_farmerOf 5 = .ok (.invokevirtual 83, 3) := by decide +kernel
theorem dX6_farmerOf_8 : decode cX6_farmerOf 8 = .ok (.ifCond .eq 12, 3) := by decide +kernel
theorem dX6_farmerOf_11 : decode cX6_farmerOf 11 = .ok (.iload_n 2, 1) := by decide +kernel
theorem dX6_farmerOf_12 : decode cX6_farmerOf 12 = .ok (.iconst 0, 1) := by decide +kernel
theorem dX6_farmerOf_13 : decode cX6_farmerOf 13 = .ok (.iconst 5, 1) := by decide +kernel
theorem dX6_farmerOf_14 : decode cX6_farmerOf 14 = .ok (.invokestatic 75, 3) := by decide +kernel
theorem dX6_farmerOf_17 : decode cX6_farmerOf 17 = .ok (.ifCond .ne 6, 3) := by decide +kernel
theorem dX6_farmerOf_20 : decode cX6_farmerOf 20 = .ok (.ldc 79, 2) := by decide +kernel
theorem dX6_farmerOf_22 : decode cX6_farmerOf 22 = .ok (.ireturn, 1) := by decide +kernel
theorem dX6_farmerOf_23 : decode cX6_farmerOf 23 = .ok (.aload_n 0, 1) := by decide +kernel
theorem dX6_farmerOf_24 : decode cX6_farmerOf 24 = .ok (.getfield 10, 3) := by decide +kernel
theorem dX6_farmerOf_27 : decode cX6_farmerOf 27 = .ok (.iload_n 1, 1) := by decide +kernel
theorem dX6_farmerOf_28 : decode cX6_farmerOf 28 = .ok (.iload_n 2, 1) := by decide +kernel
theorem dX6_farmerOf_29 : decode cX6_farmerOf 29 = .ok (.invokevirtual 86, 3) := by decide +kernel
theorem dX6_farmerOf_32 : decode cX6_farmerOf 32 = .ok (.ireturn, 1) := by decide +kernel
theorem dX6_sackOf_0 : decode cX6_sackOf 0 = .ok (.aload_n 0, 1) := by decide +kernel
theorem dX6_sackOf_1 : decode cX6_sackOf 1 = .ok (.getfield 10, 3) := by decide +kernel
theorem dX6_sackOf_4 : decode cX6_sackOf 4 = .ok (.iload_n 1, 1) := by decide +kernel
theorem dX6_sackOf_5 : decode cX6_sackOf 5 = .ok (.invokevirtual 89, 3) := by decide +kernel
theorem dX6_sackOf_8 : decode cX6_sackOf 8 = .ok (.ifCond .eq 13, 3) := by decide +kernel
theorem dX6_sackOf_11 : decode cX6_sackOf 11 = .ok (.iload_n 2, 1) := by decide +kernel
theorem dX6_sackOf_12 : decode cX6_sackOf 12 = .ok (.iconst 0, 1) := by decide +kernel
theorem dX6_sackOf_13 : decode cX6_sackOf 13 = .ok (.bipush 11, 2) := by decide +kernel
theorem dX6_sackOf_15 : decode cX6_sackOf 15 = .ok (.invokestatic 75, 3) := by decide +kernel
theorem dX6_sackOf_18 : decode cX6_sackOf 18 = .ok (.ifCond .ne 6, 3) := by decide +kernel
theorem dX6_sackOf_21 : decode cX6_sackOf 21 = .ok (.ldc 79, 2) := by decide +kernel
theorem dX6_sackOf_23 : decode cX6_sackOf 23 = .ok (.ireturn, 1) := by decide +kernel
theorem dX6_sackOf_24 : decode cX6_sackOf 24 = .ok (.iload_n 2, 1) := by decide +kernel
theorem dX6_sackOf_25 : decode cX6_sackOf 25 = .ok (.bipush 11, 2) := by decide +kernel
theorem dX6_sackOf_27 : decode cX6_sackOf 27 = .ok (.if_icmp .ne 14, 3) := by decide +kernel
theorem dX6_sackOf_30 : decode cX6_sackOf 30 = .ok (.aload_n 0, 1) := by decide +kernel
theorem dX6_sackOf_31 : decode cX6_sackOf 31 = .ok (.getfield 10, 3) := by decide +kernel
theorem dX6_sackOf_34 : decode cX6_sackOf 34 = .ok (.iload_n 1, 1) := by decide +kernel
theorem dX6_sackOf_35 : decode cX6_sackOf 35 = .ok (.invokevirtual 92, 3) := by decide +kernel
theorem dX6_sackOf_38 : decode cX6_sackOf 38 = .ok (.goto 16, 3) := by decide +kernel
theorem dX6_sackOf_41 : decode cX6_sackOf 41 = .ok (.aload_n 0, 1) := by decide +kernel
theorem dX6_sackOf_42 : decode cX6_sackOf 42 = .ok (.getfield 10, 3) := by decide +kernel
theorem dX6_sackOf_45 : decode cX6_sackOf 45 = .ok (.getfield 95, 3) := by decide +kernel
theorem dX6_sackOf_48 : decode cX6_sackOf 48 = .ok (.iload_n 1, 1) := by decide +kernel
theorem dX6_sackOf_49 : decode cX6_sackOf 49 = .ok (.aaload, 1) := by decide +kernel
theorem dX6_sackOf_50 : decode cX6_sackOf 50 = .ok (.iload_n 2, 1) := by decide +kernel
theorem dX6_sackOf_51 : decode cX6_sackOf 51 = .ok (.invokevirtual 99, 3) := by decide +kernel
theorem dX6_sackOf_54 : decode cX6_sackOf 54 = .ok (.ireturn, 1) := by decide +kernel
theorem dX6_queueAt_0 : decode cX6_queueAt 0 = .ok (.iload_n 1, 1) := by decide +kernel
theorem dX6_queueAt_1 : decode cX6_queueAt 1 = .ok (.ifCond .ge 6, 3) := by decide +kernel
theorem dX6_queueAt_4 : decode cX6_queueAt 4 = .ok (.ldc 79, 2) := by decide +kernel
theorem dX6_queueAt_6 : decode cX6_queueAt 6 = .ok (.ireturn, 1) := by decide +kernel
theorem dX6_queueAt_7 : decode cX6_queueAt 7 = .ok (.aload_n 0, 1) := by decide +kernel
theorem dX6_queueAt_8 : decode cX6_queueAt 8 = .ok (.getfield 10, 3) := by decide +kernel
theorem dX6_queueAt_11 : decode cX6_queueAt 11 = .ok (.iload_n 1, 1) := by decide +kernel
theorem dX6_queueAt_12 : decode cX6_queueAt 12 = .ok (.invokevirtual 104, 3) := by decide +kernel
theorem dX6_queueAt_15 : decode cX6_queueAt 15 = .ok (.ireturn, 1) := by decide +kernel
theorem dX6_account_0 : decode cX6_account 0 = .ok (.iload_n 1, 1) := by decide +kernel
theorem dX6_account_1 : decode cX6_account 1 = .ok (.iconst (-1), 1) := by decide +kernel
theorem dX6_account_2 : decode cX6_account 2 = .ok (.if_icmp .eq 14, 3) := by decide +kernel
theorem dX6_account_5 : decode cX6_account 5 = .ok (.aload_n 0, 1) := by decide +kernel
theorem dX6_account_6 : decode cX6_account 6 = .ok (.getfield 10, 3) := by decide +kernel
theorem dX6_account_9 : decode cX6_account 9 = .ok (.iload_n 1, 1) := by decide +kernel
theorem dX6_account_10 : decode cX6_account 10 = .ok (.invokevirtual 83, 3) := by decide +kernel
theorem dX6_account_13 : decode cX6_account 13 = .ok (.ifCond .eq 23, 3) := by decide +kernel
theorem dX6_account_16 : decode cX6_account 16 = .ok (.iload_n 2, 1) := by decide +kernel
theorem dX6_account_17 : decode cX6_account 17 = .ok (.iconst (-1), 1) := by decide +kernel
theorem dX6_account_18 : decode cX6_account 18 = .ok (.if_icmp .eq 14, 3) := by decide +kernel
theorem dX6_account_21 : decode cX6_account 21 = .ok (.aload_n 0, 1) := by decide +kernel
theorem dX6_account_22 : decode cX6_account 22 = .ok (.getfield 10, 3) := by decide +kernel
theorem dX6_account_25 : decode cX6_account 25 = .ok (.iload_n 2, 1) := by decide +kernel
theorem dX6_account_26 : decode cX6_account 26 = .ok (.invokevirtual 71, 3) := by decide +kernel
theorem dX6_account_29 : decode cX6_account 29 = .ok (.ifCond .eq 7, 3) := by decide +kernel
theorem dX6_account_32 : decode cX6_account 32 = .ok (.iconst 1, 1) := by decide +kernel
theorem dX6_account_33 : decode cX6_account 33 = .ok (.goto 4, 3) := by decide +kernel
theorem dX6_account_36 : decode cX6_account 36 = .ok (.iconst 0, 1) := by decide +kernel
theorem dX6_account_37 : decode cX6_account 37 = .ok (.istore 4, 2) := by decide +kernel
theorem dX6_account_39 : decode cX6_account 39 = .ok (.iload 4, 2) := by decide +kernel
theorem dX6_account_41 : decode cX6_account 41 = .ok (.ifCond .eq 18, 3) := by decide +kernel
theorem dX6_account_44 : decode cX6_account 44 = .ok (.iload_n 3, 1) := by decide +kernel
theorem dX6_account_45 : decode cX6_account 45 = .ok (.iconst 2, 1) := by decide +kernel
theorem dX6_account_46 : decode cX6_account 46 = .ok (.if_icmp .eq 16, 3) := by decide +kernel
theorem dX6_account_49 : decode cX6_account 49 = .ok (.iload_n 3, 1) := by decide +kernel
theorem dX6_account_50 : decode cX6_account 50 = .ok (.iconst 4, 1) := by decide +kernel
theorem dX6_account_51 : decode cX6_account 51 = .ok (.bipush 10, 2) := by decide +kernel
theorem dX6_account_53 : decode cX6_account 53 = .ok (.invokestatic 75, 3) := by decide +kernel
theorem dX6_account_56 : decode cX6_account 56 = .ok (.ifCond .ne 6, 3) := by decide +kernel
theorem dX6_account_59 : decode cX6_account 59 = .ok (.ldc 79, 2) := by decide +kernel
theorem dX6_account_61 : decode cX6_account 61 = .ok (.ireturn, 1) := by decide +kernel
theorem dX6_account_62 : decode cX6_account 62 = .ok (.aload_n 0, 1) := by decide +kernel
theorem dX6_account_63 : decode cX6_account 63 = .ok (.getfield 10, 3) := by decide +kernel
theorem dX6_account_66 : decode cX6_account 66 = .ok (.iload_n 1, 1) := by decide +kernel
theorem dX6_account_67 : decode cX6_account 67 = .ok (.iload_n 2, 1) := by decide +kernel
theorem dX6_account_68 : decode cX6_account 68 = .ok (.iload_n 3, 1) := by decide +kernel
theorem dX6_account_69 : decode cX6_account 69 = .ok (.invokevirtual 107, 3) := by decide +kernel
theorem dX6_account_72 : decode cX6_account 72 = .ok (.ireturn, 1) := by decide +kernel
theorem dX6_earn_0 : decode cX6_earn 0 = .ok (.aload_n 0, 1) := by decide +kernel
theorem dX6_earn_1 : decode cX6_earn 1 = .ok (.getfield 22, 3) := by decide +kernel
theorem dX6_earn_4 : decode cX6_earn 4 = .ok (.aload_n 0, 1) := by decide +kernel
theorem dX6_earn_5 : decode cX6_earn 5 = .ok (.getfield 10, 3) := by decide +kernel
theorem dX6_earn_8 : decode cX6_earn 8 = .ok (.invokevirtual 33, 3) := by decide +kernel
theorem dX6_earn_11 : decode cX6_earn 11 = .ok (.aload_n 0, 1) := by decide +kernel
theorem dX6_earn_12 : decode cX6_earn 12 = .ok (.getfield 22, 3) := by decide +kernel
theorem dX6_earn_15 : decode cX6_earn 15 = .ok (.aload_n 0, 1) := by decide +kernel
theorem dX6_earn_16 : decode cX6_earn 16 = .ok (.getfield 10, 3) := by decide +kernel
theorem dX6_earn_19 : decode cX6_earn 19 = .ok (.iload_n 1, 1) := by decide +kernel
theorem dX6_earn_20 : decode cX6_earn 20 = .ok (.iload_n 2, 1) := by decide +kernel
theorem dX6_earn_21 : decode cX6_earn 21 = .ok (.invokevirtual 110, 3) := by decide +kernel
theorem dX6_earn_24 : decode cX6_earn 24 = .ok (.invokevirtual 41, 3) := by decide +kernel
theorem dX6_earn_27 : decode cX6_earn 27 = .ok (.ireturn, 1) := by decide +kernel
theorem dX6_pledge_0 : decode cX6_pledge 0 = .ok (.aload_n 0, 1) := by decide +kernel
theorem dX6_pledge_1 : decode cX6_pledge 1 = .ok (.getfield 22, 3) := by decide +kernel
theorem dX6_pledge_4 : decode cX6_pledge 4 = .ok (.aload_n 0, 1) := by decide +kernel
theorem dX6_pledge_5 : decode cX6_pledge 5 = .ok (.getfield 10, 3) := by decide +kernel
theorem dX6_pledge_8 : decode cX6_pledge 8 = .ok (.invokevirtual 33, 3) := by decide +kernel
theorem dX6_pledge_11 : decode cX6_pledge 11 = .ok (.aload_n 0, 1) := by decide +kernel
theorem dX6_pledge_12 : decode cX6_pledge 12 = .ok (.getfield 22, 3) := by decide +kernel
theorem dX6_pledge_15 : decode cX6_pledge 15 = .ok (.aload_n 0, 1) := by decide +kernel
theorem dX6_pledge_16 : decode cX6_pledge 16 = .ok (.getfield 10, 3) := by decide +kernel
theorem dX6_pledge_19 : decode cX6_pledge 19 = .ok (.iload_n 1, 1) := by decide +kernel
theorem dX6_pledge_20 : decode cX6_pledge 20 = .ok (.iload_n 2, 1) := by decide +kernel
theorem dX6_pledge_21 : decode cX6_pledge 21 = .ok (.invokevirtual 113, 3) := by decide +kernel
theorem dX6_pledge_24 : decode cX6_pledge 24 = .ok (.invokevirtual 41, 3) := by decide +kernel
theorem dX6_pledge_27 : decode cX6_pledge 27 = .ok (.ireturn, 1) := by decide +kernel
theorem dX6_owed_0 : decode cX6_owed 0 = .ok (.aload_n 0, 1) := by decide +kernel
theorem dX6_owed_1 : decode cX6_owed 1 = .ok (.getfield 10, 3) := by decide +kernel
theorem dX6_owed_4 : decode cX6_owed 4 = .ok (.iload_n 1, 1) := by decide +kernel
theorem dX6_owed_5 : decode cX6_owed 5 = .ok (.invokevirtual 89, 3) := by decide +kernel
theorem dX6_owed_8 : decode cX6_owed 8 = .ok (.ifCond .ne 6, 3) := by decide +kernel
theorem dX6_owed_11 : decode cX6_owed 11 = .ok (.ldc 79, 2) := by decide +kernel
theorem dX6_owed_13 : decode cX6_owed 13 = .ok (.ireturn, 1) := by decide +kernel
theorem dX6_owed_14 : decode cX6_owed 14 = .ok (.aload_n 0, 1) := by decide +kernel
theorem dX6_owed_15 : decode cX6_owed 15 = .ok (.getfield 10, 3) := by decide +kernel
theorem dX6_owed_18 : decode cX6_owed 18 = .ok (.getfield 95, 3) := by decide +kernel
theorem dX6_owed_21 : decode cX6_owed 21 = .ok (.iload_n 1, 1) := by decide +kernel
theorem dX6_owed_22 : decode cX6_owed 22 = .ok (.aaload, 1) := by decide +kernel
theorem dX6_owed_23 : decode cX6_owed 23 = .ok (.invokevirtual 116, 3) := by decide +kernel
theorem dX6_owed_26 : decode cX6_owed 26 = .ok (.ifCond .eq 22, 3) := by decide +kernel
theorem dX6_owed_29 : decode cX6_owed 29 = .ok (.aload_n 0, 1) := by decide +kernel
theorem dX6_owed_30 : decode cX6_owed 30 = .ok (.getfield 10, 3) := by decide +kernel
theorem dX6_owed_33 : decode cX6_owed 33 = .ok (.aload_n 0, 1) := by decide +kernel
theorem dX6_owed_34 : decode cX6_owed 34 = .ok (.getfield 10, 3) := by decide +kernel
theorem dX6_owed_37 : decode cX6_owed 37 = .ok (.getfield 95, 3) := by decide +kernel
theorem dX6_owed_40 : decode cX6_owed 40 = .ok (.iload_n 1, 1) := by decide +kernel
theorem dX6_owed_41 : decode cX6_owed 41 = .ok (.aaload, 1) := by decide +kernel
theorem dX6_owed_42 : decode cX6_owed 42 = .ok (.invokevirtual 120, 3) := by decide +kernel
theorem dX6_owed_45 : decode cX6_owed 45 = .ok (.goto 5, 3) := by decide +kernel
theorem dX6_owed_48 : decode cX6_owed 48 = .ok (.ldc 124, 2) := by decide +kernel
theorem dX6_owed_50 : decode cX6_owed 50 = .ok (.ireturn, 1) := by decide +kernel
theorem dX6_redeem_0 : decode cX6_redeem 0 = .ok (.aload_n 0, 1) := by decide +kernel
theorem dX6_redeem_1 : decode cX6_redeem 1 = .ok (.getfield 22, 3) := by decide +kernel
theorem dX6_redeem_4 : decode cX6_redeem 4 = .ok (.aload_n 0, 1) := by decide +kernel
theorem dX6_redeem_5 : decode cX6_redeem 5 = .ok (.getfield 10, 3) := by decide +kernel
theorem dX6_redeem_8 : decode cX6_redeem 8 = .ok (.invokevirtual 33, 3) := by decide +kernel
theorem dX6_redeem_11 : decode cX6_redeem 11 = .ok (.aload_n 0, 1) := by decide +kernel
theorem dX6_redeem_12 : decode cX6_redeem 12 = .ok (.getfield 22, 3) := by decide +kernel
theorem dX6_redeem_15 : decode cX6_redeem 15 = .ok (.aload_n 0, 1) := by decide +kernel
theorem dX6_redeem_16 : decode cX6_redeem 16 = .ok (.getfield 10, 3) := by decide +kernel
theorem dX6_redeem_19 : decode cX6_redeem 19 = .ok (.iload_n 1, 1) := by decide +kernel
theorem dX6_redeem_20 : decode cX6_redeem 20 = .ok (.invokevirtual 125, 3) := by decide +kernel
theorem dX6_redeem_23 : decode cX6_redeem 23 = .ok (.invokevirtual 41, 3) := by decide +kernel
theorem dX6_redeem_26 : decode cX6_redeem 26 = .ok (.ireturn, 1) := by decide +kernel
theorem dX6_pledgeAt_0 : decode cX6_pledgeAt 0 = .ok (.iload_n 1, 1) := by decide +kernel
theorem dX6_pledgeAt_1 : decode cX6_pledgeAt 1 = .ok (.ifCond .lt 12, 3) := by decide +kernel
theorem dX6_pledgeAt_4 : decode cX6_pledgeAt 4 = .ok (.iload_n 2, 1) := by decide +kernel
theorem dX6_pledgeAt_5 : decode cX6_pledgeAt 5 = .ok (.iconst 0, 1) := by decide +kernel
theorem dX6_pledgeAt_6 : decode cX6_pledgeAt 6 = .ok (.iconst 4, 1) := by decide +kernel
theorem dX6_pledgeAt_7 : decode cX6_pledgeAt 7 = .ok (.invokestatic 75, 3) := by decide +kernel
theorem dX6_pledgeAt_10 : decode cX6_pledgeAt 10 = .ok (.ifCond .ne 6, 3) := by decide +kernel
theorem dX6_pledgeAt_13 : decode cX6_pledgeAt 13 = .ok (.ldc 79, 2) := by decide +kernel
theorem dX6_pledgeAt_15 : decode cX6_pledgeAt 15 = .ok (.ireturn, 1) := by decide +kernel
theorem dX6_pledgeAt_16 : decode cX6_pledgeAt 16 = .ok (.aload_n 0, 1) := by decide +kernel
theorem dX6_pledgeAt_17 : decode cX6_pledgeAt 17 = .ok (.getfield 10, 3) := by decide +kernel
theorem dX6_pledgeAt_20 : decode cX6_pledgeAt 20 = .ok (.iload_n 1, 1) := by decide +kernel
theorem dX6_pledgeAt_21 : decode cX6_pledgeAt 21 = .ok (.invokevirtual 128, 3) := by decide +kernel
theorem dX6_pledgeAt_24 : decode cX6_pledgeAt 24 = .ok (.istore_n 3, 1) := by decide +kernel
theorem dX6_pledgeAt_25 : decode cX6_pledgeAt 25 = .ok (.iload_n 3, 1) := by decide +kernel
theorem dX6_pledgeAt_26 : decode cX6_pledgeAt 26 = .ok (.iconst (-1), 1) := by decide +kernel
theorem dX6_pledgeAt_27 : decode cX6_pledgeAt 27 = .ok (.if_icmp .ne 8, 3) := by decide +kernel
theorem dX6_pledgeAt_30 : decode cX6_pledgeAt 30 = .ok (.ldc 124, 2) := by decide +kernel
theorem dX6_pledgeAt_32 : decode cX6_pledgeAt 32 = .ok (.goto 12, 3) := by decide +kernel
theorem dX6_pledgeAt_35 : decode cX6_pledgeAt 35 = .ok (.aload_n 0, 1) := by decide +kernel
theorem dX6_pledgeAt_36 : decode cX6_pledgeAt 36 = .ok (.getfield 10, 3) := by decide +kernel
theorem dX6_pledgeAt_39 : decode cX6_pledgeAt 39 = .ok (.iload_n 3, 1) := by decide +kernel
theorem dX6_pledgeAt_40 : decode cX6_pledgeAt 40 = .ok (.iload_n 2, 1) := by decide +kernel
theorem dX6_pledgeAt_41 : decode cX6_pledgeAt 41 = .ok (.invokevirtual 131, 3) := by decide +kernel
theorem dX6_pledgeAt_44 : decode cX6_pledgeAt 44 = .ok (.ireturn, 1) := by decide +kernel
theorem dX6_pass_0 : decode cX6_pass 0 = .ok (.aload_n 0, 1) := by decide +kernel
theorem dX6_pass_1 : decode cX6_pass 1 = .ok (.getfield 22, 3) := by decide +kernel
theorem dX6_pass_4 : decode cX6_pass 4 = .ok (.aload_n 0, 1) := by decide +kernel
theorem dX6_pass_5 : decode cX6_pass 5 = .ok (.getfield 10, 3) := by decide +kernel
theorem dX6_pass_8 : decode cX6_pass 8 = .ok (.invokevirtual 33, 3) := by decide +kernel
theorem dX6_pass_11 : decode cX6_pass 11 = .ok (.aload_n 0, 1) := by decide +kernel
theorem dX6_pass_12 : decode cX6_pass 12 = .ok (.getfield 22, 3) := by decide +kernel
theorem dX6_pass_15 : decode cX6_pass 15 = .ok (.aload_n 0, 1) := by decide +kernel
theorem dX6_pass_16 : decode cX6_pass 16 = .ok (.getfield 10, 3) := by decide +kernel
theorem dX6_pass_19 : decode cX6_pass 19 = .ok (.iload_n 1, 1) := by decide +kernel
theorem dX6_pass_20 : decode cX6_pass 20 = .ok (.invokevirtual 134, 3) := by decide +kernel
theorem dX6_pass_23 : decode cX6_pass 23 = .ok (.invokevirtual 41, 3) := by decide +kernel
theorem dX6_pass_26 : decode cX6_pass 26 = .ok (.ireturn, 1) := by decide +kernel
theorem dX6_seaIn_0 : decode cX6_seaIn 0 = .ok (.iload_n 1, 1) := by decide +kernel
theorem dX6_seaIn_1 : decode cX6_seaIn 1 = .ok (.iconst 0, 1) := by decide +kernel
theorem dX6_seaIn_2 : decode cX6_seaIn 2 = .ok (.sipush 5000, 3) := by decide +kernel
theorem dX6_seaIn_5 : decode cX6_seaIn 5 = .ok (.invokestatic 75, 3) := by decide +kernel
theorem dX6_seaIn_8 : decode cX6_seaIn 8 = .ok (.ifCond .ne 6, 3) := by decide +kernel
theorem dX6_seaIn_11 : decode cX6_seaIn 11 = .ok (.ldc 79, 2) := by decide +kernel
theorem dX6_seaIn_13 : decode cX6_seaIn 13 = .ok (.ireturn, 1) := by decide +kernel
theorem dX6_seaIn_14 : decode cX6_seaIn 14 = .ok (.aload_n 0, 1) := by decide +kernel
theorem dX6_seaIn_15 : decode cX6_seaIn 15 = .ok (.getfield 10, 3) := by decide +kernel
theorem dX6_seaIn_18 : decode cX6_seaIn 18 = .ok (.aload_n 0, 1) := by decide +kernel
theorem dX6_seaIn_19 : decode cX6_seaIn 19 = .ok (.getfield 10, 3) := by decide +kernel
theorem dX6_seaIn_22 : decode cX6_seaIn 22 = .ok (.getfield 137, 3) := by decide +kernel
theorem dX6_seaIn_25 : decode cX6_seaIn 25 = .ok (.iload_n 1, 1) := by decide +kernel
theorem dX6_seaIn_26 : decode cX6_seaIn 26 = .ok (.iadd, 1) := by decide +kernel
theorem dX6_seaIn_27 : decode cX6_seaIn 27 = .ok (.invokevirtual 141, 3) := by decide +kernel
theorem dX6_seaIn_30 : decode cX6_seaIn 30 = .ok (.ireturn, 1) := by decide +kernel
theorem dX6_nextHigh_0 : decode cX6_nextHigh 0 = .ok (.aload_n 0, 1) := by decide +kernel
theorem dX6_nextHigh_1 : decode cX6_nextHigh 1 = .ok (.getfield 10, 3) := by decide +kernel
theorem dX6_nextHigh_4 : decode cX6_nextHigh 4 = .ok (.invokevirtual 144, 3) := by decide +kernel
theorem dX6_nextHigh_7 : decode cX6_nextHigh 7 = .ok (.ireturn, 1) := by decide +kernel
theorem dX6_pond_0 : decode cX6_pond 0 = .ok (.iload_n 1, 1) := by decide +kernel
theorem dX6_pond_1 : decode cX6_pond 1 = .ok (.iconst 0, 1) := by decide +kernel
theorem dX6_pond_2 : decode cX6_pond 2 = .ok (.bipush 14, 2) := by decide +kernel
theorem dX6_pond_4 : decode cX6_pond 4 = .ok (.invokestatic 75, 3) := by decide +kernel
theorem dX6_pond_7 : decode cX6_pond 7 = .ok (.ifCond .ne 6, 3) := by decide +kernel
theorem dX6_pond_10 : decode cX6_pond 10 = .ok (.ldc 79, 2) := by decide +kernel
theorem dX6_pond_12 : decode cX6_pond 12 = .ok (.ireturn, 1) := by decide +kernel
theorem dX6_pond_13 : decode cX6_pond 13 = .ok (.aload_n 0, 1) := by decide +kernel
theorem dX6_pond_14 : decode cX6_pond 14 = .ok (.getfield 10, 3) := by decide +kernel
theorem dX6_pond_17 : decode cX6_pond 17 = .ok (.iload_n 1, 1) := by decide +kernel
theorem dX6_pond_18 : decode cX6_pond 18 = .ok (.invokevirtual 147, 3) := by decide +kernel
theorem dX6_pond_21 : decode cX6_pond 21 = .ok (.ireturn, 1) := by decide +kernel
theorem dX6_foresee_0 : decode cX6_foresee 0 = .ok (.aload_n 0, 1) := by decide +kernel
theorem dX6_foresee_1 : decode cX6_foresee 1 = .ok (.getfield 10, 3) := by decide +kernel
theorem dX6_foresee_4 : decode cX6_foresee 4 = .ok (.iload_n 1, 1) := by decide +kernel
theorem dX6_foresee_5 : decode cX6_foresee 5 = .ok (.invokevirtual 89, 3) := by decide +kernel
theorem dX6_foresee_8 : decode cX6_foresee 8 = .ok (.ifCond .ne 6, 3) := by decide +kernel
theorem dX6_foresee_11 : decode cX6_foresee 11 = .ok (.ldc 79, 2) := by decide +kernel
theorem dX6_foresee_13 : decode cX6_foresee 13 = .ok (.ireturn, 1) := by decide +kernel
theorem dX6_foresee_14 : decode cX6_foresee 14 = .ok (.aload_n 0, 1) := by decide +kernel
theorem dX6_foresee_15 : decode cX6_foresee 15 = .ok (.getfield 10, 3) := by decide +kernel
theorem dX6_foresee_18 : decode cX6_foresee 18 = .ok (.getfield 95, 3) := by decide +kernel
theorem dX6_foresee_21 : decode cX6_foresee 21 = .ok (.iload_n 1, 1) := by decide +kernel
theorem dX6_foresee_22 : decode cX6_foresee 22 = .ok (.aaload, 1) := by decide +kernel
theorem dX6_foresee_23 : decode cX6_foresee 23 = .ok (.getfield 150, 3) := by decide +kernel
theorem dX6_foresee_26 : decode cX6_foresee 26 = .ok (.iconst 2, 1) := by decide +kernel
theorem dX6_foresee_27 : decode cX6_foresee 27 = .ok (.if_icmp .lt 6, 3) := by decide +kernel
theorem dX6_foresee_30 : decode cX6_foresee 30 = .ok (.ldc 153, 2) := by decide +kernel
theorem dX6_foresee_32 : decode cX6_foresee 32 = .ok (.ireturn, 1) := by decide +kernel
theorem dX6_foresee_33 : decode cX6_foresee 33 = .ok (.aload_n 0, 1) := by decide +kernel
theorem dX6_foresee_34 : decode cX6_foresee 34 = .ok (.getfield 16, 3) := by decide +kernel
theorem dX6_foresee_37 : decode cX6_foresee 37 = .ok (.aload_n 0, 1) := by decide +kernel
theorem dX6_foresee_38 : decode cX6_foresee 38 = .ok (.getfield 10, 3) := by decide +kernel
theorem dX6_foresee_41 : decode cX6_foresee 41 = .ok (.invokevirtual 154, 3) := by decide +kernel
theorem dX6_foresee_44 : decode cX6_foresee 44 = .ok (.iconst 1, 1) := by decide +kernel
theorem dX6_foresee_45 : decode cX6_foresee 45 = .ok (.istore_n 2, 1) := by decide +kernel
theorem dX6_foresee_46 : decode cX6_foresee 46 = .ok (.iload_n 2, 1) := by decide +kernel
theorem dX6_foresee_47 : decode cX6_foresee 47 = .ok (.sipush 1000, 3) := by decide +kernel
theorem dX6_foresee_50 : decode cX6_foresee 50 = .ok (.if_icmp .gt 34, 3) := by decide +kernel
theorem dX6_foresee_53 : decode cX6_foresee 53 = .ok (.aload_n 0, 1) := by decide +kernel
theorem dX6_foresee_54 : decode cX6_foresee 54 = .ok (.getfield 16, 3) := by decide +kernel
theorem dX6_foresee_57 : decode cX6_foresee 57 = .ok (.invokevirtual 157, 3) := by decide +kernel
theorem dX6_foresee_60 : decode cX6_foresee 60 = .ok (.aload_n 0, 1) := by decide +kernel
theorem dX6_foresee_61 : decode cX6_foresee 61 = .ok (.getfield 16, 3) := by decide +kernel
theorem dX6_foresee_64 : decode cX6_foresee 64 = .ok (.getfield 95, 3) := by decide +kernel
theorem dX6_foresee_67 : decode cX6_foresee 67 = .ok (.iload_n 1, 1) := by decide +kernel
theorem dX6_foresee_68 : decode cX6_foresee 68 = .ok (.aaload, 1) := by decide +kernel
theorem dX6_foresee_69 : decode cX6_foresee 69 = .ok (.getfield 150, 3) := by decide +kernel
theorem dX6_foresee_72 : decode cX6_foresee 72 = .ok (.iconst 2, 1) := by decide +kernel
theorem dX6_foresee_73 : decode cX6_foresee 73 = .ok (.if_icmp .ne 5, 3) := by decide +kernel
theorem dX6_foresee_76 : decode cX6_foresee 76 = .ok (.iload_n 2, 1) := by decide +kernel
theorem dX6_foresee_77 : decode cX6_foresee 77 = .ok (.ireturn, 1) := by decide +kernel
theorem dX6_foresee_78 : decode cX6_foresee 78 = .ok (.iinc 2 1, 3) := by decide +kernel
theorem dX6_foresee_81 : decode cX6_foresee 81 = .ok (.goto (-35), 3) := by decide +kernel
theorem dX6_foresee_84 : decode cX6_foresee 84 = .ok (.ldc 124, 2) := by decide +kernel
theorem dX6_foresee_86 : decode cX6_foresee 86 = .ok (.ireturn, 1) := by decide +kernel
theorem dX6_bestGate_0 : decode cX6_bestGate 0 = .ok (.iload_n 1, 1) := by decide +kernel
theorem dX6_bestGate_1 : decode cX6_bestGate 1 = .ok (.iconst 1, 1) := by decide +kernel
theorem dX6_bestGate_2 : decode cX6_bestGate 2 = .ok (.sipush 200, 3) := by decide +kernel
theorem dX6_bestGate_5 : decode cX6_bestGate 5 = .ok (.invokestatic 75, 3) := by decide +kernel
theorem dX6_bestGate_8 : decode cX6_bestGate 8 = .ok (.ifCond .ne 6, 3) := by decide +kernel
theorem dX6_bestGate_11 : decode cX6_bestGate 11 = .ok (.ldc 79, 2) := by decide +kernel
theorem dX6_bestGate_13 : decode cX6_bestGate 13 = .ok (.ireturn, 1) := by decide +kernel
theorem dX6_bestGate_14 : decode cX6_bestGate 14 = .ok (.iconst 0, 1) := by decide +kernel
theorem dX6_bestGate_15 : decode cX6_bestGate 15 = .ok (.istore_n 2, 1) := by decide +kernel
theorem dX6_bestGate_16 : decode cX6_bestGate 16 = .ok (.iconst (-1), 1) := by decide +kernel
theorem dX6_bestGate_17 : decode cX6_bestGate 17 = .ok (.istore_n 3, 1) := by decide +kernel
theorem dX6_bestGate_18 : decode cX6_bestGate 18 = .ok (.iconst 0, 1) := by decide +kernel
theorem dX6_bestGate_19 : decode cX6_bestGate 19 = .ok (.istore 4, 2) := by decide +kernel
theorem dX6_bestGate_21 : decode cX6_bestGate 21 = .ok (.iload 4, 2) := by decide +kernel
theorem dX6_bestGate_23 : decode cX6_bestGate 23 = .ok (.iconst 4, 1) := by decide +kernel
theorem dX6_bestGate_24 : decode cX6_bestGate 24 = .ok (.if_icmp .ge 30, 3) := by decide +kernel
theorem dX6_bestGate_27 : decode cX6_bestGate 27 = .ok (.aload_n 0, 1) := by decide +kernel
theorem dX6_bestGate_28 : decode cX6_bestGate 28 = .ok (.iload 4, 2) := by decide +kernel
theorem dX6_bestGate_30 : decode cX6_bestGate 30 = .ok (.iload_n 1, 1) := by decide +kernel
theorem dX6_bestGate_31 : decode cX6_bestGate 31 = .ok (.invokevirtual 160, 3) := by decide +kernel
theorem dX6_bestGate_34 : decode cX6_bestGate 34 = .ok (.istore 5, 2) := by decide +kernel
theorem dX6_bestGate_36 : decode cX6_bestGate 36 = .ok (.iload 5, 2) := by decide +kernel
theorem dX6_bestGate_38 : decode cX6_bestGate 38 = .ok (.iload_n 3, 1) := by decide +kernel
theorem dX6_bestGate_39 : decode cX6_bestGate 39 = .ok (.if_icmp .le 9, 3) := by decide +kernel
theorem dX6_bestGate_42 : decode cX6_bestGate 42 = .ok (.iload 5, 2) := by decide +kernel
theorem dX6_bestGate_44 : decode cX6_bestGate 44 = .ok (.istore_n 3, 1) := by decide +kernel
theorem dX6_bestGate_45 : decode cX6_bestGate 45 = .ok (.iload 4, 2) := by decide +kernel
theorem dX6_bestGate_47 : decode cX6_bestGate 47 = .ok (.istore_n 2, 1) := by decide +kernel
theorem dX6_bestGate_48 : decode cX6_bestGate 48 = .ok (.iinc 4 1, 3) := by decide +kernel
theorem dX6_bestGate_51 : decode cX6_bestGate 51 = .ok (.goto (-30), 3) := by decide +kernel
theorem dX6_bestGate_54 : decode cX6_bestGate 54 = .ok (.iload_n 2, 1) := by decide +kernel
theorem dX6_bestGate_55 : decode cX6_bestGate 55 = .ok (.ireturn, 1) := by decide +kernel
theorem dX6_count_0 : decode cX6_count 0 = .ok (.iload_n 1, 1) := by decide +kernel
theorem dX6_count_1 : decode cX6_count 1 = .ok (.bipush 20, 2) := by decide +kernel
theorem dX6_count_3 : decode cX6_count 3 = .ok (.bipush 32, 2) := by decide +kernel
theorem dX6_count_5 : decode cX6_count 5 = .ok (.invokestatic 75, 3) := by decide +kernel
theorem dX6_count_8 : decode cX6_count 8 = .ok (.ifCond .eq 16, 3) := by decide +kernel
theorem dX6_count_11 : decode cX6_count 11 = .ok (.aload_n 0, 1) := by decide +kernel
theorem dX6_count_12 : decode cX6_count 12 = .ok (.getfield 10, 3) := by decide +kernel
theorem dX6_count_15 : decode cX6_count 15 = .ok (.getfield 163, 3) := by decide +kernel
theorem dX6_count_18 : decode cX6_count 18 = .ok (.iload_n 1, 1) := by decide +kernel
theorem dX6_count_19 : decode cX6_count 19 = .ok (.bipush 20, 2) := by decide +kernel
theorem dX6_count_21 : decode cX6_count 21 = .ok (.isub, 1) := by decide +kernel
theorem dX6_count_22 : decode cX6_count 22 = .ok (.iaload, 1) := by decide +kernel
theorem dX6_count_23 : decode cX6_count 23 = .ok (.ireturn, 1) := by decide +kernel
theorem dX6_count_24 : decode cX6_count 24 = .ok (.iload_n 1, 1) := by decide +kernel
theorem dX6_count_25 : decode cX6_count 25 = .ok (.lookupswitch 43 #[(9, 27), (10, 35)], 27) := by decide +kernel
theorem dX6_count_52 : decode cX6_count 52 = .ok (.aload_n 0, 1) := by decide +kernel
theorem dX6_count_53 : decode cX6_count 53 = .ok (.getfield 22, 3) := by decide +kernel
theorem dX6_count_56 : decode cX6_count 56 = .ok (.getfield 167, 3) := by decide +kernel
theorem dX6_count_59 : decode cX6_count 59 = .ok (.ireturn, 1) := by decide +kernel
theorem dX6_count_60 : decode cX6_count 60 = .ok (.aload_n 0, 1) := by decide +kernel
theorem dX6_count_61 : decode cX6_count 61 = .ok (.getfield 29, 3) := by decide +kernel
theorem dX6_count_64 : decode cX6_count 64 = .ok (.getfield 170, 3) := by decide +kernel
theorem dX6_count_67 : decode cX6_count 67 = .ok (.ireturn, 1) := by decide +kernel
theorem dX6_count_68 : decode cX6_count 68 = .ok (.aload_n 0, 1) := by decide +kernel
theorem dX6_count_69 : decode cX6_count 69 = .ok (.getfield 10, 3) := by decide +kernel
theorem dX6_count_72 : decode cX6_count 72 = .ok (.iload_n 1, 1) := by decide +kernel
theorem dX6_count_73 : decode cX6_count 73 = .ok (.invokevirtual 173, 3) := by decide +kernel
theorem dX6_count_76 : decode cX6_count 76 = .ok (.ireturn, 1) := by decide +kernel
theorem dX6_undo_0 : decode cX6_undo 0 = .ok (.aload_n 0, 1) := by decide +kernel
theorem dX6_undo_1 : decode cX6_undo 1 = .ok (.getfield 22, 3) := by decide +kernel
theorem dX6_undo_4 : decode cX6_undo 4 = .ok (.aload_n 0, 1) := by decide +kernel
theorem dX6_undo_5 : decode cX6_undo 5 = .ok (.getfield 10, 3) := by decide +kernel
theorem dX6_undo_8 : decode cX6_undo 8 = .ok (.invokevirtual 176, 3) := by decide +kernel
theorem dX6_undo_11 : decode cX6_undo 11 = .ok (.ireturn, 1) := by decide +kernel
theorem dX6_type_0 : decode cX6_type 0 = .ok (.iload_n 1, 1) := by decide +kernel
theorem dX6_type_1 : decode cX6_type 1 = .ok (.bipush 32, 2) := by decide +kernel
theorem dX6_type_3 : decode cX6_type 3 = .ok (.bipush 126, 2) := by decide +kernel
theorem dX6_type_5 : decode cX6_type 5 = .ok (.invokestatic 75, 3) := by decide +kernel
theorem dX6_type_8 : decode cX6_type 8 = .ok (.ifCond .ne 6, 3) := by decide +kernel
theorem dX6_type_11 : decode cX6_type 11 = .ok (.ldc 79, 2) := by decide +kernel
theorem dX6_type_13 : decode cX6_type 13 = .ok (.ireturn, 1) := by decide +kernel
theorem dX6_type_14 : decode cX6_type 14 = .ok (.aload_n 0, 1) := by decide +kernel
theorem dX6_type_15 : decode cX6_type 15 = .ok (.getfield 29, 3) := by decide +kernel
theorem dX6_type_18 : decode cX6_type 18 = .ok (.iload_n 1, 1) := by decide +kernel
theorem dX6_type_19 : decode cX6_type 19 = .ok (.i2c, 1) := by decide +kernel
theorem dX6_type_20 : decode cX6_type 20 = .ok (.invokevirtual 180, 3) := by decide +kernel
theorem dX6_type_23 : decode cX6_type 23 = .ok (.ireturn, 1) := by decide +kernel
theorem dX6_clearText_0 : decode cX6_clearText 0 = .ok (.aload_n 0, 1) := by decide +kernel
theorem dX6_clearText_1 : decode cX6_clearText 1 = .ok (.getfield 29, 3) := by decide +kernel
theorem dX6_clearText_4 : decode cX6_clearText 4 = .ok (.invokevirtual 184, 3) := by decide +kernel
theorem dX6_clearText_7 : decode cX6_clearText 7 = .ok (.ireturn, 1) := by decide +kernel
theorem dX6_fault_0 : decode cX6_fault 0 = .ok (.iload_n 1, 1) := by decide +kernel
theorem dX6_fault_1 : decode cX6_fault 1 = .ok (.iconst 0, 1) := by decide +kernel
theorem dX6_fault_2 : decode cX6_fault 2 = .ok (.iconst 1, 1) := by decide +kernel
theorem dX6_fault_3 : decode cX6_fault 3 = .ok (.invokestatic 75, 3) := by decide +kernel
theorem dX6_fault_6 : decode cX6_fault 6 = .ok (.ifCond .ne 6, 3) := by decide +kernel
theorem dX6_fault_9 : decode cX6_fault 9 = .ok (.ldc 79, 2) := by decide +kernel
theorem dX6_fault_11 : decode cX6_fault 11 = .ok (.ireturn, 1) := by decide +kernel
theorem dX6_fault_12 : decode cX6_fault 12 = .ok (.aload_n 0, 1) := by decide +kernel
theorem dX6_fault_13 : decode cX6_fault 13 = .ok (.getfield 16, 3) := by decide +kernel
theorem dX6_fault_16 : decode cX6_fault 16 = .ok (.aload_n 0, 1) := by decide +kernel
theorem dX6_fault_17 : decode cX6_fault 17 = .ok (.getfield 10, 3) := by decide +kernel
theorem dX6_fault_20 : decode cX6_fault 20 = .ok (.invokevirtual 154, 3) := by decide +kernel
theorem dX6_fault_23 : decode cX6_fault 23 = .ok (.aload_n 0, 1) := by decide +kernel
theorem dX6_fault_24 : decode cX6_fault 24 = .ok (.getfield 29, 3) := by decide +kernel
theorem dX6_fault_27 : decode cX6_fault 27 = .ok (.aload_n 0, 1) := by decide +kernel
theorem dX6_fault_28 : decode cX6_fault 28 = .ok (.getfield 16, 3) := by decide +kernel
theorem dX6_fault_31 : decode cX6_fault 31 = .ok (.invokevirtual 187, 3) := by decide +kernel
theorem dX6_fault_34 : decode cX6_fault 34 = .ok (.aload_n 0, 1) := by decide +kernel
theorem dX6_fault_35 : decode cX6_fault 35 = .ok (.getfield 29, 3) := by decide +kernel
theorem dX6_fault_38 : decode cX6_fault 38 = .ok (.getfield 190, 3) := by decide +kernel
theorem dX6_fault_41 : decode cX6_fault 41 = .ok (.ifCond .ne 6, 3) := by decide +kernel
theorem dX6_fault_44 : decode cX6_fault 44 = .ok (.ldc 124, 2) := by decide +kernel
theorem dX6_fault_46 : decode cX6_fault 46 = .ok (.ireturn, 1) := by decide +kernel
theorem dX6_fault_47 : decode cX6_fault 47 = .ok (.iload_n 1, 1) := by decide +kernel
theorem dX6_fault_48 : decode cX6_fault 48 = .ok (.ifCond .ne 13, 3) := by decide +kernel
theorem dX6_fault_51 : decode cX6_fault 51 = .ok (.aload_n 0, 1) := by decide +kernel
theorem dX6_fault_52 : decode cX6_fault 52 = .ok (.getfield 29, 3) := by decide +kernel
theorem dX6_fault_55 : decode cX6_fault 55 = .ok (.getfield 193, 3) := by decide +kernel
theorem dX6_fault_58 : decode cX6_fault 58 = .ok (.goto 10, 3) := by decide +kernel
theorem dX6_fault_61 : decode cX6_fault 61 = .ok (.aload_n 0, 1) := by decide +kernel
theorem dX6_fault_62 : decode cX6_fault 62 = .ok (.getfield 29, 3) := by decide +kernel
theorem dX6_fault_65 : decode cX6_fault 65 = .ok (.getfield 190, 3) := by decide +kernel
theorem dX6_fault_68 : decode cX6_fault 68 = .ok (.ireturn, 1) := by decide +kernel
theorem dX6_play_0 : decode cX6_play 0 = .ok (.aload_n 0, 1) := by decide +kernel
theorem dX6_play_1 : decode cX6_play 1 = .ok (.getfield 16, 3) := by decide +kernel
theorem dX6_play_4 : decode cX6_play 4 = .ok (.aload_n 0, 1) := by decide +kernel
theorem dX6_play_5 : decode cX6_play 5 = .ok (.getfield 10, 3) := by decide +kernel
theorem dX6_play_8 : decode cX6_play 8 = .ok (.invokevirtual 154, 3) := by decide +kernel
theorem dX6_play_11 : decode cX6_play 11 = .ok (.aload_n 0, 1) := by decide +kernel
theorem dX6_play_12 : decode cX6_play 12 = .ok (.getfield 29, 3) := by decide +kernel
theorem dX6_play_15 : decode cX6_play 15 = .ok (.aload_n 0, 1) := by decide +kernel
theorem dX6_play_16 : decode cX6_play 16 = .ok (.getfield 16, 3) := by decide +kernel
theorem dX6_play_19 : decode cX6_play 19 = .ok (.invokevirtual 187, 3) := by decide +kernel
theorem dX6_play_22 : decode cX6_play 22 = .ok (.aload_n 0, 1) := by decide +kernel
theorem dX6_play_23 : decode cX6_play 23 = .ok (.getfield 29, 3) := by decide +kernel
theorem dX6_play_26 : decode cX6_play 26 = .ok (.getfield 190, 3) := by decide +kernel
theorem dX6_play_29 : decode cX6_play 29 = .ok (.ifCond .eq 6, 3) := by decide +kernel
theorem dX6_play_32 : decode cX6_play 32 = .ok (.ldc 153, 2) := by decide +kernel
theorem dX6_play_34 : decode cX6_play 34 = .ok (.ireturn, 1) := by decide +kernel
theorem dX6_play_35 : decode cX6_play 35 = .ok (.aload_n 0, 1) := by decide +kernel
theorem dX6_play_36 : decode cX6_play 36 = .ok (.getfield 22, 3) := by decide +kernel
theorem dX6_play_39 : decode cX6_play 39 = .ok (.aload_n 0, 1) := by decide +kernel
theorem dX6_play_40 : decode cX6_play 40 = .ok (.getfield 10, 3) := by decide +kernel
theorem dX6_play_43 : decode cX6_play 43 = .ok (.invokevirtual 33, 3) := by decide +kernel
theorem dX6_play_46 : decode cX6_play 46 = .ok (.aload_n 0, 1) := by decide +kernel
theorem dX6_play_47 : decode cX6_play 47 = .ok (.getfield 10, 3) := by decide +kernel
theorem dX6_play_50 : decode cX6_play 50 = .ok (.aload_n 0, 1) := by decide +kernel
theorem dX6_play_51 : decode cX6_play 51 = .ok (.getfield 16, 3) := by decide +kernel
theorem dX6_play_54 : decode cX6_play 54 = .ok (.invokevirtual 154, 3) := by decide +kernel
theorem dX6_play_57 : decode cX6_play 57 = .ok (.aload_n 0, 1) := by decide +kernel
theorem dX6_play_58 : decode cX6_play 58 = .ok (.getfield 22, 3) := by decide +kernel
theorem dX6_play_61 : decode cX6_play 61 = .ok (.aload_n 0, 1) := by decide +kernel
theorem dX6_play_62 : decode cX6_play 62 = .ok (.getfield 29, 3) := by decide +kernel
theorem dX6_play_65 : decode cX6_play 65 = .ok (.getfield 196, 3) := by decide +kernel
theorem dX6_play_68 : decode cX6_play 68 = .ok (.invokevirtual 41, 3) := by decide +kernel
theorem dX6_play_71 : decode cX6_play 71 = .ok (.ireturn, 1) := by decide +kernel
theorem dX6_groundBy_0 : decode cX6_groundBy 0 = .ok (.aload_n 0, 1) := by decide +kernel
theorem dX6_groundBy_1 : decode cX6_groundBy 1 = .ok (.getfield 16, 3) := by decide +kernel
theorem dX6_groundBy_4 : decode cX6_groundBy 4 = .ok (.aload_n 0, 1) := by decide +kernel
theorem dX6_groundBy_5 : decode cX6_groundBy 5 = .ok (.getfield 10, 3) := by decide +kernel
theorem dX6_groundBy_8 : decode cX6_groundBy 8 = .ok (.invokevirtual 154, 3) := by decide +kernel
theorem dX6_groundBy_11 : decode cX6_groundBy 11 = .ok (.aload_n 0, 1) := by decide +kernel
theorem dX6_groundBy_12 : decode cX6_groundBy 12 = .ok (.getfield 16, 3) := by decide +kernel
theorem dX6_groundBy_15 : decode cX6_groundBy 15 = .ok (.iload_n 1, 1) := by decide +kernel
theorem dX6_groundBy_16 : decode cX6_groundBy 16 = .ok (.putfield 199, 3) := by decide +kernel
theorem dX6_groundBy_19 : decode cX6_groundBy 19 = .ok (.iconst 0, 1) := by decide +kernel
theorem dX6_groundBy_20 : decode cX6_groundBy 20 = .ok (.istore_n 3, 1) := by decide +kernel
theorem dX6_groundBy_21 : decode cX6_groundBy 21 = .ok (.iload_n 3, 1) := by decide +kernel
theorem dX6_groundBy_22 : decode cX6_groundBy 22 = .ok (.iload_n 2, 1) := by decide +kernel
theorem dX6_groundBy_23 : decode cX6_groundBy 23 = .ok (.if_icmp .ge 16, 3) := by decide +kernel
theorem dX6_groundBy_26 : decode cX6_groundBy 26 = .ok (.aload_n 0, 1) := by decide +kernel
theorem dX6_groundBy_27 : decode cX6_groundBy 27 = .ok (.getfield 16, 3) := by decide +kernel
theorem dX6_groundBy_30 : decode cX6_groundBy 30 = .ok (.invokevirtual 157, 3) := by decide +kernel
theorem dX6_groundBy_33 : decode cX6_groundBy 33 = .ok (.iinc 3 1, 3) := by decide +kernel
theorem dX6_groundBy_36 : decode cX6_groundBy 36 = .ok (.goto (-15), 3) := by decide +kernel
theorem dX6_groundBy_39 : decode cX6_groundBy 39 = .ok (.aload_n 0, 1) := by decide +kernel
theorem dX6_groundBy_40 : decode cX6_groundBy 40 = .ok (.getfield 16, 3) := by decide +kernel
theorem dX6_groundBy_43 : decode cX6_groundBy 43 = .ok (.getfield 202, 3) := by decide +kernel
theorem dX6_groundBy_46 : decode cX6_groundBy 46 = .ok (.aload_n 0, 1) := by decide +kernel
theorem dX6_groundBy_47 : decode cX6_groundBy 47 = .ok (.getfield 10, 3) := by decide +kernel
theorem dX6_groundBy_50 : decode cX6_groundBy 50 = .ok (.getfield 202, 3) := by decide +kernel
theorem dX6_groundBy_53 : decode cX6_groundBy 53 = .ok (.isub, 1) := by decide +kernel
theorem dX6_groundBy_54 : decode cX6_groundBy 54 = .ok (.ireturn, 1) := by decide +kernel
theorem dX6_within_0 : decode cX6_within 0 = .ok (.iload_n 0, 1) := by decide +kernel
theorem dX6_within_1 : decode cX6_within 1 = .ok (.iload_n 1, 1) := by decide +kernel
theorem dX6_within_2 : decode cX6_within 2 = .ok (.if_icmp .lt 12, 3) := by decide +kernel
theorem dX6_within_5 : decode cX6_within 5 = .ok (.iload_n 0, 1) := by decide +kernel
theorem dX6_within_6 : decode cX6_within 6 = .ok (.iload_n 2, 1) := by decide +kernel
theorem dX6_within_7 : decode cX6_within 7 = .ok (.if_icmp .gt 7, 3) := by decide +kernel
theorem dX6_within_10 : decode cX6_within 10 = .ok (.iconst 1, 1) := by decide +kernel
theorem dX6_within_11 : decode cX6_within 11 = .ok (.goto 4, 3) := by decide +kernel
theorem dX6_within_14 : decode cX6_within 14 = .ok (.iconst 0, 1) := by decide +kernel
theorem dX6_within_15 : decode cX6_within 15 = .ok (.ireturn, 1) := by decide +kernel
theorem dX6_quotient_0 : decode cX6_quotient 0 = .ok (.iload_n 1, 1) := by decide +kernel
theorem dX6_quotient_1 : decode cX6_quotient 1 = .ok (.ifCond .le 9, 3) := by decide +kernel
theorem dX6_quotient_4 : decode cX6_quotient 4 = .ok (.iload_n 0, 1) := by decide +kernel
theorem dX6_quotient_5 : decode cX6_quotient 5 = .ok (.iload_n 1, 1) := by decide +kernel
theorem dX6_quotient_6 : decode cX6_quotient 6 = .ok (.idiv, 1) := by decide +kernel
theorem dX6_quotient_7 : decode cX6_quotient 7 = .ok (.goto 4, 3) := by decide +kernel
theorem dX6_quotient_10 : decode cX6_quotient 10 = .ok (.iconst 0, 1) := by decide +kernel
theorem dX6_quotient_11 : decode cX6_quotient 11 = .ok (.ireturn, 1) := by decide +kernel
