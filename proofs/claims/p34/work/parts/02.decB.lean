theorem dX4_init_0 : decode cX4_init 0 = .ok (.aload_n 0, 1) := by decide +kernel
theorem dX4_init_1 : decode cX4_init 1 = .ok (.invokespecial 3, 3) := by decide +kernel
theorem dX4_init_4 : decode cX4_init 4 = .ok (.aload_n 0, 1) := by decide +kernel
theorem dX4_init_5 : decode cX4_init 5 = .ok (.bipush 60, 2) := by decide +kernel
theorem dX4_init_7 : decode cX4_init 7 = .ok (.newarray .char, 2) := by decide +kernel
theorem dX4_init_9 : decode cX4_init 9 = .ok (.putfield 9, 3) := by decide +kernel
theorem dX4_init_12 : decode cX4_init 12 = .ok (.aload_n 0, 1) := by decide +kernel
theorem dX4_init_13 : decode cX4_init 13 = .ok (.iconst 3, 1) := by decide +kernel
theorem dX4_init_14 : decode cX4_init 14 = .ok (.newarray .int, 2) := by decide +kernel
theorem dX4_init_16 : decode cX4_init 16 = .ok (.putfield 15, 3) := by decide +kernel
theorem dX4_init_19 : decode cX4_init 19 = .ok (.return_, 1) := by decide +kernel
theorem dX5_init_0 : decode cX5_init 0 = .ok (.aload_n 0, 1) := by decide +kernel
theorem dX5_init_1 : decode cX5_init 1 = .ok (.invokespecial 3, 3) := by decide +kernel
theorem dX5_init_4 : decode cX5_init 4 = .ok (.return_, 1) := by decide +kernel
theorem dX5_takeFrom_0 : decode cX5_takeFrom 0 = .ok (.aload_n 0, 1) := by decide +kernel
theorem dX5_takeFrom_1 : decode cX5_takeFrom 1 = .ok (.aload_n 1, 1) := by decide +kernel
theorem dX5_takeFrom_2 : decode cX5_takeFrom 2 = .ok (.getfield 9, 3) := by decide +kernel
theorem dX5_takeFrom_5 : decode cX5_takeFrom 5 = .ok (.putfield 9, 3) := by decide +kernel
theorem dX5_takeFrom_8 : decode cX5_takeFrom 8 = .ok (.aload_n 0, 1) := by decide +kernel
theorem dX5_takeFrom_9 : decode cX5_takeFrom 9 = .ok (.aload_n 1, 1) := by decide +kernel
theorem dX5_takeFrom_10 : decode cX5_takeFrom 10 = .ok (.getfield 15, 3) := by decide +kernel
theorem dX5_takeFrom_13 : decode cX5_takeFrom 13 = .ok (.putfield 15, 3) := by decide +kernel
theorem dX5_takeFrom_16 : decode cX5_takeFrom 16 = .ok (.aload_n 0, 1) := by decide +kernel
theorem dX5_takeFrom_17 : decode cX5_takeFrom 17 = .ok (.aload_n 1, 1) := by decide +kernel
theorem dX5_takeFrom_18 : decode cX5_takeFrom 18 = .ok (.getfield 18, 3) := by decide +kernel
theorem dX5_takeFrom_21 : decode cX5_takeFrom 21 = .ok (.putfield 18, 3) := by decide +kernel
theorem dX5_takeFrom_24 : decode cX5_takeFrom 24 = .ok (.aload_n 0, 1) := by decide +kernel
theorem dX5_takeFrom_25 : decode cX5_takeFrom 25 = .ok (.aload_n 1, 1) := by decide +kernel
theorem dX5_takeFrom_26 : decode cX5_takeFrom 26 = .ok (.getfield 21, 3) := by decide +kernel
theorem dX5_takeFrom_29 : decode cX5_takeFrom 29 = .ok (.putfield 21, 3) := by decide +kernel
theorem dX5_takeFrom_32 : decode cX5_takeFrom 32 = .ok (.aload_n 0, 1) := by decide +kernel
theorem dX5_takeFrom_33 : decode cX5_takeFrom 33 = .ok (.aload_n 1, 1) := by decide +kernel
theorem dX5_takeFrom_34 : decode cX5_takeFrom 34 = .ok (.getfield 24, 3) := by decide +kernel
theorem dX5_takeFrom_37 : decode cX5_takeFrom 37 = .ok (.putfield 24, 3) := by decide +kernel
theorem dX5_takeFrom_40 : decode cX5_takeFrom 40 = .ok (.aload_n 0, 1) := by decide +kernel
theorem dX5_takeFrom_41 : decode cX5_takeFrom 41 = .ok (.aload_n 1, 1) := by decide +kernel
theorem dX5_takeFrom_42 : decode cX5_takeFrom 42 = .ok (.getfield 27, 3) := by decide +kernel
theorem dX5_takeFrom_45 : decode cX5_takeFrom 45 = .ok (.putfield 27, 3) := by decide +kernel
theorem dX5_takeFrom_48 : decode cX5_takeFrom 48 = .ok (.aload_n 0, 1) := by decide +kernel
theorem dX5_takeFrom_49 : decode cX5_takeFrom 49 = .ok (.aload_n 1, 1) := by decide +kernel
theorem dX5_takeFrom_50 : decode cX5_takeFrom 50 = .ok (.getfield 30, 3) := by decide +kernel
theorem dX5_takeFrom_53 : decode cX5_takeFrom 53 = .ok (.putfield 30, 3) := by decide +kernel
theorem dX5_takeFrom_56 : decode cX5_takeFrom 56 = .ok (.aload_n 0, 1) := by decide +kernel
theorem dX5_takeFrom_57 : decode cX5_takeFrom 57 = .ok (.aload_n 1, 1) := by decide +kernel
theorem dX5_takeFrom_58 : decode cX5_takeFrom 58 = .ok (.getfield 33, 3) := by decide +kernel
theorem dX5_takeFrom_61 : decode cX5_takeFrom 61 = .ok (.putfield 33, 3) := by decide +kernel
theorem dX5_takeFrom_64 : decode cX5_takeFrom 64 = .ok (.aload_n 0, 1) := by decide +kernel
theorem dX5_takeFrom_65 : decode cX5_takeFrom 65 = .ok (.aload_n 1, 1) := by decide +kernel
theorem dX5_takeFrom_66 : decode cX5_takeFrom 66 = .ok (.getfield 36, 3) := by decide +kernel
theorem dX5_takeFrom_69 : decode cX5_takeFrom 69 = .ok (.putfield 36, 3) := by decide +kernel
theorem dX5_takeFrom_72 : decode cX5_takeFrom 72 = .ok (.aload_n 0, 1) := by decide +kernel
theorem dX5_takeFrom_73 : decode cX5_takeFrom 73 = .ok (.aload_n 1, 1) := by decide +kernel
theorem dX5_takeFrom_74 : decode cX5_takeFrom 74 = .ok (.getfield 39, 3) := by decide +kernel
theorem dX5_takeFrom_77 : decode cX5_takeFrom 77 = .ok (.putfield 39, 3) := by decide +kernel
theorem dX5_takeFrom_80 : decode cX5_takeFrom 80 = .ok (.aload_n 0, 1) := by decide +kernel
theorem dX5_takeFrom_81 : decode cX5_takeFrom 81 = .ok (.aload_n 1, 1) := by decide +kernel
theorem dX5_takeFrom_82 : decode cX5_takeFrom 82 = .ok (.getfield 42, 3) := by decide +kernel
theorem dX5_takeFrom_85 : decode cX5_takeFrom 85 = .ok (.putfield 42, 3) := by decide +kernel
theorem dX5_takeFrom_88 : decode cX5_takeFrom 88 = .ok (.aload_n 0, 1) := by decide +kernel
theorem dX5_takeFrom_89 : decode cX5_takeFrom 89 = .ok (.aload_n 1, 1) := by decide +kernel
theorem dX5_takeFrom_90 : decode cX5_takeFrom 90 = .ok (.getfield 45, 3) := by decide +kernel
theorem dX5_takeFrom_93 : decode cX5_takeFrom 93 = .ok (.putfield 45, 3) := by decide +kernel
theorem dX5_takeFrom_96 : decode cX5_takeFrom 96 = .ok (.aload_n 0, 1) := by decide +kernel
theorem dX5_takeFrom_97 : decode cX5_takeFrom 97 = .ok (.aload_n 1, 1) := by decide +kernel
theorem dX5_takeFrom_98 : decode cX5_takeFrom 98 = .ok (.getfield 48, 3) := by decide +kernel
theorem dX5_takeFrom_101 : decode cX5_takeFrom 101 = .ok (.putfield 48, 3) := by decide +kernel
theorem dX5_takeFrom_104 : decode cX5_takeFrom 104 = .ok (.aload_n 0, 1) := by decide +kernel
theorem dX5_takeFrom_105 : decode cX5_takeFrom 105 = .ok (.aload_n 1, 1) := by decide +kernel
theorem dX5_takeFrom_106 : decode cX5_takeFrom 106 = .ok (.getfield 51, 3) := by decide +kernel
theorem dX5_takeFrom_109 : decode cX5_takeFrom 109 = .ok (.putfield 51, 3) := by decide +kernel
theorem dX5_takeFrom_112 : decode cX5_takeFrom 112 = .ok (.aload_n 0, 1) := by decide +kernel
theorem dX5_takeFrom_113 : decode cX5_takeFrom 113 = .ok (.aload_n 1, 1) := by decide +kernel
theorem dX5_takeFrom_114 : decode cX5_takeFrom 114 = .ok (.getfield 54, 3) := by decide +kernel
theorem dX5_takeFrom_117 : decode cX5_takeFrom 117 = .ok (.putfield 54, 3) := by decide +kernel
theorem dX5_takeFrom_120 : decode cX5_takeFrom 120 = .ok (.aload_n 0, 1) := by decide +kernel
theorem dX5_takeFrom_121 : decode cX5_takeFrom 121 = .ok (.aload_n 1, 1) := by decide +kernel
theorem dX5_takeFrom_122 : decode cX5_takeFrom 122 = .ok (.getfield 57, 3) := by decide +kernel
theorem dX5_takeFrom_125 : decode cX5_takeFrom 125 = .ok (.putfield 57, 3) := by decide +kernel
theorem dX5_takeFrom_128 : decode cX5_takeFrom 128 = .ok (.aload_n 0, 1) := by decide +kernel
theorem dX5_takeFrom_129 : decode cX5_takeFrom 129 = .ok (.aload_n 1, 1) := by decide +kernel
theorem dX5_takeFrom_130 : decode cX5_takeFrom 130 = .ok (.getfield 60, 3) := by decide +kernel
theorem dX5_takeFrom_133 : decode cX5_takeFrom 133 = .ok (.putfield 60, 3) := by decide +kernel
theorem dX5_takeFrom_136 : decode cX5_takeFrom 136 = .ok (.return_, 1) := by decide +kernel
theorem dX5_begin_0 : decode cX5_begin 0 = .ok (.aload_n 0, 1) := by decide +kernel
theorem dX5_begin_1 : decode cX5_begin 1 = .ok (.iload_n 1, 1) := by decide +kernel
theorem dX5_begin_2 : decode cX5_begin 2 = .ok (.putfield 9, 3) := by decide +kernel
theorem dX5_begin_5 : decode cX5_begin 5 = .ok (.aload_n 0, 1) := by decide +kernel
theorem dX5_begin_6 : decode cX5_begin 6 = .ok (.iload_n 2, 1) := by decide +kernel
theorem dX5_begin_7 : decode cX5_begin 7 = .ok (.putfield 15, 3) := by decide +kernel
theorem dX5_begin_10 : decode cX5_begin 10 = .ok (.aload_n 0, 1) := by decide +kernel
theorem dX5_begin_11 : decode cX5_begin 11 = .ok (.aload_n 3, 1) := by decide +kernel
theorem dX5_begin_12 : decode cX5_begin 12 = .ok (.getfield 63, 3) := by decide +kernel
theorem dX5_begin_15 : decode cX5_begin 15 = .ok (.putfield 18, 3) := by decide +kernel
theorem dX5_begin_18 : decode cX5_begin 18 = .ok (.aload_n 0, 1) := by decide +kernel
theorem dX5_begin_19 : decode cX5_begin 19 = .ok (.aload_n 3, 1) := by decide +kernel
theorem dX5_begin_20 : decode cX5_begin 20 = .ok (.getfield 66, 3) := by decide +kernel
theorem dX5_begin_23 : decode cX5_begin 23 = .ok (.putfield 21, 3) := by decide +kernel
theorem dX5_begin_26 : decode cX5_begin 26 = .ok (.aload_n 0, 1) := by decide +kernel
theorem dX5_begin_27 : decode cX5_begin 27 = .ok (.aload_n 3, 1) := by decide +kernel
theorem dX5_begin_28 : decode cX5_begin 28 = .ok (.getfield 67, 3) := by decide +kernel
theorem dX5_begin_31 : decode cX5_begin 31 = .ok (.putfield 24, 3) := by decide +kernel
theorem dX5_begin_34 : decode cX5_begin 34 = .ok (.aload_n 0, 1) := by decide +kernel
theorem dX5_begin_35 : decode cX5_begin 35 = .ok (.iload 4, 2) := by decide +kernel
theorem dX5_begin_37 : decode cX5_begin 37 = .ok (.putfield 27, 3) := by decide +kernel
theorem dX5_begin_40 : decode cX5_begin 40 = .ok (.aload_n 0, 1) := by decide +kernel
theorem dX5_begin_41 : decode cX5_begin 41 = .ok (.iconst 0, 1) := by decide +kernel
theorem dX5_begin_42 : decode cX5_begin 42 = .ok (.putfield 30, 3) := by decide +kernel
theorem dX5_begin_45 : decode cX5_begin 45 = .ok (.aload_n 0, 1) := by decide +kernel
theorem dX5_begin_46 : decode cX5_begin 46 = .ok (.iconst 0, 1) := by decide +kernel
theorem dX5_begin_47 : decode cX5_begin 47 = .ok (.putfield 33, 3) := by decide +kernel
theorem dX5_begin_50 : decode cX5_begin 50 = .ok (.aload_n 0, 1) := by decide +kernel
theorem dX5_begin_51 : decode cX5_begin 51 = .ok (.iconst 0, 1) := by decide +kernel
theorem dX5_begin_52 : decode cX5_begin 52 = .ok (.putfield 36, 3) := by decide +kernel
theorem dX5_begin_55 : decode cX5_begin 55 = .ok (.aload_n 0, 1) := by decide +kernel
theorem dX5_begin_56 : decode cX5_begin 56 = .ok (.iconst 0, 1) := by decide +kernel
theorem dX5_begin_57 : decode cX5_begin 57 = .ok (.putfield 39, 3) := by decide +kernel
theorem dX5_begin_60 : decode cX5_begin 60 = .ok (.aload_n 0, 1) := by decide +kernel
theorem dX5_begin_61 : decode cX5_begin 61 = .ok (.iconst 0, 1) := by decide +kernel
theorem dX5_begin_62 : decode cX5_begin 62 = .ok (.putfield 42, 3) := by decide +kernel
theorem dX5_begin_65 : decode cX5_begin 65 = .ok (.aload_n 0, 1) := by decide +kernel
theorem dX5_begin_66 : decode cX5_begin 66 = .ok (.invokevirtual 68, 3) := by decide +kernel
theorem dX5_begin_69 : decode cX5_begin 69 = .ok (.aload_n 0, 1) := by decide +kernel
theorem dX5_begin_70 : decode cX5_begin 70 = .ok (.iconst 0, 1) := by decide +kernel
theorem dX5_begin_71 : decode cX5_begin 71 = .ok (.putfield 57, 3) := by decide +kernel
theorem dX5_begin_74 : decode cX5_begin 74 = .ok (.aload_n 0, 1) := by decide +kernel
theorem dX5_begin_75 : decode cX5_begin 75 = .ok (.iconst 0, 1) := by decide +kernel
theorem dX5_begin_76 : decode cX5_begin 76 = .ok (.putfield 60, 3) := by decide +kernel
theorem dX5_begin_79 : decode cX5_begin 79 = .ok (.return_, 1) := by decide +kernel
theorem dX5_addGround_0 : decode cX5_addGround 0 = .ok (.aload_n 0, 1) := by decide +kernel
theorem dX5_addGround_1 : decode cX5_addGround 1 = .ok (.dup, 1) := by decide +kernel
theorem dX5_addGround_2 : decode cX5_addGround 2 = .ok (.getfield 33, 3) := by decide +kernel
theorem dX5_addGround_5 : decode cX5_addGround 5 = .ok (.iload_n 1, 1) := by decide +kernel
theorem dX5_addGround_6 : decode cX5_addGround 6 = .ok (.iadd, 1) := by decide +kernel
theorem dX5_addGround_7 : decode cX5_addGround 7 = .ok (.putfield 33, 3) := by decide +kernel
theorem dX5_addGround_10 : decode cX5_addGround 10 = .ok (.aload_n 0, 1) := by decide +kernel
theorem dX5_addGround_11 : decode cX5_addGround 11 = .ok (.aload_n 0, 1) := by decide +kernel
theorem dX5_addGround_12 : decode cX5_addGround 12 = .ok (.getfield 33, 3) := by decide +kernel
theorem dX5_addGround_15 : decode cX5_addGround 15 = .ok (.aload_n 0, 1) := by decide +kernel
theorem dX5_addGround_16 : decode cX5_addGround 16 = .ok (.getfield 36, 3) := by decide +kernel
theorem dX5_addGround_19 : decode cX5_addGround 19 = .ok (.imul, 1) := by decide +kernel
theorem dX5_addGround_20 : decode cX5_addGround 20 = .ok (.bipush 100, 2) := by decide +kernel
theorem dX5_addGround_22 : decode cX5_addGround 22 = .ok (.idiv, 1) := by decide +kernel
theorem dX5_addGround_23 : decode cX5_addGround 23 = .ok (.putfield 39, 3) := by decide +kernel
theorem dX5_addGround_26 : decode cX5_addGround 26 = .ok (.aload_n 0, 1) := by decide +kernel
theorem dX5_addGround_27 : decode cX5_addGround 27 = .ok (.aload_n 0, 1) := by decide +kernel
theorem dX5_addGround_28 : decode cX5_addGround 28 = .ok (.getfield 33, 3) := by decide +kernel
theorem dX5_addGround_31 : decode cX5_addGround 31 = .ok (.aload_n 0, 1) := by decide +kernel
theorem dX5_addGround_32 : decode cX5_addGround 32 = .ok (.getfield 39, 3) := by decide +kernel
theorem dX5_addGround_35 : decode cX5_addGround 35 = .ok (.isub, 1) := by decide +kernel
theorem dX5_addGround_36 : decode cX5_addGround 36 = .ok (.aload_n 0, 1) := by decide +kernel
theorem dX5_addGround_37 : decode cX5_addGround 37 = .ok (.getfield 21, 3) := by decide +kernel
theorem dX5_addGround_40 : decode cX5_addGround 40 = .ok (.imul, 1) := by decide +kernel
theorem dX5_addGround_41 : decode cX5_addGround 41 = .ok (.bipush 100, 2) := by decide +kernel
theorem dX5_addGround_43 : decode cX5_addGround 43 = .ok (.idiv, 1) := by decide +kernel
theorem dX5_addGround_44 : decode cX5_addGround 44 = .ok (.putfield 42, 3) := by decide +kernel
theorem dX5_addGround_47 : decode cX5_addGround 47 = .ok (.aload_n 0, 1) := by decide +kernel
theorem dX5_addGround_48 : decode cX5_addGround 48 = .ok (.getfield 33, 3) := by decide +kernel
theorem dX5_addGround_51 : decode cX5_addGround 51 = .ok (.aload_n 0, 1) := by decide +kernel
theorem dX5_addGround_52 : decode cX5_addGround 52 = .ok (.getfield 27, 3) := by decide +kernel
theorem dX5_addGround_55 : decode cX5_addGround 55 = .ok (.if_icmp .lt 8, 3) := by decide +kernel
theorem dX5_addGround_58 : decode cX5_addGround 58 = .ok (.aload_n 0, 1) := by decide +kernel
theorem dX5_addGround_59 : decode cX5_addGround 59 = .ok (.iconst 2, 1) := by decide +kernel
theorem dX5_addGround_60 : decode cX5_addGround 60 = .ok (.putfield 30, 3) := by decide +kernel
theorem dX5_addGround_63 : decode cX5_addGround 63 = .ok (.return_, 1) := by decide +kernel
theorem dX5_endPledge_0 : decode cX5_endPledge 0 = .ok (.aload_n 0, 1) := by decide +kernel
theorem dX5_endPledge_1 : decode cX5_endPledge 1 = .ok (.iconst 0, 1) := by decide +kernel
theorem dX5_endPledge_2 : decode cX5_endPledge 2 = .ok (.putfield 45, 3) := by decide +kernel
theorem dX5_endPledge_5 : decode cX5_endPledge 5 = .ok (.aload_n 0, 1) := by decide +kernel
theorem dX5_endPledge_6 : decode cX5_endPledge 6 = .ok (.iconst 0, 1) := by decide +kernel
theorem dX5_endPledge_7 : decode cX5_endPledge 7 = .ok (.putfield 48, 3) := by decide +kernel
theorem dX5_endPledge_10 : decode cX5_endPledge 10 = .ok (.aload_n 0, 1) := by decide +kernel
theorem dX5_endPledge_11 : decode cX5_endPledge 11 = .ok (.iconst 0, 1) := by decide +kernel
theorem dX5_endPledge_12 : decode cX5_endPledge 12 = .ok (.putfield 51, 3) := by decide +kernel
theorem dX5_endPledge_15 : decode cX5_endPledge 15 = .ok (.aload_n 0, 1) := by decide +kernel
theorem dX5_endPledge_16 : decode cX5_endPledge 16 = .ok (.iconst 0, 1) := by decide +kernel
theorem dX5_endPledge_17 : decode cX5_endPledge 17 = .ok (.putfield 54, 3) := by decide +kernel
theorem dX5_endPledge_20 : decode cX5_endPledge 20 = .ok (.return_, 1) := by decide +kernel
theorem dX5_fall_0 : decode cX5_fall 0 = .ok (.aload_n 0, 1) := by decide +kernel
theorem dX5_fall_1 : decode cX5_fall 1 = .ok (.dup, 1) := by decide +kernel
theorem dX5_fall_2 : decode cX5_fall 2 = .ok (.getfield 57, 3) := by decide +kernel
theorem dX5_fall_5 : decode cX5_fall 5 = .ok (.aload_n 0, 1) := by decide +kernel
theorem dX5_fall_6 : decode cX5_fall 6 = .ok (.getfield 45, 3) := by decide +kernel
theorem dX5_fall_9 : decode cX5_fall 9 = .ok (.iadd, 1) := by decide +kernel
theorem dX5_fall_10 : decode cX5_fall 10 = .ok (.putfield 57, 3) := by decide +kernel
theorem dX5_fall_13 : decode cX5_fall 13 = .ok (.aload_n 0, 1) := by decide +kernel
theorem dX5_fall_14 : decode cX5_fall 14 = .ok (.invokevirtual 68, 3) := by decide +kernel
theorem dX5_fall_17 : decode cX5_fall 17 = .ok (.return_, 1) := by decide +kernel
theorem dX5_hasPledge_0 : decode cX5_hasPledge 0 = .ok (.aload_n 0, 1) := by decide +kernel
theorem dX5_hasPledge_1 : decode cX5_hasPledge 1 = .ok (.getfield 45, 3) := by decide +kernel
theorem dX5_hasPledge_4 : decode cX5_hasPledge 4 = .ok (.ifCond .le 7, 3) := by decide +kernel
theorem dX5_hasPledge_7 : decode cX5_hasPledge 7 = .ok (.iconst 1, 1) := by decide +kernel
theorem dX5_hasPledge_8 : decode cX5_hasPledge 8 = .ok (.goto 4, 3) := by decide +kernel
theorem dX5_hasPledge_11 : decode cX5_hasPledge 11 = .ok (.iconst 0, 1) := by decide +kernel
theorem dX5_hasPledge_12 : decode cX5_hasPledge 12 = .ok (.ireturn, 1) := by decide +kernel
theorem dX5_grain_0 : decode cX5_grain 0 = .ok (.aload_n 0, 1) := by decide +kernel
theorem dX5_grain_1 : decode cX5_grain 1 = .ok (.getfield 30, 3) := by decide +kernel
theorem dX5_grain_4 : decode cX5_grain 4 = .ok (.iconst 3, 1) := by decide +kernel
theorem dX5_grain_5 : decode cX5_grain 5 = .ok (.if_icmp .ne 7, 3) := by decide +kernel
theorem dX5_grain_8 : decode cX5_grain 8 = .ok (.iconst 0, 1) := by decide +kernel
theorem dX5_grain_9 : decode cX5_grain 9 = .ok (.goto 12, 3) := by decide +kernel
theorem dX5_grain_12 : decode cX5_grain 12 = .ok (.aload_n 0, 1) := by decide +kernel
theorem dX5_grain_13 : decode cX5_grain 13 = .ok (.getfield 27, 3) := by decide +kernel
theorem dX5_grain_16 : decode cX5_grain 16 = .ok (.aload_n 0, 1) := by decide +kernel
theorem dX5_grain_17 : decode cX5_grain 17 = .ok (.getfield 33, 3) := by decide +kernel
theorem dX5_grain_20 : decode cX5_grain 20 = .ok (.isub, 1) := by decide +kernel
theorem dX5_grain_21 : decode cX5_grain 21 = .ok (.ireturn, 1) := by decide +kernel
theorem dX5_flour_0 : decode cX5_flour 0 = .ok (.aload_n 0, 1) := by decide +kernel
theorem dX5_flour_1 : decode cX5_flour 1 = .ok (.getfield 30, 3) := by decide +kernel
theorem dX5_flour_4 : decode cX5_flour 4 = .ok (.iconst 3, 1) := by decide +kernel
theorem dX5_flour_5 : decode cX5_flour 5 = .ok (.if_icmp .ne 7, 3) := by decide +kernel
theorem dX5_flour_8 : decode cX5_flour 8 = .ok (.iconst 0, 1) := by decide +kernel
theorem dX5_flour_9 : decode cX5_flour 9 = .ok (.goto 27, 3) := by decide +kernel
theorem dX5_flour_12 : decode cX5_flour 12 = .ok (.aload_n 0, 1) := by decide +kernel
theorem dX5_flour_13 : decode cX5_flour 13 = .ok (.getfield 33, 3) := by decide +kernel
theorem dX5_flour_16 : decode cX5_flour 16 = .ok (.aload_n 0, 1) := by decide +kernel
theorem dX5_flour_17 : decode cX5_flour 17 = .ok (.getfield 39, 3) := by decide +kernel
theorem dX5_flour_20 : decode cX5_flour 20 = .ok (.isub, 1) := by decide +kernel
theorem dX5_flour_21 : decode cX5_flour 21 = .ok (.aload_n 0, 1) := by decide +kernel
theorem dX5_flour_22 : decode cX5_flour 22 = .ok (.getfield 42, 3) := by decide +kernel
theorem dX5_flour_25 : decode cX5_flour 25 = .ok (.isub, 1) := by decide +kernel
theorem dX5_flour_26 : decode cX5_flour 26 = .ok (.aload_n 0, 1) := by decide +kernel
theorem dX5_flour_27 : decode cX5_flour 27 = .ok (.getfield 45, 3) := by decide +kernel
theorem dX5_flour_30 : decode cX5_flour 30 = .ok (.isub, 1) := by decide +kernel
theorem dX5_flour_31 : decode cX5_flour 31 = .ok (.aload_n 0, 1) := by decide +kernel
theorem dX5_flour_32 : decode cX5_flour 32 = .ok (.getfield 57, 3) := by decide +kernel
theorem dX5_flour_35 : decode cX5_flour 35 = .ok (.isub, 1) := by decide +kernel
theorem dX5_flour_36 : decode cX5_flour 36 = .ok (.ireturn, 1) := by decide +kernel
theorem dX5_isOf_0 : decode cX5_isOf 0 = .ok (.iload_n 1, 1) := by decide +kernel
theorem dX5_isOf_1 : decode cX5_isOf 1 = .ok (.iconst (-1), 1) := by decide +kernel
theorem dX5_isOf_2 : decode cX5_isOf 2 = .ok (.if_icmp .eq 11, 3) := by decide +kernel
theorem dX5_isOf_5 : decode cX5_isOf 5 = .ok (.iload_n 1, 1) := by decide +kernel
theorem dX5_isOf_6 : decode cX5_isOf 6 = .ok (.aload_n 0, 1) := by decide +kernel
theorem dX5_isOf_7 : decode cX5_isOf 7 = .ok (.getfield 9, 3) := by decide +kernel
theorem dX5_isOf_10 : decode cX5_isOf 10 = .ok (.if_icmp .ne 20, 3) := by decide +kernel
theorem dX5_isOf_13 : decode cX5_isOf 13 = .ok (.iload_n 2, 1) := by decide +kernel
theorem dX5_isOf_14 : decode cX5_isOf 14 = .ok (.iconst (-1), 1) := by decide +kernel
theorem dX5_isOf_15 : decode cX5_isOf 15 = .ok (.if_icmp .eq 11, 3) := by decide +kernel
theorem dX5_isOf_18 : decode cX5_isOf 18 = .ok (.iload_n 2, 1) := by decide +kernel
theorem dX5_isOf_19 : decode cX5_isOf 19 = .ok (.aload_n 0, 1) := by decide +kernel
theorem dX5_isOf_20 : decode cX5_isOf 20 = .ok (.getfield 15, 3) := by decide +kernel
theorem dX5_isOf_23 : decode cX5_isOf 23 = .ok (.if_icmp .ne 7, 3) := by decide +kernel
theorem dX5_isOf_26 : decode cX5_isOf 26 = .ok (.iconst 1, 1) := by decide +kernel
theorem dX5_isOf_27 : decode cX5_isOf 27 = .ok (.goto 4, 3) := by decide +kernel
theorem dX5_isOf_30 : decode cX5_isOf 30 = .ok (.iconst 0, 1) := by decide +kernel
theorem dX5_isOf_31 : decode cX5_isOf 31 = .ok (.ireturn, 1) := by decide +kernel
theorem dX5_tell_0 : decode cX5_tell 0 = .ok (.iload_n 1, 1) := by decide +kernel
theorem dX5_tell_1 : decode cX5_tell 1 = .ok (.tableswitch 105 0 9 #[55, 60, 65, 70, 75, 80, 85, 90, 95, 100], 55) := by decide +kernel
theorem dX5_tell_56 : decode cX5_tell 56 = .ok (.aload_n 0, 1) := by decide +kernel
theorem dX5_tell_57 : decode cX5_tell 57 = .ok (.getfield 9, 3) := by decide +kernel
theorem dX5_tell_60 : decode cX5_tell 60 = .ok (.ireturn, 1) := by decide +kernel
theorem dX5_tell_61 : decode cX5_tell 61 = .ok (.aload_n 0, 1) := by decide +kernel
theorem dX5_tell_62 : decode cX5_tell 62 = .ok (.getfield 15, 3) := by decide +kernel
theorem dX5_tell_65 : decode cX5_tell 65 = .ok (.ireturn, 1) := by decide +kernel
theorem dX5_tell_66 : decode cX5_tell 66 = .ok (.aload_n 0, 1) := by decide +kernel
theorem dX5_tell_67 : decode cX5_tell 67 = .ok (.getfield 27, 3) := by decide +kernel
theorem dX5_tell_70 : decode cX5_tell 70 = .ok (.ireturn, 1) := by decide +kernel
theorem dX5_tell_71 : decode cX5_tell 71 = .ok (.aload_n 0, 1) := by decide +kernel
theorem dX5_tell_72 : decode cX5_tell 72 = .ok (.getfield 30, 3) := by decide +kernel
theorem dX5_tell_75 : decode cX5_tell 75 = .ok (.ireturn, 1) := by decide +kernel
theorem dX5_tell_76 : decode cX5_tell 76 = .ok (.aload_n 0, 1) := by decide +kernel
theorem dX5_tell_77 : decode cX5_tell 77 = .ok (.invokevirtual 71, 3) := by decide +kernel
theorem dX5_tell_80 : decode cX5_tell 80 = .ok (.ireturn, 1) := by decide +kernel
theorem dX5_tell_81 : decode cX5_tell 81 = .ok (.aload_n 0, 1) := by decide +kernel
theorem dX5_tell_82 : decode cX5_tell 82 = .ok (.invokevirtual 75, 3) := by decide +kernel
theorem dX5_tell_85 : decode cX5_tell 85 = .ok (.ireturn, 1) := by decide +kernel
theorem dX5_tell_86 : decode cX5_tell 86 = .ok (.aload_n 0, 1) := by decide +kernel
theorem dX5_tell_87 : decode cX5_tell 87 = .ok (.getfield 39, 3) := by decide +kernel
theorem dX5_tell_90 : decode cX5_tell 90 = .ok (.ireturn, 1) := by decide +kernel
theorem dX5_tell_91 : decode cX5_tell 91 = .ok (.aload_n 0, 1) := by decide +kernel
theorem dX5_tell_92 : decode cX5_tell 92 = .ok (.getfield 42, 3) := by decide +kernel
theorem dX5_tell_95 : decode cX5_tell 95 = .ok (.ireturn, 1) := by decide +kernel
theorem dX5_tell_96 : decode cX5_tell 96 = .ok (.aload_n 0, 1) := by decide +kernel
theorem dX5_tell_97 : decode cX5_tell 97 = .ok (.getfield 45, 3) := by decide +kernel
theorem dX5_tell_100 : decode cX5_tell 100 = .ok (.ireturn, 1) := by decide +kernel
theorem dX5_tell_101 : decode cX5_tell 101 = .ok (.aload_n 0, 1) := by decide +kernel
theorem dX5_tell_102 : decode cX5_tell 102 = .ok (.getfield 57, 3) := by decide +kernel
theorem dX5_tell_105 : decode cX5_tell 105 = .ok (.ireturn, 1) := by decide +kernel
theorem dX5_tell_106 : decode cX5_tell 106 = .ok (.aload_n 0, 1) := by decide +kernel
theorem dX5_tell_107 : decode cX5_tell 107 = .ok (.getfield 60, 3) := by decide +kernel
theorem dX5_tell_110 : decode cX5_tell 110 = .ok (.ireturn, 1) := by decide +kernel
theorem dX6_init_0 : decode cX6_init 0 = .ok (.aload_n 0, 1) := by decide +kernel
theorem dX6_init_1 : decode cX6_init 1 = .ok (.invokespecial 1, 3) := by decide +kernel
theorem dX6_init_4 : decode cX6_init 4 = .ok (.aload_n 0, 1) := by decide +kernel
theorem dX6_init_5 : decode cX6_init 5 = .ok (.new 7, 3) := by decide +kernel
theorem dX6_init_8 : decode cX6_init 8 = .ok (.dup, 1) := by decide +kernel
theorem dX6_init_9 : decode cX6_init 9 = .ok (.invokespecial 9, 3) := by decide +kernel
theorem dX6_init_12 : decode cX6_init 12 = .ok (.putfield 10, 3) := by decide +kernel
theorem dX6_init_15 : decode cX6_init 15 = .ok (.aload_n 0, 1) := by decide +kernel
theorem dX6_init_16 : decode cX6_init 16 = .ok (.new 7, 3) := by decide +kernel
theorem dX6_init_19 : decode cX6_init 19 = .ok (.dup, 1) := by decide +kernel
theorem dX6_init_20 : decode cX6_init 20 = .ok (.invokespecial 9, 3) := by decide +kernel
theorem dX6_init_23 : decode cX6_init 23 = .ok (.putfield 16, 3) := by decide +kernel
theorem dX6_init_26 : decode cX6_init 26 = .ok (.aload_n 0, 1) := by decide +kernel
theorem dX6_init_27 : decode cX6_init 27 = .ok (.new 19, 3) := by decide +kernel
theorem dX6_init_30 : decode cX6_init 30 = .ok (.dup, 1) := by decide +kernel
theorem dX6_init_31 : decode cX6_init 31 = .ok (.invokespecial 21, 3) := by decide +kernel
theorem dX6_init_34 : decode cX6_init 34 = .ok (.putfield 22, 3) := by decide +kernel
theorem dX6_init_37 : decode cX6_init 37 = .ok (.aload_n 0, 1) := by decide +kernel
theorem dX6_init_38 : decode cX6_init 38 = .ok (.new 26, 3) := by decide +kernel
theorem dX6_init_41 : decode cX6_init 41 = .ok (.dup, 1) := by decide +kernel
theorem dX6_init_42 : decode cX6_init 42 = .ok (.invokespecial 28, 3) := by decide +kernel
theorem dX6_init_45 : decode cX6_init 45 = .ok (.putfield 29, 3) := by decide +kernel
theorem dX6_init_48 : decode cX6_init 48 = .ok (.return_, 1) := by decide +kernel
theorem dX6_set_0 : decode cX6_set 0 = .ok (.aload_n 0, 1) := by decide +kernel
theorem dX6_set_1 : decode cX6_set 1 = .ok (.getfield 22, 3) := by decide +kernel
theorem dX6_set_4 : decode cX6_set 4 = .ok (.aload_n 0, 1) := by decide +kernel
theorem dX6_set_5 : decode cX6_set 5 = .ok (.getfield 10, 3) := by decide +kernel
theorem dX6_set_8 : decode cX6_set 8 = .ok (.invokevirtual 33, 3) := by decide +kernel
theorem dX6_set_11 : decode cX6_set 11 = .ok (.aload_n 0, 1) := by decide +kernel
theorem dX6_set_12 : decode cX6_set 12 = .ok (.getfield 22, 3) := by decide +kernel
theorem dX6_set_15 : decode cX6_set 15 = .ok (.aload_n 0, 1) := by decide +kernel
theorem dX6_set_16 : decode cX6_set 16 = .ok (.getfield 10, 3) := by decide +kernel
theorem dX6_set_19 : decode cX6_set 19 = .ok (.iload_n 1, 1) := by decide +kernel
theorem dX6_set_20 : decode cX6_set 20 = .ok (.iload_n 2, 1) := by decide +kernel
theorem dX6_set_21 : decode cX6_set 21 = .ok (.invokevirtual 37, 3) := by decide +kernel
theorem dX6_set_24 : decode cX6_set 24 = .ok (.invokevirtual 41, 3) := by decide +kernel
theorem dX6_set_27 : decode cX6_set 27 = .ok (.ireturn, 1) := by decide +kernel
theorem dX6_lock_0 : decode cX6_lock 0 = .ok (.aload_n 0, 1) := by decide +kernel
theorem dX6_lock_1 : decode cX6_lock 1 = .ok (.getfield 22, 3) := by decide +kernel
theorem dX6_lock_4 : decode cX6_lock 4 = .ok (.aload_n 0, 1) := by decide +kernel
theorem dX6_lock_5 : decode cX6_lock 5 = .ok (.getfield 10, 3) := by decide +kernel
theorem dX6_lock_8 : decode cX6_lock 8 = .ok (.invokevirtual 33, 3) := by decide +kernel
theorem dX6_lock_11 : decode cX6_lock 11 = .ok (.aload_n 0, 1) := by decide +kernel
theorem dX6_lock_12 : decode cX6_lock 12 = .ok (.getfield 22, 3) := by decide +kernel
theorem dX6_lock_15 : decode cX6_lock 15 = .ok (.aload_n 0, 1) := by decide +kernel
theorem dX6_lock_16 : decode cX6_lock 16 = .ok (.getfield 10, 3) := by decide +kernel
theorem dX6_lock_19 : decode cX6_lock 19 = .ok (.iload_n 1, 1) := by decide +kernel
theorem dX6_lock_20 : decode cX6_lock 20 = .ok (.invokevirtual 48, 3) := by decide +kernel
theorem dX6_lock_23 : decode cX6_lock 23 = .ok (.invokevirtual 41, 3) := by decide +kernel
theorem dX6_lock_26 : decode cX6_lock 26 = .ok (.ireturn, 1) := by decide +kernel
theorem dX6_gate_0 : decode cX6_gate 0 = .ok (.aload_n 0, 1) := by decide +kernel
theorem dX6_gate_1 : decode cX6_gate 1 = .ok (.getfield 22, 3) := by decide +kernel
theorem dX6_gate_4 : decode cX6_gate 4 = .ok (.aload_n 0, 1) := by decide +kernel
theorem dX6_gate_5 : decode cX6_gate 5 = .ok (.getfield 10, 3) := by decide +kernel
theorem dX6_gate_8 : decode cX6_gate 8 = .ok (.invokevirtual 33, 3) := by decide +kernel
theorem dX6_gate_11 : decode cX6_gate 11 = .ok (.aload_n 0, 1) := by decide +kernel
theorem dX6_gate_12 : decode cX6_gate 12 = .ok (.getfield 22, 3) := by decide +kernel
theorem dX6_gate_15 : decode cX6_gate 15 = .ok (.aload_n 0, 1) := by decide +kernel
theorem dX6_gate_16 : decode cX6_gate 16 = .ok (.getfield 10, 3) := by decide +kernel
theorem dX6_gate_19 : decode cX6_gate 19 = .ok (.iload_n 1, 1) := by decide +kernel
theorem dX6_gate_20 : decode cX6_gate 20 = .ok (.invokevirtual 51, 3) := by decide +kernel
theorem dX6_gate_23 : decode cX6_gate 23 = .ok (.invokevirtual 41, 3) := by decide +kernel
theorem dX6_gate_26 : decode cX6_gate 26 = .ok (.ireturn, 1) := by decide +kernel
theorem dX6_kind_0 : decode cX6_kind 0 = .ok (.aload_n 0, 1) := by decide +kernel
theorem dX6_kind_1 : decode cX6_kind 1 = .ok (.getfield 22, 3) := by decide +kernel
theorem dX6_kind_4 : decode cX6_kind 4 = .ok (.aload_n 0, 1) := by decide +kernel
theorem dX6_kind_5 : decode cX6_kind 5 = .ok (.getfield 10, 3) := by decide +kernel
theorem dX6_kind_8 : decode cX6_kind 8 = .ok (.invokevirtual 33, 3) := by decide +kernel
theorem dX6_kind_11 : decode cX6_kind 11 = .ok (.aload_n 0, 1) := by decide +kernel
theorem dX6_kind_12 : decode cX6_kind 12 = .ok (.getfield 22, 3) := by decide +kernel
theorem dX6_kind_15 : decode cX6_kind 15 = .ok (.aload_n 0, 1) := by decide +kernel
theorem dX6_kind_16 : decode cX6_kind 16 = .ok (.getfield 10, 3) := by decide +kernel
theorem dX6_kind_19 : decode cX6_kind 19 = .ok (.iload_n 1, 1) := by decide +kernel
theorem dX6_kind_20 : decode cX6_kind 20 = .ok (.iload_n 2, 1) := by decide +kernel
theorem dX6_kind_21 : decode cX6_kind 21 = .ok (.iload_n 3, 1) := by decide +kernel
theorem dX6_kind_22 : decode cX6_kind 22 = .ok (.invokevirtual 54, 3) := by decide +kernel
theorem dX6_kind_25 : decode cX6_kind 25 = .ok (.invokevirtual 41, 3) := by decide +kernel
theorem dX6_kind_28 : decode cX6_kind 28 = .ok (.ireturn, 1) := by decide +kernel
theorem dX6_farmer_0 : decode cX6_farmer 0 = .ok (.aload_n 0, 1) := by decide +kernel
theorem dX6_farmer_1 : decode cX6_farmer 1 = .ok (.getfield 22, 3) := by decide +kernel
theorem dX6_farmer_4 : decode cX6_farmer 4 = .ok (.aload_n 0, 1) := by decide +kernel
theorem dX6_farmer_5 : decode cX6_farmer 5 = .ok (.getfield 10, 3) := by decide +kernel
theorem dX6_farmer_8 : decode cX6_farmer 8 = .ok (.invokevirtual 33, 3) := by decide +kernel
theorem dX6_farmer_11 : decode cX6_farmer 11 = .ok (.aload_n 0, 1) := by decide +kernel
theorem dX6_farmer_12 : decode cX6_farmer 12 = .ok (.getfield 22, 3) := by decide +kernel
theorem dX6_farmer_15 : decode cX6_farmer 15 = .ok (.aload_n 0, 1) := by decide +kernel
theorem dX6_farmer_16 : decode cX6_farmer 16 = .ok (.getfield 10, 3) := by decide +kernel
theorem dX6_farmer_19 : decode cX6_farmer 19 = .ok (.invokevirtual 58, 3) := by decide +kernel
theorem dX6_farmer_22 : decode cX6_farmer 22 = .ok (.invokevirtual 41, 3) := by decide +kernel
theorem dX6_farmer_25 : decode cX6_farmer 25 = .ok (.ireturn, 1) := by decide +kernel
theorem dX6_bring_0 : decode cX6_bring 0 = .ok (.aload_n 0, 1) := by decide +kernel
theorem dX6_bring_1 : decode cX6_bring 1 = .ok (.getfield 22, 3) := by decide +kernel
theorem dX6_bring_4 : decode cX6_bring 4 = .ok (.aload_n 0, 1) := by decide +kernel
theorem dX6_bring_5 : decode cX6_bring 5 = .ok (.getfield 10, 3) := by decide +kernel
theorem dX6_bring_8 : decode cX6_bring 8 = .ok (.invokevirtual 33, 3) := by decide +kernel
theorem dX6_bring_11 : decode cX6_bring 11 = .ok (.aload_n 0, 1) := by decide +kernel
theorem dX6_bring_12 : decode cX6_bring 12 = .ok (.getfield 22, 3) := by decide +kernel
theorem dX6_bring_15 : decode cX6_bring 15 = .ok (.aload_n 0, 1) := by decide +kernel
theorem dX6_bring_16 : decode cX6_bring 16 = .ok (.getfield 10, 3) := by decide +kernel
theorem dX6_bring_19 : decode cX6_bring 19 = .ok (.iload_n 1, 1) := by decide +kernel
theorem dX6_bring_20 : decode cX6_bring 20 = .ok (.iload_n 2, 1) := by decide +kernel
theorem dX6_bring_21 : decode cX6_bring 21 = .ok (.iload_n 3, 1) := by decide +kernel
theorem dX6_bring_22 : decode cX6_bring 22 = .ok (.invokevirtual 62, 3) := by decide +kernel
theorem dX6_bring_25 : decode cX6_bring 25 = .ok (.invokevirtual 41, 3) := by decide +kernel
theorem dX6_bring_28 : decode cX6_bring 28 = .ok (.ireturn, 1) := by decide +kernel
theorem dX6_withdraw_0 : decode cX6_withdraw 0 = .ok (.aload_n 0, 1) := by decide +kernel
theorem dX6_withdraw_1 : decode cX6_withdraw 1 = .ok (.getfield 22, 3) := by decide +kernel
theorem dX6_withdraw_4 : decode cX6_withdraw 4 = .ok (.aload_n 0, 1) := by decide +kernel
theorem dX6_withdraw_5 : decode cX6_withdraw 5 = .ok (.getfield 10, 3) := by decide +kernel
theorem dX6_withdraw_8 : decode cX6_withdraw 8 = .ok (.invokevirtual 33, 3) := by decide +kernel
theorem dX6_withdraw_11 : decode cX6_withdraw 11 = .ok (.aload_n 0, 1) := by decide +kernel
theorem dX6_withdraw_12 : decode cX6_withdraw 12 = .ok (.getfield 22, 3) := by decide +kernel
theorem dX6_withdraw_15 : decode cX6_withdraw 15 = .ok (.aload_n 0, 1) := by decide +kernel
theorem dX6_withdraw_16 : decode cX6_withdraw 16 = .ok (.getfield 10, 3) := by decide +kernel
theorem dX6_withdraw_19 : decode cX6_withdraw 19 = .ok (.iload_n 1, 1) := by decide +kernel
theorem dX6_withdraw_20 : decode cX6_withdraw 20 = .ok (.invokevirtual 65, 3) := by decide +kernel
theorem dX6_withdraw_23 : decode cX6_withdraw 23 = .ok (.invokevirtual 41, 3) := by decide +kernel
theorem dX6_withdraw_26 : decode cX6_withdraw 26 = .ok (.ireturn, 1) := by decide +kernel
theorem dX6_fetch_0 : decode cX6_fetch 0 = .ok (.aload_n 0, 1) := by decide +kernel
theorem dX6_fetch_1 : decode cX6_fetch 1 = .ok (.getfield 22, 3) := by decide +kernel
theorem dX6_fetch_4 : decode cX6_fetch 4 = .ok (.aload_n 0, 1) := by decide +kernel
theorem dX6_fetch_5 : decode cX6_fetch 5 = .ok (.getfield 10, 3) := by decide +kernel
theorem dX6_fetch_8 : decode cX6_fetch 8 = .ok (.invokevirtual 33, 3) := by decide +kernel
theorem dX6_fetch_11 : decode cX6_fetch 11 = .ok (.aload_n 0, 1) := by decide +kernel
theorem dX6_fetch_12 : decode cX6_fetch 12 = .ok (.getfield 22, 3) := by decide +kernel
theorem dX6_fetch_15 : decode cX6_fetch 15 = .ok (.aload_n 0, 1) := by decide +kernel
theorem dX6_fetch_16 : decode cX6_fetch 16 = .ok (.getfield 10, 3) := by decide +kernel
theorem dX6_fetch_19 : decode cX6_fetch 19 = .ok (.iload_n 1, 1) := by decide +kernel
theorem dX6_fetch_20 : decode cX6_fetch 20 = .ok (.invokevirtual 68, 3) := by decide +kernel
theorem dX6_fetch_23 : decode cX6_fetch 23 = .ok (.invokevirtual 41, 3) := by decide +kernel
theorem dX6_fetch_26 : decode cX6_fetch 26 = .ok (.ireturn, 1) := by decide +kernel
theorem dX6_kindOf_0 : decode cX6_kindOf 0 = .ok (.aload_n 0, 1) := by decide +kernel
theorem dX6_kindOf_1 : decode cX6_kindOf 1 = .ok (.getfield 10, 3) := by decide +kernel
theorem dX6_kindOf_4 : decode cX6_kindOf 4 = .ok (.iload_n 1, 1) := by decide +kernel
theorem dX6_kindOf_5 : decode cX6_kindOf 5 = .ok (.invokevirtual 71, 3) := by decide +kernel
theorem dX6_kindOf_8 : decode cX6_kindOf 8 = .ok (.ifCond .eq 12, 3) := by decide +kernel
theorem dX6_kindOf_11 : decode cX6_kindOf 11 = .ok (.iload_n 2, 1) := by decide +kernel
theorem dX6_kindOf_12 : decode cX6_kindOf 12 = .ok (.iconst 0, 1) := by decide +kernel
theorem dX6_kindOf_13 : decode cX6_kindOf 13 = .ok (.iconst 5, 1) := by decide +kernel
theorem dX6_kindOf_14 : decode cX6_kindOf 14 = .ok (.invokestatic 75, 3) := by decide +kernel
theorem dX6_kindOf_17 : decode cX6_kindOf 17 = .ok (.ifCond .ne 6, 3) := by decide +kernel
theorem dX6_kindOf_20 : decode cX6_kindOf 20 = .ok (.ldc 79, 2) := by decide +kernel
theorem dX6_kindOf_22 : decode cX6_kindOf 22 = .ok (.ireturn, 1) := by decide +kernel
theorem dX6_kindOf_23 : decode cX6_kindOf 23 = .ok (.aload_n 0, 1) := by decide +kernel
theorem dX6_kindOf_24 : decode cX6_kindOf 24 = .ok (.getfield 10, 3) := by decide +kernel
theorem dX6_kindOf_27 : decode cX6_kindOf 27 = .ok (.iload_n 1, 1) := by decide +kernel
theorem dX6_kindOf_28 : decode cX6_kindOf 28 = .ok (.iload_n 2, 1) := by decide +kernel
theorem dX6_kindOf_29 : decode cX6_kindOf 29 = .ok (.invokevirtual 80, 3) := by decide +kernel
theorem dX6_kindOf_32 : decode cX6_kindOf 32 = .ok (.ireturn, 1) := by decide +kernel
theorem dX6_farmerOf_0 : decode cX6_farmerOf 0 = .ok (.aload_n 0, 1) := by decide +kernel
theorem dX6_farmerOf_1 : decode cX6_farmerOf 1 = .ok (.getfield 10, 3) := by decide +kernel
theorem dX6_farmerOf_4 : decode cX6_farmerOf 4 = .ok (.iload_n 1, 1) := by decide +kernel
theorem dX6_farmerOf_5 : decode cX6_farmerOf 5 = .ok (.invokevirtual 83, 3) := by decide +kernel
theorem dX6_farmerOf_8 : decode cX6_farmerOf 8 = .ok (.ifCond .eq 12, 3) := by decide +kernel
theorem dX6_farmerOf_11 : decode cX6_farmerOf 11 = .ok (.iload_n 2, 1) := by decide +kernel
theorem dX6_farmerOf_12 : decode cX6_farmerOf 12 = .ok (.iconst 0, 1) := by decide +kernel
theorem dX6_farmerOf_13 : decode cX6_farmerOf 13 = .ok (.iconst 5, 1) := by decide +kernel
theorem dX6_farmerOf_14 : decode cX6_farmerOf 14 = .ok (.invokestatic 75, 3) := by decide +kernel
theorem dX6_farmerOf_17 : decode cX6_farmerOf 17 = .ok (.ifCond .ne 6, 3) := by decide +kernel
theorem dX6_farmerOf_20 : decode cX6_farmerOf 20 = .ok (.ldc 79, 2) := by decide +kernel
theorem dX6_farmerOf_22 : decode cX6_farmerOf 22 = .ok (.ireturn, 1) := by decide +kernel
theorem dX6_farmerOf_23 : decode cX6_farmerOf 23 = .ok (.aload_n 0, 1) := by decide +kernel
theorem dX6_farmerOf_24 : decode cX6_farmerOf 24 = .ok (.getfield 10, 3) := by decide +kernel
theorem dX6_farmerOf_27 : decode cX6_farmerOf 27 = .ok (.iload_n 1, 1) := by decide +kernel
theorem dX6_farmerOf_28 : decode cX6_farmerOf 28 = .ok (.iload_n 2, 1) := by decide +kernel
theorem dX6_farmerOf_29 : decode cX6_farmerOf 29 = .ok (.invokevirtual 86, 3) := by decide +kernel
theorem dX6_farmerOf_32 : decode cX6_farmerOf 32 = .ok (.ireturn, 1) := by decide +kernel
theorem dX6_sackOf_0 : decode cX6_sackOf 0 = .ok (.aload_n 0, 1) := by decide +kernel
theorem dX6_sackOf_1 : decode cX6_sackOf 1 = .ok (.getfield 10, 3) := by decide +kernel
theorem dX6_sackOf_4 : decode cX6_sackOf 4 = .ok (.iload_n 1, 1) := by decide +kernel
theorem dX6_sackOf_5 : decode cX6_sackOf 5 = .ok (.invokevirtual 89, 3) := by decide +kernel
theorem dX6_sackOf_8 : decode cX6_sackOf 8 = .ok (.ifCond .eq 13, 3) := by decide +kernel
theorem dX6_sackOf_11 : decode cX6_sackOf 11 = .ok (.iload_n 2, 1) := by decide +kernel
theorem dX6_sackOf_12 : decode cX6_sackOf 12 = .ok (.iconst 0, 1) := by decide +kernel
theorem dX6_sackOf_13 : decode cX6_sackOf 13 = .ok (.bipush 11, 2) := by decide +kernel
theorem dX6_sackOf_15 : decode cX6_sackOf 15 = .ok (.invokestatic 75, 3) := by decide +kernel
theorem dX6_sackOf_18 : decode cX6_sackOf 18 = .ok (.ifCond .ne 6, 3) := by decide +kernel
theorem dX6_sackOf_21 : decode cX6_sackOf 21 = .ok (.ldc 79, 2) := by decide +kernel
theorem dX6_sackOf_23 : decode cX6_sackOf 23 = .ok (.ireturn, 1) := by decide +kernel
theorem dX6_sackOf_24 : decode cX6_sackOf 24 = .ok (.iload_n 2, 1) := by decide +kernel
theorem dX6_sackOf_25 : decode cX6_sackOf 25 = .ok (.bipush 11, 2) := by decide +kernel
theorem dX6_sackOf_27 : decode cX6_sackOf 27 = .ok (.if_icmp .ne 14, 3) := by decide +kernel
theorem dX6_sackOf_30 : decode cX6_sackOf 30 = .ok (.aload_n 0, 1) := by decide +kernel
theorem dX6_sackOf_31 : decode cX6_sackOf 31 = .ok (.getfield 10, 3) := by decide +kernel
theorem dX6_sackOf_34 : decode cX6_sackOf 34 = .ok (.iload_n 1, 1) := by decide +kernel
theorem dX6_sackOf_35 : decode cX6_sackOf 35 = .ok (.invokevirtual 92, 3) := by decide +kernel
theorem dX6_sackOf_38 : decode cX6_sackOf 38 = .ok (.goto 16, 3) := by decide +kernel
theorem dX6_sackOf_41 : decode cX6_sackOf 41 = .ok (.aload_n 0, 1) := by decide +kernel
theorem dX6_sackOf_42 : decode cX6_sackOf 42 = .ok (.getfield 10, 3) := by decide +kernel
theorem dX6_sackOf_45 : decode cX6_sackOf 45 = .ok (.getfield 95, 3) := by decide +kernel
theorem dX6_sackOf_48 : decode cX6_sackOf 48 = .ok (.iload_n 1, 1) := by decide +kernel
theorem dX6_sackOf_49 : decode cX6_sackOf 49 = .ok (.aaload, 1) := by decide +kernel
theorem dX6_sackOf_50 : decode cX6_sackOf 50 = .ok (.iload_n 2, 1) := by decide +kernel
theorem dX6_sackOf_51 : decode cX6_sackOf 51 = .ok (.invokevirtual 99, 3) := by decide +kernel
theorem dX6_sackOf_54 : decode cX6_sackOf 54 = .ok (.ireturn, 1) := by decide +kernel
theorem dX6_queueAt_0 : decode cX6_queueAt 0 = .ok (.iload_n 1, 1) := by decide +kernel
theorem dX6_queueAt_1 : decode cX6_queueAt 1 = .ok (.ifCond .ge 6, 3) := by decide +kernel
theorem dX6_queueAt_4 : decode cX6_queueAt 4 = .ok (.ldc 79, 2) := by decide +kernel
theorem dX6_queueAt_6 : decode cX6_queueAt 6 = .ok (.ireturn, 1) := by decide +kernel
theorem dX6_queueAt_7 : decode cX6_queueAt 7 = .ok (.aload_n 0, 1) := by decide +kernel
theorem dX6_queueAt_8 : decode cX6_queueAt 8 = .ok (.getfield 10, 3) := by decide +kernel
theorem dX6_queueAt_11 : decode cX6_queueAt 11 = .ok (.iload_n 1, 1) := by decide +kernel
theorem dX6_queueAt_12 : decode cX6_queueAt 12 = .ok (.invokevirtual 104, 3) := by decide +kernel
theorem dX6_queueAt_15 : decode cX6_queueAt 15 = .ok (.ireturn, 1) := by decide +kernel
theorem dX6_account_0 : decode cX6_account 0 = .ok (.iload_n 1, 1) := by decide +kernel
theorem dX6_account_1 : decode cX6_account 1 = .ok (.iconst (-1), 1) := by decide +kernel
theorem dX6_account_2 : decode cX6_account 2 = .ok (.if_icmp .eq 14, 3) := by decide +kernel
theorem dX6_account_5 : decode cX6_account 5 = .ok (.aload_n 0, 1) := by decide +kernel
theorem dX6_account_6 : decode cX6_account 6 = .ok (.getfield 10, 3) := by decide +kernel
theorem dX6_account_9 : decode cX6_account 9 = .ok (.iload_n 1, 1) := by decide +kernel
theorem dX6_account_10 : decode cX6_account 10 = .ok (.invokevirtual 83, 3) := by decide +kernel
theorem dX6_account_13 : decode cX6_account 13 = .ok (.ifCond .eq 23, 3) := by decide +kernel
theorem dX6_account_16 : decode cX6_account 16 = .ok (.iload_n 2, 1) := by decide +kernel
theorem dX6_account_17 : decode cX6_account 17 = .ok (.iconst (-1), 1) := by decide +kernel
theorem dX6_account_18 : decode cX6_account 18 = .ok (.if_icmp .eq 14, 3) := by decide +kernel
theorem dX6_account_21 : decode cX6_account 21 = .ok (.aload_n 0, 1) := by decide +kernel
theorem dX6_account_22 : decode cX6_account 22 = .ok (.getfield 10, 3) := by decide +kernel
theorem dX6_account_25 : decode cX6_account 25 = .ok (.iload_n 2, 1) := by decide +kernel
theorem dX6_account_26 : decode cX6_account 26 = .ok (.invokevirtual 71, 3) := by decide +kernel
theorem dX6_account_29 : decode cX6_account 29 = .ok (.ifCond .eq 7, 3) := by decide +kernel
theorem dX6_account_32 : decode cX6_account 32 = .ok (.iconst 1, 1) := by decide +kernel
theorem dX6_account_33 : decode cX6_account 33 = .ok (.goto 4, 3) := by decide +kernel
theorem dX6_account_36 : decode cX6_account 36 = .ok (.iconst 0, 1) := by decide +kernel
theorem dX6_account_37 : decode cX6_account 37 = .ok (.istore 4, 2) := by decide +kernel
theorem dX6_account_39 : decode cX6_account 39 = .ok (.iload 4, 2) := by decide +kernel
theorem dX6_account_41 : decode cX6_account 41 = .ok (.ifCond .eq 18, 3) := by decide +kernel
theorem dX6_account_44 : decode cX6_account 44 = .ok (.iload_n 3, 1) := by decide +kernel
theorem dX6_account_45 : decode cX6_account 45 = .ok (.iconst 2, 1) := by decide +kernel
theorem dX6_account_46 : decode cX6_account 46 = .ok (.if_icmp .eq 16, 3) := by decide +kernel
theorem dX6_account_49 : decode cX6_account 49 = .ok (.iload_n 3, 1) := by decide +kernel
theorem dX6_account_50 : decode cX6_account 50 = .ok (.iconst 4, 1) := by decide +kernel
theorem dX6_account_51 : decode cX6_account 51 = .ok (.bipush 10, 2) := by decide +kernel
theorem dX6_account_53 : decode cX6_account 53 = .ok (.invokestatic 75, 3) := by decide +kernel
theorem dX6_account_56 : decode cX6_account 56 = .ok (.ifCond .ne 6, 3) := by decide +kernel
theorem dX6_account_59 : decode cX6_account 59 = .ok (.ldc 79, 2) := by decide +kernel
theorem dX6_account_61 : decode cX6_account 61 = .ok (.ireturn, 1) := by decide +kernel
theorem dX6_account_62 : decode cX6_account 62 = .ok (.aload_n 0, 1) := by decide +kernel
theorem dX6_account_63 : decode cX6_account 63 = .ok (.getfield 10, 3) := by decide +kernel
theorem dX6_account_66 : decode cX6_account 66 = .ok (.iload_n 1, 1) := by decide +kernel
theorem dX6_account_67 : decode cX6_account 67 = .ok (.iload_n 2, 1) := by decide +kernel
theorem dX6_account_68 : decode cX6_account 68 = .ok (.iload_n 3, 1) := by decide +kernel
theorem dX6_account_69 : decode cX6_account 69 = .ok (.invokevirtual 107, 3) := by decide +kernel
theorem dX6_account_72 : decode cX6_account 72 = .ok (.ireturn, 1) := by decide +kernel
theorem dX6_pledge_0 : decode cX6_pledge 0 = .ok (.aload_n 0, 1) := by decide +kernel
theorem dX6_pledge_1 : decode cX6_pledge 1 = .ok (.getfield 22, 3) := by decide +kernel
theorem dX6_pledge_4 : decode cX6_pledge 4 = .ok (.aload_n 0, 1) := by decide +kernel
theorem dX6_pledge_5 : decode cX6_pledge 5 = .ok (.getfield 10, 3) := by decide +kernel
theorem dX6_pledge_8 : decode cX6_pledge 8 = .ok (.invokevirtual 33, 3) := by decide +kernel
theorem dX6_pledge_11 : decode cX6_pledge 11 = .ok (.aload_n 0, 1) := by decide +kernel
theorem dX6_pledge_12 : decode cX6_pledge 12 = .ok (.getfield 22, 3) := by decide +kernel
theorem dX6_pledge_15 : decode cX6_pledge 15 = .ok (.aload_n 0, 1) := by decide +kernel
theorem dX6_pledge_16 : decode cX6_pledge 16 = .ok (.getfield 10, 3) := by decide +kernel
theorem dX6_pledge_19 : decode cX6_pledge 19 = .ok (.iload_n 1, 1) := by decide +kernel
theorem dX6_pledge_20 : decode cX6_pledge 20 = .ok (.iload_n 2, 1) := by decide +kernel
theorem dX6_pledge_21 : decode cX6_pledge 21 = .ok (.invokevirtual 113, 3) := by decide +kernel
theorem dX6_pledge_24 : decode cX6_pledge 24 = .ok (.invokevirtual 41, 3) := by decide +kernel
theorem dX6_pledge_27 : decode cX6_pledge 27 = .ok (.ireturn, 1) := by decide +kernel
theorem dX6_owed_0 : decode cX6_owed 0 = .ok (.aload_n 0, 1) := by decide +kernel
theorem dX6_owed_1 : decode cX6_owed 1 = .ok (.getfield 10, 3) := by decide +kernel
theorem dX6_owed_4 : decode cX6_owed 4 = .ok (.iload_n 1, 1) := by decide +kernel
theorem dX6_owed_5 : decode cX6_owed 5 = .ok (.invokevirtual 89, 3) := by decide +kernel
theorem dX6_owed_8 : decode cX6_owed 8 = .ok (.ifCond .ne 6, 3) := by decide +kernel
theorem dX6_owed_11 : decode cX6_owed 11 = .ok (.ldc 79, 2) := by decide +kernel
theorem dX6_owed_13 : decode cX6_owed 13 = .ok (.ireturn, 1) := by decide +kernel
theorem dX6_owed_14 : decode cX6_owed 14 = .ok (.aload_n 0, 1) := by decide +kernel
theorem dX6_owed_15 : decode cX6_owed 15 = .ok (.getfield 10, 3) := by decide +kernel
theorem dX6_owed_18 : decode cX6_owed 18 = .ok (.getfield 95, 3) := by decide +kernel
theorem dX6_owed_21 : decode cX6_owed 21 = .ok (.iload_n 1, 1) := by decide +kernel
theorem dX6_owed_22 : decode cX6_owed 22 = .ok (.aaload, 1) := by decide +kernel
theorem dX6_owed_23 : decode cX6_owed 23 = .ok (.invokevirtual 116, 3) := by decide +kernel
theorem dX6_owed_26 : decode cX6_owed 26 = .ok (.ifCond .eq 22, 3) := by decide +kernel
theorem dX6_owed_29 : decode cX6_owed 29 = .ok (.aload_n 0, 1) := by decide +kernel
theorem dX6_owed_30 : decode cX6_owed 30 = .ok (.getfield 10, 3) := by decide +kernel
theorem dX6_owed_33 : decode cX6_owed 33 = .ok (.aload_n 0, 1) := by decide +kernel
theorem dX6_owed_34 : decode cX6_owed 34 = .ok (.getfield 10, 3) := by decide +kernel
theorem dX6_owed_37 : decode cX6_owed 37 = .ok (.getfield 95, 3) := by decide +kernel
theorem dX6_owed_40 : decode cX6_owed 40 = .ok (.iload_n 1, 1) := by decide +kernel
theorem dX6_owed_41 : decode cX6_owed 41 = .ok (.aaload, 1) := by decide +kernel
theorem dX6_owed_42 : decode cX6_owed 42 = .ok (.invokevirtual 120, 3) := by decide +kernel
theorem dX6_owed_45 : decode cX6_owed 45 = .ok (.goto 5, 3) := by decide +kernel
theorem dX6_owed_48 : decode cX6_owed 48 = .ok (.ldc 124, 2) := by decide +kernel
theorem dX6_owed_50 : decode cX6_owed 50 = .ok (.ireturn, 1) := by decide +kernel
theorem dX6_redeem_0 : decode cX6_redeem 0 = .ok (.aload_n 0, 1) := by decide +kernel
theorem dX6_redeem_1 : decode cX6_redeem 1 = .ok (.getfield 22, 3) := by decide +kernel
theorem dX6_redeem_4 : decode cX6_redeem 4 = .ok (.aload_n 0, 1) := by decide +kernel
theorem dX6_redeem_5 : decode cX6_redeem 5 = .ok (.getfield 10, 3) := by decide +kernel
theorem dX6_redeem_8 : decode cX6_redeem 8 = .ok (.invokevirtual 33, 3) := by decide +kernel
theorem dX6_redeem_11 : decode cX6_redeem 11 = .ok (.aload_n 0, 1) := by decide +kernel
theorem dX6_redeem_12 : decode cX6_redeem 12 = .ok (.getfield 22, 3) := by decide +kernel
theorem dX6_redeem_15 : decode cX6_redeem 15 = .ok (.aload_n 0, 1) := by decide +kernel
theorem dX6_redeem_16 : decode cX6_redeem 16 = .ok (.getfield 10, 3) := by decide +kernel
theorem dX6_redeem_19 : decode cX6_redeem 19 = .ok (.iload_n 1, 1) := by decide +kernel
theorem dX6_redeem_20 : decode cX6_redeem 20 = .ok (.invokevirtual 125, 3) := by decide +kernel
theorem dX6_redeem_23 : decode cX6_redeem 23 = .ok (.invokevirtual 41, 3) := by decide +kernel
theorem dX6_redeem_26 : decode cX6_redeem 26 = .ok (.ireturn, 1) := by decide +kernel
theorem dX6_pledgeAt_0 : decode cX6_pledgeAt 0 = .ok (.iload_n 1, 1) := by decide +kernel
theorem dX6_pledgeAt_1 : decode cX6_pledgeAt 1 = .ok (.ifCond .lt 12, 3) := by decide +kernel
theorem dX6_pledgeAt_4 : decode cX6_pledgeAt 4 = .ok (.iload_n 2, 1) := by decide +kernel
theorem dX6_pledgeAt_5 : decode cX6_pledgeAt 5 = .ok (.iconst 0, 1) := by decide +kernel
theorem dX6_pledgeAt_6 : decode cX6_pledgeAt 6 = .ok (.iconst 4, 1) := by decide +kernel
theorem dX6_pledgeAt_7 : decode cX6_pledgeAt 7 = .ok (.invokestatic 75, 3) := by decide +kernel
theorem dX6_pledgeAt_10 : decode cX6_pledgeAt 10 = .ok (.ifCond .ne 6, 3) := by decide +kernel
theorem dX6_pledgeAt_13 : decode cX6_pledgeAt 13 = .ok (.ldc 79, 2) := by decide +kernel
theorem dX6_pledgeAt_15 : decode cX6_pledgeAt 15 = .ok (.ireturn, 1) := by decide +kernel
theorem dX6_pledgeAt_16 : decode cX6_pledgeAt 16 = .ok (.aload_n 0, 1) := by decide +kernel
theorem dX6_pledgeAt_17 : decode cX6_pledgeAt 17 = .ok (.getfield 10, 3) := by decide +kernel
theorem dX6_pledgeAt_20 : decode cX6_pledgeAt 20 = .ok (.iload_n 1, 1) := by decide +kernel
theorem dX6_pledgeAt_21 : decode cX6_pledgeAt 21 = .ok (.invokevirtual 128, 3) := by decide +kernel
theorem dX6_pledgeAt_24 : decode cX6_pledgeAt 24 = .ok (.istore_n 3, 1) := by decide +kernel
theorem dX6_pledgeAt_25 : decode cX6_pledgeAt 25 = .ok (.iload_n 3, 1) := by decide +kernel
theorem dX6_pledgeAt_26 : decode cX6_pledgeAt 26 = .ok (.iconst (-1), 1) := by decide +kernel
theorem dX6_pledgeAt_27 : decode cX6_pledgeAt 27 = .ok (.if_icmp .ne 8, 3) := by decide +kernel
theorem dX6_pledgeAt_30 : decode cX6_pledgeAt 30 = .ok (.ldc 124, 2) := by decide +kernel
theorem dX6_pledgeAt_32 : decode cX6_pledgeAt 32 = .ok (.goto 12, 3) := by decide +kernel
theorem dX6_pledgeAt_35 : decode cX6_pledgeAt 35 = .ok (.aload_n 0, 1) := by decide +kernel
theorem dX6_pledgeAt_36 : decode cX6_pledgeAt 36 = .ok (.getfield 10, 3) := by decide +kernel
theorem dX6_pledgeAt_39 : decode cX6_pledgeAt 39 = .ok (.iload_n 3, 1) := by decide +kernel
theorem dX6_pledgeAt_40 : decode cX6_pledgeAt 40 = .ok (.iload_n 2, 1) := by decide +kernel
theorem dX6_pledgeAt_41 : decode cX6_pledgeAt 41 = .ok (.invokevirtual 131, 3) := by decide +kernel
theorem dX6_pledgeAt_44 : decode cX6_pledgeAt 44 = .ok (.ireturn, 1) := by decide +kernel
theorem dX6_pass_0 : decode cX6_pass 0 = .ok (.aload_n 0, 1) := by decide +kernel
theorem dX6_pass_1 : decode cX6_pass 1 = .ok (.getfield 22, 3) := by decide +kernel
theorem dX6_pass_4 : decode cX6_pass 4 = .ok (.aload_n 0, 1) := by decide +kernel
theorem dX6_pass_5 : decode cX6_pass 5 = .ok (.getfield 10, 3) := by decide +kernel
theorem dX6_pass_8 : decode cX6_pass 8 = .ok (.invokevirtual 33, 3) := by decide +kernel
theorem dX6_pass_11 : decode cX6_pass 11 = .ok (.aload_n 0, 1) := by decide +kernel
theorem dX6_pass_12 : decode cX6_pass 12 = .ok (.getfield 22, 3) := by decide +kernel
theorem dX6_pass_15 : decode cX6_pass 15 = .ok (.aload_n 0, 1) := by decide +kernel
theorem dX6_pass_16 : decode cX6_pass 16 = .ok (.getfield 10, 3) := by decide +kernel
theorem dX6_pass_19 : decode cX6_pass 19 = .ok (.iload_n 1, 1) := by decide +kernel
theorem dX6_pass_20 : decode cX6_pass 20 = .ok (.invokevirtual 134, 3) := by decide +kernel
theorem dX6_pass_23 : decode cX6_pass 23 = .ok (.invokevirtual 41, 3) := by decide +kernel
theorem dX6_pass_26 : decode cX6_pass 26 = .ok (.ireturn, 1) := by decide +kernel
theorem dX6_seaIn_0 : decode cX6_seaIn 0 = .ok (.iload_n 1, 1) := by decide +kernel
theorem dX6_seaIn_1 : decode cX6_seaIn 1 = .ok (.iconst 0, 1) := by decide +kernel
theorem dX6_seaIn_2 : decode cX6_seaIn 2 = .ok (.sipush 5000, 3) := by decide +kernel
theorem dX6_seaIn_5 : decode cX6_seaIn 5 = .ok (.invokestatic 75, 3) := by decide +kernel
theorem dX6_seaIn_8 : decode cX6_seaIn 8 = .ok (.ifCond .ne 6, 3) := by decide +kernel
theorem dX6_seaIn_11 : decode cX6_seaIn 11 = .ok (.ldc 79, 2) := by decide +kernel
theorem dX6_seaIn_13 : decode cX6_seaIn 13 = .ok (.ireturn, 1) := by decide +kernel
theorem dX6_seaIn_14 : decode cX6_seaIn 14 = .ok (.aload_n 0, 1) := by decide +kernel
theorem dX6_seaIn_15 : decode cX6_seaIn 15 = .ok (.getfield 10, 3) := by decide +kernel
theorem dX6_seaIn_18 : decode cX6_seaIn 18 = .ok (.aload_n 0, 1) := by decide +kernel
theorem dX6_seaIn_19 : decode cX6_seaIn 19 = .ok (.getfield 10, 3) := by decide +kernel
theorem dX6_seaIn_22 : decode cX6_seaIn 22 = .ok (.getfield 137, 3) := by decide +kernel
theorem dX6_seaIn_25 : decode cX6_seaIn 25 = .ok (.iload_n 1, 1) := by decide +kernel
theorem dX6_seaIn_26 : decode cX6_seaIn 26 = .ok (.iadd, 1) := by decide +kernel
theorem dX6_seaIn_27 : decode cX6_seaIn 27 = .ok (.invokevirtual 141, 3) := by decide +kernel
theorem dX6_seaIn_30 : decode cX6_seaIn 30 = .ok (.ireturn, 1) := by decide +kernel
theorem dX6_pond_0 : decode cX6_pond 0 = .ok (.iload_n 1, 1) := by decide +kernel
theorem dX6_pond_1 : decode cX6_pond 1 = .ok (.iconst 0, 1) := by decide +kernel
theorem dX6_pond_2 : decode cX6_pond 2 = .ok (.bipush 14, 2) := by decide +kernel
theorem dX6_pond_4 : decode cX6_pond 4 = .ok (.invokestatic 75, 3) := by decide +kernel
theorem dX6_pond_7 : decode cX6_pond 7 = .ok (.ifCond .ne 6, 3) := by decide +kernel
theorem dX6_pond_10 : decode cX6_pond 10 = .ok (.ldc 79, 2) := by decide +kernel
theorem dX6_pond_12 : decode cX6_pond 12 = .ok (.ireturn, 1) := by decide +kernel
theorem dX6_pond_13 : decode cX6_pond 13 = .ok (.aload_n 0, 1) := by decide +kernel
theorem dX6_pond_14 : decode cX6_pond 14 = .ok (.getfield 10, 3) := by decide +kernel
theorem dX6_pond_17 : decode cX6_pond 17 = .ok (.iload_n 1, 1) := by decide +kernel
theorem dX6_pond_18 : decode cX6_pond 18 = .ok (.invokevirtual 147, 3) := by decide +kernel
theorem dX6_pond_21 : decode cX6_pond 21 = .ok (.ireturn, 1) := by decide +kernel
theorem dX6_foresee_0 : decode cX6_foresee 0 = .ok (.aload_n 0, 1) := by decide +kernel
theorem dX6_foresee_1 : decode cX6_foresee 1 = .ok (.getfield 10, 3) := by decide +kernel
theorem dX6_foresee_4 : decode cX6_foresee 4 = .ok (.iload_n 1, 1) := by decide +kernel
theorem dX6_foresee_5 : decode cX6_foresee 5 = .ok (.invokevirtual 89, 3) := by decide +kernel
theorem dX6_foresee_8 : decode cX6_foresee 8 = .ok (.ifCond .ne 6, 3) := by decide +kernel
theorem dX6_foresee_11 : decode cX6_foresee 11 = .ok (.ldc 79, 2) := by decide +kernel
theorem dX6_foresee_13 : decode cX6_foresee 13 = .ok (.ireturn, 1) := by decide +kernel
theorem dX6_foresee_14 : decode cX6_foresee 14 = .ok (.aload_n 0, 1) := by decide +kernel
theorem dX6_foresee_15 : decode cX6_foresee 15 = .ok (.getfield 10, 3) := by decide +kernel
theorem dX6_foresee_18 : decode cX6_foresee 18 = .ok (.getfield 95, 3) := by decide +kernel
theorem dX6_foresee_21 : decode cX6_foresee 21 = .ok (.iload_n 1, 1) := by decide +kernel
theorem dX6_foresee_22 : decode cX6_foresee 22 = .ok (.aaload, 1) := by decide +kernel
theorem dX6_foresee_23 : decode cX6_foresee 23 = .ok (.getfield 150, 3) := by decide +kernel
theorem dX6_foresee_26 : decode cX6_foresee 26 = .ok (.iconst 2, 1) := by decide +kernel
theorem dX6_foresee_27 : decode cX6_foresee 27 = .ok (.if_icmp .lt 6, 3) := by decide +kernel
theorem dX6_foresee_30 : decode cX6_foresee 30 = .ok (.ldc 153, 2) := by decide +kernel
theorem dX6_foresee_32 : decode cX6_foresee 32 = .ok (.ireturn, 1) := by decide +kernel
theorem dX6_foresee_33 : decode cX6_foresee 33 = .ok (.aload_n 0, 1) := by decide +kernel
theorem dX6_foresee_34 : decode cX6_foresee 34 = .ok (.getfield 16, 3) := by decide +kernel
theorem dX6_foresee_37 : decode cX6_foresee 37 = .ok (.aload_n 0, 1) := by decide +kernel
theorem dX6_foresee_38 : decode cX6_foresee 38 = .ok (.getfield 10, 3) := by decide +kernel
theorem dX6_foresee_41 : decode cX6_foresee 41 = .ok (.invokevirtual 154, 3) := by decide +kernel
theorem dX6_foresee_44 : decode cX6_foresee 44 = .ok (.iconst 1, 1) := by decide +kernel
theorem dX6_foresee_45 : decode cX6_foresee 45 = .ok (.istore_n 2, 1) := by decide +kernel
theorem dX6_foresee_46 : decode cX6_foresee 46 = .ok (.iload_n 2, 1) := by decide +kernel
theorem dX6_foresee_47 : decode cX6_foresee 47 = .ok (.sipush 1000, 3) := by decide +kernel
theorem dX6_foresee_50 : decode cX6_foresee 50 = .ok (.if_icmp .gt 34, 3) := by decide +kernel
theorem dX6_foresee_53 : decode cX6_foresee 53 = .ok (.aload_n 0, 1) := by decide +kernel
theorem dX6_foresee_54 : decode cX6_foresee 54 = .ok (.getfield 16, 3) := by decide +kernel
theorem dX6_foresee_57 : decode cX6_foresee 57 = .ok (.invokevirtual 157, 3) := by decide +kernel
theorem dX6_foresee_60 : decode cX6_foresee 60 = .ok (.aload_n 0, 1) := by decide +kernel
theorem dX6_foresee_61 : decode cX6_foresee 61 = .ok (.getfield 16, 3) := by decide +kernel
theorem dX6_foresee_64 : decode cX6_foresee 64 = .ok (.getfield 95, 3) := by decide +kernel
theorem dX6_foresee_67 : decode cX6_foresee 67 = .ok (.iload_n 1, 1) := by decide +kernel
theorem dX6_foresee_68 : decode cX6_foresee 68 = .ok (.aaload, 1) := by decide +kernel
theorem dX6_foresee_69 : decode cX6_foresee 69 = .ok (.getfield 150, 3) := by decide +kernel
theorem dX6_foresee_72 : decode cX6_foresee 72 = .ok (.iconst 2, 1) := by decide +kernel
theorem dX6_foresee_73 : decode cX6_foresee 73 = .ok (.if_icmp .ne 5, 3) := by decide +kernel
theorem dX6_foresee_76 : decode cX6_foresee 76 = .ok (.iload_n 2, 1) := by decide +kernel
theorem dX6_foresee_77 : decode cX6_foresee 77 = .ok (.ireturn, 1) := by decide +kernel
theorem dX6_foresee_78 : decode cX6_foresee 78 = .ok (.iinc 2 1, 3) := by decide +kernel
theorem dX6_foresee_81 : decode cX6_foresee 81 = .ok (.goto (-35), 3) := by decide +kernel
theorem dX6_foresee_84 : decode cX6_foresee 84 = .ok (.ldc 124, 2) := by decide +kernel
theorem dX6_foresee_86 : decode cX6_foresee 86 = .ok (.ireturn, 1) := by decide +kernel
theorem dX6_bestGate_0 : decode cX6_bestGate 0 = .ok (.iload_n 1, 1) := by decide +kernel
theorem dX6_bestGate_1 : decode cX6_bestGate 1 = .ok (.iconst 1, 1) := by decide +kernel
theorem dX6_bestGate_2 : decode cX6_bestGate 2 = .ok (.sipush 200, 3) := by decide +kernel
theorem dX6_bestGate_5 : decode cX6_bestGate 5 = .ok (.invokestatic 75, 3) := by decide +kernel
theorem dX6_bestGate_8 : decode cX6_bestGate 8 = .ok (.ifCond .ne 6, 3) := by decide +kernel
theorem dX6_bestGate_11 : decode cX6_bestGate 11 = .ok (.ldc 79, 2) := by decide +kernel
theorem dX6_bestGate_13 : decode cX6_bestGate 13 = .ok (.ireturn, 1) := by decide +kernel
theorem dX6_bestGate_14 : decode cX6_bestGate 14 = .ok (.iconst 0, 1) := by decide +kernel
theorem dX6_bestGate_15 : decode cX6_bestGate 15 = .ok (.istore_n 2, 1) := by decide +kernel
theorem dX6_bestGate_16 : decode cX6_bestGate 16 = .ok (.iconst (-1), 1) := by decide +kernel
theorem dX6_bestGate_17 : decode cX6_bestGate 17 = .ok (.istore_n 3, 1) := by decide +kernel
theorem dX6_bestGate_18 : decode cX6_bestGate 18 = .ok (.iconst 0, 1) := by decide +kernel
theorem dX6_bestGate_19 : decode cX6_bestGate 19 = .ok (.istore 4, 2) := by decide +kernel
theorem dX6_bestGate_21 : decode cX6_bestGate 21 = .ok (.iload 4, 2) := by decide +kernel
theorem dX6_bestGate_23 : decode cX6_bestGate 23 = .ok (.iconst 4, 1) := by decide +kernel
theorem dX6_bestGate_24 : decode cX6_bestGate 24 = .ok (.if_icmp .ge 30, 3) := by decide +kernel
theorem dX6_bestGate_27 : decode cX6_bestGate 27 = .ok (.aload_n 0, 1) := by decide +kernel
theorem dX6_bestGate_28 : decode cX6_bestGate 28 = .ok (.iload 4, 2) := by decide +kernel
theorem dX6_bestGate_30 : decode cX6_bestGate 30 = .ok (.iload_n 1, 1) := by decide +kernel
theorem dX6_bestGate_31 : decode cX6_bestGate 31 = .ok (.invokevirtual 160, 3) := by decide +kernel
theorem dX6_bestGate_34 : decode cX6_bestGate 34 = .ok (.istore 5, 2) := by decide +kernel
theorem dX6_bestGate_36 : decode cX6_bestGate 36 = .ok (.iload 5, 2) := by decide +kernel
theorem dX6_bestGate_38 : decode cX6_bestGate 38 = .ok (.iload_n 3, 1) := by decide +kernel
theorem dX6_bestGate_39 : decode cX6_bestGate 39 = .ok (.if_icmp .le 9, 3) := by decide +kernel
theorem dX6_bestGate_42 : decode cX6_bestGate 42 = .ok (.iload 5, 2) := by decide +kernel
theorem dX6_bestGate_44 : decode cX6_bestGate 44 = .ok (.istore_n 3, 1) := by decide +kernel
theorem dX6_bestGate_45 : decode cX6_bestGate 45 = .ok (.iload 4, 2) := by decide +kernel
theorem dX6_bestGate_47 : decode cX6_bestGate 47 = .ok (.istore_n 2, 1) := by decide +kernel
theorem dX6_bestGate_48 : decode cX6_bestGate 48 = .ok (.iinc 4 1, 3) := by decide +kernel
theorem dX6_bestGate_51 : decode cX6_bestGate 51 = .ok (.goto (-30), 3) := by decide +kernel
theorem dX6_bestGate_54 : decode cX6_bestGate 54 = .ok (.iload_n 2, 1) := by decide +kernel
theorem dX6_bestGate_55 : decode cX6_bestGate 55 = .ok (.ireturn, 1) := by decide +kernel
theorem dX6_count_0 : decode cX6_count 0 = .ok (.iload_n 1, 1) := by decide +kernel
theorem dX6_count_1 : decode cX6_count 1 = .ok (.bipush 20, 2) := by decide +kernel
theorem dX6_count_3 : decode cX6_count 3 = .ok (.bipush 32, 2) := by decide +kernel
theorem dX6_count_5 : decode cX6_count 5 = .ok (.invokestatic 75, 3) := by decide +kernel
theorem dX6_count_8 : decode cX6_count 8 = .ok (.ifCond .eq 16, 3) := by decide +kernel
theorem dX6_count_11 : decode cX6_count 11 = .ok (.aload_n 0, 1) := by decide +kernel
theorem dX6_count_12 : decode cX6_count 12 = .ok (.getfield 10, 3) := by decide +kernel
theorem dX6_count_15 : decode cX6_count 15 = .ok (.getfield 163, 3) := by decide +kernel
theorem dX6_count_18 : decode cX6_count 18 = .ok (.iload_n 1, 1) := by decide +kernel
theorem dX6_count_19 : decode cX6_count 19 = .ok (.bipush 20, 2) := by decide +kernel
theorem dX6_count_21 : decode cX6_count 21 = .ok (.isub, 1) := by decide +kernel
theorem dX6_count_22 : decode cX6_count 22 = .ok (.iaload, 1) := by decide +kernel
theorem dX6_count_23 : decode cX6_count 23 = .ok (.ireturn, 1) := by decide +kernel
theorem dX6_count_24 : decode cX6_count 24 = .ok (.iload_n 1, 1) := by decide +kernel
theorem dX6_count_25 : decode cX6_count 25 = .ok (.lookupswitch 43 #[(9, 27), (10, 35)], 27) := by decide +kernel
theorem dX6_count_52 : decode cX6_count 52 = .ok (.aload_n 0, 1) := by decide +kernel
theorem dX6_count_53 : decode cX6_count 53 = .ok (.getfield 22, 3) := by decide +kernel
theorem dX6_count_56 : decode cX6_count 56 = .ok (.getfield 167, 3) := by decide +kernel
theorem dX6_count_59 : decode cX6_count 59 = .ok (.ireturn, 1) := by decide +kernel
theorem dX6_count_60 : decode cX6_count 60 = .ok (.aload_n 0, 1) := by decide +kernel
theorem dX6_count_61 : decode cX6_count 61 = .ok (.getfield 29, 3) := by decide +kernel
theorem dX6_count_64 : decode cX6_count 64 = .ok (.getfield 170, 3) := by decide +kernel
theorem dX6_count_67 : decode cX6_count 67 = .ok (.ireturn, 1) := by decide +kernel
theorem dX6_count_68 : decode cX6_count 68 = .ok (.aload_n 0, 1) := by decide +kernel
theorem dX6_count_69 : decode cX6_count 69 = .ok (.getfield 10, 3) := by decide +kernel
theorem dX6_count_72 : decode cX6_count 72 = .ok (.iload_n 1, 1) := by decide +kernel
theorem dX6_count_73 : decode cX6_count 73 = .ok (.invokevirtual 173, 3) := by decide +kernel
theorem dX6_count_76 : decode cX6_count 76 = .ok (.ireturn, 1) := by decide +kernel
theorem dX6_undo_0 : decode cX6_undo 0 = .ok (.aload_n 0, 1) := by decide +kernel
theorem dX6_undo_1 : decode cX6_undo 1 = .ok (.getfield 22, 3) := by decide +kernel
theorem dX6_undo_4 : decode cX6_undo 4 = .ok (.aload_n 0, 1) := by decide +kernel
theorem dX6_undo_5 : decode cX6_undo 5 = .ok (.getfield 10, 3) := by decide +kernel
theorem dX6_undo_8 : decode cX6_undo 8 = .ok (.invokevirtual 176, 3) := by decide +kernel
theorem dX6_undo_11 : decode cX6_undo 11 = .ok (.ireturn, 1) := by decide +kernel
theorem dX6_groundBy_0 : decode cX6_groundBy 0 = .ok (.aload_n 0, 1) := by decide +kernel
theorem dX6_groundBy_1 : decode cX6_groundBy 1 = .ok (.getfield 16, 3) := by decide +kernel
theorem dX6_groundBy_4 : decode cX6_groundBy 4 = .ok (.aload_n 0, 1) := by decide +kernel
theorem dX6_groundBy_5 : decode cX6_groundBy 5 = .ok (.getfield 10, 3) := by decide +kernel
theorem dX6_groundBy_8 : decode cX6_groundBy 8 = .ok (.invokevirtual 154, 3) := by decide +kernel
theorem dX6_groundBy_11 : decode cX6_groundBy 11 = .ok (.aload_n 0, 1) := by decide +kernel
theorem dX6_groundBy_12 : decode cX6_groundBy 12 = .ok (.getfield 16, 3) := by decide +kernel
theorem dX6_groundBy_15 : decode cX6_groundBy 15 = .ok (.iload_n 1, 1) := by decide +kernel
theorem dX6_groundBy_16 : decode cX6_groundBy 16 = .ok (.putfield 199, 3) := by decide +kernel
theorem dX6_groundBy_19 : decode cX6_groundBy 19 = .ok (.iconst 0, 1) := by decide +kernel
theorem dX6_groundBy_20 : decode cX6_groundBy 20 = .ok (.istore_n 3, 1) := by decide +kernel
theorem dX6_groundBy_21 : decode cX6_groundBy 21 = .ok (.iload_n 3, 1) := by decide +kernel
theorem dX6_groundBy_22 : decode cX6_groundBy 22 = .ok (.iload_n 2, 1) := by decide +kernel
theorem dX6_groundBy_23 : decode cX6_groundBy 23 = .ok (.if_icmp .ge 16, 3) := by decide +kernel
theorem dX6_groundBy_26 : decode cX6_groundBy 26 = .ok (.aload_n 0, 1) := by decide +kernel
theorem dX6_groundBy_27 : decode cX6_groundBy 27 = .ok (.getfield 16, 3) := by decide +kernel
theorem dX6_groundBy_30 : decode cX6_groundBy 30 = .ok (.invokevirtual 157, 3) := by decide +kernel
theorem dX6_groundBy_33 : decode cX6_groundBy 33 = .ok (.iinc 3 1, 3) := by decide +kernel
theorem dX6_groundBy_36 : decode cX6_groundBy 36 = .ok (.goto (-15), 3) := by decide +kernel
theorem dX6_groundBy_39 : decode cX6_groundBy 39 = .ok (.aload_n 0, 1) := by decide +kernel
theorem dX6_groundBy_40 : decode cX6_groundBy 40 = .ok (.getfield 16, 3) := by decide +kernel
theorem dX6_groundBy_43 : decode cX6_groundBy 43 = .ok (.getfield 202, 3) := by decide +kernel
theorem dX6_groundBy_46 : decode cX6_groundBy 46 = .ok (.aload_n 0, 1) := by decide +kernel
theorem dX6_groundBy_47 : decode cX6_groundBy 47 = .ok (.getfield 10, 3) := by decide +kernel
theorem dX6_groundBy_50 : decode cX6_groundBy 50 = .ok (.getfield 202, 3) := by decide +kernel
theorem dX6_groundBy_53 : decode cX6_groundBy 53 = .ok (.isub, 1) := by decide +kernel
theorem dX6_groundBy_54 : decode cX6_groundBy 54 = .ok (.ireturn, 1) := by decide +kernel
theorem dX6_within_0 : decode cX6_within 0 = .ok (.iload_n 0, 1) := by decide +kernel
theorem dX6_within_1 : decode cX6_within 1 = .ok (.iload_n 1, 1) := by decide +kernel
theorem dX6_within_2 : decode cX6_within 2 = .ok (.if_icmp .lt 12, 3) := by decide +kernel
theorem dX6_within_5 : decode cX6_within 5 = .ok (.iload_n 0, 1) := by decide +kernel
theorem dX6_within_6 : decode cX6_within 6 = .ok (.iload_n 2, 1) := by decide +kernel
theorem dX6_within_7 : decode cX6_within 7 = .ok (.if_icmp .gt 7, 3) := by decide +kernel
theorem dX6_within_10 : decode cX6_within 10 = .ok (.iconst 1, 1) := by decide +kernel
theorem dX6_within_11 : decode cX6_within 11 = .ok (.goto 4, 3) := by decide +kernel
theorem dX6_within_14 : decode cX6_within 14 = .ok (.iconst 0, 1) := by decide +kernel
theorem dX6_within_15 : decode cX6_within 15 = .ok (.ireturn, 1) := by decide +kernel
theorem dX6_quotient_0 : decode cX6_quotient 0 = .ok (.iload_n 1, 1) := by decide +kernel
theorem dX6_quotient_1 : decode cX6_quotient 1 = .ok (.ifCond .le 9, 3) := by decide +kernel
theorem dX6_quotient_4 : decode cX6_quotient 4 = .ok (.iload_n 0, 1) := by decide +kernel
theorem dX6_quotient_5 : decode cX6_quotient 5 = .ok (.iload_n 1, 1) := by decide +kernel
theorem dX6_quotient_6 : decode cX6_quotient 6 = .ok (.idiv, 1) := by decide +kernel
theorem dX6_quotient_7 : decode cX6_quotient 7 = .ok (.goto 4, 3) := by decide +kernel
theorem dX6_quotient_10 : decode cX6_quotient 10 = .ok (.iconst 0, 1) := by decide +kernel
theorem dX6_quotient_11 : decode cX6_quotient 11 = .ok (.ireturn, 1) := by decide +kernel
