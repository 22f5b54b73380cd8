theorem dX7_init_0 : decode cX7_init 0 = .ok (.aload_n 0, 1) := by decide +kernel
theorem dX7_init_1 : decode cX7_init 1 = .ok (.invokespecial 1, 3) := by decide +kernel
theorem dX7_init_4 : decode cX7_init 4 = .ok (.aload_n 0, 1) := by decide +kernel
theorem dX7_init_5 : decode cX7_init 5 = .ok (.sipush 368, 3) := by decide +kernel
theorem dX7_init_8 : decode cX7_init 8 = .ok (.newarray .int, 2) := by decide +kernel
theorem dX7_init_10 : decode cX7_init 10 = .ok (.putfield 7, 3) := by decide +kernel
theorem dX7_init_13 : decode cX7_init 13 = .ok (.aload_n 0, 1) := by decide +kernel
theorem dX7_init_14 : decode cX7_init 14 = .ok (.sipush 1472, 3) := by decide +kernel
theorem dX7_init_17 : decode cX7_init 17 = .ok (.newarray .int, 2) := by decide +kernel
theorem dX7_init_19 : decode cX7_init 19 = .ok (.putfield 13, 3) := by decide +kernel
theorem dX7_init_22 : decode cX7_init 22 = .ok (.aload_n 0, 1) := by decide +kernel
theorem dX7_init_23 : decode cX7_init 23 = .ok (.sipush 368, 3) := by decide +kernel
theorem dX7_init_26 : decode cX7_init 26 = .ok (.newarray .int, 2) := by decide +kernel
theorem dX7_init_28 : decode cX7_init 28 = .ok (.putfield 16, 3) := by decide +kernel
theorem dX7_init_31 : decode cX7_init 31 = .ok (.aload_n 0, 1) := by decide +kernel
theorem dX7_init_32 : decode cX7_init 32 = .ok (.sipush 368, 3) := by decide +kernel
theorem dX7_init_35 : decode cX7_init 35 = .ok (.newarray .int, 2) := by decide +kernel
theorem dX7_init_37 : decode cX7_init 37 = .ok (.putfield 19, 3) := by decide +kernel
theorem dX7_init_40 : decode cX7_init 40 = .ok (.aload_n 0, 1) := by decide +kernel
theorem dX7_init_41 : decode cX7_init 41 = .ok (.bipush 60, 2) := by decide +kernel
theorem dX7_init_43 : decode cX7_init 43 = .ok (.newarray .char, 2) := by decide +kernel
theorem dX7_init_45 : decode cX7_init 45 = .ok (.putfield 22, 3) := by decide +kernel
theorem dX7_init_48 : decode cX7_init 48 = .ok (.aload_n 0, 1) := by decide +kernel
theorem dX7_init_49 : decode cX7_init 49 = .ok (.iconst 3, 1) := by decide +kernel
theorem dX7_init_50 : decode cX7_init 50 = .ok (.newarray .int, 2) := by decide +kernel
theorem dX7_init_52 : decode cX7_init 52 = .ok (.putfield 26, 3) := by decide +kernel
theorem dX7_init_55 : decode cX7_init 55 = .ok (.aload_n 0, 1) := by decide +kernel
theorem dX7_init_56 : decode cX7_init 56 = .ok (.getfield 7, 3) := by decide +kernel
theorem dX7_init_59 : decode cX7_init 59 = .ok (.iconst 0, 1) := by decide +kernel
theorem dX7_init_60 : decode cX7_init 60 = .ok (.bipush 100, 2) := by decide +kernel
theorem dX7_init_62 : decode cX7_init 62 = .ok (.iastore, 1) := by decide +kernel
theorem dX7_init_63 : decode cX7_init 63 = .ok (.aload_n 0, 1) := by decide +kernel
theorem dX7_init_64 : decode cX7_init 64 = .ok (.getfield 7, 3) := by decide +kernel
theorem dX7_init_67 : decode cX7_init 67 = .ok (.iconst 1, 1) := by decide +kernel
theorem dX7_init_68 : decode cX7_init 68 = .ok (.bipush 20, 2) := by decide +kernel
theorem dX7_init_70 : decode cX7_init 70 = .ok (.iastore, 1) := by decide +kernel
theorem dX7_init_71 : decode cX7_init 71 = .ok (.aload_n 0, 1) := by decide +kernel
theorem dX7_init_72 : decode cX7_init 72 = .ok (.getfield 7, 3) := by decide +kernel
theorem dX7_init_75 : decode cX7_init 75 = .ok (.iconst 2, 1) := by decide +kernel
theorem dX7_init_76 : decode cX7_init 76 = .ok (.bipush 100, 2) := by decide +kernel
theorem dX7_init_78 : decode cX7_init 78 = .ok (.iastore, 1) := by decide +kernel
theorem dX7_init_79 : decode cX7_init 79 = .ok (.aload_n 0, 1) := by decide +kernel
theorem dX7_init_80 : decode cX7_init 80 = .ok (.getfield 7, 3) := by decide +kernel
theorem dX7_init_83 : decode cX7_init 83 = .ok (.iconst 3, 1) := by decide +kernel
theorem dX7_init_84 : decode cX7_init 84 = .ok (.bipush 20, 2) := by decide +kernel
theorem dX7_init_86 : decode cX7_init 86 = .ok (.iastore, 1) := by decide +kernel
theorem dX7_init_87 : decode cX7_init 87 = .ok (.aload_n 0, 1) := by decide +kernel
theorem dX7_init_88 : decode cX7_init 88 = .ok (.getfield 7, 3) := by decide +kernel
theorem dX7_init_91 : decode cX7_init 91 = .ok (.iconst 4, 1) := by decide +kernel
theorem dX7_init_92 : decode cX7_init 92 = .ok (.bipush 50, 2) := by decide +kernel
theorem dX7_init_94 : decode cX7_init 94 = .ok (.iastore, 1) := by decide +kernel
theorem dX7_init_95 : decode cX7_init 95 = .ok (.aload_n 0, 1) := by decide +kernel
theorem dX7_init_96 : decode cX7_init 96 = .ok (.getfield 7, 3) := by decide +kernel
theorem dX7_init_99 : decode cX7_init 99 = .ok (.iconst 5, 1) := by decide +kernel
theorem dX7_init_100 : decode cX7_init 100 = .ok (.bipush 60, 2) := by decide +kernel
theorem dX7_init_102 : decode cX7_init 102 = .ok (.iastore, 1) := by decide +kernel
theorem dX7_init_103 : decode cX7_init 103 = .ok (.aload_n 0, 1) := by decide +kernel
theorem dX7_init_104 : decode cX7_init 104 = .ok (.getfield 7, 3) := by decide +kernel
theorem dX7_init_107 : decode cX7_init 107 = .ok (.bipush 6, 2) := by decide +kernel
theorem dX7_init_109 : decode cX7_init 109 = .ok (.bipush 10, 2) := by decide +kernel
theorem dX7_init_111 : decode cX7_init 111 = .ok (.iastore, 1) := by decide +kernel
theorem dX7_init_112 : decode cX7_init 112 = .ok (.aload_n 0, 1) := by decide +kernel
theorem dX7_init_113 : decode cX7_init 113 = .ok (.getfield 7, 3) := by decide +kernel
theorem dX7_init_116 : decode cX7_init 116 = .ok (.bipush 7, 2) := by decide +kernel
theorem dX7_init_118 : decode cX7_init 118 = .ok (.sipush 200, 3) := by decide +kernel
theorem dX7_init_121 : decode cX7_init 121 = .ok (.iastore, 1) := by decide +kernel
theorem dX7_init_122 : decode cX7_init 122 = .ok (.aload_n 0, 1) := by decide +kernel
theorem dX7_init_123 : decode cX7_init 123 = .ok (.getfield 7, 3) := by decide +kernel
theorem dX7_init_126 : decode cX7_init 126 = .ok (.bipush 8, 2) := by decide +kernel
theorem dX7_init_128 : decode cX7_init 128 = .ok (.bipush 10, 2) := by decide +kernel
theorem dX7_init_130 : decode cX7_init 130 = .ok (.iastore, 1) := by decide +kernel
theorem dX7_init_131 : decode cX7_init 131 = .ok (.aload_n 0, 1) := by decide +kernel
theorem dX7_init_132 : decode cX7_init 132 = .ok (.getfield 7, 3) := by decide +kernel
theorem dX7_init_135 : decode cX7_init 135 = .ok (.bipush 9, 2) := by decide +kernel
theorem dX7_init_137 : decode cX7_init 137 = .ok (.iconst 5, 1) := by decide +kernel
theorem dX7_init_138 : decode cX7_init 138 = .ok (.iastore, 1) := by decide +kernel
theorem dX7_init_139 : decode cX7_init 139 = .ok (.aload_n 0, 1) := by decide +kernel
theorem dX7_init_140 : decode cX7_init 140 = .ok (.getfield 7, 3) := by decide +kernel
theorem dX7_init_143 : decode cX7_init 143 = .ok (.bipush 10, 2) := by decide +kernel
theorem dX7_init_145 : decode cX7_init 145 = .ok (.bipush 10, 2) := by decide +kernel
theorem dX7_init_147 : decode cX7_init 147 = .ok (.iastore, 1) := by decide +kernel
theorem dX7_init_148 : decode cX7_init 148 = .ok (.aload_n 0, 1) := by decide +kernel
theorem dX7_init_149 : decode cX7_init 149 = .ok (.getfield 7, 3) := by decide +kernel
theorem dX7_init_152 : decode cX7_init 152 = .ok (.bipush 11, 2) := by decide +kernel
theorem dX7_init_154 : decode cX7_init 154 = .ok (.bipush 50, 2) := by decide +kernel
theorem dX7_init_156 : decode cX7_init 156 = .ok (.iastore, 1) := by decide +kernel
theorem dX7_init_157 : decode cX7_init 157 = .ok (.aload_n 0, 1) := by decide +kernel
theorem dX7_init_158 : decode cX7_init 158 = .ok (.getfield 7, 3) := by decide +kernel
theorem dX7_init_161 : decode cX7_init 161 = .ok (.bipush 13, 2) := by decide +kernel
theorem dX7_init_163 : decode cX7_init 163 = .ok (.iconst 2, 1) := by decide +kernel
theorem dX7_init_164 : decode cX7_init 164 = .ok (.iastore, 1) := by decide +kernel
theorem dX7_init_165 : decode cX7_init 165 = .ok (.aload_n 0, 1) := by decide +kernel
theorem dX7_init_166 : decode cX7_init 166 = .ok (.getfield 7, 3) := by decide +kernel
theorem dX7_init_169 : decode cX7_init 169 = .ok (.bipush 14, 2) := by decide +kernel
theorem dX7_init_171 : decode cX7_init 171 = .ok (.iconst 1, 1) := by decide +kernel
theorem dX7_init_172 : decode cX7_init 172 = .ok (.iastore, 1) := by decide +kernel
theorem dX7_init_173 : decode cX7_init 173 = .ok (.aload_n 0, 1) := by decide +kernel
theorem dX7_init_174 : decode cX7_init 174 = .ok (.getfield 7, 3) := by decide +kernel
theorem dX7_init_177 : decode cX7_init 177 = .ok (.bipush 15, 2) := by decide +kernel
theorem dX7_init_179 : decode cX7_init 179 = .ok (.iconst 3, 1) := by decide +kernel
theorem dX7_init_180 : decode cX7_init 180 = .ok (.iastore, 1) := by decide +kernel
theorem dX7_init_181 : decode cX7_init 181 = .ok (.aload_n 0, 1) := by decide +kernel
theorem dX7_init_182 : decode cX7_init 182 = .ok (.getfield 7, 3) := by decide +kernel
theorem dX7_init_185 : decode cX7_init 185 = .ok (.bipush 24, 2) := by decide +kernel
theorem dX7_init_187 : decode cX7_init 187 = .ok (.iconst (-1), 1) := by decide +kernel
theorem dX7_init_188 : decode cX7_init 188 = .ok (.iastore, 1) := by decide +kernel
theorem dX7_init_189 : decode cX7_init 189 = .ok (.aload_n 0, 1) := by decide +kernel
theorem dX7_init_190 : decode cX7_init 190 = .ok (.getfield 7, 3) := by decide +kernel
theorem dX7_init_193 : decode cX7_init 193 = .ok (.bipush 25, 2) := by decide +kernel
theorem dX7_init_195 : decode cX7_init 195 = .ok (.iconst (-1), 1) := by decide +kernel
theorem dX7_init_196 : decode cX7_init 196 = .ok (.iastore, 1) := by decide +kernel
theorem dX7_init_197 : decode cX7_init 197 = .ok (.return_, 1) := by decide +kernel
theorem dX7_in_0 : decode cX7_in 0 = .ok (.iload_n 0, 1) := by decide +kernel
theorem dX7_in_1 : decode cX7_in 1 = .ok (.iload_n 1, 1) := by decide +kernel
theorem dX7_in_2 : decode cX7_in 2 = .ok (.if_icmp .lt 12, 3) := by decide +kernel
theorem dX7_in_5 : decode cX7_in 5 = .ok (.iload_n 0, 1) := by decide +kernel
theorem dX7_in_6 : decode cX7_in 6 = .ok (.iload_n 2, 1) := by decide +kernel
theorem dX7_in_7 : decode cX7_in 7 = .ok (.if_icmp .gt 7, 3) := by decide +kernel
theorem dX7_in_10 : decode cX7_in 10 = .ok (.iconst 1, 1) := by decide +kernel
theorem dX7_in_11 : decode cX7_in 11 = .ok (.goto 4, 3) := by decide +kernel
theorem dX7_in_14 : decode cX7_in 14 = .ok (.iconst 0, 1) := by decide +kernel
theorem dX7_in_15 : decode cX7_in 15 = .ok (.ireturn, 1) := by decide +kernel
theorem dX7_isKind_0 : decode cX7_isKind 0 = .ok (.iload_n 1, 1) := by decide +kernel
theorem dX7_isKind_1 : decode cX7_isKind 1 = .ok (.iconst 0, 1) := by decide +kernel
theorem dX7_isKind_2 : decode cX7_isKind 2 = .ok (.aload_n 0, 1) := by decide +kernel
theorem dX7_isKind_3 : decode cX7_isKind 3 = .ok (.getfield 7, 3) := by decide +kernel
theorem dX7_isKind_6 : decode cX7_isKind 6 = .ok (.bipush 27, 2) := by decide +kernel
theorem dX7_isKind_8 : decode cX7_isKind 8 = .ok (.iaload, 1) := by decide +kernel
theorem dX7_isKind_9 : decode cX7_isKind 9 = .ok (.iconst 1, 1) := by decide +kernel
theorem dX7_isKind_10 : decode cX7_isKind 10 = .ok (.isub, 1) := by decide +kernel
theorem dX7_isKind_11 : decode cX7_isKind 11 = .ok (.invokestatic 29, 3) := by decide +kernel
theorem dX7_isKind_14 : decode cX7_isKind 14 = .ok (.ireturn, 1) := by decide +kernel
theorem dX7_isFarmer_0 : decode cX7_isFarmer 0 = .ok (.iload_n 1, 1) := by decide +kernel
theorem dX7_isFarmer_1 : decode cX7_isFarmer 1 = .ok (.iconst 0, 1) := by decide +kernel
theorem dX7_isFarmer_2 : decode cX7_isFarmer 2 = .ok (.aload_n 0, 1) := by decide +kernel
theorem dX7_isFarmer_3 : decode cX7_isFarmer 3 = .ok (.getfield 7, 3) := by decide +kernel
theorem dX7_isFarmer_6 : decode cX7_isFarmer 6 = .ok (.bipush 28, 2) := by decide +kernel
theorem dX7_isFarmer_8 : decode cX7_isFarmer 8 = .ok (.iaload, 1) := by decide +kernel
theorem dX7_isFarmer_9 : decode cX7_isFarmer 9 = .ok (.iconst 1, 1) := by decide +kernel
theorem dX7_isFarmer_10 : decode cX7_isFarmer 10 = .ok (.isub, 1) := by decide +kernel
theorem dX7_isFarmer_11 : decode cX7_isFarmer 11 = .ok (.invokestatic 29, 3) := by decide +kernel
theorem dX7_isFarmer_14 : decode cX7_isFarmer 14 = .ok (.ireturn, 1) := by decide +kernel
theorem dX7_isSack_0 : decode cX7_isSack 0 = .ok (.iload_n 1, 1) := by decide +kernel
theorem dX7_isSack_1 : decode cX7_isSack 1 = .ok (.iconst 0, 1) := by decide +kernel
theorem dX7_isSack_2 : decode cX7_isSack 2 = .ok (.aload_n 0, 1) := by decide +kernel
theorem dX7_isSack_3 : decode cX7_isSack 3 = .ok (.getfield 7, 3) := by decide +kernel
theorem dX7_isSack_6 : decode cX7_isSack 6 = .ok (.bipush 29, 2) := by decide +kernel
theorem dX7_isSack_8 : decode cX7_isSack 8 = .ok (.iaload, 1) := by decide +kernel
theorem dX7_isSack_9 : decode cX7_isSack 9 = .ok (.iconst 1, 1) := by decide +kernel
theorem dX7_isSack_10 : decode cX7_isSack 10 = .ok (.isub, 1) := by decide +kernel
theorem dX7_isSack_11 : decode cX7_isSack 11 = .ok (.invokestatic 29, 3) := by decide +kernel
theorem dX7_isSack_14 : decode cX7_isSack 14 = .ok (.ireturn, 1) := by decide +kernel
theorem dX7_of_0 : decode cX7_of 0 = .ok (.aload_n 0, 1) := by decide +kernel
theorem dX7_of_1 : decode cX7_of 1 = .ok (.getfield 7, 3) := by decide +kernel
theorem dX7_of_4 : decode cX7_of 4 = .ok (.bipush 56, 2) := by decide +kernel
theorem dX7_of_6 : decode cX7_of 6 = .ok (.bipush 13, 2) := by decide +kernel
theorem dX7_of_8 : decode cX7_of 8 = .ok (.iload_n 1, 1) := by decide +kernel
theorem dX7_of_9 : decode cX7_of 9 = .ok (.imul, 1) := by decide +kernel
theorem dX7_of_10 : decode cX7_of 10 = .ok (.iadd, 1) := by decide +kernel
theorem dX7_of_11 : decode cX7_of 11 = .ok (.iload_n 2, 1) := by decide +kernel
theorem dX7_of_12 : decode cX7_of 12 = .ok (.iadd, 1) := by decide +kernel
theorem dX7_of_13 : decode cX7_of 13 = .ok (.iaload, 1) := by decide +kernel
theorem dX7_of_14 : decode cX7_of 14 = .ok (.ireturn, 1) := by decide +kernel
theorem dX7_put_0 : decode cX7_put 0 = .ok (.aload_n 0, 1) := by decide +kernel
theorem dX7_put_1 : decode cX7_put 1 = .ok (.getfield 7, 3) := by decide +kernel
theorem dX7_put_4 : decode cX7_put 4 = .ok (.bipush 56, 2) := by decide +kernel
theorem dX7_put_6 : decode cX7_put 6 = .ok (.bipush 13, 2) := by decide +kernel
theorem dX7_put_8 : decode cX7_put 8 = .ok (.iload_n 1, 1) := by decide +kernel
theorem dX7_put_9 : decode cX7_put 9 = .ok (.imul, 1) := by decide +kernel
theorem dX7_put_10 : decode cX7_put 10 = .ok (.iadd, 1) := by decide +kernel
theorem dX7_put_11 : decode cX7_put 11 = .ok (.iload_n 2, 1) := by decide +kernel
theorem dX7_put_12 : decode cX7_put 12 = .ok (.iadd, 1) := by decide +kernel
theorem dX7_put_13 : decode cX7_put 13 = .ok (.iload_n 3, 1) := by decide +kernel
theorem dX7_put_14 : decode cX7_put 14 = .ok (.iastore, 1) := by decide +kernel
theorem dX7_put_15 : decode cX7_put 15 = .ok (.return_, 1) := by decide +kernel
theorem dX7_hardness_0 : decode cX7_hardness 0 = .ok (.aload_n 0, 1) := by decide +kernel
theorem dX7_hardness_1 : decode cX7_hardness 1 = .ok (.getfield 7, 3) := by decide +kernel
theorem dX7_hardness_4 : decode cX7_hardness 4 = .ok (.bipush 30, 2) := by decide +kernel
theorem dX7_hardness_6 : decode cX7_hardness 6 = .ok (.iconst 3, 1) := by decide +kernel
theorem dX7_hardness_7 : decode cX7_hardness 7 = .ok (.iload_n 1, 1) := by decide +kernel
theorem dX7_hardness_8 : decode cX7_hardness 8 = .ok (.imul, 1) := by decide +kernel
theorem dX7_hardness_9 : decode cX7_hardness 9 = .ok (.iadd, 1) := by decide +kernel
theorem dX7_hardness_10 : decode cX7_hardness 10 = .ok (.iaload, 1) := by decide +kernel
theorem dX7_hardness_11 : decode cX7_hardness 11 = .ok (.ireturn, 1) := by decide +kernel
theorem dX7_keeps_0 : decode cX7_keeps 0 = .ok (.iconst 0, 1) := by decide +kernel
theorem dX7_keeps_1 : decode cX7_keeps 1 = .ok (.istore_n 1, 1) := by decide +kernel
theorem dX7_keeps_2 : decode cX7_keeps 2 = .ok (.iload_n 1, 1) := by decide +kernel
theorem dX7_keeps_3 : decode cX7_keeps 3 = .ok (.sipush 368, 3) := by decide +kernel
theorem dX7_keeps_6 : decode cX7_keeps 6 = .ok (.if_icmp .ge 21, 3) := by decide +kernel
theorem dX7_keeps_9 : decode cX7_keeps 9 = .ok (.aload_n 0, 1) := by decide +kernel
theorem dX7_keeps_10 : decode cX7_keeps 10 = .ok (.getfield 19, 3) := by decide +kernel
theorem dX7_keeps_13 : decode cX7_keeps 13 = .ok (.iload_n 1, 1) := by decide +kernel
theorem dX7_keeps_14 : decode cX7_keeps 14 = .ok (.aload_n 0, 1) := by decide +kernel
theorem dX7_keeps_15 : decode cX7_keeps 15 = .ok (.getfield 7, 3) := by decide +kernel
theorem dX7_keeps_18 : decode cX7_keeps 18 = .ok (.iload_n 1, 1) := by decide +kernel
theorem dX7_keeps_19 : decode cX7_keeps 19 = .ok (.iaload, 1) := by decide +kernel
theorem dX7_keeps_20 : decode cX7_keeps 20 = .ok (.iastore, 1) := by decide +kernel
theorem dX7_keeps_21 : decode cX7_keeps 21 = .ok (.iinc 1 1, 3) := by decide +kernel
theorem dX7_keeps_24 : decode cX7_keeps 24 = .ok (.goto (-22), 3) := by decide +kernel
theorem dX7_keeps_27 : decode cX7_keeps 27 = .ok (.return_, 1) := by decide +kernel
theorem dX7_acted_0 : decode cX7_acted 0 = .ok (.iload_n 1, 1) := by decide +kernel
theorem dX7_acted_1 : decode cX7_acted 1 = .ok (.ldc 33, 2) := by decide +kernel
theorem dX7_acted_3 : decode cX7_acted 3 = .ok (.if_icmp .le 98, 3) := by decide +kernel
theorem dX7_acted_6 : decode cX7_acted 6 = .ok (.aload_n 0, 1) := by decide +kernel
theorem dX7_acted_7 : decode cX7_acted 7 = .ok (.getfield 34, 3) := by decide +kernel
theorem dX7_acted_10 : decode cX7_acted 10 = .ok (.iconst 4, 1) := by decide +kernel
theorem dX7_acted_11 : decode cX7_acted 11 = .ok (.if_icmp .ne 44, 3) := by decide +kernel
theorem dX7_acted_14 : decode cX7_acted 14 = .ok (.iconst 0, 1) := by decide +kernel
theorem dX7_acted_15 : decode cX7_acted 15 = .ok (.istore_n 2, 1) := by decide +kernel
theorem dX7_acted_16 : decode cX7_acted 16 = .ok (.iload_n 2, 1) := by decide +kernel
theorem dX7_acted_17 : decode cX7_acted 17 = .ok (.sipush 1104, 3) := by decide +kernel
theorem dX7_acted_20 : decode cX7_acted 20 = .ok (.if_icmp .ge 25, 3) := by decide +kernel
theorem dX7_acted_23 : decode cX7_acted 23 = .ok (.aload_n 0, 1) := by decide +kernel
theorem dX7_acted_24 : decode cX7_acted 24 = .ok (.getfield 13, 3) := by decide +kernel
theorem dX7_acted_27 : decode cX7_acted 27 = .ok (.iload_n 2, 1) := by decide +kernel
theorem dX7_acted_28 : decode cX7_acted 28 = .ok (.aload_n 0, 1) := by decide +kernel
theorem dX7_acted_29 : decode cX7_acted 29 = .ok (.getfield 13, 3) := by decide +kernel
theorem dX7_acted_32 : decode cX7_acted 32 = .ok (.iload_n 2, 1) := by decide +kernel
theorem dX7_acted_33 : decode cX7_acted 33 = .ok (.sipush 368, 3) := by decide +kernel
theorem dX7_acted_36 : decode cX7_acted 36 = .ok (.iadd, 1) := by decide +kernel
theorem dX7_acted_37 : decode cX7_acted 37 = .ok (.iaload, 1) := by decide +kernel
theorem dX7_acted_38 : decode cX7_acted 38 = .ok (.iastore, 1) := by decide +kernel
theorem dX7_acted_39 : decode cX7_acted 39 = .ok (.iinc 2 1, 3) := by decide +kernel
theorem dX7_acted_42 : decode cX7_acted 42 = .ok (.goto (-26), 3) := by decide +kernel
theorem dX7_acted_45 : decode cX7_acted 45 = .ok (.aload_n 0, 1) := by decide +kernel
theorem dX7_acted_46 : decode cX7_acted 46 = .ok (.dup, 1) := by decide +kernel
theorem dX7_acted_47 : decode cX7_acted 47 = .ok (.getfield 34, 3) := by decide +kernel
theorem dX7_acted_50 : decode cX7_acted 50 = .ok (.iconst 1, 1) := by decide +kernel
theorem dX7_acted_51 : decode cX7_acted 51 = .ok (.isub, 1) := by decide +kernel
theorem dX7_acted_52 : decode cX7_acted 52 = .ok (.putfield 34, 3) := by decide +kernel
theorem dX7_acted_55 : decode cX7_acted 55 = .ok (.iconst 0, 1) := by decide +kernel
theorem dX7_acted_56 : decode cX7_acted 56 = .ok (.istore_n 2, 1) := by decide +kernel
theorem dX7_acted_57 : decode cX7_acted 57 = .ok (.iload_n 2, 1) := by decide +kernel
theorem dX7_acted_58 : decode cX7_acted 58 = .ok (.sipush 368, 3) := by decide +kernel
theorem dX7_acted_61 : decode cX7_acted 61 = .ok (.if_icmp .ge 30, 3) := by decide +kernel
theorem dX7_acted_64 : decode cX7_acted 64 = .ok (.aload_n 0, 1) := by decide +kernel
theorem dX7_acted_65 : decode cX7_acted 65 = .ok (.getfield 13, 3) := by decide +kernel
theorem dX7_acted_68 : decode cX7_acted 68 = .ok (.sipush 368, 3) := by decide +kernel
theorem dX7_acted_71 : decode cX7_acted 71 = .ok (.aload_n 0, 1) := by decide +kernel
theorem dX7_acted_72 : decode cX7_acted 72 = .ok (.getfield 34, 3) := by decide +kernel
theorem dX7_acted_75 : decode cX7_acted 75 = .ok (.imul, 1) := by decide +kernel
theorem dX7_acted_76 : decode cX7_acted 76 = .ok (.iload_n 2, 1) := by decide +kernel
theorem dX7_acted_77 : decode cX7_acted 77 = .ok (.iadd, 1) := by decide +kernel
theorem dX7_acted_78 : decode cX7_acted 78 = .ok (.aload_n 0, 1) := by decide +kernel
theorem dX7_acted_79 : decode cX7_acted 79 = .ok (.getfield 19, 3) := by decide +kernel
theorem dX7_acted_82 : decode cX7_acted 82 = .ok (.iload_n 2, 1) := by decide +kernel
theorem dX7_acted_83 : decode cX7_acted 83 = .ok (.iaload, 1) := by decide +kernel
theorem dX7_acted_84 : decode cX7_acted 84 = .ok (.iastore, 1) := by decide +kernel
theorem dX7_acted_85 : decode cX7_acted 85 = .ok (.iinc 2 1, 3) := by decide +kernel
theorem dX7_acted_88 : decode cX7_acted 88 = .ok (.goto (-31), 3) := by decide +kernel
theorem dX7_acted_91 : decode cX7_acted 91 = .ok (.aload_n 0, 1) := by decide +kernel
theorem dX7_acted_92 : decode cX7_acted 92 = .ok (.dup, 1) := by decide +kernel
theorem dX7_acted_93 : decode cX7_acted 93 = .ok (.getfield 34, 3) := by decide +kernel
theorem dX7_acted_96 : decode cX7_acted 96 = .ok (.iconst 1, 1) := by decide +kernel
theorem dX7_acted_97 : decode cX7_acted 97 = .ok (.iadd, 1) := by decide +kernel
theorem dX7_acted_98 : decode cX7_acted 98 = .ok (.putfield 34, 3) := by decide +kernel
theorem dX7_acted_101 : decode cX7_acted 101 = .ok (.iload_n 1, 1) := by decide +kernel
theorem dX7_acted_102 : decode cX7_acted 102 = .ok (.ireturn, 1) := by decide +kernel
theorem dX7_lays_0 : decode cX7_lays 0 = .ok (.iconst 0, 1) := by decide +kernel
theorem dX7_lays_1 : decode cX7_lays 1 = .ok (.istore_n 1, 1) := by decide +kernel
theorem dX7_lays_2 : decode cX7_lays 2 = .ok (.iload_n 1, 1) := by decide +kernel
theorem dX7_lays_3 : decode cX7_lays 3 = .ok (.sipush 368, 3) := by decide +kernel
theorem dX7_lays_6 : decode cX7_lays 6 = .ok (.if_icmp .ge 21, 3) := by decide +kernel
theorem dX7_lays_9 : decode cX7_lays 9 = .ok (.aload_n 0, 1) := by decide +kernel
theorem dX7_lays_10 : decode cX7_lays 10 = .ok (.getfield 16, 3) := by decide +kernel
theorem dX7_lays_13 : decode cX7_lays 13 = .ok (.iload_n 1, 1) := by decide +kernel
theorem dX7_lays_14 : decode cX7_lays 14 = .ok (.aload_n 0, 1) := by decide +kernel
theorem dX7_lays_15 : decode cX7_lays 15 = .ok (.getfield 7, 3) := by decide +kernel
theorem dX7_lays_18 : decode cX7_lays 18 = .ok (.iload_n 1, 1) := by decide +kernel
theorem dX7_lays_19 : decode cX7_lays 19 = .ok (.iaload, 1) := by decide +kernel
theorem dX7_lays_20 : decode cX7_lays 20 = .ok (.iastore, 1) := by decide +kernel
theorem dX7_lays_21 : decode cX7_lays 21 = .ok (.iinc 1 1, 3) := by decide +kernel
theorem dX7_lays_24 : decode cX7_lays 24 = .ok (.goto (-22), 3) := by decide +kernel
theorem dX7_lays_27 : decode cX7_lays 27 = .ok (.return_, 1) := by decide +kernel
theorem dX7_restores_0 : decode cX7_restores 0 = .ok (.iconst 0, 1) := by decide +kernel
theorem dX7_restores_1 : decode cX7_restores 1 = .ok (.istore_n 1, 1) := by decide +kernel
theorem dX7_restores_2 : decode cX7_restores 2 = .ok (.iload_n 1, 1) := by decide +kernel
theorem dX7_restores_3 : decode cX7_restores 3 = .ok (.sipush 368, 3) := by decide +kernel
theorem dX7_restores_6 : decode cX7_restores 6 = .ok (.if_icmp .ge 21, 3) := by decide +kernel
theorem dX7_restores_9 : decode cX7_restores 9 = .ok (.aload_n 0, 1) := by decide +kernel
theorem dX7_restores_10 : decode cX7_restores 10 = .ok (.getfield 7, 3) := by decide +kernel
theorem dX7_restores_13 : decode cX7_restores 13 = .ok (.iload_n 1, 1) := by decide +kernel
theorem dX7_restores_14 : decode cX7_restores 14 = .ok (.aload_n 0, 1) := by decide +kernel
theorem dX7_restores_15 : decode cX7_restores 15 = .ok (.getfield 16, 3) := by decide +kernel
theorem dX7_restores_18 : decode cX7_restores 18 = .ok (.iload_n 1, 1) := by decide +kernel
theorem dX7_restores_19 : decode cX7_restores 19 = .ok (.iaload, 1) := by decide +kernel
theorem dX7_restores_20 : decode cX7_restores 20 = .ok (.iastore, 1) := by decide +kernel
theorem dX7_restores_21 : decode cX7_restores 21 = .ok (.iinc 1 1, 3) := by decide +kernel
theorem dX7_restores_24 : decode cX7_restores 24 = .ok (.goto (-22), 3) := by decide +kernel
theorem dX7_restores_27 : decode cX7_restores 27 = .ok (.return_, 1) := by decide +kernel
theorem dX7_toll_0 : decode cX7_toll 0 = .ok (.aload_n 0, 1) := by decide +kernel
theorem dX7_toll_1 : decode cX7_toll 1 = .ok (.iload_n 1, 1) := by decide +kernel
theorem dX7_toll_2 : decode cX7_toll 2 = .ok (.iconst 4, 1) := by decide +kernel
theorem dX7_toll_3 : decode cX7_toll 3 = .ok (.invokevirtual 38, 3) := by decide +kernel
theorem dX7_toll_6 : decode cX7_toll 6 = .ok (.aload_n 0, 1) := by decide +kernel
theorem dX7_toll_7 : decode cX7_toll 7 = .ok (.iload_n 1, 1) := by decide +kernel
theorem dX7_toll_8 : decode cX7_toll 8 = .ok (.iconst 5, 1) := by decide +kernel
theorem dX7_toll_9 : decode cX7_toll 9 = .ok (.invokevirtual 38, 3) := by decide +kernel
theorem dX7_toll_12 : decode cX7_toll 12 = .ok (.imul, 1) := by decide +kernel
theorem dX7_toll_13 : decode cX7_toll 13 = .ok (.bipush 100, 2) := by decide +kernel
theorem dX7_toll_15 : decode cX7_toll 15 = .ok (.idiv, 1) := by decide +kernel
theorem dX7_toll_16 : decode cX7_toll 16 = .ok (.ireturn, 1) := by decide +kernel
theorem dX7_dust_0 : decode cX7_dust 0 = .ok (.aload_n 0, 1) := by decide +kernel
theorem dX7_dust_1 : decode cX7_dust 1 = .ok (.iload_n 1, 1) := by decide +kernel
theorem dX7_dust_2 : decode cX7_dust 2 = .ok (.iconst 4, 1) := by decide +kernel
theorem dX7_dust_3 : decode cX7_dust 3 = .ok (.invokevirtual 38, 3) := by decide +kernel
theorem dX7_dust_6 : decode cX7_dust 6 = .ok (.aload_n 0, 1) := by decide +kernel
theorem dX7_dust_7 : decode cX7_dust 7 = .ok (.iload_n 1, 1) := by decide +kernel
theorem dX7_dust_8 : decode cX7_dust 8 = .ok (.invokevirtual 42, 3) := by decide +kernel
theorem dX7_dust_11 : decode cX7_dust 11 = .ok (.isub, 1) := by decide +kernel
theorem dX7_dust_12 : decode cX7_dust 12 = .ok (.aload_n 0, 1) := by decide +kernel
theorem dX7_dust_13 : decode cX7_dust 13 = .ok (.getfield 7, 3) := by decide +kernel
theorem dX7_dust_16 : decode cX7_dust 16 = .ok (.bipush 30, 2) := by decide +kernel
theorem dX7_dust_18 : decode cX7_dust 18 = .ok (.iconst 3, 1) := by decide +kernel
theorem dX7_dust_19 : decode cX7_dust 19 = .ok (.aload_n 0, 1) := by decide +kernel
theorem dX7_dust_20 : decode cX7_dust 20 = .ok (.iload_n 1, 1) := by decide +kernel
theorem dX7_dust_21 : decode cX7_dust 21 = .ok (.iconst 1, 1) := by decide +kernel
theorem dX7_dust_22 : decode cX7_dust 22 = .ok (.invokevirtual 38, 3) := by decide +kernel
theorem dX7_dust_25 : decode cX7_dust 25 = .ok (.imul, 1) := by decide +kernel
theorem dX7_dust_26 : decode cX7_dust 26 = .ok (.iadd, 1) := by decide +kernel
theorem dX7_dust_27 : decode cX7_dust 27 = .ok (.iconst 1, 1) := by decide +kernel
theorem dX7_dust_28 : decode cX7_dust 28 = .ok (.iadd, 1) := by decide +kernel
theorem dX7_dust_29 : decode cX7_dust 29 = .ok (.iaload, 1) := by decide +kernel
theorem dX7_dust_30 : decode cX7_dust 30 = .ok (.imul, 1) := by decide +kernel
theorem dX7_dust_31 : decode cX7_dust 31 = .ok (.bipush 100, 2) := by decide +kernel
theorem dX7_dust_33 : decode cX7_dust 33 = .ok (.idiv, 1) := by decide +kernel
theorem dX7_dust_34 : decode cX7_dust 34 = .ok (.ireturn, 1) := by decide +kernel
theorem dX7_grain_0 : decode cX7_grain 0 = .ok (.aload_n 0, 1) := by decide +kernel
theorem dX7_grain_1 : decode cX7_grain 1 = .ok (.iload_n 1, 1) := by decide +kernel
theorem dX7_grain_2 : decode cX7_grain 2 = .ok (.iconst 3, 1) := by decide +kernel
theorem dX7_grain_3 : decode cX7_grain 3 = .ok (.invokevirtual 38, 3) := by decide +kernel
theorem dX7_grain_6 : decode cX7_grain 6 = .ok (.iconst 3, 1) := by decide +kernel
theorem dX7_grain_7 : decode cX7_grain 7 = .ok (.if_icmp .ne 7, 3) := by decide +kernel
theorem dX7_grain_10 : decode cX7_grain 10 = .ok (.iconst 0, 1) := by decide +kernel
theorem dX7_grain_11 : decode cX7_grain 11 = .ok (.goto 16, 3) := by decide +kernel
theorem dX7_grain_14 : decode cX7_grain 14 = .ok (.aload_n 0, 1) := by decide +kernel
theorem dX7_grain_15 : decode cX7_grain 15 = .ok (.iload_n 1, 1) := by decide +kernel
theorem dX7_grain_16 : decode cX7_grain 16 = .ok (.iconst 2, 1) := by decide +kernel
theorem dX7_grain_17 : decode cX7_grain 17 = .ok (.invokevirtual 38, 3) := by decide +kernel
theorem dX7_grain_20 : decode cX7_grain 20 = .ok (.aload_n 0, 1) := by decide +kernel
theorem dX7_grain_21 : decode cX7_grain 21 = .ok (.iload_n 1, 1) := by decide +kernel
theorem dX7_grain_22 : decode cX7_grain 22 = .ok (.iconst 4, 1) := by decide +kernel
theorem dX7_grain_23 : decode cX7_grain 23 = .ok (.invokevirtual 38, 3) := by decide +kernel
theorem dX7_grain_26 : decode cX7_grain 26 = .ok (.isub, 1) := by decide +kernel
theorem dX7_grain_27 : decode cX7_grain 27 = .ok (.ireturn, 1) := by decide +kernel
theorem dX7_flour_0 : decode cX7_flour 0 = .ok (.aload_n 0, 1) := by decide +kernel
theorem dX7_flour_1 : decode cX7_flour 1 = .ok (.iload_n 1, 1) := by decide +kernel
theorem dX7_flour_2 : decode cX7_flour 2 = .ok (.iconst 3, 1) := by decide +kernel
theorem dX7_flour_3 : decode cX7_flour 3 = .ok (.invokevirtual 38, 3) := by decide +kernel
theorem dX7_flour_6 : decode cX7_flour 6 = .ok (.iconst 3, 1) := by decide +kernel
theorem dX7_flour_7 : decode cX7_flour 7 = .ok (.if_icmp .ne 7, 3) := by decide +kernel
theorem dX7_flour_10 : decode cX7_flour 10 = .ok (.iconst 0, 1) := by decide +kernel
theorem dX7_flour_11 : decode cX7_flour 11 = .ok (.goto 37, 3) := by decide +kernel
theorem dX7_flour_14 : decode cX7_flour 14 = .ok (.aload_n 0, 1) := by decide +kernel
theorem dX7_flour_15 : decode cX7_flour 15 = .ok (.iload_n 1, 1) := by decide +kernel
theorem dX7_flour_16 : decode cX7_flour 16 = .ok (.iconst 4, 1) := by decide +kernel
theorem dX7_flour_17 : decode cX7_flour 17 = .ok (.invokevirtual 38, 3) := by decide +kernel
theorem dX7_flour_20 : decode cX7_flour 20 = .ok (.aload_n 0, 1) := by decide +kernel
theorem dX7_flour_21 : decode cX7_flour 21 = .ok (.iload_n 1, 1) := by decide +kernel
theorem dX7_flour_22 : decode cX7_flour 22 = .ok (.invokevirtual 42, 3) := by decide +kernel
theorem dX7_flour_25 : decode cX7_flour 25 = .ok (.isub, 1) := by decide +kernel
theorem dX7_flour_26 : decode cX7_flour 26 = .ok (.aload_n 0, 1) := by decide +kernel
theorem dX7_flour_27 : decode cX7_flour 27 = .ok (.iload_n 1, 1) := by decide +kernel
theorem dX7_flour_28 : decode cX7_flour 28 = .ok (.invokevirtual 46, 3) := by decide +kernel
theorem dX7_flour_31 : decode cX7_flour 31 = .ok (.isub, 1) := by decide +kernel
theorem dX7_flour_32 : decode cX7_flour 32 = .ok (.aload_n 0, 1) := by decide +kernel
theorem dX7_flour_33 : decode cX7_flour 33 = .ok (.iload_n 1, 1) := by decide +kernel
theorem dX7_flour_34 : decode cX7_flour 34 = .ok (.bipush 6, 2) := by decide +kernel
theorem dX7_flour_36 : decode cX7_flour 36 = .ok (.invokevirtual 38, 3) := by decide +kernel
theorem dX7_flour_39 : decode cX7_flour 39 = .ok (.isub, 1) := by decide +kernel
theorem dX7_flour_40 : decode cX7_flour 40 = .ok (.aload_n 0, 1) := by decide +kernel
theorem dX7_flour_41 : decode cX7_flour 41 = .ok (.iload_n 1, 1) := by decide +kernel
theorem dX7_flour_42 : decode cX7_flour 42 = .ok (.bipush 10, 2) := by decide +kernel
theorem dX7_flour_44 : decode cX7_flour 44 = .ok (.invokevirtual 38, 3) := by decide +kernel
theorem dX7_flour_47 : decode cX7_flour 47 = .ok (.isub, 1) := by decide +kernel
theorem dX7_flour_48 : decode cX7_flour 48 = .ok (.ireturn, 1) := by decide +kernel
theorem dX7_came_0 : decode cX7_came 0 = .ok (.iconst 0, 1) := by decide +kernel
theorem dX7_came_1 : decode cX7_came 1 = .ok (.istore_n 2, 1) := by decide +kernel
theorem dX7_came_2 : decode cX7_came 2 = .ok (.iconst 0, 1) := by decide +kernel
theorem dX7_came_3 : decode cX7_came 3 = .ok (.istore_n 3, 1) := by decide +kernel
theorem dX7_came_4 : decode cX7_came 4 = .ok (.iload_n 3, 1) := by decide +kernel
theorem dX7_came_5 : decode cX7_came 5 = .ok (.aload_n 0, 1) := by decide +kernel
theorem dX7_came_6 : decode cX7_came 6 = .ok (.getfield 7, 3) := by decide +kernel
theorem dX7_came_9 : decode cX7_came 9 = .ok (.bipush 29, 2) := by decide +kernel
theorem dX7_came_11 : decode cX7_came 11 = .ok (.iaload, 1) := by decide +kernel
theorem dX7_came_12 : decode cX7_came 12 = .ok (.if_icmp .ge 38, 3) := by decide +kernel
theorem dX7_came_15 : decode cX7_came 15 = .ok (.iload_n 2, 1) := by decide +kernel
theorem dX7_came_16 : decode cX7_came 16 = .ok (.aload_n 0, 1) := by decide +kernel
theorem dX7_came_17 : decode cX7_came 17 = .ok (.iload_n 3, 1) := by decide +kernel
theorem dX7_came_18 : decode cX7_came 18 = .ok (.iconst 0, 1) := by decide +kernel
theorem dX7_came_19 : decode cX7_came 19 = .ok (.invokevirtual 38, 3) := by decide +kernel
theorem dX7_came_22 : decode cX7_came 22 = .ok (.iload_n 1, 1) := by decide +kernel
theorem dX7_came_23 : decode cX7_came 23 = .ok (.if_icmp .ne 18, 3) := by decide +kernel
theorem dX7_came_26 : decode cX7_came 26 = .ok (.aload_n 0, 1) := by decide +kernel
theorem dX7_came_27 : decode cX7_came 27 = .ok (.iload_n 3, 1) := by decide +kernel
theorem dX7_came_28 : decode cX7_came 28 = .ok (.bipush 12, 2) := by decide +kernel
theorem dX7_came_30 : decode cX7_came 30 = .ok (.invokevirtual 38, 3) := by decide +kernel
theorem dX7_came_33 : decode cX7_came 33 = .ok (.iconst 1, 1) := by decide +kernel
theorem dX7_came_34 : decode cX7_came 34 = .ok (.if_icmp .ne 7, 3) := by decide +kernel
theorem dX7_came_37 : decode cX7_came 37 = .ok (.iconst 1, 1) := by decide +kernel
theorem dX7_came_38 : decode cX7_came 38 = .ok (.goto 4, 3) := by decide +kernel
theorem dX7_came_41 : decode cX7_came 41 = .ok (.iconst 0, 1) := by decide +kernel
theorem dX7_came_42 : decode cX7_came 42 = .ok (.iadd, 1) := by decide +kernel
theorem dX7_came_43 : decode cX7_came 43 = .ok (.istore_n 2, 1) := by decide +kernel
theorem dX7_came_44 : decode cX7_came 44 = .ok (.iinc 3 1, 3) := by decide +kernel
theorem dX7_came_47 : decode cX7_came 47 = .ok (.goto (-43), 3) := by decide +kernel
theorem dX7_came_50 : decode cX7_came 50 = .ok (.iload_n 2, 1) := by decide +kernel
theorem dX7_came_51 : decode cX7_came 51 = .ok (.ireturn, 1) := by decide +kernel
theorem dX7_weight_0 : decode cX7_weight 0 = .ok (.aload_n 0, 1) := by decide +kernel
theorem dX7_weight_1 : decode cX7_weight 1 = .ok (.getfield 7, 3) := by decide +kernel
theorem dX7_weight_4 : decode cX7_weight 4 = .ok (.bipush 12, 2) := by decide +kernel
theorem dX7_weight_6 : decode cX7_weight 6 = .ok (.iaload, 1) := by decide +kernel
theorem dX7_weight_7 : decode cX7_weight 7 = .ok (.tableswitch 77 1 3 #[25, 32, 43], 25) := by decide +kernel
theorem dX7_weight_32 : decode cX7_weight 32 = .ok (.aload_n 0, 1) := by decide +kernel
theorem dX7_weight_33 : decode cX7_weight 33 = .ok (.iload_n 1, 1) := by decide +kernel
theorem dX7_weight_34 : decode cX7_weight 34 = .ok (.iconst 2, 1) := by decide +kernel
theorem dX7_weight_35 : decode cX7_weight 35 = .ok (.invokevirtual 38, 3) := by decide +kernel
theorem dX7_weight_38 : decode cX7_weight 38 = .ok (.ireturn, 1) := by decide +kernel
theorem dX7_weight_39 : decode cX7_weight 39 = .ok (.aload_n 0, 1) := by decide +kernel
theorem dX7_weight_40 : decode cX7_weight 40 = .ok (.aload_n 0, 1) := by decide +kernel
theorem dX7_weight_41 : decode cX7_weight 41 = .ok (.iload_n 1, 1) := by decide +kernel
theorem dX7_weight_42 : decode cX7_weight 42 = .ok (.iconst 0, 1) := by decide +kernel
theorem dX7_weight_43 : decode cX7_weight 43 = .ok (.invokevirtual 38, 3) := by decide +kernel
theorem dX7_weight_46 : decode cX7_weight 46 = .ok (.invokevirtual 49, 3) := by decide +kernel
theorem dX7_weight_49 : decode cX7_weight 49 = .ok (.ireturn, 1) := by decide +kernel
theorem dX7_weight_50 : decode cX7_weight 50 = .ok (.aload_n 0, 1) := by decide +kernel
theorem dX7_weight_51 : decode cX7_weight 51 = .ok (.iload_n 1, 1) := by decide +kernel
theorem dX7_weight_52 : decode cX7_weight 52 = .ok (.iconst 1, 1) := by decide +kernel
theorem dX7_weight_53 : decode cX7_weight 53 = .ok (.invokevirtual 38, 3) := by decide +kernel
theorem dX7_weight_56 : decode cX7_weight 56 = .ok (.aload_n 0, 1) := by decide +kernel
theorem dX7_weight_57 : decode cX7_weight 57 = .ok (.getfield 7, 3) := by decide +kernel
theorem dX7_weight_60 : decode cX7_weight 60 = .ok (.bipush 25, 2) := by decide +kernel
theorem dX7_weight_62 : decode cX7_weight 62 = .ok (.iaload, 1) := by decide +kernel
theorem dX7_weight_63 : decode cX7_weight 63 = .ok (.if_icmp .ne 7, 3) := by decide +kernel
theorem dX7_weight_66 : decode cX7_weight 66 = .ok (.iconst 0, 1) := by decide +kernel
theorem dX7_weight_67 : decode cX7_weight 67 = .ok (.goto 5, 3) := by decide +kernel
theorem dX7_weight_70 : decode cX7_weight 70 = .ok (.bipush 10, 2) := by decide +kernel
theorem dX7_weight_72 : decode cX7_weight 72 = .ok (.aload_n 0, 1) := by decide +kernel
theorem dX7_weight_73 : decode cX7_weight 73 = .ok (.aload_n 0, 1) := by decide +kernel
theorem dX7_weight_74 : decode cX7_weight 74 = .ok (.iload_n 1, 1) := by decide +kernel
theorem dX7_weight_75 : decode cX7_weight 75 = .ok (.iconst 1, 1) := by decide +kernel
theorem dX7_weight_76 : decode cX7_weight 76 = .ok (.invokevirtual 38, 3) := by decide +kernel
theorem dX7_weight_79 : decode cX7_weight 79 = .ok (.invokevirtual 52, 3) := by decide +kernel
theorem dX7_weight_82 : decode cX7_weight 82 = .ok (.iadd, 1) := by decide +kernel
theorem dX7_weight_83 : decode cX7_weight 83 = .ok (.ireturn, 1) := by decide +kernel
theorem dX7_weight_84 : decode cX7_weight 84 = .ok (.iconst 0, 1) := by decide +kernel
theorem dX7_weight_85 : decode cX7_weight 85 = .ok (.ireturn, 1) := by decide +kernel
theorem dX7_placeOf_0 : decode cX7_placeOf 0 = .ok (.iconst 0, 1) := by decide +kernel
theorem dX7_placeOf_1 : decode cX7_placeOf 1 = .ok (.istore_n 2, 1) := by decide +kernel
theorem dX7_placeOf_2 : decode cX7_placeOf 2 = .ok (.iconst 0, 1) := by decide +kernel
theorem dX7_placeOf_3 : decode cX7_placeOf 3 = .ok (.istore_n 3, 1) := by decide +kernel
theorem dX7_placeOf_4 : decode cX7_placeOf 4 = .ok (.iload_n 3, 1) := by decide +kernel
theorem dX7_placeOf_5 : decode cX7_placeOf 5 = .ok (.aload_n 0, 1) := by decide +kernel
theorem dX7_placeOf_6 : decode cX7_placeOf 6 = .ok (.getfield 7, 3) := by decide +kernel
theorem dX7_placeOf_9 : decode cX7_placeOf 9 = .ok (.bipush 29, 2) := by decide +kernel
theorem dX7_placeOf_11 : decode cX7_placeOf 11 = .ok (.iaload, 1) := by decide +kernel
theorem dX7_placeOf_12 : decode cX7_placeOf 12 = .ok (.if_icmp .ge 74, 3) := by decide +kernel
theorem dX7_placeOf_15 : decode cX7_placeOf 15 = .ok (.aload_n 0, 1) := by decide +kernel
theorem dX7_placeOf_16 : decode cX7_placeOf 16 = .ok (.iload_n 3, 1) := by decide +kernel
theorem dX7_placeOf_17 : decode cX7_placeOf 17 = .ok (.invokevirtual 55, 3) := by decide +kernel
theorem dX7_placeOf_20 : decode cX7_placeOf 20 = .ok (.aload_n 0, 1) := by decide +kernel
theorem dX7_placeOf_21 : decode cX7_placeOf 21 = .ok (.iload_n 1, 1) := by decide +kernel
theorem dX7_placeOf_22 : decode cX7_placeOf 22 = .ok (.invokevirtual 55, 3) := by decide +kernel
theorem dX7_placeOf_25 : decode cX7_placeOf 25 = .ok (.if_icmp .lt 21, 3) := by decide +kernel
theorem dX7_placeOf_28 : decode cX7_placeOf 28 = .ok (.aload_n 0, 1) := by decide +kernel
theorem dX7_placeOf_29 : decode cX7_placeOf 29 = .ok (.iload_n 3, 1) := by decide +kernel
theorem dX7_placeOf_30 : decode cX7_placeOf 30 = .ok (.invokevirtual 55, 3) := by decide +kernel
theorem dX7_placeOf_33 : decode cX7_placeOf 33 = .ok (.aload_n 0, 1) := by decide +kernel
theorem dX7_placeOf_34 : decode cX7_placeOf 34 = .ok (.iload_n 1, 1) := by decide +kernel
theorem dX7_placeOf_35 : decode cX7_placeOf 35 = .ok (.invokevirtual 55, 3) := by decide +kernel
theorem dX7_placeOf_38 : decode cX7_placeOf 38 = .ok (.if_icmp .ne 12, 3) := by decide +kernel
theorem dX7_placeOf_41 : decode cX7_placeOf 41 = .ok (.iload_n 3, 1) := by decide +kernel
theorem dX7_placeOf_42 : decode cX7_placeOf 42 = .ok (.iload_n 1, 1) := by decide +kernel
theorem dX7_placeOf_43 : decode cX7_placeOf 43 = .ok (.if_icmp .ge 7, 3) := by decide +kernel
theorem dX7_placeOf_46 : decode cX7_placeOf 46 = .ok (.iconst 1, 1) := by decide +kernel
theorem dX7_placeOf_47 : decode cX7_placeOf 47 = .ok (.goto 4, 3) := by decide +kernel
theorem dX7_placeOf_50 : decode cX7_placeOf 50 = .ok (.iconst 0, 1) := by decide +kernel
theorem dX7_placeOf_51 : decode cX7_placeOf 51 = .ok (.istore 4, 2) := by decide +kernel
theorem dX7_placeOf_53 : decode cX7_placeOf 53 = .ok (.iload_n 2, 1) := by decide +kernel
theorem dX7_placeOf_54 : decode cX7_placeOf 54 = .ok (.aload_n 0, 1) := by decide +kernel
theorem dX7_placeOf_55 : decode cX7_placeOf 55 = .ok (.iload_n 3, 1) := by decide +kernel
theorem dX7_placeOf_56 : decode cX7_placeOf 56 = .ok (.iconst 3, 1) := by decide +kernel
theorem dX7_placeOf_57 : decode cX7_placeOf 57 = .ok (.invokevirtual 38, 3) := by decide +kernel
theorem dX7_placeOf_60 : decode cX7_placeOf 60 = .ok (.ifCond .ne 17, 3) := by decide +kernel
theorem dX7_placeOf_63 : decode cX7_placeOf 63 = .ok (.iload_n 3, 1) := by decide +kernel
theorem dX7_placeOf_64 : decode cX7_placeOf 64 = .ok (.iload_n 1, 1) := by decide +kernel
theorem dX7_placeOf_65 : decode cX7_placeOf 65 = .ok (.if_icmp .eq 12, 3) := by decide +kernel
theorem dX7_placeOf_68 : decode cX7_placeOf 68 = .ok (.iload 4, 2) := by decide +kernel
theorem dX7_placeOf_70 : decode cX7_placeOf 70 = .ok (.ifCond .eq 7, 3) := by decide +kernel
theorem dX7_placeOf_73 : decode cX7_placeOf 73 = .ok (.iconst 1, 1) := by decide +kernel
theorem dX7_placeOf_74 : decode cX7_placeOf 74 = .ok (.goto 4, 3) := by decide +kernel
theorem dX7_placeOf_77 : decode cX7_placeOf 77 = .ok (.iconst 0, 1) := by decide +kernel
theorem dX7_placeOf_78 : decode cX7_placeOf 78 = .ok (.iadd, 1) := by decide +kernel
theorem dX7_placeOf_79 : decode cX7_placeOf 79 = .ok (.istore_n 2, 1) := by decide +kernel
theorem dX7_placeOf_80 : decode cX7_placeOf 80 = .ok (.iinc 3 1, 3) := by decide +kernel
theorem dX7_placeOf_83 : decode cX7_placeOf 83 = .ok (.goto (-79), 3) := by decide +kernel
theorem dX7_placeOf_86 : decode cX7_placeOf 86 = .ok (.iload_n 2, 1) := by decide +kernel
theorem dX7_placeOf_87 : decode cX7_placeOf 87 = .ok (.ireturn, 1) := by decide +kernel
theorem dX7_waitingAt_0 : decode cX7_waitingAt 0 = .ok (.iconst 0, 1) := by decide +kernel
theorem dX7_waitingAt_1 : decode cX7_waitingAt 1 = .ok (.istore_n 2, 1) := by decide +kernel
theorem dX7_waitingAt_2 : decode cX7_waitingAt 2 = .ok (.iload_n 2, 1) := by decide +kernel
theorem dX7_waitingAt_3 : decode cX7_waitingAt 3 = .ok (.aload_n 0, 1) := by decide +kernel
theorem dX7_waitingAt_4 : decode cX7_waitingAt 4 = .ok (.getfield 7, 3) := by decide +kernel
theorem dX7_waitingAt_7 : decode cX7_waitingAt 7 = .ok (.bipush 29, 2) := by decide +kernel
theorem dX7_waitingAt_9 : decode cX7_waitingAt 9 = .ok (.iaload, 1) := by decide +kernel
theorem dX7_waitingAt_10 : decode cX7_waitingAt 10 = .ok (.if_icmp .ge 29, 3) := by decide +kernel
theorem dX7_waitingAt_13 : decode cX7_waitingAt 13 = .ok (.aload_n 0, 1) := by decide +kernel
theorem dX7_waitingAt_14 : decode cX7_waitingAt 14 = .ok (.iload_n 2, 1) := by decide +kernel
theorem dX7_waitingAt_15 : decode cX7_waitingAt 15 = .ok (.iconst 3, 1) := by decide +kernel
theorem dX7_waitingAt_16 : decode cX7_waitingAt 16 = .ok (.invokevirtual 38, 3) := by decide +kernel
theorem dX7_waitingAt_19 : decode cX7_waitingAt 19 = .ok (.ifCond .ne 14, 3) := by decide +kernel
theorem dX7_waitingAt_22 : decode cX7_waitingAt 22 = .ok (.aload_n 0, 1) := by decide +kernel
theorem dX7_waitingAt_23 : decode cX7_waitingAt 23 = .ok (.iload_n 2, 1) := by decide +kernel
theorem dX7_waitingAt_24 : decode cX7_waitingAt 24 = .ok (.invokevirtual 58, 3) := by decide +kernel
theorem dX7_waitingAt_27 : decode cX7_waitingAt 27 = .ok (.iload_n 1, 1) := by decide +kernel
theorem dX7_waitingAt_28 : decode cX7_waitingAt 28 = .ok (.if_icmp .ne 5, 3) := by decide +kernel
theorem dX7_waitingAt_31 : decode cX7_waitingAt 31 = .ok (.iload_n 2, 1) := by decide +kernel
theorem dX7_waitingAt_32 : decode cX7_waitingAt 32 = .ok (.ireturn, 1) := by decide +kernel
theorem dX7_waitingAt_33 : decode cX7_waitingAt 33 = .ok (.iinc 2 1, 3) := by decide +kernel
theorem dX7_waitingAt_36 : decode cX7_waitingAt 36 = .ok (.goto (-34), 3) := by decide +kernel
theorem dX7_waitingAt_39 : decode cX7_waitingAt 39 = .ok (.iconst (-1), 1) := by decide +kernel
theorem dX7_waitingAt_40 : decode cX7_waitingAt 40 = .ok (.ireturn, 1) := by decide +kernel
theorem dX7_sacksIn_0 : decode cX7_sacksIn 0 = .ok (.iconst 0, 1) := by decide +kernel
theorem dX7_sacksIn_1 : decode cX7_sacksIn 1 = .ok (.istore_n 2, 1) := by decide +kernel
theorem dX7_sacksIn_2 : decode cX7_sacksIn 2 = .ok (.iconst 0, 1) := by decide +kernel
theorem dX7_sacksIn_3 : decode cX7_sacksIn 3 = .ok (.istore_n 3, 1) := by decide +kernel
theorem dX7_sacksIn_4 : decode cX7_sacksIn 4 = .ok (.iload_n 3, 1) := by decide +kernel
theorem dX7_sacksIn_5 : decode cX7_sacksIn 5 = .ok (.aload_n 0, 1) := by decide +kernel
theorem dX7_sacksIn_6 : decode cX7_sacksIn 6 = .ok (.getfield 7, 3) := by decide +kernel
theorem dX7_sacksIn_9 : decode cX7_sacksIn 9 = .ok (.bipush 29, 2) := by decide +kernel
theorem dX7_sacksIn_11 : decode cX7_sacksIn 11 = .ok (.iaload, 1) := by decide +kernel
theorem dX7_sacksIn_12 : decode cX7_sacksIn 12 = .ok (.if_icmp .ge 27, 3) := by decide +kernel
theorem dX7_sacksIn_15 : decode cX7_sacksIn 15 = .ok (.iload_n 2, 1) := by decide +kernel
theorem dX7_sacksIn_16 : decode cX7_sacksIn 16 = .ok (.aload_n 0, 1) := by decide +kernel
theorem dX7_sacksIn_17 : decode cX7_sacksIn 17 = .ok (.iload_n 3, 1) := by decide +kernel
theorem dX7_sacksIn_18 : decode cX7_sacksIn 18 = .ok (.iconst 3, 1) := by decide +kernel
theorem dX7_sacksIn_19 : decode cX7_sacksIn 19 = .ok (.invokevirtual 38, 3) := by decide +kernel
theorem dX7_sacksIn_22 : decode cX7_sacksIn 22 = .ok (.iload_n 1, 1) := by decide +kernel
theorem dX7_sacksIn_23 : decode cX7_sacksIn 23 = .ok (.if_icmp .ne 7, 3) := by decide +kernel
theorem dX7_sacksIn_26 : decode cX7_sacksIn 26 = .ok (.iconst 1, 1) := by decide +kernel
theorem dX7_sacksIn_27 : decode cX7_sacksIn 27 = .ok (.goto 4, 3) := by decide +kernel
theorem dX7_sacksIn_30 : decode cX7_sacksIn 30 = .ok (.iconst 0, 1) := by decide +kernel
theorem dX7_sacksIn_31 : decode cX7_sacksIn 31 = .ok (.iadd, 1) := by decide +kernel
theorem dX7_sacksIn_32 : decode cX7_sacksIn 32 = .ok (.istore_n 2, 1) := by decide +kernel
theorem dX7_sacksIn_33 : decode cX7_sacksIn 33 = .ok (.iinc 3 1, 3) := by decide +kernel
theorem dX7_sacksIn_36 : decode cX7_sacksIn 36 = .ok (.goto (-32), 3) := by decide +kernel
theorem dX7_sacksIn_39 : decode cX7_sacksIn 39 = .ok (.iload_n 2, 1) := by decide +kernel
theorem dX7_sacksIn_40 : decode cX7_sacksIn 40 = .ok (.ireturn, 1) := by decide +kernel
theorem dX7_sea_0 : decode cX7_sea 0 = .ok (.iload_n 1, 1) := by decide +kernel
theorem dX7_sea_1 : decode cX7_sea 1 = .ok (.aload_n 0, 1) := by decide +kernel
theorem dX7_sea_2 : decode cX7_sea 2 = .ok (.getfield 7, 3) := by decide +kernel
theorem dX7_sea_5 : decode cX7_sea 5 = .ok (.iconst 4, 1) := by decide +kernel
theorem dX7_sea_6 : decode cX7_sea 6 = .ok (.iaload, 1) := by decide +kernel
theorem dX7_sea_7 : decode cX7_sea 7 = .ok (.idiv, 1) := by decide +kernel
theorem dX7_sea_8 : decode cX7_sea 8 = .ok (.istore_n 2, 1) := by decide +kernel
theorem dX7_sea_9 : decode cX7_sea 9 = .ok (.iload_n 1, 1) := by decide +kernel
theorem dX7_sea_10 : decode cX7_sea 10 = .ok (.aload_n 0, 1) := by decide +kernel
theorem dX7_sea_11 : decode cX7_sea 11 = .ok (.getfield 7, 3) := by decide +kernel
theorem dX7_sea_14 : decode cX7_sea 14 = .ok (.iconst 4, 1) := by decide +kernel
theorem dX7_sea_15 : decode cX7_sea 15 = .ok (.iaload, 1) := by decide +kernel
theorem dX7_sea_16 : decode cX7_sea 16 = .ok (.irem, 1) := by decide +kernel
theorem dX7_sea_17 : decode cX7_sea 17 = .ok (.istore_n 3, 1) := by decide +kernel
theorem dX7_sea_18 : decode cX7_sea 18 = .ok (.aload_n 0, 1) := by decide +kernel
theorem dX7_sea_19 : decode cX7_sea 19 = .ok (.getfield 7, 3) := by decide +kernel
theorem dX7_sea_22 : decode cX7_sea 22 = .ok (.iconst 4, 1) := by decide +kernel
theorem dX7_sea_23 : decode cX7_sea 23 = .ok (.iaload, 1) := by decide +kernel
theorem dX7_sea_24 : decode cX7_sea 24 = .ok (.iconst 2, 1) := by decide +kernel
theorem dX7_sea_25 : decode cX7_sea 25 = .ok (.idiv, 1) := by decide +kernel
theorem dX7_sea_26 : decode cX7_sea 26 = .ok (.istore 4, 2) := by decide +kernel
theorem dX7_sea_28 : decode cX7_sea 28 = .ok (.iload_n 2, 1) := by decide +kernel
theorem dX7_sea_29 : decode cX7_sea 29 = .ok (.bipush 14, 2) := by decide +kernel
theorem dX7_sea_31 : decode cX7_sea 31 = .ok (.irem, 1) := by decide +kernel
theorem dX7_sea_32 : decode cX7_sea 32 = .ok (.bipush 7, 2) := by decide +kernel
theorem dX7_sea_34 : decode cX7_sea 34 = .ok (.isub, 1) := by decide +kernel
theorem dX7_sea_35 : decode cX7_sea 35 = .ok (.istore 5, 2) := by decide +kernel
theorem dX7_sea_37 : decode cX7_sea 37 = .ok (.aload_n 0, 1) := by decide +kernel
theorem dX7_sea_38 : decode cX7_sea 38 = .ok (.getfield 7, 3) := by decide +kernel
theorem dX7_sea_41 : decode cX7_sea 41 = .ok (.iconst 2, 1) := by decide +kernel
theorem dX7_sea_42 : decode cX7_sea 42 = .ok (.iaload, 1) := by decide +kernel
theorem dX7_sea_43 : decode cX7_sea 43 = .ok (.aload_n 0, 1) := by decide +kernel
theorem dX7_sea_44 : decode cX7_sea 44 = .ok (.getfield 7, 3) := by decide +kernel
theorem dX7_sea_47 : decode cX7_sea 47 = .ok (.iconst 3, 1) := by decide +kernel
theorem dX7_sea_48 : decode cX7_sea 48 = .ok (.iaload, 1) := by decide +kernel
theorem dX7_sea_49 : decode cX7_sea 49 = .ok (.iload 5, 2) := by decide +kernel
theorem dX7_sea_51 : decode cX7_sea 51 = .ok (.ifCond .ge 9, 3) := by decide +kernel
theorem dX7_sea_54 : decode cX7_sea 54 = .ok (.iload 5, 2) := by decide +kernel
theorem dX7_sea_56 : decode cX7_sea 56 = .ok (.ineg, 1) := by decide +kernel
theorem dX7_sea_57 : decode cX7_sea 57 = .ok (.goto 5, 3) := by decide +kernel
theorem dX7_sea_60 : decode cX7_sea 60 = .ok (.iload 5, 2) := by decide +kernel
theorem dX7_sea_62 : decode cX7_sea 62 = .ok (.imul, 1) := by decide +kernel
theorem dX7_sea_63 : decode cX7_sea 63 = .ok (.bipush 7, 2) := by decide +kernel
theorem dX7_sea_65 : decode cX7_sea 65 = .ok (.idiv, 1) := by decide +kernel
theorem dX7_sea_66 : decode cX7_sea 66 = .ok (.iadd, 1) := by decide +kernel
theorem dX7_sea_67 : decode cX7_sea 67 = .ok (.istore 6, 2) := by decide +kernel
theorem dX7_sea_69 : decode cX7_sea 69 = .ok (.aload_n 0, 1) := by decide +kernel
theorem dX7_sea_70 : decode cX7_sea 70 = .ok (.getfield 7, 3) := by decide +kernel
theorem dX7_sea_73 : decode cX7_sea 73 = .ok (.iconst 1, 1) := by decide +kernel
theorem dX7_sea_74 : decode cX7_sea 74 = .ok (.iaload, 1) := by decide +kernel
theorem dX7_sea_75 : decode cX7_sea 75 = .ok (.iload_n 3, 1) := by decide +kernel
theorem dX7_sea_76 : decode cX7_sea 76 = .ok (.iload 4, 2) := by decide +kernel
theorem dX7_sea_78 : decode cX7_sea 78 = .ok (.if_icmp .gt 13, 3) := by decide +kernel
theorem dX7_sea_81 : decode cX7_sea 81 = .ok (.iload 6, 2) := by decide +kernel
theorem dX7_sea_83 : decode cX7_sea 83 = .ok (.iload_n 3, 1) := by decide +kernel
theorem dX7_sea_84 : decode cX7_sea 84 = .ok (.imul, 1) := by decide +kernel
theorem dX7_sea_85 : decode cX7_sea 85 = .ok (.iload 4, 2) := by decide +kernel
theorem dX7_sea_87 : decode cX7_sea 87 = .ok (.idiv, 1) := by decide +kernel
theorem dX7_sea_88 : decode cX7_sea 88 = .ok (.goto 24, 3) := by decide +kernel
theorem dX7_sea_91 : decode cX7_sea 91 = .ok (.iload 6, 2) := by decide +kernel
theorem dX7_sea_93 : decode cX7_sea 93 = .ok (.aload_n 0, 1) := by decide +kernel
theorem dX7_sea_94 : decode cX7_sea 94 = .ok (.getfield 7, 3) := by decide +kernel
theorem dX7_sea_97 : decode cX7_sea 97 = .ok (.iconst 4, 1) := by decide +kernel
theorem dX7_sea_98 : decode cX7_sea 98 = .ok (.iaload, 1) := by decide +kernel
theorem dX7_sea_99 : decode cX7_sea 99 = .ok (.iload_n 3, 1) := by decide +kernel
theorem dX7_sea_100 : decode cX7_sea 100 = .ok (.isub, 1) := by decide +kernel
theorem dX7_sea_101 : decode cX7_sea 101 = .ok (.imul, 1) := by decide +kernel
theorem dX7_sea_102 : decode cX7_sea 102 = .ok (.aload_n 0, 1) := by decide +kernel
theorem dX7_sea_103 : decode cX7_sea 103 = .ok (.getfield 7, 3) := by decide +kernel
theorem dX7_sea_106 : decode cX7_sea 106 = .ok (.iconst 4, 1) := by decide +kernel
theorem dX7_sea_107 : decode cX7_sea 107 = .ok (.iaload, 1) := by decide +kernel
theorem dX7_sea_108 : decode cX7_sea 108 = .ok (.iload 4, 2) := by decide +kernel
theorem dX7_sea_110 : decode cX7_sea 110 = .ok (.isub, 1) := by decide +kernel
theorem dX7_sea_111 : decode cX7_sea 111 = .ok (.idiv, 1) := by decide +kernel
theorem dX7_sea_112 : decode cX7_sea 112 = .ok (.iadd, 1) := by decide +kernel
theorem dX7_sea_113 : decode cX7_sea 113 = .ok (.ireturn, 1) := by decide +kernel
theorem dX7_head_0 : decode cX7_head 0 = .ok (.aload_n 0, 1) := by decide +kernel
theorem dX7_head_1 : decode cX7_head 1 = .ok (.getfield 7, 3) := by decide +kernel
theorem dX7_head_4 : decode cX7_head 4 = .ok (.bipush 19, 2) := by decide +kernel
theorem dX7_head_6 : decode cX7_head 6 = .ok (.iaload, 1) := by decide +kernel
theorem dX7_head_7 : decode cX7_head 7 = .ok (.aload_n 0, 1) := by decide +kernel
theorem dX7_head_8 : decode cX7_head 8 = .ok (.getfield 7, 3) := by decide +kernel
theorem dX7_head_11 : decode cX7_head 11 = .ok (.iconst 0, 1) := by decide +kernel
theorem dX7_head_12 : decode cX7_head 12 = .ok (.iaload, 1) := by decide +kernel
theorem dX7_head_13 : decode cX7_head 13 = .ok (.idiv, 1) := by decide +kernel
theorem dX7_head_14 : decode cX7_head 14 = .ok (.aload_n 0, 1) := by decide +kernel
theorem dX7_head_15 : decode cX7_head 15 = .ok (.aload_n 0, 1) := by decide +kernel
theorem dX7_head_16 : decode cX7_head 16 = .ok (.getfield 7, 3) := by decide +kernel
theorem dX7_head_19 : decode cX7_head 19 = .ok (.bipush 26, 2) := by decide +kernel
theorem dX7_head_21 : decode cX7_head 21 = .ok (.iaload, 1) := by decide +kernel
theorem dX7_head_22 : decode cX7_head 22 = .ok (.invokevirtual 61, 3) := by decide +kernel
theorem dX7_head_25 : decode cX7_head 25 = .ok (.isub, 1) := by decide +kernel
theorem dX7_head_26 : decode cX7_head 26 = .ok (.ireturn, 1) := by decide +kernel
theorem dX7_falls_0 : decode cX7_falls 0 = .ok (.iconst 0, 1) := by decide +kernel
theorem dX7_falls_1 : decode cX7_falls 1 = .ok (.istore_n 1, 1) := by decide +kernel
theorem dX7_falls_2 : decode cX7_falls 2 = .ok (.iload_n 1, 1) := by decide +kernel
theorem dX7_falls_3 : decode cX7_falls 3 = .ok (.aload_n 0, 1) := by decide +kernel
theorem dX7_falls_4 : decode cX7_falls 4 = .ok (.getfield 7, 3) := by decide +kernel
theorem dX7_falls_7 : decode cX7_falls 7 = .ok (.bipush 29, 2) := by decide +kernel
theorem dX7_falls_9 : decode cX7_falls 9 = .ok (.iaload, 1) := by decide +kernel
theorem dX7_falls_10 : decode cX7_falls 10 = .ok (.if_icmp .ge 69, 3) := by decide +kernel
theorem dX7_falls_13 : decode cX7_falls 13 = .ok (.aload_n 0, 1) := by decide +kernel
theorem dX7_falls_14 : decode cX7_falls 14 = .ok (.iload_n 1, 1) := by decide +kernel
theorem dX7_falls_15 : decode cX7_falls 15 = .ok (.bipush 6, 2) := by decide +kernel
theorem dX7_falls_17 : decode cX7_falls 17 = .ok (.invokevirtual 38, 3) := by decide +kernel
theorem dX7_falls_20 : decode cX7_falls 20 = .ok (.ifCond .le 53, 3) := by decide +kernel
theorem dX7_falls_23 : decode cX7_falls 23 = .ok (.aload_n 0, 1) := by decide +kernel
theorem dX7_falls_24 : decode cX7_falls 24 = .ok (.iload_n 1, 1) := by decide +kernel
theorem dX7_falls_25 : decode cX7_falls 25 = .ok (.bipush 9, 2) := by decide +kernel
theorem dX7_falls_27 : decode cX7_falls 27 = .ok (.invokevirtual 38, 3) := by decide +kernel
theorem dX7_falls_30 : decode cX7_falls 30 = .ok (.aload_n 0, 1) := by decide +kernel
theorem dX7_falls_31 : decode cX7_falls 31 = .ok (.getfield 7, 3) := by decide +kernel
theorem dX7_falls_34 : decode cX7_falls 34 = .ok (.bipush 26, 2) := by decide +kernel
theorem dX7_falls_36 : decode cX7_falls 36 = .ok (.iaload, 1) := by decide +kernel
theorem dX7_falls_37 : decode cX7_falls 37 = .ok (.bipush 96, 2) := by decide +kernel
theorem dX7_falls_39 : decode cX7_falls 39 = .ok (.idiv, 1) := by decide +kernel
theorem dX7_falls_40 : decode cX7_falls 40 = .ok (.if_icmp .ge 33, 3) := by decide +kernel
theorem dX7_falls_43 : decode cX7_falls 43 = .ok (.aload_n 0, 1) := by decide +kernel
theorem dX7_falls_44 : decode cX7_falls 44 = .ok (.iload_n 1, 1) := by decide +kernel
theorem dX7_falls_45 : decode cX7_falls 45 = .ok (.bipush 10, 2) := by decide +kernel
theorem dX7_falls_47 : decode cX7_falls 47 = .ok (.aload_n 0, 1) := by decide +kernel
theorem dX7_falls_48 : decode cX7_falls 48 = .ok (.iload_n 1, 1) := by decide +kernel
theorem dX7_falls_49 : decode cX7_falls 49 = .ok (.bipush 10, 2) := by decide +kernel
theorem dX7_falls_51 : decode cX7_falls 51 = .ok (.invokevirtual 38, 3) := by decide +kernel
theorem dX7_falls_54 : decode cX7_falls 54 = .ok (.aload_n 0, 1) := by decide +kernel
theorem dX7_falls_55 : decode cX7_falls 55 = .ok (.iload_n 1, 1) := by decide +kernel
theorem dX7_falls_56 : decode cX7_falls 56 = .ok (.bipush 6, 2) := by decide +kernel
theorem dX7_falls_58 : decode cX7_falls 58 = .ok (.invokevirtual 38, 3) := by decide +kernel
theorem dX7_falls_61 : decode cX7_falls 61 = .ok (.iadd, 1) := by decide +kernel
theorem dX7_falls_62 : decode cX7_falls 62 = .ok (.invokevirtual 64, 3) := by decide +kernel
theorem dX7_falls_65 : decode cX7_falls 65 = .ok (.aload_n 0, 1) := by decide +kernel
theorem dX7_falls_66 : decode cX7_falls 66 = .ok (.iload_n 1, 1) := by decide +kernel
theorem dX7_falls_67 : decode cX7_falls 67 = .ok (.bipush 6, 2) := by decide +kernel
theorem dX7_falls_69 : decode cX7_falls 69 = .ok (.iconst 0, 1) := by decide +kernel
theorem dX7_falls_70 : decode cX7_falls 70 = .ok (.invokevirtual 64, 3) := by decide +kernel
theorem dX7_falls_73 : decode cX7_falls 73 = .ok (.iinc 1 1, 3) := by decide +kernel
theorem dX7_falls_76 : decode cX7_falls 76 = .ok (.goto (-74), 3) := by decide +kernel
theorem dX7_falls_79 : decode cX7_falls 79 = .ok (.return_, 1) := by decide +kernel
theorem dX7_flows_0 : decode cX7_flows 0 = .ok (.aload_n 0, 1) := by decide +kernel
theorem dX7_flows_1 : decode cX7_flows 1 = .ok (.invokevirtual 68, 3) := by decide +kernel
theorem dX7_flows_4 : decode cX7_flows 4 = .ok (.ineg, 1) := by decide +kernel
theorem dX7_flows_5 : decode cX7_flows 5 = .ok (.istore_n 1, 1) := by decide +kernel
theorem dX7_flows_6 : decode cX7_flows 6 = .ok (.aload_n 0, 1) := by decide +kernel
theorem dX7_flows_7 : decode cX7_flows 7 = .ok (.getfield 7, 3) := by decide +kernel
theorem dX7_flows_10 : decode cX7_flows 10 = .ok (.bipush 17, 2) := by decide +kernel
theorem dX7_flows_12 : decode cX7_flows 12 = .ok (.iaload, 1) := by decide +kernel
theorem dX7_flows_13 : decode cX7_flows 13 = .ok (.ifCond .ne 62, 3) := by decide +kernel
theorem dX7_flows_16 : decode cX7_flows 16 = .ok (.iload_n 1, 1) := by decide +kernel
theorem dX7_flows_17 : decode cX7_flows 17 = .ok (.ifCond .le 58, 3) := by decide +kernel
theorem dX7_flows_20 : decode cX7_flows 20 = .ok (.aload_n 0, 1) := by decide +kernel
theorem dX7_flows_21 : decode cX7_flows 21 = .ok (.getfield 7, 3) := by decide +kernel
theorem dX7_flows_24 : decode cX7_flows 24 = .ok (.iconst 5, 1) := by decide +kernel
theorem dX7_flows_25 : decode cX7_flows 25 = .ok (.iaload, 1) := by decide +kernel
theorem dX7_flows_26 : decode cX7_flows 26 = .ok (.aload_n 0, 1) := by decide +kernel
theorem dX7_flows_27 : decode cX7_flows 27 = .ok (.getfield 7, 3) := by decide +kernel
theorem dX7_flows_30 : decode cX7_flows 30 = .ok (.iconst 0, 1) := by decide +kernel
theorem dX7_flows_31 : decode cX7_flows 31 = .ok (.iaload, 1) := by decide +kernel
theorem dX7_flows_32 : decode cX7_flows 32 = .ok (.if_icmp .ge 12, 3) := by decide +kernel
theorem dX7_flows_35 : decode cX7_flows 35 = .ok (.aload_n 0, 1) := by decide +kernel
theorem dX7_flows_36 : decode cX7_flows 36 = .ok (.getfield 7, 3) := by decide +kernel
theorem dX7_flows_39 : decode cX7_flows 39 = .ok (.iconst 5, 1) := by decide +kernel
theorem dX7_flows_40 : decode cX7_flows 40 = .ok (.iaload, 1) := by decide +kernel
theorem dX7_flows_41 : decode cX7_flows 41 = .ok (.goto 9, 3) := by decide +kernel
theorem dX7_flows_44 : decode cX7_flows 44 = .ok (.aload_n 0, 1) := by decide +kernel
theorem dX7_flows_45 : decode cX7_flows 45 = .ok (.getfield 7, 3) := by decide +kernel
theorem dX7_flows_48 : decode cX7_flows 48 = .ok (.iconst 0, 1) := by decide +kernel
theorem dX7_flows_49 : decode cX7_flows 49 = .ok (.iaload, 1) := by decide +kernel
theorem dX7_flows_50 : decode cX7_flows 50 = .ok (.iload_n 1, 1) := by decide +kernel
theorem dX7_flows_51 : decode cX7_flows 51 = .ok (.imul, 1) := by decide +kernel
theorem dX7_flows_52 : decode cX7_flows 52 = .ok (.istore_n 2, 1) := by decide +kernel
theorem dX7_flows_53 : decode cX7_flows 53 = .ok (.aload_n 0, 1) := by decide +kernel
theorem dX7_flows_54 : decode cX7_flows 54 = .ok (.getfield 7, 3) := by decide +kernel
theorem dX7_flows_57 : decode cX7_flows 57 = .ok (.bipush 19, 2) := by decide +kernel
theorem dX7_flows_59 : decode cX7_flows 59 = .ok (.dup2, 1) := by decide +kernel
theorem dX7_flows_60 : decode cX7_flows 60 = .ok (.iaload, 1) := by decide +kernel
theorem dX7_flows_61 : decode cX7_flows 61 = .ok (.iload_n 2, 1) := by decide +kernel
theorem dX7_flows_62 : decode cX7_flows 62 = .ok (.iadd, 1) := by decide +kernel
theorem dX7_flows_63 : decode cX7_flows 63 = .ok (.iastore, 1) := by decide +kernel
theorem dX7_flows_64 : decode cX7_flows 64 = .ok (.aload_n 0, 1) := by decide +kernel
theorem dX7_flows_65 : decode cX7_flows 65 = .ok (.getfield 7, 3) := by decide +kernel
theorem dX7_flows_68 : decode cX7_flows 68 = .ok (.bipush 20, 2) := by decide +kernel
theorem dX7_flows_70 : decode cX7_flows 70 = .ok (.dup2, 1) := by decide +kernel
theorem dX7_flows_71 : decode cX7_flows 71 = .ok (.iaload, 1) := by decide +kernel
theorem dX7_flows_72 : decode cX7_flows 72 = .ok (.iload_n 2, 1) := by decide +kernel
theorem dX7_flows_73 : decode cX7_flows 73 = .ok (.iadd, 1) := by decide +kernel
theorem dX7_flows_74 : decode cX7_flows 74 = .ok (.iastore, 1) := by decide +kernel
theorem dX7_flows_75 : decode cX7_flows 75 = .ok (.aload_n 0, 1) := by decide +kernel
theorem dX7_flows_76 : decode cX7_flows 76 = .ok (.invokevirtual 68, 3) := by decide +kernel
theorem dX7_flows_79 : decode cX7_flows 79 = .ok (.istore_n 2, 1) := by decide +kernel
theorem dX7_flows_80 : decode cX7_flows 80 = .ok (.iconst 0, 1) := by decide +kernel
theorem dX7_flows_81 : decode cX7_flows 81 = .ok (.istore_n 3, 1) := by decide +kernel
theorem dX7_flows_82 : decode cX7_flows 82 = .ok (.iload_n 3, 1) := by decide +kernel
theorem dX7_flows_83 : decode cX7_flows 83 = .ok (.iconst 4, 1) := by decide +kernel
theorem dX7_flows_84 : decode cX7_flows 84 = .ok (.if_icmp .ge 76, 3) := by decide +kernel
theorem dX7_flows_87 : decode cX7_flows 87 = .ok (.iload_n 2, 1) := by decide +kernel
theorem dX7_flows_88 : decode cX7_flows 88 = .ok (.ifCond .le 72, 3) := by decide +kernel
theorem dX7_flows_91 : decode cX7_flows 91 = .ok (.aload_n 0, 1) := by decide +kernel
theorem dX7_flows_92 : decode cX7_flows 92 = .ok (.getfield 7, 3) := by decide +kernel
theorem dX7_flows_95 : decode cX7_flows 95 = .ok (.bipush 13, 2) := by decide +kernel
theorem dX7_flows_97 : decode cX7_flows 97 = .ok (.iload_n 3, 1) := by decide +kernel
theorem dX7_flows_98 : decode cX7_flows 98 = .ok (.iadd, 1) := by decide +kernel
theorem dX7_flows_99 : decode cX7_flows 99 = .ok (.iaload, 1) := by decide +kernel
theorem dX7_flows_100 : decode cX7_flows 100 = .ok (.iload_n 2, 1) := by decide +kernel
theorem dX7_flows_101 : decode cX7_flows 101 = .ok (.imul, 1) := by decide +kernel
theorem dX7_flows_102 : decode cX7_flows 102 = .ok (.istore 4, 2) := by decide +kernel
theorem dX7_flows_104 : decode cX7_flows 104 = .ok (.iload 4, 2) := by decide +kernel
theorem dX7_flows_106 : decode cX7_flows 106 = .ok (.aload_n 0, 1) := by decide +kernel
theorem dX7_flows_107 : decode cX7_flows 107 = .ok (.getfield 7, 3) := by decide +kernel
theorem dX7_flows_110 : decode cX7_flows 110 = .ok (.bipush 19, 2) := by decide +kernel
theorem dX7_flows_112 : decode cX7_flows 112 = .ok (.iaload, 1) := by decide +kernel
theorem dX7_flows_113 : decode cX7_flows 113 = .ok (.if_icmp .le 13, 3) := by decide +kernel
theorem dX7_flows_116 : decode cX7_flows 116 = .ok (.aload_n 0, 1) := by decide +kernel
theorem dX7_flows_117 : decode cX7_flows 117 = .ok (.getfield 7, 3) := by decide +kernel
theorem dX7_flows_120 : decode cX7_flows 120 = .ok (.bipush 19, 2) := by decide +kernel
theorem dX7_flows_122 : decode cX7_flows 122 = .ok (.iaload, 1) := by decide +kernel
theorem dX7_flows_123 : decode cX7_flows 123 = .ok (.goto 5, 3) := by decide +kernel
theorem dX7_flows_126 : decode cX7_flows 126 = .ok (.iload 4, 2) := by decide +kernel
theorem dX7_flows_128 : decode cX7_flows 128 = .ok (.istore 4, 2) := by decide +kernel
theorem dX7_flows_130 : decode cX7_flows 130 = .ok (.aload_n 0, 1) := by decide +kernel
theorem dX7_flows_131 : decode cX7_flows 131 = .ok (.getfield 7, 3) := by decide +kernel
theorem dX7_flows_134 : decode cX7_flows 134 = .ok (.bipush 19, 2) := by decide +kernel
theorem dX7_flows_136 : decode cX7_flows 136 = .ok (.dup2, 1) := by decide +kernel
theorem dX7_flows_137 : decode cX7_flows 137 = .ok (.iaload, 1) := by decide +kernel
theorem dX7_flows_138 : decode cX7_flows 138 = .ok (.iload 4, 2) := by decide +kernel
theorem dX7_flows_140 : decode cX7_flows 140 = .ok (.isub, 1) := by decide +kernel
theorem dX7_flows_141 : decode cX7_flows 141 = .ok (.iastore, 1) := by decide +kernel
theorem dX7_flows_142 : decode cX7_flows 142 = .ok (.aload_n 0, 1) := by decide +kernel
theorem dX7_flows_143 : decode cX7_flows 143 = .ok (.getfield 7, 3) := by decide +kernel
theorem dX7_flows_146 : decode cX7_flows 146 = .ok (.bipush 21, 2) := by decide +kernel
theorem dX7_flows_148 : decode cX7_flows 148 = .ok (.dup2, 1) := by decide +kernel
theorem dX7_flows_149 : decode cX7_flows 149 = .ok (.iaload, 1) := by decide +kernel
theorem dX7_flows_150 : decode cX7_flows 150 = .ok (.iload 4, 2) := by decide +kernel
theorem dX7_flows_152 : decode cX7_flows 152 = .ok (.iadd, 1) := by decide +kernel
theorem dX7_flows_153 : decode cX7_flows 153 = .ok (.iastore, 1) := by decide +kernel
theorem dX7_flows_154 : decode cX7_flows 154 = .ok (.iinc 3 1, 3) := by decide +kernel
theorem dX7_flows_157 : decode cX7_flows 157 = .ok (.goto (-75), 3) := by decide +kernel
theorem dX7_flows_160 : decode cX7_flows 160 = .ok (.return_, 1) := by decide +kernel
theorem dX7_comes_0 : decode cX7_comes 0 = .ok (.aload_n 0, 1) := by decide +kernel
theorem dX7_comes_1 : decode cX7_comes 1 = .ok (.getfield 7, 3) := by decide +kernel
theorem dX7_comes_4 : decode cX7_comes 4 = .ok (.bipush 24, 2) := by decide +kernel
theorem dX7_comes_6 : decode cX7_comes 6 = .ok (.iload_n 1, 1) := by decide +kernel
theorem dX7_comes_7 : decode cX7_comes 7 = .ok (.iastore, 1) := by decide +kernel
theorem dX7_comes_8 : decode cX7_comes 8 = .ok (.aload_n 0, 1) := by decide +kernel
theorem dX7_comes_9 : decode cX7_comes 9 = .ok (.getfield 7, 3) := by decide +kernel
theorem dX7_comes_12 : decode cX7_comes 12 = .ok (.bipush 25, 2) := by decide +kernel
theorem dX7_comes_14 : decode cX7_comes 14 = .ok (.aload_n 0, 1) := by decide +kernel
theorem dX7_comes_15 : decode cX7_comes 15 = .ok (.iload_n 1, 1) := by decide +kernel
theorem dX7_comes_16 : decode cX7_comes 16 = .ok (.iconst 1, 1) := by decide +kernel
theorem dX7_comes_17 : decode cX7_comes 17 = .ok (.invokevirtual 38, 3) := by decide +kernel
theorem dX7_comes_20 : decode cX7_comes 20 = .ok (.iastore, 1) := by decide +kernel
theorem dX7_comes_21 : decode cX7_comes 21 = .ok (.aload_n 0, 1) := by decide +kernel
theorem dX7_comes_22 : decode cX7_comes 22 = .ok (.iload_n 1, 1) := by decide +kernel
theorem dX7_comes_23 : decode cX7_comes 23 = .ok (.iconst 3, 1) := by decide +kernel
theorem dX7_comes_24 : decode cX7_comes 24 = .ok (.iconst 1, 1) := by decide +kernel
theorem dX7_comes_25 : decode cX7_comes 25 = .ok (.invokevirtual 64, 3) := by decide +kernel
theorem dX7_comes_28 : decode cX7_comes 28 = .ok (.aload_n 0, 1) := by decide +kernel
theorem dX7_comes_29 : decode cX7_comes 29 = .ok (.iload_n 1, 1) := by decide +kernel
theorem dX7_comes_30 : decode cX7_comes 30 = .ok (.bipush 12, 2) := by decide +kernel
theorem dX7_comes_32 : decode cX7_comes 32 = .ok (.iconst 1, 1) := by decide +kernel
theorem dX7_comes_33 : decode cX7_comes 33 = .ok (.invokevirtual 64, 3) := by decide +kernel
theorem dX7_comes_36 : decode cX7_comes 36 = .ok (.aload_n 0, 1) := by decide +kernel
theorem dX7_comes_37 : decode cX7_comes 37 = .ok (.iload_n 1, 1) := by decide +kernel
theorem dX7_comes_38 : decode cX7_comes 38 = .ok (.iconst 5, 1) := by decide +kernel
theorem dX7_comes_39 : decode cX7_comes 39 = .ok (.aload_n 0, 1) := by decide +kernel
theorem dX7_comes_40 : decode cX7_comes 40 = .ok (.getfield 7, 3) := by decide +kernel
theorem dX7_comes_43 : decode cX7_comes 43 = .ok (.bipush 8, 2) := by decide +kernel
theorem dX7_comes_45 : decode cX7_comes 45 = .ok (.iaload, 1) := by decide +kernel
theorem dX7_comes_46 : decode cX7_comes 46 = .ok (.invokevirtual 64, 3) := by decide +kernel
theorem dX7_comes_49 : decode cX7_comes 49 = .ok (.return_, 1) := by decide +kernel
theorem dX7_grinds_0 : decode cX7_grinds 0 = .ok (.aload_n 0, 1) := by decide +kernel
theorem dX7_grinds_1 : decode cX7_grinds 1 = .ok (.invokevirtual 68, 3) := by decide +kernel
theorem dX7_grinds_4 : decode cX7_grinds 4 = .ok (.istore_n 1, 1) := by decide +kernel
theorem dX7_grinds_5 : decode cX7_grinds 5 = .ok (.aload_n 0, 1) := by decide +kernel
theorem dX7_grinds_6 : decode cX7_grinds 6 = .ok (.getfield 7, 3) := by decide +kernel
theorem dX7_grinds_9 : decode cX7_grinds 9 = .ok (.bipush 18, 2) := by decide +kernel
theorem dX7_grinds_11 : decode cX7_grinds 11 = .ok (.iaload, 1) := by decide +kernel
theorem dX7_grinds_12 : decode cX7_grinds 12 = .ok (.aload_n 0, 1) := by decide +kernel
theorem dX7_grinds_13 : decode cX7_grinds 13 = .ok (.getfield 7, 3) := by decide +kernel
theorem dX7_grinds_16 : decode cX7_grinds 16 = .ok (.bipush 7, 2) := by decide +kernel
theorem dX7_grinds_18 : decode cX7_grinds 18 = .ok (.iaload, 1) := by decide +kernel
theorem dX7_grinds_19 : decode cX7_grinds 19 = .ok (.imul, 1) := by decide +kernel
theorem dX7_grinds_20 : decode cX7_grinds 20 = .ok (.istore_n 2, 1) := by decide +kernel
theorem dX7_grinds_21 : decode cX7_grinds 21 = .ok (.aload_n 0, 1) := by decide +kernel
theorem dX7_grinds_22 : decode cX7_grinds 22 = .ok (.getfield 7, 3) := by decide +kernel
theorem dX7_grinds_25 : decode cX7_grinds 25 = .ok (.bipush 18, 2) := by decide +kernel
theorem dX7_grinds_27 : decode cX7_grinds 27 = .ok (.iaload, 1) := by decide +kernel
theorem dX7_grinds_28 : decode cX7_grinds 28 = .ok (.ifCond .eq 48, 3) := by decide +kernel
theorem dX7_grinds_31 : decode cX7_grinds 31 = .ok (.iload_n 1, 1) := by decide +kernel
theorem dX7_grinds_32 : decode cX7_grinds 32 = .ok (.ifCond .le 44, 3) := by decide +kernel
theorem dX7_grinds_35 : decode cX7_grinds 35 = .ok (.iload_n 1, 1) := by decide +kernel
theorem dX7_grinds_36 : decode cX7_grinds 36 = .ok (.aload_n 0, 1) := by decide +kernel
theorem dX7_grinds_37 : decode cX7_grinds 37 = .ok (.getfield 7, 3) := by decide +kernel
theorem dX7_grinds_40 : decode cX7_grinds 40 = .ok (.bipush 6, 2) := by decide +kernel
theorem dX7_grinds_42 : decode cX7_grinds 42 = .ok (.iaload, 1) := by decide +kernel
theorem dX7_grinds_43 : decode cX7_grinds 43 = .ok (.if_icmp .lt 33, 3) := by decide +kernel
theorem dX7_grinds_46 : decode cX7_grinds 46 = .ok (.aload_n 0, 1) := by decide +kernel
theorem dX7_grinds_47 : decode cX7_grinds 47 = .ok (.getfield 7, 3) := by decide +kernel
theorem dX7_grinds_50 : decode cX7_grinds 50 = .ok (.bipush 19, 2) := by decide +kernel
theorem dX7_grinds_52 : decode cX7_grinds 52 = .ok (.iaload, 1) := by decide +kernel
theorem dX7_grinds_53 : decode cX7_grinds 53 = .ok (.iload_n 2, 1) := by decide +kernel
theorem dX7_grinds_54 : decode cX7_grinds 54 = .ok (.if_icmp .lt 22, 3) := by decide +kernel
theorem dX7_grinds_57 : decode cX7_grinds 57 = .ok (.aload_n 0, 1) := by decide +kernel
theorem dX7_grinds_58 : decode cX7_grinds 58 = .ok (.getfield 7, 3) := by decide +kernel
theorem dX7_grinds_61 : decode cX7_grinds 61 = .ok (.bipush 24, 2) := by decide +kernel
theorem dX7_grinds_63 : decode cX7_grinds 63 = .ok (.iaload, 1) := by decide +kernel
theorem dX7_grinds_64 : decode cX7_grinds 64 = .ok (.iconst (-1), 1) := by decide +kernel
theorem dX7_grinds_65 : decode cX7_grinds 65 = .ok (.if_icmp .ne 12, 3) := by decide +kernel
theorem dX7_grinds_68 : decode cX7_grinds 68 = .ok (.aload_n 0, 1) := by decide +kernel
theorem dX7_grinds_69 : decode cX7_grinds 69 = .ok (.iconst 0, 1) := by decide +kernel
theorem dX7_grinds_70 : decode cX7_grinds 70 = .ok (.invokevirtual 72, 3) := by decide +kernel
theorem dX7_grinds_73 : decode cX7_grinds 73 = .ok (.ifCond .ne 4, 3) := by decide +kernel
theorem dX7_grinds_76 : decode cX7_grinds 76 = .ok (.return_, 1) := by decide +kernel
theorem dX7_grinds_77 : decode cX7_grinds 77 = .ok (.aload_n 0, 1) := by decide +kernel
theorem dX7_grinds_78 : decode cX7_grinds 78 = .ok (.getfield 7, 3) := by decide +kernel
theorem dX7_grinds_81 : decode cX7_grinds 81 = .ok (.bipush 24, 2) := by decide +kernel
theorem dX7_grinds_83 : decode cX7_grinds 83 = .ok (.iaload, 1) := by decide +kernel
theorem dX7_grinds_84 : decode cX7_grinds 84 = .ok (.iconst (-1), 1) := by decide +kernel
theorem dX7_grinds_85 : decode cX7_grinds 85 = .ok (.if_icmp .ne 12, 3) := by decide +kernel
theorem dX7_grinds_88 : decode cX7_grinds 88 = .ok (.aload_n 0, 1) := by decide +kernel
theorem dX7_grinds_89 : decode cX7_grinds 89 = .ok (.aload_n 0, 1) := by decide +kernel
theorem dX7_grinds_90 : decode cX7_grinds 90 = .ok (.iconst 0, 1) := by decide +kernel
theorem dX7_grinds_91 : decode cX7_grinds 91 = .ok (.invokevirtual 75, 3) := by decide +kernel
theorem dX7_grinds_94 : decode cX7_grinds 94 = .ok (.invokevirtual 78, 3) := by decide +kernel
theorem dX7_grinds_97 : decode cX7_grinds 97 = .ok (.aload_n 0, 1) := by decide +kernel
theorem dX7_grinds_98 : decode cX7_grinds 98 = .ok (.getfield 7, 3) := by decide +kernel
theorem dX7_grinds_101 : decode cX7_grinds 101 = .ok (.bipush 24, 2) := by decide +kernel
theorem dX7_grinds_103 : decode cX7_grinds 103 = .ok (.iaload, 1) := by decide +kernel
theorem dX7_grinds_104 : decode cX7_grinds 104 = .ok (.istore_n 3, 1) := by decide +kernel
theorem dX7_grinds_105 : decode cX7_grinds 105 = .ok (.aload_n 0, 1) := by decide +kernel
theorem dX7_grinds_106 : decode cX7_grinds 106 = .ok (.getfield 7, 3) := by decide +kernel
theorem dX7_grinds_109 : decode cX7_grinds 109 = .ok (.bipush 19, 2) := by decide +kernel
theorem dX7_grinds_111 : decode cX7_grinds 111 = .ok (.dup2, 1) := by decide +kernel
theorem dX7_grinds_112 : decode cX7_grinds 112 = .ok (.iaload, 1) := by decide +kernel
theorem dX7_grinds_113 : decode cX7_grinds 113 = .ok (.iload_n 2, 1) := by decide +kernel
theorem dX7_grinds_114 : decode cX7_grinds 114 = .ok (.isub, 1) := by decide +kernel
theorem dX7_grinds_115 : decode cX7_grinds 115 = .ok (.iastore, 1) := by decide +kernel
theorem dX7_grinds_116 : decode cX7_grinds 116 = .ok (.aload_n 0, 1) := by decide +kernel
theorem dX7_grinds_117 : decode cX7_grinds 117 = .ok (.getfield 7, 3) := by decide +kernel
theorem dX7_grinds_120 : decode cX7_grinds 120 = .ok (.bipush 22, 2) := by decide +kernel
theorem dX7_grinds_122 : decode cX7_grinds 122 = .ok (.dup2, 1) := by decide +kernel
theorem dX7_grinds_123 : decode cX7_grinds 123 = .ok (.iaload, 1) := by decide +kernel
theorem dX7_grinds_124 : decode cX7_grinds 124 = .ok (.iload_n 2, 1) := by decide +kernel
theorem dX7_grinds_125 : decode cX7_grinds 125 = .ok (.iadd, 1) := by decide +kernel
theorem dX7_grinds_126 : decode cX7_grinds 126 = .ok (.iastore, 1) := by decide +kernel
theorem dX7_grinds_127 : decode cX7_grinds 127 = .ok (.aload_n 0, 1) := by decide +kernel
theorem dX7_grinds_128 : decode cX7_grinds 128 = .ok (.getfield 7, 3) := by decide +kernel
theorem dX7_grinds_131 : decode cX7_grinds 131 = .ok (.bipush 18, 2) := by decide +kernel
theorem dX7_grinds_133 : decode cX7_grinds 133 = .ok (.iaload, 1) := by decide +kernel
theorem dX7_grinds_134 : decode cX7_grinds 134 = .ok (.iload_n 1, 1) := by decide +kernel
theorem dX7_grinds_135 : decode cX7_grinds 135 = .ok (.imul, 1) := by decide +kernel
theorem dX7_grinds_136 : decode cX7_grinds 136 = .ok (.aload_n 0, 1) := by decide +kernel
theorem dX7_grinds_137 : decode cX7_grinds 137 = .ok (.aload_n 0, 1) := by decide +kernel
theorem dX7_grinds_138 : decode cX7_grinds 138 = .ok (.iload_n 3, 1) := by decide +kernel
theorem dX7_grinds_139 : decode cX7_grinds 139 = .ok (.iconst 1, 1) := by decide +kernel
theorem dX7_grinds_140 : decode cX7_grinds 140 = .ok (.invokevirtual 38, 3) := by decide +kernel
theorem dX7_grinds_143 : decode cX7_grinds 143 = .ok (.invokevirtual 52, 3) := by decide +kernel
theorem dX7_grinds_146 : decode cX7_grinds 146 = .ok (.idiv, 1) := by decide +kernel
theorem dX7_grinds_147 : decode cX7_grinds 147 = .ok (.istore 4, 2) := by decide +kernel
theorem dX7_grinds_149 : decode cX7_grinds 149 = .ok (.iload 4, 2) := by decide +kernel
theorem dX7_grinds_151 : decode cX7_grinds 151 = .ok (.iconst 1, 1) := by decide +kernel
theorem dX7_grinds_152 : decode cX7_grinds 152 = .ok (.if_icmp .ge 7, 3) := by decide +kernel
theorem dX7_grinds_155 : decode cX7_grinds 155 = .ok (.iconst 1, 1) := by decide +kernel
theorem dX7_grinds_156 : decode cX7_grinds 156 = .ok (.goto 5, 3) := by decide +kernel
theorem dX7_grinds_159 : decode cX7_grinds 159 = .ok (.iload 4, 2) := by decide +kernel
theorem dX7_grinds_161 : decode cX7_grinds 161 = .ok (.istore 4, 2) := by decide +kernel
theorem dX7_grinds_163 : decode cX7_grinds 163 = .ok (.iload 4, 2) := by decide +kernel
theorem dX7_grinds_165 : decode cX7_grinds 165 = .ok (.aload_n 0, 1) := by decide +kernel
theorem dX7_grinds_166 : decode cX7_grinds 166 = .ok (.iload_n 3, 1) := by decide +kernel
theorem dX7_grinds_167 : decode cX7_grinds 167 = .ok (.invokevirtual 82, 3) := by decide +kernel
theorem dX7_grinds_170 : decode cX7_grinds 170 = .ok (.if_icmp .le 11, 3) := by decide +kernel
theorem dX7_grinds_173 : decode cX7_grinds 173 = .ok (.aload_n 0, 1) := by decide +kernel
theorem dX7_grinds_174 : decode cX7_grinds 174 = .ok (.iload_n 3, 1) := by decide +kernel
theorem dX7_grinds_175 : decode cX7_grinds 175 = .ok (.invokevirtual 82, 3) := by decide +kernel
theorem dX7_grinds_178 : decode cX7_grinds 178 = .ok (.goto 5, 3) := by decide +kernel
theorem dX7_grinds_181 : decode cX7_grinds 181 = .ok (.iload 4, 2) := by decide +kernel
theorem dX7_grinds_183 : decode cX7_grinds 183 = .ok (.istore 4, 2) := by decide +kernel
theorem dX7_grinds_185 : decode cX7_grinds 185 = .ok (.aload_n 0, 1) := by decide +kernel
theorem dX7_grinds_186 : decode cX7_grinds 186 = .ok (.iload_n 3, 1) := by decide +kernel
theorem dX7_grinds_187 : decode cX7_grinds 187 = .ok (.iconst 4, 1) := by decide +kernel
theorem dX7_grinds_188 : decode cX7_grinds 188 = .ok (.aload_n 0, 1) := by decide +kernel
theorem dX7_grinds_189 : decode cX7_grinds 189 = .ok (.iload_n 3, 1) := by decide +kernel
theorem dX7_grinds_190 : decode cX7_grinds 190 = .ok (.iconst 4, 1) := by decide +kernel
theorem dX7_grinds_191 : decode cX7_grinds 191 = .ok (.invokevirtual 38, 3) := by decide +kernel
theorem dX7_grinds_194 : decode cX7_grinds 194 = .ok (.iload 4, 2) := by decide +kernel
theorem dX7_grinds_196 : decode cX7_grinds 196 = .ok (.iadd, 1) := by decide +kernel
theorem dX7_grinds_197 : decode cX7_grinds 197 = .ok (.invokevirtual 64, 3) := by decide +kernel
theorem dX7_grinds_200 : decode cX7_grinds 200 = .ok (.aload_n 0, 1) := by decide +kernel
theorem dX7_grinds_201 : decode cX7_grinds 201 = .ok (.getfield 7, 3) := by decide +kernel
theorem dX7_grinds_204 : decode cX7_grinds 204 = .ok (.bipush 23, 2) := by decide +kernel
theorem dX7_grinds_206 : decode cX7_grinds 206 = .ok (.dup2, 1) := by decide +kernel
theorem dX7_grinds_207 : decode cX7_grinds 207 = .ok (.iaload, 1) := by decide +kernel
theorem dX7_grinds_208 : decode cX7_grinds 208 = .ok (.iload 4, 2) := by decide +kernel
theorem dX7_grinds_210 : decode cX7_grinds 210 = .ok (.iadd, 1) := by decide +kernel
theorem dX7_grinds_211 : decode cX7_grinds 211 = .ok (.iastore, 1) := by decide +kernel
theorem dX7_grinds_212 : decode cX7_grinds 212 = .ok (.aload_n 0, 1) := by decide +kernel
theorem dX7_grinds_213 : decode cX7_grinds 213 = .ok (.iload_n 3, 1) := by decide +kernel
theorem dX7_grinds_214 : decode cX7_grinds 214 = .ok (.invokevirtual 82, 3) := by decide +kernel
theorem dX7_grinds_217 : decode cX7_grinds 217 = .ok (.ifCond .ne 18, 3) := by decide +kernel
theorem dX7_grinds_220 : decode cX7_grinds 220 = .ok (.aload_n 0, 1) := by decide +kernel
theorem dX7_grinds_221 : decode cX7_grinds 221 = .ok (.iload_n 3, 1) := by decide +kernel
theorem dX7_grinds_222 : decode cX7_grinds 222 = .ok (.iconst 3, 1) := by decide +kernel
theorem dX7_grinds_223 : decode cX7_grinds 223 = .ok (.iconst 2, 1) := by decide +kernel
theorem dX7_grinds_224 : decode cX7_grinds 224 = .ok (.invokevirtual 64, 3) := by decide +kernel
theorem dX7_grinds_227 : decode cX7_grinds 227 = .ok (.aload_n 0, 1) := by decide +kernel
theorem dX7_grinds_228 : decode cX7_grinds 228 = .ok (.getfield 7, 3) := by decide +kernel
theorem dX7_grinds_231 : decode cX7_grinds 231 = .ok (.bipush 24, 2) := by decide +kernel
theorem dX7_grinds_233 : decode cX7_grinds 233 = .ok (.iconst (-1), 1) := by decide +kernel
theorem dX7_grinds_234 : decode cX7_grinds 234 = .ok (.iastore, 1) := by decide +kernel
theorem dX7_grinds_235 : decode cX7_grinds 235 = .ok (.return_, 1) := by decide +kernel
theorem dX7_goes_0 : decode cX7_goes 0 = .ok (.aload_n 0, 1) := by decide +kernel
theorem dX7_goes_1 : decode cX7_goes 1 = .ok (.getfield 7, 3) := by decide +kernel
theorem dX7_goes_4 : decode cX7_goes 4 = .ok (.bipush 26, 2) := by decide +kernel
theorem dX7_goes_6 : decode cX7_goes 6 = .ok (.dup2, 1) := by decide +kernel
theorem dX7_goes_7 : decode cX7_goes 7 = .ok (.iaload, 1) := by decide +kernel
theorem dX7_goes_8 : decode cX7_goes 8 = .ok (.iconst 1, 1) := by decide +kernel
theorem dX7_goes_9 : decode cX7_goes 9 = .ok (.iadd, 1) := by decide +kernel
theorem dX7_goes_10 : decode cX7_goes 10 = .ok (.iastore, 1) := by decide +kernel
theorem dX7_goes_11 : decode cX7_goes 11 = .ok (.aload_n 0, 1) := by decide +kernel
theorem dX7_goes_12 : decode cX7_goes 12 = .ok (.getfield 7, 3) := by decide +kernel
theorem dX7_goes_15 : decode cX7_goes 15 = .ok (.bipush 26, 2) := by decide +kernel
theorem dX7_goes_17 : decode cX7_goes 17 = .ok (.iaload, 1) := by decide +kernel
theorem dX7_goes_18 : decode cX7_goes 18 = .ok (.bipush 96, 2) := by decide +kernel
theorem dX7_goes_20 : decode cX7_goes 20 = .ok (.irem, 1) := by decide +kernel
theorem dX7_goes_21 : decode cX7_goes 21 = .ok (.ifCond .ne 7, 3) := by decide +kernel
theorem dX7_goes_24 : decode cX7_goes 24 = .ok (.aload_n 0, 1) := by decide +kernel
theorem dX7_goes_25 : decode cX7_goes 25 = .ok (.invokevirtual 85, 3) := by decide +kernel
theorem dX7_goes_28 : decode cX7_goes 28 = .ok (.aload_n 0, 1) := by decide +kernel
theorem dX7_goes_29 : decode cX7_goes 29 = .ok (.invokevirtual 88, 3) := by decide +kernel
theorem dX7_goes_32 : decode cX7_goes 32 = .ok (.aload_n 0, 1) := by decide +kernel
theorem dX7_goes_33 : decode cX7_goes 33 = .ok (.invokevirtual 91, 3) := by decide +kernel
theorem dX7_goes_36 : decode cX7_goes 36 = .ok (.return_, 1) := by decide +kernel
theorem dX7_gates_0 : decode cX7_gates 0 = .ok (.iload_n 1, 1) := by decide +kernel
theorem dX7_gates_1 : decode cX7_gates 1 = .ok (.iconst 0, 1) := by decide +kernel
theorem dX7_gates_2 : decode cX7_gates 2 = .ok (.iconst 3, 1) := by decide +kernel
theorem dX7_gates_3 : decode cX7_gates 3 = .ok (.invokestatic 29, 3) := by decide +kernel
theorem dX7_gates_6 : decode cX7_gates 6 = .ok (.ifCond .ne 6, 3) := by decide +kernel
theorem dX7_gates_9 : decode cX7_gates 9 = .ok (.ldc 33, 2) := by decide +kernel
theorem dX7_gates_11 : decode cX7_gates 11 = .ok (.ireturn, 1) := by decide +kernel
theorem dX7_gates_12 : decode cX7_gates 12 = .ok (.aload_n 0, 1) := by decide +kernel
theorem dX7_gates_13 : decode cX7_gates 13 = .ok (.getfield 7, 3) := by decide +kernel
theorem dX7_gates_16 : decode cX7_gates 16 = .ok (.bipush 18, 2) := by decide +kernel
theorem dX7_gates_18 : decode cX7_gates 18 = .ok (.iaload, 1) := by decide +kernel
theorem dX7_gates_19 : decode cX7_gates 19 = .ok (.istore_n 2, 1) := by decide +kernel
theorem dX7_gates_20 : decode cX7_gates 20 = .ok (.aload_n 0, 1) := by decide +kernel
theorem dX7_gates_21 : decode cX7_gates 21 = .ok (.getfield 7, 3) := by decide +kernel
theorem dX7_gates_24 : decode cX7_gates 24 = .ok (.bipush 18, 2) := by decide +kernel
theorem dX7_gates_26 : decode cX7_gates 26 = .ok (.iload_n 1, 1) := by decide +kernel
theorem dX7_gates_27 : decode cX7_gates 27 = .ok (.iastore, 1) := by decide +kernel
theorem dX7_gates_28 : decode cX7_gates 28 = .ok (.iload_n 2, 1) := by decide +kernel
theorem dX7_gates_29 : decode cX7_gates 29 = .ok (.ireturn, 1) := by decide +kernel
theorem dX7_brings_0 : decode cX7_brings 0 = .ok (.aload_n 0, 1) := by decide +kernel
theorem dX7_brings_1 : decode cX7_brings 1 = .ok (.iload_n 1, 1) := by decide +kernel
theorem dX7_brings_2 : decode cX7_brings 2 = .ok (.invokevirtual 94, 3) := by decide +kernel
theorem dX7_brings_5 : decode cX7_brings 5 = .ok (.ifCond .eq 22, 3) := by decide +kernel
theorem dX7_brings_8 : decode cX7_brings 8 = .ok (.aload_n 0, 1) := by decide +kernel
theorem dX7_brings_9 : decode cX7_brings 9 = .ok (.iload_n 2, 1) := by decide +kernel
theorem dX7_brings_10 : decode cX7_brings 10 = .ok (.invokevirtual 98, 3) := by decide +kernel
theorem dX7_brings_13 : decode cX7_brings 13 = .ok (.ifCond .eq 14, 3) := by decide +kernel
theorem dX7_brings_16 : decode cX7_brings 16 = .ok (.iload_n 3, 1) := by decide +kernel
theorem dX7_brings_17 : decode cX7_brings 17 = .ok (.iconst 1, 1) := by decide +kernel
theorem dX7_brings_18 : decode cX7_brings 18 = .ok (.sipush 200, 3) := by decide +kernel
theorem dX7_brings_21 : decode cX7_brings 21 = .ok (.invokestatic 29, 3) := by decide +kernel
theorem dX7_brings_24 : decode cX7_brings 24 = .ok (.ifCond .ne 6, 3) := by decide +kernel
theorem dX7_brings_27 : decode cX7_brings 27 = .ok (.ldc 33, 2) := by decide +kernel
theorem dX7_brings_29 : decode cX7_brings 29 = .ok (.ireturn, 1) := by decide +kernel
theorem dX7_brings_30 : decode cX7_brings 30 = .ok (.aload_n 0, 1) := by decide +kernel
theorem dX7_brings_31 : decode cX7_brings 31 = .ok (.getfield 7, 3) := by decide +kernel
theorem dX7_brings_34 : decode cX7_brings 34 = .ok (.bipush 29, 2) := by decide +kernel
theorem dX7_brings_36 : decode cX7_brings 36 = .ok (.iaload, 1) := by decide +kernel
theorem dX7_brings_37 : decode cX7_brings 37 = .ok (.bipush 24, 2) := by decide +kernel
theorem dX7_brings_39 : decode cX7_brings 39 = .ok (.if_icmp .ne 6, 3) := by decide +kernel
theorem dX7_brings_42 : decode cX7_brings 42 = .ok (.ldc 101, 2) := by decide +kernel
theorem dX7_brings_44 : decode cX7_brings 44 = .ok (.ireturn, 1) := by decide +kernel
theorem dX7_brings_45 : decode cX7_brings 45 = .ok (.aload_n 0, 1) := by decide +kernel
theorem dX7_brings_46 : decode cX7_brings 46 = .ok (.getfield 7, 3) := by decide +kernel
theorem dX7_brings_49 : decode cX7_brings 49 = .ok (.bipush 29, 2) := by decide +kernel
theorem dX7_brings_51 : decode cX7_brings 51 = .ok (.iaload, 1) := by decide +kernel
theorem dX7_brings_52 : decode cX7_brings 52 = .ok (.istore 4, 2) := by decide +kernel
theorem dX7_brings_54 : decode cX7_brings 54 = .ok (.iconst 0, 1) := by decide +kernel
theorem dX7_brings_55 : decode cX7_brings 55 = .ok (.istore 5, 2) := by decide +kernel
theorem dX7_brings_57 : decode cX7_brings 57 = .ok (.iload 5, 2) := by decide +kernel
theorem dX7_brings_59 : decode cX7_brings 59 = .ok (.bipush 13, 2) := by decide +kernel
theorem dX7_brings_61 : decode cX7_brings 61 = .ok (.if_icmp .ge 18, 3) := by decide +kernel
theorem dX7_brings_64 : decode cX7_brings 64 = .ok (.aload_n 0, 1) := by decide +kernel
theorem dX7_brings_65 : decode cX7_brings 65 = .ok (.iload 4, 2) := by decide +kernel
theorem dX7_brings_67 : decode cX7_brings 67 = .ok (.iload 5, 2) := by decide +kernel
theorem dX7_brings_69 : decode cX7_brings 69 = .ok (.iconst 0, 1) := by decide +kernel
theorem dX7_brings_70 : decode cX7_brings 70 = .ok (.invokevirtual 64, 3) := by decide +kernel
theorem dX7_brings_73 : decode cX7_brings 73 = .ok (.iinc 5 1, 3) := by decide +kernel
theorem dX7_brings_76 : decode cX7_brings 76 = .ok (.goto (-19), 3) := by decide +kernel
theorem dX7_brings_79 : decode cX7_brings 79 = .ok (.aload_n 0, 1) := by decide +kernel
theorem dX7_brings_80 : decode cX7_brings 80 = .ok (.iload 4, 2) := by decide +kernel
theorem dX7_brings_82 : decode cX7_brings 82 = .ok (.iconst 0, 1) := by decide +kernel
theorem dX7_brings_83 : decode cX7_brings 83 = .ok (.iload_n 1, 1) := by decide +kernel
theorem dX7_brings_84 : decode cX7_brings 84 = .ok (.invokevirtual 64, 3) := by decide +kernel
theorem dX7_brings_87 : decode cX7_brings 87 = .ok (.aload_n 0, 1) := by decide +kernel
theorem dX7_brings_88 : decode cX7_brings 88 = .ok (.iload 4, 2) := by decide +kernel
theorem dX7_brings_90 : decode cX7_brings 90 = .ok (.iconst 1, 1) := by decide +kernel
theorem dX7_brings_91 : decode cX7_brings 91 = .ok (.iload_n 2, 1) := by decide +kernel
theorem dX7_brings_92 : decode cX7_brings 92 = .ok (.invokevirtual 64, 3) := by decide +kernel
theorem dX7_brings_95 : decode cX7_brings 95 = .ok (.aload_n 0, 1) := by decide +kernel
theorem dX7_brings_96 : decode cX7_brings 96 = .ok (.iload 4, 2) := by decide +kernel
theorem dX7_brings_98 : decode cX7_brings 98 = .ok (.iconst 2, 1) := by decide +kernel
theorem dX7_brings_99 : decode cX7_brings 99 = .ok (.iload_n 3, 1) := by decide +kernel
theorem dX7_brings_100 : decode cX7_brings 100 = .ok (.invokevirtual 64, 3) := by decide +kernel
theorem dX7_brings_103 : decode cX7_brings 103 = .ok (.aload_n 0, 1) := by decide +kernel
theorem dX7_brings_104 : decode cX7_brings 104 = .ok (.getfield 7, 3) := by decide +kernel
theorem dX7_brings_107 : decode cX7_brings 107 = .ok (.bipush 29, 2) := by decide +kernel
theorem dX7_brings_109 : decode cX7_brings 109 = .ok (.dup2, 1) := by decide +kernel
theorem dX7_brings_110 : decode cX7_brings 110 = .ok (.iaload, 1) := by decide +kernel
theorem dX7_brings_111 : decode cX7_brings 111 = .ok (.iconst 1, 1) := by decide +kernel
theorem dX7_brings_112 : decode cX7_brings 112 = .ok (.iadd, 1) := by decide +kernel
theorem dX7_brings_113 : decode cX7_brings 113 = .ok (.iastore, 1) := by decide +kernel
theorem dX7_brings_114 : decode cX7_brings 114 = .ok (.iload 4, 2) := by decide +kernel
theorem dX7_brings_116 : decode cX7_brings 116 = .ok (.ireturn, 1) := by decide +kernel
theorem dX7_fetches_0 : decode cX7_fetches 0 = .ok (.aload_n 0, 1) := by decide +kernel
theorem dX7_fetches_1 : decode cX7_fetches 1 = .ok (.iload_n 1, 1) := by decide +kernel
theorem dX7_fetches_2 : decode cX7_fetches 2 = .ok (.invokevirtual 102, 3) := by decide +kernel
theorem dX7_fetches_5 : decode cX7_fetches 5 = .ok (.ifCond .ne 6, 3) := by decide +kernel
theorem dX7_fetches_8 : decode cX7_fetches 8 = .ok (.ldc 33, 2) := by decide +kernel
theorem dX7_fetches_10 : decode cX7_fetches 10 = .ok (.ireturn, 1) := by decide +kernel
theorem dX7_fetches_11 : decode cX7_fetches 11 = .ok (.aload_n 0, 1) := by decide +kernel
theorem dX7_fetches_12 : decode cX7_fetches 12 = .ok (.iload_n 1, 1) := by decide +kernel
theorem dX7_fetches_13 : decode cX7_fetches 13 = .ok (.iconst 3, 1) := by decide +kernel
theorem dX7_fetches_14 : decode cX7_fetches 14 = .ok (.invokevirtual 38, 3) := by decide +kernel
theorem dX7_fetches_17 : decode cX7_fetches 17 = .ok (.iconst 2, 1) := by decide +kernel
theorem dX7_fetches_18 : decode cX7_fetches 18 = .ok (.if_icmp .ne 13, 3) := by decide +kernel
theorem dX7_fetches_21 : decode cX7_fetches 21 = .ok (.aload_n 0, 1) := by decide +kernel
theorem dX7_fetches_22 : decode cX7_fetches 22 = .ok (.iload_n 1, 1) := by decide +kernel
theorem dX7_fetches_23 : decode cX7_fetches 23 = .ok (.bipush 6, 2) := by decide +kernel
theorem dX7_fetches_25 : decode cX7_fetches 25 = .ok (.invokevirtual 38, 3) := by decide +kernel
theorem dX7_fetches_28 : decode cX7_fetches 28 = .ok (.ifCond .le 6, 3) := by decide +kernel
theorem dX7_fetches_31 : decode cX7_fetches 31 = .ok (.ldc 105, 2) := by decide +kernel
theorem dX7_fetches_33 : decode cX7_fetches 33 = .ok (.ireturn, 1) := by decide +kernel
theorem dX7_fetches_34 : decode cX7_fetches 34 = .ok (.aload_n 0, 1) := by decide +kernel
theorem dX7_fetches_35 : decode cX7_fetches 35 = .ok (.iload_n 1, 1) := by decide +kernel
theorem dX7_fetches_36 : decode cX7_fetches 36 = .ok (.invokevirtual 106, 3) := by decide +kernel
theorem dX7_fetches_39 : decode cX7_fetches 39 = .ok (.istore_n 2, 1) := by decide +kernel
theorem dX7_fetches_40 : decode cX7_fetches 40 = .ok (.aload_n 0, 1) := by decide +kernel
theorem dX7_fetches_41 : decode cX7_fetches 41 = .ok (.iload_n 1, 1) := by decide +kernel
theorem dX7_fetches_42 : decode cX7_fetches 42 = .ok (.bipush 11, 2) := by decide +kernel
theorem dX7_fetches_44 : decode cX7_fetches 44 = .ok (.iload_n 2, 1) := by decide +kernel
theorem dX7_fetches_45 : decode cX7_fetches 45 = .ok (.invokevirtual 64, 3) := by decide +kernel
theorem dX7_fetches_48 : decode cX7_fetches 48 = .ok (.aload_n 0, 1) := by decide +kernel
theorem dX7_fetches_49 : decode cX7_fetches 49 = .ok (.iload_n 1, 1) := by decide +kernel
theorem dX7_fetches_50 : decode cX7_fetches 50 = .ok (.iconst 3, 1) := by decide +kernel
theorem dX7_fetches_51 : decode cX7_fetches 51 = .ok (.iconst 3, 1) := by decide +kernel
theorem dX7_fetches_52 : decode cX7_fetches 52 = .ok (.invokevirtual 64, 3) := by decide +kernel
theorem dX7_fetches_55 : decode cX7_fetches 55 = .ok (.iload_n 2, 1) := by decide +kernel
theorem dX7_fetches_56 : decode cX7_fetches 56 = .ok (.ireturn, 1) := by decide +kernel
theorem dX7_product_0 : decode cX7_product 0 = .ok (.iload_n 0, 1) := by decide +kernel
theorem dX7_product_1 : decode cX7_product 1 = .ok (.i2l, 1) := by decide +kernel
theorem dX7_product_2 : decode cX7_product 2 = .ok (.iload_n 1, 1) := by decide +kernel
theorem dX7_product_3 : decode cX7_product 3 = .ok (.i2l, 1) := by decide +kernel
theorem dX7_product_4 : decode cX7_product 4 = .ok (.lmul, 1) := by decide +kernel
theorem dX7_product_5 : decode cX7_product 5 = .ok (.lstore_n 2, 1) := by decide +kernel
theorem dX7_product_6 : decode cX7_product 6 = .ok (.iload_n 0, 1) := by decide +kernel
theorem dX7_product_7 : decode cX7_product 7 = .ok (.ifCond .lt 11, 3) := by decide +kernel
theorem dX7_product_10 : decode cX7_product 10 = .ok (.lload_n 2, 1) := by decide +kernel
theorem dX7_product_11 : decode cX7_product 11 = .ok (.ldc2_w 109, 3) := by decide +kernel
theorem dX7_product_14 : decode cX7_product 14 = .ok (.lcmp, 1) := by decide +kernel
theorem dX7_product_15 : decode cX7_product 15 = .ok (.ifCond .le 7, 3) := by decide +kernel
theorem dX7_product_18 : decode cX7_product 18 = .ok (.iconst (-1), 1) := by decide +kernel
theorem dX7_product_19 : decode cX7_product 19 = .ok (.goto 5, 3) := by decide +kernel
theorem dX7_product_22 : decode cX7_product 22 = .ok (.lload_n 2, 1) := by decide +kernel
theorem dX7_product_23 : decode cX7_product 23 = .ok (.l2i, 1) := by decide +kernel
theorem dX7_product_24 : decode cX7_product 24 = .ok (.ireturn, 1) := by decide +kernel
theorem dX7_pledges_0 : decode cX7_pledges 0 = .ok (.aload_n 0, 1) := by decide +kernel
theorem dX7_pledges_1 : decode cX7_pledges 1 = .ok (.iload_n 1, 1) := by decide +kernel
theorem dX7_pledges_2 : decode cX7_pledges 2 = .ok (.invokevirtual 102, 3) := by decide +kernel
theorem dX7_pledges_5 : decode cX7_pledges 5 = .ok (.ifCond .eq 14, 3) := by decide +kernel
theorem dX7_pledges_8 : decode cX7_pledges 8 = .ok (.iload_n 2, 1) := by decide +kernel
theorem dX7_pledges_9 : decode cX7_pledges 9 = .ok (.iconst 1, 1) := by decide +kernel
theorem dX7_pledges_10 : decode cX7_pledges 10 = .ok (.sipush 200, 3) := by decide +kernel
theorem dX7_pledges_13 : decode cX7_pledges 13 = .ok (.invokestatic 29, 3) := by decide +kernel
theorem dX7_pledges_16 : decode cX7_pledges 16 = .ok (.ifCond .ne 6, 3) := by decide +kernel
theorem dX7_pledges_19 : decode cX7_pledges 19 = .ok (.ldc 33, 2) := by decide +kernel
theorem dX7_pledges_21 : decode cX7_pledges 21 = .ok (.ireturn, 1) := by decide +kernel
theorem dX7_pledges_22 : decode cX7_pledges 22 = .ok (.aload_n 0, 1) := by decide +kernel
theorem dX7_pledges_23 : decode cX7_pledges 23 = .ok (.iload_n 1, 1) := by decide +kernel
theorem dX7_pledges_24 : decode cX7_pledges 24 = .ok (.iconst 3, 1) := by decide +kernel
theorem dX7_pledges_25 : decode cX7_pledges 25 = .ok (.invokevirtual 38, 3) := by decide +kernel
theorem dX7_pledges_28 : decode cX7_pledges 28 = .ok (.iconst 2, 1) := by decide +kernel
theorem dX7_pledges_29 : decode cX7_pledges 29 = .ok (.if_icmp .ne 22, 3) := by decide +kernel
theorem dX7_pledges_32 : decode cX7_pledges 32 = .ok (.aload_n 0, 1) := by decide +kernel
theorem dX7_pledges_33 : decode cX7_pledges 33 = .ok (.iload_n 1, 1) := by decide +kernel
theorem dX7_pledges_34 : decode cX7_pledges 34 = .ok (.bipush 6, 2) := by decide +kernel
theorem dX7_pledges_36 : decode cX7_pledges 36 = .ok (.invokevirtual 38, 3) := by decide +kernel
theorem dX7_pledges_39 : decode cX7_pledges 39 = .ok (.ifCond .gt 12, 3) := by decide +kernel
theorem dX7_pledges_42 : decode cX7_pledges 42 = .ok (.aload_n 0, 1) := by decide +kernel
theorem dX7_pledges_43 : decode cX7_pledges 43 = .ok (.iload_n 1, 1) := by decide +kernel
theorem dX7_pledges_44 : decode cX7_pledges 44 = .ok (.invokevirtual 106, 3) := by decide +kernel
theorem dX7_pledges_47 : decode cX7_pledges 47 = .ok (.iload_n 2, 1) := by decide +kernel
theorem dX7_pledges_48 : decode cX7_pledges 48 = .ok (.if_icmp .ge 6, 3) := by decide +kernel
theorem dX7_pledges_51 : decode cX7_pledges 51 = .ok (.ldc 105, 2) := by decide +kernel
theorem dX7_pledges_53 : decode cX7_pledges 53 = .ok (.ireturn, 1) := by decide +kernel
theorem dX7_pledges_54 : decode cX7_pledges 54 = .ok (.iload_n 2, 1) := by decide +kernel
theorem dX7_pledges_55 : decode cX7_pledges 55 = .ok (.aload_n 0, 1) := by decide +kernel
theorem dX7_pledges_56 : decode cX7_pledges 56 = .ok (.getfield 7, 3) := by decide +kernel
theorem dX7_pledges_59 : decode cX7_pledges 59 = .ok (.bipush 30, 2) := by decide +kernel
theorem dX7_pledges_61 : decode cX7_pledges 61 = .ok (.iconst 3, 1) := by decide +kernel
theorem dX7_pledges_62 : decode cX7_pledges 62 = .ok (.aload_n 0, 1) := by decide +kernel
theorem dX7_pledges_63 : decode cX7_pledges 63 = .ok (.iload_n 1, 1) := by decide +kernel
theorem dX7_pledges_64 : decode cX7_pledges 64 = .ok (.iconst 1, 1) := by decide +kernel
theorem dX7_pledges_65 : decode cX7_pledges 65 = .ok (.invokevirtual 38, 3) := by decide +kernel
theorem dX7_pledges_68 : decode cX7_pledges 68 = .ok (.imul, 1) := by decide +kernel
theorem dX7_pledges_69 : decode cX7_pledges 69 = .ok (.iadd, 1) := by decide +kernel
theorem dX7_pledges_70 : decode cX7_pledges 70 = .ok (.iconst 2, 1) := by decide +kernel
theorem dX7_pledges_71 : decode cX7_pledges 71 = .ok (.iadd, 1) := by decide +kernel
theorem dX7_pledges_72 : decode cX7_pledges 72 = .ok (.iaload, 1) := by decide +kernel
theorem dX7_pledges_73 : decode cX7_pledges 73 = .ok (.invokestatic 111, 3) := by decide +kernel
theorem dX7_pledges_76 : decode cX7_pledges 76 = .ok (.aload_n 0, 1) := by decide +kernel
theorem dX7_pledges_77 : decode cX7_pledges 77 = .ok (.getfield 7, 3) := by decide +kernel
theorem dX7_pledges_80 : decode cX7_pledges 80 = .ok (.bipush 11, 2) := by decide +kernel
theorem dX7_pledges_82 : decode cX7_pledges 82 = .ok (.iaload, 1) := by decide +kernel
theorem dX7_pledges_83 : decode cX7_pledges 83 = .ok (.invokestatic 111, 3) := by decide +kernel
theorem dX7_pledges_86 : decode cX7_pledges 86 = .ok (.istore_n 3, 1) := by decide +kernel
theorem dX7_pledges_87 : decode cX7_pledges 87 = .ok (.aload_n 0, 1) := by decide +kernel
theorem dX7_pledges_88 : decode cX7_pledges 88 = .ok (.getfield 7, 3) := by decide +kernel
theorem dX7_pledges_91 : decode cX7_pledges 91 = .ok (.bipush 48, 2) := by decide +kernel
theorem dX7_pledges_93 : decode cX7_pledges 93 = .ok (.aload_n 0, 1) := by decide +kernel
theorem dX7_pledges_94 : decode cX7_pledges 94 = .ok (.iload_n 1, 1) := by decide +kernel
theorem dX7_pledges_95 : decode cX7_pledges 95 = .ok (.iconst 0, 1) := by decide +kernel
theorem dX7_pledges_96 : decode cX7_pledges 96 = .ok (.invokevirtual 38, 3) := by decide +kernel
theorem dX7_pledges_99 : decode cX7_pledges 99 = .ok (.iadd, 1) := by decide +kernel
theorem dX7_pledges_100 : decode cX7_pledges 100 = .ok (.iaload, 1) := by decide +kernel
theorem dX7_pledges_101 : decode cX7_pledges 101 = .ok (.istore 4, 2) := by decide +kernel
theorem dX7_pledges_103 : decode cX7_pledges 103 = .ok (.iload_n 3, 1) := by decide +kernel
theorem dX7_pledges_104 : decode cX7_pledges 104 = .ok (.ifCond .lt 15, 3) := by decide +kernel
theorem dX7_pledges_107 : decode cX7_pledges 107 = .ok (.iload_n 3, 1) := by decide +kernel
theorem dX7_pledges_108 : decode cX7_pledges 108 = .ok (.bipush 100, 2) := by decide +kernel
theorem dX7_pledges_110 : decode cX7_pledges 110 = .ok (.idiv, 1) := by decide +kernel
theorem dX7_pledges_111 : decode cX7_pledges 111 = .ok (.ldc 114, 2) := by decide +kernel
theorem dX7_pledges_113 : decode cX7_pledges 113 = .ok (.iload 4, 2) := by decide +kernel
theorem dX7_pledges_115 : decode cX7_pledges 115 = .ok (.isub, 1) := by decide +kernel
theorem dX7_pledges_116 : decode cX7_pledges 116 = .ok (.if_icmp .le 6, 3) := by decide +kernel
theorem dX7_pledges_119 : decode cX7_pledges 119 = .ok (.ldc 105, 2) := by decide +kernel
theorem dX7_pledges_121 : decode cX7_pledges 121 = .ok (.ireturn, 1) := by decide +kernel
theorem dX7_pledges_122 : decode cX7_pledges 122 = .ok (.iload_n 3, 1) := by decide +kernel
theorem dX7_pledges_123 : decode cX7_pledges 123 = .ok (.bipush 100, 2) := by decide +kernel
theorem dX7_pledges_125 : decode cX7_pledges 125 = .ok (.idiv, 1) := by decide +kernel
theorem dX7_pledges_126 : decode cX7_pledges 126 = .ok (.istore 5, 2) := by decide +kernel
theorem dX7_pledges_128 : decode cX7_pledges 128 = .ok (.aload_n 0, 1) := by decide +kernel
theorem dX7_pledges_129 : decode cX7_pledges 129 = .ok (.iload_n 1, 1) := by decide +kernel
theorem dX7_pledges_130 : decode cX7_pledges 130 = .ok (.bipush 6, 2) := by decide +kernel
theorem dX7_pledges_132 : decode cX7_pledges 132 = .ok (.iload_n 2, 1) := by decide +kernel
theorem dX7_pledges_133 : decode cX7_pledges 133 = .ok (.invokevirtual 64, 3) := by decide +kernel
theorem dX7_pledges_136 : decode cX7_pledges 136 = .ok (.aload_n 0, 1) := by decide +kernel
theorem dX7_pledges_137 : decode cX7_pledges 137 = .ok (.iload_n 1, 1) := by decide +kernel
theorem dX7_pledges_138 : decode cX7_pledges 138 = .ok (.bipush 7, 2) := by decide +kernel
theorem dX7_pledges_140 : decode cX7_pledges 140 = .ok (.iload 5, 2) := by decide +kernel
theorem dX7_pledges_142 : decode cX7_pledges 142 = .ok (.invokevirtual 64, 3) := by decide +kernel
theorem dX7_pledges_145 : decode cX7_pledges 145 = .ok (.aload_n 0, 1) := by decide +kernel
theorem dX7_pledges_146 : decode cX7_pledges 146 = .ok (.iload_n 1, 1) := by decide +kernel
theorem dX7_pledges_147 : decode cX7_pledges 147 = .ok (.bipush 8, 2) := by decide +kernel
theorem dX7_pledges_149 : decode cX7_pledges 149 = .ok (.aload_n 0, 1) := by decide +kernel
theorem dX7_pledges_150 : decode cX7_pledges 150 = .ok (.getfield 7, 3) := by decide +kernel
theorem dX7_pledges_153 : decode cX7_pledges 153 = .ok (.bipush 26, 2) := by decide +kernel
theorem dX7_pledges_155 : decode cX7_pledges 155 = .ok (.iaload, 1) := by decide +kernel
theorem dX7_pledges_156 : decode cX7_pledges 156 = .ok (.bipush 96, 2) := by decide +kernel
theorem dX7_pledges_158 : decode cX7_pledges 158 = .ok (.idiv, 1) := by decide +kernel
theorem dX7_pledges_159 : decode cX7_pledges 159 = .ok (.invokevirtual 64, 3) := by decide +kernel
theorem dX7_pledges_162 : decode cX7_pledges 162 = .ok (.aload_n 0, 1) := by decide +kernel
theorem dX7_pledges_163 : decode cX7_pledges 163 = .ok (.iload_n 1, 1) := by decide +kernel
theorem dX7_pledges_164 : decode cX7_pledges 164 = .ok (.bipush 9, 2) := by decide +kernel
theorem dX7_pledges_166 : decode cX7_pledges 166 = .ok (.aload_n 0, 1) := by decide +kernel
theorem dX7_pledges_167 : decode cX7_pledges 167 = .ok (.getfield 7, 3) := by decide +kernel
theorem dX7_pledges_170 : decode cX7_pledges 170 = .ok (.bipush 26, 2) := by decide +kernel
theorem dX7_pledges_172 : decode cX7_pledges 172 = .ok (.iaload, 1) := by decide +kernel
theorem dX7_pledges_173 : decode cX7_pledges 173 = .ok (.bipush 96, 2) := by decide +kernel
theorem dX7_pledges_175 : decode cX7_pledges 175 = .ok (.idiv, 1) := by decide +kernel
theorem dX7_pledges_176 : decode cX7_pledges 176 = .ok (.aload_n 0, 1) := by decide +kernel
theorem dX7_pledges_177 : decode cX7_pledges 177 = .ok (.getfield 7, 3) := by decide +kernel
theorem dX7_pledges_180 : decode cX7_pledges 180 = .ok (.bipush 10, 2) := by decide +kernel
theorem dX7_pledges_182 : decode cX7_pledges 182 = .ok (.iaload, 1) := by decide +kernel
theorem dX7_pledges_183 : decode cX7_pledges 183 = .ok (.iadd, 1) := by decide +kernel
theorem dX7_pledges_184 : decode cX7_pledges 184 = .ok (.invokevirtual 64, 3) := by decide +kernel
theorem dX7_pledges_187 : decode cX7_pledges 187 = .ok (.aload_n 0, 1) := by decide +kernel
theorem dX7_pledges_188 : decode cX7_pledges 188 = .ok (.getfield 7, 3) := by decide +kernel
theorem dX7_pledges_191 : decode cX7_pledges 191 = .ok (.bipush 48, 2) := by decide +kernel
theorem dX7_pledges_193 : decode cX7_pledges 193 = .ok (.aload_n 0, 1) := by decide +kernel
theorem dX7_pledges_194 : decode cX7_pledges 194 = .ok (.iload_n 1, 1) := by decide +kernel
theorem dX7_pledges_195 : decode cX7_pledges 195 = .ok (.iconst 0, 1) := by decide +kernel
theorem dX7_pledges_196 : decode cX7_pledges 196 = .ok (.invokevirtual 38, 3) := by decide +kernel
theorem dX7_pledges_199 : decode cX7_pledges 199 = .ok (.iadd, 1) := by decide +kernel
theorem dX7_pledges_200 : decode cX7_pledges 200 = .ok (.dup2, 1) := by decide +kernel
theorem dX7_pledges_201 : decode cX7_pledges 201 = .ok (.iaload, 1) := by decide +kernel
theorem dX7_pledges_202 : decode cX7_pledges 202 = .ok (.iload 5, 2) := by decide +kernel
theorem dX7_pledges_204 : decode cX7_pledges 204 = .ok (.iadd, 1) := by decide +kernel
theorem dX7_pledges_205 : decode cX7_pledges 205 = .ok (.iastore, 1) := by decide +kernel
theorem dX7_pledges_206 : decode cX7_pledges 206 = .ok (.iload 5, 2) := by decide +kernel
theorem dX7_pledges_208 : decode cX7_pledges 208 = .ok (.ireturn, 1) := by decide +kernel
theorem dX7_owes_0 : decode cX7_owes 0 = .ok (.aload_n 0, 1) := by decide +kernel
theorem dX7_owes_1 : decode cX7_owes 1 = .ok (.iload_n 1, 1) := by decide +kernel
theorem dX7_owes_2 : decode cX7_owes 2 = .ok (.bipush 7, 2) := by decide +kernel
theorem dX7_owes_4 : decode cX7_owes 4 = .ok (.invokevirtual 38, 3) := by decide +kernel
theorem dX7_owes_7 : decode cX7_owes 7 = .ok (.aload_n 0, 1) := by decide +kernel
theorem dX7_owes_8 : decode cX7_owes 8 = .ok (.getfield 7, 3) := by decide +kernel
theorem dX7_owes_11 : decode cX7_owes 11 = .ok (.bipush 9, 2) := by decide +kernel
theorem dX7_owes_13 : decode cX7_owes 13 = .ok (.iaload, 1) := by decide +kernel
theorem dX7_owes_14 : decode cX7_owes 14 = .ok (.invokestatic 111, 3) := by decide +kernel
theorem dX7_owes_17 : decode cX7_owes 17 = .ok (.aload_n 0, 1) := by decide +kernel
theorem dX7_owes_18 : decode cX7_owes 18 = .ok (.getfield 7, 3) := by decide +kernel
theorem dX7_owes_21 : decode cX7_owes 21 = .ok (.bipush 26, 2) := by decide +kernel
theorem dX7_owes_23 : decode cX7_owes 23 = .ok (.iaload, 1) := by decide +kernel
theorem dX7_owes_24 : decode cX7_owes 24 = .ok (.bipush 96, 2) := by decide +kernel
theorem dX7_owes_26 : decode cX7_owes 26 = .ok (.idiv, 1) := by decide +kernel
theorem dX7_owes_27 : decode cX7_owes 27 = .ok (.aload_n 0, 1) := by decide +kernel
theorem dX7_owes_28 : decode cX7_owes 28 = .ok (.iload_n 1, 1) := by decide +kernel
theorem dX7_owes_29 : decode cX7_owes 29 = .ok (.bipush 8, 2) := by decide +kernel
theorem dX7_owes_31 : decode cX7_owes 31 = .ok (.invokevirtual 38, 3) := by decide +kernel
theorem dX7_owes_34 : decode cX7_owes 34 = .ok (.isub, 1) := by decide +kernel
theorem dX7_owes_35 : decode cX7_owes 35 = .ok (.invokestatic 111, 3) := by decide +kernel
theorem dX7_owes_38 : decode cX7_owes 38 = .ok (.istore_n 2, 1) := by decide +kernel
theorem dX7_owes_39 : decode cX7_owes 39 = .ok (.iload_n 2, 1) := by decide +kernel
theorem dX7_owes_40 : decode cX7_owes 40 = .ok (.ifCond .lt 21, 3) := by decide +kernel
theorem dX7_owes_43 : decode cX7_owes 43 = .ok (.iload_n 2, 1) := by decide +kernel
theorem dX7_owes_44 : decode cX7_owes 44 = .ok (.sipush 1000, 3) := by decide +kernel
theorem dX7_owes_47 : decode cX7_owes 47 = .ok (.idiv, 1) := by decide +kernel
theorem dX7_owes_48 : decode cX7_owes 48 = .ok (.ldc 114, 2) := by decide +kernel
theorem dX7_owes_50 : decode cX7_owes 50 = .ok (.aload_n 0, 1) := by decide +kernel
theorem dX7_owes_51 : decode cX7_owes 51 = .ok (.iload_n 1, 1) := by decide +kernel
theorem dX7_owes_52 : decode cX7_owes 52 = .ok (.bipush 7, 2) := by decide +kernel
theorem dX7_owes_54 : decode cX7_owes 54 = .ok (.invokevirtual 38, 3) := by decide +kernel
theorem dX7_owes_57 : decode cX7_owes 57 = .ok (.isub, 1) := by decide +kernel
theorem dX7_owes_58 : decode cX7_owes 58 = .ok (.if_icmp .le 8, 3) := by decide +kernel
theorem dX7_owes_61 : decode cX7_owes 61 = .ok (.ldc 114, 2) := by decide +kernel
theorem dX7_owes_63 : decode cX7_owes 63 = .ok (.goto 16, 3) := by decide +kernel
theorem dX7_owes_66 : decode cX7_owes 66 = .ok (.aload_n 0, 1) := by decide +kernel
theorem dX7_owes_67 : decode cX7_owes 67 = .ok (.iload_n 1, 1) := by decide +kernel
theorem dX7_owes_68 : decode cX7_owes 68 = .ok (.bipush 7, 2) := by decide +kernel
theorem dX7_owes_70 : decode cX7_owes 70 = .ok (.invokevirtual 38, 3) := by decide +kernel
theorem dX7_owes_73 : decode cX7_owes 73 = .ok (.iload_n 2, 1) := by decide +kernel
theorem dX7_owes_74 : decode cX7_owes 74 = .ok (.sipush 1000, 3) := by decide +kernel
theorem dX7_owes_77 : decode cX7_owes 77 = .ok (.idiv, 1) := by decide +kernel
theorem dX7_owes_78 : decode cX7_owes 78 = .ok (.iadd, 1) := by decide +kernel
theorem dX7_owes_79 : decode cX7_owes 79 = .ok (.ireturn, 1) := by decide +kernel
theorem dX7_redeems_0 : decode cX7_redeems 0 = .ok (.aload_n 0, 1) := by decide +kernel
theorem dX7_redeems_1 : decode cX7_redeems 1 = .ok (.iload_n 1, 1) := by decide +kernel
theorem dX7_redeems_2 : decode cX7_redeems 2 = .ok (.invokevirtual 102, 3) := by decide +kernel
theorem dX7_redeems_5 : decode cX7_redeems 5 = .ok (.ifCond .ne 6, 3) := by decide +kernel
theorem dX7_redeems_8 : decode cX7_redeems 8 = .ok (.ldc 33, 2) := by decide +kernel
theorem dX7_redeems_10 : decode cX7_redeems 10 = .ok (.ireturn, 1) := by decide +kernel
theorem dX7_redeems_11 : decode cX7_redeems 11 = .ok (.bipush 48, 2) := by decide +kernel
theorem dX7_redeems_13 : decode cX7_redeems 13 = .ok (.aload_n 0, 1) := by decide +kernel
theorem dX7_redeems_14 : decode cX7_redeems 14 = .ok (.iload_n 1, 1) := by decide +kernel
theorem dX7_redeems_15 : decode cX7_redeems 15 = .ok (.iconst 0, 1) := by decide +kernel
theorem dX7_redeems_16 : decode cX7_redeems 16 = .ok (.invokevirtual 38, 3) := by decide +kernel
theorem dX7_redeems_19 : decode cX7_redeems 19 = .ok (.iadd, 1) := by decide +kernel
theorem dX7_redeems_20 : decode cX7_redeems 20 = .ok (.istore_n 2, 1) := by decide +kernel
theorem dX7_redeems_21 : decode cX7_redeems 21 = .ok (.aload_n 0, 1) := by decide +kernel
theorem dX7_redeems_22 : decode cX7_redeems 22 = .ok (.iload_n 1, 1) := by decide +kernel
theorem dX7_redeems_23 : decode cX7_redeems 23 = .ok (.bipush 6, 2) := by decide +kernel
theorem dX7_redeems_25 : decode cX7_redeems 25 = .ok (.invokevirtual 38, 3) := by decide +kernel
theorem dX7_redeems_28 : decode cX7_redeems 28 = .ok (.ifCond .eq 27, 3) := by decide +kernel
theorem dX7_redeems_31 : decode cX7_redeems 31 = .ok (.aload_n 0, 1) := by decide +kernel
theorem dX7_redeems_32 : decode cX7_redeems 32 = .ok (.iload_n 1, 1) := by decide +kernel
theorem dX7_redeems_33 : decode cX7_redeems 33 = .ok (.invokevirtual 115, 3) := by decide +kernel
theorem dX7_redeems_36 : decode cX7_redeems 36 = .ok (.ldc 114, 2) := by decide +kernel
theorem dX7_redeems_38 : decode cX7_redeems 38 = .ok (.if_icmp .eq 17, 3) := by decide +kernel
theorem dX7_redeems_41 : decode cX7_redeems 41 = .ok (.aload_n 0, 1) := by decide +kernel
theorem dX7_redeems_42 : decode cX7_redeems 42 = .ok (.getfield 7, 3) := by decide +kernel
theorem dX7_redeems_45 : decode cX7_redeems 45 = .ok (.iload_n 2, 1) := by decide +kernel
theorem dX7_redeems_46 : decode cX7_redeems 46 = .ok (.iaload, 1) := by decide +kernel
theorem dX7_redeems_47 : decode cX7_redeems 47 = .ok (.aload_n 0, 1) := by decide +kernel
theorem dX7_redeems_48 : decode cX7_redeems 48 = .ok (.iload_n 1, 1) := by decide +kernel
theorem dX7_redeems_49 : decode cX7_redeems 49 = .ok (.invokevirtual 115, 3) := by decide +kernel
theorem dX7_redeems_52 : decode cX7_redeems 52 = .ok (.if_icmp .ge 6, 3) := by decide +kernel
theorem dX7_redeems_55 : decode cX7_redeems 55 = .ok (.ldc 105, 2) := by decide +kernel
theorem dX7_redeems_57 : decode cX7_redeems 57 = .ok (.ireturn, 1) := by decide +kernel
theorem dX7_redeems_58 : decode cX7_redeems 58 = .ok (.aload_n 0, 1) := by decide +kernel
theorem dX7_redeems_59 : decode cX7_redeems 59 = .ok (.getfield 7, 3) := by decide +kernel
theorem dX7_redeems_62 : decode cX7_redeems 62 = .ok (.iload_n 2, 1) := by decide +kernel
theorem dX7_redeems_63 : decode cX7_redeems 63 = .ok (.dup2, 1) := by decide +kernel
theorem dX7_redeems_64 : decode cX7_redeems 64 = .ok (.iaload, 1) := by decide +kernel
theorem dX7_redeems_65 : decode cX7_redeems 65 = .ok (.aload_n 0, 1) := by decide +kernel
theorem dX7_redeems_66 : decode cX7_redeems 66 = .ok (.iload_n 1, 1) := by decide +kernel
theorem dX7_redeems_67 : decode cX7_redeems 67 = .ok (.invokevirtual 115, 3) := by decide +kernel
theorem dX7_redeems_70 : decode cX7_redeems 70 = .ok (.isub, 1) := by decide +kernel
theorem dX7_redeems_71 : decode cX7_redeems 71 = .ok (.iastore, 1) := by decide +kernel
theorem dX7_redeems_72 : decode cX7_redeems 72 = .ok (.aload_n 0, 1) := by decide +kernel
theorem dX7_redeems_73 : decode cX7_redeems 73 = .ok (.iload_n 1, 1) := by decide +kernel
theorem dX7_redeems_74 : decode cX7_redeems 74 = .ok (.bipush 6, 2) := by decide +kernel
theorem dX7_redeems_76 : decode cX7_redeems 76 = .ok (.iconst 0, 1) := by decide +kernel
theorem dX7_redeems_77 : decode cX7_redeems 77 = .ok (.invokevirtual 64, 3) := by decide +kernel
theorem dX7_redeems_80 : decode cX7_redeems 80 = .ok (.aload_n 0, 1) := by decide +kernel
theorem dX7_redeems_81 : decode cX7_redeems 81 = .ok (.getfield 7, 3) := by decide +kernel
theorem dX7_redeems_84 : decode cX7_redeems 84 = .ok (.iload_n 2, 1) := by decide +kernel
theorem dX7_redeems_85 : decode cX7_redeems 85 = .ok (.iaload, 1) := by decide +kernel
theorem dX7_redeems_86 : decode cX7_redeems 86 = .ok (.ireturn, 1) := by decide +kernel
theorem dX7_low_0 : decode cX7_low 0 = .ok (.iload_n 0, 1) := by decide +kernel
theorem dX7_low_1 : decode cX7_low 1 = .ok (.ifCond .ne 8, 3) := by decide +kernel
theorem dX7_low_4 : decode cX7_low 4 = .ok (.bipush 10, 2) := by decide +kernel
theorem dX7_low_6 : decode cX7_low 6 = .ok (.goto 29, 3) := by decide +kernel
theorem dX7_low_9 : decode cX7_low 9 = .ok (.iload_n 0, 1) := by decide +kernel
theorem dX7_low_10 : decode cX7_low 10 = .ok (.iconst 4, 1) := by decide +kernel
theorem dX7_low_11 : decode cX7_low 11 = .ok (.if_icmp .ne 7, 3) := by decide +kernel
theorem dX7_low_14 : decode cX7_low 14 = .ok (.iconst 4, 1) := by decide +kernel
theorem dX7_low_15 : decode cX7_low 15 = .ok (.goto 20, 3) := by decide +kernel
theorem dX7_low_18 : decode cX7_low 18 = .ok (.iload_n 0, 1) := by decide +kernel
theorem dX7_low_19 : decode cX7_low 19 = .ok (.bipush 10, 2) := by decide +kernel
theorem dX7_low_21 : decode cX7_low 21 = .ok (.if_icmp .eq 9, 3) := by decide +kernel
theorem dX7_low_24 : decode cX7_low 24 = .ok (.iload_n 0, 1) := by decide +kernel
theorem dX7_low_25 : decode cX7_low 25 = .ok (.bipush 11, 2) := by decide +kernel
theorem dX7_low_27 : decode cX7_low 27 = .ok (.if_icmp .ne 7, 3) := by decide +kernel
theorem dX7_low_30 : decode cX7_low 30 = .ok (.iconst 1, 1) := by decide +kernel
theorem dX7_low_31 : decode cX7_low 31 = .ok (.goto 4, 3) := by decide +kernel
theorem dX7_low_34 : decode cX7_low 34 = .ok (.iconst 0, 1) := by decide +kernel
theorem dX7_low_35 : decode cX7_low 35 = .ok (.ireturn, 1) := by decide +kernel
theorem dX7_high_0 : decode cX7_high 0 = .ok (.iload_n 0, 1) := by decide +kernel
theorem dX7_high_1 : decode cX7_high 1 = .ok (.tableswitch 91 0 12 #[67, 91, 71, 91, 91, 75, 91, 79, 83, 91, 86, 91, 89], 67) := by decide +kernel
theorem dX7_high_68 : decode cX7_high 68 = .ok (.sipush 1000, 3) := by decide +kernel
theorem dX7_high_71 : decode cX7_high 71 = .ok (.ireturn, 1) := by decide +kernel
theorem dX7_high_72 : decode cX7_high 72 = .ok (.sipush 300, 3) := by decide +kernel
theorem dX7_high_75 : decode cX7_high 75 = .ok (.ireturn, 1) := by decide +kernel
theorem dX7_high_76 : decode cX7_high 76 = .ok (.sipush 200, 3) := by decide +kernel
theorem dX7_high_79 : decode cX7_high 79 = .ok (.ireturn, 1) := by decide +kernel
theorem dX7_high_80 : decode cX7_high 80 = .ok (.sipush 2000, 3) := by decide +kernel
theorem dX7_high_83 : decode cX7_high 83 = .ok (.ireturn, 1) := by decide +kernel
theorem dX7_high_84 : decode cX7_high 84 = .ok (.bipush 50, 2) := by decide +kernel
theorem dX7_high_86 : decode cX7_high 86 = .ok (.ireturn, 1) := by decide +kernel
theorem dX7_high_87 : decode cX7_high 87 = .ok (.bipush 60, 2) := by decide +kernel
theorem dX7_high_89 : decode cX7_high 89 = .ok (.ireturn, 1) := by decide +kernel
theorem dX7_high_90 : decode cX7_high 90 = .ok (.iconst 3, 1) := by decide +kernel
theorem dX7_high_91 : decode cX7_high 91 = .ok (.ireturn, 1) := by decide +kernel
theorem dX7_high_92 : decode cX7_high 92 = .ok (.bipush 100, 2) := by decide +kernel
theorem dX7_high_94 : decode cX7_high 94 = .ok (.ireturn, 1) := by decide +kernel
theorem dX7_set_0 : decode cX7_set 0 = .ok (.iload_n 1, 1) := by decide +kernel
theorem dX7_set_1 : decode cX7_set 1 = .ok (.iconst 0, 1) := by decide +kernel
theorem dX7_set_2 : decode cX7_set 2 = .ok (.bipush 12, 2) := by decide +kernel
theorem dX7_set_4 : decode cX7_set 4 = .ok (.invokestatic 29, 3) := by decide +kernel
theorem dX7_set_7 : decode cX7_set 7 = .ok (.ifCond .eq 18, 3) := by decide +kernel
theorem dX7_set_10 : decode cX7_set 10 = .ok (.iload_n 2, 1) := by decide +kernel
theorem dX7_set_11 : decode cX7_set 11 = .ok (.iload_n 1, 1) := by decide +kernel
theorem dX7_set_12 : decode cX7_set 12 = .ok (.invokestatic 118, 3) := by decide +kernel
theorem dX7_set_15 : decode cX7_set 15 = .ok (.iload_n 1, 1) := by decide +kernel
theorem dX7_set_16 : decode cX7_set 16 = .ok (.invokestatic 121, 3) := by decide +kernel
theorem dX7_set_19 : decode cX7_set 19 = .ok (.invokestatic 29, 3) := by decide +kernel
theorem dX7_set_22 : decode cX7_set 22 = .ok (.ifCond .ne 6, 3) := by decide +kernel
theorem dX7_set_25 : decode cX7_set 25 = .ok (.ldc 33, 2) := by decide +kernel
theorem dX7_set_27 : decode cX7_set 27 = .ok (.ireturn, 1) := by decide +kernel
theorem dX7_set_28 : decode cX7_set 28 = .ok (.aload_n 0, 1) := by decide +kernel
theorem dX7_set_29 : decode cX7_set 29 = .ok (.invokevirtual 124, 3) := by decide +kernel
theorem dX7_set_32 : decode cX7_set 32 = .ok (.aload_n 0, 1) := by decide +kernel
theorem dX7_set_33 : decode cX7_set 33 = .ok (.getfield 7, 3) := by decide +kernel
theorem dX7_set_36 : decode cX7_set 36 = .ok (.iload_n 1, 1) := by decide +kernel
theorem dX7_set_37 : decode cX7_set 37 = .ok (.iaload, 1) := by decide +kernel
theorem dX7_set_38 : decode cX7_set 38 = .ok (.istore_n 3, 1) := by decide +kernel
theorem dX7_set_39 : decode cX7_set 39 = .ok (.aload_n 0, 1) := by decide +kernel
theorem dX7_set_40 : decode cX7_set 40 = .ok (.getfield 7, 3) := by decide +kernel
theorem dX7_set_43 : decode cX7_set 43 = .ok (.iload_n 1, 1) := by decide +kernel
theorem dX7_set_44 : decode cX7_set 44 = .ok (.iload_n 2, 1) := by decide +kernel
theorem dX7_set_45 : decode cX7_set 45 = .ok (.iastore, 1) := by decide +kernel
theorem dX7_set_46 : decode cX7_set 46 = .ok (.aload_n 0, 1) := by decide +kernel
theorem dX7_set_47 : decode cX7_set 47 = .ok (.iload_n 3, 1) := by decide +kernel
theorem dX7_set_48 : decode cX7_set 48 = .ok (.invokevirtual 127, 3) := by decide +kernel
theorem dX7_set_51 : decode cX7_set 51 = .ok (.ireturn, 1) := by decide +kernel
theorem dX7_leak_0 : decode cX7_leak 0 = .ok (.iload_n 1, 1) := by decide +kernel
theorem dX7_leak_1 : decode cX7_leak 1 = .ok (.iconst 0, 1) := by decide +kernel
theorem dX7_leak_2 : decode cX7_leak 2 = .ok (.iconst 3, 1) := by decide +kernel
theorem dX7_leak_3 : decode cX7_leak 3 = .ok (.invokestatic 29, 3) := by decide +kernel
theorem dX7_leak_6 : decode cX7_leak 6 = .ok (.ifCond .eq 13, 3) := by decide +kernel
theorem dX7_leak_9 : decode cX7_leak 9 = .ok (.iload_n 2, 1) := by decide +kernel
theorem dX7_leak_10 : decode cX7_leak 10 = .ok (.iconst 0, 1) := by decide +kernel
theorem dX7_leak_11 : decode cX7_leak 11 = .ok (.bipush 20, 2) := by decide +kernel
theorem dX7_leak_13 : decode cX7_leak 13 = .ok (.invokestatic 29, 3) := by decide +kernel
theorem dX7_leak_16 : decode cX7_leak 16 = .ok (.ifCond .ne 6, 3) := by decide +kernel
theorem dX7_leak_19 : decode cX7_leak 19 = .ok (.ldc 33, 2) := by decide +kernel
theorem dX7_leak_21 : decode cX7_leak 21 = .ok (.ireturn, 1) := by decide +kernel
theorem dX7_leak_22 : decode cX7_leak 22 = .ok (.aload_n 0, 1) := by decide +kernel
theorem dX7_leak_23 : decode cX7_leak 23 = .ok (.invokevirtual 124, 3) := by decide +kernel
theorem dX7_leak_26 : decode cX7_leak 26 = .ok (.aload_n 0, 1) := by decide +kernel
theorem dX7_leak_27 : decode cX7_leak 27 = .ok (.getfield 7, 3) := by decide +kernel
theorem dX7_leak_30 : decode cX7_leak 30 = .ok (.bipush 13, 2) := by decide +kernel
theorem dX7_leak_32 : decode cX7_leak 32 = .ok (.iload_n 1, 1) := by decide +kernel
theorem dX7_leak_33 : decode cX7_leak 33 = .ok (.iadd, 1) := by decide +kernel
theorem dX7_leak_34 : decode cX7_leak 34 = .ok (.iaload, 1) := by decide +kernel
theorem dX7_leak_35 : decode cX7_leak 35 = .ok (.istore_n 3, 1) := by decide +kernel
theorem dX7_leak_36 : decode cX7_leak 36 = .ok (.aload_n 0, 1) := by decide +kernel
theorem dX7_leak_37 : decode cX7_leak 37 = .ok (.getfield 7, 3) := by decide +kernel
theorem dX7_leak_40 : decode cX7_leak 40 = .ok (.bipush 13, 2) := by decide +kernel
theorem dX7_leak_42 : decode cX7_leak 42 = .ok (.iload_n 1, 1) := by decide +kernel
theorem dX7_leak_43 : decode cX7_leak 43 = .ok (.iadd, 1) := by decide +kernel
theorem dX7_leak_44 : decode cX7_leak 44 = .ok (.iload_n 2, 1) := by decide +kernel
theorem dX7_leak_45 : decode cX7_leak 45 = .ok (.iastore, 1) := by decide +kernel
theorem dX7_leak_46 : decode cX7_leak 46 = .ok (.aload_n 0, 1) := by decide +kernel
theorem dX7_leak_47 : decode cX7_leak 47 = .ok (.iload_n 3, 1) := by decide +kernel
theorem dX7_leak_48 : decode cX7_leak 48 = .ok (.invokevirtual 127, 3) := by decide +kernel
theorem dX7_leak_51 : decode cX7_leak 51 = .ok (.ireturn, 1) := by decide +kernel
theorem dX7_lock_0 : decode cX7_lock 0 = .ok (.iload_n 1, 1) := by decide +kernel
theorem dX7_lock_1 : decode cX7_lock 1 = .ok (.iconst 0, 1) := by decide +kernel
theorem dX7_lock_2 : decode cX7_lock 2 = .ok (.iconst 1, 1) := by decide +kernel
theorem dX7_lock_3 : decode cX7_lock 3 = .ok (.invokestatic 29, 3) := by decide +kernel
theorem dX7_lock_6 : decode cX7_lock 6 = .ok (.ifCond .ne 6, 3) := by decide +kernel
theorem dX7_lock_9 : decode cX7_lock 9 = .ok (.ldc 33, 2) := by decide +kernel
theorem dX7_lock_11 : decode cX7_lock 11 = .ok (.ireturn, 1) := by decide +kernel
theorem dX7_lock_12 : decode cX7_lock 12 = .ok (.aload_n 0, 1) := by decide +kernel
theorem dX7_lock_13 : decode cX7_lock 13 = .ok (.invokevirtual 124, 3) := by decide +kernel
theorem dX7_lock_16 : decode cX7_lock 16 = .ok (.aload_n 0, 1) := by decide +kernel
theorem dX7_lock_17 : decode cX7_lock 17 = .ok (.getfield 7, 3) := by decide +kernel
theorem dX7_lock_20 : decode cX7_lock 20 = .ok (.bipush 17, 2) := by decide +kernel
theorem dX7_lock_22 : decode cX7_lock 22 = .ok (.iaload, 1) := by decide +kernel
theorem dX7_lock_23 : decode cX7_lock 23 = .ok (.istore_n 2, 1) := by decide +kernel
theorem dX7_lock_24 : decode cX7_lock 24 = .ok (.aload_n 0, 1) := by decide +kernel
theorem dX7_lock_25 : decode cX7_lock 25 = .ok (.getfield 7, 3) := by decide +kernel
theorem dX7_lock_28 : decode cX7_lock 28 = .ok (.bipush 17, 2) := by decide +kernel
theorem dX7_lock_30 : decode cX7_lock 30 = .ok (.iload_n 1, 1) := by decide +kernel
theorem dX7_lock_31 : decode cX7_lock 31 = .ok (.iastore, 1) := by decide +kernel
theorem dX7_lock_32 : decode cX7_lock 32 = .ok (.aload_n 0, 1) := by decide +kernel
theorem dX7_lock_33 : decode cX7_lock 33 = .ok (.iload_n 2, 1) := by decide +kernel
theorem dX7_lock_34 : decode cX7_lock 34 = .ok (.invokevirtual 127, 3) := by decide +kernel
theorem dX7_lock_37 : decode cX7_lock 37 = .ok (.ireturn, 1) := by decide +kernel
theorem dX7_gate_0 : decode cX7_gate 0 = .ok (.aload_n 0, 1) := by decide +kernel
theorem dX7_gate_1 : decode cX7_gate 1 = .ok (.invokevirtual 124, 3) := by decide +kernel
theorem dX7_gate_4 : decode cX7_gate 4 = .ok (.aload_n 0, 1) := by decide +kernel
theorem dX7_gate_5 : decode cX7_gate 5 = .ok (.aload_n 0, 1) := by decide +kernel
theorem dX7_gate_6 : decode cX7_gate 6 = .ok (.iload_n 1, 1) := by decide +kernel
theorem dX7_gate_7 : decode cX7_gate 7 = .ok (.invokevirtual 130, 3) := by decide +kernel
theorem dX7_gate_10 : decode cX7_gate 10 = .ok (.invokevirtual 127, 3) := by decide +kernel
theorem dX7_gate_13 : decode cX7_gate 13 = .ok (.ireturn, 1) := by decide +kernel
theorem dX7_kind_0 : decode cX7_kind 0 = .ok (.iload_n 1, 1) := by decide +kernel
theorem dX7_kind_1 : decode cX7_kind 1 = .ok (.iconst 1, 1) := by decide +kernel
theorem dX7_kind_2 : decode cX7_kind 2 = .ok (.bipush 9, 2) := by decide +kernel
theorem dX7_kind_4 : decode cX7_kind 4 = .ok (.invokestatic 29, 3) := by decide +kernel
theorem dX7_kind_7 : decode cX7_kind 7 = .ok (.ifCond .eq 23, 3) := by decide +kernel
theorem dX7_kind_10 : decode cX7_kind 10 = .ok (.iload_n 2, 1) := by decide +kernel
theorem dX7_kind_11 : decode cX7_kind 11 = .ok (.iconst 0, 1) := by decide +kernel
theorem dX7_kind_12 : decode cX7_kind 12 = .ok (.bipush 20, 2) := by decide +kernel
theorem dX7_kind_14 : decode cX7_kind 14 = .ok (.invokestatic 29, 3) := by decide +kernel
theorem dX7_kind_17 : decode cX7_kind 17 = .ok (.ifCond .eq 13, 3) := by decide +kernel
theorem dX7_kind_20 : decode cX7_kind 20 = .ok (.iload_n 3, 1) := by decide +kernel
theorem dX7_kind_21 : decode cX7_kind 21 = .ok (.iconst 1, 1) := by decide +kernel
theorem dX7_kind_22 : decode cX7_kind 22 = .ok (.ldc 133, 2) := by decide +kernel
theorem dX7_kind_24 : decode cX7_kind 24 = .ok (.invokestatic 29, 3) := by decide +kernel
theorem dX7_kind_27 : decode cX7_kind 27 = .ok (.ifCond .ne 6, 3) := by decide +kernel
theorem dX7_kind_30 : decode cX7_kind 30 = .ok (.ldc 33, 2) := by decide +kernel
theorem dX7_kind_32 : decode cX7_kind 32 = .ok (.ireturn, 1) := by decide +kernel
theorem dX7_kind_33 : decode cX7_kind 33 = .ok (.aload_n 0, 1) := by decide +kernel
theorem dX7_kind_34 : decode cX7_kind 34 = .ok (.getfield 7, 3) := by decide +kernel
theorem dX7_kind_37 : decode cX7_kind 37 = .ok (.bipush 27, 2) := by decide +kernel
theorem dX7_kind_39 : decode cX7_kind 39 = .ok (.iaload, 1) := by decide +kernel
theorem dX7_kind_40 : decode cX7_kind 40 = .ok (.bipush 6, 2) := by decide +kernel
theorem dX7_kind_42 : decode cX7_kind 42 = .ok (.if_icmp .ne 6, 3) := by decide +kernel
theorem dX7_kind_45 : decode cX7_kind 45 = .ok (.ldc 101, 2) := by decide +kernel
theorem dX7_kind_47 : decode cX7_kind 47 = .ok (.ireturn, 1) := by decide +kernel
theorem dX7_kind_48 : decode cX7_kind 48 = .ok (.aload_n 0, 1) := by decide +kernel
theorem dX7_kind_49 : decode cX7_kind 49 = .ok (.invokevirtual 124, 3) := by decide +kernel
theorem dX7_kind_52 : decode cX7_kind 52 = .ok (.bipush 30, 2) := by decide +kernel
theorem dX7_kind_54 : decode cX7_kind 54 = .ok (.iconst 3, 1) := by decide +kernel
theorem dX7_kind_55 : decode cX7_kind 55 = .ok (.aload_n 0, 1) := by decide +kernel
theorem dX7_kind_56 : decode cX7_kind 56 = .ok (.getfield 7, 3) := by decide +kernel
theorem dX7_kind_59 : decode cX7_kind 59 = .ok (.bipush 27, 2) := by decide +kernel
theorem dX7_kind_61 : decode cX7_kind 61 = .ok (.iaload, 1) := by decide +kernel
theorem dX7_kind_62 : decode cX7_kind 62 = .ok (.imul, 1) := by decide +kernel
theorem dX7_kind_63 : decode cX7_kind 63 = .ok (.iadd, 1) := by decide +kernel
theorem dX7_kind_64 : decode cX7_kind 64 = .ok (.istore 4, 2) := by decide +kernel
theorem dX7_kind_66 : decode cX7_kind 66 = .ok (.aload_n 0, 1) := by decide +kernel
theorem dX7_kind_67 : decode cX7_kind 67 = .ok (.getfield 7, 3) := by decide +kernel
theorem dX7_kind_70 : decode cX7_kind 70 = .ok (.iload 4, 2) := by decide +kernel
theorem dX7_kind_72 : decode cX7_kind 72 = .ok (.iload_n 1, 1) := by decide +kernel
theorem dX7_kind_73 : decode cX7_kind 73 = .ok (.iastore, 1) := by decide +kernel
theorem dX7_kind_74 : decode cX7_kind 74 = .ok (.aload_n 0, 1) := by decide +kernel
theorem dX7_kind_75 : decode cX7_kind 75 = .ok (.getfield 7, 3) := by decide +kernel
theorem dX7_kind_78 : decode cX7_kind 78 = .ok (.iload 4, 2) := by decide +kernel
theorem dX7_kind_80 : decode cX7_kind 80 = .ok (.iconst 1, 1) := by decide +kernel
theorem dX7_kind_81 : decode cX7_kind 81 = .ok (.iadd, 1) := by decide +kernel
theorem dX7_kind_82 : decode cX7_kind 82 = .ok (.iload_n 2, 1) := by decide +kernel
theorem dX7_kind_83 : decode cX7_kind 83 = .ok (.iastore, 1) := by decide +kernel
theorem dX7_kind_84 : decode cX7_kind 84 = .ok (.aload_n 0, 1) := by decide +kernel
theorem dX7_kind_85 : decode cX7_kind 85 = .ok (.getfield 7, 3) := by decide +kernel
theorem dX7_kind_88 : decode cX7_kind 88 = .ok (.iload 4, 2) := by decide +kernel
theorem dX7_kind_90 : decode cX7_kind 90 = .ok (.iconst 2, 1) := by decide +kernel
theorem dX7_kind_91 : decode cX7_kind 91 = .ok (.iadd, 1) := by decide +kernel
theorem dX7_kind_92 : decode cX7_kind 92 = .ok (.iload_n 3, 1) := by decide +kernel
theorem dX7_kind_93 : decode cX7_kind 93 = .ok (.iastore, 1) := by decide +kernel
theorem dX7_kind_94 : decode cX7_kind 94 = .ok (.aload_n 0, 1) := by decide +kernel
theorem dX7_kind_95 : decode cX7_kind 95 = .ok (.getfield 7, 3) := by decide +kernel
theorem dX7_kind_98 : decode cX7_kind 98 = .ok (.bipush 27, 2) := by decide +kernel
theorem dX7_kind_100 : decode cX7_kind 100 = .ok (.dup2, 1) := by decide +kernel
theorem dX7_kind_101 : decode cX7_kind 101 = .ok (.iaload, 1) := by decide +kernel
theorem dX7_kind_102 : decode cX7_kind 102 = .ok (.iconst 1, 1) := by decide +kernel
theorem dX7_kind_103 : decode cX7_kind 103 = .ok (.iadd, 1) := by decide +kernel
theorem dX7_kind_104 : decode cX7_kind 104 = .ok (.iastore, 1) := by decide +kernel
theorem dX7_kind_105 : decode cX7_kind 105 = .ok (.aload_n 0, 1) := by decide +kernel
theorem dX7_kind_106 : decode cX7_kind 106 = .ok (.aload_n 0, 1) := by decide +kernel
theorem dX7_kind_107 : decode cX7_kind 107 = .ok (.getfield 7, 3) := by decide +kernel
theorem dX7_kind_110 : decode cX7_kind 110 = .ok (.bipush 27, 2) := by decide +kernel
theorem dX7_kind_112 : decode cX7_kind 112 = .ok (.iaload, 1) := by decide +kernel
theorem dX7_kind_113 : decode cX7_kind 113 = .ok (.iconst 1, 1) := by decide +kernel
theorem dX7_kind_114 : decode cX7_kind 114 = .ok (.isub, 1) := by decide +kernel
theorem dX7_kind_115 : decode cX7_kind 115 = .ok (.invokevirtual 127, 3) := by decide +kernel
theorem dX7_kind_118 : decode cX7_kind 118 = .ok (.ireturn, 1) := by decide +kernel
theorem dX7_farmer_0 : decode cX7_farmer 0 = .ok (.aload_n 0, 1) := by decide +kernel
theorem dX7_farmer_1 : decode cX7_farmer 1 = .ok (.getfield 7, 3) := by decide +kernel
theorem dX7_farmer_4 : decode cX7_farmer 4 = .ok (.bipush 28, 2) := by decide +kernel
theorem dX7_farmer_6 : decode cX7_farmer 6 = .ok (.iaload, 1) := by decide +kernel
theorem dX7_farmer_7 : decode cX7_farmer 7 = .ok (.bipush 8, 2) := by decide +kernel
theorem dX7_farmer_9 : decode cX7_farmer 9 = .ok (.if_icmp .ne 6, 3) := by decide +kernel
theorem dX7_farmer_12 : decode cX7_farmer 12 = .ok (.ldc 101, 2) := by decide +kernel
theorem dX7_farmer_14 : decode cX7_farmer 14 = .ok (.ireturn, 1) := by decide +kernel
theorem dX7_farmer_15 : decode cX7_farmer 15 = .ok (.aload_n 0, 1) := by decide +kernel
theorem dX7_farmer_16 : decode cX7_farmer 16 = .ok (.invokevirtual 124, 3) := by decide +kernel
theorem dX7_farmer_19 : decode cX7_farmer 19 = .ok (.aload_n 0, 1) := by decide +kernel
theorem dX7_farmer_20 : decode cX7_farmer 20 = .ok (.getfield 7, 3) := by decide +kernel
theorem dX7_farmer_23 : decode cX7_farmer 23 = .ok (.bipush 48, 2) := by decide +kernel
theorem dX7_farmer_25 : decode cX7_farmer 25 = .ok (.aload_n 0, 1) := by decide +kernel
theorem dX7_farmer_26 : decode cX7_farmer 26 = .ok (.getfield 7, 3) := by decide +kernel
theorem dX7_farmer_29 : decode cX7_farmer 29 = .ok (.bipush 28, 2) := by decide +kernel
theorem dX7_farmer_31 : decode cX7_farmer 31 = .ok (.iaload, 1) := by decide +kernel
theorem dX7_farmer_32 : decode cX7_farmer 32 = .ok (.iadd, 1) := by decide +kernel
theorem dX7_farmer_33 : decode cX7_farmer 33 = .ok (.iconst 0, 1) := by decide +kernel
theorem dX7_farmer_34 : decode cX7_farmer 34 = .ok (.iastore, 1) := by decide +kernel
theorem dX7_farmer_35 : decode cX7_farmer 35 = .ok (.aload_n 0, 1) := by decide +kernel
theorem dX7_farmer_36 : decode cX7_farmer 36 = .ok (.getfield 7, 3) := by decide +kernel
theorem dX7_farmer_39 : decode cX7_farmer 39 = .ok (.bipush 28, 2) := by decide +kernel
theorem dX7_farmer_41 : decode cX7_farmer 41 = .ok (.dup2, 1) := by decide +kernel
theorem dX7_farmer_42 : decode cX7_farmer 42 = .ok (.iaload, 1) := by decide +kernel
theorem dX7_farmer_43 : decode cX7_farmer 43 = .ok (.iconst 1, 1) := by decide +kernel
theorem dX7_farmer_44 : decode cX7_farmer 44 = .ok (.iadd, 1) := by decide +kernel
theorem dX7_farmer_45 : decode cX7_farmer 45 = .ok (.iastore, 1) := by decide +kernel
theorem dX7_farmer_46 : decode cX7_farmer 46 = .ok (.aload_n 0, 1) := by decide +kernel
theorem dX7_farmer_47 : decode cX7_farmer 47 = .ok (.aload_n 0, 1) := by decide +kernel
theorem dX7_farmer_48 : decode cX7_farmer 48 = .ok (.getfield 7, 3) := by decide +kernel
theorem dX7_farmer_51 : decode cX7_farmer 51 = .ok (.bipush 28, 2) := by decide +kernel
theorem dX7_farmer_53 : decode cX7_farmer 53 = .ok (.iaload, 1) := by decide +kernel
theorem dX7_farmer_54 : decode cX7_farmer 54 = .ok (.iconst 1, 1) := by decide +kernel
theorem dX7_farmer_55 : decode cX7_farmer 55 = .ok (.isub, 1) := by decide +kernel
theorem dX7_farmer_56 : decode cX7_farmer 56 = .ok (.invokevirtual 127, 3) := by decide +kernel
theorem dX7_farmer_59 : decode cX7_farmer 59 = .ok (.ireturn, 1) := by decide +kernel
theorem dX7_bring_0 : decode cX7_bring 0 = .ok (.aload_n 0, 1) := by decide +kernel
theorem dX7_bring_1 : decode cX7_bring 1 = .ok (.invokevirtual 124, 3) := by decide +kernel
theorem dX7_bring_4 : decode cX7_bring 4 = .ok (.aload_n 0, 1) := by decide +kernel
theorem dX7_bring_5 : decode cX7_bring 5 = .ok (.aload_n 0, 1) := by decide +kernel
theorem dX7_bring_6 : decode cX7_bring 6 = .ok (.iload_n 1, 1) := by decide +kernel
theorem dX7_bring_7 : decode cX7_bring 7 = .ok (.iload_n 2, 1) := by decide +kernel
theorem dX7_bring_8 : decode cX7_bring 8 = .ok (.iload_n 3, 1) := by decide +kernel
theorem dX7_bring_9 : decode cX7_bring 9 = .ok (.invokevirtual 134, 3) := by decide +kernel
theorem dX7_bring_12 : decode cX7_bring 12 = .ok (.invokevirtual 127, 3) := by decide +kernel
theorem dX7_bring_15 : decode cX7_bring 15 = .ok (.ireturn, 1) := by decide +kernel
theorem dX7_withdraw_0 : decode cX7_withdraw 0 = .ok (.aload_n 0, 1) := by decide +kernel
theorem dX7_withdraw_1 : decode cX7_withdraw 1 = .ok (.iload_n 1, 1) := by decide +kernel
theorem dX7_withdraw_2 : decode cX7_withdraw 2 = .ok (.invokevirtual 102, 3) := by decide +kernel
theorem dX7_withdraw_5 : decode cX7_withdraw 5 = .ok (.ifCond .ne 6, 3) := by decide +kernel
theorem dX7_withdraw_8 : decode cX7_withdraw 8 = .ok (.ldc 33, 2) := by decide +kernel
theorem dX7_withdraw_10 : decode cX7_withdraw 10 = .ok (.ireturn, 1) := by decide +kernel
theorem dX7_withdraw_11 : decode cX7_withdraw 11 = .ok (.aload_n 0, 1) := by decide +kernel
theorem dX7_withdraw_12 : decode cX7_withdraw 12 = .ok (.iload_n 1, 1) := by decide +kernel
theorem dX7_withdraw_13 : decode cX7_withdraw 13 = .ok (.iconst 3, 1) := by decide +kernel
theorem dX7_withdraw_14 : decode cX7_withdraw 14 = .ok (.invokevirtual 38, 3) := by decide +kernel
theorem dX7_withdraw_17 : decode cX7_withdraw 17 = .ok (.ifCond .eq 6, 3) := by decide +kernel
theorem dX7_withdraw_20 : decode cX7_withdraw 20 = .ok (.ldc 105, 2) := by decide +kernel
theorem dX7_withdraw_22 : decode cX7_withdraw 22 = .ok (.ireturn, 1) := by decide +kernel
theorem dX7_withdraw_23 : decode cX7_withdraw 23 = .ok (.aload_n 0, 1) := by decide +kernel
theorem dX7_withdraw_24 : decode cX7_withdraw 24 = .ok (.invokevirtual 124, 3) := by decide +kernel
theorem dX7_withdraw_27 : decode cX7_withdraw 27 = .ok (.aload_n 0, 1) := by decide +kernel
theorem dX7_withdraw_28 : decode cX7_withdraw 28 = .ok (.iload_n 1, 1) := by decide +kernel
theorem dX7_withdraw_29 : decode cX7_withdraw 29 = .ok (.bipush 11, 2) := by decide +kernel
theorem dX7_withdraw_31 : decode cX7_withdraw 31 = .ok (.aload_n 0, 1) := by decide +kernel
theorem dX7_withdraw_32 : decode cX7_withdraw 32 = .ok (.iload_n 1, 1) := by decide +kernel
theorem dX7_withdraw_33 : decode cX7_withdraw 33 = .ok (.iconst 2, 1) := by decide +kernel
theorem dX7_withdraw_34 : decode cX7_withdraw 34 = .ok (.invokevirtual 38, 3) := by decide +kernel
theorem dX7_withdraw_37 : decode cX7_withdraw 37 = .ok (.invokevirtual 64, 3) := by decide +kernel
theorem dX7_withdraw_40 : decode cX7_withdraw 40 = .ok (.aload_n 0, 1) := by decide +kernel
theorem dX7_withdraw_41 : decode cX7_withdraw 41 = .ok (.iload_n 1, 1) := by decide +kernel
theorem dX7_withdraw_42 : decode cX7_withdraw 42 = .ok (.iconst 3, 1) := by decide +kernel
theorem dX7_withdraw_43 : decode cX7_withdraw 43 = .ok (.iconst 3, 1) := by decide +kernel
theorem dX7_withdraw_44 : decode cX7_withdraw 44 = .ok (.invokevirtual 64, 3) := by decide +kernel
theorem dX7_withdraw_47 : decode cX7_withdraw 47 = .ok (.aload_n 0, 1) := by decide +kernel
theorem dX7_withdraw_48 : decode cX7_withdraw 48 = .ok (.aload_n 0, 1) := by decide +kernel
theorem dX7_withdraw_49 : decode cX7_withdraw 49 = .ok (.iload_n 1, 1) := by decide +kernel
theorem dX7_withdraw_50 : decode cX7_withdraw 50 = .ok (.iconst 2, 1) := by decide +kernel
theorem dX7_withdraw_51 : decode cX7_withdraw 51 = .ok (.invokevirtual 38, 3) := by decide +kernel
theorem dX7_withdraw_54 : decode cX7_withdraw 54 = .ok (.invokevirtual 127, 3) := by decide +kernel
theorem dX7_withdraw_57 : decode cX7_withdraw 57 = .ok (.ireturn, 1) := by decide +kernel
theorem dX7_fetch_0 : decode cX7_fetch 0 = .ok (.aload_n 0, 1) := by decide +kernel
theorem dX7_fetch_1 : decode cX7_fetch 1 = .ok (.invokevirtual 124, 3) := by decide +kernel
theorem dX7_fetch_4 : decode cX7_fetch 4 = .ok (.aload_n 0, 1) := by decide +kernel
theorem dX7_fetch_5 : decode cX7_fetch 5 = .ok (.aload_n 0, 1) := by decide +kernel
theorem dX7_fetch_6 : decode cX7_fetch 6 = .ok (.iload_n 1, 1) := by decide +kernel
theorem dX7_fetch_7 : decode cX7_fetch 7 = .ok (.invokevirtual 138, 3) := by decide +kernel
theorem dX7_fetch_10 : decode cX7_fetch 10 = .ok (.invokevirtual 127, 3) := by decide +kernel
theorem dX7_fetch_13 : decode cX7_fetch 13 = .ok (.ireturn, 1) := by decide +kernel
theorem dX7_told_0 : decode cX7_told 0 = .ok (.iload_n 2, 1) := by decide +kernel
theorem dX7_told_1 : decode cX7_told 1 = .ok (.tableswitch 91 4 10 #[43, 49, 55, 61, 67, 75, 83], 43) := by decide +kernel
theorem dX7_told_44 : decode cX7_told 44 = .ok (.aload_n 0, 1) := by decide +kernel
theorem dX7_told_45 : decode cX7_told 45 = .ok (.iload_n 1, 1) := by decide +kernel
theorem dX7_told_46 : decode cX7_told 46 = .ok (.invokevirtual 82, 3) := by decide +kernel
theorem dX7_told_49 : decode cX7_told 49 = .ok (.ireturn, 1) := by decide +kernel
theorem dX7_told_50 : decode cX7_told 50 = .ok (.aload_n 0, 1) := by decide +kernel
theorem dX7_told_51 : decode cX7_told 51 = .ok (.iload_n 1, 1) := by decide +kernel
theorem dX7_told_52 : decode cX7_told 52 = .ok (.invokevirtual 106, 3) := by decide +kernel
theorem dX7_told_55 : decode cX7_told 55 = .ok (.ireturn, 1) := by decide +kernel
theorem dX7_told_56 : decode cX7_told 56 = .ok (.aload_n 0, 1) := by decide +kernel
theorem dX7_told_57 : decode cX7_told 57 = .ok (.iload_n 1, 1) := by decide +kernel
theorem dX7_told_58 : decode cX7_told 58 = .ok (.invokevirtual 42, 3) := by decide +kernel
theorem dX7_told_61 : decode cX7_told 61 = .ok (.ireturn, 1) := by decide +kernel
theorem dX7_told_62 : decode cX7_told 62 = .ok (.aload_n 0, 1) := by decide +kernel
theorem dX7_told_63 : decode cX7_told 63 = .ok (.iload_n 1, 1) := by decide +kernel
theorem dX7_told_64 : decode cX7_told 64 = .ok (.invokevirtual 46, 3) := by decide +kernel
theorem dX7_told_67 : decode cX7_told 67 = .ok (.ireturn, 1) := by decide +kernel
theorem dX7_told_68 : decode cX7_told 68 = .ok (.aload_n 0, 1) := by decide +kernel
theorem dX7_told_69 : decode cX7_told 69 = .ok (.iload_n 1, 1) := by decide +kernel
theorem dX7_told_70 : decode cX7_told 70 = .ok (.bipush 6, 2) := by decide +kernel
theorem dX7_told_72 : decode cX7_told 72 = .ok (.invokevirtual 38, 3) := by decide +kernel
theorem dX7_told_75 : decode cX7_told 75 = .ok (.ireturn, 1) := by decide +kernel
theorem dX7_told_76 : decode cX7_told 76 = .ok (.aload_n 0, 1) := by decide +kernel
theorem dX7_told_77 : decode cX7_told 77 = .ok (.iload_n 1, 1) := by decide +kernel
theorem dX7_told_78 : decode cX7_told 78 = .ok (.bipush 10, 2) := by decide +kernel
theorem dX7_told_80 : decode cX7_told 80 = .ok (.invokevirtual 38, 3) := by decide +kernel
theorem dX7_told_83 : decode cX7_told 83 = .ok (.ireturn, 1) := by decide +kernel
theorem dX7_told_84 : decode cX7_told 84 = .ok (.aload_n 0, 1) := by decide +kernel
theorem dX7_told_85 : decode cX7_told 85 = .ok (.iload_n 1, 1) := by decide +kernel
theorem dX7_told_86 : decode cX7_told 86 = .ok (.bipush 11, 2) := by decide +kernel
theorem dX7_told_88 : decode cX7_told 88 = .ok (.invokevirtual 38, 3) := by decide +kernel
theorem dX7_told_91 : decode cX7_told 91 = .ok (.ireturn, 1) := by decide +kernel
theorem dX7_told_92 : decode cX7_told 92 = .ok (.aload_n 0, 1) := by decide +kernel
theorem dX7_told_93 : decode cX7_told 93 = .ok (.iload_n 1, 1) := by decide +kernel
theorem dX7_told_94 : decode cX7_told 94 = .ok (.iload_n 2, 1) := by decide +kernel
theorem dX7_told_95 : decode cX7_told 95 = .ok (.invokevirtual 38, 3) := by decide +kernel
theorem dX7_told_98 : decode cX7_told 98 = .ok (.ireturn, 1) := by decide +kernel
theorem dX7_sum_0 : decode cX7_sum 0 = .ok (.iconst 0, 1) := by decide +kernel
theorem dX7_sum_1 : decode cX7_sum 1 = .ok (.istore 4, 2) := by decide +kernel
theorem dX7_sum_3 : decode cX7_sum 3 = .ok (.iconst 0, 1) := by decide +kernel
theorem dX7_sum_4 : decode cX7_sum 4 = .ok (.istore 5, 2) := by decide +kernel
theorem dX7_sum_6 : decode cX7_sum 6 = .ok (.iload 5, 2) := by decide +kernel
theorem dX7_sum_8 : decode cX7_sum 8 = .ok (.aload_n 0, 1) := by decide +kernel
theorem dX7_sum_9 : decode cX7_sum 9 = .ok (.getfield 7, 3) := by decide +kernel
theorem dX7_sum_12 : decode cX7_sum 12 = .ok (.bipush 29, 2) := by decide +kernel
theorem dX7_sum_14 : decode cX7_sum 14 = .ok (.iaload, 1) := by decide +kernel
theorem dX7_sum_15 : decode cX7_sum 15 = .ok (.if_icmp .ge 67, 3) := by decide +kernel
theorem dX7_sum_18 : decode cX7_sum 18 = .ok (.iload_n 1, 1) := by decide +kernel
theorem dX7_sum_19 : decode cX7_sum 19 = .ok (.ifCond .lt 14, 3) := by decide +kernel
theorem dX7_sum_22 : decode cX7_sum 22 = .ok (.aload_n 0, 1) := by decide +kernel
theorem dX7_sum_23 : decode cX7_sum 23 = .ok (.iload 5, 2) := by decide +kernel
theorem dX7_sum_25 : decode cX7_sum 25 = .ok (.iconst 0, 1) := by decide +kernel
theorem dX7_sum_26 : decode cX7_sum 26 = .ok (.invokevirtual 38, 3) := by decide +kernel
theorem dX7_sum_29 : decode cX7_sum 29 = .ok (.iload_n 1, 1) := by decide +kernel
theorem dX7_sum_30 : decode cX7_sum 30 = .ok (.if_icmp .ne 22, 3) := by decide +kernel
theorem dX7_sum_33 : decode cX7_sum 33 = .ok (.iload_n 2, 1) := by decide +kernel
theorem dX7_sum_34 : decode cX7_sum 34 = .ok (.ifCond .lt 14, 3) := by decide +kernel
theorem dX7_sum_37 : decode cX7_sum 37 = .ok (.aload_n 0, 1) := by decide +kernel
theorem dX7_sum_38 : decode cX7_sum 38 = .ok (.iload 5, 2) := by decide +kernel
theorem dX7_sum_40 : decode cX7_sum 40 = .ok (.iconst 1, 1) := by decide +kernel
theorem dX7_sum_41 : decode cX7_sum 41 = .ok (.invokevirtual 38, 3) := by decide +kernel
theorem dX7_sum_44 : decode cX7_sum 44 = .ok (.iload_n 2, 1) := by decide +kernel
theorem dX7_sum_45 : decode cX7_sum 45 = .ok (.if_icmp .ne 7, 3) := by decide +kernel
theorem dX7_sum_48 : decode cX7_sum 48 = .ok (.iconst 1, 1) := by decide +kernel
theorem dX7_sum_49 : decode cX7_sum 49 = .ok (.goto 4, 3) := by decide +kernel
theorem dX7_sum_52 : decode cX7_sum 52 = .ok (.iconst 0, 1) := by decide +kernel
theorem dX7_sum_53 : decode cX7_sum 53 = .ok (.istore 6, 2) := by decide +kernel
theorem dX7_sum_55 : decode cX7_sum 55 = .ok (.iload 4, 2) := by decide +kernel
theorem dX7_sum_57 : decode cX7_sum 57 = .ok (.iload 6, 2) := by decide +kernel
theorem dX7_sum_59 : decode cX7_sum 59 = .ok (.ifCond .eq 13, 3) := by decide +kernel
theorem dX7_sum_62 : decode cX7_sum 62 = .ok (.aload_n 0, 1) := by decide +kernel
theorem dX7_sum_63 : decode cX7_sum 63 = .ok (.iload 5, 2) := by decide +kernel
theorem dX7_sum_65 : decode cX7_sum 65 = .ok (.iload_n 3, 1) := by decide +kernel
theorem dX7_sum_66 : decode cX7_sum 66 = .ok (.invokevirtual 141, 3) := by decide +kernel
theorem dX7_sum_69 : decode cX7_sum 69 = .ok (.goto 4, 3) := by decide +kernel
theorem dX7_sum_72 : decode cX7_sum 72 = .ok (.iconst 0, 1) := by decide +kernel
theorem dX7_sum_73 : decode cX7_sum 73 = .ok (.iadd, 1) := by decide +kernel
theorem dX7_sum_74 : decode cX7_sum 74 = .ok (.istore 4, 2) := by decide +kernel
theorem dX7_sum_76 : decode cX7_sum 76 = .ok (.iinc 5 1, 3) := by decide +kernel
theorem dX7_sum_79 : decode cX7_sum 79 = .ok (.goto (-73), 3) := by decide +kernel
theorem dX7_sum_82 : decode cX7_sum 82 = .ok (.iload 4, 2) := by decide +kernel
theorem dX7_sum_84 : decode cX7_sum 84 = .ok (.ireturn, 1) := by decide +kernel
theorem dX7_many_0 : decode cX7_many 0 = .ok (.iconst 0, 1) := by decide +kernel
theorem dX7_many_1 : decode cX7_many 1 = .ok (.istore 4, 2) := by decide +kernel
theorem dX7_many_3 : decode cX7_many 3 = .ok (.iconst 0, 1) := by decide +kernel
theorem dX7_many_4 : decode cX7_many 4 = .ok (.istore 5, 2) := by decide +kernel
theorem dX7_many_6 : decode cX7_many 6 = .ok (.iload 5, 2) := by decide +kernel
theorem dX7_many_8 : decode cX7_many 8 = .ok (.aload_n 0, 1) := by decide +kernel
theorem dX7_many_9 : decode cX7_many 9 = .ok (.getfield 7, 3) := by decide +kernel
theorem dX7_many_12 : decode cX7_many 12 = .ok (.bipush 29, 2) := by decide +kernel
theorem dX7_many_14 : decode cX7_many 14 = .ok (.iaload, 1) := by decide +kernel
theorem dX7_many_15 : decode cX7_many 15 = .ok (.if_icmp .ge 76, 3) := by decide +kernel
theorem dX7_many_18 : decode cX7_many 18 = .ok (.iload_n 1, 1) := by decide +kernel
theorem dX7_many_19 : decode cX7_many 19 = .ok (.ifCond .lt 14, 3) := by decide +kernel
theorem dX7_many_22 : decode cX7_many 22 = .ok (.aload_n 0, 1) := by decide +kernel
theorem dX7_many_23 : decode cX7_many 23 = .ok (.iload 5, 2) := by decide +kernel
theorem dX7_many_25 : decode cX7_many 25 = .ok (.iconst 0, 1) := by decide +kernel
theorem dX7_many_26 : decode cX7_many 26 = .ok (.invokevirtual 38, 3) := by decide +kernel
theorem dX7_many_29 : decode cX7_many 29 = .ok (.iload_n 1, 1) := by decide +kernel
theorem dX7_many_30 : decode cX7_many 30 = .ok (.if_icmp .ne 22, 3) := by decide +kernel
theorem dX7_many_33 : decode cX7_many 33 = .ok (.iload_n 2, 1) := by decide +kernel
theorem dX7_many_34 : decode cX7_many 34 = .ok (.ifCond .lt 14, 3) := by decide +kernel
theorem dX7_many_37 : decode cX7_many 37 = .ok (.aload_n 0, 1) := by decide +kernel
theorem dX7_many_38 : decode cX7_many 38 = .ok (.iload 5, 2) := by decide +kernel
theorem dX7_many_40 : decode cX7_many 40 = .ok (.iconst 1, 1) := by decide +kernel
theorem dX7_many_41 : decode cX7_many 41 = .ok (.invokevirtual 38, 3) := by decide +kernel
theorem dX7_many_44 : decode cX7_many 44 = .ok (.iload_n 2, 1) := by decide +kernel
theorem dX7_many_45 : decode cX7_many 45 = .ok (.if_icmp .ne 7, 3) := by decide +kernel
theorem dX7_many_48 : decode cX7_many 48 = .ok (.iconst 1, 1) := by decide +kernel
theorem dX7_many_49 : decode cX7_many 49 = .ok (.goto 4, 3) := by decide +kernel
theorem dX7_many_52 : decode cX7_many 52 = .ok (.iconst 0, 1) := by decide +kernel
theorem dX7_many_53 : decode cX7_many 53 = .ok (.istore 6, 2) := by decide +kernel
theorem dX7_many_55 : decode cX7_many 55 = .ok (.iload 4, 2) := by decide +kernel
theorem dX7_many_57 : decode cX7_many 57 = .ok (.iload 6, 2) := by decide +kernel
theorem dX7_many_59 : decode cX7_many 59 = .ok (.ifCond .eq 22, 3) := by decide +kernel
theorem dX7_many_62 : decode cX7_many 62 = .ok (.iload_n 3, 1) := by decide +kernel
theorem dX7_many_63 : decode cX7_many 63 = .ok (.ifCond .eq 14, 3) := by decide +kernel
theorem dX7_many_66 : decode cX7_many 66 = .ok (.aload_n 0, 1) := by decide +kernel
theorem dX7_many_67 : decode cX7_many 67 = .ok (.iload 5, 2) := by decide +kernel
theorem dX7_many_69 : decode cX7_many 69 = .ok (.bipush 6, 2) := by decide +kernel
theorem dX7_many_71 : decode cX7_many 71 = .ok (.invokevirtual 38, 3) := by decide +kernel
theorem dX7_many_74 : decode cX7_many 74 = .ok (.ifCond .le 7, 3) := by decide +kernel
theorem dX7_many_77 : decode cX7_many 77 = .ok (.iconst 1, 1) := by decide +kernel
theorem dX7_many_78 : decode cX7_many 78 = .ok (.goto 4, 3) := by decide +kernel
theorem dX7_many_81 : decode cX7_many 81 = .ok (.iconst 0, 1) := by decide +kernel
theorem dX7_many_82 : decode cX7_many 82 = .ok (.iadd, 1) := by decide +kernel
theorem dX7_many_83 : decode cX7_many 83 = .ok (.istore 4, 2) := by decide +kernel
theorem dX7_many_85 : decode cX7_many 85 = .ok (.iinc 5 1, 3) := by decide +kernel
theorem dX7_many_88 : decode cX7_many 88 = .ok (.goto (-82), 3) := by decide +kernel
theorem dX7_many_91 : decode cX7_many 91 = .ok (.iload 4, 2) := by decide +kernel
theorem dX7_many_93 : decode cX7_many 93 = .ok (.ireturn, 1) := by decide +kernel
theorem dX7_kindOf_0 : decode cX7_kindOf 0 = .ok (.aload_n 0, 1) := by decide +kernel
theorem dX7_kindOf_1 : decode cX7_kindOf 1 = .ok (.iload_n 1, 1) := by decide +kernel
theorem dX7_kindOf_2 : decode cX7_kindOf 2 = .ok (.invokevirtual 98, 3) := by decide +kernel
theorem dX7_kindOf_5 : decode cX7_kindOf 5 = .ok (.ifCond .eq 12, 3) := by decide +kernel
theorem dX7_kindOf_8 : decode cX7_kindOf 8 = .ok (.iload_n 2, 1) := by decide +kernel
theorem dX7_kindOf_9 : decode cX7_kindOf 9 = .ok (.iconst 0, 1) := by decide +kernel
theorem dX7_kindOf_10 : decode cX7_kindOf 10 = .ok (.iconst 5, 1) := by decide +kernel
theorem dX7_kindOf_11 : decode cX7_kindOf 11 = .ok (.invokestatic 29, 3) := by decide +kernel
theorem dX7_kindOf_14 : decode cX7_kindOf 14 = .ok (.ifCond .ne 6, 3) := by decide +kernel
theorem dX7_kindOf_17 : decode cX7_kindOf 17 = .ok (.ldc 33, 2) := by decide +kernel
theorem dX7_kindOf_19 : decode cX7_kindOf 19 = .ok (.ireturn, 1) := by decide +kernel
theorem dX7_kindOf_20 : decode cX7_kindOf 20 = .ok (.iload_n 2, 1) := by decide +kernel
theorem dX7_kindOf_21 : decode cX7_kindOf 21 = .ok (.iconst 3, 1) := by decide +kernel
theorem dX7_kindOf_22 : decode cX7_kindOf 22 = .ok (.if_icmp .ge 19, 3) := by decide +kernel
theorem dX7_kindOf_25 : decode cX7_kindOf 25 = .ok (.aload_n 0, 1) := by decide +kernel
theorem dX7_kindOf_26 : decode cX7_kindOf 26 = .ok (.getfield 7, 3) := by decide +kernel
theorem dX7_kindOf_29 : decode cX7_kindOf 29 = .ok (.bipush 30, 2) := by decide +kernel
theorem dX7_kindOf_31 : decode cX7_kindOf 31 = .ok (.iconst 3, 1) := by decide +kernel
theorem dX7_kindOf_32 : decode cX7_kindOf 32 = .ok (.iload_n 1, 1) := by decide +kernel
theorem dX7_kindOf_33 : decode cX7_kindOf 33 = .ok (.imul, 1) := by decide +kernel
theorem dX7_kindOf_34 : decode cX7_kindOf 34 = .ok (.iadd, 1) := by decide +kernel
theorem dX7_kindOf_35 : decode cX7_kindOf 35 = .ok (.iload_n 2, 1) := by decide +kernel
theorem dX7_kindOf_36 : decode cX7_kindOf 36 = .ok (.iadd, 1) := by decide +kernel
theorem dX7_kindOf_37 : decode cX7_kindOf 37 = .ok (.iaload, 1) := by decide +kernel
theorem dX7_kindOf_38 : decode cX7_kindOf 38 = .ok (.goto 36, 3) := by decide +kernel
theorem dX7_kindOf_41 : decode cX7_kindOf 41 = .ok (.iload_n 2, 1) := by decide +kernel
theorem dX7_kindOf_42 : decode cX7_kindOf 42 = .ok (.iconst 3, 1) := by decide +kernel
theorem dX7_kindOf_43 : decode cX7_kindOf 43 = .ok (.if_icmp .ne 13, 3) := by decide +kernel
theorem dX7_kindOf_46 : decode cX7_kindOf 46 = .ok (.aload_n 0, 1) := by decide +kernel
theorem dX7_kindOf_47 : decode cX7_kindOf 47 = .ok (.iconst (-1), 1) := by decide +kernel
theorem dX7_kindOf_48 : decode cX7_kindOf 48 = .ok (.iload_n 1, 1) := by decide +kernel
theorem dX7_kindOf_49 : decode cX7_kindOf 49 = .ok (.iconst 0, 1) := by decide +kernel
theorem dX7_kindOf_50 : decode cX7_kindOf 50 = .ok (.invokevirtual 144, 3) := by decide +kernel
theorem dX7_kindOf_53 : decode cX7_kindOf 53 = .ok (.goto 21, 3) := by decide +kernel
theorem dX7_kindOf_56 : decode cX7_kindOf 56 = .ok (.aload_n 0, 1) := by decide +kernel
theorem dX7_kindOf_57 : decode cX7_kindOf 57 = .ok (.iconst (-1), 1) := by decide +kernel
theorem dX7_kindOf_58 : decode cX7_kindOf 58 = .ok (.iload_n 1, 1) := by decide +kernel
theorem dX7_kindOf_59 : decode cX7_kindOf 59 = .ok (.iload_n 2, 1) := by decide +kernel
theorem dX7_kindOf_60 : decode cX7_kindOf 60 = .ok (.iconst 4, 1) := by decide +kernel
theorem dX7_kindOf_61 : decode cX7_kindOf 61 = .ok (.if_icmp .ne 8, 3) := by decide +kernel
theorem dX7_kindOf_64 : decode cX7_kindOf 64 = .ok (.bipush 6, 2) := by decide +kernel
theorem dX7_kindOf_66 : decode cX7_kindOf 66 = .ok (.goto 5, 3) := by decide +kernel
theorem dX7_kindOf_69 : decode cX7_kindOf 69 = .ok (.bipush 9, 2) := by decide +kernel
theorem dX7_kindOf_71 : decode cX7_kindOf 71 = .ok (.invokevirtual 148, 3) := by decide +kernel
theorem dX7_kindOf_74 : decode cX7_kindOf 74 = .ok (.ireturn, 1) := by decide +kernel
theorem dX7_farmerOf_0 : decode cX7_farmerOf 0 = .ok (.aload_n 0, 1) := by decide +kernel
theorem dX7_farmerOf_1 : decode cX7_farmerOf 1 = .ok (.iload_n 1, 1) := by decide +kernel
theorem dX7_farmerOf_2 : decode cX7_farmerOf 2 = .ok (.invokevirtual 94, 3) := by decide +kernel
theorem dX7_farmerOf_5 : decode cX7_farmerOf 5 = .ok (.ifCond .eq 12, 3) := by decide +kernel
theorem dX7_farmerOf_8 : decode cX7_farmerOf 8 = .ok (.iload_n 2, 1) := by decide +kernel
theorem dX7_farmerOf_9 : decode cX7_farmerOf 9 = .ok (.iconst 0, 1) := by decide +kernel
theorem dX7_farmerOf_10 : decode cX7_farmerOf 10 = .ok (.iconst 5, 1) := by decide +kernel
theorem dX7_farmerOf_11 : decode cX7_farmerOf 11 = .ok (.invokestatic 29, 3) := by decide +kernel
theorem dX7_farmerOf_14 : decode cX7_farmerOf 14 = .ok (.ifCond .ne 6, 3) := by decide +kernel
theorem dX7_farmerOf_17 : decode cX7_farmerOf 17 = .ok (.ldc 33, 2) := by decide +kernel
theorem dX7_farmerOf_19 : decode cX7_farmerOf 19 = .ok (.ireturn, 1) := by decide +kernel
theorem dX7_farmerOf_20 : decode cX7_farmerOf 20 = .ok (.iload_n 2, 1) := by decide +kernel
theorem dX7_farmerOf_21 : decode cX7_farmerOf 21 = .ok (.tableswitch 63 0 3 #[31, 41, 49, 55], 31) := by decide +kernel
theorem dX7_farmerOf_52 : decode cX7_farmerOf 52 = .ok (.aload_n 0, 1) := by decide +kernel
theorem dX7_farmerOf_53 : decode cX7_farmerOf 53 = .ok (.getfield 7, 3) := by decide +kernel
theorem dX7_farmerOf_56 : decode cX7_farmerOf 56 = .ok (.bipush 48, 2) := by decide +kernel
theorem dX7_farmerOf_58 : decode cX7_farmerOf 58 = .ok (.iload_n 1, 1) := by decide +kernel
theorem dX7_farmerOf_59 : decode cX7_farmerOf 59 = .ok (.iadd, 1) := by decide +kernel
theorem dX7_farmerOf_60 : decode cX7_farmerOf 60 = .ok (.iaload, 1) := by decide +kernel
theorem dX7_farmerOf_61 : decode cX7_farmerOf 61 = .ok (.ireturn, 1) := by decide +kernel
theorem dX7_farmerOf_62 : decode cX7_farmerOf 62 = .ok (.aload_n 0, 1) := by decide +kernel
theorem dX7_farmerOf_63 : decode cX7_farmerOf 63 = .ok (.iload_n 1, 1) := by decide +kernel
theorem dX7_farmerOf_64 : decode cX7_farmerOf 64 = .ok (.iconst (-1), 1) := by decide +kernel
theorem dX7_farmerOf_65 : decode cX7_farmerOf 65 = .ok (.iconst 0, 1) := by decide +kernel
theorem dX7_farmerOf_66 : decode cX7_farmerOf 66 = .ok (.invokevirtual 144, 3) := by decide +kernel
theorem dX7_farmerOf_69 : decode cX7_farmerOf 69 = .ok (.ireturn, 1) := by decide +kernel
theorem dX7_farmerOf_70 : decode cX7_farmerOf 70 = .ok (.aload_n 0, 1) := by decide +kernel
theorem dX7_farmerOf_71 : decode cX7_farmerOf 71 = .ok (.iload_n 1, 1) := by decide +kernel
theorem dX7_farmerOf_72 : decode cX7_farmerOf 72 = .ok (.invokevirtual 49, 3) := by decide +kernel
theorem dX7_farmerOf_75 : decode cX7_farmerOf 75 = .ok (.ireturn, 1) := by decide +kernel
theorem dX7_farmerOf_76 : decode cX7_farmerOf 76 = .ok (.aload_n 0, 1) := by decide +kernel
theorem dX7_farmerOf_77 : decode cX7_farmerOf 77 = .ok (.iload_n 1, 1) := by decide +kernel
theorem dX7_farmerOf_78 : decode cX7_farmerOf 78 = .ok (.iconst (-1), 1) := by decide +kernel
theorem dX7_farmerOf_79 : decode cX7_farmerOf 79 = .ok (.iconst 1, 1) := by decide +kernel
theorem dX7_farmerOf_80 : decode cX7_farmerOf 80 = .ok (.invokevirtual 144, 3) := by decide +kernel
theorem dX7_farmerOf_83 : decode cX7_farmerOf 83 = .ok (.ireturn, 1) := by decide +kernel
theorem dX7_farmerOf_84 : decode cX7_farmerOf 84 = .ok (.aload_n 0, 1) := by decide +kernel
theorem dX7_farmerOf_85 : decode cX7_farmerOf 85 = .ok (.iload_n 1, 1) := by decide +kernel
theorem dX7_farmerOf_86 : decode cX7_farmerOf 86 = .ok (.iconst (-1), 1) := by decide +kernel
theorem dX7_farmerOf_87 : decode cX7_farmerOf 87 = .ok (.iload_n 2, 1) := by decide +kernel
theorem dX7_farmerOf_88 : decode cX7_farmerOf 88 = .ok (.iconst 4, 1) := by decide +kernel
theorem dX7_farmerOf_89 : decode cX7_farmerOf 89 = .ok (.if_icmp .ne 7, 3) := by decide +kernel
theorem dX7_farmerOf_92 : decode cX7_farmerOf 92 = .ok (.iconst 5, 1) := by decide +kernel
theorem dX7_farmerOf_93 : decode cX7_farmerOf 93 = .ok (.goto 5, 3) := by decide +kernel
theorem dX7_farmerOf_96 : decode cX7_farmerOf 96 = .ok (.bipush 10, 2) := by decide +kernel
theorem dX7_farmerOf_98 : decode cX7_farmerOf 98 = .ok (.invokevirtual 148, 3) := by decide +kernel
theorem dX7_farmerOf_101 : decode cX7_farmerOf 101 = .ok (.ireturn, 1) := by decide +kernel
theorem dX7_sackOf_0 : decode cX7_sackOf 0 = .ok (.aload_n 0, 1) := by decide +kernel
theorem dX7_sackOf_1 : decode cX7_sackOf 1 = .ok (.iload_n 1, 1) := by decide +kernel
theorem dX7_sackOf_2 : decode cX7_sackOf 2 = .ok (.invokevirtual 102, 3) := by decide +kernel
theorem dX7_sackOf_5 : decode cX7_sackOf 5 = .ok (.ifCond .eq 13, 3) := by decide +kernel
theorem dX7_sackOf_8 : decode cX7_sackOf 8 = .ok (.iload_n 2, 1) := by decide +kernel
theorem dX7_sackOf_9 : decode cX7_sackOf 9 = .ok (.iconst 0, 1) := by decide +kernel
theorem dX7_sackOf_10 : decode cX7_sackOf 10 = .ok (.bipush 11, 2) := by decide +kernel
theorem dX7_sackOf_12 : decode cX7_sackOf 12 = .ok (.invokestatic 29, 3) := by decide +kernel
theorem dX7_sackOf_15 : decode cX7_sackOf 15 = .ok (.ifCond .ne 6, 3) := by decide +kernel
theorem dX7_sackOf_18 : decode cX7_sackOf 18 = .ok (.ldc 33, 2) := by decide +kernel
theorem dX7_sackOf_20 : decode cX7_sackOf 20 = .ok (.ireturn, 1) := by decide +kernel
theorem dX7_sackOf_21 : decode cX7_sackOf 21 = .ok (.iload_n 2, 1) := by decide +kernel
theorem dX7_sackOf_22 : decode cX7_sackOf 22 = .ok (.bipush 11, 2) := by decide +kernel
theorem dX7_sackOf_24 : decode cX7_sackOf 24 = .ok (.if_icmp .ge 12, 3) := by decide +kernel
theorem dX7_sackOf_27 : decode cX7_sackOf 27 = .ok (.aload_n 0, 1) := by decide +kernel
theorem dX7_sackOf_28 : decode cX7_sackOf 28 = .ok (.iload_n 1, 1) := by decide +kernel
theorem dX7_sackOf_29 : decode cX7_sackOf 29 = .ok (.iload_n 2, 1) := by decide +kernel
theorem dX7_sackOf_30 : decode cX7_sackOf 30 = .ok (.invokevirtual 141, 3) := by decide +kernel
theorem dX7_sackOf_33 : decode cX7_sackOf 33 = .ok (.goto 22, 3) := by decide +kernel
theorem dX7_sackOf_36 : decode cX7_sackOf 36 = .ok (.aload_n 0, 1) := by decide +kernel
theorem dX7_sackOf_37 : decode cX7_sackOf 37 = .ok (.iload_n 1, 1) := by decide +kernel
theorem dX7_sackOf_38 : decode cX7_sackOf 38 = .ok (.iconst 3, 1) := by decide +kernel
theorem dX7_sackOf_39 : decode cX7_sackOf 39 = .ok (.invokevirtual 38, 3) := by decide +kernel
theorem dX7_sackOf_42 : decode cX7_sackOf 42 = .ok (.ifCond .ne 11, 3) := by decide +kernel
theorem dX7_sackOf_45 : decode cX7_sackOf 45 = .ok (.aload_n 0, 1) := by decide +kernel
theorem dX7_sackOf_46 : decode cX7_sackOf 46 = .ok (.iload_n 1, 1) := by decide +kernel
theorem dX7_sackOf_47 : decode cX7_sackOf 47 = .ok (.invokevirtual 58, 3) := by decide +kernel
theorem dX7_sackOf_50 : decode cX7_sackOf 50 = .ok (.goto 5, 3) := by decide +kernel
theorem dX7_sackOf_53 : decode cX7_sackOf 53 = .ok (.ldc 151, 2) := by decide +kernel
theorem dX7_sackOf_55 : decode cX7_sackOf 55 = .ok (.ireturn, 1) := by decide +kernel
theorem dX7_queueAt_0 : decode cX7_queueAt 0 = .ok (.iload_n 1, 1) := by decide +kernel
theorem dX7_queueAt_1 : decode cX7_queueAt 1 = .ok (.ifCond .ge 6, 3) := by decide +kernel
theorem dX7_queueAt_4 : decode cX7_queueAt 4 = .ok (.ldc 33, 2) := by decide +kernel
theorem dX7_queueAt_6 : decode cX7_queueAt 6 = .ok (.ireturn, 1) := by decide +kernel
theorem dX7_queueAt_7 : decode cX7_queueAt 7 = .ok (.aload_n 0, 1) := by decide +kernel
theorem dX7_queueAt_8 : decode cX7_queueAt 8 = .ok (.iload_n 1, 1) := by decide +kernel
theorem dX7_queueAt_9 : decode cX7_queueAt 9 = .ok (.invokevirtual 75, 3) := by decide +kernel
theorem dX7_queueAt_12 : decode cX7_queueAt 12 = .ok (.istore_n 2, 1) := by decide +kernel
theorem dX7_queueAt_13 : decode cX7_queueAt 13 = .ok (.iload_n 2, 1) := by decide +kernel
theorem dX7_queueAt_14 : decode cX7_queueAt 14 = .ok (.iconst (-1), 1) := by decide +kernel
theorem dX7_queueAt_15 : decode cX7_queueAt 15 = .ok (.if_icmp .ne 8, 3) := by decide +kernel
theorem dX7_queueAt_18 : decode cX7_queueAt 18 = .ok (.ldc 151, 2) := by decide +kernel
theorem dX7_queueAt_20 : decode cX7_queueAt 20 = .ok (.goto 4, 3) := by decide +kernel
theorem dX7_queueAt_23 : decode cX7_queueAt 23 = .ok (.iload_n 2, 1) := by decide +kernel
theorem dX7_queueAt_24 : decode cX7_queueAt 24 = .ok (.ireturn, 1) := by decide +kernel
theorem dX7_account_0 : decode cX7_account 0 = .ok (.iload_n 1, 1) := by decide +kernel
theorem dX7_account_1 : decode cX7_account 1 = .ok (.iconst (-1), 1) := by decide +kernel
theorem dX7_account_2 : decode cX7_account 2 = .ok (.aload_n 0, 1) := by decide +kernel
theorem dX7_account_3 : decode cX7_account 3 = .ok (.getfield 7, 3) := by decide +kernel
theorem dX7_account_6 : decode cX7_account 6 = .ok (.bipush 28, 2) := by decide +kernel
theorem dX7_account_8 : decode cX7_account 8 = .ok (.iaload, 1) := by decide +kernel
theorem dX7_account_9 : decode cX7_account 9 = .ok (.iconst 1, 1) := by decide +kernel
theorem dX7_account_10 : decode cX7_account 10 = .ok (.isub, 1) := by decide +kernel
theorem dX7_account_11 : decode cX7_account 11 = .ok (.invokestatic 29, 3) := by decide +kernel
theorem dX7_account_14 : decode cX7_account 14 = .ok (.ifCond .eq 35, 3) := by decide +kernel
theorem dX7_account_17 : decode cX7_account 17 = .ok (.iload_n 2, 1) := by decide +kernel
theorem dX7_account_18 : decode cX7_account 18 = .ok (.iconst (-1), 1) := by decide +kernel
theorem dX7_account_19 : decode cX7_account 19 = .ok (.aload_n 0, 1) := by decide +kernel
theorem dX7_account_20 : decode cX7_account 20 = .ok (.getfield 7, 3) := by decide +kernel
theorem dX7_account_23 : decode cX7_account 23 = .ok (.bipush 27, 2) := by decide +kernel
theorem dX7_account_25 : decode cX7_account 25 = .ok (.iaload, 1) := by decide +kernel
theorem dX7_account_26 : decode cX7_account 26 = .ok (.iconst 1, 1) := by decide +kernel
theorem dX7_account_27 : decode cX7_account 27 = .ok (.isub, 1) := by decide +kernel
theorem dX7_account_28 : decode cX7_account 28 = .ok (.invokestatic 29, 3) := by decide +kernel
theorem dX7_account_31 : decode cX7_account 31 = .ok (.ifCond .eq 18, 3) := by decide +kernel
theorem dX7_account_34 : decode cX7_account 34 = .ok (.iload_n 3, 1) := by decide +kernel
theorem dX7_account_35 : decode cX7_account 35 = .ok (.iconst 2, 1) := by decide +kernel
theorem dX7_account_36 : decode cX7_account 36 = .ok (.if_icmp .eq 16, 3) := by decide +kernel
theorem dX7_account_39 : decode cX7_account 39 = .ok (.iload_n 3, 1) := by decide +kernel
theorem dX7_account_40 : decode cX7_account 40 = .ok (.iconst 4, 1) := by decide +kernel
theorem dX7_account_41 : decode cX7_account 41 = .ok (.bipush 10, 2) := by decide +kernel
theorem dX7_account_43 : decode cX7_account 43 = .ok (.invokestatic 29, 3) := by decide +kernel
theorem dX7_account_46 : decode cX7_account 46 = .ok (.ifCond .ne 6, 3) := by decide +kernel
theorem dX7_account_49 : decode cX7_account 49 = .ok (.ldc 33, 2) := by decide +kernel
theorem dX7_account_51 : decode cX7_account 51 = .ok (.ireturn, 1) := by decide +kernel
theorem dX7_account_52 : decode cX7_account 52 = .ok (.aload_n 0, 1) := by decide +kernel
theorem dX7_account_53 : decode cX7_account 53 = .ok (.iload_n 1, 1) := by decide +kernel
theorem dX7_account_54 : decode cX7_account 54 = .ok (.iload_n 2, 1) := by decide +kernel
theorem dX7_account_55 : decode cX7_account 55 = .ok (.iload_n 3, 1) := by decide +kernel
theorem dX7_account_56 : decode cX7_account 56 = .ok (.invokevirtual 148, 3) := by decide +kernel
theorem dX7_account_59 : decode cX7_account 59 = .ok (.ireturn, 1) := by decide +kernel
theorem dX7_earn_0 : decode cX7_earn 0 = .ok (.aload_n 0, 1) := by decide +kernel
theorem dX7_earn_1 : decode cX7_earn 1 = .ok (.iload_n 1, 1) := by decide +kernel
theorem dX7_earn_2 : decode cX7_earn 2 = .ok (.invokevirtual 94, 3) := by decide +kernel
theorem dX7_earn_5 : decode cX7_earn 5 = .ok (.ifCond .eq 13, 3) := by decide +kernel
theorem dX7_earn_8 : decode cX7_earn 8 = .ok (.iload_n 2, 1) := by decide +kernel
theorem dX7_earn_9 : decode cX7_earn 9 = .ok (.iconst 1, 1) := by decide +kernel
theorem dX7_earn_10 : decode cX7_earn 10 = .ok (.ldc 152, 2) := by decide +kernel
theorem dX7_earn_12 : decode cX7_earn 12 = .ok (.invokestatic 29, 3) := by decide +kernel
theorem dX7_earn_15 : decode cX7_earn 15 = .ok (.ifCond .ne 6, 3) := by decide +kernel
theorem dX7_earn_18 : decode cX7_earn 18 = .ok (.ldc 33, 2) := by decide +kernel
theorem dX7_earn_20 : decode cX7_earn 20 = .ok (.ireturn, 1) := by decide +kernel
theorem dX7_earn_21 : decode cX7_earn 21 = .ok (.iload_n 2, 1) := by decide +kernel
theorem dX7_earn_22 : decode cX7_earn 22 = .ok (.ldc 114, 2) := by decide +kernel
theorem dX7_earn_24 : decode cX7_earn 24 = .ok (.aload_n 0, 1) := by decide +kernel
theorem dX7_earn_25 : decode cX7_earn 25 = .ok (.getfield 7, 3) := by decide +kernel
theorem dX7_earn_28 : decode cX7_earn 28 = .ok (.bipush 48, 2) := by decide +kernel
theorem dX7_earn_30 : decode cX7_earn 30 = .ok (.iload_n 1, 1) := by decide +kernel
theorem dX7_earn_31 : decode cX7_earn 31 = .ok (.iadd, 1) := by decide +kernel
theorem dX7_earn_32 : decode cX7_earn 32 = .ok (.iaload, 1) := by decide +kernel
theorem dX7_earn_33 : decode cX7_earn 33 = .ok (.isub, 1) := by decide +kernel
theorem dX7_earn_34 : decode cX7_earn 34 = .ok (.if_icmp .le 6, 3) := by decide +kernel
theorem dX7_earn_37 : decode cX7_earn 37 = .ok (.ldc 105, 2) := by decide +kernel
theorem dX7_earn_39 : decode cX7_earn 39 = .ok (.ireturn, 1) := by decide +kernel
theorem dX7_earn_40 : decode cX7_earn 40 = .ok (.aload_n 0, 1) := by decide +kernel
theorem dX7_earn_41 : decode cX7_earn 41 = .ok (.invokevirtual 124, 3) := by decide +kernel
theorem dX7_earn_44 : decode cX7_earn 44 = .ok (.aload_n 0, 1) := by decide +kernel
theorem dX7_earn_45 : decode cX7_earn 45 = .ok (.getfield 7, 3) := by decide +kernel
theorem dX7_earn_48 : decode cX7_earn 48 = .ok (.bipush 48, 2) := by decide +kernel
theorem dX7_earn_50 : decode cX7_earn 50 = .ok (.iload_n 1, 1) := by decide +kernel
theorem dX7_earn_51 : decode cX7_earn 51 = .ok (.iadd, 1) := by decide +kernel
theorem dX7_earn_52 : decode cX7_earn 52 = .ok (.dup2, 1) := by decide +kernel
theorem dX7_earn_53 : decode cX7_earn 53 = .ok (.iaload, 1) := by decide +kernel
theorem dX7_earn_54 : decode cX7_earn 54 = .ok (.iload_n 2, 1) := by decide +kernel
theorem dX7_earn_55 : decode cX7_earn 55 = .ok (.iadd, 1) := by decide +kernel
theorem dX7_earn_56 : decode cX7_earn 56 = .ok (.iastore, 1) := by decide +kernel
theorem dX7_earn_57 : decode cX7_earn 57 = .ok (.aload_n 0, 1) := by decide +kernel
theorem dX7_earn_58 : decode cX7_earn 58 = .ok (.aload_n 0, 1) := by decide +kernel
theorem dX7_earn_59 : decode cX7_earn 59 = .ok (.getfield 7, 3) := by decide +kernel
theorem dX7_earn_62 : decode cX7_earn 62 = .ok (.bipush 48, 2) := by decide +kernel
theorem dX7_earn_64 : decode cX7_earn 64 = .ok (.iload_n 1, 1) := by decide +kernel
theorem dX7_earn_65 : decode cX7_earn 65 = .ok (.iadd, 1) := by decide +kernel
theorem dX7_earn_66 : decode cX7_earn 66 = .ok (.iaload, 1) := by decide +kernel
theorem dX7_earn_67 : decode cX7_earn 67 = .ok (.invokevirtual 127, 3) := by decide +kernel
theorem dX7_earn_70 : decode cX7_earn 70 = .ok (.ireturn, 1) := by decide +kernel
theorem dX7_pledge_0 : decode cX7_pledge 0 = .ok (.aload_n 0, 1) := by decide +kernel
theorem dX7_pledge_1 : decode cX7_pledge 1 = .ok (.invokevirtual 124, 3) := by decide +kernel
theorem dX7_pledge_4 : decode cX7_pledge 4 = .ok (.aload_n 0, 1) := by decide +kernel
theorem dX7_pledge_5 : decode cX7_pledge 5 = .ok (.aload_n 0, 1) := by decide +kernel
theorem dX7_pledge_6 : decode cX7_pledge 6 = .ok (.iload_n 1, 1) := by decide +kernel
theorem dX7_pledge_7 : decode cX7_pledge 7 = .ok (.iload_n 2, 1) := by decide +kernel
theorem dX7_pledge_8 : decode cX7_pledge 8 = .ok (.invokevirtual 153, 3) := by decide +kernel
theorem dX7_pledge_11 : decode cX7_pledge 11 = .ok (.invokevirtual 127, 3) := by decide +kernel
theorem dX7_pledge_14 : decode cX7_pledge 14 = .ok (.ireturn, 1) := by decide +kernel
theorem dX7_owed_0 : decode cX7_owed 0 = .ok (.aload_n 0, 1) := by decide +kernel
theorem dX7_owed_1 : decode cX7_owed 1 = .ok (.iload_n 1, 1) := by decide +kernel
theorem dX7_owed_2 : decode cX7_owed 2 = .ok (.invokevirtual 102, 3) := by decide +kernel
theorem dX7_owed_5 : decode cX7_owed 5 = .ok (.ifCond .ne 6, 3) := by decide +kernel
theorem dX7_owed_8 : decode cX7_owed 8 = .ok (.ldc 33, 2) := by decide +kernel
theorem dX7_owed_10 : decode cX7_owed 10 = .ok (.ireturn, 1) := by decide +kernel
theorem dX7_owed_11 : decode cX7_owed 11 = .ok (.aload_n 0, 1) := by decide +kernel
theorem dX7_owed_12 : decode cX7_owed 12 = .ok (.iload_n 1, 1) := by decide +kernel
theorem dX7_owed_13 : decode cX7_owed 13 = .ok (.bipush 6, 2) := by decide +kernel
theorem dX7_owed_15 : decode cX7_owed 15 = .ok (.invokevirtual 38, 3) := by decide +kernel
theorem dX7_owed_18 : decode cX7_owed 18 = .ok (.ifCond .ne 8, 3) := by decide +kernel
theorem dX7_owed_21 : decode cX7_owed 21 = .ok (.ldc 151, 2) := by decide +kernel
theorem dX7_owed_23 : decode cX7_owed 23 = .ok (.goto 8, 3) := by decide +kernel
theorem dX7_owed_26 : decode cX7_owed 26 = .ok (.aload_n 0, 1) := by decide +kernel
theorem dX7_owed_27 : decode cX7_owed 27 = .ok (.iload_n 1, 1) := by decide +kernel
theorem dX7_owed_28 : decode cX7_owed 28 = .ok (.invokevirtual 115, 3) := by decide +kernel
theorem dX7_owed_31 : decode cX7_owed 31 = .ok (.ireturn, 1) := by decide +kernel
theorem dX7_redeem_0 : decode cX7_redeem 0 = .ok (.aload_n 0, 1) := by decide +kernel
theorem dX7_redeem_1 : decode cX7_redeem 1 = .ok (.invokevirtual 124, 3) := by decide +kernel
theorem dX7_redeem_4 : decode cX7_redeem 4 = .ok (.aload_n 0, 1) := by decide +kernel
theorem dX7_redeem_5 : decode cX7_redeem 5 = .ok (.aload_n 0, 1) := by decide +kernel
theorem dX7_redeem_6 : decode cX7_redeem 6 = .ok (.iload_n 1, 1) := by decide +kernel
theorem dX7_redeem_7 : decode cX7_redeem 7 = .ok (.invokevirtual 156, 3) := by decide +kernel
theorem dX7_redeem_10 : decode cX7_redeem 10 = .ok (.invokevirtual 127, 3) := by decide +kernel
theorem dX7_redeem_13 : decode cX7_redeem 13 = .ok (.ireturn, 1) := by decide +kernel
theorem dX7_ahead_0 : decode cX7_ahead 0 = .ok (.iconst 0, 1) := by decide +kernel
theorem dX7_ahead_1 : decode cX7_ahead 1 = .ok (.istore_n 2, 1) := by decide +kernel
theorem dX7_ahead_2 : decode cX7_ahead 2 = .ok (.iconst 0, 1) := by decide +kernel
theorem dX7_ahead_3 : decode cX7_ahead 3 = .ok (.istore_n 3, 1) := by decide +kernel
theorem dX7_ahead_4 : decode cX7_ahead 4 = .ok (.iload_n 3, 1) := by decide +kernel
theorem dX7_ahead_5 : decode cX7_ahead 5 = .ok (.aload_n 0, 1) := by decide +kernel
theorem dX7_ahead_6 : decode cX7_ahead 6 = .ok (.getfield 7, 3) := by decide +kernel
theorem dX7_ahead_9 : decode cX7_ahead 9 = .ok (.bipush 29, 2) := by decide +kernel
theorem dX7_ahead_11 : decode cX7_ahead 11 = .ok (.iaload, 1) := by decide +kernel
theorem dX7_ahead_12 : decode cX7_ahead 12 = .ok (.if_icmp .ge 78, 3) := by decide +kernel
theorem dX7_ahead_15 : decode cX7_ahead 15 = .ok (.aload_n 0, 1) := by decide +kernel
theorem dX7_ahead_16 : decode cX7_ahead 16 = .ok (.iload_n 3, 1) := by decide +kernel
theorem dX7_ahead_17 : decode cX7_ahead 17 = .ok (.bipush 9, 2) := by decide +kernel
theorem dX7_ahead_19 : decode cX7_ahead 19 = .ok (.invokevirtual 38, 3) := by decide +kernel
theorem dX7_ahead_22 : decode cX7_ahead 22 = .ok (.aload_n 0, 1) := by decide +kernel
theorem dX7_ahead_23 : decode cX7_ahead 23 = .ok (.iload_n 1, 1) := by decide +kernel
theorem dX7_ahead_24 : decode cX7_ahead 24 = .ok (.bipush 9, 2) := by decide +kernel
theorem dX7_ahead_26 : decode cX7_ahead 26 = .ok (.invokevirtual 38, 3) := by decide +kernel
theorem dX7_ahead_29 : decode cX7_ahead 29 = .ok (.if_icmp .lt 25, 3) := by decide +kernel
theorem dX7_ahead_32 : decode cX7_ahead 32 = .ok (.aload_n 0, 1) := by decide +kernel
theorem dX7_ahead_33 : decode cX7_ahead 33 = .ok (.iload_n 3, 1) := by decide +kernel
theorem dX7_ahead_34 : decode cX7_ahead 34 = .ok (.bipush 9, 2) := by decide +kernel
theorem dX7_ahead_36 : decode cX7_ahead 36 = .ok (.invokevirtual 38, 3) := by decide +kernel
theorem dX7_ahead_39 : decode cX7_ahead 39 = .ok (.aload_n 0, 1) := by decide +kernel
theorem dX7_ahead_40 : decode cX7_ahead 40 = .ok (.iload_n 1, 1) := by decide +kernel
theorem dX7_ahead_41 : decode cX7_ahead 41 = .ok (.bipush 9, 2) := by decide +kernel
theorem dX7_ahead_43 : decode cX7_ahead 43 = .ok (.invokevirtual 38, 3) := by decide +kernel
theorem dX7_ahead_46 : decode cX7_ahead 46 = .ok (.if_icmp .ne 12, 3) := by decide +kernel
theorem dX7_ahead_49 : decode cX7_ahead 49 = .ok (.iload_n 3, 1) := by decide +kernel
theorem dX7_ahead_50 : decode cX7_ahead 50 = .ok (.iload_n 1, 1) := by decide +kernel
theorem dX7_ahead_51 : decode cX7_ahead 51 = .ok (.if_icmp .ge 7, 3) := by decide +kernel
theorem dX7_ahead_54 : decode cX7_ahead 54 = .ok (.iconst 1, 1) := by decide +kernel
theorem dX7_ahead_55 : decode cX7_ahead 55 = .ok (.goto 4, 3) := by decide +kernel
theorem dX7_ahead_58 : decode cX7_ahead 58 = .ok (.iconst 0, 1) := by decide +kernel
theorem dX7_ahead_59 : decode cX7_ahead 59 = .ok (.istore 4, 2) := by decide +kernel
theorem dX7_ahead_61 : decode cX7_ahead 61 = .ok (.iload_n 2, 1) := by decide +kernel
theorem dX7_ahead_62 : decode cX7_ahead 62 = .ok (.aload_n 0, 1) := by decide +kernel
theorem dX7_ahead_63 : decode cX7_ahead 63 = .ok (.iload_n 3, 1) := by decide +kernel
theorem dX7_ahead_64 : decode cX7_ahead 64 = .ok (.bipush 6, 2) := by decide +kernel
theorem dX7_ahead_66 : decode cX7_ahead 66 = .ok (.invokevirtual 38, 3) := by decide +kernel
theorem dX7_ahead_69 : decode cX7_ahead 69 = .ok (.ifCond .le 12, 3) := by decide +kernel
theorem dX7_ahead_72 : decode cX7_ahead 72 = .ok (.iload 4, 2) := by decide +kernel
theorem dX7_ahead_74 : decode cX7_ahead 74 = .ok (.ifCond .eq 7, 3) := by decide +kernel
theorem dX7_ahead_77 : decode cX7_ahead 77 = .ok (.iconst 1, 1) := by decide +kernel
theorem dX7_ahead_78 : decode cX7_ahead 78 = .ok (.goto 4, 3) := by decide +kernel
theorem dX7_ahead_81 : decode cX7_ahead 81 = .ok (.iconst 0, 1) := by decide +kernel
theorem dX7_ahead_82 : decode cX7_ahead 82 = .ok (.iadd, 1) := by decide +kernel
theorem dX7_ahead_83 : decode cX7_ahead 83 = .ok (.istore_n 2, 1) := by decide +kernel
theorem dX7_ahead_84 : decode cX7_ahead 84 = .ok (.iinc 3 1, 3) := by decide +kernel
theorem dX7_ahead_87 : decode cX7_ahead 87 = .ok (.goto (-83), 3) := by decide +kernel
theorem dX7_ahead_90 : decode cX7_ahead 90 = .ok (.iload_n 2, 1) := by decide +kernel
theorem dX7_ahead_91 : decode cX7_ahead 91 = .ok (.ireturn, 1) := by decide +kernel
theorem dX7_pledgeAt_0 : decode cX7_pledgeAt 0 = .ok (.iload_n 1, 1) := by decide +kernel
theorem dX7_pledgeAt_1 : decode cX7_pledgeAt 1 = .ok (.ifCond .lt 12, 3) := by decide +kernel
theorem dX7_pledgeAt_4 : decode cX7_pledgeAt 4 = .ok (.iload_n 2, 1) := by decide +kernel
theorem dX7_pledgeAt_5 : decode cX7_pledgeAt 5 = .ok (.iconst 0, 1) := by decide +kernel
theorem dX7_pledgeAt_6 : decode cX7_pledgeAt 6 = .ok (.iconst 4, 1) := by decide +kernel
theorem dX7_pledgeAt_7 : decode cX7_pledgeAt 7 = .ok (.invokestatic 29, 3) := by decide +kernel
theorem dX7_pledgeAt_10 : decode cX7_pledgeAt 10 = .ok (.ifCond .ne 6, 3) := by decide +kernel
theorem dX7_pledgeAt_13 : decode cX7_pledgeAt 13 = .ok (.ldc 33, 2) := by decide +kernel
theorem dX7_pledgeAt_15 : decode cX7_pledgeAt 15 = .ok (.ireturn, 1) := by decide +kernel
theorem dX7_pledgeAt_16 : decode cX7_pledgeAt 16 = .ok (.iconst 0, 1) := by decide +kernel
theorem dX7_pledgeAt_17 : decode cX7_pledgeAt 17 = .ok (.istore_n 3, 1) := by decide +kernel
theorem dX7_pledgeAt_18 : decode cX7_pledgeAt 18 = .ok (.iload_n 3, 1) := by decide +kernel
theorem dX7_pledgeAt_19 : decode cX7_pledgeAt 19 = .ok (.aload_n 0, 1) := by decide +kernel
theorem dX7_pledgeAt_20 : decode cX7_pledgeAt 20 = .ok (.getfield 7, 3) := by decide +kernel
theorem dX7_pledgeAt_23 : decode cX7_pledgeAt 23 = .ok (.bipush 29, 2) := by decide +kernel
theorem dX7_pledgeAt_25 : decode cX7_pledgeAt 25 = .ok (.iaload, 1) := by decide +kernel
theorem dX7_pledgeAt_26 : decode cX7_pledgeAt 26 = .ok (.if_icmp .ge 48, 3) := by decide +kernel
theorem dX7_pledgeAt_29 : decode cX7_pledgeAt 29 = .ok (.aload_n 0, 1) := by decide +kernel
theorem dX7_pledgeAt_30 : decode cX7_pledgeAt 30 = .ok (.iload_n 3, 1) := by decide +kernel
theorem dX7_pledgeAt_31 : decode cX7_pledgeAt 31 = .ok (.bipush 6, 2) := by decide +kernel
theorem dX7_pledgeAt_33 : decode cX7_pledgeAt 33 = .ok (.invokevirtual 38, 3) := by decide +kernel
theorem dX7_pledgeAt_36 : decode cX7_pledgeAt 36 = .ok (.ifCond .le 32, 3) := by decide +kernel
theorem dX7_pledgeAt_39 : decode cX7_pledgeAt 39 = .ok (.aload_n 0, 1) := by decide +kernel
theorem dX7_pledgeAt_40 : decode cX7_pledgeAt 40 = .ok (.iload_n 3, 1) := by decide +kernel
theorem dX7_pledgeAt_41 : decode cX7_pledgeAt 41 = .ok (.invokevirtual 159, 3) := by decide +kernel
theorem dX7_pledgeAt_44 : decode cX7_pledgeAt 44 = .ok (.iload_n 1, 1) := by decide +kernel
theorem dX7_pledgeAt_45 : decode cX7_pledgeAt 45 = .ok (.if_icmp .ne 23, 3) := by decide +kernel
theorem dX7_pledgeAt_48 : decode cX7_pledgeAt 48 = .ok (.iload_n 2, 1) := by decide +kernel
theorem dX7_pledgeAt_49 : decode cX7_pledgeAt 49 = .ok (.ifCond .ne 7, 3) := by decide +kernel
theorem dX7_pledgeAt_52 : decode cX7_pledgeAt 52 = .ok (.iload_n 3, 1) := by decide +kernel
theorem dX7_pledgeAt_53 : decode cX7_pledgeAt 53 = .ok (.goto 14, 3) := by decide +kernel
theorem dX7_pledgeAt_56 : decode cX7_pledgeAt 56 = .ok (.aload_n 0, 1) := by decide +kernel
theorem dX7_pledgeAt_57 : decode cX7_pledgeAt 57 = .ok (.iload_n 3, 1) := by decide +kernel
theorem dX7_pledgeAt_58 : decode cX7_pledgeAt 58 = .ok (.bipush 6, 2) := by decide +kernel
theorem dX7_pledgeAt_60 : decode cX7_pledgeAt 60 = .ok (.iload_n 2, 1) := by decide +kernel
theorem dX7_pledgeAt_61 : decode cX7_pledgeAt 61 = .ok (.iadd, 1) := by decide +kernel
theorem dX7_pledgeAt_62 : decode cX7_pledgeAt 62 = .ok (.iconst 1, 1) := by decide +kernel
theorem dX7_pledgeAt_63 : decode cX7_pledgeAt 63 = .ok (.isub, 1) := by decide +kernel
theorem dX7_pledgeAt_64 : decode cX7_pledgeAt 64 = .ok (.invokevirtual 38, 3) := by decide +kernel
theorem dX7_pledgeAt_67 : decode cX7_pledgeAt 67 = .ok (.ireturn, 1) := by decide +kernel
theorem dX7_pledgeAt_68 : decode cX7_pledgeAt 68 = .ok (.iinc 3 1, 3) := by decide +kernel
theorem dX7_pledgeAt_71 : decode cX7_pledgeAt 71 = .ok (.goto (-53), 3) := by decide +kernel
theorem dX7_pledgeAt_74 : decode cX7_pledgeAt 74 = .ok (.ldc 151, 2) := by decide +kernel
theorem dX7_pledgeAt_76 : decode cX7_pledgeAt 76 = .ok (.ireturn, 1) := by decide +kernel
theorem dX7_pass_0 : decode cX7_pass 0 = .ok (.iload_n 1, 1) := by decide +kernel
theorem dX7_pass_1 : decode cX7_pass 1 = .ok (.iconst 1, 1) := by decide +kernel
theorem dX7_pass_2 : decode cX7_pass 2 = .ok (.sipush 200, 3) := by decide +kernel
theorem dX7_pass_5 : decode cX7_pass 5 = .ok (.invokestatic 29, 3) := by decide +kernel
theorem dX7_pass_8 : decode cX7_pass 8 = .ok (.ifCond .ne 6, 3) := by decide +kernel
theorem dX7_pass_11 : decode cX7_pass 11 = .ok (.ldc 33, 2) := by decide +kernel
theorem dX7_pass_13 : decode cX7_pass 13 = .ok (.ireturn, 1) := by decide +kernel
theorem dX7_pass_14 : decode cX7_pass 14 = .ok (.aload_n 0, 1) := by decide +kernel
theorem dX7_pass_15 : decode cX7_pass 15 = .ok (.getfield 7, 3) := by decide +kernel
theorem dX7_pass_18 : decode cX7_pass 18 = .ok (.bipush 26, 2) := by decide +kernel
theorem dX7_pass_20 : decode cX7_pass 20 = .ok (.iaload, 1) := by decide +kernel
theorem dX7_pass_21 : decode cX7_pass 21 = .ok (.iload_n 1, 1) := by decide +kernel
theorem dX7_pass_22 : decode cX7_pass 22 = .ok (.iadd, 1) := by decide +kernel
theorem dX7_pass_23 : decode cX7_pass 23 = .ok (.sipush 10000, 3) := by decide +kernel
theorem dX7_pass_26 : decode cX7_pass 26 = .ok (.if_icmp .le 6, 3) := by decide +kernel
theorem dX7_pass_29 : decode cX7_pass 29 = .ok (.ldc 101, 2) := by decide +kernel
theorem dX7_pass_31 : decode cX7_pass 31 = .ok (.ireturn, 1) := by decide +kernel
theorem dX7_pass_32 : decode cX7_pass 32 = .ok (.aload_n 0, 1) := by decide +kernel
theorem dX7_pass_33 : decode cX7_pass 33 = .ok (.invokevirtual 124, 3) := by decide +kernel
theorem dX7_pass_36 : decode cX7_pass 36 = .ok (.iconst 0, 1) := by decide +kernel
theorem dX7_pass_37 : decode cX7_pass 37 = .ok (.istore_n 2, 1) := by decide +kernel
theorem dX7_pass_38 : decode cX7_pass 38 = .ok (.iload_n 2, 1) := by decide +kernel
theorem dX7_pass_39 : decode cX7_pass 39 = .ok (.iload_n 1, 1) := by decide +kernel
theorem dX7_pass_40 : decode cX7_pass 40 = .ok (.if_icmp .ge 13, 3) := by decide +kernel
theorem dX7_pass_43 : decode cX7_pass 43 = .ok (.aload_n 0, 1) := by decide +kernel
theorem dX7_pass_44 : decode cX7_pass 44 = .ok (.invokevirtual 162, 3) := by decide +kernel
theorem dX7_pass_47 : decode cX7_pass 47 = .ok (.iinc 2 1, 3) := by decide +kernel
theorem dX7_pass_50 : decode cX7_pass 50 = .ok (.goto (-12), 3) := by decide +kernel
theorem dX7_pass_53 : decode cX7_pass 53 = .ok (.aload_n 0, 1) := by decide +kernel
theorem dX7_pass_54 : decode cX7_pass 54 = .ok (.aload_n 0, 1) := by decide +kernel
theorem dX7_pass_55 : decode cX7_pass 55 = .ok (.getfield 7, 3) := by decide +kernel
theorem dX7_pass_58 : decode cX7_pass 58 = .ok (.bipush 26, 2) := by decide +kernel
theorem dX7_pass_60 : decode cX7_pass 60 = .ok (.iaload, 1) := by decide +kernel
theorem dX7_pass_61 : decode cX7_pass 61 = .ok (.invokevirtual 127, 3) := by decide +kernel
theorem dX7_pass_64 : decode cX7_pass 64 = .ok (.ireturn, 1) := by decide +kernel
theorem dX7_seaIn_0 : decode cX7_seaIn 0 = .ok (.iload_n 1, 1) := by decide +kernel
theorem dX7_seaIn_1 : decode cX7_seaIn 1 = .ok (.iconst 0, 1) := by decide +kernel
theorem dX7_seaIn_2 : decode cX7_seaIn 2 = .ok (.sipush 5000, 3) := by decide +kernel
theorem dX7_seaIn_5 : decode cX7_seaIn 5 = .ok (.invokestatic 29, 3) := by decide +kernel
theorem dX7_seaIn_8 : decode cX7_seaIn 8 = .ok (.ifCond .eq 19, 3) := by decide +kernel
theorem dX7_seaIn_11 : decode cX7_seaIn 11 = .ok (.aload_n 0, 1) := by decide +kernel
theorem dX7_seaIn_12 : decode cX7_seaIn 12 = .ok (.aload_n 0, 1) := by decide +kernel
theorem dX7_seaIn_13 : decode cX7_seaIn 13 = .ok (.getfield 7, 3) := by decide +kernel
theorem dX7_seaIn_16 : decode cX7_seaIn 16 = .ok (.bipush 26, 2) := by decide +kernel
theorem dX7_seaIn_18 : decode cX7_seaIn 18 = .ok (.iaload, 1) := by decide +kernel
theorem dX7_seaIn_19 : decode cX7_seaIn 19 = .ok (.iload_n 1, 1) := by decide +kernel
theorem dX7_seaIn_20 : decode cX7_seaIn 20 = .ok (.iadd, 1) := by decide +kernel
theorem dX7_seaIn_21 : decode cX7_seaIn 21 = .ok (.invokevirtual 61, 3) := by decide +kernel
theorem dX7_seaIn_24 : decode cX7_seaIn 24 = .ok (.goto 5, 3) := by decide +kernel
theorem dX7_seaIn_27 : decode cX7_seaIn 27 = .ok (.ldc 33, 2) := by decide +kernel
theorem dX7_seaIn_29 : decode cX7_seaIn 29 = .ok (.ireturn, 1) := by decide +kernel
theorem dX7_nextHigh_0 : decode cX7_nextHigh 0 = .ok (.iconst 1, 1) := by decide +kernel
theorem dX7_nextHigh_1 : decode cX7_nextHigh 1 = .ok (.istore_n 1, 1) := by decide +kernel
theorem dX7_nextHigh_2 : decode cX7_nextHigh 2 = .ok (.aload_n 0, 1) := by decide +kernel
theorem dX7_nextHigh_3 : decode cX7_nextHigh 3 = .ok (.getfield 7, 3) := by decide +kernel
theorem dX7_nextHigh_6 : decode cX7_nextHigh 6 = .ok (.bipush 26, 2) := by decide +kernel
theorem dX7_nextHigh_8 : decode cX7_nextHigh 8 = .ok (.iaload, 1) := by decide +kernel
theorem dX7_nextHigh_9 : decode cX7_nextHigh 9 = .ok (.iload_n 1, 1) := by decide +kernel
theorem dX7_nextHigh_10 : decode cX7_nextHigh 10 = .ok (.iadd, 1) := by decide +kernel
theorem dX7_nextHigh_11 : decode cX7_nextHigh 11 = .ok (.aload_n 0, 1) := by decide +kernel
theorem dX7_nextHigh_12 : decode cX7_nextHigh 12 = .ok (.getfield 7, 3) := by decide +kernel
theorem dX7_nextHigh_15 : decode cX7_nextHigh 15 = .ok (.iconst 4, 1) := by decide +kernel
theorem dX7_nextHigh_16 : decode cX7_nextHigh 16 = .ok (.iaload, 1) := by decide +kernel
theorem dX7_nextHigh_17 : decode cX7_nextHigh 17 = .ok (.irem, 1) := by decide +kernel
theorem dX7_nextHigh_18 : decode cX7_nextHigh 18 = .ok (.aload_n 0, 1) := by decide +kernel
theorem dX7_nextHigh_19 : decode cX7_nextHigh 19 = .ok (.getfield 7, 3) := by decide +kernel
theorem dX7_nextHigh_22 : decode cX7_nextHigh 22 = .ok (.iconst 4, 1) := by decide +kernel
theorem dX7_nextHigh_23 : decode cX7_nextHigh 23 = .ok (.iaload, 1) := by decide +kernel
theorem dX7_nextHigh_24 : decode cX7_nextHigh 24 = .ok (.iconst 2, 1) := by decide +kernel
theorem dX7_nextHigh_25 : decode cX7_nextHigh 25 = .ok (.idiv, 1) := by decide +kernel
theorem dX7_nextHigh_26 : decode cX7_nextHigh 26 = .ok (.if_icmp .eq 9, 3) := by decide +kernel
theorem dX7_nextHigh_29 : decode cX7_nextHigh 29 = .ok (.iinc 1 1, 3) := by decide +kernel
theorem dX7_nextHigh_32 : decode cX7_nextHigh 32 = .ok (.goto (-30), 3) := by decide +kernel
theorem dX7_nextHigh_35 : decode cX7_nextHigh 35 = .ok (.iload_n 1, 1) := by decide +kernel
theorem dX7_nextHigh_36 : decode cX7_nextHigh 36 = .ok (.ireturn, 1) := by decide +kernel
theorem dX7_pond_0 : decode cX7_pond 0 = .ok (.iload_n 1, 1) := by decide +kernel
theorem dX7_pond_1 : decode cX7_pond 1 = .ok (.tableswitch 152 0 10 #[59, 67, 82, 94, 99, 107, 115, 139, 139, 139, 139], 59) := by decide +kernel
theorem dX7_pond_60 : decode cX7_pond 60 = .ok (.aload_n 0, 1) := by decide +kernel
theorem dX7_pond_61 : decode cX7_pond 61 = .ok (.getfield 7, 3) := by decide +kernel
theorem dX7_pond_64 : decode cX7_pond 64 = .ok (.bipush 19, 2) := by decide +kernel
theorem dX7_pond_66 : decode cX7_pond 66 = .ok (.iaload, 1) := by decide +kernel
theorem dX7_pond_67 : decode cX7_pond 67 = .ok (.ireturn, 1) := by decide +kernel
theorem dX7_pond_68 : decode cX7_pond 68 = .ok (.aload_n 0, 1) := by decide +kernel
theorem dX7_pond_69 : decode cX7_pond 69 = .ok (.getfield 7, 3) := by decide +kernel
theorem dX7_pond_72 : decode cX7_pond 72 = .ok (.bipush 19, 2) := by decide +kernel
theorem dX7_pond_74 : decode cX7_pond 74 = .ok (.iaload, 1) := by decide +kernel
theorem dX7_pond_75 : decode cX7_pond 75 = .ok (.aload_n 0, 1) := by decide +kernel
theorem dX7_pond_76 : decode cX7_pond 76 = .ok (.getfield 7, 3) := by decide +kernel
theorem dX7_pond_79 : decode cX7_pond 79 = .ok (.iconst 0, 1) := by decide +kernel
theorem dX7_pond_80 : decode cX7_pond 80 = .ok (.iaload, 1) := by decide +kernel
theorem dX7_pond_81 : decode cX7_pond 81 = .ok (.idiv, 1) := by decide +kernel
theorem dX7_pond_82 : decode cX7_pond 82 = .ok (.ireturn, 1) := by decide +kernel
theorem dX7_pond_83 : decode cX7_pond 83 = .ok (.aload_n 0, 1) := by decide +kernel
theorem dX7_pond_84 : decode cX7_pond 84 = .ok (.aload_n 0, 1) := by decide +kernel
theorem dX7_pond_85 : decode cX7_pond 85 = .ok (.getfield 7, 3) := by decide +kernel
theorem dX7_pond_88 : decode cX7_pond 88 = .ok (.bipush 26, 2) := by decide +kernel
theorem dX7_pond_90 : decode cX7_pond 90 = .ok (.iaload, 1) := by decide +kernel
theorem dX7_pond_91 : decode cX7_pond 91 = .ok (.invokevirtual 61, 3) := by decide +kernel
theorem dX7_pond_94 : decode cX7_pond 94 = .ok (.ireturn, 1) := by decide +kernel
theorem dX7_pond_95 : decode cX7_pond 95 = .ok (.aload_n 0, 1) := by decide +kernel
theorem dX7_pond_96 : decode cX7_pond 96 = .ok (.invokevirtual 68, 3) := by decide +kernel
theorem dX7_pond_99 : decode cX7_pond 99 = .ok (.ireturn, 1) := by decide +kernel
theorem dX7_pond_100 : decode cX7_pond 100 = .ok (.aload_n 0, 1) := by decide +kernel
theorem dX7_pond_101 : decode cX7_pond 101 = .ok (.getfield 7, 3) := by decide +kernel
theorem dX7_pond_104 : decode cX7_pond 104 = .ok (.bipush 18, 2) := by decide +kernel
theorem dX7_pond_106 : decode cX7_pond 106 = .ok (.iaload, 1) := by decide +kernel
theorem dX7_pond_107 : decode cX7_pond 107 = .ok (.ireturn, 1) := by decide +kernel
theorem dX7_pond_108 : decode cX7_pond 108 = .ok (.aload_n 0, 1) := by decide +kernel
theorem dX7_pond_109 : decode cX7_pond 109 = .ok (.getfield 7, 3) := by decide +kernel
theorem dX7_pond_112 : decode cX7_pond 112 = .ok (.bipush 17, 2) := by decide +kernel
theorem dX7_pond_114 : decode cX7_pond 114 = .ok (.iaload, 1) := by decide +kernel
theorem dX7_pond_115 : decode cX7_pond 115 = .ok (.ireturn, 1) := by decide +kernel
theorem dX7_pond_116 : decode cX7_pond 116 = .ok (.aload_n 0, 1) := by decide +kernel
theorem dX7_pond_117 : decode cX7_pond 117 = .ok (.getfield 7, 3) := by decide +kernel
theorem dX7_pond_120 : decode cX7_pond 120 = .ok (.bipush 24, 2) := by decide +kernel
theorem dX7_pond_122 : decode cX7_pond 122 = .ok (.iaload, 1) := by decide +kernel
theorem dX7_pond_123 : decode cX7_pond 123 = .ok (.iconst (-1), 1) := by decide +kernel
theorem dX7_pond_124 : decode cX7_pond 124 = .ok (.if_icmp .ne 8, 3) := by decide +kernel
theorem dX7_pond_127 : decode cX7_pond 127 = .ok (.ldc 151, 2) := by decide +kernel
theorem dX7_pond_129 : decode cX7_pond 129 = .ok (.goto 10, 3) := by decide +kernel
theorem dX7_pond_132 : decode cX7_pond 132 = .ok (.aload_n 0, 1) := by decide +kernel
theorem dX7_pond_133 : decode cX7_pond 133 = .ok (.getfield 7, 3) := by decide +kernel
theorem dX7_pond_136 : decode cX7_pond 136 = .ok (.bipush 24, 2) := by decide +kernel
theorem dX7_pond_138 : decode cX7_pond 138 = .ok (.iaload, 1) := by decide +kernel
theorem dX7_pond_139 : decode cX7_pond 139 = .ok (.ireturn, 1) := by decide +kernel
theorem dX7_pond_140 : decode cX7_pond 140 = .ok (.aload_n 0, 1) := by decide +kernel
theorem dX7_pond_141 : decode cX7_pond 141 = .ok (.getfield 7, 3) := by decide +kernel
theorem dX7_pond_144 : decode cX7_pond 144 = .ok (.bipush 20, 2) := by decide +kernel
theorem dX7_pond_146 : decode cX7_pond 146 = .ok (.iload_n 1, 1) := by decide +kernel
theorem dX7_pond_147 : decode cX7_pond 147 = .ok (.iadd, 1) := by decide +kernel
theorem dX7_pond_148 : decode cX7_pond 148 = .ok (.bipush 7, 2) := by decide +kernel
theorem dX7_pond_150 : decode cX7_pond 150 = .ok (.isub, 1) := by decide +kernel
theorem dX7_pond_151 : decode cX7_pond 151 = .ok (.iaload, 1) := by decide +kernel
theorem dX7_pond_152 : decode cX7_pond 152 = .ok (.ireturn, 1) := by decide +kernel
theorem dX7_pond_153 : decode cX7_pond 153 = .ok (.iload_n 1, 1) := by decide +kernel
theorem dX7_pond_154 : decode cX7_pond 154 = .ok (.bipush 11, 2) := by decide +kernel
theorem dX7_pond_156 : decode cX7_pond 156 = .ok (.bipush 14, 2) := by decide +kernel
theorem dX7_pond_158 : decode cX7_pond 158 = .ok (.invokestatic 29, 3) := by decide +kernel
theorem dX7_pond_161 : decode cX7_pond 161 = .ok (.ifCond .eq 18, 3) := by decide +kernel
theorem dX7_pond_164 : decode cX7_pond 164 = .ok (.aload_n 0, 1) := by decide +kernel
theorem dX7_pond_165 : decode cX7_pond 165 = .ok (.getfield 7, 3) := by decide +kernel
theorem dX7_pond_168 : decode cX7_pond 168 = .ok (.bipush 13, 2) := by decide +kernel
theorem dX7_pond_170 : decode cX7_pond 170 = .ok (.iload_n 1, 1) := by decide +kernel
theorem dX7_pond_171 : decode cX7_pond 171 = .ok (.iadd, 1) := by decide +kernel
theorem dX7_pond_172 : decode cX7_pond 172 = .ok (.bipush 11, 2) := by decide +kernel
theorem dX7_pond_174 : decode cX7_pond 174 = .ok (.isub, 1) := by decide +kernel
theorem dX7_pond_175 : decode cX7_pond 175 = .ok (.iaload, 1) := by decide +kernel
theorem dX7_pond_176 : decode cX7_pond 176 = .ok (.goto 5, 3) := by decide +kernel
theorem dX7_pond_179 : decode cX7_pond 179 = .ok (.ldc 33, 2) := by decide +kernel
theorem dX7_pond_181 : decode cX7_pond 181 = .ok (.ireturn, 1) := by decide +kernel
theorem dX7_foresee_0 : decode cX7_foresee 0 = .ok (.aload_n 0, 1) := by decide +kernel
theorem dX7_foresee_1 : decode cX7_foresee 1 = .ok (.iload_n 1, 1) := by decide +kernel
theorem dX7_foresee_2 : decode cX7_foresee 2 = .ok (.invokevirtual 102, 3) := by decide +kernel
theorem dX7_foresee_5 : decode cX7_foresee 5 = .ok (.ifCond .ne 6, 3) := by decide +kernel
theorem dX7_foresee_8 : decode cX7_foresee 8 = .ok (.ldc 33, 2) := by decide +kernel
theorem dX7_foresee_10 : decode cX7_foresee 10 = .ok (.ireturn, 1) := by decide +kernel
theorem dX7_foresee_11 : decode cX7_foresee 11 = .ok (.aload_n 0, 1) := by decide +kernel
theorem dX7_foresee_12 : decode cX7_foresee 12 = .ok (.iload_n 1, 1) := by decide +kernel
theorem dX7_foresee_13 : decode cX7_foresee 13 = .ok (.iconst 3, 1) := by decide +kernel
theorem dX7_foresee_14 : decode cX7_foresee 14 = .ok (.invokevirtual 38, 3) := by decide +kernel
theorem dX7_foresee_17 : decode cX7_foresee 17 = .ok (.iconst 1, 1) := by decide +kernel
theorem dX7_foresee_18 : decode cX7_foresee 18 = .ok (.if_icmp .le 6, 3) := by decide +kernel
theorem dX7_foresee_21 : decode cX7_foresee 21 = .ok (.ldc 105, 2) := by decide +kernel
theorem dX7_foresee_23 : decode cX7_foresee 23 = .ok (.ireturn, 1) := by decide +kernel
theorem dX7_foresee_24 : decode cX7_foresee 24 = .ok (.aload_n 0, 1) := by decide +kernel
theorem dX7_foresee_25 : decode cX7_foresee 25 = .ok (.invokevirtual 165, 3) := by decide +kernel
theorem dX7_foresee_28 : decode cX7_foresee 28 = .ok (.iconst 0, 1) := by decide +kernel
theorem dX7_foresee_29 : decode cX7_foresee 29 = .ok (.istore_n 2, 1) := by decide +kernel
theorem dX7_foresee_30 : decode cX7_foresee 30 = .ok (.iload_n 2, 1) := by decide +kernel
theorem dX7_foresee_31 : decode cX7_foresee 31 = .ok (.sipush 1000, 3) := by decide +kernel
theorem dX7_foresee_34 : decode cX7_foresee 34 = .ok (.if_icmp .ge 23, 3) := by decide +kernel
theorem dX7_foresee_37 : decode cX7_foresee 37 = .ok (.aload_n 0, 1) := by decide +kernel
theorem dX7_foresee_38 : decode cX7_foresee 38 = .ok (.iload_n 1, 1) := by decide +kernel
theorem dX7_foresee_39 : decode cX7_foresee 39 = .ok (.iconst 3, 1) := by decide +kernel
theorem dX7_foresee_40 : decode cX7_foresee 40 = .ok (.invokevirtual 38, 3) := by decide +kernel
theorem dX7_foresee_43 : decode cX7_foresee 43 = .ok (.iconst 2, 1) := by decide +kernel
theorem dX7_foresee_44 : decode cX7_foresee 44 = .ok (.if_icmp .ge 13, 3) := by decide +kernel
theorem dX7_foresee_47 : decode cX7_foresee 47 = .ok (.aload_n 0, 1) := by decide +kernel
theorem dX7_foresee_48 : decode cX7_foresee 48 = .ok (.invokevirtual 162, 3) := by decide +kernel
theorem dX7_foresee_51 : decode cX7_foresee 51 = .ok (.iinc 2 1, 3) := by decide +kernel
theorem dX7_foresee_54 : decode cX7_foresee 54 = .ok (.goto (-24), 3) := by decide +kernel
theorem dX7_foresee_57 : decode cX7_foresee 57 = .ok (.aload_n 0, 1) := by decide +kernel
theorem dX7_foresee_58 : decode cX7_foresee 58 = .ok (.iload_n 1, 1) := by decide +kernel
theorem dX7_foresee_59 : decode cX7_foresee 59 = .ok (.iconst 3, 1) := by decide +kernel
theorem dX7_foresee_60 : decode cX7_foresee 60 = .ok (.invokevirtual 38, 3) := by decide +kernel
theorem dX7_foresee_63 : decode cX7_foresee 63 = .ok (.iconst 2, 1) := by decide +kernel
theorem dX7_foresee_64 : decode cX7_foresee 64 = .ok (.if_icmp .ne 7, 3) := by decide +kernel
theorem dX7_foresee_67 : decode cX7_foresee 67 = .ok (.iload_n 2, 1) := by decide +kernel
theorem dX7_foresee_68 : decode cX7_foresee 68 = .ok (.goto 5, 3) := by decide +kernel
theorem dX7_foresee_71 : decode cX7_foresee 71 = .ok (.ldc 151, 2) := by decide +kernel
theorem dX7_foresee_73 : decode cX7_foresee 73 = .ok (.istore_n 3, 1) := by decide +kernel
theorem dX7_foresee_74 : decode cX7_foresee 74 = .ok (.aload_n 0, 1) := by decide +kernel
theorem dX7_foresee_75 : decode cX7_foresee 75 = .ok (.invokevirtual 168, 3) := by decide +kernel
theorem dX7_foresee_78 : decode cX7_foresee 78 = .ok (.iload_n 3, 1) := by decide +kernel
theorem dX7_foresee_79 : decode cX7_foresee 79 = .ok (.ireturn, 1) := by decide +kernel
theorem dX7_bestGate_0 : decode cX7_bestGate 0 = .ok (.iload_n 1, 1) := by decide +kernel
theorem dX7_bestGate_1 : decode cX7_bestGate 1 = .ok (.iconst 1, 1) := by decide +kernel
theorem dX7_bestGate_2 : decode cX7_bestGate 2 = .ok (.sipush 200, 3) := by decide +kernel
theorem dX7_bestGate_5 : decode cX7_bestGate 5 = .ok (.invokestatic 29, 3) := by decide +kernel
theorem dX7_bestGate_8 : decode cX7_bestGate 8 = .ok (.ifCond .ne 6, 3) := by decide +kernel
theorem dX7_bestGate_11 : decode cX7_bestGate 11 = .ok (.ldc 33, 2) := by decide +kernel
theorem dX7_bestGate_13 : decode cX7_bestGate 13 = .ok (.ireturn, 1) := by decide +kernel
theorem dX7_bestGate_14 : decode cX7_bestGate 14 = .ok (.aload_n 0, 1) := by decide +kernel
theorem dX7_bestGate_15 : decode cX7_bestGate 15 = .ok (.invokevirtual 165, 3) := by decide +kernel
theorem dX7_bestGate_18 : decode cX7_bestGate 18 = .ok (.iconst 0, 1) := by decide +kernel
theorem dX7_bestGate_19 : decode cX7_bestGate 19 = .ok (.istore_n 2, 1) := by decide +kernel
theorem dX7_bestGate_20 : decode cX7_bestGate 20 = .ok (.iconst (-1), 1) := by decide +kernel
theorem dX7_bestGate_21 : decode cX7_bestGate 21 = .ok (.istore_n 3, 1) := by decide +kernel
theorem dX7_bestGate_22 : decode cX7_bestGate 22 = .ok (.iconst 0, 1) := by decide +kernel
theorem dX7_bestGate_23 : decode cX7_bestGate 23 = .ok (.istore 4, 2) := by decide +kernel
theorem dX7_bestGate_25 : decode cX7_bestGate 25 = .ok (.iload 4, 2) := by decide +kernel
theorem dX7_bestGate_27 : decode cX7_bestGate 27 = .ok (.iconst 4, 1) := by decide +kernel
theorem dX7_bestGate_28 : decode cX7_bestGate 28 = .ok (.if_icmp .ge 82, 3) := by decide +kernel
theorem dX7_bestGate_31 : decode cX7_bestGate 31 = .ok (.aload_n 0, 1) := by decide +kernel
theorem dX7_bestGate_32 : decode cX7_bestGate 32 = .ok (.invokevirtual 168, 3) := by decide +kernel
theorem dX7_bestGate_35 : decode cX7_bestGate 35 = .ok (.aload_n 0, 1) := by decide +kernel
theorem dX7_bestGate_36 : decode cX7_bestGate 36 = .ok (.getfield 7, 3) := by decide +kernel
theorem dX7_bestGate_39 : decode cX7_bestGate 39 = .ok (.bipush 18, 2) := by decide +kernel
theorem dX7_bestGate_41 : decode cX7_bestGate 41 = .ok (.iload 4, 2) := by decide +kernel
theorem dX7_bestGate_43 : decode cX7_bestGate 43 = .ok (.iastore, 1) := by decide +kernel
theorem dX7_bestGate_44 : decode cX7_bestGate 44 = .ok (.iconst 0, 1) := by decide +kernel
theorem dX7_bestGate_45 : decode cX7_bestGate 45 = .ok (.istore 5, 2) := by decide +kernel
theorem dX7_bestGate_47 : decode cX7_bestGate 47 = .ok (.iload 5, 2) := by decide +kernel
theorem dX7_bestGate_49 : decode cX7_bestGate 49 = .ok (.iload_n 1, 1) := by decide +kernel
theorem dX7_bestGate_50 : decode cX7_bestGate 50 = .ok (.if_icmp .ge 13, 3) := by decide +kernel
theorem dX7_bestGate_53 : decode cX7_bestGate 53 = .ok (.aload_n 0, 1) := by decide +kernel
theorem dX7_bestGate_54 : decode cX7_bestGate 54 = .ok (.invokevirtual 162, 3) := by decide +kernel
theorem dX7_bestGate_57 : decode cX7_bestGate 57 = .ok (.iinc 5 1, 3) := by decide +kernel
theorem dX7_bestGate_60 : decode cX7_bestGate 60 = .ok (.goto (-13), 3) := by decide +kernel
theorem dX7_bestGate_63 : decode cX7_bestGate 63 = .ok (.aload_n 0, 1) := by decide +kernel
theorem dX7_bestGate_64 : decode cX7_bestGate 64 = .ok (.getfield 7, 3) := by decide +kernel
theorem dX7_bestGate_67 : decode cX7_bestGate 67 = .ok (.bipush 23, 2) := by decide +kernel
theorem dX7_bestGate_69 : decode cX7_bestGate 69 = .ok (.iaload, 1) := by decide +kernel
theorem dX7_bestGate_70 : decode cX7_bestGate 70 = .ok (.iload_n 3, 1) := by decide +kernel
theorem dX7_bestGate_71 : decode cX7_bestGate 71 = .ok (.if_icmp .le 8, 3) := by decide +kernel
theorem dX7_bestGate_74 : decode cX7_bestGate 74 = .ok (.iload 4, 2) := by decide +kernel
theorem dX7_bestGate_76 : decode cX7_bestGate 76 = .ok (.goto 4, 3) := by decide +kernel
theorem dX7_bestGate_79 : decode cX7_bestGate 79 = .ok (.iload_n 2, 1) := by decide +kernel
theorem dX7_bestGate_80 : decode cX7_bestGate 80 = .ok (.istore_n 2, 1) := by decide +kernel
theorem dX7_bestGate_81 : decode cX7_bestGate 81 = .ok (.aload_n 0, 1) := by decide +kernel
theorem dX7_bestGate_82 : decode cX7_bestGate 82 = .ok (.getfield 7, 3) := by decide +kernel
theorem dX7_bestGate_85 : decode cX7_bestGate 85 = .ok (.bipush 23, 2) := by decide +kernel
theorem dX7_bestGate_87 : decode cX7_bestGate 87 = .ok (.iaload, 1) := by decide +kernel
theorem dX7_bestGate_88 : decode cX7_bestGate 88 = .ok (.iload_n 3, 1) := by decide +kernel
theorem dX7_bestGate_89 : decode cX7_bestGate 89 = .ok (.if_icmp .le 13, 3) := by decide +kernel
theorem dX7_bestGate_92 : decode cX7_bestGate 92 = .ok (.aload_n 0, 1) := by decide +kernel
theorem dX7_bestGate_93 : decode cX7_bestGate 93 = .ok (.getfield 7, 3) := by decide +kernel
theorem dX7_bestGate_96 : decode cX7_bestGate 96 = .ok (.bipush 23, 2) := by decide +kernel
theorem dX7_bestGate_98 : decode cX7_bestGate 98 = .ok (.iaload, 1) := by decide +kernel
theorem dX7_bestGate_99 : decode cX7_bestGate 99 = .ok (.goto 4, 3) := by decide +kernel
theorem dX7_bestGate_102 : decode cX7_bestGate 102 = .ok (.iload_n 3, 1) := by decide +kernel
theorem dX7_bestGate_103 : decode cX7_bestGate 103 = .ok (.istore_n 3, 1) := by decide +kernel
theorem dX7_bestGate_104 : decode cX7_bestGate 104 = .ok (.iinc 4 1, 3) := by decide +kernel
theorem dX7_bestGate_107 : decode cX7_bestGate 107 = .ok (.goto (-82), 3) := by decide +kernel
theorem dX7_bestGate_110 : decode cX7_bestGate 110 = .ok (.aload_n 0, 1) := by decide +kernel
theorem dX7_bestGate_111 : decode cX7_bestGate 111 = .ok (.invokevirtual 168, 3) := by decide +kernel
theorem dX7_bestGate_114 : decode cX7_bestGate 114 = .ok (.iload_n 2, 1) := by decide +kernel
theorem dX7_bestGate_115 : decode cX7_bestGate 115 = .ok (.ireturn, 1) := by decide +kernel
theorem dX7_count_0 : decode cX7_count 0 = .ok (.iload_n 1, 1) := by decide +kernel
theorem dX7_count_1 : decode cX7_count 1 = .ok (.tableswitch 120 0 10 #[59, 59, 59, 69, 75, 75, 83, 91, 99, 110, 115], 59) := by decide +kernel
theorem dX7_count_60 : decode cX7_count 60 = .ok (.aload_n 0, 1) := by decide +kernel
theorem dX7_count_61 : decode cX7_count 61 = .ok (.getfield 7, 3) := by decide +kernel
theorem dX7_count_64 : decode cX7_count 64 = .ok (.bipush 27, 2) := by decide +kernel
theorem dX7_count_66 : decode cX7_count 66 = .ok (.iload_n 1, 1) := by decide +kernel
theorem dX7_count_67 : decode cX7_count 67 = .ok (.iadd, 1) := by decide +kernel
theorem dX7_count_68 : decode cX7_count 68 = .ok (.iaload, 1) := by decide +kernel
theorem dX7_count_69 : decode cX7_count 69 = .ok (.ireturn, 1) := by decide +kernel
theorem dX7_count_70 : decode cX7_count 70 = .ok (.aload_n 0, 1) := by decide +kernel
theorem dX7_count_71 : decode cX7_count 71 = .ok (.iconst 0, 1) := by decide +kernel
theorem dX7_count_72 : decode cX7_count 72 = .ok (.invokevirtual 72, 3) := by decide +kernel
theorem dX7_count_75 : decode cX7_count 75 = .ok (.ireturn, 1) := by decide +kernel
theorem dX7_count_76 : decode cX7_count 76 = .ok (.aload_n 0, 1) := by decide +kernel
theorem dX7_count_77 : decode cX7_count 77 = .ok (.iload_n 1, 1) := by decide +kernel
theorem dX7_count_78 : decode cX7_count 78 = .ok (.iconst 2, 1) := by decide +kernel
theorem dX7_count_79 : decode cX7_count 79 = .ok (.isub, 1) := by decide +kernel
theorem dX7_count_80 : decode cX7_count 80 = .ok (.invokevirtual 72, 3) := by decide +kernel
theorem dX7_count_83 : decode cX7_count 83 = .ok (.ireturn, 1) := by decide +kernel
theorem dX7_count_84 : decode cX7_count 84 = .ok (.aload_n 0, 1) := by decide +kernel
theorem dX7_count_85 : decode cX7_count 85 = .ok (.iconst (-1), 1) := by decide +kernel
theorem dX7_count_86 : decode cX7_count 86 = .ok (.iconst (-1), 1) := by decide +kernel
theorem dX7_count_87 : decode cX7_count 87 = .ok (.iconst 1, 1) := by decide +kernel
theorem dX7_count_88 : decode cX7_count 88 = .ok (.invokevirtual 144, 3) := by decide +kernel
theorem dX7_count_91 : decode cX7_count 91 = .ok (.ireturn, 1) := by decide +kernel
theorem dX7_count_92 : decode cX7_count 92 = .ok (.aload_n 0, 1) := by decide +kernel
theorem dX7_count_93 : decode cX7_count 93 = .ok (.getfield 7, 3) := by decide +kernel
theorem dX7_count_96 : decode cX7_count 96 = .ok (.bipush 26, 2) := by decide +kernel
theorem dX7_count_98 : decode cX7_count 98 = .ok (.iaload, 1) := by decide +kernel
theorem dX7_count_99 : decode cX7_count 99 = .ok (.ireturn, 1) := by decide +kernel
theorem dX7_count_100 : decode cX7_count 100 = .ok (.aload_n 0, 1) := by decide +kernel
theorem dX7_count_101 : decode cX7_count 101 = .ok (.getfield 7, 3) := by decide +kernel
theorem dX7_count_104 : decode cX7_count 104 = .ok (.bipush 26, 2) := by decide +kernel
theorem dX7_count_106 : decode cX7_count 106 = .ok (.iaload, 1) := by decide +kernel
theorem dX7_count_107 : decode cX7_count 107 = .ok (.bipush 96, 2) := by decide +kernel
theorem dX7_count_109 : decode cX7_count 109 = .ok (.idiv, 1) := by decide +kernel
theorem dX7_count_110 : decode cX7_count 110 = .ok (.ireturn, 1) := by decide +kernel
theorem dX7_count_111 : decode cX7_count 111 = .ok (.aload_n 0, 1) := by decide +kernel
theorem dX7_count_112 : decode cX7_count 112 = .ok (.getfield 34, 3) := by decide +kernel
theorem dX7_count_115 : decode cX7_count 115 = .ok (.ireturn, 1) := by decide +kernel
theorem dX7_count_116 : decode cX7_count 116 = .ok (.aload_n 0, 1) := by decide +kernel
theorem dX7_count_117 : decode cX7_count 117 = .ok (.getfield 171, 3) := by decide +kernel
theorem dX7_count_120 : decode cX7_count 120 = .ok (.ireturn, 1) := by decide +kernel
theorem dX7_count_121 : decode cX7_count 121 = .ok (.iload_n 1, 1) := by decide +kernel
theorem dX7_count_122 : decode cX7_count 122 = .ok (.bipush 20, 2) := by decide +kernel
theorem dX7_count_124 : decode cX7_count 124 = .ok (.bipush 32, 2) := by decide +kernel
theorem dX7_count_126 : decode cX7_count 126 = .ok (.invokestatic 29, 3) := by decide +kernel
theorem dX7_count_129 : decode cX7_count 129 = .ok (.ifCond .eq 15, 3) := by decide +kernel
theorem dX7_count_132 : decode cX7_count 132 = .ok (.aload_n 0, 1) := by decide +kernel
theorem dX7_count_133 : decode cX7_count 133 = .ok (.getfield 7, 3) := by decide +kernel
theorem dX7_count_136 : decode cX7_count 136 = .ok (.iload_n 1, 1) := by decide +kernel
theorem dX7_count_137 : decode cX7_count 137 = .ok (.bipush 20, 2) := by decide +kernel
theorem dX7_count_139 : decode cX7_count 139 = .ok (.isub, 1) := by decide +kernel
theorem dX7_count_140 : decode cX7_count 140 = .ok (.iaload, 1) := by decide +kernel
theorem dX7_count_141 : decode cX7_count 141 = .ok (.goto 5, 3) := by decide +kernel
theorem dX7_count_144 : decode cX7_count 144 = .ok (.ldc 33, 2) := by decide +kernel
theorem dX7_count_146 : decode cX7_count 146 = .ok (.ireturn, 1) := by decide +kernel
theorem dX7_undo_0 : decode cX7_undo 0 = .ok (.aload_n 0, 1) := by decide +kernel
theorem dX7_undo_1 : decode cX7_undo 1 = .ok (.getfield 34, 3) := by decide +kernel
theorem dX7_undo_4 : decode cX7_undo 4 = .ok (.ifCond .ne 6, 3) := by decide +kernel
theorem dX7_undo_7 : decode cX7_undo 7 = .ok (.ldc 105, 2) := by decide +kernel
theorem dX7_undo_9 : decode cX7_undo 9 = .ok (.ireturn, 1) := by decide +kernel
theorem dX7_undo_10 : decode cX7_undo 10 = .ok (.aload_n 0, 1) := by decide +kernel
theorem dX7_undo_11 : decode cX7_undo 11 = .ok (.dup, 1) := by decide +kernel
theorem dX7_undo_12 : decode cX7_undo 12 = .ok (.getfield 34, 3) := by decide +kernel
theorem dX7_undo_15 : decode cX7_undo 15 = .ok (.iconst 1, 1) := by decide +kernel
theorem dX7_undo_16 : decode cX7_undo 16 = .ok (.isub, 1) := by decide +kernel
theorem dX7_undo_17 : decode cX7_undo 17 = .ok (.putfield 34, 3) := by decide +kernel
theorem dX7_undo_20 : decode cX7_undo 20 = .ok (.iconst 0, 1) := by decide +kernel
theorem dX7_undo_21 : decode cX7_undo 21 = .ok (.istore_n 1, 1) := by decide +kernel
theorem dX7_undo_22 : decode cX7_undo 22 = .ok (.iload_n 1, 1) := by decide +kernel
theorem dX7_undo_23 : decode cX7_undo 23 = .ok (.sipush 368, 3) := by decide +kernel
theorem dX7_undo_26 : decode cX7_undo 26 = .ok (.if_icmp .ge 30, 3) := by decide +kernel
theorem dX7_undo_29 : decode cX7_undo 29 = .ok (.aload_n 0, 1) := by decide +kernel
theorem dX7_undo_30 : decode cX7_undo 30 = .ok (.getfield 7, 3) := by decide +kernel
theorem dX7_undo_33 : decode cX7_undo 33 = .ok (.iload_n 1, 1) := by decide +kernel
theorem dX7_undo_34 : decode cX7_undo 34 = .ok (.aload_n 0, 1) := by decide +kernel
theorem dX7_undo_35 : decode cX7_undo 35 = .ok (.getfield 13, 3) := by decide +kernel
theorem dX7_undo_38 : decode cX7_undo 38 = .ok (.sipush 368, 3) := by decide +kernel
theorem dX7_undo_41 : decode cX7_undo 41 = .ok (.aload_n 0, 1) := by decide +kernel
theorem dX7_undo_42 : decode cX7_undo 42 = .ok (.getfield 34, 3) := by decide +kernel
theorem dX7_undo_45 : decode cX7_undo 45 = .ok (.imul, 1) := by decide +kernel
theorem dX7_undo_46 : decode cX7_undo 46 = .ok (.iload_n 1, 1) := by decide +kernel
theorem dX7_undo_47 : decode cX7_undo 47 = .ok (.iadd, 1) := by decide +kernel
theorem dX7_undo_48 : decode cX7_undo 48 = .ok (.iaload, 1) := by decide +kernel
theorem dX7_undo_49 : decode cX7_undo 49 = .ok (.iastore, 1) := by decide +kernel
theorem dX7_undo_50 : decode cX7_undo 50 = .ok (.iinc 1 1, 3) := by decide +kernel
theorem dX7_undo_53 : decode cX7_undo 53 = .ok (.goto (-31), 3) := by decide +kernel
theorem dX7_undo_56 : decode cX7_undo 56 = .ok (.aload_n 0, 1) := by decide +kernel
theorem dX7_undo_57 : decode cX7_undo 57 = .ok (.getfield 34, 3) := by decide +kernel
theorem dX7_undo_60 : decode cX7_undo 60 = .ok (.ireturn, 1) := by decide +kernel
theorem dX7_type_0 : decode cX7_type 0 = .ok (.iload_n 1, 1) := by decide +kernel
theorem dX7_type_1 : decode cX7_type 1 = .ok (.bipush 32, 2) := by decide +kernel
theorem dX7_type_3 : decode cX7_type 3 = .ok (.bipush 126, 2) := by decide +kernel
theorem dX7_type_5 : decode cX7_type 5 = .ok (.invokestatic 29, 3) := by decide +kernel
theorem dX7_type_8 : decode cX7_type 8 = .ok (.ifCond .ne 6, 3) := by decide +kernel
theorem dX7_type_11 : decode cX7_type 11 = .ok (.ldc 33, 2) := by decide +kernel
theorem dX7_type_13 : decode cX7_type 13 = .ok (.ireturn, 1) := by decide +kernel
theorem dX7_type_14 : decode cX7_type 14 = .ok (.aload_n 0, 1) := by decide +kernel
theorem dX7_type_15 : decode cX7_type 15 = .ok (.getfield 171, 3) := by decide +kernel
theorem dX7_type_18 : decode cX7_type 18 = .ok (.bipush 60, 2) := by decide +kernel
theorem dX7_type_20 : decode cX7_type 20 = .ok (.if_icmp .ne 6, 3) := by decide +kernel
theorem dX7_type_23 : decode cX7_type 23 = .ok (.ldc 101, 2) := by decide +kernel
theorem dX7_type_25 : decode cX7_type 25 = .ok (.ireturn, 1) := by decide +kernel
theorem dX7_type_26 : decode cX7_type 26 = .ok (.aload_n 0, 1) := by decide +kernel
theorem dX7_type_27 : decode cX7_type 27 = .ok (.getfield 22, 3) := by decide +kernel
theorem dX7_type_30 : decode cX7_type 30 = .ok (.aload_n 0, 1) := by decide +kernel
theorem dX7_type_31 : decode cX7_type 31 = .ok (.getfield 171, 3) := by decide +kernel
theorem dX7_type_34 : decode cX7_type 34 = .ok (.iload_n 1, 1) := by decide +kernel
theorem dX7_type_35 : decode cX7_type 35 = .ok (.i2c, 1) := by decide +kernel
theorem dX7_type_36 : decode cX7_type 36 = .ok (.castore, 1) := by decide +kernel
theorem dX7_type_37 : decode cX7_type 37 = .ok (.aload_n 0, 1) := by decide +kernel
theorem dX7_type_38 : decode cX7_type 38 = .ok (.dup, 1) := by decide +kernel
theorem dX7_type_39 : decode cX7_type 39 = .ok (.getfield 171, 3) := by decide +kernel
theorem dX7_type_42 : decode cX7_type 42 = .ok (.iconst 1, 1) := by decide +kernel
theorem dX7_type_43 : decode cX7_type 43 = .ok (.iadd, 1) := by decide +kernel
theorem dX7_type_44 : decode cX7_type 44 = .ok (.putfield 171, 3) := by decide +kernel
theorem dX7_type_47 : decode cX7_type 47 = .ok (.aload_n 0, 1) := by decide +kernel
theorem dX7_type_48 : decode cX7_type 48 = .ok (.getfield 171, 3) := by decide +kernel
theorem dX7_type_51 : decode cX7_type 51 = .ok (.ireturn, 1) := by decide +kernel
theorem dX7_clearText_0 : decode cX7_clearText 0 = .ok (.aload_n 0, 1) := by decide +kernel
theorem dX7_clearText_1 : decode cX7_clearText 1 = .ok (.getfield 171, 3) := by decide +kernel
theorem dX7_clearText_4 : decode cX7_clearText 4 = .ok (.istore_n 1, 1) := by decide +kernel
theorem dX7_clearText_5 : decode cX7_clearText 5 = .ok (.aload_n 0, 1) := by decide +kernel
theorem dX7_clearText_6 : decode cX7_clearText 6 = .ok (.iconst 0, 1) := by decide +kernel
theorem dX7_clearText_7 : decode cX7_clearText 7 = .ok (.putfield 171, 3) := by decide +kernel
theorem dX7_clearText_10 : decode cX7_clearText 10 = .ok (.iload_n 1, 1) := by decide +kernel
theorem dX7_clearText_11 : decode cX7_clearText 11 = .ok (.ireturn, 1) := by decide +kernel
theorem dX7_passes_0 : decode cX7_passes 0 = .ok (.aload_n 0, 1) := by decide +kernel
theorem dX7_passes_1 : decode cX7_passes 1 = .ok (.getfield 174, 3) := by decide +kernel
theorem dX7_passes_4 : decode cX7_passes 4 = .ok (.aload_n 0, 1) := by decide +kernel
theorem dX7_passes_5 : decode cX7_passes 5 = .ok (.getfield 171, 3) := by decide +kernel
theorem dX7_passes_8 : decode cX7_passes 8 = .ok (.if_icmp .ge 20, 3) := by decide +kernel
theorem dX7_passes_11 : decode cX7_passes 11 = .ok (.aload_n 0, 1) := by decide +kernel
theorem dX7_passes_12 : decode cX7_passes 12 = .ok (.getfield 22, 3) := by decide +kernel
theorem dX7_passes_15 : decode cX7_passes 15 = .ok (.aload_n 0, 1) := by decide +kernel
theorem dX7_passes_16 : decode cX7_passes 16 = .ok (.getfield 174, 3) := by decide +kernel
theorem dX7_passes_19 : decode cX7_passes 19 = .ok (.caload, 1) := by decide +kernel
theorem dX7_passes_20 : decode cX7_passes 20 = .ok (.iload_n 1, 1) := by decide +kernel
theorem dX7_passes_21 : decode cX7_passes 21 = .ok (.if_icmp .ne 7, 3) := by decide +kernel
theorem dX7_passes_24 : decode cX7_passes 24 = .ok (.iconst 1, 1) := by decide +kernel
theorem dX7_passes_25 : decode cX7_passes 25 = .ok (.goto 4, 3) := by decide +kernel
theorem dX7_passes_28 : decode cX7_passes 28 = .ok (.iconst 0, 1) := by decide +kernel
theorem dX7_passes_29 : decode cX7_passes 29 = .ok (.istore_n 2, 1) := by decide +kernel
theorem dX7_passes_30 : decode cX7_passes 30 = .ok (.aload_n 0, 1) := by decide +kernel
theorem dX7_passes_31 : decode cX7_passes 31 = .ok (.dup, 1) := by decide +kernel
theorem dX7_passes_32 : decode cX7_passes 32 = .ok (.getfield 174, 3) := by decide +kernel
theorem dX7_passes_35 : decode cX7_passes 35 = .ok (.iload_n 2, 1) := by decide +kernel
theorem dX7_passes_36 : decode cX7_passes 36 = .ok (.ifCond .eq 7, 3) := by decide +kernel
theorem dX7_passes_39 : decode cX7_passes 39 = .ok (.iconst 1, 1) := by decide +kernel
theorem dX7_passes_40 : decode cX7_passes 40 = .ok (.goto 4, 3) := by decide +kernel
theorem dX7_passes_43 : decode cX7_passes 43 = .ok (.iconst 0, 1) := by decide +kernel
theorem dX7_passes_44 : decode cX7_passes 44 = .ok (.iadd, 1) := by decide +kernel
theorem dX7_passes_45 : decode cX7_passes 45 = .ok (.putfield 174, 3) := by decide +kernel
theorem dX7_passes_48 : decode cX7_passes 48 = .ok (.iload_n 2, 1) := by decide +kernel
theorem dX7_passes_49 : decode cX7_passes 49 = .ok (.ireturn, 1) := by decide +kernel
theorem dX7_takes_0 : decode cX7_takes 0 = .ok (.aload_n 0, 1) := by decide +kernel
theorem dX7_takes_1 : decode cX7_takes 1 = .ok (.getfield 174, 3) := by decide +kernel
theorem dX7_takes_4 : decode cX7_takes 4 = .ok (.istore_n 2, 1) := by decide +kernel
theorem dX7_takes_5 : decode cX7_takes 5 = .ok (.aload_n 0, 1) := by decide +kernel
theorem dX7_takes_6 : decode cX7_takes 6 = .ok (.getfield 26, 3) := by decide +kernel
theorem dX7_takes_9 : decode cX7_takes 9 = .ok (.iload_n 1, 1) := by decide +kernel
theorem dX7_takes_10 : decode cX7_takes 10 = .ok (.iconst 0, 1) := by decide +kernel
theorem dX7_takes_11 : decode cX7_takes 11 = .ok (.iastore, 1) := by decide +kernel
theorem dX7_takes_12 : decode cX7_takes 12 = .ok (.aload_n 0, 1) := by decide +kernel
theorem dX7_takes_13 : decode cX7_takes 13 = .ok (.getfield 174, 3) := by decide +kernel
theorem dX7_takes_16 : decode cX7_takes 16 = .ok (.aload_n 0, 1) := by decide +kernel
theorem dX7_takes_17 : decode cX7_takes 17 = .ok (.getfield 171, 3) := by decide +kernel
theorem dX7_takes_20 : decode cX7_takes 20 = .ok (.if_icmp .ge 73, 3) := by decide +kernel
theorem dX7_takes_23 : decode cX7_takes 23 = .ok (.aload_n 0, 1) := by decide +kernel
theorem dX7_takes_24 : decode cX7_takes 24 = .ok (.getfield 174, 3) := by decide +kernel
theorem dX7_takes_27 : decode cX7_takes 27 = .ok (.iload_n 2, 1) := by decide +kernel
theorem dX7_takes_28 : decode cX7_takes 28 = .ok (.iconst 3, 1) := by decide +kernel
theorem dX7_takes_29 : decode cX7_takes 29 = .ok (.iadd, 1) := by decide +kernel
theorem dX7_takes_30 : decode cX7_takes 30 = .ok (.if_icmp .ge 63, 3) := by decide +kernel
theorem dX7_takes_33 : decode cX7_takes 33 = .ok (.aload_n 0, 1) := by decide +kernel
theorem dX7_takes_34 : decode cX7_takes 34 = .ok (.getfield 22, 3) := by decide +kernel
theorem dX7_takes_37 : decode cX7_takes 37 = .ok (.aload_n 0, 1) := by decide +kernel
theorem dX7_takes_38 : decode cX7_takes 38 = .ok (.getfield 174, 3) := by decide +kernel
theorem dX7_takes_41 : decode cX7_takes 41 = .ok (.caload, 1) := by decide +kernel
theorem dX7_takes_42 : decode cX7_takes 42 = .ok (.bipush 48, 2) := by decide +kernel
theorem dX7_takes_44 : decode cX7_takes 44 = .ok (.bipush 57, 2) := by decide +kernel
theorem dX7_takes_46 : decode cX7_takes 46 = .ok (.invokestatic 29, 3) := by decide +kernel
theorem dX7_takes_49 : decode cX7_takes 49 = .ok (.ifCond .eq 44, 3) := by decide +kernel
theorem dX7_takes_52 : decode cX7_takes 52 = .ok (.aload_n 0, 1) := by decide +kernel
theorem dX7_takes_53 : decode cX7_takes 53 = .ok (.getfield 26, 3) := by decide +kernel
theorem dX7_takes_56 : decode cX7_takes 56 = .ok (.iload_n 1, 1) := by decide +kernel
theorem dX7_takes_57 : decode cX7_takes 57 = .ok (.bipush 10, 2) := by decide +kernel
theorem dX7_takes_59 : decode cX7_takes 59 = .ok (.aload_n 0, 1) := by decide +kernel
theorem dX7_takes_60 : decode cX7_takes 60 = .ok (.getfield 26, 3) := by decide +kernel
theorem dX7_takes_63 : decode cX7_takes 63 = .ok (.iload_n 1, 1) := by decide +kernel
theorem dX7_takes_64 : decode cX7_takes 64 = .ok (.iaload, 1) := by decide +kernel
theorem dX7_takes_65 : decode cX7_takes 65 = .ok (.imul, 1) := by decide +kernel
theorem dX7_takes_66 : decode cX7_takes 66 = .ok (.aload_n 0, 1) := by decide +kernel
theorem dX7_takes_67 : decode cX7_takes 67 = .ok (.getfield 22, 3) := by decide +kernel
theorem dX7_takes_70 : decode cX7_takes 70 = .ok (.aload_n 0, 1) := by decide +kernel
theorem dX7_takes_71 : decode cX7_takes 71 = .ok (.getfield 174, 3) := by decide +kernel
theorem dX7_takes_74 : decode cX7_takes 74 = .ok (.caload, 1) := by decide +kernel
theorem dX7_takes_75 : decode cX7_takes 75 = .ok (.iadd, 1) := by decide +kernel
theorem dX7_takes_76 : decode cX7_takes 76 = .ok (.bipush 48, 2) := by decide +kernel
theorem dX7_takes_78 : decode cX7_takes 78 = .ok (.isub, 1) := by decide +kernel
theorem dX7_takes_79 : decode cX7_takes 79 = .ok (.iastore, 1) := by decide +kernel
theorem dX7_takes_80 : decode cX7_takes 80 = .ok (.aload_n 0, 1) := by decide +kernel
theorem dX7_takes_81 : decode cX7_takes 81 = .ok (.dup, 1) := by decide +kernel
theorem dX7_takes_82 : decode cX7_takes 82 = .ok (.getfield 174, 3) := by decide +kernel
theorem dX7_takes_85 : decode cX7_takes 85 = .ok (.iconst 1, 1) := by decide +kernel
theorem dX7_takes_86 : decode cX7_takes 86 = .ok (.iadd, 1) := by decide +kernel
theorem dX7_takes_87 : decode cX7_takes 87 = .ok (.putfield 174, 3) := by decide +kernel
theorem dX7_takes_90 : decode cX7_takes 90 = .ok (.goto (-78), 3) := by decide +kernel
theorem dX7_takes_93 : decode cX7_takes 93 = .ok (.aload_n 0, 1) := by decide +kernel
theorem dX7_takes_94 : decode cX7_takes 94 = .ok (.getfield 174, 3) := by decide +kernel
theorem dX7_takes_97 : decode cX7_takes 97 = .ok (.iload_n 2, 1) := by decide +kernel
theorem dX7_takes_98 : decode cX7_takes 98 = .ok (.if_icmp .le 7, 3) := by decide +kernel
theorem dX7_takes_101 : decode cX7_takes 101 = .ok (.iconst 1, 1) := by decide +kernel
theorem dX7_takes_102 : decode cX7_takes 102 = .ok (.goto 4, 3) := by decide +kernel
theorem dX7_takes_105 : decode cX7_takes 105 = .ok (.iconst 0, 1) := by decide +kernel
theorem dX7_takes_106 : decode cX7_takes 106 = .ok (.ireturn, 1) := by decide +kernel
theorem dX7_numbers_0 : decode cX7_numbers 0 = .ok (.iload_n 0, 1) := by decide +kernel
theorem dX7_numbers_1 : decode cX7_numbers 1 = .ok (.bipush 98, 2) := by decide +kernel
theorem dX7_numbers_3 : decode cX7_numbers 3 = .ok (.if_icmp .ne 7, 3) := by decide +kernel
theorem dX7_numbers_6 : decode cX7_numbers 6 = .ok (.iconst 3, 1) := by decide +kernel
theorem dX7_numbers_7 : decode cX7_numbers 7 = .ok (.goto 36, 3) := by decide +kernel
theorem dX7_numbers_10 : decode cX7_numbers 10 = .ok (.iload_n 0, 1) := by decide +kernel
theorem dX7_numbers_11 : decode cX7_numbers 11 = .ok (.bipush 112, 2) := by decide +kernel
theorem dX7_numbers_13 : decode cX7_numbers 13 = .ok (.if_icmp .ne 7, 3) := by decide +kernel
theorem dX7_numbers_16 : decode cX7_numbers 16 = .ok (.iconst 2, 1) := by decide +kernel
theorem dX7_numbers_17 : decode cX7_numbers 17 = .ok (.goto 26, 3) := by decide +kernel
theorem dX7_numbers_20 : decode cX7_numbers 20 = .ok (.iload_n 0, 1) := by decide +kernel
theorem dX7_numbers_21 : decode cX7_numbers 21 = .ok (.bipush 102, 2) := by decide +kernel
theorem dX7_numbers_23 : decode cX7_numbers 23 = .ok (.if_icmp .eq 15, 3) := by decide +kernel
theorem dX7_numbers_26 : decode cX7_numbers 26 = .ok (.iload_n 0, 1) := by decide +kernel
theorem dX7_numbers_27 : decode cX7_numbers 27 = .ok (.bipush 114, 2) := by decide +kernel
theorem dX7_numbers_29 : decode cX7_numbers 29 = .ok (.if_icmp .eq 9, 3) := by decide +kernel
theorem dX7_numbers_32 : decode cX7_numbers 32 = .ok (.iload_n 0, 1) := by decide +kernel
theorem dX7_numbers_33 : decode cX7_numbers 33 = .ok (.bipush 103, 2) := by decide +kernel
theorem dX7_numbers_35 : decode cX7_numbers 35 = .ok (.if_icmp .ne 7, 3) := by decide +kernel
theorem dX7_numbers_38 : decode cX7_numbers 38 = .ok (.iconst 1, 1) := by decide +kernel
theorem dX7_numbers_39 : decode cX7_numbers 39 = .ok (.goto 4, 3) := by decide +kernel
theorem dX7_numbers_42 : decode cX7_numbers 42 = .ok (.iconst 0, 1) := by decide +kernel
theorem dX7_numbers_43 : decode cX7_numbers 43 = .ok (.ireturn, 1) := by decide +kernel
theorem dX7_readsForm_0 : decode cX7_readsForm 0 = .ok (.iload_n 1, 1) := by decide +kernel
theorem dX7_readsForm_1 : decode cX7_readsForm 1 = .ok (.ifCond .le 7, 3) := by decide +kernel
theorem dX7_readsForm_4 : decode cX7_readsForm 4 = .ok (.iconst 1, 1) := by decide +kernel
theorem dX7_readsForm_5 : decode cX7_readsForm 5 = .ok (.goto 4, 3) := by decide +kernel
theorem dX7_readsForm_8 : decode cX7_readsForm 8 = .ok (.iconst 0, 1) := by decide +kernel
theorem dX7_readsForm_9 : decode cX7_readsForm 9 = .ok (.istore_n 2, 1) := by decide +kernel
theorem dX7_readsForm_10 : decode cX7_readsForm 10 = .ok (.iconst 0, 1) := by decide +kernel
theorem dX7_readsForm_11 : decode cX7_readsForm 11 = .ok (.istore_n 3, 1) := by decide +kernel
theorem dX7_readsForm_12 : decode cX7_readsForm 12 = .ok (.iload_n 3, 1) := by decide +kernel
theorem dX7_readsForm_13 : decode cX7_readsForm 13 = .ok (.iload_n 1, 1) := by decide +kernel
theorem dX7_readsForm_14 : decode cX7_readsForm 14 = .ok (.if_icmp .ge 40, 3) := by decide +kernel
theorem dX7_readsForm_17 : decode cX7_readsForm 17 = .ok (.iload_n 2, 1) := by decide +kernel
theorem dX7_readsForm_18 : decode cX7_readsForm 18 = .ok (.ifCond .eq 36, 3) := by decide +kernel
theorem dX7_readsForm_21 : decode cX7_readsForm 21 = .ok (.iload_n 3, 1) := by decide +kernel
theorem dX7_readsForm_22 : decode cX7_readsForm 22 = .ok (.ifCond .eq 12, 3) := by decide +kernel
theorem dX7_readsForm_25 : decode cX7_readsForm 25 = .ok (.aload_n 0, 1) := by decide +kernel
theorem dX7_readsForm_26 : decode cX7_readsForm 26 = .ok (.bipush 44, 2) := by decide +kernel
theorem dX7_readsForm_28 : decode cX7_readsForm 28 = .ok (.invokevirtual 177, 3) := by decide +kernel
theorem dX7_readsForm_31 : decode cX7_readsForm 31 = .ok (.ifCond .eq 15, 3) := by decide +kernel
theorem dX7_readsForm_34 : decode cX7_readsForm 34 = .ok (.aload_n 0, 1) := by decide +kernel
theorem dX7_readsForm_35 : decode cX7_readsForm 35 = .ok (.iload_n 3, 1) := by decide +kernel
theorem dX7_readsForm_36 : decode cX7_readsForm 36 = .ok (.invokevirtual 181, 3) := by decide +kernel
theorem dX7_readsForm_39 : decode cX7_readsForm 39 = .ok (.ifCond .eq 7, 3) := by decide +kernel
theorem dX7_readsForm_42 : decode cX7_readsForm 42 = .ok (.iconst 1, 1) := by decide +kernel
theorem dX7_readsForm_43 : decode cX7_readsForm 43 = .ok (.goto 4, 3) := by decide +kernel
theorem dX7_readsForm_46 : decode cX7_readsForm 46 = .ok (.iconst 0, 1) := by decide +kernel
theorem dX7_readsForm_47 : decode cX7_readsForm 47 = .ok (.istore_n 2, 1) := by decide +kernel
theorem dX7_readsForm_48 : decode cX7_readsForm 48 = .ok (.iinc 3 1, 3) := by decide +kernel
theorem dX7_readsForm_51 : decode cX7_readsForm 51 = .ok (.goto (-39), 3) := by decide +kernel
theorem dX7_readsForm_54 : decode cX7_readsForm 54 = .ok (.iload_n 2, 1) := by decide +kernel
theorem dX7_readsForm_55 : decode cX7_readsForm 55 = .ok (.ifCond .eq 16, 3) := by decide +kernel
theorem dX7_readsForm_58 : decode cX7_readsForm 58 = .ok (.aload_n 0, 1) := by decide +kernel
theorem dX7_readsForm_59 : decode cX7_readsForm 59 = .ok (.bipush 59, 2) := by decide +kernel
theorem dX7_readsForm_61 : decode cX7_readsForm 61 = .ok (.invokevirtual 177, 3) := by decide +kernel
theorem dX7_readsForm_64 : decode cX7_readsForm 64 = .ok (.ifCond .eq 7, 3) := by decide +kernel
theorem dX7_readsForm_67 : decode cX7_readsForm 67 = .ok (.iconst 1, 1) := by decide +kernel
theorem dX7_readsForm_68 : decode cX7_readsForm 68 = .ok (.goto 4, 3) := by decide +kernel
theorem dX7_readsForm_71 : decode cX7_readsForm 71 = .ok (.iconst 0, 1) := by decide +kernel
theorem dX7_readsForm_72 : decode cX7_readsForm 72 = .ok (.ireturn, 1) := by decide +kernel
theorem dX7_does_0 : decode cX7_does 0 = .ok (.iload_n 1, 1) := by decide +kernel
theorem dX7_does_1 : decode cX7_does 1 = .ok (.lookupswitch 105 #[(98, 43), (102, 66), (112, 77), (114, 94)], 43) := by decide +kernel
theorem dX7_does_44 : decode cX7_does 44 = .ok (.aload_n 0, 1) := by decide +kernel
theorem dX7_does_45 : decode cX7_does 45 = .ok (.aload_n 0, 1) := by decide +kernel
theorem dX7_does_46 : decode cX7_does 46 = .ok (.getfield 26, 3) := by decide +kernel
theorem dX7_does_49 : decode cX7_does 49 = .ok (.iconst 0, 1) := by decide +kernel
theorem dX7_does_50 : decode cX7_does 50 = .ok (.iaload, 1) := by decide +kernel
theorem dX7_does_51 : decode cX7_does 51 = .ok (.aload_n 0, 1) := by decide +kernel
theorem dX7_does_52 : decode cX7_does 52 = .ok (.getfield 26, 3) := by decide +kernel
theorem dX7_does_55 : decode cX7_does 55 = .ok (.iconst 1, 1) := by decide +kernel
theorem dX7_does_56 : decode cX7_does 56 = .ok (.iaload, 1) := by decide +kernel
theorem dX7_does_57 : decode cX7_does 57 = .ok (.aload_n 0, 1) := by decide +kernel
theorem dX7_does_58 : decode cX7_does 58 = .ok (.getfield 26, 3) := by decide +kernel
theorem dX7_does_61 : decode cX7_does 61 = .ok (.iconst 2, 1) := by decide +kernel
theorem dX7_does_62 : decode cX7_does 62 = .ok (.iaload, 1) := by decide +kernel
theorem dX7_does_63 : decode cX7_does 63 = .ok (.invokevirtual 134, 3) := by decide +kernel
theorem dX7_does_66 : decode cX7_does 66 = .ok (.ireturn, 1) := by decide +kernel
theorem dX7_does_67 : decode cX7_does 67 = .ok (.aload_n 0, 1) := by decide +kernel
theorem dX7_does_68 : decode cX7_does 68 = .ok (.aload_n 0, 1) := by decide +kernel
theorem dX7_does_69 : decode cX7_does 69 = .ok (.getfield 26, 3) := by decide +kernel
theorem dX7_does_72 : decode cX7_does 72 = .ok (.iconst 0, 1) := by decide +kernel
theorem dX7_does_73 : decode cX7_does 73 = .ok (.iaload, 1) := by decide +kernel
theorem dX7_does_74 : decode cX7_does 74 = .ok (.invokevirtual 138, 3) := by decide +kernel
theorem dX7_does_77 : decode cX7_does 77 = .ok (.ireturn, 1) := by decide +kernel
theorem dX7_does_78 : decode cX7_does 78 = .ok (.aload_n 0, 1) := by decide +kernel
theorem dX7_does_79 : decode cX7_does 79 = .ok (.aload_n 0, 1) := by decide +kernel
theorem dX7_does_80 : decode cX7_does 80 = .ok (.getfield 26, 3) := by decide +kernel
theorem dX7_does_83 : decode cX7_does 83 = .ok (.iconst 0, 1) := by decide +kernel
theorem dX7_does_84 : decode cX7_does 84 = .ok (.iaload, 1) := by decide +kernel
theorem dX7_does_85 : decode cX7_does 85 = .ok (.aload_n 0, 1) := by decide +kernel
theorem dX7_does_86 : decode cX7_does 86 = .ok (.getfield 26, 3) := by decide +kernel
theorem dX7_does_89 : decode cX7_does 89 = .ok (.iconst 1, 1) := by decide +kernel
theorem dX7_does_90 : decode cX7_does 90 = .ok (.iaload, 1) := by decide +kernel
theorem dX7_does_91 : decode cX7_does 91 = .ok (.invokevirtual 153, 3) := by decide +kernel
theorem dX7_does_94 : decode cX7_does 94 = .ok (.ireturn, 1) := by decide +kernel
theorem dX7_does_95 : decode cX7_does 95 = .ok (.aload_n 0, 1) := by decide +kernel
theorem dX7_does_96 : decode cX7_does 96 = .ok (.aload_n 0, 1) := by decide +kernel
theorem dX7_does_97 : decode cX7_does 97 = .ok (.getfield 26, 3) := by decide +kernel
theorem dX7_does_100 : decode cX7_does 100 = .ok (.iconst 0, 1) := by decide +kernel
theorem dX7_does_101 : decode cX7_does 101 = .ok (.iaload, 1) := by decide +kernel
theorem dX7_does_102 : decode cX7_does 102 = .ok (.invokevirtual 156, 3) := by decide +kernel
theorem dX7_does_105 : decode cX7_does 105 = .ok (.ireturn, 1) := by decide +kernel
theorem dX7_does_106 : decode cX7_does 106 = .ok (.aload_n 0, 1) := by decide +kernel
theorem dX7_does_107 : decode cX7_does 107 = .ok (.aload_n 0, 1) := by decide +kernel
theorem dX7_does_108 : decode cX7_does 108 = .ok (.getfield 26, 3) := by decide +kernel
theorem dX7_does_111 : decode cX7_does 111 = .ok (.iconst 0, 1) := by decide +kernel
theorem dX7_does_112 : decode cX7_does 112 = .ok (.iaload, 1) := by decide +kernel
theorem dX7_does_113 : decode cX7_does 113 = .ok (.invokevirtual 130, 3) := by decide +kernel
theorem dX7_does_116 : decode cX7_does 116 = .ok (.ireturn, 1) := by decide +kernel
theorem dX7_doesNext_0 : decode cX7_doesNext 0 = .ok (.aload_n 0, 1) := by decide +kernel
theorem dX7_doesNext_1 : decode cX7_doesNext 1 = .ok (.getfield 22, 3) := by decide +kernel
theorem dX7_doesNext_4 : decode cX7_doesNext 4 = .ok (.aload_n 0, 1) := by decide +kernel
theorem dX7_doesNext_5 : decode cX7_doesNext 5 = .ok (.getfield 174, 3) := by decide +kernel
theorem dX7_doesNext_8 : decode cX7_doesNext 8 = .ok (.caload, 1) := by decide +kernel
theorem dX7_doesNext_9 : decode cX7_doesNext 9 = .ok (.istore_n 1, 1) := by decide +kernel
theorem dX7_doesNext_10 : decode cX7_doesNext 10 = .ok (.aload_n 0, 1) := by decide +kernel
theorem dX7_doesNext_11 : decode cX7_doesNext 11 = .ok (.dup, 1) := by decide +kernel
theorem dX7_doesNext_12 : decode cX7_doesNext 12 = .ok (.getfield 174, 3) := by decide +kernel
theorem dX7_doesNext_15 : decode cX7_doesNext 15 = .ok (.iconst 1, 1) := by decide +kernel
theorem dX7_doesNext_16 : decode cX7_doesNext 16 = .ok (.iadd, 1) := by decide +kernel
theorem dX7_doesNext_17 : decode cX7_doesNext 17 = .ok (.putfield 174, 3) := by decide +kernel
theorem dX7_doesNext_20 : decode cX7_doesNext 20 = .ok (.aload_n 0, 1) := by decide +kernel
theorem dX7_doesNext_21 : decode cX7_doesNext 21 = .ok (.iload_n 1, 1) := by decide +kernel
theorem dX7_doesNext_22 : decode cX7_doesNext 22 = .ok (.invokestatic 184, 3) := by decide +kernel
theorem dX7_doesNext_25 : decode cX7_doesNext 25 = .ok (.invokevirtual 188, 3) := by decide +kernel
theorem dX7_doesNext_28 : decode cX7_doesNext 28 = .ok (.ifCond .ne 5, 3) := by decide +kernel
theorem dX7_doesNext_31 : decode cX7_doesNext 31 = .ok (.iconst 1, 1) := by decide +kernel
theorem dX7_doesNext_32 : decode cX7_doesNext 32 = .ok (.ireturn, 1) := by decide +kernel
theorem dX7_doesNext_33 : decode cX7_doesNext 33 = .ok (.iload_n 1, 1) := by decide +kernel
theorem dX7_doesNext_34 : decode cX7_doesNext 34 = .ok (.bipush 103, 2) := by decide +kernel
theorem dX7_doesNext_36 : decode cX7_doesNext 36 = .ok (.if_icmp .eq 51, 3) := by decide +kernel
theorem dX7_doesNext_39 : decode cX7_doesNext 39 = .ok (.iload_n 1, 1) := by decide +kernel
theorem dX7_doesNext_40 : decode cX7_doesNext 40 = .ok (.bipush 98, 2) := by decide +kernel
theorem dX7_doesNext_42 : decode cX7_doesNext 42 = .ok (.if_icmp .ne 32, 3) := by decide +kernel
theorem dX7_doesNext_45 : decode cX7_doesNext 45 = .ok (.aload_n 0, 1) := by decide +kernel
theorem dX7_doesNext_46 : decode cX7_doesNext 46 = .ok (.aload_n 0, 1) := by decide +kernel
theorem dX7_doesNext_47 : decode cX7_doesNext 47 = .ok (.getfield 26, 3) := by decide +kernel
theorem dX7_doesNext_50 : decode cX7_doesNext 50 = .ok (.iconst 0, 1) := by decide +kernel
theorem dX7_doesNext_51 : decode cX7_doesNext 51 = .ok (.iaload, 1) := by decide +kernel
theorem dX7_doesNext_52 : decode cX7_doesNext 52 = .ok (.invokevirtual 94, 3) := by decide +kernel
theorem dX7_doesNext_55 : decode cX7_doesNext 55 = .ok (.ifCond .eq 36, 3) := by decide +kernel
theorem dX7_doesNext_58 : decode cX7_doesNext 58 = .ok (.aload_n 0, 1) := by decide +kernel
theorem dX7_doesNext_59 : decode cX7_doesNext 59 = .ok (.aload_n 0, 1) := by decide +kernel
theorem dX7_doesNext_60 : decode cX7_doesNext 60 = .ok (.getfield 26, 3) := by decide +kernel
theorem dX7_doesNext_63 : decode cX7_doesNext 63 = .ok (.iconst 1, 1) := by decide +kernel
theorem dX7_doesNext_64 : decode cX7_doesNext 64 = .ok (.iaload, 1) := by decide +kernel
theorem dX7_doesNext_65 : decode cX7_doesNext 65 = .ok (.invokevirtual 98, 3) := by decide +kernel
theorem dX7_doesNext_68 : decode cX7_doesNext 68 = .ok (.ifCond .eq 23, 3) := by decide +kernel
theorem dX7_doesNext_71 : decode cX7_doesNext 71 = .ok (.goto 16, 3) := by decide +kernel
theorem dX7_doesNext_74 : decode cX7_doesNext 74 = .ok (.aload_n 0, 1) := by decide +kernel
theorem dX7_doesNext_75 : decode cX7_doesNext 75 = .ok (.aload_n 0, 1) := by decide +kernel
theorem dX7_doesNext_76 : decode cX7_doesNext 76 = .ok (.getfield 26, 3) := by decide +kernel
theorem dX7_doesNext_79 : decode cX7_doesNext 79 = .ok (.iconst 0, 1) := by decide +kernel
theorem dX7_doesNext_80 : decode cX7_doesNext 80 = .ok (.iaload, 1) := by decide +kernel
theorem dX7_doesNext_81 : decode cX7_doesNext 81 = .ok (.invokevirtual 102, 3) := by decide +kernel
theorem dX7_doesNext_84 : decode cX7_doesNext 84 = .ok (.ifCond .eq 7, 3) := by decide +kernel
theorem dX7_doesNext_87 : decode cX7_doesNext 87 = .ok (.iconst 1, 1) := by decide +kernel
theorem dX7_doesNext_88 : decode cX7_doesNext 88 = .ok (.goto 4, 3) := by decide +kernel
theorem dX7_doesNext_91 : decode cX7_doesNext 91 = .ok (.iconst 0, 1) := by decide +kernel
theorem dX7_doesNext_92 : decode cX7_doesNext 92 = .ok (.istore_n 2, 1) := by decide +kernel
theorem dX7_doesNext_93 : decode cX7_doesNext 93 = .ok (.iload_n 2, 1) := by decide +kernel
theorem dX7_doesNext_94 : decode cX7_doesNext 94 = .ok (.ifCond .ne 7, 3) := by decide +kernel
theorem dX7_doesNext_97 : decode cX7_doesNext 97 = .ok (.iconst 2, 1) := by decide +kernel
theorem dX7_doesNext_98 : decode cX7_doesNext 98 = .ok (.goto 18, 3) := by decide +kernel
theorem dX7_doesNext_101 : decode cX7_doesNext 101 = .ok (.aload_n 0, 1) := by decide +kernel
theorem dX7_doesNext_102 : decode cX7_doesNext 102 = .ok (.iload_n 1, 1) := by decide +kernel
theorem dX7_doesNext_103 : decode cX7_doesNext 103 = .ok (.invokevirtual 191, 3) := by decide +kernel
theorem dX7_doesNext_106 : decode cX7_doesNext 106 = .ok (.ldc 33, 2) := by decide +kernel
theorem dX7_doesNext_108 : decode cX7_doesNext 108 = .ok (.if_icmp .gt 7, 3) := by decide +kernel
theorem dX7_doesNext_111 : decode cX7_doesNext 111 = .ok (.iconst 3, 1) := by decide +kernel
theorem dX7_doesNext_112 : decode cX7_doesNext 112 = .ok (.goto 4, 3) := by decide +kernel
theorem dX7_doesNext_115 : decode cX7_doesNext 115 = .ok (.iconst 0, 1) := by decide +kernel
theorem dX7_doesNext_116 : decode cX7_doesNext 116 = .ok (.ireturn, 1) := by decide +kernel
theorem dX7_faulty_0 : decode cX7_faulty 0 = .ok (.aload_n 0, 1) := by decide +kernel
theorem dX7_faulty_1 : decode cX7_faulty 1 = .ok (.invokevirtual 165, 3) := by decide +kernel
theorem dX7_faulty_4 : decode cX7_faulty 4 = .ok (.ldc 151, 2) := by decide +kernel
theorem dX7_faulty_6 : decode cX7_faulty 6 = .ok (.istore_n 1, 1) := by decide +kernel
theorem dX7_faulty_7 : decode cX7_faulty 7 = .ok (.aload_n 0, 1) := by decide +kernel
theorem dX7_faulty_8 : decode cX7_faulty 8 = .ok (.iconst 0, 1) := by decide +kernel
theorem dX7_faulty_9 : decode cX7_faulty 9 = .ok (.putfield 174, 3) := by decide +kernel
theorem dX7_faulty_12 : decode cX7_faulty 12 = .ok (.aload_n 0, 1) := by decide +kernel
theorem dX7_faulty_13 : decode cX7_faulty 13 = .ok (.getfield 174, 3) := by decide +kernel
theorem dX7_faulty_16 : decode cX7_faulty 16 = .ok (.aload_n 0, 1) := by decide +kernel
theorem dX7_faulty_17 : decode cX7_faulty 17 = .ok (.getfield 171, 3) := by decide +kernel
theorem dX7_faulty_20 : decode cX7_faulty 20 = .ok (.if_icmp .ge 38, 3) := by decide +kernel
theorem dX7_faulty_23 : decode cX7_faulty 23 = .ok (.iload_n 1, 1) := by decide +kernel
theorem dX7_faulty_24 : decode cX7_faulty 24 = .ok (.ldc 151, 2) := by decide +kernel
theorem dX7_faulty_26 : decode cX7_faulty 26 = .ok (.if_icmp .ne 32, 3) := by decide +kernel
theorem dX7_faulty_29 : decode cX7_faulty 29 = .ok (.aload_n 0, 1) := by decide +kernel
theorem dX7_faulty_30 : decode cX7_faulty 30 = .ok (.getfield 174, 3) := by decide +kernel
theorem dX7_faulty_33 : decode cX7_faulty 33 = .ok (.istore_n 2, 1) := by decide +kernel
theorem dX7_faulty_34 : decode cX7_faulty 34 = .ok (.aload_n 0, 1) := by decide +kernel
theorem dX7_faulty_35 : decode cX7_faulty 35 = .ok (.aload_n 0, 1) := by decide +kernel
theorem dX7_faulty_36 : decode cX7_faulty 36 = .ok (.invokevirtual 194, 3) := by decide +kernel
theorem dX7_faulty_39 : decode cX7_faulty 39 = .ok (.putfield 197, 3) := by decide +kernel
theorem dX7_faulty_42 : decode cX7_faulty 42 = .ok (.aload_n 0, 1) := by decide +kernel
theorem dX7_faulty_43 : decode cX7_faulty 43 = .ok (.getfield 197, 3) := by decide +kernel
theorem dX7_faulty_46 : decode cX7_faulty 46 = .ok (.ifCond .le 7, 3) := by decide +kernel
theorem dX7_faulty_49 : decode cX7_faulty 49 = .ok (.iload_n 2, 1) := by decide +kernel
theorem dX7_faulty_50 : decode cX7_faulty 50 = .ok (.goto 4, 3) := by decide +kernel
theorem dX7_faulty_53 : decode cX7_faulty 53 = .ok (.iload_n 1, 1) := by decide +kernel
theorem dX7_faulty_54 : decode cX7_faulty 54 = .ok (.istore_n 1, 1) := by decide +kernel
theorem dX7_faulty_55 : decode cX7_faulty 55 = .ok (.goto (-43), 3) := by decide +kernel
theorem dX7_faulty_58 : decode cX7_faulty 58 = .ok (.aload_n 0, 1) := by decide +kernel
theorem dX7_faulty_59 : decode cX7_faulty 59 = .ok (.invokevirtual 168, 3) := by decide +kernel
theorem dX7_faulty_62 : decode cX7_faulty 62 = .ok (.iload_n 1, 1) := by decide +kernel
theorem dX7_faulty_63 : decode cX7_faulty 63 = .ok (.ireturn, 1) := by decide +kernel
theorem dX7_fault_0 : decode cX7_fault 0 = .ok (.iload_n 1, 1) := by decide +kernel
theorem dX7_fault_1 : decode cX7_fault 1 = .ok (.iconst 0, 1) := by decide +kernel
theorem dX7_fault_2 : decode cX7_fault 2 = .ok (.iconst 1, 1) := by decide +kernel
theorem dX7_fault_3 : decode cX7_fault 3 = .ok (.invokestatic 29, 3) := by decide +kernel
theorem dX7_fault_6 : decode cX7_fault 6 = .ok (.ifCond .ne 6, 3) := by decide +kernel
theorem dX7_fault_9 : decode cX7_fault 9 = .ok (.ldc 33, 2) := by decide +kernel
theorem dX7_fault_11 : decode cX7_fault 11 = .ok (.ireturn, 1) := by decide +kernel
theorem dX7_fault_12 : decode cX7_fault 12 = .ok (.aload_n 0, 1) := by decide +kernel
theorem dX7_fault_13 : decode cX7_fault 13 = .ok (.invokevirtual 200, 3) := by decide +kernel
theorem dX7_fault_16 : decode cX7_fault 16 = .ok (.istore_n 2, 1) := by decide +kernel
theorem dX7_fault_17 : decode cX7_fault 17 = .ok (.iload_n 2, 1) := by decide +kernel
theorem dX7_fault_18 : decode cX7_fault 18 = .ok (.ldc 151, 2) := by decide +kernel
theorem dX7_fault_20 : decode cX7_fault 20 = .ok (.if_icmp .eq 7, 3) := by decide +kernel
theorem dX7_fault_23 : decode cX7_fault 23 = .ok (.iload_n 1, 1) := by decide +kernel
theorem dX7_fault_24 : decode cX7_fault 24 = .ok (.ifCond .ne 7, 3) := by decide +kernel
theorem dX7_fault_27 : decode cX7_fault 27 = .ok (.iload_n 2, 1) := by decide +kernel
theorem dX7_fault_28 : decode cX7_fault 28 = .ok (.goto 7, 3) := by decide +kernel
theorem dX7_fault_31 : decode cX7_fault 31 = .ok (.aload_n 0, 1) := by decide +kernel
theorem dX7_fault_32 : decode cX7_fault 32 = .ok (.getfield 197, 3) := by decide +kernel
theorem dX7_fault_35 : decode cX7_fault 35 = .ok (.ireturn, 1) := by decide +kernel
theorem dX7_play_0 : decode cX7_play 0 = .ok (.aload_n 0, 1) := by decide +kernel
theorem dX7_play_1 : decode cX7_play 1 = .ok (.invokevirtual 200, 3) := by decide +kernel
theorem dX7_play_4 : decode cX7_play 4 = .ok (.ldc 151, 2) := by decide +kernel
theorem dX7_play_6 : decode cX7_play 6 = .ok (.if_icmp .eq 6, 3) := by decide +kernel
theorem dX7_play_9 : decode cX7_play 9 = .ok (.ldc 105, 2) := by decide +kernel
theorem dX7_play_11 : decode cX7_play 11 = .ok (.ireturn, 1) := by decide +kernel
theorem dX7_play_12 : decode cX7_play 12 = .ok (.aload_n 0, 1) := by decide +kernel
theorem dX7_play_13 : decode cX7_play 13 = .ok (.invokevirtual 124, 3) := by decide +kernel
theorem dX7_play_16 : decode cX7_play 16 = .ok (.iconst 0, 1) := by decide +kernel
theorem dX7_play_17 : decode cX7_play 17 = .ok (.istore_n 1, 1) := by decide +kernel
theorem dX7_play_18 : decode cX7_play 18 = .ok (.aload_n 0, 1) := by decide +kernel
theorem dX7_play_19 : decode cX7_play 19 = .ok (.iconst 0, 1) := by decide +kernel
theorem dX7_play_20 : decode cX7_play 20 = .ok (.putfield 174, 3) := by decide +kernel
theorem dX7_play_23 : decode cX7_play 23 = .ok (.aload_n 0, 1) := by decide +kernel
theorem dX7_play_24 : decode cX7_play 24 = .ok (.getfield 174, 3) := by decide +kernel
theorem dX7_play_27 : decode cX7_play 27 = .ok (.aload_n 0, 1) := by decide +kernel
theorem dX7_play_28 : decode cX7_play 28 = .ok (.getfield 171, 3) := by decide +kernel
theorem dX7_play_31 : decode cX7_play 31 = .ok (.if_icmp .ge 21, 3) := by decide +kernel
theorem dX7_play_34 : decode cX7_play 34 = .ok (.iload_n 1, 1) := by decide +kernel
theorem dX7_play_35 : decode cX7_play 35 = .ok (.aload_n 0, 1) := by decide +kernel
theorem dX7_play_36 : decode cX7_play 36 = .ok (.invokevirtual 194, 3) := by decide +kernel
theorem dX7_play_39 : decode cX7_play 39 = .ok (.ifCond .ne 7, 3) := by decide +kernel
theorem dX7_play_42 : decode cX7_play 42 = .ok (.iconst 1, 1) := by decide +kernel
theorem dX7_play_43 : decode cX7_play 43 = .ok (.goto 4, 3) := by decide +kernel
theorem dX7_play_46 : decode cX7_play 46 = .ok (.iconst 0, 1) := by decide +kernel
theorem dX7_play_47 : decode cX7_play 47 = .ok (.iadd, 1) := by decide +kernel
theorem dX7_play_48 : decode cX7_play 48 = .ok (.istore_n 1, 1) := by decide +kernel
theorem dX7_play_49 : decode cX7_play 49 = .ok (.goto (-26), 3) := by decide +kernel
theorem dX7_play_52 : decode cX7_play 52 = .ok (.aload_n 0, 1) := by decide +kernel
theorem dX7_play_53 : decode cX7_play 53 = .ok (.iload_n 1, 1) := by decide +kernel
theorem dX7_play_54 : decode cX7_play 54 = .ok (.invokevirtual 127, 3) := by decide +kernel
theorem dX7_play_57 : decode cX7_play 57 = .ok (.ireturn, 1) := by decide +kernel
