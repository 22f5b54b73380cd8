theorem dL_cell_0 : decode cL_cell 0 = .ok (.iload_n 1, 1) := by decide +kernel
theorem dL_cell_1 : decode cL_cell 1 = .ok (.aload_n 0, 1) := by decide +kernel
theorem dL_cell_2 : decode cL_cell 2 = .ok (.arraylength, 1) := by decide +kernel
theorem dL_cell_3 : decode cL_cell 3 = .ok (.if_icmp .ge 9, 3) := by decide +kernel
theorem dL_cell_6 : decode cL_cell 6 = .ok (.aload_n 0, 1) := by decide +kernel
theorem dL_cell_7 : decode cL_cell 7 = .ok (.iload_n 1, 1) := by decide +kernel
theorem dL_cell_8 : decode cL_cell 8 = .ok (.iaload, 1) := by decide +kernel
theorem dL_cell_9 : decode cL_cell 9 = .ok (.goto 10, 3) := by decide +kernel
theorem dL_cell_12 : decode cL_cell 12 = .ok (.ldc 7, 2) := by decide +kernel
theorem dL_cell_14 : decode cL_cell 14 = .ok (.iload_n 1, 1) := by decide +kernel
theorem dL_cell_15 : decode cL_cell 15 = .ok (.imul, 1) := by decide +kernel
theorem dL_cell_16 : decode cL_cell 16 = .ok (.bipush 109, 2) := by decide +kernel
theorem dL_cell_18 : decode cL_cell 18 = .ok (.iadd, 1) := by decide +kernel
theorem dL_cell_19 : decode cL_cell 19 = .ok (.ldc 8, 2) := by decide +kernel
theorem dL_cell_21 : decode cL_cell 21 = .ok (.iand, 1) := by decide +kernel
theorem dL_cell_22 : decode cL_cell 22 = .ok (.ireturn, 1) := by decide +kernel
theorem dL_accounts_0 : decode cL_accounts 0 = .ok (.iconst 1, 1) := by decide +kernel
theorem dL_accounts_1 : decode cL_accounts 1 = .ok (.istore_n 1, 1) := by decide +kernel
theorem dL_accounts_2 : decode cL_accounts 2 = .ok (.iconst 0, 1) := by decide +kernel
theorem dL_accounts_3 : decode cL_accounts 3 = .ok (.istore_n 2, 1) := by decide +kernel
theorem dL_accounts_4 : decode cL_accounts 4 = .ok (.iload_n 2, 1) := by decide +kernel
theorem dL_accounts_5 : decode cL_accounts 5 = .ok (.aload_n 0, 1) := by decide +kernel
theorem dL_accounts_6 : decode cL_accounts 6 = .ok (.iconst 2, 1) := by decide +kernel
theorem dL_accounts_7 : decode cL_accounts 7 = .ok (.invokevirtual 9, 3) := by decide +kernel
theorem dL_accounts_10 : decode cL_accounts 10 = .ok (.if_icmp .ge 80, 3) := by decide +kernel
theorem dL_accounts_13 : decode cL_accounts 13 = .ok (.iload_n 1, 1) := by decide +kernel
theorem dL_accounts_14 : decode cL_accounts 14 = .ok (.ifCond .eq 76, 3) := by decide +kernel
theorem dL_accounts_17 : decode cL_accounts 17 = .ok (.iconst 0, 1) := by decide +kernel
theorem dL_accounts_18 : decode cL_accounts 18 = .ok (.istore_n 3, 1) := by decide +kernel
theorem dL_accounts_19 : decode cL_accounts 19 = .ok (.iconst 4, 1) := by decide +kernel
theorem dL_accounts_20 : decode cL_accounts 20 = .ok (.istore 4, 2) := by decide +kernel
theorem dL_accounts_22 : decode cL_accounts 22 = .ok (.iload 4, 2) := by decide +kernel
theorem dL_accounts_24 : decode cL_accounts 24 = .ok (.bipush 11, 2) := by decide +kernel
theorem dL_accounts_26 : decode cL_accounts 26 = .ok (.if_icmp .ge 38, 3) := by decide +kernel
theorem dL_accounts_29 : decode cL_accounts 29 = .ok (.aload_n 0, 1) := by decide +kernel
theorem dL_accounts_30 : decode cL_accounts 30 = .ok (.iload_n 2, 1) := by decide +kernel
theorem dL_accounts_31 : decode cL_accounts 31 = .ok (.iload 4, 2) := by decide +kernel
theorem dL_accounts_33 : decode cL_accounts 33 = .ok (.invokevirtual 15, 3) := by decide +kernel
theorem dL_accounts_36 : decode cL_accounts 36 = .ok (.istore 5, 2) := by decide +kernel
theorem dL_accounts_38 : decode cL_accounts 38 = .ok (.iload_n 1, 1) := by decide +kernel
theorem dL_accounts_39 : decode cL_accounts 39 = .ok (.ifCond .eq 12, 3) := by decide +kernel
theorem dL_accounts_42 : decode cL_accounts 42 = .ok (.iload 5, 2) := by decide +kernel
theorem dL_accounts_44 : decode cL_accounts 44 = .ok (.ifCond .lt 7, 3) := by decide +kernel
theorem dL_accounts_47 : decode cL_accounts 47 = .ok (.iconst 1, 1) := by decide +kernel
theorem dL_accounts_48 : decode cL_accounts 48 = .ok (.goto 4, 3) := by decide +kernel
theorem dL_accounts_51 : decode cL_accounts 51 = .ok (.iconst 0, 1) := by decide +kernel
theorem dL_accounts_52 : decode cL_accounts 52 = .ok (.istore_n 1, 1) := by decide +kernel
theorem dL_accounts_53 : decode cL_accounts 53 = .ok (.iload_n 3, 1) := by decide +kernel
theorem dL_accounts_54 : decode cL_accounts 54 = .ok (.iload 5, 2) := by decide +kernel
theorem dL_accounts_56 : decode cL_accounts 56 = .ok (.iadd, 1) := by decide +kernel
theorem dL_accounts_57 : decode cL_accounts 57 = .ok (.istore_n 3, 1) := by decide +kernel
theorem dL_accounts_58 : decode cL_accounts 58 = .ok (.iinc 4 1, 3) := by decide +kernel
theorem dL_accounts_61 : decode cL_accounts 61 = .ok (.goto (-39), 3) := by decide +kernel
theorem dL_accounts_64 : decode cL_accounts 64 = .ok (.iload_n 1, 1) := by decide +kernel
theorem dL_accounts_65 : decode cL_accounts 65 = .ok (.ifCond .eq 17, 3) := by decide +kernel
theorem dL_accounts_68 : decode cL_accounts 68 = .ok (.iload_n 3, 1) := by decide +kernel
theorem dL_accounts_69 : decode cL_accounts 69 = .ok (.aload_n 0, 1) := by decide +kernel
theorem dL_accounts_70 : decode cL_accounts 70 = .ok (.iload_n 2, 1) := by decide +kernel
theorem dL_accounts_71 : decode cL_accounts 71 = .ok (.iconst 2, 1) := by decide +kernel
theorem dL_accounts_72 : decode cL_accounts 72 = .ok (.invokevirtual 15, 3) := by decide +kernel
theorem dL_accounts_75 : decode cL_accounts 75 = .ok (.if_icmp .ne 7, 3) := by decide +kernel
theorem dL_accounts_78 : decode cL_accounts 78 = .ok (.iconst 1, 1) := by decide +kernel
theorem dL_accounts_79 : decode cL_accounts 79 = .ok (.goto 4, 3) := by decide +kernel
theorem dL_accounts_82 : decode cL_accounts 82 = .ok (.iconst 0, 1) := by decide +kernel
theorem dL_accounts_83 : decode cL_accounts 83 = .ok (.istore_n 1, 1) := by decide +kernel
theorem dL_accounts_84 : decode cL_accounts 84 = .ok (.iinc 2 1, 3) := by decide +kernel
theorem dL_accounts_87 : decode cL_accounts 87 = .ok (.goto (-83), 3) := by decide +kernel
theorem dL_accounts_90 : decode cL_accounts 90 = .ok (.iconst 4, 1) := by decide +kernel
theorem dL_accounts_91 : decode cL_accounts 91 = .ok (.istore_n 2, 1) := by decide +kernel
theorem dL_accounts_92 : decode cL_accounts 92 = .ok (.iload_n 2, 1) := by decide +kernel
theorem dL_accounts_93 : decode cL_accounts 93 = .ok (.bipush 11, 2) := by decide +kernel
theorem dL_accounts_95 : decode cL_accounts 95 = .ok (.if_icmp .ge 109, 3) := by decide +kernel
theorem dL_accounts_98 : decode cL_accounts 98 = .ok (.iload_n 1, 1) := by decide +kernel
theorem dL_accounts_99 : decode cL_accounts 99 = .ok (.ifCond .eq 105, 3) := by decide +kernel
theorem dL_accounts_102 : decode cL_accounts 102 = .ok (.aload_n 0, 1) := by decide +kernel
theorem dL_accounts_103 : decode cL_accounts 103 = .ok (.iconst (-1), 1) := by decide +kernel
theorem dL_accounts_104 : decode cL_accounts 104 = .ok (.iconst (-1), 1) := by decide +kernel
theorem dL_accounts_105 : decode cL_accounts 105 = .ok (.iload_n 2, 1) := by decide +kernel
theorem dL_accounts_106 : decode cL_accounts 106 = .ok (.invokevirtual 19, 3) := by decide +kernel
theorem dL_accounts_109 : decode cL_accounts 109 = .ok (.istore_n 3, 1) := by decide +kernel
theorem dL_accounts_110 : decode cL_accounts 110 = .ok (.iconst 0, 1) := by decide +kernel
theorem dL_accounts_111 : decode cL_accounts 111 = .ok (.istore 4, 2) := by decide +kernel
theorem dL_accounts_113 : decode cL_accounts 113 = .ok (.iconst 0, 1) := by decide +kernel
theorem dL_accounts_114 : decode cL_accounts 114 = .ok (.istore 5, 2) := by decide +kernel
theorem dL_accounts_116 : decode cL_accounts 116 = .ok (.iconst 0, 1) := by decide +kernel
theorem dL_accounts_117 : decode cL_accounts 117 = .ok (.istore 6, 2) := by decide +kernel
theorem dL_accounts_119 : decode cL_accounts 119 = .ok (.iload 6, 2) := by decide +kernel
theorem dL_accounts_121 : decode cL_accounts 121 = .ok (.aload_n 0, 1) := by decide +kernel
theorem dL_accounts_122 : decode cL_accounts 122 = .ok (.iconst 1, 1) := by decide +kernel
theorem dL_accounts_123 : decode cL_accounts 123 = .ok (.invokevirtual 9, 3) := by decide +kernel
theorem dL_accounts_126 : decode cL_accounts 126 = .ok (.if_icmp .ge 22, 3) := by decide +kernel
theorem dL_accounts_129 : decode cL_accounts 129 = .ok (.iload 4, 2) := by decide +kernel
theorem dL_accounts_131 : decode cL_accounts 131 = .ok (.aload_n 0, 1) := by decide +kernel
theorem dL_accounts_132 : decode cL_accounts 132 = .ok (.iload 6, 2) := by decide +kernel
theorem dL_accounts_134 : decode cL_accounts 134 = .ok (.iconst (-1), 1) := by decide +kernel
theorem dL_accounts_135 : decode cL_accounts 135 = .ok (.iload_n 2, 1) := by decide +kernel
theorem dL_accounts_136 : decode cL_accounts 136 = .ok (.invokevirtual 19, 3) := by decide +kernel
theorem dL_accounts_139 : decode cL_accounts 139 = .ok (.iadd, 1) := by decide +kernel
theorem dL_accounts_140 : decode cL_accounts 140 = .ok (.istore 4, 2) := by decide +kernel
theorem dL_accounts_142 : decode cL_accounts 142 = .ok (.iinc 6 1, 3) := by decide +kernel
theorem dL_accounts_145 : decode cL_accounts 145 = .ok (.goto (-26), 3) := by decide +kernel
theorem dL_accounts_148 : decode cL_accounts 148 = .ok (.iconst 0, 1) := by decide +kernel
theorem dL_accounts_149 : decode cL_accounts 149 = .ok (.istore 6, 2) := by decide +kernel
theorem dL_accounts_151 : decode cL_accounts 151 = .ok (.iload 6, 2) := by decide +kernel
theorem dL_accounts_153 : decode cL_accounts 153 = .ok (.aload_n 0, 1) := by decide +kernel
theorem dL_accounts_154 : decode cL_accounts 154 = .ok (.iconst 0, 1) := by decide +kernel
theorem dL_accounts_155 : decode cL_accounts 155 = .ok (.invokevirtual 9, 3) := by decide +kernel
theorem dL_accounts_158 : decode cL_accounts 158 = .ok (.if_icmp .ge 22, 3) := by decide +kernel
theorem dL_accounts_161 : decode cL_accounts 161 = .ok (.iload 5, 2) := by decide +kernel
theorem dL_accounts_163 : decode cL_accounts 163 = .ok (.aload_n 0, 1) := by decide +kernel
theorem dL_accounts_164 : decode cL_accounts 164 = .ok (.iconst (-1), 1) := by decide +kernel
theorem dL_accounts_165 : decode cL_accounts 165 = .ok (.iload 6, 2) := by decide +kernel
theorem dL_accounts_167 : decode cL_accounts 167 = .ok (.iload_n 2, 1) := by decide +kernel
theorem dL_accounts_168 : decode cL_accounts 168 = .ok (.invokevirtual 19, 3) := by decide +kernel
theorem dL_accounts_171 : decode cL_accounts 171 = .ok (.iadd, 1) := by decide +kernel
theorem dL_accounts_172 : decode cL_accounts 172 = .ok (.istore 5, 2) := by decide +kernel
theorem dL_accounts_174 : decode cL_accounts 174 = .ok (.iinc 6 1, 3) := by decide +kernel
theorem dL_accounts_177 : decode cL_accounts 177 = .ok (.goto (-26), 3) := by decide +kernel
theorem dL_accounts_180 : decode cL_accounts 180 = .ok (.iload_n 3, 1) := by decide +kernel
theorem dL_accounts_181 : decode cL_accounts 181 = .ok (.iload 4, 2) := by decide +kernel
theorem dL_accounts_183 : decode cL_accounts 183 = .ok (.if_icmp .ne 13, 3) := by decide +kernel
theorem dL_accounts_186 : decode cL_accounts 186 = .ok (.iload_n 3, 1) := by decide +kernel
theorem dL_accounts_187 : decode cL_accounts 187 = .ok (.iload 5, 2) := by decide +kernel
theorem dL_accounts_189 : decode cL_accounts 189 = .ok (.if_icmp .ne 7, 3) := by decide +kernel
theorem dL_accounts_192 : decode cL_accounts 192 = .ok (.iconst 1, 1) := by decide +kernel
theorem dL_accounts_193 : decode cL_accounts 193 = .ok (.goto 4, 3) := by decide +kernel
theorem dL_accounts_196 : decode cL_accounts 196 = .ok (.iconst 0, 1) := by decide +kernel
theorem dL_accounts_197 : decode cL_accounts 197 = .ok (.istore_n 1, 1) := by decide +kernel
theorem dL_accounts_198 : decode cL_accounts 198 = .ok (.iinc 2 1, 3) := by decide +kernel
theorem dL_accounts_201 : decode cL_accounts 201 = .ok (.goto (-109), 3) := by decide +kernel
theorem dL_accounts_204 : decode cL_accounts 204 = .ok (.iconst 0, 1) := by decide +kernel
theorem dL_accounts_205 : decode cL_accounts 205 = .ok (.istore_n 2, 1) := by decide +kernel
theorem dL_accounts_206 : decode cL_accounts 206 = .ok (.iconst 0, 1) := by decide +kernel
theorem dL_accounts_207 : decode cL_accounts 207 = .ok (.istore_n 3, 1) := by decide +kernel
theorem dL_accounts_208 : decode cL_accounts 208 = .ok (.iconst 0, 1) := by decide +kernel
theorem dL_accounts_209 : decode cL_accounts 209 = .ok (.istore 4, 2) := by decide +kernel
theorem dL_accounts_211 : decode cL_accounts 211 = .ok (.iconst 0, 1) := by decide +kernel
theorem dL_accounts_212 : decode cL_accounts 212 = .ok (.istore 5, 2) := by decide +kernel
theorem dL_accounts_214 : decode cL_accounts 214 = .ok (.iload 5, 2) := by decide +kernel
theorem dL_accounts_216 : decode cL_accounts 216 = .ok (.aload_n 0, 1) := by decide +kernel
theorem dL_accounts_217 : decode cL_accounts 217 = .ok (.iconst 0, 1) := by decide +kernel
theorem dL_accounts_218 : decode cL_accounts 218 = .ok (.invokevirtual 9, 3) := by decide +kernel
theorem dL_accounts_221 : decode cL_accounts 221 = .ok (.if_icmp .ge 45, 3) := by decide +kernel
theorem dL_accounts_224 : decode cL_accounts 224 = .ok (.iload_n 1, 1) := by decide +kernel
theorem dL_accounts_225 : decode cL_accounts 225 = .ok (.ifCond .eq 41, 3) := by decide +kernel
theorem dL_accounts_228 : decode cL_accounts 228 = .ok (.iload_n 2, 1) := by decide +kernel
theorem dL_accounts_229 : decode cL_accounts 229 = .ok (.aload_n 0, 1) := by decide +kernel
theorem dL_accounts_230 : decode cL_accounts 230 = .ok (.iload 5, 2) := by decide +kernel
theorem dL_accounts_232 : decode cL_accounts 232 = .ok (.iconst 4, 1) := by decide +kernel
theorem dL_accounts_233 : decode cL_accounts 233 = .ok (.invokevirtual 23, 3) := by decide +kernel
theorem dL_accounts_236 : decode cL_accounts 236 = .ok (.iadd, 1) := by decide +kernel
theorem dL_accounts_237 : decode cL_accounts 237 = .ok (.istore_n 2, 1) := by decide +kernel
theorem dL_accounts_238 : decode cL_accounts 238 = .ok (.iload_n 3, 1) := by decide +kernel
theorem dL_accounts_239 : decode cL_accounts 239 = .ok (.aload_n 0, 1) := by decide +kernel
theorem dL_accounts_240 : decode cL_accounts 240 = .ok (.iload 5, 2) := by decide +kernel
theorem dL_accounts_242 : decode cL_accounts 242 = .ok (.iconst 5, 1) := by decide +kernel
theorem dL_accounts_243 : decode cL_accounts 243 = .ok (.invokevirtual 23, 3) := by decide +kernel
theorem dL_accounts_246 : decode cL_accounts 246 = .ok (.iadd, 1) := by decide +kernel
theorem dL_accounts_247 : decode cL_accounts 247 = .ok (.istore_n 3, 1) := by decide +kernel
theorem dL_accounts_248 : decode cL_accounts 248 = .ok (.iload 4, 2) := by decide +kernel
theorem dL_accounts_250 : decode cL_accounts 250 = .ok (.aload_n 0, 1) := by decide +kernel
theorem dL_accounts_251 : decode cL_accounts 251 = .ok (.iload 5, 2) := by decide +kernel
theorem dL_accounts_253 : decode cL_accounts 253 = .ok (.iconst 3, 1) := by decide +kernel
theorem dL_accounts_254 : decode cL_accounts 254 = .ok (.invokevirtual 23, 3) := by decide +kernel
theorem dL_accounts_257 : decode cL_accounts 257 = .ok (.iadd, 1) := by decide +kernel
theorem dL_accounts_258 : decode cL_accounts 258 = .ok (.istore 4, 2) := by decide +kernel
theorem dL_accounts_260 : decode cL_accounts 260 = .ok (.iinc 5 1, 3) := by decide +kernel
theorem dL_accounts_263 : decode cL_accounts 263 = .ok (.goto (-49), 3) := by decide +kernel
theorem dL_accounts_266 : decode cL_accounts 266 = .ok (.iload_n 1, 1) := by decide +kernel
theorem dL_accounts_267 : decode cL_accounts 267 = .ok (.ifCond .eq 41, 3) := by decide +kernel
theorem dL_accounts_270 : decode cL_accounts 270 = .ok (.iload_n 2, 1) := by decide +kernel
theorem dL_accounts_271 : decode cL_accounts 271 = .ok (.aload_n 0, 1) := by decide +kernel
theorem dL_accounts_272 : decode cL_accounts 272 = .ok (.iconst (-1), 1) := by decide +kernel
theorem dL_accounts_273 : decode cL_accounts 273 = .ok (.iconst (-1), 1) := by decide +kernel
theorem dL_accounts_274 : decode cL_accounts 274 = .ok (.bipush 6, 2) := by decide +kernel
theorem dL_accounts_276 : decode cL_accounts 276 = .ok (.invokevirtual 19, 3) := by decide +kernel
theorem dL_accounts_279 : decode cL_accounts 279 = .ok (.if_icmp .ne 29, 3) := by decide +kernel
theorem dL_accounts_282 : decode cL_accounts 282 = .ok (.iload_n 3, 1) := by decide +kernel
theorem dL_accounts_283 : decode cL_accounts 283 = .ok (.aload_n 0, 1) := by decide +kernel
theorem dL_accounts_284 : decode cL_accounts 284 = .ok (.iconst (-1), 1) := by decide +kernel
theorem dL_accounts_285 : decode cL_accounts 285 = .ok (.iconst (-1), 1) := by decide +kernel
theorem dL_accounts_286 : decode cL_accounts 286 = .ok (.bipush 9, 2) := by decide +kernel
theorem dL_accounts_288 : decode cL_accounts 288 = .ok (.invokevirtual 19, 3) := by decide +kernel
theorem dL_accounts_291 : decode cL_accounts 291 = .ok (.if_icmp .ne 17, 3) := by decide +kernel
theorem dL_accounts_294 : decode cL_accounts 294 = .ok (.iload 4, 2) := by decide +kernel
theorem dL_accounts_296 : decode cL_accounts 296 = .ok (.aload_n 0, 1) := by decide +kernel
theorem dL_accounts_297 : decode cL_accounts 297 = .ok (.iconst 2, 1) := by decide +kernel
theorem dL_accounts_298 : decode cL_accounts 298 = .ok (.invokevirtual 9, 3) := by decide +kernel
theorem dL_accounts_301 : decode cL_accounts 301 = .ok (.if_icmp .ne 7, 3) := by decide +kernel
theorem dL_accounts_304 : decode cL_accounts 304 = .ok (.iconst 1, 1) := by decide +kernel
theorem dL_accounts_305 : decode cL_accounts 305 = .ok (.goto 4, 3) := by decide +kernel
theorem dL_accounts_308 : decode cL_accounts 308 = .ok (.iconst 0, 1) := by decide +kernel
theorem dL_accounts_309 : decode cL_accounts 309 = .ok (.ireturn, 1) := by decide +kernel
theorem dL_farmers_0 : decode cL_farmers 0 = .ok (.iconst 0, 1) := by decide +kernel
theorem dL_farmers_1 : decode cL_farmers 1 = .ok (.istore_n 1, 1) := by decide +kernel
theorem dL_farmers_2 : decode cL_farmers 2 = .ok (.iconst 0, 1) := by decide +kernel
theorem dL_farmers_3 : decode cL_farmers 3 = .ok (.istore_n 2, 1) := by decide +kernel
theorem dL_farmers_4 : decode cL_farmers 4 = .ok (.iconst 1, 1) := by decide +kernel
theorem dL_farmers_5 : decode cL_farmers 5 = .ok (.istore_n 3, 1) := by decide +kernel
theorem dL_farmers_6 : decode cL_farmers 6 = .ok (.iconst 0, 1) := by decide +kernel
theorem dL_farmers_7 : decode cL_farmers 7 = .ok (.istore 4, 2) := by decide +kernel
theorem dL_farmers_9 : decode cL_farmers 9 = .ok (.iload 4, 2) := by decide +kernel
theorem dL_farmers_11 : decode cL_farmers 11 = .ok (.aload_n 0, 1) := by decide +kernel
theorem dL_farmers_12 : decode cL_farmers 12 = .ok (.iconst 1, 1) := by decide +kernel
theorem dL_farmers_13 : decode cL_farmers 13 = .ok (.invokevirtual 9, 3) := by decide +kernel
theorem dL_farmers_16 : decode cL_farmers 16 = .ok (.if_icmp .ge 103, 3) := by decide +kernel
theorem dL_farmers_19 : decode cL_farmers 19 = .ok (.iload_n 3, 1) := by decide +kernel
theorem dL_farmers_20 : decode cL_farmers 20 = .ok (.ifCond .eq 99, 3) := by decide +kernel
theorem dL_farmers_23 : decode cL_farmers 23 = .ok (.iload_n 1, 1) := by decide +kernel
theorem dL_farmers_24 : decode cL_farmers 24 = .ok (.aload_n 0, 1) := by decide +kernel
theorem dL_farmers_25 : decode cL_farmers 25 = .ok (.iload 4, 2) := by decide +kernel
theorem dL_farmers_27 : decode cL_farmers 27 = .ok (.iconst 1, 1) := by decide +kernel
theorem dL_farmers_28 : decode cL_farmers 28 = .ok (.invokevirtual 26, 3) := by decide +kernel
theorem dL_farmers_31 : decode cL_farmers 31 = .ok (.iadd, 1) := by decide +kernel
theorem dL_farmers_32 : decode cL_farmers 32 = .ok (.istore_n 1, 1) := by decide +kernel
theorem dL_farmers_33 : decode cL_farmers 33 = .ok (.iload_n 2, 1) := by decide +kernel
theorem dL_farmers_34 : decode cL_farmers 34 = .ok (.aload_n 0, 1) := by decide +kernel
theorem dL_farmers_35 : decode cL_farmers 35 = .ok (.iload 4, 2) := by decide +kernel
theorem dL_farmers_37 : decode cL_farmers 37 = .ok (.iconst 3, 1) := by decide +kernel
theorem dL_farmers_38 : decode cL_farmers 38 = .ok (.invokevirtual 26, 3) := by decide +kernel
theorem dL_farmers_41 : decode cL_farmers 41 = .ok (.iadd, 1) := by decide +kernel
theorem dL_farmers_42 : decode cL_farmers 42 = .ok (.istore_n 2, 1) := by decide +kernel
theorem dL_farmers_43 : decode cL_farmers 43 = .ok (.aload_n 0, 1) := by decide +kernel
theorem dL_farmers_44 : decode cL_farmers 44 = .ok (.iload 4, 2) := by decide +kernel
theorem dL_farmers_46 : decode cL_farmers 46 = .ok (.iconst 0, 1) := by decide +kernel
theorem dL_farmers_47 : decode cL_farmers 47 = .ok (.invokevirtual 26, 3) := by decide +kernel
theorem dL_farmers_50 : decode cL_farmers 50 = .ok (.ifCond .lt 61, 3) := by decide +kernel
theorem dL_farmers_53 : decode cL_farmers 53 = .ok (.aload_n 0, 1) := by decide +kernel
theorem dL_farmers_54 : decode cL_farmers 54 = .ok (.iload 4, 2) := by decide +kernel
theorem dL_farmers_56 : decode cL_farmers 56 = .ok (.iconst 2, 1) := by decide +kernel
theorem dL_farmers_57 : decode cL_farmers 57 = .ok (.invokevirtual 26, 3) := by decide +kernel
theorem dL_farmers_60 : decode cL_farmers 60 = .ok (.aload_n 0, 1) := by decide +kernel
theorem dL_farmers_61 : decode cL_farmers 61 = .ok (.iload 4, 2) := by decide +kernel
theorem dL_farmers_63 : decode cL_farmers 63 = .ok (.iconst 1, 1) := by decide +kernel
theorem dL_farmers_64 : decode cL_farmers 64 = .ok (.invokevirtual 26, 3) := by decide +kernel
theorem dL_farmers_67 : decode cL_farmers 67 = .ok (.if_icmp .gt 44, 3) := by decide +kernel
theorem dL_farmers_70 : decode cL_farmers 70 = .ok (.aload_n 0, 1) := by decide +kernel
theorem dL_farmers_71 : decode cL_farmers 71 = .ok (.iload 4, 2) := by decide +kernel
theorem dL_farmers_73 : decode cL_farmers 73 = .ok (.iconst 4, 1) := by decide +kernel
theorem dL_farmers_74 : decode cL_farmers 74 = .ok (.invokevirtual 26, 3) := by decide +kernel
theorem dL_farmers_77 : decode cL_farmers 77 = .ok (.aload_n 0, 1) := by decide +kernel
theorem dL_farmers_78 : decode cL_farmers 78 = .ok (.iload 4, 2) := by decide +kernel
theorem dL_farmers_80 : decode cL_farmers 80 = .ok (.iconst (-1), 1) := by decide +kernel
theorem dL_farmers_81 : decode cL_farmers 81 = .ok (.iconst 5, 1) := by decide +kernel
theorem dL_farmers_82 : decode cL_farmers 82 = .ok (.invokevirtual 19, 3) := by decide +kernel
theorem dL_farmers_85 : decode cL_farmers 85 = .ok (.if_icmp .ne 26, 3) := by decide +kernel
theorem dL_farmers_88 : decode cL_farmers 88 = .ok (.aload_n 0, 1) := by decide +kernel
theorem dL_farmers_89 : decode cL_farmers 89 = .ok (.iload 4, 2) := by decide +kernel
theorem dL_farmers_91 : decode cL_farmers 91 = .ok (.iconst 5, 1) := by decide +kernel
theorem dL_farmers_92 : decode cL_farmers 92 = .ok (.invokevirtual 26, 3) := by decide +kernel
theorem dL_farmers_95 : decode cL_farmers 95 = .ok (.aload_n 0, 1) := by decide +kernel
theorem dL_farmers_96 : decode cL_farmers 96 = .ok (.iload 4, 2) := by decide +kernel
theorem dL_farmers_98 : decode cL_farmers 98 = .ok (.iconst (-1), 1) := by decide +kernel
theorem dL_farmers_99 : decode cL_farmers 99 = .ok (.bipush 10, 2) := by decide +kernel
theorem dL_farmers_101 : decode cL_farmers 101 = .ok (.invokevirtual 19, 3) := by decide +kernel
theorem dL_farmers_104 : decode cL_farmers 104 = .ok (.if_icmp .ne 7, 3) := by decide +kernel
theorem dL_farmers_107 : decode cL_farmers 107 = .ok (.iconst 1, 1) := by decide +kernel
theorem dL_farmers_108 : decode cL_farmers 108 = .ok (.goto 4, 3) := by decide +kernel
theorem dL_farmers_111 : decode cL_farmers 111 = .ok (.iconst 0, 1) := by decide +kernel
theorem dL_farmers_112 : decode cL_farmers 112 = .ok (.istore_n 3, 1) := by decide +kernel
theorem dL_farmers_113 : decode cL_farmers 113 = .ok (.iinc 4 1, 3) := by decide +kernel
theorem dL_farmers_116 : decode cL_farmers 116 = .ok (.goto (-107), 3) := by decide +kernel
theorem dL_farmers_119 : decode cL_farmers 119 = .ok (.iload_n 3, 1) := by decide +kernel
theorem dL_farmers_120 : decode cL_farmers 120 = .ok (.ifCond .eq 26, 3) := by decide +kernel
theorem dL_farmers_123 : decode cL_farmers 123 = .ok (.iload_n 1, 1) := by decide +kernel
theorem dL_farmers_124 : decode cL_farmers 124 = .ok (.aload_n 0, 1) := by decide +kernel
theorem dL_farmers_125 : decode cL_farmers 125 = .ok (.iconst 2, 1) := by decide +kernel
theorem dL_farmers_126 : decode cL_farmers 126 = .ok (.invokevirtual 9, 3) := by decide +kernel
theorem dL_farmers_129 : decode cL_farmers 129 = .ok (.if_icmp .ne 17, 3) := by decide +kernel
theorem dL_farmers_132 : decode cL_farmers 132 = .ok (.iload_n 2, 1) := by decide +kernel
theorem dL_farmers_133 : decode cL_farmers 133 = .ok (.aload_n 0, 1) := by decide +kernel
theorem dL_farmers_134 : decode cL_farmers 134 = .ok (.bipush 6, 2) := by decide +kernel
theorem dL_farmers_136 : decode cL_farmers 136 = .ok (.invokevirtual 9, 3) := by decide +kernel
theorem dL_farmers_139 : decode cL_farmers 139 = .ok (.if_icmp .ne 7, 3) := by decide +kernel
theorem dL_farmers_142 : decode cL_farmers 142 = .ok (.iconst 1, 1) := by decide +kernel
theorem dL_farmers_143 : decode cL_farmers 143 = .ok (.goto 4, 3) := by decide +kernel
theorem dL_farmers_146 : decode cL_farmers 146 = .ok (.iconst 0, 1) := by decide +kernel
theorem dL_farmers_147 : decode cL_farmers 147 = .ok (.ireturn, 1) := by decide +kernel
theorem dL_holds_0 : decode cL_holds 0 = .ok (.aload_n 0, 1) := by decide +kernel
theorem dL_holds_1 : decode cL_holds 1 = .ok (.iconst 3, 1) := by decide +kernel
theorem dL_holds_2 : decode cL_holds 2 = .ok (.invokevirtual 9, 3) := by decide +kernel
theorem dL_holds_5 : decode cL_holds 5 = .ok (.istore_n 1, 1) := by decide +kernel
theorem dL_holds_6 : decode cL_holds 6 = .ok (.aload_n 0, 1) := by decide +kernel
theorem dL_holds_7 : decode cL_holds 7 = .ok (.bipush 6, 2) := by decide +kernel
theorem dL_holds_9 : decode cL_holds 9 = .ok (.invokevirtual 29, 3) := by decide +kernel
theorem dL_holds_12 : decode cL_holds 12 = .ok (.ifCond .ge 7, 3) := by decide +kernel
theorem dL_holds_15 : decode cL_holds 15 = .ok (.iconst 0, 1) := by decide +kernel
theorem dL_holds_16 : decode cL_holds 16 = .ok (.goto 4, 3) := by decide +kernel
theorem dL_holds_19 : decode cL_holds 19 = .ok (.iconst 1, 1) := by decide +kernel
theorem dL_holds_20 : decode cL_holds 20 = .ok (.istore_n 2, 1) := by decide +kernel
theorem dL_holds_21 : decode cL_holds 21 = .ok (.aload_n 0, 1) := by decide +kernel
theorem dL_holds_22 : decode cL_holds 22 = .ok (.iload_n 1, 1) := by decide +kernel
theorem dL_holds_23 : decode cL_holds 23 = .ok (.invokevirtual 32, 3) := by decide +kernel
theorem dL_holds_26 : decode cL_holds 26 = .ok (.ldc 35, 2) := by decide +kernel
theorem dL_holds_28 : decode cL_holds 28 = .ok (.if_icmp .ne 49, 3) := by decide +kernel
theorem dL_holds_31 : decode cL_holds 31 = .ok (.iload_n 1, 1) := by decide +kernel
theorem dL_holds_32 : decode cL_holds 32 = .ok (.iload_n 2, 1) := by decide +kernel
theorem dL_holds_33 : decode cL_holds 33 = .ok (.iadd, 1) := by decide +kernel
theorem dL_holds_34 : decode cL_holds 34 = .ok (.aload_n 0, 1) := by decide +kernel
theorem dL_holds_35 : decode cL_holds 35 = .ok (.iconst 4, 1) := by decide +kernel
theorem dL_holds_36 : decode cL_holds 36 = .ok (.invokevirtual 9, 3) := by decide +kernel
theorem dL_holds_39 : decode cL_holds 39 = .ok (.iadd, 1) := by decide +kernel
theorem dL_holds_40 : decode cL_holds 40 = .ok (.aload_n 0, 1) := by decide +kernel
theorem dL_holds_41 : decode cL_holds 41 = .ok (.iconst 5, 1) := by decide +kernel
theorem dL_holds_42 : decode cL_holds 42 = .ok (.invokevirtual 9, 3) := by decide +kernel
theorem dL_holds_45 : decode cL_holds 45 = .ok (.iadd, 1) := by decide +kernel
theorem dL_holds_46 : decode cL_holds 46 = .ok (.aload_n 0, 1) := by decide +kernel
theorem dL_holds_47 : decode cL_holds 47 = .ok (.iconst 2, 1) := by decide +kernel
theorem dL_holds_48 : decode cL_holds 48 = .ok (.invokevirtual 9, 3) := by decide +kernel
theorem dL_holds_51 : decode cL_holds 51 = .ok (.if_icmp .ne 26, 3) := by decide +kernel
theorem dL_holds_54 : decode cL_holds 54 = .ok (.iload_n 2, 1) := by decide +kernel
theorem dL_holds_55 : decode cL_holds 55 = .ok (.ifCond .eq 18, 3) := by decide +kernel
theorem dL_holds_58 : decode cL_holds 58 = .ok (.aload_n 0, 1) := by decide +kernel
theorem dL_holds_59 : decode cL_holds 59 = .ok (.aload_n 0, 1) := by decide +kernel
theorem dL_holds_60 : decode cL_holds 60 = .ok (.bipush 6, 2) := by decide +kernel
theorem dL_holds_62 : decode cL_holds 62 = .ok (.invokevirtual 29, 3) := by decide +kernel
theorem dL_holds_65 : decode cL_holds 65 = .ok (.iconst 3, 1) := by decide +kernel
theorem dL_holds_66 : decode cL_holds 66 = .ok (.invokevirtual 15, 3) := by decide +kernel
theorem dL_holds_69 : decode cL_holds 69 = .ok (.iconst 1, 1) := by decide +kernel
theorem dL_holds_70 : decode cL_holds 70 = .ok (.if_icmp .ne 7, 3) := by decide +kernel
theorem dL_holds_73 : decode cL_holds 73 = .ok (.iconst 1, 1) := by decide +kernel
theorem dL_holds_74 : decode cL_holds 74 = .ok (.goto 4, 3) := by decide +kernel
theorem dL_holds_77 : decode cL_holds 77 = .ok (.iconst 0, 1) := by decide +kernel
theorem dL_holds_78 : decode cL_holds 78 = .ok (.istore_n 3, 1) := by decide +kernel
theorem dL_holds_79 : decode cL_holds 79 = .ok (.iconst 0, 1) := by decide +kernel
theorem dL_holds_80 : decode cL_holds 80 = .ok (.istore 4, 2) := by decide +kernel
theorem dL_holds_82 : decode cL_holds 82 = .ok (.iload 4, 2) := by decide +kernel
theorem dL_holds_84 : decode cL_holds 84 = .ok (.iload_n 1, 1) := by decide +kernel
theorem dL_holds_85 : decode cL_holds 85 = .ok (.if_icmp .ge 55, 3) := by decide +kernel
theorem dL_holds_88 : decode cL_holds 88 = .ok (.iload_n 3, 1) := by decide +kernel
theorem dL_holds_89 : decode cL_holds 89 = .ok (.ifCond .eq 51, 3) := by decide +kernel
theorem dL_holds_92 : decode cL_holds 92 = .ok (.aload_n 0, 1) := by decide +kernel
theorem dL_holds_93 : decode cL_holds 93 = .ok (.iload 4, 2) := by decide +kernel
theorem dL_holds_95 : decode cL_holds 95 = .ok (.invokevirtual 32, 3) := by decide +kernel
theorem dL_holds_98 : decode cL_holds 98 = .ok (.istore 5, 2) := by decide +kernel
theorem dL_holds_100 : decode cL_holds 100 = .ok (.iload 5, 2) := by decide +kernel
theorem dL_holds_102 : decode cL_holds 102 = .ok (.ifCond .lt 30, 3) := by decide +kernel
theorem dL_holds_105 : decode cL_holds 105 = .ok (.aload_n 0, 1) := by decide +kernel
theorem dL_holds_106 : decode cL_holds 106 = .ok (.iload 5, 2) := by decide +kernel
theorem dL_holds_108 : decode cL_holds 108 = .ok (.bipush 11, 2) := by decide +kernel
theorem dL_holds_110 : decode cL_holds 110 = .ok (.invokevirtual 15, 3) := by decide +kernel
theorem dL_holds_113 : decode cL_holds 113 = .ok (.iload 4, 2) := by decide +kernel
theorem dL_holds_115 : decode cL_holds 115 = .ok (.if_icmp .ne 17, 3) := by decide +kernel
theorem dL_holds_118 : decode cL_holds 118 = .ok (.aload_n 0, 1) := by decide +kernel
theorem dL_holds_119 : decode cL_holds 119 = .ok (.iload 5, 2) := by decide +kernel
theorem dL_holds_121 : decode cL_holds 121 = .ok (.iconst 3, 1) := by decide +kernel
theorem dL_holds_122 : decode cL_holds 122 = .ok (.invokevirtual 15, 3) := by decide +kernel
theorem dL_holds_125 : decode cL_holds 125 = .ok (.ifCond .ne 7, 3) := by decide +kernel
theorem dL_holds_128 : decode cL_holds 128 = .ok (.iconst 1, 1) := by decide +kernel
theorem dL_holds_129 : decode cL_holds 129 = .ok (.goto 4, 3) := by decide +kernel
theorem dL_holds_132 : decode cL_holds 132 = .ok (.iconst 0, 1) := by decide +kernel
theorem dL_holds_133 : decode cL_holds 133 = .ok (.istore_n 3, 1) := by decide +kernel
theorem dL_holds_134 : decode cL_holds 134 = .ok (.iinc 4 1, 3) := by decide +kernel
theorem dL_holds_137 : decode cL_holds 137 = .ok (.goto (-55), 3) := by decide +kernel
theorem dL_holds_140 : decode cL_holds 140 = .ok (.iconst 0, 1) := by decide +kernel
theorem dL_holds_141 : decode cL_holds 141 = .ok (.istore 4, 2) := by decide +kernel
theorem dL_holds_143 : decode cL_holds 143 = .ok (.iload 4, 2) := by decide +kernel
theorem dL_holds_145 : decode cL_holds 145 = .ok (.aload_n 0, 1) := by decide +kernel
theorem dL_holds_146 : decode cL_holds 146 = .ok (.bipush 6, 2) := by decide +kernel
theorem dL_holds_148 : decode cL_holds 148 = .ok (.invokevirtual 9, 3) := by decide +kernel
theorem dL_holds_151 : decode cL_holds 151 = .ok (.if_icmp .ge 147, 3) := by decide +kernel
theorem dL_holds_154 : decode cL_holds 154 = .ok (.iload_n 3, 1) := by decide +kernel
theorem dL_holds_155 : decode cL_holds 155 = .ok (.ifCond .eq 143, 3) := by decide +kernel
theorem dL_holds_158 : decode cL_holds 158 = .ok (.aload_n 0, 1) := by decide +kernel
theorem dL_holds_159 : decode cL_holds 159 = .ok (.iload 4, 2) := by decide +kernel
theorem dL_holds_161 : decode cL_holds 161 = .ok (.iconst 0, 1) := by decide +kernel
theorem dL_holds_162 : decode cL_holds 162 = .ok (.invokevirtual 36, 3) := by decide +kernel
theorem dL_holds_165 : decode cL_holds 165 = .ok (.istore 5, 2) := by decide +kernel
theorem dL_holds_167 : decode cL_holds 167 = .ok (.iload 4, 2) := by decide +kernel
theorem dL_holds_169 : decode cL_holds 169 = .ok (.ifCond .eq 55, 3) := by decide +kernel
theorem dL_holds_172 : decode cL_holds 172 = .ok (.aload_n 0, 1) := by decide +kernel
theorem dL_holds_173 : decode cL_holds 173 = .ok (.iload 4, 2) := by decide +kernel
theorem dL_holds_175 : decode cL_holds 175 = .ok (.iconst 1, 1) := by decide +kernel
theorem dL_holds_176 : decode cL_holds 176 = .ok (.isub, 1) := by decide +kernel
theorem dL_holds_177 : decode cL_holds 177 = .ok (.iconst 4, 1) := by decide +kernel
theorem dL_holds_178 : decode cL_holds 178 = .ok (.invokevirtual 36, 3) := by decide +kernel
theorem dL_holds_181 : decode cL_holds 181 = .ok (.aload_n 0, 1) := by decide +kernel
theorem dL_holds_182 : decode cL_holds 182 = .ok (.iload 4, 2) := by decide +kernel
theorem dL_holds_184 : decode cL_holds 184 = .ok (.iconst 4, 1) := by decide +kernel
theorem dL_holds_185 : decode cL_holds 185 = .ok (.invokevirtual 36, 3) := by decide +kernel
theorem dL_holds_188 : decode cL_holds 188 = .ok (.if_icmp .lt 36, 3) := by decide +kernel
theorem dL_holds_191 : decode cL_holds 191 = .ok (.aload_n 0, 1) := by decide +kernel
theorem dL_holds_192 : decode cL_holds 192 = .ok (.iload 4, 2) := by decide +kernel
theorem dL_holds_194 : decode cL_holds 194 = .ok (.iconst 1, 1) := by decide +kernel
theorem dL_holds_195 : decode cL_holds 195 = .ok (.isub, 1) := by decide +kernel
theorem dL_holds_196 : decode cL_holds 196 = .ok (.iconst 4, 1) := by decide +kernel
theorem dL_holds_197 : decode cL_holds 197 = .ok (.invokevirtual 36, 3) := by decide +kernel
theorem dL_holds_200 : decode cL_holds 200 = .ok (.aload_n 0, 1) := by decide +kernel
theorem dL_holds_201 : decode cL_holds 201 = .ok (.iload 4, 2) := by decide +kernel
theorem dL_holds_203 : decode cL_holds 203 = .ok (.iconst 4, 1) := by decide +kernel
theorem dL_holds_204 : decode cL_holds 204 = .ok (.invokevirtual 36, 3) := by decide +kernel
theorem dL_holds_207 : decode cL_holds 207 = .ok (.if_icmp .ne 21, 3) := by decide +kernel
theorem dL_holds_210 : decode cL_holds 210 = .ok (.aload_n 0, 1) := by decide +kernel
theorem dL_holds_211 : decode cL_holds 211 = .ok (.iload 4, 2) := by decide +kernel
theorem dL_holds_213 : decode cL_holds 213 = .ok (.iconst 1, 1) := by decide +kernel
theorem dL_holds_214 : decode cL_holds 214 = .ok (.isub, 1) := by decide +kernel
theorem dL_holds_215 : decode cL_holds 215 = .ok (.iconst 0, 1) := by decide +kernel
theorem dL_holds_216 : decode cL_holds 216 = .ok (.invokevirtual 36, 3) := by decide +kernel
theorem dL_holds_219 : decode cL_holds 219 = .ok (.iload 5, 2) := by decide +kernel
theorem dL_holds_221 : decode cL_holds 221 = .ok (.if_icmp .ge 7, 3) := by decide +kernel
theorem dL_holds_224 : decode cL_holds 224 = .ok (.iconst 1, 1) := by decide +kernel
theorem dL_holds_225 : decode cL_holds 225 = .ok (.goto 4, 3) := by decide +kernel
theorem dL_holds_228 : decode cL_holds 228 = .ok (.iconst 0, 1) := by decide +kernel
theorem dL_holds_229 : decode cL_holds 229 = .ok (.istore 6, 2) := by decide +kernel
theorem dL_holds_231 : decode cL_holds 231 = .ok (.iload 6, 2) := by decide +kernel
theorem dL_holds_233 : decode cL_holds 233 = .ok (.ifCond .eq 57, 3) := by decide +kernel
theorem dL_holds_236 : decode cL_holds 236 = .ok (.aload_n 0, 1) := by decide +kernel
theorem dL_holds_237 : decode cL_holds 237 = .ok (.iload 4, 2) := by decide +kernel
theorem dL_holds_239 : decode cL_holds 239 = .ok (.iconst 1, 1) := by decide +kernel
theorem dL_holds_240 : decode cL_holds 240 = .ok (.invokevirtual 36, 3) := by decide +kernel
theorem dL_holds_243 : decode cL_holds 243 = .ok (.aload_n 0, 1) := by decide +kernel
theorem dL_holds_244 : decode cL_holds 244 = .ok (.iload 5, 2) := by decide +kernel
theorem dL_holds_246 : decode cL_holds 246 = .ok (.bipush 8, 2) := by decide +kernel
theorem dL_holds_248 : decode cL_holds 248 = .ok (.invokevirtual 15, 3) := by decide +kernel
theorem dL_holds_251 : decode cL_holds 251 = .ok (.if_icmp .ne 39, 3) := by decide +kernel
theorem dL_holds_254 : decode cL_holds 254 = .ok (.aload_n 0, 1) := by decide +kernel
theorem dL_holds_255 : decode cL_holds 255 = .ok (.iload 5, 2) := by decide +kernel
theorem dL_holds_257 : decode cL_holds 257 = .ok (.invokevirtual 39, 3) := by decide +kernel
theorem dL_holds_260 : decode cL_holds 260 = .ok (.aload_n 0, 1) := by decide +kernel
theorem dL_holds_261 : decode cL_holds 261 = .ok (.iload 4, 2) := by decide +kernel
theorem dL_holds_263 : decode cL_holds 263 = .ok (.iconst 2, 1) := by decide +kernel
theorem dL_holds_264 : decode cL_holds 264 = .ok (.invokevirtual 36, 3) := by decide +kernel
theorem dL_holds_267 : decode cL_holds 267 = .ok (.if_icmp .lt 23, 3) := by decide +kernel
theorem dL_holds_270 : decode cL_holds 270 = .ok (.aload_n 0, 1) := by decide +kernel
theorem dL_holds_271 : decode cL_holds 271 = .ok (.iload 4, 2) := by decide +kernel
theorem dL_holds_273 : decode cL_holds 273 = .ok (.iconst 4, 1) := by decide +kernel
theorem dL_holds_274 : decode cL_holds 274 = .ok (.invokevirtual 36, 3) := by decide +kernel
theorem dL_holds_277 : decode cL_holds 277 = .ok (.aload_n 0, 1) := by decide +kernel
theorem dL_holds_278 : decode cL_holds 278 = .ok (.bipush 8, 2) := by decide +kernel
theorem dL_holds_280 : decode cL_holds 280 = .ok (.invokevirtual 9, 3) := by decide +kernel
theorem dL_holds_283 : decode cL_holds 283 = .ok (.if_icmp .lt 7, 3) := by decide +kernel
theorem dL_holds_286 : decode cL_holds 286 = .ok (.iconst 1, 1) := by decide +kernel
theorem dL_holds_287 : decode cL_holds 287 = .ok (.goto 4, 3) := by decide +kernel
theorem dL_holds_290 : decode cL_holds 290 = .ok (.iconst 0, 1) := by decide +kernel
theorem dL_holds_291 : decode cL_holds 291 = .ok (.istore_n 3, 1) := by decide +kernel
theorem dL_holds_292 : decode cL_holds 292 = .ok (.iinc 4 1, 3) := by decide +kernel
theorem dL_holds_295 : decode cL_holds 295 = .ok (.goto (-152), 3) := by decide +kernel
theorem dL_holds_298 : decode cL_holds 298 = .ok (.iload_n 3, 1) := by decide +kernel
theorem dL_holds_299 : decode cL_holds 299 = .ok (.ifCond .eq 95, 3) := by decide +kernel
theorem dL_holds_302 : decode cL_holds 302 = .ok (.aload_n 0, 1) := by decide +kernel
theorem dL_holds_303 : decode cL_holds 303 = .ok (.iconst 0, 1) := by decide +kernel
theorem dL_holds_304 : decode cL_holds 304 = .ok (.invokevirtual 29, 3) := by decide +kernel
theorem dL_holds_307 : decode cL_holds 307 = .ok (.ifCond .lt 87, 3) := by decide +kernel
theorem dL_holds_310 : decode cL_holds 310 = .ok (.aload_n 0, 1) := by decide +kernel
theorem dL_holds_311 : decode cL_holds 311 = .ok (.iconst 0, 1) := by decide +kernel
theorem dL_holds_312 : decode cL_holds 312 = .ok (.invokevirtual 29, 3) := by decide +kernel
theorem dL_holds_315 : decode cL_holds 315 = .ok (.aload_n 0, 1) := by decide +kernel
theorem dL_holds_316 : decode cL_holds 316 = .ok (.bipush 8, 2) := by decide +kernel
theorem dL_holds_318 : decode cL_holds 318 = .ok (.invokevirtual 29, 3) := by decide +kernel
theorem dL_holds_321 : decode cL_holds 321 = .ok (.iadd, 1) := by decide +kernel
theorem dL_holds_322 : decode cL_holds 322 = .ok (.aload_n 0, 1) := by decide +kernel
theorem dL_holds_323 : decode cL_holds 323 = .ok (.bipush 9, 2) := by decide +kernel
theorem dL_holds_325 : decode cL_holds 325 = .ok (.invokevirtual 29, 3) := by decide +kernel
theorem dL_holds_328 : decode cL_holds 328 = .ok (.iadd, 1) := by decide +kernel
theorem dL_holds_329 : decode cL_holds 329 = .ok (.aload_n 0, 1) := by decide +kernel
theorem dL_holds_330 : decode cL_holds 330 = .ok (.bipush 7, 2) := by decide +kernel
theorem dL_holds_332 : decode cL_holds 332 = .ok (.invokevirtual 29, 3) := by decide +kernel
theorem dL_holds_335 : decode cL_holds 335 = .ok (.if_icmp .ne 59, 3) := by decide +kernel
theorem dL_holds_338 : decode cL_holds 338 = .ok (.aload_n 0, 1) := by decide +kernel
theorem dL_holds_339 : decode cL_holds 339 = .ok (.iconst 3, 1) := by decide +kernel
theorem dL_holds_340 : decode cL_holds 340 = .ok (.invokevirtual 29, 3) := by decide +kernel
theorem dL_holds_343 : decode cL_holds 343 = .ok (.aload_n 0, 1) := by decide +kernel
theorem dL_holds_344 : decode cL_holds 344 = .ok (.iconst 1, 1) := by decide +kernel
theorem dL_holds_345 : decode cL_holds 345 = .ok (.invokevirtual 29, 3) := by decide +kernel
theorem dL_holds_348 : decode cL_holds 348 = .ok (.aload_n 0, 1) := by decide +kernel
theorem dL_holds_349 : decode cL_holds 349 = .ok (.iconst 2, 1) := by decide +kernel
theorem dL_holds_350 : decode cL_holds 350 = .ok (.invokevirtual 29, 3) := by decide +kernel
theorem dL_holds_353 : decode cL_holds 353 = .ok (.isub, 1) := by decide +kernel
theorem dL_holds_354 : decode cL_holds 354 = .ok (.if_icmp .ne 40, 3) := by decide +kernel
theorem dL_holds_357 : decode cL_holds 357 = .ok (.aload_n 0, 1) := by decide +kernel
theorem dL_holds_358 : decode cL_holds 358 = .ok (.iconst 2, 1) := by decide +kernel
theorem dL_holds_359 : decode cL_holds 359 = .ok (.invokevirtual 29, 3) := by decide +kernel
theorem dL_holds_362 : decode cL_holds 362 = .ok (.aload_n 0, 1) := by decide +kernel
theorem dL_holds_363 : decode cL_holds 363 = .ok (.iconst 0, 1) := by decide +kernel
theorem dL_holds_364 : decode cL_holds 364 = .ok (.invokevirtual 42, 3) := by decide +kernel
theorem dL_holds_367 : decode cL_holds 367 = .ok (.if_icmp .ne 27, 3) := by decide +kernel
theorem dL_holds_370 : decode cL_holds 370 = .ok (.aload_n 0, 1) := by decide +kernel
theorem dL_holds_371 : decode cL_holds 371 = .ok (.iconst 1, 1) := by decide +kernel
theorem dL_holds_372 : decode cL_holds 372 = .ok (.invokevirtual 29, 3) := by decide +kernel
theorem dL_holds_375 : decode cL_holds 375 = .ok (.aload_n 0, 1) := by decide +kernel
theorem dL_holds_376 : decode cL_holds 376 = .ok (.iconst 0, 1) := by decide +kernel
theorem dL_holds_377 : decode cL_holds 377 = .ok (.invokevirtual 29, 3) := by decide +kernel
theorem dL_holds_380 : decode cL_holds 380 = .ok (.aload_n 0, 1) := by decide +kernel
theorem dL_holds_381 : decode cL_holds 381 = .ok (.bipush 20, 2) := by decide +kernel
theorem dL_holds_383 : decode cL_holds 383 = .ok (.invokevirtual 9, 3) := by decide +kernel
theorem dL_holds_386 : decode cL_holds 386 = .ok (.idiv, 1) := by decide +kernel
theorem dL_holds_387 : decode cL_holds 387 = .ok (.if_icmp .ne 7, 3) := by decide +kernel
theorem dL_holds_390 : decode cL_holds 390 = .ok (.iconst 1, 1) := by decide +kernel
theorem dL_holds_391 : decode cL_holds 391 = .ok (.goto 4, 3) := by decide +kernel
theorem dL_holds_394 : decode cL_holds 394 = .ok (.iconst 0, 1) := by decide +kernel
theorem dL_holds_395 : decode cL_holds 395 = .ok (.istore_n 3, 1) := by decide +kernel
theorem dL_holds_396 : decode cL_holds 396 = .ok (.iload_n 3, 1) := by decide +kernel
theorem dL_holds_397 : decode cL_holds 397 = .ok (.ifCond .eq 91, 3) := by decide +kernel
theorem dL_holds_400 : decode cL_holds 400 = .ok (.aload_n 0, 1) := by decide +kernel
theorem dL_holds_401 : decode cL_holds 401 = .ok (.iconst (-1), 1) := by decide +kernel
theorem dL_holds_402 : decode cL_holds 402 = .ok (.iconst (-1), 1) := by decide +kernel
theorem dL_holds_403 : decode cL_holds 403 = .ok (.iconst 2, 1) := by decide +kernel
theorem dL_holds_404 : decode cL_holds 404 = .ok (.invokevirtual 19, 3) := by decide +kernel
theorem dL_holds_407 : decode cL_holds 407 = .ok (.aload_n 0, 1) := by decide +kernel
theorem dL_holds_408 : decode cL_holds 408 = .ok (.iconst (-1), 1) := by decide +kernel
theorem dL_holds_409 : decode cL_holds 409 = .ok (.iconst (-1), 1) := by decide +kernel
theorem dL_holds_410 : decode cL_holds 410 = .ok (.iconst 4, 1) := by decide +kernel
theorem dL_holds_411 : decode cL_holds 411 = .ok (.invokevirtual 19, 3) := by decide +kernel
theorem dL_holds_414 : decode cL_holds 414 = .ok (.aload_n 0, 1) := by decide +kernel
theorem dL_holds_415 : decode cL_holds 415 = .ok (.iconst (-1), 1) := by decide +kernel
theorem dL_holds_416 : decode cL_holds 416 = .ok (.iconst (-1), 1) := by decide +kernel
theorem dL_holds_417 : decode cL_holds 417 = .ok (.iconst 5, 1) := by decide +kernel
theorem dL_holds_418 : decode cL_holds 418 = .ok (.invokevirtual 19, 3) := by decide +kernel
theorem dL_holds_421 : decode cL_holds 421 = .ok (.iadd, 1) := by decide +kernel
theorem dL_holds_422 : decode cL_holds 422 = .ok (.aload_n 0, 1) := by decide +kernel
theorem dL_holds_423 : decode cL_holds 423 = .ok (.iconst (-1), 1) := by decide +kernel
theorem dL_holds_424 : decode cL_holds 424 = .ok (.iconst (-1), 1) := by decide +kernel
theorem dL_holds_425 : decode cL_holds 425 = .ok (.bipush 6, 2) := by decide +kernel
theorem dL_holds_427 : decode cL_holds 427 = .ok (.invokevirtual 19, 3) := by decide +kernel
theorem dL_holds_430 : decode cL_holds 430 = .ok (.iadd, 1) := by decide +kernel
theorem dL_holds_431 : decode cL_holds 431 = .ok (.aload_n 0, 1) := by decide +kernel
theorem dL_holds_432 : decode cL_holds 432 = .ok (.iconst (-1), 1) := by decide +kernel
theorem dL_holds_433 : decode cL_holds 433 = .ok (.iconst (-1), 1) := by decide +kernel
theorem dL_holds_434 : decode cL_holds 434 = .ok (.bipush 7, 2) := by decide +kernel
theorem dL_holds_436 : decode cL_holds 436 = .ok (.invokevirtual 19, 3) := by decide +kernel
theorem dL_holds_439 : decode cL_holds 439 = .ok (.iadd, 1) := by decide +kernel
theorem dL_holds_440 : decode cL_holds 440 = .ok (.aload_n 0, 1) := by decide +kernel
theorem dL_holds_441 : decode cL_holds 441 = .ok (.iconst (-1), 1) := by decide +kernel
theorem dL_holds_442 : decode cL_holds 442 = .ok (.iconst (-1), 1) := by decide +kernel
theorem dL_holds_443 : decode cL_holds 443 = .ok (.bipush 8, 2) := by decide +kernel
theorem dL_holds_445 : decode cL_holds 445 = .ok (.invokevirtual 19, 3) := by decide +kernel
theorem dL_holds_448 : decode cL_holds 448 = .ok (.iadd, 1) := by decide +kernel
theorem dL_holds_449 : decode cL_holds 449 = .ok (.aload_n 0, 1) := by decide +kernel
theorem dL_holds_450 : decode cL_holds 450 = .ok (.iconst (-1), 1) := by decide +kernel
theorem dL_holds_451 : decode cL_holds 451 = .ok (.iconst (-1), 1) := by decide +kernel
theorem dL_holds_452 : decode cL_holds 452 = .ok (.bipush 9, 2) := by decide +kernel
theorem dL_holds_454 : decode cL_holds 454 = .ok (.invokevirtual 19, 3) := by decide +kernel
theorem dL_holds_457 : decode cL_holds 457 = .ok (.iadd, 1) := by decide +kernel
theorem dL_holds_458 : decode cL_holds 458 = .ok (.aload_n 0, 1) := by decide +kernel
theorem dL_holds_459 : decode cL_holds 459 = .ok (.iconst (-1), 1) := by decide +kernel
theorem dL_holds_460 : decode cL_holds 460 = .ok (.iconst (-1), 1) := by decide +kernel
theorem dL_holds_461 : decode cL_holds 461 = .ok (.bipush 10, 2) := by decide +kernel
theorem dL_holds_463 : decode cL_holds 463 = .ok (.invokevirtual 19, 3) := by decide +kernel
theorem dL_holds_466 : decode cL_holds 466 = .ok (.iadd, 1) := by decide +kernel
theorem dL_holds_467 : decode cL_holds 467 = .ok (.if_icmp .ne 21, 3) := by decide +kernel
theorem dL_holds_470 : decode cL_holds 470 = .ok (.aload_n 0, 1) := by decide +kernel
theorem dL_holds_471 : decode cL_holds 471 = .ok (.invokestatic 45, 3) := by decide +kernel
theorem dL_holds_474 : decode cL_holds 474 = .ok (.ifCond .eq 14, 3) := by decide +kernel
theorem dL_holds_477 : decode cL_holds 477 = .ok (.aload_n 0, 1) := by decide +kernel
theorem dL_holds_478 : decode cL_holds 478 = .ok (.invokestatic 51, 3) := by decide +kernel
theorem dL_holds_481 : decode cL_holds 481 = .ok (.ifCond .eq 7, 3) := by decide +kernel
theorem dL_holds_484 : decode cL_holds 484 = .ok (.iconst 1, 1) := by decide +kernel
theorem dL_holds_485 : decode cL_holds 485 = .ok (.goto 4, 3) := by decide +kernel
theorem dL_holds_488 : decode cL_holds 488 = .ok (.iconst 0, 1) := by decide +kernel
theorem dL_holds_489 : decode cL_holds 489 = .ok (.ireturn, 1) := by decide +kernel
theorem dL_money_0 : decode cL_money 0 = .ok (.aload_n 0, 1) := by decide +kernel
theorem dL_money_1 : decode cL_money 1 = .ok (.iload_n 1, 1) := by decide +kernel
theorem dL_money_2 : decode cL_money 2 = .ok (.iconst 0, 1) := by decide +kernel
theorem dL_money_3 : decode cL_money 3 = .ok (.invokevirtual 15, 3) := by decide +kernel
theorem dL_money_6 : decode cL_money 6 = .ok (.istore_n 3, 1) := by decide +kernel
theorem dL_money_7 : decode cL_money 7 = .ok (.aload_n 0, 1) := by decide +kernel
theorem dL_money_8 : decode cL_money 8 = .ok (.iload_n 3, 1) := by decide +kernel
theorem dL_money_9 : decode cL_money 9 = .ok (.iconst 0, 1) := by decide +kernel
theorem dL_money_10 : decode cL_money 10 = .ok (.invokevirtual 26, 3) := by decide +kernel
theorem dL_money_13 : decode cL_money 13 = .ok (.istore 4, 2) := by decide +kernel
theorem dL_money_15 : decode cL_money 15 = .ok (.aload_n 0, 1) := by decide +kernel
theorem dL_money_16 : decode cL_money 16 = .ok (.iload_n 1, 1) := by decide +kernel
theorem dL_money_17 : decode cL_money 17 = .ok (.iconst 5, 1) := by decide +kernel
theorem dL_money_18 : decode cL_money 18 = .ok (.invokevirtual 15, 3) := by decide +kernel
theorem dL_money_21 : decode cL_money 21 = .ok (.istore 5, 2) := by decide +kernel
theorem dL_money_23 : decode cL_money 23 = .ok (.aload_n 0, 1) := by decide +kernel
theorem dL_money_24 : decode cL_money 24 = .ok (.iload_n 1, 1) := by decide +kernel
theorem dL_money_25 : decode cL_money 25 = .ok (.bipush 8, 2) := by decide +kernel
theorem dL_money_27 : decode cL_money 27 = .ok (.invokevirtual 15, 3) := by decide +kernel
theorem dL_money_30 : decode cL_money 30 = .ok (.istore 6, 2) := by decide +kernel
theorem dL_money_32 : decode cL_money 32 = .ok (.iload_n 2, 1) := by decide +kernel
theorem dL_money_33 : decode cL_money 33 = .ok (.iconst 2, 1) := by decide +kernel
theorem dL_money_34 : decode cL_money 34 = .ok (.irem, 1) := by decide +kernel
theorem dL_money_35 : decode cL_money 35 = .ok (.ifCond .ne 104, 3) := by decide +kernel
theorem dL_money_38 : decode cL_money 38 = .ok (.iconst 1, 1) := by decide +kernel
theorem dL_money_39 : decode cL_money 39 = .ok (.iload_n 2, 1) := by decide +kernel
theorem dL_money_40 : decode cL_money 40 = .ok (.iconst 2, 1) := by decide +kernel
theorem dL_money_41 : decode cL_money 41 = .ok (.idiv, 1) := by decide +kernel
theorem dL_money_42 : decode cL_money 42 = .ok (.bipush 9, 2) := by decide +kernel
theorem dL_money_44 : decode cL_money 44 = .ok (.irem, 1) := by decide +kernel
theorem dL_money_45 : decode cL_money 45 = .ok (.iadd, 1) := by decide +kernel
theorem dL_money_46 : decode cL_money 46 = .ok (.istore 7, 2) := by decide +kernel
theorem dL_money_48 : decode cL_money 48 = .ok (.aload_n 0, 1) := by decide +kernel
theorem dL_money_49 : decode cL_money 49 = .ok (.iload_n 1, 1) := by decide +kernel
theorem dL_money_50 : decode cL_money 50 = .ok (.iload 7, 2) := by decide +kernel
theorem dL_money_52 : decode cL_money 52 = .ok (.invokevirtual 54, 3) := by decide +kernel
theorem dL_money_55 : decode cL_money 55 = .ok (.istore 8, 2) := by decide +kernel
theorem dL_money_57 : decode cL_money 57 = .ok (.iload 8, 2) := by decide +kernel
theorem dL_money_59 : decode cL_money 59 = .ok (.ldc 57, 2) := by decide +kernel
theorem dL_money_61 : decode cL_money 61 = .ok (.if_icmp .ne 22, 3) := by decide +kernel
theorem dL_money_64 : decode cL_money 64 = .ok (.aload_n 0, 1) := by decide +kernel
theorem dL_money_65 : decode cL_money 65 = .ok (.iload_n 3, 1) := by decide +kernel
theorem dL_money_66 : decode cL_money 66 = .ok (.iconst 0, 1) := by decide +kernel
theorem dL_money_67 : decode cL_money 67 = .ok (.invokevirtual 26, 3) := by decide +kernel
theorem dL_money_70 : decode cL_money 70 = .ok (.iload 4, 2) := by decide +kernel
theorem dL_money_72 : decode cL_money 72 = .ok (.if_icmp .ne 7, 3) := by decide +kernel
theorem dL_money_75 : decode cL_money 75 = .ok (.iconst 1, 1) := by decide +kernel
theorem dL_money_76 : decode cL_money 76 = .ok (.goto 62, 3) := by decide +kernel
theorem dL_money_79 : decode cL_money 79 = .ok (.iconst 0, 1) := by decide +kernel
theorem dL_money_80 : decode cL_money 80 = .ok (.goto 58, 3) := by decide +kernel
theorem dL_money_83 : decode cL_money 83 = .ok (.iload 8, 2) := by decide +kernel
theorem dL_money_85 : decode cL_money 85 = .ok (.ifCond .lt 52, 3) := by decide +kernel
theorem dL_money_88 : decode cL_money 88 = .ok (.iload 6, 2) := by decide +kernel
theorem dL_money_90 : decode cL_money 90 = .ok (.ifCond .ne 47, 3) := by decide +kernel
theorem dL_money_93 : decode cL_money 93 = .ok (.aload_n 0, 1) := by decide +kernel
theorem dL_money_94 : decode cL_money 94 = .ok (.iload_n 3, 1) := by decide +kernel
theorem dL_money_95 : decode cL_money 95 = .ok (.iconst 0, 1) := by decide +kernel
theorem dL_money_96 : decode cL_money 96 = .ok (.invokevirtual 26, 3) := by decide +kernel
theorem dL_money_99 : decode cL_money 99 = .ok (.iload 4, 2) := by decide +kernel
theorem dL_money_101 : decode cL_money 101 = .ok (.iload 8, 2) := by decide +kernel
theorem dL_money_103 : decode cL_money 103 = .ok (.iadd, 1) := by decide +kernel
theorem dL_money_104 : decode cL_money 104 = .ok (.if_icmp .ne 33, 3) := by decide +kernel
theorem dL_money_107 : decode cL_money 107 = .ok (.aload_n 0, 1) := by decide +kernel
theorem dL_money_108 : decode cL_money 108 = .ok (.iload_n 1, 1) := by decide +kernel
theorem dL_money_109 : decode cL_money 109 = .ok (.iconst 5, 1) := by decide +kernel
theorem dL_money_110 : decode cL_money 110 = .ok (.invokevirtual 15, 3) := by decide +kernel
theorem dL_money_113 : decode cL_money 113 = .ok (.iload 5, 2) := by decide +kernel
theorem dL_money_115 : decode cL_money 115 = .ok (.iload 7, 2) := by decide +kernel
theorem dL_money_117 : decode cL_money 117 = .ok (.isub, 1) := by decide +kernel
theorem dL_money_118 : decode cL_money 118 = .ok (.if_icmp .ne 19, 3) := by decide +kernel
theorem dL_money_121 : decode cL_money 121 = .ok (.aload_n 0, 1) := by decide +kernel
theorem dL_money_122 : decode cL_money 122 = .ok (.iload_n 1, 1) := by decide +kernel
theorem dL_money_123 : decode cL_money 123 = .ok (.bipush 8, 2) := by decide +kernel
theorem dL_money_125 : decode cL_money 125 = .ok (.invokevirtual 15, 3) := by decide +kernel
theorem dL_money_128 : decode cL_money 128 = .ok (.iload 7, 2) := by decide +kernel
theorem dL_money_130 : decode cL_money 130 = .ok (.if_icmp .ne 7, 3) := by decide +kernel
theorem dL_money_133 : decode cL_money 133 = .ok (.iconst 1, 1) := by decide +kernel
theorem dL_money_134 : decode cL_money 134 = .ok (.goto 4, 3) := by decide +kernel
theorem dL_money_137 : decode cL_money 137 = .ok (.iconst 0, 1) := by decide +kernel
theorem dL_money_138 : decode cL_money 138 = .ok (.ireturn, 1) := by decide +kernel
theorem dL_money_139 : decode cL_money 139 = .ok (.aload_n 0, 1) := by decide +kernel
theorem dL_money_140 : decode cL_money 140 = .ok (.iload_n 1, 1) := by decide +kernel
theorem dL_money_141 : decode cL_money 141 = .ok (.invokevirtual 39, 3) := by decide +kernel
theorem dL_money_144 : decode cL_money 144 = .ok (.istore 7, 2) := by decide +kernel
theorem dL_money_146 : decode cL_money 146 = .ok (.aload_n 0, 1) := by decide +kernel
theorem dL_money_147 : decode cL_money 147 = .ok (.iload_n 1, 1) := by decide +kernel
theorem dL_money_148 : decode cL_money 148 = .ok (.invokevirtual 58, 3) := by decide +kernel
theorem dL_money_151 : decode cL_money 151 = .ok (.istore 8, 2) := by decide +kernel
theorem dL_money_153 : decode cL_money 153 = .ok (.iload 8, 2) := by decide +kernel
theorem dL_money_155 : decode cL_money 155 = .ok (.ldc 57, 2) := by decide +kernel
theorem dL_money_157 : decode cL_money 157 = .ok (.if_icmp .ne 30, 3) := by decide +kernel
theorem dL_money_160 : decode cL_money 160 = .ok (.iload 7, 2) := by decide +kernel
theorem dL_money_162 : decode cL_money 162 = .ok (.ifCond .lt 17, 3) := by decide +kernel
theorem dL_money_165 : decode cL_money 165 = .ok (.iload 7, 2) := by decide +kernel
theorem dL_money_167 : decode cL_money 167 = .ok (.iload 4, 2) := by decide +kernel
theorem dL_money_169 : decode cL_money 169 = .ok (.if_icmp .gt 10, 3) := by decide +kernel
theorem dL_money_172 : decode cL_money 172 = .ok (.iload 7, 2) := by decide +kernel
theorem dL_money_174 : decode cL_money 174 = .ok (.ldc 8, 2) := by decide +kernel
theorem dL_money_176 : decode cL_money 176 = .ok (.if_icmp .ne 7, 3) := by decide +kernel
theorem dL_money_179 : decode cL_money 179 = .ok (.iconst 1, 1) := by decide +kernel
theorem dL_money_180 : decode cL_money 180 = .ok (.goto 46, 3) := by decide +kernel
theorem dL_money_183 : decode cL_money 183 = .ok (.iconst 0, 1) := by decide +kernel
theorem dL_money_184 : decode cL_money 184 = .ok (.goto 42, 3) := by decide +kernel
theorem dL_money_187 : decode cL_money 187 = .ok (.iload 8, 2) := by decide +kernel
theorem dL_money_189 : decode cL_money 189 = .ok (.iload 4, 2) := by decide +kernel
theorem dL_money_191 : decode cL_money 191 = .ok (.iload 7, 2) := by decide +kernel
theorem dL_money_193 : decode cL_money 193 = .ok (.isub, 1) := by decide +kernel
theorem dL_money_194 : decode cL_money 194 = .ok (.if_icmp .ne 31, 3) := by decide +kernel
theorem dL_money_197 : decode cL_money 197 = .ok (.aload_n 0, 1) := by decide +kernel
theorem dL_money_198 : decode cL_money 198 = .ok (.iload_n 1, 1) := by decide +kernel
theorem dL_money_199 : decode cL_money 199 = .ok (.iconst 5, 1) := by decide +kernel
theorem dL_money_200 : decode cL_money 200 = .ok (.invokevirtual 15, 3) := by decide +kernel
theorem dL_money_203 : decode cL_money 203 = .ok (.iload 5, 2) := by decide +kernel
theorem dL_money_205 : decode cL_money 205 = .ok (.iload 6, 2) := by decide +kernel
theorem dL_money_207 : decode cL_money 207 = .ok (.iadd, 1) := by decide +kernel
theorem dL_money_208 : decode cL_money 208 = .ok (.if_icmp .ne 17, 3) := by decide +kernel
theorem dL_money_211 : decode cL_money 211 = .ok (.aload_n 0, 1) := by decide +kernel
theorem dL_money_212 : decode cL_money 212 = .ok (.iload_n 1, 1) := by decide +kernel
theorem dL_money_213 : decode cL_money 213 = .ok (.invokevirtual 39, 3) := by decide +kernel
theorem dL_money_216 : decode cL_money 216 = .ok (.ldc 35, 2) := by decide +kernel
theorem dL_money_218 : decode cL_money 218 = .ok (.if_icmp .ne 7, 3) := by decide +kernel
theorem dL_money_221 : decode cL_money 221 = .ok (.iconst 1, 1) := by decide +kernel
theorem dL_money_222 : decode cL_money 222 = .ok (.goto 4, 3) := by decide +kernel
theorem dL_money_225 : decode cL_money 225 = .ok (.iconst 0, 1) := by decide +kernel
theorem dL_money_226 : decode cL_money 226 = .ok (.ireturn, 1) := by decide +kernel
theorem dL_law_0 : decode cL_law 0 = .ok (.new 10, 3) := by decide +kernel
theorem dL_law_3 : decode cL_law 3 = .ok (.dup, 1) := by decide +kernel
theorem dL_law_4 : decode cL_law 4 = .ok (.invokespecial 61, 3) := by decide +kernel
theorem dL_law_7 : decode cL_law 7 = .ok (.astore_n 1, 1) := by decide +kernel
theorem dL_law_8 : decode cL_law 8 = .ok (.aload_n 1, 1) := by decide +kernel
theorem dL_law_9 : decode cL_law 9 = .ok (.invokestatic 62, 3) := by decide +kernel
theorem dL_law_12 : decode cL_law 12 = .ok (.ifCond .eq 16, 3) := by decide +kernel
theorem dL_law_15 : decode cL_law 15 = .ok (.aload_n 1, 1) := by decide +kernel
theorem dL_law_16 : decode cL_law 16 = .ok (.invokevirtual 65, 3) := by decide +kernel
theorem dL_law_19 : decode cL_law 19 = .ok (.ldc 57, 2) := by decide +kernel
theorem dL_law_21 : decode cL_law 21 = .ok (.if_icmp .ne 7, 3) := by decide +kernel
theorem dL_law_24 : decode cL_law 24 = .ok (.iconst 1, 1) := by decide +kernel
theorem dL_law_25 : decode cL_law 25 = .ok (.goto 4, 3) := by decide +kernel
theorem dL_law_28 : decode cL_law 28 = .ok (.iconst 0, 1) := by decide +kernel
theorem dL_law_29 : decode cL_law 29 = .ok (.istore_n 2, 1) := by decide +kernel
theorem dL_law_30 : decode cL_law 30 = .ok (.iconst 0, 1) := by decide +kernel
theorem dL_law_31 : decode cL_law 31 = .ok (.istore_n 3, 1) := by decide +kernel
theorem dL_law_32 : decode cL_law 32 = .ok (.iload_n 3, 1) := by decide +kernel
theorem dL_law_33 : decode cL_law 33 = .ok (.iconst 3, 1) := by decide +kernel
theorem dL_law_34 : decode cL_law 34 = .ok (.if_icmp .ge 69, 3) := by decide +kernel
theorem dL_law_37 : decode cL_law 37 = .ok (.iload_n 2, 1) := by decide +kernel
theorem dL_law_38 : decode cL_law 38 = .ok (.ifCond .eq 65, 3) := by decide +kernel
theorem dL_law_41 : decode cL_law 41 = .ok (.aload_n 0, 1) := by decide +kernel
theorem dL_law_42 : decode cL_law 42 = .ok (.iload_n 3, 1) := by decide +kernel
theorem dL_law_43 : decode cL_law 43 = .ok (.invokestatic 69, 3) := by decide +kernel
theorem dL_law_46 : decode cL_law 46 = .ok (.istore 4, 2) := by decide +kernel
theorem dL_law_48 : decode cL_law 48 = .ok (.aload_n 1, 1) := by decide +kernel
theorem dL_law_49 : decode cL_law 49 = .ok (.iconst 1, 1) := by decide +kernel
theorem dL_law_50 : decode cL_law 50 = .ok (.iload 4, 2) := by decide +kernel
theorem dL_law_52 : decode cL_law 52 = .ok (.bipush 9, 2) := by decide +kernel
theorem dL_law_54 : decode cL_law 54 = .ok (.irem, 1) := by decide +kernel
theorem dL_law_55 : decode cL_law 55 = .ok (.iadd, 1) := by decide +kernel
theorem dL_law_56 : decode cL_law 56 = .ok (.iload 4, 2) := by decide +kernel
theorem dL_law_58 : decode cL_law 58 = .ok (.bipush 16, 2) := by decide +kernel
theorem dL_law_60 : decode cL_law 60 = .ok (.idiv, 1) := by decide +kernel
theorem dL_law_61 : decode cL_law 61 = .ok (.bipush 21, 2) := by decide +kernel
theorem dL_law_63 : decode cL_law 63 = .ok (.irem, 1) := by decide +kernel
theorem dL_law_64 : decode cL_law 64 = .ok (.iconst 1, 1) := by decide +kernel
theorem dL_law_65 : decode cL_law 65 = .ok (.iload 4, 2) := by decide +kernel
theorem dL_law_67 : decode cL_law 67 = .ok (.sipush 512, 3) := by decide +kernel
theorem dL_law_70 : decode cL_law 70 = .ok (.idiv, 1) := by decide +kernel
theorem dL_law_71 : decode cL_law 71 = .ok (.sipush 5000, 3) := by decide +kernel
theorem dL_law_74 : decode cL_law 74 = .ok (.irem, 1) := by decide +kernel
theorem dL_law_75 : decode cL_law 75 = .ok (.iadd, 1) := by decide +kernel
theorem dL_law_76 : decode cL_law 76 = .ok (.invokevirtual 73, 3) := by decide +kernel
theorem dL_law_79 : decode cL_law 79 = .ok (.iload_n 3, 1) := by decide +kernel
theorem dL_law_80 : decode cL_law 80 = .ok (.if_icmp .ne 15, 3) := by decide +kernel
theorem dL_law_83 : decode cL_law 83 = .ok (.aload_n 1, 1) := by decide +kernel
theorem dL_law_84 : decode cL_law 84 = .ok (.invokevirtual 76, 3) := by decide +kernel
theorem dL_law_87 : decode cL_law 87 = .ok (.iload_n 3, 1) := by decide +kernel
theorem dL_law_88 : decode cL_law 88 = .ok (.if_icmp .ne 7, 3) := by decide +kernel
theorem dL_law_91 : decode cL_law 91 = .ok (.iconst 1, 1) := by decide +kernel
theorem dL_law_92 : decode cL_law 92 = .ok (.goto 4, 3) := by decide +kernel
theorem dL_law_95 : decode cL_law 95 = .ok (.iconst 0, 1) := by decide +kernel
theorem dL_law_96 : decode cL_law 96 = .ok (.istore_n 2, 1) := by decide +kernel
theorem dL_law_97 : decode cL_law 97 = .ok (.iinc 3 1, 3) := by decide +kernel
theorem dL_law_100 : decode cL_law 100 = .ok (.goto (-68), 3) := by decide +kernel
theorem dL_law_103 : decode cL_law 103 = .ok (.iconst 0, 1) := by decide +kernel
theorem dL_law_104 : decode cL_law 104 = .ok (.istore_n 3, 1) := by decide +kernel
theorem dL_law_105 : decode cL_law 105 = .ok (.iload_n 3, 1) := by decide +kernel
theorem dL_law_106 : decode cL_law 106 = .ok (.iconst 5, 1) := by decide +kernel
theorem dL_law_107 : decode cL_law 107 = .ok (.if_icmp .ge 56, 3) := by decide +kernel
theorem dL_law_110 : decode cL_law 110 = .ok (.iload_n 2, 1) := by decide +kernel
theorem dL_law_111 : decode cL_law 111 = .ok (.ifCond .eq 52, 3) := by decide +kernel
theorem dL_law_114 : decode cL_law 114 = .ok (.aload_n 0, 1) := by decide +kernel
theorem dL_law_115 : decode cL_law 115 = .ok (.iconst 3, 1) := by decide +kernel
theorem dL_law_116 : decode cL_law 116 = .ok (.iload_n 3, 1) := by decide +kernel
theorem dL_law_117 : decode cL_law 117 = .ok (.iadd, 1) := by decide +kernel
theorem dL_law_118 : decode cL_law 118 = .ok (.invokestatic 69, 3) := by decide +kernel
theorem dL_law_121 : decode cL_law 121 = .ok (.istore 4, 2) := by decide +kernel
theorem dL_law_123 : decode cL_law 123 = .ok (.aload_n 1, 1) := by decide +kernel
theorem dL_law_124 : decode cL_law 124 = .ok (.iload 4, 2) := by decide +kernel
theorem dL_law_126 : decode cL_law 126 = .ok (.iconst 3, 1) := by decide +kernel
theorem dL_law_127 : decode cL_law 127 = .ok (.irem, 1) := by decide +kernel
theorem dL_law_128 : decode cL_law 128 = .ok (.iload 4, 2) := by decide +kernel
theorem dL_law_130 : decode cL_law 130 = .ok (.iconst 4, 1) := by decide +kernel
theorem dL_law_131 : decode cL_law 131 = .ok (.idiv, 1) := by decide +kernel
theorem dL_law_132 : decode cL_law 132 = .ok (.iconst 3, 1) := by decide +kernel
theorem dL_law_133 : decode cL_law 133 = .ok (.irem, 1) := by decide +kernel
theorem dL_law_134 : decode cL_law 134 = .ok (.iconst 1, 1) := by decide +kernel
theorem dL_law_135 : decode cL_law 135 = .ok (.iload 4, 2) := by decide +kernel
theorem dL_law_137 : decode cL_law 137 = .ok (.bipush 16, 2) := by decide +kernel
theorem dL_law_139 : decode cL_law 139 = .ok (.idiv, 1) := by decide +kernel
theorem dL_law_140 : decode cL_law 140 = .ok (.bipush 30, 2) := by decide +kernel
theorem dL_law_142 : decode cL_law 142 = .ok (.irem, 1) := by decide +kernel
theorem dL_law_143 : decode cL_law 143 = .ok (.iadd, 1) := by decide +kernel
theorem dL_law_144 : decode cL_law 144 = .ok (.invokevirtual 79, 3) := by decide +kernel
theorem dL_law_147 : decode cL_law 147 = .ok (.iload_n 3, 1) := by decide +kernel
theorem dL_law_148 : decode cL_law 148 = .ok (.if_icmp .ne 7, 3) := by decide +kernel
theorem dL_law_151 : decode cL_law 151 = .ok (.iconst 1, 1) := by decide +kernel
theorem dL_law_152 : decode cL_law 152 = .ok (.goto 4, 3) := by decide +kernel
theorem dL_law_155 : decode cL_law 155 = .ok (.iconst 0, 1) := by decide +kernel
theorem dL_law_156 : decode cL_law 156 = .ok (.istore_n 2, 1) := by decide +kernel
theorem dL_law_157 : decode cL_law 157 = .ok (.iinc 3 1, 3) := by decide +kernel
theorem dL_law_160 : decode cL_law 160 = .ok (.goto (-55), 3) := by decide +kernel
theorem dL_law_163 : decode cL_law 163 = .ok (.iload_n 2, 1) := by decide +kernel
theorem dL_law_164 : decode cL_law 164 = .ok (.ifCond .eq 70, 3) := by decide +kernel
theorem dL_law_167 : decode cL_law 167 = .ok (.aload_n 1, 1) := by decide +kernel
theorem dL_law_168 : decode cL_law 168 = .ok (.iconst 1, 1) := by decide +kernel
theorem dL_law_169 : decode cL_law 169 = .ok (.aload_n 0, 1) := by decide +kernel
theorem dL_law_170 : decode cL_law 170 = .ok (.bipush 8, 2) := by decide +kernel
theorem dL_law_172 : decode cL_law 172 = .ok (.invokestatic 69, 3) := by decide +kernel
theorem dL_law_175 : decode cL_law 175 = .ok (.iconst 3, 1) := by decide +kernel
theorem dL_law_176 : decode cL_law 176 = .ok (.irem, 1) := by decide +kernel
theorem dL_law_177 : decode cL_law 177 = .ok (.iadd, 1) := by decide +kernel
theorem dL_law_178 : decode cL_law 178 = .ok (.invokevirtual 82, 3) := by decide +kernel
theorem dL_law_181 : decode cL_law 181 = .ok (.ifCond .ne 53, 3) := by decide +kernel
theorem dL_law_184 : decode cL_law 184 = .ok (.aload_n 1, 1) := by decide +kernel
theorem dL_law_185 : decode cL_law 185 = .ok (.bipush 7, 2) := by decide +kernel
theorem dL_law_187 : decode cL_law 187 = .ok (.aload_n 0, 1) := by decide +kernel
theorem dL_law_188 : decode cL_law 188 = .ok (.bipush 9, 2) := by decide +kernel
theorem dL_law_190 : decode cL_law 190 = .ok (.invokestatic 69, 3) := by decide +kernel
theorem dL_law_193 : decode cL_law 193 = .ok (.sipush 200, 3) := by decide +kernel
theorem dL_law_196 : decode cL_law 196 = .ok (.irem, 1) := by decide +kernel
theorem dL_law_197 : decode cL_law 197 = .ok (.invokevirtual 85, 3) := by decide +kernel
theorem dL_law_200 : decode cL_law 200 = .ok (.sipush 200, 3) := by decide +kernel
theorem dL_law_203 : decode cL_law 203 = .ok (.if_icmp .ne 31, 3) := by decide +kernel
theorem dL_law_206 : decode cL_law 206 = .ok (.aload_n 1, 1) := by decide +kernel
theorem dL_law_207 : decode cL_law 207 = .ok (.bipush 12, 2) := by decide +kernel
theorem dL_law_209 : decode cL_law 209 = .ok (.aload_n 0, 1) := by decide +kernel
theorem dL_law_210 : decode cL_law 210 = .ok (.bipush 10, 2) := by decide +kernel
theorem dL_law_212 : decode cL_law 212 = .ok (.invokestatic 69, 3) := by decide +kernel
theorem dL_law_215 : decode cL_law 215 = .ok (.iconst 4, 1) := by decide +kernel
theorem dL_law_216 : decode cL_law 216 = .ok (.irem, 1) := by decide +kernel
theorem dL_law_217 : decode cL_law 217 = .ok (.invokevirtual 85, 3) := by decide +kernel
theorem dL_law_220 : decode cL_law 220 = .ok (.ifCond .ne 14, 3) := by decide +kernel
theorem dL_law_223 : decode cL_law 223 = .ok (.aload_n 1, 1) := by decide +kernel
theorem dL_law_224 : decode cL_law 224 = .ok (.invokestatic 62, 3) := by decide +kernel
theorem dL_law_227 : decode cL_law 227 = .ok (.ifCond .eq 7, 3) := by decide +kernel
theorem dL_law_230 : decode cL_law 230 = .ok (.iconst 1, 1) := by decide +kernel
theorem dL_law_231 : decode cL_law 231 = .ok (.goto 4, 3) := by decide +kernel
theorem dL_law_234 : decode cL_law 234 = .ok (.iconst 0, 1) := by decide +kernel
theorem dL_law_235 : decode cL_law 235 = .ok (.istore_n 2, 1) := by decide +kernel
theorem dL_law_236 : decode cL_law 236 = .ok (.iconst 0, 1) := by decide +kernel
theorem dL_law_237 : decode cL_law 237 = .ok (.istore_n 3, 1) := by decide +kernel
theorem dL_law_238 : decode cL_law 238 = .ok (.iload_n 3, 1) := by decide +kernel
theorem dL_law_239 : decode cL_law 239 = .ok (.bipush 28, 2) := by decide +kernel
theorem dL_law_241 : decode cL_law 241 = .ok (.if_icmp .ge 508, 3) := by decide +kernel
theorem dL_law_244 : decode cL_law 244 = .ok (.iload_n 2, 1) := by decide +kernel
theorem dL_law_245 : decode cL_law 245 = .ok (.ifCond .eq 504, 3) := by decide +kernel
theorem dL_law_248 : decode cL_law 248 = .ok (.aload_n 0, 1) := by decide +kernel
theorem dL_law_249 : decode cL_law 249 = .ok (.bipush 11, 2) := by decide +kernel
theorem dL_law_251 : decode cL_law 251 = .ok (.iload_n 3, 1) := by decide +kernel
theorem dL_law_252 : decode cL_law 252 = .ok (.iadd, 1) := by decide +kernel
theorem dL_law_253 : decode cL_law 253 = .ok (.invokestatic 69, 3) := by decide +kernel
theorem dL_law_256 : decode cL_law 256 = .ok (.istore 4, 2) := by decide +kernel
theorem dL_law_258 : decode cL_law 258 = .ok (.iload 4, 2) := by decide +kernel
theorem dL_law_260 : decode cL_law 260 = .ok (.bipush 8, 2) := by decide +kernel
theorem dL_law_262 : decode cL_law 262 = .ok (.idiv, 1) := by decide +kernel
theorem dL_law_263 : decode cL_law 263 = .ok (.istore 5, 2) := by decide +kernel
theorem dL_law_265 : decode cL_law 265 = .ok (.iload 5, 2) := by decide +kernel
theorem dL_law_267 : decode cL_law 267 = .ok (.aload_n 1, 1) := by decide +kernel
theorem dL_law_268 : decode cL_law 268 = .ok (.iconst 2, 1) := by decide +kernel
theorem dL_law_269 : decode cL_law 269 = .ok (.invokevirtual 9, 3) := by decide +kernel
theorem dL_law_272 : decode cL_law 272 = .ok (.irem, 1) := by decide +kernel
theorem dL_law_273 : decode cL_law 273 = .ok (.istore 6, 2) := by decide +kernel
theorem dL_law_275 : decode cL_law 275 = .ok (.aload_n 1, 1) := by decide +kernel
theorem dL_law_276 : decode cL_law 276 = .ok (.bipush 7, 2) := by decide +kernel
theorem dL_law_278 : decode cL_law 278 = .ok (.invokevirtual 9, 3) := by decide +kernel
theorem dL_law_281 : decode cL_law 281 = .ok (.istore 7, 2) := by decide +kernel
theorem dL_law_283 : decode cL_law 283 = .ok (.iload 4, 2) := by decide +kernel
theorem dL_law_285 : decode cL_law 285 = .ok (.bipush 8, 2) := by decide +kernel
theorem dL_law_287 : decode cL_law 287 = .ok (.irem, 1) := by decide +kernel
theorem dL_law_288 : decode cL_law 288 = .ok (.tableswitch 392 0 5 #[40, 94, 153, 224, 285, 377], 40) := by decide +kernel
theorem dL_law_328 : decode cL_law 328 = .ok (.iload 5, 2) := by decide +kernel
theorem dL_law_330 : decode cL_law 330 = .ok (.bipush 40, 2) := by decide +kernel
theorem dL_law_332 : decode cL_law 332 = .ok (.irem, 1) := by decide +kernel
theorem dL_law_333 : decode cL_law 333 = .ok (.istore 8, 2) := by decide +kernel
theorem dL_law_335 : decode cL_law 335 = .ok (.aload_n 1, 1) := by decide +kernel
theorem dL_law_336 : decode cL_law 336 = .ok (.iconst 3, 1) := by decide +kernel
theorem dL_law_337 : decode cL_law 337 = .ok (.iload 8, 2) := by decide +kernel
theorem dL_law_339 : decode cL_law 339 = .ok (.invokevirtual 85, 3) := by decide +kernel
theorem dL_law_342 : decode cL_law 342 = .ok (.ifCond .lt 35, 3) := by decide +kernel
theorem dL_law_345 : decode cL_law 345 = .ok (.aload_n 1, 1) := by decide +kernel
theorem dL_law_346 : decode cL_law 346 = .ok (.bipush 23, 2) := by decide +kernel
theorem dL_law_348 : decode cL_law 348 = .ok (.invokevirtual 9, 3) := by decide +kernel
theorem dL_law_351 : decode cL_law 351 = .ok (.iload 8, 2) := by decide +kernel
theorem dL_law_353 : decode cL_law 353 = .ok (.if_icmp .ne 24, 3) := by decide +kernel
theorem dL_law_356 : decode cL_law 356 = .ok (.aload_n 1, 1) := by decide +kernel
theorem dL_law_357 : decode cL_law 357 = .ok (.iconst 5, 1) := by decide +kernel
theorem dL_law_358 : decode cL_law 358 = .ok (.iload 5, 2) := by decide +kernel
theorem dL_law_360 : decode cL_law 360 = .ok (.bipush 64, 2) := by decide +kernel
theorem dL_law_362 : decode cL_law 362 = .ok (.idiv, 1) := by decide +kernel
theorem dL_law_363 : decode cL_law 363 = .ok (.sipush 200, 3) := by decide +kernel
theorem dL_law_366 : decode cL_law 366 = .ok (.irem, 1) := by decide +kernel
theorem dL_law_367 : decode cL_law 367 = .ok (.invokevirtual 85, 3) := by decide +kernel
theorem dL_law_370 : decode cL_law 370 = .ok (.ifCond .lt 7, 3) := by decide +kernel
theorem dL_law_373 : decode cL_law 373 = .ok (.iconst 1, 1) := by decide +kernel
theorem dL_law_374 : decode cL_law 374 = .ok (.goto 4, 3) := by decide +kernel
theorem dL_law_377 : decode cL_law 377 = .ok (.iconst 0, 1) := by decide +kernel
theorem dL_law_378 : decode cL_law 378 = .ok (.istore_n 2, 1) := by decide +kernel
theorem dL_law_379 : decode cL_law 379 = .ok (.goto 347, 3) := by decide +kernel
theorem dL_law_382 : decode cL_law 382 = .ok (.aload_n 1, 1) := by decide +kernel
theorem dL_law_383 : decode cL_law 383 = .ok (.iload 5, 2) := by decide +kernel
theorem dL_law_385 : decode cL_law 385 = .ok (.iconst 4, 1) := by decide +kernel
theorem dL_law_386 : decode cL_law 386 = .ok (.irem, 1) := by decide +kernel
theorem dL_law_387 : decode cL_law 387 = .ok (.invokevirtual 82, 3) := by decide +kernel
theorem dL_law_390 : decode cL_law 390 = .ok (.ifCond .lt 46, 3) := by decide +kernel
theorem dL_law_393 : decode cL_law 393 = .ok (.aload_n 1, 1) := by decide +kernel
theorem dL_law_394 : decode cL_law 394 = .ok (.iload 5, 2) := by decide +kernel
theorem dL_law_396 : decode cL_law 396 = .ok (.iconst 4, 1) := by decide +kernel
theorem dL_law_397 : decode cL_law 397 = .ok (.idiv, 1) := by decide +kernel
theorem dL_law_398 : decode cL_law 398 = .ok (.iconst 2, 1) := by decide +kernel
theorem dL_law_399 : decode cL_law 399 = .ok (.irem, 1) := by decide +kernel
theorem dL_law_400 : decode cL_law 400 = .ok (.invokevirtual 88, 3) := by decide +kernel
theorem dL_law_403 : decode cL_law 403 = .ok (.ifCond .lt 33, 3) := by decide +kernel
theorem dL_law_406 : decode cL_law 406 = .ok (.aload_n 1, 1) := by decide +kernel
theorem dL_law_407 : decode cL_law 407 = .ok (.iconst 4, 1) := by decide +kernel
theorem dL_law_408 : decode cL_law 408 = .ok (.invokevirtual 29, 3) := by decide +kernel
theorem dL_law_411 : decode cL_law 411 = .ok (.iload 5, 2) := by decide +kernel
theorem dL_law_413 : decode cL_law 413 = .ok (.iconst 4, 1) := by decide +kernel
theorem dL_law_414 : decode cL_law 414 = .ok (.irem, 1) := by decide +kernel
theorem dL_law_415 : decode cL_law 415 = .ok (.if_icmp .ne 21, 3) := by decide +kernel
theorem dL_law_418 : decode cL_law 418 = .ok (.aload_n 1, 1) := by decide +kernel
theorem dL_law_419 : decode cL_law 419 = .ok (.iconst 5, 1) := by decide +kernel
theorem dL_law_420 : decode cL_law 420 = .ok (.invokevirtual 29, 3) := by decide +kernel
theorem dL_law_423 : decode cL_law 423 = .ok (.iload 5, 2) := by decide +kernel
theorem dL_law_425 : decode cL_law 425 = .ok (.iconst 4, 1) := by decide +kernel
theorem dL_law_426 : decode cL_law 426 = .ok (.idiv, 1) := by decide +kernel
theorem dL_law_427 : decode cL_law 427 = .ok (.iconst 2, 1) := by decide +kernel
theorem dL_law_428 : decode cL_law 428 = .ok (.irem, 1) := by decide +kernel
theorem dL_law_429 : decode cL_law 429 = .ok (.if_icmp .ne 7, 3) := by decide +kernel
theorem dL_law_432 : decode cL_law 432 = .ok (.iconst 1, 1) := by decide +kernel
theorem dL_law_433 : decode cL_law 433 = .ok (.goto 4, 3) := by decide +kernel
theorem dL_law_436 : decode cL_law 436 = .ok (.iconst 0, 1) := by decide +kernel
theorem dL_law_437 : decode cL_law 437 = .ok (.istore_n 2, 1) := by decide +kernel
theorem dL_law_438 : decode cL_law 438 = .ok (.goto 288, 3) := by decide +kernel
theorem dL_law_441 : decode cL_law 441 = .ok (.aload_n 1, 1) := by decide +kernel
theorem dL_law_442 : decode cL_law 442 = .ok (.iload 6, 2) := by decide +kernel
theorem dL_law_444 : decode cL_law 444 = .ok (.iconst 3, 1) := by decide +kernel
theorem dL_law_445 : decode cL_law 445 = .ok (.invokevirtual 15, 3) := by decide +kernel
theorem dL_law_448 : decode cL_law 448 = .ok (.istore 9, 2) := by decide +kernel
theorem dL_law_450 : decode cL_law 450 = .ok (.aload_n 1, 1) := by decide +kernel
theorem dL_law_451 : decode cL_law 451 = .ok (.iload 6, 2) := by decide +kernel
theorem dL_law_453 : decode cL_law 453 = .ok (.invokevirtual 91, 3) := by decide +kernel
theorem dL_law_456 : decode cL_law 456 = .ok (.istore 10, 2) := by decide +kernel
theorem dL_law_458 : decode cL_law 458 = .ok (.iload 9, 2) := by decide +kernel
theorem dL_law_460 : decode cL_law 460 = .ok (.ifCond .ne 36, 3) := by decide +kernel
theorem dL_law_463 : decode cL_law 463 = .ok (.iload 10, 2) := by decide +kernel
theorem dL_law_465 : decode cL_law 465 = .ok (.aload_n 1, 1) := by decide +kernel
theorem dL_law_466 : decode cL_law 466 = .ok (.iload 6, 2) := by decide +kernel
theorem dL_law_468 : decode cL_law 468 = .ok (.iconst 2, 1) := by decide +kernel
theorem dL_law_469 : decode cL_law 469 = .ok (.invokevirtual 15, 3) := by decide +kernel
theorem dL_law_472 : decode cL_law 472 = .ok (.if_icmp .ne 20, 3) := by decide +kernel
theorem dL_law_475 : decode cL_law 475 = .ok (.aload_n 1, 1) := by decide +kernel
theorem dL_law_476 : decode cL_law 476 = .ok (.iload 6, 2) := by decide +kernel
theorem dL_law_478 : decode cL_law 478 = .ok (.bipush 10, 2) := by decide +kernel
theorem dL_law_480 : decode cL_law 480 = .ok (.invokevirtual 15, 3) := by decide +kernel
theorem dL_law_483 : decode cL_law 483 = .ok (.iload 10, 2) := by decide +kernel
theorem dL_law_485 : decode cL_law 485 = .ok (.if_icmp .ne 7, 3) := by decide +kernel
theorem dL_law_488 : decode cL_law 488 = .ok (.iconst 1, 1) := by decide +kernel
theorem dL_law_489 : decode cL_law 489 = .ok (.goto 19, 3) := by decide +kernel
theorem dL_law_492 : decode cL_law 492 = .ok (.iconst 0, 1) := by decide +kernel
theorem dL_law_493 : decode cL_law 493 = .ok (.goto 15, 3) := by decide +kernel
theorem dL_law_496 : decode cL_law 496 = .ok (.iload 10, 2) := by decide +kernel
theorem dL_law_498 : decode cL_law 498 = .ok (.ldc 57, 2) := by decide +kernel
theorem dL_law_500 : decode cL_law 500 = .ok (.if_icmp .ne 7, 3) := by decide +kernel
theorem dL_law_503 : decode cL_law 503 = .ok (.iconst 1, 1) := by decide +kernel
theorem dL_law_504 : decode cL_law 504 = .ok (.goto 4, 3) := by decide +kernel
theorem dL_law_507 : decode cL_law 507 = .ok (.iconst 0, 1) := by decide +kernel
theorem dL_law_508 : decode cL_law 508 = .ok (.istore_n 2, 1) := by decide +kernel
theorem dL_law_509 : decode cL_law 509 = .ok (.goto 217, 3) := by decide +kernel
theorem dL_law_512 : decode cL_law 512 = .ok (.aload_n 1, 1) := by decide +kernel
theorem dL_law_513 : decode cL_law 513 = .ok (.iload 6, 2) := by decide +kernel
theorem dL_law_515 : decode cL_law 515 = .ok (.iconst 5, 1) := by decide +kernel
theorem dL_law_516 : decode cL_law 516 = .ok (.invokevirtual 15, 3) := by decide +kernel
theorem dL_law_519 : decode cL_law 519 = .ok (.istore 11, 2) := by decide +kernel
theorem dL_law_521 : decode cL_law 521 = .ok (.aload_n 1, 1) := by decide +kernel
theorem dL_law_522 : decode cL_law 522 = .ok (.iload 6, 2) := by decide +kernel
theorem dL_law_524 : decode cL_law 524 = .ok (.invokevirtual 94, 3) := by decide +kernel
theorem dL_law_527 : decode cL_law 527 = .ok (.istore 12, 2) := by decide +kernel
theorem dL_law_529 : decode cL_law 529 = .ok (.iload 12, 2) := by decide +kernel
theorem dL_law_531 : decode cL_law 531 = .ok (.ldc 57, 2) := by decide +kernel
theorem dL_law_533 : decode cL_law 533 = .ok (.if_icmp .eq 31, 3) := by decide +kernel
theorem dL_law_536 : decode cL_law 536 = .ok (.iload 12, 2) := by decide +kernel
theorem dL_law_538 : decode cL_law 538 = .ok (.iload 11, 2) := by decide +kernel
theorem dL_law_540 : decode cL_law 540 = .ok (.if_icmp .ne 28, 3) := by decide +kernel
theorem dL_law_543 : decode cL_law 543 = .ok (.aload_n 1, 1) := by decide +kernel
theorem dL_law_544 : decode cL_law 544 = .ok (.iload 6, 2) := by decide +kernel
theorem dL_law_546 : decode cL_law 546 = .ok (.iconst 3, 1) := by decide +kernel
theorem dL_law_547 : decode cL_law 547 = .ok (.invokevirtual 15, 3) := by decide +kernel
theorem dL_law_550 : decode cL_law 550 = .ok (.iconst 3, 1) := by decide +kernel
theorem dL_law_551 : decode cL_law 551 = .ok (.if_icmp .ne 17, 3) := by decide +kernel
theorem dL_law_554 : decode cL_law 554 = .ok (.aload_n 1, 1) := by decide +kernel
theorem dL_law_555 : decode cL_law 555 = .ok (.iload 6, 2) := by decide +kernel
theorem dL_law_557 : decode cL_law 557 = .ok (.iconst 5, 1) := by decide +kernel
theorem dL_law_558 : decode cL_law 558 = .ok (.invokevirtual 15, 3) := by decide +kernel
theorem dL_law_561 : decode cL_law 561 = .ok (.ifCond .ne 7, 3) := by decide +kernel
theorem dL_law_564 : decode cL_law 564 = .ok (.iconst 1, 1) := by decide +kernel
theorem dL_law_565 : decode cL_law 565 = .ok (.goto 4, 3) := by decide +kernel
theorem dL_law_568 : decode cL_law 568 = .ok (.iconst 0, 1) := by decide +kernel
theorem dL_law_569 : decode cL_law 569 = .ok (.istore_n 2, 1) := by decide +kernel
theorem dL_law_570 : decode cL_law 570 = .ok (.goto 156, 3) := by decide +kernel
theorem dL_law_573 : decode cL_law 573 = .ok (.aload_n 1, 1) := by decide +kernel
theorem dL_law_574 : decode cL_law 574 = .ok (.iload 5, 2) := by decide +kernel
theorem dL_law_576 : decode cL_law 576 = .ok (.iconst 3, 1) := by decide +kernel
theorem dL_law_577 : decode cL_law 577 = .ok (.irem, 1) := by decide +kernel
theorem dL_law_578 : decode cL_law 578 = .ok (.iload 5, 2) := by decide +kernel
theorem dL_law_580 : decode cL_law 580 = .ok (.iconst 4, 1) := by decide +kernel
theorem dL_law_581 : decode cL_law 581 = .ok (.idiv, 1) := by decide +kernel
theorem dL_law_582 : decode cL_law 582 = .ok (.iconst 3, 1) := by decide +kernel
theorem dL_law_583 : decode cL_law 583 = .ok (.irem, 1) := by decide +kernel
theorem dL_law_584 : decode cL_law 584 = .ok (.iconst 1, 1) := by decide +kernel
theorem dL_law_585 : decode cL_law 585 = .ok (.iload 5, 2) := by decide +kernel
theorem dL_law_587 : decode cL_law 587 = .ok (.bipush 16, 2) := by decide +kernel
theorem dL_law_589 : decode cL_law 589 = .ok (.idiv, 1) := by decide +kernel
theorem dL_law_590 : decode cL_law 590 = .ok (.bipush 40, 2) := by decide +kernel
theorem dL_law_592 : decode cL_law 592 = .ok (.irem, 1) := by decide +kernel
theorem dL_law_593 : decode cL_law 593 = .ok (.iadd, 1) := by decide +kernel
theorem dL_law_594 : decode cL_law 594 = .ok (.invokevirtual 79, 3) := by decide +kernel
theorem dL_law_597 : decode cL_law 597 = .ok (.istore 13, 2) := by decide +kernel
theorem dL_law_599 : decode cL_law 599 = .ok (.iload 13, 2) := by decide +kernel
theorem dL_law_601 : decode cL_law 601 = .ok (.ldc 97, 2) := by decide +kernel
theorem dL_law_603 : decode cL_law 603 = .ok (.if_icmp .ne 21, 3) := by decide +kernel
theorem dL_law_606 : decode cL_law 606 = .ok (.aload_n 1, 1) := by decide +kernel
theorem dL_law_607 : decode cL_law 607 = .ok (.iconst 2, 1) := by decide +kernel
theorem dL_law_608 : decode cL_law 608 = .ok (.invokevirtual 9, 3) := by decide +kernel
theorem dL_law_611 : decode cL_law 611 = .ok (.bipush 24, 2) := by decide +kernel
theorem dL_law_613 : decode cL_law 613 = .ok (.if_icmp .ne 7, 3) := by decide +kernel
theorem dL_law_616 : decode cL_law 616 = .ok (.iconst 1, 1) := by decide +kernel
theorem dL_law_617 : decode cL_law 617 = .ok (.goto 44, 3) := by decide +kernel
theorem dL_law_620 : decode cL_law 620 = .ok (.iconst 0, 1) := by decide +kernel
theorem dL_law_621 : decode cL_law 621 = .ok (.goto 40, 3) := by decide +kernel
theorem dL_law_624 : decode cL_law 624 = .ok (.iload 13, 2) := by decide +kernel
theorem dL_law_626 : decode cL_law 626 = .ok (.aload_n 1, 1) := by decide +kernel
theorem dL_law_627 : decode cL_law 627 = .ok (.iconst 2, 1) := by decide +kernel
theorem dL_law_628 : decode cL_law 628 = .ok (.invokevirtual 9, 3) := by decide +kernel
theorem dL_law_631 : decode cL_law 631 = .ok (.iconst 1, 1) := by decide +kernel
theorem dL_law_632 : decode cL_law 632 = .ok (.isub, 1) := by decide +kernel
theorem dL_law_633 : decode cL_law 633 = .ok (.if_icmp .ne 27, 3) := by decide +kernel
theorem dL_law_636 : decode cL_law 636 = .ok (.aload_n 1, 1) := by decide +kernel
theorem dL_law_637 : decode cL_law 637 = .ok (.iload 13, 2) := by decide +kernel
theorem dL_law_639 : decode cL_law 639 = .ok (.iconst 4, 1) := by decide +kernel
theorem dL_law_640 : decode cL_law 640 = .ok (.invokevirtual 15, 3) := by decide +kernel
theorem dL_law_643 : decode cL_law 643 = .ok (.iconst 1, 1) := by decide +kernel
theorem dL_law_644 : decode cL_law 644 = .ok (.iload 5, 2) := by decide +kernel
theorem dL_law_646 : decode cL_law 646 = .ok (.bipush 16, 2) := by decide +kernel
theorem dL_law_648 : decode cL_law 648 = .ok (.idiv, 1) := by decide +kernel
theorem dL_law_649 : decode cL_law 649 = .ok (.bipush 40, 2) := by decide +kernel
theorem dL_law_651 : decode cL_law 651 = .ok (.irem, 1) := by decide +kernel
theorem dL_law_652 : decode cL_law 652 = .ok (.iadd, 1) := by decide +kernel
theorem dL_law_653 : decode cL_law 653 = .ok (.if_icmp .ne 7, 3) := by decide +kernel
theorem dL_law_656 : decode cL_law 656 = .ok (.iconst 1, 1) := by decide +kernel
theorem dL_law_657 : decode cL_law 657 = .ok (.goto 4, 3) := by decide +kernel
theorem dL_law_660 : decode cL_law 660 = .ok (.iconst 0, 1) := by decide +kernel
theorem dL_law_661 : decode cL_law 661 = .ok (.istore_n 2, 1) := by decide +kernel
theorem dL_law_662 : decode cL_law 662 = .ok (.goto 64, 3) := by decide +kernel
theorem dL_law_665 : decode cL_law 665 = .ok (.aload_n 1, 1) := by decide +kernel
theorem dL_law_666 : decode cL_law 666 = .ok (.iload 6, 2) := by decide +kernel
theorem dL_law_668 : decode cL_law 668 = .ok (.iload 5, 2) := by decide +kernel
theorem dL_law_670 : decode cL_law 670 = .ok (.bipush 32, 2) := by decide +kernel
theorem dL_law_672 : decode cL_law 672 = .ok (.idiv, 1) := by decide +kernel
theorem dL_law_673 : decode cL_law 673 = .ok (.invokestatic 98, 3) := by decide +kernel
theorem dL_law_676 : decode cL_law 676 = .ok (.istore_n 2, 1) := by decide +kernel
theorem dL_law_677 : decode cL_law 677 = .ok (.goto 49, 3) := by decide +kernel
theorem dL_law_680 : decode cL_law 680 = .ok (.iconst 1, 1) := by decide +kernel
theorem dL_law_681 : decode cL_law 681 = .ok (.iload 5, 2) := by decide +kernel
theorem dL_law_683 : decode cL_law 683 = .ok (.bipush 120, 2) := by decide +kernel
theorem dL_law_685 : decode cL_law 685 = .ok (.irem, 1) := by decide +kernel
theorem dL_law_686 : decode cL_law 686 = .ok (.iadd, 1) := by decide +kernel
theorem dL_law_687 : decode cL_law 687 = .ok (.istore 14, 2) := by decide +kernel
theorem dL_law_689 : decode cL_law 689 = .ok (.aload_n 1, 1) := by decide +kernel
theorem dL_law_690 : decode cL_law 690 = .ok (.iload 14, 2) := by decide +kernel
theorem dL_law_692 : decode cL_law 692 = .ok (.invokevirtual 102, 3) := by decide +kernel
theorem dL_law_695 : decode cL_law 695 = .ok (.iload 7, 2) := by decide +kernel
theorem dL_law_697 : decode cL_law 697 = .ok (.iload 14, 2) := by decide +kernel
theorem dL_law_699 : decode cL_law 699 = .ok (.iadd, 1) := by decide +kernel
theorem dL_law_700 : decode cL_law 700 = .ok (.if_icmp .ne 24, 3) := by decide +kernel
theorem dL_law_703 : decode cL_law 703 = .ok (.aload_n 1, 1) := by decide +kernel
theorem dL_law_704 : decode cL_law 704 = .ok (.bipush 8, 2) := by decide +kernel
theorem dL_law_706 : decode cL_law 706 = .ok (.invokevirtual 9, 3) := by decide +kernel
theorem dL_law_709 : decode cL_law 709 = .ok (.iload 7, 2) := by decide +kernel
theorem dL_law_711 : decode cL_law 711 = .ok (.iload 14, 2) := by decide +kernel
theorem dL_law_713 : decode cL_law 713 = .ok (.iadd, 1) := by decide +kernel
theorem dL_law_714 : decode cL_law 714 = .ok (.bipush 96, 2) := by decide +kernel
theorem dL_law_716 : decode cL_law 716 = .ok (.idiv, 1) := by decide +kernel
theorem dL_law_717 : decode cL_law 717 = .ok (.if_icmp .ne 7, 3) := by decide +kernel
theorem dL_law_720 : decode cL_law 720 = .ok (.iconst 1, 1) := by decide +kernel
theorem dL_law_721 : decode cL_law 721 = .ok (.goto 4, 3) := by decide +kernel
theorem dL_law_724 : decode cL_law 724 = .ok (.iconst 0, 1) := by decide +kernel
theorem dL_law_725 : decode cL_law 725 = .ok (.istore_n 2, 1) := by decide +kernel
theorem dL_law_726 : decode cL_law 726 = .ok (.iload_n 2, 1) := by decide +kernel
theorem dL_law_727 : decode cL_law 727 = .ok (.ifCond .eq 14, 3) := by decide +kernel
theorem dL_law_730 : decode cL_law 730 = .ok (.aload_n 1, 1) := by decide +kernel
theorem dL_law_731 : decode cL_law 731 = .ok (.invokestatic 62, 3) := by decide +kernel
theorem dL_law_734 : decode cL_law 734 = .ok (.ifCond .eq 7, 3) := by decide +kernel
theorem dL_law_737 : decode cL_law 737 = .ok (.iconst 1, 1) := by decide +kernel
theorem dL_law_738 : decode cL_law 738 = .ok (.goto 4, 3) := by decide +kernel
theorem dL_law_741 : decode cL_law 741 = .ok (.iconst 0, 1) := by decide +kernel
theorem dL_law_742 : decode cL_law 742 = .ok (.istore_n 2, 1) := by decide +kernel
theorem dL_law_743 : decode cL_law 743 = .ok (.iinc 3 1, 3) := by decide +kernel
theorem dL_law_746 : decode cL_law 746 = .ok (.goto (-508), 3) := by decide +kernel
theorem dL_law_749 : decode cL_law 749 = .ok (.aload_n 1, 1) := by decide +kernel
theorem dL_law_750 : decode cL_law 750 = .ok (.iconst 0, 1) := by decide +kernel
theorem dL_law_751 : decode cL_law 751 = .ok (.invokevirtual 29, 3) := by decide +kernel
theorem dL_law_754 : decode cL_law 754 = .ok (.istore_n 3, 1) := by decide +kernel
theorem dL_law_755 : decode cL_law 755 = .ok (.aload_n 1, 1) := by decide +kernel
theorem dL_law_756 : decode cL_law 756 = .ok (.bipush 10, 2) := by decide +kernel
theorem dL_law_758 : decode cL_law 758 = .ok (.invokevirtual 29, 3) := by decide +kernel
theorem dL_law_761 : decode cL_law 761 = .ok (.istore 4, 2) := by decide +kernel
theorem dL_law_763 : decode cL_law 763 = .ok (.aload_n 1, 1) := by decide +kernel
theorem dL_law_764 : decode cL_law 764 = .ok (.bipush 9, 2) := by decide +kernel
theorem dL_law_766 : decode cL_law 766 = .ok (.invokevirtual 9, 3) := by decide +kernel
theorem dL_law_769 : decode cL_law 769 = .ok (.istore 5, 2) := by decide +kernel
theorem dL_law_771 : decode cL_law 771 = .ok (.iload_n 2, 1) := by decide +kernel
theorem dL_law_772 : decode cL_law 772 = .ok (.ifCond .eq 46, 3) := by decide +kernel
theorem dL_law_775 : decode cL_law 775 = .ok (.aload_n 1, 1) := by decide +kernel
theorem dL_law_776 : decode cL_law 776 = .ok (.iconst 0, 1) := by decide +kernel
theorem dL_law_777 : decode cL_law 777 = .ok (.invokevirtual 105, 3) := by decide +kernel
theorem dL_law_780 : decode cL_law 780 = .ok (.ldc 108, 2) := by decide +kernel
theorem dL_law_782 : decode cL_law 782 = .ok (.if_icmp .eq 36, 3) := by decide +kernel
theorem dL_law_785 : decode cL_law 785 = .ok (.aload_n 1, 1) := by decide +kernel
theorem dL_law_786 : decode cL_law 786 = .ok (.bipush 50, 2) := by decide +kernel
theorem dL_law_788 : decode cL_law 788 = .ok (.invokevirtual 109, 3) := by decide +kernel
theorem dL_law_791 : decode cL_law 791 = .ok (.ifCond .lt 27, 3) := by decide +kernel
theorem dL_law_794 : decode cL_law 794 = .ok (.aload_n 1, 1) := by decide +kernel
theorem dL_law_795 : decode cL_law 795 = .ok (.iconst 0, 1) := by decide +kernel
theorem dL_law_796 : decode cL_law 796 = .ok (.invokevirtual 29, 3) := by decide +kernel
theorem dL_law_799 : decode cL_law 799 = .ok (.iload_n 3, 1) := by decide +kernel
theorem dL_law_800 : decode cL_law 800 = .ok (.if_icmp .ne 18, 3) := by decide +kernel
theorem dL_law_803 : decode cL_law 803 = .ok (.aload_n 1, 1) := by decide +kernel
theorem dL_law_804 : decode cL_law 804 = .ok (.bipush 10, 2) := by decide +kernel
theorem dL_law_806 : decode cL_law 806 = .ok (.invokevirtual 29, 3) := by decide +kernel
theorem dL_law_809 : decode cL_law 809 = .ok (.iload 4, 2) := by decide +kernel
theorem dL_law_811 : decode cL_law 811 = .ok (.if_icmp .ne 7, 3) := by decide +kernel
theorem dL_law_814 : decode cL_law 814 = .ok (.iconst 1, 1) := by decide +kernel
theorem dL_law_815 : decode cL_law 815 = .ok (.goto 4, 3) := by decide +kernel
theorem dL_law_818 : decode cL_law 818 = .ok (.iconst 0, 1) := by decide +kernel
theorem dL_law_819 : decode cL_law 819 = .ok (.istore_n 2, 1) := by decide +kernel
theorem dL_law_820 : decode cL_law 820 = .ok (.iload_n 2, 1) := by decide +kernel
theorem dL_law_821 : decode cL_law 821 = .ok (.ifCond .eq 69, 3) := by decide +kernel
theorem dL_law_824 : decode cL_law 824 = .ok (.aload_n 1, 1) := by decide +kernel
theorem dL_law_825 : decode cL_law 825 = .ok (.bipush 100, 2) := by decide +kernel
theorem dL_law_827 : decode cL_law 827 = .ok (.invokevirtual 102, 3) := by decide +kernel
theorem dL_law_830 : decode cL_law 830 = .ok (.ifCond .le 60, 3) := by decide +kernel
theorem dL_law_833 : decode cL_law 833 = .ok (.aload_n 1, 1) := by decide +kernel
theorem dL_law_834 : decode cL_law 834 = .ok (.invokestatic 62, 3) := by decide +kernel
theorem dL_law_837 : decode cL_law 837 = .ok (.ifCond .eq 53, 3) := by decide +kernel
theorem dL_law_840 : decode cL_law 840 = .ok (.aload_n 1, 1) := by decide +kernel
theorem dL_law_841 : decode cL_law 841 = .ok (.invokevirtual 65, 3) := by decide +kernel
theorem dL_law_844 : decode cL_law 844 = .ok (.iload 5, 2) := by decide +kernel
theorem dL_law_846 : decode cL_law 846 = .ok (.iconst 4, 1) := by decide +kernel
theorem dL_law_847 : decode cL_law 847 = .ok (.if_icmp .ge 8, 3) := by decide +kernel
theorem dL_law_850 : decode cL_law 850 = .ok (.iload 5, 2) := by decide +kernel
theorem dL_law_852 : decode cL_law 852 = .ok (.goto 4, 3) := by decide +kernel
theorem dL_law_855 : decode cL_law 855 = .ok (.iconst 3, 1) := by decide +kernel
theorem dL_law_856 : decode cL_law 856 = .ok (.if_icmp .ne 34, 3) := by decide +kernel
theorem dL_law_859 : decode cL_law 859 = .ok (.aload_n 1, 1) := by decide +kernel
theorem dL_law_860 : decode cL_law 860 = .ok (.iconst 0, 1) := by decide +kernel
theorem dL_law_861 : decode cL_law 861 = .ok (.invokevirtual 29, 3) := by decide +kernel
theorem dL_law_864 : decode cL_law 864 = .ok (.iload_n 3, 1) := by decide +kernel
theorem dL_law_865 : decode cL_law 865 = .ok (.if_icmp .ne 25, 3) := by decide +kernel
theorem dL_law_868 : decode cL_law 868 = .ok (.aload_n 1, 1) := by decide +kernel
theorem dL_law_869 : decode cL_law 869 = .ok (.bipush 10, 2) := by decide +kernel
theorem dL_law_871 : decode cL_law 871 = .ok (.invokevirtual 29, 3) := by decide +kernel
theorem dL_law_874 : decode cL_law 874 = .ok (.iload 4, 2) := by decide +kernel
theorem dL_law_876 : decode cL_law 876 = .ok (.if_icmp .ne 14, 3) := by decide +kernel
theorem dL_law_879 : decode cL_law 879 = .ok (.aload_n 1, 1) := by decide +kernel
theorem dL_law_880 : decode cL_law 880 = .ok (.invokestatic 62, 3) := by decide +kernel
theorem dL_law_883 : decode cL_law 883 = .ok (.ifCond .eq 7, 3) := by decide +kernel
theorem dL_law_886 : decode cL_law 886 = .ok (.iconst 1, 1) := by decide +kernel
theorem dL_law_887 : decode cL_law 887 = .ok (.goto 4, 3) := by decide +kernel
theorem dL_law_890 : decode cL_law 890 = .ok (.iconst 0, 1) := by decide +kernel
theorem dL_law_891 : decode cL_law 891 = .ok (.ireturn, 1) := by decide +kernel
