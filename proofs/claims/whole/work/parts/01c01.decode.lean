theorem dX4_reads_6 : decode cX4_reads 6 = .ok (.iload_n 2, 1) := by decide +kernel
theorem dX4_reads_7 : decode cX4_reads 7 = .ok (.aload_n 1, 1) := by decide +kernel
theorem dX4_reads_8 : decode cX4_reads 8 = .ok (.arraylength, 1) := by decide +kernel
theorem dX4_reads_9 : decode cX4_reads 9 = .ok (.invokestatic 26, 3) := by decide +kernel
theorem dX4_reads_12 : decode cX4_reads 12 = .ok (.putfield 32, 3) := by decide +kernel
theorem dX4_reads_15 : decode cX4_reads 15 = .ok (.aload_n 0, 1) := by decide +kernel
theorem dX4_reads_16 : decode cX4_reads 16 = .ok (.iconst 0, 1) := by decide +kernel
theorem dX4_reads_17 : decode cX4_reads 17 = .ok (.putfield 35, 3) := by decide +kernel
theorem dX4_reads_20 : decode cX4_reads 20 = .ok (.aload_n 0, 1) := by decide +kernel
theorem dX4_reads_21 : decode cX4_reads 21 = .ok (.iconst (-1), 1) := by decide +kernel
theorem dX4_reads_22 : decode cX4_reads 22 = .ok (.putfield 18, 3) := by decide +kernel
theorem dX4_reads_25 : decode cX4_reads 25 = .ok (.aload_n 0, 1) := by decide +kernel
theorem dX4_reads_26 : decode cX4_reads 26 = .ok (.iconst 0, 1) := by decide +kernel
theorem dX4_reads_27 : decode cX4_reads 27 = .ok (.putfield 38, 3) := by decide +kernel
theorem dX4_reads_30 : decode cX4_reads 30 = .ok (.aload_n 0, 1) := by decide +kernel
theorem dX4_reads_31 : decode cX4_reads 31 = .ok (.iconst 0, 1) := by decide +kernel
theorem dX4_reads_32 : decode cX4_reads 32 = .ok (.putfield 41, 3) := by decide +kernel
theorem dX4_reads_35 : decode cX4_reads 35 = .ok (.aload_n 0, 1) := by decide +kernel
theorem dX4_reads_36 : decode cX4_reads 36 = .ok (.getfield 12, 3) := by decide +kernel
theorem dX4_reads_39 : decode cX4_reads 39 = .ok (.invokevirtual 44, 3) := by decide +kernel
theorem dX4_reads_42 : decode cX4_reads 42 = .ok (.aload_n 0, 1) := by decide +kernel
theorem dX4_reads_43 : decode cX4_reads 43 = .ok (.invokevirtual 47, 3) := by decide +kernel
theorem dX4_reads_46 : decode cX4_reads 46 = .ok (.aload_n 0, 1) := by decide +kernel
theorem dX4_reads_47 : decode cX4_reads 47 = .ok (.invokevirtual 50, 3) := by decide +kernel
theorem dX4_reads_50 : decode cX4_reads 50 = .ok (.ifCond .eq 14, 3) := by decide +kernel
theorem dX4_reads_53 : decode cX4_reads 53 = .ok (.aload_n 0, 1) := by decide +kernel
theorem dX4_reads_54 : decode cX4_reads 54 = .ok (.invokevirtual 54, 3) := by decide +kernel
theorem dX4_reads_57 : decode cX4_reads 57 = .ok (.ifCond .eq 7, 3) := by decide +kernel
theorem dX4_reads_60 : decode cX4_reads 60 = .ok (.iconst 1, 1) := by decide +kernel
theorem dX4_reads_61 : decode cX4_reads 61 = .ok (.goto 4, 3) := by decide +kernel
theorem dX4_reads_64 : decode cX4_reads 64 = .ok (.iconst 0, 1) := by decide +kernel
theorem dX4_reads_65 : decode cX4_reads 65 = .ok (.istore_n 3, 1) := by decide +kernel
theorem dX4_reads_66 : decode cX4_reads 66 = .ok (.iconst 0, 1) := by decide +kernel
theorem dX4_reads_67 : decode cX4_reads 67 = .ok (.istore 4, 2) := by decide +kernel
theorem dX4_reads_69 : decode cX4_reads 69 = .ok (.iload 4, 2) := by decide +kernel
theorem dX4_reads_71 : decode cX4_reads 71 = .ok (.sipush 900, 3) := by decide +kernel
theorem dX4_reads_74 : decode cX4_reads 74 = .ok (.if_icmp .ge 40, 3) := by decide +kernel
theorem dX4_reads_77 : decode cX4_reads 77 = .ok (.iload_n 3, 1) := by decide +kernel
theorem dX4_reads_78 : decode cX4_reads 78 = .ok (.ifCond .eq 36, 3) := by decide +kernel
theorem dX4_reads_81 : decode cX4_reads 81 = .ok (.aload_n 0, 1) := by decide +kernel
theorem dX4_reads_82 : decode cX4_reads 82 = .ok (.getfield 57, 3) := by decide +kernel
theorem dX4_reads_85 : decode cX4_reads 85 = .ok (.ifCond .eq 29, 3) := by decide +kernel
theorem dX4_reads_88 : decode cX4_reads 88 = .ok (.aload_n 0, 1) := by decide +kernel
theorem dX4_reads_89 : decode cX4_reads 89 = .ok (.invokevirtual 60, 3) := by decide +kernel
theorem dX4_reads_92 : decode cX4_reads 92 = .ok (.ifCond .eq 14, 3) := by decide +kernel
theorem dX4_reads_95 : decode cX4_reads 95 = .ok (.aload_n 0, 1) := by decide +kernel
theorem dX4_reads_96 : decode cX4_reads 96 = .ok (.invokevirtual 54, 3) := by decide +kernel
theorem dX4_reads_99 : decode cX4_reads 99 = .ok (.ifCond .eq 7, 3) := by decide +kernel
theorem dX4_reads_102 : decode cX4_reads 102 = .ok (.iconst 1, 1) := by decide +kernel
theorem dX4_reads_103 : decode cX4_reads 103 = .ok (.goto 4, 3) := by decide +kernel
theorem dX4_reads_106 : decode cX4_reads 106 = .ok (.iconst 0, 1) := by decide +kernel
theorem dX4_reads_107 : decode cX4_reads 107 = .ok (.istore_n 3, 1) := by decide +kernel
theorem dX4_reads_108 : decode cX4_reads 108 = .ok (.iinc 4 1, 3) := by decide +kernel
theorem dX4_reads_111 : decode cX4_reads 111 = .ok (.goto (-42), 3) := by decide +kernel
theorem dX4_reads_114 : decode cX4_reads 114 = .ok (.aload_n 0, 1) := by decide +kernel
theorem dX4_reads_115 : decode cX4_reads 115 = .ok (.getfield 12, 3) := by decide +kernel
theorem dX4_reads_118 : decode cX4_reads 118 = .ok (.invokevirtual 63, 3) := by decide +kernel
theorem dX4_reads_121 : decode cX4_reads 121 = .ok (.iload_n 3, 1) := by decide +kernel
theorem dX4_reads_122 : decode cX4_reads 122 = .ok (.ireturn, 1) := by decide +kernel
theorem dX4_advance_0 : decode cX4_advance 0 = .ok (.aload_n 0, 1) := by decide +kernel
theorem dX4_advance_1 : decode cX4_advance 1 = .ok (.aload_n 0, 1) := by decide +kernel
theorem dX4_advance_2 : decode cX4_advance 2 = .ok (.getfield 38, 3) := by decide +kernel
theorem dX4_advance_5 : decode cX4_advance 5 = .ok (.putfield 66, 3) := by decide +kernel
theorem dX4_advance_8 : decode cX4_advance 8 = .ok (.aload_n 0, 1) := by decide +kernel
theorem dX4_advance_9 : decode cX4_advance 9 = .ok (.getfield 66, 3) := by decide +kernel
theorem dX4_advance_12 : decode cX4_advance 12 = .ok (.aload_n 0, 1) := by decide +kernel
theorem dX4_advance_13 : decode cX4_advance 13 = .ok (.getfield 32, 3) := by decide +kernel
theorem dX4_advance_16 : decode cX4_advance 16 = .ok (.if_icmp .ge 44, 3) := by decide +kernel
theorem dX4_advance_19 : decode cX4_advance 19 = .ok (.aload_n 0, 1) := by decide +kernel
theorem dX4_advance_20 : decode cX4_advance 20 = .ok (.getfield 22, 3) := by decide +kernel
theorem dX4_advance_23 : decode cX4_advance 23 = .ok (.aload_n 0, 1) := by decide +kernel
theorem dX4_advance_24 : decode cX4_advance 24 = .ok (.getfield 66, 3) := by decide +kernel
theorem dX4_advance_27 : decode cX4_advance 27 = .ok (.baload, 1) := by decide +kernel
theorem dX4_advance_28 : decode cX4_advance 28 = .ok (.bipush 10, 2) := by decide +kernel
theorem dX4_advance_30 : decode cX4_advance 30 = .ok (.if_icmp .eq 17, 3) := by decide +kernel
theorem dX4_advance_33 : decode cX4_advance 33 = .ok (.aload_n 0, 1) := by decide +kernel
theorem dX4_advance_34 : decode cX4_advance 34 = .ok (.getfield 22, 3) := by decide +kernel
theorem dX4_advance_37 : decode cX4_advance 37 = .ok (.aload_n 0, 1) := by decide +kernel
theorem dX4_advance_38 : decode cX4_advance 38 = .ok (.getfield 66, 3) := by decide +kernel
theorem dX4_advance_41 : decode cX4_advance 41 = .ok (.baload, 1) := by decide +kernel
theorem dX4_advance_42 : decode cX4_advance 42 = .ok (.bipush 32, 2) := by decide +kernel
theorem dX4_advance_44 : decode cX4_advance 44 = .ok (.if_icmp .ne 16, 3) := by decide +kernel
theorem dX4_advance_47 : decode cX4_advance 47 = .ok (.aload_n 0, 1) := by decide +kernel
theorem dX4_advance_48 : decode cX4_advance 48 = .ok (.dup, 1) := by decide +kernel
theorem dX4_advance_49 : decode cX4_advance 49 = .ok (.getfield 66, 3) := by decide +kernel
theorem dX4_advance_52 : decode cX4_advance 52 = .ok (.iconst 1, 1) := by decide +kernel
theorem dX4_advance_53 : decode cX4_advance 53 = .ok (.iadd, 1) := by decide +kernel
theorem dX4_advance_54 : decode cX4_advance 54 = .ok (.putfield 66, 3) := by decide +kernel
theorem dX4_advance_57 : decode cX4_advance 57 = .ok (.goto (-49), 3) := by decide +kernel
theorem dX4_advance_60 : decode cX4_advance 60 = .ok (.aload_n 0, 1) := by decide +kernel
theorem dX4_advance_61 : decode cX4_advance 61 = .ok (.aload_n 0, 1) := by decide +kernel
theorem dX4_advance_62 : decode cX4_advance 62 = .ok (.getfield 66, 3) := by decide +kernel
theorem dX4_advance_65 : decode cX4_advance 65 = .ok (.putfield 38, 3) := by decide +kernel
theorem dX4_advance_68 : decode cX4_advance 68 = .ok (.aload_n 0, 1) := by decide +kernel
theorem dX4_advance_69 : decode cX4_advance 69 = .ok (.iconst 0, 1) := by decide +kernel
theorem dX4_advance_70 : decode cX4_advance 70 = .ok (.putfield 69, 3) := by decide +kernel
theorem dX4_advance_73 : decode cX4_advance 73 = .ok (.aload_n 0, 1) := by decide +kernel
theorem dX4_advance_74 : decode cX4_advance 74 = .ok (.getfield 66, 3) := by decide +kernel
theorem dX4_advance_77 : decode cX4_advance 77 = .ok (.aload_n 0, 1) := by decide +kernel
theorem dX4_advance_78 : decode cX4_advance 78 = .ok (.getfield 32, 3) := by decide +kernel
theorem dX4_advance_81 : decode cX4_advance 81 = .ok (.if_icmp .lt 9, 3) := by decide +kernel
theorem dX4_advance_84 : decode cX4_advance 84 = .ok (.aload_n 0, 1) := by decide +kernel
theorem dX4_advance_85 : decode cX4_advance 85 = .ok (.iconst 0, 1) := by decide +kernel
theorem dX4_advance_86 : decode cX4_advance 86 = .ok (.putfield 57, 3) := by decide +kernel
theorem dX4_advance_89 : decode cX4_advance 89 = .ok (.return_, 1) := by decide +kernel
theorem dX4_advance_90 : decode cX4_advance 90 = .ok (.aload_n 0, 1) := by decide +kernel
theorem dX4_advance_91 : decode cX4_advance 91 = .ok (.getfield 22, 3) := by decide +kernel
theorem dX4_advance_94 : decode cX4_advance 94 = .ok (.aload_n 0, 1) := by decide +kernel
theorem dX4_advance_95 : decode cX4_advance 95 = .ok (.getfield 66, 3) := by decide +kernel
theorem dX4_advance_98 : decode cX4_advance 98 = .ok (.baload, 1) := by decide +kernel
theorem dX4_advance_99 : decode cX4_advance 99 = .ok (.sipush 255, 3) := by decide +kernel
theorem dX4_advance_102 : decode cX4_advance 102 = .ok (.iand, 1) := by decide +kernel
theorem dX4_advance_103 : decode cX4_advance 103 = .ok (.istore_n 1, 1) := by decide +kernel
theorem dX4_advance_104 : decode cX4_advance 104 = .ok (.iload_n 1, 1) := by decide +kernel
theorem dX4_advance_105 : decode cX4_advance 105 = .ok (.bipush 97, 2) := by decide +kernel
theorem dX4_advance_107 : decode cX4_advance 107 = .ok (.if_icmp .lt 66, 3) := by decide +kernel
theorem dX4_advance_110 : decode cX4_advance 110 = .ok (.iload_n 1, 1) := by decide +kernel
theorem dX4_advance_111 : decode cX4_advance 111 = .ok (.bipush 122, 2) := by decide +kernel
theorem dX4_advance_113 : decode cX4_advance 113 = .ok (.if_icmp .gt 60, 3) := by decide +kernel
theorem dX4_advance_116 : decode cX4_advance 116 = .ok (.aload_n 0, 1) := by decide +kernel
theorem dX4_advance_117 : decode cX4_advance 117 = .ok (.iconst 1, 1) := by decide +kernel
theorem dX4_advance_118 : decode cX4_advance 118 = .ok (.putfield 57, 3) := by decide +kernel
theorem dX4_advance_121 : decode cX4_advance 121 = .ok (.aload_n 0, 1) := by decide +kernel
theorem dX4_advance_122 : decode cX4_advance 122 = .ok (.getfield 38, 3) := by decide +kernel
theorem dX4_advance_125 : decode cX4_advance 125 = .ok (.aload_n 0, 1) := by decide +kernel
theorem dX4_advance_126 : decode cX4_advance 126 = .ok (.getfield 32, 3) := by decide +kernel
theorem dX4_advance_129 : decode cX4_advance 129 = .ok (.if_icmp .ge 199, 3) := by decide +kernel
theorem dX4_advance_132 : decode cX4_advance 132 = .ok (.aload_n 0, 1) := by decide +kernel
theorem dX4_advance_133 : decode cX4_advance 133 = .ok (.getfield 22, 3) := by decide +kernel
theorem dX4_advance_136 : decode cX4_advance 136 = .ok (.aload_n 0, 1) := by decide +kernel
theorem dX4_advance_137 : decode cX4_advance 137 = .ok (.getfield 38, 3) := by decide +kernel
theorem dX4_advance_140 : decode cX4_advance 140 = .ok (.baload, 1) := by decide +kernel
theorem dX4_advance_141 : decode cX4_advance 141 = .ok (.bipush 97, 2) := by decide +kernel
theorem dX4_advance_143 : decode cX4_advance 143 = .ok (.if_icmp .lt 185, 3) := by decide +kernel
theorem dX4_advance_146 : decode cX4_advance 146 = .ok (.aload_n 0, 1) := by decide +kernel
theorem dX4_advance_147 : decode cX4_advance 147 = .ok (.getfield 22, 3) := by decide +kernel
theorem dX4_advance_150 : decode cX4_advance 150 = .ok (.aload_n 0, 1) := by decide +kernel
theorem dX4_advance_151 : decode cX4_advance 151 = .ok (.getfield 38, 3) := by decide +kernel
theorem dX4_advance_154 : decode cX4_advance 154 = .ok (.baload, 1) := by decide +kernel
theorem dX4_advance_155 : decode cX4_advance 155 = .ok (.bipush 122, 2) := by decide +kernel
theorem dX4_advance_157 : decode cX4_advance 157 = .ok (.if_icmp .gt 171, 3) := by decide +kernel
theorem dX4_advance_160 : decode cX4_advance 160 = .ok (.aload_n 0, 1) := by decide +kernel
theorem dX4_advance_161 : decode cX4_advance 161 = .ok (.dup, 1) := by decide +kernel
theorem dX4_advance_162 : decode cX4_advance 162 = .ok (.getfield 38, 3) := by decide +kernel
theorem dX4_advance_165 : decode cX4_advance 165 = .ok (.iconst 1, 1) := by decide +kernel
theorem dX4_advance_166 : decode cX4_advance 166 = .ok (.iadd, 1) := by decide +kernel
theorem dX4_advance_167 : decode cX4_advance 167 = .ok (.putfield 38, 3) := by decide +kernel
theorem dX4_advance_170 : decode cX4_advance 170 = .ok (.goto (-49), 3) := by decide +kernel
theorem dX4_advance_173 : decode cX4_advance 173 = .ok (.iload_n 1, 1) := by decide +kernel
theorem dX4_advance_174 : decode cX4_advance 174 = .ok (.bipush 48, 2) := by decide +kernel
theorem dX4_advance_176 : decode cX4_advance 176 = .ok (.if_icmp .lt 123, 3) := by decide +kernel
theorem dX4_advance_179 : decode cX4_advance 179 = .ok (.iload_n 1, 1) := by decide +kernel
theorem dX4_advance_180 : decode cX4_advance 180 = .ok (.bipush 57, 2) := by decide +kernel
theorem dX4_advance_182 : decode cX4_advance 182 = .ok (.if_icmp .gt 117, 3) := by decide +kernel
theorem dX4_advance_185 : decode cX4_advance 185 = .ok (.aload_n 0, 1) := by decide +kernel
theorem dX4_advance_186 : decode cX4_advance 186 = .ok (.getfield 38, 3) := by decide +kernel
theorem dX4_advance_189 : decode cX4_advance 189 = .ok (.aload_n 0, 1) := by decide +kernel
theorem dX4_advance_190 : decode cX4_advance 190 = .ok (.getfield 32, 3) := by decide +kernel
theorem dX4_advance_193 : decode cX4_advance 193 = .ok (.if_icmp .ge 81, 3) := by decide +kernel
theorem dX4_advance_196 : decode cX4_advance 196 = .ok (.aload_n 0, 1) := by decide +kernel
theorem dX4_advance_197 : decode cX4_advance 197 = .ok (.getfield 22, 3) := by decide +kernel
theorem dX4_advance_200 : decode cX4_advance 200 = .ok (.aload_n 0, 1) := by decide +kernel
theorem dX4_advance_201 : decode cX4_advance 201 = .ok (.getfield 38, 3) := by decide +kernel
theorem dX4_advance_204 : decode cX4_advance 204 = .ok (.baload, 1) := by decide +kernel
theorem dX4_advance_205 : decode cX4_advance 205 = .ok (.bipush 48, 2) := by decide +kernel
theorem dX4_advance_207 : decode cX4_advance 207 = .ok (.if_icmp .lt 67, 3) := by decide +kernel
theorem dX4_advance_210 : decode cX4_advance 210 = .ok (.aload_n 0, 1) := by decide +kernel
theorem dX4_advance_211 : decode cX4_advance 211 = .ok (.getfield 22, 3) := by decide +kernel
theorem dX4_advance_214 : decode cX4_advance 214 = .ok (.aload_n 0, 1) := by decide +kernel
theorem dX4_advance_215 : decode cX4_advance 215 = .ok (.getfield 38, 3) := by decide +kernel
theorem dX4_advance_218 : decode cX4_advance 218 = .ok (.baload, 1) := by decide +kernel
theorem dX4_advance_219 : decode cX4_advance 219 = .ok (.bipush 57, 2) := by decide +kernel
theorem dX4_advance_221 : decode cX4_advance 221 = .ok (.if_icmp .gt 53, 3) := by decide +kernel
theorem dX4_advance_224 : decode cX4_advance 224 = .ok (.aload_n 0, 1) := by decide +kernel
theorem dX4_advance_225 : decode cX4_advance 225 = .ok (.getfield 38, 3) := by decide +kernel
theorem dX4_advance_228 : decode cX4_advance 228 = .ok (.aload_n 0, 1) := by decide +kernel
theorem dX4_advance_229 : decode cX4_advance 229 = .ok (.getfield 66, 3) := by decide +kernel
theorem dX4_advance_232 : decode cX4_advance 232 = .ok (.isub, 1) := by decide +kernel
theorem dX4_advance_233 : decode cX4_advance 233 = .ok (.iconst 3, 1) := by decide +kernel
theorem dX4_advance_234 : decode cX4_advance 234 = .ok (.if_icmp .ge 27, 3) := by decide +kernel
theorem dX4_advance_237 : decode cX4_advance 237 = .ok (.aload_n 0, 1) := by decide +kernel
theorem dX4_advance_238 : decode cX4_advance 238 = .ok (.aload_n 0, 1) := by decide +kernel
theorem dX4_advance_239 : decode cX4_advance 239 = .ok (.getfield 69, 3) := by decide +kernel
theorem dX4_advance_242 : decode cX4_advance 242 = .ok (.bipush 10, 2) := by decide +kernel
theorem dX4_advance_244 : decode cX4_advance 244 = .ok (.imul, 1) := by decide +kernel
theorem dX4_advance_245 : decode cX4_advance 245 = .ok (.aload_n 0, 1) := by decide +kernel
theorem dX4_advance_246 : decode cX4_advance 246 = .ok (.getfield 22, 3) := by decide +kernel
theorem dX4_advance_249 : decode cX4_advance 249 = .ok (.aload_n 0, 1) := by decide +kernel
theorem dX4_advance_250 : decode cX4_advance 250 = .ok (.getfield 38, 3) := by decide +kernel
theorem dX4_advance_253 : decode cX4_advance 253 = .ok (.baload, 1) := by decide +kernel
theorem dX4_advance_254 : decode cX4_advance 254 = .ok (.iadd, 1) := by decide +kernel
theorem dX4_advance_255 : decode cX4_advance 255 = .ok (.bipush 48, 2) := by decide +kernel
theorem dX4_advance_257 : decode cX4_advance 257 = .ok (.isub, 1) := by decide +kernel
theorem dX4_advance_258 : decode cX4_advance 258 = .ok (.putfield 69, 3) := by decide +kernel
theorem dX4_advance_261 : decode cX4_advance 261 = .ok (.aload_n 0, 1) := by decide +kernel
theorem dX4_advance_262 : decode cX4_advance 262 = .ok (.dup, 1) := by decide +kernel
theorem dX4_advance_263 : decode cX4_advance 263 = .ok (.getfield 38, 3) := by decide +kernel
theorem dX4_advance_266 : decode cX4_advance 266 = .ok (.iconst 1, 1) := by decide +kernel
theorem dX4_advance_267 : decode cX4_advance 267 = .ok (.iadd, 1) := by decide +kernel
theorem dX4_advance_268 : decode cX4_advance 268 = .ok (.putfield 38, 3) := by decide +kernel
theorem dX4_advance_271 : decode cX4_advance 271 = .ok (.goto (-86), 3) := by decide +kernel
theorem dX4_advance_274 : decode cX4_advance 274 = .ok (.aload_n 0, 1) := by decide +kernel
theorem dX4_advance_275 : decode cX4_advance 275 = .ok (.aload_n 0, 1) := by decide +kernel
theorem dX4_advance_276 : decode cX4_advance 276 = .ok (.getfield 38, 3) := by decide +kernel
theorem dX4_advance_279 : decode cX4_advance 279 = .ok (.aload_n 0, 1) := by decide +kernel
theorem dX4_advance_280 : decode cX4_advance 280 = .ok (.getfield 66, 3) := by decide +kernel
theorem dX4_advance_283 : decode cX4_advance 283 = .ok (.isub, 1) := by decide +kernel
theorem dX4_advance_284 : decode cX4_advance 284 = .ok (.iconst 3, 1) := by decide +kernel
theorem dX4_advance_285 : decode cX4_advance 285 = .ok (.if_icmp .le 7, 3) := by decide +kernel
theorem dX4_advance_288 : decode cX4_advance 288 = .ok (.iconst (-1), 1) := by decide +kernel
theorem dX4_advance_289 : decode cX4_advance 289 = .ok (.goto 4, 3) := by decide +kernel
theorem dX4_advance_292 : decode cX4_advance 292 = .ok (.iconst 2, 1) := by decide +kernel
theorem dX4_advance_293 : decode cX4_advance 293 = .ok (.putfield 57, 3) := by decide +kernel
theorem dX4_advance_296 : decode cX4_advance 296 = .ok (.goto 32, 3) := by decide +kernel
theorem dX4_advance_299 : decode cX4_advance 299 = .ok (.aload_n 0, 1) := by decide +kernel
theorem dX4_advance_300 : decode cX4_advance 300 = .ok (.ldc 72, 2) := by decide +kernel
theorem dX4_advance_302 : decode cX4_advance 302 = .ok (.iload_n 1, 1) := by decide +kernel
theorem dX4_advance_303 : decode cX4_advance 303 = .ok (.i2c, 1) := by decide +kernel
theorem dX4_advance_304 : decode cX4_advance 304 = .ok (.invokevirtual 74, 3) := by decide +kernel
theorem dX4_advance_307 : decode cX4_advance 307 = .ok (.ifCond .lt 7, 3) := by decide +kernel
theorem dX4_advance_310 : decode cX4_advance 310 = .ok (.iload_n 1, 1) := by decide +kernel
theorem dX4_advance_311 : decode cX4_advance 311 = .ok (.goto 4, 3) := by decide +kernel
theorem dX4_advance_314 : decode cX4_advance 314 = .ok (.iconst (-1), 1) := by decide +kernel
theorem dX4_advance_315 : decode cX4_advance 315 = .ok (.putfield 57, 3) := by decide +kernel
theorem dX4_advance_318 : decode cX4_advance 318 = .ok (.aload_n 0, 1) := by decide +kernel
theorem dX4_advance_319 : decode cX4_advance 319 = .ok (.dup, 1) := by decide +kernel
theorem dX4_advance_320 : decode cX4_advance 320 = .ok (.getfield 38, 3) := by decide +kernel
theorem dX4_advance_323 : decode cX4_advance 323 = .ok (.iconst 1, 1) := by decide +kernel
theorem dX4_advance_324 : decode cX4_advance 324 = .ok (.iadd, 1) := by decide +kernel
theorem dX4_advance_325 : decode cX4_advance 325 = .ok (.putfield 38, 3) := by decide +kernel
theorem dX4_advance_328 : decode cX4_advance 328 = .ok (.return_, 1) := by decide +kernel
theorem dX4_refuse_0 : decode cX4_refuse 0 = .ok (.aload_n 0, 1) := by decide +kernel
theorem dX4_refuse_1 : decode cX4_refuse 1 = .ok (.aload_n 0, 1) := by decide +kernel
theorem dX4_refuse_2 : decode cX4_refuse 2 = .ok (.getfield 57, 3) := by decide +kernel
theorem dX4_refuse_5 : decode cX4_refuse 5 = .ok (.iconst (-1), 1) := by decide +kernel
theorem dX4_refuse_6 : decode cX4_refuse 6 = .ok (.if_icmp .ne 7, 3) := by decide +kernel
theorem dX4_refuse_9 : decode cX4_refuse 9 = .ok (.iconst 1, 1) := by decide +kernel
theorem dX4_refuse_10 : decode cX4_refuse 10 = .ok (.goto 4, 3) := by decide +kernel
theorem dX4_refuse_13 : decode cX4_refuse 13 = .ok (.iload_n 1, 1) := by decide +kernel
theorem dX4_refuse_14 : decode cX4_refuse 14 = .ok (.putfield 35, 3) := by decide +kernel
theorem dX4_refuse_17 : decode cX4_refuse 17 = .ok (.aload_n 0, 1) := by decide +kernel
theorem dX4_refuse_18 : decode cX4_refuse 18 = .ok (.aload_n 0, 1) := by decide +kernel
theorem dX4_refuse_19 : decode cX4_refuse 19 = .ok (.getfield 66, 3) := by decide +kernel
theorem dX4_refuse_22 : decode cX4_refuse 22 = .ok (.putfield 18, 3) := by decide +kernel
theorem dX4_refuse_25 : decode cX4_refuse 25 = .ok (.iconst 0, 1) := by decide +kernel
theorem dX4_refuse_26 : decode cX4_refuse 26 = .ok (.ireturn, 1) := by decide +kernel
theorem dX4_isWord_0 : decode cX4_isWord 0 = .ok (.aload_n 0, 1) := by decide +kernel
theorem dX4_isWord_1 : decode cX4_isWord 1 = .ok (.getfield 57, 3) := by decide +kernel
theorem dX4_isWord_4 : decode cX4_isWord 4 = .ok (.iconst 1, 1) := by decide +kernel
theorem dX4_isWord_5 : decode cX4_isWord 5 = .ok (.if_icmp .ne 19, 3) := by decide +kernel
theorem dX4_isWord_8 : decode cX4_isWord 8 = .ok (.aload_n 0, 1) := by decide +kernel
theorem dX4_isWord_9 : decode cX4_isWord 9 = .ok (.getfield 38, 3) := by decide +kernel
theorem dX4_isWord_12 : decode cX4_isWord 12 = .ok (.aload_n 0, 1) := by decide +kernel
theorem dX4_isWord_13 : decode cX4_isWord 13 = .ok (.getfield 66, 3) := by decide +kernel
theorem dX4_isWord_16 : decode cX4_isWord 16 = .ok (.isub, 1) := by decide +kernel
theorem dX4_isWord_17 : decode cX4_isWord 17 = .ok (.aload_n 1, 1) := by decide +kernel
theorem dX4_isWord_18 : decode cX4_isWord 18 = .ok (.invokevirtual 80, 3) := by decide +kernel
theorem dX4_isWord_21 : decode cX4_isWord 21 = .ok (.if_icmp .eq 5, 3) := by decide +kernel
theorem dX4_isWord_24 : decode cX4_isWord 24 = .ok (.iconst 0, 1) := by decide +kernel
theorem dX4_isWord_25 : decode cX4_isWord 25 = .ok (.ireturn, 1) := by decide +kernel
theorem dX4_isWord_26 : decode cX4_isWord 26 = .ok (.iconst 0, 1) := by decide +kernel
theorem dX4_isWord_27 : decode cX4_isWord 27 = .ok (.istore_n 2, 1) := by decide +kernel
theorem dX4_isWord_28 : decode cX4_isWord 28 = .ok (.iload_n 2, 1) := by decide +kernel
theorem dX4_isWord_29 : decode cX4_isWord 29 = .ok (.aload_n 1, 1) := by decide +kernel
theorem dX4_isWord_30 : decode cX4_isWord 30 = .ok (.invokevirtual 80, 3) := by decide +kernel
theorem dX4_isWord_33 : decode cX4_isWord 33 = .ok (.if_icmp .ge 43, 3) := by decide +kernel
theorem dX4_isWord_36 : decode cX4_isWord 36 = .ok (.aload_n 0, 1) := by decide +kernel
theorem dX4_isWord_37 : decode cX4_isWord 37 = .ok (.getfield 66, 3) := by decide +kernel
theorem dX4_isWord_40 : decode cX4_isWord 40 = .ok (.iload_n 2, 1) := by decide +kernel
theorem dX4_isWord_41 : decode cX4_isWord 41 = .ok (.iadd, 1) := by decide +kernel
theorem dX4_isWord_42 : decode cX4_isWord 42 = .ok (.aload_n 0, 1) := by decide +kernel
theorem dX4_isWord_43 : decode cX4_isWord 43 = .ok (.getfield 32, 3) := by decide +kernel
theorem dX4_isWord_46 : decode cX4_isWord 46 = .ok (.if_icmp .ge 22, 3) := by decide +kernel
theorem dX4_isWord_49 : decode cX4_isWord 49 = .ok (.aload_n 0, 1) := by decide +kernel
theorem dX4_isWord_50 : decode cX4_isWord 50 = .ok (.getfield 22, 3) := by decide +kernel
theorem dX4_isWord_53 : decode cX4_isWord 53 = .ok (.aload_n 0, 1) := by decide +kernel
theorem dX4_isWord_54 : decode cX4_isWord 54 = .ok (.getfield 66, 3) := by decide +kernel
theorem dX4_isWord_57 : decode cX4_isWord 57 = .ok (.iload_n 2, 1) := by decide +kernel
theorem dX4_isWord_58 : decode cX4_isWord 58 = .ok (.iadd, 1) := by decide +kernel
theorem dX4_isWord_59 : decode cX4_isWord 59 = .ok (.baload, 1) := by decide +kernel
theorem dX4_isWord_60 : decode cX4_isWord 60 = .ok (.aload_n 1, 1) := by decide +kernel
theorem dX4_isWord_61 : decode cX4_isWord 61 = .ok (.iload_n 2, 1) := by decide +kernel
theorem dX4_isWord_62 : decode cX4_isWord 62 = .ok (.invokevirtual 83, 3) := by decide +kernel
theorem dX4_isWord_65 : decode cX4_isWord 65 = .ok (.if_icmp .eq 5, 3) := by decide +kernel
theorem dX4_isWord_68 : decode cX4_isWord 68 = .ok (.iconst 0, 1) := by decide +kernel
theorem dX4_isWord_69 : decode cX4_isWord 69 = .ok (.ireturn, 1) := by decide +kernel
theorem dX4_isWord_70 : decode cX4_isWord 70 = .ok (.iinc 2 1, 3) := by decide +kernel
theorem dX4_isWord_73 : decode cX4_isWord 73 = .ok (.goto (-45), 3) := by decide +kernel
theorem dX4_isWord_76 : decode cX4_isWord 76 = .ok (.iconst 1, 1) := by decide +kernel
theorem dX4_isWord_77 : decode cX4_isWord 77 = .ok (.ireturn, 1) := by decide +kernel
theorem dX4_takeWord_0 : decode cX4_takeWord 0 = .ok (.aload_n 0, 1) := by decide +kernel
theorem dX4_takeWord_1 : decode cX4_takeWord 1 = .ok (.aload_n 1, 1) := by decide +kernel
theorem dX4_takeWord_2 : decode cX4_takeWord 2 = .ok (.invokevirtual 87, 3) := by decide +kernel
theorem dX4_takeWord_5 : decode cX4_takeWord 5 = .ok (.ifCond .ne 9, 3) := by decide +kernel
theorem dX4_takeWord_8 : decode cX4_takeWord 8 = .ok (.aload_n 0, 1) := by decide +kernel
theorem dX4_takeWord_9 : decode cX4_takeWord 9 = .ok (.iconst 2, 1) := by decide +kernel
theorem dX4_takeWord_10 : decode cX4_takeWord 10 = .ok (.invokevirtual 91, 3) := by decide +kernel
theorem dX4_takeWord_13 : decode cX4_takeWord 13 = .ok (.ireturn, 1) := by decide +kernel
theorem dX4_takeWord_14 : decode cX4_takeWord 14 = .ok (.aload_n 0, 1) := by decide +kernel
theorem dX4_takeWord_15 : decode cX4_takeWord 15 = .ok (.invokevirtual 47, 3) := by decide +kernel
theorem dX4_takeWord_18 : decode cX4_takeWord 18 = .ok (.iconst 1, 1) := by decide +kernel
theorem dX4_takeWord_19 : decode cX4_takeWord 19 = .ok (.ireturn, 1) := by decide +kernel
theorem dX4_takeSign_0 : decode cX4_takeSign 0 = .ok (.aload_n 0, 1) := by decide +kernel
theorem dX4_takeSign_1 : decode cX4_takeSign 1 = .ok (.getfield 57, 3) := by decide +kernel
theorem dX4_takeSign_4 : decode cX4_takeSign 4 = .ok (.iload_n 1, 1) := by decide +kernel
theorem dX4_takeSign_5 : decode cX4_takeSign 5 = .ok (.if_icmp .eq 9, 3) := by decide +kernel
theorem dX4_takeSign_8 : decode cX4_takeSign 8 = .ok (.aload_n 0, 1) := by decide +kernel
theorem dX4_takeSign_9 : decode cX4_takeSign 9 = .ok (.iconst 2, 1) := by decide +kernel
theorem dX4_takeSign_10 : decode cX4_takeSign 10 = .ok (.invokevirtual 91, 3) := by decide +kernel
theorem dX4_takeSign_13 : decode cX4_takeSign 13 = .ok (.ireturn, 1) := by decide +kernel
theorem dX4_takeSign_14 : decode cX4_takeSign 14 = .ok (.aload_n 0, 1) := by decide +kernel
theorem dX4_takeSign_15 : decode cX4_takeSign 15 = .ok (.invokevirtual 47, 3) := by decide +kernel
theorem dX4_takeSign_18 : decode cX4_takeSign 18 = .ok (.iconst 1, 1) := by decide +kernel
theorem dX4_takeSign_19 : decode cX4_takeSign 19 = .ok (.ireturn, 1) := by decide +kernel
theorem dX4_takeNumber_0 : decode cX4_takeNumber 0 = .ok (.aload_n 0, 1) := by decide +kernel
theorem dX4_takeNumber_1 : decode cX4_takeNumber 1 = .ok (.getfield 57, 3) := by decide +kernel
theorem dX4_takeNumber_4 : decode cX4_takeNumber 4 = .ok (.iconst 2, 1) := by decide +kernel
theorem dX4_takeNumber_5 : decode cX4_takeNumber 5 = .ok (.if_icmp .eq 11, 3) := by decide +kernel
theorem dX4_takeNumber_8 : decode cX4_takeNumber 8 = .ok (.aload_n 0, 1) := by decide +kernel
theorem dX4_takeNumber_9 : decode cX4_takeNumber 9 = .ok (.iconst 2, 1) := by decide +kernel
theorem dX4_takeNumber_10 : decode cX4_takeNumber 10 = .ok (.invokevirtual 91, 3) := by decide +kernel
theorem dX4_takeNumber_13 : decode cX4_takeNumber 13 = .ok (.pop, 1) := by decide +kernel
theorem dX4_takeNumber_14 : decode cX4_takeNumber 14 = .ok (.iconst (-1), 1) := by decide +kernel
theorem dX4_takeNumber_15 : decode cX4_takeNumber 15 = .ok (.ireturn, 1) := by decide +kernel
theorem dX4_takeNumber_16 : decode cX4_takeNumber 16 = .ok (.aload_n 0, 1) := by decide +kernel
theorem dX4_takeNumber_17 : decode cX4_takeNumber 17 = .ok (.getfield 69, 3) := by decide +kernel
theorem dX4_takeNumber_20 : decode cX4_takeNumber 20 = .ok (.iload_n 1, 1) := by decide +kernel
theorem dX4_takeNumber_21 : decode cX4_takeNumber 21 = .ok (.if_icmp .lt 11, 3) := by decide +kernel
theorem dX4_takeNumber_24 : decode cX4_takeNumber 24 = .ok (.aload_n 0, 1) := by decide +kernel
theorem dX4_takeNumber_25 : decode cX4_takeNumber 25 = .ok (.getfield 69, 3) := by decide +kernel
theorem dX4_takeNumber_28 : decode cX4_takeNumber 28 = .ok (.iload_n 2, 1) := by decide +kernel
theorem dX4_takeNumber_29 : decode cX4_takeNumber 29 = .ok (.if_icmp .le 11, 3) := by decide +kernel
theorem dX4_takeNumber_32 : decode cX4_takeNumber 32 = .ok (.aload_n 0, 1) := by decide +kernel
theorem dX4_takeNumber_33 : decode cX4_takeNumber 33 = .ok (.iconst 3, 1) := by decide +kernel
theorem dX4_takeNumber_34 : decode cX4_takeNumber 34 = .ok (.invokevirtual 91, 3) := by decide +kernel
theorem dX4_takeNumber_37 : decode cX4_takeNumber 37 = .ok (.pop, 1) := by decide +kernel
theorem dX4_takeNumber_38 : decode cX4_takeNumber 38 = .ok (.iconst (-1), 1) := by decide +kernel
theorem dX4_takeNumber_39 : decode cX4_takeNumber 39 = .ok (.ireturn, 1) := by decide +kernel
theorem dX4_takeNumber_40 : decode cX4_takeNumber 40 = .ok (.aload_n 0, 1) := by decide +kernel
theorem dX4_takeNumber_41 : decode cX4_takeNumber 41 = .ok (.getfield 69, 3) := by decide +kernel
theorem dX4_takeNumber_44 : decode cX4_takeNumber 44 = .ok (.istore_n 3, 1) := by decide +kernel
theorem dX4_takeNumber_45 : decode cX4_takeNumber 45 = .ok (.aload_n 0, 1) := by decide +kernel
theorem dX4_takeNumber_46 : decode cX4_takeNumber 46 = .ok (.invokevirtual 47, 3) := by decide +kernel
theorem dX4_takeNumber_49 : decode cX4_takeNumber 49 = .ok (.iload_n 3, 1) := by decide +kernel
theorem dX4_takeNumber_50 : decode cX4_takeNumber 50 = .ok (.ireturn, 1) := by decide +kernel
theorem dX4_takeCell_0 : decode cX4_takeCell 0 = .ok (.aload_n 0, 1) := by decide +kernel
theorem dX4_takeCell_1 : decode cX4_takeCell 1 = .ok (.iconst 0, 1) := by decide +kernel
theorem dX4_takeCell_2 : decode cX4_takeCell 2 = .ok (.aload_n 0, 1) := by decide +kernel
theorem dX4_takeCell_3 : decode cX4_takeCell 3 = .ok (.getfield 12, 3) := by decide +kernel
theorem dX4_takeCell_6 : decode cX4_takeCell 6 = .ok (.getfield 95, 3) := by decide +kernel
theorem dX4_takeCell_9 : decode cX4_takeCell 9 = .ok (.iconst 1, 1) := by decide +kernel
theorem dX4_takeCell_10 : decode cX4_takeCell 10 = .ok (.isub, 1) := by decide +kernel
theorem dX4_takeCell_11 : decode cX4_takeCell 11 = .ok (.invokevirtual 98, 3) := by decide +kernel
theorem dX4_takeCell_14 : decode cX4_takeCell 14 = .ok (.istore_n 2, 1) := by decide +kernel
theorem dX4_takeCell_15 : decode cX4_takeCell 15 = .ok (.iload_n 2, 1) := by decide +kernel
theorem dX4_takeCell_16 : decode cX4_takeCell 16 = .ok (.iconst (-1), 1) := by decide +kernel
theorem dX4_takeCell_17 : decode cX4_takeCell 17 = .ok (.if_icmp .ne 5, 3) := by decide +kernel
theorem dX4_takeCell_20 : decode cX4_takeCell 20 = .ok (.iconst (-1), 1) := by decide +kernel
theorem dX4_takeCell_21 : decode cX4_takeCell 21 = .ok (.ireturn, 1) := by decide +kernel
theorem dX4_takeCell_22 : decode cX4_takeCell 22 = .ok (.aload_n 0, 1) := by decide +kernel
theorem dX4_takeCell_23 : decode cX4_takeCell 23 = .ok (.getfield 57, 3) := by decide +kernel
theorem dX4_takeCell_26 : decode cX4_takeCell 26 = .ok (.iconst 2, 1) := by decide +kernel
theorem dX4_takeCell_27 : decode cX4_takeCell 27 = .ok (.if_icmp .ne 21, 3) := by decide +kernel
theorem dX4_takeCell_30 : decode cX4_takeCell 30 = .ok (.aload_n 0, 1) := by decide +kernel
theorem dX4_takeCell_31 : decode cX4_takeCell 31 = .ok (.getfield 69, 3) := by decide +kernel
theorem dX4_takeCell_34 : decode cX4_takeCell 34 = .ok (.aload_n 0, 1) := by decide +kernel
theorem dX4_takeCell_35 : decode cX4_takeCell 35 = .ok (.getfield 12, 3) := by decide +kernel
theorem dX4_takeCell_38 : decode cX4_takeCell 38 = .ok (.getfield 101, 3) := by decide +kernel
theorem dX4_takeCell_41 : decode cX4_takeCell 41 = .ok (.if_icmp .ge 7, 3) := by decide +kernel
theorem dX4_takeCell_44 : decode cX4_takeCell 44 = .ok (.iconst 1, 1) := by decide +kernel
theorem dX4_takeCell_45 : decode cX4_takeCell 45 = .ok (.goto 4, 3) := by decide +kernel
theorem dX4_takeCell_48 : decode cX4_takeCell 48 = .ok (.iconst 0, 1) := by decide +kernel
theorem dX4_takeCell_49 : decode cX4_takeCell 49 = .ok (.istore_n 3, 1) := by decide +kernel
theorem dX4_takeCell_50 : decode cX4_takeCell 50 = .ok (.iload_n 1, 1) := by decide +kernel
theorem dX4_takeCell_51 : decode cX4_takeCell 51 = .ok (.ifCond .eq 39, 3) := by decide +kernel
theorem dX4_takeCell_54 : decode cX4_takeCell 54 = .ok (.iload_n 3, 1) := by decide +kernel
theorem dX4_takeCell_55 : decode cX4_takeCell 55 = .ok (.ifCond .eq 35, 3) := by decide +kernel
theorem dX4_takeCell_58 : decode cX4_takeCell 58 = .ok (.aload_n 0, 1) := by decide +kernel
theorem dX4_takeCell_59 : decode cX4_takeCell 59 = .ok (.getfield 12, 3) := by decide +kernel
theorem dX4_takeCell_62 : decode cX4_takeCell 62 = .ok (.aload_n 0, 1) := by decide +kernel
theorem dX4_takeCell_63 : decode cX4_takeCell 63 = .ok (.getfield 69, 3) := by decide +kernel
theorem dX4_takeCell_66 : decode cX4_takeCell 66 = .ok (.aload_n 0, 1) := by decide +kernel
theorem dX4_takeCell_67 : decode cX4_takeCell 67 = .ok (.getfield 12, 3) := by decide +kernel
theorem dX4_takeCell_70 : decode cX4_takeCell 70 = .ok (.getfield 95, 3) := by decide +kernel
theorem dX4_takeCell_73 : decode cX4_takeCell 73 = .ok (.imul, 1) := by decide +kernel
theorem dX4_takeCell_74 : decode cX4_takeCell 74 = .ok (.iload_n 2, 1) := by decide +kernel
theorem dX4_takeCell_75 : decode cX4_takeCell 75 = .ok (.iadd, 1) := by decide +kernel
theorem dX4_takeCell_76 : decode cX4_takeCell 76 = .ok (.invokevirtual 104, 3) := by decide +kernel
theorem dX4_takeCell_79 : decode cX4_takeCell 79 = .ok (.ifCond .ne 11, 3) := by decide +kernel
theorem dX4_takeCell_82 : decode cX4_takeCell 82 = .ok (.aload_n 0, 1) := by decide +kernel
theorem dX4_takeCell_83 : decode cX4_takeCell 83 = .ok (.iconst 3, 1) := by decide +kernel
theorem dX4_takeCell_84 : decode cX4_takeCell 84 = .ok (.invokevirtual 91, 3) := by decide +kernel
theorem dX4_takeCell_87 : decode cX4_takeCell 87 = .ok (.pop, 1) := by decide +kernel
theorem dX4_takeCell_88 : decode cX4_takeCell 88 = .ok (.iconst (-1), 1) := by decide +kernel
theorem dX4_takeCell_89 : decode cX4_takeCell 89 = .ok (.ireturn, 1) := by decide +kernel
theorem dX4_takeCell_90 : decode cX4_takeCell 90 = .ok (.aload_n 0, 1) := by decide +kernel
theorem dX4_takeCell_91 : decode cX4_takeCell 91 = .ok (.iconst 0, 1) := by decide +kernel
theorem dX4_takeCell_92 : decode cX4_takeCell 92 = .ok (.aload_n 0, 1) := by decide +kernel
theorem dX4_takeCell_93 : decode cX4_takeCell 93 = .ok (.getfield 12, 3) := by decide +kernel
theorem dX4_takeCell_96 : decode cX4_takeCell 96 = .ok (.getfield 101, 3) := by decide +kernel
theorem dX4_takeCell_99 : decode cX4_takeCell 99 = .ok (.iconst 1, 1) := by decide +kernel
theorem dX4_takeCell_100 : decode cX4_takeCell 100 = .ok (.isub, 1) := by decide +kernel
theorem dX4_takeCell_101 : decode cX4_takeCell 101 = .ok (.invokevirtual 98, 3) := by decide +kernel
theorem dX4_takeCell_104 : decode cX4_takeCell 104 = .ok (.istore 4, 2) := by decide +kernel
theorem dX4_takeCell_106 : decode cX4_takeCell 106 = .ok (.iload 4, 2) := by decide +kernel
theorem dX4_takeCell_108 : decode cX4_takeCell 108 = .ok (.iconst (-1), 1) := by decide +kernel
theorem dX4_takeCell_109 : decode cX4_takeCell 109 = .ok (.if_icmp .ne 7, 3) := by decide +kernel
theorem dX4_takeCell_112 : decode cX4_takeCell 112 = .ok (.iconst (-1), 1) := by decide +kernel
theorem dX4_takeCell_113 : decode cX4_takeCell 113 = .ok (.goto 15, 3) := by decide +kernel
theorem dX4_takeCell_116 : decode cX4_takeCell 116 = .ok (.iload 4, 2) := by decide +kernel
theorem dX4_takeCell_118 : decode cX4_takeCell 118 = .ok (.aload_n 0, 1) := by decide +kernel
theorem dX4_takeCell_119 : decode cX4_takeCell 119 = .ok (.getfield 12, 3) := by decide +kernel
theorem dX4_takeCell_122 : decode cX4_takeCell 122 = .ok (.getfield 95, 3) := by decide +kernel
theorem dX4_takeCell_125 : decode cX4_takeCell 125 = .ok (.imul, 1) := by decide +kernel
theorem dX4_takeCell_126 : decode cX4_takeCell 126 = .ok (.iload_n 2, 1) := by decide +kernel
theorem dX4_takeCell_127 : decode cX4_takeCell 127 = .ok (.iadd, 1) := by decide +kernel
theorem dX4_takeCell_128 : decode cX4_takeCell 128 = .ok (.ireturn, 1) := by decide +kernel
theorem dX4_lineEnds_0 : decode cX4_lineEnds 0 = .ok (.aload_n 0, 1) := by decide +kernel
theorem dX4_lineEnds_1 : decode cX4_lineEnds 1 = .ok (.bipush 59, 2) := by decide +kernel
theorem dX4_lineEnds_3 : decode cX4_lineEnds 3 = .ok (.invokevirtual 107, 3) := by decide +kernel
theorem dX4_lineEnds_6 : decode cX4_lineEnds 6 = .ok (.ifCond .ne 5, 3) := by decide +kernel
theorem dX4_lineEnds_9 : decode cX4_lineEnds 9 = .ok (.iconst 0, 1) := by decide +kernel
theorem dX4_lineEnds_10 : decode cX4_lineEnds 10 = .ok (.ireturn, 1) := by decide +kernel
theorem dX4_lineEnds_11 : decode cX4_lineEnds 11 = .ok (.aload_n 0, 1) := by decide +kernel
theorem dX4_lineEnds_12 : decode cX4_lineEnds 12 = .ok (.getfield 12, 3) := by decide +kernel
theorem dX4_lineEnds_15 : decode cX4_lineEnds 15 = .ok (.dup, 1) := by decide +kernel
theorem dX4_lineEnds_16 : decode cX4_lineEnds 16 = .ok (.getfield 110, 3) := by decide +kernel
theorem dX4_lineEnds_19 : decode cX4_lineEnds 19 = .ok (.iconst 1, 1) := by decide +kernel
theorem dX4_lineEnds_20 : decode cX4_lineEnds 20 = .ok (.iadd, 1) := by decide +kernel
theorem dX4_lineEnds_21 : decode cX4_lineEnds 21 = .ok (.putfield 110, 3) := by decide +kernel
theorem dX4_lineEnds_24 : decode cX4_lineEnds 24 = .ok (.iconst 1, 1) := by decide +kernel
theorem dX4_lineEnds_25 : decode cX4_lineEnds 25 = .ok (.ireturn, 1) := by decide +kernel
theorem dX4_seaLine_0 : decode cX4_seaLine 0 = .ok (.aload_n 0, 1) := by decide +kernel
theorem dX4_seaLine_1 : decode cX4_seaLine 1 = .ok (.ldc 113, 2) := by decide +kernel
theorem dX4_seaLine_3 : decode cX4_seaLine 3 = .ok (.invokevirtual 115, 3) := by decide +kernel
theorem dX4_seaLine_6 : decode cX4_seaLine 6 = .ok (.ifCond .ne 5, 3) := by decide +kernel
theorem dX4_seaLine_9 : decode cX4_seaLine 9 = .ok (.iconst 0, 1) := by decide +kernel
theorem dX4_seaLine_10 : decode cX4_seaLine 10 = .ok (.ireturn, 1) := by decide +kernel
theorem dX4_seaLine_11 : decode cX4_seaLine 11 = .ok (.aload_n 0, 1) := by decide +kernel
theorem dX4_seaLine_12 : decode cX4_seaLine 12 = .ok (.iconst 2, 1) := by decide +kernel
theorem dX4_seaLine_13 : decode cX4_seaLine 13 = .ok (.bipush 6, 2) := by decide +kernel
theorem dX4_seaLine_15 : decode cX4_seaLine 15 = .ok (.invokevirtual 98, 3) := by decide +kernel
theorem dX4_seaLine_18 : decode cX4_seaLine 18 = .ok (.istore_n 1, 1) := by decide +kernel
theorem dX4_seaLine_19 : decode cX4_seaLine 19 = .ok (.iload_n 1, 1) := by decide +kernel
theorem dX4_seaLine_20 : decode cX4_seaLine 20 = .ok (.iconst (-1), 1) := by decide +kernel
theorem dX4_seaLine_21 : decode cX4_seaLine 21 = .ok (.if_icmp .ne 7, 3) := by decide +kernel
theorem dX4_seaLine_24 : decode cX4_seaLine 24 = .ok (.iconst (-1), 1) := by decide +kernel
theorem dX4_seaLine_25 : decode cX4_seaLine 25 = .ok (.goto 10, 3) := by decide +kernel
theorem dX4_seaLine_28 : decode cX4_seaLine 28 = .ok (.aload_n 0, 1) := by decide +kernel
theorem dX4_seaLine_29 : decode cX4_seaLine 29 = .ok (.iconst 2, 1) := by decide +kernel
theorem dX4_seaLine_30 : decode cX4_seaLine 30 = .ok (.bipush 6, 2) := by decide +kernel
theorem dX4_seaLine_32 : decode cX4_seaLine 32 = .ok (.invokevirtual 98, 3) := by decide +kernel
theorem dX4_seaLine_35 : decode cX4_seaLine 35 = .ok (.istore_n 2, 1) := by decide +kernel
theorem dX4_seaLine_36 : decode cX4_seaLine 36 = .ok (.iload_n 2, 1) := by decide +kernel
theorem dX4_seaLine_37 : decode cX4_seaLine 37 = .ok (.iconst (-1), 1) := by decide +kernel
theorem dX4_seaLine_38 : decode cX4_seaLine 38 = .ok (.if_icmp .eq 12, 3) := by decide +kernel
theorem dX4_seaLine_41 : decode cX4_seaLine 41 = .ok (.aload_n 0, 1) := by decide +kernel
theorem dX4_seaLine_42 : decode cX4_seaLine 42 = .ok (.ldc 118, 2) := by decide +kernel
theorem dX4_seaLine_44 : decode cX4_seaLine 44 = .ok (.invokevirtual 115, 3) := by decide +kernel
theorem dX4_seaLine_47 : decode cX4_seaLine 47 = .ok (.ifCond .ne 5, 3) := by decide +kernel
theorem dX4_seaLine_50 : decode cX4_seaLine 50 = .ok (.iconst 0, 1) := by decide +kernel
theorem dX4_seaLine_51 : decode cX4_seaLine 51 = .ok (.ireturn, 1) := by decide +kernel
theorem dX4_seaLine_52 : decode cX4_seaLine 52 = .ok (.aload_n 0, 1) := by decide +kernel
theorem dX4_seaLine_53 : decode cX4_seaLine 53 = .ok (.iconst 1, 1) := by decide +kernel
theorem dX4_seaLine_54 : decode cX4_seaLine 54 = .ok (.bipush 6, 2) := by decide +kernel
theorem dX4_seaLine_56 : decode cX4_seaLine 56 = .ok (.invokevirtual 98, 3) := by decide +kernel
theorem dX4_seaLine_59 : decode cX4_seaLine 59 = .ok (.istore_n 3, 1) := by decide +kernel
theorem dX4_seaLine_60 : decode cX4_seaLine 60 = .ok (.iload_n 3, 1) := by decide +kernel
theorem dX4_seaLine_61 : decode cX4_seaLine 61 = .ok (.iconst (-1), 1) := by decide +kernel
theorem dX4_seaLine_62 : decode cX4_seaLine 62 = .ok (.if_icmp .ne 5, 3) := by decide +kernel
theorem dX4_seaLine_65 : decode cX4_seaLine 65 = .ok (.iconst 0, 1) := by decide +kernel
theorem dX4_seaLine_66 : decode cX4_seaLine 66 = .ok (.ireturn, 1) := by decide +kernel
theorem dX4_seaLine_67 : decode cX4_seaLine 67 = .ok (.aload_n 0, 1) := by decide +kernel
theorem dX4_seaLine_68 : decode cX4_seaLine 68 = .ok (.getfield 12, 3) := by decide +kernel
theorem dX4_seaLine_71 : decode cX4_seaLine 71 = .ok (.iload_n 1, 1) := by decide +kernel
theorem dX4_seaLine_72 : decode cX4_seaLine 72 = .ok (.putfield 95, 3) := by decide +kernel
theorem dX4_seaLine_75 : decode cX4_seaLine 75 = .ok (.aload_n 0, 1) := by decide +kernel
theorem dX4_seaLine_76 : decode cX4_seaLine 76 = .ok (.getfield 12, 3) := by decide +kernel
theorem dX4_seaLine_79 : decode cX4_seaLine 79 = .ok (.iload_n 2, 1) := by decide +kernel
theorem dX4_seaLine_80 : decode cX4_seaLine 80 = .ok (.putfield 101, 3) := by decide +kernel
theorem dX4_seaLine_83 : decode cX4_seaLine 83 = .ok (.aload_n 0, 1) := by decide +kernel
theorem dX4_seaLine_84 : decode cX4_seaLine 84 = .ok (.getfield 12, 3) := by decide +kernel
theorem dX4_seaLine_87 : decode cX4_seaLine 87 = .ok (.iload_n 3, 1) := by decide +kernel
theorem dX4_seaLine_88 : decode cX4_seaLine 88 = .ok (.putfield 120, 3) := by decide +kernel
theorem dX4_seaLine_91 : decode cX4_seaLine 91 = .ok (.iconst 1, 1) := by decide +kernel
theorem dX4_seaLine_92 : decode cX4_seaLine 92 = .ok (.ireturn, 1) := by decide +kernel
theorem dX4_otherLine_0 : decode cX4_otherLine 0 = .ok (.aload_n 0, 1) := by decide +kernel
theorem dX4_otherLine_1 : decode cX4_otherLine 1 = .ok (.ldc 123, 2) := by decide +kernel
theorem dX4_otherLine_3 : decode cX4_otherLine 3 = .ok (.invokevirtual 87, 3) := by decide +kernel
theorem dX4_otherLine_6 : decode cX4_otherLine 6 = .ok (.ifCond .eq 8, 3) := by decide +kernel
theorem dX4_otherLine_9 : decode cX4_otherLine 9 = .ok (.aload_n 0, 1) := by decide +kernel
theorem dX4_otherLine_10 : decode cX4_otherLine 10 = .ok (.invokevirtual 125, 3) := by decide +kernel
theorem dX4_otherLine_13 : decode cX4_otherLine 13 = .ok (.ireturn, 1) := by decide +kernel
theorem dX4_otherLine_14 : decode cX4_otherLine 14 = .ok (.aload_n 0, 1) := by decide +kernel
theorem dX4_otherLine_15 : decode cX4_otherLine 15 = .ok (.ldc 128, 2) := by decide +kernel
theorem dX4_otherLine_17 : decode cX4_otherLine 17 = .ok (.invokevirtual 87, 3) := by decide +kernel
theorem dX4_otherLine_20 : decode cX4_otherLine 20 = .ok (.ifCond .eq 8, 3) := by decide +kernel
theorem dX4_otherLine_23 : decode cX4_otherLine 23 = .ok (.aload_n 0, 1) := by decide +kernel
theorem dX4_otherLine_24 : decode cX4_otherLine 24 = .ok (.invokevirtual 130, 3) := by decide +kernel
theorem dX4_otherLine_27 : decode cX4_otherLine 27 = .ok (.ireturn, 1) := by decide +kernel
theorem dX4_otherLine_28 : decode cX4_otherLine 28 = .ok (.aload_n 0, 1) := by decide +kernel
theorem dX4_otherLine_29 : decode cX4_otherLine 29 = .ok (.ldc 133, 2) := by decide +kernel
theorem dX4_otherLine_31 : decode cX4_otherLine 31 = .ok (.invokevirtual 87, 3) := by decide +kernel
theorem dX4_otherLine_34 : decode cX4_otherLine 34 = .ok (.ifCond .eq 8, 3) := by decide +kernel
theorem dX4_otherLine_37 : decode cX4_otherLine 37 = .ok (.aload_n 0, 1) := by decide +kernel
theorem dX4_otherLine_38 : decode cX4_otherLine 38 = .ok (.invokevirtual 135, 3) := by decide +kernel
theorem dX4_otherLine_41 : decode cX4_otherLine 41 = .ok (.ireturn, 1) := by decide +kernel
theorem dX4_otherLine_42 : decode cX4_otherLine 42 = .ok (.aload_n 0, 1) := by decide +kernel
theorem dX4_otherLine_43 : decode cX4_otherLine 43 = .ok (.ldc 138, 2) := by decide +kernel
theorem dX4_otherLine_45 : decode cX4_otherLine 45 = .ok (.invokevirtual 87, 3) := by decide +kernel
theorem dX4_otherLine_48 : decode cX4_otherLine 48 = .ok (.ifCond .eq 8, 3) := by decide +kernel
theorem dX4_otherLine_51 : decode cX4_otherLine 51 = .ok (.aload_n 0, 1) := by decide +kernel
theorem dX4_otherLine_52 : decode cX4_otherLine 52 = .ok (.invokevirtual 140, 3) := by decide +kernel
theorem dX4_otherLine_55 : decode cX4_otherLine 55 = .ok (.ireturn, 1) := by decide +kernel
theorem dX4_otherLine_56 : decode cX4_otherLine 56 = .ok (.aload_n 0, 1) := by decide +kernel
theorem dX4_otherLine_57 : decode cX4_otherLine 57 = .ok (.ldc 143, 2) := by decide +kernel
theorem dX4_otherLine_59 : decode cX4_otherLine 59 = .ok (.invokevirtual 87, 3) := by decide +kernel
theorem dX4_otherLine_62 : decode cX4_otherLine 62 = .ok (.ifCond .eq 8, 3) := by decide +kernel
theorem dX4_otherLine_65 : decode cX4_otherLine 65 = .ok (.aload_n 0, 1) := by decide +kernel
theorem dX4_otherLine_66 : decode cX4_otherLine 66 = .ok (.invokevirtual 145, 3) := by decide +kernel
theorem dX4_otherLine_69 : decode cX4_otherLine 69 = .ok (.ireturn, 1) := by decide +kernel
theorem dX4_otherLine_70 : decode cX4_otherLine 70 = .ok (.aload_n 0, 1) := by decide +kernel
theorem dX4_otherLine_71 : decode cX4_otherLine 71 = .ok (.ldc 148, 2) := by decide +kernel
theorem dX4_otherLine_73 : decode cX4_otherLine 73 = .ok (.invokevirtual 87, 3) := by decide +kernel
theorem dX4_otherLine_76 : decode cX4_otherLine 76 = .ok (.ifCond .eq 8, 3) := by decide +kernel
theorem dX4_otherLine_79 : decode cX4_otherLine 79 = .ok (.aload_n 0, 1) := by decide +kernel
theorem dX4_otherLine_80 : decode cX4_otherLine 80 = .ok (.invokevirtual 150, 3) := by decide +kernel
theorem dX4_otherLine_83 : decode cX4_otherLine 83 = .ok (.ireturn, 1) := by decide +kernel
theorem dX4_otherLine_84 : decode cX4_otherLine 84 = .ok (.aload_n 0, 1) := by decide +kernel
theorem dX4_otherLine_85 : decode cX4_otherLine 85 = .ok (.ldc 153, 2) := by decide +kernel
theorem dX4_otherLine_87 : decode cX4_otherLine 87 = .ok (.invokevirtual 87, 3) := by decide +kernel
theorem dX4_otherLine_90 : decode cX4_otherLine 90 = .ok (.ifCond .eq 8, 3) := by decide +kernel
theorem dX4_otherLine_93 : decode cX4_otherLine 93 = .ok (.aload_n 0, 1) := by decide +kernel
theorem dX4_otherLine_94 : decode cX4_otherLine 94 = .ok (.invokevirtual 155, 3) := by decide +kernel
theorem dX4_otherLine_97 : decode cX4_otherLine 97 = .ok (.ireturn, 1) := by decide +kernel
theorem dX4_otherLine_98 : decode cX4_otherLine 98 = .ok (.aload_n 0, 1) := by decide +kernel
theorem dX4_otherLine_99 : decode cX4_otherLine 99 = .ok (.iconst 2, 1) := by decide +kernel
theorem dX4_otherLine_100 : decode cX4_otherLine 100 = .ok (.invokevirtual 91, 3) := by decide +kernel
theorem dX4_otherLine_103 : decode cX4_otherLine 103 = .ok (.ireturn, 1) := by decide +kernel
theorem dX4_rockLine_0 : decode cX4_rockLine 0 = .ok (.aload_n 0, 1) := by decide +kernel
theorem dX4_rockLine_1 : decode cX4_rockLine 1 = .ok (.invokevirtual 47, 3) := by decide +kernel
theorem dX4_rockLine_4 : decode cX4_rockLine 4 = .ok (.aload_n 0, 1) := by decide +kernel
theorem dX4_rockLine_5 : decode cX4_rockLine 5 = .ok (.iconst 1, 1) := by decide +kernel
theorem dX4_rockLine_6 : decode cX4_rockLine 6 = .ok (.invokevirtual 158, 3) := by decide +kernel
theorem dX4_rockLine_9 : decode cX4_rockLine 9 = .ok (.istore_n 1, 1) := by decide +kernel
theorem dX4_rockLine_10 : decode cX4_rockLine 10 = .ok (.aload_n 0, 1) := by decide +kernel
theorem dX4_rockLine_11 : decode cX4_rockLine 11 = .ok (.getfield 12, 3) := by decide +kernel
theorem dX4_rockLine_14 : decode cX4_rockLine 14 = .ok (.iload_n 1, 1) := by decide +kernel
theorem dX4_rockLine_15 : decode cX4_rockLine 15 = .ok (.invokevirtual 162, 3) := by decide +kernel
theorem dX4_rockLine_18 : decode cX4_rockLine 18 = .ok (.ifCond .ne 5, 3) := by decide +kernel
theorem dX4_rockLine_21 : decode cX4_rockLine 21 = .ok (.iconst 0, 1) := by decide +kernel
theorem dX4_rockLine_22 : decode cX4_rockLine 22 = .ok (.ireturn, 1) := by decide +kernel
theorem dX4_rockLine_23 : decode cX4_rockLine 23 = .ok (.aload_n 0, 1) := by decide +kernel
theorem dX4_rockLine_24 : decode cX4_rockLine 24 = .ok (.getfield 12, 3) := by decide +kernel
theorem dX4_rockLine_27 : decode cX4_rockLine 27 = .ok (.getfield 165, 3) := by decide +kernel
theorem dX4_rockLine_30 : decode cX4_rockLine 30 = .ok (.iload_n 1, 1) := by decide +kernel
theorem dX4_rockLine_31 : decode cX4_rockLine 31 = .ok (.iconst 1, 1) := by decide +kernel
theorem dX4_rockLine_32 : decode cX4_rockLine 32 = .ok (.iastore, 1) := by decide +kernel
theorem dX4_rockLine_33 : decode cX4_rockLine 33 = .ok (.aload_n 0, 1) := by decide +kernel
theorem dX4_rockLine_34 : decode cX4_rockLine 34 = .ok (.getfield 12, 3) := by decide +kernel
theorem dX4_rockLine_37 : decode cX4_rockLine 37 = .ok (.dup, 1) := by decide +kernel
theorem dX4_rockLine_38 : decode cX4_rockLine 38 = .ok (.getfield 169, 3) := by decide +kernel
theorem dX4_rockLine_41 : decode cX4_rockLine 41 = .ok (.iconst 1, 1) := by decide +kernel
theorem dX4_rockLine_42 : decode cX4_rockLine 42 = .ok (.iadd, 1) := by decide +kernel
theorem dX4_rockLine_43 : decode cX4_rockLine 43 = .ok (.putfield 169, 3) := by decide +kernel
theorem dX4_rockLine_46 : decode cX4_rockLine 46 = .ok (.iconst 1, 1) := by decide +kernel
theorem dX4_rockLine_47 : decode cX4_rockLine 47 = .ok (.ireturn, 1) := by decide +kernel
theorem dX4_shoreLine_0 : decode cX4_shoreLine 0 = .ok (.aload_n 0, 1) := by decide +kernel
theorem dX4_shoreLine_1 : decode cX4_shoreLine 1 = .ok (.getfield 12, 3) := by decide +kernel
theorem dX4_shoreLine_4 : decode cX4_shoreLine 4 = .ok (.getfield 172, 3) := by decide +kernel
theorem dX4_shoreLine_7 : decode cX4_shoreLine 7 = .ok (.istore_n 1, 1) := by decide +kernel
theorem dX4_shoreLine_8 : decode cX4_shoreLine 8 = .ok (.iload_n 1, 1) := by decide +kernel
theorem dX4_shoreLine_9 : decode cX4_shoreLine 9 = .ok (.ifCond .lt 9, 3) := by decide +kernel
theorem dX4_shoreLine_12 : decode cX4_shoreLine 12 = .ok (.iload_n 1, 1) := by decide +kernel
theorem dX4_shoreLine_13 : decode cX4_shoreLine 13 = .ok (.bipush 6, 2) := by decide +kernel
theorem dX4_shoreLine_15 : decode cX4_shoreLine 15 = .ok (.if_icmp .lt 9, 3) := by decide +kernel
theorem dX4_shoreLine_18 : decode cX4_shoreLine 18 = .ok (.aload_n 0, 1) := by decide +kernel
theorem dX4_shoreLine_19 : decode cX4_shoreLine 19 = .ok (.iconst 4, 1) := by decide +kernel
theorem dX4_shoreLine_20 : decode cX4_shoreLine 20 = .ok (.invokevirtual 91, 3) := by decide +kernel
theorem dX4_shoreLine_23 : decode cX4_shoreLine 23 = .ok (.ireturn, 1) := by decide +kernel
theorem dX4_shoreLine_24 : decode cX4_shoreLine 24 = .ok (.aload_n 0, 1) := by decide +kernel
theorem dX4_shoreLine_25 : decode cX4_shoreLine 25 = .ok (.invokevirtual 47, 3) := by decide +kernel
theorem dX4_shoreLine_28 : decode cX4_shoreLine 28 = .ok (.aload_n 0, 1) := by decide +kernel
theorem dX4_shoreLine_29 : decode cX4_shoreLine 29 = .ok (.iconst 1, 1) := by decide +kernel
theorem dX4_shoreLine_30 : decode cX4_shoreLine 30 = .ok (.invokevirtual 158, 3) := by decide +kernel
theorem dX4_shoreLine_33 : decode cX4_shoreLine 33 = .ok (.istore_n 2, 1) := by decide +kernel
theorem dX4_shoreLine_34 : decode cX4_shoreLine 34 = .ok (.aload_n 0, 1) := by decide +kernel
theorem dX4_shoreLine_35 : decode cX4_shoreLine 35 = .ok (.getfield 12, 3) := by decide +kernel
theorem dX4_shoreLine_38 : decode cX4_shoreLine 38 = .ok (.iload_n 2, 1) := by decide +kernel
theorem dX4_shoreLine_39 : decode cX4_shoreLine 39 = .ok (.invokevirtual 162, 3) := by decide +kernel
theorem dX4_shoreLine_42 : decode cX4_shoreLine 42 = .ok (.ifCond .eq 12, 3) := by decide +kernel
theorem dX4_shoreLine_45 : decode cX4_shoreLine 45 = .ok (.aload_n 0, 1) := by decide +kernel
theorem dX4_shoreLine_46 : decode cX4_shoreLine 46 = .ok (.ldc 175, 2) := by decide +kernel
theorem dX4_shoreLine_48 : decode cX4_shoreLine 48 = .ok (.invokevirtual 115, 3) := by decide +kernel
theorem dX4_shoreLine_51 : decode cX4_shoreLine 51 = .ok (.ifCond .ne 5, 3) := by decide +kernel
theorem dX4_shoreLine_54 : decode cX4_shoreLine 54 = .ok (.iconst 0, 1) := by decide +kernel
theorem dX4_shoreLine_55 : decode cX4_shoreLine 55 = .ok (.ireturn, 1) := by decide +kernel
theorem dX4_shoreLine_56 : decode cX4_shoreLine 56 = .ok (.aload_n 0, 1) := by decide +kernel
theorem dX4_shoreLine_57 : decode cX4_shoreLine 57 = .ok (.invokevirtual 177, 3) := by decide +kernel
theorem dX4_shoreLine_60 : decode cX4_shoreLine 60 = .ok (.istore_n 3, 1) := by decide +kernel
theorem dX4_shoreLine_61 : decode cX4_shoreLine 61 = .ok (.iload_n 3, 1) := by decide +kernel
theorem dX4_shoreLine_62 : decode cX4_shoreLine 62 = .ok (.iconst (-1), 1) := by decide +kernel
theorem dX4_shoreLine_63 : decode cX4_shoreLine 63 = .ok (.if_icmp .eq 12, 3) := by decide +kernel
theorem dX4_shoreLine_66 : decode cX4_shoreLine 66 = .ok (.aload_n 0, 1) := by decide +kernel
theorem dX4_shoreLine_67 : decode cX4_shoreLine 67 = .ok (.ldc 180, 2) := by decide +kernel
theorem dX4_shoreLine_69 : decode cX4_shoreLine 69 = .ok (.invokevirtual 115, 3) := by decide +kernel
theorem dX4_shoreLine_72 : decode cX4_shoreLine 72 = .ok (.ifCond .ne 5, 3) := by decide +kernel
theorem dX4_shoreLine_75 : decode cX4_shoreLine 75 = .ok (.iconst 0, 1) := by decide +kernel
theorem dX4_shoreLine_76 : decode cX4_shoreLine 76 = .ok (.ireturn, 1) := by decide +kernel
theorem dX4_shoreLine_77 : decode cX4_shoreLine 77 = .ok (.aload_n 0, 1) := by decide +kernel
theorem dX4_shoreLine_78 : decode cX4_shoreLine 78 = .ok (.invokevirtual 182, 3) := by decide +kernel
theorem dX4_shoreLine_81 : decode cX4_shoreLine 81 = .ok (.istore 4, 2) := by decide +kernel
theorem dX4_shoreLine_83 : decode cX4_shoreLine 83 = .ok (.iload 4, 2) := by decide +kernel
theorem dX4_shoreLine_85 : decode cX4_shoreLine 85 = .ok (.iconst (-1), 1) := by decide +kernel
theorem dX4_shoreLine_86 : decode cX4_shoreLine 86 = .ok (.if_icmp .ne 5, 3) := by decide +kernel
theorem dX4_shoreLine_89 : decode cX4_shoreLine 89 = .ok (.iconst 0, 1) := by decide +kernel
theorem dX4_shoreLine_90 : decode cX4_shoreLine 90 = .ok (.ireturn, 1) := by decide +kernel
theorem dX4_shoreLine_91 : decode cX4_shoreLine 91 = .ok (.aload_n 0, 1) := by decide +kernel
theorem dX4_shoreLine_92 : decode cX4_shoreLine 92 = .ok (.getfield 12, 3) := by decide +kernel
theorem dX4_shoreLine_95 : decode cX4_shoreLine 95 = .ok (.getfield 165, 3) := by decide +kernel
theorem dX4_shoreLine_98 : decode cX4_shoreLine 98 = .ok (.iload_n 2, 1) := by decide +kernel
theorem dX4_shoreLine_99 : decode cX4_shoreLine 99 = .ok (.bipush 10, 2) := by decide +kernel
theorem dX4_shoreLine_101 : decode cX4_shoreLine 101 = .ok (.iload_n 1, 1) := by decide +kernel
theorem dX4_shoreLine_102 : decode cX4_shoreLine 102 = .ok (.iadd, 1) := by decide +kernel
theorem dX4_shoreLine_103 : decode cX4_shoreLine 103 = .ok (.iastore, 1) := by decide +kernel
theorem dX4_shoreLine_104 : decode cX4_shoreLine 104 = .ok (.aload_n 0, 1) := by decide +kernel
theorem dX4_shoreLine_105 : decode cX4_shoreLine 105 = .ok (.getfield 12, 3) := by decide +kernel
theorem dX4_shoreLine_108 : decode cX4_shoreLine 108 = .ok (.getfield 185, 3) := by decide +kernel
theorem dX4_shoreLine_111 : decode cX4_shoreLine 111 = .ok (.iload_n 1, 1) := by decide +kernel
theorem dX4_shoreLine_112 : decode cX4_shoreLine 112 = .ok (.iload_n 2, 1) := by decide +kernel
theorem dX4_shoreLine_113 : decode cX4_shoreLine 113 = .ok (.iastore, 1) := by decide +kernel
theorem dX4_shoreLine_114 : decode cX4_shoreLine 114 = .ok (.aload_n 0, 1) := by decide +kernel
theorem dX4_shoreLine_115 : decode cX4_shoreLine 115 = .ok (.getfield 12, 3) := by decide +kernel
theorem dX4_shoreLine_118 : decode cX4_shoreLine 118 = .ok (.getfield 188, 3) := by decide +kernel
theorem dX4_shoreLine_121 : decode cX4_shoreLine 121 = .ok (.iload_n 1, 1) := by decide +kernel
theorem dX4_shoreLine_122 : decode cX4_shoreLine 122 = .ok (.iload_n 3, 1) := by decide +kernel
theorem dX4_shoreLine_123 : decode cX4_shoreLine 123 = .ok (.iastore, 1) := by decide +kernel
theorem dX4_shoreLine_124 : decode cX4_shoreLine 124 = .ok (.aload_n 0, 1) := by decide +kernel
theorem dX4_shoreLine_125 : decode cX4_shoreLine 125 = .ok (.getfield 12, 3) := by decide +kernel
theorem dX4_shoreLine_128 : decode cX4_shoreLine 128 = .ok (.getfield 191, 3) := by decide +kernel
theorem dX4_shoreLine_131 : decode cX4_shoreLine 131 = .ok (.iload_n 1, 1) := by decide +kernel
theorem dX4_shoreLine_132 : decode cX4_shoreLine 132 = .ok (.iload 4, 2) := by decide +kernel
theorem dX4_shoreLine_134 : decode cX4_shoreLine 134 = .ok (.iastore, 1) := by decide +kernel
theorem dX4_shoreLine_135 : decode cX4_shoreLine 135 = .ok (.aload_n 0, 1) := by decide +kernel
theorem dX4_shoreLine_136 : decode cX4_shoreLine 136 = .ok (.getfield 12, 3) := by decide +kernel
theorem dX4_shoreLine_139 : decode cX4_shoreLine 139 = .ok (.dup, 1) := by decide +kernel
theorem dX4_shoreLine_140 : decode cX4_shoreLine 140 = .ok (.getfield 172, 3) := by decide +kernel
theorem dX4_shoreLine_143 : decode cX4_shoreLine 143 = .ok (.iconst 1, 1) := by decide +kernel
theorem dX4_shoreLine_144 : decode cX4_shoreLine 144 = .ok (.iadd, 1) := by decide +kernel
theorem dX4_shoreLine_145 : decode cX4_shoreLine 145 = .ok (.putfield 172, 3) := by decide +kernel
theorem dX4_shoreLine_148 : decode cX4_shoreLine 148 = .ok (.iconst 1, 1) := by decide +kernel
theorem dX4_shoreLine_149 : decode cX4_shoreLine 149 = .ok (.ireturn, 1) := by decide +kernel
theorem dX4_takeWay_0 : decode cX4_takeWay 0 = .ok (.iconst (-1), 1) := by decide +kernel
theorem dX4_takeWay_1 : decode cX4_takeWay 1 = .ok (.istore_n 1, 1) := by decide +kernel
theorem dX4_takeWay_2 : decode cX4_takeWay 2 = .ok (.aload_n 0, 1) := by decide +kernel
theorem dX4_takeWay_3 : decode cX4_takeWay 3 = .ok (.ldc 193, 2) := by decide +kernel
theorem dX4_takeWay_5 : decode cX4_takeWay 5 = .ok (.invokevirtual 87, 3) := by decide +kernel
theorem dX4_takeWay_8 : decode cX4_takeWay 8 = .ok (.ifCond .eq 8, 3) := by decide +kernel
theorem dX4_takeWay_11 : decode cX4_takeWay 11 = .ok (.iconst 1, 1) := by decide +kernel
theorem dX4_takeWay_12 : decode cX4_takeWay 12 = .ok (.istore_n 1, 1) := by decide +kernel
theorem dX4_takeWay_13 : decode cX4_takeWay 13 = .ok (.goto 42, 3) := by decide +kernel
theorem dX4_takeWay_16 : decode cX4_takeWay 16 = .ok (.aload_n 0, 1) := by decide +kernel
theorem dX4_takeWay_17 : decode cX4_takeWay 17 = .ok (.ldc 195, 2) := by decide +kernel
theorem dX4_takeWay_19 : decode cX4_takeWay 19 = .ok (.invokevirtual 87, 3) := by decide +kernel
theorem dX4_takeWay_22 : decode cX4_takeWay 22 = .ok (.ifCond .eq 8, 3) := by decide +kernel
theorem dX4_takeWay_25 : decode cX4_takeWay 25 = .ok (.iconst 2, 1) := by decide +kernel
theorem dX4_takeWay_26 : decode cX4_takeWay 26 = .ok (.istore_n 1, 1) := by decide +kernel
theorem dX4_takeWay_27 : decode cX4_takeWay 27 = .ok (.goto 28, 3) := by decide +kernel
theorem dX4_takeWay_30 : decode cX4_takeWay 30 = .ok (.aload_n 0, 1) := by decide +kernel
theorem dX4_takeWay_31 : decode cX4_takeWay 31 = .ok (.ldc 197, 2) := by decide +kernel
theorem dX4_takeWay_33 : decode cX4_takeWay 33 = .ok (.invokevirtual 87, 3) := by decide +kernel
theorem dX4_takeWay_36 : decode cX4_takeWay 36 = .ok (.ifCond .eq 8, 3) := by decide +kernel
theorem dX4_takeWay_39 : decode cX4_takeWay 39 = .ok (.iconst 3, 1) := by decide +kernel
theorem dX4_takeWay_40 : decode cX4_takeWay 40 = .ok (.istore_n 1, 1) := by decide +kernel
theorem dX4_takeWay_41 : decode cX4_takeWay 41 = .ok (.goto 14, 3) := by decide +kernel
theorem dX4_takeWay_44 : decode cX4_takeWay 44 = .ok (.aload_n 0, 1) := by decide +kernel
theorem dX4_takeWay_45 : decode cX4_takeWay 45 = .ok (.ldc 199, 2) := by decide +kernel
theorem dX4_takeWay_47 : decode cX4_takeWay 47 = .ok (.invokevirtual 87, 3) := by decide +kernel
theorem dX4_takeWay_50 : decode cX4_takeWay 50 = .ok (.ifCond .eq 5, 3) := by decide +kernel
theorem dX4_takeWay_53 : decode cX4_takeWay 53 = .ok (.iconst 4, 1) := by decide +kernel
theorem dX4_takeWay_54 : decode cX4_takeWay 54 = .ok (.istore_n 1, 1) := by decide +kernel
theorem dX4_takeWay_55 : decode cX4_takeWay 55 = .ok (.iload_n 1, 1) := by decide +kernel
theorem dX4_takeWay_56 : decode cX4_takeWay 56 = .ok (.iconst (-1), 1) := by decide +kernel
theorem dX4_takeWay_57 : decode cX4_takeWay 57 = .ok (.if_icmp .ne 12, 3) := by decide +kernel
theorem dX4_takeWay_60 : decode cX4_takeWay 60 = .ok (.aload_n 0, 1) := by decide +kernel
theorem dX4_takeWay_61 : decode cX4_takeWay 61 = .ok (.iconst 2, 1) := by decide +kernel
theorem dX4_takeWay_62 : decode cX4_takeWay 62 = .ok (.invokevirtual 91, 3) := by decide +kernel
theorem dX4_takeWay_65 : decode cX4_takeWay 65 = .ok (.pop, 1) := by decide +kernel
theorem dX4_takeWay_66 : decode cX4_takeWay 66 = .ok (.goto 7, 3) := by decide +kernel
theorem dX4_takeWay_69 : decode cX4_takeWay 69 = .ok (.aload_n 0, 1) := by decide +kernel
theorem dX4_takeWay_70 : decode cX4_takeWay 70 = .ok (.invokevirtual 47, 3) := by decide +kernel
theorem dX4_takeWay_73 : decode cX4_takeWay 73 = .ok (.iload_n 1, 1) := by decide +kernel
theorem dX4_takeWay_74 : decode cX4_takeWay 74 = .ok (.ireturn, 1) := by decide +kernel
theorem dX4_takeWalks_0 : decode cX4_takeWalks 0 = .ok (.iconst 0, 1) := by decide +kernel
theorem dX4_takeWalks_1 : decode cX4_takeWalks 1 = .ok (.istore_n 1, 1) := by decide +kernel
theorem dX4_takeWalks_2 : decode cX4_takeWalks 2 = .ok (.iconst 0, 1) := by decide +kernel
theorem dX4_takeWalks_3 : decode cX4_takeWalks 3 = .ok (.istore_n 2, 1) := by decide +kernel
theorem dX4_takeWalks_4 : decode cX4_takeWalks 4 = .ok (.iload_n 2, 1) := by decide +kernel
theorem dX4_takeWalks_5 : decode cX4_takeWalks 5 = .ok (.sipush 900, 3) := by decide +kernel
theorem dX4_takeWalks_8 : decode cX4_takeWalks 8 = .ok (.if_icmp .ge 49, 3) := by decide +kernel
theorem dX4_takeWalks_11 : decode cX4_takeWalks 11 = .ok (.iload_n 2, 1) := by decide +kernel
theorem dX4_takeWalks_12 : decode cX4_takeWalks 12 = .ok (.ifCond .eq 11, 3) := by decide +kernel
theorem dX4_takeWalks_15 : decode cX4_takeWalks 15 = .ok (.aload_n 0, 1) := by decide +kernel
theorem dX4_takeWalks_16 : decode cX4_takeWalks 16 = .ok (.getfield 57, 3) := by decide +kernel
theorem dX4_takeWalks_19 : decode cX4_takeWalks 19 = .ok (.iconst 2, 1) := by decide +kernel
theorem dX4_takeWalks_20 : decode cX4_takeWalks 20 = .ok (.if_icmp .ne 37, 3) := by decide +kernel
theorem dX4_takeWalks_23 : decode cX4_takeWalks 23 = .ok (.aload_n 0, 1) := by decide +kernel
theorem dX4_takeWalks_24 : decode cX4_takeWalks 24 = .ok (.iconst 0, 1) := by decide +kernel
theorem dX4_takeWalks_25 : decode cX4_takeWalks 25 = .ok (.aload_n 0, 1) := by decide +kernel
theorem dX4_takeWalks_26 : decode cX4_takeWalks 26 = .ok (.getfield 12, 3) := by decide +kernel
theorem dX4_takeWalks_29 : decode cX4_takeWalks 29 = .ok (.getfield 120, 3) := by decide +kernel
theorem dX4_takeWalks_32 : decode cX4_takeWalks 32 = .ok (.iconst 1, 1) := by decide +kernel
theorem dX4_takeWalks_33 : decode cX4_takeWalks 33 = .ok (.isub, 1) := by decide +kernel
theorem dX4_takeWalks_34 : decode cX4_takeWalks 34 = .ok (.invokevirtual 98, 3) := by decide +kernel
theorem dX4_takeWalks_37 : decode cX4_takeWalks 37 = .ok (.istore_n 3, 1) := by decide +kernel
theorem dX4_takeWalks_38 : decode cX4_takeWalks 38 = .ok (.iload_n 3, 1) := by decide +kernel
theorem dX4_takeWalks_39 : decode cX4_takeWalks 39 = .ok (.iconst (-1), 1) := by decide +kernel
theorem dX4_takeWalks_40 : decode cX4_takeWalks 40 = .ok (.if_icmp .ne 5, 3) := by decide +kernel
theorem dX4_takeWalks_43 : decode cX4_takeWalks 43 = .ok (.iconst (-1), 1) := by decide +kernel
theorem dX4_takeWalks_44 : decode cX4_takeWalks 44 = .ok (.ireturn, 1) := by decide +kernel
theorem dX4_takeWalks_45 : decode cX4_takeWalks 45 = .ok (.iload_n 1, 1) := by decide +kernel
theorem dX4_takeWalks_46 : decode cX4_takeWalks 46 = .ok (.iconst 1, 1) := by decide +kernel
theorem dX4_takeWalks_47 : decode cX4_takeWalks 47 = .ok (.iload_n 3, 1) := by decide +kernel
theorem dX4_takeWalks_48 : decode cX4_takeWalks 48 = .ok (.ishl, 1) := by decide +kernel
theorem dX4_takeWalks_49 : decode cX4_takeWalks 49 = .ok (.ior, 1) := by decide +kernel
theorem dX4_takeWalks_50 : decode cX4_takeWalks 50 = .ok (.istore_n 1, 1) := by decide +kernel
theorem dX4_takeWalks_51 : decode cX4_takeWalks 51 = .ok (.iinc 2 1, 3) := by decide +kernel
theorem dX4_takeWalks_54 : decode cX4_takeWalks 54 = .ok (.goto (-50), 3) := by decide +kernel
theorem dX4_takeWalks_57 : decode cX4_takeWalks 57 = .ok (.iload_n 1, 1) := by decide +kernel
theorem dX4_takeWalks_58 : decode cX4_takeWalks 58 = .ok (.ireturn, 1) := by decide +kernel
theorem dX4_currentLine_0 : decode cX4_currentLine 0 = .ok (.aload_n 0, 1) := by decide +kernel
theorem dX4_currentLine_1 : decode cX4_currentLine 1 = .ok (.invokevirtual 47, 3) := by decide +kernel
theorem dX4_currentLine_4 : decode cX4_currentLine 4 = .ok (.aload_n 0, 1) := by decide +kernel
theorem dX4_currentLine_5 : decode cX4_currentLine 5 = .ok (.iconst 0, 1) := by decide +kernel
theorem dX4_currentLine_6 : decode cX4_currentLine 6 = .ok (.invokevirtual 158, 3) := by decide +kernel
theorem dX4_currentLine_9 : decode cX4_currentLine 9 = .ok (.istore_n 1, 1) := by decide +kernel
theorem dX4_currentLine_10 : decode cX4_currentLine 10 = .ok (.aload_n 0, 1) := by decide +kernel
theorem dX4_currentLine_11 : decode cX4_currentLine 11 = .ok (.getfield 12, 3) := by decide +kernel
theorem dX4_currentLine_14 : decode cX4_currentLine 14 = .ok (.iload_n 1, 1) := by decide +kernel
theorem dX4_currentLine_15 : decode cX4_currentLine 15 = .ok (.invokevirtual 162, 3) := by decide +kernel
theorem dX4_currentLine_18 : decode cX4_currentLine 18 = .ok (.ifCond .ne 5, 3) := by decide +kernel
theorem dX4_currentLine_21 : decode cX4_currentLine 21 = .ok (.iconst 0, 1) := by decide +kernel
theorem dX4_currentLine_22 : decode cX4_currentLine 22 = .ok (.ireturn, 1) := by decide +kernel
theorem dX4_currentLine_23 : decode cX4_currentLine 23 = .ok (.iconst 0, 1) := by decide +kernel
theorem dX4_currentLine_24 : decode cX4_currentLine 24 = .ok (.istore_n 2, 1) := by decide +kernel
theorem dX4_currentLine_25 : decode cX4_currentLine 25 = .ok (.iload_n 2, 1) := by decide +kernel
theorem dX4_currentLine_26 : decode cX4_currentLine 26 = .ok (.aload_n 0, 1) := by decide +kernel
theorem dX4_currentLine_27 : decode cX4_currentLine 27 = .ok (.getfield 12, 3) := by decide +kernel
theorem dX4_currentLine_30 : decode cX4_currentLine 30 = .ok (.getfield 120, 3) := by decide +kernel
theorem dX4_currentLine_33 : decode cX4_currentLine 33 = .ok (.if_icmp .ge 44, 3) := by decide +kernel
theorem dX4_currentLine_36 : decode cX4_currentLine 36 = .ok (.iload_n 2, 1) := by decide +kernel
theorem dX4_currentLine_37 : decode cX4_currentLine 37 = .ok (.bipush 6, 2) := by decide +kernel
theorem dX4_currentLine_39 : decode cX4_currentLine 39 = .ok (.if_icmp .ge 38, 3) := by decide +kernel
theorem dX4_currentLine_42 : decode cX4_currentLine 42 = .ok (.aload_n 0, 1) := by decide +kernel
theorem dX4_currentLine_43 : decode cX4_currentLine 43 = .ok (.iconst 0, 1) := by decide +kernel
theorem dX4_currentLine_44 : decode cX4_currentLine 44 = .ok (.iconst 4, 1) := by decide +kernel
theorem dX4_currentLine_45 : decode cX4_currentLine 45 = .ok (.invokevirtual 98, 3) := by decide +kernel
theorem dX4_currentLine_48 : decode cX4_currentLine 48 = .ok (.istore_n 3, 1) := by decide +kernel
theorem dX4_currentLine_49 : decode cX4_currentLine 49 = .ok (.iload_n 3, 1) := by decide +kernel
theorem dX4_currentLine_50 : decode cX4_currentLine 50 = .ok (.iconst (-1), 1) := by decide +kernel
theorem dX4_currentLine_51 : decode cX4_currentLine 51 = .ok (.if_icmp .ne 5, 3) := by decide +kernel
theorem dX4_currentLine_54 : decode cX4_currentLine 54 = .ok (.iconst 0, 1) := by decide +kernel
theorem dX4_currentLine_55 : decode cX4_currentLine 55 = .ok (.ireturn, 1) := by decide +kernel
theorem dX4_currentLine_56 : decode cX4_currentLine 56 = .ok (.aload_n 0, 1) := by decide +kernel
theorem dX4_currentLine_57 : decode cX4_currentLine 57 = .ok (.getfield 12, 3) := by decide +kernel
theorem dX4_currentLine_60 : decode cX4_currentLine 60 = .ok (.getfield 201, 3) := by decide +kernel
theorem dX4_currentLine_63 : decode cX4_currentLine 63 = .ok (.iload_n 1, 1) := by decide +kernel
theorem dX4_currentLine_64 : decode cX4_currentLine 64 = .ok (.bipush 6, 2) := by decide +kernel
theorem dX4_currentLine_66 : decode cX4_currentLine 66 = .ok (.imul, 1) := by decide +kernel
theorem dX4_currentLine_67 : decode cX4_currentLine 67 = .ok (.iload_n 2, 1) := by decide +kernel
theorem dX4_currentLine_68 : decode cX4_currentLine 68 = .ok (.iadd, 1) := by decide +kernel
theorem dX4_currentLine_69 : decode cX4_currentLine 69 = .ok (.iload_n 3, 1) := by decide +kernel
theorem dX4_currentLine_70 : decode cX4_currentLine 70 = .ok (.iastore, 1) := by decide +kernel
theorem dX4_currentLine_71 : decode cX4_currentLine 71 = .ok (.iinc 2 1, 3) := by decide +kernel
theorem dX4_currentLine_74 : decode cX4_currentLine 74 = .ok (.goto (-49), 3) := by decide +kernel
theorem dX4_currentLine_77 : decode cX4_currentLine 77 = .ok (.iconst 1, 1) := by decide +kernel
theorem dX4_currentLine_78 : decode cX4_currentLine 78 = .ok (.ireturn, 1) := by decide +kernel
theorem dX4_moonLine_0 : decode cX4_moonLine 0 = .ok (.aload_n 0, 1) := by decide +kernel
theorem dX4_moonLine_1 : decode cX4_moonLine 1 = .ok (.invokevirtual 47, 3) := by decide +kernel
theorem dX4_moonLine_4 : decode cX4_moonLine 4 = .ok (.aload_n 0, 1) := by decide +kernel
theorem dX4_moonLine_5 : decode cX4_moonLine 5 = .ok (.iconst 2, 1) := by decide +kernel
theorem dX4_moonLine_6 : decode cX4_moonLine 6 = .ok (.bipush 30, 2) := by decide +kernel
theorem dX4_moonLine_8 : decode cX4_moonLine 8 = .ok (.invokevirtual 98, 3) := by decide +kernel
theorem dX4_moonLine_11 : decode cX4_moonLine 11 = .ok (.istore_n 1, 1) := by decide +kernel
theorem dX4_moonLine_12 : decode cX4_moonLine 12 = .ok (.iload_n 1, 1) := by decide +kernel
theorem dX4_moonLine_13 : decode cX4_moonLine 13 = .ok (.iconst (-1), 1) := by decide +kernel
theorem dX4_moonLine_14 : decode cX4_moonLine 14 = .ok (.if_icmp .eq 12, 3) := by decide +kernel
theorem dX4_moonLine_17 : decode cX4_moonLine 17 = .ok (.aload_n 0, 1) := by decide +kernel
theorem dX4_moonLine_18 : decode cX4_moonLine 18 = .ok (.ldc 204, 2) := by decide +kernel
theorem dX4_moonLine_20 : decode cX4_moonLine 20 = .ok (.invokevirtual 115, 3) := by decide +kernel
theorem dX4_moonLine_23 : decode cX4_moonLine 23 = .ok (.ifCond .ne 5, 3) := by decide +kernel
theorem dX4_moonLine_26 : decode cX4_moonLine 26 = .ok (.iconst 0, 1) := by decide +kernel
theorem dX4_moonLine_27 : decode cX4_moonLine 27 = .ok (.ireturn, 1) := by decide +kernel
theorem dX4_moonLine_28 : decode cX4_moonLine 28 = .ok (.aload_n 0, 1) := by decide +kernel
theorem dX4_moonLine_29 : decode cX4_moonLine 29 = .ok (.iconst 0, 1) := by decide +kernel
theorem dX4_moonLine_30 : decode cX4_moonLine 30 = .ok (.iload_n 1, 1) := by decide +kernel
theorem dX4_moonLine_31 : decode cX4_moonLine 31 = .ok (.invokevirtual 98, 3) := by decide +kernel
theorem dX4_moonLine_34 : decode cX4_moonLine 34 = .ok (.istore_n 2, 1) := by decide +kernel
theorem dX4_moonLine_35 : decode cX4_moonLine 35 = .ok (.iload_n 2, 1) := by decide +kernel
theorem dX4_moonLine_36 : decode cX4_moonLine 36 = .ok (.iconst (-1), 1) := by decide +kernel
theorem dX4_moonLine_37 : decode cX4_moonLine 37 = .ok (.if_icmp .ne 5, 3) := by decide +kernel
theorem dX4_moonLine_40 : decode cX4_moonLine 40 = .ok (.iconst 0, 1) := by decide +kernel
theorem dX4_moonLine_41 : decode cX4_moonLine 41 = .ok (.ireturn, 1) := by decide +kernel
theorem dX4_moonLine_42 : decode cX4_moonLine 42 = .ok (.aload_n 0, 1) := by decide +kernel
theorem dX4_moonLine_43 : decode cX4_moonLine 43 = .ok (.getfield 12, 3) := by decide +kernel
theorem dX4_moonLine_46 : decode cX4_moonLine 46 = .ok (.iload_n 1, 1) := by decide +kernel
theorem dX4_moonLine_47 : decode cX4_moonLine 47 = .ok (.putfield 206, 3) := by decide +kernel
theorem dX4_moonLine_50 : decode cX4_moonLine 50 = .ok (.aload_n 0, 1) := by decide +kernel
theorem dX4_moonLine_51 : decode cX4_moonLine 51 = .ok (.getfield 12, 3) := by decide +kernel
theorem dX4_moonLine_54 : decode cX4_moonLine 54 = .ok (.iload_n 2, 1) := by decide +kernel
theorem dX4_moonLine_55 : decode cX4_moonLine 55 = .ok (.putfield 208, 3) := by decide +kernel
theorem dX4_moonLine_58 : decode cX4_moonLine 58 = .ok (.iconst 1, 1) := by decide +kernel
theorem dX4_moonLine_59 : decode cX4_moonLine 59 = .ok (.ireturn, 1) := by decide +kernel
theorem dX4_corkLine_0 : decode cX4_corkLine 0 = .ok (.aload_n 0, 1) := by decide +kernel
theorem dX4_corkLine_1 : decode cX4_corkLine 1 = .ok (.invokevirtual 47, 3) := by decide +kernel
theorem dX4_corkLine_4 : decode cX4_corkLine 4 = .ok (.aload_n 0, 1) := by decide +kernel
theorem dX4_corkLine_5 : decode cX4_corkLine 5 = .ok (.iconst 1, 1) := by decide +kernel
theorem dX4_corkLine_6 : decode cX4_corkLine 6 = .ok (.bipush 99, 2) := by decide +kernel
theorem dX4_corkLine_8 : decode cX4_corkLine 8 = .ok (.invokevirtual 98, 3) := by decide +kernel
theorem dX4_corkLine_11 : decode cX4_corkLine 11 = .ok (.istore_n 1, 1) := by decide +kernel
theorem dX4_corkLine_12 : decode cX4_corkLine 12 = .ok (.iload_n 1, 1) := by decide +kernel
theorem dX4_corkLine_13 : decode cX4_corkLine 13 = .ok (.iconst (-1), 1) := by decide +kernel
theorem dX4_corkLine_14 : decode cX4_corkLine 14 = .ok (.if_icmp .ne 5, 3) := by decide +kernel
theorem dX4_corkLine_17 : decode cX4_corkLine 17 = .ok (.iconst 0, 1) := by decide +kernel
theorem dX4_corkLine_18 : decode cX4_corkLine 18 = .ok (.ireturn, 1) := by decide +kernel
theorem dX4_corkLine_19 : decode cX4_corkLine 19 = .ok (.aload_n 0, 1) := by decide +kernel
theorem dX4_corkLine_20 : decode cX4_corkLine 20 = .ok (.getfield 12, 3) := by decide +kernel
theorem dX4_corkLine_23 : decode cX4_corkLine 23 = .ok (.iload_n 1, 1) := by decide +kernel
theorem dX4_corkLine_24 : decode cX4_corkLine 24 = .ok (.putfield 210, 3) := by decide +kernel
theorem dX4_corkLine_27 : decode cX4_corkLine 27 = .ok (.iconst 1, 1) := by decide +kernel
theorem dX4_corkLine_28 : decode cX4_corkLine 28 = .ok (.ireturn, 1) := by decide +kernel
theorem dX4_windLine_0 : decode cX4_windLine 0 = .ok (.aload_n 0, 1) := by decide +kernel
theorem dX4_windLine_1 : decode cX4_windLine 1 = .ok (.invokevirtual 47, 3) := by decide +kernel
theorem dX4_windLine_4 : decode cX4_windLine 4 = .ok (.aload_n 0, 1) := by decide +kernel
theorem dX4_windLine_5 : decode cX4_windLine 5 = .ok (.getfield 41, 3) := by decide +kernel
theorem dX4_windLine_8 : decode cX4_windLine 8 = .ok (.istore_n 1, 1) := by decide +kernel
theorem dX4_windLine_9 : decode cX4_windLine 9 = .ok (.aload_n 0, 1) := by decide +kernel
theorem dX4_windLine_10 : decode cX4_windLine 10 = .ok (.bipush 58, 2) := by decide +kernel
theorem dX4_windLine_12 : decode cX4_windLine 12 = .ok (.invokevirtual 107, 3) := by decide +kernel
theorem dX4_windLine_15 : decode cX4_windLine 15 = .ok (.ifCond .eq 12, 3) := by decide +kernel
theorem dX4_windLine_18 : decode cX4_windLine 18 = .ok (.aload_n 0, 1) := by decide +kernel
theorem dX4_windLine_19 : decode cX4_windLine 19 = .ok (.iconst 0, 1) := by decide +kernel
theorem dX4_windLine_20 : decode cX4_windLine 20 = .ok (.iconst 0, 1) := by decide +kernel
theorem dX4_windLine_21 : decode cX4_windLine 21 = .ok (.invokevirtual 212, 3) := by decide +kernel
theorem dX4_windLine_24 : decode cX4_windLine 24 = .ok (.ifCond .ne 5, 3) := by decide +kernel
theorem dX4_windLine_27 : decode cX4_windLine 27 = .ok (.iconst 0, 1) := by decide +kernel
theorem dX4_windLine_28 : decode cX4_windLine 28 = .ok (.ireturn, 1) := by decide +kernel
theorem dX4_windLine_29 : decode cX4_windLine 29 = .ok (.aload_n 0, 1) := by decide +kernel
theorem dX4_windLine_30 : decode cX4_windLine 30 = .ok (.getfield 12, 3) := by decide +kernel
theorem dX4_windLine_33 : decode cX4_windLine 33 = .ok (.iload_n 1, 1) := by decide +kernel
theorem dX4_windLine_34 : decode cX4_windLine 34 = .ok (.putfield 216, 3) := by decide +kernel
theorem dX4_windLine_37 : decode cX4_windLine 37 = .ok (.aload_n 0, 1) := by decide +kernel
theorem dX4_windLine_38 : decode cX4_windLine 38 = .ok (.getfield 12, 3) := by decide +kernel
theorem dX4_windLine_41 : decode cX4_windLine 41 = .ok (.aload_n 0, 1) := by decide +kernel
theorem dX4_windLine_42 : decode cX4_windLine 42 = .ok (.getfield 41, 3) := by decide +kernel
theorem dX4_windLine_45 : decode cX4_windLine 45 = .ok (.putfield 219, 3) := by decide +kernel
theorem dX4_windLine_48 : decode cX4_windLine 48 = .ok (.iconst 1, 1) := by decide +kernel
theorem dX4_windLine_49 : decode cX4_windLine 49 = .ok (.ireturn, 1) := by decide +kernel
theorem dX4_keepsLine_0 : decode cX4_keepsLine 0 = .ok (.aload_n 0, 1) := by decide +kernel
theorem dX4_keepsLine_1 : decode cX4_keepsLine 1 = .ok (.invokevirtual 47, 3) := by decide +kernel
theorem dX4_keepsLine_4 : decode cX4_keepsLine 4 = .ok (.aload_n 0, 1) := by decide +kernel
theorem dX4_keepsLine_5 : decode cX4_keepsLine 5 = .ok (.getfield 41, 3) := by decide +kernel
theorem dX4_keepsLine_8 : decode cX4_keepsLine 8 = .ok (.istore_n 1, 1) := by decide +kernel
theorem dX4_keepsLine_9 : decode cX4_keepsLine 9 = .ok (.aload_n 0, 1) := by decide +kernel
theorem dX4_keepsLine_10 : decode cX4_keepsLine 10 = .ok (.bipush 58, 2) := by decide +kernel
theorem dX4_keepsLine_12 : decode cX4_keepsLine 12 = .ok (.invokevirtual 107, 3) := by decide +kernel
theorem dX4_keepsLine_15 : decode cX4_keepsLine 15 = .ok (.ifCond .eq 11, 3) := by decide +kernel
theorem dX4_keepsLine_18 : decode cX4_keepsLine 18 = .ok (.aload_n 0, 1) := by decide +kernel
theorem dX4_keepsLine_19 : decode cX4_keepsLine 19 = .ok (.iconst 0, 1) := by decide +kernel
theorem dX4_keepsLine_20 : decode cX4_keepsLine 20 = .ok (.invokevirtual 222, 3) := by decide +kernel
theorem dX4_keepsLine_23 : decode cX4_keepsLine 23 = .ok (.ifCond .ne 5, 3) := by decide +kernel
theorem dX4_keepsLine_26 : decode cX4_keepsLine 26 = .ok (.iconst 0, 1) := by decide +kernel
theorem dX4_keepsLine_27 : decode cX4_keepsLine 27 = .ok (.ireturn, 1) := by decide +kernel
theorem dX4_keepsLine_28 : decode cX4_keepsLine 28 = .ok (.aload_n 0, 1) := by decide +kernel
theorem dX4_keepsLine_29 : decode cX4_keepsLine 29 = .ok (.getfield 12, 3) := by decide +kernel
theorem dX4_keepsLine_32 : decode cX4_keepsLine 32 = .ok (.iload_n 1, 1) := by decide +kernel
theorem dX4_keepsLine_33 : decode cX4_keepsLine 33 = .ok (.putfield 225, 3) := by decide +kernel
theorem dX4_keepsLine_36 : decode cX4_keepsLine 36 = .ok (.aload_n 0, 1) := by decide +kernel
theorem dX4_keepsLine_37 : decode cX4_keepsLine 37 = .ok (.getfield 12, 3) := by decide +kernel
theorem dX4_keepsLine_40 : decode cX4_keepsLine 40 = .ok (.aload_n 0, 1) := by decide +kernel
theorem dX4_keepsLine_41 : decode cX4_keepsLine 41 = .ok (.getfield 41, 3) := by decide +kernel
theorem dX4_keepsLine_44 : decode cX4_keepsLine 44 = .ok (.putfield 228, 3) := by decide +kernel
theorem dX4_keepsLine_47 : decode cX4_keepsLine 47 = .ok (.iconst 1, 1) := by decide +kernel
theorem dX4_keepsLine_48 : decode cX4_keepsLine 48 = .ok (.ireturn, 1) := by decide +kernel
theorem dX4_emit_0 : decode cX4_emit 0 = .ok (.aload_n 0, 1) := by decide +kernel
theorem dX4_emit_1 : decode cX4_emit 1 = .ok (.getfield 41, 3) := by decide +kernel
theorem dX4_emit_4 : decode cX4_emit 4 = .ok (.ifCond .lt 36, 3) := by decide +kernel
theorem dX4_emit_7 : decode cX4_emit 7 = .ok (.aload_n 0, 1) := by decide +kernel
theorem dX4_emit_8 : decode cX4_emit 8 = .ok (.getfield 41, 3) := by decide +kernel
theorem dX4_emit_11 : decode cX4_emit 11 = .ok (.sipush 900, 3) := by decide +kernel
theorem dX4_emit_14 : decode cX4_emit 14 = .ok (.if_icmp .ge 26, 3) := by decide +kernel
theorem dX4_emit_17 : decode cX4_emit 17 = .ok (.aload_n 0, 1) := by decide +kernel
theorem dX4_emit_18 : decode cX4_emit 18 = .ok (.getfield 12, 3) := by decide +kernel
theorem dX4_emit_21 : decode cX4_emit 21 = .ok (.getfield 231, 3) := by decide +kernel
theorem dX4_emit_24 : decode cX4_emit 24 = .ok (.aload_n 0, 1) := by decide +kernel
theorem dX4_emit_25 : decode cX4_emit 25 = .ok (.getfield 41, 3) := by decide +kernel
theorem dX4_emit_28 : decode cX4_emit 28 = .ok (.iload_n 1, 1) := by decide +kernel
theorem dX4_emit_29 : decode cX4_emit 29 = .ok (.iastore, 1) := by decide +kernel
theorem dX4_emit_30 : decode cX4_emit 30 = .ok (.aload_n 0, 1) := by decide +kernel
theorem dX4_emit_31 : decode cX4_emit 31 = .ok (.dup, 1) := by decide +kernel
theorem dX4_emit_32 : decode cX4_emit 32 = .ok (.getfield 41, 3) := by decide +kernel
theorem dX4_emit_35 : decode cX4_emit 35 = .ok (.iconst 1, 1) := by decide +kernel
theorem dX4_emit_36 : decode cX4_emit 36 = .ok (.iadd, 1) := by decide +kernel
theorem dX4_emit_37 : decode cX4_emit 37 = .ok (.putfield 41, 3) := by decide +kernel
theorem dX4_emit_40 : decode cX4_emit 40 = .ok (.return_, 1) := by decide +kernel
theorem dX4_truth_0 : decode cX4_truth 0 = .ok (.aload_n 0, 1) := by decide +kernel
theorem dX4_truth_1 : decode cX4_truth 1 = .ok (.iload_n 1, 1) := by decide +kernel
theorem dX4_truth_2 : decode cX4_truth 2 = .ok (.invokevirtual 234, 3) := by decide +kernel
theorem dX4_truth_5 : decode cX4_truth 5 = .ok (.istore_n 2, 1) := by decide +kernel
theorem dX4_truth_6 : decode cX4_truth 6 = .ok (.iconst 0, 1) := by decide +kernel
theorem dX4_truth_7 : decode cX4_truth 7 = .ok (.istore_n 3, 1) := by decide +kernel
theorem dX4_truth_8 : decode cX4_truth 8 = .ok (.iload_n 3, 1) := by decide +kernel
theorem dX4_truth_9 : decode cX4_truth 9 = .ok (.sipush 900, 3) := by decide +kernel
theorem dX4_truth_12 : decode cX4_truth 12 = .ok (.if_icmp .ge 39, 3) := by decide +kernel
theorem dX4_truth_15 : decode cX4_truth 15 = .ok (.iload_n 2, 1) := by decide +kernel
theorem dX4_truth_16 : decode cX4_truth 16 = .ok (.ifCond .eq 35, 3) := by decide +kernel
theorem dX4_truth_19 : decode cX4_truth 19 = .ok (.aload_n 0, 1) := by decide +kernel
theorem dX4_truth_20 : decode cX4_truth 20 = .ok (.ldc 237, 2) := by decide +kernel
theorem dX4_truth_22 : decode cX4_truth 22 = .ok (.invokevirtual 87, 3) := by decide +kernel
theorem dX4_truth_25 : decode cX4_truth 25 = .ok (.ifCond .eq 26, 3) := by decide +kernel
theorem dX4_truth_28 : decode cX4_truth 28 = .ok (.aload_n 0, 1) := by decide +kernel
theorem dX4_truth_29 : decode cX4_truth 29 = .ok (.invokevirtual 47, 3) := by decide +kernel
theorem dX4_truth_32 : decode cX4_truth 32 = .ok (.aload_n 0, 1) := by decide +kernel
theorem dX4_truth_33 : decode cX4_truth 33 = .ok (.iload_n 1, 1) := by decide +kernel
theorem dX4_truth_34 : decode cX4_truth 34 = .ok (.invokevirtual 234, 3) := by decide +kernel
theorem dX4_truth_37 : decode cX4_truth 37 = .ok (.istore_n 2, 1) := by decide +kernel
theorem dX4_truth_38 : decode cX4_truth 38 = .ok (.aload_n 0, 1) := by decide +kernel
theorem dX4_truth_39 : decode cX4_truth 39 = .ok (.sipush 2001, 3) := by decide +kernel
theorem dX4_truth_42 : decode cX4_truth 42 = .ok (.invokevirtual 239, 3) := by decide +kernel
theorem dX4_truth_45 : decode cX4_truth 45 = .ok (.iinc 3 1, 3) := by decide +kernel
theorem dX4_truth_48 : decode cX4_truth 48 = .ok (.goto (-40), 3) := by decide +kernel
theorem dX4_truth_51 : decode cX4_truth 51 = .ok (.iload_n 2, 1) := by decide +kernel
theorem dX4_truth_52 : decode cX4_truth 52 = .ok (.ireturn, 1) := by decide +kernel
theorem dX4_both_0 : decode cX4_both 0 = .ok (.aload_n 0, 1) := by decide +kernel
theorem dX4_both_1 : decode cX4_both 1 = .ok (.iload_n 1, 1) := by decide +kernel
theorem dX4_both_2 : decode cX4_both 2 = .ok (.invokevirtual 243, 3) := by decide +kernel
theorem dX4_both_5 : decode cX4_both 5 = .ok (.istore_n 2, 1) := by decide +kernel
theorem dX4_both_6 : decode cX4_both 6 = .ok (.iconst 0, 1) := by decide +kernel
theorem dX4_both_7 : decode cX4_both 7 = .ok (.istore_n 3, 1) := by decide +kernel
theorem dX4_both_8 : decode cX4_both 8 = .ok (.iload_n 3, 1) := by decide +kernel
theorem dX4_both_9 : decode cX4_both 9 = .ok (.sipush 900, 3) := by decide +kernel
theorem dX4_both_12 : decode cX4_both 12 = .ok (.if_icmp .ge 39, 3) := by decide +kernel
theorem dX4_both_15 : decode cX4_both 15 = .ok (.iload_n 2, 1) := by decide +kernel
theorem dX4_both_16 : decode cX4_both 16 = .ok (.ifCond .eq 35, 3) := by decide +kernel
theorem dX4_both_19 : decode cX4_both 19 = .ok (.aload_n 0, 1) := by decide +kernel
theorem dX4_both_20 : decode cX4_both 20 = .ok (.ldc 246, 2) := by decide +kernel
theorem dX4_both_22 : decode cX4_both 22 = .ok (.invokevirtual 87, 3) := by decide +kernel
theorem dX4_both_25 : decode cX4_both 25 = .ok (.ifCond .eq 26, 3) := by decide +kernel
theorem dX4_both_28 : decode cX4_both 28 = .ok (.aload_n 0, 1) := by decide +kernel
theorem dX4_both_29 : decode cX4_both 29 = .ok (.invokevirtual 47, 3) := by decide +kernel
theorem dX4_both_32 : decode cX4_both 32 = .ok (.aload_n 0, 1) := by decide +kernel
theorem dX4_both_33 : decode cX4_both 33 = .ok (.iload_n 1, 1) := by decide +kernel
theorem dX4_both_34 : decode cX4_both 34 = .ok (.invokevirtual 243, 3) := by decide +kernel
theorem dX4_both_37 : decode cX4_both 37 = .ok (.istore_n 2, 1) := by decide +kernel
theorem dX4_both_38 : decode cX4_both 38 = .ok (.aload_n 0, 1) := by decide +kernel
theorem dX4_both_39 : decode cX4_both 39 = .ok (.sipush 2002, 3) := by decide +kernel
theorem dX4_both_42 : decode cX4_both 42 = .ok (.invokevirtual 239, 3) := by decide +kernel
theorem dX4_both_45 : decode cX4_both 45 = .ok (.iinc 3 1, 3) := by decide +kernel
theorem dX4_both_48 : decode cX4_both 48 = .ok (.goto (-40), 3) := by decide +kernel
theorem dX4_both_51 : decode cX4_both 51 = .ok (.iload_n 2, 1) := by decide +kernel
theorem dX4_both_52 : decode cX4_both 52 = .ok (.ireturn, 1) := by decide +kernel
theorem dX4_unit_0 : decode cX4_unit 0 = .ok (.aload_n 0, 1) := by decide +kernel
theorem dX4_unit_1 : decode cX4_unit 1 = .ok (.ldc 248, 2) := by decide +kernel
theorem dX4_unit_3 : decode cX4_unit 3 = .ok (.invokevirtual 87, 3) := by decide +kernel
theorem dX4_unit_6 : decode cX4_unit 6 = .ok (.istore_n 2, 1) := by decide +kernel
theorem dX4_unit_7 : decode cX4_unit 7 = .ok (.iload_n 2, 1) := by decide +kernel
theorem dX4_unit_8 : decode cX4_unit 8 = .ok (.ifCond .ne 12, 3) := by decide +kernel
theorem dX4_unit_11 : decode cX4_unit 11 = .ok (.aload_n 0, 1) := by decide +kernel
theorem dX4_unit_12 : decode cX4_unit 12 = .ok (.getfield 57, 3) := by decide +kernel
theorem dX4_unit_15 : decode cX4_unit 15 = .ok (.bipush 91, 2) := by decide +kernel
theorem dX4_unit_17 : decode cX4_unit 17 = .ok (.if_icmp .ne 65, 3) := by decide +kernel
theorem dX4_unit_20 : decode cX4_unit 20 = .ok (.iload_n 1, 1) := by decide +kernel
theorem dX4_unit_21 : decode cX4_unit 21 = .ok (.bipush 6, 2) := by decide +kernel
theorem dX4_unit_23 : decode cX4_unit 23 = .ok (.if_icmp .lt 9, 3) := by decide +kernel
theorem dX4_unit_26 : decode cX4_unit 26 = .ok (.aload_n 0, 1) := by decide +kernel
theorem dX4_unit_27 : decode cX4_unit 27 = .ok (.iconst 4, 1) := by decide +kernel
theorem dX4_unit_28 : decode cX4_unit 28 = .ok (.invokevirtual 91, 3) := by decide +kernel
theorem dX4_unit_31 : decode cX4_unit 31 = .ok (.ireturn, 1) := by decide +kernel
theorem dX4_unit_32 : decode cX4_unit 32 = .ok (.aload_n 0, 1) := by decide +kernel
theorem dX4_unit_33 : decode cX4_unit 33 = .ok (.invokevirtual 47, 3) := by decide +kernel
theorem dX4_unit_36 : decode cX4_unit 36 = .ok (.iload_n 2, 1) := by decide +kernel
theorem dX4_unit_37 : decode cX4_unit 37 = .ok (.ifCond .ne 28, 3) := by decide +kernel
theorem dX4_unit_40 : decode cX4_unit 40 = .ok (.aload_n 0, 1) := by decide +kernel
theorem dX4_unit_41 : decode cX4_unit 41 = .ok (.iload_n 1, 1) := by decide +kernel
theorem dX4_unit_42 : decode cX4_unit 42 = .ok (.iconst 1, 1) := by decide +kernel
theorem dX4_unit_43 : decode cX4_unit 43 = .ok (.iadd, 1) := by decide +kernel
theorem dX4_unit_44 : decode cX4_unit 44 = .ok (.invokevirtual 222, 3) := by decide +kernel
theorem dX4_unit_47 : decode cX4_unit 47 = .ok (.ifCond .eq 16, 3) := by decide +kernel
theorem dX4_unit_50 : decode cX4_unit 50 = .ok (.aload_n 0, 1) := by decide +kernel
theorem dX4_unit_51 : decode cX4_unit 51 = .ok (.bipush 93, 2) := by decide +kernel
theorem dX4_unit_53 : decode cX4_unit 53 = .ok (.invokevirtual 107, 3) := by decide +kernel
theorem dX4_unit_56 : decode cX4_unit 56 = .ok (.ifCond .eq 7, 3) := by decide +kernel
theorem dX4_unit_59 : decode cX4_unit 59 = .ok (.iconst 1, 1) := by decide +kernel
theorem dX4_unit_60 : decode cX4_unit 60 = .ok (.goto 4, 3) := by decide +kernel
theorem dX4_unit_63 : decode cX4_unit 63 = .ok (.iconst 0, 1) := by decide +kernel
theorem dX4_unit_64 : decode cX4_unit 64 = .ok (.ireturn, 1) := by decide +kernel
theorem dX4_unit_65 : decode cX4_unit 65 = .ok (.aload_n 0, 1) := by decide +kernel
theorem dX4_unit_66 : decode cX4_unit 66 = .ok (.iload_n 1, 1) := by decide +kernel
theorem dX4_unit_67 : decode cX4_unit 67 = .ok (.iconst 1, 1) := by decide +kernel
theorem dX4_unit_68 : decode cX4_unit 68 = .ok (.iadd, 1) := by decide +kernel
theorem dX4_unit_69 : decode cX4_unit 69 = .ok (.invokevirtual 243, 3) := by decide +kernel
theorem dX4_unit_72 : decode cX4_unit 72 = .ok (.istore_n 3, 1) := by decide +kernel
theorem dX4_unit_73 : decode cX4_unit 73 = .ok (.aload_n 0, 1) := by decide +kernel
theorem dX4_unit_74 : decode cX4_unit 74 = .ok (.sipush 2003, 3) := by decide +kernel
theorem dX4_unit_77 : decode cX4_unit 77 = .ok (.invokevirtual 239, 3) := by decide +kernel
theorem dX4_unit_80 : decode cX4_unit 80 = .ok (.iload_n 3, 1) := by decide +kernel
theorem dX4_unit_81 : decode cX4_unit 81 = .ok (.ireturn, 1) := by decide +kernel
theorem dX4_unit_82 : decode cX4_unit 82 = .ok (.aload_n 0, 1) := by decide +kernel
theorem dX4_unit_83 : decode cX4_unit 83 = .ok (.iload_n 1, 1) := by decide +kernel
theorem dX4_unit_84 : decode cX4_unit 84 = .ok (.iconst 1, 1) := by decide +kernel
theorem dX4_unit_85 : decode cX4_unit 85 = .ok (.invokevirtual 212, 3) := by decide +kernel
theorem dX4_unit_88 : decode cX4_unit 88 = .ok (.ifCond .ne 5, 3) := by decide +kernel
theorem dX4_unit_91 : decode cX4_unit 91 = .ok (.iconst 0, 1) := by decide +kernel
theorem dX4_unit_92 : decode cX4_unit 92 = .ok (.ireturn, 1) := by decide +kernel
theorem dX4_unit_93 : decode cX4_unit 93 = .ok (.aload_n 0, 1) := by decide +kernel
theorem dX4_unit_94 : decode cX4_unit 94 = .ok (.getfield 57, 3) := by decide +kernel
theorem dX4_unit_97 : decode cX4_unit 97 = .ok (.istore_n 3, 1) := by decide +kernel
theorem dX4_unit_98 : decode cX4_unit 98 = .ok (.iload_n 3, 1) := by decide +kernel
theorem dX4_unit_99 : decode cX4_unit 99 = .ok (.bipush 61, 2) := by decide +kernel
theorem dX4_unit_101 : decode cX4_unit 101 = .ok (.if_icmp .eq 21, 3) := by decide +kernel
theorem dX4_unit_104 : decode cX4_unit 104 = .ok (.iload_n 3, 1) := by decide +kernel
theorem dX4_unit_105 : decode cX4_unit 105 = .ok (.bipush 60, 2) := by decide +kernel
theorem dX4_unit_107 : decode cX4_unit 107 = .ok (.if_icmp .eq 15, 3) := by decide +kernel
theorem dX4_unit_110 : decode cX4_unit 110 = .ok (.iload_n 3, 1) := by decide +kernel
theorem dX4_unit_111 : decode cX4_unit 111 = .ok (.bipush 62, 2) := by decide +kernel
theorem dX4_unit_113 : decode cX4_unit 113 = .ok (.if_icmp .eq 9, 3) := by decide +kernel
theorem dX4_unit_116 : decode cX4_unit 116 = .ok (.aload_n 0, 1) := by decide +kernel
theorem dX4_unit_117 : decode cX4_unit 117 = .ok (.iconst 2, 1) := by decide +kernel
theorem dX4_unit_118 : decode cX4_unit 118 = .ok (.invokevirtual 91, 3) := by decide +kernel
theorem dX4_unit_121 : decode cX4_unit 121 = .ok (.ireturn, 1) := by decide +kernel
theorem dX4_unit_122 : decode cX4_unit 122 = .ok (.aload_n 0, 1) := by decide +kernel
theorem dX4_unit_123 : decode cX4_unit 123 = .ok (.invokevirtual 47, 3) := by decide +kernel
theorem dX4_unit_126 : decode cX4_unit 126 = .ok (.aload_n 0, 1) := by decide +kernel
theorem dX4_unit_127 : decode cX4_unit 127 = .ok (.iload_n 1, 1) := by decide +kernel
theorem dX4_unit_128 : decode cX4_unit 128 = .ok (.iconst 1, 1) := by decide +kernel
theorem dX4_unit_129 : decode cX4_unit 129 = .ok (.invokevirtual 212, 3) := by decide +kernel
theorem dX4_unit_132 : decode cX4_unit 132 = .ok (.istore 4, 2) := by decide +kernel
theorem dX4_unit_134 : decode cX4_unit 134 = .ok (.aload_n 0, 1) := by decide +kernel
theorem dX4_unit_135 : decode cX4_unit 135 = .ok (.sipush 2000, 3) := by decide +kernel
theorem dX4_unit_138 : decode cX4_unit 138 = .ok (.iload_n 3, 1) := by decide +kernel
theorem dX4_unit_139 : decode cX4_unit 139 = .ok (.iadd, 1) := by decide +kernel
theorem dX4_unit_140 : decode cX4_unit 140 = .ok (.invokevirtual 239, 3) := by decide +kernel
theorem dX4_unit_143 : decode cX4_unit 143 = .ok (.iload 4, 2) := by decide +kernel
theorem dX4_unit_145 : decode cX4_unit 145 = .ok (.ireturn, 1) := by decide +kernel
theorem dX4_sum_0 : decode cX4_sum 0 = .ok (.aload_n 0, 1) := by decide +kernel
theorem dX4_sum_1 : decode cX4_sum 1 = .ok (.iload_n 1, 1) := by decide +kernel
theorem dX4_sum_2 : decode cX4_sum 2 = .ok (.iload_n 2, 1) := by decide +kernel
theorem dX4_sum_3 : decode cX4_sum 3 = .ok (.invokevirtual 250, 3) := by decide +kernel
theorem dX4_sum_6 : decode cX4_sum 6 = .ok (.istore_n 3, 1) := by decide +kernel
theorem dX4_sum_7 : decode cX4_sum 7 = .ok (.iconst 0, 1) := by decide +kernel
theorem dX4_sum_8 : decode cX4_sum 8 = .ok (.istore 4, 2) := by decide +kernel
theorem dX4_sum_10 : decode cX4_sum 10 = .ok (.iload 4, 2) := by decide +kernel
theorem dX4_sum_12 : decode cX4_sum 12 = .ok (.sipush 900, 3) := by decide +kernel
theorem dX4_sum_15 : decode cX4_sum 15 = .ok (.if_icmp .ge 58, 3) := by decide +kernel
theorem dX4_sum_18 : decode cX4_sum 18 = .ok (.iload_n 3, 1) := by decide +kernel
theorem dX4_sum_19 : decode cX4_sum 19 = .ok (.ifCond .eq 54, 3) := by decide +kernel
theorem dX4_sum_22 : decode cX4_sum 22 = .ok (.aload_n 0, 1) := by decide +kernel
theorem dX4_sum_23 : decode cX4_sum 23 = .ok (.getfield 57, 3) := by decide +kernel
theorem dX4_sum_26 : decode cX4_sum 26 = .ok (.bipush 43, 2) := by decide +kernel
theorem dX4_sum_28 : decode cX4_sum 28 = .ok (.if_icmp .eq 12, 3) := by decide +kernel
theorem dX4_sum_31 : decode cX4_sum 31 = .ok (.aload_n 0, 1) := by decide +kernel
theorem dX4_sum_32 : decode cX4_sum 32 = .ok (.getfield 57, 3) := by decide +kernel
theorem dX4_sum_35 : decode cX4_sum 35 = .ok (.bipush 45, 2) := by decide +kernel
theorem dX4_sum_37 : decode cX4_sum 37 = .ok (.if_icmp .ne 36, 3) := by decide +kernel
theorem dX4_sum_40 : decode cX4_sum 40 = .ok (.aload_n 0, 1) := by decide +kernel
theorem dX4_sum_41 : decode cX4_sum 41 = .ok (.getfield 57, 3) := by decide +kernel
theorem dX4_sum_44 : decode cX4_sum 44 = .ok (.istore 5, 2) := by decide +kernel
theorem dX4_sum_46 : decode cX4_sum 46 = .ok (.aload_n 0, 1) := by decide +kernel
theorem dX4_sum_47 : decode cX4_sum 47 = .ok (.invokevirtual 47, 3) := by decide +kernel
theorem dX4_sum_50 : decode cX4_sum 50 = .ok (.aload_n 0, 1) := by decide +kernel
theorem dX4_sum_51 : decode cX4_sum 51 = .ok (.iload_n 1, 1) := by decide +kernel
theorem dX4_sum_52 : decode cX4_sum 52 = .ok (.iload_n 2, 1) := by decide +kernel
theorem dX4_sum_53 : decode cX4_sum 53 = .ok (.invokevirtual 250, 3) := by decide +kernel
theorem dX4_sum_56 : decode cX4_sum 56 = .ok (.istore_n 3, 1) := by decide +kernel
theorem dX4_sum_57 : decode cX4_sum 57 = .ok (.aload_n 0, 1) := by decide +kernel
theorem dX4_sum_58 : decode cX4_sum 58 = .ok (.sipush 2000, 3) := by decide +kernel
theorem dX4_sum_61 : decode cX4_sum 61 = .ok (.iload 5, 2) := by decide +kernel
theorem dX4_sum_63 : decode cX4_sum 63 = .ok (.iadd, 1) := by decide +kernel
theorem dX4_sum_64 : decode cX4_sum 64 = .ok (.invokevirtual 239, 3) := by decide +kernel
theorem dX4_sum_67 : decode cX4_sum 67 = .ok (.iinc 4 1, 3) := by decide +kernel
theorem dX4_sum_70 : decode cX4_sum 70 = .ok (.goto (-60), 3) := by decide +kernel
theorem dX4_sum_73 : decode cX4_sum 73 = .ok (.iload_n 3, 1) := by decide +kernel
theorem dX4_sum_74 : decode cX4_sum 74 = .ok (.ireturn, 1) := by decide +kernel
theorem dX4_term_0 : decode cX4_term 0 = .ok (.aload_n 0, 1) := by decide +kernel
theorem dX4_term_1 : decode cX4_term 1 = .ok (.iload_n 1, 1) := by decide +kernel
theorem dX4_term_2 : decode cX4_term 2 = .ok (.iload_n 2, 1) := by decide +kernel
theorem dX4_term_3 : decode cX4_term 3 = .ok (.invokevirtual 253, 3) := by decide +kernel
theorem dX4_term_6 : decode cX4_term 6 = .ok (.istore_n 3, 1) := by decide +kernel
theorem dX4_term_7 : decode cX4_term 7 = .ok (.iconst 0, 1) := by decide +kernel
theorem dX4_term_8 : decode cX4_term 8 = .ok (.istore 4, 2) := by decide +kernel
theorem dX4_term_10 : decode cX4_term 10 = .ok (.iload 4, 2) := by decide +kernel
theorem dX4_term_12 : decode cX4_term 12 = .ok (.sipush 900, 3) := by decide +kernel
theorem dX4_term_15 : decode cX4_term 15 = .ok (.if_icmp .ge 40, 3) := by decide +kernel
theorem dX4_term_18 : decode cX4_term 18 = .ok (.iload_n 3, 1) := by decide +kernel
theorem dX4_term_19 : decode cX4_term 19 = .ok (.ifCond .eq 36, 3) := by decide +kernel
theorem dX4_term_22 : decode cX4_term 22 = .ok (.aload_n 0, 1) := by decide +kernel
theorem dX4_term_23 : decode cX4_term 23 = .ok (.getfield 57, 3) := by decide +kernel
theorem dX4_term_26 : decode cX4_term 26 = .ok (.bipush 42, 2) := by decide +kernel
theorem dX4_term_28 : decode cX4_term 28 = .ok (.if_icmp .ne 27, 3) := by decide +kernel
theorem dX4_term_31 : decode cX4_term 31 = .ok (.aload_n 0, 1) := by decide +kernel
theorem dX4_term_32 : decode cX4_term 32 = .ok (.invokevirtual 47, 3) := by decide +kernel
theorem dX4_term_35 : decode cX4_term 35 = .ok (.aload_n 0, 1) := by decide +kernel
theorem dX4_term_36 : decode cX4_term 36 = .ok (.iload_n 1, 1) := by decide +kernel
theorem dX4_term_37 : decode cX4_term 37 = .ok (.iload_n 2, 1) := by decide +kernel
theorem dX4_term_38 : decode cX4_term 38 = .ok (.invokevirtual 253, 3) := by decide +kernel
theorem dX4_term_41 : decode cX4_term 41 = .ok (.istore_n 3, 1) := by decide +kernel
theorem dX4_term_42 : decode cX4_term 42 = .ok (.aload_n 0, 1) := by decide +kernel
theorem dX4_term_43 : decode cX4_term 43 = .ok (.sipush 2042, 3) := by decide +kernel
theorem dX4_term_46 : decode cX4_term 46 = .ok (.invokevirtual 239, 3) := by decide +kernel
theorem dX4_term_49 : decode cX4_term 49 = .ok (.iinc 4 1, 3) := by decide +kernel
theorem dX4_term_52 : decode cX4_term 52 = .ok (.goto (-42), 3) := by decide +kernel
theorem dX4_term_55 : decode cX4_term 55 = .ok (.iload_n 3, 1) := by decide +kernel
theorem dX4_term_56 : decode cX4_term 56 = .ok (.ireturn, 1) := by decide +kernel
theorem dX4_atom_0 : decode cX4_atom 0 = .ok (.aload_n 0, 1) := by decide +kernel
theorem dX4_atom_1 : decode cX4_atom 1 = .ok (.getfield 57, 3) := by decide +kernel
theorem dX4_atom_4 : decode cX4_atom 4 = .ok (.bipush 40, 2) := by decide +kernel
theorem dX4_atom_6 : decode cX4_atom 6 = .ok (.if_icmp .ne 45, 3) := by decide +kernel
theorem dX4_atom_9 : decode cX4_atom 9 = .ok (.iload_n 1, 1) := by decide +kernel
theorem dX4_atom_10 : decode cX4_atom 10 = .ok (.bipush 6, 2) := by decide +kernel
theorem dX4_atom_12 : decode cX4_atom 12 = .ok (.if_icmp .lt 9, 3) := by decide +kernel
theorem dX4_atom_15 : decode cX4_atom 15 = .ok (.aload_n 0, 1) := by decide +kernel
theorem dX4_atom_16 : decode cX4_atom 16 = .ok (.iconst 4, 1) := by decide +kernel
theorem dX4_atom_17 : decode cX4_atom 17 = .ok (.invokevirtual 91, 3) := by decide +kernel
theorem dX4_atom_20 : decode cX4_atom 20 = .ok (.ireturn, 1) := by decide +kernel
theorem dX4_atom_21 : decode cX4_atom 21 = .ok (.aload_n 0, 1) := by decide +kernel
theorem dX4_atom_22 : decode cX4_atom 22 = .ok (.invokevirtual 47, 3) := by decide +kernel
theorem dX4_atom_25 : decode cX4_atom 25 = .ok (.aload_n 0, 1) := by decide +kernel
theorem dX4_atom_26 : decode cX4_atom 26 = .ok (.iload_n 1, 1) := by decide +kernel
theorem dX4_atom_27 : decode cX4_atom 27 = .ok (.iconst 1, 1) := by decide +kernel
theorem dX4_atom_28 : decode cX4_atom 28 = .ok (.iadd, 1) := by decide +kernel
theorem dX4_atom_29 : decode cX4_atom 29 = .ok (.iload_n 2, 1) := by decide +kernel
theorem dX4_atom_30 : decode cX4_atom 30 = .ok (.invokevirtual 212, 3) := by decide +kernel
theorem dX4_atom_33 : decode cX4_atom 33 = .ok (.ifCond .eq 16, 3) := by decide +kernel
theorem dX4_atom_36 : decode cX4_atom 36 = .ok (.aload_n 0, 1) := by decide +kernel
theorem dX4_atom_37 : decode cX4_atom 37 = .ok (.bipush 41, 2) := by decide +kernel
theorem dX4_atom_39 : decode cX4_atom 39 = .ok (.invokevirtual 107, 3) := by decide +kernel
theorem dX4_atom_42 : decode cX4_atom 42 = .ok (.ifCond .eq 7, 3) := by decide +kernel
theorem dX4_atom_45 : decode cX4_atom 45 = .ok (.iconst 1, 1) := by decide +kernel
theorem dX4_atom_46 : decode cX4_atom 46 = .ok (.goto 4, 3) := by decide +kernel
theorem dX4_atom_49 : decode cX4_atom 49 = .ok (.iconst 0, 1) := by decide +kernel
theorem dX4_atom_50 : decode cX4_atom 50 = .ok (.ireturn, 1) := by decide +kernel
theorem dX4_atom_51 : decode cX4_atom 51 = .ok (.aload_n 0, 1) := by decide +kernel
theorem dX4_atom_52 : decode cX4_atom 52 = .ok (.getfield 57, 3) := by decide +kernel
theorem dX4_atom_55 : decode cX4_atom 55 = .ok (.iconst 2, 1) := by decide +kernel
theorem dX4_atom_56 : decode cX4_atom 56 = .ok (.if_icmp .ne 17, 3) := by decide +kernel
theorem dX4_atom_59 : decode cX4_atom 59 = .ok (.aload_n 0, 1) := by decide +kernel
theorem dX4_atom_60 : decode cX4_atom 60 = .ok (.aload_n 0, 1) := by decide +kernel
theorem dX4_atom_61 : decode cX4_atom 61 = .ok (.getfield 69, 3) := by decide +kernel
theorem dX4_atom_64 : decode cX4_atom 64 = .ok (.invokevirtual 239, 3) := by decide +kernel
theorem dX4_atom_67 : decode cX4_atom 67 = .ok (.aload_n 0, 1) := by decide +kernel
theorem dX4_atom_68 : decode cX4_atom 68 = .ok (.invokevirtual 47, 3) := by decide +kernel
theorem dX4_atom_71 : decode cX4_atom 71 = .ok (.iconst 1, 1) := by decide +kernel
theorem dX4_atom_72 : decode cX4_atom 72 = .ok (.ireturn, 1) := by decide +kernel
theorem dX4_atom_73 : decode cX4_atom 73 = .ok (.iload_n 2, 1) := by decide +kernel
theorem dX4_atom_74 : decode cX4_atom 74 = .ok (.ifCond .eq 10, 3) := by decide +kernel
theorem dX4_atom_77 : decode cX4_atom 77 = .ok (.aload_n 0, 1) := by decide +kernel
theorem dX4_atom_78 : decode cX4_atom 78 = .ok (.invokevirtual 256, 3) := by decide +kernel
theorem dX4_atom_81 : decode cX4_atom 81 = .ok (.goto 7, 3) := by decide +kernel
theorem dX4_atom_84 : decode cX4_atom 84 = .ok (.aload_n 0, 1) := by decide +kernel
theorem dX4_atom_85 : decode cX4_atom 85 = .ok (.invokevirtual 259, 3) := by decide +kernel
theorem dX4_atom_88 : decode cX4_atom 88 = .ok (.istore_n 3, 1) := by decide +kernel
theorem dX4_atom_89 : decode cX4_atom 89 = .ok (.iload_n 3, 1) := by decide +kernel
theorem dX4_atom_90 : decode cX4_atom 90 = .ok (.iconst (-1), 1) := by decide +kernel
theorem dX4_atom_91 : decode cX4_atom 91 = .ok (.if_icmp .ne 9, 3) := by decide +kernel
theorem dX4_atom_94 : decode cX4_atom 94 = .ok (.aload_n 0, 1) := by decide +kernel
theorem dX4_atom_95 : decode cX4_atom 95 = .ok (.iconst 2, 1) := by decide +kernel
theorem dX4_atom_96 : decode cX4_atom 96 = .ok (.invokevirtual 91, 3) := by decide +kernel
theorem dX4_atom_99 : decode cX4_atom 99 = .ok (.ireturn, 1) := by decide +kernel
theorem dX4_atom_100 : decode cX4_atom 100 = .ok (.aload_n 0, 1) := by decide +kernel
theorem dX4_atom_101 : decode cX4_atom 101 = .ok (.sipush 1000, 3) := by decide +kernel
theorem dX4_atom_104 : decode cX4_atom 104 = .ok (.iload_n 3, 1) := by decide +kernel
theorem dX4_atom_105 : decode cX4_atom 105 = .ok (.iadd, 1) := by decide +kernel
theorem dX4_atom_106 : decode cX4_atom 106 = .ok (.invokevirtual 239, 3) := by decide +kernel
theorem dX4_atom_109 : decode cX4_atom 109 = .ok (.aload_n 0, 1) := by decide +kernel
theorem dX4_atom_110 : decode cX4_atom 110 = .ok (.invokevirtual 47, 3) := by decide +kernel
theorem dX4_atom_113 : decode cX4_atom 113 = .ok (.iconst 1, 1) := by decide +kernel
theorem dX4_atom_114 : decode cX4_atom 114 = .ok (.ireturn, 1) := by decide +kernel
theorem dX4_windWord_0 : decode cX4_windWord 0 = .ok (.aload_n 0, 1) := by decide +kernel
theorem dX4_windWord_1 : decode cX4_windWord 1 = .ok (.ldc_w 262, 3) := by decide +kernel
theorem dX4_windWord_4 : decode cX4_windWord 4 = .ok (.invokevirtual 87, 3) := by decide +kernel
theorem dX4_windWord_7 : decode cX4_windWord 7 = .ok (.ifCond .eq 5, 3) := by decide +kernel
theorem dX4_windWord_10 : decode cX4_windWord 10 = .ok (.iconst 0, 1) := by decide +kernel
theorem dX4_windWord_11 : decode cX4_windWord 11 = .ok (.ireturn, 1) := by decide +kernel
theorem dX4_windWord_12 : decode cX4_windWord 12 = .ok (.aload_n 0, 1) := by decide +kernel
theorem dX4_windWord_13 : decode cX4_windWord 13 = .ok (.ldc_w 264, 3) := by decide +kernel
theorem dX4_windWord_16 : decode cX4_windWord 16 = .ok (.invokevirtual 87, 3) := by decide +kernel
theorem dX4_windWord_19 : decode cX4_windWord 19 = .ok (.ifCond .eq 5, 3) := by decide +kernel
theorem dX4_windWord_22 : decode cX4_windWord 22 = .ok (.iconst 1, 1) := by decide +kernel
theorem dX4_windWord_23 : decode cX4_windWord 23 = .ok (.ireturn, 1) := by decide +kernel
theorem dX4_windWord_24 : decode cX4_windWord 24 = .ok (.aload_n 0, 1) := by decide +kernel
theorem dX4_windWord_25 : decode cX4_windWord 25 = .ok (.ldc_w 266, 3) := by decide +kernel
theorem dX4_windWord_28 : decode cX4_windWord 28 = .ok (.invokevirtual 87, 3) := by decide +kernel
theorem dX4_windWord_31 : decode cX4_windWord 31 = .ok (.ifCond .eq 5, 3) := by decide +kernel
theorem dX4_windWord_34 : decode cX4_windWord 34 = .ok (.iconst 2, 1) := by decide +kernel
theorem dX4_windWord_35 : decode cX4_windWord 35 = .ok (.ireturn, 1) := by decide +kernel
theorem dX4_windWord_36 : decode cX4_windWord 36 = .ok (.aload_n 0, 1) := by decide +kernel
theorem dX4_windWord_37 : decode cX4_windWord 37 = .ok (.ldc 148, 2) := by decide +kernel
theorem dX4_windWord_39 : decode cX4_windWord 39 = .ok (.invokevirtual 87, 3) := by decide +kernel
theorem dX4_windWord_42 : decode cX4_windWord 42 = .ok (.ifCond .eq 7, 3) := by decide +kernel
theorem dX4_windWord_45 : decode cX4_windWord 45 = .ok (.iconst 3, 1) := by decide +kernel
theorem dX4_windWord_46 : decode cX4_windWord 46 = .ok (.goto 4, 3) := by decide +kernel
theorem dX4_windWord_49 : decode cX4_windWord 49 = .ok (.iconst (-1), 1) := by decide +kernel
theorem dX4_windWord_50 : decode cX4_windWord 50 = .ok (.ireturn, 1) := by decide +kernel
theorem dX4_keepsWord_0 : decode cX4_keepsWord 0 = .ok (.aload_n 0, 1) := by decide +kernel
theorem dX4_keepsWord_1 : decode cX4_keepsWord 1 = .ok (.ldc_w 268, 3) := by decide +kernel
theorem dX4_keepsWord_4 : decode cX4_keepsWord 4 = .ok (.invokevirtual 87, 3) := by decide +kernel
theorem dX4_keepsWord_7 : decode cX4_keepsWord 7 = .ok (.ifCond .eq 5, 3) := by decide +kernel
theorem dX4_keepsWord_10 : decode cX4_keepsWord 10 = .ok (.iconst 0, 1) := by decide +kernel
theorem dX4_keepsWord_11 : decode cX4_keepsWord 11 = .ok (.ireturn, 1) := by decide +kernel
theorem dX4_keepsWord_12 : decode cX4_keepsWord 12 = .ok (.aload_n 0, 1) := by decide +kernel
theorem dX4_keepsWord_13 : decode cX4_keepsWord 13 = .ok (.ldc_w 270, 3) := by decide +kernel
theorem dX4_keepsWord_16 : decode cX4_keepsWord 16 = .ok (.invokevirtual 87, 3) := by decide +kernel
theorem dX4_keepsWord_19 : decode cX4_keepsWord 19 = .ok (.ifCond .eq 5, 3) := by decide +kernel
theorem dX4_keepsWord_22 : decode cX4_keepsWord 22 = .ok (.iconst 1, 1) := by decide +kernel
theorem dX4_keepsWord_23 : decode cX4_keepsWord 23 = .ok (.ireturn, 1) := by decide +kernel
theorem dX4_keepsWord_24 : decode cX4_keepsWord 24 = .ok (.aload_n 0, 1) := by decide +kernel
theorem dX4_keepsWord_25 : decode cX4_keepsWord 25 = .ok (.ldc_w 272, 3) := by decide +kernel
theorem dX4_keepsWord_28 : decode cX4_keepsWord 28 = .ok (.invokevirtual 87, 3) := by decide +kernel
theorem dX4_keepsWord_31 : decode cX4_keepsWord 31 = .ok (.ifCond .eq 5, 3) := by decide +kernel
theorem dX4_keepsWord_34 : decode cX4_keepsWord 34 = .ok (.iconst 2, 1) := by decide +kernel
theorem dX4_keepsWord_35 : decode cX4_keepsWord 35 = .ok (.ireturn, 1) := by decide +kernel
theorem dX4_keepsWord_36 : decode cX4_keepsWord 36 = .ok (.aload_n 0, 1) := by decide +kernel
theorem dX4_keepsWord_37 : decode cX4_keepsWord 37 = .ok (.ldc_w 274, 3) := by decide +kernel
theorem dX4_keepsWord_40 : decode cX4_keepsWord 40 = .ok (.invokevirtual 87, 3) := by decide +kernel
theorem dX4_keepsWord_43 : decode cX4_keepsWord 43 = .ok (.ifCond .eq 5, 3) := by decide +kernel
theorem dX4_keepsWord_46 : decode cX4_keepsWord 46 = .ok (.iconst 3, 1) := by decide +kernel
theorem dX4_keepsWord_47 : decode cX4_keepsWord 47 = .ok (.ireturn, 1) := by decide +kernel
theorem dX4_keepsWord_48 : decode cX4_keepsWord 48 = .ok (.aload_n 0, 1) := by decide +kernel
theorem dX4_keepsWord_49 : decode cX4_keepsWord 49 = .ok (.ldc_w 276, 3) := by decide +kernel
theorem dX4_keepsWord_52 : decode cX4_keepsWord 52 = .ok (.invokevirtual 87, 3) := by decide +kernel
theorem dX4_keepsWord_55 : decode cX4_keepsWord 55 = .ok (.ifCond .eq 5, 3) := by decide +kernel
theorem dX4_keepsWord_58 : decode cX4_keepsWord 58 = .ok (.iconst 4, 1) := by decide +kernel
theorem dX4_keepsWord_59 : decode cX4_keepsWord 59 = .ok (.ireturn, 1) := by decide +kernel
theorem dX4_keepsWord_60 : decode cX4_keepsWord 60 = .ok (.aload_n 0, 1) := by decide +kernel
theorem dX4_keepsWord_61 : decode cX4_keepsWord 61 = .ok (.ldc_w 278, 3) := by decide +kernel
theorem dX4_keepsWord_64 : decode cX4_keepsWord 64 = .ok (.invokevirtual 87, 3) := by decide +kernel
theorem dX4_keepsWord_67 : decode cX4_keepsWord 67 = .ok (.ifCond .eq 5, 3) := by decide +kernel
theorem dX4_keepsWord_70 : decode cX4_keepsWord 70 = .ok (.iconst 5, 1) := by decide +kernel
theorem dX4_keepsWord_71 : decode cX4_keepsWord 71 = .ok (.ireturn, 1) := by decide +kernel
theorem dX4_keepsWord_72 : decode cX4_keepsWord 72 = .ok (.aload_n 0, 1) := by decide +kernel
theorem dX4_keepsWord_73 : decode cX4_keepsWord 73 = .ok (.ldc_w 266, 3) := by decide +kernel
theorem dX4_keepsWord_76 : decode cX4_keepsWord 76 = .ok (.invokevirtual 87, 3) := by decide +kernel
theorem dX4_keepsWord_79 : decode cX4_keepsWord 79 = .ok (.ifCond .eq 8, 3) := by decide +kernel
theorem dX4_keepsWord_82 : decode cX4_keepsWord 82 = .ok (.bipush 6, 2) := by decide +kernel
theorem dX4_keepsWord_84 : decode cX4_keepsWord 84 = .ok (.goto 4, 3) := by decide +kernel
theorem dX4_keepsWord_87 : decode cX4_keepsWord 87 = .ok (.iconst (-1), 1) := by decide +kernel
theorem dX4_keepsWord_88 : decode cX4_keepsWord 88 = .ok (.ireturn, 1) := by decide +kernel
theorem dX5_init_0 : decode cX5_init 0 = .ok (.aload_n 0, 1) := by decide +kernel
theorem dX5_init_1 : decode cX5_init 1 = .ok (.invokespecial 3, 3) := by decide +kernel
theorem dX5_init_4 : decode cX5_init 4 = .ok (.aload_n 0, 1) := by decide +kernel
theorem dX5_init_5 : decode cX5_init 5 = .ok (.bipush 6, 2) := by decide +kernel
theorem dX5_init_7 : decode cX5_init 7 = .ok (.newarray .int, 2) := by decide +kernel
theorem dX5_init_9 : decode cX5_init 9 = .ok (.putfield 9, 3) := by decide +kernel
theorem dX5_init_12 : decode cX5_init 12 = .ok (.aload_n 0, 1) := by decide +kernel
theorem dX5_init_13 : decode cX5_init 13 = .ok (.bipush 6, 2) := by decide +kernel
theorem dX5_init_15 : decode cX5_init 15 = .ok (.newarray .int, 2) := by decide +kernel
theorem dX5_init_17 : decode cX5_init 17 = .ok (.putfield 15, 3) := by decide +kernel
theorem dX5_init_20 : decode cX5_init 20 = .ok (.return_, 1) := by decide +kernel
theorem dX5_start_0 : decode cX5_start 0 = .ok (.aload_n 0, 1) := by decide +kernel
theorem dX5_start_1 : decode cX5_start 1 = .ok (.iload_n 1, 1) := by decide +kernel
theorem dX5_start_2 : decode cX5_start 2 = .ok (.putfield 18, 3) := by decide +kernel
theorem dX5_start_5 : decode cX5_start 5 = .ok (.aload_n 0, 1) := by decide +kernel
theorem dX5_start_6 : decode cX5_start 6 = .ok (.iload_n 2, 1) := by decide +kernel
theorem dX5_start_7 : decode cX5_start 7 = .ok (.putfield 22, 3) := by decide +kernel
theorem dX5_start_10 : decode cX5_start 10 = .ok (.aload_n 0, 1) := by decide +kernel
theorem dX5_start_11 : decode cX5_start 11 = .ok (.iconst 0, 1) := by decide +kernel
theorem dX5_start_12 : decode cX5_start 12 = .ok (.putfield 25, 3) := by decide +kernel
theorem dX5_start_15 : decode cX5_start 15 = .ok (.aload_n 0, 1) := by decide +kernel
theorem dX5_start_16 : decode cX5_start 16 = .ok (.iconst 0, 1) := by decide +kernel
theorem dX5_start_17 : decode cX5_start 17 = .ok (.putfield 28, 3) := by decide +kernel
theorem dX5_start_20 : decode cX5_start 20 = .ok (.return_, 1) := by decide +kernel
theorem dX5_seek_0 : decode cX5_seek 0 = .ok (.iload_n 3, 1) := by decide +kernel
theorem dX5_seek_1 : decode cX5_seek 1 = .ok (.bipush 6, 2) := by decide +kernel
theorem dX5_seek_3 : decode cX5_seek 3 = .ok (.if_icmp .lt 4, 3) := by decide +kernel
theorem dX5_seek_6 : decode cX5_seek 6 = .ok (.return_, 1) := by decide +kernel
theorem dX5_seek_7 : decode cX5_seek 7 = .ok (.aload_n 0, 1) := by decide +kernel
theorem dX5_seek_8 : decode cX5_seek 8 = .ok (.getfield 9, 3) := by decide +kernel
theorem dX5_seek_11 : decode cX5_seek 11 = .ok (.iload_n 3, 1) := by decide +kernel
theorem dX5_seek_12 : decode cX5_seek 12 = .ok (.iload_n 2, 1) := by decide +kernel
theorem dX5_seek_13 : decode cX5_seek 13 = .ok (.iastore, 1) := by decide +kernel
theorem dX5_seek_14 : decode cX5_seek 14 = .ok (.iconst 0, 1) := by decide +kernel
theorem dX5_seek_15 : decode cX5_seek 15 = .ok (.istore 6, 2) := by decide +kernel
theorem dX5_seek_17 : decode cX5_seek 17 = .ok (.iload 6, 2) := by decide +kernel
theorem dX5_seek_19 : decode cX5_seek 19 = .ok (.aload_n 1, 1) := by decide +kernel
theorem dX5_seek_20 : decode cX5_seek 20 = .ok (.getfield 31, 3) := by decide +kernel
theorem dX5_seek_23 : decode cX5_seek 23 = .ok (.getfield 37, 3) := by decide +kernel
theorem dX5_seek_26 : decode cX5_seek 26 = .ok (.if_icmp .ge 111, 3) := by decide +kernel
theorem dX5_seek_29 : decode cX5_seek 29 = .ok (.iload 5, 2) := by decide +kernel
theorem dX5_seek_31 : decode cX5_seek 31 = .ok (.iload 6, 2) := by decide +kernel
theorem dX5_seek_33 : decode cX5_seek 33 = .ok (.ishr, 1) := by decide +kernel
theorem dX5_seek_34 : decode cX5_seek 34 = .ok (.iconst 1, 1) := by decide +kernel
theorem dX5_seek_35 : decode cX5_seek 35 = .ok (.iand, 1) := by decide +kernel
theorem dX5_seek_36 : decode cX5_seek 36 = .ok (.ifCond .eq 7, 3) := by decide +kernel
theorem dX5_seek_39 : decode cX5_seek 39 = .ok (.iconst (-1), 1) := by decide +kernel
theorem dX5_seek_40 : decode cX5_seek 40 = .ok (.goto 17, 3) := by decide +kernel
theorem dX5_seek_43 : decode cX5_seek 43 = .ok (.aload_n 1, 1) := by decide +kernel
theorem dX5_seek_44 : decode cX5_seek 44 = .ok (.iload_n 2, 1) := by decide +kernel
theorem dX5_seek_45 : decode cX5_seek 45 = .ok (.iload 6, 2) := by decide +kernel
theorem dX5_seek_47 : decode cX5_seek 47 = .ok (.aload_n 0, 1) := by decide +kernel
theorem dX5_seek_48 : decode cX5_seek 48 = .ok (.getfield 22, 3) := by decide +kernel
theorem dX5_seek_51 : decode cX5_seek 51 = .ok (.iload 4, 2) := by decide +kernel
theorem dX5_seek_53 : decode cX5_seek 53 = .ok (.iadd, 1) := by decide +kernel
theorem dX5_seek_54 : decode cX5_seek 54 = .ok (.invokevirtual 42, 3) := by decide +kernel
theorem dX5_seek_57 : decode cX5_seek 57 = .ok (.istore 7, 2) := by decide +kernel
theorem dX5_seek_59 : decode cX5_seek 59 = .ok (.iload 7, 2) := by decide +kernel
theorem dX5_seek_61 : decode cX5_seek 61 = .ok (.iconst (-1), 1) := by decide +kernel
theorem dX5_seek_62 : decode cX5_seek 62 = .ok (.if_icmp .eq 69, 3) := by decide +kernel
theorem dX5_seek_65 : decode cX5_seek 65 = .ok (.iload 4, 2) := by decide +kernel
theorem dX5_seek_67 : decode cX5_seek 67 = .ok (.iload 7, 2) := by decide +kernel
theorem dX5_seek_69 : decode cX5_seek 69 = .ok (.invokestatic 46, 3) := by decide +kernel
theorem dX5_seek_72 : decode cX5_seek 72 = .ok (.iadd, 1) := by decide +kernel
theorem dX5_seek_73 : decode cX5_seek 73 = .ok (.istore 8, 2) := by decide +kernel
theorem dX5_seek_75 : decode cX5_seek 75 = .ok (.iload 6, 2) := by decide +kernel
theorem dX5_seek_77 : decode cX5_seek 77 = .ok (.aload_n 0, 1) := by decide +kernel
theorem dX5_seek_78 : decode cX5_seek 78 = .ok (.getfield 18, 3) := by decide +kernel
theorem dX5_seek_81 : decode cX5_seek 81 = .ok (.if_icmp .ne 15, 3) := by decide +kernel
theorem dX5_seek_84 : decode cX5_seek 84 = .ok (.aload_n 0, 1) := by decide +kernel
theorem dX5_seek_85 : decode cX5_seek 85 = .ok (.iload_n 3, 1) := by decide +kernel
theorem dX5_seek_86 : decode cX5_seek 86 = .ok (.iconst 1, 1) := by decide +kernel
theorem dX5_seek_87 : decode cX5_seek 87 = .ok (.iadd, 1) := by decide +kernel
theorem dX5_seek_88 : decode cX5_seek 88 = .ok (.iload 8, 2) := by decide +kernel
theorem dX5_seek_90 : decode cX5_seek 90 = .ok (.invokevirtual 50, 3) := by decide +kernel
theorem dX5_seek_93 : decode cX5_seek 93 = .ok (.goto 38, 3) := by decide +kernel
theorem dX5_seek_96 : decode cX5_seek 96 = .ok (.aload_n 0, 1) := by decide +kernel
theorem dX5_seek_97 : decode cX5_seek 97 = .ok (.getfield 28, 3) := by decide +kernel
theorem dX5_seek_100 : decode cX5_seek 100 = .ok (.ifCond .eq 12, 3) := by decide +kernel
theorem dX5_seek_103 : decode cX5_seek 103 = .ok (.iload 8, 2) := by decide +kernel
theorem dX5_seek_105 : decode cX5_seek 105 = .ok (.aload_n 0, 1) := by decide +kernel
theorem dX5_seek_106 : decode cX5_seek 106 = .ok (.getfield 25, 3) := by decide +kernel
theorem dX5_seek_109 : decode cX5_seek 109 = .ok (.if_icmp .ge 22, 3) := by decide +kernel
theorem dX5_seek_112 : decode cX5_seek 112 = .ok (.aload_n 0, 1) := by decide +kernel
theorem dX5_seek_113 : decode cX5_seek 113 = .ok (.aload_n 1, 1) := by decide +kernel
theorem dX5_seek_114 : decode cX5_seek 114 = .ok (.iload 6, 2) := by decide +kernel
theorem dX5_seek_116 : decode cX5_seek 116 = .ok (.iload_n 3, 1) := by decide +kernel
theorem dX5_seek_117 : decode cX5_seek 117 = .ok (.iconst 1, 1) := by decide +kernel
theorem dX5_seek_118 : decode cX5_seek 118 = .ok (.iadd, 1) := by decide +kernel
theorem dX5_seek_119 : decode cX5_seek 119 = .ok (.iload 8, 2) := by decide +kernel
theorem dX5_seek_121 : decode cX5_seek 121 = .ok (.iload 5, 2) := by decide +kernel
theorem dX5_seek_123 : decode cX5_seek 123 = .ok (.iconst 1, 1) := by decide +kernel
theorem dX5_seek_124 : decode cX5_seek 124 = .ok (.iload 6, 2) := by decide +kernel
theorem dX5_seek_126 : decode cX5_seek 126 = .ok (.ishl, 1) := by decide +kernel
theorem dX5_seek_127 : decode cX5_seek 127 = .ok (.ior, 1) := by decide +kernel
theorem dX5_seek_128 : decode cX5_seek 128 = .ok (.invokevirtual 54, 3) := by decide +kernel
theorem dX5_seek_131 : decode cX5_seek 131 = .ok (.iinc 6 1, 3) := by decide +kernel
theorem dX5_seek_134 : decode cX5_seek 134 = .ok (.goto (-117), 3) := by decide +kernel
theorem dX5_seek_137 : decode cX5_seek 137 = .ok (.return_, 1) := by decide +kernel
theorem dX5_weigh_0 : decode cX5_weigh 0 = .ok (.aload_n 0, 1) := by decide +kernel
theorem dX5_weigh_1 : decode cX5_weigh 1 = .ok (.getfield 28, 3) := by decide +kernel
theorem dX5_weigh_4 : decode cX5_weigh 4 = .ok (.ifCond .eq 27, 3) := by decide +kernel
theorem dX5_weigh_7 : decode cX5_weigh 7 = .ok (.iload_n 2, 1) := by decide +kernel
theorem dX5_weigh_8 : decode cX5_weigh 8 = .ok (.aload_n 0, 1) := by decide +kernel
theorem dX5_weigh_9 : decode cX5_weigh 9 = .ok (.getfield 25, 3) := by decide +kernel
theorem dX5_weigh_12 : decode cX5_weigh 12 = .ok (.if_icmp .lt 19, 3) := by decide +kernel
theorem dX5_weigh_15 : decode cX5_weigh 15 = .ok (.iload_n 2, 1) := by decide +kernel
theorem dX5_weigh_16 : decode cX5_weigh 16 = .ok (.aload_n 0, 1) := by decide +kernel
theorem dX5_weigh_17 : decode cX5_weigh 17 = .ok (.getfield 25, 3) := by decide +kernel
theorem dX5_weigh_20 : decode cX5_weigh 20 = .ok (.if_icmp .ne 36, 3) := by decide +kernel
theorem dX5_weigh_23 : decode cX5_weigh 23 = .ok (.iload_n 1, 1) := by decide +kernel
theorem dX5_weigh_24 : decode cX5_weigh 24 = .ok (.aload_n 0, 1) := by decide +kernel
theorem dX5_weigh_25 : decode cX5_weigh 25 = .ok (.getfield 28, 3) := by decide +kernel
theorem dX5_weigh_28 : decode cX5_weigh 28 = .ok (.if_icmp .ge 28, 3) := by decide +kernel
theorem dX5_weigh_31 : decode cX5_weigh 31 = .ok (.aload_n 0, 1) := by decide +kernel
theorem dX5_weigh_32 : decode cX5_weigh 32 = .ok (.iload_n 2, 1) := by decide +kernel
theorem dX5_weigh_33 : decode cX5_weigh 33 = .ok (.putfield 25, 3) := by decide +kernel
theorem dX5_weigh_36 : decode cX5_weigh 36 = .ok (.aload_n 0, 1) := by decide +kernel
theorem dX5_weigh_37 : decode cX5_weigh 37 = .ok (.iload_n 1, 1) := by decide +kernel
theorem dX5_weigh_38 : decode cX5_weigh 38 = .ok (.putfield 28, 3) := by decide +kernel
theorem dX5_weigh_41 : decode cX5_weigh 41 = .ok (.aload_n 0, 1) := by decide +kernel
theorem dX5_weigh_42 : decode cX5_weigh 42 = .ok (.getfield 9, 3) := by decide +kernel
theorem dX5_weigh_45 : decode cX5_weigh 45 = .ok (.iconst 0, 1) := by decide +kernel
theorem dX5_weigh_46 : decode cX5_weigh 46 = .ok (.aload_n 0, 1) := by decide +kernel
theorem dX5_weigh_47 : decode cX5_weigh 47 = .ok (.getfield 15, 3) := by decide +kernel
theorem dX5_weigh_50 : decode cX5_weigh 50 = .ok (.iconst 0, 1) := by decide +kernel
theorem dX5_weigh_51 : decode cX5_weigh 51 = .ok (.bipush 6, 2) := by decide +kernel
theorem dX5_weigh_53 : decode cX5_weigh 53 = .ok (.invokestatic 58, 3) := by decide +kernel
theorem dX5_weigh_56 : decode cX5_weigh 56 = .ok (.return_, 1) := by decide +kernel
theorem dX5_stop_0 : decode cX5_stop 0 = .ok (.iload_n 1, 1) := by decide +kernel
theorem dX5_stop_1 : decode cX5_stop 1 = .ok (.ifCond .lt 17, 3) := by decide +kernel
theorem dX5_stop_4 : decode cX5_stop 4 = .ok (.iload_n 1, 1) := by decide +kernel
theorem dX5_stop_5 : decode cX5_stop 5 = .ok (.aload_n 0, 1) := by decide +kernel
theorem dX5_stop_6 : decode cX5_stop 6 = .ok (.getfield 28, 3) := by decide +kernel
theorem dX5_stop_9 : decode cX5_stop 9 = .ok (.if_icmp .gt 9, 3) := by decide +kernel
theorem dX5_stop_12 : decode cX5_stop 12 = .ok (.iload_n 1, 1) := by decide +kernel
theorem dX5_stop_13 : decode cX5_stop 13 = .ok (.bipush 6, 2) := by decide +kernel
theorem dX5_stop_15 : decode cX5_stop 15 = .ok (.if_icmp .lt 5, 3) := by decide +kernel
theorem dX5_stop_18 : decode cX5_stop 18 = .ok (.iconst (-1), 1) := by decide +kernel
theorem dX5_stop_19 : decode cX5_stop 19 = .ok (.ireturn, 1) := by decide +kernel
theorem dX5_stop_20 : decode cX5_stop 20 = .ok (.iload_n 1, 1) := by decide +kernel
theorem dX5_stop_21 : decode cX5_stop 21 = .ok (.aload_n 0, 1) := by decide +kernel
theorem dX5_stop_22 : decode cX5_stop 22 = .ok (.getfield 28, 3) := by decide +kernel
theorem dX5_stop_25 : decode cX5_stop 25 = .ok (.if_icmp .ne 10, 3) := by decide +kernel
theorem dX5_stop_28 : decode cX5_stop 28 = .ok (.aload_n 0, 1) := by decide +kernel
theorem dX5_stop_29 : decode cX5_stop 29 = .ok (.getfield 18, 3) := by decide +kernel
theorem dX5_stop_32 : decode cX5_stop 32 = .ok (.goto 9, 3) := by decide +kernel
theorem dX5_stop_35 : decode cX5_stop 35 = .ok (.aload_n 0, 1) := by decide +kernel
theorem dX5_stop_36 : decode cX5_stop 36 = .ok (.getfield 15, 3) := by decide +kernel
theorem dX5_stop_39 : decode cX5_stop 39 = .ok (.iload_n 1, 1) := by decide +kernel
theorem dX5_stop_40 : decode cX5_stop 40 = .ok (.iaload, 1) := by decide +kernel
theorem dX5_stop_41 : decode cX5_stop 41 = .ok (.ireturn, 1) := by decide +kernel
theorem dX6_init_0 : decode cX6_init 0 = .ok (.aload_n 0, 1) := by decide +kernel
theorem dX6_init_1 : decode cX6_init 1 = .ok (.invokespecial 3, 3) := by decide +kernel
theorem dX6_init_4 : decode cX6_init 4 = .ok (.aload_n 0, 1) := by decide +kernel
theorem dX6_init_5 : decode cX6_init 5 = .ok (.bipush 40, 2) := by decide +kernel
theorem dX6_init_7 : decode cX6_init 7 = .ok (.newarray .long, 2) := by decide +kernel
theorem dX6_init_9 : decode cX6_init 9 = .ok (.putfield 9, 3) := by decide +kernel
theorem dX6_init_12 : decode cX6_init 12 = .ok (.aload_n 0, 1) := by decide +kernel
theorem dX6_init_13 : decode cX6_init 13 = .ok (.iconst (-1), 1) := by decide +kernel
theorem dX6_init_14 : decode cX6_init 14 = .ok (.putfield 15, 3) := by decide +kernel
theorem dX6_init_17 : decode cX6_init 17 = .ok (.return_, 1) := by decide +kernel
theorem dX6_missing_0 : decode cX6_missing 0 = .ok (.aload_n 0, 1) := by decide +kernel
theorem dX6_missing_1 : decode cX6_missing 1 = .ok (.getfield 15, 3) := by decide +kernel
theorem dX6_missing_4 : decode cX6_missing 4 = .ok (.iconst (-1), 1) := by decide +kernel
theorem dX6_missing_5 : decode cX6_missing 5 = .ok (.if_icmp .ne 7, 3) := by decide +kernel
theorem dX6_missing_8 : decode cX6_missing 8 = .ok (.iconst 1, 1) := by decide +kernel
theorem dX6_missing_9 : decode cX6_missing 9 = .ok (.goto 4, 3) := by decide +kernel
theorem dX6_missing_12 : decode cX6_missing 12 = .ok (.iconst 0, 1) := by decide +kernel
theorem dX6_missing_13 : decode cX6_missing 13 = .ok (.ireturn, 1) := by decide +kernel
theorem dX6_become_0 : decode cX6_become 0 = .ok (.aload_n 0, 1) := by decide +kernel
theorem dX6_become_1 : decode cX6_become 1 = .ok (.iload_n 1, 1) := by decide +kernel
theorem dX6_become_2 : decode cX6_become 2 = .ok (.putfield 15, 3) := by decide +kernel
theorem dX6_become_5 : decode cX6_become 5 = .ok (.aload_n 0, 1) := by decide +kernel
theorem dX6_become_6 : decode cX6_become 6 = .ok (.iload_n 2, 1) := by decide +kernel
theorem dX6_become_7 : decode cX6_become 7 = .ok (.putfield 19, 3) := by decide +kernel
theorem dX6_become_10 : decode cX6_become 10 = .ok (.aload_n 0, 1) := by decide +kernel
theorem dX6_become_11 : decode cX6_become 11 = .ok (.getfield 9, 3) := by decide +kernel
theorem dX6_become_14 : decode cX6_become 14 = .ok (.lconst 0, 1) := by decide +kernel
theorem dX6_become_15 : decode cX6_become 15 = .ok (.invokestatic 22, 3) := by decide +kernel
theorem dX6_become_18 : decode cX6_become 18 = .ok (.return_, 1) := by decide +kernel
theorem dX6_numberAt_0 : decode cX6_numberAt 0 = .ok (.iload_n 1, 1) := by decide +kernel
theorem dX6_numberAt_1 : decode cX6_numberAt 1 = .ok (.ifCond .lt 21, 3) := by decide +kernel
theorem dX6_numberAt_4 : decode cX6_numberAt 4 = .ok (.iload_n 1, 1) := by decide +kernel
theorem dX6_numberAt_5 : decode cX6_numberAt 5 = .ok (.aload_n 0, 1) := by decide +kernel
theorem dX6_numberAt_6 : decode cX6_numberAt 6 = .ok (.getfield 9, 3) := by decide +kernel
theorem dX6_numberAt_9 : decode cX6_numberAt 9 = .ok (.arraylength, 1) := by decide +kernel
theorem dX6_numberAt_10 : decode cX6_numberAt 10 = .ok (.if_icmp .ge 12, 3) := by decide +kernel
theorem dX6_numberAt_13 : decode cX6_numberAt 13 = .ok (.aload_n 0, 1) := by decide +kernel
theorem dX6_numberAt_14 : decode cX6_numberAt 14 = .ok (.getfield 9, 3) := by decide +kernel
theorem dX6_numberAt_17 : decode cX6_numberAt 17 = .ok (.iload_n 1, 1) := by decide +kernel
theorem dX6_numberAt_18 : decode cX6_numberAt 18 = .ok (.laload, 1) := by decide +kernel
theorem dX6_numberAt_19 : decode cX6_numberAt 19 = .ok (.goto 4, 3) := by decide +kernel
theorem dX6_numberAt_22 : decode cX6_numberAt 22 = .ok (.lconst 0, 1) := by decide +kernel
theorem dX6_numberAt_23 : decode cX6_numberAt 23 = .ok (.lreturn, 1) := by decide +kernel
theorem dX6_put_0 : decode cX6_put 0 = .ok (.iload_n 1, 1) := by decide +kernel
theorem dX6_put_1 : decode cX6_put 1 = .ok (.ifCond .lt 23, 3) := by decide +kernel
theorem dX6_put_4 : decode cX6_put 4 = .ok (.iload_n 1, 1) := by decide +kernel
theorem dX6_put_5 : decode cX6_put 5 = .ok (.aload_n 0, 1) := by decide +kernel
theorem dX6_put_6 : decode cX6_put 6 = .ok (.getfield 9, 3) := by decide +kernel
theorem dX6_put_9 : decode cX6_put 9 = .ok (.arraylength, 1) := by decide +kernel
theorem dX6_put_10 : decode cX6_put 10 = .ok (.if_icmp .ge 14, 3) := by decide +kernel
theorem dX6_put_13 : decode cX6_put 13 = .ok (.aload_n 0, 1) := by decide +kernel
theorem dX6_put_14 : decode cX6_put 14 = .ok (.getfield 9, 3) := by decide +kernel
theorem dX6_put_17 : decode cX6_put 17 = .ok (.iload_n 1, 1) := by decide +kernel
theorem dX6_put_18 : decode cX6_put 18 = .ok (.aload_n 0, 1) := by decide +kernel
theorem dX6_put_19 : decode cX6_put 19 = .ok (.lload_n 2, 1) := by decide +kernel
theorem dX6_put_20 : decode cX6_put 20 = .ok (.invokevirtual 28, 3) := by decide +kernel
theorem dX6_put_23 : decode cX6_put 23 = .ok (.lastore, 1) := by decide +kernel
theorem dX6_put_24 : decode cX6_put 24 = .ok (.return_, 1) := by decide +kernel
theorem dX6_cut_0 : decode cX6_cut 0 = .ok (.aload_n 0, 1) := by decide +kernel
theorem dX6_cut_1 : decode cX6_cut 1 = .ok (.getfield 15, 3) := by decide +kernel
theorem dX6_cut_4 : decode cX6_cut 4 = .ok (.tableswitch 42 0 2 #[28, 33, 38], 28) := by decide +kernel
theorem dX6_cut_32 : decode cX6_cut 32 = .ok (.lload_n 1, 1) := by decide +kernel
theorem dX6_cut_33 : decode cX6_cut 33 = .ok (.l2i, 1) := by decide +kernel
theorem dX6_cut_34 : decode cX6_cut 34 = .ok (.i2b, 1) := by decide +kernel
theorem dX6_cut_35 : decode cX6_cut 35 = .ok (.i2l, 1) := by decide +kernel
theorem dX6_cut_36 : decode cX6_cut 36 = .ok (.lreturn, 1) := by decide +kernel
theorem dX6_cut_37 : decode cX6_cut 37 = .ok (.lload_n 1, 1) := by decide +kernel
theorem dX6_cut_38 : decode cX6_cut 38 = .ok (.l2i, 1) := by decide +kernel
theorem dX6_cut_39 : decode cX6_cut 39 = .ok (.i2s, 1) := by decide +kernel
theorem dX6_cut_40 : decode cX6_cut 40 = .ok (.i2l, 1) := by decide +kernel
theorem dX6_cut_41 : decode cX6_cut 41 = .ok (.lreturn, 1) := by decide +kernel
theorem dX6_cut_42 : decode cX6_cut 42 = .ok (.lload_n 1, 1) := by decide +kernel
theorem dX6_cut_43 : decode cX6_cut 43 = .ok (.l2i, 1) := by decide +kernel
theorem dX6_cut_44 : decode cX6_cut 44 = .ok (.i2l, 1) := by decide +kernel
theorem dX6_cut_45 : decode cX6_cut 45 = .ok (.lreturn, 1) := by decide +kernel
theorem dX6_cut_46 : decode cX6_cut 46 = .ok (.lload_n 1, 1) := by decide +kernel
theorem dX6_cut_47 : decode cX6_cut 47 = .ok (.lreturn, 1) := by decide +kernel
theorem dX7_init_0 : decode cX7_init 0 = .ok (.aload_n 0, 1) := by decide +kernel
theorem dX7_init_1 : decode cX7_init 1 = .ok (.invokespecial 3, 3) := by decide +kernel
theorem dX7_init_4 : decode cX7_init 4 = .ok (.aload_n 0, 1) := by decide +kernel
theorem dX7_init_5 : decode cX7_init 5 = .ok (.bipush 8, 2) := by decide +kernel
theorem dX7_init_7 : decode cX7_init 7 = .ok (.anewarray 9, 3) := by decide +kernel
theorem dX7_init_10 : decode cX7_init 10 = .ok (.putfield 11, 3) := by decide +kernel
theorem dX7_init_13 : decode cX7_init 13 = .ok (.iconst 0, 1) := by decide +kernel
theorem dX7_init_14 : decode cX7_init 14 = .ok (.istore_n 1, 1) := by decide +kernel
theorem dX7_init_15 : decode cX7_init 15 = .ok (.iload_n 1, 1) := by decide +kernel
theorem dX7_init_16 : decode cX7_init 16 = .ok (.bipush 8, 2) := by decide +kernel
theorem dX7_init_18 : decode cX7_init 18 = .ok (.if_icmp .ge 22, 3) := by decide +kernel
theorem dX7_init_21 : decode cX7_init 21 = .ok (.aload_n 0, 1) := by decide +kernel
theorem dX7_init_22 : decode cX7_init 22 = .ok (.getfield 11, 3) := by decide +kernel
theorem dX7_init_25 : decode cX7_init 25 = .ok (.iload_n 1, 1) := by decide +kernel
theorem dX7_init_26 : decode cX7_init 26 = .ok (.new 9, 3) := by decide +kernel
theorem dX7_init_29 : decode cX7_init 29 = .ok (.dup, 1) := by decide +kernel
theorem dX7_init_30 : decode cX7_init 30 = .ok (.invokespecial 17, 3) := by decide +kernel
theorem dX7_init_33 : decode cX7_init 33 = .ok (.aastore, 1) := by decide +kernel
theorem dX7_init_34 : decode cX7_init 34 = .ok (.iinc 1 1, 3) := by decide +kernel
theorem dX7_init_37 : decode cX7_init 37 = .ok (.goto (-22), 3) := by decide +kernel
theorem dX7_init_40 : decode cX7_init 40 = .ok (.return_, 1) := by decide +kernel
theorem dX7_clear_0 : decode cX7_clear 0 = .ok (.aload_n 0, 1) := by decide +kernel
theorem dX7_clear_1 : decode cX7_clear 1 = .ok (.iconst 0, 1) := by decide +kernel
theorem dX7_clear_2 : decode cX7_clear 2 = .ok (.putfield 18, 3) := by decide +kernel
