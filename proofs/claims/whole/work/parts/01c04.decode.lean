theorem dX10_next_132 : decode cX10_next 132 = .ok (.invokevirtual 86, 3) := by decide +kernel
theorem dX10_next_135 : decode cX10_next 135 = .ok (.invokestatic 100, 3) := by decide +kernel
theorem dX10_next_138 : decode cX10_next 138 = .ok (.ifCond .eq 98, 3) := by decide +kernel
theorem dX10_next_141 : decode cX10_next 141 = .ok (.aload_n 0, 1) := by decide +kernel
theorem dX10_next_142 : decode cX10_next 142 = .ok (.iconst 0, 1) := by decide +kernel
theorem dX10_next_143 : decode cX10_next 143 = .ok (.putfield 103, 3) := by decide +kernel
theorem dX10_next_146 : decode cX10_next 146 = .ok (.aload_n 0, 1) := by decide +kernel
theorem dX10_next_147 : decode cX10_next 147 = .ok (.aload_n 0, 1) := by decide +kernel
theorem dX10_next_148 : decode cX10_next 148 = .ok (.getfield 83, 3) := by decide +kernel
theorem dX10_next_151 : decode cX10_next 151 = .ok (.invokevirtual 86, 3) := by decide +kernel
theorem dX10_next_154 : decode cX10_next 154 = .ok (.invokestatic 100, 3) := by decide +kernel
theorem dX10_next_157 : decode cX10_next 157 = .ok (.ifCond .eq 52, 3) := by decide +kernel
theorem dX10_next_160 : decode cX10_next 160 = .ok (.aload_n 0, 1) := by decide +kernel
theorem dX10_next_161 : decode cX10_next 161 = .ok (.getfield 83, 3) := by decide +kernel
theorem dX10_next_164 : decode cX10_next 164 = .ok (.aload_n 0, 1) := by decide +kernel
theorem dX10_next_165 : decode cX10_next 165 = .ok (.getfield 80, 3) := by decide +kernel
theorem dX10_next_168 : decode cX10_next 168 = .ok (.isub, 1) := by decide +kernel
theorem dX10_next_169 : decode cX10_next 169 = .ok (.iconst 3, 1) := by decide +kernel
theorem dX10_next_170 : decode cX10_next 170 = .ok (.if_icmp .ge 26, 3) := by decide +kernel
theorem dX10_next_173 : decode cX10_next 173 = .ok (.aload_n 0, 1) := by decide +kernel
theorem dX10_next_174 : decode cX10_next 174 = .ok (.bipush 10, 2) := by decide +kernel
theorem dX10_next_176 : decode cX10_next 176 = .ok (.aload_n 0, 1) := by decide +kernel
theorem dX10_next_177 : decode cX10_next 177 = .ok (.getfield 103, 3) := by decide +kernel
theorem dX10_next_180 : decode cX10_next 180 = .ok (.imul, 1) := by decide +kernel
theorem dX10_next_181 : decode cX10_next 181 = .ok (.aload_n 0, 1) := by decide +kernel
theorem dX10_next_182 : decode cX10_next 182 = .ok (.aload_n 0, 1) := by decide +kernel
theorem dX10_next_183 : decode cX10_next 183 = .ok (.getfield 83, 3) := by decide +kernel
theorem dX10_next_186 : decode cX10_next 186 = .ok (.invokevirtual 86, 3) := by decide +kernel
theorem dX10_next_189 : decode cX10_next 189 = .ok (.iadd, 1) := by decide +kernel
theorem dX10_next_190 : decode cX10_next 190 = .ok (.bipush 48, 2) := by decide +kernel
theorem dX10_next_192 : decode cX10_next 192 = .ok (.isub, 1) := by decide +kernel
theorem dX10_next_193 : decode cX10_next 193 = .ok (.putfield 103, 3) := by decide +kernel
theorem dX10_next_196 : decode cX10_next 196 = .ok (.aload_n 0, 1) := by decide +kernel
theorem dX10_next_197 : decode cX10_next 197 = .ok (.dup, 1) := by decide +kernel
theorem dX10_next_198 : decode cX10_next 198 = .ok (.getfield 83, 3) := by decide +kernel
theorem dX10_next_201 : decode cX10_next 201 = .ok (.iconst 1, 1) := by decide +kernel
theorem dX10_next_202 : decode cX10_next 202 = .ok (.iadd, 1) := by decide +kernel
theorem dX10_next_203 : decode cX10_next 203 = .ok (.putfield 83, 3) := by decide +kernel
theorem dX10_next_206 : decode cX10_next 206 = .ok (.goto (-60), 3) := by decide +kernel
theorem dX10_next_209 : decode cX10_next 209 = .ok (.aload_n 0, 1) := by decide +kernel
theorem dX10_next_210 : decode cX10_next 210 = .ok (.aload_n 0, 1) := by decide +kernel
theorem dX10_next_211 : decode cX10_next 211 = .ok (.getfield 83, 3) := by decide +kernel
theorem dX10_next_214 : decode cX10_next 214 = .ok (.aload_n 0, 1) := by decide +kernel
theorem dX10_next_215 : decode cX10_next 215 = .ok (.getfield 80, 3) := by decide +kernel
theorem dX10_next_218 : decode cX10_next 218 = .ok (.isub, 1) := by decide +kernel
theorem dX10_next_219 : decode cX10_next 219 = .ok (.iconst 3, 1) := by decide +kernel
theorem dX10_next_220 : decode cX10_next 220 = .ok (.if_icmp .le 8, 3) := by decide +kernel
theorem dX10_next_223 : decode cX10_next 223 = .ok (.bipush 33, 2) := by decide +kernel
theorem dX10_next_225 : decode cX10_next 225 = .ok (.goto 5, 3) := by decide +kernel
theorem dX10_next_228 : decode cX10_next 228 = .ok (.bipush 31, 2) := by decide +kernel
theorem dX10_next_230 : decode cX10_next 230 = .ok (.putfield 90, 3) := by decide +kernel
theorem dX10_next_233 : decode cX10_next 233 = .ok (.goto 61, 3) := by decide +kernel
theorem dX10_next_236 : decode cX10_next 236 = .ok (.aload_n 0, 1) := by decide +kernel
theorem dX10_next_237 : decode cX10_next 237 = .ok (.dup, 1) := by decide +kernel
theorem dX10_next_238 : decode cX10_next 238 = .ok (.getfield 83, 3) := by decide +kernel
theorem dX10_next_241 : decode cX10_next 241 = .ok (.iconst 1, 1) := by decide +kernel
theorem dX10_next_242 : decode cX10_next 242 = .ok (.iadd, 1) := by decide +kernel
theorem dX10_next_243 : decode cX10_next 243 = .ok (.putfield 83, 3) := by decide +kernel
theorem dX10_next_246 : decode cX10_next 246 = .ok (.aload_n 0, 1) := by decide +kernel
theorem dX10_next_247 : decode cX10_next 247 = .ok (.bipush 33, 2) := by decide +kernel
theorem dX10_next_249 : decode cX10_next 249 = .ok (.putfield 90, 3) := by decide +kernel
theorem dX10_next_252 : decode cX10_next 252 = .ok (.iconst 0, 1) := by decide +kernel
theorem dX10_next_253 : decode cX10_next 253 = .ok (.istore_n 1, 1) := by decide +kernel
theorem dX10_next_254 : decode cX10_next 254 = .ok (.iload_n 1, 1) := by decide +kernel
theorem dX10_next_255 : decode cX10_next 255 = .ok (.ldc 106, 2) := by decide +kernel
theorem dX10_next_257 : decode cX10_next 257 = .ok (.invokevirtual 70, 3) := by decide +kernel
theorem dX10_next_260 : decode cX10_next 260 = .ok (.if_icmp .ge 34, 3) := by decide +kernel
theorem dX10_next_263 : decode cX10_next 263 = .ok (.aload_n 0, 1) := by decide +kernel
theorem dX10_next_264 : decode cX10_next 264 = .ok (.aload_n 0, 1) := by decide +kernel
theorem dX10_next_265 : decode cX10_next 265 = .ok (.getfield 80, 3) := by decide +kernel
theorem dX10_next_268 : decode cX10_next 268 = .ok (.invokevirtual 86, 3) := by decide +kernel
theorem dX10_next_271 : decode cX10_next 271 = .ok (.ldc 106, 2) := by decide +kernel
theorem dX10_next_273 : decode cX10_next 273 = .ok (.iload_n 1, 1) := by decide +kernel
theorem dX10_next_274 : decode cX10_next 274 = .ok (.invokevirtual 76, 3) := by decide +kernel
theorem dX10_next_277 : decode cX10_next 277 = .ok (.if_icmp .ne 11, 3) := by decide +kernel
theorem dX10_next_280 : decode cX10_next 280 = .ok (.aload_n 0, 1) := by decide +kernel
theorem dX10_next_281 : decode cX10_next 281 = .ok (.bipush 40, 2) := by decide +kernel
theorem dX10_next_283 : decode cX10_next 283 = .ok (.iload_n 1, 1) := by decide +kernel
theorem dX10_next_284 : decode cX10_next 284 = .ok (.iadd, 1) := by decide +kernel
theorem dX10_next_285 : decode cX10_next 285 = .ok (.putfield 90, 3) := by decide +kernel
theorem dX10_next_288 : decode cX10_next 288 = .ok (.iinc 1 1, 3) := by decide +kernel
theorem dX10_next_291 : decode cX10_next 291 = .ok (.goto (-37), 3) := by decide +kernel
theorem dX10_next_294 : decode cX10_next 294 = .ok (.return_, 1) := by decide +kernel
theorem dX10_fails_0 : decode cX10_fails 0 = .ok (.aload_n 0, 1) := by decide +kernel
theorem dX10_fails_1 : decode cX10_fails 1 = .ok (.getfield 108, 3) := by decide +kernel
theorem dX10_fails_4 : decode cX10_fails 4 = .ok (.ifCond .eq 4, 3) := by decide +kernel
theorem dX10_fails_7 : decode cX10_fails 7 = .ok (.return_, 1) := by decide +kernel
theorem dX10_fails_8 : decode cX10_fails 8 = .ok (.aload_n 0, 1) := by decide +kernel
theorem dX10_fails_9 : decode cX10_fails 9 = .ok (.aload_n 0, 1) := by decide +kernel
theorem dX10_fails_10 : decode cX10_fails 10 = .ok (.getfield 90, 3) := by decide +kernel
theorem dX10_fails_13 : decode cX10_fails 13 = .ok (.bipush 33, 2) := by decide +kernel
theorem dX10_fails_15 : decode cX10_fails 15 = .ok (.if_icmp .ne 7, 3) := by decide +kernel
theorem dX10_fails_18 : decode cX10_fails 18 = .ok (.iconst 1, 1) := by decide +kernel
theorem dX10_fails_19 : decode cX10_fails 19 = .ok (.goto 4, 3) := by decide +kernel
theorem dX10_fails_22 : decode cX10_fails 22 = .ok (.iload_n 1, 1) := by decide +kernel
theorem dX10_fails_23 : decode cX10_fails 23 = .ok (.putfield 108, 3) := by decide +kernel
theorem dX10_fails_26 : decode cX10_fails 26 = .ok (.aload_n 0, 1) := by decide +kernel
theorem dX10_fails_27 : decode cX10_fails 27 = .ok (.aload_n 0, 1) := by decide +kernel
theorem dX10_fails_28 : decode cX10_fails 28 = .ok (.getfield 80, 3) := by decide +kernel
theorem dX10_fails_31 : decode cX10_fails 31 = .ok (.putfield 111, 3) := by decide +kernel
theorem dX10_fails_34 : decode cX10_fails 34 = .ok (.return_, 1) := by decide +kernel
theorem dX10_is_0 : decode cX10_is 0 = .ok (.aload_n 0, 1) := by decide +kernel
theorem dX10_is_1 : decode cX10_is 1 = .ok (.getfield 108, 3) := by decide +kernel
theorem dX10_is_4 : decode cX10_is 4 = .ok (.ifCond .ne 15, 3) := by decide +kernel
theorem dX10_is_7 : decode cX10_is 7 = .ok (.aload_n 0, 1) := by decide +kernel
theorem dX10_is_8 : decode cX10_is 8 = .ok (.getfield 90, 3) := by decide +kernel
theorem dX10_is_11 : decode cX10_is 11 = .ok (.iload_n 1, 1) := by decide +kernel
theorem dX10_is_12 : decode cX10_is 12 = .ok (.if_icmp .ne 7, 3) := by decide +kernel
theorem dX10_is_15 : decode cX10_is 15 = .ok (.iconst 1, 1) := by decide +kernel
theorem dX10_is_16 : decode cX10_is 16 = .ok (.goto 4, 3) := by decide +kernel
theorem dX10_is_19 : decode cX10_is 19 = .ok (.iconst 0, 1) := by decide +kernel
theorem dX10_is_20 : decode cX10_is 20 = .ok (.ireturn, 1) := by decide +kernel
theorem dX10_eats_0 : decode cX10_eats 0 = .ok (.aload_n 0, 1) := by decide +kernel
theorem dX10_eats_1 : decode cX10_eats 1 = .ok (.iload_n 1, 1) := by decide +kernel
theorem dX10_eats_2 : decode cX10_eats 2 = .ok (.invokevirtual 114, 3) := by decide +kernel
theorem dX10_eats_5 : decode cX10_eats 5 = .ok (.ifCond .ne 5, 3) := by decide +kernel
theorem dX10_eats_8 : decode cX10_eats 8 = .ok (.iconst 0, 1) := by decide +kernel
theorem dX10_eats_9 : decode cX10_eats 9 = .ok (.ireturn, 1) := by decide +kernel
theorem dX10_eats_10 : decode cX10_eats 10 = .ok (.aload_n 0, 1) := by decide +kernel
theorem dX10_eats_11 : decode cX10_eats 11 = .ok (.invokevirtual 117, 3) := by decide +kernel
theorem dX10_eats_14 : decode cX10_eats 14 = .ok (.iconst 1, 1) := by decide +kernel
theorem dX10_eats_15 : decode cX10_eats 15 = .ok (.ireturn, 1) := by decide +kernel
theorem dX10_takes_0 : decode cX10_takes 0 = .ok (.aload_n 0, 1) := by decide +kernel
theorem dX10_takes_1 : decode cX10_takes 1 = .ok (.bipush 31, 2) := by decide +kernel
theorem dX10_takes_3 : decode cX10_takes 3 = .ok (.invokevirtual 114, 3) := by decide +kernel
theorem dX10_takes_6 : decode cX10_takes 6 = .ok (.ifCond .ne 11, 3) := by decide +kernel
theorem dX10_takes_9 : decode cX10_takes 9 = .ok (.aload_n 0, 1) := by decide +kernel
theorem dX10_takes_10 : decode cX10_takes 10 = .ok (.iconst 2, 1) := by decide +kernel
theorem dX10_takes_11 : decode cX10_takes 11 = .ok (.invokevirtual 120, 3) := by decide +kernel
theorem dX10_takes_14 : decode cX10_takes 14 = .ok (.goto 23, 3) := by decide +kernel
theorem dX10_takes_17 : decode cX10_takes 17 = .ok (.aload_n 0, 1) := by decide +kernel
theorem dX10_takes_18 : decode cX10_takes 18 = .ok (.getfield 103, 3) := by decide +kernel
theorem dX10_takes_21 : decode cX10_takes 21 = .ok (.i2l, 1) := by decide +kernel
theorem dX10_takes_22 : decode cX10_takes 22 = .ok (.iload_n 1, 1) := by decide +kernel
theorem dX10_takes_23 : decode cX10_takes 23 = .ok (.i2l, 1) := by decide +kernel
theorem dX10_takes_24 : decode cX10_takes 24 = .ok (.iload_n 2, 1) := by decide +kernel
theorem dX10_takes_25 : decode cX10_takes 25 = .ok (.i2l, 1) := by decide +kernel
theorem dX10_takes_26 : decode cX10_takes 26 = .ok (.invokestatic 124, 3) := by decide +kernel
theorem dX10_takes_29 : decode cX10_takes 29 = .ok (.ifCond .ne 8, 3) := by decide +kernel
theorem dX10_takes_32 : decode cX10_takes 32 = .ok (.aload_n 0, 1) := by decide +kernel
theorem dX10_takes_33 : decode cX10_takes 33 = .ok (.iconst 3, 1) := by decide +kernel
theorem dX10_takes_34 : decode cX10_takes 34 = .ok (.invokevirtual 120, 3) := by decide +kernel
theorem dX10_takes_37 : decode cX10_takes 37 = .ok (.aload_n 0, 1) := by decide +kernel
theorem dX10_takes_38 : decode cX10_takes 38 = .ok (.getfield 103, 3) := by decide +kernel
theorem dX10_takes_41 : decode cX10_takes 41 = .ok (.istore_n 3, 1) := by decide +kernel
theorem dX10_takes_42 : decode cX10_takes 42 = .ok (.aload_n 0, 1) := by decide +kernel
theorem dX10_takes_43 : decode cX10_takes 43 = .ok (.getfield 108, 3) := by decide +kernel
theorem dX10_takes_46 : decode cX10_takes 46 = .ok (.ifCond .ne 7, 3) := by decide +kernel
theorem dX10_takes_49 : decode cX10_takes 49 = .ok (.aload_n 0, 1) := by decide +kernel
theorem dX10_takes_50 : decode cX10_takes 50 = .ok (.invokevirtual 117, 3) := by decide +kernel
theorem dX10_takes_53 : decode cX10_takes 53 = .ok (.iload_n 3, 1) := by decide +kernel
theorem dX10_takes_54 : decode cX10_takes 54 = .ok (.ireturn, 1) := by decide +kernel
theorem dX10_isIn_0 : decode cX10_isIn 0 = .ok (.lload_n 0, 1) := by decide +kernel
theorem dX10_isIn_1 : decode cX10_isIn 1 = .ok (.iload_n 2, 1) := by decide +kernel
theorem dX10_isIn_2 : decode cX10_isIn 2 = .ok (.lshr, 1) := by decide +kernel
theorem dX10_isIn_3 : decode cX10_isIn 3 = .ok (.lconst 1, 1) := by decide +kernel
theorem dX10_isIn_4 : decode cX10_isIn 4 = .ok (.land, 1) := by decide +kernel
theorem dX10_isIn_5 : decode cX10_isIn 5 = .ok (.lconst 1, 1) := by decide +kernel
theorem dX10_isIn_6 : decode cX10_isIn 6 = .ok (.lcmp, 1) := by decide +kernel
theorem dX10_isIn_7 : decode cX10_isIn 7 = .ok (.ifCond .ne 7, 3) := by decide +kernel
theorem dX10_isIn_10 : decode cX10_isIn 10 = .ok (.iconst 1, 1) := by decide +kernel
theorem dX10_isIn_11 : decode cX10_isIn 11 = .ok (.goto 4, 3) := by decide +kernel
theorem dX10_isIn_14 : decode cX10_isIn 14 = .ok (.iconst 0, 1) := by decide +kernel
theorem dX10_isIn_15 : decode cX10_isIn 15 = .ok (.ireturn, 1) := by decide +kernel
theorem dX10_wordOf_0 : decode cX10_wordOf 0 = .ok (.aload_n 0, 1) := by decide +kernel
theorem dX10_wordOf_1 : decode cX10_wordOf 1 = .ok (.getfield 128, 3) := by decide +kernel
theorem dX10_wordOf_4 : decode cX10_wordOf 4 = .ok (.ifCond .ne 45, 3) := by decide +kernel
theorem dX10_wordOf_7 : decode cX10_wordOf 7 = .ok (.iload_n 1, 1) := by decide +kernel
theorem dX10_wordOf_8 : decode cX10_wordOf 8 = .ok (.bipush 19, 2) := by decide +kernel
theorem dX10_wordOf_10 : decode cX10_wordOf 10 = .ok (.if_icmp .ne 7, 3) := by decide +kernel
theorem dX10_wordOf_13 : decode cX10_wordOf 13 = .ok (.iconst 0, 1) := by decide +kernel
theorem dX10_wordOf_14 : decode cX10_wordOf 14 = .ok (.goto 34, 3) := by decide +kernel
theorem dX10_wordOf_17 : decode cX10_wordOf 17 = .ok (.iload_n 1, 1) := by decide +kernel
theorem dX10_wordOf_18 : decode cX10_wordOf 18 = .ok (.bipush 20, 2) := by decide +kernel
theorem dX10_wordOf_20 : decode cX10_wordOf 20 = .ok (.if_icmp .ne 7, 3) := by decide +kernel
theorem dX10_wordOf_23 : decode cX10_wordOf 23 = .ok (.iconst 1, 1) := by decide +kernel
theorem dX10_wordOf_24 : decode cX10_wordOf 24 = .ok (.goto 24, 3) := by decide +kernel
theorem dX10_wordOf_27 : decode cX10_wordOf 27 = .ok (.iload_n 1, 1) := by decide +kernel
theorem dX10_wordOf_28 : decode cX10_wordOf 28 = .ok (.bipush 21, 2) := by decide +kernel
theorem dX10_wordOf_30 : decode cX10_wordOf 30 = .ok (.if_icmp .ne 7, 3) := by decide +kernel
theorem dX10_wordOf_33 : decode cX10_wordOf 33 = .ok (.iconst 2, 1) := by decide +kernel
theorem dX10_wordOf_34 : decode cX10_wordOf 34 = .ok (.goto 14, 3) := by decide +kernel
theorem dX10_wordOf_37 : decode cX10_wordOf 37 = .ok (.iload_n 1, 1) := by decide +kernel
theorem dX10_wordOf_38 : decode cX10_wordOf 38 = .ok (.bipush 9, 2) := by decide +kernel
theorem dX10_wordOf_40 : decode cX10_wordOf 40 = .ok (.if_icmp .ne 7, 3) := by decide +kernel
theorem dX10_wordOf_43 : decode cX10_wordOf 43 = .ok (.iconst 3, 1) := by decide +kernel
theorem dX10_wordOf_44 : decode cX10_wordOf 44 = .ok (.goto 4, 3) := by decide +kernel
theorem dX10_wordOf_47 : decode cX10_wordOf 47 = .ok (.iconst (-1), 1) := by decide +kernel
theorem dX10_wordOf_48 : decode cX10_wordOf 48 = .ok (.ireturn, 1) := by decide +kernel
theorem dX10_wordOf_49 : decode cX10_wordOf 49 = .ok (.iload_n 1, 1) := by decide +kernel
theorem dX10_wordOf_50 : decode cX10_wordOf 50 = .ok (.bipush 21, 2) := by decide +kernel
theorem dX10_wordOf_52 : decode cX10_wordOf 52 = .ok (.if_icmp .ne 8, 3) := by decide +kernel
theorem dX10_wordOf_55 : decode cX10_wordOf 55 = .ok (.bipush 6, 2) := by decide +kernel
theorem dX10_wordOf_57 : decode cX10_wordOf 57 = .ok (.goto 25, 3) := by decide +kernel
theorem dX10_wordOf_60 : decode cX10_wordOf 60 = .ok (.iload_n 1, 1) := by decide +kernel
theorem dX10_wordOf_61 : decode cX10_wordOf 61 = .ok (.i2l, 1) := by decide +kernel
theorem dX10_wordOf_62 : decode cX10_wordOf 62 = .ok (.ldc2_w 131, 3) := by decide +kernel
theorem dX10_wordOf_65 : decode cX10_wordOf 65 = .ok (.ldc2_w 133, 3) := by decide +kernel
theorem dX10_wordOf_68 : decode cX10_wordOf 68 = .ok (.invokestatic 124, 3) := by decide +kernel
theorem dX10_wordOf_71 : decode cX10_wordOf 71 = .ok (.ifCond .eq 10, 3) := by decide +kernel
theorem dX10_wordOf_74 : decode cX10_wordOf 74 = .ok (.iload_n 1, 1) := by decide +kernel
theorem dX10_wordOf_75 : decode cX10_wordOf 75 = .ok (.bipush 22, 2) := by decide +kernel
theorem dX10_wordOf_77 : decode cX10_wordOf 77 = .ok (.isub, 1) := by decide +kernel
theorem dX10_wordOf_78 : decode cX10_wordOf 78 = .ok (.goto 4, 3) := by decide +kernel
theorem dX10_wordOf_81 : decode cX10_wordOf 81 = .ok (.iconst (-1), 1) := by decide +kernel
theorem dX10_wordOf_82 : decode cX10_wordOf 82 = .ok (.ireturn, 1) := by decide +kernel
theorem dX10_codes_0 : decode cX10_codes 0 = .ok (.aload_n 0, 1) := by decide +kernel
theorem dX10_codes_1 : decode cX10_codes 1 = .ok (.getfield 108, 3) := by decide +kernel
theorem dX10_codes_4 : decode cX10_codes 4 = .ok (.ifCond .eq 4, 3) := by decide +kernel
theorem dX10_codes_7 : decode cX10_codes 7 = .ok (.return_, 1) := by decide +kernel
theorem dX10_codes_8 : decode cX10_codes 8 = .ok (.aload_n 0, 1) := by decide +kernel
theorem dX10_codes_9 : decode cX10_codes 9 = .ok (.getfield 24, 3) := by decide +kernel
theorem dX10_codes_12 : decode cX10_codes 12 = .ok (.sipush 1012, 3) := by decide +kernel
theorem dX10_codes_15 : decode cX10_codes 15 = .ok (.aload_n 0, 1) := by decide +kernel
theorem dX10_codes_16 : decode cX10_codes 16 = .ok (.getfield 24, 3) := by decide +kernel
theorem dX10_codes_19 : decode cX10_codes 19 = .ok (.sipush 1011, 3) := by decide +kernel
theorem dX10_codes_22 : decode cX10_codes 22 = .ok (.iaload, 1) := by decide +kernel
theorem dX10_codes_23 : decode cX10_codes 23 = .ok (.iadd, 1) := by decide +kernel
theorem dX10_codes_24 : decode cX10_codes 24 = .ok (.iload_n 1, 1) := by decide +kernel
theorem dX10_codes_25 : decode cX10_codes 25 = .ok (.iastore, 1) := by decide +kernel
theorem dX10_codes_26 : decode cX10_codes 26 = .ok (.aload_n 0, 1) := by decide +kernel
theorem dX10_codes_27 : decode cX10_codes 27 = .ok (.getfield 24, 3) := by decide +kernel
theorem dX10_codes_30 : decode cX10_codes 30 = .ok (.sipush 1011, 3) := by decide +kernel
theorem dX10_codes_33 : decode cX10_codes 33 = .ok (.dup2, 1) := by decide +kernel
theorem dX10_codes_34 : decode cX10_codes 34 = .ok (.iaload, 1) := by decide +kernel
theorem dX10_codes_35 : decode cX10_codes 35 = .ok (.iconst 1, 1) := by decide +kernel
theorem dX10_codes_36 : decode cX10_codes 36 = .ok (.iadd, 1) := by decide +kernel
theorem dX10_codes_37 : decode cX10_codes 37 = .ok (.iastore, 1) := by decide +kernel
theorem dX10_codes_38 : decode cX10_codes 38 = .ok (.return_, 1) := by decide +kernel
theorem dX10_goesIn_0 : decode cX10_goesIn 0 = .ok (.iload_n 1, 1) := by decide +kernel
theorem dX10_goesIn_1 : decode cX10_goesIn 1 = .ok (.bipush 6, 2) := by decide +kernel
theorem dX10_goesIn_3 : decode cX10_goesIn 3 = .ok (.if_icmp .ne 8, 3) := by decide +kernel
theorem dX10_goesIn_6 : decode cX10_goesIn 6 = .ok (.aload_n 0, 1) := by decide +kernel
theorem dX10_goesIn_7 : decode cX10_goesIn 7 = .ok (.iconst 4, 1) := by decide +kernel
theorem dX10_goesIn_8 : decode cX10_goesIn 8 = .ok (.invokevirtual 120, 3) := by decide +kernel
theorem dX10_goesIn_11 : decode cX10_goesIn 11 = .ok (.aload_n 0, 1) := by decide +kernel
theorem dX10_goesIn_12 : decode cX10_goesIn 12 = .ok (.getfield 108, 3) := by decide +kernel
theorem dX10_goesIn_15 : decode cX10_goesIn 15 = .ok (.ifCond .ne 7, 3) := by decide +kernel
theorem dX10_goesIn_18 : decode cX10_goesIn 18 = .ok (.aload_n 0, 1) := by decide +kernel
theorem dX10_goesIn_19 : decode cX10_goesIn 19 = .ok (.invokevirtual 117, 3) := by decide +kernel
theorem dX10_goesIn_22 : decode cX10_goesIn 22 = .ok (.aload_n 0, 1) := by decide +kernel
theorem dX10_goesIn_23 : decode cX10_goesIn 23 = .ok (.getfield 108, 3) := by decide +kernel
theorem dX10_goesIn_26 : decode cX10_goesIn 26 = .ok (.ifCond .ne 7, 3) := by decide +kernel
theorem dX10_goesIn_29 : decode cX10_goesIn 29 = .ok (.iconst 1, 1) := by decide +kernel
theorem dX10_goesIn_30 : decode cX10_goesIn 30 = .ok (.goto 4, 3) := by decide +kernel
theorem dX10_goesIn_33 : decode cX10_goesIn 33 = .ok (.iconst 0, 1) := by decide +kernel
theorem dX10_goesIn_34 : decode cX10_goesIn 34 = .ok (.ireturn, 1) := by decide +kernel
theorem dX10_readAtom_0 : decode cX10_readAtom 0 = .ok (.aload_n 0, 1) := by decide +kernel
theorem dX10_readAtom_1 : decode cX10_readAtom 1 = .ok (.bipush 31, 2) := by decide +kernel
theorem dX10_readAtom_3 : decode cX10_readAtom 3 = .ok (.invokevirtual 114, 3) := by decide +kernel
theorem dX10_readAtom_6 : decode cX10_readAtom 6 = .ok (.ifCond .eq 18, 3) := by decide +kernel
theorem dX10_readAtom_9 : decode cX10_readAtom 9 = .ok (.aload_n 0, 1) := by decide +kernel
theorem dX10_readAtom_10 : decode cX10_readAtom 10 = .ok (.aload_n 0, 1) := by decide +kernel
theorem dX10_readAtom_11 : decode cX10_readAtom 11 = .ok (.getfield 103, 3) := by decide +kernel
theorem dX10_readAtom_14 : decode cX10_readAtom 14 = .ok (.invokevirtual 135, 3) := by decide +kernel
theorem dX10_readAtom_17 : decode cX10_readAtom 17 = .ok (.aload_n 0, 1) := by decide +kernel
theorem dX10_readAtom_18 : decode cX10_readAtom 18 = .ok (.invokevirtual 117, 3) := by decide +kernel
theorem dX10_readAtom_21 : decode cX10_readAtom 21 = .ok (.goto 92, 3) := by decide +kernel
theorem dX10_readAtom_24 : decode cX10_readAtom 24 = .ok (.aload_n 0, 1) := by decide +kernel
theorem dX10_readAtom_25 : decode cX10_readAtom 25 = .ok (.getfield 108, 3) := by decide +kernel
theorem dX10_readAtom_28 : decode cX10_readAtom 28 = .ok (.ifCond .ne 38, 3) := by decide +kernel
theorem dX10_readAtom_31 : decode cX10_readAtom 31 = .ok (.aload_n 0, 1) := by decide +kernel
theorem dX10_readAtom_32 : decode cX10_readAtom 32 = .ok (.aload_n 0, 1) := by decide +kernel
theorem dX10_readAtom_33 : decode cX10_readAtom 33 = .ok (.getfield 90, 3) := by decide +kernel
theorem dX10_readAtom_36 : decode cX10_readAtom 36 = .ok (.invokevirtual 138, 3) := by decide +kernel
theorem dX10_readAtom_39 : decode cX10_readAtom 39 = .ok (.iconst (-1), 1) := by decide +kernel
theorem dX10_readAtom_40 : decode cX10_readAtom 40 = .ok (.if_icmp .eq 26, 3) := by decide +kernel
theorem dX10_readAtom_43 : decode cX10_readAtom 43 = .ok (.aload_n 0, 1) := by decide +kernel
theorem dX10_readAtom_44 : decode cX10_readAtom 44 = .ok (.sipush 1000, 3) := by decide +kernel
theorem dX10_readAtom_47 : decode cX10_readAtom 47 = .ok (.aload_n 0, 1) := by decide +kernel
theorem dX10_readAtom_48 : decode cX10_readAtom 48 = .ok (.aload_n 0, 1) := by decide +kernel
theorem dX10_readAtom_49 : decode cX10_readAtom 49 = .ok (.getfield 90, 3) := by decide +kernel
theorem dX10_readAtom_52 : decode cX10_readAtom 52 = .ok (.invokevirtual 138, 3) := by decide +kernel
theorem dX10_readAtom_55 : decode cX10_readAtom 55 = .ok (.iadd, 1) := by decide +kernel
theorem dX10_readAtom_56 : decode cX10_readAtom 56 = .ok (.invokevirtual 135, 3) := by decide +kernel
theorem dX10_readAtom_59 : decode cX10_readAtom 59 = .ok (.aload_n 0, 1) := by decide +kernel
theorem dX10_readAtom_60 : decode cX10_readAtom 60 = .ok (.invokevirtual 117, 3) := by decide +kernel
theorem dX10_readAtom_63 : decode cX10_readAtom 63 = .ok (.goto 50, 3) := by decide +kernel
theorem dX10_readAtom_66 : decode cX10_readAtom 66 = .ok (.aload_n 0, 1) := by decide +kernel
theorem dX10_readAtom_67 : decode cX10_readAtom 67 = .ok (.bipush 45, 2) := by decide +kernel
theorem dX10_readAtom_69 : decode cX10_readAtom 69 = .ok (.invokevirtual 114, 3) := by decide +kernel
theorem dX10_readAtom_72 : decode cX10_readAtom 72 = .ok (.ifCond .eq 36, 3) := by decide +kernel
theorem dX10_readAtom_75 : decode cX10_readAtom 75 = .ok (.aload_n 0, 1) := by decide +kernel
theorem dX10_readAtom_76 : decode cX10_readAtom 76 = .ok (.iload_n 1, 1) := by decide +kernel
theorem dX10_readAtom_77 : decode cX10_readAtom 77 = .ok (.invokevirtual 141, 3) := by decide +kernel
theorem dX10_readAtom_80 : decode cX10_readAtom 80 = .ok (.ifCond .ne 4, 3) := by decide +kernel
theorem dX10_readAtom_83 : decode cX10_readAtom 83 = .ok (.return_, 1) := by decide +kernel
theorem dX10_readAtom_84 : decode cX10_readAtom 84 = .ok (.aload_n 0, 1) := by decide +kernel
theorem dX10_readAtom_85 : decode cX10_readAtom 85 = .ok (.iload_n 1, 1) := by decide +kernel
theorem dX10_readAtom_86 : decode cX10_readAtom 86 = .ok (.iconst 1, 1) := by decide +kernel
theorem dX10_readAtom_87 : decode cX10_readAtom 87 = .ok (.iadd, 1) := by decide +kernel
theorem dX10_readAtom_88 : decode cX10_readAtom 88 = .ok (.invokevirtual 144, 3) := by decide +kernel
theorem dX10_readAtom_91 : decode cX10_readAtom 91 = .ok (.aload_n 0, 1) := by decide +kernel
theorem dX10_readAtom_92 : decode cX10_readAtom 92 = .ok (.bipush 46, 2) := by decide +kernel
theorem dX10_readAtom_94 : decode cX10_readAtom 94 = .ok (.invokevirtual 147, 3) := by decide +kernel
theorem dX10_readAtom_97 : decode cX10_readAtom 97 = .ok (.ifCond .ne 16, 3) := by decide +kernel
theorem dX10_readAtom_100 : decode cX10_readAtom 100 = .ok (.aload_n 0, 1) := by decide +kernel
theorem dX10_readAtom_101 : decode cX10_readAtom 101 = .ok (.iconst 2, 1) := by decide +kernel
theorem dX10_readAtom_102 : decode cX10_readAtom 102 = .ok (.invokevirtual 120, 3) := by decide +kernel
theorem dX10_readAtom_105 : decode cX10_readAtom 105 = .ok (.goto 8, 3) := by decide +kernel
theorem dX10_readAtom_108 : decode cX10_readAtom 108 = .ok (.aload_n 0, 1) := by decide +kernel
theorem dX10_readAtom_109 : decode cX10_readAtom 109 = .ok (.iconst 2, 1) := by decide +kernel
theorem dX10_readAtom_110 : decode cX10_readAtom 110 = .ok (.invokevirtual 120, 3) := by decide +kernel
theorem dX10_readAtom_113 : decode cX10_readAtom 113 = .ok (.return_, 1) := by decide +kernel
theorem dX10_readTerm_0 : decode cX10_readTerm 0 = .ok (.aload_n 0, 1) := by decide +kernel
theorem dX10_readTerm_1 : decode cX10_readTerm 1 = .ok (.iload_n 1, 1) := by decide +kernel
theorem dX10_readTerm_2 : decode cX10_readTerm 2 = .ok (.invokevirtual 150, 3) := by decide +kernel
theorem dX10_readTerm_5 : decode cX10_readTerm 5 = .ok (.aload_n 0, 1) := by decide +kernel
theorem dX10_readTerm_6 : decode cX10_readTerm 6 = .ok (.bipush 44, 2) := by decide +kernel
theorem dX10_readTerm_8 : decode cX10_readTerm 8 = .ok (.invokevirtual 147, 3) := by decide +kernel
theorem dX10_readTerm_11 : decode cX10_readTerm 11 = .ok (.ifCond .eq 18, 3) := by decide +kernel
theorem dX10_readTerm_14 : decode cX10_readTerm 14 = .ok (.aload_n 0, 1) := by decide +kernel
theorem dX10_readTerm_15 : decode cX10_readTerm 15 = .ok (.iload_n 1, 1) := by decide +kernel
theorem dX10_readTerm_16 : decode cX10_readTerm 16 = .ok (.invokevirtual 150, 3) := by decide +kernel
theorem dX10_readTerm_19 : decode cX10_readTerm 19 = .ok (.aload_n 0, 1) := by decide +kernel
theorem dX10_readTerm_20 : decode cX10_readTerm 20 = .ok (.sipush 3002, 3) := by decide +kernel
theorem dX10_readTerm_23 : decode cX10_readTerm 23 = .ok (.invokevirtual 135, 3) := by decide +kernel
theorem dX10_readTerm_26 : decode cX10_readTerm 26 = .ok (.goto (-21), 3) := by decide +kernel
theorem dX10_readTerm_29 : decode cX10_readTerm 29 = .ok (.return_, 1) := by decide +kernel
theorem dX10_readSum_0 : decode cX10_readSum 0 = .ok (.aload_n 0, 1) := by decide +kernel
theorem dX10_readSum_1 : decode cX10_readSum 1 = .ok (.iload_n 1, 1) := by decide +kernel
theorem dX10_readSum_2 : decode cX10_readSum 2 = .ok (.invokevirtual 153, 3) := by decide +kernel
theorem dX10_readSum_5 : decode cX10_readSum 5 = .ok (.aload_n 0, 1) := by decide +kernel
theorem dX10_readSum_6 : decode cX10_readSum 6 = .ok (.bipush 42, 2) := by decide +kernel
theorem dX10_readSum_8 : decode cX10_readSum 8 = .ok (.invokevirtual 114, 3) := by decide +kernel
theorem dX10_readSum_11 : decode cX10_readSum 11 = .ok (.ifCond .ne 12, 3) := by decide +kernel
theorem dX10_readSum_14 : decode cX10_readSum 14 = .ok (.aload_n 0, 1) := by decide +kernel
theorem dX10_readSum_15 : decode cX10_readSum 15 = .ok (.bipush 43, 2) := by decide +kernel
theorem dX10_readSum_17 : decode cX10_readSum 17 = .ok (.invokevirtual 114, 3) := by decide +kernel
theorem dX10_readSum_20 : decode cX10_readSum 20 = .ok (.ifCond .eq 39, 3) := by decide +kernel
theorem dX10_readSum_23 : decode cX10_readSum 23 = .ok (.aload_n 0, 1) := by decide +kernel
theorem dX10_readSum_24 : decode cX10_readSum 24 = .ok (.getfield 90, 3) := by decide +kernel
theorem dX10_readSum_27 : decode cX10_readSum 27 = .ok (.bipush 42, 2) := by decide +kernel
theorem dX10_readSum_29 : decode cX10_readSum 29 = .ok (.if_icmp .ne 9, 3) := by decide +kernel
theorem dX10_readSum_32 : decode cX10_readSum 32 = .ok (.sipush 3000, 3) := by decide +kernel
theorem dX10_readSum_35 : decode cX10_readSum 35 = .ok (.goto 6, 3) := by decide +kernel
theorem dX10_readSum_38 : decode cX10_readSum 38 = .ok (.sipush 3001, 3) := by decide +kernel
theorem dX10_readSum_41 : decode cX10_readSum 41 = .ok (.istore_n 2, 1) := by decide +kernel
theorem dX10_readSum_42 : decode cX10_readSum 42 = .ok (.aload_n 0, 1) := by decide +kernel
theorem dX10_readSum_43 : decode cX10_readSum 43 = .ok (.invokevirtual 117, 3) := by decide +kernel
theorem dX10_readSum_46 : decode cX10_readSum 46 = .ok (.aload_n 0, 1) := by decide +kernel
theorem dX10_readSum_47 : decode cX10_readSum 47 = .ok (.iload_n 1, 1) := by decide +kernel
theorem dX10_readSum_48 : decode cX10_readSum 48 = .ok (.invokevirtual 153, 3) := by decide +kernel
theorem dX10_readSum_51 : decode cX10_readSum 51 = .ok (.aload_n 0, 1) := by decide +kernel
theorem dX10_readSum_52 : decode cX10_readSum 52 = .ok (.iload_n 2, 1) := by decide +kernel
theorem dX10_readSum_53 : decode cX10_readSum 53 = .ok (.invokevirtual 135, 3) := by decide +kernel
theorem dX10_readSum_56 : decode cX10_readSum 56 = .ok (.goto (-51), 3) := by decide +kernel
theorem dX10_readSum_59 : decode cX10_readSum 59 = .ok (.return_, 1) := by decide +kernel
theorem dX10_readUnit_0 : decode cX10_readUnit 0 = .ok (.aload_n 0, 1) := by decide +kernel
theorem dX10_readUnit_1 : decode cX10_readUnit 1 = .ok (.bipush 18, 2) := by decide +kernel
theorem dX10_readUnit_3 : decode cX10_readUnit 3 = .ok (.invokevirtual 114, 3) := by decide +kernel
theorem dX10_readUnit_6 : decode cX10_readUnit 6 = .ok (.ifCond .eq 27, 3) := by decide +kernel
theorem dX10_readUnit_9 : decode cX10_readUnit 9 = .ok (.aload_n 0, 1) := by decide +kernel
theorem dX10_readUnit_10 : decode cX10_readUnit 10 = .ok (.iload_n 1, 1) := by decide +kernel
theorem dX10_readUnit_11 : decode cX10_readUnit 11 = .ok (.invokevirtual 141, 3) := by decide +kernel
theorem dX10_readUnit_14 : decode cX10_readUnit 14 = .ok (.ifCond .ne 4, 3) := by decide +kernel
theorem dX10_readUnit_17 : decode cX10_readUnit 17 = .ok (.return_, 1) := by decide +kernel
theorem dX10_readUnit_18 : decode cX10_readUnit 18 = .ok (.aload_n 0, 1) := by decide +kernel
theorem dX10_readUnit_19 : decode cX10_readUnit 19 = .ok (.iload_n 1, 1) := by decide +kernel
theorem dX10_readUnit_20 : decode cX10_readUnit 20 = .ok (.iconst 1, 1) := by decide +kernel
theorem dX10_readUnit_21 : decode cX10_readUnit 21 = .ok (.iadd, 1) := by decide +kernel
theorem dX10_readUnit_22 : decode cX10_readUnit 22 = .ok (.invokevirtual 156, 3) := by decide +kernel
theorem dX10_readUnit_25 : decode cX10_readUnit 25 = .ok (.aload_n 0, 1) := by decide +kernel
theorem dX10_readUnit_26 : decode cX10_readUnit 26 = .ok (.sipush 3008, 3) := by decide +kernel
theorem dX10_readUnit_29 : decode cX10_readUnit 29 = .ok (.invokevirtual 135, 3) := by decide +kernel
theorem dX10_readUnit_32 : decode cX10_readUnit 32 = .ok (.return_, 1) := by decide +kernel
theorem dX10_readUnit_33 : decode cX10_readUnit 33 = .ok (.aload_n 0, 1) := by decide +kernel
theorem dX10_readUnit_34 : decode cX10_readUnit 34 = .ok (.bipush 47, 2) := by decide +kernel
theorem dX10_readUnit_36 : decode cX10_readUnit 36 = .ok (.invokevirtual 114, 3) := by decide +kernel
theorem dX10_readUnit_39 : decode cX10_readUnit 39 = .ok (.ifCond .eq 34, 3) := by decide +kernel
theorem dX10_readUnit_42 : decode cX10_readUnit 42 = .ok (.aload_n 0, 1) := by decide +kernel
theorem dX10_readUnit_43 : decode cX10_readUnit 43 = .ok (.iload_n 1, 1) := by decide +kernel
theorem dX10_readUnit_44 : decode cX10_readUnit 44 = .ok (.invokevirtual 141, 3) := by decide +kernel
theorem dX10_readUnit_47 : decode cX10_readUnit 47 = .ok (.ifCond .ne 4, 3) := by decide +kernel
theorem dX10_readUnit_50 : decode cX10_readUnit 50 = .ok (.return_, 1) := by decide +kernel
theorem dX10_readUnit_51 : decode cX10_readUnit 51 = .ok (.aload_n 0, 1) := by decide +kernel
theorem dX10_readUnit_52 : decode cX10_readUnit 52 = .ok (.iload_n 1, 1) := by decide +kernel
theorem dX10_readUnit_53 : decode cX10_readUnit 53 = .ok (.iconst 1, 1) := by decide +kernel
theorem dX10_readUnit_54 : decode cX10_readUnit 54 = .ok (.iadd, 1) := by decide +kernel
theorem dX10_readUnit_55 : decode cX10_readUnit 55 = .ok (.invokevirtual 159, 3) := by decide +kernel
theorem dX10_readUnit_58 : decode cX10_readUnit 58 = .ok (.aload_n 0, 1) := by decide +kernel
theorem dX10_readUnit_59 : decode cX10_readUnit 59 = .ok (.bipush 48, 2) := by decide +kernel
theorem dX10_readUnit_61 : decode cX10_readUnit 61 = .ok (.invokevirtual 147, 3) := by decide +kernel
theorem dX10_readUnit_64 : decode cX10_readUnit 64 = .ok (.ifCond .ne 8, 3) := by decide +kernel
theorem dX10_readUnit_67 : decode cX10_readUnit 67 = .ok (.aload_n 0, 1) := by decide +kernel
theorem dX10_readUnit_68 : decode cX10_readUnit 68 = .ok (.iconst 2, 1) := by decide +kernel
theorem dX10_readUnit_69 : decode cX10_readUnit 69 = .ok (.invokevirtual 120, 3) := by decide +kernel
theorem dX10_readUnit_72 : decode cX10_readUnit 72 = .ok (.return_, 1) := by decide +kernel
theorem dX10_readUnit_73 : decode cX10_readUnit 73 = .ok (.aload_n 0, 1) := by decide +kernel
theorem dX10_readUnit_74 : decode cX10_readUnit 74 = .ok (.iload_n 1, 1) := by decide +kernel
theorem dX10_readUnit_75 : decode cX10_readUnit 75 = .ok (.invokevirtual 144, 3) := by decide +kernel
theorem dX10_readUnit_78 : decode cX10_readUnit 78 = .ok (.aload_n 0, 1) := by decide +kernel
theorem dX10_readUnit_79 : decode cX10_readUnit 79 = .ok (.bipush 49, 2) := by decide +kernel
theorem dX10_readUnit_81 : decode cX10_readUnit 81 = .ok (.invokevirtual 114, 3) := by decide +kernel
theorem dX10_readUnit_84 : decode cX10_readUnit 84 = .ok (.ifCond .eq 9, 3) := by decide +kernel
theorem dX10_readUnit_87 : decode cX10_readUnit 87 = .ok (.sipush 3003, 3) := by decide +kernel
theorem dX10_readUnit_90 : decode cX10_readUnit 90 = .ok (.goto 21, 3) := by decide +kernel
theorem dX10_readUnit_93 : decode cX10_readUnit 93 = .ok (.aload_n 0, 1) := by decide +kernel
theorem dX10_readUnit_94 : decode cX10_readUnit 94 = .ok (.bipush 50, 2) := by decide +kernel
theorem dX10_readUnit_96 : decode cX10_readUnit 96 = .ok (.invokevirtual 114, 3) := by decide +kernel
theorem dX10_readUnit_99 : decode cX10_readUnit 99 = .ok (.ifCond .eq 9, 3) := by decide +kernel
theorem dX10_readUnit_102 : decode cX10_readUnit 102 = .ok (.sipush 3004, 3) := by decide +kernel
theorem dX10_readUnit_105 : decode cX10_readUnit 105 = .ok (.goto 6, 3) := by decide +kernel
theorem dX10_readUnit_108 : decode cX10_readUnit 108 = .ok (.sipush 3005, 3) := by decide +kernel
theorem dX10_readUnit_111 : decode cX10_readUnit 111 = .ok (.istore_n 2, 1) := by decide +kernel
theorem dX10_readUnit_112 : decode cX10_readUnit 112 = .ok (.aload_n 0, 1) := by decide +kernel
theorem dX10_readUnit_113 : decode cX10_readUnit 113 = .ok (.bipush 49, 2) := by decide +kernel
theorem dX10_readUnit_115 : decode cX10_readUnit 115 = .ok (.invokevirtual 114, 3) := by decide +kernel
theorem dX10_readUnit_118 : decode cX10_readUnit 118 = .ok (.ifCond .ne 21, 3) := by decide +kernel
theorem dX10_readUnit_121 : decode cX10_readUnit 121 = .ok (.aload_n 0, 1) := by decide +kernel
theorem dX10_readUnit_122 : decode cX10_readUnit 122 = .ok (.bipush 50, 2) := by decide +kernel
theorem dX10_readUnit_124 : decode cX10_readUnit 124 = .ok (.invokevirtual 114, 3) := by decide +kernel
theorem dX10_readUnit_127 : decode cX10_readUnit 127 = .ok (.ifCond .ne 12, 3) := by decide +kernel
theorem dX10_readUnit_130 : decode cX10_readUnit 130 = .ok (.aload_n 0, 1) := by decide +kernel
theorem dX10_readUnit_131 : decode cX10_readUnit 131 = .ok (.bipush 51, 2) := by decide +kernel
theorem dX10_readUnit_133 : decode cX10_readUnit 133 = .ok (.invokevirtual 114, 3) := by decide +kernel
theorem dX10_readUnit_136 : decode cX10_readUnit 136 = .ok (.ifCond .eq 10, 3) := by decide +kernel
theorem dX10_readUnit_139 : decode cX10_readUnit 139 = .ok (.aload_n 0, 1) := by decide +kernel
theorem dX10_readUnit_140 : decode cX10_readUnit 140 = .ok (.invokevirtual 117, 3) := by decide +kernel
theorem dX10_readUnit_143 : decode cX10_readUnit 143 = .ok (.goto 8, 3) := by decide +kernel
theorem dX10_readUnit_146 : decode cX10_readUnit 146 = .ok (.aload_n 0, 1) := by decide +kernel
theorem dX10_readUnit_147 : decode cX10_readUnit 147 = .ok (.iconst 2, 1) := by decide +kernel
theorem dX10_readUnit_148 : decode cX10_readUnit 148 = .ok (.invokevirtual 120, 3) := by decide +kernel
theorem dX10_readUnit_151 : decode cX10_readUnit 151 = .ok (.aload_n 0, 1) := by decide +kernel
theorem dX10_readUnit_152 : decode cX10_readUnit 152 = .ok (.iload_n 1, 1) := by decide +kernel
theorem dX10_readUnit_153 : decode cX10_readUnit 153 = .ok (.invokevirtual 144, 3) := by decide +kernel
theorem dX10_readUnit_156 : decode cX10_readUnit 156 = .ok (.aload_n 0, 1) := by decide +kernel
theorem dX10_readUnit_157 : decode cX10_readUnit 157 = .ok (.iload_n 2, 1) := by decide +kernel
theorem dX10_readUnit_158 : decode cX10_readUnit 158 = .ok (.invokevirtual 135, 3) := by decide +kernel
theorem dX10_readUnit_161 : decode cX10_readUnit 161 = .ok (.return_, 1) := by decide +kernel
theorem dX10_readBoth_0 : decode cX10_readBoth 0 = .ok (.aload_n 0, 1) := by decide +kernel
theorem dX10_readBoth_1 : decode cX10_readBoth 1 = .ok (.iload_n 1, 1) := by decide +kernel
theorem dX10_readBoth_2 : decode cX10_readBoth 2 = .ok (.invokevirtual 156, 3) := by decide +kernel
theorem dX10_readBoth_5 : decode cX10_readBoth 5 = .ok (.aload_n 0, 1) := by decide +kernel
theorem dX10_readBoth_6 : decode cX10_readBoth 6 = .ok (.bipush 17, 2) := by decide +kernel
theorem dX10_readBoth_8 : decode cX10_readBoth 8 = .ok (.invokevirtual 147, 3) := by decide +kernel
theorem dX10_readBoth_11 : decode cX10_readBoth 11 = .ok (.ifCond .eq 18, 3) := by decide +kernel
theorem dX10_readBoth_14 : decode cX10_readBoth 14 = .ok (.aload_n 0, 1) := by decide +kernel
theorem dX10_readBoth_15 : decode cX10_readBoth 15 = .ok (.iload_n 1, 1) := by decide +kernel
theorem dX10_readBoth_16 : decode cX10_readBoth 16 = .ok (.invokevirtual 156, 3) := by decide +kernel
theorem dX10_readBoth_19 : decode cX10_readBoth 19 = .ok (.aload_n 0, 1) := by decide +kernel
theorem dX10_readBoth_20 : decode cX10_readBoth 20 = .ok (.sipush 3006, 3) := by decide +kernel
theorem dX10_readBoth_23 : decode cX10_readBoth 23 = .ok (.invokevirtual 135, 3) := by decide +kernel
theorem dX10_readBoth_26 : decode cX10_readBoth 26 = .ok (.goto (-21), 3) := by decide +kernel
theorem dX10_readBoth_29 : decode cX10_readBoth 29 = .ok (.return_, 1) := by decide +kernel
theorem dX10_readTruth_0 : decode cX10_readTruth 0 = .ok (.aload_n 0, 1) := by decide +kernel
theorem dX10_readTruth_1 : decode cX10_readTruth 1 = .ok (.iload_n 1, 1) := by decide +kernel
theorem dX10_readTruth_2 : decode cX10_readTruth 2 = .ok (.invokevirtual 162, 3) := by decide +kernel
theorem dX10_readTruth_5 : decode cX10_readTruth 5 = .ok (.aload_n 0, 1) := by decide +kernel
theorem dX10_readTruth_6 : decode cX10_readTruth 6 = .ok (.bipush 16, 2) := by decide +kernel
theorem dX10_readTruth_8 : decode cX10_readTruth 8 = .ok (.invokevirtual 147, 3) := by decide +kernel
theorem dX10_readTruth_11 : decode cX10_readTruth 11 = .ok (.ifCond .eq 18, 3) := by decide +kernel
theorem dX10_readTruth_14 : decode cX10_readTruth 14 = .ok (.aload_n 0, 1) := by decide +kernel
theorem dX10_readTruth_15 : decode cX10_readTruth 15 = .ok (.iload_n 1, 1) := by decide +kernel
theorem dX10_readTruth_16 : decode cX10_readTruth 16 = .ok (.invokevirtual 162, 3) := by decide +kernel
theorem dX10_readTruth_19 : decode cX10_readTruth 19 = .ok (.aload_n 0, 1) := by decide +kernel
theorem dX10_readTruth_20 : decode cX10_readTruth 20 = .ok (.sipush 3007, 3) := by decide +kernel
theorem dX10_readTruth_23 : decode cX10_readTruth 23 = .ok (.invokevirtual 135, 3) := by decide +kernel
theorem dX10_readTruth_26 : decode cX10_readTruth 26 = .ok (.goto (-21), 3) := by decide +kernel
theorem dX10_readTruth_29 : decode cX10_readTruth 29 = .ok (.return_, 1) := by decide +kernel
theorem dX10_takesCell_0 : decode cX10_takesCell 0 = .ok (.aload_n 0, 1) := by decide +kernel
theorem dX10_takesCell_1 : decode cX10_takesCell 1 = .ok (.iconst 0, 1) := by decide +kernel
theorem dX10_takesCell_2 : decode cX10_takesCell 2 = .ok (.aload_n 0, 1) := by decide +kernel
theorem dX10_takesCell_3 : decode cX10_takesCell 3 = .ok (.getfield 24, 3) := by decide +kernel
theorem dX10_takesCell_6 : decode cX10_takesCell 6 = .ok (.iconst 1, 1) := by decide +kernel
theorem dX10_takesCell_7 : decode cX10_takesCell 7 = .ok (.iaload, 1) := by decide +kernel
theorem dX10_takesCell_8 : decode cX10_takesCell 8 = .ok (.iconst 1, 1) := by decide +kernel
theorem dX10_takesCell_9 : decode cX10_takesCell 9 = .ok (.isub, 1) := by decide +kernel
theorem dX10_takesCell_10 : decode cX10_takesCell 10 = .ok (.invokevirtual 165, 3) := by decide +kernel
theorem dX10_takesCell_13 : decode cX10_takesCell 13 = .ok (.istore_n 2, 1) := by decide +kernel
theorem dX10_takesCell_14 : decode cX10_takesCell 14 = .ok (.aload_n 0, 1) := by decide +kernel
theorem dX10_takesCell_15 : decode cX10_takesCell 15 = .ok (.getfield 108, 3) := by decide +kernel
theorem dX10_takesCell_18 : decode cX10_takesCell 18 = .ok (.ifCond .ne 66, 3) := by decide +kernel
theorem dX10_takesCell_21 : decode cX10_takesCell 21 = .ok (.iload_n 1, 1) := by decide +kernel
theorem dX10_takesCell_22 : decode cX10_takesCell 22 = .ok (.ifCond .eq 62, 3) := by decide +kernel
theorem dX10_takesCell_25 : decode cX10_takesCell 25 = .ok (.aload_n 0, 1) := by decide +kernel
theorem dX10_takesCell_26 : decode cX10_takesCell 26 = .ok (.bipush 31, 2) := by decide +kernel
theorem dX10_takesCell_28 : decode cX10_takesCell 28 = .ok (.invokevirtual 114, 3) := by decide +kernel
theorem dX10_takesCell_31 : decode cX10_takesCell 31 = .ok (.ifCond .eq 53, 3) := by decide +kernel
theorem dX10_takesCell_34 : decode cX10_takesCell 34 = .ok (.aload_n 0, 1) := by decide +kernel
theorem dX10_takesCell_35 : decode cX10_takesCell 35 = .ok (.getfield 103, 3) := by decide +kernel
theorem dX10_takesCell_38 : decode cX10_takesCell 38 = .ok (.i2l, 1) := by decide +kernel
theorem dX10_takesCell_39 : decode cX10_takesCell 39 = .ok (.lconst 0, 1) := by decide +kernel
theorem dX10_takesCell_40 : decode cX10_takesCell 40 = .ok (.aload_n 0, 1) := by decide +kernel
theorem dX10_takesCell_41 : decode cX10_takesCell 41 = .ok (.getfield 24, 3) := by decide +kernel
theorem dX10_takesCell_44 : decode cX10_takesCell 44 = .ok (.iconst 2, 1) := by decide +kernel
theorem dX10_takesCell_45 : decode cX10_takesCell 45 = .ok (.iaload, 1) := by decide +kernel
theorem dX10_takesCell_46 : decode cX10_takesCell 46 = .ok (.iconst 1, 1) := by decide +kernel
theorem dX10_takesCell_47 : decode cX10_takesCell 47 = .ok (.isub, 1) := by decide +kernel
theorem dX10_takesCell_48 : decode cX10_takesCell 48 = .ok (.i2l, 1) := by decide +kernel
theorem dX10_takesCell_49 : decode cX10_takesCell 49 = .ok (.invokestatic 124, 3) := by decide +kernel
theorem dX10_takesCell_52 : decode cX10_takesCell 52 = .ok (.ifCond .eq 32, 3) := by decide +kernel
theorem dX10_takesCell_55 : decode cX10_takesCell 55 = .ok (.aload_n 0, 1) := by decide +kernel
theorem dX10_takesCell_56 : decode cX10_takesCell 56 = .ok (.getfield 24, 3) := by decide +kernel
theorem dX10_takesCell_59 : decode cX10_takesCell 59 = .ok (.bipush 14, 2) := by decide +kernel
theorem dX10_takesCell_61 : decode cX10_takesCell 61 = .ok (.aload_n 0, 1) := by decide +kernel
theorem dX10_takesCell_62 : decode cX10_takesCell 62 = .ok (.getfield 24, 3) := by decide +kernel
theorem dX10_takesCell_65 : decode cX10_takesCell 65 = .ok (.iconst 1, 1) := by decide +kernel
theorem dX10_takesCell_66 : decode cX10_takesCell 66 = .ok (.iaload, 1) := by decide +kernel
theorem dX10_takesCell_67 : decode cX10_takesCell 67 = .ok (.aload_n 0, 1) := by decide +kernel
theorem dX10_takesCell_68 : decode cX10_takesCell 68 = .ok (.getfield 103, 3) := by decide +kernel
theorem dX10_takesCell_71 : decode cX10_takesCell 71 = .ok (.imul, 1) := by decide +kernel
theorem dX10_takesCell_72 : decode cX10_takesCell 72 = .ok (.iadd, 1) := by decide +kernel
theorem dX10_takesCell_73 : decode cX10_takesCell 73 = .ok (.iload_n 2, 1) := by decide +kernel
theorem dX10_takesCell_74 : decode cX10_takesCell 74 = .ok (.iadd, 1) := by decide +kernel
theorem dX10_takesCell_75 : decode cX10_takesCell 75 = .ok (.iaload, 1) := by decide +kernel
theorem dX10_takesCell_76 : decode cX10_takesCell 76 = .ok (.ifCond .eq 8, 3) := by decide +kernel
theorem dX10_takesCell_79 : decode cX10_takesCell 79 = .ok (.aload_n 0, 1) := by decide +kernel
theorem dX10_takesCell_80 : decode cX10_takesCell 80 = .ok (.iconst 3, 1) := by decide +kernel
theorem dX10_takesCell_81 : decode cX10_takesCell 81 = .ok (.invokevirtual 120, 3) := by decide +kernel
theorem dX10_takesCell_84 : decode cX10_takesCell 84 = .ok (.aload_n 0, 1) := by decide +kernel
theorem dX10_takesCell_85 : decode cX10_takesCell 85 = .ok (.iconst 0, 1) := by decide +kernel
theorem dX10_takesCell_86 : decode cX10_takesCell 86 = .ok (.aload_n 0, 1) := by decide +kernel
theorem dX10_takesCell_87 : decode cX10_takesCell 87 = .ok (.getfield 24, 3) := by decide +kernel
theorem dX10_takesCell_90 : decode cX10_takesCell 90 = .ok (.iconst 2, 1) := by decide +kernel
theorem dX10_takesCell_91 : decode cX10_takesCell 91 = .ok (.iaload, 1) := by decide +kernel
theorem dX10_takesCell_92 : decode cX10_takesCell 92 = .ok (.iconst 1, 1) := by decide +kernel
theorem dX10_takesCell_93 : decode cX10_takesCell 93 = .ok (.isub, 1) := by decide +kernel
theorem dX10_takesCell_94 : decode cX10_takesCell 94 = .ok (.invokevirtual 165, 3) := by decide +kernel
theorem dX10_takesCell_97 : decode cX10_takesCell 97 = .ok (.istore_n 3, 1) := by decide +kernel
theorem dX10_takesCell_98 : decode cX10_takesCell 98 = .ok (.aload_n 0, 1) := by decide +kernel
theorem dX10_takesCell_99 : decode cX10_takesCell 99 = .ok (.getfield 108, 3) := by decide +kernel
theorem dX10_takesCell_102 : decode cX10_takesCell 102 = .ok (.ifCond .ne 16, 3) := by decide +kernel
theorem dX10_takesCell_105 : decode cX10_takesCell 105 = .ok (.aload_n 0, 1) := by decide +kernel
theorem dX10_takesCell_106 : decode cX10_takesCell 106 = .ok (.getfield 24, 3) := by decide +kernel
theorem dX10_takesCell_109 : decode cX10_takesCell 109 = .ok (.iconst 1, 1) := by decide +kernel
theorem dX10_takesCell_110 : decode cX10_takesCell 110 = .ok (.iaload, 1) := by decide +kernel
theorem dX10_takesCell_111 : decode cX10_takesCell 111 = .ok (.iload_n 3, 1) := by decide +kernel
theorem dX10_takesCell_112 : decode cX10_takesCell 112 = .ok (.imul, 1) := by decide +kernel
theorem dX10_takesCell_113 : decode cX10_takesCell 113 = .ok (.iload_n 2, 1) := by decide +kernel
theorem dX10_takesCell_114 : decode cX10_takesCell 114 = .ok (.iadd, 1) := by decide +kernel
theorem dX10_takesCell_115 : decode cX10_takesCell 115 = .ok (.goto 4, 3) := by decide +kernel
theorem dX10_takesCell_118 : decode cX10_takesCell 118 = .ok (.iconst 0, 1) := by decide +kernel
theorem dX10_takesCell_119 : decode cX10_takesCell 119 = .ok (.ireturn, 1) := by decide +kernel
theorem dX10_readShore_0 : decode cX10_readShore 0 = .ok (.aload_n 0, 1) := by decide +kernel
theorem dX10_readShore_1 : decode cX10_readShore 1 = .ok (.getfield 24, 3) := by decide +kernel
theorem dX10_readShore_4 : decode cX10_readShore 4 = .ok (.iconst 4, 1) := by decide +kernel
theorem dX10_readShore_5 : decode cX10_readShore 5 = .ok (.iaload, 1) := by decide +kernel
theorem dX10_readShore_6 : decode cX10_readShore 6 = .ok (.istore_n 1, 1) := by decide +kernel
theorem dX10_readShore_7 : decode cX10_readShore 7 = .ok (.iload_n 1, 1) := by decide +kernel
theorem dX10_readShore_8 : decode cX10_readShore 8 = .ok (.bipush 6, 2) := by decide +kernel
theorem dX10_readShore_10 : decode cX10_readShore 10 = .ok (.if_icmp .ne 8, 3) := by decide +kernel
theorem dX10_readShore_13 : decode cX10_readShore 13 = .ok (.aload_n 0, 1) := by decide +kernel
theorem dX10_readShore_14 : decode cX10_readShore 14 = .ok (.iconst 4, 1) := by decide +kernel
theorem dX10_readShore_15 : decode cX10_readShore 15 = .ok (.invokevirtual 120, 3) := by decide +kernel
theorem dX10_readShore_18 : decode cX10_readShore 18 = .ok (.aload_n 0, 1) := by decide +kernel
theorem dX10_readShore_19 : decode cX10_readShore 19 = .ok (.getfield 108, 3) := by decide +kernel
theorem dX10_readShore_22 : decode cX10_readShore 22 = .ok (.ifCond .eq 4, 3) := by decide +kernel
theorem dX10_readShore_25 : decode cX10_readShore 25 = .ok (.return_, 1) := by decide +kernel
theorem dX10_readShore_26 : decode cX10_readShore 26 = .ok (.aload_n 0, 1) := by decide +kernel
theorem dX10_readShore_27 : decode cX10_readShore 27 = .ok (.invokevirtual 117, 3) := by decide +kernel
theorem dX10_readShore_30 : decode cX10_readShore 30 = .ok (.aload_n 0, 1) := by decide +kernel
theorem dX10_readShore_31 : decode cX10_readShore 31 = .ok (.iconst 1, 1) := by decide +kernel
theorem dX10_readShore_32 : decode cX10_readShore 32 = .ok (.invokevirtual 169, 3) := by decide +kernel
theorem dX10_readShore_35 : decode cX10_readShore 35 = .ok (.istore_n 2, 1) := by decide +kernel
theorem dX10_readShore_36 : decode cX10_readShore 36 = .ok (.aload_n 0, 1) := by decide +kernel
theorem dX10_readShore_37 : decode cX10_readShore 37 = .ok (.iconst 4, 1) := by decide +kernel
theorem dX10_readShore_38 : decode cX10_readShore 38 = .ok (.invokevirtual 147, 3) := by decide +kernel
theorem dX10_readShore_41 : decode cX10_readShore 41 = .ok (.ifCond .ne 8, 3) := by decide +kernel
theorem dX10_readShore_44 : decode cX10_readShore 44 = .ok (.aload_n 0, 1) := by decide +kernel
theorem dX10_readShore_45 : decode cX10_readShore 45 = .ok (.iconst 2, 1) := by decide +kernel
theorem dX10_readShore_46 : decode cX10_readShore 46 = .ok (.invokevirtual 120, 3) := by decide +kernel
theorem dX10_readShore_49 : decode cX10_readShore 49 = .ok (.aload_n 0, 1) := by decide +kernel
theorem dX10_readShore_50 : decode cX10_readShore 50 = .ok (.getfield 108, 3) := by decide +kernel
theorem dX10_readShore_53 : decode cX10_readShore 53 = .ok (.ifCond .ne 25, 3) := by decide +kernel
theorem dX10_readShore_56 : decode cX10_readShore 56 = .ok (.aload_n 0, 1) := by decide +kernel
theorem dX10_readShore_57 : decode cX10_readShore 57 = .ok (.getfield 90, 3) := by decide +kernel
theorem dX10_readShore_60 : decode cX10_readShore 60 = .ok (.i2l, 1) := by decide +kernel
theorem dX10_readShore_61 : decode cX10_readShore 61 = .ok (.ldc2_w 173, 3) := by decide +kernel
theorem dX10_readShore_64 : decode cX10_readShore 64 = .ok (.ldc2_w 175, 3) := by decide +kernel
theorem dX10_readShore_67 : decode cX10_readShore 67 = .ok (.invokestatic 124, 3) := by decide +kernel
theorem dX10_readShore_70 : decode cX10_readShore 70 = .ok (.ifCond .ne 8, 3) := by decide +kernel
theorem dX10_readShore_73 : decode cX10_readShore 73 = .ok (.aload_n 0, 1) := by decide +kernel
theorem dX10_readShore_74 : decode cX10_readShore 74 = .ok (.iconst 2, 1) := by decide +kernel
theorem dX10_readShore_75 : decode cX10_readShore 75 = .ok (.invokevirtual 120, 3) := by decide +kernel
theorem dX10_readShore_78 : decode cX10_readShore 78 = .ok (.aload_n 0, 1) := by decide +kernel
theorem dX10_readShore_79 : decode cX10_readShore 79 = .ok (.getfield 90, 3) := by decide +kernel
theorem dX10_readShore_82 : decode cX10_readShore 82 = .ok (.bipush 12, 2) := by decide +kernel
theorem dX10_readShore_84 : decode cX10_readShore 84 = .ok (.isub, 1) := by decide +kernel
theorem dX10_readShore_85 : decode cX10_readShore 85 = .ok (.iconst 1, 1) := by decide +kernel
theorem dX10_readShore_86 : decode cX10_readShore 86 = .ok (.iadd, 1) := by decide +kernel
theorem dX10_readShore_87 : decode cX10_readShore 87 = .ok (.istore_n 3, 1) := by decide +kernel
theorem dX10_readShore_88 : decode cX10_readShore 88 = .ok (.aload_n 0, 1) := by decide +kernel
theorem dX10_readShore_89 : decode cX10_readShore 89 = .ok (.getfield 108, 3) := by decide +kernel
theorem dX10_readShore_92 : decode cX10_readShore 92 = .ok (.ifCond .ne 7, 3) := by decide +kernel
theorem dX10_readShore_95 : decode cX10_readShore 95 = .ok (.aload_n 0, 1) := by decide +kernel
theorem dX10_readShore_96 : decode cX10_readShore 96 = .ok (.invokevirtual 117, 3) := by decide +kernel
theorem dX10_readShore_99 : decode cX10_readShore 99 = .ok (.aload_n 0, 1) := by decide +kernel
theorem dX10_readShore_100 : decode cX10_readShore 100 = .ok (.iconst 5, 1) := by decide +kernel
theorem dX10_readShore_101 : decode cX10_readShore 101 = .ok (.invokevirtual 147, 3) := by decide +kernel
theorem dX10_readShore_104 : decode cX10_readShore 104 = .ok (.ifCond .ne 8, 3) := by decide +kernel
theorem dX10_readShore_107 : decode cX10_readShore 107 = .ok (.aload_n 0, 1) := by decide +kernel
theorem dX10_readShore_108 : decode cX10_readShore 108 = .ok (.iconst 2, 1) := by decide +kernel
theorem dX10_readShore_109 : decode cX10_readShore 109 = .ok (.invokevirtual 120, 3) := by decide +kernel
theorem dX10_readShore_112 : decode cX10_readShore 112 = .ok (.iconst 0, 1) := by decide +kernel
theorem dX10_readShore_113 : decode cX10_readShore 113 = .ok (.istore 4, 2) := by decide +kernel
theorem dX10_readShore_115 : decode cX10_readShore 115 = .ok (.iconst 0, 1) := by decide +kernel
theorem dX10_readShore_116 : decode cX10_readShore 116 = .ok (.istore 5, 2) := by decide +kernel
theorem dX10_readShore_118 : decode cX10_readShore 118 = .ok (.aload_n 0, 1) := by decide +kernel
theorem dX10_readShore_119 : decode cX10_readShore 119 = .ok (.getfield 108, 3) := by decide +kernel
theorem dX10_readShore_122 : decode cX10_readShore 122 = .ok (.ifCond .ne 54, 3) := by decide +kernel
theorem dX10_readShore_125 : decode cX10_readShore 125 = .ok (.iload 5, 2) := by decide +kernel
theorem dX10_readShore_127 : decode cX10_readShore 127 = .ok (.ifCond .eq 12, 3) := by decide +kernel
theorem dX10_readShore_130 : decode cX10_readShore 130 = .ok (.aload_n 0, 1) := by decide +kernel
theorem dX10_readShore_131 : decode cX10_readShore 131 = .ok (.bipush 31, 2) := by decide +kernel
theorem dX10_readShore_133 : decode cX10_readShore 133 = .ok (.invokevirtual 114, 3) := by decide +kernel
theorem dX10_readShore_136 : decode cX10_readShore 136 = .ok (.ifCond .eq 40, 3) := by decide +kernel
theorem dX10_readShore_139 : decode cX10_readShore 139 = .ok (.aload_n 0, 1) := by decide +kernel
theorem dX10_readShore_140 : decode cX10_readShore 140 = .ok (.iconst 0, 1) := by decide +kernel
theorem dX10_readShore_141 : decode cX10_readShore 141 = .ok (.aload_n 0, 1) := by decide +kernel
theorem dX10_readShore_142 : decode cX10_readShore 142 = .ok (.getfield 24, 3) := by decide +kernel
theorem dX10_readShore_145 : decode cX10_readShore 145 = .ok (.iconst 3, 1) := by decide +kernel
theorem dX10_readShore_146 : decode cX10_readShore 146 = .ok (.iaload, 1) := by decide +kernel
theorem dX10_readShore_147 : decode cX10_readShore 147 = .ok (.iconst 1, 1) := by decide +kernel
theorem dX10_readShore_148 : decode cX10_readShore 148 = .ok (.isub, 1) := by decide +kernel
theorem dX10_readShore_149 : decode cX10_readShore 149 = .ok (.invokevirtual 165, 3) := by decide +kernel
theorem dX10_readShore_152 : decode cX10_readShore 152 = .ok (.istore 6, 2) := by decide +kernel
theorem dX10_readShore_154 : decode cX10_readShore 154 = .ok (.aload_n 0, 1) := by decide +kernel
theorem dX10_readShore_155 : decode cX10_readShore 155 = .ok (.getfield 108, 3) := by decide +kernel
theorem dX10_readShore_158 : decode cX10_readShore 158 = .ok (.ifCond .ne 12, 3) := by decide +kernel
theorem dX10_readShore_161 : decode cX10_readShore 161 = .ok (.iload 4, 2) := by decide +kernel
theorem dX10_readShore_163 : decode cX10_readShore 163 = .ok (.iconst 1, 1) := by decide +kernel
theorem dX10_readShore_164 : decode cX10_readShore 164 = .ok (.iload 6, 2) := by decide +kernel
theorem dX10_readShore_166 : decode cX10_readShore 166 = .ok (.ishl, 1) := by decide +kernel
theorem dX10_readShore_167 : decode cX10_readShore 167 = .ok (.ior, 1) := by decide +kernel
theorem dX10_readShore_168 : decode cX10_readShore 168 = .ok (.istore 4, 2) := by decide +kernel
theorem dX10_readShore_170 : decode cX10_readShore 170 = .ok (.iconst 1, 1) := by decide +kernel
theorem dX10_readShore_171 : decode cX10_readShore 171 = .ok (.istore 5, 2) := by decide +kernel
theorem dX10_readShore_173 : decode cX10_readShore 173 = .ok (.goto (-55), 3) := by decide +kernel
theorem dX10_readShore_176 : decode cX10_readShore 176 = .ok (.aload_n 0, 1) := by decide +kernel
theorem dX10_readShore_177 : decode cX10_readShore 177 = .ok (.getfield 108, 3) := by decide +kernel
theorem dX10_readShore_180 : decode cX10_readShore 180 = .ok (.ifCond .eq 4, 3) := by decide +kernel
theorem dX10_readShore_183 : decode cX10_readShore 183 = .ok (.return_, 1) := by decide +kernel
theorem dX10_readShore_184 : decode cX10_readShore 184 = .ok (.aload_n 0, 1) := by decide +kernel
theorem dX10_readShore_185 : decode cX10_readShore 185 = .ok (.getfield 24, 3) := by decide +kernel
theorem dX10_readShore_188 : decode cX10_readShore 188 = .ok (.bipush 14, 2) := by decide +kernel
theorem dX10_readShore_190 : decode cX10_readShore 190 = .ok (.iload_n 2, 1) := by decide +kernel
theorem dX10_readShore_191 : decode cX10_readShore 191 = .ok (.iadd, 1) := by decide +kernel
theorem dX10_readShore_192 : decode cX10_readShore 192 = .ok (.bipush 10, 2) := by decide +kernel
theorem dX10_readShore_194 : decode cX10_readShore 194 = .ok (.iload_n 1, 1) := by decide +kernel
theorem dX10_readShore_195 : decode cX10_readShore 195 = .ok (.iadd, 1) := by decide +kernel
theorem dX10_readShore_196 : decode cX10_readShore 196 = .ok (.iastore, 1) := by decide +kernel
theorem dX10_readShore_197 : decode cX10_readShore 197 = .ok (.aload_n 0, 1) := by decide +kernel
theorem dX10_readShore_198 : decode cX10_readShore 198 = .ok (.getfield 24, 3) := by decide +kernel
theorem dX10_readShore_201 : decode cX10_readShore 201 = .ok (.sipush 266, 3) := by decide +kernel
theorem dX10_readShore_204 : decode cX10_readShore 204 = .ok (.iload_n 1, 1) := by decide +kernel
theorem dX10_readShore_205 : decode cX10_readShore 205 = .ok (.iadd, 1) := by decide +kernel
theorem dX10_readShore_206 : decode cX10_readShore 206 = .ok (.iload_n 2, 1) := by decide +kernel
theorem dX10_readShore_207 : decode cX10_readShore 207 = .ok (.iastore, 1) := by decide +kernel
theorem dX10_readShore_208 : decode cX10_readShore 208 = .ok (.aload_n 0, 1) := by decide +kernel
theorem dX10_readShore_209 : decode cX10_readShore 209 = .ok (.getfield 24, 3) := by decide +kernel
theorem dX10_readShore_212 : decode cX10_readShore 212 = .ok (.sipush 272, 3) := by decide +kernel
theorem dX10_readShore_215 : decode cX10_readShore 215 = .ok (.iload_n 1, 1) := by decide +kernel
theorem dX10_readShore_216 : decode cX10_readShore 216 = .ok (.iadd, 1) := by decide +kernel
theorem dX10_readShore_217 : decode cX10_readShore 217 = .ok (.iload_n 3, 1) := by decide +kernel
theorem dX10_readShore_218 : decode cX10_readShore 218 = .ok (.iastore, 1) := by decide +kernel
theorem dX10_readShore_219 : decode cX10_readShore 219 = .ok (.aload_n 0, 1) := by decide +kernel
theorem dX10_readShore_220 : decode cX10_readShore 220 = .ok (.getfield 24, 3) := by decide +kernel
theorem dX10_readShore_223 : decode cX10_readShore 223 = .ok (.sipush 278, 3) := by decide +kernel
theorem dX10_readShore_226 : decode cX10_readShore 226 = .ok (.iload_n 1, 1) := by decide +kernel
theorem dX10_readShore_227 : decode cX10_readShore 227 = .ok (.iadd, 1) := by decide +kernel
theorem dX10_readShore_228 : decode cX10_readShore 228 = .ok (.iload 4, 2) := by decide +kernel
theorem dX10_readShore_230 : decode cX10_readShore 230 = .ok (.iastore, 1) := by decide +kernel
theorem dX10_readShore_231 : decode cX10_readShore 231 = .ok (.aload_n 0, 1) := by decide +kernel
theorem dX10_readShore_232 : decode cX10_readShore 232 = .ok (.getfield 24, 3) := by decide +kernel
theorem dX10_readShore_235 : decode cX10_readShore 235 = .ok (.iconst 4, 1) := by decide +kernel
theorem dX10_readShore_236 : decode cX10_readShore 236 = .ok (.dup2, 1) := by decide +kernel
theorem dX10_readShore_237 : decode cX10_readShore 237 = .ok (.iaload, 1) := by decide +kernel
theorem dX10_readShore_238 : decode cX10_readShore 238 = .ok (.iconst 1, 1) := by decide +kernel
theorem dX10_readShore_239 : decode cX10_readShore 239 = .ok (.iadd, 1) := by decide +kernel
theorem dX10_readShore_240 : decode cX10_readShore 240 = .ok (.iastore, 1) := by decide +kernel
theorem dX10_readShore_241 : decode cX10_readShore 241 = .ok (.return_, 1) := by decide +kernel
theorem dX10_readCurrent_0 : decode cX10_readCurrent 0 = .ok (.aload_n 0, 1) := by decide +kernel
theorem dX10_readCurrent_1 : decode cX10_readCurrent 1 = .ok (.invokevirtual 117, 3) := by decide +kernel
theorem dX10_readCurrent_4 : decode cX10_readCurrent 4 = .ok (.aload_n 0, 1) := by decide +kernel
theorem dX10_readCurrent_5 : decode cX10_readCurrent 5 = .ok (.iconst 0, 1) := by decide +kernel
theorem dX10_readCurrent_6 : decode cX10_readCurrent 6 = .ok (.invokevirtual 169, 3) := by decide +kernel
theorem dX10_readCurrent_9 : decode cX10_readCurrent 9 = .ok (.istore_n 1, 1) := by decide +kernel
theorem dX10_readCurrent_10 : decode cX10_readCurrent 10 = .ok (.iconst 0, 1) := by decide +kernel
theorem dX10_readCurrent_11 : decode cX10_readCurrent 11 = .ok (.istore_n 2, 1) := by decide +kernel
theorem dX10_readCurrent_12 : decode cX10_readCurrent 12 = .ok (.iload_n 2, 1) := by decide +kernel
theorem dX10_readCurrent_13 : decode cX10_readCurrent 13 = .ok (.aload_n 0, 1) := by decide +kernel
theorem dX10_readCurrent_14 : decode cX10_readCurrent 14 = .ok (.getfield 24, 3) := by decide +kernel
theorem dX10_readCurrent_17 : decode cX10_readCurrent 17 = .ok (.iconst 3, 1) := by decide +kernel
theorem dX10_readCurrent_18 : decode cX10_readCurrent 18 = .ok (.iaload, 1) := by decide +kernel
theorem dX10_readCurrent_19 : decode cX10_readCurrent 19 = .ok (.if_icmp .ge 38, 3) := by decide +kernel
theorem dX10_readCurrent_22 : decode cX10_readCurrent 22 = .ok (.aload_n 0, 1) := by decide +kernel
theorem dX10_readCurrent_23 : decode cX10_readCurrent 23 = .ok (.iconst 0, 1) := by decide +kernel
theorem dX10_readCurrent_24 : decode cX10_readCurrent 24 = .ok (.iconst 4, 1) := by decide +kernel
theorem dX10_readCurrent_25 : decode cX10_readCurrent 25 = .ok (.invokevirtual 165, 3) := by decide +kernel
theorem dX10_readCurrent_28 : decode cX10_readCurrent 28 = .ok (.istore_n 3, 1) := by decide +kernel
theorem dX10_readCurrent_29 : decode cX10_readCurrent 29 = .ok (.aload_n 0, 1) := by decide +kernel
theorem dX10_readCurrent_30 : decode cX10_readCurrent 30 = .ok (.getfield 108, 3) := by decide +kernel
theorem dX10_readCurrent_33 : decode cX10_readCurrent 33 = .ok (.ifCond .ne 18, 3) := by decide +kernel
theorem dX10_readCurrent_36 : decode cX10_readCurrent 36 = .ok (.aload_n 0, 1) := by decide +kernel
theorem dX10_readCurrent_37 : decode cX10_readCurrent 37 = .ok (.getfield 24, 3) := by decide +kernel
theorem dX10_readCurrent_40 : decode cX10_readCurrent 40 = .ok (.bipush 50, 2) := by decide +kernel
theorem dX10_readCurrent_42 : decode cX10_readCurrent 42 = .ok (.bipush 6, 2) := by decide +kernel
theorem dX10_readCurrent_44 : decode cX10_readCurrent 44 = .ok (.iload_n 1, 1) := by decide +kernel
theorem dX10_readCurrent_45 : decode cX10_readCurrent 45 = .ok (.imul, 1) := by decide +kernel
theorem dX10_readCurrent_46 : decode cX10_readCurrent 46 = .ok (.iadd, 1) := by decide +kernel
theorem dX10_readCurrent_47 : decode cX10_readCurrent 47 = .ok (.iload_n 2, 1) := by decide +kernel
theorem dX10_readCurrent_48 : decode cX10_readCurrent 48 = .ok (.iadd, 1) := by decide +kernel
theorem dX10_readCurrent_49 : decode cX10_readCurrent 49 = .ok (.iload_n 3, 1) := by decide +kernel
theorem dX10_readCurrent_50 : decode cX10_readCurrent 50 = .ok (.iastore, 1) := by decide +kernel
theorem dX10_readCurrent_51 : decode cX10_readCurrent 51 = .ok (.iinc 2 1, 3) := by decide +kernel
theorem dX10_readCurrent_54 : decode cX10_readCurrent 54 = .ok (.goto (-42), 3) := by decide +kernel
theorem dX10_readCurrent_57 : decode cX10_readCurrent 57 = .ok (.return_, 1) := by decide +kernel
theorem dX10_readLaw_0 : decode cX10_readLaw 0 = .ok (.aload_n 0, 1) := by decide +kernel
theorem dX10_readLaw_1 : decode cX10_readLaw 1 = .ok (.invokevirtual 117, 3) := by decide +kernel
theorem dX10_readLaw_4 : decode cX10_readLaw 4 = .ok (.aload_n 0, 1) := by decide +kernel
theorem dX10_readLaw_5 : decode cX10_readLaw 5 = .ok (.bipush 41, 2) := by decide +kernel
theorem dX10_readLaw_7 : decode cX10_readLaw 7 = .ok (.invokevirtual 147, 3) := by decide +kernel
theorem dX10_readLaw_10 : decode cX10_readLaw 10 = .ok (.ifCond .ne 8, 3) := by decide +kernel
theorem dX10_readLaw_13 : decode cX10_readLaw 13 = .ok (.aload_n 0, 1) := by decide +kernel
theorem dX10_readLaw_14 : decode cX10_readLaw 14 = .ok (.iconst 2, 1) := by decide +kernel
theorem dX10_readLaw_15 : decode cX10_readLaw 15 = .ok (.invokevirtual 120, 3) := by decide +kernel
theorem dX10_readLaw_18 : decode cX10_readLaw 18 = .ok (.aload_n 0, 1) := by decide +kernel
theorem dX10_readLaw_19 : decode cX10_readLaw 19 = .ok (.getfield 24, 3) := by decide +kernel
theorem dX10_readLaw_22 : decode cX10_readLaw 22 = .ok (.sipush 1011, 3) := by decide +kernel
theorem dX10_readLaw_25 : decode cX10_readLaw 25 = .ok (.iaload, 1) := by decide +kernel
theorem dX10_readLaw_26 : decode cX10_readLaw 26 = .ok (.istore_n 2, 1) := by decide +kernel
theorem dX10_readLaw_27 : decode cX10_readLaw 27 = .ok (.aload_n 0, 1) := by decide +kernel
theorem dX10_readLaw_28 : decode cX10_readLaw 28 = .ok (.iload_n 1, 1) := by decide +kernel
theorem dX10_readLaw_29 : decode cX10_readLaw 29 = .ok (.putfield 128, 3) := by decide +kernel
theorem dX10_readLaw_32 : decode cX10_readLaw 32 = .ok (.iload_n 1, 1) := by decide +kernel
theorem dX10_readLaw_33 : decode cX10_readLaw 33 = .ok (.ifCond .ne 11, 3) := by decide +kernel
theorem dX10_readLaw_36 : decode cX10_readLaw 36 = .ok (.aload_n 0, 1) := by decide +kernel
theorem dX10_readLaw_37 : decode cX10_readLaw 37 = .ok (.iconst 0, 1) := by decide +kernel
theorem dX10_readLaw_38 : decode cX10_readLaw 38 = .ok (.invokevirtual 144, 3) := by decide +kernel
theorem dX10_readLaw_41 : decode cX10_readLaw 41 = .ok (.goto 8, 3) := by decide +kernel
theorem dX10_readLaw_44 : decode cX10_readLaw 44 = .ok (.aload_n 0, 1) := by decide +kernel
theorem dX10_readLaw_45 : decode cX10_readLaw 45 = .ok (.iconst 0, 1) := by decide +kernel
theorem dX10_readLaw_46 : decode cX10_readLaw 46 = .ok (.invokevirtual 159, 3) := by decide +kernel
theorem dX10_readLaw_49 : decode cX10_readLaw 49 = .ok (.aload_n 0, 1) := by decide +kernel
theorem dX10_readLaw_50 : decode cX10_readLaw 50 = .ok (.getfield 108, 3) := by decide +kernel
theorem dX10_readLaw_53 : decode cX10_readLaw 53 = .ok (.ifCond .eq 4, 3) := by decide +kernel
theorem dX10_readLaw_56 : decode cX10_readLaw 56 = .ok (.return_, 1) := by decide +kernel
theorem dX10_readLaw_57 : decode cX10_readLaw 57 = .ok (.aload_n 0, 1) := by decide +kernel
theorem dX10_readLaw_58 : decode cX10_readLaw 58 = .ok (.getfield 24, 3) := by decide +kernel
theorem dX10_readLaw_61 : decode cX10_readLaw 61 = .ok (.bipush 8, 2) := by decide +kernel
theorem dX10_readLaw_63 : decode cX10_readLaw 63 = .ok (.iload_n 1, 1) := by decide +kernel
theorem dX10_readLaw_64 : decode cX10_readLaw 64 = .ok (.iadd, 1) := by decide +kernel
theorem dX10_readLaw_65 : decode cX10_readLaw 65 = .ok (.iconst 1, 1) := by decide +kernel
theorem dX10_readLaw_66 : decode cX10_readLaw 66 = .ok (.iastore, 1) := by decide +kernel
theorem dX10_readLaw_67 : decode cX10_readLaw 67 = .ok (.aload_n 0, 1) := by decide +kernel
theorem dX10_readLaw_68 : decode cX10_readLaw 68 = .ok (.getfield 24, 3) := by decide +kernel
theorem dX10_readLaw_71 : decode cX10_readLaw 71 = .ok (.bipush 10, 2) := by decide +kernel
theorem dX10_readLaw_73 : decode cX10_readLaw 73 = .ok (.iload_n 1, 1) := by decide +kernel
theorem dX10_readLaw_74 : decode cX10_readLaw 74 = .ok (.iadd, 1) := by decide +kernel
theorem dX10_readLaw_75 : decode cX10_readLaw 75 = .ok (.iload_n 2, 1) := by decide +kernel
theorem dX10_readLaw_76 : decode cX10_readLaw 76 = .ok (.iastore, 1) := by decide +kernel
theorem dX10_readLaw_77 : decode cX10_readLaw 77 = .ok (.aload_n 0, 1) := by decide +kernel
theorem dX10_readLaw_78 : decode cX10_readLaw 78 = .ok (.getfield 24, 3) := by decide +kernel
theorem dX10_readLaw_81 : decode cX10_readLaw 81 = .ok (.bipush 12, 2) := by decide +kernel
theorem dX10_readLaw_83 : decode cX10_readLaw 83 = .ok (.iload_n 1, 1) := by decide +kernel
theorem dX10_readLaw_84 : decode cX10_readLaw 84 = .ok (.iadd, 1) := by decide +kernel
theorem dX10_readLaw_85 : decode cX10_readLaw 85 = .ok (.aload_n 0, 1) := by decide +kernel
theorem dX10_readLaw_86 : decode cX10_readLaw 86 = .ok (.getfield 24, 3) := by decide +kernel
theorem dX10_readLaw_89 : decode cX10_readLaw 89 = .ok (.sipush 1011, 3) := by decide +kernel
theorem dX10_readLaw_92 : decode cX10_readLaw 92 = .ok (.iaload, 1) := by decide +kernel
theorem dX10_readLaw_93 : decode cX10_readLaw 93 = .ok (.iload_n 2, 1) := by decide +kernel
theorem dX10_readLaw_94 : decode cX10_readLaw 94 = .ok (.isub, 1) := by decide +kernel
theorem dX10_readLaw_95 : decode cX10_readLaw 95 = .ok (.iastore, 1) := by decide +kernel
theorem dX10_readLaw_96 : decode cX10_readLaw 96 = .ok (.return_, 1) := by decide +kernel
theorem dX10_readMoon_0 : decode cX10_readMoon 0 = .ok (.aload_n 0, 1) := by decide +kernel
theorem dX10_readMoon_1 : decode cX10_readMoon 1 = .ok (.invokevirtual 117, 3) := by decide +kernel
theorem dX10_readMoon_4 : decode cX10_readMoon 4 = .ok (.aload_n 0, 1) := by decide +kernel
theorem dX10_readMoon_5 : decode cX10_readMoon 5 = .ok (.iconst 2, 1) := by decide +kernel
theorem dX10_readMoon_6 : decode cX10_readMoon 6 = .ok (.bipush 30, 2) := by decide +kernel
theorem dX10_readMoon_8 : decode cX10_readMoon 8 = .ok (.invokevirtual 165, 3) := by decide +kernel
theorem dX10_readMoon_11 : decode cX10_readMoon 11 = .ok (.istore_n 1, 1) := by decide +kernel
theorem dX10_readMoon_12 : decode cX10_readMoon 12 = .ok (.aload_n 0, 1) := by decide +kernel
theorem dX10_readMoon_13 : decode cX10_readMoon 13 = .ok (.bipush 10, 2) := by decide +kernel
theorem dX10_readMoon_15 : decode cX10_readMoon 15 = .ok (.invokevirtual 147, 3) := by decide +kernel
theorem dX10_readMoon_18 : decode cX10_readMoon 18 = .ok (.ifCond .ne 8, 3) := by decide +kernel
theorem dX10_readMoon_21 : decode cX10_readMoon 21 = .ok (.aload_n 0, 1) := by decide +kernel
theorem dX10_readMoon_22 : decode cX10_readMoon 22 = .ok (.iconst 2, 1) := by decide +kernel
theorem dX10_readMoon_23 : decode cX10_readMoon 23 = .ok (.invokevirtual 120, 3) := by decide +kernel
theorem dX10_readMoon_26 : decode cX10_readMoon 26 = .ok (.aload_n 0, 1) := by decide +kernel
theorem dX10_readMoon_27 : decode cX10_readMoon 27 = .ok (.iconst 0, 1) := by decide +kernel
theorem dX10_readMoon_28 : decode cX10_readMoon 28 = .ok (.iload_n 1, 1) := by decide +kernel
theorem dX10_readMoon_29 : decode cX10_readMoon 29 = .ok (.invokevirtual 165, 3) := by decide +kernel
theorem dX10_readMoon_32 : decode cX10_readMoon 32 = .ok (.istore_n 2, 1) := by decide +kernel
theorem dX10_readMoon_33 : decode cX10_readMoon 33 = .ok (.aload_n 0, 1) := by decide +kernel
theorem dX10_readMoon_34 : decode cX10_readMoon 34 = .ok (.getfield 108, 3) := by decide +kernel
theorem dX10_readMoon_37 : decode cX10_readMoon 37 = .ok (.ifCond .eq 4, 3) := by decide +kernel
theorem dX10_readMoon_40 : decode cX10_readMoon 40 = .ok (.return_, 1) := by decide +kernel
theorem dX10_readMoon_41 : decode cX10_readMoon 41 = .ok (.aload_n 0, 1) := by decide +kernel
theorem dX10_readMoon_42 : decode cX10_readMoon 42 = .ok (.getfield 24, 3) := by decide +kernel
theorem dX10_readMoon_45 : decode cX10_readMoon 45 = .ok (.iconst 5, 1) := by decide +kernel
theorem dX10_readMoon_46 : decode cX10_readMoon 46 = .ok (.iload_n 1, 1) := by decide +kernel
theorem dX10_readMoon_47 : decode cX10_readMoon 47 = .ok (.iastore, 1) := by decide +kernel
theorem dX10_readMoon_48 : decode cX10_readMoon 48 = .ok (.aload_n 0, 1) := by decide +kernel
theorem dX10_readMoon_49 : decode cX10_readMoon 49 = .ok (.getfield 24, 3) := by decide +kernel
theorem dX10_readMoon_52 : decode cX10_readMoon 52 = .ok (.bipush 6, 2) := by decide +kernel
theorem dX10_readMoon_54 : decode cX10_readMoon 54 = .ok (.iload_n 2, 1) := by decide +kernel
theorem dX10_readMoon_55 : decode cX10_readMoon 55 = .ok (.iastore, 1) := by decide +kernel
theorem dX10_readMoon_56 : decode cX10_readMoon 56 = .ok (.return_, 1) := by decide +kernel
theorem dX10_readLine_0 : decode cX10_readLine 0 = .ok (.aload_n 0, 1) := by decide +kernel
theorem dX10_readLine_1 : decode cX10_readLine 1 = .ok (.iconst 2, 1) := by decide +kernel
theorem dX10_readLine_2 : decode cX10_readLine 2 = .ok (.invokevirtual 147, 3) := by decide +kernel
theorem dX10_readLine_5 : decode cX10_readLine 5 = .ok (.ifCond .eq 29, 3) := by decide +kernel
theorem dX10_readLine_8 : decode cX10_readLine 8 = .ok (.aload_n 0, 1) := by decide +kernel
theorem dX10_readLine_9 : decode cX10_readLine 9 = .ok (.iconst 1, 1) := by decide +kernel
theorem dX10_readLine_10 : decode cX10_readLine 10 = .ok (.invokevirtual 169, 3) := by decide +kernel
theorem dX10_readLine_13 : decode cX10_readLine 13 = .ok (.istore_n 1, 1) := by decide +kernel
theorem dX10_readLine_14 : decode cX10_readLine 14 = .ok (.aload_n 0, 1) := by decide +kernel
theorem dX10_readLine_15 : decode cX10_readLine 15 = .ok (.getfield 108, 3) := by decide +kernel
theorem dX10_readLine_18 : decode cX10_readLine 18 = .ok (.ifCond .ne 13, 3) := by decide +kernel
theorem dX10_readLine_21 : decode cX10_readLine 21 = .ok (.aload_n 0, 1) := by decide +kernel
theorem dX10_readLine_22 : decode cX10_readLine 22 = .ok (.getfield 24, 3) := by decide +kernel
theorem dX10_readLine_25 : decode cX10_readLine 25 = .ok (.bipush 14, 2) := by decide +kernel
theorem dX10_readLine_27 : decode cX10_readLine 27 = .ok (.iload_n 1, 1) := by decide +kernel
theorem dX10_readLine_28 : decode cX10_readLine 28 = .ok (.iadd, 1) := by decide +kernel
theorem dX10_readLine_29 : decode cX10_readLine 29 = .ok (.iconst 1, 1) := by decide +kernel
theorem dX10_readLine_30 : decode cX10_readLine 30 = .ok (.iastore, 1) := by decide +kernel
theorem dX10_readLine_31 : decode cX10_readLine 31 = .ok (.goto 122, 3) := by decide +kernel
theorem dX10_readLine_34 : decode cX10_readLine 34 = .ok (.aload_n 0, 1) := by decide +kernel
theorem dX10_readLine_35 : decode cX10_readLine 35 = .ok (.iconst 3, 1) := by decide +kernel
theorem dX10_readLine_36 : decode cX10_readLine 36 = .ok (.invokevirtual 114, 3) := by decide +kernel
theorem dX10_readLine_39 : decode cX10_readLine 39 = .ok (.ifCond .eq 10, 3) := by decide +kernel
theorem dX10_readLine_42 : decode cX10_readLine 42 = .ok (.aload_n 0, 1) := by decide +kernel
theorem dX10_readLine_43 : decode cX10_readLine 43 = .ok (.invokevirtual 177, 3) := by decide +kernel
theorem dX10_readLine_46 : decode cX10_readLine 46 = .ok (.goto 107, 3) := by decide +kernel
theorem dX10_readLine_49 : decode cX10_readLine 49 = .ok (.aload_n 0, 1) := by decide +kernel
theorem dX10_readLine_50 : decode cX10_readLine 50 = .ok (.bipush 6, 2) := by decide +kernel
theorem dX10_readLine_52 : decode cX10_readLine 52 = .ok (.invokevirtual 114, 3) := by decide +kernel
theorem dX10_readLine_55 : decode cX10_readLine 55 = .ok (.ifCond .eq 10, 3) := by decide +kernel
theorem dX10_readLine_58 : decode cX10_readLine 58 = .ok (.aload_n 0, 1) := by decide +kernel
theorem dX10_readLine_59 : decode cX10_readLine 59 = .ok (.invokevirtual 180, 3) := by decide +kernel
theorem dX10_readLine_62 : decode cX10_readLine 62 = .ok (.goto 91, 3) := by decide +kernel
theorem dX10_readLine_65 : decode cX10_readLine 65 = .ok (.aload_n 0, 1) := by decide +kernel
theorem dX10_readLine_66 : decode cX10_readLine 66 = .ok (.bipush 7, 2) := by decide +kernel
theorem dX10_readLine_68 : decode cX10_readLine 68 = .ok (.invokevirtual 114, 3) := by decide +kernel
theorem dX10_readLine_71 : decode cX10_readLine 71 = .ok (.ifCond .ne 12, 3) := by decide +kernel
theorem dX10_readLine_74 : decode cX10_readLine 74 = .ok (.aload_n 0, 1) := by decide +kernel
theorem dX10_readLine_75 : decode cX10_readLine 75 = .ok (.bipush 8, 2) := by decide +kernel
theorem dX10_readLine_77 : decode cX10_readLine 77 = .ok (.invokevirtual 114, 3) := by decide +kernel
theorem dX10_readLine_80 : decode cX10_readLine 80 = .ok (.ifCond .eq 17, 3) := by decide +kernel
theorem dX10_readLine_83 : decode cX10_readLine 83 = .ok (.aload_n 0, 1) := by decide +kernel
theorem dX10_readLine_84 : decode cX10_readLine 84 = .ok (.aload_n 0, 1) := by decide +kernel
theorem dX10_readLine_85 : decode cX10_readLine 85 = .ok (.getfield 90, 3) := by decide +kernel
theorem dX10_readLine_88 : decode cX10_readLine 88 = .ok (.bipush 7, 2) := by decide +kernel
theorem dX10_readLine_90 : decode cX10_readLine 90 = .ok (.isub, 1) := by decide +kernel
theorem dX10_readLine_91 : decode cX10_readLine 91 = .ok (.invokevirtual 183, 3) := by decide +kernel
theorem dX10_readLine_94 : decode cX10_readLine 94 = .ok (.goto 59, 3) := by decide +kernel
theorem dX10_readLine_97 : decode cX10_readLine 97 = .ok (.aload_n 0, 1) := by decide +kernel
theorem dX10_readLine_98 : decode cX10_readLine 98 = .ok (.bipush 9, 2) := by decide +kernel
theorem dX10_readLine_100 : decode cX10_readLine 100 = .ok (.invokevirtual 114, 3) := by decide +kernel
theorem dX10_readLine_103 : decode cX10_readLine 103 = .ok (.ifCond .eq 10, 3) := by decide +kernel
theorem dX10_readLine_106 : decode cX10_readLine 106 = .ok (.aload_n 0, 1) := by decide +kernel
theorem dX10_readLine_107 : decode cX10_readLine 107 = .ok (.invokevirtual 186, 3) := by decide +kernel
theorem dX10_readLine_110 : decode cX10_readLine 110 = .ok (.goto 43, 3) := by decide +kernel
theorem dX10_readLine_113 : decode cX10_readLine 113 = .ok (.aload_n 0, 1) := by decide +kernel
theorem dX10_readLine_114 : decode cX10_readLine 114 = .ok (.bipush 11, 2) := by decide +kernel
theorem dX10_readLine_116 : decode cX10_readLine 116 = .ok (.invokevirtual 147, 3) := by decide +kernel
theorem dX10_readLine_119 : decode cX10_readLine 119 = .ok (.ifCond .eq 29, 3) := by decide +kernel
theorem dX10_readLine_122 : decode cX10_readLine 122 = .ok (.aload_n 0, 1) := by decide +kernel
theorem dX10_readLine_123 : decode cX10_readLine 123 = .ok (.iconst 1, 1) := by decide +kernel
theorem dX10_readLine_124 : decode cX10_readLine 124 = .ok (.bipush 99, 2) := by decide +kernel
theorem dX10_readLine_126 : decode cX10_readLine 126 = .ok (.invokevirtual 165, 3) := by decide +kernel
theorem dX10_readLine_129 : decode cX10_readLine 129 = .ok (.istore_n 1, 1) := by decide +kernel
theorem dX10_readLine_130 : decode cX10_readLine 130 = .ok (.aload_n 0, 1) := by decide +kernel
theorem dX10_readLine_131 : decode cX10_readLine 131 = .ok (.getfield 108, 3) := by decide +kernel
theorem dX10_readLine_134 : decode cX10_readLine 134 = .ok (.ifCond .ne 11, 3) := by decide +kernel
theorem dX10_readLine_137 : decode cX10_readLine 137 = .ok (.aload_n 0, 1) := by decide +kernel
theorem dX10_readLine_138 : decode cX10_readLine 138 = .ok (.getfield 24, 3) := by decide +kernel
theorem dX10_readLine_141 : decode cX10_readLine 141 = .ok (.bipush 7, 2) := by decide +kernel
theorem dX10_readLine_143 : decode cX10_readLine 143 = .ok (.iload_n 1, 1) := by decide +kernel
theorem dX10_readLine_144 : decode cX10_readLine 144 = .ok (.iastore, 1) := by decide +kernel
theorem dX10_readLine_145 : decode cX10_readLine 145 = .ok (.goto 8, 3) := by decide +kernel
theorem dX10_readLine_148 : decode cX10_readLine 148 = .ok (.aload_n 0, 1) := by decide +kernel
theorem dX10_readLine_149 : decode cX10_readLine 149 = .ok (.iconst 2, 1) := by decide +kernel
theorem dX10_readLine_150 : decode cX10_readLine 150 = .ok (.invokevirtual 120, 3) := by decide +kernel
theorem dX10_readLine_153 : decode cX10_readLine 153 = .ok (.return_, 1) := by decide +kernel
theorem dX10_ends_0 : decode cX10_ends 0 = .ok (.aload_n 0, 1) := by decide +kernel
theorem dX10_ends_1 : decode cX10_ends 1 = .ok (.bipush 40, 2) := by decide +kernel
theorem dX10_ends_3 : decode cX10_ends 3 = .ok (.invokevirtual 147, 3) := by decide +kernel
theorem dX10_ends_6 : decode cX10_ends 6 = .ok (.ifCond .ne 8, 3) := by decide +kernel
theorem dX10_ends_9 : decode cX10_ends 9 = .ok (.aload_n 0, 1) := by decide +kernel
theorem dX10_ends_10 : decode cX10_ends 10 = .ok (.iconst 2, 1) := by decide +kernel
theorem dX10_ends_11 : decode cX10_ends 11 = .ok (.invokevirtual 120, 3) := by decide +kernel
theorem dX10_ends_14 : decode cX10_ends 14 = .ok (.aload_n 0, 1) := by decide +kernel
theorem dX10_ends_15 : decode cX10_ends 15 = .ok (.getfield 24, 3) := by decide +kernel
theorem dX10_ends_18 : decode cX10_ends 18 = .ok (.iconst 0, 1) := by decide +kernel
theorem dX10_ends_19 : decode cX10_ends 19 = .ok (.dup2, 1) := by decide +kernel
theorem dX10_ends_20 : decode cX10_ends 20 = .ok (.iaload, 1) := by decide +kernel
theorem dX10_ends_21 : decode cX10_ends 21 = .ok (.iconst 1, 1) := by decide +kernel
theorem dX10_ends_22 : decode cX10_ends 22 = .ok (.iadd, 1) := by decide +kernel
theorem dX10_ends_23 : decode cX10_ends 23 = .ok (.iastore, 1) := by decide +kernel
theorem dX10_ends_24 : decode cX10_ends 24 = .ok (.return_, 1) := by decide +kernel
theorem dX10_sea_0 : decode cX10_sea 0 = .ok (.aload_n 0, 1) := by decide +kernel
theorem dX10_sea_1 : decode cX10_sea 1 = .ok (.iconst 0, 1) := by decide +kernel
theorem dX10_sea_2 : decode cX10_sea 2 = .ok (.putfield 1, 3) := by decide +kernel
theorem dX10_sea_5 : decode cX10_sea 5 = .ok (.iload_n 1, 1) := by decide +kernel
theorem dX10_sea_6 : decode cX10_sea 6 = .ok (.i2l, 1) := by decide +kernel
theorem dX10_sea_7 : decode cX10_sea 7 = .ok (.lconst 0, 1) := by decide +kernel
theorem dX10_sea_8 : decode cX10_sea 8 = .ok (.aload_n 0, 1) := by decide +kernel
theorem dX10_sea_9 : decode cX10_sea 9 = .ok (.getfield 62, 3) := by decide +kernel
theorem dX10_sea_12 : decode cX10_sea 12 = .ok (.i2l, 1) := by decide +kernel
theorem dX10_sea_13 : decode cX10_sea 13 = .ok (.invokestatic 124, 3) := by decide +kernel
theorem dX10_sea_16 : decode cX10_sea 16 = .ok (.ifCond .ne 6, 3) := by decide +kernel
theorem dX10_sea_19 : decode cX10_sea 19 = .ok (.bipush (-3), 2) := by decide +kernel
theorem dX10_sea_21 : decode cX10_sea 21 = .ok (.ireturn, 1) := by decide +kernel
theorem dX10_sea_22 : decode cX10_sea 22 = .ok (.aload_n 0, 1) := by decide +kernel
theorem dX10_sea_23 : decode cX10_sea 23 = .ok (.iload_n 1, 1) := by decide +kernel
theorem dX10_sea_24 : decode cX10_sea 24 = .ok (.putfield 65, 3) := by decide +kernel
theorem dX10_sea_27 : decode cX10_sea 27 = .ok (.aload_n 0, 1) := by decide +kernel
theorem dX10_sea_28 : decode cX10_sea 28 = .ok (.iconst 0, 1) := by decide +kernel
theorem dX10_sea_29 : decode cX10_sea 29 = .ok (.putfield 62, 3) := by decide +kernel
theorem dX10_sea_32 : decode cX10_sea 32 = .ok (.aload_n 0, 1) := by decide +kernel
theorem dX10_sea_33 : decode cX10_sea 33 = .ok (.iconst 0, 1) := by decide +kernel
theorem dX10_sea_34 : decode cX10_sea 34 = .ok (.putfield 83, 3) := by decide +kernel
theorem dX10_sea_37 : decode cX10_sea 37 = .ok (.aload_n 0, 1) := by decide +kernel
theorem dX10_sea_38 : decode cX10_sea 38 = .ok (.iconst 0, 1) := by decide +kernel
theorem dX10_sea_39 : decode cX10_sea 39 = .ok (.putfield 108, 3) := by decide +kernel
theorem dX10_sea_42 : decode cX10_sea 42 = .ok (.aload_n 0, 1) := by decide +kernel
theorem dX10_sea_43 : decode cX10_sea 43 = .ok (.getfield 24, 3) := by decide +kernel
theorem dX10_sea_46 : decode cX10_sea 46 = .ok (.invokestatic 58, 3) := by decide +kernel
theorem dX10_sea_49 : decode cX10_sea 49 = .ok (.aload_n 0, 1) := by decide +kernel
theorem dX10_sea_50 : decode cX10_sea 50 = .ok (.invokevirtual 117, 3) := by decide +kernel
theorem dX10_sea_53 : decode cX10_sea 53 = .ok (.aload_n 0, 1) := by decide +kernel
theorem dX10_sea_54 : decode cX10_sea 54 = .ok (.iconst 0, 1) := by decide +kernel
theorem dX10_sea_55 : decode cX10_sea 55 = .ok (.invokevirtual 147, 3) := by decide +kernel
theorem dX10_sea_58 : decode cX10_sea 58 = .ok (.ifCond .ne 8, 3) := by decide +kernel
theorem dX10_sea_61 : decode cX10_sea 61 = .ok (.aload_n 0, 1) := by decide +kernel
theorem dX10_sea_62 : decode cX10_sea 62 = .ok (.iconst 2, 1) := by decide +kernel
theorem dX10_sea_63 : decode cX10_sea 63 = .ok (.invokevirtual 120, 3) := by decide +kernel
theorem dX10_sea_66 : decode cX10_sea 66 = .ok (.aload_n 0, 1) := by decide +kernel
theorem dX10_sea_67 : decode cX10_sea 67 = .ok (.getfield 24, 3) := by decide +kernel
theorem dX10_sea_70 : decode cX10_sea 70 = .ok (.iconst 1, 1) := by decide +kernel
theorem dX10_sea_71 : decode cX10_sea 71 = .ok (.aload_n 0, 1) := by decide +kernel
theorem dX10_sea_72 : decode cX10_sea 72 = .ok (.iconst 2, 1) := by decide +kernel
theorem dX10_sea_73 : decode cX10_sea 73 = .ok (.bipush 6, 2) := by decide +kernel
theorem dX10_sea_75 : decode cX10_sea 75 = .ok (.invokevirtual 165, 3) := by decide +kernel
theorem dX10_sea_78 : decode cX10_sea 78 = .ok (.iastore, 1) := by decide +kernel
theorem dX10_sea_79 : decode cX10_sea 79 = .ok (.aload_n 0, 1) := by decide +kernel
theorem dX10_sea_80 : decode cX10_sea 80 = .ok (.getfield 24, 3) := by decide +kernel
theorem dX10_sea_83 : decode cX10_sea 83 = .ok (.iconst 2, 1) := by decide +kernel
theorem dX10_sea_84 : decode cX10_sea 84 = .ok (.aload_n 0, 1) := by decide +kernel
theorem dX10_sea_85 : decode cX10_sea 85 = .ok (.iconst 2, 1) := by decide +kernel
theorem dX10_sea_86 : decode cX10_sea 86 = .ok (.bipush 6, 2) := by decide +kernel
theorem dX10_sea_88 : decode cX10_sea 88 = .ok (.invokevirtual 165, 3) := by decide +kernel
theorem dX10_sea_91 : decode cX10_sea 91 = .ok (.iastore, 1) := by decide +kernel
theorem dX10_sea_92 : decode cX10_sea 92 = .ok (.aload_n 0, 1) := by decide +kernel
theorem dX10_sea_93 : decode cX10_sea 93 = .ok (.iconst 1, 1) := by decide +kernel
theorem dX10_sea_94 : decode cX10_sea 94 = .ok (.invokevirtual 147, 3) := by decide +kernel
theorem dX10_sea_97 : decode cX10_sea 97 = .ok (.ifCond .ne 8, 3) := by decide +kernel
theorem dX10_sea_100 : decode cX10_sea 100 = .ok (.aload_n 0, 1) := by decide +kernel
theorem dX10_sea_101 : decode cX10_sea 101 = .ok (.iconst 2, 1) := by decide +kernel
theorem dX10_sea_102 : decode cX10_sea 102 = .ok (.invokevirtual 120, 3) := by decide +kernel
theorem dX10_sea_105 : decode cX10_sea 105 = .ok (.aload_n 0, 1) := by decide +kernel
theorem dX10_sea_106 : decode cX10_sea 106 = .ok (.getfield 24, 3) := by decide +kernel
theorem dX10_sea_109 : decode cX10_sea 109 = .ok (.iconst 3, 1) := by decide +kernel
theorem dX10_sea_110 : decode cX10_sea 110 = .ok (.aload_n 0, 1) := by decide +kernel
theorem dX10_sea_111 : decode cX10_sea 111 = .ok (.iconst 1, 1) := by decide +kernel
theorem dX10_sea_112 : decode cX10_sea 112 = .ok (.bipush 6, 2) := by decide +kernel
theorem dX10_sea_114 : decode cX10_sea 114 = .ok (.invokevirtual 165, 3) := by decide +kernel
theorem dX10_sea_117 : decode cX10_sea 117 = .ok (.iastore, 1) := by decide +kernel
theorem dX10_sea_118 : decode cX10_sea 118 = .ok (.aload_n 0, 1) := by decide +kernel
theorem dX10_sea_119 : decode cX10_sea 119 = .ok (.invokevirtual 189, 3) := by decide +kernel
theorem dX10_sea_122 : decode cX10_sea 122 = .ok (.aload_n 0, 1) := by decide +kernel
theorem dX10_sea_123 : decode cX10_sea 123 = .ok (.getfield 108, 3) := by decide +kernel
theorem dX10_sea_126 : decode cX10_sea 126 = .ok (.ifCond .ne 23, 3) := by decide +kernel
theorem dX10_sea_129 : decode cX10_sea 129 = .ok (.aload_n 0, 1) := by decide +kernel
theorem dX10_sea_130 : decode cX10_sea 130 = .ok (.getfield 90, 3) := by decide +kernel
theorem dX10_sea_133 : decode cX10_sea 133 = .ok (.bipush 32, 2) := by decide +kernel
theorem dX10_sea_135 : decode cX10_sea 135 = .ok (.if_icmp .eq 14, 3) := by decide +kernel
theorem dX10_sea_138 : decode cX10_sea 138 = .ok (.aload_n 0, 1) := by decide +kernel
theorem dX10_sea_139 : decode cX10_sea 139 = .ok (.invokevirtual 192, 3) := by decide +kernel
theorem dX10_sea_142 : decode cX10_sea 142 = .ok (.aload_n 0, 1) := by decide +kernel
theorem dX10_sea_143 : decode cX10_sea 143 = .ok (.invokevirtual 189, 3) := by decide +kernel
theorem dX10_sea_146 : decode cX10_sea 146 = .ok (.goto (-24), 3) := by decide +kernel
theorem dX10_sea_149 : decode cX10_sea 149 = .ok (.aload_n 0, 1) := by decide +kernel
theorem dX10_sea_150 : decode cX10_sea 150 = .ok (.aload_n 0, 1) := by decide +kernel
theorem dX10_sea_151 : decode cX10_sea 151 = .ok (.getfield 108, 3) := by decide +kernel
theorem dX10_sea_154 : decode cX10_sea 154 = .ok (.putfield 195, 3) := by decide +kernel
theorem dX10_sea_157 : decode cX10_sea 157 = .ok (.aload_n 0, 1) := by decide +kernel
theorem dX10_sea_158 : decode cX10_sea 158 = .ok (.aload_n 0, 1) := by decide +kernel
theorem dX10_sea_159 : decode cX10_sea 159 = .ok (.getfield 108, 3) := by decide +kernel
theorem dX10_sea_162 : decode cX10_sea 162 = .ok (.ifCond .ne 7, 3) := by decide +kernel
theorem dX10_sea_165 : decode cX10_sea 165 = .ok (.iconst (-1), 1) := by decide +kernel
theorem dX10_sea_166 : decode cX10_sea 166 = .ok (.goto 7, 3) := by decide +kernel
theorem dX10_sea_169 : decode cX10_sea 169 = .ok (.aload_n 0, 1) := by decide +kernel
theorem dX10_sea_170 : decode cX10_sea 170 = .ok (.getfield 111, 3) := by decide +kernel
theorem dX10_sea_173 : decode cX10_sea 173 = .ok (.putfield 27, 3) := by decide +kernel
theorem dX10_sea_176 : decode cX10_sea 176 = .ok (.aload_n 0, 1) := by decide +kernel
theorem dX10_sea_177 : decode cX10_sea 177 = .ok (.getfield 108, 3) := by decide +kernel
theorem dX10_sea_180 : decode cX10_sea 180 = .ok (.ifCond .eq 11, 3) := by decide +kernel
theorem dX10_sea_183 : decode cX10_sea 183 = .ok (.bipush (-30), 2) := by decide +kernel
theorem dX10_sea_185 : decode cX10_sea 185 = .ok (.aload_n 0, 1) := by decide +kernel
theorem dX10_sea_186 : decode cX10_sea 186 = .ok (.getfield 108, 3) := by decide +kernel
theorem dX10_sea_189 : decode cX10_sea 189 = .ok (.isub, 1) := by decide +kernel
theorem dX10_sea_190 : decode cX10_sea 190 = .ok (.ireturn, 1) := by decide +kernel
theorem dX10_sea_191 : decode cX10_sea 191 = .ok (.iconst 0, 1) := by decide +kernel
theorem dX10_sea_192 : decode cX10_sea 192 = .ok (.istore_n 2, 1) := by decide +kernel
theorem dX10_sea_193 : decode cX10_sea 193 = .ok (.iload_n 2, 1) := by decide +kernel
theorem dX10_sea_194 : decode cX10_sea 194 = .ok (.sipush 1912, 3) := by decide +kernel
theorem dX10_sea_197 : decode cX10_sea 197 = .ok (.if_icmp .ge 21, 3) := by decide +kernel
theorem dX10_sea_200 : decode cX10_sea 200 = .ok (.aload_n 0, 1) := by decide +kernel
theorem dX10_sea_201 : decode cX10_sea 201 = .ok (.getfield 13, 3) := by decide +kernel
theorem dX10_sea_204 : decode cX10_sea 204 = .ok (.iload_n 2, 1) := by decide +kernel
theorem dX10_sea_205 : decode cX10_sea 205 = .ok (.aload_n 0, 1) := by decide +kernel
theorem dX10_sea_206 : decode cX10_sea 206 = .ok (.getfield 24, 3) := by decide +kernel
theorem dX10_sea_209 : decode cX10_sea 209 = .ok (.iload_n 2, 1) := by decide +kernel
theorem dX10_sea_210 : decode cX10_sea 210 = .ok (.iaload, 1) := by decide +kernel
theorem dX10_sea_211 : decode cX10_sea 211 = .ok (.iastore, 1) := by decide +kernel
theorem dX10_sea_212 : decode cX10_sea 212 = .ok (.iinc 2 1, 3) := by decide +kernel
theorem dX10_sea_215 : decode cX10_sea 215 = .ok (.goto (-22), 3) := by decide +kernel
theorem dX10_sea_218 : decode cX10_sea 218 = .ok (.aload_n 0, 1) := by decide +kernel
theorem dX10_sea_219 : decode cX10_sea 219 = .ok (.getfield 13, 3) := by decide +kernel
theorem dX10_sea_222 : decode cX10_sea 222 = .ok (.iconst 0, 1) := by decide +kernel
theorem dX10_sea_223 : decode cX10_sea 223 = .ok (.iaload, 1) := by decide +kernel
theorem dX10_sea_224 : decode cX10_sea 224 = .ok (.ireturn, 1) := by decide +kernel
theorem dX10_fault_0 : decode cX10_fault 0 = .ok (.aload_n 0, 1) := by decide +kernel
theorem dX10_fault_1 : decode cX10_fault 1 = .ok (.iconst 0, 1) := by decide +kernel
theorem dX10_fault_2 : decode cX10_fault 2 = .ok (.putfield 1, 3) := by decide +kernel
theorem dX10_fault_5 : decode cX10_fault 5 = .ok (.iload_n 1, 1) := by decide +kernel
theorem dX10_fault_6 : decode cX10_fault 6 = .ok (.ifCond .ne 10, 3) := by decide +kernel
theorem dX10_fault_9 : decode cX10_fault 9 = .ok (.aload_n 0, 1) := by decide +kernel
theorem dX10_fault_10 : decode cX10_fault 10 = .ok (.getfield 195, 3) := by decide +kernel
theorem dX10_fault_13 : decode cX10_fault 13 = .ok (.goto 16, 3) := by decide +kernel
theorem dX10_fault_16 : decode cX10_fault 16 = .ok (.iload_n 1, 1) := by decide +kernel
theorem dX10_fault_17 : decode cX10_fault 17 = .ok (.iconst 1, 1) := by decide +kernel
theorem dX10_fault_18 : decode cX10_fault 18 = .ok (.if_icmp .ne 10, 3) := by decide +kernel
theorem dX10_fault_21 : decode cX10_fault 21 = .ok (.aload_n 0, 1) := by decide +kernel
theorem dX10_fault_22 : decode cX10_fault 22 = .ok (.getfield 27, 3) := by decide +kernel
theorem dX10_fault_25 : decode cX10_fault 25 = .ok (.goto 4, 3) := by decide +kernel
theorem dX10_fault_28 : decode cX10_fault 28 = .ok (.iconst (-1), 1) := by decide +kernel
theorem dX10_fault_29 : decode cX10_fault 29 = .ok (.ireturn, 1) := by decide +kernel
theorem dX10_cells_0 : decode cX10_cells 0 = .ok (.aload_n 0, 1) := by decide +kernel
theorem dX10_cells_1 : decode cX10_cells 1 = .ok (.getfield 13, 3) := by decide +kernel
theorem dX10_cells_4 : decode cX10_cells 4 = .ok (.iconst 1, 1) := by decide +kernel
theorem dX10_cells_5 : decode cX10_cells 5 = .ok (.iaload, 1) := by decide +kernel
theorem dX10_cells_6 : decode cX10_cells 6 = .ok (.aload_n 0, 1) := by decide +kernel
theorem dX10_cells_7 : decode cX10_cells 7 = .ok (.getfield 13, 3) := by decide +kernel
theorem dX10_cells_10 : decode cX10_cells 10 = .ok (.iconst 2, 1) := by decide +kernel
theorem dX10_cells_11 : decode cX10_cells 11 = .ok (.iaload, 1) := by decide +kernel
theorem dX10_cells_12 : decode cX10_cells 12 = .ok (.imul, 1) := by decide +kernel
theorem dX10_cells_13 : decode cX10_cells 13 = .ok (.ireturn, 1) := by decide +kernel
theorem dX10_isCell_0 : decode cX10_isCell 0 = .ok (.lload_n 1, 1) := by decide +kernel
theorem dX10_isCell_1 : decode cX10_isCell 1 = .ok (.lconst 0, 1) := by decide +kernel
theorem dX10_isCell_2 : decode cX10_isCell 2 = .ok (.aload_n 0, 1) := by decide +kernel
theorem dX10_isCell_3 : decode cX10_isCell 3 = .ok (.invokevirtual 198, 3) := by decide +kernel
theorem dX10_isCell_6 : decode cX10_isCell 6 = .ok (.iconst 1, 1) := by decide +kernel
theorem dX10_isCell_7 : decode cX10_isCell 7 = .ok (.isub, 1) := by decide +kernel
theorem dX10_isCell_8 : decode cX10_isCell 8 = .ok (.i2l, 1) := by decide +kernel
theorem dX10_isCell_9 : decode cX10_isCell 9 = .ok (.invokestatic 124, 3) := by decide +kernel
theorem dX10_isCell_12 : decode cX10_isCell 12 = .ok (.ireturn, 1) := by decide +kernel
theorem dX10_isOpen_0 : decode cX10_isOpen 0 = .ok (.iload_n 1, 1) := by decide +kernel
theorem dX10_isOpen_1 : decode cX10_isOpen 1 = .ok (.iconst (-1), 1) := by decide +kernel
theorem dX10_isOpen_2 : decode cX10_isOpen 2 = .ok (.if_icmp .eq 19, 3) := by decide +kernel
theorem dX10_isOpen_5 : decode cX10_isOpen 5 = .ok (.aload_n 0, 1) := by decide +kernel
theorem dX10_isOpen_6 : decode cX10_isOpen 6 = .ok (.getfield 13, 3) := by decide +kernel
theorem dX10_isOpen_9 : decode cX10_isOpen 9 = .ok (.bipush 14, 2) := by decide +kernel
theorem dX10_isOpen_11 : decode cX10_isOpen 11 = .ok (.iload_n 1, 1) := by decide +kernel
theorem dX10_isOpen_12 : decode cX10_isOpen 12 = .ok (.iadd, 1) := by decide +kernel
theorem dX10_isOpen_13 : decode cX10_isOpen 13 = .ok (.iaload, 1) := by decide +kernel
theorem dX10_isOpen_14 : decode cX10_isOpen 14 = .ok (.ifCond .ne 7, 3) := by decide +kernel
theorem dX10_isOpen_17 : decode cX10_isOpen 17 = .ok (.iconst 1, 1) := by decide +kernel
theorem dX10_isOpen_18 : decode cX10_isOpen 18 = .ok (.goto 4, 3) := by decide +kernel
theorem dX10_isOpen_21 : decode cX10_isOpen 21 = .ok (.iconst 0, 1) := by decide +kernel
theorem dX10_isOpen_22 : decode cX10_isOpen 22 = .ok (.ireturn, 1) := by decide +kernel
theorem dX10_isShore_0 : decode cX10_isShore 0 = .ok (.lload_n 1, 1) := by decide +kernel
theorem dX10_isShore_1 : decode cX10_isShore 1 = .ok (.lconst 0, 1) := by decide +kernel
theorem dX10_isShore_2 : decode cX10_isShore 2 = .ok (.aload_n 0, 1) := by decide +kernel
theorem dX10_isShore_3 : decode cX10_isShore 3 = .ok (.getfield 13, 3) := by decide +kernel
theorem dX10_isShore_6 : decode cX10_isShore 6 = .ok (.iconst 4, 1) := by decide +kernel
theorem dX10_isShore_7 : decode cX10_isShore 7 = .ok (.iaload, 1) := by decide +kernel
theorem dX10_isShore_8 : decode cX10_isShore 8 = .ok (.iconst 1, 1) := by decide +kernel
theorem dX10_isShore_9 : decode cX10_isShore 9 = .ok (.isub, 1) := by decide +kernel
theorem dX10_isShore_10 : decode cX10_isShore 10 = .ok (.i2l, 1) := by decide +kernel
theorem dX10_isShore_11 : decode cX10_isShore 11 = .ok (.invokestatic 124, 3) := by decide +kernel
theorem dX10_isShore_14 : decode cX10_isShore 14 = .ok (.ireturn, 1) := by decide +kernel
theorem dX10_isBottle_0 : decode cX10_isBottle 0 = .ok (.lload_n 1, 1) := by decide +kernel
theorem dX10_isBottle_1 : decode cX10_isBottle 1 = .ok (.lconst 0, 1) := by decide +kernel
theorem dX10_isBottle_2 : decode cX10_isBottle 2 = .ok (.aload_n 0, 1) := by decide +kernel
theorem dX10_isBottle_3 : decode cX10_isBottle 3 = .ok (.getfield 13, 3) := by decide +kernel
theorem dX10_isBottle_6 : decode cX10_isBottle 6 = .ok (.sipush 348, 3) := by decide +kernel
theorem dX10_isBottle_9 : decode cX10_isBottle 9 = .ok (.iaload, 1) := by decide +kernel
theorem dX10_isBottle_10 : decode cX10_isBottle 10 = .ok (.iconst 1, 1) := by decide +kernel
theorem dX10_isBottle_11 : decode cX10_isBottle 11 = .ok (.isub, 1) := by decide +kernel
theorem dX10_isBottle_12 : decode cX10_isBottle 12 = .ok (.i2l, 1) := by decide +kernel
theorem dX10_isBottle_13 : decode cX10_isBottle 13 = .ok (.invokestatic 124, 3) := by decide +kernel
theorem dX10_isBottle_16 : decode cX10_isBottle 16 = .ok (.ireturn, 1) := by decide +kernel
theorem dX10_beyond_0 : decode cX10_beyond 0 = .ok (.iload_n 1, 1) := by decide +kernel
theorem dX10_beyond_1 : decode cX10_beyond 1 = .ok (.aload_n 0, 1) := by decide +kernel
theorem dX10_beyond_2 : decode cX10_beyond 2 = .ok (.getfield 13, 3) := by decide +kernel
theorem dX10_beyond_5 : decode cX10_beyond 5 = .ok (.iconst 1, 1) := by decide +kernel
theorem dX10_beyond_6 : decode cX10_beyond 6 = .ok (.iaload, 1) := by decide +kernel
theorem dX10_beyond_7 : decode cX10_beyond 7 = .ok (.irem, 1) := by decide +kernel
theorem dX10_beyond_8 : decode cX10_beyond 8 = .ok (.iload_n 2, 1) := by decide +kernel
theorem dX10_beyond_9 : decode cX10_beyond 9 = .ok (.iconst 2, 1) := by decide +kernel
theorem dX10_beyond_10 : decode cX10_beyond 10 = .ok (.if_icmp .ne 7, 3) := by decide +kernel
theorem dX10_beyond_13 : decode cX10_beyond 13 = .ok (.iconst 1, 1) := by decide +kernel
theorem dX10_beyond_14 : decode cX10_beyond 14 = .ok (.goto 13, 3) := by decide +kernel
theorem dX10_beyond_17 : decode cX10_beyond 17 = .ok (.iload_n 2, 1) := by decide +kernel
theorem dX10_beyond_18 : decode cX10_beyond 18 = .ok (.iconst 4, 1) := by decide +kernel
theorem dX10_beyond_19 : decode cX10_beyond 19 = .ok (.if_icmp .ne 7, 3) := by decide +kernel
theorem dX10_beyond_22 : decode cX10_beyond 22 = .ok (.iconst (-1), 1) := by decide +kernel
theorem dX10_beyond_23 : decode cX10_beyond 23 = .ok (.goto 4, 3) := by decide +kernel
theorem dX10_beyond_26 : decode cX10_beyond 26 = .ok (.iconst 0, 1) := by decide +kernel
theorem dX10_beyond_27 : decode cX10_beyond 27 = .ok (.iadd, 1) := by decide +kernel
theorem dX10_beyond_28 : decode cX10_beyond 28 = .ok (.istore_n 3, 1) := by decide +kernel
theorem dX10_beyond_29 : decode cX10_beyond 29 = .ok (.iload_n 1, 1) := by decide +kernel
theorem dX10_beyond_30 : decode cX10_beyond 30 = .ok (.aload_n 0, 1) := by decide +kernel
theorem dX10_beyond_31 : decode cX10_beyond 31 = .ok (.getfield 13, 3) := by decide +kernel
theorem dX10_beyond_34 : decode cX10_beyond 34 = .ok (.iconst 1, 1) := by decide +kernel
theorem dX10_beyond_35 : decode cX10_beyond 35 = .ok (.iaload, 1) := by decide +kernel
theorem dX10_beyond_36 : decode cX10_beyond 36 = .ok (.idiv, 1) := by decide +kernel
theorem dX10_beyond_37 : decode cX10_beyond 37 = .ok (.iload_n 2, 1) := by decide +kernel
theorem dX10_beyond_38 : decode cX10_beyond 38 = .ok (.iconst 3, 1) := by decide +kernel
theorem dX10_beyond_39 : decode cX10_beyond 39 = .ok (.if_icmp .ne 7, 3) := by decide +kernel
theorem dX10_beyond_42 : decode cX10_beyond 42 = .ok (.iconst 1, 1) := by decide +kernel
theorem dX10_beyond_43 : decode cX10_beyond 43 = .ok (.goto 13, 3) := by decide +kernel
theorem dX10_beyond_46 : decode cX10_beyond 46 = .ok (.iload_n 2, 1) := by decide +kernel
theorem dX10_beyond_47 : decode cX10_beyond 47 = .ok (.iconst 1, 1) := by decide +kernel
theorem dX10_beyond_48 : decode cX10_beyond 48 = .ok (.if_icmp .ne 7, 3) := by decide +kernel
theorem dX10_beyond_51 : decode cX10_beyond 51 = .ok (.iconst (-1), 1) := by decide +kernel
theorem dX10_beyond_52 : decode cX10_beyond 52 = .ok (.goto 4, 3) := by decide +kernel
theorem dX10_beyond_55 : decode cX10_beyond 55 = .ok (.iconst 0, 1) := by decide +kernel
theorem dX10_beyond_56 : decode cX10_beyond 56 = .ok (.iadd, 1) := by decide +kernel
theorem dX10_beyond_57 : decode cX10_beyond 57 = .ok (.istore 4, 2) := by decide +kernel
theorem dX10_beyond_59 : decode cX10_beyond 59 = .ok (.iload_n 3, 1) := by decide +kernel
theorem dX10_beyond_60 : decode cX10_beyond 60 = .ok (.i2l, 1) := by decide +kernel
theorem dX10_beyond_61 : decode cX10_beyond 61 = .ok (.lconst 0, 1) := by decide +kernel
theorem dX10_beyond_62 : decode cX10_beyond 62 = .ok (.aload_n 0, 1) := by decide +kernel
theorem dX10_beyond_63 : decode cX10_beyond 63 = .ok (.getfield 13, 3) := by decide +kernel
theorem dX10_beyond_66 : decode cX10_beyond 66 = .ok (.iconst 1, 1) := by decide +kernel
theorem dX10_beyond_67 : decode cX10_beyond 67 = .ok (.iaload, 1) := by decide +kernel
theorem dX10_beyond_68 : decode cX10_beyond 68 = .ok (.iconst 1, 1) := by decide +kernel
theorem dX10_beyond_69 : decode cX10_beyond 69 = .ok (.isub, 1) := by decide +kernel
theorem dX10_beyond_70 : decode cX10_beyond 70 = .ok (.i2l, 1) := by decide +kernel
theorem dX10_beyond_71 : decode cX10_beyond 71 = .ok (.invokestatic 124, 3) := by decide +kernel
theorem dX10_beyond_74 : decode cX10_beyond 74 = .ok (.ifCond .eq 36, 3) := by decide +kernel
theorem dX10_beyond_77 : decode cX10_beyond 77 = .ok (.iload 4, 2) := by decide +kernel
theorem dX10_beyond_79 : decode cX10_beyond 79 = .ok (.i2l, 1) := by decide +kernel
theorem dX10_beyond_80 : decode cX10_beyond 80 = .ok (.lconst 0, 1) := by decide +kernel
theorem dX10_beyond_81 : decode cX10_beyond 81 = .ok (.aload_n 0, 1) := by decide +kernel
theorem dX10_beyond_82 : decode cX10_beyond 82 = .ok (.getfield 13, 3) := by decide +kernel
theorem dX10_beyond_85 : decode cX10_beyond 85 = .ok (.iconst 2, 1) := by decide +kernel
theorem dX10_beyond_86 : decode cX10_beyond 86 = .ok (.iaload, 1) := by decide +kernel
theorem dX10_beyond_87 : decode cX10_beyond 87 = .ok (.iconst 1, 1) := by decide +kernel
theorem dX10_beyond_88 : decode cX10_beyond 88 = .ok (.isub, 1) := by decide +kernel
theorem dX10_beyond_89 : decode cX10_beyond 89 = .ok (.i2l, 1) := by decide +kernel
theorem dX10_beyond_90 : decode cX10_beyond 90 = .ok (.invokestatic 124, 3) := by decide +kernel
theorem dX10_beyond_93 : decode cX10_beyond 93 = .ok (.ifCond .eq 17, 3) := by decide +kernel
theorem dX10_beyond_96 : decode cX10_beyond 96 = .ok (.aload_n 0, 1) := by decide +kernel
theorem dX10_beyond_97 : decode cX10_beyond 97 = .ok (.getfield 13, 3) := by decide +kernel
theorem dX10_beyond_100 : decode cX10_beyond 100 = .ok (.iconst 1, 1) := by decide +kernel
theorem dX10_beyond_101 : decode cX10_beyond 101 = .ok (.iaload, 1) := by decide +kernel
theorem dX10_beyond_102 : decode cX10_beyond 102 = .ok (.iload 4, 2) := by decide +kernel
theorem dX10_beyond_104 : decode cX10_beyond 104 = .ok (.imul, 1) := by decide +kernel
theorem dX10_beyond_105 : decode cX10_beyond 105 = .ok (.iload_n 3, 1) := by decide +kernel
theorem dX10_beyond_106 : decode cX10_beyond 106 = .ok (.iadd, 1) := by decide +kernel
theorem dX10_beyond_107 : decode cX10_beyond 107 = .ok (.goto 4, 3) := by decide +kernel
theorem dX10_beyond_110 : decode cX10_beyond 110 = .ok (.iconst (-1), 1) := by decide +kernel
theorem dX10_beyond_111 : decode cX10_beyond 111 = .ok (.ireturn, 1) := by decide +kernel
theorem dX10_throwsTo_0 : decode cX10_throwsTo 0 = .ok (.aload_n 0, 1) := by decide +kernel
theorem dX10_throwsTo_1 : decode cX10_throwsTo 1 = .ok (.aload_n 0, 1) := by decide +kernel
theorem dX10_throwsTo_2 : decode cX10_throwsTo 2 = .ok (.getfield 13, 3) := by decide +kernel
theorem dX10_throwsTo_5 : decode cX10_throwsTo 5 = .ok (.sipush 266, 3) := by decide +kernel
theorem dX10_throwsTo_8 : decode cX10_throwsTo 8 = .ok (.iload_n 1, 1) := by decide +kernel
theorem dX10_throwsTo_9 : decode cX10_throwsTo 9 = .ok (.iadd, 1) := by decide +kernel
theorem dX10_throwsTo_10 : decode cX10_throwsTo 10 = .ok (.iaload, 1) := by decide +kernel
theorem dX10_throwsTo_11 : decode cX10_throwsTo 11 = .ok (.aload_n 0, 1) := by decide +kernel
theorem dX10_throwsTo_12 : decode cX10_throwsTo 12 = .ok (.getfield 13, 3) := by decide +kernel
theorem dX10_throwsTo_15 : decode cX10_throwsTo 15 = .ok (.sipush 272, 3) := by decide +kernel
theorem dX10_throwsTo_18 : decode cX10_throwsTo 18 = .ok (.iload_n 1, 1) := by decide +kernel
theorem dX10_throwsTo_19 : decode cX10_throwsTo 19 = .ok (.iadd, 1) := by decide +kernel
theorem dX10_throwsTo_20 : decode cX10_throwsTo 20 = .ok (.iaload, 1) := by decide +kernel
theorem dX10_throwsTo_21 : decode cX10_throwsTo 21 = .ok (.invokevirtual 201, 3) := by decide +kernel
theorem dX10_throwsTo_24 : decode cX10_throwsTo 24 = .ok (.istore_n 2, 1) := by decide +kernel
theorem dX10_throwsTo_25 : decode cX10_throwsTo 25 = .ok (.aload_n 0, 1) := by decide +kernel
theorem dX10_throwsTo_26 : decode cX10_throwsTo 26 = .ok (.iload_n 2, 1) := by decide +kernel
theorem dX10_throwsTo_27 : decode cX10_throwsTo 27 = .ok (.invokevirtual 204, 3) := by decide +kernel
theorem dX10_throwsTo_30 : decode cX10_throwsTo 30 = .ok (.ifCond .eq 7, 3) := by decide +kernel
theorem dX10_throwsTo_33 : decode cX10_throwsTo 33 = .ok (.iload_n 2, 1) := by decide +kernel
theorem dX10_throwsTo_34 : decode cX10_throwsTo 34 = .ok (.goto 4, 3) := by decide +kernel
theorem dX10_throwsTo_37 : decode cX10_throwsTo 37 = .ok (.iconst (-1), 1) := by decide +kernel
theorem dX10_throwsTo_38 : decode cX10_throwsTo 38 = .ok (.ireturn, 1) := by decide +kernel
theorem dX10_phaseOf_0 : decode cX10_phaseOf 0 = .ok (.iload_n 1, 1) := by decide +kernel
theorem dX10_phaseOf_1 : decode cX10_phaseOf 1 = .ok (.aload_n 0, 1) := by decide +kernel
theorem dX10_phaseOf_2 : decode cX10_phaseOf 2 = .ok (.getfield 13, 3) := by decide +kernel
theorem dX10_phaseOf_5 : decode cX10_phaseOf 5 = .ok (.iconst 3, 1) := by decide +kernel
theorem dX10_phaseOf_6 : decode cX10_phaseOf 6 = .ok (.iaload, 1) := by decide +kernel
theorem dX10_phaseOf_7 : decode cX10_phaseOf 7 = .ok (.irem, 1) := by decide +kernel
theorem dX10_phaseOf_8 : decode cX10_phaseOf 8 = .ok (.ireturn, 1) := by decide +kernel
theorem dX10_moonOf_0 : decode cX10_moonOf 0 = .ok (.aload_n 0, 1) := by decide +kernel
theorem dX10_moonOf_1 : decode cX10_moonOf 1 = .ok (.getfield 13, 3) := by decide +kernel
theorem dX10_moonOf_4 : decode cX10_moonOf 4 = .ok (.iconst 5, 1) := by decide +kernel
theorem dX10_moonOf_5 : decode cX10_moonOf 5 = .ok (.iaload, 1) := by decide +kernel
theorem dX10_moonOf_6 : decode cX10_moonOf 6 = .ok (.ifCond .ne 7, 3) := by decide +kernel
theorem dX10_moonOf_9 : decode cX10_moonOf 9 = .ok (.iconst 0, 1) := by decide +kernel
theorem dX10_moonOf_10 : decode cX10_moonOf 10 = .ok (.goto 11, 3) := by decide +kernel
theorem dX10_moonOf_13 : decode cX10_moonOf 13 = .ok (.iload_n 1, 1) := by decide +kernel
theorem dX10_moonOf_14 : decode cX10_moonOf 14 = .ok (.aload_n 0, 1) := by decide +kernel
theorem dX10_moonOf_15 : decode cX10_moonOf 15 = .ok (.getfield 13, 3) := by decide +kernel
theorem dX10_moonOf_18 : decode cX10_moonOf 18 = .ok (.iconst 5, 1) := by decide +kernel
theorem dX10_moonOf_19 : decode cX10_moonOf 19 = .ok (.iaload, 1) := by decide +kernel
theorem dX10_moonOf_20 : decode cX10_moonOf 20 = .ok (.irem, 1) := by decide +kernel
theorem dX10_moonOf_21 : decode cX10_moonOf 21 = .ok (.ireturn, 1) := by decide +kernel
theorem dX10_between_0 : decode cX10_between 0 = .ok (.iload_n 0, 1) := by decide +kernel
theorem dX10_between_1 : decode cX10_between 1 = .ok (.sipush 3002, 3) := by decide +kernel
theorem dX10_between_4 : decode cX10_between 4 = .ok (.if_icmp .gt 70, 3) := by decide +kernel
theorem dX10_between_7 : decode cX10_between 7 = .ok (.iload_n 0, 1) := by decide +kernel
theorem dX10_between_8 : decode cX10_between 8 = .ok (.sipush 3000, 3) := by decide +kernel
theorem dX10_between_11 : decode cX10_between 11 = .ok (.if_icmp .ne 11, 3) := by decide +kernel
theorem dX10_between_14 : decode cX10_between 14 = .ok (.iload_n 1, 1) := by decide +kernel
theorem dX10_between_15 : decode cX10_between 15 = .ok (.i2l, 1) := by decide +kernel
theorem dX10_between_16 : decode cX10_between 16 = .ok (.iload_n 2, 1) := by decide +kernel
theorem dX10_between_17 : decode cX10_between 17 = .ok (.i2l, 1) := by decide +kernel
theorem dX10_between_18 : decode cX10_between 18 = .ok (.ladd, 1) := by decide +kernel
theorem dX10_between_19 : decode cX10_between 19 = .ok (.goto 23, 3) := by decide +kernel
theorem dX10_between_22 : decode cX10_between 22 = .ok (.iload_n 0, 1) := by decide +kernel
theorem dX10_between_23 : decode cX10_between 23 = .ok (.sipush 3001, 3) := by decide +kernel
theorem dX10_between_26 : decode cX10_between 26 = .ok (.if_icmp .ne 11, 3) := by decide +kernel
theorem dX10_between_29 : decode cX10_between 29 = .ok (.iload_n 1, 1) := by decide +kernel
theorem dX10_between_30 : decode cX10_between 30 = .ok (.i2l, 1) := by decide +kernel
theorem dX10_between_31 : decode cX10_between 31 = .ok (.iload_n 2, 1) := by decide +kernel
theorem dX10_between_32 : decode cX10_between 32 = .ok (.i2l, 1) := by decide +kernel
theorem dX10_between_33 : decode cX10_between 33 = .ok (.lsub, 1) := by decide +kernel
theorem dX10_between_34 : decode cX10_between 34 = .ok (.goto 8, 3) := by decide +kernel
theorem dX10_between_37 : decode cX10_between 37 = .ok (.iload_n 1, 1) := by decide +kernel
theorem dX10_between_38 : decode cX10_between 38 = .ok (.i2l, 1) := by decide +kernel
theorem dX10_between_39 : decode cX10_between 39 = .ok (.iload_n 2, 1) := by decide +kernel
theorem dX10_between_40 : decode cX10_between 40 = .ok (.i2l, 1) := by decide +kernel
theorem dX10_between_41 : decode cX10_between 41 = .ok (.lmul, 1) := by decide +kernel
theorem dX10_between_42 : decode cX10_between 42 = .ok (.lstore_n 3, 1) := by decide +kernel
theorem dX10_between_43 : decode cX10_between 43 = .ok (.lload_n 3, 1) := by decide +kernel
theorem dX10_between_44 : decode cX10_between 44 = .ok (.ldc2_w 207, 3) := by decide +kernel
theorem dX10_between_47 : decode cX10_between 47 = .ok (.lcmp, 1) := by decide +kernel
theorem dX10_between_48 : decode cX10_between 48 = .ok (.ifCond .le 9, 3) := by decide +kernel
theorem dX10_between_51 : decode cX10_between 51 = .ok (.ldc2_w 207, 3) := by decide +kernel
theorem dX10_between_54 : decode cX10_between 54 = .ok (.goto 18, 3) := by decide +kernel
theorem dX10_between_57 : decode cX10_between 57 = .ok (.lload_n 3, 1) := by decide +kernel
theorem dX10_between_58 : decode cX10_between 58 = .ok (.ldc2_w 209, 3) := by decide +kernel
theorem dX10_between_61 : decode cX10_between 61 = .ok (.lcmp, 1) := by decide +kernel
theorem dX10_between_62 : decode cX10_between 62 = .ok (.ifCond .ge 9, 3) := by decide +kernel
theorem dX10_between_65 : decode cX10_between 65 = .ok (.ldc2_w 209, 3) := by decide +kernel
theorem dX10_between_68 : decode cX10_between 68 = .ok (.goto 4, 3) := by decide +kernel
theorem dX10_between_71 : decode cX10_between 71 = .ok (.lload_n 3, 1) := by decide +kernel
theorem dX10_between_72 : decode cX10_between 72 = .ok (.l2i, 1) := by decide +kernel
theorem dX10_between_73 : decode cX10_between 73 = .ok (.ireturn, 1) := by decide +kernel
theorem dX10_between_74 : decode cX10_between 74 = .ok (.iload_n 0, 1) := by decide +kernel
theorem dX10_between_75 : decode cX10_between 75 = .ok (.sipush 3003, 3) := by decide +kernel
theorem dX10_between_78 : decode cX10_between 78 = .ok (.if_icmp .ne 16, 3) := by decide +kernel
theorem dX10_between_81 : decode cX10_between 81 = .ok (.iload_n 1, 1) := by decide +kernel
theorem dX10_between_82 : decode cX10_between 82 = .ok (.iload_n 2, 1) := by decide +kernel
theorem dX10_between_83 : decode cX10_between 83 = .ok (.if_icmp .ne 7, 3) := by decide +kernel
theorem dX10_between_86 : decode cX10_between 86 = .ok (.iconst 1, 1) := by decide +kernel
theorem dX10_between_87 : decode cX10_between 87 = .ok (.goto 80, 3) := by decide +kernel
theorem dX10_between_90 : decode cX10_between 90 = .ok (.iconst 0, 1) := by decide +kernel
theorem dX10_between_91 : decode cX10_between 91 = .ok (.goto 76, 3) := by decide +kernel
theorem dX10_between_94 : decode cX10_between 94 = .ok (.iload_n 0, 1) := by decide +kernel
theorem dX10_between_95 : decode cX10_between 95 = .ok (.sipush 3004, 3) := by decide +kernel
theorem dX10_between_98 : decode cX10_between 98 = .ok (.if_icmp .ne 16, 3) := by decide +kernel
theorem dX10_between_101 : decode cX10_between 101 = .ok (.iload_n 1, 1) := by decide +kernel
theorem dX10_between_102 : decode cX10_between 102 = .ok (.iload_n 2, 1) := by decide +kernel
theorem dX10_between_103 : decode cX10_between 103 = .ok (.if_icmp .ge 7, 3) := by decide +kernel
theorem dX10_between_106 : decode cX10_between 106 = .ok (.iconst 1, 1) := by decide +kernel
theorem dX10_between_107 : decode cX10_between 107 = .ok (.goto 60, 3) := by decide +kernel
theorem dX10_between_110 : decode cX10_between 110 = .ok (.iconst 0, 1) := by decide +kernel
theorem dX10_between_111 : decode cX10_between 111 = .ok (.goto 56, 3) := by decide +kernel
theorem dX10_between_114 : decode cX10_between 114 = .ok (.iload_n 0, 1) := by decide +kernel
theorem dX10_between_115 : decode cX10_between 115 = .ok (.sipush 3005, 3) := by decide +kernel
theorem dX10_between_118 : decode cX10_between 118 = .ok (.if_icmp .ne 16, 3) := by decide +kernel
theorem dX10_between_121 : decode cX10_between 121 = .ok (.iload_n 1, 1) := by decide +kernel
theorem dX10_between_122 : decode cX10_between 122 = .ok (.iload_n 2, 1) := by decide +kernel
theorem dX10_between_123 : decode cX10_between 123 = .ok (.if_icmp .le 7, 3) := by decide +kernel
theorem dX10_between_126 : decode cX10_between 126 = .ok (.iconst 1, 1) := by decide +kernel
theorem dX10_between_127 : decode cX10_between 127 = .ok (.goto 40, 3) := by decide +kernel
theorem dX10_between_130 : decode cX10_between 130 = .ok (.iconst 0, 1) := by decide +kernel
theorem dX10_between_131 : decode cX10_between 131 = .ok (.goto 36, 3) := by decide +kernel
theorem dX10_between_134 : decode cX10_between 134 = .ok (.iload_n 0, 1) := by decide +kernel
theorem dX10_between_135 : decode cX10_between 135 = .ok (.sipush 3006, 3) := by decide +kernel
theorem dX10_between_138 : decode cX10_between 138 = .ok (.if_icmp .ne 18, 3) := by decide +kernel
theorem dX10_between_141 : decode cX10_between 141 = .ok (.iload_n 1, 1) := by decide +kernel
theorem dX10_between_142 : decode cX10_between 142 = .ok (.iload_n 2, 1) := by decide +kernel
theorem dX10_between_143 : decode cX10_between 143 = .ok (.iadd, 1) := by decide +kernel
theorem dX10_between_144 : decode cX10_between 144 = .ok (.iconst 2, 1) := by decide +kernel
theorem dX10_between_145 : decode cX10_between 145 = .ok (.if_icmp .ne 7, 3) := by decide +kernel
theorem dX10_between_148 : decode cX10_between 148 = .ok (.iconst 1, 1) := by decide +kernel
theorem dX10_between_149 : decode cX10_between 149 = .ok (.goto 18, 3) := by decide +kernel
theorem dX10_between_152 : decode cX10_between 152 = .ok (.iconst 0, 1) := by decide +kernel
theorem dX10_between_153 : decode cX10_between 153 = .ok (.goto 14, 3) := by decide +kernel
theorem dX10_between_156 : decode cX10_between 156 = .ok (.iload_n 1, 1) := by decide +kernel
theorem dX10_between_157 : decode cX10_between 157 = .ok (.iload_n 2, 1) := by decide +kernel
theorem dX10_between_158 : decode cX10_between 158 = .ok (.iadd, 1) := by decide +kernel
theorem dX10_between_159 : decode cX10_between 159 = .ok (.ifCond .le 7, 3) := by decide +kernel
theorem dX10_between_162 : decode cX10_between 162 = .ok (.iconst 1, 1) := by decide +kernel
theorem dX10_between_163 : decode cX10_between 163 = .ok (.goto 4, 3) := by decide +kernel
theorem dX10_between_166 : decode cX10_between 166 = .ok (.iconst 0, 1) := by decide +kernel
theorem dX10_between_167 : decode cX10_between 167 = .ok (.istore_n 3, 1) := by decide +kernel
theorem dX10_between_168 : decode cX10_between 168 = .ok (.iload_n 3, 1) := by decide +kernel
theorem dX10_between_169 : decode cX10_between 169 = .ok (.ifCond .eq 7, 3) := by decide +kernel
theorem dX10_between_172 : decode cX10_between 172 = .ok (.iconst 1, 1) := by decide +kernel
theorem dX10_between_173 : decode cX10_between 173 = .ok (.goto 4, 3) := by decide +kernel
theorem dX10_between_176 : decode cX10_between 176 = .ok (.iconst 0, 1) := by decide +kernel
theorem dX10_between_177 : decode cX10_between 177 = .ok (.ireturn, 1) := by decide +kernel
theorem dX10_windWord_0 : decode cX10_windWord 0 = .ok (.iload_n 1, 1) := by decide +kernel
theorem dX10_windWord_1 : decode cX10_windWord 1 = .ok (.ifCond .ne 14, 3) := by decide +kernel
theorem dX10_windWord_4 : decode cX10_windWord 4 = .ok (.iload_n 2, 1) := by decide +kernel
theorem dX10_windWord_5 : decode cX10_windWord 5 = .ok (.aload_n 0, 1) := by decide +kernel
theorem dX10_windWord_6 : decode cX10_windWord 6 = .ok (.getfield 13, 3) := by decide +kernel
theorem dX10_windWord_9 : decode cX10_windWord 9 = .ok (.iconst 1, 1) := by decide +kernel
theorem dX10_windWord_10 : decode cX10_windWord 10 = .ok (.iaload, 1) := by decide +kernel
theorem dX10_windWord_11 : decode cX10_windWord 11 = .ok (.irem, 1) := by decide +kernel
theorem dX10_windWord_12 : decode cX10_windWord 12 = .ok (.goto 37, 3) := by decide +kernel
theorem dX10_windWord_15 : decode cX10_windWord 15 = .ok (.iload_n 1, 1) := by decide +kernel
theorem dX10_windWord_16 : decode cX10_windWord 16 = .ok (.iconst 1, 1) := by decide +kernel
theorem dX10_windWord_17 : decode cX10_windWord 17 = .ok (.if_icmp .ne 14, 3) := by decide +kernel
theorem dX10_windWord_20 : decode cX10_windWord 20 = .ok (.iload_n 2, 1) := by decide +kernel
theorem dX10_windWord_21 : decode cX10_windWord 21 = .ok (.aload_n 0, 1) := by decide +kernel
theorem dX10_windWord_22 : decode cX10_windWord 22 = .ok (.getfield 13, 3) := by decide +kernel
theorem dX10_windWord_25 : decode cX10_windWord 25 = .ok (.iconst 1, 1) := by decide +kernel
theorem dX10_windWord_26 : decode cX10_windWord 26 = .ok (.iaload, 1) := by decide +kernel
theorem dX10_windWord_27 : decode cX10_windWord 27 = .ok (.idiv, 1) := by decide +kernel
theorem dX10_windWord_28 : decode cX10_windWord 28 = .ok (.goto 21, 3) := by decide +kernel
theorem dX10_windWord_31 : decode cX10_windWord 31 = .ok (.iload_n 1, 1) := by decide +kernel
theorem dX10_windWord_32 : decode cX10_windWord 32 = .ok (.iconst 2, 1) := by decide +kernel
theorem dX10_windWord_33 : decode cX10_windWord 33 = .ok (.if_icmp .ne 11, 3) := by decide +kernel
theorem dX10_windWord_36 : decode cX10_windWord 36 = .ok (.aload_n 0, 1) := by decide +kernel
theorem dX10_windWord_37 : decode cX10_windWord 37 = .ok (.iload_n 3, 1) := by decide +kernel
theorem dX10_windWord_38 : decode cX10_windWord 38 = .ok (.invokevirtual 211, 3) := by decide +kernel
theorem dX10_windWord_41 : decode cX10_windWord 41 = .ok (.goto 8, 3) := by decide +kernel
theorem dX10_windWord_44 : decode cX10_windWord 44 = .ok (.aload_n 0, 1) := by decide +kernel
theorem dX10_windWord_45 : decode cX10_windWord 45 = .ok (.iload_n 3, 1) := by decide +kernel
theorem dX10_windWord_46 : decode cX10_windWord 46 = .ok (.invokevirtual 214, 3) := by decide +kernel
theorem dX10_windWord_49 : decode cX10_windWord 49 = .ok (.ireturn, 1) := by decide +kernel
theorem dX10_keepsWord_0 : decode cX10_keepsWord 0 = .ok (.iload_n 1, 1) := by decide +kernel
theorem dX10_keepsWord_1 : decode cX10_keepsWord 1 = .ok (.tableswitch 80 0 5 #[39, 46, 53, 58, 65, 73], 39) := by decide +kernel
theorem dX10_keepsWord_40 : decode cX10_keepsWord 40 = .ok (.aload_n 0, 1) := by decide +kernel
theorem dX10_keepsWord_41 : decode cX10_keepsWord 41 = .ok (.getfield 30, 3) := by decide +kernel
theorem dX10_keepsWord_44 : decode cX10_keepsWord 44 = .ok (.iconst 2, 1) := by decide +kernel
theorem dX10_keepsWord_45 : decode cX10_keepsWord 45 = .ok (.iaload, 1) := by decide +kernel
theorem dX10_keepsWord_46 : decode cX10_keepsWord 46 = .ok (.ireturn, 1) := by decide +kernel
theorem dX10_keepsWord_47 : decode cX10_keepsWord 47 = .ok (.aload_n 0, 1) := by decide +kernel
theorem dX10_keepsWord_48 : decode cX10_keepsWord 48 = .ok (.getfield 30, 3) := by decide +kernel
theorem dX10_keepsWord_51 : decode cX10_keepsWord 51 = .ok (.iconst 3, 1) := by decide +kernel
theorem dX10_keepsWord_52 : decode cX10_keepsWord 52 = .ok (.iaload, 1) := by decide +kernel
theorem dX10_keepsWord_53 : decode cX10_keepsWord 53 = .ok (.ireturn, 1) := by decide +kernel
theorem dX10_keepsWord_54 : decode cX10_keepsWord 54 = .ok (.aload_n 0, 1) := by decide +kernel
theorem dX10_keepsWord_55 : decode cX10_keepsWord 55 = .ok (.getfield 217, 3) := by decide +kernel
theorem dX10_keepsWord_58 : decode cX10_keepsWord 58 = .ok (.ireturn, 1) := by decide +kernel
theorem dX10_keepsWord_59 : decode cX10_keepsWord 59 = .ok (.aload_n 0, 1) := by decide +kernel
theorem dX10_keepsWord_60 : decode cX10_keepsWord 60 = .ok (.getfield 30, 3) := by decide +kernel
theorem dX10_keepsWord_63 : decode cX10_keepsWord 63 = .ok (.iconst 5, 1) := by decide +kernel
theorem dX10_keepsWord_64 : decode cX10_keepsWord 64 = .ok (.iaload, 1) := by decide +kernel
theorem dX10_keepsWord_65 : decode cX10_keepsWord 65 = .ok (.ireturn, 1) := by decide +kernel
theorem dX10_keepsWord_66 : decode cX10_keepsWord 66 = .ok (.aload_n 0, 1) := by decide +kernel
theorem dX10_keepsWord_67 : decode cX10_keepsWord 67 = .ok (.getfield 30, 3) := by decide +kernel
theorem dX10_keepsWord_70 : decode cX10_keepsWord 70 = .ok (.bipush 6, 2) := by decide +kernel
theorem dX10_keepsWord_72 : decode cX10_keepsWord 72 = .ok (.iaload, 1) := by decide +kernel
theorem dX10_keepsWord_73 : decode cX10_keepsWord 73 = .ok (.ireturn, 1) := by decide +kernel
theorem dX10_keepsWord_74 : decode cX10_keepsWord 74 = .ok (.aload_n 0, 1) := by decide +kernel
theorem dX10_keepsWord_75 : decode cX10_keepsWord 75 = .ok (.getfield 30, 3) := by decide +kernel
theorem dX10_keepsWord_78 : decode cX10_keepsWord 78 = .ok (.iconst 4, 1) := by decide +kernel
theorem dX10_keepsWord_79 : decode cX10_keepsWord 79 = .ok (.iaload, 1) := by decide +kernel
theorem dX10_keepsWord_80 : decode cX10_keepsWord 80 = .ok (.ireturn, 1) := by decide +kernel
theorem dX10_keepsWord_81 : decode cX10_keepsWord 81 = .ok (.aload_n 0, 1) := by decide +kernel
theorem dX10_keepsWord_82 : decode cX10_keepsWord 82 = .ok (.iload_n 2, 1) := by decide +kernel
theorem dX10_keepsWord_83 : decode cX10_keepsWord 83 = .ok (.invokevirtual 211, 3) := by decide +kernel
theorem dX10_keepsWord_86 : decode cX10_keepsWord 86 = .ok (.ireturn, 1) := by decide +kernel
theorem dX10_reckons_0 : decode cX10_reckons 0 = .ok (.iconst 0, 1) := by decide +kernel
theorem dX10_reckons_1 : decode cX10_reckons 1 = .ok (.istore 4, 2) := by decide +kernel
theorem dX10_reckons_3 : decode cX10_reckons 3 = .ok (.iconst 0, 1) := by decide +kernel
theorem dX10_reckons_4 : decode cX10_reckons 4 = .ok (.istore 5, 2) := by decide +kernel
theorem dX10_reckons_6 : decode cX10_reckons 6 = .ok (.iload 5, 2) := by decide +kernel
theorem dX10_reckons_8 : decode cX10_reckons 8 = .ok (.aload_n 0, 1) := by decide +kernel
theorem dX10_reckons_9 : decode cX10_reckons 9 = .ok (.getfield 13, 3) := by decide +kernel
theorem dX10_reckons_12 : decode cX10_reckons 12 = .ok (.bipush 12, 2) := by decide +kernel
theorem dX10_reckons_14 : decode cX10_reckons 14 = .ok (.iload_n 1, 1) := by decide +kernel
theorem dX10_reckons_15 : decode cX10_reckons 15 = .ok (.iadd, 1) := by decide +kernel
theorem dX10_reckons_16 : decode cX10_reckons 16 = .ok (.iaload, 1) := by decide +kernel
theorem dX10_reckons_17 : decode cX10_reckons 17 = .ok (.if_icmp .ge 160, 3) := by decide +kernel
theorem dX10_reckons_20 : decode cX10_reckons 20 = .ok (.aload_n 0, 1) := by decide +kernel
theorem dX10_reckons_21 : decode cX10_reckons 21 = .ok (.getfield 13, 3) := by decide +kernel
theorem dX10_reckons_24 : decode cX10_reckons 24 = .ok (.sipush 1012, 3) := by decide +kernel
theorem dX10_reckons_27 : decode cX10_reckons 27 = .ok (.aload_n 0, 1) := by decide +kernel
theorem dX10_reckons_28 : decode cX10_reckons 28 = .ok (.getfield 13, 3) := by decide +kernel
theorem dX10_reckons_31 : decode cX10_reckons 31 = .ok (.bipush 10, 2) := by decide +kernel
theorem dX10_reckons_33 : decode cX10_reckons 33 = .ok (.iload_n 1, 1) := by decide +kernel
theorem dX10_reckons_34 : decode cX10_reckons 34 = .ok (.iadd, 1) := by decide +kernel
theorem dX10_reckons_35 : decode cX10_reckons 35 = .ok (.iaload, 1) := by decide +kernel
theorem dX10_reckons_36 : decode cX10_reckons 36 = .ok (.iadd, 1) := by decide +kernel
theorem dX10_reckons_37 : decode cX10_reckons 37 = .ok (.iload 5, 2) := by decide +kernel
theorem dX10_reckons_39 : decode cX10_reckons 39 = .ok (.iadd, 1) := by decide +kernel
theorem dX10_reckons_40 : decode cX10_reckons 40 = .ok (.iaload, 1) := by decide +kernel
theorem dX10_reckons_41 : decode cX10_reckons 41 = .ok (.istore 6, 2) := by decide +kernel
theorem dX10_reckons_43 : decode cX10_reckons 43 = .ok (.iload 6, 2) := by decide +kernel
theorem dX10_reckons_45 : decode cX10_reckons 45 = .ok (.sipush 3000, 3) := by decide +kernel
theorem dX10_reckons_48 : decode cX10_reckons 48 = .ok (.if_icmp .ge 59, 3) := by decide +kernel
theorem dX10_reckons_51 : decode cX10_reckons 51 = .ok (.aload_n 0, 1) := by decide +kernel
theorem dX10_reckons_52 : decode cX10_reckons 52 = .ok (.getfield 33, 3) := by decide +kernel
theorem dX10_reckons_55 : decode cX10_reckons 55 = .ok (.iload 4, 2) := by decide +kernel
theorem dX10_reckons_57 : decode cX10_reckons 57 = .ok (.iload 6, 2) := by decide +kernel
theorem dX10_reckons_59 : decode cX10_reckons 59 = .ok (.sipush 1000, 3) := by decide +kernel
theorem dX10_reckons_62 : decode cX10_reckons 62 = .ok (.if_icmp .ge 8, 3) := by decide +kernel
theorem dX10_reckons_65 : decode cX10_reckons 65 = .ok (.iload 6, 2) := by decide +kernel
theorem dX10_reckons_67 : decode cX10_reckons 67 = .ok (.goto 33, 3) := by decide +kernel
theorem dX10_reckons_70 : decode cX10_reckons 70 = .ok (.iload_n 1, 1) := by decide +kernel
theorem dX10_reckons_71 : decode cX10_reckons 71 = .ok (.ifCond .ne 18, 3) := by decide +kernel
theorem dX10_reckons_74 : decode cX10_reckons 74 = .ok (.aload_n 0, 1) := by decide +kernel
theorem dX10_reckons_75 : decode cX10_reckons 75 = .ok (.iload 6, 2) := by decide +kernel
theorem dX10_reckons_77 : decode cX10_reckons 77 = .ok (.sipush 1000, 3) := by decide +kernel
theorem dX10_reckons_80 : decode cX10_reckons 80 = .ok (.isub, 1) := by decide +kernel
theorem dX10_reckons_81 : decode cX10_reckons 81 = .ok (.iload_n 2, 1) := by decide +kernel
theorem dX10_reckons_82 : decode cX10_reckons 82 = .ok (.iload_n 3, 1) := by decide +kernel
theorem dX10_reckons_83 : decode cX10_reckons 83 = .ok (.invokevirtual 220, 3) := by decide +kernel
theorem dX10_reckons_86 : decode cX10_reckons 86 = .ok (.goto 14, 3) := by decide +kernel
theorem dX10_reckons_89 : decode cX10_reckons 89 = .ok (.aload_n 0, 1) := by decide +kernel
theorem dX10_reckons_90 : decode cX10_reckons 90 = .ok (.iload 6, 2) := by decide +kernel
theorem dX10_reckons_92 : decode cX10_reckons 92 = .ok (.sipush 1000, 3) := by decide +kernel
theorem dX10_reckons_95 : decode cX10_reckons 95 = .ok (.isub, 1) := by decide +kernel
theorem dX10_reckons_96 : decode cX10_reckons 96 = .ok (.iload_n 3, 1) := by decide +kernel
theorem dX10_reckons_97 : decode cX10_reckons 97 = .ok (.invokevirtual 224, 3) := by decide +kernel
theorem dX10_reckons_100 : decode cX10_reckons 100 = .ok (.iastore, 1) := by decide +kernel
theorem dX10_reckons_101 : decode cX10_reckons 101 = .ok (.iinc 4 1, 3) := by decide +kernel
theorem dX10_reckons_104 : decode cX10_reckons 104 = .ok (.goto 67, 3) := by decide +kernel
theorem dX10_reckons_107 : decode cX10_reckons 107 = .ok (.iload 6, 2) := by decide +kernel
theorem dX10_reckons_109 : decode cX10_reckons 109 = .ok (.sipush 3008, 3) := by decide +kernel
theorem dX10_reckons_112 : decode cX10_reckons 112 = .ok (.if_icmp .ne 26, 3) := by decide +kernel
theorem dX10_reckons_115 : decode cX10_reckons 115 = .ok (.aload_n 0, 1) := by decide +kernel
theorem dX10_reckons_116 : decode cX10_reckons 116 = .ok (.getfield 33, 3) := by decide +kernel
theorem dX10_reckons_119 : decode cX10_reckons 119 = .ok (.iload 4, 2) := by decide +kernel
theorem dX10_reckons_121 : decode cX10_reckons 121 = .ok (.iconst 1, 1) := by decide +kernel
theorem dX10_reckons_122 : decode cX10_reckons 122 = .ok (.isub, 1) := by decide +kernel
theorem dX10_reckons_123 : decode cX10_reckons 123 = .ok (.iconst 1, 1) := by decide +kernel
theorem dX10_reckons_124 : decode cX10_reckons 124 = .ok (.aload_n 0, 1) := by decide +kernel
theorem dX10_reckons_125 : decode cX10_reckons 125 = .ok (.getfield 33, 3) := by decide +kernel
theorem dX10_reckons_128 : decode cX10_reckons 128 = .ok (.iload 4, 2) := by decide +kernel
theorem dX10_reckons_130 : decode cX10_reckons 130 = .ok (.iconst 1, 1) := by decide +kernel
theorem dX10_reckons_131 : decode cX10_reckons 131 = .ok (.isub, 1) := by decide +kernel
theorem dX10_reckons_132 : decode cX10_reckons 132 = .ok (.iaload, 1) := by decide +kernel
theorem dX10_reckons_133 : decode cX10_reckons 133 = .ok (.isub, 1) := by decide +kernel
theorem dX10_reckons_134 : decode cX10_reckons 134 = .ok (.iastore, 1) := by decide +kernel
theorem dX10_reckons_135 : decode cX10_reckons 135 = .ok (.goto 36, 3) := by decide +kernel
theorem dX10_reckons_138 : decode cX10_reckons 138 = .ok (.iinc 4 (-1), 3) := by decide +kernel
theorem dX10_reckons_141 : decode cX10_reckons 141 = .ok (.aload_n 0, 1) := by decide +kernel
theorem dX10_reckons_142 : decode cX10_reckons 142 = .ok (.getfield 33, 3) := by decide +kernel
theorem dX10_reckons_145 : decode cX10_reckons 145 = .ok (.iload 4, 2) := by decide +kernel
theorem dX10_reckons_147 : decode cX10_reckons 147 = .ok (.iconst 1, 1) := by decide +kernel
theorem dX10_reckons_148 : decode cX10_reckons 148 = .ok (.isub, 1) := by decide +kernel
theorem dX10_reckons_149 : decode cX10_reckons 149 = .ok (.iload 6, 2) := by decide +kernel
theorem dX10_reckons_151 : decode cX10_reckons 151 = .ok (.aload_n 0, 1) := by decide +kernel
theorem dX10_reckons_152 : decode cX10_reckons 152 = .ok (.getfield 33, 3) := by decide +kernel
theorem dX10_reckons_155 : decode cX10_reckons 155 = .ok (.iload 4, 2) := by decide +kernel
theorem dX10_reckons_157 : decode cX10_reckons 157 = .ok (.iconst 1, 1) := by decide +kernel
theorem dX10_reckons_158 : decode cX10_reckons 158 = .ok (.isub, 1) := by decide +kernel
theorem dX10_reckons_159 : decode cX10_reckons 159 = .ok (.iaload, 1) := by decide +kernel
theorem dX10_reckons_160 : decode cX10_reckons 160 = .ok (.aload_n 0, 1) := by decide +kernel
theorem dX10_reckons_161 : decode cX10_reckons 161 = .ok (.getfield 33, 3) := by decide +kernel
theorem dX10_reckons_164 : decode cX10_reckons 164 = .ok (.iload 4, 2) := by decide +kernel
theorem dX10_reckons_166 : decode cX10_reckons 166 = .ok (.iaload, 1) := by decide +kernel
theorem dX10_reckons_167 : decode cX10_reckons 167 = .ok (.invokestatic 227, 3) := by decide +kernel
theorem dX10_reckons_170 : decode cX10_reckons 170 = .ok (.iastore, 1) := by decide +kernel
theorem dX10_reckons_171 : decode cX10_reckons 171 = .ok (.iinc 5 1, 3) := by decide +kernel
theorem dX10_reckons_174 : decode cX10_reckons 174 = .ok (.goto (-168), 3) := by decide +kernel
theorem dX10_reckons_177 : decode cX10_reckons 177 = .ok (.aload_n 0, 1) := by decide +kernel
theorem dX10_reckons_178 : decode cX10_reckons 178 = .ok (.getfield 33, 3) := by decide +kernel
theorem dX10_reckons_181 : decode cX10_reckons 181 = .ok (.iconst 0, 1) := by decide +kernel
theorem dX10_reckons_182 : decode cX10_reckons 182 = .ok (.iaload, 1) := by decide +kernel
theorem dX10_reckons_183 : decode cX10_reckons 183 = .ok (.ireturn, 1) := by decide +kernel
theorem dX10_windOf_0 : decode cX10_windOf 0 = .ok (.aload_n 0, 1) := by decide +kernel
theorem dX10_windOf_1 : decode cX10_windOf 1 = .ok (.getfield 13, 3) := by decide +kernel
theorem dX10_windOf_4 : decode cX10_windOf 4 = .ok (.bipush 8, 2) := by decide +kernel
theorem dX10_windOf_6 : decode cX10_windOf 6 = .ok (.iaload, 1) := by decide +kernel
theorem dX10_windOf_7 : decode cX10_windOf 7 = .ok (.ifCond .ne 5, 3) := by decide +kernel
theorem dX10_windOf_10 : decode cX10_windOf 10 = .ok (.iconst 0, 1) := by decide +kernel
theorem dX10_windOf_11 : decode cX10_windOf 11 = .ok (.ireturn, 1) := by decide +kernel
theorem dX10_windOf_12 : decode cX10_windOf 12 = .ok (.aload_n 0, 1) := by decide +kernel
theorem dX10_windOf_13 : decode cX10_windOf 13 = .ok (.iconst 0, 1) := by decide +kernel
theorem dX10_windOf_14 : decode cX10_windOf 14 = .ok (.iload_n 1, 1) := by decide +kernel
theorem dX10_windOf_15 : decode cX10_windOf 15 = .ok (.iload_n 2, 1) := by decide +kernel
theorem dX10_windOf_16 : decode cX10_windOf 16 = .ok (.invokevirtual 230, 3) := by decide +kernel
theorem dX10_windOf_19 : decode cX10_windOf 19 = .ok (.iconst 5, 1) := by decide +kernel
theorem dX10_windOf_20 : decode cX10_windOf 20 = .ok (.irem, 1) := by decide +kernel
theorem dX10_windOf_21 : decode cX10_windOf 21 = .ok (.istore_n 3, 1) := by decide +kernel
theorem dX10_windOf_22 : decode cX10_windOf 22 = .ok (.iload_n 3, 1) := by decide +kernel
theorem dX10_windOf_23 : decode cX10_windOf 23 = .ok (.ifCond .ge 9, 3) := by decide +kernel
theorem dX10_windOf_26 : decode cX10_windOf 26 = .ok (.iload_n 3, 1) := by decide +kernel
theorem dX10_windOf_27 : decode cX10_windOf 27 = .ok (.iconst 5, 1) := by decide +kernel
theorem dX10_windOf_28 : decode cX10_windOf 28 = .ok (.iadd, 1) := by decide +kernel
theorem dX10_windOf_29 : decode cX10_windOf 29 = .ok (.goto 4, 3) := by decide +kernel
theorem dX10_windOf_32 : decode cX10_windOf 32 = .ok (.iload_n 3, 1) := by decide +kernel
theorem dX10_windOf_33 : decode cX10_windOf 33 = .ok (.ireturn, 1) := by decide +kernel
theorem dX10_goes_0 : decode cX10_goes 0 = .ok (.iload_n 1, 1) := by decide +kernel
theorem dX10_goes_1 : decode cX10_goes 1 = .ok (.ifCond .eq 12, 3) := by decide +kernel
theorem dX10_goes_4 : decode cX10_goes 4 = .ok (.aload_n 0, 1) := by decide +kernel
theorem dX10_goes_5 : decode cX10_goes 5 = .ok (.getfield 30, 3) := by decide +kernel
theorem dX10_goes_8 : decode cX10_goes 8 = .ok (.iconst 0, 1) := by decide +kernel
theorem dX10_goes_9 : decode cX10_goes 9 = .ok (.iaload, 1) := by decide +kernel
theorem dX10_goes_10 : decode cX10_goes 10 = .ok (.ifCond .eq 7, 3) := by decide +kernel
theorem dX10_goes_13 : decode cX10_goes 13 = .ok (.iconst (-1), 1) := by decide +kernel
theorem dX10_goes_14 : decode cX10_goes 14 = .ok (.goto 14, 3) := by decide +kernel
theorem dX10_goes_17 : decode cX10_goes 17 = .ok (.aload_n 0, 1) := by decide +kernel
theorem dX10_goes_18 : decode cX10_goes 18 = .ok (.aload_n 0, 1) := by decide +kernel
theorem dX10_goes_19 : decode cX10_goes 19 = .ok (.getfield 30, 3) := by decide +kernel
