theorem dX10_arrives_181 : decode cX10_arrives 181 = .ok (.iload_n 1, 1) := by decide +kernel
theorem dX10_arrives_182 : decode cX10_arrives 182 = .ok (.dup2, 1) := by decide +kernel
theorem dX10_arrives_183 : decode cX10_arrives 183 = .ok (.iaload, 1) := by decide +kernel
theorem dX10_arrives_184 : decode cX10_arrives 184 = .ok (.iconst 1, 1) := by decide +kernel
theorem dX10_arrives_185 : decode cX10_arrives 185 = .ok (.iadd, 1) := by decide +kernel
theorem dX10_arrives_186 : decode cX10_arrives 186 = .ok (.iastore, 1) := by decide +kernel
theorem dX10_arrives_187 : decode cX10_arrives 187 = .ok (.iconst 0, 1) := by decide +kernel
theorem dX10_arrives_188 : decode cX10_arrives 188 = .ok (.istore 5, 2) := by decide +kernel
theorem dX10_arrives_190 : decode cX10_arrives 190 = .ok (.iload 5, 2) := by decide +kernel
theorem dX10_arrives_192 : decode cX10_arrives 192 = .ok (.aload_n 0, 1) := by decide +kernel
theorem dX10_arrives_193 : decode cX10_arrives 193 = .ok (.getfield 111, 3) := by decide +kernel
theorem dX10_arrives_196 : decode cX10_arrives 196 = .ok (.if_icmp .ge 133, 3) := by decide +kernel
theorem dX10_arrives_199 : decode cX10_arrives 199 = .ok (.aload_n 0, 1) := by decide +kernel
theorem dX10_arrives_200 : decode cX10_arrives 200 = .ok (.getfield 9, 3) := by decide +kernel
theorem dX10_arrives_203 : decode cX10_arrives 203 = .ok (.iload 5, 2) := by decide +kernel
theorem dX10_arrives_205 : decode cX10_arrives 205 = .ok (.aaload, 1) := by decide +kernel
theorem dX10_arrives_206 : decode cX10_arrives 206 = .ok (.iconst 4, 1) := by decide +kernel
theorem dX10_arrives_207 : decode cX10_arrives 207 = .ok (.iaload, 1) := by decide +kernel
theorem dX10_arrives_208 : decode cX10_arrives 208 = .ok (.iload_n 1, 1) := by decide +kernel
theorem dX10_arrives_209 : decode cX10_arrives 209 = .ok (.if_icmp .ne 114, 3) := by decide +kernel
theorem dX10_arrives_212 : decode cX10_arrives 212 = .ok (.aload_n 0, 1) := by decide +kernel
theorem dX10_arrives_213 : decode cX10_arrives 213 = .ok (.getfield 9, 3) := by decide +kernel
theorem dX10_arrives_216 : decode cX10_arrives 216 = .ok (.iload 5, 2) := by decide +kernel
theorem dX10_arrives_218 : decode cX10_arrives 218 = .ok (.aaload, 1) := by decide +kernel
theorem dX10_arrives_219 : decode cX10_arrives 219 = .ok (.iconst 5, 1) := by decide +kernel
theorem dX10_arrives_220 : decode cX10_arrives 220 = .ok (.iaload, 1) := by decide +kernel
theorem dX10_arrives_221 : decode cX10_arrives 221 = .ok (.iload_n 3, 1) := by decide +kernel
theorem dX10_arrives_222 : decode cX10_arrives 222 = .ok (.if_icmp .eq 6, 3) := by decide +kernel
theorem dX10_arrives_225 : decode cX10_arrives 225 = .ok (.goto 98, 3) := by decide +kernel
theorem dX10_arrives_228 : decode cX10_arrives 228 = .ok (.aload_n 0, 1) := by decide +kernel
theorem dX10_arrives_229 : decode cX10_arrives 229 = .ok (.getfield 9, 3) := by decide +kernel
theorem dX10_arrives_232 : decode cX10_arrives 232 = .ok (.iload 5, 2) := by decide +kernel
theorem dX10_arrives_234 : decode cX10_arrives 234 = .ok (.aaload, 1) := by decide +kernel
theorem dX10_arrives_235 : decode cX10_arrives 235 = .ok (.iconst 4, 1) := by decide +kernel
theorem dX10_arrives_236 : decode cX10_arrives 236 = .ok (.iconst (-1), 1) := by decide +kernel
theorem dX10_arrives_237 : decode cX10_arrives 237 = .ok (.iastore, 1) := by decide +kernel
theorem dX10_arrives_238 : decode cX10_arrives 238 = .ok (.aload_n 0, 1) := by decide +kernel
theorem dX10_arrives_239 : decode cX10_arrives 239 = .ok (.getfield 9, 3) := by decide +kernel
theorem dX10_arrives_242 : decode cX10_arrives 242 = .ok (.iload 5, 2) := by decide +kernel
theorem dX10_arrives_244 : decode cX10_arrives 244 = .ok (.aaload, 1) := by decide +kernel
theorem dX10_arrives_245 : decode cX10_arrives 245 = .ok (.iconst 5, 1) := by decide +kernel
theorem dX10_arrives_246 : decode cX10_arrives 246 = .ok (.iconst (-1), 1) := by decide +kernel
theorem dX10_arrives_247 : decode cX10_arrives 247 = .ok (.iastore, 1) := by decide +kernel
theorem dX10_arrives_248 : decode cX10_arrives 248 = .ok (.aload_n 0, 1) := by decide +kernel
theorem dX10_arrives_249 : decode cX10_arrives 249 = .ok (.getfield 9, 3) := by decide +kernel
theorem dX10_arrives_252 : decode cX10_arrives 252 = .ok (.iload 5, 2) := by decide +kernel
theorem dX10_arrives_254 : decode cX10_arrives 254 = .ok (.aaload, 1) := by decide +kernel
theorem dX10_arrives_255 : decode cX10_arrives 255 = .ok (.iconst 1, 1) := by decide +kernel
theorem dX10_arrives_256 : decode cX10_arrives 256 = .ok (.iaload, 1) := by decide +kernel
theorem dX10_arrives_257 : decode cX10_arrives 257 = .ok (.iload_n 3, 1) := by decide +kernel
theorem dX10_arrives_258 : decode cX10_arrives 258 = .ok (.if_icmp .ne 20, 3) := by decide +kernel
theorem dX10_arrives_261 : decode cX10_arrives 261 = .ok (.aload_n 0, 1) := by decide +kernel
theorem dX10_arrives_262 : decode cX10_arrives 262 = .ok (.getfield 9, 3) := by decide +kernel
theorem dX10_arrives_265 : decode cX10_arrives 265 = .ok (.iload 5, 2) := by decide +kernel
theorem dX10_arrives_267 : decode cX10_arrives 267 = .ok (.aaload, 1) := by decide +kernel
theorem dX10_arrives_268 : decode cX10_arrives 268 = .ok (.bipush 8, 2) := by decide +kernel
theorem dX10_arrives_270 : decode cX10_arrives 270 = .ok (.aload_n 0, 1) := by decide +kernel
theorem dX10_arrives_271 : decode cX10_arrives 271 = .ok (.getfield 114, 3) := by decide +kernel
theorem dX10_arrives_274 : decode cX10_arrives 274 = .ok (.iastore, 1) := by decide +kernel
theorem dX10_arrives_275 : decode cX10_arrives 275 = .ok (.goto 48, 3) := by decide +kernel
theorem dX10_arrives_278 : decode cX10_arrives 278 = .ok (.aload_n 0, 1) := by decide +kernel
theorem dX10_arrives_279 : decode cX10_arrives 279 = .ok (.getfield 9, 3) := by decide +kernel
theorem dX10_arrives_282 : decode cX10_arrives 282 = .ok (.iload 5, 2) := by decide +kernel
theorem dX10_arrives_284 : decode cX10_arrives 284 = .ok (.aaload, 1) := by decide +kernel
theorem dX10_arrives_285 : decode cX10_arrives 285 = .ok (.iconst 3, 1) := by decide +kernel
theorem dX10_arrives_286 : decode cX10_arrives 286 = .ok (.iload_n 3, 1) := by decide +kernel
theorem dX10_arrives_287 : decode cX10_arrives 287 = .ok (.iastore, 1) := by decide +kernel
theorem dX10_arrives_288 : decode cX10_arrives 288 = .ok (.aload_n 0, 1) := by decide +kernel
theorem dX10_arrives_289 : decode cX10_arrives 289 = .ok (.getfield 9, 3) := by decide +kernel
theorem dX10_arrives_292 : decode cX10_arrives 292 = .ok (.iload 5, 2) := by decide +kernel
theorem dX10_arrives_294 : decode cX10_arrives 294 = .ok (.aaload, 1) := by decide +kernel
theorem dX10_arrives_295 : decode cX10_arrives 295 = .ok (.bipush 6, 2) := by decide +kernel
theorem dX10_arrives_297 : decode cX10_arrives 297 = .ok (.dup2, 1) := by decide +kernel
theorem dX10_arrives_298 : decode cX10_arrives 298 = .ok (.iaload, 1) := by decide +kernel
theorem dX10_arrives_299 : decode cX10_arrives 299 = .ok (.iconst 1, 1) := by decide +kernel
theorem dX10_arrives_300 : decode cX10_arrives 300 = .ok (.iadd, 1) := by decide +kernel
theorem dX10_arrives_301 : decode cX10_arrives 301 = .ok (.iastore, 1) := by decide +kernel
theorem dX10_arrives_302 : decode cX10_arrives 302 = .ok (.aload_n 0, 1) := by decide +kernel
theorem dX10_arrives_303 : decode cX10_arrives 303 = .ok (.getfield 9, 3) := by decide +kernel
theorem dX10_arrives_306 : decode cX10_arrives 306 = .ok (.iload 5, 2) := by decide +kernel
theorem dX10_arrives_308 : decode cX10_arrives 308 = .ok (.aaload, 1) := by decide +kernel
theorem dX10_arrives_309 : decode cX10_arrives 309 = .ok (.bipush 7, 2) := by decide +kernel
theorem dX10_arrives_311 : decode cX10_arrives 311 = .ok (.aload_n 0, 1) := by decide +kernel
theorem dX10_arrives_312 : decode cX10_arrives 312 = .ok (.getfield 114, 3) := by decide +kernel
theorem dX10_arrives_315 : decode cX10_arrives 315 = .ok (.aload_n 0, 1) := by decide +kernel
theorem dX10_arrives_316 : decode cX10_arrives 316 = .ok (.getfield 42, 3) := by decide +kernel
theorem dX10_arrives_319 : decode cX10_arrives 319 = .ok (.iload_n 3, 1) := by decide +kernel
theorem dX10_arrives_320 : decode cX10_arrives 320 = .ok (.iaload, 1) := by decide +kernel
theorem dX10_arrives_321 : decode cX10_arrives 321 = .ok (.iadd, 1) := by decide +kernel
theorem dX10_arrives_322 : decode cX10_arrives 322 = .ok (.iastore, 1) := by decide +kernel
theorem dX10_arrives_323 : decode cX10_arrives 323 = .ok (.iinc 5 1, 3) := by decide +kernel
theorem dX10_arrives_326 : decode cX10_arrives 326 = .ok (.goto (-136), 3) := by decide +kernel
theorem dX10_arrives_329 : decode cX10_arrives 329 = .ok (.return_, 1) := by decide +kernel
theorem dX10_minute_0 : decode cX10_minute 0 = .ok (.aload_n 0, 1) := by decide +kernel
theorem dX10_minute_1 : decode cX10_minute 1 = .ok (.dup, 1) := by decide +kernel
theorem dX10_minute_2 : decode cX10_minute 2 = .ok (.getfield 114, 3) := by decide +kernel
theorem dX10_minute_5 : decode cX10_minute 5 = .ok (.iconst 1, 1) := by decide +kernel
theorem dX10_minute_6 : decode cX10_minute 6 = .ok (.iadd, 1) := by decide +kernel
theorem dX10_minute_7 : decode cX10_minute 7 = .ok (.putfield 114, 3) := by decide +kernel
theorem dX10_minute_10 : decode cX10_minute 10 = .ok (.iconst 0, 1) := by decide +kernel
theorem dX10_minute_11 : decode cX10_minute 11 = .ok (.istore_n 1, 1) := by decide +kernel
theorem dX10_minute_12 : decode cX10_minute 12 = .ok (.iload_n 1, 1) := by decide +kernel
theorem dX10_minute_13 : decode cX10_minute 13 = .ok (.aload_n 0, 1) := by decide +kernel
theorem dX10_minute_14 : decode cX10_minute 14 = .ok (.getfield 27, 3) := by decide +kernel
theorem dX10_minute_17 : decode cX10_minute 17 = .ok (.if_icmp .ge 55, 3) := by decide +kernel
theorem dX10_minute_20 : decode cX10_minute 20 = .ok (.aload_n 0, 1) := by decide +kernel
theorem dX10_minute_21 : decode cX10_minute 21 = .ok (.getfield 75, 3) := by decide +kernel
theorem dX10_minute_24 : decode cX10_minute 24 = .ok (.iload_n 1, 1) := by decide +kernel
theorem dX10_minute_25 : decode cX10_minute 25 = .ok (.iaload, 1) := by decide +kernel
theorem dX10_minute_26 : decode cX10_minute 26 = .ok (.ifCond .ne 16, 3) := by decide +kernel
theorem dX10_minute_29 : decode cX10_minute 29 = .ok (.aload_n 0, 1) := by decide +kernel
theorem dX10_minute_30 : decode cX10_minute 30 = .ok (.iload_n 1, 1) := by decide +kernel
theorem dX10_minute_31 : decode cX10_minute 31 = .ok (.invokevirtual 138, 3) := by decide +kernel
theorem dX10_minute_34 : decode cX10_minute 34 = .ok (.aload_n 0, 1) := by decide +kernel
theorem dX10_minute_35 : decode cX10_minute 35 = .ok (.iload_n 1, 1) := by decide +kernel
theorem dX10_minute_36 : decode cX10_minute 36 = .ok (.invokevirtual 134, 3) := by decide +kernel
theorem dX10_minute_39 : decode cX10_minute 39 = .ok (.goto 27, 3) := by decide +kernel
theorem dX10_minute_42 : decode cX10_minute 42 = .ok (.aload_n 0, 1) := by decide +kernel
theorem dX10_minute_43 : decode cX10_minute 43 = .ok (.getfield 75, 3) := by decide +kernel
theorem dX10_minute_46 : decode cX10_minute 46 = .ok (.iload_n 1, 1) := by decide +kernel
theorem dX10_minute_47 : decode cX10_minute 47 = .ok (.dup2, 1) := by decide +kernel
theorem dX10_minute_48 : decode cX10_minute 48 = .ok (.iaload, 1) := by decide +kernel
theorem dX10_minute_49 : decode cX10_minute 49 = .ok (.iconst 1, 1) := by decide +kernel
theorem dX10_minute_50 : decode cX10_minute 50 = .ok (.isub, 1) := by decide +kernel
theorem dX10_minute_51 : decode cX10_minute 51 = .ok (.iastore, 1) := by decide +kernel
theorem dX10_minute_52 : decode cX10_minute 52 = .ok (.aload_n 0, 1) := by decide +kernel
theorem dX10_minute_53 : decode cX10_minute 53 = .ok (.getfield 75, 3) := by decide +kernel
theorem dX10_minute_56 : decode cX10_minute 56 = .ok (.iload_n 1, 1) := by decide +kernel
theorem dX10_minute_57 : decode cX10_minute 57 = .ok (.iaload, 1) := by decide +kernel
theorem dX10_minute_58 : decode cX10_minute 58 = .ok (.ifCond .ne 8, 3) := by decide +kernel
theorem dX10_minute_61 : decode cX10_minute 61 = .ok (.aload_n 0, 1) := by decide +kernel
theorem dX10_minute_62 : decode cX10_minute 62 = .ok (.iload_n 1, 1) := by decide +kernel
theorem dX10_minute_63 : decode cX10_minute 63 = .ok (.invokevirtual 141, 3) := by decide +kernel
theorem dX10_minute_66 : decode cX10_minute 66 = .ok (.iinc 1 1, 3) := by decide +kernel
theorem dX10_minute_69 : decode cX10_minute 69 = .ok (.goto (-57), 3) := by decide +kernel
theorem dX10_minute_72 : decode cX10_minute 72 = .ok (.return_, 1) := by decide +kernel
theorem dX10_agrees_0 : decode cX10_agrees 0 = .ok (.aload_n 1, 1) := by decide +kernel
theorem dX10_agrees_1 : decode cX10_agrees 1 = .ok (.invokevirtual 144, 3) := by decide +kernel
theorem dX10_agrees_4 : decode cX10_agrees 4 = .ok (.aload_n 0, 1) := by decide +kernel
theorem dX10_agrees_5 : decode cX10_agrees 5 = .ok (.getfield 114, 3) := by decide +kernel
theorem dX10_agrees_8 : decode cX10_agrees 8 = .ok (.if_icmp .ne 25, 3) := by decide +kernel
theorem dX10_agrees_11 : decode cX10_agrees 11 = .ok (.aload_n 1, 1) := by decide +kernel
theorem dX10_agrees_12 : decode cX10_agrees 12 = .ok (.invokevirtual 95, 3) := by decide +kernel
theorem dX10_agrees_15 : decode cX10_agrees 15 = .ok (.aload_n 0, 1) := by decide +kernel
theorem dX10_agrees_16 : decode cX10_agrees 16 = .ok (.getfield 111, 3) := by decide +kernel
theorem dX10_agrees_19 : decode cX10_agrees 19 = .ok (.if_icmp .ne 14, 3) := by decide +kernel
theorem dX10_agrees_22 : decode cX10_agrees 22 = .ok (.aload_n 1, 1) := by decide +kernel
theorem dX10_agrees_23 : decode cX10_agrees 23 = .ok (.invokevirtual 146, 3) := by decide +kernel
theorem dX10_agrees_26 : decode cX10_agrees 26 = .ok (.aload_n 0, 1) := by decide +kernel
theorem dX10_agrees_27 : decode cX10_agrees 27 = .ok (.invokevirtual 149, 3) := by decide +kernel
theorem dX10_agrees_30 : decode cX10_agrees 30 = .ok (.if_icmp .eq 5, 3) := by decide +kernel
theorem dX10_agrees_33 : decode cX10_agrees 33 = .ok (.iconst 0, 1) := by decide +kernel
theorem dX10_agrees_34 : decode cX10_agrees 34 = .ok (.ireturn, 1) := by decide +kernel
theorem dX10_agrees_35 : decode cX10_agrees 35 = .ok (.iconst 0, 1) := by decide +kernel
theorem dX10_agrees_36 : decode cX10_agrees 36 = .ok (.istore_n 2, 1) := by decide +kernel
theorem dX10_agrees_37 : decode cX10_agrees 37 = .ok (.iload_n 2, 1) := by decide +kernel
theorem dX10_agrees_38 : decode cX10_agrees 38 = .ok (.aload_n 0, 1) := by decide +kernel
theorem dX10_agrees_39 : decode cX10_agrees 39 = .ok (.getfield 27, 3) := by decide +kernel
theorem dX10_agrees_42 : decode cX10_agrees 42 = .ok (.if_icmp .ge 180, 3) := by decide +kernel
theorem dX10_agrees_45 : decode cX10_agrees 45 = .ok (.aload_n 1, 1) := by decide +kernel
theorem dX10_agrees_46 : decode cX10_agrees 46 = .ok (.iload_n 2, 1) := by decide +kernel
theorem dX10_agrees_47 : decode cX10_agrees 47 = .ok (.invokevirtual 152, 3) := by decide +kernel
theorem dX10_agrees_50 : decode cX10_agrees 50 = .ok (.aload_n 0, 1) := by decide +kernel
theorem dX10_agrees_51 : decode cX10_agrees 51 = .ok (.getfield 75, 3) := by decide +kernel
theorem dX10_agrees_54 : decode cX10_agrees 54 = .ok (.iload_n 2, 1) := by decide +kernel
theorem dX10_agrees_55 : decode cX10_agrees 55 = .ok (.iaload, 1) := by decide +kernel
theorem dX10_agrees_56 : decode cX10_agrees 56 = .ok (.ifCond .ne 19, 3) := by decide +kernel
theorem dX10_agrees_59 : decode cX10_agrees 59 = .ok (.aload_n 0, 1) := by decide +kernel
theorem dX10_agrees_60 : decode cX10_agrees 60 = .ok (.getfield 63, 3) := by decide +kernel
theorem dX10_agrees_63 : decode cX10_agrees 63 = .ok (.iload_n 2, 1) := by decide +kernel
theorem dX10_agrees_64 : decode cX10_agrees 64 = .ok (.aaload, 1) := by decide +kernel
theorem dX10_agrees_65 : decode cX10_agrees 65 = .ok (.aload_n 0, 1) := by decide +kernel
theorem dX10_agrees_66 : decode cX10_agrees 66 = .ok (.getfield 69, 3) := by decide +kernel
theorem dX10_agrees_69 : decode cX10_agrees 69 = .ok (.iload_n 2, 1) := by decide +kernel
theorem dX10_agrees_70 : decode cX10_agrees 70 = .ok (.iaload, 1) := by decide +kernel
theorem dX10_agrees_71 : decode cX10_agrees 71 = .ok (.iaload, 1) := by decide +kernel
theorem dX10_agrees_72 : decode cX10_agrees 72 = .ok (.goto 4, 3) := by decide +kernel
theorem dX10_agrees_75 : decode cX10_agrees 75 = .ok (.iconst (-1), 1) := by decide +kernel
theorem dX10_agrees_76 : decode cX10_agrees 76 = .ok (.if_icmp .ne 81, 3) := by decide +kernel
theorem dX10_agrees_79 : decode cX10_agrees 79 = .ok (.aload_n 1, 1) := by decide +kernel
theorem dX10_agrees_80 : decode cX10_agrees 80 = .ok (.iload_n 2, 1) := by decide +kernel
theorem dX10_agrees_81 : decode cX10_agrees 81 = .ok (.invokevirtual 155, 3) := by decide +kernel
theorem dX10_agrees_84 : decode cX10_agrees 84 = .ok (.aload_n 0, 1) := by decide +kernel
theorem dX10_agrees_85 : decode cX10_agrees 85 = .ok (.getfield 63, 3) := by decide +kernel
theorem dX10_agrees_88 : decode cX10_agrees 88 = .ok (.iload_n 2, 1) := by decide +kernel
theorem dX10_agrees_89 : decode cX10_agrees 89 = .ok (.aaload, 1) := by decide +kernel
theorem dX10_agrees_90 : decode cX10_agrees 90 = .ok (.aload_n 0, 1) := by decide +kernel
theorem dX10_agrees_91 : decode cX10_agrees 91 = .ok (.getfield 69, 3) := by decide +kernel
theorem dX10_agrees_94 : decode cX10_agrees 94 = .ok (.iload_n 2, 1) := by decide +kernel
theorem dX10_agrees_95 : decode cX10_agrees 95 = .ok (.iaload, 1) := by decide +kernel
theorem dX10_agrees_96 : decode cX10_agrees 96 = .ok (.aload_n 0, 1) := by decide +kernel
theorem dX10_agrees_97 : decode cX10_agrees 97 = .ok (.getfield 72, 3) := by decide +kernel
theorem dX10_agrees_100 : decode cX10_agrees 100 = .ok (.iload_n 2, 1) := by decide +kernel
theorem dX10_agrees_101 : decode cX10_agrees 101 = .ok (.iaload, 1) := by decide +kernel
theorem dX10_agrees_102 : decode cX10_agrees 102 = .ok (.iadd, 1) := by decide +kernel
theorem dX10_agrees_103 : decode cX10_agrees 103 = .ok (.iaload, 1) := by decide +kernel
theorem dX10_agrees_104 : decode cX10_agrees 104 = .ok (.if_icmp .ne 53, 3) := by decide +kernel
theorem dX10_agrees_107 : decode cX10_agrees 107 = .ok (.aload_n 1, 1) := by decide +kernel
theorem dX10_agrees_108 : decode cX10_agrees 108 = .ok (.iload_n 2, 1) := by decide +kernel
theorem dX10_agrees_109 : decode cX10_agrees 109 = .ok (.invokevirtual 158, 3) := by decide +kernel
theorem dX10_agrees_112 : decode cX10_agrees 112 = .ok (.aload_n 0, 1) := by decide +kernel
theorem dX10_agrees_113 : decode cX10_agrees 113 = .ok (.getfield 72, 3) := by decide +kernel
theorem dX10_agrees_116 : decode cX10_agrees 116 = .ok (.iload_n 2, 1) := by decide +kernel
theorem dX10_agrees_117 : decode cX10_agrees 117 = .ok (.iaload, 1) := by decide +kernel
theorem dX10_agrees_118 : decode cX10_agrees 118 = .ok (.iconst 1, 1) := by decide +kernel
theorem dX10_agrees_119 : decode cX10_agrees 119 = .ok (.if_icmp .ne 7, 3) := by decide +kernel
theorem dX10_agrees_122 : decode cX10_agrees 122 = .ok (.iconst 1, 1) := by decide +kernel
theorem dX10_agrees_123 : decode cX10_agrees 123 = .ok (.goto 4, 3) := by decide +kernel
theorem dX10_agrees_126 : decode cX10_agrees 126 = .ok (.iconst 0, 1) := by decide +kernel
theorem dX10_agrees_127 : decode cX10_agrees 127 = .ok (.if_icmp .ne 30, 3) := by decide +kernel
theorem dX10_agrees_130 : decode cX10_agrees 130 = .ok (.aload_n 1, 1) := by decide +kernel
theorem dX10_agrees_131 : decode cX10_agrees 131 = .ok (.iload_n 2, 1) := by decide +kernel
theorem dX10_agrees_132 : decode cX10_agrees 132 = .ok (.invokevirtual 161, 3) := by decide +kernel
theorem dX10_agrees_135 : decode cX10_agrees 135 = .ok (.aload_n 0, 1) := by decide +kernel
theorem dX10_agrees_136 : decode cX10_agrees 136 = .ok (.getfield 75, 3) := by decide +kernel
theorem dX10_agrees_139 : decode cX10_agrees 139 = .ok (.iload_n 2, 1) := by decide +kernel
theorem dX10_agrees_140 : decode cX10_agrees 140 = .ok (.iaload, 1) := by decide +kernel
theorem dX10_agrees_141 : decode cX10_agrees 141 = .ok (.ifCond .ne 7, 3) := by decide +kernel
theorem dX10_agrees_144 : decode cX10_agrees 144 = .ok (.iconst (-1), 1) := by decide +kernel
theorem dX10_agrees_145 : decode cX10_agrees 145 = .ok (.goto 9, 3) := by decide +kernel
theorem dX10_agrees_148 : decode cX10_agrees 148 = .ok (.aload_n 0, 1) := by decide +kernel
theorem dX10_agrees_149 : decode cX10_agrees 149 = .ok (.getfield 75, 3) := by decide +kernel
theorem dX10_agrees_152 : decode cX10_agrees 152 = .ok (.iload_n 2, 1) := by decide +kernel
theorem dX10_agrees_153 : decode cX10_agrees 153 = .ok (.iaload, 1) := by decide +kernel
theorem dX10_agrees_154 : decode cX10_agrees 154 = .ok (.if_icmp .eq 5, 3) := by decide +kernel
theorem dX10_agrees_157 : decode cX10_agrees 157 = .ok (.iconst 0, 1) := by decide +kernel
theorem dX10_agrees_158 : decode cX10_agrees 158 = .ok (.ireturn, 1) := by decide +kernel
theorem dX10_agrees_159 : decode cX10_agrees 159 = .ok (.aload_n 1, 1) := by decide +kernel
theorem dX10_agrees_160 : decode cX10_agrees 160 = .ok (.iload_n 2, 1) := by decide +kernel
theorem dX10_agrees_161 : decode cX10_agrees 161 = .ok (.invokevirtual 164, 3) := by decide +kernel
theorem dX10_agrees_164 : decode cX10_agrees 164 = .ok (.aload_n 0, 1) := by decide +kernel
theorem dX10_agrees_165 : decode cX10_agrees 165 = .ok (.getfield 78, 3) := by decide +kernel
theorem dX10_agrees_168 : decode cX10_agrees 168 = .ok (.iload_n 2, 1) := by decide +kernel
theorem dX10_agrees_169 : decode cX10_agrees 169 = .ok (.iaload, 1) := by decide +kernel
theorem dX10_agrees_170 : decode cX10_agrees 170 = .ok (.if_icmp .ne 44, 3) := by decide +kernel
theorem dX10_agrees_173 : decode cX10_agrees 173 = .ok (.aload_n 1, 1) := by decide +kernel
theorem dX10_agrees_174 : decode cX10_agrees 174 = .ok (.iload_n 2, 1) := by decide +kernel
theorem dX10_agrees_175 : decode cX10_agrees 175 = .ok (.invokevirtual 166, 3) := by decide +kernel
theorem dX10_agrees_178 : decode cX10_agrees 178 = .ok (.aload_n 0, 1) := by decide +kernel
theorem dX10_agrees_179 : decode cX10_agrees 179 = .ok (.getfield 81, 3) := by decide +kernel
theorem dX10_agrees_182 : decode cX10_agrees 182 = .ok (.iload_n 2, 1) := by decide +kernel
theorem dX10_agrees_183 : decode cX10_agrees 183 = .ok (.iaload, 1) := by decide +kernel
theorem dX10_agrees_184 : decode cX10_agrees 184 = .ok (.if_icmp .ne 30, 3) := by decide +kernel
theorem dX10_agrees_187 : decode cX10_agrees 187 = .ok (.aload_n 1, 1) := by decide +kernel
theorem dX10_agrees_188 : decode cX10_agrees 188 = .ok (.iload_n 2, 1) := by decide +kernel
theorem dX10_agrees_189 : decode cX10_agrees 189 = .ok (.invokevirtual 169, 3) := by decide +kernel
theorem dX10_agrees_192 : decode cX10_agrees 192 = .ok (.aload_n 0, 1) := by decide +kernel
theorem dX10_agrees_193 : decode cX10_agrees 193 = .ok (.getfield 84, 3) := by decide +kernel
theorem dX10_agrees_196 : decode cX10_agrees 196 = .ok (.iload_n 2, 1) := by decide +kernel
theorem dX10_agrees_197 : decode cX10_agrees 197 = .ok (.iaload, 1) := by decide +kernel
theorem dX10_agrees_198 : decode cX10_agrees 198 = .ok (.if_icmp .ne 16, 3) := by decide +kernel
theorem dX10_agrees_201 : decode cX10_agrees 201 = .ok (.aload_n 1, 1) := by decide +kernel
theorem dX10_agrees_202 : decode cX10_agrees 202 = .ok (.iload_n 2, 1) := by decide +kernel
theorem dX10_agrees_203 : decode cX10_agrees 203 = .ok (.invokevirtual 172, 3) := by decide +kernel
theorem dX10_agrees_206 : decode cX10_agrees 206 = .ok (.aload_n 0, 1) := by decide +kernel
theorem dX10_agrees_207 : decode cX10_agrees 207 = .ok (.iload_n 2, 1) := by decide +kernel
theorem dX10_agrees_208 : decode cX10_agrees 208 = .ok (.invokevirtual 125, 3) := by decide +kernel
theorem dX10_agrees_211 : decode cX10_agrees 211 = .ok (.if_icmp .eq 5, 3) := by decide +kernel
theorem dX10_agrees_214 : decode cX10_agrees 214 = .ok (.iconst 0, 1) := by decide +kernel
theorem dX10_agrees_215 : decode cX10_agrees 215 = .ok (.ireturn, 1) := by decide +kernel
theorem dX10_agrees_216 : decode cX10_agrees 216 = .ok (.iinc 2 1, 3) := by decide +kernel
theorem dX10_agrees_219 : decode cX10_agrees 219 = .ok (.goto (-182), 3) := by decide +kernel
theorem dX10_agrees_222 : decode cX10_agrees 222 = .ok (.iconst 0, 1) := by decide +kernel
theorem dX10_agrees_223 : decode cX10_agrees 223 = .ok (.istore_n 2, 1) := by decide +kernel
theorem dX10_agrees_224 : decode cX10_agrees 224 = .ok (.iload_n 2, 1) := by decide +kernel
theorem dX10_agrees_225 : decode cX10_agrees 225 = .ok (.aload_n 0, 1) := by decide +kernel
theorem dX10_agrees_226 : decode cX10_agrees 226 = .ok (.getfield 111, 3) := by decide +kernel
theorem dX10_agrees_229 : decode cX10_agrees 229 = .ok (.if_icmp .ge 140, 3) := by decide +kernel
theorem dX10_agrees_232 : decode cX10_agrees 232 = .ok (.aload_n 0, 1) := by decide +kernel
theorem dX10_agrees_233 : decode cX10_agrees 233 = .ok (.getfield 9, 3) := by decide +kernel
theorem dX10_agrees_236 : decode cX10_agrees 236 = .ok (.iload_n 2, 1) := by decide +kernel
theorem dX10_agrees_237 : decode cX10_agrees 237 = .ok (.aaload, 1) := by decide +kernel
theorem dX10_agrees_238 : decode cX10_agrees 238 = .ok (.astore_n 3, 1) := by decide +kernel
theorem dX10_agrees_239 : decode cX10_agrees 239 = .ok (.aload_n 1, 1) := by decide +kernel
theorem dX10_agrees_240 : decode cX10_agrees 240 = .ok (.iload_n 2, 1) := by decide +kernel
theorem dX10_agrees_241 : decode cX10_agrees 241 = .ok (.invokevirtual 98, 3) := by decide +kernel
theorem dX10_agrees_244 : decode cX10_agrees 244 = .ok (.aload_n 3, 1) := by decide +kernel
theorem dX10_agrees_245 : decode cX10_agrees 245 = .ok (.iconst 0, 1) := by decide +kernel
theorem dX10_agrees_246 : decode cX10_agrees 246 = .ok (.iaload, 1) := by decide +kernel
theorem dX10_agrees_247 : decode cX10_agrees 247 = .ok (.if_icmp .ne 82, 3) := by decide +kernel
theorem dX10_agrees_250 : decode cX10_agrees 250 = .ok (.aload_n 1, 1) := by decide +kernel
theorem dX10_agrees_251 : decode cX10_agrees 251 = .ok (.iload_n 2, 1) := by decide +kernel
theorem dX10_agrees_252 : decode cX10_agrees 252 = .ok (.invokevirtual 101, 3) := by decide +kernel
theorem dX10_agrees_255 : decode cX10_agrees 255 = .ok (.aload_n 3, 1) := by decide +kernel
theorem dX10_agrees_256 : decode cX10_agrees 256 = .ok (.iconst 1, 1) := by decide +kernel
theorem dX10_agrees_257 : decode cX10_agrees 257 = .ok (.iaload, 1) := by decide +kernel
theorem dX10_agrees_258 : decode cX10_agrees 258 = .ok (.if_icmp .ne 71, 3) := by decide +kernel
theorem dX10_agrees_261 : decode cX10_agrees 261 = .ok (.aload_n 1, 1) := by decide +kernel
theorem dX10_agrees_262 : decode cX10_agrees 262 = .ok (.iload_n 2, 1) := by decide +kernel
theorem dX10_agrees_263 : decode cX10_agrees 263 = .ok (.invokevirtual 104, 3) := by decide +kernel
theorem dX10_agrees_266 : decode cX10_agrees 266 = .ok (.aload_n 3, 1) := by decide +kernel
theorem dX10_agrees_267 : decode cX10_agrees 267 = .ok (.iconst 2, 1) := by decide +kernel
theorem dX10_agrees_268 : decode cX10_agrees 268 = .ok (.iaload, 1) := by decide +kernel
theorem dX10_agrees_269 : decode cX10_agrees 269 = .ok (.if_icmp .ne 60, 3) := by decide +kernel
theorem dX10_agrees_272 : decode cX10_agrees 272 = .ok (.aload_n 1, 1) := by decide +kernel
theorem dX10_agrees_273 : decode cX10_agrees 273 = .ok (.iload_n 2, 1) := by decide +kernel
theorem dX10_agrees_274 : decode cX10_agrees 274 = .ok (.invokevirtual 175, 3) := by decide +kernel
theorem dX10_agrees_277 : decode cX10_agrees 277 = .ok (.aload_n 3, 1) := by decide +kernel
theorem dX10_agrees_278 : decode cX10_agrees 278 = .ok (.iconst 3, 1) := by decide +kernel
theorem dX10_agrees_279 : decode cX10_agrees 279 = .ok (.iaload, 1) := by decide +kernel
theorem dX10_agrees_280 : decode cX10_agrees 280 = .ok (.if_icmp .ne 49, 3) := by decide +kernel
theorem dX10_agrees_283 : decode cX10_agrees 283 = .ok (.aload_n 1, 1) := by decide +kernel
theorem dX10_agrees_284 : decode cX10_agrees 284 = .ok (.iload_n 2, 1) := by decide +kernel
theorem dX10_agrees_285 : decode cX10_agrees 285 = .ok (.invokevirtual 178, 3) := by decide +kernel
theorem dX10_agrees_288 : decode cX10_agrees 288 = .ok (.aload_n 3, 1) := by decide +kernel
theorem dX10_agrees_289 : decode cX10_agrees 289 = .ok (.iconst 4, 1) := by decide +kernel
theorem dX10_agrees_290 : decode cX10_agrees 290 = .ok (.iaload, 1) := by decide +kernel
theorem dX10_agrees_291 : decode cX10_agrees 291 = .ok (.if_icmp .ne 38, 3) := by decide +kernel
theorem dX10_agrees_294 : decode cX10_agrees 294 = .ok (.aload_n 1, 1) := by decide +kernel
theorem dX10_agrees_295 : decode cX10_agrees 295 = .ok (.iload_n 2, 1) := by decide +kernel
theorem dX10_agrees_296 : decode cX10_agrees 296 = .ok (.invokevirtual 181, 3) := by decide +kernel
theorem dX10_agrees_299 : decode cX10_agrees 299 = .ok (.aload_n 3, 1) := by decide +kernel
theorem dX10_agrees_300 : decode cX10_agrees 300 = .ok (.iconst 5, 1) := by decide +kernel
theorem dX10_agrees_301 : decode cX10_agrees 301 = .ok (.iaload, 1) := by decide +kernel
theorem dX10_agrees_302 : decode cX10_agrees 302 = .ok (.if_icmp .ne 27, 3) := by decide +kernel
theorem dX10_agrees_305 : decode cX10_agrees 305 = .ok (.aload_n 1, 1) := by decide +kernel
theorem dX10_agrees_306 : decode cX10_agrees 306 = .ok (.iload_n 2, 1) := by decide +kernel
theorem dX10_agrees_307 : decode cX10_agrees 307 = .ok (.invokevirtual 184, 3) := by decide +kernel
theorem dX10_agrees_310 : decode cX10_agrees 310 = .ok (.aload_n 3, 1) := by decide +kernel
theorem dX10_agrees_311 : decode cX10_agrees 311 = .ok (.bipush 6, 2) := by decide +kernel
theorem dX10_agrees_313 : decode cX10_agrees 313 = .ok (.iaload, 1) := by decide +kernel
theorem dX10_agrees_314 : decode cX10_agrees 314 = .ok (.if_icmp .ne 15, 3) := by decide +kernel
theorem dX10_agrees_317 : decode cX10_agrees 317 = .ok (.aload_n 1, 1) := by decide +kernel
theorem dX10_agrees_318 : decode cX10_agrees 318 = .ok (.iload_n 2, 1) := by decide +kernel
theorem dX10_agrees_319 : decode cX10_agrees 319 = .ok (.invokevirtual 187, 3) := by decide +kernel
theorem dX10_agrees_322 : decode cX10_agrees 322 = .ok (.aload_n 3, 1) := by decide +kernel
theorem dX10_agrees_323 : decode cX10_agrees 323 = .ok (.bipush 8, 2) := by decide +kernel
theorem dX10_agrees_325 : decode cX10_agrees 325 = .ok (.iaload, 1) := by decide +kernel
theorem dX10_agrees_326 : decode cX10_agrees 326 = .ok (.if_icmp .eq 5, 3) := by decide +kernel
theorem dX10_agrees_329 : decode cX10_agrees 329 = .ok (.iconst 0, 1) := by decide +kernel
theorem dX10_agrees_330 : decode cX10_agrees 330 = .ok (.ireturn, 1) := by decide +kernel
theorem dX10_agrees_331 : decode cX10_agrees 331 = .ok (.aload_n 1, 1) := by decide +kernel
theorem dX10_agrees_332 : decode cX10_agrees 332 = .ok (.iload_n 2, 1) := by decide +kernel
theorem dX10_agrees_333 : decode cX10_agrees 333 = .ok (.invokevirtual 190, 3) := by decide +kernel
theorem dX10_agrees_336 : decode cX10_agrees 336 = .ok (.aload_n 3, 1) := by decide +kernel
theorem dX10_agrees_337 : decode cX10_agrees 337 = .ok (.iconst 3, 1) := by decide +kernel
theorem dX10_agrees_338 : decode cX10_agrees 338 = .ok (.iaload, 1) := by decide +kernel
theorem dX10_agrees_339 : decode cX10_agrees 339 = .ok (.ifCond .lt 18, 3) := by decide +kernel
theorem dX10_agrees_342 : decode cX10_agrees 342 = .ok (.aload_n 0, 1) := by decide +kernel
theorem dX10_agrees_343 : decode cX10_agrees 343 = .ok (.getfield 114, 3) := by decide +kernel
theorem dX10_agrees_346 : decode cX10_agrees 346 = .ok (.aload_n 3, 1) := by decide +kernel
theorem dX10_agrees_347 : decode cX10_agrees 347 = .ok (.bipush 7, 2) := by decide +kernel
theorem dX10_agrees_349 : decode cX10_agrees 349 = .ok (.iaload, 1) := by decide +kernel
theorem dX10_agrees_350 : decode cX10_agrees 350 = .ok (.if_icmp .ge 7, 3) := by decide +kernel
theorem dX10_agrees_353 : decode cX10_agrees 353 = .ok (.iconst 1, 1) := by decide +kernel
theorem dX10_agrees_354 : decode cX10_agrees 354 = .ok (.goto 4, 3) := by decide +kernel
theorem dX10_agrees_357 : decode cX10_agrees 357 = .ok (.iconst 0, 1) := by decide +kernel
theorem dX10_agrees_358 : decode cX10_agrees 358 = .ok (.if_icmp .eq 5, 3) := by decide +kernel
theorem dX10_agrees_361 : decode cX10_agrees 361 = .ok (.iconst 0, 1) := by decide +kernel
theorem dX10_agrees_362 : decode cX10_agrees 362 = .ok (.ireturn, 1) := by decide +kernel
theorem dX10_agrees_363 : decode cX10_agrees 363 = .ok (.iinc 2 1, 3) := by decide +kernel
theorem dX10_agrees_366 : decode cX10_agrees 366 = .ok (.goto (-142), 3) := by decide +kernel
theorem dX10_agrees_369 : decode cX10_agrees 369 = .ok (.iconst 0, 1) := by decide +kernel
theorem dX10_agrees_370 : decode cX10_agrees 370 = .ok (.istore_n 2, 1) := by decide +kernel
theorem dX10_agrees_371 : decode cX10_agrees 371 = .ok (.iload_n 2, 1) := by decide +kernel
theorem dX10_agrees_372 : decode cX10_agrees 372 = .ok (.aload_n 0, 1) := by decide +kernel
theorem dX10_agrees_373 : decode cX10_agrees 373 = .ok (.getfield 20, 3) := by decide +kernel
theorem dX10_agrees_376 : decode cX10_agrees 376 = .ok (.if_icmp .ge 58, 3) := by decide +kernel
theorem dX10_agrees_379 : decode cX10_agrees 379 = .ok (.iconst 0, 1) := by decide +kernel
theorem dX10_agrees_380 : decode cX10_agrees 380 = .ok (.istore_n 3, 1) := by decide +kernel
theorem dX10_agrees_381 : decode cX10_agrees 381 = .ok (.iload_n 3, 1) := by decide +kernel
theorem dX10_agrees_382 : decode cX10_agrees 382 = .ok (.aload_n 0, 1) := by decide +kernel
theorem dX10_agrees_383 : decode cX10_agrees 383 = .ok (.getfield 20, 3) := by decide +kernel
theorem dX10_agrees_386 : decode cX10_agrees 386 = .ok (.if_icmp .ge 42, 3) := by decide +kernel
theorem dX10_agrees_389 : decode cX10_agrees 389 = .ok (.aload_n 0, 1) := by decide +kernel
theorem dX10_agrees_390 : decode cX10_agrees 390 = .ok (.iload_n 2, 1) := by decide +kernel
theorem dX10_agrees_391 : decode cX10_agrees 391 = .ok (.iload_n 3, 1) := by decide +kernel
theorem dX10_agrees_392 : decode cX10_agrees 392 = .ok (.invokevirtual 122, 3) := by decide +kernel
theorem dX10_agrees_395 : decode cX10_agrees 395 = .ok (.istore 4, 2) := by decide +kernel
theorem dX10_agrees_397 : decode cX10_agrees 397 = .ok (.aload_n 1, 1) := by decide +kernel
theorem dX10_agrees_398 : decode cX10_agrees 398 = .ok (.iload_n 2, 1) := by decide +kernel
theorem dX10_agrees_399 : decode cX10_agrees 399 = .ok (.iload_n 3, 1) := by decide +kernel
theorem dX10_agrees_400 : decode cX10_agrees 400 = .ok (.invokevirtual 193, 3) := by decide +kernel
theorem dX10_agrees_403 : decode cX10_agrees 403 = .ok (.iload 4, 2) := by decide +kernel
theorem dX10_agrees_405 : decode cX10_agrees 405 = .ok (.sipush 9999, 3) := by decide +kernel
theorem dX10_agrees_408 : decode cX10_agrees 408 = .ok (.if_icmp .lt 7, 3) := by decide +kernel
theorem dX10_agrees_411 : decode cX10_agrees 411 = .ok (.iconst (-1), 1) := by decide +kernel
theorem dX10_agrees_412 : decode cX10_agrees 412 = .ok (.goto 5, 3) := by decide +kernel
theorem dX10_agrees_415 : decode cX10_agrees 415 = .ok (.iload 4, 2) := by decide +kernel
theorem dX10_agrees_417 : decode cX10_agrees 417 = .ok (.if_icmp .eq 5, 3) := by decide +kernel
theorem dX10_agrees_420 : decode cX10_agrees 420 = .ok (.iconst 0, 1) := by decide +kernel
theorem dX10_agrees_421 : decode cX10_agrees 421 = .ok (.ireturn, 1) := by decide +kernel
theorem dX10_agrees_422 : decode cX10_agrees 422 = .ok (.iinc 3 1, 3) := by decide +kernel
theorem dX10_agrees_425 : decode cX10_agrees 425 = .ok (.goto (-44), 3) := by decide +kernel
theorem dX10_agrees_428 : decode cX10_agrees 428 = .ok (.iinc 2 1, 3) := by decide +kernel
theorem dX10_agrees_431 : decode cX10_agrees 431 = .ok (.goto (-60), 3) := by decide +kernel
theorem dX10_agrees_434 : decode cX10_agrees 434 = .ok (.iconst 1, 1) := by decide +kernel
theorem dX10_agrees_435 : decode cX10_agrees 435 = .ok (.ireturn, 1) := by decide +kernel
theorem dJ5_init_d00df_0 : decode cJ5_init_d00df 0 = .ok (.aload_n 0, 1) := by decide +kernel
theorem dJ5_init_d00df_1 : decode cJ5_init_d00df 1 = .ok (.invokespecial 3, 3) := by decide +kernel
theorem dJ5_init_d00df_4 : decode cJ5_init_d00df 4 = .ok (.getstatic 18, 3) := by decide +kernel
theorem dJ5_init_d00df_7 : decode cJ5_init_d00df 7 = .ok (.ifCond .eq 18, 3) := by decide +kernel
theorem dJ5_init_d00df_10 : decode cJ5_init_d00df 10 = .ok (.aload_n 0, 1) := by decide +kernel
theorem dJ5_init_d00df_11 : decode cJ5_init_d00df 11 = .ok (.iload_n 1, 1) := by decide +kernel
theorem dJ5_init_d00df_12 : decode cJ5_init_d00df 12 = .ok (.newarray .byte, 2) := by decide +kernel
theorem dJ5_init_d00df_14 : decode cJ5_init_d00df 14 = .ok (.putfield 15, 3) := by decide +kernel
theorem dJ5_init_d00df_17 : decode cJ5_init_d00df 17 = .ok (.aload_n 0, 1) := by decide +kernel
theorem dJ5_init_d00df_18 : decode cJ5_init_d00df 18 = .ok (.iconst 0, 1) := by decide +kernel
theorem dJ5_init_d00df_19 : decode cJ5_init_d00df 19 = .ok (.putfield 22, 3) := by decide +kernel
theorem dJ5_init_d00df_22 : decode cJ5_init_d00df 22 = .ok (.goto 16, 3) := by decide +kernel
theorem dJ5_init_d00df_25 : decode cJ5_init_d00df 25 = .ok (.aload_n 0, 1) := by decide +kernel
theorem dJ5_init_d00df_26 : decode cJ5_init_d00df 26 = .ok (.iload_n 1, 1) := by decide +kernel
theorem dJ5_init_d00df_27 : decode cJ5_init_d00df 27 = .ok (.invokestatic 26, 3) := by decide +kernel
theorem dJ5_init_d00df_30 : decode cJ5_init_d00df 30 = .ok (.putfield 15, 3) := by decide +kernel
theorem dJ5_init_d00df_33 : decode cJ5_init_d00df 33 = .ok (.aload_n 0, 1) := by decide +kernel
theorem dJ5_init_d00df_34 : decode cJ5_init_d00df 34 = .ok (.iconst 1, 1) := by decide +kernel
theorem dJ5_init_d00df_35 : decode cJ5_init_d00df 35 = .ok (.putfield 22, 3) := by decide +kernel
theorem dJ5_init_d00df_38 : decode cJ5_init_d00df 38 = .ok (.return_, 1) := by decide +kernel
theorem dJ5_length_8abf5_0 : decode cJ5_length_8abf5 0 = .ok (.aload_n 0, 1) := by decide +kernel
theorem dJ5_length_8abf5_1 : decode cJ5_length_8abf5 1 = .ok (.getfield 79, 3) := by decide +kernel
theorem dJ5_length_8abf5_4 : decode cJ5_length_8abf5 4 = .ok (.ireturn, 1) := by decide +kernel
theorem dJ5_ensureCapacityInternal_d00df_0 : decode cJ5_ensureCapacityInternal_d00df 0 = .ok (.aload_n 0, 1) := by decide +kernel
theorem dJ5_ensureCapacityInternal_d00df_1 : decode cJ5_ensureCapacityInternal_d00df 1 = .ok (.getfield 15, 3) := by decide +kernel
theorem dJ5_ensureCapacityInternal_d00df_4 : decode cJ5_ensureCapacityInternal_d00df 4 = .ok (.arraylength, 1) := by decide +kernel
theorem dJ5_ensureCapacityInternal_d00df_5 : decode cJ5_ensureCapacityInternal_d00df 5 = .ok (.aload_n 0, 1) := by decide +kernel
theorem dJ5_ensureCapacityInternal_d00df_6 : decode cJ5_ensureCapacityInternal_d00df 6 = .ok (.getfield 22, 3) := by decide +kernel
theorem dJ5_ensureCapacityInternal_d00df_9 : decode cJ5_ensureCapacityInternal_d00df 9 = .ok (.ishr, 1) := by decide +kernel
theorem dJ5_ensureCapacityInternal_d00df_10 : decode cJ5_ensureCapacityInternal_d00df 10 = .ok (.istore_n 2, 1) := by decide +kernel
theorem dJ5_ensureCapacityInternal_d00df_11 : decode cJ5_ensureCapacityInternal_d00df 11 = .ok (.iload_n 1, 1) := by decide +kernel
theorem dJ5_ensureCapacityInternal_d00df_12 : decode cJ5_ensureCapacityInternal_d00df 12 = .ok (.iload_n 2, 1) := by decide +kernel
theorem dJ5_ensureCapacityInternal_d00df_13 : decode cJ5_ensureCapacityInternal_d00df 13 = .ok (.isub, 1) := by decide +kernel
theorem dJ5_ensureCapacityInternal_d00df_14 : decode cJ5_ensureCapacityInternal_d00df 14 = .ok (.ifCond .le 24, 3) := by decide +kernel
theorem dJ5_ensureCapacityInternal_d00df_17 : decode cJ5_ensureCapacityInternal_d00df 17 = .ok (.aload_n 0, 1) := by decide +kernel
theorem dJ5_ensureCapacityInternal_d00df_18 : decode cJ5_ensureCapacityInternal_d00df 18 = .ok (.aload_n 0, 1) := by decide +kernel
theorem dJ5_ensureCapacityInternal_d00df_19 : decode cJ5_ensureCapacityInternal_d00df 19 = .ok (.getfield 15, 3) := by decide +kernel
theorem dJ5_ensureCapacityInternal_d00df_22 : decode cJ5_ensureCapacityInternal_d00df 22 = .ok (.aload_n 0, 1) := by decide +kernel
theorem dJ5_ensureCapacityInternal_d00df_23 : decode cJ5_ensureCapacityInternal_d00df 23 = .ok (.iload_n 1, 1) := by decide +kernel
theorem dJ5_ensureCapacityInternal_d00df_24 : decode cJ5_ensureCapacityInternal_d00df 24 = .ok (.invokevirtual 104, 3) := by decide +kernel
theorem dJ5_ensureCapacityInternal_d00df_27 : decode cJ5_ensureCapacityInternal_d00df 27 = .ok (.aload_n 0, 1) := by decide +kernel
theorem dJ5_ensureCapacityInternal_d00df_28 : decode cJ5_ensureCapacityInternal_d00df 28 = .ok (.getfield 22, 3) := by decide +kernel
theorem dJ5_ensureCapacityInternal_d00df_31 : decode cJ5_ensureCapacityInternal_d00df 31 = .ok (.ishl, 1) := by decide +kernel
theorem dJ5_ensureCapacityInternal_d00df_32 : decode cJ5_ensureCapacityInternal_d00df 32 = .ok (.invokestatic 108, 3) := by decide +kernel
theorem dJ5_ensureCapacityInternal_d00df_35 : decode cJ5_ensureCapacityInternal_d00df 35 = .ok (.putfield 15, 3) := by decide +kernel
theorem dJ5_ensureCapacityInternal_d00df_38 : decode cJ5_ensureCapacityInternal_d00df 38 = .ok (.return_, 1) := by decide +kernel
theorem dJ5_newCapacity_0f7a4_0 : decode cJ5_newCapacity_0f7a4 0 = .ok (.aload_n 0, 1) := by decide +kernel
theorem dJ5_newCapacity_0f7a4_1 : decode cJ5_newCapacity_0f7a4 1 = .ok (.getfield 15, 3) := by decide +kernel
theorem dJ5_newCapacity_0f7a4_4 : decode cJ5_newCapacity_0f7a4 4 = .ok (.arraylength, 1) := by decide +kernel
theorem dJ5_newCapacity_0f7a4_5 : decode cJ5_newCapacity_0f7a4 5 = .ok (.istore_n 2, 1) := by decide +kernel
theorem dJ5_newCapacity_0f7a4_6 : decode cJ5_newCapacity_0f7a4 6 = .ok (.iload_n 1, 1) := by decide +kernel
theorem dJ5_newCapacity_0f7a4_7 : decode cJ5_newCapacity_0f7a4 7 = .ok (.aload_n 0, 1) := by decide +kernel
theorem dJ5_newCapacity_0f7a4_8 : decode cJ5_newCapacity_0f7a4 8 = .ok (.getfield 22, 3) := by decide +kernel
theorem dJ5_newCapacity_0f7a4_11 : decode cJ5_newCapacity_0f7a4 11 = .ok (.ishl, 1) := by decide +kernel
theorem dJ5_newCapacity_0f7a4_12 : decode cJ5_newCapacity_0f7a4 12 = .ok (.istore_n 3, 1) := by decide +kernel
theorem dJ5_newCapacity_0f7a4_13 : decode cJ5_newCapacity_0f7a4 13 = .ok (.iload_n 3, 1) := by decide +kernel
theorem dJ5_newCapacity_0f7a4_14 : decode cJ5_newCapacity_0f7a4 14 = .ok (.iload_n 2, 1) := by decide +kernel
theorem dJ5_newCapacity_0f7a4_15 : decode cJ5_newCapacity_0f7a4 15 = .ok (.isub, 1) := by decide +kernel
theorem dJ5_newCapacity_0f7a4_16 : decode cJ5_newCapacity_0f7a4 16 = .ok (.istore 4, 2) := by decide +kernel
theorem dJ5_newCapacity_0f7a4_18 : decode cJ5_newCapacity_0f7a4 18 = .ok (.iload_n 2, 1) := by decide +kernel
theorem dJ5_newCapacity_0f7a4_19 : decode cJ5_newCapacity_0f7a4 19 = .ok (.iload 4, 2) := by decide +kernel
theorem dJ5_newCapacity_0f7a4_21 : decode cJ5_newCapacity_0f7a4 21 = .ok (.iload_n 2, 1) := by decide +kernel
theorem dJ5_newCapacity_0f7a4_22 : decode cJ5_newCapacity_0f7a4 22 = .ok (.iconst 2, 1) := by decide +kernel
theorem dJ5_newCapacity_0f7a4_23 : decode cJ5_newCapacity_0f7a4 23 = .ok (.aload_n 0, 1) := by decide +kernel
theorem dJ5_newCapacity_0f7a4_24 : decode cJ5_newCapacity_0f7a4 24 = .ok (.getfield 22, 3) := by decide +kernel
theorem dJ5_newCapacity_0f7a4_27 : decode cJ5_newCapacity_0f7a4 27 = .ok (.ishl, 1) := by decide +kernel
theorem dJ5_newCapacity_0f7a4_28 : decode cJ5_newCapacity_0f7a4 28 = .ok (.iadd, 1) := by decide +kernel
theorem dJ5_newCapacity_0f7a4_29 : decode cJ5_newCapacity_0f7a4 29 = .ok (.invokestatic 114, 3) := by decide +kernel
theorem dJ5_newCapacity_0f7a4_32 : decode cJ5_newCapacity_0f7a4 32 = .ok (.istore 5, 2) := by decide +kernel
theorem dJ5_newCapacity_0f7a4_34 : decode cJ5_newCapacity_0f7a4 34 = .ok (.iload 5, 2) := by decide +kernel
theorem dJ5_newCapacity_0f7a4_36 : decode cJ5_newCapacity_0f7a4 36 = .ok (.ldc 39, 2) := by decide +kernel
theorem dJ5_newCapacity_0f7a4_38 : decode cJ5_newCapacity_0f7a4 38 = .ok (.if_icmp .ne 13, 3) := by decide +kernel
theorem dJ5_newCapacity_0f7a4_41 : decode cJ5_newCapacity_0f7a4 41 = .ok (.new 120, 3) := by decide +kernel
theorem dJ5_newCapacity_0f7a4_44 : decode cJ5_newCapacity_0f7a4 44 = .ok (.dup, 1) := by decide +kernel
theorem dJ5_newCapacity_0f7a4_45 : decode cJ5_newCapacity_0f7a4 45 = .ok (.ldc 122, 2) := by decide +kernel
theorem dJ5_newCapacity_0f7a4_47 : decode cJ5_newCapacity_0f7a4 47 = .ok (.invokespecial 124, 3) := by decide +kernel
theorem dJ5_newCapacity_0f7a4_50 : decode cJ5_newCapacity_0f7a4 50 = .ok (.athrow, 1) := by decide +kernel
theorem dJ5_newCapacity_0f7a4_51 : decode cJ5_newCapacity_0f7a4 51 = .ok (.iload 5, 2) := by decide +kernel
theorem dJ5_newCapacity_0f7a4_53 : decode cJ5_newCapacity_0f7a4 53 = .ok (.aload_n 0, 1) := by decide +kernel
theorem dJ5_newCapacity_0f7a4_54 : decode cJ5_newCapacity_0f7a4 54 = .ok (.getfield 22, 3) := by decide +kernel
theorem dJ5_newCapacity_0f7a4_57 : decode cJ5_newCapacity_0f7a4 57 = .ok (.ishr, 1) := by decide +kernel
theorem dJ5_newCapacity_0f7a4_58 : decode cJ5_newCapacity_0f7a4 58 = .ok (.ireturn, 1) := by decide +kernel
theorem dJ5_inflate_da8c8_0 : decode cJ5_inflate_da8c8 0 = .ok (.aload_n 0, 1) := by decide +kernel
theorem dJ5_inflate_da8c8_1 : decode cJ5_inflate_da8c8 1 = .ok (.invokevirtual 83, 3) := by decide +kernel
theorem dJ5_inflate_da8c8_4 : decode cJ5_inflate_da8c8 4 = .ok (.ifCond .ne 4, 3) := by decide +kernel
theorem dJ5_inflate_da8c8_7 : decode cJ5_inflate_da8c8 7 = .ok (.return_, 1) := by decide +kernel
theorem dJ5_inflate_da8c8_8 : decode cJ5_inflate_da8c8 8 = .ok (.aload_n 0, 1) := by decide +kernel
theorem dJ5_inflate_da8c8_9 : decode cJ5_inflate_da8c8 9 = .ok (.getfield 15, 3) := by decide +kernel
theorem dJ5_inflate_da8c8_12 : decode cJ5_inflate_da8c8 12 = .ok (.arraylength, 1) := by decide +kernel
theorem dJ5_inflate_da8c8_13 : decode cJ5_inflate_da8c8 13 = .ok (.invokestatic 26, 3) := by decide +kernel
theorem dJ5_inflate_da8c8_16 : decode cJ5_inflate_da8c8 16 = .ok (.astore_n 1, 1) := by decide +kernel
theorem dJ5_inflate_da8c8_17 : decode cJ5_inflate_da8c8 17 = .ok (.aload_n 0, 1) := by decide +kernel
theorem dJ5_inflate_da8c8_18 : decode cJ5_inflate_da8c8 18 = .ok (.getfield 15, 3) := by decide +kernel
theorem dJ5_inflate_da8c8_21 : decode cJ5_inflate_da8c8 21 = .ok (.iconst 0, 1) := by decide +kernel
theorem dJ5_inflate_da8c8_22 : decode cJ5_inflate_da8c8 22 = .ok (.aload_n 1, 1) := by decide +kernel
theorem dJ5_inflate_da8c8_23 : decode cJ5_inflate_da8c8 23 = .ok (.iconst 0, 1) := by decide +kernel
theorem dJ5_inflate_da8c8_24 : decode cJ5_inflate_da8c8 24 = .ok (.aload_n 0, 1) := by decide +kernel
theorem dJ5_inflate_da8c8_25 : decode cJ5_inflate_da8c8 25 = .ok (.getfield 79, 3) := by decide +kernel
theorem dJ5_inflate_da8c8_28 : decode cJ5_inflate_da8c8 28 = .ok (.invokestatic 125, 3) := by decide +kernel
theorem dJ5_inflate_da8c8_31 : decode cJ5_inflate_da8c8 31 = .ok (.aload_n 0, 1) := by decide +kernel
theorem dJ5_inflate_da8c8_32 : decode cJ5_inflate_da8c8 32 = .ok (.aload_n 1, 1) := by decide +kernel
theorem dJ5_inflate_da8c8_33 : decode cJ5_inflate_da8c8 33 = .ok (.putfield 15, 3) := by decide +kernel
theorem dJ5_inflate_da8c8_36 : decode cJ5_inflate_da8c8 36 = .ok (.aload_n 0, 1) := by decide +kernel
theorem dJ5_inflate_da8c8_37 : decode cJ5_inflate_da8c8 37 = .ok (.iconst 1, 1) := by decide +kernel
theorem dJ5_inflate_da8c8_38 : decode cJ5_inflate_da8c8 38 = .ok (.putfield 22, 3) := by decide +kernel
theorem dJ5_inflate_da8c8_41 : decode cJ5_inflate_da8c8 41 = .ok (.return_, 1) := by decide +kernel
theorem dJ5_append_cf1ce_0 : decode cJ5_append_cf1ce 0 = .ok (.aload_n 1, 1) := by decide +kernel
theorem dJ5_append_cf1ce_1 : decode cJ5_append_cf1ce 1 = .ok (.ifnonnull 8, 3) := by decide +kernel
theorem dJ5_append_cf1ce_4 : decode cJ5_append_cf1ce 4 = .ok (.aload_n 0, 1) := by decide +kernel
theorem dJ5_append_cf1ce_5 : decode cJ5_append_cf1ce 5 = .ok (.invokevirtual 204, 3) := by decide +kernel
theorem dJ5_append_cf1ce_8 : decode cJ5_append_cf1ce 8 = .ok (.areturn, 1) := by decide +kernel
theorem dJ5_append_cf1ce_9 : decode cJ5_append_cf1ce 9 = .ok (.aload_n 1, 1) := by decide +kernel
theorem dJ5_append_cf1ce_10 : decode cJ5_append_cf1ce 10 = .ok (.invokevirtual 32, 3) := by decide +kernel
theorem dJ5_append_cf1ce_13 : decode cJ5_append_cf1ce 13 = .ok (.istore_n 2, 1) := by decide +kernel
theorem dJ5_append_cf1ce_14 : decode cJ5_append_cf1ce 14 = .ok (.aload_n 0, 1) := by decide +kernel
theorem dJ5_append_cf1ce_15 : decode cJ5_append_cf1ce 15 = .ok (.aload_n 0, 1) := by decide +kernel
theorem dJ5_append_cf1ce_16 : decode cJ5_append_cf1ce 16 = .ok (.getfield 79, 3) := by decide +kernel
theorem dJ5_append_cf1ce_19 : decode cJ5_append_cf1ce 19 = .ok (.iload_n 2, 1) := by decide +kernel
theorem dJ5_append_cf1ce_20 : decode cJ5_append_cf1ce 20 = .ok (.iadd, 1) := by decide +kernel
theorem dJ5_append_cf1ce_21 : decode cJ5_append_cf1ce 21 = .ok (.invokevirtual 100, 3) := by decide +kernel
theorem dJ5_append_cf1ce_24 : decode cJ5_append_cf1ce 24 = .ok (.aload_n 0, 1) := by decide +kernel
theorem dJ5_append_cf1ce_25 : decode cJ5_append_cf1ce 25 = .ok (.aload_n 0, 1) := by decide +kernel
theorem dJ5_append_cf1ce_26 : decode cJ5_append_cf1ce 26 = .ok (.getfield 79, 3) := by decide +kernel
theorem dJ5_append_cf1ce_29 : decode cJ5_append_cf1ce 29 = .ok (.aload_n 1, 1) := by decide +kernel
theorem dJ5_append_cf1ce_30 : decode cJ5_append_cf1ce 30 = .ok (.invokevirtual 208, 3) := by decide +kernel
theorem dJ5_append_cf1ce_33 : decode cJ5_append_cf1ce 33 = .ok (.aload_n 0, 1) := by decide +kernel
theorem dJ5_append_cf1ce_34 : decode cJ5_append_cf1ce 34 = .ok (.dup, 1) := by decide +kernel
theorem dJ5_append_cf1ce_35 : decode cJ5_append_cf1ce 35 = .ok (.getfield 79, 3) := by decide +kernel
theorem dJ5_append_cf1ce_38 : decode cJ5_append_cf1ce 38 = .ok (.iload_n 2, 1) := by decide +kernel
theorem dJ5_append_cf1ce_39 : decode cJ5_append_cf1ce 39 = .ok (.iadd, 1) := by decide +kernel
theorem dJ5_append_cf1ce_40 : decode cJ5_append_cf1ce 40 = .ok (.putfield 79, 3) := by decide +kernel
theorem dJ5_append_cf1ce_43 : decode cJ5_append_cf1ce 43 = .ok (.aload_n 0, 1) := by decide +kernel
theorem dJ5_append_cf1ce_44 : decode cJ5_append_cf1ce 44 = .ok (.areturn, 1) := by decide +kernel
theorem dJ5_appendNull_278bc_0 : decode cJ5_appendNull_278bc 0 = .ok (.aload_n 0, 1) := by decide +kernel
theorem dJ5_appendNull_278bc_1 : decode cJ5_appendNull_278bc 1 = .ok (.aload_n 0, 1) := by decide +kernel
theorem dJ5_appendNull_278bc_2 : decode cJ5_appendNull_278bc 2 = .ok (.getfield 79, 3) := by decide +kernel
theorem dJ5_appendNull_278bc_5 : decode cJ5_appendNull_278bc 5 = .ok (.iconst 4, 1) := by decide +kernel
theorem dJ5_appendNull_278bc_6 : decode cJ5_appendNull_278bc 6 = .ok (.iadd, 1) := by decide +kernel
theorem dJ5_appendNull_278bc_7 : decode cJ5_appendNull_278bc 7 = .ok (.invokevirtual 100, 3) := by decide +kernel
theorem dJ5_appendNull_278bc_10 : decode cJ5_appendNull_278bc 10 = .ok (.aload_n 0, 1) := by decide +kernel
theorem dJ5_appendNull_278bc_11 : decode cJ5_appendNull_278bc 11 = .ok (.getfield 79, 3) := by decide +kernel
theorem dJ5_appendNull_278bc_14 : decode cJ5_appendNull_278bc 14 = .ok (.istore_n 1, 1) := by decide +kernel
theorem dJ5_appendNull_278bc_15 : decode cJ5_appendNull_278bc 15 = .ok (.aload_n 0, 1) := by decide +kernel
theorem dJ5_appendNull_278bc_16 : decode cJ5_appendNull_278bc 16 = .ok (.getfield 15, 3) := by decide +kernel
theorem dJ5_appendNull_278bc_19 : decode cJ5_appendNull_278bc 19 = .ok (.astore_n 2, 1) := by decide +kernel
theorem dJ5_appendNull_278bc_20 : decode cJ5_appendNull_278bc 20 = .ok (.aload_n 0, 1) := by decide +kernel
theorem dJ5_appendNull_278bc_21 : decode cJ5_appendNull_278bc 21 = .ok (.invokevirtual 83, 3) := by decide +kernel
theorem dJ5_appendNull_278bc_24 : decode cJ5_appendNull_278bc 24 = .ok (.ifCond .eq 38, 3) := by decide +kernel
theorem dJ5_appendNull_278bc_27 : decode cJ5_appendNull_278bc 27 = .ok (.aload_n 2, 1) := by decide +kernel
theorem dJ5_appendNull_278bc_28 : decode cJ5_appendNull_278bc 28 = .ok (.iload_n 1, 1) := by decide +kernel
theorem dJ5_appendNull_278bc_29 : decode cJ5_appendNull_278bc 29 = .ok (.iinc 1 1, 3) := by decide +kernel
theorem dJ5_appendNull_278bc_32 : decode cJ5_appendNull_278bc 32 = .ok (.bipush 110, 2) := by decide +kernel
theorem dJ5_appendNull_278bc_34 : decode cJ5_appendNull_278bc 34 = .ok (.bastore, 1) := by decide +kernel
theorem dJ5_appendNull_278bc_35 : decode cJ5_appendNull_278bc 35 = .ok (.aload_n 2, 1) := by decide +kernel
theorem dJ5_appendNull_278bc_36 : decode cJ5_appendNull_278bc 36 = .ok (.iload_n 1, 1) := by decide +kernel
theorem dJ5_appendNull_278bc_37 : decode cJ5_appendNull_278bc 37 = .ok (.iinc 1 1, 3) := by decide +kernel
theorem dJ5_appendNull_278bc_40 : decode cJ5_appendNull_278bc 40 = .ok (.bipush 117, 2) := by decide +kernel
theorem dJ5_appendNull_278bc_42 : decode cJ5_appendNull_278bc 42 = .ok (.bastore, 1) := by decide +kernel
theorem dJ5_appendNull_278bc_43 : decode cJ5_appendNull_278bc 43 = .ok (.aload_n 2, 1) := by decide +kernel
theorem dJ5_appendNull_278bc_44 : decode cJ5_appendNull_278bc 44 = .ok (.iload_n 1, 1) := by decide +kernel
theorem dJ5_appendNull_278bc_45 : decode cJ5_appendNull_278bc 45 = .ok (.iinc 1 1, 3) := by decide +kernel
theorem dJ5_appendNull_278bc_48 : decode cJ5_appendNull_278bc 48 = .ok (.bipush 108, 2) := by decide +kernel
theorem dJ5_appendNull_278bc_50 : decode cJ5_appendNull_278bc 50 = .ok (.bastore, 1) := by decide +kernel
theorem dJ5_appendNull_278bc_51 : decode cJ5_appendNull_278bc 51 = .ok (.aload_n 2, 1) := by decide +kernel
theorem dJ5_appendNull_278bc_52 : decode cJ5_appendNull_278bc 52 = .ok (.iload_n 1, 1) := by decide +kernel
theorem dJ5_appendNull_278bc_53 : decode cJ5_appendNull_278bc 53 = .ok (.iinc 1 1, 3) := by decide +kernel
theorem dJ5_appendNull_278bc_56 : decode cJ5_appendNull_278bc 56 = .ok (.bipush 108, 2) := by decide +kernel
theorem dJ5_appendNull_278bc_58 : decode cJ5_appendNull_278bc 58 = .ok (.bastore, 1) := by decide +kernel
theorem dJ5_appendNull_278bc_59 : decode cJ5_appendNull_278bc 59 = .ok (.goto 17, 3) := by decide +kernel
theorem dJ5_appendNull_278bc_62 : decode cJ5_appendNull_278bc 62 = .ok (.aload_n 2, 1) := by decide +kernel
theorem dJ5_appendNull_278bc_63 : decode cJ5_appendNull_278bc 63 = .ok (.iload_n 1, 1) := by decide +kernel
theorem dJ5_appendNull_278bc_64 : decode cJ5_appendNull_278bc 64 = .ok (.bipush 110, 2) := by decide +kernel
theorem dJ5_appendNull_278bc_66 : decode cJ5_appendNull_278bc 66 = .ok (.bipush 117, 2) := by decide +kernel
theorem dJ5_appendNull_278bc_68 : decode cJ5_appendNull_278bc 68 = .ok (.bipush 108, 2) := by decide +kernel
theorem dJ5_appendNull_278bc_70 : decode cJ5_appendNull_278bc 70 = .ok (.bipush 108, 2) := by decide +kernel
theorem dJ5_appendNull_278bc_72 : decode cJ5_appendNull_278bc 72 = .ok (.invokestatic 226, 3) := by decide +kernel
theorem dJ5_appendNull_278bc_75 : decode cJ5_appendNull_278bc 75 = .ok (.istore_n 1, 1) := by decide +kernel
theorem dJ5_appendNull_278bc_76 : decode cJ5_appendNull_278bc 76 = .ok (.aload_n 0, 1) := by decide +kernel
theorem dJ5_appendNull_278bc_77 : decode cJ5_appendNull_278bc 77 = .ok (.iload_n 1, 1) := by decide +kernel
theorem dJ5_appendNull_278bc_78 : decode cJ5_appendNull_278bc 78 = .ok (.putfield 79, 3) := by decide +kernel
theorem dJ5_appendNull_278bc_81 : decode cJ5_appendNull_278bc 81 = .ok (.aload_n 0, 1) := by decide +kernel
theorem dJ5_appendNull_278bc_82 : decode cJ5_appendNull_278bc 82 = .ok (.areturn, 1) := by decide +kernel
theorem dJ5_append_3fe6f_0 : decode cJ5_append_3fe6f 0 = .ok (.aload_n 0, 1) := by decide +kernel
theorem dJ5_append_3fe6f_1 : decode cJ5_append_3fe6f 1 = .ok (.aload_n 0, 1) := by decide +kernel
theorem dJ5_append_3fe6f_2 : decode cJ5_append_3fe6f 2 = .ok (.getfield 79, 3) := by decide +kernel
theorem dJ5_append_3fe6f_5 : decode cJ5_append_3fe6f 5 = .ok (.iconst 1, 1) := by decide +kernel
theorem dJ5_append_3fe6f_6 : decode cJ5_append_3fe6f 6 = .ok (.iadd, 1) := by decide +kernel
theorem dJ5_append_3fe6f_7 : decode cJ5_append_3fe6f 7 = .ok (.invokevirtual 100, 3) := by decide +kernel
theorem dJ5_append_3fe6f_10 : decode cJ5_append_3fe6f 10 = .ok (.aload_n 0, 1) := by decide +kernel
theorem dJ5_append_3fe6f_11 : decode cJ5_append_3fe6f 11 = .ok (.invokevirtual 83, 3) := by decide +kernel
theorem dJ5_append_3fe6f_14 : decode cJ5_append_3fe6f 14 = .ok (.ifCond .eq 31, 3) := by decide +kernel
theorem dJ5_append_3fe6f_17 : decode cJ5_append_3fe6f 17 = .ok (.iload_n 1, 1) := by decide +kernel
theorem dJ5_append_3fe6f_18 : decode cJ5_append_3fe6f 18 = .ok (.invokestatic 191, 3) := by decide +kernel
theorem dJ5_append_3fe6f_21 : decode cJ5_append_3fe6f 21 = .ok (.ifCond .eq 24, 3) := by decide +kernel
theorem dJ5_append_3fe6f_24 : decode cJ5_append_3fe6f 24 = .ok (.aload_n 0, 1) := by decide +kernel
theorem dJ5_append_3fe6f_25 : decode cJ5_append_3fe6f 25 = .ok (.getfield 15, 3) := by decide +kernel
theorem dJ5_append_3fe6f_28 : decode cJ5_append_3fe6f 28 = .ok (.aload_n 0, 1) := by decide +kernel
theorem dJ5_append_3fe6f_29 : decode cJ5_append_3fe6f 29 = .ok (.dup, 1) := by decide +kernel
theorem dJ5_append_3fe6f_30 : decode cJ5_append_3fe6f 30 = .ok (.getfield 79, 3) := by decide +kernel
theorem dJ5_append_3fe6f_33 : decode cJ5_append_3fe6f 33 = .ok (.dup_x1, 1) := by decide +kernel
theorem dJ5_append_3fe6f_34 : decode cJ5_append_3fe6f 34 = .ok (.iconst 1, 1) := by decide +kernel
theorem dJ5_append_3fe6f_35 : decode cJ5_append_3fe6f 35 = .ok (.iadd, 1) := by decide +kernel
theorem dJ5_append_3fe6f_36 : decode cJ5_append_3fe6f 36 = .ok (.putfield 79, 3) := by decide +kernel
theorem dJ5_append_3fe6f_39 : decode cJ5_append_3fe6f 39 = .ok (.iload_n 1, 1) := by decide +kernel
theorem dJ5_append_3fe6f_40 : decode cJ5_append_3fe6f 40 = .ok (.i2b, 1) := by decide +kernel
theorem dJ5_append_3fe6f_41 : decode cJ5_append_3fe6f 41 = .ok (.bastore, 1) := by decide +kernel
theorem dJ5_append_3fe6f_42 : decode cJ5_append_3fe6f 42 = .ok (.goto 33, 3) := by decide +kernel
theorem dJ5_append_3fe6f_45 : decode cJ5_append_3fe6f 45 = .ok (.aload_n 0, 1) := by decide +kernel
theorem dJ5_append_3fe6f_46 : decode cJ5_append_3fe6f 46 = .ok (.invokevirtual 83, 3) := by decide +kernel
theorem dJ5_append_3fe6f_49 : decode cJ5_append_3fe6f 49 = .ok (.ifCond .eq 7, 3) := by decide +kernel
theorem dJ5_append_3fe6f_52 : decode cJ5_append_3fe6f 52 = .ok (.aload_n 0, 1) := by decide +kernel
theorem dJ5_append_3fe6f_53 : decode cJ5_append_3fe6f 53 = .ok (.invokevirtual 195, 3) := by decide +kernel
theorem dJ5_append_3fe6f_56 : decode cJ5_append_3fe6f 56 = .ok (.aload_n 0, 1) := by decide +kernel
theorem dJ5_append_3fe6f_57 : decode cJ5_append_3fe6f 57 = .ok (.getfield 15, 3) := by decide +kernel
theorem dJ5_append_3fe6f_60 : decode cJ5_append_3fe6f 60 = .ok (.aload_n 0, 1) := by decide +kernel
theorem dJ5_append_3fe6f_61 : decode cJ5_append_3fe6f 61 = .ok (.dup, 1) := by decide +kernel
theorem dJ5_append_3fe6f_62 : decode cJ5_append_3fe6f 62 = .ok (.getfield 79, 3) := by decide +kernel
theorem dJ5_append_3fe6f_65 : decode cJ5_append_3fe6f 65 = .ok (.dup_x1, 1) := by decide +kernel
theorem dJ5_append_3fe6f_66 : decode cJ5_append_3fe6f 66 = .ok (.iconst 1, 1) := by decide +kernel
theorem dJ5_append_3fe6f_67 : decode cJ5_append_3fe6f 67 = .ok (.iadd, 1) := by decide +kernel
theorem dJ5_append_3fe6f_68 : decode cJ5_append_3fe6f 68 = .ok (.putfield 79, 3) := by decide +kernel
theorem dJ5_append_3fe6f_71 : decode cJ5_append_3fe6f 71 = .ok (.iload_n 1, 1) := by decide +kernel
theorem dJ5_append_3fe6f_72 : decode cJ5_append_3fe6f 72 = .ok (.invokestatic 197, 3) := by decide +kernel
theorem dJ5_append_3fe6f_75 : decode cJ5_append_3fe6f 75 = .ok (.aload_n 0, 1) := by decide +kernel
theorem dJ5_append_3fe6f_76 : decode cJ5_append_3fe6f 76 = .ok (.areturn, 1) := by decide +kernel
theorem dJ5_append_c97b9_0 : decode cJ5_append_c97b9 0 = .ok (.aload_n 0, 1) := by decide +kernel
theorem dJ5_append_c97b9_1 : decode cJ5_append_c97b9 1 = .ok (.getfield 79, 3) := by decide +kernel
theorem dJ5_append_c97b9_4 : decode cJ5_append_c97b9 4 = .ok (.istore_n 2, 1) := by decide +kernel
theorem dJ5_append_c97b9_5 : decode cJ5_append_c97b9 5 = .ok (.iload_n 2, 1) := by decide +kernel
theorem dJ5_append_c97b9_6 : decode cJ5_append_c97b9 6 = .ok (.iload_n 1, 1) := by decide +kernel
theorem dJ5_append_c97b9_7 : decode cJ5_append_c97b9 7 = .ok (.invokestatic 245, 3) := by decide +kernel
theorem dJ5_append_c97b9_10 : decode cJ5_append_c97b9 10 = .ok (.iadd, 1) := by decide +kernel
theorem dJ5_append_c97b9_11 : decode cJ5_append_c97b9 11 = .ok (.istore_n 3, 1) := by decide +kernel
theorem dJ5_append_c97b9_12 : decode cJ5_append_c97b9 12 = .ok (.aload_n 0, 1) := by decide +kernel
theorem dJ5_append_c97b9_13 : decode cJ5_append_c97b9 13 = .ok (.iload_n 3, 1) := by decide +kernel
theorem dJ5_append_c97b9_14 : decode cJ5_append_c97b9 14 = .ok (.invokevirtual 100, 3) := by decide +kernel
theorem dJ5_append_c97b9_17 : decode cJ5_append_c97b9 17 = .ok (.aload_n 0, 1) := by decide +kernel
theorem dJ5_append_c97b9_18 : decode cJ5_append_c97b9 18 = .ok (.invokevirtual 83, 3) := by decide +kernel
theorem dJ5_append_c97b9_21 : decode cJ5_append_c97b9 21 = .ok (.ifCond .eq 16, 3) := by decide +kernel
theorem dJ5_append_c97b9_24 : decode cJ5_append_c97b9 24 = .ok (.iload_n 1, 1) := by decide +kernel
theorem dJ5_append_c97b9_25 : decode cJ5_append_c97b9 25 = .ok (.iload_n 3, 1) := by decide +kernel
theorem dJ5_append_c97b9_26 : decode cJ5_append_c97b9 26 = .ok (.aload_n 0, 1) := by decide +kernel
theorem dJ5_append_c97b9_27 : decode cJ5_append_c97b9 27 = .ok (.getfield 15, 3) := by decide +kernel
theorem dJ5_append_c97b9_30 : decode cJ5_append_c97b9 30 = .ok (.invokestatic 248, 3) := by decide +kernel
theorem dJ5_append_c97b9_33 : decode cJ5_append_c97b9 33 = .ok (.pop, 1) := by decide +kernel
theorem dJ5_append_c97b9_34 : decode cJ5_append_c97b9 34 = .ok (.goto 14, 3) := by decide +kernel
theorem dJ5_append_c97b9_37 : decode cJ5_append_c97b9 37 = .ok (.iload_n 1, 1) := by decide +kernel
theorem dJ5_append_c97b9_38 : decode cJ5_append_c97b9 38 = .ok (.iload_n 2, 1) := by decide +kernel
theorem dJ5_append_c97b9_39 : decode cJ5_append_c97b9 39 = .ok (.iload_n 3, 1) := by decide +kernel
theorem dJ5_append_c97b9_40 : decode cJ5_append_c97b9 40 = .ok (.aload_n 0, 1) := by decide +kernel
theorem dJ5_append_c97b9_41 : decode cJ5_append_c97b9 41 = .ok (.getfield 15, 3) := by decide +kernel
theorem dJ5_append_c97b9_44 : decode cJ5_append_c97b9 44 = .ok (.invokestatic 251, 3) := by decide +kernel
theorem dJ5_append_c97b9_47 : decode cJ5_append_c97b9 47 = .ok (.pop, 1) := by decide +kernel
theorem dJ5_append_c97b9_48 : decode cJ5_append_c97b9 48 = .ok (.aload_n 0, 1) := by decide +kernel
theorem dJ5_append_c97b9_49 : decode cJ5_append_c97b9 49 = .ok (.iload_n 3, 1) := by decide +kernel
theorem dJ5_append_c97b9_50 : decode cJ5_append_c97b9 50 = .ok (.putfield 79, 3) := by decide +kernel
theorem dJ5_append_c97b9_53 : decode cJ5_append_c97b9 53 = .ok (.aload_n 0, 1) := by decide +kernel
theorem dJ5_append_c97b9_54 : decode cJ5_append_c97b9 54 = .ok (.areturn, 1) := by decide +kernel
theorem dJ5_getValue_6d5f1_0 : decode cJ5_getValue_6d5f1 0 = .ok (.aload_n 0, 1) := by decide +kernel
theorem dJ5_getValue_6d5f1_1 : decode cJ5_getValue_6d5f1 1 = .ok (.getfield 15, 3) := by decide +kernel
theorem dJ5_getValue_6d5f1_4 : decode cJ5_getValue_6d5f1 4 = .ok (.areturn, 1) := by decide +kernel
theorem dJ5_isLatin1_aae02_0 : decode cJ5_isLatin1_aae02 0 = .ok (.getstatic 18, 3) := by decide +kernel
theorem dJ5_isLatin1_aae02_3 : decode cJ5_isLatin1_aae02 3 = .ok (.ifCond .eq 14, 3) := by decide +kernel
theorem dJ5_isLatin1_aae02_6 : decode cJ5_isLatin1_aae02 6 = .ok (.aload_n 0, 1) := by decide +kernel
theorem dJ5_isLatin1_aae02_7 : decode cJ5_isLatin1_aae02 7 = .ok (.getfield 22, 3) := by decide +kernel
theorem dJ5_isLatin1_aae02_10 : decode cJ5_isLatin1_aae02 10 = .ok (.ifCond .ne 7, 3) := by decide +kernel
theorem dJ5_isLatin1_aae02_13 : decode cJ5_isLatin1_aae02 13 = .ok (.iconst 1, 1) := by decide +kernel
theorem dJ5_isLatin1_aae02_14 : decode cJ5_isLatin1_aae02 14 = .ok (.goto 4, 3) := by decide +kernel
theorem dJ5_isLatin1_aae02_17 : decode cJ5_isLatin1_aae02 17 = .ok (.iconst 0, 1) := by decide +kernel
theorem dJ5_isLatin1_aae02_18 : decode cJ5_isLatin1_aae02 18 = .ok (.ireturn, 1) := by decide +kernel
theorem dJ5_inflateIfNeededFor_a7421_0 : decode cJ5_inflateIfNeededFor_a7421 0 = .ok (.getstatic 18, 3) := by decide +kernel
theorem dJ5_inflateIfNeededFor_a7421_3 : decode cJ5_inflateIfNeededFor_a7421 3 = .ok (.ifCond .eq 18, 3) := by decide +kernel
theorem dJ5_inflateIfNeededFor_a7421_6 : decode cJ5_inflateIfNeededFor_a7421 6 = .ok (.aload_n 0, 1) := by decide +kernel
theorem dJ5_inflateIfNeededFor_a7421_7 : decode cJ5_inflateIfNeededFor_a7421 7 = .ok (.getfield 22, 3) := by decide +kernel
theorem dJ5_inflateIfNeededFor_a7421_10 : decode cJ5_inflateIfNeededFor_a7421 10 = .ok (.aload_n 1, 1) := by decide +kernel
theorem dJ5_inflateIfNeededFor_a7421_11 : decode cJ5_inflateIfNeededFor_a7421 11 = .ok (.invokevirtual 40, 3) := by decide +kernel
theorem dJ5_inflateIfNeededFor_a7421_14 : decode cJ5_inflateIfNeededFor_a7421 14 = .ok (.if_icmp .eq 7, 3) := by decide +kernel
theorem dJ5_inflateIfNeededFor_a7421_17 : decode cJ5_inflateIfNeededFor_a7421 17 = .ok (.aload_n 0, 1) := by decide +kernel
theorem dJ5_inflateIfNeededFor_a7421_18 : decode cJ5_inflateIfNeededFor_a7421 18 = .ok (.invokevirtual 195, 3) := by decide +kernel
theorem dJ5_inflateIfNeededFor_a7421_21 : decode cJ5_inflateIfNeededFor_a7421 21 = .ok (.return_, 1) := by decide +kernel
theorem dJ5_putStringAt_47b60_0 : decode cJ5_putStringAt_47b60 0 = .ok (.aload_n 0, 1) := by decide +kernel
theorem dJ5_putStringAt_47b60_1 : decode cJ5_putStringAt_47b60 1 = .ok (.aload_n 2, 1) := by decide +kernel
theorem dJ5_putStringAt_47b60_2 : decode cJ5_putStringAt_47b60 2 = .ok (.invokevirtual 397, 3) := by decide +kernel
theorem dJ5_putStringAt_47b60_5 : decode cJ5_putStringAt_47b60 5 = .ok (.aload_n 2, 1) := by decide +kernel
theorem dJ5_putStringAt_47b60_6 : decode cJ5_putStringAt_47b60 6 = .ok (.aload_n 0, 1) := by decide +kernel
theorem dJ5_putStringAt_47b60_7 : decode cJ5_putStringAt_47b60 7 = .ok (.getfield 15, 3) := by decide +kernel
theorem dJ5_putStringAt_47b60_10 : decode cJ5_putStringAt_47b60 10 = .ok (.iload_n 1, 1) := by decide +kernel
theorem dJ5_putStringAt_47b60_11 : decode cJ5_putStringAt_47b60 11 = .ok (.aload_n 0, 1) := by decide +kernel
theorem dJ5_putStringAt_47b60_12 : decode cJ5_putStringAt_47b60 12 = .ok (.getfield 22, 3) := by decide +kernel
theorem dJ5_putStringAt_47b60_15 : decode cJ5_putStringAt_47b60 15 = .ok (.invokevirtual 399, 3) := by decide +kernel
theorem dJ5_putStringAt_47b60_18 : decode cJ5_putStringAt_47b60 18 = .ok (.return_, 1) := by decide +kernel
theorem dJ6_getChars_ba4f3_0 : decode cJ6_getChars_ba4f3 0 = .ok (.iload_n 1, 1) := by decide +kernel
theorem dJ6_getChars_ba4f3_1 : decode cJ6_getChars_ba4f3 1 = .ok (.istore 5, 2) := by decide +kernel
theorem dJ6_getChars_ba4f3_3 : decode cJ6_getChars_ba4f3 3 = .ok (.iload_n 0, 1) := by decide +kernel
theorem dJ6_getChars_ba4f3_4 : decode cJ6_getChars_ba4f3 4 = .ok (.ifCond .ge 7, 3) := by decide +kernel
theorem dJ6_getChars_ba4f3_7 : decode cJ6_getChars_ba4f3 7 = .ok (.iconst 1, 1) := by decide +kernel
theorem dJ6_getChars_ba4f3_8 : decode cJ6_getChars_ba4f3 8 = .ok (.goto 4, 3) := by decide +kernel
theorem dJ6_getChars_ba4f3_11 : decode cJ6_getChars_ba4f3 11 = .ok (.iconst 0, 1) := by decide +kernel
theorem dJ6_getChars_ba4f3_12 : decode cJ6_getChars_ba4f3 12 = .ok (.istore 6, 2) := by decide +kernel
theorem dJ6_getChars_ba4f3_14 : decode cJ6_getChars_ba4f3 14 = .ok (.iload 6, 2) := by decide +kernel
theorem dJ6_getChars_ba4f3_16 : decode cJ6_getChars_ba4f3 16 = .ok (.ifCond .ne 6, 3) := by decide +kernel
theorem dJ6_getChars_ba4f3_19 : decode cJ6_getChars_ba4f3 19 = .ok (.iload_n 0, 1) := by decide +kernel
theorem dJ6_getChars_ba4f3_20 : decode cJ6_getChars_ba4f3 20 = .ok (.ineg, 1) := by decide +kernel
theorem dJ6_getChars_ba4f3_21 : decode cJ6_getChars_ba4f3 21 = .ok (.istore_n 0, 1) := by decide +kernel
theorem dJ6_getChars_ba4f3_22 : decode cJ6_getChars_ba4f3 22 = .ok (.iload_n 0, 1) := by decide +kernel
theorem dJ6_getChars_ba4f3_23 : decode cJ6_getChars_ba4f3 23 = .ok (.bipush (-100), 2) := by decide +kernel
theorem dJ6_getChars_ba4f3_25 : decode cJ6_getChars_ba4f3 25 = .ok (.if_icmp .gt 47, 3) := by decide +kernel
theorem dJ6_getChars_ba4f3_28 : decode cJ6_getChars_ba4f3 28 = .ok (.iload_n 0, 1) := by decide +kernel
theorem dJ6_getChars_ba4f3_29 : decode cJ6_getChars_ba4f3 29 = .ok (.bipush 100, 2) := by decide +kernel
theorem dJ6_getChars_ba4f3_31 : decode cJ6_getChars_ba4f3 31 = .ok (.idiv, 1) := by decide +kernel
theorem dJ6_getChars_ba4f3_32 : decode cJ6_getChars_ba4f3 32 = .ok (.istore_n 3, 1) := by decide +kernel
theorem dJ6_getChars_ba4f3_33 : decode cJ6_getChars_ba4f3 33 = .ok (.iload_n 3, 1) := by decide +kernel
theorem dJ6_getChars_ba4f3_34 : decode cJ6_getChars_ba4f3 34 = .ok (.bipush 100, 2) := by decide +kernel
theorem dJ6_getChars_ba4f3_36 : decode cJ6_getChars_ba4f3 36 = .ok (.imul, 1) := by decide +kernel
theorem dJ6_getChars_ba4f3_37 : decode cJ6_getChars_ba4f3 37 = .ok (.iload_n 0, 1) := by decide +kernel
theorem dJ6_getChars_ba4f3_38 : decode cJ6_getChars_ba4f3 38 = .ok (.isub, 1) := by decide +kernel
theorem dJ6_getChars_ba4f3_39 : decode cJ6_getChars_ba4f3 39 = .ok (.istore 4, 2) := by decide +kernel
theorem dJ6_getChars_ba4f3_41 : decode cJ6_getChars_ba4f3 41 = .ok (.iload_n 3, 1) := by decide +kernel
theorem dJ6_getChars_ba4f3_42 : decode cJ6_getChars_ba4f3 42 = .ok (.istore_n 0, 1) := by decide +kernel
theorem dJ6_getChars_ba4f3_43 : decode cJ6_getChars_ba4f3 43 = .ok (.aload_n 2, 1) := by decide +kernel
theorem dJ6_getChars_ba4f3_44 : decode cJ6_getChars_ba4f3 44 = .ok (.iinc 5 (-1), 3) := by decide +kernel
theorem dJ6_getChars_ba4f3_47 : decode cJ6_getChars_ba4f3 47 = .ok (.iload 5, 2) := by decide +kernel
theorem dJ6_getChars_ba4f3_49 : decode cJ6_getChars_ba4f3 49 = .ok (.getstatic 83, 3) := by decide +kernel
theorem dJ6_getChars_ba4f3_52 : decode cJ6_getChars_ba4f3 52 = .ok (.iload 4, 2) := by decide +kernel
theorem dJ6_getChars_ba4f3_54 : decode cJ6_getChars_ba4f3 54 = .ok (.baload, 1) := by decide +kernel
theorem dJ6_getChars_ba4f3_55 : decode cJ6_getChars_ba4f3 55 = .ok (.bastore, 1) := by decide +kernel
theorem dJ6_getChars_ba4f3_56 : decode cJ6_getChars_ba4f3 56 = .ok (.aload_n 2, 1) := by decide +kernel
theorem dJ6_getChars_ba4f3_57 : decode cJ6_getChars_ba4f3 57 = .ok (.iinc 5 (-1), 3) := by decide +kernel
theorem dJ6_getChars_ba4f3_60 : decode cJ6_getChars_ba4f3 60 = .ok (.iload 5, 2) := by decide +kernel
theorem dJ6_getChars_ba4f3_62 : decode cJ6_getChars_ba4f3 62 = .ok (.getstatic 87, 3) := by decide +kernel
theorem dJ6_getChars_ba4f3_65 : decode cJ6_getChars_ba4f3 65 = .ok (.iload 4, 2) := by decide +kernel
theorem dJ6_getChars_ba4f3_67 : decode cJ6_getChars_ba4f3 67 = .ok (.baload, 1) := by decide +kernel
theorem dJ6_getChars_ba4f3_68 : decode cJ6_getChars_ba4f3 68 = .ok (.bastore, 1) := by decide +kernel
theorem dJ6_getChars_ba4f3_69 : decode cJ6_getChars_ba4f3 69 = .ok (.goto (-47), 3) := by decide +kernel
theorem dJ6_getChars_ba4f3_72 : decode cJ6_getChars_ba4f3 72 = .ok (.aload_n 2, 1) := by decide +kernel
theorem dJ6_getChars_ba4f3_73 : decode cJ6_getChars_ba4f3 73 = .ok (.iinc 5 (-1), 3) := by decide +kernel
theorem dJ6_getChars_ba4f3_76 : decode cJ6_getChars_ba4f3 76 = .ok (.iload 5, 2) := by decide +kernel
theorem dJ6_getChars_ba4f3_78 : decode cJ6_getChars_ba4f3 78 = .ok (.getstatic 83, 3) := by decide +kernel
theorem dJ6_getChars_ba4f3_81 : decode cJ6_getChars_ba4f3 81 = .ok (.iload_n 0, 1) := by decide +kernel
theorem dJ6_getChars_ba4f3_82 : decode cJ6_getChars_ba4f3 82 = .ok (.ineg, 1) := by decide +kernel
theorem dJ6_getChars_ba4f3_83 : decode cJ6_getChars_ba4f3 83 = .ok (.baload, 1) := by decide +kernel
theorem dJ6_getChars_ba4f3_84 : decode cJ6_getChars_ba4f3 84 = .ok (.bastore, 1) := by decide +kernel
theorem dJ6_getChars_ba4f3_85 : decode cJ6_getChars_ba4f3 85 = .ok (.iload_n 0, 1) := by decide +kernel
theorem dJ6_getChars_ba4f3_86 : decode cJ6_getChars_ba4f3 86 = .ok (.bipush (-9), 2) := by decide +kernel
theorem dJ6_getChars_ba4f3_88 : decode cJ6_getChars_ba4f3 88 = .ok (.if_icmp .ge 16, 3) := by decide +kernel
theorem dJ6_getChars_ba4f3_91 : decode cJ6_getChars_ba4f3 91 = .ok (.aload_n 2, 1) := by decide +kernel
theorem dJ6_getChars_ba4f3_92 : decode cJ6_getChars_ba4f3 92 = .ok (.iinc 5 (-1), 3) := by decide +kernel
theorem dJ6_getChars_ba4f3_95 : decode cJ6_getChars_ba4f3 95 = .ok (.iload 5, 2) := by decide +kernel
theorem dJ6_getChars_ba4f3_97 : decode cJ6_getChars_ba4f3 97 = .ok (.getstatic 87, 3) := by decide +kernel
theorem dJ6_getChars_ba4f3_100 : decode cJ6_getChars_ba4f3 100 = .ok (.iload_n 0, 1) := by decide +kernel
theorem dJ6_getChars_ba4f3_101 : decode cJ6_getChars_ba4f3 101 = .ok (.ineg, 1) := by decide +kernel
theorem dJ6_getChars_ba4f3_102 : decode cJ6_getChars_ba4f3 102 = .ok (.baload, 1) := by decide +kernel
theorem dJ6_getChars_ba4f3_103 : decode cJ6_getChars_ba4f3 103 = .ok (.bastore, 1) := by decide +kernel
theorem dJ6_getChars_ba4f3_104 : decode cJ6_getChars_ba4f3 104 = .ok (.iload 6, 2) := by decide +kernel
theorem dJ6_getChars_ba4f3_106 : decode cJ6_getChars_ba4f3 106 = .ok (.ifCond .eq 12, 3) := by decide +kernel
theorem dJ6_getChars_ba4f3_109 : decode cJ6_getChars_ba4f3 109 = .ok (.aload_n 2, 1) := by decide +kernel
theorem dJ6_getChars_ba4f3_110 : decode cJ6_getChars_ba4f3 110 = .ok (.iinc 5 (-1), 3) := by decide +kernel
theorem dJ6_getChars_ba4f3_113 : decode cJ6_getChars_ba4f3 113 = .ok (.iload 5, 2) := by decide +kernel
theorem dJ6_getChars_ba4f3_115 : decode cJ6_getChars_ba4f3 115 = .ok (.bipush 45, 2) := by decide +kernel
theorem dJ6_getChars_ba4f3_117 : decode cJ6_getChars_ba4f3 117 = .ok (.bastore, 1) := by decide +kernel
theorem dJ6_getChars_ba4f3_118 : decode cJ6_getChars_ba4f3 118 = .ok (.iload 5, 2) := by decide +kernel
theorem dJ6_getChars_ba4f3_120 : decode cJ6_getChars_ba4f3 120 = .ok (.ireturn, 1) := by decide +kernel
theorem dJ6_stringSize_0f7a4_0 : decode cJ6_stringSize_0f7a4 0 = .ok (.iconst 1, 1) := by decide +kernel
theorem dJ6_stringSize_0f7a4_1 : decode cJ6_stringSize_0f7a4 1 = .ok (.istore_n 1, 1) := by decide +kernel
theorem dJ6_stringSize_0f7a4_2 : decode cJ6_stringSize_0f7a4 2 = .ok (.iload_n 0, 1) := by decide +kernel
theorem dJ6_stringSize_0f7a4_3 : decode cJ6_stringSize_0f7a4 3 = .ok (.ifCond .lt 8, 3) := by decide +kernel
theorem dJ6_stringSize_0f7a4_6 : decode cJ6_stringSize_0f7a4 6 = .ok (.iconst 0, 1) := by decide +kernel
theorem dJ6_stringSize_0f7a4_7 : decode cJ6_stringSize_0f7a4 7 = .ok (.istore_n 1, 1) := by decide +kernel
theorem dJ6_stringSize_0f7a4_8 : decode cJ6_stringSize_0f7a4 8 = .ok (.iload_n 0, 1) := by decide +kernel
theorem dJ6_stringSize_0f7a4_9 : decode cJ6_stringSize_0f7a4 9 = .ok (.ineg, 1) := by decide +kernel
theorem dJ6_stringSize_0f7a4_10 : decode cJ6_stringSize_0f7a4 10 = .ok (.istore_n 0, 1) := by decide +kernel
theorem dJ6_stringSize_0f7a4_11 : decode cJ6_stringSize_0f7a4 11 = .ok (.bipush (-10), 2) := by decide +kernel
theorem dJ6_stringSize_0f7a4_13 : decode cJ6_stringSize_0f7a4 13 = .ok (.istore_n 2, 1) := by decide +kernel
theorem dJ6_stringSize_0f7a4_14 : decode cJ6_stringSize_0f7a4 14 = .ok (.iconst 1, 1) := by decide +kernel
theorem dJ6_stringSize_0f7a4_15 : decode cJ6_stringSize_0f7a4 15 = .ok (.istore_n 3, 1) := by decide +kernel
theorem dJ6_stringSize_0f7a4_16 : decode cJ6_stringSize_0f7a4 16 = .ok (.iload_n 3, 1) := by decide +kernel
theorem dJ6_stringSize_0f7a4_17 : decode cJ6_stringSize_0f7a4 17 = .ok (.bipush 10, 2) := by decide +kernel
theorem dJ6_stringSize_0f7a4_19 : decode cJ6_stringSize_0f7a4 19 = .ok (.if_icmp .ge 23, 3) := by decide +kernel
theorem dJ6_stringSize_0f7a4_22 : decode cJ6_stringSize_0f7a4 22 = .ok (.iload_n 0, 1) := by decide +kernel
theorem dJ6_stringSize_0f7a4_23 : decode cJ6_stringSize_0f7a4 23 = .ok (.iload_n 2, 1) := by decide +kernel
theorem dJ6_stringSize_0f7a4_24 : decode cJ6_stringSize_0f7a4 24 = .ok (.if_icmp .le 7, 3) := by decide +kernel
theorem dJ6_stringSize_0f7a4_27 : decode cJ6_stringSize_0f7a4 27 = .ok (.iload_n 3, 1) := by decide +kernel
theorem dJ6_stringSize_0f7a4_28 : decode cJ6_stringSize_0f7a4 28 = .ok (.iload_n 1, 1) := by decide +kernel
theorem dJ6_stringSize_0f7a4_29 : decode cJ6_stringSize_0f7a4 29 = .ok (.iadd, 1) := by decide +kernel
theorem dJ6_stringSize_0f7a4_30 : decode cJ6_stringSize_0f7a4 30 = .ok (.ireturn, 1) := by decide +kernel
theorem dJ6_stringSize_0f7a4_31 : decode cJ6_stringSize_0f7a4 31 = .ok (.bipush 10, 2) := by decide +kernel
theorem dJ6_stringSize_0f7a4_33 : decode cJ6_stringSize_0f7a4 33 = .ok (.iload_n 2, 1) := by decide +kernel
theorem dJ6_stringSize_0f7a4_34 : decode cJ6_stringSize_0f7a4 34 = .ok (.imul, 1) := by decide +kernel
theorem dJ6_stringSize_0f7a4_35 : decode cJ6_stringSize_0f7a4 35 = .ok (.istore_n 2, 1) := by decide +kernel
theorem dJ6_stringSize_0f7a4_36 : decode cJ6_stringSize_0f7a4 36 = .ok (.iinc 3 1, 3) := by decide +kernel
theorem dJ6_stringSize_0f7a4_39 : decode cJ6_stringSize_0f7a4 39 = .ok (.goto (-23), 3) := by decide +kernel
theorem dJ6_stringSize_0f7a4_42 : decode cJ6_stringSize_0f7a4 42 = .ok (.bipush 10, 2) := by decide +kernel
theorem dJ6_stringSize_0f7a4_44 : decode cJ6_stringSize_0f7a4 44 = .ok (.iload_n 1, 1) := by decide +kernel
theorem dJ6_stringSize_0f7a4_45 : decode cJ6_stringSize_0f7a4 45 = .ok (.iadd, 1) := by decide +kernel
theorem dJ6_stringSize_0f7a4_46 : decode cJ6_stringSize_0f7a4 46 = .ok (.ireturn, 1) := by decide +kernel
theorem dJ9_max_7cf53_0 : decode cJ9_max_7cf53 0 = .ok (.iload_n 0, 1) := by decide +kernel
theorem dJ9_max_7cf53_1 : decode cJ9_max_7cf53 1 = .ok (.iload_n 1, 1) := by decide +kernel
theorem dJ9_max_7cf53_2 : decode cJ9_max_7cf53 2 = .ok (.if_icmp .lt 7, 3) := by decide +kernel
theorem dJ9_max_7cf53_5 : decode cJ9_max_7cf53 5 = .ok (.iload_n 0, 1) := by decide +kernel
theorem dJ9_max_7cf53_6 : decode cJ9_max_7cf53 6 = .ok (.goto 4, 3) := by decide +kernel
theorem dJ9_max_7cf53_9 : decode cJ9_max_7cf53 9 = .ok (.iload_n 1, 1) := by decide +kernel
theorem dJ9_max_7cf53_10 : decode cJ9_max_7cf53 10 = .ok (.ireturn, 1) := by decide +kernel
theorem dJ9_min_7cf53_0 : decode cJ9_min_7cf53 0 = .ok (.iload_n 0, 1) := by decide +kernel
theorem dJ9_min_7cf53_1 : decode cJ9_min_7cf53 1 = .ok (.iload_n 1, 1) := by decide +kernel
theorem dJ9_min_7cf53_2 : decode cJ9_min_7cf53 2 = .ok (.if_icmp .gt 7, 3) := by decide +kernel
theorem dJ9_min_7cf53_5 : decode cJ9_min_7cf53 5 = .ok (.iload_n 0, 1) := by decide +kernel
theorem dJ9_min_7cf53_6 : decode cJ9_min_7cf53 6 = .ok (.goto 4, 3) := by decide +kernel
theorem dJ9_min_7cf53_9 : decode cJ9_min_7cf53 9 = .ok (.iload_n 1, 1) := by decide +kernel
theorem dJ9_min_7cf53_10 : decode cJ9_min_7cf53 10 = .ok (.ireturn, 1) := by decide +kernel
theorem dJ0_init_81219_0 : decode cJ0_init_81219 0 = .ok (.aload_n 0, 1) := by decide +kernel
theorem dJ0_init_81219_1 : decode cJ0_init_81219 1 = .ok (.aload_n 1, 1) := by decide +kernel
theorem dJ0_init_81219_2 : decode cJ0_init_81219 2 = .ok (.aconst_null, 1) := by decide +kernel
theorem dJ0_init_81219_3 : decode cJ0_init_81219 3 = .ok (.invokespecial 489, 3) := by decide +kernel
theorem dJ0_init_81219_6 : decode cJ0_init_81219 6 = .ok (.return_, 1) := by decide +kernel
theorem dJ0_length_8abf5_0 : decode cJ0_length_8abf5 0 = .ok (.aload_n 0, 1) := by decide +kernel
theorem dJ0_length_8abf5_1 : decode cJ0_length_8abf5 1 = .ok (.getfield 9, 3) := by decide +kernel
theorem dJ0_length_8abf5_4 : decode cJ0_length_8abf5 4 = .ok (.arraylength, 1) := by decide +kernel
theorem dJ0_length_8abf5_5 : decode cJ0_length_8abf5 5 = .ok (.aload_n 0, 1) := by decide +kernel
theorem dJ0_length_8abf5_6 : decode cJ0_length_8abf5 6 = .ok (.invokevirtual 335, 3) := by decide +kernel
theorem dJ0_length_8abf5_9 : decode cJ0_length_8abf5 9 = .ok (.ishr, 1) := by decide +kernel
theorem dJ0_length_8abf5_10 : decode cJ0_length_8abf5 10 = .ok (.ireturn, 1) := by decide +kernel
theorem dJ0_charAt_5068e_0 : decode cJ0_charAt_5068e 0 = .ok (.aload_n 0, 1) := by decide +kernel
theorem dJ0_charAt_5068e_1 : decode cJ0_charAt_5068e 1 = .ok (.invokevirtual 492, 3) := by decide +kernel
theorem dJ0_charAt_5068e_4 : decode cJ0_charAt_5068e 4 = .ok (.ifCond .eq 12, 3) := by decide +kernel
theorem dJ0_charAt_5068e_7 : decode cJ0_charAt_5068e 7 = .ok (.aload_n 0, 1) := by decide +kernel
theorem dJ0_charAt_5068e_8 : decode cJ0_charAt_5068e 8 = .ok (.getfield 9, 3) := by decide +kernel
theorem dJ0_charAt_5068e_11 : decode cJ0_charAt_5068e 11 = .ok (.iload_n 1, 1) := by decide +kernel
theorem dJ0_charAt_5068e_12 : decode cJ0_charAt_5068e 12 = .ok (.invokestatic 495, 3) := by decide +kernel
theorem dJ0_charAt_5068e_15 : decode cJ0_charAt_5068e 15 = .ok (.ireturn, 1) := by decide +kernel
theorem dJ0_charAt_5068e_16 : decode cJ0_charAt_5068e 16 = .ok (.aload_n 0, 1) := by decide +kernel
theorem dJ0_charAt_5068e_17 : decode cJ0_charAt_5068e 17 = .ok (.getfield 9, 3) := by decide +kernel
theorem dJ0_charAt_5068e_20 : decode cJ0_charAt_5068e 20 = .ok (.iload_n 1, 1) := by decide +kernel
theorem dJ0_charAt_5068e_21 : decode cJ0_charAt_5068e 21 = .ok (.invokestatic 498, 3) := by decide +kernel
theorem dJ0_charAt_5068e_24 : decode cJ0_charAt_5068e 24 = .ok (.ireturn, 1) := by decide +kernel
theorem dJ0_getBytes_840e7_0 : decode cJ0_getBytes_840e7 0 = .ok (.aload_n 0, 1) := by decide +kernel
theorem dJ0_getBytes_840e7_1 : decode cJ0_getBytes_840e7 1 = .ok (.invokevirtual 335, 3) := by decide +kernel
theorem dJ0_getBytes_840e7_4 : decode cJ0_getBytes_840e7 4 = .ok (.iload_n 3, 1) := by decide +kernel
theorem dJ0_getBytes_840e7_5 : decode cJ0_getBytes_840e7 5 = .ok (.if_icmp .ne 23, 3) := by decide +kernel
theorem dJ0_getBytes_840e7_8 : decode cJ0_getBytes_840e7 8 = .ok (.aload_n 0, 1) := by decide +kernel
theorem dJ0_getBytes_840e7_9 : decode cJ0_getBytes_840e7 9 = .ok (.getfield 9, 3) := by decide +kernel
theorem dJ0_getBytes_840e7_12 : decode cJ0_getBytes_840e7 12 = .ok (.iconst 0, 1) := by decide +kernel
theorem dJ0_getBytes_840e7_13 : decode cJ0_getBytes_840e7 13 = .ok (.aload_n 1, 1) := by decide +kernel
theorem dJ0_getBytes_840e7_14 : decode cJ0_getBytes_840e7 14 = .ok (.iload_n 2, 1) := by decide +kernel
theorem dJ0_getBytes_840e7_15 : decode cJ0_getBytes_840e7 15 = .ok (.iload_n 3, 1) := by decide +kernel
theorem dJ0_getBytes_840e7_16 : decode cJ0_getBytes_840e7 16 = .ok (.ishl, 1) := by decide +kernel
theorem dJ0_getBytes_840e7_17 : decode cJ0_getBytes_840e7 17 = .ok (.aload_n 0, 1) := by decide +kernel
theorem dJ0_getBytes_840e7_18 : decode cJ0_getBytes_840e7 18 = .ok (.getfield 9, 3) := by decide +kernel
theorem dJ0_getBytes_840e7_21 : decode cJ0_getBytes_840e7 21 = .ok (.arraylength, 1) := by decide +kernel
theorem dJ0_getBytes_840e7_22 : decode cJ0_getBytes_840e7 22 = .ok (.invokestatic 212, 3) := by decide +kernel
theorem dJ0_getBytes_840e7_25 : decode cJ0_getBytes_840e7 25 = .ok (.goto 18, 3) := by decide +kernel
theorem dJ0_getBytes_840e7_28 : decode cJ0_getBytes_840e7 28 = .ok (.aload_n 0, 1) := by decide +kernel
theorem dJ0_getBytes_840e7_29 : decode cJ0_getBytes_840e7 29 = .ok (.getfield 9, 3) := by decide +kernel
theorem dJ0_getBytes_840e7_32 : decode cJ0_getBytes_840e7 32 = .ok (.iconst 0, 1) := by decide +kernel
theorem dJ0_getBytes_840e7_33 : decode cJ0_getBytes_840e7 33 = .ok (.aload_n 1, 1) := by decide +kernel
theorem dJ0_getBytes_840e7_34 : decode cJ0_getBytes_840e7 34 = .ok (.iload_n 2, 1) := by decide +kernel
theorem dJ0_getBytes_840e7_35 : decode cJ0_getBytes_840e7 35 = .ok (.aload_n 0, 1) := by decide +kernel
theorem dJ0_getBytes_840e7_36 : decode cJ0_getBytes_840e7 36 = .ok (.getfield 9, 3) := by decide +kernel
theorem dJ0_getBytes_840e7_39 : decode cJ0_getBytes_840e7 39 = .ok (.arraylength, 1) := by decide +kernel
theorem dJ0_getBytes_840e7_40 : decode cJ0_getBytes_840e7 40 = .ok (.invokestatic 106, 3) := by decide +kernel
theorem dJ0_getBytes_840e7_43 : decode cJ0_getBytes_840e7 43 = .ok (.return_, 1) := by decide +kernel
theorem dJ0_init_db425_0 : decode cJ0_init_db425 0 = .ok (.aload_n 0, 1) := by decide +kernel
theorem dJ0_init_db425_1 : decode cJ0_init_db425 1 = .ok (.invokespecial 1, 3) := by decide +kernel
theorem dJ0_init_db425_4 : decode cJ0_init_db425 4 = .ok (.aload_n 1, 1) := by decide +kernel
theorem dJ0_init_db425_5 : decode cJ0_init_db425 5 = .ok (.invokevirtual 552, 3) := by decide +kernel
theorem dJ0_init_db425_8 : decode cJ0_init_db425 8 = .ok (.astore_n 3, 1) := by decide +kernel
theorem dJ0_init_db425_9 : decode cJ0_init_db425 9 = .ok (.aload_n 1, 1) := by decide +kernel
theorem dJ0_init_db425_10 : decode cJ0_init_db425 10 = .ok (.invokevirtual 549, 3) := by decide +kernel
theorem dJ0_init_db425_13 : decode cJ0_init_db425 13 = .ok (.istore 4, 2) := by decide +kernel
theorem dJ0_init_db425_15 : decode cJ0_init_db425 15 = .ok (.aload_n 1, 1) := by decide +kernel
theorem dJ0_init_db425_16 : decode cJ0_init_db425 16 = .ok (.invokevirtual 1047, 3) := by decide +kernel
theorem dJ0_init_db425_19 : decode cJ0_init_db425 19 = .ok (.ifCond .eq 22, 3) := by decide +kernel
theorem dJ0_init_db425_22 : decode cJ0_init_db425 22 = .ok (.aload_n 0, 1) := by decide +kernel
theorem dJ0_init_db425_23 : decode cJ0_init_db425 23 = .ok (.iconst 0, 1) := by decide +kernel
theorem dJ0_init_db425_24 : decode cJ0_init_db425 24 = .ok (.putfield 15, 3) := by decide +kernel
theorem dJ0_init_db425_27 : decode cJ0_init_db425 27 = .ok (.aload_n 0, 1) := by decide +kernel
theorem dJ0_init_db425_28 : decode cJ0_init_db425 28 = .ok (.aload_n 3, 1) := by decide +kernel
theorem dJ0_init_db425_29 : decode cJ0_init_db425 29 = .ok (.iconst 0, 1) := by decide +kernel
theorem dJ0_init_db425_30 : decode cJ0_init_db425 30 = .ok (.iload 4, 2) := by decide +kernel
theorem dJ0_init_db425_32 : decode cJ0_init_db425 32 = .ok (.invokestatic 54, 3) := by decide +kernel
theorem dJ0_init_db425_35 : decode cJ0_init_db425 35 = .ok (.putfield 9, 3) := by decide +kernel
theorem dJ0_init_db425_38 : decode cJ0_init_db425 38 = .ok (.goto 59, 3) := by decide +kernel
theorem dJ0_init_db425_41 : decode cJ0_init_db425 41 = .ok (.getstatic 38, 3) := by decide +kernel
theorem dJ0_init_db425_44 : decode cJ0_init_db425 44 = .ok (.ifCond .eq 35, 3) := by decide +kernel
theorem dJ0_init_db425_47 : decode cJ0_init_db425 47 = .ok (.aload_n 1, 1) := by decide +kernel
theorem dJ0_init_db425_48 : decode cJ0_init_db425 48 = .ok (.getfield 1048, 3) := by decide +kernel
theorem dJ0_init_db425_51 : decode cJ0_init_db425 51 = .ok (.ifCond .eq 28, 3) := by decide +kernel
theorem dJ0_init_db425_54 : decode cJ0_init_db425 54 = .ok (.aload_n 0, 1) := by decide +kernel
theorem dJ0_init_db425_55 : decode cJ0_init_db425 55 = .ok (.aload_n 3, 1) := by decide +kernel
theorem dJ0_init_db425_56 : decode cJ0_init_db425 56 = .ok (.iconst 0, 1) := by decide +kernel
theorem dJ0_init_db425_57 : decode cJ0_init_db425 57 = .ok (.iload 4, 2) := by decide +kernel
theorem dJ0_init_db425_59 : decode cJ0_init_db425 59 = .ok (.invokestatic 1051, 3) := by decide +kernel
theorem dJ0_init_db425_62 : decode cJ0_init_db425 62 = .ok (.putfield 9, 3) := by decide +kernel
theorem dJ0_init_db425_65 : decode cJ0_init_db425 65 = .ok (.aload_n 0, 1) := by decide +kernel
theorem dJ0_init_db425_66 : decode cJ0_init_db425 66 = .ok (.aload_n 0, 1) := by decide +kernel
theorem dJ0_init_db425_67 : decode cJ0_init_db425 67 = .ok (.getfield 9, 3) := by decide +kernel
theorem dJ0_init_db425_70 : decode cJ0_init_db425 70 = .ok (.iload 4, 2) := by decide +kernel
theorem dJ0_init_db425_72 : decode cJ0_init_db425 72 = .ok (.invokestatic 47, 3) := by decide +kernel
theorem dJ0_init_db425_75 : decode cJ0_init_db425 75 = .ok (.putfield 15, 3) := by decide +kernel
theorem dJ0_init_db425_78 : decode cJ0_init_db425 78 = .ok (.return_, 1) := by decide +kernel
theorem dJ0_init_db425_79 : decode cJ0_init_db425 79 = .ok (.aload_n 0, 1) := by decide +kernel
theorem dJ0_init_db425_80 : decode cJ0_init_db425 80 = .ok (.iconst 1, 1) := by decide +kernel
theorem dJ0_init_db425_81 : decode cJ0_init_db425 81 = .ok (.putfield 15, 3) := by decide +kernel
theorem dJ0_init_db425_84 : decode cJ0_init_db425 84 = .ok (.aload_n 0, 1) := by decide +kernel
theorem dJ0_init_db425_85 : decode cJ0_init_db425 85 = .ok (.aload_n 3, 1) := by decide +kernel
theorem dJ0_init_db425_86 : decode cJ0_init_db425 86 = .ok (.iconst 0, 1) := by decide +kernel
theorem dJ0_init_db425_87 : decode cJ0_init_db425 87 = .ok (.iload 4, 2) := by decide +kernel
theorem dJ0_init_db425_89 : decode cJ0_init_db425 89 = .ok (.iconst 1, 1) := by decide +kernel
theorem dJ0_init_db425_90 : decode cJ0_init_db425 90 = .ok (.ishl, 1) := by decide +kernel
theorem dJ0_init_db425_91 : decode cJ0_init_db425 91 = .ok (.invokestatic 54, 3) := by decide +kernel
theorem dJ0_init_db425_94 : decode cJ0_init_db425 94 = .ok (.putfield 9, 3) := by decide +kernel
theorem dJ0_init_db425_97 : decode cJ0_init_db425 97 = .ok (.return_, 1) := by decide +kernel
theorem dJ0_coder_7d493_0 : decode cJ0_coder_7d493 0 = .ok (.getstatic 38, 3) := by decide +kernel
theorem dJ0_coder_7d493_3 : decode cJ0_coder_7d493 3 = .ok (.ifCond .eq 10, 3) := by decide +kernel
theorem dJ0_coder_7d493_6 : decode cJ0_coder_7d493 6 = .ok (.aload_n 0, 1) := by decide +kernel
theorem dJ0_coder_7d493_7 : decode cJ0_coder_7d493 7 = .ok (.getfield 15, 3) := by decide +kernel
theorem dJ0_coder_7d493_10 : decode cJ0_coder_7d493 10 = .ok (.goto 4, 3) := by decide +kernel
theorem dJ0_coder_7d493_13 : decode cJ0_coder_7d493 13 = .ok (.iconst 1, 1) := by decide +kernel
theorem dJ0_coder_7d493_14 : decode cJ0_coder_7d493 14 = .ok (.ireturn, 1) := by decide +kernel
theorem dJ0_isLatin1_aae02_0 : decode cJ0_isLatin1_aae02 0 = .ok (.getstatic 38, 3) := by decide +kernel
theorem dJ0_isLatin1_aae02_3 : decode cJ0_isLatin1_aae02 3 = .ok (.ifCond .eq 14, 3) := by decide +kernel
theorem dJ0_isLatin1_aae02_6 : decode cJ0_isLatin1_aae02 6 = .ok (.aload_n 0, 1) := by decide +kernel
theorem dJ0_isLatin1_aae02_7 : decode cJ0_isLatin1_aae02 7 = .ok (.getfield 15, 3) := by decide +kernel
theorem dJ0_isLatin1_aae02_10 : decode cJ0_isLatin1_aae02 10 = .ok (.ifCond .ne 7, 3) := by decide +kernel
theorem dJ0_isLatin1_aae02_13 : decode cJ0_isLatin1_aae02 13 = .ok (.iconst 1, 1) := by decide +kernel
theorem dJ0_isLatin1_aae02_14 : decode cJ0_isLatin1_aae02 14 = .ok (.goto 4, 3) := by decide +kernel
theorem dJ0_isLatin1_aae02_17 : decode cJ0_isLatin1_aae02 17 = .ok (.iconst 0, 1) := by decide +kernel
theorem dJ0_isLatin1_aae02_18 : decode cJ0_isLatin1_aae02 18 = .ok (.ireturn, 1) := by decide +kernel
theorem dJ0_checkIndex_df160_0 : decode cJ0_checkIndex_df160 0 = .ok (.iload_n 0, 1) := by decide +kernel
theorem dJ0_checkIndex_df160_1 : decode cJ0_checkIndex_df160 1 = .ok (.iload_n 1, 1) := by decide +kernel
theorem dJ0_checkIndex_df160_2 : decode cJ0_checkIndex_df160 2 = .ok (.getstatic 1053, 3) := by decide +kernel
theorem dJ0_checkIndex_df160_5 : decode cJ0_checkIndex_df160 5 = .ok (.invokestatic 1059, 3) := by decide +kernel
theorem dJ0_checkIndex_df160_8 : decode cJ0_checkIndex_df160 8 = .ok (.pop, 1) := by decide +kernel
theorem dJ0_checkIndex_df160_9 : decode cJ0_checkIndex_df160 9 = .ok (.return_, 1) := by decide +kernel
theorem dJ0_checkBoundsOffCount_cabcc_0 : decode cJ0_checkBoundsOffCount_cabcc 0 = .ok (.iload_n 0, 1) := by decide +kernel
theorem dJ0_checkBoundsOffCount_cabcc_1 : decode cJ0_checkBoundsOffCount_cabcc 1 = .ok (.iload_n 1, 1) := by decide +kernel
theorem dJ0_checkBoundsOffCount_cabcc_2 : decode cJ0_checkBoundsOffCount_cabcc 2 = .ok (.iload_n 2, 1) := by decide +kernel
theorem dJ0_checkBoundsOffCount_cabcc_3 : decode cJ0_checkBoundsOffCount_cabcc 3 = .ok (.getstatic 1053, 3) := by decide +kernel
theorem dJ0_checkBoundsOffCount_cabcc_6 : decode cJ0_checkBoundsOffCount_cabcc 6 = .ok (.invokestatic 1065, 3) := by decide +kernel
theorem dJ0_checkBoundsOffCount_cabcc_9 : decode cJ0_checkBoundsOffCount_cabcc 9 = .ok (.ireturn, 1) := by decide +kernel
theorem dJ0_checkBoundsBeginEnd_23922_0 : decode cJ0_checkBoundsBeginEnd_23922 0 = .ok (.iload_n 0, 1) := by decide +kernel
theorem dJ0_checkBoundsBeginEnd_23922_1 : decode cJ0_checkBoundsBeginEnd_23922 1 = .ok (.iload_n 1, 1) := by decide +kernel
theorem dJ0_checkBoundsBeginEnd_23922_2 : decode cJ0_checkBoundsBeginEnd_23922 2 = .ok (.iload_n 2, 1) := by decide +kernel
theorem dJ0_checkBoundsBeginEnd_23922_3 : decode cJ0_checkBoundsBeginEnd_23922 3 = .ok (.getstatic 1053, 3) := by decide +kernel
theorem dJ0_checkBoundsBeginEnd_23922_6 : decode cJ0_checkBoundsBeginEnd_23922 6 = .ok (.invokestatic 1062, 3) := by decide +kernel
theorem dJ0_checkBoundsBeginEnd_23922_9 : decode cJ0_checkBoundsBeginEnd_23922 9 = .ok (.pop, 1) := by decide +kernel
theorem dJ0_checkBoundsBeginEnd_23922_10 : decode cJ0_checkBoundsBeginEnd_23922 10 = .ok (.return_, 1) := by decide +kernel
theorem dJ4_init_da8c8_0 : decode cJ4_init_da8c8 0 = .ok (.aload_n 0, 1) := by decide +kernel
theorem dJ4_init_da8c8_1 : decode cJ4_init_da8c8 1 = .ok (.bipush 16, 2) := by decide +kernel
theorem dJ4_init_da8c8_3 : decode cJ4_init_da8c8 3 = .ok (.invokespecial 1, 3) := by decide +kernel
theorem dJ4_init_da8c8_6 : decode cJ4_init_da8c8 6 = .ok (.return_, 1) := by decide +kernel
theorem dJ4_append_15ec4_0 : decode cJ4_append_15ec4 0 = .ok (.aload_n 0, 1) := by decide +kernel
theorem dJ4_append_15ec4_1 : decode cJ4_append_15ec4 1 = .ok (.aload_n 1, 1) := by decide +kernel
theorem dJ4_append_15ec4_2 : decode cJ4_append_15ec4 2 = .ok (.invokespecial 29, 3) := by decide +kernel
theorem dJ4_append_15ec4_5 : decode cJ4_append_15ec4 5 = .ok (.pop, 1) := by decide +kernel
theorem dJ4_append_15ec4_6 : decode cJ4_append_15ec4 6 = .ok (.aload_n 0, 1) := by decide +kernel
theorem dJ4_append_15ec4_7 : decode cJ4_append_15ec4 7 = .ok (.areturn, 1) := by decide +kernel
theorem dJ4_append_cf468_0 : decode cJ4_append_cf468 0 = .ok (.aload_n 0, 1) := by decide +kernel
theorem dJ4_append_cf468_1 : decode cJ4_append_cf468 1 = .ok (.iload_n 1, 1) := by decide +kernel
theorem dJ4_append_cf468_2 : decode cJ4_append_cf468 2 = .ok (.invokespecial 50, 3) := by decide +kernel
theorem dJ4_append_cf468_5 : decode cJ4_append_cf468 5 = .ok (.pop, 1) := by decide +kernel
theorem dJ4_append_cf468_6 : decode cJ4_append_cf468 6 = .ok (.aload_n 0, 1) := by decide +kernel
theorem dJ4_append_cf468_7 : decode cJ4_append_cf468 7 = .ok (.areturn, 1) := by decide +kernel
theorem dJ4_append_bf812_0 : decode cJ4_append_bf812 0 = .ok (.aload_n 0, 1) := by decide +kernel
theorem dJ4_append_bf812_1 : decode cJ4_append_bf812 1 = .ok (.iload_n 1, 1) := by decide +kernel
theorem dJ4_append_bf812_2 : decode cJ4_append_bf812 2 = .ok (.invokespecial 53, 3) := by decide +kernel
theorem dJ4_append_bf812_5 : decode cJ4_append_bf812 5 = .ok (.pop, 1) := by decide +kernel
theorem dJ4_append_bf812_6 : decode cJ4_append_bf812 6 = .ok (.aload_n 0, 1) := by decide +kernel
theorem dJ4_append_bf812_7 : decode cJ4_append_bf812 7 = .ok (.areturn, 1) := by decide +kernel
theorem dJ4_toString_0e30d_0 : decode cJ4_toString_0e30d 0 = .ok (.new 18, 3) := by decide +kernel
theorem dJ4_toString_0e30d_3 : decode cJ4_toString_0e30d 3 = .ok (.dup, 1) := by decide +kernel
theorem dJ4_toString_0e30d_4 : decode cJ4_toString_0e30d 4 = .ok (.aload_n 0, 1) := by decide +kernel
theorem dJ4_toString_0e30d_5 : decode cJ4_toString_0e30d 5 = .ok (.invokespecial 137, 3) := by decide +kernel
theorem dJ4_toString_0e30d_8 : decode cJ4_toString_0e30d 8 = .ok (.areturn, 1) := by decide +kernel
theorem dJ4_length_8abf5_0 : decode cJ4_length_8abf5 0 = .ok (.aload_n 0, 1) := by decide +kernel
theorem dJ4_length_8abf5_1 : decode cJ4_length_8abf5 1 = .ok (.invokespecial 343, 3) := by decide +kernel
theorem dJ4_length_8abf5_4 : decode cJ4_length_8abf5 4 = .ok (.ireturn, 1) := by decide +kernel
theorem dJ1_charAt_3b067_0 : decode cJ1_charAt_3b067 0 = .ok (.iload_n 1, 1) := by decide +kernel
theorem dJ1_charAt_3b067_1 : decode cJ1_charAt_3b067 1 = .ok (.aload_n 0, 1) := by decide +kernel
theorem dJ1_charAt_3b067_2 : decode cJ1_charAt_3b067 2 = .ok (.arraylength, 1) := by decide +kernel
theorem dJ1_charAt_3b067_3 : decode cJ1_charAt_3b067 3 = .ok (.invokestatic 9, 3) := by decide +kernel
theorem dJ1_charAt_3b067_6 : decode cJ1_charAt_3b067 6 = .ok (.aload_n 0, 1) := by decide +kernel
theorem dJ1_charAt_3b067_7 : decode cJ1_charAt_3b067 7 = .ok (.iload_n 1, 1) := by decide +kernel
theorem dJ1_charAt_3b067_8 : decode cJ1_charAt_3b067 8 = .ok (.baload, 1) := by decide +kernel
theorem dJ1_charAt_3b067_9 : decode cJ1_charAt_3b067 9 = .ok (.sipush 255, 3) := by decide +kernel
theorem dJ1_charAt_3b067_12 : decode cJ1_charAt_3b067 12 = .ok (.iand, 1) := by decide +kernel
theorem dJ1_charAt_3b067_13 : decode cJ1_charAt_3b067 13 = .ok (.i2c, 1) := by decide +kernel
theorem dJ1_charAt_3b067_14 : decode cJ1_charAt_3b067 14 = .ok (.ireturn, 1) := by decide +kernel
theorem dJ1_canEncode_fc78d_0 : decode cJ1_canEncode_fc78d 0 = .ok (.iload_n 0, 1) := by decide +kernel
theorem dJ1_canEncode_fc78d_1 : decode cJ1_canEncode_fc78d 1 = .ok (.sipush 255, 3) := by decide +kernel
theorem dJ1_canEncode_fc78d_4 : decode cJ1_canEncode_fc78d 4 = .ok (.if_icmp .gt 7, 3) := by decide +kernel
theorem dJ1_canEncode_fc78d_7 : decode cJ1_canEncode_fc78d 7 = .ok (.iconst 1, 1) := by decide +kernel
theorem dJ1_canEncode_fc78d_8 : decode cJ1_canEncode_fc78d 8 = .ok (.goto 4, 3) := by decide +kernel
theorem dJ1_canEncode_fc78d_11 : decode cJ1_canEncode_fc78d 11 = .ok (.iconst 0, 1) := by decide +kernel
theorem dJ1_canEncode_fc78d_12 : decode cJ1_canEncode_fc78d 12 = .ok (.ireturn, 1) := by decide +kernel
theorem dJ1_inflate_0e8fd_0 : decode cJ1_inflate_0e8fd 0 = .ok (.aload_n 0, 1) := by decide +kernel
theorem dJ1_inflate_0e8fd_1 : decode cJ1_inflate_0e8fd 1 = .ok (.iload_n 1, 1) := by decide +kernel
theorem dJ1_inflate_0e8fd_2 : decode cJ1_inflate_0e8fd 2 = .ok (.aload_n 2, 1) := by decide +kernel
theorem dJ1_inflate_0e8fd_3 : decode cJ1_inflate_0e8fd 3 = .ok (.iload_n 3, 1) := by decide +kernel
theorem dJ1_inflate_0e8fd_4 : decode cJ1_inflate_0e8fd 4 = .ok (.iload 4, 2) := by decide +kernel
theorem dJ1_inflate_0e8fd_6 : decode cJ1_inflate_0e8fd 6 = .ok (.invokestatic 240, 3) := by decide +kernel
theorem dJ1_inflate_0e8fd_9 : decode cJ1_inflate_0e8fd 9 = .ok (.return_, 1) := by decide +kernel
theorem dJ2_newBytesFor_77867_0 : decode cJ2_newBytesFor_77867 0 = .ok (.iload_n 0, 1) := by decide +kernel
theorem dJ2_newBytesFor_77867_1 : decode cJ2_newBytesFor_77867 1 = .ok (.invokestatic 11, 3) := by decide +kernel
theorem dJ2_newBytesFor_77867_4 : decode cJ2_newBytesFor_77867 4 = .ok (.newarray .byte, 2) := by decide +kernel
theorem dJ2_newBytesFor_77867_6 : decode cJ2_newBytesFor_77867 6 = .ok (.areturn, 1) := by decide +kernel
theorem dJ2_newBytesLength_0f7a4_0 : decode cJ2_newBytesLength_0f7a4 0 = .ok (.iload_n 0, 1) := by decide +kernel
theorem dJ2_newBytesLength_0f7a4_1 : decode cJ2_newBytesLength_0f7a4 1 = .ok (.ifCond .ge 11, 3) := by decide +kernel
theorem dJ2_newBytesLength_0f7a4_4 : decode cJ2_newBytesLength_0f7a4 4 = .ok (.new 17, 3) := by decide +kernel
theorem dJ2_newBytesLength_0f7a4_7 : decode cJ2_newBytesLength_0f7a4 7 = .ok (.dup, 1) := by decide +kernel
theorem dJ2_newBytesLength_0f7a4_8 : decode cJ2_newBytesLength_0f7a4 8 = .ok (.invokespecial 19, 3) := by decide +kernel
theorem dJ2_newBytesLength_0f7a4_11 : decode cJ2_newBytesLength_0f7a4 11 = .ok (.athrow, 1) := by decide +kernel
theorem dJ2_newBytesLength_0f7a4_12 : decode cJ2_newBytesLength_0f7a4 12 = .ok (.iload_n 0, 1) := by decide +kernel
theorem dJ2_newBytesLength_0f7a4_13 : decode cJ2_newBytesLength_0f7a4 13 = .ok (.ldc 20, 2) := by decide +kernel
theorem dJ2_newBytesLength_0f7a4_15 : decode cJ2_newBytesLength_0f7a4 15 = .ok (.if_icmp .lt 40, 3) := by decide +kernel
theorem dJ2_newBytesLength_0f7a4_18 : decode cJ2_newBytesLength_0f7a4 18 = .ok (.new 21, 3) := by decide +kernel
theorem dJ2_newBytesLength_0f7a4_21 : decode cJ2_newBytesLength_0f7a4 21 = .ok (.dup, 1) := by decide +kernel
theorem dJ2_newBytesLength_0f7a4_22 : decode cJ2_newBytesLength_0f7a4 22 = .ok (.new 23, 3) := by decide +kernel
theorem dJ2_newBytesLength_0f7a4_25 : decode cJ2_newBytesLength_0f7a4 25 = .ok (.dup, 1) := by decide +kernel
theorem dJ2_newBytesLength_0f7a4_26 : decode cJ2_newBytesLength_0f7a4 26 = .ok (.invokespecial 25, 3) := by decide +kernel
theorem dJ2_newBytesLength_0f7a4_29 : decode cJ2_newBytesLength_0f7a4 29 = .ok (.ldc 26, 2) := by decide +kernel
theorem dJ2_newBytesLength_0f7a4_31 : decode cJ2_newBytesLength_0f7a4 31 = .ok (.invokevirtual 28, 3) := by decide +kernel
theorem dJ2_newBytesLength_0f7a4_34 : decode cJ2_newBytesLength_0f7a4 34 = .ok (.iload_n 0, 1) := by decide +kernel
theorem dJ2_newBytesLength_0f7a4_35 : decode cJ2_newBytesLength_0f7a4 35 = .ok (.invokevirtual 32, 3) := by decide +kernel
theorem dJ2_newBytesLength_0f7a4_38 : decode cJ2_newBytesLength_0f7a4 38 = .ok (.ldc 35, 2) := by decide +kernel
theorem dJ2_newBytesLength_0f7a4_40 : decode cJ2_newBytesLength_0f7a4 40 = .ok (.invokevirtual 28, 3) := by decide +kernel
theorem dJ2_newBytesLength_0f7a4_43 : decode cJ2_newBytesLength_0f7a4 43 = .ok (.ldc 20, 2) := by decide +kernel
theorem dJ2_newBytesLength_0f7a4_45 : decode cJ2_newBytesLength_0f7a4 45 = .ok (.invokevirtual 32, 3) := by decide +kernel
theorem dJ2_newBytesLength_0f7a4_48 : decode cJ2_newBytesLength_0f7a4 48 = .ok (.invokevirtual 37, 3) := by decide +kernel
theorem dJ2_newBytesLength_0f7a4_51 : decode cJ2_newBytesLength_0f7a4 51 = .ok (.invokespecial 41, 3) := by decide +kernel
theorem dJ2_newBytesLength_0f7a4_54 : decode cJ2_newBytesLength_0f7a4 54 = .ok (.athrow, 1) := by decide +kernel
theorem dJ2_newBytesLength_0f7a4_55 : decode cJ2_newBytesLength_0f7a4 55 = .ok (.iload_n 0, 1) := by decide +kernel
theorem dJ2_newBytesLength_0f7a4_56 : decode cJ2_newBytesLength_0f7a4 56 = .ok (.iconst 1, 1) := by decide +kernel
theorem dJ2_newBytesLength_0f7a4_57 : decode cJ2_newBytesLength_0f7a4 57 = .ok (.ishl, 1) := by decide +kernel
theorem dJ2_newBytesLength_0f7a4_58 : decode cJ2_newBytesLength_0f7a4 58 = .ok (.ireturn, 1) := by decide +kernel
theorem dJ2_putChar_b72d1_0 : decode cJ2_putChar_b72d1 0 = .ok (.getstatic 44, 3) := by decide +kernel
theorem dJ2_putChar_b72d1_3 : decode cJ2_putChar_b72d1 3 = .ok (.ifCond .ne 25, 3) := by decide +kernel
theorem dJ2_putChar_b72d1_6 : decode cJ2_putChar_b72d1 6 = .ok (.iload_n 1, 1) := by decide +kernel
theorem dJ2_putChar_b72d1_7 : decode cJ2_putChar_b72d1 7 = .ok (.ifCond .lt 11, 3) := by decide +kernel
theorem dJ2_putChar_b72d1_10 : decode cJ2_putChar_b72d1 10 = .ok (.iload_n 1, 1) := by decide +kernel
theorem dJ2_putChar_b72d1_11 : decode cJ2_putChar_b72d1 11 = .ok (.aload_n 0, 1) := by decide +kernel
theorem dJ2_putChar_b72d1_12 : decode cJ2_putChar_b72d1 12 = .ok (.invokestatic 48, 3) := by decide +kernel
theorem dJ2_putChar_b72d1_15 : decode cJ2_putChar_b72d1 15 = .ok (.if_icmp .lt 13, 3) := by decide +kernel
theorem dJ2_putChar_b72d1_18 : decode cJ2_putChar_b72d1 18 = .ok (.new 52, 3) := by decide +kernel
theorem dJ2_putChar_b72d1_21 : decode cJ2_putChar_b72d1 21 = .ok (.dup, 1) := by decide +kernel
theorem dJ2_putChar_b72d1_22 : decode cJ2_putChar_b72d1 22 = .ok (.ldc 54, 2) := by decide +kernel
theorem dJ2_putChar_b72d1_24 : decode cJ2_putChar_b72d1 24 = .ok (.invokespecial 56, 3) := by decide +kernel
theorem dJ2_putChar_b72d1_27 : decode cJ2_putChar_b72d1 27 = .ok (.athrow, 1) := by decide +kernel
theorem dJ2_putChar_b72d1_28 : decode cJ2_putChar_b72d1 28 = .ok (.iload_n 1, 1) := by decide +kernel
theorem dJ2_putChar_b72d1_29 : decode cJ2_putChar_b72d1 29 = .ok (.iconst 1, 1) := by decide +kernel
theorem dJ2_putChar_b72d1_30 : decode cJ2_putChar_b72d1 30 = .ok (.ishl, 1) := by decide +kernel
theorem dJ2_putChar_b72d1_31 : decode cJ2_putChar_b72d1 31 = .ok (.istore_n 1, 1) := by decide +kernel
theorem dJ2_putChar_b72d1_32 : decode cJ2_putChar_b72d1 32 = .ok (.aload_n 0, 1) := by decide +kernel
theorem dJ2_putChar_b72d1_33 : decode cJ2_putChar_b72d1 33 = .ok (.iload_n 1, 1) := by decide +kernel
theorem dJ2_putChar_b72d1_34 : decode cJ2_putChar_b72d1 34 = .ok (.iinc 1 1, 3) := by decide +kernel
theorem dJ2_putChar_b72d1_37 : decode cJ2_putChar_b72d1 37 = .ok (.iload_n 2, 1) := by decide +kernel
theorem dJ2_putChar_b72d1_38 : decode cJ2_putChar_b72d1 38 = .ok (.getstatic 59, 3) := by decide +kernel
theorem dJ2_putChar_b72d1_41 : decode cJ2_putChar_b72d1 41 = .ok (.ishr, 1) := by decide +kernel
theorem dJ2_putChar_b72d1_42 : decode cJ2_putChar_b72d1 42 = .ok (.i2b, 1) := by decide +kernel
theorem dJ2_putChar_b72d1_43 : decode cJ2_putChar_b72d1 43 = .ok (.bastore, 1) := by decide +kernel
theorem dJ2_putChar_b72d1_44 : decode cJ2_putChar_b72d1 44 = .ok (.aload_n 0, 1) := by decide +kernel
theorem dJ2_putChar_b72d1_45 : decode cJ2_putChar_b72d1 45 = .ok (.iload_n 1, 1) := by decide +kernel
theorem dJ2_putChar_b72d1_46 : decode cJ2_putChar_b72d1 46 = .ok (.iload_n 2, 1) := by decide +kernel
theorem dJ2_putChar_b72d1_47 : decode cJ2_putChar_b72d1 47 = .ok (.getstatic 63, 3) := by decide +kernel
theorem dJ2_putChar_b72d1_50 : decode cJ2_putChar_b72d1 50 = .ok (.ishr, 1) := by decide +kernel
theorem dJ2_putChar_b72d1_51 : decode cJ2_putChar_b72d1 51 = .ok (.i2b, 1) := by decide +kernel
theorem dJ2_putChar_b72d1_52 : decode cJ2_putChar_b72d1 52 = .ok (.bastore, 1) := by decide +kernel
theorem dJ2_putChar_b72d1_53 : decode cJ2_putChar_b72d1 53 = .ok (.return_, 1) := by decide +kernel
theorem dJ2_getChar_3b067_0 : decode cJ2_getChar_3b067 0 = .ok (.getstatic 44, 3) := by decide +kernel
theorem dJ2_getChar_3b067_3 : decode cJ2_getChar_3b067 3 = .ok (.ifCond .ne 25, 3) := by decide +kernel
theorem dJ2_getChar_3b067_6 : decode cJ2_getChar_3b067 6 = .ok (.iload_n 1, 1) := by decide +kernel
theorem dJ2_getChar_3b067_7 : decode cJ2_getChar_3b067 7 = .ok (.ifCond .lt 11, 3) := by decide +kernel
theorem dJ2_getChar_3b067_10 : decode cJ2_getChar_3b067 10 = .ok (.iload_n 1, 1) := by decide +kernel
theorem dJ2_getChar_3b067_11 : decode cJ2_getChar_3b067 11 = .ok (.aload_n 0, 1) := by decide +kernel
theorem dJ2_getChar_3b067_12 : decode cJ2_getChar_3b067 12 = .ok (.invokestatic 48, 3) := by decide +kernel
theorem dJ2_getChar_3b067_15 : decode cJ2_getChar_3b067 15 = .ok (.if_icmp .lt 13, 3) := by decide +kernel
theorem dJ2_getChar_3b067_18 : decode cJ2_getChar_3b067 18 = .ok (.new 52, 3) := by decide +kernel
theorem dJ2_getChar_3b067_21 : decode cJ2_getChar_3b067 21 = .ok (.dup, 1) := by decide +kernel
theorem dJ2_getChar_3b067_22 : decode cJ2_getChar_3b067 22 = .ok (.ldc 54, 2) := by decide +kernel
theorem dJ2_getChar_3b067_24 : decode cJ2_getChar_3b067 24 = .ok (.invokespecial 56, 3) := by decide +kernel
theorem dJ2_getChar_3b067_27 : decode cJ2_getChar_3b067 27 = .ok (.athrow, 1) := by decide +kernel
theorem dJ2_getChar_3b067_28 : decode cJ2_getChar_3b067 28 = .ok (.iload_n 1, 1) := by decide +kernel
theorem dJ2_getChar_3b067_29 : decode cJ2_getChar_3b067 29 = .ok (.iconst 1, 1) := by decide +kernel
theorem dJ2_getChar_3b067_30 : decode cJ2_getChar_3b067 30 = .ok (.ishl, 1) := by decide +kernel
theorem dJ2_getChar_3b067_31 : decode cJ2_getChar_3b067 31 = .ok (.istore_n 1, 1) := by decide +kernel
theorem dJ2_getChar_3b067_32 : decode cJ2_getChar_3b067 32 = .ok (.aload_n 0, 1) := by decide +kernel
theorem dJ2_getChar_3b067_33 : decode cJ2_getChar_3b067 33 = .ok (.iload_n 1, 1) := by decide +kernel
theorem dJ2_getChar_3b067_34 : decode cJ2_getChar_3b067 34 = .ok (.iinc 1 1, 3) := by decide +kernel
theorem dJ2_getChar_3b067_37 : decode cJ2_getChar_3b067 37 = .ok (.baload, 1) := by decide +kernel
theorem dJ2_getChar_3b067_38 : decode cJ2_getChar_3b067 38 = .ok (.sipush 255, 3) := by decide +kernel
theorem dJ2_getChar_3b067_41 : decode cJ2_getChar_3b067 41 = .ok (.iand, 1) := by decide +kernel
theorem dJ2_getChar_3b067_42 : decode cJ2_getChar_3b067 42 = .ok (.getstatic 59, 3) := by decide +kernel
theorem dJ2_getChar_3b067_45 : decode cJ2_getChar_3b067 45 = .ok (.ishl, 1) := by decide +kernel
theorem dJ2_getChar_3b067_46 : decode cJ2_getChar_3b067 46 = .ok (.aload_n 0, 1) := by decide +kernel
theorem dJ2_getChar_3b067_47 : decode cJ2_getChar_3b067 47 = .ok (.iload_n 1, 1) := by decide +kernel
theorem dJ2_getChar_3b067_48 : decode cJ2_getChar_3b067 48 = .ok (.baload, 1) := by decide +kernel
theorem dJ2_getChar_3b067_49 : decode cJ2_getChar_3b067 49 = .ok (.sipush 255, 3) := by decide +kernel
theorem dJ2_getChar_3b067_52 : decode cJ2_getChar_3b067 52 = .ok (.iand, 1) := by decide +kernel
theorem dJ2_getChar_3b067_53 : decode cJ2_getChar_3b067 53 = .ok (.getstatic 63, 3) := by decide +kernel
theorem dJ2_getChar_3b067_56 : decode cJ2_getChar_3b067 56 = .ok (.ishl, 1) := by decide +kernel
theorem dJ2_getChar_3b067_57 : decode cJ2_getChar_3b067 57 = .ok (.ior, 1) := by decide +kernel
theorem dJ2_getChar_3b067_58 : decode cJ2_getChar_3b067 58 = .ok (.i2c, 1) := by decide +kernel
theorem dJ2_getChar_3b067_59 : decode cJ2_getChar_3b067 59 = .ok (.ireturn, 1) := by decide +kernel
theorem dJ2_length_9d52b_0 : decode cJ2_length_9d52b 0 = .ok (.aload_n 0, 1) := by decide +kernel
theorem dJ2_length_9d52b_1 : decode cJ2_length_9d52b 1 = .ok (.arraylength, 1) := by decide +kernel
theorem dJ2_length_9d52b_2 : decode cJ2_length_9d52b 2 = .ok (.iconst 1, 1) := by decide +kernel
theorem dJ2_length_9d52b_3 : decode cJ2_length_9d52b 3 = .ok (.ishr, 1) := by decide +kernel
theorem dJ2_length_9d52b_4 : decode cJ2_length_9d52b 4 = .ok (.ireturn, 1) := by decide +kernel
theorem dJ2_coderFromArrayLen_85cad_0 : decode cJ2_coderFromArrayLen_85cad 0 = .ok (.iload_n 1, 1) := by decide +kernel
theorem dJ2_coderFromArrayLen_85cad_1 : decode cJ2_coderFromArrayLen_85cad 1 = .ok (.aload_n 0, 1) := by decide +kernel
theorem dJ2_coderFromArrayLen_85cad_2 : decode cJ2_coderFromArrayLen_85cad 2 = .ok (.arraylength, 1) := by decide +kernel
theorem dJ2_coderFromArrayLen_85cad_3 : decode cJ2_coderFromArrayLen_85cad 3 = .ok (.isub, 1) := by decide +kernel
theorem dJ2_coderFromArrayLen_85cad_4 : decode cJ2_coderFromArrayLen_85cad 4 = .ok (.bipush 31, 2) := by decide +kernel
theorem dJ2_coderFromArrayLen_85cad_6 : decode cJ2_coderFromArrayLen_85cad 6 = .ok (.iushr, 1) := by decide +kernel
theorem dJ2_coderFromArrayLen_85cad_7 : decode cJ2_coderFromArrayLen_85cad 7 = .ok (.i2b, 1) := by decide +kernel
theorem dJ2_coderFromArrayLen_85cad_8 : decode cJ2_coderFromArrayLen_85cad 8 = .ok (.ireturn, 1) := by decide +kernel
theorem dJ2_compress_39247_0 : decode cJ2_compress_39247 0 = .ok (.iload_n 2, 1) := by decide +kernel
theorem dJ2_compress_39247_1 : decode cJ2_compress_39247 1 = .ok (.newarray .byte, 2) := by decide +kernel
theorem dJ2_compress_39247_3 : decode cJ2_compress_39247 3 = .ok (.astore_n 3, 1) := by decide +kernel
theorem dJ2_compress_39247_4 : decode cJ2_compress_39247 4 = .ok (.aload_n 0, 1) := by decide +kernel
theorem dJ2_compress_39247_5 : decode cJ2_compress_39247 5 = .ok (.iload_n 1, 1) := by decide +kernel
theorem dJ2_compress_39247_6 : decode cJ2_compress_39247 6 = .ok (.aload_n 3, 1) := by decide +kernel
theorem dJ2_compress_39247_7 : decode cJ2_compress_39247 7 = .ok (.iconst 0, 1) := by decide +kernel
theorem dJ2_compress_39247_8 : decode cJ2_compress_39247 8 = .ok (.iload_n 2, 1) := by decide +kernel
theorem dJ2_compress_39247_9 : decode cJ2_compress_39247 9 = .ok (.invokestatic 123, 3) := by decide +kernel
theorem dJ2_compress_39247_12 : decode cJ2_compress_39247 12 = .ok (.istore 4, 2) := by decide +kernel
theorem dJ2_compress_39247_14 : decode cJ2_compress_39247 14 = .ok (.iload 4, 2) := by decide +kernel
theorem dJ2_compress_39247_16 : decode cJ2_compress_39247 16 = .ok (.iload_n 2, 1) := by decide +kernel
theorem dJ2_compress_39247_17 : decode cJ2_compress_39247 17 = .ok (.if_icmp .eq 47, 3) := by decide +kernel
theorem dJ2_compress_39247_20 : decode cJ2_compress_39247 20 = .ok (.aload_n 0, 1) := by decide +kernel
theorem dJ2_compress_39247_21 : decode cJ2_compress_39247 21 = .ok (.iload_n 1, 1) := by decide +kernel
theorem dJ2_compress_39247_22 : decode cJ2_compress_39247 22 = .ok (.iconst 1, 1) := by decide +kernel
theorem dJ2_compress_39247_23 : decode cJ2_compress_39247 23 = .ok (.ishl, 1) := by decide +kernel
theorem dJ2_compress_39247_24 : decode cJ2_compress_39247 24 = .ok (.iload_n 1, 1) := by decide +kernel
theorem dJ2_compress_39247_25 : decode cJ2_compress_39247 25 = .ok (.iload_n 2, 1) := by decide +kernel
theorem dJ2_compress_39247_26 : decode cJ2_compress_39247 26 = .ok (.iadd, 1) := by decide +kernel
theorem dJ2_compress_39247_27 : decode cJ2_compress_39247 27 = .ok (.invokestatic 11, 3) := by decide +kernel
theorem dJ2_compress_39247_30 : decode cJ2_compress_39247 30 = .ok (.invokestatic 126, 3) := by decide +kernel
theorem dJ2_compress_39247_33 : decode cJ2_compress_39247 33 = .ok (.astore 5, 2) := by decide +kernel
theorem dJ2_compress_39247_35 : decode cJ2_compress_39247 35 = .ok (.aload 5, 2) := by decide +kernel
theorem dJ2_compress_39247_37 : decode cJ2_compress_39247 37 = .ok (.iload 4, 2) := by decide +kernel
theorem dJ2_compress_39247_39 : decode cJ2_compress_39247 39 = .ok (.invokestatic 71, 3) := by decide +kernel
theorem dJ2_compress_39247_42 : decode cJ2_compress_39247 42 = .ok (.sipush 255, 3) := by decide +kernel
theorem dJ2_compress_39247_45 : decode cJ2_compress_39247 45 = .ok (.if_icmp .gt 16, 3) := by decide +kernel
theorem dJ2_compress_39247_48 : decode cJ2_compress_39247 48 = .ok (.aload 5, 2) := by decide +kernel
theorem dJ2_compress_39247_50 : decode cJ2_compress_39247 50 = .ok (.iconst 0, 1) := by decide +kernel
theorem dJ2_compress_39247_51 : decode cJ2_compress_39247 51 = .ok (.aload_n 3, 1) := by decide +kernel
theorem dJ2_compress_39247_52 : decode cJ2_compress_39247 52 = .ok (.iconst 0, 1) := by decide +kernel
theorem dJ2_compress_39247_53 : decode cJ2_compress_39247 53 = .ok (.iload_n 2, 1) := by decide +kernel
theorem dJ2_compress_39247_54 : decode cJ2_compress_39247 54 = .ok (.invokestatic 123, 3) := by decide +kernel
theorem dJ2_compress_39247_57 : decode cJ2_compress_39247 57 = .ok (.iload_n 2, 1) := by decide +kernel
theorem dJ2_compress_39247_58 : decode cJ2_compress_39247 58 = .ok (.if_icmp .eq 6, 3) := by decide +kernel
theorem dJ2_compress_39247_61 : decode cJ2_compress_39247 61 = .ok (.aload 5, 2) := by decide +kernel
theorem dJ2_compress_39247_63 : decode cJ2_compress_39247 63 = .ok (.areturn, 1) := by decide +kernel
theorem dJ2_compress_39247_64 : decode cJ2_compress_39247 64 = .ok (.aload_n 3, 1) := by decide +kernel
theorem dJ2_compress_39247_65 : decode cJ2_compress_39247 65 = .ok (.areturn, 1) := by decide +kernel
theorem dJ2_compress_5af95_0 : decode cJ2_compress_5af95 0 = .ok (.iload_n 1, 1) := by decide +kernel
theorem dJ2_compress_5af95_1 : decode cJ2_compress_5af95 1 = .ok (.iload 4, 2) := by decide +kernel
theorem dJ2_compress_5af95_3 : decode cJ2_compress_5af95 3 = .ok (.aload_n 0, 1) := by decide +kernel
theorem dJ2_compress_5af95_4 : decode cJ2_compress_5af95 4 = .ok (.invokestatic 173, 3) := by decide +kernel
theorem dJ2_compress_5af95_7 : decode cJ2_compress_5af95 7 = .ok (.iconst 0, 1) := by decide +kernel
theorem dJ2_compress_5af95_8 : decode cJ2_compress_5af95 8 = .ok (.istore 5, 2) := by decide +kernel
theorem dJ2_compress_5af95_10 : decode cJ2_compress_5af95 10 = .ok (.iload 5, 2) := by decide +kernel
theorem dJ2_compress_5af95_12 : decode cJ2_compress_5af95 12 = .ok (.iload 4, 2) := by decide +kernel
theorem dJ2_compress_5af95_14 : decode cJ2_compress_5af95 14 = .ok (.if_icmp .ge 39, 3) := by decide +kernel
theorem dJ2_compress_5af95_17 : decode cJ2_compress_5af95 17 = .ok (.aload_n 0, 1) := by decide +kernel
theorem dJ2_compress_5af95_18 : decode cJ2_compress_5af95 18 = .ok (.iload_n 1, 1) := by decide +kernel
theorem dJ2_compress_5af95_19 : decode cJ2_compress_5af95 19 = .ok (.invokestatic 71, 3) := by decide +kernel
theorem dJ2_compress_5af95_22 : decode cJ2_compress_5af95 22 = .ok (.istore 6, 2) := by decide +kernel
theorem dJ2_compress_5af95_24 : decode cJ2_compress_5af95 24 = .ok (.iload 6, 2) := by decide +kernel
theorem dJ2_compress_5af95_26 : decode cJ2_compress_5af95 26 = .ok (.sipush 255, 3) := by decide +kernel
theorem dJ2_compress_5af95_29 : decode cJ2_compress_5af95 29 = .ok (.if_icmp .le 6, 3) := by decide +kernel
theorem dJ2_compress_5af95_32 : decode cJ2_compress_5af95 32 = .ok (.iload 5, 2) := by decide +kernel
theorem dJ2_compress_5af95_34 : decode cJ2_compress_5af95 34 = .ok (.ireturn, 1) := by decide +kernel
theorem dJ2_compress_5af95_35 : decode cJ2_compress_5af95 35 = .ok (.aload_n 2, 1) := by decide +kernel
theorem dJ2_compress_5af95_36 : decode cJ2_compress_5af95 36 = .ok (.iload_n 3, 1) := by decide +kernel
theorem dJ2_compress_5af95_37 : decode cJ2_compress_5af95 37 = .ok (.iload 6, 2) := by decide +kernel
theorem dJ2_compress_5af95_39 : decode cJ2_compress_5af95 39 = .ok (.i2b, 1) := by decide +kernel
theorem dJ2_compress_5af95_40 : decode cJ2_compress_5af95 40 = .ok (.bastore, 1) := by decide +kernel
theorem dJ2_compress_5af95_41 : decode cJ2_compress_5af95 41 = .ok (.iinc 1 1, 3) := by decide +kernel
theorem dJ2_compress_5af95_44 : decode cJ2_compress_5af95 44 = .ok (.iinc 3 1, 3) := by decide +kernel
theorem dJ2_compress_5af95_47 : decode cJ2_compress_5af95 47 = .ok (.iinc 5 1, 3) := by decide +kernel
theorem dJ2_compress_5af95_50 : decode cJ2_compress_5af95 50 = .ok (.goto (-40), 3) := by decide +kernel
theorem dJ2_compress_5af95_53 : decode cJ2_compress_5af95 53 = .ok (.iload 4, 2) := by decide +kernel
theorem dJ2_compress_5af95_55 : decode cJ2_compress_5af95 55 = .ok (.ireturn, 1) := by decide +kernel
theorem dJ2_putCharSB_b72d1_0 : decode cJ2_putCharSB_b72d1 0 = .ok (.iload_n 1, 1) := by decide +kernel
theorem dJ2_putCharSB_b72d1_1 : decode cJ2_putCharSB_b72d1 1 = .ok (.aload_n 0, 1) := by decide +kernel
theorem dJ2_putCharSB_b72d1_2 : decode cJ2_putCharSB_b72d1 2 = .ok (.invokestatic 67, 3) := by decide +kernel
theorem dJ2_putCharSB_b72d1_5 : decode cJ2_putCharSB_b72d1 5 = .ok (.aload_n 0, 1) := by decide +kernel
theorem dJ2_putCharSB_b72d1_6 : decode cJ2_putCharSB_b72d1 6 = .ok (.iload_n 1, 1) := by decide +kernel
theorem dJ2_putCharSB_b72d1_7 : decode cJ2_putCharSB_b72d1 7 = .ok (.iload_n 2, 1) := by decide +kernel
theorem dJ2_putCharSB_b72d1_8 : decode cJ2_putCharSB_b72d1 8 = .ok (.invokestatic 111, 3) := by decide +kernel
theorem dJ2_putCharSB_b72d1_11 : decode cJ2_putCharSB_b72d1 11 = .ok (.return_, 1) := by decide +kernel
theorem dJ2_getChars_46870_0 : decode cJ2_getChars_46870 0 = .ok (.iload_n 1, 1) := by decide +kernel
theorem dJ2_getChars_46870_1 : decode cJ2_getChars_46870 1 = .ok (.iload_n 2, 1) := by decide +kernel
theorem dJ2_getChars_46870_2 : decode cJ2_getChars_46870 2 = .ok (.aload_n 3, 1) := by decide +kernel
theorem dJ2_getChars_46870_3 : decode cJ2_getChars_46870 3 = .ok (.invokestatic 96, 3) := by decide +kernel
theorem dJ2_getChars_46870_6 : decode cJ2_getChars_46870 6 = .ok (.iload_n 0, 1) := by decide +kernel
theorem dJ2_getChars_46870_7 : decode cJ2_getChars_46870 7 = .ok (.iload_n 2, 1) := by decide +kernel
theorem dJ2_getChars_46870_8 : decode cJ2_getChars_46870 8 = .ok (.aload_n 3, 1) := by decide +kernel
theorem dJ2_getChars_46870_9 : decode cJ2_getChars_46870 9 = .ok (.invokestatic 393, 3) := by decide +kernel
theorem dJ2_getChars_46870_12 : decode cJ2_getChars_46870 12 = .ok (.istore 4, 2) := by decide +kernel
theorem dJ2_getChars_46870_14 : decode cJ2_getChars_46870 14 = .ok (.getstatic 44, 3) := by decide +kernel
theorem dJ2_getChars_46870_17 : decode cJ2_getChars_46870 17 = .ok (.ifCond .ne 17, 3) := by decide +kernel
theorem dJ2_getChars_46870_20 : decode cJ2_getChars_46870 20 = .ok (.iload_n 1, 1) := by decide +kernel
theorem dJ2_getChars_46870_21 : decode cJ2_getChars_46870 21 = .ok (.iload 4, 2) := by decide +kernel
theorem dJ2_getChars_46870_23 : decode cJ2_getChars_46870 23 = .ok (.if_icmp .eq 11, 3) := by decide +kernel
theorem dJ2_getChars_46870_26 : decode cJ2_getChars_46870 26 = .ok (.new 52, 3) := by decide +kernel
theorem dJ2_getChars_46870_29 : decode cJ2_getChars_46870 29 = .ok (.dup, 1) := by decide +kernel
theorem dJ2_getChars_46870_30 : decode cJ2_getChars_46870 30 = .ok (.invokespecial 66, 3) := by decide +kernel
theorem dJ2_getChars_46870_33 : decode cJ2_getChars_46870 33 = .ok (.athrow, 1) := by decide +kernel
theorem dJ2_getChars_46870_34 : decode cJ2_getChars_46870 34 = .ok (.iload 4, 2) := by decide +kernel
theorem dJ2_getChars_46870_36 : decode cJ2_getChars_46870 36 = .ok (.ireturn, 1) := by decide +kernel
theorem dJ2_putCharsAt_cd4e5_0 : decode cJ2_putCharsAt_cd4e5 0 = .ok (.iload_n 1, 1) := by decide +kernel
theorem dJ2_putCharsAt_cd4e5_1 : decode cJ2_putCharsAt_cd4e5 1 = .ok (.iconst 4, 1) := by decide +kernel
theorem dJ2_putCharsAt_cd4e5_2 : decode cJ2_putCharsAt_cd4e5 2 = .ok (.iadd, 1) := by decide +kernel
theorem dJ2_putCharsAt_cd4e5_3 : decode cJ2_putCharsAt_cd4e5 3 = .ok (.istore 6, 2) := by decide +kernel
theorem dJ2_putCharsAt_cd4e5_5 : decode cJ2_putCharsAt_cd4e5 5 = .ok (.iload_n 1, 1) := by decide +kernel
theorem dJ2_putCharsAt_cd4e5_6 : decode cJ2_putCharsAt_cd4e5 6 = .ok (.iload 6, 2) := by decide +kernel
theorem dJ2_putCharsAt_cd4e5_8 : decode cJ2_putCharsAt_cd4e5 8 = .ok (.aload_n 0, 1) := by decide +kernel
theorem dJ2_putCharsAt_cd4e5_9 : decode cJ2_putCharsAt_cd4e5 9 = .ok (.invokestatic 96, 3) := by decide +kernel
theorem dJ2_putCharsAt_cd4e5_12 : decode cJ2_putCharsAt_cd4e5 12 = .ok (.aload_n 0, 1) := by decide +kernel
theorem dJ2_putCharsAt_cd4e5_13 : decode cJ2_putCharsAt_cd4e5 13 = .ok (.iload_n 1, 1) := by decide +kernel
theorem dJ2_putCharsAt_cd4e5_14 : decode cJ2_putCharsAt_cd4e5 14 = .ok (.iinc 1 1, 3) := by decide +kernel
theorem dJ2_putCharsAt_cd4e5_17 : decode cJ2_putCharsAt_cd4e5 17 = .ok (.iload_n 2, 1) := by decide +kernel
theorem dJ2_putCharsAt_cd4e5_18 : decode cJ2_putCharsAt_cd4e5 18 = .ok (.invokestatic 111, 3) := by decide +kernel
theorem dJ2_putCharsAt_cd4e5_21 : decode cJ2_putCharsAt_cd4e5 21 = .ok (.aload_n 0, 1) := by decide +kernel
theorem dJ2_putCharsAt_cd4e5_22 : decode cJ2_putCharsAt_cd4e5 22 = .ok (.iload_n 1, 1) := by decide +kernel
theorem dJ2_putCharsAt_cd4e5_23 : decode cJ2_putCharsAt_cd4e5 23 = .ok (.iinc 1 1, 3) := by decide +kernel
theorem dJ2_putCharsAt_cd4e5_26 : decode cJ2_putCharsAt_cd4e5 26 = .ok (.iload_n 3, 1) := by decide +kernel
theorem dJ2_putCharsAt_cd4e5_27 : decode cJ2_putCharsAt_cd4e5 27 = .ok (.invokestatic 111, 3) := by decide +kernel
theorem dJ2_putCharsAt_cd4e5_30 : decode cJ2_putCharsAt_cd4e5 30 = .ok (.aload_n 0, 1) := by decide +kernel
theorem dJ2_putCharsAt_cd4e5_31 : decode cJ2_putCharsAt_cd4e5 31 = .ok (.iload_n 1, 1) := by decide +kernel
theorem dJ2_putCharsAt_cd4e5_32 : decode cJ2_putCharsAt_cd4e5 32 = .ok (.iinc 1 1, 3) := by decide +kernel
theorem dJ2_putCharsAt_cd4e5_35 : decode cJ2_putCharsAt_cd4e5 35 = .ok (.iload 4, 2) := by decide +kernel
theorem dJ2_putCharsAt_cd4e5_37 : decode cJ2_putCharsAt_cd4e5 37 = .ok (.invokestatic 111, 3) := by decide +kernel
theorem dJ2_putCharsAt_cd4e5_40 : decode cJ2_putCharsAt_cd4e5 40 = .ok (.aload_n 0, 1) := by decide +kernel
theorem dJ2_putCharsAt_cd4e5_41 : decode cJ2_putCharsAt_cd4e5 41 = .ok (.iload_n 1, 1) := by decide +kernel
theorem dJ2_putCharsAt_cd4e5_42 : decode cJ2_putCharsAt_cd4e5 42 = .ok (.iinc 1 1, 3) := by decide +kernel
theorem dJ2_putCharsAt_cd4e5_45 : decode cJ2_putCharsAt_cd4e5 45 = .ok (.iload 5, 2) := by decide +kernel
theorem dJ2_putCharsAt_cd4e5_47 : decode cJ2_putCharsAt_cd4e5 47 = .ok (.invokestatic 111, 3) := by decide +kernel
theorem dJ2_putCharsAt_cd4e5_50 : decode cJ2_putCharsAt_cd4e5 50 = .ok (.getstatic 44, 3) := by decide +kernel
theorem dJ2_putCharsAt_cd4e5_53 : decode cJ2_putCharsAt_cd4e5 53 = .ok (.ifCond .ne 17, 3) := by decide +kernel
theorem dJ2_putCharsAt_cd4e5_56 : decode cJ2_putCharsAt_cd4e5 56 = .ok (.iload_n 1, 1) := by decide +kernel
theorem dJ2_putCharsAt_cd4e5_57 : decode cJ2_putCharsAt_cd4e5 57 = .ok (.iload 6, 2) := by decide +kernel
theorem dJ2_putCharsAt_cd4e5_59 : decode cJ2_putCharsAt_cd4e5 59 = .ok (.if_icmp .eq 11, 3) := by decide +kernel
theorem dJ2_putCharsAt_cd4e5_62 : decode cJ2_putCharsAt_cd4e5 62 = .ok (.new 52, 3) := by decide +kernel
theorem dJ2_putCharsAt_cd4e5_65 : decode cJ2_putCharsAt_cd4e5 65 = .ok (.dup, 1) := by decide +kernel
theorem dJ2_putCharsAt_cd4e5_66 : decode cJ2_putCharsAt_cd4e5 66 = .ok (.invokespecial 66, 3) := by decide +kernel
theorem dJ2_putCharsAt_cd4e5_69 : decode cJ2_putCharsAt_cd4e5 69 = .ok (.athrow, 1) := by decide +kernel
theorem dJ2_putCharsAt_cd4e5_70 : decode cJ2_putCharsAt_cd4e5 70 = .ok (.iload 6, 2) := by decide +kernel
theorem dJ2_putCharsAt_cd4e5_72 : decode cJ2_putCharsAt_cd4e5 72 = .ok (.ireturn, 1) := by decide +kernel
theorem dJ2_charAt_3b067_0 : decode cJ2_charAt_3b067 0 = .ok (.iload_n 1, 1) := by decide +kernel
theorem dJ2_charAt_3b067_1 : decode cJ2_charAt_3b067 1 = .ok (.aload_n 0, 1) := by decide +kernel
theorem dJ2_charAt_3b067_2 : decode cJ2_charAt_3b067 2 = .ok (.invokestatic 67, 3) := by decide +kernel
theorem dJ2_charAt_3b067_5 : decode cJ2_charAt_3b067 5 = .ok (.aload_n 0, 1) := by decide +kernel
theorem dJ2_charAt_3b067_6 : decode cJ2_charAt_3b067 6 = .ok (.iload_n 1, 1) := by decide +kernel
theorem dJ2_charAt_3b067_7 : decode cJ2_charAt_3b067 7 = .ok (.invokestatic 71, 3) := by decide +kernel
theorem dJ2_charAt_3b067_10 : decode cJ2_charAt_3b067 10 = .ok (.ireturn, 1) := by decide +kernel
theorem dJ2_inflate_0e8fd_0 : decode cJ2_inflate_0e8fd 0 = .ok (.iload_n 3, 1) := by decide +kernel
theorem dJ2_inflate_0e8fd_1 : decode cJ2_inflate_0e8fd 1 = .ok (.iload 4, 2) := by decide +kernel
theorem dJ2_inflate_0e8fd_3 : decode cJ2_inflate_0e8fd 3 = .ok (.aload_n 2, 1) := by decide +kernel
theorem dJ2_inflate_0e8fd_4 : decode cJ2_inflate_0e8fd 4 = .ok (.invokestatic 173, 3) := by decide +kernel
theorem dJ2_inflate_0e8fd_7 : decode cJ2_inflate_0e8fd 7 = .ok (.iconst 0, 1) := by decide +kernel
theorem dJ2_inflate_0e8fd_8 : decode cJ2_inflate_0e8fd 8 = .ok (.istore 5, 2) := by decide +kernel
theorem dJ2_inflate_0e8fd_10 : decode cJ2_inflate_0e8fd 10 = .ok (.iload 5, 2) := by decide +kernel
theorem dJ2_inflate_0e8fd_12 : decode cJ2_inflate_0e8fd 12 = .ok (.iload 4, 2) := by decide +kernel
theorem dJ2_inflate_0e8fd_14 : decode cJ2_inflate_0e8fd 14 = .ok (.if_icmp .ge 27, 3) := by decide +kernel
theorem dJ2_inflate_0e8fd_17 : decode cJ2_inflate_0e8fd 17 = .ok (.aload_n 2, 1) := by decide +kernel
theorem dJ2_inflate_0e8fd_18 : decode cJ2_inflate_0e8fd 18 = .ok (.iload_n 3, 1) := by decide +kernel
theorem dJ2_inflate_0e8fd_19 : decode cJ2_inflate_0e8fd 19 = .ok (.iinc 3 1, 3) := by decide +kernel
theorem dJ2_inflate_0e8fd_22 : decode cJ2_inflate_0e8fd 22 = .ok (.aload_n 0, 1) := by decide +kernel
theorem dJ2_inflate_0e8fd_23 : decode cJ2_inflate_0e8fd 23 = .ok (.iload_n 1, 1) := by decide +kernel
theorem dJ2_inflate_0e8fd_24 : decode cJ2_inflate_0e8fd 24 = .ok (.iinc 1 1, 3) := by decide +kernel
theorem dJ2_inflate_0e8fd_27 : decode cJ2_inflate_0e8fd 27 = .ok (.baload, 1) := by decide +kernel
theorem dJ2_inflate_0e8fd_28 : decode cJ2_inflate_0e8fd 28 = .ok (.sipush 255, 3) := by decide +kernel
theorem dJ2_inflate_0e8fd_31 : decode cJ2_inflate_0e8fd 31 = .ok (.iand, 1) := by decide +kernel
theorem dJ2_inflate_0e8fd_32 : decode cJ2_inflate_0e8fd 32 = .ok (.invokestatic 111, 3) := by decide +kernel
theorem dJ2_inflate_0e8fd_35 : decode cJ2_inflate_0e8fd 35 = .ok (.iinc 5 1, 3) := by decide +kernel
theorem dJ2_inflate_0e8fd_38 : decode cJ2_inflate_0e8fd 38 = .ok (.goto (-28), 3) := by decide +kernel
theorem dJ2_inflate_0e8fd_41 : decode cJ2_inflate_0e8fd 41 = .ok (.return_, 1) := by decide +kernel
theorem dJ2_getChars_ba4f3_0 : decode cJ2_getChars_ba4f3 0 = .ok (.iload_n 1, 1) := by decide +kernel
theorem dJ2_getChars_ba4f3_1 : decode cJ2_getChars_ba4f3 1 = .ok (.istore 5, 2) := by decide +kernel
theorem dJ2_getChars_ba4f3_3 : decode cJ2_getChars_ba4f3 3 = .ok (.iload_n 0, 1) := by decide +kernel
theorem dJ2_getChars_ba4f3_4 : decode cJ2_getChars_ba4f3 4 = .ok (.ifCond .ge 7, 3) := by decide +kernel
theorem dJ2_getChars_ba4f3_7 : decode cJ2_getChars_ba4f3 7 = .ok (.iconst 1, 1) := by decide +kernel
theorem dJ2_getChars_ba4f3_8 : decode cJ2_getChars_ba4f3 8 = .ok (.goto 4, 3) := by decide +kernel
theorem dJ2_getChars_ba4f3_11 : decode cJ2_getChars_ba4f3 11 = .ok (.iconst 0, 1) := by decide +kernel
theorem dJ2_getChars_ba4f3_12 : decode cJ2_getChars_ba4f3 12 = .ok (.istore 6, 2) := by decide +kernel
theorem dJ2_getChars_ba4f3_14 : decode cJ2_getChars_ba4f3 14 = .ok (.iload 6, 2) := by decide +kernel
theorem dJ2_getChars_ba4f3_16 : decode cJ2_getChars_ba4f3 16 = .ok (.ifCond .ne 6, 3) := by decide +kernel
theorem dJ2_getChars_ba4f3_19 : decode cJ2_getChars_ba4f3 19 = .ok (.iload_n 0, 1) := by decide +kernel
theorem dJ2_getChars_ba4f3_20 : decode cJ2_getChars_ba4f3 20 = .ok (.ineg, 1) := by decide +kernel
theorem dJ2_getChars_ba4f3_21 : decode cJ2_getChars_ba4f3 21 = .ok (.istore_n 0, 1) := by decide +kernel
theorem dJ2_getChars_ba4f3_22 : decode cJ2_getChars_ba4f3 22 = .ok (.iload_n 0, 1) := by decide +kernel
theorem dJ2_getChars_ba4f3_23 : decode cJ2_getChars_ba4f3 23 = .ok (.bipush (-100), 2) := by decide +kernel
theorem dJ2_getChars_ba4f3_25 : decode cJ2_getChars_ba4f3 25 = .ok (.if_icmp .gt 51, 3) := by decide +kernel
theorem dJ2_getChars_ba4f3_28 : decode cJ2_getChars_ba4f3 28 = .ok (.iload_n 0, 1) := by decide +kernel
theorem dJ2_getChars_ba4f3_29 : decode cJ2_getChars_ba4f3 29 = .ok (.bipush 100, 2) := by decide +kernel
theorem dJ2_getChars_ba4f3_31 : decode cJ2_getChars_ba4f3 31 = .ok (.idiv, 1) := by decide +kernel
theorem dJ2_getChars_ba4f3_32 : decode cJ2_getChars_ba4f3 32 = .ok (.istore_n 3, 1) := by decide +kernel
theorem dJ2_getChars_ba4f3_33 : decode cJ2_getChars_ba4f3 33 = .ok (.iload_n 3, 1) := by decide +kernel
theorem dJ2_getChars_ba4f3_34 : decode cJ2_getChars_ba4f3 34 = .ok (.bipush 100, 2) := by decide +kernel
theorem dJ2_getChars_ba4f3_36 : decode cJ2_getChars_ba4f3 36 = .ok (.imul, 1) := by decide +kernel
theorem dJ2_getChars_ba4f3_37 : decode cJ2_getChars_ba4f3 37 = .ok (.iload_n 0, 1) := by decide +kernel
theorem dJ2_getChars_ba4f3_38 : decode cJ2_getChars_ba4f3 38 = .ok (.isub, 1) := by decide +kernel
theorem dJ2_getChars_ba4f3_39 : decode cJ2_getChars_ba4f3 39 = .ok (.istore 4, 2) := by decide +kernel
theorem dJ2_getChars_ba4f3_41 : decode cJ2_getChars_ba4f3 41 = .ok (.iload_n 3, 1) := by decide +kernel
theorem dJ2_getChars_ba4f3_42 : decode cJ2_getChars_ba4f3 42 = .ok (.istore_n 0, 1) := by decide +kernel
theorem dJ2_getChars_ba4f3_43 : decode cJ2_getChars_ba4f3 43 = .ok (.aload_n 2, 1) := by decide +kernel
theorem dJ2_getChars_ba4f3_44 : decode cJ2_getChars_ba4f3 44 = .ok (.iinc 5 (-1), 3) := by decide +kernel
theorem dJ2_getChars_ba4f3_47 : decode cJ2_getChars_ba4f3 47 = .ok (.iload 5, 2) := by decide +kernel
theorem dJ2_getChars_ba4f3_49 : decode cJ2_getChars_ba4f3 49 = .ok (.getstatic 403, 3) := by decide +kernel
theorem dJ2_getChars_ba4f3_52 : decode cJ2_getChars_ba4f3 52 = .ok (.iload 4, 2) := by decide +kernel
theorem dJ2_getChars_ba4f3_54 : decode cJ2_getChars_ba4f3 54 = .ok (.baload, 1) := by decide +kernel
theorem dJ2_getChars_ba4f3_55 : decode cJ2_getChars_ba4f3 55 = .ok (.invokestatic 111, 3) := by decide +kernel
theorem dJ2_getChars_ba4f3_58 : decode cJ2_getChars_ba4f3 58 = .ok (.aload_n 2, 1) := by decide +kernel
theorem dJ2_getChars_ba4f3_59 : decode cJ2_getChars_ba4f3 59 = .ok (.iinc 5 (-1), 3) := by decide +kernel
theorem dJ2_getChars_ba4f3_62 : decode cJ2_getChars_ba4f3 62 = .ok (.iload 5, 2) := by decide +kernel
theorem dJ2_getChars_ba4f3_64 : decode cJ2_getChars_ba4f3 64 = .ok (.getstatic 407, 3) := by decide +kernel
theorem dJ2_getChars_ba4f3_67 : decode cJ2_getChars_ba4f3 67 = .ok (.iload 4, 2) := by decide +kernel
theorem dJ2_getChars_ba4f3_69 : decode cJ2_getChars_ba4f3 69 = .ok (.baload, 1) := by decide +kernel
theorem dJ2_getChars_ba4f3_70 : decode cJ2_getChars_ba4f3 70 = .ok (.invokestatic 111, 3) := by decide +kernel
theorem dJ2_getChars_ba4f3_73 : decode cJ2_getChars_ba4f3 73 = .ok (.goto (-51), 3) := by decide +kernel
theorem dJ2_getChars_ba4f3_76 : decode cJ2_getChars_ba4f3 76 = .ok (.aload_n 2, 1) := by decide +kernel
theorem dJ2_getChars_ba4f3_77 : decode cJ2_getChars_ba4f3 77 = .ok (.iinc 5 (-1), 3) := by decide +kernel
theorem dJ2_getChars_ba4f3_80 : decode cJ2_getChars_ba4f3 80 = .ok (.iload 5, 2) := by decide +kernel
theorem dJ2_getChars_ba4f3_82 : decode cJ2_getChars_ba4f3 82 = .ok (.getstatic 403, 3) := by decide +kernel
theorem dJ2_getChars_ba4f3_85 : decode cJ2_getChars_ba4f3 85 = .ok (.iload_n 0, 1) := by decide +kernel
theorem dJ2_getChars_ba4f3_86 : decode cJ2_getChars_ba4f3 86 = .ok (.ineg, 1) := by decide +kernel
theorem dJ2_getChars_ba4f3_87 : decode cJ2_getChars_ba4f3 87 = .ok (.baload, 1) := by decide +kernel
theorem dJ2_getChars_ba4f3_88 : decode cJ2_getChars_ba4f3 88 = .ok (.invokestatic 111, 3) := by decide +kernel
theorem dJ2_getChars_ba4f3_91 : decode cJ2_getChars_ba4f3 91 = .ok (.iload_n 0, 1) := by decide +kernel
theorem dJ2_getChars_ba4f3_92 : decode cJ2_getChars_ba4f3 92 = .ok (.bipush (-9), 2) := by decide +kernel
theorem dJ2_getChars_ba4f3_94 : decode cJ2_getChars_ba4f3 94 = .ok (.if_icmp .ge 18, 3) := by decide +kernel
theorem dJ2_getChars_ba4f3_97 : decode cJ2_getChars_ba4f3 97 = .ok (.aload_n 2, 1) := by decide +kernel
theorem dJ2_getChars_ba4f3_98 : decode cJ2_getChars_ba4f3 98 = .ok (.iinc 5 (-1), 3) := by decide +kernel
theorem dJ2_getChars_ba4f3_101 : decode cJ2_getChars_ba4f3 101 = .ok (.iload 5, 2) := by decide +kernel
theorem dJ2_getChars_ba4f3_103 : decode cJ2_getChars_ba4f3 103 = .ok (.getstatic 407, 3) := by decide +kernel
theorem dJ2_getChars_ba4f3_106 : decode cJ2_getChars_ba4f3 106 = .ok (.iload_n 0, 1) := by decide +kernel
theorem dJ2_getChars_ba4f3_107 : decode cJ2_getChars_ba4f3 107 = .ok (.ineg, 1) := by decide +kernel
theorem dJ2_getChars_ba4f3_108 : decode cJ2_getChars_ba4f3 108 = .ok (.baload, 1) := by decide +kernel
theorem dJ2_getChars_ba4f3_109 : decode cJ2_getChars_ba4f3 109 = .ok (.invokestatic 111, 3) := by decide +kernel
theorem dJ2_getChars_ba4f3_112 : decode cJ2_getChars_ba4f3 112 = .ok (.iload 6, 2) := by decide +kernel
theorem dJ2_getChars_ba4f3_114 : decode cJ2_getChars_ba4f3 114 = .ok (.ifCond .eq 14, 3) := by decide +kernel
theorem dJ2_getChars_ba4f3_117 : decode cJ2_getChars_ba4f3 117 = .ok (.aload_n 2, 1) := by decide +kernel
theorem dJ2_getChars_ba4f3_118 : decode cJ2_getChars_ba4f3 118 = .ok (.iinc 5 (-1), 3) := by decide +kernel
theorem dJ2_getChars_ba4f3_121 : decode cJ2_getChars_ba4f3 121 = .ok (.iload 5, 2) := by decide +kernel
theorem dJ2_getChars_ba4f3_123 : decode cJ2_getChars_ba4f3 123 = .ok (.bipush 45, 2) := by decide +kernel
theorem dJ2_getChars_ba4f3_125 : decode cJ2_getChars_ba4f3 125 = .ok (.invokestatic 111, 3) := by decide +kernel
theorem dJ2_getChars_ba4f3_128 : decode cJ2_getChars_ba4f3 128 = .ok (.iload 5, 2) := by decide +kernel
theorem dJ2_getChars_ba4f3_130 : decode cJ2_getChars_ba4f3 130 = .ok (.ireturn, 1) := by decide +kernel
theorem dJ2_checkIndex_2214a_0 : decode cJ2_checkIndex_2214a 0 = .ok (.iload_n 0, 1) := by decide +kernel
theorem dJ2_checkIndex_2214a_1 : decode cJ2_checkIndex_2214a 1 = .ok (.aload_n 1, 1) := by decide +kernel
theorem dJ2_checkIndex_2214a_2 : decode cJ2_checkIndex_2214a 2 = .ok (.invokestatic 48, 3) := by decide +kernel
theorem dJ2_checkIndex_2214a_5 : decode cJ2_checkIndex_2214a 5 = .ok (.invokestatic 414, 3) := by decide +kernel
theorem dJ2_checkIndex_2214a_8 : decode cJ2_checkIndex_2214a 8 = .ok (.return_, 1) := by decide +kernel
theorem dJ2_checkBoundsBeginEnd_d044e_0 : decode cJ2_checkBoundsBeginEnd_d044e 0 = .ok (.iload_n 0, 1) := by decide +kernel
theorem dJ2_checkBoundsBeginEnd_d044e_1 : decode cJ2_checkBoundsBeginEnd_d044e 1 = .ok (.iload_n 1, 1) := by decide +kernel
theorem dJ2_checkBoundsBeginEnd_d044e_2 : decode cJ2_checkBoundsBeginEnd_d044e 2 = .ok (.aload_n 2, 1) := by decide +kernel
theorem dJ2_checkBoundsBeginEnd_d044e_3 : decode cJ2_checkBoundsBeginEnd_d044e 3 = .ok (.invokestatic 48, 3) := by decide +kernel
theorem dJ2_checkBoundsBeginEnd_d044e_6 : decode cJ2_checkBoundsBeginEnd_d044e 6 = .ok (.invokestatic 241, 3) := by decide +kernel
theorem dJ2_checkBoundsBeginEnd_d044e_9 : decode cJ2_checkBoundsBeginEnd_d044e 9 = .ok (.return_, 1) := by decide +kernel
theorem dJ2_checkBoundsOffCount_d044e_0 : decode cJ2_checkBoundsOffCount_d044e 0 = .ok (.iload_n 0, 1) := by decide +kernel
theorem dJ2_checkBoundsOffCount_d044e_1 : decode cJ2_checkBoundsOffCount_d044e 1 = .ok (.iload_n 1, 1) := by decide +kernel
theorem dJ2_checkBoundsOffCount_d044e_2 : decode cJ2_checkBoundsOffCount_d044e 2 = .ok (.aload_n 2, 1) := by decide +kernel
theorem dJ2_checkBoundsOffCount_d044e_3 : decode cJ2_checkBoundsOffCount_d044e 3 = .ok (.invokestatic 48, 3) := by decide +kernel
theorem dJ2_checkBoundsOffCount_d044e_6 : decode cJ2_checkBoundsOffCount_d044e 6 = .ok (.invokestatic 419, 3) := by decide +kernel
theorem dJ2_checkBoundsOffCount_d044e_9 : decode cJ2_checkBoundsOffCount_d044e 9 = .ok (.pop, 1) := by decide +kernel
theorem dJ2_checkBoundsOffCount_d044e_10 : decode cJ2_checkBoundsOffCount_d044e 10 = .ok (.return_, 1) := by decide +kernel
theorem dJ7_copyOf_9075b_0 : decode cJ7_copyOf_9075b 0 = .ok (.iload_n 1, 1) := by decide +kernel
theorem dJ7_copyOf_9075b_1 : decode cJ7_copyOf_9075b 1 = .ok (.aload_n 0, 1) := by decide +kernel
theorem dJ7_copyOf_9075b_2 : decode cJ7_copyOf_9075b 2 = .ok (.arraylength, 1) := by decide +kernel
theorem dJ7_copyOf_9075b_3 : decode cJ7_copyOf_9075b 3 = .ok (.if_icmp .ne 11, 3) := by decide +kernel
theorem dJ7_copyOf_9075b_6 : decode cJ7_copyOf_9075b 6 = .ok (.aload_n 0, 1) := by decide +kernel
theorem dJ7_copyOf_9075b_7 : decode cJ7_copyOf_9075b 7 = .ok (.invokevirtual 310, 3) := by decide +kernel
theorem dJ7_copyOf_9075b_10 : decode cJ7_copyOf_9075b 10 = .ok (.checkcast 311, 3) := by decide +kernel
theorem dJ7_copyOf_9075b_13 : decode cJ7_copyOf_9075b 13 = .ok (.areturn, 1) := by decide +kernel
theorem dJ7_copyOf_9075b_14 : decode cJ7_copyOf_9075b 14 = .ok (.iload_n 1, 1) := by decide +kernel
theorem dJ7_copyOf_9075b_15 : decode cJ7_copyOf_9075b 15 = .ok (.newarray .byte, 2) := by decide +kernel
theorem dJ7_copyOf_9075b_17 : decode cJ7_copyOf_9075b 17 = .ok (.astore_n 2, 1) := by decide +kernel
theorem dJ7_copyOf_9075b_18 : decode cJ7_copyOf_9075b 18 = .ok (.aload_n 0, 1) := by decide +kernel
theorem dJ7_copyOf_9075b_19 : decode cJ7_copyOf_9075b 19 = .ok (.iconst 0, 1) := by decide +kernel
theorem dJ7_copyOf_9075b_20 : decode cJ7_copyOf_9075b 20 = .ok (.aload_n 2, 1) := by decide +kernel
theorem dJ7_copyOf_9075b_21 : decode cJ7_copyOf_9075b 21 = .ok (.iconst 0, 1) := by decide +kernel
theorem dJ7_copyOf_9075b_22 : decode cJ7_copyOf_9075b 22 = .ok (.aload_n 0, 1) := by decide +kernel
theorem dJ7_copyOf_9075b_23 : decode cJ7_copyOf_9075b 23 = .ok (.arraylength, 1) := by decide +kernel
theorem dJ7_copyOf_9075b_24 : decode cJ7_copyOf_9075b 24 = .ok (.iload_n 1, 1) := by decide +kernel
theorem dJ7_copyOf_9075b_25 : decode cJ7_copyOf_9075b 25 = .ok (.invokestatic 304, 3) := by decide +kernel
theorem dJ7_copyOf_9075b_28 : decode cJ7_copyOf_9075b 28 = .ok (.invokestatic 150, 3) := by decide +kernel
theorem dJ7_copyOf_9075b_31 : decode cJ7_copyOf_9075b 31 = .ok (.aload_n 2, 1) := by decide +kernel
theorem dJ7_copyOf_9075b_32 : decode cJ7_copyOf_9075b 32 = .ok (.areturn, 1) := by decide +kernel
theorem dJ7_checkLength_df160_0 : decode cJ7_checkLength_df160 0 = .ok (.iload_n 1, 1) := by decide +kernel
theorem dJ7_checkLength_df160_1 : decode cJ7_checkLength_df160 1 = .ok (.iload_n 0, 1) := by decide +kernel
theorem dJ7_checkLength_df160_2 : decode cJ7_checkLength_df160 2 = .ok (.if_icmp .ge 35, 3) := by decide +kernel
theorem dJ7_checkLength_df160_5 : decode cJ7_checkLength_df160 5 = .ok (.new 43, 3) := by decide +kernel
theorem dJ7_checkLength_df160_8 : decode cJ7_checkLength_df160 8 = .ok (.dup, 1) := by decide +kernel
theorem dJ7_checkLength_df160_9 : decode cJ7_checkLength_df160 9 = .ok (.new 45, 3) := by decide +kernel
theorem dJ7_checkLength_df160_12 : decode cJ7_checkLength_df160 12 = .ok (.dup, 1) := by decide +kernel
theorem dJ7_checkLength_df160_13 : decode cJ7_checkLength_df160 13 = .ok (.invokespecial 47, 3) := by decide +kernel
theorem dJ7_checkLength_df160_16 : decode cJ7_checkLength_df160 16 = .ok (.iload_n 0, 1) := by decide +kernel
theorem dJ7_checkLength_df160_17 : decode cJ7_checkLength_df160 17 = .ok (.invokevirtual 54, 3) := by decide +kernel
theorem dJ7_checkLength_df160_20 : decode cJ7_checkLength_df160 20 = .ok (.ldc_w 337, 3) := by decide +kernel
theorem dJ7_checkLength_df160_23 : decode cJ7_checkLength_df160 23 = .ok (.invokevirtual 50, 3) := by decide +kernel
theorem dJ7_checkLength_df160_26 : decode cJ7_checkLength_df160 26 = .ok (.iload_n 1, 1) := by decide +kernel
theorem dJ7_checkLength_df160_27 : decode cJ7_checkLength_df160 27 = .ok (.invokevirtual 54, 3) := by decide +kernel
theorem dJ7_checkLength_df160_30 : decode cJ7_checkLength_df160 30 = .ok (.invokevirtual 61, 3) := by decide +kernel
theorem dJ7_checkLength_df160_33 : decode cJ7_checkLength_df160 33 = .ok (.invokespecial 65, 3) := by decide +kernel
theorem dJ7_checkLength_df160_36 : decode cJ7_checkLength_df160 36 = .ok (.athrow, 1) := by decide +kernel
theorem dJ7_checkLength_df160_37 : decode cJ7_checkLength_df160 37 = .ok (.return_, 1) := by decide +kernel
theorem dJ7_copyOfRange_39247_0 : decode cJ7_copyOfRange_39247 0 = .ok (.iload_n 1, 1) := by decide +kernel
theorem dJ7_copyOfRange_39247_1 : decode cJ7_copyOfRange_39247 1 = .ok (.ifCond .ne 9, 3) := by decide +kernel
theorem dJ7_copyOfRange_39247_4 : decode cJ7_copyOfRange_39247 4 = .ok (.iload_n 2, 1) := by decide +kernel
theorem dJ7_copyOfRange_39247_5 : decode cJ7_copyOfRange_39247 5 = .ok (.aload_n 0, 1) := by decide +kernel
theorem dJ7_copyOfRange_39247_6 : decode cJ7_copyOfRange_39247 6 = .ok (.arraylength, 1) := by decide +kernel
theorem dJ7_copyOfRange_39247_7 : decode cJ7_copyOfRange_39247 7 = .ok (.if_icmp .eq 10, 3) := by decide +kernel
theorem dJ7_copyOfRange_39247_10 : decode cJ7_copyOfRange_39247 10 = .ok (.aload_n 0, 1) := by decide +kernel
theorem dJ7_copyOfRange_39247_11 : decode cJ7_copyOfRange_39247 11 = .ok (.iload_n 1, 1) := by decide +kernel
theorem dJ7_copyOfRange_39247_12 : decode cJ7_copyOfRange_39247 12 = .ok (.iload_n 2, 1) := by decide +kernel
theorem dJ7_copyOfRange_39247_13 : decode cJ7_copyOfRange_39247 13 = .ok (.invokestatic 339, 3) := by decide +kernel
theorem dJ7_copyOfRange_39247_16 : decode cJ7_copyOfRange_39247 16 = .ok (.areturn, 1) := by decide +kernel
theorem dJ7_copyOfRange_39247_17 : decode cJ7_copyOfRange_39247 17 = .ok (.aload_n 0, 1) := by decide +kernel
theorem dJ7_copyOfRange_39247_18 : decode cJ7_copyOfRange_39247 18 = .ok (.invokevirtual 310, 3) := by decide +kernel
theorem dJ7_copyOfRange_39247_21 : decode cJ7_copyOfRange_39247 21 = .ok (.checkcast 311, 3) := by decide +kernel
theorem dJ7_copyOfRange_39247_24 : decode cJ7_copyOfRange_39247 24 = .ok (.areturn, 1) := by decide +kernel
theorem dJ7_copyOfRangeByte_39247_0 : decode cJ7_copyOfRangeByte_39247 0 = .ok (.iload_n 1, 1) := by decide +kernel
theorem dJ7_copyOfRangeByte_39247_1 : decode cJ7_copyOfRangeByte_39247 1 = .ok (.iload_n 2, 1) := by decide +kernel
theorem dJ7_copyOfRangeByte_39247_2 : decode cJ7_copyOfRangeByte_39247 2 = .ok (.invokestatic 343, 3) := by decide +kernel
theorem dJ7_copyOfRangeByte_39247_5 : decode cJ7_copyOfRangeByte_39247 5 = .ok (.iload_n 2, 1) := by decide +kernel
theorem dJ7_copyOfRangeByte_39247_6 : decode cJ7_copyOfRangeByte_39247 6 = .ok (.iload_n 1, 1) := by decide +kernel
theorem dJ7_copyOfRangeByte_39247_7 : decode cJ7_copyOfRangeByte_39247 7 = .ok (.isub, 1) := by decide +kernel
theorem dJ7_copyOfRangeByte_39247_8 : decode cJ7_copyOfRangeByte_39247 8 = .ok (.istore_n 3, 1) := by decide +kernel
theorem dJ7_copyOfRangeByte_39247_9 : decode cJ7_copyOfRangeByte_39247 9 = .ok (.iload_n 3, 1) := by decide +kernel
theorem dJ7_copyOfRangeByte_39247_10 : decode cJ7_copyOfRangeByte_39247 10 = .ok (.newarray .byte, 2) := by decide +kernel
theorem dJ7_copyOfRangeByte_39247_12 : decode cJ7_copyOfRangeByte_39247 12 = .ok (.astore 4, 2) := by decide +kernel
theorem dJ7_copyOfRangeByte_39247_14 : decode cJ7_copyOfRangeByte_39247 14 = .ok (.aload_n 0, 1) := by decide +kernel
theorem dJ7_copyOfRangeByte_39247_15 : decode cJ7_copyOfRangeByte_39247 15 = .ok (.iload_n 1, 1) := by decide +kernel
theorem dJ7_copyOfRangeByte_39247_16 : decode cJ7_copyOfRangeByte_39247 16 = .ok (.aload 4, 2) := by decide +kernel
theorem dJ7_copyOfRangeByte_39247_18 : decode cJ7_copyOfRangeByte_39247 18 = .ok (.iconst 0, 1) := by decide +kernel
theorem dJ7_copyOfRangeByte_39247_19 : decode cJ7_copyOfRangeByte_39247 19 = .ok (.aload_n 0, 1) := by decide +kernel
theorem dJ7_copyOfRangeByte_39247_20 : decode cJ7_copyOfRangeByte_39247 20 = .ok (.arraylength, 1) := by decide +kernel
theorem dJ7_copyOfRangeByte_39247_21 : decode cJ7_copyOfRangeByte_39247 21 = .ok (.iload_n 1, 1) := by decide +kernel
theorem dJ7_copyOfRangeByte_39247_22 : decode cJ7_copyOfRangeByte_39247 22 = .ok (.isub, 1) := by decide +kernel
theorem dJ7_copyOfRangeByte_39247_23 : decode cJ7_copyOfRangeByte_39247 23 = .ok (.iload_n 3, 1) := by decide +kernel
theorem dJ7_copyOfRangeByte_39247_24 : decode cJ7_copyOfRangeByte_39247 24 = .ok (.invokestatic 304, 3) := by decide +kernel
theorem dJ7_copyOfRangeByte_39247_27 : decode cJ7_copyOfRangeByte_39247 27 = .ok (.invokestatic 150, 3) := by decide +kernel
theorem dJ7_copyOfRangeByte_39247_30 : decode cJ7_copyOfRangeByte_39247 30 = .ok (.aload 4, 2) := by decide +kernel
theorem dJ7_copyOfRangeByte_39247_32 : decode cJ7_copyOfRangeByte_39247 32 = .ok (.areturn, 1) := by decide +kernel
theorem dJ8_newLength_cabcc_0 : decode cJ8_newLength_cabcc 0 = .ok (.iload_n 0, 1) := by decide +kernel
theorem dJ8_newLength_cabcc_1 : decode cJ8_newLength_cabcc 1 = .ok (.iload_n 1, 1) := by decide +kernel
theorem dJ8_newLength_cabcc_2 : decode cJ8_newLength_cabcc 2 = .ok (.iload_n 2, 1) := by decide +kernel
theorem dJ8_newLength_cabcc_3 : decode cJ8_newLength_cabcc 3 = .ok (.invokestatic 194, 3) := by decide +kernel
theorem dJ8_newLength_cabcc_6 : decode cJ8_newLength_cabcc 6 = .ok (.iadd, 1) := by decide +kernel
theorem dJ8_newLength_cabcc_7 : decode cJ8_newLength_cabcc 7 = .ok (.istore_n 3, 1) := by decide +kernel
theorem dJ8_newLength_cabcc_8 : decode cJ8_newLength_cabcc 8 = .ok (.iconst 0, 1) := by decide +kernel
theorem dJ8_newLength_cabcc_9 : decode cJ8_newLength_cabcc 9 = .ok (.iload_n 3, 1) := by decide +kernel
theorem dJ8_newLength_cabcc_10 : decode cJ8_newLength_cabcc 10 = .ok (.if_icmp .ge 11, 3) := by decide +kernel
theorem dJ8_newLength_cabcc_13 : decode cJ8_newLength_cabcc 13 = .ok (.iload_n 3, 1) := by decide +kernel
theorem dJ8_newLength_cabcc_14 : decode cJ8_newLength_cabcc 14 = .ok (.ldc 200, 2) := by decide +kernel
theorem dJ8_newLength_cabcc_16 : decode cJ8_newLength_cabcc 16 = .ok (.if_icmp .gt 5, 3) := by decide +kernel
theorem dJ8_newLength_cabcc_19 : decode cJ8_newLength_cabcc 19 = .ok (.iload_n 3, 1) := by decide +kernel
theorem dJ8_newLength_cabcc_20 : decode cJ8_newLength_cabcc 20 = .ok (.ireturn, 1) := by decide +kernel
theorem dJ8_newLength_cabcc_21 : decode cJ8_newLength_cabcc 21 = .ok (.iload_n 0, 1) := by decide +kernel
theorem dJ8_newLength_cabcc_22 : decode cJ8_newLength_cabcc 22 = .ok (.iload_n 1, 1) := by decide +kernel
theorem dJ8_newLength_cabcc_23 : decode cJ8_newLength_cabcc 23 = .ok (.invokestatic 201, 3) := by decide +kernel
theorem dJ8_newLength_cabcc_26 : decode cJ8_newLength_cabcc 26 = .ok (.ireturn, 1) := by decide +kernel
theorem dJ8_hugeLength_7cf53_0 : decode cJ8_hugeLength_7cf53 0 = .ok (.iload_n 0, 1) := by decide +kernel
theorem dJ8_hugeLength_7cf53_1 : decode cJ8_hugeLength_7cf53 1 = .ok (.iload_n 1, 1) := by decide +kernel
theorem dJ8_hugeLength_7cf53_2 : decode cJ8_hugeLength_7cf53 2 = .ok (.iadd, 1) := by decide +kernel
theorem dJ8_hugeLength_7cf53_3 : decode cJ8_hugeLength_7cf53 3 = .ok (.istore_n 2, 1) := by decide +kernel
theorem dJ8_hugeLength_7cf53_4 : decode cJ8_hugeLength_7cf53 4 = .ok (.iload_n 2, 1) := by decide +kernel
theorem dJ8_hugeLength_7cf53_5 : decode cJ8_hugeLength_7cf53 5 = .ok (.ifCond .ge 44, 3) := by decide +kernel
theorem dJ8_hugeLength_7cf53_8 : decode cJ8_hugeLength_7cf53 8 = .ok (.new 204, 3) := by decide +kernel
theorem dJ8_hugeLength_7cf53_11 : decode cJ8_hugeLength_7cf53 11 = .ok (.dup, 1) := by decide +kernel
theorem dJ8_hugeLength_7cf53_12 : decode cJ8_hugeLength_7cf53 12 = .ok (.new 89, 3) := by decide +kernel
theorem dJ8_hugeLength_7cf53_15 : decode cJ8_hugeLength_7cf53 15 = .ok (.dup, 1) := by decide +kernel
theorem dJ8_hugeLength_7cf53_16 : decode cJ8_hugeLength_7cf53 16 = .ok (.invokespecial 91, 3) := by decide +kernel
theorem dJ8_hugeLength_7cf53_19 : decode cJ8_hugeLength_7cf53 19 = .ok (.ldc 206, 2) := by decide +kernel
theorem dJ8_hugeLength_7cf53_21 : decode cJ8_hugeLength_7cf53 21 = .ok (.invokevirtual 94, 3) := by decide +kernel
theorem dJ8_hugeLength_7cf53_24 : decode cJ8_hugeLength_7cf53 24 = .ok (.iload_n 0, 1) := by decide +kernel
theorem dJ8_hugeLength_7cf53_25 : decode cJ8_hugeLength_7cf53 25 = .ok (.invokevirtual 98, 3) := by decide +kernel
theorem dJ8_hugeLength_7cf53_28 : decode cJ8_hugeLength_7cf53 28 = .ok (.ldc 208, 2) := by decide +kernel
theorem dJ8_hugeLength_7cf53_30 : decode cJ8_hugeLength_7cf53 30 = .ok (.invokevirtual 94, 3) := by decide +kernel
theorem dJ8_hugeLength_7cf53_33 : decode cJ8_hugeLength_7cf53 33 = .ok (.iload_n 1, 1) := by decide +kernel
theorem dJ8_hugeLength_7cf53_34 : decode cJ8_hugeLength_7cf53 34 = .ok (.invokevirtual 98, 3) := by decide +kernel
theorem dJ8_hugeLength_7cf53_37 : decode cJ8_hugeLength_7cf53 37 = .ok (.ldc 210, 2) := by decide +kernel
theorem dJ8_hugeLength_7cf53_39 : decode cJ8_hugeLength_7cf53 39 = .ok (.invokevirtual 94, 3) := by decide +kernel
theorem dJ8_hugeLength_7cf53_42 : decode cJ8_hugeLength_7cf53 42 = .ok (.invokevirtual 101, 3) := by decide +kernel
theorem dJ8_hugeLength_7cf53_45 : decode cJ8_hugeLength_7cf53 45 = .ok (.invokespecial 212, 3) := by decide +kernel
theorem dJ8_hugeLength_7cf53_48 : decode cJ8_hugeLength_7cf53 48 = .ok (.athrow, 1) := by decide +kernel
theorem dJ8_hugeLength_7cf53_49 : decode cJ8_hugeLength_7cf53 49 = .ok (.iload_n 2, 1) := by decide +kernel
theorem dJ8_hugeLength_7cf53_50 : decode cJ8_hugeLength_7cf53 50 = .ok (.ldc 200, 2) := by decide +kernel
theorem dJ8_hugeLength_7cf53_52 : decode cJ8_hugeLength_7cf53 52 = .ok (.if_icmp .gt 6, 3) := by decide +kernel
theorem dJ8_hugeLength_7cf53_55 : decode cJ8_hugeLength_7cf53 55 = .ok (.ldc 200, 2) := by decide +kernel
theorem dJ8_hugeLength_7cf53_57 : decode cJ8_hugeLength_7cf53 57 = .ok (.ireturn, 1) := by decide +kernel
theorem dJ8_hugeLength_7cf53_58 : decode cJ8_hugeLength_7cf53 58 = .ok (.iload_n 2, 1) := by decide +kernel
theorem dJ8_hugeLength_7cf53_59 : decode cJ8_hugeLength_7cf53 59 = .ok (.ireturn, 1) := by decide +kernel
theorem dJ3_checkIndex_8e157_0 : decode cJ3_checkIndex_8e157 0 = .ok (.iload_n 0, 1) := by decide +kernel
theorem dJ3_checkIndex_8e157_1 : decode cJ3_checkIndex_8e157 1 = .ok (.ifCond .lt 8, 3) := by decide +kernel
theorem dJ3_checkIndex_8e157_4 : decode cJ3_checkIndex_8e157 4 = .ok (.iload_n 0, 1) := by decide +kernel
theorem dJ3_checkIndex_8e157_5 : decode cJ3_checkIndex_8e157 5 = .ok (.iload_n 1, 1) := by decide +kernel
theorem dJ3_checkIndex_8e157_6 : decode cJ3_checkIndex_8e157 6 = .ok (.if_icmp .lt 10, 3) := by decide +kernel
theorem dJ3_checkIndex_8e157_9 : decode cJ3_checkIndex_8e157 9 = .ok (.aload_n 2, 1) := by decide +kernel
theorem dJ3_checkIndex_8e157_10 : decode cJ3_checkIndex_8e157 10 = .ok (.iload_n 0, 1) := by decide +kernel
theorem dJ3_checkIndex_8e157_11 : decode cJ3_checkIndex_8e157 11 = .ok (.iload_n 1, 1) := by decide +kernel
theorem dJ3_checkIndex_8e157_12 : decode cJ3_checkIndex_8e157 12 = .ok (.invokestatic 95, 3) := by decide +kernel
theorem dJ3_checkIndex_8e157_15 : decode cJ3_checkIndex_8e157 15 = .ok (.athrow, 1) := by decide +kernel
theorem dJ3_checkIndex_8e157_16 : decode cJ3_checkIndex_8e157 16 = .ok (.iload_n 0, 1) := by decide +kernel
theorem dJ3_checkIndex_8e157_17 : decode cJ3_checkIndex_8e157 17 = .ok (.ireturn, 1) := by decide +kernel
theorem dJ3_checkFromToIndex_8c36e_0 : decode cJ3_checkFromToIndex_8c36e 0 = .ok (.iload_n 0, 1) := by decide +kernel
theorem dJ3_checkFromToIndex_8c36e_1 : decode cJ3_checkFromToIndex_8c36e 1 = .ok (.ifCond .lt 13, 3) := by decide +kernel
theorem dJ3_checkFromToIndex_8c36e_4 : decode cJ3_checkFromToIndex_8c36e 4 = .ok (.iload_n 0, 1) := by decide +kernel
theorem dJ3_checkFromToIndex_8c36e_5 : decode cJ3_checkFromToIndex_8c36e 5 = .ok (.iload_n 1, 1) := by decide +kernel
theorem dJ3_checkFromToIndex_8c36e_6 : decode cJ3_checkFromToIndex_8c36e 6 = .ok (.if_icmp .gt 8, 3) := by decide +kernel
theorem dJ3_checkFromToIndex_8c36e_9 : decode cJ3_checkFromToIndex_8c36e 9 = .ok (.iload_n 1, 1) := by decide +kernel
theorem dJ3_checkFromToIndex_8c36e_10 : decode cJ3_checkFromToIndex_8c36e 10 = .ok (.iload_n 2, 1) := by decide +kernel
theorem dJ3_checkFromToIndex_8c36e_11 : decode cJ3_checkFromToIndex_8c36e 11 = .ok (.if_icmp .le 11, 3) := by decide +kernel
theorem dJ3_checkFromToIndex_8c36e_14 : decode cJ3_checkFromToIndex_8c36e 14 = .ok (.aload_n 3, 1) := by decide +kernel
theorem dJ3_checkFromToIndex_8c36e_15 : decode cJ3_checkFromToIndex_8c36e 15 = .ok (.iload_n 0, 1) := by decide +kernel
theorem dJ3_checkFromToIndex_8c36e_16 : decode cJ3_checkFromToIndex_8c36e 16 = .ok (.iload_n 1, 1) := by decide +kernel
theorem dJ3_checkFromToIndex_8c36e_17 : decode cJ3_checkFromToIndex_8c36e 17 = .ok (.iload_n 2, 1) := by decide +kernel
theorem dJ3_checkFromToIndex_8c36e_18 : decode cJ3_checkFromToIndex_8c36e 18 = .ok (.invokestatic 99, 3) := by decide +kernel
theorem dJ3_checkFromToIndex_8c36e_21 : decode cJ3_checkFromToIndex_8c36e 21 = .ok (.athrow, 1) := by decide +kernel
theorem dJ3_checkFromToIndex_8c36e_22 : decode cJ3_checkFromToIndex_8c36e 22 = .ok (.iload_n 0, 1) := by decide +kernel
theorem dJ3_checkFromToIndex_8c36e_23 : decode cJ3_checkFromToIndex_8c36e 23 = .ok (.ireturn, 1) := by decide +kernel
theorem dJ3_checkFromIndexSize_8c36e_0 : decode cJ3_checkFromIndexSize_8c36e 0 = .ok (.iload_n 2, 1) := by decide +kernel
theorem dJ3_checkFromIndexSize_8c36e_1 : decode cJ3_checkFromIndexSize_8c36e 1 = .ok (.iload_n 0, 1) := by decide +kernel
theorem dJ3_checkFromIndexSize_8c36e_2 : decode cJ3_checkFromIndexSize_8c36e 2 = .ok (.ior, 1) := by decide +kernel
theorem dJ3_checkFromIndexSize_8c36e_3 : decode cJ3_checkFromIndexSize_8c36e 3 = .ok (.iload_n 1, 1) := by decide +kernel
theorem dJ3_checkFromIndexSize_8c36e_4 : decode cJ3_checkFromIndexSize_8c36e 4 = .ok (.ior, 1) := by decide +kernel
theorem dJ3_checkFromIndexSize_8c36e_5 : decode cJ3_checkFromIndexSize_8c36e 5 = .ok (.ifCond .lt 10, 3) := by decide +kernel
theorem dJ3_checkFromIndexSize_8c36e_8 : decode cJ3_checkFromIndexSize_8c36e 8 = .ok (.iload_n 1, 1) := by decide +kernel
theorem dJ3_checkFromIndexSize_8c36e_9 : decode cJ3_checkFromIndexSize_8c36e 9 = .ok (.iload_n 2, 1) := by decide +kernel
theorem dJ3_checkFromIndexSize_8c36e_10 : decode cJ3_checkFromIndexSize_8c36e 10 = .ok (.iload_n 0, 1) := by decide +kernel
theorem dJ3_checkFromIndexSize_8c36e_11 : decode cJ3_checkFromIndexSize_8c36e 11 = .ok (.isub, 1) := by decide +kernel
theorem dJ3_checkFromIndexSize_8c36e_12 : decode cJ3_checkFromIndexSize_8c36e 12 = .ok (.if_icmp .le 11, 3) := by decide +kernel
theorem dJ3_checkFromIndexSize_8c36e_15 : decode cJ3_checkFromIndexSize_8c36e 15 = .ok (.aload_n 3, 1) := by decide +kernel
theorem dJ3_checkFromIndexSize_8c36e_16 : decode cJ3_checkFromIndexSize_8c36e 16 = .ok (.iload_n 0, 1) := by decide +kernel
theorem dJ3_checkFromIndexSize_8c36e_17 : decode cJ3_checkFromIndexSize_8c36e 17 = .ok (.iload_n 1, 1) := by decide +kernel
theorem dJ3_checkFromIndexSize_8c36e_18 : decode cJ3_checkFromIndexSize_8c36e 18 = .ok (.iload_n 2, 1) := by decide +kernel
theorem dJ3_checkFromIndexSize_8c36e_19 : decode cJ3_checkFromIndexSize_8c36e 19 = .ok (.invokestatic 103, 3) := by decide +kernel
theorem dJ3_checkFromIndexSize_8c36e_22 : decode cJ3_checkFromIndexSize_8c36e 22 = .ok (.athrow, 1) := by decide +kernel
theorem dJ3_checkFromIndexSize_8c36e_23 : decode cJ3_checkFromIndexSize_8c36e 23 = .ok (.iload_n 0, 1) := by decide +kernel
theorem dJ3_checkFromIndexSize_8c36e_24 : decode cJ3_checkFromIndexSize_8c36e 24 = .ok (.ireturn, 1) := by decide +kernel
theorem dL_cell_0 : decode cL_cell 0 = .ok (.iload_n 1, 1) := by decide +kernel
theorem dL_cell_1 : decode cL_cell 1 = .ok (.aload_n 0, 1) := by decide +kernel
theorem dL_cell_2 : decode cL_cell 2 = .ok (.arraylength, 1) := by decide +kernel
theorem dL_cell_3 : decode cL_cell 3 = .ok (.if_icmp .ge 12, 3) := by decide +kernel
theorem dL_cell_6 : decode cL_cell 6 = .ok (.aload_n 0, 1) := by decide +kernel
theorem dL_cell_7 : decode cL_cell 7 = .ok (.iload_n 1, 1) := by decide +kernel
theorem dL_cell_8 : decode cL_cell 8 = .ok (.iaload, 1) := by decide +kernel
theorem dL_cell_9 : decode cL_cell 9 = .ok (.ldc 7, 2) := by decide +kernel
theorem dL_cell_11 : decode cL_cell 11 = .ok (.iand, 1) := by decide +kernel
theorem dL_cell_12 : decode cL_cell 12 = .ok (.goto 4, 3) := by decide +kernel
theorem dL_cell_15 : decode cL_cell 15 = .ok (.iconst 0, 1) := by decide +kernel
theorem dL_cell_16 : decode cL_cell 16 = .ok (.ireturn, 1) := by decide +kernel
theorem dL_says_0 : decode cL_says 0 = .ok (.iconst 0, 1) := by decide +kernel
theorem dL_says_1 : decode cL_says 1 = .ok (.istore_n 2, 1) := by decide +kernel
theorem dL_says_2 : decode cL_says 2 = .ok (.iload_n 2, 1) := by decide +kernel
theorem dL_says_3 : decode cL_says 3 = .ok (.aload_n 1, 1) := by decide +kernel
theorem dL_says_4 : decode cL_says 4 = .ok (.invokevirtual 8, 3) := by decide +kernel
theorem dL_says_7 : decode cL_says 7 = .ok (.if_icmp .ge 89, 3) := by decide +kernel
theorem dL_says_10 : decode cL_says 10 = .ok (.iconst 5, 1) := by decide +kernel
theorem dL_says_11 : decode cL_says 11 = .ok (.newarray .int, 2) := by decide +kernel
theorem dL_says_13 : decode cL_says 13 = .ok (.astore_n 3, 1) := by decide +kernel
theorem dL_says_14 : decode cL_says 14 = .ok (.iconst 0, 1) := by decide +kernel
theorem dL_says_15 : decode cL_says 15 = .ok (.istore 4, 2) := by decide +kernel
theorem dL_says_17 : decode cL_says 17 = .ok (.iload 4, 2) := by decide +kernel
theorem dL_says_19 : decode cL_says 19 = .ok (.bipush 20, 2) := by decide +kernel
theorem dL_says_21 : decode cL_says 21 = .ok (.if_icmp .ge 49, 3) := by decide +kernel
theorem dL_says_24 : decode cL_says 24 = .ok (.aload_n 3, 1) := by decide +kernel
theorem dL_says_25 : decode cL_says 25 = .ok (.iload 4, 2) := by decide +kernel
theorem dL_says_27 : decode cL_says 27 = .ok (.iconst 4, 1) := by decide +kernel
theorem dL_says_28 : decode cL_says 28 = .ok (.idiv, 1) := by decide +kernel
theorem dL_says_29 : decode cL_says 29 = .ok (.aload_n 3, 1) := by decide +kernel
theorem dL_says_30 : decode cL_says 30 = .ok (.iload 4, 2) := by decide +kernel
theorem dL_says_32 : decode cL_says 32 = .ok (.iconst 4, 1) := by decide +kernel
theorem dL_says_33 : decode cL_says 33 = .ok (.idiv, 1) := by decide +kernel
theorem dL_says_34 : decode cL_says 34 = .ok (.iaload, 1) := by decide +kernel
theorem dL_says_35 : decode cL_says 35 = .ok (.bipush 8, 2) := by decide +kernel
theorem dL_says_37 : decode cL_says 37 = .ok (.ishl, 1) := by decide +kernel
theorem dL_says_38 : decode cL_says 38 = .ok (.iload_n 2, 1) := by decide +kernel
theorem dL_says_39 : decode cL_says 39 = .ok (.iload 4, 2) := by decide +kernel
theorem dL_says_41 : decode cL_says 41 = .ok (.iadd, 1) := by decide +kernel
theorem dL_says_42 : decode cL_says 42 = .ok (.aload_n 1, 1) := by decide +kernel
theorem dL_says_43 : decode cL_says 43 = .ok (.invokevirtual 8, 3) := by decide +kernel
theorem dL_says_46 : decode cL_says 46 = .ok (.if_icmp .ge 14, 3) := by decide +kernel
theorem dL_says_49 : decode cL_says 49 = .ok (.aload_n 1, 1) := by decide +kernel
theorem dL_says_50 : decode cL_says 50 = .ok (.iload_n 2, 1) := by decide +kernel
theorem dL_says_51 : decode cL_says 51 = .ok (.iload 4, 2) := by decide +kernel
theorem dL_says_53 : decode cL_says 53 = .ok (.iadd, 1) := by decide +kernel
theorem dL_says_54 : decode cL_says 54 = .ok (.invokevirtual 14, 3) := by decide +kernel
theorem dL_says_57 : decode cL_says 57 = .ok (.goto 5, 3) := by decide +kernel
theorem dL_says_60 : decode cL_says 60 = .ok (.bipush 32, 2) := by decide +kernel
theorem dL_says_62 : decode cL_says 62 = .ok (.ior, 1) := by decide +kernel
theorem dL_says_63 : decode cL_says 63 = .ok (.iastore, 1) := by decide +kernel
theorem dL_says_64 : decode cL_says 64 = .ok (.iinc 4 1, 3) := by decide +kernel
theorem dL_says_67 : decode cL_says 67 = .ok (.goto (-50), 3) := by decide +kernel
theorem dL_says_70 : decode cL_says 70 = .ok (.aload_n 0, 1) := by decide +kernel
theorem dL_says_71 : decode cL_says 71 = .ok (.aload_n 3, 1) := by decide +kernel
theorem dL_says_72 : decode cL_says 72 = .ok (.iconst 0, 1) := by decide +kernel
theorem dL_says_73 : decode cL_says 73 = .ok (.iaload, 1) := by decide +kernel
theorem dL_says_74 : decode cL_says 74 = .ok (.aload_n 3, 1) := by decide +kernel
theorem dL_says_75 : decode cL_says 75 = .ok (.iconst 1, 1) := by decide +kernel
theorem dL_says_76 : decode cL_says 76 = .ok (.iaload, 1) := by decide +kernel
theorem dL_says_77 : decode cL_says 77 = .ok (.aload_n 3, 1) := by decide +kernel
theorem dL_says_78 : decode cL_says 78 = .ok (.iconst 2, 1) := by decide +kernel
theorem dL_says_79 : decode cL_says 79 = .ok (.iaload, 1) := by decide +kernel
theorem dL_says_80 : decode cL_says 80 = .ok (.aload_n 3, 1) := by decide +kernel
theorem dL_says_81 : decode cL_says 81 = .ok (.iconst 3, 1) := by decide +kernel
theorem dL_says_82 : decode cL_says 82 = .ok (.iaload, 1) := by decide +kernel
theorem dL_says_83 : decode cL_says 83 = .ok (.aload_n 3, 1) := by decide +kernel
theorem dL_says_84 : decode cL_says 84 = .ok (.iconst 4, 1) := by decide +kernel
theorem dL_says_85 : decode cL_says 85 = .ok (.iaload, 1) := by decide +kernel
theorem dL_says_86 : decode cL_says 86 = .ok (.invokevirtual 18, 3) := by decide +kernel
theorem dL_says_89 : decode cL_says 89 = .ok (.pop, 1) := by decide +kernel
theorem dL_says_90 : decode cL_says 90 = .ok (.iinc 2 20, 3) := by decide +kernel
theorem dL_says_93 : decode cL_says 93 = .ok (.goto (-91), 3) := by decide +kernel
theorem dL_says_96 : decode cL_says 96 = .ok (.aload_n 0, 1) := by decide +kernel
theorem dL_says_97 : decode cL_says 97 = .ok (.aload_n 1, 1) := by decide +kernel
theorem dL_says_98 : decode cL_says 98 = .ok (.invokevirtual 8, 3) := by decide +kernel
theorem dL_says_101 : decode cL_says 101 = .ok (.invokevirtual 24, 3) := by decide +kernel
theorem dL_says_104 : decode cL_says 104 = .ok (.pop, 1) := by decide +kernel
theorem dL_says_105 : decode cL_says 105 = .ok (.return_, 1) := by decide +kernel
theorem dL_loaded_0 : decode cL_loaded 0 = .ok (.aload_n 0, 1) := by decide +kernel
theorem dL_loaded_1 : decode cL_loaded 1 = .ok (.invokevirtual 28, 3) := by decide +kernel
theorem dL_loaded_4 : decode cL_loaded 4 = .ok (.ireturn, 1) := by decide +kernel
theorem dL_loaded_5 : decode cL_loaded 5 = .ok (.astore_n 1, 1) := by decide +kernel
theorem dL_loaded_6 : decode cL_loaded 6 = .ok (.bipush (-9), 2) := by decide +kernel
theorem dL_loaded_8 : decode cL_loaded 8 = .ok (.ireturn, 1) := by decide +kernel
theorem dL_text_0 : decode cL_text 0 = .ok (.aload_n 0, 1) := by decide +kernel
theorem dL_text_1 : decode cL_text 1 = .ok (.iconst 0, 1) := by decide +kernel
theorem dL_text_2 : decode cL_text 2 = .ok (.invokestatic 33, 3) := by decide +kernel
theorem dL_text_5 : decode cL_text 5 = .ok (.istore_n 1, 1) := by decide +kernel
theorem dL_text_6 : decode cL_text 6 = .ok (.iconst 3, 1) := by decide +kernel
theorem dL_text_7 : decode cL_text 7 = .ok (.iload_n 1, 1) := by decide +kernel
theorem dL_text_8 : decode cL_text 8 = .ok (.iconst 4, 1) := by decide +kernel
theorem dL_text_9 : decode cL_text 9 = .ok (.irem, 1) := by decide +kernel
theorem dL_text_10 : decode cL_text 10 = .ok (.iadd, 1) := by decide +kernel
theorem dL_text_11 : decode cL_text 11 = .ok (.istore_n 2, 1) := by decide +kernel
theorem dL_text_12 : decode cL_text 12 = .ok (.new 39, 3) := by decide +kernel
theorem dL_text_15 : decode cL_text 15 = .ok (.dup, 1) := by decide +kernel
theorem dL_text_16 : decode cL_text 16 = .ok (.invokespecial 41, 3) := by decide +kernel
theorem dL_text_19 : decode cL_text 19 = .ok (.astore_n 3, 1) := by decide +kernel
theorem dL_text_20 : decode cL_text 20 = .ok (.iconst 0, 1) := by decide +kernel
theorem dL_text_21 : decode cL_text 21 = .ok (.istore 4, 2) := by decide +kernel
theorem dL_text_23 : decode cL_text 23 = .ok (.iload 4, 2) := by decide +kernel
theorem dL_text_25 : decode cL_text 25 = .ok (.iload_n 2, 1) := by decide +kernel
theorem dL_text_26 : decode cL_text 26 = .ok (.if_icmp .ge 48, 3) := by decide +kernel
theorem dL_text_29 : decode cL_text 29 = .ok (.aload_n 3, 1) := by decide +kernel
theorem dL_text_30 : decode cL_text 30 = .ok (.iload_n 1, 1) := by decide +kernel
theorem dL_text_31 : decode cL_text 31 = .ok (.iconst 3, 1) := by decide +kernel
theorem dL_text_32 : decode cL_text 32 = .ok (.iload 4, 2) := by decide +kernel
theorem dL_text_34 : decode cL_text 34 = .ok (.iadd, 1) := by decide +kernel
theorem dL_text_35 : decode cL_text 35 = .ok (.ishr, 1) := by decide +kernel
theorem dL_text_36 : decode cL_text 36 = .ok (.iconst 1, 1) := by decide +kernel
theorem dL_text_37 : decode cL_text 37 = .ok (.iand, 1) := by decide +kernel
theorem dL_text_38 : decode cL_text 38 = .ok (.iconst 1, 1) := by decide +kernel
theorem dL_text_39 : decode cL_text 39 = .ok (.if_icmp .ne 8, 3) := by decide +kernel
theorem dL_text_42 : decode cL_text 42 = .ok (.ldc 42, 2) := by decide +kernel
theorem dL_text_44 : decode cL_text 44 = .ok (.goto 5, 3) := by decide +kernel
theorem dL_text_47 : decode cL_text 47 = .ok (.ldc 44, 2) := by decide +kernel
theorem dL_text_49 : decode cL_text 49 = .ok (.invokevirtual 46, 3) := by decide +kernel
theorem dL_text_52 : decode cL_text 52 = .ok (.ldc 50, 2) := by decide +kernel
theorem dL_text_54 : decode cL_text 54 = .ok (.iload 4, 2) := by decide +kernel
theorem dL_text_56 : decode cL_text 56 = .ok (.invokevirtual 14, 3) := by decide +kernel
theorem dL_text_59 : decode cL_text 59 = .ok (.invokevirtual 52, 3) := by decide +kernel
theorem dL_text_62 : decode cL_text 62 = .ok (.bipush 59, 2) := by decide +kernel
theorem dL_text_64 : decode cL_text 64 = .ok (.invokevirtual 52, 3) := by decide +kernel
theorem dL_text_67 : decode cL_text 67 = .ok (.pop, 1) := by decide +kernel
theorem dL_text_68 : decode cL_text 68 = .ok (.iinc 4 1, 3) := by decide +kernel
theorem dL_text_71 : decode cL_text 71 = .ok (.goto (-48), 3) := by decide +kernel
theorem dL_text_74 : decode cL_text 74 = .ok (.iconst 0, 1) := by decide +kernel
theorem dL_text_75 : decode cL_text 75 = .ok (.istore 4, 2) := by decide +kernel
theorem dL_text_77 : decode cL_text 77 = .ok (.iload 4, 2) := by decide +kernel
theorem dL_text_79 : decode cL_text 79 = .ok (.iconst 1, 1) := by decide +kernel
theorem dL_text_80 : decode cL_text 80 = .ok (.iadd, 1) := by decide +kernel
theorem dL_text_81 : decode cL_text 81 = .ok (.iload_n 2, 1) := by decide +kernel
theorem dL_text_82 : decode cL_text 82 = .ok (.if_icmp .ge 73, 3) := by decide +kernel
theorem dL_text_85 : decode cL_text 85 = .ok (.aload_n 3, 1) := by decide +kernel
theorem dL_text_86 : decode cL_text 86 = .ok (.ldc 55, 2) := by decide +kernel
theorem dL_text_88 : decode cL_text 88 = .ok (.invokevirtual 46, 3) := by decide +kernel
theorem dL_text_91 : decode cL_text 91 = .ok (.ldc 50, 2) := by decide +kernel
theorem dL_text_93 : decode cL_text 93 = .ok (.iload 4, 2) := by decide +kernel
theorem dL_text_95 : decode cL_text 95 = .ok (.invokevirtual 14, 3) := by decide +kernel
theorem dL_text_98 : decode cL_text 98 = .ok (.invokevirtual 52, 3) := by decide +kernel
theorem dL_text_101 : decode cL_text 101 = .ok (.bipush 32, 2) := by decide +kernel
theorem dL_text_103 : decode cL_text 103 = .ok (.invokevirtual 52, 3) := by decide +kernel
theorem dL_text_106 : decode cL_text 106 = .ok (.ldc 50, 2) := by decide +kernel
theorem dL_text_108 : decode cL_text 108 = .ok (.iload 4, 2) := by decide +kernel
theorem dL_text_110 : decode cL_text 110 = .ok (.iconst 1, 1) := by decide +kernel
theorem dL_text_111 : decode cL_text 111 = .ok (.iadd, 1) := by decide +kernel
theorem dL_text_112 : decode cL_text 112 = .ok (.invokevirtual 14, 3) := by decide +kernel
theorem dL_text_115 : decode cL_text 115 = .ok (.invokevirtual 52, 3) := by decide +kernel
theorem dL_text_118 : decode cL_text 118 = .ok (.bipush 32, 2) := by decide +kernel
theorem dL_text_120 : decode cL_text 120 = .ok (.invokevirtual 52, 3) := by decide +kernel
theorem dL_text_123 : decode cL_text 123 = .ok (.iconst 1, 1) := by decide +kernel
theorem dL_text_124 : decode cL_text 124 = .ok (.aload_n 0, 1) := by decide +kernel
theorem dL_text_125 : decode cL_text 125 = .ok (.iconst 1, 1) := by decide +kernel
theorem dL_text_126 : decode cL_text 126 = .ok (.invokestatic 33, 3) := by decide +kernel
theorem dL_text_129 : decode cL_text 129 = .ok (.iconst 1, 1) := by decide +kernel
theorem dL_text_130 : decode cL_text 130 = .ok (.bipush 7, 2) := by decide +kernel
theorem dL_text_132 : decode cL_text 132 = .ok (.iload 4, 2) := by decide +kernel
theorem dL_text_134 : decode cL_text 134 = .ok (.imul, 1) := by decide +kernel
theorem dL_text_135 : decode cL_text 135 = .ok (.iadd, 1) := by decide +kernel
theorem dL_text_136 : decode cL_text 136 = .ok (.idiv, 1) := by decide +kernel
theorem dL_text_137 : decode cL_text 137 = .ok (.iconst 4, 1) := by decide +kernel
theorem dL_text_138 : decode cL_text 138 = .ok (.irem, 1) := by decide +kernel
theorem dL_text_139 : decode cL_text 139 = .ok (.iadd, 1) := by decide +kernel
theorem dL_text_140 : decode cL_text 140 = .ok (.invokevirtual 57, 3) := by decide +kernel
theorem dL_text_143 : decode cL_text 143 = .ok (.bipush 59, 2) := by decide +kernel
theorem dL_text_145 : decode cL_text 145 = .ok (.invokevirtual 52, 3) := by decide +kernel
theorem dL_text_148 : decode cL_text 148 = .ok (.pop, 1) := by decide +kernel
theorem dL_text_149 : decode cL_text 149 = .ok (.iinc 4 1, 3) := by decide +kernel
theorem dL_text_152 : decode cL_text 152 = .ok (.goto (-75), 3) := by decide +kernel
theorem dL_text_155 : decode cL_text 155 = .ok (.iload_n 1, 1) := by decide +kernel
theorem dL_text_156 : decode cL_text 156 = .ok (.sipush 512, 3) := by decide +kernel
theorem dL_text_159 : decode cL_text 159 = .ok (.idiv, 1) := by decide +kernel
theorem dL_text_160 : decode cL_text 160 = .ok (.iconst 2, 1) := by decide +kernel
theorem dL_text_161 : decode cL_text 161 = .ok (.irem, 1) := by decide +kernel
theorem dL_text_162 : decode cL_text 162 = .ok (.ifCond .ne 44, 3) := by decide +kernel
theorem dL_text_165 : decode cL_text 165 = .ok (.aload_n 3, 1) := by decide +kernel
theorem dL_text_166 : decode cL_text 166 = .ok (.ldc 60, 2) := by decide +kernel
theorem dL_text_168 : decode cL_text 168 = .ok (.invokevirtual 46, 3) := by decide +kernel
theorem dL_text_171 : decode cL_text 171 = .ok (.ldc 50, 2) := by decide +kernel
theorem dL_text_173 : decode cL_text 173 = .ok (.iload_n 2, 1) := by decide +kernel
theorem dL_text_174 : decode cL_text 174 = .ok (.iconst 1, 1) := by decide +kernel
theorem dL_text_175 : decode cL_text 175 = .ok (.isub, 1) := by decide +kernel
theorem dL_text_176 : decode cL_text 176 = .ok (.invokevirtual 14, 3) := by decide +kernel
theorem dL_text_179 : decode cL_text 179 = .ok (.invokevirtual 52, 3) := by decide +kernel
theorem dL_text_182 : decode cL_text 182 = .ok (.bipush 32, 2) := by decide +kernel
theorem dL_text_184 : decode cL_text 184 = .ok (.invokevirtual 52, 3) := by decide +kernel
theorem dL_text_187 : decode cL_text 187 = .ok (.iconst 1, 1) := by decide +kernel
theorem dL_text_188 : decode cL_text 188 = .ok (.iload_n 1, 1) := by decide +kernel
theorem dL_text_189 : decode cL_text 189 = .ok (.sipush 1024, 3) := by decide +kernel
theorem dL_text_192 : decode cL_text 192 = .ok (.idiv, 1) := by decide +kernel
theorem dL_text_193 : decode cL_text 193 = .ok (.bipush 6, 2) := by decide +kernel
theorem dL_text_195 : decode cL_text 195 = .ok (.irem, 1) := by decide +kernel
theorem dL_text_196 : decode cL_text 196 = .ok (.iadd, 1) := by decide +kernel
theorem dL_text_197 : decode cL_text 197 = .ok (.invokevirtual 57, 3) := by decide +kernel
theorem dL_text_200 : decode cL_text 200 = .ok (.bipush 59, 2) := by decide +kernel
theorem dL_text_202 : decode cL_text 202 = .ok (.invokevirtual 52, 3) := by decide +kernel
theorem dL_text_205 : decode cL_text 205 = .ok (.pop, 1) := by decide +kernel
theorem dL_text_206 : decode cL_text 206 = .ok (.iconst 1, 1) := by decide +kernel
theorem dL_text_207 : decode cL_text 207 = .ok (.iload_n 1, 1) := by decide +kernel
theorem dL_text_208 : decode cL_text 208 = .ok (.sipush 8192, 3) := by decide +kernel
theorem dL_text_211 : decode cL_text 211 = .ok (.idiv, 1) := by decide +kernel
theorem dL_text_212 : decode cL_text 212 = .ok (.iconst 3, 1) := by decide +kernel
theorem dL_text_213 : decode cL_text 213 = .ok (.irem, 1) := by decide +kernel
theorem dL_text_214 : decode cL_text 214 = .ok (.iadd, 1) := by decide +kernel
theorem dL_text_215 : decode cL_text 215 = .ok (.istore 4, 2) := by decide +kernel
theorem dL_text_217 : decode cL_text 217 = .ok (.iconst 0, 1) := by decide +kernel
theorem dL_text_218 : decode cL_text 218 = .ok (.istore 5, 2) := by decide +kernel
theorem dL_text_220 : decode cL_text 220 = .ok (.iload 5, 2) := by decide +kernel
theorem dL_text_222 : decode cL_text 222 = .ok (.iload 4, 2) := by decide +kernel
theorem dL_text_224 : decode cL_text 224 = .ok (.if_icmp .ge 142, 3) := by decide +kernel
theorem dL_text_227 : decode cL_text 227 = .ok (.aload_n 0, 1) := by decide +kernel
theorem dL_text_228 : decode cL_text 228 = .ok (.iconst 2, 1) := by decide +kernel
theorem dL_text_229 : decode cL_text 229 = .ok (.iload 5, 2) := by decide +kernel
theorem dL_text_231 : decode cL_text 231 = .ok (.iadd, 1) := by decide +kernel
theorem dL_text_232 : decode cL_text 232 = .ok (.invokestatic 33, 3) := by decide +kernel
theorem dL_text_235 : decode cL_text 235 = .ok (.istore 6, 2) := by decide +kernel
theorem dL_text_237 : decode cL_text 237 = .ok (.iconst 2, 1) := by decide +kernel
theorem dL_text_238 : decode cL_text 238 = .ok (.iload 6, 2) := by decide +kernel
theorem dL_text_240 : decode cL_text 240 = .ok (.iload_n 2, 1) := by decide +kernel
theorem dL_text_241 : decode cL_text 241 = .ok (.iconst 1, 1) := by decide +kernel
theorem dL_text_242 : decode cL_text 242 = .ok (.isub, 1) := by decide +kernel
theorem dL_text_243 : decode cL_text 243 = .ok (.irem, 1) := by decide +kernel
theorem dL_text_244 : decode cL_text 244 = .ok (.iadd, 1) := by decide +kernel
theorem dL_text_245 : decode cL_text 245 = .ok (.istore 7, 2) := by decide +kernel
theorem dL_text_247 : decode cL_text 247 = .ok (.iload 6, 2) := by decide +kernel
theorem dL_text_249 : decode cL_text 249 = .ok (.bipush 8, 2) := by decide +kernel
theorem dL_text_251 : decode cL_text 251 = .ok (.idiv, 1) := by decide +kernel
theorem dL_text_252 : decode cL_text 252 = .ok (.iload_n 2, 1) := by decide +kernel
theorem dL_text_253 : decode cL_text 253 = .ok (.iload 7, 2) := by decide +kernel
theorem dL_text_255 : decode cL_text 255 = .ok (.isub, 1) := by decide +kernel
theorem dL_text_256 : decode cL_text 256 = .ok (.iconst 1, 1) := by decide +kernel
theorem dL_text_257 : decode cL_text 257 = .ok (.iadd, 1) := by decide +kernel
theorem dL_text_258 : decode cL_text 258 = .ok (.irem, 1) := by decide +kernel
theorem dL_text_259 : decode cL_text 259 = .ok (.istore 8, 2) := by decide +kernel
theorem dL_text_261 : decode cL_text 261 = .ok (.iload 6, 2) := by decide +kernel
theorem dL_text_263 : decode cL_text 263 = .ok (.bipush 64, 2) := by decide +kernel
theorem dL_text_265 : decode cL_text 265 = .ok (.idiv, 1) := by decide +kernel
theorem dL_text_266 : decode cL_text 266 = .ok (.iconst 2, 1) := by decide +kernel
theorem dL_text_267 : decode cL_text 267 = .ok (.irem, 1) := by decide +kernel
theorem dL_text_268 : decode cL_text 268 = .ok (.iconst 1, 1) := by decide +kernel
theorem dL_text_269 : decode cL_text 269 = .ok (.if_icmp .ne 7, 3) := by decide +kernel
theorem dL_text_272 : decode cL_text 272 = .ok (.iconst 1, 1) := by decide +kernel
theorem dL_text_273 : decode cL_text 273 = .ok (.goto 4, 3) := by decide +kernel
theorem dL_text_276 : decode cL_text 276 = .ok (.iconst 0, 1) := by decide +kernel
theorem dL_text_277 : decode cL_text 277 = .ok (.istore 9, 2) := by decide +kernel
theorem dL_text_279 : decode cL_text 279 = .ok (.aload_n 3, 1) := by decide +kernel
theorem dL_text_280 : decode cL_text 280 = .ok (.ldc 62, 2) := by decide +kernel
theorem dL_text_282 : decode cL_text 282 = .ok (.invokevirtual 46, 3) := by decide +kernel
theorem dL_text_285 : decode cL_text 285 = .ok (.iconst 1, 1) := by decide +kernel
theorem dL_text_286 : decode cL_text 286 = .ok (.iload 6, 2) := by decide +kernel
theorem dL_text_288 : decode cL_text 288 = .ok (.sipush 128, 3) := by decide +kernel
theorem dL_text_291 : decode cL_text 291 = .ok (.idiv, 1) := by decide +kernel
theorem dL_text_292 : decode cL_text 292 = .ok (.iconst 3, 1) := by decide +kernel
theorem dL_text_293 : decode cL_text 293 = .ok (.irem, 1) := by decide +kernel
theorem dL_text_294 : decode cL_text 294 = .ok (.iadd, 1) := by decide +kernel
theorem dL_text_295 : decode cL_text 295 = .ok (.invokevirtual 57, 3) := by decide +kernel
theorem dL_text_298 : decode cL_text 298 = .ok (.pop, 1) := by decide +kernel
theorem dL_text_299 : decode cL_text 299 = .ok (.iconst 0, 1) := by decide +kernel
theorem dL_text_300 : decode cL_text 300 = .ok (.istore 10, 2) := by decide +kernel
theorem dL_text_302 : decode cL_text 302 = .ok (.iload 10, 2) := by decide +kernel
theorem dL_text_304 : decode cL_text 304 = .ok (.iload 7, 2) := by decide +kernel
theorem dL_text_306 : decode cL_text 306 = .ok (.if_icmp .ge 47, 3) := by decide +kernel
theorem dL_text_309 : decode cL_text 309 = .ok (.aload_n 3, 1) := by decide +kernel
theorem dL_text_310 : decode cL_text 310 = .ok (.bipush 32, 2) := by decide +kernel
theorem dL_text_312 : decode cL_text 312 = .ok (.invokevirtual 52, 3) := by decide +kernel
theorem dL_text_315 : decode cL_text 315 = .ok (.ldc 50, 2) := by decide +kernel
theorem dL_text_317 : decode cL_text 317 = .ok (.iload 9, 2) := by decide +kernel
theorem dL_text_319 : decode cL_text 319 = .ok (.ifCond .eq 16, 3) := by decide +kernel
theorem dL_text_322 : decode cL_text 322 = .ok (.iload 8, 2) := by decide +kernel
theorem dL_text_324 : decode cL_text 324 = .ok (.iload 7, 2) := by decide +kernel
theorem dL_text_326 : decode cL_text 326 = .ok (.iadd, 1) := by decide +kernel
theorem dL_text_327 : decode cL_text 327 = .ok (.iconst 1, 1) := by decide +kernel
theorem dL_text_328 : decode cL_text 328 = .ok (.isub, 1) := by decide +kernel
theorem dL_text_329 : decode cL_text 329 = .ok (.iload 10, 2) := by decide +kernel
theorem dL_text_331 : decode cL_text 331 = .ok (.isub, 1) := by decide +kernel
theorem dL_text_332 : decode cL_text 332 = .ok (.goto 8, 3) := by decide +kernel
theorem dL_text_335 : decode cL_text 335 = .ok (.iload 8, 2) := by decide +kernel
theorem dL_text_337 : decode cL_text 337 = .ok (.iload 10, 2) := by decide +kernel
theorem dL_text_339 : decode cL_text 339 = .ok (.iadd, 1) := by decide +kernel
theorem dL_text_340 : decode cL_text 340 = .ok (.invokevirtual 14, 3) := by decide +kernel
theorem dL_text_343 : decode cL_text 343 = .ok (.invokevirtual 52, 3) := by decide +kernel
theorem dL_text_346 : decode cL_text 346 = .ok (.pop, 1) := by decide +kernel
theorem dL_text_347 : decode cL_text 347 = .ok (.iinc 10 1, 3) := by decide +kernel
theorem dL_text_350 : decode cL_text 350 = .ok (.goto (-48), 3) := by decide +kernel
theorem dL_text_353 : decode cL_text 353 = .ok (.aload_n 3, 1) := by decide +kernel
theorem dL_text_354 : decode cL_text 354 = .ok (.bipush 59, 2) := by decide +kernel
theorem dL_text_356 : decode cL_text 356 = .ok (.invokevirtual 52, 3) := by decide +kernel
theorem dL_text_359 : decode cL_text 359 = .ok (.pop, 1) := by decide +kernel
theorem dL_text_360 : decode cL_text 360 = .ok (.iinc 5 1, 3) := by decide +kernel
theorem dL_text_363 : decode cL_text 363 = .ok (.goto (-143), 3) := by decide +kernel
theorem dL_text_366 : decode cL_text 366 = .ok (.iconst 0, 1) := by decide +kernel
theorem dL_text_367 : decode cL_text 367 = .ok (.istore 5, 2) := by decide +kernel
theorem dL_text_369 : decode cL_text 369 = .ok (.iload 5, 2) := by decide +kernel
theorem dL_text_371 : decode cL_text 371 = .ok (.iconst 5, 1) := by decide +kernel
theorem dL_text_372 : decode cL_text 372 = .ok (.if_icmp .ge 109, 3) := by decide +kernel
theorem dL_text_375 : decode cL_text 375 = .ok (.aload_n 0, 1) := by decide +kernel
theorem dL_text_376 : decode cL_text 376 = .ok (.iconst 5, 1) := by decide +kernel
theorem dL_text_377 : decode cL_text 377 = .ok (.iload 5, 2) := by decide +kernel
theorem dL_text_379 : decode cL_text 379 = .ok (.iadd, 1) := by decide +kernel
theorem dL_text_380 : decode cL_text 380 = .ok (.invokestatic 33, 3) := by decide +kernel
theorem dL_text_383 : decode cL_text 383 = .ok (.istore 6, 2) := by decide +kernel
theorem dL_text_385 : decode cL_text 385 = .ok (.iload 6, 2) := by decide +kernel
theorem dL_text_387 : decode cL_text 387 = .ok (.iload_n 2, 1) := by decide +kernel
theorem dL_text_388 : decode cL_text 388 = .ok (.irem, 1) := by decide +kernel
theorem dL_text_389 : decode cL_text 389 = .ok (.istore 7, 2) := by decide +kernel
theorem dL_text_391 : decode cL_text 391 = .ok (.iload 7, 2) := by decide +kernel
theorem dL_text_393 : decode cL_text 393 = .ok (.iconst 1, 1) := by decide +kernel
theorem dL_text_394 : decode cL_text 394 = .ok (.iadd, 1) := by decide +kernel
theorem dL_text_395 : decode cL_text 395 = .ok (.iload 6, 2) := by decide +kernel
theorem dL_text_397 : decode cL_text 397 = .ok (.bipush 8, 2) := by decide +kernel
theorem dL_text_399 : decode cL_text 399 = .ok (.idiv, 1) := by decide +kernel
theorem dL_text_400 : decode cL_text 400 = .ok (.iload_n 2, 1) := by decide +kernel
theorem dL_text_401 : decode cL_text 401 = .ok (.iconst 1, 1) := by decide +kernel
theorem dL_text_402 : decode cL_text 402 = .ok (.isub, 1) := by decide +kernel
theorem dL_text_403 : decode cL_text 403 = .ok (.irem, 1) := by decide +kernel
theorem dL_text_404 : decode cL_text 404 = .ok (.iadd, 1) := by decide +kernel
theorem dL_text_405 : decode cL_text 405 = .ok (.iload_n 2, 1) := by decide +kernel
theorem dL_text_406 : decode cL_text 406 = .ok (.irem, 1) := by decide +kernel
theorem dL_text_407 : decode cL_text 407 = .ok (.istore 8, 2) := by decide +kernel
theorem dL_text_409 : decode cL_text 409 = .ok (.iload 6, 2) := by decide +kernel
theorem dL_text_411 : decode cL_text 411 = .ok (.bipush 64, 2) := by decide +kernel
theorem dL_text_413 : decode cL_text 413 = .ok (.idiv, 1) := by decide +kernel
theorem dL_text_414 : decode cL_text 414 = .ok (.iconst 5, 1) := by decide +kernel
theorem dL_text_415 : decode cL_text 415 = .ok (.irem, 1) := by decide +kernel
theorem dL_text_416 : decode cL_text 416 = .ok (.ifCond .le 59, 3) := by decide +kernel
theorem dL_text_419 : decode cL_text 419 = .ok (.aload_n 3, 1) := by decide +kernel
theorem dL_text_420 : decode cL_text 420 = .ok (.ldc 64, 2) := by decide +kernel
theorem dL_text_422 : decode cL_text 422 = .ok (.invokevirtual 46, 3) := by decide +kernel
theorem dL_text_425 : decode cL_text 425 = .ok (.ldc 50, 2) := by decide +kernel
theorem dL_text_427 : decode cL_text 427 = .ok (.iload 7, 2) := by decide +kernel
theorem dL_text_429 : decode cL_text 429 = .ok (.invokevirtual 14, 3) := by decide +kernel
theorem dL_text_432 : decode cL_text 432 = .ok (.invokevirtual 52, 3) := by decide +kernel
theorem dL_text_435 : decode cL_text 435 = .ok (.bipush 32, 2) := by decide +kernel
theorem dL_text_437 : decode cL_text 437 = .ok (.invokevirtual 52, 3) := by decide +kernel
theorem dL_text_440 : decode cL_text 440 = .ok (.ldc 50, 2) := by decide +kernel
theorem dL_text_442 : decode cL_text 442 = .ok (.iload 8, 2) := by decide +kernel
theorem dL_text_444 : decode cL_text 444 = .ok (.invokevirtual 14, 3) := by decide +kernel
theorem dL_text_447 : decode cL_text 447 = .ok (.invokevirtual 52, 3) := by decide +kernel
theorem dL_text_450 : decode cL_text 450 = .ok (.bipush 32, 2) := by decide +kernel
theorem dL_text_452 : decode cL_text 452 = .ok (.invokevirtual 52, 3) := by decide +kernel
theorem dL_text_455 : decode cL_text 455 = .ok (.iconst 1, 1) := by decide +kernel
theorem dL_text_456 : decode cL_text 456 = .ok (.iload 6, 2) := by decide +kernel
theorem dL_text_458 : decode cL_text 458 = .ok (.sipush 512, 3) := by decide +kernel
theorem dL_text_461 : decode cL_text 461 = .ok (.idiv, 1) := by decide +kernel
theorem dL_text_462 : decode cL_text 462 = .ok (.bipush 9, 2) := by decide +kernel
theorem dL_text_464 : decode cL_text 464 = .ok (.irem, 1) := by decide +kernel
theorem dL_text_465 : decode cL_text 465 = .ok (.iadd, 1) := by decide +kernel
theorem dL_text_466 : decode cL_text 466 = .ok (.invokevirtual 57, 3) := by decide +kernel
theorem dL_text_469 : decode cL_text 469 = .ok (.bipush 59, 2) := by decide +kernel
theorem dL_text_471 : decode cL_text 471 = .ok (.invokevirtual 52, 3) := by decide +kernel
theorem dL_text_474 : decode cL_text 474 = .ok (.pop, 1) := by decide +kernel
theorem dL_text_475 : decode cL_text 475 = .ok (.iinc 5 1, 3) := by decide +kernel
theorem dL_text_478 : decode cL_text 478 = .ok (.goto (-109), 3) := by decide +kernel
theorem dL_text_481 : decode cL_text 481 = .ok (.iload_n 1, 1) := by decide +kernel
theorem dL_text_482 : decode cL_text 482 = .ok (.ldc 66, 2) := by decide +kernel
theorem dL_text_484 : decode cL_text 484 = .ok (.idiv, 1) := by decide +kernel
theorem dL_text_485 : decode cL_text 485 = .ok (.iconst 2, 1) := by decide +kernel
theorem dL_text_486 : decode cL_text 486 = .ok (.irem, 1) := by decide +kernel
theorem dL_text_487 : decode cL_text 487 = .ok (.ifCond .ne 43, 3) := by decide +kernel
theorem dL_text_490 : decode cL_text 490 = .ok (.aload_n 3, 1) := by decide +kernel
theorem dL_text_491 : decode cL_text 491 = .ok (.ldc 67, 2) := by decide +kernel
theorem dL_text_493 : decode cL_text 493 = .ok (.invokevirtual 46, 3) := by decide +kernel
theorem dL_text_496 : decode cL_text 496 = .ok (.ldc 50, 2) := by decide +kernel
theorem dL_text_498 : decode cL_text 498 = .ok (.iload_n 1, 1) := by decide +kernel
theorem dL_text_499 : decode cL_text 499 = .ok (.ldc 69, 2) := by decide +kernel
theorem dL_text_501 : decode cL_text 501 = .ok (.idiv, 1) := by decide +kernel
theorem dL_text_502 : decode cL_text 502 = .ok (.iload_n 2, 1) := by decide +kernel
theorem dL_text_503 : decode cL_text 503 = .ok (.irem, 1) := by decide +kernel
theorem dL_text_504 : decode cL_text 504 = .ok (.invokevirtual 14, 3) := by decide +kernel
theorem dL_text_507 : decode cL_text 507 = .ok (.invokevirtual 52, 3) := by decide +kernel
theorem dL_text_510 : decode cL_text 510 = .ok (.bipush 32, 2) := by decide +kernel
theorem dL_text_512 : decode cL_text 512 = .ok (.invokevirtual 52, 3) := by decide +kernel
theorem dL_text_515 : decode cL_text 515 = .ok (.iload_n 1, 1) := by decide +kernel
theorem dL_text_516 : decode cL_text 516 = .ok (.ldc 70, 2) := by decide +kernel
theorem dL_text_518 : decode cL_text 518 = .ok (.idiv, 1) := by decide +kernel
theorem dL_text_519 : decode cL_text 519 = .ok (.iconst 5, 1) := by decide +kernel
theorem dL_text_520 : decode cL_text 520 = .ok (.irem, 1) := by decide +kernel
theorem dL_text_521 : decode cL_text 521 = .ok (.invokevirtual 57, 3) := by decide +kernel
theorem dL_text_524 : decode cL_text 524 = .ok (.bipush 59, 2) := by decide +kernel
theorem dL_text_526 : decode cL_text 526 = .ok (.invokevirtual 52, 3) := by decide +kernel
theorem dL_text_529 : decode cL_text 529 = .ok (.pop, 1) := by decide +kernel
theorem dL_text_530 : decode cL_text 530 = .ok (.aload_n 3, 1) := by decide +kernel
theorem dL_text_531 : decode cL_text 531 = .ok (.invokevirtual 71, 3) := by decide +kernel
theorem dL_text_534 : decode cL_text 534 = .ok (.areturn, 1) := by decide +kernel
theorem dL_acts_0 : decode cL_acts 0 = .ok (.iload_n 1, 1) := by decide +kernel
theorem dL_acts_1 : decode cL_acts 1 = .ok (.bipush 16, 2) := by decide +kernel
theorem dL_acts_3 : decode cL_acts 3 = .ok (.idiv, 1) := by decide +kernel
theorem dL_acts_4 : decode cL_acts 4 = .ok (.istore_n 2, 1) := by decide +kernel
theorem dL_acts_5 : decode cL_acts 5 = .ok (.aload_n 0, 1) := by decide +kernel
theorem dL_acts_6 : decode cL_acts 6 = .ok (.invokevirtual 75, 3) := by decide +kernel
theorem dL_acts_9 : decode cL_acts 9 = .ok (.istore_n 3, 1) := by decide +kernel
theorem dL_acts_10 : decode cL_acts 10 = .ok (.iload_n 2, 1) := by decide +kernel
theorem dL_acts_11 : decode cL_acts 11 = .ok (.iload_n 3, 1) := by decide +kernel
theorem dL_acts_12 : decode cL_acts 12 = .ok (.irem, 1) := by decide +kernel
theorem dL_acts_13 : decode cL_acts 13 = .ok (.istore 4, 2) := by decide +kernel
theorem dL_acts_15 : decode cL_acts 15 = .ok (.iload 4, 2) := by decide +kernel
theorem dL_acts_17 : decode cL_acts 17 = .ok (.iconst 1, 1) := by decide +kernel
theorem dL_acts_18 : decode cL_acts 18 = .ok (.iadd, 1) := by decide +kernel
theorem dL_acts_19 : decode cL_acts 19 = .ok (.iload_n 2, 1) := by decide +kernel
theorem dL_acts_20 : decode cL_acts 20 = .ok (.bipush 8, 2) := by decide +kernel
theorem dL_acts_22 : decode cL_acts 22 = .ok (.idiv, 1) := by decide +kernel
theorem dL_acts_23 : decode cL_acts 23 = .ok (.iload_n 3, 1) := by decide +kernel
theorem dL_acts_24 : decode cL_acts 24 = .ok (.iconst 1, 1) := by decide +kernel
theorem dL_acts_25 : decode cL_acts 25 = .ok (.isub, 1) := by decide +kernel
theorem dL_acts_26 : decode cL_acts 26 = .ok (.irem, 1) := by decide +kernel
theorem dL_acts_27 : decode cL_acts 27 = .ok (.iadd, 1) := by decide +kernel
theorem dL_acts_28 : decode cL_acts 28 = .ok (.iload_n 3, 1) := by decide +kernel
theorem dL_acts_29 : decode cL_acts 29 = .ok (.irem, 1) := by decide +kernel
theorem dL_acts_30 : decode cL_acts 30 = .ok (.istore 5, 2) := by decide +kernel
theorem dL_acts_32 : decode cL_acts 32 = .ok (.iload_n 2, 1) := by decide +kernel
theorem dL_acts_33 : decode cL_acts 33 = .ok (.bipush 64, 2) := by decide +kernel
theorem dL_acts_35 : decode cL_acts 35 = .ok (.idiv, 1) := by decide +kernel
theorem dL_acts_36 : decode cL_acts 36 = .ok (.istore 6, 2) := by decide +kernel
theorem dL_acts_38 : decode cL_acts 38 = .ok (.iload_n 1, 1) := by decide +kernel
theorem dL_acts_39 : decode cL_acts 39 = .ok (.bipush 16, 2) := by decide +kernel
theorem dL_acts_41 : decode cL_acts 41 = .ok (.irem, 1) := by decide +kernel
theorem dL_acts_42 : decode cL_acts 42 = .ok (.tableswitch 183 0 6 #[42, 42, 58, 88, 100, 130, 130], 42) := by decide +kernel
theorem dL_acts_84 : decode cL_acts 84 = .ok (.aload_n 0, 1) := by decide +kernel
theorem dL_acts_85 : decode cL_acts 85 = .ok (.iload 4, 2) := by decide +kernel
theorem dL_acts_87 : decode cL_acts 87 = .ok (.iload 5, 2) := by decide +kernel
theorem dL_acts_89 : decode cL_acts 89 = .ok (.iconst 1, 1) := by decide +kernel
theorem dL_acts_90 : decode cL_acts 90 = .ok (.iload 6, 2) := by decide +kernel
theorem dL_acts_92 : decode cL_acts 92 = .ok (.bipush 9, 2) := by decide +kernel
theorem dL_acts_94 : decode cL_acts 94 = .ok (.irem, 1) := by decide +kernel
theorem dL_acts_95 : decode cL_acts 95 = .ok (.iadd, 1) := by decide +kernel
theorem dL_acts_96 : decode cL_acts 96 = .ok (.invokevirtual 78, 3) := by decide +kernel
theorem dL_acts_99 : decode cL_acts 99 = .ok (.ireturn, 1) := by decide +kernel
theorem dL_acts_100 : decode cL_acts 100 = .ok (.aload_n 0, 1) := by decide +kernel
theorem dL_acts_101 : decode cL_acts 101 = .ok (.invokevirtual 82, 3) := by decide +kernel
theorem dL_acts_104 : decode cL_acts 104 = .ok (.ifCond .ne 8, 3) := by decide +kernel
theorem dL_acts_107 : decode cL_acts 107 = .ok (.bipush (-9), 2) := by decide +kernel
theorem dL_acts_109 : decode cL_acts 109 = .ok (.goto 20, 3) := by decide +kernel
theorem dL_acts_112 : decode cL_acts 112 = .ok (.aload_n 0, 1) := by decide +kernel
theorem dL_acts_113 : decode cL_acts 113 = .ok (.iload_n 2, 1) := by decide +kernel
theorem dL_acts_114 : decode cL_acts 114 = .ok (.aload_n 0, 1) := by decide +kernel
theorem dL_acts_115 : decode cL_acts 115 = .ok (.invokevirtual 82, 3) := by decide +kernel
theorem dL_acts_118 : decode cL_acts 118 = .ok (.irem, 1) := by decide +kernel
theorem dL_acts_119 : decode cL_acts 119 = .ok (.iconst 1, 1) := by decide +kernel
theorem dL_acts_120 : decode cL_acts 120 = .ok (.iload 6, 2) := by decide +kernel
theorem dL_acts_122 : decode cL_acts 122 = .ok (.bipush 9, 2) := by decide +kernel
theorem dL_acts_124 : decode cL_acts 124 = .ok (.irem, 1) := by decide +kernel
theorem dL_acts_125 : decode cL_acts 125 = .ok (.iadd, 1) := by decide +kernel
theorem dL_acts_126 : decode cL_acts 126 = .ok (.invokevirtual 85, 3) := by decide +kernel
theorem dL_acts_129 : decode cL_acts 129 = .ok (.ireturn, 1) := by decide +kernel
theorem dL_acts_130 : decode cL_acts 130 = .ok (.aload_n 0, 1) := by decide +kernel
theorem dL_acts_131 : decode cL_acts 131 = .ok (.iload 4, 2) := by decide +kernel
theorem dL_acts_133 : decode cL_acts 133 = .ok (.iload 6, 2) := by decide +kernel
theorem dL_acts_135 : decode cL_acts 135 = .ok (.bipush 6, 2) := by decide +kernel
theorem dL_acts_137 : decode cL_acts 137 = .ok (.irem, 1) := by decide +kernel
theorem dL_acts_138 : decode cL_acts 138 = .ok (.invokevirtual 89, 3) := by decide +kernel
theorem dL_acts_141 : decode cL_acts 141 = .ok (.ireturn, 1) := by decide +kernel
theorem dL_acts_142 : decode cL_acts 142 = .ok (.aload_n 0, 1) := by decide +kernel
theorem dL_acts_143 : decode cL_acts 143 = .ok (.invokevirtual 82, 3) := by decide +kernel
theorem dL_acts_146 : decode cL_acts 146 = .ok (.ifCond .eq 10, 3) := by decide +kernel
theorem dL_acts_149 : decode cL_acts 149 = .ok (.iload 6, 2) := by decide +kernel
theorem dL_acts_151 : decode cL_acts 151 = .ok (.iconst 2, 1) := by decide +kernel
theorem dL_acts_152 : decode cL_acts 152 = .ok (.irem, 1) := by decide +kernel
theorem dL_acts_153 : decode cL_acts 153 = .ok (.ifCond .ne 8, 3) := by decide +kernel
theorem dL_acts_156 : decode cL_acts 156 = .ok (.bipush (-9), 2) := by decide +kernel
theorem dL_acts_158 : decode cL_acts 158 = .ok (.goto 13, 3) := by decide +kernel
theorem dL_acts_161 : decode cL_acts 161 = .ok (.aload_n 0, 1) := by decide +kernel
theorem dL_acts_162 : decode cL_acts 162 = .ok (.iload_n 2, 1) := by decide +kernel
theorem dL_acts_163 : decode cL_acts 163 = .ok (.aload_n 0, 1) := by decide +kernel
theorem dL_acts_164 : decode cL_acts 164 = .ok (.invokevirtual 82, 3) := by decide +kernel
theorem dL_acts_167 : decode cL_acts 167 = .ok (.irem, 1) := by decide +kernel
theorem dL_acts_168 : decode cL_acts 168 = .ok (.invokevirtual 92, 3) := by decide +kernel
theorem dL_acts_171 : decode cL_acts 171 = .ok (.ireturn, 1) := by decide +kernel
