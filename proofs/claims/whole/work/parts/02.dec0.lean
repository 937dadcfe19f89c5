theorem dX0_init_0 : decode cX0_init 0 = .ok (.aload_n 0, 1) := by decide +kernel
theorem dX0_init_1 : decode cX0_init 1 = .ok (.invokespecial 1, 3) := by decide +kernel
theorem dX0_init_4 : decode cX0_init 4 = .ok (.aload_n 0, 1) := by decide +kernel
theorem dX0_init_5 : decode cX0_init 5 = .ok (.bipush 24, 2) := by decide +kernel
theorem dX0_init_7 : decode cX0_init 7 = .ok (.newarray .int, 2) := by decide +kernel
theorem dX0_init_9 : decode cX0_init 9 = .ok (.putfield 9, 3) := by decide +kernel
theorem dX0_init_12 : decode cX0_init 12 = .ok (.aload_n 0, 1) := by decide +kernel
theorem dX0_init_13 : decode cX0_init 13 = .ok (.bipush 50, 2) := by decide +kernel
theorem dX0_init_15 : decode cX0_init 15 = .ok (.newarray .int, 2) := by decide +kernel
theorem dX0_init_17 : decode cX0_init 17 = .ok (.putfield 13, 3) := by decide +kernel
theorem dX0_init_20 : decode cX0_init 20 = .ok (.return_, 1) := by decide +kernel
theorem dX0_add_0 : decode cX0_add 0 = .ok (.aload_n 0, 1) := by decide +kernel
theorem dX0_add_1 : decode cX0_add 1 = .ok (.getfield 13, 3) := by decide +kernel
theorem dX0_add_4 : decode cX0_add 4 = .ok (.aload_n 0, 1) := by decide +kernel
theorem dX0_add_5 : decode cX0_add 5 = .ok (.getfield 16, 3) := by decide +kernel
theorem dX0_add_8 : decode cX0_add 8 = .ok (.iload_n 1, 1) := by decide +kernel
theorem dX0_add_9 : decode cX0_add 9 = .ok (.iastore, 1) := by decide +kernel
theorem dX0_add_10 : decode cX0_add 10 = .ok (.aload_n 0, 1) := by decide +kernel
theorem dX0_add_11 : decode cX0_add 11 = .ok (.dup, 1) := by decide +kernel
theorem dX0_add_12 : decode cX0_add 12 = .ok (.getfield 16, 3) := by decide +kernel
theorem dX0_add_15 : decode cX0_add 15 = .ok (.dup_x1, 1) := by decide +kernel
theorem dX0_add_16 : decode cX0_add 16 = .ok (.iconst 1, 1) := by decide +kernel
theorem dX0_add_17 : decode cX0_add 17 = .ok (.iadd, 1) := by decide +kernel
theorem dX0_add_18 : decode cX0_add 18 = .ok (.putfield 16, 3) := by decide +kernel
theorem dX0_add_21 : decode cX0_add 21 = .ok (.ireturn, 1) := by decide +kernel
theorem dX0_kindOf_0 : decode cX0_kindOf 0 = .ok (.iload_n 1, 1) := by decide +kernel
theorem dX0_kindOf_1 : decode cX0_kindOf 1 = .ok (.ifCond .lt 20, 3) := by decide +kernel
theorem dX0_kindOf_4 : decode cX0_kindOf 4 = .ok (.iload_n 1, 1) := by decide +kernel
theorem dX0_kindOf_5 : decode cX0_kindOf 5 = .ok (.aload_n 0, 1) := by decide +kernel
theorem dX0_kindOf_6 : decode cX0_kindOf 6 = .ok (.getfield 16, 3) := by decide +kernel
theorem dX0_kindOf_9 : decode cX0_kindOf 9 = .ok (.if_icmp .ge 12, 3) := by decide +kernel
theorem dX0_kindOf_12 : decode cX0_kindOf 12 = .ok (.aload_n 0, 1) := by decide +kernel
theorem dX0_kindOf_13 : decode cX0_kindOf 13 = .ok (.getfield 13, 3) := by decide +kernel
theorem dX0_kindOf_16 : decode cX0_kindOf 16 = .ok (.iload_n 1, 1) := by decide +kernel
theorem dX0_kindOf_17 : decode cX0_kindOf 17 = .ok (.iaload, 1) := by decide +kernel
theorem dX0_kindOf_18 : decode cX0_kindOf 18 = .ok (.goto 4, 3) := by decide +kernel
theorem dX0_kindOf_21 : decode cX0_kindOf 21 = .ok (.iconst 0, 1) := by decide +kernel
theorem dX0_kindOf_22 : decode cX0_kindOf 22 = .ok (.ireturn, 1) := by decide +kernel
theorem dX0_isOfKind_0 : decode cX0_isOfKind 0 = .ok (.aload_n 0, 1) := by decide +kernel
theorem dX0_isOfKind_1 : decode cX0_isOfKind 1 = .ok (.iload_n 1, 1) := by decide +kernel
theorem dX0_isOfKind_2 : decode cX0_isOfKind 2 = .ok (.invokevirtual 20, 3) := by decide +kernel
theorem dX0_isOfKind_5 : decode cX0_isOfKind 5 = .ok (.istore_n 3, 1) := by decide +kernel
theorem dX0_isOfKind_6 : decode cX0_isOfKind 6 = .ok (.iconst 0, 1) := by decide +kernel
theorem dX0_isOfKind_7 : decode cX0_isOfKind 7 = .ok (.istore 4, 2) := by decide +kernel
theorem dX0_isOfKind_9 : decode cX0_isOfKind 9 = .ok (.iload 4, 2) := by decide +kernel
theorem dX0_isOfKind_11 : decode cX0_isOfKind 11 = .ok (.bipush 8, 2) := by decide +kernel
theorem dX0_isOfKind_13 : decode cX0_isOfKind 13 = .ok (.if_icmp .ge 26, 3) := by decide +kernel
theorem dX0_isOfKind_16 : decode cX0_isOfKind 16 = .ok (.iload_n 3, 1) := by decide +kernel
theorem dX0_isOfKind_17 : decode cX0_isOfKind 17 = .ok (.ifCond .lt 22, 3) := by decide +kernel
theorem dX0_isOfKind_20 : decode cX0_isOfKind 20 = .ok (.iload_n 3, 1) := by decide +kernel
theorem dX0_isOfKind_21 : decode cX0_isOfKind 21 = .ok (.iload_n 2, 1) := by decide +kernel
theorem dX0_isOfKind_22 : decode cX0_isOfKind 22 = .ok (.if_icmp .ne 5, 3) := by decide +kernel
theorem dX0_isOfKind_25 : decode cX0_isOfKind 25 = .ok (.iconst 1, 1) := by decide +kernel
theorem dX0_isOfKind_26 : decode cX0_isOfKind 26 = .ok (.ireturn, 1) := by decide +kernel
theorem dX0_isOfKind_27 : decode cX0_isOfKind 27 = .ok (.getstatic 24, 3) := by decide +kernel
theorem dX0_isOfKind_30 : decode cX0_isOfKind 30 = .ok (.iload_n 3, 1) := by decide +kernel
theorem dX0_isOfKind_31 : decode cX0_isOfKind 31 = .ok (.iaload, 1) := by decide +kernel
theorem dX0_isOfKind_32 : decode cX0_isOfKind 32 = .ok (.istore_n 3, 1) := by decide +kernel
theorem dX0_isOfKind_33 : decode cX0_isOfKind 33 = .ok (.iinc 4 1, 3) := by decide +kernel
theorem dX0_isOfKind_36 : decode cX0_isOfKind 36 = .ok (.goto (-27), 3) := by decide +kernel
theorem dX0_isOfKind_39 : decode cX0_isOfKind 39 = .ok (.iconst 0, 1) := by decide +kernel
theorem dX0_isOfKind_40 : decode cX0_isOfKind 40 = .ok (.ireturn, 1) := by decide +kernel
theorem dX0_keptOfTrace_0 : decode cX0_keptOfTrace 0 = .ok (.aload_n 0, 1) := by decide +kernel
theorem dX0_keptOfTrace_1 : decode cX0_keptOfTrace 1 = .ok (.getfield 27, 3) := by decide +kernel
theorem dX0_keptOfTrace_4 : decode cX0_keptOfTrace 4 = .ok (.bipush 24, 2) := by decide +kernel
theorem dX0_keptOfTrace_6 : decode cX0_keptOfTrace 6 = .ok (.invokestatic 30, 3) := by decide +kernel
theorem dX0_keptOfTrace_9 : decode cX0_keptOfTrace 9 = .ok (.ireturn, 1) := by decide +kernel
theorem dX0_perform_0 : decode cX0_perform 0 = .ok (.aload_n 0, 1) := by decide +kernel
theorem dX0_perform_1 : decode cX0_perform 1 = .ok (.iconst 0, 1) := by decide +kernel
theorem dX0_perform_2 : decode cX0_perform 2 = .ok (.putfield 27, 3) := by decide +kernel
theorem dX0_perform_5 : decode cX0_perform 5 = .ok (.iload_n 1, 1) := by decide +kernel
theorem dX0_perform_6 : decode cX0_perform 6 = .ok (.ifCond .lt 20, 3) := by decide +kernel
theorem dX0_perform_9 : decode cX0_perform 9 = .ok (.iload_n 1, 1) := by decide +kernel
theorem dX0_perform_10 : decode cX0_perform 10 = .ok (.aload_n 0, 1) := by decide +kernel
theorem dX0_perform_11 : decode cX0_perform 11 = .ok (.getfield 16, 3) := by decide +kernel
theorem dX0_perform_14 : decode cX0_perform 14 = .ok (.if_icmp .ge 12, 3) := by decide +kernel
theorem dX0_perform_17 : decode cX0_perform 17 = .ok (.iload_n 2, 1) := by decide +kernel
theorem dX0_perform_18 : decode cX0_perform 18 = .ok (.ifCond .lt 8, 3) := by decide +kernel
theorem dX0_perform_21 : decode cX0_perform 21 = .ok (.iload_n 2, 1) := by decide +kernel
theorem dX0_perform_22 : decode cX0_perform 22 = .ok (.iconst 4, 1) := by decide +kernel
theorem dX0_perform_23 : decode cX0_perform 23 = .ok (.if_icmp .lt 5, 3) := by decide +kernel
theorem dX0_perform_26 : decode cX0_perform 26 = .ok (.iconst 0, 1) := by decide +kernel
theorem dX0_perform_27 : decode cX0_perform 27 = .ok (.ireturn, 1) := by decide +kernel
theorem dX0_perform_28 : decode cX0_perform 28 = .ok (.aload_n 0, 1) := by decide +kernel
theorem dX0_perform_29 : decode cX0_perform 29 = .ok (.iload_n 1, 1) := by decide +kernel
theorem dX0_perform_30 : decode cX0_perform 30 = .ok (.putfield 36, 3) := by decide +kernel
theorem dX0_perform_33 : decode cX0_perform 33 = .ok (.aload_n 0, 1) := by decide +kernel
theorem dX0_perform_34 : decode cX0_perform 34 = .ok (.aload_n 0, 1) := by decide +kernel
theorem dX0_perform_35 : decode cX0_perform 35 = .ok (.getfield 13, 3) := by decide +kernel
theorem dX0_perform_38 : decode cX0_perform 38 = .ok (.iload_n 1, 1) := by decide +kernel
theorem dX0_perform_39 : decode cX0_perform 39 = .ok (.iaload, 1) := by decide +kernel
theorem dX0_perform_40 : decode cX0_perform 40 = .ok (.putfield 39, 3) := by decide +kernel
theorem dX0_perform_43 : decode cX0_perform 43 = .ok (.aload_n 0, 1) := by decide +kernel
theorem dX0_perform_44 : decode cX0_perform 44 = .ok (.aload_n 0, 1) := by decide +kernel
theorem dX0_perform_45 : decode cX0_perform 45 = .ok (.getfield 39, 3) := by decide +kernel
theorem dX0_perform_48 : decode cX0_perform 48 = .ok (.iload_n 2, 1) := by decide +kernel
theorem dX0_perform_49 : decode cX0_perform 49 = .ok (.iload_n 3, 1) := by decide +kernel
theorem dX0_perform_50 : decode cX0_perform 50 = .ok (.iconst 0, 1) := by decide +kernel
theorem dX0_perform_51 : decode cX0_perform 51 = .ok (.invokevirtual 42, 3) := by decide +kernel
theorem dX0_perform_54 : decode cX0_perform 54 = .ok (.ireturn, 1) := by decide +kernel
theorem dX0_run_0 : decode cX0_run 0 = .ok (.iload_n 1, 1) := by decide +kernel
theorem dX0_run_1 : decode cX0_run 1 = .ok (.istore 5, 2) := by decide +kernel
theorem dX0_run_3 : decode cX0_run 3 = .ok (.iconst 0, 1) := by decide +kernel
theorem dX0_run_4 : decode cX0_run 4 = .ok (.istore 6, 2) := by decide +kernel
theorem dX0_run_6 : decode cX0_run 6 = .ok (.iload 6, 2) := by decide +kernel
theorem dX0_run_8 : decode cX0_run 8 = .ok (.bipush 8, 2) := by decide +kernel
theorem dX0_run_10 : decode cX0_run 10 = .ok (.if_icmp .ge 35, 3) := by decide +kernel
theorem dX0_run_13 : decode cX0_run 13 = .ok (.iload 5, 2) := by decide +kernel
theorem dX0_run_15 : decode cX0_run 15 = .ok (.ifCond .lt 30, 3) := by decide +kernel
theorem dX0_run_18 : decode cX0_run 18 = .ok (.getstatic 46, 3) := by decide +kernel
theorem dX0_run_21 : decode cX0_run 21 = .ok (.iload 5, 2) := by decide +kernel
theorem dX0_run_23 : decode cX0_run 23 = .ok (.iconst 4, 1) := by decide +kernel
theorem dX0_run_24 : decode cX0_run 24 = .ok (.imul, 1) := by decide +kernel
theorem dX0_run_25 : decode cX0_run 25 = .ok (.iload_n 2, 1) := by decide +kernel
theorem dX0_run_26 : decode cX0_run 26 = .ok (.iadd, 1) := by decide +kernel
theorem dX0_run_27 : decode cX0_run 27 = .ok (.iaload, 1) := by decide +kernel
theorem dX0_run_28 : decode cX0_run 28 = .ok (.ifCond .ne 17, 3) := by decide +kernel
theorem dX0_run_31 : decode cX0_run 31 = .ok (.getstatic 24, 3) := by decide +kernel
theorem dX0_run_34 : decode cX0_run 34 = .ok (.iload 5, 2) := by decide +kernel
theorem dX0_run_36 : decode cX0_run 36 = .ok (.iaload, 1) := by decide +kernel
theorem dX0_run_37 : decode cX0_run 37 = .ok (.istore 5, 2) := by decide +kernel
theorem dX0_run_39 : decode cX0_run 39 = .ok (.iinc 6 1, 3) := by decide +kernel
theorem dX0_run_42 : decode cX0_run 42 = .ok (.goto (-36), 3) := by decide +kernel
theorem dX0_run_45 : decode cX0_run 45 = .ok (.iload 5, 2) := by decide +kernel
theorem dX0_run_47 : decode cX0_run 47 = .ok (.ifCond .lt 10, 3) := by decide +kernel
theorem dX0_run_50 : decode cX0_run 50 = .ok (.iload 4, 2) := by decide +kernel
theorem dX0_run_52 : decode cX0_run 52 = .ok (.bipush 40, 2) := by decide +kernel
theorem dX0_run_54 : decode cX0_run 54 = .ok (.if_icmp .le 5, 3) := by decide +kernel
theorem dX0_run_57 : decode cX0_run 57 = .ok (.iconst 0, 1) := by decide +kernel
theorem dX0_run_58 : decode cX0_run 58 = .ok (.ireturn, 1) := by decide +kernel
theorem dX0_run_59 : decode cX0_run 59 = .ok (.getstatic 46, 3) := by decide +kernel
theorem dX0_run_62 : decode cX0_run 62 = .ok (.iload 5, 2) := by decide +kernel
theorem dX0_run_64 : decode cX0_run 64 = .ok (.iconst 4, 1) := by decide +kernel
theorem dX0_run_65 : decode cX0_run 65 = .ok (.imul, 1) := by decide +kernel
theorem dX0_run_66 : decode cX0_run 66 = .ok (.iload_n 2, 1) := by decide +kernel
theorem dX0_run_67 : decode cX0_run 67 = .ok (.iadd, 1) := by decide +kernel
theorem dX0_run_68 : decode cX0_run 68 = .ok (.iaload, 1) := by decide +kernel
theorem dX0_run_69 : decode cX0_run 69 = .ok (.istore 6, 2) := by decide +kernel
theorem dX0_run_71 : decode cX0_run 71 = .ok (.getstatic 24, 3) := by decide +kernel
theorem dX0_run_74 : decode cX0_run 74 = .ok (.iload 5, 2) := by decide +kernel
theorem dX0_run_76 : decode cX0_run 76 = .ok (.iaload, 1) := by decide +kernel
theorem dX0_run_77 : decode cX0_run 77 = .ok (.istore 7, 2) := by decide +kernel
theorem dX0_run_79 : decode cX0_run 79 = .ok (.iload 4, 2) := by decide +kernel
theorem dX0_run_81 : decode cX0_run 81 = .ok (.iconst 1, 1) := by decide +kernel
theorem dX0_run_82 : decode cX0_run 82 = .ok (.iadd, 1) := by decide +kernel
theorem dX0_run_83 : decode cX0_run 83 = .ok (.istore 8, 2) := by decide +kernel
theorem dX0_run_85 : decode cX0_run 85 = .ok (.aload_n 0, 1) := by decide +kernel
theorem dX0_run_86 : decode cX0_run 86 = .ok (.iload 6, 2) := by decide +kernel
theorem dX0_run_88 : decode cX0_run 88 = .ok (.invokevirtual 49, 3) := by decide +kernel
theorem dX0_run_91 : decode cX0_run 91 = .ok (.iload 6, 2) := by decide +kernel
theorem dX0_run_93 : decode cX0_run 93 = .ok (.lookupswitch 308 #[(1, 115), (2, 144), (10, 122), (11, 137), (20, 170), (30, 183), (40, 195), (41, 208), (50, 221), (60, 245), (70, 258), (80, 271), (81, 295)], 115) := by decide +kernel
theorem dX0_run_208 : decode cX0_run 208 = .ok (.iload_n 3, 1) := by decide +kernel
theorem dX0_run_209 : decode cX0_run 209 = .ok (.aload_n 0, 1) := by decide +kernel
theorem dX0_run_210 : decode cX0_run 210 = .ok (.getfield 36, 3) := by decide +kernel
theorem dX0_run_213 : decode cX0_run 213 = .ok (.iadd, 1) := by decide +kernel
theorem dX0_run_214 : decode cX0_run 214 = .ok (.ireturn, 1) := by decide +kernel
theorem dX0_run_215 : decode cX0_run 215 = .ok (.aload_n 0, 1) := by decide +kernel
theorem dX0_run_216 : decode cX0_run 216 = .ok (.aload_n 0, 1) := by decide +kernel
theorem dX0_run_217 : decode cX0_run 217 = .ok (.getfield 39, 3) := by decide +kernel
theorem dX0_run_220 : decode cX0_run 220 = .ok (.iconst 0, 1) := by decide +kernel
theorem dX0_run_221 : decode cX0_run 221 = .ok (.iload_n 3, 1) := by decide +kernel
theorem dX0_run_222 : decode cX0_run 222 = .ok (.iload 8, 2) := by decide +kernel
theorem dX0_run_224 : decode cX0_run 224 = .ok (.invokevirtual 42, 3) := by decide +kernel
theorem dX0_run_227 : decode cX0_run 227 = .ok (.iconst 2, 1) := by decide +kernel
theorem dX0_run_228 : decode cX0_run 228 = .ok (.imul, 1) := by decide +kernel
theorem dX0_run_229 : decode cX0_run 229 = .ok (.ireturn, 1) := by decide +kernel
theorem dX0_run_230 : decode cX0_run 230 = .ok (.iload_n 3, 1) := by decide +kernel
theorem dX0_run_231 : decode cX0_run 231 = .ok (.aload_n 0, 1) := by decide +kernel
theorem dX0_run_232 : decode cX0_run 232 = .ok (.getfield 36, 3) := by decide +kernel
theorem dX0_run_235 : decode cX0_run 235 = .ok (.ixor, 1) := by decide +kernel
theorem dX0_run_236 : decode cX0_run 236 = .ok (.ireturn, 1) := by decide +kernel
theorem dX0_run_237 : decode cX0_run 237 = .ok (.aload_n 0, 1) := by decide +kernel
theorem dX0_run_238 : decode cX0_run 238 = .ok (.aload_n 0, 1) := by decide +kernel
theorem dX0_run_239 : decode cX0_run 239 = .ok (.getfield 39, 3) := by decide +kernel
theorem dX0_run_242 : decode cX0_run 242 = .ok (.iconst 1, 1) := by decide +kernel
theorem dX0_run_243 : decode cX0_run 243 = .ok (.iload_n 3, 1) := by decide +kernel
theorem dX0_run_244 : decode cX0_run 244 = .ok (.iload 8, 2) := by decide +kernel
theorem dX0_run_246 : decode cX0_run 246 = .ok (.invokevirtual 42, 3) := by decide +kernel
theorem dX0_run_249 : decode cX0_run 249 = .ok (.aload_n 0, 1) := by decide +kernel
theorem dX0_run_250 : decode cX0_run 250 = .ok (.aload_n 0, 1) := by decide +kernel
theorem dX0_run_251 : decode cX0_run 251 = .ok (.getfield 39, 3) := by decide +kernel
theorem dX0_run_254 : decode cX0_run 254 = .ok (.iconst 2, 1) := by decide +kernel
theorem dX0_run_255 : decode cX0_run 255 = .ok (.iconst 1, 1) := by decide +kernel
theorem dX0_run_256 : decode cX0_run 256 = .ok (.iload 8, 2) := by decide +kernel
theorem dX0_run_258 : decode cX0_run 258 = .ok (.invokevirtual 42, 3) := by decide +kernel
theorem dX0_run_261 : decode cX0_run 261 = .ok (.isub, 1) := by decide +kernel
theorem dX0_run_262 : decode cX0_run 262 = .ok (.ireturn, 1) := by decide +kernel
theorem dX0_run_263 : decode cX0_run 263 = .ok (.aload_n 0, 1) := by decide +kernel
theorem dX0_run_264 : decode cX0_run 264 = .ok (.iload 7, 2) := by decide +kernel
theorem dX0_run_266 : decode cX0_run 266 = .ok (.iconst 0, 1) := by decide +kernel
theorem dX0_run_267 : decode cX0_run 267 = .ok (.iload_n 3, 1) := by decide +kernel
theorem dX0_run_268 : decode cX0_run 268 = .ok (.iload 8, 2) := by decide +kernel
theorem dX0_run_270 : decode cX0_run 270 = .ok (.invokevirtual 42, 3) := by decide +kernel
theorem dX0_run_273 : decode cX0_run 273 = .ok (.iconst 3, 1) := by decide +kernel
theorem dX0_run_274 : decode cX0_run 274 = .ok (.iadd, 1) := by decide +kernel
theorem dX0_run_275 : decode cX0_run 275 = .ok (.ireturn, 1) := by decide +kernel
theorem dX0_run_276 : decode cX0_run 276 = .ok (.aload_n 0, 1) := by decide +kernel
theorem dX0_run_277 : decode cX0_run 277 = .ok (.iload 7, 2) := by decide +kernel
theorem dX0_run_279 : decode cX0_run 279 = .ok (.iconst 1, 1) := by decide +kernel
theorem dX0_run_280 : decode cX0_run 280 = .ok (.iload_n 3, 1) := by decide +kernel
theorem dX0_run_281 : decode cX0_run 281 = .ok (.iload 8, 2) := by decide +kernel
theorem dX0_run_283 : decode cX0_run 283 = .ok (.invokevirtual 42, 3) := by decide +kernel
theorem dX0_run_286 : decode cX0_run 286 = .ok (.ineg, 1) := by decide +kernel
theorem dX0_run_287 : decode cX0_run 287 = .ok (.ireturn, 1) := by decide +kernel
theorem dX0_run_288 : decode cX0_run 288 = .ok (.aload_n 0, 1) := by decide +kernel
theorem dX0_run_289 : decode cX0_run 289 = .ok (.iload 7, 2) := by decide +kernel
theorem dX0_run_291 : decode cX0_run 291 = .ok (.iconst 2, 1) := by decide +kernel
theorem dX0_run_292 : decode cX0_run 292 = .ok (.iload_n 3, 1) := by decide +kernel
theorem dX0_run_293 : decode cX0_run 293 = .ok (.iload 8, 2) := by decide +kernel
theorem dX0_run_295 : decode cX0_run 295 = .ok (.invokevirtual 42, 3) := by decide +kernel
theorem dX0_run_298 : decode cX0_run 298 = .ok (.iconst 3, 1) := by decide +kernel
theorem dX0_run_299 : decode cX0_run 299 = .ok (.imul, 1) := by decide +kernel
theorem dX0_run_300 : decode cX0_run 300 = .ok (.ireturn, 1) := by decide +kernel
theorem dX0_run_301 : decode cX0_run 301 = .ok (.aload_n 0, 1) := by decide +kernel
theorem dX0_run_302 : decode cX0_run 302 = .ok (.iload 7, 2) := by decide +kernel
theorem dX0_run_304 : decode cX0_run 304 = .ok (.iconst 1, 1) := by decide +kernel
theorem dX0_run_305 : decode cX0_run 305 = .ok (.iload_n 3, 1) := by decide +kernel
theorem dX0_run_306 : decode cX0_run 306 = .ok (.iconst 1, 1) := by decide +kernel
theorem dX0_run_307 : decode cX0_run 307 = .ok (.iadd, 1) := by decide +kernel
theorem dX0_run_308 : decode cX0_run 308 = .ok (.iload 8, 2) := by decide +kernel
theorem dX0_run_310 : decode cX0_run 310 = .ok (.invokevirtual 42, 3) := by decide +kernel
theorem dX0_run_313 : decode cX0_run 313 = .ok (.ireturn, 1) := by decide +kernel
theorem dX0_run_314 : decode cX0_run 314 = .ok (.aload_n 0, 1) := by decide +kernel
theorem dX0_run_315 : decode cX0_run 315 = .ok (.iload 7, 2) := by decide +kernel
theorem dX0_run_317 : decode cX0_run 317 = .ok (.iconst 2, 1) := by decide +kernel
theorem dX0_run_318 : decode cX0_run 318 = .ok (.iload_n 3, 1) := by decide +kernel
theorem dX0_run_319 : decode cX0_run 319 = .ok (.iload 8, 2) := by decide +kernel
theorem dX0_run_321 : decode cX0_run 321 = .ok (.invokevirtual 42, 3) := by decide +kernel
theorem dX0_run_324 : decode cX0_run 324 = .ok (.aload_n 0, 1) := by decide +kernel
theorem dX0_run_325 : decode cX0_run 325 = .ok (.aload_n 0, 1) := by decide +kernel
theorem dX0_run_326 : decode cX0_run 326 = .ok (.getfield 39, 3) := by decide +kernel
theorem dX0_run_329 : decode cX0_run 329 = .ok (.iconst 0, 1) := by decide +kernel
theorem dX0_run_330 : decode cX0_run 330 = .ok (.iconst 2, 1) := by decide +kernel
theorem dX0_run_331 : decode cX0_run 331 = .ok (.iload 8, 2) := by decide +kernel
theorem dX0_run_333 : decode cX0_run 333 = .ok (.invokevirtual 42, 3) := by decide +kernel
theorem dX0_run_336 : decode cX0_run 336 = .ok (.isub, 1) := by decide +kernel
theorem dX0_run_337 : decode cX0_run 337 = .ok (.ireturn, 1) := by decide +kernel
theorem dX0_run_338 : decode cX0_run 338 = .ok (.aload_n 0, 1) := by decide +kernel
theorem dX0_run_339 : decode cX0_run 339 = .ok (.iload 7, 2) := by decide +kernel
theorem dX0_run_341 : decode cX0_run 341 = .ok (.iconst 3, 1) := by decide +kernel
theorem dX0_run_342 : decode cX0_run 342 = .ok (.iload_n 3, 1) := by decide +kernel
theorem dX0_run_343 : decode cX0_run 343 = .ok (.iload 8, 2) := by decide +kernel
theorem dX0_run_345 : decode cX0_run 345 = .ok (.invokevirtual 42, 3) := by decide +kernel
theorem dX0_run_348 : decode cX0_run 348 = .ok (.iconst 5, 1) := by decide +kernel
theorem dX0_run_349 : decode cX0_run 349 = .ok (.ixor, 1) := by decide +kernel
theorem dX0_run_350 : decode cX0_run 350 = .ok (.ireturn, 1) := by decide +kernel
theorem dX0_run_351 : decode cX0_run 351 = .ok (.aload_n 0, 1) := by decide +kernel
theorem dX0_run_352 : decode cX0_run 352 = .ok (.iload 7, 2) := by decide +kernel
theorem dX0_run_354 : decode cX0_run 354 = .ok (.iconst 0, 1) := by decide +kernel
theorem dX0_run_355 : decode cX0_run 355 = .ok (.iload_n 3, 1) := by decide +kernel
theorem dX0_run_356 : decode cX0_run 356 = .ok (.iload 8, 2) := by decide +kernel
theorem dX0_run_358 : decode cX0_run 358 = .ok (.invokevirtual 42, 3) := by decide +kernel
theorem dX0_run_361 : decode cX0_run 361 = .ok (.iconst 2, 1) := by decide +kernel
theorem dX0_run_362 : decode cX0_run 362 = .ok (.imul, 1) := by decide +kernel
theorem dX0_run_363 : decode cX0_run 363 = .ok (.ireturn, 1) := by decide +kernel
theorem dX0_run_364 : decode cX0_run 364 = .ok (.aload_n 0, 1) := by decide +kernel
theorem dX0_run_365 : decode cX0_run 365 = .ok (.iload 7, 2) := by decide +kernel
theorem dX0_run_367 : decode cX0_run 367 = .ok (.iconst 1, 1) := by decide +kernel
theorem dX0_run_368 : decode cX0_run 368 = .ok (.iload_n 3, 1) := by decide +kernel
theorem dX0_run_369 : decode cX0_run 369 = .ok (.iload 8, 2) := by decide +kernel
theorem dX0_run_371 : decode cX0_run 371 = .ok (.invokevirtual 42, 3) := by decide +kernel
theorem dX0_run_374 : decode cX0_run 374 = .ok (.aload_n 0, 1) := by decide +kernel
theorem dX0_run_375 : decode cX0_run 375 = .ok (.aload_n 0, 1) := by decide +kernel
theorem dX0_run_376 : decode cX0_run 376 = .ok (.getfield 39, 3) := by decide +kernel
theorem dX0_run_379 : decode cX0_run 379 = .ok (.iconst 2, 1) := by decide +kernel
theorem dX0_run_380 : decode cX0_run 380 = .ok (.iconst 2, 1) := by decide +kernel
theorem dX0_run_381 : decode cX0_run 381 = .ok (.iload 8, 2) := by decide +kernel
theorem dX0_run_383 : decode cX0_run 383 = .ok (.invokevirtual 42, 3) := by decide +kernel
theorem dX0_run_386 : decode cX0_run 386 = .ok (.iadd, 1) := by decide +kernel
theorem dX0_run_387 : decode cX0_run 387 = .ok (.ireturn, 1) := by decide +kernel
theorem dX0_run_388 : decode cX0_run 388 = .ok (.aload_n 0, 1) := by decide +kernel
theorem dX0_run_389 : decode cX0_run 389 = .ok (.iload 7, 2) := by decide +kernel
theorem dX0_run_391 : decode cX0_run 391 = .ok (.iconst 3, 1) := by decide +kernel
theorem dX0_run_392 : decode cX0_run 392 = .ok (.iload_n 3, 1) := by decide +kernel
theorem dX0_run_393 : decode cX0_run 393 = .ok (.iload 8, 2) := by decide +kernel
theorem dX0_run_395 : decode cX0_run 395 = .ok (.invokevirtual 42, 3) := by decide +kernel
theorem dX0_run_398 : decode cX0_run 398 = .ok (.iconst 1, 1) := by decide +kernel
theorem dX0_run_399 : decode cX0_run 399 = .ok (.isub, 1) := by decide +kernel
theorem dX0_run_400 : decode cX0_run 400 = .ok (.ireturn, 1) := by decide +kernel
theorem dX0_run_401 : decode cX0_run 401 = .ok (.iconst 0, 1) := by decide +kernel
theorem dX0_run_402 : decode cX0_run 402 = .ok (.ireturn, 1) := by decide +kernel
theorem dX0_begin_0 : decode cX0_begin 0 = .ok (.aload_n 0, 1) := by decide +kernel
theorem dX0_begin_1 : decode cX0_begin 1 = .ok (.getfield 27, 3) := by decide +kernel
theorem dX0_begin_4 : decode cX0_begin 4 = .ok (.bipush 24, 2) := by decide +kernel
theorem dX0_begin_6 : decode cX0_begin 6 = .ok (.if_icmp .ge 13, 3) := by decide +kernel
theorem dX0_begin_9 : decode cX0_begin 9 = .ok (.aload_n 0, 1) := by decide +kernel
theorem dX0_begin_10 : decode cX0_begin 10 = .ok (.getfield 9, 3) := by decide +kernel
theorem dX0_begin_13 : decode cX0_begin 13 = .ok (.aload_n 0, 1) := by decide +kernel
theorem dX0_begin_14 : decode cX0_begin 14 = .ok (.getfield 27, 3) := by decide +kernel
theorem dX0_begin_17 : decode cX0_begin 17 = .ok (.iload_n 1, 1) := by decide +kernel
theorem dX0_begin_18 : decode cX0_begin 18 = .ok (.iastore, 1) := by decide +kernel
theorem dX0_begin_19 : decode cX0_begin 19 = .ok (.aload_n 0, 1) := by decide +kernel
theorem dX0_begin_20 : decode cX0_begin 20 = .ok (.dup, 1) := by decide +kernel
theorem dX0_begin_21 : decode cX0_begin 21 = .ok (.getfield 27, 3) := by decide +kernel
theorem dX0_begin_24 : decode cX0_begin 24 = .ok (.iconst 1, 1) := by decide +kernel
theorem dX0_begin_25 : decode cX0_begin 25 = .ok (.iadd, 1) := by decide +kernel
theorem dX0_begin_26 : decode cX0_begin 26 = .ok (.putfield 27, 3) := by decide +kernel
theorem dX0_begin_29 : decode cX0_begin 29 = .ok (.return_, 1) := by decide +kernel
theorem dX1_init_0 : decode cX1_init 0 = .ok (.aload_n 0, 1) := by decide +kernel
theorem dX1_init_1 : decode cX1_init 1 = .ok (.invokespecial 1, 3) := by decide +kernel
theorem dX1_init_4 : decode cX1_init 4 = .ok (.aload_n 0, 1) := by decide +kernel
theorem dX1_init_5 : decode cX1_init 5 = .ok (.bipush 40, 2) := by decide +kernel
theorem dX1_init_7 : decode cX1_init 7 = .ok (.newarray .int, 2) := by decide +kernel
theorem dX1_init_9 : decode cX1_init 9 = .ok (.putfield 9, 3) := by decide +kernel
theorem dX1_init_12 : decode cX1_init 12 = .ok (.aload_n 0, 1) := by decide +kernel
theorem dX1_init_13 : decode cX1_init 13 = .ok (.bipush 40, 2) := by decide +kernel
theorem dX1_init_15 : decode cX1_init 15 = .ok (.newarray .int, 2) := by decide +kernel
theorem dX1_init_17 : decode cX1_init 17 = .ok (.putfield 13, 3) := by decide +kernel
theorem dX1_init_20 : decode cX1_init 20 = .ok (.aload_n 0, 1) := by decide +kernel
theorem dX1_init_21 : decode cX1_init 21 = .ok (.bipush 40, 2) := by decide +kernel
theorem dX1_init_23 : decode cX1_init 23 = .ok (.newarray .int, 2) := by decide +kernel
theorem dX1_init_25 : decode cX1_init 25 = .ok (.putfield 16, 3) := by decide +kernel
theorem dX1_init_28 : decode cX1_init 28 = .ok (.aload_n 0, 1) := by decide +kernel
theorem dX1_init_29 : decode cX1_init 29 = .ok (.bipush 40, 2) := by decide +kernel
theorem dX1_init_31 : decode cX1_init 31 = .ok (.newarray .int, 2) := by decide +kernel
theorem dX1_init_33 : decode cX1_init 33 = .ok (.putfield 19, 3) := by decide +kernel
theorem dX1_init_36 : decode cX1_init 36 = .ok (.return_, 1) := by decide +kernel
theorem dX1_note_0 : decode cX1_note 0 = .ok (.aload_n 0, 1) := by decide +kernel
theorem dX1_note_1 : decode cX1_note 1 = .ok (.getfield 22, 3) := by decide +kernel
theorem dX1_note_4 : decode cX1_note 4 = .ok (.bipush 40, 2) := by decide +kernel
theorem dX1_note_6 : decode cX1_note 6 = .ok (.if_icmp .ne 7, 3) := by decide +kernel
theorem dX1_note_9 : decode cX1_note 9 = .ok (.aload_n 0, 1) := by decide +kernel
theorem dX1_note_10 : decode cX1_note 10 = .ok (.invokevirtual 26, 3) := by decide +kernel
theorem dX1_note_13 : decode cX1_note 13 = .ok (.aload_n 0, 1) := by decide +kernel
theorem dX1_note_14 : decode cX1_note 14 = .ok (.getfield 9, 3) := by decide +kernel
theorem dX1_note_17 : decode cX1_note 17 = .ok (.aload_n 0, 1) := by decide +kernel
theorem dX1_note_18 : decode cX1_note 18 = .ok (.getfield 22, 3) := by decide +kernel
theorem dX1_note_21 : decode cX1_note 21 = .ok (.iload_n 1, 1) := by decide +kernel
theorem dX1_note_22 : decode cX1_note 22 = .ok (.iastore, 1) := by decide +kernel
theorem dX1_note_23 : decode cX1_note 23 = .ok (.aload_n 0, 1) := by decide +kernel
theorem dX1_note_24 : decode cX1_note 24 = .ok (.getfield 13, 3) := by decide +kernel
theorem dX1_note_27 : decode cX1_note 27 = .ok (.aload_n 0, 1) := by decide +kernel
theorem dX1_note_28 : decode cX1_note 28 = .ok (.getfield 22, 3) := by decide +kernel
theorem dX1_note_31 : decode cX1_note 31 = .ok (.iload_n 2, 1) := by decide +kernel
theorem dX1_note_32 : decode cX1_note 32 = .ok (.iastore, 1) := by decide +kernel
theorem dX1_note_33 : decode cX1_note 33 = .ok (.aload_n 0, 1) := by decide +kernel
theorem dX1_note_34 : decode cX1_note 34 = .ok (.getfield 16, 3) := by decide +kernel
theorem dX1_note_37 : decode cX1_note 37 = .ok (.aload_n 0, 1) := by decide +kernel
theorem dX1_note_38 : decode cX1_note 38 = .ok (.getfield 22, 3) := by decide +kernel
theorem dX1_note_41 : decode cX1_note 41 = .ok (.iload_n 3, 1) := by decide +kernel
theorem dX1_note_42 : decode cX1_note 42 = .ok (.iastore, 1) := by decide +kernel
theorem dX1_note_43 : decode cX1_note 43 = .ok (.aload_n 0, 1) := by decide +kernel
theorem dX1_note_44 : decode cX1_note 44 = .ok (.getfield 19, 3) := by decide +kernel
theorem dX1_note_47 : decode cX1_note 47 = .ok (.aload_n 0, 1) := by decide +kernel
theorem dX1_note_48 : decode cX1_note 48 = .ok (.getfield 22, 3) := by decide +kernel
theorem dX1_note_51 : decode cX1_note 51 = .ok (.iload 4, 2) := by decide +kernel
theorem dX1_note_53 : decode cX1_note 53 = .ok (.iastore, 1) := by decide +kernel
theorem dX1_note_54 : decode cX1_note 54 = .ok (.aload_n 0, 1) := by decide +kernel
theorem dX1_note_55 : decode cX1_note 55 = .ok (.dup, 1) := by decide +kernel
theorem dX1_note_56 : decode cX1_note 56 = .ok (.getfield 22, 3) := by decide +kernel
theorem dX1_note_59 : decode cX1_note 59 = .ok (.iconst 1, 1) := by decide +kernel
theorem dX1_note_60 : decode cX1_note 60 = .ok (.iadd, 1) := by decide +kernel
theorem dX1_note_61 : decode cX1_note 61 = .ok (.putfield 22, 3) := by decide +kernel
theorem dX1_note_64 : decode cX1_note 64 = .ok (.aload_n 0, 1) := by decide +kernel
theorem dX1_note_65 : decode cX1_note 65 = .ok (.aload_n 0, 1) := by decide +kernel
theorem dX1_note_66 : decode cX1_note 66 = .ok (.getfield 22, 3) := by decide +kernel
theorem dX1_note_69 : decode cX1_note 69 = .ok (.putfield 29, 3) := by decide +kernel
theorem dX1_note_72 : decode cX1_note 72 = .ok (.return_, 1) := by decide +kernel
theorem dX1_forgetOldest_0 : decode cX1_forgetOldest 0 = .ok (.aload_n 0, 1) := by decide +kernel
theorem dX1_forgetOldest_1 : decode cX1_forgetOldest 1 = .ok (.getfield 9, 3) := by decide +kernel
theorem dX1_forgetOldest_4 : decode cX1_forgetOldest 4 = .ok (.iconst 1, 1) := by decide +kernel
theorem dX1_forgetOldest_5 : decode cX1_forgetOldest 5 = .ok (.aload_n 0, 1) := by decide +kernel
theorem dX1_forgetOldest_6 : decode cX1_forgetOldest 6 = .ok (.getfield 9, 3) := by decide +kernel
theorem dX1_forgetOldest_9 : decode cX1_forgetOldest 9 = .ok (.iconst 0, 1) := by decide +kernel
theorem dX1_forgetOldest_10 : decode cX1_forgetOldest 10 = .ok (.bipush 39, 2) := by decide +kernel
theorem dX1_forgetOldest_12 : decode cX1_forgetOldest 12 = .ok (.invokestatic 32, 3) := by decide +kernel
theorem dX1_forgetOldest_15 : decode cX1_forgetOldest 15 = .ok (.aload_n 0, 1) := by decide +kernel
theorem dX1_forgetOldest_16 : decode cX1_forgetOldest 16 = .ok (.getfield 13, 3) := by decide +kernel
theorem dX1_forgetOldest_19 : decode cX1_forgetOldest 19 = .ok (.iconst 1, 1) := by decide +kernel
theorem dX1_forgetOldest_20 : decode cX1_forgetOldest 20 = .ok (.aload_n 0, 1) := by decide +kernel
theorem dX1_forgetOldest_21 : decode cX1_forgetOldest 21 = .ok (.getfield 13, 3) := by decide +kernel
theorem dX1_forgetOldest_24 : decode cX1_forgetOldest 24 = .ok (.iconst 0, 1) := by decide +kernel
theorem dX1_forgetOldest_25 : decode cX1_forgetOldest 25 = .ok (.bipush 39, 2) := by decide +kernel
theorem dX1_forgetOldest_27 : decode cX1_forgetOldest 27 = .ok (.invokestatic 32, 3) := by decide +kernel
theorem dX1_forgetOldest_30 : decode cX1_forgetOldest 30 = .ok (.aload_n 0, 1) := by decide +kernel
theorem dX1_forgetOldest_31 : decode cX1_forgetOldest 31 = .ok (.getfield 16, 3) := by decide +kernel
theorem dX1_forgetOldest_34 : decode cX1_forgetOldest 34 = .ok (.iconst 1, 1) := by decide +kernel
theorem dX1_forgetOldest_35 : decode cX1_forgetOldest 35 = .ok (.aload_n 0, 1) := by decide +kernel
theorem dX1_forgetOldest_36 : decode cX1_forgetOldest 36 = .ok (.getfield 16, 3) := by decide +kernel
theorem dX1_forgetOldest_39 : decode cX1_forgetOldest 39 = .ok (.iconst 0, 1) := by decide +kernel
theorem dX1_forgetOldest_40 : decode cX1_forgetOldest 40 = .ok (.bipush 39, 2) := by decide +kernel
theorem dX1_forgetOldest_42 : decode cX1_forgetOldest 42 = .ok (.invokestatic 32, 3) := by decide +kernel
theorem dX1_forgetOldest_45 : decode cX1_forgetOldest 45 = .ok (.aload_n 0, 1) := by decide +kernel
theorem dX1_forgetOldest_46 : decode cX1_forgetOldest 46 = .ok (.getfield 19, 3) := by decide +kernel
theorem dX1_forgetOldest_49 : decode cX1_forgetOldest 49 = .ok (.iconst 1, 1) := by decide +kernel
theorem dX1_forgetOldest_50 : decode cX1_forgetOldest 50 = .ok (.aload_n 0, 1) := by decide +kernel
theorem dX1_forgetOldest_51 : decode cX1_forgetOldest 51 = .ok (.getfield 19, 3) := by decide +kernel
theorem dX1_forgetOldest_54 : decode cX1_forgetOldest 54 = .ok (.iconst 0, 1) := by decide +kernel
theorem dX1_forgetOldest_55 : decode cX1_forgetOldest 55 = .ok (.bipush 39, 2) := by decide +kernel
theorem dX1_forgetOldest_57 : decode cX1_forgetOldest 57 = .ok (.invokestatic 32, 3) := by decide +kernel
theorem dX1_forgetOldest_60 : decode cX1_forgetOldest 60 = .ok (.aload_n 0, 1) := by decide +kernel
theorem dX1_forgetOldest_61 : decode cX1_forgetOldest 61 = .ok (.dup, 1) := by decide +kernel
theorem dX1_forgetOldest_62 : decode cX1_forgetOldest 62 = .ok (.getfield 22, 3) := by decide +kernel
theorem dX1_forgetOldest_65 : decode cX1_forgetOldest 65 = .ok (.iconst 1, 1) := by decide +kernel
theorem dX1_forgetOldest_66 : decode cX1_forgetOldest 66 = .ok (.isub, 1) := by decide +kernel
theorem dX1_forgetOldest_67 : decode cX1_forgetOldest 67 = .ok (.putfield 22, 3) := by decide +kernel
theorem dX1_forgetOldest_70 : decode cX1_forgetOldest 70 = .ok (.return_, 1) := by decide +kernel
theorem dX1_undone_0 : decode cX1_undone 0 = .ok (.aload_n 0, 1) := by decide +kernel
theorem dX1_undone_1 : decode cX1_undone 1 = .ok (.getfield 29, 3) := by decide +kernel
theorem dX1_undone_4 : decode cX1_undone 4 = .ok (.aload_n 0, 1) := by decide +kernel
theorem dX1_undone_5 : decode cX1_undone 5 = .ok (.getfield 22, 3) := by decide +kernel
theorem dX1_undone_8 : decode cX1_undone 8 = .ok (.isub, 1) := by decide +kernel
theorem dX1_undone_9 : decode cX1_undone 9 = .ok (.ireturn, 1) := by decide +kernel
theorem dX1_takeBack_0 : decode cX1_takeBack 0 = .ok (.aload_n 0, 1) := by decide +kernel
theorem dX1_takeBack_1 : decode cX1_takeBack 1 = .ok (.getfield 22, 3) := by decide +kernel
theorem dX1_takeBack_4 : decode cX1_takeBack 4 = .ok (.ifCond .gt 5, 3) := by decide +kernel
theorem dX1_takeBack_7 : decode cX1_takeBack 7 = .ok (.iconst 0, 1) := by decide +kernel
theorem dX1_takeBack_8 : decode cX1_takeBack 8 = .ok (.ireturn, 1) := by decide +kernel
theorem dX1_takeBack_9 : decode cX1_takeBack 9 = .ok (.aload_n 0, 1) := by decide +kernel
theorem dX1_takeBack_10 : decode cX1_takeBack 10 = .ok (.dup, 1) := by decide +kernel
theorem dX1_takeBack_11 : decode cX1_takeBack 11 = .ok (.getfield 22, 3) := by decide +kernel
theorem dX1_takeBack_14 : decode cX1_takeBack 14 = .ok (.iconst 1, 1) := by decide +kernel
theorem dX1_takeBack_15 : decode cX1_takeBack 15 = .ok (.isub, 1) := by decide +kernel
theorem dX1_takeBack_16 : decode cX1_takeBack 16 = .ok (.putfield 22, 3) := by decide +kernel
theorem dX1_takeBack_19 : decode cX1_takeBack 19 = .ok (.aload_n 1, 1) := by decide +kernel
theorem dX1_takeBack_20 : decode cX1_takeBack 20 = .ok (.aload_n 0, 1) := by decide +kernel
theorem dX1_takeBack_21 : decode cX1_takeBack 21 = .ok (.getfield 9, 3) := by decide +kernel
theorem dX1_takeBack_24 : decode cX1_takeBack 24 = .ok (.aload_n 0, 1) := by decide +kernel
theorem dX1_takeBack_25 : decode cX1_takeBack 25 = .ok (.getfield 22, 3) := by decide +kernel
theorem dX1_takeBack_28 : decode cX1_takeBack 28 = .ok (.iaload, 1) := by decide +kernel
theorem dX1_takeBack_29 : decode cX1_takeBack 29 = .ok (.aload_n 0, 1) := by decide +kernel
theorem dX1_takeBack_30 : decode cX1_takeBack 30 = .ok (.getfield 13, 3) := by decide +kernel
theorem dX1_takeBack_33 : decode cX1_takeBack 33 = .ok (.aload_n 0, 1) := by decide +kernel
theorem dX1_takeBack_34 : decode cX1_takeBack 34 = .ok (.getfield 22, 3) := by decide +kernel
theorem dX1_takeBack_37 : decode cX1_takeBack 37 = .ok (.iaload, 1) := by decide +kernel
theorem dX1_takeBack_38 : decode cX1_takeBack 38 = .ok (.aload_n 0, 1) := by decide +kernel
theorem dX1_takeBack_39 : decode cX1_takeBack 39 = .ok (.getfield 16, 3) := by decide +kernel
theorem dX1_takeBack_42 : decode cX1_takeBack 42 = .ok (.aload_n 0, 1) := by decide +kernel
theorem dX1_takeBack_43 : decode cX1_takeBack 43 = .ok (.getfield 22, 3) := by decide +kernel
theorem dX1_takeBack_46 : decode cX1_takeBack 46 = .ok (.iaload, 1) := by decide +kernel
theorem dX1_takeBack_47 : decode cX1_takeBack 47 = .ok (.invokevirtual 38, 3) := by decide +kernel
theorem dX1_takeBack_50 : decode cX1_takeBack 50 = .ok (.pop, 1) := by decide +kernel
theorem dX1_takeBack_51 : decode cX1_takeBack 51 = .ok (.iconst 1, 1) := by decide +kernel
theorem dX1_takeBack_52 : decode cX1_takeBack 52 = .ok (.ireturn, 1) := by decide +kernel
theorem dX1_doAgain_0 : decode cX1_doAgain 0 = .ok (.aload_n 0, 1) := by decide +kernel
theorem dX1_doAgain_1 : decode cX1_doAgain 1 = .ok (.invokevirtual 44, 3) := by decide +kernel
theorem dX1_doAgain_4 : decode cX1_doAgain 4 = .ok (.ifCond .gt 5, 3) := by decide +kernel
theorem dX1_doAgain_7 : decode cX1_doAgain 7 = .ok (.iconst 0, 1) := by decide +kernel
theorem dX1_doAgain_8 : decode cX1_doAgain 8 = .ok (.ireturn, 1) := by decide +kernel
theorem dX1_doAgain_9 : decode cX1_doAgain 9 = .ok (.aload_n 1, 1) := by decide +kernel
theorem dX1_doAgain_10 : decode cX1_doAgain 10 = .ok (.aload_n 0, 1) := by decide +kernel
theorem dX1_doAgain_11 : decode cX1_doAgain 11 = .ok (.getfield 9, 3) := by decide +kernel
theorem dX1_doAgain_14 : decode cX1_doAgain 14 = .ok (.aload_n 0, 1) := by decide +kernel
theorem dX1_doAgain_15 : decode cX1_doAgain 15 = .ok (.getfield 22, 3) := by decide +kernel
theorem dX1_doAgain_18 : decode cX1_doAgain 18 = .ok (.iaload, 1) := by decide +kernel
theorem dX1_doAgain_19 : decode cX1_doAgain 19 = .ok (.aload_n 0, 1) := by decide +kernel
theorem dX1_doAgain_20 : decode cX1_doAgain 20 = .ok (.getfield 13, 3) := by decide +kernel
theorem dX1_doAgain_23 : decode cX1_doAgain 23 = .ok (.aload_n 0, 1) := by decide +kernel
theorem dX1_doAgain_24 : decode cX1_doAgain 24 = .ok (.getfield 22, 3) := by decide +kernel
theorem dX1_doAgain_27 : decode cX1_doAgain 27 = .ok (.iaload, 1) := by decide +kernel
theorem dX1_doAgain_28 : decode cX1_doAgain 28 = .ok (.aload_n 0, 1) := by decide +kernel
theorem dX1_doAgain_29 : decode cX1_doAgain 29 = .ok (.getfield 19, 3) := by decide +kernel
theorem dX1_doAgain_32 : decode cX1_doAgain 32 = .ok (.aload_n 0, 1) := by decide +kernel
theorem dX1_doAgain_33 : decode cX1_doAgain 33 = .ok (.getfield 22, 3) := by decide +kernel
theorem dX1_doAgain_36 : decode cX1_doAgain 36 = .ok (.iaload, 1) := by decide +kernel
theorem dX1_doAgain_37 : decode cX1_doAgain 37 = .ok (.invokevirtual 38, 3) := by decide +kernel
theorem dX1_doAgain_40 : decode cX1_doAgain 40 = .ok (.pop, 1) := by decide +kernel
theorem dX1_doAgain_41 : decode cX1_doAgain 41 = .ok (.aload_n 0, 1) := by decide +kernel
theorem dX1_doAgain_42 : decode cX1_doAgain 42 = .ok (.dup, 1) := by decide +kernel
theorem dX1_doAgain_43 : decode cX1_doAgain 43 = .ok (.getfield 22, 3) := by decide +kernel
theorem dX1_doAgain_46 : decode cX1_doAgain 46 = .ok (.iconst 1, 1) := by decide +kernel
theorem dX1_doAgain_47 : decode cX1_doAgain 47 = .ok (.iadd, 1) := by decide +kernel
theorem dX1_doAgain_48 : decode cX1_doAgain 48 = .ok (.putfield 22, 3) := by decide +kernel
theorem dX1_doAgain_51 : decode cX1_doAgain 51 = .ok (.iconst 1, 1) := by decide +kernel
theorem dX1_doAgain_52 : decode cX1_doAgain 52 = .ok (.ireturn, 1) := by decide +kernel
theorem dX2_init_0 : decode cX2_init 0 = .ok (.aload_n 0, 1) := by decide +kernel
theorem dX2_init_1 : decode cX2_init 1 = .ok (.invokespecial 3, 3) := by decide +kernel
theorem dX2_init_4 : decode cX2_init 4 = .ok (.aload_n 0, 1) := by decide +kernel
theorem dX2_init_5 : decode cX2_init 5 = .ok (.aload_n 1, 1) := by decide +kernel
theorem dX2_init_6 : decode cX2_init 6 = .ok (.putfield 9, 3) := by decide +kernel
theorem dX2_init_9 : decode cX2_init 9 = .ok (.aload_n 0, 1) := by decide +kernel
theorem dX2_init_10 : decode cX2_init 10 = .ok (.aload_n 2, 1) := by decide +kernel
theorem dX2_init_11 : decode cX2_init 11 = .ok (.putfield 15, 3) := by decide +kernel
theorem dX2_init_14 : decode cX2_init 14 = .ok (.aload_n 0, 1) := by decide +kernel
theorem dX2_init_15 : decode cX2_init 15 = .ok (.aload_n 3, 1) := by decide +kernel
theorem dX2_init_16 : decode cX2_init 16 = .ok (.putfield 19, 3) := by decide +kernel
theorem dX2_init_19 : decode cX2_init 19 = .ok (.return_, 1) := by decide +kernel
theorem dX2_sow_0 : decode cX2_sow 0 = .ok (.aload_n 0, 1) := by decide +kernel
theorem dX2_sow_1 : decode cX2_sow 1 = .ok (.iload_n 1, 1) := by decide +kernel
theorem dX2_sow_2 : decode cX2_sow 2 = .ok (.putfield 23, 3) := by decide +kernel
theorem dX2_sow_5 : decode cX2_sow 5 = .ok (.return_, 1) := by decide +kernel
theorem dX2_year_0 : decode cX2_year 0 = .ok (.iconst 0, 1) := by decide +kernel
theorem dX2_year_1 : decode cX2_year 1 = .ok (.istore_n 2, 1) := by decide +kernel
theorem dX2_year_2 : decode cX2_year 2 = .ok (.iload_n 2, 1) := by decide +kernel
theorem dX2_year_3 : decode cX2_year 3 = .ok (.aload_n 0, 1) := by decide +kernel
theorem dX2_year_4 : decode cX2_year 4 = .ok (.getfield 9, 3) := by decide +kernel
theorem dX2_year_7 : decode cX2_year 7 = .ok (.getfield 27, 3) := by decide +kernel
theorem dX2_year_10 : decode cX2_year 10 = .ok (.if_icmp .ge 95, 3) := by decide +kernel
theorem dX2_year_13 : decode cX2_year 13 = .ok (.aload_n 0, 1) := by decide +kernel
theorem dX2_year_14 : decode cX2_year 14 = .ok (.getfield 9, 3) := by decide +kernel
theorem dX2_year_17 : decode cX2_year 17 = .ok (.getfield 32, 3) := by decide +kernel
theorem dX2_year_20 : decode cX2_year 20 = .ok (.iload_n 2, 1) := by decide +kernel
theorem dX2_year_21 : decode cX2_year 21 = .ok (.iaload, 1) := by decide +kernel
theorem dX2_year_22 : decode cX2_year 22 = .ok (.istore_n 3, 1) := by decide +kernel
theorem dX2_year_23 : decode cX2_year 23 = .ok (.aload_n 0, 1) := by decide +kernel
theorem dX2_year_24 : decode cX2_year 24 = .ok (.getfield 9, 3) := by decide +kernel
theorem dX2_year_27 : decode cX2_year 27 = .ok (.getfield 36, 3) := by decide +kernel
theorem dX2_year_30 : decode cX2_year 30 = .ok (.iload_n 3, 1) := by decide +kernel
theorem dX2_year_31 : decode cX2_year 31 = .ok (.iaload, 1) := by decide +kernel
theorem dX2_year_32 : decode cX2_year 32 = .ok (.istore 4, 2) := by decide +kernel
theorem dX2_year_34 : decode cX2_year 34 = .ok (.iload 4, 2) := by decide +kernel
theorem dX2_year_36 : decode cX2_year 36 = .ok (.iconst 4, 1) := by decide +kernel
theorem dX2_year_37 : decode cX2_year 37 = .ok (.if_icmp .ne 15, 3) := by decide +kernel
theorem dX2_year_40 : decode cX2_year 40 = .ok (.aload_n 0, 1) := by decide +kernel
theorem dX2_year_41 : decode cX2_year 41 = .ok (.getfield 19, 3) := by decide +kernel
theorem dX2_year_44 : decode cX2_year 44 = .ok (.aload_n 1, 1) := by decide +kernel
theorem dX2_year_45 : decode cX2_year 45 = .ok (.iload_n 2, 1) := by decide +kernel
theorem dX2_year_46 : decode cX2_year 46 = .ok (.invokevirtual 39, 3) := by decide +kernel
theorem dX2_year_49 : decode cX2_year 49 = .ok (.goto 19, 3) := by decide +kernel
theorem dX2_year_52 : decode cX2_year 52 = .ok (.aload_n 1, 1) := by decide +kernel
theorem dX2_year_53 : decode cX2_year 53 = .ok (.getfield 45, 3) := by decide +kernel
theorem dX2_year_56 : decode cX2_year 56 = .ok (.iload_n 2, 1) := by decide +kernel
theorem dX2_year_57 : decode cX2_year 57 = .ok (.iaload, 1) := by decide +kernel
theorem dX2_year_58 : decode cX2_year 58 = .ok (.iload 4, 2) := by decide +kernel
theorem dX2_year_60 : decode cX2_year 60 = .ok (.if_icmp .gt 7, 3) := by decide +kernel
theorem dX2_year_63 : decode cX2_year 63 = .ok (.iconst 1, 1) := by decide +kernel
theorem dX2_year_64 : decode cX2_year 64 = .ok (.goto 4, 3) := by decide +kernel
theorem dX2_year_67 : decode cX2_year 67 = .ok (.iconst 0, 1) := by decide +kernel
theorem dX2_year_68 : decode cX2_year 68 = .ok (.istore 5, 2) := by decide +kernel
theorem dX2_year_70 : decode cX2_year 70 = .ok (.iload 5, 2) := by decide +kernel
theorem dX2_year_72 : decode cX2_year 72 = .ok (.ifCond .eq 27, 3) := by decide +kernel
theorem dX2_year_75 : decode cX2_year 75 = .ok (.aload_n 1, 1) := by decide +kernel
theorem dX2_year_76 : decode cX2_year 76 = .ok (.iload_n 2, 1) := by decide +kernel
theorem dX2_year_77 : decode cX2_year 77 = .ok (.iload_n 3, 1) := by decide +kernel
theorem dX2_year_78 : decode cX2_year 78 = .ok (.aload_n 0, 1) := by decide +kernel
theorem dX2_year_79 : decode cX2_year 79 = .ok (.getfield 9, 3) := by decide +kernel
theorem dX2_year_82 : decode cX2_year 82 = .ok (.getfield 50, 3) := by decide +kernel
theorem dX2_year_85 : decode cX2_year 85 = .ok (.iload_n 3, 1) := by decide +kernel
theorem dX2_year_86 : decode cX2_year 86 = .ok (.iaload, 1) := by decide +kernel
theorem dX2_year_87 : decode cX2_year 87 = .ok (.aload_n 0, 1) := by decide +kernel
theorem dX2_year_88 : decode cX2_year 88 = .ok (.getfield 9, 3) := by decide +kernel
theorem dX2_year_91 : decode cX2_year 91 = .ok (.getfield 53, 3) := by decide +kernel
theorem dX2_year_94 : decode cX2_year 94 = .ok (.iload_n 3, 1) := by decide +kernel
theorem dX2_year_95 : decode cX2_year 95 = .ok (.iaload, 1) := by decide +kernel
theorem dX2_year_96 : decode cX2_year 96 = .ok (.invokevirtual 56, 3) := by decide +kernel
theorem dX2_year_99 : decode cX2_year 99 = .ok (.iinc 2 1, 3) := by decide +kernel
theorem dX2_year_102 : decode cX2_year 102 = .ok (.goto (-100), 3) := by decide +kernel
theorem dX2_year_105 : decode cX2_year 105 = .ok (.iconst 0, 1) := by decide +kernel
theorem dX2_year_106 : decode cX2_year 106 = .ok (.istore_n 2, 1) := by decide +kernel
theorem dX2_year_107 : decode cX2_year 107 = .ok (.iload_n 2, 1) := by decide +kernel
theorem dX2_year_108 : decode cX2_year 108 = .ok (.aload_n 0, 1) := by decide +kernel
theorem dX2_year_109 : decode cX2_year 109 = .ok (.getfield 9, 3) := by decide +kernel
theorem dX2_year_112 : decode cX2_year 112 = .ok (.getfield 27, 3) := by decide +kernel
theorem dX2_year_115 : decode cX2_year 115 = .ok (.if_icmp .ge 83, 3) := by decide +kernel
theorem dX2_year_118 : decode cX2_year 118 = .ok (.aload_n 0, 1) := by decide +kernel
theorem dX2_year_119 : decode cX2_year 119 = .ok (.aload_n 0, 1) := by decide +kernel
theorem dX2_year_120 : decode cX2_year 120 = .ok (.getfield 23, 3) := by decide +kernel
theorem dX2_year_123 : decode cX2_year 123 = .ok (.ldc 60, 2) := by decide +kernel
theorem dX2_year_125 : decode cX2_year 125 = .ok (.imul, 1) := by decide +kernel
theorem dX2_year_126 : decode cX2_year 126 = .ok (.sipush 12345, 3) := by decide +kernel
theorem dX2_year_129 : decode cX2_year 129 = .ok (.iadd, 1) := by decide +kernel
theorem dX2_year_130 : decode cX2_year 130 = .ok (.putfield 23, 3) := by decide +kernel
theorem dX2_year_133 : decode cX2_year 133 = .ok (.aload_n 0, 1) := by decide +kernel
theorem dX2_year_134 : decode cX2_year 134 = .ok (.getfield 23, 3) := by decide +kernel
theorem dX2_year_137 : decode cX2_year 137 = .ok (.bipush 8, 2) := by decide +kernel
theorem dX2_year_139 : decode cX2_year 139 = .ok (.iushr, 1) := by decide +kernel
theorem dX2_year_140 : decode cX2_year 140 = .ok (.bipush 12, 2) := by decide +kernel
theorem dX2_year_142 : decode cX2_year 142 = .ok (.irem, 1) := by decide +kernel
theorem dX2_year_143 : decode cX2_year 143 = .ok (.aload_n 0, 1) := by decide +kernel
theorem dX2_year_144 : decode cX2_year 144 = .ok (.getfield 15, 3) := by decide +kernel
theorem dX2_year_147 : decode cX2_year 147 = .ok (.iload_n 2, 1) := by decide +kernel
theorem dX2_year_148 : decode cX2_year 148 = .ok (.aload_n 1, 1) := by decide +kernel
theorem dX2_year_149 : decode cX2_year 149 = .ok (.getfield 45, 3) := by decide +kernel
theorem dX2_year_152 : decode cX2_year 152 = .ok (.iload_n 2, 1) := by decide +kernel
theorem dX2_year_153 : decode cX2_year 153 = .ok (.iaload, 1) := by decide +kernel
theorem dX2_year_154 : decode cX2_year 154 = .ok (.aload_n 1, 1) := by decide +kernel
theorem dX2_year_155 : decode cX2_year 155 = .ok (.getfield 61, 3) := by decide +kernel
theorem dX2_year_158 : decode cX2_year 158 = .ok (.iload_n 2, 1) := by decide +kernel
theorem dX2_year_159 : decode cX2_year 159 = .ok (.iaload, 1) := by decide +kernel
theorem dX2_year_160 : decode cX2_year 160 = .ok (.aload_n 1, 1) := by decide +kernel
theorem dX2_year_161 : decode cX2_year 161 = .ok (.getfield 64, 3) := by decide +kernel
theorem dX2_year_164 : decode cX2_year 164 = .ok (.iload_n 2, 1) := by decide +kernel
theorem dX2_year_165 : decode cX2_year 165 = .ok (.iaload, 1) := by decide +kernel
theorem dX2_year_166 : decode cX2_year 166 = .ok (.bipush (-2), 2) := by decide +kernel
theorem dX2_year_168 : decode cX2_year 168 = .ok (.if_icmp .eq 7, 3) := by decide +kernel
theorem dX2_year_171 : decode cX2_year 171 = .ok (.iconst 1, 1) := by decide +kernel
theorem dX2_year_172 : decode cX2_year 172 = .ok (.goto 4, 3) := by decide +kernel
theorem dX2_year_175 : decode cX2_year 175 = .ok (.iconst 0, 1) := by decide +kernel
theorem dX2_year_176 : decode cX2_year 176 = .ok (.invokevirtual 67, 3) := by decide +kernel
theorem dX2_year_179 : decode cX2_year 179 = .ok (.if_icmp .ge 13, 3) := by decide +kernel
theorem dX2_year_182 : decode cX2_year 182 = .ok (.aload_n 1, 1) := by decide +kernel
theorem dX2_year_183 : decode cX2_year 183 = .ok (.getfield 45, 3) := by decide +kernel
theorem dX2_year_186 : decode cX2_year 186 = .ok (.iload_n 2, 1) := by decide +kernel
theorem dX2_year_187 : decode cX2_year 187 = .ok (.dup2, 1) := by decide +kernel
theorem dX2_year_188 : decode cX2_year 188 = .ok (.iaload, 1) := by decide +kernel
theorem dX2_year_189 : decode cX2_year 189 = .ok (.iconst 1, 1) := by decide +kernel
theorem dX2_year_190 : decode cX2_year 190 = .ok (.isub, 1) := by decide +kernel
theorem dX2_year_191 : decode cX2_year 191 = .ok (.iastore, 1) := by decide +kernel
theorem dX2_year_192 : decode cX2_year 192 = .ok (.iinc 2 1, 3) := by decide +kernel
theorem dX2_year_195 : decode cX2_year 195 = .ok (.goto (-88), 3) := by decide +kernel
theorem dX2_year_198 : decode cX2_year 198 = .ok (.iconst 0, 1) := by decide +kernel
theorem dX2_year_199 : decode cX2_year 199 = .ok (.istore_n 2, 1) := by decide +kernel
theorem dX2_year_200 : decode cX2_year 200 = .ok (.iconst 0, 1) := by decide +kernel
theorem dX2_year_201 : decode cX2_year 201 = .ok (.istore_n 3, 1) := by decide +kernel
theorem dX2_year_202 : decode cX2_year 202 = .ok (.iload_n 3, 1) := by decide +kernel
theorem dX2_year_203 : decode cX2_year 203 = .ok (.aload_n 0, 1) := by decide +kernel
theorem dX2_year_204 : decode cX2_year 204 = .ok (.getfield 9, 3) := by decide +kernel
theorem dX2_year_207 : decode cX2_year 207 = .ok (.getfield 27, 3) := by decide +kernel
theorem dX2_year_210 : decode cX2_year 210 = .ok (.if_icmp .ge 83, 3) := by decide +kernel
theorem dX2_year_213 : decode cX2_year 213 = .ok (.aload_n 1, 1) := by decide +kernel
theorem dX2_year_214 : decode cX2_year 214 = .ok (.getfield 45, 3) := by decide +kernel
theorem dX2_year_217 : decode cX2_year 217 = .ok (.iload_n 3, 1) := by decide +kernel
theorem dX2_year_218 : decode cX2_year 218 = .ok (.iaload, 1) := by decide +kernel
theorem dX2_year_219 : decode cX2_year 219 = .ok (.ifCond .gt 15, 3) := by decide +kernel
theorem dX2_year_222 : decode cX2_year 222 = .ok (.aload_n 0, 1) := by decide +kernel
theorem dX2_year_223 : decode cX2_year 223 = .ok (.aload_n 1, 1) := by decide +kernel
theorem dX2_year_224 : decode cX2_year 224 = .ok (.iload_n 3, 1) := by decide +kernel
theorem dX2_year_225 : decode cX2_year 225 = .ok (.invokevirtual 73, 3) := by decide +kernel
theorem dX2_year_228 : decode cX2_year 228 = .ok (.iinc 2 1, 3) := by decide +kernel
theorem dX2_year_231 : decode cX2_year 231 = .ok (.goto 56, 3) := by decide +kernel
theorem dX2_year_234 : decode cX2_year 234 = .ok (.aload_n 1, 1) := by decide +kernel
theorem dX2_year_235 : decode cX2_year 235 = .ok (.getfield 77, 3) := by decide +kernel
theorem dX2_year_238 : decode cX2_year 238 = .ok (.aload_n 0, 1) := by decide +kernel
theorem dX2_year_239 : decode cX2_year 239 = .ok (.getfield 9, 3) := by decide +kernel
theorem dX2_year_242 : decode cX2_year 242 = .ok (.getfield 32, 3) := by decide +kernel
theorem dX2_year_245 : decode cX2_year 245 = .ok (.iload_n 3, 1) := by decide +kernel
theorem dX2_year_246 : decode cX2_year 246 = .ok (.iaload, 1) := by decide +kernel
theorem dX2_year_247 : decode cX2_year 247 = .ok (.dup2, 1) := by decide +kernel
theorem dX2_year_248 : decode cX2_year 248 = .ok (.iaload, 1) := by decide +kernel
theorem dX2_year_249 : decode cX2_year 249 = .ok (.aload_n 0, 1) := by decide +kernel
theorem dX2_year_250 : decode cX2_year 250 = .ok (.getfield 9, 3) := by decide +kernel
theorem dX2_year_253 : decode cX2_year 253 = .ok (.getfield 80, 3) := by decide +kernel
theorem dX2_year_256 : decode cX2_year 256 = .ok (.iload_n 3, 1) := by decide +kernel
theorem dX2_year_257 : decode cX2_year 257 = .ok (.iaload, 1) := by decide +kernel
theorem dX2_year_258 : decode cX2_year 258 = .ok (.iadd, 1) := by decide +kernel
theorem dX2_year_259 : decode cX2_year 259 = .ok (.iastore, 1) := by decide +kernel
theorem dX2_year_260 : decode cX2_year 260 = .ok (.aload_n 1, 1) := by decide +kernel
theorem dX2_year_261 : decode cX2_year 261 = .ok (.getfield 61, 3) := by decide +kernel
theorem dX2_year_264 : decode cX2_year 264 = .ok (.iload_n 3, 1) := by decide +kernel
theorem dX2_year_265 : decode cX2_year 265 = .ok (.aload_n 1, 1) := by decide +kernel
theorem dX2_year_266 : decode cX2_year 266 = .ok (.getfield 61, 3) := by decide +kernel
theorem dX2_year_269 : decode cX2_year 269 = .ok (.iload_n 3, 1) := by decide +kernel
theorem dX2_year_270 : decode cX2_year 270 = .ok (.iaload, 1) := by decide +kernel
theorem dX2_year_271 : decode cX2_year 271 = .ok (.iconst 1, 1) := by decide +kernel
theorem dX2_year_272 : decode cX2_year 272 = .ok (.iadd, 1) := by decide +kernel
theorem dX2_year_273 : decode cX2_year 273 = .ok (.bipush 99, 2) := by decide +kernel
theorem dX2_year_275 : decode cX2_year 275 = .ok (.invokestatic 83, 3) := by decide +kernel
theorem dX2_year_278 : decode cX2_year 278 = .ok (.iastore, 1) := by decide +kernel
theorem dX2_year_279 : decode cX2_year 279 = .ok (.aload_n 1, 1) := by decide +kernel
theorem dX2_year_280 : decode cX2_year 280 = .ok (.getfield 89, 3) := by decide +kernel
theorem dX2_year_283 : decode cX2_year 283 = .ok (.iload_n 3, 1) := by decide +kernel
theorem dX2_year_284 : decode cX2_year 284 = .ok (.bipush (-2), 2) := by decide +kernel
theorem dX2_year_286 : decode cX2_year 286 = .ok (.iastore, 1) := by decide +kernel
theorem dX2_year_287 : decode cX2_year 287 = .ok (.iinc 3 1, 3) := by decide +kernel
theorem dX2_year_290 : decode cX2_year 290 = .ok (.goto (-88), 3) := by decide +kernel
theorem dX2_year_293 : decode cX2_year 293 = .ok (.aload_n 1, 1) := by decide +kernel
theorem dX2_year_294 : decode cX2_year 294 = .ok (.dup, 1) := by decide +kernel
theorem dX2_year_295 : decode cX2_year 295 = .ok (.getfield 92, 3) := by decide +kernel
theorem dX2_year_298 : decode cX2_year 298 = .ok (.aload_n 0, 1) := by decide +kernel
theorem dX2_year_299 : decode cX2_year 299 = .ok (.getfield 9, 3) := by decide +kernel
theorem dX2_year_302 : decode cX2_year 302 = .ok (.getfield 27, 3) := by decide +kernel
theorem dX2_year_305 : decode cX2_year 305 = .ok (.iload_n 2, 1) := by decide +kernel
theorem dX2_year_306 : decode cX2_year 306 = .ok (.isub, 1) := by decide +kernel
theorem dX2_year_307 : decode cX2_year 307 = .ok (.iadd, 1) := by decide +kernel
theorem dX2_year_308 : decode cX2_year 308 = .ok (.putfield 92, 3) := by decide +kernel
theorem dX2_year_311 : decode cX2_year 311 = .ok (.aload_n 1, 1) := by decide +kernel
theorem dX2_year_312 : decode cX2_year 312 = .ok (.dup, 1) := by decide +kernel
theorem dX2_year_313 : decode cX2_year 313 = .ok (.getfield 95, 3) := by decide +kernel
theorem dX2_year_316 : decode cX2_year 316 = .ok (.iload_n 2, 1) := by decide +kernel
theorem dX2_year_317 : decode cX2_year 317 = .ok (.iadd, 1) := by decide +kernel
theorem dX2_year_318 : decode cX2_year 318 = .ok (.putfield 95, 3) := by decide +kernel
theorem dX2_year_321 : decode cX2_year 321 = .ok (.iload_n 2, 1) := by decide +kernel
theorem dX2_year_322 : decode cX2_year 322 = .ok (.ireturn, 1) := by decide +kernel
theorem dX2_breaks_0 : decode cX2_breaks 0 = .ok (.aload_n 0, 1) := by decide +kernel
theorem dX2_breaks_1 : decode cX2_breaks 1 = .ok (.getfield 9, 3) := by decide +kernel
theorem dX2_breaks_4 : decode cX2_breaks 4 = .ok (.getfield 98, 3) := by decide +kernel
theorem dX2_breaks_7 : decode cX2_breaks 7 = .ok (.iload_n 2, 1) := by decide +kernel
theorem dX2_breaks_8 : decode cX2_breaks 8 = .ok (.iaload, 1) := by decide +kernel
theorem dX2_breaks_9 : decode cX2_breaks 9 = .ok (.istore_n 3, 1) := by decide +kernel
theorem dX2_breaks_10 : decode cX2_breaks 10 = .ok (.iload_n 3, 1) := by decide +kernel
theorem dX2_breaks_11 : decode cX2_breaks 11 = .ok (.iload_n 2, 1) := by decide +kernel
theorem dX2_breaks_12 : decode cX2_breaks 12 = .ok (.if_icmp .eq 34, 3) := by decide +kernel
theorem dX2_breaks_15 : decode cX2_breaks 15 = .ok (.aload_n 0, 1) := by decide +kernel
theorem dX2_breaks_16 : decode cX2_breaks 16 = .ok (.getfield 9, 3) := by decide +kernel
theorem dX2_breaks_19 : decode cX2_breaks 19 = .ok (.iload_n 3, 1) := by decide +kernel
theorem dX2_breaks_20 : decode cX2_breaks 20 = .ok (.invokevirtual 101, 3) := by decide +kernel
theorem dX2_breaks_23 : decode cX2_breaks 23 = .ok (.ifCond .eq 23, 3) := by decide +kernel
theorem dX2_breaks_26 : decode cX2_breaks 26 = .ok (.aload_n 1, 1) := by decide +kernel
theorem dX2_breaks_27 : decode cX2_breaks 27 = .ok (.getfield 45, 3) := by decide +kernel
theorem dX2_breaks_30 : decode cX2_breaks 30 = .ok (.iload_n 3, 1) := by decide +kernel
theorem dX2_breaks_31 : decode cX2_breaks 31 = .ok (.iaload, 1) := by decide +kernel
theorem dX2_breaks_32 : decode cX2_breaks 32 = .ok (.iconst 1, 1) := by decide +kernel
theorem dX2_breaks_33 : decode cX2_breaks 33 = .ok (.if_icmp .le 13, 3) := by decide +kernel
theorem dX2_breaks_36 : decode cX2_breaks 36 = .ok (.aload_n 1, 1) := by decide +kernel
theorem dX2_breaks_37 : decode cX2_breaks 37 = .ok (.getfield 45, 3) := by decide +kernel
theorem dX2_breaks_40 : decode cX2_breaks 40 = .ok (.iload_n 3, 1) := by decide +kernel
theorem dX2_breaks_41 : decode cX2_breaks 41 = .ok (.dup2, 1) := by decide +kernel
theorem dX2_breaks_42 : decode cX2_breaks 42 = .ok (.iaload, 1) := by decide +kernel
theorem dX2_breaks_43 : decode cX2_breaks 43 = .ok (.iconst 1, 1) := by decide +kernel
theorem dX2_breaks_44 : decode cX2_breaks 44 = .ok (.isub, 1) := by decide +kernel
theorem dX2_breaks_45 : decode cX2_breaks 45 = .ok (.iastore, 1) := by decide +kernel
theorem dX2_breaks_46 : decode cX2_breaks 46 = .ok (.aload_n 0, 1) := by decide +kernel
theorem dX2_breaks_47 : decode cX2_breaks 47 = .ok (.aload_n 1, 1) := by decide +kernel
theorem dX2_breaks_48 : decode cX2_breaks 48 = .ok (.iload_n 2, 1) := by decide +kernel
theorem dX2_breaks_49 : decode cX2_breaks 49 = .ok (.invokevirtual 105, 3) := by decide +kernel
theorem dX2_breaks_52 : decode cX2_breaks 52 = .ok (.aload_n 1, 1) := by decide +kernel
theorem dX2_breaks_53 : decode cX2_breaks 53 = .ok (.iload_n 2, 1) := by decide +kernel
theorem dX2_breaks_54 : decode cX2_breaks 54 = .ok (.invokevirtual 108, 3) := by decide +kernel
theorem dX2_breaks_57 : decode cX2_breaks 57 = .ok (.return_, 1) := by decide +kernel
theorem dX2_bills_0 : decode cX2_bills 0 = .ok (.aload_n 1, 1) := by decide +kernel
theorem dX2_bills_1 : decode cX2_bills 1 = .ok (.getfield 64, 3) := by decide +kernel
theorem dX2_bills_4 : decode cX2_bills 4 = .ok (.iload_n 2, 1) := by decide +kernel
theorem dX2_bills_5 : decode cX2_bills 5 = .ok (.iaload, 1) := by decide +kernel
theorem dX2_bills_6 : decode cX2_bills 6 = .ok (.istore_n 3, 1) := by decide +kernel
theorem dX2_bills_7 : decode cX2_bills 7 = .ok (.aload_n 1, 1) := by decide +kernel
theorem dX2_bills_8 : decode cX2_bills 8 = .ok (.getfield 112, 3) := by decide +kernel
theorem dX2_bills_11 : decode cX2_bills 11 = .ok (.iload_n 2, 1) := by decide +kernel
theorem dX2_bills_12 : decode cX2_bills 12 = .ok (.iaload, 1) := by decide +kernel
theorem dX2_bills_13 : decode cX2_bills 13 = .ok (.istore 4, 2) := by decide +kernel
theorem dX2_bills_15 : decode cX2_bills 15 = .ok (.aload_n 0, 1) := by decide +kernel
theorem dX2_bills_16 : decode cX2_bills 16 = .ok (.getfield 9, 3) := by decide +kernel
theorem dX2_bills_19 : decode cX2_bills 19 = .ok (.getfield 115, 3) := by decide +kernel
theorem dX2_bills_22 : decode cX2_bills 22 = .ok (.iload_n 2, 1) := by decide +kernel
theorem dX2_bills_23 : decode cX2_bills 23 = .ok (.iaload, 1) := by decide +kernel
theorem dX2_bills_24 : decode cX2_bills 24 = .ok (.istore 5, 2) := by decide +kernel
theorem dX2_bills_26 : decode cX2_bills 26 = .ok (.iload_n 3, 1) := by decide +kernel
theorem dX2_bills_27 : decode cX2_bills 27 = .ok (.bipush (-2), 2) := by decide +kernel
theorem dX2_bills_29 : decode cX2_bills 29 = .ok (.if_icmp .eq 19, 3) := by decide +kernel
theorem dX2_bills_32 : decode cX2_bills 32 = .ok (.aload_n 0, 1) := by decide +kernel
theorem dX2_bills_33 : decode cX2_bills 33 = .ok (.getfield 9, 3) := by decide +kernel
theorem dX2_bills_36 : decode cX2_bills 36 = .ok (.aload_n 1, 1) := by decide +kernel
theorem dX2_bills_37 : decode cX2_bills 37 = .ok (.getfield 61, 3) := by decide +kernel
theorem dX2_bills_40 : decode cX2_bills 40 = .ok (.iload_n 2, 1) := by decide +kernel
theorem dX2_bills_41 : decode cX2_bills 41 = .ok (.iaload, 1) := by decide +kernel
theorem dX2_bills_42 : decode cX2_bills 42 = .ok (.invokevirtual 118, 3) := by decide +kernel
theorem dX2_bills_45 : decode cX2_bills 45 = .ok (.ifCond .eq 34, 3) := by decide +kernel
theorem dX2_bills_48 : decode cX2_bills 48 = .ok (.aload_n 1, 1) := by decide +kernel
theorem dX2_bills_49 : decode cX2_bills 49 = .ok (.getfield 89, 3) := by decide +kernel
theorem dX2_bills_52 : decode cX2_bills 52 = .ok (.iload_n 2, 1) := by decide +kernel
theorem dX2_bills_53 : decode cX2_bills 53 = .ok (.aload_n 0, 1) := by decide +kernel
theorem dX2_bills_54 : decode cX2_bills 54 = .ok (.getfield 9, 3) := by decide +kernel
theorem dX2_bills_57 : decode cX2_bills 57 = .ok (.getfield 32, 3) := by decide +kernel
theorem dX2_bills_60 : decode cX2_bills 60 = .ok (.iload_n 2, 1) := by decide +kernel
theorem dX2_bills_61 : decode cX2_bills 61 = .ok (.iaload, 1) := by decide +kernel
theorem dX2_bills_62 : decode cX2_bills 62 = .ok (.iastore, 1) := by decide +kernel
theorem dX2_bills_63 : decode cX2_bills 63 = .ok (.aload_n 1, 1) := by decide +kernel
theorem dX2_bills_64 : decode cX2_bills 64 = .ok (.aload_n 0, 1) := by decide +kernel
theorem dX2_bills_65 : decode cX2_bills 65 = .ok (.getfield 9, 3) := by decide +kernel
theorem dX2_bills_68 : decode cX2_bills 68 = .ok (.getfield 32, 3) := by decide +kernel
theorem dX2_bills_71 : decode cX2_bills 71 = .ok (.iload_n 2, 1) := by decide +kernel
theorem dX2_bills_72 : decode cX2_bills 72 = .ok (.iaload, 1) := by decide +kernel
theorem dX2_bills_73 : decode cX2_bills 73 = .ok (.iload 5, 2) := by decide +kernel
theorem dX2_bills_75 : decode cX2_bills 75 = .ok (.invokevirtual 121, 3) := by decide +kernel
theorem dX2_bills_78 : decode cX2_bills 78 = .ok (.return_, 1) := by decide +kernel
theorem dX2_bills_79 : decode cX2_bills 79 = .ok (.aload_n 0, 1) := by decide +kernel
theorem dX2_bills_80 : decode cX2_bills 80 = .ok (.getfield 9, 3) := by decide +kernel
theorem dX2_bills_83 : decode cX2_bills 83 = .ok (.getfield 125, 3) := by decide +kernel
theorem dX2_bills_86 : decode cX2_bills 86 = .ok (.iconst 1, 1) := by decide +kernel
theorem dX2_bills_87 : decode cX2_bills 87 = .ok (.if_icmp .ne 17, 3) := by decide +kernel
theorem dX2_bills_90 : decode cX2_bills 90 = .ok (.iload 4, 2) := by decide +kernel
theorem dX2_bills_92 : decode cX2_bills 92 = .ok (.bipush (-2), 2) := by decide +kernel
theorem dX2_bills_94 : decode cX2_bills 94 = .ok (.if_icmp .eq 10, 3) := by decide +kernel
theorem dX2_bills_97 : decode cX2_bills 97 = .ok (.iload 5, 2) := by decide +kernel
theorem dX2_bills_99 : decode cX2_bills 99 = .ok (.iconst 2, 1) := by decide +kernel
theorem dX2_bills_100 : decode cX2_bills 100 = .ok (.idiv, 1) := by decide +kernel
theorem dX2_bills_101 : decode cX2_bills 101 = .ok (.goto 4, 3) := by decide +kernel
theorem dX2_bills_104 : decode cX2_bills 104 = .ok (.iconst 0, 1) := by decide +kernel
theorem dX2_bills_105 : decode cX2_bills 105 = .ok (.istore 6, 2) := by decide +kernel
theorem dX2_bills_107 : decode cX2_bills 107 = .ok (.iload 6, 2) := by decide +kernel
theorem dX2_bills_109 : decode cX2_bills 109 = .ok (.ifCond .le 11, 3) := by decide +kernel
theorem dX2_bills_112 : decode cX2_bills 112 = .ok (.aload_n 1, 1) := by decide +kernel
theorem dX2_bills_113 : decode cX2_bills 113 = .ok (.iload 4, 2) := by decide +kernel
theorem dX2_bills_115 : decode cX2_bills 115 = .ok (.iload 6, 2) := by decide +kernel
theorem dX2_bills_117 : decode cX2_bills 117 = .ok (.invokevirtual 121, 3) := by decide +kernel
theorem dX2_bills_120 : decode cX2_bills 120 = .ok (.aload_n 1, 1) := by decide +kernel
theorem dX2_bills_121 : decode cX2_bills 121 = .ok (.iload_n 3, 1) := by decide +kernel
theorem dX2_bills_122 : decode cX2_bills 122 = .ok (.iload 5, 2) := by decide +kernel
theorem dX2_bills_124 : decode cX2_bills 124 = .ok (.iload 6, 2) := by decide +kernel
theorem dX2_bills_126 : decode cX2_bills 126 = .ok (.isub, 1) := by decide +kernel
theorem dX2_bills_127 : decode cX2_bills 127 = .ok (.invokevirtual 121, 3) := by decide +kernel
theorem dX2_bills_130 : decode cX2_bills 130 = .ok (.aload_n 1, 1) := by decide +kernel
theorem dX2_bills_131 : decode cX2_bills 131 = .ok (.getfield 89, 3) := by decide +kernel
theorem dX2_bills_134 : decode cX2_bills 134 = .ok (.iload_n 2, 1) := by decide +kernel
theorem dX2_bills_135 : decode cX2_bills 135 = .ok (.iload_n 3, 1) := by decide +kernel
theorem dX2_bills_136 : decode cX2_bills 136 = .ok (.iastore, 1) := by decide +kernel
theorem dX2_bills_137 : decode cX2_bills 137 = .ok (.return_, 1) := by decide +kernel
theorem dX3_init_0 : decode cX3_init 0 = .ok (.aload_n 0, 1) := by decide +kernel
theorem dX3_init_1 : decode cX3_init 1 = .ok (.invokespecial 3, 3) := by decide +kernel
theorem dX3_init_4 : decode cX3_init 4 = .ok (.aload_n 0, 1) := by decide +kernel
theorem dX3_init_5 : decode cX3_init 5 = .ok (.iconst 1, 1) := by decide +kernel
theorem dX3_init_6 : decode cX3_init 6 = .ok (.putfield 9, 3) := by decide +kernel
theorem dX3_init_9 : decode cX3_init 9 = .ok (.aload_n 0, 1) := by decide +kernel
theorem dX3_init_10 : decode cX3_init 10 = .ok (.iconst 5, 1) := by decide +kernel
theorem dX3_init_11 : decode cX3_init 11 = .ok (.newarray .int, 2) := by decide +kernel
theorem dX3_init_13 : decode cX3_init 13 = .ok (.putfield 15, 3) := by decide +kernel
theorem dX3_init_16 : decode cX3_init 16 = .ok (.aload_n 0, 1) := by decide +kernel
theorem dX3_init_17 : decode cX3_init 17 = .ok (.iconst 5, 1) := by decide +kernel
theorem dX3_init_18 : decode cX3_init 18 = .ok (.newarray .int, 2) := by decide +kernel
theorem dX3_init_20 : decode cX3_init 20 = .ok (.putfield 19, 3) := by decide +kernel
theorem dX3_init_23 : decode cX3_init 23 = .ok (.aload_n 0, 1) := by decide +kernel
theorem dX3_init_24 : decode cX3_init 24 = .ok (.iconst 5, 1) := by decide +kernel
theorem dX3_init_25 : decode cX3_init 25 = .ok (.newarray .int, 2) := by decide +kernel
theorem dX3_init_27 : decode cX3_init 27 = .ok (.putfield 22, 3) := by decide +kernel
theorem dX3_init_30 : decode cX3_init 30 = .ok (.aload_n 0, 1) := by decide +kernel
theorem dX3_init_31 : decode cX3_init 31 = .ok (.bipush 6, 2) := by decide +kernel
theorem dX3_init_33 : decode cX3_init 33 = .ok (.newarray .int, 2) := by decide +kernel
theorem dX3_init_35 : decode cX3_init 35 = .ok (.putfield 25, 3) := by decide +kernel
theorem dX3_init_38 : decode cX3_init 38 = .ok (.aload_n 0, 1) := by decide +kernel
theorem dX3_init_39 : decode cX3_init 39 = .ok (.bipush 6, 2) := by decide +kernel
theorem dX3_init_41 : decode cX3_init 41 = .ok (.newarray .int, 2) := by decide +kernel
theorem dX3_init_43 : decode cX3_init 43 = .ok (.putfield 28, 3) := by decide +kernel
theorem dX3_init_46 : decode cX3_init 46 = .ok (.aload_n 0, 1) := by decide +kernel
theorem dX3_init_47 : decode cX3_init 47 = .ok (.bipush 6, 2) := by decide +kernel
theorem dX3_init_49 : decode cX3_init 49 = .ok (.newarray .int, 2) := by decide +kernel
theorem dX3_init_51 : decode cX3_init 51 = .ok (.putfield 31, 3) := by decide +kernel
theorem dX3_init_54 : decode cX3_init 54 = .ok (.aload_n 0, 1) := by decide +kernel
theorem dX3_init_55 : decode cX3_init 55 = .ok (.bipush 6, 2) := by decide +kernel
theorem dX3_init_57 : decode cX3_init 57 = .ok (.newarray .int, 2) := by decide +kernel
theorem dX3_init_59 : decode cX3_init 59 = .ok (.putfield 34, 3) := by decide +kernel
theorem dX3_init_62 : decode cX3_init 62 = .ok (.return_, 1) := by decide +kernel
theorem dX3_hasPerson_0 : decode cX3_hasPerson 0 = .ok (.iload_n 1, 1) := by decide +kernel
theorem dX3_hasPerson_1 : decode cX3_hasPerson 1 = .ok (.ifCond .lt 15, 3) := by decide +kernel
theorem dX3_hasPerson_4 : decode cX3_hasPerson 4 = .ok (.iload_n 1, 1) := by decide +kernel
theorem dX3_hasPerson_5 : decode cX3_hasPerson 5 = .ok (.aload_n 0, 1) := by decide +kernel
theorem dX3_hasPerson_6 : decode cX3_hasPerson 6 = .ok (.getfield 37, 3) := by decide +kernel
theorem dX3_hasPerson_9 : decode cX3_hasPerson 9 = .ok (.if_icmp .ge 7, 3) := by decide +kernel
theorem dX3_hasPerson_12 : decode cX3_hasPerson 12 = .ok (.iconst 1, 1) := by decide +kernel
theorem dX3_hasPerson_13 : decode cX3_hasPerson 13 = .ok (.goto 4, 3) := by decide +kernel
theorem dX3_hasPerson_16 : decode cX3_hasPerson 16 = .ok (.iconst 0, 1) := by decide +kernel
theorem dX3_hasPerson_17 : decode cX3_hasPerson 17 = .ok (.ireturn, 1) := by decide +kernel
theorem dX3_hasThing_0 : decode cX3_hasThing 0 = .ok (.iload_n 1, 1) := by decide +kernel
theorem dX3_hasThing_1 : decode cX3_hasThing 1 = .ok (.ifCond .lt 15, 3) := by decide +kernel
theorem dX3_hasThing_4 : decode cX3_hasThing 4 = .ok (.iload_n 1, 1) := by decide +kernel
theorem dX3_hasThing_5 : decode cX3_hasThing 5 = .ok (.aload_n 0, 1) := by decide +kernel
theorem dX3_hasThing_6 : decode cX3_hasThing 6 = .ok (.getfield 40, 3) := by decide +kernel
theorem dX3_hasThing_9 : decode cX3_hasThing 9 = .ok (.if_icmp .ge 7, 3) := by decide +kernel
theorem dX3_hasThing_12 : decode cX3_hasThing 12 = .ok (.iconst 1, 1) := by decide +kernel
theorem dX3_hasThing_13 : decode cX3_hasThing 13 = .ok (.goto 4, 3) := by decide +kernel
theorem dX3_hasThing_16 : decode cX3_hasThing 16 = .ok (.iconst 0, 1) := by decide +kernel
theorem dX3_hasThing_17 : decode cX3_hasThing 17 = .ok (.ireturn, 1) := by decide +kernel
theorem dX3_addPerson_0 : decode cX3_addPerson 0 = .ok (.aload_n 0, 1) := by decide +kernel
theorem dX3_addPerson_1 : decode cX3_addPerson 1 = .ok (.getfield 15, 3) := by decide +kernel
theorem dX3_addPerson_4 : decode cX3_addPerson 4 = .ok (.aload_n 0, 1) := by decide +kernel
theorem dX3_addPerson_5 : decode cX3_addPerson 5 = .ok (.getfield 37, 3) := by decide +kernel
theorem dX3_addPerson_8 : decode cX3_addPerson 8 = .ok (.iload_n 1, 1) := by decide +kernel
theorem dX3_addPerson_9 : decode cX3_addPerson 9 = .ok (.iastore, 1) := by decide +kernel
theorem dX3_addPerson_10 : decode cX3_addPerson 10 = .ok (.aload_n 0, 1) := by decide +kernel
theorem dX3_addPerson_11 : decode cX3_addPerson 11 = .ok (.getfield 19, 3) := by decide +kernel
theorem dX3_addPerson_14 : decode cX3_addPerson 14 = .ok (.aload_n 0, 1) := by decide +kernel
theorem dX3_addPerson_15 : decode cX3_addPerson 15 = .ok (.getfield 37, 3) := by decide +kernel
theorem dX3_addPerson_18 : decode cX3_addPerson 18 = .ok (.iload_n 2, 1) := by decide +kernel
theorem dX3_addPerson_19 : decode cX3_addPerson 19 = .ok (.iastore, 1) := by decide +kernel
theorem dX3_addPerson_20 : decode cX3_addPerson 20 = .ok (.aload_n 0, 1) := by decide +kernel
theorem dX3_addPerson_21 : decode cX3_addPerson 21 = .ok (.dup, 1) := by decide +kernel
theorem dX3_addPerson_22 : decode cX3_addPerson 22 = .ok (.getfield 37, 3) := by decide +kernel
theorem dX3_addPerson_25 : decode cX3_addPerson 25 = .ok (.dup_x1, 1) := by decide +kernel
theorem dX3_addPerson_26 : decode cX3_addPerson 26 = .ok (.iconst 1, 1) := by decide +kernel
theorem dX3_addPerson_27 : decode cX3_addPerson 27 = .ok (.iadd, 1) := by decide +kernel
theorem dX3_addPerson_28 : decode cX3_addPerson 28 = .ok (.putfield 37, 3) := by decide +kernel
theorem dX3_addPerson_31 : decode cX3_addPerson 31 = .ok (.ireturn, 1) := by decide +kernel
theorem dX3_addThing_0 : decode cX3_addThing 0 = .ok (.aload_n 0, 1) := by decide +kernel
theorem dX3_addThing_1 : decode cX3_addThing 1 = .ok (.getfield 25, 3) := by decide +kernel
theorem dX3_addThing_4 : decode cX3_addThing 4 = .ok (.aload_n 0, 1) := by decide +kernel
theorem dX3_addThing_5 : decode cX3_addThing 5 = .ok (.getfield 40, 3) := by decide +kernel
theorem dX3_addThing_8 : decode cX3_addThing 8 = .ok (.iload_n 1, 1) := by decide +kernel
theorem dX3_addThing_9 : decode cX3_addThing 9 = .ok (.iastore, 1) := by decide +kernel
theorem dX3_addThing_10 : decode cX3_addThing 10 = .ok (.aload_n 0, 1) := by decide +kernel
theorem dX3_addThing_11 : decode cX3_addThing 11 = .ok (.getfield 28, 3) := by decide +kernel
theorem dX3_addThing_14 : decode cX3_addThing 14 = .ok (.aload_n 0, 1) := by decide +kernel
theorem dX3_addThing_15 : decode cX3_addThing 15 = .ok (.getfield 40, 3) := by decide +kernel
theorem dX3_addThing_18 : decode cX3_addThing 18 = .ok (.iload_n 2, 1) := by decide +kernel
theorem dX3_addThing_19 : decode cX3_addThing 19 = .ok (.iastore, 1) := by decide +kernel
theorem dX3_addThing_20 : decode cX3_addThing 20 = .ok (.aload_n 0, 1) := by decide +kernel
theorem dX3_addThing_21 : decode cX3_addThing 21 = .ok (.getfield 31, 3) := by decide +kernel
theorem dX3_addThing_24 : decode cX3_addThing 24 = .ok (.aload_n 0, 1) := by decide +kernel
theorem dX3_addThing_25 : decode cX3_addThing 25 = .ok (.getfield 40, 3) := by decide +kernel
theorem dX3_addThing_28 : decode cX3_addThing 28 = .ok (.iload_n 3, 1) := by decide +kernel
theorem dX3_addThing_29 : decode cX3_addThing 29 = .ok (.iastore, 1) := by decide +kernel
theorem dX3_addThing_30 : decode cX3_addThing 30 = .ok (.aload_n 0, 1) := by decide +kernel
theorem dX3_addThing_31 : decode cX3_addThing 31 = .ok (.getfield 34, 3) := by decide +kernel
theorem dX3_addThing_34 : decode cX3_addThing 34 = .ok (.aload_n 0, 1) := by decide +kernel
theorem dX3_addThing_35 : decode cX3_addThing 35 = .ok (.getfield 40, 3) := by decide +kernel
theorem dX3_addThing_38 : decode cX3_addThing 38 = .ok (.aload_n 0, 1) := by decide +kernel
theorem dX3_addThing_39 : decode cX3_addThing 39 = .ok (.getfield 40, 3) := by decide +kernel
theorem dX3_addThing_42 : decode cX3_addThing 42 = .ok (.iastore, 1) := by decide +kernel
theorem dX3_addThing_43 : decode cX3_addThing 43 = .ok (.aload_n 0, 1) := by decide +kernel
theorem dX3_addThing_44 : decode cX3_addThing 44 = .ok (.dup, 1) := by decide +kernel
theorem dX3_addThing_45 : decode cX3_addThing 45 = .ok (.getfield 40, 3) := by decide +kernel
theorem dX3_addThing_48 : decode cX3_addThing 48 = .ok (.dup_x1, 1) := by decide +kernel
theorem dX3_addThing_49 : decode cX3_addThing 49 = .ok (.iconst 1, 1) := by decide +kernel
theorem dX3_addThing_50 : decode cX3_addThing 50 = .ok (.iadd, 1) := by decide +kernel
theorem dX3_addThing_51 : decode cX3_addThing 51 = .ok (.putfield 40, 3) := by decide +kernel
theorem dX3_addThing_54 : decode cX3_addThing 54 = .ok (.ireturn, 1) := by decide +kernel
theorem dX3_mayTell_0 : decode cX3_mayTell 0 = .ok (.iload_n 2, 1) := by decide +kernel
theorem dX3_mayTell_1 : decode cX3_mayTell 1 = .ok (.tableswitch 158 0 5 #[39, 63, 87, 110, 110, 134], 39) := by decide +kernel
theorem dX3_mayTell_40 : decode cX3_mayTell 40 = .ok (.aload_n 0, 1) := by decide +kernel
theorem dX3_mayTell_41 : decode cX3_mayTell 41 = .ok (.iload_n 1, 1) := by decide +kernel
theorem dX3_mayTell_42 : decode cX3_mayTell 42 = .ok (.invokevirtual 43, 3) := by decide +kernel
theorem dX3_mayTell_45 : decode cX3_mayTell 45 = .ok (.ifCond .eq 17, 3) := by decide +kernel
theorem dX3_mayTell_48 : decode cX3_mayTell 48 = .ok (.iload_n 3, 1) := by decide +kernel
theorem dX3_mayTell_49 : decode cX3_mayTell 49 = .ok (.iconst 1, 1) := by decide +kernel
theorem dX3_mayTell_50 : decode cX3_mayTell 50 = .ok (.if_icmp .lt 12, 3) := by decide +kernel
theorem dX3_mayTell_53 : decode cX3_mayTell 53 = .ok (.iload_n 3, 1) := by decide +kernel
theorem dX3_mayTell_54 : decode cX3_mayTell 54 = .ok (.iconst 3, 1) := by decide +kernel
theorem dX3_mayTell_55 : decode cX3_mayTell 55 = .ok (.if_icmp .gt 7, 3) := by decide +kernel
theorem dX3_mayTell_58 : decode cX3_mayTell 58 = .ok (.iconst 1, 1) := by decide +kernel
theorem dX3_mayTell_59 : decode cX3_mayTell 59 = .ok (.goto 4, 3) := by decide +kernel
theorem dX3_mayTell_62 : decode cX3_mayTell 62 = .ok (.iconst 0, 1) := by decide +kernel
theorem dX3_mayTell_63 : decode cX3_mayTell 63 = .ok (.ireturn, 1) := by decide +kernel
theorem dX3_mayTell_64 : decode cX3_mayTell 64 = .ok (.aload_n 0, 1) := by decide +kernel
theorem dX3_mayTell_65 : decode cX3_mayTell 65 = .ok (.iload_n 1, 1) := by decide +kernel
theorem dX3_mayTell_66 : decode cX3_mayTell 66 = .ok (.invokevirtual 43, 3) := by decide +kernel
theorem dX3_mayTell_69 : decode cX3_mayTell 69 = .ok (.ifCond .eq 17, 3) := by decide +kernel
theorem dX3_mayTell_72 : decode cX3_mayTell 72 = .ok (.iload_n 3, 1) := by decide +kernel
theorem dX3_mayTell_73 : decode cX3_mayTell 73 = .ok (.ifCond .lt 13, 3) := by decide +kernel
theorem dX3_mayTell_76 : decode cX3_mayTell 76 = .ok (.iload_n 3, 1) := by decide +kernel
theorem dX3_mayTell_77 : decode cX3_mayTell 77 = .ok (.bipush 99, 2) := by decide +kernel
theorem dX3_mayTell_79 : decode cX3_mayTell 79 = .ok (.if_icmp .gt 7, 3) := by decide +kernel
theorem dX3_mayTell_82 : decode cX3_mayTell 82 = .ok (.iconst 1, 1) := by decide +kernel
theorem dX3_mayTell_83 : decode cX3_mayTell 83 = .ok (.goto 4, 3) := by decide +kernel
theorem dX3_mayTell_86 : decode cX3_mayTell 86 = .ok (.iconst 0, 1) := by decide +kernel
theorem dX3_mayTell_87 : decode cX3_mayTell 87 = .ok (.ireturn, 1) := by decide +kernel
theorem dX3_mayTell_88 : decode cX3_mayTell 88 = .ok (.aload_n 0, 1) := by decide +kernel
theorem dX3_mayTell_89 : decode cX3_mayTell 89 = .ok (.iload_n 1, 1) := by decide +kernel
theorem dX3_mayTell_90 : decode cX3_mayTell 90 = .ok (.invokevirtual 43, 3) := by decide +kernel
theorem dX3_mayTell_93 : decode cX3_mayTell 93 = .ok (.ifCond .eq 16, 3) := by decide +kernel
theorem dX3_mayTell_96 : decode cX3_mayTell 96 = .ok (.iload_n 3, 1) := by decide +kernel
theorem dX3_mayTell_97 : decode cX3_mayTell 97 = .ok (.ifCond .lt 12, 3) := by decide +kernel
theorem dX3_mayTell_100 : decode cX3_mayTell 100 = .ok (.iload_n 3, 1) := by decide +kernel
theorem dX3_mayTell_101 : decode cX3_mayTell 101 = .ok (.iconst 4, 1) := by decide +kernel
theorem dX3_mayTell_102 : decode cX3_mayTell 102 = .ok (.if_icmp .gt 7, 3) := by decide +kernel
theorem dX3_mayTell_105 : decode cX3_mayTell 105 = .ok (.iconst 1, 1) := by decide +kernel
theorem dX3_mayTell_106 : decode cX3_mayTell 106 = .ok (.goto 4, 3) := by decide +kernel
theorem dX3_mayTell_109 : decode cX3_mayTell 109 = .ok (.iconst 0, 1) := by decide +kernel
theorem dX3_mayTell_110 : decode cX3_mayTell 110 = .ok (.ireturn, 1) := by decide +kernel
theorem dX3_mayTell_111 : decode cX3_mayTell 111 = .ok (.aload_n 0, 1) := by decide +kernel
theorem dX3_mayTell_112 : decode cX3_mayTell 112 = .ok (.iload_n 1, 1) := by decide +kernel
theorem dX3_mayTell_113 : decode cX3_mayTell 113 = .ok (.invokevirtual 47, 3) := by decide +kernel
theorem dX3_mayTell_116 : decode cX3_mayTell 116 = .ok (.ifCond .eq 17, 3) := by decide +kernel
theorem dX3_mayTell_119 : decode cX3_mayTell 119 = .ok (.iload_n 3, 1) := by decide +kernel
theorem dX3_mayTell_120 : decode cX3_mayTell 120 = .ok (.ifCond .lt 13, 3) := by decide +kernel
theorem dX3_mayTell_123 : decode cX3_mayTell 123 = .ok (.iload_n 3, 1) := by decide +kernel
theorem dX3_mayTell_124 : decode cX3_mayTell 124 = .ok (.bipush 99, 2) := by decide +kernel
theorem dX3_mayTell_126 : decode cX3_mayTell 126 = .ok (.if_icmp .gt 7, 3) := by decide +kernel
theorem dX3_mayTell_129 : decode cX3_mayTell 129 = .ok (.iconst 1, 1) := by decide +kernel
theorem dX3_mayTell_130 : decode cX3_mayTell 130 = .ok (.goto 4, 3) := by decide +kernel
theorem dX3_mayTell_133 : decode cX3_mayTell 133 = .ok (.iconst 0, 1) := by decide +kernel
theorem dX3_mayTell_134 : decode cX3_mayTell 134 = .ok (.ireturn, 1) := by decide +kernel
theorem dX3_mayTell_135 : decode cX3_mayTell 135 = .ok (.aload_n 0, 1) := by decide +kernel
theorem dX3_mayTell_136 : decode cX3_mayTell 136 = .ok (.iload_n 1, 1) := by decide +kernel
theorem dX3_mayTell_137 : decode cX3_mayTell 137 = .ok (.invokevirtual 47, 3) := by decide +kernel
theorem dX3_mayTell_140 : decode cX3_mayTell 140 = .ok (.ifCond .eq 17, 3) := by decide +kernel
theorem dX3_mayTell_143 : decode cX3_mayTell 143 = .ok (.iload_n 3, 1) := by decide +kernel
theorem dX3_mayTell_144 : decode cX3_mayTell 144 = .ok (.ifCond .lt 13, 3) := by decide +kernel
theorem dX3_mayTell_147 : decode cX3_mayTell 147 = .ok (.iload_n 3, 1) := by decide +kernel
theorem dX3_mayTell_148 : decode cX3_mayTell 148 = .ok (.bipush 6, 2) := by decide +kernel
theorem dX3_mayTell_150 : decode cX3_mayTell 150 = .ok (.if_icmp .ge 7, 3) := by decide +kernel
theorem dX3_mayTell_153 : decode cX3_mayTell 153 = .ok (.iconst 1, 1) := by decide +kernel
theorem dX3_mayTell_154 : decode cX3_mayTell 154 = .ok (.goto 4, 3) := by decide +kernel
theorem dX3_mayTell_157 : decode cX3_mayTell 157 = .ok (.iconst 0, 1) := by decide +kernel
theorem dX3_mayTell_158 : decode cX3_mayTell 158 = .ok (.ireturn, 1) := by decide +kernel
theorem dX3_mayTell_159 : decode cX3_mayTell 159 = .ok (.iconst 0, 1) := by decide +kernel
theorem dX3_mayTell_160 : decode cX3_mayTell 160 = .ok (.ireturn, 1) := by decide +kernel
theorem dX3_tell_0 : decode cX3_tell 0 = .ok (.aload_n 0, 1) := by decide +kernel
theorem dX3_tell_1 : decode cX3_tell 1 = .ok (.iload_n 2, 1) := by decide +kernel
theorem dX3_tell_2 : decode cX3_tell 2 = .ok (.invokevirtual 50, 3) := by decide +kernel
theorem dX3_tell_5 : decode cX3_tell 5 = .ok (.astore 4, 2) := by decide +kernel
theorem dX3_tell_7 : decode cX3_tell 7 = .ok (.aload 4, 2) := by decide +kernel
theorem dX3_tell_9 : decode cX3_tell 9 = .ok (.iload_n 1, 1) := by decide +kernel
theorem dX3_tell_10 : decode cX3_tell 10 = .ok (.iaload, 1) := by decide +kernel
theorem dX3_tell_11 : decode cX3_tell 11 = .ok (.istore 5, 2) := by decide +kernel
theorem dX3_tell_13 : decode cX3_tell 13 = .ok (.aload 4, 2) := by decide +kernel
theorem dX3_tell_15 : decode cX3_tell 15 = .ok (.iload_n 1, 1) := by decide +kernel
theorem dX3_tell_16 : decode cX3_tell 16 = .ok (.iload_n 3, 1) := by decide +kernel
theorem dX3_tell_17 : decode cX3_tell 17 = .ok (.iastore, 1) := by decide +kernel
theorem dX3_tell_18 : decode cX3_tell 18 = .ok (.iload 5, 2) := by decide +kernel
theorem dX3_tell_20 : decode cX3_tell 20 = .ok (.iload_n 3, 1) := by decide +kernel
theorem dX3_tell_21 : decode cX3_tell 21 = .ok (.if_icmp .eq 13, 3) := by decide +kernel
theorem dX3_tell_24 : decode cX3_tell 24 = .ok (.aload_n 0, 1) := by decide +kernel
theorem dX3_tell_25 : decode cX3_tell 25 = .ok (.dup, 1) := by decide +kernel
theorem dX3_tell_26 : decode cX3_tell 26 = .ok (.getfield 9, 3) := by decide +kernel
theorem dX3_tell_29 : decode cX3_tell 29 = .ok (.iconst 1, 1) := by decide +kernel
theorem dX3_tell_30 : decode cX3_tell 30 = .ok (.iadd, 1) := by decide +kernel
theorem dX3_tell_31 : decode cX3_tell 31 = .ok (.putfield 9, 3) := by decide +kernel
theorem dX3_tell_34 : decode cX3_tell 34 = .ok (.iload 5, 2) := by decide +kernel
theorem dX3_tell_36 : decode cX3_tell 36 = .ok (.ireturn, 1) := by decide +kernel
theorem dX3_rowOf_0 : decode cX3_rowOf 0 = .ok (.iload_n 1, 1) := by decide +kernel
theorem dX3_rowOf_1 : decode cX3_rowOf 1 = .ok (.tableswitch 60 0 4 #[35, 40, 45, 50, 55], 35) := by decide +kernel
theorem dX3_rowOf_36 : decode cX3_rowOf 36 = .ok (.aload_n 0, 1) := by decide +kernel
theorem dX3_rowOf_37 : decode cX3_rowOf 37 = .ok (.getfield 15, 3) := by decide +kernel
theorem dX3_rowOf_40 : decode cX3_rowOf 40 = .ok (.areturn, 1) := by decide +kernel
theorem dX3_rowOf_41 : decode cX3_rowOf 41 = .ok (.aload_n 0, 1) := by decide +kernel
theorem dX3_rowOf_42 : decode cX3_rowOf 42 = .ok (.getfield 19, 3) := by decide +kernel
theorem dX3_rowOf_45 : decode cX3_rowOf 45 = .ok (.areturn, 1) := by decide +kernel
theorem dX3_rowOf_46 : decode cX3_rowOf 46 = .ok (.aload_n 0, 1) := by decide +kernel
theorem dX3_rowOf_47 : decode cX3_rowOf 47 = .ok (.getfield 22, 3) := by decide +kernel
theorem dX3_rowOf_50 : decode cX3_rowOf 50 = .ok (.areturn, 1) := by decide +kernel
theorem dX3_rowOf_51 : decode cX3_rowOf 51 = .ok (.aload_n 0, 1) := by decide +kernel
theorem dX3_rowOf_52 : decode cX3_rowOf 52 = .ok (.getfield 28, 3) := by decide +kernel
theorem dX3_rowOf_55 : decode cX3_rowOf 55 = .ok (.areturn, 1) := by decide +kernel
theorem dX3_rowOf_56 : decode cX3_rowOf 56 = .ok (.aload_n 0, 1) := by decide +kernel
theorem dX3_rowOf_57 : decode cX3_rowOf 57 = .ok (.getfield 31, 3) := by decide +kernel
theorem dX3_rowOf_60 : decode cX3_rowOf 60 = .ok (.areturn, 1) := by decide +kernel
theorem dX3_rowOf_61 : decode cX3_rowOf 61 = .ok (.aload_n 0, 1) := by decide +kernel
theorem dX3_rowOf_62 : decode cX3_rowOf 62 = .ok (.getfield 34, 3) := by decide +kernel
theorem dX3_rowOf_65 : decode cX3_rowOf 65 = .ok (.areturn, 1) := by decide +kernel
theorem dX3_isForgotten_0 : decode cX3_isForgotten 0 = .ok (.aload_n 0, 1) := by decide +kernel
theorem dX3_isForgotten_1 : decode cX3_isForgotten 1 = .ok (.getfield 54, 3) := by decide +kernel
theorem dX3_isForgotten_4 : decode cX3_isForgotten 4 = .ok (.ifCond .le 15, 3) := by decide +kernel
theorem dX3_isForgotten_7 : decode cX3_isForgotten 7 = .ok (.iload_n 1, 1) := by decide +kernel
theorem dX3_isForgotten_8 : decode cX3_isForgotten 8 = .ok (.aload_n 0, 1) := by decide +kernel
theorem dX3_isForgotten_9 : decode cX3_isForgotten 9 = .ok (.getfield 54, 3) := by decide +kernel
theorem dX3_isForgotten_12 : decode cX3_isForgotten 12 = .ok (.if_icmp .lt 7, 3) := by decide +kernel
theorem dX3_isForgotten_15 : decode cX3_isForgotten 15 = .ok (.iconst 1, 1) := by decide +kernel
theorem dX3_isForgotten_16 : decode cX3_isForgotten 16 = .ok (.goto 4, 3) := by decide +kernel
theorem dX3_isForgotten_19 : decode cX3_isForgotten 19 = .ok (.iconst 0, 1) := by decide +kernel
theorem dX3_isForgotten_20 : decode cX3_isForgotten 20 = .ok (.ireturn, 1) := by decide +kernel
theorem dX3_anyBest_0 : decode cX3_anyBest 0 = .ok (.iconst 0, 1) := by decide +kernel
theorem dX3_anyBest_1 : decode cX3_anyBest 1 = .ok (.istore_n 1, 1) := by decide +kernel
theorem dX3_anyBest_2 : decode cX3_anyBest 2 = .ok (.iload_n 1, 1) := by decide +kernel
theorem dX3_anyBest_3 : decode cX3_anyBest 3 = .ok (.aload_n 0, 1) := by decide +kernel
theorem dX3_anyBest_4 : decode cX3_anyBest 4 = .ok (.getfield 40, 3) := by decide +kernel
theorem dX3_anyBest_7 : decode cX3_anyBest 7 = .ok (.if_icmp .ge 26, 3) := by decide +kernel
theorem dX3_anyBest_10 : decode cX3_anyBest 10 = .ok (.aload_n 0, 1) := by decide +kernel
theorem dX3_anyBest_11 : decode cX3_anyBest 11 = .ok (.getfield 22, 3) := by decide +kernel
theorem dX3_anyBest_14 : decode cX3_anyBest 14 = .ok (.aload_n 0, 1) := by decide +kernel
theorem dX3_anyBest_15 : decode cX3_anyBest 15 = .ok (.getfield 25, 3) := by decide +kernel
theorem dX3_anyBest_18 : decode cX3_anyBest 18 = .ok (.iload_n 1, 1) := by decide +kernel
theorem dX3_anyBest_19 : decode cX3_anyBest 19 = .ok (.iaload, 1) := by decide +kernel
theorem dX3_anyBest_20 : decode cX3_anyBest 20 = .ok (.iaload, 1) := by decide +kernel
theorem dX3_anyBest_21 : decode cX3_anyBest 21 = .ok (.iconst 4, 1) := by decide +kernel
theorem dX3_anyBest_22 : decode cX3_anyBest 22 = .ok (.if_icmp .ne 5, 3) := by decide +kernel
theorem dX3_anyBest_25 : decode cX3_anyBest 25 = .ok (.iconst 1, 1) := by decide +kernel
theorem dX3_anyBest_26 : decode cX3_anyBest 26 = .ok (.ireturn, 1) := by decide +kernel
theorem dX3_anyBest_27 : decode cX3_anyBest 27 = .ok (.iinc 1 1, 3) := by decide +kernel
theorem dX3_anyBest_30 : decode cX3_anyBest 30 = .ok (.goto (-28), 3) := by decide +kernel
theorem dX3_anyBest_33 : decode cX3_anyBest 33 = .ok (.iconst 0, 1) := by decide +kernel
theorem dX3_anyBest_34 : decode cX3_anyBest 34 = .ok (.ireturn, 1) := by decide +kernel
theorem dX4_init_0 : decode cX4_init 0 = .ok (.aload_n 0, 1) := by decide +kernel
theorem dX4_init_1 : decode cX4_init 1 = .ok (.invokespecial 3, 3) := by decide +kernel
theorem dX4_init_4 : decode cX4_init 4 = .ok (.aload_n 0, 1) := by decide +kernel
theorem dX4_init_5 : decode cX4_init 5 = .ok (.bipush 56, 2) := by decide +kernel
theorem dX4_init_7 : decode cX4_init 7 = .ok (.newarray .long, 2) := by decide +kernel
theorem dX4_init_9 : decode cX4_init 9 = .ok (.putfield 11, 3) := by decide +kernel
theorem dX4_init_12 : decode cX4_init 12 = .ok (.aload_n 0, 1) := by decide +kernel
theorem dX4_init_13 : decode cX4_init 13 = .ok (.bipush 56, 2) := by decide +kernel
theorem dX4_init_15 : decode cX4_init 15 = .ok (.newarray .long, 2) := by decide +kernel
theorem dX4_init_17 : decode cX4_init 17 = .ok (.putfield 15, 3) := by decide +kernel
theorem dX4_init_20 : decode cX4_init 20 = .ok (.aload_n 0, 1) := by decide +kernel
theorem dX4_init_21 : decode cX4_init 21 = .ok (.iconst 4, 1) := by decide +kernel
theorem dX4_init_22 : decode cX4_init 22 = .ok (.newarray .long, 2) := by decide +kernel
theorem dX4_init_24 : decode cX4_init 24 = .ok (.putfield 18, 3) := by decide +kernel
theorem dX4_init_27 : decode cX4_init 27 = .ok (.aload_n 0, 1) := by decide +kernel
theorem dX4_init_28 : decode cX4_init 28 = .ok (.iconst 4, 1) := by decide +kernel
theorem dX4_init_29 : decode cX4_init 29 = .ok (.newarray .long, 2) := by decide +kernel
theorem dX4_init_31 : decode cX4_init 31 = .ok (.putfield 21, 3) := by decide +kernel
theorem dX4_init_34 : decode cX4_init 34 = .ok (.aload_n 0, 1) := by decide +kernel
theorem dX4_init_35 : decode cX4_init 35 = .ok (.sipush 2048, 3) := by decide +kernel
theorem dX4_init_38 : decode cX4_init 38 = .ok (.newarray .long, 2) := by decide +kernel
theorem dX4_init_40 : decode cX4_init 40 = .ok (.putfield 24, 3) := by decide +kernel
theorem dX4_init_43 : decode cX4_init 43 = .ok (.aload_n 0, 1) := by decide +kernel
theorem dX4_init_44 : decode cX4_init 44 = .ok (.aload_n 1, 1) := by decide +kernel
theorem dX4_init_45 : decode cX4_init 45 = .ok (.putfield 27, 3) := by decide +kernel
theorem dX4_init_48 : decode cX4_init 48 = .ok (.aload_n 0, 1) := by decide +kernel
theorem dX4_init_49 : decode cX4_init 49 = .ok (.aload_n 2, 1) := by decide +kernel
theorem dX4_init_50 : decode cX4_init 50 = .ok (.putfield 31, 3) := by decide +kernel
theorem dX4_init_53 : decode cX4_init 53 = .ok (.return_, 1) := by decide +kernel
theorem dX4_consider_0 : decode cX4_consider 0 = .ok (.aload_n 0, 1) := by decide +kernel
theorem dX4_consider_1 : decode cX4_consider 1 = .ok (.iload_n 1, 1) := by decide +kernel
theorem dX4_consider_2 : decode cX4_consider 2 = .ok (.putfield 35, 3) := by decide +kernel
theorem dX4_consider_5 : decode cX4_consider 5 = .ok (.aload_n 0, 1) := by decide +kernel
theorem dX4_consider_6 : decode cX4_consider 6 = .ok (.iload_n 2, 1) := by decide +kernel
theorem dX4_consider_7 : decode cX4_consider 7 = .ok (.putfield 39, 3) := by decide +kernel
theorem dX4_consider_10 : decode cX4_consider 10 = .ok (.aload_n 0, 1) := by decide +kernel
theorem dX4_consider_11 : decode cX4_consider 11 = .ok (.iload_n 3, 1) := by decide +kernel
theorem dX4_consider_12 : decode cX4_consider 12 = .ok (.putfield 42, 3) := by decide +kernel
theorem dX4_consider_15 : decode cX4_consider 15 = .ok (.aload_n 0, 1) := by decide +kernel
theorem dX4_consider_16 : decode cX4_consider 16 = .ok (.aload_n 0, 1) := by decide +kernel
theorem dX4_consider_17 : decode cX4_consider 17 = .ok (.getfield 27, 3) := by decide +kernel
theorem dX4_consider_20 : decode cX4_consider 20 = .ok (.getfield 45, 3) := by decide +kernel
theorem dX4_consider_23 : decode cX4_consider 23 = .ok (.iload_n 2, 1) := by decide +kernel
theorem dX4_consider_24 : decode cX4_consider 24 = .ok (.iaload, 1) := by decide +kernel
theorem dX4_consider_25 : decode cX4_consider 25 = .ok (.putfield 51, 3) := by decide +kernel
theorem dX4_consider_28 : decode cX4_consider 28 = .ok (.return_, 1) := by decide +kernel
theorem dX4_start_0 : decode cX4_start 0 = .ok (.aload_n 0, 1) := by decide +kernel
theorem dX4_start_1 : decode cX4_start 1 = .ok (.iload_n 1, 1) := by decide +kernel
theorem dX4_start_2 : decode cX4_start 2 = .ok (.aload_n 0, 1) := by decide +kernel
theorem dX4_start_3 : decode cX4_start 3 = .ok (.getfield 39, 3) := by decide +kernel
theorem dX4_start_6 : decode cX4_start 6 = .ok (.invokestatic 53, 3) := by decide +kernel
theorem dX4_start_9 : decode cX4_start 9 = .ok (.putfield 57, 3) := by decide +kernel
theorem dX4_start_12 : decode cX4_start 12 = .ok (.aload_n 0, 1) := by decide +kernel
theorem dX4_start_13 : decode cX4_start 13 = .ok (.iload_n 2, 1) := by decide +kernel
theorem dX4_start_14 : decode cX4_start 14 = .ok (.putfield 60, 3) := by decide +kernel
theorem dX4_start_17 : decode cX4_start 17 = .ok (.return_, 1) := by decide +kernel
theorem dX4_sideOf_0 : decode cX4_sideOf 0 = .ok (.iload_n 0, 1) := by decide +kernel
theorem dX4_sideOf_1 : decode cX4_sideOf 1 = .ok (.bipush (-2), 2) := by decide +kernel
theorem dX4_sideOf_3 : decode cX4_sideOf 3 = .ok (.if_icmp .ne 5, 3) := by decide +kernel
theorem dX4_sideOf_6 : decode cX4_sideOf 6 = .ok (.iconst 0, 1) := by decide +kernel
theorem dX4_sideOf_7 : decode cX4_sideOf 7 = .ok (.ireturn, 1) := by decide +kernel
theorem dX4_sideOf_8 : decode cX4_sideOf 8 = .ok (.iload_n 0, 1) := by decide +kernel
theorem dX4_sideOf_9 : decode cX4_sideOf 9 = .ok (.iload_n 1, 1) := by decide +kernel
theorem dX4_sideOf_10 : decode cX4_sideOf 10 = .ok (.if_icmp .ne 7, 3) := by decide +kernel
theorem dX4_sideOf_13 : decode cX4_sideOf 13 = .ok (.iconst 2, 1) := by decide +kernel
theorem dX4_sideOf_14 : decode cX4_sideOf 14 = .ok (.goto 4, 3) := by decide +kernel
theorem dX4_sideOf_17 : decode cX4_sideOf 17 = .ok (.iconst 1, 1) := by decide +kernel
theorem dX4_sideOf_18 : decode cX4_sideOf 18 = .ok (.ireturn, 1) := by decide +kernel
theorem dX4_think_0 : decode cX4_think 0 = .ok (.aload_n 0, 1) := by decide +kernel
theorem dX4_think_1 : decode cX4_think 1 = .ok (.iload_n 2, 1) := by decide +kernel
theorem dX4_think_2 : decode cX4_think 2 = .ok (.putfield 63, 3) := by decide +kernel
theorem dX4_think_5 : decode cX4_think 5 = .ok (.aload_n 0, 1) := by decide +kernel
theorem dX4_think_6 : decode cX4_think 6 = .ok (.getfield 15, 3) := by decide +kernel
theorem dX4_think_9 : decode cX4_think 9 = .ok (.lconst 0, 1) := by decide +kernel
theorem dX4_think_10 : decode cX4_think 10 = .ok (.invokestatic 66, 3) := by decide +kernel
theorem dX4_think_13 : decode cX4_think 13 = .ok (.aload_n 0, 1) := by decide +kernel
theorem dX4_think_14 : decode cX4_think 14 = .ok (.getfield 18, 3) := by decide +kernel
theorem dX4_think_17 : decode cX4_think 17 = .ok (.lconst 0, 1) := by decide +kernel
theorem dX4_think_18 : decode cX4_think 18 = .ok (.invokestatic 66, 3) := by decide +kernel
theorem dX4_think_21 : decode cX4_think 21 = .ok (.aload_n 0, 1) := by decide +kernel
theorem dX4_think_22 : decode cX4_think 22 = .ok (.getfield 21, 3) := by decide +kernel
theorem dX4_think_25 : decode cX4_think 25 = .ok (.lconst 0, 1) := by decide +kernel
theorem dX4_think_26 : decode cX4_think 26 = .ok (.invokestatic 66, 3) := by decide +kernel
theorem dX4_think_29 : decode cX4_think 29 = .ok (.aload_n 0, 1) := by decide +kernel
theorem dX4_think_30 : decode cX4_think 30 = .ok (.lconst 1, 1) := by decide +kernel
theorem dX4_think_31 : decode cX4_think 31 = .ok (.putfield 72, 3) := by decide +kernel
theorem dX4_think_34 : decode cX4_think 34 = .ok (.iconst 1, 1) := by decide +kernel
theorem dX4_think_35 : decode cX4_think 35 = .ok (.istore_n 3, 1) := by decide +kernel
theorem dX4_think_36 : decode cX4_think 36 = .ok (.iload_n 3, 1) := by decide +kernel
theorem dX4_think_37 : decode cX4_think 37 = .ok (.iload_n 1, 1) := by decide +kernel
theorem dX4_think_38 : decode cX4_think 38 = .ok (.if_icmp .gt 164, 3) := by decide +kernel
theorem dX4_think_41 : decode cX4_think 41 = .ok (.aload_n 0, 1) := by decide +kernel
theorem dX4_think_42 : decode cX4_think 42 = .ok (.iload_n 1, 1) := by decide +kernel
theorem dX4_think_43 : decode cX4_think 43 = .ok (.iload_n 3, 1) := by decide +kernel
theorem dX4_think_44 : decode cX4_think 44 = .ok (.isub, 1) := by decide +kernel
theorem dX4_think_45 : decode cX4_think 45 = .ok (.putfield 76, 3) := by decide +kernel
theorem dX4_think_48 : decode cX4_think 48 = .ok (.iconst 3, 1) := by decide +kernel
theorem dX4_think_49 : decode cX4_think 49 = .ok (.istore 4, 2) := by decide +kernel
theorem dX4_think_51 : decode cX4_think 51 = .ok (.iload 4, 2) := by decide +kernel
theorem dX4_think_53 : decode cX4_think 53 = .ok (.iconst 1, 1) := by decide +kernel
theorem dX4_think_54 : decode cX4_think 54 = .ok (.if_icmp .lt 59, 3) := by decide +kernel
theorem dX4_think_57 : decode cX4_think 57 = .ok (.aload_n 0, 1) := by decide +kernel
theorem dX4_think_58 : decode cX4_think 58 = .ok (.getfield 21, 3) := by decide +kernel
theorem dX4_think_61 : decode cX4_think 61 = .ok (.iload 4, 2) := by decide +kernel
theorem dX4_think_63 : decode cX4_think 63 = .ok (.iload 4, 2) := by decide +kernel
theorem dX4_think_65 : decode cX4_think 65 = .ok (.aload_n 0, 1) := by decide +kernel
theorem dX4_think_66 : decode cX4_think 66 = .ok (.getfield 42, 3) := by decide +kernel
theorem dX4_think_69 : decode cX4_think 69 = .ok (.if_icmp .ge 15, 3) := by decide +kernel
theorem dX4_think_72 : decode cX4_think 72 = .ok (.aload_n 0, 1) := by decide +kernel
theorem dX4_think_73 : decode cX4_think 73 = .ok (.getfield 21, 3) := by decide +kernel
theorem dX4_think_76 : decode cX4_think 76 = .ok (.aload_n 0, 1) := by decide +kernel
theorem dX4_think_77 : decode cX4_think 77 = .ok (.getfield 42, 3) := by decide +kernel
theorem dX4_think_80 : decode cX4_think 80 = .ok (.laload, 1) := by decide +kernel
theorem dX4_think_81 : decode cX4_think 81 = .ok (.goto 25, 3) := by decide +kernel
theorem dX4_think_84 : decode cX4_think 84 = .ok (.aload_n 0, 1) := by decide +kernel
theorem dX4_think_85 : decode cX4_think 85 = .ok (.iconst 1, 1) := by decide +kernel
theorem dX4_think_86 : decode cX4_think 86 = .ok (.iload 4, 2) := by decide +kernel
theorem dX4_think_88 : decode cX4_think 88 = .ok (.invokevirtual 79, 3) := by decide +kernel
theorem dX4_think_91 : decode cX4_think 91 = .ok (.aload_n 0, 1) := by decide +kernel
theorem dX4_think_92 : decode cX4_think 92 = .ok (.getfield 51, 3) := by decide +kernel
theorem dX4_think_95 : decode cX4_think 95 = .ok (.i2l, 1) := by decide +kernel
theorem dX4_think_96 : decode cX4_think 96 = .ok (.aload_n 0, 1) := by decide +kernel
theorem dX4_think_97 : decode cX4_think 97 = .ok (.getfield 72, 3) := by decide +kernel
theorem dX4_think_100 : decode cX4_think 100 = .ok (.lmul, 1) := by decide +kernel
theorem dX4_think_101 : decode cX4_think 101 = .ok (.ldc2_w 83, 3) := by decide +kernel
theorem dX4_think_104 : decode cX4_think 104 = .ok (.lmul, 1) := by decide +kernel
theorem dX4_think_105 : decode cX4_think 105 = .ok (.lsub, 1) := by decide +kernel
theorem dX4_think_106 : decode cX4_think 106 = .ok (.lastore, 1) := by decide +kernel
theorem dX4_think_107 : decode cX4_think 107 = .ok (.iinc 4 (-1), 3) := by decide +kernel
theorem dX4_think_110 : decode cX4_think 110 = .ok (.goto (-59), 3) := by decide +kernel
theorem dX4_think_113 : decode cX4_think 113 = .ok (.iconst 0, 1) := by decide +kernel
theorem dX4_think_114 : decode cX4_think 114 = .ok (.istore 4, 2) := by decide +kernel
theorem dX4_think_116 : decode cX4_think 116 = .ok (.iload 4, 2) := by decide +kernel
theorem dX4_think_118 : decode cX4_think 118 = .ok (.iconst 1, 1) := by decide +kernel
theorem dX4_think_119 : decode cX4_think 119 = .ok (.iconst 2, 1) := by decide +kernel
theorem dX4_think_120 : decode cX4_think 120 = .ok (.aload_n 0, 1) := by decide +kernel
theorem dX4_think_121 : decode cX4_think 121 = .ok (.getfield 76, 3) := by decide +kernel
theorem dX4_think_124 : decode cX4_think 124 = .ok (.imul, 1) := by decide +kernel
theorem dX4_think_125 : decode cX4_think 125 = .ok (.iadd, 1) := by decide +kernel
theorem dX4_think_126 : decode cX4_think 126 = .ok (.if_icmp .gt 66, 3) := by decide +kernel
theorem dX4_think_129 : decode cX4_think 129 = .ok (.iload 4, 2) := by decide +kernel
theorem dX4_think_131 : decode cX4_think 131 = .ok (.iconst 1, 1) := by decide +kernel
theorem dX4_think_132 : decode cX4_think 132 = .ok (.if_icmp .ne 6, 3) := by decide +kernel
theorem dX4_think_135 : decode cX4_think 135 = .ok (.goto 51, 3) := by decide +kernel
theorem dX4_think_138 : decode cX4_think 138 = .ok (.iconst 1, 1) := by decide +kernel
theorem dX4_think_139 : decode cX4_think 139 = .ok (.istore 5, 2) := by decide +kernel
theorem dX4_think_141 : decode cX4_think 141 = .ok (.iload 5, 2) := by decide +kernel
theorem dX4_think_143 : decode cX4_think 143 = .ok (.iconst 3, 1) := by decide +kernel
theorem dX4_think_144 : decode cX4_think 144 = .ok (.if_icmp .gt 42, 3) := by decide +kernel
theorem dX4_think_147 : decode cX4_think 147 = .ok (.aload_n 0, 1) := by decide +kernel
theorem dX4_think_148 : decode cX4_think 148 = .ok (.getfield 18, 3) := by decide +kernel
theorem dX4_think_151 : decode cX4_think 151 = .ok (.iload 5, 2) := by decide +kernel
theorem dX4_think_153 : decode cX4_think 153 = .ok (.aload_n 0, 1) := by decide +kernel
theorem dX4_think_154 : decode cX4_think 154 = .ok (.iload 4, 2) := by decide +kernel
theorem dX4_think_156 : decode cX4_think 156 = .ok (.iload 5, 2) := by decide +kernel
theorem dX4_think_158 : decode cX4_think 158 = .ok (.invokevirtual 79, 3) := by decide +kernel
theorem dX4_think_161 : decode cX4_think 161 = .ok (.lastore, 1) := by decide +kernel
theorem dX4_think_162 : decode cX4_think 162 = .ok (.aload_n 0, 1) := by decide +kernel
theorem dX4_think_163 : decode cX4_think 163 = .ok (.getfield 11, 3) := by decide +kernel
theorem dX4_think_166 : decode cX4_think 166 = .ok (.iload 4, 2) := by decide +kernel
theorem dX4_think_168 : decode cX4_think 168 = .ok (.iconst 4, 1) := by decide +kernel
theorem dX4_think_169 : decode cX4_think 169 = .ok (.imul, 1) := by decide +kernel
theorem dX4_think_170 : decode cX4_think 170 = .ok (.iload 5, 2) := by decide +kernel
theorem dX4_think_172 : decode cX4_think 172 = .ok (.iadd, 1) := by decide +kernel
theorem dX4_think_173 : decode cX4_think 173 = .ok (.aload_n 0, 1) := by decide +kernel
theorem dX4_think_174 : decode cX4_think 174 = .ok (.iload 5, 2) := by decide +kernel
theorem dX4_think_176 : decode cX4_think 176 = .ok (.invokevirtual 85, 3) := by decide +kernel
theorem dX4_think_179 : decode cX4_think 179 = .ok (.lastore, 1) := by decide +kernel
theorem dX4_think_180 : decode cX4_think 180 = .ok (.iinc 5 1, 3) := by decide +kernel
theorem dX4_think_183 : decode cX4_think 183 = .ok (.goto (-42), 3) := by decide +kernel
theorem dX4_think_186 : decode cX4_think 186 = .ok (.iinc 4 1, 3) := by decide +kernel
theorem dX4_think_189 : decode cX4_think 189 = .ok (.goto (-73), 3) := by decide +kernel
theorem dX4_think_192 : decode cX4_think 192 = .ok (.aload_n 0, 1) := by decide +kernel
theorem dX4_think_193 : decode cX4_think 193 = .ok (.invokevirtual 89, 3) := by decide +kernel
theorem dX4_think_196 : decode cX4_think 196 = .ok (.iinc 3 1, 3) := by decide +kernel
theorem dX4_think_199 : decode cX4_think 199 = .ok (.goto (-163), 3) := by decide +kernel
theorem dX4_think_202 : decode cX4_think 202 = .ok (.return_, 1) := by decide +kernel
theorem dX4_turnPage_0 : decode cX4_turnPage 0 = .ok (.aload_n 0, 1) := by decide +kernel
theorem dX4_turnPage_1 : decode cX4_turnPage 1 = .ok (.getfield 11, 3) := by decide +kernel
theorem dX4_turnPage_4 : decode cX4_turnPage 4 = .ok (.astore_n 1, 1) := by decide +kernel
theorem dX4_turnPage_5 : decode cX4_turnPage 5 = .ok (.aload_n 0, 1) := by decide +kernel
theorem dX4_turnPage_6 : decode cX4_turnPage 6 = .ok (.aload_n 0, 1) := by decide +kernel
theorem dX4_turnPage_7 : decode cX4_turnPage 7 = .ok (.getfield 15, 3) := by decide +kernel
theorem dX4_turnPage_10 : decode cX4_turnPage 10 = .ok (.putfield 11, 3) := by decide +kernel
theorem dX4_turnPage_13 : decode cX4_turnPage 13 = .ok (.aload_n 0, 1) := by decide +kernel
theorem dX4_turnPage_14 : decode cX4_turnPage 14 = .ok (.aload_n 1, 1) := by decide +kernel
theorem dX4_turnPage_15 : decode cX4_turnPage 15 = .ok (.putfield 15, 3) := by decide +kernel
theorem dX4_turnPage_18 : decode cX4_turnPage 18 = .ok (.aload_n 0, 1) := by decide +kernel
theorem dX4_turnPage_19 : decode cX4_turnPage 19 = .ok (.dup, 1) := by decide +kernel
theorem dX4_turnPage_20 : decode cX4_turnPage 20 = .ok (.getfield 72, 3) := by decide +kernel
theorem dX4_turnPage_23 : decode cX4_turnPage 23 = .ok (.ldc2_w 83, 3) := by decide +kernel
theorem dX4_turnPage_26 : decode cX4_turnPage 26 = .ok (.lmul, 1) := by decide +kernel
theorem dX4_turnPage_27 : decode cX4_turnPage 27 = .ok (.putfield 72, 3) := by decide +kernel
theorem dX4_turnPage_30 : decode cX4_turnPage 30 = .ok (.return_, 1) := by decide +kernel
theorem dX4_goOn_0 : decode cX4_goOn 0 = .ok (.aload_n 0, 1) := by decide +kernel
theorem dX4_goOn_1 : decode cX4_goOn 1 = .ok (.getfield 57, 3) := by decide +kernel
theorem dX4_goOn_4 : decode cX4_goOn 4 = .ok (.istore_n 3, 1) := by decide +kernel
theorem dX4_goOn_5 : decode cX4_goOn 5 = .ok (.aload_n 0, 1) := by decide +kernel
theorem dX4_goOn_6 : decode cX4_goOn 6 = .ok (.getfield 60, 3) := by decide +kernel
theorem dX4_goOn_9 : decode cX4_goOn 9 = .ok (.aload_n 0, 1) := by decide +kernel
theorem dX4_goOn_10 : decode cX4_goOn 10 = .ok (.getfield 76, 3) := by decide +kernel
theorem dX4_goOn_13 : decode cX4_goOn 13 = .ok (.iadd, 1) := by decide +kernel
theorem dX4_goOn_14 : decode cX4_goOn 14 = .ok (.bipush 99, 2) := by decide +kernel
theorem dX4_goOn_16 : decode cX4_goOn 16 = .ok (.invokestatic 92, 3) := by decide +kernel
theorem dX4_goOn_19 : decode cX4_goOn 19 = .ok (.istore 4, 2) := by decide +kernel
theorem dX4_goOn_21 : decode cX4_goOn 21 = .ok (.iconst 0, 1) := by decide +kernel
theorem dX4_goOn_22 : decode cX4_goOn 22 = .ok (.istore 5, 2) := by decide +kernel
theorem dX4_goOn_24 : decode cX4_goOn 24 = .ok (.iload_n 1, 1) := by decide +kernel
theorem dX4_goOn_25 : decode cX4_goOn 25 = .ok (.ifCond .eq 28, 3) := by decide +kernel
theorem dX4_goOn_28 : decode cX4_goOn 28 = .ok (.iload_n 1, 1) := by decide +kernel
theorem dX4_goOn_29 : decode cX4_goOn 29 = .ok (.iconst 2, 1) := by decide +kernel
theorem dX4_goOn_30 : decode cX4_goOn 30 = .ok (.irem, 1) := by decide +kernel
theorem dX4_goOn_31 : decode cX4_goOn 31 = .ok (.iconst 1, 1) := by decide +kernel
theorem dX4_goOn_32 : decode cX4_goOn 32 = .ok (.if_icmp .ne 7, 3) := by decide +kernel
theorem dX4_goOn_35 : decode cX4_goOn 35 = .ok (.iconst 2, 1) := by decide +kernel
theorem dX4_goOn_36 : decode cX4_goOn 36 = .ok (.goto 4, 3) := by decide +kernel
theorem dX4_goOn_39 : decode cX4_goOn 39 = .ok (.iconst 0, 1) := by decide +kernel
theorem dX4_goOn_40 : decode cX4_goOn 40 = .ok (.istore_n 3, 1) := by decide +kernel
theorem dX4_goOn_41 : decode cX4_goOn 41 = .ok (.iload_n 1, 1) := by decide +kernel
theorem dX4_goOn_42 : decode cX4_goOn 42 = .ok (.iconst 1, 1) := by decide +kernel
theorem dX4_goOn_43 : decode cX4_goOn 43 = .ok (.isub, 1) := by decide +kernel
theorem dX4_goOn_44 : decode cX4_goOn 44 = .ok (.iconst 2, 1) := by decide +kernel
theorem dX4_goOn_45 : decode cX4_goOn 45 = .ok (.idiv, 1) := by decide +kernel
theorem dX4_goOn_46 : decode cX4_goOn 46 = .ok (.istore 4, 2) := by decide +kernel
theorem dX4_goOn_48 : decode cX4_goOn 48 = .ok (.iload_n 1, 1) := by decide +kernel
theorem dX4_goOn_49 : decode cX4_goOn 49 = .ok (.iconst 2, 1) := by decide +kernel
theorem dX4_goOn_50 : decode cX4_goOn 50 = .ok (.iadd, 1) := by decide +kernel
theorem dX4_goOn_51 : decode cX4_goOn 51 = .ok (.istore 5, 2) := by decide +kernel
theorem dX4_goOn_53 : decode cX4_goOn 53 = .ok (.aload_n 0, 1) := by decide +kernel
theorem dX4_goOn_54 : decode cX4_goOn 54 = .ok (.getfield 72, 3) := by decide +kernel
theorem dX4_goOn_57 : decode cX4_goOn 57 = .ok (.aload_n 0, 1) := by decide +kernel
theorem dX4_goOn_58 : decode cX4_goOn 58 = .ok (.getfield 27, 3) := by decide +kernel
theorem dX4_goOn_61 : decode cX4_goOn 61 = .ok (.getfield 97, 3) := by decide +kernel
theorem dX4_goOn_64 : decode cX4_goOn 64 = .ok (.aload_n 0, 1) := by decide +kernel
theorem dX4_goOn_65 : decode cX4_goOn 65 = .ok (.getfield 35, 3) := by decide +kernel
theorem dX4_goOn_68 : decode cX4_goOn 68 = .ok (.iaload, 1) := by decide +kernel
theorem dX4_goOn_69 : decode cX4_goOn 69 = .ok (.i2l, 1) := by decide +kernel
theorem dX4_goOn_70 : decode cX4_goOn 70 = .ok (.lmul, 1) := by decide +kernel
theorem dX4_goOn_71 : decode cX4_goOn 71 = .ok (.lstore 6, 2) := by decide +kernel
theorem dX4_goOn_73 : decode cX4_goOn 73 = .ok (.lload 6, 2) := by decide +kernel
theorem dX4_goOn_75 : decode cX4_goOn 75 = .ok (.aload_n 0, 1) := by decide +kernel
theorem dX4_goOn_76 : decode cX4_goOn 76 = .ok (.getfield 15, 3) := by decide +kernel
theorem dX4_goOn_79 : decode cX4_goOn 79 = .ok (.iload 5, 2) := by decide +kernel
theorem dX4_goOn_81 : decode cX4_goOn 81 = .ok (.iconst 4, 1) := by decide +kernel
theorem dX4_goOn_82 : decode cX4_goOn 82 = .ok (.imul, 1) := by decide +kernel
theorem dX4_goOn_83 : decode cX4_goOn 83 = .ok (.iload_n 2, 1) := by decide +kernel
theorem dX4_goOn_84 : decode cX4_goOn 84 = .ok (.iadd, 1) := by decide +kernel
theorem dX4_goOn_85 : decode cX4_goOn 85 = .ok (.laload, 1) := by decide +kernel
theorem dX4_goOn_86 : decode cX4_goOn 86 = .ok (.ladd, 1) := by decide +kernel
theorem dX4_goOn_87 : decode cX4_goOn 87 = .ok (.lstore 8, 2) := by decide +kernel
theorem dX4_goOn_89 : decode cX4_goOn 89 = .ok (.iload_n 2, 1) := by decide +kernel
theorem dX4_goOn_90 : decode cX4_goOn 90 = .ok (.iconst 1, 1) := by decide +kernel
theorem dX4_goOn_91 : decode cX4_goOn 91 = .ok (.if_icmp .le 24, 3) := by decide +kernel
theorem dX4_goOn_94 : decode cX4_goOn 94 = .ok (.lload 6, 2) := by decide +kernel
theorem dX4_goOn_96 : decode cX4_goOn 96 = .ok (.aload_n 0, 1) := by decide +kernel
theorem dX4_goOn_97 : decode cX4_goOn 97 = .ok (.getfield 15, 3) := by decide +kernel
theorem dX4_goOn_100 : decode cX4_goOn 100 = .ok (.iload 5, 2) := by decide +kernel
theorem dX4_goOn_102 : decode cX4_goOn 102 = .ok (.iconst 4, 1) := by decide +kernel
theorem dX4_goOn_103 : decode cX4_goOn 103 = .ok (.imul, 1) := by decide +kernel
theorem dX4_goOn_104 : decode cX4_goOn 104 = .ok (.iload_n 2, 1) := by decide +kernel
theorem dX4_goOn_105 : decode cX4_goOn 105 = .ok (.iadd, 1) := by decide +kernel
theorem dX4_goOn_106 : decode cX4_goOn 106 = .ok (.iconst 1, 1) := by decide +kernel
theorem dX4_goOn_107 : decode cX4_goOn 107 = .ok (.isub, 1) := by decide +kernel
theorem dX4_goOn_108 : decode cX4_goOn 108 = .ok (.laload, 1) := by decide +kernel
theorem dX4_goOn_109 : decode cX4_goOn 109 = .ok (.ladd, 1) := by decide +kernel
theorem dX4_goOn_110 : decode cX4_goOn 110 = .ok (.lstore 10, 2) := by decide +kernel
theorem dX4_goOn_112 : decode cX4_goOn 112 = .ok (.goto 64, 3) := by decide +kernel
theorem dX4_goOn_115 : decode cX4_goOn 115 = .ok (.iload_n 3, 1) := by decide +kernel
theorem dX4_goOn_116 : decode cX4_goOn 116 = .ok (.iconst 1, 1) := by decide +kernel
theorem dX4_goOn_117 : decode cX4_goOn 117 = .ok (.if_icmp .ne 19, 3) := by decide +kernel
theorem dX4_goOn_120 : decode cX4_goOn 120 = .ok (.aload_n 0, 1) := by decide +kernel
theorem dX4_goOn_121 : decode cX4_goOn 121 = .ok (.getfield 27, 3) := by decide +kernel
theorem dX4_goOn_124 : decode cX4_goOn 124 = .ok (.iload 4, 2) := by decide +kernel
theorem dX4_goOn_126 : decode cX4_goOn 126 = .ok (.invokevirtual 100, 3) := by decide +kernel
theorem dX4_goOn_129 : decode cX4_goOn 129 = .ok (.ifCond .ne 7, 3) := by decide +kernel
theorem dX4_goOn_132 : decode cX4_goOn 132 = .ok (.iconst 1, 1) := by decide +kernel
theorem dX4_goOn_133 : decode cX4_goOn 133 = .ok (.goto 4, 3) := by decide +kernel
theorem dX4_goOn_136 : decode cX4_goOn 136 = .ok (.iconst 0, 1) := by decide +kernel
theorem dX4_goOn_137 : decode cX4_goOn 137 = .ok (.istore 12, 2) := by decide +kernel
theorem dX4_goOn_139 : decode cX4_goOn 139 = .ok (.aload_n 0, 1) := by decide +kernel
theorem dX4_goOn_140 : decode cX4_goOn 140 = .ok (.getfield 15, 3) := by decide +kernel
theorem dX4_goOn_143 : decode cX4_goOn 143 = .ok (.bipush 11, 2) := by decide +kernel
theorem dX4_goOn_145 : decode cX4_goOn 145 = .ok (.laload, 1) := by decide +kernel
theorem dX4_goOn_146 : decode cX4_goOn 146 = .ok (.iload 12, 2) := by decide +kernel
theorem dX4_goOn_148 : decode cX4_goOn 148 = .ok (.ifCond .eq 7, 3) := by decide +kernel
theorem dX4_goOn_151 : decode cX4_goOn 151 = .ok (.lconst 0, 1) := by decide +kernel
theorem dX4_goOn_152 : decode cX4_goOn 152 = .ok (.goto 21, 3) := by decide +kernel
theorem dX4_goOn_155 : decode cX4_goOn 155 = .ok (.aload_n 0, 1) := by decide +kernel
theorem dX4_goOn_156 : decode cX4_goOn 156 = .ok (.getfield 72, 3) := by decide +kernel
theorem dX4_goOn_159 : decode cX4_goOn 159 = .ok (.aload_n 0, 1) := by decide +kernel
theorem dX4_goOn_160 : decode cX4_goOn 160 = .ok (.getfield 27, 3) := by decide +kernel
theorem dX4_goOn_163 : decode cX4_goOn 163 = .ok (.getfield 104, 3) := by decide +kernel
theorem dX4_goOn_166 : decode cX4_goOn 166 = .ok (.aload_n 0, 1) := by decide +kernel
theorem dX4_goOn_167 : decode cX4_goOn 167 = .ok (.getfield 35, 3) := by decide +kernel
theorem dX4_goOn_170 : decode cX4_goOn 170 = .ok (.iaload, 1) := by decide +kernel
theorem dX4_goOn_171 : decode cX4_goOn 171 = .ok (.i2l, 1) := by decide +kernel
theorem dX4_goOn_172 : decode cX4_goOn 172 = .ok (.lmul, 1) := by decide +kernel
theorem dX4_goOn_173 : decode cX4_goOn 173 = .ok (.lsub, 1) := by decide +kernel
theorem dX4_goOn_174 : decode cX4_goOn 174 = .ok (.lstore 10, 2) := by decide +kernel
theorem dX4_goOn_176 : decode cX4_goOn 176 = .ok (.aload_n 0, 1) := by decide +kernel
theorem dX4_goOn_177 : decode cX4_goOn 177 = .ok (.getfield 31, 3) := by decide +kernel
theorem dX4_goOn_180 : decode cX4_goOn 180 = .ok (.aload_n 0, 1) := by decide +kernel
theorem dX4_goOn_181 : decode cX4_goOn 181 = .ok (.getfield 35, 3) := by decide +kernel
theorem dX4_goOn_184 : decode cX4_goOn 184 = .ok (.iload_n 2, 1) := by decide +kernel
theorem dX4_goOn_185 : decode cX4_goOn 185 = .ok (.iload 4, 2) := by decide +kernel
theorem dX4_goOn_187 : decode cX4_goOn 187 = .ok (.iload_n 3, 1) := by decide +kernel
theorem dX4_goOn_188 : decode cX4_goOn 188 = .ok (.ifCond .eq 7, 3) := by decide +kernel
theorem dX4_goOn_191 : decode cX4_goOn 191 = .ok (.iconst 1, 1) := by decide +kernel
theorem dX4_goOn_192 : decode cX4_goOn 192 = .ok (.goto 4, 3) := by decide +kernel
theorem dX4_goOn_195 : decode cX4_goOn 195 = .ok (.iconst 0, 1) := by decide +kernel
theorem dX4_goOn_196 : decode cX4_goOn 196 = .ok (.invokevirtual 107, 3) := by decide +kernel
theorem dX4_goOn_199 : decode cX4_goOn 199 = .ok (.istore 12, 2) := by decide +kernel
theorem dX4_goOn_201 : decode cX4_goOn 201 = .ok (.iload 12, 2) := by decide +kernel
theorem dX4_goOn_203 : decode cX4_goOn 203 = .ok (.i2l, 1) := by decide +kernel
theorem dX4_goOn_204 : decode cX4_goOn 204 = .ok (.lload 10, 2) := by decide +kernel
theorem dX4_goOn_206 : decode cX4_goOn 206 = .ok (.lmul, 1) := by decide +kernel
theorem dX4_goOn_207 : decode cX4_goOn 207 = .ok (.bipush 12, 2) := by decide +kernel
theorem dX4_goOn_209 : decode cX4_goOn 209 = .ok (.iload 12, 2) := by decide +kernel
theorem dX4_goOn_211 : decode cX4_goOn 211 = .ok (.isub, 1) := by decide +kernel
theorem dX4_goOn_212 : decode cX4_goOn 212 = .ok (.i2l, 1) := by decide +kernel
theorem dX4_goOn_213 : decode cX4_goOn 213 = .ok (.lload 8, 2) := by decide +kernel
theorem dX4_goOn_215 : decode cX4_goOn 215 = .ok (.lmul, 1) := by decide +kernel
theorem dX4_goOn_216 : decode cX4_goOn 216 = .ok (.ladd, 1) := by decide +kernel
theorem dX4_goOn_217 : decode cX4_goOn 217 = .ok (.lreturn, 1) := by decide +kernel
theorem dX4_leftAt_0 : decode cX4_leftAt 0 = .ok (.aload_n 0, 1) := by decide +kernel
theorem dX4_leftAt_1 : decode cX4_leftAt 1 = .ok (.getfield 18, 3) := by decide +kernel
theorem dX4_leftAt_4 : decode cX4_leftAt 4 = .ok (.iload_n 1, 1) := by decide +kernel
theorem dX4_leftAt_5 : decode cX4_leftAt 5 = .ok (.laload, 1) := by decide +kernel
theorem dX4_leftAt_6 : decode cX4_leftAt 6 = .ok (.lreturn, 1) := by decide +kernel
theorem dX4_mendsAt_0 : decode cX4_mendsAt 0 = .ok (.aload_n 0, 1) := by decide +kernel
theorem dX4_mendsAt_1 : decode cX4_mendsAt 1 = .ok (.getfield 63, 3) := by decide +kernel
theorem dX4_mendsAt_4 : decode cX4_mendsAt 4 = .ok (.iconst 4, 1) := by decide +kernel
theorem dX4_mendsAt_5 : decode cX4_mendsAt 5 = .ok (.if_icmp .ne 27, 3) := by decide +kernel
theorem dX4_mendsAt_8 : decode cX4_mendsAt 8 = .ok (.aload_n 0, 1) := by decide +kernel
theorem dX4_mendsAt_9 : decode cX4_mendsAt 9 = .ok (.getfield 21, 3) := by decide +kernel
theorem dX4_mendsAt_12 : decode cX4_mendsAt 12 = .ok (.iload_n 1, 1) := by decide +kernel
theorem dX4_mendsAt_13 : decode cX4_mendsAt 13 = .ok (.laload, 1) := by decide +kernel
theorem dX4_mendsAt_14 : decode cX4_mendsAt 14 = .ok (.aload_n 0, 1) := by decide +kernel
theorem dX4_mendsAt_15 : decode cX4_mendsAt 15 = .ok (.getfield 18, 3) := by decide +kernel
theorem dX4_mendsAt_18 : decode cX4_mendsAt 18 = .ok (.iload_n 1, 1) := by decide +kernel
theorem dX4_mendsAt_19 : decode cX4_mendsAt 19 = .ok (.laload, 1) := by decide +kernel
theorem dX4_mendsAt_20 : decode cX4_mendsAt 20 = .ok (.lcmp, 1) := by decide +kernel
theorem dX4_mendsAt_21 : decode cX4_mendsAt 21 = .ok (.ifCond .le 7, 3) := by decide +kernel
theorem dX4_mendsAt_24 : decode cX4_mendsAt 24 = .ok (.iconst 1, 1) := by decide +kernel
theorem dX4_mendsAt_25 : decode cX4_mendsAt 25 = .ok (.goto 20, 3) := by decide +kernel
theorem dX4_mendsAt_28 : decode cX4_mendsAt 28 = .ok (.iconst 0, 1) := by decide +kernel
theorem dX4_mendsAt_29 : decode cX4_mendsAt 29 = .ok (.goto 16, 3) := by decide +kernel
theorem dX4_mendsAt_32 : decode cX4_mendsAt 32 = .ok (.iload_n 1, 1) := by decide +kernel
theorem dX4_mendsAt_33 : decode cX4_mendsAt 33 = .ok (.aload_n 0, 1) := by decide +kernel
theorem dX4_mendsAt_34 : decode cX4_mendsAt 34 = .ok (.getfield 63, 3) := by decide +kernel
theorem dX4_mendsAt_37 : decode cX4_mendsAt 37 = .ok (.if_icmp .gt 7, 3) := by decide +kernel
theorem dX4_mendsAt_40 : decode cX4_mendsAt 40 = .ok (.iconst 1, 1) := by decide +kernel
theorem dX4_mendsAt_41 : decode cX4_mendsAt 41 = .ok (.goto 4, 3) := by decide +kernel
theorem dX4_mendsAt_44 : decode cX4_mendsAt 44 = .ok (.iconst 0, 1) := by decide +kernel
theorem dX4_mendsAt_45 : decode cX4_mendsAt 45 = .ok (.ireturn, 1) := by decide +kernel
theorem dX4_worthAt_0 : decode cX4_worthAt 0 = .ok (.aload_n 0, 1) := by decide +kernel
theorem dX4_worthAt_1 : decode cX4_worthAt 1 = .ok (.iload_n 1, 1) := by decide +kernel
theorem dX4_worthAt_2 : decode cX4_worthAt 2 = .ok (.invokevirtual 113, 3) := by decide +kernel
theorem dX4_worthAt_5 : decode cX4_worthAt 5 = .ok (.ifCond .eq 12, 3) := by decide +kernel
theorem dX4_worthAt_8 : decode cX4_worthAt 8 = .ok (.aload_n 0, 1) := by decide +kernel
theorem dX4_worthAt_9 : decode cX4_worthAt 9 = .ok (.getfield 21, 3) := by decide +kernel
theorem dX4_worthAt_12 : decode cX4_worthAt 12 = .ok (.iload_n 1, 1) := by decide +kernel
theorem dX4_worthAt_13 : decode cX4_worthAt 13 = .ok (.laload, 1) := by decide +kernel
theorem dX4_worthAt_14 : decode cX4_worthAt 14 = .ok (.goto 9, 3) := by decide +kernel
theorem dX4_worthAt_17 : decode cX4_worthAt 17 = .ok (.aload_n 0, 1) := by decide +kernel
theorem dX4_worthAt_18 : decode cX4_worthAt 18 = .ok (.getfield 18, 3) := by decide +kernel
theorem dX4_worthAt_21 : decode cX4_worthAt 21 = .ok (.iload_n 1, 1) := by decide +kernel
theorem dX4_worthAt_22 : decode cX4_worthAt 22 = .ok (.laload, 1) := by decide +kernel
theorem dX4_worthAt_23 : decode cX4_worthAt 23 = .ok (.lreturn, 1) := by decide +kernel
theorem dX4_mendsInDeed_0 : decode cX4_mendsInDeed 0 = .ok (.aload_n 0, 1) := by decide +kernel
theorem dX4_mendsInDeed_1 : decode cX4_mendsInDeed 1 = .ok (.getfield 27, 3) := by decide +kernel
theorem dX4_mendsInDeed_4 : decode cX4_mendsInDeed 4 = .ok (.getfield 116, 3) := by decide +kernel
theorem dX4_mendsInDeed_7 : decode cX4_mendsInDeed 7 = .ok (.iload_n 2, 1) := by decide +kernel
theorem dX4_mendsInDeed_8 : decode cX4_mendsInDeed 8 = .ok (.iaload, 1) := by decide +kernel
theorem dX4_mendsInDeed_9 : decode cX4_mendsInDeed 9 = .ok (.istore_n 3, 1) := by decide +kernel
theorem dX4_mendsInDeed_10 : decode cX4_mendsInDeed 10 = .ok (.aload_n 1, 1) := by decide +kernel
theorem dX4_mendsInDeed_11 : decode cX4_mendsInDeed 11 = .ok (.getfield 119, 3) := by decide +kernel
theorem dX4_mendsInDeed_14 : decode cX4_mendsInDeed 14 = .ok (.iload_n 2, 1) := by decide +kernel
theorem dX4_mendsInDeed_15 : decode cX4_mendsInDeed 15 = .ok (.iaload, 1) := by decide +kernel
theorem dX4_mendsInDeed_16 : decode cX4_mendsInDeed 16 = .ok (.istore 4, 2) := by decide +kernel
theorem dX4_mendsInDeed_18 : decode cX4_mendsInDeed 18 = .ok (.aload_n 0, 1) := by decide +kernel
theorem dX4_mendsInDeed_19 : decode cX4_mendsInDeed 19 = .ok (.getfield 27, 3) := by decide +kernel
theorem dX4_mendsInDeed_22 : decode cX4_mendsInDeed 22 = .ok (.getfield 124, 3) := by decide +kernel
theorem dX4_mendsInDeed_25 : decode cX4_mendsInDeed 25 = .ok (.i2l, 1) := by decide +kernel
theorem dX4_mendsInDeed_26 : decode cX4_mendsInDeed 26 = .ok (.ldc2_w 127, 3) := by decide +kernel
theorem dX4_mendsInDeed_29 : decode cX4_mendsInDeed 29 = .ok (.lmul, 1) := by decide +kernel
theorem dX4_mendsInDeed_30 : decode cX4_mendsInDeed 30 = .ok (.aload_n 0, 1) := by decide +kernel
theorem dX4_mendsInDeed_31 : decode cX4_mendsInDeed 31 = .ok (.getfield 27, 3) := by decide +kernel
theorem dX4_mendsInDeed_34 : decode cX4_mendsInDeed 34 = .ok (.getfield 129, 3) := by decide +kernel
theorem dX4_mendsInDeed_37 : decode cX4_mendsInDeed 37 = .ok (.i2l, 1) := by decide +kernel
theorem dX4_mendsInDeed_38 : decode cX4_mendsInDeed 38 = .ok (.ladd, 1) := by decide +kernel
theorem dX4_mendsInDeed_39 : decode cX4_mendsInDeed 39 = .ok (.lstore 5, 2) := by decide +kernel
theorem dX4_mendsInDeed_41 : decode cX4_mendsInDeed 41 = .ok (.lload 5, 2) := by decide +kernel
theorem dX4_mendsInDeed_43 : decode cX4_mendsInDeed 43 = .ok (.ldc2_w 132, 3) := by decide +kernel
theorem dX4_mendsInDeed_46 : decode cX4_mendsInDeed 46 = .ok (.lmul, 1) := by decide +kernel
theorem dX4_mendsInDeed_47 : decode cX4_mendsInDeed 47 = .ok (.iload_n 2, 1) := by decide +kernel
theorem dX4_mendsInDeed_48 : decode cX4_mendsInDeed 48 = .ok (.i2l, 1) := by decide +kernel
theorem dX4_mendsInDeed_49 : decode cX4_mendsInDeed 49 = .ok (.ladd, 1) := by decide +kernel
theorem dX4_mendsInDeed_50 : decode cX4_mendsInDeed 50 = .ok (.ldc2_w 134, 3) := by decide +kernel
theorem dX4_mendsInDeed_53 : decode cX4_mendsInDeed 53 = .ok (.lmul, 1) := by decide +kernel
theorem dX4_mendsInDeed_54 : decode cX4_mendsInDeed 54 = .ok (.aload_n 1, 1) := by decide +kernel
theorem dX4_mendsInDeed_55 : decode cX4_mendsInDeed 55 = .ok (.getfield 136, 3) := by decide +kernel
theorem dX4_mendsInDeed_58 : decode cX4_mendsInDeed 58 = .ok (.iload_n 2, 1) := by decide +kernel
theorem dX4_mendsInDeed_59 : decode cX4_mendsInDeed 59 = .ok (.iaload, 1) := by decide +kernel
theorem dX4_mendsInDeed_60 : decode cX4_mendsInDeed 60 = .ok (.iload_n 3, 1) := by decide +kernel
theorem dX4_mendsInDeed_61 : decode cX4_mendsInDeed 61 = .ok (.invokestatic 53, 3) := by decide +kernel
theorem dX4_mendsInDeed_64 : decode cX4_mendsInDeed 64 = .ok (.i2l, 1) := by decide +kernel
theorem dX4_mendsInDeed_65 : decode cX4_mendsInDeed 65 = .ok (.ladd, 1) := by decide +kernel
theorem dX4_mendsInDeed_66 : decode cX4_mendsInDeed 66 = .ok (.lstore 5, 2) := by decide +kernel
theorem dX4_mendsInDeed_68 : decode cX4_mendsInDeed 68 = .ok (.lload 5, 2) := by decide +kernel
theorem dX4_mendsInDeed_70 : decode cX4_mendsInDeed 70 = .ok (.ldc2_w 139, 3) := by decide +kernel
theorem dX4_mendsInDeed_73 : decode cX4_mendsInDeed 73 = .ok (.lmul, 1) := by decide +kernel
theorem dX4_mendsInDeed_74 : decode cX4_mendsInDeed 74 = .ok (.aload_n 1, 1) := by decide +kernel
theorem dX4_mendsInDeed_75 : decode cX4_mendsInDeed 75 = .ok (.getfield 141, 3) := by decide +kernel
theorem dX4_mendsInDeed_78 : decode cX4_mendsInDeed 78 = .ok (.iload_n 2, 1) := by decide +kernel
theorem dX4_mendsInDeed_79 : decode cX4_mendsInDeed 79 = .ok (.iaload, 1) := by decide +kernel
theorem dX4_mendsInDeed_80 : decode cX4_mendsInDeed 80 = .ok (.i2l, 1) := by decide +kernel
theorem dX4_mendsInDeed_81 : decode cX4_mendsInDeed 81 = .ok (.ladd, 1) := by decide +kernel
theorem dX4_mendsInDeed_82 : decode cX4_mendsInDeed 82 = .ok (.ldc2_w 134, 3) := by decide +kernel
theorem dX4_mendsInDeed_85 : decode cX4_mendsInDeed 85 = .ok (.lmul, 1) := by decide +kernel
theorem dX4_mendsInDeed_86 : decode cX4_mendsInDeed 86 = .ok (.iload 4, 2) := by decide +kernel
theorem dX4_mendsInDeed_88 : decode cX4_mendsInDeed 88 = .ok (.i2l, 1) := by decide +kernel
theorem dX4_mendsInDeed_89 : decode cX4_mendsInDeed 89 = .ok (.ladd, 1) := by decide +kernel
theorem dX4_mendsInDeed_90 : decode cX4_mendsInDeed 90 = .ok (.lconst 1, 1) := by decide +kernel
theorem dX4_mendsInDeed_91 : decode cX4_mendsInDeed 91 = .ok (.lsub, 1) := by decide +kernel
theorem dX4_mendsInDeed_92 : decode cX4_mendsInDeed 92 = .ok (.lstore 5, 2) := by decide +kernel
theorem dX4_mendsInDeed_94 : decode cX4_mendsInDeed 94 = .ok (.lload 5, 2) := by decide +kernel
theorem dX4_mendsInDeed_96 : decode cX4_mendsInDeed 96 = .ok (.ldc2_w 143, 3) := by decide +kernel
theorem dX4_mendsInDeed_99 : decode cX4_mendsInDeed 99 = .ok (.lrem, 1) := by decide +kernel
theorem dX4_mendsInDeed_100 : decode cX4_mendsInDeed 100 = .ok (.l2i, 1) := by decide +kernel
theorem dX4_mendsInDeed_101 : decode cX4_mendsInDeed 101 = .ok (.istore 7, 2) := by decide +kernel
theorem dX4_mendsInDeed_103 : decode cX4_mendsInDeed 103 = .ok (.aload_n 0, 1) := by decide +kernel
theorem dX4_mendsInDeed_104 : decode cX4_mendsInDeed 104 = .ok (.getfield 24, 3) := by decide +kernel
theorem dX4_mendsInDeed_107 : decode cX4_mendsInDeed 107 = .ok (.iload 7, 2) := by decide +kernel
theorem dX4_mendsInDeed_109 : decode cX4_mendsInDeed 109 = .ok (.laload, 1) := by decide +kernel
theorem dX4_mendsInDeed_110 : decode cX4_mendsInDeed 110 = .ok (.iconst 1, 1) := by decide +kernel
theorem dX4_mendsInDeed_111 : decode cX4_mendsInDeed 111 = .ok (.lshr, 1) := by decide +kernel
theorem dX4_mendsInDeed_112 : decode cX4_mendsInDeed 112 = .ok (.lload 5, 2) := by decide +kernel
theorem dX4_mendsInDeed_114 : decode cX4_mendsInDeed 114 = .ok (.lcmp, 1) := by decide +kernel
theorem dX4_mendsInDeed_115 : decode cX4_mendsInDeed 115 = .ok (.ifCond .ne 23, 3) := by decide +kernel
theorem dX4_mendsInDeed_118 : decode cX4_mendsInDeed 118 = .ok (.aload_n 0, 1) := by decide +kernel
theorem dX4_mendsInDeed_119 : decode cX4_mendsInDeed 119 = .ok (.getfield 24, 3) := by decide +kernel
theorem dX4_mendsInDeed_122 : decode cX4_mendsInDeed 122 = .ok (.iload 7, 2) := by decide +kernel
theorem dX4_mendsInDeed_124 : decode cX4_mendsInDeed 124 = .ok (.laload, 1) := by decide +kernel
theorem dX4_mendsInDeed_125 : decode cX4_mendsInDeed 125 = .ok (.lconst 1, 1) := by decide +kernel
theorem dX4_mendsInDeed_126 : decode cX4_mendsInDeed 126 = .ok (.land, 1) := by decide +kernel
theorem dX4_mendsInDeed_127 : decode cX4_mendsInDeed 127 = .ok (.lconst 1, 1) := by decide +kernel
theorem dX4_mendsInDeed_128 : decode cX4_mendsInDeed 128 = .ok (.lcmp, 1) := by decide +kernel
theorem dX4_mendsInDeed_129 : decode cX4_mendsInDeed 129 = .ok (.ifCond .ne 7, 3) := by decide +kernel
theorem dX4_mendsInDeed_132 : decode cX4_mendsInDeed 132 = .ok (.iconst 1, 1) := by decide +kernel
theorem dX4_mendsInDeed_133 : decode cX4_mendsInDeed 133 = .ok (.goto 4, 3) := by decide +kernel
theorem dX4_mendsInDeed_136 : decode cX4_mendsInDeed 136 = .ok (.iconst 0, 1) := by decide +kernel
theorem dX4_mendsInDeed_137 : decode cX4_mendsInDeed 137 = .ok (.ireturn, 1) := by decide +kernel
theorem dX4_mendsInDeed_138 : decode cX4_mendsInDeed 138 = .ok (.aload_n 0, 1) := by decide +kernel
theorem dX4_mendsInDeed_139 : decode cX4_mendsInDeed 139 = .ok (.iload_n 2, 1) := by decide +kernel
theorem dX4_mendsInDeed_140 : decode cX4_mendsInDeed 140 = .ok (.iload_n 3, 1) := by decide +kernel
theorem dX4_mendsInDeed_141 : decode cX4_mendsInDeed 141 = .ok (.aload_n 0, 1) := by decide +kernel
theorem dX4_mendsInDeed_142 : decode cX4_mendsInDeed 142 = .ok (.getfield 27, 3) := by decide +kernel
theorem dX4_mendsInDeed_145 : decode cX4_mendsInDeed 145 = .ok (.getfield 145, 3) := by decide +kernel
theorem dX4_mendsInDeed_148 : decode cX4_mendsInDeed 148 = .ok (.iload_n 3, 1) := by decide +kernel
theorem dX4_mendsInDeed_149 : decode cX4_mendsInDeed 149 = .ok (.iaload, 1) := by decide +kernel
theorem dX4_mendsInDeed_150 : decode cX4_mendsInDeed 150 = .ok (.invokevirtual 147, 3) := by decide +kernel
theorem dX4_mendsInDeed_153 : decode cX4_mendsInDeed 153 = .ok (.aload_n 0, 1) := by decide +kernel
theorem dX4_mendsInDeed_154 : decode cX4_mendsInDeed 154 = .ok (.aload_n 1, 1) := by decide +kernel
theorem dX4_mendsInDeed_155 : decode cX4_mendsInDeed 155 = .ok (.getfield 136, 3) := by decide +kernel
theorem dX4_mendsInDeed_158 : decode cX4_mendsInDeed 158 = .ok (.iload_n 2, 1) := by decide +kernel
theorem dX4_mendsInDeed_159 : decode cX4_mendsInDeed 159 = .ok (.iaload, 1) := by decide +kernel
theorem dX4_mendsInDeed_160 : decode cX4_mendsInDeed 160 = .ok (.aload_n 1, 1) := by decide +kernel
theorem dX4_mendsInDeed_161 : decode cX4_mendsInDeed 161 = .ok (.getfield 141, 3) := by decide +kernel
theorem dX4_mendsInDeed_164 : decode cX4_mendsInDeed 164 = .ok (.iload_n 2, 1) := by decide +kernel
theorem dX4_mendsInDeed_165 : decode cX4_mendsInDeed 165 = .ok (.iaload, 1) := by decide +kernel
theorem dX4_mendsInDeed_166 : decode cX4_mendsInDeed 166 = .ok (.invokevirtual 151, 3) := by decide +kernel
theorem dX4_mendsInDeed_169 : decode cX4_mendsInDeed 169 = .ok (.aload_n 0, 1) := by decide +kernel
theorem dX4_mendsInDeed_170 : decode cX4_mendsInDeed 170 = .ok (.iconst 4, 1) := by decide +kernel
theorem dX4_mendsInDeed_171 : decode cX4_mendsInDeed 171 = .ok (.iconst 4, 1) := by decide +kernel
theorem dX4_mendsInDeed_172 : decode cX4_mendsInDeed 172 = .ok (.invokevirtual 155, 3) := by decide +kernel
theorem dX4_mendsInDeed_175 : decode cX4_mendsInDeed 175 = .ok (.aload_n 0, 1) := by decide +kernel
theorem dX4_mendsInDeed_176 : decode cX4_mendsInDeed 176 = .ok (.getfield 24, 3) := by decide +kernel
theorem dX4_mendsInDeed_179 : decode cX4_mendsInDeed 179 = .ok (.iload 7, 2) := by decide +kernel
theorem dX4_mendsInDeed_181 : decode cX4_mendsInDeed 181 = .ok (.lload 5, 2) := by decide +kernel
theorem dX4_mendsInDeed_183 : decode cX4_mendsInDeed 183 = .ok (.ldc2_w 158, 3) := by decide +kernel
theorem dX4_mendsInDeed_186 : decode cX4_mendsInDeed 186 = .ok (.lmul, 1) := by decide +kernel
theorem dX4_mendsInDeed_187 : decode cX4_mendsInDeed 187 = .ok (.aload_n 0, 1) := by decide +kernel
theorem dX4_mendsInDeed_188 : decode cX4_mendsInDeed 188 = .ok (.iload 4, 2) := by decide +kernel
theorem dX4_mendsInDeed_190 : decode cX4_mendsInDeed 190 = .ok (.invokevirtual 113, 3) := by decide +kernel
theorem dX4_mendsInDeed_193 : decode cX4_mendsInDeed 193 = .ok (.ifCond .eq 7, 3) := by decide +kernel
theorem dX4_mendsInDeed_196 : decode cX4_mendsInDeed 196 = .ok (.iconst 1, 1) := by decide +kernel
theorem dX4_mendsInDeed_197 : decode cX4_mendsInDeed 197 = .ok (.goto 4, 3) := by decide +kernel
theorem dX4_mendsInDeed_200 : decode cX4_mendsInDeed 200 = .ok (.iconst 0, 1) := by decide +kernel
theorem dX4_mendsInDeed_201 : decode cX4_mendsInDeed 201 = .ok (.i2l, 1) := by decide +kernel
theorem dX4_mendsInDeed_202 : decode cX4_mendsInDeed 202 = .ok (.ladd, 1) := by decide +kernel
theorem dX4_mendsInDeed_203 : decode cX4_mendsInDeed 203 = .ok (.lastore, 1) := by decide +kernel
theorem dX4_mendsInDeed_204 : decode cX4_mendsInDeed 204 = .ok (.aload_n 0, 1) := by decide +kernel
theorem dX4_mendsInDeed_205 : decode cX4_mendsInDeed 205 = .ok (.iload 4, 2) := by decide +kernel
theorem dX4_mendsInDeed_207 : decode cX4_mendsInDeed 207 = .ok (.invokevirtual 113, 3) := by decide +kernel
theorem dX4_mendsInDeed_210 : decode cX4_mendsInDeed 210 = .ok (.ireturn, 1) := by decide +kernel
theorem dX4_risk_0 : decode cX4_risk 0 = .ok (.iload_n 2, 1) := by decide +kernel
theorem dX4_risk_1 : decode cX4_risk 1 = .ok (.iconst 1, 1) := by decide +kernel
theorem dX4_risk_2 : decode cX4_risk 2 = .ok (.if_icmp .ne 7, 3) := by decide +kernel
theorem dX4_risk_5 : decode cX4_risk 5 = .ok (.lconst 1, 1) := by decide +kernel
theorem dX4_risk_6 : decode cX4_risk 6 = .ok (.goto 4, 3) := by decide +kernel
theorem dX4_risk_9 : decode cX4_risk 9 = .ok (.lconst 0, 1) := by decide +kernel
theorem dX4_risk_10 : decode cX4_risk 10 = .ok (.lstore 5, 2) := by decide +kernel
theorem dX4_risk_12 : decode cX4_risk 12 = .ok (.iload_n 2, 1) := by decide +kernel
theorem dX4_risk_13 : decode cX4_risk 13 = .ok (.iconst 2, 1) := by decide +kernel
theorem dX4_risk_14 : decode cX4_risk 14 = .ok (.if_icmp .ne 7, 3) := by decide +kernel
theorem dX4_risk_17 : decode cX4_risk 17 = .ok (.lconst 1, 1) := by decide +kernel
theorem dX4_risk_18 : decode cX4_risk 18 = .ok (.goto 4, 3) := by decide +kernel
theorem dX4_risk_21 : decode cX4_risk 21 = .ok (.lconst 0, 1) := by decide +kernel
theorem dX4_risk_22 : decode cX4_risk 22 = .ok (.lstore 7, 2) := by decide +kernel
theorem dX4_risk_24 : decode cX4_risk 24 = .ok (.iload_n 2, 1) := by decide +kernel
theorem dX4_risk_25 : decode cX4_risk 25 = .ok (.iconst 3, 1) := by decide +kernel
theorem dX4_risk_26 : decode cX4_risk 26 = .ok (.if_icmp .ne 7, 3) := by decide +kernel
theorem dX4_risk_29 : decode cX4_risk 29 = .ok (.lconst 1, 1) := by decide +kernel
theorem dX4_risk_30 : decode cX4_risk 30 = .ok (.goto 4, 3) := by decide +kernel
theorem dX4_risk_33 : decode cX4_risk 33 = .ok (.lconst 0, 1) := by decide +kernel
theorem dX4_risk_34 : decode cX4_risk 34 = .ok (.lstore 9, 2) := by decide +kernel
theorem dX4_risk_36 : decode cX4_risk 36 = .ok (.lconst 0, 1) := by decide +kernel
theorem dX4_risk_37 : decode cX4_risk 37 = .ok (.lstore 11, 2) := by decide +kernel
theorem dX4_risk_39 : decode cX4_risk 39 = .ok (.iconst 0, 1) := by decide +kernel
theorem dX4_risk_40 : decode cX4_risk 40 = .ok (.istore 13, 2) := by decide +kernel
theorem dX4_risk_42 : decode cX4_risk 42 = .ok (.iload 13, 2) := by decide +kernel
theorem dX4_risk_44 : decode cX4_risk 44 = .ok (.iload 4, 2) := by decide +kernel
theorem dX4_risk_46 : decode cX4_risk 46 = .ok (.if_icmp .ge 151, 3) := by decide +kernel
theorem dX4_risk_49 : decode cX4_risk 49 = .ok (.iload_n 3, 1) := by decide +kernel
theorem dX4_risk_50 : decode cX4_risk 50 = .ok (.iload 13, 2) := by decide +kernel
theorem dX4_risk_52 : decode cX4_risk 52 = .ok (.iadd, 1) := by decide +kernel
theorem dX4_risk_53 : decode cX4_risk 53 = .ok (.bipush 99, 2) := by decide +kernel
theorem dX4_risk_55 : decode cX4_risk 55 = .ok (.invokestatic 92, 3) := by decide +kernel
theorem dX4_risk_58 : decode cX4_risk 58 = .ok (.istore 14, 2) := by decide +kernel
theorem dX4_risk_60 : decode cX4_risk 60 = .ok (.lload 5, 2) := by decide +kernel
theorem dX4_risk_62 : decode cX4_risk 62 = .ok (.aload_n 0, 1) := by decide +kernel
theorem dX4_risk_63 : decode cX4_risk 63 = .ok (.getfield 31, 3) := by decide +kernel
theorem dX4_risk_66 : decode cX4_risk 66 = .ok (.iload_n 1, 1) := by decide +kernel
theorem dX4_risk_67 : decode cX4_risk 67 = .ok (.iconst 1, 1) := by decide +kernel
theorem dX4_risk_68 : decode cX4_risk 68 = .ok (.iload 14, 2) := by decide +kernel
theorem dX4_risk_70 : decode cX4_risk 70 = .ok (.iconst 1, 1) := by decide +kernel
theorem dX4_risk_71 : decode cX4_risk 71 = .ok (.invokevirtual 107, 3) := by decide +kernel
theorem dX4_risk_74 : decode cX4_risk 74 = .ok (.i2l, 1) := by decide +kernel
theorem dX4_risk_75 : decode cX4_risk 75 = .ok (.lmul, 1) := by decide +kernel
theorem dX4_risk_76 : decode cX4_risk 76 = .ok (.lstore 15, 2) := by decide +kernel
theorem dX4_risk_78 : decode cX4_risk 78 = .ok (.lload 7, 2) := by decide +kernel
theorem dX4_risk_80 : decode cX4_risk 80 = .ok (.aload_n 0, 1) := by decide +kernel
theorem dX4_risk_81 : decode cX4_risk 81 = .ok (.getfield 31, 3) := by decide +kernel
theorem dX4_risk_84 : decode cX4_risk 84 = .ok (.iload_n 1, 1) := by decide +kernel
theorem dX4_risk_85 : decode cX4_risk 85 = .ok (.iconst 2, 1) := by decide +kernel
theorem dX4_risk_86 : decode cX4_risk 86 = .ok (.iload 14, 2) := by decide +kernel
theorem dX4_risk_88 : decode cX4_risk 88 = .ok (.iconst 1, 1) := by decide +kernel
theorem dX4_risk_89 : decode cX4_risk 89 = .ok (.invokevirtual 107, 3) := by decide +kernel
theorem dX4_risk_92 : decode cX4_risk 92 = .ok (.i2l, 1) := by decide +kernel
theorem dX4_risk_93 : decode cX4_risk 93 = .ok (.lmul, 1) := by decide +kernel
theorem dX4_risk_94 : decode cX4_risk 94 = .ok (.lstore 17, 2) := by decide +kernel
theorem dX4_risk_96 : decode cX4_risk 96 = .ok (.lload 9, 2) := by decide +kernel
theorem dX4_risk_98 : decode cX4_risk 98 = .ok (.aload_n 0, 1) := by decide +kernel
theorem dX4_risk_99 : decode cX4_risk 99 = .ok (.getfield 31, 3) := by decide +kernel
theorem dX4_risk_102 : decode cX4_risk 102 = .ok (.iload_n 1, 1) := by decide +kernel
theorem dX4_risk_103 : decode cX4_risk 103 = .ok (.iconst 3, 1) := by decide +kernel
theorem dX4_risk_104 : decode cX4_risk 104 = .ok (.iload 14, 2) := by decide +kernel
theorem dX4_risk_106 : decode cX4_risk 106 = .ok (.iconst 1, 1) := by decide +kernel
theorem dX4_risk_107 : decode cX4_risk 107 = .ok (.invokevirtual 107, 3) := by decide +kernel
theorem dX4_risk_110 : decode cX4_risk 110 = .ok (.i2l, 1) := by decide +kernel
theorem dX4_risk_111 : decode cX4_risk 111 = .ok (.lmul, 1) := by decide +kernel
theorem dX4_risk_112 : decode cX4_risk 112 = .ok (.lstore 19, 2) := by decide +kernel
theorem dX4_risk_114 : decode cX4_risk 114 = .ok (.lload 11, 2) := by decide +kernel
theorem dX4_risk_116 : decode cX4_risk 116 = .ok (.ldc2_w 83, 3) := by decide +kernel
theorem dX4_risk_119 : decode cX4_risk 119 = .ok (.lmul, 1) := by decide +kernel
theorem dX4_risk_120 : decode cX4_risk 120 = .ok (.aload_n 0, 1) := by decide +kernel
theorem dX4_risk_121 : decode cX4_risk 121 = .ok (.getfield 27, 3) := by decide +kernel
theorem dX4_risk_124 : decode cX4_risk 124 = .ok (.iload 14, 2) := by decide +kernel
theorem dX4_risk_126 : decode cX4_risk 126 = .ok (.invokevirtual 100, 3) := by decide +kernel
theorem dX4_risk_129 : decode cX4_risk 129 = .ok (.ifCond .eq 7, 3) := by decide +kernel
theorem dX4_risk_132 : decode cX4_risk 132 = .ok (.lconst 0, 1) := by decide +kernel
theorem dX4_risk_133 : decode cX4_risk 133 = .ok (.goto 16, 3) := by decide +kernel
theorem dX4_risk_136 : decode cX4_risk 136 = .ok (.lload 15, 2) := by decide +kernel
theorem dX4_risk_138 : decode cX4_risk 138 = .ok (.aload_n 0, 1) := by decide +kernel
theorem dX4_risk_139 : decode cX4_risk 139 = .ok (.getfield 27, 3) := by decide +kernel
theorem dX4_risk_142 : decode cX4_risk 142 = .ok (.getfield 104, 3) := by decide +kernel
theorem dX4_risk_145 : decode cX4_risk 145 = .ok (.iload_n 1, 1) := by decide +kernel
theorem dX4_risk_146 : decode cX4_risk 146 = .ok (.iaload, 1) := by decide +kernel
theorem dX4_risk_147 : decode cX4_risk 147 = .ok (.i2l, 1) := by decide +kernel
theorem dX4_risk_148 : decode cX4_risk 148 = .ok (.lmul, 1) := by decide +kernel
theorem dX4_risk_149 : decode cX4_risk 149 = .ok (.ladd, 1) := by decide +kernel
theorem dX4_risk_150 : decode cX4_risk 150 = .ok (.lstore 11, 2) := by decide +kernel
theorem dX4_risk_152 : decode cX4_risk 152 = .ok (.lload 5, 2) := by decide +kernel
theorem dX4_risk_154 : decode cX4_risk 154 = .ok (.ldc2_w 83, 3) := by decide +kernel
theorem dX4_risk_157 : decode cX4_risk 157 = .ok (.lmul, 1) := by decide +kernel
theorem dX4_risk_158 : decode cX4_risk 158 = .ok (.lload 15, 2) := by decide +kernel
theorem dX4_risk_160 : decode cX4_risk 160 = .ok (.lsub, 1) := by decide +kernel
theorem dX4_risk_161 : decode cX4_risk 161 = .ok (.lload 17, 2) := by decide +kernel
theorem dX4_risk_163 : decode cX4_risk 163 = .ok (.ladd, 1) := by decide +kernel
theorem dX4_risk_164 : decode cX4_risk 164 = .ok (.lstore 5, 2) := by decide +kernel
theorem dX4_risk_166 : decode cX4_risk 166 = .ok (.lload 7, 2) := by decide +kernel
theorem dX4_risk_168 : decode cX4_risk 168 = .ok (.ldc2_w 83, 3) := by decide +kernel
theorem dX4_risk_171 : decode cX4_risk 171 = .ok (.lmul, 1) := by decide +kernel
theorem dX4_risk_172 : decode cX4_risk 172 = .ok (.lload 17, 2) := by decide +kernel
theorem dX4_risk_174 : decode cX4_risk 174 = .ok (.lsub, 1) := by decide +kernel
theorem dX4_risk_175 : decode cX4_risk 175 = .ok (.lload 19, 2) := by decide +kernel
theorem dX4_risk_177 : decode cX4_risk 177 = .ok (.ladd, 1) := by decide +kernel
theorem dX4_risk_178 : decode cX4_risk 178 = .ok (.lstore 7, 2) := by decide +kernel
theorem dX4_risk_180 : decode cX4_risk 180 = .ok (.lload 9, 2) := by decide +kernel
theorem dX4_risk_182 : decode cX4_risk 182 = .ok (.ldc2_w 83, 3) := by decide +kernel
theorem dX4_risk_185 : decode cX4_risk 185 = .ok (.lmul, 1) := by decide +kernel
theorem dX4_risk_186 : decode cX4_risk 186 = .ok (.lload 19, 2) := by decide +kernel
theorem dX4_risk_188 : decode cX4_risk 188 = .ok (.lsub, 1) := by decide +kernel
theorem dX4_risk_189 : decode cX4_risk 189 = .ok (.lstore 9, 2) := by decide +kernel
theorem dX4_risk_191 : decode cX4_risk 191 = .ok (.iinc 13 1, 3) := by decide +kernel
theorem dX4_risk_194 : decode cX4_risk 194 = .ok (.goto (-152), 3) := by decide +kernel
theorem dX4_risk_197 : decode cX4_risk 197 = .ok (.lload 11, 2) := by decide +kernel
theorem dX4_risk_199 : decode cX4_risk 199 = .ok (.lreturn, 1) := by decide +kernel
theorem dX5_init_0 : decode cX5_init 0 = .ok (.aload_n 0, 1) := by decide +kernel
theorem dX5_init_1 : decode cX5_init 1 = .ok (.invokespecial 1, 3) := by decide +kernel
theorem dX5_init_4 : decode cX5_init 4 = .ok (.aload_n 0, 1) := by decide +kernel
theorem dX5_init_5 : decode cX5_init 5 = .ok (.iconst 0, 1) := by decide +kernel
theorem dX5_init_6 : decode cX5_init 6 = .ok (.newarray .int, 2) := by decide +kernel
theorem dX5_init_8 : decode cX5_init 8 = .ok (.putfield 7, 3) := by decide +kernel
theorem dX5_init_11 : decode cX5_init 11 = .ok (.aload_n 0, 1) := by decide +kernel
theorem dX5_init_12 : decode cX5_init 12 = .ok (.new 13, 3) := by decide +kernel
theorem dX5_init_15 : decode cX5_init 15 = .ok (.dup, 1) := by decide +kernel
theorem dX5_init_16 : decode cX5_init 16 = .ok (.invokespecial 15, 3) := by decide +kernel
theorem dX5_init_19 : decode cX5_init 19 = .ok (.putfield 16, 3) := by decide +kernel
theorem dX5_init_22 : decode cX5_init 22 = .ok (.return_, 1) := by decide +kernel
theorem dX5_read_0 : decode cX5_read 0 = .ok (.aload_n 0, 1) := by decide +kernel
theorem dX5_read_1 : decode cX5_read 1 = .ok (.aload_n 1, 1) := by decide +kernel
theorem dX5_read_2 : decode cX5_read 2 = .ok (.putfield 7, 3) := by decide +kernel
theorem dX5_read_5 : decode cX5_read 5 = .ok (.aload_n 0, 1) := by decide +kernel
theorem dX5_read_6 : decode cX5_read 6 = .ok (.iload_n 2, 1) := by decide +kernel
theorem dX5_read_7 : decode cX5_read 7 = .ok (.aload_n 1, 1) := by decide +kernel
theorem dX5_read_8 : decode cX5_read 8 = .ok (.arraylength, 1) := by decide +kernel
theorem dX5_read_9 : decode cX5_read 9 = .ok (.invokestatic 20, 3) := by decide +kernel
theorem dX5_read_12 : decode cX5_read 12 = .ok (.putfield 26, 3) := by decide +kernel
theorem dX5_read_15 : decode cX5_read 15 = .ok (.aload_n 0, 1) := by decide +kernel
theorem dX5_read_16 : decode cX5_read 16 = .ok (.iconst 0, 1) := by decide +kernel
theorem dX5_read_17 : decode cX5_read 17 = .ok (.putfield 30, 3) := by decide +kernel
theorem dX5_read_20 : decode cX5_read 20 = .ok (.aload_n 0, 1) := by decide +kernel
theorem dX5_read_21 : decode cX5_read 21 = .ok (.getfield 16, 3) := by decide +kernel
theorem dX5_read_24 : decode cX5_read 24 = .ok (.iconst 0, 1) := by decide +kernel
theorem dX5_read_25 : decode cX5_read 25 = .ok (.putfield 33, 3) := by decide +kernel
theorem dX5_read_28 : decode cX5_read 28 = .ok (.iconst 0, 1) := by decide +kernel
theorem dX5_read_29 : decode cX5_read 29 = .ok (.istore_n 3, 1) := by decide +kernel
theorem dX5_read_30 : decode cX5_read 30 = .ok (.iload_n 3, 1) := by decide +kernel
theorem dX5_read_31 : decode cX5_read 31 = .ok (.aload_n 0, 1) := by decide +kernel
theorem dX5_read_32 : decode cX5_read 32 = .ok (.getfield 26, 3) := by decide +kernel
theorem dX5_read_35 : decode cX5_read 35 = .ok (.if_icmp .gt 58, 3) := by decide +kernel
theorem dX5_read_38 : decode cX5_read 38 = .ok (.aload_n 0, 1) := by decide +kernel
theorem dX5_read_39 : decode cX5_read 39 = .ok (.invokevirtual 36, 3) := by decide +kernel
theorem dX5_read_42 : decode cX5_read 42 = .ok (.ifCond .ne 8, 3) := by decide +kernel
theorem dX5_read_45 : decode cX5_read 45 = .ok (.aload_n 0, 1) := by decide +kernel
theorem dX5_read_46 : decode cX5_read 46 = .ok (.getfield 30, 3) := by decide +kernel
theorem dX5_read_49 : decode cX5_read 49 = .ok (.ireturn, 1) := by decide +kernel
theorem dX5_read_50 : decode cX5_read 50 = .ok (.aload_n 0, 1) := by decide +kernel
theorem dX5_read_51 : decode cX5_read 51 = .ok (.getfield 30, 3) := by decide +kernel
theorem dX5_read_54 : decode cX5_read 54 = .ok (.aload_n 0, 1) := by decide +kernel
theorem dX5_read_55 : decode cX5_read 55 = .ok (.getfield 26, 3) := by decide +kernel
theorem dX5_read_58 : decode cX5_read 58 = .ok (.if_icmp .lt 5, 3) := by decide +kernel
theorem dX5_read_61 : decode cX5_read 61 = .ok (.iconst (-1), 1) := by decide +kernel
theorem dX5_read_62 : decode cX5_read 62 = .ok (.ireturn, 1) := by decide +kernel
theorem dX5_read_63 : decode cX5_read 63 = .ok (.aload_n 0, 1) := by decide +kernel
theorem dX5_read_64 : decode cX5_read 64 = .ok (.invokevirtual 40, 3) := by decide +kernel
theorem dX5_read_67 : decode cX5_read 67 = .ok (.bipush 59, 2) := by decide +kernel
theorem dX5_read_69 : decode cX5_read 69 = .ok (.if_icmp .eq 8, 3) := by decide +kernel
theorem dX5_read_72 : decode cX5_read 72 = .ok (.aload_n 0, 1) := by decide +kernel
theorem dX5_read_73 : decode cX5_read 73 = .ok (.getfield 30, 3) := by decide +kernel
theorem dX5_read_76 : decode cX5_read 76 = .ok (.ireturn, 1) := by decide +kernel
theorem dX5_read_77 : decode cX5_read 77 = .ok (.aload_n 0, 1) := by decide +kernel
theorem dX5_read_78 : decode cX5_read 78 = .ok (.dup, 1) := by decide +kernel
theorem dX5_read_79 : decode cX5_read 79 = .ok (.getfield 30, 3) := by decide +kernel
theorem dX5_read_82 : decode cX5_read 82 = .ok (.iconst 1, 1) := by decide +kernel
theorem dX5_read_83 : decode cX5_read 83 = .ok (.iadd, 1) := by decide +kernel
theorem dX5_read_84 : decode cX5_read 84 = .ok (.putfield 30, 3) := by decide +kernel
theorem dX5_read_87 : decode cX5_read 87 = .ok (.iinc 3 1, 3) := by decide +kernel
theorem dX5_read_90 : decode cX5_read 90 = .ok (.goto (-60), 3) := by decide +kernel
theorem dX5_read_93 : decode cX5_read 93 = .ok (.aload_n 0, 1) := by decide +kernel
theorem dX5_read_94 : decode cX5_read 94 = .ok (.getfield 30, 3) := by decide +kernel
theorem dX5_read_97 : decode cX5_read 97 = .ok (.ireturn, 1) := by decide +kernel
theorem dX5_next_0 : decode cX5_next 0 = .ok (.aload_n 0, 1) := by decide +kernel
theorem dX5_next_1 : decode cX5_next 1 = .ok (.getfield 30, 3) := by decide +kernel
theorem dX5_next_4 : decode cX5_next 4 = .ok (.ifCond .lt 26, 3) := by decide +kernel
theorem dX5_next_7 : decode cX5_next 7 = .ok (.aload_n 0, 1) := by decide +kernel
theorem dX5_next_8 : decode cX5_next 8 = .ok (.getfield 30, 3) := by decide +kernel
theorem dX5_next_11 : decode cX5_next 11 = .ok (.aload_n 0, 1) := by decide +kernel
theorem dX5_next_12 : decode cX5_next 12 = .ok (.getfield 26, 3) := by decide +kernel
theorem dX5_next_15 : decode cX5_next 15 = .ok (.if_icmp .ge 15, 3) := by decide +kernel
theorem dX5_next_18 : decode cX5_next 18 = .ok (.aload_n 0, 1) := by decide +kernel
theorem dX5_next_19 : decode cX5_next 19 = .ok (.getfield 7, 3) := by decide +kernel
theorem dX5_next_22 : decode cX5_next 22 = .ok (.aload_n 0, 1) := by decide +kernel
theorem dX5_next_23 : decode cX5_next 23 = .ok (.getfield 30, 3) := by decide +kernel
theorem dX5_next_26 : decode cX5_next 26 = .ok (.iaload, 1) := by decide +kernel
theorem dX5_next_27 : decode cX5_next 27 = .ok (.goto 4, 3) := by decide +kernel
theorem dX5_next_30 : decode cX5_next 30 = .ok (.iconst (-1), 1) := by decide +kernel
theorem dX5_next_31 : decode cX5_next 31 = .ok (.ireturn, 1) := by decide +kernel
theorem dX5_line_0 : decode cX5_line 0 = .ok (.aload_n 0, 1) := by decide +kernel
theorem dX5_line_1 : decode cX5_line 1 = .ok (.iconst 0, 1) := by decide +kernel
theorem dX5_line_2 : decode cX5_line 2 = .ok (.iconst 0, 1) := by decide +kernel
theorem dX5_line_3 : decode cX5_line 3 = .ok (.invokevirtual 44, 3) := by decide +kernel
theorem dX5_line_6 : decode cX5_line 6 = .ok (.ifCond .ne 5, 3) := by decide +kernel
theorem dX5_line_9 : decode cX5_line 9 = .ok (.iconst 0, 1) := by decide +kernel
theorem dX5_line_10 : decode cX5_line 10 = .ok (.ireturn, 1) := by decide +kernel
theorem dX5_line_11 : decode cX5_line 11 = .ok (.aload_n 0, 1) := by decide +kernel
theorem dX5_line_12 : decode cX5_line 12 = .ok (.invokevirtual 40, 3) := by decide +kernel
theorem dX5_line_15 : decode cX5_line 15 = .ok (.bipush 63, 2) := by decide +kernel
theorem dX5_line_17 : decode cX5_line 17 = .ok (.if_icmp .ne 34, 3) := by decide +kernel
theorem dX5_line_20 : decode cX5_line 20 = .ok (.aload_n 0, 1) := by decide +kernel
theorem dX5_line_21 : decode cX5_line 21 = .ok (.dup, 1) := by decide +kernel
theorem dX5_line_22 : decode cX5_line 22 = .ok (.getfield 30, 3) := by decide +kernel
theorem dX5_line_25 : decode cX5_line 25 = .ok (.iconst 1, 1) := by decide +kernel
theorem dX5_line_26 : decode cX5_line 26 = .ok (.iadd, 1) := by decide +kernel
theorem dX5_line_27 : decode cX5_line 27 = .ok (.putfield 30, 3) := by decide +kernel
theorem dX5_line_30 : decode cX5_line 30 = .ok (.aload_n 0, 1) := by decide +kernel
theorem dX5_line_31 : decode cX5_line 31 = .ok (.getfield 16, 3) := by decide +kernel
theorem dX5_line_34 : decode cX5_line 34 = .ok (.bipush 63, 2) := by decide +kernel
theorem dX5_line_36 : decode cX5_line 36 = .ok (.iconst 0, 1) := by decide +kernel
theorem dX5_line_37 : decode cX5_line 37 = .ok (.invokevirtual 48, 3) := by decide +kernel
theorem dX5_line_40 : decode cX5_line 40 = .ok (.aload_n 0, 1) := by decide +kernel
theorem dX5_line_41 : decode cX5_line 41 = .ok (.iconst 0, 1) := by decide +kernel
theorem dX5_line_42 : decode cX5_line 42 = .ok (.iconst 0, 1) := by decide +kernel
theorem dX5_line_43 : decode cX5_line 43 = .ok (.invokevirtual 44, 3) := by decide +kernel
theorem dX5_line_46 : decode cX5_line 46 = .ok (.ifCond .ne 5, 3) := by decide +kernel
theorem dX5_line_49 : decode cX5_line 49 = .ok (.iconst 0, 1) := by decide +kernel
theorem dX5_line_50 : decode cX5_line 50 = .ok (.ireturn, 1) := by decide +kernel
theorem dX5_line_51 : decode cX5_line 51 = .ok (.aload_n 0, 1) := by decide +kernel
theorem dX5_line_52 : decode cX5_line 52 = .ok (.getfield 16, 3) := by decide +kernel
theorem dX5_line_55 : decode cX5_line 55 = .ok (.bipush 59, 2) := by decide +kernel
theorem dX5_line_57 : decode cX5_line 57 = .ok (.iconst 0, 1) := by decide +kernel
theorem dX5_line_58 : decode cX5_line 58 = .ok (.invokevirtual 48, 3) := by decide +kernel
theorem dX5_line_61 : decode cX5_line 61 = .ok (.iconst 1, 1) := by decide +kernel
theorem dX5_line_62 : decode cX5_line 62 = .ok (.ireturn, 1) := by decide +kernel
theorem dX5_binary_0 : decode cX5_binary 0 = .ok (.iload_n 1, 1) := by decide +kernel
theorem dX5_binary_1 : decode cX5_binary 1 = .ok (.iconst 5, 1) := by decide +kernel
theorem dX5_binary_2 : decode cX5_binary 2 = .ok (.if_icmp .lt 9, 3) := by decide +kernel
theorem dX5_binary_5 : decode cX5_binary 5 = .ok (.aload_n 0, 1) := by decide +kernel
theorem dX5_binary_6 : decode cX5_binary 6 = .ok (.iload_n 2, 1) := by decide +kernel
theorem dX5_binary_7 : decode cX5_binary 7 = .ok (.invokevirtual 52, 3) := by decide +kernel
theorem dX5_binary_10 : decode cX5_binary 10 = .ok (.ireturn, 1) := by decide +kernel
theorem dX5_binary_11 : decode cX5_binary 11 = .ok (.aload_n 0, 1) := by decide +kernel
theorem dX5_binary_12 : decode cX5_binary 12 = .ok (.iload_n 1, 1) := by decide +kernel
theorem dX5_binary_13 : decode cX5_binary 13 = .ok (.iconst 1, 1) := by decide +kernel
theorem dX5_binary_14 : decode cX5_binary 14 = .ok (.iadd, 1) := by decide +kernel
theorem dX5_binary_15 : decode cX5_binary 15 = .ok (.iload_n 2, 1) := by decide +kernel
theorem dX5_binary_16 : decode cX5_binary 16 = .ok (.invokevirtual 44, 3) := by decide +kernel
theorem dX5_binary_19 : decode cX5_binary 19 = .ok (.ifCond .ne 5, 3) := by decide +kernel
theorem dX5_binary_22 : decode cX5_binary 22 = .ok (.iconst 0, 1) := by decide +kernel
theorem dX5_binary_23 : decode cX5_binary 23 = .ok (.ireturn, 1) := by decide +kernel
theorem dX5_binary_24 : decode cX5_binary 24 = .ok (.iload_n 1, 1) := by decide +kernel
theorem dX5_binary_25 : decode cX5_binary 25 = .ok (.iconst 2, 1) := by decide +kernel
theorem dX5_binary_26 : decode cX5_binary 26 = .ok (.if_icmp .ne 7, 3) := by decide +kernel
theorem dX5_binary_29 : decode cX5_binary 29 = .ok (.iconst 1, 1) := by decide +kernel
theorem dX5_binary_30 : decode cX5_binary 30 = .ok (.goto 7, 3) := by decide +kernel
theorem dX5_binary_33 : decode cX5_binary 33 = .ok (.aload_n 0, 1) := by decide +kernel
theorem dX5_binary_34 : decode cX5_binary 34 = .ok (.getfield 26, 3) := by decide +kernel
theorem dX5_binary_37 : decode cX5_binary 37 = .ok (.istore_n 3, 1) := by decide +kernel
theorem dX5_binary_38 : decode cX5_binary 38 = .ok (.iconst 0, 1) := by decide +kernel
theorem dX5_binary_39 : decode cX5_binary 39 = .ok (.istore 4, 2) := by decide +kernel
theorem dX5_binary_41 : decode cX5_binary 41 = .ok (.iload 4, 2) := by decide +kernel
theorem dX5_binary_43 : decode cX5_binary 43 = .ok (.iload_n 3, 1) := by decide +kernel
theorem dX5_binary_44 : decode cX5_binary 44 = .ok (.if_icmp .ge 59, 3) := by decide +kernel
theorem dX5_binary_47 : decode cX5_binary 47 = .ok (.aload_n 0, 1) := by decide +kernel
theorem dX5_binary_48 : decode cX5_binary 48 = .ok (.invokevirtual 40, 3) := by decide +kernel
theorem dX5_binary_51 : decode cX5_binary 51 = .ok (.istore 5, 2) := by decide +kernel
theorem dX5_binary_53 : decode cX5_binary 53 = .ok (.iload 5, 2) := by decide +kernel
theorem dX5_binary_55 : decode cX5_binary 55 = .ok (.invokestatic 56, 3) := by decide +kernel
theorem dX5_binary_58 : decode cX5_binary 58 = .ok (.iload_n 1, 1) := by decide +kernel
theorem dX5_binary_59 : decode cX5_binary 59 = .ok (.if_icmp .eq 5, 3) := by decide +kernel
theorem dX5_binary_62 : decode cX5_binary 62 = .ok (.iconst 1, 1) := by decide +kernel
theorem dX5_binary_63 : decode cX5_binary 63 = .ok (.ireturn, 1) := by decide +kernel
theorem dX5_binary_64 : decode cX5_binary 64 = .ok (.aload_n 0, 1) := by decide +kernel
theorem dX5_binary_65 : decode cX5_binary 65 = .ok (.dup, 1) := by decide +kernel
theorem dX5_binary_66 : decode cX5_binary 66 = .ok (.getfield 30, 3) := by decide +kernel
theorem dX5_binary_69 : decode cX5_binary 69 = .ok (.iconst 1, 1) := by decide +kernel
theorem dX5_binary_70 : decode cX5_binary 70 = .ok (.iadd, 1) := by decide +kernel
theorem dX5_binary_71 : decode cX5_binary 71 = .ok (.putfield 30, 3) := by decide +kernel
theorem dX5_binary_74 : decode cX5_binary 74 = .ok (.aload_n 0, 1) := by decide +kernel
theorem dX5_binary_75 : decode cX5_binary 75 = .ok (.iload_n 1, 1) := by decide +kernel
theorem dX5_binary_76 : decode cX5_binary 76 = .ok (.iconst 1, 1) := by decide +kernel
theorem dX5_binary_77 : decode cX5_binary 77 = .ok (.iadd, 1) := by decide +kernel
theorem dX5_binary_78 : decode cX5_binary 78 = .ok (.iload_n 2, 1) := by decide +kernel
theorem dX5_binary_79 : decode cX5_binary 79 = .ok (.invokevirtual 44, 3) := by decide +kernel
theorem dX5_binary_82 : decode cX5_binary 82 = .ok (.ifCond .ne 5, 3) := by decide +kernel
theorem dX5_binary_85 : decode cX5_binary 85 = .ok (.iconst 0, 1) := by decide +kernel
theorem dX5_binary_86 : decode cX5_binary 86 = .ok (.ireturn, 1) := by decide +kernel
theorem dX5_binary_87 : decode cX5_binary 87 = .ok (.aload_n 0, 1) := by decide +kernel
theorem dX5_binary_88 : decode cX5_binary 88 = .ok (.getfield 16, 3) := by decide +kernel
theorem dX5_binary_91 : decode cX5_binary 91 = .ok (.iload 5, 2) := by decide +kernel
theorem dX5_binary_93 : decode cX5_binary 93 = .ok (.iconst 0, 1) := by decide +kernel
theorem dX5_binary_94 : decode cX5_binary 94 = .ok (.invokevirtual 48, 3) := by decide +kernel
theorem dX5_binary_97 : decode cX5_binary 97 = .ok (.iinc 4 1, 3) := by decide +kernel
theorem dX5_binary_100 : decode cX5_binary 100 = .ok (.goto (-59), 3) := by decide +kernel
theorem dX5_binary_103 : decode cX5_binary 103 = .ok (.iconst 1, 1) := by decide +kernel
theorem dX5_binary_104 : decode cX5_binary 104 = .ok (.ireturn, 1) := by decide +kernel
theorem dX5_levelOf_0 : decode cX5_levelOf 0 = .ok (.iload_n 0, 1) := by decide +kernel
theorem dX5_levelOf_1 : decode cX5_levelOf 1 = .ok (.lookupswitch 101 #[(37, 99), (38, 93), (42, 99), (43, 97), (45, 97), (47, 99), (60, 95), (61, 95), (62, 95), (124, 91)], 91) := by decide +kernel
theorem dX5_levelOf_92 : decode cX5_levelOf 92 = .ok (.iconst 0, 1) := by decide +kernel
theorem dX5_levelOf_93 : decode cX5_levelOf 93 = .ok (.ireturn, 1) := by decide +kernel
theorem dX5_levelOf_94 : decode cX5_levelOf 94 = .ok (.iconst 1, 1) := by decide +kernel
theorem dX5_levelOf_95 : decode cX5_levelOf 95 = .ok (.ireturn, 1) := by decide +kernel
theorem dX5_levelOf_96 : decode cX5_levelOf 96 = .ok (.iconst 2, 1) := by decide +kernel
theorem dX5_levelOf_97 : decode cX5_levelOf 97 = .ok (.ireturn, 1) := by decide +kernel
theorem dX5_levelOf_98 : decode cX5_levelOf 98 = .ok (.iconst 3, 1) := by decide +kernel
theorem dX5_levelOf_99 : decode cX5_levelOf 99 = .ok (.ireturn, 1) := by decide +kernel
theorem dX5_levelOf_100 : decode cX5_levelOf 100 = .ok (.iconst 4, 1) := by decide +kernel
theorem dX5_levelOf_101 : decode cX5_levelOf 101 = .ok (.ireturn, 1) := by decide +kernel
theorem dX5_levelOf_102 : decode cX5_levelOf 102 = .ok (.iconst 5, 1) := by decide +kernel
theorem dX5_levelOf_103 : decode cX5_levelOf 103 = .ok (.ireturn, 1) := by decide +kernel
theorem dX5_operand_0 : decode cX5_operand 0 = .ok (.aload_n 0, 1) := by decide +kernel
theorem dX5_operand_1 : decode cX5_operand 1 = .ok (.invokevirtual 40, 3) := by decide +kernel
theorem dX5_operand_4 : decode cX5_operand 4 = .ok (.istore_n 2, 1) := by decide +kernel
theorem dX5_operand_5 : decode cX5_operand 5 = .ok (.iload_n 2, 1) := by decide +kernel
theorem dX5_operand_6 : decode cX5_operand 6 = .ok (.bipush 48, 2) := by decide +kernel
theorem dX5_operand_8 : decode cX5_operand 8 = .ok (.if_icmp .lt 14, 3) := by decide +kernel
theorem dX5_operand_11 : decode cX5_operand 11 = .ok (.iload_n 2, 1) := by decide +kernel
theorem dX5_operand_12 : decode cX5_operand 12 = .ok (.bipush 57, 2) := by decide +kernel
theorem dX5_operand_14 : decode cX5_operand 14 = .ok (.if_icmp .gt 8, 3) := by decide +kernel
theorem dX5_operand_17 : decode cX5_operand 17 = .ok (.aload_n 0, 1) := by decide +kernel
theorem dX5_operand_18 : decode cX5_operand 18 = .ok (.invokevirtual 60, 3) := by decide +kernel
theorem dX5_operand_21 : decode cX5_operand 21 = .ok (.ireturn, 1) := by decide +kernel
theorem dX5_operand_22 : decode cX5_operand 22 = .ok (.iload_n 2, 1) := by decide +kernel
theorem dX5_operand_23 : decode cX5_operand 23 = .ok (.bipush 115, 2) := by decide +kernel
theorem dX5_operand_25 : decode cX5_operand 25 = .ok (.if_icmp .eq 21, 3) := by decide +kernel
theorem dX5_operand_28 : decode cX5_operand 28 = .ok (.iload_n 2, 1) := by decide +kernel
theorem dX5_operand_29 : decode cX5_operand 29 = .ok (.bipush 116, 2) := by decide +kernel
theorem dX5_operand_31 : decode cX5_operand 31 = .ok (.if_icmp .eq 15, 3) := by decide +kernel
theorem dX5_operand_34 : decode cX5_operand 34 = .ok (.iload_n 2, 1) := by decide +kernel
theorem dX5_operand_35 : decode cX5_operand 35 = .ok (.bipush 97, 2) := by decide +kernel
theorem dX5_operand_37 : decode cX5_operand 37 = .ok (.if_icmp .eq 9, 3) := by decide +kernel
theorem dX5_operand_40 : decode cX5_operand 40 = .ok (.iload_n 2, 1) := by decide +kernel
theorem dX5_operand_41 : decode cX5_operand 41 = .ok (.bipush 108, 2) := by decide +kernel
theorem dX5_operand_43 : decode cX5_operand 43 = .ok (.if_icmp .ne 24, 3) := by decide +kernel
theorem dX5_operand_46 : decode cX5_operand 46 = .ok (.aload_n 0, 1) := by decide +kernel
theorem dX5_operand_47 : decode cX5_operand 47 = .ok (.dup, 1) := by decide +kernel
theorem dX5_operand_48 : decode cX5_operand 48 = .ok (.getfield 30, 3) := by decide +kernel
theorem dX5_operand_51 : decode cX5_operand 51 = .ok (.iconst 1, 1) := by decide +kernel
theorem dX5_operand_52 : decode cX5_operand 52 = .ok (.iadd, 1) := by decide +kernel
theorem dX5_operand_53 : decode cX5_operand 53 = .ok (.putfield 30, 3) := by decide +kernel
theorem dX5_operand_56 : decode cX5_operand 56 = .ok (.aload_n 0, 1) := by decide +kernel
theorem dX5_operand_57 : decode cX5_operand 57 = .ok (.getfield 16, 3) := by decide +kernel
theorem dX5_operand_60 : decode cX5_operand 60 = .ok (.iload_n 2, 1) := by decide +kernel
theorem dX5_operand_61 : decode cX5_operand 61 = .ok (.iconst 0, 1) := by decide +kernel
theorem dX5_operand_62 : decode cX5_operand 62 = .ok (.invokevirtual 48, 3) := by decide +kernel
theorem dX5_operand_65 : decode cX5_operand 65 = .ok (.iconst 1, 1) := by decide +kernel
theorem dX5_operand_66 : decode cX5_operand 66 = .ok (.ireturn, 1) := by decide +kernel
theorem dX5_operand_67 : decode cX5_operand 67 = .ok (.iload_n 1, 1) := by decide +kernel
theorem dX5_operand_68 : decode cX5_operand 68 = .ok (.bipush 6, 2) := by decide +kernel
theorem dX5_operand_70 : decode cX5_operand 70 = .ok (.if_icmp .ge 21, 3) := by decide +kernel
theorem dX5_operand_73 : decode cX5_operand 73 = .ok (.iload_n 2, 1) := by decide +kernel
theorem dX5_operand_74 : decode cX5_operand 74 = .ok (.bipush 40, 2) := by decide +kernel
theorem dX5_operand_76 : decode cX5_operand 76 = .ok (.if_icmp .eq 17, 3) := by decide +kernel
theorem dX5_operand_79 : decode cX5_operand 79 = .ok (.iload_n 2, 1) := by decide +kernel
theorem dX5_operand_80 : decode cX5_operand 80 = .ok (.bipush 33, 2) := by decide +kernel
theorem dX5_operand_82 : decode cX5_operand 82 = .ok (.if_icmp .eq 11, 3) := by decide +kernel
theorem dX5_operand_85 : decode cX5_operand 85 = .ok (.iload_n 2, 1) := by decide +kernel
theorem dX5_operand_86 : decode cX5_operand 86 = .ok (.bipush 45, 2) := by decide +kernel
theorem dX5_operand_88 : decode cX5_operand 88 = .ok (.if_icmp .eq 5, 3) := by decide +kernel
theorem dX5_operand_91 : decode cX5_operand 91 = .ok (.iconst 0, 1) := by decide +kernel
theorem dX5_operand_92 : decode cX5_operand 92 = .ok (.ireturn, 1) := by decide +kernel
theorem dX5_operand_93 : decode cX5_operand 93 = .ok (.aload_n 0, 1) := by decide +kernel
theorem dX5_operand_94 : decode cX5_operand 94 = .ok (.dup, 1) := by decide +kernel
theorem dX5_operand_95 : decode cX5_operand 95 = .ok (.getfield 30, 3) := by decide +kernel
theorem dX5_operand_98 : decode cX5_operand 98 = .ok (.iconst 1, 1) := by decide +kernel
theorem dX5_operand_99 : decode cX5_operand 99 = .ok (.iadd, 1) := by decide +kernel
theorem dX5_operand_100 : decode cX5_operand 100 = .ok (.putfield 30, 3) := by decide +kernel
theorem dX5_operand_103 : decode cX5_operand 103 = .ok (.iload_n 2, 1) := by decide +kernel
theorem dX5_operand_104 : decode cX5_operand 104 = .ok (.bipush 40, 2) := by decide +kernel
theorem dX5_operand_106 : decode cX5_operand 106 = .ok (.if_icmp .ne 37, 3) := by decide +kernel
theorem dX5_operand_109 : decode cX5_operand 109 = .ok (.aload_n 0, 1) := by decide +kernel
theorem dX5_operand_110 : decode cX5_operand 110 = .ok (.iconst 0, 1) := by decide +kernel
theorem dX5_operand_111 : decode cX5_operand 111 = .ok (.iload_n 1, 1) := by decide +kernel
theorem dX5_operand_112 : decode cX5_operand 112 = .ok (.iconst 1, 1) := by decide +kernel
theorem dX5_operand_113 : decode cX5_operand 113 = .ok (.iadd, 1) := by decide +kernel
theorem dX5_operand_114 : decode cX5_operand 114 = .ok (.invokevirtual 44, 3) := by decide +kernel
theorem dX5_operand_117 : decode cX5_operand 117 = .ok (.ifCond .eq 12, 3) := by decide +kernel
theorem dX5_operand_120 : decode cX5_operand 120 = .ok (.aload_n 0, 1) := by decide +kernel
theorem dX5_operand_121 : decode cX5_operand 121 = .ok (.invokevirtual 40, 3) := by decide +kernel
theorem dX5_operand_124 : decode cX5_operand 124 = .ok (.bipush 41, 2) := by decide +kernel
theorem dX5_operand_126 : decode cX5_operand 126 = .ok (.if_icmp .eq 5, 3) := by decide +kernel
theorem dX5_operand_129 : decode cX5_operand 129 = .ok (.iconst 0, 1) := by decide +kernel
theorem dX5_operand_130 : decode cX5_operand 130 = .ok (.ireturn, 1) := by decide +kernel
theorem dX5_operand_131 : decode cX5_operand 131 = .ok (.aload_n 0, 1) := by decide +kernel
theorem dX5_operand_132 : decode cX5_operand 132 = .ok (.dup, 1) := by decide +kernel
theorem dX5_operand_133 : decode cX5_operand 133 = .ok (.getfield 30, 3) := by decide +kernel
theorem dX5_operand_136 : decode cX5_operand 136 = .ok (.iconst 1, 1) := by decide +kernel
theorem dX5_operand_137 : decode cX5_operand 137 = .ok (.iadd, 1) := by decide +kernel
theorem dX5_operand_138 : decode cX5_operand 138 = .ok (.putfield 30, 3) := by decide +kernel
theorem dX5_operand_141 : decode cX5_operand 141 = .ok (.iconst 1, 1) := by decide +kernel
theorem dX5_operand_142 : decode cX5_operand 142 = .ok (.ireturn, 1) := by decide +kernel
theorem dX5_operand_143 : decode cX5_operand 143 = .ok (.aload_n 0, 1) := by decide +kernel
theorem dX5_operand_144 : decode cX5_operand 144 = .ok (.iload_n 1, 1) := by decide +kernel
theorem dX5_operand_145 : decode cX5_operand 145 = .ok (.iconst 1, 1) := by decide +kernel
theorem dX5_operand_146 : decode cX5_operand 146 = .ok (.iadd, 1) := by decide +kernel
theorem dX5_operand_147 : decode cX5_operand 147 = .ok (.invokevirtual 52, 3) := by decide +kernel
theorem dX5_operand_150 : decode cX5_operand 150 = .ok (.ifCond .ne 5, 3) := by decide +kernel
theorem dX5_operand_153 : decode cX5_operand 153 = .ok (.iconst 0, 1) := by decide +kernel
theorem dX5_operand_154 : decode cX5_operand 154 = .ok (.ireturn, 1) := by decide +kernel
theorem dX5_operand_155 : decode cX5_operand 155 = .ok (.aload_n 0, 1) := by decide +kernel
theorem dX5_operand_156 : decode cX5_operand 156 = .ok (.getfield 16, 3) := by decide +kernel
theorem dX5_operand_159 : decode cX5_operand 159 = .ok (.iload_n 2, 1) := by decide +kernel
theorem dX5_operand_160 : decode cX5_operand 160 = .ok (.bipush 45, 2) := by decide +kernel
theorem dX5_operand_162 : decode cX5_operand 162 = .ok (.if_icmp .ne 8, 3) := by decide +kernel
theorem dX5_operand_165 : decode cX5_operand 165 = .ok (.bipush 126, 2) := by decide +kernel
theorem dX5_operand_167 : decode cX5_operand 167 = .ok (.goto 4, 3) := by decide +kernel
theorem dX5_operand_170 : decode cX5_operand 170 = .ok (.iload_n 2, 1) := by decide +kernel
theorem dX5_operand_171 : decode cX5_operand 171 = .ok (.iconst 0, 1) := by decide +kernel
theorem dX5_operand_172 : decode cX5_operand 172 = .ok (.invokevirtual 48, 3) := by decide +kernel
theorem dX5_operand_175 : decode cX5_operand 175 = .ok (.iconst 1, 1) := by decide +kernel
theorem dX5_operand_176 : decode cX5_operand 176 = .ok (.ireturn, 1) := by decide +kernel
theorem dX5_number_0 : decode cX5_number 0 = .ok (.iconst 0, 1) := by decide +kernel
theorem dX5_number_1 : decode cX5_number 1 = .ok (.istore_n 1, 1) := by decide +kernel
theorem dX5_number_2 : decode cX5_number 2 = .ok (.iconst 0, 1) := by decide +kernel
theorem dX5_number_3 : decode cX5_number 3 = .ok (.istore_n 2, 1) := by decide +kernel
theorem dX5_number_4 : decode cX5_number 4 = .ok (.iload_n 2, 1) := by decide +kernel
theorem dX5_number_5 : decode cX5_number 5 = .ok (.iconst 4, 1) := by decide +kernel
theorem dX5_number_6 : decode cX5_number 6 = .ok (.if_icmp .ge 50, 3) := by decide +kernel
theorem dX5_number_9 : decode cX5_number 9 = .ok (.aload_n 0, 1) := by decide +kernel
theorem dX5_number_10 : decode cX5_number 10 = .ok (.invokevirtual 40, 3) := by decide +kernel
theorem dX5_number_13 : decode cX5_number 13 = .ok (.bipush 48, 2) := by decide +kernel
theorem dX5_number_15 : decode cX5_number 15 = .ok (.if_icmp .lt 41, 3) := by decide +kernel
theorem dX5_number_18 : decode cX5_number 18 = .ok (.aload_n 0, 1) := by decide +kernel
theorem dX5_number_19 : decode cX5_number 19 = .ok (.invokevirtual 40, 3) := by decide +kernel
theorem dX5_number_22 : decode cX5_number 22 = .ok (.bipush 57, 2) := by decide +kernel
theorem dX5_number_24 : decode cX5_number 24 = .ok (.if_icmp .gt 32, 3) := by decide +kernel
theorem dX5_number_27 : decode cX5_number 27 = .ok (.iload_n 1, 1) := by decide +kernel
theorem dX5_number_28 : decode cX5_number 28 = .ok (.bipush 10, 2) := by decide +kernel
theorem dX5_number_30 : decode cX5_number 30 = .ok (.imul, 1) := by decide +kernel
theorem dX5_number_31 : decode cX5_number 31 = .ok (.aload_n 0, 1) := by decide +kernel
theorem dX5_number_32 : decode cX5_number 32 = .ok (.invokevirtual 40, 3) := by decide +kernel
theorem dX5_number_35 : decode cX5_number 35 = .ok (.iadd, 1) := by decide +kernel
theorem dX5_number_36 : decode cX5_number 36 = .ok (.bipush 48, 2) := by decide +kernel
theorem dX5_number_38 : decode cX5_number 38 = .ok (.isub, 1) := by decide +kernel
theorem dX5_number_39 : decode cX5_number 39 = .ok (.istore_n 1, 1) := by decide +kernel
theorem dX5_number_40 : decode cX5_number 40 = .ok (.aload_n 0, 1) := by decide +kernel
theorem dX5_number_41 : decode cX5_number 41 = .ok (.dup, 1) := by decide +kernel
theorem dX5_number_42 : decode cX5_number 42 = .ok (.getfield 30, 3) := by decide +kernel
theorem dX5_number_45 : decode cX5_number 45 = .ok (.iconst 1, 1) := by decide +kernel
theorem dX5_number_46 : decode cX5_number 46 = .ok (.iadd, 1) := by decide +kernel
theorem dX5_number_47 : decode cX5_number 47 = .ok (.putfield 30, 3) := by decide +kernel
theorem dX5_number_50 : decode cX5_number 50 = .ok (.iinc 2 1, 3) := by decide +kernel
theorem dX5_number_53 : decode cX5_number 53 = .ok (.goto (-49), 3) := by decide +kernel
theorem dX5_number_56 : decode cX5_number 56 = .ok (.aload_n 0, 1) := by decide +kernel
theorem dX5_number_57 : decode cX5_number 57 = .ok (.getfield 16, 3) := by decide +kernel
theorem dX5_number_60 : decode cX5_number 60 = .ok (.bipush 48, 2) := by decide +kernel
theorem dX5_number_62 : decode cX5_number 62 = .ok (.iload_n 1, 1) := by decide +kernel
theorem dX5_number_63 : decode cX5_number 63 = .ok (.invokevirtual 48, 3) := by decide +kernel
theorem dX5_number_66 : decode cX5_number 66 = .ok (.iconst 1, 1) := by decide +kernel
theorem dX5_number_67 : decode cX5_number 67 = .ok (.ireturn, 1) := by decide +kernel
theorem dX6_init_0 : decode cX6_init 0 = .ok (.aload_n 0, 1) := by decide +kernel
theorem dX6_init_1 : decode cX6_init 1 = .ok (.invokespecial 3, 3) := by decide +kernel
theorem dX6_init_4 : decode cX6_init 4 = .ok (.aload_n 0, 1) := by decide +kernel
theorem dX6_init_5 : decode cX6_init 5 = .ok (.bipush 60, 2) := by decide +kernel
theorem dX6_init_7 : decode cX6_init 7 = .ok (.newarray .long, 2) := by decide +kernel
theorem dX6_init_9 : decode cX6_init 9 = .ok (.putfield 11, 3) := by decide +kernel
theorem dX6_init_12 : decode cX6_init 12 = .ok (.return_, 1) := by decide +kernel
theorem dX6_holdNothing_0 : decode cX6_holdNothing 0 = .ok (.aload_n 0, 1) := by decide +kernel
theorem dX6_holdNothing_1 : decode cX6_holdNothing 1 = .ok (.iconst 0, 1) := by decide +kernel
theorem dX6_holdNothing_2 : decode cX6_holdNothing 2 = .ok (.putfield 15, 3) := by decide +kernel
theorem dX6_holdNothing_5 : decode cX6_holdNothing 5 = .ok (.return_, 1) := by decide +kernel
theorem dX6_holdPerson_0 : decode cX6_holdPerson 0 = .ok (.aload_n 0, 1) := by decide +kernel
theorem dX6_holdPerson_1 : decode cX6_holdPerson 1 = .ok (.iconst 1, 1) := by decide +kernel
theorem dX6_holdPerson_2 : decode cX6_holdPerson 2 = .ok (.putfield 15, 3) := by decide +kernel
theorem dX6_holdPerson_5 : decode cX6_holdPerson 5 = .ok (.aload_n 0, 1) := by decide +kernel
theorem dX6_holdPerson_6 : decode cX6_holdPerson 6 = .ok (.iload_n 1, 1) := by decide +kernel
theorem dX6_holdPerson_7 : decode cX6_holdPerson 7 = .ok (.putfield 19, 3) := by decide +kernel
theorem dX6_holdPerson_10 : decode cX6_holdPerson 10 = .ok (.return_, 1) := by decide +kernel
theorem dX6_holdRow_0 : decode cX6_holdRow 0 = .ok (.aload_n 0, 1) := by decide +kernel
theorem dX6_holdRow_1 : decode cX6_holdRow 1 = .ok (.iconst 2, 1) := by decide +kernel
theorem dX6_holdRow_2 : decode cX6_holdRow 2 = .ok (.putfield 15, 3) := by decide +kernel
theorem dX6_holdRow_5 : decode cX6_holdRow 5 = .ok (.aload_n 0, 1) := by decide +kernel
theorem dX6_holdRow_6 : decode cX6_holdRow 6 = .ok (.iload_n 1, 1) := by decide +kernel
theorem dX6_holdRow_7 : decode cX6_holdRow 7 = .ok (.putfield 22, 3) := by decide +kernel
theorem dX6_holdRow_10 : decode cX6_holdRow 10 = .ok (.aload_n 0, 1) := by decide +kernel
theorem dX6_holdRow_11 : decode cX6_holdRow 11 = .ok (.iload_n 2, 1) := by decide +kernel
theorem dX6_holdRow_12 : decode cX6_holdRow 12 = .ok (.putfield 25, 3) := by decide +kernel
theorem dX6_holdRow_15 : decode cX6_holdRow 15 = .ok (.aload_n 0, 1) := by decide +kernel
theorem dX6_holdRow_16 : decode cX6_holdRow 16 = .ok (.getfield 11, 3) := by decide +kernel
theorem dX6_holdRow_19 : decode cX6_holdRow 19 = .ok (.lconst 0, 1) := by decide +kernel
theorem dX6_holdRow_20 : decode cX6_holdRow 20 = .ok (.invokestatic 28, 3) := by decide +kernel
theorem dX6_holdRow_23 : decode cX6_holdRow 23 = .ok (.return_, 1) := by decide +kernel
theorem dX6_isRowOf_0 : decode cX6_isRowOf 0 = .ok (.aload_n 0, 1) := by decide +kernel
theorem dX6_isRowOf_1 : decode cX6_isRowOf 1 = .ok (.getfield 15, 3) := by decide +kernel
theorem dX6_isRowOf_4 : decode cX6_isRowOf 4 = .ok (.iconst 2, 1) := by decide +kernel
theorem dX6_isRowOf_5 : decode cX6_isRowOf 5 = .ok (.if_icmp .ne 15, 3) := by decide +kernel
theorem dX6_isRowOf_8 : decode cX6_isRowOf 8 = .ok (.aload_n 0, 1) := by decide +kernel
theorem dX6_isRowOf_9 : decode cX6_isRowOf 9 = .ok (.getfield 22, 3) := by decide +kernel
theorem dX6_isRowOf_12 : decode cX6_isRowOf 12 = .ok (.iload_n 1, 1) := by decide +kernel
theorem dX6_isRowOf_13 : decode cX6_isRowOf 13 = .ok (.if_icmp .ne 7, 3) := by decide +kernel
theorem dX6_isRowOf_16 : decode cX6_isRowOf 16 = .ok (.iconst 1, 1) := by decide +kernel
theorem dX6_isRowOf_17 : decode cX6_isRowOf 17 = .ok (.goto 4, 3) := by decide +kernel
theorem dX6_isRowOf_20 : decode cX6_isRowOf 20 = .ok (.iconst 0, 1) := by decide +kernel
theorem dX6_isRowOf_21 : decode cX6_isRowOf 21 = .ok (.ireturn, 1) := by decide +kernel
theorem dX6_hasPlaces_0 : decode cX6_hasPlaces 0 = .ok (.iload_n 2, 1) := by decide +kernel
theorem dX6_hasPlaces_1 : decode cX6_hasPlaces 1 = .ok (.ifCond .lt 29, 3) := by decide +kernel
theorem dX6_hasPlaces_4 : decode cX6_hasPlaces 4 = .ok (.iload_n 2, 1) := by decide +kernel
theorem dX6_hasPlaces_5 : decode cX6_hasPlaces 5 = .ok (.aload_n 0, 1) := by decide +kernel
theorem dX6_hasPlaces_6 : decode cX6_hasPlaces 6 = .ok (.getfield 25, 3) := by decide +kernel
theorem dX6_hasPlaces_9 : decode cX6_hasPlaces 9 = .ok (.if_icmp .gt 21, 3) := by decide +kernel
theorem dX6_hasPlaces_12 : decode cX6_hasPlaces 12 = .ok (.iload_n 1, 1) := by decide +kernel
theorem dX6_hasPlaces_13 : decode cX6_hasPlaces 13 = .ok (.ifCond .lt 17, 3) := by decide +kernel
theorem dX6_hasPlaces_16 : decode cX6_hasPlaces 16 = .ok (.iload_n 1, 1) := by decide +kernel
theorem dX6_hasPlaces_17 : decode cX6_hasPlaces 17 = .ok (.aload_n 0, 1) := by decide +kernel
theorem dX6_hasPlaces_18 : decode cX6_hasPlaces 18 = .ok (.getfield 25, 3) := by decide +kernel
theorem dX6_hasPlaces_21 : decode cX6_hasPlaces 21 = .ok (.iload_n 2, 1) := by decide +kernel
theorem dX6_hasPlaces_22 : decode cX6_hasPlaces 22 = .ok (.isub, 1) := by decide +kernel
theorem dX6_hasPlaces_23 : decode cX6_hasPlaces 23 = .ok (.if_icmp .gt 7, 3) := by decide +kernel
theorem dX6_hasPlaces_26 : decode cX6_hasPlaces 26 = .ok (.iconst 1, 1) := by decide +kernel
theorem dX6_hasPlaces_27 : decode cX6_hasPlaces 27 = .ok (.goto 4, 3) := by decide +kernel
theorem dX6_hasPlaces_30 : decode cX6_hasPlaces 30 = .ok (.iconst 0, 1) := by decide +kernel
theorem dX6_hasPlaces_31 : decode cX6_hasPlaces 31 = .ok (.ireturn, 1) := by decide +kernel
theorem dX6_refusal_0 : decode cX6_refusal 0 = .ok (.aload_n 0, 1) := by decide +kernel
theorem dX6_refusal_1 : decode cX6_refusal 1 = .ok (.getfield 15, 3) := by decide +kernel
theorem dX6_refusal_4 : decode cX6_refusal 4 = .ok (.ifCond .ne 6, 3) := by decide +kernel
theorem dX6_refusal_7 : decode cX6_refusal 7 = .ok (.bipush (-11), 2) := by decide +kernel
theorem dX6_refusal_9 : decode cX6_refusal 9 = .ok (.ireturn, 1) := by decide +kernel
theorem dX6_refusal_10 : decode cX6_refusal 10 = .ok (.aload_n 0, 1) := by decide +kernel
theorem dX6_refusal_11 : decode cX6_refusal 11 = .ok (.getfield 15, 3) := by decide +kernel
theorem dX6_refusal_14 : decode cX6_refusal 14 = .ok (.iconst 2, 1) := by decide +kernel
theorem dX6_refusal_15 : decode cX6_refusal 15 = .ok (.if_icmp .eq 6, 3) := by decide +kernel
theorem dX6_refusal_18 : decode cX6_refusal 18 = .ok (.bipush (-12), 2) := by decide +kernel
theorem dX6_refusal_20 : decode cX6_refusal 20 = .ok (.ireturn, 1) := by decide +kernel
theorem dX6_refusal_21 : decode cX6_refusal 21 = .ok (.iload_n 1, 1) := by decide +kernel
theorem dX6_refusal_22 : decode cX6_refusal 22 = .ok (.ifCond .lt 15, 3) := by decide +kernel
theorem dX6_refusal_25 : decode cX6_refusal 25 = .ok (.iload_n 1, 1) := by decide +kernel
theorem dX6_refusal_26 : decode cX6_refusal 26 = .ok (.aload_n 0, 1) := by decide +kernel
theorem dX6_refusal_27 : decode cX6_refusal 27 = .ok (.getfield 25, 3) := by decide +kernel
theorem dX6_refusal_30 : decode cX6_refusal 30 = .ok (.if_icmp .ge 7, 3) := by decide +kernel
theorem dX6_refusal_33 : decode cX6_refusal 33 = .ok (.iconst 0, 1) := by decide +kernel
theorem dX6_refusal_34 : decode cX6_refusal 34 = .ok (.goto 5, 3) := by decide +kernel
theorem dX6_refusal_37 : decode cX6_refusal 37 = .ok (.bipush (-13), 2) := by decide +kernel
theorem dX6_refusal_39 : decode cX6_refusal 39 = .ok (.ireturn, 1) := by decide +kernel
theorem dX6_keptOf_0 : decode cX6_keptOf 0 = .ok (.aload_n 0, 1) := by decide +kernel
theorem dX6_keptOf_1 : decode cX6_keptOf 1 = .ok (.getfield 22, 3) := by decide +kernel
theorem dX6_keptOf_4 : decode cX6_keptOf 4 = .ok (.tableswitch 48 0 3 #[32, 37, 42, 46], 32) := by decide +kernel
theorem dX6_keptOf_36 : decode cX6_keptOf 36 = .ok (.lload_n 1, 1) := by decide +kernel
theorem dX6_keptOf_37 : decode cX6_keptOf 37 = .ok (.l2i, 1) := by decide +kernel
theorem dX6_keptOf_38 : decode cX6_keptOf 38 = .ok (.i2b, 1) := by decide +kernel
theorem dX6_keptOf_39 : decode cX6_keptOf 39 = .ok (.i2l, 1) := by decide +kernel
theorem dX6_keptOf_40 : decode cX6_keptOf 40 = .ok (.lreturn, 1) := by decide +kernel
theorem dX6_keptOf_41 : decode cX6_keptOf 41 = .ok (.lload_n 1, 1) := by decide +kernel
theorem dX6_keptOf_42 : decode cX6_keptOf 42 = .ok (.l2i, 1) := by decide +kernel
theorem dX6_keptOf_43 : decode cX6_keptOf 43 = .ok (.i2s, 1) := by decide +kernel
theorem dX6_keptOf_44 : decode cX6_keptOf 44 = .ok (.i2l, 1) := by decide +kernel
theorem dX6_keptOf_45 : decode cX6_keptOf 45 = .ok (.lreturn, 1) := by decide +kernel
theorem dX6_keptOf_46 : decode cX6_keptOf 46 = .ok (.lload_n 1, 1) := by decide +kernel
theorem dX6_keptOf_47 : decode cX6_keptOf 47 = .ok (.l2i, 1) := by decide +kernel
theorem dX6_keptOf_48 : decode cX6_keptOf 48 = .ok (.i2l, 1) := by decide +kernel
theorem dX6_keptOf_49 : decode cX6_keptOf 49 = .ok (.lreturn, 1) := by decide +kernel
theorem dX6_keptOf_50 : decode cX6_keptOf 50 = .ok (.lload_n 1, 1) := by decide +kernel
theorem dX6_keptOf_51 : decode cX6_keptOf 51 = .ok (.lreturn, 1) := by decide +kernel
theorem dX6_keptOf_52 : decode cX6_keptOf 52 = .ok (.lload_n 1, 1) := by decide +kernel
theorem dX6_keptOf_53 : decode cX6_keptOf 53 = .ok (.lconst 0, 1) := by decide +kernel
theorem dX6_keptOf_54 : decode cX6_keptOf 54 = .ok (.lcmp, 1) := by decide +kernel
theorem dX6_keptOf_55 : decode cX6_keptOf 55 = .ok (.ifCond .eq 7, 3) := by decide +kernel
theorem dX6_keptOf_58 : decode cX6_keptOf 58 = .ok (.lconst 1, 1) := by decide +kernel
theorem dX6_keptOf_59 : decode cX6_keptOf 59 = .ok (.goto 4, 3) := by decide +kernel
theorem dX6_keptOf_62 : decode cX6_keptOf 62 = .ok (.lconst 0, 1) := by decide +kernel
theorem dX6_keptOf_63 : decode cX6_keptOf 63 = .ok (.lreturn, 1) := by decide +kernel
theorem dX7_init_0 : decode cX7_init 0 = .ok (.aload_n 0, 1) := by decide +kernel
theorem dX7_init_1 : decode cX7_init 1 = .ok (.invokespecial 3, 3) := by decide +kernel
theorem dX7_init_4 : decode cX7_init 4 = .ok (.aload_n 0, 1) := by decide +kernel
theorem dX7_init_5 : decode cX7_init 5 = .ok (.sipush 242, 3) := by decide +kernel
theorem dX7_init_8 : decode cX7_init 8 = .ok (.newarray .int, 2) := by decide +kernel
theorem dX7_init_10 : decode cX7_init 10 = .ok (.putfield 11, 3) := by decide +kernel
theorem dX7_init_13 : decode cX7_init 13 = .ok (.aload_n 0, 1) := by decide +kernel
theorem dX7_init_14 : decode cX7_init 14 = .ok (.sipush 242, 3) := by decide +kernel
theorem dX7_init_17 : decode cX7_init 17 = .ok (.newarray .int, 2) := by decide +kernel
theorem dX7_init_19 : decode cX7_init 19 = .ok (.putfield 15, 3) := by decide +kernel
theorem dX7_init_22 : decode cX7_init 22 = .ok (.return_, 1) := by decide +kernel
theorem dX7_add_0 : decode cX7_add 0 = .ok (.aload_n 0, 1) := by decide +kernel
theorem dX7_add_1 : decode cX7_add 1 = .ok (.getfield 18, 3) := by decide +kernel
theorem dX7_add_4 : decode cX7_add 4 = .ok (.sipush 242, 3) := by decide +kernel
theorem dX7_add_7 : decode cX7_add 7 = .ok (.if_icmp .lt 4, 3) := by decide +kernel
theorem dX7_add_10 : decode cX7_add 10 = .ok (.return_, 1) := by decide +kernel
theorem dX7_add_11 : decode cX7_add 11 = .ok (.aload_n 0, 1) := by decide +kernel
theorem dX7_add_12 : decode cX7_add 12 = .ok (.getfield 11, 3) := by decide +kernel
theorem dX7_add_15 : decode cX7_add 15 = .ok (.aload_n 0, 1) := by decide +kernel
theorem dX7_add_16 : decode cX7_add 16 = .ok (.getfield 18, 3) := by decide +kernel
theorem dX7_add_19 : decode cX7_add 19 = .ok (.iload_n 1, 1) := by decide +kernel
theorem dX7_add_20 : decode cX7_add 20 = .ok (.iastore, 1) := by decide +kernel
theorem dX7_add_21 : decode cX7_add 21 = .ok (.aload_n 0, 1) := by decide +kernel
theorem dX7_add_22 : decode cX7_add 22 = .ok (.getfield 15, 3) := by decide +kernel
theorem dX7_add_25 : decode cX7_add 25 = .ok (.aload_n 0, 1) := by decide +kernel
theorem dX7_add_26 : decode cX7_add 26 = .ok (.getfield 18, 3) := by decide +kernel
theorem dX7_add_29 : decode cX7_add 29 = .ok (.iload_n 2, 1) := by decide +kernel
theorem dX7_add_30 : decode cX7_add 30 = .ok (.iastore, 1) := by decide +kernel
theorem dX7_add_31 : decode cX7_add 31 = .ok (.aload_n 0, 1) := by decide +kernel
theorem dX7_add_32 : decode cX7_add 32 = .ok (.dup, 1) := by decide +kernel
theorem dX7_add_33 : decode cX7_add 33 = .ok (.getfield 18, 3) := by decide +kernel
theorem dX7_add_36 : decode cX7_add 36 = .ok (.iconst 1, 1) := by decide +kernel
theorem dX7_add_37 : decode cX7_add 37 = .ok (.iadd, 1) := by decide +kernel
theorem dX7_add_38 : decode cX7_add 38 = .ok (.putfield 18, 3) := by decide +kernel
theorem dX7_add_41 : decode cX7_add 41 = .ok (.return_, 1) := by decide +kernel
theorem dX7_become_0 : decode cX7_become 0 = .ok (.aload_n 0, 1) := by decide +kernel
theorem dX7_become_1 : decode cX7_become 1 = .ok (.aload_n 1, 1) := by decide +kernel
theorem dX7_become_2 : decode cX7_become 2 = .ok (.getfield 18, 3) := by decide +kernel
theorem dX7_become_5 : decode cX7_become 5 = .ok (.putfield 18, 3) := by decide +kernel
theorem dX7_become_8 : decode cX7_become 8 = .ok (.aload_n 1, 1) := by decide +kernel
theorem dX7_become_9 : decode cX7_become 9 = .ok (.getfield 11, 3) := by decide +kernel
theorem dX7_become_12 : decode cX7_become 12 = .ok (.iconst 0, 1) := by decide +kernel
theorem dX7_become_13 : decode cX7_become 13 = .ok (.aload_n 0, 1) := by decide +kernel
theorem dX7_become_14 : decode cX7_become 14 = .ok (.getfield 11, 3) := by decide +kernel
theorem dX7_become_17 : decode cX7_become 17 = .ok (.iconst 0, 1) := by decide +kernel
theorem dX7_become_18 : decode cX7_become 18 = .ok (.aload_n 0, 1) := by decide +kernel
theorem dX7_become_19 : decode cX7_become 19 = .ok (.getfield 18, 3) := by decide +kernel
theorem dX7_become_22 : decode cX7_become 22 = .ok (.invokestatic 22, 3) := by decide +kernel
theorem dX7_become_25 : decode cX7_become 25 = .ok (.aload_n 1, 1) := by decide +kernel
theorem dX7_become_26 : decode cX7_become 26 = .ok (.getfield 15, 3) := by decide +kernel
theorem dX7_become_29 : decode cX7_become 29 = .ok (.iconst 0, 1) := by decide +kernel
theorem dX7_become_30 : decode cX7_become 30 = .ok (.aload_n 0, 1) := by decide +kernel
theorem dX7_become_31 : decode cX7_become 31 = .ok (.getfield 15, 3) := by decide +kernel
theorem dX7_become_34 : decode cX7_become 34 = .ok (.iconst 0, 1) := by decide +kernel
theorem dX7_become_35 : decode cX7_become 35 = .ok (.aload_n 0, 1) := by decide +kernel
theorem dX7_become_36 : decode cX7_become 36 = .ok (.getfield 18, 3) := by decide +kernel
theorem dX7_become_39 : decode cX7_become 39 = .ok (.invokestatic 22, 3) := by decide +kernel
theorem dX7_become_42 : decode cX7_become 42 = .ok (.return_, 1) := by decide +kernel
theorem dX8_init_0 : decode cX8_init 0 = .ok (.aload_n 0, 1) := by decide +kernel
theorem dX8_init_1 : decode cX8_init 1 = .ok (.invokespecial 3, 3) := by decide +kernel
theorem dX8_init_4 : decode cX8_init 4 = .ok (.aload_n 0, 1) := by decide +kernel
theorem dX8_init_5 : decode cX8_init 5 = .ok (.bipush 120, 2) := by decide +kernel
theorem dX8_init_7 : decode cX8_init 7 = .ok (.newarray .int, 2) := by decide +kernel
theorem dX8_init_9 : decode cX8_init 9 = .ok (.putfield 11, 3) := by decide +kernel
theorem dX8_init_12 : decode cX8_init 12 = .ok (.aload_n 0, 1) := by decide +kernel
theorem dX8_init_13 : decode cX8_init 13 = .ok (.new 15, 3) := by decide +kernel
theorem dX8_init_16 : decode cX8_init 16 = .ok (.dup, 1) := by decide +kernel
theorem dX8_init_17 : decode cX8_init 17 = .ok (.invokespecial 17, 3) := by decide +kernel
theorem dX8_init_20 : decode cX8_init 20 = .ok (.putfield 18, 3) := by decide +kernel
theorem dX8_init_23 : decode cX8_init 23 = .ok (.aload_n 0, 1) := by decide +kernel
theorem dX8_init_24 : decode cX8_init 24 = .ok (.new 22, 3) := by decide +kernel
theorem dX8_init_27 : decode cX8_init 27 = .ok (.dup, 1) := by decide +kernel
theorem dX8_init_28 : decode cX8_init 28 = .ok (.invokespecial 24, 3) := by decide +kernel
theorem dX8_init_31 : decode cX8_init 31 = .ok (.putfield 25, 3) := by decide +kernel
theorem dX8_init_34 : decode cX8_init 34 = .ok (.aload_n 0, 1) := by decide +kernel
theorem dX8_init_35 : decode cX8_init 35 = .ok (.bipush 48, 2) := by decide +kernel
theorem dX8_init_37 : decode cX8_init 37 = .ok (.newarray .int, 2) := by decide +kernel
theorem dX8_init_39 : decode cX8_init 39 = .ok (.putfield 29, 3) := by decide +kernel
theorem dX8_init_42 : decode cX8_init 42 = .ok (.aload_n 0, 1) := by decide +kernel
theorem dX8_init_43 : decode cX8_init 43 = .ok (.sipush 3600, 3) := by decide +kernel
theorem dX8_init_46 : decode cX8_init 46 = .ok (.newarray .byte, 2) := by decide +kernel
theorem dX8_init_48 : decode cX8_init 48 = .ok (.putfield 32, 3) := by decide +kernel
theorem dX8_init_51 : decode cX8_init 51 = .ok (.return_, 1) := by decide +kernel
theorem dX8_take_0 : decode cX8_take 0 = .ok (.aload_n 0, 1) := by decide +kernel
theorem dX8_take_1 : decode cX8_take 1 = .ok (.getfield 36, 3) := by decide +kernel
theorem dX8_take_4 : decode cX8_take 4 = .ok (.bipush 120, 2) := by decide +kernel
theorem dX8_take_6 : decode cX8_take 6 = .ok (.if_icmp .lt 5, 3) := by decide +kernel
theorem dX8_take_9 : decode cX8_take 9 = .ok (.iconst 0, 1) := by decide +kernel
theorem dX8_take_10 : decode cX8_take 10 = .ok (.ireturn, 1) := by decide +kernel
theorem dX8_take_11 : decode cX8_take 11 = .ok (.aload_n 0, 1) := by decide +kernel
theorem dX8_take_12 : decode cX8_take 12 = .ok (.getfield 11, 3) := by decide +kernel
theorem dX8_take_15 : decode cX8_take 15 = .ok (.aload_n 0, 1) := by decide +kernel
theorem dX8_take_16 : decode cX8_take 16 = .ok (.getfield 36, 3) := by decide +kernel
theorem dX8_take_19 : decode cX8_take 19 = .ok (.iload_n 1, 1) := by decide +kernel
theorem dX8_take_20 : decode cX8_take 20 = .ok (.iastore, 1) := by decide +kernel
theorem dX8_take_21 : decode cX8_take 21 = .ok (.aload_n 0, 1) := by decide +kernel
theorem dX8_take_22 : decode cX8_take 22 = .ok (.dup, 1) := by decide +kernel
theorem dX8_take_23 : decode cX8_take 23 = .ok (.getfield 36, 3) := by decide +kernel
theorem dX8_take_26 : decode cX8_take 26 = .ok (.iconst 1, 1) := by decide +kernel
theorem dX8_take_27 : decode cX8_take 27 = .ok (.iadd, 1) := by decide +kernel
theorem dX8_take_28 : decode cX8_take 28 = .ok (.putfield 36, 3) := by decide +kernel
theorem dX8_take_31 : decode cX8_take 31 = .ok (.iconst 1, 1) := by decide +kernel
theorem dX8_take_32 : decode cX8_take 32 = .ok (.ireturn, 1) := by decide +kernel
theorem dX8_becomeTape_0 : decode cX8_becomeTape 0 = .ok (.aload_n 0, 1) := by decide +kernel
theorem dX8_becomeTape_1 : decode cX8_becomeTape 1 = .ok (.getfield 18, 3) := by decide +kernel
theorem dX8_becomeTape_4 : decode cX8_becomeTape 4 = .ok (.aload_n 0, 1) := by decide +kernel
theorem dX8_becomeTape_5 : decode cX8_becomeTape 5 = .ok (.getfield 11, 3) := by decide +kernel
theorem dX8_becomeTape_8 : decode cX8_becomeTape 8 = .ok (.aload_n 0, 1) := by decide +kernel
theorem dX8_becomeTape_9 : decode cX8_becomeTape 9 = .ok (.getfield 36, 3) := by decide +kernel
theorem dX8_becomeTape_12 : decode cX8_becomeTape 12 = .ok (.invokevirtual 40, 3) := by decide +kernel
theorem dX8_becomeTape_15 : decode cX8_becomeTape 15 = .ok (.istore_n 1, 1) := by decide +kernel
theorem dX8_becomeTape_16 : decode cX8_becomeTape 16 = .ok (.aload_n 0, 1) := by decide +kernel
theorem dX8_becomeTape_17 : decode cX8_becomeTape 17 = .ok (.iconst 0, 1) := by decide +kernel
theorem dX8_becomeTape_18 : decode cX8_becomeTape 18 = .ok (.putfield 36, 3) := by decide +kernel
theorem dX8_becomeTape_21 : decode cX8_becomeTape 21 = .ok (.iload_n 1, 1) := by decide +kernel
theorem dX8_becomeTape_22 : decode cX8_becomeTape 22 = .ok (.ifCond .ge 25, 3) := by decide +kernel
theorem dX8_becomeTape_25 : decode cX8_becomeTape 25 = .ok (.aload_n 0, 1) := by decide +kernel
theorem dX8_becomeTape_26 : decode cX8_becomeTape 26 = .ok (.getfield 25, 3) := by decide +kernel
theorem dX8_becomeTape_29 : decode cX8_becomeTape 29 = .ok (.aload_n 0, 1) := by decide +kernel
theorem dX8_becomeTape_30 : decode cX8_becomeTape 30 = .ok (.getfield 18, 3) := by decide +kernel
theorem dX8_becomeTape_33 : decode cX8_becomeTape 33 = .ok (.getfield 44, 3) := by decide +kernel
theorem dX8_becomeTape_36 : decode cX8_becomeTape 36 = .ok (.invokevirtual 47, 3) := by decide +kernel
theorem dX8_becomeTape_39 : decode cX8_becomeTape 39 = .ok (.aload_n 0, 1) := by decide +kernel
theorem dX8_becomeTape_40 : decode cX8_becomeTape 40 = .ok (.getfield 32, 3) := by decide +kernel
theorem dX8_becomeTape_43 : decode cX8_becomeTape 43 = .ok (.iconst 0, 1) := by decide +kernel
theorem dX8_becomeTape_44 : decode cX8_becomeTape 44 = .ok (.invokestatic 51, 3) := by decide +kernel
theorem dX8_becomeTape_47 : decode cX8_becomeTape 47 = .ok (.iload_n 1, 1) := by decide +kernel
theorem dX8_becomeTape_48 : decode cX8_becomeTape 48 = .ok (.ireturn, 1) := by decide +kernel
theorem dX8_number_0 : decode cX8_number 0 = .ok (.iload_n 2, 1) := by decide +kernel
theorem dX8_number_1 : decode cX8_number 1 = .ok (.iconst 1, 1) := by decide +kernel
theorem dX8_number_2 : decode cX8_number 2 = .ok (.if_icmp .lt 28, 3) := by decide +kernel
theorem dX8_number_5 : decode cX8_number 5 = .ok (.iload_n 2, 1) := by decide +kernel
theorem dX8_number_6 : decode cX8_number 6 = .ok (.iconst 3, 1) := by decide +kernel
theorem dX8_number_7 : decode cX8_number 7 = .ok (.if_icmp .gt 23, 3) := by decide +kernel
theorem dX8_number_10 : decode cX8_number 10 = .ok (.iload_n 3, 1) := by decide +kernel
theorem dX8_number_11 : decode cX8_number 11 = .ok (.ifCond .lt 19, 3) := by decide +kernel
theorem dX8_number_14 : decode cX8_number 14 = .ok (.iload_n 3, 1) := by decide +kernel
theorem dX8_number_15 : decode cX8_number 15 = .ok (.bipush 99, 2) := by decide +kernel
theorem dX8_number_17 : decode cX8_number 17 = .ok (.if_icmp .gt 13, 3) := by decide +kernel
theorem dX8_number_20 : decode cX8_number 20 = .ok (.iload_n 1, 1) := by decide +kernel
theorem dX8_number_21 : decode cX8_number 21 = .ok (.ifCond .lt 9, 3) := by decide +kernel
theorem dX8_number_24 : decode cX8_number 24 = .ok (.iload_n 1, 1) := by decide +kernel
theorem dX8_number_25 : decode cX8_number 25 = .ok (.bipush 6, 2) := by decide +kernel
theorem dX8_number_27 : decode cX8_number 27 = .ok (.if_icmp .lt 5, 3) := by decide +kernel
theorem dX8_number_30 : decode cX8_number 30 = .ok (.iconst 0, 1) := by decide +kernel
theorem dX8_number_31 : decode cX8_number 31 = .ok (.ireturn, 1) := by decide +kernel
theorem dX8_number_32 : decode cX8_number 32 = .ok (.iload_n 1, 1) := by decide +kernel
theorem dX8_number_33 : decode cX8_number 33 = .ok (.iconst 3, 1) := by decide +kernel
theorem dX8_number_34 : decode cX8_number 34 = .ok (.imul, 1) := by decide +kernel
theorem dX8_number_35 : decode cX8_number 35 = .ok (.iload_n 2, 1) := by decide +kernel
theorem dX8_number_36 : decode cX8_number 36 = .ok (.iadd, 1) := by decide +kernel
theorem dX8_number_37 : decode cX8_number 37 = .ok (.iconst 1, 1) := by decide +kernel
theorem dX8_number_38 : decode cX8_number 38 = .ok (.isub, 1) := by decide +kernel
theorem dX8_number_39 : decode cX8_number 39 = .ok (.bipush 100, 2) := by decide +kernel
theorem dX8_number_41 : decode cX8_number 41 = .ok (.imul, 1) := by decide +kernel
theorem dX8_number_42 : decode cX8_number 42 = .ok (.iload_n 3, 1) := by decide +kernel
theorem dX8_number_43 : decode cX8_number 43 = .ok (.iadd, 1) := by decide +kernel
theorem dX8_number_44 : decode cX8_number 44 = .ok (.iconst 2, 1) := by decide +kernel
theorem dX8_number_45 : decode cX8_number 45 = .ok (.imul, 1) := by decide +kernel
theorem dX8_number_46 : decode cX8_number 46 = .ok (.iload 4, 2) := by decide +kernel
theorem dX8_number_48 : decode cX8_number 48 = .ok (.ifCond .eq 7, 3) := by decide +kernel
theorem dX8_number_51 : decode cX8_number 51 = .ok (.iconst 1, 1) := by decide +kernel
theorem dX8_number_52 : decode cX8_number 52 = .ok (.goto 4, 3) := by decide +kernel
theorem dX8_number_55 : decode cX8_number 55 = .ok (.iconst 0, 1) := by decide +kernel
theorem dX8_number_56 : decode cX8_number 56 = .ok (.iadd, 1) := by decide +kernel
theorem dX8_number_57 : decode cX8_number 57 = .ok (.istore 5, 2) := by decide +kernel
theorem dX8_number_59 : decode cX8_number 59 = .ok (.aload_n 0, 1) := by decide +kernel
theorem dX8_number_60 : decode cX8_number 60 = .ok (.getfield 32, 3) := by decide +kernel
theorem dX8_number_63 : decode cX8_number 63 = .ok (.iload 5, 2) := by decide +kernel
theorem dX8_number_65 : decode cX8_number 65 = .ok (.baload, 1) := by decide +kernel
theorem dX8_number_66 : decode cX8_number 66 = .ok (.ifCond .ne 62, 3) := by decide +kernel
theorem dX8_number_69 : decode cX8_number 69 = .ok (.aload_n 0, 1) := by decide +kernel
theorem dX8_number_70 : decode cX8_number 70 = .ok (.getfield 25, 3) := by decide +kernel
theorem dX8_number_73 : decode cX8_number 73 = .ok (.getfield 57, 3) := by decide +kernel
theorem dX8_number_76 : decode cX8_number 76 = .ok (.ifCond .ne 12, 3) := by decide +kernel
theorem dX8_number_79 : decode cX8_number 79 = .ok (.bipush 7, 2) := by decide +kernel
theorem dX8_number_81 : decode cX8_number 81 = .ok (.iconst 2, 1) := by decide +kernel
theorem dX8_number_82 : decode cX8_number 82 = .ok (.iload_n 2, 1) := by decide +kernel
theorem dX8_number_83 : decode cX8_number 83 = .ok (.imul, 1) := by decide +kernel
theorem dX8_number_84 : decode cX8_number 84 = .ok (.isub, 1) := by decide +kernel
theorem dX8_number_85 : decode cX8_number 85 = .ok (.goto 20, 3) := by decide +kernel
theorem dX8_number_88 : decode cX8_number 88 = .ok (.aload_n 0, 1) := by decide +kernel
theorem dX8_number_89 : decode cX8_number 89 = .ok (.iload_n 1, 1) := by decide +kernel
theorem dX8_number_90 : decode cX8_number 90 = .ok (.iload_n 2, 1) := by decide +kernel
theorem dX8_number_91 : decode cX8_number 91 = .ok (.iload_n 3, 1) := by decide +kernel
theorem dX8_number_92 : decode cX8_number 92 = .ok (.iload 4, 2) := by decide +kernel
theorem dX8_number_94 : decode cX8_number 94 = .ok (.ifCond .eq 7, 3) := by decide +kernel
theorem dX8_number_97 : decode cX8_number 97 = .ok (.iconst 1, 1) := by decide +kernel
theorem dX8_number_98 : decode cX8_number 98 = .ok (.goto 4, 3) := by decide +kernel
theorem dX8_number_101 : decode cX8_number 101 = .ok (.iconst 0, 1) := by decide +kernel
theorem dX8_number_102 : decode cX8_number 102 = .ok (.invokevirtual 60, 3) := by decide +kernel
theorem dX8_number_105 : decode cX8_number 105 = .ok (.istore 6, 2) := by decide +kernel
theorem dX8_number_107 : decode cX8_number 107 = .ok (.aload_n 0, 1) := by decide +kernel
theorem dX8_number_108 : decode cX8_number 108 = .ok (.getfield 32, 3) := by decide +kernel
theorem dX8_number_111 : decode cX8_number 111 = .ok (.iload 5, 2) := by decide +kernel
theorem dX8_number_113 : decode cX8_number 113 = .ok (.iconst 0, 1) := by decide +kernel
theorem dX8_number_114 : decode cX8_number 114 = .ok (.bipush 12, 2) := by decide +kernel
theorem dX8_number_116 : decode cX8_number 116 = .ok (.iload 6, 2) := by decide +kernel
theorem dX8_number_118 : decode cX8_number 118 = .ok (.invokestatic 64, 3) := by decide +kernel
theorem dX8_number_121 : decode cX8_number 121 = .ok (.invokestatic 70, 3) := by decide +kernel
theorem dX8_number_124 : decode cX8_number 124 = .ok (.iconst 1, 1) := by decide +kernel
theorem dX8_number_125 : decode cX8_number 125 = .ok (.iadd, 1) := by decide +kernel
theorem dX8_number_126 : decode cX8_number 126 = .ok (.i2b, 1) := by decide +kernel
theorem dX8_number_127 : decode cX8_number 127 = .ok (.bastore, 1) := by decide +kernel
theorem dX8_number_128 : decode cX8_number 128 = .ok (.aload_n 0, 1) := by decide +kernel
theorem dX8_number_129 : decode cX8_number 129 = .ok (.getfield 32, 3) := by decide +kernel
theorem dX8_number_132 : decode cX8_number 132 = .ok (.iload 5, 2) := by decide +kernel
theorem dX8_number_134 : decode cX8_number 134 = .ok (.baload, 1) := by decide +kernel
theorem dX8_number_135 : decode cX8_number 135 = .ok (.iconst 1, 1) := by decide +kernel
theorem dX8_number_136 : decode cX8_number 136 = .ok (.isub, 1) := by decide +kernel
theorem dX8_number_137 : decode cX8_number 137 = .ok (.ireturn, 1) := by decide +kernel
theorem dX8_workOut_0 : decode cX8_workOut 0 = .ok (.iconst 0, 1) := by decide +kernel
theorem dX8_workOut_1 : decode cX8_workOut 1 = .ok (.istore 5, 2) := by decide +kernel
theorem dX8_workOut_3 : decode cX8_workOut 3 = .ok (.iconst 0, 1) := by decide +kernel
theorem dX8_workOut_4 : decode cX8_workOut 4 = .ok (.istore 6, 2) := by decide +kernel
theorem dX8_workOut_6 : decode cX8_workOut 6 = .ok (.iconst 0, 1) := by decide +kernel
theorem dX8_workOut_7 : decode cX8_workOut 7 = .ok (.istore 7, 2) := by decide +kernel
theorem dX8_workOut_9 : decode cX8_workOut 9 = .ok (.iload 7, 2) := by decide +kernel
theorem dX8_workOut_11 : decode cX8_workOut 11 = .ok (.aload_n 0, 1) := by decide +kernel
theorem dX8_workOut_12 : decode cX8_workOut 12 = .ok (.getfield 25, 3) := by decide +kernel
theorem dX8_workOut_15 : decode cX8_workOut 15 = .ok (.getfield 57, 3) := by decide +kernel
theorem dX8_workOut_18 : decode cX8_workOut 18 = .ok (.if_icmp .ge 364, 3) := by decide +kernel
theorem dX8_workOut_21 : decode cX8_workOut 21 = .ok (.aload_n 0, 1) := by decide +kernel
theorem dX8_workOut_22 : decode cX8_workOut 22 = .ok (.getfield 25, 3) := by decide +kernel
theorem dX8_workOut_25 : decode cX8_workOut 25 = .ok (.getfield 73, 3) := by decide +kernel
theorem dX8_workOut_28 : decode cX8_workOut 28 = .ok (.iload 7, 2) := by decide +kernel
theorem dX8_workOut_30 : decode cX8_workOut 30 = .ok (.iaload, 1) := by decide +kernel
theorem dX8_workOut_31 : decode cX8_workOut 31 = .ok (.istore 8, 2) := by decide +kernel
theorem dX8_workOut_33 : decode cX8_workOut 33 = .ok (.iload 6, 2) := by decide +kernel
theorem dX8_workOut_35 : decode cX8_workOut 35 = .ok (.ifCond .eq 20, 3) := by decide +kernel
theorem dX8_workOut_38 : decode cX8_workOut 38 = .ok (.iload 8, 2) := by decide +kernel
theorem dX8_workOut_40 : decode cX8_workOut 40 = .ok (.bipush 59, 2) := by decide +kernel
theorem dX8_workOut_42 : decode cX8_workOut 42 = .ok (.if_icmp .eq 7, 3) := by decide +kernel
theorem dX8_workOut_45 : decode cX8_workOut 45 = .ok (.iconst 1, 1) := by decide +kernel
theorem dX8_workOut_46 : decode cX8_workOut 46 = .ok (.goto 4, 3) := by decide +kernel
theorem dX8_workOut_49 : decode cX8_workOut 49 = .ok (.iconst 0, 1) := by decide +kernel
theorem dX8_workOut_50 : decode cX8_workOut 50 = .ok (.istore 6, 2) := by decide +kernel
theorem dX8_workOut_52 : decode cX8_workOut 52 = .ok (.goto 324, 3) := by decide +kernel
theorem dX8_workOut_55 : decode cX8_workOut 55 = .ok (.iload 5, 2) := by decide +kernel
theorem dX8_workOut_57 : decode cX8_workOut 57 = .ok (.bipush 48, 2) := by decide +kernel
theorem dX8_workOut_59 : decode cX8_workOut 59 = .ok (.if_icmp .lt 5, 3) := by decide +kernel
theorem dX8_workOut_62 : decode cX8_workOut 62 = .ok (.iconst 0, 1) := by decide +kernel
theorem dX8_workOut_63 : decode cX8_workOut 63 = .ok (.ireturn, 1) := by decide +kernel
theorem dX8_workOut_64 : decode cX8_workOut 64 = .ok (.iload 8, 2) := by decide +kernel
theorem dX8_workOut_66 : decode cX8_workOut 66 = .ok (.lookupswitch 269 #[(33, 212), (48, 82), (59, 162), (63, 181), (97, 133), (108, 147), (115, 105), (116, 119), (126, 212)], 82) := by decide +kernel
theorem dX8_workOut_148 : decode cX8_workOut 148 = .ok (.aload_n 0, 1) := by decide +kernel
theorem dX8_workOut_149 : decode cX8_workOut 149 = .ok (.getfield 29, 3) := by decide +kernel
theorem dX8_workOut_152 : decode cX8_workOut 152 = .ok (.iload 5, 2) := by decide +kernel
theorem dX8_workOut_154 : decode cX8_workOut 154 = .ok (.iinc 5 1, 3) := by decide +kernel
theorem dX8_workOut_157 : decode cX8_workOut 157 = .ok (.aload_n 0, 1) := by decide +kernel
theorem dX8_workOut_158 : decode cX8_workOut 158 = .ok (.getfield 25, 3) := by decide +kernel
theorem dX8_workOut_161 : decode cX8_workOut 161 = .ok (.getfield 76, 3) := by decide +kernel
theorem dX8_workOut_164 : decode cX8_workOut 164 = .ok (.iload 7, 2) := by decide +kernel
theorem dX8_workOut_166 : decode cX8_workOut 166 = .ok (.iaload, 1) := by decide +kernel
theorem dX8_workOut_167 : decode cX8_workOut 167 = .ok (.iastore, 1) := by decide +kernel
theorem dX8_workOut_168 : decode cX8_workOut 168 = .ok (.goto 208, 3) := by decide +kernel
theorem dX8_workOut_171 : decode cX8_workOut 171 = .ok (.aload_n 0, 1) := by decide +kernel
theorem dX8_workOut_172 : decode cX8_workOut 172 = .ok (.getfield 29, 3) := by decide +kernel
theorem dX8_workOut_175 : decode cX8_workOut 175 = .ok (.iload 5, 2) := by decide +kernel
theorem dX8_workOut_177 : decode cX8_workOut 177 = .ok (.iinc 5 1, 3) := by decide +kernel
theorem dX8_workOut_180 : decode cX8_workOut 180 = .ok (.iload_n 2, 1) := by decide +kernel
theorem dX8_workOut_181 : decode cX8_workOut 181 = .ok (.iastore, 1) := by decide +kernel
theorem dX8_workOut_182 : decode cX8_workOut 182 = .ok (.goto 194, 3) := by decide +kernel
theorem dX8_workOut_185 : decode cX8_workOut 185 = .ok (.aload_n 0, 1) := by decide +kernel
theorem dX8_workOut_186 : decode cX8_workOut 186 = .ok (.getfield 29, 3) := by decide +kernel
theorem dX8_workOut_189 : decode cX8_workOut 189 = .ok (.iload 5, 2) := by decide +kernel
theorem dX8_workOut_191 : decode cX8_workOut 191 = .ok (.iinc 5 1, 3) := by decide +kernel
theorem dX8_workOut_194 : decode cX8_workOut 194 = .ok (.iload_n 1, 1) := by decide +kernel
theorem dX8_workOut_195 : decode cX8_workOut 195 = .ok (.iastore, 1) := by decide +kernel
theorem dX8_workOut_196 : decode cX8_workOut 196 = .ok (.goto 180, 3) := by decide +kernel
theorem dX8_workOut_199 : decode cX8_workOut 199 = .ok (.aload_n 0, 1) := by decide +kernel
theorem dX8_workOut_200 : decode cX8_workOut 200 = .ok (.getfield 29, 3) := by decide +kernel
theorem dX8_workOut_203 : decode cX8_workOut 203 = .ok (.iload 5, 2) := by decide +kernel
theorem dX8_workOut_205 : decode cX8_workOut 205 = .ok (.iinc 5 1, 3) := by decide +kernel
theorem dX8_workOut_208 : decode cX8_workOut 208 = .ok (.iload_n 3, 1) := by decide +kernel
theorem dX8_workOut_209 : decode cX8_workOut 209 = .ok (.iastore, 1) := by decide +kernel
theorem dX8_workOut_210 : decode cX8_workOut 210 = .ok (.goto 166, 3) := by decide +kernel
theorem dX8_workOut_213 : decode cX8_workOut 213 = .ok (.aload_n 0, 1) := by decide +kernel
theorem dX8_workOut_214 : decode cX8_workOut 214 = .ok (.getfield 29, 3) := by decide +kernel
theorem dX8_workOut_217 : decode cX8_workOut 217 = .ok (.iload 5, 2) := by decide +kernel
theorem dX8_workOut_219 : decode cX8_workOut 219 = .ok (.iinc 5 1, 3) := by decide +kernel
theorem dX8_workOut_222 : decode cX8_workOut 222 = .ok (.iload 4, 2) := by decide +kernel
theorem dX8_workOut_224 : decode cX8_workOut 224 = .ok (.iastore, 1) := by decide +kernel
theorem dX8_workOut_225 : decode cX8_workOut 225 = .ok (.goto 151, 3) := by decide +kernel
theorem dX8_workOut_228 : decode cX8_workOut 228 = .ok (.iload 5, 2) := by decide +kernel
theorem dX8_workOut_230 : decode cX8_workOut 230 = .ok (.ifCond .le 15, 3) := by decide +kernel
theorem dX8_workOut_233 : decode cX8_workOut 233 = .ok (.aload_n 0, 1) := by decide +kernel
theorem dX8_workOut_234 : decode cX8_workOut 234 = .ok (.getfield 29, 3) := by decide +kernel
theorem dX8_workOut_237 : decode cX8_workOut 237 = .ok (.iload 5, 2) := by decide +kernel
theorem dX8_workOut_239 : decode cX8_workOut 239 = .ok (.iconst 1, 1) := by decide +kernel
theorem dX8_workOut_240 : decode cX8_workOut 240 = .ok (.isub, 1) := by decide +kernel
theorem dX8_workOut_241 : decode cX8_workOut 241 = .ok (.iaload, 1) := by decide +kernel
theorem dX8_workOut_242 : decode cX8_workOut 242 = .ok (.goto 4, 3) := by decide +kernel
theorem dX8_workOut_245 : decode cX8_workOut 245 = .ok (.iconst 0, 1) := by decide +kernel
theorem dX8_workOut_246 : decode cX8_workOut 246 = .ok (.ireturn, 1) := by decide +kernel
theorem dX8_workOut_247 : decode cX8_workOut 247 = .ok (.iload 5, 2) := by decide +kernel
theorem dX8_workOut_249 : decode cX8_workOut 249 = .ok (.iconst 1, 1) := by decide +kernel
theorem dX8_workOut_250 : decode cX8_workOut 250 = .ok (.if_icmp .ge 5, 3) := by decide +kernel
theorem dX8_workOut_253 : decode cX8_workOut 253 = .ok (.iconst 0, 1) := by decide +kernel
theorem dX8_workOut_254 : decode cX8_workOut 254 = .ok (.ireturn, 1) := by decide +kernel
theorem dX8_workOut_255 : decode cX8_workOut 255 = .ok (.iinc 5 (-1), 3) := by decide +kernel
theorem dX8_workOut_258 : decode cX8_workOut 258 = .ok (.aload_n 0, 1) := by decide +kernel
theorem dX8_workOut_259 : decode cX8_workOut 259 = .ok (.getfield 29, 3) := by decide +kernel
theorem dX8_workOut_262 : decode cX8_workOut 262 = .ok (.iload 5, 2) := by decide +kernel
theorem dX8_workOut_264 : decode cX8_workOut 264 = .ok (.iaload, 1) := by decide +kernel
theorem dX8_workOut_265 : decode cX8_workOut 265 = .ok (.ifCond .ne 7, 3) := by decide +kernel
theorem dX8_workOut_268 : decode cX8_workOut 268 = .ok (.iconst 1, 1) := by decide +kernel
theorem dX8_workOut_269 : decode cX8_workOut 269 = .ok (.goto 4, 3) := by decide +kernel
theorem dX8_workOut_272 : decode cX8_workOut 272 = .ok (.iconst 0, 1) := by decide +kernel
theorem dX8_workOut_273 : decode cX8_workOut 273 = .ok (.istore 6, 2) := by decide +kernel
theorem dX8_workOut_275 : decode cX8_workOut 275 = .ok (.goto 101, 3) := by decide +kernel
theorem dX8_workOut_278 : decode cX8_workOut 278 = .ok (.iload 5, 2) := by decide +kernel
theorem dX8_workOut_280 : decode cX8_workOut 280 = .ok (.iconst 1, 1) := by decide +kernel
theorem dX8_workOut_281 : decode cX8_workOut 281 = .ok (.if_icmp .ge 5, 3) := by decide +kernel
theorem dX8_workOut_284 : decode cX8_workOut 284 = .ok (.iconst 0, 1) := by decide +kernel
theorem dX8_workOut_285 : decode cX8_workOut 285 = .ok (.ireturn, 1) := by decide +kernel
theorem dX8_workOut_286 : decode cX8_workOut 286 = .ok (.aload_n 0, 1) := by decide +kernel
theorem dX8_workOut_287 : decode cX8_workOut 287 = .ok (.getfield 29, 3) := by decide +kernel
theorem dX8_workOut_290 : decode cX8_workOut 290 = .ok (.iload 5, 2) := by decide +kernel
theorem dX8_workOut_292 : decode cX8_workOut 292 = .ok (.iconst 1, 1) := by decide +kernel
theorem dX8_workOut_293 : decode cX8_workOut 293 = .ok (.isub, 1) := by decide +kernel
theorem dX8_workOut_294 : decode cX8_workOut 294 = .ok (.iload 8, 2) := by decide +kernel
theorem dX8_workOut_296 : decode cX8_workOut 296 = .ok (.bipush 126, 2) := by decide +kernel
theorem dX8_workOut_298 : decode cX8_workOut 298 = .ok (.if_icmp .ne 16, 3) := by decide +kernel
theorem dX8_workOut_301 : decode cX8_workOut 301 = .ok (.aload_n 0, 1) := by decide +kernel
theorem dX8_workOut_302 : decode cX8_workOut 302 = .ok (.getfield 29, 3) := by decide +kernel
theorem dX8_workOut_305 : decode cX8_workOut 305 = .ok (.iload 5, 2) := by decide +kernel
theorem dX8_workOut_307 : decode cX8_workOut 307 = .ok (.iconst 1, 1) := by decide +kernel
theorem dX8_workOut_308 : decode cX8_workOut 308 = .ok (.isub, 1) := by decide +kernel
theorem dX8_workOut_309 : decode cX8_workOut 309 = .ok (.iaload, 1) := by decide +kernel
theorem dX8_workOut_310 : decode cX8_workOut 310 = .ok (.ineg, 1) := by decide +kernel
theorem dX8_workOut_311 : decode cX8_workOut 311 = .ok (.goto 20, 3) := by decide +kernel
theorem dX8_workOut_314 : decode cX8_workOut 314 = .ok (.aload_n 0, 1) := by decide +kernel
theorem dX8_workOut_315 : decode cX8_workOut 315 = .ok (.getfield 29, 3) := by decide +kernel
theorem dX8_workOut_318 : decode cX8_workOut 318 = .ok (.iload 5, 2) := by decide +kernel
theorem dX8_workOut_320 : decode cX8_workOut 320 = .ok (.iconst 1, 1) := by decide +kernel
theorem dX8_workOut_321 : decode cX8_workOut 321 = .ok (.isub, 1) := by decide +kernel
theorem dX8_workOut_322 : decode cX8_workOut 322 = .ok (.iaload, 1) := by decide +kernel
theorem dX8_workOut_323 : decode cX8_workOut 323 = .ok (.ifCond .ne 7, 3) := by decide +kernel
theorem dX8_workOut_326 : decode cX8_workOut 326 = .ok (.iconst 1, 1) := by decide +kernel
theorem dX8_workOut_327 : decode cX8_workOut 327 = .ok (.goto 4, 3) := by decide +kernel
theorem dX8_workOut_330 : decode cX8_workOut 330 = .ok (.iconst 0, 1) := by decide +kernel
theorem dX8_workOut_331 : decode cX8_workOut 331 = .ok (.iastore, 1) := by decide +kernel
theorem dX8_workOut_332 : decode cX8_workOut 332 = .ok (.goto 44, 3) := by decide +kernel
theorem dX8_workOut_335 : decode cX8_workOut 335 = .ok (.iload 5, 2) := by decide +kernel
theorem dX8_workOut_337 : decode cX8_workOut 337 = .ok (.iconst 2, 1) := by decide +kernel
theorem dX8_workOut_338 : decode cX8_workOut 338 = .ok (.if_icmp .ge 5, 3) := by decide +kernel
theorem dX8_workOut_341 : decode cX8_workOut 341 = .ok (.iconst 0, 1) := by decide +kernel
theorem dX8_workOut_342 : decode cX8_workOut 342 = .ok (.ireturn, 1) := by decide +kernel
theorem dX8_workOut_343 : decode cX8_workOut 343 = .ok (.iinc 5 (-1), 3) := by decide +kernel
theorem dX8_workOut_346 : decode cX8_workOut 346 = .ok (.aload_n 0, 1) := by decide +kernel
theorem dX8_workOut_347 : decode cX8_workOut 347 = .ok (.getfield 29, 3) := by decide +kernel
theorem dX8_workOut_350 : decode cX8_workOut 350 = .ok (.iload 5, 2) := by decide +kernel
theorem dX8_workOut_352 : decode cX8_workOut 352 = .ok (.iconst 1, 1) := by decide +kernel
theorem dX8_workOut_353 : decode cX8_workOut 353 = .ok (.isub, 1) := by decide +kernel
theorem dX8_workOut_354 : decode cX8_workOut 354 = .ok (.iload 8, 2) := by decide +kernel
theorem dX8_workOut_356 : decode cX8_workOut 356 = .ok (.aload_n 0, 1) := by decide +kernel
theorem dX8_workOut_357 : decode cX8_workOut 357 = .ok (.getfield 29, 3) := by decide +kernel
theorem dX8_workOut_360 : decode cX8_workOut 360 = .ok (.iload 5, 2) := by decide +kernel
theorem dX8_workOut_362 : decode cX8_workOut 362 = .ok (.iconst 1, 1) := by decide +kernel
theorem dX8_workOut_363 : decode cX8_workOut 363 = .ok (.isub, 1) := by decide +kernel
theorem dX8_workOut_364 : decode cX8_workOut 364 = .ok (.iaload, 1) := by decide +kernel
theorem dX8_workOut_365 : decode cX8_workOut 365 = .ok (.aload_n 0, 1) := by decide +kernel
theorem dX8_workOut_366 : decode cX8_workOut 366 = .ok (.getfield 29, 3) := by decide +kernel
theorem dX8_workOut_369 : decode cX8_workOut 369 = .ok (.iload 5, 2) := by decide +kernel
theorem dX8_workOut_371 : decode cX8_workOut 371 = .ok (.iaload, 1) := by decide +kernel
theorem dX8_workOut_372 : decode cX8_workOut 372 = .ok (.invokestatic 79, 3) := by decide +kernel
theorem dX8_workOut_375 : decode cX8_workOut 375 = .ok (.iastore, 1) := by decide +kernel
theorem dX8_workOut_376 : decode cX8_workOut 376 = .ok (.iinc 7 1, 3) := by decide +kernel
theorem dX8_workOut_379 : decode cX8_workOut 379 = .ok (.goto (-370), 3) := by decide +kernel
theorem dX8_workOut_382 : decode cX8_workOut 382 = .ok (.iconst 0, 1) := by decide +kernel
theorem dX8_workOut_383 : decode cX8_workOut 383 = .ok (.ireturn, 1) := by decide +kernel
theorem dX8_joined_0 : decode cX8_joined 0 = .ok (.iload_n 0, 1) := by decide +kernel
theorem dX8_joined_1 : decode cX8_joined 1 = .ok (.lookupswitch 168 #[(38, 97), (42, 152), (43, 144), (45, 148), (47, 156), (60, 111), (61, 122), (62, 133), (124, 83)], 83) := by decide +kernel
theorem dX8_joined_84 : decode cX8_joined 84 = .ok (.iload_n 1, 1) := by decide +kernel
theorem dX8_joined_85 : decode cX8_joined 85 = .ok (.ifCond .ne 7, 3) := by decide +kernel
theorem dX8_joined_88 : decode cX8_joined 88 = .ok (.iload_n 2, 1) := by decide +kernel
theorem dX8_joined_89 : decode cX8_joined 89 = .ok (.ifCond .eq 7, 3) := by decide +kernel
theorem dX8_joined_92 : decode cX8_joined 92 = .ok (.iconst 1, 1) := by decide +kernel
theorem dX8_joined_93 : decode cX8_joined 93 = .ok (.goto 4, 3) := by decide +kernel
theorem dX8_joined_96 : decode cX8_joined 96 = .ok (.iconst 0, 1) := by decide +kernel
theorem dX8_joined_97 : decode cX8_joined 97 = .ok (.ireturn, 1) := by decide +kernel
theorem dX8_joined_98 : decode cX8_joined 98 = .ok (.iload_n 1, 1) := by decide +kernel
theorem dX8_joined_99 : decode cX8_joined 99 = .ok (.ifCond .eq 11, 3) := by decide +kernel
theorem dX8_joined_102 : decode cX8_joined 102 = .ok (.iload_n 2, 1) := by decide +kernel
theorem dX8_joined_103 : decode cX8_joined 103 = .ok (.ifCond .eq 7, 3) := by decide +kernel
theorem dX8_joined_106 : decode cX8_joined 106 = .ok (.iconst 1, 1) := by decide +kernel
theorem dX8_joined_107 : decode cX8_joined 107 = .ok (.goto 4, 3) := by decide +kernel
theorem dX8_joined_110 : decode cX8_joined 110 = .ok (.iconst 0, 1) := by decide +kernel
theorem dX8_joined_111 : decode cX8_joined 111 = .ok (.ireturn, 1) := by decide +kernel
theorem dX8_joined_112 : decode cX8_joined 112 = .ok (.iload_n 1, 1) := by decide +kernel
theorem dX8_joined_113 : decode cX8_joined 113 = .ok (.iload_n 2, 1) := by decide +kernel
theorem dX8_joined_114 : decode cX8_joined 114 = .ok (.if_icmp .ge 7, 3) := by decide +kernel
theorem dX8_joined_117 : decode cX8_joined 117 = .ok (.iconst 1, 1) := by decide +kernel
theorem dX8_joined_118 : decode cX8_joined 118 = .ok (.goto 4, 3) := by decide +kernel
theorem dX8_joined_121 : decode cX8_joined 121 = .ok (.iconst 0, 1) := by decide +kernel
theorem dX8_joined_122 : decode cX8_joined 122 = .ok (.ireturn, 1) := by decide +kernel
theorem dX8_joined_123 : decode cX8_joined 123 = .ok (.iload_n 1, 1) := by decide +kernel
theorem dX8_joined_124 : decode cX8_joined 124 = .ok (.iload_n 2, 1) := by decide +kernel
theorem dX8_joined_125 : decode cX8_joined 125 = .ok (.if_icmp .ne 7, 3) := by decide +kernel
theorem dX8_joined_128 : decode cX8_joined 128 = .ok (.iconst 1, 1) := by decide +kernel
theorem dX8_joined_129 : decode cX8_joined 129 = .ok (.goto 4, 3) := by decide +kernel
theorem dX8_joined_132 : decode cX8_joined 132 = .ok (.iconst 0, 1) := by decide +kernel
theorem dX8_joined_133 : decode cX8_joined 133 = .ok (.ireturn, 1) := by decide +kernel
theorem dX8_joined_134 : decode cX8_joined 134 = .ok (.iload_n 1, 1) := by decide +kernel
theorem dX8_joined_135 : decode cX8_joined 135 = .ok (.iload_n 2, 1) := by decide +kernel
theorem dX8_joined_136 : decode cX8_joined 136 = .ok (.if_icmp .le 7, 3) := by decide +kernel
theorem dX8_joined_139 : decode cX8_joined 139 = .ok (.iconst 1, 1) := by decide +kernel
theorem dX8_joined_140 : decode cX8_joined 140 = .ok (.goto 4, 3) := by decide +kernel
theorem dX8_joined_143 : decode cX8_joined 143 = .ok (.iconst 0, 1) := by decide +kernel
theorem dX8_joined_144 : decode cX8_joined 144 = .ok (.ireturn, 1) := by decide +kernel
theorem dX8_joined_145 : decode cX8_joined 145 = .ok (.iload_n 1, 1) := by decide +kernel
theorem dX8_joined_146 : decode cX8_joined 146 = .ok (.iload_n 2, 1) := by decide +kernel
theorem dX8_joined_147 : decode cX8_joined 147 = .ok (.iadd, 1) := by decide +kernel
theorem dX8_joined_148 : decode cX8_joined 148 = .ok (.ireturn, 1) := by decide +kernel
theorem dX8_joined_149 : decode cX8_joined 149 = .ok (.iload_n 1, 1) := by decide +kernel
theorem dX8_joined_150 : decode cX8_joined 150 = .ok (.iload_n 2, 1) := by decide +kernel
theorem dX8_joined_151 : decode cX8_joined 151 = .ok (.isub, 1) := by decide +kernel
theorem dX8_joined_152 : decode cX8_joined 152 = .ok (.ireturn, 1) := by decide +kernel
theorem dX8_joined_153 : decode cX8_joined 153 = .ok (.iload_n 1, 1) := by decide +kernel
theorem dX8_joined_154 : decode cX8_joined 154 = .ok (.iload_n 2, 1) := by decide +kernel
theorem dX8_joined_155 : decode cX8_joined 155 = .ok (.imul, 1) := by decide +kernel
theorem dX8_joined_156 : decode cX8_joined 156 = .ok (.ireturn, 1) := by decide +kernel
theorem dX8_joined_157 : decode cX8_joined 157 = .ok (.iload_n 2, 1) := by decide +kernel
theorem dX8_joined_158 : decode cX8_joined 158 = .ok (.ifCond .ne 7, 3) := by decide +kernel
theorem dX8_joined_161 : decode cX8_joined 161 = .ok (.iconst 0, 1) := by decide +kernel
theorem dX8_joined_162 : decode cX8_joined 162 = .ok (.goto 6, 3) := by decide +kernel
theorem dX8_joined_165 : decode cX8_joined 165 = .ok (.iload_n 1, 1) := by decide +kernel
theorem dX8_joined_166 : decode cX8_joined 166 = .ok (.iload_n 2, 1) := by decide +kernel
theorem dX8_joined_167 : decode cX8_joined 167 = .ok (.idiv, 1) := by decide +kernel
theorem dX8_joined_168 : decode cX8_joined 168 = .ok (.ireturn, 1) := by decide +kernel
theorem dX8_joined_169 : decode cX8_joined 169 = .ok (.iload_n 2, 1) := by decide +kernel
theorem dX8_joined_170 : decode cX8_joined 170 = .ok (.ifCond .ne 7, 3) := by decide +kernel
theorem dX8_joined_173 : decode cX8_joined 173 = .ok (.iconst 0, 1) := by decide +kernel
theorem dX8_joined_174 : decode cX8_joined 174 = .ok (.goto 6, 3) := by decide +kernel
theorem dX8_joined_177 : decode cX8_joined 177 = .ok (.iload_n 1, 1) := by decide +kernel
theorem dX8_joined_178 : decode cX8_joined 178 = .ok (.iload_n 2, 1) := by decide +kernel
theorem dX8_joined_179 : decode cX8_joined 179 = .ok (.irem, 1) := by decide +kernel
theorem dX8_joined_180 : decode cX8_joined 180 = .ok (.ireturn, 1) := by decide +kernel
theorem dX9_init_0 : decode cX9_init 0 = .ok (.aload_n 0, 1) := by decide +kernel
theorem dX9_init_1 : decode cX9_init 1 = .ok (.invokespecial 3, 3) := by decide +kernel
theorem dX9_init_4 : decode cX9_init 4 = .ok (.aload_n 0, 1) := by decide +kernel
theorem dX9_init_5 : decode cX9_init 5 = .ok (.bipush 6, 2) := by decide +kernel
theorem dX9_init_7 : decode cX9_init 7 = .ok (.newarray .int, 2) := by decide +kernel
theorem dX9_init_9 : decode cX9_init 9 = .ok (.putfield 9, 3) := by decide +kernel
theorem dX9_init_12 : decode cX9_init 12 = .ok (.aload_n 0, 1) := by decide +kernel
theorem dX9_init_13 : decode cX9_init 13 = .ok (.bipush 6, 2) := by decide +kernel
theorem dX9_init_15 : decode cX9_init 15 = .ok (.newarray .int, 2) := by decide +kernel
theorem dX9_init_17 : decode cX9_init 17 = .ok (.putfield 15, 3) := by decide +kernel
theorem dX9_init_20 : decode cX9_init 20 = .ok (.aload_n 0, 1) := by decide +kernel
theorem dX9_init_21 : decode cX9_init 21 = .ok (.bipush 6, 2) := by decide +kernel
theorem dX9_init_23 : decode cX9_init 23 = .ok (.newarray .int, 2) := by decide +kernel
theorem dX9_init_25 : decode cX9_init 25 = .ok (.putfield 18, 3) := by decide +kernel
theorem dX9_init_28 : decode cX9_init 28 = .ok (.aload_n 0, 1) := by decide +kernel
theorem dX9_init_29 : decode cX9_init 29 = .ok (.bipush 6, 2) := by decide +kernel
theorem dX9_init_31 : decode cX9_init 31 = .ok (.newarray .int, 2) := by decide +kernel
theorem dX9_init_33 : decode cX9_init 33 = .ok (.putfield 21, 3) := by decide +kernel
theorem dX9_init_36 : decode cX9_init 36 = .ok (.aload_n 0, 1) := by decide +kernel
theorem dX9_init_37 : decode cX9_init 37 = .ok (.bipush 6, 2) := by decide +kernel
theorem dX9_init_39 : decode cX9_init 39 = .ok (.newarray .int, 2) := by decide +kernel
theorem dX9_init_41 : decode cX9_init 41 = .ok (.putfield 24, 3) := by decide +kernel
theorem dX9_init_44 : decode cX9_init 44 = .ok (.aload_n 0, 1) := by decide +kernel
theorem dX9_init_45 : decode cX9_init 45 = .ok (.bipush 48, 2) := by decide +kernel
theorem dX9_init_47 : decode cX9_init 47 = .ok (.newarray .int, 2) := by decide +kernel
theorem dX9_init_49 : decode cX9_init 49 = .ok (.putfield 27, 3) := by decide +kernel
theorem dX9_init_52 : decode cX9_init 52 = .ok (.aload_n 0, 1) := by decide +kernel
theorem dX9_init_53 : decode cX9_init 53 = .ok (.iconst 5, 1) := by decide +kernel
theorem dX9_init_54 : decode cX9_init 54 = .ok (.newarray .int, 2) := by decide +kernel
theorem dX9_init_56 : decode cX9_init 56 = .ok (.putfield 30, 3) := by decide +kernel
theorem dX9_init_59 : decode cX9_init 59 = .ok (.aload_n 0, 1) := by decide +kernel
theorem dX9_init_60 : decode cX9_init 60 = .ok (.iconst 5, 1) := by decide +kernel
theorem dX9_init_61 : decode cX9_init 61 = .ok (.newarray .int, 2) := by decide +kernel
theorem dX9_init_63 : decode cX9_init 63 = .ok (.putfield 33, 3) := by decide +kernel
theorem dX9_init_66 : decode cX9_init 66 = .ok (.aload_n 0, 1) := by decide +kernel
theorem dX9_init_67 : decode cX9_init 67 = .ok (.iconst 5, 1) := by decide +kernel
theorem dX9_init_68 : decode cX9_init 68 = .ok (.newarray .int, 2) := by decide +kernel
