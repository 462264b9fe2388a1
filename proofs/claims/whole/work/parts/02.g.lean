theorem dX8_goesOn_236 : decode cX8_goesOn 236 = .ok (.ifCond .ne 7, 3) := by decide +kernel
theorem dX8_goesOn_239 : decode cX8_goesOn 239 = .ok (.iconst 3, 1) := by decide +kernel
theorem dX8_goesOn_240 : decode cX8_goesOn 240 = .ok (.goto 13, 3) := by decide +kernel
theorem dX8_goesOn_243 : decode cX8_goesOn 243 = .ok (.iload 6, 2) := by decide +kernel
theorem dX8_goesOn_245 : decode cX8_goesOn 245 = .ok (.ifCond .eq 7, 3) := by decide +kernel
theorem dX8_goesOn_248 : decode cX8_goesOn 248 = .ok (.iconst 2, 1) := by decide +kernel
theorem dX8_goesOn_249 : decode cX8_goesOn 249 = .ok (.goto 4, 3) := by decide +kernel
theorem dX8_goesOn_252 : decode cX8_goesOn 252 = .ok (.iconst 1, 1) := by decide +kernel
theorem dX8_goesOn_253 : decode cX8_goesOn 253 = .ok (.iastore, 1) := by decide +kernel
theorem dX8_goesOn_254 : decode cX8_goesOn 254 = .ok (.iinc 2 1, 3) := by decide +kernel
theorem dX8_goesOn_257 : decode cX8_goesOn 257 = .ok (.goto (-184), 3) := by decide +kernel
theorem dX8_goesOn_260 : decode cX8_goesOn 260 = .ok (.iconst 0, 1) := by decide +kernel
theorem dX8_goesOn_261 : decode cX8_goesOn 261 = .ok (.istore_n 2, 1) := by decide +kernel
theorem dX8_goesOn_262 : decode cX8_goesOn 262 = .ok (.iload_n 2, 1) := by decide +kernel
theorem dX8_goesOn_263 : decode cX8_goesOn 263 = .ok (.aload_n 0, 1) := by decide +kernel
theorem dX8_goesOn_264 : decode cX8_goesOn 264 = .ok (.getfield 16, 3) := by decide +kernel
theorem dX8_goesOn_267 : decode cX8_goesOn 267 = .ok (.iconst 2, 1) := by decide +kernel
theorem dX8_goesOn_268 : decode cX8_goesOn 268 = .ok (.iaload, 1) := by decide +kernel
theorem dX8_goesOn_269 : decode cX8_goesOn 269 = .ok (.if_icmp .ge 71, 3) := by decide +kernel
theorem dX8_goesOn_272 : decode cX8_goesOn 272 = .ok (.aload_n 0, 1) := by decide +kernel
theorem dX8_goesOn_273 : decode cX8_goesOn 273 = .ok (.iload_n 2, 1) := by decide +kernel
theorem dX8_goesOn_274 : decode cX8_goesOn 274 = .ok (.invokevirtual 145, 3) := by decide +kernel
theorem dX8_goesOn_277 : decode cX8_goesOn 277 = .ok (.ifCond .eq 57, 3) := by decide +kernel
theorem dX8_goesOn_280 : decode cX8_goesOn 280 = .ok (.aload_n 0, 1) := by decide +kernel
theorem dX8_goesOn_281 : decode cX8_goesOn 281 = .ok (.getfield 19, 3) := by decide +kernel
theorem dX8_goesOn_284 : decode cX8_goesOn 284 = .ok (.iconst 1, 1) := by decide +kernel
theorem dX8_goesOn_285 : decode cX8_goesOn 285 = .ok (.iconst 4, 1) := by decide +kernel
theorem dX8_goesOn_286 : decode cX8_goesOn 286 = .ok (.iload_n 2, 1) := by decide +kernel
theorem dX8_goesOn_287 : decode cX8_goesOn 287 = .ok (.imul, 1) := by decide +kernel
theorem dX8_goesOn_288 : decode cX8_goesOn 288 = .ok (.iadd, 1) := by decide +kernel
theorem dX8_goesOn_289 : decode cX8_goesOn 289 = .ok (.dup2, 1) := by decide +kernel
theorem dX8_goesOn_290 : decode cX8_goesOn 290 = .ok (.iaload, 1) := by decide +kernel
theorem dX8_goesOn_291 : decode cX8_goesOn 291 = .ok (.iconst 1, 1) := by decide +kernel
theorem dX8_goesOn_292 : decode cX8_goesOn 292 = .ok (.isub, 1) := by decide +kernel
theorem dX8_goesOn_293 : decode cX8_goesOn 293 = .ok (.iastore, 1) := by decide +kernel
theorem dX8_goesOn_294 : decode cX8_goesOn 294 = .ok (.aload_n 0, 1) := by decide +kernel
theorem dX8_goesOn_295 : decode cX8_goesOn 295 = .ok (.getfield 19, 3) := by decide +kernel
theorem dX8_goesOn_298 : decode cX8_goesOn 298 = .ok (.bipush 42, 2) := by decide +kernel
theorem dX8_goesOn_300 : decode cX8_goesOn 300 = .ok (.aload_n 0, 1) := by decide +kernel
theorem dX8_goesOn_301 : decode cX8_goesOn 301 = .ok (.iload_n 2, 1) := by decide +kernel
theorem dX8_goesOn_302 : decode cX8_goesOn 302 = .ok (.invokevirtual 141, 3) := by decide +kernel
theorem dX8_goesOn_305 : decode cX8_goesOn 305 = .ok (.iadd, 1) := by decide +kernel
theorem dX8_goesOn_306 : decode cX8_goesOn 306 = .ok (.dup2, 1) := by decide +kernel
theorem dX8_goesOn_307 : decode cX8_goesOn 307 = .ok (.iaload, 1) := by decide +kernel
theorem dX8_goesOn_308 : decode cX8_goesOn 308 = .ok (.iconst 1, 1) := by decide +kernel
theorem dX8_goesOn_309 : decode cX8_goesOn 309 = .ok (.iadd, 1) := by decide +kernel
theorem dX8_goesOn_310 : decode cX8_goesOn 310 = .ok (.iastore, 1) := by decide +kernel
theorem dX8_goesOn_311 : decode cX8_goesOn 311 = .ok (.aload_n 0, 1) := by decide +kernel
theorem dX8_goesOn_312 : decode cX8_goesOn 312 = .ok (.getfield 19, 3) := by decide +kernel
theorem dX8_goesOn_315 : decode cX8_goesOn 315 = .ok (.iconst 3, 1) := by decide +kernel
theorem dX8_goesOn_316 : decode cX8_goesOn 316 = .ok (.iconst 4, 1) := by decide +kernel
theorem dX8_goesOn_317 : decode cX8_goesOn 317 = .ok (.iload_n 2, 1) := by decide +kernel
theorem dX8_goesOn_318 : decode cX8_goesOn 318 = .ok (.imul, 1) := by decide +kernel
theorem dX8_goesOn_319 : decode cX8_goesOn 319 = .ok (.iadd, 1) := by decide +kernel
theorem dX8_goesOn_320 : decode cX8_goesOn 320 = .ok (.aload_n 0, 1) := by decide +kernel
theorem dX8_goesOn_321 : decode cX8_goesOn 321 = .ok (.iload_n 2, 1) := by decide +kernel
theorem dX8_goesOn_322 : decode cX8_goesOn 322 = .ok (.invokevirtual 151, 3) := by decide +kernel
theorem dX8_goesOn_325 : decode cX8_goesOn 325 = .ok (.ifCond .le 7, 3) := by decide +kernel
theorem dX8_goesOn_328 : decode cX8_goesOn 328 = .ok (.iconst 1, 1) := by decide +kernel
theorem dX8_goesOn_329 : decode cX8_goesOn 329 = .ok (.goto 4, 3) := by decide +kernel
theorem dX8_goesOn_332 : decode cX8_goesOn 332 = .ok (.iconst 0, 1) := by decide +kernel
theorem dX8_goesOn_333 : decode cX8_goesOn 333 = .ok (.iastore, 1) := by decide +kernel
theorem dX8_goesOn_334 : decode cX8_goesOn 334 = .ok (.iinc 2 1, 3) := by decide +kernel
theorem dX8_goesOn_337 : decode cX8_goesOn 337 = .ok (.goto (-75), 3) := by decide +kernel
theorem dX8_goesOn_340 : decode cX8_goesOn 340 = .ok (.aload_n 0, 1) := by decide +kernel
theorem dX8_goesOn_341 : decode cX8_goesOn 341 = .ok (.getfield 19, 3) := by decide +kernel
theorem dX8_goesOn_344 : decode cX8_goesOn 344 = .ok (.iconst 0, 1) := by decide +kernel
theorem dX8_goesOn_345 : decode cX8_goesOn 345 = .ok (.dup2, 1) := by decide +kernel
theorem dX8_goesOn_346 : decode cX8_goesOn 346 = .ok (.iaload, 1) := by decide +kernel
theorem dX8_goesOn_347 : decode cX8_goesOn 347 = .ok (.iconst 1, 1) := by decide +kernel
theorem dX8_goesOn_348 : decode cX8_goesOn 348 = .ok (.iadd, 1) := by decide +kernel
theorem dX8_goesOn_349 : decode cX8_goesOn 349 = .ok (.iastore, 1) := by decide +kernel
theorem dX8_goesOn_350 : decode cX8_goesOn 350 = .ok (.return_, 1) := by decide +kernel
set_option maxRecDepth 20000 in
theorem ggX8_minutes_X8_in : GoodIn wsX8_minutes wsX8_in := goodIn_r _ [7] (by decide +kernel) (by decide +kernel)
set_option maxRecDepth 20000 in
theorem gX8_minutes_X8_in : GoodIn wsX8_minutes (va_wsS RX8 48 yX8_in wsX8_in) := goodIn_app (goodIn_of _ (by decide +kernel)) ggX8_minutes_X8_in
set_option maxRecDepth 20000 in
theorem ggX8_minutes_X8_many : GoodIn wsX8_minutes wsX8_many := goodIn_r _ [11, 2, 46, 47, 48, 49, 50, 51, 52, 53, 54, 55, 56, 57, 58, 59, 60, 61, 62, 63] (by decide +kernel) (by decide +kernel)
set_option maxRecDepth 20000 in
theorem gX8_minutes_X8_many : GoodIn wsX8_minutes (wsV RX8 157 RX8 yX8_many wsX8_many) := goodIn_app (goodIn_of _ (by decide +kernel)) ggX8_minutes_X8_many
set_option maxRecDepth 20000 in
theorem ggX8_minutes_X8_notes : GoodIn wsX8_minutes wsX8_notes := goodIn_r _ [15, 16, 17, 2, 46, 47, 48, 49, 50, 51, 52, 53, 54, 55, 56, 57, 58, 59, 60, 61, 62, 63] (by decide +kernel) (by decide +kernel)
set_option maxRecDepth 20000 in
theorem gX8_minutes_X8_notes : GoodIn wsX8_minutes (wsV RX8 154 RX8 yX8_notes wsX8_notes) := goodIn_app (goodIn_of _ (by decide +kernel)) ggX8_minutes_X8_notes
set_option maxRecDepth 20000 in
theorem ggX8_minutes_X8_isWind : GoodIn wsX8_minutes wsX8_isWind := goodIn_r _ [21, 3, 46, 47, 48, 49, 50, 51, 52, 53, 54, 55, 56, 57, 58, 59, 60, 61, 62, 63] (by decide +kernel) (by decide +kernel)
set_option maxRecDepth 20000 in
theorem gX8_minutes_X8_isWind : GoodIn wsX8_minutes (wsV RX8 166 RX8 yX8_isWind wsX8_isWind) := goodIn_app (goodIn_of _ (by decide +kernel)) ggX8_minutes_X8_isWind
set_option maxRecDepth 20000 in
theorem ggX8_minutes_X8_goesOn : GoodIn wsX8_minutes wsX8_goesOn := goodIn_r _ [25, 3, 2, 26, 27, 28, 6, 29, 30, 31, 32, 33, 34, 35, 36, 37, 38, 39, 40, 41, 42, 43, 44, 45, 46, 47, 48, 49, 50, 51, 52, 53, 54, 55, 56, 57, 58, 59, 60, 61, 62, 63] (by decide +kernel) (by decide +kernel)
set_option maxRecDepth 20000 in
theorem gX8_minutes_X8_goesOn : GoodIn wsX8_minutes (wsV RX8 169 RX8 yX8_goesOn wsX8_goesOn) := goodIn_app (goodIn_of _ (by decide +kernel)) ggX8_minutes_X8_goesOn
theorem dX8_minutes_0 : decode cX8_minutes 0 = .ok (.iload_n 1, 1) := by decide +kernel
theorem dX8_minutes_1 : decode cX8_minutes 1 = .ok (.i2l, 1) := by decide +kernel
theorem dX8_minutes_2 : decode cX8_minutes 2 = .ok (.lconst 1, 1) := by decide +kernel
theorem dX8_minutes_3 : decode cX8_minutes 3 = .ok (.ldc2_w 164, 3) := by decide +kernel
theorem dX8_minutes_6 : decode cX8_minutes 6 = .ok (.invokestatic 48, 3) := by decide +kernel
theorem dX8_minutes_9 : decode cX8_minutes 9 = .ok (.ifCond .ne 5, 3) := by decide +kernel
theorem dX8_minutes_12 : decode cX8_minutes 12 = .ok (.iconst (-1), 1) := by decide +kernel
theorem dX8_minutes_13 : decode cX8_minutes 13 = .ok (.ireturn, 1) := by decide +kernel
theorem dX8_minutes_14 : decode cX8_minutes 14 = .ok (.aload_n 0, 1) := by decide +kernel
theorem dX8_minutes_15 : decode cX8_minutes 15 = .ok (.getfield 19, 3) := by decide +kernel
theorem dX8_minutes_18 : decode cX8_minutes 18 = .ok (.iconst 0, 1) := by decide +kernel
theorem dX8_minutes_19 : decode cX8_minutes 19 = .ok (.iaload, 1) := by decide +kernel
theorem dX8_minutes_20 : decode cX8_minutes 20 = .ok (.iload_n 1, 1) := by decide +kernel
theorem dX8_minutes_21 : decode cX8_minutes 21 = .ok (.iadd, 1) := by decide +kernel
theorem dX8_minutes_22 : decode cX8_minutes 22 = .ok (.sipush 999, 3) := by decide +kernel
theorem dX8_minutes_25 : decode cX8_minutes 25 = .ok (.if_icmp .le 6, 3) := by decide +kernel
theorem dX8_minutes_28 : decode cX8_minutes 28 = .ok (.bipush (-2), 2) := by decide +kernel
theorem dX8_minutes_30 : decode cX8_minutes 30 = .ok (.ireturn, 1) := by decide +kernel
theorem dX8_minutes_31 : decode cX8_minutes 31 = .ok (.aload_n 0, 1) := by decide +kernel
theorem dX8_minutes_32 : decode cX8_minutes 32 = .ok (.bipush 30, 2) := by decide +kernel
theorem dX8_minutes_34 : decode cX8_minutes 34 = .ok (.iconst 2, 1) := by decide +kernel
theorem dX8_minutes_35 : decode cX8_minutes 35 = .ok (.aload_n 0, 1) := by decide +kernel
theorem dX8_minutes_36 : decode cX8_minutes 36 = .ok (.getfield 16, 3) := by decide +kernel
theorem dX8_minutes_39 : decode cX8_minutes 39 = .ok (.iconst 3, 1) := by decide +kernel
theorem dX8_minutes_40 : decode cX8_minutes 40 = .ok (.iaload, 1) := by decide +kernel
theorem dX8_minutes_41 : decode cX8_minutes 41 = .ok (.iconst 3, 1) := by decide +kernel
theorem dX8_minutes_42 : decode cX8_minutes 42 = .ok (.invokevirtual 157, 3) := by decide +kernel
theorem dX8_minutes_45 : decode cX8_minutes 45 = .ok (.istore_n 2, 1) := by decide +kernel
theorem dX8_minutes_46 : decode cX8_minutes 46 = .ok (.iconst 0, 1) := by decide +kernel
theorem dX8_minutes_47 : decode cX8_minutes 47 = .ok (.istore_n 3, 1) := by decide +kernel
theorem dX8_minutes_48 : decode cX8_minutes 48 = .ok (.iload_n 3, 1) := by decide +kernel
theorem dX8_minutes_49 : decode cX8_minutes 49 = .ok (.iload_n 1, 1) := by decide +kernel
theorem dX8_minutes_50 : decode cX8_minutes 50 = .ok (.if_icmp .ge 27, 3) := by decide +kernel
theorem dX8_minutes_53 : decode cX8_minutes 53 = .ok (.aload_n 0, 1) := by decide +kernel
theorem dX8_minutes_54 : decode cX8_minutes 54 = .ok (.invokevirtual 154, 3) := by decide +kernel
theorem dX8_minutes_57 : decode cX8_minutes 57 = .ok (.aload_n 0, 1) := by decide +kernel
theorem dX8_minutes_58 : decode cX8_minutes 58 = .ok (.aload_n 0, 1) := by decide +kernel
theorem dX8_minutes_59 : decode cX8_minutes 59 = .ok (.aload_n 0, 1) := by decide +kernel
theorem dX8_minutes_60 : decode cX8_minutes 60 = .ok (.getfield 19, 3) := by decide +kernel
theorem dX8_minutes_63 : decode cX8_minutes 63 = .ok (.iconst 0, 1) := by decide +kernel
theorem dX8_minutes_64 : decode cX8_minutes 64 = .ok (.iaload, 1) := by decide +kernel
theorem dX8_minutes_65 : decode cX8_minutes 65 = .ok (.invokevirtual 166, 3) := by decide +kernel
theorem dX8_minutes_68 : decode cX8_minutes 68 = .ok (.invokevirtual 169, 3) := by decide +kernel
theorem dX8_minutes_71 : decode cX8_minutes 71 = .ok (.iinc 3 1, 3) := by decide +kernel
theorem dX8_minutes_74 : decode cX8_minutes 74 = .ok (.goto (-26), 3) := by decide +kernel
theorem dX8_minutes_77 : decode cX8_minutes 77 = .ok (.aload_n 0, 1) := by decide +kernel
theorem dX8_minutes_78 : decode cX8_minutes 78 = .ok (.bipush 30, 2) := by decide +kernel
theorem dX8_minutes_80 : decode cX8_minutes 80 = .ok (.iconst 2, 1) := by decide +kernel
theorem dX8_minutes_81 : decode cX8_minutes 81 = .ok (.aload_n 0, 1) := by decide +kernel
theorem dX8_minutes_82 : decode cX8_minutes 82 = .ok (.getfield 16, 3) := by decide +kernel
theorem dX8_minutes_85 : decode cX8_minutes 85 = .ok (.iconst 3, 1) := by decide +kernel
theorem dX8_minutes_86 : decode cX8_minutes 86 = .ok (.iaload, 1) := by decide +kernel
theorem dX8_minutes_87 : decode cX8_minutes 87 = .ok (.iconst 3, 1) := by decide +kernel
theorem dX8_minutes_88 : decode cX8_minutes 88 = .ok (.invokevirtual 157, 3) := by decide +kernel
theorem dX8_minutes_91 : decode cX8_minutes 91 = .ok (.iload_n 2, 1) := by decide +kernel
theorem dX8_minutes_92 : decode cX8_minutes 92 = .ok (.isub, 1) := by decide +kernel
theorem dX8_minutes_93 : decode cX8_minutes 93 = .ok (.ireturn, 1) := by decide +kernel
theorem dX8_undo_0 : decode cX8_undo 0 = .ok (.aload_n 0, 1) := by decide +kernel
theorem dX8_undo_1 : decode cX8_undo 1 = .ok (.getfield 118, 3) := by decide +kernel
theorem dX8_undo_4 : decode cX8_undo 4 = .ok (.ifCond .ne 6, 3) := by decide +kernel
theorem dX8_undo_7 : decode cX8_undo 7 = .ok (.bipush (-2), 2) := by decide +kernel
theorem dX8_undo_9 : decode cX8_undo 9 = .ok (.ireturn, 1) := by decide +kernel
theorem dX8_undo_10 : decode cX8_undo 10 = .ok (.aload_n 0, 1) := by decide +kernel
theorem dX8_undo_11 : decode cX8_undo 11 = .ok (.dup, 1) := by decide +kernel
theorem dX8_undo_12 : decode cX8_undo 12 = .ok (.getfield 118, 3) := by decide +kernel
theorem dX8_undo_15 : decode cX8_undo 15 = .ok (.iconst 1, 1) := by decide +kernel
theorem dX8_undo_16 : decode cX8_undo 16 = .ok (.isub, 1) := by decide +kernel
theorem dX8_undo_17 : decode cX8_undo 17 = .ok (.putfield 118, 3) := by decide +kernel
theorem dX8_undo_20 : decode cX8_undo 20 = .ok (.iconst 0, 1) := by decide +kernel
theorem dX8_undo_21 : decode cX8_undo 21 = .ok (.istore_n 1, 1) := by decide +kernel
theorem dX8_undo_22 : decode cX8_undo 22 = .ok (.iload_n 1, 1) := by decide +kernel
theorem dX8_undo_23 : decode cX8_undo 23 = .ok (.bipush 47, 2) := by decide +kernel
theorem dX8_undo_25 : decode cX8_undo 25 = .ok (.if_icmp .ge 29, 3) := by decide +kernel
theorem dX8_undo_28 : decode cX8_undo 28 = .ok (.aload_n 0, 1) := by decide +kernel
theorem dX8_undo_29 : decode cX8_undo 29 = .ok (.getfield 19, 3) := by decide +kernel
theorem dX8_undo_32 : decode cX8_undo 32 = .ok (.iload_n 1, 1) := by decide +kernel
theorem dX8_undo_33 : decode cX8_undo 33 = .ok (.aload_n 0, 1) := by decide +kernel
theorem dX8_undo_34 : decode cX8_undo 34 = .ok (.getfield 22, 3) := by decide +kernel
theorem dX8_undo_37 : decode cX8_undo 37 = .ok (.bipush 47, 2) := by decide +kernel
theorem dX8_undo_39 : decode cX8_undo 39 = .ok (.aload_n 0, 1) := by decide +kernel
theorem dX8_undo_40 : decode cX8_undo 40 = .ok (.getfield 118, 3) := by decide +kernel
theorem dX8_undo_43 : decode cX8_undo 43 = .ok (.imul, 1) := by decide +kernel
theorem dX8_undo_44 : decode cX8_undo 44 = .ok (.iload_n 1, 1) := by decide +kernel
theorem dX8_undo_45 : decode cX8_undo 45 = .ok (.iadd, 1) := by decide +kernel
theorem dX8_undo_46 : decode cX8_undo 46 = .ok (.iaload, 1) := by decide +kernel
theorem dX8_undo_47 : decode cX8_undo 47 = .ok (.iastore, 1) := by decide +kernel
theorem dX8_undo_48 : decode cX8_undo 48 = .ok (.iinc 1 1, 3) := by decide +kernel
theorem dX8_undo_51 : decode cX8_undo 51 = .ok (.goto (-29), 3) := by decide +kernel
theorem dX8_undo_54 : decode cX8_undo 54 = .ok (.aload_n 0, 1) := by decide +kernel
theorem dX8_undo_55 : decode cX8_undo 55 = .ok (.getfield 118, 3) := by decide +kernel
theorem dX8_undo_58 : decode cX8_undo 58 = .ok (.ireturn, 1) := by decide +kernel
theorem dX8_bits_0 : decode cX8_bits 0 = .ok (.iconst 0, 1) := by decide +kernel
theorem dX8_bits_1 : decode cX8_bits 1 = .ok (.istore 5, 2) := by decide +kernel
theorem dX8_bits_3 : decode cX8_bits 3 = .ok (.iconst 0, 1) := by decide +kernel
theorem dX8_bits_4 : decode cX8_bits 4 = .ok (.istore 6, 2) := by decide +kernel
theorem dX8_bits_6 : decode cX8_bits 6 = .ok (.iload 6, 2) := by decide +kernel
theorem dX8_bits_8 : decode cX8_bits 8 = .ok (.iload_n 3, 1) := by decide +kernel
theorem dX8_bits_9 : decode cX8_bits 9 = .ok (.if_icmp .ge 38, 3) := by decide +kernel
theorem dX8_bits_12 : decode cX8_bits 12 = .ok (.iload 5, 2) := by decide +kernel
theorem dX8_bits_14 : decode cX8_bits 14 = .ok (.aload_n 0, 1) := by decide +kernel
theorem dX8_bits_15 : decode cX8_bits 15 = .ok (.getfield 19, 3) := by decide +kernel
theorem dX8_bits_18 : decode cX8_bits 18 = .ok (.iload_n 1, 1) := by decide +kernel
theorem dX8_bits_19 : decode cX8_bits 19 = .ok (.iload_n 2, 1) := by decide +kernel
theorem dX8_bits_20 : decode cX8_bits 20 = .ok (.iload 6, 2) := by decide +kernel
theorem dX8_bits_22 : decode cX8_bits 22 = .ok (.imul, 1) := by decide +kernel
theorem dX8_bits_23 : decode cX8_bits 23 = .ok (.iadd, 1) := by decide +kernel
theorem dX8_bits_24 : decode cX8_bits 24 = .ok (.iaload, 1) := by decide +kernel
theorem dX8_bits_25 : decode cX8_bits 25 = .ok (.iload 4, 2) := by decide +kernel
theorem dX8_bits_27 : decode cX8_bits 27 = .ok (.if_icmp .ne 10, 3) := by decide +kernel
theorem dX8_bits_30 : decode cX8_bits 30 = .ok (.iconst 1, 1) := by decide +kernel
theorem dX8_bits_31 : decode cX8_bits 31 = .ok (.iload 6, 2) := by decide +kernel
theorem dX8_bits_33 : decode cX8_bits 33 = .ok (.ishl, 1) := by decide +kernel
theorem dX8_bits_34 : decode cX8_bits 34 = .ok (.goto 4, 3) := by decide +kernel
theorem dX8_bits_37 : decode cX8_bits 37 = .ok (.iconst 0, 1) := by decide +kernel
theorem dX8_bits_38 : decode cX8_bits 38 = .ok (.ior, 1) := by decide +kernel
theorem dX8_bits_39 : decode cX8_bits 39 = .ok (.istore 5, 2) := by decide +kernel
theorem dX8_bits_41 : decode cX8_bits 41 = .ok (.iinc 6 1, 3) := by decide +kernel
theorem dX8_bits_44 : decode cX8_bits 44 = .ok (.goto (-38), 3) := by decide +kernel
theorem dX8_bits_47 : decode cX8_bits 47 = .ok (.iload 5, 2) := by decide +kernel
theorem dX8_bits_49 : decode cX8_bits 49 = .ok (.ireturn, 1) := by decide +kernel
set_option maxRecDepth 20000 in
theorem ggX8_now_X8_isWind : GoodIn wsX8_now wsX8_isWind := goodIn_r _ [7, 2, 12, 13, 14, 15, 16, 17, 18, 19, 20, 21, 22, 23, 24, 25, 26, 27, 28, 29] (by decide +kernel) (by decide +kernel)
set_option maxRecDepth 20000 in
theorem gX8_now_X8_isWind : GoodIn wsX8_now (wsV RX8 166 RX8 yX8_isWind wsX8_isWind) := goodIn_app (goodIn_of _ (by decide +kernel)) ggX8_now_X8_isWind
set_option maxRecDepth 20000 in
theorem ggX8_now_X8_bits : GoodIn wsX8_now wsX8_bits := goodIn_r _ [11, 1, 12, 13, 14, 15, 16, 17, 18, 19, 20, 21, 22, 23, 24, 25, 26, 27, 28, 29] (by decide +kernel) (by decide +kernel)
set_option maxRecDepth 20000 in
theorem gX8_now_X8_bits : GoodIn wsX8_now (wsV RX8 173 RX8 yX8_bits wsX8_bits) := goodIn_app (goodIn_of _ (by decide +kernel)) ggX8_now_X8_bits
theorem dX8_now_0 : decode cX8_now 0 = .ok (.iload_n 1, 1) := by decide +kernel
theorem dX8_now_1 : decode cX8_now 1 = .ok (.tableswitch 185 0 6 #[43, 50, 69, 83, 98, 113, 128], 43) := by decide +kernel
theorem dX8_now_44 : decode cX8_now 44 = .ok (.aload_n 0, 1) := by decide +kernel
theorem dX8_now_45 : decode cX8_now 45 = .ok (.getfield 19, 3) := by decide +kernel
theorem dX8_now_48 : decode cX8_now 48 = .ok (.iconst 0, 1) := by decide +kernel
theorem dX8_now_49 : decode cX8_now 49 = .ok (.iaload, 1) := by decide +kernel
theorem dX8_now_50 : decode cX8_now 50 = .ok (.ireturn, 1) := by decide +kernel
theorem dX8_now_51 : decode cX8_now 51 = .ok (.aload_n 0, 1) := by decide +kernel
theorem dX8_now_52 : decode cX8_now 52 = .ok (.aload_n 0, 1) := by decide +kernel
theorem dX8_now_53 : decode cX8_now 53 = .ok (.getfield 19, 3) := by decide +kernel
theorem dX8_now_56 : decode cX8_now 56 = .ok (.iconst 0, 1) := by decide +kernel
theorem dX8_now_57 : decode cX8_now 57 = .ok (.iaload, 1) := by decide +kernel
theorem dX8_now_58 : decode cX8_now 58 = .ok (.invokevirtual 166, 3) := by decide +kernel
theorem dX8_now_61 : decode cX8_now 61 = .ok (.ifCond .eq 7, 3) := by decide +kernel
theorem dX8_now_64 : decode cX8_now 64 = .ok (.iconst 1, 1) := by decide +kernel
theorem dX8_now_65 : decode cX8_now 65 = .ok (.goto 4, 3) := by decide +kernel
theorem dX8_now_68 : decode cX8_now 68 = .ok (.iconst 0, 1) := by decide +kernel
theorem dX8_now_69 : decode cX8_now 69 = .ok (.ireturn, 1) := by decide +kernel
theorem dX8_now_70 : decode cX8_now 70 = .ok (.aload_n 0, 1) := by decide +kernel
theorem dX8_now_71 : decode cX8_now 71 = .ok (.iconst 3, 1) := by decide +kernel
theorem dX8_now_72 : decode cX8_now 72 = .ok (.iconst 4, 1) := by decide +kernel
theorem dX8_now_73 : decode cX8_now 73 = .ok (.aload_n 0, 1) := by decide +kernel
theorem dX8_now_74 : decode cX8_now 74 = .ok (.getfield 16, 3) := by decide +kernel
theorem dX8_now_77 : decode cX8_now 77 = .ok (.iconst 2, 1) := by decide +kernel
theorem dX8_now_78 : decode cX8_now 78 = .ok (.iaload, 1) := by decide +kernel
theorem dX8_now_79 : decode cX8_now 79 = .ok (.iconst 1, 1) := by decide +kernel
theorem dX8_now_80 : decode cX8_now 80 = .ok (.invokevirtual 173, 3) := by decide +kernel
theorem dX8_now_83 : decode cX8_now 83 = .ok (.ireturn, 1) := by decide +kernel
theorem dX8_now_84 : decode cX8_now 84 = .ok (.aload_n 0, 1) := by decide +kernel
theorem dX8_now_85 : decode cX8_now 85 = .ok (.bipush 25, 2) := by decide +kernel
theorem dX8_now_87 : decode cX8_now 87 = .ok (.iconst 1, 1) := by decide +kernel
theorem dX8_now_88 : decode cX8_now 88 = .ok (.aload_n 0, 1) := by decide +kernel
theorem dX8_now_89 : decode cX8_now 89 = .ok (.getfield 16, 3) := by decide +kernel
theorem dX8_now_92 : decode cX8_now 92 = .ok (.iconst 1, 1) := by decide +kernel
theorem dX8_now_93 : decode cX8_now 93 = .ok (.iaload, 1) := by decide +kernel
theorem dX8_now_94 : decode cX8_now 94 = .ok (.iconst 1, 1) := by decide +kernel
theorem dX8_now_95 : decode cX8_now 95 = .ok (.invokevirtual 173, 3) := by decide +kernel
theorem dX8_now_98 : decode cX8_now 98 = .ok (.ireturn, 1) := by decide +kernel
theorem dX8_now_99 : decode cX8_now 99 = .ok (.aload_n 0, 1) := by decide +kernel
theorem dX8_now_100 : decode cX8_now 100 = .ok (.bipush 30, 2) := by decide +kernel
theorem dX8_now_102 : decode cX8_now 102 = .ok (.iconst 2, 1) := by decide +kernel
theorem dX8_now_103 : decode cX8_now 103 = .ok (.aload_n 0, 1) := by decide +kernel
theorem dX8_now_104 : decode cX8_now 104 = .ok (.getfield 16, 3) := by decide +kernel
theorem dX8_now_107 : decode cX8_now 107 = .ok (.iconst 3, 1) := by decide +kernel
theorem dX8_now_108 : decode cX8_now 108 = .ok (.iaload, 1) := by decide +kernel
theorem dX8_now_109 : decode cX8_now 109 = .ok (.iconst 2, 1) := by decide +kernel
theorem dX8_now_110 : decode cX8_now 110 = .ok (.invokevirtual 173, 3) := by decide +kernel
theorem dX8_now_113 : decode cX8_now 113 = .ok (.ireturn, 1) := by decide +kernel
theorem dX8_now_114 : decode cX8_now 114 = .ok (.aload_n 0, 1) := by decide +kernel
theorem dX8_now_115 : decode cX8_now 115 = .ok (.bipush 30, 2) := by decide +kernel
theorem dX8_now_117 : decode cX8_now 117 = .ok (.iconst 2, 1) := by decide +kernel
theorem dX8_now_118 : decode cX8_now 118 = .ok (.aload_n 0, 1) := by decide +kernel
theorem dX8_now_119 : decode cX8_now 119 = .ok (.getfield 16, 3) := by decide +kernel
theorem dX8_now_122 : decode cX8_now 122 = .ok (.iconst 3, 1) := by decide +kernel
theorem dX8_now_123 : decode cX8_now 123 = .ok (.iaload, 1) := by decide +kernel
theorem dX8_now_124 : decode cX8_now 124 = .ok (.iconst 3, 1) := by decide +kernel
theorem dX8_now_125 : decode cX8_now 125 = .ok (.invokevirtual 173, 3) := by decide +kernel
theorem dX8_now_128 : decode cX8_now 128 = .ok (.ireturn, 1) := by decide +kernel
theorem dX8_now_129 : decode cX8_now 129 = .ok (.iconst 0, 1) := by decide +kernel
theorem dX8_now_130 : decode cX8_now 130 = .ok (.istore_n 2, 1) := by decide +kernel
theorem dX8_now_131 : decode cX8_now 131 = .ok (.iconst 0, 1) := by decide +kernel
theorem dX8_now_132 : decode cX8_now 132 = .ok (.istore_n 3, 1) := by decide +kernel
theorem dX8_now_133 : decode cX8_now 133 = .ok (.iload_n 3, 1) := by decide +kernel
theorem dX8_now_134 : decode cX8_now 134 = .ok (.aload_n 0, 1) := by decide +kernel
theorem dX8_now_135 : decode cX8_now 135 = .ok (.getfield 16, 3) := by decide +kernel
theorem dX8_now_138 : decode cX8_now 138 = .ok (.iconst 3, 1) := by decide +kernel
theorem dX8_now_139 : decode cX8_now 139 = .ok (.iaload, 1) := by decide +kernel
theorem dX8_now_140 : decode cX8_now 140 = .ok (.if_icmp .ge 44, 3) := by decide +kernel
theorem dX8_now_143 : decode cX8_now 143 = .ok (.iload_n 2, 1) := by decide +kernel
theorem dX8_now_144 : decode cX8_now 144 = .ok (.aload_n 0, 1) := by decide +kernel
theorem dX8_now_145 : decode cX8_now 145 = .ok (.getfield 19, 3) := by decide +kernel
theorem dX8_now_148 : decode cX8_now 148 = .ok (.bipush 30, 2) := by decide +kernel
theorem dX8_now_150 : decode cX8_now 150 = .ok (.iconst 2, 1) := by decide +kernel
theorem dX8_now_151 : decode cX8_now 151 = .ok (.iload_n 3, 1) := by decide +kernel
theorem dX8_now_152 : decode cX8_now 152 = .ok (.imul, 1) := by decide +kernel
theorem dX8_now_153 : decode cX8_now 153 = .ok (.iadd, 1) := by decide +kernel
theorem dX8_now_154 : decode cX8_now 154 = .ok (.iaload, 1) := by decide +kernel
theorem dX8_now_155 : decode cX8_now 155 = .ok (.iconst 2, 1) := by decide +kernel
theorem dX8_now_156 : decode cX8_now 156 = .ok (.if_icmp .ne 19, 3) := by decide +kernel
theorem dX8_now_159 : decode cX8_now 159 = .ok (.aload_n 0, 1) := by decide +kernel
theorem dX8_now_160 : decode cX8_now 160 = .ok (.getfield 16, 3) := by decide +kernel
theorem dX8_now_163 : decode cX8_now 163 = .ok (.bipush 27, 2) := by decide +kernel
theorem dX8_now_165 : decode cX8_now 165 = .ok (.iconst 4, 1) := by decide +kernel
theorem dX8_now_166 : decode cX8_now 166 = .ok (.iload_n 3, 1) := by decide +kernel
theorem dX8_now_167 : decode cX8_now 167 = .ok (.imul, 1) := by decide +kernel
theorem dX8_now_168 : decode cX8_now 168 = .ok (.iadd, 1) := by decide +kernel
theorem dX8_now_169 : decode cX8_now 169 = .ok (.iconst 1, 1) := by decide +kernel
theorem dX8_now_170 : decode cX8_now 170 = .ok (.iadd, 1) := by decide +kernel
theorem dX8_now_171 : decode cX8_now 171 = .ok (.iaload, 1) := by decide +kernel
theorem dX8_now_172 : decode cX8_now 172 = .ok (.goto 4, 3) := by decide +kernel
theorem dX8_now_175 : decode cX8_now 175 = .ok (.iconst 0, 1) := by decide +kernel
theorem dX8_now_176 : decode cX8_now 176 = .ok (.iadd, 1) := by decide +kernel
theorem dX8_now_177 : decode cX8_now 177 = .ok (.istore_n 2, 1) := by decide +kernel
theorem dX8_now_178 : decode cX8_now 178 = .ok (.iinc 3 1, 3) := by decide +kernel
theorem dX8_now_181 : decode cX8_now 181 = .ok (.goto (-48), 3) := by decide +kernel
theorem dX8_now_184 : decode cX8_now 184 = .ok (.iload_n 2, 1) := by decide +kernel
theorem dX8_now_185 : decode cX8_now 185 = .ok (.ireturn, 1) := by decide +kernel
theorem dX8_now_186 : decode cX8_now 186 = .ok (.iconst (-1), 1) := by decide +kernel
theorem dX8_now_187 : decode cX8_now 187 = .ok (.ireturn, 1) := by decide +kernel
theorem dX8_asides_0 : decode cX8_asides 0 = .ok (.iconst 0, 1) := by decide +kernel
theorem dX8_asides_1 : decode cX8_asides 1 = .ok (.istore_n 1, 1) := by decide +kernel
theorem dX8_asides_2 : decode cX8_asides 2 = .ok (.iload_n 1, 1) := by decide +kernel
theorem dX8_asides_3 : decode cX8_asides 3 = .ok (.bipush 47, 2) := by decide +kernel
theorem dX8_asides_5 : decode cX8_asides 5 = .ok (.if_icmp .ge 21, 3) := by decide +kernel
theorem dX8_asides_8 : decode cX8_asides 8 = .ok (.aload_n 0, 1) := by decide +kernel
theorem dX8_asides_9 : decode cX8_asides 9 = .ok (.getfield 25, 3) := by decide +kernel
theorem dX8_asides_12 : decode cX8_asides 12 = .ok (.iload_n 1, 1) := by decide +kernel
theorem dX8_asides_13 : decode cX8_asides 13 = .ok (.aload_n 0, 1) := by decide +kernel
theorem dX8_asides_14 : decode cX8_asides 14 = .ok (.getfield 19, 3) := by decide +kernel
theorem dX8_asides_17 : decode cX8_asides 17 = .ok (.iload_n 1, 1) := by decide +kernel
theorem dX8_asides_18 : decode cX8_asides 18 = .ok (.iaload, 1) := by decide +kernel
theorem dX8_asides_19 : decode cX8_asides 19 = .ok (.iastore, 1) := by decide +kernel
theorem dX8_asides_20 : decode cX8_asides 20 = .ok (.iinc 1 1, 3) := by decide +kernel
theorem dX8_asides_23 : decode cX8_asides 23 = .ok (.goto (-21), 3) := by decide +kernel
theorem dX8_asides_26 : decode cX8_asides 26 = .ok (.return_, 1) := by decide +kernel
theorem dX8_backs_0 : decode cX8_backs 0 = .ok (.iconst 0, 1) := by decide +kernel
theorem dX8_backs_1 : decode cX8_backs 1 = .ok (.istore_n 1, 1) := by decide +kernel
theorem dX8_backs_2 : decode cX8_backs 2 = .ok (.iload_n 1, 1) := by decide +kernel
theorem dX8_backs_3 : decode cX8_backs 3 = .ok (.bipush 47, 2) := by decide +kernel
theorem dX8_backs_5 : decode cX8_backs 5 = .ok (.if_icmp .ge 21, 3) := by decide +kernel
theorem dX8_backs_8 : decode cX8_backs 8 = .ok (.aload_n 0, 1) := by decide +kernel
theorem dX8_backs_9 : decode cX8_backs 9 = .ok (.getfield 19, 3) := by decide +kernel
theorem dX8_backs_12 : decode cX8_backs 12 = .ok (.iload_n 1, 1) := by decide +kernel
theorem dX8_backs_13 : decode cX8_backs 13 = .ok (.aload_n 0, 1) := by decide +kernel
theorem dX8_backs_14 : decode cX8_backs 14 = .ok (.getfield 25, 3) := by decide +kernel
theorem dX8_backs_17 : decode cX8_backs 17 = .ok (.iload_n 1, 1) := by decide +kernel
theorem dX8_backs_18 : decode cX8_backs 18 = .ok (.iaload, 1) := by decide +kernel
theorem dX8_backs_19 : decode cX8_backs 19 = .ok (.iastore, 1) := by decide +kernel
theorem dX8_backs_20 : decode cX8_backs 20 = .ok (.iinc 1 1, 3) := by decide +kernel
theorem dX8_backs_23 : decode cX8_backs 23 = .ok (.goto (-21), 3) := by decide +kernel
theorem dX8_backs_26 : decode cX8_backs 26 = .ok (.return_, 1) := by decide +kernel
set_option maxRecDepth 20000 in
theorem ggX8_comes_X8_isAct : GoodIn wsX8_comes wsX8_isAct := goodIn_r _ [7, 8, 9, 10, 6, 11, 49, 50, 51, 52, 53, 54, 55, 56, 57, 58, 59, 60, 61, 62, 63, 64, 65, 66] (by decide +kernel) (by decide +kernel)
set_option maxRecDepth 20000 in
theorem gX8_comes_X8_isAct : GoodIn wsX8_comes (wsV RX8 131 RX8 yX8_isAct wsX8_isAct) := goodIn_app (goodIn_of _ (by decide +kernel)) ggX8_comes_X8_isAct
set_option maxRecDepth 20000 in
theorem ggX8_comes_X8_in : GoodIn wsX8_comes wsX8_in := goodIn_r _ [11] (by decide +kernel) (by decide +kernel)
set_option maxRecDepth 20000 in
theorem gX8_comes_X8_in : GoodIn wsX8_comes (va_wsS RX8 48 yX8_in wsX8_in) := goodIn_app (goodIn_of _ (by decide +kernel)) ggX8_comes_X8_in
set_option maxRecDepth 20000 in
theorem ggX8_comes_X8_asides : GoodIn wsX8_comes wsX8_asides := goodIn_r _ [15, 16, 2, 49, 50, 51, 52, 53, 54, 55, 56, 57, 58, 59, 60, 61, 62, 63, 64, 65, 66] (by decide +kernel) (by decide +kernel)
set_option maxRecDepth 20000 in
theorem gX8_comes_X8_asides : GoodIn wsX8_comes (wsV RX8 176 RX8 yX8_asides wsX8_asides) := goodIn_app (goodIn_of _ (by decide +kernel)) ggX8_comes_X8_asides
set_option maxRecDepth 20000 in
theorem ggX8_comes_X8_isWind : GoodIn wsX8_comes wsX8_isWind := goodIn_r _ [20, 8, 49, 50, 51, 52, 53, 54, 55, 56, 57, 58, 59, 60, 61, 62, 63, 64, 65, 66] (by decide +kernel) (by decide +kernel)
set_option maxRecDepth 20000 in
theorem gX8_comes_X8_isWind : GoodIn wsX8_comes (wsV RX8 166 RX8 yX8_isWind wsX8_isWind) := goodIn_app (goodIn_of _ (by decide +kernel)) ggX8_comes_X8_isWind
set_option maxRecDepth 20000 in
theorem ggX8_comes_X8_goesOn : GoodIn wsX8_comes wsX8_goesOn := goodIn_r _ [24, 8, 2, 25, 26, 27, 6, 28, 29, 30, 31, 32, 33, 34, 35, 36, 37, 38, 39, 40, 41, 42, 43, 44, 49, 50, 51, 52, 53, 54, 55, 56, 57, 58, 59, 60, 61, 62, 63, 64, 65, 66] (by decide +kernel) (by decide +kernel)
set_option maxRecDepth 20000 in
theorem gX8_comes_X8_goesOn : GoodIn wsX8_comes (wsV RX8 169 RX8 yX8_goesOn wsX8_goesOn) := goodIn_app (goodIn_of _ (by decide +kernel)) ggX8_comes_X8_goesOn
set_option maxRecDepth 20000 in
theorem ggX8_comes_X8_backs : GoodIn wsX8_comes wsX8_backs := goodIn_r _ [48, 2, 16, 49, 50, 51, 52, 53, 54, 55, 56, 57, 58, 59, 60, 61, 62, 63, 64, 65, 66] (by decide +kernel) (by decide +kernel)
set_option maxRecDepth 20000 in
theorem gX8_comes_X8_backs : GoodIn wsX8_comes (wsV RX8 179 RX8 yX8_backs wsX8_backs) := goodIn_app (goodIn_of _ (by decide +kernel)) ggX8_comes_X8_backs
theorem dX8_comes_0 : decode cX8_comes 0 = .ok (.aload_n 0, 1) := by decide +kernel
theorem dX8_comes_1 : decode cX8_comes 1 = .ok (.iload_n 1, 1) := by decide +kernel
theorem dX8_comes_2 : decode cX8_comes 2 = .ok (.invokevirtual 131, 3) := by decide +kernel
theorem dX8_comes_5 : decode cX8_comes 5 = .ok (.ifCond .eq 15, 3) := by decide +kernel
theorem dX8_comes_8 : decode cX8_comes 8 = .ok (.iload_n 2, 1) := by decide +kernel
theorem dX8_comes_9 : decode cX8_comes 9 = .ok (.i2l, 1) := by decide +kernel
theorem dX8_comes_10 : decode cX8_comes 10 = .ok (.lconst 0, 1) := by decide +kernel
theorem dX8_comes_11 : decode cX8_comes 11 = .ok (.ldc2_w 164, 3) := by decide +kernel
theorem dX8_comes_14 : decode cX8_comes 14 = .ok (.invokestatic 48, 3) := by decide +kernel
theorem dX8_comes_17 : decode cX8_comes 17 = .ok (.ifCond .ne 5, 3) := by decide +kernel
theorem dX8_comes_20 : decode cX8_comes 20 = .ok (.iconst (-1), 1) := by decide +kernel
theorem dX8_comes_21 : decode cX8_comes 21 = .ok (.ireturn, 1) := by decide +kernel
theorem dX8_comes_22 : decode cX8_comes 22 = .ok (.aload_n 0, 1) := by decide +kernel
theorem dX8_comes_23 : decode cX8_comes 23 = .ok (.invokevirtual 176, 3) := by decide +kernel
theorem dX8_comes_26 : decode cX8_comes 26 = .ok (.iconst 0, 1) := by decide +kernel
theorem dX8_comes_27 : decode cX8_comes 27 = .ok (.istore_n 3, 1) := by decide +kernel
theorem dX8_comes_28 : decode cX8_comes 28 = .ok (.iload_n 3, 1) := by decide +kernel
theorem dX8_comes_29 : decode cX8_comes 29 = .ok (.iload_n 2, 1) := by decide +kernel
theorem dX8_comes_30 : decode cX8_comes 30 = .ok (.if_icmp .ge 23, 3) := by decide +kernel
theorem dX8_comes_33 : decode cX8_comes 33 = .ok (.aload_n 0, 1) := by decide +kernel
theorem dX8_comes_34 : decode cX8_comes 34 = .ok (.aload_n 0, 1) := by decide +kernel
theorem dX8_comes_35 : decode cX8_comes 35 = .ok (.aload_n 0, 1) := by decide +kernel
theorem dX8_comes_36 : decode cX8_comes 36 = .ok (.getfield 19, 3) := by decide +kernel
theorem dX8_comes_39 : decode cX8_comes 39 = .ok (.iconst 0, 1) := by decide +kernel
theorem dX8_comes_40 : decode cX8_comes 40 = .ok (.iaload, 1) := by decide +kernel
theorem dX8_comes_41 : decode cX8_comes 41 = .ok (.invokevirtual 166, 3) := by decide +kernel
theorem dX8_comes_44 : decode cX8_comes 44 = .ok (.invokevirtual 169, 3) := by decide +kernel
theorem dX8_comes_47 : decode cX8_comes 47 = .ok (.iinc 3 1, 3) := by decide +kernel
theorem dX8_comes_50 : decode cX8_comes 50 = .ok (.goto (-22), 3) := by decide +kernel
theorem dX8_comes_53 : decode cX8_comes 53 = .ok (.aload_n 0, 1) := by decide +kernel
theorem dX8_comes_54 : decode cX8_comes 54 = .ok (.getfield 19, 3) := by decide +kernel
theorem dX8_comes_57 : decode cX8_comes 57 = .ok (.bipush 30, 2) := by decide +kernel
theorem dX8_comes_59 : decode cX8_comes 59 = .ok (.iconst 2, 1) := by decide +kernel
theorem dX8_comes_60 : decode cX8_comes 60 = .ok (.iload_n 1, 1) := by decide +kernel
theorem dX8_comes_61 : decode cX8_comes 61 = .ok (.imul, 1) := by decide +kernel
theorem dX8_comes_62 : decode cX8_comes 62 = .ok (.iadd, 1) := by decide +kernel
theorem dX8_comes_63 : decode cX8_comes 63 = .ok (.iaload, 1) := by decide +kernel
theorem dX8_comes_64 : decode cX8_comes 64 = .ok (.istore_n 3, 1) := by decide +kernel
theorem dX8_comes_65 : decode cX8_comes 65 = .ok (.aload_n 0, 1) := by decide +kernel
theorem dX8_comes_66 : decode cX8_comes 66 = .ok (.invokevirtual 179, 3) := by decide +kernel
theorem dX8_comes_69 : decode cX8_comes 69 = .ok (.iload_n 3, 1) := by decide +kernel
theorem dX8_comes_70 : decode cX8_comes 70 = .ok (.ireturn, 1) := by decide +kernel
set_option maxRecDepth 20000 in
theorem ggX8_first_X8_in : GoodIn wsX8_first wsX8_in := goodIn_r _ [7] (by decide +kernel) (by decide +kernel)
set_option maxRecDepth 20000 in
theorem gX8_first_X8_in : GoodIn wsX8_first (va_wsS RX8 48 yX8_in wsX8_in) := goodIn_app (goodIn_of _ (by decide +kernel)) ggX8_first_X8_in
set_option maxRecDepth 20000 in
theorem ggX8_first_X8_asides : GoodIn wsX8_first wsX8_asides := goodIn_r _ [11, 3, 1, 44, 45, 46, 47, 48, 49, 50, 51, 52, 53, 54, 55, 56, 57, 58, 59, 60, 61] (by decide +kernel) (by decide +kernel)
set_option maxRecDepth 20000 in
theorem gX8_first_X8_asides : GoodIn wsX8_first (wsV RX8 176 RX8 yX8_asides wsX8_asides) := goodIn_app (goodIn_of _ (by decide +kernel)) ggX8_first_X8_asides
set_option maxRecDepth 20000 in
theorem ggX8_first_X8_isWind : GoodIn wsX8_first wsX8_isWind := goodIn_r _ [15, 2, 44, 45, 46, 47, 48, 49, 50, 51, 52, 53, 54, 55, 56, 57, 58, 59, 60, 61] (by decide +kernel) (by decide +kernel)
set_option maxRecDepth 20000 in
theorem gX8_first_X8_isWind : GoodIn wsX8_first (wsV RX8 166 RX8 yX8_isWind wsX8_isWind) := goodIn_app (goodIn_of _ (by decide +kernel)) ggX8_first_X8_isWind
set_option maxRecDepth 20000 in
theorem ggX8_first_X8_goesOn : GoodIn wsX8_first wsX8_goesOn := goodIn_r _ [19, 2, 1, 20, 21, 22, 6, 23, 24, 25, 26, 27, 28, 29, 30, 31, 32, 33, 34, 35, 36, 37, 38, 39, 44, 45, 46, 47, 48, 49, 50, 51, 52, 53, 54, 55, 56, 57, 58, 59, 60, 61] (by decide +kernel) (by decide +kernel)
set_option maxRecDepth 20000 in
theorem gX8_first_X8_goesOn : GoodIn wsX8_first (wsV RX8 169 RX8 yX8_goesOn wsX8_goesOn) := goodIn_app (goodIn_of _ (by decide +kernel)) ggX8_first_X8_goesOn
set_option maxRecDepth 20000 in
theorem ggX8_first_X8_backs : GoodIn wsX8_first wsX8_backs := goodIn_r _ [43, 1, 3, 44, 45, 46, 47, 48, 49, 50, 51, 52, 53, 54, 55, 56, 57, 58, 59, 60, 61] (by decide +kernel) (by decide +kernel)
set_option maxRecDepth 20000 in
theorem gX8_first_X8_backs : GoodIn wsX8_first (wsV RX8 179 RX8 yX8_backs wsX8_backs) := goodIn_app (goodIn_of _ (by decide +kernel)) ggX8_first_X8_backs
theorem dX8_first_0 : decode cX8_first 0 = .ok (.iload_n 1, 1) := by decide +kernel
theorem dX8_first_1 : decode cX8_first 1 = .ok (.i2l, 1) := by decide +kernel
theorem dX8_first_2 : decode cX8_first 2 = .ok (.lconst 0, 1) := by decide +kernel
theorem dX8_first_3 : decode cX8_first 3 = .ok (.lconst 1, 1) := by decide +kernel
theorem dX8_first_4 : decode cX8_first 4 = .ok (.invokestatic 48, 3) := by decide +kernel
theorem dX8_first_7 : decode cX8_first 7 = .ok (.ifCond .ne 5, 3) := by decide +kernel
theorem dX8_first_10 : decode cX8_first 10 = .ok (.iconst (-1), 1) := by decide +kernel
theorem dX8_first_11 : decode cX8_first 11 = .ok (.ireturn, 1) := by decide +kernel
theorem dX8_first_12 : decode cX8_first 12 = .ok (.aload_n 0, 1) := by decide +kernel
theorem dX8_first_13 : decode cX8_first 13 = .ok (.invokevirtual 176, 3) := by decide +kernel
theorem dX8_first_16 : decode cX8_first 16 = .ok (.bipush (-9), 2) := by decide +kernel
theorem dX8_first_18 : decode cX8_first 18 = .ok (.istore_n 2, 1) := by decide +kernel
theorem dX8_first_19 : decode cX8_first 19 = .ok (.bipush (-9), 2) := by decide +kernel
theorem dX8_first_21 : decode cX8_first 21 = .ok (.istore_n 3, 1) := by decide +kernel
theorem dX8_first_22 : decode cX8_first 22 = .ok (.iconst 1, 1) := by decide +kernel
theorem dX8_first_23 : decode cX8_first 23 = .ok (.istore 4, 2) := by decide +kernel
theorem dX8_first_25 : decode cX8_first 25 = .ok (.iload 4, 2) := by decide +kernel
theorem dX8_first_27 : decode cX8_first 27 = .ok (.bipush 61, 2) := by decide +kernel
theorem dX8_first_29 : decode cX8_first 29 = .ok (.if_icmp .ge 118, 3) := by decide +kernel
theorem dX8_first_32 : decode cX8_first 32 = .ok (.iload_n 2, 1) := by decide +kernel
theorem dX8_first_33 : decode cX8_first 33 = .ok (.bipush (-9), 2) := by decide +kernel
theorem dX8_first_35 : decode cX8_first 35 = .ok (.if_icmp .ne 112, 3) := by decide +kernel
theorem dX8_first_38 : decode cX8_first 38 = .ok (.aload_n 0, 1) := by decide +kernel
theorem dX8_first_39 : decode cX8_first 39 = .ok (.aload_n 0, 1) := by decide +kernel
theorem dX8_first_40 : decode cX8_first 40 = .ok (.aload_n 0, 1) := by decide +kernel
theorem dX8_first_41 : decode cX8_first 41 = .ok (.getfield 19, 3) := by decide +kernel
theorem dX8_first_44 : decode cX8_first 44 = .ok (.iconst 0, 1) := by decide +kernel
theorem dX8_first_45 : decode cX8_first 45 = .ok (.iaload, 1) := by decide +kernel
theorem dX8_first_46 : decode cX8_first 46 = .ok (.invokevirtual 166, 3) := by decide +kernel
theorem dX8_first_49 : decode cX8_first 49 = .ok (.invokevirtual 169, 3) := by decide +kernel
theorem dX8_first_52 : decode cX8_first 52 = .ok (.iconst 0, 1) := by decide +kernel
theorem dX8_first_53 : decode cX8_first 53 = .ok (.istore 5, 2) := by decide +kernel
theorem dX8_first_55 : decode cX8_first 55 = .ok (.iload 5, 2) := by decide +kernel
theorem dX8_first_57 : decode cX8_first 57 = .ok (.aload_n 0, 1) := by decide +kernel
theorem dX8_first_58 : decode cX8_first 58 = .ok (.getfield 16, 3) := by decide +kernel
theorem dX8_first_61 : decode cX8_first 61 = .ok (.iconst 3, 1) := by decide +kernel
theorem dX8_first_62 : decode cX8_first 62 = .ok (.iaload, 1) := by decide +kernel
theorem dX8_first_63 : decode cX8_first 63 = .ok (.if_icmp .ge 78, 3) := by decide +kernel
theorem dX8_first_66 : decode cX8_first 66 = .ok (.iload_n 2, 1) := by decide +kernel
theorem dX8_first_67 : decode cX8_first 67 = .ok (.bipush (-9), 2) := by decide +kernel
theorem dX8_first_69 : decode cX8_first 69 = .ok (.if_icmp .ne 72, 3) := by decide +kernel
theorem dX8_first_72 : decode cX8_first 72 = .ok (.aload_n 0, 1) := by decide +kernel
theorem dX8_first_73 : decode cX8_first 73 = .ok (.getfield 19, 3) := by decide +kernel
theorem dX8_first_76 : decode cX8_first 76 = .ok (.bipush 30, 2) := by decide +kernel
theorem dX8_first_78 : decode cX8_first 78 = .ok (.iconst 2, 1) := by decide +kernel
theorem dX8_first_79 : decode cX8_first 79 = .ok (.iload 5, 2) := by decide +kernel
theorem dX8_first_81 : decode cX8_first 81 = .ok (.imul, 1) := by decide +kernel
theorem dX8_first_82 : decode cX8_first 82 = .ok (.iadd, 1) := by decide +kernel
theorem dX8_first_83 : decode cX8_first 83 = .ok (.iaload, 1) := by decide +kernel
theorem dX8_first_84 : decode cX8_first 84 = .ok (.iconst 3, 1) := by decide +kernel
theorem dX8_first_85 : decode cX8_first 85 = .ok (.if_icmp .ne 23, 3) := by decide +kernel
theorem dX8_first_88 : decode cX8_first 88 = .ok (.aload_n 0, 1) := by decide +kernel
theorem dX8_first_89 : decode cX8_first 89 = .ok (.getfield 25, 3) := by decide +kernel
theorem dX8_first_92 : decode cX8_first 92 = .ok (.bipush 30, 2) := by decide +kernel
theorem dX8_first_94 : decode cX8_first 94 = .ok (.iconst 2, 1) := by decide +kernel
theorem dX8_first_95 : decode cX8_first 95 = .ok (.iload 5, 2) := by decide +kernel
theorem dX8_first_97 : decode cX8_first 97 = .ok (.imul, 1) := by decide +kernel
theorem dX8_first_98 : decode cX8_first 98 = .ok (.iadd, 1) := by decide +kernel
theorem dX8_first_99 : decode cX8_first 99 = .ok (.iaload, 1) := by decide +kernel
theorem dX8_first_100 : decode cX8_first 100 = .ok (.iconst 3, 1) := by decide +kernel
theorem dX8_first_101 : decode cX8_first 101 = .ok (.if_icmp .eq 7, 3) := by decide +kernel
theorem dX8_first_104 : decode cX8_first 104 = .ok (.iconst 1, 1) := by decide +kernel
theorem dX8_first_105 : decode cX8_first 105 = .ok (.goto 4, 3) := by decide +kernel
theorem dX8_first_108 : decode cX8_first 108 = .ok (.iconst 0, 1) := by decide +kernel
theorem dX8_first_109 : decode cX8_first 109 = .ok (.istore 6, 2) := by decide +kernel
theorem dX8_first_111 : decode cX8_first 111 = .ok (.iload 6, 2) := by decide +kernel
theorem dX8_first_113 : decode cX8_first 113 = .ok (.ifCond .eq 8, 3) := by decide +kernel
theorem dX8_first_116 : decode cX8_first 116 = .ok (.iload 5, 2) := by decide +kernel
theorem dX8_first_118 : decode cX8_first 118 = .ok (.goto 4, 3) := by decide +kernel
theorem dX8_first_121 : decode cX8_first 121 = .ok (.iload_n 2, 1) := by decide +kernel
theorem dX8_first_122 : decode cX8_first 122 = .ok (.istore_n 2, 1) := by decide +kernel
theorem dX8_first_123 : decode cX8_first 123 = .ok (.iload 6, 2) := by decide +kernel
theorem dX8_first_125 : decode cX8_first 125 = .ok (.ifCond .eq 8, 3) := by decide +kernel
theorem dX8_first_128 : decode cX8_first 128 = .ok (.iload 4, 2) := by decide +kernel
theorem dX8_first_130 : decode cX8_first 130 = .ok (.goto 4, 3) := by decide +kernel
theorem dX8_first_133 : decode cX8_first 133 = .ok (.iload_n 3, 1) := by decide +kernel
theorem dX8_first_134 : decode cX8_first 134 = .ok (.istore_n 3, 1) := by decide +kernel
theorem dX8_first_135 : decode cX8_first 135 = .ok (.iinc 5 1, 3) := by decide +kernel
theorem dX8_first_138 : decode cX8_first 138 = .ok (.goto (-83), 3) := by decide +kernel
theorem dX8_first_141 : decode cX8_first 141 = .ok (.iinc 4 1, 3) := by decide +kernel
theorem dX8_first_144 : decode cX8_first 144 = .ok (.goto (-119), 3) := by decide +kernel
theorem dX8_first_147 : decode cX8_first 147 = .ok (.aload_n 0, 1) := by decide +kernel
theorem dX8_first_148 : decode cX8_first 148 = .ok (.invokevirtual 179, 3) := by decide +kernel
theorem dX8_first_151 : decode cX8_first 151 = .ok (.iload_n 1, 1) := by decide +kernel
theorem dX8_first_152 : decode cX8_first 152 = .ok (.ifCond .ne 7, 3) := by decide +kernel
theorem dX8_first_155 : decode cX8_first 155 = .ok (.iload_n 2, 1) := by decide +kernel
theorem dX8_first_156 : decode cX8_first 156 = .ok (.goto 4, 3) := by decide +kernel
theorem dX8_first_159 : decode cX8_first 159 = .ok (.iload_n 3, 1) := by decide +kernel
theorem dX8_first_160 : decode cX8_first 160 = .ok (.ireturn, 1) := by decide +kernel
set_option maxRecDepth 20000 in
theorem ggX8_bestActs_X8_in : GoodIn wsX8_bestActs wsX8_in := goodIn_r _ [6] (by decide +kernel) (by decide +kernel)
set_option maxRecDepth 20000 in
theorem gX8_bestActs_X8_in : GoodIn wsX8_bestActs (va_wsS RX8 48 yX8_in wsX8_in) := goodIn_app (goodIn_of _ (by decide +kernel)) ggX8_bestActs_X8_in
set_option maxRecDepth 20000 in
theorem ggX8_bestActs_X8_bits : GoodIn wsX8_bestActs wsX8_bits := goodIn_r _ [10, 11, 12, 13, 14, 15, 16, 17, 18, 19, 20, 21, 22, 23, 24, 25, 26, 27, 28, 29] (by decide +kernel) (by decide +kernel)
set_option maxRecDepth 20000 in
theorem gX8_bestActs_X8_bits : GoodIn wsX8_bestActs (wsV RX8 173 RX8 yX8_bits wsX8_bits) := goodIn_app (goodIn_of _ (by decide +kernel)) ggX8_bestActs_X8_bits
theorem dX8_bestActs_0 : decode cX8_bestActs 0 = .ok (.iload_n 1, 1) := by decide +kernel
theorem dX8_bestActs_1 : decode cX8_bestActs 1 = .ok (.i2l, 1) := by decide +kernel
theorem dX8_bestActs_2 : decode cX8_bestActs 2 = .ok (.lconst 0, 1) := by decide +kernel
theorem dX8_bestActs_3 : decode cX8_bestActs 3 = .ok (.ldc2_w 182, 3) := by decide +kernel
theorem dX8_bestActs_6 : decode cX8_bestActs 6 = .ok (.invokestatic 48, 3) := by decide +kernel
theorem dX8_bestActs_9 : decode cX8_bestActs 9 = .ok (.ifCond .eq 13, 3) := by decide +kernel
theorem dX8_bestActs_12 : decode cX8_bestActs 12 = .ok (.iload_n 2, 1) := by decide +kernel
theorem dX8_bestActs_13 : decode cX8_bestActs 13 = .ok (.i2l, 1) := by decide +kernel
theorem dX8_bestActs_14 : decode cX8_bestActs 14 = .ok (.lconst 0, 1) := by decide +kernel
theorem dX8_bestActs_15 : decode cX8_bestActs 15 = .ok (.lconst 1, 1) := by decide +kernel
theorem dX8_bestActs_16 : decode cX8_bestActs 16 = .ok (.invokestatic 48, 3) := by decide +kernel
theorem dX8_bestActs_19 : decode cX8_bestActs 19 = .ok (.ifCond .ne 5, 3) := by decide +kernel
theorem dX8_bestActs_22 : decode cX8_bestActs 22 = .ok (.iconst (-1), 1) := by decide +kernel
theorem dX8_bestActs_23 : decode cX8_bestActs 23 = .ok (.ireturn, 1) := by decide +kernel
theorem dX8_bestActs_24 : decode cX8_bestActs 24 = .ok (.iconst 0, 1) := by decide +kernel
theorem dX8_bestActs_25 : decode cX8_bestActs 25 = .ok (.istore_n 3, 1) := by decide +kernel
theorem dX8_bestActs_26 : decode cX8_bestActs 26 = .ok (.iconst 0, 1) := by decide +kernel
theorem dX8_bestActs_27 : decode cX8_bestActs 27 = .ok (.istore 4, 2) := by decide +kernel
theorem dX8_bestActs_29 : decode cX8_bestActs 29 = .ok (.iconst 0, 1) := by decide +kernel
theorem dX8_bestActs_30 : decode cX8_bestActs 30 = .ok (.istore 5, 2) := by decide +kernel
theorem dX8_bestActs_32 : decode cX8_bestActs 32 = .ok (.aload_n 0, 1) := by decide +kernel
theorem dX8_bestActs_33 : decode cX8_bestActs 33 = .ok (.bipush 30, 2) := by decide +kernel
theorem dX8_bestActs_35 : decode cX8_bestActs 35 = .ok (.iconst 2, 1) := by decide +kernel
theorem dX8_bestActs_36 : decode cX8_bestActs 36 = .ok (.aload_n 0, 1) := by decide +kernel
theorem dX8_bestActs_37 : decode cX8_bestActs 37 = .ok (.getfield 16, 3) := by decide +kernel
theorem dX8_bestActs_40 : decode cX8_bestActs 40 = .ok (.iconst 3, 1) := by decide +kernel
theorem dX8_bestActs_41 : decode cX8_bestActs 41 = .ok (.iaload, 1) := by decide +kernel
theorem dX8_bestActs_42 : decode cX8_bestActs 42 = .ok (.iconst 2, 1) := by decide +kernel
theorem dX8_bestActs_43 : decode cX8_bestActs 43 = .ok (.invokevirtual 173, 3) := by decide +kernel
theorem dX8_bestActs_46 : decode cX8_bestActs 46 = .ok (.istore 6, 2) := by decide +kernel
theorem dX8_bestActs_48 : decode cX8_bestActs 48 = .ok (.iload 6, 2) := by decide +kernel
theorem dX8_bestActs_50 : decode cX8_bestActs 50 = .ok (.aload_n 0, 1) := by decide +kernel
theorem dX8_bestActs_51 : decode cX8_bestActs 51 = .ok (.bipush 30, 2) := by decide +kernel
theorem dX8_bestActs_53 : decode cX8_bestActs 53 = .ok (.iconst 2, 1) := by decide +kernel
theorem dX8_bestActs_54 : decode cX8_bestActs 54 = .ok (.aload_n 0, 1) := by decide +kernel
theorem dX8_bestActs_55 : decode cX8_bestActs 55 = .ok (.getfield 16, 3) := by decide +kernel
theorem dX8_bestActs_58 : decode cX8_bestActs 58 = .ok (.iconst 3, 1) := by decide +kernel
theorem dX8_bestActs_59 : decode cX8_bestActs 59 = .ok (.iaload, 1) := by decide +kernel
theorem dX8_bestActs_60 : decode cX8_bestActs 60 = .ok (.iconst 3, 1) := by decide +kernel
theorem dX8_bestActs_61 : decode cX8_bestActs 61 = .ok (.invokevirtual 173, 3) := by decide +kernel
theorem dX8_bestActs_64 : decode cX8_bestActs 64 = .ok (.ior, 1) := by decide +kernel
theorem dX8_bestActs_65 : decode cX8_bestActs 65 = .ok (.istore 7, 2) := by decide +kernel
theorem dX8_bestActs_67 : decode cX8_bestActs 67 = .ok (.iconst 1, 1) := by decide +kernel
theorem dX8_bestActs_68 : decode cX8_bestActs 68 = .ok (.istore 8, 2) := by decide +kernel
theorem dX8_bestActs_70 : decode cX8_bestActs 70 = .ok (.iload 8, 2) := by decide +kernel
theorem dX8_bestActs_72 : decode cX8_bestActs 72 = .ok (.iconst 1, 1) := by decide +kernel
theorem dX8_bestActs_73 : decode cX8_bestActs 73 = .ok (.aload_n 0, 1) := by decide +kernel
theorem dX8_bestActs_74 : decode cX8_bestActs 74 = .ok (.getfield 16, 3) := by decide +kernel
theorem dX8_bestActs_77 : decode cX8_bestActs 77 = .ok (.iconst 3, 1) := by decide +kernel
theorem dX8_bestActs_78 : decode cX8_bestActs 78 = .ok (.iaload, 1) := by decide +kernel
theorem dX8_bestActs_79 : decode cX8_bestActs 79 = .ok (.ishl, 1) := by decide +kernel
theorem dX8_bestActs_80 : decode cX8_bestActs 80 = .ok (.if_icmp .ge 225, 3) := by decide +kernel
theorem dX8_bestActs_83 : decode cX8_bestActs 83 = .ok (.iload 8, 2) := by decide +kernel
theorem dX8_bestActs_85 : decode cX8_bestActs 85 = .ok (.iload 7, 2) := by decide +kernel
theorem dX8_bestActs_87 : decode cX8_bestActs 87 = .ok (.iand, 1) := by decide +kernel
theorem dX8_bestActs_88 : decode cX8_bestActs 88 = .ok (.ifCond .ne 7, 3) := by decide +kernel
theorem dX8_bestActs_91 : decode cX8_bestActs 91 = .ok (.iconst 1, 1) := by decide +kernel
theorem dX8_bestActs_92 : decode cX8_bestActs 92 = .ok (.goto 4, 3) := by decide +kernel
theorem dX8_bestActs_95 : decode cX8_bestActs 95 = .ok (.iconst 0, 1) := by decide +kernel
theorem dX8_bestActs_96 : decode cX8_bestActs 96 = .ok (.istore 9, 2) := by decide +kernel
theorem dX8_bestActs_98 : decode cX8_bestActs 98 = .ok (.iconst 0, 1) := by decide +kernel
theorem dX8_bestActs_99 : decode cX8_bestActs 99 = .ok (.istore 10, 2) := by decide +kernel
theorem dX8_bestActs_101 : decode cX8_bestActs 101 = .ok (.iconst 0, 1) := by decide +kernel
theorem dX8_bestActs_102 : decode cX8_bestActs 102 = .ok (.istore 11, 2) := by decide +kernel
theorem dX8_bestActs_104 : decode cX8_bestActs 104 = .ok (.iconst 0, 1) := by decide +kernel
theorem dX8_bestActs_105 : decode cX8_bestActs 105 = .ok (.istore 12, 2) := by decide +kernel
theorem dX8_bestActs_107 : decode cX8_bestActs 107 = .ok (.iload 12, 2) := by decide +kernel
theorem dX8_bestActs_109 : decode cX8_bestActs 109 = .ok (.aload_n 0, 1) := by decide +kernel
theorem dX8_bestActs_110 : decode cX8_bestActs 110 = .ok (.getfield 16, 3) := by decide +kernel
theorem dX8_bestActs_113 : decode cX8_bestActs 113 = .ok (.iconst 3, 1) := by decide +kernel
theorem dX8_bestActs_114 : decode cX8_bestActs 114 = .ok (.iaload, 1) := by decide +kernel
theorem dX8_bestActs_115 : decode cX8_bestActs 115 = .ok (.if_icmp .ge 105, 3) := by decide +kernel
theorem dX8_bestActs_118 : decode cX8_bestActs 118 = .ok (.iload 8, 2) := by decide +kernel
theorem dX8_bestActs_120 : decode cX8_bestActs 120 = .ok (.iload 12, 2) := by decide +kernel
theorem dX8_bestActs_122 : decode cX8_bestActs 122 = .ok (.ishr, 1) := by decide +kernel
theorem dX8_bestActs_123 : decode cX8_bestActs 123 = .ok (.iconst 1, 1) := by decide +kernel
theorem dX8_bestActs_124 : decode cX8_bestActs 124 = .ok (.iand, 1) := by decide +kernel
theorem dX8_bestActs_125 : decode cX8_bestActs 125 = .ok (.iconst 1, 1) := by decide +kernel
theorem dX8_bestActs_126 : decode cX8_bestActs 126 = .ok (.if_icmp .ne 88, 3) := by decide +kernel
theorem dX8_bestActs_129 : decode cX8_bestActs 129 = .ok (.aload_n 0, 1) := by decide +kernel
theorem dX8_bestActs_130 : decode cX8_bestActs 130 = .ok (.getfield 16, 3) := by decide +kernel
theorem dX8_bestActs_133 : decode cX8_bestActs 133 = .ok (.bipush 27, 2) := by decide +kernel
theorem dX8_bestActs_135 : decode cX8_bestActs 135 = .ok (.iconst 4, 1) := by decide +kernel
theorem dX8_bestActs_136 : decode cX8_bestActs 136 = .ok (.iload 12, 2) := by decide +kernel
theorem dX8_bestActs_138 : decode cX8_bestActs 138 = .ok (.imul, 1) := by decide +kernel
theorem dX8_bestActs_139 : decode cX8_bestActs 139 = .ok (.iadd, 1) := by decide +kernel
theorem dX8_bestActs_140 : decode cX8_bestActs 140 = .ok (.iconst 3, 1) := by decide +kernel
theorem dX8_bestActs_141 : decode cX8_bestActs 141 = .ok (.iadd, 1) := by decide +kernel
theorem dX8_bestActs_142 : decode cX8_bestActs 142 = .ok (.iaload, 1) := by decide +kernel
theorem dX8_bestActs_143 : decode cX8_bestActs 143 = .ok (.istore 13, 2) := by decide +kernel
theorem dX8_bestActs_145 : decode cX8_bestActs 145 = .ok (.iload 9, 2) := by decide +kernel
theorem dX8_bestActs_147 : decode cX8_bestActs 147 = .ok (.ifCond .eq 28, 3) := by decide +kernel
theorem dX8_bestActs_150 : decode cX8_bestActs 150 = .ok (.iload 13, 2) := by decide +kernel
theorem dX8_bestActs_152 : decode cX8_bestActs 152 = .ok (.bipush 9, 2) := by decide +kernel
theorem dX8_bestActs_154 : decode cX8_bestActs 154 = .ok (.if_icmp .eq 17, 3) := by decide +kernel
theorem dX8_bestActs_157 : decode cX8_bestActs 157 = .ok (.iload 8, 2) := by decide +kernel
theorem dX8_bestActs_159 : decode cX8_bestActs 159 = .ok (.iload 6, 2) := by decide +kernel
theorem dX8_bestActs_161 : decode cX8_bestActs 161 = .ok (.ior, 1) := by decide +kernel
theorem dX8_bestActs_162 : decode cX8_bestActs 162 = .ok (.iload 13, 2) := by decide +kernel
theorem dX8_bestActs_164 : decode cX8_bestActs 164 = .ok (.ishr, 1) := by decide +kernel
theorem dX8_bestActs_165 : decode cX8_bestActs 165 = .ok (.iconst 1, 1) := by decide +kernel
theorem dX8_bestActs_166 : decode cX8_bestActs 166 = .ok (.iand, 1) := by decide +kernel
theorem dX8_bestActs_167 : decode cX8_bestActs 167 = .ok (.iconst 1, 1) := by decide +kernel
theorem dX8_bestActs_168 : decode cX8_bestActs 168 = .ok (.if_icmp .ne 7, 3) := by decide +kernel
theorem dX8_bestActs_171 : decode cX8_bestActs 171 = .ok (.iconst 1, 1) := by decide +kernel
theorem dX8_bestActs_172 : decode cX8_bestActs 172 = .ok (.goto 4, 3) := by decide +kernel
theorem dX8_bestActs_175 : decode cX8_bestActs 175 = .ok (.iconst 0, 1) := by decide +kernel
theorem dX8_bestActs_176 : decode cX8_bestActs 176 = .ok (.istore 9, 2) := by decide +kernel
theorem dX8_bestActs_178 : decode cX8_bestActs 178 = .ok (.iload 10, 2) := by decide +kernel
theorem dX8_bestActs_180 : decode cX8_bestActs 180 = .ok (.aload_n 0, 1) := by decide +kernel
theorem dX8_bestActs_181 : decode cX8_bestActs 181 = .ok (.getfield 16, 3) := by decide +kernel
theorem dX8_bestActs_184 : decode cX8_bestActs 184 = .ok (.bipush 27, 2) := by decide +kernel
theorem dX8_bestActs_186 : decode cX8_bestActs 186 = .ok (.iconst 4, 1) := by decide +kernel
theorem dX8_bestActs_187 : decode cX8_bestActs 187 = .ok (.iload 12, 2) := by decide +kernel
theorem dX8_bestActs_189 : decode cX8_bestActs 189 = .ok (.imul, 1) := by decide +kernel
theorem dX8_bestActs_190 : decode cX8_bestActs 190 = .ok (.iadd, 1) := by decide +kernel
theorem dX8_bestActs_191 : decode cX8_bestActs 191 = .ok (.iconst 1, 1) := by decide +kernel
theorem dX8_bestActs_192 : decode cX8_bestActs 192 = .ok (.iadd, 1) := by decide +kernel
theorem dX8_bestActs_193 : decode cX8_bestActs 193 = .ok (.iaload, 1) := by decide +kernel
theorem dX8_bestActs_194 : decode cX8_bestActs 194 = .ok (.iadd, 1) := by decide +kernel
theorem dX8_bestActs_195 : decode cX8_bestActs 195 = .ok (.istore 10, 2) := by decide +kernel
theorem dX8_bestActs_197 : decode cX8_bestActs 197 = .ok (.iload 11, 2) := by decide +kernel
theorem dX8_bestActs_199 : decode cX8_bestActs 199 = .ok (.aload_n 0, 1) := by decide +kernel
theorem dX8_bestActs_200 : decode cX8_bestActs 200 = .ok (.getfield 16, 3) := by decide +kernel
theorem dX8_bestActs_203 : decode cX8_bestActs 203 = .ok (.bipush 27, 2) := by decide +kernel
theorem dX8_bestActs_205 : decode cX8_bestActs 205 = .ok (.iconst 4, 1) := by decide +kernel
theorem dX8_bestActs_206 : decode cX8_bestActs 206 = .ok (.iload 12, 2) := by decide +kernel
theorem dX8_bestActs_208 : decode cX8_bestActs 208 = .ok (.imul, 1) := by decide +kernel
theorem dX8_bestActs_209 : decode cX8_bestActs 209 = .ok (.iadd, 1) := by decide +kernel
theorem dX8_bestActs_210 : decode cX8_bestActs 210 = .ok (.iaload, 1) := by decide +kernel
theorem dX8_bestActs_211 : decode cX8_bestActs 211 = .ok (.iadd, 1) := by decide +kernel
theorem dX8_bestActs_212 : decode cX8_bestActs 212 = .ok (.istore 11, 2) := by decide +kernel
theorem dX8_bestActs_214 : decode cX8_bestActs 214 = .ok (.iinc 12 1, 3) := by decide +kernel
theorem dX8_bestActs_217 : decode cX8_bestActs 217 = .ok (.goto (-110), 3) := by decide +kernel
theorem dX8_bestActs_220 : decode cX8_bestActs 220 = .ok (.iload 9, 2) := by decide +kernel
theorem dX8_bestActs_222 : decode cX8_bestActs 222 = .ok (.ifCond .eq 34, 3) := by decide +kernel
theorem dX8_bestActs_225 : decode cX8_bestActs 225 = .ok (.iload 11, 2) := by decide +kernel
theorem dX8_bestActs_227 : decode cX8_bestActs 227 = .ok (.iload_n 1, 1) := by decide +kernel
theorem dX8_bestActs_228 : decode cX8_bestActs 228 = .ok (.if_icmp .gt 28, 3) := by decide +kernel
theorem dX8_bestActs_231 : decode cX8_bestActs 231 = .ok (.iload 10, 2) := by decide +kernel
theorem dX8_bestActs_233 : decode cX8_bestActs 233 = .ok (.iload 4, 2) := by decide +kernel
theorem dX8_bestActs_235 : decode cX8_bestActs 235 = .ok (.if_icmp .gt 17, 3) := by decide +kernel
theorem dX8_bestActs_238 : decode cX8_bestActs 238 = .ok (.iload 10, 2) := by decide +kernel
theorem dX8_bestActs_240 : decode cX8_bestActs 240 = .ok (.iload 4, 2) := by decide +kernel
theorem dX8_bestActs_242 : decode cX8_bestActs 242 = .ok (.if_icmp .ne 14, 3) := by decide +kernel
theorem dX8_bestActs_245 : decode cX8_bestActs 245 = .ok (.iload 11, 2) := by decide +kernel
theorem dX8_bestActs_247 : decode cX8_bestActs 247 = .ok (.iload 5, 2) := by decide +kernel
theorem dX8_bestActs_249 : decode cX8_bestActs 249 = .ok (.if_icmp .ge 7, 3) := by decide +kernel
theorem dX8_bestActs_252 : decode cX8_bestActs 252 = .ok (.iconst 1, 1) := by decide +kernel
theorem dX8_bestActs_253 : decode cX8_bestActs 253 = .ok (.goto 4, 3) := by decide +kernel
theorem dX8_bestActs_256 : decode cX8_bestActs 256 = .ok (.iconst 0, 1) := by decide +kernel
theorem dX8_bestActs_257 : decode cX8_bestActs 257 = .ok (.istore 12, 2) := by decide +kernel
theorem dX8_bestActs_259 : decode cX8_bestActs 259 = .ok (.iload 12, 2) := by decide +kernel
theorem dX8_bestActs_261 : decode cX8_bestActs 261 = .ok (.ifCond .eq 8, 3) := by decide +kernel
theorem dX8_bestActs_264 : decode cX8_bestActs 264 = .ok (.iload 8, 2) := by decide +kernel
theorem dX8_bestActs_266 : decode cX8_bestActs 266 = .ok (.goto 4, 3) := by decide +kernel
theorem dX8_bestActs_269 : decode cX8_bestActs 269 = .ok (.iload_n 3, 1) := by decide +kernel
theorem dX8_bestActs_270 : decode cX8_bestActs 270 = .ok (.istore_n 3, 1) := by decide +kernel
theorem dX8_bestActs_271 : decode cX8_bestActs 271 = .ok (.iload 12, 2) := by decide +kernel
theorem dX8_bestActs_273 : decode cX8_bestActs 273 = .ok (.ifCond .eq 8, 3) := by decide +kernel
theorem dX8_bestActs_276 : decode cX8_bestActs 276 = .ok (.iload 10, 2) := by decide +kernel
theorem dX8_bestActs_278 : decode cX8_bestActs 278 = .ok (.goto 5, 3) := by decide +kernel
theorem dX8_bestActs_281 : decode cX8_bestActs 281 = .ok (.iload 4, 2) := by decide +kernel
theorem dX8_bestActs_283 : decode cX8_bestActs 283 = .ok (.istore 4, 2) := by decide +kernel
theorem dX8_bestActs_285 : decode cX8_bestActs 285 = .ok (.iload 12, 2) := by decide +kernel
theorem dX8_bestActs_287 : decode cX8_bestActs 287 = .ok (.ifCond .eq 8, 3) := by decide +kernel
theorem dX8_bestActs_290 : decode cX8_bestActs 290 = .ok (.iload 11, 2) := by decide +kernel
theorem dX8_bestActs_292 : decode cX8_bestActs 292 = .ok (.goto 5, 3) := by decide +kernel
theorem dX8_bestActs_295 : decode cX8_bestActs 295 = .ok (.iload 5, 2) := by decide +kernel
theorem dX8_bestActs_297 : decode cX8_bestActs 297 = .ok (.istore 5, 2) := by decide +kernel
theorem dX8_bestActs_299 : decode cX8_bestActs 299 = .ok (.iinc 8 1, 3) := by decide +kernel
theorem dX8_bestActs_302 : decode cX8_bestActs 302 = .ok (.goto (-232), 3) := by decide +kernel
theorem dX8_bestActs_305 : decode cX8_bestActs 305 = .ok (.iload_n 2, 1) := by decide +kernel
theorem dX8_bestActs_306 : decode cX8_bestActs 306 = .ok (.ifCond .ne 7, 3) := by decide +kernel
theorem dX8_bestActs_309 : decode cX8_bestActs 309 = .ok (.iload_n 3, 1) := by decide +kernel
theorem dX8_bestActs_310 : decode cX8_bestActs 310 = .ok (.goto 5, 3) := by decide +kernel
theorem dX8_bestActs_313 : decode cX8_bestActs 313 = .ok (.iload 4, 2) := by decide +kernel
theorem dX8_bestActs_315 : decode cX8_bestActs 315 = .ok (.ireturn, 1) := by decide +kernel
theorem dX8_isOver_0 : decode cX8_isOver 0 = .ok (.aload_n 0, 1) := by decide +kernel
theorem dX8_isOver_1 : decode cX8_isOver 1 = .ok (.getfield 19, 3) := by decide +kernel
theorem dX8_isOver_4 : decode cX8_isOver 4 = .ok (.bipush 30, 2) := by decide +kernel
theorem dX8_isOver_6 : decode cX8_isOver 6 = .ok (.iconst 2, 1) := by decide +kernel
theorem dX8_isOver_7 : decode cX8_isOver 7 = .ok (.iload_n 1, 1) := by decide +kernel
theorem dX8_isOver_8 : decode cX8_isOver 8 = .ok (.imul, 1) := by decide +kernel
theorem dX8_isOver_9 : decode cX8_isOver 9 = .ok (.iadd, 1) := by decide +kernel
theorem dX8_isOver_10 : decode cX8_isOver 10 = .ok (.iaload, 1) := by decide +kernel
theorem dX8_isOver_11 : decode cX8_isOver 11 = .ok (.iconst 1, 1) := by decide +kernel
theorem dX8_isOver_12 : decode cX8_isOver 12 = .ok (.if_icmp .le 7, 3) := by decide +kernel
theorem dX8_isOver_15 : decode cX8_isOver 15 = .ok (.iconst 1, 1) := by decide +kernel
theorem dX8_isOver_16 : decode cX8_isOver 16 = .ok (.goto 4, 3) := by decide +kernel
theorem dX8_isOver_19 : decode cX8_isOver 19 = .ok (.iconst 0, 1) := by decide +kernel
theorem dX8_isOver_20 : decode cX8_isOver 20 = .ok (.ireturn, 1) := by decide +kernel
set_option maxRecDepth 20000 in
theorem ggX8_isWhole_X8_isWind : GoodIn wsX8_isWhole wsX8_isWind := goodIn_r _ [6, 7, 32, 33, 34, 35, 36, 37, 38, 39, 40, 41, 42, 43, 44, 45, 46, 47, 48, 49] (by decide +kernel) (by decide +kernel)
set_option maxRecDepth 20000 in
theorem gX8_isWhole_X8_isWind : GoodIn wsX8_isWhole (wsV RX8 166 RX8 yX8_isWind wsX8_isWind) := goodIn_app (goodIn_of _ (by decide +kernel)) ggX8_isWhole_X8_isWind
set_option maxRecDepth 20000 in
theorem ggX8_isWhole_X8_goesOn : GoodIn wsX8_isWhole wsX8_goesOn := goodIn_r _ [11, 7, 1, 12, 13, 14, 5, 15, 16, 17, 18, 19, 20, 21, 22, 23, 24, 25, 26, 27, 28, 29, 30, 31, 32, 33, 34, 35, 36, 37, 38, 39, 40, 41, 42, 43, 44, 45, 46, 47, 48, 49] (by decide +kernel) (by decide +kernel)
set_option maxRecDepth 20000 in
theorem gX8_isWhole_X8_goesOn : GoodIn wsX8_isWhole (wsV RX8 169 RX8 yX8_goesOn wsX8_goesOn) := goodIn_app (goodIn_of _ (by decide +kernel)) ggX8_isWhole_X8_goesOn
theorem dX8_isWhole_0 : decode cX8_isWhole 0 = .ok (.aload_n 0, 1) := by decide +kernel
theorem dX8_isWhole_1 : decode cX8_isWhole 1 = .ok (.getfield 19, 3) := by decide +kernel
theorem dX8_isWhole_4 : decode cX8_isWhole 4 = .ok (.bipush 30, 2) := by decide +kernel
theorem dX8_isWhole_6 : decode cX8_isWhole 6 = .ok (.iconst 2, 1) := by decide +kernel
theorem dX8_isWhole_7 : decode cX8_isWhole 7 = .ok (.iload_n 1, 1) := by decide +kernel
theorem dX8_isWhole_8 : decode cX8_isWhole 8 = .ok (.imul, 1) := by decide +kernel
theorem dX8_isWhole_9 : decode cX8_isWhole 9 = .ok (.iadd, 1) := by decide +kernel
theorem dX8_isWhole_10 : decode cX8_isWhole 10 = .ok (.aload_n 0, 1) := by decide +kernel
theorem dX8_isWhole_11 : decode cX8_isWhole 11 = .ok (.getfield 19, 3) := by decide +kernel
theorem dX8_isWhole_14 : decode cX8_isWhole 14 = .ok (.bipush 30, 2) := by decide +kernel
theorem dX8_isWhole_16 : decode cX8_isWhole 16 = .ok (.iconst 2, 1) := by decide +kernel
theorem dX8_isWhole_17 : decode cX8_isWhole 17 = .ok (.iload_n 1, 1) := by decide +kernel
theorem dX8_isWhole_18 : decode cX8_isWhole 18 = .ok (.imul, 1) := by decide +kernel
theorem dX8_isWhole_19 : decode cX8_isWhole 19 = .ok (.iadd, 1) := by decide +kernel
theorem dX8_isWhole_20 : decode cX8_isWhole 20 = .ok (.iaload, 1) := by decide +kernel
theorem dX8_isWhole_21 : decode cX8_isWhole 21 = .ok (.ifCond .ne 7, 3) := by decide +kernel
theorem dX8_isWhole_24 : decode cX8_isWhole 24 = .ok (.iconst 1, 1) := by decide +kernel
theorem dX8_isWhole_25 : decode cX8_isWhole 25 = .ok (.goto 14, 3) := by decide +kernel
theorem dX8_isWhole_28 : decode cX8_isWhole 28 = .ok (.aload_n 0, 1) := by decide +kernel
theorem dX8_isWhole_29 : decode cX8_isWhole 29 = .ok (.getfield 19, 3) := by decide +kernel
theorem dX8_isWhole_32 : decode cX8_isWhole 32 = .ok (.bipush 30, 2) := by decide +kernel
theorem dX8_isWhole_34 : decode cX8_isWhole 34 = .ok (.iconst 2, 1) := by decide +kernel
theorem dX8_isWhole_35 : decode cX8_isWhole 35 = .ok (.iload_n 1, 1) := by decide +kernel
theorem dX8_isWhole_36 : decode cX8_isWhole 36 = .ok (.imul, 1) := by decide +kernel
theorem dX8_isWhole_37 : decode cX8_isWhole 37 = .ok (.iadd, 1) := by decide +kernel
theorem dX8_isWhole_38 : decode cX8_isWhole 38 = .ok (.iaload, 1) := by decide +kernel
theorem dX8_isWhole_39 : decode cX8_isWhole 39 = .ok (.iastore, 1) := by decide +kernel
theorem dX8_isWhole_40 : decode cX8_isWhole 40 = .ok (.iconst 0, 1) := by decide +kernel
theorem dX8_isWhole_41 : decode cX8_isWhole 41 = .ok (.istore_n 2, 1) := by decide +kernel
theorem dX8_isWhole_42 : decode cX8_isWhole 42 = .ok (.iload_n 2, 1) := by decide +kernel
theorem dX8_isWhole_43 : decode cX8_isWhole 43 = .ok (.bipush 60, 2) := by decide +kernel
theorem dX8_isWhole_45 : decode cX8_isWhole 45 = .ok (.if_icmp .ge 38, 3) := by decide +kernel
theorem dX8_isWhole_48 : decode cX8_isWhole 48 = .ok (.aload_n 0, 1) := by decide +kernel
theorem dX8_isWhole_49 : decode cX8_isWhole 49 = .ok (.getfield 19, 3) := by decide +kernel
theorem dX8_isWhole_52 : decode cX8_isWhole 52 = .ok (.bipush 30, 2) := by decide +kernel
theorem dX8_isWhole_54 : decode cX8_isWhole 54 = .ok (.iconst 2, 1) := by decide +kernel
theorem dX8_isWhole_55 : decode cX8_isWhole 55 = .ok (.iload_n 1, 1) := by decide +kernel
theorem dX8_isWhole_56 : decode cX8_isWhole 56 = .ok (.imul, 1) := by decide +kernel
theorem dX8_isWhole_57 : decode cX8_isWhole 57 = .ok (.iadd, 1) := by decide +kernel
theorem dX8_isWhole_58 : decode cX8_isWhole 58 = .ok (.iaload, 1) := by decide +kernel
theorem dX8_isWhole_59 : decode cX8_isWhole 59 = .ok (.iconst 1, 1) := by decide +kernel
theorem dX8_isWhole_60 : decode cX8_isWhole 60 = .ok (.if_icmp .ne 23, 3) := by decide +kernel
theorem dX8_isWhole_63 : decode cX8_isWhole 63 = .ok (.aload_n 0, 1) := by decide +kernel
theorem dX8_isWhole_64 : decode cX8_isWhole 64 = .ok (.aload_n 0, 1) := by decide +kernel
theorem dX8_isWhole_65 : decode cX8_isWhole 65 = .ok (.aload_n 0, 1) := by decide +kernel
theorem dX8_isWhole_66 : decode cX8_isWhole 66 = .ok (.getfield 19, 3) := by decide +kernel
theorem dX8_isWhole_69 : decode cX8_isWhole 69 = .ok (.iconst 0, 1) := by decide +kernel
theorem dX8_isWhole_70 : decode cX8_isWhole 70 = .ok (.iaload, 1) := by decide +kernel
theorem dX8_isWhole_71 : decode cX8_isWhole 71 = .ok (.invokevirtual 166, 3) := by decide +kernel
theorem dX8_isWhole_74 : decode cX8_isWhole 74 = .ok (.invokevirtual 169, 3) := by decide +kernel
theorem dX8_isWhole_77 : decode cX8_isWhole 77 = .ok (.iinc 2 1, 3) := by decide +kernel
theorem dX8_isWhole_80 : decode cX8_isWhole 80 = .ok (.goto (-38), 3) := by decide +kernel
theorem dX8_isWhole_83 : decode cX8_isWhole 83 = .ok (.aload_n 0, 1) := by decide +kernel
theorem dX8_isWhole_84 : decode cX8_isWhole 84 = .ok (.getfield 19, 3) := by decide +kernel
theorem dX8_isWhole_87 : decode cX8_isWhole 87 = .ok (.bipush 30, 2) := by decide +kernel
theorem dX8_isWhole_89 : decode cX8_isWhole 89 = .ok (.iconst 2, 1) := by decide +kernel
theorem dX8_isWhole_90 : decode cX8_isWhole 90 = .ok (.iload_n 1, 1) := by decide +kernel
theorem dX8_isWhole_91 : decode cX8_isWhole 91 = .ok (.imul, 1) := by decide +kernel
theorem dX8_isWhole_92 : decode cX8_isWhole 92 = .ok (.iadd, 1) := by decide +kernel
theorem dX8_isWhole_93 : decode cX8_isWhole 93 = .ok (.iaload, 1) := by decide +kernel
theorem dX8_isWhole_94 : decode cX8_isWhole 94 = .ok (.iconst 2, 1) := by decide +kernel
theorem dX8_isWhole_95 : decode cX8_isWhole 95 = .ok (.if_icmp .ne 7, 3) := by decide +kernel
theorem dX8_isWhole_98 : decode cX8_isWhole 98 = .ok (.iconst 1, 1) := by decide +kernel
theorem dX8_isWhole_99 : decode cX8_isWhole 99 = .ok (.goto 4, 3) := by decide +kernel
theorem dX8_isWhole_102 : decode cX8_isWhole 102 = .ok (.iconst 0, 1) := by decide +kernel
theorem dX8_isWhole_103 : decode cX8_isWhole 103 = .ok (.ireturn, 1) := by decide +kernel
theorem dX8_ones_0 : decode cX8_ones 0 = .ok (.iconst 0, 1) := by decide +kernel
theorem dX8_ones_1 : decode cX8_ones 1 = .ok (.istore_n 1, 1) := by decide +kernel
theorem dX8_ones_2 : decode cX8_ones 2 = .ok (.iload_n 0, 1) := by decide +kernel
theorem dX8_ones_3 : decode cX8_ones 3 = .ok (.istore_n 2, 1) := by decide +kernel
theorem dX8_ones_4 : decode cX8_ones 4 = .ok (.iload_n 2, 1) := by decide +kernel
theorem dX8_ones_5 : decode cX8_ones 5 = .ok (.ifCond .eq 15, 3) := by decide +kernel
theorem dX8_ones_8 : decode cX8_ones 8 = .ok (.iinc 1 1, 3) := by decide +kernel
theorem dX8_ones_11 : decode cX8_ones 11 = .ok (.iload_n 2, 1) := by decide +kernel
theorem dX8_ones_12 : decode cX8_ones 12 = .ok (.iload_n 2, 1) := by decide +kernel
theorem dX8_ones_13 : decode cX8_ones 13 = .ok (.iconst 1, 1) := by decide +kernel
theorem dX8_ones_14 : decode cX8_ones 14 = .ok (.isub, 1) := by decide +kernel
theorem dX8_ones_15 : decode cX8_ones 15 = .ok (.iand, 1) := by decide +kernel
theorem dX8_ones_16 : decode cX8_ones 16 = .ok (.istore_n 2, 1) := by decide +kernel
theorem dX8_ones_17 : decode cX8_ones 17 = .ok (.goto (-13), 3) := by decide +kernel
theorem dX8_ones_20 : decode cX8_ones 20 = .ok (.iload_n 1, 1) := by decide +kernel
theorem dX8_ones_21 : decode cX8_ones 21 = .ok (.ireturn, 1) := by decide +kernel
set_option maxRecDepth 20000 in
theorem ggX8_turns_X8_asides : GoodIn wsX8_turns wsX8_asides := goodIn_r _ [7, 8, 2, 52, 53, 54, 55, 56, 57, 58, 59, 60, 61, 62, 63, 64, 65, 66, 67, 68, 69] (by decide +kernel) (by decide +kernel)
set_option maxRecDepth 20000 in
theorem gX8_turns_X8_asides : GoodIn wsX8_turns (wsV RX8 176 RX8 yX8_asides wsX8_asides) := goodIn_app (goodIn_of _ (by decide +kernel)) ggX8_turns_X8_asides
set_option maxRecDepth 20000 in
theorem ggX8_turns_X8_bits : GoodIn wsX8_turns wsX8_bits := goodIn_r _ [12, 2, 52, 53, 54, 55, 56, 57, 58, 59, 60, 61, 62, 63, 64, 65, 66, 67, 68, 69] (by decide +kernel) (by decide +kernel)
set_option maxRecDepth 20000 in
theorem gX8_turns_X8_bits : GoodIn wsX8_turns (wsV RX8 173 RX8 yX8_bits wsX8_bits) := goodIn_app (goodIn_of _ (by decide +kernel)) ggX8_turns_X8_bits
set_option maxRecDepth 20000 in
theorem ggX8_turns_X8_ones : GoodIn wsX8_turns wsX8_ones := goodIn_r _ [15] (by decide +kernel) (by decide +kernel)
set_option maxRecDepth 20000 in
theorem gX8_turns_X8_ones : GoodIn wsX8_turns (va_wsS RX8 184 yX8_ones wsX8_ones) := goodIn_app (goodIn_of _ (by decide +kernel)) ggX8_turns_X8_ones
set_option maxRecDepth 20000 in
theorem ggX8_turns_X8_isWhole : GoodIn wsX8_turns wsX8_isWhole := goodIn_r _ [19, 2, 20, 21, 22, 6, 23, 1, 24, 25, 26, 27, 28, 29, 30, 31, 32, 33, 34, 35, 36, 37, 38, 39, 40, 41, 42, 43, 44, 45, 46, 47, 52, 53, 54, 55, 56, 57, 58, 59, 60, 61, 62, 63, 64, 65, 66, 67, 68, 69] (by decide +kernel) (by decide +kernel)
set_option maxRecDepth 20000 in
theorem gX8_turns_X8_isWhole : GoodIn wsX8_turns (wsV RX8 187 RX8 yX8_isWhole wsX8_isWhole) := goodIn_app (goodIn_of _ (by decide +kernel)) ggX8_turns_X8_isWhole
set_option maxRecDepth 20000 in
theorem ggX8_turns_X8_backs : GoodIn wsX8_turns wsX8_backs := goodIn_r _ [51, 2, 8, 52, 53, 54, 55, 56, 57, 58, 59, 60, 61, 62, 63, 64, 65, 66, 67, 68, 69] (by decide +kernel) (by decide +kernel)
set_option maxRecDepth 20000 in
theorem gX8_turns_X8_backs : GoodIn wsX8_turns (wsV RX8 179 RX8 yX8_backs wsX8_backs) := goodIn_app (goodIn_of _ (by decide +kernel)) ggX8_turns_X8_backs
theorem dX8_turns_0 : decode cX8_turns 0 = .ok (.aload_n 0, 1) := by decide +kernel
theorem dX8_turns_1 : decode cX8_turns 1 = .ok (.invokevirtual 176, 3) := by decide +kernel
theorem dX8_turns_4 : decode cX8_turns 4 = .ok (.aload_n 0, 1) := by decide +kernel
theorem dX8_turns_5 : decode cX8_turns 5 = .ok (.bipush 25, 2) := by decide +kernel
theorem dX8_turns_7 : decode cX8_turns 7 = .ok (.iconst 1, 1) := by decide +kernel
theorem dX8_turns_8 : decode cX8_turns 8 = .ok (.aload_n 0, 1) := by decide +kernel
theorem dX8_turns_9 : decode cX8_turns 9 = .ok (.getfield 16, 3) := by decide +kernel
theorem dX8_turns_12 : decode cX8_turns 12 = .ok (.iconst 1, 1) := by decide +kernel
theorem dX8_turns_13 : decode cX8_turns 13 = .ok (.iaload, 1) := by decide +kernel
theorem dX8_turns_14 : decode cX8_turns 14 = .ok (.iload_n 2, 1) := by decide +kernel
theorem dX8_turns_15 : decode cX8_turns 15 = .ok (.invokevirtual 173, 3) := by decide +kernel
theorem dX8_turns_18 : decode cX8_turns 18 = .ok (.istore 4, 2) := by decide +kernel
theorem dX8_turns_20 : decode cX8_turns 20 = .ok (.bipush (-9), 2) := by decide +kernel
theorem dX8_turns_22 : decode cX8_turns 22 = .ok (.istore 5, 2) := by decide +kernel
theorem dX8_turns_24 : decode cX8_turns 24 = .ok (.iconst 0, 1) := by decide +kernel
theorem dX8_turns_25 : decode cX8_turns 25 = .ok (.istore 6, 2) := by decide +kernel
theorem dX8_turns_27 : decode cX8_turns 27 = .ok (.iload 6, 2) := by decide +kernel
theorem dX8_turns_29 : decode cX8_turns 29 = .ok (.iload 4, 2) := by decide +kernel
theorem dX8_turns_31 : decode cX8_turns 31 = .ok (.if_icmp .gt 101, 3) := by decide +kernel
theorem dX8_turns_34 : decode cX8_turns 34 = .ok (.iload 6, 2) := by decide +kernel
theorem dX8_turns_36 : decode cX8_turns 36 = .ok (.iload 4, 2) := by decide +kernel
theorem dX8_turns_38 : decode cX8_turns 38 = .ok (.iconst (-1), 1) := by decide +kernel
theorem dX8_turns_39 : decode cX8_turns 39 = .ok (.ixor, 1) := by decide +kernel
theorem dX8_turns_40 : decode cX8_turns 40 = .ok (.iand, 1) := by decide +kernel
theorem dX8_turns_41 : decode cX8_turns 41 = .ok (.ifCond .ne 85, 3) := by decide +kernel
theorem dX8_turns_44 : decode cX8_turns 44 = .ok (.iload 5, 2) := by decide +kernel
theorem dX8_turns_46 : decode cX8_turns 46 = .ok (.bipush (-9), 2) := by decide +kernel
theorem dX8_turns_48 : decode cX8_turns 48 = .ok (.if_icmp .eq 16, 3) := by decide +kernel
theorem dX8_turns_51 : decode cX8_turns 51 = .ok (.iload 6, 2) := by decide +kernel
theorem dX8_turns_53 : decode cX8_turns 53 = .ok (.invokestatic 184, 3) := by decide +kernel
theorem dX8_turns_56 : decode cX8_turns 56 = .ok (.iload 5, 2) := by decide +kernel
theorem dX8_turns_58 : decode cX8_turns 58 = .ok (.invokestatic 184, 3) := by decide +kernel
theorem dX8_turns_61 : decode cX8_turns 61 = .ok (.if_icmp .ge 65, 3) := by decide +kernel
theorem dX8_turns_64 : decode cX8_turns 64 = .ok (.iconst 0, 1) := by decide +kernel
theorem dX8_turns_65 : decode cX8_turns 65 = .ok (.istore 7, 2) := by decide +kernel
theorem dX8_turns_67 : decode cX8_turns 67 = .ok (.iload 7, 2) := by decide +kernel
theorem dX8_turns_69 : decode cX8_turns 69 = .ok (.aload_n 0, 1) := by decide +kernel
theorem dX8_turns_70 : decode cX8_turns 70 = .ok (.getfield 16, 3) := by decide +kernel
theorem dX8_turns_73 : decode cX8_turns 73 = .ok (.iconst 1, 1) := by decide +kernel
theorem dX8_turns_74 : decode cX8_turns 74 = .ok (.iaload, 1) := by decide +kernel
theorem dX8_turns_75 : decode cX8_turns 75 = .ok (.if_icmp .ge 29, 3) := by decide +kernel
theorem dX8_turns_78 : decode cX8_turns 78 = .ok (.aload_n 0, 1) := by decide +kernel
theorem dX8_turns_79 : decode cX8_turns 79 = .ok (.getfield 19, 3) := by decide +kernel
theorem dX8_turns_82 : decode cX8_turns 82 = .ok (.bipush 25, 2) := by decide +kernel
theorem dX8_turns_84 : decode cX8_turns 84 = .ok (.iload 7, 2) := by decide +kernel
theorem dX8_turns_86 : decode cX8_turns 86 = .ok (.iadd, 1) := by decide +kernel
theorem dX8_turns_87 : decode cX8_turns 87 = .ok (.dup2, 1) := by decide +kernel
theorem dX8_turns_88 : decode cX8_turns 88 = .ok (.iaload, 1) := by decide +kernel
theorem dX8_turns_89 : decode cX8_turns 89 = .ok (.iload 6, 2) := by decide +kernel
theorem dX8_turns_91 : decode cX8_turns 91 = .ok (.iload 7, 2) := by decide +kernel
theorem dX8_turns_93 : decode cX8_turns 93 = .ok (.ishr, 1) := by decide +kernel
theorem dX8_turns_94 : decode cX8_turns 94 = .ok (.iconst 1, 1) := by decide +kernel
theorem dX8_turns_95 : decode cX8_turns 95 = .ok (.iand, 1) := by decide +kernel
theorem dX8_turns_96 : decode cX8_turns 96 = .ok (.ixor, 1) := by decide +kernel
theorem dX8_turns_97 : decode cX8_turns 97 = .ok (.iastore, 1) := by decide +kernel
theorem dX8_turns_98 : decode cX8_turns 98 = .ok (.iinc 7 1, 3) := by decide +kernel
theorem dX8_turns_101 : decode cX8_turns 101 = .ok (.goto (-34), 3) := by decide +kernel
theorem dX8_turns_104 : decode cX8_turns 104 = .ok (.aload_n 0, 1) := by decide +kernel
theorem dX8_turns_105 : decode cX8_turns 105 = .ok (.iload_n 1, 1) := by decide +kernel
theorem dX8_turns_106 : decode cX8_turns 106 = .ok (.invokevirtual 187, 3) := by decide +kernel
theorem dX8_turns_109 : decode cX8_turns 109 = .ok (.iload_n 3, 1) := by decide +kernel
theorem dX8_turns_110 : decode cX8_turns 110 = .ok (.if_icmp .ne 8, 3) := by decide +kernel
theorem dX8_turns_113 : decode cX8_turns 113 = .ok (.iload 6, 2) := by decide +kernel
theorem dX8_turns_115 : decode cX8_turns 115 = .ok (.goto 5, 3) := by decide +kernel
theorem dX8_turns_118 : decode cX8_turns 118 = .ok (.iload 5, 2) := by decide +kernel
theorem dX8_turns_120 : decode cX8_turns 120 = .ok (.istore 5, 2) := by decide +kernel
theorem dX8_turns_122 : decode cX8_turns 122 = .ok (.aload_n 0, 1) := by decide +kernel
theorem dX8_turns_123 : decode cX8_turns 123 = .ok (.invokevirtual 179, 3) := by decide +kernel
theorem dX8_turns_126 : decode cX8_turns 126 = .ok (.iinc 6 1, 3) := by decide +kernel
theorem dX8_turns_129 : decode cX8_turns 129 = .ok (.goto (-102), 3) := by decide +kernel
theorem dX8_turns_132 : decode cX8_turns 132 = .ok (.iload 5, 2) := by decide +kernel
theorem dX8_turns_134 : decode cX8_turns 134 = .ok (.ireturn, 1) := by decide +kernel
set_option maxRecDepth 20000 in
theorem ggX8_plot_X8_isAct : GoodIn wsX8_plot wsX8_isAct := goodIn_r _ [5, 6, 7, 8, 4, 9, 67, 68, 69, 70, 71, 72, 73, 74, 75, 76, 77, 78, 79, 80, 81, 82, 83, 84] (by decide +kernel) (by decide +kernel)
set_option maxRecDepth 20000 in
theorem gX8_plot_X8_isAct : GoodIn wsX8_plot (wsV RX8 131 RX8 yX8_isAct wsX8_isAct) := goodIn_app (goodIn_of _ (by decide +kernel)) ggX8_plot_X8_isAct
set_option maxRecDepth 20000 in
theorem ggX8_plot_X8_isOver : GoodIn wsX8_plot wsX8_isOver := goodIn_r _ [13, 14, 67, 68, 69, 70, 71, 72, 73, 74, 75, 76, 77, 78, 79, 80, 81, 82, 83, 84] (by decide +kernel) (by decide +kernel)
set_option maxRecDepth 20000 in
theorem gX8_plot_X8_isOver : GoodIn wsX8_plot (wsV RX8 190 RX8 yX8_isOver wsX8_isOver) := goodIn_app (goodIn_of _ (by decide +kernel)) ggX8_plot_X8_isOver
set_option maxRecDepth 20000 in
theorem ggX8_plot_X8_turns : GoodIn wsX8_plot wsX8_turns := goodIn_r _ [18, 6, 14, 19, 20, 21, 4, 22, 23, 24, 25, 26, 27, 28, 29, 30, 31, 32, 33, 34, 35, 36, 37, 38, 39, 40, 41, 42, 43, 44, 45, 46, 47, 48, 49, 50, 51, 52, 53, 54, 55, 56, 57, 58, 59, 60, 61, 62, 63, 64, 65, 66, 67, 68, 69, 70, 71, 72, 73, 74, 75, 76, 77, 78, 79, 80, 81, 82, 83, 84] (by decide +kernel) (by decide +kernel)
set_option maxRecDepth 20000 in
theorem gX8_plot_X8_turns : GoodIn wsX8_plot (wsV RX8 193 RX8 yX8_turns wsX8_turns) := goodIn_app (goodIn_of _ (by decide +kernel)) ggX8_plot_X8_turns
theorem dX8_plot_0 : decode cX8_plot 0 = .ok (.aload_n 0, 1) := by decide +kernel
theorem dX8_plot_1 : decode cX8_plot 1 = .ok (.iload_n 1, 1) := by decide +kernel
theorem dX8_plot_2 : decode cX8_plot 2 = .ok (.invokevirtual 131, 3) := by decide +kernel
theorem dX8_plot_5 : decode cX8_plot 5 = .ok (.ifCond .ne 7, 3) := by decide +kernel
theorem dX8_plot_8 : decode cX8_plot 8 = .ok (.iconst (-1), 1) := by decide +kernel
theorem dX8_plot_9 : decode cX8_plot 9 = .ok (.goto 23, 3) := by decide +kernel
theorem dX8_plot_12 : decode cX8_plot 12 = .ok (.aload_n 0, 1) := by decide +kernel
theorem dX8_plot_13 : decode cX8_plot 13 = .ok (.iload_n 1, 1) := by decide +kernel
theorem dX8_plot_14 : decode cX8_plot 14 = .ok (.invokevirtual 190, 3) := by decide +kernel
theorem dX8_plot_17 : decode cX8_plot 17 = .ok (.ifCond .eq 8, 3) := by decide +kernel
theorem dX8_plot_20 : decode cX8_plot 20 = .ok (.bipush (-2), 2) := by decide +kernel
theorem dX8_plot_22 : decode cX8_plot 22 = .ok (.goto 10, 3) := by decide +kernel
theorem dX8_plot_25 : decode cX8_plot 25 = .ok (.aload_n 0, 1) := by decide +kernel
theorem dX8_plot_26 : decode cX8_plot 26 = .ok (.iload_n 1, 1) := by decide +kernel
theorem dX8_plot_27 : decode cX8_plot 27 = .ok (.iconst 0, 1) := by decide +kernel
theorem dX8_plot_28 : decode cX8_plot 28 = .ok (.iconst 0, 1) := by decide +kernel
theorem dX8_plot_29 : decode cX8_plot 29 = .ok (.invokevirtual 193, 3) := by decide +kernel
theorem dX8_plot_32 : decode cX8_plot 32 = .ok (.ireturn, 1) := by decide +kernel
set_option maxRecDepth 20000 in
theorem ggX8_guard_X8_isAct : GoodIn wsX8_guard wsX8_isAct := goodIn_r _ [5, 6, 7, 8, 4, 9, 67, 68, 69, 70, 71, 72, 73, 74, 75, 76, 77, 78, 79, 80, 81, 82, 83, 84] (by decide +kernel) (by decide +kernel)
set_option maxRecDepth 20000 in
theorem gX8_guard_X8_isAct : GoodIn wsX8_guard (wsV RX8 131 RX8 yX8_isAct wsX8_isAct) := goodIn_app (goodIn_of _ (by decide +kernel)) ggX8_guard_X8_isAct
set_option maxRecDepth 20000 in
theorem ggX8_guard_X8_isOver : GoodIn wsX8_guard wsX8_isOver := goodIn_r _ [13, 14, 67, 68, 69, 70, 71, 72, 73, 74, 75, 76, 77, 78, 79, 80, 81, 82, 83, 84] (by decide +kernel) (by decide +kernel)
set_option maxRecDepth 20000 in
theorem gX8_guard_X8_isOver : GoodIn wsX8_guard (wsV RX8 190 RX8 yX8_isOver wsX8_isOver) := goodIn_app (goodIn_of _ (by decide +kernel)) ggX8_guard_X8_isOver
set_option maxRecDepth 20000 in
theorem ggX8_guard_X8_turns : GoodIn wsX8_guard wsX8_turns := goodIn_r _ [18, 6, 14, 19, 20, 21, 4, 22, 23, 24, 25, 26, 27, 28, 29, 30, 31, 32, 33, 34, 35, 36, 37, 38, 39, 40, 41, 42, 43, 44, 45, 46, 47, 48, 49, 50, 51, 52, 53, 54, 55, 56, 57, 58, 59, 60, 61, 62, 63, 64, 65, 66, 67, 68, 69, 70, 71, 72, 73, 74, 75, 76, 77, 78, 79, 80, 81, 82, 83, 84] (by decide +kernel) (by decide +kernel)
set_option maxRecDepth 20000 in
theorem gX8_guard_X8_turns : GoodIn wsX8_guard (wsV RX8 193 RX8 yX8_turns wsX8_turns) := goodIn_app (goodIn_of _ (by decide +kernel)) ggX8_guard_X8_turns
theorem dX8_guard_0 : decode cX8_guard 0 = .ok (.aload_n 0, 1) := by decide +kernel
theorem dX8_guard_1 : decode cX8_guard 1 = .ok (.iload_n 1, 1) := by decide +kernel
theorem dX8_guard_2 : decode cX8_guard 2 = .ok (.invokevirtual 131, 3) := by decide +kernel
theorem dX8_guard_5 : decode cX8_guard 5 = .ok (.ifCond .ne 7, 3) := by decide +kernel
theorem dX8_guard_8 : decode cX8_guard 8 = .ok (.iconst (-1), 1) := by decide +kernel
theorem dX8_guard_9 : decode cX8_guard 9 = .ok (.goto 23, 3) := by decide +kernel
theorem dX8_guard_12 : decode cX8_guard 12 = .ok (.aload_n 0, 1) := by decide +kernel
theorem dX8_guard_13 : decode cX8_guard 13 = .ok (.iload_n 1, 1) := by decide +kernel
theorem dX8_guard_14 : decode cX8_guard 14 = .ok (.invokevirtual 190, 3) := by decide +kernel
theorem dX8_guard_17 : decode cX8_guard 17 = .ok (.ifCond .eq 8, 3) := by decide +kernel
theorem dX8_guard_20 : decode cX8_guard 20 = .ok (.bipush (-2), 2) := by decide +kernel
theorem dX8_guard_22 : decode cX8_guard 22 = .ok (.goto 10, 3) := by decide +kernel
theorem dX8_guard_25 : decode cX8_guard 25 = .ok (.aload_n 0, 1) := by decide +kernel
theorem dX8_guard_26 : decode cX8_guard 26 = .ok (.iload_n 1, 1) := by decide +kernel
theorem dX8_guard_27 : decode cX8_guard 27 = .ok (.iconst 1, 1) := by decide +kernel
