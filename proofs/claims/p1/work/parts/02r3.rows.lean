theorem dX13_rewrite_9 : decode cX13_rewrite 9 = .ok (.ifCond .ne 5, 3) := by decide +kernel
theorem dX13_rewrite_14 : decode cX13_rewrite 14 = .ok (.aload_n 0, 1) := by decide +kernel
theorem dX13_rewrite_15 : decode cX13_rewrite 15 = .ok (.iconst 0, 1) := by decide +kernel
theorem dX13_rewrite_16 : decode cX13_rewrite 16 = .ok (.putfield 226, 3) := by decide +kernel
theorem dX13_rewrite_19 : decode cX13_rewrite 19 = .ok (.iconst 0, 1) := by decide +kernel
theorem dX13_rewrite_20 : decode cX13_rewrite 20 = .ok (.istore_n 1, 1) := by decide +kernel
theorem dX13_rewrite_21 : decode cX13_rewrite 21 = .ok (.iload_n 1, 1) := by decide +kernel
theorem dX13_rewrite_22 : decode cX13_rewrite 22 = .ok (.aload_n 0, 1) := by decide +kernel
theorem dX13_rewrite_23 : decode cX13_rewrite 23 = .ok (.getfield 46, 3) := by decide +kernel
theorem dX13_rewrite_26 : decode cX13_rewrite 26 = .ok (.if_icmp .ge 294, 3) := by decide +kernel
theorem dX13_rewrite_320 : decode cX13_rewrite 320 = .ok (.aload_n 0, 1) := by decide +kernel
theorem dX13_rewrite_321 : decode cX13_rewrite 321 = .ok (.getfield 226, 3) := by decide +kernel
theorem dX13_rewrite_324 : decode cX13_rewrite 324 = .ok (.istore_n 1, 1) := by decide +kernel
theorem dX13_rewrite_325 : decode cX13_rewrite 325 = .ok (.aload_n 0, 1) := by decide +kernel
theorem dX13_rewrite_326 : decode cX13_rewrite 326 = .ok (.getfield 229, 3) := by decide +kernel
theorem dX13_rewrite_329 : decode cX13_rewrite 329 = .ok (.ifCond .lt 17, 3) := by decide +kernel
theorem dX13_rewrite_346 : decode cX13_rewrite 346 = .ok (.aload_n 0, 1) := by decide +kernel
theorem dX13_rewrite_347 : decode cX13_rewrite 347 = .ok (.getfield 229, 3) := by decide +kernel
theorem dX13_rewrite_350 : decode cX13_rewrite 350 = .ok (.ifCond .lt 13, 3) := by decide +kernel
theorem dX13_rewrite_363 : decode cX13_rewrite 363 = .ok (.iconst 0, 1) := by decide +kernel
theorem dX13_rewrite_364 : decode cX13_rewrite 364 = .ok (.istore_n 2, 1) := by decide +kernel
theorem dX13_rewrite_365 : decode cX13_rewrite 365 = .ok (.iload_n 2, 1) := by decide +kernel
theorem dX13_rewrite_366 : decode cX13_rewrite 366 = .ok (.iload_n 1, 1) := by decide +kernel
theorem dX13_rewrite_367 : decode cX13_rewrite 367 = .ok (.if_icmp .ge 21, 3) := by decide +kernel
theorem dX13_rewrite_388 : decode cX13_rewrite 388 = .ok (.aload_n 0, 1) := by decide +kernel
theorem dX13_rewrite_389 : decode cX13_rewrite 389 = .ok (.iload_n 1, 1) := by decide +kernel
theorem dX13_rewrite_390 : decode cX13_rewrite 390 = .ok (.putfield 219, 3) := by decide +kernel
theorem dX13_rewrite_393 : decode cX13_rewrite 393 = .ok (.aload_n 0, 1) := by decide +kernel
theorem dX13_rewrite_394 : decode cX13_rewrite 394 = .ok (.iconst 0, 1) := by decide +kernel
theorem dX13_rewrite_395 : decode cX13_rewrite 395 = .ok (.putfield 226, 3) := by decide +kernel
theorem dX13_rewrite_398 : decode cX13_rewrite 398 = .ok (.iload_n 1, 1) := by decide +kernel
theorem dX13_rewrite_399 : decode cX13_rewrite 399 = .ok (.ireturn, 1) := by decide +kernel
theorem dX13_send_0 : decode cX13_send 0 = .ok (.aload_n 0, 1) := by decide +kernel
theorem dX13_send_1 : decode cX13_send 1 = .ok (.iconst 0, 1) := by decide +kernel
theorem dX13_send_2 : decode cX13_send 2 = .ok (.putfield 31, 3) := by decide +kernel
theorem dX13_send_5 : decode cX13_send 5 = .ok (.aload_n 0, 1) := by decide +kernel
theorem dX13_send_6 : decode cX13_send 6 = .ok (.getfield 366, 3) := by decide +kernel
theorem dX13_send_9 : decode cX13_send 9 = .ok (.istore_n 2, 1) := by decide +kernel
theorem dX13_send_10 : decode cX13_send 10 = .ok (.aload_n 0, 1) := by decide +kernel
theorem dX13_send_11 : decode cX13_send 11 = .ok (.iconst 0, 1) := by decide +kernel
theorem dX13_send_12 : decode cX13_send 12 = .ok (.putfield 366, 3) := by decide +kernel
theorem dX13_send_15 : decode cX13_send 15 = .ok (.iload_n 1, 1) := by decide +kernel
theorem dX13_send_16 : decode cX13_send 16 = .ok (.istore_n 3, 1) := by decide +kernel
theorem dX13_send_17 : decode cX13_send 17 = .ok (.iload_n 3, 1) := by decide +kernel
theorem dX13_send_18 : decode cX13_send 18 = .ok (.ifCond .lt 24, 3) := by decide +kernel
theorem dX13_send_21 : decode cX13_send 21 = .ok (.iload_n 3, 1) := by decide +kernel
theorem dX13_send_22 : decode cX13_send 22 = .ok (.iconst 3, 1) := by decide +kernel
theorem dX13_send_23 : decode cX13_send 23 = .ok (.if_icmp .gt 19, 3) := by decide +kernel
theorem dX13_send_26 : decode cX13_send 26 = .ok (.aload_n 0, 1) := by decide +kernel
theorem dX13_send_27 : decode cX13_send 27 = .ok (.getfield 232, 3) := by decide +kernel
theorem dX13_send_30 : decode cX13_send 30 = .ok (.ifCond .eq 12, 3) := by decide +kernel
theorem dX13_send_33 : decode cX13_send 33 = .ok (.aload_n 0, 1) := by decide +kernel
theorem dX13_send_34 : decode cX13_send 34 = .ok (.getfield 128, 3) := by decide +kernel
theorem dX13_send_37 : decode cX13_send 37 = .ok (.iload_n 3, 1) := by decide +kernel
theorem dX13_send_38 : decode cX13_send 38 = .ok (.baload, 1) := by decide +kernel
theorem dX13_send_39 : decode cX13_send 39 = .ok (.ifCond .ne 5, 3) := by decide +kernel
theorem dX13_send_42 : decode cX13_send 42 = .ok (.iconst (-1), 1) := by decide +kernel
theorem dX13_send_43 : decode cX13_send 43 = .ok (.ireturn, 1) := by decide +kernel
theorem dX13_send_44 : decode cX13_send 44 = .ok (.aload_n 0, 1) := by decide +kernel
theorem dX13_send_45 : decode cX13_send 45 = .ok (.getfield 135, 3) := by decide +kernel
theorem dX13_send_48 : decode cX13_send 48 = .ok (.iload_n 3, 1) := by decide +kernel
theorem dX13_send_49 : decode cX13_send 49 = .ok (.iaload, 1) := by decide +kernel
theorem dX13_send_50 : decode cX13_send 50 = .ok (.istore 4, 2) := by decide +kernel
theorem dX13_send_52 : decode cX13_send 52 = .ok (.iconst 0, 1) := by decide +kernel
theorem dX13_send_53 : decode cX13_send 53 = .ok (.istore 5, 2) := by decide +kernel
theorem dX13_send_55 : decode cX13_send 55 = .ok (.iload 5, 2) := by decide +kernel
theorem dX13_send_57 : decode cX13_send 57 = .ok (.iload 4, 2) := by decide +kernel
theorem dX13_send_59 : decode cX13_send 59 = .ok (.if_icmp .ge 29, 3) := by decide +kernel
theorem dX13_send_88 : decode cX13_send 88 = .ok (.iconst 0, 1) := by decide +kernel
theorem dX13_send_89 : decode cX13_send 89 = .ok (.istore 5, 2) := by decide +kernel
theorem dX13_send_91 : decode cX13_send 91 = .ok (.iload 5, 2) := by decide +kernel
theorem dX13_send_93 : decode cX13_send 93 = .ok (.iload_n 2, 1) := by decide +kernel
theorem dX13_send_94 : decode cX13_send 94 = .ok (.if_icmp .ge 26, 3) := by decide +kernel
theorem dX13_send_120 : decode cX13_send 120 = .ok (.iload 4, 2) := by decide +kernel
theorem dX13_send_122 : decode cX13_send 122 = .ok (.iload_n 2, 1) := by decide +kernel
theorem dX13_send_123 : decode cX13_send 123 = .ok (.iadd, 1) := by decide +kernel
theorem dX13_send_124 : decode cX13_send 124 = .ok (.istore 4, 2) := by decide +kernel
theorem dX13_send_126 : decode cX13_send 126 = .ok (.aload_n 0, 1) := by decide +kernel
theorem dX13_send_127 : decode cX13_send 127 = .ok (.iload_n 3, 1) := by decide +kernel
theorem dX13_send_128 : decode cX13_send 128 = .ok (.putfield 347, 3) := by decide +kernel
theorem dX13_send_131 : decode cX13_send 131 = .ok (.iconst 0, 1) := by decide +kernel
theorem dX13_send_132 : decode cX13_send 132 = .ok (.istore 5, 2) := by decide +kernel
theorem dX13_send_134 : decode cX13_send 134 = .ok (.iconst 0, 1) := by decide +kernel
theorem dX13_send_135 : decode cX13_send 135 = .ok (.istore 6, 2) := by decide +kernel
theorem dX13_send_137 : decode cX13_send 137 = .ok (.iconst 1, 1) := by decide +kernel
theorem dX13_send_138 : decode cX13_send 138 = .ok (.istore 7, 2) := by decide +kernel
theorem dX13_send_140 : decode cX13_send 140 = .ok (.iload 7, 2) := by decide +kernel
theorem dX13_send_142 : decode cX13_send 142 = .ok (.ifCond .eq 116, 3) := by decide +kernel
theorem dX13_send_145 : decode cX13_send 145 = .ok (.aload_n 0, 1) := by decide +kernel
theorem dX13_send_146 : decode cX13_send 146 = .ok (.getfield 128, 3) := by decide +kernel
theorem dX13_send_149 : decode cX13_send 149 = .ok (.iload_n 3, 1) := by decide +kernel
theorem dX13_send_150 : decode cX13_send 150 = .ok (.baload, 1) := by decide +kernel
theorem dX13_send_151 : decode cX13_send 151 = .ok (.ifCond .eq 107, 3) := by decide +kernel
theorem dX13_send_154 : decode cX13_send 154 = .ok (.iload 5, 2) := by decide +kernel
theorem dX13_send_156 : decode cX13_send 156 = .ok (.iload 4, 2) := by decide +kernel
theorem dX13_send_158 : decode cX13_send 158 = .ok (.if_icmp .ge 100, 3) := by decide +kernel
theorem dX13_send_258 : decode cX13_send 258 = .ok (.aload_n 0, 1) := by decide +kernel
theorem dX13_send_259 : decode cX13_send 259 = .ok (.getfield 128, 3) := by decide +kernel
theorem dX13_send_262 : decode cX13_send 262 = .ok (.iload_n 3, 1) := by decide +kernel
theorem dX13_send_263 : decode cX13_send 263 = .ok (.baload, 1) := by decide +kernel
theorem dX13_send_264 : decode cX13_send 264 = .ok (.ifCond .ne 6, 3) := by decide +kernel
theorem dX13_send_270 : decode cX13_send 270 = .ok (.iload 4, 2) := by decide +kernel
theorem dX13_send_272 : decode cX13_send 272 = .ok (.iload 5, 2) := by decide +kernel
theorem dX13_send_274 : decode cX13_send 274 = .ok (.isub, 1) := by decide +kernel
theorem dX13_send_275 : decode cX13_send 275 = .ok (.ldc_w 647, 3) := by decide +kernel
theorem dX13_send_278 : decode cX13_send 278 = .ok (.if_icmp .le 11, 3) := by decide +kernel
theorem dX13_send_289 : decode cX13_send 289 = .ok (.iload 5, 2) := by decide +kernel
theorem dX13_send_291 : decode cX13_send 291 = .ok (.istore 8, 2) := by decide +kernel
theorem dX13_send_293 : decode cX13_send 293 = .ok (.iload 8, 2) := by decide +kernel
theorem dX13_send_295 : decode cX13_send 295 = .ok (.iload 4, 2) := by decide +kernel
theorem dX13_send_297 : decode cX13_send 297 = .ok (.if_icmp .ge 32, 3) := by decide +kernel
theorem dX13_send_329 : decode cX13_send 329 = .ok (.aload_n 0, 1) := by decide +kernel
theorem dX13_send_330 : decode cX13_send 330 = .ok (.getfield 135, 3) := by decide +kernel
theorem dX13_send_333 : decode cX13_send 333 = .ok (.iload_n 3, 1) := by decide +kernel
theorem dX13_send_334 : decode cX13_send 334 = .ok (.iload 4, 2) := by decide +kernel
theorem dX13_send_336 : decode cX13_send 336 = .ok (.iload 5, 2) := by decide +kernel
theorem dX13_send_338 : decode cX13_send 338 = .ok (.isub, 1) := by decide +kernel
theorem dX13_send_339 : decode cX13_send 339 = .ok (.iastore, 1) := by decide +kernel
theorem dX13_send_340 : decode cX13_send 340 = .ok (.iload 6, 2) := by decide +kernel
theorem dX13_send_342 : decode cX13_send 342 = .ok (.ireturn, 1) := by decide +kernel
theorem dX13_stop_0 : decode cX13_stop 0 = .ok (.aload_n 0, 1) := by decide +kernel
theorem dX13_stop_1 : decode cX13_stop 1 = .ok (.iconst 0, 1) := by decide +kernel
theorem dX13_stop_2 : decode cX13_stop 2 = .ok (.putfield 232, 3) := by decide +kernel
theorem dX13_stop_5 : decode cX13_stop 5 = .ok (.iconst 0, 1) := by decide +kernel
theorem dX13_stop_6 : decode cX13_stop 6 = .ok (.istore_n 1, 1) := by decide +kernel
theorem dX13_stop_7 : decode cX13_stop 7 = .ok (.iload_n 1, 1) := by decide +kernel
theorem dX13_stop_8 : decode cX13_stop 8 = .ok (.iconst 4, 1) := by decide +kernel
theorem dX13_stop_9 : decode cX13_stop 9 = .ok (.if_icmp .ge 21, 3) := by decide +kernel
theorem dX13_stop_12 : decode cX13_stop 12 = .ok (.aload_n 0, 1) := by decide +kernel
theorem dX13_stop_13 : decode cX13_stop 13 = .ok (.iload_n 1, 1) := by decide +kernel
theorem dX13_stop_14 : decode cX13_stop 14 = .ok (.invokevirtual 687, 3) := by decide +kernel
theorem dX13_stop_17 : decode cX13_stop 17 = .ok (.aload_n 0, 1) := by decide +kernel
theorem dX13_stop_18 : decode cX13_stop 18 = .ok (.getfield 142, 3) := by decide +kernel
theorem dX13_stop_21 : decode cX13_stop 21 = .ok (.iload_n 1, 1) := by decide +kernel
theorem dX13_stop_22 : decode cX13_stop 22 = .ok (.iconst 0, 1) := by decide +kernel
theorem dX13_stop_23 : decode cX13_stop 23 = .ok (.iastore, 1) := by decide +kernel
theorem dX13_stop_24 : decode cX13_stop 24 = .ok (.iinc 1 1, 3) := by decide +kernel
theorem dX13_stop_27 : decode cX13_stop 27 = .ok (.goto (-20), 3) := by decide +kernel
theorem dX13_stop_30 : decode cX13_stop 30 = .ok (.aload_n 0, 1) := by decide +kernel
theorem dX13_stop_31 : decode cX13_stop 31 = .ok (.getfield 46, 3) := by decide +kernel
theorem dX13_stop_34 : decode cX13_stop 34 = .ok (.ifCond .le 21, 3) := by decide +kernel
theorem dX13_stop_55 : decode cX13_stop 55 = .ok (.aload_n 0, 1) := by decide +kernel
theorem dX13_stop_56 : decode cX13_stop 56 = .ok (.iconst 0, 1) := by decide +kernel
theorem dX13_stop_57 : decode cX13_stop 57 = .ok (.putfield 43, 3) := by decide +kernel
theorem dX13_stop_60 : decode cX13_stop 60 = .ok (.aload_n 0, 1) := by decide +kernel
theorem dX13_stop_61 : decode cX13_stop 61 = .ok (.iconst 0, 1) := by decide +kernel
theorem dX13_stop_62 : decode cX13_stop 62 = .ok (.putfield 226, 3) := by decide +kernel
theorem dX13_stop_65 : decode cX13_stop 65 = .ok (.return_, 1) := by decide +kernel
theorem dX13_take_0 : decode cX13_take 0 = .ok (.aload_n 0, 1) := by decide +kernel
theorem dX13_take_1 : decode cX13_take 1 = .ok (.iconst 0, 1) := by decide +kernel
theorem dX13_take_2 : decode cX13_take 2 = .ok (.putfield 31, 3) := by decide +kernel
theorem dX13_take_5 : decode cX13_take 5 = .ok (.iload_n 1, 1) := by decide +kernel
theorem dX13_take_6 : decode cX13_take 6 = .ok (.invokestatic 1293, 3) := by decide +kernel
theorem dX13_take_9 : decode cX13_take 9 = .ok (.ifCond .eq 17, 3) := by decide +kernel
theorem dX13_take_12 : decode cX13_take 12 = .ok (.iload_n 2, 1) := by decide +kernel
theorem dX13_take_13 : decode cX13_take 13 = .ok (.ifCond .lt 13, 3) := by decide +kernel
theorem dX13_take_16 : decode cX13_take 16 = .ok (.iload_n 2, 1) := by decide +kernel
theorem dX13_take_17 : decode cX13_take 17 = .ok (.aload_n 0, 1) := by decide +kernel
theorem dX13_take_18 : decode cX13_take 18 = .ok (.getfield 142, 3) := by decide +kernel
theorem dX13_take_21 : decode cX13_take 21 = .ok (.iload_n 1, 1) := by decide +kernel
theorem dX13_take_22 : decode cX13_take 22 = .ok (.iaload, 1) := by decide +kernel
theorem dX13_take_23 : decode cX13_take 23 = .ok (.if_icmp .le 5, 3) := by decide +kernel
theorem dX13_take_26 : decode cX13_take 26 = .ok (.iconst 0, 1) := by decide +kernel
theorem dX13_take_27 : decode cX13_take 27 = .ok (.ireturn, 1) := by decide +kernel
theorem dX13_take_28 : decode cX13_take 28 = .ok (.aload_n 0, 1) := by decide +kernel
theorem dX13_take_29 : decode cX13_take 29 = .ok (.getfield 142, 3) := by decide +kernel
theorem dX13_take_32 : decode cX13_take 32 = .ok (.iload_n 1, 1) := by decide +kernel
theorem dX13_take_33 : decode cX13_take 33 = .ok (.dup2, 1) := by decide +kernel
theorem dX13_take_34 : decode cX13_take 34 = .ok (.iaload, 1) := by decide +kernel
theorem dX13_take_35 : decode cX13_take 35 = .ok (.iload_n 2, 1) := by decide +kernel
theorem dX13_take_36 : decode cX13_take 36 = .ok (.isub, 1) := by decide +kernel
theorem dX13_take_37 : decode cX13_take 37 = .ok (.iastore, 1) := by decide +kernel
theorem dX13_take_38 : decode cX13_take 38 = .ok (.ldc_w 647, 3) := by decide +kernel
theorem dX13_take_41 : decode cX13_take 41 = .ok (.iload_n 1, 1) := by decide +kernel
theorem dX13_take_42 : decode cX13_take 42 = .ok (.imul, 1) := by decide +kernel
theorem dX13_take_43 : decode cX13_take 43 = .ok (.istore_n 3, 1) := by decide +kernel
theorem dX13_take_44 : decode cX13_take 44 = .ok (.iconst 0, 1) := by decide +kernel
theorem dX13_take_45 : decode cX13_take 45 = .ok (.istore 4, 2) := by decide +kernel
theorem dX13_take_47 : decode cX13_take 47 = .ok (.iload 4, 2) := by decide +kernel
theorem dX13_take_49 : decode cX13_take 49 = .ok (.aload_n 0, 1) := by decide +kernel
theorem dX13_take_50 : decode cX13_take 50 = .ok (.getfield 142, 3) := by decide +kernel
theorem dX13_take_53 : decode cX13_take 53 = .ok (.iload_n 1, 1) := by decide +kernel
theorem dX13_take_54 : decode cX13_take 54 = .ok (.iaload, 1) := by decide +kernel
theorem dX13_take_55 : decode cX13_take 55 = .ok (.if_icmp .ge 29, 3) := by decide +kernel
theorem dX13_take_84 : decode cX13_take 84 = .ok (.iconst 1, 1) := by decide +kernel
theorem dX13_take_85 : decode cX13_take 85 = .ok (.ireturn, 1) := by decide +kernel
theorem dX13_tear_0 : decode cX13_tear 0 = .ok (.aload_n 0, 1) := by decide +kernel
theorem dX13_tear_1 : decode cX13_tear 1 = .ok (.iconst 0, 1) := by decide +kernel
theorem dX13_tear_2 : decode cX13_tear 2 = .ok (.putfield 31, 3) := by decide +kernel
theorem dX13_tear_5 : decode cX13_tear 5 = .ok (.aload_n 0, 1) := by decide +kernel
theorem dX13_tear_6 : decode cX13_tear 6 = .ok (.getfield 232, 3) := by decide +kernel
theorem dX13_tear_9 : decode cX13_tear 9 = .ok (.ifCond .ne 15, 3) := by decide +kernel
theorem dX13_tear_24 : decode cX13_tear 24 = .ok (.iconst 0, 1) := by decide +kernel
theorem dX13_tear_25 : decode cX13_tear 25 = .ok (.ireturn, 1) := by decide +kernel
theorem dX13_thrown_0 : decode cX13_thrown 0 = .ok (.aload_n 0, 1) := by decide +kernel
theorem dX13_thrown_1 : decode cX13_thrown 1 = .ok (.getfield 31, 3) := by decide +kernel
theorem dX13_thrown_4 : decode cX13_thrown 4 = .ok (.ireturn, 1) := by decide +kernel
theorem dX13_total_0 : decode cX13_total 0 = .ok (.aload_n 0, 1) := by decide +kernel
theorem dX13_total_1 : decode cX13_total 1 = .ok (.iconst 0, 1) := by decide +kernel
theorem dX13_total_2 : decode cX13_total 2 = .ok (.putfield 31, 3) := by decide +kernel
theorem dX13_total_5 : decode cX13_total 5 = .ok (.iload_n 1, 1) := by decide +kernel
theorem dX13_total_6 : decode cX13_total 6 = .ok (.ifCond .ne 8, 3) := by decide +kernel
theorem dX13_total_9 : decode cX13_total 9 = .ok (.aload_n 0, 1) := by decide +kernel
theorem dX13_total_10 : decode cX13_total 10 = .ok (.getfield 46, 3) := by decide +kernel
theorem dX13_total_13 : decode cX13_total 13 = .ok (.ireturn, 1) := by decide +kernel
theorem dX13_total_14 : decode cX13_total 14 = .ok (.iload_n 1, 1) := by decide +kernel
theorem dX13_total_15 : decode cX13_total 15 = .ok (.iconst 1, 1) := by decide +kernel
theorem dX13_total_16 : decode cX13_total 16 = .ok (.if_icmp .ne 8, 3) := by decide +kernel
theorem dX13_total_19 : decode cX13_total 19 = .ok (.aload_n 0, 1) := by decide +kernel
theorem dX13_total_20 : decode cX13_total 20 = .ok (.invokevirtual 1068, 3) := by decide +kernel
theorem dX13_total_23 : decode cX13_total 23 = .ok (.ireturn, 1) := by decide +kernel
theorem dX13_total_24 : decode cX13_total 24 = .ok (.iload_n 1, 1) := by decide +kernel
theorem dX13_total_25 : decode cX13_total 25 = .ok (.iconst 2, 1) := by decide +kernel
theorem dX13_total_26 : decode cX13_total 26 = .ok (.if_icmp .eq 5, 3) := by decide +kernel
theorem dX13_total_29 : decode cX13_total 29 = .ok (.iconst (-1), 1) := by decide +kernel
theorem dX13_total_30 : decode cX13_total 30 = .ok (.ireturn, 1) := by decide +kernel
theorem dX13_total_31 : decode cX13_total 31 = .ok (.iconst 0, 1) := by decide +kernel
theorem dX13_total_32 : decode cX13_total 32 = .ok (.istore_n 2, 1) := by decide +kernel
theorem dX13_total_33 : decode cX13_total 33 = .ok (.iconst 0, 1) := by decide +kernel
theorem dX13_total_34 : decode cX13_total 34 = .ok (.istore_n 3, 1) := by decide +kernel
theorem dX13_total_35 : decode cX13_total 35 = .ok (.iload_n 3, 1) := by decide +kernel
theorem dX13_total_36 : decode cX13_total 36 = .ok (.aload_n 0, 1) := by decide +kernel
theorem dX13_total_37 : decode cX13_total 37 = .ok (.getfield 46, 3) := by decide +kernel
theorem dX13_total_40 : decode cX13_total 40 = .ok (.if_icmp .ge 26, 3) := by decide +kernel
theorem dX13_total_66 : decode cX13_total 66 = .ok (.iload_n 2, 1) := by decide +kernel
theorem dX13_total_67 : decode cX13_total 67 = .ok (.ireturn, 1) := by decide +kernel
theorem dX1_append_0 : decode cX1_append 0 = .ok (.iload_n 2, 1) := by decide +kernel
theorem dX1_append_1 : decode cX1_append 1 = .ok (.ifCond .lt 23, 3) := by decide +kernel
theorem dX1_append_4 : decode cX1_append 4 = .ok (.iload_n 3, 1) := by decide +kernel
theorem dX1_append_5 : decode cX1_append 5 = .ok (.ifCond .lt 19, 3) := by decide +kernel
theorem dX1_append_8 : decode cX1_append 8 = .ok (.iload_n 3, 1) := by decide +kernel
theorem dX1_append_9 : decode cX1_append 9 = .ok (.aload_n 1, 1) := by decide +kernel
theorem dX1_append_10 : decode cX1_append 10 = .ok (.arraylength, 1) := by decide +kernel
theorem dX1_append_11 : decode cX1_append 11 = .ok (.iload_n 2, 1) := by decide +kernel
theorem dX1_append_12 : decode cX1_append 12 = .ok (.isub, 1) := by decide +kernel
theorem dX1_append_13 : decode cX1_append 13 = .ok (.if_icmp .gt 11, 3) := by decide +kernel
theorem dX1_append_16 : decode cX1_append 16 = .ok (.aload_n 0, 1) := by decide +kernel
theorem dX1_append_17 : decode cX1_append 17 = .ok (.iload_n 3, 1) := by decide +kernel
theorem dX1_append_18 : decode cX1_append 18 = .ok (.invokevirtual 41, 3) := by decide +kernel
theorem dX1_append_21 : decode cX1_append 21 = .ok (.ifCond .ne 4, 3) := by decide +kernel
theorem dX1_append_25 : decode cX1_append 25 = .ok (.aload_n 1, 1) := by decide +kernel
theorem dX1_append_26 : decode cX1_append 26 = .ok (.iload_n 2, 1) := by decide +kernel
theorem dX1_append_27 : decode cX1_append 27 = .ok (.aload_n 0, 1) := by decide +kernel
theorem dX1_append_28 : decode cX1_append 28 = .ok (.getfield 11, 3) := by decide +kernel
theorem dX1_append_31 : decode cX1_append 31 = .ok (.aload_n 0, 1) := by decide +kernel
theorem dX1_append_32 : decode cX1_append 32 = .ok (.getfield 19, 3) := by decide +kernel
theorem dX1_append_35 : decode cX1_append 35 = .ok (.iload_n 3, 1) := by decide +kernel
theorem dX1_append_36 : decode cX1_append 36 = .ok (.invokestatic 45, 3) := by decide +kernel
theorem dX1_append_39 : decode cX1_append 39 = .ok (.aload_n 0, 1) := by decide +kernel
theorem dX1_append_40 : decode cX1_append 40 = .ok (.dup, 1) := by decide +kernel
theorem dX1_append_41 : decode cX1_append 41 = .ok (.getfield 19, 3) := by decide +kernel
theorem dX1_append_44 : decode cX1_append 44 = .ok (.iload_n 3, 1) := by decide +kernel
theorem dX1_append_45 : decode cX1_append 45 = .ok (.iadd, 1) := by decide +kernel
theorem dX1_append_46 : decode cX1_append 46 = .ok (.putfield 19, 3) := by decide +kernel
theorem dX1_append_49 : decode cX1_append 49 = .ok (.return_, 1) := by decide +kernel
theorem dX1_cut_0 : decode cX1_cut 0 = .ok (.iload_n 1, 1) := by decide +kernel
theorem dX1_cut_1 : decode cX1_cut 1 = .ok (.ifCond .lt 16, 3) := by decide +kernel
theorem dX1_cut_4 : decode cX1_cut 4 = .ok (.iload_n 1, 1) := by decide +kernel
theorem dX1_cut_5 : decode cX1_cut 5 = .ok (.aload_n 0, 1) := by decide +kernel
theorem dX1_cut_6 : decode cX1_cut 6 = .ok (.getfield 19, 3) := by decide +kernel
theorem dX1_cut_9 : decode cX1_cut 9 = .ok (.if_icmp .ge 8, 3) := by decide +kernel
theorem dX1_cut_17 : decode cX1_cut 17 = .ok (.return_, 1) := by decide +kernel
theorem dX1_drop_0 : decode cX1_drop 0 = .ok (.iload_n 1, 1) := by decide +kernel
theorem dX1_drop_1 : decode cX1_drop 1 = .ok (.ifCond .gt 4, 3) := by decide +kernel
theorem dX1_drop_4 : decode cX1_drop 4 = .ok (.return_, 1) := by decide +kernel
theorem dX1_empty_0 : decode cX1_empty 0 = .ok (.aload_n 0, 1) := by decide +kernel
theorem dX1_empty_1 : decode cX1_empty 1 = .ok (.iconst 0, 1) := by decide +kernel
theorem dX1_empty_2 : decode cX1_empty 2 = .ok (.putfield 19, 3) := by decide +kernel
theorem dX1_empty_5 : decode cX1_empty 5 = .ok (.aload_n 0, 1) := by decide +kernel
theorem dX1_empty_6 : decode cX1_empty 6 = .ok (.iconst 0, 1) := by decide +kernel
theorem dX1_empty_7 : decode cX1_empty 7 = .ok (.putfield 22, 3) := by decide +kernel
theorem dX1_empty_10 : decode cX1_empty 10 = .ok (.return_, 1) := by decide +kernel
theorem dX1_four_0 : decode cX1_four 0 = .ok (.aload_n 0, 1) := by decide +kernel
theorem dX1_four_1 : decode cX1_four 1 = .ok (.iconst 4, 1) := by decide +kernel
theorem dX1_four_2 : decode cX1_four 2 = .ok (.invokevirtual 41, 3) := by decide +kernel
theorem dX1_four_5 : decode cX1_four 5 = .ok (.ifCond .eq 47, 3) := by decide +kernel
theorem dX1_four_8 : decode cX1_four 8 = .ok (.iconst 0, 1) := by decide +kernel
theorem dX1_four_9 : decode cX1_four 9 = .ok (.istore_n 2, 1) := by decide +kernel
theorem dX1_four_10 : decode cX1_four 10 = .ok (.iload_n 2, 1) := by decide +kernel
theorem dX1_four_11 : decode cX1_four 11 = .ok (.iconst 4, 1) := by decide +kernel
theorem dX1_four_12 : decode cX1_four 12 = .ok (.if_icmp .ge 30, 3) := by decide +kernel
theorem dX1_four_15 : decode cX1_four 15 = .ok (.aload_n 0, 1) := by decide +kernel
theorem dX1_four_16 : decode cX1_four 16 = .ok (.getfield 11, 3) := by decide +kernel
theorem dX1_four_19 : decode cX1_four 19 = .ok (.aload_n 0, 1) := by decide +kernel
theorem dX1_four_20 : decode cX1_four 20 = .ok (.getfield 19, 3) := by decide +kernel
theorem dX1_four_23 : decode cX1_four 23 = .ok (.iload_n 2, 1) := by decide +kernel
theorem dX1_four_24 : decode cX1_four 24 = .ok (.iadd, 1) := by decide +kernel
theorem dX1_four_25 : decode cX1_four 25 = .ok (.iload_n 1, 1) := by decide +kernel
theorem dX1_four_26 : decode cX1_four 26 = .ok (.bipush 24, 2) := by decide +kernel
theorem dX1_four_28 : decode cX1_four 28 = .ok (.bipush 8, 2) := by decide +kernel
theorem dX1_four_30 : decode cX1_four 30 = .ok (.iload_n 2, 1) := by decide +kernel
theorem dX1_four_31 : decode cX1_four 31 = .ok (.imul, 1) := by decide +kernel
theorem dX1_four_32 : decode cX1_four 32 = .ok (.isub, 1) := by decide +kernel
theorem dX1_four_33 : decode cX1_four 33 = .ok (.ishr, 1) := by decide +kernel
theorem dX1_four_34 : decode cX1_four 34 = .ok (.i2b, 1) := by decide +kernel
theorem dX1_four_35 : decode cX1_four 35 = .ok (.bastore, 1) := by decide +kernel
theorem dX1_four_36 : decode cX1_four 36 = .ok (.iinc 2 1, 3) := by decide +kernel
theorem dX1_four_39 : decode cX1_four 39 = .ok (.goto (-29), 3) := by decide +kernel
theorem dX1_four_42 : decode cX1_four 42 = .ok (.aload_n 0, 1) := by decide +kernel
theorem dX1_four_43 : decode cX1_four 43 = .ok (.dup, 1) := by decide +kernel
theorem dX1_four_44 : decode cX1_four 44 = .ok (.getfield 19, 3) := by decide +kernel
theorem dX1_four_47 : decode cX1_four 47 = .ok (.iconst 4, 1) := by decide +kernel
theorem dX1_four_48 : decode cX1_four 48 = .ok (.iadd, 1) := by decide +kernel
theorem dX1_four_49 : decode cX1_four 49 = .ok (.putfield 19, 3) := by decide +kernel
theorem dX1_four_52 : decode cX1_four 52 = .ok (.return_, 1) := by decide +kernel
theorem dX1_init_0 : decode cX1_init 0 = .ok (.aload_n 0, 1) := by decide +kernel
theorem dX1_init_1 : decode cX1_init 1 = .ok (.invokespecial 3, 3) := by decide +kernel
theorem dX1_init_4 : decode cX1_init 4 = .ok (.aload_n 0, 1) := by decide +kernel
theorem dX1_init_5 : decode cX1_init 5 = .ok (.bipush 64, 2) := by decide +kernel
theorem dX1_init_7 : decode cX1_init 7 = .ok (.newarray .byte, 2) := by decide +kernel
theorem dX1_init_9 : decode cX1_init 9 = .ok (.putfield 11, 3) := by decide +kernel
theorem dX1_init_12 : decode cX1_init 12 = .ok (.aload_n 0, 1) := by decide +kernel
theorem dX1_init_13 : decode cX1_init 13 = .ok (.iload_n 1, 1) := by decide +kernel
theorem dX1_init_14 : decode cX1_init 14 = .ok (.putfield 15, 3) := by decide +kernel
theorem dX1_init_17 : decode cX1_init 17 = .ok (.return_, 1) := by decide +kernel
theorem dX1_room_0 : decode cX1_room 0 = .ok (.aload_n 0, 1) := by decide +kernel
theorem dX1_room_1 : decode cX1_room 1 = .ok (.getfield 22, 3) := by decide +kernel
theorem dX1_room_4 : decode cX1_room 4 = .ok (.ifCond .eq 5, 3) := by decide +kernel
theorem dX1_room_9 : decode cX1_room 9 = .ok (.iload_n 1, 1) := by decide +kernel
theorem dX1_room_10 : decode cX1_room 10 = .ok (.ifCond .lt 16, 3) := by decide +kernel
theorem dX1_room_13 : decode cX1_room 13 = .ok (.iload_n 1, 1) := by decide +kernel
theorem dX1_room_14 : decode cX1_room 14 = .ok (.aload_n 0, 1) := by decide +kernel
theorem dX1_room_15 : decode cX1_room 15 = .ok (.getfield 15, 3) := by decide +kernel
theorem dX1_room_18 : decode cX1_room 18 = .ok (.aload_n 0, 1) := by decide +kernel
theorem dX1_room_19 : decode cX1_room 19 = .ok (.getfield 19, 3) := by decide +kernel
theorem dX1_room_22 : decode cX1_room 22 = .ok (.isub, 1) := by decide +kernel
theorem dX1_room_23 : decode cX1_room 23 = .ok (.if_icmp .le 15, 3) := by decide +kernel
theorem dX1_room_38 : decode cX1_room 38 = .ok (.aload_n 0, 1) := by decide +kernel
theorem dX1_room_39 : decode cX1_room 39 = .ok (.getfield 19, 3) := by decide +kernel
theorem dX1_room_42 : decode cX1_room 42 = .ok (.iload_n 1, 1) := by decide +kernel
theorem dX1_room_43 : decode cX1_room 43 = .ok (.iadd, 1) := by decide +kernel
theorem dX1_room_44 : decode cX1_room 44 = .ok (.istore_n 2, 1) := by decide +kernel
theorem dX1_room_45 : decode cX1_room 45 = .ok (.iload_n 2, 1) := by decide +kernel
theorem dX1_room_46 : decode cX1_room 46 = .ok (.aload_n 0, 1) := by decide +kernel
theorem dX1_room_47 : decode cX1_room 47 = .ok (.getfield 11, 3) := by decide +kernel
theorem dX1_room_50 : decode cX1_room 50 = .ok (.arraylength, 1) := by decide +kernel
theorem dX1_room_51 : decode cX1_room 51 = .ok (.if_icmp .le 32, 3) := by decide +kernel
theorem dX1_room_83 : decode cX1_room 83 = .ok (.iconst 1, 1) := by decide +kernel
theorem dX1_room_84 : decode cX1_room 84 = .ok (.ireturn, 1) := by decide +kernel
theorem dX3_close_0 : decode cX3_close 0 = .ok (.aload_n 0, 1) := by decide +kernel
theorem dX3_close_1 : decode cX3_close 1 = .ok (.iconst 0, 1) := by decide +kernel
theorem dX3_close_2 : decode cX3_close 2 = .ok (.putfield 9, 3) := by decide +kernel
theorem dX3_close_5 : decode cX3_close 5 = .ok (.aload_n 0, 1) := by decide +kernel
theorem dX3_close_6 : decode cX3_close 6 = .ok (.getfield 21, 3) := by decide +kernel
theorem dX3_close_9 : decode cX3_close 9 = .ok (.invokevirtual 40, 3) := by decide +kernel
theorem dX3_close_12 : decode cX3_close 12 = .ok (.aload_n 0, 1) := by decide +kernel
theorem dX3_close_13 : decode cX3_close 13 = .ok (.invokevirtual 43, 3) := by decide +kernel
theorem dX3_close_16 : decode cX3_close 16 = .ok (.aload_n 0, 1) := by decide +kernel
theorem dX3_close_17 : decode cX3_close 17 = .ok (.iconst 0, 1) := by decide +kernel
theorem dX3_close_18 : decode cX3_close 18 = .ok (.putfield 46, 3) := by decide +kernel
theorem dX3_close_21 : decode cX3_close 21 = .ok (.return_, 1) := by decide +kernel
theorem dX3_endBlock_0 : decode cX3_endBlock 0 = .ok (.aload_n 0, 1) := by decide +kernel
theorem dX3_endBlock_1 : decode cX3_endBlock 1 = .ok (.iconst 0, 1) := by decide +kernel
theorem dX3_endBlock_2 : decode cX3_endBlock 2 = .ok (.putfield 50, 3) := by decide +kernel
theorem dX3_endBlock_5 : decode cX3_endBlock 5 = .ok (.aload_n 0, 1) := by decide +kernel
theorem dX3_endBlock_6 : decode cX3_endBlock 6 = .ok (.iconst 0, 1) := by decide +kernel
theorem dX3_endBlock_7 : decode cX3_endBlock 7 = .ok (.putfield 53, 3) := by decide +kernel
theorem dX3_endBlock_10 : decode cX3_endBlock 10 = .ok (.aload_n 0, 1) := by decide +kernel
theorem dX3_endBlock_11 : decode cX3_endBlock 11 = .ok (.iconst 0, 1) := by decide +kernel
theorem dX3_endBlock_12 : decode cX3_endBlock 12 = .ok (.putfield 56, 3) := by decide +kernel
theorem dX3_endBlock_15 : decode cX3_endBlock 15 = .ok (.aload_n 0, 1) := by decide +kernel
theorem dX3_endBlock_16 : decode cX3_endBlock 16 = .ok (.getfield 30, 3) := by decide +kernel
theorem dX3_endBlock_19 : decode cX3_endBlock 19 = .ok (.invokevirtual 40, 3) := by decide +kernel
theorem dX3_endBlock_22 : decode cX3_endBlock 22 = .ok (.aload_n 0, 1) := by decide +kernel
theorem dX3_endBlock_23 : decode cX3_endBlock 23 = .ok (.invokevirtual 59, 3) := by decide +kernel
theorem dX3_endBlock_26 : decode cX3_endBlock 26 = .ok (.return_, 1) := by decide +kernel
theorem dX3_init_0 : decode cX3_init 0 = .ok (.aload_n 0, 1) := by decide +kernel
theorem dX3_init_1 : decode cX3_init 1 = .ok (.invokespecial 3, 3) := by decide +kernel
theorem dX3_init_4 : decode cX3_init 4 = .ok (.aload_n 0, 1) := by decide +kernel
theorem dX3_init_5 : decode cX3_init 5 = .ok (.iconst 1, 1) := by decide +kernel
theorem dX3_init_6 : decode cX3_init 6 = .ok (.putfield 9, 3) := by decide +kernel
theorem dX3_init_9 : decode cX3_init 9 = .ok (.aload_n 0, 1) := by decide +kernel
theorem dX3_init_10 : decode cX3_init 10 = .ok (.new 15, 3) := by decide +kernel
theorem dX3_init_13 : decode cX3_init 13 = .ok (.dup, 1) := by decide +kernel
theorem dX3_init_14 : decode cX3_init 14 = .ok (.ldc 17, 2) := by decide +kernel
theorem dX3_init_16 : decode cX3_init 16 = .ok (.invokespecial 18, 3) := by decide +kernel
theorem dX3_init_19 : decode cX3_init 19 = .ok (.putfield 21, 3) := by decide +kernel
theorem dX3_init_22 : decode cX3_init 22 = .ok (.aload_n 0, 1) := by decide +kernel
theorem dX3_init_23 : decode cX3_init 23 = .ok (.new 15, 3) := by decide +kernel
theorem dX3_init_26 : decode cX3_init 26 = .ok (.dup, 1) := by decide +kernel
theorem dX3_init_27 : decode cX3_init 27 = .ok (.ldc 25, 2) := by decide +kernel
theorem dX3_init_29 : decode cX3_init 29 = .ok (.invokespecial 18, 3) := by decide +kernel
theorem dX3_init_32 : decode cX3_init 32 = .ok (.putfield 26, 3) := by decide +kernel
theorem dX3_init_35 : decode cX3_init 35 = .ok (.aload_n 0, 1) := by decide +kernel
theorem dX3_init_36 : decode cX3_init 36 = .ok (.new 15, 3) := by decide +kernel
theorem dX3_init_39 : decode cX3_init 39 = .ok (.dup, 1) := by decide +kernel
theorem dX3_init_40 : decode cX3_init 40 = .ok (.ldc 29, 2) := by decide +kernel
theorem dX3_init_42 : decode cX3_init 42 = .ok (.invokespecial 18, 3) := by decide +kernel
theorem dX3_init_45 : decode cX3_init 45 = .ok (.putfield 30, 3) := by decide +kernel
theorem dX3_init_48 : decode cX3_init 48 = .ok (.aload_n 0, 1) := by decide +kernel
theorem dX3_init_49 : decode cX3_init 49 = .ok (.bipush 64, 2) := by decide +kernel
theorem dX3_init_51 : decode cX3_init 51 = .ok (.newarray .int, 2) := by decide +kernel
theorem dX3_init_53 : decode cX3_init 53 = .ok (.putfield 33, 3) := by decide +kernel
theorem dX3_init_56 : decode cX3_init 56 = .ok (.aload_n 0, 1) := by decide +kernel
theorem dX3_init_57 : decode cX3_init 57 = .ok (.bipush 32, 2) := by decide +kernel
theorem dX3_init_59 : decode cX3_init 59 = .ok (.newarray .int, 2) := by decide +kernel
theorem dX3_init_61 : decode cX3_init 61 = .ok (.putfield 37, 3) := by decide +kernel
theorem dX3_init_64 : decode cX3_init 64 = .ok (.return_, 1) := by decide +kernel
theorem dX3_unwatch_0 : decode cX3_unwatch 0 = .ok (.aload_n 0, 1) := by decide +kernel
theorem dX3_unwatch_1 : decode cX3_unwatch 1 = .ok (.iconst 0, 1) := by decide +kernel
theorem dX3_unwatch_2 : decode cX3_unwatch 2 = .ok (.putfield 62, 3) := by decide +kernel
theorem dX3_unwatch_5 : decode cX3_unwatch 5 = .ok (.aload_n 0, 1) := by decide +kernel
theorem dX3_unwatch_6 : decode cX3_unwatch 6 = .ok (.iconst 0, 1) := by decide +kernel
theorem dX3_unwatch_7 : decode cX3_unwatch 7 = .ok (.putfield 65, 3) := by decide +kernel
theorem dX3_unwatch_10 : decode cX3_unwatch 10 = .ok (.return_, 1) := by decide +kernel
theorem dX4_forget_0 : decode cX4_forget 0 = .ok (.aload_n 0, 1) := by decide +kernel
theorem dX4_forget_1 : decode cX4_forget 1 = .ok (.getfield 50, 3) := by decide +kernel
theorem dX4_forget_4 : decode cX4_forget 4 = .ok (.istore_n 1, 1) := by decide +kernel
theorem dX4_forget_5 : decode cX4_forget 5 = .ok (.iconst 0, 1) := by decide +kernel
theorem dX4_forget_6 : decode cX4_forget 6 = .ok (.istore_n 2, 1) := by decide +kernel
theorem dX4_forget_7 : decode cX4_forget 7 = .ok (.iload_n 2, 1) := by decide +kernel
theorem dX4_forget_8 : decode cX4_forget 8 = .ok (.iload_n 1, 1) := by decide +kernel
theorem dX4_forget_9 : decode cX4_forget 9 = .ok (.if_icmp .ge 19, 3) := by decide +kernel
theorem dX4_forget_28 : decode cX4_forget 28 = .ok (.aload_n 0, 1) := by decide +kernel
theorem dX4_forget_29 : decode cX4_forget 29 = .ok (.iconst 0, 1) := by decide +kernel
theorem dX4_forget_30 : decode cX4_forget 30 = .ok (.putfield 58, 3) := by decide +kernel
theorem dX4_forget_33 : decode cX4_forget 33 = .ok (.aload_n 0, 1) := by decide +kernel
theorem dX4_forget_34 : decode cX4_forget 34 = .ok (.iconst 0, 1) := by decide +kernel
theorem dX4_forget_35 : decode cX4_forget 35 = .ok (.putfield 61, 3) := by decide +kernel
theorem dX4_forget_38 : decode cX4_forget 38 = .ok (.return_, 1) := by decide +kernel
theorem dX4_init_0 : decode cX4_init 0 = .ok (.aload_n 0, 1) := by decide +kernel
theorem dX4_init_1 : decode cX4_init 1 = .ok (.invokespecial 3, 3) := by decide +kernel
theorem dX4_init_4 : decode cX4_init 4 = .ok (.aload_n 0, 1) := by decide +kernel
theorem dX4_init_5 : decode cX4_init 5 = .ok (.bipush 64, 2) := by decide +kernel
theorem dX4_init_7 : decode cX4_init 7 = .ok (.newarray .int, 2) := by decide +kernel
theorem dX4_init_9 : decode cX4_init 9 = .ok (.putfield 9, 3) := by decide +kernel
theorem dX4_init_12 : decode cX4_init 12 = .ok (.aload_n 0, 1) := by decide +kernel
theorem dX4_init_13 : decode cX4_init 13 = .ok (.bipush 64, 2) := by decide +kernel
theorem dX4_init_15 : decode cX4_init 15 = .ok (.newarray .int, 2) := by decide +kernel
theorem dX4_init_17 : decode cX4_init 17 = .ok (.putfield 15, 3) := by decide +kernel
theorem dX4_init_20 : decode cX4_init 20 = .ok (.aload_n 0, 1) := by decide +kernel
theorem dX4_init_21 : decode cX4_init 21 = .ok (.bipush 64, 2) := by decide +kernel
theorem dX4_init_23 : decode cX4_init 23 = .ok (.anewarray 18, 3) := by decide +kernel
theorem dX4_init_26 : decode cX4_init 26 = .ok (.putfield 20, 3) := by decide +kernel
theorem dX4_init_29 : decode cX4_init 29 = .ok (.aload_n 0, 1) := by decide +kernel
theorem dX4_init_30 : decode cX4_init 30 = .ok (.bipush 64, 2) := by decide +kernel
theorem dX4_init_32 : decode cX4_init 32 = .ok (.newarray .byte, 2) := by decide +kernel
theorem dX4_init_34 : decode cX4_init 34 = .ok (.putfield 24, 3) := by decide +kernel
theorem dX4_init_37 : decode cX4_init 37 = .ok (.aload_n 0, 1) := by decide +kernel
theorem dX4_init_38 : decode cX4_init 38 = .ok (.iconst 0, 1) := by decide +kernel
theorem dX4_init_39 : decode cX4_init 39 = .ok (.newarray .byte, 2) := by decide +kernel
theorem dX4_init_41 : decode cX4_init 41 = .ok (.putfield 28, 3) := by decide +kernel
theorem dX4_init_44 : decode cX4_init 44 = .ok (.aload_n 0, 1) := by decide +kernel
theorem dX4_init_45 : decode cX4_init 45 = .ok (.bipush 64, 2) := by decide +kernel
theorem dX4_init_47 : decode cX4_init 47 = .ok (.newarray .long, 2) := by decide +kernel
theorem dX4_init_49 : decode cX4_init 49 = .ok (.putfield 31, 3) := by decide +kernel
theorem dX4_init_52 : decode cX4_init 52 = .ok (.aload_n 0, 1) := by decide +kernel
theorem dX4_init_53 : decode cX4_init 53 = .ok (.iconst 0, 1) := by decide +kernel
theorem dX4_init_54 : decode cX4_init 54 = .ok (.newarray .long, 2) := by decide +kernel
theorem dX4_init_56 : decode cX4_init 56 = .ok (.putfield 35, 3) := by decide +kernel
theorem dX4_init_59 : decode cX4_init 59 = .ok (.aload_n 0, 1) := by decide +kernel
theorem dX4_init_60 : decode cX4_init 60 = .ok (.aload_n 1, 1) := by decide +kernel
theorem dX4_init_61 : decode cX4_init 61 = .ok (.putfield 38, 3) := by decide +kernel
theorem dX4_init_64 : decode cX4_init 64 = .ok (.aload_n 0, 1) := by decide +kernel
theorem dX4_init_65 : decode cX4_init 65 = .ok (.aload_n 2, 1) := by decide +kernel
theorem dX4_init_66 : decode cX4_init 66 = .ok (.putfield 42, 3) := by decide +kernel
theorem dX4_init_69 : decode cX4_init 69 = .ok (.aload_n 0, 1) := by decide +kernel
theorem dX4_init_70 : decode cX4_init 70 = .ok (.aload_n 3, 1) := by decide +kernel
theorem dX4_init_71 : decode cX4_init 71 = .ok (.putfield 46, 3) := by decide +kernel
theorem dX4_init_74 : decode cX4_init 74 = .ok (.return_, 1) := by decide +kernel
theorem dX5_init_0 : decode cX5_init 0 = .ok (.aload_n 0, 1) := by decide +kernel
theorem dX5_init_1 : decode cX5_init 1 = .ok (.invokespecial 3, 3) := by decide +kernel
theorem dX5_init_4 : decode cX5_init 4 = .ok (.aload_n 0, 1) := by decide +kernel
theorem dX5_init_5 : decode cX5_init 5 = .ok (.aload_n 1, 1) := by decide +kernel
theorem dX5_init_6 : decode cX5_init 6 = .ok (.putfield 9, 3) := by decide +kernel
theorem dX5_init_9 : decode cX5_init 9 = .ok (.aload_n 0, 1) := by decide +kernel
theorem dX5_init_10 : decode cX5_init 10 = .ok (.aload_n 2, 1) := by decide +kernel
theorem dX5_init_11 : decode cX5_init 11 = .ok (.putfield 15, 3) := by decide +kernel
theorem dX5_init_14 : decode cX5_init 14 = .ok (.aload_n 0, 1) := by decide +kernel
theorem dX5_init_15 : decode cX5_init 15 = .ok (.aload_n 3, 1) := by decide +kernel
theorem dX5_init_16 : decode cX5_init 16 = .ok (.putfield 19, 3) := by decide +kernel
theorem dX5_init_19 : decode cX5_init 19 = .ok (.return_, 1) := by decide +kernel
theorem dX6_init_0 : decode cX6_init 0 = .ok (.aload_n 0, 1) := by decide +kernel
theorem dX6_init_1 : decode cX6_init 1 = .ok (.invokespecial 3, 3) := by decide +kernel
theorem dX6_init_4 : decode cX6_init 4 = .ok (.aload_n 0, 1) := by decide +kernel
theorem dX6_init_5 : decode cX6_init 5 = .ok (.new 9, 3) := by decide +kernel
theorem dX6_init_8 : decode cX6_init 8 = .ok (.dup, 1) := by decide +kernel
theorem dX6_init_9 : decode cX6_init 9 = .ok (.bipush 32, 2) := by decide +kernel
theorem dX6_init_11 : decode cX6_init 11 = .ok (.invokespecial 11, 3) := by decide +kernel
theorem dX6_init_14 : decode cX6_init 14 = .ok (.putfield 14, 3) := by decide +kernel
theorem dX6_init_17 : decode cX6_init 17 = .ok (.aload_n 0, 1) := by decide +kernel
theorem dX6_init_18 : decode cX6_init 18 = .ok (.bipush 64, 2) := by decide +kernel
theorem dX6_init_20 : decode cX6_init 20 = .ok (.newarray .int, 2) := by decide +kernel
theorem dX6_init_22 : decode cX6_init 22 = .ok (.putfield 20, 3) := by decide +kernel
theorem dX6_init_25 : decode cX6_init 25 = .ok (.aload_n 0, 1) := by decide +kernel
theorem dX6_init_26 : decode cX6_init 26 = .ok (.aload_n 1, 1) := by decide +kernel
theorem dX6_init_27 : decode cX6_init 27 = .ok (.putfield 24, 3) := by decide +kernel
theorem dX6_init_30 : decode cX6_init 30 = .ok (.aload_n 0, 1) := by decide +kernel
theorem dX6_init_31 : decode cX6_init 31 = .ok (.aload_n 2, 1) := by decide +kernel
theorem dX6_init_32 : decode cX6_init 32 = .ok (.putfield 28, 3) := by decide +kernel
theorem dX6_init_35 : decode cX6_init 35 = .ok (.aload_n 0, 1) := by decide +kernel
theorem dX6_init_36 : decode cX6_init 36 = .ok (.aload_n 3, 1) := by decide +kernel
theorem dX6_init_37 : decode cX6_init 37 = .ok (.putfield 32, 3) := by decide +kernel
theorem dX6_init_40 : decode cX6_init 40 = .ok (.return_, 1) := by decide +kernel
theorem dX7_init_0 : decode cX7_init 0 = .ok (.aload_n 0, 1) := by decide +kernel
theorem dX7_init_1 : decode cX7_init 1 = .ok (.invokespecial 3, 3) := by decide +kernel
theorem dX7_init_4 : decode cX7_init 4 = .ok (.aload_n 0, 1) := by decide +kernel
theorem dX7_init_5 : decode cX7_init 5 = .ok (.aload_n 1, 1) := by decide +kernel
theorem dX7_init_6 : decode cX7_init 6 = .ok (.putfield 9, 3) := by decide +kernel
theorem dX7_init_9 : decode cX7_init 9 = .ok (.aload_n 0, 1) := by decide +kernel
theorem dX7_init_10 : decode cX7_init 10 = .ok (.aload_n 2, 1) := by decide +kernel
theorem dX7_init_11 : decode cX7_init 11 = .ok (.putfield 15, 3) := by decide +kernel
theorem dX7_init_14 : decode cX7_init 14 = .ok (.aload_n 0, 1) := by decide +kernel
theorem dX7_init_15 : decode cX7_init 15 = .ok (.aload_n 3, 1) := by decide +kernel
theorem dX7_init_16 : decode cX7_init 16 = .ok (.putfield 19, 3) := by decide +kernel
theorem dX7_init_19 : decode cX7_init 19 = .ok (.return_, 1) := by decide +kernel
theorem dX8_init_0 : decode cX8_init 0 = .ok (.aload_n 0, 1) := by decide +kernel
theorem dX8_init_1 : decode cX8_init 1 = .ok (.invokespecial 3, 3) := by decide +kernel
theorem dX8_init_4 : decode cX8_init 4 = .ok (.aload_n 0, 1) := by decide +kernel
theorem dX8_init_5 : decode cX8_init 5 = .ok (.sipush 1024, 3) := by decide +kernel
theorem dX8_init_8 : decode cX8_init 8 = .ok (.newarray .int, 2) := by decide +kernel
theorem dX8_init_10 : decode cX8_init 10 = .ok (.putfield 11, 3) := by decide +kernel
theorem dX8_init_13 : decode cX8_init 13 = .ok (.aload_n 0, 1) := by decide +kernel
theorem dX8_init_14 : decode cX8_init 14 = .ok (.sipush 1024, 3) := by decide +kernel
theorem dX8_init_17 : decode cX8_init 17 = .ok (.newarray .int, 2) := by decide +kernel
theorem dX8_init_19 : decode cX8_init 19 = .ok (.putfield 15, 3) := by decide +kernel
theorem dX8_init_22 : decode cX8_init 22 = .ok (.aload_n 0, 1) := by decide +kernel
theorem dX8_init_23 : decode cX8_init 23 = .ok (.iconst 0, 1) := by decide +kernel
theorem dX8_init_24 : decode cX8_init 24 = .ok (.newarray .byte, 2) := by decide +kernel
theorem dX8_init_26 : decode cX8_init 26 = .ok (.putfield 18, 3) := by decide +kernel
theorem dX8_init_29 : decode cX8_init 29 = .ok (.aload_n 0, 1) := by decide +kernel
theorem dX8_init_30 : decode cX8_init 30 = .ok (.aload_n 1, 1) := by decide +kernel
theorem dX8_init_31 : decode cX8_init 31 = .ok (.putfield 22, 3) := by decide +kernel
theorem dX8_init_34 : decode cX8_init 34 = .ok (.aload_n 0, 1) := by decide +kernel
theorem dX8_init_35 : decode cX8_init 35 = .ok (.new 26, 3) := by decide +kernel
theorem dX8_init_38 : decode cX8_init 38 = .ok (.dup, 1) := by decide +kernel
theorem dX8_init_39 : decode cX8_init 39 = .ok (.iconst 0, 1) := by decide +kernel
theorem dX8_init_40 : decode cX8_init 40 = .ok (.invokespecial 28, 3) := by decide +kernel
theorem dX8_init_43 : decode cX8_init 43 = .ok (.putfield 31, 3) := by decide +kernel
theorem dX8_init_46 : decode cX8_init 46 = .ok (.return_, 1) := by decide +kernel
theorem dX8_read_0 : decode cX8_read 0 = .ok (.aload_n 0, 1) := by decide +kernel
theorem dX8_read_1 : decode cX8_read 1 = .ok (.aload_n 1, 1) := by decide +kernel
theorem dX8_read_2 : decode cX8_read 2 = .ok (.putfield 18, 3) := by decide +kernel
theorem dX8_read_5 : decode cX8_read 5 = .ok (.aload_n 0, 1) := by decide +kernel
theorem dX8_read_6 : decode cX8_read 6 = .ok (.iconst 0, 1) := by decide +kernel
theorem dX8_read_7 : decode cX8_read 7 = .ok (.putfield 35, 3) := by decide +kernel
theorem dX8_read_10 : decode cX8_read 10 = .ok (.aload_n 0, 1) := by decide +kernel
theorem dX8_read_11 : decode cX8_read 11 = .ok (.iload_n 2, 1) := by decide +kernel
theorem dX8_read_12 : decode cX8_read 12 = .ok (.putfield 39, 3) := by decide +kernel
theorem dX8_read_15 : decode cX8_read 15 = .ok (.iload_n 2, 1) := by decide +kernel
theorem dX8_read_16 : decode cX8_read 16 = .ok (.ifCond .lt 14, 3) := by decide +kernel
theorem dX8_read_19 : decode cX8_read 19 = .ok (.iload_n 2, 1) := by decide +kernel
theorem dX8_read_20 : decode cX8_read 20 = .ok (.iload_n 3, 1) := by decide +kernel
theorem dX8_read_21 : decode cX8_read 21 = .ok (.if_icmp .ge 9, 3) := by decide +kernel
theorem dX8_read_30 : decode cX8_read 30 = .ok (.iconst 1, 1) := by decide +kernel
theorem dX8_read_31 : decode cX8_read 31 = .ok (.ireturn, 1) := by decide +kernel
theorem dX9_init_0 : decode cX9_init 0 = .ok (.aload_n 0, 1) := by decide +kernel
theorem dX9_init_1 : decode cX9_init 1 = .ok (.invokespecial 3, 3) := by decide +kernel
theorem dX9_init_4 : decode cX9_init 4 = .ok (.aload_n 0, 1) := by decide +kernel
theorem dX9_init_5 : decode cX9_init 5 = .ok (.new 9, 3) := by decide +kernel
theorem dX9_init_8 : decode cX9_init 8 = .ok (.dup, 1) := by decide +kernel
theorem dX9_init_9 : decode cX9_init 9 = .ok (.bipush 32, 2) := by decide +kernel
theorem dX9_init_11 : decode cX9_init 11 = .ok (.invokespecial 11, 3) := by decide +kernel
theorem dX9_init_14 : decode cX9_init 14 = .ok (.putfield 14, 3) := by decide +kernel
theorem dX9_init_17 : decode cX9_init 17 = .ok (.aload_n 0, 1) := by decide +kernel
theorem dX9_init_18 : decode cX9_init 18 = .ok (.aload_n 1, 1) := by decide +kernel
theorem dX9_init_19 : decode cX9_init 19 = .ok (.putfield 20, 3) := by decide +kernel
theorem dX9_init_22 : decode cX9_init 22 = .ok (.aload_n 0, 1) := by decide +kernel
theorem dX9_init_23 : decode cX9_init 23 = .ok (.aload_n 2, 1) := by decide +kernel
theorem dX9_init_24 : decode cX9_init 24 = .ok (.putfield 24, 3) := by decide +kernel
theorem dX9_init_27 : decode cX9_init 27 = .ok (.return_, 1) := by decide +kernel
