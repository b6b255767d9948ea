theorem dX6_choose_244 : decode cX6_choose 244 = .ok (.ifCond .eq 8, 3) := by decide +kernel
theorem dX6_choose_247 : decode cX6_choose 247 = .ok (.iload_n 3, 1) := by decide +kernel
theorem dX6_choose_248 : decode cX6_choose 248 = .ok (.istore_n 1, 1) := by decide +kernel
theorem dX6_choose_249 : decode cX6_choose 249 = .ok (.iload 4, 2) := by decide +kernel
theorem dX6_choose_251 : decode cX6_choose 251 = .ok (.istore_n 2, 1) := by decide +kernel
theorem dX6_choose_252 : decode cX6_choose 252 = .ok (.iinc 3 (-1), 3) := by decide +kernel
theorem dX6_choose_255 : decode cX6_choose 255 = .ok (.goto (-90), 3) := by decide +kernel
theorem dX6_choose_258 : decode cX6_choose 258 = .ok (.aload_n 0, 1) := by decide +kernel
theorem dX6_choose_259 : decode cX6_choose 259 = .ok (.iload_n 2, 1) := by decide +kernel
theorem dX6_choose_260 : decode cX6_choose 260 = .ok (.putfield 151, 3) := by decide +kernel
theorem dX6_choose_263 : decode cX6_choose 263 = .ok (.aload_n 0, 1) := by decide +kernel
theorem dX6_choose_264 : decode cX6_choose 264 = .ok (.iconst 0, 1) := by decide +kernel
theorem dX6_choose_265 : decode cX6_choose 265 = .ok (.putfield 154, 3) := by decide +kernel
theorem dX6_choose_268 : decode cX6_choose 268 = .ok (.iconst 0, 1) := by decide +kernel
theorem dX6_choose_269 : decode cX6_choose 269 = .ok (.istore_n 3, 1) := by decide +kernel
theorem dX6_choose_270 : decode cX6_choose 270 = .ok (.iload_n 3, 1) := by decide +kernel
theorem dX6_choose_271 : decode cX6_choose 271 = .ok (.aload_n 0, 1) := by decide +kernel
theorem dX6_choose_272 : decode cX6_choose 272 = .ok (.getfield 142, 3) := by decide +kernel
theorem dX6_choose_275 : decode cX6_choose 275 = .ok (.if_icmp .ge 46, 3) := by decide +kernel
theorem dX6_choose_278 : decode cX6_choose 278 = .ok (.aload_n 0, 1) := by decide +kernel
theorem dX6_choose_279 : decode cX6_choose 279 = .ok (.dup, 1) := by decide +kernel
theorem dX6_choose_280 : decode cX6_choose 280 = .ok (.getfield 154, 3) := by decide +kernel
theorem dX6_choose_283 : decode cX6_choose 283 = .ok (.iload_n 1, 1) := by decide +kernel
theorem dX6_choose_284 : decode cX6_choose 284 = .ok (.aload_n 0, 1) := by decide +kernel
theorem dX6_choose_285 : decode cX6_choose 285 = .ok (.getfield 142, 3) := by decide +kernel
theorem dX6_choose_288 : decode cX6_choose 288 = .ok (.iconst 1, 1) := by decide +kernel
theorem dX6_choose_289 : decode cX6_choose 289 = .ok (.isub, 1) := by decide +kernel
theorem dX6_choose_290 : decode cX6_choose 290 = .ok (.iload_n 3, 1) := by decide +kernel
theorem dX6_choose_291 : decode cX6_choose 291 = .ok (.isub, 1) := by decide +kernel
theorem dX6_choose_292 : decode cX6_choose 292 = .ok (.ishr, 1) := by decide +kernel
theorem dX6_choose_293 : decode cX6_choose 293 = .ok (.iconst 1, 1) := by decide +kernel
theorem dX6_choose_294 : decode cX6_choose 294 = .ok (.iand, 1) := by decide +kernel
theorem dX6_choose_295 : decode cX6_choose 295 = .ok (.iconst 1, 1) := by decide +kernel
theorem dX6_choose_296 : decode cX6_choose 296 = .ok (.if_icmp .ne 14, 3) := by decide +kernel
theorem dX6_choose_299 : decode cX6_choose 299 = .ok (.iconst 1, 1) := by decide +kernel
theorem dX6_choose_300 : decode cX6_choose 300 = .ok (.aload_n 0, 1) := by decide +kernel
theorem dX6_choose_301 : decode cX6_choose 301 = .ok (.getfield 62, 3) := by decide +kernel
theorem dX6_choose_304 : decode cX6_choose 304 = .ok (.iload_n 3, 1) := by decide +kernel
theorem dX6_choose_305 : decode cX6_choose 305 = .ok (.iaload, 1) := by decide +kernel
theorem dX6_choose_306 : decode cX6_choose 306 = .ok (.ishl, 1) := by decide +kernel
theorem dX6_choose_307 : decode cX6_choose 307 = .ok (.goto 4, 3) := by decide +kernel
theorem dX6_choose_310 : decode cX6_choose 310 = .ok (.iconst 0, 1) := by decide +kernel
theorem dX6_choose_311 : decode cX6_choose 311 = .ok (.ior, 1) := by decide +kernel
theorem dX6_choose_312 : decode cX6_choose 312 = .ok (.putfield 154, 3) := by decide +kernel
theorem dX6_choose_315 : decode cX6_choose 315 = .ok (.iinc 3 1, 3) := by decide +kernel
theorem dX6_choose_318 : decode cX6_choose 318 = .ok (.goto (-48), 3) := by decide +kernel
theorem dX6_choose_321 : decode cX6_choose 321 = .ok (.return_, 1) := by decide +kernel
set_option maxRecDepth 20000 in
theorem ggX6_markOf_X6_choose : GoodIn wsX6_markOf wsX6_choose := goodIn_r _ [11, 2, 4, 12, 13, 14, 3, 15, 16, 17, 18, 10, 19, 6, 5, 20, 21, 22, 23, 24, 25, 26, 27, 28, 29, 30, 31, 32, 33, 34, 35, 36, 37, 38, 39, 40, 41, 42, 43, 44, 45, 46, 47, 48, 49, 50, 51, 52, 53, 54, 55, 56, 57, 58, 59, 60, 61] (by decide +kernel) (by decide +kernel)
set_option maxRecDepth 20000 in
theorem gX6_markOf_X6_choose : GoodIn wsX6_markOf (wsV RX6 157 RX6 yX6_choose wsX6_choose) := goodIn_app (goodIn_of _ (by decide +kernel)) ggX6_markOf_X6_choose
theorem dX6_markOf_0 : decode cX6_markOf 0 = .ok (.aload_n 0, 1) := by decide +kernel
theorem dX6_markOf_1 : decode cX6_markOf 1 = .ok (.invokevirtual 157, 3) := by decide +kernel
theorem dX6_markOf_4 : decode cX6_markOf 4 = .ok (.aload_n 0, 1) := by decide +kernel
theorem dX6_markOf_5 : decode cX6_markOf 5 = .ok (.getfield 82, 3) := by decide +kernel
theorem dX6_markOf_8 : decode cX6_markOf 8 = .ok (.aload_n 0, 1) := by decide +kernel
theorem dX6_markOf_9 : decode cX6_markOf 9 = .ok (.getfield 142, 3) := by decide +kernel
theorem dX6_markOf_12 : decode cX6_markOf 12 = .ok (.isub, 1) := by decide +kernel
theorem dX6_markOf_13 : decode cX6_markOf 13 = .ok (.aload_n 0, 1) := by decide +kernel
theorem dX6_markOf_14 : decode cX6_markOf 14 = .ok (.getfield 142, 3) := by decide +kernel
theorem dX6_markOf_17 : decode cX6_markOf 17 = .ok (.iadd, 1) := by decide +kernel
theorem dX6_markOf_18 : decode cX6_markOf 18 = .ok (.aload_n 0, 1) := by decide +kernel
theorem dX6_markOf_19 : decode cX6_markOf 19 = .ok (.getfield 151, 3) := by decide +kernel
theorem dX6_markOf_22 : decode cX6_markOf 22 = .ok (.isub, 1) := by decide +kernel
theorem dX6_markOf_23 : decode cX6_markOf 23 = .ok (.istore_n 1, 1) := by decide +kernel
theorem dX6_markOf_24 : decode cX6_markOf 24 = .ok (.iconst 0, 1) := by decide +kernel
theorem dX6_markOf_25 : decode cX6_markOf 25 = .ok (.istore_n 2, 1) := by decide +kernel
theorem dX6_markOf_26 : decode cX6_markOf 26 = .ok (.iload_n 2, 1) := by decide +kernel
theorem dX6_markOf_27 : decode cX6_markOf 27 = .ok (.aload_n 0, 1) := by decide +kernel
theorem dX6_markOf_28 : decode cX6_markOf 28 = .ok (.getfield 79, 3) := by decide +kernel
theorem dX6_markOf_31 : decode cX6_markOf 31 = .ok (.if_icmp .ge 31, 3) := by decide +kernel
theorem dX6_markOf_34 : decode cX6_markOf 34 = .ok (.iload_n 1, 1) := by decide +kernel
theorem dX6_markOf_35 : decode cX6_markOf 35 = .ok (.aload_n 0, 1) := by decide +kernel
theorem dX6_markOf_36 : decode cX6_markOf 36 = .ok (.getfield 19, 3) := by decide +kernel
theorem dX6_markOf_39 : decode cX6_markOf 39 = .ok (.aload_n 0, 1) := by decide +kernel
theorem dX6_markOf_40 : decode cX6_markOf 40 = .ok (.getfield 44, 3) := by decide +kernel
theorem dX6_markOf_43 : decode cX6_markOf 43 = .ok (.iload_n 2, 1) := by decide +kernel
theorem dX6_markOf_44 : decode cX6_markOf 44 = .ok (.iaload, 1) := by decide +kernel
theorem dX6_markOf_45 : decode cX6_markOf 45 = .ok (.iaload, 1) := by decide +kernel
theorem dX6_markOf_46 : decode cX6_markOf 46 = .ok (.ifCond .eq 7, 3) := by decide +kernel
theorem dX6_markOf_49 : decode cX6_markOf 49 = .ok (.iconst 1, 1) := by decide +kernel
theorem dX6_markOf_50 : decode cX6_markOf 50 = .ok (.goto 4, 3) := by decide +kernel
theorem dX6_markOf_53 : decode cX6_markOf 53 = .ok (.iconst 0, 1) := by decide +kernel
theorem dX6_markOf_54 : decode cX6_markOf 54 = .ok (.iadd, 1) := by decide +kernel
theorem dX6_markOf_55 : decode cX6_markOf 55 = .ok (.istore_n 1, 1) := by decide +kernel
theorem dX6_markOf_56 : decode cX6_markOf 56 = .ok (.iinc 2 1, 3) := by decide +kernel
theorem dX6_markOf_59 : decode cX6_markOf 59 = .ok (.goto (-33), 3) := by decide +kernel
theorem dX6_markOf_62 : decode cX6_markOf 62 = .ok (.iload_n 1, 1) := by decide +kernel
theorem dX6_markOf_63 : decode cX6_markOf 63 = .ok (.ireturn, 1) := by decide +kernel
set_option maxRecDepth 20000 in
theorem ggX6_mark_X6_markOf : GoodIn wsX6_mark wsX6_markOf := goodIn_r _ [5, 6, 7, 8, 9, 10, 11, 12, 13, 14, 4, 15, 16, 17, 18, 19, 20, 21, 22, 23, 24, 25, 26, 27, 28, 29, 30, 31, 32, 33, 34, 35, 36, 37, 38, 39, 40, 41, 42, 43, 44, 45, 46, 47, 48, 49, 50, 51, 52, 53, 54, 55, 56, 57, 58, 59, 60, 61, 62, 63, 64, 65] (by decide +kernel) (by decide +kernel)
set_option maxRecDepth 20000 in
theorem gX6_mark_X6_markOf : GoodIn wsX6_mark (wsV RX6 160 RX6 yX6_markOf wsX6_markOf) := goodIn_app (goodIn_of _ (by decide +kernel)) ggX6_mark_X6_markOf
theorem dX6_mark_0 : decode cX6_mark 0 = .ok (.aload_n 0, 1) := by decide +kernel
theorem dX6_mark_1 : decode cX6_mark 1 = .ok (.invokevirtual 160, 3) := by decide +kernel
theorem dX6_mark_4 : decode cX6_mark 4 = .ok (.ireturn, 1) := by decide +kernel
set_option maxRecDepth 20000 in
theorem ggX6_kept_X6_in : GoodIn wsX6_kept wsX6_in := goodIn_r _ [6] (by decide +kernel) (by decide +kernel)
set_option maxRecDepth 20000 in
theorem gX6_kept_X6_in : GoodIn wsX6_kept (va_wsS RX6 72 yX6_in wsX6_in) := goodIn_app (goodIn_of _ (by decide +kernel)) ggX6_kept_X6_in
set_option maxRecDepth 20000 in
theorem ggX6_kept_X6_choose : GoodIn wsX6_kept wsX6_choose := goodIn_r _ [10, 11, 1, 12, 13, 14, 15, 2, 16, 17, 18, 5, 19, 20, 21, 22, 23, 24, 25, 26, 27, 28, 29, 30, 31, 32, 33, 34, 35, 36, 37, 38, 39, 40, 41, 42, 43, 44, 45, 46, 47, 48, 49, 50, 51, 52, 53, 54, 55, 56, 57, 58, 59, 60, 61, 62, 63] (by decide +kernel) (by decide +kernel)
set_option maxRecDepth 20000 in
theorem gX6_kept_X6_choose : GoodIn wsX6_kept (wsV RX6 157 RX6 yX6_choose wsX6_choose) := goodIn_app (goodIn_of _ (by decide +kernel)) ggX6_kept_X6_choose
theorem dX6_kept_0 : decode cX6_kept 0 = .ok (.iload_n 1, 1) := by decide +kernel
theorem dX6_kept_1 : decode cX6_kept 1 = .ok (.iconst 0, 1) := by decide +kernel
theorem dX6_kept_2 : decode cX6_kept 2 = .ok (.aload_n 0, 1) := by decide +kernel
theorem dX6_kept_3 : decode cX6_kept 3 = .ok (.getfield 79, 3) := by decide +kernel
theorem dX6_kept_6 : decode cX6_kept 6 = .ok (.iconst 1, 1) := by decide +kernel
theorem dX6_kept_7 : decode cX6_kept 7 = .ok (.isub, 1) := by decide +kernel
theorem dX6_kept_8 : decode cX6_kept 8 = .ok (.invokestatic 72, 3) := by decide +kernel
theorem dX6_kept_11 : decode cX6_kept 11 = .ok (.ifCond .ne 6, 3) := by decide +kernel
theorem dX6_kept_14 : decode cX6_kept 14 = .ok (.bipush (-102), 2) := by decide +kernel
theorem dX6_kept_16 : decode cX6_kept 16 = .ok (.ireturn, 1) := by decide +kernel
theorem dX6_kept_17 : decode cX6_kept 17 = .ok (.aload_n 0, 1) := by decide +kernel
theorem dX6_kept_18 : decode cX6_kept 18 = .ok (.invokevirtual 157, 3) := by decide +kernel
theorem dX6_kept_21 : decode cX6_kept 21 = .ok (.aload_n 0, 1) := by decide +kernel
theorem dX6_kept_22 : decode cX6_kept 22 = .ok (.getfield 154, 3) := by decide +kernel
theorem dX6_kept_25 : decode cX6_kept 25 = .ok (.iload_n 1, 1) := by decide +kernel
theorem dX6_kept_26 : decode cX6_kept 26 = .ok (.ishr, 1) := by decide +kernel
theorem dX6_kept_27 : decode cX6_kept 27 = .ok (.iconst 1, 1) := by decide +kernel
theorem dX6_kept_28 : decode cX6_kept 28 = .ok (.iand, 1) := by decide +kernel
theorem dX6_kept_29 : decode cX6_kept 29 = .ok (.ireturn, 1) := by decide +kernel
set_option maxRecDepth 20000 in
theorem ggX6_placeFor_X6_takenFor : GoodIn wsX6_placeFor wsX6_takenFor := goodIn_r _ [8, 9, 10, 11, 12, 13, 14, 15, 7, 16, 1, 17, 18, 19, 20, 21, 22, 23, 24, 25, 26, 27, 28, 29, 30, 31, 32, 33, 34, 35, 36, 37, 38, 39, 40, 41, 42, 43, 44, 45, 46, 47, 48, 49] (by decide +kernel) (by decide +kernel)
set_option maxRecDepth 20000 in
theorem gX6_placeFor_X6_takenFor : GoodIn wsX6_placeFor (wsV RX6 145 RX6 yX6_takenFor wsX6_takenFor) := goodIn_app (goodIn_of _ (by decide +kernel)) ggX6_placeFor_X6_takenFor
theorem dX6_placeFor_0 : decode cX6_placeFor 0 = .ok (.iconst 0, 1) := by decide +kernel
theorem dX6_placeFor_1 : decode cX6_placeFor 1 = .ok (.istore_n 3, 1) := by decide +kernel
theorem dX6_placeFor_2 : decode cX6_placeFor 2 = .ok (.iconst 0, 1) := by decide +kernel
theorem dX6_placeFor_3 : decode cX6_placeFor 3 = .ok (.istore 4, 2) := by decide +kernel
theorem dX6_placeFor_5 : decode cX6_placeFor 5 = .ok (.iload 4, 2) := by decide +kernel
theorem dX6_placeFor_7 : decode cX6_placeFor 7 = .ok (.aload_n 0, 1) := by decide +kernel
theorem dX6_placeFor_8 : decode cX6_placeFor 8 = .ok (.getfield 79, 3) := by decide +kernel
theorem dX6_placeFor_11 : decode cX6_placeFor 11 = .ok (.if_icmp .ge 60, 3) := by decide +kernel
theorem dX6_placeFor_14 : decode cX6_placeFor 14 = .ok (.aload_n 0, 1) := by decide +kernel
theorem dX6_placeFor_15 : decode cX6_placeFor 15 = .ok (.getfield 154, 3) := by decide +kernel
theorem dX6_placeFor_18 : decode cX6_placeFor 18 = .ok (.iload 4, 2) := by decide +kernel
theorem dX6_placeFor_20 : decode cX6_placeFor 20 = .ok (.ishr, 1) := by decide +kernel
theorem dX6_placeFor_21 : decode cX6_placeFor 21 = .ok (.iconst 1, 1) := by decide +kernel
theorem dX6_placeFor_22 : decode cX6_placeFor 22 = .ok (.iand, 1) := by decide +kernel
theorem dX6_placeFor_23 : decode cX6_placeFor 23 = .ok (.iconst 1, 1) := by decide +kernel
theorem dX6_placeFor_24 : decode cX6_placeFor 24 = .ok (.if_icmp .ne 41, 3) := by decide +kernel
theorem dX6_placeFor_27 : decode cX6_placeFor 27 = .ok (.aload_n 0, 1) := by decide +kernel
theorem dX6_placeFor_28 : decode cX6_placeFor 28 = .ok (.getfield 31, 3) := by decide +kernel
theorem dX6_placeFor_31 : decode cX6_placeFor 31 = .ok (.aload_n 0, 1) := by decide +kernel
theorem dX6_placeFor_32 : decode cX6_placeFor 32 = .ok (.iload 4, 2) := by decide +kernel
theorem dX6_placeFor_34 : decode cX6_placeFor 34 = .ok (.invokevirtual 145, 3) := by decide +kernel
theorem dX6_placeFor_37 : decode cX6_placeFor 37 = .ok (.iaload, 1) := by decide +kernel
theorem dX6_placeFor_38 : decode cX6_placeFor 38 = .ok (.iload_n 1, 1) := by decide +kernel
theorem dX6_placeFor_39 : decode cX6_placeFor 39 = .ok (.ishr, 1) := by decide +kernel
theorem dX6_placeFor_40 : decode cX6_placeFor 40 = .ok (.iconst 1, 1) := by decide +kernel
theorem dX6_placeFor_41 : decode cX6_placeFor 41 = .ok (.iand, 1) := by decide +kernel
theorem dX6_placeFor_42 : decode cX6_placeFor 42 = .ok (.iconst 1, 1) := by decide +kernel
theorem dX6_placeFor_43 : decode cX6_placeFor 43 = .ok (.if_icmp .ne 22, 3) := by decide +kernel
theorem dX6_placeFor_46 : decode cX6_placeFor 46 = .ok (.iload 4, 2) := by decide +kernel
theorem dX6_placeFor_48 : decode cX6_placeFor 48 = .ok (.iload_n 2, 1) := by decide +kernel
theorem dX6_placeFor_49 : decode cX6_placeFor 49 = .ok (.ifCond .lt 13, 3) := by decide +kernel
theorem dX6_placeFor_52 : decode cX6_placeFor 52 = .ok (.iload_n 2, 1) := by decide +kernel
theorem dX6_placeFor_53 : decode cX6_placeFor 53 = .ok (.iload 4, 2) := by decide +kernel
theorem dX6_placeFor_55 : decode cX6_placeFor 55 = .ok (.if_icmp .ge 7, 3) := by decide +kernel
theorem dX6_placeFor_58 : decode cX6_placeFor 58 = .ok (.iconst 0, 1) := by decide +kernel
theorem dX6_placeFor_59 : decode cX6_placeFor 59 = .ok (.goto 4, 3) := by decide +kernel
theorem dX6_placeFor_62 : decode cX6_placeFor 62 = .ok (.iconst 1, 1) := by decide +kernel
theorem dX6_placeFor_63 : decode cX6_placeFor 63 = .ok (.iadd, 1) := by decide +kernel
theorem dX6_placeFor_64 : decode cX6_placeFor 64 = .ok (.istore_n 3, 1) := by decide +kernel
theorem dX6_placeFor_65 : decode cX6_placeFor 65 = .ok (.iinc 4 1, 3) := by decide +kernel
theorem dX6_placeFor_68 : decode cX6_placeFor 68 = .ok (.goto (-63), 3) := by decide +kernel
theorem dX6_placeFor_71 : decode cX6_placeFor 71 = .ok (.iload_n 3, 1) := by decide +kernel
theorem dX6_placeFor_72 : decode cX6_placeFor 72 = .ok (.ireturn, 1) := by decide +kernel
set_option maxRecDepth 20000 in
theorem ggX6_look_X6_markOf : GoodIn wsX6_look wsX6_markOf := goodIn_r _ [15, 7, 16, 17, 4, 6, 5, 18, 19, 20, 14, 21, 22, 23, 24, 9, 25, 26, 27, 28, 10, 29, 30, 31, 32, 33, 34, 35, 36, 41, 42, 43, 44, 45, 46, 47, 48, 49, 50, 51, 52, 53, 54, 55, 56, 57, 58, 59, 60, 61, 62, 63, 64, 65, 66, 67, 68, 69, 70, 71, 72, 73] (by decide +kernel) (by decide +kernel)
set_option maxRecDepth 20000 in
theorem gX6_look_X6_markOf : GoodIn wsX6_look (wsV RX6 160 RX6 yX6_markOf wsX6_markOf) := goodIn_app (goodIn_of _ (by decide +kernel)) ggX6_look_X6_markOf
set_option maxRecDepth 20000 in
theorem ggX6_look_X6_takenFor : GoodIn wsX6_look wsX6_takenFor := goodIn_r _ [28, 5, 6, 10, 29, 30, 31, 32, 14, 33, 4, 41, 42, 43, 44, 45, 46, 47, 48, 49, 50, 51, 52, 53, 54, 55, 56, 57, 58, 59, 60, 61, 62, 63, 64, 65, 66, 67, 68, 69, 70, 71, 72, 73] (by decide +kernel) (by decide +kernel)
set_option maxRecDepth 20000 in
theorem gX6_look_X6_takenFor : GoodIn wsX6_look (wsV RX6 145 RX6 yX6_takenFor wsX6_takenFor) := goodIn_app (goodIn_of _ (by decide +kernel)) ggX6_look_X6_takenFor
set_option maxRecDepth 20000 in
theorem ggX6_look_X6_placeOf : GoodIn wsX6_look wsX6_placeOf := goodIn_r _ [33, 4, 5, 41, 42, 43, 44, 45, 46, 47, 48, 49, 50, 51, 52, 53, 54, 55, 56, 57, 58, 59, 60, 61, 62, 63, 64, 65, 66, 67, 68, 69, 70, 71, 72, 73] (by decide +kernel) (by decide +kernel)
set_option maxRecDepth 20000 in
theorem gX6_look_X6_placeOf : GoodIn wsX6_look (wsV RX6 123 RX6 yX6_placeOf wsX6_placeOf) := goodIn_app (goodIn_of _ (by decide +kernel)) ggX6_look_X6_placeOf
set_option maxRecDepth 20000 in
theorem ggX6_look_X6_placeFor : GoodIn wsX6_look wsX6_placeFor := goodIn_r _ [40, 4, 9, 24, 25, 26, 27, 14, 28, 5, 6, 10, 29, 30, 31, 32, 33, 41, 42, 43, 44, 45, 46, 47, 48, 49, 50, 51, 52, 53, 54, 55, 56, 57, 58, 59, 60, 61, 62, 63, 64, 65, 66, 67, 68, 69, 70, 71, 72, 73] (by decide +kernel) (by decide +kernel)
set_option maxRecDepth 20000 in
theorem gX6_look_X6_placeFor : GoodIn wsX6_look (wsV RX6 173 RX6 yX6_placeFor wsX6_placeFor) := goodIn_app (goodIn_of _ (by decide +kernel)) ggX6_look_X6_placeFor
theorem dX6_look_0 : decode cX6_look 0 = .ok (.aload_n 0, 1) := by decide +kernel
theorem dX6_look_1 : decode cX6_look 1 = .ok (.iconst (-1), 1) := by decide +kernel
theorem dX6_look_2 : decode cX6_look 2 = .ok (.putfield 164, 3) := by decide +kernel
theorem dX6_look_5 : decode cX6_look 5 = .ok (.aload_n 0, 1) := by decide +kernel
theorem dX6_look_6 : decode cX6_look 6 = .ok (.iconst (-1), 1) := by decide +kernel
theorem dX6_look_7 : decode cX6_look 7 = .ok (.putfield 167, 3) := by decide +kernel
theorem dX6_look_10 : decode cX6_look 10 = .ok (.aload_n 0, 1) := by decide +kernel
theorem dX6_look_11 : decode cX6_look 11 = .ok (.iconst (-1), 1) := by decide +kernel
theorem dX6_look_12 : decode cX6_look 12 = .ok (.putfield 170, 3) := by decide +kernel
theorem dX6_look_15 : decode cX6_look 15 = .ok (.aload_n 0, 1) := by decide +kernel
theorem dX6_look_16 : decode cX6_look 16 = .ok (.invokevirtual 160, 3) := by decide +kernel
theorem dX6_look_19 : decode cX6_look 19 = .ok (.ifCond .ne 4, 3) := by decide +kernel
theorem dX6_look_22 : decode cX6_look 22 = .ok (.return_, 1) := by decide +kernel
theorem dX6_look_23 : decode cX6_look 23 = .ok (.iconst 0, 1) := by decide +kernel
theorem dX6_look_24 : decode cX6_look 24 = .ok (.istore_n 1, 1) := by decide +kernel
theorem dX6_look_25 : decode cX6_look 25 = .ok (.iload_n 1, 1) := by decide +kernel
theorem dX6_look_26 : decode cX6_look 26 = .ok (.aload_n 0, 1) := by decide +kernel
theorem dX6_look_27 : decode cX6_look 27 = .ok (.getfield 79, 3) := by decide +kernel
theorem dX6_look_30 : decode cX6_look 30 = .ok (.if_icmp .ge 39, 3) := by decide +kernel
theorem dX6_look_33 : decode cX6_look 33 = .ok (.aload_n 0, 1) := by decide +kernel
theorem dX6_look_34 : decode cX6_look 34 = .ok (.iload_n 1, 1) := by decide +kernel
theorem dX6_look_35 : decode cX6_look 35 = .ok (.invokevirtual 145, 3) := by decide +kernel
theorem dX6_look_38 : decode cX6_look 38 = .ok (.iconst (-1), 1) := by decide +kernel
theorem dX6_look_39 : decode cX6_look 39 = .ok (.if_icmp .ne 24, 3) := by decide +kernel
theorem dX6_look_42 : decode cX6_look 42 = .ok (.aload_n 0, 1) := by decide +kernel
theorem dX6_look_43 : decode cX6_look 43 = .ok (.iconst 0, 1) := by decide +kernel
theorem dX6_look_44 : decode cX6_look 44 = .ok (.putfield 164, 3) := by decide +kernel
theorem dX6_look_47 : decode cX6_look 47 = .ok (.aload_n 0, 1) := by decide +kernel
theorem dX6_look_48 : decode cX6_look 48 = .ok (.aload_n 0, 1) := by decide +kernel
theorem dX6_look_49 : decode cX6_look 49 = .ok (.getfield 44, 3) := by decide +kernel
theorem dX6_look_52 : decode cX6_look 52 = .ok (.iload_n 1, 1) := by decide +kernel
theorem dX6_look_53 : decode cX6_look 53 = .ok (.iaload, 1) := by decide +kernel
theorem dX6_look_54 : decode cX6_look 54 = .ok (.putfield 167, 3) := by decide +kernel
theorem dX6_look_57 : decode cX6_look 57 = .ok (.aload_n 0, 1) := by decide +kernel
theorem dX6_look_58 : decode cX6_look 58 = .ok (.iload_n 1, 1) := by decide +kernel
theorem dX6_look_59 : decode cX6_look 59 = .ok (.putfield 170, 3) := by decide +kernel
theorem dX6_look_62 : decode cX6_look 62 = .ok (.return_, 1) := by decide +kernel
theorem dX6_look_63 : decode cX6_look 63 = .ok (.iinc 1 1, 3) := by decide +kernel
theorem dX6_look_66 : decode cX6_look 66 = .ok (.goto (-41), 3) := by decide +kernel
theorem dX6_look_69 : decode cX6_look 69 = .ok (.iconst 0, 1) := by decide +kernel
theorem dX6_look_70 : decode cX6_look 70 = .ok (.istore_n 1, 1) := by decide +kernel
theorem dX6_look_71 : decode cX6_look 71 = .ok (.iload_n 1, 1) := by decide +kernel
theorem dX6_look_72 : decode cX6_look 72 = .ok (.aload_n 0, 1) := by decide +kernel
theorem dX6_look_73 : decode cX6_look 73 = .ok (.getfield 79, 3) := by decide +kernel
theorem dX6_look_76 : decode cX6_look 76 = .ok (.if_icmp .ge 45, 3) := by decide +kernel
theorem dX6_look_79 : decode cX6_look 79 = .ok (.aload_n 0, 1) := by decide +kernel
theorem dX6_look_80 : decode cX6_look 80 = .ok (.getfield 19, 3) := by decide +kernel
theorem dX6_look_83 : decode cX6_look 83 = .ok (.aload_n 0, 1) := by decide +kernel
theorem dX6_look_84 : decode cX6_look 84 = .ok (.getfield 44, 3) := by decide +kernel
theorem dX6_look_87 : decode cX6_look 87 = .ok (.iload_n 1, 1) := by decide +kernel
theorem dX6_look_88 : decode cX6_look 88 = .ok (.iaload, 1) := by decide +kernel
theorem dX6_look_89 : decode cX6_look 89 = .ok (.iaload, 1) := by decide +kernel
theorem dX6_look_90 : decode cX6_look 90 = .ok (.iconst 2, 1) := by decide +kernel
theorem dX6_look_91 : decode cX6_look 91 = .ok (.if_icmp .ne 24, 3) := by decide +kernel
theorem dX6_look_94 : decode cX6_look 94 = .ok (.aload_n 0, 1) := by decide +kernel
theorem dX6_look_95 : decode cX6_look 95 = .ok (.iconst 3, 1) := by decide +kernel
theorem dX6_look_96 : decode cX6_look 96 = .ok (.putfield 164, 3) := by decide +kernel
theorem dX6_look_99 : decode cX6_look 99 = .ok (.aload_n 0, 1) := by decide +kernel
theorem dX6_look_100 : decode cX6_look 100 = .ok (.aload_n 0, 1) := by decide +kernel
theorem dX6_look_101 : decode cX6_look 101 = .ok (.getfield 44, 3) := by decide +kernel
theorem dX6_look_104 : decode cX6_look 104 = .ok (.iload_n 1, 1) := by decide +kernel
theorem dX6_look_105 : decode cX6_look 105 = .ok (.iaload, 1) := by decide +kernel
theorem dX6_look_106 : decode cX6_look 106 = .ok (.putfield 167, 3) := by decide +kernel
theorem dX6_look_109 : decode cX6_look 109 = .ok (.aload_n 0, 1) := by decide +kernel
theorem dX6_look_110 : decode cX6_look 110 = .ok (.iload_n 1, 1) := by decide +kernel
theorem dX6_look_111 : decode cX6_look 111 = .ok (.putfield 170, 3) := by decide +kernel
theorem dX6_look_114 : decode cX6_look 114 = .ok (.return_, 1) := by decide +kernel
theorem dX6_look_115 : decode cX6_look 115 = .ok (.iinc 1 1, 3) := by decide +kernel
theorem dX6_look_118 : decode cX6_look 118 = .ok (.goto (-47), 3) := by decide +kernel
theorem dX6_look_121 : decode cX6_look 121 = .ok (.iconst 0, 1) := by decide +kernel
theorem dX6_look_122 : decode cX6_look 122 = .ok (.istore_n 1, 1) := by decide +kernel
theorem dX6_look_123 : decode cX6_look 123 = .ok (.iload_n 1, 1) := by decide +kernel
theorem dX6_look_124 : decode cX6_look 124 = .ok (.aload_n 0, 1) := by decide +kernel
theorem dX6_look_125 : decode cX6_look 125 = .ok (.getfield 82, 3) := by decide +kernel
theorem dX6_look_128 : decode cX6_look 128 = .ok (.if_icmp .ge 49, 3) := by decide +kernel
theorem dX6_look_131 : decode cX6_look 131 = .ok (.aload_n 0, 1) := by decide +kernel
theorem dX6_look_132 : decode cX6_look 132 = .ok (.aload_n 0, 1) := by decide +kernel
theorem dX6_look_133 : decode cX6_look 133 = .ok (.getfield 25, 3) := by decide +kernel
theorem dX6_look_136 : decode cX6_look 136 = .ok (.iload_n 1, 1) := by decide +kernel
theorem dX6_look_137 : decode cX6_look 137 = .ok (.iaload, 1) := by decide +kernel
theorem dX6_look_138 : decode cX6_look 138 = .ok (.invokevirtual 123, 3) := by decide +kernel
theorem dX6_look_141 : decode cX6_look 141 = .ok (.iconst (-1), 1) := by decide +kernel
theorem dX6_look_142 : decode cX6_look 142 = .ok (.if_icmp .ne 29, 3) := by decide +kernel
theorem dX6_look_145 : decode cX6_look 145 = .ok (.aload_n 0, 1) := by decide +kernel
theorem dX6_look_146 : decode cX6_look 146 = .ok (.iconst 1, 1) := by decide +kernel
theorem dX6_look_147 : decode cX6_look 147 = .ok (.putfield 164, 3) := by decide +kernel
theorem dX6_look_150 : decode cX6_look 150 = .ok (.aload_n 0, 1) := by decide +kernel
theorem dX6_look_151 : decode cX6_look 151 = .ok (.aload_n 0, 1) := by decide +kernel
theorem dX6_look_152 : decode cX6_look 152 = .ok (.getfield 25, 3) := by decide +kernel
theorem dX6_look_155 : decode cX6_look 155 = .ok (.iload_n 1, 1) := by decide +kernel
theorem dX6_look_156 : decode cX6_look 156 = .ok (.iaload, 1) := by decide +kernel
theorem dX6_look_157 : decode cX6_look 157 = .ok (.putfield 167, 3) := by decide +kernel
theorem dX6_look_160 : decode cX6_look 160 = .ok (.aload_n 0, 1) := by decide +kernel
theorem dX6_look_161 : decode cX6_look 161 = .ok (.aload_n 0, 1) := by decide +kernel
theorem dX6_look_162 : decode cX6_look 162 = .ok (.iload_n 1, 1) := by decide +kernel
theorem dX6_look_163 : decode cX6_look 163 = .ok (.iconst (-1), 1) := by decide +kernel
theorem dX6_look_164 : decode cX6_look 164 = .ok (.invokevirtual 173, 3) := by decide +kernel
theorem dX6_look_167 : decode cX6_look 167 = .ok (.putfield 170, 3) := by decide +kernel
theorem dX6_look_170 : decode cX6_look 170 = .ok (.return_, 1) := by decide +kernel
theorem dX6_look_171 : decode cX6_look 171 = .ok (.iinc 1 1, 3) := by decide +kernel
theorem dX6_look_174 : decode cX6_look 174 = .ok (.goto (-51), 3) := by decide +kernel
theorem dX6_look_177 : decode cX6_look 177 = .ok (.iconst 0, 1) := by decide +kernel
theorem dX6_look_178 : decode cX6_look 178 = .ok (.istore_n 1, 1) := by decide +kernel
theorem dX6_look_179 : decode cX6_look 179 = .ok (.iload_n 1, 1) := by decide +kernel
theorem dX6_look_180 : decode cX6_look 180 = .ok (.aload_n 0, 1) := by decide +kernel
theorem dX6_look_181 : decode cX6_look 181 = .ok (.getfield 79, 3) := by decide +kernel
theorem dX6_look_184 : decode cX6_look 184 = .ok (.if_icmp .ge 54, 3) := by decide +kernel
theorem dX6_look_187 : decode cX6_look 187 = .ok (.aload_n 0, 1) := by decide +kernel
theorem dX6_look_188 : decode cX6_look 188 = .ok (.getfield 154, 3) := by decide +kernel
theorem dX6_look_191 : decode cX6_look 191 = .ok (.iload_n 1, 1) := by decide +kernel
theorem dX6_look_192 : decode cX6_look 192 = .ok (.ishr, 1) := by decide +kernel
theorem dX6_look_193 : decode cX6_look 193 = .ok (.iconst 1, 1) := by decide +kernel
theorem dX6_look_194 : decode cX6_look 194 = .ok (.iand, 1) := by decide +kernel
theorem dX6_look_195 : decode cX6_look 195 = .ok (.ifCond .ne 37, 3) := by decide +kernel
theorem dX6_look_198 : decode cX6_look 198 = .ok (.aload_n 0, 1) := by decide +kernel
theorem dX6_look_199 : decode cX6_look 199 = .ok (.iconst 2, 1) := by decide +kernel
theorem dX6_look_200 : decode cX6_look 200 = .ok (.putfield 164, 3) := by decide +kernel
theorem dX6_look_203 : decode cX6_look 203 = .ok (.aload_n 0, 1) := by decide +kernel
theorem dX6_look_204 : decode cX6_look 204 = .ok (.aload_n 0, 1) := by decide +kernel
theorem dX6_look_205 : decode cX6_look 205 = .ok (.getfield 44, 3) := by decide +kernel
theorem dX6_look_208 : decode cX6_look 208 = .ok (.iload_n 1, 1) := by decide +kernel
theorem dX6_look_209 : decode cX6_look 209 = .ok (.iaload, 1) := by decide +kernel
theorem dX6_look_210 : decode cX6_look 210 = .ok (.putfield 167, 3) := by decide +kernel
theorem dX6_look_213 : decode cX6_look 213 = .ok (.aload_n 0, 1) := by decide +kernel
theorem dX6_look_214 : decode cX6_look 214 = .ok (.aload_n 0, 1) := by decide +kernel
theorem dX6_look_215 : decode cX6_look 215 = .ok (.aload_n 0, 1) := by decide +kernel
theorem dX6_look_216 : decode cX6_look 216 = .ok (.getfield 28, 3) := by decide +kernel
theorem dX6_look_219 : decode cX6_look 219 = .ok (.aload_n 0, 1) := by decide +kernel
theorem dX6_look_220 : decode cX6_look 220 = .ok (.getfield 167, 3) := by decide +kernel
theorem dX6_look_223 : decode cX6_look 223 = .ok (.iaload, 1) := by decide +kernel
theorem dX6_look_224 : decode cX6_look 224 = .ok (.iload_n 1, 1) := by decide +kernel
theorem dX6_look_225 : decode cX6_look 225 = .ok (.invokevirtual 173, 3) := by decide +kernel
theorem dX6_look_228 : decode cX6_look 228 = .ok (.putfield 170, 3) := by decide +kernel
theorem dX6_look_231 : decode cX6_look 231 = .ok (.return_, 1) := by decide +kernel
theorem dX6_look_232 : decode cX6_look 232 = .ok (.iinc 1 1, 3) := by decide +kernel
theorem dX6_look_235 : decode cX6_look 235 = .ok (.goto (-56), 3) := by decide +kernel
theorem dX6_look_238 : decode cX6_look 238 = .ok (.return_, 1) := by decide +kernel
set_option maxRecDepth 20000 in
theorem ggX6_hint_X6_in : GoodIn wsX6_hint wsX6_in := goodIn_r _ [7] (by decide +kernel) (by decide +kernel)
set_option maxRecDepth 20000 in
theorem gX6_hint_X6_in : GoodIn wsX6_hint (va_wsS RX6 72 yX6_in wsX6_in) := goodIn_app (goodIn_of _ (by decide +kernel)) ggX6_hint_X6_in
set_option maxRecDepth 20000 in
theorem ggX6_hint_X6_look : GoodIn wsX6_hint wsX6_look := goodIn_r _ [11, 1, 2, 3, 12, 13, 14, 15, 16, 17, 18, 19, 20, 21, 6, 22, 23, 24, 25, 26, 27, 28, 29, 30, 31, 32, 33, 34, 35, 36, 37, 38, 39, 40, 41, 42, 43, 44, 45, 46, 47, 48, 49, 50, 51, 52, 53, 54, 55, 56, 57, 58, 59, 60, 61, 62, 63, 64, 65, 66, 67, 68, 69, 70, 71, 72, 73, 74, 75, 76, 77, 78, 79, 80] (by decide +kernel) (by decide +kernel)
set_option maxRecDepth 20000 in
theorem gX6_hint_X6_look : GoodIn wsX6_hint (wsV RX6 176 RX6 yX6_look wsX6_look) := goodIn_app (goodIn_of _ (by decide +kernel)) ggX6_hint_X6_look
theorem dX6_hint_0 : decode cX6_hint 0 = .ok (.iload_n 1, 1) := by decide +kernel
theorem dX6_hint_1 : decode cX6_hint 1 = .ok (.iconst 0, 1) := by decide +kernel
theorem dX6_hint_2 : decode cX6_hint 2 = .ok (.iconst 2, 1) := by decide +kernel
theorem dX6_hint_3 : decode cX6_hint 3 = .ok (.invokestatic 72, 3) := by decide +kernel
theorem dX6_hint_6 : decode cX6_hint 6 = .ok (.ifCond .ne 6, 3) := by decide +kernel
theorem dX6_hint_9 : decode cX6_hint 9 = .ok (.bipush (-102), 2) := by decide +kernel
theorem dX6_hint_11 : decode cX6_hint 11 = .ok (.ireturn, 1) := by decide +kernel
theorem dX6_hint_12 : decode cX6_hint 12 = .ok (.aload_n 0, 1) := by decide +kernel
theorem dX6_hint_13 : decode cX6_hint 13 = .ok (.invokevirtual 176, 3) := by decide +kernel
theorem dX6_hint_16 : decode cX6_hint 16 = .ok (.iload_n 1, 1) := by decide +kernel
theorem dX6_hint_17 : decode cX6_hint 17 = .ok (.ifCond .ne 10, 3) := by decide +kernel
theorem dX6_hint_20 : decode cX6_hint 20 = .ok (.aload_n 0, 1) := by decide +kernel
theorem dX6_hint_21 : decode cX6_hint 21 = .ok (.getfield 164, 3) := by decide +kernel
theorem dX6_hint_24 : decode cX6_hint 24 = .ok (.goto 19, 3) := by decide +kernel
theorem dX6_hint_27 : decode cX6_hint 27 = .ok (.iload_n 1, 1) := by decide +kernel
theorem dX6_hint_28 : decode cX6_hint 28 = .ok (.iconst 1, 1) := by decide +kernel
theorem dX6_hint_29 : decode cX6_hint 29 = .ok (.if_icmp .ne 10, 3) := by decide +kernel
theorem dX6_hint_32 : decode cX6_hint 32 = .ok (.aload_n 0, 1) := by decide +kernel
theorem dX6_hint_33 : decode cX6_hint 33 = .ok (.getfield 167, 3) := by decide +kernel
theorem dX6_hint_36 : decode cX6_hint 36 = .ok (.goto 7, 3) := by decide +kernel
theorem dX6_hint_39 : decode cX6_hint 39 = .ok (.aload_n 0, 1) := by decide +kernel
theorem dX6_hint_40 : decode cX6_hint 40 = .ok (.getfield 170, 3) := by decide +kernel
theorem dX6_hint_43 : decode cX6_hint 43 = .ok (.ireturn, 1) := by decide +kernel
set_option maxRecDepth 20000 in
theorem ggX6_follow_X6_look : GoodIn wsX6_follow wsX6_look := goodIn_r _ [11, 1, 6, 3, 12, 4, 13, 14, 15, 16, 17, 18, 19, 20, 10, 21, 22, 23, 24, 25, 26, 27, 28, 29, 30, 31, 32, 33, 34, 5, 35, 36, 37, 38, 39, 40, 41, 42, 43, 44, 45, 54, 55, 56, 57, 58, 59, 60, 61, 62, 63, 64, 65, 66, 67, 68, 69, 70, 71, 72, 73, 74, 75, 76, 77, 78, 79, 80, 81, 82, 83, 84, 85, 86] (by decide +kernel) (by decide +kernel)
set_option maxRecDepth 20000 in
theorem gX6_follow_X6_look : GoodIn wsX6_follow (wsV RX6 176 RX6 yX6_look wsX6_look) := goodIn_app (goodIn_of _ (by decide +kernel)) ggX6_follow_X6_look
set_option maxRecDepth 20000 in
theorem ggX6_follow_X6_remove : GoodIn wsX6_follow wsX6_remove := goodIn_r _ [49, 4, 12, 54, 55, 56, 57, 58, 59, 60, 61, 62, 63, 64, 65, 66, 67, 68, 69, 70, 71, 72, 73, 74, 75, 76, 77, 78, 79, 80, 81, 82, 83, 84, 85, 86] (by decide +kernel) (by decide +kernel)
set_option maxRecDepth 20000 in
theorem gX6_follow_X6_remove : GoodIn wsX6_follow (wsV RX6 131 RX6 yX6_remove wsX6_remove) := goodIn_app (goodIn_of _ (by decide +kernel)) ggX6_follow_X6_remove
set_option maxRecDepth 20000 in
theorem ggX6_follow_X6_insert : GoodIn wsX6_follow wsX6_insert := goodIn_r _ [53, 12, 4, 54, 55, 56, 57, 58, 59, 60, 61, 62, 63, 64, 65, 66, 67, 68, 69, 70, 71, 72, 73, 74, 75, 76, 77, 78, 79, 80, 81, 82, 83, 84, 85, 86] (by decide +kernel) (by decide +kernel)
set_option maxRecDepth 20000 in
theorem gX6_follow_X6_insert : GoodIn wsX6_follow (wsV RX6 127 RX6 yX6_insert wsX6_insert) := goodIn_app (goodIn_of _ (by decide +kernel)) ggX6_follow_X6_insert
set_option maxRecDepth 20000 in
theorem ggX6_follow_X6_placeOf : GoodIn wsX6_follow wsX6_placeOf := goodIn_r _ [38, 12, 4, 54, 55, 56, 57, 58, 59, 60, 61, 62, 63, 64, 65, 66, 67, 68, 69, 70, 71, 72, 73, 74, 75, 76, 77, 78, 79, 80, 81, 82, 83, 84, 85, 86] (by decide +kernel) (by decide +kernel)
set_option maxRecDepth 20000 in
theorem gX6_follow_X6_placeOf : GoodIn wsX6_follow (wsV RX6 123 RX6 yX6_placeOf wsX6_placeOf) := goodIn_app (goodIn_of _ (by decide +kernel)) ggX6_follow_X6_placeOf
set_option maxRecDepth 20000 in
theorem ggX6_follow_X6_markOf : GoodIn wsX6_follow wsX6_markOf := goodIn_r _ [21, 14, 22, 23, 12, 13, 4, 24, 25, 26, 10, 27, 28, 29, 30, 16, 31, 32, 33, 34, 17, 5, 35, 36, 37, 38, 39, 40, 41, 54, 55, 56, 57, 58, 59, 60, 61, 62, 63, 64, 65, 66, 67, 68, 69, 70, 71, 72, 73, 74, 75, 76, 77, 78, 79, 80, 81, 82, 83, 84, 85, 86] (by decide +kernel) (by decide +kernel)
set_option maxRecDepth 20000 in
theorem gX6_follow_X6_markOf : GoodIn wsX6_follow (wsV RX6 160 RX6 yX6_markOf wsX6_markOf) := goodIn_app (goodIn_of _ (by decide +kernel)) ggX6_follow_X6_markOf
theorem dX6_follow_0 : decode cX6_follow 0 = .ok (.aload_n 0, 1) := by decide +kernel
theorem dX6_follow_1 : decode cX6_follow 1 = .ok (.invokevirtual 176, 3) := by decide +kernel
theorem dX6_follow_4 : decode cX6_follow 4 = .ok (.aload_n 0, 1) := by decide +kernel
theorem dX6_follow_5 : decode cX6_follow 5 = .ok (.getfield 164, 3) := by decide +kernel
theorem dX6_follow_8 : decode cX6_follow 8 = .ok (.iconst (-1), 1) := by decide +kernel
theorem dX6_follow_9 : decode cX6_follow 9 = .ok (.if_icmp .ne 5, 3) := by decide +kernel
theorem dX6_follow_12 : decode cX6_follow 12 = .ok (.iconst (-1), 1) := by decide +kernel
theorem dX6_follow_13 : decode cX6_follow 13 = .ok (.ireturn, 1) := by decide +kernel
theorem dX6_follow_14 : decode cX6_follow 14 = .ok (.aload_n 0, 1) := by decide +kernel
theorem dX6_follow_15 : decode cX6_follow 15 = .ok (.dup, 1) := by decide +kernel
theorem dX6_follow_16 : decode cX6_follow 16 = .ok (.getfield 179, 3) := by decide +kernel
theorem dX6_follow_19 : decode cX6_follow 19 = .ok (.iconst 1, 1) := by decide +kernel
theorem dX6_follow_20 : decode cX6_follow 20 = .ok (.iadd, 1) := by decide +kernel
theorem dX6_follow_21 : decode cX6_follow 21 = .ok (.putfield 179, 3) := by decide +kernel
theorem dX6_follow_24 : decode cX6_follow 24 = .ok (.aload_n 0, 1) := by decide +kernel
theorem dX6_follow_25 : decode cX6_follow 25 = .ok (.getfield 164, 3) := by decide +kernel
theorem dX6_follow_28 : decode cX6_follow 28 = .ok (.ifCond .ne 15, 3) := by decide +kernel
theorem dX6_follow_31 : decode cX6_follow 31 = .ok (.aload_n 0, 1) := by decide +kernel
theorem dX6_follow_32 : decode cX6_follow 32 = .ok (.aload_n 0, 1) := by decide +kernel
theorem dX6_follow_33 : decode cX6_follow 33 = .ok (.getfield 170, 3) := by decide +kernel
theorem dX6_follow_36 : decode cX6_follow 36 = .ok (.invokevirtual 131, 3) := by decide +kernel
theorem dX6_follow_39 : decode cX6_follow 39 = .ok (.pop, 1) := by decide +kernel
theorem dX6_follow_40 : decode cX6_follow 40 = .ok (.goto 80, 3) := by decide +kernel
theorem dX6_follow_43 : decode cX6_follow 43 = .ok (.aload_n 0, 1) := by decide +kernel
theorem dX6_follow_44 : decode cX6_follow 44 = .ok (.getfield 164, 3) := by decide +kernel
theorem dX6_follow_47 : decode cX6_follow 47 = .ok (.iconst 3, 1) := by decide +kernel
theorem dX6_follow_48 : decode cX6_follow 48 = .ok (.if_icmp .ne 24, 3) := by decide +kernel
theorem dX6_follow_51 : decode cX6_follow 51 = .ok (.aload_n 0, 1) := by decide +kernel
theorem dX6_follow_52 : decode cX6_follow 52 = .ok (.getfield 44, 3) := by decide +kernel
theorem dX6_follow_55 : decode cX6_follow 55 = .ok (.aload_n 0, 1) := by decide +kernel
theorem dX6_follow_56 : decode cX6_follow 56 = .ok (.getfield 170, 3) := by decide +kernel
theorem dX6_follow_59 : decode cX6_follow 59 = .ok (.aload_n 0, 1) := by decide +kernel
theorem dX6_follow_60 : decode cX6_follow 60 = .ok (.getfield 22, 3) := by decide +kernel
theorem dX6_follow_63 : decode cX6_follow 63 = .ok (.aload_n 0, 1) := by decide +kernel
theorem dX6_follow_64 : decode cX6_follow 64 = .ok (.getfield 167, 3) := by decide +kernel
theorem dX6_follow_67 : decode cX6_follow 67 = .ok (.iaload, 1) := by decide +kernel
theorem dX6_follow_68 : decode cX6_follow 68 = .ok (.iastore, 1) := by decide +kernel
theorem dX6_follow_69 : decode cX6_follow 69 = .ok (.goto 51, 3) := by decide +kernel
theorem dX6_follow_72 : decode cX6_follow 72 = .ok (.aload_n 0, 1) := by decide +kernel
theorem dX6_follow_73 : decode cX6_follow 73 = .ok (.getfield 164, 3) := by decide +kernel
theorem dX6_follow_76 : decode cX6_follow 76 = .ok (.iconst 1, 1) := by decide +kernel
theorem dX6_follow_77 : decode cX6_follow 77 = .ok (.if_icmp .ne 18, 3) := by decide +kernel
theorem dX6_follow_80 : decode cX6_follow 80 = .ok (.aload_n 0, 1) := by decide +kernel
theorem dX6_follow_81 : decode cX6_follow 81 = .ok (.aload_n 0, 1) := by decide +kernel
theorem dX6_follow_82 : decode cX6_follow 82 = .ok (.getfield 167, 3) := by decide +kernel
theorem dX6_follow_85 : decode cX6_follow 85 = .ok (.aload_n 0, 1) := by decide +kernel
theorem dX6_follow_86 : decode cX6_follow 86 = .ok (.getfield 170, 3) := by decide +kernel
theorem dX6_follow_89 : decode cX6_follow 89 = .ok (.invokevirtual 127, 3) := by decide +kernel
theorem dX6_follow_92 : decode cX6_follow 92 = .ok (.goto 28, 3) := by decide +kernel
theorem dX6_follow_95 : decode cX6_follow 95 = .ok (.aload_n 0, 1) := by decide +kernel
theorem dX6_follow_96 : decode cX6_follow 96 = .ok (.aload_n 0, 1) := by decide +kernel
theorem dX6_follow_97 : decode cX6_follow 97 = .ok (.aload_n 0, 1) := by decide +kernel
theorem dX6_follow_98 : decode cX6_follow 98 = .ok (.getfield 167, 3) := by decide +kernel
theorem dX6_follow_101 : decode cX6_follow 101 = .ok (.invokevirtual 123, 3) := by decide +kernel
theorem dX6_follow_104 : decode cX6_follow 104 = .ok (.invokevirtual 131, 3) := by decide +kernel
theorem dX6_follow_107 : decode cX6_follow 107 = .ok (.pop, 1) := by decide +kernel
theorem dX6_follow_108 : decode cX6_follow 108 = .ok (.aload_n 0, 1) := by decide +kernel
theorem dX6_follow_109 : decode cX6_follow 109 = .ok (.aload_n 0, 1) := by decide +kernel
theorem dX6_follow_110 : decode cX6_follow 110 = .ok (.getfield 167, 3) := by decide +kernel
theorem dX6_follow_113 : decode cX6_follow 113 = .ok (.aload_n 0, 1) := by decide +kernel
theorem dX6_follow_114 : decode cX6_follow 114 = .ok (.getfield 170, 3) := by decide +kernel
theorem dX6_follow_117 : decode cX6_follow 117 = .ok (.invokevirtual 127, 3) := by decide +kernel
theorem dX6_follow_120 : decode cX6_follow 120 = .ok (.aload_n 0, 1) := by decide +kernel
theorem dX6_follow_121 : decode cX6_follow 121 = .ok (.invokevirtual 160, 3) := by decide +kernel
theorem dX6_follow_124 : decode cX6_follow 124 = .ok (.ireturn, 1) := by decide +kernel
set_option maxRecDepth 20000 in
theorem ggX6_count_X6_ones : GoodIn wsX6_count wsX6_ones := goodIn_r _ [10] (by decide +kernel) (by decide +kernel)
set_option maxRecDepth 20000 in
theorem gX6_count_X6_ones : GoodIn wsX6_count (va_wsS RX6 148 yX6_ones wsX6_ones) := goodIn_app (goodIn_of _ (by decide +kernel)) ggX6_count_X6_ones
set_option maxRecDepth 20000 in
theorem ggX6_count_X6_in : GoodIn wsX6_count wsX6_in := goodIn_r _ [13] (by decide +kernel) (by decide +kernel)
set_option maxRecDepth 20000 in
theorem gX6_count_X6_in : GoodIn wsX6_count (va_wsS RX6 72 yX6_in wsX6_in) := goodIn_app (goodIn_of _ (by decide +kernel)) ggX6_count_X6_in
theorem dX6_count_0 : decode cX6_count 0 = .ok (.iconst 0, 1) := by decide +kernel
theorem dX6_count_1 : decode cX6_count 1 = .ok (.istore_n 2, 1) := by decide +kernel
theorem dX6_count_2 : decode cX6_count 2 = .ok (.iload_n 1, 1) := by decide +kernel
theorem dX6_count_3 : decode cX6_count 3 = .ok (.tableswitch 86 0 6 #[41, 86, 86, 86, 46, 51, 81], 41) := by decide +kernel
theorem dX6_count_44 : decode cX6_count 44 = .ok (.aload_n 0, 1) := by decide +kernel
theorem dX6_count_45 : decode cX6_count 45 = .ok (.getfield 68, 3) := by decide +kernel
theorem dX6_count_48 : decode cX6_count 48 = .ok (.ireturn, 1) := by decide +kernel
theorem dX6_count_49 : decode cX6_count 49 = .ok (.aload_n 0, 1) := by decide +kernel
theorem dX6_count_50 : decode cX6_count 50 = .ok (.getfield 96, 3) := by decide +kernel
theorem dX6_count_53 : decode cX6_count 53 = .ok (.ireturn, 1) := by decide +kernel
theorem dX6_count_54 : decode cX6_count 54 = .ok (.iconst 0, 1) := by decide +kernel
theorem dX6_count_55 : decode cX6_count 55 = .ok (.istore_n 3, 1) := by decide +kernel
theorem dX6_count_56 : decode cX6_count 56 = .ok (.iload_n 3, 1) := by decide +kernel
theorem dX6_count_57 : decode cX6_count 57 = .ok (.aload_n 0, 1) := by decide +kernel
theorem dX6_count_58 : decode cX6_count 58 = .ok (.getfield 82, 3) := by decide +kernel
theorem dX6_count_61 : decode cX6_count 61 = .ok (.if_icmp .ge 21, 3) := by decide +kernel
theorem dX6_count_64 : decode cX6_count 64 = .ok (.iload_n 2, 1) := by decide +kernel
theorem dX6_count_65 : decode cX6_count 65 = .ok (.aload_n 0, 1) := by decide +kernel
theorem dX6_count_66 : decode cX6_count 66 = .ok (.getfield 31, 3) := by decide +kernel
theorem dX6_count_69 : decode cX6_count 69 = .ok (.iload_n 3, 1) := by decide +kernel
theorem dX6_count_70 : decode cX6_count 70 = .ok (.iaload, 1) := by decide +kernel
theorem dX6_count_71 : decode cX6_count 71 = .ok (.invokestatic 148, 3) := by decide +kernel
theorem dX6_count_74 : decode cX6_count 74 = .ok (.iadd, 1) := by decide +kernel
theorem dX6_count_75 : decode cX6_count 75 = .ok (.istore_n 2, 1) := by decide +kernel
theorem dX6_count_76 : decode cX6_count 76 = .ok (.iinc 3 1, 3) := by decide +kernel
theorem dX6_count_79 : decode cX6_count 79 = .ok (.goto (-23), 3) := by decide +kernel
theorem dX6_count_82 : decode cX6_count 82 = .ok (.iload_n 2, 1) := by decide +kernel
theorem dX6_count_83 : decode cX6_count 83 = .ok (.ireturn, 1) := by decide +kernel
theorem dX6_count_84 : decode cX6_count 84 = .ok (.aload_n 0, 1) := by decide +kernel
theorem dX6_count_85 : decode cX6_count 85 = .ok (.getfield 179, 3) := by decide +kernel
theorem dX6_count_88 : decode cX6_count 88 = .ok (.ireturn, 1) := by decide +kernel
theorem dX6_count_89 : decode cX6_count 89 = .ok (.iload_n 1, 1) := by decide +kernel
theorem dX6_count_90 : decode cX6_count 90 = .ok (.iconst 1, 1) := by decide +kernel
theorem dX6_count_91 : decode cX6_count 91 = .ok (.iconst 3, 1) := by decide +kernel
theorem dX6_count_92 : decode cX6_count 92 = .ok (.invokestatic 72, 3) := by decide +kernel
theorem dX6_count_95 : decode cX6_count 95 = .ok (.ifCond .ne 6, 3) := by decide +kernel
theorem dX6_count_98 : decode cX6_count 98 = .ok (.bipush (-102), 2) := by decide +kernel
theorem dX6_count_100 : decode cX6_count 100 = .ok (.ireturn, 1) := by decide +kernel
theorem dX6_count_101 : decode cX6_count 101 = .ok (.iconst 0, 1) := by decide +kernel
theorem dX6_count_102 : decode cX6_count 102 = .ok (.istore_n 3, 1) := by decide +kernel
theorem dX6_count_103 : decode cX6_count 103 = .ok (.iload_n 3, 1) := by decide +kernel
theorem dX6_count_104 : decode cX6_count 104 = .ok (.aload_n 0, 1) := by decide +kernel
theorem dX6_count_105 : decode cX6_count 105 = .ok (.getfield 68, 3) := by decide +kernel
theorem dX6_count_108 : decode cX6_count 108 = .ok (.if_icmp .ge 29, 3) := by decide +kernel
theorem dX6_count_111 : decode cX6_count 111 = .ok (.iload_n 2, 1) := by decide +kernel
theorem dX6_count_112 : decode cX6_count 112 = .ok (.aload_n 0, 1) := by decide +kernel
theorem dX6_count_113 : decode cX6_count 113 = .ok (.getfield 19, 3) := by decide +kernel
theorem dX6_count_116 : decode cX6_count 116 = .ok (.iload_n 3, 1) := by decide +kernel
theorem dX6_count_117 : decode cX6_count 117 = .ok (.iaload, 1) := by decide +kernel
theorem dX6_count_118 : decode cX6_count 118 = .ok (.iload_n 1, 1) := by decide +kernel
theorem dX6_count_119 : decode cX6_count 119 = .ok (.iconst 1, 1) := by decide +kernel
theorem dX6_count_120 : decode cX6_count 120 = .ok (.isub, 1) := by decide +kernel
theorem dX6_count_121 : decode cX6_count 121 = .ok (.if_icmp .ne 7, 3) := by decide +kernel
theorem dX6_count_124 : decode cX6_count 124 = .ok (.iconst 1, 1) := by decide +kernel
theorem dX6_count_125 : decode cX6_count 125 = .ok (.goto 4, 3) := by decide +kernel
theorem dX6_count_128 : decode cX6_count 128 = .ok (.iconst 0, 1) := by decide +kernel
theorem dX6_count_129 : decode cX6_count 129 = .ok (.iadd, 1) := by decide +kernel
theorem dX6_count_130 : decode cX6_count 130 = .ok (.istore_n 2, 1) := by decide +kernel
theorem dX6_count_131 : decode cX6_count 131 = .ok (.iinc 3 1, 3) := by decide +kernel
theorem dX6_count_134 : decode cX6_count 134 = .ok (.goto (-31), 3) := by decide +kernel
theorem dX6_count_137 : decode cX6_count 137 = .ok (.iload_n 2, 1) := by decide +kernel
theorem dX6_count_138 : decode cX6_count 138 = .ok (.ireturn, 1) := by decide +kernel
theorem dX6_mix_0 : decode cX6_mix 0 = .ok (.aload_n 0, 1) := by decide +kernel
theorem dX6_mix_1 : decode cX6_mix 1 = .ok (.ldc2_w 182, 3) := by decide +kernel
theorem dX6_mix_4 : decode cX6_mix 4 = .ok (.aload_n 0, 1) := by decide +kernel
theorem dX6_mix_5 : decode cX6_mix 5 = .ok (.getfield 184, 3) := by decide +kernel
theorem dX6_mix_8 : decode cX6_mix 8 = .ok (.lmul, 1) := by decide +kernel
theorem dX6_mix_9 : decode cX6_mix 9 = .ok (.lload_n 1, 1) := by decide +kernel
theorem dX6_mix_10 : decode cX6_mix 10 = .ok (.ladd, 1) := by decide +kernel
theorem dX6_mix_11 : decode cX6_mix 11 = .ok (.putfield 184, 3) := by decide +kernel
theorem dX6_mix_14 : decode cX6_mix 14 = .ok (.return_, 1) := by decide +kernel
set_option maxRecDepth 20000 in
theorem ggX6_digest_X6_told : GoodIn wsX6_digest wsX6_told := goodIn_r _ [13, 14, 15, 16, 17, 18, 19, 20, 21, 12, 22, 3, 23, 24, 25, 31, 32, 33, 34, 35, 36, 37, 38, 39, 40, 41, 42, 43, 44, 45, 46, 47, 48, 49, 50, 51, 52, 53, 54, 55, 56, 57, 58, 59, 60, 61, 62, 63] (by decide +kernel) (by decide +kernel)
set_option maxRecDepth 20000 in
theorem gX6_digest_X6_told : GoodIn wsX6_digest (wsV RX6 190 RX6 yX6_told wsX6_told) := goodIn_app (goodIn_of _ (by decide +kernel)) ggX6_digest_X6_told
set_option maxRecDepth 20000 in
theorem ggX6_digest_X6_mix : GoodIn wsX6_digest wsX6_mix := goodIn_r _ [29, 30, 2, 31, 32, 33, 34, 35, 36, 37, 38, 39, 40, 41, 42, 43, 44, 45, 46, 47, 48, 49, 50, 51, 52, 53, 54, 55, 56, 57, 58, 59, 60, 61, 62, 63] (by decide +kernel) (by decide +kernel)
set_option maxRecDepth 20000 in
theorem gX6_digest_X6_mix : GoodIn wsX6_digest (wsV RX6 193 RX6 yX6_mix wsX6_mix) := goodIn_app (goodIn_of _ (by decide +kernel)) ggX6_digest_X6_mix
theorem dX6_digest_0 : decode cX6_digest 0 = .ok (.aload_n 0, 1) := by decide +kernel
theorem dX6_digest_1 : decode cX6_digest 1 = .ok (.ldc2_w 188, 3) := by decide +kernel
theorem dX6_digest_4 : decode cX6_digest 4 = .ok (.putfield 184, 3) := by decide +kernel
theorem dX6_digest_7 : decode cX6_digest 7 = .ok (.iconst 0, 1) := by decide +kernel
theorem dX6_digest_8 : decode cX6_digest 8 = .ok (.istore_n 1, 1) := by decide +kernel
theorem dX6_digest_9 : decode cX6_digest 9 = .ok (.iload_n 1, 1) := by decide +kernel
theorem dX6_digest_10 : decode cX6_digest 10 = .ok (.aload_n 0, 1) := by decide +kernel
theorem dX6_digest_11 : decode cX6_digest 11 = .ok (.getfield 68, 3) := by decide +kernel
theorem dX6_digest_14 : decode cX6_digest 14 = .ok (.if_icmp .ge 33, 3) := by decide +kernel
theorem dX6_digest_17 : decode cX6_digest 17 = .ok (.iconst 0, 1) := by decide +kernel
theorem dX6_digest_18 : decode cX6_digest 18 = .ok (.istore_n 2, 1) := by decide +kernel
theorem dX6_digest_19 : decode cX6_digest 19 = .ok (.iload_n 2, 1) := by decide +kernel
theorem dX6_digest_20 : decode cX6_digest 20 = .ok (.iconst 5, 1) := by decide +kernel
theorem dX6_digest_21 : decode cX6_digest 21 = .ok (.if_icmp .ge 20, 3) := by decide +kernel
theorem dX6_digest_24 : decode cX6_digest 24 = .ok (.aload_n 0, 1) := by decide +kernel
theorem dX6_digest_25 : decode cX6_digest 25 = .ok (.aload_n 0, 1) := by decide +kernel
theorem dX6_digest_26 : decode cX6_digest 26 = .ok (.iload_n 1, 1) := by decide +kernel
theorem dX6_digest_27 : decode cX6_digest 27 = .ok (.iload_n 2, 1) := by decide +kernel
theorem dX6_digest_28 : decode cX6_digest 28 = .ok (.invokevirtual 190, 3) := by decide +kernel
theorem dX6_digest_31 : decode cX6_digest 31 = .ok (.i2l, 1) := by decide +kernel
theorem dX6_digest_32 : decode cX6_digest 32 = .ok (.invokevirtual 193, 3) := by decide +kernel
theorem dX6_digest_35 : decode cX6_digest 35 = .ok (.iinc 2 1, 3) := by decide +kernel
theorem dX6_digest_38 : decode cX6_digest 38 = .ok (.goto (-19), 3) := by decide +kernel
theorem dX6_digest_41 : decode cX6_digest 41 = .ok (.iinc 1 1, 3) := by decide +kernel
theorem dX6_digest_44 : decode cX6_digest 44 = .ok (.goto (-35), 3) := by decide +kernel
theorem dX6_digest_47 : decode cX6_digest 47 = .ok (.iconst 0, 1) := by decide +kernel
theorem dX6_digest_48 : decode cX6_digest 48 = .ok (.istore_n 1, 1) := by decide +kernel
theorem dX6_digest_49 : decode cX6_digest 49 = .ok (.iload_n 1, 1) := by decide +kernel
theorem dX6_digest_50 : decode cX6_digest 50 = .ok (.bipush 6, 2) := by decide +kernel
theorem dX6_digest_52 : decode cX6_digest 52 = .ok (.aload_n 0, 1) := by decide +kernel
theorem dX6_digest_53 : decode cX6_digest 53 = .ok (.getfield 96, 3) := by decide +kernel
theorem dX6_digest_56 : decode cX6_digest 56 = .ok (.imul, 1) := by decide +kernel
theorem dX6_digest_57 : decode cX6_digest 57 = .ok (.if_icmp .ge 20, 3) := by decide +kernel
theorem dX6_digest_60 : decode cX6_digest 60 = .ok (.aload_n 0, 1) := by decide +kernel
theorem dX6_digest_61 : decode cX6_digest 61 = .ok (.aload_n 0, 1) := by decide +kernel
theorem dX6_digest_62 : decode cX6_digest 62 = .ok (.getfield 41, 3) := by decide +kernel
theorem dX6_digest_65 : decode cX6_digest 65 = .ok (.iload_n 1, 1) := by decide +kernel
theorem dX6_digest_66 : decode cX6_digest 66 = .ok (.iaload, 1) := by decide +kernel
theorem dX6_digest_67 : decode cX6_digest 67 = .ok (.i2l, 1) := by decide +kernel
theorem dX6_digest_68 : decode cX6_digest 68 = .ok (.invokevirtual 193, 3) := by decide +kernel
theorem dX6_digest_71 : decode cX6_digest 71 = .ok (.iinc 1 1, 3) := by decide +kernel
theorem dX6_digest_74 : decode cX6_digest 74 = .ok (.goto (-25), 3) := by decide +kernel
theorem dX6_digest_77 : decode cX6_digest 77 = .ok (.iconst 0, 1) := by decide +kernel
theorem dX6_digest_78 : decode cX6_digest 78 = .ok (.istore_n 1, 1) := by decide +kernel
theorem dX6_digest_79 : decode cX6_digest 79 = .ok (.iload_n 1, 1) := by decide +kernel
theorem dX6_digest_80 : decode cX6_digest 80 = .ok (.aload_n 0, 1) := by decide +kernel
theorem dX6_digest_81 : decode cX6_digest 81 = .ok (.getfield 79, 3) := by decide +kernel
theorem dX6_digest_84 : decode cX6_digest 84 = .ok (.if_icmp .ge 20, 3) := by decide +kernel
theorem dX6_digest_87 : decode cX6_digest 87 = .ok (.aload_n 0, 1) := by decide +kernel
theorem dX6_digest_88 : decode cX6_digest 88 = .ok (.aload_n 0, 1) := by decide +kernel
theorem dX6_digest_89 : decode cX6_digest 89 = .ok (.getfield 44, 3) := by decide +kernel
theorem dX6_digest_92 : decode cX6_digest 92 = .ok (.iload_n 1, 1) := by decide +kernel
theorem dX6_digest_93 : decode cX6_digest 93 = .ok (.iaload, 1) := by decide +kernel
theorem dX6_digest_94 : decode cX6_digest 94 = .ok (.i2l, 1) := by decide +kernel
theorem dX6_digest_95 : decode cX6_digest 95 = .ok (.invokevirtual 193, 3) := by decide +kernel
theorem dX6_digest_98 : decode cX6_digest 98 = .ok (.iinc 1 1, 3) := by decide +kernel
theorem dX6_digest_101 : decode cX6_digest 101 = .ok (.goto (-22), 3) := by decide +kernel
theorem dX6_digest_104 : decode cX6_digest 104 = .ok (.aload_n 0, 1) := by decide +kernel
theorem dX6_digest_105 : decode cX6_digest 105 = .ok (.aload_n 0, 1) := by decide +kernel
theorem dX6_digest_106 : decode cX6_digest 106 = .ok (.getfield 179, 3) := by decide +kernel
theorem dX6_digest_109 : decode cX6_digest 109 = .ok (.i2l, 1) := by decide +kernel
theorem dX6_digest_110 : decode cX6_digest 110 = .ok (.invokevirtual 193, 3) := by decide +kernel
theorem dX6_digest_113 : decode cX6_digest 113 = .ok (.aload_n 0, 1) := by decide +kernel
theorem dX6_digest_114 : decode cX6_digest 114 = .ok (.getfield 184, 3) := by decide +kernel
theorem dX6_digest_117 : decode cX6_digest 117 = .ok (.lreturn, 1) := by decide +kernel
theorem dJ6_bitCount_0f7a4_0 : decode cJ6_bitCount_0f7a4 0 = .ok (.iload_n 0, 1) := by decide +kernel
theorem dJ6_bitCount_0f7a4_1 : decode cJ6_bitCount_0f7a4 1 = .ok (.iload_n 0, 1) := by decide +kernel
theorem dJ6_bitCount_0f7a4_2 : decode cJ6_bitCount_0f7a4 2 = .ok (.iconst 1, 1) := by decide +kernel
theorem dJ6_bitCount_0f7a4_3 : decode cJ6_bitCount_0f7a4 3 = .ok (.iushr, 1) := by decide +kernel
theorem dJ6_bitCount_0f7a4_4 : decode cJ6_bitCount_0f7a4 4 = .ok (.ldc_w 265, 3) := by decide +kernel
theorem dJ6_bitCount_0f7a4_7 : decode cJ6_bitCount_0f7a4 7 = .ok (.iand, 1) := by decide +kernel
theorem dJ6_bitCount_0f7a4_8 : decode cJ6_bitCount_0f7a4 8 = .ok (.isub, 1) := by decide +kernel
theorem dJ6_bitCount_0f7a4_9 : decode cJ6_bitCount_0f7a4 9 = .ok (.istore_n 0, 1) := by decide +kernel
theorem dJ6_bitCount_0f7a4_10 : decode cJ6_bitCount_0f7a4 10 = .ok (.iload_n 0, 1) := by decide +kernel
theorem dJ6_bitCount_0f7a4_11 : decode cJ6_bitCount_0f7a4 11 = .ok (.ldc_w 266, 3) := by decide +kernel
theorem dJ6_bitCount_0f7a4_14 : decode cJ6_bitCount_0f7a4 14 = .ok (.iand, 1) := by decide +kernel
theorem dJ6_bitCount_0f7a4_15 : decode cJ6_bitCount_0f7a4 15 = .ok (.iload_n 0, 1) := by decide +kernel
theorem dJ6_bitCount_0f7a4_16 : decode cJ6_bitCount_0f7a4 16 = .ok (.iconst 2, 1) := by decide +kernel
theorem dJ6_bitCount_0f7a4_17 : decode cJ6_bitCount_0f7a4 17 = .ok (.iushr, 1) := by decide +kernel
theorem dJ6_bitCount_0f7a4_18 : decode cJ6_bitCount_0f7a4 18 = .ok (.ldc_w 266, 3) := by decide +kernel
theorem dJ6_bitCount_0f7a4_21 : decode cJ6_bitCount_0f7a4 21 = .ok (.iand, 1) := by decide +kernel
theorem dJ6_bitCount_0f7a4_22 : decode cJ6_bitCount_0f7a4 22 = .ok (.iadd, 1) := by decide +kernel
theorem dJ6_bitCount_0f7a4_23 : decode cJ6_bitCount_0f7a4 23 = .ok (.istore_n 0, 1) := by decide +kernel
theorem dJ6_bitCount_0f7a4_24 : decode cJ6_bitCount_0f7a4 24 = .ok (.iload_n 0, 1) := by decide +kernel
theorem dJ6_bitCount_0f7a4_25 : decode cJ6_bitCount_0f7a4 25 = .ok (.iload_n 0, 1) := by decide +kernel
theorem dJ6_bitCount_0f7a4_26 : decode cJ6_bitCount_0f7a4 26 = .ok (.iconst 4, 1) := by decide +kernel
theorem dJ6_bitCount_0f7a4_27 : decode cJ6_bitCount_0f7a4 27 = .ok (.iushr, 1) := by decide +kernel
theorem dJ6_bitCount_0f7a4_28 : decode cJ6_bitCount_0f7a4 28 = .ok (.iadd, 1) := by decide +kernel
theorem dJ6_bitCount_0f7a4_29 : decode cJ6_bitCount_0f7a4 29 = .ok (.ldc_w 267, 3) := by decide +kernel
theorem dJ6_bitCount_0f7a4_32 : decode cJ6_bitCount_0f7a4 32 = .ok (.iand, 1) := by decide +kernel
theorem dJ6_bitCount_0f7a4_33 : decode cJ6_bitCount_0f7a4 33 = .ok (.istore_n 0, 1) := by decide +kernel
theorem dJ6_bitCount_0f7a4_34 : decode cJ6_bitCount_0f7a4 34 = .ok (.iload_n 0, 1) := by decide +kernel
theorem dJ6_bitCount_0f7a4_35 : decode cJ6_bitCount_0f7a4 35 = .ok (.iload_n 0, 1) := by decide +kernel
theorem dJ6_bitCount_0f7a4_36 : decode cJ6_bitCount_0f7a4 36 = .ok (.bipush 8, 2) := by decide +kernel
theorem dJ6_bitCount_0f7a4_38 : decode cJ6_bitCount_0f7a4 38 = .ok (.iushr, 1) := by decide +kernel
theorem dJ6_bitCount_0f7a4_39 : decode cJ6_bitCount_0f7a4 39 = .ok (.iadd, 1) := by decide +kernel
theorem dJ6_bitCount_0f7a4_40 : decode cJ6_bitCount_0f7a4 40 = .ok (.istore_n 0, 1) := by decide +kernel
theorem dJ6_bitCount_0f7a4_41 : decode cJ6_bitCount_0f7a4 41 = .ok (.iload_n 0, 1) := by decide +kernel
theorem dJ6_bitCount_0f7a4_42 : decode cJ6_bitCount_0f7a4 42 = .ok (.iload_n 0, 1) := by decide +kernel
theorem dJ6_bitCount_0f7a4_43 : decode cJ6_bitCount_0f7a4 43 = .ok (.bipush 16, 2) := by decide +kernel
theorem dJ6_bitCount_0f7a4_45 : decode cJ6_bitCount_0f7a4 45 = .ok (.iushr, 1) := by decide +kernel
theorem dJ6_bitCount_0f7a4_46 : decode cJ6_bitCount_0f7a4 46 = .ok (.iadd, 1) := by decide +kernel
theorem dJ6_bitCount_0f7a4_47 : decode cJ6_bitCount_0f7a4 47 = .ok (.istore_n 0, 1) := by decide +kernel
theorem dJ6_bitCount_0f7a4_48 : decode cJ6_bitCount_0f7a4 48 = .ok (.iload_n 0, 1) := by decide +kernel
theorem dJ6_bitCount_0f7a4_49 : decode cJ6_bitCount_0f7a4 49 = .ok (.bipush 63, 2) := by decide +kernel
theorem dJ6_bitCount_0f7a4_51 : decode cJ6_bitCount_0f7a4 51 = .ok (.iand, 1) := by decide +kernel
theorem dJ6_bitCount_0f7a4_52 : decode cJ6_bitCount_0f7a4 52 = .ok (.ireturn, 1) := by decide +kernel
theorem dJ9_max_7cf53_0 : decode cJ9_max_7cf53 0 = .ok (.iload_n 0, 1) := by decide +kernel
theorem dJ9_max_7cf53_1 : decode cJ9_max_7cf53 1 = .ok (.iload_n 1, 1) := by decide +kernel
theorem dJ9_max_7cf53_2 : decode cJ9_max_7cf53 2 = .ok (.if_icmp .lt 7, 3) := by decide +kernel
theorem dJ9_max_7cf53_5 : decode cJ9_max_7cf53 5 = .ok (.iload_n 0, 1) := by decide +kernel
theorem dJ9_max_7cf53_6 : decode cJ9_max_7cf53 6 = .ok (.goto 4, 3) := by decide +kernel
theorem dJ9_max_7cf53_9 : decode cJ9_max_7cf53 9 = .ok (.iload_n 1, 1) := by decide +kernel
theorem dJ9_max_7cf53_10 : decode cJ9_max_7cf53 10 = .ok (.ireturn, 1) := by decide +kernel
theorem dJ7_fill_53178_0 : decode cJ7_fill_53178 0 = .ok (.iconst 0, 1) := by decide +kernel
theorem dJ7_fill_53178_1 : decode cJ7_fill_53178 1 = .ok (.istore_n 2, 1) := by decide +kernel
theorem dJ7_fill_53178_2 : decode cJ7_fill_53178 2 = .ok (.aload_n 0, 1) := by decide +kernel
theorem dJ7_fill_53178_3 : decode cJ7_fill_53178 3 = .ok (.arraylength, 1) := by decide +kernel
theorem dJ7_fill_53178_4 : decode cJ7_fill_53178 4 = .ok (.istore_n 3, 1) := by decide +kernel
theorem dJ7_fill_53178_5 : decode cJ7_fill_53178 5 = .ok (.iload_n 2, 1) := by decide +kernel
theorem dJ7_fill_53178_6 : decode cJ7_fill_53178 6 = .ok (.iload_n 3, 1) := by decide +kernel
theorem dJ7_fill_53178_7 : decode cJ7_fill_53178 7 = .ok (.if_icmp .ge 13, 3) := by decide +kernel
theorem dJ7_fill_53178_10 : decode cJ7_fill_53178 10 = .ok (.aload_n 0, 1) := by decide +kernel
theorem dJ7_fill_53178_11 : decode cJ7_fill_53178 11 = .ok (.iload_n 2, 1) := by decide +kernel
theorem dJ7_fill_53178_12 : decode cJ7_fill_53178 12 = .ok (.iload_n 1, 1) := by decide +kernel
theorem dJ7_fill_53178_13 : decode cJ7_fill_53178 13 = .ok (.iastore, 1) := by decide +kernel
theorem dJ7_fill_53178_14 : decode cJ7_fill_53178 14 = .ok (.iinc 2 1, 3) := by decide +kernel
theorem dJ7_fill_53178_17 : decode cJ7_fill_53178 17 = .ok (.goto (-12), 3) := by decide +kernel
theorem dJ7_fill_53178_20 : decode cJ7_fill_53178 20 = .ok (.return_, 1) := by decide +kernel
abbrev vwCl : List vw_C := [(RX0, TX0, 2), (RX1, TX1, 6), (RX2, TX2, 3), (RX3, TX3, 10), (RX4, TX4, 6), (RX5, TX5, 10), (RX6, TX6, 33)]
