theorem dX7_about_143 : decode cX7_about 143 = .ok (.goto 4, 3) := by decide +kernel
theorem dX7_about_146 : decode cX7_about 146 = .ok (.iconst 0, 1) := by decide +kernel
theorem dX7_about_147 : decode cX7_about 147 = .ok (.ireturn, 1) := by decide +kernel
theorem dX7_about_148 : decode cX7_about 148 = .ok (.iconst (-1), 1) := by decide +kernel
theorem dX7_about_149 : decode cX7_about 149 = .ok (.ireturn, 1) := by decide +kernel
set_option maxRecDepth 20000 in
theorem ggX7_price_X7_isPlan : GoodIn wsX7_price wsX7_isPlan := goodIn_r _ [12, 13, 93, 94, 95, 96, 97, 98, 99, 100, 101, 102, 103, 104, 105, 106, 107, 108, 109, 110, 111, 112, 113, 114, 115, 116, 117, 118, 119, 120, 121, 122, 123, 124, 125, 126, 127, 128, 129, 130, 131, 132] (by decide +kernel) (by decide +kernel)
set_option maxRecDepth 20000 in
theorem gX7_price_X7_isPlan : GoodIn wsX7_price (wsV RX7 210 RX7 yX7_isPlan wsX7_isPlan) := goodIn_app (goodIn_of _ (by decide +kernel)) ggX7_price_X7_isPlan
set_option maxRecDepth 20000 in
theorem ggX7_price_X7_list : GoodIn wsX7_price wsX7_list := goodIn_r _ [17, 18, 19, 20, 21, 22, 23, 24, 25, 11, 26, 27, 28, 29, 30, 31, 32, 33, 4, 5, 34, 35, 36, 37, 38, 39, 40, 41, 42, 43, 44, 45, 46, 47, 48, 6, 7, 49, 50, 51, 52, 53, 54, 55, 56, 57, 58, 59, 60, 61, 62, 63, 64, 65, 66, 67, 68, 69, 70, 71, 72, 73, 74, 75, 76, 77, 78, 79, 80, 81, 82, 83, 84, 85, 86, 87, 88, 93, 94, 95, 96, 97, 98, 99, 100, 101, 102, 103, 104, 105, 106, 107, 108, 109, 110, 111, 112, 113, 114, 115, 116, 117, 118, 119, 120, 121, 122, 123, 124, 125, 126, 127, 128, 129, 130, 131, 132] (by decide +kernel) (by decide +kernel)
set_option maxRecDepth 20000 in
theorem gX7_price_X7_list : GoodIn wsX7_price (wsV RX7 213 RX7 yX7_list wsX7_list) := goodIn_app (goodIn_of _ (by decide +kernel)) ggX7_price_X7_list
set_option maxRecDepth 20000 in
theorem ggX7_price_X7_find : GoodIn wsX7_price wsX7_find := goodIn_r _ [92, 19, 31, 93, 94, 95, 96, 97, 98, 99, 100, 101, 102, 103, 104, 105, 106, 107, 108, 109, 110, 111, 112, 113, 114, 115, 116, 117, 118, 119, 120, 121, 122, 123, 124, 125, 126, 127, 128, 129, 130, 131, 132] (by decide +kernel) (by decide +kernel)
set_option maxRecDepth 20000 in
theorem gX7_price_X7_find : GoodIn wsX7_price (wsV RX7 216 RX7 yX7_find wsX7_find) := goodIn_app (goodIn_of _ (by decide +kernel)) ggX7_price_X7_find
set_option maxRecDepth 20000 in
theorem ggX7_price_X7_size : GoodIn wsX7_price wsX7_size := goodIn_r _ [58, 20, 22, 38, 43, 44, 59, 60, 6, 7, 93, 94, 95, 96, 97, 98, 99, 100, 101, 102, 103, 104, 105, 106, 107, 108, 109, 110, 111, 112, 113, 114, 115, 116, 117, 118, 119, 120, 121, 122, 123, 124, 125, 126, 127, 128, 129, 130, 131, 132] (by decide +kernel) (by decide +kernel)
set_option maxRecDepth 20000 in
theorem gX7_price_X7_size : GoodIn wsX7_price (wsV RX7 156 RX7 yX7_size wsX7_size) := goodIn_app (goodIn_of _ (by decide +kernel)) ggX7_price_X7_size
theorem dX7_price_0 : decode cX7_price 0 = .ok (.aload_n 0, 1) := by decide +kernel
theorem dX7_price_1 : decode cX7_price 1 = .ok (.iload_n 1, 1) := by decide +kernel
theorem dX7_price_2 : decode cX7_price 2 = .ok (.invokevirtual 210, 3) := by decide +kernel
theorem dX7_price_5 : decode cX7_price 5 = .ok (.ifCond .eq 12, 3) := by decide +kernel
theorem dX7_price_8 : decode cX7_price 8 = .ok (.iload_n 2, 1) := by decide +kernel
theorem dX7_price_9 : decode cX7_price 9 = .ok (.ifCond .lt 8, 3) := by decide +kernel
theorem dX7_price_12 : decode cX7_price 12 = .ok (.iload_n 2, 1) := by decide +kernel
theorem dX7_price_13 : decode cX7_price 13 = .ok (.iconst 3, 1) := by decide +kernel
theorem dX7_price_14 : decode cX7_price 14 = .ok (.if_icmp .le 7, 3) := by decide +kernel
theorem dX7_price_17 : decode cX7_price 17 = .ok (.ldc2_w 222, 3) := by decide +kernel
theorem dX7_price_20 : decode cX7_price 20 = .ok (.lreturn, 1) := by decide +kernel
theorem dX7_price_21 : decode cX7_price 21 = .ok (.aload_n 0, 1) := by decide +kernel
theorem dX7_price_22 : decode cX7_price 22 = .ok (.invokevirtual 213, 3) := by decide +kernel
theorem dX7_price_25 : decode cX7_price 25 = .ok (.aload_n 0, 1) := by decide +kernel
theorem dX7_price_26 : decode cX7_price 26 = .ok (.aload_n 0, 1) := by decide +kernel
theorem dX7_price_27 : decode cX7_price 27 = .ok (.getfield 50, 3) := by decide +kernel
theorem dX7_price_30 : decode cX7_price 30 = .ok (.iload_n 1, 1) := by decide +kernel
theorem dX7_price_31 : decode cX7_price 31 = .ok (.iaload, 1) := by decide +kernel
theorem dX7_price_32 : decode cX7_price 32 = .ok (.aload_n 0, 1) := by decide +kernel
theorem dX7_price_33 : decode cX7_price 33 = .ok (.getfield 47, 3) := by decide +kernel
theorem dX7_price_36 : decode cX7_price 36 = .ok (.iload_n 1, 1) := by decide +kernel
theorem dX7_price_37 : decode cX7_price 37 = .ok (.iaload, 1) := by decide +kernel
theorem dX7_price_38 : decode cX7_price 38 = .ok (.invokevirtual 216, 3) := by decide +kernel
theorem dX7_price_41 : decode cX7_price 41 = .ok (.istore_n 3, 1) := by decide +kernel
theorem dX7_price_42 : decode cX7_price 42 = .ok (.iload_n 2, 1) := by decide +kernel
theorem dX7_price_43 : decode cX7_price 43 = .ok (.ifCond .ne 10, 3) := by decide +kernel
theorem dX7_price_46 : decode cX7_price 46 = .ok (.aload_n 0, 1) := by decide +kernel
theorem dX7_price_47 : decode cX7_price 47 = .ok (.getfield 72, 3) := by decide +kernel
theorem dX7_price_50 : decode cX7_price 50 = .ok (.iload_n 3, 1) := by decide +kernel
theorem dX7_price_51 : decode cX7_price 51 = .ok (.laload, 1) := by decide +kernel
theorem dX7_price_52 : decode cX7_price 52 = .ok (.lreturn, 1) := by decide +kernel
theorem dX7_price_53 : decode cX7_price 53 = .ok (.iload_n 2, 1) := by decide +kernel
theorem dX7_price_54 : decode cX7_price 54 = .ok (.iconst 1, 1) := by decide +kernel
theorem dX7_price_55 : decode cX7_price 55 = .ok (.if_icmp .ne 10, 3) := by decide +kernel
theorem dX7_price_58 : decode cX7_price 58 = .ok (.aload_n 0, 1) := by decide +kernel
theorem dX7_price_59 : decode cX7_price 59 = .ok (.getfield 76, 3) := by decide +kernel
theorem dX7_price_62 : decode cX7_price 62 = .ok (.iload_n 3, 1) := by decide +kernel
theorem dX7_price_63 : decode cX7_price 63 = .ok (.laload, 1) := by decide +kernel
theorem dX7_price_64 : decode cX7_price 64 = .ok (.lreturn, 1) := by decide +kernel
theorem dX7_price_65 : decode cX7_price 65 = .ok (.aload_n 0, 1) := by decide +kernel
theorem dX7_price_66 : decode cX7_price 66 = .ok (.aload_n 0, 1) := by decide +kernel
theorem dX7_price_67 : decode cX7_price 67 = .ok (.getfield 50, 3) := by decide +kernel
theorem dX7_price_70 : decode cX7_price 70 = .ok (.iload_n 1, 1) := by decide +kernel
theorem dX7_price_71 : decode cX7_price 71 = .ok (.iaload, 1) := by decide +kernel
theorem dX7_price_72 : decode cX7_price 72 = .ok (.invokevirtual 156, 3) := by decide +kernel
theorem dX7_price_75 : decode cX7_price 75 = .ok (.iload_n 2, 1) := by decide +kernel
theorem dX7_price_76 : decode cX7_price 76 = .ok (.iconst 2, 1) := by decide +kernel
theorem dX7_price_77 : decode cX7_price 77 = .ok (.if_icmp .ne 10, 3) := by decide +kernel
theorem dX7_price_80 : decode cX7_price 80 = .ok (.aload_n 0, 1) := by decide +kernel
theorem dX7_price_81 : decode cX7_price 81 = .ok (.getfield 53, 3) := by decide +kernel
theorem dX7_price_84 : decode cX7_price 84 = .ok (.goto 7, 3) := by decide +kernel
theorem dX7_price_87 : decode cX7_price 87 = .ok (.aload_n 0, 1) := by decide +kernel
theorem dX7_price_88 : decode cX7_price 88 = .ok (.getfield 57, 3) := by decide +kernel
theorem dX7_price_91 : decode cX7_price 91 = .ok (.lreturn, 1) := by decide +kernel
theorem dX7_at_0 : decode cX7_at 0 = .ok (.ldc2_w 224, 3) := by decide +kernel
theorem dX7_at_3 : decode cX7_at 3 = .ok (.aload_n 0, 1) := by decide +kernel
theorem dX7_at_4 : decode cX7_at 4 = .ok (.getfield 72, 3) := by decide +kernel
theorem dX7_at_7 : decode cX7_at 7 = .ok (.iload_n 1, 1) := by decide +kernel
theorem dX7_at_8 : decode cX7_at 8 = .ok (.laload, 1) := by decide +kernel
theorem dX7_at_9 : decode cX7_at 9 = .ok (.lmul, 1) := by decide +kernel
theorem dX7_at_10 : decode cX7_at 10 = .ok (.iload_n 2, 1) := by decide +kernel
theorem dX7_at_11 : decode cX7_at 11 = .ok (.i2l, 1) := by decide +kernel
theorem dX7_at_12 : decode cX7_at 12 = .ok (.aload_n 0, 1) := by decide +kernel
theorem dX7_at_13 : decode cX7_at 13 = .ok (.getfield 76, 3) := by decide +kernel
theorem dX7_at_16 : decode cX7_at 16 = .ok (.iload_n 1, 1) := by decide +kernel
theorem dX7_at_17 : decode cX7_at 17 = .ok (.laload, 1) := by decide +kernel
theorem dX7_at_18 : decode cX7_at 18 = .ok (.lmul, 1) := by decide +kernel
theorem dX7_at_19 : decode cX7_at 19 = .ok (.ladd, 1) := by decide +kernel
theorem dX7_at_20 : decode cX7_at 20 = .ok (.lreturn, 1) := by decide +kernel
set_option maxRecDepth 20000 in
theorem ggX7_bestAt_X7_all : GoodIn wsX7_bestAt wsX7_all := goodIn_r _ [8, 9, 17, 18, 19, 20, 21, 22, 23, 24, 25, 26, 27, 28, 29, 30, 31, 32, 33, 34, 35, 36, 37, 38, 39, 40, 41, 42, 43, 44, 45, 46, 47, 48, 49, 50, 51, 52, 53, 54, 55, 56] (by decide +kernel) (by decide +kernel)
set_option maxRecDepth 20000 in
theorem gX7_bestAt_X7_all : GoodIn wsX7_bestAt (wsV RX7 140 RX7 yX7_all wsX7_all) := goodIn_app (goodIn_of _ (by decide +kernel)) ggX7_bestAt_X7_all
set_option maxRecDepth 20000 in
theorem ggX7_bestAt_X7_at : GoodIn wsX7_bestAt wsX7_at := goodIn_r _ [13, 14, 15, 16, 17, 18, 19, 20, 21, 22, 23, 24, 25, 26, 27, 28, 29, 30, 31, 32, 33, 34, 35, 36, 37, 38, 39, 40, 41, 42, 43, 44, 45, 46, 47, 48, 49, 50, 51, 52, 53, 54, 55, 56] (by decide +kernel) (by decide +kernel)
set_option maxRecDepth 20000 in
theorem gX7_bestAt_X7_at : GoodIn wsX7_bestAt (wsV RX7 226 RX7 yX7_at wsX7_at) := goodIn_app (goodIn_of _ (by decide +kernel)) ggX7_bestAt_X7_at
theorem dX7_bestAt_0 : decode cX7_bestAt 0 = .ok (.aload_n 0, 1) := by decide +kernel
theorem dX7_bestAt_1 : decode cX7_bestAt 1 = .ok (.getfield 60, 3) := by decide +kernel
theorem dX7_bestAt_4 : decode cX7_bestAt 4 = .ok (.aload_n 0, 1) := by decide +kernel
theorem dX7_bestAt_5 : decode cX7_bestAt 5 = .ok (.invokevirtual 140, 3) := by decide +kernel
theorem dX7_bestAt_8 : decode cX7_bestAt 8 = .ok (.iaload, 1) := by decide +kernel
theorem dX7_bestAt_9 : decode cX7_bestAt 9 = .ok (.istore_n 2, 1) := by decide +kernel
theorem dX7_bestAt_10 : decode cX7_bestAt 10 = .ok (.iload_n 2, 1) := by decide +kernel
theorem dX7_bestAt_11 : decode cX7_bestAt 11 = .ok (.istore_n 3, 1) := by decide +kernel
theorem dX7_bestAt_12 : decode cX7_bestAt 12 = .ok (.iload_n 3, 1) := by decide +kernel
theorem dX7_bestAt_13 : decode cX7_bestAt 13 = .ok (.aload_n 0, 1) := by decide +kernel
theorem dX7_bestAt_14 : decode cX7_bestAt 14 = .ok (.getfield 79, 3) := by decide +kernel
theorem dX7_bestAt_17 : decode cX7_bestAt 17 = .ok (.if_icmp .ge 58, 3) := by decide +kernel
theorem dX7_bestAt_20 : decode cX7_bestAt 20 = .ok (.aload_n 0, 1) := by decide +kernel
theorem dX7_bestAt_21 : decode cX7_bestAt 21 = .ok (.iload_n 3, 1) := by decide +kernel
theorem dX7_bestAt_22 : decode cX7_bestAt 22 = .ok (.iload_n 1, 1) := by decide +kernel
theorem dX7_bestAt_23 : decode cX7_bestAt 23 = .ok (.invokevirtual 226, 3) := by decide +kernel
theorem dX7_bestAt_26 : decode cX7_bestAt 26 = .ok (.aload_n 0, 1) := by decide +kernel
theorem dX7_bestAt_27 : decode cX7_bestAt 27 = .ok (.iload_n 2, 1) := by decide +kernel
theorem dX7_bestAt_28 : decode cX7_bestAt 28 = .ok (.iload_n 1, 1) := by decide +kernel
theorem dX7_bestAt_29 : decode cX7_bestAt 29 = .ok (.invokevirtual 226, 3) := by decide +kernel
theorem dX7_bestAt_32 : decode cX7_bestAt 32 = .ok (.lcmp, 1) := by decide +kernel
theorem dX7_bestAt_33 : decode cX7_bestAt 33 = .ok (.ifCond .lt 34, 3) := by decide +kernel
theorem dX7_bestAt_36 : decode cX7_bestAt 36 = .ok (.aload_n 0, 1) := by decide +kernel
theorem dX7_bestAt_37 : decode cX7_bestAt 37 = .ok (.iload_n 3, 1) := by decide +kernel
theorem dX7_bestAt_38 : decode cX7_bestAt 38 = .ok (.iload_n 1, 1) := by decide +kernel
theorem dX7_bestAt_39 : decode cX7_bestAt 39 = .ok (.invokevirtual 226, 3) := by decide +kernel
theorem dX7_bestAt_42 : decode cX7_bestAt 42 = .ok (.aload_n 0, 1) := by decide +kernel
theorem dX7_bestAt_43 : decode cX7_bestAt 43 = .ok (.iload_n 2, 1) := by decide +kernel
theorem dX7_bestAt_44 : decode cX7_bestAt 44 = .ok (.iload_n 1, 1) := by decide +kernel
theorem dX7_bestAt_45 : decode cX7_bestAt 45 = .ok (.invokevirtual 226, 3) := by decide +kernel
theorem dX7_bestAt_48 : decode cX7_bestAt 48 = .ok (.lcmp, 1) := by decide +kernel
theorem dX7_bestAt_49 : decode cX7_bestAt 49 = .ok (.ifCond .ne 20, 3) := by decide +kernel
theorem dX7_bestAt_52 : decode cX7_bestAt 52 = .ok (.aload_n 0, 1) := by decide +kernel
theorem dX7_bestAt_53 : decode cX7_bestAt 53 = .ok (.getfield 63, 3) := by decide +kernel
theorem dX7_bestAt_56 : decode cX7_bestAt 56 = .ok (.iload_n 3, 1) := by decide +kernel
theorem dX7_bestAt_57 : decode cX7_bestAt 57 = .ok (.iaload, 1) := by decide +kernel
theorem dX7_bestAt_58 : decode cX7_bestAt 58 = .ok (.aload_n 0, 1) := by decide +kernel
theorem dX7_bestAt_59 : decode cX7_bestAt 59 = .ok (.getfield 63, 3) := by decide +kernel
theorem dX7_bestAt_62 : decode cX7_bestAt 62 = .ok (.iload_n 2, 1) := by decide +kernel
theorem dX7_bestAt_63 : decode cX7_bestAt 63 = .ok (.iaload, 1) := by decide +kernel
theorem dX7_bestAt_64 : decode cX7_bestAt 64 = .ok (.if_icmp .ge 5, 3) := by decide +kernel
theorem dX7_bestAt_67 : decode cX7_bestAt 67 = .ok (.iload_n 3, 1) := by decide +kernel
theorem dX7_bestAt_68 : decode cX7_bestAt 68 = .ok (.istore_n 2, 1) := by decide +kernel
theorem dX7_bestAt_69 : decode cX7_bestAt 69 = .ok (.iinc 3 1, 3) := by decide +kernel
theorem dX7_bestAt_72 : decode cX7_bestAt 72 = .ok (.goto (-60), 3) := by decide +kernel
theorem dX7_bestAt_75 : decode cX7_bestAt 75 = .ok (.iload_n 2, 1) := by decide +kernel
theorem dX7_bestAt_76 : decode cX7_bestAt 76 = .ok (.ireturn, 1) := by decide +kernel
theorem dX7_isPoint_0 : decode cX7_isPoint 0 = .ok (.iload_n 1, 1) := by decide +kernel
theorem dX7_isPoint_1 : decode cX7_isPoint 1 = .ok (.ifCond .lt 13, 3) := by decide +kernel
theorem dX7_isPoint_4 : decode cX7_isPoint 4 = .ok (.iload_n 1, 1) := by decide +kernel
theorem dX7_isPoint_5 : decode cX7_isPoint 5 = .ok (.bipush 32, 2) := by decide +kernel
theorem dX7_isPoint_7 : decode cX7_isPoint 7 = .ok (.if_icmp .gt 7, 3) := by decide +kernel
theorem dX7_isPoint_10 : decode cX7_isPoint 10 = .ok (.iconst 1, 1) := by decide +kernel
theorem dX7_isPoint_11 : decode cX7_isPoint 11 = .ok (.goto 4, 3) := by decide +kernel
theorem dX7_isPoint_14 : decode cX7_isPoint 14 = .ok (.iconst 0, 1) := by decide +kernel
theorem dX7_isPoint_15 : decode cX7_isPoint 15 = .ok (.ireturn, 1) := by decide +kernel
set_option maxRecDepth 20000 in
theorem ggX7_best_X7_isPoint : GoodIn wsX7_best wsX7_isPoint := goodIn_r _ [6] (by decide +kernel) (by decide +kernel)
set_option maxRecDepth 20000 in
theorem gX7_best_X7_isPoint : GoodIn wsX7_best (wsV RX7 230 RX7 yX7_isPoint wsX7_isPoint) := goodIn_app (goodIn_of _ (by decide +kernel)) ggX7_best_X7_isPoint
set_option maxRecDepth 20000 in
theorem ggX7_best_X7_isWhole : GoodIn wsX7_best wsX7_isWhole := goodIn_r _ [10, 11, 12, 13, 14, 15, 16, 17, 18, 5, 19, 20, 21, 22, 23, 105, 106, 107, 108, 109, 110, 111, 112, 113, 114, 115, 116, 117, 118, 119, 120, 121, 122, 123, 124, 125, 126, 127, 128, 129, 130, 131, 132, 133, 134, 135, 136, 137, 138, 139, 140, 141, 142, 143, 144] (by decide +kernel) (by decide +kernel)
set_option maxRecDepth 20000 in
theorem gX7_best_X7_isWhole : GoodIn wsX7_best (wsV RX7 203 RX7 yX7_isWhole wsX7_isWhole) := goodIn_app (goodIn_of _ (by decide +kernel)) ggX7_best_X7_isWhole
set_option maxRecDepth 20000 in
theorem ggX7_best_X7_list : GoodIn wsX7_best wsX7_list := goodIn_r _ [27, 28, 29, 11, 30, 15, 16, 17, 18, 5, 19, 31, 32, 33, 34, 1, 35, 36, 37, 38, 39, 40, 41, 42, 12, 20, 21, 22, 23, 13, 14, 43, 44, 45, 46, 47, 48, 49, 50, 51, 52, 53, 54, 55, 56, 57, 58, 59, 60, 61, 62, 63, 64, 65, 66, 67, 68, 69, 70, 71, 72, 73, 74, 75, 76, 77, 78, 79, 80, 81, 82, 83, 84, 85, 86, 87, 88, 105, 106, 107, 108, 109, 110, 111, 112, 113, 114, 115, 116, 117, 118, 119, 120, 121, 122, 123, 124, 125, 126, 127, 128, 129, 130, 131, 132, 133, 134, 135, 136, 137, 138, 139, 140, 141, 142, 143, 144] (by decide +kernel) (by decide +kernel)
set_option maxRecDepth 20000 in
theorem gX7_best_X7_list : GoodIn wsX7_best (wsV RX7 213 RX7 yX7_list wsX7_list) := goodIn_app (goodIn_of _ (by decide +kernel)) ggX7_best_X7_list
set_option maxRecDepth 20000 in
theorem ggX7_best_X7_bestAt : GoodIn wsX7_best wsX7_bestAt := goodIn_r _ [92, 29, 28, 1, 16, 17, 18, 5, 19, 11, 93, 94, 95, 96, 97, 37, 38, 105, 106, 107, 108, 109, 110, 111, 112, 113, 114, 115, 116, 117, 118, 119, 120, 121, 122, 123, 124, 125, 126, 127, 128, 129, 130, 131, 132, 133, 134, 135, 136, 137, 138, 139, 140, 141, 142, 143, 144] (by decide +kernel) (by decide +kernel)
set_option maxRecDepth 20000 in
theorem gX7_best_X7_bestAt : GoodIn wsX7_best (wsV RX7 233 RX7 yX7_bestAt wsX7_bestAt) := goodIn_app (goodIn_of _ (by decide +kernel)) ggX7_best_X7_bestAt
set_option maxRecDepth 20000 in
theorem ggX7_best_X7_all : GoodIn wsX7_best wsX7_all := goodIn_r _ [19, 11, 105, 106, 107, 108, 109, 110, 111, 112, 113, 114, 115, 116, 117, 118, 119, 120, 121, 122, 123, 124, 125, 126, 127, 128, 129, 130, 131, 132, 133, 134, 135, 136, 137, 138, 139, 140, 141, 142, 143, 144] (by decide +kernel) (by decide +kernel)
set_option maxRecDepth 20000 in
theorem gX7_best_X7_all : GoodIn wsX7_best (wsV RX7 140 RX7 yX7_all wsX7_all) := goodIn_app (goodIn_of _ (by decide +kernel)) ggX7_best_X7_all
set_option maxRecDepth 20000 in
theorem ggX7_best_X7_kept : GoodIn wsX7_best wsX7_kept := goodIn_r _ [101, 102, 103, 104, 105, 106, 107, 108, 109, 110, 111, 112, 113, 114, 115, 116, 117, 118, 119, 120, 121, 122, 123, 124, 125, 126, 127, 128, 129, 130, 131, 132, 133, 134, 135, 136, 137, 138, 139, 140, 141, 142, 143, 144] (by decide +kernel) (by decide +kernel)
set_option maxRecDepth 20000 in
theorem gX7_best_X7_kept : GoodIn wsX7_best (wsV RX7 207 RX7 yX7_kept wsX7_kept) := goodIn_app (goodIn_of _ (by decide +kernel)) ggX7_best_X7_kept
theorem dX7_best_0 : decode cX7_best 0 = .ok (.aload_n 0, 1) := by decide +kernel
theorem dX7_best_1 : decode cX7_best 1 = .ok (.iload_n 1, 1) := by decide +kernel
theorem dX7_best_2 : decode cX7_best 2 = .ok (.invokevirtual 230, 3) := by decide +kernel
theorem dX7_best_5 : decode cX7_best 5 = .ok (.ifCond .ne 5, 3) := by decide +kernel
theorem dX7_best_8 : decode cX7_best 8 = .ok (.iconst (-1), 1) := by decide +kernel
theorem dX7_best_9 : decode cX7_best 9 = .ok (.ireturn, 1) := by decide +kernel
theorem dX7_best_10 : decode cX7_best 10 = .ok (.aload_n 0, 1) := by decide +kernel
theorem dX7_best_11 : decode cX7_best 11 = .ok (.invokevirtual 203, 3) := by decide +kernel
theorem dX7_best_14 : decode cX7_best 14 = .ok (.ifCond .ne 6, 3) := by decide +kernel
theorem dX7_best_17 : decode cX7_best 17 = .ok (.bipush (-3), 2) := by decide +kernel
theorem dX7_best_19 : decode cX7_best 19 = .ok (.ireturn, 1) := by decide +kernel
theorem dX7_best_20 : decode cX7_best 20 = .ok (.aload_n 0, 1) := by decide +kernel
theorem dX7_best_21 : decode cX7_best 21 = .ok (.invokevirtual 213, 3) := by decide +kernel
theorem dX7_best_24 : decode cX7_best 24 = .ok (.aload_n 0, 1) := by decide +kernel
theorem dX7_best_25 : decode cX7_best 25 = .ok (.aload_n 0, 1) := by decide +kernel
theorem dX7_best_26 : decode cX7_best 26 = .ok (.getfield 63, 3) := by decide +kernel
theorem dX7_best_29 : decode cX7_best 29 = .ok (.aload_n 0, 1) := by decide +kernel
theorem dX7_best_30 : decode cX7_best 30 = .ok (.iload_n 1, 1) := by decide +kernel
theorem dX7_best_31 : decode cX7_best 31 = .ok (.invokevirtual 233, 3) := by decide +kernel
theorem dX7_best_34 : decode cX7_best 34 = .ok (.iaload, 1) := by decide +kernel
theorem dX7_best_35 : decode cX7_best 35 = .ok (.aload_n 0, 1) := by decide +kernel
theorem dX7_best_36 : decode cX7_best 36 = .ok (.invokevirtual 140, 3) := by decide +kernel
theorem dX7_best_39 : decode cX7_best 39 = .ok (.invokevirtual 207, 3) := by decide +kernel
theorem dX7_best_42 : decode cX7_best 42 = .ok (.ireturn, 1) := by decide +kernel
theorem dX7_divisor_0 : decode cX7_divisor 0 = .ok (.lload_n 1, 1) := by decide +kernel
theorem dX7_divisor_1 : decode cX7_divisor 1 = .ok (.lstore 5, 2) := by decide +kernel
theorem dX7_divisor_3 : decode cX7_divisor 3 = .ok (.lload_n 3, 1) := by decide +kernel
theorem dX7_divisor_4 : decode cX7_divisor 4 = .ok (.lstore 7, 2) := by decide +kernel
theorem dX7_divisor_6 : decode cX7_divisor 6 = .ok (.lload 7, 2) := by decide +kernel
theorem dX7_divisor_8 : decode cX7_divisor 8 = .ok (.lconst 0, 1) := by decide +kernel
theorem dX7_divisor_9 : decode cX7_divisor 9 = .ok (.lcmp, 1) := by decide +kernel
theorem dX7_divisor_10 : decode cX7_divisor 10 = .ok (.ifCond .eq 21, 3) := by decide +kernel
theorem dX7_divisor_13 : decode cX7_divisor 13 = .ok (.lload 5, 2) := by decide +kernel
theorem dX7_divisor_15 : decode cX7_divisor 15 = .ok (.lload 7, 2) := by decide +kernel
theorem dX7_divisor_17 : decode cX7_divisor 17 = .ok (.lrem, 1) := by decide +kernel
theorem dX7_divisor_18 : decode cX7_divisor 18 = .ok (.lstore 9, 2) := by decide +kernel
theorem dX7_divisor_20 : decode cX7_divisor 20 = .ok (.lload 7, 2) := by decide +kernel
theorem dX7_divisor_22 : decode cX7_divisor 22 = .ok (.lstore 5, 2) := by decide +kernel
theorem dX7_divisor_24 : decode cX7_divisor 24 = .ok (.lload 9, 2) := by decide +kernel
theorem dX7_divisor_26 : decode cX7_divisor 26 = .ok (.lstore 7, 2) := by decide +kernel
theorem dX7_divisor_28 : decode cX7_divisor 28 = .ok (.goto (-22), 3) := by decide +kernel
theorem dX7_divisor_31 : decode cX7_divisor 31 = .ok (.lload 5, 2) := by decide +kernel
theorem dX7_divisor_33 : decode cX7_divisor 33 = .ok (.lreturn, 1) := by decide +kernel
set_option maxRecDepth 20000 in
theorem ggX7_span_X7_list : GoodIn wsX7_span wsX7_list := goodIn_r _ [15, 3, 2, 16, 17, 18, 19, 20, 21, 14, 22, 23, 24, 25, 26, 6, 27, 28, 4, 5, 29, 30, 31, 32, 33, 34, 35, 36, 37, 38, 39, 40, 41, 42, 43, 44, 45, 46, 47, 48, 49, 50, 51, 52, 53, 54, 55, 56, 10, 57, 58, 59, 60, 61, 62, 63, 64, 65, 66, 67, 68, 69, 70, 71, 72, 73, 74, 75, 76, 77, 78, 79, 80, 81, 82, 83, 84, 89, 90, 91, 92, 93, 94, 95, 96, 97, 98, 99, 100, 101, 102, 103, 104, 105, 106, 107, 108, 109, 110, 111, 112, 113, 114, 115, 116, 117, 118, 119, 120, 121, 122, 123, 124, 125, 126, 127, 128] (by decide +kernel) (by decide +kernel)
set_option maxRecDepth 20000 in
theorem gX7_span_X7_list : GoodIn wsX7_span (wsV RX7 213 RX7 yX7_list wsX7_list) := goodIn_app (goodIn_of _ (by decide +kernel)) ggX7_span_X7_list
set_option maxRecDepth 20000 in
theorem ggX7_span_X7_all : GoodIn wsX7_span wsX7_all := goodIn_r _ [22, 16, 89, 90, 91, 92, 93, 94, 95, 96, 97, 98, 99, 100, 101, 102, 103, 104, 105, 106, 107, 108, 109, 110, 111, 112, 113, 114, 115, 116, 117, 118, 119, 120, 121, 122, 123, 124, 125, 126, 127, 128] (by decide +kernel) (by decide +kernel)
set_option maxRecDepth 20000 in
theorem gX7_span_X7_all : GoodIn wsX7_span (wsV RX7 140 RX7 yX7_all wsX7_all) := goodIn_app (goodIn_of _ (by decide +kernel)) ggX7_span_X7_all
set_option maxRecDepth 20000 in
theorem ggX7_span_X7_divisor : GoodIn wsX7_span wsX7_divisor := goodIn_r _ [88] (by decide +kernel) (by decide +kernel)
set_option maxRecDepth 20000 in
theorem gX7_span_X7_divisor : GoodIn wsX7_span (wsV RX7 236 RX7 yX7_divisor wsX7_divisor) := goodIn_app (goodIn_of _ (by decide +kernel)) ggX7_span_X7_divisor
theorem dX7_span_0 : decode cX7_span 0 = .ok (.aload_n 0, 1) := by decide +kernel
theorem dX7_span_1 : decode cX7_span 1 = .ok (.invokevirtual 213, 3) := by decide +kernel
theorem dX7_span_4 : decode cX7_span 4 = .ok (.aload_n 0, 1) := by decide +kernel
theorem dX7_span_5 : decode cX7_span 5 = .ok (.iconst 0, 1) := by decide +kernel
theorem dX7_span_6 : decode cX7_span 6 = .ok (.putfield 91, 3) := by decide +kernel
theorem dX7_span_9 : decode cX7_span 9 = .ok (.aload_n 0, 1) := by decide +kernel
theorem dX7_span_10 : decode cX7_span 10 = .ok (.getfield 60, 3) := by decide +kernel
theorem dX7_span_13 : decode cX7_span 13 = .ok (.aload_n 0, 1) := by decide +kernel
theorem dX7_span_14 : decode cX7_span 14 = .ok (.invokevirtual 140, 3) := by decide +kernel
theorem dX7_span_17 : decode cX7_span 17 = .ok (.iaload, 1) := by decide +kernel
theorem dX7_span_18 : decode cX7_span 18 = .ok (.istore_n 1, 1) := by decide +kernel
theorem dX7_span_19 : decode cX7_span 19 = .ok (.iload_n 1, 1) := by decide +kernel
theorem dX7_span_20 : decode cX7_span 20 = .ok (.istore_n 2, 1) := by decide +kernel
theorem dX7_span_21 : decode cX7_span 21 = .ok (.iload_n 2, 1) := by decide +kernel
theorem dX7_span_22 : decode cX7_span 22 = .ok (.aload_n 0, 1) := by decide +kernel
theorem dX7_span_23 : decode cX7_span 23 = .ok (.getfield 79, 3) := by decide +kernel
theorem dX7_span_26 : decode cX7_span 26 = .ok (.if_icmp .ge 100, 3) := by decide +kernel
theorem dX7_span_29 : decode cX7_span 29 = .ok (.aload_n 0, 1) := by decide +kernel
theorem dX7_span_30 : decode cX7_span 30 = .ok (.getfield 72, 3) := by decide +kernel
theorem dX7_span_33 : decode cX7_span 33 = .ok (.iload_n 2, 1) := by decide +kernel
theorem dX7_span_34 : decode cX7_span 34 = .ok (.laload, 1) := by decide +kernel
theorem dX7_span_35 : decode cX7_span 35 = .ok (.aload_n 0, 1) := by decide +kernel
theorem dX7_span_36 : decode cX7_span 36 = .ok (.getfield 72, 3) := by decide +kernel
theorem dX7_span_39 : decode cX7_span 39 = .ok (.iload_n 1, 1) := by decide +kernel
theorem dX7_span_40 : decode cX7_span 40 = .ok (.laload, 1) := by decide +kernel
theorem dX7_span_41 : decode cX7_span 41 = .ok (.lcmp, 1) := by decide +kernel
theorem dX7_span_42 : decode cX7_span 42 = .ok (.ifCond .lt 66, 3) := by decide +kernel
theorem dX7_span_45 : decode cX7_span 45 = .ok (.aload_n 0, 1) := by decide +kernel
theorem dX7_span_46 : decode cX7_span 46 = .ok (.getfield 72, 3) := by decide +kernel
theorem dX7_span_49 : decode cX7_span 49 = .ok (.iload_n 2, 1) := by decide +kernel
theorem dX7_span_50 : decode cX7_span 50 = .ok (.laload, 1) := by decide +kernel
theorem dX7_span_51 : decode cX7_span 51 = .ok (.aload_n 0, 1) := by decide +kernel
theorem dX7_span_52 : decode cX7_span 52 = .ok (.getfield 72, 3) := by decide +kernel
theorem dX7_span_55 : decode cX7_span 55 = .ok (.iload_n 1, 1) := by decide +kernel
theorem dX7_span_56 : decode cX7_span 56 = .ok (.laload, 1) := by decide +kernel
theorem dX7_span_57 : decode cX7_span 57 = .ok (.lcmp, 1) := by decide +kernel
theorem dX7_span_58 : decode cX7_span 58 = .ok (.ifCond .ne 54, 3) := by decide +kernel
theorem dX7_span_61 : decode cX7_span 61 = .ok (.aload_n 0, 1) := by decide +kernel
theorem dX7_span_62 : decode cX7_span 62 = .ok (.getfield 76, 3) := by decide +kernel
theorem dX7_span_65 : decode cX7_span 65 = .ok (.iload_n 2, 1) := by decide +kernel
theorem dX7_span_66 : decode cX7_span 66 = .ok (.laload, 1) := by decide +kernel
theorem dX7_span_67 : decode cX7_span 67 = .ok (.aload_n 0, 1) := by decide +kernel
theorem dX7_span_68 : decode cX7_span 68 = .ok (.getfield 76, 3) := by decide +kernel
theorem dX7_span_71 : decode cX7_span 71 = .ok (.iload_n 1, 1) := by decide +kernel
theorem dX7_span_72 : decode cX7_span 72 = .ok (.laload, 1) := by decide +kernel
theorem dX7_span_73 : decode cX7_span 73 = .ok (.lcmp, 1) := by decide +kernel
theorem dX7_span_74 : decode cX7_span 74 = .ok (.ifCond .lt 34, 3) := by decide +kernel
theorem dX7_span_77 : decode cX7_span 77 = .ok (.aload_n 0, 1) := by decide +kernel
theorem dX7_span_78 : decode cX7_span 78 = .ok (.getfield 76, 3) := by decide +kernel
theorem dX7_span_81 : decode cX7_span 81 = .ok (.iload_n 2, 1) := by decide +kernel
theorem dX7_span_82 : decode cX7_span 82 = .ok (.laload, 1) := by decide +kernel
theorem dX7_span_83 : decode cX7_span 83 = .ok (.aload_n 0, 1) := by decide +kernel
theorem dX7_span_84 : decode cX7_span 84 = .ok (.getfield 76, 3) := by decide +kernel
theorem dX7_span_87 : decode cX7_span 87 = .ok (.iload_n 1, 1) := by decide +kernel
theorem dX7_span_88 : decode cX7_span 88 = .ok (.laload, 1) := by decide +kernel
theorem dX7_span_89 : decode cX7_span 89 = .ok (.lcmp, 1) := by decide +kernel
theorem dX7_span_90 : decode cX7_span 90 = .ok (.ifCond .ne 22, 3) := by decide +kernel
theorem dX7_span_93 : decode cX7_span 93 = .ok (.aload_n 0, 1) := by decide +kernel
theorem dX7_span_94 : decode cX7_span 94 = .ok (.getfield 63, 3) := by decide +kernel
theorem dX7_span_97 : decode cX7_span 97 = .ok (.iload_n 2, 1) := by decide +kernel
theorem dX7_span_98 : decode cX7_span 98 = .ok (.iaload, 1) := by decide +kernel
theorem dX7_span_99 : decode cX7_span 99 = .ok (.aload_n 0, 1) := by decide +kernel
theorem dX7_span_100 : decode cX7_span 100 = .ok (.getfield 63, 3) := by decide +kernel
theorem dX7_span_103 : decode cX7_span 103 = .ok (.iload_n 1, 1) := by decide +kernel
theorem dX7_span_104 : decode cX7_span 104 = .ok (.iaload, 1) := by decide +kernel
theorem dX7_span_105 : decode cX7_span 105 = .ok (.if_icmp .ge 7, 3) := by decide +kernel
theorem dX7_span_108 : decode cX7_span 108 = .ok (.iconst 1, 1) := by decide +kernel
theorem dX7_span_109 : decode cX7_span 109 = .ok (.goto 4, 3) := by decide +kernel
theorem dX7_span_112 : decode cX7_span 112 = .ok (.iconst 0, 1) := by decide +kernel
theorem dX7_span_113 : decode cX7_span 113 = .ok (.istore_n 3, 1) := by decide +kernel
theorem dX7_span_114 : decode cX7_span 114 = .ok (.iload_n 3, 1) := by decide +kernel
theorem dX7_span_115 : decode cX7_span 115 = .ok (.ifCond .eq 5, 3) := by decide +kernel
theorem dX7_span_118 : decode cX7_span 118 = .ok (.iload_n 2, 1) := by decide +kernel
theorem dX7_span_119 : decode cX7_span 119 = .ok (.istore_n 1, 1) := by decide +kernel
theorem dX7_span_120 : decode cX7_span 120 = .ok (.iinc 2 1, 3) := by decide +kernel
theorem dX7_span_123 : decode cX7_span 123 = .ok (.goto (-102), 3) := by decide +kernel
theorem dX7_span_126 : decode cX7_span 126 = .ok (.lconst 0, 1) := by decide +kernel
theorem dX7_span_127 : decode cX7_span 127 = .ok (.lstore_n 2, 1) := by decide +kernel
theorem dX7_span_128 : decode cX7_span 128 = .ok (.lconst 1, 1) := by decide +kernel
theorem dX7_span_129 : decode cX7_span 129 = .ok (.lstore 4, 2) := by decide +kernel
theorem dX7_span_131 : decode cX7_span 131 = .ok (.iload_n 1, 1) := by decide +kernel
theorem dX7_span_132 : decode cX7_span 132 = .ok (.ifCond .lt 281, 3) := by decide +kernel
theorem dX7_span_135 : decode cX7_span 135 = .ok (.aload_n 0, 1) := by decide +kernel
theorem dX7_span_136 : decode cX7_span 136 = .ok (.getfield 82, 3) := by decide +kernel
theorem dX7_span_139 : decode cX7_span 139 = .ok (.aload_n 0, 1) := by decide +kernel
theorem dX7_span_140 : decode cX7_span 140 = .ok (.getfield 91, 3) := by decide +kernel
theorem dX7_span_143 : decode cX7_span 143 = .ok (.iload_n 1, 1) := by decide +kernel
theorem dX7_span_144 : decode cX7_span 144 = .ok (.iastore, 1) := by decide +kernel
theorem dX7_span_145 : decode cX7_span 145 = .ok (.lload_n 2, 1) := by decide +kernel
theorem dX7_span_146 : decode cX7_span 146 = .ok (.lconst 0, 1) := by decide +kernel
theorem dX7_span_147 : decode cX7_span 147 = .ok (.lcmp, 1) := by decide +kernel
theorem dX7_span_148 : decode cX7_span 148 = .ok (.ifCond .ne 8, 3) := by decide +kernel
theorem dX7_span_151 : decode cX7_span 151 = .ok (.lload 4, 2) := by decide +kernel
theorem dX7_span_153 : decode cX7_span 153 = .ok (.goto 10, 3) := by decide +kernel
theorem dX7_span_156 : decode cX7_span 156 = .ok (.aload_n 0, 1) := by decide +kernel
theorem dX7_span_157 : decode cX7_span 157 = .ok (.lload_n 2, 1) := by decide +kernel
theorem dX7_span_158 : decode cX7_span 158 = .ok (.lload 4, 2) := by decide +kernel
theorem dX7_span_160 : decode cX7_span 160 = .ok (.invokevirtual 236, 3) := by decide +kernel
theorem dX7_span_163 : decode cX7_span 163 = .ok (.lstore 6, 2) := by decide +kernel
theorem dX7_span_165 : decode cX7_span 165 = .ok (.aload_n 0, 1) := by decide +kernel
theorem dX7_span_166 : decode cX7_span 166 = .ok (.getfield 85, 3) := by decide +kernel
theorem dX7_span_169 : decode cX7_span 169 = .ok (.aload_n 0, 1) := by decide +kernel
theorem dX7_span_170 : decode cX7_span 170 = .ok (.getfield 91, 3) := by decide +kernel
theorem dX7_span_173 : decode cX7_span 173 = .ok (.lload_n 2, 1) := by decide +kernel
theorem dX7_span_174 : decode cX7_span 174 = .ok (.lload 6, 2) := by decide +kernel
theorem dX7_span_176 : decode cX7_span 176 = .ok (.ldiv, 1) := by decide +kernel
theorem dX7_span_177 : decode cX7_span 177 = .ok (.lastore, 1) := by decide +kernel
theorem dX7_span_178 : decode cX7_span 178 = .ok (.aload_n 0, 1) := by decide +kernel
theorem dX7_span_179 : decode cX7_span 179 = .ok (.getfield 88, 3) := by decide +kernel
theorem dX7_span_182 : decode cX7_span 182 = .ok (.aload_n 0, 1) := by decide +kernel
theorem dX7_span_183 : decode cX7_span 183 = .ok (.getfield 91, 3) := by decide +kernel
theorem dX7_span_186 : decode cX7_span 186 = .ok (.lload 4, 2) := by decide +kernel
theorem dX7_span_188 : decode cX7_span 188 = .ok (.lload 6, 2) := by decide +kernel
theorem dX7_span_190 : decode cX7_span 190 = .ok (.ldiv, 1) := by decide +kernel
theorem dX7_span_191 : decode cX7_span 191 = .ok (.lastore, 1) := by decide +kernel
theorem dX7_span_192 : decode cX7_span 192 = .ok (.aload_n 0, 1) := by decide +kernel
theorem dX7_span_193 : decode cX7_span 193 = .ok (.dup, 1) := by decide +kernel
theorem dX7_span_194 : decode cX7_span 194 = .ok (.getfield 91, 3) := by decide +kernel
theorem dX7_span_197 : decode cX7_span 197 = .ok (.iconst 1, 1) := by decide +kernel
theorem dX7_span_198 : decode cX7_span 198 = .ok (.iadd, 1) := by decide +kernel
theorem dX7_span_199 : decode cX7_span 199 = .ok (.putfield 91, 3) := by decide +kernel
theorem dX7_span_202 : decode cX7_span 202 = .ok (.iconst (-1), 1) := by decide +kernel
theorem dX7_span_203 : decode cX7_span 203 = .ok (.istore 8, 2) := by decide +kernel
theorem dX7_span_205 : decode cX7_span 205 = .ok (.aload_n 0, 1) := by decide +kernel
theorem dX7_span_206 : decode cX7_span 206 = .ok (.getfield 60, 3) := by decide +kernel
theorem dX7_span_209 : decode cX7_span 209 = .ok (.aload_n 0, 1) := by decide +kernel
theorem dX7_span_210 : decode cX7_span 210 = .ok (.invokevirtual 140, 3) := by decide +kernel
theorem dX7_span_213 : decode cX7_span 213 = .ok (.iaload, 1) := by decide +kernel
theorem dX7_span_214 : decode cX7_span 214 = .ok (.istore 9, 2) := by decide +kernel
theorem dX7_span_216 : decode cX7_span 216 = .ok (.iload 9, 2) := by decide +kernel
theorem dX7_span_218 : decode cX7_span 218 = .ok (.aload_n 0, 1) := by decide +kernel
theorem dX7_span_219 : decode cX7_span 219 = .ok (.getfield 79, 3) := by decide +kernel
theorem dX7_span_222 : decode cX7_span 222 = .ok (.if_icmp .ge 185, 3) := by decide +kernel
theorem dX7_span_225 : decode cX7_span 225 = .ok (.aload_n 0, 1) := by decide +kernel
theorem dX7_span_226 : decode cX7_span 226 = .ok (.getfield 72, 3) := by decide +kernel
theorem dX7_span_229 : decode cX7_span 229 = .ok (.iload 9, 2) := by decide +kernel
theorem dX7_span_231 : decode cX7_span 231 = .ok (.laload, 1) := by decide +kernel
theorem dX7_span_232 : decode cX7_span 232 = .ok (.aload_n 0, 1) := by decide +kernel
theorem dX7_span_233 : decode cX7_span 233 = .ok (.getfield 72, 3) := by decide +kernel
theorem dX7_span_236 : decode cX7_span 236 = .ok (.iload_n 1, 1) := by decide +kernel
theorem dX7_span_237 : decode cX7_span 237 = .ok (.laload, 1) := by decide +kernel
theorem dX7_span_238 : decode cX7_span 238 = .ok (.lsub, 1) := by decide +kernel
theorem dX7_span_239 : decode cX7_span 239 = .ok (.lstore 10, 2) := by decide +kernel
theorem dX7_span_241 : decode cX7_span 241 = .ok (.aload_n 0, 1) := by decide +kernel
theorem dX7_span_242 : decode cX7_span 242 = .ok (.getfield 76, 3) := by decide +kernel
theorem dX7_span_245 : decode cX7_span 245 = .ok (.iload_n 1, 1) := by decide +kernel
theorem dX7_span_246 : decode cX7_span 246 = .ok (.laload, 1) := by decide +kernel
theorem dX7_span_247 : decode cX7_span 247 = .ok (.aload_n 0, 1) := by decide +kernel
theorem dX7_span_248 : decode cX7_span 248 = .ok (.getfield 76, 3) := by decide +kernel
theorem dX7_span_251 : decode cX7_span 251 = .ok (.iload 9, 2) := by decide +kernel
theorem dX7_span_253 : decode cX7_span 253 = .ok (.laload, 1) := by decide +kernel
theorem dX7_span_254 : decode cX7_span 254 = .ok (.lsub, 1) := by decide +kernel
theorem dX7_span_255 : decode cX7_span 255 = .ok (.lstore 12, 2) := by decide +kernel
theorem dX7_span_257 : decode cX7_span 257 = .ok (.lload 12, 2) := by decide +kernel
theorem dX7_span_259 : decode cX7_span 259 = .ok (.lconst 0, 1) := by decide +kernel
theorem dX7_span_260 : decode cX7_span 260 = .ok (.lcmp, 1) := by decide +kernel
theorem dX7_span_261 : decode cX7_span 261 = .ok (.ifCond .le 140, 3) := by decide +kernel
theorem dX7_span_264 : decode cX7_span 264 = .ok (.lload 10, 2) := by decide +kernel
theorem dX7_span_266 : decode cX7_span 266 = .ok (.ldc2_w 154, 3) := by decide +kernel
theorem dX7_span_269 : decode cX7_span 269 = .ok (.lload 12, 2) := by decide +kernel
theorem dX7_span_271 : decode cX7_span 271 = .ok (.lmul, 1) := by decide +kernel
theorem dX7_span_272 : decode cX7_span 272 = .ok (.lcmp, 1) := by decide +kernel
theorem dX7_span_273 : decode cX7_span 273 = .ok (.ifCond .lt 6, 3) := by decide +kernel
theorem dX7_span_276 : decode cX7_span 276 = .ok (.goto 125, 3) := by decide +kernel
theorem dX7_span_279 : decode cX7_span 279 = .ok (.iload 8, 2) := by decide +kernel
theorem dX7_span_281 : decode cX7_span 281 = .ok (.ifCond .lt 16, 3) := by decide +kernel
theorem dX7_span_284 : decode cX7_span 284 = .ok (.lload 10, 2) := by decide +kernel
theorem dX7_span_286 : decode cX7_span 286 = .ok (.lload 4, 2) := by decide +kernel
theorem dX7_span_288 : decode cX7_span 288 = .ok (.lmul, 1) := by decide +kernel
theorem dX7_span_289 : decode cX7_span 289 = .ok (.lload_n 2, 1) := by decide +kernel
theorem dX7_span_290 : decode cX7_span 290 = .ok (.lload 12, 2) := by decide +kernel
theorem dX7_span_292 : decode cX7_span 292 = .ok (.lmul, 1) := by decide +kernel
theorem dX7_span_293 : decode cX7_span 293 = .ok (.lcmp, 1) := by decide +kernel
theorem dX7_span_294 : decode cX7_span 294 = .ok (.ifCond .ge 7, 3) := by decide +kernel
theorem dX7_span_297 : decode cX7_span 297 = .ok (.iconst 1, 1) := by decide +kernel
theorem dX7_span_298 : decode cX7_span 298 = .ok (.goto 4, 3) := by decide +kernel
theorem dX7_span_301 : decode cX7_span 301 = .ok (.iconst 0, 1) := by decide +kernel
theorem dX7_span_302 : decode cX7_span 302 = .ok (.istore 14, 2) := by decide +kernel
theorem dX7_span_304 : decode cX7_span 304 = .ok (.iload 8, 2) := by decide +kernel
theorem dX7_span_306 : decode cX7_span 306 = .ok (.ifCond .lt 76, 3) := by decide +kernel
theorem dX7_span_309 : decode cX7_span 309 = .ok (.lload 10, 2) := by decide +kernel
theorem dX7_span_311 : decode cX7_span 311 = .ok (.lload 4, 2) := by decide +kernel
theorem dX7_span_313 : decode cX7_span 313 = .ok (.lmul, 1) := by decide +kernel
theorem dX7_span_314 : decode cX7_span 314 = .ok (.lload_n 2, 1) := by decide +kernel
theorem dX7_span_315 : decode cX7_span 315 = .ok (.lload 12, 2) := by decide +kernel
theorem dX7_span_317 : decode cX7_span 317 = .ok (.lmul, 1) := by decide +kernel
theorem dX7_span_318 : decode cX7_span 318 = .ok (.lcmp, 1) := by decide +kernel
theorem dX7_span_319 : decode cX7_span 319 = .ok (.ifCond .ne 63, 3) := by decide +kernel
theorem dX7_span_322 : decode cX7_span 322 = .ok (.aload_n 0, 1) := by decide +kernel
theorem dX7_span_323 : decode cX7_span 323 = .ok (.getfield 76, 3) := by decide +kernel
theorem dX7_span_326 : decode cX7_span 326 = .ok (.iload 9, 2) := by decide +kernel
theorem dX7_span_328 : decode cX7_span 328 = .ok (.laload, 1) := by decide +kernel
theorem dX7_span_329 : decode cX7_span 329 = .ok (.aload_n 0, 1) := by decide +kernel
theorem dX7_span_330 : decode cX7_span 330 = .ok (.getfield 76, 3) := by decide +kernel
theorem dX7_span_333 : decode cX7_span 333 = .ok (.iload 8, 2) := by decide +kernel
theorem dX7_span_335 : decode cX7_span 335 = .ok (.laload, 1) := by decide +kernel
theorem dX7_span_336 : decode cX7_span 336 = .ok (.lcmp, 1) := by decide +kernel
theorem dX7_span_337 : decode cX7_span 337 = .ok (.ifCond .lt 38, 3) := by decide +kernel
theorem dX7_span_340 : decode cX7_span 340 = .ok (.aload_n 0, 1) := by decide +kernel
theorem dX7_span_341 : decode cX7_span 341 = .ok (.getfield 76, 3) := by decide +kernel
theorem dX7_span_344 : decode cX7_span 344 = .ok (.iload 9, 2) := by decide +kernel
theorem dX7_span_346 : decode cX7_span 346 = .ok (.laload, 1) := by decide +kernel
theorem dX7_span_347 : decode cX7_span 347 = .ok (.aload_n 0, 1) := by decide +kernel
theorem dX7_span_348 : decode cX7_span 348 = .ok (.getfield 76, 3) := by decide +kernel
theorem dX7_span_351 : decode cX7_span 351 = .ok (.iload 8, 2) := by decide +kernel
theorem dX7_span_353 : decode cX7_span 353 = .ok (.laload, 1) := by decide +kernel
theorem dX7_span_354 : decode cX7_span 354 = .ok (.lcmp, 1) := by decide +kernel
theorem dX7_span_355 : decode cX7_span 355 = .ok (.ifCond .ne 24, 3) := by decide +kernel
theorem dX7_span_358 : decode cX7_span 358 = .ok (.aload_n 0, 1) := by decide +kernel
theorem dX7_span_359 : decode cX7_span 359 = .ok (.getfield 63, 3) := by decide +kernel
theorem dX7_span_362 : decode cX7_span 362 = .ok (.iload 9, 2) := by decide +kernel
theorem dX7_span_364 : decode cX7_span 364 = .ok (.iaload, 1) := by decide +kernel
theorem dX7_span_365 : decode cX7_span 365 = .ok (.aload_n 0, 1) := by decide +kernel
theorem dX7_span_366 : decode cX7_span 366 = .ok (.getfield 63, 3) := by decide +kernel
theorem dX7_span_369 : decode cX7_span 369 = .ok (.iload 8, 2) := by decide +kernel
theorem dX7_span_371 : decode cX7_span 371 = .ok (.iaload, 1) := by decide +kernel
theorem dX7_span_372 : decode cX7_span 372 = .ok (.if_icmp .ge 7, 3) := by decide +kernel
theorem dX7_span_375 : decode cX7_span 375 = .ok (.iconst 1, 1) := by decide +kernel
theorem dX7_span_376 : decode cX7_span 376 = .ok (.goto 4, 3) := by decide +kernel
theorem dX7_span_379 : decode cX7_span 379 = .ok (.iconst 0, 1) := by decide +kernel
theorem dX7_span_380 : decode cX7_span 380 = .ok (.istore 14, 2) := by decide +kernel
theorem dX7_span_382 : decode cX7_span 382 = .ok (.iload 14, 2) := by decide +kernel
theorem dX7_span_384 : decode cX7_span 384 = .ok (.ifCond .ne 6, 3) := by decide +kernel
theorem dX7_span_387 : decode cX7_span 387 = .ok (.goto 14, 3) := by decide +kernel
theorem dX7_span_390 : decode cX7_span 390 = .ok (.iload 9, 2) := by decide +kernel
theorem dX7_span_392 : decode cX7_span 392 = .ok (.istore 8, 2) := by decide +kernel
theorem dX7_span_394 : decode cX7_span 394 = .ok (.lload 10, 2) := by decide +kernel
theorem dX7_span_396 : decode cX7_span 396 = .ok (.lstore_n 2, 1) := by decide +kernel
theorem dX7_span_397 : decode cX7_span 397 = .ok (.lload 12, 2) := by decide +kernel
theorem dX7_span_399 : decode cX7_span 399 = .ok (.lstore 4, 2) := by decide +kernel
theorem dX7_span_401 : decode cX7_span 401 = .ok (.iinc 9 1, 3) := by decide +kernel
theorem dX7_span_404 : decode cX7_span 404 = .ok (.goto (-188), 3) := by decide +kernel
theorem dX7_span_407 : decode cX7_span 407 = .ok (.iload 8, 2) := by decide +kernel
theorem dX7_span_409 : decode cX7_span 409 = .ok (.istore_n 1, 1) := by decide +kernel
theorem dX7_span_410 : decode cX7_span 410 = .ok (.goto (-279), 3) := by decide +kernel
theorem dX7_span_413 : decode cX7_span 413 = .ok (.return_, 1) := by decide +kernel
set_option maxRecDepth 20000 in
theorem ggX7_spans_X7_isWhole : GoodIn wsX7_spans wsX7_isWhole := goodIn_r _ [6, 7, 8, 9, 10, 11, 12, 13, 14, 5, 15, 16, 17, 18, 19, 97, 98, 99, 100, 101, 102, 103, 104, 105, 106, 107, 108, 109, 110, 111, 112, 113, 114, 115, 116, 117, 118, 119, 120, 121, 122, 123, 124, 125, 126, 127, 128, 129, 130, 131, 132, 133, 134, 135, 136] (by decide +kernel) (by decide +kernel)
set_option maxRecDepth 20000 in
theorem gX7_spans_X7_isWhole : GoodIn wsX7_spans (wsV RX7 203 RX7 yX7_isWhole wsX7_isWhole) := goodIn_app (goodIn_of _ (by decide +kernel)) ggX7_spans_X7_isWhole
set_option maxRecDepth 20000 in
theorem ggX7_spans_X7_span : GoodIn wsX7_spans wsX7_span := goodIn_r _ [23, 1, 24, 25, 26, 27, 28, 29, 30, 31, 32, 33, 34, 35, 5, 36, 7, 37, 11, 12, 13, 14, 15, 38, 39, 40, 41, 42, 43, 44, 45, 46, 47, 8, 16, 17, 18, 19, 9, 10, 48, 49, 50, 51, 52, 53, 54, 55, 56, 57, 58, 59, 60, 61, 62, 63, 64, 65, 66, 67, 68, 69, 70, 71, 72, 73, 74, 75, 76, 77, 78, 79, 80, 81, 82, 83, 84, 85, 86, 87, 88, 89, 90, 91, 92, 93, 94, 95, 96, 97, 98, 99, 100, 101, 102, 103, 104, 105, 106, 107, 108, 109, 110, 111, 112, 113, 114, 115, 116, 117, 118, 119, 120, 121, 122, 123, 124, 125, 126, 127, 128, 129, 130, 131, 132, 133, 134, 135, 136] (by decide +kernel) (by decide +kernel)
set_option maxRecDepth 20000 in
theorem gX7_spans_X7_span : GoodIn wsX7_spans (wsV RX7 240 RX7 yX7_span wsX7_span) := goodIn_app (goodIn_of _ (by decide +kernel)) ggX7_spans_X7_span
theorem dX7_spans_0 : decode cX7_spans 0 = .ok (.aload_n 0, 1) := by decide +kernel
theorem dX7_spans_1 : decode cX7_spans 1 = .ok (.invokevirtual 203, 3) := by decide +kernel
theorem dX7_spans_4 : decode cX7_spans 4 = .ok (.ifCond .ne 6, 3) := by decide +kernel
theorem dX7_spans_7 : decode cX7_spans 7 = .ok (.bipush (-3), 2) := by decide +kernel
theorem dX7_spans_9 : decode cX7_spans 9 = .ok (.ireturn, 1) := by decide +kernel
theorem dX7_spans_10 : decode cX7_spans 10 = .ok (.aload_n 0, 1) := by decide +kernel
theorem dX7_spans_11 : decode cX7_spans 11 = .ok (.invokevirtual 240, 3) := by decide +kernel
theorem dX7_spans_14 : decode cX7_spans 14 = .ok (.aload_n 0, 1) := by decide +kernel
theorem dX7_spans_15 : decode cX7_spans 15 = .ok (.getfield 91, 3) := by decide +kernel
theorem dX7_spans_18 : decode cX7_spans 18 = .ok (.ireturn, 1) := by decide +kernel
set_option maxRecDepth 20000 in
theorem ggX7_border_X7_isWhole : GoodIn wsX7_border wsX7_isWhole := goodIn_r _ [10, 11, 12, 13, 14, 15, 16, 17, 18, 9, 19, 20, 21, 22, 23, 98, 99, 100, 101, 102, 103, 104, 105, 106, 107, 108, 109, 110, 111, 112, 113, 114, 115, 116, 117, 118, 119, 120, 121, 122, 123, 124, 125, 126, 127, 128, 129, 130, 131, 132, 133, 134, 135, 136, 137] (by decide +kernel) (by decide +kernel)
set_option maxRecDepth 20000 in
theorem gX7_border_X7_isWhole : GoodIn wsX7_border (wsV RX7 203 RX7 yX7_isWhole wsX7_isWhole) := goodIn_app (goodIn_of _ (by decide +kernel)) ggX7_border_X7_isWhole
set_option maxRecDepth 20000 in
theorem ggX7_border_X7_span : GoodIn wsX7_border wsX7_span := goodIn_r _ [27, 2, 28, 29, 30, 31, 32, 33, 3, 4, 5, 34, 35, 36, 9, 37, 11, 38, 15, 16, 17, 18, 19, 39, 40, 41, 42, 43, 44, 45, 46, 47, 48, 12, 20, 21, 22, 23, 13, 14, 49, 50, 51, 52, 53, 54, 55, 56, 57, 58, 59, 60, 61, 62, 63, 64, 65, 66, 67, 68, 69, 70, 71, 72, 73, 74, 75, 76, 77, 78, 79, 80, 81, 82, 83, 84, 85, 86, 87, 88, 89, 90, 91, 92, 93, 94, 95, 96, 97, 98, 99, 100, 101, 102, 103, 104, 105, 106, 107, 108, 109, 110, 111, 112, 113, 114, 115, 116, 117, 118, 119, 120, 121, 122, 123, 124, 125, 126, 127, 128, 129, 130, 131, 132, 133, 134, 135, 136, 137] (by decide +kernel) (by decide +kernel)
set_option maxRecDepth 20000 in
theorem gX7_border_X7_span : GoodIn wsX7_border (wsV RX7 240 RX7 yX7_span wsX7_span) := goodIn_app (goodIn_of _ (by decide +kernel)) ggX7_border_X7_span
theorem dX7_border_0 : decode cX7_border 0 = .ok (.aload_n 0, 1) := by decide +kernel
theorem dX7_border_1 : decode cX7_border 1 = .ok (.invokevirtual 203, 3) := by decide +kernel
theorem dX7_border_4 : decode cX7_border 4 = .ok (.ifCond .eq 12, 3) := by decide +kernel
theorem dX7_border_7 : decode cX7_border 7 = .ok (.iload_n 2, 1) := by decide +kernel
theorem dX7_border_8 : decode cX7_border 8 = .ok (.ifCond .lt 8, 3) := by decide +kernel
theorem dX7_border_11 : decode cX7_border 11 = .ok (.iload_n 2, 1) := by decide +kernel
theorem dX7_border_12 : decode cX7_border 12 = .ok (.iconst 3, 1) := by decide +kernel
theorem dX7_border_13 : decode cX7_border 13 = .ok (.if_icmp .le 7, 3) := by decide +kernel
theorem dX7_border_16 : decode cX7_border 16 = .ok (.ldc2_w 222, 3) := by decide +kernel
theorem dX7_border_19 : decode cX7_border 19 = .ok (.lreturn, 1) := by decide +kernel
theorem dX7_border_20 : decode cX7_border 20 = .ok (.aload_n 0, 1) := by decide +kernel
theorem dX7_border_21 : decode cX7_border 21 = .ok (.invokevirtual 240, 3) := by decide +kernel
theorem dX7_border_24 : decode cX7_border 24 = .ok (.iload_n 1, 1) := by decide +kernel
theorem dX7_border_25 : decode cX7_border 25 = .ok (.ifCond .lt 11, 3) := by decide +kernel
theorem dX7_border_28 : decode cX7_border 28 = .ok (.iload_n 1, 1) := by decide +kernel
theorem dX7_border_29 : decode cX7_border 29 = .ok (.aload_n 0, 1) := by decide +kernel
theorem dX7_border_30 : decode cX7_border 30 = .ok (.getfield 91, 3) := by decide +kernel
theorem dX7_border_33 : decode cX7_border 33 = .ok (.if_icmp .lt 7, 3) := by decide +kernel
theorem dX7_border_36 : decode cX7_border 36 = .ok (.ldc2_w 222, 3) := by decide +kernel
theorem dX7_border_39 : decode cX7_border 39 = .ok (.lreturn, 1) := by decide +kernel
theorem dX7_border_40 : decode cX7_border 40 = .ok (.iload_n 2, 1) := by decide +kernel
theorem dX7_border_41 : decode cX7_border 41 = .ok (.iconst 2, 1) := by decide +kernel
theorem dX7_border_42 : decode cX7_border 42 = .ok (.if_icmp .ge 23, 3) := by decide +kernel
theorem dX7_border_45 : decode cX7_border 45 = .ok (.iload_n 2, 1) := by decide +kernel
theorem dX7_border_46 : decode cX7_border 46 = .ok (.ifCond .ne 12, 3) := by decide +kernel
theorem dX7_border_49 : decode cX7_border 49 = .ok (.aload_n 0, 1) := by decide +kernel
theorem dX7_border_50 : decode cX7_border 50 = .ok (.getfield 85, 3) := by decide +kernel
theorem dX7_border_53 : decode cX7_border 53 = .ok (.iload_n 1, 1) := by decide +kernel
theorem dX7_border_54 : decode cX7_border 54 = .ok (.laload, 1) := by decide +kernel
theorem dX7_border_55 : decode cX7_border 55 = .ok (.goto 9, 3) := by decide +kernel
theorem dX7_border_58 : decode cX7_border 58 = .ok (.aload_n 0, 1) := by decide +kernel
theorem dX7_border_59 : decode cX7_border 59 = .ok (.getfield 88, 3) := by decide +kernel
theorem dX7_border_62 : decode cX7_border 62 = .ok (.iload_n 1, 1) := by decide +kernel
theorem dX7_border_63 : decode cX7_border 63 = .ok (.laload, 1) := by decide +kernel
theorem dX7_border_64 : decode cX7_border 64 = .ok (.lreturn, 1) := by decide +kernel
theorem dX7_border_65 : decode cX7_border 65 = .ok (.iload_n 1, 1) := by decide +kernel
theorem dX7_border_66 : decode cX7_border 66 = .ok (.iconst 1, 1) := by decide +kernel
theorem dX7_border_67 : decode cX7_border 67 = .ok (.iadd, 1) := by decide +kernel
theorem dX7_border_68 : decode cX7_border 68 = .ok (.aload_n 0, 1) := by decide +kernel
theorem dX7_border_69 : decode cX7_border 69 = .ok (.getfield 91, 3) := by decide +kernel
theorem dX7_border_72 : decode cX7_border 72 = .ok (.if_icmp .ne 16, 3) := by decide +kernel
theorem dX7_border_75 : decode cX7_border 75 = .ok (.iload_n 2, 1) := by decide +kernel
theorem dX7_border_76 : decode cX7_border 76 = .ok (.iconst 2, 1) := by decide +kernel
theorem dX7_border_77 : decode cX7_border 77 = .ok (.if_icmp .ne 9, 3) := by decide +kernel
theorem dX7_border_80 : decode cX7_border 80 = .ok (.ldc2_w 154, 3) := by decide +kernel
theorem dX7_border_83 : decode cX7_border 83 = .ok (.goto 4, 3) := by decide +kernel
theorem dX7_border_86 : decode cX7_border 86 = .ok (.lconst 1, 1) := by decide +kernel
theorem dX7_border_87 : decode cX7_border 87 = .ok (.lreturn, 1) := by decide +kernel
theorem dX7_border_88 : decode cX7_border 88 = .ok (.iload_n 2, 1) := by decide +kernel
theorem dX7_border_89 : decode cX7_border 89 = .ok (.iconst 2, 1) := by decide +kernel
theorem dX7_border_90 : decode cX7_border 90 = .ok (.if_icmp .ne 14, 3) := by decide +kernel
theorem dX7_border_93 : decode cX7_border 93 = .ok (.aload_n 0, 1) := by decide +kernel
theorem dX7_border_94 : decode cX7_border 94 = .ok (.getfield 85, 3) := by decide +kernel
theorem dX7_border_97 : decode cX7_border 97 = .ok (.iload_n 1, 1) := by decide +kernel
theorem dX7_border_98 : decode cX7_border 98 = .ok (.iconst 1, 1) := by decide +kernel
theorem dX7_border_99 : decode cX7_border 99 = .ok (.iadd, 1) := by decide +kernel
theorem dX7_border_100 : decode cX7_border 100 = .ok (.laload, 1) := by decide +kernel
theorem dX7_border_101 : decode cX7_border 101 = .ok (.goto 11, 3) := by decide +kernel
theorem dX7_border_104 : decode cX7_border 104 = .ok (.aload_n 0, 1) := by decide +kernel
theorem dX7_border_105 : decode cX7_border 105 = .ok (.getfield 88, 3) := by decide +kernel
theorem dX7_border_108 : decode cX7_border 108 = .ok (.iload_n 1, 1) := by decide +kernel
theorem dX7_border_109 : decode cX7_border 109 = .ok (.iconst 1, 1) := by decide +kernel
theorem dX7_border_110 : decode cX7_border 110 = .ok (.iadd, 1) := by decide +kernel
theorem dX7_border_111 : decode cX7_border 111 = .ok (.laload, 1) := by decide +kernel
theorem dX7_border_112 : decode cX7_border 112 = .ok (.lreturn, 1) := by decide +kernel
set_option maxRecDepth 20000 in
theorem ggX7_keen_X7_isWhole : GoodIn wsX7_keen wsX7_isWhole := goodIn_r _ [8, 9, 10, 11, 12, 13, 14, 15, 16, 7, 17, 18, 19, 20, 21, 104, 105, 106, 107, 108, 109, 110, 111, 112, 113, 114, 115, 116, 117, 118, 119, 120, 121, 122, 123, 124, 125, 126, 127, 128, 129, 130, 131, 132, 133, 134, 135, 136, 137, 138, 139, 140, 141, 142, 143] (by decide +kernel) (by decide +kernel)
set_option maxRecDepth 20000 in
theorem gX7_keen_X7_isWhole : GoodIn wsX7_keen (wsV RX7 203 RX7 yX7_isWhole wsX7_isWhole) := goodIn_app (goodIn_of _ (by decide +kernel)) ggX7_keen_X7_isWhole
set_option maxRecDepth 20000 in
theorem ggX7_keen_X7_span : GoodIn wsX7_keen wsX7_span := goodIn_r _ [25, 1, 26, 27, 28, 29, 2, 3, 30, 31, 32, 33, 34, 35, 7, 36, 9, 37, 13, 14, 15, 16, 17, 38, 39, 40, 41, 42, 43, 44, 45, 46, 47, 10, 18, 19, 20, 21, 11, 12, 48, 49, 50, 51, 52, 53, 54, 55, 56, 57, 58, 59, 60, 61, 62, 63, 64, 65, 66, 67, 68, 69, 70, 71, 72, 73, 74, 75, 76, 77, 78, 79, 80, 81, 82, 83, 84, 85, 86, 87, 88, 89, 90, 91, 92, 93, 94, 95, 96, 104, 105, 106, 107, 108, 109, 110, 111, 112, 113, 114, 115, 116, 117, 118, 119, 120, 121, 122, 123, 124, 125, 126, 127, 128, 129, 130, 131, 132, 133, 134, 135, 136, 137, 138, 139, 140, 141, 142, 143] (by decide +kernel) (by decide +kernel)
set_option maxRecDepth 20000 in
theorem gX7_keen_X7_span : GoodIn wsX7_keen (wsV RX7 240 RX7 yX7_span wsX7_span) := goodIn_app (goodIn_of _ (by decide +kernel)) ggX7_keen_X7_span
set_option maxRecDepth 20000 in
theorem ggX7_keen_X7_all : GoodIn wsX7_keen wsX7_all := goodIn_r _ [17, 9, 104, 105, 106, 107, 108, 109, 110, 111, 112, 113, 114, 115, 116, 117, 118, 119, 120, 121, 122, 123, 124, 125, 126, 127, 128, 129, 130, 131, 132, 133, 134, 135, 136, 137, 138, 139, 140, 141, 142, 143] (by decide +kernel) (by decide +kernel)
set_option maxRecDepth 20000 in
theorem gX7_keen_X7_all : GoodIn wsX7_keen (wsV RX7 140 RX7 yX7_all wsX7_all) := goodIn_app (goodIn_of _ (by decide +kernel)) ggX7_keen_X7_all
set_option maxRecDepth 20000 in
theorem ggX7_keen_X7_kept : GoodIn wsX7_keen wsX7_kept := goodIn_r _ [100, 101, 102, 103, 104, 105, 106, 107, 108, 109, 110, 111, 112, 113, 114, 115, 116, 117, 118, 119, 120, 121, 122, 123, 124, 125, 126, 127, 128, 129, 130, 131, 132, 133, 134, 135, 136, 137, 138, 139, 140, 141, 142, 143] (by decide +kernel) (by decide +kernel)
set_option maxRecDepth 20000 in
theorem gX7_keen_X7_kept : GoodIn wsX7_keen (wsV RX7 207 RX7 yX7_kept wsX7_kept) := goodIn_app (goodIn_of _ (by decide +kernel)) ggX7_keen_X7_kept
theorem dX7_keen_0 : decode cX7_keen 0 = .ok (.aload_n 0, 1) := by decide +kernel
theorem dX7_keen_1 : decode cX7_keen 1 = .ok (.invokevirtual 203, 3) := by decide +kernel
theorem dX7_keen_4 : decode cX7_keen 4 = .ok (.ifCond .ne 14, 3) := by decide +kernel
theorem dX7_keen_7 : decode cX7_keen 7 = .ok (.iload_n 1, 1) := by decide +kernel
theorem dX7_keen_8 : decode cX7_keen 8 = .ok (.ifCond .ge 7, 3) := by decide +kernel
theorem dX7_keen_11 : decode cX7_keen 11 = .ok (.iconst (-1), 1) := by decide +kernel
theorem dX7_keen_12 : decode cX7_keen 12 = .ok (.goto 5, 3) := by decide +kernel
theorem dX7_keen_15 : decode cX7_keen 15 = .ok (.bipush (-3), 2) := by decide +kernel
theorem dX7_keen_17 : decode cX7_keen 17 = .ok (.ireturn, 1) := by decide +kernel
theorem dX7_keen_18 : decode cX7_keen 18 = .ok (.aload_n 0, 1) := by decide +kernel
theorem dX7_keen_19 : decode cX7_keen 19 = .ok (.invokevirtual 240, 3) := by decide +kernel
theorem dX7_keen_22 : decode cX7_keen 22 = .ok (.iload_n 1, 1) := by decide +kernel
theorem dX7_keen_23 : decode cX7_keen 23 = .ok (.ifCond .lt 11, 3) := by decide +kernel
theorem dX7_keen_26 : decode cX7_keen 26 = .ok (.iload_n 1, 1) := by decide +kernel
theorem dX7_keen_27 : decode cX7_keen 27 = .ok (.aload_n 0, 1) := by decide +kernel
theorem dX7_keen_28 : decode cX7_keen 28 = .ok (.getfield 91, 3) := by decide +kernel
theorem dX7_keen_31 : decode cX7_keen 31 = .ok (.if_icmp .lt 5, 3) := by decide +kernel
theorem dX7_keen_34 : decode cX7_keen 34 = .ok (.iconst (-1), 1) := by decide +kernel
theorem dX7_keen_35 : decode cX7_keen 35 = .ok (.ireturn, 1) := by decide +kernel
theorem dX7_keen_36 : decode cX7_keen 36 = .ok (.aload_n 0, 1) := by decide +kernel
theorem dX7_keen_37 : decode cX7_keen 37 = .ok (.aload_n 0, 1) := by decide +kernel
theorem dX7_keen_38 : decode cX7_keen 38 = .ok (.getfield 63, 3) := by decide +kernel
theorem dX7_keen_41 : decode cX7_keen 41 = .ok (.aload_n 0, 1) := by decide +kernel
theorem dX7_keen_42 : decode cX7_keen 42 = .ok (.getfield 82, 3) := by decide +kernel
theorem dX7_keen_45 : decode cX7_keen 45 = .ok (.iload_n 1, 1) := by decide +kernel
theorem dX7_keen_46 : decode cX7_keen 46 = .ok (.iaload, 1) := by decide +kernel
theorem dX7_keen_47 : decode cX7_keen 47 = .ok (.iaload, 1) := by decide +kernel
theorem dX7_keen_48 : decode cX7_keen 48 = .ok (.aload_n 0, 1) := by decide +kernel
theorem dX7_keen_49 : decode cX7_keen 49 = .ok (.invokevirtual 140, 3) := by decide +kernel
theorem dX7_keen_52 : decode cX7_keen 52 = .ok (.invokevirtual 207, 3) := by decide +kernel
theorem dX7_keen_55 : decode cX7_keen 55 = .ok (.ireturn, 1) := by decide +kernel
set_option maxRecDepth 20000 in
theorem ggX7_isNear_X7_at : GoodIn wsX7_isNear wsX7_at := goodIn_r _ [6, 7, 8, 9, 22, 23, 24, 25, 26, 27, 28, 29, 30, 31, 32, 33, 34, 35, 36, 37, 38, 39, 40, 41, 42, 43, 44, 45, 46, 47, 48, 49, 50, 51, 52, 53, 54, 55, 56, 57, 58, 59, 60, 61] (by decide +kernel) (by decide +kernel)
set_option maxRecDepth 20000 in
theorem gX7_isNear_X7_at : GoodIn wsX7_isNear (wsV RX7 226 RX7 yX7_at wsX7_at) := goodIn_app (goodIn_of _ (by decide +kernel)) ggX7_isNear_X7_at
set_option maxRecDepth 20000 in
theorem ggX7_isNear_X7_bestAt : GoodIn wsX7_isNear wsX7_bestAt := goodIn_r _ [13, 14, 15, 16, 17, 18, 19, 5, 20, 21, 2, 3, 4, 6, 7, 8, 9, 22, 23, 24, 25, 26, 27, 28, 29, 30, 31, 32, 33, 34, 35, 36, 37, 38, 39, 40, 41, 42, 43, 44, 45, 46, 47, 48, 49, 50, 51, 52, 53, 54, 55, 56, 57, 58, 59, 60, 61] (by decide +kernel) (by decide +kernel)
set_option maxRecDepth 20000 in
theorem gX7_isNear_X7_bestAt : GoodIn wsX7_isNear (wsV RX7 233 RX7 yX7_bestAt wsX7_bestAt) := goodIn_app (goodIn_of _ (by decide +kernel)) ggX7_isNear_X7_bestAt
theorem dX7_isNear_0 : decode cX7_isNear 0 = .ok (.ldc2_w 243, 3) := by decide +kernel
theorem dX7_isNear_3 : decode cX7_isNear 3 = .ok (.aload_n 0, 1) := by decide +kernel
theorem dX7_isNear_4 : decode cX7_isNear 4 = .ok (.iload_n 1, 1) := by decide +kernel
theorem dX7_isNear_5 : decode cX7_isNear 5 = .ok (.iload_n 2, 1) := by decide +kernel
theorem dX7_isNear_6 : decode cX7_isNear 6 = .ok (.invokevirtual 226, 3) := by decide +kernel
theorem dX7_isNear_9 : decode cX7_isNear 9 = .ok (.lmul, 1) := by decide +kernel
theorem dX7_isNear_10 : decode cX7_isNear 10 = .ok (.ldc2_w 243, 3) := by decide +kernel
theorem dX7_isNear_13 : decode cX7_isNear 13 = .ok (.iload_n 3, 1) := by decide +kernel
theorem dX7_isNear_14 : decode cX7_isNear 14 = .ok (.i2l, 1) := by decide +kernel
theorem dX7_isNear_15 : decode cX7_isNear 15 = .ok (.ladd, 1) := by decide +kernel
theorem dX7_isNear_16 : decode cX7_isNear 16 = .ok (.aload_n 0, 1) := by decide +kernel
theorem dX7_isNear_17 : decode cX7_isNear 17 = .ok (.aload_n 0, 1) := by decide +kernel
theorem dX7_isNear_18 : decode cX7_isNear 18 = .ok (.iload_n 2, 1) := by decide +kernel
theorem dX7_isNear_19 : decode cX7_isNear 19 = .ok (.invokevirtual 233, 3) := by decide +kernel
theorem dX7_isNear_22 : decode cX7_isNear 22 = .ok (.iload_n 2, 1) := by decide +kernel
theorem dX7_isNear_23 : decode cX7_isNear 23 = .ok (.invokevirtual 226, 3) := by decide +kernel
theorem dX7_isNear_26 : decode cX7_isNear 26 = .ok (.lmul, 1) := by decide +kernel
theorem dX7_isNear_27 : decode cX7_isNear 27 = .ok (.lcmp, 1) := by decide +kernel
theorem dX7_isNear_28 : decode cX7_isNear 28 = .ok (.ifCond .gt 7, 3) := by decide +kernel
theorem dX7_isNear_31 : decode cX7_isNear 31 = .ok (.iconst 1, 1) := by decide +kernel
theorem dX7_isNear_32 : decode cX7_isNear 32 = .ok (.goto 4, 3) := by decide +kernel
theorem dX7_isNear_35 : decode cX7_isNear 35 = .ok (.iconst 0, 1) := by decide +kernel
theorem dX7_isNear_36 : decode cX7_isNear 36 = .ok (.ireturn, 1) := by decide +kernel
set_option maxRecDepth 20000 in
theorem ggX7_near_X7_isPlan : GoodIn wsX7_near wsX7_isPlan := goodIn_r _ [6, 7, 114, 115, 116, 117, 118, 119, 120, 121, 122, 123, 124, 125, 126, 127, 128, 129, 130, 131, 132, 133, 134, 135, 136, 137, 138, 139, 140, 141, 142, 143, 144, 145, 146, 147, 148, 149, 150, 151, 152, 153] (by decide +kernel) (by decide +kernel)
set_option maxRecDepth 20000 in
theorem gX7_near_X7_isPlan : GoodIn wsX7_near (wsV RX7 210 RX7 yX7_isPlan wsX7_isPlan) := goodIn_app (goodIn_of _ (by decide +kernel)) ggX7_near_X7_isPlan
set_option maxRecDepth 20000 in
theorem ggX7_near_X7_isPoint : GoodIn wsX7_near wsX7_isPoint := goodIn_r _ [11] (by decide +kernel) (by decide +kernel)
set_option maxRecDepth 20000 in
theorem gX7_near_X7_isPoint : GoodIn wsX7_near (wsV RX7 230 RX7 yX7_isPoint wsX7_isPoint) := goodIn_app (goodIn_of _ (by decide +kernel)) ggX7_near_X7_isPoint
set_option maxRecDepth 20000 in
theorem ggX7_near_X7_isWholePlan : GoodIn wsX7_near wsX7_isWholePlan := goodIn_r _ [15, 16, 17, 18, 19, 5, 20, 21, 114, 115, 116, 117, 118, 119, 120, 121, 122, 123, 124, 125, 126, 127, 128, 129, 130, 131, 132, 133, 134, 135, 136, 137, 138, 139, 140, 141, 142, 143, 144, 145, 146, 147, 148, 149, 150, 151, 152, 153] (by decide +kernel) (by decide +kernel)
set_option maxRecDepth 20000 in
theorem gX7_near_X7_isWholePlan : GoodIn wsX7_near (wsV RX7 219 RX7 yX7_isWholePlan wsX7_isWholePlan) := goodIn_app (goodIn_of _ (by decide +kernel)) ggX7_near_X7_isWholePlan
set_option maxRecDepth 20000 in
theorem ggX7_near_X7_list : GoodIn wsX7_near wsX7_list := goodIn_r _ [25, 26, 27, 21, 28, 29, 17, 18, 19, 5, 20, 30, 31, 32, 33, 34, 35, 36, 37, 38, 39, 40, 41, 42, 43, 44, 45, 46, 47, 48, 49, 50, 51, 52, 53, 54, 55, 56, 57, 58, 59, 60, 61, 62, 63, 64, 65, 66, 67, 68, 69, 70, 71, 72, 73, 74, 75, 76, 77, 78, 79, 80, 81, 82, 83, 84, 85, 86, 87, 88, 89, 90, 91, 92, 93, 94, 95, 114, 115, 116, 117, 118, 119, 120, 121, 122, 123, 124, 125, 126, 127, 128, 129, 130, 131, 132, 133, 134, 135, 136, 137, 138, 139, 140, 141, 142, 143, 144, 145, 146, 147, 148, 149, 150, 151, 152, 153] (by decide +kernel) (by decide +kernel)
set_option maxRecDepth 20000 in
theorem gX7_near_X7_list : GoodIn wsX7_near (wsV RX7 213 RX7 yX7_list wsX7_list) := goodIn_app (goodIn_of _ (by decide +kernel)) ggX7_near_X7_list
set_option maxRecDepth 20000 in
theorem ggX7_near_X7_all : GoodIn wsX7_near wsX7_all := goodIn_r _ [20, 21, 114, 115, 116, 117, 118, 119, 120, 121, 122, 123, 124, 125, 126, 127, 128, 129, 130, 131, 132, 133, 134, 135, 136, 137, 138, 139, 140, 141, 142, 143, 144, 145, 146, 147, 148, 149, 150, 151, 152, 153] (by decide +kernel) (by decide +kernel)
set_option maxRecDepth 20000 in
theorem gX7_near_X7_all : GoodIn wsX7_near (wsV RX7 140 RX7 yX7_all wsX7_all) := goodIn_app (goodIn_of _ (by decide +kernel)) ggX7_near_X7_all
set_option maxRecDepth 20000 in
theorem ggX7_near_X7_find : GoodIn wsX7_near wsX7_find := goodIn_r _ [99, 27, 34, 114, 115, 116, 117, 118, 119, 120, 121, 122, 123, 124, 125, 126, 127, 128, 129, 130, 131, 132, 133, 134, 135, 136, 137, 138, 139, 140, 141, 142, 143, 144, 145, 146, 147, 148, 149, 150, 151, 152, 153] (by decide +kernel) (by decide +kernel)
set_option maxRecDepth 20000 in
theorem gX7_near_X7_find : GoodIn wsX7_near (wsV RX7 216 RX7 yX7_find wsX7_find) := goodIn_app (goodIn_of _ (by decide +kernel)) ggX7_near_X7_find
set_option maxRecDepth 20000 in
theorem ggX7_near_X7_isNear : GoodIn wsX7_near wsX7_isNear := goodIn_r _ [103, 104, 105, 106, 107, 5, 108, 109, 37, 38, 110, 111, 112, 113, 27, 26, 34, 17, 18, 19, 20, 21, 114, 115, 116, 117, 118, 119, 120, 121, 122, 123, 124, 125, 126, 127, 128, 129, 130, 131, 132, 133, 134, 135, 136, 137, 138, 139, 140, 141, 142, 143, 144, 145, 146, 147, 148, 149, 150, 151, 152, 153] (by decide +kernel) (by decide +kernel)
set_option maxRecDepth 20000 in
theorem gX7_near_X7_isNear : GoodIn wsX7_near (wsV RX7 245 RX7 yX7_isNear wsX7_isNear) := goodIn_app (goodIn_of _ (by decide +kernel)) ggX7_near_X7_isNear
theorem dX7_near_0 : decode cX7_near 0 = .ok (.aload_n 0, 1) := by decide +kernel
theorem dX7_near_1 : decode cX7_near 1 = .ok (.iload_n 1, 1) := by decide +kernel
theorem dX7_near_2 : decode cX7_near 2 = .ok (.invokevirtual 210, 3) := by decide +kernel
theorem dX7_near_5 : decode cX7_near 5 = .ok (.ifCond .eq 11, 3) := by decide +kernel
theorem dX7_near_8 : decode cX7_near 8 = .ok (.aload_n 0, 1) := by decide +kernel
theorem dX7_near_9 : decode cX7_near 9 = .ok (.iload_n 2, 1) := by decide +kernel
theorem dX7_near_10 : decode cX7_near 10 = .ok (.invokevirtual 230, 3) := by decide +kernel
theorem dX7_near_13 : decode cX7_near 13 = .ok (.ifCond .ne 5, 3) := by decide +kernel
theorem dX7_near_16 : decode cX7_near 16 = .ok (.iconst (-1), 1) := by decide +kernel
theorem dX7_near_17 : decode cX7_near 17 = .ok (.ireturn, 1) := by decide +kernel
theorem dX7_near_18 : decode cX7_near 18 = .ok (.iload_n 3, 1) := by decide +kernel
theorem dX7_near_19 : decode cX7_near 19 = .ok (.ifCond .lt 10, 3) := by decide +kernel
theorem dX7_near_22 : decode cX7_near 22 = .ok (.iload_n 3, 1) := by decide +kernel
theorem dX7_near_23 : decode cX7_near 23 = .ok (.sipush 10000, 3) := by decide +kernel
theorem dX7_near_26 : decode cX7_near 26 = .ok (.if_icmp .le 6, 3) := by decide +kernel
theorem dX7_near_29 : decode cX7_near 29 = .ok (.bipush (-2), 2) := by decide +kernel
theorem dX7_near_31 : decode cX7_near 31 = .ok (.ireturn, 1) := by decide +kernel
theorem dX7_near_32 : decode cX7_near 32 = .ok (.aload_n 0, 1) := by decide +kernel
theorem dX7_near_33 : decode cX7_near 33 = .ok (.iload_n 1, 1) := by decide +kernel
theorem dX7_near_34 : decode cX7_near 34 = .ok (.invokevirtual 219, 3) := by decide +kernel
theorem dX7_near_37 : decode cX7_near 37 = .ok (.ifCond .ne 6, 3) := by decide +kernel
theorem dX7_near_40 : decode cX7_near 40 = .ok (.bipush (-3), 2) := by decide +kernel
theorem dX7_near_42 : decode cX7_near 42 = .ok (.ireturn, 1) := by decide +kernel
theorem dX7_near_43 : decode cX7_near 43 = .ok (.aload_n 0, 1) := by decide +kernel
theorem dX7_near_44 : decode cX7_near 44 = .ok (.invokevirtual 213, 3) := by decide +kernel
theorem dX7_near_47 : decode cX7_near 47 = .ok (.aload_n 0, 1) := by decide +kernel
theorem dX7_near_48 : decode cX7_near 48 = .ok (.aload_n 0, 1) := by decide +kernel
theorem dX7_near_49 : decode cX7_near 49 = .ok (.aload_n 0, 1) := by decide +kernel
theorem dX7_near_50 : decode cX7_near 50 = .ok (.invokevirtual 140, 3) := by decide +kernel
theorem dX7_near_53 : decode cX7_near 53 = .ok (.aload_n 0, 1) := by decide +kernel
theorem dX7_near_54 : decode cX7_near 54 = .ok (.getfield 47, 3) := by decide +kernel
theorem dX7_near_57 : decode cX7_near 57 = .ok (.iload_n 1, 1) := by decide +kernel
theorem dX7_near_58 : decode cX7_near 58 = .ok (.iaload, 1) := by decide +kernel
theorem dX7_near_59 : decode cX7_near 59 = .ok (.invokevirtual 216, 3) := by decide +kernel
theorem dX7_near_62 : decode cX7_near 62 = .ok (.iload_n 2, 1) := by decide +kernel
theorem dX7_near_63 : decode cX7_near 63 = .ok (.iload_n 3, 1) := by decide +kernel
theorem dX7_near_64 : decode cX7_near 64 = .ok (.invokevirtual 245, 3) := by decide +kernel
theorem dX7_near_67 : decode cX7_near 67 = .ok (.ifCond .eq 7, 3) := by decide +kernel
theorem dX7_near_70 : decode cX7_near 70 = .ok (.iconst 1, 1) := by decide +kernel
theorem dX7_near_71 : decode cX7_near 71 = .ok (.goto 4, 3) := by decide +kernel
theorem dX7_near_74 : decode cX7_near 74 = .ok (.iconst 0, 1) := by decide +kernel
theorem dX7_near_75 : decode cX7_near 75 = .ok (.ireturn, 1) := by decide +kernel
set_option maxRecDepth 20000 in
theorem ggX7_least_X7_bestAt : GoodIn wsX7_least wsX7_bestAt := goodIn_r _ [6, 7, 8, 9, 10, 11, 12, 5, 13, 14, 15, 16, 17, 18, 19, 20, 21, 22, 23, 24, 25, 26, 27, 28, 29, 30, 31, 32, 33, 34, 35, 36, 37, 38, 39, 40, 41, 42, 43, 44, 45, 46, 47, 48, 49, 50, 51, 52, 53, 54, 55, 56, 57, 58, 59, 60, 61] (by decide +kernel) (by decide +kernel)
set_option maxRecDepth 20000 in
theorem gX7_least_X7_bestAt : GoodIn wsX7_least (wsV RX7 233 RX7 yX7_bestAt wsX7_bestAt) := goodIn_app (goodIn_of _ (by decide +kernel)) ggX7_least_X7_bestAt
set_option maxRecDepth 20000 in
theorem ggX7_least_X7_at : GoodIn wsX7_least wsX7_at := goodIn_r _ [18, 19, 20, 21, 22, 23, 24, 25, 26, 27, 28, 29, 30, 31, 32, 33, 34, 35, 36, 37, 38, 39, 40, 41, 42, 43, 44, 45, 46, 47, 48, 49, 50, 51, 52, 53, 54, 55, 56, 57, 58, 59, 60, 61] (by decide +kernel) (by decide +kernel)
set_option maxRecDepth 20000 in
theorem gX7_least_X7_at : GoodIn wsX7_least (wsV RX7 226 RX7 yX7_at wsX7_at) := goodIn_app (goodIn_of _ (by decide +kernel)) ggX7_least_X7_at
theorem dX7_least_0 : decode cX7_least 0 = .ok (.iconst 0, 1) := by decide +kernel
theorem dX7_least_1 : decode cX7_least 1 = .ok (.istore_n 1, 1) := by decide +kernel
theorem dX7_least_2 : decode cX7_least 2 = .ok (.iload_n 1, 1) := by decide +kernel
theorem dX7_least_3 : decode cX7_least 3 = .ok (.bipush 32, 2) := by decide +kernel
theorem dX7_least_5 : decode cX7_least 5 = .ok (.if_icmp .gt 25, 3) := by decide +kernel
theorem dX7_least_8 : decode cX7_least 8 = .ok (.aload_n 0, 1) := by decide +kernel
theorem dX7_least_9 : decode cX7_least 9 = .ok (.getfield 94, 3) := by decide +kernel
theorem dX7_least_12 : decode cX7_least 12 = .ok (.iload_n 1, 1) := by decide +kernel
theorem dX7_least_13 : decode cX7_least 13 = .ok (.aload_n 0, 1) := by decide +kernel
theorem dX7_least_14 : decode cX7_least 14 = .ok (.aload_n 0, 1) := by decide +kernel
theorem dX7_least_15 : decode cX7_least 15 = .ok (.iload_n 1, 1) := by decide +kernel
theorem dX7_least_16 : decode cX7_least 16 = .ok (.invokevirtual 233, 3) := by decide +kernel
theorem dX7_least_19 : decode cX7_least 19 = .ok (.iload_n 1, 1) := by decide +kernel
theorem dX7_least_20 : decode cX7_least 20 = .ok (.invokevirtual 226, 3) := by decide +kernel
theorem dX7_least_23 : decode cX7_least 23 = .ok (.lastore, 1) := by decide +kernel
theorem dX7_least_24 : decode cX7_least 24 = .ok (.iinc 1 1, 3) := by decide +kernel
theorem dX7_least_27 : decode cX7_least 27 = .ok (.goto (-25), 3) := by decide +kernel
theorem dX7_least_30 : decode cX7_least 30 = .ok (.return_, 1) := by decide +kernel
set_option maxRecDepth 20000 in
theorem ggX7_worstOf_X7_at : GoodIn wsX7_worstOf wsX7_at := goodIn_r _ [6, 7, 8, 9, 10, 11, 12, 13, 14, 15, 16, 17, 18, 19, 20, 21, 22, 23, 24, 25, 26, 27, 28, 29, 30, 31, 32, 33, 34, 35, 36, 37, 38, 39, 40, 41, 42, 43, 44, 45, 46, 47, 48, 49] (by decide +kernel) (by decide +kernel)
set_option maxRecDepth 20000 in
theorem gX7_worstOf_X7_at : GoodIn wsX7_worstOf (wsV RX7 226 RX7 yX7_at wsX7_at) := goodIn_app (goodIn_of _ (by decide +kernel)) ggX7_worstOf_X7_at
theorem dX7_worstOf_0 : decode cX7_worstOf 0 = .ok (.iconst 0, 1) := by decide +kernel
theorem dX7_worstOf_1 : decode cX7_worstOf 1 = .ok (.istore_n 2, 1) := by decide +kernel
theorem dX7_worstOf_2 : decode cX7_worstOf 2 = .ok (.iconst 1, 1) := by decide +kernel
theorem dX7_worstOf_3 : decode cX7_worstOf 3 = .ok (.istore_n 3, 1) := by decide +kernel
theorem dX7_worstOf_4 : decode cX7_worstOf 4 = .ok (.iload_n 3, 1) := by decide +kernel
theorem dX7_worstOf_5 : decode cX7_worstOf 5 = .ok (.bipush 32, 2) := by decide +kernel
theorem dX7_worstOf_7 : decode cX7_worstOf 7 = .ok (.if_icmp .gt 41, 3) := by decide +kernel
theorem dX7_worstOf_10 : decode cX7_worstOf 10 = .ok (.aload_n 0, 1) := by decide +kernel
theorem dX7_worstOf_11 : decode cX7_worstOf 11 = .ok (.iload_n 1, 1) := by decide +kernel
theorem dX7_worstOf_12 : decode cX7_worstOf 12 = .ok (.iload_n 3, 1) := by decide +kernel
theorem dX7_worstOf_13 : decode cX7_worstOf 13 = .ok (.invokevirtual 226, 3) := by decide +kernel
theorem dX7_worstOf_16 : decode cX7_worstOf 16 = .ok (.aload_n 0, 1) := by decide +kernel
theorem dX7_worstOf_17 : decode cX7_worstOf 17 = .ok (.getfield 94, 3) := by decide +kernel
theorem dX7_worstOf_20 : decode cX7_worstOf 20 = .ok (.iload_n 2, 1) := by decide +kernel
theorem dX7_worstOf_21 : decode cX7_worstOf 21 = .ok (.laload, 1) := by decide +kernel
theorem dX7_worstOf_22 : decode cX7_worstOf 22 = .ok (.lmul, 1) := by decide +kernel
theorem dX7_worstOf_23 : decode cX7_worstOf 23 = .ok (.aload_n 0, 1) := by decide +kernel
theorem dX7_worstOf_24 : decode cX7_worstOf 24 = .ok (.iload_n 1, 1) := by decide +kernel
theorem dX7_worstOf_25 : decode cX7_worstOf 25 = .ok (.iload_n 2, 1) := by decide +kernel
theorem dX7_worstOf_26 : decode cX7_worstOf 26 = .ok (.invokevirtual 226, 3) := by decide +kernel
theorem dX7_worstOf_29 : decode cX7_worstOf 29 = .ok (.aload_n 0, 1) := by decide +kernel
theorem dX7_worstOf_30 : decode cX7_worstOf 30 = .ok (.getfield 94, 3) := by decide +kernel
theorem dX7_worstOf_33 : decode cX7_worstOf 33 = .ok (.iload_n 3, 1) := by decide +kernel
theorem dX7_worstOf_34 : decode cX7_worstOf 34 = .ok (.laload, 1) := by decide +kernel
theorem dX7_worstOf_35 : decode cX7_worstOf 35 = .ok (.lmul, 1) := by decide +kernel
theorem dX7_worstOf_36 : decode cX7_worstOf 36 = .ok (.lcmp, 1) := by decide +kernel
theorem dX7_worstOf_37 : decode cX7_worstOf 37 = .ok (.ifCond .le 5, 3) := by decide +kernel
theorem dX7_worstOf_40 : decode cX7_worstOf 40 = .ok (.iload_n 3, 1) := by decide +kernel
theorem dX7_worstOf_41 : decode cX7_worstOf 41 = .ok (.istore_n 2, 1) := by decide +kernel
theorem dX7_worstOf_42 : decode cX7_worstOf 42 = .ok (.iinc 3 1, 3) := by decide +kernel
theorem dX7_worstOf_45 : decode cX7_worstOf 45 = .ok (.goto (-41), 3) := by decide +kernel
theorem dX7_worstOf_48 : decode cX7_worstOf 48 = .ok (.iload_n 2, 1) := by decide +kernel
