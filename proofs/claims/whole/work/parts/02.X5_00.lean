theorem dX5_init_0 : decode cX5_init 0 = .ok (.aload_n 0, 1) := by decide +kernel
theorem dX5_init_1 : decode cX5_init 1 = .ok (.invokespecial 3, 3) := by decide +kernel
theorem dX5_init_4 : decode cX5_init 4 = .ok (.aload_n 0, 1) := by decide +kernel
theorem dX5_init_5 : decode cX5_init 5 = .ok (.bipush 120, 2) := by decide +kernel
theorem dX5_init_7 : decode cX5_init 7 = .ok (.anewarray 9, 3) := by decide +kernel
theorem dX5_init_10 : decode cX5_init 10 = .ok (.putfield 11, 3) := by decide +kernel
theorem dX5_init_13 : decode cX5_init 13 = .ok (.aload_n 0, 1) := by decide +kernel
theorem dX5_init_14 : decode cX5_init 14 = .ok (.bipush 121, 2) := by decide +kernel
theorem dX5_init_16 : decode cX5_init 16 = .ok (.newarray .long, 2) := by decide +kernel
theorem dX5_init_18 : decode cX5_init 18 = .ok (.putfield 17, 3) := by decide +kernel
theorem dX5_init_21 : decode cX5_init 21 = .ok (.aload_n 0, 1) := by decide +kernel
theorem dX5_init_22 : decode cX5_init 22 = .ok (.bipush 121, 2) := by decide +kernel
theorem dX5_init_24 : decode cX5_init 24 = .ok (.newarray .long, 2) := by decide +kernel
theorem dX5_init_26 : decode cX5_init 26 = .ok (.putfield 21, 3) := by decide +kernel
theorem dX5_init_29 : decode cX5_init 29 = .ok (.aload_n 0, 1) := by decide +kernel
theorem dX5_init_30 : decode cX5_init 30 = .ok (.bipush 33, 2) := by decide +kernel
theorem dX5_init_32 : decode cX5_init 32 = .ok (.newarray .long, 2) := by decide +kernel
theorem dX5_init_34 : decode cX5_init 34 = .ok (.putfield 24, 3) := by decide +kernel
theorem dX5_init_37 : decode cX5_init 37 = .ok (.aload_n 0, 1) := by decide +kernel
theorem dX5_init_38 : decode cX5_init 38 = .ok (.bipush 16, 2) := by decide +kernel
theorem dX5_init_40 : decode cX5_init 40 = .ok (.newarray .long, 2) := by decide +kernel
theorem dX5_init_42 : decode cX5_init 42 = .ok (.putfield 27, 3) := by decide +kernel
theorem dX5_init_45 : decode cX5_init 45 = .ok (.aload_n 0, 1) := by decide +kernel
theorem dX5_init_46 : decode cX5_init 46 = .ok (.aload_n 1, 1) := by decide +kernel
theorem dX5_init_47 : decode cX5_init 47 = .ok (.putfield 30, 3) := by decide +kernel
theorem dX5_init_50 : decode cX5_init 50 = .ok (.return_, 1) := by decide +kernel
theorem dX5_planOf_0 : decode cX5_planOf 0 = .ok (.iload_n 1, 1) := by decide +kernel
theorem dX5_planOf_1 : decode cX5_planOf 1 = .ok (.ifCond .lt 17, 3) := by decide +kernel
theorem dX5_planOf_4 : decode cX5_planOf 4 = .ok (.iload_n 1, 1) := by decide +kernel
theorem dX5_planOf_5 : decode cX5_planOf 5 = .ok (.aload_n 0, 1) := by decide +kernel
theorem dX5_planOf_6 : decode cX5_planOf 6 = .ok (.getfield 34, 3) := by decide +kernel
theorem dX5_planOf_9 : decode cX5_planOf 9 = .ok (.if_icmp .ge 9, 3) := by decide +kernel
theorem dX5_planOf_12 : decode cX5_planOf 12 = .ok (.iload_n 1, 1) := by decide +kernel
theorem dX5_planOf_13 : decode cX5_planOf 13 = .ok (.bipush 120, 2) := by decide +kernel
theorem dX5_planOf_15 : decode cX5_planOf 15 = .ok (.if_icmp .lt 7, 3) := by decide +kernel
theorem dX5_planOf_18 : decode cX5_planOf 18 = .ok (.aconst_null, 1) := by decide +kernel
theorem dX5_planOf_19 : decode cX5_planOf 19 = .ok (.goto 9, 3) := by decide +kernel
theorem dX5_planOf_22 : decode cX5_planOf 22 = .ok (.aload_n 0, 1) := by decide +kernel
theorem dX5_planOf_23 : decode cX5_planOf 23 = .ok (.getfield 11, 3) := by decide +kernel
theorem dX5_planOf_26 : decode cX5_planOf 26 = .ok (.iload_n 1, 1) := by decide +kernel
theorem dX5_planOf_27 : decode cX5_planOf 27 = .ok (.aaload, 1) := by decide +kernel
theorem dX5_planOf_28 : decode cX5_planOf 28 = .ok (.areturn, 1) := by decide +kernel
theorem dX5_borderAbove_0 : decode cX5_borderAbove 0 = .ok (.iload_n 1, 1) := by decide +kernel
theorem dX5_borderAbove_1 : decode cX5_borderAbove 1 = .ok (.ifCond .lt 17, 3) := by decide +kernel
theorem dX5_borderAbove_4 : decode cX5_borderAbove 4 = .ok (.iload_n 1, 1) := by decide +kernel
theorem dX5_borderAbove_5 : decode cX5_borderAbove 5 = .ok (.aload_n 0, 1) := by decide +kernel
theorem dX5_borderAbove_6 : decode cX5_borderAbove 6 = .ok (.getfield 34, 3) := by decide +kernel
theorem dX5_borderAbove_9 : decode cX5_borderAbove 9 = .ok (.if_icmp .gt 9, 3) := by decide +kernel
theorem dX5_borderAbove_12 : decode cX5_borderAbove 12 = .ok (.iload_n 1, 1) := by decide +kernel
theorem dX5_borderAbove_13 : decode cX5_borderAbove 13 = .ok (.bipush 120, 2) := by decide +kernel
theorem dX5_borderAbove_15 : decode cX5_borderAbove 15 = .ok (.if_icmp .le 9, 3) := by decide +kernel
theorem dX5_borderAbove_18 : decode cX5_borderAbove 18 = .ok (.ldc2_w 38, 3) := by decide +kernel
theorem dX5_borderAbove_21 : decode cX5_borderAbove 21 = .ok (.goto 9, 3) := by decide +kernel
theorem dX5_borderAbove_24 : decode cX5_borderAbove 24 = .ok (.aload_n 0, 1) := by decide +kernel
theorem dX5_borderAbove_25 : decode cX5_borderAbove 25 = .ok (.getfield 17, 3) := by decide +kernel
theorem dX5_borderAbove_28 : decode cX5_borderAbove 28 = .ok (.iload_n 1, 1) := by decide +kernel
theorem dX5_borderAbove_29 : decode cX5_borderAbove 29 = .ok (.laload, 1) := by decide +kernel
theorem dX5_borderAbove_30 : decode cX5_borderAbove 30 = .ok (.lreturn, 1) := by decide +kernel
theorem dX5_borderBelow_0 : decode cX5_borderBelow 0 = .ok (.iload_n 1, 1) := by decide +kernel
theorem dX5_borderBelow_1 : decode cX5_borderBelow 1 = .ok (.ifCond .lt 17, 3) := by decide +kernel
theorem dX5_borderBelow_4 : decode cX5_borderBelow 4 = .ok (.iload_n 1, 1) := by decide +kernel
theorem dX5_borderBelow_5 : decode cX5_borderBelow 5 = .ok (.aload_n 0, 1) := by decide +kernel
theorem dX5_borderBelow_6 : decode cX5_borderBelow 6 = .ok (.getfield 34, 3) := by decide +kernel
theorem dX5_borderBelow_9 : decode cX5_borderBelow 9 = .ok (.if_icmp .gt 9, 3) := by decide +kernel
theorem dX5_borderBelow_12 : decode cX5_borderBelow 12 = .ok (.iload_n 1, 1) := by decide +kernel
theorem dX5_borderBelow_13 : decode cX5_borderBelow 13 = .ok (.bipush 120, 2) := by decide +kernel
theorem dX5_borderBelow_15 : decode cX5_borderBelow 15 = .ok (.if_icmp .le 9, 3) := by decide +kernel
theorem dX5_borderBelow_18 : decode cX5_borderBelow 18 = .ok (.ldc2_w 38, 3) := by decide +kernel
theorem dX5_borderBelow_21 : decode cX5_borderBelow 21 = .ok (.goto 9, 3) := by decide +kernel
theorem dX5_borderBelow_24 : decode cX5_borderBelow 24 = .ok (.aload_n 0, 1) := by decide +kernel
theorem dX5_borderBelow_25 : decode cX5_borderBelow 25 = .ok (.getfield 21, 3) := by decide +kernel
theorem dX5_borderBelow_28 : decode cX5_borderBelow 28 = .ok (.iload_n 1, 1) := by decide +kernel
theorem dX5_borderBelow_29 : decode cX5_borderBelow 29 = .ok (.laload, 1) := by decide +kernel
theorem dX5_borderBelow_30 : decode cX5_borderBelow 30 = .ok (.lreturn, 1) := by decide +kernel
set_option maxRecDepth 20000 in
theorem ggX5_find_X0_cheapest : GoodIn wsX5_find wsX0_cheapest := goodIn_r _ [10, 11, 12, 13, 14, 15, 16, 17, 18, 19, 20, 21, 22, 23, 24, 25, 26, 27, 28, 29, 30, 31, 9, 32, 33, 34, 35, 36, 37, 38, 39, 40, 41, 42, 43, 44, 45, 46, 47, 48, 49, 50, 51, 52, 53, 54, 55, 56, 57, 58, 59, 60, 61, 62, 63, 64, 65, 66, 67, 68, 69, 70, 71, 72, 73, 74, 75, 76, 77, 78, 79, 80, 81, 82, 83, 84, 85, 86, 87, 88, 89, 90, 91, 92, 93, 94, 95, 96, 97, 98, 99, 100, 101, 102, 103, 104, 105, 106, 107, 108, 109, 110, 111, 112, 113, 114, 169, 170, 171, 172, 173, 174, 175, 176, 177, 178, 179, 180, 181, 182, 183, 184, 185, 186, 187, 188, 189, 190, 191, 164, 165, 166, 167, 168, 192, 193, 194] (by decide +kernel) (by decide +kernel)
set_option maxRecDepth 20000 in
theorem gX5_find_X0_cheapest : GoodIn wsX5_find (wsV RX5 40 RX0 yX0_cheapest wsX0_cheapest) := goodIn_app (goodIn_of _ (by decide +kernel)) ggX5_find_X0_cheapest
set_option maxRecDepth 20000 in
theorem ggX5_find_X5_insert : GoodIn wsX5_find wsX5_insert := goodIn_r _ [119, 1, 120, 157, 158, 159, 160, 161, 162, 163] (by decide +kernel) (by decide +kernel)
set_option maxRecDepth 20000 in
theorem gX5_find_X5_insert : GoodIn wsX5_find (wsV RX5 46 RX5 yX5_insert wsX5_insert) := goodIn_app (goodIn_of _ (by decide +kernel)) ggX5_find_X5_insert
set_option maxRecDepth 20000 in
theorem ggX5_find_X5_planOf : GoodIn wsX5_find wsX5_planOf := goodIn_r _ [124, 1, 120, 157, 158, 159, 160, 161, 162, 163] (by decide +kernel) (by decide +kernel)
set_option maxRecDepth 20000 in
theorem gX5_find_X5_planOf : GoodIn wsX5_find (wsV RX5 52 RX5 yX5_planOf wsX5_planOf) := goodIn_app (goodIn_of _ (by decide +kernel)) ggX5_find_X5_planOf
set_option maxRecDepth 20000 in
theorem ggX5_find_X1_hasLineOf : GoodIn wsX5_find wsX1_hasLineOf := goodIn_r _ [128, 112, 113, 164, 165, 166, 167, 168] (by decide +kernel) (by decide +kernel)
set_option maxRecDepth 20000 in
theorem gX5_find_X1_hasLineOf : GoodIn wsX5_find (wsV RX5 56 RX1 yX1_hasLineOf wsX1_hasLineOf) := goodIn_app (goodIn_of _ (by decide +kernel)) ggX5_find_X1_hasLineOf
set_option maxRecDepth 20000 in
theorem ggX5_find_X1_isDearer : GoodIn wsX5_find wsX1_isDearer := goodIn_r _ [132, 112, 113, 164, 165, 166, 167, 168] (by decide +kernel) (by decide +kernel)
set_option maxRecDepth 20000 in
theorem gX5_find_X1_isDearer : GoodIn wsX5_find (wsV RX5 67 RX1 yX1_isDearer wsX1_isDearer) := goodIn_app (goodIn_of _ (by decide +kernel)) ggX5_find_X1_isDearer
set_option maxRecDepth 20000 in
theorem ggX5_find_X5_setBorder : GoodIn wsX5_find wsX5_setBorder := goodIn_r _ [136, 137, 138, 139, 140, 118, 141, 157, 158, 159, 160, 161, 162, 163] (by decide +kernel) (by decide +kernel)
set_option maxRecDepth 20000 in
theorem gX5_find_X5_setBorder : GoodIn wsX5_find (wsV RX5 71 RX5 yX5_setBorder wsX5_setBorder) := goodIn_app (goodIn_of _ (by decide +kernel)) ggX5_find_X5_setBorder
set_option maxRecDepth 20000 in
theorem ggX5_find_X5_findLeastPrices : GoodIn wsX5_find wsX5_findLeastPrices := goodIn_r _ [145, 146, 1, 147, 148, 149, 150, 151, 121, 122, 123, 118, 124, 120, 152, 153, 154, 19, 155, 112, 156, 113, 157, 158, 159, 160, 161, 162, 163, 164, 165, 166, 167, 168] (by decide +kernel) (by decide +kernel)
set_option maxRecDepth 20000 in
theorem gX5_find_X5_findLeastPrices : GoodIn wsX5_find (wsV RX5 75 RX5 yX5_findLeastPrices wsX5_findLeastPrices) := goodIn_app (goodIn_of _ (by decide +kernel)) ggX5_find_X5_findLeastPrices
theorem dX5_find_0 : decode cX5_find 0 = .ok (.aload_n 0, 1) := by decide +kernel
theorem dX5_find_1 : decode cX5_find 1 = .ok (.iconst 0, 1) := by decide +kernel
theorem dX5_find_2 : decode cX5_find 2 = .ok (.putfield 34, 3) := by decide +kernel
theorem dX5_find_5 : decode cX5_find 5 = .ok (.aload_n 0, 1) := by decide +kernel
theorem dX5_find_6 : decode cX5_find 6 = .ok (.iconst 0, 1) := by decide +kernel
theorem dX5_find_7 : decode cX5_find 7 = .ok (.aload_n 0, 1) := by decide +kernel
theorem dX5_find_8 : decode cX5_find 8 = .ok (.getfield 30, 3) := by decide +kernel
theorem dX5_find_11 : decode cX5_find 11 = .ok (.lconst 0, 1) := by decide +kernel
theorem dX5_find_12 : decode cX5_find 12 = .ok (.lconst 1, 1) := by decide +kernel
theorem dX5_find_13 : decode cX5_find 13 = .ok (.iconst (-1), 1) := by decide +kernel
theorem dX5_find_14 : decode cX5_find 14 = .ok (.invokevirtual 40, 3) := by decide +kernel
theorem dX5_find_17 : decode cX5_find 17 = .ok (.invokevirtual 46, 3) := by decide +kernel
theorem dX5_find_20 : decode cX5_find 20 = .ok (.pop, 1) := by decide +kernel
theorem dX5_find_21 : decode cX5_find 21 = .ok (.aload_n 0, 1) := by decide +kernel
theorem dX5_find_22 : decode cX5_find 22 = .ok (.getfield 30, 3) := by decide +kernel
theorem dX5_find_25 : decode cX5_find 25 = .ok (.ldc2_w 50, 3) := by decide +kernel
theorem dX5_find_28 : decode cX5_find 28 = .ok (.lconst 1, 1) := by decide +kernel
theorem dX5_find_29 : decode cX5_find 29 = .ok (.iconst 1, 1) := by decide +kernel
theorem dX5_find_30 : decode cX5_find 30 = .ok (.invokevirtual 40, 3) := by decide +kernel
theorem dX5_find_33 : decode cX5_find 33 = .ok (.astore_n 1, 1) := by decide +kernel
theorem dX5_find_34 : decode cX5_find 34 = .ok (.aload_n 1, 1) := by decide +kernel
theorem dX5_find_35 : decode cX5_find 35 = .ok (.ifnull 25, 3) := by decide +kernel
theorem dX5_find_38 : decode cX5_find 38 = .ok (.aload_n 1, 1) := by decide +kernel
theorem dX5_find_39 : decode cX5_find 39 = .ok (.aload_n 0, 1) := by decide +kernel
theorem dX5_find_40 : decode cX5_find 40 = .ok (.iconst 0, 1) := by decide +kernel
theorem dX5_find_41 : decode cX5_find 41 = .ok (.invokevirtual 52, 3) := by decide +kernel
theorem dX5_find_44 : decode cX5_find 44 = .ok (.invokevirtual 56, 3) := by decide +kernel
theorem dX5_find_47 : decode cX5_find 47 = .ok (.ifCond .ne 13, 3) := by decide +kernel
theorem dX5_find_50 : decode cX5_find 50 = .ok (.aload_n 0, 1) := by decide +kernel
theorem dX5_find_51 : decode cX5_find 51 = .ok (.aload_n 0, 1) := by decide +kernel
theorem dX5_find_52 : decode cX5_find 52 = .ok (.getfield 34, 3) := by decide +kernel
theorem dX5_find_55 : decode cX5_find 55 = .ok (.aload_n 1, 1) := by decide +kernel
theorem dX5_find_56 : decode cX5_find 56 = .ok (.invokevirtual 46, 3) := by decide +kernel
theorem dX5_find_59 : decode cX5_find 59 = .ok (.pop, 1) := by decide +kernel
theorem dX5_find_60 : decode cX5_find 60 = .ok (.iconst 0, 1) := by decide +kernel
theorem dX5_find_61 : decode cX5_find 61 = .ok (.istore_n 2, 1) := by decide +kernel
theorem dX5_find_62 : decode cX5_find 62 = .ok (.iconst 0, 1) := by decide +kernel
theorem dX5_find_63 : decode cX5_find 63 = .ok (.istore_n 3, 1) := by decide +kernel
theorem dX5_find_64 : decode cX5_find 64 = .ok (.iload_n 3, 1) := by decide +kernel
theorem dX5_find_65 : decode cX5_find 65 = .ok (.sipush 240, 3) := by decide +kernel
theorem dX5_find_68 : decode cX5_find 68 = .ok (.if_icmp .ge 131, 3) := by decide +kernel
theorem dX5_find_71 : decode cX5_find 71 = .ok (.iload_n 2, 1) := by decide +kernel
theorem dX5_find_72 : decode cX5_find 72 = .ok (.iconst 1, 1) := by decide +kernel
theorem dX5_find_73 : decode cX5_find 73 = .ok (.iadd, 1) := by decide +kernel
theorem dX5_find_74 : decode cX5_find 74 = .ok (.aload_n 0, 1) := by decide +kernel
theorem dX5_find_75 : decode cX5_find 75 = .ok (.getfield 34, 3) := by decide +kernel
theorem dX5_find_78 : decode cX5_find 78 = .ok (.if_icmp .ge 121, 3) := by decide +kernel
theorem dX5_find_81 : decode cX5_find 81 = .ok (.aload_n 0, 1) := by decide +kernel
theorem dX5_find_82 : decode cX5_find 82 = .ok (.iload_n 2, 1) := by decide +kernel
theorem dX5_find_83 : decode cX5_find 83 = .ok (.invokevirtual 52, 3) := by decide +kernel
theorem dX5_find_86 : decode cX5_find 86 = .ok (.astore 4, 2) := by decide +kernel
theorem dX5_find_88 : decode cX5_find 88 = .ok (.aload_n 0, 1) := by decide +kernel
theorem dX5_find_89 : decode cX5_find 89 = .ok (.iload_n 2, 1) := by decide +kernel
theorem dX5_find_90 : decode cX5_find 90 = .ok (.iconst 1, 1) := by decide +kernel
theorem dX5_find_91 : decode cX5_find 91 = .ok (.iadd, 1) := by decide +kernel
theorem dX5_find_92 : decode cX5_find 92 = .ok (.invokevirtual 52, 3) := by decide +kernel
theorem dX5_find_95 : decode cX5_find 95 = .ok (.astore 5, 2) := by decide +kernel
theorem dX5_find_97 : decode cX5_find 97 = .ok (.aload 4, 2) := by decide +kernel
theorem dX5_find_99 : decode cX5_find 99 = .ok (.ifnull 100, 3) := by decide +kernel
theorem dX5_find_102 : decode cX5_find 102 = .ok (.aload 5, 2) := by decide +kernel
theorem dX5_find_104 : decode cX5_find 104 = .ok (.ifnonnull 6, 3) := by decide +kernel
theorem dX5_find_107 : decode cX5_find 107 = .ok (.goto 92, 3) := by decide +kernel
theorem dX5_find_110 : decode cX5_find 110 = .ok (.aload 5, 2) := by decide +kernel
theorem dX5_find_112 : decode cX5_find 112 = .ok (.getfield 60, 3) := by decide +kernel
theorem dX5_find_115 : decode cX5_find 115 = .ok (.aload 4, 2) := by decide +kernel
theorem dX5_find_117 : decode cX5_find 117 = .ok (.getfield 60, 3) := by decide +kernel
theorem dX5_find_120 : decode cX5_find 120 = .ok (.lsub, 1) := by decide +kernel
theorem dX5_find_121 : decode cX5_find 121 = .ok (.lstore 6, 2) := by decide +kernel
theorem dX5_find_123 : decode cX5_find 123 = .ok (.aload 4, 2) := by decide +kernel
theorem dX5_find_125 : decode cX5_find 125 = .ok (.getfield 64, 3) := by decide +kernel
theorem dX5_find_128 : decode cX5_find 128 = .ok (.aload 5, 2) := by decide +kernel
theorem dX5_find_130 : decode cX5_find 130 = .ok (.getfield 64, 3) := by decide +kernel
theorem dX5_find_133 : decode cX5_find 133 = .ok (.lsub, 1) := by decide +kernel
theorem dX5_find_134 : decode cX5_find 134 = .ok (.lstore 8, 2) := by decide +kernel
theorem dX5_find_136 : decode cX5_find 136 = .ok (.aload_n 0, 1) := by decide +kernel
theorem dX5_find_137 : decode cX5_find 137 = .ok (.getfield 30, 3) := by decide +kernel
theorem dX5_find_140 : decode cX5_find 140 = .ok (.lload 6, 2) := by decide +kernel
theorem dX5_find_142 : decode cX5_find 142 = .ok (.lload 8, 2) := by decide +kernel
theorem dX5_find_144 : decode cX5_find 144 = .ok (.iconst (-1), 1) := by decide +kernel
theorem dX5_find_145 : decode cX5_find 145 = .ok (.invokevirtual 40, 3) := by decide +kernel
theorem dX5_find_148 : decode cX5_find 148 = .ok (.astore 10, 2) := by decide +kernel
theorem dX5_find_150 : decode cX5_find 150 = .ok (.aload 4, 2) := by decide +kernel
theorem dX5_find_152 : decode cX5_find 152 = .ok (.aload 10, 2) := by decide +kernel
theorem dX5_find_154 : decode cX5_find 154 = .ok (.lload 6, 2) := by decide +kernel
theorem dX5_find_156 : decode cX5_find 156 = .ok (.lload 8, 2) := by decide +kernel
theorem dX5_find_158 : decode cX5_find 158 = .ok (.invokevirtual 67, 3) := by decide +kernel
theorem dX5_find_161 : decode cX5_find 161 = .ok (.ifCond .eq 18, 3) := by decide +kernel
theorem dX5_find_164 : decode cX5_find 164 = .ok (.aload_n 0, 1) := by decide +kernel
theorem dX5_find_165 : decode cX5_find 165 = .ok (.iload_n 2, 1) := by decide +kernel
theorem dX5_find_166 : decode cX5_find 166 = .ok (.iconst 1, 1) := by decide +kernel
theorem dX5_find_167 : decode cX5_find 167 = .ok (.iadd, 1) := by decide +kernel
theorem dX5_find_168 : decode cX5_find 168 = .ok (.aload 10, 2) := by decide +kernel
theorem dX5_find_170 : decode cX5_find 170 = .ok (.invokevirtual 46, 3) := by decide +kernel
theorem dX5_find_173 : decode cX5_find 173 = .ok (.ifCond .eq 6, 3) := by decide +kernel
theorem dX5_find_176 : decode cX5_find 176 = .ok (.goto 17, 3) := by decide +kernel
theorem dX5_find_179 : decode cX5_find 179 = .ok (.aload_n 0, 1) := by decide +kernel
theorem dX5_find_180 : decode cX5_find 180 = .ok (.iload_n 2, 1) := by decide +kernel
theorem dX5_find_181 : decode cX5_find 181 = .ok (.iconst 1, 1) := by decide +kernel
theorem dX5_find_182 : decode cX5_find 182 = .ok (.iadd, 1) := by decide +kernel
theorem dX5_find_183 : decode cX5_find 183 = .ok (.lload 6, 2) := by decide +kernel
theorem dX5_find_185 : decode cX5_find 185 = .ok (.lload 8, 2) := by decide +kernel
theorem dX5_find_187 : decode cX5_find 187 = .ok (.invokevirtual 71, 3) := by decide +kernel
theorem dX5_find_190 : decode cX5_find 190 = .ok (.iinc 2 1, 3) := by decide +kernel
theorem dX5_find_193 : decode cX5_find 193 = .ok (.iinc 3 1, 3) := by decide +kernel
theorem dX5_find_196 : decode cX5_find 196 = .ok (.goto (-132), 3) := by decide +kernel
theorem dX5_find_199 : decode cX5_find 199 = .ok (.aload_n 0, 1) := by decide +kernel
theorem dX5_find_200 : decode cX5_find 200 = .ok (.iconst 0, 1) := by decide +kernel
theorem dX5_find_201 : decode cX5_find 201 = .ok (.lconst 0, 1) := by decide +kernel
theorem dX5_find_202 : decode cX5_find 202 = .ok (.lconst 1, 1) := by decide +kernel
theorem dX5_find_203 : decode cX5_find 203 = .ok (.invokevirtual 71, 3) := by decide +kernel
theorem dX5_find_206 : decode cX5_find 206 = .ok (.aload_n 0, 1) := by decide +kernel
theorem dX5_find_207 : decode cX5_find 207 = .ok (.aload_n 0, 1) := by decide +kernel
theorem dX5_find_208 : decode cX5_find 208 = .ok (.getfield 34, 3) := by decide +kernel
theorem dX5_find_211 : decode cX5_find 211 = .ok (.ldc2_w 50, 3) := by decide +kernel
theorem dX5_find_214 : decode cX5_find 214 = .ok (.lconst 1, 1) := by decide +kernel
theorem dX5_find_215 : decode cX5_find 215 = .ok (.invokevirtual 71, 3) := by decide +kernel
theorem dX5_find_218 : decode cX5_find 218 = .ok (.aload_n 0, 1) := by decide +kernel
theorem dX5_find_219 : decode cX5_find 219 = .ok (.invokevirtual 75, 3) := by decide +kernel
theorem dX5_find_222 : decode cX5_find 222 = .ok (.return_, 1) := by decide +kernel
theorem dX5_insert_0 : decode cX5_insert 0 = .ok (.aload_n 2, 1) := by decide +kernel
theorem dX5_insert_1 : decode cX5_insert 1 = .ok (.ifnull 24, 3) := by decide +kernel
theorem dX5_insert_4 : decode cX5_insert 4 = .ok (.aload_n 0, 1) := by decide +kernel
theorem dX5_insert_5 : decode cX5_insert 5 = .ok (.getfield 34, 3) := by decide +kernel
theorem dX5_insert_8 : decode cX5_insert 8 = .ok (.bipush 120, 2) := by decide +kernel
theorem dX5_insert_10 : decode cX5_insert 10 = .ok (.if_icmp .ge 15, 3) := by decide +kernel
theorem dX5_insert_13 : decode cX5_insert 13 = .ok (.iload_n 1, 1) := by decide +kernel
theorem dX5_insert_14 : decode cX5_insert 14 = .ok (.ifCond .lt 11, 3) := by decide +kernel
theorem dX5_insert_17 : decode cX5_insert 17 = .ok (.iload_n 1, 1) := by decide +kernel
theorem dX5_insert_18 : decode cX5_insert 18 = .ok (.aload_n 0, 1) := by decide +kernel
theorem dX5_insert_19 : decode cX5_insert 19 = .ok (.getfield 34, 3) := by decide +kernel
theorem dX5_insert_22 : decode cX5_insert 22 = .ok (.if_icmp .le 5, 3) := by decide +kernel
theorem dX5_insert_25 : decode cX5_insert 25 = .ok (.iconst 0, 1) := by decide +kernel
theorem dX5_insert_26 : decode cX5_insert 26 = .ok (.ireturn, 1) := by decide +kernel
theorem dX5_insert_27 : decode cX5_insert 27 = .ok (.aload_n 0, 1) := by decide +kernel
theorem dX5_insert_28 : decode cX5_insert 28 = .ok (.getfield 34, 3) := by decide +kernel
theorem dX5_insert_31 : decode cX5_insert 31 = .ok (.istore_n 3, 1) := by decide +kernel
theorem dX5_insert_32 : decode cX5_insert 32 = .ok (.iload_n 3, 1) := by decide +kernel
theorem dX5_insert_33 : decode cX5_insert 33 = .ok (.iload_n 1, 1) := by decide +kernel
theorem dX5_insert_34 : decode cX5_insert 34 = .ok (.if_icmp .le 23, 3) := by decide +kernel
theorem dX5_insert_37 : decode cX5_insert 37 = .ok (.aload_n 0, 1) := by decide +kernel
theorem dX5_insert_38 : decode cX5_insert 38 = .ok (.getfield 11, 3) := by decide +kernel
theorem dX5_insert_41 : decode cX5_insert 41 = .ok (.iload_n 3, 1) := by decide +kernel
theorem dX5_insert_42 : decode cX5_insert 42 = .ok (.aload_n 0, 1) := by decide +kernel
theorem dX5_insert_43 : decode cX5_insert 43 = .ok (.getfield 11, 3) := by decide +kernel
theorem dX5_insert_46 : decode cX5_insert 46 = .ok (.iload_n 3, 1) := by decide +kernel
theorem dX5_insert_47 : decode cX5_insert 47 = .ok (.iconst 1, 1) := by decide +kernel
theorem dX5_insert_48 : decode cX5_insert 48 = .ok (.isub, 1) := by decide +kernel
theorem dX5_insert_49 : decode cX5_insert 49 = .ok (.aaload, 1) := by decide +kernel
theorem dX5_insert_50 : decode cX5_insert 50 = .ok (.aastore, 1) := by decide +kernel
theorem dX5_insert_51 : decode cX5_insert 51 = .ok (.iinc 3 (-1), 3) := by decide +kernel
theorem dX5_insert_54 : decode cX5_insert 54 = .ok (.goto (-22), 3) := by decide +kernel
theorem dX5_insert_57 : decode cX5_insert 57 = .ok (.aload_n 0, 1) := by decide +kernel
theorem dX5_insert_58 : decode cX5_insert 58 = .ok (.getfield 11, 3) := by decide +kernel
theorem dX5_insert_61 : decode cX5_insert 61 = .ok (.iload_n 1, 1) := by decide +kernel
theorem dX5_insert_62 : decode cX5_insert 62 = .ok (.aload_n 2, 1) := by decide +kernel
theorem dX5_insert_63 : decode cX5_insert 63 = .ok (.aastore, 1) := by decide +kernel
theorem dX5_insert_64 : decode cX5_insert 64 = .ok (.aload_n 0, 1) := by decide +kernel
theorem dX5_insert_65 : decode cX5_insert 65 = .ok (.dup, 1) := by decide +kernel
theorem dX5_insert_66 : decode cX5_insert 66 = .ok (.getfield 34, 3) := by decide +kernel
theorem dX5_insert_69 : decode cX5_insert 69 = .ok (.iconst 1, 1) := by decide +kernel
theorem dX5_insert_70 : decode cX5_insert 70 = .ok (.iadd, 1) := by decide +kernel
theorem dX5_insert_71 : decode cX5_insert 71 = .ok (.putfield 34, 3) := by decide +kernel
theorem dX5_insert_74 : decode cX5_insert 74 = .ok (.iconst 1, 1) := by decide +kernel
theorem dX5_insert_75 : decode cX5_insert 75 = .ok (.ireturn, 1) := by decide +kernel
set_option maxRecDepth 20000 in
theorem ggX5_setBorder_X5_commonDivisor : GoodIn wsX5_setBorder wsX5_commonDivisor := goodIn_r _ [6] (by decide +kernel) (by decide +kernel)
set_option maxRecDepth 20000 in
theorem gX5_setBorder_X5_commonDivisor : GoodIn wsX5_setBorder (va_wsS RX5 78 yX5_commonDivisor wsX5_commonDivisor) := goodIn_app (goodIn_of _ (by decide +kernel)) ggX5_setBorder_X5_commonDivisor
theorem dX5_setBorder_0 : decode cX5_setBorder 0 = .ok (.lload_n 2, 1) := by decide +kernel
theorem dX5_setBorder_1 : decode cX5_setBorder 1 = .ok (.lload 4, 2) := by decide +kernel
theorem dX5_setBorder_3 : decode cX5_setBorder 3 = .ok (.invokestatic 78, 3) := by decide +kernel
theorem dX5_setBorder_6 : decode cX5_setBorder 6 = .ok (.lstore 6, 2) := by decide +kernel
theorem dX5_setBorder_8 : decode cX5_setBorder 8 = .ok (.iload_n 1, 1) := by decide +kernel
theorem dX5_setBorder_9 : decode cX5_setBorder 9 = .ok (.ifCond .lt 37, 3) := by decide +kernel
theorem dX5_setBorder_12 : decode cX5_setBorder 12 = .ok (.iload_n 1, 1) := by decide +kernel
theorem dX5_setBorder_13 : decode cX5_setBorder 13 = .ok (.bipush 120, 2) := by decide +kernel
theorem dX5_setBorder_15 : decode cX5_setBorder 15 = .ok (.if_icmp .gt 31, 3) := by decide +kernel
theorem dX5_setBorder_18 : decode cX5_setBorder 18 = .ok (.lload 6, 2) := by decide +kernel
theorem dX5_setBorder_20 : decode cX5_setBorder 20 = .ok (.lconst 0, 1) := by decide +kernel
theorem dX5_setBorder_21 : decode cX5_setBorder 21 = .ok (.lcmp, 1) := by decide +kernel
theorem dX5_setBorder_22 : decode cX5_setBorder 22 = .ok (.ifCond .le 24, 3) := by decide +kernel
theorem dX5_setBorder_25 : decode cX5_setBorder 25 = .ok (.aload_n 0, 1) := by decide +kernel
theorem dX5_setBorder_26 : decode cX5_setBorder 26 = .ok (.getfield 17, 3) := by decide +kernel
theorem dX5_setBorder_29 : decode cX5_setBorder 29 = .ok (.iload_n 1, 1) := by decide +kernel
theorem dX5_setBorder_30 : decode cX5_setBorder 30 = .ok (.lload_n 2, 1) := by decide +kernel
theorem dX5_setBorder_31 : decode cX5_setBorder 31 = .ok (.lload 6, 2) := by decide +kernel
theorem dX5_setBorder_33 : decode cX5_setBorder 33 = .ok (.ldiv, 1) := by decide +kernel
theorem dX5_setBorder_34 : decode cX5_setBorder 34 = .ok (.lastore, 1) := by decide +kernel
theorem dX5_setBorder_35 : decode cX5_setBorder 35 = .ok (.aload_n 0, 1) := by decide +kernel
theorem dX5_setBorder_36 : decode cX5_setBorder 36 = .ok (.getfield 21, 3) := by decide +kernel
theorem dX5_setBorder_39 : decode cX5_setBorder 39 = .ok (.iload_n 1, 1) := by decide +kernel
theorem dX5_setBorder_40 : decode cX5_setBorder 40 = .ok (.lload 4, 2) := by decide +kernel
theorem dX5_setBorder_42 : decode cX5_setBorder 42 = .ok (.lload 6, 2) := by decide +kernel
theorem dX5_setBorder_44 : decode cX5_setBorder 44 = .ok (.ldiv, 1) := by decide +kernel
theorem dX5_setBorder_45 : decode cX5_setBorder 45 = .ok (.lastore, 1) := by decide +kernel
theorem dX5_setBorder_46 : decode cX5_setBorder 46 = .ok (.return_, 1) := by decide +kernel
theorem dX5_commonDivisor_0 : decode cX5_commonDivisor 0 = .ok (.lload_n 0, 1) := by decide +kernel
theorem dX5_commonDivisor_1 : decode cX5_commonDivisor 1 = .ok (.lstore 4, 2) := by decide +kernel
theorem dX5_commonDivisor_3 : decode cX5_commonDivisor 3 = .ok (.lload_n 2, 1) := by decide +kernel
theorem dX5_commonDivisor_4 : decode cX5_commonDivisor 4 = .ok (.lstore 6, 2) := by decide +kernel
theorem dX5_commonDivisor_6 : decode cX5_commonDivisor 6 = .ok (.iconst 0, 1) := by decide +kernel
theorem dX5_commonDivisor_7 : decode cX5_commonDivisor 7 = .ok (.istore 8, 2) := by decide +kernel
theorem dX5_commonDivisor_9 : decode cX5_commonDivisor 9 = .ok (.iload 8, 2) := by decide +kernel
theorem dX5_commonDivisor_11 : decode cX5_commonDivisor 11 = .ok (.sipush 200, 3) := by decide +kernel
theorem dX5_commonDivisor_14 : decode cX5_commonDivisor 14 = .ok (.if_icmp .ge 31, 3) := by decide +kernel
theorem dX5_commonDivisor_17 : decode cX5_commonDivisor 17 = .ok (.lload 6, 2) := by decide +kernel
theorem dX5_commonDivisor_19 : decode cX5_commonDivisor 19 = .ok (.lconst 0, 1) := by decide +kernel
theorem dX5_commonDivisor_20 : decode cX5_commonDivisor 20 = .ok (.lcmp, 1) := by decide +kernel
theorem dX5_commonDivisor_21 : decode cX5_commonDivisor 21 = .ok (.ifCond .eq 24, 3) := by decide +kernel
theorem dX5_commonDivisor_24 : decode cX5_commonDivisor 24 = .ok (.lload 4, 2) := by decide +kernel
theorem dX5_commonDivisor_26 : decode cX5_commonDivisor 26 = .ok (.lload 6, 2) := by decide +kernel
theorem dX5_commonDivisor_28 : decode cX5_commonDivisor 28 = .ok (.lrem, 1) := by decide +kernel
theorem dX5_commonDivisor_29 : decode cX5_commonDivisor 29 = .ok (.lstore 9, 2) := by decide +kernel
theorem dX5_commonDivisor_31 : decode cX5_commonDivisor 31 = .ok (.lload 6, 2) := by decide +kernel
theorem dX5_commonDivisor_33 : decode cX5_commonDivisor 33 = .ok (.lstore 4, 2) := by decide +kernel
theorem dX5_commonDivisor_35 : decode cX5_commonDivisor 35 = .ok (.lload 9, 2) := by decide +kernel
theorem dX5_commonDivisor_37 : decode cX5_commonDivisor 37 = .ok (.lstore 6, 2) := by decide +kernel
theorem dX5_commonDivisor_39 : decode cX5_commonDivisor 39 = .ok (.iinc 8 1, 3) := by decide +kernel
theorem dX5_commonDivisor_42 : decode cX5_commonDivisor 42 = .ok (.goto (-33), 3) := by decide +kernel
theorem dX5_commonDivisor_45 : decode cX5_commonDivisor 45 = .ok (.lload 4, 2) := by decide +kernel
theorem dX5_commonDivisor_47 : decode cX5_commonDivisor 47 = .ok (.lreturn, 1) := by decide +kernel
set_option maxRecDepth 20000 in
theorem ggX5_findLeastPrices_X5_planOf : GoodIn wsX5_findLeastPrices wsX5_planOf := goodIn_r _ [12, 2, 13, 22, 23, 24, 25, 26, 27, 28] (by decide +kernel) (by decide +kernel)
set_option maxRecDepth 20000 in
theorem gX5_findLeastPrices_X5_planOf : GoodIn wsX5_findLeastPrices (wsV RX5 52 RX5 yX5_planOf wsX5_planOf) := goodIn_app (goodIn_of _ (by decide +kernel)) ggX5_findLeastPrices_X5_planOf
set_option maxRecDepth 20000 in
theorem ggX5_findLeastPrices_X1_priceAt : GoodIn wsX5_findLeastPrices wsX1_priceAt := goodIn_r _ [18, 19, 20, 21, 29, 30, 31, 32, 33] (by decide +kernel) (by decide +kernel)
set_option maxRecDepth 20000 in
theorem gX5_findLeastPrices_X1_priceAt : GoodIn wsX5_findLeastPrices (wsV RX5 86 RX1 yX1_priceAt wsX1_priceAt) := goodIn_app (goodIn_of _ (by decide +kernel)) ggX5_findLeastPrices_X1_priceAt
theorem dX5_findLeastPrices_0 : decode cX5_findLeastPrices 0 = .ok (.iconst 0, 1) := by decide +kernel
theorem dX5_findLeastPrices_1 : decode cX5_findLeastPrices 1 = .ok (.istore_n 1, 1) := by decide +kernel
theorem dX5_findLeastPrices_2 : decode cX5_findLeastPrices 2 = .ok (.iload_n 1, 1) := by decide +kernel
theorem dX5_findLeastPrices_3 : decode cX5_findLeastPrices 3 = .ok (.bipush 33, 2) := by decide +kernel
theorem dX5_findLeastPrices_5 : decode cX5_findLeastPrices 5 = .ok (.if_icmp .ge 62, 3) := by decide +kernel
theorem dX5_findLeastPrices_8 : decode cX5_findLeastPrices 8 = .ok (.ldc2_w 84, 3) := by decide +kernel
theorem dX5_findLeastPrices_11 : decode cX5_findLeastPrices 11 = .ok (.lstore_n 2, 1) := by decide +kernel
theorem dX5_findLeastPrices_12 : decode cX5_findLeastPrices 12 = .ok (.iconst 0, 1) := by decide +kernel
theorem dX5_findLeastPrices_13 : decode cX5_findLeastPrices 13 = .ok (.istore 4, 2) := by decide +kernel
theorem dX5_findLeastPrices_15 : decode cX5_findLeastPrices 15 = .ok (.iload 4, 2) := by decide +kernel
theorem dX5_findLeastPrices_17 : decode cX5_findLeastPrices 17 = .ok (.aload_n 0, 1) := by decide +kernel
theorem dX5_findLeastPrices_18 : decode cX5_findLeastPrices 18 = .ok (.getfield 34, 3) := by decide +kernel
theorem dX5_findLeastPrices_21 : decode cX5_findLeastPrices 21 = .ok (.if_icmp .ge 33, 3) := by decide +kernel
theorem dX5_findLeastPrices_24 : decode cX5_findLeastPrices 24 = .ok (.aload_n 0, 1) := by decide +kernel
theorem dX5_findLeastPrices_25 : decode cX5_findLeastPrices 25 = .ok (.iload 4, 2) := by decide +kernel
theorem dX5_findLeastPrices_27 : decode cX5_findLeastPrices 27 = .ok (.invokevirtual 52, 3) := by decide +kernel
theorem dX5_findLeastPrices_30 : decode cX5_findLeastPrices 30 = .ok (.astore 5, 2) := by decide +kernel
theorem dX5_findLeastPrices_32 : decode cX5_findLeastPrices 32 = .ok (.aload 5, 2) := by decide +kernel
theorem dX5_findLeastPrices_34 : decode cX5_findLeastPrices 34 = .ok (.ifnull 14, 3) := by decide +kernel
theorem dX5_findLeastPrices_37 : decode cX5_findLeastPrices 37 = .ok (.lload_n 2, 1) := by decide +kernel
theorem dX5_findLeastPrices_38 : decode cX5_findLeastPrices 38 = .ok (.aload 5, 2) := by decide +kernel
theorem dX5_findLeastPrices_40 : decode cX5_findLeastPrices 40 = .ok (.iload_n 1, 1) := by decide +kernel
theorem dX5_findLeastPrices_41 : decode cX5_findLeastPrices 41 = .ok (.invokevirtual 86, 3) := by decide +kernel
theorem dX5_findLeastPrices_44 : decode cX5_findLeastPrices 44 = .ok (.invokestatic 90, 3) := by decide +kernel
theorem dX5_findLeastPrices_47 : decode cX5_findLeastPrices 47 = .ok (.lstore_n 2, 1) := by decide +kernel
theorem dX5_findLeastPrices_48 : decode cX5_findLeastPrices 48 = .ok (.iinc 4 1, 3) := by decide +kernel
theorem dX5_findLeastPrices_51 : decode cX5_findLeastPrices 51 = .ok (.goto (-36), 3) := by decide +kernel
theorem dX5_findLeastPrices_54 : decode cX5_findLeastPrices 54 = .ok (.aload_n 0, 1) := by decide +kernel
theorem dX5_findLeastPrices_55 : decode cX5_findLeastPrices 55 = .ok (.getfield 24, 3) := by decide +kernel
theorem dX5_findLeastPrices_58 : decode cX5_findLeastPrices 58 = .ok (.iload_n 1, 1) := by decide +kernel
theorem dX5_findLeastPrices_59 : decode cX5_findLeastPrices 59 = .ok (.lload_n 2, 1) := by decide +kernel
theorem dX5_findLeastPrices_60 : decode cX5_findLeastPrices 60 = .ok (.lastore, 1) := by decide +kernel
theorem dX5_findLeastPrices_61 : decode cX5_findLeastPrices 61 = .ok (.iinc 1 1, 3) := by decide +kernel
theorem dX5_findLeastPrices_64 : decode cX5_findLeastPrices 64 = .ok (.goto (-62), 3) := by decide +kernel
theorem dX5_findLeastPrices_67 : decode cX5_findLeastPrices 67 = .ok (.return_, 1) := by decide +kernel
set_option maxRecDepth 20000 in
theorem ggX5_leastAt_X6_isPoint : GoodIn wsX5_leastAt wsX6_isPoint := goodIn_r _ [4] (by decide +kernel) (by decide +kernel)
set_option maxRecDepth 20000 in
theorem gX5_leastAt_X6_isPoint_n95 : GoodIn wsX5_leastAt (wsX6_isPoint) := ggX5_leastAt_X6_isPoint
theorem dX5_leastAt_0 : decode cX5_leastAt 0 = .ok (.iload_n 1, 1) := by decide +kernel
theorem dX5_leastAt_1 : decode cX5_leastAt 1 = .ok (.invokestatic 95, 3) := by decide +kernel
theorem dX5_leastAt_4 : decode cX5_leastAt 4 = .ok (.ifCond .eq 12, 3) := by decide +kernel
theorem dX5_leastAt_7 : decode cX5_leastAt 7 = .ok (.aload_n 0, 1) := by decide +kernel
theorem dX5_leastAt_8 : decode cX5_leastAt 8 = .ok (.getfield 24, 3) := by decide +kernel
theorem dX5_leastAt_11 : decode cX5_leastAt 11 = .ok (.iload_n 1, 1) := by decide +kernel
theorem dX5_leastAt_12 : decode cX5_leastAt 12 = .ok (.laload, 1) := by decide +kernel
theorem dX5_leastAt_13 : decode cX5_leastAt 13 = .ok (.goto 4, 3) := by decide +kernel
theorem dX5_leastAt_16 : decode cX5_leastAt 16 = .ok (.lconst 0, 1) := by decide +kernel
theorem dX5_leastAt_17 : decode cX5_leastAt 17 = .ok (.lreturn, 1) := by decide +kernel
set_option maxRecDepth 20000 in
theorem ggX5_isNear_X1_priceAt : GoodIn wsX5_isNear wsX1_priceAt := goodIn_r _ [6, 7, 8, 9, 19, 20, 21, 22, 23] (by decide +kernel) (by decide +kernel)
set_option maxRecDepth 20000 in
theorem gX5_isNear_X1_priceAt : GoodIn wsX5_isNear (wsV RX5 86 RX1 yX1_priceAt wsX1_priceAt) := goodIn_app (goodIn_of _ (by decide +kernel)) ggX5_isNear_X1_priceAt
set_option maxRecDepth 20000 in
theorem ggX5_isNear_X5_leastAt : GoodIn wsX5_isNear wsX5_leastAt := goodIn_r _ [14, 15, 16, 17, 18, 24, 25, 26, 27, 28, 29, 30] (by decide +kernel) (by decide +kernel)
set_option maxRecDepth 20000 in
theorem gX5_isNear_X5_leastAt : GoodIn wsX5_isNear (wsV RX5 101 RX5 yX5_leastAt wsX5_leastAt) := goodIn_app (goodIn_of _ (by decide +kernel)) ggX5_isNear_X5_leastAt
theorem dX5_isNear_0 : decode cX5_isNear 0 = .ok (.aload_n 1, 1) := by decide +kernel
theorem dX5_isNear_1 : decode cX5_isNear 1 = .ok (.iload_n 2, 1) := by decide +kernel
theorem dX5_isNear_2 : decode cX5_isNear 2 = .ok (.invokevirtual 86, 3) := by decide +kernel
theorem dX5_isNear_5 : decode cX5_isNear 5 = .ok (.ldc2_w 99, 3) := by decide +kernel
theorem dX5_isNear_8 : decode cX5_isNear 8 = .ok (.lmul, 1) := by decide +kernel
theorem dX5_isNear_9 : decode cX5_isNear 9 = .ok (.aload_n 0, 1) := by decide +kernel
theorem dX5_isNear_10 : decode cX5_isNear 10 = .ok (.iload_n 2, 1) := by decide +kernel
theorem dX5_isNear_11 : decode cX5_isNear 11 = .ok (.invokevirtual 101, 3) := by decide +kernel
theorem dX5_isNear_14 : decode cX5_isNear 14 = .ok (.bipush 100, 2) := by decide +kernel
theorem dX5_isNear_16 : decode cX5_isNear 16 = .ok (.iload_n 3, 1) := by decide +kernel
theorem dX5_isNear_17 : decode cX5_isNear 17 = .ok (.iadd, 1) := by decide +kernel
theorem dX5_isNear_18 : decode cX5_isNear 18 = .ok (.i2l, 1) := by decide +kernel
theorem dX5_isNear_19 : decode cX5_isNear 19 = .ok (.lmul, 1) := by decide +kernel
theorem dX5_isNear_20 : decode cX5_isNear 20 = .ok (.lcmp, 1) := by decide +kernel
theorem dX5_isNear_21 : decode cX5_isNear 21 = .ok (.ifCond .gt 7, 3) := by decide +kernel
theorem dX5_isNear_24 : decode cX5_isNear 24 = .ok (.iconst 1, 1) := by decide +kernel
theorem dX5_isNear_25 : decode cX5_isNear 25 = .ok (.goto 4, 3) := by decide +kernel
theorem dX5_isNear_28 : decode cX5_isNear 28 = .ok (.iconst 0, 1) := by decide +kernel
theorem dX5_isNear_29 : decode cX5_isNear 29 = .ok (.ireturn, 1) := by decide +kernel
set_option maxRecDepth 20000 in
theorem ggX5_worstPoint_X5_isRegretLess : GoodIn wsX5_worstPoint wsX5_isRegretLess := goodIn_r _ [5, 6, 7, 8, 9, 10, 11, 12, 13, 14, 15, 16, 4, 17, 18, 19, 20, 21, 22, 23, 24, 25, 26, 27, 28, 29, 30, 31, 32, 33] (by decide +kernel) (by decide +kernel)
set_option maxRecDepth 20000 in
theorem gX5_worstPoint_X5_isRegretLess : GoodIn wsX5_worstPoint (wsV RX5 104 RX5 yX5_isRegretLess wsX5_isRegretLess) := goodIn_app (goodIn_of _ (by decide +kernel)) ggX5_worstPoint_X5_isRegretLess
theorem dX5_worstPoint_0 : decode cX5_worstPoint 0 = .ok (.iconst 0, 1) := by decide +kernel
theorem dX5_worstPoint_1 : decode cX5_worstPoint 1 = .ok (.istore_n 2, 1) := by decide +kernel
theorem dX5_worstPoint_2 : decode cX5_worstPoint 2 = .ok (.iconst 1, 1) := by decide +kernel
theorem dX5_worstPoint_3 : decode cX5_worstPoint 3 = .ok (.istore_n 3, 1) := by decide +kernel
theorem dX5_worstPoint_4 : decode cX5_worstPoint 4 = .ok (.iload_n 3, 1) := by decide +kernel
theorem dX5_worstPoint_5 : decode cX5_worstPoint 5 = .ok (.bipush 33, 2) := by decide +kernel
theorem dX5_worstPoint_7 : decode cX5_worstPoint 7 = .ok (.if_icmp .ge 22, 3) := by decide +kernel
theorem dX5_worstPoint_10 : decode cX5_worstPoint 10 = .ok (.aload_n 0, 1) := by decide +kernel
theorem dX5_worstPoint_11 : decode cX5_worstPoint 11 = .ok (.aload_n 1, 1) := by decide +kernel
theorem dX5_worstPoint_12 : decode cX5_worstPoint 12 = .ok (.iload_n 2, 1) := by decide +kernel
theorem dX5_worstPoint_13 : decode cX5_worstPoint 13 = .ok (.aload_n 1, 1) := by decide +kernel
theorem dX5_worstPoint_14 : decode cX5_worstPoint 14 = .ok (.iload_n 3, 1) := by decide +kernel
theorem dX5_worstPoint_15 : decode cX5_worstPoint 15 = .ok (.invokevirtual 104, 3) := by decide +kernel
theorem dX5_worstPoint_18 : decode cX5_worstPoint 18 = .ok (.ifCond .eq 5, 3) := by decide +kernel
theorem dX5_worstPoint_21 : decode cX5_worstPoint 21 = .ok (.iload_n 3, 1) := by decide +kernel
theorem dX5_worstPoint_22 : decode cX5_worstPoint 22 = .ok (.istore_n 2, 1) := by decide +kernel
theorem dX5_worstPoint_23 : decode cX5_worstPoint 23 = .ok (.iinc 3 1, 3) := by decide +kernel
theorem dX5_worstPoint_26 : decode cX5_worstPoint 26 = .ok (.goto (-22), 3) := by decide +kernel
theorem dX5_worstPoint_29 : decode cX5_worstPoint 29 = .ok (.iload_n 2, 1) := by decide +kernel
theorem dX5_worstPoint_30 : decode cX5_worstPoint 30 = .ok (.ireturn, 1) := by decide +kernel
set_option maxRecDepth 20000 in
theorem ggX5_isRegretLess_X1_priceAt : GoodIn wsX5_isRegretLess wsX1_priceAt := goodIn_r _ [5, 6, 7, 8, 18, 19, 20, 21, 22] (by decide +kernel) (by decide +kernel)
set_option maxRecDepth 20000 in
theorem gX5_isRegretLess_X1_priceAt : GoodIn wsX5_isRegretLess (wsV RX5 86 RX1 yX1_priceAt wsX1_priceAt) := goodIn_app (goodIn_of _ (by decide +kernel)) ggX5_isRegretLess_X1_priceAt
set_option maxRecDepth 20000 in
theorem ggX5_isRegretLess_X5_leastAt : GoodIn wsX5_isRegretLess wsX5_leastAt := goodIn_r _ [13, 14, 15, 16, 17, 23, 24, 25, 26, 27, 28, 29] (by decide +kernel) (by decide +kernel)
set_option maxRecDepth 20000 in
theorem gX5_isRegretLess_X5_leastAt : GoodIn wsX5_isRegretLess (wsV RX5 101 RX5 yX5_leastAt wsX5_leastAt) := goodIn_app (goodIn_of _ (by decide +kernel)) ggX5_isRegretLess_X5_leastAt
theorem dX5_isRegretLess_0 : decode cX5_isRegretLess 0 = .ok (.aload_n 1, 1) := by decide +kernel
theorem dX5_isRegretLess_1 : decode cX5_isRegretLess 1 = .ok (.iload_n 2, 1) := by decide +kernel
theorem dX5_isRegretLess_2 : decode cX5_isRegretLess 2 = .ok (.invokevirtual 86, 3) := by decide +kernel
theorem dX5_isRegretLess_5 : decode cX5_isRegretLess 5 = .ok (.aload_n 0, 1) := by decide +kernel
theorem dX5_isRegretLess_6 : decode cX5_isRegretLess 6 = .ok (.iload 4, 2) := by decide +kernel
theorem dX5_isRegretLess_8 : decode cX5_isRegretLess 8 = .ok (.invokevirtual 101, 3) := by decide +kernel
theorem dX5_isRegretLess_11 : decode cX5_isRegretLess 11 = .ok (.lmul, 1) := by decide +kernel
theorem dX5_isRegretLess_12 : decode cX5_isRegretLess 12 = .ok (.aload_n 3, 1) := by decide +kernel
theorem dX5_isRegretLess_13 : decode cX5_isRegretLess 13 = .ok (.iload 4, 2) := by decide +kernel
theorem dX5_isRegretLess_15 : decode cX5_isRegretLess 15 = .ok (.invokevirtual 86, 3) := by decide +kernel
theorem dX5_isRegretLess_18 : decode cX5_isRegretLess 18 = .ok (.aload_n 0, 1) := by decide +kernel
theorem dX5_isRegretLess_19 : decode cX5_isRegretLess 19 = .ok (.iload_n 2, 1) := by decide +kernel
theorem dX5_isRegretLess_20 : decode cX5_isRegretLess 20 = .ok (.invokevirtual 101, 3) := by decide +kernel
theorem dX5_isRegretLess_23 : decode cX5_isRegretLess 23 = .ok (.lmul, 1) := by decide +kernel
theorem dX5_isRegretLess_24 : decode cX5_isRegretLess 24 = .ok (.lcmp, 1) := by decide +kernel
theorem dX5_isRegretLess_25 : decode cX5_isRegretLess 25 = .ok (.ifCond .ge 7, 3) := by decide +kernel
theorem dX5_isRegretLess_28 : decode cX5_isRegretLess 28 = .ok (.iconst 1, 1) := by decide +kernel
theorem dX5_isRegretLess_29 : decode cX5_isRegretLess 29 = .ok (.goto 4, 3) := by decide +kernel
theorem dX5_isRegretLess_32 : decode cX5_isRegretLess 32 = .ok (.iconst 0, 1) := by decide +kernel
theorem dX5_isRegretLess_33 : decode cX5_isRegretLess 33 = .ok (.ireturn, 1) := by decide +kernel
set_option maxRecDepth 20000 in
theorem ggX5_leastWrong_X5_planOf : GoodIn wsX5_leastWrong wsX5_planOf := goodIn_r _ [6, 1, 7, 32, 33, 34, 35, 36, 37, 38] (by decide +kernel) (by decide +kernel)
set_option maxRecDepth 20000 in
theorem gX5_leastWrong_X5_planOf : GoodIn wsX5_leastWrong (wsV RX5 52 RX5 yX5_planOf wsX5_planOf) := goodIn_app (goodIn_of _ (by decide +kernel)) ggX5_leastWrong_X5_planOf
set_option maxRecDepth 20000 in
theorem ggX5_leastWrong_X5_worstPoint : GoodIn wsX5_leastWrong wsX5_worstPoint := goodIn_r _ [11, 12, 13, 14, 5, 15, 16, 17, 18, 19, 20, 21, 22, 23, 24, 25, 26, 27, 28, 29, 30, 31, 39, 40, 41, 42, 43, 32, 33, 34, 35, 36, 37, 38] (by decide +kernel) (by decide +kernel)
set_option maxRecDepth 20000 in
theorem gX5_leastWrong_X5_worstPoint : GoodIn wsX5_leastWrong (wsV RX5 108 RX5 yX5_worstPoint wsX5_worstPoint) := goodIn_app (goodIn_of _ (by decide +kernel)) ggX5_leastWrong_X5_worstPoint
set_option maxRecDepth 20000 in
theorem ggX5_leastWrong_X5_isRegretLess : GoodIn wsX5_leastWrong wsX5_isRegretLess := goodIn_r _ [15, 16, 17, 18, 19, 20, 21, 22, 23, 24, 25, 26, 5, 27, 28, 29, 30, 31, 39, 40, 41, 42, 43, 32, 33, 34, 35, 36, 37, 38] (by decide +kernel) (by decide +kernel)
set_option maxRecDepth 20000 in
theorem gX5_leastWrong_X5_isRegretLess : GoodIn wsX5_leastWrong (wsV RX5 104 RX5 yX5_isRegretLess wsX5_isRegretLess) := goodIn_app (goodIn_of _ (by decide +kernel)) ggX5_leastWrong_X5_isRegretLess
theorem dX5_leastWrong_0 : decode cX5_leastWrong 0 = .ok (.iconst 0, 1) := by decide +kernel
theorem dX5_leastWrong_1 : decode cX5_leastWrong 1 = .ok (.istore_n 1, 1) := by decide +kernel
theorem dX5_leastWrong_2 : decode cX5_leastWrong 2 = .ok (.iconst 1, 1) := by decide +kernel
theorem dX5_leastWrong_3 : decode cX5_leastWrong 3 = .ok (.istore_n 2, 1) := by decide +kernel
theorem dX5_leastWrong_4 : decode cX5_leastWrong 4 = .ok (.iload_n 2, 1) := by decide +kernel
theorem dX5_leastWrong_5 : decode cX5_leastWrong 5 = .ok (.aload_n 0, 1) := by decide +kernel
theorem dX5_leastWrong_6 : decode cX5_leastWrong 6 = .ok (.getfield 34, 3) := by decide +kernel
theorem dX5_leastWrong_9 : decode cX5_leastWrong 9 = .ok (.if_icmp .ge 54, 3) := by decide +kernel
theorem dX5_leastWrong_12 : decode cX5_leastWrong 12 = .ok (.aload_n 0, 1) := by decide +kernel
theorem dX5_leastWrong_13 : decode cX5_leastWrong 13 = .ok (.iload_n 2, 1) := by decide +kernel
theorem dX5_leastWrong_14 : decode cX5_leastWrong 14 = .ok (.invokevirtual 52, 3) := by decide +kernel
theorem dX5_leastWrong_17 : decode cX5_leastWrong 17 = .ok (.astore_n 3, 1) := by decide +kernel
theorem dX5_leastWrong_18 : decode cX5_leastWrong 18 = .ok (.aload_n 0, 1) := by decide +kernel
theorem dX5_leastWrong_19 : decode cX5_leastWrong 19 = .ok (.iload_n 1, 1) := by decide +kernel
theorem dX5_leastWrong_20 : decode cX5_leastWrong 20 = .ok (.invokevirtual 52, 3) := by decide +kernel
theorem dX5_leastWrong_23 : decode cX5_leastWrong 23 = .ok (.astore 4, 2) := by decide +kernel
theorem dX5_leastWrong_25 : decode cX5_leastWrong 25 = .ok (.aload_n 3, 1) := by decide +kernel
theorem dX5_leastWrong_26 : decode cX5_leastWrong 26 = .ok (.ifnull 31, 3) := by decide +kernel
theorem dX5_leastWrong_29 : decode cX5_leastWrong 29 = .ok (.aload 4, 2) := by decide +kernel
theorem dX5_leastWrong_31 : decode cX5_leastWrong 31 = .ok (.ifnull 26, 3) := by decide +kernel
theorem dX5_leastWrong_34 : decode cX5_leastWrong 34 = .ok (.aload_n 0, 1) := by decide +kernel
theorem dX5_leastWrong_35 : decode cX5_leastWrong 35 = .ok (.aload_n 3, 1) := by decide +kernel
theorem dX5_leastWrong_36 : decode cX5_leastWrong 36 = .ok (.aload_n 0, 1) := by decide +kernel
theorem dX5_leastWrong_37 : decode cX5_leastWrong 37 = .ok (.aload_n 3, 1) := by decide +kernel
theorem dX5_leastWrong_38 : decode cX5_leastWrong 38 = .ok (.invokevirtual 108, 3) := by decide +kernel
theorem dX5_leastWrong_41 : decode cX5_leastWrong 41 = .ok (.aload 4, 2) := by decide +kernel
theorem dX5_leastWrong_43 : decode cX5_leastWrong 43 = .ok (.aload_n 0, 1) := by decide +kernel
theorem dX5_leastWrong_44 : decode cX5_leastWrong 44 = .ok (.aload 4, 2) := by decide +kernel
theorem dX5_leastWrong_46 : decode cX5_leastWrong 46 = .ok (.invokevirtual 108, 3) := by decide +kernel
theorem dX5_leastWrong_49 : decode cX5_leastWrong 49 = .ok (.invokevirtual 104, 3) := by decide +kernel
theorem dX5_leastWrong_52 : decode cX5_leastWrong 52 = .ok (.ifCond .eq 5, 3) := by decide +kernel
theorem dX5_leastWrong_55 : decode cX5_leastWrong 55 = .ok (.iload_n 2, 1) := by decide +kernel
theorem dX5_leastWrong_56 : decode cX5_leastWrong 56 = .ok (.istore_n 1, 1) := by decide +kernel
theorem dX5_leastWrong_57 : decode cX5_leastWrong 57 = .ok (.iinc 2 1, 3) := by decide +kernel
theorem dX5_leastWrong_60 : decode cX5_leastWrong 60 = .ok (.goto (-56), 3) := by decide +kernel
theorem dX5_leastWrong_63 : decode cX5_leastWrong 63 = .ok (.iload_n 1, 1) := by decide +kernel
theorem dX5_leastWrong_64 : decode cX5_leastWrong 64 = .ok (.ireturn, 1) := by decide +kernel
set_option maxRecDepth 20000 in
theorem ggX5_fewestNear_X5_findPointsNear : GoodIn wsX5_fewestNear wsX5_findPointsNear := goodIn_r _ [10, 1, 11, 12, 13, 14, 9, 15, 16, 17, 18, 19, 20, 21, 22, 23, 24, 25, 26, 27, 28, 29, 30, 31, 32, 33, 34, 35, 36, 37, 53, 54, 55, 56, 57, 58, 59, 60, 61, 62, 63, 64] (by decide +kernel) (by decide +kernel)
set_option maxRecDepth 20000 in
theorem gX5_fewestNear_X5_findPointsNear : GoodIn wsX5_fewestNear (wsV RX5 112 RX5 yX5_findPointsNear wsX5_findPointsNear) := goodIn_app (goodIn_of _ (by decide +kernel)) ggX5_fewestNear_X5_findPointsNear
set_option maxRecDepth 20000 in
theorem ggX5_fewestNear_X5_isSetBefore : GoodIn wsX5_fewestNear wsX5_isSetBefore := goodIn_r _ [40, 41, 42, 43, 44, 45, 46, 47] (by decide +kernel) (by decide +kernel)
set_option maxRecDepth 20000 in
theorem gX5_fewestNear_X5_isSetBefore : GoodIn wsX5_fewestNear (va_wsS RX5 119 yX5_isSetBefore wsX5_isSetBefore) := goodIn_app (goodIn_of _ (by decide +kernel)) ggX5_fewestNear_X5_isSetBefore
set_option maxRecDepth 20000 in
theorem ggX5_fewestNear_X5_isEnough : GoodIn wsX5_fewestNear wsX5_isEnough := goodIn_r _ [51, 1, 11, 52, 53, 54, 55, 56, 57, 58, 59] (by decide +kernel) (by decide +kernel)
set_option maxRecDepth 20000 in
theorem gX5_fewestNear_X5_isEnough : GoodIn wsX5_fewestNear (wsV RX5 123 RX5 yX5_isEnough wsX5_isEnough) := goodIn_app (goodIn_of _ (by decide +kernel)) ggX5_fewestNear_X5_isEnough
theorem dX5_fewestNear_0 : decode cX5_fewestNear 0 = .ok (.aload_n 0, 1) := by decide +kernel
theorem dX5_fewestNear_1 : decode cX5_fewestNear 1 = .ok (.iload_n 1, 1) := by decide +kernel
theorem dX5_fewestNear_2 : decode cX5_fewestNear 2 = .ok (.invokevirtual 112, 3) := by decide +kernel
theorem dX5_fewestNear_5 : decode cX5_fewestNear 5 = .ok (.iconst 0, 1) := by decide +kernel
theorem dX5_fewestNear_6 : decode cX5_fewestNear 6 = .ok (.istore_n 2, 1) := by decide +kernel
theorem dX5_fewestNear_7 : decode cX5_fewestNear 7 = .ok (.iconst 1, 1) := by decide +kernel
theorem dX5_fewestNear_8 : decode cX5_fewestNear 8 = .ok (.aload_n 0, 1) := by decide +kernel
theorem dX5_fewestNear_9 : decode cX5_fewestNear 9 = .ok (.getfield 34, 3) := by decide +kernel
theorem dX5_fewestNear_12 : decode cX5_fewestNear 12 = .ok (.bipush 16, 2) := by decide +kernel
theorem dX5_fewestNear_14 : decode cX5_fewestNear 14 = .ok (.invokestatic 116, 3) := by decide +kernel
theorem dX5_fewestNear_17 : decode cX5_fewestNear 17 = .ok (.ishl, 1) := by decide +kernel
theorem dX5_fewestNear_18 : decode cX5_fewestNear 18 = .ok (.istore_n 3, 1) := by decide +kernel
theorem dX5_fewestNear_19 : decode cX5_fewestNear 19 = .ok (.iconst 1, 1) := by decide +kernel
theorem dX5_fewestNear_20 : decode cX5_fewestNear 20 = .ok (.istore 4, 2) := by decide +kernel
theorem dX5_fewestNear_22 : decode cX5_fewestNear 22 = .ok (.iload 4, 2) := by decide +kernel
theorem dX5_fewestNear_24 : decode cX5_fewestNear 24 = .ok (.iload_n 3, 1) := by decide +kernel
theorem dX5_fewestNear_25 : decode cX5_fewestNear 25 = .ok (.if_icmp .ge 34, 3) := by decide +kernel
theorem dX5_fewestNear_28 : decode cX5_fewestNear 28 = .ok (.iload_n 2, 1) := by decide +kernel
theorem dX5_fewestNear_29 : decode cX5_fewestNear 29 = .ok (.ifCond .eq 12, 3) := by decide +kernel
theorem dX5_fewestNear_32 : decode cX5_fewestNear 32 = .ok (.iload 4, 2) := by decide +kernel
theorem dX5_fewestNear_34 : decode cX5_fewestNear 34 = .ok (.iload_n 2, 1) := by decide +kernel
theorem dX5_fewestNear_35 : decode cX5_fewestNear 35 = .ok (.invokestatic 119, 3) := by decide +kernel
theorem dX5_fewestNear_38 : decode cX5_fewestNear 38 = .ok (.ifCond .eq 15, 3) := by decide +kernel
theorem dX5_fewestNear_41 : decode cX5_fewestNear 41 = .ok (.aload_n 0, 1) := by decide +kernel
theorem dX5_fewestNear_42 : decode cX5_fewestNear 42 = .ok (.iload 4, 2) := by decide +kernel
theorem dX5_fewestNear_44 : decode cX5_fewestNear 44 = .ok (.invokevirtual 123, 3) := by decide +kernel
theorem dX5_fewestNear_47 : decode cX5_fewestNear 47 = .ok (.ifCond .eq 6, 3) := by decide +kernel
theorem dX5_fewestNear_50 : decode cX5_fewestNear 50 = .ok (.iload 4, 2) := by decide +kernel
theorem dX5_fewestNear_52 : decode cX5_fewestNear 52 = .ok (.istore_n 2, 1) := by decide +kernel
theorem dX5_fewestNear_53 : decode cX5_fewestNear 53 = .ok (.iinc 4 1, 3) := by decide +kernel
theorem dX5_fewestNear_56 : decode cX5_fewestNear 56 = .ok (.goto (-34), 3) := by decide +kernel
theorem dX5_fewestNear_59 : decode cX5_fewestNear 59 = .ok (.iload_n 2, 1) := by decide +kernel
theorem dX5_fewestNear_60 : decode cX5_fewestNear 60 = .ok (.ireturn, 1) := by decide +kernel
set_option maxRecDepth 20000 in
theorem ggX5_findPointsNear_X5_planOf : GoodIn wsX5_findPointsNear wsX5_planOf := goodIn_r _ [7, 1, 8, 30, 31, 32, 33, 34, 35, 36] (by decide +kernel) (by decide +kernel)
set_option maxRecDepth 20000 in
theorem gX5_findPointsNear_X5_planOf : GoodIn wsX5_findPointsNear (wsV RX5 52 RX5 yX5_planOf wsX5_planOf) := goodIn_app (goodIn_of _ (by decide +kernel)) ggX5_findPointsNear_X5_planOf
set_option maxRecDepth 20000 in
theorem ggX5_findPointsNear_X5_isNear : GoodIn wsX5_findPointsNear wsX5_isNear := goodIn_r _ [12, 13, 14, 15, 16, 17, 18, 19, 20, 21, 22, 23, 24, 6, 25, 26, 27, 28, 29, 37, 38, 39, 40, 41, 30, 31, 32, 33, 34, 35, 36] (by decide +kernel) (by decide +kernel)
set_option maxRecDepth 20000 in
theorem gX5_findPointsNear_X5_isNear : GoodIn wsX5_findPointsNear (wsV RX5 126 RX5 yX5_isNear wsX5_isNear) := goodIn_app (goodIn_of _ (by decide +kernel)) ggX5_findPointsNear_X5_isNear
theorem dX5_findPointsNear_0 : decode cX5_findPointsNear 0 = .ok (.iconst 0, 1) := by decide +kernel
theorem dX5_findPointsNear_1 : decode cX5_findPointsNear 1 = .ok (.istore_n 2, 1) := by decide +kernel
theorem dX5_findPointsNear_2 : decode cX5_findPointsNear 2 = .ok (.iload_n 2, 1) := by decide +kernel
theorem dX5_findPointsNear_3 : decode cX5_findPointsNear 3 = .ok (.aload_n 0, 1) := by decide +kernel
theorem dX5_findPointsNear_4 : decode cX5_findPointsNear 4 = .ok (.getfield 34, 3) := by decide +kernel
theorem dX5_findPointsNear_7 : decode cX5_findPointsNear 7 = .ok (.if_icmp .ge 72, 3) := by decide +kernel
theorem dX5_findPointsNear_10 : decode cX5_findPointsNear 10 = .ok (.iload_n 2, 1) := by decide +kernel
theorem dX5_findPointsNear_11 : decode cX5_findPointsNear 11 = .ok (.bipush 16, 2) := by decide +kernel
theorem dX5_findPointsNear_13 : decode cX5_findPointsNear 13 = .ok (.if_icmp .ge 66, 3) := by decide +kernel
theorem dX5_findPointsNear_16 : decode cX5_findPointsNear 16 = .ok (.aload_n 0, 1) := by decide +kernel
theorem dX5_findPointsNear_17 : decode cX5_findPointsNear 17 = .ok (.iload_n 2, 1) := by decide +kernel
theorem dX5_findPointsNear_18 : decode cX5_findPointsNear 18 = .ok (.invokevirtual 52, 3) := by decide +kernel
theorem dX5_findPointsNear_21 : decode cX5_findPointsNear 21 = .ok (.astore_n 3, 1) := by decide +kernel
theorem dX5_findPointsNear_22 : decode cX5_findPointsNear 22 = .ok (.lconst 0, 1) := by decide +kernel
theorem dX5_findPointsNear_23 : decode cX5_findPointsNear 23 = .ok (.lstore 4, 2) := by decide +kernel
theorem dX5_findPointsNear_25 : decode cX5_findPointsNear 25 = .ok (.iconst 0, 1) := by decide +kernel
theorem dX5_findPointsNear_26 : decode cX5_findPointsNear 26 = .ok (.istore 6, 2) := by decide +kernel
theorem dX5_findPointsNear_28 : decode cX5_findPointsNear 28 = .ok (.iload 6, 2) := by decide +kernel
theorem dX5_findPointsNear_30 : decode cX5_findPointsNear 30 = .ok (.bipush 33, 2) := by decide +kernel
theorem dX5_findPointsNear_32 : decode cX5_findPointsNear 32 = .ok (.if_icmp .ge 33, 3) := by decide +kernel
theorem dX5_findPointsNear_35 : decode cX5_findPointsNear 35 = .ok (.aload_n 3, 1) := by decide +kernel
theorem dX5_findPointsNear_36 : decode cX5_findPointsNear 36 = .ok (.ifnull 23, 3) := by decide +kernel
theorem dX5_findPointsNear_39 : decode cX5_findPointsNear 39 = .ok (.aload_n 0, 1) := by decide +kernel
theorem dX5_findPointsNear_40 : decode cX5_findPointsNear 40 = .ok (.aload_n 3, 1) := by decide +kernel
theorem dX5_findPointsNear_41 : decode cX5_findPointsNear 41 = .ok (.iload 6, 2) := by decide +kernel
theorem dX5_findPointsNear_43 : decode cX5_findPointsNear 43 = .ok (.iload_n 1, 1) := by decide +kernel
theorem dX5_findPointsNear_44 : decode cX5_findPointsNear 44 = .ok (.invokevirtual 126, 3) := by decide +kernel
theorem dX5_findPointsNear_47 : decode cX5_findPointsNear 47 = .ok (.ifCond .eq 12, 3) := by decide +kernel
theorem dX5_findPointsNear_50 : decode cX5_findPointsNear 50 = .ok (.lload 4, 2) := by decide +kernel
theorem dX5_findPointsNear_52 : decode cX5_findPointsNear 52 = .ok (.lconst 1, 1) := by decide +kernel
theorem dX5_findPointsNear_53 : decode cX5_findPointsNear 53 = .ok (.iload 6, 2) := by decide +kernel
theorem dX5_findPointsNear_55 : decode cX5_findPointsNear 55 = .ok (.lshl, 1) := by decide +kernel
theorem dX5_findPointsNear_56 : decode cX5_findPointsNear 56 = .ok (.lor, 1) := by decide +kernel
theorem dX5_findPointsNear_57 : decode cX5_findPointsNear 57 = .ok (.lstore 4, 2) := by decide +kernel
theorem dX5_findPointsNear_59 : decode cX5_findPointsNear 59 = .ok (.iinc 6 1, 3) := by decide +kernel
theorem dX5_findPointsNear_62 : decode cX5_findPointsNear 62 = .ok (.goto (-34), 3) := by decide +kernel
theorem dX5_findPointsNear_65 : decode cX5_findPointsNear 65 = .ok (.aload_n 0, 1) := by decide +kernel
theorem dX5_findPointsNear_66 : decode cX5_findPointsNear 66 = .ok (.getfield 27, 3) := by decide +kernel
theorem dX5_findPointsNear_69 : decode cX5_findPointsNear 69 = .ok (.iload_n 2, 1) := by decide +kernel
theorem dX5_findPointsNear_70 : decode cX5_findPointsNear 70 = .ok (.lload 4, 2) := by decide +kernel
theorem dX5_findPointsNear_72 : decode cX5_findPointsNear 72 = .ok (.lastore, 1) := by decide +kernel
theorem dX5_findPointsNear_73 : decode cX5_findPointsNear 73 = .ok (.iinc 2 1, 3) := by decide +kernel
theorem dX5_findPointsNear_76 : decode cX5_findPointsNear 76 = .ok (.goto (-74), 3) := by decide +kernel
theorem dX5_findPointsNear_79 : decode cX5_findPointsNear 79 = .ok (.return_, 1) := by decide +kernel
set_option maxRecDepth 20000 in
theorem ggX5_isSetBefore_J6_bitCount_0f7a4 : GoodIn wsX5_isSetBefore wsJ6_bitCount_0f7a4 := goodIn_r _ [4, 5, 6, 7] (by decide +kernel) (by decide +kernel)
set_option maxRecDepth 20000 in
theorem gX5_isSetBefore_J6_bitCount_0f7a4 : GoodIn wsX5_isSetBefore (va_wsS RX5 130 yJ6_bitCount_0f7a4 wsJ6_bitCount_0f7a4) := goodIn_app (goodIn_of _ (by decide +kernel)) ggX5_isSetBefore_J6_bitCount_0f7a4
theorem dX5_isSetBefore_0 : decode cX5_isSetBefore 0 = .ok (.iload_n 0, 1) := by decide +kernel
theorem dX5_isSetBefore_1 : decode cX5_isSetBefore 1 = .ok (.invokestatic 130, 3) := by decide +kernel
theorem dX5_isSetBefore_4 : decode cX5_isSetBefore 4 = .ok (.iload_n 1, 1) := by decide +kernel
theorem dX5_isSetBefore_5 : decode cX5_isSetBefore 5 = .ok (.invokestatic 130, 3) := by decide +kernel
theorem dX5_isSetBefore_8 : decode cX5_isSetBefore 8 = .ok (.isub, 1) := by decide +kernel
theorem dX5_isSetBefore_9 : decode cX5_isSetBefore 9 = .ok (.istore_n 2, 1) := by decide +kernel
theorem dX5_isSetBefore_10 : decode cX5_isSetBefore 10 = .ok (.iload_n 2, 1) := by decide +kernel
theorem dX5_isSetBefore_11 : decode cX5_isSetBefore 11 = .ok (.ifCond .eq 13, 3) := by decide +kernel
theorem dX5_isSetBefore_14 : decode cX5_isSetBefore 14 = .ok (.iload_n 2, 1) := by decide +kernel
theorem dX5_isSetBefore_15 : decode cX5_isSetBefore 15 = .ok (.ifCond .ge 7, 3) := by decide +kernel
theorem dX5_isSetBefore_18 : decode cX5_isSetBefore 18 = .ok (.iconst 1, 1) := by decide +kernel
theorem dX5_isSetBefore_19 : decode cX5_isSetBefore 19 = .ok (.goto 4, 3) := by decide +kernel
theorem dX5_isSetBefore_22 : decode cX5_isSetBefore 22 = .ok (.iconst 0, 1) := by decide +kernel
theorem dX5_isSetBefore_23 : decode cX5_isSetBefore 23 = .ok (.ireturn, 1) := by decide +kernel
theorem dX5_isSetBefore_24 : decode cX5_isSetBefore 24 = .ok (.iload_n 0, 1) := by decide +kernel
theorem dX5_isSetBefore_25 : decode cX5_isSetBefore 25 = .ok (.iload_n 1, 1) := by decide +kernel
theorem dX5_isSetBefore_26 : decode cX5_isSetBefore 26 = .ok (.ixor, 1) := by decide +kernel
theorem dX5_isSetBefore_27 : decode cX5_isSetBefore 27 = .ok (.istore_n 3, 1) := by decide +kernel
theorem dX5_isSetBefore_28 : decode cX5_isSetBefore 28 = .ok (.iload_n 0, 1) := by decide +kernel
theorem dX5_isSetBefore_29 : decode cX5_isSetBefore 29 = .ok (.iload_n 3, 1) := by decide +kernel
theorem dX5_isSetBefore_30 : decode cX5_isSetBefore 30 = .ok (.iand, 1) := by decide +kernel
theorem dX5_isSetBefore_31 : decode cX5_isSetBefore 31 = .ok (.iload_n 3, 1) := by decide +kernel
theorem dX5_isSetBefore_32 : decode cX5_isSetBefore 32 = .ok (.ineg, 1) := by decide +kernel
theorem dX5_isSetBefore_33 : decode cX5_isSetBefore 33 = .ok (.iand, 1) := by decide +kernel
theorem dX5_isSetBefore_34 : decode cX5_isSetBefore 34 = .ok (.ifCond .eq 7, 3) := by decide +kernel
theorem dX5_isSetBefore_37 : decode cX5_isSetBefore 37 = .ok (.iconst 1, 1) := by decide +kernel
theorem dX5_isSetBefore_38 : decode cX5_isSetBefore 38 = .ok (.goto 4, 3) := by decide +kernel
theorem dX5_isSetBefore_41 : decode cX5_isSetBefore 41 = .ok (.iconst 0, 1) := by decide +kernel
theorem dX5_isSetBefore_42 : decode cX5_isSetBefore 42 = .ok (.ireturn, 1) := by decide +kernel
theorem dX5_isEnough_0 : decode cX5_isEnough 0 = .ok (.lconst 0, 1) := by decide +kernel
theorem dX5_isEnough_1 : decode cX5_isEnough 1 = .ok (.lstore_n 2, 1) := by decide +kernel
theorem dX5_isEnough_2 : decode cX5_isEnough 2 = .ok (.iconst 0, 1) := by decide +kernel
theorem dX5_isEnough_3 : decode cX5_isEnough 3 = .ok (.istore 4, 2) := by decide +kernel
theorem dX5_isEnough_5 : decode cX5_isEnough 5 = .ok (.iload 4, 2) := by decide +kernel
theorem dX5_isEnough_7 : decode cX5_isEnough 7 = .ok (.aload_n 0, 1) := by decide +kernel
theorem dX5_isEnough_8 : decode cX5_isEnough 8 = .ok (.getfield 34, 3) := by decide +kernel
theorem dX5_isEnough_11 : decode cX5_isEnough 11 = .ok (.if_icmp .ge 35, 3) := by decide +kernel
theorem dX5_isEnough_14 : decode cX5_isEnough 14 = .ok (.iload 4, 2) := by decide +kernel
theorem dX5_isEnough_16 : decode cX5_isEnough 16 = .ok (.bipush 16, 2) := by decide +kernel
theorem dX5_isEnough_18 : decode cX5_isEnough 18 = .ok (.if_icmp .ge 28, 3) := by decide +kernel
theorem dX5_isEnough_21 : decode cX5_isEnough 21 = .ok (.iload_n 1, 1) := by decide +kernel
theorem dX5_isEnough_22 : decode cX5_isEnough 22 = .ok (.iload 4, 2) := by decide +kernel
theorem dX5_isEnough_24 : decode cX5_isEnough 24 = .ok (.ishr, 1) := by decide +kernel
theorem dX5_isEnough_25 : decode cX5_isEnough 25 = .ok (.iconst 1, 1) := by decide +kernel
theorem dX5_isEnough_26 : decode cX5_isEnough 26 = .ok (.iand, 1) := by decide +kernel
theorem dX5_isEnough_27 : decode cX5_isEnough 27 = .ok (.ifCond .eq 13, 3) := by decide +kernel
theorem dX5_isEnough_30 : decode cX5_isEnough 30 = .ok (.lload_n 2, 1) := by decide +kernel
theorem dX5_isEnough_31 : decode cX5_isEnough 31 = .ok (.aload_n 0, 1) := by decide +kernel
theorem dX5_isEnough_32 : decode cX5_isEnough 32 = .ok (.getfield 27, 3) := by decide +kernel
theorem dX5_isEnough_35 : decode cX5_isEnough 35 = .ok (.iload 4, 2) := by decide +kernel
theorem dX5_isEnough_37 : decode cX5_isEnough 37 = .ok (.laload, 1) := by decide +kernel
theorem dX5_isEnough_38 : decode cX5_isEnough 38 = .ok (.lor, 1) := by decide +kernel
theorem dX5_isEnough_39 : decode cX5_isEnough 39 = .ok (.lstore_n 2, 1) := by decide +kernel
theorem dX5_isEnough_40 : decode cX5_isEnough 40 = .ok (.iinc 4 1, 3) := by decide +kernel
theorem dX5_isEnough_43 : decode cX5_isEnough 43 = .ok (.goto (-38), 3) := by decide +kernel
theorem dX5_isEnough_46 : decode cX5_isEnough 46 = .ok (.lload_n 2, 1) := by decide +kernel
theorem dX5_isEnough_47 : decode cX5_isEnough 47 = .ok (.ldc2_w 136, 3) := by decide +kernel
theorem dX5_isEnough_50 : decode cX5_isEnough 50 = .ok (.lcmp, 1) := by decide +kernel
theorem dX5_isEnough_51 : decode cX5_isEnough 51 = .ok (.ifCond .ne 7, 3) := by decide +kernel
theorem dX5_isEnough_54 : decode cX5_isEnough 54 = .ok (.iconst 1, 1) := by decide +kernel
theorem dX5_isEnough_55 : decode cX5_isEnough 55 = .ok (.goto 4, 3) := by decide +kernel
theorem dX5_isEnough_58 : decode cX5_isEnough 58 = .ok (.iconst 0, 1) := by decide +kernel
theorem dX5_isEnough_59 : decode cX5_isEnough 59 = .ok (.ireturn, 1) := by decide +kernel
