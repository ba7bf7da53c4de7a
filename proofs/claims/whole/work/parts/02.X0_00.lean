theorem dX0_init_0 : decode cX0_init 0 = .ok (.aload_n 0, 1) := by decide +kernel
theorem dX0_init_1 : decode cX0_init 1 = .ok (.invokespecial 3, 3) := by decide +kernel
theorem dX0_init_4 : decode cX0_init 4 = .ok (.aload_n 0, 1) := by decide +kernel
theorem dX0_init_5 : decode cX0_init 5 = .ok (.bipush 16, 2) := by decide +kernel
theorem dX0_init_7 : decode cX0_init 7 = .ok (.newarray .long, 2) := by decide +kernel
theorem dX0_init_9 : decode cX0_init 9 = .ok (.putfield 9, 3) := by decide +kernel
theorem dX0_init_12 : decode cX0_init 12 = .ok (.aload_n 0, 1) := by decide +kernel
theorem dX0_init_13 : decode cX0_init 13 = .ok (.bipush 16, 2) := by decide +kernel
theorem dX0_init_15 : decode cX0_init 15 = .ok (.newarray .long, 2) := by decide +kernel
theorem dX0_init_17 : decode cX0_init 17 = .ok (.putfield 15, 3) := by decide +kernel
theorem dX0_init_20 : decode cX0_init 20 = .ok (.aload_n 0, 1) := by decide +kernel
theorem dX0_init_21 : decode cX0_init 21 = .ok (.bipush 16, 2) := by decide +kernel
theorem dX0_init_23 : decode cX0_init 23 = .ok (.newarray .int, 2) := by decide +kernel
theorem dX0_init_25 : decode cX0_init 25 = .ok (.putfield 18, 3) := by decide +kernel
theorem dX0_init_28 : decode cX0_init 28 = .ok (.aload_n 0, 1) := by decide +kernel
theorem dX0_init_29 : decode cX0_init 29 = .ok (.bipush 16, 2) := by decide +kernel
theorem dX0_init_31 : decode cX0_init 31 = .ok (.newarray .boolean, 2) := by decide +kernel
theorem dX0_init_33 : decode cX0_init 33 = .ok (.putfield 22, 3) := by decide +kernel
theorem dX0_init_36 : decode cX0_init 36 = .ok (.aload_n 0, 1) := by decide +kernel
theorem dX0_init_37 : decode cX0_init 37 = .ok (.bipush 16, 2) := by decide +kernel
theorem dX0_init_39 : decode cX0_init 39 = .ok (.newarray .int, 2) := by decide +kernel
theorem dX0_init_41 : decode cX0_init 41 = .ok (.putfield 26, 3) := by decide +kernel
theorem dX0_init_44 : decode cX0_init 44 = .ok (.aload_n 0, 1) := by decide +kernel
theorem dX0_init_45 : decode cX0_init 45 = .ok (.aload_n 1, 1) := by decide +kernel
theorem dX0_init_46 : decode cX0_init 46 = .ok (.putfield 29, 3) := by decide +kernel
theorem dX0_init_49 : decode cX0_init 49 = .ok (.aload_n 0, 1) := by decide +kernel
theorem dX0_init_50 : decode cX0_init 50 = .ok (.aload_n 2, 1) := by decide +kernel
theorem dX0_init_51 : decode cX0_init 51 = .ok (.putfield 33, 3) := by decide +kernel
theorem dX0_init_54 : decode cX0_init 54 = .ok (.return_, 1) := by decide +kernel
set_option maxRecDepth 20000 in
theorem ggX0_cheapest_X3_allTables : GoodIn wsX0_cheapest wsX3_allTables := goodIn_r _ [17, 18, 116, 117, 118, 119, 120, 121, 122, 123, 124, 125, 126, 127, 128] (by decide +kernel) (by decide +kernel)
set_option maxRecDepth 20000 in
theorem gX0_cheapest_X3_allTables : GoodIn wsX0_cheapest (wsV RX0 48 RX3 yX3_allTables wsX3_allTables) := goodIn_app (goodIn_of _ (by decide +kernel)) ggX0_cheapest_X3_allTables
set_option maxRecDepth 20000 in
theorem ggX0_cheapest_X0_offerRead : GoodIn wsX0_cheapest wsX0_offerRead := goodIn_r _ [23, 10, 24, 11, 5, 12, 25, 26, 27, 28, 29, 30, 31, 32, 33, 34, 35, 36, 37, 38, 16, 39, 18, 40, 106, 107, 108, 109, 110, 111, 112, 113, 114, 115, 134, 135, 136, 116, 117, 118, 119, 120, 121, 122, 123, 124, 125, 126, 127, 128] (by decide +kernel) (by decide +kernel)
set_option maxRecDepth 20000 in
theorem gX0_cheapest_X0_offerRead : GoodIn wsX0_cheapest (wsV RX0 57 RX0 yX0_offerRead wsX0_offerRead) := goodIn_app (goodIn_of _ (by decide +kernel)) ggX0_cheapest_X0_offerRead
set_option maxRecDepth 20000 in
theorem ggX0_cheapest_X0_offerJoins : GoodIn wsX0_cheapest wsX0_offerJoins := goodIn_r _ [44, 4, 5, 45, 46, 47, 16, 48, 49, 50, 51, 52, 22, 53, 10, 24, 11, 12, 54, 55, 56, 57, 40, 58, 59, 60, 61, 62, 63, 37, 38, 39, 18, 64, 65, 66, 28, 67, 35, 68, 69, 70, 71, 32, 33, 34, 72, 73, 74, 75, 76, 77, 78, 79, 80, 81, 82, 9, 83, 84, 85, 86, 87, 88, 89, 90, 91, 92, 93, 94, 2, 1, 3, 106, 107, 108, 109, 110, 111, 112, 113, 114, 115, 116, 117, 118, 119, 120, 121, 122, 123, 124, 125, 126, 127, 128, 134, 135, 136] (by decide +kernel) (by decide +kernel)
set_option maxRecDepth 20000 in
theorem gX0_cheapest_X0_offerJoins : GoodIn wsX0_cheapest (wsV RX0 61 RX0 yX0_offerJoins wsX0_offerJoins) := goodIn_app (goodIn_of _ (by decide +kernel)) ggX0_cheapest_X0_offerJoins
set_option maxRecDepth 20000 in
theorem ggX0_cheapest_X1_init : GoodIn wsX0_cheapest wsX1_init := goodIn_r _ [97, 98, 99, 100, 101, 102, 103, 104, 105, 129, 130, 131, 132, 133] (by decide +kernel) (by decide +kernel)
set_option maxRecDepth 20000 in
theorem gX0_cheapest_X1_init : GoodIn wsX0_cheapest (wsX1_init) := ggX0_cheapest_X1_init
theorem dX0_cheapest_0 : decode cX0_cheapest 0 = .ok (.aload_n 0, 1) := by decide +kernel
theorem dX0_cheapest_1 : decode cX0_cheapest 1 = .ok (.lload_n 1, 1) := by decide +kernel
theorem dX0_cheapest_2 : decode cX0_cheapest 2 = .ok (.putfield 37, 3) := by decide +kernel
theorem dX0_cheapest_5 : decode cX0_cheapest 5 = .ok (.aload_n 0, 1) := by decide +kernel
theorem dX0_cheapest_6 : decode cX0_cheapest 6 = .ok (.lload_n 3, 1) := by decide +kernel
theorem dX0_cheapest_7 : decode cX0_cheapest 7 = .ok (.putfield 41, 3) := by decide +kernel
theorem dX0_cheapest_10 : decode cX0_cheapest 10 = .ok (.aload_n 0, 1) := by decide +kernel
theorem dX0_cheapest_11 : decode cX0_cheapest 11 = .ok (.iload 5, 2) := by decide +kernel
theorem dX0_cheapest_13 : decode cX0_cheapest 13 = .ok (.putfield 44, 3) := by decide +kernel
theorem dX0_cheapest_16 : decode cX0_cheapest 16 = .ok (.aload_n 0, 1) := by decide +kernel
theorem dX0_cheapest_17 : decode cX0_cheapest 17 = .ok (.getfield 29, 3) := by decide +kernel
theorem dX0_cheapest_20 : decode cX0_cheapest 20 = .ok (.invokevirtual 48, 3) := by decide +kernel
theorem dX0_cheapest_23 : decode cX0_cheapest 23 = .ok (.istore 6, 2) := by decide +kernel
theorem dX0_cheapest_25 : decode cX0_cheapest 25 = .ok (.iconst 0, 1) := by decide +kernel
theorem dX0_cheapest_26 : decode cX0_cheapest 26 = .ok (.istore 7, 2) := by decide +kernel
theorem dX0_cheapest_28 : decode cX0_cheapest 28 = .ok (.iload 7, 2) := by decide +kernel
theorem dX0_cheapest_30 : decode cX0_cheapest 30 = .ok (.bipush 16, 2) := by decide +kernel
theorem dX0_cheapest_32 : decode cX0_cheapest 32 = .ok (.if_icmp .ge 17, 3) := by decide +kernel
theorem dX0_cheapest_35 : decode cX0_cheapest 35 = .ok (.aload_n 0, 1) := by decide +kernel
theorem dX0_cheapest_36 : decode cX0_cheapest 36 = .ok (.getfield 18, 3) := by decide +kernel
theorem dX0_cheapest_39 : decode cX0_cheapest 39 = .ok (.iload 7, 2) := by decide +kernel
theorem dX0_cheapest_41 : decode cX0_cheapest 41 = .ok (.iconst (-1), 1) := by decide +kernel
theorem dX0_cheapest_42 : decode cX0_cheapest 42 = .ok (.iastore, 1) := by decide +kernel
theorem dX0_cheapest_43 : decode cX0_cheapest 43 = .ok (.iinc 7 1, 3) := by decide +kernel
theorem dX0_cheapest_46 : decode cX0_cheapest 46 = .ok (.goto (-18), 3) := by decide +kernel
theorem dX0_cheapest_49 : decode cX0_cheapest 49 = .ok (.iconst 0, 1) := by decide +kernel
theorem dX0_cheapest_50 : decode cX0_cheapest 50 = .ok (.istore 7, 2) := by decide +kernel
theorem dX0_cheapest_52 : decode cX0_cheapest 52 = .ok (.iload 7, 2) := by decide +kernel
theorem dX0_cheapest_54 : decode cX0_cheapest 54 = .ok (.aload_n 0, 1) := by decide +kernel
theorem dX0_cheapest_55 : decode cX0_cheapest 55 = .ok (.getfield 29, 3) := by decide +kernel
theorem dX0_cheapest_58 : decode cX0_cheapest 58 = .ok (.getfield 54, 3) := by decide +kernel
theorem dX0_cheapest_61 : decode cX0_cheapest 61 = .ok (.if_icmp .ge 21, 3) := by decide +kernel
theorem dX0_cheapest_64 : decode cX0_cheapest 64 = .ok (.iload 7, 2) := by decide +kernel
theorem dX0_cheapest_66 : decode cX0_cheapest 66 = .ok (.iconst 4, 1) := by decide +kernel
theorem dX0_cheapest_67 : decode cX0_cheapest 67 = .ok (.if_icmp .ge 15, 3) := by decide +kernel
theorem dX0_cheapest_70 : decode cX0_cheapest 70 = .ok (.aload_n 0, 1) := by decide +kernel
theorem dX0_cheapest_71 : decode cX0_cheapest 71 = .ok (.iload 7, 2) := by decide +kernel
theorem dX0_cheapest_73 : decode cX0_cheapest 73 = .ok (.invokevirtual 57, 3) := by decide +kernel
theorem dX0_cheapest_76 : decode cX0_cheapest 76 = .ok (.iinc 7 1, 3) := by decide +kernel
theorem dX0_cheapest_79 : decode cX0_cheapest 79 = .ok (.goto (-27), 3) := by decide +kernel
theorem dX0_cheapest_82 : decode cX0_cheapest 82 = .ok (.iconst 1, 1) := by decide +kernel
theorem dX0_cheapest_83 : decode cX0_cheapest 83 = .ok (.istore 7, 2) := by decide +kernel
theorem dX0_cheapest_85 : decode cX0_cheapest 85 = .ok (.iload 7, 2) := by decide +kernel
theorem dX0_cheapest_87 : decode cX0_cheapest 87 = .ok (.iload 6, 2) := by decide +kernel
theorem dX0_cheapest_89 : decode cX0_cheapest 89 = .ok (.if_icmp .gt 22, 3) := by decide +kernel
theorem dX0_cheapest_92 : decode cX0_cheapest 92 = .ok (.iload 7, 2) := by decide +kernel
theorem dX0_cheapest_94 : decode cX0_cheapest 94 = .ok (.bipush 16, 2) := by decide +kernel
theorem dX0_cheapest_96 : decode cX0_cheapest 96 = .ok (.if_icmp .ge 15, 3) := by decide +kernel
theorem dX0_cheapest_99 : decode cX0_cheapest 99 = .ok (.aload_n 0, 1) := by decide +kernel
theorem dX0_cheapest_100 : decode cX0_cheapest 100 = .ok (.iload 7, 2) := by decide +kernel
theorem dX0_cheapest_102 : decode cX0_cheapest 102 = .ok (.invokevirtual 61, 3) := by decide +kernel
theorem dX0_cheapest_105 : decode cX0_cheapest 105 = .ok (.iinc 7 1, 3) := by decide +kernel
theorem dX0_cheapest_108 : decode cX0_cheapest 108 = .ok (.goto (-23), 3) := by decide +kernel
theorem dX0_cheapest_111 : decode cX0_cheapest 111 = .ok (.iload 6, 2) := by decide +kernel
theorem dX0_cheapest_113 : decode cX0_cheapest 113 = .ok (.ifCond .le 21, 3) := by decide +kernel
theorem dX0_cheapest_116 : decode cX0_cheapest 116 = .ok (.iload 6, 2) := by decide +kernel
theorem dX0_cheapest_118 : decode cX0_cheapest 118 = .ok (.bipush 16, 2) := by decide +kernel
theorem dX0_cheapest_120 : decode cX0_cheapest 120 = .ok (.if_icmp .ge 14, 3) := by decide +kernel
theorem dX0_cheapest_123 : decode cX0_cheapest 123 = .ok (.aload_n 0, 1) := by decide +kernel
theorem dX0_cheapest_124 : decode cX0_cheapest 124 = .ok (.getfield 18, 3) := by decide +kernel
theorem dX0_cheapest_127 : decode cX0_cheapest 127 = .ok (.iload 6, 2) := by decide +kernel
theorem dX0_cheapest_129 : decode cX0_cheapest 129 = .ok (.iaload, 1) := by decide +kernel
theorem dX0_cheapest_130 : decode cX0_cheapest 130 = .ok (.iconst (-1), 1) := by decide +kernel
theorem dX0_cheapest_131 : decode cX0_cheapest 131 = .ok (.if_icmp .ne 5, 3) := by decide +kernel
theorem dX0_cheapest_134 : decode cX0_cheapest 134 = .ok (.aconst_null, 1) := by decide +kernel
theorem dX0_cheapest_135 : decode cX0_cheapest 135 = .ok (.areturn, 1) := by decide +kernel
theorem dX0_cheapest_136 : decode cX0_cheapest 136 = .ok (.new 64, 3) := by decide +kernel
theorem dX0_cheapest_139 : decode cX0_cheapest 139 = .ok (.dup, 1) := by decide +kernel
theorem dX0_cheapest_140 : decode cX0_cheapest 140 = .ok (.iload 6, 2) := by decide +kernel
theorem dX0_cheapest_142 : decode cX0_cheapest 142 = .ok (.aload_n 0, 1) := by decide +kernel
theorem dX0_cheapest_143 : decode cX0_cheapest 143 = .ok (.getfield 18, 3) := by decide +kernel
theorem dX0_cheapest_146 : decode cX0_cheapest 146 = .ok (.iload 6, 2) := by decide +kernel
theorem dX0_cheapest_148 : decode cX0_cheapest 148 = .ok (.iaload, 1) := by decide +kernel
theorem dX0_cheapest_149 : decode cX0_cheapest 149 = .ok (.aload_n 0, 1) := by decide +kernel
theorem dX0_cheapest_150 : decode cX0_cheapest 150 = .ok (.getfield 9, 3) := by decide +kernel
theorem dX0_cheapest_153 : decode cX0_cheapest 153 = .ok (.iload 6, 2) := by decide +kernel
theorem dX0_cheapest_155 : decode cX0_cheapest 155 = .ok (.laload, 1) := by decide +kernel
theorem dX0_cheapest_156 : decode cX0_cheapest 156 = .ok (.aload_n 0, 1) := by decide +kernel
theorem dX0_cheapest_157 : decode cX0_cheapest 157 = .ok (.getfield 15, 3) := by decide +kernel
theorem dX0_cheapest_160 : decode cX0_cheapest 160 = .ok (.iload 6, 2) := by decide +kernel
theorem dX0_cheapest_162 : decode cX0_cheapest 162 = .ok (.laload, 1) := by decide +kernel
theorem dX0_cheapest_163 : decode cX0_cheapest 163 = .ok (.aload_n 0, 1) := by decide +kernel
theorem dX0_cheapest_164 : decode cX0_cheapest 164 = .ok (.getfield 22, 3) := by decide +kernel
theorem dX0_cheapest_167 : decode cX0_cheapest 167 = .ok (.iload 6, 2) := by decide +kernel
theorem dX0_cheapest_169 : decode cX0_cheapest 169 = .ok (.baload, 1) := by decide +kernel
theorem dX0_cheapest_170 : decode cX0_cheapest 170 = .ok (.invokespecial 66, 3) := by decide +kernel
theorem dX0_cheapest_173 : decode cX0_cheapest 173 = .ok (.areturn, 1) := by decide +kernel
set_option maxRecDepth 20000 in
theorem ggX0_offerRead_X2_readA : GoodIn wsX0_offerRead wsX2_readA := goodIn_r _ [10, 11, 12, 13, 14, 9, 15, 16, 17, 18, 19, 20, 21, 22, 23, 34, 35, 36, 37, 38, 39, 40, 41, 42, 43, 44, 45, 46, 47, 48, 49] (by decide +kernel) (by decide +kernel)
set_option maxRecDepth 20000 in
theorem gX0_offerRead_X2_readA : GoodIn wsX0_offerRead (wsV RX0 69 RX2 yX2_readA wsX2_readA) := goodIn_app (goodIn_of _ (by decide +kernel)) ggX0_offerRead_X2_readA
theorem dX0_offerRead_0 : decode cX0_offerRead 0 = .ok (.iconst 1, 1) := by decide +kernel
theorem dX0_offerRead_1 : decode cX0_offerRead 1 = .ok (.iload_n 1, 1) := by decide +kernel
theorem dX0_offerRead_2 : decode cX0_offerRead 2 = .ok (.ishl, 1) := by decide +kernel
theorem dX0_offerRead_3 : decode cX0_offerRead 3 = .ok (.istore_n 2, 1) := by decide +kernel
theorem dX0_offerRead_4 : decode cX0_offerRead 4 = .ok (.aload_n 0, 1) := by decide +kernel
theorem dX0_offerRead_5 : decode cX0_offerRead 5 = .ok (.getfield 9, 3) := by decide +kernel
theorem dX0_offerRead_8 : decode cX0_offerRead 8 = .ok (.iload_n 2, 1) := by decide +kernel
theorem dX0_offerRead_9 : decode cX0_offerRead 9 = .ok (.aload_n 0, 1) := by decide +kernel
theorem dX0_offerRead_10 : decode cX0_offerRead 10 = .ok (.getfield 33, 3) := by decide +kernel
theorem dX0_offerRead_13 : decode cX0_offerRead 13 = .ok (.iload_n 2, 1) := by decide +kernel
theorem dX0_offerRead_14 : decode cX0_offerRead 14 = .ok (.invokevirtual 69, 3) := by decide +kernel
theorem dX0_offerRead_17 : decode cX0_offerRead 17 = .ok (.lastore, 1) := by decide +kernel
theorem dX0_offerRead_18 : decode cX0_offerRead 18 = .ok (.aload_n 0, 1) := by decide +kernel
theorem dX0_offerRead_19 : decode cX0_offerRead 19 = .ok (.getfield 15, 3) := by decide +kernel
theorem dX0_offerRead_22 : decode cX0_offerRead 22 = .ok (.iload_n 2, 1) := by decide +kernel
theorem dX0_offerRead_23 : decode cX0_offerRead 23 = .ok (.lconst 0, 1) := by decide +kernel
theorem dX0_offerRead_24 : decode cX0_offerRead 24 = .ok (.lastore, 1) := by decide +kernel
theorem dX0_offerRead_25 : decode cX0_offerRead 25 = .ok (.aload_n 0, 1) := by decide +kernel
theorem dX0_offerRead_26 : decode cX0_offerRead 26 = .ok (.getfield 18, 3) := by decide +kernel
theorem dX0_offerRead_29 : decode cX0_offerRead 29 = .ok (.iload_n 2, 1) := by decide +kernel
theorem dX0_offerRead_30 : decode cX0_offerRead 30 = .ok (.iload_n 1, 1) := by decide +kernel
theorem dX0_offerRead_31 : decode cX0_offerRead 31 = .ok (.iastore, 1) := by decide +kernel
theorem dX0_offerRead_32 : decode cX0_offerRead 32 = .ok (.aload_n 0, 1) := by decide +kernel
theorem dX0_offerRead_33 : decode cX0_offerRead 33 = .ok (.getfield 22, 3) := by decide +kernel
theorem dX0_offerRead_36 : decode cX0_offerRead 36 = .ok (.iload_n 2, 1) := by decide +kernel
theorem dX0_offerRead_37 : decode cX0_offerRead 37 = .ok (.iconst 0, 1) := by decide +kernel
theorem dX0_offerRead_38 : decode cX0_offerRead 38 = .ok (.bastore, 1) := by decide +kernel
theorem dX0_offerRead_39 : decode cX0_offerRead 39 = .ok (.return_, 1) := by decide +kernel
set_option maxRecDepth 20000 in
theorem ggX0_offerJoins_X3_leastBetween : GoodIn wsX0_offerJoins wsX3_leastBetween := goodIn_r _ [7, 8, 83, 84, 85, 86, 87, 88, 89, 90, 91, 92, 93, 94, 95] (by decide +kernel) (by decide +kernel)
set_option maxRecDepth 20000 in
theorem gX0_offerJoins_X3_leastBetween : GoodIn wsX0_offerJoins (wsV RX0 75 RX3 yX3_leastBetween wsX3_leastBetween) := goodIn_app (goodIn_of _ (by decide +kernel)) ggX0_offerJoins_X3_leastBetween
set_option maxRecDepth 20000 in
theorem ggX0_offerJoins_X0_offerJoin : GoodIn wsX0_offerJoins wsX0_offerJoin := goodIn_r _ [13, 1, 14, 15, 16, 2, 17, 18, 19, 20, 6, 21, 22, 23, 24, 25, 26, 27, 28, 29, 30, 31, 32, 33, 34, 35, 36, 37, 38, 39, 40, 41, 42, 43, 44, 45, 46, 47, 48, 49, 50, 51, 52, 53, 54, 55, 56, 57, 58, 59, 60, 61, 62, 63, 64, 65, 66, 67, 68, 12, 69, 70, 71, 72, 73, 74, 75, 76, 77, 78, 79, 80, 81, 82, 83, 84, 85, 86, 87, 88, 89, 90, 91, 92, 93, 94, 95, 96, 97, 98] (by decide +kernel) (by decide +kernel)
set_option maxRecDepth 20000 in
theorem gX0_offerJoins_X0_offerJoin : GoodIn wsX0_offerJoins (wsV RX0 79 RX0 yX0_offerJoin wsX0_offerJoin) := goodIn_app (goodIn_of _ (by decide +kernel)) ggX0_offerJoins_X0_offerJoin
theorem dX0_offerJoins_0 : decode cX0_offerJoins 0 = .ok (.iconst 1, 1) := by decide +kernel
theorem dX0_offerJoins_1 : decode cX0_offerJoins 1 = .ok (.istore_n 2, 1) := by decide +kernel
theorem dX0_offerJoins_2 : decode cX0_offerJoins 2 = .ok (.iload_n 2, 1) := by decide +kernel
theorem dX0_offerJoins_3 : decode cX0_offerJoins 3 = .ok (.iload_n 1, 1) := by decide +kernel
theorem dX0_offerJoins_4 : decode cX0_offerJoins 4 = .ok (.if_icmp .ge 88, 3) := by decide +kernel
theorem dX0_offerJoins_7 : decode cX0_offerJoins 7 = .ok (.iload_n 1, 1) := by decide +kernel
theorem dX0_offerJoins_8 : decode cX0_offerJoins 8 = .ok (.iload_n 2, 1) := by decide +kernel
theorem dX0_offerJoins_9 : decode cX0_offerJoins 9 = .ok (.ixor, 1) := by decide +kernel
theorem dX0_offerJoins_10 : decode cX0_offerJoins 10 = .ok (.istore_n 3, 1) := by decide +kernel
theorem dX0_offerJoins_11 : decode cX0_offerJoins 11 = .ok (.iload_n 2, 1) := by decide +kernel
theorem dX0_offerJoins_12 : decode cX0_offerJoins 12 = .ok (.iload_n 1, 1) := by decide +kernel
theorem dX0_offerJoins_13 : decode cX0_offerJoins 13 = .ok (.iand, 1) := by decide +kernel
theorem dX0_offerJoins_14 : decode cX0_offerJoins 14 = .ok (.iload_n 2, 1) := by decide +kernel
theorem dX0_offerJoins_15 : decode cX0_offerJoins 15 = .ok (.if_icmp .ne 15, 3) := by decide +kernel
theorem dX0_offerJoins_18 : decode cX0_offerJoins 18 = .ok (.aload_n 0, 1) := by decide +kernel
theorem dX0_offerJoins_19 : decode cX0_offerJoins 19 = .ok (.getfield 29, 3) := by decide +kernel
theorem dX0_offerJoins_22 : decode cX0_offerJoins 22 = .ok (.iload_n 2, 1) := by decide +kernel
theorem dX0_offerJoins_23 : decode cX0_offerJoins 23 = .ok (.iload_n 3, 1) := by decide +kernel
theorem dX0_offerJoins_24 : decode cX0_offerJoins 24 = .ok (.invokevirtual 75, 3) := by decide +kernel
theorem dX0_offerJoins_27 : decode cX0_offerJoins 27 = .ok (.goto 4, 3) := by decide +kernel
theorem dX0_offerJoins_30 : decode cX0_offerJoins 30 = .ok (.iconst (-1), 1) := by decide +kernel
theorem dX0_offerJoins_31 : decode cX0_offerJoins 31 = .ok (.istore 4, 2) := by decide +kernel
theorem dX0_offerJoins_33 : decode cX0_offerJoins 33 = .ok (.iload 4, 2) := by decide +kernel
theorem dX0_offerJoins_35 : decode cX0_offerJoins 35 = .ok (.iconst (-1), 1) := by decide +kernel
theorem dX0_offerJoins_36 : decode cX0_offerJoins 36 = .ok (.if_icmp .eq 50, 3) := by decide +kernel
theorem dX0_offerJoins_39 : decode cX0_offerJoins 39 = .ok (.aload_n 0, 1) := by decide +kernel
theorem dX0_offerJoins_40 : decode cX0_offerJoins 40 = .ok (.getfield 18, 3) := by decide +kernel
theorem dX0_offerJoins_43 : decode cX0_offerJoins 43 = .ok (.iload_n 2, 1) := by decide +kernel
theorem dX0_offerJoins_44 : decode cX0_offerJoins 44 = .ok (.iaload, 1) := by decide +kernel
theorem dX0_offerJoins_45 : decode cX0_offerJoins 45 = .ok (.iconst (-1), 1) := by decide +kernel
theorem dX0_offerJoins_46 : decode cX0_offerJoins 46 = .ok (.if_icmp .eq 40, 3) := by decide +kernel
theorem dX0_offerJoins_49 : decode cX0_offerJoins 49 = .ok (.aload_n 0, 1) := by decide +kernel
theorem dX0_offerJoins_50 : decode cX0_offerJoins 50 = .ok (.getfield 18, 3) := by decide +kernel
theorem dX0_offerJoins_53 : decode cX0_offerJoins 53 = .ok (.iload_n 3, 1) := by decide +kernel
theorem dX0_offerJoins_54 : decode cX0_offerJoins 54 = .ok (.iaload, 1) := by decide +kernel
theorem dX0_offerJoins_55 : decode cX0_offerJoins 55 = .ok (.iconst (-1), 1) := by decide +kernel
theorem dX0_offerJoins_56 : decode cX0_offerJoins 56 = .ok (.if_icmp .eq 30, 3) := by decide +kernel
theorem dX0_offerJoins_59 : decode cX0_offerJoins 59 = .ok (.aload_n 0, 1) := by decide +kernel
theorem dX0_offerJoins_60 : decode cX0_offerJoins 60 = .ok (.iconst 0, 1) := by decide +kernel
theorem dX0_offerJoins_61 : decode cX0_offerJoins 61 = .ok (.iload_n 2, 1) := by decide +kernel
theorem dX0_offerJoins_62 : decode cX0_offerJoins 62 = .ok (.iload_n 3, 1) := by decide +kernel
theorem dX0_offerJoins_63 : decode cX0_offerJoins 63 = .ok (.iload 4, 2) := by decide +kernel
theorem dX0_offerJoins_65 : decode cX0_offerJoins 65 = .ok (.invokevirtual 79, 3) := by decide +kernel
theorem dX0_offerJoins_68 : decode cX0_offerJoins 68 = .ok (.aload_n 0, 1) := by decide +kernel
theorem dX0_offerJoins_69 : decode cX0_offerJoins 69 = .ok (.iconst 1, 1) := by decide +kernel
theorem dX0_offerJoins_70 : decode cX0_offerJoins 70 = .ok (.iload_n 2, 1) := by decide +kernel
theorem dX0_offerJoins_71 : decode cX0_offerJoins 71 = .ok (.iload_n 3, 1) := by decide +kernel
theorem dX0_offerJoins_72 : decode cX0_offerJoins 72 = .ok (.iload 4, 2) := by decide +kernel
theorem dX0_offerJoins_74 : decode cX0_offerJoins 74 = .ok (.invokevirtual 79, 3) := by decide +kernel
theorem dX0_offerJoins_77 : decode cX0_offerJoins 77 = .ok (.aload_n 0, 1) := by decide +kernel
theorem dX0_offerJoins_78 : decode cX0_offerJoins 78 = .ok (.iconst 2, 1) := by decide +kernel
theorem dX0_offerJoins_79 : decode cX0_offerJoins 79 = .ok (.iload_n 2, 1) := by decide +kernel
theorem dX0_offerJoins_80 : decode cX0_offerJoins 80 = .ok (.iload_n 3, 1) := by decide +kernel
theorem dX0_offerJoins_81 : decode cX0_offerJoins 81 = .ok (.iload 4, 2) := by decide +kernel
theorem dX0_offerJoins_83 : decode cX0_offerJoins 83 = .ok (.invokevirtual 79, 3) := by decide +kernel
theorem dX0_offerJoins_86 : decode cX0_offerJoins 86 = .ok (.iinc 2 1, 3) := by decide +kernel
theorem dX0_offerJoins_89 : decode cX0_offerJoins 89 = .ok (.goto (-87), 3) := by decide +kernel
theorem dX0_offerJoins_92 : decode cX0_offerJoins 92 = .ok (.return_, 1) := by decide +kernel
set_option maxRecDepth 20000 in
theorem ggX0_offerJoin_X3_isInOrder : GoodIn wsX0_offerJoin wsX3_isInOrder := goodIn_r _ [11, 12, 13, 14, 15, 16, 17, 74, 75, 76, 77, 78, 79, 80, 81, 82, 83, 84, 85, 86] (by decide +kernel) (by decide +kernel)
set_option maxRecDepth 20000 in
theorem gX0_offerJoin_X3_isInOrder : GoodIn wsX0_offerJoin (wsV RX0 83 RX3 yX3_isInOrder wsX3_isInOrder) := goodIn_app (goodIn_of _ (by decide +kernel)) ggX0_offerJoin_X3_isInOrder
set_option maxRecDepth 20000 in
theorem ggX0_offerJoin_X3_orderFactor : GoodIn wsX0_offerJoin wsX3_orderFactor := goodIn_r _ [21, 22, 12, 74, 75, 76, 77, 78, 79, 80, 81, 82, 83, 84, 85, 86] (by decide +kernel) (by decide +kernel)
set_option maxRecDepth 20000 in
theorem gX0_offerJoin_X3_orderFactor : GoodIn wsX0_offerJoin (wsV RX0 87 RX3 yX3_orderFactor wsX3_orderFactor) := goodIn_app (goodIn_of _ (by decide +kernel)) ggX0_offerJoin_X3_orderFactor
set_option maxRecDepth 20000 in
theorem ggX0_offerJoin_X2_joinA : GoodIn wsX0_offerJoin wsX2_joinA := goodIn_r _ [27, 28, 29, 30, 31, 87, 88, 89] (by decide +kernel) (by decide +kernel)
set_option maxRecDepth 20000 in
theorem gX0_offerJoin_X2_joinA : GoodIn wsX0_offerJoin (wsV RX0 91 RX2 yX2_joinA wsX2_joinA) := goodIn_app (goodIn_of _ (by decide +kernel)) ggX0_offerJoin_X2_joinA
set_option maxRecDepth 20000 in
theorem ggX0_offerJoin_X2_sizeA : GoodIn wsX0_offerJoin wsX2_sizeA := goodIn_r _ [35, 28, 87, 88, 89] (by decide +kernel) (by decide +kernel)
set_option maxRecDepth 20000 in
theorem gX0_offerJoin_X2_sizeA : GoodIn wsX0_offerJoin (wsV RX0 95 RX2 yX2_sizeA wsX2_sizeA) := goodIn_app (goodIn_of _ (by decide +kernel)) ggX0_offerJoin_X2_sizeA
set_option maxRecDepth 20000 in
theorem ggX0_offerJoin_X2_joinB : GoodIn wsX0_offerJoin wsX2_joinB := goodIn_r _ [39, 28, 40, 29, 30, 31, 87, 88, 89] (by decide +kernel) (by decide +kernel)
set_option maxRecDepth 20000 in
theorem gX0_offerJoin_X2_joinB : GoodIn wsX0_offerJoin (wsV RX0 98 RX2 yX2_joinB wsX2_joinB) := goodIn_app (goodIn_of _ (by decide +kernel)) ggX0_offerJoin_X2_joinB
set_option maxRecDepth 20000 in
theorem ggX0_offerJoin_X2_sizeB : GoodIn wsX0_offerJoin wsX2_sizeB := goodIn_r _ [44, 40, 87, 88, 89] (by decide +kernel) (by decide +kernel)
set_option maxRecDepth 20000 in
theorem gX0_offerJoin_X2_sizeB : GoodIn wsX0_offerJoin (wsV RX0 101 RX2 yX2_sizeB wsX2_sizeB) := goodIn_app (goodIn_of _ (by decide +kernel)) ggX0_offerJoin_X2_sizeB
set_option maxRecDepth 20000 in
theorem ggX0_offerJoin_X1_joinedCode : GoodIn wsX0_offerJoin wsX1_joinedCode := goodIn_r _ [48, 49, 50, 51, 52, 53, 54, 55] (by decide +kernel) (by decide +kernel)
set_option maxRecDepth 20000 in
theorem gX0_offerJoin_X1_joinedCode : GoodIn wsX0_offerJoin (va_wsS RX0 104 yX1_joinedCode wsX1_joinedCode) := goodIn_app (goodIn_of _ (by decide +kernel)) ggX0_offerJoin_X1_joinedCode
set_option maxRecDepth 20000 in
theorem ggX0_offerJoin_X0_isBetter : GoodIn wsX0_offerJoin wsX0_isBetter := goodIn_r _ [60, 61, 62, 2, 4, 63, 5, 64, 65, 66, 67, 68, 69, 70, 71, 72, 73] (by decide +kernel) (by decide +kernel)
set_option maxRecDepth 20000 in
theorem gX0_offerJoin_X0_isBetter : GoodIn wsX0_offerJoin (wsV RX0 108 RX0 yX0_isBetter wsX0_isBetter) := goodIn_app (goodIn_of _ (by decide +kernel)) ggX0_offerJoin_X0_isBetter
theorem dX0_offerJoin_0 : decode cX0_offerJoin 0 = .ok (.iload_n 2, 1) := by decide +kernel
theorem dX0_offerJoin_1 : decode cX0_offerJoin 1 = .ok (.iload_n 3, 1) := by decide +kernel
theorem dX0_offerJoin_2 : decode cX0_offerJoin 2 = .ok (.ior, 1) := by decide +kernel
theorem dX0_offerJoin_3 : decode cX0_offerJoin 3 = .ok (.istore 5, 2) := by decide +kernel
theorem dX0_offerJoin_5 : decode cX0_offerJoin 5 = .ok (.aload_n 0, 1) := by decide +kernel
theorem dX0_offerJoin_6 : decode cX0_offerJoin 6 = .ok (.getfield 29, 3) := by decide +kernel
theorem dX0_offerJoin_9 : decode cX0_offerJoin 9 = .ok (.iload_n 1, 1) := by decide +kernel
theorem dX0_offerJoin_10 : decode cX0_offerJoin 10 = .ok (.iload 4, 2) := by decide +kernel
theorem dX0_offerJoin_12 : decode cX0_offerJoin 12 = .ok (.invokevirtual 83, 3) := by decide +kernel
theorem dX0_offerJoin_15 : decode cX0_offerJoin 15 = .ok (.istore 6, 2) := by decide +kernel
theorem dX0_offerJoin_17 : decode cX0_offerJoin 17 = .ok (.aload_n 0, 1) := by decide +kernel
theorem dX0_offerJoin_18 : decode cX0_offerJoin 18 = .ok (.getfield 29, 3) := by decide +kernel
theorem dX0_offerJoin_21 : decode cX0_offerJoin 21 = .ok (.iload 5, 2) := by decide +kernel
theorem dX0_offerJoin_23 : decode cX0_offerJoin 23 = .ok (.iload 6, 2) := by decide +kernel
theorem dX0_offerJoin_25 : decode cX0_offerJoin 25 = .ok (.invokevirtual 87, 3) := by decide +kernel
theorem dX0_offerJoin_28 : decode cX0_offerJoin 28 = .ok (.i2l, 1) := by decide +kernel
theorem dX0_offerJoin_29 : decode cX0_offerJoin 29 = .ok (.lstore 7, 2) := by decide +kernel
theorem dX0_offerJoin_31 : decode cX0_offerJoin 31 = .ok (.aload_n 0, 1) := by decide +kernel
theorem dX0_offerJoin_32 : decode cX0_offerJoin 32 = .ok (.getfield 9, 3) := by decide +kernel
theorem dX0_offerJoin_35 : decode cX0_offerJoin 35 = .ok (.iload_n 2, 1) := by decide +kernel
theorem dX0_offerJoin_36 : decode cX0_offerJoin 36 = .ok (.laload, 1) := by decide +kernel
theorem dX0_offerJoin_37 : decode cX0_offerJoin 37 = .ok (.aload_n 0, 1) := by decide +kernel
theorem dX0_offerJoin_38 : decode cX0_offerJoin 38 = .ok (.getfield 9, 3) := by decide +kernel
theorem dX0_offerJoin_41 : decode cX0_offerJoin 41 = .ok (.iload_n 3, 1) := by decide +kernel
theorem dX0_offerJoin_42 : decode cX0_offerJoin 42 = .ok (.laload, 1) := by decide +kernel
theorem dX0_offerJoin_43 : decode cX0_offerJoin 43 = .ok (.ladd, 1) := by decide +kernel
theorem dX0_offerJoin_44 : decode cX0_offerJoin 44 = .ok (.aload_n 0, 1) := by decide +kernel
theorem dX0_offerJoin_45 : decode cX0_offerJoin 45 = .ok (.getfield 33, 3) := by decide +kernel
theorem dX0_offerJoin_48 : decode cX0_offerJoin 48 = .ok (.iload_n 1, 1) := by decide +kernel
theorem dX0_offerJoin_49 : decode cX0_offerJoin 49 = .ok (.iload_n 2, 1) := by decide +kernel
theorem dX0_offerJoin_50 : decode cX0_offerJoin 50 = .ok (.iload_n 3, 1) := by decide +kernel
theorem dX0_offerJoin_51 : decode cX0_offerJoin 51 = .ok (.invokevirtual 91, 3) := by decide +kernel
theorem dX0_offerJoin_54 : decode cX0_offerJoin 54 = .ok (.ladd, 1) := by decide +kernel
theorem dX0_offerJoin_55 : decode cX0_offerJoin 55 = .ok (.lload 7, 2) := by decide +kernel
theorem dX0_offerJoin_57 : decode cX0_offerJoin 57 = .ok (.aload_n 0, 1) := by decide +kernel
theorem dX0_offerJoin_58 : decode cX0_offerJoin 58 = .ok (.getfield 33, 3) := by decide +kernel
theorem dX0_offerJoin_61 : decode cX0_offerJoin 61 = .ok (.iload 5, 2) := by decide +kernel
theorem dX0_offerJoin_63 : decode cX0_offerJoin 63 = .ok (.invokevirtual 95, 3) := by decide +kernel
theorem dX0_offerJoin_66 : decode cX0_offerJoin 66 = .ok (.lmul, 1) := by decide +kernel
theorem dX0_offerJoin_67 : decode cX0_offerJoin 67 = .ok (.ladd, 1) := by decide +kernel
theorem dX0_offerJoin_68 : decode cX0_offerJoin 68 = .ok (.lstore 9, 2) := by decide +kernel
theorem dX0_offerJoin_70 : decode cX0_offerJoin 70 = .ok (.aload_n 0, 1) := by decide +kernel
theorem dX0_offerJoin_71 : decode cX0_offerJoin 71 = .ok (.getfield 15, 3) := by decide +kernel
theorem dX0_offerJoin_74 : decode cX0_offerJoin 74 = .ok (.iload_n 2, 1) := by decide +kernel
theorem dX0_offerJoin_75 : decode cX0_offerJoin 75 = .ok (.laload, 1) := by decide +kernel
theorem dX0_offerJoin_76 : decode cX0_offerJoin 76 = .ok (.aload_n 0, 1) := by decide +kernel
theorem dX0_offerJoin_77 : decode cX0_offerJoin 77 = .ok (.getfield 15, 3) := by decide +kernel
theorem dX0_offerJoin_80 : decode cX0_offerJoin 80 = .ok (.iload_n 3, 1) := by decide +kernel
theorem dX0_offerJoin_81 : decode cX0_offerJoin 81 = .ok (.laload, 1) := by decide +kernel
theorem dX0_offerJoin_82 : decode cX0_offerJoin 82 = .ok (.ladd, 1) := by decide +kernel
theorem dX0_offerJoin_83 : decode cX0_offerJoin 83 = .ok (.aload_n 0, 1) := by decide +kernel
theorem dX0_offerJoin_84 : decode cX0_offerJoin 84 = .ok (.getfield 33, 3) := by decide +kernel
theorem dX0_offerJoin_87 : decode cX0_offerJoin 87 = .ok (.iload_n 1, 1) := by decide +kernel
theorem dX0_offerJoin_88 : decode cX0_offerJoin 88 = .ok (.iload_n 2, 1) := by decide +kernel
theorem dX0_offerJoin_89 : decode cX0_offerJoin 89 = .ok (.iload_n 3, 1) := by decide +kernel
theorem dX0_offerJoin_90 : decode cX0_offerJoin 90 = .ok (.invokevirtual 98, 3) := by decide +kernel
theorem dX0_offerJoin_93 : decode cX0_offerJoin 93 = .ok (.ladd, 1) := by decide +kernel
theorem dX0_offerJoin_94 : decode cX0_offerJoin 94 = .ok (.lload 7, 2) := by decide +kernel
theorem dX0_offerJoin_96 : decode cX0_offerJoin 96 = .ok (.aload_n 0, 1) := by decide +kernel
theorem dX0_offerJoin_97 : decode cX0_offerJoin 97 = .ok (.getfield 33, 3) := by decide +kernel
theorem dX0_offerJoin_100 : decode cX0_offerJoin 100 = .ok (.iload 5, 2) := by decide +kernel
theorem dX0_offerJoin_102 : decode cX0_offerJoin 102 = .ok (.invokevirtual 101, 3) := by decide +kernel
theorem dX0_offerJoin_105 : decode cX0_offerJoin 105 = .ok (.lmul, 1) := by decide +kernel
theorem dX0_offerJoin_106 : decode cX0_offerJoin 106 = .ok (.ladd, 1) := by decide +kernel
theorem dX0_offerJoin_107 : decode cX0_offerJoin 107 = .ok (.lstore 11, 2) := by decide +kernel
theorem dX0_offerJoin_109 : decode cX0_offerJoin 109 = .ok (.iload_n 1, 1) := by decide +kernel
theorem dX0_offerJoin_110 : decode cX0_offerJoin 110 = .ok (.iload_n 2, 1) := by decide +kernel
theorem dX0_offerJoin_111 : decode cX0_offerJoin 111 = .ok (.aload_n 0, 1) := by decide +kernel
theorem dX0_offerJoin_112 : decode cX0_offerJoin 112 = .ok (.getfield 18, 3) := by decide +kernel
theorem dX0_offerJoin_115 : decode cX0_offerJoin 115 = .ok (.iload_n 2, 1) := by decide +kernel
theorem dX0_offerJoin_116 : decode cX0_offerJoin 116 = .ok (.iaload, 1) := by decide +kernel
theorem dX0_offerJoin_117 : decode cX0_offerJoin 117 = .ok (.iload_n 3, 1) := by decide +kernel
theorem dX0_offerJoin_118 : decode cX0_offerJoin 118 = .ok (.aload_n 0, 1) := by decide +kernel
theorem dX0_offerJoin_119 : decode cX0_offerJoin 119 = .ok (.getfield 18, 3) := by decide +kernel
theorem dX0_offerJoin_122 : decode cX0_offerJoin 122 = .ok (.iload_n 3, 1) := by decide +kernel
theorem dX0_offerJoin_123 : decode cX0_offerJoin 123 = .ok (.iaload, 1) := by decide +kernel
theorem dX0_offerJoin_124 : decode cX0_offerJoin 124 = .ok (.invokestatic 104, 3) := by decide +kernel
theorem dX0_offerJoin_127 : decode cX0_offerJoin 127 = .ok (.istore 13, 2) := by decide +kernel
theorem dX0_offerJoin_129 : decode cX0_offerJoin 129 = .ok (.aload_n 0, 1) := by decide +kernel
theorem dX0_offerJoin_130 : decode cX0_offerJoin 130 = .ok (.getfield 18, 3) := by decide +kernel
theorem dX0_offerJoin_133 : decode cX0_offerJoin 133 = .ok (.iload 5, 2) := by decide +kernel
theorem dX0_offerJoin_135 : decode cX0_offerJoin 135 = .ok (.iaload, 1) := by decide +kernel
theorem dX0_offerJoin_136 : decode cX0_offerJoin 136 = .ok (.iconst (-1), 1) := by decide +kernel
theorem dX0_offerJoin_137 : decode cX0_offerJoin 137 = .ok (.if_icmp .eq 18, 3) := by decide +kernel
theorem dX0_offerJoin_140 : decode cX0_offerJoin 140 = .ok (.aload_n 0, 1) := by decide +kernel
theorem dX0_offerJoin_141 : decode cX0_offerJoin 141 = .ok (.lload 9, 2) := by decide +kernel
theorem dX0_offerJoin_143 : decode cX0_offerJoin 143 = .ok (.lload 11, 2) := by decide +kernel
theorem dX0_offerJoin_145 : decode cX0_offerJoin 145 = .ok (.iload 13, 2) := by decide +kernel
theorem dX0_offerJoin_147 : decode cX0_offerJoin 147 = .ok (.iload 5, 2) := by decide +kernel
theorem dX0_offerJoin_149 : decode cX0_offerJoin 149 = .ok (.invokevirtual 108, 3) := by decide +kernel
theorem dX0_offerJoin_152 : decode cX0_offerJoin 152 = .ok (.ifCond .eq 39, 3) := by decide +kernel
theorem dX0_offerJoin_155 : decode cX0_offerJoin 155 = .ok (.aload_n 0, 1) := by decide +kernel
theorem dX0_offerJoin_156 : decode cX0_offerJoin 156 = .ok (.getfield 9, 3) := by decide +kernel
theorem dX0_offerJoin_159 : decode cX0_offerJoin 159 = .ok (.iload 5, 2) := by decide +kernel
theorem dX0_offerJoin_161 : decode cX0_offerJoin 161 = .ok (.lload 9, 2) := by decide +kernel
theorem dX0_offerJoin_163 : decode cX0_offerJoin 163 = .ok (.lastore, 1) := by decide +kernel
theorem dX0_offerJoin_164 : decode cX0_offerJoin 164 = .ok (.aload_n 0, 1) := by decide +kernel
theorem dX0_offerJoin_165 : decode cX0_offerJoin 165 = .ok (.getfield 15, 3) := by decide +kernel
theorem dX0_offerJoin_168 : decode cX0_offerJoin 168 = .ok (.iload 5, 2) := by decide +kernel
theorem dX0_offerJoin_170 : decode cX0_offerJoin 170 = .ok (.lload 11, 2) := by decide +kernel
theorem dX0_offerJoin_172 : decode cX0_offerJoin 172 = .ok (.lastore, 1) := by decide +kernel
theorem dX0_offerJoin_173 : decode cX0_offerJoin 173 = .ok (.aload_n 0, 1) := by decide +kernel
theorem dX0_offerJoin_174 : decode cX0_offerJoin 174 = .ok (.getfield 18, 3) := by decide +kernel
theorem dX0_offerJoin_177 : decode cX0_offerJoin 177 = .ok (.iload 5, 2) := by decide +kernel
theorem dX0_offerJoin_179 : decode cX0_offerJoin 179 = .ok (.iload 13, 2) := by decide +kernel
theorem dX0_offerJoin_181 : decode cX0_offerJoin 181 = .ok (.iastore, 1) := by decide +kernel
theorem dX0_offerJoin_182 : decode cX0_offerJoin 182 = .ok (.aload_n 0, 1) := by decide +kernel
theorem dX0_offerJoin_183 : decode cX0_offerJoin 183 = .ok (.getfield 22, 3) := by decide +kernel
theorem dX0_offerJoin_186 : decode cX0_offerJoin 186 = .ok (.iload 5, 2) := by decide +kernel
theorem dX0_offerJoin_188 : decode cX0_offerJoin 188 = .ok (.iload 6, 2) := by decide +kernel
theorem dX0_offerJoin_190 : decode cX0_offerJoin 190 = .ok (.bastore, 1) := by decide +kernel
theorem dX0_offerJoin_191 : decode cX0_offerJoin 191 = .ok (.return_, 1) := by decide +kernel
theorem dX0_isBetter_0 : decode cX0_isBetter 0 = .ok (.lload_n 1, 1) := by decide +kernel
theorem dX0_isBetter_1 : decode cX0_isBetter 1 = .ok (.aload_n 0, 1) := by decide +kernel
theorem dX0_isBetter_2 : decode cX0_isBetter 2 = .ok (.getfield 41, 3) := by decide +kernel
theorem dX0_isBetter_5 : decode cX0_isBetter 5 = .ok (.lmul, 1) := by decide +kernel
theorem dX0_isBetter_6 : decode cX0_isBetter 6 = .ok (.lload_n 3, 1) := by decide +kernel
theorem dX0_isBetter_7 : decode cX0_isBetter 7 = .ok (.aload_n 0, 1) := by decide +kernel
theorem dX0_isBetter_8 : decode cX0_isBetter 8 = .ok (.getfield 37, 3) := by decide +kernel
theorem dX0_isBetter_11 : decode cX0_isBetter 11 = .ok (.lmul, 1) := by decide +kernel
theorem dX0_isBetter_12 : decode cX0_isBetter 12 = .ok (.ladd, 1) := by decide +kernel
theorem dX0_isBetter_13 : decode cX0_isBetter 13 = .ok (.lstore 7, 2) := by decide +kernel
theorem dX0_isBetter_15 : decode cX0_isBetter 15 = .ok (.aload_n 0, 1) := by decide +kernel
theorem dX0_isBetter_16 : decode cX0_isBetter 16 = .ok (.getfield 9, 3) := by decide +kernel
theorem dX0_isBetter_19 : decode cX0_isBetter 19 = .ok (.iload 6, 2) := by decide +kernel
theorem dX0_isBetter_21 : decode cX0_isBetter 21 = .ok (.laload, 1) := by decide +kernel
theorem dX0_isBetter_22 : decode cX0_isBetter 22 = .ok (.aload_n 0, 1) := by decide +kernel
theorem dX0_isBetter_23 : decode cX0_isBetter 23 = .ok (.getfield 41, 3) := by decide +kernel
theorem dX0_isBetter_26 : decode cX0_isBetter 26 = .ok (.lmul, 1) := by decide +kernel
theorem dX0_isBetter_27 : decode cX0_isBetter 27 = .ok (.aload_n 0, 1) := by decide +kernel
theorem dX0_isBetter_28 : decode cX0_isBetter 28 = .ok (.getfield 15, 3) := by decide +kernel
theorem dX0_isBetter_31 : decode cX0_isBetter 31 = .ok (.iload 6, 2) := by decide +kernel
theorem dX0_isBetter_33 : decode cX0_isBetter 33 = .ok (.laload, 1) := by decide +kernel
theorem dX0_isBetter_34 : decode cX0_isBetter 34 = .ok (.aload_n 0, 1) := by decide +kernel
theorem dX0_isBetter_35 : decode cX0_isBetter 35 = .ok (.getfield 37, 3) := by decide +kernel
theorem dX0_isBetter_38 : decode cX0_isBetter 38 = .ok (.lmul, 1) := by decide +kernel
theorem dX0_isBetter_39 : decode cX0_isBetter 39 = .ok (.ladd, 1) := by decide +kernel
theorem dX0_isBetter_40 : decode cX0_isBetter 40 = .ok (.lstore 9, 2) := by decide +kernel
theorem dX0_isBetter_42 : decode cX0_isBetter 42 = .ok (.lload 7, 2) := by decide +kernel
theorem dX0_isBetter_44 : decode cX0_isBetter 44 = .ok (.lload 9, 2) := by decide +kernel
theorem dX0_isBetter_46 : decode cX0_isBetter 46 = .ok (.lcmp, 1) := by decide +kernel
theorem dX0_isBetter_47 : decode cX0_isBetter 47 = .ok (.ifCond .eq 17, 3) := by decide +kernel
theorem dX0_isBetter_50 : decode cX0_isBetter 50 = .ok (.lload 7, 2) := by decide +kernel
theorem dX0_isBetter_52 : decode cX0_isBetter 52 = .ok (.lload 9, 2) := by decide +kernel
theorem dX0_isBetter_54 : decode cX0_isBetter 54 = .ok (.lcmp, 1) := by decide +kernel
theorem dX0_isBetter_55 : decode cX0_isBetter 55 = .ok (.ifCond .ge 7, 3) := by decide +kernel
theorem dX0_isBetter_58 : decode cX0_isBetter 58 = .ok (.iconst 1, 1) := by decide +kernel
theorem dX0_isBetter_59 : decode cX0_isBetter 59 = .ok (.goto 4, 3) := by decide +kernel
theorem dX0_isBetter_62 : decode cX0_isBetter 62 = .ok (.iconst 0, 1) := by decide +kernel
theorem dX0_isBetter_63 : decode cX0_isBetter 63 = .ok (.ireturn, 1) := by decide +kernel
theorem dX0_isBetter_64 : decode cX0_isBetter 64 = .ok (.aload_n 0, 1) := by decide +kernel
theorem dX0_isBetter_65 : decode cX0_isBetter 65 = .ok (.getfield 44, 3) := by decide +kernel
theorem dX0_isBetter_68 : decode cX0_isBetter 68 = .ok (.ifCond .eq 54, 3) := by decide +kernel
theorem dX0_isBetter_71 : decode cX0_isBetter 71 = .ok (.lload_n 3, 1) := by decide +kernel
theorem dX0_isBetter_72 : decode cX0_isBetter 72 = .ok (.aload_n 0, 1) := by decide +kernel
theorem dX0_isBetter_73 : decode cX0_isBetter 73 = .ok (.getfield 15, 3) := by decide +kernel
theorem dX0_isBetter_76 : decode cX0_isBetter 76 = .ok (.iload 6, 2) := by decide +kernel
theorem dX0_isBetter_78 : decode cX0_isBetter 78 = .ok (.laload, 1) := by decide +kernel
theorem dX0_isBetter_79 : decode cX0_isBetter 79 = .ok (.lcmp, 1) := by decide +kernel
theorem dX0_isBetter_80 : decode cX0_isBetter 80 = .ok (.ifCond .eq 42, 3) := by decide +kernel
theorem dX0_isBetter_83 : decode cX0_isBetter 83 = .ok (.lload_n 3, 1) := by decide +kernel
theorem dX0_isBetter_84 : decode cX0_isBetter 84 = .ok (.aload_n 0, 1) := by decide +kernel
theorem dX0_isBetter_85 : decode cX0_isBetter 85 = .ok (.getfield 15, 3) := by decide +kernel
theorem dX0_isBetter_88 : decode cX0_isBetter 88 = .ok (.iload 6, 2) := by decide +kernel
theorem dX0_isBetter_90 : decode cX0_isBetter 90 = .ok (.laload, 1) := by decide +kernel
theorem dX0_isBetter_91 : decode cX0_isBetter 91 = .ok (.lcmp, 1) := by decide +kernel
theorem dX0_isBetter_92 : decode cX0_isBetter 92 = .ok (.ifCond .le 7, 3) := by decide +kernel
theorem dX0_isBetter_95 : decode cX0_isBetter 95 = .ok (.iconst 1, 1) := by decide +kernel
theorem dX0_isBetter_96 : decode cX0_isBetter 96 = .ok (.goto 4, 3) := by decide +kernel
theorem dX0_isBetter_99 : decode cX0_isBetter 99 = .ok (.iconst 0, 1) := by decide +kernel
theorem dX0_isBetter_100 : decode cX0_isBetter 100 = .ok (.aload_n 0, 1) := by decide +kernel
theorem dX0_isBetter_101 : decode cX0_isBetter 101 = .ok (.getfield 44, 3) := by decide +kernel
theorem dX0_isBetter_104 : decode cX0_isBetter 104 = .ok (.iconst 1, 1) := by decide +kernel
theorem dX0_isBetter_105 : decode cX0_isBetter 105 = .ok (.if_icmp .ne 7, 3) := by decide +kernel
theorem dX0_isBetter_108 : decode cX0_isBetter 108 = .ok (.iconst 1, 1) := by decide +kernel
theorem dX0_isBetter_109 : decode cX0_isBetter 109 = .ok (.goto 4, 3) := by decide +kernel
theorem dX0_isBetter_112 : decode cX0_isBetter 112 = .ok (.iconst 0, 1) := by decide +kernel
theorem dX0_isBetter_113 : decode cX0_isBetter 113 = .ok (.if_icmp .ne 7, 3) := by decide +kernel
theorem dX0_isBetter_116 : decode cX0_isBetter 116 = .ok (.iconst 1, 1) := by decide +kernel
theorem dX0_isBetter_117 : decode cX0_isBetter 117 = .ok (.goto 4, 3) := by decide +kernel
theorem dX0_isBetter_120 : decode cX0_isBetter 120 = .ok (.iconst 0, 1) := by decide +kernel
theorem dX0_isBetter_121 : decode cX0_isBetter 121 = .ok (.ireturn, 1) := by decide +kernel
theorem dX0_isBetter_122 : decode cX0_isBetter 122 = .ok (.iload 5, 2) := by decide +kernel
theorem dX0_isBetter_124 : decode cX0_isBetter 124 = .ok (.aload_n 0, 1) := by decide +kernel
theorem dX0_isBetter_125 : decode cX0_isBetter 125 = .ok (.getfield 18, 3) := by decide +kernel
theorem dX0_isBetter_128 : decode cX0_isBetter 128 = .ok (.iload 6, 2) := by decide +kernel
theorem dX0_isBetter_130 : decode cX0_isBetter 130 = .ok (.iaload, 1) := by decide +kernel
theorem dX0_isBetter_131 : decode cX0_isBetter 131 = .ok (.if_icmp .ge 7, 3) := by decide +kernel
theorem dX0_isBetter_134 : decode cX0_isBetter 134 = .ok (.iconst 1, 1) := by decide +kernel
theorem dX0_isBetter_135 : decode cX0_isBetter 135 = .ok (.goto 4, 3) := by decide +kernel
theorem dX0_isBetter_138 : decode cX0_isBetter 138 = .ok (.iconst 0, 1) := by decide +kernel
theorem dX0_isBetter_139 : decode cX0_isBetter 139 = .ok (.ireturn, 1) := by decide +kernel
set_option maxRecDepth 20000 in
theorem ggX0_wholePlans_X3_allTables : GoodIn wsX0_wholePlans wsX3_allTables := goodIn_r _ [7, 8, 31, 32, 33, 34, 35, 36, 37, 38, 39, 40, 41, 42, 43] (by decide +kernel) (by decide +kernel)
set_option maxRecDepth 20000 in
theorem gX0_wholePlans_X3_allTables : GoodIn wsX0_wholePlans (wsV RX0 48 RX3 yX3_allTables wsX3_allTables) := goodIn_app (goodIn_of _ (by decide +kernel)) ggX0_wholePlans_X3_allTables
set_option maxRecDepth 20000 in
theorem ggX0_wholePlans_J6_bitCount_0f7a4 : GoodIn wsX0_wholePlans wsJ6_bitCount_0f7a4 := goodIn_r _ [12, 13, 14, 15] (by decide +kernel) (by decide +kernel)
set_option maxRecDepth 20000 in
theorem gX0_wholePlans_J6_bitCount_0f7a4 : GoodIn wsX0_wholePlans (va_wsS RX0 112 yJ6_bitCount_0f7a4 wsJ6_bitCount_0f7a4) := goodIn_app (goodIn_of _ (by decide +kernel)) ggX0_wholePlans_J6_bitCount_0f7a4
set_option maxRecDepth 20000 in
theorem ggX0_wholePlans_X3_leastBetween : GoodIn wsX0_wholePlans wsX3_leastBetween := goodIn_r _ [19, 20, 31, 32, 33, 34, 35, 36, 37, 38, 39, 40, 41, 42, 43] (by decide +kernel) (by decide +kernel)
set_option maxRecDepth 20000 in
theorem gX0_wholePlans_X3_leastBetween : GoodIn wsX0_wholePlans (wsV RX0 75 RX3 yX3_leastBetween wsX3_leastBetween) := goodIn_app (goodIn_of _ (by decide +kernel)) ggX0_wholePlans_X3_leastBetween
theorem dX0_wholePlans_0 : decode cX0_wholePlans 0 = .ok (.aload_n 0, 1) := by decide +kernel
theorem dX0_wholePlans_1 : decode cX0_wholePlans 1 = .ok (.getfield 29, 3) := by decide +kernel
theorem dX0_wholePlans_4 : decode cX0_wholePlans 4 = .ok (.invokevirtual 48, 3) := by decide +kernel
theorem dX0_wholePlans_7 : decode cX0_wholePlans 7 = .ok (.istore_n 1, 1) := by decide +kernel
theorem dX0_wholePlans_8 : decode cX0_wholePlans 8 = .ok (.iconst 1, 1) := by decide +kernel
theorem dX0_wholePlans_9 : decode cX0_wholePlans 9 = .ok (.istore_n 2, 1) := by decide +kernel
theorem dX0_wholePlans_10 : decode cX0_wholePlans 10 = .ok (.iload_n 2, 1) := by decide +kernel
theorem dX0_wholePlans_11 : decode cX0_wholePlans 11 = .ok (.iload_n 1, 1) := by decide +kernel
theorem dX0_wholePlans_12 : decode cX0_wholePlans 12 = .ok (.if_icmp .gt 98, 3) := by decide +kernel
theorem dX0_wholePlans_15 : decode cX0_wholePlans 15 = .ok (.iload_n 2, 1) := by decide +kernel
theorem dX0_wholePlans_16 : decode cX0_wholePlans 16 = .ok (.bipush 16, 2) := by decide +kernel
theorem dX0_wholePlans_18 : decode cX0_wholePlans 18 = .ok (.if_icmp .ge 92, 3) := by decide +kernel
theorem dX0_wholePlans_21 : decode cX0_wholePlans 21 = .ok (.aload_n 0, 1) := by decide +kernel
theorem dX0_wholePlans_22 : decode cX0_wholePlans 22 = .ok (.getfield 26, 3) := by decide +kernel
theorem dX0_wholePlans_25 : decode cX0_wholePlans 25 = .ok (.iload_n 2, 1) := by decide +kernel
theorem dX0_wholePlans_26 : decode cX0_wholePlans 26 = .ok (.iload_n 2, 1) := by decide +kernel
theorem dX0_wholePlans_27 : decode cX0_wholePlans 27 = .ok (.invokestatic 112, 3) := by decide +kernel
theorem dX0_wholePlans_30 : decode cX0_wholePlans 30 = .ok (.iconst 1, 1) := by decide +kernel
theorem dX0_wholePlans_31 : decode cX0_wholePlans 31 = .ok (.if_icmp .ne 7, 3) := by decide +kernel
theorem dX0_wholePlans_34 : decode cX0_wholePlans 34 = .ok (.iconst 1, 1) := by decide +kernel
theorem dX0_wholePlans_35 : decode cX0_wholePlans 35 = .ok (.goto 4, 3) := by decide +kernel
theorem dX0_wholePlans_38 : decode cX0_wholePlans 38 = .ok (.iconst 0, 1) := by decide +kernel
theorem dX0_wholePlans_39 : decode cX0_wholePlans 39 = .ok (.iastore, 1) := by decide +kernel
theorem dX0_wholePlans_40 : decode cX0_wholePlans 40 = .ok (.iconst 1, 1) := by decide +kernel
theorem dX0_wholePlans_41 : decode cX0_wholePlans 41 = .ok (.istore_n 3, 1) := by decide +kernel
theorem dX0_wholePlans_42 : decode cX0_wholePlans 42 = .ok (.iload_n 3, 1) := by decide +kernel
theorem dX0_wholePlans_43 : decode cX0_wholePlans 43 = .ok (.iload_n 2, 1) := by decide +kernel
theorem dX0_wholePlans_44 : decode cX0_wholePlans 44 = .ok (.if_icmp .ge 60, 3) := by decide +kernel
theorem dX0_wholePlans_47 : decode cX0_wholePlans 47 = .ok (.iload_n 2, 1) := by decide +kernel
theorem dX0_wholePlans_48 : decode cX0_wholePlans 48 = .ok (.iload_n 3, 1) := by decide +kernel
theorem dX0_wholePlans_49 : decode cX0_wholePlans 49 = .ok (.ixor, 1) := by decide +kernel
theorem dX0_wholePlans_50 : decode cX0_wholePlans 50 = .ok (.istore 4, 2) := by decide +kernel
theorem dX0_wholePlans_52 : decode cX0_wholePlans 52 = .ok (.iload_n 3, 1) := by decide +kernel
theorem dX0_wholePlans_53 : decode cX0_wholePlans 53 = .ok (.iload_n 2, 1) := by decide +kernel
theorem dX0_wholePlans_54 : decode cX0_wholePlans 54 = .ok (.iand, 1) := by decide +kernel
theorem dX0_wholePlans_55 : decode cX0_wholePlans 55 = .ok (.iload_n 3, 1) := by decide +kernel
theorem dX0_wholePlans_56 : decode cX0_wholePlans 56 = .ok (.if_icmp .ne 42, 3) := by decide +kernel
theorem dX0_wholePlans_59 : decode cX0_wholePlans 59 = .ok (.aload_n 0, 1) := by decide +kernel
theorem dX0_wholePlans_60 : decode cX0_wholePlans 60 = .ok (.getfield 29, 3) := by decide +kernel
theorem dX0_wholePlans_63 : decode cX0_wholePlans 63 = .ok (.iload_n 3, 1) := by decide +kernel
theorem dX0_wholePlans_64 : decode cX0_wholePlans 64 = .ok (.iload 4, 2) := by decide +kernel
theorem dX0_wholePlans_66 : decode cX0_wholePlans 66 = .ok (.invokevirtual 75, 3) := by decide +kernel
theorem dX0_wholePlans_69 : decode cX0_wholePlans 69 = .ok (.iconst (-1), 1) := by decide +kernel
theorem dX0_wholePlans_70 : decode cX0_wholePlans 70 = .ok (.if_icmp .eq 28, 3) := by decide +kernel
theorem dX0_wholePlans_73 : decode cX0_wholePlans 73 = .ok (.aload_n 0, 1) := by decide +kernel
theorem dX0_wholePlans_74 : decode cX0_wholePlans 74 = .ok (.getfield 26, 3) := by decide +kernel
theorem dX0_wholePlans_77 : decode cX0_wholePlans 77 = .ok (.iload_n 2, 1) := by decide +kernel
theorem dX0_wholePlans_78 : decode cX0_wholePlans 78 = .ok (.dup2, 1) := by decide +kernel
theorem dX0_wholePlans_79 : decode cX0_wholePlans 79 = .ok (.iaload, 1) := by decide +kernel
theorem dX0_wholePlans_80 : decode cX0_wholePlans 80 = .ok (.iconst 3, 1) := by decide +kernel
theorem dX0_wholePlans_81 : decode cX0_wholePlans 81 = .ok (.aload_n 0, 1) := by decide +kernel
theorem dX0_wholePlans_82 : decode cX0_wholePlans 82 = .ok (.getfield 26, 3) := by decide +kernel
theorem dX0_wholePlans_85 : decode cX0_wholePlans 85 = .ok (.iload_n 3, 1) := by decide +kernel
theorem dX0_wholePlans_86 : decode cX0_wholePlans 86 = .ok (.iaload, 1) := by decide +kernel
theorem dX0_wholePlans_87 : decode cX0_wholePlans 87 = .ok (.imul, 1) := by decide +kernel
theorem dX0_wholePlans_88 : decode cX0_wholePlans 88 = .ok (.aload_n 0, 1) := by decide +kernel
theorem dX0_wholePlans_89 : decode cX0_wholePlans 89 = .ok (.getfield 26, 3) := by decide +kernel
theorem dX0_wholePlans_92 : decode cX0_wholePlans 92 = .ok (.iload 4, 2) := by decide +kernel
theorem dX0_wholePlans_94 : decode cX0_wholePlans 94 = .ok (.iaload, 1) := by decide +kernel
theorem dX0_wholePlans_95 : decode cX0_wholePlans 95 = .ok (.imul, 1) := by decide +kernel
theorem dX0_wholePlans_96 : decode cX0_wholePlans 96 = .ok (.iadd, 1) := by decide +kernel
theorem dX0_wholePlans_97 : decode cX0_wholePlans 97 = .ok (.iastore, 1) := by decide +kernel
theorem dX0_wholePlans_98 : decode cX0_wholePlans 98 = .ok (.iinc 3 1, 3) := by decide +kernel
theorem dX0_wholePlans_101 : decode cX0_wholePlans 101 = .ok (.goto (-59), 3) := by decide +kernel
theorem dX0_wholePlans_104 : decode cX0_wholePlans 104 = .ok (.iinc 2 1, 3) := by decide +kernel
theorem dX0_wholePlans_107 : decode cX0_wholePlans 107 = .ok (.goto (-97), 3) := by decide +kernel
theorem dX0_wholePlans_110 : decode cX0_wholePlans 110 = .ok (.iload_n 1, 1) := by decide +kernel
theorem dX0_wholePlans_111 : decode cX0_wholePlans 111 = .ok (.ifCond .le 9, 3) := by decide +kernel
theorem dX0_wholePlans_114 : decode cX0_wholePlans 114 = .ok (.iload_n 1, 1) := by decide +kernel
theorem dX0_wholePlans_115 : decode cX0_wholePlans 115 = .ok (.bipush 16, 2) := by decide +kernel
theorem dX0_wholePlans_117 : decode cX0_wholePlans 117 = .ok (.if_icmp .lt 7, 3) := by decide +kernel
theorem dX0_wholePlans_120 : decode cX0_wholePlans 120 = .ok (.iconst 0, 1) := by decide +kernel
theorem dX0_wholePlans_121 : decode cX0_wholePlans 121 = .ok (.goto 9, 3) := by decide +kernel
theorem dX0_wholePlans_124 : decode cX0_wholePlans 124 = .ok (.aload_n 0, 1) := by decide +kernel
theorem dX0_wholePlans_125 : decode cX0_wholePlans 125 = .ok (.getfield 26, 3) := by decide +kernel
theorem dX0_wholePlans_128 : decode cX0_wholePlans 128 = .ok (.iload_n 1, 1) := by decide +kernel
theorem dX0_wholePlans_129 : decode cX0_wholePlans 129 = .ok (.iaload, 1) := by decide +kernel
theorem dX0_wholePlans_130 : decode cX0_wholePlans 130 = .ok (.ireturn, 1) := by decide +kernel
