theorem dX7_worstOf_49 : decode cX7_worstOf 49 = .ok (.ireturn, 1) := by decide +kernel
set_option maxRecDepth 20000 in
theorem ggX7_worst_X7_isPlan : GoodIn wsX7_worst wsX7_isPlan := goodIn_r _ [6, 7, 114, 115, 116, 117, 118, 119, 120, 121, 122, 123, 124, 125, 126, 127, 128, 129, 130, 131, 132, 133, 134, 135, 136, 137, 138, 139, 140, 141, 142, 143, 144, 145, 146, 147, 148, 149, 150, 151, 152, 153] (by decide +kernel) (by decide +kernel)
set_option maxRecDepth 20000 in
theorem gX7_worst_X7_isPlan : GoodIn wsX7_worst (wsV RX7 210 RX7 yX7_isPlan wsX7_isPlan) := goodIn_app (goodIn_of _ (by decide +kernel)) ggX7_worst_X7_isPlan
set_option maxRecDepth 20000 in
theorem ggX7_worst_X7_isWholePlan : GoodIn wsX7_worst wsX7_isWholePlan := goodIn_r _ [11, 12, 13, 14, 15, 5, 16, 17, 114, 115, 116, 117, 118, 119, 120, 121, 122, 123, 124, 125, 126, 127, 128, 129, 130, 131, 132, 133, 134, 135, 136, 137, 138, 139, 140, 141, 142, 143, 144, 145, 146, 147, 148, 149, 150, 151, 152, 153] (by decide +kernel) (by decide +kernel)
set_option maxRecDepth 20000 in
theorem gX7_worst_X7_isWholePlan : GoodIn wsX7_worst (wsV RX7 219 RX7 yX7_isWholePlan wsX7_isWholePlan) := goodIn_app (goodIn_of _ (by decide +kernel)) ggX7_worst_X7_isWholePlan
set_option maxRecDepth 20000 in
theorem ggX7_worst_X7_list : GoodIn wsX7_worst wsX7_list := goodIn_r _ [21, 22, 23, 17, 24, 25, 13, 14, 15, 5, 16, 26, 27, 28, 29, 30, 31, 32, 33, 34, 35, 36, 37, 38, 39, 40, 41, 42, 43, 44, 45, 46, 47, 48, 49, 50, 51, 52, 53, 54, 55, 56, 57, 58, 59, 60, 61, 62, 63, 64, 65, 66, 67, 68, 69, 70, 71, 72, 73, 74, 75, 76, 77, 78, 79, 80, 81, 82, 83, 84, 85, 86, 87, 88, 89, 90, 91, 114, 115, 116, 117, 118, 119, 120, 121, 122, 123, 124, 125, 126, 127, 128, 129, 130, 131, 132, 133, 134, 135, 136, 137, 138, 139, 140, 141, 142, 143, 144, 145, 146, 147, 148, 149, 150, 151, 152, 153] (by decide +kernel) (by decide +kernel)
set_option maxRecDepth 20000 in
theorem gX7_worst_X7_list : GoodIn wsX7_worst (wsV RX7 213 RX7 yX7_list wsX7_list) := goodIn_app (goodIn_of _ (by decide +kernel)) ggX7_worst_X7_list
set_option maxRecDepth 20000 in
theorem ggX7_worst_X7_least : GoodIn wsX7_worst wsX7_least := goodIn_r _ [95, 96, 97, 98, 99, 5, 100, 23, 22, 30, 13, 14, 15, 16, 17, 101, 102, 103, 104, 105, 33, 34, 114, 115, 116, 117, 118, 119, 120, 121, 122, 123, 124, 125, 126, 127, 128, 129, 130, 131, 132, 133, 134, 135, 136, 137, 138, 139, 140, 141, 142, 143, 144, 145, 146, 147, 148, 149, 150, 151, 152, 153] (by decide +kernel) (by decide +kernel)
set_option maxRecDepth 20000 in
theorem gX7_worst_X7_least : GoodIn wsX7_worst (wsV RX7 248 RX7 yX7_least wsX7_least) := goodIn_app (goodIn_of _ (by decide +kernel)) ggX7_worst_X7_least
set_option maxRecDepth 20000 in
theorem ggX7_worst_X7_all : GoodIn wsX7_worst wsX7_all := goodIn_r _ [16, 17, 114, 115, 116, 117, 118, 119, 120, 121, 122, 123, 124, 125, 126, 127, 128, 129, 130, 131, 132, 133, 134, 135, 136, 137, 138, 139, 140, 141, 142, 143, 144, 145, 146, 147, 148, 149, 150, 151, 152, 153] (by decide +kernel) (by decide +kernel)
set_option maxRecDepth 20000 in
theorem gX7_worst_X7_all : GoodIn wsX7_worst (wsV RX7 140 RX7 yX7_all wsX7_all) := goodIn_app (goodIn_of _ (by decide +kernel)) ggX7_worst_X7_all
set_option maxRecDepth 20000 in
theorem ggX7_worst_X7_find : GoodIn wsX7_worst wsX7_find := goodIn_r _ [109, 23, 30, 114, 115, 116, 117, 118, 119, 120, 121, 122, 123, 124, 125, 126, 127, 128, 129, 130, 131, 132, 133, 134, 135, 136, 137, 138, 139, 140, 141, 142, 143, 144, 145, 146, 147, 148, 149, 150, 151, 152, 153] (by decide +kernel) (by decide +kernel)
set_option maxRecDepth 20000 in
theorem gX7_worst_X7_find : GoodIn wsX7_worst (wsV RX7 216 RX7 yX7_find wsX7_find) := goodIn_app (goodIn_of _ (by decide +kernel)) ggX7_worst_X7_find
set_option maxRecDepth 20000 in
theorem ggX7_worst_X7_worstOf : GoodIn wsX7_worst wsX7_worstOf := goodIn_r _ [113, 96, 101, 102, 103, 5, 104, 105, 33, 34, 114, 115, 116, 117, 118, 119, 120, 121, 122, 123, 124, 125, 126, 127, 128, 129, 130, 131, 132, 133, 134, 135, 136, 137, 138, 139, 140, 141, 142, 143, 144, 145, 146, 147, 148, 149, 150, 151, 152, 153] (by decide +kernel) (by decide +kernel)
set_option maxRecDepth 20000 in
theorem gX7_worst_X7_worstOf : GoodIn wsX7_worst (wsV RX7 251 RX7 yX7_worstOf wsX7_worstOf) := goodIn_app (goodIn_of _ (by decide +kernel)) ggX7_worst_X7_worstOf
theorem dX7_worst_0 : decode cX7_worst 0 = .ok (.aload_n 0, 1) := by decide +kernel
theorem dX7_worst_1 : decode cX7_worst 1 = .ok (.iload_n 1, 1) := by decide +kernel
theorem dX7_worst_2 : decode cX7_worst 2 = .ok (.invokevirtual 210, 3) := by decide +kernel
theorem dX7_worst_5 : decode cX7_worst 5 = .ok (.ifCond .ne 5, 3) := by decide +kernel
theorem dX7_worst_8 : decode cX7_worst 8 = .ok (.iconst (-1), 1) := by decide +kernel
theorem dX7_worst_9 : decode cX7_worst 9 = .ok (.ireturn, 1) := by decide +kernel
theorem dX7_worst_10 : decode cX7_worst 10 = .ok (.aload_n 0, 1) := by decide +kernel
theorem dX7_worst_11 : decode cX7_worst 11 = .ok (.iload_n 1, 1) := by decide +kernel
theorem dX7_worst_12 : decode cX7_worst 12 = .ok (.invokevirtual 219, 3) := by decide +kernel
theorem dX7_worst_15 : decode cX7_worst 15 = .ok (.ifCond .ne 6, 3) := by decide +kernel
theorem dX7_worst_18 : decode cX7_worst 18 = .ok (.bipush (-3), 2) := by decide +kernel
theorem dX7_worst_20 : decode cX7_worst 20 = .ok (.ireturn, 1) := by decide +kernel
theorem dX7_worst_21 : decode cX7_worst 21 = .ok (.aload_n 0, 1) := by decide +kernel
theorem dX7_worst_22 : decode cX7_worst 22 = .ok (.invokevirtual 213, 3) := by decide +kernel
theorem dX7_worst_25 : decode cX7_worst 25 = .ok (.aload_n 0, 1) := by decide +kernel
theorem dX7_worst_26 : decode cX7_worst 26 = .ok (.invokevirtual 248, 3) := by decide +kernel
theorem dX7_worst_29 : decode cX7_worst 29 = .ok (.aload_n 0, 1) := by decide +kernel
theorem dX7_worst_30 : decode cX7_worst 30 = .ok (.aload_n 0, 1) := by decide +kernel
theorem dX7_worst_31 : decode cX7_worst 31 = .ok (.aload_n 0, 1) := by decide +kernel
theorem dX7_worst_32 : decode cX7_worst 32 = .ok (.invokevirtual 140, 3) := by decide +kernel
theorem dX7_worst_35 : decode cX7_worst 35 = .ok (.aload_n 0, 1) := by decide +kernel
theorem dX7_worst_36 : decode cX7_worst 36 = .ok (.getfield 47, 3) := by decide +kernel
theorem dX7_worst_39 : decode cX7_worst 39 = .ok (.iload_n 1, 1) := by decide +kernel
theorem dX7_worst_40 : decode cX7_worst 40 = .ok (.iaload, 1) := by decide +kernel
theorem dX7_worst_41 : decode cX7_worst 41 = .ok (.invokevirtual 216, 3) := by decide +kernel
theorem dX7_worst_44 : decode cX7_worst 44 = .ok (.invokevirtual 251, 3) := by decide +kernel
theorem dX7_worst_47 : decode cX7_worst 47 = .ok (.ireturn, 1) := by decide +kernel
set_option maxRecDepth 20000 in
theorem ggX7_blind_X7_isWhole : GoodIn wsX7_blind wsX7_isWhole := goodIn_r _ [8, 9, 10, 11, 12, 13, 14, 15, 16, 7, 17, 18, 19, 20, 21, 115, 116, 117, 118, 119, 120, 121, 122, 123, 124, 125, 126, 127, 128, 129, 130, 131, 132, 133, 134, 135, 136, 137, 138, 139, 140, 141, 142, 143, 144, 145, 146, 147, 148, 149, 150, 151, 152, 153, 154] (by decide +kernel) (by decide +kernel)
set_option maxRecDepth 20000 in
theorem gX7_blind_X7_isWhole : GoodIn wsX7_blind (wsV RX7 203 RX7 yX7_isWhole wsX7_isWhole) := goodIn_app (goodIn_of _ (by decide +kernel)) ggX7_blind_X7_isWhole
set_option maxRecDepth 20000 in
theorem ggX7_blind_X7_span : GoodIn wsX7_blind wsX7_span := goodIn_r _ [25, 1, 26, 27, 28, 29, 30, 2, 31, 32, 33, 34, 35, 36, 7, 37, 9, 38, 13, 14, 15, 16, 17, 39, 40, 41, 42, 43, 44, 45, 46, 47, 48, 10, 18, 19, 20, 21, 11, 12, 49, 50, 51, 52, 53, 54, 55, 56, 57, 58, 59, 60, 61, 62, 63, 64, 65, 66, 67, 68, 69, 70, 71, 72, 73, 74, 75, 76, 77, 78, 79, 80, 81, 82, 83, 84, 85, 86, 87, 88, 89, 90, 91, 92, 93, 94, 95, 96, 97, 115, 116, 117, 118, 119, 120, 121, 122, 123, 124, 125, 126, 127, 128, 129, 130, 131, 132, 133, 134, 135, 136, 137, 138, 139, 140, 141, 142, 143, 144, 145, 146, 147, 148, 149, 150, 151, 152, 153, 154] (by decide +kernel) (by decide +kernel)
set_option maxRecDepth 20000 in
theorem gX7_blind_X7_span : GoodIn wsX7_blind (wsV RX7 240 RX7 yX7_span wsX7_span) := goodIn_app (goodIn_of _ (by decide +kernel)) ggX7_blind_X7_span
set_option maxRecDepth 20000 in
theorem ggX7_blind_X7_least : GoodIn wsX7_blind wsX7_least := goodIn_r _ [101, 3, 102, 103, 104, 7, 105, 26, 27, 30, 14, 15, 16, 17, 9, 106, 107, 108, 109, 110, 28, 29, 115, 116, 117, 118, 119, 120, 121, 122, 123, 124, 125, 126, 127, 128, 129, 130, 131, 132, 133, 134, 135, 136, 137, 138, 139, 140, 141, 142, 143, 144, 145, 146, 147, 148, 149, 150, 151, 152, 153, 154] (by decide +kernel) (by decide +kernel)
set_option maxRecDepth 20000 in
theorem gX7_blind_X7_least : GoodIn wsX7_blind (wsV RX7 248 RX7 yX7_least wsX7_least) := goodIn_app (goodIn_of _ (by decide +kernel)) ggX7_blind_X7_least
set_option maxRecDepth 20000 in
theorem ggX7_blind_X7_worstOf : GoodIn wsX7_blind wsX7_worstOf := goodIn_r _ [114, 3, 106, 107, 108, 7, 109, 110, 28, 29, 115, 116, 117, 118, 119, 120, 121, 122, 123, 124, 125, 126, 127, 128, 129, 130, 131, 132, 133, 134, 135, 136, 137, 138, 139, 140, 141, 142, 143, 144, 145, 146, 147, 148, 149, 150, 151, 152, 153, 154] (by decide +kernel) (by decide +kernel)
set_option maxRecDepth 20000 in
theorem gX7_blind_X7_worstOf : GoodIn wsX7_blind (wsV RX7 251 RX7 yX7_worstOf wsX7_worstOf) := goodIn_app (goodIn_of _ (by decide +kernel)) ggX7_blind_X7_worstOf
set_option maxRecDepth 20000 in
theorem ggX7_blind_X7_at : GoodIn wsX7_blind wsX7_at := goodIn_r _ [109, 110, 28, 29, 115, 116, 117, 118, 119, 120, 121, 122, 123, 124, 125, 126, 127, 128, 129, 130, 131, 132, 133, 134, 135, 136, 137, 138, 139, 140, 141, 142, 143, 144, 145, 146, 147, 148, 149, 150, 151, 152, 153, 154] (by decide +kernel) (by decide +kernel)
set_option maxRecDepth 20000 in
theorem gX7_blind_X7_at : GoodIn wsX7_blind (wsV RX7 226 RX7 yX7_at wsX7_at) := goodIn_app (goodIn_of _ (by decide +kernel)) ggX7_blind_X7_at
theorem dX7_blind_0 : decode cX7_blind 0 = .ok (.aload_n 0, 1) := by decide +kernel
theorem dX7_blind_1 : decode cX7_blind 1 = .ok (.invokevirtual 203, 3) := by decide +kernel
theorem dX7_blind_4 : decode cX7_blind 4 = .ok (.ifCond .ne 6, 3) := by decide +kernel
theorem dX7_blind_7 : decode cX7_blind 7 = .ok (.bipush (-3), 2) := by decide +kernel
theorem dX7_blind_9 : decode cX7_blind 9 = .ok (.ireturn, 1) := by decide +kernel
theorem dX7_blind_10 : decode cX7_blind 10 = .ok (.aload_n 0, 1) := by decide +kernel
theorem dX7_blind_11 : decode cX7_blind 11 = .ok (.invokevirtual 240, 3) := by decide +kernel
theorem dX7_blind_14 : decode cX7_blind 14 = .ok (.aload_n 0, 1) := by decide +kernel
theorem dX7_blind_15 : decode cX7_blind 15 = .ok (.invokevirtual 248, 3) := by decide +kernel
theorem dX7_blind_18 : decode cX7_blind 18 = .ok (.iconst 0, 1) := by decide +kernel
theorem dX7_blind_19 : decode cX7_blind 19 = .ok (.istore_n 1, 1) := by decide +kernel
theorem dX7_blind_20 : decode cX7_blind 20 = .ok (.iconst 1, 1) := by decide +kernel
theorem dX7_blind_21 : decode cX7_blind 21 = .ok (.istore_n 2, 1) := by decide +kernel
theorem dX7_blind_22 : decode cX7_blind 22 = .ok (.iload_n 2, 1) := by decide +kernel
theorem dX7_blind_23 : decode cX7_blind 23 = .ok (.aload_n 0, 1) := by decide +kernel
theorem dX7_blind_24 : decode cX7_blind 24 = .ok (.getfield 91, 3) := by decide +kernel
theorem dX7_blind_27 : decode cX7_blind 27 = .ok (.if_icmp .ge 76, 3) := by decide +kernel
theorem dX7_blind_30 : decode cX7_blind 30 = .ok (.aload_n 0, 1) := by decide +kernel
theorem dX7_blind_31 : decode cX7_blind 31 = .ok (.aload_n 0, 1) := by decide +kernel
theorem dX7_blind_32 : decode cX7_blind 32 = .ok (.getfield 82, 3) := by decide +kernel
theorem dX7_blind_35 : decode cX7_blind 35 = .ok (.iload_n 2, 1) := by decide +kernel
theorem dX7_blind_36 : decode cX7_blind 36 = .ok (.iaload, 1) := by decide +kernel
theorem dX7_blind_37 : decode cX7_blind 37 = .ok (.invokevirtual 251, 3) := by decide +kernel
theorem dX7_blind_40 : decode cX7_blind 40 = .ok (.istore_n 3, 1) := by decide +kernel
theorem dX7_blind_41 : decode cX7_blind 41 = .ok (.aload_n 0, 1) := by decide +kernel
theorem dX7_blind_42 : decode cX7_blind 42 = .ok (.aload_n 0, 1) := by decide +kernel
theorem dX7_blind_43 : decode cX7_blind 43 = .ok (.getfield 82, 3) := by decide +kernel
theorem dX7_blind_46 : decode cX7_blind 46 = .ok (.iload_n 1, 1) := by decide +kernel
theorem dX7_blind_47 : decode cX7_blind 47 = .ok (.iaload, 1) := by decide +kernel
theorem dX7_blind_48 : decode cX7_blind 48 = .ok (.invokevirtual 251, 3) := by decide +kernel
theorem dX7_blind_51 : decode cX7_blind 51 = .ok (.istore 4, 2) := by decide +kernel
theorem dX7_blind_53 : decode cX7_blind 53 = .ok (.aload_n 0, 1) := by decide +kernel
theorem dX7_blind_54 : decode cX7_blind 54 = .ok (.aload_n 0, 1) := by decide +kernel
theorem dX7_blind_55 : decode cX7_blind 55 = .ok (.getfield 82, 3) := by decide +kernel
theorem dX7_blind_58 : decode cX7_blind 58 = .ok (.iload_n 2, 1) := by decide +kernel
theorem dX7_blind_59 : decode cX7_blind 59 = .ok (.iaload, 1) := by decide +kernel
theorem dX7_blind_60 : decode cX7_blind 60 = .ok (.iload_n 3, 1) := by decide +kernel
theorem dX7_blind_61 : decode cX7_blind 61 = .ok (.invokevirtual 226, 3) := by decide +kernel
theorem dX7_blind_64 : decode cX7_blind 64 = .ok (.aload_n 0, 1) := by decide +kernel
theorem dX7_blind_65 : decode cX7_blind 65 = .ok (.getfield 94, 3) := by decide +kernel
theorem dX7_blind_68 : decode cX7_blind 68 = .ok (.iload 4, 2) := by decide +kernel
theorem dX7_blind_70 : decode cX7_blind 70 = .ok (.laload, 1) := by decide +kernel
theorem dX7_blind_71 : decode cX7_blind 71 = .ok (.lmul, 1) := by decide +kernel
theorem dX7_blind_72 : decode cX7_blind 72 = .ok (.aload_n 0, 1) := by decide +kernel
theorem dX7_blind_73 : decode cX7_blind 73 = .ok (.aload_n 0, 1) := by decide +kernel
theorem dX7_blind_74 : decode cX7_blind 74 = .ok (.getfield 82, 3) := by decide +kernel
theorem dX7_blind_77 : decode cX7_blind 77 = .ok (.iload_n 1, 1) := by decide +kernel
theorem dX7_blind_78 : decode cX7_blind 78 = .ok (.iaload, 1) := by decide +kernel
theorem dX7_blind_79 : decode cX7_blind 79 = .ok (.iload 4, 2) := by decide +kernel
theorem dX7_blind_81 : decode cX7_blind 81 = .ok (.invokevirtual 226, 3) := by decide +kernel
theorem dX7_blind_84 : decode cX7_blind 84 = .ok (.aload_n 0, 1) := by decide +kernel
theorem dX7_blind_85 : decode cX7_blind 85 = .ok (.getfield 94, 3) := by decide +kernel
theorem dX7_blind_88 : decode cX7_blind 88 = .ok (.iload_n 3, 1) := by decide +kernel
theorem dX7_blind_89 : decode cX7_blind 89 = .ok (.laload, 1) := by decide +kernel
theorem dX7_blind_90 : decode cX7_blind 90 = .ok (.lmul, 1) := by decide +kernel
theorem dX7_blind_91 : decode cX7_blind 91 = .ok (.lcmp, 1) := by decide +kernel
theorem dX7_blind_92 : decode cX7_blind 92 = .ok (.ifCond .ge 5, 3) := by decide +kernel
theorem dX7_blind_95 : decode cX7_blind 95 = .ok (.iload_n 2, 1) := by decide +kernel
theorem dX7_blind_96 : decode cX7_blind 96 = .ok (.istore_n 1, 1) := by decide +kernel
theorem dX7_blind_97 : decode cX7_blind 97 = .ok (.iinc 2 1, 3) := by decide +kernel
theorem dX7_blind_100 : decode cX7_blind 100 = .ok (.goto (-78), 3) := by decide +kernel
theorem dX7_blind_103 : decode cX7_blind 103 = .ok (.iload_n 1, 1) := by decide +kernel
theorem dX7_blind_104 : decode cX7_blind 104 = .ok (.ireturn, 1) := by decide +kernel
set_option maxRecDepth 20000 in
theorem ggX7_cover_X7_isWhole : GoodIn wsX7_cover wsX7_isWhole := goodIn_r _ [8, 9, 10, 11, 12, 13, 14, 15, 16, 7, 17, 18, 19, 20, 21, 116, 117, 118, 119, 120, 121, 122, 123, 124, 125, 126, 127, 128, 129, 130, 131, 132, 133, 134, 135, 136, 137, 138, 139, 140, 141, 142, 143, 144, 145, 146, 147, 148, 149, 150, 151, 152, 153, 154, 155] (by decide +kernel) (by decide +kernel)
set_option maxRecDepth 20000 in
theorem gX7_cover_X7_isWhole : GoodIn wsX7_cover (wsV RX7 203 RX7 yX7_isWhole wsX7_isWhole) := goodIn_app (goodIn_of _ (by decide +kernel)) ggX7_cover_X7_isWhole
set_option maxRecDepth 20000 in
theorem ggX7_cover_X7_span : GoodIn wsX7_cover wsX7_span := goodIn_r _ [25, 1, 26, 27, 28, 29, 30, 3, 31, 32, 33, 34, 35, 36, 7, 37, 9, 38, 13, 14, 15, 16, 17, 39, 40, 41, 42, 43, 44, 45, 46, 47, 48, 10, 18, 19, 20, 21, 11, 12, 49, 50, 51, 52, 53, 54, 55, 56, 57, 58, 59, 60, 61, 62, 63, 64, 65, 66, 67, 68, 69, 70, 71, 72, 73, 74, 75, 76, 77, 78, 79, 80, 81, 82, 83, 84, 85, 86, 87, 88, 89, 90, 91, 92, 93, 94, 95, 96, 97, 116, 117, 118, 119, 120, 121, 122, 123, 124, 125, 126, 127, 128, 129, 130, 131, 132, 133, 134, 135, 136, 137, 138, 139, 140, 141, 142, 143, 144, 145, 146, 147, 148, 149, 150, 151, 152, 153, 154, 155] (by decide +kernel) (by decide +kernel)
set_option maxRecDepth 20000 in
theorem gX7_cover_X7_span : GoodIn wsX7_cover (wsV RX7 240 RX7 yX7_span wsX7_span) := goodIn_app (goodIn_of _ (by decide +kernel)) ggX7_cover_X7_span
set_option maxRecDepth 20000 in
theorem ggX7_cover_X7_isNear : GoodIn wsX7_cover wsX7_isNear := goodIn_r _ [101, 102, 103, 104, 105, 7, 106, 107, 28, 29, 108, 109, 110, 111, 26, 27, 30, 14, 15, 16, 17, 9, 116, 117, 118, 119, 120, 121, 122, 123, 124, 125, 126, 127, 128, 129, 130, 131, 132, 133, 134, 135, 136, 137, 138, 139, 140, 141, 142, 143, 144, 145, 146, 147, 148, 149, 150, 151, 152, 153, 154, 155] (by decide +kernel) (by decide +kernel)
set_option maxRecDepth 20000 in
theorem gX7_cover_X7_isNear : GoodIn wsX7_cover (wsV RX7 245 RX7 yX7_isNear wsX7_isNear) := goodIn_app (goodIn_of _ (by decide +kernel)) ggX7_cover_X7_isNear
set_option maxRecDepth 20000 in
theorem ggX7_cover_X7_bits : GoodIn wsX7_cover wsX7_bits := goodIn_r _ [77] (by decide +kernel) (by decide +kernel)
set_option maxRecDepth 20000 in
theorem gX7_cover_X7_bits : GoodIn wsX7_cover (wsV RX7 166 RX7 yX7_bits wsX7_bits) := goodIn_app (goodIn_of _ (by decide +kernel)) ggX7_cover_X7_bits
set_option maxRecDepth 20000 in
theorem ggX7_cover_X7_isEnough : GoodIn wsX7_cover wsX7_isEnough := goodIn_r _ [115, 1, 2, 116, 117, 118, 119, 120, 121, 122, 123, 124, 125, 126, 127, 128, 129, 130, 131, 132, 133, 134, 135, 136, 137, 138, 139, 140, 141, 142, 143, 144, 145, 146, 147, 148, 149, 150, 151, 152, 153, 154, 155] (by decide +kernel) (by decide +kernel)
set_option maxRecDepth 20000 in
theorem gX7_cover_X7_isEnough : GoodIn wsX7_cover (wsV RX7 254 RX7 yX7_isEnough wsX7_isEnough) := goodIn_app (goodIn_of _ (by decide +kernel)) ggX7_cover_X7_isEnough
theorem dX7_cover_0 : decode cX7_cover 0 = .ok (.iload_n 1, 1) := by decide +kernel
theorem dX7_cover_1 : decode cX7_cover 1 = .ok (.ifCond .lt 10, 3) := by decide +kernel
theorem dX7_cover_4 : decode cX7_cover 4 = .ok (.iload_n 1, 1) := by decide +kernel
theorem dX7_cover_5 : decode cX7_cover 5 = .ok (.sipush 10000, 3) := by decide +kernel
theorem dX7_cover_8 : decode cX7_cover 8 = .ok (.if_icmp .le 6, 3) := by decide +kernel
theorem dX7_cover_11 : decode cX7_cover 11 = .ok (.bipush (-2), 2) := by decide +kernel
theorem dX7_cover_13 : decode cX7_cover 13 = .ok (.ireturn, 1) := by decide +kernel
theorem dX7_cover_14 : decode cX7_cover 14 = .ok (.aload_n 0, 1) := by decide +kernel
theorem dX7_cover_15 : decode cX7_cover 15 = .ok (.invokevirtual 203, 3) := by decide +kernel
theorem dX7_cover_18 : decode cX7_cover 18 = .ok (.ifCond .ne 6, 3) := by decide +kernel
theorem dX7_cover_21 : decode cX7_cover 21 = .ok (.bipush (-3), 2) := by decide +kernel
theorem dX7_cover_23 : decode cX7_cover 23 = .ok (.ireturn, 1) := by decide +kernel
theorem dX7_cover_24 : decode cX7_cover 24 = .ok (.aload_n 0, 1) := by decide +kernel
theorem dX7_cover_25 : decode cX7_cover 25 = .ok (.invokevirtual 240, 3) := by decide +kernel
theorem dX7_cover_28 : decode cX7_cover 28 = .ok (.aload_n 0, 1) := by decide +kernel
theorem dX7_cover_29 : decode cX7_cover 29 = .ok (.getfield 91, 3) := by decide +kernel
theorem dX7_cover_32 : decode cX7_cover 32 = .ok (.bipush 16, 2) := by decide +kernel
theorem dX7_cover_34 : decode cX7_cover 34 = .ok (.if_icmp .le 6, 3) := by decide +kernel
theorem dX7_cover_37 : decode cX7_cover 37 = .ok (.bipush (-3), 2) := by decide +kernel
theorem dX7_cover_39 : decode cX7_cover 39 = .ok (.ireturn, 1) := by decide +kernel
theorem dX7_cover_40 : decode cX7_cover 40 = .ok (.iconst 0, 1) := by decide +kernel
theorem dX7_cover_41 : decode cX7_cover 41 = .ok (.istore_n 2, 1) := by decide +kernel
theorem dX7_cover_42 : decode cX7_cover 42 = .ok (.iload_n 2, 1) := by decide +kernel
theorem dX7_cover_43 : decode cX7_cover 43 = .ok (.aload_n 0, 1) := by decide +kernel
theorem dX7_cover_44 : decode cX7_cover 44 = .ok (.getfield 91, 3) := by decide +kernel
theorem dX7_cover_47 : decode cX7_cover 47 = .ok (.if_icmp .ge 46, 3) := by decide +kernel
theorem dX7_cover_50 : decode cX7_cover 50 = .ok (.iconst 0, 1) := by decide +kernel
theorem dX7_cover_51 : decode cX7_cover 51 = .ok (.istore_n 3, 1) := by decide +kernel
theorem dX7_cover_52 : decode cX7_cover 52 = .ok (.iload_n 3, 1) := by decide +kernel
theorem dX7_cover_53 : decode cX7_cover 53 = .ok (.bipush 32, 2) := by decide +kernel
theorem dX7_cover_55 : decode cX7_cover 55 = .ok (.if_icmp .gt 32, 3) := by decide +kernel
theorem dX7_cover_58 : decode cX7_cover 58 = .ok (.aload_n 0, 1) := by decide +kernel
theorem dX7_cover_59 : decode cX7_cover 59 = .ok (.getfield 97, 3) := by decide +kernel
theorem dX7_cover_62 : decode cX7_cover 62 = .ok (.bipush 33, 2) := by decide +kernel
theorem dX7_cover_64 : decode cX7_cover 64 = .ok (.iload_n 2, 1) := by decide +kernel
theorem dX7_cover_65 : decode cX7_cover 65 = .ok (.imul, 1) := by decide +kernel
theorem dX7_cover_66 : decode cX7_cover 66 = .ok (.iload_n 3, 1) := by decide +kernel
theorem dX7_cover_67 : decode cX7_cover 67 = .ok (.iadd, 1) := by decide +kernel
theorem dX7_cover_68 : decode cX7_cover 68 = .ok (.aload_n 0, 1) := by decide +kernel
theorem dX7_cover_69 : decode cX7_cover 69 = .ok (.aload_n 0, 1) := by decide +kernel
theorem dX7_cover_70 : decode cX7_cover 70 = .ok (.getfield 82, 3) := by decide +kernel
theorem dX7_cover_73 : decode cX7_cover 73 = .ok (.iload_n 2, 1) := by decide +kernel
theorem dX7_cover_74 : decode cX7_cover 74 = .ok (.iaload, 1) := by decide +kernel
theorem dX7_cover_75 : decode cX7_cover 75 = .ok (.iload_n 3, 1) := by decide +kernel
theorem dX7_cover_76 : decode cX7_cover 76 = .ok (.iload_n 1, 1) := by decide +kernel
theorem dX7_cover_77 : decode cX7_cover 77 = .ok (.invokevirtual 245, 3) := by decide +kernel
theorem dX7_cover_80 : decode cX7_cover 80 = .ok (.bastore, 1) := by decide +kernel
theorem dX7_cover_81 : decode cX7_cover 81 = .ok (.iinc 3 1, 3) := by decide +kernel
theorem dX7_cover_84 : decode cX7_cover 84 = .ok (.goto (-32), 3) := by decide +kernel
theorem dX7_cover_87 : decode cX7_cover 87 = .ok (.iinc 2 1, 3) := by decide +kernel
theorem dX7_cover_90 : decode cX7_cover 90 = .ok (.goto (-48), 3) := by decide +kernel
theorem dX7_cover_93 : decode cX7_cover 93 = .ok (.iconst 1, 1) := by decide +kernel
theorem dX7_cover_94 : decode cX7_cover 94 = .ok (.aload_n 0, 1) := by decide +kernel
theorem dX7_cover_95 : decode cX7_cover 95 = .ok (.getfield 91, 3) := by decide +kernel
theorem dX7_cover_98 : decode cX7_cover 98 = .ok (.ishl, 1) := by decide +kernel
theorem dX7_cover_99 : decode cX7_cover 99 = .ok (.iconst 1, 1) := by decide +kernel
theorem dX7_cover_100 : decode cX7_cover 100 = .ok (.isub, 1) := by decide +kernel
theorem dX7_cover_101 : decode cX7_cover 101 = .ok (.istore_n 2, 1) := by decide +kernel
theorem dX7_cover_102 : decode cX7_cover 102 = .ok (.iconst 1, 1) := by decide +kernel
theorem dX7_cover_103 : decode cX7_cover 103 = .ok (.istore_n 3, 1) := by decide +kernel
theorem dX7_cover_104 : decode cX7_cover 104 = .ok (.iload_n 3, 1) := by decide +kernel
theorem dX7_cover_105 : decode cX7_cover 105 = .ok (.iconst 1, 1) := by decide +kernel
theorem dX7_cover_106 : decode cX7_cover 106 = .ok (.aload_n 0, 1) := by decide +kernel
theorem dX7_cover_107 : decode cX7_cover 107 = .ok (.getfield 91, 3) := by decide +kernel
theorem dX7_cover_110 : decode cX7_cover 110 = .ok (.ishl, 1) := by decide +kernel
theorem dX7_cover_111 : decode cX7_cover 111 = .ok (.if_icmp .ge 75, 3) := by decide +kernel
theorem dX7_cover_114 : decode cX7_cover 114 = .ok (.aload_n 0, 1) := by decide +kernel
theorem dX7_cover_115 : decode cX7_cover 115 = .ok (.iload_n 3, 1) := by decide +kernel
theorem dX7_cover_116 : decode cX7_cover 116 = .ok (.invokevirtual 166, 3) := by decide +kernel
theorem dX7_cover_119 : decode cX7_cover 119 = .ok (.istore 4, 2) := by decide +kernel
theorem dX7_cover_121 : decode cX7_cover 121 = .ok (.aload_n 0, 1) := by decide +kernel
theorem dX7_cover_122 : decode cX7_cover 122 = .ok (.iload_n 2, 1) := by decide +kernel
theorem dX7_cover_123 : decode cX7_cover 123 = .ok (.invokevirtual 166, 3) := by decide +kernel
theorem dX7_cover_126 : decode cX7_cover 126 = .ok (.istore 5, 2) := by decide +kernel
theorem dX7_cover_128 : decode cX7_cover 128 = .ok (.iload_n 3, 1) := by decide +kernel
theorem dX7_cover_129 : decode cX7_cover 129 = .ok (.iload_n 2, 1) := by decide +kernel
theorem dX7_cover_130 : decode cX7_cover 130 = .ok (.ixor, 1) := by decide +kernel
theorem dX7_cover_131 : decode cX7_cover 131 = .ok (.istore 6, 2) := by decide +kernel
theorem dX7_cover_133 : decode cX7_cover 133 = .ok (.iload 4, 2) := by decide +kernel
theorem dX7_cover_135 : decode cX7_cover 135 = .ok (.iload 5, 2) := by decide +kernel
theorem dX7_cover_137 : decode cX7_cover 137 = .ok (.if_icmp .lt 21, 3) := by decide +kernel
theorem dX7_cover_140 : decode cX7_cover 140 = .ok (.iload 4, 2) := by decide +kernel
theorem dX7_cover_142 : decode cX7_cover 142 = .ok (.iload 5, 2) := by decide +kernel
theorem dX7_cover_144 : decode cX7_cover 144 = .ok (.if_icmp .ne 18, 3) := by decide +kernel
theorem dX7_cover_147 : decode cX7_cover 147 = .ok (.iload_n 3, 1) := by decide +kernel
theorem dX7_cover_148 : decode cX7_cover 148 = .ok (.iload 6, 2) := by decide +kernel
theorem dX7_cover_150 : decode cX7_cover 150 = .ok (.iand, 1) := by decide +kernel
theorem dX7_cover_151 : decode cX7_cover 151 = .ok (.iload 6, 2) := by decide +kernel
theorem dX7_cover_153 : decode cX7_cover 153 = .ok (.ineg, 1) := by decide +kernel
theorem dX7_cover_154 : decode cX7_cover 154 = .ok (.iand, 1) := by decide +kernel
theorem dX7_cover_155 : decode cX7_cover 155 = .ok (.ifCond .eq 7, 3) := by decide +kernel
theorem dX7_cover_158 : decode cX7_cover 158 = .ok (.iconst 1, 1) := by decide +kernel
theorem dX7_cover_159 : decode cX7_cover 159 = .ok (.goto 4, 3) := by decide +kernel
theorem dX7_cover_162 : decode cX7_cover 162 = .ok (.iconst 0, 1) := by decide +kernel
theorem dX7_cover_163 : decode cX7_cover 163 = .ok (.istore 7, 2) := by decide +kernel
theorem dX7_cover_165 : decode cX7_cover 165 = .ok (.iload 7, 2) := by decide +kernel
theorem dX7_cover_167 : decode cX7_cover 167 = .ok (.ifCond .eq 13, 3) := by decide +kernel
theorem dX7_cover_170 : decode cX7_cover 170 = .ok (.aload_n 0, 1) := by decide +kernel
theorem dX7_cover_171 : decode cX7_cover 171 = .ok (.iload_n 3, 1) := by decide +kernel
theorem dX7_cover_172 : decode cX7_cover 172 = .ok (.invokevirtual 254, 3) := by decide +kernel
theorem dX7_cover_175 : decode cX7_cover 175 = .ok (.ifCond .eq 5, 3) := by decide +kernel
theorem dX7_cover_178 : decode cX7_cover 178 = .ok (.iload_n 3, 1) := by decide +kernel
theorem dX7_cover_179 : decode cX7_cover 179 = .ok (.istore_n 2, 1) := by decide +kernel
theorem dX7_cover_180 : decode cX7_cover 180 = .ok (.iinc 3 1, 3) := by decide +kernel
theorem dX7_cover_183 : decode cX7_cover 183 = .ok (.goto (-79), 3) := by decide +kernel
theorem dX7_cover_186 : decode cX7_cover 186 = .ok (.iload_n 2, 1) := by decide +kernel
theorem dX7_cover_187 : decode cX7_cover 187 = .ok (.ireturn, 1) := by decide +kernel
theorem dX7_isEnough_0 : decode cX7_isEnough 0 = .ok (.iconst 0, 1) := by decide +kernel
theorem dX7_isEnough_1 : decode cX7_isEnough 1 = .ok (.istore_n 2, 1) := by decide +kernel
theorem dX7_isEnough_2 : decode cX7_isEnough 2 = .ok (.iload_n 2, 1) := by decide +kernel
theorem dX7_isEnough_3 : decode cX7_isEnough 3 = .ok (.bipush 32, 2) := by decide +kernel
theorem dX7_isEnough_5 : decode cX7_isEnough 5 = .ok (.if_icmp .gt 70, 3) := by decide +kernel
theorem dX7_isEnough_8 : decode cX7_isEnough 8 = .ok (.iconst 0, 1) := by decide +kernel
theorem dX7_isEnough_9 : decode cX7_isEnough 9 = .ok (.istore_n 3, 1) := by decide +kernel
theorem dX7_isEnough_10 : decode cX7_isEnough 10 = .ok (.iconst 0, 1) := by decide +kernel
theorem dX7_isEnough_11 : decode cX7_isEnough 11 = .ok (.istore 4, 2) := by decide +kernel
theorem dX7_isEnough_13 : decode cX7_isEnough 13 = .ok (.iload 4, 2) := by decide +kernel
theorem dX7_isEnough_15 : decode cX7_isEnough 15 = .ok (.aload_n 0, 1) := by decide +kernel
theorem dX7_isEnough_16 : decode cX7_isEnough 16 = .ok (.getfield 91, 3) := by decide +kernel
theorem dX7_isEnough_19 : decode cX7_isEnough 19 = .ok (.if_icmp .ge 44, 3) := by decide +kernel
theorem dX7_isEnough_22 : decode cX7_isEnough 22 = .ok (.iload_n 3, 1) := by decide +kernel
theorem dX7_isEnough_23 : decode cX7_isEnough 23 = .ok (.ifCond .ne 28, 3) := by decide +kernel
theorem dX7_isEnough_26 : decode cX7_isEnough 26 = .ok (.iload_n 1, 1) := by decide +kernel
theorem dX7_isEnough_27 : decode cX7_isEnough 27 = .ok (.iload 4, 2) := by decide +kernel
theorem dX7_isEnough_29 : decode cX7_isEnough 29 = .ok (.ishr, 1) := by decide +kernel
theorem dX7_isEnough_30 : decode cX7_isEnough 30 = .ok (.iconst 1, 1) := by decide +kernel
theorem dX7_isEnough_31 : decode cX7_isEnough 31 = .ok (.iand, 1) := by decide +kernel
theorem dX7_isEnough_32 : decode cX7_isEnough 32 = .ok (.iconst 1, 1) := by decide +kernel
theorem dX7_isEnough_33 : decode cX7_isEnough 33 = .ok (.if_icmp .ne 22, 3) := by decide +kernel
theorem dX7_isEnough_36 : decode cX7_isEnough 36 = .ok (.aload_n 0, 1) := by decide +kernel
theorem dX7_isEnough_37 : decode cX7_isEnough 37 = .ok (.getfield 97, 3) := by decide +kernel
theorem dX7_isEnough_40 : decode cX7_isEnough 40 = .ok (.bipush 33, 2) := by decide +kernel
theorem dX7_isEnough_42 : decode cX7_isEnough 42 = .ok (.iload 4, 2) := by decide +kernel
theorem dX7_isEnough_44 : decode cX7_isEnough 44 = .ok (.imul, 1) := by decide +kernel
theorem dX7_isEnough_45 : decode cX7_isEnough 45 = .ok (.iload_n 2, 1) := by decide +kernel
theorem dX7_isEnough_46 : decode cX7_isEnough 46 = .ok (.iadd, 1) := by decide +kernel
theorem dX7_isEnough_47 : decode cX7_isEnough 47 = .ok (.baload, 1) := by decide +kernel
theorem dX7_isEnough_48 : decode cX7_isEnough 48 = .ok (.ifCond .eq 7, 3) := by decide +kernel
theorem dX7_isEnough_51 : decode cX7_isEnough 51 = .ok (.iconst 1, 1) := by decide +kernel
theorem dX7_isEnough_52 : decode cX7_isEnough 52 = .ok (.goto 4, 3) := by decide +kernel
theorem dX7_isEnough_55 : decode cX7_isEnough 55 = .ok (.iconst 0, 1) := by decide +kernel
theorem dX7_isEnough_56 : decode cX7_isEnough 56 = .ok (.istore_n 3, 1) := by decide +kernel
theorem dX7_isEnough_57 : decode cX7_isEnough 57 = .ok (.iinc 4 1, 3) := by decide +kernel
theorem dX7_isEnough_60 : decode cX7_isEnough 60 = .ok (.goto (-47), 3) := by decide +kernel
theorem dX7_isEnough_63 : decode cX7_isEnough 63 = .ok (.iload_n 3, 1) := by decide +kernel
theorem dX7_isEnough_64 : decode cX7_isEnough 64 = .ok (.ifCond .ne 5, 3) := by decide +kernel
theorem dX7_isEnough_67 : decode cX7_isEnough 67 = .ok (.iconst 0, 1) := by decide +kernel
theorem dX7_isEnough_68 : decode cX7_isEnough 68 = .ok (.ireturn, 1) := by decide +kernel
theorem dX7_isEnough_69 : decode cX7_isEnough 69 = .ok (.iinc 2 1, 3) := by decide +kernel
theorem dX7_isEnough_72 : decode cX7_isEnough 72 = .ok (.goto (-70), 3) := by decide +kernel
theorem dX7_isEnough_75 : decode cX7_isEnough 75 = .ok (.iconst 1, 1) := by decide +kernel
theorem dX7_isEnough_76 : decode cX7_isEnough 76 = .ok (.ireturn, 1) := by decide +kernel
theorem dX7_spot_0 : decode cX7_spot 0 = .ok (.ldc 120, 2) := by decide +kernel
theorem dX7_spot_2 : decode cX7_spot 2 = .ok (.iload_n 1, 1) := by decide +kernel
theorem dX7_spot_3 : decode cX7_spot 3 = .ok (.imul, 1) := by decide +kernel
theorem dX7_spot_4 : decode cX7_spot 4 = .ok (.iconst 4, 1) := by decide +kernel
theorem dX7_spot_5 : decode cX7_spot 5 = .ok (.iload_n 2, 1) := by decide +kernel
theorem dX7_spot_6 : decode cX7_spot 6 = .ok (.imul, 1) := by decide +kernel
theorem dX7_spot_7 : decode cX7_spot 7 = .ok (.iadd, 1) := by decide +kernel
theorem dX7_spot_8 : decode cX7_spot 8 = .ok (.ireturn, 1) := by decide +kernel
set_option maxRecDepth 20000 in
theorem ggX7_readAll_X7_spot : GoodIn wsX7_readAll wsX7_spot := goodIn_r _ [11, 12] (by decide +kernel) (by decide +kernel)
set_option maxRecDepth 20000 in
theorem gX7_readAll_X7_spot : GoodIn wsX7_readAll (wsV RX7 257 RX7 yX7_spot wsX7_spot) := goodIn_app (goodIn_of _ (by decide +kernel)) ggX7_readAll_X7_spot
theorem dX7_readAll_0 : decode cX7_readAll 0 = .ok (.aload_n 0, 1) := by decide +kernel
theorem dX7_readAll_1 : decode cX7_readAll 1 = .ok (.getfield 105, 3) := by decide +kernel
theorem dX7_readAll_4 : decode cX7_readAll 4 = .ok (.aload_n 0, 1) := by decide +kernel
theorem dX7_readAll_5 : decode cX7_readAll 5 = .ok (.getfield 124, 3) := by decide +kernel
theorem dX7_readAll_8 : decode cX7_readAll 8 = .ok (.aload_n 0, 1) := by decide +kernel
theorem dX7_readAll_9 : decode cX7_readAll 9 = .ok (.getfield 22, 3) := by decide +kernel
theorem dX7_readAll_12 : decode cX7_readAll 12 = .ok (.iload_n 1, 1) := by decide +kernel
theorem dX7_readAll_13 : decode cX7_readAll 13 = .ok (.iaload, 1) := by decide +kernel
theorem dX7_readAll_14 : decode cX7_readAll 14 = .ok (.iastore, 1) := by decide +kernel
theorem dX7_readAll_15 : decode cX7_readAll 15 = .ok (.aload_n 0, 1) := by decide +kernel
theorem dX7_readAll_16 : decode cX7_readAll 16 = .ok (.getfield 108, 3) := by decide +kernel
theorem dX7_readAll_19 : decode cX7_readAll 19 = .ok (.aload_n 0, 1) := by decide +kernel
theorem dX7_readAll_20 : decode cX7_readAll 20 = .ok (.getfield 124, 3) := by decide +kernel
theorem dX7_readAll_23 : decode cX7_readAll 23 = .ok (.iconst 1, 1) := by decide +kernel
theorem dX7_readAll_24 : decode cX7_readAll 24 = .ok (.iload_n 1, 1) := by decide +kernel
theorem dX7_readAll_25 : decode cX7_readAll 25 = .ok (.ishl, 1) := by decide +kernel
theorem dX7_readAll_26 : decode cX7_readAll 26 = .ok (.iastore, 1) := by decide +kernel
theorem dX7_readAll_27 : decode cX7_readAll 27 = .ok (.iconst 0, 1) := by decide +kernel
theorem dX7_readAll_28 : decode cX7_readAll 28 = .ok (.istore_n 2, 1) := by decide +kernel
theorem dX7_readAll_29 : decode cX7_readAll 29 = .ok (.iload_n 2, 1) := by decide +kernel
theorem dX7_readAll_30 : decode cX7_readAll 30 = .ok (.aload_n 0, 1) := by decide +kernel
theorem dX7_readAll_31 : decode cX7_readAll 31 = .ok (.getfield 22, 3) := by decide +kernel
theorem dX7_readAll_34 : decode cX7_readAll 34 = .ok (.iload_n 1, 1) := by decide +kernel
theorem dX7_readAll_35 : decode cX7_readAll 35 = .ok (.iaload, 1) := by decide +kernel
theorem dX7_readAll_36 : decode cX7_readAll 36 = .ok (.if_icmp .ge 54, 3) := by decide +kernel
theorem dX7_readAll_39 : decode cX7_readAll 39 = .ok (.aload_n 0, 1) := by decide +kernel
theorem dX7_readAll_40 : decode cX7_readAll 40 = .ok (.aload_n 0, 1) := by decide +kernel
theorem dX7_readAll_41 : decode cX7_readAll 41 = .ok (.getfield 124, 3) := by decide +kernel
theorem dX7_readAll_44 : decode cX7_readAll 44 = .ok (.iload_n 2, 1) := by decide +kernel
theorem dX7_readAll_45 : decode cX7_readAll 45 = .ok (.invokevirtual 257, 3) := by decide +kernel
theorem dX7_readAll_48 : decode cX7_readAll 48 = .ok (.istore_n 3, 1) := by decide +kernel
theorem dX7_readAll_49 : decode cX7_readAll 49 = .ok (.iconst 0, 1) := by decide +kernel
theorem dX7_readAll_50 : decode cX7_readAll 50 = .ok (.istore 4, 2) := by decide +kernel
theorem dX7_readAll_52 : decode cX7_readAll 52 = .ok (.iload 4, 2) := by decide +kernel
theorem dX7_readAll_54 : decode cX7_readAll 54 = .ok (.iconst 4, 1) := by decide +kernel
theorem dX7_readAll_55 : decode cX7_readAll 55 = .ok (.if_icmp .ge 29, 3) := by decide +kernel
theorem dX7_readAll_58 : decode cX7_readAll 58 = .ok (.aload_n 0, 1) := by decide +kernel
theorem dX7_readAll_59 : decode cX7_readAll 59 = .ok (.getfield 102, 3) := by decide +kernel
theorem dX7_readAll_62 : decode cX7_readAll 62 = .ok (.iload_n 3, 1) := by decide +kernel
theorem dX7_readAll_63 : decode cX7_readAll 63 = .ok (.iload 4, 2) := by decide +kernel
theorem dX7_readAll_65 : decode cX7_readAll 65 = .ok (.iadd, 1) := by decide +kernel
theorem dX7_readAll_66 : decode cX7_readAll 66 = .ok (.iload 4, 2) := by decide +kernel
theorem dX7_readAll_68 : decode cX7_readAll 68 = .ok (.iload_n 1, 1) := by decide +kernel
theorem dX7_readAll_69 : decode cX7_readAll 69 = .ok (.if_icmp .ne 7, 3) := by decide +kernel
theorem dX7_readAll_72 : decode cX7_readAll 72 = .ok (.iload_n 2, 1) := by decide +kernel
theorem dX7_readAll_73 : decode cX7_readAll 73 = .ok (.goto 4, 3) := by decide +kernel
theorem dX7_readAll_76 : decode cX7_readAll 76 = .ok (.iconst (-1), 1) := by decide +kernel
theorem dX7_readAll_77 : decode cX7_readAll 77 = .ok (.iastore, 1) := by decide +kernel
theorem dX7_readAll_78 : decode cX7_readAll 78 = .ok (.iinc 4 1, 3) := by decide +kernel
theorem dX7_readAll_81 : decode cX7_readAll 81 = .ok (.goto (-29), 3) := by decide +kernel
theorem dX7_readAll_84 : decode cX7_readAll 84 = .ok (.iinc 2 1, 3) := by decide +kernel
theorem dX7_readAll_87 : decode cX7_readAll 87 = .ok (.goto (-58), 3) := by decide +kernel
theorem dX7_readAll_90 : decode cX7_readAll 90 = .ok (.aload_n 0, 1) := by decide +kernel
theorem dX7_readAll_91 : decode cX7_readAll 91 = .ok (.dup, 1) := by decide +kernel
theorem dX7_readAll_92 : decode cX7_readAll 92 = .ok (.getfield 127, 3) := by decide +kernel
theorem dX7_readAll_95 : decode cX7_readAll 95 = .ok (.aload_n 0, 1) := by decide +kernel
theorem dX7_readAll_96 : decode cX7_readAll 96 = .ok (.getfield 22, 3) := by decide +kernel
theorem dX7_readAll_99 : decode cX7_readAll 99 = .ok (.iload_n 1, 1) := by decide +kernel
theorem dX7_readAll_100 : decode cX7_readAll 100 = .ok (.iaload, 1) := by decide +kernel
theorem dX7_readAll_101 : decode cX7_readAll 101 = .ok (.iadd, 1) := by decide +kernel
theorem dX7_readAll_102 : decode cX7_readAll 102 = .ok (.putfield 127, 3) := by decide +kernel
theorem dX7_readAll_105 : decode cX7_readAll 105 = .ok (.aload_n 0, 1) := by decide +kernel
theorem dX7_readAll_106 : decode cX7_readAll 106 = .ok (.dup, 1) := by decide +kernel
theorem dX7_readAll_107 : decode cX7_readAll 107 = .ok (.getfield 124, 3) := by decide +kernel
theorem dX7_readAll_110 : decode cX7_readAll 110 = .ok (.iconst 1, 1) := by decide +kernel
theorem dX7_readAll_111 : decode cX7_readAll 111 = .ok (.iadd, 1) := by decide +kernel
theorem dX7_readAll_112 : decode cX7_readAll 112 = .ok (.putfield 124, 3) := by decide +kernel
theorem dX7_readAll_115 : decode cX7_readAll 115 = .ok (.return_, 1) := by decide +kernel
theorem dX7_of_0 : decode cX7_of 0 = .ok (.aload_n 0, 1) := by decide +kernel
theorem dX7_of_1 : decode cX7_of 1 = .ok (.getfield 26, 3) := by decide +kernel
theorem dX7_of_4 : decode cX7_of 4 = .ok (.bipush 36, 2) := by decide +kernel
theorem dX7_of_6 : decode cX7_of 6 = .ok (.iload_n 1, 1) := by decide +kernel
theorem dX7_of_7 : decode cX7_of 7 = .ok (.imul, 1) := by decide +kernel
theorem dX7_of_8 : decode cX7_of 8 = .ok (.iconst 3, 1) := by decide +kernel
theorem dX7_of_9 : decode cX7_of 9 = .ok (.iload_n 2, 1) := by decide +kernel
theorem dX7_of_10 : decode cX7_of 10 = .ok (.imul, 1) := by decide +kernel
theorem dX7_of_11 : decode cX7_of 11 = .ok (.iadd, 1) := by decide +kernel
theorem dX7_of_12 : decode cX7_of 12 = .ok (.iload_n 3, 1) := by decide +kernel
theorem dX7_of_13 : decode cX7_of 13 = .ok (.iadd, 1) := by decide +kernel
theorem dX7_of_14 : decode cX7_of 14 = .ok (.iaload, 1) := by decide +kernel
theorem dX7_of_15 : decode cX7_of 15 = .ok (.ireturn, 1) := by decide +kernel
set_option maxRecDepth 20000 in
theorem ggX7_fits_X7_isBetween : GoodIn wsX7_fits wsX7_isBetween := goodIn_r _ [11, 2, 4, 17, 18, 19, 20, 21, 22, 23, 24, 25, 26, 27, 28, 29, 30, 31, 32, 33, 34, 35, 36, 37, 38, 39, 40, 41, 42, 43, 44, 45, 46, 47, 48, 49, 50, 51, 52, 53, 54, 55, 56] (by decide +kernel) (by decide +kernel)
set_option maxRecDepth 20000 in
theorem gX7_fits_X7_isBetween : GoodIn wsX7_fits (wsV RX7 136 RX7 yX7_isBetween wsX7_isBetween) := goodIn_app (goodIn_of _ (by decide +kernel)) ggX7_fits_X7_isBetween
set_option maxRecDepth 20000 in
theorem ggX7_fits_X7_of : GoodIn wsX7_fits wsX7_of := goodIn_r _ [15, 16, 17, 18, 19, 20, 21, 22, 23, 24, 25, 26, 27, 28, 29, 30, 31, 32, 33, 34, 35, 36, 37, 38, 39, 40, 41, 42, 43, 44, 45, 46, 47, 48, 49, 50, 51, 52, 53, 54, 55, 56] (by decide +kernel) (by decide +kernel)
set_option maxRecDepth 20000 in
theorem gX7_fits_X7_of : GoodIn wsX7_fits (wsV RX7 260 RX7 yX7_of wsX7_of) := goodIn_app (goodIn_of _ (by decide +kernel)) ggX7_fits_X7_of
theorem dX7_fits_0 : decode cX7_fits 0 = .ok (.iconst 0, 1) := by decide +kernel
theorem dX7_fits_1 : decode cX7_fits 1 = .ok (.istore 5, 2) := by decide +kernel
theorem dX7_fits_3 : decode cX7_fits 3 = .ok (.iload 5, 2) := by decide +kernel
theorem dX7_fits_5 : decode cX7_fits 5 = .ok (.aload_n 0, 1) := by decide +kernel
theorem dX7_fits_6 : decode cX7_fits 6 = .ok (.getfield 13, 3) := by decide +kernel
theorem dX7_fits_9 : decode cX7_fits 9 = .ok (.if_icmp .ge 166, 3) := by decide +kernel
theorem dX7_fits_12 : decode cX7_fits 12 = .ok (.aload_n 0, 1) := by decide +kernel
theorem dX7_fits_13 : decode cX7_fits 13 = .ok (.iload 5, 2) := by decide +kernel
theorem dX7_fits_15 : decode cX7_fits 15 = .ok (.iload_n 1, 1) := by decide +kernel
theorem dX7_fits_16 : decode cX7_fits 16 = .ok (.iload_n 2, 1) := by decide +kernel
theorem dX7_fits_17 : decode cX7_fits 17 = .ok (.invokevirtual 136, 3) := by decide +kernel
theorem dX7_fits_20 : decode cX7_fits 20 = .ok (.ifCond .ne 6, 3) := by decide +kernel
theorem dX7_fits_23 : decode cX7_fits 23 = .ok (.goto 146, 3) := by decide +kernel
theorem dX7_fits_26 : decode cX7_fits 26 = .ok (.iload_n 1, 1) := by decide +kernel
theorem dX7_fits_27 : decode cX7_fits 27 = .ok (.aload_n 0, 1) := by decide +kernel
theorem dX7_fits_28 : decode cX7_fits 28 = .ok (.getfield 29, 3) := by decide +kernel
theorem dX7_fits_31 : decode cX7_fits 31 = .ok (.iload 5, 2) := by decide +kernel
theorem dX7_fits_33 : decode cX7_fits 33 = .ok (.iaload, 1) := by decide +kernel
theorem dX7_fits_34 : decode cX7_fits 34 = .ok (.ishr, 1) := by decide +kernel
theorem dX7_fits_35 : decode cX7_fits 35 = .ok (.iconst 1, 1) := by decide +kernel
theorem dX7_fits_36 : decode cX7_fits 36 = .ok (.iand, 1) := by decide +kernel
theorem dX7_fits_37 : decode cX7_fits 37 = .ok (.iconst 1, 1) := by decide +kernel
theorem dX7_fits_38 : decode cX7_fits 38 = .ok (.if_icmp .ne 20, 3) := by decide +kernel
theorem dX7_fits_41 : decode cX7_fits 41 = .ok (.aload_n 0, 1) := by decide +kernel
theorem dX7_fits_42 : decode cX7_fits 42 = .ok (.getfield 102, 3) := by decide +kernel
theorem dX7_fits_45 : decode cX7_fits 45 = .ok (.iload_n 3, 1) := by decide +kernel
theorem dX7_fits_46 : decode cX7_fits 46 = .ok (.aload_n 0, 1) := by decide +kernel
theorem dX7_fits_47 : decode cX7_fits 47 = .ok (.getfield 29, 3) := by decide +kernel
theorem dX7_fits_50 : decode cX7_fits 50 = .ok (.iload 5, 2) := by decide +kernel
theorem dX7_fits_52 : decode cX7_fits 52 = .ok (.iaload, 1) := by decide +kernel
theorem dX7_fits_53 : decode cX7_fits 53 = .ok (.iadd, 1) := by decide +kernel
theorem dX7_fits_54 : decode cX7_fits 54 = .ok (.iaload, 1) := by decide +kernel
theorem dX7_fits_55 : decode cX7_fits 55 = .ok (.goto 18, 3) := by decide +kernel
theorem dX7_fits_58 : decode cX7_fits 58 = .ok (.aload_n 0, 1) := by decide +kernel
theorem dX7_fits_59 : decode cX7_fits 59 = .ok (.getfield 102, 3) := by decide +kernel
theorem dX7_fits_62 : decode cX7_fits 62 = .ok (.iload 4, 2) := by decide +kernel
theorem dX7_fits_64 : decode cX7_fits 64 = .ok (.aload_n 0, 1) := by decide +kernel
theorem dX7_fits_65 : decode cX7_fits 65 = .ok (.getfield 29, 3) := by decide +kernel
theorem dX7_fits_68 : decode cX7_fits 68 = .ok (.iload 5, 2) := by decide +kernel
theorem dX7_fits_70 : decode cX7_fits 70 = .ok (.iaload, 1) := by decide +kernel
theorem dX7_fits_71 : decode cX7_fits 71 = .ok (.iadd, 1) := by decide +kernel
theorem dX7_fits_72 : decode cX7_fits 72 = .ok (.iaload, 1) := by decide +kernel
theorem dX7_fits_73 : decode cX7_fits 73 = .ok (.istore 6, 2) := by decide +kernel
theorem dX7_fits_75 : decode cX7_fits 75 = .ok (.iload_n 1, 1) := by decide +kernel
theorem dX7_fits_76 : decode cX7_fits 76 = .ok (.aload_n 0, 1) := by decide +kernel
theorem dX7_fits_77 : decode cX7_fits 77 = .ok (.getfield 35, 3) := by decide +kernel
theorem dX7_fits_80 : decode cX7_fits 80 = .ok (.iload 5, 2) := by decide +kernel
theorem dX7_fits_82 : decode cX7_fits 82 = .ok (.iaload, 1) := by decide +kernel
theorem dX7_fits_83 : decode cX7_fits 83 = .ok (.ishr, 1) := by decide +kernel
theorem dX7_fits_84 : decode cX7_fits 84 = .ok (.iconst 1, 1) := by decide +kernel
theorem dX7_fits_85 : decode cX7_fits 85 = .ok (.iand, 1) := by decide +kernel
theorem dX7_fits_86 : decode cX7_fits 86 = .ok (.iconst 1, 1) := by decide +kernel
theorem dX7_fits_87 : decode cX7_fits 87 = .ok (.if_icmp .ne 20, 3) := by decide +kernel
theorem dX7_fits_90 : decode cX7_fits 90 = .ok (.aload_n 0, 1) := by decide +kernel
theorem dX7_fits_91 : decode cX7_fits 91 = .ok (.getfield 102, 3) := by decide +kernel
theorem dX7_fits_94 : decode cX7_fits 94 = .ok (.iload_n 3, 1) := by decide +kernel
theorem dX7_fits_95 : decode cX7_fits 95 = .ok (.aload_n 0, 1) := by decide +kernel
theorem dX7_fits_96 : decode cX7_fits 96 = .ok (.getfield 35, 3) := by decide +kernel
theorem dX7_fits_99 : decode cX7_fits 99 = .ok (.iload 5, 2) := by decide +kernel
theorem dX7_fits_101 : decode cX7_fits 101 = .ok (.iaload, 1) := by decide +kernel
theorem dX7_fits_102 : decode cX7_fits 102 = .ok (.iadd, 1) := by decide +kernel
theorem dX7_fits_103 : decode cX7_fits 103 = .ok (.iaload, 1) := by decide +kernel
theorem dX7_fits_104 : decode cX7_fits 104 = .ok (.goto 18, 3) := by decide +kernel
theorem dX7_fits_107 : decode cX7_fits 107 = .ok (.aload_n 0, 1) := by decide +kernel
theorem dX7_fits_108 : decode cX7_fits 108 = .ok (.getfield 102, 3) := by decide +kernel
theorem dX7_fits_111 : decode cX7_fits 111 = .ok (.iload 4, 2) := by decide +kernel
theorem dX7_fits_113 : decode cX7_fits 113 = .ok (.aload_n 0, 1) := by decide +kernel
theorem dX7_fits_114 : decode cX7_fits 114 = .ok (.getfield 35, 3) := by decide +kernel
theorem dX7_fits_117 : decode cX7_fits 117 = .ok (.iload 5, 2) := by decide +kernel
theorem dX7_fits_119 : decode cX7_fits 119 = .ok (.iaload, 1) := by decide +kernel
theorem dX7_fits_120 : decode cX7_fits 120 = .ok (.iadd, 1) := by decide +kernel
theorem dX7_fits_121 : decode cX7_fits 121 = .ok (.iaload, 1) := by decide +kernel
theorem dX7_fits_122 : decode cX7_fits 122 = .ok (.istore 7, 2) := by decide +kernel
theorem dX7_fits_124 : decode cX7_fits 124 = .ok (.aload_n 0, 1) := by decide +kernel
theorem dX7_fits_125 : decode cX7_fits 125 = .ok (.aload_n 0, 1) := by decide +kernel
theorem dX7_fits_126 : decode cX7_fits 126 = .ok (.getfield 29, 3) := by decide +kernel
theorem dX7_fits_129 : decode cX7_fits 129 = .ok (.iload 5, 2) := by decide +kernel
theorem dX7_fits_131 : decode cX7_fits 131 = .ok (.iaload, 1) := by decide +kernel
theorem dX7_fits_132 : decode cX7_fits 132 = .ok (.iload 6, 2) := by decide +kernel
theorem dX7_fits_134 : decode cX7_fits 134 = .ok (.aload_n 0, 1) := by decide +kernel
theorem dX7_fits_135 : decode cX7_fits 135 = .ok (.getfield 32, 3) := by decide +kernel
theorem dX7_fits_138 : decode cX7_fits 138 = .ok (.iload 5, 2) := by decide +kernel
theorem dX7_fits_140 : decode cX7_fits 140 = .ok (.iaload, 1) := by decide +kernel
theorem dX7_fits_141 : decode cX7_fits 141 = .ok (.invokevirtual 260, 3) := by decide +kernel
theorem dX7_fits_144 : decode cX7_fits 144 = .ok (.aload_n 0, 1) := by decide +kernel
theorem dX7_fits_145 : decode cX7_fits 145 = .ok (.aload_n 0, 1) := by decide +kernel
theorem dX7_fits_146 : decode cX7_fits 146 = .ok (.getfield 35, 3) := by decide +kernel
theorem dX7_fits_149 : decode cX7_fits 149 = .ok (.iload 5, 2) := by decide +kernel
theorem dX7_fits_151 : decode cX7_fits 151 = .ok (.iaload, 1) := by decide +kernel
theorem dX7_fits_152 : decode cX7_fits 152 = .ok (.iload 7, 2) := by decide +kernel
theorem dX7_fits_154 : decode cX7_fits 154 = .ok (.aload_n 0, 1) := by decide +kernel
theorem dX7_fits_155 : decode cX7_fits 155 = .ok (.getfield 38, 3) := by decide +kernel
theorem dX7_fits_158 : decode cX7_fits 158 = .ok (.iload 5, 2) := by decide +kernel
theorem dX7_fits_160 : decode cX7_fits 160 = .ok (.iaload, 1) := by decide +kernel
theorem dX7_fits_161 : decode cX7_fits 161 = .ok (.invokevirtual 260, 3) := by decide +kernel
theorem dX7_fits_164 : decode cX7_fits 164 = .ok (.if_icmp .eq 5, 3) := by decide +kernel
theorem dX7_fits_167 : decode cX7_fits 167 = .ok (.iconst 0, 1) := by decide +kernel
theorem dX7_fits_168 : decode cX7_fits 168 = .ok (.ireturn, 1) := by decide +kernel
theorem dX7_fits_169 : decode cX7_fits 169 = .ok (.iinc 5 1, 3) := by decide +kernel
theorem dX7_fits_172 : decode cX7_fits 172 = .ok (.goto (-169), 3) := by decide +kernel
theorem dX7_fits_175 : decode cX7_fits 175 = .ok (.iconst 1, 1) := by decide +kernel
theorem dX7_fits_176 : decode cX7_fits 176 = .ok (.ireturn, 1) := by decide +kernel
set_option maxRecDepth 20000 in
theorem ggX7_joinTop_X7_spot : GoodIn wsX7_joinTop wsX7_spot := goodIn_r _ [13, 14] (by decide +kernel) (by decide +kernel)
set_option maxRecDepth 20000 in
theorem gX7_joinTop_X7_spot : GoodIn wsX7_joinTop (wsV RX7 257 RX7 yX7_spot wsX7_spot) := goodIn_app (goodIn_of _ (by decide +kernel)) ggX7_joinTop_X7_spot
set_option maxRecDepth 20000 in
theorem ggX7_joinTop_X7_fits : GoodIn wsX7_joinTop wsX7_fits := goodIn_r _ [18, 19, 7, 5, 20, 8, 21, 22, 23, 24, 12, 25, 26, 27, 28, 29, 30, 46, 47, 48, 49, 50, 51, 52, 53, 54, 55, 56, 57, 58, 59, 60, 61, 62, 63, 64, 65, 66, 67, 68, 69, 70, 71, 72, 73, 74, 75, 76, 77, 78, 79, 80, 81, 82, 83, 84, 85] (by decide +kernel) (by decide +kernel)
set_option maxRecDepth 20000 in
theorem gX7_joinTop_X7_fits : GoodIn wsX7_joinTop (wsV RX7 264 RX7 yX7_fits wsX7_fits) := goodIn_app (goodIn_of _ (by decide +kernel)) ggX7_joinTop_X7_fits
set_option maxRecDepth 20000 in
theorem ggX7_joinTop_X7_between : GoodIn wsX7_joinTop wsX7_between := goodIn_r _ [34, 19, 22, 23, 24, 12, 25, 7, 20, 46, 47, 48, 49, 50, 51, 52, 53, 54, 55, 56, 57, 58, 59, 60, 61, 62, 63, 64, 65, 66, 67, 68, 69, 70, 71, 72, 73, 74, 75, 76, 77, 78, 79, 80, 81, 82, 83, 84, 85] (by decide +kernel) (by decide +kernel)
set_option maxRecDepth 20000 in
theorem gX7_joinTop_X7_between : GoodIn wsX7_joinTop (wsV RX7 174 RX7 yX7_between wsX7_between) := goodIn_app (goodIn_of _ (by decide +kernel)) ggX7_joinTop_X7_between
set_option maxRecDepth 20000 in
theorem ggX7_joinTop_X7_sort : GoodIn wsX7_joinTop wsX7_sort := goodIn_r _ [38, 2, 1, 39, 40, 5, 41, 4, 9, 10, 11, 12, 13, 14, 26, 27, 28, 29, 30, 42, 43, 44, 45, 46, 47, 48, 49, 50, 51, 52, 53, 54, 55, 56, 57, 58, 59, 60, 61, 62, 63, 64, 65, 66, 67, 68, 69, 70, 71, 72, 73, 74, 75, 76, 77, 78, 79, 80, 81, 82, 83, 84, 85] (by decide +kernel) (by decide +kernel)
set_option maxRecDepth 20000 in
theorem gX7_joinTop_X7_sort : GoodIn wsX7_joinTop (wsV RX7 268 RX7 yX7_sort wsX7_sort) := goodIn_app (goodIn_of _ (by decide +kernel)) ggX7_joinTop_X7_sort
theorem dX7_joinTop_0 : decode cX7_joinTop 0 = .ok (.aload_n 0, 1) := by decide +kernel
theorem dX7_joinTop_1 : decode cX7_joinTop 1 = .ok (.getfield 124, 3) := by decide +kernel
theorem dX7_joinTop_4 : decode cX7_joinTop 4 = .ok (.iconst 1, 1) := by decide +kernel
theorem dX7_joinTop_5 : decode cX7_joinTop 5 = .ok (.isub, 1) := by decide +kernel
theorem dX7_joinTop_6 : decode cX7_joinTop 6 = .ok (.istore_n 2, 1) := by decide +kernel
theorem dX7_joinTop_7 : decode cX7_joinTop 7 = .ok (.aload_n 0, 1) := by decide +kernel
theorem dX7_joinTop_8 : decode cX7_joinTop 8 = .ok (.getfield 124, 3) := by decide +kernel
theorem dX7_joinTop_11 : decode cX7_joinTop 11 = .ok (.iconst 2, 1) := by decide +kernel
theorem dX7_joinTop_12 : decode cX7_joinTop 12 = .ok (.isub, 1) := by decide +kernel
theorem dX7_joinTop_13 : decode cX7_joinTop 13 = .ok (.istore_n 3, 1) := by decide +kernel
theorem dX7_joinTop_14 : decode cX7_joinTop 14 = .ok (.iconst 0, 1) := by decide +kernel
theorem dX7_joinTop_15 : decode cX7_joinTop 15 = .ok (.istore 4, 2) := by decide +kernel
theorem dX7_joinTop_17 : decode cX7_joinTop 17 = .ok (.iconst 0, 1) := by decide +kernel
theorem dX7_joinTop_18 : decode cX7_joinTop 18 = .ok (.istore 5, 2) := by decide +kernel
theorem dX7_joinTop_20 : decode cX7_joinTop 20 = .ok (.iload 5, 2) := by decide +kernel
theorem dX7_joinTop_22 : decode cX7_joinTop 22 = .ok (.aload_n 0, 1) := by decide +kernel
theorem dX7_joinTop_23 : decode cX7_joinTop 23 = .ok (.getfield 105, 3) := by decide +kernel
theorem dX7_joinTop_26 : decode cX7_joinTop 26 = .ok (.iload_n 2, 1) := by decide +kernel
theorem dX7_joinTop_27 : decode cX7_joinTop 27 = .ok (.iaload, 1) := by decide +kernel
theorem dX7_joinTop_28 : decode cX7_joinTop 28 = .ok (.if_icmp .ge 139, 3) := by decide +kernel
theorem dX7_joinTop_31 : decode cX7_joinTop 31 = .ok (.iconst 0, 1) := by decide +kernel
theorem dX7_joinTop_32 : decode cX7_joinTop 32 = .ok (.istore 6, 2) := by decide +kernel
theorem dX7_joinTop_34 : decode cX7_joinTop 34 = .ok (.iload 6, 2) := by decide +kernel
theorem dX7_joinTop_36 : decode cX7_joinTop 36 = .ok (.aload_n 0, 1) := by decide +kernel
theorem dX7_joinTop_37 : decode cX7_joinTop 37 = .ok (.getfield 105, 3) := by decide +kernel
theorem dX7_joinTop_40 : decode cX7_joinTop 40 = .ok (.iload_n 3, 1) := by decide +kernel
theorem dX7_joinTop_41 : decode cX7_joinTop 41 = .ok (.iaload, 1) := by decide +kernel
theorem dX7_joinTop_42 : decode cX7_joinTop 42 = .ok (.if_icmp .ge 119, 3) := by decide +kernel
theorem dX7_joinTop_45 : decode cX7_joinTop 45 = .ok (.aload_n 0, 1) := by decide +kernel
theorem dX7_joinTop_46 : decode cX7_joinTop 46 = .ok (.iload_n 2, 1) := by decide +kernel
theorem dX7_joinTop_47 : decode cX7_joinTop 47 = .ok (.iload 5, 2) := by decide +kernel
theorem dX7_joinTop_49 : decode cX7_joinTop 49 = .ok (.invokevirtual 257, 3) := by decide +kernel
theorem dX7_joinTop_52 : decode cX7_joinTop 52 = .ok (.istore 7, 2) := by decide +kernel
theorem dX7_joinTop_54 : decode cX7_joinTop 54 = .ok (.aload_n 0, 1) := by decide +kernel
theorem dX7_joinTop_55 : decode cX7_joinTop 55 = .ok (.iload_n 3, 1) := by decide +kernel
theorem dX7_joinTop_56 : decode cX7_joinTop 56 = .ok (.iload 6, 2) := by decide +kernel
theorem dX7_joinTop_58 : decode cX7_joinTop 58 = .ok (.invokevirtual 257, 3) := by decide +kernel
theorem dX7_joinTop_61 : decode cX7_joinTop 61 = .ok (.istore 8, 2) := by decide +kernel
theorem dX7_joinTop_63 : decode cX7_joinTop 63 = .ok (.aload_n 0, 1) := by decide +kernel
theorem dX7_joinTop_64 : decode cX7_joinTop 64 = .ok (.aload_n 0, 1) := by decide +kernel
theorem dX7_joinTop_65 : decode cX7_joinTop 65 = .ok (.getfield 108, 3) := by decide +kernel
theorem dX7_joinTop_68 : decode cX7_joinTop 68 = .ok (.iload_n 2, 1) := by decide +kernel
theorem dX7_joinTop_69 : decode cX7_joinTop 69 = .ok (.iaload, 1) := by decide +kernel
theorem dX7_joinTop_70 : decode cX7_joinTop 70 = .ok (.aload_n 0, 1) := by decide +kernel
theorem dX7_joinTop_71 : decode cX7_joinTop 71 = .ok (.getfield 108, 3) := by decide +kernel
theorem dX7_joinTop_74 : decode cX7_joinTop 74 = .ok (.iload_n 3, 1) := by decide +kernel
theorem dX7_joinTop_75 : decode cX7_joinTop 75 = .ok (.iaload, 1) := by decide +kernel
theorem dX7_joinTop_76 : decode cX7_joinTop 76 = .ok (.iload 7, 2) := by decide +kernel
theorem dX7_joinTop_78 : decode cX7_joinTop 78 = .ok (.iload 8, 2) := by decide +kernel
theorem dX7_joinTop_80 : decode cX7_joinTop 80 = .ok (.invokevirtual 264, 3) := by decide +kernel
theorem dX7_joinTop_83 : decode cX7_joinTop 83 = .ok (.ifCond .ne 6, 3) := by decide +kernel
theorem dX7_joinTop_86 : decode cX7_joinTop 86 = .ok (.goto 69, 3) := by decide +kernel
theorem dX7_joinTop_89 : decode cX7_joinTop 89 = .ok (.iconst 0, 1) := by decide +kernel
theorem dX7_joinTop_90 : decode cX7_joinTop 90 = .ok (.istore 9, 2) := by decide +kernel
theorem dX7_joinTop_92 : decode cX7_joinTop 92 = .ok (.iload 9, 2) := by decide +kernel
theorem dX7_joinTop_94 : decode cX7_joinTop 94 = .ok (.iconst 4, 1) := by decide +kernel
theorem dX7_joinTop_95 : decode cX7_joinTop 95 = .ok (.if_icmp .ge 57, 3) := by decide +kernel
theorem dX7_joinTop_98 : decode cX7_joinTop 98 = .ok (.aload_n 0, 1) := by decide +kernel
theorem dX7_joinTop_99 : decode cX7_joinTop 99 = .ok (.getfield 121, 3) := by decide +kernel
theorem dX7_joinTop_102 : decode cX7_joinTop 102 = .ok (.iconst 4, 1) := by decide +kernel
theorem dX7_joinTop_103 : decode cX7_joinTop 103 = .ok (.iload 4, 2) := by decide +kernel
theorem dX7_joinTop_105 : decode cX7_joinTop 105 = .ok (.imul, 1) := by decide +kernel
theorem dX7_joinTop_106 : decode cX7_joinTop 106 = .ok (.iload 9, 2) := by decide +kernel
theorem dX7_joinTop_108 : decode cX7_joinTop 108 = .ok (.iadd, 1) := by decide +kernel
theorem dX7_joinTop_109 : decode cX7_joinTop 109 = .ok (.aload_n 0, 1) := by decide +kernel
theorem dX7_joinTop_110 : decode cX7_joinTop 110 = .ok (.getfield 102, 3) := by decide +kernel
theorem dX7_joinTop_113 : decode cX7_joinTop 113 = .ok (.iload 7, 2) := by decide +kernel
theorem dX7_joinTop_115 : decode cX7_joinTop 115 = .ok (.iload 9, 2) := by decide +kernel
theorem dX7_joinTop_117 : decode cX7_joinTop 117 = .ok (.iadd, 1) := by decide +kernel
theorem dX7_joinTop_118 : decode cX7_joinTop 118 = .ok (.iaload, 1) := by decide +kernel
theorem dX7_joinTop_119 : decode cX7_joinTop 119 = .ok (.ifCond .lt 16, 3) := by decide +kernel
theorem dX7_joinTop_122 : decode cX7_joinTop 122 = .ok (.aload_n 0, 1) := by decide +kernel
theorem dX7_joinTop_123 : decode cX7_joinTop 123 = .ok (.getfield 102, 3) := by decide +kernel
theorem dX7_joinTop_126 : decode cX7_joinTop 126 = .ok (.iload 7, 2) := by decide +kernel
theorem dX7_joinTop_128 : decode cX7_joinTop 128 = .ok (.iload 9, 2) := by decide +kernel
theorem dX7_joinTop_130 : decode cX7_joinTop 130 = .ok (.iadd, 1) := by decide +kernel
theorem dX7_joinTop_131 : decode cX7_joinTop 131 = .ok (.iaload, 1) := by decide +kernel
theorem dX7_joinTop_132 : decode cX7_joinTop 132 = .ok (.goto 13, 3) := by decide +kernel
theorem dX7_joinTop_135 : decode cX7_joinTop 135 = .ok (.aload_n 0, 1) := by decide +kernel
theorem dX7_joinTop_136 : decode cX7_joinTop 136 = .ok (.getfield 102, 3) := by decide +kernel
theorem dX7_joinTop_139 : decode cX7_joinTop 139 = .ok (.iload 8, 2) := by decide +kernel
theorem dX7_joinTop_141 : decode cX7_joinTop 141 = .ok (.iload 9, 2) := by decide +kernel
theorem dX7_joinTop_143 : decode cX7_joinTop 143 = .ok (.iadd, 1) := by decide +kernel
theorem dX7_joinTop_144 : decode cX7_joinTop 144 = .ok (.iaload, 1) := by decide +kernel
theorem dX7_joinTop_145 : decode cX7_joinTop 145 = .ok (.iastore, 1) := by decide +kernel
theorem dX7_joinTop_146 : decode cX7_joinTop 146 = .ok (.iinc 9 1, 3) := by decide +kernel
theorem dX7_joinTop_149 : decode cX7_joinTop 149 = .ok (.goto (-57), 3) := by decide +kernel
theorem dX7_joinTop_152 : decode cX7_joinTop 152 = .ok (.iinc 4 1, 3) := by decide +kernel
theorem dX7_joinTop_155 : decode cX7_joinTop 155 = .ok (.iinc 6 1, 3) := by decide +kernel
theorem dX7_joinTop_158 : decode cX7_joinTop 158 = .ok (.goto (-124), 3) := by decide +kernel
theorem dX7_joinTop_161 : decode cX7_joinTop 161 = .ok (.iinc 5 1, 3) := by decide +kernel
theorem dX7_joinTop_164 : decode cX7_joinTop 164 = .ok (.goto (-144), 3) := by decide +kernel
theorem dX7_joinTop_167 : decode cX7_joinTop 167 = .ok (.aload_n 0, 1) := by decide +kernel
theorem dX7_joinTop_168 : decode cX7_joinTop 168 = .ok (.dup, 1) := by decide +kernel
theorem dX7_joinTop_169 : decode cX7_joinTop 169 = .ok (.getfield 127, 3) := by decide +kernel
theorem dX7_joinTop_172 : decode cX7_joinTop 172 = .ok (.iload_n 1, 1) := by decide +kernel
theorem dX7_joinTop_173 : decode cX7_joinTop 173 = .ok (.ifCond .ne 19, 3) := by decide +kernel
theorem dX7_joinTop_176 : decode cX7_joinTop 176 = .ok (.aload_n 0, 1) := by decide +kernel
theorem dX7_joinTop_177 : decode cX7_joinTop 177 = .ok (.getfield 105, 3) := by decide +kernel
theorem dX7_joinTop_180 : decode cX7_joinTop 180 = .ok (.iload_n 2, 1) := by decide +kernel
theorem dX7_joinTop_181 : decode cX7_joinTop 181 = .ok (.iaload, 1) := by decide +kernel
theorem dX7_joinTop_182 : decode cX7_joinTop 182 = .ok (.aload_n 0, 1) := by decide +kernel
theorem dX7_joinTop_183 : decode cX7_joinTop 183 = .ok (.getfield 105, 3) := by decide +kernel
theorem dX7_joinTop_186 : decode cX7_joinTop 186 = .ok (.iload_n 3, 1) := by decide +kernel
theorem dX7_joinTop_187 : decode cX7_joinTop 187 = .ok (.iaload, 1) := by decide +kernel
theorem dX7_joinTop_188 : decode cX7_joinTop 188 = .ok (.imul, 1) := by decide +kernel
theorem dX7_joinTop_189 : decode cX7_joinTop 189 = .ok (.goto 27, 3) := by decide +kernel
theorem dX7_joinTop_192 : decode cX7_joinTop 192 = .ok (.iload_n 1, 1) := by decide +kernel
theorem dX7_joinTop_193 : decode cX7_joinTop 193 = .ok (.iconst 1, 1) := by decide +kernel
theorem dX7_joinTop_194 : decode cX7_joinTop 194 = .ok (.if_icmp .ne 7, 3) := by decide +kernel
theorem dX7_joinTop_197 : decode cX7_joinTop 197 = .ok (.iconst 2, 1) := by decide +kernel
theorem dX7_joinTop_198 : decode cX7_joinTop 198 = .ok (.goto 4, 3) := by decide +kernel
theorem dX7_joinTop_201 : decode cX7_joinTop 201 = .ok (.iconst 3, 1) := by decide +kernel
theorem dX7_joinTop_202 : decode cX7_joinTop 202 = .ok (.aload_n 0, 1) := by decide +kernel
theorem dX7_joinTop_203 : decode cX7_joinTop 203 = .ok (.getfield 105, 3) := by decide +kernel
theorem dX7_joinTop_206 : decode cX7_joinTop 206 = .ok (.iload_n 2, 1) := by decide +kernel
theorem dX7_joinTop_207 : decode cX7_joinTop 207 = .ok (.iaload, 1) := by decide +kernel
theorem dX7_joinTop_208 : decode cX7_joinTop 208 = .ok (.aload_n 0, 1) := by decide +kernel
theorem dX7_joinTop_209 : decode cX7_joinTop 209 = .ok (.getfield 105, 3) := by decide +kernel
theorem dX7_joinTop_212 : decode cX7_joinTop 212 = .ok (.iload_n 3, 1) := by decide +kernel
theorem dX7_joinTop_213 : decode cX7_joinTop 213 = .ok (.iaload, 1) := by decide +kernel
theorem dX7_joinTop_214 : decode cX7_joinTop 214 = .ok (.iadd, 1) := by decide +kernel
theorem dX7_joinTop_215 : decode cX7_joinTop 215 = .ok (.imul, 1) := by decide +kernel
theorem dX7_joinTop_216 : decode cX7_joinTop 216 = .ok (.iadd, 1) := by decide +kernel
theorem dX7_joinTop_217 : decode cX7_joinTop 217 = .ok (.putfield 127, 3) := by decide +kernel
theorem dX7_joinTop_220 : decode cX7_joinTop 220 = .ok (.aload_n 0, 1) := by decide +kernel
theorem dX7_joinTop_221 : decode cX7_joinTop 221 = .ok (.aload_n 0, 1) := by decide +kernel
theorem dX7_joinTop_222 : decode cX7_joinTop 222 = .ok (.getfield 108, 3) := by decide +kernel
theorem dX7_joinTop_225 : decode cX7_joinTop 225 = .ok (.iload_n 2, 1) := by decide +kernel
theorem dX7_joinTop_226 : decode cX7_joinTop 226 = .ok (.iaload, 1) := by decide +kernel
theorem dX7_joinTop_227 : decode cX7_joinTop 227 = .ok (.aload_n 0, 1) := by decide +kernel
theorem dX7_joinTop_228 : decode cX7_joinTop 228 = .ok (.getfield 108, 3) := by decide +kernel
theorem dX7_joinTop_231 : decode cX7_joinTop 231 = .ok (.iload_n 3, 1) := by decide +kernel
theorem dX7_joinTop_232 : decode cX7_joinTop 232 = .ok (.iaload, 1) := by decide +kernel
theorem dX7_joinTop_233 : decode cX7_joinTop 233 = .ok (.invokevirtual 174, 3) := by decide +kernel
theorem dX7_joinTop_236 : decode cX7_joinTop 236 = .ok (.istore 5, 2) := by decide +kernel
theorem dX7_joinTop_238 : decode cX7_joinTop 238 = .ok (.aload_n 0, 1) := by decide +kernel
theorem dX7_joinTop_239 : decode cX7_joinTop 239 = .ok (.getfield 108, 3) := by decide +kernel
theorem dX7_joinTop_242 : decode cX7_joinTop 242 = .ok (.iload_n 3, 1) := by decide +kernel
theorem dX7_joinTop_243 : decode cX7_joinTop 243 = .ok (.dup2, 1) := by decide +kernel
theorem dX7_joinTop_244 : decode cX7_joinTop 244 = .ok (.iaload, 1) := by decide +kernel
theorem dX7_joinTop_245 : decode cX7_joinTop 245 = .ok (.aload_n 0, 1) := by decide +kernel
theorem dX7_joinTop_246 : decode cX7_joinTop 246 = .ok (.getfield 108, 3) := by decide +kernel
theorem dX7_joinTop_249 : decode cX7_joinTop 249 = .ok (.iload_n 2, 1) := by decide +kernel
theorem dX7_joinTop_250 : decode cX7_joinTop 250 = .ok (.iaload, 1) := by decide +kernel
theorem dX7_joinTop_251 : decode cX7_joinTop 251 = .ok (.ior, 1) := by decide +kernel
theorem dX7_joinTop_252 : decode cX7_joinTop 252 = .ok (.iastore, 1) := by decide +kernel
theorem dX7_joinTop_253 : decode cX7_joinTop 253 = .ok (.aload_n 0, 1) := by decide +kernel
theorem dX7_joinTop_254 : decode cX7_joinTop 254 = .ok (.getfield 105, 3) := by decide +kernel
theorem dX7_joinTop_257 : decode cX7_joinTop 257 = .ok (.iload_n 3, 1) := by decide +kernel
theorem dX7_joinTop_258 : decode cX7_joinTop 258 = .ok (.iload 4, 2) := by decide +kernel
theorem dX7_joinTop_260 : decode cX7_joinTop 260 = .ok (.iastore, 1) := by decide +kernel
theorem dX7_joinTop_261 : decode cX7_joinTop 261 = .ok (.iconst 0, 1) := by decide +kernel
theorem dX7_joinTop_262 : decode cX7_joinTop 262 = .ok (.istore 6, 2) := by decide +kernel
theorem dX7_joinTop_264 : decode cX7_joinTop 264 = .ok (.iload 6, 2) := by decide +kernel
theorem dX7_joinTop_266 : decode cX7_joinTop 266 = .ok (.iconst 4, 1) := by decide +kernel
theorem dX7_joinTop_267 : decode cX7_joinTop 267 = .ok (.iload 4, 2) := by decide +kernel
theorem dX7_joinTop_269 : decode cX7_joinTop 269 = .ok (.imul, 1) := by decide +kernel
theorem dX7_joinTop_270 : decode cX7_joinTop 270 = .ok (.if_icmp .ge 30, 3) := by decide +kernel
theorem dX7_joinTop_273 : decode cX7_joinTop 273 = .ok (.aload_n 0, 1) := by decide +kernel
theorem dX7_joinTop_274 : decode cX7_joinTop 274 = .ok (.getfield 102, 3) := by decide +kernel
theorem dX7_joinTop_277 : decode cX7_joinTop 277 = .ok (.aload_n 0, 1) := by decide +kernel
theorem dX7_joinTop_278 : decode cX7_joinTop 278 = .ok (.iload_n 3, 1) := by decide +kernel
theorem dX7_joinTop_279 : decode cX7_joinTop 279 = .ok (.iconst 0, 1) := by decide +kernel
theorem dX7_joinTop_280 : decode cX7_joinTop 280 = .ok (.invokevirtual 257, 3) := by decide +kernel
theorem dX7_joinTop_283 : decode cX7_joinTop 283 = .ok (.iload 6, 2) := by decide +kernel
theorem dX7_joinTop_285 : decode cX7_joinTop 285 = .ok (.iadd, 1) := by decide +kernel
theorem dX7_joinTop_286 : decode cX7_joinTop 286 = .ok (.aload_n 0, 1) := by decide +kernel
theorem dX7_joinTop_287 : decode cX7_joinTop 287 = .ok (.getfield 121, 3) := by decide +kernel
theorem dX7_joinTop_290 : decode cX7_joinTop 290 = .ok (.iload 6, 2) := by decide +kernel
theorem dX7_joinTop_292 : decode cX7_joinTop 292 = .ok (.iaload, 1) := by decide +kernel
theorem dX7_joinTop_293 : decode cX7_joinTop 293 = .ok (.iastore, 1) := by decide +kernel
theorem dX7_joinTop_294 : decode cX7_joinTop 294 = .ok (.iinc 6 1, 3) := by decide +kernel
theorem dX7_joinTop_297 : decode cX7_joinTop 297 = .ok (.goto (-33), 3) := by decide +kernel
theorem dX7_joinTop_300 : decode cX7_joinTop 300 = .ok (.aload_n 0, 1) := by decide +kernel
theorem dX7_joinTop_301 : decode cX7_joinTop 301 = .ok (.dup, 1) := by decide +kernel
theorem dX7_joinTop_302 : decode cX7_joinTop 302 = .ok (.getfield 124, 3) := by decide +kernel
theorem dX7_joinTop_305 : decode cX7_joinTop 305 = .ok (.iconst 1, 1) := by decide +kernel
theorem dX7_joinTop_306 : decode cX7_joinTop 306 = .ok (.isub, 1) := by decide +kernel
theorem dX7_joinTop_307 : decode cX7_joinTop 307 = .ok (.putfield 124, 3) := by decide +kernel
theorem dX7_joinTop_310 : decode cX7_joinTop 310 = .ok (.iload_n 1, 1) := by decide +kernel
theorem dX7_joinTop_311 : decode cX7_joinTop 311 = .ok (.iconst 2, 1) := by decide +kernel
theorem dX7_joinTop_312 : decode cX7_joinTop 312 = .ok (.if_icmp .ne 21, 3) := by decide +kernel
theorem dX7_joinTop_315 : decode cX7_joinTop 315 = .ok (.aload_n 0, 1) := by decide +kernel
theorem dX7_joinTop_316 : decode cX7_joinTop 316 = .ok (.aload_n 0, 1) := by decide +kernel
theorem dX7_joinTop_317 : decode cX7_joinTop 317 = .ok (.getfield 29, 3) := by decide +kernel
theorem dX7_joinTop_320 : decode cX7_joinTop 320 = .ok (.iload 5, 2) := by decide +kernel
theorem dX7_joinTop_322 : decode cX7_joinTop 322 = .ok (.iaload, 1) := by decide +kernel
theorem dX7_joinTop_323 : decode cX7_joinTop 323 = .ok (.aload_n 0, 1) := by decide +kernel
theorem dX7_joinTop_324 : decode cX7_joinTop 324 = .ok (.getfield 32, 3) := by decide +kernel
theorem dX7_joinTop_327 : decode cX7_joinTop 327 = .ok (.iload 5, 2) := by decide +kernel
theorem dX7_joinTop_329 : decode cX7_joinTop 329 = .ok (.iaload, 1) := by decide +kernel
theorem dX7_joinTop_330 : decode cX7_joinTop 330 = .ok (.invokevirtual 268, 3) := by decide +kernel
theorem dX7_joinTop_333 : decode cX7_joinTop 333 = .ok (.return_, 1) := by decide +kernel
set_option maxRecDepth 20000 in
theorem ggX7_sort_X7_spot : GoodIn wsX7_sort wsX7_spot := goodIn_r _ [12, 13] (by decide +kernel) (by decide +kernel)
set_option maxRecDepth 20000 in
theorem gX7_sort_X7_spot : GoodIn wsX7_sort (wsV RX7 257 RX7 yX7_spot wsX7_spot) := goodIn_app (goodIn_of _ (by decide +kernel)) ggX7_sort_X7_spot
set_option maxRecDepth 20000 in
theorem ggX7_sort_X7_of : GoodIn wsX7_sort wsX7_of := goodIn_r _ [17, 18, 23, 24, 25, 26, 27, 28, 29, 30, 31, 32, 33, 34, 35, 36, 37, 38, 39, 40, 41, 42, 43, 44, 45, 46, 47, 48, 49, 50, 51, 52, 53, 54, 55, 56, 57, 58, 59, 60, 61, 62] (by decide +kernel) (by decide +kernel)
set_option maxRecDepth 20000 in
theorem gX7_sort_X7_of : GoodIn wsX7_sort (wsV RX7 260 RX7 yX7_of wsX7_of) := goodIn_app (goodIn_of _ (by decide +kernel)) ggX7_sort_X7_of
set_option maxRecDepth 20000 in
theorem ggX7_sort_X7_merge : GoodIn wsX7_sort wsX7_merge := goodIn_r _ [22, 4, 3, 6, 23, 24, 25, 26, 27, 28, 29, 30, 31, 32, 33, 34, 35, 36, 37, 38, 39, 40, 41, 42, 43, 44, 45, 46, 47, 48, 49, 50, 51, 52, 53, 54, 55, 56, 57, 58, 59, 60, 61, 62] (by decide +kernel) (by decide +kernel)
set_option maxRecDepth 20000 in
theorem gX7_sort_X7_merge : GoodIn wsX7_sort (wsV RX7 271 RX7 yX7_merge wsX7_merge) := goodIn_app (goodIn_of _ (by decide +kernel)) ggX7_sort_X7_merge
theorem dX7_sort_0 : decode cX7_sort 0 = .ok (.aload_n 0, 1) := by decide +kernel
theorem dX7_sort_1 : decode cX7_sort 1 = .ok (.getfield 105, 3) := by decide +kernel
theorem dX7_sort_4 : decode cX7_sort 4 = .ok (.aload_n 0, 1) := by decide +kernel
theorem dX7_sort_5 : decode cX7_sort 5 = .ok (.getfield 124, 3) := by decide +kernel
theorem dX7_sort_8 : decode cX7_sort 8 = .ok (.iconst 1, 1) := by decide +kernel
theorem dX7_sort_9 : decode cX7_sort 9 = .ok (.isub, 1) := by decide +kernel
theorem dX7_sort_10 : decode cX7_sort 10 = .ok (.iaload, 1) := by decide +kernel
theorem dX7_sort_11 : decode cX7_sort 11 = .ok (.istore_n 3, 1) := by decide +kernel
theorem dX7_sort_12 : decode cX7_sort 12 = .ok (.aload_n 0, 1) := by decide +kernel
theorem dX7_sort_13 : decode cX7_sort 13 = .ok (.aload_n 0, 1) := by decide +kernel
theorem dX7_sort_14 : decode cX7_sort 14 = .ok (.getfield 124, 3) := by decide +kernel
theorem dX7_sort_17 : decode cX7_sort 17 = .ok (.iconst 1, 1) := by decide +kernel
theorem dX7_sort_18 : decode cX7_sort 18 = .ok (.isub, 1) := by decide +kernel
theorem dX7_sort_19 : decode cX7_sort 19 = .ok (.iconst 0, 1) := by decide +kernel
theorem dX7_sort_20 : decode cX7_sort 20 = .ok (.invokevirtual 257, 3) := by decide +kernel
theorem dX7_sort_23 : decode cX7_sort 23 = .ok (.istore 4, 2) := by decide +kernel
theorem dX7_sort_25 : decode cX7_sort 25 = .ok (.iconst 0, 1) := by decide +kernel
theorem dX7_sort_26 : decode cX7_sort 26 = .ok (.istore 5, 2) := by decide +kernel
