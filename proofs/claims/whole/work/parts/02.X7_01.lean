theorem dX7_joining_80 : decode cX7_joining 80 = .ok (.ifCond .ne 21, 3) := by decide +kernel
theorem dX7_joining_83 : decode cX7_joining 83 = .ok (.lload 4, 2) := by decide +kernel
theorem dX7_joining_85 : decode cX7_joining 85 = .ok (.lload 10, 2) := by decide +kernel
theorem dX7_joining_87 : decode cX7_joining 87 = .ok (.lmul, 1) := by decide +kernel
theorem dX7_joining_88 : decode cX7_joining 88 = .ok (.lload 6, 2) := by decide +kernel
theorem dX7_joining_90 : decode cX7_joining 90 = .ok (.lload 8, 2) := by decide +kernel
theorem dX7_joining_92 : decode cX7_joining 92 = .ok (.lmul, 1) := by decide +kernel
theorem dX7_joining_93 : decode cX7_joining 93 = .ok (.ladd, 1) := by decide +kernel
theorem dX7_joining_94 : decode cX7_joining 94 = .ok (.ldc2_w 164, 3) := by decide +kernel
theorem dX7_joining_97 : decode cX7_joining 97 = .ok (.ldiv, 1) := by decide +kernel
theorem dX7_joining_98 : decode cX7_joining 98 = .ok (.goto 11, 3) := by decide +kernel
theorem dX7_joining_101 : decode cX7_joining 101 = .ok (.lload 12, 2) := by decide +kernel
theorem dX7_joining_103 : decode cX7_joining 103 = .ok (.lload 6, 2) := by decide +kernel
theorem dX7_joining_105 : decode cX7_joining 105 = .ok (.lload 10, 2) := by decide +kernel
theorem dX7_joining_107 : decode cX7_joining 107 = .ok (.ladd, 1) := by decide +kernel
theorem dX7_joining_108 : decode cX7_joining 108 = .ok (.lmul, 1) := by decide +kernel
theorem dX7_joining_109 : decode cX7_joining 109 = .ok (.putfield 57, 3) := by decide +kernel
theorem dX7_joining_112 : decode cX7_joining 112 = .ok (.return_, 1) := by decide +kernel
theorem dX7_bits_0 : decode cX7_bits 0 = .ok (.iconst 0, 1) := by decide +kernel
theorem dX7_bits_1 : decode cX7_bits 1 = .ok (.istore_n 2, 1) := by decide +kernel
theorem dX7_bits_2 : decode cX7_bits 2 = .ok (.iload_n 1, 1) := by decide +kernel
theorem dX7_bits_3 : decode cX7_bits 3 = .ok (.istore_n 3, 1) := by decide +kernel
theorem dX7_bits_4 : decode cX7_bits 4 = .ok (.iload_n 3, 1) := by decide +kernel
theorem dX7_bits_5 : decode cX7_bits 5 = .ok (.ifCond .eq 15, 3) := by decide +kernel
theorem dX7_bits_8 : decode cX7_bits 8 = .ok (.iinc 2 1, 3) := by decide +kernel
theorem dX7_bits_11 : decode cX7_bits 11 = .ok (.iload_n 3, 1) := by decide +kernel
theorem dX7_bits_12 : decode cX7_bits 12 = .ok (.iload_n 3, 1) := by decide +kernel
theorem dX7_bits_13 : decode cX7_bits 13 = .ok (.iconst 1, 1) := by decide +kernel
theorem dX7_bits_14 : decode cX7_bits 14 = .ok (.isub, 1) := by decide +kernel
theorem dX7_bits_15 : decode cX7_bits 15 = .ok (.iand, 1) := by decide +kernel
theorem dX7_bits_16 : decode cX7_bits 16 = .ok (.istore_n 3, 1) := by decide +kernel
theorem dX7_bits_17 : decode cX7_bits 17 = .ok (.goto (-13), 3) := by decide +kernel
theorem dX7_bits_20 : decode cX7_bits 20 = .ok (.iload_n 2, 1) := by decide +kernel
theorem dX7_bits_21 : decode cX7_bits 21 = .ok (.ireturn, 1) := by decide +kernel
set_option maxRecDepth 20000 in
theorem ggX7_digits_X7_bits : GoodIn wsX7_digits wsX7_bits := goodIn_r _ [5] (by decide +kernel) (by decide +kernel)
set_option maxRecDepth 20000 in
theorem gX7_digits_X7_bits : GoodIn wsX7_digits (wsV RX7 166 RX7 yX7_bits wsX7_bits) := goodIn_app (goodIn_of _ (by decide +kernel)) ggX7_digits_X7_bits
theorem dX7_digits_0 : decode cX7_digits 0 = .ok (.iconst 2, 1) := by decide +kernel
theorem dX7_digits_1 : decode cX7_digits 1 = .ok (.aload_n 0, 1) := by decide +kernel
theorem dX7_digits_2 : decode cX7_digits 2 = .ok (.iload_n 1, 1) := by decide +kernel
theorem dX7_digits_3 : decode cX7_digits 3 = .ok (.invokevirtual 166, 3) := by decide +kernel
theorem dX7_digits_6 : decode cX7_digits 6 = .ok (.imul, 1) := by decide +kernel
theorem dX7_digits_7 : decode cX7_digits 7 = .ok (.iconst 1, 1) := by decide +kernel
theorem dX7_digits_8 : decode cX7_digits 8 = .ok (.isub, 1) := by decide +kernel
theorem dX7_digits_9 : decode cX7_digits 9 = .ok (.ireturn, 1) := by decide +kernel
theorem dX7_shifted_0 : decode cX7_shifted 0 = .ok (.iload_n 1, 1) := by decide +kernel
theorem dX7_shifted_1 : decode cX7_shifted 1 = .ok (.iconst 3, 1) := by decide +kernel
theorem dX7_shifted_2 : decode cX7_shifted 2 = .ok (.iload_n 2, 1) := by decide +kernel
theorem dX7_shifted_3 : decode cX7_shifted 3 = .ok (.imul, 1) := by decide +kernel
theorem dX7_shifted_4 : decode cX7_shifted 4 = .ok (.ishl, 1) := by decide +kernel
theorem dX7_shifted_5 : decode cX7_shifted 5 = .ok (.ireturn, 1) := by decide +kernel
theorem dX7_add_0 : decode cX7_add 0 = .ok (.aload_n 0, 1) := by decide +kernel
theorem dX7_add_1 : decode cX7_add 1 = .ok (.getfield 63, 3) := by decide +kernel
theorem dX7_add_4 : decode cX7_add 4 = .ok (.aload_n 0, 1) := by decide +kernel
theorem dX7_add_5 : decode cX7_add 5 = .ok (.getfield 79, 3) := by decide +kernel
theorem dX7_add_8 : decode cX7_add 8 = .ok (.iload_n 1, 1) := by decide +kernel
theorem dX7_add_9 : decode cX7_add 9 = .ok (.iastore, 1) := by decide +kernel
theorem dX7_add_10 : decode cX7_add 10 = .ok (.aload_n 0, 1) := by decide +kernel
theorem dX7_add_11 : decode cX7_add 11 = .ok (.getfield 66, 3) := by decide +kernel
theorem dX7_add_14 : decode cX7_add 14 = .ok (.aload_n 0, 1) := by decide +kernel
theorem dX7_add_15 : decode cX7_add 15 = .ok (.getfield 79, 3) := by decide +kernel
theorem dX7_add_18 : decode cX7_add 18 = .ok (.iload_n 2, 1) := by decide +kernel
theorem dX7_add_19 : decode cX7_add 19 = .ok (.iastore, 1) := by decide +kernel
theorem dX7_add_20 : decode cX7_add 20 = .ok (.aload_n 0, 1) := by decide +kernel
theorem dX7_add_21 : decode cX7_add 21 = .ok (.getfield 69, 3) := by decide +kernel
theorem dX7_add_24 : decode cX7_add 24 = .ok (.aload_n 0, 1) := by decide +kernel
theorem dX7_add_25 : decode cX7_add 25 = .ok (.getfield 79, 3) := by decide +kernel
theorem dX7_add_28 : decode cX7_add 28 = .ok (.iload_n 3, 1) := by decide +kernel
theorem dX7_add_29 : decode cX7_add 29 = .ok (.iastore, 1) := by decide +kernel
theorem dX7_add_30 : decode cX7_add 30 = .ok (.aload_n 0, 1) := by decide +kernel
theorem dX7_add_31 : decode cX7_add 31 = .ok (.getfield 72, 3) := by decide +kernel
theorem dX7_add_34 : decode cX7_add 34 = .ok (.aload_n 0, 1) := by decide +kernel
theorem dX7_add_35 : decode cX7_add 35 = .ok (.getfield 79, 3) := by decide +kernel
theorem dX7_add_38 : decode cX7_add 38 = .ok (.lload 4, 2) := by decide +kernel
theorem dX7_add_40 : decode cX7_add 40 = .ok (.lastore, 1) := by decide +kernel
theorem dX7_add_41 : decode cX7_add 41 = .ok (.aload_n 0, 1) := by decide +kernel
theorem dX7_add_42 : decode cX7_add 42 = .ok (.getfield 76, 3) := by decide +kernel
theorem dX7_add_45 : decode cX7_add 45 = .ok (.aload_n 0, 1) := by decide +kernel
theorem dX7_add_46 : decode cX7_add 46 = .ok (.getfield 79, 3) := by decide +kernel
theorem dX7_add_49 : decode cX7_add 49 = .ok (.lload 6, 2) := by decide +kernel
theorem dX7_add_51 : decode cX7_add 51 = .ok (.lastore, 1) := by decide +kernel
theorem dX7_add_52 : decode cX7_add 52 = .ok (.aload_n 0, 1) := by decide +kernel
theorem dX7_add_53 : decode cX7_add 53 = .ok (.dup, 1) := by decide +kernel
theorem dX7_add_54 : decode cX7_add 54 = .ok (.getfield 79, 3) := by decide +kernel
theorem dX7_add_57 : decode cX7_add 57 = .ok (.iconst 1, 1) := by decide +kernel
theorem dX7_add_58 : decode cX7_add 58 = .ok (.iadd, 1) := by decide +kernel
theorem dX7_add_59 : decode cX7_add 59 = .ok (.putfield 79, 3) := by decide +kernel
theorem dX7_add_62 : decode cX7_add 62 = .ok (.return_, 1) := by decide +kernel
set_option maxRecDepth 20000 in
theorem ggX7_list_X7_all : GoodIn wsX7_list wsX7_all := goodIn_r _ [10, 3, 77, 78, 79, 80, 81, 82, 83, 84, 85, 86, 87, 88, 89, 90, 91, 92, 93, 94, 95, 96, 97, 98, 99, 100, 101, 102, 103, 104, 105, 106, 107, 108, 109, 110, 111, 112, 113, 114, 115, 116] (by decide +kernel) (by decide +kernel)
set_option maxRecDepth 20000 in
theorem gX7_list_X7_all : GoodIn wsX7_list (wsV RX7 140 RX7 yX7_all wsX7_all) := goodIn_app (goodIn_of _ (by decide +kernel)) ggX7_list_X7_all
set_option maxRecDepth 20000 in
theorem ggX7_list_X7_add : GoodIn wsX7_list wsX7_add := goodIn_r _ [14, 15, 1, 16, 17, 18, 19, 77, 78, 79, 80, 81, 82, 83, 84, 85, 86, 87, 88, 89, 90, 91, 92, 93, 94, 95, 96, 97, 98, 99, 100, 101, 102, 103, 104, 105, 106, 107, 108, 109, 110, 111, 112, 113, 114, 115, 116] (by decide +kernel) (by decide +kernel)
set_option maxRecDepth 20000 in
theorem gX7_list_X7_add : GoodIn wsX7_list (wsV RX7 170 RX7 yX7_add wsX7_add) := goodIn_app (goodIn_of _ (by decide +kernel)) ggX7_list_X7_add
set_option maxRecDepth 20000 in
theorem ggX7_list_X7_between : GoodIn wsX7_list wsX7_between := goodIn_r _ [23, 24, 25, 26, 27, 9, 28, 29, 30, 77, 78, 79, 80, 81, 82, 83, 84, 85, 86, 87, 88, 89, 90, 91, 92, 93, 94, 95, 96, 97, 98, 99, 100, 101, 102, 103, 104, 105, 106, 107, 108, 109, 110, 111, 112, 113, 114, 115, 116] (by decide +kernel) (by decide +kernel)
set_option maxRecDepth 20000 in
theorem gX7_list_X7_between : GoodIn wsX7_list (wsV RX7 174 RX7 yX7_between wsX7_between) := goodIn_app (goodIn_of _ (by decide +kernel)) ggX7_list_X7_between
set_option maxRecDepth 20000 in
theorem ggX7_list_X7_joinAll : GoodIn wsX7_list wsX7_joinAll := goodIn_r _ [34, 35, 36, 2, 15, 18, 19, 37, 38, 39, 9, 40, 41, 42, 4, 43, 44, 45, 46, 3, 5, 24, 29, 30, 47, 48, 49, 50, 51, 52, 53, 54, 55, 56, 57, 58, 59, 60, 61, 62, 63, 64, 11, 12, 13, 14, 1, 16, 17, 77, 78, 79, 80, 81, 82, 83, 84, 85, 86, 87, 88, 89, 90, 91, 92, 93, 94, 95, 96, 97, 98, 99, 100, 101, 102, 103, 104, 105, 106, 107, 108, 109, 110, 111, 112, 113, 114, 115, 116] (by decide +kernel) (by decide +kernel)
set_option maxRecDepth 20000 in
theorem gX7_list_X7_joinAll : GoodIn wsX7_list (wsV RX7 178 RX7 yX7_joinAll wsX7_joinAll) := goodIn_app (goodIn_of _ (by decide +kernel)) ggX7_list_X7_joinAll
set_option maxRecDepth 20000 in
theorem ggX7_list_X7_end : GoodIn wsX7_list wsX7_end := goodIn_r _ [68, 69, 17, 16, 18, 42, 35, 19, 36, 70, 71, 72, 9, 73, 29, 74, 75, 30, 76, 20, 21, 22, 23, 24, 25, 26, 27, 28, 43, 44, 45, 46, 3, 5, 47, 48, 77, 78, 79, 80, 81, 82, 83, 84, 85, 86, 87, 88, 89, 90, 91, 92, 93, 94, 95, 96, 97, 98, 99, 100, 101, 102, 103, 104, 105, 106, 107, 108, 109, 110, 111, 112, 113, 114, 115, 116] (by decide +kernel) (by decide +kernel)
set_option maxRecDepth 20000 in
theorem gX7_list_X7_end : GoodIn wsX7_list (wsV RX7 182 RX7 yX7_end wsX7_end) := goodIn_app (goodIn_of _ (by decide +kernel)) ggX7_list_X7_end
theorem dX7_list_0 : decode cX7_list 0 = .ok (.aload_n 0, 1) := by decide +kernel
theorem dX7_list_1 : decode cX7_list 1 = .ok (.iconst 0, 1) := by decide +kernel
theorem dX7_list_2 : decode cX7_list 2 = .ok (.putfield 79, 3) := by decide +kernel
theorem dX7_list_5 : decode cX7_list 5 = .ok (.iconst 1, 1) := by decide +kernel
theorem dX7_list_6 : decode cX7_list 6 = .ok (.istore_n 1, 1) := by decide +kernel
theorem dX7_list_7 : decode cX7_list 7 = .ok (.iload_n 1, 1) := by decide +kernel
theorem dX7_list_8 : decode cX7_list 8 = .ok (.aload_n 0, 1) := by decide +kernel
theorem dX7_list_9 : decode cX7_list 9 = .ok (.invokevirtual 140, 3) := by decide +kernel
theorem dX7_list_12 : decode cX7_list 12 = .ok (.if_icmp .gt 159, 3) := by decide +kernel
theorem dX7_list_15 : decode cX7_list 15 = .ok (.aload_n 0, 1) := by decide +kernel
theorem dX7_list_16 : decode cX7_list 16 = .ok (.getfield 60, 3) := by decide +kernel
theorem dX7_list_19 : decode cX7_list 19 = .ok (.iload_n 1, 1) := by decide +kernel
theorem dX7_list_20 : decode cX7_list 20 = .ok (.aload_n 0, 1) := by decide +kernel
theorem dX7_list_21 : decode cX7_list 21 = .ok (.getfield 79, 3) := by decide +kernel
theorem dX7_list_24 : decode cX7_list 24 = .ok (.iastore, 1) := by decide +kernel
theorem dX7_list_25 : decode cX7_list 25 = .ok (.iconst 0, 1) := by decide +kernel
theorem dX7_list_26 : decode cX7_list 26 = .ok (.istore_n 2, 1) := by decide +kernel
theorem dX7_list_27 : decode cX7_list 27 = .ok (.iload_n 2, 1) := by decide +kernel
theorem dX7_list_28 : decode cX7_list 28 = .ok (.aload_n 0, 1) := by decide +kernel
theorem dX7_list_29 : decode cX7_list 29 = .ok (.getfield 7, 3) := by decide +kernel
theorem dX7_list_32 : decode cX7_list 32 = .ok (.if_icmp .ge 35, 3) := by decide +kernel
theorem dX7_list_35 : decode cX7_list 35 = .ok (.iload_n 1, 1) := by decide +kernel
theorem dX7_list_36 : decode cX7_list 36 = .ok (.iconst 1, 1) := by decide +kernel
theorem dX7_list_37 : decode cX7_list 37 = .ok (.iload_n 2, 1) := by decide +kernel
theorem dX7_list_38 : decode cX7_list 38 = .ok (.ishl, 1) := by decide +kernel
theorem dX7_list_39 : decode cX7_list 39 = .ok (.if_icmp .ne 22, 3) := by decide +kernel
theorem dX7_list_42 : decode cX7_list 42 = .ok (.aload_n 0, 1) := by decide +kernel
theorem dX7_list_43 : decode cX7_list 43 = .ok (.iload_n 2, 1) := by decide +kernel
theorem dX7_list_44 : decode cX7_list 44 = .ok (.iconst 0, 1) := by decide +kernel
theorem dX7_list_45 : decode cX7_list 45 = .ok (.iconst (-1), 1) := by decide +kernel
theorem dX7_list_46 : decode cX7_list 46 = .ok (.ldc2_w 164, 3) := by decide +kernel
theorem dX7_list_49 : decode cX7_list 49 = .ok (.aload_n 0, 1) := by decide +kernel
theorem dX7_list_50 : decode cX7_list 50 = .ok (.getfield 22, 3) := by decide +kernel
theorem dX7_list_53 : decode cX7_list 53 = .ok (.iload_n 2, 1) := by decide +kernel
theorem dX7_list_54 : decode cX7_list 54 = .ok (.iaload, 1) := by decide +kernel
theorem dX7_list_55 : decode cX7_list 55 = .ok (.i2l, 1) := by decide +kernel
theorem dX7_list_56 : decode cX7_list 56 = .ok (.lmul, 1) := by decide +kernel
theorem dX7_list_57 : decode cX7_list 57 = .ok (.lconst 0, 1) := by decide +kernel
theorem dX7_list_58 : decode cX7_list 58 = .ok (.invokevirtual 170, 3) := by decide +kernel
theorem dX7_list_61 : decode cX7_list 61 = .ok (.iinc 2 1, 3) := by decide +kernel
theorem dX7_list_64 : decode cX7_list 64 = .ok (.goto (-37), 3) := by decide +kernel
theorem dX7_list_67 : decode cX7_list 67 = .ok (.iconst 1, 1) := by decide +kernel
theorem dX7_list_68 : decode cX7_list 68 = .ok (.istore_n 2, 1) := by decide +kernel
theorem dX7_list_69 : decode cX7_list 69 = .ok (.iload_n 2, 1) := by decide +kernel
theorem dX7_list_70 : decode cX7_list 70 = .ok (.iload_n 1, 1) := by decide +kernel
theorem dX7_list_71 : decode cX7_list 71 = .ok (.if_icmp .ge 59, 3) := by decide +kernel
theorem dX7_list_74 : decode cX7_list 74 = .ok (.iload_n 1, 1) := by decide +kernel
theorem dX7_list_75 : decode cX7_list 75 = .ok (.iload_n 2, 1) := by decide +kernel
theorem dX7_list_76 : decode cX7_list 76 = .ok (.iconst (-1), 1) := by decide +kernel
theorem dX7_list_77 : decode cX7_list 77 = .ok (.ixor, 1) := by decide +kernel
theorem dX7_list_78 : decode cX7_list 78 = .ok (.iand, 1) := by decide +kernel
theorem dX7_list_79 : decode cX7_list 79 = .ok (.istore_n 3, 1) := by decide +kernel
theorem dX7_list_80 : decode cX7_list 80 = .ok (.iload_n 2, 1) := by decide +kernel
theorem dX7_list_81 : decode cX7_list 81 = .ok (.iload_n 1, 1) := by decide +kernel
theorem dX7_list_82 : decode cX7_list 82 = .ok (.iconst (-1), 1) := by decide +kernel
theorem dX7_list_83 : decode cX7_list 83 = .ok (.ixor, 1) := by decide +kernel
theorem dX7_list_84 : decode cX7_list 84 = .ok (.iand, 1) := by decide +kernel
theorem dX7_list_85 : decode cX7_list 85 = .ok (.ifCond .ne 39, 3) := by decide +kernel
theorem dX7_list_88 : decode cX7_list 88 = .ok (.aload_n 0, 1) := by decide +kernel
theorem dX7_list_89 : decode cX7_list 89 = .ok (.iload_n 2, 1) := by decide +kernel
theorem dX7_list_90 : decode cX7_list 90 = .ok (.iload_n 3, 1) := by decide +kernel
theorem dX7_list_91 : decode cX7_list 91 = .ok (.invokevirtual 174, 3) := by decide +kernel
theorem dX7_list_94 : decode cX7_list 94 = .ok (.ifCond .ge 6, 3) := by decide +kernel
theorem dX7_list_97 : decode cX7_list 97 = .ok (.goto 27, 3) := by decide +kernel
theorem dX7_list_100 : decode cX7_list 100 = .ok (.iconst 0, 1) := by decide +kernel
theorem dX7_list_101 : decode cX7_list 101 = .ok (.istore 4, 2) := by decide +kernel
theorem dX7_list_103 : decode cX7_list 103 = .ok (.iload 4, 2) := by decide +kernel
theorem dX7_list_105 : decode cX7_list 105 = .ok (.iconst 3, 1) := by decide +kernel
theorem dX7_list_106 : decode cX7_list 106 = .ok (.if_icmp .ge 18, 3) := by decide +kernel
theorem dX7_list_109 : decode cX7_list 109 = .ok (.aload_n 0, 1) := by decide +kernel
theorem dX7_list_110 : decode cX7_list 110 = .ok (.iload_n 1, 1) := by decide +kernel
theorem dX7_list_111 : decode cX7_list 111 = .ok (.iload_n 2, 1) := by decide +kernel
theorem dX7_list_112 : decode cX7_list 112 = .ok (.iload_n 3, 1) := by decide +kernel
theorem dX7_list_113 : decode cX7_list 113 = .ok (.iload 4, 2) := by decide +kernel
theorem dX7_list_115 : decode cX7_list 115 = .ok (.invokevirtual 178, 3) := by decide +kernel
theorem dX7_list_118 : decode cX7_list 118 = .ok (.iinc 4 1, 3) := by decide +kernel
theorem dX7_list_121 : decode cX7_list 121 = .ok (.goto (-18), 3) := by decide +kernel
theorem dX7_list_124 : decode cX7_list 124 = .ok (.iinc 2 1, 3) := by decide +kernel
theorem dX7_list_127 : decode cX7_list 127 = .ok (.goto (-58), 3) := by decide +kernel
theorem dX7_list_130 : decode cX7_list 130 = .ok (.iload_n 1, 1) := by decide +kernel
theorem dX7_list_131 : decode cX7_list 131 = .ok (.aload_n 0, 1) := by decide +kernel
theorem dX7_list_132 : decode cX7_list 132 = .ok (.invokevirtual 140, 3) := by decide +kernel
theorem dX7_list_135 : decode cX7_list 135 = .ok (.if_icmp .ne 30, 3) := by decide +kernel
theorem dX7_list_138 : decode cX7_list 138 = .ok (.aload_n 0, 1) := by decide +kernel
theorem dX7_list_139 : decode cX7_list 139 = .ok (.getfield 60, 3) := by decide +kernel
theorem dX7_list_142 : decode cX7_list 142 = .ok (.iload_n 1, 1) := by decide +kernel
theorem dX7_list_143 : decode cX7_list 143 = .ok (.iaload, 1) := by decide +kernel
theorem dX7_list_144 : decode cX7_list 144 = .ok (.istore_n 2, 1) := by decide +kernel
theorem dX7_list_145 : decode cX7_list 145 = .ok (.iload_n 2, 1) := by decide +kernel
theorem dX7_list_146 : decode cX7_list 146 = .ok (.aload_n 0, 1) := by decide +kernel
theorem dX7_list_147 : decode cX7_list 147 = .ok (.getfield 79, 3) := by decide +kernel
theorem dX7_list_150 : decode cX7_list 150 = .ok (.if_icmp .ge 15, 3) := by decide +kernel
theorem dX7_list_153 : decode cX7_list 153 = .ok (.aload_n 0, 1) := by decide +kernel
theorem dX7_list_154 : decode cX7_list 154 = .ok (.iload_n 2, 1) := by decide +kernel
theorem dX7_list_155 : decode cX7_list 155 = .ok (.iload_n 1, 1) := by decide +kernel
theorem dX7_list_156 : decode cX7_list 156 = .ok (.invokevirtual 182, 3) := by decide +kernel
theorem dX7_list_159 : decode cX7_list 159 = .ok (.iinc 2 1, 3) := by decide +kernel
theorem dX7_list_162 : decode cX7_list 162 = .ok (.goto (-17), 3) := by decide +kernel
theorem dX7_list_165 : decode cX7_list 165 = .ok (.iinc 1 1, 3) := by decide +kernel
theorem dX7_list_168 : decode cX7_list 168 = .ok (.goto (-161), 3) := by decide +kernel
theorem dX7_list_171 : decode cX7_list 171 = .ok (.aload_n 0, 1) := by decide +kernel
theorem dX7_list_172 : decode cX7_list 172 = .ok (.getfield 60, 3) := by decide +kernel
theorem dX7_list_175 : decode cX7_list 175 = .ok (.aload_n 0, 1) := by decide +kernel
theorem dX7_list_176 : decode cX7_list 176 = .ok (.invokevirtual 140, 3) := by decide +kernel
theorem dX7_list_179 : decode cX7_list 179 = .ok (.iconst 1, 1) := by decide +kernel
theorem dX7_list_180 : decode cX7_list 180 = .ok (.iadd, 1) := by decide +kernel
theorem dX7_list_181 : decode cX7_list 181 = .ok (.aload_n 0, 1) := by decide +kernel
theorem dX7_list_182 : decode cX7_list 182 = .ok (.getfield 79, 3) := by decide +kernel
theorem dX7_list_185 : decode cX7_list 185 = .ok (.iastore, 1) := by decide +kernel
theorem dX7_list_186 : decode cX7_list 186 = .ok (.return_, 1) := by decide +kernel
theorem dX7_lastOf_0 : decode cX7_lastOf 0 = .ok (.aload_n 0, 1) := by decide +kernel
theorem dX7_lastOf_1 : decode cX7_lastOf 1 = .ok (.getfield 60, 3) := by decide +kernel
theorem dX7_lastOf_4 : decode cX7_lastOf 4 = .ok (.iload_n 1, 1) := by decide +kernel
theorem dX7_lastOf_5 : decode cX7_lastOf 5 = .ok (.iconst 1, 1) := by decide +kernel
theorem dX7_lastOf_6 : decode cX7_lastOf 6 = .ok (.iadd, 1) := by decide +kernel
theorem dX7_lastOf_7 : decode cX7_lastOf 7 = .ok (.iaload, 1) := by decide +kernel
theorem dX7_lastOf_8 : decode cX7_lastOf 8 = .ok (.ireturn, 1) := by decide +kernel
set_option maxRecDepth 20000 in
theorem ggX7_joinAll_X7_joining : GoodIn wsX7_joinAll wsX7_joining := goodIn_r _ [11, 1, 2, 12, 13, 14, 15, 16, 17, 10, 18, 19, 20, 21, 22, 23, 24, 25, 49, 50, 51, 52, 53, 54, 55, 56, 57, 58, 59, 60, 61, 62, 63, 64, 65, 66, 67, 68, 69, 70, 71, 72, 73, 74, 75, 76, 77, 78, 79, 80, 81, 82, 83, 84, 85, 86, 87, 88] (by decide +kernel) (by decide +kernel)
set_option maxRecDepth 20000 in
theorem gX7_joinAll_X7_joining : GoodIn wsX7_joinAll (wsV RX7 186 RX7 yX7_joining wsX7_joining) := goodIn_app (goodIn_of _ (by decide +kernel)) ggX7_joinAll_X7_joining
set_option maxRecDepth 20000 in
theorem ggX7_joinAll_X7_lastOf : GoodIn wsX7_joinAll wsX7_lastOf := goodIn_r _ [29, 3, 49, 50, 51, 52, 53, 54, 55, 56, 57, 58, 59, 60, 61, 62, 63, 64, 65, 66, 67, 68, 69, 70, 71, 72, 73, 74, 75, 76, 77, 78, 79, 80, 81, 82, 83, 84, 85, 86, 87, 88] (by decide +kernel) (by decide +kernel)
set_option maxRecDepth 20000 in
theorem gX7_joinAll_X7_lastOf : GoodIn wsX7_joinAll (wsV RX7 190 RX7 yX7_lastOf wsX7_lastOf) := goodIn_app (goodIn_of _ (by decide +kernel)) ggX7_joinAll_X7_lastOf
set_option maxRecDepth 20000 in
theorem ggX7_joinAll_X7_digits : GoodIn wsX7_joinAll wsX7_digits := goodIn_r _ [33, 34, 35, 36, 10, 37] (by decide +kernel) (by decide +kernel)
set_option maxRecDepth 20000 in
theorem gX7_joinAll_X7_digits : GoodIn wsX7_joinAll (wsV RX7 193 RX7 yX7_digits wsX7_digits) := goodIn_app (goodIn_of _ (by decide +kernel)) ggX7_joinAll_X7_digits
set_option maxRecDepth 20000 in
theorem ggX7_joinAll_X7_shifted : GoodIn wsX7_joinAll wsX7_shifted := goodIn_r _ [41] (by decide +kernel) (by decide +kernel)
set_option maxRecDepth 20000 in
theorem gX7_joinAll_X7_shifted : GoodIn wsX7_joinAll (wsV RX7 196 RX7 yX7_shifted wsX7_shifted) := goodIn_app (goodIn_of _ (by decide +kernel)) ggX7_joinAll_X7_shifted
set_option maxRecDepth 20000 in
theorem ggX7_joinAll_X7_add : GoodIn wsX7_joinAll wsX7_add := goodIn_r _ [45, 4, 46, 47, 48, 5, 6, 49, 50, 51, 52, 53, 54, 55, 56, 57, 58, 59, 60, 61, 62, 63, 64, 65, 66, 67, 68, 69, 70, 71, 72, 73, 74, 75, 76, 77, 78, 79, 80, 81, 82, 83, 84, 85, 86, 87, 88] (by decide +kernel) (by decide +kernel)
set_option maxRecDepth 20000 in
theorem gX7_joinAll_X7_add : GoodIn wsX7_joinAll (wsV RX7 170 RX7 yX7_add wsX7_add) := goodIn_app (goodIn_of _ (by decide +kernel)) ggX7_joinAll_X7_add
theorem dX7_joinAll_0 : decode cX7_joinAll 0 = .ok (.aload_n 0, 1) := by decide +kernel
theorem dX7_joinAll_1 : decode cX7_joinAll 1 = .ok (.iload 4, 2) := by decide +kernel
theorem dX7_joinAll_3 : decode cX7_joinAll 3 = .ok (.iload_n 2, 1) := by decide +kernel
theorem dX7_joinAll_4 : decode cX7_joinAll 4 = .ok (.iload_n 3, 1) := by decide +kernel
theorem dX7_joinAll_5 : decode cX7_joinAll 5 = .ok (.invokevirtual 186, 3) := by decide +kernel
theorem dX7_joinAll_8 : decode cX7_joinAll 8 = .ok (.aload_n 0, 1) := by decide +kernel
theorem dX7_joinAll_9 : decode cX7_joinAll 9 = .ok (.getfield 53, 3) := by decide +kernel
theorem dX7_joinAll_12 : decode cX7_joinAll 12 = .ok (.lstore 5, 2) := by decide +kernel
theorem dX7_joinAll_14 : decode cX7_joinAll 14 = .ok (.aload_n 0, 1) := by decide +kernel
theorem dX7_joinAll_15 : decode cX7_joinAll 15 = .ok (.getfield 57, 3) := by decide +kernel
theorem dX7_joinAll_18 : decode cX7_joinAll 18 = .ok (.lstore 7, 2) := by decide +kernel
theorem dX7_joinAll_20 : decode cX7_joinAll 20 = .ok (.aload_n 0, 1) := by decide +kernel
theorem dX7_joinAll_21 : decode cX7_joinAll 21 = .ok (.getfield 60, 3) := by decide +kernel
theorem dX7_joinAll_24 : decode cX7_joinAll 24 = .ok (.iload_n 2, 1) := by decide +kernel
theorem dX7_joinAll_25 : decode cX7_joinAll 25 = .ok (.iaload, 1) := by decide +kernel
theorem dX7_joinAll_26 : decode cX7_joinAll 26 = .ok (.istore 9, 2) := by decide +kernel
theorem dX7_joinAll_28 : decode cX7_joinAll 28 = .ok (.iload 9, 2) := by decide +kernel
theorem dX7_joinAll_30 : decode cX7_joinAll 30 = .ok (.aload_n 0, 1) := by decide +kernel
theorem dX7_joinAll_31 : decode cX7_joinAll 31 = .ok (.iload_n 2, 1) := by decide +kernel
theorem dX7_joinAll_32 : decode cX7_joinAll 32 = .ok (.invokevirtual 190, 3) := by decide +kernel
theorem dX7_joinAll_35 : decode cX7_joinAll 35 = .ok (.if_icmp .ge 118, 3) := by decide +kernel
theorem dX7_joinAll_38 : decode cX7_joinAll 38 = .ok (.aload_n 0, 1) := by decide +kernel
theorem dX7_joinAll_39 : decode cX7_joinAll 39 = .ok (.getfield 60, 3) := by decide +kernel
theorem dX7_joinAll_42 : decode cX7_joinAll 42 = .ok (.iload_n 3, 1) := by decide +kernel
theorem dX7_joinAll_43 : decode cX7_joinAll 43 = .ok (.iaload, 1) := by decide +kernel
theorem dX7_joinAll_44 : decode cX7_joinAll 44 = .ok (.istore 10, 2) := by decide +kernel
theorem dX7_joinAll_46 : decode cX7_joinAll 46 = .ok (.iload 10, 2) := by decide +kernel
theorem dX7_joinAll_48 : decode cX7_joinAll 48 = .ok (.aload_n 0, 1) := by decide +kernel
theorem dX7_joinAll_49 : decode cX7_joinAll 49 = .ok (.iload_n 3, 1) := by decide +kernel
theorem dX7_joinAll_50 : decode cX7_joinAll 50 = .ok (.invokevirtual 190, 3) := by decide +kernel
theorem dX7_joinAll_53 : decode cX7_joinAll 53 = .ok (.if_icmp .ge 94, 3) := by decide +kernel
theorem dX7_joinAll_56 : decode cX7_joinAll 56 = .ok (.aload_n 0, 1) := by decide +kernel
theorem dX7_joinAll_57 : decode cX7_joinAll 57 = .ok (.aload_n 0, 1) := by decide +kernel
theorem dX7_joinAll_58 : decode cX7_joinAll 58 = .ok (.iconst 4, 1) := by decide +kernel
theorem dX7_joinAll_59 : decode cX7_joinAll 59 = .ok (.iload 4, 2) := by decide +kernel
theorem dX7_joinAll_61 : decode cX7_joinAll 61 = .ok (.iadd, 1) := by decide +kernel
theorem dX7_joinAll_62 : decode cX7_joinAll 62 = .ok (.aload_n 0, 1) := by decide +kernel
theorem dX7_joinAll_63 : decode cX7_joinAll 63 = .ok (.iload_n 2, 1) := by decide +kernel
theorem dX7_joinAll_64 : decode cX7_joinAll 64 = .ok (.invokevirtual 193, 3) := by decide +kernel
theorem dX7_joinAll_67 : decode cX7_joinAll 67 = .ok (.invokevirtual 196, 3) := by decide +kernel
theorem dX7_joinAll_70 : decode cX7_joinAll 70 = .ok (.aload_n 0, 1) := by decide +kernel
theorem dX7_joinAll_71 : decode cX7_joinAll 71 = .ok (.getfield 63, 3) := by decide +kernel
theorem dX7_joinAll_74 : decode cX7_joinAll 74 = .ok (.iload 9, 2) := by decide +kernel
theorem dX7_joinAll_76 : decode cX7_joinAll 76 = .ok (.iaload, 1) := by decide +kernel
theorem dX7_joinAll_77 : decode cX7_joinAll 77 = .ok (.iadd, 1) := by decide +kernel
theorem dX7_joinAll_78 : decode cX7_joinAll 78 = .ok (.aload_n 0, 1) := by decide +kernel
theorem dX7_joinAll_79 : decode cX7_joinAll 79 = .ok (.iload_n 3, 1) := by decide +kernel
theorem dX7_joinAll_80 : decode cX7_joinAll 80 = .ok (.invokevirtual 193, 3) := by decide +kernel
theorem dX7_joinAll_83 : decode cX7_joinAll 83 = .ok (.invokevirtual 196, 3) := by decide +kernel
theorem dX7_joinAll_86 : decode cX7_joinAll 86 = .ok (.aload_n 0, 1) := by decide +kernel
theorem dX7_joinAll_87 : decode cX7_joinAll 87 = .ok (.getfield 63, 3) := by decide +kernel
theorem dX7_joinAll_90 : decode cX7_joinAll 90 = .ok (.iload 10, 2) := by decide +kernel
theorem dX7_joinAll_92 : decode cX7_joinAll 92 = .ok (.iaload, 1) := by decide +kernel
theorem dX7_joinAll_93 : decode cX7_joinAll 93 = .ok (.iadd, 1) := by decide +kernel
theorem dX7_joinAll_94 : decode cX7_joinAll 94 = .ok (.istore 11, 2) := by decide +kernel
theorem dX7_joinAll_96 : decode cX7_joinAll 96 = .ok (.aload_n 0, 1) := by decide +kernel
theorem dX7_joinAll_97 : decode cX7_joinAll 97 = .ok (.iload 11, 2) := by decide +kernel
theorem dX7_joinAll_99 : decode cX7_joinAll 99 = .ok (.iload_n 2, 1) := by decide +kernel
theorem dX7_joinAll_100 : decode cX7_joinAll 100 = .ok (.iload 4, 2) := by decide +kernel
theorem dX7_joinAll_102 : decode cX7_joinAll 102 = .ok (.aload_n 0, 1) := by decide +kernel
theorem dX7_joinAll_103 : decode cX7_joinAll 103 = .ok (.getfield 72, 3) := by decide +kernel
theorem dX7_joinAll_106 : decode cX7_joinAll 106 = .ok (.iload 9, 2) := by decide +kernel
theorem dX7_joinAll_108 : decode cX7_joinAll 108 = .ok (.laload, 1) := by decide +kernel
theorem dX7_joinAll_109 : decode cX7_joinAll 109 = .ok (.aload_n 0, 1) := by decide +kernel
theorem dX7_joinAll_110 : decode cX7_joinAll 110 = .ok (.getfield 72, 3) := by decide +kernel
theorem dX7_joinAll_113 : decode cX7_joinAll 113 = .ok (.iload 10, 2) := by decide +kernel
theorem dX7_joinAll_115 : decode cX7_joinAll 115 = .ok (.laload, 1) := by decide +kernel
theorem dX7_joinAll_116 : decode cX7_joinAll 116 = .ok (.ladd, 1) := by decide +kernel
theorem dX7_joinAll_117 : decode cX7_joinAll 117 = .ok (.lload 5, 2) := by decide +kernel
theorem dX7_joinAll_119 : decode cX7_joinAll 119 = .ok (.ladd, 1) := by decide +kernel
theorem dX7_joinAll_120 : decode cX7_joinAll 120 = .ok (.aload_n 0, 1) := by decide +kernel
theorem dX7_joinAll_121 : decode cX7_joinAll 121 = .ok (.getfield 76, 3) := by decide +kernel
theorem dX7_joinAll_124 : decode cX7_joinAll 124 = .ok (.iload 9, 2) := by decide +kernel
theorem dX7_joinAll_126 : decode cX7_joinAll 126 = .ok (.laload, 1) := by decide +kernel
theorem dX7_joinAll_127 : decode cX7_joinAll 127 = .ok (.aload_n 0, 1) := by decide +kernel
theorem dX7_joinAll_128 : decode cX7_joinAll 128 = .ok (.getfield 76, 3) := by decide +kernel
theorem dX7_joinAll_131 : decode cX7_joinAll 131 = .ok (.iload 10, 2) := by decide +kernel
theorem dX7_joinAll_133 : decode cX7_joinAll 133 = .ok (.laload, 1) := by decide +kernel
theorem dX7_joinAll_134 : decode cX7_joinAll 134 = .ok (.ladd, 1) := by decide +kernel
theorem dX7_joinAll_135 : decode cX7_joinAll 135 = .ok (.lload 7, 2) := by decide +kernel
theorem dX7_joinAll_137 : decode cX7_joinAll 137 = .ok (.ladd, 1) := by decide +kernel
theorem dX7_joinAll_138 : decode cX7_joinAll 138 = .ok (.invokevirtual 170, 3) := by decide +kernel
theorem dX7_joinAll_141 : decode cX7_joinAll 141 = .ok (.iinc 10 1, 3) := by decide +kernel
theorem dX7_joinAll_144 : decode cX7_joinAll 144 = .ok (.goto (-98), 3) := by decide +kernel
theorem dX7_joinAll_147 : decode cX7_joinAll 147 = .ok (.iinc 9 1, 3) := by decide +kernel
theorem dX7_joinAll_150 : decode cX7_joinAll 150 = .ok (.goto (-122), 3) := by decide +kernel
theorem dX7_joinAll_153 : decode cX7_joinAll 153 = .ok (.return_, 1) := by decide +kernel
set_option maxRecDepth 20000 in
theorem ggX7_isSortedSo_X7_between : GoodIn wsX7_isSortedSo wsX7_between := goodIn_r _ [11, 12, 13, 14, 15, 10, 16, 2, 5, 17, 18, 19, 20, 21, 22, 23, 24, 25, 26, 27, 28, 29, 30, 31, 32, 33, 34, 35, 36, 37, 38, 39, 40, 41, 42, 43, 44, 45, 46, 47, 48, 49, 50, 51, 52, 53, 54, 55, 56] (by decide +kernel) (by decide +kernel)
set_option maxRecDepth 20000 in
theorem gX7_isSortedSo_X7_between : GoodIn wsX7_isSortedSo (wsV RX7 174 RX7 yX7_between wsX7_between) := goodIn_app (goodIn_of _ (by decide +kernel)) ggX7_isSortedSo_X7_between
theorem dX7_isSortedSo_0 : decode cX7_isSortedSo 0 = .ok (.aload_n 0, 1) := by decide +kernel
theorem dX7_isSortedSo_1 : decode cX7_isSortedSo 1 = .ok (.iload_n 1, 1) := by decide +kernel
theorem dX7_isSortedSo_2 : decode cX7_isSortedSo 2 = .ok (.iload_n 2, 1) := by decide +kernel
theorem dX7_isSortedSo_3 : decode cX7_isSortedSo 3 = .ok (.invokevirtual 174, 3) := by decide +kernel
theorem dX7_isSortedSo_6 : decode cX7_isSortedSo 6 = .ok (.istore_n 3, 1) := by decide +kernel
theorem dX7_isSortedSo_7 : decode cX7_isSortedSo 7 = .ok (.aload_n 0, 1) := by decide +kernel
theorem dX7_isSortedSo_8 : decode cX7_isSortedSo 8 = .ok (.getfield 16, 3) := by decide +kernel
theorem dX7_isSortedSo_11 : decode cX7_isSortedSo 11 = .ok (.ifCond .lt 59, 3) := by decide +kernel
theorem dX7_isSortedSo_14 : decode cX7_isSortedSo 14 = .ok (.aload_n 0, 1) := by decide +kernel
theorem dX7_isSortedSo_15 : decode cX7_isSortedSo 15 = .ok (.getfield 29, 3) := by decide +kernel
theorem dX7_isSortedSo_18 : decode cX7_isSortedSo 18 = .ok (.iload_n 3, 1) := by decide +kernel
theorem dX7_isSortedSo_19 : decode cX7_isSortedSo 19 = .ok (.iaload, 1) := by decide +kernel
theorem dX7_isSortedSo_20 : decode cX7_isSortedSo 20 = .ok (.aload_n 0, 1) := by decide +kernel
theorem dX7_isSortedSo_21 : decode cX7_isSortedSo 21 = .ok (.getfield 16, 3) := by decide +kernel
theorem dX7_isSortedSo_24 : decode cX7_isSortedSo 24 = .ok (.if_icmp .ne 16, 3) := by decide +kernel
theorem dX7_isSortedSo_27 : decode cX7_isSortedSo 27 = .ok (.aload_n 0, 1) := by decide +kernel
theorem dX7_isSortedSo_28 : decode cX7_isSortedSo 28 = .ok (.getfield 32, 3) := by decide +kernel
theorem dX7_isSortedSo_31 : decode cX7_isSortedSo 31 = .ok (.iload_n 3, 1) := by decide +kernel
theorem dX7_isSortedSo_32 : decode cX7_isSortedSo 32 = .ok (.iaload, 1) := by decide +kernel
theorem dX7_isSortedSo_33 : decode cX7_isSortedSo 33 = .ok (.aload_n 0, 1) := by decide +kernel
theorem dX7_isSortedSo_34 : decode cX7_isSortedSo 34 = .ok (.getfield 19, 3) := by decide +kernel
theorem dX7_isSortedSo_37 : decode cX7_isSortedSo 37 = .ok (.if_icmp .eq 29, 3) := by decide +kernel
theorem dX7_isSortedSo_40 : decode cX7_isSortedSo 40 = .ok (.aload_n 0, 1) := by decide +kernel
theorem dX7_isSortedSo_41 : decode cX7_isSortedSo 41 = .ok (.getfield 35, 3) := by decide +kernel
theorem dX7_isSortedSo_44 : decode cX7_isSortedSo 44 = .ok (.iload_n 3, 1) := by decide +kernel
theorem dX7_isSortedSo_45 : decode cX7_isSortedSo 45 = .ok (.iaload, 1) := by decide +kernel
theorem dX7_isSortedSo_46 : decode cX7_isSortedSo 46 = .ok (.aload_n 0, 1) := by decide +kernel
theorem dX7_isSortedSo_47 : decode cX7_isSortedSo 47 = .ok (.getfield 16, 3) := by decide +kernel
theorem dX7_isSortedSo_50 : decode cX7_isSortedSo 50 = .ok (.if_icmp .ne 20, 3) := by decide +kernel
theorem dX7_isSortedSo_53 : decode cX7_isSortedSo 53 = .ok (.aload_n 0, 1) := by decide +kernel
theorem dX7_isSortedSo_54 : decode cX7_isSortedSo 54 = .ok (.getfield 38, 3) := by decide +kernel
theorem dX7_isSortedSo_57 : decode cX7_isSortedSo 57 = .ok (.iload_n 3, 1) := by decide +kernel
theorem dX7_isSortedSo_58 : decode cX7_isSortedSo 58 = .ok (.iaload, 1) := by decide +kernel
theorem dX7_isSortedSo_59 : decode cX7_isSortedSo 59 = .ok (.aload_n 0, 1) := by decide +kernel
theorem dX7_isSortedSo_60 : decode cX7_isSortedSo 60 = .ok (.getfield 19, 3) := by decide +kernel
theorem dX7_isSortedSo_63 : decode cX7_isSortedSo 63 = .ok (.if_icmp .ne 7, 3) := by decide +kernel
theorem dX7_isSortedSo_66 : decode cX7_isSortedSo 66 = .ok (.iconst 1, 1) := by decide +kernel
theorem dX7_isSortedSo_67 : decode cX7_isSortedSo 67 = .ok (.goto 4, 3) := by decide +kernel
theorem dX7_isSortedSo_70 : decode cX7_isSortedSo 70 = .ok (.iconst 0, 1) := by decide +kernel
theorem dX7_isSortedSo_71 : decode cX7_isSortedSo 71 = .ok (.ireturn, 1) := by decide +kernel
set_option maxRecDepth 20000 in
theorem ggX7_end_X7_isSortedSo : GoodIn wsX7_end wsX7_isSortedSo := goodIn_r _ [13, 1, 14, 15, 16, 17, 18, 19, 20, 21, 12, 22, 23, 24, 25, 26, 27, 36, 37, 38, 39, 40, 41, 42, 43, 44, 45, 46, 47, 48, 49, 50, 51, 52, 53, 54, 55, 56, 57, 58, 59, 60, 61, 62, 63, 64, 65, 66, 67, 68, 69, 70, 71, 72, 73, 74, 75] (by decide +kernel) (by decide +kernel)
set_option maxRecDepth 20000 in
theorem gX7_end_X7_isSortedSo : GoodIn wsX7_end (wsV RX7 199 RX7 yX7_isSortedSo wsX7_isSortedSo) := goodIn_app (goodIn_of _ (by decide +kernel)) ggX7_end_X7_isSortedSo
set_option maxRecDepth 20000 in
theorem ggX7_end_X7_size : GoodIn wsX7_end wsX7_size := goodIn_r _ [31, 32, 33, 23, 14, 17, 34, 35, 6, 8, 36, 37, 38, 39, 40, 41, 42, 43, 44, 45, 46, 47, 48, 49, 50, 51, 52, 53, 54, 55, 56, 57, 58, 59, 60, 61, 62, 63, 64, 65, 66, 67, 68, 69, 70, 71, 72, 73, 74, 75] (by decide +kernel) (by decide +kernel)
set_option maxRecDepth 20000 in
theorem gX7_end_X7_size : GoodIn wsX7_end (wsV RX7 156 RX7 yX7_size wsX7_size) := goodIn_app (goodIn_of _ (by decide +kernel)) ggX7_end_X7_size
theorem dX7_end_0 : decode cX7_end 0 = .ok (.aload_n 0, 1) := by decide +kernel
theorem dX7_end_1 : decode cX7_end 1 = .ok (.getfield 16, 3) := by decide +kernel
theorem dX7_end_4 : decode cX7_end 4 = .ok (.ifCond .lt 36, 3) := by decide +kernel
theorem dX7_end_7 : decode cX7_end 7 = .ok (.aload_n 0, 1) := by decide +kernel
theorem dX7_end_8 : decode cX7_end 8 = .ok (.getfield 69, 3) := by decide +kernel
theorem dX7_end_11 : decode cX7_end 11 = .ok (.iload_n 1, 1) := by decide +kernel
theorem dX7_end_12 : decode cX7_end 12 = .ok (.iaload, 1) := by decide +kernel
theorem dX7_end_13 : decode cX7_end 13 = .ok (.iconst 2, 1) := by decide +kernel
theorem dX7_end_14 : decode cX7_end 14 = .ok (.if_icmp .ne 27, 3) := by decide +kernel
theorem dX7_end_17 : decode cX7_end 17 = .ok (.aload_n 0, 1) := by decide +kernel
theorem dX7_end_18 : decode cX7_end 18 = .ok (.aload_n 0, 1) := by decide +kernel
theorem dX7_end_19 : decode cX7_end 19 = .ok (.getfield 66, 3) := by decide +kernel
theorem dX7_end_22 : decode cX7_end 22 = .ok (.iload_n 1, 1) := by decide +kernel
theorem dX7_end_23 : decode cX7_end 23 = .ok (.iaload, 1) := by decide +kernel
theorem dX7_end_24 : decode cX7_end 24 = .ok (.iload_n 2, 1) := by decide +kernel
theorem dX7_end_25 : decode cX7_end 25 = .ok (.aload_n 0, 1) := by decide +kernel
theorem dX7_end_26 : decode cX7_end 26 = .ok (.getfield 66, 3) := by decide +kernel
theorem dX7_end_29 : decode cX7_end 29 = .ok (.iload_n 1, 1) := by decide +kernel
theorem dX7_end_30 : decode cX7_end 30 = .ok (.iaload, 1) := by decide +kernel
theorem dX7_end_31 : decode cX7_end 31 = .ok (.iconst (-1), 1) := by decide +kernel
theorem dX7_end_32 : decode cX7_end 32 = .ok (.ixor, 1) := by decide +kernel
theorem dX7_end_33 : decode cX7_end 33 = .ok (.iand, 1) := by decide +kernel
theorem dX7_end_34 : decode cX7_end 34 = .ok (.invokevirtual 199, 3) := by decide +kernel
theorem dX7_end_37 : decode cX7_end 37 = .ok (.ifCond .eq 4, 3) := by decide +kernel
theorem dX7_end_40 : decode cX7_end 40 = .ok (.return_, 1) := by decide +kernel
theorem dX7_end_41 : decode cX7_end 41 = .ok (.aload_n 0, 1) := by decide +kernel
theorem dX7_end_42 : decode cX7_end 42 = .ok (.iload_n 2, 1) := by decide +kernel
theorem dX7_end_43 : decode cX7_end 43 = .ok (.invokevirtual 156, 3) := by decide +kernel
theorem dX7_end_46 : decode cX7_end 46 = .ok (.aload_n 0, 1) := by decide +kernel
theorem dX7_end_47 : decode cX7_end 47 = .ok (.getfield 72, 3) := by decide +kernel
theorem dX7_end_50 : decode cX7_end 50 = .ok (.iload_n 1, 1) := by decide +kernel
theorem dX7_end_51 : decode cX7_end 51 = .ok (.dup2, 1) := by decide +kernel
theorem dX7_end_52 : decode cX7_end 52 = .ok (.laload, 1) := by decide +kernel
theorem dX7_end_53 : decode cX7_end 53 = .ok (.ldc2_w 162, 3) := by decide +kernel
theorem dX7_end_56 : decode cX7_end 56 = .ok (.aload_n 0, 1) := by decide +kernel
theorem dX7_end_57 : decode cX7_end 57 = .ok (.getfield 53, 3) := by decide +kernel
theorem dX7_end_60 : decode cX7_end 60 = .ok (.lmul, 1) := by decide +kernel
theorem dX7_end_61 : decode cX7_end 61 = .ok (.ladd, 1) := by decide +kernel
theorem dX7_end_62 : decode cX7_end 62 = .ok (.lastore, 1) := by decide +kernel
theorem dX7_end_63 : decode cX7_end 63 = .ok (.aload_n 0, 1) := by decide +kernel
theorem dX7_end_64 : decode cX7_end 64 = .ok (.getfield 76, 3) := by decide +kernel
theorem dX7_end_67 : decode cX7_end 67 = .ok (.iload_n 1, 1) := by decide +kernel
theorem dX7_end_68 : decode cX7_end 68 = .ok (.dup2, 1) := by decide +kernel
theorem dX7_end_69 : decode cX7_end 69 = .ok (.laload, 1) := by decide +kernel
theorem dX7_end_70 : decode cX7_end 70 = .ok (.ldc2_w 162, 3) := by decide +kernel
theorem dX7_end_73 : decode cX7_end 73 = .ok (.aload_n 0, 1) := by decide +kernel
theorem dX7_end_74 : decode cX7_end 74 = .ok (.getfield 57, 3) := by decide +kernel
theorem dX7_end_77 : decode cX7_end 77 = .ok (.lmul, 1) := by decide +kernel
theorem dX7_end_78 : decode cX7_end 78 = .ok (.ladd, 1) := by decide +kernel
theorem dX7_end_79 : decode cX7_end 79 = .ok (.lastore, 1) := by decide +kernel
theorem dX7_end_80 : decode cX7_end 80 = .ok (.return_, 1) := by decide +kernel
theorem dX7_find_0 : decode cX7_find 0 = .ok (.aload_n 0, 1) := by decide +kernel
theorem dX7_find_1 : decode cX7_find 1 = .ok (.getfield 60, 3) := by decide +kernel
theorem dX7_find_4 : decode cX7_find 4 = .ok (.iload_n 1, 1) := by decide +kernel
theorem dX7_find_5 : decode cX7_find 5 = .ok (.iaload, 1) := by decide +kernel
theorem dX7_find_6 : decode cX7_find 6 = .ok (.istore_n 3, 1) := by decide +kernel
theorem dX7_find_7 : decode cX7_find 7 = .ok (.aload_n 0, 1) := by decide +kernel
theorem dX7_find_8 : decode cX7_find 8 = .ok (.getfield 63, 3) := by decide +kernel
theorem dX7_find_11 : decode cX7_find 11 = .ok (.iload_n 3, 1) := by decide +kernel
theorem dX7_find_12 : decode cX7_find 12 = .ok (.iaload, 1) := by decide +kernel
theorem dX7_find_13 : decode cX7_find 13 = .ok (.iload_n 2, 1) := by decide +kernel
theorem dX7_find_14 : decode cX7_find 14 = .ok (.if_icmp .eq 9, 3) := by decide +kernel
theorem dX7_find_17 : decode cX7_find 17 = .ok (.iinc 3 1, 3) := by decide +kernel
theorem dX7_find_20 : decode cX7_find 20 = .ok (.goto (-13), 3) := by decide +kernel
theorem dX7_find_23 : decode cX7_find 23 = .ok (.iload_n 3, 1) := by decide +kernel
theorem dX7_find_24 : decode cX7_find 24 = .ok (.ireturn, 1) := by decide +kernel
theorem dX7_kept_0 : decode cX7_kept 0 = .ok (.aload_n 0, 1) := by decide +kernel
theorem dX7_kept_1 : decode cX7_kept 1 = .ok (.getfield 44, 3) := by decide +kernel
theorem dX7_kept_4 : decode cX7_kept 4 = .ok (.bipush 60, 2) := by decide +kernel
theorem dX7_kept_6 : decode cX7_kept 6 = .ok (.if_icmp .ne 6, 3) := by decide +kernel
theorem dX7_kept_9 : decode cX7_kept 9 = .ok (.bipush (-4), 2) := by decide +kernel
theorem dX7_kept_11 : decode cX7_kept 11 = .ok (.ireturn, 1) := by decide +kernel
theorem dX7_kept_12 : decode cX7_kept 12 = .ok (.aload_n 0, 1) := by decide +kernel
theorem dX7_kept_13 : decode cX7_kept 13 = .ok (.getfield 47, 3) := by decide +kernel
theorem dX7_kept_16 : decode cX7_kept 16 = .ok (.aload_n 0, 1) := by decide +kernel
theorem dX7_kept_17 : decode cX7_kept 17 = .ok (.getfield 44, 3) := by decide +kernel
theorem dX7_kept_20 : decode cX7_kept 20 = .ok (.iload_n 1, 1) := by decide +kernel
theorem dX7_kept_21 : decode cX7_kept 21 = .ok (.iastore, 1) := by decide +kernel
theorem dX7_kept_22 : decode cX7_kept 22 = .ok (.aload_n 0, 1) := by decide +kernel
theorem dX7_kept_23 : decode cX7_kept 23 = .ok (.getfield 50, 3) := by decide +kernel
theorem dX7_kept_26 : decode cX7_kept 26 = .ok (.aload_n 0, 1) := by decide +kernel
theorem dX7_kept_27 : decode cX7_kept 27 = .ok (.getfield 44, 3) := by decide +kernel
theorem dX7_kept_30 : decode cX7_kept 30 = .ok (.iload_n 2, 1) := by decide +kernel
theorem dX7_kept_31 : decode cX7_kept 31 = .ok (.iastore, 1) := by decide +kernel
theorem dX7_kept_32 : decode cX7_kept 32 = .ok (.aload_n 0, 1) := by decide +kernel
theorem dX7_kept_33 : decode cX7_kept 33 = .ok (.dup, 1) := by decide +kernel
theorem dX7_kept_34 : decode cX7_kept 34 = .ok (.getfield 44, 3) := by decide +kernel
theorem dX7_kept_37 : decode cX7_kept 37 = .ok (.iconst 1, 1) := by decide +kernel
theorem dX7_kept_38 : decode cX7_kept 38 = .ok (.iadd, 1) := by decide +kernel
theorem dX7_kept_39 : decode cX7_kept 39 = .ok (.putfield 44, 3) := by decide +kernel
theorem dX7_kept_42 : decode cX7_kept 42 = .ok (.aload_n 0, 1) := by decide +kernel
theorem dX7_kept_43 : decode cX7_kept 43 = .ok (.getfield 44, 3) := by decide +kernel
theorem dX7_kept_46 : decode cX7_kept 46 = .ok (.iconst 1, 1) := by decide +kernel
theorem dX7_kept_47 : decode cX7_kept 47 = .ok (.isub, 1) := by decide +kernel
theorem dX7_kept_48 : decode cX7_kept 48 = .ok (.ireturn, 1) := by decide +kernel
theorem dX7_isPlan_0 : decode cX7_isPlan 0 = .ok (.iload_n 1, 1) := by decide +kernel
theorem dX7_isPlan_1 : decode cX7_isPlan 1 = .ok (.ifCond .lt 15, 3) := by decide +kernel
theorem dX7_isPlan_4 : decode cX7_isPlan 4 = .ok (.iload_n 1, 1) := by decide +kernel
theorem dX7_isPlan_5 : decode cX7_isPlan 5 = .ok (.aload_n 0, 1) := by decide +kernel
theorem dX7_isPlan_6 : decode cX7_isPlan 6 = .ok (.getfield 44, 3) := by decide +kernel
theorem dX7_isPlan_9 : decode cX7_isPlan 9 = .ok (.if_icmp .ge 7, 3) := by decide +kernel
theorem dX7_isPlan_12 : decode cX7_isPlan 12 = .ok (.iconst 1, 1) := by decide +kernel
theorem dX7_isPlan_13 : decode cX7_isPlan 13 = .ok (.goto 4, 3) := by decide +kernel
theorem dX7_isPlan_16 : decode cX7_isPlan 16 = .ok (.iconst 0, 1) := by decide +kernel
theorem dX7_isPlan_17 : decode cX7_isPlan 17 = .ok (.ireturn, 1) := by decide +kernel
set_option maxRecDepth 20000 in
theorem ggX7_read_X7_isTable : GoodIn wsX7_read wsX7_isTable := goodIn_r _ [5, 6, 30, 31, 32, 33, 34, 35, 36, 37, 38, 39, 40, 41, 42, 43, 44, 45, 46, 47, 48, 49, 50, 51, 52, 53, 54, 55, 56, 57, 58, 59, 60, 61, 62, 63, 64, 65, 66, 67, 68, 69] (by decide +kernel) (by decide +kernel)
set_option maxRecDepth 20000 in
theorem gX7_read_X7_isTable : GoodIn wsX7_read (wsV RX7 144 RX7 yX7_isTable wsX7_isTable) := goodIn_app (goodIn_of _ (by decide +kernel)) ggX7_read_X7_isTable
set_option maxRecDepth 20000 in
theorem ggX7_read_X7_isWhole : GoodIn wsX7_read wsX7_isWhole := goodIn_r _ [10, 6, 11, 12, 13, 14, 15, 16, 17, 4, 18, 19, 20, 21, 22, 30, 31, 32, 33, 34, 35, 36, 37, 38, 39, 40, 41, 42, 43, 44, 45, 46, 47, 48, 49, 50, 51, 52, 53, 54, 55, 56, 57, 58, 59, 60, 61, 62, 63, 64, 65, 66, 67, 68, 69] (by decide +kernel) (by decide +kernel)
set_option maxRecDepth 20000 in
theorem gX7_read_X7_isWhole : GoodIn wsX7_read (wsV RX7 203 RX7 yX7_isWhole wsX7_isWhole) := goodIn_app (goodIn_of _ (by decide +kernel)) ggX7_read_X7_isWhole
set_option maxRecDepth 20000 in
theorem ggX7_read_X7_kept : GoodIn wsX7_read wsX7_kept := goodIn_r _ [26, 27, 28, 29, 30, 31, 32, 33, 34, 35, 36, 37, 38, 39, 40, 41, 42, 43, 44, 45, 46, 47, 48, 49, 50, 51, 52, 53, 54, 55, 56, 57, 58, 59, 60, 61, 62, 63, 64, 65, 66, 67, 68, 69] (by decide +kernel) (by decide +kernel)
set_option maxRecDepth 20000 in
theorem gX7_read_X7_kept : GoodIn wsX7_read (wsV RX7 207 RX7 yX7_kept wsX7_kept) := goodIn_app (goodIn_of _ (by decide +kernel)) ggX7_read_X7_kept
theorem dX7_read_0 : decode cX7_read 0 = .ok (.aload_n 0, 1) := by decide +kernel
theorem dX7_read_1 : decode cX7_read 1 = .ok (.iload_n 1, 1) := by decide +kernel
theorem dX7_read_2 : decode cX7_read 2 = .ok (.invokevirtual 144, 3) := by decide +kernel
theorem dX7_read_5 : decode cX7_read 5 = .ok (.ifCond .ne 5, 3) := by decide +kernel
theorem dX7_read_8 : decode cX7_read 8 = .ok (.iconst (-1), 1) := by decide +kernel
theorem dX7_read_9 : decode cX7_read 9 = .ok (.ireturn, 1) := by decide +kernel
theorem dX7_read_10 : decode cX7_read 10 = .ok (.aload_n 0, 1) := by decide +kernel
theorem dX7_read_11 : decode cX7_read 11 = .ok (.invokevirtual 203, 3) := by decide +kernel
theorem dX7_read_14 : decode cX7_read 14 = .ok (.ifCond .ne 6, 3) := by decide +kernel
theorem dX7_read_17 : decode cX7_read 17 = .ok (.bipush (-3), 2) := by decide +kernel
theorem dX7_read_19 : decode cX7_read 19 = .ok (.ireturn, 1) := by decide +kernel
theorem dX7_read_20 : decode cX7_read 20 = .ok (.aload_n 0, 1) := by decide +kernel
theorem dX7_read_21 : decode cX7_read 21 = .ok (.iload_n 1, 1) := by decide +kernel
theorem dX7_read_22 : decode cX7_read 22 = .ok (.iconst 1, 1) := by decide +kernel
theorem dX7_read_23 : decode cX7_read 23 = .ok (.iload_n 1, 1) := by decide +kernel
theorem dX7_read_24 : decode cX7_read 24 = .ok (.ishl, 1) := by decide +kernel
theorem dX7_read_25 : decode cX7_read 25 = .ok (.invokevirtual 207, 3) := by decide +kernel
theorem dX7_read_28 : decode cX7_read 28 = .ok (.ireturn, 1) := by decide +kernel
set_option maxRecDepth 20000 in
theorem ggX7_join_X7_isPlan : GoodIn wsX7_join wsX7_isPlan := goodIn_r _ [7, 8, 36, 37, 38, 39, 40, 41, 42, 43, 44, 45, 46, 47, 48, 49, 50, 51, 52, 53, 54, 55, 56, 57, 58, 59, 60, 61, 62, 63, 64, 65, 66, 67, 68, 69, 70, 71, 72, 73, 74, 75] (by decide +kernel) (by decide +kernel)
set_option maxRecDepth 20000 in
theorem gX7_join_X7_isPlan : GoodIn wsX7_join (wsV RX7 210 RX7 yX7_isPlan wsX7_isPlan) := goodIn_app (goodIn_of _ (by decide +kernel)) ggX7_join_X7_isPlan
set_option maxRecDepth 20000 in
theorem ggX7_join_X7_between : GoodIn wsX7_join wsX7_between := goodIn_r _ [12, 13, 14, 15, 16, 6, 17, 18, 19, 36, 37, 38, 39, 40, 41, 42, 43, 44, 45, 46, 47, 48, 49, 50, 51, 52, 53, 54, 55, 56, 57, 58, 59, 60, 61, 62, 63, 64, 65, 66, 67, 68, 69, 70, 71, 72, 73, 74, 75] (by decide +kernel) (by decide +kernel)
set_option maxRecDepth 20000 in
theorem gX7_join_X7_between : GoodIn wsX7_join (wsV RX7 174 RX7 yX7_between wsX7_between) := goodIn_app (goodIn_of _ (by decide +kernel)) ggX7_join_X7_between
set_option maxRecDepth 20000 in
theorem ggX7_join_X7_digits : GoodIn wsX7_join wsX7_digits := goodIn_r _ [23, 24, 25, 26, 6, 27] (by decide +kernel) (by decide +kernel)
set_option maxRecDepth 20000 in
theorem gX7_join_X7_digits : GoodIn wsX7_join (wsV RX7 193 RX7 yX7_digits wsX7_digits) := goodIn_app (goodIn_of _ (by decide +kernel)) ggX7_join_X7_digits
set_option maxRecDepth 20000 in
theorem ggX7_join_X7_shifted : GoodIn wsX7_join wsX7_shifted := goodIn_r _ [31] (by decide +kernel) (by decide +kernel)
set_option maxRecDepth 20000 in
theorem gX7_join_X7_shifted : GoodIn wsX7_join (wsV RX7 196 RX7 yX7_shifted wsX7_shifted) := goodIn_app (goodIn_of _ (by decide +kernel)) ggX7_join_X7_shifted
set_option maxRecDepth 20000 in
theorem ggX7_join_X7_kept : GoodIn wsX7_join wsX7_kept := goodIn_r _ [35, 8, 2, 1, 36, 37, 38, 39, 40, 41, 42, 43, 44, 45, 46, 47, 48, 49, 50, 51, 52, 53, 54, 55, 56, 57, 58, 59, 60, 61, 62, 63, 64, 65, 66, 67, 68, 69, 70, 71, 72, 73, 74, 75] (by decide +kernel) (by decide +kernel)
set_option maxRecDepth 20000 in
theorem gX7_join_X7_kept : GoodIn wsX7_join (wsV RX7 207 RX7 yX7_kept wsX7_kept) := goodIn_app (goodIn_of _ (by decide +kernel)) ggX7_join_X7_kept
theorem dX7_join_0 : decode cX7_join 0 = .ok (.aload_n 0, 1) := by decide +kernel
theorem dX7_join_1 : decode cX7_join 1 = .ok (.iload_n 2, 1) := by decide +kernel
theorem dX7_join_2 : decode cX7_join 2 = .ok (.invokevirtual 210, 3) := by decide +kernel
theorem dX7_join_5 : decode cX7_join 5 = .ok (.ifCond .eq 11, 3) := by decide +kernel
theorem dX7_join_8 : decode cX7_join 8 = .ok (.aload_n 0, 1) := by decide +kernel
theorem dX7_join_9 : decode cX7_join 9 = .ok (.iload_n 3, 1) := by decide +kernel
theorem dX7_join_10 : decode cX7_join 10 = .ok (.invokevirtual 210, 3) := by decide +kernel
theorem dX7_join_13 : decode cX7_join 13 = .ok (.ifCond .ne 5, 3) := by decide +kernel
theorem dX7_join_16 : decode cX7_join 16 = .ok (.iconst (-1), 1) := by decide +kernel
theorem dX7_join_17 : decode cX7_join 17 = .ok (.ireturn, 1) := by decide +kernel
theorem dX7_join_18 : decode cX7_join 18 = .ok (.iload_n 1, 1) := by decide +kernel
theorem dX7_join_19 : decode cX7_join 19 = .ok (.ifCond .lt 8, 3) := by decide +kernel
theorem dX7_join_22 : decode cX7_join 22 = .ok (.iload_n 1, 1) := by decide +kernel
theorem dX7_join_23 : decode cX7_join 23 = .ok (.iconst 2, 1) := by decide +kernel
theorem dX7_join_24 : decode cX7_join 24 = .ok (.if_icmp .le 6, 3) := by decide +kernel
theorem dX7_join_27 : decode cX7_join 27 = .ok (.bipush (-2), 2) := by decide +kernel
theorem dX7_join_29 : decode cX7_join 29 = .ok (.ireturn, 1) := by decide +kernel
theorem dX7_join_30 : decode cX7_join 30 = .ok (.aload_n 0, 1) := by decide +kernel
theorem dX7_join_31 : decode cX7_join 31 = .ok (.getfield 50, 3) := by decide +kernel
theorem dX7_join_34 : decode cX7_join 34 = .ok (.iload_n 2, 1) := by decide +kernel
theorem dX7_join_35 : decode cX7_join 35 = .ok (.iaload, 1) := by decide +kernel
theorem dX7_join_36 : decode cX7_join 36 = .ok (.istore 4, 2) := by decide +kernel
theorem dX7_join_38 : decode cX7_join 38 = .ok (.aload_n 0, 1) := by decide +kernel
theorem dX7_join_39 : decode cX7_join 39 = .ok (.getfield 50, 3) := by decide +kernel
theorem dX7_join_42 : decode cX7_join 42 = .ok (.iload_n 3, 1) := by decide +kernel
theorem dX7_join_43 : decode cX7_join 43 = .ok (.iaload, 1) := by decide +kernel
theorem dX7_join_44 : decode cX7_join 44 = .ok (.istore 5, 2) := by decide +kernel
theorem dX7_join_46 : decode cX7_join 46 = .ok (.iload 4, 2) := by decide +kernel
theorem dX7_join_48 : decode cX7_join 48 = .ok (.iload 5, 2) := by decide +kernel
theorem dX7_join_50 : decode cX7_join 50 = .ok (.iand, 1) := by decide +kernel
theorem dX7_join_51 : decode cX7_join 51 = .ok (.ifCond .ne 14, 3) := by decide +kernel
theorem dX7_join_54 : decode cX7_join 54 = .ok (.aload_n 0, 1) := by decide +kernel
theorem dX7_join_55 : decode cX7_join 55 = .ok (.iload 4, 2) := by decide +kernel
theorem dX7_join_57 : decode cX7_join 57 = .ok (.iload 5, 2) := by decide +kernel
theorem dX7_join_59 : decode cX7_join 59 = .ok (.invokevirtual 174, 3) := by decide +kernel
theorem dX7_join_62 : decode cX7_join 62 = .ok (.ifCond .ge 6, 3) := by decide +kernel
theorem dX7_join_65 : decode cX7_join 65 = .ok (.bipush (-3), 2) := by decide +kernel
theorem dX7_join_67 : decode cX7_join 67 = .ok (.ireturn, 1) := by decide +kernel
theorem dX7_join_68 : decode cX7_join 68 = .ok (.aload_n 0, 1) := by decide +kernel
theorem dX7_join_69 : decode cX7_join 69 = .ok (.aload_n 0, 1) := by decide +kernel
theorem dX7_join_70 : decode cX7_join 70 = .ok (.aload_n 0, 1) := by decide +kernel
theorem dX7_join_71 : decode cX7_join 71 = .ok (.iconst 4, 1) := by decide +kernel
theorem dX7_join_72 : decode cX7_join 72 = .ok (.iload_n 1, 1) := by decide +kernel
theorem dX7_join_73 : decode cX7_join 73 = .ok (.iadd, 1) := by decide +kernel
theorem dX7_join_74 : decode cX7_join 74 = .ok (.aload_n 0, 1) := by decide +kernel
theorem dX7_join_75 : decode cX7_join 75 = .ok (.iload 4, 2) := by decide +kernel
theorem dX7_join_77 : decode cX7_join 77 = .ok (.invokevirtual 193, 3) := by decide +kernel
theorem dX7_join_80 : decode cX7_join 80 = .ok (.invokevirtual 196, 3) := by decide +kernel
theorem dX7_join_83 : decode cX7_join 83 = .ok (.aload_n 0, 1) := by decide +kernel
theorem dX7_join_84 : decode cX7_join 84 = .ok (.getfield 47, 3) := by decide +kernel
theorem dX7_join_87 : decode cX7_join 87 = .ok (.iload_n 2, 1) := by decide +kernel
theorem dX7_join_88 : decode cX7_join 88 = .ok (.iaload, 1) := by decide +kernel
theorem dX7_join_89 : decode cX7_join 89 = .ok (.iadd, 1) := by decide +kernel
theorem dX7_join_90 : decode cX7_join 90 = .ok (.aload_n 0, 1) := by decide +kernel
theorem dX7_join_91 : decode cX7_join 91 = .ok (.iload 5, 2) := by decide +kernel
theorem dX7_join_93 : decode cX7_join 93 = .ok (.invokevirtual 193, 3) := by decide +kernel
theorem dX7_join_96 : decode cX7_join 96 = .ok (.invokevirtual 196, 3) := by decide +kernel
theorem dX7_join_99 : decode cX7_join 99 = .ok (.aload_n 0, 1) := by decide +kernel
theorem dX7_join_100 : decode cX7_join 100 = .ok (.getfield 47, 3) := by decide +kernel
theorem dX7_join_103 : decode cX7_join 103 = .ok (.iload_n 3, 1) := by decide +kernel
theorem dX7_join_104 : decode cX7_join 104 = .ok (.iaload, 1) := by decide +kernel
theorem dX7_join_105 : decode cX7_join 105 = .ok (.iadd, 1) := by decide +kernel
theorem dX7_join_106 : decode cX7_join 106 = .ok (.iload 4, 2) := by decide +kernel
theorem dX7_join_108 : decode cX7_join 108 = .ok (.iload 5, 2) := by decide +kernel
theorem dX7_join_110 : decode cX7_join 110 = .ok (.ior, 1) := by decide +kernel
theorem dX7_join_111 : decode cX7_join 111 = .ok (.invokevirtual 207, 3) := by decide +kernel
theorem dX7_join_114 : decode cX7_join 114 = .ok (.ireturn, 1) := by decide +kernel
set_option maxRecDepth 20000 in
theorem ggX7_code_X7_isPlan : GoodIn wsX7_code wsX7_isPlan := goodIn_r _ [7, 8, 17, 18, 19, 20, 21, 22, 23, 24, 25, 26, 27, 28, 29, 30, 31, 32, 33, 34, 35, 36, 37, 38, 39, 40, 41, 42, 43, 44, 45, 46, 47, 48, 49, 50, 51, 52, 53, 54, 55, 56] (by decide +kernel) (by decide +kernel)
set_option maxRecDepth 20000 in
theorem gX7_code_X7_isPlan : GoodIn wsX7_code (wsV RX7 210 RX7 yX7_isPlan wsX7_isPlan) := goodIn_app (goodIn_of _ (by decide +kernel)) ggX7_code_X7_isPlan
set_option maxRecDepth 20000 in
theorem ggX7_code_X7_digits : GoodIn wsX7_code wsX7_digits := goodIn_r _ [12, 13, 14, 15, 6, 16] (by decide +kernel) (by decide +kernel)
set_option maxRecDepth 20000 in
theorem gX7_code_X7_digits : GoodIn wsX7_code (wsV RX7 193 RX7 yX7_digits wsX7_digits) := goodIn_app (goodIn_of _ (by decide +kernel)) ggX7_code_X7_digits
theorem dX7_code_0 : decode cX7_code 0 = .ok (.aload_n 0, 1) := by decide +kernel
theorem dX7_code_1 : decode cX7_code 1 = .ok (.iload_n 1, 1) := by decide +kernel
theorem dX7_code_2 : decode cX7_code 2 = .ok (.invokevirtual 210, 3) := by decide +kernel
theorem dX7_code_5 : decode cX7_code 5 = .ok (.ifCond .ne 5, 3) := by decide +kernel
theorem dX7_code_8 : decode cX7_code 8 = .ok (.iconst (-1), 1) := by decide +kernel
theorem dX7_code_9 : decode cX7_code 9 = .ok (.ireturn, 1) := by decide +kernel
theorem dX7_code_10 : decode cX7_code 10 = .ok (.aload_n 0, 1) := by decide +kernel
theorem dX7_code_11 : decode cX7_code 11 = .ok (.aload_n 0, 1) := by decide +kernel
theorem dX7_code_12 : decode cX7_code 12 = .ok (.getfield 50, 3) := by decide +kernel
theorem dX7_code_15 : decode cX7_code 15 = .ok (.iload_n 1, 1) := by decide +kernel
theorem dX7_code_16 : decode cX7_code 16 = .ok (.iaload, 1) := by decide +kernel
theorem dX7_code_17 : decode cX7_code 17 = .ok (.invokevirtual 193, 3) := by decide +kernel
theorem dX7_code_20 : decode cX7_code 20 = .ok (.istore_n 3, 1) := by decide +kernel
theorem dX7_code_21 : decode cX7_code 21 = .ok (.iload_n 2, 1) := by decide +kernel
theorem dX7_code_22 : decode cX7_code 22 = .ok (.ifCond .lt 8, 3) := by decide +kernel
theorem dX7_code_25 : decode cX7_code 25 = .ok (.iload_n 2, 1) := by decide +kernel
theorem dX7_code_26 : decode cX7_code 26 = .ok (.iload_n 3, 1) := by decide +kernel
theorem dX7_code_27 : decode cX7_code 27 = .ok (.if_icmp .lt 7, 3) := by decide +kernel
theorem dX7_code_30 : decode cX7_code 30 = .ok (.iconst (-1), 1) := by decide +kernel
theorem dX7_code_31 : decode cX7_code 31 = .ok (.goto 20, 3) := by decide +kernel
theorem dX7_code_34 : decode cX7_code 34 = .ok (.aload_n 0, 1) := by decide +kernel
theorem dX7_code_35 : decode cX7_code 35 = .ok (.getfield 47, 3) := by decide +kernel
theorem dX7_code_38 : decode cX7_code 38 = .ok (.iload_n 1, 1) := by decide +kernel
theorem dX7_code_39 : decode cX7_code 39 = .ok (.iaload, 1) := by decide +kernel
theorem dX7_code_40 : decode cX7_code 40 = .ok (.iconst 3, 1) := by decide +kernel
theorem dX7_code_41 : decode cX7_code 41 = .ok (.iload_n 3, 1) := by decide +kernel
theorem dX7_code_42 : decode cX7_code 42 = .ok (.iconst 1, 1) := by decide +kernel
theorem dX7_code_43 : decode cX7_code 43 = .ok (.isub, 1) := by decide +kernel
theorem dX7_code_44 : decode cX7_code 44 = .ok (.iload_n 2, 1) := by decide +kernel
theorem dX7_code_45 : decode cX7_code 45 = .ok (.isub, 1) := by decide +kernel
theorem dX7_code_46 : decode cX7_code 46 = .ok (.imul, 1) := by decide +kernel
theorem dX7_code_47 : decode cX7_code 47 = .ok (.ishr, 1) := by decide +kernel
theorem dX7_code_48 : decode cX7_code 48 = .ok (.bipush 7, 2) := by decide +kernel
theorem dX7_code_50 : decode cX7_code 50 = .ok (.iand, 1) := by decide +kernel
theorem dX7_code_51 : decode cX7_code 51 = .ok (.ireturn, 1) := by decide +kernel
set_option maxRecDepth 20000 in
theorem ggX7_isWholePlan_X7_all : GoodIn wsX7_isWholePlan wsX7_all := goodIn_r _ [6, 7, 8, 9, 10, 11, 12, 13, 14, 15, 16, 17, 18, 19, 20, 21, 22, 23, 24, 25, 26, 27, 28, 29, 30, 31, 32, 33, 34, 35, 36, 37, 38, 39, 40, 41, 42, 43, 44, 45, 46, 47] (by decide +kernel) (by decide +kernel)
set_option maxRecDepth 20000 in
theorem gX7_isWholePlan_X7_all : GoodIn wsX7_isWholePlan (wsV RX7 140 RX7 yX7_all wsX7_all) := goodIn_app (goodIn_of _ (by decide +kernel)) ggX7_isWholePlan_X7_all
theorem dX7_isWholePlan_0 : decode cX7_isWholePlan 0 = .ok (.aload_n 0, 1) := by decide +kernel
theorem dX7_isWholePlan_1 : decode cX7_isWholePlan 1 = .ok (.getfield 50, 3) := by decide +kernel
theorem dX7_isWholePlan_4 : decode cX7_isWholePlan 4 = .ok (.iload_n 1, 1) := by decide +kernel
theorem dX7_isWholePlan_5 : decode cX7_isWholePlan 5 = .ok (.iaload, 1) := by decide +kernel
theorem dX7_isWholePlan_6 : decode cX7_isWholePlan 6 = .ok (.aload_n 0, 1) := by decide +kernel
theorem dX7_isWholePlan_7 : decode cX7_isWholePlan 7 = .ok (.invokevirtual 140, 3) := by decide +kernel
theorem dX7_isWholePlan_10 : decode cX7_isWholePlan 10 = .ok (.if_icmp .ne 7, 3) := by decide +kernel
theorem dX7_isWholePlan_13 : decode cX7_isWholePlan 13 = .ok (.iconst 1, 1) := by decide +kernel
theorem dX7_isWholePlan_14 : decode cX7_isWholePlan 14 = .ok (.goto 4, 3) := by decide +kernel
theorem dX7_isWholePlan_17 : decode cX7_isWholePlan 17 = .ok (.iconst 0, 1) := by decide +kernel
theorem dX7_isWholePlan_18 : decode cX7_isWholePlan 18 = .ok (.ireturn, 1) := by decide +kernel
set_option maxRecDepth 20000 in
theorem ggX7_about_X7_isPlan : GoodIn wsX7_about wsX7_isPlan := goodIn_r _ [10, 11, 96, 97, 98, 99, 100, 101, 102, 103, 104, 105, 106, 107, 108, 109, 110, 111, 112, 113, 114, 115, 116, 117, 118, 119, 120, 121, 122, 123, 124, 125, 126, 127, 128, 129, 130, 131, 132, 133, 134, 135] (by decide +kernel) (by decide +kernel)
set_option maxRecDepth 20000 in
theorem gX7_about_X7_isPlan : GoodIn wsX7_about (wsV RX7 210 RX7 yX7_isPlan wsX7_isPlan) := goodIn_app (goodIn_of _ (by decide +kernel)) ggX7_about_X7_isPlan
set_option maxRecDepth 20000 in
theorem ggX7_about_X7_bits : GoodIn wsX7_about wsX7_bits := goodIn_r _ [15] (by decide +kernel) (by decide +kernel)
set_option maxRecDepth 20000 in
theorem gX7_about_X7_bits : GoodIn wsX7_about (wsV RX7 166 RX7 yX7_bits wsX7_bits) := goodIn_app (goodIn_of _ (by decide +kernel)) ggX7_about_X7_bits
set_option maxRecDepth 20000 in
theorem ggX7_about_X7_list : GoodIn wsX7_about wsX7_list := goodIn_r _ [19, 20, 21, 22, 23, 24, 25, 26, 27, 9, 28, 29, 30, 31, 32, 33, 5, 4, 34, 35, 36, 37, 38, 39, 40, 41, 42, 43, 44, 45, 46, 47, 48, 49, 50, 51, 52, 53, 54, 55, 56, 57, 58, 59, 60, 61, 62, 63, 64, 65, 66, 67, 68, 69, 70, 71, 72, 12, 13, 14, 15, 73, 74, 75, 76, 77, 78, 79, 80, 2, 81, 82, 83, 84, 85, 86, 87, 96, 97, 98, 99, 100, 101, 102, 103, 104, 105, 106, 107, 108, 109, 110, 111, 112, 113, 114, 115, 116, 117, 118, 119, 120, 121, 122, 123, 124, 125, 126, 127, 128, 129, 130, 131, 132, 133, 134, 135] (by decide +kernel) (by decide +kernel)
set_option maxRecDepth 20000 in
theorem gX7_about_X7_list : GoodIn wsX7_about (wsV RX7 213 RX7 yX7_list wsX7_list) := goodIn_app (goodIn_of _ (by decide +kernel)) ggX7_about_X7_list
set_option maxRecDepth 20000 in
theorem ggX7_about_X7_find : GoodIn wsX7_about wsX7_find := goodIn_r _ [91, 21, 33, 96, 97, 98, 99, 100, 101, 102, 103, 104, 105, 106, 107, 108, 109, 110, 111, 112, 113, 114, 115, 116, 117, 118, 119, 120, 121, 122, 123, 124, 125, 126, 127, 128, 129, 130, 131, 132, 133, 134, 135] (by decide +kernel) (by decide +kernel)
set_option maxRecDepth 20000 in
theorem gX7_about_X7_find : GoodIn wsX7_about (wsV RX7 216 RX7 yX7_find wsX7_find) := goodIn_app (goodIn_of _ (by decide +kernel)) ggX7_about_X7_find
set_option maxRecDepth 20000 in
theorem ggX7_about_X7_isSortedSo : GoodIn wsX7_about wsX7_isSortedSo := goodIn_r _ [84, 2, 45, 85, 86, 46, 87, 36, 37, 38, 9, 39, 40, 41, 42, 43, 44, 96, 97, 98, 99, 100, 101, 102, 103, 104, 105, 106, 107, 108, 109, 110, 111, 112, 113, 114, 115, 116, 117, 118, 119, 120, 121, 122, 123, 124, 125, 126, 127, 128, 129, 130, 131, 132, 133, 134, 135] (by decide +kernel) (by decide +kernel)
set_option maxRecDepth 20000 in
theorem gX7_about_X7_isSortedSo : GoodIn wsX7_about (wsV RX7 199 RX7 yX7_isSortedSo wsX7_isSortedSo) := goodIn_app (goodIn_of _ (by decide +kernel)) ggX7_about_X7_isSortedSo
set_option maxRecDepth 20000 in
theorem ggX7_about_X7_isWholePlan : GoodIn wsX7_about wsX7_isWholePlan := goodIn_r _ [95, 1, 25, 26, 27, 9, 28, 22, 96, 97, 98, 99, 100, 101, 102, 103, 104, 105, 106, 107, 108, 109, 110, 111, 112, 113, 114, 115, 116, 117, 118, 119, 120, 121, 122, 123, 124, 125, 126, 127, 128, 129, 130, 131, 132, 133, 134, 135] (by decide +kernel) (by decide +kernel)
set_option maxRecDepth 20000 in
theorem gX7_about_X7_isWholePlan : GoodIn wsX7_about (wsV RX7 219 RX7 yX7_isWholePlan wsX7_isWholePlan) := goodIn_app (goodIn_of _ (by decide +kernel)) ggX7_about_X7_isWholePlan
theorem dX7_about_0 : decode cX7_about 0 = .ok (.aload_n 0, 1) := by decide +kernel
theorem dX7_about_1 : decode cX7_about 1 = .ok (.iload_n 1, 1) := by decide +kernel
theorem dX7_about_2 : decode cX7_about 2 = .ok (.invokevirtual 210, 3) := by decide +kernel
theorem dX7_about_5 : decode cX7_about 5 = .ok (.ifCond .ne 5, 3) := by decide +kernel
theorem dX7_about_8 : decode cX7_about 8 = .ok (.iconst (-1), 1) := by decide +kernel
theorem dX7_about_9 : decode cX7_about 9 = .ok (.ireturn, 1) := by decide +kernel
theorem dX7_about_10 : decode cX7_about 10 = .ok (.iload_n 2, 1) := by decide +kernel
theorem dX7_about_11 : decode cX7_about 11 = .ok (.tableswitch 137 0 3 #[29, 36, 49, 123], 29) := by decide +kernel
theorem dX7_about_40 : decode cX7_about 40 = .ok (.aload_n 0, 1) := by decide +kernel
theorem dX7_about_41 : decode cX7_about 41 = .ok (.getfield 50, 3) := by decide +kernel
theorem dX7_about_44 : decode cX7_about 44 = .ok (.iload_n 1, 1) := by decide +kernel
theorem dX7_about_45 : decode cX7_about 45 = .ok (.iaload, 1) := by decide +kernel
theorem dX7_about_46 : decode cX7_about 46 = .ok (.ireturn, 1) := by decide +kernel
theorem dX7_about_47 : decode cX7_about 47 = .ok (.aload_n 0, 1) := by decide +kernel
theorem dX7_about_48 : decode cX7_about 48 = .ok (.aload_n 0, 1) := by decide +kernel
theorem dX7_about_49 : decode cX7_about 49 = .ok (.getfield 50, 3) := by decide +kernel
theorem dX7_about_52 : decode cX7_about 52 = .ok (.iload_n 1, 1) := by decide +kernel
theorem dX7_about_53 : decode cX7_about 53 = .ok (.iaload, 1) := by decide +kernel
theorem dX7_about_54 : decode cX7_about 54 = .ok (.invokevirtual 166, 3) := by decide +kernel
theorem dX7_about_57 : decode cX7_about 57 = .ok (.iconst 1, 1) := by decide +kernel
theorem dX7_about_58 : decode cX7_about 58 = .ok (.isub, 1) := by decide +kernel
theorem dX7_about_59 : decode cX7_about 59 = .ok (.ireturn, 1) := by decide +kernel
theorem dX7_about_60 : decode cX7_about 60 = .ok (.aload_n 0, 1) := by decide +kernel
theorem dX7_about_61 : decode cX7_about 61 = .ok (.getfield 16, 3) := by decide +kernel
theorem dX7_about_64 : decode cX7_about 64 = .ok (.ifCond .ge 5, 3) := by decide +kernel
theorem dX7_about_67 : decode cX7_about 67 = .ok (.iconst 0, 1) := by decide +kernel
theorem dX7_about_68 : decode cX7_about 68 = .ok (.ireturn, 1) := by decide +kernel
theorem dX7_about_69 : decode cX7_about 69 = .ok (.aload_n 0, 1) := by decide +kernel
theorem dX7_about_70 : decode cX7_about 70 = .ok (.invokevirtual 213, 3) := by decide +kernel
theorem dX7_about_73 : decode cX7_about 73 = .ok (.aload_n 0, 1) := by decide +kernel
theorem dX7_about_74 : decode cX7_about 74 = .ok (.aload_n 0, 1) := by decide +kernel
theorem dX7_about_75 : decode cX7_about 75 = .ok (.getfield 50, 3) := by decide +kernel
theorem dX7_about_78 : decode cX7_about 78 = .ok (.iload_n 1, 1) := by decide +kernel
theorem dX7_about_79 : decode cX7_about 79 = .ok (.iaload, 1) := by decide +kernel
theorem dX7_about_80 : decode cX7_about 80 = .ok (.aload_n 0, 1) := by decide +kernel
theorem dX7_about_81 : decode cX7_about 81 = .ok (.getfield 47, 3) := by decide +kernel
theorem dX7_about_84 : decode cX7_about 84 = .ok (.iload_n 1, 1) := by decide +kernel
theorem dX7_about_85 : decode cX7_about 85 = .ok (.iaload, 1) := by decide +kernel
theorem dX7_about_86 : decode cX7_about 86 = .ok (.invokevirtual 216, 3) := by decide +kernel
theorem dX7_about_89 : decode cX7_about 89 = .ok (.istore_n 3, 1) := by decide +kernel
theorem dX7_about_90 : decode cX7_about 90 = .ok (.aload_n 0, 1) := by decide +kernel
theorem dX7_about_91 : decode cX7_about 91 = .ok (.getfield 69, 3) := by decide +kernel
theorem dX7_about_94 : decode cX7_about 94 = .ok (.iload_n 3, 1) := by decide +kernel
theorem dX7_about_95 : decode cX7_about 95 = .ok (.iaload, 1) := by decide +kernel
theorem dX7_about_96 : decode cX7_about 96 = .ok (.iconst 2, 1) := by decide +kernel
theorem dX7_about_97 : decode cX7_about 97 = .ok (.if_icmp .ne 35, 3) := by decide +kernel
theorem dX7_about_100 : decode cX7_about 100 = .ok (.aload_n 0, 1) := by decide +kernel
theorem dX7_about_101 : decode cX7_about 101 = .ok (.aload_n 0, 1) := by decide +kernel
theorem dX7_about_102 : decode cX7_about 102 = .ok (.getfield 66, 3) := by decide +kernel
theorem dX7_about_105 : decode cX7_about 105 = .ok (.iload_n 3, 1) := by decide +kernel
theorem dX7_about_106 : decode cX7_about 106 = .ok (.iaload, 1) := by decide +kernel
theorem dX7_about_107 : decode cX7_about 107 = .ok (.aload_n 0, 1) := by decide +kernel
theorem dX7_about_108 : decode cX7_about 108 = .ok (.getfield 50, 3) := by decide +kernel
theorem dX7_about_111 : decode cX7_about 111 = .ok (.iload_n 1, 1) := by decide +kernel
theorem dX7_about_112 : decode cX7_about 112 = .ok (.iaload, 1) := by decide +kernel
theorem dX7_about_113 : decode cX7_about 113 = .ok (.aload_n 0, 1) := by decide +kernel
theorem dX7_about_114 : decode cX7_about 114 = .ok (.getfield 66, 3) := by decide +kernel
theorem dX7_about_117 : decode cX7_about 117 = .ok (.iload_n 3, 1) := by decide +kernel
theorem dX7_about_118 : decode cX7_about 118 = .ok (.iaload, 1) := by decide +kernel
theorem dX7_about_119 : decode cX7_about 119 = .ok (.iconst (-1), 1) := by decide +kernel
theorem dX7_about_120 : decode cX7_about 120 = .ok (.ixor, 1) := by decide +kernel
theorem dX7_about_121 : decode cX7_about 121 = .ok (.iand, 1) := by decide +kernel
theorem dX7_about_122 : decode cX7_about 122 = .ok (.invokevirtual 199, 3) := by decide +kernel
theorem dX7_about_125 : decode cX7_about 125 = .ok (.ifCond .eq 7, 3) := by decide +kernel
theorem dX7_about_128 : decode cX7_about 128 = .ok (.iconst 1, 1) := by decide +kernel
theorem dX7_about_129 : decode cX7_about 129 = .ok (.goto 4, 3) := by decide +kernel
theorem dX7_about_132 : decode cX7_about 132 = .ok (.iconst 0, 1) := by decide +kernel
theorem dX7_about_133 : decode cX7_about 133 = .ok (.ireturn, 1) := by decide +kernel
theorem dX7_about_134 : decode cX7_about 134 = .ok (.aload_n 0, 1) := by decide +kernel
theorem dX7_about_135 : decode cX7_about 135 = .ok (.iload_n 1, 1) := by decide +kernel
theorem dX7_about_136 : decode cX7_about 136 = .ok (.invokevirtual 219, 3) := by decide +kernel
theorem dX7_about_139 : decode cX7_about 139 = .ok (.ifCond .eq 7, 3) := by decide +kernel
theorem dX7_about_142 : decode cX7_about 142 = .ok (.iconst 1, 1) := by decide +kernel
