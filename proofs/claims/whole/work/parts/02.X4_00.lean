theorem dX4_init_0 : decode cX4_init 0 = .ok (.aload_n 0, 1) := by decide +kernel
theorem dX4_init_1 : decode cX4_init 1 = .ok (.invokespecial 3, 3) := by decide +kernel
theorem dX4_init_4 : decode cX4_init 4 = .ok (.aload_n 0, 1) := by decide +kernel
theorem dX4_init_5 : decode cX4_init 5 = .ok (.iconst 0, 1) := by decide +kernel
theorem dX4_init_6 : decode cX4_init 6 = .ok (.newarray .int, 2) := by decide +kernel
theorem dX4_init_8 : decode cX4_init 8 = .ok (.putfield 9, 3) := by decide +kernel
theorem dX4_init_11 : decode cX4_init 11 = .ok (.aload_n 0, 1) := by decide +kernel
theorem dX4_init_12 : decode cX4_init 12 = .ok (.iconst 0, 1) := by decide +kernel
theorem dX4_init_13 : decode cX4_init 13 = .ok (.newarray .int, 2) := by decide +kernel
theorem dX4_init_15 : decode cX4_init 15 = .ok (.putfield 15, 3) := by decide +kernel
theorem dX4_init_18 : decode cX4_init 18 = .ok (.aload_n 0, 1) := by decide +kernel
theorem dX4_init_19 : decode cX4_init 19 = .ok (.iconst 5, 1) := by decide +kernel
theorem dX4_init_20 : decode cX4_init 20 = .ok (.newarray .int, 2) := by decide +kernel
theorem dX4_init_22 : decode cX4_init 22 = .ok (.putfield 18, 3) := by decide +kernel
theorem dX4_init_25 : decode cX4_init 25 = .ok (.aload_n 0, 1) := by decide +kernel
theorem dX4_init_26 : decode cX4_init 26 = .ok (.iconst 4, 1) := by decide +kernel
theorem dX4_init_27 : decode cX4_init 27 = .ok (.newarray .int, 2) := by decide +kernel
theorem dX4_init_29 : decode cX4_init 29 = .ok (.putfield 21, 3) := by decide +kernel
theorem dX4_init_32 : decode cX4_init 32 = .ok (.aload_n 0, 1) := by decide +kernel
theorem dX4_init_33 : decode cX4_init 33 = .ok (.bipush 8, 2) := by decide +kernel
theorem dX4_init_35 : decode cX4_init 35 = .ok (.newarray .int, 2) := by decide +kernel
theorem dX4_init_37 : decode cX4_init 37 = .ok (.putfield 24, 3) := by decide +kernel
theorem dX4_init_40 : decode cX4_init 40 = .ok (.aload_n 0, 1) := by decide +kernel
theorem dX4_init_41 : decode cX4_init 41 = .ok (.bipush 9, 2) := by decide +kernel
theorem dX4_init_43 : decode cX4_init 43 = .ok (.newarray .int, 2) := by decide +kernel
theorem dX4_init_45 : decode cX4_init 45 = .ok (.putfield 27, 3) := by decide +kernel
theorem dX4_init_48 : decode cX4_init 48 = .ok (.aload_n 0, 1) := by decide +kernel
theorem dX4_init_49 : decode cX4_init 49 = .ok (.iconst 4, 1) := by decide +kernel
theorem dX4_init_50 : decode cX4_init 50 = .ok (.newarray .int, 2) := by decide +kernel
theorem dX4_init_52 : decode cX4_init 52 = .ok (.putfield 30, 3) := by decide +kernel
theorem dX4_init_55 : decode cX4_init 55 = .ok (.aload_n 0, 1) := by decide +kernel
theorem dX4_init_56 : decode cX4_init 56 = .ok (.aload_n 1, 1) := by decide +kernel
theorem dX4_init_57 : decode cX4_init 57 = .ok (.putfield 33, 3) := by decide +kernel
theorem dX4_init_60 : decode cX4_init 60 = .ok (.return_, 1) := by decide +kernel
set_option maxRecDepth 20000 in
theorem ggX4_work_X4_makeRoom : GoodIn wsX4_work wsX4_makeRoom := goodIn_r _ [15, 7, 16, 17, 18, 19, 20, 21, 22, 23, 24, 25, 26, 27, 28, 29, 30, 31, 32, 33, 34, 145, 146, 147, 148, 149, 150, 151, 152, 153, 154, 155, 156, 157, 163, 164, 165, 166, 167, 168, 169, 170, 171, 172, 173, 174, 175] (by decide +kernel) (by decide +kernel)
set_option maxRecDepth 20000 in
theorem gX4_work_X4_makeRoom : GoodIn wsX4_work (wsV RX4 37 RX4 yX4_makeRoom wsX4_makeRoom) := goodIn_app (goodIn_of _ (by decide +kernel)) ggX4_work_X4_makeRoom
set_option maxRecDepth 20000 in
theorem ggX4_work_X1_codeLength : GoodIn wsX4_work wsX1_codeLength := goodIn_r _ [39, 40, 41, 42, 43, 44, 45, 46, 47, 158, 159, 160, 161, 162] (by decide +kernel) (by decide +kernel)
set_option maxRecDepth 20000 in
theorem gX4_work_X1_codeLength : GoodIn wsX4_work (wsV RX4 47 RX1 yX1_codeLength wsX1_codeLength) := goodIn_app (goodIn_of _ (by decide +kernel)) ggX4_work_X1_codeLength
set_option maxRecDepth 20000 in
theorem ggX4_work_X1_codeNumber : GoodIn wsX4_work wsX1_codeNumber := goodIn_r _ [51, 52, 53, 36, 37, 38, 39, 40, 41, 42, 43, 44, 45, 46, 47, 158, 159, 160, 161, 162] (by decide +kernel) (by decide +kernel)
set_option maxRecDepth 20000 in
theorem gX4_work_X1_codeNumber : GoodIn wsX4_work (wsV RX4 53 RX1 yX1_codeNumber wsX1_codeNumber) := goodIn_app (goodIn_of _ (by decide +kernel)) ggX4_work_X1_codeNumber
set_option maxRecDepth 20000 in
theorem ggX4_work_X4_pushRows : GoodIn wsX4_work wsX4_pushRows := goodIn_r _ [57, 7, 5, 2, 58, 59, 19, 60, 23, 61, 1, 24, 25, 26, 27, 28, 29, 30, 31, 32, 33, 34, 62, 63, 64, 145, 146, 147, 148, 149, 150, 151, 152, 153, 154, 155, 156, 157, 163, 164, 165, 166, 167, 168, 169, 170, 171, 172, 173, 174, 175] (by decide +kernel) (by decide +kernel)
set_option maxRecDepth 20000 in
theorem gX4_work_X4_pushRows : GoodIn wsX4_work (wsV RX4 57 RX4 yX4_pushRows wsX4_pushRows) := goodIn_app (goodIn_of _ (by decide +kernel)) ggX4_work_X4_pushRows
set_option maxRecDepth 20000 in
theorem ggX4_work_X4_joinTopTwo : GoodIn wsX4_work wsX4_joinTopTwo := goodIn_r _ [68, 2, 61, 5, 1, 69, 7, 21, 23, 70, 71, 72, 73, 74, 75, 76, 14, 77, 78, 79, 80, 81, 27, 82, 83, 84, 85, 86, 87, 88, 89, 90, 91, 92, 93, 94, 95, 96, 97, 98, 99, 100, 101, 102, 103, 104, 105, 106, 107, 108, 109, 17, 18, 19, 20, 110, 111, 112, 113, 30, 31, 32, 33, 34, 114, 115, 116, 117, 58, 59, 60, 24, 25, 26, 28, 29, 118, 119, 120, 121, 122, 123, 124, 125, 126, 127, 128, 129, 130, 131, 132, 133, 134, 135, 136, 137, 138, 139, 145, 146, 147, 148, 149, 150, 151, 152, 153, 154, 155, 156, 157, 163, 164, 165, 166, 167, 168, 169, 170, 171, 172, 173, 174, 175] (by decide +kernel) (by decide +kernel)
set_option maxRecDepth 20000 in
theorem gX4_work_X4_joinTopTwo : GoodIn wsX4_work (wsV RX4 61 RX4 yX4_joinTopTwo wsX4_joinTopTwo) := goodIn_app (goodIn_of _ (by decide +kernel)) ggX4_work_X4_joinTopTwo
set_option maxRecDepth 20000 in
theorem ggX4_work_X3_orderFactor : GoodIn wsX4_work wsX3_orderFactor := goodIn_r _ [143, 34, 144, 163, 164, 165, 166, 167, 168, 169, 170, 171, 172, 173, 174, 175] (by decide +kernel) (by decide +kernel)
set_option maxRecDepth 20000 in
theorem gX4_work_X3_orderFactor : GoodIn wsX4_work (wsV RX4 77 RX3 yX3_orderFactor wsX3_orderFactor) := goodIn_app (goodIn_of _ (by decide +kernel)) ggX4_work_X3_orderFactor
set_option maxRecDepth 20000 in
theorem ggX4_work_X4_sort : GoodIn wsX4_work wsX4_sort := goodIn_r _ [107, 7, 23, 21, 108, 109, 17, 18, 19, 20, 70, 71, 72, 73, 110, 111, 112, 27, 113, 30, 31, 32, 33, 34, 114, 115, 116, 14, 117, 58, 59, 60, 24, 25, 26, 28, 29, 118, 119, 120, 121, 122, 123, 124, 125, 145, 146, 147, 148, 149, 150, 151, 152, 153, 154, 155, 156, 157, 163, 164, 165, 166, 167, 168, 169, 170, 171, 172, 173, 174, 175] (by decide +kernel) (by decide +kernel)
set_option maxRecDepth 20000 in
theorem gX4_work_X4_sort : GoodIn wsX4_work (wsV RX4 89 RX4 yX4_sort wsX4_sort) := goodIn_app (goodIn_of _ (by decide +kernel)) ggX4_work_X4_sort
theorem dX4_work_0 : decode cX4_work 0 = .ok (.aload_n 0, 1) := by decide +kernel
theorem dX4_work_1 : decode cX4_work 1 = .ok (.invokevirtual 37, 3) := by decide +kernel
theorem dX4_work_4 : decode cX4_work 4 = .ok (.aload_n 0, 1) := by decide +kernel
theorem dX4_work_5 : decode cX4_work 5 = .ok (.iconst 0, 1) := by decide +kernel
theorem dX4_work_6 : decode cX4_work 6 = .ok (.putfield 40, 3) := by decide +kernel
theorem dX4_work_9 : decode cX4_work 9 = .ok (.aload_n 0, 1) := by decide +kernel
theorem dX4_work_10 : decode cX4_work 10 = .ok (.iconst 0, 1) := by decide +kernel
theorem dX4_work_11 : decode cX4_work 11 = .ok (.putfield 44, 3) := by decide +kernel
theorem dX4_work_14 : decode cX4_work 14 = .ok (.aload_n 1, 1) := by decide +kernel
theorem dX4_work_15 : decode cX4_work 15 = .ok (.invokevirtual 47, 3) := by decide +kernel
theorem dX4_work_18 : decode cX4_work 18 = .ok (.iconst 1, 1) := by decide +kernel
theorem dX4_work_19 : decode cX4_work 19 = .ok (.isub, 1) := by decide +kernel
theorem dX4_work_20 : decode cX4_work 20 = .ok (.istore_n 2, 1) := by decide +kernel
theorem dX4_work_21 : decode cX4_work 21 = .ok (.iload_n 2, 1) := by decide +kernel
theorem dX4_work_22 : decode cX4_work 22 = .ok (.ifCond .lt 35, 3) := by decide +kernel
theorem dX4_work_25 : decode cX4_work 25 = .ok (.aload_n 1, 1) := by decide +kernel
theorem dX4_work_26 : decode cX4_work 26 = .ok (.iload_n 2, 1) := by decide +kernel
theorem dX4_work_27 : decode cX4_work 27 = .ok (.invokevirtual 53, 3) := by decide +kernel
theorem dX4_work_30 : decode cX4_work 30 = .ok (.istore_n 3, 1) := by decide +kernel
theorem dX4_work_31 : decode cX4_work 31 = .ok (.iload_n 3, 1) := by decide +kernel
theorem dX4_work_32 : decode cX4_work 32 = .ok (.iconst 4, 1) := by decide +kernel
theorem dX4_work_33 : decode cX4_work 33 = .ok (.if_icmp .ge 11, 3) := by decide +kernel
theorem dX4_work_36 : decode cX4_work 36 = .ok (.aload_n 0, 1) := by decide +kernel
theorem dX4_work_37 : decode cX4_work 37 = .ok (.iload_n 3, 1) := by decide +kernel
theorem dX4_work_38 : decode cX4_work 38 = .ok (.invokevirtual 57, 3) := by decide +kernel
theorem dX4_work_41 : decode cX4_work 41 = .ok (.goto 10, 3) := by decide +kernel
theorem dX4_work_44 : decode cX4_work 44 = .ok (.aload_n 0, 1) := by decide +kernel
theorem dX4_work_45 : decode cX4_work 45 = .ok (.iload_n 3, 1) := by decide +kernel
theorem dX4_work_46 : decode cX4_work 46 = .ok (.iconst 4, 1) := by decide +kernel
theorem dX4_work_47 : decode cX4_work 47 = .ok (.isub, 1) := by decide +kernel
theorem dX4_work_48 : decode cX4_work 48 = .ok (.invokevirtual 61, 3) := by decide +kernel
theorem dX4_work_51 : decode cX4_work 51 = .ok (.iinc 2 (-1), 3) := by decide +kernel
theorem dX4_work_54 : decode cX4_work 54 = .ok (.goto (-33), 3) := by decide +kernel
theorem dX4_work_57 : decode cX4_work 57 = .ok (.aload_n 0, 1) := by decide +kernel
theorem dX4_work_58 : decode cX4_work 58 = .ok (.aload_n 1, 1) := by decide +kernel
theorem dX4_work_59 : decode cX4_work 59 = .ok (.getfield 64, 3) := by decide +kernel
theorem dX4_work_62 : decode cX4_work 62 = .ok (.putfield 67, 3) := by decide +kernel
theorem dX4_work_65 : decode cX4_work 65 = .ok (.aload_n 0, 1) := by decide +kernel
theorem dX4_work_66 : decode cX4_work 66 = .ok (.aload_n 0, 1) := by decide +kernel
theorem dX4_work_67 : decode cX4_work 67 = .ok (.getfield 18, 3) := by decide +kernel
theorem dX4_work_70 : decode cX4_work 70 = .ok (.iconst 1, 1) := by decide +kernel
theorem dX4_work_71 : decode cX4_work 71 = .ok (.iaload, 1) := by decide +kernel
theorem dX4_work_72 : decode cX4_work 72 = .ok (.putfield 70, 3) := by decide +kernel
theorem dX4_work_75 : decode cX4_work 75 = .ok (.aload_n 0, 1) := by decide +kernel
theorem dX4_work_76 : decode cX4_work 76 = .ok (.getfield 33, 3) := by decide +kernel
theorem dX4_work_79 : decode cX4_work 79 = .ok (.aload_n 1, 1) := by decide +kernel
theorem dX4_work_80 : decode cX4_work 80 = .ok (.getfield 64, 3) := by decide +kernel
theorem dX4_work_83 : decode cX4_work 83 = .ok (.aload_n 1, 1) := by decide +kernel
theorem dX4_work_84 : decode cX4_work 84 = .ok (.getfield 73, 3) := by decide +kernel
theorem dX4_work_87 : decode cX4_work 87 = .ok (.invokevirtual 77, 3) := by decide +kernel
theorem dX4_work_90 : decode cX4_work 90 = .ok (.istore_n 2, 1) := by decide +kernel
theorem dX4_work_91 : decode cX4_work 91 = .ok (.iload_n 2, 1) := by decide +kernel
theorem dX4_work_92 : decode cX4_work 92 = .ok (.ifCond .le 41, 3) := by decide +kernel
theorem dX4_work_95 : decode cX4_work 95 = .ok (.aload_n 0, 1) := by decide +kernel
theorem dX4_work_96 : decode cX4_work 96 = .ok (.iconst 0, 1) := by decide +kernel
theorem dX4_work_97 : decode cX4_work 97 = .ok (.aload_n 0, 1) := by decide +kernel
theorem dX4_work_98 : decode cX4_work 98 = .ok (.getfield 70, 3) := by decide +kernel
theorem dX4_work_101 : decode cX4_work 101 = .ok (.aload_n 0, 1) := by decide +kernel
theorem dX4_work_102 : decode cX4_work 102 = .ok (.getfield 33, 3) := by decide +kernel
theorem dX4_work_105 : decode cX4_work 105 = .ok (.getfield 83, 3) := by decide +kernel
theorem dX4_work_108 : decode cX4_work 108 = .ok (.aload_n 0, 1) := by decide +kernel
theorem dX4_work_109 : decode cX4_work 109 = .ok (.getfield 33, 3) := by decide +kernel
theorem dX4_work_112 : decode cX4_work 112 = .ok (.getfield 86, 3) := by decide +kernel
theorem dX4_work_115 : decode cX4_work 115 = .ok (.invokevirtual 89, 3) := by decide +kernel
theorem dX4_work_118 : decode cX4_work 118 = .ok (.aload_n 0, 1) := by decide +kernel
theorem dX4_work_119 : decode cX4_work 119 = .ok (.dup, 1) := by decide +kernel
theorem dX4_work_120 : decode cX4_work 120 = .ok (.getfield 40, 3) := by decide +kernel
theorem dX4_work_123 : decode cX4_work 123 = .ok (.iload_n 2, 1) := by decide +kernel
theorem dX4_work_124 : decode cX4_work 124 = .ok (.aload_n 0, 1) := by decide +kernel
theorem dX4_work_125 : decode cX4_work 125 = .ok (.getfield 70, 3) := by decide +kernel
theorem dX4_work_128 : decode cX4_work 128 = .ok (.imul, 1) := by decide +kernel
theorem dX4_work_129 : decode cX4_work 129 = .ok (.iadd, 1) := by decide +kernel
theorem dX4_work_130 : decode cX4_work 130 = .ok (.putfield 40, 3) := by decide +kernel
theorem dX4_work_133 : decode cX4_work 133 = .ok (.aload_n 0, 1) := by decide +kernel
theorem dX4_work_134 : decode cX4_work 134 = .ok (.getfield 70, 3) := by decide +kernel
theorem dX4_work_137 : decode cX4_work 137 = .ok (.ireturn, 1) := by decide +kernel
set_option maxRecDepth 20000 in
theorem ggX4_rowOf_X3_rowIn : GoodIn wsX4_rowOf wsX3_rowIn := goodIn_r _ [7] (by decide +kernel) (by decide +kernel)
set_option maxRecDepth 20000 in
theorem gX4_rowOf_X3_rowIn : GoodIn wsX4_rowOf (va_wsS RX4 93 yX3_rowIn wsX3_rowIn) := goodIn_app (goodIn_of _ (by decide +kernel)) ggX4_rowOf_X3_rowIn
theorem dX4_rowOf_0 : decode cX4_rowOf 0 = .ok (.iload_n 1, 1) := by decide +kernel
theorem dX4_rowOf_1 : decode cX4_rowOf 1 = .ok (.ifCond .lt 29, 3) := by decide +kernel
theorem dX4_rowOf_4 : decode cX4_rowOf 4 = .ok (.iload_n 1, 1) := by decide +kernel
theorem dX4_rowOf_5 : decode cX4_rowOf 5 = .ok (.aload_n 0, 1) := by decide +kernel
theorem dX4_rowOf_6 : decode cX4_rowOf 6 = .ok (.getfield 70, 3) := by decide +kernel
theorem dX4_rowOf_9 : decode cX4_rowOf 9 = .ok (.if_icmp .ge 21, 3) := by decide +kernel
theorem dX4_rowOf_12 : decode cX4_rowOf 12 = .ok (.iload_n 1, 1) := by decide +kernel
theorem dX4_rowOf_13 : decode cX4_rowOf 13 = .ok (.aload_n 0, 1) := by decide +kernel
theorem dX4_rowOf_14 : decode cX4_rowOf 14 = .ok (.getfield 9, 3) := by decide +kernel
theorem dX4_rowOf_17 : decode cX4_rowOf 17 = .ok (.arraylength, 1) := by decide +kernel
theorem dX4_rowOf_18 : decode cX4_rowOf 18 = .ok (.if_icmp .ge 12, 3) := by decide +kernel
theorem dX4_rowOf_21 : decode cX4_rowOf 21 = .ok (.iload_n 2, 1) := by decide +kernel
theorem dX4_rowOf_22 : decode cX4_rowOf 22 = .ok (.ifCond .lt 8, 3) := by decide +kernel
theorem dX4_rowOf_25 : decode cX4_rowOf 25 = .ok (.iload_n 2, 1) := by decide +kernel
theorem dX4_rowOf_26 : decode cX4_rowOf 26 = .ok (.iconst 4, 1) := by decide +kernel
theorem dX4_rowOf_27 : decode cX4_rowOf 27 = .ok (.if_icmp .lt 5, 3) := by decide +kernel
theorem dX4_rowOf_30 : decode cX4_rowOf 30 = .ok (.iconst (-1), 1) := by decide +kernel
theorem dX4_rowOf_31 : decode cX4_rowOf 31 = .ok (.ireturn, 1) := by decide +kernel
theorem dX4_rowOf_32 : decode cX4_rowOf 32 = .ok (.aload_n 0, 1) := by decide +kernel
theorem dX4_rowOf_33 : decode cX4_rowOf 33 = .ok (.getfield 67, 3) := by decide +kernel
theorem dX4_rowOf_36 : decode cX4_rowOf 36 = .ok (.iload_n 2, 1) := by decide +kernel
theorem dX4_rowOf_37 : decode cX4_rowOf 37 = .ok (.ishr, 1) := by decide +kernel
theorem dX4_rowOf_38 : decode cX4_rowOf 38 = .ok (.iconst 1, 1) := by decide +kernel
theorem dX4_rowOf_39 : decode cX4_rowOf 39 = .ok (.iand, 1) := by decide +kernel
theorem dX4_rowOf_40 : decode cX4_rowOf 40 = .ok (.ifCond .ne 7, 3) := by decide +kernel
theorem dX4_rowOf_43 : decode cX4_rowOf 43 = .ok (.iconst (-1), 1) := by decide +kernel
theorem dX4_rowOf_44 : decode cX4_rowOf 44 = .ok (.goto 13, 3) := by decide +kernel
theorem dX4_rowOf_47 : decode cX4_rowOf 47 = .ok (.aload_n 0, 1) := by decide +kernel
theorem dX4_rowOf_48 : decode cX4_rowOf 48 = .ok (.getfield 9, 3) := by decide +kernel
theorem dX4_rowOf_51 : decode cX4_rowOf 51 = .ok (.iload_n 1, 1) := by decide +kernel
theorem dX4_rowOf_52 : decode cX4_rowOf 52 = .ok (.iaload, 1) := by decide +kernel
theorem dX4_rowOf_53 : decode cX4_rowOf 53 = .ok (.iload_n 2, 1) := by decide +kernel
theorem dX4_rowOf_54 : decode cX4_rowOf 54 = .ok (.invokestatic 93, 3) := by decide +kernel
theorem dX4_rowOf_57 : decode cX4_rowOf 57 = .ok (.ireturn, 1) := by decide +kernel
set_option maxRecDepth 20000 in
theorem ggX4_makeRoom_X3_rowsOf : GoodIn wsX4_makeRoom wsX3_rowsOf := goodIn_r _ [14, 15, 16, 17, 18, 13, 19, 20, 34, 35, 36, 37, 38, 39, 40, 41, 42, 43, 44, 45, 46] (by decide +kernel) (by decide +kernel)
set_option maxRecDepth 20000 in
theorem gX4_makeRoom_X3_rowsOf : GoodIn wsX4_makeRoom (wsV RX4 100 RX3 yX3_rowsOf wsX3_rowsOf) := goodIn_app (goodIn_of _ (by decide +kernel)) ggX4_makeRoom_X3_rowsOf
theorem dX4_makeRoom_0 : decode cX4_makeRoom 0 = .ok (.iconst 1, 1) := by decide +kernel
theorem dX4_makeRoom_1 : decode cX4_makeRoom 1 = .ok (.istore_n 1, 1) := by decide +kernel
theorem dX4_makeRoom_2 : decode cX4_makeRoom 2 = .ok (.iconst 0, 1) := by decide +kernel
theorem dX4_makeRoom_3 : decode cX4_makeRoom 3 = .ok (.istore_n 2, 1) := by decide +kernel
theorem dX4_makeRoom_4 : decode cX4_makeRoom 4 = .ok (.iload_n 2, 1) := by decide +kernel
theorem dX4_makeRoom_5 : decode cX4_makeRoom 5 = .ok (.aload_n 0, 1) := by decide +kernel
theorem dX4_makeRoom_6 : decode cX4_makeRoom 6 = .ok (.getfield 33, 3) := by decide +kernel
theorem dX4_makeRoom_9 : decode cX4_makeRoom 9 = .ok (.getfield 97, 3) := by decide +kernel
theorem dX4_makeRoom_12 : decode cX4_makeRoom 12 = .ok (.if_icmp .ge 24, 3) := by decide +kernel
theorem dX4_makeRoom_15 : decode cX4_makeRoom 15 = .ok (.iload_n 1, 1) := by decide +kernel
theorem dX4_makeRoom_16 : decode cX4_makeRoom 16 = .ok (.iconst 1, 1) := by decide +kernel
theorem dX4_makeRoom_17 : decode cX4_makeRoom 17 = .ok (.aload_n 0, 1) := by decide +kernel
theorem dX4_makeRoom_18 : decode cX4_makeRoom 18 = .ok (.getfield 33, 3) := by decide +kernel
theorem dX4_makeRoom_21 : decode cX4_makeRoom 21 = .ok (.iload_n 2, 1) := by decide +kernel
theorem dX4_makeRoom_22 : decode cX4_makeRoom 22 = .ok (.invokevirtual 100, 3) := by decide +kernel
theorem dX4_makeRoom_25 : decode cX4_makeRoom 25 = .ok (.invokestatic 103, 3) := by decide +kernel
theorem dX4_makeRoom_28 : decode cX4_makeRoom 28 = .ok (.imul, 1) := by decide +kernel
theorem dX4_makeRoom_29 : decode cX4_makeRoom 29 = .ok (.istore_n 1, 1) := by decide +kernel
theorem dX4_makeRoom_30 : decode cX4_makeRoom 30 = .ok (.iinc 2 1, 3) := by decide +kernel
theorem dX4_makeRoom_33 : decode cX4_makeRoom 33 = .ok (.goto (-29), 3) := by decide +kernel
theorem dX4_makeRoom_36 : decode cX4_makeRoom 36 = .ok (.aload_n 0, 1) := by decide +kernel
theorem dX4_makeRoom_37 : decode cX4_makeRoom 37 = .ok (.getfield 15, 3) := by decide +kernel
theorem dX4_makeRoom_40 : decode cX4_makeRoom 40 = .ok (.arraylength, 1) := by decide +kernel
theorem dX4_makeRoom_41 : decode cX4_makeRoom 41 = .ok (.iload_n 1, 1) := by decide +kernel
theorem dX4_makeRoom_42 : decode cX4_makeRoom 42 = .ok (.if_icmp .ge 19, 3) := by decide +kernel
theorem dX4_makeRoom_45 : decode cX4_makeRoom 45 = .ok (.aload_n 0, 1) := by decide +kernel
theorem dX4_makeRoom_46 : decode cX4_makeRoom 46 = .ok (.iload_n 1, 1) := by decide +kernel
theorem dX4_makeRoom_47 : decode cX4_makeRoom 47 = .ok (.iconst 4, 1) := by decide +kernel
theorem dX4_makeRoom_48 : decode cX4_makeRoom 48 = .ok (.iadd, 1) := by decide +kernel
theorem dX4_makeRoom_49 : decode cX4_makeRoom 49 = .ok (.newarray .int, 2) := by decide +kernel
theorem dX4_makeRoom_51 : decode cX4_makeRoom 51 = .ok (.putfield 9, 3) := by decide +kernel
theorem dX4_makeRoom_54 : decode cX4_makeRoom 54 = .ok (.aload_n 0, 1) := by decide +kernel
theorem dX4_makeRoom_55 : decode cX4_makeRoom 55 = .ok (.iload_n 1, 1) := by decide +kernel
theorem dX4_makeRoom_56 : decode cX4_makeRoom 56 = .ok (.newarray .int, 2) := by decide +kernel
theorem dX4_makeRoom_58 : decode cX4_makeRoom 58 = .ok (.putfield 15, 3) := by decide +kernel
theorem dX4_makeRoom_61 : decode cX4_makeRoom 61 = .ok (.return_, 1) := by decide +kernel
set_option maxRecDepth 20000 in
theorem ggX4_pushRows_X3_rowsOf : GoodIn wsX4_pushRows wsX3_rowsOf := goodIn_r _ [15, 16, 17, 18, 19, 14, 20, 21, 38, 39, 40, 41, 42, 43, 44, 45, 46, 47, 48, 49, 50] (by decide +kernel) (by decide +kernel)
set_option maxRecDepth 20000 in
theorem gX4_pushRows_X3_rowsOf : GoodIn wsX4_pushRows (wsV RX4 100 RX3 yX3_rowsOf wsX3_rowsOf) := goodIn_app (goodIn_of _ (by decide +kernel)) ggX4_pushRows_X3_rowsOf
set_option maxRecDepth 20000 in
theorem ggX4_pushRows_X3_asPart : GoodIn wsX4_pushRows wsX3_asPart := goodIn_r _ [24] (by decide +kernel) (by decide +kernel)
set_option maxRecDepth 20000 in
theorem gX4_pushRows_X3_asPart : GoodIn wsX4_pushRows (va_wsS RX4 111 yX3_asPart wsX3_asPart) := goodIn_app (goodIn_of _ (by decide +kernel)) ggX4_pushRows_X3_asPart
theorem dX4_pushRows_0 : decode cX4_pushRows 0 = .ok (.aload_n 0, 1) := by decide +kernel
theorem dX4_pushRows_1 : decode cX4_pushRows 1 = .ok (.getfield 33, 3) := by decide +kernel
theorem dX4_pushRows_4 : decode cX4_pushRows 4 = .ok (.iload_n 1, 1) := by decide +kernel
theorem dX4_pushRows_5 : decode cX4_pushRows 5 = .ok (.invokevirtual 100, 3) := by decide +kernel
theorem dX4_pushRows_8 : decode cX4_pushRows 8 = .ok (.istore_n 2, 1) := by decide +kernel
theorem dX4_pushRows_9 : decode cX4_pushRows 9 = .ok (.aload_n 0, 1) := by decide +kernel
theorem dX4_pushRows_10 : decode cX4_pushRows 10 = .ok (.getfield 18, 3) := by decide +kernel
theorem dX4_pushRows_13 : decode cX4_pushRows 13 = .ok (.aload_n 0, 1) := by decide +kernel
theorem dX4_pushRows_14 : decode cX4_pushRows 14 = .ok (.getfield 44, 3) := by decide +kernel
theorem dX4_pushRows_17 : decode cX4_pushRows 17 = .ok (.iconst 4, 1) := by decide +kernel
theorem dX4_pushRows_18 : decode cX4_pushRows 18 = .ok (.invokestatic 108, 3) := by decide +kernel
theorem dX4_pushRows_21 : decode cX4_pushRows 21 = .ok (.iaload, 1) := by decide +kernel
theorem dX4_pushRows_22 : decode cX4_pushRows 22 = .ok (.istore_n 3, 1) := by decide +kernel
theorem dX4_pushRows_23 : decode cX4_pushRows 23 = .ok (.aload_n 0, 1) := by decide +kernel
theorem dX4_pushRows_24 : decode cX4_pushRows 24 = .ok (.getfield 44, 3) := by decide +kernel
theorem dX4_pushRows_27 : decode cX4_pushRows 27 = .ok (.iconst 4, 1) := by decide +kernel
theorem dX4_pushRows_28 : decode cX4_pushRows 28 = .ok (.if_icmp .ge 14, 3) := by decide +kernel
theorem dX4_pushRows_31 : decode cX4_pushRows 31 = .ok (.iload_n 3, 1) := by decide +kernel
theorem dX4_pushRows_32 : decode cX4_pushRows 32 = .ok (.iload_n 2, 1) := by decide +kernel
theorem dX4_pushRows_33 : decode cX4_pushRows 33 = .ok (.iadd, 1) := by decide +kernel
theorem dX4_pushRows_34 : decode cX4_pushRows 34 = .ok (.aload_n 0, 1) := by decide +kernel
theorem dX4_pushRows_35 : decode cX4_pushRows 35 = .ok (.getfield 9, 3) := by decide +kernel
theorem dX4_pushRows_38 : decode cX4_pushRows 38 = .ok (.arraylength, 1) := by decide +kernel
theorem dX4_pushRows_39 : decode cX4_pushRows 39 = .ok (.if_icmp .le 4, 3) := by decide +kernel
theorem dX4_pushRows_42 : decode cX4_pushRows 42 = .ok (.return_, 1) := by decide +kernel
theorem dX4_pushRows_43 : decode cX4_pushRows 43 = .ok (.iconst 0, 1) := by decide +kernel
theorem dX4_pushRows_44 : decode cX4_pushRows 44 = .ok (.istore 4, 2) := by decide +kernel
theorem dX4_pushRows_46 : decode cX4_pushRows 46 = .ok (.iload 4, 2) := by decide +kernel
theorem dX4_pushRows_48 : decode cX4_pushRows 48 = .ok (.iload_n 2, 1) := by decide +kernel
theorem dX4_pushRows_49 : decode cX4_pushRows 49 = .ok (.if_icmp .ge 24, 3) := by decide +kernel
theorem dX4_pushRows_52 : decode cX4_pushRows 52 = .ok (.aload_n 0, 1) := by decide +kernel
theorem dX4_pushRows_53 : decode cX4_pushRows 53 = .ok (.getfield 9, 3) := by decide +kernel
theorem dX4_pushRows_56 : decode cX4_pushRows 56 = .ok (.iload_n 3, 1) := by decide +kernel
theorem dX4_pushRows_57 : decode cX4_pushRows 57 = .ok (.iload 4, 2) := by decide +kernel
theorem dX4_pushRows_59 : decode cX4_pushRows 59 = .ok (.iadd, 1) := by decide +kernel
theorem dX4_pushRows_60 : decode cX4_pushRows 60 = .ok (.iload 4, 2) := by decide +kernel
theorem dX4_pushRows_62 : decode cX4_pushRows 62 = .ok (.iload_n 1, 1) := by decide +kernel
theorem dX4_pushRows_63 : decode cX4_pushRows 63 = .ok (.invokestatic 111, 3) := by decide +kernel
theorem dX4_pushRows_66 : decode cX4_pushRows 66 = .ok (.iastore, 1) := by decide +kernel
theorem dX4_pushRows_67 : decode cX4_pushRows 67 = .ok (.iinc 4 1, 3) := by decide +kernel
theorem dX4_pushRows_70 : decode cX4_pushRows 70 = .ok (.goto (-24), 3) := by decide +kernel
theorem dX4_pushRows_73 : decode cX4_pushRows 73 = .ok (.aload_n 0, 1) := by decide +kernel
theorem dX4_pushRows_74 : decode cX4_pushRows 74 = .ok (.getfield 21, 3) := by decide +kernel
theorem dX4_pushRows_77 : decode cX4_pushRows 77 = .ok (.aload_n 0, 1) := by decide +kernel
theorem dX4_pushRows_78 : decode cX4_pushRows 78 = .ok (.getfield 44, 3) := by decide +kernel
theorem dX4_pushRows_81 : decode cX4_pushRows 81 = .ok (.iconst 1, 1) := by decide +kernel
theorem dX4_pushRows_82 : decode cX4_pushRows 82 = .ok (.iload_n 1, 1) := by decide +kernel
theorem dX4_pushRows_83 : decode cX4_pushRows 83 = .ok (.ishl, 1) := by decide +kernel
theorem dX4_pushRows_84 : decode cX4_pushRows 84 = .ok (.iastore, 1) := by decide +kernel
theorem dX4_pushRows_85 : decode cX4_pushRows 85 = .ok (.aload_n 0, 1) := by decide +kernel
theorem dX4_pushRows_86 : decode cX4_pushRows 86 = .ok (.dup, 1) := by decide +kernel
theorem dX4_pushRows_87 : decode cX4_pushRows 87 = .ok (.getfield 44, 3) := by decide +kernel
theorem dX4_pushRows_90 : decode cX4_pushRows 90 = .ok (.iconst 1, 1) := by decide +kernel
theorem dX4_pushRows_91 : decode cX4_pushRows 91 = .ok (.iadd, 1) := by decide +kernel
theorem dX4_pushRows_92 : decode cX4_pushRows 92 = .ok (.putfield 44, 3) := by decide +kernel
theorem dX4_pushRows_95 : decode cX4_pushRows 95 = .ok (.aload_n 0, 1) := by decide +kernel
theorem dX4_pushRows_96 : decode cX4_pushRows 96 = .ok (.getfield 18, 3) := by decide +kernel
theorem dX4_pushRows_99 : decode cX4_pushRows 99 = .ok (.aload_n 0, 1) := by decide +kernel
theorem dX4_pushRows_100 : decode cX4_pushRows 100 = .ok (.getfield 44, 3) := by decide +kernel
theorem dX4_pushRows_103 : decode cX4_pushRows 103 = .ok (.iload_n 3, 1) := by decide +kernel
theorem dX4_pushRows_104 : decode cX4_pushRows 104 = .ok (.iload_n 2, 1) := by decide +kernel
theorem dX4_pushRows_105 : decode cX4_pushRows 105 = .ok (.iadd, 1) := by decide +kernel
theorem dX4_pushRows_106 : decode cX4_pushRows 106 = .ok (.iastore, 1) := by decide +kernel
theorem dX4_pushRows_107 : decode cX4_pushRows 107 = .ok (.aload_n 0, 1) := by decide +kernel
theorem dX4_pushRows_108 : decode cX4_pushRows 108 = .ok (.dup, 1) := by decide +kernel
theorem dX4_pushRows_109 : decode cX4_pushRows 109 = .ok (.getfield 40, 3) := by decide +kernel
theorem dX4_pushRows_112 : decode cX4_pushRows 112 = .ok (.iload_n 2, 1) := by decide +kernel
theorem dX4_pushRows_113 : decode cX4_pushRows 113 = .ok (.iadd, 1) := by decide +kernel
theorem dX4_pushRows_114 : decode cX4_pushRows 114 = .ok (.putfield 40, 3) := by decide +kernel
theorem dX4_pushRows_117 : decode cX4_pushRows 117 = .ok (.return_, 1) := by decide +kernel
set_option maxRecDepth 20000 in
theorem ggX4_joinTopTwo_X4_findBetween : GoodIn wsX4_joinTopTwo wsX4_findBetween := goodIn_r _ [17, 18, 6, 5, 19, 20, 21, 22, 23, 24, 98, 99, 100, 101, 102, 103, 104, 105, 106, 107, 108, 109, 110, 111, 112, 113, 114, 115, 116, 117, 118, 119, 120, 121, 122, 123] (by decide +kernel) (by decide +kernel)
set_option maxRecDepth 20000 in
theorem gX4_joinTopTwo_X4_findBetween : GoodIn wsX4_joinTopTwo (wsV RX4 114 RX4 yX4_findBetween wsX4_findBetween) := goodIn_app (goodIn_of _ (by decide +kernel)) ggX4_joinTopTwo_X4_findBetween
set_option maxRecDepth 20000 in
theorem ggX4_joinTopTwo_X4_joinSteps : GoodIn wsX4_joinTopTwo wsX4_joinSteps := goodIn_r _ [27] (by decide +kernel) (by decide +kernel)
set_option maxRecDepth 20000 in
theorem gX4_joinTopTwo_X4_joinSteps : GoodIn wsX4_joinTopTwo (va_wsS RX4 118 yX4_joinSteps wsX4_joinSteps) := goodIn_app (goodIn_of _ (by decide +kernel)) ggX4_joinTopTwo_X4_joinSteps
set_option maxRecDepth 20000 in
theorem ggX4_joinTopTwo_X3_tableOn : GoodIn wsX4_joinTopTwo wsX3_tableOn := goodIn_r _ [31, 32, 33, 34, 35, 36, 22, 37, 38, 111, 112, 113, 114, 115, 116, 117, 118, 119, 120, 121, 122, 123] (by decide +kernel) (by decide +kernel)
set_option maxRecDepth 20000 in
theorem gX4_joinTopTwo_X3_tableOn : GoodIn wsX4_joinTopTwo (wsV RX4 122 RX3 yX3_tableOn wsX3_tableOn) := goodIn_app (goodIn_of _ (by decide +kernel)) ggX4_joinTopTwo_X3_tableOn
set_option maxRecDepth 20000 in
theorem ggX4_joinTopTwo_X3_columnOn : GoodIn wsX4_joinTopTwo wsX3_columnOn := goodIn_r _ [42, 32, 43, 44, 34, 35, 36, 22, 37, 38, 111, 112, 113, 114, 115, 116, 117, 118, 119, 120, 121, 122, 123] (by decide +kernel) (by decide +kernel)
set_option maxRecDepth 20000 in
theorem gX4_joinTopTwo_X3_columnOn : GoodIn wsX4_joinTopTwo (wsV RX4 125 RX3 yX3_columnOn wsX3_columnOn) := goodIn_app (goodIn_of _ (by decide +kernel)) ggX4_joinTopTwo_X3_columnOn
set_option maxRecDepth 20000 in
theorem ggX4_joinTopTwo_X4_sort : GoodIn wsX4_joinTopTwo wsX4_sort := goodIn_r _ [48, 6, 8, 7, 49, 50, 51, 52, 53, 54, 9, 10, 11, 12, 55, 56, 57, 22, 58, 59, 60, 61, 62, 63, 64, 65, 66, 16, 67, 68, 69, 70, 71, 72, 73, 74, 75, 76, 77, 78, 79, 80, 81, 82, 83, 98, 99, 100, 101, 102, 103, 104, 105, 106, 107, 108, 109, 110, 111, 112, 113, 114, 115, 116, 117, 118, 119, 120, 121, 122, 123] (by decide +kernel) (by decide +kernel)
set_option maxRecDepth 20000 in
theorem gX4_joinTopTwo_X4_sort : GoodIn wsX4_joinTopTwo (wsV RX4 89 RX4 yX4_sort wsX4_sort) := goodIn_app (goodIn_of _ (by decide +kernel)) ggX4_joinTopTwo_X4_sort
set_option maxRecDepth 20000 in
theorem ggX4_joinTopTwo_X4_combine : GoodIn wsX4_joinTopTwo wsX4_combine := goodIn_r _ [87, 3, 1, 8, 7, 88, 89, 90, 16, 91, 18, 6, 5, 92, 93, 94, 22, 95, 32, 33, 43, 44, 96, 82, 83, 97, 77, 78, 79, 80, 98, 99, 100, 101, 102, 103, 104, 105, 106, 107, 108, 109, 110, 111, 112, 113, 114, 115, 116, 117, 118, 119, 120, 121, 122, 123] (by decide +kernel) (by decide +kernel)
set_option maxRecDepth 20000 in
theorem gX4_joinTopTwo_X4_combine : GoodIn wsX4_joinTopTwo (wsV RX4 128 RX4 yX4_combine wsX4_combine) := goodIn_app (goodIn_of _ (by decide +kernel)) ggX4_joinTopTwo_X4_combine
theorem dX4_joinTopTwo_0 : decode cX4_joinTopTwo 0 = .ok (.aload_n 0, 1) := by decide +kernel
theorem dX4_joinTopTwo_1 : decode cX4_joinTopTwo 1 = .ok (.getfield 44, 3) := by decide +kernel
theorem dX4_joinTopTwo_4 : decode cX4_joinTopTwo 4 = .ok (.iconst 2, 1) := by decide +kernel
theorem dX4_joinTopTwo_5 : decode cX4_joinTopTwo 5 = .ok (.if_icmp .lt 11, 3) := by decide +kernel
theorem dX4_joinTopTwo_8 : decode cX4_joinTopTwo 8 = .ok (.aload_n 0, 1) := by decide +kernel
theorem dX4_joinTopTwo_9 : decode cX4_joinTopTwo 9 = .ok (.getfield 44, 3) := by decide +kernel
theorem dX4_joinTopTwo_12 : decode cX4_joinTopTwo 12 = .ok (.iconst 4, 1) := by decide +kernel
theorem dX4_joinTopTwo_13 : decode cX4_joinTopTwo 13 = .ok (.if_icmp .le 4, 3) := by decide +kernel
theorem dX4_joinTopTwo_16 : decode cX4_joinTopTwo 16 = .ok (.return_, 1) := by decide +kernel
theorem dX4_joinTopTwo_17 : decode cX4_joinTopTwo 17 = .ok (.aload_n 0, 1) := by decide +kernel
theorem dX4_joinTopTwo_18 : decode cX4_joinTopTwo 18 = .ok (.getfield 21, 3) := by decide +kernel
theorem dX4_joinTopTwo_21 : decode cX4_joinTopTwo 21 = .ok (.aload_n 0, 1) := by decide +kernel
theorem dX4_joinTopTwo_22 : decode cX4_joinTopTwo 22 = .ok (.getfield 44, 3) := by decide +kernel
theorem dX4_joinTopTwo_25 : decode cX4_joinTopTwo 25 = .ok (.iconst 1, 1) := by decide +kernel
theorem dX4_joinTopTwo_26 : decode cX4_joinTopTwo 26 = .ok (.isub, 1) := by decide +kernel
theorem dX4_joinTopTwo_27 : decode cX4_joinTopTwo 27 = .ok (.iaload, 1) := by decide +kernel
theorem dX4_joinTopTwo_28 : decode cX4_joinTopTwo 28 = .ok (.istore_n 2, 1) := by decide +kernel
theorem dX4_joinTopTwo_29 : decode cX4_joinTopTwo 29 = .ok (.aload_n 0, 1) := by decide +kernel
theorem dX4_joinTopTwo_30 : decode cX4_joinTopTwo 30 = .ok (.getfield 21, 3) := by decide +kernel
theorem dX4_joinTopTwo_33 : decode cX4_joinTopTwo 33 = .ok (.aload_n 0, 1) := by decide +kernel
theorem dX4_joinTopTwo_34 : decode cX4_joinTopTwo 34 = .ok (.getfield 44, 3) := by decide +kernel
theorem dX4_joinTopTwo_37 : decode cX4_joinTopTwo 37 = .ok (.iconst 2, 1) := by decide +kernel
theorem dX4_joinTopTwo_38 : decode cX4_joinTopTwo 38 = .ok (.isub, 1) := by decide +kernel
theorem dX4_joinTopTwo_39 : decode cX4_joinTopTwo 39 = .ok (.iaload, 1) := by decide +kernel
theorem dX4_joinTopTwo_40 : decode cX4_joinTopTwo 40 = .ok (.istore_n 3, 1) := by decide +kernel
theorem dX4_joinTopTwo_41 : decode cX4_joinTopTwo 41 = .ok (.aload_n 0, 1) := by decide +kernel
theorem dX4_joinTopTwo_42 : decode cX4_joinTopTwo 42 = .ok (.iload_n 2, 1) := by decide +kernel
theorem dX4_joinTopTwo_43 : decode cX4_joinTopTwo 43 = .ok (.iload_n 3, 1) := by decide +kernel
theorem dX4_joinTopTwo_44 : decode cX4_joinTopTwo 44 = .ok (.invokevirtual 114, 3) := by decide +kernel
theorem dX4_joinTopTwo_47 : decode cX4_joinTopTwo 47 = .ok (.aload_n 0, 1) := by decide +kernel
theorem dX4_joinTopTwo_48 : decode cX4_joinTopTwo 48 = .ok (.getfield 18, 3) := by decide +kernel
theorem dX4_joinTopTwo_51 : decode cX4_joinTopTwo 51 = .ok (.aload_n 0, 1) := by decide +kernel
theorem dX4_joinTopTwo_52 : decode cX4_joinTopTwo 52 = .ok (.getfield 44, 3) := by decide +kernel
theorem dX4_joinTopTwo_55 : decode cX4_joinTopTwo 55 = .ok (.iconst 2, 1) := by decide +kernel
theorem dX4_joinTopTwo_56 : decode cX4_joinTopTwo 56 = .ok (.isub, 1) := by decide +kernel
theorem dX4_joinTopTwo_57 : decode cX4_joinTopTwo 57 = .ok (.iaload, 1) := by decide +kernel
theorem dX4_joinTopTwo_58 : decode cX4_joinTopTwo 58 = .ok (.istore 4, 2) := by decide +kernel
theorem dX4_joinTopTwo_60 : decode cX4_joinTopTwo 60 = .ok (.aload_n 0, 1) := by decide +kernel
theorem dX4_joinTopTwo_61 : decode cX4_joinTopTwo 61 = .ok (.getfield 18, 3) := by decide +kernel
theorem dX4_joinTopTwo_64 : decode cX4_joinTopTwo 64 = .ok (.aload_n 0, 1) := by decide +kernel
theorem dX4_joinTopTwo_65 : decode cX4_joinTopTwo 65 = .ok (.getfield 44, 3) := by decide +kernel
theorem dX4_joinTopTwo_68 : decode cX4_joinTopTwo 68 = .ok (.iconst 1, 1) := by decide +kernel
theorem dX4_joinTopTwo_69 : decode cX4_joinTopTwo 69 = .ok (.isub, 1) := by decide +kernel
theorem dX4_joinTopTwo_70 : decode cX4_joinTopTwo 70 = .ok (.iaload, 1) := by decide +kernel
theorem dX4_joinTopTwo_71 : decode cX4_joinTopTwo 71 = .ok (.istore 5, 2) := by decide +kernel
theorem dX4_joinTopTwo_73 : decode cX4_joinTopTwo 73 = .ok (.aload_n 0, 1) := by decide +kernel
theorem dX4_joinTopTwo_74 : decode cX4_joinTopTwo 74 = .ok (.getfield 18, 3) := by decide +kernel
theorem dX4_joinTopTwo_77 : decode cX4_joinTopTwo 77 = .ok (.aload_n 0, 1) := by decide +kernel
theorem dX4_joinTopTwo_78 : decode cX4_joinTopTwo 78 = .ok (.getfield 44, 3) := by decide +kernel
theorem dX4_joinTopTwo_81 : decode cX4_joinTopTwo 81 = .ok (.iaload, 1) := by decide +kernel
theorem dX4_joinTopTwo_82 : decode cX4_joinTopTwo 82 = .ok (.istore 6, 2) := by decide +kernel
theorem dX4_joinTopTwo_84 : decode cX4_joinTopTwo 84 = .ok (.aload_n 0, 1) := by decide +kernel
theorem dX4_joinTopTwo_85 : decode cX4_joinTopTwo 85 = .ok (.dup, 1) := by decide +kernel
theorem dX4_joinTopTwo_86 : decode cX4_joinTopTwo 86 = .ok (.getfield 40, 3) := by decide +kernel
theorem dX4_joinTopTwo_89 : decode cX4_joinTopTwo 89 = .ok (.iload_n 1, 1) := by decide +kernel
theorem dX4_joinTopTwo_90 : decode cX4_joinTopTwo 90 = .ok (.iload 6, 2) := by decide +kernel
theorem dX4_joinTopTwo_92 : decode cX4_joinTopTwo 92 = .ok (.iload 5, 2) := by decide +kernel
theorem dX4_joinTopTwo_94 : decode cX4_joinTopTwo 94 = .ok (.isub, 1) := by decide +kernel
theorem dX4_joinTopTwo_95 : decode cX4_joinTopTwo 95 = .ok (.iload 5, 2) := by decide +kernel
theorem dX4_joinTopTwo_97 : decode cX4_joinTopTwo 97 = .ok (.iload 4, 2) := by decide +kernel
theorem dX4_joinTopTwo_99 : decode cX4_joinTopTwo 99 = .ok (.isub, 1) := by decide +kernel
theorem dX4_joinTopTwo_100 : decode cX4_joinTopTwo 100 = .ok (.invokestatic 118, 3) := by decide +kernel
theorem dX4_joinTopTwo_103 : decode cX4_joinTopTwo 103 = .ok (.iadd, 1) := by decide +kernel
theorem dX4_joinTopTwo_104 : decode cX4_joinTopTwo 104 = .ok (.putfield 40, 3) := by decide +kernel
theorem dX4_joinTopTwo_107 : decode cX4_joinTopTwo 107 = .ok (.iload_n 1, 1) := by decide +kernel
theorem dX4_joinTopTwo_108 : decode cX4_joinTopTwo 108 = .ok (.iconst 2, 1) := by decide +kernel
theorem dX4_joinTopTwo_109 : decode cX4_joinTopTwo 109 = .ok (.if_icmp .ne 39, 3) := by decide +kernel
theorem dX4_joinTopTwo_112 : decode cX4_joinTopTwo 112 = .ok (.aload_n 0, 1) := by decide +kernel
theorem dX4_joinTopTwo_113 : decode cX4_joinTopTwo 113 = .ok (.getfield 30, 3) := by decide +kernel
theorem dX4_joinTopTwo_116 : decode cX4_joinTopTwo 116 = .ok (.iconst 0, 1) := by decide +kernel
theorem dX4_joinTopTwo_117 : decode cX4_joinTopTwo 117 = .ok (.iaload, 1) := by decide +kernel
theorem dX4_joinTopTwo_118 : decode cX4_joinTopTwo 118 = .ok (.istore 7, 2) := by decide +kernel
theorem dX4_joinTopTwo_120 : decode cX4_joinTopTwo 120 = .ok (.aload_n 0, 1) := by decide +kernel
theorem dX4_joinTopTwo_121 : decode cX4_joinTopTwo 121 = .ok (.iload 5, 2) := by decide +kernel
theorem dX4_joinTopTwo_123 : decode cX4_joinTopTwo 123 = .ok (.iload 6, 2) := by decide +kernel
theorem dX4_joinTopTwo_125 : decode cX4_joinTopTwo 125 = .ok (.aload_n 0, 1) := by decide +kernel
theorem dX4_joinTopTwo_126 : decode cX4_joinTopTwo 126 = .ok (.getfield 33, 3) := by decide +kernel
theorem dX4_joinTopTwo_129 : decode cX4_joinTopTwo 129 = .ok (.iload 7, 2) := by decide +kernel
theorem dX4_joinTopTwo_131 : decode cX4_joinTopTwo 131 = .ok (.iload_n 2, 1) := by decide +kernel
theorem dX4_joinTopTwo_132 : decode cX4_joinTopTwo 132 = .ok (.invokevirtual 122, 3) := by decide +kernel
theorem dX4_joinTopTwo_135 : decode cX4_joinTopTwo 135 = .ok (.aload_n 0, 1) := by decide +kernel
theorem dX4_joinTopTwo_136 : decode cX4_joinTopTwo 136 = .ok (.getfield 33, 3) := by decide +kernel
theorem dX4_joinTopTwo_139 : decode cX4_joinTopTwo 139 = .ok (.iload 7, 2) := by decide +kernel
theorem dX4_joinTopTwo_141 : decode cX4_joinTopTwo 141 = .ok (.iload_n 2, 1) := by decide +kernel
theorem dX4_joinTopTwo_142 : decode cX4_joinTopTwo 142 = .ok (.invokevirtual 125, 3) := by decide +kernel
theorem dX4_joinTopTwo_145 : decode cX4_joinTopTwo 145 = .ok (.invokevirtual 89, 3) := by decide +kernel
theorem dX4_joinTopTwo_148 : decode cX4_joinTopTwo 148 = .ok (.aload_n 0, 1) := by decide +kernel
theorem dX4_joinTopTwo_149 : decode cX4_joinTopTwo 149 = .ok (.invokevirtual 128, 3) := by decide +kernel
theorem dX4_joinTopTwo_152 : decode cX4_joinTopTwo 152 = .ok (.istore 7, 2) := by decide +kernel
theorem dX4_joinTopTwo_154 : decode cX4_joinTopTwo 154 = .ok (.aload_n 0, 1) := by decide +kernel
theorem dX4_joinTopTwo_155 : decode cX4_joinTopTwo 155 = .ok (.dup, 1) := by decide +kernel
theorem dX4_joinTopTwo_156 : decode cX4_joinTopTwo 156 = .ok (.getfield 44, 3) := by decide +kernel
theorem dX4_joinTopTwo_159 : decode cX4_joinTopTwo 159 = .ok (.iconst 1, 1) := by decide +kernel
theorem dX4_joinTopTwo_160 : decode cX4_joinTopTwo 160 = .ok (.isub, 1) := by decide +kernel
theorem dX4_joinTopTwo_161 : decode cX4_joinTopTwo 161 = .ok (.putfield 44, 3) := by decide +kernel
theorem dX4_joinTopTwo_164 : decode cX4_joinTopTwo 164 = .ok (.aload_n 0, 1) := by decide +kernel
theorem dX4_joinTopTwo_165 : decode cX4_joinTopTwo 165 = .ok (.getfield 21, 3) := by decide +kernel
theorem dX4_joinTopTwo_168 : decode cX4_joinTopTwo 168 = .ok (.aload_n 0, 1) := by decide +kernel
theorem dX4_joinTopTwo_169 : decode cX4_joinTopTwo 169 = .ok (.getfield 44, 3) := by decide +kernel
theorem dX4_joinTopTwo_172 : decode cX4_joinTopTwo 172 = .ok (.iconst 1, 1) := by decide +kernel
theorem dX4_joinTopTwo_173 : decode cX4_joinTopTwo 173 = .ok (.isub, 1) := by decide +kernel
theorem dX4_joinTopTwo_174 : decode cX4_joinTopTwo 174 = .ok (.iload_n 2, 1) := by decide +kernel
theorem dX4_joinTopTwo_175 : decode cX4_joinTopTwo 175 = .ok (.iload_n 3, 1) := by decide +kernel
theorem dX4_joinTopTwo_176 : decode cX4_joinTopTwo 176 = .ok (.ior, 1) := by decide +kernel
theorem dX4_joinTopTwo_177 : decode cX4_joinTopTwo 177 = .ok (.iastore, 1) := by decide +kernel
theorem dX4_joinTopTwo_178 : decode cX4_joinTopTwo 178 = .ok (.iload 7, 2) := by decide +kernel
theorem dX4_joinTopTwo_180 : decode cX4_joinTopTwo 180 = .ok (.aload_n 0, 1) := by decide +kernel
theorem dX4_joinTopTwo_181 : decode cX4_joinTopTwo 181 = .ok (.getfield 15, 3) := by decide +kernel
theorem dX4_joinTopTwo_184 : decode cX4_joinTopTwo 184 = .ok (.arraylength, 1) := by decide +kernel
theorem dX4_joinTopTwo_185 : decode cX4_joinTopTwo 185 = .ok (.if_icmp .gt 46, 3) := by decide +kernel
theorem dX4_joinTopTwo_188 : decode cX4_joinTopTwo 188 = .ok (.iload 4, 2) := by decide +kernel
theorem dX4_joinTopTwo_190 : decode cX4_joinTopTwo 190 = .ok (.iload 7, 2) := by decide +kernel
theorem dX4_joinTopTwo_192 : decode cX4_joinTopTwo 192 = .ok (.iadd, 1) := by decide +kernel
theorem dX4_joinTopTwo_193 : decode cX4_joinTopTwo 193 = .ok (.aload_n 0, 1) := by decide +kernel
theorem dX4_joinTopTwo_194 : decode cX4_joinTopTwo 194 = .ok (.getfield 9, 3) := by decide +kernel
theorem dX4_joinTopTwo_197 : decode cX4_joinTopTwo 197 = .ok (.arraylength, 1) := by decide +kernel
theorem dX4_joinTopTwo_198 : decode cX4_joinTopTwo 198 = .ok (.if_icmp .gt 33, 3) := by decide +kernel
theorem dX4_joinTopTwo_201 : decode cX4_joinTopTwo 201 = .ok (.aload_n 0, 1) := by decide +kernel
theorem dX4_joinTopTwo_202 : decode cX4_joinTopTwo 202 = .ok (.getfield 15, 3) := by decide +kernel
theorem dX4_joinTopTwo_205 : decode cX4_joinTopTwo 205 = .ok (.iconst 0, 1) := by decide +kernel
theorem dX4_joinTopTwo_206 : decode cX4_joinTopTwo 206 = .ok (.aload_n 0, 1) := by decide +kernel
theorem dX4_joinTopTwo_207 : decode cX4_joinTopTwo 207 = .ok (.getfield 9, 3) := by decide +kernel
theorem dX4_joinTopTwo_210 : decode cX4_joinTopTwo 210 = .ok (.iload 4, 2) := by decide +kernel
theorem dX4_joinTopTwo_212 : decode cX4_joinTopTwo 212 = .ok (.iload 7, 2) := by decide +kernel
theorem dX4_joinTopTwo_214 : decode cX4_joinTopTwo 214 = .ok (.invokestatic 131, 3) := by decide +kernel
theorem dX4_joinTopTwo_217 : decode cX4_joinTopTwo 217 = .ok (.aload_n 0, 1) := by decide +kernel
theorem dX4_joinTopTwo_218 : decode cX4_joinTopTwo 218 = .ok (.getfield 18, 3) := by decide +kernel
theorem dX4_joinTopTwo_221 : decode cX4_joinTopTwo 221 = .ok (.aload_n 0, 1) := by decide +kernel
theorem dX4_joinTopTwo_222 : decode cX4_joinTopTwo 222 = .ok (.getfield 44, 3) := by decide +kernel
theorem dX4_joinTopTwo_225 : decode cX4_joinTopTwo 225 = .ok (.iload 4, 2) := by decide +kernel
theorem dX4_joinTopTwo_227 : decode cX4_joinTopTwo 227 = .ok (.iload 7, 2) := by decide +kernel
theorem dX4_joinTopTwo_229 : decode cX4_joinTopTwo 229 = .ok (.iadd, 1) := by decide +kernel
theorem dX4_joinTopTwo_230 : decode cX4_joinTopTwo 230 = .ok (.iastore, 1) := by decide +kernel
theorem dX4_joinTopTwo_231 : decode cX4_joinTopTwo 231 = .ok (.return_, 1) := by decide +kernel
theorem dX4_joinSteps_0 : decode cX4_joinSteps 0 = .ok (.iload_n 0, 1) := by decide +kernel
theorem dX4_joinSteps_1 : decode cX4_joinSteps 1 = .ok (.ifCond .ne 7, 3) := by decide +kernel
theorem dX4_joinSteps_4 : decode cX4_joinSteps 4 = .ok (.iload_n 1, 1) := by decide +kernel
theorem dX4_joinSteps_5 : decode cX4_joinSteps 5 = .ok (.iload_n 2, 1) := by decide +kernel
theorem dX4_joinSteps_6 : decode cX4_joinSteps 6 = .ok (.imul, 1) := by decide +kernel
theorem dX4_joinSteps_7 : decode cX4_joinSteps 7 = .ok (.ireturn, 1) := by decide +kernel
theorem dX4_joinSteps_8 : decode cX4_joinSteps 8 = .ok (.iload_n 0, 1) := by decide +kernel
theorem dX4_joinSteps_9 : decode cX4_joinSteps 9 = .ok (.iconst 1, 1) := by decide +kernel
theorem dX4_joinSteps_10 : decode cX4_joinSteps 10 = .ok (.if_icmp .ne 7, 3) := by decide +kernel
theorem dX4_joinSteps_13 : decode cX4_joinSteps 13 = .ok (.iconst 2, 1) := by decide +kernel
theorem dX4_joinSteps_14 : decode cX4_joinSteps 14 = .ok (.goto 4, 3) := by decide +kernel
theorem dX4_joinSteps_17 : decode cX4_joinSteps 17 = .ok (.iconst 3, 1) := by decide +kernel
theorem dX4_joinSteps_18 : decode cX4_joinSteps 18 = .ok (.iload_n 1, 1) := by decide +kernel
theorem dX4_joinSteps_19 : decode cX4_joinSteps 19 = .ok (.iload_n 2, 1) := by decide +kernel
theorem dX4_joinSteps_20 : decode cX4_joinSteps 20 = .ok (.iadd, 1) := by decide +kernel
theorem dX4_joinSteps_21 : decode cX4_joinSteps 21 = .ok (.imul, 1) := by decide +kernel
theorem dX4_joinSteps_22 : decode cX4_joinSteps 22 = .ok (.ireturn, 1) := by decide +kernel
set_option maxRecDepth 20000 in
theorem ggX4_combine_X4_isHeldBetween : GoodIn wsX4_combine wsX4_isHeldBetween := goodIn_r _ [9, 10, 11, 12, 13, 14, 15, 16, 17, 18, 19, 20, 21, 22, 23, 24, 25, 26, 27, 28, 29, 30, 31, 32, 33, 34, 35, 36, 37, 38, 39, 40, 41, 42, 43, 44, 45, 46, 47, 48, 49, 50, 51, 52, 53, 54, 55] (by decide +kernel) (by decide +kernel)
set_option maxRecDepth 20000 in
theorem gX4_combine_X4_isHeldBetween : GoodIn wsX4_combine (wsV RX4 137 RX4 yX4_isHeldBetween wsX4_isHeldBetween) := goodIn_app (goodIn_of _ (by decide +kernel)) ggX4_combine_X4_isHeldBetween
theorem dX4_combine_0 : decode cX4_combine 0 = .ok (.iconst 0, 1) := by decide +kernel
theorem dX4_combine_1 : decode cX4_combine 1 = .ok (.istore_n 1, 1) := by decide +kernel
theorem dX4_combine_2 : decode cX4_combine 2 = .ok (.aload_n 0, 1) := by decide +kernel
theorem dX4_combine_3 : decode cX4_combine 3 = .ok (.getfield 18, 3) := by decide +kernel
theorem dX4_combine_6 : decode cX4_combine 6 = .ok (.aload_n 0, 1) := by decide +kernel
theorem dX4_combine_7 : decode cX4_combine 7 = .ok (.getfield 44, 3) := by decide +kernel
theorem dX4_combine_10 : decode cX4_combine 10 = .ok (.iconst 1, 1) := by decide +kernel
theorem dX4_combine_11 : decode cX4_combine 11 = .ok (.isub, 1) := by decide +kernel
theorem dX4_combine_12 : decode cX4_combine 12 = .ok (.iaload, 1) := by decide +kernel
theorem dX4_combine_13 : decode cX4_combine 13 = .ok (.istore_n 2, 1) := by decide +kernel
theorem dX4_combine_14 : decode cX4_combine 14 = .ok (.iload_n 2, 1) := by decide +kernel
theorem dX4_combine_15 : decode cX4_combine 15 = .ok (.aload_n 0, 1) := by decide +kernel
theorem dX4_combine_16 : decode cX4_combine 16 = .ok (.getfield 18, 3) := by decide +kernel
theorem dX4_combine_19 : decode cX4_combine 19 = .ok (.aload_n 0, 1) := by decide +kernel
theorem dX4_combine_20 : decode cX4_combine 20 = .ok (.getfield 44, 3) := by decide +kernel
theorem dX4_combine_23 : decode cX4_combine 23 = .ok (.iaload, 1) := by decide +kernel
theorem dX4_combine_24 : decode cX4_combine 24 = .ok (.if_icmp .ge 86, 3) := by decide +kernel
theorem dX4_combine_27 : decode cX4_combine 27 = .ok (.aload_n 0, 1) := by decide +kernel
theorem dX4_combine_28 : decode cX4_combine 28 = .ok (.getfield 18, 3) := by decide +kernel
theorem dX4_combine_31 : decode cX4_combine 31 = .ok (.aload_n 0, 1) := by decide +kernel
theorem dX4_combine_32 : decode cX4_combine 32 = .ok (.getfield 44, 3) := by decide +kernel
theorem dX4_combine_35 : decode cX4_combine 35 = .ok (.iconst 2, 1) := by decide +kernel
theorem dX4_combine_36 : decode cX4_combine 36 = .ok (.isub, 1) := by decide +kernel
theorem dX4_combine_37 : decode cX4_combine 37 = .ok (.iaload, 1) := by decide +kernel
theorem dX4_combine_38 : decode cX4_combine 38 = .ok (.istore_n 3, 1) := by decide +kernel
theorem dX4_combine_39 : decode cX4_combine 39 = .ok (.iload_n 3, 1) := by decide +kernel
theorem dX4_combine_40 : decode cX4_combine 40 = .ok (.aload_n 0, 1) := by decide +kernel
theorem dX4_combine_41 : decode cX4_combine 41 = .ok (.getfield 18, 3) := by decide +kernel
theorem dX4_combine_44 : decode cX4_combine 44 = .ok (.aload_n 0, 1) := by decide +kernel
theorem dX4_combine_45 : decode cX4_combine 45 = .ok (.getfield 44, 3) := by decide +kernel
theorem dX4_combine_48 : decode cX4_combine 48 = .ok (.iconst 1, 1) := by decide +kernel
theorem dX4_combine_49 : decode cX4_combine 49 = .ok (.isub, 1) := by decide +kernel
theorem dX4_combine_50 : decode cX4_combine 50 = .ok (.iaload, 1) := by decide +kernel
theorem dX4_combine_51 : decode cX4_combine 51 = .ok (.if_icmp .ge 53, 3) := by decide +kernel
theorem dX4_combine_54 : decode cX4_combine 54 = .ok (.aload_n 0, 1) := by decide +kernel
theorem dX4_combine_55 : decode cX4_combine 55 = .ok (.getfield 9, 3) := by decide +kernel
theorem dX4_combine_58 : decode cX4_combine 58 = .ok (.iload_n 2, 1) := by decide +kernel
theorem dX4_combine_59 : decode cX4_combine 59 = .ok (.iaload, 1) := by decide +kernel
theorem dX4_combine_60 : decode cX4_combine 60 = .ok (.aload_n 0, 1) := by decide +kernel
theorem dX4_combine_61 : decode cX4_combine 61 = .ok (.getfield 9, 3) := by decide +kernel
theorem dX4_combine_64 : decode cX4_combine 64 = .ok (.iload_n 3, 1) := by decide +kernel
theorem dX4_combine_65 : decode cX4_combine 65 = .ok (.iaload, 1) := by decide +kernel
theorem dX4_combine_66 : decode cX4_combine 66 = .ok (.ior, 1) := by decide +kernel
theorem dX4_combine_67 : decode cX4_combine 67 = .ok (.istore 4, 2) := by decide +kernel
theorem dX4_combine_69 : decode cX4_combine 69 = .ok (.iload_n 1, 1) := by decide +kernel
theorem dX4_combine_70 : decode cX4_combine 70 = .ok (.aload_n 0, 1) := by decide +kernel
theorem dX4_combine_71 : decode cX4_combine 71 = .ok (.getfield 15, 3) := by decide +kernel
theorem dX4_combine_74 : decode cX4_combine 74 = .ok (.arraylength, 1) := by decide +kernel
theorem dX4_combine_75 : decode cX4_combine 75 = .ok (.if_icmp .ge 23, 3) := by decide +kernel
theorem dX4_combine_78 : decode cX4_combine 78 = .ok (.aload_n 0, 1) := by decide +kernel
theorem dX4_combine_79 : decode cX4_combine 79 = .ok (.iload 4, 2) := by decide +kernel
theorem dX4_combine_81 : decode cX4_combine 81 = .ok (.invokevirtual 137, 3) := by decide +kernel
theorem dX4_combine_84 : decode cX4_combine 84 = .ok (.ifCond .eq 14, 3) := by decide +kernel
theorem dX4_combine_87 : decode cX4_combine 87 = .ok (.aload_n 0, 1) := by decide +kernel
theorem dX4_combine_88 : decode cX4_combine 88 = .ok (.getfield 15, 3) := by decide +kernel
theorem dX4_combine_91 : decode cX4_combine 91 = .ok (.iload_n 1, 1) := by decide +kernel
theorem dX4_combine_92 : decode cX4_combine 92 = .ok (.iload 4, 2) := by decide +kernel
theorem dX4_combine_94 : decode cX4_combine 94 = .ok (.iastore, 1) := by decide +kernel
theorem dX4_combine_95 : decode cX4_combine 95 = .ok (.iinc 1 1, 3) := by decide +kernel
theorem dX4_combine_98 : decode cX4_combine 98 = .ok (.iinc 3 1, 3) := by decide +kernel
theorem dX4_combine_101 : decode cX4_combine 101 = .ok (.goto (-62), 3) := by decide +kernel
theorem dX4_combine_104 : decode cX4_combine 104 = .ok (.iinc 2 1, 3) := by decide +kernel
theorem dX4_combine_107 : decode cX4_combine 107 = .ok (.goto (-93), 3) := by decide +kernel
theorem dX4_combine_110 : decode cX4_combine 110 = .ok (.iload_n 1, 1) := by decide +kernel
theorem dX4_combine_111 : decode cX4_combine 111 = .ok (.ireturn, 1) := by decide +kernel
set_option maxRecDepth 20000 in
theorem ggX4_findBetween_X3_isBetween : GoodIn wsX4_findBetween wsX3_isBetween := goodIn_r _ [8, 9, 23, 24, 25, 26, 27, 28, 29, 30, 31, 32, 33, 34, 35] (by decide +kernel) (by decide +kernel)
set_option maxRecDepth 20000 in
theorem gX4_findBetween_X3_isBetween : GoodIn wsX4_findBetween (wsV RX4 144 RX3 yX3_isBetween wsX3_isBetween) := goodIn_app (goodIn_of _ (by decide +kernel)) ggX4_findBetween_X3_isBetween
theorem dX4_findBetween_0 : decode cX4_findBetween 0 = .ok (.aload_n 0, 1) := by decide +kernel
theorem dX4_findBetween_1 : decode cX4_findBetween 1 = .ok (.iconst 0, 1) := by decide +kernel
theorem dX4_findBetween_2 : decode cX4_findBetween 2 = .ok (.putfield 141, 3) := by decide +kernel
theorem dX4_findBetween_5 : decode cX4_findBetween 5 = .ok (.iconst 0, 1) := by decide +kernel
theorem dX4_findBetween_6 : decode cX4_findBetween 6 = .ok (.istore_n 3, 1) := by decide +kernel
theorem dX4_findBetween_7 : decode cX4_findBetween 7 = .ok (.iload_n 3, 1) := by decide +kernel
theorem dX4_findBetween_8 : decode cX4_findBetween 8 = .ok (.iconst 4, 1) := by decide +kernel
theorem dX4_findBetween_9 : decode cX4_findBetween 9 = .ok (.if_icmp .ge 42, 3) := by decide +kernel
theorem dX4_findBetween_12 : decode cX4_findBetween 12 = .ok (.aload_n 0, 1) := by decide +kernel
theorem dX4_findBetween_13 : decode cX4_findBetween 13 = .ok (.getfield 33, 3) := by decide +kernel
theorem dX4_findBetween_16 : decode cX4_findBetween 16 = .ok (.iload_n 3, 1) := by decide +kernel
theorem dX4_findBetween_17 : decode cX4_findBetween 17 = .ok (.iload_n 1, 1) := by decide +kernel
theorem dX4_findBetween_18 : decode cX4_findBetween 18 = .ok (.iload_n 2, 1) := by decide +kernel
theorem dX4_findBetween_19 : decode cX4_findBetween 19 = .ok (.invokevirtual 144, 3) := by decide +kernel
theorem dX4_findBetween_22 : decode cX4_findBetween 22 = .ok (.ifCond .eq 23, 3) := by decide +kernel
theorem dX4_findBetween_25 : decode cX4_findBetween 25 = .ok (.aload_n 0, 1) := by decide +kernel
theorem dX4_findBetween_26 : decode cX4_findBetween 26 = .ok (.getfield 30, 3) := by decide +kernel
theorem dX4_findBetween_29 : decode cX4_findBetween 29 = .ok (.aload_n 0, 1) := by decide +kernel
theorem dX4_findBetween_30 : decode cX4_findBetween 30 = .ok (.getfield 141, 3) := by decide +kernel
theorem dX4_findBetween_33 : decode cX4_findBetween 33 = .ok (.iload_n 3, 1) := by decide +kernel
theorem dX4_findBetween_34 : decode cX4_findBetween 34 = .ok (.iastore, 1) := by decide +kernel
theorem dX4_findBetween_35 : decode cX4_findBetween 35 = .ok (.aload_n 0, 1) := by decide +kernel
theorem dX4_findBetween_36 : decode cX4_findBetween 36 = .ok (.dup, 1) := by decide +kernel
theorem dX4_findBetween_37 : decode cX4_findBetween 37 = .ok (.getfield 141, 3) := by decide +kernel
theorem dX4_findBetween_40 : decode cX4_findBetween 40 = .ok (.iconst 1, 1) := by decide +kernel
theorem dX4_findBetween_41 : decode cX4_findBetween 41 = .ok (.iadd, 1) := by decide +kernel
theorem dX4_findBetween_42 : decode cX4_findBetween 42 = .ok (.putfield 141, 3) := by decide +kernel
theorem dX4_findBetween_45 : decode cX4_findBetween 45 = .ok (.iinc 3 1, 3) := by decide +kernel
theorem dX4_findBetween_48 : decode cX4_findBetween 48 = .ok (.goto (-41), 3) := by decide +kernel
theorem dX4_findBetween_51 : decode cX4_findBetween 51 = .ok (.return_, 1) := by decide +kernel
set_option maxRecDepth 20000 in
theorem ggX4_isHeldBetween_X3_isHeld : GoodIn wsX4_isHeldBetween wsX3_isHeld := goodIn_r _ [8, 9, 10, 11, 12, 13, 14, 7, 15, 16, 17, 18, 19, 20, 34, 35, 36, 37, 38, 39, 40, 41, 42, 43, 44, 45, 46] (by decide +kernel) (by decide +kernel)
set_option maxRecDepth 20000 in
theorem gX4_isHeldBetween_X3_isHeld : GoodIn wsX4_isHeldBetween (wsV RX4 148 RX3 yX3_isHeld wsX3_isHeld) := goodIn_app (goodIn_of _ (by decide +kernel)) ggX4_isHeldBetween_X3_isHeld
theorem dX4_isHeldBetween_0 : decode cX4_isHeldBetween 0 = .ok (.iconst 0, 1) := by decide +kernel
theorem dX4_isHeldBetween_1 : decode cX4_isHeldBetween 1 = .ok (.istore_n 2, 1) := by decide +kernel
theorem dX4_isHeldBetween_2 : decode cX4_isHeldBetween 2 = .ok (.iload_n 2, 1) := by decide +kernel
theorem dX4_isHeldBetween_3 : decode cX4_isHeldBetween 3 = .ok (.aload_n 0, 1) := by decide +kernel
theorem dX4_isHeldBetween_4 : decode cX4_isHeldBetween 4 = .ok (.getfield 141, 3) := by decide +kernel
theorem dX4_isHeldBetween_7 : decode cX4_isHeldBetween 7 = .ok (.if_icmp .ge 33, 3) := by decide +kernel
theorem dX4_isHeldBetween_10 : decode cX4_isHeldBetween 10 = .ok (.iload_n 2, 1) := by decide +kernel
theorem dX4_isHeldBetween_11 : decode cX4_isHeldBetween 11 = .ok (.iconst 4, 1) := by decide +kernel
theorem dX4_isHeldBetween_12 : decode cX4_isHeldBetween 12 = .ok (.if_icmp .ge 28, 3) := by decide +kernel
theorem dX4_isHeldBetween_15 : decode cX4_isHeldBetween 15 = .ok (.aload_n 0, 1) := by decide +kernel
theorem dX4_isHeldBetween_16 : decode cX4_isHeldBetween 16 = .ok (.getfield 33, 3) := by decide +kernel
theorem dX4_isHeldBetween_19 : decode cX4_isHeldBetween 19 = .ok (.aload_n 0, 1) := by decide +kernel
theorem dX4_isHeldBetween_20 : decode cX4_isHeldBetween 20 = .ok (.getfield 30, 3) := by decide +kernel
theorem dX4_isHeldBetween_23 : decode cX4_isHeldBetween 23 = .ok (.iload_n 2, 1) := by decide +kernel
theorem dX4_isHeldBetween_24 : decode cX4_isHeldBetween 24 = .ok (.iaload, 1) := by decide +kernel
theorem dX4_isHeldBetween_25 : decode cX4_isHeldBetween 25 = .ok (.iload_n 1, 1) := by decide +kernel
theorem dX4_isHeldBetween_26 : decode cX4_isHeldBetween 26 = .ok (.invokevirtual 148, 3) := by decide +kernel
theorem dX4_isHeldBetween_29 : decode cX4_isHeldBetween 29 = .ok (.ifCond .ne 5, 3) := by decide +kernel
theorem dX4_isHeldBetween_32 : decode cX4_isHeldBetween 32 = .ok (.iconst 0, 1) := by decide +kernel
theorem dX4_isHeldBetween_33 : decode cX4_isHeldBetween 33 = .ok (.ireturn, 1) := by decide +kernel
theorem dX4_isHeldBetween_34 : decode cX4_isHeldBetween 34 = .ok (.iinc 2 1, 3) := by decide +kernel
theorem dX4_isHeldBetween_37 : decode cX4_isHeldBetween 37 = .ok (.goto (-35), 3) := by decide +kernel
theorem dX4_isHeldBetween_40 : decode cX4_isHeldBetween 40 = .ok (.iconst 1, 1) := by decide +kernel
theorem dX4_isHeldBetween_41 : decode cX4_isHeldBetween 41 = .ok (.ireturn, 1) := by decide +kernel
set_option maxRecDepth 20000 in
theorem ggX4_sort_X3_isField : GoodIn wsX4_sort wsX3_isField := goodIn_r _ [18, 19, 20, 21, 17, 22, 23, 58, 59, 60, 61, 62, 63, 64, 65, 66, 67, 68, 69, 70] (by decide +kernel) (by decide +kernel)
set_option maxRecDepth 20000 in
theorem gX4_sort_X3_isField : GoodIn wsX4_sort (wsV RX4 152 RX3 yX3_isField wsX3_isField) := goodIn_app (goodIn_of _ (by decide +kernel)) ggX4_sort_X3_isField
set_option maxRecDepth 20000 in
theorem ggX4_sort_X4_findRanks : GoodIn wsX4_sort wsX4_findRanks := goodIn_r _ [28, 1, 5, 29, 30, 8, 31, 32, 33, 34, 17, 35, 36, 19, 20, 21, 22, 23, 37, 38, 39, 40, 41, 45, 46, 47, 48, 49, 50, 51, 52, 53, 54, 55, 56, 57, 58, 59, 60, 61, 62, 63, 64, 65, 66, 67, 68, 69, 70] (by decide +kernel) (by decide +kernel)
set_option maxRecDepth 20000 in
theorem gX4_sort_X4_findRanks : GoodIn wsX4_sort (wsV RX4 155 RX4 yX4_findRanks wsX4_findRanks) := goodIn_app (goodIn_of _ (by decide +kernel)) ggX4_sort_X4_findRanks
set_option maxRecDepth 20000 in
theorem ggX4_sort_X3_rowIn : GoodIn wsX4_sort wsX3_rowIn := goodIn_r _ [44] (by decide +kernel) (by decide +kernel)
set_option maxRecDepth 20000 in
theorem gX4_sort_X3_rowIn : GoodIn wsX4_sort (va_wsS RX4 93 yX3_rowIn wsX3_rowIn) := goodIn_app (goodIn_of _ (by decide +kernel)) ggX4_sort_X3_rowIn
theorem dX4_sort_0 : decode cX4_sort 0 = .ok (.aload_n 0, 1) := by decide +kernel
theorem dX4_sort_1 : decode cX4_sort 1 = .ok (.getfield 33, 3) := by decide +kernel
theorem dX4_sort_4 : decode cX4_sort 4 = .ok (.iload_n 3, 1) := by decide +kernel
theorem dX4_sort_5 : decode cX4_sort 5 = .ok (.iload 4, 2) := by decide +kernel
theorem dX4_sort_7 : decode cX4_sort 7 = .ok (.invokevirtual 152, 3) := by decide +kernel
theorem dX4_sort_10 : decode cX4_sort 10 = .ok (.ifCond .eq 27, 3) := by decide +kernel
theorem dX4_sort_13 : decode cX4_sort 13 = .ok (.iload_n 1, 1) := by decide +kernel
theorem dX4_sort_14 : decode cX4_sort 14 = .ok (.ifCond .lt 23, 3) := by decide +kernel
theorem dX4_sort_17 : decode cX4_sort 17 = .ok (.iload_n 2, 1) := by decide +kernel
theorem dX4_sort_18 : decode cX4_sort 18 = .ok (.aload_n 0, 1) := by decide +kernel
theorem dX4_sort_19 : decode cX4_sort 19 = .ok (.getfield 9, 3) := by decide +kernel
theorem dX4_sort_22 : decode cX4_sort 22 = .ok (.arraylength, 1) := by decide +kernel
theorem dX4_sort_23 : decode cX4_sort 23 = .ok (.if_icmp .gt 14, 3) := by decide +kernel
theorem dX4_sort_26 : decode cX4_sort 26 = .ok (.iload_n 2, 1) := by decide +kernel
theorem dX4_sort_27 : decode cX4_sort 27 = .ok (.iload_n 1, 1) := by decide +kernel
theorem dX4_sort_28 : decode cX4_sort 28 = .ok (.isub, 1) := by decide +kernel
theorem dX4_sort_29 : decode cX4_sort 29 = .ok (.aload_n 0, 1) := by decide +kernel
theorem dX4_sort_30 : decode cX4_sort 30 = .ok (.getfield 15, 3) := by decide +kernel
theorem dX4_sort_33 : decode cX4_sort 33 = .ok (.arraylength, 1) := by decide +kernel
theorem dX4_sort_34 : decode cX4_sort 34 = .ok (.if_icmp .le 4, 3) := by decide +kernel
theorem dX4_sort_37 : decode cX4_sort 37 = .ok (.return_, 1) := by decide +kernel
theorem dX4_sort_38 : decode cX4_sort 38 = .ok (.aload_n 0, 1) := by decide +kernel
theorem dX4_sort_39 : decode cX4_sort 39 = .ok (.iload_n 3, 1) := by decide +kernel
theorem dX4_sort_40 : decode cX4_sort 40 = .ok (.iload 4, 2) := by decide +kernel
theorem dX4_sort_42 : decode cX4_sort 42 = .ok (.invokevirtual 155, 3) := by decide +kernel
theorem dX4_sort_45 : decode cX4_sort 45 = .ok (.iconst 0, 1) := by decide +kernel
theorem dX4_sort_46 : decode cX4_sort 46 = .ok (.istore 5, 2) := by decide +kernel
theorem dX4_sort_48 : decode cX4_sort 48 = .ok (.iload 5, 2) := by decide +kernel
theorem dX4_sort_50 : decode cX4_sort 50 = .ok (.bipush 8, 2) := by decide +kernel
theorem dX4_sort_52 : decode cX4_sort 52 = .ok (.if_icmp .gt 17, 3) := by decide +kernel
theorem dX4_sort_55 : decode cX4_sort 55 = .ok (.aload_n 0, 1) := by decide +kernel
theorem dX4_sort_56 : decode cX4_sort 56 = .ok (.getfield 27, 3) := by decide +kernel
theorem dX4_sort_59 : decode cX4_sort 59 = .ok (.iload 5, 2) := by decide +kernel
theorem dX4_sort_61 : decode cX4_sort 61 = .ok (.iconst 0, 1) := by decide +kernel
theorem dX4_sort_62 : decode cX4_sort 62 = .ok (.iastore, 1) := by decide +kernel
theorem dX4_sort_63 : decode cX4_sort 63 = .ok (.iinc 5 1, 3) := by decide +kernel
theorem dX4_sort_66 : decode cX4_sort 66 = .ok (.goto (-18), 3) := by decide +kernel
theorem dX4_sort_69 : decode cX4_sort 69 = .ok (.iload_n 1, 1) := by decide +kernel
theorem dX4_sort_70 : decode cX4_sort 70 = .ok (.istore 5, 2) := by decide +kernel
theorem dX4_sort_72 : decode cX4_sort 72 = .ok (.iload 5, 2) := by decide +kernel
theorem dX4_sort_74 : decode cX4_sort 74 = .ok (.iload_n 2, 1) := by decide +kernel
theorem dX4_sort_75 : decode cX4_sort 75 = .ok (.if_icmp .ge 36, 3) := by decide +kernel
theorem dX4_sort_78 : decode cX4_sort 78 = .ok (.aload_n 0, 1) := by decide +kernel
theorem dX4_sort_79 : decode cX4_sort 79 = .ok (.getfield 27, 3) := by decide +kernel
theorem dX4_sort_82 : decode cX4_sort 82 = .ok (.aload_n 0, 1) := by decide +kernel
theorem dX4_sort_83 : decode cX4_sort 83 = .ok (.getfield 24, 3) := by decide +kernel
theorem dX4_sort_86 : decode cX4_sort 86 = .ok (.aload_n 0, 1) := by decide +kernel
theorem dX4_sort_87 : decode cX4_sort 87 = .ok (.getfield 9, 3) := by decide +kernel
theorem dX4_sort_90 : decode cX4_sort 90 = .ok (.iload 5, 2) := by decide +kernel
theorem dX4_sort_92 : decode cX4_sort 92 = .ok (.iaload, 1) := by decide +kernel
theorem dX4_sort_93 : decode cX4_sort 93 = .ok (.iload_n 3, 1) := by decide +kernel
theorem dX4_sort_94 : decode cX4_sort 94 = .ok (.invokestatic 93, 3) := by decide +kernel
theorem dX4_sort_97 : decode cX4_sort 97 = .ok (.iaload, 1) := by decide +kernel
theorem dX4_sort_98 : decode cX4_sort 98 = .ok (.iconst 1, 1) := by decide +kernel
theorem dX4_sort_99 : decode cX4_sort 99 = .ok (.iadd, 1) := by decide +kernel
theorem dX4_sort_100 : decode cX4_sort 100 = .ok (.dup2, 1) := by decide +kernel
theorem dX4_sort_101 : decode cX4_sort 101 = .ok (.iaload, 1) := by decide +kernel
theorem dX4_sort_102 : decode cX4_sort 102 = .ok (.iconst 1, 1) := by decide +kernel
theorem dX4_sort_103 : decode cX4_sort 103 = .ok (.iadd, 1) := by decide +kernel
theorem dX4_sort_104 : decode cX4_sort 104 = .ok (.iastore, 1) := by decide +kernel
theorem dX4_sort_105 : decode cX4_sort 105 = .ok (.iinc 5 1, 3) := by decide +kernel
theorem dX4_sort_108 : decode cX4_sort 108 = .ok (.goto (-36), 3) := by decide +kernel
theorem dX4_sort_111 : decode cX4_sort 111 = .ok (.iconst 1, 1) := by decide +kernel
theorem dX4_sort_112 : decode cX4_sort 112 = .ok (.istore 5, 2) := by decide +kernel
theorem dX4_sort_114 : decode cX4_sort 114 = .ok (.iload 5, 2) := by decide +kernel
theorem dX4_sort_116 : decode cX4_sort 116 = .ok (.bipush 8, 2) := by decide +kernel
theorem dX4_sort_118 : decode cX4_sort 118 = .ok (.if_icmp .gt 28, 3) := by decide +kernel
theorem dX4_sort_121 : decode cX4_sort 121 = .ok (.aload_n 0, 1) := by decide +kernel
theorem dX4_sort_122 : decode cX4_sort 122 = .ok (.getfield 27, 3) := by decide +kernel
theorem dX4_sort_125 : decode cX4_sort 125 = .ok (.iload 5, 2) := by decide +kernel
theorem dX4_sort_127 : decode cX4_sort 127 = .ok (.dup2, 1) := by decide +kernel
theorem dX4_sort_128 : decode cX4_sort 128 = .ok (.iaload, 1) := by decide +kernel
theorem dX4_sort_129 : decode cX4_sort 129 = .ok (.aload_n 0, 1) := by decide +kernel
theorem dX4_sort_130 : decode cX4_sort 130 = .ok (.getfield 27, 3) := by decide +kernel
theorem dX4_sort_133 : decode cX4_sort 133 = .ok (.iload 5, 2) := by decide +kernel
theorem dX4_sort_135 : decode cX4_sort 135 = .ok (.iconst 1, 1) := by decide +kernel
theorem dX4_sort_136 : decode cX4_sort 136 = .ok (.isub, 1) := by decide +kernel
theorem dX4_sort_137 : decode cX4_sort 137 = .ok (.iaload, 1) := by decide +kernel
theorem dX4_sort_138 : decode cX4_sort 138 = .ok (.iadd, 1) := by decide +kernel
theorem dX4_sort_139 : decode cX4_sort 139 = .ok (.iastore, 1) := by decide +kernel
theorem dX4_sort_140 : decode cX4_sort 140 = .ok (.iinc 5 1, 3) := by decide +kernel
theorem dX4_sort_143 : decode cX4_sort 143 = .ok (.goto (-29), 3) := by decide +kernel
theorem dX4_sort_146 : decode cX4_sort 146 = .ok (.iload_n 1, 1) := by decide +kernel
theorem dX4_sort_147 : decode cX4_sort 147 = .ok (.istore 5, 2) := by decide +kernel
theorem dX4_sort_149 : decode cX4_sort 149 = .ok (.iload 5, 2) := by decide +kernel
theorem dX4_sort_151 : decode cX4_sort 151 = .ok (.iload_n 2, 1) := by decide +kernel
theorem dX4_sort_152 : decode cX4_sort 152 = .ok (.if_icmp .ge 57, 3) := by decide +kernel
theorem dX4_sort_155 : decode cX4_sort 155 = .ok (.aload_n 0, 1) := by decide +kernel
theorem dX4_sort_156 : decode cX4_sort 156 = .ok (.getfield 24, 3) := by decide +kernel
theorem dX4_sort_159 : decode cX4_sort 159 = .ok (.aload_n 0, 1) := by decide +kernel
theorem dX4_sort_160 : decode cX4_sort 160 = .ok (.getfield 9, 3) := by decide +kernel
theorem dX4_sort_163 : decode cX4_sort 163 = .ok (.iload 5, 2) := by decide +kernel
theorem dX4_sort_165 : decode cX4_sort 165 = .ok (.iaload, 1) := by decide +kernel
theorem dX4_sort_166 : decode cX4_sort 166 = .ok (.iload_n 3, 1) := by decide +kernel
theorem dX4_sort_167 : decode cX4_sort 167 = .ok (.invokestatic 93, 3) := by decide +kernel
theorem dX4_sort_170 : decode cX4_sort 170 = .ok (.iaload, 1) := by decide +kernel
theorem dX4_sort_171 : decode cX4_sort 171 = .ok (.istore 6, 2) := by decide +kernel
theorem dX4_sort_173 : decode cX4_sort 173 = .ok (.aload_n 0, 1) := by decide +kernel
theorem dX4_sort_174 : decode cX4_sort 174 = .ok (.getfield 15, 3) := by decide +kernel
theorem dX4_sort_177 : decode cX4_sort 177 = .ok (.aload_n 0, 1) := by decide +kernel
theorem dX4_sort_178 : decode cX4_sort 178 = .ok (.getfield 27, 3) := by decide +kernel
theorem dX4_sort_181 : decode cX4_sort 181 = .ok (.iload 6, 2) := by decide +kernel
theorem dX4_sort_183 : decode cX4_sort 183 = .ok (.iaload, 1) := by decide +kernel
theorem dX4_sort_184 : decode cX4_sort 184 = .ok (.aload_n 0, 1) := by decide +kernel
theorem dX4_sort_185 : decode cX4_sort 185 = .ok (.getfield 9, 3) := by decide +kernel
theorem dX4_sort_188 : decode cX4_sort 188 = .ok (.iload 5, 2) := by decide +kernel
theorem dX4_sort_190 : decode cX4_sort 190 = .ok (.iaload, 1) := by decide +kernel
theorem dX4_sort_191 : decode cX4_sort 191 = .ok (.iastore, 1) := by decide +kernel
theorem dX4_sort_192 : decode cX4_sort 192 = .ok (.aload_n 0, 1) := by decide +kernel
theorem dX4_sort_193 : decode cX4_sort 193 = .ok (.getfield 27, 3) := by decide +kernel
theorem dX4_sort_196 : decode cX4_sort 196 = .ok (.iload 6, 2) := by decide +kernel
theorem dX4_sort_198 : decode cX4_sort 198 = .ok (.dup2, 1) := by decide +kernel
theorem dX4_sort_199 : decode cX4_sort 199 = .ok (.iaload, 1) := by decide +kernel
theorem dX4_sort_200 : decode cX4_sort 200 = .ok (.iconst 1, 1) := by decide +kernel
theorem dX4_sort_201 : decode cX4_sort 201 = .ok (.iadd, 1) := by decide +kernel
theorem dX4_sort_202 : decode cX4_sort 202 = .ok (.iastore, 1) := by decide +kernel
theorem dX4_sort_203 : decode cX4_sort 203 = .ok (.iinc 5 1, 3) := by decide +kernel
theorem dX4_sort_206 : decode cX4_sort 206 = .ok (.goto (-57), 3) := by decide +kernel
theorem dX4_sort_209 : decode cX4_sort 209 = .ok (.aload_n 0, 1) := by decide +kernel
theorem dX4_sort_210 : decode cX4_sort 210 = .ok (.getfield 15, 3) := by decide +kernel
theorem dX4_sort_213 : decode cX4_sort 213 = .ok (.iconst 0, 1) := by decide +kernel
theorem dX4_sort_214 : decode cX4_sort 214 = .ok (.aload_n 0, 1) := by decide +kernel
theorem dX4_sort_215 : decode cX4_sort 215 = .ok (.getfield 9, 3) := by decide +kernel
theorem dX4_sort_218 : decode cX4_sort 218 = .ok (.iload_n 1, 1) := by decide +kernel
theorem dX4_sort_219 : decode cX4_sort 219 = .ok (.iconst 0, 1) := by decide +kernel
theorem dX4_sort_220 : decode cX4_sort 220 = .ok (.iload_n 2, 1) := by decide +kernel
theorem dX4_sort_221 : decode cX4_sort 221 = .ok (.iload_n 1, 1) := by decide +kernel
theorem dX4_sort_222 : decode cX4_sort 222 = .ok (.isub, 1) := by decide +kernel
theorem dX4_sort_223 : decode cX4_sort 223 = .ok (.invokestatic 103, 3) := by decide +kernel
theorem dX4_sort_226 : decode cX4_sort 226 = .ok (.invokestatic 131, 3) := by decide +kernel
theorem dX4_sort_229 : decode cX4_sort 229 = .ok (.return_, 1) := by decide +kernel
set_option maxRecDepth 20000 in
theorem ggX4_findRanks_X3_rowsOf : GoodIn wsX4_findRanks wsX3_rowsOf := goodIn_r _ [11, 12, 13, 14, 15, 10, 16, 17, 36, 37, 38, 39, 40, 41, 42, 43, 44, 45, 46, 47, 48] (by decide +kernel) (by decide +kernel)
set_option maxRecDepth 20000 in
theorem gX4_findRanks_X3_rowsOf : GoodIn wsX4_findRanks (wsV RX4 100 RX3 yX3_rowsOf wsX3_rowsOf) := goodIn_app (goodIn_of _ (by decide +kernel)) ggX4_findRanks_X3_rowsOf
set_option maxRecDepth 20000 in
theorem ggX4_findRanks_X3_field : GoodIn wsX4_findRanks wsX3_field := goodIn_r _ [21, 22, 36, 37, 38, 39, 40, 41, 42, 43, 44, 45, 46, 47, 48] (by decide +kernel) (by decide +kernel)
