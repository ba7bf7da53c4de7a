theorem dX2_init_0 : decode cX2_init 0 = .ok (.aload_n 0, 1) := by decide +kernel
theorem dX2_init_1 : decode cX2_init 1 = .ok (.invokespecial 3, 3) := by decide +kernel
theorem dX2_init_4 : decode cX2_init 4 = .ok (.aload_n 0, 1) := by decide +kernel
theorem dX2_init_5 : decode cX2_init 5 = .ok (.bipush 16, 2) := by decide +kernel
theorem dX2_init_7 : decode cX2_init 7 = .ok (.newarray .long, 2) := by decide +kernel
theorem dX2_init_9 : decode cX2_init 9 = .ok (.putfield 9, 3) := by decide +kernel
theorem dX2_init_12 : decode cX2_init 12 = .ok (.aload_n 0, 1) := by decide +kernel
theorem dX2_init_13 : decode cX2_init 13 = .ok (.bipush 16, 2) := by decide +kernel
theorem dX2_init_15 : decode cX2_init 15 = .ok (.newarray .long, 2) := by decide +kernel
theorem dX2_init_17 : decode cX2_init 17 = .ok (.putfield 15, 3) := by decide +kernel
theorem dX2_init_20 : decode cX2_init 20 = .ok (.aload_n 0, 1) := by decide +kernel
theorem dX2_init_21 : decode cX2_init 21 = .ok (.aload_n 1, 1) := by decide +kernel
theorem dX2_init_22 : decode cX2_init 22 = .ok (.putfield 18, 3) := by decide +kernel
theorem dX2_init_25 : decode cX2_init 25 = .ok (.return_, 1) := by decide +kernel
set_option maxRecDepth 20000 in
theorem ggX2_measure_X2_sizeWithoutX : GoodIn wsX2_measure wsX2_sizeWithoutX := goodIn_r _ [9, 10, 1, 11, 12, 13, 14, 15, 16, 17, 18, 19, 20, 21, 22, 23, 24, 25, 26, 27, 28, 29, 30, 31, 32, 33, 34, 35, 36, 37, 38, 39, 40, 41, 42, 43, 44, 45, 46, 47, 48, 49, 50, 51, 52, 53, 54] (by decide +kernel) (by decide +kernel)
set_option maxRecDepth 20000 in
theorem gX2_measure_X2_sizeWithoutX : GoodIn wsX2_measure (wsV RX2 22 RX2 yX2_sizeWithoutX wsX2_sizeWithoutX) := goodIn_app (goodIn_of _ (by decide +kernel)) ggX2_measure_X2_sizeWithoutX
set_option maxRecDepth 20000 in
theorem ggX2_measure_X3_isInside : GoodIn wsX2_measure wsX3_isInside := goodIn_r _ [27, 28, 29, 30, 31, 16, 32, 33, 42, 43, 44, 45, 46, 47, 48, 49, 50, 51, 52, 53, 54] (by decide +kernel) (by decide +kernel)
set_option maxRecDepth 20000 in
theorem gX2_measure_X3_isInside : GoodIn wsX2_measure (wsV RX2 32 RX3 yX3_isInside wsX3_isInside) := goodIn_app (goodIn_of _ (by decide +kernel)) ggX2_measure_X3_isInside
theorem dX2_measure_0 : decode cX2_measure 0 = .ok (.iconst 0, 1) := by decide +kernel
theorem dX2_measure_1 : decode cX2_measure 1 = .ok (.istore_n 1, 1) := by decide +kernel
theorem dX2_measure_2 : decode cX2_measure 2 = .ok (.iload_n 1, 1) := by decide +kernel
theorem dX2_measure_3 : decode cX2_measure 3 = .ok (.bipush 16, 2) := by decide +kernel
theorem dX2_measure_5 : decode cX2_measure 5 = .ok (.if_icmp .ge 64, 3) := by decide +kernel
theorem dX2_measure_8 : decode cX2_measure 8 = .ok (.aload_n 0, 1) := by decide +kernel
theorem dX2_measure_9 : decode cX2_measure 9 = .ok (.iload_n 1, 1) := by decide +kernel
theorem dX2_measure_10 : decode cX2_measure 10 = .ok (.invokevirtual 22, 3) := by decide +kernel
theorem dX2_measure_13 : decode cX2_measure 13 = .ok (.lstore_n 2, 1) := by decide +kernel
theorem dX2_measure_14 : decode cX2_measure 14 = .ok (.aload_n 0, 1) := by decide +kernel
theorem dX2_measure_15 : decode cX2_measure 15 = .ok (.getfield 18, 3) := by decide +kernel
theorem dX2_measure_18 : decode cX2_measure 18 = .ok (.aload_n 0, 1) := by decide +kernel
theorem dX2_measure_19 : decode cX2_measure 19 = .ok (.getfield 18, 3) := by decide +kernel
theorem dX2_measure_22 : decode cX2_measure 22 = .ok (.getfield 26, 3) := by decide +kernel
theorem dX2_measure_25 : decode cX2_measure 25 = .ok (.iload_n 1, 1) := by decide +kernel
theorem dX2_measure_26 : decode cX2_measure 26 = .ok (.invokevirtual 32, 3) := by decide +kernel
theorem dX2_measure_29 : decode cX2_measure 29 = .ok (.istore 4, 2) := by decide +kernel
theorem dX2_measure_31 : decode cX2_measure 31 = .ok (.aload_n 0, 1) := by decide +kernel
theorem dX2_measure_32 : decode cX2_measure 32 = .ok (.getfield 9, 3) := by decide +kernel
theorem dX2_measure_35 : decode cX2_measure 35 = .ok (.iload_n 1, 1) := by decide +kernel
theorem dX2_measure_36 : decode cX2_measure 36 = .ok (.iload 4, 2) := by decide +kernel
theorem dX2_measure_38 : decode cX2_measure 38 = .ok (.ifCond .eq 7, 3) := by decide +kernel
theorem dX2_measure_41 : decode cX2_measure 41 = .ok (.lconst 0, 1) := by decide +kernel
theorem dX2_measure_42 : decode cX2_measure 42 = .ok (.goto 4, 3) := by decide +kernel
theorem dX2_measure_45 : decode cX2_measure 45 = .ok (.lload_n 2, 1) := by decide +kernel
theorem dX2_measure_46 : decode cX2_measure 46 = .ok (.lastore, 1) := by decide +kernel
theorem dX2_measure_47 : decode cX2_measure 47 = .ok (.aload_n 0, 1) := by decide +kernel
theorem dX2_measure_48 : decode cX2_measure 48 = .ok (.getfield 15, 3) := by decide +kernel
theorem dX2_measure_51 : decode cX2_measure 51 = .ok (.iload_n 1, 1) := by decide +kernel
theorem dX2_measure_52 : decode cX2_measure 52 = .ok (.iload 4, 2) := by decide +kernel
theorem dX2_measure_54 : decode cX2_measure 54 = .ok (.ifCond .eq 7, 3) := by decide +kernel
theorem dX2_measure_57 : decode cX2_measure 57 = .ok (.lload_n 2, 1) := by decide +kernel
theorem dX2_measure_58 : decode cX2_measure 58 = .ok (.goto 4, 3) := by decide +kernel
theorem dX2_measure_61 : decode cX2_measure 61 = .ok (.lconst 0, 1) := by decide +kernel
theorem dX2_measure_62 : decode cX2_measure 62 = .ok (.lastore, 1) := by decide +kernel
theorem dX2_measure_63 : decode cX2_measure 63 = .ok (.iinc 1 1, 3) := by decide +kernel
theorem dX2_measure_66 : decode cX2_measure 66 = .ok (.goto (-64), 3) := by decide +kernel
theorem dX2_measure_69 : decode cX2_measure 69 = .ok (.return_, 1) := by decide +kernel
set_option maxRecDepth 20000 in
theorem ggX2_sizeWithoutX_X3_rowsOf : GoodIn wsX2_sizeWithoutX wsX3_rowsOf := goodIn_r _ [9, 10, 11, 12, 13, 8, 14, 15, 34, 35, 36, 37, 38, 39, 40, 41, 42, 43, 44, 45, 46] (by decide +kernel) (by decide +kernel)
set_option maxRecDepth 20000 in
theorem gX2_sizeWithoutX_X3_rowsOf : GoodIn wsX2_sizeWithoutX (wsV RX2 38 RX3 yX3_rowsOf wsX3_rowsOf) := goodIn_app (goodIn_of _ (by decide +kernel)) ggX2_sizeWithoutX_X3_rowsOf
set_option maxRecDepth 20000 in
theorem ggX2_sizeWithoutX_X3_isInside : GoodIn wsX2_sizeWithoutX wsX3_isInside := goodIn_r _ [19, 20, 21, 22, 23, 8, 24, 25, 34, 35, 36, 37, 38, 39, 40, 41, 42, 43, 44, 45, 46] (by decide +kernel) (by decide +kernel)
set_option maxRecDepth 20000 in
theorem gX2_sizeWithoutX_X3_isInside : GoodIn wsX2_sizeWithoutX (wsV RX2 32 RX3 yX3_isInside wsX3_isInside) := goodIn_app (goodIn_of _ (by decide +kernel)) ggX2_sizeWithoutX_X3_isInside
set_option maxRecDepth 20000 in
theorem ggX2_sizeWithoutX_X3_quartersOf : GoodIn wsX2_sizeWithoutX wsX3_quartersOf := goodIn_r _ [29, 30, 21, 22, 23, 8, 24, 25, 34, 35, 36, 37, 38, 39, 40, 41, 42, 43, 44, 45, 46] (by decide +kernel) (by decide +kernel)
set_option maxRecDepth 20000 in
theorem gX2_sizeWithoutX_X3_quartersOf : GoodIn wsX2_sizeWithoutX (wsV RX2 47 RX3 yX3_quartersOf wsX3_quartersOf) := goodIn_app (goodIn_of _ (by decide +kernel)) ggX2_sizeWithoutX_X3_quartersOf
theorem dX2_sizeWithoutX_0 : decode cX2_sizeWithoutX 0 = .ok (.ldc2_w 36, 3) := by decide +kernel
theorem dX2_sizeWithoutX_3 : decode cX2_sizeWithoutX 3 = .ok (.lstore_n 2, 1) := by decide +kernel
theorem dX2_sizeWithoutX_4 : decode cX2_sizeWithoutX 4 = .ok (.iconst 0, 1) := by decide +kernel
theorem dX2_sizeWithoutX_5 : decode cX2_sizeWithoutX 5 = .ok (.istore 4, 2) := by decide +kernel
theorem dX2_sizeWithoutX_7 : decode cX2_sizeWithoutX 7 = .ok (.iload 4, 2) := by decide +kernel
theorem dX2_sizeWithoutX_9 : decode cX2_sizeWithoutX 9 = .ok (.iconst 4, 1) := by decide +kernel
theorem dX2_sizeWithoutX_10 : decode cX2_sizeWithoutX 10 = .ok (.if_icmp .ge 31, 3) := by decide +kernel
theorem dX2_sizeWithoutX_13 : decode cX2_sizeWithoutX 13 = .ok (.iload_n 1, 1) := by decide +kernel
theorem dX2_sizeWithoutX_14 : decode cX2_sizeWithoutX 14 = .ok (.iload 4, 2) := by decide +kernel
theorem dX2_sizeWithoutX_16 : decode cX2_sizeWithoutX 16 = .ok (.ishr, 1) := by decide +kernel
theorem dX2_sizeWithoutX_17 : decode cX2_sizeWithoutX 17 = .ok (.iconst 1, 1) := by decide +kernel
theorem dX2_sizeWithoutX_18 : decode cX2_sizeWithoutX 18 = .ok (.iand, 1) := by decide +kernel
theorem dX2_sizeWithoutX_19 : decode cX2_sizeWithoutX 19 = .ok (.ifCond .eq 16, 3) := by decide +kernel
theorem dX2_sizeWithoutX_22 : decode cX2_sizeWithoutX 22 = .ok (.lload_n 2, 1) := by decide +kernel
theorem dX2_sizeWithoutX_23 : decode cX2_sizeWithoutX 23 = .ok (.aload_n 0, 1) := by decide +kernel
theorem dX2_sizeWithoutX_24 : decode cX2_sizeWithoutX 24 = .ok (.getfield 18, 3) := by decide +kernel
theorem dX2_sizeWithoutX_27 : decode cX2_sizeWithoutX 27 = .ok (.iload 4, 2) := by decide +kernel
theorem dX2_sizeWithoutX_29 : decode cX2_sizeWithoutX 29 = .ok (.invokevirtual 38, 3) := by decide +kernel
theorem dX2_sizeWithoutX_32 : decode cX2_sizeWithoutX 32 = .ok (.i2l, 1) := by decide +kernel
theorem dX2_sizeWithoutX_33 : decode cX2_sizeWithoutX 33 = .ok (.lmul, 1) := by decide +kernel
theorem dX2_sizeWithoutX_34 : decode cX2_sizeWithoutX 34 = .ok (.lstore_n 2, 1) := by decide +kernel
theorem dX2_sizeWithoutX_35 : decode cX2_sizeWithoutX 35 = .ok (.iinc 4 1, 3) := by decide +kernel
theorem dX2_sizeWithoutX_38 : decode cX2_sizeWithoutX 38 = .ok (.goto (-31), 3) := by decide +kernel
theorem dX2_sizeWithoutX_41 : decode cX2_sizeWithoutX 41 = .ok (.iconst 0, 1) := by decide +kernel
theorem dX2_sizeWithoutX_42 : decode cX2_sizeWithoutX 42 = .ok (.istore 4, 2) := by decide +kernel
theorem dX2_sizeWithoutX_44 : decode cX2_sizeWithoutX 44 = .ok (.iload 4, 2) := by decide +kernel
theorem dX2_sizeWithoutX_46 : decode cX2_sizeWithoutX 46 = .ok (.aload_n 0, 1) := by decide +kernel
theorem dX2_sizeWithoutX_47 : decode cX2_sizeWithoutX 47 = .ok (.getfield 18, 3) := by decide +kernel
theorem dX2_sizeWithoutX_50 : decode cX2_sizeWithoutX 50 = .ok (.getfield 42, 3) := by decide +kernel
theorem dX2_sizeWithoutX_53 : decode cX2_sizeWithoutX 53 = .ok (.if_icmp .ge 39, 3) := by decide +kernel
theorem dX2_sizeWithoutX_56 : decode cX2_sizeWithoutX 56 = .ok (.aload_n 0, 1) := by decide +kernel
theorem dX2_sizeWithoutX_57 : decode cX2_sizeWithoutX 57 = .ok (.getfield 18, 3) := by decide +kernel
theorem dX2_sizeWithoutX_60 : decode cX2_sizeWithoutX 60 = .ok (.iload 4, 2) := by decide +kernel
theorem dX2_sizeWithoutX_62 : decode cX2_sizeWithoutX 62 = .ok (.iload_n 1, 1) := by decide +kernel
theorem dX2_sizeWithoutX_63 : decode cX2_sizeWithoutX 63 = .ok (.invokevirtual 32, 3) := by decide +kernel
theorem dX2_sizeWithoutX_66 : decode cX2_sizeWithoutX 66 = .ok (.ifCond .eq 20, 3) := by decide +kernel
theorem dX2_sizeWithoutX_69 : decode cX2_sizeWithoutX 69 = .ok (.lload_n 2, 1) := by decide +kernel
theorem dX2_sizeWithoutX_70 : decode cX2_sizeWithoutX 70 = .ok (.ldc2_w 45, 3) := by decide +kernel
theorem dX2_sizeWithoutX_73 : decode cX2_sizeWithoutX 73 = .ok (.ldiv, 1) := by decide +kernel
theorem dX2_sizeWithoutX_74 : decode cX2_sizeWithoutX 74 = .ok (.aload_n 0, 1) := by decide +kernel
theorem dX2_sizeWithoutX_75 : decode cX2_sizeWithoutX 75 = .ok (.getfield 18, 3) := by decide +kernel
theorem dX2_sizeWithoutX_78 : decode cX2_sizeWithoutX 78 = .ok (.iload 4, 2) := by decide +kernel
theorem dX2_sizeWithoutX_80 : decode cX2_sizeWithoutX 80 = .ok (.invokevirtual 47, 3) := by decide +kernel
theorem dX2_sizeWithoutX_83 : decode cX2_sizeWithoutX 83 = .ok (.i2l, 1) := by decide +kernel
theorem dX2_sizeWithoutX_84 : decode cX2_sizeWithoutX 84 = .ok (.lmul, 1) := by decide +kernel
theorem dX2_sizeWithoutX_85 : decode cX2_sizeWithoutX 85 = .ok (.lstore_n 2, 1) := by decide +kernel
theorem dX2_sizeWithoutX_86 : decode cX2_sizeWithoutX 86 = .ok (.iinc 4 1, 3) := by decide +kernel
theorem dX2_sizeWithoutX_89 : decode cX2_sizeWithoutX 89 = .ok (.goto (-45), 3) := by decide +kernel
theorem dX2_sizeWithoutX_92 : decode cX2_sizeWithoutX 92 = .ok (.lload_n 2, 1) := by decide +kernel
theorem dX2_sizeWithoutX_93 : decode cX2_sizeWithoutX 93 = .ok (.lreturn, 1) := by decide +kernel
theorem dX2_sizeA_0 : decode cX2_sizeA 0 = .ok (.iload_n 1, 1) := by decide +kernel
theorem dX2_sizeA_1 : decode cX2_sizeA 1 = .ok (.ifCond .lt 9, 3) := by decide +kernel
theorem dX2_sizeA_4 : decode cX2_sizeA 4 = .ok (.iload_n 1, 1) := by decide +kernel
theorem dX2_sizeA_5 : decode cX2_sizeA 5 = .ok (.bipush 16, 2) := by decide +kernel
theorem dX2_sizeA_7 : decode cX2_sizeA 7 = .ok (.if_icmp .lt 7, 3) := by decide +kernel
theorem dX2_sizeA_10 : decode cX2_sizeA 10 = .ok (.lconst 0, 1) := by decide +kernel
theorem dX2_sizeA_11 : decode cX2_sizeA 11 = .ok (.goto 9, 3) := by decide +kernel
theorem dX2_sizeA_14 : decode cX2_sizeA 14 = .ok (.aload_n 0, 1) := by decide +kernel
theorem dX2_sizeA_15 : decode cX2_sizeA 15 = .ok (.getfield 9, 3) := by decide +kernel
theorem dX2_sizeA_18 : decode cX2_sizeA 18 = .ok (.iload_n 1, 1) := by decide +kernel
theorem dX2_sizeA_19 : decode cX2_sizeA 19 = .ok (.laload, 1) := by decide +kernel
theorem dX2_sizeA_20 : decode cX2_sizeA 20 = .ok (.lreturn, 1) := by decide +kernel
theorem dX2_sizeB_0 : decode cX2_sizeB 0 = .ok (.iload_n 1, 1) := by decide +kernel
theorem dX2_sizeB_1 : decode cX2_sizeB 1 = .ok (.ifCond .lt 9, 3) := by decide +kernel
theorem dX2_sizeB_4 : decode cX2_sizeB 4 = .ok (.iload_n 1, 1) := by decide +kernel
theorem dX2_sizeB_5 : decode cX2_sizeB 5 = .ok (.bipush 16, 2) := by decide +kernel
theorem dX2_sizeB_7 : decode cX2_sizeB 7 = .ok (.if_icmp .lt 7, 3) := by decide +kernel
theorem dX2_sizeB_10 : decode cX2_sizeB 10 = .ok (.lconst 0, 1) := by decide +kernel
theorem dX2_sizeB_11 : decode cX2_sizeB 11 = .ok (.goto 9, 3) := by decide +kernel
theorem dX2_sizeB_14 : decode cX2_sizeB 14 = .ok (.aload_n 0, 1) := by decide +kernel
theorem dX2_sizeB_15 : decode cX2_sizeB 15 = .ok (.getfield 15, 3) := by decide +kernel
theorem dX2_sizeB_18 : decode cX2_sizeB 18 = .ok (.iload_n 1, 1) := by decide +kernel
theorem dX2_sizeB_19 : decode cX2_sizeB 19 = .ok (.laload, 1) := by decide +kernel
theorem dX2_sizeB_20 : decode cX2_sizeB 20 = .ok (.lreturn, 1) := by decide +kernel
theorem dX2_joinA_0 : decode cX2_joinA 0 = .ok (.iload_n 2, 1) := by decide +kernel
theorem dX2_joinA_1 : decode cX2_joinA 1 = .ok (.ifCond .lt 19, 3) := by decide +kernel
theorem dX2_joinA_4 : decode cX2_joinA 4 = .ok (.iload_n 2, 1) := by decide +kernel
theorem dX2_joinA_5 : decode cX2_joinA 5 = .ok (.bipush 16, 2) := by decide +kernel
theorem dX2_joinA_7 : decode cX2_joinA 7 = .ok (.if_icmp .ge 13, 3) := by decide +kernel
theorem dX2_joinA_10 : decode cX2_joinA 10 = .ok (.iload_n 3, 1) := by decide +kernel
theorem dX2_joinA_11 : decode cX2_joinA 11 = .ok (.ifCond .lt 9, 3) := by decide +kernel
theorem dX2_joinA_14 : decode cX2_joinA 14 = .ok (.iload_n 3, 1) := by decide +kernel
theorem dX2_joinA_15 : decode cX2_joinA 15 = .ok (.bipush 16, 2) := by decide +kernel
theorem dX2_joinA_17 : decode cX2_joinA 17 = .ok (.if_icmp .lt 5, 3) := by decide +kernel
theorem dX2_joinA_20 : decode cX2_joinA 20 = .ok (.lconst 0, 1) := by decide +kernel
theorem dX2_joinA_21 : decode cX2_joinA 21 = .ok (.lreturn, 1) := by decide +kernel
theorem dX2_joinA_22 : decode cX2_joinA 22 = .ok (.iload_n 1, 1) := by decide +kernel
theorem dX2_joinA_23 : decode cX2_joinA 23 = .ok (.ifCond .ne 21, 3) := by decide +kernel
theorem dX2_joinA_26 : decode cX2_joinA 26 = .ok (.aload_n 0, 1) := by decide +kernel
theorem dX2_joinA_27 : decode cX2_joinA 27 = .ok (.getfield 9, 3) := by decide +kernel
theorem dX2_joinA_30 : decode cX2_joinA 30 = .ok (.iload_n 2, 1) := by decide +kernel
theorem dX2_joinA_31 : decode cX2_joinA 31 = .ok (.laload, 1) := by decide +kernel
theorem dX2_joinA_32 : decode cX2_joinA 32 = .ok (.aload_n 0, 1) := by decide +kernel
theorem dX2_joinA_33 : decode cX2_joinA 33 = .ok (.getfield 9, 3) := by decide +kernel
theorem dX2_joinA_36 : decode cX2_joinA 36 = .ok (.iload_n 3, 1) := by decide +kernel
theorem dX2_joinA_37 : decode cX2_joinA 37 = .ok (.laload, 1) := by decide +kernel
theorem dX2_joinA_38 : decode cX2_joinA 38 = .ok (.lmul, 1) := by decide +kernel
theorem dX2_joinA_39 : decode cX2_joinA 39 = .ok (.ldc2_w 36, 3) := by decide +kernel
theorem dX2_joinA_42 : decode cX2_joinA 42 = .ok (.ldiv, 1) := by decide +kernel
theorem dX2_joinA_43 : decode cX2_joinA 43 = .ok (.lreturn, 1) := by decide +kernel
theorem dX2_joinA_44 : decode cX2_joinA 44 = .ok (.iload_n 1, 1) := by decide +kernel
theorem dX2_joinA_45 : decode cX2_joinA 45 = .ok (.iconst 1, 1) := by decide +kernel
theorem dX2_joinA_46 : decode cX2_joinA 46 = .ok (.if_icmp .ne 9, 3) := by decide +kernel
theorem dX2_joinA_49 : decode cX2_joinA 49 = .ok (.ldc2_w 50, 3) := by decide +kernel
theorem dX2_joinA_52 : decode cX2_joinA 52 = .ok (.goto 6, 3) := by decide +kernel
theorem dX2_joinA_55 : decode cX2_joinA 55 = .ok (.ldc2_w 52, 3) := by decide +kernel
theorem dX2_joinA_58 : decode cX2_joinA 58 = .ok (.lstore 4, 2) := by decide +kernel
theorem dX2_joinA_60 : decode cX2_joinA 60 = .ok (.lload 4, 2) := by decide +kernel
theorem dX2_joinA_62 : decode cX2_joinA 62 = .ok (.aload_n 0, 1) := by decide +kernel
theorem dX2_joinA_63 : decode cX2_joinA 63 = .ok (.getfield 9, 3) := by decide +kernel
theorem dX2_joinA_66 : decode cX2_joinA 66 = .ok (.iload_n 2, 1) := by decide +kernel
theorem dX2_joinA_67 : decode cX2_joinA 67 = .ok (.laload, 1) := by decide +kernel
theorem dX2_joinA_68 : decode cX2_joinA 68 = .ok (.aload_n 0, 1) := by decide +kernel
theorem dX2_joinA_69 : decode cX2_joinA 69 = .ok (.getfield 9, 3) := by decide +kernel
theorem dX2_joinA_72 : decode cX2_joinA 72 = .ok (.iload_n 3, 1) := by decide +kernel
theorem dX2_joinA_73 : decode cX2_joinA 73 = .ok (.laload, 1) := by decide +kernel
theorem dX2_joinA_74 : decode cX2_joinA 74 = .ok (.ladd, 1) := by decide +kernel
theorem dX2_joinA_75 : decode cX2_joinA 75 = .ok (.lmul, 1) := by decide +kernel
theorem dX2_joinA_76 : decode cX2_joinA 76 = .ok (.lreturn, 1) := by decide +kernel
theorem dX2_joinB_0 : decode cX2_joinB 0 = .ok (.iload_n 2, 1) := by decide +kernel
theorem dX2_joinB_1 : decode cX2_joinB 1 = .ok (.ifCond .lt 19, 3) := by decide +kernel
theorem dX2_joinB_4 : decode cX2_joinB 4 = .ok (.iload_n 2, 1) := by decide +kernel
theorem dX2_joinB_5 : decode cX2_joinB 5 = .ok (.bipush 16, 2) := by decide +kernel
theorem dX2_joinB_7 : decode cX2_joinB 7 = .ok (.if_icmp .ge 13, 3) := by decide +kernel
theorem dX2_joinB_10 : decode cX2_joinB 10 = .ok (.iload_n 3, 1) := by decide +kernel
theorem dX2_joinB_11 : decode cX2_joinB 11 = .ok (.ifCond .lt 9, 3) := by decide +kernel
theorem dX2_joinB_14 : decode cX2_joinB 14 = .ok (.iload_n 3, 1) := by decide +kernel
theorem dX2_joinB_15 : decode cX2_joinB 15 = .ok (.bipush 16, 2) := by decide +kernel
theorem dX2_joinB_17 : decode cX2_joinB 17 = .ok (.if_icmp .lt 5, 3) := by decide +kernel
theorem dX2_joinB_20 : decode cX2_joinB 20 = .ok (.lconst 0, 1) := by decide +kernel
theorem dX2_joinB_21 : decode cX2_joinB 21 = .ok (.lreturn, 1) := by decide +kernel
theorem dX2_joinB_22 : decode cX2_joinB 22 = .ok (.iload_n 1, 1) := by decide +kernel
theorem dX2_joinB_23 : decode cX2_joinB 23 = .ok (.ifCond .ne 35, 3) := by decide +kernel
theorem dX2_joinB_26 : decode cX2_joinB 26 = .ok (.aload_n 0, 1) := by decide +kernel
theorem dX2_joinB_27 : decode cX2_joinB 27 = .ok (.getfield 9, 3) := by decide +kernel
theorem dX2_joinB_30 : decode cX2_joinB 30 = .ok (.iload_n 2, 1) := by decide +kernel
theorem dX2_joinB_31 : decode cX2_joinB 31 = .ok (.laload, 1) := by decide +kernel
theorem dX2_joinB_32 : decode cX2_joinB 32 = .ok (.aload_n 0, 1) := by decide +kernel
theorem dX2_joinB_33 : decode cX2_joinB 33 = .ok (.getfield 15, 3) := by decide +kernel
theorem dX2_joinB_36 : decode cX2_joinB 36 = .ok (.iload_n 3, 1) := by decide +kernel
theorem dX2_joinB_37 : decode cX2_joinB 37 = .ok (.laload, 1) := by decide +kernel
theorem dX2_joinB_38 : decode cX2_joinB 38 = .ok (.lmul, 1) := by decide +kernel
theorem dX2_joinB_39 : decode cX2_joinB 39 = .ok (.aload_n 0, 1) := by decide +kernel
theorem dX2_joinB_40 : decode cX2_joinB 40 = .ok (.getfield 15, 3) := by decide +kernel
theorem dX2_joinB_43 : decode cX2_joinB 43 = .ok (.iload_n 2, 1) := by decide +kernel
theorem dX2_joinB_44 : decode cX2_joinB 44 = .ok (.laload, 1) := by decide +kernel
theorem dX2_joinB_45 : decode cX2_joinB 45 = .ok (.aload_n 0, 1) := by decide +kernel
theorem dX2_joinB_46 : decode cX2_joinB 46 = .ok (.getfield 9, 3) := by decide +kernel
theorem dX2_joinB_49 : decode cX2_joinB 49 = .ok (.iload_n 3, 1) := by decide +kernel
theorem dX2_joinB_50 : decode cX2_joinB 50 = .ok (.laload, 1) := by decide +kernel
theorem dX2_joinB_51 : decode cX2_joinB 51 = .ok (.lmul, 1) := by decide +kernel
theorem dX2_joinB_52 : decode cX2_joinB 52 = .ok (.ladd, 1) := by decide +kernel
theorem dX2_joinB_53 : decode cX2_joinB 53 = .ok (.ldc2_w 36, 3) := by decide +kernel
theorem dX2_joinB_56 : decode cX2_joinB 56 = .ok (.ldiv, 1) := by decide +kernel
theorem dX2_joinB_57 : decode cX2_joinB 57 = .ok (.lreturn, 1) := by decide +kernel
theorem dX2_joinB_58 : decode cX2_joinB 58 = .ok (.iload_n 1, 1) := by decide +kernel
theorem dX2_joinB_59 : decode cX2_joinB 59 = .ok (.iconst 1, 1) := by decide +kernel
theorem dX2_joinB_60 : decode cX2_joinB 60 = .ok (.if_icmp .ne 9, 3) := by decide +kernel
theorem dX2_joinB_63 : decode cX2_joinB 63 = .ok (.ldc2_w 50, 3) := by decide +kernel
theorem dX2_joinB_66 : decode cX2_joinB 66 = .ok (.goto 6, 3) := by decide +kernel
theorem dX2_joinB_69 : decode cX2_joinB 69 = .ok (.ldc2_w 52, 3) := by decide +kernel
theorem dX2_joinB_72 : decode cX2_joinB 72 = .ok (.lstore 4, 2) := by decide +kernel
theorem dX2_joinB_74 : decode cX2_joinB 74 = .ok (.lload 4, 2) := by decide +kernel
theorem dX2_joinB_76 : decode cX2_joinB 76 = .ok (.aload_n 0, 1) := by decide +kernel
theorem dX2_joinB_77 : decode cX2_joinB 77 = .ok (.getfield 15, 3) := by decide +kernel
theorem dX2_joinB_80 : decode cX2_joinB 80 = .ok (.iload_n 2, 1) := by decide +kernel
theorem dX2_joinB_81 : decode cX2_joinB 81 = .ok (.laload, 1) := by decide +kernel
theorem dX2_joinB_82 : decode cX2_joinB 82 = .ok (.aload_n 0, 1) := by decide +kernel
theorem dX2_joinB_83 : decode cX2_joinB 83 = .ok (.getfield 15, 3) := by decide +kernel
theorem dX2_joinB_86 : decode cX2_joinB 86 = .ok (.iload_n 3, 1) := by decide +kernel
theorem dX2_joinB_87 : decode cX2_joinB 87 = .ok (.laload, 1) := by decide +kernel
theorem dX2_joinB_88 : decode cX2_joinB 88 = .ok (.ladd, 1) := by decide +kernel
theorem dX2_joinB_89 : decode cX2_joinB 89 = .ok (.lmul, 1) := by decide +kernel
theorem dX2_joinB_90 : decode cX2_joinB 90 = .ok (.lreturn, 1) := by decide +kernel
set_option maxRecDepth 20000 in
theorem ggX2_readA_X2_sizeA : GoodIn wsX2_readA wsX2_sizeA := goodIn_r _ [6, 7, 15, 16, 17] (by decide +kernel) (by decide +kernel)
set_option maxRecDepth 20000 in
theorem gX2_readA_X2_sizeA : GoodIn wsX2_readA (wsV RX2 54 RX2 yX2_sizeA wsX2_sizeA) := goodIn_app (goodIn_of _ (by decide +kernel)) ggX2_readA_X2_sizeA
set_option maxRecDepth 20000 in
theorem ggX2_readA_X3_orderFactor : GoodIn wsX2_readA wsX3_orderFactor := goodIn_r _ [12, 13, 14, 18, 19, 20, 21, 22, 23, 24, 25, 26, 27, 28, 29, 30] (by decide +kernel) (by decide +kernel)
set_option maxRecDepth 20000 in
theorem gX2_readA_X3_orderFactor : GoodIn wsX2_readA (wsV RX2 57 RX3 yX3_orderFactor wsX3_orderFactor) := goodIn_app (goodIn_of _ (by decide +kernel)) ggX2_readA_X3_orderFactor
theorem dX2_readA_0 : decode cX2_readA 0 = .ok (.aload_n 0, 1) := by decide +kernel
theorem dX2_readA_1 : decode cX2_readA 1 = .ok (.iload_n 1, 1) := by decide +kernel
theorem dX2_readA_2 : decode cX2_readA 2 = .ok (.invokevirtual 54, 3) := by decide +kernel
theorem dX2_readA_5 : decode cX2_readA 5 = .ok (.iconst 1, 1) := by decide +kernel
theorem dX2_readA_6 : decode cX2_readA 6 = .ok (.aload_n 0, 1) := by decide +kernel
theorem dX2_readA_7 : decode cX2_readA 7 = .ok (.getfield 18, 3) := by decide +kernel
theorem dX2_readA_10 : decode cX2_readA 10 = .ok (.iload_n 1, 1) := by decide +kernel
theorem dX2_readA_11 : decode cX2_readA 11 = .ok (.iconst 0, 1) := by decide +kernel
theorem dX2_readA_12 : decode cX2_readA 12 = .ok (.invokevirtual 57, 3) := by decide +kernel
theorem dX2_readA_15 : decode cX2_readA 15 = .ok (.iadd, 1) := by decide +kernel
theorem dX2_readA_16 : decode cX2_readA 16 = .ok (.i2l, 1) := by decide +kernel
theorem dX2_readA_17 : decode cX2_readA 17 = .ok (.lmul, 1) := by decide +kernel
theorem dX2_readA_18 : decode cX2_readA 18 = .ok (.lreturn, 1) := by decide +kernel
set_option maxRecDepth 20000 in
theorem ggX2_reading_X2_readA : GoodIn wsX2_reading wsX2_readA := goodIn_r _ [8, 9, 10, 11, 12, 7, 13, 14, 15, 16, 17, 18, 19, 20, 21, 38, 39, 40, 41, 42, 43, 44, 45, 46, 47, 48, 49, 50, 51, 52, 53] (by decide +kernel) (by decide +kernel)
set_option maxRecDepth 20000 in
theorem gX2_reading_X2_readA : GoodIn wsX2_reading (wsV RX2 63 RX2 yX2_readA wsX2_readA) := goodIn_app (goodIn_of _ (by decide +kernel)) ggX2_reading_X2_readA
set_option maxRecDepth 20000 in
theorem ggX2_reading_X1_init : GoodIn wsX2_reading wsX1_init := goodIn_r _ [24, 25, 26, 27, 28, 29, 30, 31, 32, 33, 34, 35, 36, 37] (by decide +kernel) (by decide +kernel)
set_option maxRecDepth 20000 in
theorem gX2_reading_X1_init : GoodIn wsX2_reading (wsX1_init) := ggX2_reading_X1_init
theorem dX2_reading_0 : decode cX2_reading 0 = .ok (.iconst 1, 1) := by decide +kernel
theorem dX2_reading_1 : decode cX2_reading 1 = .ok (.iload_n 1, 1) := by decide +kernel
theorem dX2_reading_2 : decode cX2_reading 2 = .ok (.ishl, 1) := by decide +kernel
theorem dX2_reading_3 : decode cX2_reading 3 = .ok (.istore_n 2, 1) := by decide +kernel
theorem dX2_reading_4 : decode cX2_reading 4 = .ok (.new 61, 3) := by decide +kernel
theorem dX2_reading_7 : decode cX2_reading 7 = .ok (.dup, 1) := by decide +kernel
theorem dX2_reading_8 : decode cX2_reading 8 = .ok (.iload_n 2, 1) := by decide +kernel
theorem dX2_reading_9 : decode cX2_reading 9 = .ok (.iload_n 1, 1) := by decide +kernel
theorem dX2_reading_10 : decode cX2_reading 10 = .ok (.aload_n 0, 1) := by decide +kernel
theorem dX2_reading_11 : decode cX2_reading 11 = .ok (.iload_n 2, 1) := by decide +kernel
theorem dX2_reading_12 : decode cX2_reading 12 = .ok (.invokevirtual 63, 3) := by decide +kernel
theorem dX2_reading_15 : decode cX2_reading 15 = .ok (.lconst 0, 1) := by decide +kernel
theorem dX2_reading_16 : decode cX2_reading 16 = .ok (.iconst 0, 1) := by decide +kernel
theorem dX2_reading_17 : decode cX2_reading 17 = .ok (.invokespecial 66, 3) := by decide +kernel
theorem dX2_reading_20 : decode cX2_reading 20 = .ok (.areturn, 1) := by decide +kernel
set_option maxRecDepth 20000 in
theorem ggX2_joining_X3_leastBetween : GoodIn wsX2_joining wsX3_leastBetween := goodIn_r _ [13, 14, 81, 82, 83, 84, 85, 86, 87, 88, 89, 90, 91, 92, 93] (by decide +kernel) (by decide +kernel)
set_option maxRecDepth 20000 in
theorem gX2_joining_X3_leastBetween : GoodIn wsX2_joining (wsV RX2 72 RX3 yX3_leastBetween wsX3_leastBetween) := goodIn_app (goodIn_of _ (by decide +kernel)) ggX2_joining_X3_leastBetween
set_option maxRecDepth 20000 in
theorem ggX2_joining_X3_isInOrder : GoodIn wsX2_joining wsX3_isInOrder := goodIn_r _ [18, 19, 20, 21, 22, 23, 24, 81, 82, 83, 84, 85, 86, 87, 88, 89, 90, 91, 92, 93] (by decide +kernel) (by decide +kernel)
set_option maxRecDepth 20000 in
theorem gX2_joining_X3_isInOrder : GoodIn wsX2_joining (wsV RX2 76 RX3 yX3_isInOrder wsX3_isInOrder) := goodIn_app (goodIn_of _ (by decide +kernel)) ggX2_joining_X3_isInOrder
set_option maxRecDepth 20000 in
theorem ggX2_joining_X3_orderFactor : GoodIn wsX2_joining wsX3_orderFactor := goodIn_r _ [28, 29, 19, 81, 82, 83, 84, 85, 86, 87, 88, 89, 90, 91, 92, 93] (by decide +kernel) (by decide +kernel)
set_option maxRecDepth 20000 in
theorem gX2_joining_X3_orderFactor : GoodIn wsX2_joining (wsV RX2 57 RX3 yX3_orderFactor wsX3_orderFactor) := goodIn_app (goodIn_of _ (by decide +kernel)) ggX2_joining_X3_orderFactor
set_option maxRecDepth 20000 in
theorem ggX2_joining_X2_joinA : GoodIn wsX2_joining wsX2_joinA := goodIn_r _ [34, 35, 36, 37, 38, 78, 79, 80] (by decide +kernel) (by decide +kernel)
set_option maxRecDepth 20000 in
theorem gX2_joining_X2_joinA : GoodIn wsX2_joining (wsV RX2 83 RX2 yX2_joinA wsX2_joinA) := goodIn_app (goodIn_of _ (by decide +kernel)) ggX2_joining_X2_joinA
set_option maxRecDepth 20000 in
theorem ggX2_joining_X2_sizeA : GoodIn wsX2_joining wsX2_sizeA := goodIn_r _ [42, 35, 78, 79, 80] (by decide +kernel) (by decide +kernel)
set_option maxRecDepth 20000 in
theorem gX2_joining_X2_sizeA : GoodIn wsX2_joining (wsV RX2 54 RX2 yX2_sizeA wsX2_sizeA) := goodIn_app (goodIn_of _ (by decide +kernel)) ggX2_joining_X2_sizeA
set_option maxRecDepth 20000 in
theorem ggX2_joining_X2_joinB : GoodIn wsX2_joining wsX2_joinB := goodIn_r _ [46, 35, 47, 36, 37, 38, 78, 79, 80] (by decide +kernel) (by decide +kernel)
set_option maxRecDepth 20000 in
theorem gX2_joining_X2_joinB : GoodIn wsX2_joining (wsV RX2 90 RX2 yX2_joinB wsX2_joinB) := goodIn_app (goodIn_of _ (by decide +kernel)) ggX2_joining_X2_joinB
set_option maxRecDepth 20000 in
theorem ggX2_joining_X2_sizeB : GoodIn wsX2_joining wsX2_sizeB := goodIn_r _ [51, 47, 78, 79, 80] (by decide +kernel) (by decide +kernel)
set_option maxRecDepth 20000 in
theorem gX2_joining_X2_sizeB : GoodIn wsX2_joining (wsV RX2 93 RX2 yX2_sizeB wsX2_sizeB) := goodIn_app (goodIn_of _ (by decide +kernel)) ggX2_joining_X2_sizeB
set_option maxRecDepth 20000 in
theorem ggX2_joining_X1_joinedCode : GoodIn wsX2_joining wsX1_joinedCode := goodIn_r _ [54, 55, 56, 57, 58, 59, 60, 61] (by decide +kernel) (by decide +kernel)
set_option maxRecDepth 20000 in
theorem gX2_joining_X1_joinedCode : GoodIn wsX2_joining (va_wsS RX2 99 yX1_joinedCode wsX1_joinedCode) := goodIn_app (goodIn_of _ (by decide +kernel)) ggX2_joining_X1_joinedCode
set_option maxRecDepth 20000 in
theorem ggX2_joining_X1_init : GoodIn wsX2_joining wsX1_init := goodIn_r _ [64, 65, 66, 67, 68, 69, 70, 71, 72, 73, 74, 75, 76, 77] (by decide +kernel) (by decide +kernel)
set_option maxRecDepth 20000 in
theorem gX2_joining_X1_init : GoodIn wsX2_joining (wsX1_init) := ggX2_joining_X1_init
theorem dX2_joining_0 : decode cX2_joining 0 = .ok (.aload_n 2, 1) := by decide +kernel
theorem dX2_joining_1 : decode cX2_joining 1 = .ok (.getfield 69, 3) := by decide +kernel
theorem dX2_joining_4 : decode cX2_joining 4 = .ok (.aload_n 3, 1) := by decide +kernel
theorem dX2_joining_5 : decode cX2_joining 5 = .ok (.getfield 69, 3) := by decide +kernel
theorem dX2_joining_8 : decode cX2_joining 8 = .ok (.ior, 1) := by decide +kernel
theorem dX2_joining_9 : decode cX2_joining 9 = .ok (.istore 4, 2) := by decide +kernel
theorem dX2_joining_11 : decode cX2_joining 11 = .ok (.aload_n 0, 1) := by decide +kernel
theorem dX2_joining_12 : decode cX2_joining 12 = .ok (.getfield 18, 3) := by decide +kernel
theorem dX2_joining_15 : decode cX2_joining 15 = .ok (.aload_n 2, 1) := by decide +kernel
theorem dX2_joining_16 : decode cX2_joining 16 = .ok (.getfield 69, 3) := by decide +kernel
theorem dX2_joining_19 : decode cX2_joining 19 = .ok (.aload_n 3, 1) := by decide +kernel
theorem dX2_joining_20 : decode cX2_joining 20 = .ok (.getfield 69, 3) := by decide +kernel
theorem dX2_joining_23 : decode cX2_joining 23 = .ok (.invokevirtual 72, 3) := by decide +kernel
theorem dX2_joining_26 : decode cX2_joining 26 = .ok (.istore 5, 2) := by decide +kernel
theorem dX2_joining_28 : decode cX2_joining 28 = .ok (.aload_n 0, 1) := by decide +kernel
theorem dX2_joining_29 : decode cX2_joining 29 = .ok (.getfield 18, 3) := by decide +kernel
theorem dX2_joining_32 : decode cX2_joining 32 = .ok (.iload_n 1, 1) := by decide +kernel
theorem dX2_joining_33 : decode cX2_joining 33 = .ok (.iload 5, 2) := by decide +kernel
theorem dX2_joining_35 : decode cX2_joining 35 = .ok (.invokevirtual 76, 3) := by decide +kernel
theorem dX2_joining_38 : decode cX2_joining 38 = .ok (.istore 6, 2) := by decide +kernel
theorem dX2_joining_40 : decode cX2_joining 40 = .ok (.aload_n 0, 1) := by decide +kernel
theorem dX2_joining_41 : decode cX2_joining 41 = .ok (.getfield 18, 3) := by decide +kernel
theorem dX2_joining_44 : decode cX2_joining 44 = .ok (.iload 4, 2) := by decide +kernel
theorem dX2_joining_46 : decode cX2_joining 46 = .ok (.iload 6, 2) := by decide +kernel
theorem dX2_joining_48 : decode cX2_joining 48 = .ok (.invokevirtual 57, 3) := by decide +kernel
theorem dX2_joining_51 : decode cX2_joining 51 = .ok (.i2l, 1) := by decide +kernel
theorem dX2_joining_52 : decode cX2_joining 52 = .ok (.lstore 7, 2) := by decide +kernel
theorem dX2_joining_54 : decode cX2_joining 54 = .ok (.aload_n 2, 1) := by decide +kernel
theorem dX2_joining_55 : decode cX2_joining 55 = .ok (.getfield 79, 3) := by decide +kernel
theorem dX2_joining_58 : decode cX2_joining 58 = .ok (.aload_n 3, 1) := by decide +kernel
theorem dX2_joining_59 : decode cX2_joining 59 = .ok (.getfield 79, 3) := by decide +kernel
theorem dX2_joining_62 : decode cX2_joining 62 = .ok (.ladd, 1) := by decide +kernel
theorem dX2_joining_63 : decode cX2_joining 63 = .ok (.aload_n 0, 1) := by decide +kernel
theorem dX2_joining_64 : decode cX2_joining 64 = .ok (.iload_n 1, 1) := by decide +kernel
theorem dX2_joining_65 : decode cX2_joining 65 = .ok (.aload_n 2, 1) := by decide +kernel
theorem dX2_joining_66 : decode cX2_joining 66 = .ok (.getfield 69, 3) := by decide +kernel
theorem dX2_joining_69 : decode cX2_joining 69 = .ok (.aload_n 3, 1) := by decide +kernel
theorem dX2_joining_70 : decode cX2_joining 70 = .ok (.getfield 69, 3) := by decide +kernel
theorem dX2_joining_73 : decode cX2_joining 73 = .ok (.invokevirtual 83, 3) := by decide +kernel
theorem dX2_joining_76 : decode cX2_joining 76 = .ok (.ladd, 1) := by decide +kernel
theorem dX2_joining_77 : decode cX2_joining 77 = .ok (.lload 7, 2) := by decide +kernel
theorem dX2_joining_79 : decode cX2_joining 79 = .ok (.aload_n 0, 1) := by decide +kernel
theorem dX2_joining_80 : decode cX2_joining 80 = .ok (.iload 4, 2) := by decide +kernel
theorem dX2_joining_82 : decode cX2_joining 82 = .ok (.invokevirtual 54, 3) := by decide +kernel
theorem dX2_joining_85 : decode cX2_joining 85 = .ok (.lmul, 1) := by decide +kernel
theorem dX2_joining_86 : decode cX2_joining 86 = .ok (.ladd, 1) := by decide +kernel
theorem dX2_joining_87 : decode cX2_joining 87 = .ok (.lstore 9, 2) := by decide +kernel
theorem dX2_joining_89 : decode cX2_joining 89 = .ok (.aload_n 2, 1) := by decide +kernel
theorem dX2_joining_90 : decode cX2_joining 90 = .ok (.getfield 87, 3) := by decide +kernel
theorem dX2_joining_93 : decode cX2_joining 93 = .ok (.aload_n 3, 1) := by decide +kernel
theorem dX2_joining_94 : decode cX2_joining 94 = .ok (.getfield 87, 3) := by decide +kernel
theorem dX2_joining_97 : decode cX2_joining 97 = .ok (.ladd, 1) := by decide +kernel
theorem dX2_joining_98 : decode cX2_joining 98 = .ok (.aload_n 0, 1) := by decide +kernel
theorem dX2_joining_99 : decode cX2_joining 99 = .ok (.iload_n 1, 1) := by decide +kernel
theorem dX2_joining_100 : decode cX2_joining 100 = .ok (.aload_n 2, 1) := by decide +kernel
theorem dX2_joining_101 : decode cX2_joining 101 = .ok (.getfield 69, 3) := by decide +kernel
theorem dX2_joining_104 : decode cX2_joining 104 = .ok (.aload_n 3, 1) := by decide +kernel
theorem dX2_joining_105 : decode cX2_joining 105 = .ok (.getfield 69, 3) := by decide +kernel
theorem dX2_joining_108 : decode cX2_joining 108 = .ok (.invokevirtual 90, 3) := by decide +kernel
theorem dX2_joining_111 : decode cX2_joining 111 = .ok (.ladd, 1) := by decide +kernel
theorem dX2_joining_112 : decode cX2_joining 112 = .ok (.lload 7, 2) := by decide +kernel
theorem dX2_joining_114 : decode cX2_joining 114 = .ok (.aload_n 0, 1) := by decide +kernel
theorem dX2_joining_115 : decode cX2_joining 115 = .ok (.iload 4, 2) := by decide +kernel
theorem dX2_joining_117 : decode cX2_joining 117 = .ok (.invokevirtual 93, 3) := by decide +kernel
theorem dX2_joining_120 : decode cX2_joining 120 = .ok (.lmul, 1) := by decide +kernel
theorem dX2_joining_121 : decode cX2_joining 121 = .ok (.ladd, 1) := by decide +kernel
theorem dX2_joining_122 : decode cX2_joining 122 = .ok (.lstore 11, 2) := by decide +kernel
theorem dX2_joining_124 : decode cX2_joining 124 = .ok (.iload_n 1, 1) := by decide +kernel
theorem dX2_joining_125 : decode cX2_joining 125 = .ok (.aload_n 2, 1) := by decide +kernel
theorem dX2_joining_126 : decode cX2_joining 126 = .ok (.getfield 69, 3) := by decide +kernel
theorem dX2_joining_129 : decode cX2_joining 129 = .ok (.aload_n 2, 1) := by decide +kernel
theorem dX2_joining_130 : decode cX2_joining 130 = .ok (.getfield 96, 3) := by decide +kernel
theorem dX2_joining_133 : decode cX2_joining 133 = .ok (.aload_n 3, 1) := by decide +kernel
theorem dX2_joining_134 : decode cX2_joining 134 = .ok (.getfield 69, 3) := by decide +kernel
theorem dX2_joining_137 : decode cX2_joining 137 = .ok (.aload_n 3, 1) := by decide +kernel
theorem dX2_joining_138 : decode cX2_joining 138 = .ok (.getfield 96, 3) := by decide +kernel
theorem dX2_joining_141 : decode cX2_joining 141 = .ok (.invokestatic 99, 3) := by decide +kernel
theorem dX2_joining_144 : decode cX2_joining 144 = .ok (.istore 13, 2) := by decide +kernel
theorem dX2_joining_146 : decode cX2_joining 146 = .ok (.new 61, 3) := by decide +kernel
theorem dX2_joining_149 : decode cX2_joining 149 = .ok (.dup, 1) := by decide +kernel
theorem dX2_joining_150 : decode cX2_joining 150 = .ok (.iload 4, 2) := by decide +kernel
theorem dX2_joining_152 : decode cX2_joining 152 = .ok (.iload 13, 2) := by decide +kernel
theorem dX2_joining_154 : decode cX2_joining 154 = .ok (.lload 9, 2) := by decide +kernel
theorem dX2_joining_156 : decode cX2_joining 156 = .ok (.lload 11, 2) := by decide +kernel
theorem dX2_joining_158 : decode cX2_joining 158 = .ok (.iload 6, 2) := by decide +kernel
theorem dX2_joining_160 : decode cX2_joining 160 = .ok (.invokespecial 66, 3) := by decide +kernel
theorem dX2_joining_163 : decode cX2_joining 163 = .ok (.areturn, 1) := by decide +kernel
