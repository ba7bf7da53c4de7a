theorem dX1_init_0 : decode cX1_init 0 = .ok (.aload_n 0, 1) := by decide +kernel
theorem dX1_init_1 : decode cX1_init 1 = .ok (.invokespecial 3, 3) := by decide +kernel
theorem dX1_init_4 : decode cX1_init 4 = .ok (.aload_n 0, 1) := by decide +kernel
theorem dX1_init_5 : decode cX1_init 5 = .ok (.iload_n 1, 1) := by decide +kernel
theorem dX1_init_6 : decode cX1_init 6 = .ok (.putfield 9, 3) := by decide +kernel
theorem dX1_init_9 : decode cX1_init 9 = .ok (.aload_n 0, 1) := by decide +kernel
theorem dX1_init_10 : decode cX1_init 10 = .ok (.iload_n 2, 1) := by decide +kernel
theorem dX1_init_11 : decode cX1_init 11 = .ok (.putfield 15, 3) := by decide +kernel
theorem dX1_init_14 : decode cX1_init 14 = .ok (.aload_n 0, 1) := by decide +kernel
theorem dX1_init_15 : decode cX1_init 15 = .ok (.lload_n 3, 1) := by decide +kernel
theorem dX1_init_16 : decode cX1_init 16 = .ok (.putfield 18, 3) := by decide +kernel
theorem dX1_init_19 : decode cX1_init 19 = .ok (.aload_n 0, 1) := by decide +kernel
theorem dX1_init_20 : decode cX1_init 20 = .ok (.lload 5, 2) := by decide +kernel
theorem dX1_init_22 : decode cX1_init 22 = .ok (.putfield 22, 3) := by decide +kernel
theorem dX1_init_25 : decode cX1_init 25 = .ok (.aload_n 0, 1) := by decide +kernel
theorem dX1_init_26 : decode cX1_init 26 = .ok (.iload 7, 2) := by decide +kernel
theorem dX1_init_28 : decode cX1_init 28 = .ok (.putfield 25, 3) := by decide +kernel
theorem dX1_init_31 : decode cX1_init 31 = .ok (.return_, 1) := by decide +kernel
set_option maxRecDepth 20000 in
theorem ggX1_codeLength_J6_bitCount_0f7a4 : GoodIn wsX1_codeLength wsJ6_bitCount_0f7a4 := goodIn_r _ [5, 6, 7, 8] (by decide +kernel) (by decide +kernel)
set_option maxRecDepth 20000 in
theorem gX1_codeLength_J6_bitCount_0f7a4 : GoodIn wsX1_codeLength (va_wsS RX1 29 yJ6_bitCount_0f7a4 wsJ6_bitCount_0f7a4) := goodIn_app (goodIn_of _ (by decide +kernel)) ggX1_codeLength_J6_bitCount_0f7a4
theorem dX1_codeLength_0 : decode cX1_codeLength 0 = .ok (.iconst 2, 1) := by decide +kernel
theorem dX1_codeLength_1 : decode cX1_codeLength 1 = .ok (.aload_n 0, 1) := by decide +kernel
theorem dX1_codeLength_2 : decode cX1_codeLength 2 = .ok (.getfield 9, 3) := by decide +kernel
theorem dX1_codeLength_5 : decode cX1_codeLength 5 = .ok (.invokestatic 29, 3) := by decide +kernel
theorem dX1_codeLength_8 : decode cX1_codeLength 8 = .ok (.imul, 1) := by decide +kernel
theorem dX1_codeLength_9 : decode cX1_codeLength 9 = .ok (.iconst 1, 1) := by decide +kernel
theorem dX1_codeLength_10 : decode cX1_codeLength 10 = .ok (.isub, 1) := by decide +kernel
theorem dX1_codeLength_11 : decode cX1_codeLength 11 = .ok (.ireturn, 1) := by decide +kernel
set_option maxRecDepth 20000 in
theorem ggX1_codeNumber_X1_codeLength : GoodIn wsX1_codeNumber wsX1_codeLength := goodIn_r _ [6, 7, 8, 9, 10, 11, 12, 13, 14, 15, 16, 17, 18, 19] (by decide +kernel) (by decide +kernel)
set_option maxRecDepth 20000 in
theorem gX1_codeNumber_X1_codeLength : GoodIn wsX1_codeNumber (wsV RX1 35 RX1 yX1_codeLength wsX1_codeLength) := goodIn_app (goodIn_of _ (by decide +kernel)) ggX1_codeNumber_X1_codeLength
theorem dX1_codeNumber_0 : decode cX1_codeNumber 0 = .ok (.aload_n 0, 1) := by decide +kernel
theorem dX1_codeNumber_1 : decode cX1_codeNumber 1 = .ok (.getfield 15, 3) := by decide +kernel
theorem dX1_codeNumber_4 : decode cX1_codeNumber 4 = .ok (.iconst 3, 1) := by decide +kernel
theorem dX1_codeNumber_5 : decode cX1_codeNumber 5 = .ok (.aload_n 0, 1) := by decide +kernel
theorem dX1_codeNumber_6 : decode cX1_codeNumber 6 = .ok (.invokevirtual 35, 3) := by decide +kernel
theorem dX1_codeNumber_9 : decode cX1_codeNumber 9 = .ok (.iconst 1, 1) := by decide +kernel
theorem dX1_codeNumber_10 : decode cX1_codeNumber 10 = .ok (.isub, 1) := by decide +kernel
theorem dX1_codeNumber_11 : decode cX1_codeNumber 11 = .ok (.iload_n 1, 1) := by decide +kernel
theorem dX1_codeNumber_12 : decode cX1_codeNumber 12 = .ok (.isub, 1) := by decide +kernel
theorem dX1_codeNumber_13 : decode cX1_codeNumber 13 = .ok (.imul, 1) := by decide +kernel
theorem dX1_codeNumber_14 : decode cX1_codeNumber 14 = .ok (.ishr, 1) := by decide +kernel
theorem dX1_codeNumber_15 : decode cX1_codeNumber 15 = .ok (.bipush 7, 2) := by decide +kernel
theorem dX1_codeNumber_17 : decode cX1_codeNumber 17 = .ok (.iand, 1) := by decide +kernel
theorem dX1_codeNumber_18 : decode cX1_codeNumber 18 = .ok (.ireturn, 1) := by decide +kernel
theorem dX1_priceAt_0 : decode cX1_priceAt 0 = .ok (.aload_n 0, 1) := by decide +kernel
theorem dX1_priceAt_1 : decode cX1_priceAt 1 = .ok (.getfield 18, 3) := by decide +kernel
theorem dX1_priceAt_4 : decode cX1_priceAt 4 = .ok (.ldc2_w 39, 3) := by decide +kernel
theorem dX1_priceAt_7 : decode cX1_priceAt 7 = .ok (.lmul, 1) := by decide +kernel
theorem dX1_priceAt_8 : decode cX1_priceAt 8 = .ok (.aload_n 0, 1) := by decide +kernel
theorem dX1_priceAt_9 : decode cX1_priceAt 9 = .ok (.getfield 22, 3) := by decide +kernel
theorem dX1_priceAt_12 : decode cX1_priceAt 12 = .ok (.iload_n 1, 1) := by decide +kernel
theorem dX1_priceAt_13 : decode cX1_priceAt 13 = .ok (.i2l, 1) := by decide +kernel
theorem dX1_priceAt_14 : decode cX1_priceAt 14 = .ok (.lmul, 1) := by decide +kernel
theorem dX1_priceAt_15 : decode cX1_priceAt 15 = .ok (.ladd, 1) := by decide +kernel
theorem dX1_priceAt_16 : decode cX1_priceAt 16 = .ok (.lreturn, 1) := by decide +kernel
theorem dX1_isDearer_0 : decode cX1_isDearer 0 = .ok (.aload_n 1, 1) := by decide +kernel
theorem dX1_isDearer_1 : decode cX1_isDearer 1 = .ok (.ifnull 39, 3) := by decide +kernel
theorem dX1_isDearer_4 : decode cX1_isDearer 4 = .ok (.aload_n 1, 1) := by decide +kernel
theorem dX1_isDearer_5 : decode cX1_isDearer 5 = .ok (.getfield 18, 3) := by decide +kernel
theorem dX1_isDearer_8 : decode cX1_isDearer 8 = .ok (.lload 4, 2) := by decide +kernel
theorem dX1_isDearer_10 : decode cX1_isDearer 10 = .ok (.lmul, 1) := by decide +kernel
theorem dX1_isDearer_11 : decode cX1_isDearer 11 = .ok (.aload_n 1, 1) := by decide +kernel
theorem dX1_isDearer_12 : decode cX1_isDearer 12 = .ok (.getfield 22, 3) := by decide +kernel
theorem dX1_isDearer_15 : decode cX1_isDearer 15 = .ok (.lload_n 2, 1) := by decide +kernel
theorem dX1_isDearer_16 : decode cX1_isDearer 16 = .ok (.lmul, 1) := by decide +kernel
theorem dX1_isDearer_17 : decode cX1_isDearer 17 = .ok (.ladd, 1) := by decide +kernel
theorem dX1_isDearer_18 : decode cX1_isDearer 18 = .ok (.aload_n 0, 1) := by decide +kernel
theorem dX1_isDearer_19 : decode cX1_isDearer 19 = .ok (.getfield 18, 3) := by decide +kernel
theorem dX1_isDearer_22 : decode cX1_isDearer 22 = .ok (.lload 4, 2) := by decide +kernel
theorem dX1_isDearer_24 : decode cX1_isDearer 24 = .ok (.lmul, 1) := by decide +kernel
theorem dX1_isDearer_25 : decode cX1_isDearer 25 = .ok (.aload_n 0, 1) := by decide +kernel
theorem dX1_isDearer_26 : decode cX1_isDearer 26 = .ok (.getfield 22, 3) := by decide +kernel
theorem dX1_isDearer_29 : decode cX1_isDearer 29 = .ok (.lload_n 2, 1) := by decide +kernel
theorem dX1_isDearer_30 : decode cX1_isDearer 30 = .ok (.lmul, 1) := by decide +kernel
theorem dX1_isDearer_31 : decode cX1_isDearer 31 = .ok (.ladd, 1) := by decide +kernel
theorem dX1_isDearer_32 : decode cX1_isDearer 32 = .ok (.lcmp, 1) := by decide +kernel
theorem dX1_isDearer_33 : decode cX1_isDearer 33 = .ok (.ifCond .ge 7, 3) := by decide +kernel
theorem dX1_isDearer_36 : decode cX1_isDearer 36 = .ok (.iconst 1, 1) := by decide +kernel
theorem dX1_isDearer_37 : decode cX1_isDearer 37 = .ok (.goto 4, 3) := by decide +kernel
theorem dX1_isDearer_40 : decode cX1_isDearer 40 = .ok (.iconst 0, 1) := by decide +kernel
theorem dX1_isDearer_41 : decode cX1_isDearer 41 = .ok (.ireturn, 1) := by decide +kernel
theorem dX1_hasLineOf_0 : decode cX1_hasLineOf 0 = .ok (.aload_n 1, 1) := by decide +kernel
theorem dX1_hasLineOf_1 : decode cX1_hasLineOf 1 = .ok (.ifnull 31, 3) := by decide +kernel
theorem dX1_hasLineOf_4 : decode cX1_hasLineOf 4 = .ok (.aload_n 0, 1) := by decide +kernel
theorem dX1_hasLineOf_5 : decode cX1_hasLineOf 5 = .ok (.getfield 18, 3) := by decide +kernel
theorem dX1_hasLineOf_8 : decode cX1_hasLineOf 8 = .ok (.aload_n 1, 1) := by decide +kernel
theorem dX1_hasLineOf_9 : decode cX1_hasLineOf 9 = .ok (.getfield 18, 3) := by decide +kernel
theorem dX1_hasLineOf_12 : decode cX1_hasLineOf 12 = .ok (.lcmp, 1) := by decide +kernel
theorem dX1_hasLineOf_13 : decode cX1_hasLineOf 13 = .ok (.ifCond .ne 19, 3) := by decide +kernel
theorem dX1_hasLineOf_16 : decode cX1_hasLineOf 16 = .ok (.aload_n 0, 1) := by decide +kernel
theorem dX1_hasLineOf_17 : decode cX1_hasLineOf 17 = .ok (.getfield 22, 3) := by decide +kernel
theorem dX1_hasLineOf_20 : decode cX1_hasLineOf 20 = .ok (.aload_n 1, 1) := by decide +kernel
theorem dX1_hasLineOf_21 : decode cX1_hasLineOf 21 = .ok (.getfield 22, 3) := by decide +kernel
theorem dX1_hasLineOf_24 : decode cX1_hasLineOf 24 = .ok (.lcmp, 1) := by decide +kernel
theorem dX1_hasLineOf_25 : decode cX1_hasLineOf 25 = .ok (.ifCond .ne 7, 3) := by decide +kernel
theorem dX1_hasLineOf_28 : decode cX1_hasLineOf 28 = .ok (.iconst 1, 1) := by decide +kernel
theorem dX1_hasLineOf_29 : decode cX1_hasLineOf 29 = .ok (.goto 4, 3) := by decide +kernel
theorem dX1_hasLineOf_32 : decode cX1_hasLineOf 32 = .ok (.iconst 0, 1) := by decide +kernel
theorem dX1_hasLineOf_33 : decode cX1_hasLineOf 33 = .ok (.ireturn, 1) := by decide +kernel
set_option maxRecDepth 20000 in
theorem ggX1_joinedCode_J6_bitCount_0f7a4 : GoodIn wsX1_joinedCode wsJ6_bitCount_0f7a4 := goodIn_r _ [4, 5, 6, 7] (by decide +kernel) (by decide +kernel)
set_option maxRecDepth 20000 in
theorem gX1_joinedCode_J6_bitCount_0f7a4 : GoodIn wsX1_joinedCode (va_wsS RX1 29 yJ6_bitCount_0f7a4 wsJ6_bitCount_0f7a4) := goodIn_app (goodIn_of _ (by decide +kernel)) ggX1_joinedCode_J6_bitCount_0f7a4
theorem dX1_joinedCode_0 : decode cX1_joinedCode 0 = .ok (.iconst 3, 1) := by decide +kernel
theorem dX1_joinedCode_1 : decode cX1_joinedCode 1 = .ok (.iconst 2, 1) := by decide +kernel
theorem dX1_joinedCode_2 : decode cX1_joinedCode 2 = .ok (.iload_n 3, 1) := by decide +kernel
theorem dX1_joinedCode_3 : decode cX1_joinedCode 3 = .ok (.invokestatic 29, 3) := by decide +kernel
theorem dX1_joinedCode_6 : decode cX1_joinedCode 6 = .ok (.imul, 1) := by decide +kernel
theorem dX1_joinedCode_7 : decode cX1_joinedCode 7 = .ok (.iconst 1, 1) := by decide +kernel
theorem dX1_joinedCode_8 : decode cX1_joinedCode 8 = .ok (.isub, 1) := by decide +kernel
theorem dX1_joinedCode_9 : decode cX1_joinedCode 9 = .ok (.imul, 1) := by decide +kernel
theorem dX1_joinedCode_10 : decode cX1_joinedCode 10 = .ok (.istore 5, 2) := by decide +kernel
theorem dX1_joinedCode_12 : decode cX1_joinedCode 12 = .ok (.iconst 3, 1) := by decide +kernel
theorem dX1_joinedCode_13 : decode cX1_joinedCode 13 = .ok (.iconst 2, 1) := by decide +kernel
theorem dX1_joinedCode_14 : decode cX1_joinedCode 14 = .ok (.iload_n 1, 1) := by decide +kernel
theorem dX1_joinedCode_15 : decode cX1_joinedCode 15 = .ok (.invokestatic 29, 3) := by decide +kernel
theorem dX1_joinedCode_18 : decode cX1_joinedCode 18 = .ok (.imul, 1) := by decide +kernel
theorem dX1_joinedCode_19 : decode cX1_joinedCode 19 = .ok (.iconst 1, 1) := by decide +kernel
theorem dX1_joinedCode_20 : decode cX1_joinedCode 20 = .ok (.isub, 1) := by decide +kernel
theorem dX1_joinedCode_21 : decode cX1_joinedCode 21 = .ok (.imul, 1) := by decide +kernel
theorem dX1_joinedCode_22 : decode cX1_joinedCode 22 = .ok (.istore 6, 2) := by decide +kernel
theorem dX1_joinedCode_24 : decode cX1_joinedCode 24 = .ok (.iconst 4, 1) := by decide +kernel
theorem dX1_joinedCode_25 : decode cX1_joinedCode 25 = .ok (.iload_n 0, 1) := by decide +kernel
theorem dX1_joinedCode_26 : decode cX1_joinedCode 26 = .ok (.iadd, 1) := by decide +kernel
theorem dX1_joinedCode_27 : decode cX1_joinedCode 27 = .ok (.iload 6, 2) := by decide +kernel
theorem dX1_joinedCode_29 : decode cX1_joinedCode 29 = .ok (.iload 5, 2) := by decide +kernel
theorem dX1_joinedCode_31 : decode cX1_joinedCode 31 = .ok (.iadd, 1) := by decide +kernel
theorem dX1_joinedCode_32 : decode cX1_joinedCode 32 = .ok (.ishl, 1) := by decide +kernel
theorem dX1_joinedCode_33 : decode cX1_joinedCode 33 = .ok (.iload_n 2, 1) := by decide +kernel
theorem dX1_joinedCode_34 : decode cX1_joinedCode 34 = .ok (.iload 5, 2) := by decide +kernel
theorem dX1_joinedCode_36 : decode cX1_joinedCode 36 = .ok (.ishl, 1) := by decide +kernel
theorem dX1_joinedCode_37 : decode cX1_joinedCode 37 = .ok (.ior, 1) := by decide +kernel
theorem dX1_joinedCode_38 : decode cX1_joinedCode 38 = .ok (.iload 4, 2) := by decide +kernel
theorem dX1_joinedCode_40 : decode cX1_joinedCode 40 = .ok (.ior, 1) := by decide +kernel
theorem dX1_joinedCode_41 : decode cX1_joinedCode 41 = .ok (.ireturn, 1) := by decide +kernel
