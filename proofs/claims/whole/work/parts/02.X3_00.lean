theorem dX3_init_0 : decode cX3_init 0 = .ok (.aload_n 0, 1) := by decide +kernel
theorem dX3_init_1 : decode cX3_init 1 = .ok (.invokespecial 3, 3) := by decide +kernel
theorem dX3_init_4 : decode cX3_init 4 = .ok (.aload_n 0, 1) := by decide +kernel
theorem dX3_init_5 : decode cX3_init 5 = .ok (.iconst (-1), 1) := by decide +kernel
theorem dX3_init_6 : decode cX3_init 6 = .ok (.putfield 9, 3) := by decide +kernel
theorem dX3_init_9 : decode cX3_init 9 = .ok (.aload_n 0, 1) := by decide +kernel
theorem dX3_init_10 : decode cX3_init 10 = .ok (.iconst (-1), 1) := by decide +kernel
theorem dX3_init_11 : decode cX3_init 11 = .ok (.putfield 15, 3) := by decide +kernel
theorem dX3_init_14 : decode cX3_init 14 = .ok (.aload_n 0, 1) := by decide +kernel
theorem dX3_init_15 : decode cX3_init 15 = .ok (.iconst 4, 1) := by decide +kernel
theorem dX3_init_16 : decode cX3_init 16 = .ok (.newarray .int, 2) := by decide +kernel
theorem dX3_init_18 : decode cX3_init 18 = .ok (.putfield 18, 3) := by decide +kernel
theorem dX3_init_21 : decode cX3_init 21 = .ok (.aload_n 0, 1) := by decide +kernel
theorem dX3_init_22 : decode cX3_init 22 = .ok (.bipush 96, 2) := by decide +kernel
theorem dX3_init_24 : decode cX3_init 24 = .ok (.newarray .int, 2) := by decide +kernel
theorem dX3_init_26 : decode cX3_init 26 = .ok (.putfield 22, 3) := by decide +kernel
theorem dX3_init_29 : decode cX3_init 29 = .ok (.aload_n 0, 1) := by decide +kernel
theorem dX3_init_30 : decode cX3_init 30 = .ok (.iconst 4, 1) := by decide +kernel
theorem dX3_init_31 : decode cX3_init 31 = .ok (.newarray .int, 2) := by decide +kernel
theorem dX3_init_33 : decode cX3_init 33 = .ok (.putfield 25, 3) := by decide +kernel
theorem dX3_init_36 : decode cX3_init 36 = .ok (.aload_n 0, 1) := by decide +kernel
theorem dX3_init_37 : decode cX3_init 37 = .ok (.iconst 4, 1) := by decide +kernel
theorem dX3_init_38 : decode cX3_init 38 = .ok (.newarray .int, 2) := by decide +kernel
theorem dX3_init_40 : decode cX3_init 40 = .ok (.putfield 28, 3) := by decide +kernel
theorem dX3_init_43 : decode cX3_init 43 = .ok (.aload_n 0, 1) := by decide +kernel
theorem dX3_init_44 : decode cX3_init 44 = .ok (.iconst 4, 1) := by decide +kernel
theorem dX3_init_45 : decode cX3_init 45 = .ok (.newarray .int, 2) := by decide +kernel
theorem dX3_init_47 : decode cX3_init 47 = .ok (.putfield 31, 3) := by decide +kernel
theorem dX3_init_50 : decode cX3_init 50 = .ok (.aload_n 0, 1) := by decide +kernel
theorem dX3_init_51 : decode cX3_init 51 = .ok (.iconst 4, 1) := by decide +kernel
theorem dX3_init_52 : decode cX3_init 52 = .ok (.newarray .int, 2) := by decide +kernel
theorem dX3_init_54 : decode cX3_init 54 = .ok (.putfield 34, 3) := by decide +kernel
theorem dX3_init_57 : decode cX3_init 57 = .ok (.aload_n 0, 1) := by decide +kernel
theorem dX3_init_58 : decode cX3_init 58 = .ok (.iconst 4, 1) := by decide +kernel
theorem dX3_init_59 : decode cX3_init 59 = .ok (.newarray .int, 2) := by decide +kernel
theorem dX3_init_61 : decode cX3_init 61 = .ok (.putfield 37, 3) := by decide +kernel
theorem dX3_init_64 : decode cX3_init 64 = .ok (.aload_n 0, 1) := by decide +kernel
theorem dX3_init_65 : decode cX3_init 65 = .ok (.iconst 4, 1) := by decide +kernel
theorem dX3_init_66 : decode cX3_init 66 = .ok (.newarray .int, 2) := by decide +kernel
theorem dX3_init_68 : decode cX3_init 68 = .ok (.putfield 40, 3) := by decide +kernel
theorem dX3_init_71 : decode cX3_init 71 = .ok (.return_, 1) := by decide +kernel
theorem dX3_isTable_0 : decode cX3_isTable 0 = .ok (.iload_n 1, 1) := by decide +kernel
theorem dX3_isTable_1 : decode cX3_isTable 1 = .ok (.ifCond .lt 20, 3) := by decide +kernel
theorem dX3_isTable_4 : decode cX3_isTable 4 = .ok (.iload_n 1, 1) := by decide +kernel
theorem dX3_isTable_5 : decode cX3_isTable 5 = .ok (.aload_n 0, 1) := by decide +kernel
theorem dX3_isTable_6 : decode cX3_isTable 6 = .ok (.getfield 43, 3) := by decide +kernel
theorem dX3_isTable_9 : decode cX3_isTable 9 = .ok (.if_icmp .ge 12, 3) := by decide +kernel
theorem dX3_isTable_12 : decode cX3_isTable 12 = .ok (.iload_n 1, 1) := by decide +kernel
theorem dX3_isTable_13 : decode cX3_isTable 13 = .ok (.iconst 4, 1) := by decide +kernel
theorem dX3_isTable_14 : decode cX3_isTable 14 = .ok (.if_icmp .ge 7, 3) := by decide +kernel
theorem dX3_isTable_17 : decode cX3_isTable 17 = .ok (.iconst 1, 1) := by decide +kernel
theorem dX3_isTable_18 : decode cX3_isTable 18 = .ok (.goto 4, 3) := by decide +kernel
theorem dX3_isTable_21 : decode cX3_isTable 21 = .ok (.iconst 0, 1) := by decide +kernel
theorem dX3_isTable_22 : decode cX3_isTable 22 = .ok (.ireturn, 1) := by decide +kernel
set_option maxRecDepth 20000 in
theorem ggX3_isField_X3_isTable : GoodIn wsX3_isField wsX3_isTable := goodIn_r _ [5, 6, 7, 8, 9, 10, 11, 12, 13, 14, 15, 16, 17, 18, 19] (by decide +kernel) (by decide +kernel)
set_option maxRecDepth 20000 in
theorem gX3_isField_X3_isTable : GoodIn wsX3_isField (wsV RX3 46 RX3 yX3_isTable wsX3_isTable) := goodIn_app (goodIn_of _ (by decide +kernel)) ggX3_isField_X3_isTable
theorem dX3_isField_0 : decode cX3_isField 0 = .ok (.aload_n 0, 1) := by decide +kernel
theorem dX3_isField_1 : decode cX3_isField 1 = .ok (.iload_n 1, 1) := by decide +kernel
theorem dX3_isField_2 : decode cX3_isField 2 = .ok (.invokevirtual 46, 3) := by decide +kernel
theorem dX3_isField_5 : decode cX3_isField 5 = .ok (.ifCond .eq 16, 3) := by decide +kernel
theorem dX3_isField_8 : decode cX3_isField 8 = .ok (.iload_n 2, 1) := by decide +kernel
theorem dX3_isField_9 : decode cX3_isField 9 = .ok (.ifCond .lt 12, 3) := by decide +kernel
theorem dX3_isField_12 : decode cX3_isField 12 = .ok (.iload_n 2, 1) := by decide +kernel
theorem dX3_isField_13 : decode cX3_isField 13 = .ok (.iconst 3, 1) := by decide +kernel
theorem dX3_isField_14 : decode cX3_isField 14 = .ok (.if_icmp .ge 7, 3) := by decide +kernel
theorem dX3_isField_17 : decode cX3_isField 17 = .ok (.iconst 1, 1) := by decide +kernel
theorem dX3_isField_18 : decode cX3_isField 18 = .ok (.goto 4, 3) := by decide +kernel
theorem dX3_isField_21 : decode cX3_isField 21 = .ok (.iconst 0, 1) := by decide +kernel
theorem dX3_isField_22 : decode cX3_isField 22 = .ok (.ireturn, 1) := by decide +kernel
theorem dX3_isPairing_0 : decode cX3_isPairing 0 = .ok (.iload_n 1, 1) := by decide +kernel
theorem dX3_isPairing_1 : decode cX3_isPairing 1 = .ok (.ifCond .lt 20, 3) := by decide +kernel
theorem dX3_isPairing_4 : decode cX3_isPairing 4 = .ok (.iload_n 1, 1) := by decide +kernel
theorem dX3_isPairing_5 : decode cX3_isPairing 5 = .ok (.aload_n 0, 1) := by decide +kernel
theorem dX3_isPairing_6 : decode cX3_isPairing 6 = .ok (.getfield 50, 3) := by decide +kernel
theorem dX3_isPairing_9 : decode cX3_isPairing 9 = .ok (.if_icmp .ge 12, 3) := by decide +kernel
theorem dX3_isPairing_12 : decode cX3_isPairing 12 = .ok (.iload_n 1, 1) := by decide +kernel
theorem dX3_isPairing_13 : decode cX3_isPairing 13 = .ok (.iconst 4, 1) := by decide +kernel
theorem dX3_isPairing_14 : decode cX3_isPairing 14 = .ok (.if_icmp .ge 7, 3) := by decide +kernel
theorem dX3_isPairing_17 : decode cX3_isPairing 17 = .ok (.iconst 1, 1) := by decide +kernel
theorem dX3_isPairing_18 : decode cX3_isPairing 18 = .ok (.goto 4, 3) := by decide +kernel
theorem dX3_isPairing_21 : decode cX3_isPairing 21 = .ok (.iconst 0, 1) := by decide +kernel
theorem dX3_isPairing_22 : decode cX3_isPairing 22 = .ok (.ireturn, 1) := by decide +kernel
theorem dX3_allTables_0 : decode cX3_allTables 0 = .ok (.iconst 1, 1) := by decide +kernel
theorem dX3_allTables_1 : decode cX3_allTables 1 = .ok (.aload_n 0, 1) := by decide +kernel
theorem dX3_allTables_2 : decode cX3_allTables 2 = .ok (.getfield 43, 3) := by decide +kernel
theorem dX3_allTables_5 : decode cX3_allTables 5 = .ok (.ishl, 1) := by decide +kernel
theorem dX3_allTables_6 : decode cX3_allTables 6 = .ok (.iconst 1, 1) := by decide +kernel
theorem dX3_allTables_7 : decode cX3_allTables 7 = .ok (.isub, 1) := by decide +kernel
theorem dX3_allTables_8 : decode cX3_allTables 8 = .ok (.ireturn, 1) := by decide +kernel
set_option maxRecDepth 20000 in
theorem ggX3_rowsOf_X3_isTable : GoodIn wsX3_rowsOf wsX3_isTable := goodIn_r _ [6, 7, 8, 9, 10, 11, 12, 13, 14, 15, 16, 17, 18, 19, 20] (by decide +kernel) (by decide +kernel)
set_option maxRecDepth 20000 in
theorem gX3_rowsOf_X3_isTable : GoodIn wsX3_rowsOf (wsV RX3 46 RX3 yX3_isTable wsX3_isTable) := goodIn_app (goodIn_of _ (by decide +kernel)) ggX3_rowsOf_X3_isTable
theorem dX3_rowsOf_0 : decode cX3_rowsOf 0 = .ok (.aload_n 0, 1) := by decide +kernel
theorem dX3_rowsOf_1 : decode cX3_rowsOf 1 = .ok (.iload_n 1, 1) := by decide +kernel
theorem dX3_rowsOf_2 : decode cX3_rowsOf 2 = .ok (.invokevirtual 46, 3) := by decide +kernel
theorem dX3_rowsOf_5 : decode cX3_rowsOf 5 = .ok (.ifCond .eq 12, 3) := by decide +kernel
theorem dX3_rowsOf_8 : decode cX3_rowsOf 8 = .ok (.aload_n 0, 1) := by decide +kernel
theorem dX3_rowsOf_9 : decode cX3_rowsOf 9 = .ok (.getfield 18, 3) := by decide +kernel
theorem dX3_rowsOf_12 : decode cX3_rowsOf 12 = .ok (.iload_n 1, 1) := by decide +kernel
theorem dX3_rowsOf_13 : decode cX3_rowsOf 13 = .ok (.iaload, 1) := by decide +kernel
theorem dX3_rowsOf_14 : decode cX3_rowsOf 14 = .ok (.goto 4, 3) := by decide +kernel
theorem dX3_rowsOf_17 : decode cX3_rowsOf 17 = .ok (.iconst 0, 1) := by decide +kernel
theorem dX3_rowsOf_18 : decode cX3_rowsOf 18 = .ok (.ireturn, 1) := by decide +kernel
theorem dX3_allRows_0 : decode cX3_allRows 0 = .ok (.iconst 0, 1) := by decide +kernel
theorem dX3_allRows_1 : decode cX3_allRows 1 = .ok (.istore_n 1, 1) := by decide +kernel
theorem dX3_allRows_2 : decode cX3_allRows 2 = .ok (.iconst 0, 1) := by decide +kernel
theorem dX3_allRows_3 : decode cX3_allRows 3 = .ok (.istore_n 2, 1) := by decide +kernel
theorem dX3_allRows_4 : decode cX3_allRows 4 = .ok (.iload_n 2, 1) := by decide +kernel
theorem dX3_allRows_5 : decode cX3_allRows 5 = .ok (.iconst 4, 1) := by decide +kernel
theorem dX3_allRows_6 : decode cX3_allRows 6 = .ok (.if_icmp .ge 18, 3) := by decide +kernel
theorem dX3_allRows_9 : decode cX3_allRows 9 = .ok (.iload_n 1, 1) := by decide +kernel
theorem dX3_allRows_10 : decode cX3_allRows 10 = .ok (.aload_n 0, 1) := by decide +kernel
theorem dX3_allRows_11 : decode cX3_allRows 11 = .ok (.getfield 18, 3) := by decide +kernel
theorem dX3_allRows_14 : decode cX3_allRows 14 = .ok (.iload_n 2, 1) := by decide +kernel
theorem dX3_allRows_15 : decode cX3_allRows 15 = .ok (.iaload, 1) := by decide +kernel
theorem dX3_allRows_16 : decode cX3_allRows 16 = .ok (.iadd, 1) := by decide +kernel
theorem dX3_allRows_17 : decode cX3_allRows 17 = .ok (.istore_n 1, 1) := by decide +kernel
theorem dX3_allRows_18 : decode cX3_allRows 18 = .ok (.iinc 2 1, 3) := by decide +kernel
theorem dX3_allRows_21 : decode cX3_allRows 21 = .ok (.goto (-17), 3) := by decide +kernel
theorem dX3_allRows_24 : decode cX3_allRows 24 = .ok (.iload_n 1, 1) := by decide +kernel
theorem dX3_allRows_25 : decode cX3_allRows 25 = .ok (.ireturn, 1) := by decide +kernel
theorem dX3_field_0 : decode cX3_field 0 = .ok (.iload_n 1, 1) := by decide +kernel
theorem dX3_field_1 : decode cX3_field 1 = .ok (.ifCond .lt 27, 3) := by decide +kernel
theorem dX3_field_4 : decode cX3_field 4 = .ok (.iload_n 1, 1) := by decide +kernel
theorem dX3_field_5 : decode cX3_field 5 = .ok (.iconst 4, 1) := by decide +kernel
theorem dX3_field_6 : decode cX3_field 6 = .ok (.if_icmp .ge 22, 3) := by decide +kernel
theorem dX3_field_9 : decode cX3_field 9 = .ok (.iload_n 2, 1) := by decide +kernel
theorem dX3_field_10 : decode cX3_field 10 = .ok (.ifCond .lt 18, 3) := by decide +kernel
theorem dX3_field_13 : decode cX3_field 13 = .ok (.iload_n 2, 1) := by decide +kernel
theorem dX3_field_14 : decode cX3_field 14 = .ok (.bipush 8, 2) := by decide +kernel
theorem dX3_field_16 : decode cX3_field 16 = .ok (.if_icmp .ge 12, 3) := by decide +kernel
theorem dX3_field_19 : decode cX3_field 19 = .ok (.iload_n 3, 1) := by decide +kernel
theorem dX3_field_20 : decode cX3_field 20 = .ok (.ifCond .lt 8, 3) := by decide +kernel
theorem dX3_field_23 : decode cX3_field 23 = .ok (.iload_n 3, 1) := by decide +kernel
theorem dX3_field_24 : decode cX3_field 24 = .ok (.iconst 3, 1) := by decide +kernel
theorem dX3_field_25 : decode cX3_field 25 = .ok (.if_icmp .lt 5, 3) := by decide +kernel
theorem dX3_field_28 : decode cX3_field 28 = .ok (.iconst 0, 1) := by decide +kernel
theorem dX3_field_29 : decode cX3_field 29 = .ok (.ireturn, 1) := by decide +kernel
theorem dX3_field_30 : decode cX3_field 30 = .ok (.aload_n 0, 1) := by decide +kernel
theorem dX3_field_31 : decode cX3_field 31 = .ok (.getfield 22, 3) := by decide +kernel
theorem dX3_field_34 : decode cX3_field 34 = .ok (.iload_n 1, 1) := by decide +kernel
theorem dX3_field_35 : decode cX3_field 35 = .ok (.bipush 8, 2) := by decide +kernel
theorem dX3_field_37 : decode cX3_field 37 = .ok (.imul, 1) := by decide +kernel
theorem dX3_field_38 : decode cX3_field 38 = .ok (.iload_n 2, 1) := by decide +kernel
theorem dX3_field_39 : decode cX3_field 39 = .ok (.iadd, 1) := by decide +kernel
theorem dX3_field_40 : decode cX3_field 40 = .ok (.iconst 3, 1) := by decide +kernel
theorem dX3_field_41 : decode cX3_field 41 = .ok (.imul, 1) := by decide +kernel
theorem dX3_field_42 : decode cX3_field 42 = .ok (.iload_n 3, 1) := by decide +kernel
theorem dX3_field_43 : decode cX3_field 43 = .ok (.iadd, 1) := by decide +kernel
theorem dX3_field_44 : decode cX3_field 44 = .ok (.iaload, 1) := by decide +kernel
theorem dX3_field_45 : decode cX3_field 45 = .ok (.ireturn, 1) := by decide +kernel
theorem dX3_addTable_0 : decode cX3_addTable 0 = .ok (.aload_n 0, 1) := by decide +kernel
theorem dX3_addTable_1 : decode cX3_addTable 1 = .ok (.dup, 1) := by decide +kernel
theorem dX3_addTable_2 : decode cX3_addTable 2 = .ok (.getfield 43, 3) := by decide +kernel
theorem dX3_addTable_5 : decode cX3_addTable 5 = .ok (.iconst 1, 1) := by decide +kernel
theorem dX3_addTable_6 : decode cX3_addTable 6 = .ok (.iadd, 1) := by decide +kernel
theorem dX3_addTable_7 : decode cX3_addTable 7 = .ok (.putfield 43, 3) := by decide +kernel
theorem dX3_addTable_10 : decode cX3_addTable 10 = .ok (.aload_n 0, 1) := by decide +kernel
theorem dX3_addTable_11 : decode cX3_addTable 11 = .ok (.getfield 43, 3) := by decide +kernel
theorem dX3_addTable_14 : decode cX3_addTable 14 = .ok (.iconst 1, 1) := by decide +kernel
theorem dX3_addTable_15 : decode cX3_addTable 15 = .ok (.isub, 1) := by decide +kernel
theorem dX3_addTable_16 : decode cX3_addTable 16 = .ok (.ireturn, 1) := by decide +kernel
set_option maxRecDepth 20000 in
theorem ggX3_addRow_X3_rowsOf : GoodIn wsX3_addRow wsX3_rowsOf := goodIn_r _ [7, 2, 8, 9, 10, 6, 11, 12, 13, 14, 15, 16, 17, 18, 19, 20, 21, 22, 23, 24, 25] (by decide +kernel) (by decide +kernel)
set_option maxRecDepth 20000 in
theorem gX3_addRow_X3_rowsOf : GoodIn wsX3_addRow (wsV RX3 53 RX3 yX3_rowsOf wsX3_rowsOf) := goodIn_app (goodIn_of _ (by decide +kernel)) ggX3_addRow_X3_rowsOf
set_option maxRecDepth 20000 in
theorem ggX3_addRow_X3_isTable : GoodIn wsX3_addRow wsX3_isTable := goodIn_r _ [11, 12, 13, 14, 15, 16, 17, 18, 19, 20, 21, 22, 23, 24, 25] (by decide +kernel) (by decide +kernel)
set_option maxRecDepth 20000 in
theorem gX3_addRow_X3_isTable : GoodIn wsX3_addRow (wsV RX3 46 RX3 yX3_isTable wsX3_isTable) := goodIn_app (goodIn_of _ (by decide +kernel)) ggX3_addRow_X3_isTable
theorem dX3_addRow_0 : decode cX3_addRow 0 = .ok (.aload_n 0, 1) := by decide +kernel
theorem dX3_addRow_1 : decode cX3_addRow 1 = .ok (.iload_n 1, 1) := by decide +kernel
theorem dX3_addRow_2 : decode cX3_addRow 2 = .ok (.invokevirtual 53, 3) := by decide +kernel
theorem dX3_addRow_5 : decode cX3_addRow 5 = .ok (.istore 5, 2) := by decide +kernel
theorem dX3_addRow_7 : decode cX3_addRow 7 = .ok (.aload_n 0, 1) := by decide +kernel
theorem dX3_addRow_8 : decode cX3_addRow 8 = .ok (.iload_n 1, 1) := by decide +kernel
theorem dX3_addRow_9 : decode cX3_addRow 9 = .ok (.invokevirtual 46, 3) := by decide +kernel
theorem dX3_addRow_12 : decode cX3_addRow 12 = .ok (.ifCond .eq 10, 3) := by decide +kernel
theorem dX3_addRow_15 : decode cX3_addRow 15 = .ok (.iload 5, 2) := by decide +kernel
theorem dX3_addRow_17 : decode cX3_addRow 17 = .ok (.bipush 8, 2) := by decide +kernel
theorem dX3_addRow_19 : decode cX3_addRow 19 = .ok (.if_icmp .lt 6, 3) := by decide +kernel
theorem dX3_addRow_22 : decode cX3_addRow 22 = .ok (.bipush (-4), 2) := by decide +kernel
theorem dX3_addRow_24 : decode cX3_addRow 24 = .ok (.ireturn, 1) := by decide +kernel
theorem dX3_addRow_25 : decode cX3_addRow 25 = .ok (.iload_n 1, 1) := by decide +kernel
theorem dX3_addRow_26 : decode cX3_addRow 26 = .ok (.bipush 8, 2) := by decide +kernel
theorem dX3_addRow_28 : decode cX3_addRow 28 = .ok (.imul, 1) := by decide +kernel
theorem dX3_addRow_29 : decode cX3_addRow 29 = .ok (.iload 5, 2) := by decide +kernel
theorem dX3_addRow_31 : decode cX3_addRow 31 = .ok (.iadd, 1) := by decide +kernel
theorem dX3_addRow_32 : decode cX3_addRow 32 = .ok (.iconst 3, 1) := by decide +kernel
theorem dX3_addRow_33 : decode cX3_addRow 33 = .ok (.imul, 1) := by decide +kernel
theorem dX3_addRow_34 : decode cX3_addRow 34 = .ok (.istore 6, 2) := by decide +kernel
theorem dX3_addRow_36 : decode cX3_addRow 36 = .ok (.aload_n 0, 1) := by decide +kernel
theorem dX3_addRow_37 : decode cX3_addRow 37 = .ok (.getfield 22, 3) := by decide +kernel
theorem dX3_addRow_40 : decode cX3_addRow 40 = .ok (.iload 6, 2) := by decide +kernel
theorem dX3_addRow_42 : decode cX3_addRow 42 = .ok (.iload_n 2, 1) := by decide +kernel
theorem dX3_addRow_43 : decode cX3_addRow 43 = .ok (.iastore, 1) := by decide +kernel
theorem dX3_addRow_44 : decode cX3_addRow 44 = .ok (.aload_n 0, 1) := by decide +kernel
theorem dX3_addRow_45 : decode cX3_addRow 45 = .ok (.getfield 22, 3) := by decide +kernel
theorem dX3_addRow_48 : decode cX3_addRow 48 = .ok (.iload 6, 2) := by decide +kernel
theorem dX3_addRow_50 : decode cX3_addRow 50 = .ok (.iconst 1, 1) := by decide +kernel
theorem dX3_addRow_51 : decode cX3_addRow 51 = .ok (.iadd, 1) := by decide +kernel
theorem dX3_addRow_52 : decode cX3_addRow 52 = .ok (.iload_n 3, 1) := by decide +kernel
theorem dX3_addRow_53 : decode cX3_addRow 53 = .ok (.iastore, 1) := by decide +kernel
theorem dX3_addRow_54 : decode cX3_addRow 54 = .ok (.aload_n 0, 1) := by decide +kernel
theorem dX3_addRow_55 : decode cX3_addRow 55 = .ok (.getfield 22, 3) := by decide +kernel
theorem dX3_addRow_58 : decode cX3_addRow 58 = .ok (.iload 6, 2) := by decide +kernel
theorem dX3_addRow_60 : decode cX3_addRow 60 = .ok (.iconst 2, 1) := by decide +kernel
theorem dX3_addRow_61 : decode cX3_addRow 61 = .ok (.iadd, 1) := by decide +kernel
theorem dX3_addRow_62 : decode cX3_addRow 62 = .ok (.iload 4, 2) := by decide +kernel
theorem dX3_addRow_64 : decode cX3_addRow 64 = .ok (.iastore, 1) := by decide +kernel
theorem dX3_addRow_65 : decode cX3_addRow 65 = .ok (.aload_n 0, 1) := by decide +kernel
theorem dX3_addRow_66 : decode cX3_addRow 66 = .ok (.getfield 18, 3) := by decide +kernel
theorem dX3_addRow_69 : decode cX3_addRow 69 = .ok (.iload_n 1, 1) := by decide +kernel
theorem dX3_addRow_70 : decode cX3_addRow 70 = .ok (.dup2, 1) := by decide +kernel
theorem dX3_addRow_71 : decode cX3_addRow 71 = .ok (.iaload, 1) := by decide +kernel
theorem dX3_addRow_72 : decode cX3_addRow 72 = .ok (.iconst 1, 1) := by decide +kernel
theorem dX3_addRow_73 : decode cX3_addRow 73 = .ok (.iadd, 1) := by decide +kernel
theorem dX3_addRow_74 : decode cX3_addRow 74 = .ok (.iastore, 1) := by decide +kernel
theorem dX3_addRow_75 : decode cX3_addRow 75 = .ok (.iload 5, 2) := by decide +kernel
theorem dX3_addRow_77 : decode cX3_addRow 77 = .ok (.ireturn, 1) := by decide +kernel
theorem dX3_addPairing_0 : decode cX3_addPairing 0 = .ok (.aload_n 0, 1) := by decide +kernel
theorem dX3_addPairing_1 : decode cX3_addPairing 1 = .ok (.getfield 50, 3) := by decide +kernel
theorem dX3_addPairing_4 : decode cX3_addPairing 4 = .ok (.istore 6, 2) := by decide +kernel
theorem dX3_addPairing_6 : decode cX3_addPairing 6 = .ok (.iload 6, 2) := by decide +kernel
theorem dX3_addPairing_8 : decode cX3_addPairing 8 = .ok (.iconst 4, 1) := by decide +kernel
theorem dX3_addPairing_9 : decode cX3_addPairing 9 = .ok (.if_icmp .lt 6, 3) := by decide +kernel
theorem dX3_addPairing_12 : decode cX3_addPairing 12 = .ok (.bipush (-4), 2) := by decide +kernel
theorem dX3_addPairing_14 : decode cX3_addPairing 14 = .ok (.ireturn, 1) := by decide +kernel
theorem dX3_addPairing_15 : decode cX3_addPairing 15 = .ok (.aload_n 0, 1) := by decide +kernel
theorem dX3_addPairing_16 : decode cX3_addPairing 16 = .ok (.getfield 25, 3) := by decide +kernel
theorem dX3_addPairing_19 : decode cX3_addPairing 19 = .ok (.iload 6, 2) := by decide +kernel
theorem dX3_addPairing_21 : decode cX3_addPairing 21 = .ok (.iload_n 1, 1) := by decide +kernel
theorem dX3_addPairing_22 : decode cX3_addPairing 22 = .ok (.iastore, 1) := by decide +kernel
theorem dX3_addPairing_23 : decode cX3_addPairing 23 = .ok (.aload_n 0, 1) := by decide +kernel
theorem dX3_addPairing_24 : decode cX3_addPairing 24 = .ok (.getfield 28, 3) := by decide +kernel
theorem dX3_addPairing_27 : decode cX3_addPairing 27 = .ok (.iload 6, 2) := by decide +kernel
theorem dX3_addPairing_29 : decode cX3_addPairing 29 = .ok (.iload_n 2, 1) := by decide +kernel
theorem dX3_addPairing_30 : decode cX3_addPairing 30 = .ok (.iastore, 1) := by decide +kernel
theorem dX3_addPairing_31 : decode cX3_addPairing 31 = .ok (.aload_n 0, 1) := by decide +kernel
theorem dX3_addPairing_32 : decode cX3_addPairing 32 = .ok (.getfield 31, 3) := by decide +kernel
theorem dX3_addPairing_35 : decode cX3_addPairing 35 = .ok (.iload 6, 2) := by decide +kernel
theorem dX3_addPairing_37 : decode cX3_addPairing 37 = .ok (.iload_n 3, 1) := by decide +kernel
theorem dX3_addPairing_38 : decode cX3_addPairing 38 = .ok (.iastore, 1) := by decide +kernel
theorem dX3_addPairing_39 : decode cX3_addPairing 39 = .ok (.aload_n 0, 1) := by decide +kernel
theorem dX3_addPairing_40 : decode cX3_addPairing 40 = .ok (.getfield 34, 3) := by decide +kernel
theorem dX3_addPairing_43 : decode cX3_addPairing 43 = .ok (.iload 6, 2) := by decide +kernel
theorem dX3_addPairing_45 : decode cX3_addPairing 45 = .ok (.iload 4, 2) := by decide +kernel
theorem dX3_addPairing_47 : decode cX3_addPairing 47 = .ok (.iastore, 1) := by decide +kernel
theorem dX3_addPairing_48 : decode cX3_addPairing 48 = .ok (.aload_n 0, 1) := by decide +kernel
theorem dX3_addPairing_49 : decode cX3_addPairing 49 = .ok (.getfield 37, 3) := by decide +kernel
theorem dX3_addPairing_52 : decode cX3_addPairing 52 = .ok (.iload 6, 2) := by decide +kernel
theorem dX3_addPairing_54 : decode cX3_addPairing 54 = .ok (.iconst 1, 1) := by decide +kernel
theorem dX3_addPairing_55 : decode cX3_addPairing 55 = .ok (.iload_n 1, 1) := by decide +kernel
theorem dX3_addPairing_56 : decode cX3_addPairing 56 = .ok (.ishl, 1) := by decide +kernel
theorem dX3_addPairing_57 : decode cX3_addPairing 57 = .ok (.iconst 1, 1) := by decide +kernel
theorem dX3_addPairing_58 : decode cX3_addPairing 58 = .ok (.iload_n 3, 1) := by decide +kernel
theorem dX3_addPairing_59 : decode cX3_addPairing 59 = .ok (.ishl, 1) := by decide +kernel
theorem dX3_addPairing_60 : decode cX3_addPairing 60 = .ok (.ior, 1) := by decide +kernel
theorem dX3_addPairing_61 : decode cX3_addPairing 61 = .ok (.iastore, 1) := by decide +kernel
theorem dX3_addPairing_62 : decode cX3_addPairing 62 = .ok (.aload_n 0, 1) := by decide +kernel
theorem dX3_addPairing_63 : decode cX3_addPairing 63 = .ok (.getfield 40, 3) := by decide +kernel
theorem dX3_addPairing_66 : decode cX3_addPairing 66 = .ok (.iload 6, 2) := by decide +kernel
theorem dX3_addPairing_68 : decode cX3_addPairing 68 = .ok (.iload 5, 2) := by decide +kernel
theorem dX3_addPairing_70 : decode cX3_addPairing 70 = .ok (.ifCond .ne 7, 3) := by decide +kernel
theorem dX3_addPairing_73 : decode cX3_addPairing 73 = .ok (.iconst 1, 1) := by decide +kernel
theorem dX3_addPairing_74 : decode cX3_addPairing 74 = .ok (.goto 5, 3) := by decide +kernel
theorem dX3_addPairing_77 : decode cX3_addPairing 77 = .ok (.iload 5, 2) := by decide +kernel
theorem dX3_addPairing_79 : decode cX3_addPairing 79 = .ok (.iastore, 1) := by decide +kernel
theorem dX3_addPairing_80 : decode cX3_addPairing 80 = .ok (.iload 5, 2) := by decide +kernel
theorem dX3_addPairing_82 : decode cX3_addPairing 82 = .ok (.ifCond .ne 9, 3) := by decide +kernel
theorem dX3_addPairing_85 : decode cX3_addPairing 85 = .ok (.aload_n 0, 1) := by decide +kernel
theorem dX3_addPairing_86 : decode cX3_addPairing 86 = .ok (.iload 6, 2) := by decide +kernel
theorem dX3_addPairing_88 : decode cX3_addPairing 88 = .ok (.putfield 9, 3) := by decide +kernel
theorem dX3_addPairing_91 : decode cX3_addPairing 91 = .ok (.aload_n 0, 1) := by decide +kernel
theorem dX3_addPairing_92 : decode cX3_addPairing 92 = .ok (.dup, 1) := by decide +kernel
theorem dX3_addPairing_93 : decode cX3_addPairing 93 = .ok (.getfield 50, 3) := by decide +kernel
theorem dX3_addPairing_96 : decode cX3_addPairing 96 = .ok (.iconst 1, 1) := by decide +kernel
theorem dX3_addPairing_97 : decode cX3_addPairing 97 = .ok (.iadd, 1) := by decide +kernel
theorem dX3_addPairing_98 : decode cX3_addPairing 98 = .ok (.putfield 50, 3) := by decide +kernel
theorem dX3_addPairing_101 : decode cX3_addPairing 101 = .ok (.iload 6, 2) := by decide +kernel
theorem dX3_addPairing_103 : decode cX3_addPairing 103 = .ok (.ireturn, 1) := by decide +kernel
set_option maxRecDepth 20000 in
theorem ggX3_isWhole_X3_rowsOf : GoodIn wsX3_isWhole wsX3_rowsOf := goodIn_r _ [6, 7, 8, 9, 10, 5, 11, 1, 21, 22, 23, 24, 25, 26, 27, 28, 29, 30, 31, 32, 33] (by decide +kernel) (by decide +kernel)
set_option maxRecDepth 20000 in
theorem gX3_isWhole_X3_rowsOf : GoodIn wsX3_isWhole (wsV RX3 53 RX3 yX3_rowsOf wsX3_rowsOf) := goodIn_app (goodIn_of _ (by decide +kernel)) ggX3_isWhole_X3_rowsOf
set_option maxRecDepth 20000 in
theorem ggX3_isWhole_X3_joinedToFirst : GoodIn wsX3_isWhole wsX3_joinedToFirst := goodIn_r _ [15, 1, 16, 21, 22, 23, 24, 25, 26, 27, 28, 29, 30, 31, 32, 33] (by decide +kernel) (by decide +kernel)
set_option maxRecDepth 20000 in
theorem gX3_isWhole_X3_joinedToFirst : GoodIn wsX3_isWhole (wsV RX3 57 RX3 yX3_joinedToFirst wsX3_joinedToFirst) := goodIn_app (goodIn_of _ (by decide +kernel)) ggX3_isWhole_X3_joinedToFirst
set_option maxRecDepth 20000 in
theorem ggX3_isWhole_X3_allTables : GoodIn wsX3_isWhole wsX3_allTables := goodIn_r _ [20, 1, 21, 22, 23, 24, 25, 26, 27, 28, 29, 30, 31, 32, 33] (by decide +kernel) (by decide +kernel)
set_option maxRecDepth 20000 in
theorem gX3_isWhole_X3_allTables : GoodIn wsX3_isWhole (wsV RX3 61 RX3 yX3_allTables wsX3_allTables) := goodIn_app (goodIn_of _ (by decide +kernel)) ggX3_isWhole_X3_allTables
theorem dX3_isWhole_0 : decode cX3_isWhole 0 = .ok (.iconst 0, 1) := by decide +kernel
theorem dX3_isWhole_1 : decode cX3_isWhole 1 = .ok (.istore_n 1, 1) := by decide +kernel
theorem dX3_isWhole_2 : decode cX3_isWhole 2 = .ok (.iload_n 1, 1) := by decide +kernel
theorem dX3_isWhole_3 : decode cX3_isWhole 3 = .ok (.aload_n 0, 1) := by decide +kernel
theorem dX3_isWhole_4 : decode cX3_isWhole 4 = .ok (.getfield 43, 3) := by decide +kernel
theorem dX3_isWhole_7 : decode cX3_isWhole 7 = .ok (.if_icmp .ge 19, 3) := by decide +kernel
theorem dX3_isWhole_10 : decode cX3_isWhole 10 = .ok (.aload_n 0, 1) := by decide +kernel
theorem dX3_isWhole_11 : decode cX3_isWhole 11 = .ok (.iload_n 1, 1) := by decide +kernel
theorem dX3_isWhole_12 : decode cX3_isWhole 12 = .ok (.invokevirtual 53, 3) := by decide +kernel
theorem dX3_isWhole_15 : decode cX3_isWhole 15 = .ok (.ifCond .ne 5, 3) := by decide +kernel
theorem dX3_isWhole_18 : decode cX3_isWhole 18 = .ok (.iconst 0, 1) := by decide +kernel
theorem dX3_isWhole_19 : decode cX3_isWhole 19 = .ok (.ireturn, 1) := by decide +kernel
theorem dX3_isWhole_20 : decode cX3_isWhole 20 = .ok (.iinc 1 1, 3) := by decide +kernel
theorem dX3_isWhole_23 : decode cX3_isWhole 23 = .ok (.goto (-21), 3) := by decide +kernel
theorem dX3_isWhole_26 : decode cX3_isWhole 26 = .ok (.aload_n 0, 1) := by decide +kernel
theorem dX3_isWhole_27 : decode cX3_isWhole 27 = .ok (.getfield 43, 3) := by decide +kernel
theorem dX3_isWhole_30 : decode cX3_isWhole 30 = .ok (.ifCond .le 18, 3) := by decide +kernel
theorem dX3_isWhole_33 : decode cX3_isWhole 33 = .ok (.aload_n 0, 1) := by decide +kernel
theorem dX3_isWhole_34 : decode cX3_isWhole 34 = .ok (.invokevirtual 57, 3) := by decide +kernel
theorem dX3_isWhole_37 : decode cX3_isWhole 37 = .ok (.aload_n 0, 1) := by decide +kernel
theorem dX3_isWhole_38 : decode cX3_isWhole 38 = .ok (.invokevirtual 61, 3) := by decide +kernel
theorem dX3_isWhole_41 : decode cX3_isWhole 41 = .ok (.if_icmp .ne 7, 3) := by decide +kernel
theorem dX3_isWhole_44 : decode cX3_isWhole 44 = .ok (.iconst 1, 1) := by decide +kernel
theorem dX3_isWhole_45 : decode cX3_isWhole 45 = .ok (.goto 4, 3) := by decide +kernel
theorem dX3_isWhole_48 : decode cX3_isWhole 48 = .ok (.iconst 0, 1) := by decide +kernel
theorem dX3_isWhole_49 : decode cX3_isWhole 49 = .ok (.ireturn, 1) := by decide +kernel
theorem dX3_joinedToFirst_0 : decode cX3_joinedToFirst 0 = .ok (.iconst 1, 1) := by decide +kernel
theorem dX3_joinedToFirst_1 : decode cX3_joinedToFirst 1 = .ok (.istore_n 1, 1) := by decide +kernel
theorem dX3_joinedToFirst_2 : decode cX3_joinedToFirst 2 = .ok (.iconst 1, 1) := by decide +kernel
theorem dX3_joinedToFirst_3 : decode cX3_joinedToFirst 3 = .ok (.istore_n 2, 1) := by decide +kernel
theorem dX3_joinedToFirst_4 : decode cX3_joinedToFirst 4 = .ok (.iload_n 2, 1) := by decide +kernel
theorem dX3_joinedToFirst_5 : decode cX3_joinedToFirst 5 = .ok (.aload_n 0, 1) := by decide +kernel
theorem dX3_joinedToFirst_6 : decode cX3_joinedToFirst 6 = .ok (.getfield 43, 3) := by decide +kernel
theorem dX3_joinedToFirst_9 : decode cX3_joinedToFirst 9 = .ok (.if_icmp .ge 42, 3) := by decide +kernel
theorem dX3_joinedToFirst_12 : decode cX3_joinedToFirst 12 = .ok (.iconst 0, 1) := by decide +kernel
theorem dX3_joinedToFirst_13 : decode cX3_joinedToFirst 13 = .ok (.istore_n 3, 1) := by decide +kernel
theorem dX3_joinedToFirst_14 : decode cX3_joinedToFirst 14 = .ok (.iload_n 3, 1) := by decide +kernel
theorem dX3_joinedToFirst_15 : decode cX3_joinedToFirst 15 = .ok (.iconst 4, 1) := by decide +kernel
theorem dX3_joinedToFirst_16 : decode cX3_joinedToFirst 16 = .ok (.if_icmp .ge 29, 3) := by decide +kernel
theorem dX3_joinedToFirst_19 : decode cX3_joinedToFirst 19 = .ok (.aload_n 0, 1) := by decide +kernel
theorem dX3_joinedToFirst_20 : decode cX3_joinedToFirst 20 = .ok (.getfield 37, 3) := by decide +kernel
theorem dX3_joinedToFirst_23 : decode cX3_joinedToFirst 23 = .ok (.iload_n 3, 1) := by decide +kernel
theorem dX3_joinedToFirst_24 : decode cX3_joinedToFirst 24 = .ok (.iaload, 1) := by decide +kernel
theorem dX3_joinedToFirst_25 : decode cX3_joinedToFirst 25 = .ok (.iload_n 1, 1) := by decide +kernel
theorem dX3_joinedToFirst_26 : decode cX3_joinedToFirst 26 = .ok (.iand, 1) := by decide +kernel
theorem dX3_joinedToFirst_27 : decode cX3_joinedToFirst 27 = .ok (.ifCond .eq 12, 3) := by decide +kernel
theorem dX3_joinedToFirst_30 : decode cX3_joinedToFirst 30 = .ok (.iload_n 1, 1) := by decide +kernel
theorem dX3_joinedToFirst_31 : decode cX3_joinedToFirst 31 = .ok (.aload_n 0, 1) := by decide +kernel
theorem dX3_joinedToFirst_32 : decode cX3_joinedToFirst 32 = .ok (.getfield 37, 3) := by decide +kernel
theorem dX3_joinedToFirst_35 : decode cX3_joinedToFirst 35 = .ok (.iload_n 3, 1) := by decide +kernel
theorem dX3_joinedToFirst_36 : decode cX3_joinedToFirst 36 = .ok (.iaload, 1) := by decide +kernel
theorem dX3_joinedToFirst_37 : decode cX3_joinedToFirst 37 = .ok (.ior, 1) := by decide +kernel
theorem dX3_joinedToFirst_38 : decode cX3_joinedToFirst 38 = .ok (.istore_n 1, 1) := by decide +kernel
theorem dX3_joinedToFirst_39 : decode cX3_joinedToFirst 39 = .ok (.iinc 3 1, 3) := by decide +kernel
theorem dX3_joinedToFirst_42 : decode cX3_joinedToFirst 42 = .ok (.goto (-28), 3) := by decide +kernel
theorem dX3_joinedToFirst_45 : decode cX3_joinedToFirst 45 = .ok (.iinc 2 1, 3) := by decide +kernel
theorem dX3_joinedToFirst_48 : decode cX3_joinedToFirst 48 = .ok (.goto (-44), 3) := by decide +kernel
theorem dX3_joinedToFirst_51 : decode cX3_joinedToFirst 51 = .ok (.iload_n 1, 1) := by decide +kernel
theorem dX3_joinedToFirst_52 : decode cX3_joinedToFirst 52 = .ok (.ireturn, 1) := by decide +kernel
set_option maxRecDepth 20000 in
theorem ggX3_isInside_X3_isPairing : GoodIn wsX3_isInside wsX3_isPairing := goodIn_r _ [6, 7, 8, 9, 10, 11, 12, 13, 14, 15, 16, 17, 18, 19, 20] (by decide +kernel) (by decide +kernel)
set_option maxRecDepth 20000 in
theorem gX3_isInside_X3_isPairing : GoodIn wsX3_isInside (wsV RX3 64 RX3 yX3_isPairing wsX3_isPairing) := goodIn_app (goodIn_of _ (by decide +kernel)) ggX3_isInside_X3_isPairing
theorem dX3_isInside_0 : decode cX3_isInside 0 = .ok (.aload_n 0, 1) := by decide +kernel
theorem dX3_isInside_1 : decode cX3_isInside 1 = .ok (.iload_n 1, 1) := by decide +kernel
theorem dX3_isInside_2 : decode cX3_isInside 2 = .ok (.invokevirtual 64, 3) := by decide +kernel
theorem dX3_isInside_5 : decode cX3_isInside 5 = .ok (.ifCond .eq 24, 3) := by decide +kernel
theorem dX3_isInside_8 : decode cX3_isInside 8 = .ok (.aload_n 0, 1) := by decide +kernel
theorem dX3_isInside_9 : decode cX3_isInside 9 = .ok (.getfield 37, 3) := by decide +kernel
theorem dX3_isInside_12 : decode cX3_isInside 12 = .ok (.iload_n 1, 1) := by decide +kernel
theorem dX3_isInside_13 : decode cX3_isInside 13 = .ok (.iaload, 1) := by decide +kernel
theorem dX3_isInside_14 : decode cX3_isInside 14 = .ok (.iload_n 2, 1) := by decide +kernel
theorem dX3_isInside_15 : decode cX3_isInside 15 = .ok (.iand, 1) := by decide +kernel
theorem dX3_isInside_16 : decode cX3_isInside 16 = .ok (.aload_n 0, 1) := by decide +kernel
theorem dX3_isInside_17 : decode cX3_isInside 17 = .ok (.getfield 37, 3) := by decide +kernel
theorem dX3_isInside_20 : decode cX3_isInside 20 = .ok (.iload_n 1, 1) := by decide +kernel
theorem dX3_isInside_21 : decode cX3_isInside 21 = .ok (.iaload, 1) := by decide +kernel
theorem dX3_isInside_22 : decode cX3_isInside 22 = .ok (.if_icmp .ne 7, 3) := by decide +kernel
theorem dX3_isInside_25 : decode cX3_isInside 25 = .ok (.iconst 1, 1) := by decide +kernel
theorem dX3_isInside_26 : decode cX3_isInside 26 = .ok (.goto 4, 3) := by decide +kernel
theorem dX3_isInside_29 : decode cX3_isInside 29 = .ok (.iconst 0, 1) := by decide +kernel
theorem dX3_isInside_30 : decode cX3_isInside 30 = .ok (.ireturn, 1) := by decide +kernel
set_option maxRecDepth 20000 in
theorem ggX3_quartersOf_X3_isPairing : GoodIn wsX3_quartersOf wsX3_isPairing := goodIn_r _ [6, 7, 8, 9, 10, 11, 12, 13, 14, 15, 16, 17, 18, 19, 20] (by decide +kernel) (by decide +kernel)
set_option maxRecDepth 20000 in
theorem gX3_quartersOf_X3_isPairing : GoodIn wsX3_quartersOf (wsV RX3 64 RX3 yX3_isPairing wsX3_isPairing) := goodIn_app (goodIn_of _ (by decide +kernel)) ggX3_quartersOf_X3_isPairing
theorem dX3_quartersOf_0 : decode cX3_quartersOf 0 = .ok (.aload_n 0, 1) := by decide +kernel
theorem dX3_quartersOf_1 : decode cX3_quartersOf 1 = .ok (.iload_n 1, 1) := by decide +kernel
theorem dX3_quartersOf_2 : decode cX3_quartersOf 2 = .ok (.invokevirtual 64, 3) := by decide +kernel
theorem dX3_quartersOf_5 : decode cX3_quartersOf 5 = .ok (.ifCond .eq 12, 3) := by decide +kernel
theorem dX3_quartersOf_8 : decode cX3_quartersOf 8 = .ok (.aload_n 0, 1) := by decide +kernel
theorem dX3_quartersOf_9 : decode cX3_quartersOf 9 = .ok (.getfield 40, 3) := by decide +kernel
theorem dX3_quartersOf_12 : decode cX3_quartersOf 12 = .ok (.iload_n 1, 1) := by decide +kernel
theorem dX3_quartersOf_13 : decode cX3_quartersOf 13 = .ok (.iaload, 1) := by decide +kernel
theorem dX3_quartersOf_14 : decode cX3_quartersOf 14 = .ok (.goto 4, 3) := by decide +kernel
theorem dX3_quartersOf_17 : decode cX3_quartersOf 17 = .ok (.iconst 4, 1) := by decide +kernel
theorem dX3_quartersOf_18 : decode cX3_quartersOf 18 = .ok (.ireturn, 1) := by decide +kernel
theorem dX3_isBetween_0 : decode cX3_isBetween 0 = .ok (.iload_n 1, 1) := by decide +kernel
theorem dX3_isBetween_1 : decode cX3_isBetween 1 = .ok (.ifCond .lt 34, 3) := by decide +kernel
theorem dX3_isBetween_4 : decode cX3_isBetween 4 = .ok (.iload_n 1, 1) := by decide +kernel
theorem dX3_isBetween_5 : decode cX3_isBetween 5 = .ok (.iconst 4, 1) := by decide +kernel
theorem dX3_isBetween_6 : decode cX3_isBetween 6 = .ok (.if_icmp .ge 29, 3) := by decide +kernel
theorem dX3_isBetween_9 : decode cX3_isBetween 9 = .ok (.aload_n 0, 1) := by decide +kernel
theorem dX3_isBetween_10 : decode cX3_isBetween 10 = .ok (.getfield 37, 3) := by decide +kernel
theorem dX3_isBetween_13 : decode cX3_isBetween 13 = .ok (.iload_n 1, 1) := by decide +kernel
theorem dX3_isBetween_14 : decode cX3_isBetween 14 = .ok (.iaload, 1) := by decide +kernel
theorem dX3_isBetween_15 : decode cX3_isBetween 15 = .ok (.iload_n 2, 1) := by decide +kernel
theorem dX3_isBetween_16 : decode cX3_isBetween 16 = .ok (.iand, 1) := by decide +kernel
theorem dX3_isBetween_17 : decode cX3_isBetween 17 = .ok (.ifCond .eq 18, 3) := by decide +kernel
theorem dX3_isBetween_20 : decode cX3_isBetween 20 = .ok (.aload_n 0, 1) := by decide +kernel
theorem dX3_isBetween_21 : decode cX3_isBetween 21 = .ok (.getfield 37, 3) := by decide +kernel
theorem dX3_isBetween_24 : decode cX3_isBetween 24 = .ok (.iload_n 1, 1) := by decide +kernel
theorem dX3_isBetween_25 : decode cX3_isBetween 25 = .ok (.iaload, 1) := by decide +kernel
theorem dX3_isBetween_26 : decode cX3_isBetween 26 = .ok (.iload_n 3, 1) := by decide +kernel
theorem dX3_isBetween_27 : decode cX3_isBetween 27 = .ok (.iand, 1) := by decide +kernel
theorem dX3_isBetween_28 : decode cX3_isBetween 28 = .ok (.ifCond .eq 7, 3) := by decide +kernel
theorem dX3_isBetween_31 : decode cX3_isBetween 31 = .ok (.iconst 1, 1) := by decide +kernel
theorem dX3_isBetween_32 : decode cX3_isBetween 32 = .ok (.goto 4, 3) := by decide +kernel
theorem dX3_isBetween_35 : decode cX3_isBetween 35 = .ok (.iconst 0, 1) := by decide +kernel
theorem dX3_isBetween_36 : decode cX3_isBetween 36 = .ok (.ireturn, 1) := by decide +kernel
theorem dX3_leastBetween_0 : decode cX3_leastBetween 0 = .ok (.iconst 0, 1) := by decide +kernel
theorem dX3_leastBetween_1 : decode cX3_leastBetween 1 = .ok (.istore_n 3, 1) := by decide +kernel
theorem dX3_leastBetween_2 : decode cX3_leastBetween 2 = .ok (.iload_n 3, 1) := by decide +kernel
theorem dX3_leastBetween_3 : decode cX3_leastBetween 3 = .ok (.iconst 4, 1) := by decide +kernel
theorem dX3_leastBetween_4 : decode cX3_leastBetween 4 = .ok (.if_icmp .ge 33, 3) := by decide +kernel
theorem dX3_leastBetween_7 : decode cX3_leastBetween 7 = .ok (.aload_n 0, 1) := by decide +kernel
theorem dX3_leastBetween_8 : decode cX3_leastBetween 8 = .ok (.getfield 37, 3) := by decide +kernel
theorem dX3_leastBetween_11 : decode cX3_leastBetween 11 = .ok (.iload_n 3, 1) := by decide +kernel
theorem dX3_leastBetween_12 : decode cX3_leastBetween 12 = .ok (.iaload, 1) := by decide +kernel
theorem dX3_leastBetween_13 : decode cX3_leastBetween 13 = .ok (.iload_n 1, 1) := by decide +kernel
theorem dX3_leastBetween_14 : decode cX3_leastBetween 14 = .ok (.iand, 1) := by decide +kernel
theorem dX3_leastBetween_15 : decode cX3_leastBetween 15 = .ok (.ifCond .eq 16, 3) := by decide +kernel
theorem dX3_leastBetween_18 : decode cX3_leastBetween 18 = .ok (.aload_n 0, 1) := by decide +kernel
theorem dX3_leastBetween_19 : decode cX3_leastBetween 19 = .ok (.getfield 37, 3) := by decide +kernel
theorem dX3_leastBetween_22 : decode cX3_leastBetween 22 = .ok (.iload_n 3, 1) := by decide +kernel
theorem dX3_leastBetween_23 : decode cX3_leastBetween 23 = .ok (.iaload, 1) := by decide +kernel
theorem dX3_leastBetween_24 : decode cX3_leastBetween 24 = .ok (.iload_n 2, 1) := by decide +kernel
theorem dX3_leastBetween_25 : decode cX3_leastBetween 25 = .ok (.iand, 1) := by decide +kernel
theorem dX3_leastBetween_26 : decode cX3_leastBetween 26 = .ok (.ifCond .eq 5, 3) := by decide +kernel
theorem dX3_leastBetween_29 : decode cX3_leastBetween 29 = .ok (.iload_n 3, 1) := by decide +kernel
theorem dX3_leastBetween_30 : decode cX3_leastBetween 30 = .ok (.ireturn, 1) := by decide +kernel
theorem dX3_leastBetween_31 : decode cX3_leastBetween 31 = .ok (.iinc 3 1, 3) := by decide +kernel
theorem dX3_leastBetween_34 : decode cX3_leastBetween 34 = .ok (.goto (-32), 3) := by decide +kernel
theorem dX3_leastBetween_37 : decode cX3_leastBetween 37 = .ok (.iconst (-1), 1) := by decide +kernel
theorem dX3_leastBetween_38 : decode cX3_leastBetween 38 = .ok (.ireturn, 1) := by decide +kernel
set_option maxRecDepth 20000 in
theorem ggX3_tableOn_X3_isPairing : GoodIn wsX3_tableOn wsX3_isPairing := goodIn_r _ [7, 8, 9, 10, 11, 12, 13, 14, 15, 16, 17, 18, 19, 20, 21] (by decide +kernel) (by decide +kernel)
set_option maxRecDepth 20000 in
theorem gX3_tableOn_X3_isPairing : GoodIn wsX3_tableOn (wsV RX3 64 RX3 yX3_isPairing wsX3_isPairing) := goodIn_app (goodIn_of _ (by decide +kernel)) ggX3_tableOn_X3_isPairing
theorem dX3_tableOn_0 : decode cX3_tableOn 0 = .ok (.aload_n 0, 1) := by decide +kernel
theorem dX3_tableOn_1 : decode cX3_tableOn 1 = .ok (.iload_n 1, 1) := by decide +kernel
theorem dX3_tableOn_2 : decode cX3_tableOn 2 = .ok (.invokevirtual 64, 3) := by decide +kernel
theorem dX3_tableOn_5 : decode cX3_tableOn 5 = .ok (.ifCond .ne 5, 3) := by decide +kernel
theorem dX3_tableOn_8 : decode cX3_tableOn 8 = .ok (.iconst (-1), 1) := by decide +kernel
theorem dX3_tableOn_9 : decode cX3_tableOn 9 = .ok (.ireturn, 1) := by decide +kernel
theorem dX3_tableOn_10 : decode cX3_tableOn 10 = .ok (.iload_n 2, 1) := by decide +kernel
theorem dX3_tableOn_11 : decode cX3_tableOn 11 = .ok (.aload_n 0, 1) := by decide +kernel
theorem dX3_tableOn_12 : decode cX3_tableOn 12 = .ok (.getfield 25, 3) := by decide +kernel
theorem dX3_tableOn_15 : decode cX3_tableOn 15 = .ok (.iload_n 1, 1) := by decide +kernel
theorem dX3_tableOn_16 : decode cX3_tableOn 16 = .ok (.iaload, 1) := by decide +kernel
theorem dX3_tableOn_17 : decode cX3_tableOn 17 = .ok (.ishr, 1) := by decide +kernel
theorem dX3_tableOn_18 : decode cX3_tableOn 18 = .ok (.iconst 1, 1) := by decide +kernel
theorem dX3_tableOn_19 : decode cX3_tableOn 19 = .ok (.iand, 1) := by decide +kernel
theorem dX3_tableOn_20 : decode cX3_tableOn 20 = .ok (.ifCond .eq 12, 3) := by decide +kernel
theorem dX3_tableOn_23 : decode cX3_tableOn 23 = .ok (.aload_n 0, 1) := by decide +kernel
theorem dX3_tableOn_24 : decode cX3_tableOn 24 = .ok (.getfield 25, 3) := by decide +kernel
theorem dX3_tableOn_27 : decode cX3_tableOn 27 = .ok (.iload_n 1, 1) := by decide +kernel
theorem dX3_tableOn_28 : decode cX3_tableOn 28 = .ok (.iaload, 1) := by decide +kernel
theorem dX3_tableOn_29 : decode cX3_tableOn 29 = .ok (.goto 9, 3) := by decide +kernel
theorem dX3_tableOn_32 : decode cX3_tableOn 32 = .ok (.aload_n 0, 1) := by decide +kernel
theorem dX3_tableOn_33 : decode cX3_tableOn 33 = .ok (.getfield 31, 3) := by decide +kernel
theorem dX3_tableOn_36 : decode cX3_tableOn 36 = .ok (.iload_n 1, 1) := by decide +kernel
theorem dX3_tableOn_37 : decode cX3_tableOn 37 = .ok (.iaload, 1) := by decide +kernel
theorem dX3_tableOn_38 : decode cX3_tableOn 38 = .ok (.ireturn, 1) := by decide +kernel
set_option maxRecDepth 20000 in
theorem ggX3_columnOn_X3_isPairing : GoodIn wsX3_columnOn wsX3_isPairing := goodIn_r _ [8, 9, 10, 11, 12, 13, 14, 15, 16, 17, 18, 19, 20, 21, 22] (by decide +kernel) (by decide +kernel)
set_option maxRecDepth 20000 in
theorem gX3_columnOn_X3_isPairing : GoodIn wsX3_columnOn (wsV RX3 64 RX3 yX3_isPairing wsX3_isPairing) := goodIn_app (goodIn_of _ (by decide +kernel)) ggX3_columnOn_X3_isPairing
theorem dX3_columnOn_0 : decode cX3_columnOn 0 = .ok (.aload_n 0, 1) := by decide +kernel
theorem dX3_columnOn_1 : decode cX3_columnOn 1 = .ok (.iload_n 1, 1) := by decide +kernel
theorem dX3_columnOn_2 : decode cX3_columnOn 2 = .ok (.invokevirtual 64, 3) := by decide +kernel
theorem dX3_columnOn_5 : decode cX3_columnOn 5 = .ok (.ifCond .ne 5, 3) := by decide +kernel
theorem dX3_columnOn_8 : decode cX3_columnOn 8 = .ok (.iconst (-1), 1) := by decide +kernel
theorem dX3_columnOn_9 : decode cX3_columnOn 9 = .ok (.ireturn, 1) := by decide +kernel
theorem dX3_columnOn_10 : decode cX3_columnOn 10 = .ok (.iload_n 2, 1) := by decide +kernel
theorem dX3_columnOn_11 : decode cX3_columnOn 11 = .ok (.aload_n 0, 1) := by decide +kernel
theorem dX3_columnOn_12 : decode cX3_columnOn 12 = .ok (.getfield 25, 3) := by decide +kernel
theorem dX3_columnOn_15 : decode cX3_columnOn 15 = .ok (.iload_n 1, 1) := by decide +kernel
theorem dX3_columnOn_16 : decode cX3_columnOn 16 = .ok (.iaload, 1) := by decide +kernel
theorem dX3_columnOn_17 : decode cX3_columnOn 17 = .ok (.ishr, 1) := by decide +kernel
theorem dX3_columnOn_18 : decode cX3_columnOn 18 = .ok (.iconst 1, 1) := by decide +kernel
theorem dX3_columnOn_19 : decode cX3_columnOn 19 = .ok (.iand, 1) := by decide +kernel
theorem dX3_columnOn_20 : decode cX3_columnOn 20 = .ok (.ifCond .eq 12, 3) := by decide +kernel
theorem dX3_columnOn_23 : decode cX3_columnOn 23 = .ok (.aload_n 0, 1) := by decide +kernel
theorem dX3_columnOn_24 : decode cX3_columnOn 24 = .ok (.getfield 28, 3) := by decide +kernel
theorem dX3_columnOn_27 : decode cX3_columnOn 27 = .ok (.iload_n 1, 1) := by decide +kernel
theorem dX3_columnOn_28 : decode cX3_columnOn 28 = .ok (.iaload, 1) := by decide +kernel
theorem dX3_columnOn_29 : decode cX3_columnOn 29 = .ok (.goto 9, 3) := by decide +kernel
theorem dX3_columnOn_32 : decode cX3_columnOn 32 = .ok (.aload_n 0, 1) := by decide +kernel
theorem dX3_columnOn_33 : decode cX3_columnOn 33 = .ok (.getfield 34, 3) := by decide +kernel
theorem dX3_columnOn_36 : decode cX3_columnOn 36 = .ok (.iload_n 1, 1) := by decide +kernel
theorem dX3_columnOn_37 : decode cX3_columnOn 37 = .ok (.iaload, 1) := by decide +kernel
theorem dX3_columnOn_38 : decode cX3_columnOn 38 = .ok (.ireturn, 1) := by decide +kernel
theorem dX3_isInOrder_0 : decode cX3_isInOrder 0 = .ok (.iload_n 1, 1) := by decide +kernel
theorem dX3_isInOrder_1 : decode cX3_isInOrder 1 = .ok (.iconst 2, 1) := by decide +kernel
theorem dX3_isInOrder_2 : decode cX3_isInOrder 2 = .ok (.if_icmp .ne 20, 3) := by decide +kernel
theorem dX3_isInOrder_5 : decode cX3_isInOrder 5 = .ok (.aload_n 0, 1) := by decide +kernel
theorem dX3_isInOrder_6 : decode cX3_isInOrder 6 = .ok (.getfield 15, 3) := by decide +kernel
theorem dX3_isInOrder_9 : decode cX3_isInOrder 9 = .ok (.iconst (-1), 1) := by decide +kernel
theorem dX3_isInOrder_10 : decode cX3_isInOrder 10 = .ok (.if_icmp .eq 12, 3) := by decide +kernel
theorem dX3_isInOrder_13 : decode cX3_isInOrder 13 = .ok (.iload_n 2, 1) := by decide +kernel
theorem dX3_isInOrder_14 : decode cX3_isInOrder 14 = .ok (.ifCond .lt 8, 3) := by decide +kernel
theorem dX3_isInOrder_17 : decode cX3_isInOrder 17 = .ok (.iload_n 2, 1) := by decide +kernel
theorem dX3_isInOrder_18 : decode cX3_isInOrder 18 = .ok (.iconst 4, 1) := by decide +kernel
theorem dX3_isInOrder_19 : decode cX3_isInOrder 19 = .ok (.if_icmp .lt 5, 3) := by decide +kernel
theorem dX3_isInOrder_22 : decode cX3_isInOrder 22 = .ok (.iconst 0, 1) := by decide +kernel
theorem dX3_isInOrder_23 : decode cX3_isInOrder 23 = .ok (.ireturn, 1) := by decide +kernel
theorem dX3_isInOrder_24 : decode cX3_isInOrder 24 = .ok (.aload_n 0, 1) := by decide +kernel
theorem dX3_isInOrder_25 : decode cX3_isInOrder 25 = .ok (.getfield 25, 3) := by decide +kernel
theorem dX3_isInOrder_28 : decode cX3_isInOrder 28 = .ok (.iload_n 2, 1) := by decide +kernel
theorem dX3_isInOrder_29 : decode cX3_isInOrder 29 = .ok (.iaload, 1) := by decide +kernel
theorem dX3_isInOrder_30 : decode cX3_isInOrder 30 = .ok (.aload_n 0, 1) := by decide +kernel
theorem dX3_isInOrder_31 : decode cX3_isInOrder 31 = .ok (.getfield 15, 3) := by decide +kernel
theorem dX3_isInOrder_34 : decode cX3_isInOrder 34 = .ok (.if_icmp .ne 16, 3) := by decide +kernel
theorem dX3_isInOrder_37 : decode cX3_isInOrder 37 = .ok (.aload_n 0, 1) := by decide +kernel
theorem dX3_isInOrder_38 : decode cX3_isInOrder 38 = .ok (.getfield 28, 3) := by decide +kernel
theorem dX3_isInOrder_41 : decode cX3_isInOrder 41 = .ok (.iload_n 2, 1) := by decide +kernel
theorem dX3_isInOrder_42 : decode cX3_isInOrder 42 = .ok (.iaload, 1) := by decide +kernel
theorem dX3_isInOrder_43 : decode cX3_isInOrder 43 = .ok (.aload_n 0, 1) := by decide +kernel
theorem dX3_isInOrder_44 : decode cX3_isInOrder 44 = .ok (.getfield 67, 3) := by decide +kernel
theorem dX3_isInOrder_47 : decode cX3_isInOrder 47 = .ok (.if_icmp .eq 29, 3) := by decide +kernel
theorem dX3_isInOrder_50 : decode cX3_isInOrder 50 = .ok (.aload_n 0, 1) := by decide +kernel
theorem dX3_isInOrder_51 : decode cX3_isInOrder 51 = .ok (.getfield 31, 3) := by decide +kernel
theorem dX3_isInOrder_54 : decode cX3_isInOrder 54 = .ok (.iload_n 2, 1) := by decide +kernel
theorem dX3_isInOrder_55 : decode cX3_isInOrder 55 = .ok (.iaload, 1) := by decide +kernel
theorem dX3_isInOrder_56 : decode cX3_isInOrder 56 = .ok (.aload_n 0, 1) := by decide +kernel
theorem dX3_isInOrder_57 : decode cX3_isInOrder 57 = .ok (.getfield 15, 3) := by decide +kernel
theorem dX3_isInOrder_60 : decode cX3_isInOrder 60 = .ok (.if_icmp .ne 20, 3) := by decide +kernel
theorem dX3_isInOrder_63 : decode cX3_isInOrder 63 = .ok (.aload_n 0, 1) := by decide +kernel
theorem dX3_isInOrder_64 : decode cX3_isInOrder 64 = .ok (.getfield 34, 3) := by decide +kernel
theorem dX3_isInOrder_67 : decode cX3_isInOrder 67 = .ok (.iload_n 2, 1) := by decide +kernel
theorem dX3_isInOrder_68 : decode cX3_isInOrder 68 = .ok (.iaload, 1) := by decide +kernel
theorem dX3_isInOrder_69 : decode cX3_isInOrder 69 = .ok (.aload_n 0, 1) := by decide +kernel
theorem dX3_isInOrder_70 : decode cX3_isInOrder 70 = .ok (.getfield 67, 3) := by decide +kernel
theorem dX3_isInOrder_73 : decode cX3_isInOrder 73 = .ok (.if_icmp .ne 7, 3) := by decide +kernel
theorem dX3_isInOrder_76 : decode cX3_isInOrder 76 = .ok (.iconst 1, 1) := by decide +kernel
theorem dX3_isInOrder_77 : decode cX3_isInOrder 77 = .ok (.goto 4, 3) := by decide +kernel
theorem dX3_isInOrder_80 : decode cX3_isInOrder 80 = .ok (.iconst 0, 1) := by decide +kernel
theorem dX3_isInOrder_81 : decode cX3_isInOrder 81 = .ok (.ireturn, 1) := by decide +kernel
theorem dX3_orderFactor_0 : decode cX3_orderFactor 0 = .ok (.iload_n 1, 1) := by decide +kernel
theorem dX3_orderFactor_1 : decode cX3_orderFactor 1 = .ok (.iconst 1, 1) := by decide +kernel
theorem dX3_orderFactor_2 : decode cX3_orderFactor 2 = .ok (.aload_n 0, 1) := by decide +kernel
theorem dX3_orderFactor_3 : decode cX3_orderFactor 3 = .ok (.getfield 43, 3) := by decide +kernel
theorem dX3_orderFactor_6 : decode cX3_orderFactor 6 = .ok (.ishl, 1) := by decide +kernel
theorem dX3_orderFactor_7 : decode cX3_orderFactor 7 = .ok (.iconst 1, 1) := by decide +kernel
theorem dX3_orderFactor_8 : decode cX3_orderFactor 8 = .ok (.isub, 1) := by decide +kernel
theorem dX3_orderFactor_9 : decode cX3_orderFactor 9 = .ok (.if_icmp .ne 7, 3) := by decide +kernel
theorem dX3_orderFactor_12 : decode cX3_orderFactor 12 = .ok (.iconst 1, 1) := by decide +kernel
theorem dX3_orderFactor_13 : decode cX3_orderFactor 13 = .ok (.goto 4, 3) := by decide +kernel
theorem dX3_orderFactor_16 : decode cX3_orderFactor 16 = .ok (.iconst 0, 1) := by decide +kernel
theorem dX3_orderFactor_17 : decode cX3_orderFactor 17 = .ok (.istore_n 3, 1) := by decide +kernel
theorem dX3_orderFactor_18 : decode cX3_orderFactor 18 = .ok (.iload_n 3, 1) := by decide +kernel
theorem dX3_orderFactor_19 : decode cX3_orderFactor 19 = .ok (.ifCond .eq 19, 3) := by decide +kernel
theorem dX3_orderFactor_22 : decode cX3_orderFactor 22 = .ok (.aload_n 0, 1) := by decide +kernel
theorem dX3_orderFactor_23 : decode cX3_orderFactor 23 = .ok (.getfield 15, 3) := by decide +kernel
theorem dX3_orderFactor_26 : decode cX3_orderFactor 26 = .ok (.iconst (-1), 1) := by decide +kernel
theorem dX3_orderFactor_27 : decode cX3_orderFactor 27 = .ok (.if_icmp .eq 11, 3) := by decide +kernel
theorem dX3_orderFactor_30 : decode cX3_orderFactor 30 = .ok (.iload_n 2, 1) := by decide +kernel
theorem dX3_orderFactor_31 : decode cX3_orderFactor 31 = .ok (.ifCond .ne 7, 3) := by decide +kernel
theorem dX3_orderFactor_34 : decode cX3_orderFactor 34 = .ok (.iconst 3, 1) := by decide +kernel
theorem dX3_orderFactor_35 : decode cX3_orderFactor 35 = .ok (.goto 4, 3) := by decide +kernel
theorem dX3_orderFactor_38 : decode cX3_orderFactor 38 = .ok (.iconst 0, 1) := by decide +kernel
theorem dX3_orderFactor_39 : decode cX3_orderFactor 39 = .ok (.ireturn, 1) := by decide +kernel
set_option maxRecDepth 20000 in
theorem ggX3_isHeld_X3_rowIn : GoodIn wsX3_isHeld wsX3_rowIn := goodIn_r _ [8] (by decide +kernel) (by decide +kernel)
set_option maxRecDepth 20000 in
theorem gX3_isHeld_X3_rowIn : GoodIn wsX3_isHeld (va_wsS RX3 70 yX3_rowIn wsX3_rowIn) := goodIn_app (goodIn_of _ (by decide +kernel)) ggX3_isHeld_X3_rowIn
set_option maxRecDepth 20000 in
theorem ggX3_isHeld_X3_field : GoodIn wsX3_isHeld wsX3_field := goodIn_r _ [12, 13, 14, 15, 16, 17, 18, 19, 20, 21, 22, 23, 24, 25, 26] (by decide +kernel) (by decide +kernel)
set_option maxRecDepth 20000 in
theorem gX3_isHeld_X3_field : GoodIn wsX3_isHeld (wsV RX3 74 RX3 yX3_field wsX3_field) := goodIn_app (goodIn_of _ (by decide +kernel)) ggX3_isHeld_X3_field
theorem dX3_isHeld_0 : decode cX3_isHeld 0 = .ok (.iload_n 1, 1) := by decide +kernel
theorem dX3_isHeld_1 : decode cX3_isHeld 1 = .ok (.ifCond .lt 8, 3) := by decide +kernel
theorem dX3_isHeld_4 : decode cX3_isHeld 4 = .ok (.iload_n 1, 1) := by decide +kernel
theorem dX3_isHeld_5 : decode cX3_isHeld 5 = .ok (.iconst 4, 1) := by decide +kernel
theorem dX3_isHeld_6 : decode cX3_isHeld 6 = .ok (.if_icmp .lt 5, 3) := by decide +kernel
theorem dX3_isHeld_9 : decode cX3_isHeld 9 = .ok (.iconst 0, 1) := by decide +kernel
theorem dX3_isHeld_10 : decode cX3_isHeld 10 = .ok (.ireturn, 1) := by decide +kernel
theorem dX3_isHeld_11 : decode cX3_isHeld 11 = .ok (.iload_n 2, 1) := by decide +kernel
theorem dX3_isHeld_12 : decode cX3_isHeld 12 = .ok (.aload_n 0, 1) := by decide +kernel
theorem dX3_isHeld_13 : decode cX3_isHeld 13 = .ok (.getfield 25, 3) := by decide +kernel
theorem dX3_isHeld_16 : decode cX3_isHeld 16 = .ok (.iload_n 1, 1) := by decide +kernel
theorem dX3_isHeld_17 : decode cX3_isHeld 17 = .ok (.iaload, 1) := by decide +kernel
theorem dX3_isHeld_18 : decode cX3_isHeld 18 = .ok (.invokestatic 70, 3) := by decide +kernel
theorem dX3_isHeld_21 : decode cX3_isHeld 21 = .ok (.istore_n 3, 1) := by decide +kernel
theorem dX3_isHeld_22 : decode cX3_isHeld 22 = .ok (.iload_n 2, 1) := by decide +kernel
theorem dX3_isHeld_23 : decode cX3_isHeld 23 = .ok (.aload_n 0, 1) := by decide +kernel
theorem dX3_isHeld_24 : decode cX3_isHeld 24 = .ok (.getfield 31, 3) := by decide +kernel
theorem dX3_isHeld_27 : decode cX3_isHeld 27 = .ok (.iload_n 1, 1) := by decide +kernel
theorem dX3_isHeld_28 : decode cX3_isHeld 28 = .ok (.iaload, 1) := by decide +kernel
theorem dX3_isHeld_29 : decode cX3_isHeld 29 = .ok (.invokestatic 70, 3) := by decide +kernel
theorem dX3_isHeld_32 : decode cX3_isHeld 32 = .ok (.istore 4, 2) := by decide +kernel
theorem dX3_isHeld_34 : decode cX3_isHeld 34 = .ok (.aload_n 0, 1) := by decide +kernel
theorem dX3_isHeld_35 : decode cX3_isHeld 35 = .ok (.aload_n 0, 1) := by decide +kernel
theorem dX3_isHeld_36 : decode cX3_isHeld 36 = .ok (.getfield 25, 3) := by decide +kernel
theorem dX3_isHeld_39 : decode cX3_isHeld 39 = .ok (.iload_n 1, 1) := by decide +kernel
theorem dX3_isHeld_40 : decode cX3_isHeld 40 = .ok (.iaload, 1) := by decide +kernel
theorem dX3_isHeld_41 : decode cX3_isHeld 41 = .ok (.iload_n 3, 1) := by decide +kernel
theorem dX3_isHeld_42 : decode cX3_isHeld 42 = .ok (.aload_n 0, 1) := by decide +kernel
theorem dX3_isHeld_43 : decode cX3_isHeld 43 = .ok (.getfield 28, 3) := by decide +kernel
theorem dX3_isHeld_46 : decode cX3_isHeld 46 = .ok (.iload_n 1, 1) := by decide +kernel
theorem dX3_isHeld_47 : decode cX3_isHeld 47 = .ok (.iaload, 1) := by decide +kernel
theorem dX3_isHeld_48 : decode cX3_isHeld 48 = .ok (.invokevirtual 74, 3) := by decide +kernel
theorem dX3_isHeld_51 : decode cX3_isHeld 51 = .ok (.aload_n 0, 1) := by decide +kernel
theorem dX3_isHeld_52 : decode cX3_isHeld 52 = .ok (.aload_n 0, 1) := by decide +kernel
theorem dX3_isHeld_53 : decode cX3_isHeld 53 = .ok (.getfield 31, 3) := by decide +kernel
theorem dX3_isHeld_56 : decode cX3_isHeld 56 = .ok (.iload_n 1, 1) := by decide +kernel
theorem dX3_isHeld_57 : decode cX3_isHeld 57 = .ok (.iaload, 1) := by decide +kernel
theorem dX3_isHeld_58 : decode cX3_isHeld 58 = .ok (.iload 4, 2) := by decide +kernel
theorem dX3_isHeld_60 : decode cX3_isHeld 60 = .ok (.aload_n 0, 1) := by decide +kernel
theorem dX3_isHeld_61 : decode cX3_isHeld 61 = .ok (.getfield 34, 3) := by decide +kernel
theorem dX3_isHeld_64 : decode cX3_isHeld 64 = .ok (.iload_n 1, 1) := by decide +kernel
theorem dX3_isHeld_65 : decode cX3_isHeld 65 = .ok (.iaload, 1) := by decide +kernel
theorem dX3_isHeld_66 : decode cX3_isHeld 66 = .ok (.invokevirtual 74, 3) := by decide +kernel
theorem dX3_isHeld_69 : decode cX3_isHeld 69 = .ok (.if_icmp .ne 7, 3) := by decide +kernel
theorem dX3_isHeld_72 : decode cX3_isHeld 72 = .ok (.iconst 1, 1) := by decide +kernel
theorem dX3_isHeld_73 : decode cX3_isHeld 73 = .ok (.goto 4, 3) := by decide +kernel
theorem dX3_isHeld_76 : decode cX3_isHeld 76 = .ok (.iconst 0, 1) := by decide +kernel
theorem dX3_isHeld_77 : decode cX3_isHeld 77 = .ok (.ireturn, 1) := by decide +kernel
set_option maxRecDepth 20000 in
theorem ggX3_matches_X3_isPairing : GoodIn wsX3_matches wsX3_isPairing := goodIn_r _ [7, 8, 36, 37, 38, 39, 40, 41, 42, 43, 44, 45, 46, 47, 48] (by decide +kernel) (by decide +kernel)
set_option maxRecDepth 20000 in
theorem gX3_matches_X3_isPairing : GoodIn wsX3_matches (wsV RX3 64 RX3 yX3_isPairing wsX3_isPairing) := goodIn_app (goodIn_of _ (by decide +kernel)) ggX3_matches_X3_isPairing
set_option maxRecDepth 20000 in
theorem ggX3_matches_X3_rowsOf : GoodIn wsX3_matches wsX3_rowsOf := goodIn_r _ [12, 13, 14, 15, 16, 6, 17, 18, 36, 37, 38, 39, 40, 41, 42, 43, 44, 45, 46, 47, 48] (by decide +kernel) (by decide +kernel)
set_option maxRecDepth 20000 in
theorem gX3_matches_X3_rowsOf : GoodIn wsX3_matches (wsV RX3 53 RX3 yX3_rowsOf wsX3_rowsOf) := goodIn_app (goodIn_of _ (by decide +kernel)) ggX3_matches_X3_rowsOf
set_option maxRecDepth 20000 in
theorem ggX3_matches_X3_asPart : GoodIn wsX3_matches wsX3_asPart := goodIn_r _ [21] (by decide +kernel) (by decide +kernel)
set_option maxRecDepth 20000 in
theorem gX3_matches_X3_asPart : GoodIn wsX3_matches (va_wsS RX3 78 yX3_asPart wsX3_asPart) := goodIn_app (goodIn_of _ (by decide +kernel)) ggX3_matches_X3_asPart
set_option maxRecDepth 20000 in
theorem ggX3_matches_X3_isHeld : GoodIn wsX3_matches wsX3_isHeld := goodIn_r _ [25, 1, 2, 26, 27, 28, 29, 6, 30, 31, 32, 33, 34, 35, 36, 37, 38, 39, 40, 41, 42, 43, 44, 45, 46, 47, 48] (by decide +kernel) (by decide +kernel)
set_option maxRecDepth 20000 in
theorem gX3_matches_X3_isHeld : GoodIn wsX3_matches (wsV RX3 81 RX3 yX3_isHeld wsX3_isHeld) := goodIn_app (goodIn_of _ (by decide +kernel)) ggX3_matches_X3_isHeld
theorem dX3_matches_0 : decode cX3_matches 0 = .ok (.iconst 0, 1) := by decide +kernel
theorem dX3_matches_1 : decode cX3_matches 1 = .ok (.istore_n 2, 1) := by decide +kernel
theorem dX3_matches_2 : decode cX3_matches 2 = .ok (.aload_n 0, 1) := by decide +kernel
theorem dX3_matches_3 : decode cX3_matches 3 = .ok (.iload_n 1, 1) := by decide +kernel
theorem dX3_matches_4 : decode cX3_matches 4 = .ok (.invokevirtual 64, 3) := by decide +kernel
theorem dX3_matches_7 : decode cX3_matches 7 = .ok (.ifCond .eq 91, 3) := by decide +kernel
theorem dX3_matches_10 : decode cX3_matches 10 = .ok (.iconst 0, 1) := by decide +kernel
theorem dX3_matches_11 : decode cX3_matches 11 = .ok (.istore_n 3, 1) := by decide +kernel
theorem dX3_matches_12 : decode cX3_matches 12 = .ok (.iload_n 3, 1) := by decide +kernel
theorem dX3_matches_13 : decode cX3_matches 13 = .ok (.aload_n 0, 1) := by decide +kernel
theorem dX3_matches_14 : decode cX3_matches 14 = .ok (.aload_n 0, 1) := by decide +kernel
theorem dX3_matches_15 : decode cX3_matches 15 = .ok (.getfield 25, 3) := by decide +kernel
theorem dX3_matches_18 : decode cX3_matches 18 = .ok (.iload_n 1, 1) := by decide +kernel
theorem dX3_matches_19 : decode cX3_matches 19 = .ok (.iaload, 1) := by decide +kernel
theorem dX3_matches_20 : decode cX3_matches 20 = .ok (.invokevirtual 53, 3) := by decide +kernel
theorem dX3_matches_23 : decode cX3_matches 23 = .ok (.if_icmp .ge 75, 3) := by decide +kernel
theorem dX3_matches_26 : decode cX3_matches 26 = .ok (.iconst 0, 1) := by decide +kernel
theorem dX3_matches_27 : decode cX3_matches 27 = .ok (.istore 4, 2) := by decide +kernel
theorem dX3_matches_29 : decode cX3_matches 29 = .ok (.iload 4, 2) := by decide +kernel
theorem dX3_matches_31 : decode cX3_matches 31 = .ok (.aload_n 0, 1) := by decide +kernel
theorem dX3_matches_32 : decode cX3_matches 32 = .ok (.aload_n 0, 1) := by decide +kernel
theorem dX3_matches_33 : decode cX3_matches 33 = .ok (.getfield 31, 3) := by decide +kernel
theorem dX3_matches_36 : decode cX3_matches 36 = .ok (.iload_n 1, 1) := by decide +kernel
theorem dX3_matches_37 : decode cX3_matches 37 = .ok (.iaload, 1) := by decide +kernel
theorem dX3_matches_38 : decode cX3_matches 38 = .ok (.invokevirtual 53, 3) := by decide +kernel
theorem dX3_matches_41 : decode cX3_matches 41 = .ok (.if_icmp .ge 51, 3) := by decide +kernel
theorem dX3_matches_44 : decode cX3_matches 44 = .ok (.iload_n 3, 1) := by decide +kernel
theorem dX3_matches_45 : decode cX3_matches 45 = .ok (.aload_n 0, 1) := by decide +kernel
theorem dX3_matches_46 : decode cX3_matches 46 = .ok (.getfield 25, 3) := by decide +kernel
theorem dX3_matches_49 : decode cX3_matches 49 = .ok (.iload_n 1, 1) := by decide +kernel
theorem dX3_matches_50 : decode cX3_matches 50 = .ok (.iaload, 1) := by decide +kernel
theorem dX3_matches_51 : decode cX3_matches 51 = .ok (.invokestatic 78, 3) := by decide +kernel
theorem dX3_matches_54 : decode cX3_matches 54 = .ok (.iload 4, 2) := by decide +kernel
theorem dX3_matches_56 : decode cX3_matches 56 = .ok (.aload_n 0, 1) := by decide +kernel
theorem dX3_matches_57 : decode cX3_matches 57 = .ok (.getfield 31, 3) := by decide +kernel
theorem dX3_matches_60 : decode cX3_matches 60 = .ok (.iload_n 1, 1) := by decide +kernel
theorem dX3_matches_61 : decode cX3_matches 61 = .ok (.iaload, 1) := by decide +kernel
theorem dX3_matches_62 : decode cX3_matches 62 = .ok (.invokestatic 78, 3) := by decide +kernel
theorem dX3_matches_65 : decode cX3_matches 65 = .ok (.ior, 1) := by decide +kernel
theorem dX3_matches_66 : decode cX3_matches 66 = .ok (.istore 5, 2) := by decide +kernel
theorem dX3_matches_68 : decode cX3_matches 68 = .ok (.iload_n 2, 1) := by decide +kernel
theorem dX3_matches_69 : decode cX3_matches 69 = .ok (.aload_n 0, 1) := by decide +kernel
theorem dX3_matches_70 : decode cX3_matches 70 = .ok (.iload_n 1, 1) := by decide +kernel
theorem dX3_matches_71 : decode cX3_matches 71 = .ok (.iload 5, 2) := by decide +kernel
theorem dX3_matches_73 : decode cX3_matches 73 = .ok (.invokevirtual 81, 3) := by decide +kernel
theorem dX3_matches_76 : decode cX3_matches 76 = .ok (.ifCond .eq 7, 3) := by decide +kernel
theorem dX3_matches_79 : decode cX3_matches 79 = .ok (.iconst 1, 1) := by decide +kernel
theorem dX3_matches_80 : decode cX3_matches 80 = .ok (.goto 4, 3) := by decide +kernel
theorem dX3_matches_83 : decode cX3_matches 83 = .ok (.iconst 0, 1) := by decide +kernel
theorem dX3_matches_84 : decode cX3_matches 84 = .ok (.iadd, 1) := by decide +kernel
theorem dX3_matches_85 : decode cX3_matches 85 = .ok (.istore_n 2, 1) := by decide +kernel
theorem dX3_matches_86 : decode cX3_matches 86 = .ok (.iinc 4 1, 3) := by decide +kernel
theorem dX3_matches_89 : decode cX3_matches 89 = .ok (.goto (-60), 3) := by decide +kernel
theorem dX3_matches_92 : decode cX3_matches 92 = .ok (.iinc 3 1, 3) := by decide +kernel
theorem dX3_matches_95 : decode cX3_matches 95 = .ok (.goto (-83), 3) := by decide +kernel
theorem dX3_matches_98 : decode cX3_matches 98 = .ok (.iload_n 2, 1) := by decide +kernel
theorem dX3_matches_99 : decode cX3_matches 99 = .ok (.ireturn, 1) := by decide +kernel
theorem dX3_asPart_0 : decode cX3_asPart 0 = .ok (.iload_n 0, 1) := by decide +kernel
theorem dX3_asPart_1 : decode cX3_asPart 1 = .ok (.iconst 3, 1) := by decide +kernel
theorem dX3_asPart_2 : decode cX3_asPart 2 = .ok (.iload_n 1, 1) := by decide +kernel
theorem dX3_asPart_3 : decode cX3_asPart 3 = .ok (.imul, 1) := by decide +kernel
theorem dX3_asPart_4 : decode cX3_asPart 4 = .ok (.ishl, 1) := by decide +kernel
theorem dX3_asPart_5 : decode cX3_asPart 5 = .ok (.ireturn, 1) := by decide +kernel
theorem dX3_rowIn_0 : decode cX3_rowIn 0 = .ok (.iload_n 0, 1) := by decide +kernel
theorem dX3_rowIn_1 : decode cX3_rowIn 1 = .ok (.iconst 3, 1) := by decide +kernel
theorem dX3_rowIn_2 : decode cX3_rowIn 2 = .ok (.iload_n 1, 1) := by decide +kernel
theorem dX3_rowIn_3 : decode cX3_rowIn 3 = .ok (.imul, 1) := by decide +kernel
theorem dX3_rowIn_4 : decode cX3_rowIn 4 = .ok (.ishr, 1) := by decide +kernel
theorem dX3_rowIn_5 : decode cX3_rowIn 5 = .ok (.bipush 7, 2) := by decide +kernel
theorem dX3_rowIn_7 : decode cX3_rowIn 7 = .ok (.iand, 1) := by decide +kernel
theorem dX3_rowIn_8 : decode cX3_rowIn 8 = .ok (.ireturn, 1) := by decide +kernel
