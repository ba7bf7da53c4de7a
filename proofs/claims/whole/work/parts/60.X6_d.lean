theorem dX6_init_0 : decode cX6_init 0 = .ok (.aload_n 0, 1) := by decide +kernel
theorem dX6_init_1 : decode cX6_init 1 = .ok (.invokespecial 5, 3) := by decide +kernel
theorem dX6_init_4 : decode cX6_init 4 = .ok (.aload_n 0, 1) := by decide +kernel
theorem dX6_init_5 : decode cX6_init 5 = .ok (.new 11, 3) := by decide +kernel
theorem dX6_init_8 : decode cX6_init 8 = .ok (.dup, 1) := by decide +kernel
theorem dX6_init_9 : decode cX6_init 9 = .ok (.invokespecial 13, 3) := by decide +kernel
theorem dX6_init_12 : decode cX6_init 12 = .ok (.putfield 14, 3) := by decide +kernel
theorem dX6_init_15 : decode cX6_init 15 = .ok (.aload_n 0, 1) := by decide +kernel
theorem dX6_init_16 : decode cX6_init 16 = .ok (.new 18, 3) := by decide +kernel
theorem dX6_init_19 : decode cX6_init 19 = .ok (.dup, 1) := by decide +kernel
theorem dX6_init_20 : decode cX6_init 20 = .ok (.aload_n 0, 1) := by decide +kernel
theorem dX6_init_21 : decode cX6_init 21 = .ok (.getfield 14, 3) := by decide +kernel
theorem dX6_init_24 : decode cX6_init 24 = .ok (.invokespecial 20, 3) := by decide +kernel
theorem dX6_init_27 : decode cX6_init 27 = .ok (.putfield 23, 3) := by decide +kernel
theorem dX6_init_30 : decode cX6_init 30 = .ok (.aload_n 0, 1) := by decide +kernel
theorem dX6_init_31 : decode cX6_init 31 = .ok (.new 27, 3) := by decide +kernel
theorem dX6_init_34 : decode cX6_init 34 = .ok (.dup, 1) := by decide +kernel
theorem dX6_init_35 : decode cX6_init 35 = .ok (.aload_n 0, 1) := by decide +kernel
theorem dX6_init_36 : decode cX6_init 36 = .ok (.getfield 14, 3) := by decide +kernel
theorem dX6_init_39 : decode cX6_init 39 = .ok (.aload_n 0, 1) := by decide +kernel
theorem dX6_init_40 : decode cX6_init 40 = .ok (.getfield 23, 3) := by decide +kernel
theorem dX6_init_43 : decode cX6_init 43 = .ok (.invokespecial 29, 3) := by decide +kernel
theorem dX6_init_46 : decode cX6_init 46 = .ok (.putfield 32, 3) := by decide +kernel
theorem dX6_init_49 : decode cX6_init 49 = .ok (.aload_n 0, 1) := by decide +kernel
theorem dX6_init_50 : decode cX6_init 50 = .ok (.new 36, 3) := by decide +kernel
theorem dX6_init_53 : decode cX6_init 53 = .ok (.dup, 1) := by decide +kernel
theorem dX6_init_54 : decode cX6_init 54 = .ok (.aload_n 0, 1) := by decide +kernel
theorem dX6_init_55 : decode cX6_init 55 = .ok (.getfield 32, 3) := by decide +kernel
theorem dX6_init_58 : decode cX6_init 58 = .ok (.invokespecial 38, 3) := by decide +kernel
theorem dX6_init_61 : decode cX6_init 61 = .ok (.putfield 41, 3) := by decide +kernel
theorem dX6_init_64 : decode cX6_init 64 = .ok (.aload_n 0, 1) := by decide +kernel
theorem dX6_init_65 : decode cX6_init 65 = .ok (.new 45, 3) := by decide +kernel
theorem dX6_init_68 : decode cX6_init 68 = .ok (.dup, 1) := by decide +kernel
theorem dX6_init_69 : decode cX6_init 69 = .ok (.aload_n 0, 1) := by decide +kernel
theorem dX6_init_70 : decode cX6_init 70 = .ok (.getfield 14, 3) := by decide +kernel
theorem dX6_init_73 : decode cX6_init 73 = .ok (.invokespecial 47, 3) := by decide +kernel
theorem dX6_init_76 : decode cX6_init 76 = .ok (.putfield 48, 3) := by decide +kernel
theorem dX6_init_79 : decode cX6_init 79 = .ok (.aload_n 0, 1) := by decide +kernel
theorem dX6_init_80 : decode cX6_init 80 = .ok (.bipush 60, 2) := by decide +kernel
theorem dX6_init_82 : decode cX6_init 82 = .ok (.anewarray 52, 3) := by decide +kernel
theorem dX6_init_85 : decode cX6_init 85 = .ok (.putfield 54, 3) := by decide +kernel
theorem dX6_init_88 : decode cX6_init 88 = .ok (.return_, 1) := by decide +kernel
theorem dX6_table_0 : decode cX6_table 0 = .ok (.aload_n 0, 1) := by decide +kernel
theorem dX6_table_1 : decode cX6_table 1 = .ok (.getfield 58, 3) := by decide +kernel
theorem dX6_table_4 : decode cX6_table 4 = .ok (.ifCond .le 6, 3) := by decide +kernel
theorem dX6_table_7 : decode cX6_table 7 = .ok (.bipush (-3), 2) := by decide +kernel
theorem dX6_table_9 : decode cX6_table 9 = .ok (.ireturn, 1) := by decide +kernel
theorem dX6_table_10 : decode cX6_table 10 = .ok (.aload_n 0, 1) := by decide +kernel
theorem dX6_table_11 : decode cX6_table 11 = .ok (.getfield 14, 3) := by decide +kernel
theorem dX6_table_14 : decode cX6_table 14 = .ok (.getfield 62, 3) := by decide +kernel
theorem dX6_table_17 : decode cX6_table 17 = .ok (.iconst 4, 1) := by decide +kernel
theorem dX6_table_18 : decode cX6_table 18 = .ok (.if_icmp .lt 6, 3) := by decide +kernel
theorem dX6_table_21 : decode cX6_table 21 = .ok (.bipush (-4), 2) := by decide +kernel
theorem dX6_table_23 : decode cX6_table 23 = .ok (.ireturn, 1) := by decide +kernel
theorem dX6_table_24 : decode cX6_table 24 = .ok (.aload_n 0, 1) := by decide +kernel
theorem dX6_table_25 : decode cX6_table 25 = .ok (.invokevirtual 65, 3) := by decide +kernel
theorem dX6_table_28 : decode cX6_table 28 = .ok (.aload_n 0, 1) := by decide +kernel
theorem dX6_table_29 : decode cX6_table 29 = .ok (.getfield 14, 3) := by decide +kernel
theorem dX6_table_32 : decode cX6_table 32 = .ok (.invokevirtual 68, 3) := by decide +kernel
theorem dX6_table_35 : decode cX6_table 35 = .ok (.ireturn, 1) := by decide +kernel
theorem dX6_row_0 : decode cX6_row 0 = .ok (.aload_n 0, 1) := by decide +kernel
theorem dX6_row_1 : decode cX6_row 1 = .ok (.getfield 14, 3) := by decide +kernel
theorem dX6_row_4 : decode cX6_row 4 = .ok (.iload_n 1, 1) := by decide +kernel
theorem dX6_row_5 : decode cX6_row 5 = .ok (.invokevirtual 72, 3) := by decide +kernel
theorem dX6_row_8 : decode cX6_row 8 = .ok (.ifCond .ne 5, 3) := by decide +kernel
theorem dX6_row_11 : decode cX6_row 11 = .ok (.iconst (-1), 1) := by decide +kernel
theorem dX6_row_12 : decode cX6_row 12 = .ok (.ireturn, 1) := by decide +kernel
theorem dX6_row_13 : decode cX6_row 13 = .ok (.aload_n 0, 1) := by decide +kernel
theorem dX6_row_14 : decode cX6_row 14 = .ok (.getfield 58, 3) := by decide +kernel
theorem dX6_row_17 : decode cX6_row 17 = .ok (.ifCond .le 6, 3) := by decide +kernel
theorem dX6_row_20 : decode cX6_row 20 = .ok (.bipush (-3), 2) := by decide +kernel
theorem dX6_row_22 : decode cX6_row 22 = .ok (.ireturn, 1) := by decide +kernel
theorem dX6_row_23 : decode cX6_row 23 = .ok (.aload_n 0, 1) := by decide +kernel
theorem dX6_row_24 : decode cX6_row 24 = .ok (.getfield 14, 3) := by decide +kernel
theorem dX6_row_27 : decode cX6_row 27 = .ok (.iload_n 1, 1) := by decide +kernel
theorem dX6_row_28 : decode cX6_row 28 = .ok (.invokevirtual 76, 3) := by decide +kernel
theorem dX6_row_31 : decode cX6_row 31 = .ok (.bipush 8, 2) := by decide +kernel
theorem dX6_row_33 : decode cX6_row 33 = .ok (.if_icmp .lt 6, 3) := by decide +kernel
theorem dX6_row_36 : decode cX6_row 36 = .ok (.bipush (-4), 2) := by decide +kernel
theorem dX6_row_38 : decode cX6_row 38 = .ok (.ireturn, 1) := by decide +kernel
theorem dX6_row_39 : decode cX6_row 39 = .ok (.aload_n 0, 1) := by decide +kernel
theorem dX6_row_40 : decode cX6_row 40 = .ok (.invokevirtual 65, 3) := by decide +kernel
theorem dX6_row_43 : decode cX6_row 43 = .ok (.aload_n 0, 1) := by decide +kernel
theorem dX6_row_44 : decode cX6_row 44 = .ok (.getfield 14, 3) := by decide +kernel
theorem dX6_row_47 : decode cX6_row 47 = .ok (.iload_n 1, 1) := by decide +kernel
theorem dX6_row_48 : decode cX6_row 48 = .ok (.iload_n 2, 1) := by decide +kernel
theorem dX6_row_49 : decode cX6_row 49 = .ok (.iload_n 3, 1) := by decide +kernel
theorem dX6_row_50 : decode cX6_row 50 = .ok (.iload 4, 2) := by decide +kernel
theorem dX6_row_52 : decode cX6_row 52 = .ok (.invokevirtual 80, 3) := by decide +kernel
theorem dX6_row_55 : decode cX6_row 55 = .ok (.ireturn, 1) := by decide +kernel
theorem dX6_pair_0 : decode cX6_pair 0 = .ok (.aload_n 0, 1) := by decide +kernel
theorem dX6_pair_1 : decode cX6_pair 1 = .ok (.getfield 14, 3) := by decide +kernel
theorem dX6_pair_4 : decode cX6_pair 4 = .ok (.iload_n 1, 1) := by decide +kernel
theorem dX6_pair_5 : decode cX6_pair 5 = .ok (.iload_n 2, 1) := by decide +kernel
theorem dX6_pair_6 : decode cX6_pair 6 = .ok (.invokevirtual 84, 3) := by decide +kernel
theorem dX6_pair_9 : decode cX6_pair 9 = .ok (.ifCond .eq 16, 3) := by decide +kernel
theorem dX6_pair_12 : decode cX6_pair 12 = .ok (.aload_n 0, 1) := by decide +kernel
theorem dX6_pair_13 : decode cX6_pair 13 = .ok (.getfield 14, 3) := by decide +kernel
theorem dX6_pair_16 : decode cX6_pair 16 = .ok (.iload_n 3, 1) := by decide +kernel
theorem dX6_pair_17 : decode cX6_pair 17 = .ok (.iload 4, 2) := by decide +kernel
theorem dX6_pair_19 : decode cX6_pair 19 = .ok (.invokevirtual 84, 3) := by decide +kernel
theorem dX6_pair_22 : decode cX6_pair 22 = .ok (.ifCond .ne 5, 3) := by decide +kernel
theorem dX6_pair_25 : decode cX6_pair 25 = .ok (.iconst (-1), 1) := by decide +kernel
theorem dX6_pair_26 : decode cX6_pair 26 = .ok (.ireturn, 1) := by decide +kernel
theorem dX6_pair_27 : decode cX6_pair 27 = .ok (.iload_n 3, 1) := by decide +kernel
theorem dX6_pair_28 : decode cX6_pair 28 = .ok (.iload_n 1, 1) := by decide +kernel
theorem dX6_pair_29 : decode cX6_pair 29 = .ok (.if_icmp .le 14, 3) := by decide +kernel
theorem dX6_pair_32 : decode cX6_pair 32 = .ok (.iload 5, 2) := by decide +kernel
theorem dX6_pair_34 : decode cX6_pair 34 = .ok (.ifCond .lt 9, 3) := by decide +kernel
theorem dX6_pair_37 : decode cX6_pair 37 = .ok (.iload 5, 2) := by decide +kernel
theorem dX6_pair_39 : decode cX6_pair 39 = .ok (.iconst 4, 1) := by decide +kernel
theorem dX6_pair_40 : decode cX6_pair 40 = .ok (.if_icmp .le 6, 3) := by decide +kernel
theorem dX6_pair_43 : decode cX6_pair 43 = .ok (.bipush (-2), 2) := by decide +kernel
theorem dX6_pair_45 : decode cX6_pair 45 = .ok (.ireturn, 1) := by decide +kernel
theorem dX6_pair_46 : decode cX6_pair 46 = .ok (.aload_n 0, 1) := by decide +kernel
theorem dX6_pair_47 : decode cX6_pair 47 = .ok (.getfield 58, 3) := by decide +kernel
theorem dX6_pair_50 : decode cX6_pair 50 = .ok (.ifCond .gt 19, 3) := by decide +kernel
theorem dX6_pair_53 : decode cX6_pair 53 = .ok (.iload 5, 2) := by decide +kernel
theorem dX6_pair_55 : decode cX6_pair 55 = .ok (.ifCond .ne 17, 3) := by decide +kernel
theorem dX6_pair_58 : decode cX6_pair 58 = .ok (.aload_n 0, 1) := by decide +kernel
theorem dX6_pair_59 : decode cX6_pair 59 = .ok (.getfield 14, 3) := by decide +kernel
theorem dX6_pair_62 : decode cX6_pair 62 = .ok (.getfield 88, 3) := by decide +kernel
theorem dX6_pair_65 : decode cX6_pair 65 = .ok (.iconst (-1), 1) := by decide +kernel
theorem dX6_pair_66 : decode cX6_pair 66 = .ok (.if_icmp .eq 6, 3) := by decide +kernel
theorem dX6_pair_69 : decode cX6_pair 69 = .ok (.bipush (-3), 2) := by decide +kernel
theorem dX6_pair_71 : decode cX6_pair 71 = .ok (.ireturn, 1) := by decide +kernel
theorem dX6_pair_72 : decode cX6_pair 72 = .ok (.aload_n 0, 1) := by decide +kernel
theorem dX6_pair_73 : decode cX6_pair 73 = .ok (.getfield 14, 3) := by decide +kernel
theorem dX6_pair_76 : decode cX6_pair 76 = .ok (.getfield 91, 3) := by decide +kernel
theorem dX6_pair_79 : decode cX6_pair 79 = .ok (.iconst 4, 1) := by decide +kernel
theorem dX6_pair_80 : decode cX6_pair 80 = .ok (.if_icmp .lt 6, 3) := by decide +kernel
theorem dX6_pair_83 : decode cX6_pair 83 = .ok (.bipush (-4), 2) := by decide +kernel
theorem dX6_pair_85 : decode cX6_pair 85 = .ok (.ireturn, 1) := by decide +kernel
theorem dX6_pair_86 : decode cX6_pair 86 = .ok (.aload_n 0, 1) := by decide +kernel
theorem dX6_pair_87 : decode cX6_pair 87 = .ok (.invokevirtual 65, 3) := by decide +kernel
theorem dX6_pair_90 : decode cX6_pair 90 = .ok (.aload_n 0, 1) := by decide +kernel
theorem dX6_pair_91 : decode cX6_pair 91 = .ok (.getfield 14, 3) := by decide +kernel
theorem dX6_pair_94 : decode cX6_pair 94 = .ok (.iload_n 1, 1) := by decide +kernel
theorem dX6_pair_95 : decode cX6_pair 95 = .ok (.iload_n 2, 1) := by decide +kernel
theorem dX6_pair_96 : decode cX6_pair 96 = .ok (.iload_n 3, 1) := by decide +kernel
theorem dX6_pair_97 : decode cX6_pair 97 = .ok (.iload 4, 2) := by decide +kernel
theorem dX6_pair_99 : decode cX6_pair 99 = .ok (.iload 5, 2) := by decide +kernel
theorem dX6_pair_101 : decode cX6_pair 101 = .ok (.invokevirtual 94, 3) := by decide +kernel
theorem dX6_pair_104 : decode cX6_pair 104 = .ok (.ireturn, 1) := by decide +kernel
theorem dX6_order_0 : decode cX6_order 0 = .ok (.iload_n 1, 1) := by decide +kernel
theorem dX6_order_1 : decode cX6_order 1 = .ok (.iconst (-1), 1) := by decide +kernel
theorem dX6_order_2 : decode cX6_order 2 = .ok (.if_icmp .ne 7, 3) := by decide +kernel
theorem dX6_order_5 : decode cX6_order 5 = .ok (.iconst 1, 1) := by decide +kernel
theorem dX6_order_6 : decode cX6_order 6 = .ok (.goto 4, 3) := by decide +kernel
theorem dX6_order_9 : decode cX6_order 9 = .ok (.iconst 0, 1) := by decide +kernel
theorem dX6_order_10 : decode cX6_order 10 = .ok (.istore_n 3, 1) := by decide +kernel
theorem dX6_order_11 : decode cX6_order 11 = .ok (.iload_n 3, 1) := by decide +kernel
theorem dX6_order_12 : decode cX6_order 12 = .ok (.ifCond .ne 17, 3) := by decide +kernel
theorem dX6_order_15 : decode cX6_order 15 = .ok (.aload_n 0, 1) := by decide +kernel
theorem dX6_order_16 : decode cX6_order 16 = .ok (.getfield 14, 3) := by decide +kernel
theorem dX6_order_19 : decode cX6_order 19 = .ok (.iload_n 1, 1) := by decide +kernel
theorem dX6_order_20 : decode cX6_order 20 = .ok (.iload_n 2, 1) := by decide +kernel
theorem dX6_order_21 : decode cX6_order 21 = .ok (.invokevirtual 84, 3) := by decide +kernel
theorem dX6_order_24 : decode cX6_order 24 = .ok (.ifCond .ne 5, 3) := by decide +kernel
theorem dX6_order_27 : decode cX6_order 27 = .ok (.iconst (-1), 1) := by decide +kernel
theorem dX6_order_28 : decode cX6_order 28 = .ok (.ireturn, 1) := by decide +kernel
theorem dX6_order_29 : decode cX6_order 29 = .ok (.aload_n 0, 1) := by decide +kernel
theorem dX6_order_30 : decode cX6_order 30 = .ok (.getfield 58, 3) := by decide +kernel
theorem dX6_order_33 : decode cX6_order 33 = .ok (.ifCond .le 6, 3) := by decide +kernel
theorem dX6_order_36 : decode cX6_order 36 = .ok (.bipush (-3), 2) := by decide +kernel
theorem dX6_order_38 : decode cX6_order 38 = .ok (.ireturn, 1) := by decide +kernel
theorem dX6_order_39 : decode cX6_order 39 = .ok (.aload_n 0, 1) := by decide +kernel
theorem dX6_order_40 : decode cX6_order 40 = .ok (.invokevirtual 65, 3) := by decide +kernel
theorem dX6_order_43 : decode cX6_order 43 = .ok (.aload_n 0, 1) := by decide +kernel
theorem dX6_order_44 : decode cX6_order 44 = .ok (.getfield 14, 3) := by decide +kernel
theorem dX6_order_47 : decode cX6_order 47 = .ok (.iload_n 1, 1) := by decide +kernel
theorem dX6_order_48 : decode cX6_order 48 = .ok (.putfield 98, 3) := by decide +kernel
theorem dX6_order_51 : decode cX6_order 51 = .ok (.aload_n 0, 1) := by decide +kernel
theorem dX6_order_52 : decode cX6_order 52 = .ok (.getfield 14, 3) := by decide +kernel
theorem dX6_order_55 : decode cX6_order 55 = .ok (.iload_n 3, 1) := by decide +kernel
theorem dX6_order_56 : decode cX6_order 56 = .ok (.ifCond .eq 7, 3) := by decide +kernel
theorem dX6_order_59 : decode cX6_order 59 = .ok (.iconst 0, 1) := by decide +kernel
theorem dX6_order_60 : decode cX6_order 60 = .ok (.goto 4, 3) := by decide +kernel
theorem dX6_order_63 : decode cX6_order 63 = .ok (.iload_n 2, 1) := by decide +kernel
theorem dX6_order_64 : decode cX6_order 64 = .ok (.putfield 101, 3) := by decide +kernel
theorem dX6_order_67 : decode cX6_order 67 = .ok (.iconst 0, 1) := by decide +kernel
theorem dX6_order_68 : decode cX6_order 68 = .ok (.ireturn, 1) := by decide +kernel
theorem dX6_clear_0 : decode cX6_clear 0 = .ok (.aload_n 0, 1) := by decide +kernel
theorem dX6_clear_1 : decode cX6_clear 1 = .ok (.getfield 58, 3) := by decide +kernel
theorem dX6_clear_4 : decode cX6_clear 4 = .ok (.istore_n 1, 1) := by decide +kernel
theorem dX6_clear_5 : decode cX6_clear 5 = .ok (.iconst 0, 1) := by decide +kernel
theorem dX6_clear_6 : decode cX6_clear 6 = .ok (.istore_n 2, 1) := by decide +kernel
theorem dX6_clear_7 : decode cX6_clear 7 = .ok (.iload_n 2, 1) := by decide +kernel
theorem dX6_clear_8 : decode cX6_clear 8 = .ok (.bipush 60, 2) := by decide +kernel
theorem dX6_clear_10 : decode cX6_clear 10 = .ok (.if_icmp .ge 16, 3) := by decide +kernel
theorem dX6_clear_13 : decode cX6_clear 13 = .ok (.aload_n 0, 1) := by decide +kernel
theorem dX6_clear_14 : decode cX6_clear 14 = .ok (.getfield 54, 3) := by decide +kernel
theorem dX6_clear_17 : decode cX6_clear 17 = .ok (.iload_n 2, 1) := by decide +kernel
theorem dX6_clear_18 : decode cX6_clear 18 = .ok (.aconst_null, 1) := by decide +kernel
theorem dX6_clear_19 : decode cX6_clear 19 = .ok (.aastore, 1) := by decide +kernel
theorem dX6_clear_20 : decode cX6_clear 20 = .ok (.iinc 2 1, 3) := by decide +kernel
theorem dX6_clear_23 : decode cX6_clear 23 = .ok (.goto (-16), 3) := by decide +kernel
theorem dX6_clear_26 : decode cX6_clear 26 = .ok (.aload_n 0, 1) := by decide +kernel
theorem dX6_clear_27 : decode cX6_clear 27 = .ok (.iconst 0, 1) := by decide +kernel
theorem dX6_clear_28 : decode cX6_clear 28 = .ok (.putfield 58, 3) := by decide +kernel
theorem dX6_clear_31 : decode cX6_clear 31 = .ok (.iload_n 1, 1) := by decide +kernel
theorem dX6_clear_32 : decode cX6_clear 32 = .ok (.ireturn, 1) := by decide +kernel
theorem dX6_read_0 : decode cX6_read 0 = .ok (.aload_n 0, 1) := by decide +kernel
theorem dX6_read_1 : decode cX6_read 1 = .ok (.getfield 14, 3) := by decide +kernel
theorem dX6_read_4 : decode cX6_read 4 = .ok (.iload_n 1, 1) := by decide +kernel
theorem dX6_read_5 : decode cX6_read 5 = .ok (.invokevirtual 72, 3) := by decide +kernel
theorem dX6_read_8 : decode cX6_read 8 = .ok (.ifCond .ne 5, 3) := by decide +kernel
theorem dX6_read_11 : decode cX6_read 11 = .ok (.iconst (-1), 1) := by decide +kernel
theorem dX6_read_12 : decode cX6_read 12 = .ok (.ireturn, 1) := by decide +kernel
theorem dX6_read_13 : decode cX6_read 13 = .ok (.aload_n 0, 1) := by decide +kernel
theorem dX6_read_14 : decode cX6_read 14 = .ok (.getfield 14, 3) := by decide +kernel
theorem dX6_read_17 : decode cX6_read 17 = .ok (.invokevirtual 104, 3) := by decide +kernel
theorem dX6_read_20 : decode cX6_read 20 = .ok (.ifCond .ne 6, 3) := by decide +kernel
theorem dX6_read_23 : decode cX6_read 23 = .ok (.bipush (-3), 2) := by decide +kernel
theorem dX6_read_25 : decode cX6_read 25 = .ok (.ireturn, 1) := by decide +kernel
theorem dX6_read_26 : decode cX6_read 26 = .ok (.aload_n 0, 1) := by decide +kernel
theorem dX6_read_27 : decode cX6_read 27 = .ok (.getfield 58, 3) := by decide +kernel
theorem dX6_read_30 : decode cX6_read 30 = .ok (.bipush 60, 2) := by decide +kernel
theorem dX6_read_32 : decode cX6_read 32 = .ok (.if_icmp .lt 6, 3) := by decide +kernel
theorem dX6_read_35 : decode cX6_read 35 = .ok (.bipush (-4), 2) := by decide +kernel
theorem dX6_read_37 : decode cX6_read 37 = .ok (.ireturn, 1) := by decide +kernel
theorem dX6_read_38 : decode cX6_read 38 = .ok (.aload_n 0, 1) := by decide +kernel
theorem dX6_read_39 : decode cX6_read 39 = .ok (.invokevirtual 108, 3) := by decide +kernel
theorem dX6_read_42 : decode cX6_read 42 = .ok (.aload_n 0, 1) := by decide +kernel
theorem dX6_read_43 : decode cX6_read 43 = .ok (.aload_n 0, 1) := by decide +kernel
theorem dX6_read_44 : decode cX6_read 44 = .ok (.getfield 23, 3) := by decide +kernel
theorem dX6_read_47 : decode cX6_read 47 = .ok (.iload_n 1, 1) := by decide +kernel
theorem dX6_read_48 : decode cX6_read 48 = .ok (.invokevirtual 111, 3) := by decide +kernel
theorem dX6_read_51 : decode cX6_read 51 = .ok (.invokevirtual 115, 3) := by decide +kernel
theorem dX6_read_54 : decode cX6_read 54 = .ok (.ireturn, 1) := by decide +kernel
theorem dX6_join_0 : decode cX6_join 0 = .ok (.aload_n 0, 1) := by decide +kernel
theorem dX6_join_1 : decode cX6_join 1 = .ok (.iload_n 2, 1) := by decide +kernel
theorem dX6_join_2 : decode cX6_join 2 = .ok (.invokevirtual 119, 3) := by decide +kernel
theorem dX6_join_5 : decode cX6_join 5 = .ok (.astore 4, 2) := by decide +kernel
theorem dX6_join_7 : decode cX6_join 7 = .ok (.aload_n 0, 1) := by decide +kernel
theorem dX6_join_8 : decode cX6_join 8 = .ok (.iload_n 3, 1) := by decide +kernel
theorem dX6_join_9 : decode cX6_join 9 = .ok (.invokevirtual 119, 3) := by decide +kernel
theorem dX6_join_12 : decode cX6_join 12 = .ok (.astore 5, 2) := by decide +kernel
theorem dX6_join_14 : decode cX6_join 14 = .ok (.aload 4, 2) := by decide +kernel
theorem dX6_join_16 : decode cX6_join 16 = .ok (.ifnull 8, 3) := by decide +kernel
theorem dX6_join_19 : decode cX6_join 19 = .ok (.aload 5, 2) := by decide +kernel
theorem dX6_join_21 : decode cX6_join 21 = .ok (.ifnonnull 5, 3) := by decide +kernel
theorem dX6_join_24 : decode cX6_join 24 = .ok (.iconst (-1), 1) := by decide +kernel
theorem dX6_join_25 : decode cX6_join 25 = .ok (.ireturn, 1) := by decide +kernel
theorem dX6_join_26 : decode cX6_join 26 = .ok (.iload_n 1, 1) := by decide +kernel
theorem dX6_join_27 : decode cX6_join 27 = .ok (.ifCond .lt 8, 3) := by decide +kernel
theorem dX6_join_30 : decode cX6_join 30 = .ok (.iload_n 1, 1) := by decide +kernel
theorem dX6_join_31 : decode cX6_join 31 = .ok (.iconst 3, 1) := by decide +kernel
theorem dX6_join_32 : decode cX6_join 32 = .ok (.if_icmp .lt 6, 3) := by decide +kernel
theorem dX6_join_35 : decode cX6_join 35 = .ok (.bipush (-2), 2) := by decide +kernel
theorem dX6_join_37 : decode cX6_join 37 = .ok (.ireturn, 1) := by decide +kernel
theorem dX6_join_38 : decode cX6_join 38 = .ok (.aload 4, 2) := by decide +kernel
theorem dX6_join_40 : decode cX6_join 40 = .ok (.getfield 122, 3) := by decide +kernel
theorem dX6_join_43 : decode cX6_join 43 = .ok (.aload 5, 2) := by decide +kernel
theorem dX6_join_45 : decode cX6_join 45 = .ok (.getfield 122, 3) := by decide +kernel
theorem dX6_join_48 : decode cX6_join 48 = .ok (.iand, 1) := by decide +kernel
theorem dX6_join_49 : decode cX6_join 49 = .ok (.ifCond .ne 24, 3) := by decide +kernel
theorem dX6_join_52 : decode cX6_join 52 = .ok (.aload_n 0, 1) := by decide +kernel
theorem dX6_join_53 : decode cX6_join 53 = .ok (.getfield 14, 3) := by decide +kernel
theorem dX6_join_56 : decode cX6_join 56 = .ok (.aload 4, 2) := by decide +kernel
theorem dX6_join_58 : decode cX6_join 58 = .ok (.getfield 122, 3) := by decide +kernel
theorem dX6_join_61 : decode cX6_join 61 = .ok (.aload 5, 2) := by decide +kernel
theorem dX6_join_63 : decode cX6_join 63 = .ok (.getfield 122, 3) := by decide +kernel
theorem dX6_join_66 : decode cX6_join 66 = .ok (.invokevirtual 125, 3) := by decide +kernel
theorem dX6_join_69 : decode cX6_join 69 = .ok (.iconst (-1), 1) := by decide +kernel
theorem dX6_join_70 : decode cX6_join 70 = .ok (.if_icmp .ne 6, 3) := by decide +kernel
theorem dX6_join_73 : decode cX6_join 73 = .ok (.bipush (-3), 2) := by decide +kernel
theorem dX6_join_75 : decode cX6_join 75 = .ok (.ireturn, 1) := by decide +kernel
theorem dX6_join_76 : decode cX6_join 76 = .ok (.aload_n 0, 1) := by decide +kernel
theorem dX6_join_77 : decode cX6_join 77 = .ok (.getfield 58, 3) := by decide +kernel
theorem dX6_join_80 : decode cX6_join 80 = .ok (.bipush 60, 2) := by decide +kernel
theorem dX6_join_82 : decode cX6_join 82 = .ok (.if_icmp .lt 6, 3) := by decide +kernel
theorem dX6_join_85 : decode cX6_join 85 = .ok (.bipush (-4), 2) := by decide +kernel
theorem dX6_join_87 : decode cX6_join 87 = .ok (.ireturn, 1) := by decide +kernel
theorem dX6_join_88 : decode cX6_join 88 = .ok (.aload_n 0, 1) := by decide +kernel
theorem dX6_join_89 : decode cX6_join 89 = .ok (.aload_n 0, 1) := by decide +kernel
theorem dX6_join_90 : decode cX6_join 90 = .ok (.getfield 23, 3) := by decide +kernel
theorem dX6_join_93 : decode cX6_join 93 = .ok (.iload_n 1, 1) := by decide +kernel
theorem dX6_join_94 : decode cX6_join 94 = .ok (.aload 4, 2) := by decide +kernel
theorem dX6_join_96 : decode cX6_join 96 = .ok (.aload 5, 2) := by decide +kernel
theorem dX6_join_98 : decode cX6_join 98 = .ok (.invokevirtual 129, 3) := by decide +kernel
theorem dX6_join_101 : decode cX6_join 101 = .ok (.invokevirtual 115, 3) := by decide +kernel
theorem dX6_join_104 : decode cX6_join 104 = .ok (.ireturn, 1) := by decide +kernel
theorem dX6_code_0 : decode cX6_code 0 = .ok (.aload_n 0, 1) := by decide +kernel
theorem dX6_code_1 : decode cX6_code 1 = .ok (.iload_n 1, 1) := by decide +kernel
theorem dX6_code_2 : decode cX6_code 2 = .ok (.invokevirtual 119, 3) := by decide +kernel
theorem dX6_code_5 : decode cX6_code 5 = .ok (.astore_n 3, 1) := by decide +kernel
theorem dX6_code_6 : decode cX6_code 6 = .ok (.aload_n 3, 1) := by decide +kernel
theorem dX6_code_7 : decode cX6_code 7 = .ok (.ifnull 15, 3) := by decide +kernel
theorem dX6_code_10 : decode cX6_code 10 = .ok (.iload_n 2, 1) := by decide +kernel
theorem dX6_code_11 : decode cX6_code 11 = .ok (.ifCond .lt 11, 3) := by decide +kernel
theorem dX6_code_14 : decode cX6_code 14 = .ok (.iload_n 2, 1) := by decide +kernel
theorem dX6_code_15 : decode cX6_code 15 = .ok (.aload_n 3, 1) := by decide +kernel
theorem dX6_code_16 : decode cX6_code 16 = .ok (.invokevirtual 133, 3) := by decide +kernel
theorem dX6_code_19 : decode cX6_code 19 = .ok (.if_icmp .lt 5, 3) := by decide +kernel
theorem dX6_code_22 : decode cX6_code 22 = .ok (.iconst (-1), 1) := by decide +kernel
theorem dX6_code_23 : decode cX6_code 23 = .ok (.ireturn, 1) := by decide +kernel
theorem dX6_code_24 : decode cX6_code 24 = .ok (.aload_n 3, 1) := by decide +kernel
theorem dX6_code_25 : decode cX6_code 25 = .ok (.iload_n 2, 1) := by decide +kernel
theorem dX6_code_26 : decode cX6_code 26 = .ok (.invokevirtual 136, 3) := by decide +kernel
theorem dX6_code_29 : decode cX6_code 29 = .ok (.ireturn, 1) := by decide +kernel
theorem dX6_about_0 : decode cX6_about 0 = .ok (.aload_n 0, 1) := by decide +kernel
theorem dX6_about_1 : decode cX6_about 1 = .ok (.iload_n 1, 1) := by decide +kernel
theorem dX6_about_2 : decode cX6_about 2 = .ok (.invokevirtual 119, 3) := by decide +kernel
theorem dX6_about_5 : decode cX6_about 5 = .ok (.astore_n 3, 1) := by decide +kernel
theorem dX6_about_6 : decode cX6_about 6 = .ok (.aload_n 3, 1) := by decide +kernel
theorem dX6_about_7 : decode cX6_about 7 = .ok (.ifnonnull 5, 3) := by decide +kernel
theorem dX6_about_10 : decode cX6_about 10 = .ok (.iconst (-1), 1) := by decide +kernel
theorem dX6_about_11 : decode cX6_about 11 = .ok (.ireturn, 1) := by decide +kernel
theorem dX6_about_12 : decode cX6_about 12 = .ok (.iload_n 2, 1) := by decide +kernel
theorem dX6_about_13 : decode cX6_about 13 = .ok (.tableswitch 79 0 3 #[31, 36, 46, 59], 31) := by decide +kernel
theorem dX6_about_44 : decode cX6_about 44 = .ok (.aload_n 3, 1) := by decide +kernel
theorem dX6_about_45 : decode cX6_about 45 = .ok (.getfield 122, 3) := by decide +kernel
theorem dX6_about_48 : decode cX6_about 48 = .ok (.ireturn, 1) := by decide +kernel
theorem dX6_about_49 : decode cX6_about 49 = .ok (.aload_n 3, 1) := by decide +kernel
theorem dX6_about_50 : decode cX6_about 50 = .ok (.getfield 122, 3) := by decide +kernel
theorem dX6_about_53 : decode cX6_about 53 = .ok (.invokestatic 139, 3) := by decide +kernel
theorem dX6_about_56 : decode cX6_about 56 = .ok (.iconst 1, 1) := by decide +kernel
theorem dX6_about_57 : decode cX6_about 57 = .ok (.isub, 1) := by decide +kernel
theorem dX6_about_58 : decode cX6_about 58 = .ok (.ireturn, 1) := by decide +kernel
theorem dX6_about_59 : decode cX6_about 59 = .ok (.aload_n 3, 1) := by decide +kernel
theorem dX6_about_60 : decode cX6_about 60 = .ok (.getfield 144, 3) := by decide +kernel
theorem dX6_about_63 : decode cX6_about 63 = .ok (.ifCond .eq 7, 3) := by decide +kernel
theorem dX6_about_66 : decode cX6_about 66 = .ok (.iconst 1, 1) := by decide +kernel
theorem dX6_about_67 : decode cX6_about 67 = .ok (.goto 4, 3) := by decide +kernel
theorem dX6_about_70 : decode cX6_about 70 = .ok (.iconst 0, 1) := by decide +kernel
theorem dX6_about_71 : decode cX6_about 71 = .ok (.ireturn, 1) := by decide +kernel
theorem dX6_about_72 : decode cX6_about 72 = .ok (.aload_n 3, 1) := by decide +kernel
theorem dX6_about_73 : decode cX6_about 73 = .ok (.getfield 122, 3) := by decide +kernel
theorem dX6_about_76 : decode cX6_about 76 = .ok (.aload_n 0, 1) := by decide +kernel
theorem dX6_about_77 : decode cX6_about 77 = .ok (.getfield 14, 3) := by decide +kernel
theorem dX6_about_80 : decode cX6_about 80 = .ok (.invokevirtual 148, 3) := by decide +kernel
theorem dX6_about_83 : decode cX6_about 83 = .ok (.if_icmp .ne 7, 3) := by decide +kernel
theorem dX6_about_86 : decode cX6_about 86 = .ok (.iconst 1, 1) := by decide +kernel
theorem dX6_about_87 : decode cX6_about 87 = .ok (.goto 4, 3) := by decide +kernel
theorem dX6_about_90 : decode cX6_about 90 = .ok (.iconst 0, 1) := by decide +kernel
theorem dX6_about_91 : decode cX6_about 91 = .ok (.ireturn, 1) := by decide +kernel
theorem dX6_about_92 : decode cX6_about 92 = .ok (.iconst (-1), 1) := by decide +kernel
theorem dX6_about_93 : decode cX6_about 93 = .ok (.ireturn, 1) := by decide +kernel
theorem dX6_price_0 : decode cX6_price 0 = .ok (.aload_n 0, 1) := by decide +kernel
theorem dX6_price_1 : decode cX6_price 1 = .ok (.iload_n 1, 1) := by decide +kernel
theorem dX6_price_2 : decode cX6_price 2 = .ok (.invokevirtual 119, 3) := by decide +kernel
theorem dX6_price_5 : decode cX6_price 5 = .ok (.astore_n 3, 1) := by decide +kernel
theorem dX6_price_6 : decode cX6_price 6 = .ok (.aload_n 3, 1) := by decide +kernel
theorem dX6_price_7 : decode cX6_price 7 = .ok (.ifnonnull 7, 3) := by decide +kernel
theorem dX6_price_10 : decode cX6_price 10 = .ok (.ldc2_w 151, 3) := by decide +kernel
theorem dX6_price_13 : decode cX6_price 13 = .ok (.lreturn, 1) := by decide +kernel
theorem dX6_price_14 : decode cX6_price 14 = .ok (.iload_n 2, 1) := by decide +kernel
theorem dX6_price_15 : decode cX6_price 15 = .ok (.tableswitch 63 0 3 #[29, 34, 39, 51], 29) := by decide +kernel
theorem dX6_price_44 : decode cX6_price 44 = .ok (.aload_n 3, 1) := by decide +kernel
theorem dX6_price_45 : decode cX6_price 45 = .ok (.getfield 153, 3) := by decide +kernel
theorem dX6_price_48 : decode cX6_price 48 = .ok (.lreturn, 1) := by decide +kernel
theorem dX6_price_49 : decode cX6_price 49 = .ok (.aload_n 3, 1) := by decide +kernel
theorem dX6_price_50 : decode cX6_price 50 = .ok (.getfield 157, 3) := by decide +kernel
theorem dX6_price_53 : decode cX6_price 53 = .ok (.lreturn, 1) := by decide +kernel
theorem dX6_price_54 : decode cX6_price 54 = .ok (.aload_n 0, 1) := by decide +kernel
theorem dX6_price_55 : decode cX6_price 55 = .ok (.getfield 23, 3) := by decide +kernel
theorem dX6_price_58 : decode cX6_price 58 = .ok (.aload_n 3, 1) := by decide +kernel
theorem dX6_price_59 : decode cX6_price 59 = .ok (.getfield 122, 3) := by decide +kernel
theorem dX6_price_62 : decode cX6_price 62 = .ok (.invokevirtual 160, 3) := by decide +kernel
theorem dX6_price_65 : decode cX6_price 65 = .ok (.lreturn, 1) := by decide +kernel
theorem dX6_price_66 : decode cX6_price 66 = .ok (.aload_n 0, 1) := by decide +kernel
theorem dX6_price_67 : decode cX6_price 67 = .ok (.getfield 23, 3) := by decide +kernel
theorem dX6_price_70 : decode cX6_price 70 = .ok (.aload_n 3, 1) := by decide +kernel
theorem dX6_price_71 : decode cX6_price 71 = .ok (.getfield 122, 3) := by decide +kernel
theorem dX6_price_74 : decode cX6_price 74 = .ok (.invokevirtual 164, 3) := by decide +kernel
theorem dX6_price_77 : decode cX6_price 77 = .ok (.lreturn, 1) := by decide +kernel
theorem dX6_price_78 : decode cX6_price 78 = .ok (.ldc2_w 151, 3) := by decide +kernel
theorem dX6_price_81 : decode cX6_price 81 = .ok (.lreturn, 1) := by decide +kernel
theorem dX6_best_0 : decode cX6_best 0 = .ok (.iload_n 1, 1) := by decide +kernel
theorem dX6_best_1 : decode cX6_best 1 = .ok (.invokestatic 167, 3) := by decide +kernel
theorem dX6_best_4 : decode cX6_best 4 = .ok (.ifCond .ne 5, 3) := by decide +kernel
theorem dX6_best_7 : decode cX6_best 7 = .ok (.iconst (-1), 1) := by decide +kernel
theorem dX6_best_8 : decode cX6_best 8 = .ok (.ireturn, 1) := by decide +kernel
theorem dX6_best_9 : decode cX6_best 9 = .ok (.aload_n 0, 1) := by decide +kernel
theorem dX6_best_10 : decode cX6_best 10 = .ok (.getfield 14, 3) := by decide +kernel
theorem dX6_best_13 : decode cX6_best 13 = .ok (.invokevirtual 104, 3) := by decide +kernel
theorem dX6_best_16 : decode cX6_best 16 = .ok (.ifCond .ne 6, 3) := by decide +kernel
theorem dX6_best_19 : decode cX6_best 19 = .ok (.bipush (-3), 2) := by decide +kernel
theorem dX6_best_21 : decode cX6_best 21 = .ok (.ireturn, 1) := by decide +kernel
theorem dX6_best_22 : decode cX6_best 22 = .ok (.aload_n 0, 1) := by decide +kernel
theorem dX6_best_23 : decode cX6_best 23 = .ok (.getfield 58, 3) := by decide +kernel
theorem dX6_best_26 : decode cX6_best 26 = .ok (.bipush 60, 2) := by decide +kernel
theorem dX6_best_28 : decode cX6_best 28 = .ok (.if_icmp .lt 6, 3) := by decide +kernel
theorem dX6_best_31 : decode cX6_best 31 = .ok (.bipush (-4), 2) := by decide +kernel
theorem dX6_best_33 : decode cX6_best 33 = .ok (.ireturn, 1) := by decide +kernel
theorem dX6_best_34 : decode cX6_best 34 = .ok (.aload_n 0, 1) := by decide +kernel
theorem dX6_best_35 : decode cX6_best 35 = .ok (.invokevirtual 108, 3) := by decide +kernel
theorem dX6_best_38 : decode cX6_best 38 = .ok (.aload_n 0, 1) := by decide +kernel
theorem dX6_best_39 : decode cX6_best 39 = .ok (.aload_n 0, 1) := by decide +kernel
theorem dX6_best_40 : decode cX6_best 40 = .ok (.getfield 32, 3) := by decide +kernel
theorem dX6_best_43 : decode cX6_best 43 = .ok (.iload_n 1, 1) := by decide +kernel
theorem dX6_best_44 : decode cX6_best 44 = .ok (.i2l, 1) := by decide +kernel
theorem dX6_best_45 : decode cX6_best 45 = .ok (.ldc2_w 170, 3) := by decide +kernel
theorem dX6_best_48 : decode cX6_best 48 = .ok (.iconst 0, 1) := by decide +kernel
theorem dX6_best_49 : decode cX6_best 49 = .ok (.invokevirtual 172, 3) := by decide +kernel
theorem dX6_best_52 : decode cX6_best 52 = .ok (.invokevirtual 115, 3) := by decide +kernel
theorem dX6_best_55 : decode cX6_best 55 = .ok (.ireturn, 1) := by decide +kernel
theorem dX6_spans_0 : decode cX6_spans 0 = .ok (.aload_n 0, 1) := by decide +kernel
theorem dX6_spans_1 : decode cX6_spans 1 = .ok (.invokevirtual 176, 3) := by decide +kernel
theorem dX6_spans_4 : decode cX6_spans 4 = .ok (.ifCond .eq 13, 3) := by decide +kernel
theorem dX6_spans_7 : decode cX6_spans 7 = .ok (.aload_n 0, 1) := by decide +kernel
theorem dX6_spans_8 : decode cX6_spans 8 = .ok (.getfield 41, 3) := by decide +kernel
theorem dX6_spans_11 : decode cX6_spans 11 = .ok (.getfield 179, 3) := by decide +kernel
theorem dX6_spans_14 : decode cX6_spans 14 = .ok (.goto 5, 3) := by decide +kernel
theorem dX6_spans_17 : decode cX6_spans 17 = .ok (.bipush (-3), 2) := by decide +kernel
theorem dX6_spans_19 : decode cX6_spans 19 = .ok (.ireturn, 1) := by decide +kernel
theorem dX6_border_0 : decode cX6_border 0 = .ok (.aload_n 0, 1) := by decide +kernel
theorem dX6_border_1 : decode cX6_border 1 = .ok (.invokevirtual 176, 3) := by decide +kernel
theorem dX6_border_4 : decode cX6_border 4 = .ok (.ifCond .eq 18, 3) := by decide +kernel
theorem dX6_border_7 : decode cX6_border 7 = .ok (.iload_n 1, 1) := by decide +kernel
theorem dX6_border_8 : decode cX6_border 8 = .ok (.ifCond .lt 14, 3) := by decide +kernel
theorem dX6_border_11 : decode cX6_border 11 = .ok (.iload_n 1, 1) := by decide +kernel
theorem dX6_border_12 : decode cX6_border 12 = .ok (.aload_n 0, 1) := by decide +kernel
theorem dX6_border_13 : decode cX6_border 13 = .ok (.getfield 41, 3) := by decide +kernel
theorem dX6_border_16 : decode cX6_border 16 = .ok (.getfield 179, 3) := by decide +kernel
theorem dX6_border_19 : decode cX6_border 19 = .ok (.if_icmp .lt 7, 3) := by decide +kernel
theorem dX6_border_22 : decode cX6_border 22 = .ok (.ldc2_w 151, 3) := by decide +kernel
theorem dX6_border_25 : decode cX6_border 25 = .ok (.lreturn, 1) := by decide +kernel
theorem dX6_border_26 : decode cX6_border 26 = .ok (.iload_n 2, 1) := by decide +kernel
theorem dX6_border_27 : decode cX6_border 27 = .ok (.tableswitch 69 0 3 #[29, 38, 47, 58], 29) := by decide +kernel
theorem dX6_border_56 : decode cX6_border 56 = .ok (.aload_n 0, 1) := by decide +kernel
theorem dX6_border_57 : decode cX6_border 57 = .ok (.getfield 41, 3) := by decide +kernel
theorem dX6_border_60 : decode cX6_border 60 = .ok (.iload_n 1, 1) := by decide +kernel
theorem dX6_border_61 : decode cX6_border 61 = .ok (.invokevirtual 182, 3) := by decide +kernel
theorem dX6_border_64 : decode cX6_border 64 = .ok (.lreturn, 1) := by decide +kernel
theorem dX6_border_65 : decode cX6_border 65 = .ok (.aload_n 0, 1) := by decide +kernel
theorem dX6_border_66 : decode cX6_border 66 = .ok (.getfield 41, 3) := by decide +kernel
theorem dX6_border_69 : decode cX6_border 69 = .ok (.iload_n 1, 1) := by decide +kernel
theorem dX6_border_70 : decode cX6_border 70 = .ok (.invokevirtual 185, 3) := by decide +kernel
theorem dX6_border_73 : decode cX6_border 73 = .ok (.lreturn, 1) := by decide +kernel
theorem dX6_border_74 : decode cX6_border 74 = .ok (.aload_n 0, 1) := by decide +kernel
theorem dX6_border_75 : decode cX6_border 75 = .ok (.getfield 41, 3) := by decide +kernel
theorem dX6_border_78 : decode cX6_border 78 = .ok (.iload_n 1, 1) := by decide +kernel
theorem dX6_border_79 : decode cX6_border 79 = .ok (.iconst 1, 1) := by decide +kernel
theorem dX6_border_80 : decode cX6_border 80 = .ok (.iadd, 1) := by decide +kernel
theorem dX6_border_81 : decode cX6_border 81 = .ok (.invokevirtual 182, 3) := by decide +kernel
theorem dX6_border_84 : decode cX6_border 84 = .ok (.lreturn, 1) := by decide +kernel
theorem dX6_border_85 : decode cX6_border 85 = .ok (.aload_n 0, 1) := by decide +kernel
theorem dX6_border_86 : decode cX6_border 86 = .ok (.getfield 41, 3) := by decide +kernel
theorem dX6_border_89 : decode cX6_border 89 = .ok (.iload_n 1, 1) := by decide +kernel
theorem dX6_border_90 : decode cX6_border 90 = .ok (.iconst 1, 1) := by decide +kernel
theorem dX6_border_91 : decode cX6_border 91 = .ok (.iadd, 1) := by decide +kernel
theorem dX6_border_92 : decode cX6_border 92 = .ok (.invokevirtual 185, 3) := by decide +kernel
theorem dX6_border_95 : decode cX6_border 95 = .ok (.lreturn, 1) := by decide +kernel
theorem dX6_border_96 : decode cX6_border 96 = .ok (.ldc2_w 151, 3) := by decide +kernel
theorem dX6_border_99 : decode cX6_border 99 = .ok (.lreturn, 1) := by decide +kernel
theorem dX6_keen_0 : decode cX6_keen 0 = .ok (.iload_n 1, 1) := by decide +kernel
theorem dX6_keen_1 : decode cX6_keen 1 = .ok (.ifCond .ge 5, 3) := by decide +kernel
theorem dX6_keen_4 : decode cX6_keen 4 = .ok (.iconst (-1), 1) := by decide +kernel
theorem dX6_keen_5 : decode cX6_keen 5 = .ok (.ireturn, 1) := by decide +kernel
theorem dX6_keen_6 : decode cX6_keen 6 = .ok (.aload_n 0, 1) := by decide +kernel
theorem dX6_keen_7 : decode cX6_keen 7 = .ok (.invokevirtual 176, 3) := by decide +kernel
theorem dX6_keen_10 : decode cX6_keen 10 = .ok (.ifCond .ne 6, 3) := by decide +kernel
theorem dX6_keen_13 : decode cX6_keen 13 = .ok (.bipush (-3), 2) := by decide +kernel
theorem dX6_keen_15 : decode cX6_keen 15 = .ok (.ireturn, 1) := by decide +kernel
theorem dX6_keen_16 : decode cX6_keen 16 = .ok (.iload_n 1, 1) := by decide +kernel
theorem dX6_keen_17 : decode cX6_keen 17 = .ok (.aload_n 0, 1) := by decide +kernel
theorem dX6_keen_18 : decode cX6_keen 18 = .ok (.getfield 41, 3) := by decide +kernel
theorem dX6_keen_21 : decode cX6_keen 21 = .ok (.getfield 179, 3) := by decide +kernel
theorem dX6_keen_24 : decode cX6_keen 24 = .ok (.if_icmp .lt 5, 3) := by decide +kernel
theorem dX6_keen_27 : decode cX6_keen 27 = .ok (.iconst (-1), 1) := by decide +kernel
theorem dX6_keen_28 : decode cX6_keen 28 = .ok (.ireturn, 1) := by decide +kernel
theorem dX6_keen_29 : decode cX6_keen 29 = .ok (.aload_n 0, 1) := by decide +kernel
theorem dX6_keen_30 : decode cX6_keen 30 = .ok (.getfield 58, 3) := by decide +kernel
theorem dX6_keen_33 : decode cX6_keen 33 = .ok (.bipush 60, 2) := by decide +kernel
theorem dX6_keen_35 : decode cX6_keen 35 = .ok (.if_icmp .lt 6, 3) := by decide +kernel
theorem dX6_keen_38 : decode cX6_keen 38 = .ok (.bipush (-4), 2) := by decide +kernel
theorem dX6_keen_40 : decode cX6_keen 40 = .ok (.ireturn, 1) := by decide +kernel
theorem dX6_keen_41 : decode cX6_keen 41 = .ok (.aload_n 0, 1) := by decide +kernel
theorem dX6_keen_42 : decode cX6_keen 42 = .ok (.aload_n 0, 1) := by decide +kernel
theorem dX6_keen_43 : decode cX6_keen 43 = .ok (.getfield 41, 3) := by decide +kernel
theorem dX6_keen_46 : decode cX6_keen 46 = .ok (.iload_n 1, 1) := by decide +kernel
theorem dX6_keen_47 : decode cX6_keen 47 = .ok (.invokevirtual 188, 3) := by decide +kernel
theorem dX6_keen_50 : decode cX6_keen 50 = .ok (.invokevirtual 115, 3) := by decide +kernel
theorem dX6_keen_53 : decode cX6_keen 53 = .ok (.ireturn, 1) := by decide +kernel
theorem dX6_near_0 : decode cX6_near 0 = .ok (.aload_n 0, 1) := by decide +kernel
theorem dX6_near_1 : decode cX6_near 1 = .ok (.iload_n 1, 1) := by decide +kernel
theorem dX6_near_2 : decode cX6_near 2 = .ok (.invokevirtual 119, 3) := by decide +kernel
theorem dX6_near_5 : decode cX6_near 5 = .ok (.astore 4, 2) := by decide +kernel
theorem dX6_near_7 : decode cX6_near 7 = .ok (.aload 4, 2) := by decide +kernel
theorem dX6_near_9 : decode cX6_near 9 = .ok (.ifnull 10, 3) := by decide +kernel
theorem dX6_near_12 : decode cX6_near 12 = .ok (.iload_n 2, 1) := by decide +kernel
theorem dX6_near_13 : decode cX6_near 13 = .ok (.invokestatic 167, 3) := by decide +kernel
theorem dX6_near_16 : decode cX6_near 16 = .ok (.ifCond .ne 5, 3) := by decide +kernel
theorem dX6_near_19 : decode cX6_near 19 = .ok (.iconst (-1), 1) := by decide +kernel
theorem dX6_near_20 : decode cX6_near 20 = .ok (.ireturn, 1) := by decide +kernel
theorem dX6_near_21 : decode cX6_near 21 = .ok (.iload_n 3, 1) := by decide +kernel
theorem dX6_near_22 : decode cX6_near 22 = .ok (.invokestatic 191, 3) := by decide +kernel
theorem dX6_near_25 : decode cX6_near 25 = .ok (.ifCond .ne 6, 3) := by decide +kernel
theorem dX6_near_28 : decode cX6_near 28 = .ok (.bipush (-2), 2) := by decide +kernel
theorem dX6_near_30 : decode cX6_near 30 = .ok (.ireturn, 1) := by decide +kernel
theorem dX6_near_31 : decode cX6_near 31 = .ok (.aload 4, 2) := by decide +kernel
theorem dX6_near_33 : decode cX6_near 33 = .ok (.getfield 122, 3) := by decide +kernel
theorem dX6_near_36 : decode cX6_near 36 = .ok (.aload_n 0, 1) := by decide +kernel
theorem dX6_near_37 : decode cX6_near 37 = .ok (.getfield 14, 3) := by decide +kernel
theorem dX6_near_40 : decode cX6_near 40 = .ok (.invokevirtual 148, 3) := by decide +kernel
theorem dX6_near_43 : decode cX6_near 43 = .ok (.if_icmp .ne 10, 3) := by decide +kernel
theorem dX6_near_46 : decode cX6_near 46 = .ok (.aload_n 0, 1) := by decide +kernel
theorem dX6_near_47 : decode cX6_near 47 = .ok (.invokevirtual 176, 3) := by decide +kernel
theorem dX6_near_50 : decode cX6_near 50 = .ok (.ifCond .ne 6, 3) := by decide +kernel
theorem dX6_near_53 : decode cX6_near 53 = .ok (.bipush (-3), 2) := by decide +kernel
theorem dX6_near_55 : decode cX6_near 55 = .ok (.ireturn, 1) := by decide +kernel
theorem dX6_near_56 : decode cX6_near 56 = .ok (.aload_n 0, 1) := by decide +kernel
theorem dX6_near_57 : decode cX6_near 57 = .ok (.getfield 41, 3) := by decide +kernel
theorem dX6_near_60 : decode cX6_near 60 = .ok (.aload 4, 2) := by decide +kernel
theorem dX6_near_62 : decode cX6_near 62 = .ok (.iload_n 2, 1) := by decide +kernel
theorem dX6_near_63 : decode cX6_near 63 = .ok (.iload_n 3, 1) := by decide +kernel
theorem dX6_near_64 : decode cX6_near 64 = .ok (.invokevirtual 194, 3) := by decide +kernel
theorem dX6_near_67 : decode cX6_near 67 = .ok (.ifCond .eq 7, 3) := by decide +kernel
theorem dX6_near_70 : decode cX6_near 70 = .ok (.iconst 1, 1) := by decide +kernel
theorem dX6_near_71 : decode cX6_near 71 = .ok (.goto 4, 3) := by decide +kernel
theorem dX6_near_74 : decode cX6_near 74 = .ok (.iconst 0, 1) := by decide +kernel
theorem dX6_near_75 : decode cX6_near 75 = .ok (.ireturn, 1) := by decide +kernel
theorem dX6_worst_0 : decode cX6_worst 0 = .ok (.aload_n 0, 1) := by decide +kernel
theorem dX6_worst_1 : decode cX6_worst 1 = .ok (.iload_n 1, 1) := by decide +kernel
theorem dX6_worst_2 : decode cX6_worst 2 = .ok (.invokevirtual 119, 3) := by decide +kernel
theorem dX6_worst_5 : decode cX6_worst 5 = .ok (.astore_n 2, 1) := by decide +kernel
theorem dX6_worst_6 : decode cX6_worst 6 = .ok (.aload_n 2, 1) := by decide +kernel
theorem dX6_worst_7 : decode cX6_worst 7 = .ok (.ifnonnull 5, 3) := by decide +kernel
theorem dX6_worst_10 : decode cX6_worst 10 = .ok (.iconst (-1), 1) := by decide +kernel
theorem dX6_worst_11 : decode cX6_worst 11 = .ok (.ireturn, 1) := by decide +kernel
theorem dX6_worst_12 : decode cX6_worst 12 = .ok (.aload_n 2, 1) := by decide +kernel
theorem dX6_worst_13 : decode cX6_worst 13 = .ok (.getfield 122, 3) := by decide +kernel
theorem dX6_worst_16 : decode cX6_worst 16 = .ok (.aload_n 0, 1) := by decide +kernel
theorem dX6_worst_17 : decode cX6_worst 17 = .ok (.getfield 14, 3) := by decide +kernel
theorem dX6_worst_20 : decode cX6_worst 20 = .ok (.invokevirtual 148, 3) := by decide +kernel
theorem dX6_worst_23 : decode cX6_worst 23 = .ok (.if_icmp .ne 10, 3) := by decide +kernel
theorem dX6_worst_26 : decode cX6_worst 26 = .ok (.aload_n 0, 1) := by decide +kernel
theorem dX6_worst_27 : decode cX6_worst 27 = .ok (.invokevirtual 176, 3) := by decide +kernel
theorem dX6_worst_30 : decode cX6_worst 30 = .ok (.ifCond .ne 6, 3) := by decide +kernel
theorem dX6_worst_33 : decode cX6_worst 33 = .ok (.bipush (-3), 2) := by decide +kernel
theorem dX6_worst_35 : decode cX6_worst 35 = .ok (.ireturn, 1) := by decide +kernel
theorem dX6_worst_36 : decode cX6_worst 36 = .ok (.aload_n 0, 1) := by decide +kernel
theorem dX6_worst_37 : decode cX6_worst 37 = .ok (.getfield 41, 3) := by decide +kernel
theorem dX6_worst_40 : decode cX6_worst 40 = .ok (.aload_n 2, 1) := by decide +kernel
theorem dX6_worst_41 : decode cX6_worst 41 = .ok (.invokevirtual 198, 3) := by decide +kernel
theorem dX6_worst_44 : decode cX6_worst 44 = .ok (.ireturn, 1) := by decide +kernel
theorem dX6_blind_0 : decode cX6_blind 0 = .ok (.aload_n 0, 1) := by decide +kernel
theorem dX6_blind_1 : decode cX6_blind 1 = .ok (.invokevirtual 176, 3) := by decide +kernel
theorem dX6_blind_4 : decode cX6_blind 4 = .ok (.ifCond .eq 13, 3) := by decide +kernel
theorem dX6_blind_7 : decode cX6_blind 7 = .ok (.aload_n 0, 1) := by decide +kernel
theorem dX6_blind_8 : decode cX6_blind 8 = .ok (.getfield 41, 3) := by decide +kernel
theorem dX6_blind_11 : decode cX6_blind 11 = .ok (.invokevirtual 201, 3) := by decide +kernel
theorem dX6_blind_14 : decode cX6_blind 14 = .ok (.goto 5, 3) := by decide +kernel
theorem dX6_blind_17 : decode cX6_blind 17 = .ok (.bipush (-3), 2) := by decide +kernel
theorem dX6_blind_19 : decode cX6_blind 19 = .ok (.ireturn, 1) := by decide +kernel
theorem dX6_cover_0 : decode cX6_cover 0 = .ok (.iload_n 1, 1) := by decide +kernel
theorem dX6_cover_1 : decode cX6_cover 1 = .ok (.invokestatic 191, 3) := by decide +kernel
theorem dX6_cover_4 : decode cX6_cover 4 = .ok (.ifCond .ne 6, 3) := by decide +kernel
theorem dX6_cover_7 : decode cX6_cover 7 = .ok (.bipush (-2), 2) := by decide +kernel
theorem dX6_cover_9 : decode cX6_cover 9 = .ok (.ireturn, 1) := by decide +kernel
theorem dX6_cover_10 : decode cX6_cover 10 = .ok (.aload_n 0, 1) := by decide +kernel
theorem dX6_cover_11 : decode cX6_cover 11 = .ok (.invokevirtual 176, 3) := by decide +kernel
theorem dX6_cover_14 : decode cX6_cover 14 = .ok (.ifCond .eq 15, 3) := by decide +kernel
theorem dX6_cover_17 : decode cX6_cover 17 = .ok (.aload_n 0, 1) := by decide +kernel
theorem dX6_cover_18 : decode cX6_cover 18 = .ok (.getfield 41, 3) := by decide +kernel
theorem dX6_cover_21 : decode cX6_cover 21 = .ok (.getfield 179, 3) := by decide +kernel
theorem dX6_cover_24 : decode cX6_cover 24 = .ok (.bipush 16, 2) := by decide +kernel
theorem dX6_cover_26 : decode cX6_cover 26 = .ok (.if_icmp .le 6, 3) := by decide +kernel
theorem dX6_cover_29 : decode cX6_cover 29 = .ok (.bipush (-3), 2) := by decide +kernel
theorem dX6_cover_31 : decode cX6_cover 31 = .ok (.ireturn, 1) := by decide +kernel
theorem dX6_cover_32 : decode cX6_cover 32 = .ok (.aload_n 0, 1) := by decide +kernel
theorem dX6_cover_33 : decode cX6_cover 33 = .ok (.getfield 41, 3) := by decide +kernel
theorem dX6_cover_36 : decode cX6_cover 36 = .ok (.iload_n 1, 1) := by decide +kernel
theorem dX6_cover_37 : decode cX6_cover 37 = .ok (.invokevirtual 204, 3) := by decide +kernel
theorem dX6_cover_40 : decode cX6_cover 40 = .ok (.ireturn, 1) := by decide +kernel
theorem dX6_run_0 : decode cX6_run 0 = .ok (.aload_n 0, 1) := by decide +kernel
theorem dX6_run_1 : decode cX6_run 1 = .ok (.iload_n 1, 1) := by decide +kernel
theorem dX6_run_2 : decode cX6_run 2 = .ok (.invokevirtual 119, 3) := by decide +kernel
theorem dX6_run_5 : decode cX6_run 5 = .ok (.astore_n 2, 1) := by decide +kernel
theorem dX6_run_6 : decode cX6_run 6 = .ok (.aload_n 2, 1) := by decide +kernel
theorem dX6_run_7 : decode cX6_run 7 = .ok (.ifnonnull 7, 3) := by decide +kernel
theorem dX6_run_10 : decode cX6_run 10 = .ok (.iconst (-1), 1) := by decide +kernel
theorem dX6_run_11 : decode cX6_run 11 = .ok (.goto 11, 3) := by decide +kernel
theorem dX6_run_14 : decode cX6_run 14 = .ok (.aload_n 0, 1) := by decide +kernel
theorem dX6_run_15 : decode cX6_run 15 = .ok (.getfield 48, 3) := by decide +kernel
theorem dX6_run_18 : decode cX6_run 18 = .ok (.aload_n 2, 1) := by decide +kernel
theorem dX6_run_19 : decode cX6_run 19 = .ok (.invokevirtual 207, 3) := by decide +kernel
theorem dX6_run_22 : decode cX6_run 22 = .ok (.ireturn, 1) := by decide +kernel
theorem dX6_steps_0 : decode cX6_steps 0 = .ok (.aload_n 0, 1) := by decide +kernel
theorem dX6_steps_1 : decode cX6_steps 1 = .ok (.getfield 48, 3) := by decide +kernel
theorem dX6_steps_4 : decode cX6_steps 4 = .ok (.getfield 210, 3) := by decide +kernel
theorem dX6_steps_7 : decode cX6_steps 7 = .ok (.ireturn, 1) := by decide +kernel
theorem dX6_out_0 : decode cX6_out 0 = .ok (.aload_n 0, 1) := by decide +kernel
theorem dX6_out_1 : decode cX6_out 1 = .ok (.getfield 48, 3) := by decide +kernel
theorem dX6_out_4 : decode cX6_out 4 = .ok (.iload_n 1, 1) := by decide +kernel
theorem dX6_out_5 : decode cX6_out 5 = .ok (.iload_n 2, 1) := by decide +kernel
theorem dX6_out_6 : decode cX6_out 6 = .ok (.invokevirtual 213, 3) := by decide +kernel
theorem dX6_out_9 : decode cX6_out 9 = .ok (.ireturn, 1) := by decide +kernel
theorem dX6_holds_0 : decode cX6_holds 0 = .ok (.aload_n 0, 1) := by decide +kernel
theorem dX6_holds_1 : decode cX6_holds 1 = .ok (.getfield 14, 3) := by decide +kernel
theorem dX6_holds_4 : decode cX6_holds 4 = .ok (.iload_n 1, 1) := by decide +kernel
theorem dX6_holds_5 : decode cX6_holds 5 = .ok (.invokevirtual 216, 3) := by decide +kernel
theorem dX6_holds_8 : decode cX6_holds 8 = .ok (.ifCond .eq 14, 3) := by decide +kernel
theorem dX6_holds_11 : decode cX6_holds 11 = .ok (.aload_n 0, 1) := by decide +kernel
theorem dX6_holds_12 : decode cX6_holds 12 = .ok (.getfield 14, 3) := by decide +kernel
theorem dX6_holds_15 : decode cX6_holds 15 = .ok (.iload_n 1, 1) := by decide +kernel
theorem dX6_holds_16 : decode cX6_holds 16 = .ok (.invokevirtual 219, 3) := by decide +kernel
theorem dX6_holds_19 : decode cX6_holds 19 = .ok (.goto 4, 3) := by decide +kernel
theorem dX6_holds_22 : decode cX6_holds 22 = .ok (.iconst (-1), 1) := by decide +kernel
theorem dX6_holds_23 : decode cX6_holds 23 = .ok (.ireturn, 1) := by decide +kernel
theorem dX6_count_0 : decode cX6_count 0 = .ok (.iload_n 1, 1) := by decide +kernel
theorem dX6_count_1 : decode cX6_count 1 = .ok (.tableswitch 118 0 6 #[43, 51, 59, 67, 72, 80, 96], 43) := by decide +kernel
theorem dX6_count_44 : decode cX6_count 44 = .ok (.aload_n 0, 1) := by decide +kernel
theorem dX6_count_45 : decode cX6_count 45 = .ok (.getfield 14, 3) := by decide +kernel
theorem dX6_count_48 : decode cX6_count 48 = .ok (.getfield 62, 3) := by decide +kernel
theorem dX6_count_51 : decode cX6_count 51 = .ok (.ireturn, 1) := by decide +kernel
theorem dX6_count_52 : decode cX6_count 52 = .ok (.aload_n 0, 1) := by decide +kernel
theorem dX6_count_53 : decode cX6_count 53 = .ok (.getfield 14, 3) := by decide +kernel
theorem dX6_count_56 : decode cX6_count 56 = .ok (.invokevirtual 222, 3) := by decide +kernel
theorem dX6_count_59 : decode cX6_count 59 = .ok (.ireturn, 1) := by decide +kernel
theorem dX6_count_60 : decode cX6_count 60 = .ok (.aload_n 0, 1) := by decide +kernel
theorem dX6_count_61 : decode cX6_count 61 = .ok (.getfield 14, 3) := by decide +kernel
theorem dX6_count_64 : decode cX6_count 64 = .ok (.getfield 91, 3) := by decide +kernel
theorem dX6_count_67 : decode cX6_count 67 = .ok (.ireturn, 1) := by decide +kernel
theorem dX6_count_68 : decode cX6_count 68 = .ok (.aload_n 0, 1) := by decide +kernel
theorem dX6_count_69 : decode cX6_count 69 = .ok (.getfield 58, 3) := by decide +kernel
theorem dX6_count_72 : decode cX6_count 72 = .ok (.ireturn, 1) := by decide +kernel
theorem dX6_count_73 : decode cX6_count 73 = .ok (.aload_n 0, 1) := by decide +kernel
theorem dX6_count_74 : decode cX6_count 74 = .ok (.getfield 14, 3) := by decide +kernel
theorem dX6_count_77 : decode cX6_count 77 = .ok (.getfield 88, 3) := by decide +kernel
theorem dX6_count_80 : decode cX6_count 80 = .ok (.ireturn, 1) := by decide +kernel
theorem dX6_count_81 : decode cX6_count 81 = .ok (.aload_n 0, 1) := by decide +kernel
theorem dX6_count_82 : decode cX6_count 82 = .ok (.getfield 14, 3) := by decide +kernel
theorem dX6_count_85 : decode cX6_count 85 = .ok (.invokevirtual 104, 3) := by decide +kernel
theorem dX6_count_88 : decode cX6_count 88 = .ok (.ifCond .eq 7, 3) := by decide +kernel
theorem dX6_count_91 : decode cX6_count 91 = .ok (.iconst 1, 1) := by decide +kernel
theorem dX6_count_92 : decode cX6_count 92 = .ok (.goto 4, 3) := by decide +kernel
theorem dX6_count_95 : decode cX6_count 95 = .ok (.iconst 0, 1) := by decide +kernel
theorem dX6_count_96 : decode cX6_count 96 = .ok (.ireturn, 1) := by decide +kernel
theorem dX6_count_97 : decode cX6_count 97 = .ok (.aload_n 0, 1) := by decide +kernel
theorem dX6_count_98 : decode cX6_count 98 = .ok (.getfield 14, 3) := by decide +kernel
theorem dX6_count_101 : decode cX6_count 101 = .ok (.invokevirtual 104, 3) := by decide +kernel
theorem dX6_count_104 : decode cX6_count 104 = .ok (.ifCond .eq 13, 3) := by decide +kernel
theorem dX6_count_107 : decode cX6_count 107 = .ok (.aload_n 0, 1) := by decide +kernel
theorem dX6_count_108 : decode cX6_count 108 = .ok (.getfield 32, 3) := by decide +kernel
theorem dX6_count_111 : decode cX6_count 111 = .ok (.invokevirtual 225, 3) := by decide +kernel
theorem dX6_count_114 : decode cX6_count 114 = .ok (.goto 4, 3) := by decide +kernel
theorem dX6_count_117 : decode cX6_count 117 = .ok (.iconst 0, 1) := by decide +kernel
theorem dX6_count_118 : decode cX6_count 118 = .ok (.ireturn, 1) := by decide +kernel
theorem dX6_count_119 : decode cX6_count 119 = .ok (.iconst (-1), 1) := by decide +kernel
theorem dX6_count_120 : decode cX6_count 120 = .ok (.ireturn, 1) := by decide +kernel
theorem dX6_areHundredths_0 : decode cX6_areHundredths 0 = .ok (.iload_n 0, 1) := by decide +kernel
theorem dX6_areHundredths_1 : decode cX6_areHundredths 1 = .ok (.ifCond .lt 14, 3) := by decide +kernel
theorem dX6_areHundredths_4 : decode cX6_areHundredths 4 = .ok (.iload_n 0, 1) := by decide +kernel
theorem dX6_areHundredths_5 : decode cX6_areHundredths 5 = .ok (.sipush 10000, 3) := by decide +kernel
theorem dX6_areHundredths_8 : decode cX6_areHundredths 8 = .ok (.if_icmp .gt 7, 3) := by decide +kernel
theorem dX6_areHundredths_11 : decode cX6_areHundredths 11 = .ok (.iconst 1, 1) := by decide +kernel
theorem dX6_areHundredths_12 : decode cX6_areHundredths 12 = .ok (.goto 4, 3) := by decide +kernel
theorem dX6_areHundredths_15 : decode cX6_areHundredths 15 = .ok (.iconst 0, 1) := by decide +kernel
theorem dX6_areHundredths_16 : decode cX6_areHundredths 16 = .ok (.ireturn, 1) := by decide +kernel
theorem dX6_planAt_0 : decode cX6_planAt 0 = .ok (.iload_n 1, 1) := by decide +kernel
theorem dX6_planAt_1 : decode cX6_planAt 1 = .ok (.ifCond .lt 17, 3) := by decide +kernel
theorem dX6_planAt_4 : decode cX6_planAt 4 = .ok (.iload_n 1, 1) := by decide +kernel
theorem dX6_planAt_5 : decode cX6_planAt 5 = .ok (.aload_n 0, 1) := by decide +kernel
theorem dX6_planAt_6 : decode cX6_planAt 6 = .ok (.getfield 58, 3) := by decide +kernel
theorem dX6_planAt_9 : decode cX6_planAt 9 = .ok (.if_icmp .ge 9, 3) := by decide +kernel
theorem dX6_planAt_12 : decode cX6_planAt 12 = .ok (.iload_n 1, 1) := by decide +kernel
theorem dX6_planAt_13 : decode cX6_planAt 13 = .ok (.bipush 60, 2) := by decide +kernel
theorem dX6_planAt_15 : decode cX6_planAt 15 = .ok (.if_icmp .lt 7, 3) := by decide +kernel
theorem dX6_planAt_18 : decode cX6_planAt 18 = .ok (.aconst_null, 1) := by decide +kernel
theorem dX6_planAt_19 : decode cX6_planAt 19 = .ok (.goto 9, 3) := by decide +kernel
theorem dX6_planAt_22 : decode cX6_planAt 22 = .ok (.aload_n 0, 1) := by decide +kernel
theorem dX6_planAt_23 : decode cX6_planAt 23 = .ok (.getfield 54, 3) := by decide +kernel
theorem dX6_planAt_26 : decode cX6_planAt 26 = .ok (.iload_n 1, 1) := by decide +kernel
theorem dX6_planAt_27 : decode cX6_planAt 27 = .ok (.aaload, 1) := by decide +kernel
theorem dX6_planAt_28 : decode cX6_planAt 28 = .ok (.areturn, 1) := by decide +kernel
theorem dX6_keep_0 : decode cX6_keep 0 = .ok (.aload_n 1, 1) := by decide +kernel
theorem dX6_keep_1 : decode cX6_keep 1 = .ok (.ifnull 12, 3) := by decide +kernel
theorem dX6_keep_4 : decode cX6_keep 4 = .ok (.aload_n 0, 1) := by decide +kernel
theorem dX6_keep_5 : decode cX6_keep 5 = .ok (.getfield 58, 3) := by decide +kernel
theorem dX6_keep_8 : decode cX6_keep 8 = .ok (.bipush 60, 2) := by decide +kernel
theorem dX6_keep_10 : decode cX6_keep 10 = .ok (.if_icmp .lt 6, 3) := by decide +kernel
theorem dX6_keep_13 : decode cX6_keep 13 = .ok (.bipush (-4), 2) := by decide +kernel
theorem dX6_keep_15 : decode cX6_keep 15 = .ok (.ireturn, 1) := by decide +kernel
theorem dX6_keep_16 : decode cX6_keep 16 = .ok (.aload_n 0, 1) := by decide +kernel
theorem dX6_keep_17 : decode cX6_keep 17 = .ok (.getfield 54, 3) := by decide +kernel
theorem dX6_keep_20 : decode cX6_keep 20 = .ok (.aload_n 0, 1) := by decide +kernel
theorem dX6_keep_21 : decode cX6_keep 21 = .ok (.getfield 58, 3) := by decide +kernel
theorem dX6_keep_24 : decode cX6_keep 24 = .ok (.aload_n 1, 1) := by decide +kernel
theorem dX6_keep_25 : decode cX6_keep 25 = .ok (.aastore, 1) := by decide +kernel
theorem dX6_keep_26 : decode cX6_keep 26 = .ok (.aload_n 0, 1) := by decide +kernel
theorem dX6_keep_27 : decode cX6_keep 27 = .ok (.dup, 1) := by decide +kernel
theorem dX6_keep_28 : decode cX6_keep 28 = .ok (.getfield 58, 3) := by decide +kernel
theorem dX6_keep_31 : decode cX6_keep 31 = .ok (.iconst 1, 1) := by decide +kernel
theorem dX6_keep_32 : decode cX6_keep 32 = .ok (.iadd, 1) := by decide +kernel
theorem dX6_keep_33 : decode cX6_keep 33 = .ok (.putfield 58, 3) := by decide +kernel
theorem dX6_keep_36 : decode cX6_keep 36 = .ok (.aload_n 0, 1) := by decide +kernel
theorem dX6_keep_37 : decode cX6_keep 37 = .ok (.getfield 58, 3) := by decide +kernel
theorem dX6_keep_40 : decode cX6_keep 40 = .ok (.iconst 1, 1) := by decide +kernel
theorem dX6_keep_41 : decode cX6_keep 41 = .ok (.isub, 1) := by decide +kernel
theorem dX6_keep_42 : decode cX6_keep 42 = .ok (.ireturn, 1) := by decide +kernel
theorem dX6_forgetPrices_0 : decode cX6_forgetPrices 0 = .ok (.aload_n 0, 1) := by decide +kernel
theorem dX6_forgetPrices_1 : decode cX6_forgetPrices 1 = .ok (.iconst 0, 1) := by decide +kernel
theorem dX6_forgetPrices_2 : decode cX6_forgetPrices 2 = .ok (.putfield 228, 3) := by decide +kernel
theorem dX6_forgetPrices_5 : decode cX6_forgetPrices 5 = .ok (.aload_n 0, 1) := by decide +kernel
theorem dX6_forgetPrices_6 : decode cX6_forgetPrices 6 = .ok (.iconst 0, 1) := by decide +kernel
theorem dX6_forgetPrices_7 : decode cX6_forgetPrices 7 = .ok (.putfield 231, 3) := by decide +kernel
theorem dX6_forgetPrices_10 : decode cX6_forgetPrices 10 = .ok (.return_, 1) := by decide +kernel
theorem dX6_measure_0 : decode cX6_measure 0 = .ok (.aload_n 0, 1) := by decide +kernel
theorem dX6_measure_1 : decode cX6_measure 1 = .ok (.getfield 228, 3) := by decide +kernel
theorem dX6_measure_4 : decode cX6_measure 4 = .ok (.ifCond .ne 15, 3) := by decide +kernel
theorem dX6_measure_7 : decode cX6_measure 7 = .ok (.aload_n 0, 1) := by decide +kernel
theorem dX6_measure_8 : decode cX6_measure 8 = .ok (.getfield 23, 3) := by decide +kernel
theorem dX6_measure_11 : decode cX6_measure 11 = .ok (.invokevirtual 234, 3) := by decide +kernel
theorem dX6_measure_14 : decode cX6_measure 14 = .ok (.aload_n 0, 1) := by decide +kernel
theorem dX6_measure_15 : decode cX6_measure 15 = .ok (.iconst 1, 1) := by decide +kernel
theorem dX6_measure_16 : decode cX6_measure 16 = .ok (.putfield 228, 3) := by decide +kernel
theorem dX6_measure_19 : decode cX6_measure 19 = .ok (.return_, 1) := by decide +kernel
theorem dX6_tellSpans_0 : decode cX6_tellSpans 0 = .ok (.aload_n 0, 1) := by decide +kernel
theorem dX6_tellSpans_1 : decode cX6_tellSpans 1 = .ok (.getfield 14, 3) := by decide +kernel
theorem dX6_tellSpans_4 : decode cX6_tellSpans 4 = .ok (.invokevirtual 104, 3) := by decide +kernel
theorem dX6_tellSpans_7 : decode cX6_tellSpans 7 = .ok (.ifCond .ne 5, 3) := by decide +kernel
theorem dX6_tellSpans_10 : decode cX6_tellSpans 10 = .ok (.iconst 0, 1) := by decide +kernel
theorem dX6_tellSpans_11 : decode cX6_tellSpans 11 = .ok (.ireturn, 1) := by decide +kernel
theorem dX6_tellSpans_12 : decode cX6_tellSpans 12 = .ok (.aload_n 0, 1) := by decide +kernel
theorem dX6_tellSpans_13 : decode cX6_tellSpans 13 = .ok (.getfield 231, 3) := by decide +kernel
theorem dX6_tellSpans_16 : decode cX6_tellSpans 16 = .ok (.ifCond .ne 19, 3) := by decide +kernel
theorem dX6_tellSpans_19 : decode cX6_tellSpans 19 = .ok (.aload_n 0, 1) := by decide +kernel
theorem dX6_tellSpans_20 : decode cX6_tellSpans 20 = .ok (.invokevirtual 108, 3) := by decide +kernel
theorem dX6_tellSpans_23 : decode cX6_tellSpans 23 = .ok (.aload_n 0, 1) := by decide +kernel
theorem dX6_tellSpans_24 : decode cX6_tellSpans 24 = .ok (.getfield 41, 3) := by decide +kernel
theorem dX6_tellSpans_27 : decode cX6_tellSpans 27 = .ok (.invokevirtual 235, 3) := by decide +kernel
theorem dX6_tellSpans_30 : decode cX6_tellSpans 30 = .ok (.aload_n 0, 1) := by decide +kernel
theorem dX6_tellSpans_31 : decode cX6_tellSpans 31 = .ok (.iconst 1, 1) := by decide +kernel
theorem dX6_tellSpans_32 : decode cX6_tellSpans 32 = .ok (.putfield 231, 3) := by decide +kernel
theorem dX6_tellSpans_35 : decode cX6_tellSpans 35 = .ok (.iconst 1, 1) := by decide +kernel
theorem dX6_tellSpans_36 : decode cX6_tellSpans 36 = .ok (.ireturn, 1) := by decide +kernel
