set_option maxRecDepth 20000 in
theorem gX4_findRanks_X3_field : GoodIn wsX4_findRanks (wsV RX4 158 RX3 yX3_field wsX3_field) := goodIn_app (goodIn_of _ (by decide +kernel)) ggX4_findRanks_X3_field
theorem dX4_findRanks_0 : decode cX4_findRanks 0 = .ok (.iconst 0, 1) := by decide +kernel
theorem dX4_findRanks_1 : decode cX4_findRanks 1 = .ok (.istore_n 3, 1) := by decide +kernel
theorem dX4_findRanks_2 : decode cX4_findRanks 2 = .ok (.iload_n 3, 1) := by decide +kernel
theorem dX4_findRanks_3 : decode cX4_findRanks 3 = .ok (.bipush 8, 2) := by decide +kernel
theorem dX4_findRanks_5 : decode cX4_findRanks 5 = .ok (.if_icmp .ge 74, 3) := by decide +kernel
theorem dX4_findRanks_8 : decode cX4_findRanks 8 = .ok (.iconst 0, 1) := by decide +kernel
theorem dX4_findRanks_9 : decode cX4_findRanks 9 = .ok (.istore 4, 2) := by decide +kernel
theorem dX4_findRanks_11 : decode cX4_findRanks 11 = .ok (.iconst 0, 1) := by decide +kernel
theorem dX4_findRanks_12 : decode cX4_findRanks 12 = .ok (.istore 5, 2) := by decide +kernel
theorem dX4_findRanks_14 : decode cX4_findRanks 14 = .ok (.iload 5, 2) := by decide +kernel
theorem dX4_findRanks_16 : decode cX4_findRanks 16 = .ok (.aload_n 0, 1) := by decide +kernel
theorem dX4_findRanks_17 : decode cX4_findRanks 17 = .ok (.getfield 33, 3) := by decide +kernel
theorem dX4_findRanks_20 : decode cX4_findRanks 20 = .ok (.iload_n 1, 1) := by decide +kernel
theorem dX4_findRanks_21 : decode cX4_findRanks 21 = .ok (.invokevirtual 100, 3) := by decide +kernel
theorem dX4_findRanks_24 : decode cX4_findRanks 24 = .ok (.if_icmp .ge 36, 3) := by decide +kernel
theorem dX4_findRanks_27 : decode cX4_findRanks 27 = .ok (.aload_n 0, 1) := by decide +kernel
theorem dX4_findRanks_28 : decode cX4_findRanks 28 = .ok (.getfield 33, 3) := by decide +kernel
theorem dX4_findRanks_31 : decode cX4_findRanks 31 = .ok (.iload_n 1, 1) := by decide +kernel
theorem dX4_findRanks_32 : decode cX4_findRanks 32 = .ok (.iload 5, 2) := by decide +kernel
theorem dX4_findRanks_34 : decode cX4_findRanks 34 = .ok (.iload_n 2, 1) := by decide +kernel
theorem dX4_findRanks_35 : decode cX4_findRanks 35 = .ok (.invokevirtual 158, 3) := by decide +kernel
theorem dX4_findRanks_38 : decode cX4_findRanks 38 = .ok (.aload_n 0, 1) := by decide +kernel
theorem dX4_findRanks_39 : decode cX4_findRanks 39 = .ok (.getfield 33, 3) := by decide +kernel
theorem dX4_findRanks_42 : decode cX4_findRanks 42 = .ok (.iload_n 1, 1) := by decide +kernel
theorem dX4_findRanks_43 : decode cX4_findRanks 43 = .ok (.iload_n 3, 1) := by decide +kernel
theorem dX4_findRanks_44 : decode cX4_findRanks 44 = .ok (.iload_n 2, 1) := by decide +kernel
theorem dX4_findRanks_45 : decode cX4_findRanks 45 = .ok (.invokevirtual 158, 3) := by decide +kernel
theorem dX4_findRanks_48 : decode cX4_findRanks 48 = .ok (.if_icmp .ge 6, 3) := by decide +kernel
theorem dX4_findRanks_51 : decode cX4_findRanks 51 = .ok (.iinc 4 1, 3) := by decide +kernel
theorem dX4_findRanks_54 : decode cX4_findRanks 54 = .ok (.iinc 5 1, 3) := by decide +kernel
theorem dX4_findRanks_57 : decode cX4_findRanks 57 = .ok (.goto (-43), 3) := by decide +kernel
theorem dX4_findRanks_60 : decode cX4_findRanks 60 = .ok (.aload_n 0, 1) := by decide +kernel
theorem dX4_findRanks_61 : decode cX4_findRanks 61 = .ok (.getfield 24, 3) := by decide +kernel
theorem dX4_findRanks_64 : decode cX4_findRanks 64 = .ok (.iload_n 3, 1) := by decide +kernel
theorem dX4_findRanks_65 : decode cX4_findRanks 65 = .ok (.iload 4, 2) := by decide +kernel
theorem dX4_findRanks_67 : decode cX4_findRanks 67 = .ok (.bipush 7, 2) := by decide +kernel
theorem dX4_findRanks_69 : decode cX4_findRanks 69 = .ok (.invokestatic 108, 3) := by decide +kernel
theorem dX4_findRanks_72 : decode cX4_findRanks 72 = .ok (.iastore, 1) := by decide +kernel
theorem dX4_findRanks_73 : decode cX4_findRanks 73 = .ok (.iinc 3 1, 3) := by decide +kernel
theorem dX4_findRanks_76 : decode cX4_findRanks 76 = .ok (.goto (-74), 3) := by decide +kernel
theorem dX4_findRanks_79 : decode cX4_findRanks 79 = .ok (.return_, 1) := by decide +kernel
