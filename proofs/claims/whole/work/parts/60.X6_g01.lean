set_option maxRecDepth 20000 in
theorem ggX6_pair_X6_forgetPrices : GoodIn wsX6_pair wsX6_forgetPrices := goodIn_r _ [19, 20, 21, 34, 35, 36, 37, 38, 39, 40, 41, 42] (by decide +kernel) (by decide +kernel)
set_option maxRecDepth 20000 in
theorem gX6_pair_X6_forgetPrices : GoodIn wsX6_pair (wsV RX6 65 RX6 yX6_forgetPrices wsX6_forgetPrices) := goodIn_app (goodIn_of _ (by decide +kernel)) ggX6_pair_X6_forgetPrices
set_option maxRecDepth 20000 in
theorem ggX6_pair_X3_addPairing : GoodIn wsX6_pair wsX3_addPairing := goodIn_r _ [25, 26, 27, 28, 29, 30, 31, 32, 33, 43, 44, 45, 46, 47, 48, 49, 50, 51, 52, 53, 54, 55] (by decide +kernel) (by decide +kernel)
set_option maxRecDepth 20000 in
theorem gX6_pair_X3_addPairing : GoodIn wsX6_pair (wsV RX6 94 RX3 yX3_addPairing wsX3_addPairing) := goodIn_app (goodIn_of _ (by decide +kernel)) ggX6_pair_X3_addPairing
set_option maxRecDepth 20000 in
theorem ggX6_order_X3_isField : GoodIn wsX6_order wsX3_isField := goodIn_r _ [9, 10, 11, 12, 8, 13, 14, 31, 32, 33, 34, 35, 36, 37, 38, 39, 40, 41, 42, 43] (by decide +kernel) (by decide +kernel)
set_option maxRecDepth 20000 in
theorem gX6_order_X3_isField : GoodIn wsX6_order (wsV RX6 84 RX3 yX3_isField wsX3_isField) := goodIn_app (goodIn_of _ (by decide +kernel)) ggX6_order_X3_isField
set_option maxRecDepth 20000 in
theorem ggX6_order_X6_forgetPrices : GoodIn wsX6_order wsX6_forgetPrices := goodIn_r _ [19, 20, 21, 22, 23, 24, 25, 26, 27, 28, 29, 30] (by decide +kernel) (by decide +kernel)
set_option maxRecDepth 20000 in
theorem gX6_order_X6_forgetPrices : GoodIn wsX6_order (wsV RX6 65 RX6 yX6_forgetPrices wsX6_forgetPrices) := goodIn_app (goodIn_of _ (by decide +kernel)) ggX6_order_X6_forgetPrices
set_option maxRecDepth 20000 in
theorem ggX6_read_X3_isTable : GoodIn wsX6_read wsX3_isTable := goodIn_r _ [8, 9, 111, 112, 113, 114, 115, 116, 117, 118, 119, 120, 121, 122, 123] (by decide +kernel) (by decide +kernel)
set_option maxRecDepth 20000 in
theorem gX6_read_X3_isTable : GoodIn wsX6_read (wsV RX6 72 RX3 yX3_isTable wsX3_isTable) := goodIn_app (goodIn_of _ (by decide +kernel)) ggX6_read_X3_isTable
set_option maxRecDepth 20000 in
theorem ggX6_read_X3_isWhole : GoodIn wsX6_read wsX3_isWhole := goodIn_r _ [13, 9, 14, 15, 16, 7, 17, 18, 19, 5, 6, 8, 20, 21, 22, 23, 24, 25, 26, 27, 28, 111, 112, 113, 114, 115, 116, 117, 118, 119, 120, 121, 122, 123] (by decide +kernel) (by decide +kernel)
set_option maxRecDepth 20000 in
theorem gX6_read_X3_isWhole : GoodIn wsX6_read (wsV RX6 104 RX3 yX3_isWhole wsX3_isWhole) := goodIn_app (goodIn_of _ (by decide +kernel)) ggX6_read_X3_isWhole
set_option maxRecDepth 20000 in
theorem ggX6_read_X6_measure : GoodIn wsX6_read wsX6_measure := goodIn_r _ [33, 34, 3, 35, 36, 37, 38, 39, 40, 41, 42, 43, 44, 45, 46, 47, 48, 49, 50, 51, 15, 16, 7, 17, 18, 19, 5, 6, 8, 9, 52, 53, 54, 55, 24, 56, 57, 58, 59, 60, 61, 62, 63, 64, 65, 102, 103, 104, 105, 106, 107, 108, 109, 110, 124, 125, 126, 111, 112, 113, 114, 115, 116, 117, 118, 119, 120, 121, 122, 123] (by decide +kernel) (by decide +kernel)
set_option maxRecDepth 20000 in
theorem gX6_read_X6_measure : GoodIn wsX6_read (wsV RX6 108 RX6 yX6_measure wsX6_measure) := goodIn_app (goodIn_of _ (by decide +kernel)) ggX6_read_X6_measure
set_option maxRecDepth 20000 in
theorem ggX6_read_X2_reading : GoodIn wsX6_read wsX2_reading := goodIn_r _ [69, 70, 71, 72, 73, 74, 75, 38, 76, 40, 77, 78, 79, 80, 42, 81, 82, 83, 7, 84, 9, 85, 86, 87, 88, 89, 90, 91, 92, 93, 94, 95, 96, 127, 128, 129, 130, 131, 124, 125, 126, 111, 112, 113, 114, 115, 116, 117, 118, 119, 120, 121, 122, 123] (by decide +kernel) (by decide +kernel)
set_option maxRecDepth 20000 in
theorem gX6_read_X2_reading : GoodIn wsX6_read (wsV RX6 111 RX2 yX2_reading wsX2_reading) := goodIn_app (goodIn_of _ (by decide +kernel)) ggX6_read_X2_reading
set_option maxRecDepth 20000 in
theorem ggX6_read_X6_keep : GoodIn wsX6_read wsX6_keep := goodIn_r _ [100, 2, 101, 102, 103, 104, 105, 106, 107, 108, 109, 110] (by decide +kernel) (by decide +kernel)
set_option maxRecDepth 20000 in
theorem gX6_read_X6_keep : GoodIn wsX6_read (wsV RX6 115 RX6 yX6_keep wsX6_keep) := goodIn_app (goodIn_of _ (by decide +kernel)) ggX6_read_X6_keep
set_option maxRecDepth 20000 in
theorem ggX6_join_X6_planAt : GoodIn wsX6_join wsX6_planAt := goodIn_r _ [9, 3, 10, 97, 98, 99, 100, 101, 102, 103, 104, 105] (by decide +kernel) (by decide +kernel)
set_option maxRecDepth 20000 in
theorem gX6_join_X6_planAt : GoodIn wsX6_join (wsV RX6 119 RX6 yX6_planAt wsX6_planAt) := goodIn_app (goodIn_of _ (by decide +kernel)) ggX6_join_X6_planAt
set_option maxRecDepth 20000 in
theorem ggX6_join_X3_leastBetween : GoodIn wsX6_join wsX3_leastBetween := goodIn_r _ [15, 16, 106, 107, 108, 109, 110, 111, 112, 113, 114, 115, 116, 117, 118] (by decide +kernel) (by decide +kernel)
set_option maxRecDepth 20000 in
theorem gX6_join_X3_leastBetween : GoodIn wsX6_join (wsV RX6 125 RX3 yX3_leastBetween wsX3_leastBetween) := goodIn_app (goodIn_of _ (by decide +kernel)) ggX6_join_X3_leastBetween
set_option maxRecDepth 20000 in
theorem ggX6_join_X2_joining : GoodIn wsX6_join wsX2_joining := goodIn_r _ [21, 22, 23, 24, 25, 26, 27, 28, 29, 30, 12, 13, 14, 15, 16, 31, 32, 33, 34, 35, 36, 37, 38, 39, 40, 41, 42, 43, 44, 45, 46, 47, 48, 20, 49, 50, 51, 52, 53, 54, 55, 56, 57, 58, 59, 60, 61, 62, 63, 64, 65, 66, 67, 68, 69, 70, 71, 72, 73, 74, 75, 76, 77, 78, 79, 80, 81, 82, 83, 84, 85, 86, 87, 92, 93, 94, 95, 96, 119, 120, 121, 106, 107, 108, 109, 110, 111, 112, 113, 114, 115, 116, 117, 118] (by decide +kernel) (by decide +kernel)
set_option maxRecDepth 20000 in
theorem gX6_join_X2_joining : GoodIn wsX6_join (wsV RX6 129 RX2 yX2_joining wsX2_joining) := goodIn_app (goodIn_of _ (by decide +kernel)) ggX6_join_X2_joining
