set_option maxRecDepth 20000 in
theorem ggX6_join_X6_keep : GoodIn wsX6_join wsX6_keep := goodIn_r _ [91, 3, 10, 97, 98, 99, 100, 101, 102, 103, 104, 105] (by decide +kernel) (by decide +kernel)
set_option maxRecDepth 20000 in
theorem gX6_join_X6_keep : GoodIn wsX6_join (wsV RX6 115 RX6 yX6_keep wsX6_keep) := goodIn_app (goodIn_of _ (by decide +kernel)) ggX6_join_X6_keep
set_option maxRecDepth 20000 in
theorem ggX6_code_X6_planAt : GoodIn wsX6_code wsX6_planAt := goodIn_r _ [5, 6, 7, 27, 28, 29, 30, 31, 32, 33, 34, 35] (by decide +kernel) (by decide +kernel)
set_option maxRecDepth 20000 in
theorem gX6_code_X6_planAt : GoodIn wsX6_code (wsV RX6 119 RX6 yX6_planAt wsX6_planAt) := goodIn_app (goodIn_of _ (by decide +kernel)) ggX6_code_X6_planAt
set_option maxRecDepth 20000 in
theorem ggX6_code_X1_codeLength : GoodIn wsX6_code wsX1_codeLength := goodIn_r _ [12, 13, 14, 15, 16, 17, 18, 19, 20, 36, 37, 38, 39, 40] (by decide +kernel) (by decide +kernel)
set_option maxRecDepth 20000 in
theorem gX6_code_X1_codeLength : GoodIn wsX6_code (wsV RX6 133 RX1 yX1_codeLength wsX1_codeLength) := goodIn_app (goodIn_of _ (by decide +kernel)) ggX6_code_X1_codeLength
set_option maxRecDepth 20000 in
theorem ggX6_code_X1_codeNumber : GoodIn wsX6_code wsX1_codeNumber := goodIn_r _ [24, 25, 26, 9, 10, 11, 12, 13, 14, 15, 16, 17, 18, 19, 20, 36, 37, 38, 39, 40] (by decide +kernel) (by decide +kernel)
set_option maxRecDepth 20000 in
theorem gX6_code_X1_codeNumber : GoodIn wsX6_code (wsV RX6 136 RX1 yX1_codeNumber wsX1_codeNumber) := goodIn_app (goodIn_of _ (by decide +kernel)) ggX6_code_X1_codeNumber
set_option maxRecDepth 20000 in
theorem ggX6_about_X6_planAt : GoodIn wsX6_about wsX6_planAt := goodIn_r _ [8, 9, 10, 29, 30, 31, 32, 33, 34, 35, 36, 37] (by decide +kernel) (by decide +kernel)
set_option maxRecDepth 20000 in
theorem gX6_about_X6_planAt : GoodIn wsX6_about (wsV RX6 119 RX6 yX6_planAt wsX6_planAt) := goodIn_app (goodIn_of _ (by decide +kernel)) ggX6_about_X6_planAt
set_option maxRecDepth 20000 in
theorem ggX6_about_J6_bitCount_0f7a4 : GoodIn wsX6_about wsJ6_bitCount_0f7a4 := goodIn_r _ [14, 15, 16, 17] (by decide +kernel) (by decide +kernel)
set_option maxRecDepth 20000 in
theorem gX6_about_J6_bitCount_0f7a4 : GoodIn wsX6_about (va_wsS RX6 139 yJ6_bitCount_0f7a4 wsJ6_bitCount_0f7a4) := goodIn_app (goodIn_of _ (by decide +kernel)) ggX6_about_J6_bitCount_0f7a4
set_option maxRecDepth 20000 in
theorem ggX6_about_X3_allTables : GoodIn wsX6_about wsX3_allTables := goodIn_r _ [22, 23, 38, 39, 40, 41, 42, 43, 44, 45, 46, 47, 48, 49, 50] (by decide +kernel) (by decide +kernel)
set_option maxRecDepth 20000 in
theorem gX6_about_X3_allTables : GoodIn wsX6_about (wsV RX6 148 RX3 yX3_allTables wsX3_allTables) := goodIn_app (goodIn_of _ (by decide +kernel)) ggX6_about_X3_allTables
set_option maxRecDepth 20000 in
theorem ggX6_price_X6_planAt : GoodIn wsX6_price wsX6_planAt := goodIn_r _ [10, 11, 12, 29, 30, 31, 32, 33, 34, 35, 36, 37] (by decide +kernel) (by decide +kernel)
set_option maxRecDepth 20000 in
theorem gX6_price_X6_planAt : GoodIn wsX6_price (wsV RX6 119 RX6 yX6_planAt wsX6_planAt) := goodIn_app (goodIn_of _ (by decide +kernel)) ggX6_price_X6_planAt
set_option maxRecDepth 20000 in
theorem ggX6_price_X2_sizeA : GoodIn wsX6_price wsX2_sizeA := goodIn_r _ [17, 18, 38, 39, 40] (by decide +kernel) (by decide +kernel)
set_option maxRecDepth 20000 in
theorem gX6_price_X2_sizeA : GoodIn wsX6_price (wsV RX6 160 RX2 yX2_sizeA wsX2_sizeA) := goodIn_app (goodIn_of _ (by decide +kernel)) ggX6_price_X2_sizeA
set_option maxRecDepth 20000 in
theorem ggX6_price_X2_sizeB : GoodIn wsX6_price wsX2_sizeB := goodIn_r _ [22, 23, 38, 39, 40] (by decide +kernel) (by decide +kernel)
set_option maxRecDepth 20000 in
theorem gX6_price_X2_sizeB : GoodIn wsX6_price (wsV RX6 164 RX2 yX2_sizeB wsX2_sizeB) := goodIn_app (goodIn_of _ (by decide +kernel)) ggX6_price_X2_sizeB
set_option maxRecDepth 20000 in
theorem ggX6_best_X6_isPoint : GoodIn wsX6_best wsX6_isPoint := goodIn_r _ [8] (by decide +kernel) (by decide +kernel)
set_option maxRecDepth 20000 in
theorem gX6_best_X6_isPoint : GoodIn wsX6_best (va_wsS RX6 167 yX6_isPoint wsX6_isPoint) := goodIn_app (goodIn_of _ (by decide +kernel)) ggX6_best_X6_isPoint
set_option maxRecDepth 20000 in
theorem ggX6_best_X3_isWhole : GoodIn wsX6_best wsX3_isWhole := goodIn_r _ [13, 14, 15, 16, 17, 12, 18, 19, 20, 21, 22, 23, 24, 25, 26, 27, 28, 29, 30, 31, 32, 182, 183, 184, 185, 186, 187, 188, 189, 190, 191, 192, 193, 194] (by decide +kernel) (by decide +kernel)
set_option maxRecDepth 20000 in
theorem gX6_best_X3_isWhole : GoodIn wsX6_best (wsV RX6 104 RX3 yX3_isWhole wsX3_isWhole) := goodIn_app (goodIn_of _ (by decide +kernel)) ggX6_best_X3_isWhole
