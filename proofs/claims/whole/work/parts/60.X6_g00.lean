set_option maxRecDepth 20000 in
theorem ggX6_init_X3_init : GoodIn wsX6_init wsX3_init := goodIn_r _ [27, 28, 2, 3, 29, 30, 31, 32, 33, 34, 35, 36, 37, 38, 39, 83, 84, 85, 86, 87, 88, 89, 90, 91, 92, 93, 94, 95] (by decide +kernel) (by decide +kernel)
set_option maxRecDepth 20000 in
theorem gX6_init_X3_init_n13 : GoodIn wsX6_init (wsX3_init) := ggX6_init_X3_init
set_option maxRecDepth 20000 in
theorem ggX6_init_X2_init : GoodIn wsX6_init wsX2_init := goodIn_r _ [42, 43, 2, 3, 44, 45, 46, 47, 105, 106, 107] (by decide +kernel) (by decide +kernel)
set_option maxRecDepth 20000 in
theorem gX6_init_X2_init : GoodIn wsX6_init (wsX2_init) := ggX6_init_X2_init
set_option maxRecDepth 20000 in
theorem ggX6_init_X0_init : GoodIn wsX6_init wsX0_init := goodIn_r _ [50, 51, 2, 3, 44, 52, 53, 31, 54, 55, 56, 57, 58, 59, 108, 109, 110, 111, 112, 113, 114, 115, 116, 117] (by decide +kernel) (by decide +kernel)
set_option maxRecDepth 20000 in
theorem gX6_init_X0_init : GoodIn wsX6_init (wsX0_init) := ggX6_init_X0_init
set_option maxRecDepth 20000 in
theorem ggX6_init_X5_init : GoodIn wsX6_init wsX5_init := goodIn_r _ [62, 63, 2, 3, 64, 65, 44, 66, 67, 68, 69, 70, 118, 119, 120, 121, 122, 123, 124] (by decide +kernel) (by decide +kernel)
set_option maxRecDepth 20000 in
theorem gX6_init_X5_init : GoodIn wsX6_init (wsX5_init) := ggX6_init_X5_init
set_option maxRecDepth 20000 in
theorem ggX6_init_X4_init : GoodIn wsX6_init wsX4_init := goodIn_r _ [73, 74, 2, 3, 31, 75, 76, 77, 78, 79, 80, 81, 82, 125, 126, 127, 128, 129, 130, 131, 132, 133, 134, 135, 136, 137] (by decide +kernel) (by decide +kernel)
set_option maxRecDepth 20000 in
theorem gX6_init_X4_init : GoodIn wsX6_init (wsX4_init) := ggX6_init_X4_init
set_option maxRecDepth 20000 in
theorem ggX6_table_X6_forgetPrices : GoodIn wsX6_table wsX6_forgetPrices := goodIn_r _ [8, 9, 10, 17, 18, 19, 20, 21, 22, 23, 24, 25] (by decide +kernel) (by decide +kernel)
set_option maxRecDepth 20000 in
theorem gX6_table_X6_forgetPrices : GoodIn wsX6_table (wsV RX6 65 RX6 yX6_forgetPrices wsX6_forgetPrices) := goodIn_app (goodIn_of _ (by decide +kernel)) ggX6_table_X6_forgetPrices
set_option maxRecDepth 20000 in
theorem ggX6_table_X3_addTable : GoodIn wsX6_table wsX3_addTable := goodIn_r _ [15, 16, 26, 27, 28, 29, 30, 31, 32, 33, 34, 35, 36, 37, 38] (by decide +kernel) (by decide +kernel)
set_option maxRecDepth 20000 in
theorem gX6_table_X3_addTable : GoodIn wsX6_table (wsV RX6 68 RX3 yX3_addTable wsX3_addTable) := goodIn_app (goodIn_of _ (by decide +kernel)) ggX6_table_X3_addTable
set_option maxRecDepth 20000 in
theorem ggX6_row_X3_isTable : GoodIn wsX6_row wsX3_isTable := goodIn_r _ [7, 8, 37, 38, 39, 40, 41, 42, 43, 44, 45, 46, 47, 48, 49] (by decide +kernel) (by decide +kernel)
set_option maxRecDepth 20000 in
theorem gX6_row_X3_isTable : GoodIn wsX6_row (wsV RX6 72 RX3 yX3_isTable wsX3_isTable) := goodIn_app (goodIn_of _ (by decide +kernel)) ggX6_row_X3_isTable
set_option maxRecDepth 20000 in
theorem ggX6_row_X3_rowsOf : GoodIn wsX6_row wsX3_rowsOf := goodIn_r _ [12, 13, 14, 4, 5, 6, 7, 8, 37, 38, 39, 40, 41, 42, 43, 44, 45, 46, 47, 48, 49] (by decide +kernel) (by decide +kernel)
set_option maxRecDepth 20000 in
theorem gX6_row_X3_rowsOf : GoodIn wsX6_row (wsV RX6 76 RX3 yX3_rowsOf wsX3_rowsOf) := goodIn_app (goodIn_of _ (by decide +kernel)) ggX6_row_X3_rowsOf
set_option maxRecDepth 20000 in
theorem ggX6_row_X6_forgetPrices : GoodIn wsX6_row wsX6_forgetPrices := goodIn_r _ [19, 20, 21, 28, 29, 30, 31, 32, 33, 34, 35, 36] (by decide +kernel) (by decide +kernel)
set_option maxRecDepth 20000 in
theorem gX6_row_X6_forgetPrices : GoodIn wsX6_row (wsV RX6 65 RX6 yX6_forgetPrices wsX6_forgetPrices) := goodIn_app (goodIn_of _ (by decide +kernel)) ggX6_row_X6_forgetPrices
set_option maxRecDepth 20000 in
theorem ggX6_row_X3_addRow : GoodIn wsX6_row wsX3_addRow := goodIn_r _ [25, 26, 13, 27, 10, 11, 6, 12, 14, 4, 5, 7, 8, 37, 38, 39, 40, 41, 42, 43, 44, 45, 46, 47, 48, 49] (by decide +kernel) (by decide +kernel)
set_option maxRecDepth 20000 in
theorem gX6_row_X3_addRow : GoodIn wsX6_row (wsV RX6 80 RX3 yX3_addRow wsX3_addRow) := goodIn_app (goodIn_of _ (by decide +kernel)) ggX6_row_X3_addRow
set_option maxRecDepth 20000 in
theorem ggX6_pair_X3_isField : GoodIn wsX6_pair wsX3_isField := goodIn_r _ [9, 10, 11, 12, 8, 13, 14, 43, 44, 45, 46, 47, 48, 49, 50, 51, 52, 53, 54, 55] (by decide +kernel) (by decide +kernel)
set_option maxRecDepth 20000 in
theorem gX6_pair_X3_isField : GoodIn wsX6_pair (wsV RX6 84 RX3 yX3_isField wsX3_isField) := goodIn_app (goodIn_of _ (by decide +kernel)) ggX6_pair_X3_isField
