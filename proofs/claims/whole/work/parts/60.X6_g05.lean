set_option maxRecDepth 20000 in
theorem ggX6_cover_X5_fewestNear : GoodIn wsX6_cover wsX5_fewestNear := goodIn_r _ [226, 79, 227, 228, 215, 229, 230, 231, 232, 77, 233, 234, 187, 188, 189, 190, 186, 235, 236, 237, 238, 239, 218, 219, 220, 97, 221, 179, 222, 180, 240, 241, 242, 243, 217, 244, 5, 245, 246, 247, 248, 249, 161, 162, 163, 164, 165, 166, 250, 251, 252, 253, 254, 264, 265, 266, 267, 268, 269, 270, 287, 288, 289, 290, 291] (by decide +kernel) (by decide +kernel)
set_option maxRecDepth 20000 in
theorem gX6_cover_X5_fewestNear : GoodIn wsX6_cover (wsV RX6 204 RX5 yX5_fewestNear wsX5_fewestNear) := goodIn_app (goodIn_of _ (by decide +kernel)) ggX6_cover_X5_fewestNear
set_option maxRecDepth 20000 in
theorem ggX6_run_X6_planAt : GoodIn wsX6_run wsX6_planAt := goodIn_r _ [6, 7, 8, 157, 158, 159, 160, 161, 162, 163, 164, 165] (by decide +kernel) (by decide +kernel)
set_option maxRecDepth 20000 in
theorem gX6_run_X6_planAt : GoodIn wsX6_run (wsV RX6 119 RX6 yX6_planAt wsX6_planAt) := goodIn_app (goodIn_of _ (by decide +kernel)) ggX6_run_X6_planAt
set_option maxRecDepth 20000 in
theorem ggX6_run_X4_work : GoodIn wsX6_run wsX4_work := goodIn_r _ [13, 14, 15, 16, 17, 18, 19, 20, 21, 22, 23, 24, 25, 26, 12, 27, 28, 29, 30, 31, 32, 33, 34, 35, 36, 37, 38, 39, 40, 41, 42, 43, 44, 45, 46, 47, 48, 49, 50, 51, 52, 53, 54, 55, 56, 57, 58, 59, 60, 61, 62, 63, 64, 65, 66, 67, 68, 69, 70, 71, 72, 73, 74, 75, 76, 77, 78, 79, 80, 81, 82, 83, 84, 85, 86, 87, 88, 89, 90, 91, 92, 93, 94, 95, 96, 97, 98, 99, 100, 101, 102, 103, 104, 105, 106, 107, 108, 109, 110, 111, 112, 113, 114, 115, 116, 117, 118, 119, 120, 121, 122, 123, 124, 125, 126, 127, 128, 129, 130, 131, 132, 133, 134, 135, 136, 137, 138, 139, 140, 141, 142, 143, 144, 145, 146, 147, 148, 149, 150, 151, 152, 153, 154, 155, 156, 166, 167, 168, 169, 170, 171, 172, 173, 174, 175, 176, 177, 178, 179, 180, 181, 182, 183, 184, 185, 186, 187, 188, 189, 190, 191, 192, 193, 194, 195, 196] (by decide +kernel) (by decide +kernel)
set_option maxRecDepth 20000 in
theorem gX6_run_X4_work : GoodIn wsX6_run (wsV RX6 207 RX4 yX4_work wsX4_work) := goodIn_app (goodIn_of _ (by decide +kernel)) ggX6_run_X4_work
set_option maxRecDepth 20000 in
theorem ggX6_out_X4_rowOf : GoodIn wsX6_out wsX4_rowOf := goodIn_r _ [6, 7, 8, 9, 10, 11, 12, 13, 23, 24, 25, 26, 27, 28, 29, 30, 31, 32, 33, 34, 35] (by decide +kernel) (by decide +kernel)
set_option maxRecDepth 20000 in
theorem gX6_out_X4_rowOf : GoodIn wsX6_out (wsV RX6 213 RX4 yX4_rowOf wsX4_rowOf) := goodIn_app (goodIn_of _ (by decide +kernel)) ggX6_out_X4_rowOf
set_option maxRecDepth 20000 in
theorem ggX6_holds_X3_isPairing : GoodIn wsX6_holds wsX3_isPairing := goodIn_r _ [6, 7, 51, 52, 53, 54, 55, 56, 57, 58, 59, 60, 61, 62, 63] (by decide +kernel) (by decide +kernel)
set_option maxRecDepth 20000 in
theorem gX6_holds_X3_isPairing : GoodIn wsX6_holds (wsV RX6 216 RX3 yX3_isPairing wsX3_isPairing) := goodIn_app (goodIn_of _ (by decide +kernel)) ggX6_holds_X3_isPairing
set_option maxRecDepth 20000 in
theorem ggX6_holds_X3_matches : GoodIn wsX6_holds wsX3_matches := goodIn_r _ [11, 12, 13, 14, 3, 4, 5, 6, 7, 15, 16, 17, 18, 19, 20, 21, 22, 23, 24, 25, 26, 27, 28, 29, 30, 31, 32, 33, 34, 35, 36, 37, 38, 39, 40, 41, 51, 52, 53, 54, 55, 56, 57, 58, 59, 60, 61, 62, 63] (by decide +kernel) (by decide +kernel)
set_option maxRecDepth 20000 in
theorem gX6_holds_X3_matches : GoodIn wsX6_holds (wsV RX6 219 RX3 yX3_matches wsX3_matches) := goodIn_app (goodIn_of _ (by decide +kernel)) ggX6_holds_X3_matches
set_option maxRecDepth 20000 in
theorem ggX6_count_X3_allRows : GoodIn wsX6_count wsX3_allRows := goodIn_r _ [11, 12, 63, 64, 65, 66, 67, 68, 69, 70, 71, 72, 73, 74, 75] (by decide +kernel) (by decide +kernel)
set_option maxRecDepth 20000 in
theorem gX6_count_X3_allRows : GoodIn wsX6_count (wsV RX6 222 RX3 yX3_allRows wsX3_allRows) := goodIn_app (goodIn_of _ (by decide +kernel)) ggX6_count_X3_allRows
set_option maxRecDepth 20000 in
theorem ggX6_count_X3_isWhole : GoodIn wsX6_count wsX3_isWhole := goodIn_r _ [16, 17, 18, 19, 20, 10, 21, 12, 22, 23, 24, 25, 26, 27, 28, 29, 30, 31, 32, 33, 34, 63, 64, 65, 66, 67, 68, 69, 70, 71, 72, 73, 74, 75] (by decide +kernel) (by decide +kernel)
set_option maxRecDepth 20000 in
theorem gX6_count_X3_isWhole : GoodIn wsX6_count (wsV RX6 104 RX3 yX3_isWhole wsX3_isWhole) := goodIn_app (goodIn_of _ (by decide +kernel)) ggX6_count_X3_isWhole
set_option maxRecDepth 20000 in
theorem ggX6_count_X0_wholePlans : GoodIn wsX6_count wsX0_wholePlans := goodIn_r _ [39, 40, 41, 42, 32, 33, 10, 34, 17, 43, 44, 45, 46, 47, 48, 49, 50, 51, 52, 53, 30, 76, 77, 78, 79, 80, 81, 82, 83, 84, 85, 63, 64, 65, 66, 67, 68, 69, 70, 71, 72, 73, 74, 75] (by decide +kernel) (by decide +kernel)
set_option maxRecDepth 20000 in
theorem gX6_count_X0_wholePlans : GoodIn wsX6_count (wsV RX6 225 RX0 yX0_wholePlans wsX0_wholePlans) := goodIn_app (goodIn_of _ (by decide +kernel)) ggX6_count_X0_wholePlans
set_option maxRecDepth 20000 in
theorem ggX6_measure_X2_measure : GoodIn wsX6_measure wsX2_measure := goodIn_r _ [7, 8, 9, 10, 11, 12, 13, 14, 6, 15, 16, 17, 18, 19, 20, 21, 22, 23, 24, 25, 26, 27, 28, 29, 30, 31, 32, 33, 34, 35, 36, 37, 38, 39, 40, 41, 42, 43, 44, 54, 55, 56, 57, 58, 59, 60, 61, 62, 63, 64, 65, 66, 67, 68, 69] (by decide +kernel) (by decide +kernel)
set_option maxRecDepth 20000 in
theorem gX6_measure_X2_measure : GoodIn wsX6_measure (wsV RX6 234 RX2 yX2_measure wsX2_measure) := goodIn_app (goodIn_of _ (by decide +kernel)) ggX6_measure_X2_measure
set_option maxRecDepth 20000 in
theorem ggX6_tellSpans_X3_isWhole : GoodIn wsX6_tellSpans wsX3_isWhole := goodIn_r _ [8, 9, 10, 11, 12, 7, 13, 14, 15, 16, 17, 18, 19, 20, 21, 22, 23, 24, 25, 26, 27, 224, 225, 226, 227, 228, 229, 230, 231, 232, 233, 234, 235, 236] (by decide +kernel) (by decide +kernel)
set_option maxRecDepth 20000 in
theorem gX6_tellSpans_X3_isWhole : GoodIn wsX6_tellSpans (wsV RX6 104 RX3 yX3_isWhole wsX3_isWhole) := goodIn_app (goodIn_of _ (by decide +kernel)) ggX6_tellSpans_X3_isWhole
set_option maxRecDepth 20000 in
theorem ggX6_tellSpans_X6_measure : GoodIn wsX6_tellSpans wsX6_measure := goodIn_r _ [32, 33, 34, 35, 36, 37, 38, 39, 40, 41, 42, 43, 44, 45, 46, 47, 48, 49, 50, 51, 11, 12, 7, 13, 14, 15, 16, 17, 18, 9, 52, 53, 54, 55, 23, 56, 57, 58, 59, 60, 61, 62, 63, 64, 65, 215, 216, 217, 218, 219, 220, 221, 222, 223, 237, 238, 239, 224, 225, 226, 227, 228, 229, 230, 231, 232, 233, 234, 235, 236] (by decide +kernel) (by decide +kernel)
set_option maxRecDepth 20000 in
theorem gX6_tellSpans_X6_measure : GoodIn wsX6_tellSpans (wsV RX6 108 RX6 yX6_measure wsX6_measure) := goodIn_app (goodIn_of _ (by decide +kernel)) ggX6_tellSpans_X6_measure
