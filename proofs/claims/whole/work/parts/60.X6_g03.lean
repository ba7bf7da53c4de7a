set_option maxRecDepth 20000 in
theorem ggX6_best_X6_measure : GoodIn wsX6_best wsX6_measure := goodIn_r _ [36, 37, 38, 39, 40, 41, 42, 43, 44, 45, 46, 47, 48, 49, 50, 51, 52, 53, 54, 55, 16, 17, 12, 18, 19, 20, 21, 22, 23, 14, 56, 57, 58, 59, 28, 60, 61, 62, 63, 64, 65, 66, 67, 68, 69, 173, 174, 175, 176, 177, 178, 179, 180, 181, 195, 196, 197, 182, 183, 184, 185, 186, 187, 188, 189, 190, 191, 192, 193, 194] (by decide +kernel) (by decide +kernel)
set_option maxRecDepth 20000 in
theorem gX6_best_X6_measure : GoodIn wsX6_best (wsV RX6 108 RX6 yX6_measure wsX6_measure) := goodIn_app (goodIn_of _ (by decide +kernel)) ggX6_best_X6_measure
set_option maxRecDepth 20000 in
theorem ggX6_best_X0_cheapest : GoodIn wsX6_best wsX0_cheapest := goodIn_r _ [74, 75, 76, 77, 78, 79, 80, 81, 82, 83, 84, 85, 86, 87, 30, 31, 12, 32, 14, 88, 89, 90, 73, 91, 92, 93, 94, 95, 42, 96, 44, 97, 98, 99, 100, 46, 101, 102, 103, 104, 105, 106, 107, 108, 109, 110, 111, 112, 113, 28, 114, 115, 116, 117, 118, 119, 120, 121, 122, 123, 124, 125, 126, 127, 128, 129, 130, 131, 52, 132, 133, 134, 135, 136, 137, 138, 47, 139, 140, 141, 142, 143, 144, 145, 146, 147, 148, 149, 150, 151, 152, 153, 154, 155, 156, 157, 158, 159, 160, 161, 162, 163, 164, 165, 166, 167, 198, 199, 200, 201, 202, 203, 204, 205, 206, 207, 182, 183, 184, 185, 186, 187, 188, 189, 190, 191, 192, 193, 194, 208, 209, 210, 211, 212, 195, 196, 197] (by decide +kernel) (by decide +kernel)
set_option maxRecDepth 20000 in
theorem gX6_best_X0_cheapest : GoodIn wsX6_best (wsV RX6 172 RX0 yX0_cheapest wsX0_cheapest) := goodIn_app (goodIn_of _ (by decide +kernel)) ggX6_best_X0_cheapest
set_option maxRecDepth 20000 in
theorem ggX6_best_X6_keep : GoodIn wsX6_best wsX6_keep := goodIn_r _ [171, 2, 172, 173, 174, 175, 176, 177, 178, 179, 180, 181] (by decide +kernel) (by decide +kernel)
set_option maxRecDepth 20000 in
theorem gX6_best_X6_keep : GoodIn wsX6_best (wsV RX6 115 RX6 yX6_keep wsX6_keep) := goodIn_app (goodIn_of _ (by decide +kernel)) ggX6_best_X6_keep
set_option maxRecDepth 20000 in
theorem ggX6_spans_X6_tellSpans : GoodIn wsX6_spans wsX6_tellSpans := goodIn_r _ [7, 8, 9, 1, 10, 11, 12, 13, 14, 15, 16, 17, 18, 19, 20, 21, 22, 23, 24, 25, 26, 27, 28, 29, 30, 31, 32, 33, 34, 35, 36, 6, 37, 38, 39, 40, 41, 42, 43, 44, 45, 46, 47, 48, 49, 50, 51, 52, 53, 54, 55, 56, 57, 58, 59, 60, 61, 62, 63, 64, 65, 66, 67, 68, 69, 70, 71, 72, 73, 74, 75, 76, 77, 78, 79, 80, 81, 82, 83, 84, 85, 86, 87, 88, 89, 90, 91, 92, 93, 94, 95, 96, 97, 98, 99, 100, 101, 102, 103, 104, 105, 106, 107, 108, 109, 110, 111, 112, 113, 114, 115, 116, 117, 118, 119, 120, 121, 122, 123, 124, 125, 126, 127, 128, 129, 130, 131, 132, 133, 134, 135, 136, 137, 138, 139, 140, 141, 142, 143, 144, 145, 146, 147, 148, 149, 150, 151, 152, 153, 154, 155, 156, 157, 158, 159, 160, 161, 162, 163, 164, 165, 166, 167, 168, 169, 170, 171, 172, 173, 174, 175, 176, 177, 178, 179, 180, 181, 182, 183, 184, 185, 186, 187, 188, 189, 190, 191, 192, 193, 194, 195, 196, 197, 198, 199, 200, 201, 202, 203, 204, 205, 206, 207, 208, 209, 210, 211, 212, 213, 214, 215, 216, 217, 218, 219, 220, 221, 222, 223, 224, 225, 226, 227, 228, 236, 237, 238, 239, 240, 241, 242, 243, 244, 245, 246, 247, 248, 249, 250, 251, 229, 230, 231, 232, 233, 234, 235, 252, 253, 254, 255, 256, 257, 258, 259, 260, 261, 262, 263, 264, 265, 266] (by decide +kernel) (by decide +kernel)
set_option maxRecDepth 20000 in
theorem gX6_spans_X6_tellSpans : GoodIn wsX6_spans (wsV RX6 176 RX6 yX6_tellSpans wsX6_tellSpans) := goodIn_app (goodIn_of _ (by decide +kernel)) ggX6_spans_X6_tellSpans
set_option maxRecDepth 20000 in
theorem ggX6_border_X6_tellSpans : GoodIn wsX6_border wsX6_tellSpans := goodIn_r _ [8, 9, 10, 1, 11, 12, 13, 14, 15, 16, 17, 18, 19, 20, 21, 22, 23, 24, 25, 26, 27, 28, 29, 30, 31, 32, 33, 34, 35, 36, 37, 7, 38, 39, 40, 41, 42, 43, 44, 45, 46, 47, 48, 49, 50, 51, 52, 53, 54, 55, 56, 57, 58, 59, 60, 61, 62, 63, 64, 65, 66, 67, 68, 69, 70, 71, 72, 73, 74, 75, 76, 77, 78, 79, 80, 81, 82, 83, 84, 85, 86, 87, 88, 89, 90, 91, 92, 93, 94, 95, 96, 97, 98, 99, 100, 101, 102, 103, 104, 105, 106, 107, 108, 109, 110, 111, 112, 113, 114, 115, 116, 117, 118, 119, 120, 121, 122, 123, 124, 125, 126, 127, 128, 129, 130, 131, 132, 133, 134, 135, 136, 137, 138, 139, 140, 141, 142, 143, 144, 145, 146, 147, 148, 149, 150, 151, 152, 153, 154, 155, 156, 157, 158, 159, 160, 161, 162, 163, 164, 165, 166, 167, 168, 169, 170, 171, 172, 173, 174, 175, 176, 177, 178, 179, 180, 181, 182, 183, 184, 185, 186, 187, 188, 189, 190, 191, 192, 193, 194, 195, 196, 197, 198, 199, 200, 201, 202, 203, 204, 205, 206, 207, 208, 209, 210, 211, 212, 213, 214, 215, 216, 217, 218, 219, 220, 230, 231, 232, 233, 234, 235, 236, 237, 238, 246, 247, 248, 249, 250, 251, 252, 253, 254, 255, 256, 257, 258, 259, 260, 261, 239, 240, 241, 242, 243, 244, 245, 262, 263, 264, 265, 266, 267, 268, 269, 270, 271, 272, 273, 274, 275, 276] (by decide +kernel) (by decide +kernel)
set_option maxRecDepth 20000 in
theorem gX6_border_X6_tellSpans : GoodIn wsX6_border (wsV RX6 176 RX6 yX6_tellSpans wsX6_tellSpans) := goodIn_app (goodIn_of _ (by decide +kernel)) ggX6_border_X6_tellSpans
set_option maxRecDepth 20000 in
theorem ggX6_border_X5_borderAbove : GoodIn wsX6_border wsX5_borderAbove := goodIn_r _ [224, 77, 225, 201, 239, 240, 241, 242, 243, 244, 245] (by decide +kernel) (by decide +kernel)
set_option maxRecDepth 20000 in
theorem gX6_border_X5_borderAbove : GoodIn wsX6_border (wsV RX6 182 RX5 yX5_borderAbove wsX5_borderAbove) := goodIn_app (goodIn_of _ (by decide +kernel)) ggX6_border_X5_borderAbove
set_option maxRecDepth 20000 in
theorem ggX6_border_X5_borderBelow : GoodIn wsX6_border wsX5_borderBelow := goodIn_r _ [229, 77, 225, 202, 239, 240, 241, 242, 243, 244, 245] (by decide +kernel) (by decide +kernel)
set_option maxRecDepth 20000 in
theorem gX6_border_X5_borderBelow : GoodIn wsX6_border (wsV RX6 185 RX5 yX5_borderBelow wsX5_borderBelow) := goodIn_app (goodIn_of _ (by decide +kernel)) ggX6_border_X5_borderBelow
set_option maxRecDepth 20000 in
theorem ggX6_keen_X6_tellSpans : GoodIn wsX6_keen wsX6_tellSpans := goodIn_r _ [8, 9, 10, 1, 11, 12, 13, 14, 15, 16, 17, 18, 19, 20, 21, 22, 23, 24, 25, 26, 27, 28, 29, 30, 31, 32, 33, 34, 35, 36, 37, 7, 38, 39, 40, 41, 42, 43, 44, 45, 46, 47, 48, 49, 50, 51, 52, 53, 54, 55, 56, 57, 58, 59, 60, 61, 62, 63, 64, 65, 66, 67, 68, 69, 70, 71, 72, 73, 74, 75, 76, 77, 78, 79, 80, 81, 82, 83, 84, 85, 86, 87, 88, 89, 90, 91, 92, 93, 94, 95, 96, 97, 98, 99, 100, 101, 102, 103, 104, 105, 106, 107, 108, 109, 110, 111, 112, 113, 114, 115, 116, 117, 118, 119, 120, 121, 122, 123, 124, 125, 126, 127, 128, 129, 130, 131, 132, 133, 134, 135, 136, 137, 138, 139, 140, 141, 142, 143, 144, 145, 146, 147, 148, 149, 150, 151, 152, 153, 154, 155, 156, 157, 158, 159, 160, 161, 162, 163, 164, 165, 166, 167, 168, 169, 170, 171, 172, 173, 174, 175, 176, 177, 178, 179, 180, 181, 182, 183, 184, 185, 186, 187, 188, 189, 190, 191, 192, 193, 194, 195, 196, 197, 198, 199, 200, 201, 202, 203, 204, 205, 206, 207, 208, 209, 210, 211, 212, 213, 214, 215, 216, 217, 218, 219, 220, 227, 228, 229, 230, 231, 232, 233, 234, 235, 243, 244, 245, 246, 247, 248, 249, 250, 251, 252, 253, 254, 255, 256, 257, 258, 236, 237, 238, 239, 240, 241, 242, 259, 260, 261, 262, 263, 264, 265, 266, 267, 268, 269, 270, 271, 272, 273] (by decide +kernel) (by decide +kernel)
set_option maxRecDepth 20000 in
theorem gX6_keen_X6_tellSpans : GoodIn wsX6_keen (wsV RX6 176 RX6 yX6_tellSpans wsX6_tellSpans) := goodIn_app (goodIn_of _ (by decide +kernel)) ggX6_keen_X6_tellSpans
set_option maxRecDepth 20000 in
theorem ggX6_keen_X5_planOf : GoodIn wsX6_keen wsX5_planOf := goodIn_r _ [188, 77, 184, 236, 237, 238, 239, 240, 241, 242] (by decide +kernel) (by decide +kernel)
set_option maxRecDepth 20000 in
theorem gX6_keen_X5_planOf : GoodIn wsX6_keen (wsV RX6 188 RX5 yX5_planOf wsX5_planOf) := goodIn_app (goodIn_of _ (by decide +kernel)) ggX6_keen_X5_planOf
set_option maxRecDepth 20000 in
theorem ggX6_keen_X6_keep : GoodIn wsX6_keen wsX6_keep := goodIn_r _ [225, 3, 226, 227, 228, 229, 230, 231, 232, 233, 234, 235] (by decide +kernel) (by decide +kernel)
set_option maxRecDepth 20000 in
theorem gX6_keen_X6_keep : GoodIn wsX6_keen (wsV RX6 115 RX6 yX6_keep wsX6_keep) := goodIn_app (goodIn_of _ (by decide +kernel)) ggX6_keen_X6_keep
set_option maxRecDepth 20000 in
theorem ggX6_near_X6_planAt : GoodIn wsX6_near wsX6_planAt := goodIn_r _ [8, 9, 10, 247, 248, 249, 250, 251, 252, 253, 254, 255] (by decide +kernel) (by decide +kernel)
set_option maxRecDepth 20000 in
theorem gX6_near_X6_planAt : GoodIn wsX6_near (wsV RX6 119 RX6 yX6_planAt wsX6_planAt) := goodIn_app (goodIn_of _ (by decide +kernel)) ggX6_near_X6_planAt
set_option maxRecDepth 20000 in
theorem ggX6_near_X6_isPoint : GoodIn wsX6_near wsX6_isPoint := goodIn_r _ [13] (by decide +kernel) (by decide +kernel)
set_option maxRecDepth 20000 in
theorem gX6_near_X6_isPoint : GoodIn wsX6_near (va_wsS RX6 167 yX6_isPoint wsX6_isPoint) := goodIn_app (goodIn_of _ (by decide +kernel)) ggX6_near_X6_isPoint
