set_option maxRecDepth 200000 in
theorem ggL_law_X6_steps : GoodIn wsL_law wsX6_steps := goodIn_r _ [867, 31, 868, 917, 918, 919, 920, 921, 922, 923, 924, 925, 999, 1000, 1001, 1002, 1003, 1004, 1005, 1006, 1007, 1008, 1009, 1010, 1011] rfl (by decide +kernel)
set_option maxRecDepth 200000 in
theorem gL_law_X6_steps : GoodIn wsL_law (wsV RL 96 RX6 yX6_steps wsX6_steps) := goodIn_app (goodIn_of _ (by decide +kernel)) ggL_law_X6_steps
set_option maxRecDepth 200000 in
theorem ggL_law_X7_steps : GoodIn wsL_law wsX7_steps := goodIn_r _ [872, 134, 926, 927, 928, 929, 930, 931, 932, 933, 934, 935, 936, 937, 938, 939, 940, 941, 942, 943, 944, 945, 946, 947, 948, 949, 950, 951, 952, 953, 954, 955, 956, 957, 958, 959, 960, 961, 962, 963, 964, 965] rfl (by decide +kernel)
set_option maxRecDepth 200000 in
theorem gL_law_X7_steps : GoodIn wsL_law (wsV RL 99 RX7 yX7_steps wsX7_steps) := goodIn_app (goodIn_of _ (by decide +kernel)) ggL_law_X7_steps
set_option maxRecDepth 200000 in
theorem ggL_law_X6_out : GoodIn wsL_law wsX6_out := goodIn_r _ [876, 31, 877, 878, 879, 30, 880, 748, 83, 747, 812, 813, 14, 814, 917, 918, 919, 920, 921, 922, 923, 924, 925, 999, 1000, 1001, 1002, 1003, 1004, 1005, 1006, 1007, 1008, 1009, 1010, 1011] rfl (by decide +kernel)
set_option maxRecDepth 200000 in
theorem gL_law_X6_out : GoodIn wsL_law (wsV RL 100 RX6 yX6_out wsX6_out) := goodIn_app (goodIn_of _ (by decide +kernel)) ggL_law_X6_out
set_option maxRecDepth 200000 in
theorem ggL_law_X7_out : GoodIn wsL_law wsX7_out := goodIn_r _ [884, 135, 136, 926, 927, 928, 929, 930, 931, 932, 933, 934, 935, 936, 937, 938, 939, 940, 941, 942, 943, 944, 945, 946, 947, 948, 949, 950, 951, 952, 953, 954, 955, 956, 957, 958, 959, 960, 961, 962, 963, 964, 965] rfl (by decide +kernel)
set_option maxRecDepth 200000 in
theorem gL_law_X7_out : GoodIn wsL_law (wsV RL 103 RX7 yX7_out wsX7_out) := goodIn_app (goodIn_of _ (by decide +kernel)) ggL_law_X7_out
set_option maxRecDepth 200000 in
theorem ggL_law_X6_holds : GoodIn wsL_law wsX6_holds := goodIn_r _ [888, 15, 889, 267, 268, 14, 269, 198, 890, 891, 892, 893, 42, 44, 266, 175, 167, 168, 169, 40, 170, 163, 164, 165, 153, 894, 769, 770, 895, 824, 825, 826, 43, 45, 827, 813, 814, 828, 809, 810, 811, 41, 917, 918, 919, 920, 921, 922, 923, 924, 925, 966, 967, 968, 969, 970, 971, 972, 973, 974, 975, 976, 977, 978] rfl (by decide +kernel)
set_option maxRecDepth 200000 in
theorem gL_law_X6_holds : GoodIn wsL_law (wsV RL 104 RX6 yX6_holds wsX6_holds) := goodIn_app (goodIn_of _ (by decide +kernel)) ggL_law_X6_holds
set_option maxRecDepth 200000 in
theorem ggL_law_X7_holds : GoodIn wsL_law wsX7_holds := goodIn_r _ [899, 96, 99, 101, 103, 102, 104, 851, 852, 853, 5, 854, 100, 926, 927, 928, 929, 930, 931, 932, 933, 934, 935, 936, 937, 938, 939, 940, 941, 942, 943, 944, 945, 946, 947, 948, 949, 950, 951, 952, 953, 954, 955, 956, 957, 958, 959, 960, 961, 962, 963, 964, 965] rfl (by decide +kernel)
set_option maxRecDepth 200000 in
theorem gL_law_X7_holds : GoodIn wsL_law (wsV RL 107 RX7 yX7_holds wsX7_holds) := goodIn_app (goodIn_of _ (by decide +kernel)) ggL_law_X7_holds
set_option maxRecDepth 200000 in
theorem ggL_law_X6_count : GoodIn wsL_law wsX6_count := goodIn_r _ [903, 15, 142, 189, 141, 188, 23, 904, 905, 906, 14, 907, 40, 233, 234, 235, 236, 153, 175, 167, 168, 169, 170, 163, 164, 165, 237, 238, 239, 240, 46, 241, 242, 243, 244, 908, 909, 910, 22, 911, 66, 65, 504, 912, 371, 372, 373, 374, 375, 376, 514, 336, 337, 338, 917, 918, 919, 920, 921, 922, 923, 924, 925, 966, 967, 968, 969, 970, 971, 972, 973, 974, 975, 976, 977, 978, 982, 983, 984, 985, 986, 987, 988, 989, 990, 991] rfl (by decide +kernel)
set_option maxRecDepth 200000 in
theorem gL_law_X6_count : GoodIn wsL_law (wsV RL 108 RX6 yX6_count wsX6_count) := goodIn_app (goodIn_of _ (by decide +kernel)) ggL_law_X6_count
set_option maxRecDepth 200000 in
theorem ggL_law_X7_count : GoodIn wsL_law wsX7_count := goodIn_r _ [916, 95, 99, 96, 106, 117, 111, 207, 208, 209, 5, 210, 105, 310, 311, 312, 313, 101, 103, 314, 315, 316, 317, 318, 319, 320, 321, 429, 430, 431, 432, 433, 434, 435, 436, 437, 112, 113, 114, 115, 116, 385, 386, 387, 388, 438, 439, 440, 441, 109, 110, 442, 443, 444, 445, 446, 447, 448, 449, 450, 451, 452, 453, 454, 455, 456, 389, 390, 391, 392, 393, 394, 395, 396, 397, 398, 399, 400, 457, 458, 459, 460, 97, 461, 462, 463, 464, 102, 98, 104, 926, 927, 928, 929, 930, 931, 932, 933, 934, 935, 936, 937, 938, 939, 940, 941, 942, 943, 944, 945, 946, 947, 948, 949, 950, 951, 952, 953, 954, 955, 956, 957, 958, 959, 960, 961, 962, 963, 964, 965] rfl (by decide +kernel)
set_option maxRecDepth 200000 in
theorem gL_law_X7_count : GoodIn wsL_law (wsV RL 111 RX7 yX7_count wsX7_count) := goodIn_app (goodIn_of _ (by decide +kernel)) ggL_law_X7_count
