/-! part 7003: words of the law's own methods (printed rows) -/
set_option maxRecDepth 20000 in
theorem ggL_isOrder_X3_stream : GoodIn wsL_isOrder wsX3_stream := goodIn_r _ [5, 6, 7, 8, 9, 10, 11, 12, 4, 13, 14, 15, 16, 17, 18, 19, 20, 21, 22, 23, 24, 25, 26, 27, 28, 29, 30, 31, 32, 33, 34, 35, 36, 37, 38, 39, 40, 41, 42, 43, 44, 45, 46, 47, 48, 49, 50, 51, 52, 53, 54, 55, 56, 57, 58, 59, 60, 61, 62, 63, 64, 65, 66, 67, 68, 69, 70, 71, 72, 73, 74, 75, 76, 77, 78, 79, 80, 81, 82, 83, 84, 85, 86, 87, 88, 89, 90, 91, 92, 93, 94, 95, 96, 97, 98, 99, 100, 101, 102, 103, 104, 105, 106, 107, 108, 109, 110, 111, 112, 113, 114, 115, 116, 117, 118, 119, 120, 121, 122, 123, 124, 125, 126, 127, 128, 129, 130, 131, 210, 211, 212, 213, 214, 215, 216, 217, 218, 219, 220, 221, 222, 223, 224, 225, 226, 227, 228, 229, 230, 231, 232, 233] (by decide +kernel) (by decide +kernel)
set_option maxRecDepth 20000 in
theorem gL_isOrder_X3_stream : GoodIn wsL_isOrder (wsV RL 56 RX3 yX3_stream wsX3_stream) := goodIn_app (goodIn_of _ (by decide +kernel)) ggL_isOrder_X3_stream
set_option maxRecDepth 20000 in
theorem ggL_isOrder_X3_relation : GoodIn wsL_isOrder wsX3_relation := goodIn_r _ [135, 6, 136, 137, 138, 4, 139, 140, 141, 142, 143, 144, 145, 146, 147, 11, 12, 13, 148, 52, 53, 20, 54, 55, 56, 57, 149, 59, 60, 61, 62, 63, 23, 24, 150, 151, 152, 153, 97, 210, 211, 212, 213, 214, 215, 216, 217, 218, 219, 220, 221, 222, 223, 224, 225, 226, 232, 233] (by decide +kernel) (by decide +kernel)
set_option maxRecDepth 20000 in
theorem gL_isOrder_X3_relation : GoodIn wsL_isOrder (wsV RL 65 RX3 yX3_relation wsX3_relation) := goodIn_app (goodIn_of _ (by decide +kernel)) ggL_isOrder_X3_relation
set_option maxRecDepth 20000 in
theorem ggL_isOrder_X3_order : GoodIn wsL_isOrder wsX3_order := goodIn_r _ [157, 6, 158, 136, 137, 138, 4, 139, 140, 141, 142, 143, 144, 14, 15, 16, 148, 52, 53, 20, 54, 55, 56, 57, 159, 160, 161, 61, 162, 63, 23, 24, 163, 164, 165, 166, 167, 168, 169, 170, 171, 172, 173, 174, 175, 176, 177, 178, 179, 180, 181, 182, 183, 184, 185, 186, 187, 188, 151, 152, 153, 97, 12, 13, 189, 190, 191, 192, 193, 59, 60, 62, 210, 211, 212, 213, 214, 215, 216, 217, 218, 219, 220, 221, 222, 223, 224, 225, 226, 232, 233] (by decide +kernel) (by decide +kernel)
set_option maxRecDepth 20000 in
theorem gL_isOrder_X3_order : GoodIn wsL_isOrder (wsV RL 68 RX3 yX3_order wsX3_order) := goodIn_app (goodIn_of _ (by decide +kernel)) ggL_isOrder_X3_order
set_option maxRecDepth 20000 in
theorem ggL_isOrder_X3_lists : GoodIn wsL_isOrder wsX3_lists := goodIn_r _ [197, 198, 6, 158, 199, 136, 137, 138, 4, 139, 140, 141, 142, 143, 144, 148, 52, 53, 20, 54, 55, 56, 57, 200, 201, 202, 61, 203, 204, 205, 206, 207, 63, 23, 24, 208, 209, 210, 211, 212, 213, 214, 215, 216, 217, 218, 219, 220, 221, 222, 223, 224, 225, 226, 232, 233] (by decide +kernel) (by decide +kernel)
set_option maxRecDepth 20000 in
theorem gL_isOrder_X3_lists : GoodIn wsL_isOrder (wsV RL 71 RX3 yX3_lists wsX3_lists) := goodIn_app (goodIn_of _ (by decide +kernel)) ggL_isOrder_X3_lists
