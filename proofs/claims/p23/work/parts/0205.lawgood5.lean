/-! part 7005: words of the law's own methods (printed rows) -/
set_option maxRecDepth 20000 in
theorem gw_change_1 : GoodIn wsL_law (.code yL_change cL_change 5 (some .int) :: wsL_change_r1) := goodIn_r _ [68, 69, 70, 63, 71, 72, 73, 74, 75, 2, 76, 12, 77, 78, 79, 80, 81, 82, 83, 84, 85, 86, 11, 87, 25] (by decide +kernel) (by decide +kernel)
set_option maxRecDepth 20000 in
theorem gw_change_2 : GoodIn wsL_law wsL_change_r2 := goodIn_r _ [88, 89, 90, 91, 92, 93, 15, 14, 94, 95, 96, 97, 98, 99, 100, 101, 27, 28, 30, 36, 38, 37, 39, 40] (by decide +kernel) (by decide +kernel)
set_option maxRecDepth 20000 in
theorem gw_change_3 : GoodIn wsL_law wsL_change_r3 := goodIn_r _ [41, 102, 103, 104, 32, 105, 54, 50, 106, 107, 48, 108, 51, 52, 53, 109, 110, 111, 35, 112, 59, 60, 113, 114] (by decide +kernel) (by decide +kernel)
set_option maxRecDepth 20000 in
theorem gw_change_4 : GoodIn wsL_law wsL_change_r4 := goodIn_r _ [115, 116, 117, 118, 119, 120, 121, 122, 123, 124, 125, 126, 127, 128, 129, 130, 131, 132, 133, 134, 135, 136, 137, 138] (by decide +kernel) (by decide +kernel)
set_option maxRecDepth 20000 in
theorem gw_change_5 : GoodIn wsL_law wsL_change_r5 := goodIn_r _ [139, 140, 141, 142, 143, 144, 145, 146, 147, 148, 149, 150, 151, 152, 153, 154, 155, 156, 157, 158, 159, 160, 161, 162] (by decide +kernel) (by decide +kernel)
set_option maxRecDepth 20000 in
theorem gw_change_6 : GoodIn wsL_law wsL_change_r6 := goodIn_r _ [163, 164, 165, 166, 167, 168, 169, 170, 171, 172, 173, 174, 175, 176, 177, 178, 179, 180, 181, 182, 183, 184, 185, 186] (by decide +kernel) (by decide +kernel)
set_option maxRecDepth 20000 in
theorem gw_change_7 : GoodIn wsL_law wsL_change_r7 := goodIn_r _ [187, 188, 189, 190, 191, 192, 193, 194, 195, 196, 197, 198, 199, 200, 201, 202, 203, 204, 205, 206, 207, 208, 209, 210] (by decide +kernel) (by decide +kernel)
set_option maxRecDepth 20000 in
theorem gw_change_8 : GoodIn wsL_law wsL_change_r8 := goodIn_r _ [211, 212, 213, 214, 215, 216, 217, 218, 219, 220, 221, 222, 223, 224, 225, 226, 227, 228, 229, 230, 231, 232, 233, 234] (by decide +kernel) (by decide +kernel)
set_option maxRecDepth 20000 in
theorem gw_change_9 : GoodIn wsL_law wsL_change_r9 := goodIn_r _ [235, 236, 237, 238, 239, 240, 241, 242, 243, 244, 245, 246, 247, 248, 249, 250, 251, 252, 253, 254, 255, 256, 257, 258] (by decide +kernel) (by decide +kernel)
set_option maxRecDepth 20000 in
theorem gw_change_10 : GoodIn wsL_law wsL_change_r10 := goodIn_r _ [259, 260, 261, 262, 263, 264, 265, 266, 267, 268, 269, 270, 271, 272, 273, 274, 275, 276, 16, 18, 277, 278, 279, 280] (by decide +kernel) (by decide +kernel)
set_option maxRecDepth 20000 in
theorem gw_change_11 : GoodIn wsL_law wsL_change_r11 := goodIn_r _ [281, 282, 283, 284, 285, 286, 287, 288] (by decide +kernel) (by decide +kernel)
theorem ggL_law_L_change : GoodIn wsL_law wsL_change := (goodIn_ca (goodIn_ca (goodIn_ca (goodIn_ca (goodIn_ca gw_change_1 (goodIn_app gw_change_2 (goodIn_app gw_change_3 (goodIn_app gw_change_4 (goodIn_app gw_change_5 (goodIn_app gw_change_6 (goodIn_app gw_change_7 (goodIn_app gw_change_8 (goodIn_app gw_change_9 (goodIn_app gw_change_10 gw_change_11)))))))))) gw_wsX30) gw_wsX20) gw_wsX00) gw_wsX10)
set_option maxRecDepth 20000 in
theorem gL_law_L_change : GoodIn wsL_law (va_wsS RL 86 yL_change wsL_change) := goodIn_app (goodIn_of _ (by decide +kernel)) ggL_law_L_change
set_option maxRecDepth 20000 in
theorem gw_areQueues_1 : GoodIn wsL_law (.code yL_areQueues cL_areQueues 8 (some .boolean) :: wsL_areQueues_r1) := goodIn_r _ [291, 292, 293, 294, 2, 295, 12, 130, 131, 141, 132, 78, 79, 80, 81, 82, 83, 84, 85, 86, 11, 87, 25, 88, 89] (by decide +kernel) (by decide +kernel)
set_option maxRecDepth 20000 in
theorem gw_areQueues_2 : GoodIn wsL_law wsL_areQueues_r2 := goodIn_r _ [296, 297, 298, 32, 299, 54, 52, 300, 224, 225, 226, 30, 227, 228, 229, 230, 231, 232, 233, 234, 235, 53, 236, 237] (by decide +kernel) (by decide +kernel)
set_option maxRecDepth 20000 in
theorem gw_areQueues_3 : GoodIn wsL_law wsL_areQueues_r3 := goodIn_r _ [238, 239, 240, 206, 207, 208, 38, 37, 36, 241, 172, 173, 35, 174, 60, 242, 243, 244, 245, 301, 302, 303, 304, 305] (by decide +kernel) (by decide +kernel)
set_option maxRecDepth 20000 in
theorem gw_areQueues_4 : GoodIn wsL_law wsL_areQueues_r4 := goodIn_r _ [13, 98, 99, 100, 101, 27, 28, 39, 40, 41, 102, 103, 104, 105, 50, 106, 107, 48, 108, 51, 109, 110, 111, 112] (by decide +kernel) (by decide +kernel)
set_option maxRecDepth 20000 in
theorem gw_areQueues_5 : GoodIn wsL_law wsL_areQueues_r5 := goodIn_r _ [59, 219, 220, 221, 222, 223, 246, 247, 248, 249, 254, 255, 256, 257, 258, 259, 260, 261, 262, 147, 148, 149, 263, 264] (by decide +kernel) (by decide +kernel)
set_option maxRecDepth 20000 in
theorem gw_areQueues_6 : GoodIn wsL_law wsL_areQueues_r6 := goodIn_r _ [265, 266, 267, 251, 252, 253, 158, 159, 160, 161, 162, 306, 307, 308, 309, 250, 272, 310, 311, 312, 313, 314, 77, 315] (by decide +kernel) (by decide +kernel)
set_option maxRecDepth 20000 in
theorem gw_areQueues_7 : GoodIn wsL_law wsL_areQueues_r7 := goodIn_r _ [316, 167, 317, 15, 119, 120, 121, 122, 123, 124, 125, 277, 278, 279, 280, 318, 319, 320, 321, 322, 196, 155, 156, 157] (by decide +kernel) (by decide +kernel)
set_option maxRecDepth 20000 in
theorem gw_areQueues_8 : GoodIn wsL_law wsL_areQueues_r8 := goodIn_r _ [210, 211, 212, 213, 214, 323, 324, 325, 326, 205, 327, 328, 329, 330] (by decide +kernel) (by decide +kernel)
theorem ggL_law_L_areQueues : GoodIn wsL_law wsL_areQueues := (goodIn_ca (goodIn_ca (goodIn_ca (goodIn_ca (goodIn_ca gw_areQueues_1 (goodIn_app gw_areQueues_2 (goodIn_app gw_areQueues_3 (goodIn_app gw_areQueues_4 (goodIn_app gw_areQueues_5 (goodIn_app gw_areQueues_6 (goodIn_app gw_areQueues_7 gw_areQueues_8))))))) gw_wsX30) gw_wsX20) gw_wsX00) gw_wsX10)
set_option maxRecDepth 20000 in
theorem gL_law_L_areQueues : GoodIn wsL_law (va_wsS RL 90 yL_areQueues wsL_areQueues) := goodIn_app (goodIn_of _ (by decide +kernel)) ggL_law_L_areQueues
