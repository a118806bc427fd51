/-! part 7007: words of the law's own methods (printed rows) -/
set_option maxRecDepth 20000 in
theorem gw_isOrder_1 : GoodIn wsL_law (.code yL_isOrder cL_isOrder 13 (some .boolean) :: wsL_isOrder_r1) := goodIn_r _ [369, 292, 293, 294, 2, 295, 12, 130, 131, 141, 132, 78, 79, 80, 81, 82, 83, 84, 85, 86, 11, 87, 25, 88, 89] (by decide +kernel) (by decide +kernel)
set_option maxRecDepth 20000 in
theorem gw_isOrder_2 : GoodIn wsL_law wsL_isOrder_r2 := goodIn_r _ [296, 297, 298, 32, 299, 54, 52, 300, 224, 225, 226, 30, 227, 228, 229, 230, 231, 232, 233, 234, 235, 53, 236, 237] (by decide +kernel) (by decide +kernel)
set_option maxRecDepth 20000 in
theorem gw_isOrder_3 : GoodIn wsL_law wsL_isOrder_r3 := goodIn_r _ [238, 239, 240, 206, 207, 208, 38, 37, 36, 241, 172, 173, 35, 174, 60, 242, 243, 244, 245, 301, 302, 303, 304, 305] (by decide +kernel) (by decide +kernel)
set_option maxRecDepth 20000 in
theorem gw_isOrder_4 : GoodIn wsL_law wsL_isOrder_r4 := goodIn_r _ [13, 98, 99, 100, 101, 27, 28, 39, 40, 41, 102, 103, 104, 105, 50, 106, 107, 48, 108, 51, 109, 110, 111, 112] (by decide +kernel) (by decide +kernel)
set_option maxRecDepth 20000 in
theorem gw_isOrder_5 : GoodIn wsL_law wsL_isOrder_r5 := goodIn_r _ [59, 219, 220, 221, 222, 223, 246, 247, 248, 249, 254, 255, 256, 257, 258, 259, 260, 261, 262, 147, 148, 149, 263, 264] (by decide +kernel) (by decide +kernel)
set_option maxRecDepth 20000 in
theorem gw_isOrder_6 : GoodIn wsL_law wsL_isOrder_r6 := goodIn_r _ [265, 266, 267, 251, 252, 253, 158, 159, 160, 161, 162, 359, 360, 361, 362, 363, 364, 365, 366, 201, 202, 203, 204, 191] (by decide +kernel) (by decide +kernel)
set_option maxRecDepth 20000 in
theorem gw_isOrder_7 : GoodIn wsL_law wsL_isOrder_r7 := goodIn_r _ [168, 169, 170, 205, 171, 175, 176, 177, 178, 370, 371, 372, 373, 77, 374, 375, 376, 377, 214, 120, 121, 122, 123, 124] (by decide +kernel) (by decide +kernel)
set_option maxRecDepth 20000 in
theorem gw_isOrder_8 : GoodIn wsL_law wsL_isOrder_r8 := goodIn_r _ [125, 378, 379, 380, 381, 382, 383, 384, 385, 386, 387, 388, 389, 390, 119, 391, 392, 393, 394, 358, 395, 396, 397, 398] (by decide +kernel) (by decide +kernel)
set_option maxRecDepth 20000 in
theorem gw_isOrder_9 : GoodIn wsL_law wsL_isOrder_r9 := goodIn_r _ [399, 400, 401, 402, 403, 404, 20, 405, 406, 407, 408, 409, 410, 411, 412, 117, 118] (by decide +kernel) (by decide +kernel)
theorem ggL_law_L_isOrder : GoodIn wsL_law wsL_isOrder := (goodIn_ca (goodIn_ca (goodIn_ca (goodIn_ca (goodIn_ca gw_isOrder_1 (goodIn_app gw_isOrder_2 (goodIn_app gw_isOrder_3 (goodIn_app gw_isOrder_4 (goodIn_app gw_isOrder_5 (goodIn_app gw_isOrder_6 (goodIn_app gw_isOrder_7 (goodIn_app gw_isOrder_8 gw_isOrder_9)))))))) gw_wsX30) gw_wsX20) gw_wsX00) gw_wsX10)
set_option maxRecDepth 20000 in
theorem gL_law_L_isOrder : GoodIn wsL_law (va_wsS RL 101 yL_isOrder wsL_isOrder) := goodIn_app (goodIn_of _ (by decide +kernel)) ggL_law_L_isOrder
set_option maxRecDepth 20000 in
theorem gw_areAlike_1 : GoodIn wsL_law (.code yL_areAlike cL_areAlike 5 (some .boolean) :: wsL_areAlike_r1) := goodIn_r _ [415, 311, 312, 313, 2, 314, 12, 77, 315, 316, 167, 317, 131, 15, 81, 82, 83, 119, 120, 121, 122, 123, 124, 125, 277] (by decide +kernel) (by decide +kernel)
set_option maxRecDepth 20000 in
theorem gw_areAlike_2 : GoodIn wsL_law wsL_areAlike_r2 := goodIn_r _ [278, 279, 11, 280, 30, 227, 318, 319, 320, 321, 322, 297, 298, 32, 299, 54, 52, 196, 155, 156, 157, 38, 210, 211] (by decide +kernel) (by decide +kernel)
set_option maxRecDepth 20000 in
theorem gw_areAlike_3 : GoodIn wsL_law wsL_areAlike_r3 := goodIn_r _ [212, 35, 213, 59, 214, 323, 324, 325, 326, 223, 224, 225, 226, 79, 80, 228, 229, 230, 231, 232, 233, 234, 235, 53] (by decide +kernel) (by decide +kernel)
set_option maxRecDepth 20000 in
theorem gw_areAlike_4 : GoodIn wsL_law wsL_areAlike_r4 := goodIn_r _ [236, 237, 238, 239, 240, 206, 207, 208, 37, 36, 241, 172, 173, 174, 60, 88, 89, 242, 243, 244, 245, 219, 220, 221] (by decide +kernel) (by decide +kernel)
set_option maxRecDepth 20000 in
theorem gw_areAlike_5 : GoodIn wsL_law wsL_areAlike_r5 := goodIn_r _ [222, 246, 247, 248, 249, 28, 27, 205, 327, 328, 329, 330, 292, 293, 294, 295, 130, 141, 132, 78, 84, 85, 86, 87] (by decide +kernel) (by decide +kernel)
set_option maxRecDepth 20000 in
theorem gw_areAlike_6 : GoodIn wsL_law wsL_areAlike_r6 := goodIn_r _ [25, 296, 300, 301, 302, 303, 304, 305, 13, 98, 99, 100, 101, 39, 40, 41, 102, 103, 104, 105, 50, 106, 107, 48] (by decide +kernel) (by decide +kernel)
set_option maxRecDepth 20000 in
theorem gw_areAlike_7 : GoodIn wsL_law wsL_areAlike_r7 := goodIn_r _ [108, 51, 109, 110, 111, 112, 254, 255, 256, 257, 258, 259, 260, 261, 262, 147, 148, 149, 263, 264, 265, 266, 267, 251] (by decide +kernel) (by decide +kernel)
set_option maxRecDepth 20000 in
theorem gw_areAlike_8 : GoodIn wsL_law wsL_areAlike_r8 := goodIn_r _ [252, 253, 158, 159, 160, 161, 162, 416, 417, 418, 419, 250, 420, 421, 422, 423, 272, 310] (by decide +kernel) (by decide +kernel)
theorem ggL_law_L_areAlike : GoodIn wsL_law wsL_areAlike := (goodIn_ca (goodIn_ca (goodIn_ca (goodIn_ca (goodIn_ca gw_areAlike_1 (goodIn_app gw_areAlike_2 (goodIn_app gw_areAlike_3 (goodIn_app gw_areAlike_4 (goodIn_app gw_areAlike_5 (goodIn_app gw_areAlike_6 (goodIn_app gw_areAlike_7 gw_areAlike_8))))))) gw_wsX30) gw_wsX20) gw_wsX00) gw_wsX10)
set_option maxRecDepth 20000 in
theorem gL_law_L_areAlike : GoodIn wsL_law (va_wsS RL 105 yL_areAlike wsL_areAlike) := goodIn_app (goodIn_of _ (by decide +kernel)) ggL_law_L_areAlike
