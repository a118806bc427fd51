/-! part 7006: words of the law's own methods (printed rows) -/
set_option maxRecDepth 20000 in
theorem gw_isNext_1 : GoodIn wsL_law (.code yL_isNext cL_isNext 7 (some .boolean) :: wsL_isNext_r1) := goodIn_r _ [333, 311, 312, 313, 2, 314, 12, 77, 315, 316, 167, 317, 131, 15, 81, 82, 83, 119, 120, 121, 122, 123, 124, 125, 277] (by decide +kernel) (by decide +kernel)
set_option maxRecDepth 20000 in
theorem gw_isNext_2 : GoodIn wsL_law wsL_isNext_r2 := goodIn_r _ [278, 279, 11, 280, 30, 227, 318, 319, 320, 321, 322, 297, 298, 32, 299, 54, 52, 196, 155, 156, 157, 38, 210, 211] (by decide +kernel) (by decide +kernel)
set_option maxRecDepth 20000 in
theorem gw_isNext_3 : GoodIn wsL_law wsL_isNext_r3 := goodIn_r _ [212, 35, 213, 59, 214, 323, 324, 325, 326, 223, 224, 225, 226, 79, 80, 228, 229, 230, 231, 232, 233, 234, 235, 53] (by decide +kernel) (by decide +kernel)
set_option maxRecDepth 20000 in
theorem gw_isNext_4 : GoodIn wsL_law wsL_isNext_r4 := goodIn_r _ [236, 237, 238, 239, 240, 206, 207, 208, 37, 36, 241, 172, 173, 174, 60, 88, 89, 242, 243, 244, 245, 219, 220, 221] (by decide +kernel) (by decide +kernel)
set_option maxRecDepth 20000 in
theorem gw_isNext_5 : GoodIn wsL_law wsL_isNext_r5 := goodIn_r _ [222, 246, 247, 248, 249, 28, 27, 205, 327, 328, 329, 330, 292, 293, 294, 295, 130, 141, 132, 78, 84, 85, 86, 87] (by decide +kernel) (by decide +kernel)
set_option maxRecDepth 20000 in
theorem gw_isNext_6 : GoodIn wsL_law wsL_isNext_r6 := goodIn_r _ [25, 296, 300, 301, 302, 303, 304, 305, 13, 98, 99, 100, 101, 39, 40, 41, 102, 103, 104, 105, 50, 106, 107, 48] (by decide +kernel) (by decide +kernel)
set_option maxRecDepth 20000 in
theorem gw_isNext_7 : GoodIn wsL_law wsL_isNext_r7 := goodIn_r _ [108, 51, 109, 110, 111, 112, 254, 255, 256, 257, 258, 259, 260, 261, 262, 147, 148, 149, 263, 264, 265, 266, 267, 251] (by decide +kernel) (by decide +kernel)
set_option maxRecDepth 20000 in
theorem gw_isNext_8 : GoodIn wsL_law wsL_isNext_r8 := goodIn_r _ [252, 253, 158, 159, 160, 161, 162] (by decide +kernel) (by decide +kernel)
theorem ggL_law_L_isNext : GoodIn wsL_law wsL_isNext := (goodIn_ca (goodIn_ca (goodIn_ca (goodIn_ca (goodIn_ca gw_isNext_1 (goodIn_app gw_isNext_2 (goodIn_app gw_isNext_3 (goodIn_app gw_isNext_4 (goodIn_app gw_isNext_5 (goodIn_app gw_isNext_6 (goodIn_app gw_isNext_7 gw_isNext_8))))))) gw_wsX30) gw_wsX20) gw_wsX00) gw_wsX10)
set_option maxRecDepth 20000 in
theorem gL_law_L_isNext : GoodIn wsL_law (va_wsS RL 94 yL_isNext wsL_isNext) := goodIn_app (goodIn_of _ (by decide +kernel)) ggL_law_L_isNext
set_option maxRecDepth 20000 in
theorem gw_isWitness_1 : GoodIn wsL_law (.code yL_isWitness cL_isWitness 6 (some .boolean) :: wsL_isWitness_r1) := goodIn_r _ [336, 337, 338, 339, 2, 340, 12, 167, 168, 169, 170, 78, 79, 80, 341, 342, 343, 35, 344, 117, 118, 88, 89, 345, 346] (by decide +kernel) (by decide +kernel)
set_option maxRecDepth 20000 in
theorem gw_isWitness_2 : GoodIn wsL_law wsL_isWitness_r2 := goodIn_r _ [347, 348, 59, 349, 350, 351, 352, 353, 354, 355, 356, 357, 358, 176, 177, 178, 359, 360, 361, 362, 363, 364, 365, 366] (by decide +kernel) (by decide +kernel)
set_option maxRecDepth 20000 in
theorem gw_isWitness_3 : GoodIn wsL_law wsL_isWitness_r3 := goodIn_r _ [201, 202, 203, 204, 191, 205, 206, 207, 11, 208, 38, 37, 36, 171, 172, 173, 174, 60, 175, 163, 164, 165, 166, 81] (by decide +kernel) (by decide +kernel)
set_option maxRecDepth 20000 in
theorem gw_isWitness_4 : GoodIn wsL_law wsL_isWitness_r4 := goodIn_r _ [82, 83, 90, 91, 92, 93, 15, 14, 94, 95, 96, 97, 98, 99, 100, 101, 25, 27, 28, 30, 39, 40, 41, 102] (by decide +kernel) (by decide +kernel)
set_option maxRecDepth 20000 in
theorem gw_isWitness_5 : GoodIn wsL_law wsL_isWitness_r5 := goodIn_r _ [103, 104, 32, 105, 54, 50, 106, 107, 48, 108, 51, 52, 53, 109, 110, 111, 112, 179, 180, 181, 182, 183, 184, 185] (by decide +kernel) (by decide +kernel)
set_option maxRecDepth 20000 in
theorem gw_isWitness_6 : GoodIn wsL_law wsL_isWitness_r6 := goodIn_r _ [186] (by decide +kernel) (by decide +kernel)
theorem ggL_law_L_isWitness : GoodIn wsL_law wsL_isWitness := (goodIn_ca (goodIn_ca (goodIn_ca (goodIn_ca (goodIn_ca gw_isWitness_1 (goodIn_app gw_isWitness_2 (goodIn_app gw_isWitness_3 (goodIn_app gw_isWitness_4 (goodIn_app gw_isWitness_5 gw_isWitness_6))))) gw_wsX30) gw_wsX20) gw_wsX10) gw_wsX00)
set_option maxRecDepth 20000 in
theorem gL_law_L_isWitness : GoodIn wsL_law (va_wsS RL 97 yL_isWitness wsL_isWitness) := goodIn_app (goodIn_of _ (by decide +kernel)) ggL_law_L_isWitness
