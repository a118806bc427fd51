set_option maxRecDepth 100000 in
theorem wsL_law_r1_in : GoodIn lw_tbl wsL_law_r1 := goodIn_r _ [18, 19, 12, 20, 21, 22, 23, 24, 25, 26, 27, 13, 116, 117, 118, 119, 120, 138, 121, 139, 122, 28, 29, 30] (by decide +kernel) (by decide +kernel)
set_option maxRecDepth 100000 in
theorem wsL_law_r2_in : GoodIn lw_tbl wsL_law_r2 := goodIn_r _ [31, 75, 60, 77, 79, 32, 81, 34, 14, 61, 62, 16, 83, 85, 86, 88, 90, 92, 35, 36, 37, 38, 39, 40] (by decide +kernel) (by decide +kernel)
set_option maxRecDepth 100000 in
theorem wsL_law_r3_in : GoodIn lw_tbl wsL_law_r3 := goodIn_r _ [15, 41, 42, 43, 44, 45, 46, 63, 64, 65, 66, 67, 68, 226, 227, 11, 228, 229, 234, 235, 236, 230, 231, 232] (by decide +kernel) (by decide +kernel)
set_option maxRecDepth 100000 in
theorem wsL_law_r4_in : GoodIn lw_tbl wsL_law_r4 := goodIn_r _ [233, 237, 238, 239, 240, 76, 241, 183, 184, 144, 145, 146, 242, 243, 244, 245, 207, 208, 247, 249, 1, 250, 251, 253] (by decide +kernel) (by decide +kernel)
set_option maxRecDepth 100000 in
theorem wsL_law_r5_in : GoodIn lw_tbl wsL_law_r5 := goodIn_r _ [2, 254, 255, 256, 257, 258, 259, 260, 261, 262, 263, 264, 265, 266, 267, 268, 269, 270, 271, 272, 273, 275, 276, 147] (by decide +kernel) (by decide +kernel)
set_option maxRecDepth 100000 in
theorem wsL_law_r6_in : GoodIn lw_tbl wsL_law_r6 := goodIn_r _ [148, 17, 149, 150, 151, 152, 277, 278, 279, 280, 82, 47, 80, 281, 282, 283, 284, 285, 286, 287, 288, 78, 289, 290] (by decide +kernel) (by decide +kernel)
set_option maxRecDepth 100000 in
theorem wsL_law_r7_in : GoodIn lw_tbl wsL_law_r7 := goodIn_r _ [291, 292, 293, 294, 295, 296, 297, 298, 299, 300, 301, 166, 167, 168, 302, 303, 304, 305, 306, 307, 308, 309, 310, 84] (by decide +kernel) (by decide +kernel)
set_option maxRecDepth 100000 in
theorem wsL_law_r8_in : GoodIn lw_tbl wsL_law_r8 := goodIn_r _ [311, 312, 313, 314, 202, 203, 204, 315, 316, 317, 318, 319, 320, 321, 322, 325, 327, 3, 328, 329, 330, 331, 332, 87] (by decide +kernel) (by decide +kernel)
set_option maxRecDepth 100000 in
theorem wsL_law_r9_in : GoodIn lw_tbl wsL_law_r9 := goodIn_r _ [333, 334, 335, 336, 165, 337, 338, 339, 340, 341, 343, 4, 344, 221, 198, 199, 200, 345, 169, 170, 171, 172, 173, 346] (by decide +kernel) (by decide +kernel)
set_option maxRecDepth 100000 in
theorem wsL_law_r10_in : GoodIn lw_tbl wsL_law_r10 := goodIn_r _ [347, 348, 349, 213, 214, 215, 216, 178, 179, 180, 181, 48, 185, 186, 187, 188, 189, 190, 191, 192, 193, 194, 195, 196] (by decide +kernel) (by decide +kernel)
set_option maxRecDepth 100000 in
theorem wsL_law_r11_in : GoodIn lw_tbl wsL_law_r11 := goodIn_r _ [197, 201, 209, 210, 211, 212, 217, 219, 0, 220, 350, 351, 352, 353, 354, 355, 356, 357, 358, 359, 360, 361, 362, 363] (by decide +kernel) (by decide +kernel)
set_option maxRecDepth 100000 in
theorem wsL_law_r12_in : GoodIn lw_tbl wsL_law_r12 := goodIn_r _ [364, 365, 366, 367, 368, 369, 370, 371, 372, 373, 374, 375, 376, 153, 154, 155, 156, 377, 378, 379, 380, 381, 382, 383] (by decide +kernel) (by decide +kernel)
set_option maxRecDepth 100000 in
theorem wsL_law_r13_in : GoodIn lw_tbl wsL_law_r13 := goodIn_r _ [384, 385, 386, 387, 388, 389, 390, 391, 392, 162, 163, 164, 393, 394, 395, 397, 5, 398, 399, 400, 401, 402, 403, 140] (by decide +kernel) (by decide +kernel)
set_option maxRecDepth 100000 in
theorem wsL_law_r14_in : GoodIn lw_tbl wsL_law_r14 := goodIn_r _ [141, 142, 143, 89, 91, 93, 157, 158, 159, 160, 161, 174, 175, 176, 177, 222, 223, 224, 225, 404, 405, 406, 462, 463] (by decide +kernel) (by decide +kernel)
set_option maxRecDepth 100000 in
theorem wsL_law_r15_in : GoodIn lw_tbl wsL_law_r15 := goodIn_r _ [464, 465, 466, 467, 468, 469, 470, 471, 472, 473, 475, 9, 476, 477, 478, 479, 480, 481, 482, 484, 10, 485, 443, 410] (by decide +kernel) (by decide +kernel)
set_option maxRecDepth 100000 in
theorem wsL_law_r16_in : GoodIn lw_tbl wsL_law_r16 := goodIn_r _ [411, 412, 413, 414, 416, 6, 417, 407, 408, 409, 418, 419, 420, 421, 422, 423, 424, 425, 426, 427, 428, 429, 430, 431] (by decide +kernel) (by decide +kernel)
set_option maxRecDepth 100000 in
theorem wsL_law_r17_in : GoodIn lw_tbl wsL_law_r17 := goodIn_r _ [432, 433, 434, 435, 436, 437, 438, 439, 440, 441, 442, 444, 446, 7, 447, 448, 449, 450, 451, 452, 453, 454, 455, 456] (by decide +kernel) (by decide +kernel)
set_option maxRecDepth 100000 in
theorem wsL_law_r18_in : GoodIn lw_tbl wsL_law_r18 := goodIn_r _ [457, 458, 460, 8, 461, 486, 487, 488, 489, 490, 491, 492, 493, 494, 495, 496] (by decide +kernel) (by decide +kernel)
set_option maxRecDepth 100000 in
theorem wsX30_tbl : GoodIn lw_tbl wsX30 := goodIn_p _ [] (by decide +kernel) (by decide +kernel)
set_option maxRecDepth 100000 in
theorem wsX20_tbl : GoodIn lw_tbl wsX20 := goodIn_p _ [] (by decide +kernel) (by decide +kernel)
set_option maxRecDepth 100000 in
theorem wsX00_tbl : GoodIn lw_tbl wsX00 := goodIn_p _ [] (by decide +kernel) (by decide +kernel)
set_option maxRecDepth 100000 in
theorem wsX10_tbl : GoodIn lw_tbl wsX10 := goodIn_p _ [] (by decide +kernel) (by decide +kernel)
theorem wsL_law_good : GoodIn lw_tbl wsL_law := goodIn_app (goodIn_app (goodIn_app (goodIn_app (goodIn_app (goodIn_app wsL_law_r1_in (goodIn_app wsL_law_r2_in (goodIn_app wsL_law_r3_in (goodIn_app wsL_law_r4_in (goodIn_app wsL_law_r5_in (goodIn_app wsL_law_r6_in (goodIn_app wsL_law_r7_in (goodIn_app wsL_law_r8_in (goodIn_app wsL_law_r9_in (goodIn_app wsL_law_r10_in (goodIn_app wsL_law_r11_in (goodIn_app wsL_law_r12_in (goodIn_app wsL_law_r13_in (goodIn_app wsL_law_r14_in (goodIn_app wsL_law_r15_in (goodIn_app wsL_law_r16_in (goodIn_app wsL_law_r17_in wsL_law_r18_in))))))))))))))))) wsX30_tbl) wsX20_tbl) wsX00_tbl) wsX10_tbl) (fun _ h => absurd h List.not_mem_nil)
theorem wsL_law_in : ∀ w ∈ wsL_law, w ∈ lw_tbl := fun w h => (wsL_law_good w h).1
theorem inX0 : ∀ w ∈ wsX00, w ∈ lw_tbl := fun w h => (wsX00_tbl w h).1
theorem inX1 : ∀ w ∈ wsX10, w ∈ lw_tbl := fun w h => (wsX10_tbl w h).1
theorem inX2 : ∀ w ∈ wsX20, w ∈ lw_tbl := fun w h => (wsX20_tbl w h).1
theorem inX3 : ∀ w ∈ wsX30, w ∈ lw_tbl := fun w h => (wsX30_tbl w h).1
set_option maxRecDepth 100000 in
theorem nw_RX1_18 : Cond.methodLinkNest RX1 18 yX3_isStream RX3 ∈ lw_tbl := List.mem_of_getElem? (i := 205) (by decide +kernel)
set_option maxRecDepth 100000 in
theorem nw_RX1_22 : Cond.methodLinkNest RX1 22 yX3_isIn RX3 ∈ lw_tbl := List.mem_of_getElem? (i := 206) (by decide +kernel)
set_option maxRecDepth 100000 in
theorem nw_RX1_26 : Cond.methodLinkNest RX1 26 yX3_areTwoStreams RX3 ∈ lw_tbl := List.mem_of_getElem? (i := 323) (by decide +kernel)
set_option maxRecDepth 100000 in
theorem nw_RX1_29 : Cond.methodLinkNest RX1 29 yX3_setOf RX3 ∈ lw_tbl := List.mem_of_getElem? (i := 324) (by decide +kernel)
set_option maxRecDepth 100000 in
theorem nw_RX2_62 : Cond.methodLinkNest RX2 62 yX3_isIn RX3 ∈ lw_tbl := List.mem_of_getElem? (i := 246) (by decide +kernel)
set_option maxRecDepth 100000 in
theorem nw_RX2_66 : Cond.methodLinkNest RX2 66 yX3_isStream RX3 ∈ lw_tbl := List.mem_of_getElem? (i := 182) (by decide +kernel)
set_option maxRecDepth 100000 in
theorem nw_RX2_70 : Cond.methodLinkNest RX2 70 yX3_setOf RX3 ∈ lw_tbl := List.mem_of_getElem? (i := 274) (by decide +kernel)
set_option maxRecDepth 100000 in
theorem ao_RX0 : Cond.arrayOver (.object RX0) ∈ lw_tbl := List.mem_of_getElem? (i := 33) (by decide +kernel)
set_option maxRecDepth 100000 in
theorem ao_RX1 : Cond.arrayOver (.object RX1) ∈ lw_tbl := List.mem_of_getElem? (i := 74) (by decide +kernel)
set_option maxRecDepth 100000 in
theorem ao_RX2 : Cond.arrayOver (.object RX2) ∈ lw_tbl := List.mem_of_getElem? (i := 115) (by decide +kernel)
set_option maxRecDepth 100000 in
theorem ac_int : Cond.arrayClass .int ∈ lw_tbl := List.mem_of_getElem? (i := 60) (by decide +kernel)
set_option maxRecDepth 100000 in
theorem ac_boolean : Cond.arrayClass .boolean ∈ lw_tbl := List.mem_of_getElem? (i := 138) (by decide +kernel)
set_option maxRecDepth 100000 in
theorem ac_long : Cond.arrayClass .long ∈ lw_tbl := List.mem_of_getElem? (i := 139) (by decide +kernel)
