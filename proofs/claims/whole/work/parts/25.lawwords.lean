set_option maxRecDepth 100000 in
theorem wsL_law_r1_in : GoodIn lw_tbl wsL_law_r1 := goodIn_r _ [43, 44, 36, 496, 497, 41, 45, 46, 47, 48, 49, 50, 51, 52, 37, 141, 142, 143, 144, 145, 163, 146, 164, 147] (by decide +kernel) (by decide +kernel)
set_option maxRecDepth 100000 in
theorem wsL_law_r2_in : GoodIn lw_tbl wsL_law_r2 := goodIn_r _ [53, 54, 55, 56, 100, 85, 102, 104, 57, 106, 59, 38, 86, 87, 40, 108, 110, 111, 113, 115, 117, 60, 61, 62] (by decide +kernel) (by decide +kernel)
set_option maxRecDepth 100000 in
theorem wsL_law_r3_in : GoodIn lw_tbl wsL_law_r3 := goodIn_r _ [63, 64, 65, 39, 66, 67, 68, 69, 70, 71, 88, 89, 90, 91, 92, 93, 498, 499, 500, 501, 502, 503, 505, 507] (by decide +kernel) (by decide +kernel)
set_option maxRecDepth 100000 in
theorem wsL_law_r4_in : GoodIn lw_tbl wsL_law_r4 := goodIn_r _ [508, 509, 510, 511, 165, 166, 167, 168, 101, 169, 170, 171, 172, 173, 174, 175, 176, 177, 178, 180, 181, 182, 184, 0] (by decide +kernel) (by decide +kernel)
set_option maxRecDepth 100000 in
theorem wsL_law_r5_in : GoodIn lw_tbl wsL_law_r5 := goodIn_r _ [185, 186, 188, 1, 189, 190, 191, 192, 193, 194, 195, 196, 197, 198, 199, 200, 201, 202, 203, 204, 205, 206, 207, 208] (by decide +kernel) (by decide +kernel)
set_option maxRecDepth 100000 in
theorem wsL_law_r6_in : GoodIn lw_tbl wsL_law_r6 := goodIn_r _ [211, 212, 213, 214, 42, 215, 216, 217, 218, 533, 534, 535, 536, 537, 538, 539, 540, 541, 542, 543, 545, 11, 546, 547] (by decide +kernel) (by decide +kernel)
set_option maxRecDepth 100000 in
theorem wsL_law_r7_in : GoodIn lw_tbl wsL_law_r7 := goodIn_r _ [549, 12, 550, 504, 551, 553, 13, 554, 219, 220, 221, 222, 107, 72, 105, 223, 224, 225, 226, 555, 556, 557, 558, 227] (by decide +kernel) (by decide +kernel)
set_option maxRecDepth 100000 in
theorem wsL_law_r8_in : GoodIn lw_tbl wsL_law_r8 := goodIn_r _ [228, 229, 230, 103, 559, 560, 561, 562, 231, 232, 233, 234, 235, 236, 237, 238, 239, 240, 241, 242, 243, 244, 245, 246] (by decide +kernel) (by decide +kernel)
set_option maxRecDepth 100000 in
theorem wsL_law_r9_in : GoodIn lw_tbl wsL_law_r9 := goodIn_r _ [247, 248, 249, 250, 251, 563, 564, 565, 566, 252, 253, 254, 255, 109, 256, 257, 258, 259, 260, 261, 262, 265, 266, 267] (by decide +kernel) (by decide +kernel)
set_option maxRecDepth 100000 in
theorem wsL_law_r10_in : GoodIn lw_tbl wsL_law_r10 := goodIn_r _ [268, 269, 270, 271, 272, 275, 277, 2, 278, 567, 568, 569, 570, 571, 573, 14, 574, 575, 576, 577, 279, 280, 281, 282] (by decide +kernel) (by decide +kernel)
set_option maxRecDepth 100000 in
theorem wsL_law_r11_in : GoodIn lw_tbl wsL_law_r11 := goodIn_r _ [112, 283, 284, 285, 286, 287, 578, 579, 580, 581, 582, 583, 584, 288, 289, 290, 291, 292, 294, 3, 295, 296, 297, 298] (by decide +kernel) (by decide +kernel)
set_option maxRecDepth 100000 in
theorem wsL_law_r12_in : GoodIn lw_tbl wsL_law_r12 := goodIn_r _ [299, 300, 301, 302, 303, 304, 305, 585, 586, 587, 588, 589, 591, 15, 592, 593, 594, 595, 306, 307, 308, 309, 310, 311] (by decide +kernel) (by decide +kernel)
set_option maxRecDepth 100000 in
theorem wsL_law_r13_in : GoodIn lw_tbl wsL_law_r13 := goodIn_r _ [312, 313, 314, 316, 4, 317, 318, 319, 320, 321, 322, 323, 325, 5, 326, 327, 596, 597, 598, 599, 600, 602, 16, 603] (by decide +kernel) (by decide +kernel)
set_option maxRecDepth 100000 in
theorem wsL_law_r14_in : GoodIn lw_tbl wsL_law_r14 := goodIn_r _ [328, 329, 330, 331, 332, 333, 334, 335, 336, 337, 338, 339, 73, 340, 341, 342, 343, 344, 345, 346, 347, 348, 349, 350] (by decide +kernel) (by decide +kernel)
set_option maxRecDepth 100000 in
theorem wsL_law_r15_in : GoodIn lw_tbl wsL_law_r15 := goodIn_r _ [351, 352, 353, 354, 355, 356, 357, 358, 360, 6, 361, 362, 363, 364, 365, 366, 367, 368, 369, 370, 371, 372, 373, 374] (by decide +kernel) (by decide +kernel)
set_option maxRecDepth 100000 in
theorem wsL_law_r16_in : GoodIn lw_tbl wsL_law_r16 := goodIn_r _ [375, 376, 377, 378, 379, 604, 605, 606, 607, 608, 610, 17, 611, 612, 614, 18, 615, 616, 618, 19, 619, 620, 622, 20] (by decide +kernel) (by decide +kernel)
set_option maxRecDepth 100000 in
theorem wsL_law_r17_in : GoodIn lw_tbl wsL_law_r17 := goodIn_r _ [623, 624, 626, 21, 627, 628, 630, 22, 631, 380, 381, 382, 383, 384, 632, 633, 634, 635, 385, 386, 387, 388, 636, 637] (by decide +kernel) (by decide +kernel)
set_option maxRecDepth 100000 in
theorem wsL_law_r18_in : GoodIn lw_tbl wsL_law_r18 := goodIn_r _ [638, 639, 389, 390, 391, 392, 114, 116, 118, 393, 394, 395, 396, 397, 398, 399, 400, 401, 402, 403, 404, 405, 406, 407] (by decide +kernel) (by decide +kernel)
set_option maxRecDepth 100000 in
theorem wsL_law_r19_in : GoodIn lw_tbl wsL_law_r19 := goodIn_r _ [408, 409, 410, 411, 412, 640, 641, 642, 643, 644, 646, 23, 647, 648, 650, 24, 651, 652, 654, 25, 655, 656, 658, 26] (by decide +kernel) (by decide +kernel)
set_option maxRecDepth 100000 in
theorem wsL_law_r20_in : GoodIn lw_tbl wsL_law_r20 := goodIn_r _ [659, 413, 414, 415, 416, 417, 418, 419, 420, 422, 7, 423, 660, 661, 662, 663, 664, 666, 27, 667, 424, 425, 426, 427] (by decide +kernel) (by decide +kernel)
set_option maxRecDepth 100000 in
theorem wsL_law_r21_in : GoodIn lw_tbl wsL_law_r21 := goodIn_r _ [428, 668, 669, 670, 671, 429, 430, 431, 432, 433, 434, 435, 436, 672, 673, 674, 675, 437, 438, 439, 440, 441, 443, 8] (by decide +kernel) (by decide +kernel)
set_option maxRecDepth 100000 in
theorem wsL_law_r22_in : GoodIn lw_tbl wsL_law_r22 := goodIn_r _ [444, 676, 677, 678, 679, 680, 682, 28, 683, 445, 446, 447, 448, 449, 450, 451, 452, 453, 454, 455, 456, 457, 458, 459] (by decide +kernel) (by decide +kernel)
set_option maxRecDepth 100000 in
theorem wsL_law_r23_in : GoodIn lw_tbl wsL_law_r23 := goodIn_r _ [460, 461, 462, 463, 464, 465, 466, 467, 468, 469, 470, 472, 9, 473, 474, 684, 685, 686, 687, 688, 690, 29, 691, 692] (by decide +kernel) (by decide +kernel)
set_option maxRecDepth 100000 in
theorem wsL_law_r24_in : GoodIn lw_tbl wsL_law_r24 := goodIn_r _ [694, 30, 695, 696, 698, 31, 699, 700, 702, 32, 703, 704, 706, 33, 707, 708, 710, 34, 711, 475, 476, 477, 478, 479] (by decide +kernel) (by decide +kernel)
set_option maxRecDepth 100000 in
theorem wsL_law_r25_in : GoodIn lw_tbl wsL_law_r25 := goodIn_r _ [480, 481, 482, 483, 484, 486, 10, 487, 712, 713, 714, 715, 716, 488, 489, 490, 491, 717, 718, 719, 720, 506, 721, 722] (by decide +kernel) (by decide +kernel)
set_option maxRecDepth 100000 in
theorem wsL_law_r26_in : GoodIn lw_tbl wsL_law_r26 := goodIn_r _ [723, 492, 493, 494, 495, 724, 725, 726, 727] (by decide +kernel) (by decide +kernel)
set_option maxRecDepth 100000 in
theorem wsX30_tbl : GoodIn lw_tbl wsX30 := goodIn_p _ [] (by decide +kernel) (by decide +kernel)
set_option maxRecDepth 100000 in
theorem wsX40_tbl : GoodIn lw_tbl wsX40 := goodIn_p _ [] (by decide +kernel) (by decide +kernel)
set_option maxRecDepth 100000 in
theorem wsX20_tbl : GoodIn lw_tbl wsX20 := goodIn_p _ [] (by decide +kernel) (by decide +kernel)
set_option maxRecDepth 100000 in
theorem wsX00_tbl : GoodIn lw_tbl wsX00 := goodIn_p _ [] (by decide +kernel) (by decide +kernel)
set_option maxRecDepth 100000 in
theorem wsX10_tbl : GoodIn lw_tbl wsX10 := goodIn_p _ [] (by decide +kernel) (by decide +kernel)
theorem wsL_law_good : GoodIn lw_tbl wsL_law := goodIn_app (goodIn_app (goodIn_app (goodIn_app (goodIn_app (goodIn_app (goodIn_app wsL_law_r1_in (goodIn_app wsL_law_r2_in (goodIn_app wsL_law_r3_in (goodIn_app wsL_law_r4_in (goodIn_app wsL_law_r5_in (goodIn_app wsL_law_r6_in (goodIn_app wsL_law_r7_in (goodIn_app wsL_law_r8_in (goodIn_app wsL_law_r9_in (goodIn_app wsL_law_r10_in (goodIn_app wsL_law_r11_in (goodIn_app wsL_law_r12_in (goodIn_app wsL_law_r13_in (goodIn_app wsL_law_r14_in (goodIn_app wsL_law_r15_in (goodIn_app wsL_law_r16_in (goodIn_app wsL_law_r17_in (goodIn_app wsL_law_r18_in (goodIn_app wsL_law_r19_in (goodIn_app wsL_law_r20_in (goodIn_app wsL_law_r21_in (goodIn_app wsL_law_r22_in (goodIn_app wsL_law_r23_in (goodIn_app wsL_law_r24_in (goodIn_app wsL_law_r25_in wsL_law_r26_in))))))))))))))))))))))))) wsX30_tbl) wsX40_tbl) wsX20_tbl) wsX00_tbl) wsX10_tbl) (fun _ h => absurd h List.not_mem_nil)
theorem wsL_law_in : ∀ w ∈ wsL_law, w ∈ lw_tbl := fun w h => (wsL_law_good w h).1
theorem inX0 : ∀ w ∈ wsX00, w ∈ lw_tbl := fun w h => (wsX00_tbl w h).1
theorem inX1 : ∀ w ∈ wsX10, w ∈ lw_tbl := fun w h => (wsX10_tbl w h).1
theorem inX2 : ∀ w ∈ wsX20, w ∈ lw_tbl := fun w h => (wsX20_tbl w h).1
theorem inX3 : ∀ w ∈ wsX30, w ∈ lw_tbl := fun w h => (wsX30_tbl w h).1
theorem inX4 : ∀ w ∈ wsX40, w ∈ lw_tbl := fun w h => (wsX40_tbl w h).1
set_option maxRecDepth 100000 in
theorem nw_RX1_18 : Cond.methodLinkNest RX1 18 yX3_isStream RX3 ∈ lw_tbl := List.mem_of_getElem? (i := 263) (by decide +kernel)
set_option maxRecDepth 100000 in
theorem nw_RX1_22 : Cond.methodLinkNest RX1 22 yX3_isIn RX3 ∈ lw_tbl := List.mem_of_getElem? (i := 264) (by decide +kernel)
set_option maxRecDepth 100000 in
theorem nw_RX1_26 : Cond.methodLinkNest RX1 26 yX3_areTwoStreams RX3 ∈ lw_tbl := List.mem_of_getElem? (i := 273) (by decide +kernel)
set_option maxRecDepth 100000 in
theorem nw_RX1_29 : Cond.methodLinkNest RX1 29 yX3_setOf RX3 ∈ lw_tbl := List.mem_of_getElem? (i := 274) (by decide +kernel)
set_option maxRecDepth 100000 in
theorem nw_RX2_62 : Cond.methodLinkNest RX2 62 yX3_isIn RX3 ∈ lw_tbl := List.mem_of_getElem? (i := 179) (by decide +kernel)
set_option maxRecDepth 100000 in
theorem nw_RX2_66 : Cond.methodLinkNest RX2 66 yX3_isStream RX3 ∈ lw_tbl := List.mem_of_getElem? (i := 209) (by decide +kernel)
set_option maxRecDepth 100000 in
theorem nw_RX2_70 : Cond.methodLinkNest RX2 70 yX3_setOf RX3 ∈ lw_tbl := List.mem_of_getElem? (i := 210) (by decide +kernel)
set_option maxRecDepth 100000 in
theorem ao_RX0 : Cond.arrayOver (.object RX0) ∈ lw_tbl := List.mem_of_getElem? (i := 58) (by decide +kernel)
set_option maxRecDepth 100000 in
theorem ao_RX1 : Cond.arrayOver (.object RX1) ∈ lw_tbl := List.mem_of_getElem? (i := 99) (by decide +kernel)
set_option maxRecDepth 100000 in
theorem ao_RX2 : Cond.arrayOver (.object RX2) ∈ lw_tbl := List.mem_of_getElem? (i := 140) (by decide +kernel)
set_option maxRecDepth 100000 in
theorem ac_int : Cond.arrayClass .int ∈ lw_tbl := List.mem_of_getElem? (i := 85) (by decide +kernel)
set_option maxRecDepth 100000 in
theorem ac_boolean : Cond.arrayClass .boolean ∈ lw_tbl := List.mem_of_getElem? (i := 163) (by decide +kernel)
set_option maxRecDepth 100000 in
theorem ac_long : Cond.arrayClass .long ∈ lw_tbl := List.mem_of_getElem? (i := 164) (by decide +kernel)
