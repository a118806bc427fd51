/-! part 501: the law's calls: words (printed rows) -/
set_option maxRecDepth 20000 in
theorem ggL_law_X3_init : GoodIn wsL_law wsX3_init := goodIn_r _ [8, 9, 10, 11, 12, 13, 14, 15, 16, 17, 18, 19, 20, 21, 22, 23, 24, 25, 26, 27, 28, 29, 30, 31, 32, 33, 34, 35, 36, 37, 38, 39, 40, 41, 42, 43, 44, 45, 46, 47, 48, 49, 50, 51, 52, 53, 54, 55, 56, 57, 58, 59, 60, 61, 62, 63, 626, 627, 628, 629, 630, 631, 632, 633, 634, 635, 609, 610, 611, 612, 613, 614, 615, 636, 637, 638, 639, 640, 641, 642] (by decide +kernel) (by decide +kernel)
set_option maxRecDepth 20000 in
theorem gL_law_X3_init : GoodIn wsL_law (wsX3_init) := ggL_law_X3_init
set_option maxRecDepth 20000 in
theorem ggL_law_X4_init : GoodIn wsL_law wsX4_init := goodIn_r _ [66, 67, 10, 11, 29, 68, 69, 70, 71, 72, 73, 74, 22, 75, 616, 617, 618, 619, 620, 621, 622, 623, 624, 625] (by decide +kernel) (by decide +kernel)
set_option maxRecDepth 20000 in
theorem gL_law_X4_init : GoodIn wsL_law (wsX4_init) := ggL_law_X4_init
set_option maxRecDepth 20000 in
theorem ggL_law_X3_open : GoodIn wsL_law wsX3_open := goodIn_r _ [79, 15, 80, 81, 82, 2, 83, 84, 85, 86, 87, 88, 89, 14, 90, 28, 91, 92, 93, 94, 95, 96, 18, 17, 97, 98, 99, 100, 101, 102, 103, 104, 30, 31, 33, 39, 41, 40, 42, 43, 44, 105, 106, 107, 35, 108, 57, 53, 109, 110, 51, 111, 54, 55, 56, 112, 113, 114, 38, 115, 62, 63, 116, 117, 118, 119, 120, 121, 122, 123, 124, 125, 126, 127, 128, 609, 610, 611, 612, 613, 614, 615, 626, 627, 628, 629, 630, 631, 632, 633, 634, 635, 636, 637, 638, 639, 640, 641, 642] (by decide +kernel) (by decide +kernel)
set_option maxRecDepth 20000 in
theorem gL_law_X3_open : GoodIn wsL_law (wsV RL 13 RX3 yX3_open wsX3_open) := goodIn_app (goodIn_of _ (by decide +kernel)) ggL_law_X3_open
set_option maxRecDepth 20000 in
theorem ggL_law_X4_open : GoodIn wsL_law wsX4_open := goodIn_r _ [132, 68, 133, 134, 5, 135, 136, 137, 138, 139, 140, 141, 142, 143, 144, 145, 146, 147, 69, 148, 149, 150, 151, 616, 617, 618, 619, 620, 621, 622, 623, 624, 625] (by decide +kernel) (by decide +kernel)
set_option maxRecDepth 20000 in
theorem gL_law_X4_open : GoodIn wsL_law (wsV RL 17 RX4 yX4_open wsX4_open) := goodIn_app (goodIn_of _ (by decide +kernel)) ggL_law_X4_open
set_option maxRecDepth 20000 in
theorem ggL_law_X3_close : GoodIn wsL_law wsX3_close := goodIn_r _ [155, 15, 156, 157, 158, 81, 82, 2, 83, 87, 88, 89, 14, 90, 28, 91, 92, 93, 94, 95, 96, 18, 17, 97, 98, 99, 100, 101, 102, 103, 104, 30, 31, 33, 39, 41, 40, 42, 43, 44, 105, 106, 107, 35, 108, 57, 53, 109, 110, 51, 111, 54, 55, 56, 112, 113, 114, 38, 115, 62, 63, 159, 160, 161, 162, 120, 121, 609, 610, 611, 612, 613, 614, 615, 626, 627, 628, 629, 630, 631, 632, 633, 634, 635, 636, 637, 638, 639, 640, 641, 642] (by decide +kernel) (by decide +kernel)
set_option maxRecDepth 20000 in
theorem gL_law_X3_close : GoodIn wsL_law (wsV RL 18 RX3 yX3_close wsX3_close) := goodIn_app (goodIn_of _ (by decide +kernel)) ggL_law_X3_close
set_option maxRecDepth 20000 in
theorem ggL_law_X4_close : GoodIn wsL_law wsX4_close := goodIn_r _ [166, 68, 133, 134, 5, 135, 136, 137, 138, 139, 140, 141, 142, 143, 144, 145, 146, 147, 69, 616, 617, 618, 619, 620, 621, 622, 623, 624, 625] (by decide +kernel) (by decide +kernel)
set_option maxRecDepth 20000 in
theorem gL_law_X4_close : GoodIn wsL_law (wsV RL 22 RX4 yX4_close wsX4_close) := goodIn_app (goodIn_of _ (by decide +kernel)) ggL_law_X4_close
set_option maxRecDepth 20000 in
theorem ggL_law_X3_setWeight : GoodIn wsL_law wsX3_setWeight := goodIn_r _ [170, 15, 171, 81, 82, 2, 83, 84, 85, 86, 87, 88, 89, 14, 90, 28, 91, 92, 93, 94, 95, 96, 18, 17, 97, 98, 99, 100, 101, 102, 103, 104, 30, 31, 33, 39, 41, 40, 42, 43, 44, 105, 106, 107, 35, 108, 57, 53, 109, 110, 51, 111, 54, 55, 56, 112, 113, 114, 38, 115, 62, 63, 609, 610, 611, 612, 613, 614, 615, 626, 627, 628, 629, 630, 631, 632, 633, 634, 635, 636, 637, 638, 639, 640, 641, 642] (by decide +kernel) (by decide +kernel)
set_option maxRecDepth 20000 in
theorem gL_law_X3_setWeight : GoodIn wsL_law (wsV RL 23 RX3 yX3_setWeight wsX3_setWeight) := goodIn_app (goodIn_of _ (by decide +kernel)) ggL_law_X3_setWeight
set_option maxRecDepth 20000 in
theorem ggL_law_X4_setWeight : GoodIn wsL_law wsX4_setWeight := goodIn_r _ [175, 68, 133, 134, 5, 135, 136, 137, 138, 139, 140, 141, 142, 143, 144, 145, 146, 147, 69, 616, 617, 618, 619, 620, 621, 622, 623, 624, 625] (by decide +kernel) (by decide +kernel)
set_option maxRecDepth 20000 in
theorem gL_law_X4_setWeight : GoodIn wsL_law (wsV RL 26 RX4 yX4_setWeight wsX4_setWeight) := goodIn_app (goodIn_of _ (by decide +kernel)) ggL_law_X4_setWeight
set_option maxRecDepth 20000 in
theorem ggL_law_X3_push : GoodIn wsL_law wsX3_push := goodIn_r _ [179, 15, 156, 81, 82, 2, 83, 84, 85, 86, 87, 88, 89, 14, 90, 28, 91, 92, 180, 181, 182, 35, 183, 57, 53, 93, 94, 95, 96, 18, 17, 97, 98, 99, 100, 101, 102, 103, 104, 30, 31, 33, 39, 41, 40, 42, 43, 44, 105, 106, 107, 108, 109, 110, 51, 111, 54, 55, 56, 112, 113, 114, 38, 115, 62, 63, 184, 185, 186, 187, 188, 189, 190, 191, 192, 193, 194, 195, 196, 609, 610, 611, 612, 613, 614, 615, 626, 627, 628, 629, 630, 631, 632, 633, 634, 635, 636, 637, 638, 639, 640, 641, 642] (by decide +kernel) (by decide +kernel)
set_option maxRecDepth 20000 in
theorem gL_law_X3_push : GoodIn wsL_law (wsV RL 27 RX3 yX3_push wsX3_push) := goodIn_app (goodIn_of _ (by decide +kernel)) ggL_law_X3_push
set_option maxRecDepth 20000 in
theorem ggL_law_X4_push : GoodIn wsL_law wsX4_push := goodIn_r _ [200, 68, 133, 134, 5, 135, 136, 137, 138, 139, 140, 141, 142, 143, 144, 145, 146, 147, 69, 616, 617, 618, 619, 620, 621, 622, 623, 624, 625] (by decide +kernel) (by decide +kernel)
set_option maxRecDepth 20000 in
theorem gL_law_X4_push : GoodIn wsL_law (wsV RL 30 RX4 yX4_push wsX4_push) := goodIn_app (goodIn_of _ (by decide +kernel)) ggL_law_X4_push
set_option maxRecDepth 20000 in
theorem ggL_law_X3_edge : GoodIn wsL_law wsX3_edge := goodIn_r _ [204, 15, 205, 206, 207, 2, 208, 81, 82, 83, 84, 85, 86, 209, 210, 211, 38, 212, 63, 91, 92, 93, 94, 95, 96, 18, 17, 97, 98, 99, 100, 101, 102, 103, 14, 104, 28, 30, 31, 33, 39, 41, 40, 42, 43, 44, 105, 106, 107, 35, 108, 57, 53, 109, 110, 51, 111, 54, 55, 56, 112, 113, 114, 115, 62, 213, 214, 215, 216, 217, 218, 219, 220, 120, 121, 221, 222, 223, 224, 609, 610, 611, 612, 613, 614, 615, 626, 627, 628, 629, 630, 631, 632, 633, 634, 635, 641, 642, 636, 637, 638, 639, 640] (by decide +kernel) (by decide +kernel)
set_option maxRecDepth 20000 in
theorem gL_law_X3_edge : GoodIn wsL_law (wsV RL 31 RX3 yX3_edge wsX3_edge) := goodIn_app (goodIn_of _ (by decide +kernel)) ggL_law_X3_edge
set_option maxRecDepth 20000 in
theorem ggL_law_X4_edge : GoodIn wsL_law wsX4_edge := goodIn_r _ [228, 71, 68, 133, 134, 5, 135, 136, 137, 138, 229, 230, 231, 232, 233, 234, 235, 143, 144, 145, 146, 147, 69, 616, 617, 618, 619, 620, 621, 622, 623, 624, 625] (by decide +kernel) (by decide +kernel)
set_option maxRecDepth 20000 in
theorem gL_law_X4_edge : GoodIn wsL_law (wsV RL 35 RX4 yX4_edge wsX4_edge) := goodIn_app (goodIn_of _ (by decide +kernel)) ggL_law_X4_edge
set_option maxRecDepth 20000 in
theorem ggL_law_X3_commit : GoodIn wsL_law wsX3_commit := goodIn_r _ [239, 15, 240, 93, 94, 95, 2, 96, 18, 17, 97, 98, 99, 100, 101, 102, 103, 14, 104, 28, 30, 31, 33, 39, 41, 40, 42, 43, 44, 105, 106, 107, 35, 108, 57, 53, 109, 110, 51, 111, 54, 55, 56, 112, 113, 114, 38, 115, 62, 63, 241, 242, 243, 244, 245, 189, 190, 191, 609, 610, 611, 612, 613, 614, 615, 626, 627, 628, 629, 630, 631, 632, 633, 634, 635, 636, 637, 638, 639, 640, 641, 642] (by decide +kernel) (by decide +kernel)
set_option maxRecDepth 20000 in
theorem gL_law_X3_commit : GoodIn wsL_law (wsV RL 36 RX3 yX3_commit wsX3_commit) := goodIn_app (goodIn_of _ (by decide +kernel)) ggL_law_X3_commit
set_option maxRecDepth 20000 in
theorem ggL_law_X4_commit : GoodIn wsL_law wsX4_commit := goodIn_r _ [249, 68, 143, 144, 145, 5, 146, 147, 69, 250, 251, 252, 616, 617, 618, 619, 620, 621, 622, 623, 624, 625] (by decide +kernel) (by decide +kernel)
set_option maxRecDepth 20000 in
theorem gL_law_X4_commit : GoodIn wsL_law (wsV RL 40 RX4 yX4_commit wsX4_commit) := goodIn_app (goodIn_of _ (by decide +kernel)) ggL_law_X4_commit
set_option maxRecDepth 20000 in
theorem ggL_law_X3_revert : GoodIn wsL_law wsX3_revert := goodIn_r _ [256, 15, 205, 257, 258, 259, 2, 260, 240, 93, 94, 95, 96, 18, 17, 97, 98, 99, 100, 101, 102, 103, 14, 104, 28, 30, 31, 33, 39, 41, 40, 42, 43, 44, 105, 106, 107, 35, 108, 57, 53, 109, 110, 51, 111, 54, 55, 56, 112, 113, 114, 38, 115, 62, 63, 261, 262, 263, 264, 265, 266, 267, 268, 269, 270, 123, 124, 125, 126, 127, 128, 609, 610, 611, 612, 613, 614, 615, 626, 627, 628, 629, 630, 631, 632, 633, 634, 635, 636, 637, 638, 639, 640, 641, 642] (by decide +kernel) (by decide +kernel)
set_option maxRecDepth 20000 in
theorem gL_law_X3_revert : GoodIn wsL_law (wsV RL 41 RX3 yX3_revert wsX3_revert) := goodIn_app (goodIn_of _ (by decide +kernel)) ggL_law_X3_revert
set_option maxRecDepth 20000 in
theorem ggL_law_X4_revert : GoodIn wsL_law wsX4_revert := goodIn_r _ [274, 68, 136, 137, 5, 138, 143, 144, 145, 146, 147, 69, 250, 251, 252, 275, 276, 277, 278, 279, 280, 281, 616, 617, 618, 619, 620, 621, 622, 623, 624, 625] (by decide +kernel) (by decide +kernel)
set_option maxRecDepth 20000 in
theorem gL_law_X4_revert : GoodIn wsL_law (wsV RL 44 RX4 yX4_revert wsX4_revert) := goodIn_app (goodIn_of _ (by decide +kernel)) ggL_law_X4_revert
set_option maxRecDepth 20000 in
theorem ggL_law_X3_witness : GoodIn wsL_law wsX3_witness := goodIn_r _ [285, 15, 205, 206, 207, 2, 208, 81, 82, 83, 286, 287, 288, 38, 289, 120, 121, 91, 92, 290, 291, 292, 293, 62, 294, 295, 296, 297, 298, 299, 300, 301, 302, 303, 214, 215, 216, 609, 610, 611, 612, 613, 614, 615, 626, 627, 628, 629, 630, 631, 632, 633, 634, 635, 641, 642] (by decide +kernel) (by decide +kernel)
set_option maxRecDepth 20000 in
theorem gL_law_X3_witness : GoodIn wsL_law (wsV RL 45 RX3 yX3_witness wsX3_witness) := goodIn_app (goodIn_of _ (by decide +kernel)) ggL_law_X3_witness
set_option maxRecDepth 20000 in
theorem ggL_law_X4_witness : GoodIn wsL_law wsX4_witness := goodIn_r _ [307, 73, 68, 133, 134, 5, 135, 136, 137, 138, 308, 309, 310, 311, 233, 234, 235, 616, 617, 618, 619, 620, 621, 622, 623, 624, 625] (by decide +kernel) (by decide +kernel)
set_option maxRecDepth 20000 in
theorem gL_law_X4_witness : GoodIn wsL_law (wsV RL 48 RX4 yX4_witness wsX4_witness) := goodIn_app (goodIn_of _ (by decide +kernel)) ggL_law_X4_witness
set_option maxRecDepth 20000 in
theorem ggL_law_X3_send : GoodIn wsL_law wsX3_send := goodIn_r _ [315, 15, 156, 316, 317, 318, 14, 319, 320, 321, 322, 323, 33, 324, 82, 2, 83, 325, 326, 327, 328, 329, 330, 331, 35, 332, 56, 333, 334, 335, 336, 57, 337, 262, 263, 264, 41, 40, 39, 338, 210, 211, 38, 212, 63, 91, 92, 339, 340, 341, 342, 343, 344, 345, 346, 31, 30, 93, 94, 95, 96, 18, 17, 97, 98, 99, 100, 101, 102, 103, 104, 28, 42, 43, 44, 105, 106, 107, 108, 53, 109, 110, 51, 111, 54, 55, 112, 113, 114, 115, 62, 347, 348, 349, 350, 351, 352, 353, 354, 355, 356, 357, 358, 359, 181, 182, 183, 360, 361, 362, 363, 364, 192, 193, 194, 195, 196, 609, 610, 611, 612, 613, 614, 615, 626, 627, 628, 629, 630, 631, 632, 633, 634, 635, 636, 637, 638, 639, 640, 641, 642] (by decide +kernel) (by decide +kernel)
set_option maxRecDepth 20000 in
theorem gL_law_X3_send : GoodIn wsL_law (wsV RL 49 RX3 yX3_send wsX3_send) := goodIn_app (goodIn_of _ (by decide +kernel)) ggL_law_X3_send
set_option maxRecDepth 20000 in
theorem ggL_law_X4_send : GoodIn wsL_law wsX4_send := goodIn_r _ [368, 369, 370, 371, 5, 372, 68, 143, 144, 145, 146, 147, 69, 373, 374, 375, 376, 377, 378, 379, 380, 381, 382, 383, 384, 385, 386, 387, 388, 71, 389, 390, 391, 392, 250, 251, 252, 229, 230, 231, 232, 233, 234, 235, 616, 617, 618, 619, 620, 621, 622, 623, 624, 625] (by decide +kernel) (by decide +kernel)
set_option maxRecDepth 20000 in
theorem gL_law_X4_send : GoodIn wsL_law (wsV RL 52 RX4 yX4_send wsX4_send) := goodIn_app (goodIn_of _ (by decide +kernel)) ggL_law_X4_send
set_option maxRecDepth 20000 in
theorem ggL_law_X3_sendSome : GoodIn wsL_law wsX3_sendSome := goodIn_r _ [396, 15, 156, 84, 85, 2, 86, 93, 94, 95, 96, 18, 17, 97, 98, 99, 100, 101, 102, 103, 14, 104, 28, 30, 31, 33, 39, 41, 40, 42, 43, 44, 105, 106, 107, 35, 108, 57, 53, 109, 110, 51, 111, 54, 55, 56, 112, 113, 114, 38, 115, 62, 63, 316, 317, 318, 319, 320, 321, 322, 323, 324, 82, 83, 325, 326, 327, 328, 329, 330, 331, 332, 333, 334, 335, 336, 337, 262, 263, 264, 338, 210, 211, 212, 91, 92, 339, 340, 341, 342, 343, 344, 345, 346, 397, 356, 357, 358, 351, 352, 353, 354, 355, 359, 181, 182, 183, 360, 361, 362, 363, 364, 348, 349, 350, 192, 193, 194, 195, 196, 609, 610, 611, 612, 613, 614, 615, 626, 627, 628, 629, 630, 631, 632, 633, 634, 635, 636, 637, 638, 639, 640, 641, 642] (by decide +kernel) (by decide +kernel)
set_option maxRecDepth 20000 in
theorem gL_law_X3_sendSome : GoodIn wsL_law (wsV RL 53 RX3 yX3_sendSome wsX3_sendSome) := goodIn_app (goodIn_of _ (by decide +kernel)) ggL_law_X3_sendSome
set_option maxRecDepth 20000 in
theorem ggL_law_X4_sendSome : GoodIn wsL_law wsX4_sendSome := goodIn_r _ [401, 136, 137, 5, 138, 143, 144, 145, 146, 147, 69, 68, 377, 378, 379, 380, 381, 382, 383, 384, 385, 386, 387, 388, 71, 389, 390, 391, 392, 250, 251, 252, 229, 230, 231, 232, 233, 234, 235, 373, 374, 375, 376, 616, 617, 618, 619, 620, 621, 622, 623, 624, 625] (by decide +kernel) (by decide +kernel)
set_option maxRecDepth 20000 in
theorem gL_law_X4_sendSome : GoodIn wsL_law (wsV RL 56 RX4 yX4_sendSome wsX4_sendSome) := goodIn_app (goodIn_of _ (by decide +kernel)) ggL_law_X4_sendSome
set_option maxRecDepth 20000 in
theorem ggL_law_X3_undo : GoodIn wsL_law wsX3_undo := goodIn_r _ [405, 18, 15, 17, 609, 610, 611, 612, 613, 614, 615] (by decide +kernel) (by decide +kernel)
set_option maxRecDepth 20000 in
theorem gL_law_X3_undo : GoodIn wsL_law (wsV RL 57 RX3 yX3_undo wsX3_undo) := goodIn_app (goodIn_of _ (by decide +kernel)) ggL_law_X3_undo
set_option maxRecDepth 20000 in
theorem ggL_law_X4_undo : GoodIn wsL_law wsX4_undo := goodIn_r _ [409, 147, 68, 69, 616, 617, 618, 619, 620, 621, 622, 623, 624, 625] (by decide +kernel) (by decide +kernel)
set_option maxRecDepth 20000 in
theorem gL_law_X4_undo : GoodIn wsL_law (wsV RL 60 RX4 yX4_undo wsX4_undo) := goodIn_app (goodIn_of _ (by decide +kernel)) ggL_law_X4_undo
set_option maxRecDepth 20000 in
theorem ggL_law_X3_told : GoodIn wsL_law wsX3_told := goodIn_r _ [413, 15, 80, 414, 415, 205, 416, 157, 18, 84, 85, 2, 86, 122, 123, 124, 125, 126, 127, 128, 417, 418, 419, 14, 420, 33, 324, 421, 422, 423, 424, 425, 426, 427, 35, 428, 57, 55, 245, 189, 190, 191, 41, 266, 267, 268, 38, 269, 62, 270, 429, 430, 431, 432, 320, 321, 322, 323, 82, 83, 325, 326, 327, 328, 329, 330, 331, 332, 56, 333, 334, 335, 336, 337, 262, 263, 264, 40, 39, 338, 210, 211, 212, 63, 91, 92, 339, 340, 341, 342, 316, 317, 318, 319, 343, 344, 345, 346, 31, 30, 261, 433, 434, 435, 436, 609, 610, 611, 612, 613, 614, 615, 626, 627, 628, 629, 630, 631, 632, 633, 634, 635, 636, 637, 638, 639, 640, 641, 642] (by decide +kernel) (by decide +kernel)
set_option maxRecDepth 20000 in
theorem gL_law_X3_told : GoodIn wsL_law (wsV RL 61 RX3 yX3_told wsX3_told) := goodIn_app (goodIn_of _ (by decide +kernel)) ggL_law_X3_told
set_option maxRecDepth 20000 in
theorem ggL_law_X4_told : GoodIn wsL_law wsX4_told := goodIn_r _ [440, 68, 147, 148, 149, 150, 5, 151, 369, 370, 371, 372, 441, 442, 443, 444, 445, 446, 447, 448, 389, 390, 391, 392, 275, 276, 277, 278, 279, 280, 281, 449, 450, 451, 452, 381, 382, 383, 384, 385, 386, 387, 388, 71, 250, 251, 252, 229, 230, 231, 232, 233, 234, 235, 377, 378, 379, 380, 453, 454, 455, 456, 616, 617, 618, 619, 620, 621, 622, 623, 624, 625] (by decide +kernel) (by decide +kernel)
set_option maxRecDepth 20000 in
theorem gL_law_X4_told : GoodIn wsL_law (wsV RL 64 RX4 yX4_told wsX4_told) := goodIn_app (goodIn_of _ (by decide +kernel)) ggL_law_X4_told
set_option maxRecDepth 20000 in
theorem ggL_law_X3_stream : GoodIn wsL_law wsX3_stream := goodIn_r _ [460, 15, 156, 157, 171, 158, 81, 82, 2, 83, 84, 85, 86, 87, 88, 89, 14, 90, 28, 91, 92, 461, 426, 427, 35, 428, 57, 55, 462, 321, 322, 323, 33, 324, 325, 326, 327, 328, 329, 330, 331, 332, 56, 333, 334, 335, 336, 337, 262, 263, 264, 41, 40, 39, 338, 210, 211, 38, 212, 63, 339, 340, 341, 342, 463, 464, 465, 466, 467, 16, 101, 102, 103, 104, 30, 31, 42, 43, 44, 105, 106, 107, 108, 53, 109, 110, 51, 111, 54, 112, 113, 114, 115, 62, 316, 317, 318, 319, 320, 343, 344, 345, 346, 351, 352, 353, 354, 355, 356, 357, 358, 359, 181, 182, 183, 360, 361, 362, 363, 364, 348, 349, 350, 192, 193, 194, 195, 196, 609, 610, 611, 612, 613, 614, 615, 626, 627, 628, 629, 630, 631, 632, 633, 634, 635, 636, 637, 638, 639, 640, 641, 642] (by decide +kernel) (by decide +kernel)
set_option maxRecDepth 20000 in
theorem gL_law_X3_stream : GoodIn wsL_law (wsV RL 65 RX3 yX3_stream wsX3_stream) := goodIn_app (goodIn_of _ (by decide +kernel)) ggL_law_X3_stream
set_option maxRecDepth 20000 in
theorem ggL_law_X4_stream : GoodIn wsL_law wsX4_stream := goodIn_r _ [471, 68, 133, 134, 5, 135, 136, 137, 138, 445, 446, 447, 448, 389, 390, 391, 392, 381, 382, 383, 384, 385, 386, 387, 388, 71, 250, 251, 252, 229, 230, 231, 232, 233, 234, 235, 472, 473, 474, 475, 72, 373, 374, 375, 376, 377, 378, 379, 380, 616, 617, 618, 619, 620, 621, 622, 623, 624, 625] (by decide +kernel) (by decide +kernel)
set_option maxRecDepth 20000 in
theorem gL_law_X4_stream : GoodIn wsL_law (wsV RL 68 RX4 yX4_stream wsX4_stream) := goodIn_app (goodIn_of _ (by decide +kernel)) ggL_law_X4_stream
set_option maxRecDepth 20000 in
theorem ggL_law_X3_frame : GoodIn wsL_law wsX3_frame := goodIn_r _ [479, 15, 156, 157, 81, 82, 2, 83, 84, 85, 86, 347, 348, 349, 35, 350, 53, 333, 334, 335, 336, 57, 397, 356, 357, 358, 55, 480, 330, 331, 332, 56, 464, 465, 466, 467, 16, 101, 102, 103, 14, 104, 28, 30, 31, 33, 39, 41, 40, 42, 43, 44, 105, 106, 107, 108, 109, 110, 51, 111, 54, 112, 113, 114, 38, 115, 62, 63, 316, 317, 318, 319, 320, 321, 322, 323, 324, 325, 326, 327, 328, 329, 337, 262, 263, 264, 338, 210, 211, 212, 91, 92, 339, 340, 341, 342, 343, 344, 345, 346, 351, 352, 353, 354, 355, 359, 181, 182, 183, 360, 361, 362, 363, 364, 192, 193, 194, 195, 196, 609, 610, 611, 612, 613, 614, 615, 626, 627, 628, 629, 630, 631, 632, 633, 634, 635, 636, 637, 638, 639, 640, 641, 642] (by decide +kernel) (by decide +kernel)
set_option maxRecDepth 20000 in
theorem gL_law_X3_frame : GoodIn wsL_law (wsV RL 69 RX3 yX3_frame wsX3_frame) := goodIn_app (goodIn_of _ (by decide +kernel)) ggL_law_X3_frame
set_option maxRecDepth 20000 in
theorem ggL_law_X4_frame : GoodIn wsL_law wsX4_frame := goodIn_r _ [484, 68, 133, 134, 5, 135, 136, 137, 138, 389, 390, 391, 392, 472, 473, 474, 475, 72, 373, 374, 375, 376, 377, 378, 379, 380, 381, 382, 383, 384, 385, 386, 387, 388, 71, 250, 251, 252, 229, 230, 231, 232, 233, 234, 235, 616, 617, 618, 619, 620, 621, 622, 623, 624, 625] (by decide +kernel) (by decide +kernel)
set_option maxRecDepth 20000 in
theorem gL_law_X4_frame : GoodIn wsL_law (wsV RL 72 RX4 yX4_frame wsX4_frame) := goodIn_app (goodIn_of _ (by decide +kernel)) ggL_law_X4_frame
set_option maxRecDepth 20000 in
theorem ggL_law_X3_log : GoodIn wsL_law wsX3_log := goodIn_r _ [488, 15, 416, 157, 84, 85, 2, 86, 347, 348, 349, 35, 350, 53, 333, 334, 335, 336, 57, 489, 490, 491, 492, 54, 397, 356, 357, 358, 55, 480, 330, 331, 332, 56, 609, 610, 611, 612, 613, 614, 615, 626, 627, 628, 629, 630, 631, 632, 633, 634, 635, 636, 637, 638, 639, 640] (by decide +kernel) (by decide +kernel)
set_option maxRecDepth 20000 in
theorem gL_law_X3_log : GoodIn wsL_law (wsV RL 73 RX3 yX3_log wsX3_log) := goodIn_app (goodIn_of _ (by decide +kernel)) ggL_law_X3_log
set_option maxRecDepth 20000 in
theorem ggL_law_X4_log : GoodIn wsL_law wsX4_log := goodIn_r _ [496, 68, 136, 137, 5, 138, 616, 617, 618, 619, 620, 621, 622, 623, 624, 625] (by decide +kernel) (by decide +kernel)
set_option maxRecDepth 20000 in
theorem gL_law_X4_log : GoodIn wsL_law (wsV RL 76 RX4 yX4_log wsX4_log) := goodIn_app (goodIn_of _ (by decide +kernel)) ggL_law_X4_log
set_option maxRecDepth 20000 in
theorem ggL_law_X3_relation : GoodIn wsL_law wsX3_relation := goodIn_r _ [500, 15, 501, 502, 503, 2, 504, 257, 258, 259, 260, 240, 206, 207, 208, 81, 82, 83, 261, 262, 263, 14, 264, 41, 40, 39, 209, 210, 211, 38, 212, 63, 91, 92, 213, 214, 215, 216, 62, 609, 610, 611, 612, 613, 614, 615, 626, 627, 628, 629, 630, 631, 632, 633, 634, 635, 641, 642] (by decide +kernel) (by decide +kernel)
set_option maxRecDepth 20000 in
theorem gL_law_X3_relation : GoodIn wsL_law (wsV RL 77 RX3 yX3_relation wsX3_relation) := goodIn_app (goodIn_of _ (by decide +kernel)) ggL_law_X3_relation
set_option maxRecDepth 20000 in
theorem ggL_law_X4_relation : GoodIn wsL_law wsX4_relation := goodIn_r _ [508, 71, 68, 509, 510, 511, 5, 512, 136, 137, 138, 133, 134, 135, 250, 251, 252, 229, 230, 231, 232, 233, 234, 235, 616, 617, 618, 619, 620, 621, 622, 623, 624, 625] (by decide +kernel) (by decide +kernel)
set_option maxRecDepth 20000 in
theorem gL_law_X4_relation : GoodIn wsL_law (wsV RL 80 RX4 yX4_relation wsX4_relation) := goodIn_app (goodIn_of _ (by decide +kernel)) ggL_law_X4_relation
set_option maxRecDepth 20000 in
theorem ggL_law_X3_order : GoodIn wsL_law wsX3_order := goodIn_r _ [516, 15, 80, 501, 502, 503, 2, 504, 257, 258, 259, 260, 240, 84, 85, 86, 261, 262, 263, 14, 264, 41, 40, 39, 517, 518, 519, 38, 520, 63, 91, 92, 270, 123, 124, 125, 126, 127, 128, 521, 522, 523, 524, 525, 526, 527, 528, 529, 530, 531, 532, 533, 122, 534, 535, 536, 537, 303, 214, 215, 216, 62, 82, 83, 538, 539, 540, 541, 542, 210, 211, 212, 609, 610, 611, 612, 613, 614, 615, 626, 627, 628, 629, 630, 631, 632, 633, 634, 635, 641, 642] (by decide +kernel) (by decide +kernel)
set_option maxRecDepth 20000 in
theorem gL_law_X3_order : GoodIn wsL_law (wsV RL 81 RX3 yX3_order wsX3_order) := goodIn_app (goodIn_of _ (by decide +kernel)) ggL_law_X3_order
set_option maxRecDepth 20000 in
theorem ggL_law_X4_order : GoodIn wsL_law wsX4_order := goodIn_r _ [546, 509, 510, 511, 5, 512, 68, 136, 137, 138, 250, 251, 252, 229, 230, 231, 232, 71, 233, 234, 235, 547, 548, 549, 550, 551, 552, 553, 554, 279, 280, 281, 555, 556, 557, 558, 74, 559, 560, 561, 562, 563, 564, 565, 566, 567, 568, 569, 570, 616, 617, 618, 619, 620, 621, 622, 623, 624, 625] (by decide +kernel) (by decide +kernel)
set_option maxRecDepth 20000 in
theorem gL_law_X4_order : GoodIn wsL_law (wsV RL 84 RX4 yX4_order wsX4_order) := goodIn_app (goodIn_of _ (by decide +kernel)) ggL_law_X4_order
set_option maxRecDepth 20000 in
theorem ggL_law_X3_lists : GoodIn wsL_law wsX3_lists := goodIn_r _ [574, 575, 15, 80, 23, 501, 502, 503, 2, 504, 257, 258, 259, 260, 240, 261, 262, 263, 14, 264, 41, 40, 39, 576, 577, 578, 38, 579, 580, 581, 582, 583, 63, 91, 92, 120, 121, 609, 610, 611, 612, 613, 614, 615, 626, 627, 628, 629, 630, 631, 632, 633, 634, 635, 641, 642] (by decide +kernel) (by decide +kernel)
set_option maxRecDepth 20000 in
theorem gL_law_X3_lists : GoodIn wsL_law (wsV RL 85 RX3 yX3_lists wsX3_lists) := goodIn_app (goodIn_of _ (by decide +kernel)) ggL_law_X3_lists
set_option maxRecDepth 20000 in
theorem ggL_law_X4_lists : GoodIn wsL_law wsX4_lists := goodIn_r _ [587, 588, 75, 71, 509, 510, 511, 5, 512, 68, 136, 137, 138, 250, 251, 252, 229, 230, 231, 232, 233, 234, 235, 547, 548, 549, 550, 616, 617, 618, 619, 620, 621, 622, 623, 624, 625] (by decide +kernel) (by decide +kernel)
set_option maxRecDepth 20000 in
theorem gL_law_X4_lists : GoodIn wsL_law (wsV RL 89 RX4 yX4_lists wsX4_lists) := goodIn_app (goodIn_of _ (by decide +kernel)) ggL_law_X4_lists
set_option maxRecDepth 20000 in
theorem ggL_law_X3_keep : GoodIn wsL_law wsX3_keep := goodIn_r _ [592, 19, 15, 21, 84, 85, 2, 86, 101, 102, 103, 14, 104, 28, 30, 31, 33, 39, 41, 40, 42, 43, 44, 105, 106, 107, 35, 108, 57, 53, 109, 110, 51, 111, 54, 55, 56, 112, 113, 114, 38, 115, 62, 63, 417, 418, 419, 420, 324, 609, 610, 611, 612, 613, 614, 615, 626, 627, 628, 629, 630, 631, 632, 633, 634, 635, 636, 637, 638, 639, 640, 641, 642] (by decide +kernel) (by decide +kernel)
set_option maxRecDepth 20000 in
theorem gL_law_X3_keep : GoodIn wsL_law (wsV RL 90 RX3 yX3_keep wsX3_keep) := goodIn_app (goodIn_of _ (by decide +kernel)) ggL_law_X3_keep
set_option maxRecDepth 20000 in
theorem ggL_law_X4_keep : GoodIn wsL_law wsX4_keep := goodIn_r _ [596, 70, 68, 597, 598, 599, 5, 600, 136, 137, 138, 369, 370, 371, 372, 616, 617, 618, 619, 620, 621, 622, 623, 624, 625] (by decide +kernel) (by decide +kernel)
set_option maxRecDepth 20000 in
theorem gL_law_X4_keep : GoodIn wsL_law (wsV RL 93 RX4 yX4_keep wsX4_keep) := goodIn_app (goodIn_of _ (by decide +kernel)) ggL_law_X4_keep
set_option maxRecDepth 20000 in
theorem ggL_law_X3_back : GoodIn wsL_law wsX3_back := goodIn_r _ [604, 21, 15, 19, 84, 85, 2, 86, 93, 94, 95, 96, 18, 17, 97, 98, 99, 100, 101, 102, 103, 14, 104, 28, 30, 31, 33, 39, 41, 40, 42, 43, 44, 105, 106, 107, 35, 108, 57, 53, 109, 110, 51, 111, 54, 55, 56, 112, 113, 114, 38, 115, 62, 63, 417, 418, 419, 420, 324, 609, 610, 611, 612, 613, 614, 615, 626, 627, 628, 629, 630, 631, 632, 633, 634, 635, 636, 637, 638, 639, 640, 641, 642] (by decide +kernel) (by decide +kernel)
set_option maxRecDepth 20000 in
theorem gL_law_X3_back : GoodIn wsL_law (wsV RL 94 RX3 yX3_back wsX3_back) := goodIn_app (goodIn_of _ (by decide +kernel)) ggL_law_X3_back
set_option maxRecDepth 20000 in
theorem ggL_law_X4_back : GoodIn wsL_law wsX4_back := goodIn_r _ [608, 597, 68, 70, 598, 599, 5, 600, 136, 137, 138, 233, 234, 235, 143, 144, 145, 146, 147, 69, 369, 370, 371, 372, 616, 617, 618, 619, 620, 621, 622, 623, 624, 625] (by decide +kernel) (by decide +kernel)
set_option maxRecDepth 20000 in
theorem gL_law_X4_back : GoodIn wsL_law (wsV RL 97 RX4 yX4_back wsX4_back) := goodIn_app (goodIn_of _ (by decide +kernel)) ggL_law_X4_back
