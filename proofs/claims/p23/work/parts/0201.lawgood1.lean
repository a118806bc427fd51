/-! part 7001: words of the law's own methods (printed rows) -/
set_option maxRecDepth 20000 in
theorem ggL_change_L_low : GoodIn wsL_change wsL_low := goodIn_r _ [4, 5] (by decide +kernel) (by decide +kernel)
set_option maxRecDepth 20000 in
theorem gL_change_L_low : GoodIn wsL_change (va_wsS RL 9 yL_low wsL_low) := goodIn_app (goodIn_of _ (by decide +kernel)) ggL_change_L_low
set_option maxRecDepth 20000 in
theorem ggL_change_X3_open : GoodIn wsL_change wsX3_open := goodIn_r _ [10, 11, 12, 13, 14, 9, 15, 16, 17, 18, 19, 20, 21, 22, 23, 24, 25, 26, 27, 28, 29, 30, 31, 32, 33, 34, 35, 36, 37, 38, 39, 40, 41, 42, 43, 44, 45, 46, 47, 48, 49, 50, 51, 52, 53, 54, 55, 56, 57, 58, 59, 60, 61, 62, 63, 64, 65, 66, 67, 68, 69, 70, 71, 72, 73, 74, 75, 76, 77, 78, 79, 80, 81, 82, 83, 249, 250, 251, 252, 253, 254, 255, 256, 257, 258, 259, 260, 261, 262, 263, 264, 265, 266, 267, 268, 269, 270, 271, 272] (by decide +kernel) (by decide +kernel)
set_option maxRecDepth 20000 in
theorem gL_change_X3_open : GoodIn wsL_change (wsV RL 15 RX3 yX3_open wsX3_open) := goodIn_app (goodIn_of _ (by decide +kernel)) ggL_change_X3_open
set_option maxRecDepth 20000 in
theorem ggL_change_X3_close : GoodIn wsL_change wsX3_close := goodIn_r _ [87, 11, 88, 89, 90, 13, 14, 9, 15, 19, 20, 21, 22, 23, 24, 25, 26, 27, 28, 29, 30, 31, 32, 33, 34, 35, 36, 37, 38, 39, 40, 41, 42, 43, 44, 45, 46, 47, 48, 49, 50, 51, 52, 53, 54, 55, 56, 57, 58, 59, 60, 61, 62, 63, 64, 65, 66, 67, 68, 69, 70, 91, 92, 93, 94, 75, 76, 249, 250, 251, 252, 253, 254, 255, 256, 257, 258, 259, 260, 261, 262, 263, 264, 265, 266, 267, 268, 269, 270, 271, 272] (by decide +kernel) (by decide +kernel)
set_option maxRecDepth 20000 in
theorem gL_change_X3_close : GoodIn wsL_change (wsV RL 20 RX3 yX3_close wsX3_close) := goodIn_app (goodIn_of _ (by decide +kernel)) ggL_change_X3_close
set_option maxRecDepth 20000 in
theorem ggL_change_X3_setWeight : GoodIn wsL_change wsX3_setWeight := goodIn_r _ [98, 11, 99, 13, 14, 9, 15, 16, 17, 18, 19, 20, 21, 22, 23, 24, 25, 26, 27, 28, 29, 30, 31, 32, 33, 34, 35, 36, 37, 38, 39, 40, 41, 42, 43, 44, 45, 46, 47, 48, 49, 50, 51, 52, 53, 54, 55, 56, 57, 58, 59, 60, 61, 62, 63, 64, 65, 66, 67, 68, 69, 70, 249, 250, 251, 252, 253, 254, 255, 256, 257, 258, 259, 260, 261, 262, 263, 264, 265, 266, 267, 268, 269, 270, 271, 272] (by decide +kernel) (by decide +kernel)
set_option maxRecDepth 20000 in
theorem gL_change_X3_setWeight : GoodIn wsL_change (wsV RL 24 RX3 yX3_setWeight wsX3_setWeight) := goodIn_app (goodIn_of _ (by decide +kernel)) ggL_change_X3_setWeight
set_option maxRecDepth 20000 in
theorem ggL_change_X3_push : GoodIn wsL_change wsX3_push := goodIn_r _ [103, 11, 88, 13, 14, 9, 15, 16, 17, 18, 19, 20, 21, 22, 23, 24, 25, 26, 104, 105, 106, 53, 107, 55, 56, 27, 28, 29, 30, 31, 32, 33, 34, 35, 36, 37, 38, 39, 40, 41, 42, 43, 44, 45, 46, 47, 48, 49, 50, 51, 52, 54, 57, 58, 59, 60, 61, 62, 63, 64, 65, 66, 67, 68, 69, 70, 108, 109, 110, 111, 112, 113, 114, 115, 116, 117, 118, 119, 120, 249, 250, 251, 252, 253, 254, 255, 256, 257, 258, 259, 260, 261, 262, 263, 264, 265, 266, 267, 268, 269, 270, 271, 272] (by decide +kernel) (by decide +kernel)
set_option maxRecDepth 20000 in
theorem gL_change_X3_push : GoodIn wsL_change (wsV RL 27 RX3 yX3_push wsX3_push) := goodIn_app (goodIn_of _ (by decide +kernel)) ggL_change_X3_push
set_option maxRecDepth 20000 in
theorem ggL_change_X3_edge : GoodIn wsL_change wsX3_edge := goodIn_r _ [124, 11, 125, 126, 127, 9, 128, 13, 14, 15, 16, 17, 18, 129, 130, 131, 67, 132, 70, 25, 26, 27, 28, 29, 30, 31, 32, 33, 34, 35, 36, 37, 38, 39, 22, 40, 24, 41, 42, 43, 44, 45, 46, 47, 48, 49, 50, 51, 52, 53, 54, 55, 56, 57, 58, 59, 60, 61, 62, 63, 64, 65, 66, 68, 69, 133, 134, 135, 136, 137, 138, 139, 140, 75, 76, 141, 142, 143, 144, 249, 250, 251, 252, 253, 254, 255, 256, 257, 258, 259, 260, 261, 262, 263, 264, 265, 271, 272, 266, 267, 268, 269, 270] (by decide +kernel) (by decide +kernel)
set_option maxRecDepth 20000 in
theorem gL_change_X3_edge : GoodIn wsL_change (wsV RL 30 RX3 yX3_edge wsX3_edge) := goodIn_app (goodIn_of _ (by decide +kernel)) ggL_change_X3_edge
set_option maxRecDepth 20000 in
theorem ggL_change_X3_commit : GoodIn wsL_change wsX3_commit := goodIn_r _ [148, 11, 149, 27, 28, 29, 9, 30, 31, 32, 33, 34, 35, 36, 37, 38, 39, 22, 40, 24, 41, 42, 43, 44, 45, 46, 47, 48, 49, 50, 51, 52, 53, 54, 55, 56, 57, 58, 59, 60, 61, 62, 63, 64, 65, 66, 67, 68, 69, 70, 150, 151, 152, 153, 154, 113, 114, 115, 249, 250, 251, 252, 253, 254, 255, 256, 257, 258, 259, 260, 261, 262, 263, 264, 265, 266, 267, 268, 269, 270, 271, 272] (by decide +kernel) (by decide +kernel)
set_option maxRecDepth 20000 in
theorem gL_change_X3_commit : GoodIn wsL_change (wsV RL 34 RX3 yX3_commit wsX3_commit) := goodIn_app (goodIn_of _ (by decide +kernel)) ggL_change_X3_commit
set_option maxRecDepth 20000 in
theorem ggL_change_X3_revert : GoodIn wsL_change wsX3_revert := goodIn_r _ [158, 11, 125, 159, 160, 161, 9, 162, 149, 27, 28, 29, 30, 31, 32, 33, 34, 35, 36, 37, 38, 39, 22, 40, 24, 41, 42, 43, 44, 45, 46, 47, 48, 49, 50, 51, 52, 53, 54, 55, 56, 57, 58, 59, 60, 61, 62, 63, 64, 65, 66, 67, 68, 69, 70, 163, 164, 165, 166, 167, 168, 169, 170, 171, 172, 78, 79, 80, 81, 82, 83, 249, 250, 251, 252, 253, 254, 255, 256, 257, 258, 259, 260, 261, 262, 263, 264, 265, 266, 267, 268, 269, 270, 271, 272] (by decide +kernel) (by decide +kernel)
set_option maxRecDepth 20000 in
theorem gL_change_X3_revert : GoodIn wsL_change (wsV RL 38 RX3 yX3_revert wsX3_revert) := goodIn_app (goodIn_of _ (by decide +kernel)) ggL_change_X3_revert
set_option maxRecDepth 20000 in
theorem ggL_change_X3_send : GoodIn wsL_change wsX3_send := goodIn_r _ [176, 11, 88, 177, 178, 179, 22, 180, 181, 182, 183, 184, 43, 185, 14, 9, 15, 186, 187, 188, 189, 190, 191, 192, 53, 193, 63, 194, 195, 196, 197, 55, 198, 164, 165, 166, 45, 46, 44, 199, 130, 131, 67, 132, 70, 25, 26, 200, 201, 202, 203, 204, 205, 206, 207, 42, 41, 27, 28, 29, 30, 31, 32, 33, 34, 35, 36, 37, 38, 39, 40, 24, 47, 48, 49, 50, 51, 52, 54, 56, 57, 58, 59, 60, 61, 62, 64, 65, 66, 68, 69, 208, 209, 210, 211, 212, 213, 214, 215, 216, 217, 218, 219, 220, 105, 106, 107, 221, 222, 223, 224, 225, 116, 117, 118, 119, 120, 249, 250, 251, 252, 253, 254, 255, 256, 257, 258, 259, 260, 261, 262, 263, 264, 265, 266, 267, 268, 269, 270, 271, 272] (by decide +kernel) (by decide +kernel)
set_option maxRecDepth 20000 in
theorem gL_change_X3_send : GoodIn wsL_change (wsV RL 41 RX3 yX3_send wsX3_send) := goodIn_app (goodIn_of _ (by decide +kernel)) ggL_change_X3_send
set_option maxRecDepth 20000 in
theorem ggL_change_X3_sendSome : GoodIn wsL_change wsX3_sendSome := goodIn_r _ [229, 11, 88, 16, 17, 9, 18, 27, 28, 29, 30, 31, 32, 33, 34, 35, 36, 37, 38, 39, 22, 40, 24, 41, 42, 43, 44, 45, 46, 47, 48, 49, 50, 51, 52, 53, 54, 55, 56, 57, 58, 59, 60, 61, 62, 63, 64, 65, 66, 67, 68, 69, 70, 177, 178, 179, 180, 181, 182, 183, 184, 185, 14, 15, 186, 187, 188, 189, 190, 191, 192, 193, 194, 195, 196, 197, 198, 164, 165, 166, 199, 130, 131, 132, 25, 26, 200, 201, 202, 203, 204, 205, 206, 207, 230, 217, 218, 219, 212, 213, 214, 215, 216, 220, 105, 106, 107, 221, 222, 223, 224, 225, 209, 210, 211, 116, 117, 118, 119, 120, 249, 250, 251, 252, 253, 254, 255, 256, 257, 258, 259, 260, 261, 262, 263, 264, 265, 266, 267, 268, 269, 270, 271, 272] (by decide +kernel) (by decide +kernel)
set_option maxRecDepth 20000 in
theorem gL_change_X3_sendSome : GoodIn wsL_change (wsV RL 44 RX3 yX3_sendSome wsX3_sendSome) := goodIn_app (goodIn_of _ (by decide +kernel)) ggL_change_X3_sendSome
set_option maxRecDepth 20000 in
theorem ggL_change_X3_keep : GoodIn wsL_change wsX3_keep := goodIn_r _ [234, 235, 11, 236, 16, 17, 9, 18, 37, 38, 39, 22, 40, 24, 41, 42, 43, 44, 45, 46, 47, 48, 49, 50, 51, 52, 53, 54, 55, 56, 57, 58, 59, 60, 61, 62, 63, 64, 65, 66, 67, 68, 69, 70, 237, 238, 239, 240, 185, 249, 250, 251, 252, 253, 254, 255, 256, 257, 258, 259, 260, 261, 262, 263, 264, 265, 266, 267, 268, 269, 270, 271, 272] (by decide +kernel) (by decide +kernel)
set_option maxRecDepth 20000 in
theorem gL_change_X3_keep : GoodIn wsL_change (wsV RL 47 RX3 yX3_keep wsX3_keep) := goodIn_app (goodIn_of _ (by decide +kernel)) ggL_change_X3_keep
set_option maxRecDepth 20000 in
theorem ggL_change_X3_back : GoodIn wsL_change wsX3_back := goodIn_r _ [244, 236, 11, 235, 16, 17, 9, 18, 27, 28, 29, 30, 31, 32, 33, 34, 35, 36, 37, 38, 39, 22, 40, 24, 41, 42, 43, 44, 45, 46, 47, 48, 49, 50, 51, 52, 53, 54, 55, 56, 57, 58, 59, 60, 61, 62, 63, 64, 65, 66, 67, 68, 69, 70, 237, 238, 239, 240, 185, 249, 250, 251, 252, 253, 254, 255, 256, 257, 258, 259, 260, 261, 262, 263, 264, 265, 266, 267, 268, 269, 270, 271, 272] (by decide +kernel) (by decide +kernel)
set_option maxRecDepth 20000 in
theorem gL_change_X3_back : GoodIn wsL_change (wsV RL 50 RX3 yX3_back wsX3_back) := goodIn_app (goodIn_of _ (by decide +kernel)) ggL_change_X3_back
set_option maxRecDepth 20000 in
theorem ggL_change_X3_undo : GoodIn wsL_change wsX3_undo := goodIn_r _ [248, 31, 11, 32, 249, 250, 251, 252, 253, 254, 255] (by decide +kernel) (by decide +kernel)
set_option maxRecDepth 20000 in
theorem gL_change_X3_undo : GoodIn wsL_change (wsV RL 53 RX3 yX3_undo wsX3_undo) := goodIn_app (goodIn_of _ (by decide +kernel)) ggL_change_X3_undo
