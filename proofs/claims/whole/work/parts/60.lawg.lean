set_option maxRecDepth 20000 in
set_option maxRecDepth 100000 in
theorem ggL_law_X4_init : GoodIn wsL_law wsX4_init := goodIn_r _ [8, 9, 10, 11, 12, 13, 14, 15, 16, 17, 18, 19, 20, 21, 22, 23, 24, 25, 26, 27, 28, 29, 30, 31, 32, 33, 34, 35, 36, 37, 38, 39, 40, 41, 42, 43, 44, 45, 46, 47, 48, 49, 50, 51, 52, 53, 54, 55, 56, 57, 58, 59, 545, 546, 517, 518, 519, 520, 521, 522, 523, 524, 547, 548, 549, 550, 551, 552, 553] (by rfl) (by decide +kernel)
set_option maxRecDepth 20000 in
theorem gL_law_X4_init : GoodIn wsL_law (wsX4_init) := ggL_law_X4_init
set_option maxRecDepth 20000 in
set_option maxRecDepth 100000 in
theorem ggL_law_X5_init : GoodIn wsL_law wsX5_init := goodIn_r _ [62, 63, 10, 11, 33, 64, 65, 66, 67, 68, 69, 70, 71, 72, 73, 74, 75, 76, 77, 78, 79, 80, 81, 82, 83, 5, 84, 85, 86, 87, 88, 89, 90, 91, 92, 93, 525, 526, 527, 528, 529, 530, 531, 532, 533, 534, 535, 536, 537, 538, 539, 540, 541, 542, 543, 544] (by rfl) (by decide +kernel)
set_option maxRecDepth 20000 in
theorem gL_law_X5_init : GoodIn wsL_law (wsX5_init) := ggL_law_X5_init
set_option maxRecDepth 20000 in
set_option maxRecDepth 100000 in
theorem ggL_law_X4_begin : GoodIn wsL_law wsX4_begin := goodIn_r _ [97, 19, 18, 46, 47, 48, 25, 49, 50, 51, 52, 53, 54, 55, 56, 57, 58, 59, 517, 518, 519, 520, 521, 522, 523, 524, 549, 550, 551, 552, 553] (by rfl) (by decide +kernel)
set_option maxRecDepth 20000 in
theorem gL_law_X4_begin : GoodIn wsL_law (wsV RL 13 RX4 yX4_begin wsX4_begin) := goodIn_app (goodIn_of _ (by decide +kernel)) ggL_law_X4_begin
set_option maxRecDepth 20000 in
set_option maxRecDepth 100000 in
theorem ggL_law_X5_begin : GoodIn wsL_law wsX5_begin := goodIn_r _ [91, 64, 65, 92, 93, 525, 526, 527, 528, 529, 530, 531, 532, 533, 534, 535, 536, 537, 538, 539, 540, 541, 542, 543, 544] (by rfl) (by decide +kernel)
set_option maxRecDepth 20000 in
theorem gL_law_X5_begin : GoodIn wsL_law (wsV RL 16 RX5 yX5_begin wsX5_begin) := goodIn_app (goodIn_of _ (by decide +kernel)) ggL_law_X5_begin
set_option maxRecDepth 20000 in
set_option maxRecDepth 100000 in
theorem ggL_law_X4_clear : GoodIn wsL_law wsX4_clear := goodIn_r _ [102, 19, 18, 103, 54, 55, 25, 56, 50, 52, 57, 58, 59, 517, 518, 519, 520, 521, 522, 523, 524, 549, 550, 551, 552, 553] (by rfl) (by decide +kernel)
set_option maxRecDepth 20000 in
theorem gL_law_X4_clear : GoodIn wsL_law (wsV RL 17 RX4 yX4_clear wsX4_clear) := goodIn_app (goodIn_of _ (by decide +kernel)) ggL_law_X4_clear
set_option maxRecDepth 20000 in
set_option maxRecDepth 100000 in
theorem ggL_law_X5_clear : GoodIn wsL_law wsX5_clear := goodIn_r _ [107, 64, 65, 92, 93, 525, 526, 527, 528, 529, 530, 531, 532, 533, 534, 535, 536, 537, 538, 539, 540, 541, 542, 543, 544] (by rfl) (by decide +kernel)
set_option maxRecDepth 20000 in
theorem gL_law_X5_clear : GoodIn wsL_law (wsV RL 20 RX5 yX5_clear wsX5_clear) := goodIn_app (goodIn_of _ (by decide +kernel)) ggL_law_X5_clear
set_option maxRecDepth 20000 in
set_option maxRecDepth 100000 in
theorem ggL_law_X4_put : GoodIn wsL_law wsX4_put := goodIn_r _ [111, 112, 18, 113, 114, 2, 115, 116, 117, 118, 119, 19, 120, 121, 122, 123, 25, 124, 50, 52, 57, 58, 59, 125, 126, 127, 128, 517, 518, 519, 520, 521, 522, 523, 524, 549, 550, 551, 552, 553] (by rfl) (by decide +kernel)
set_option maxRecDepth 20000 in
theorem gL_law_X4_put : GoodIn wsL_law (wsV RL 21 RX4 yX4_put wsX4_put) := goodIn_app (goodIn_of _ (by decide +kernel)) ggL_law_X4_put
set_option maxRecDepth 20000 in
set_option maxRecDepth 100000 in
theorem ggL_law_X5_put : GoodIn wsL_law wsX5_put := goodIn_r _ [132, 64, 92, 93, 85, 86, 5, 87, 525, 526, 527, 528, 529, 530, 531, 532, 533, 534, 535, 536, 537, 538, 539, 540, 541, 542, 543, 544] (by rfl) (by decide +kernel)
set_option maxRecDepth 20000 in
theorem gL_law_X5_put : GoodIn wsL_law (wsV RL 25 RX5 yX5_put wsX5_put) := goodIn_app (goodIn_of _ (by decide +kernel)) ggL_law_X5_put
set_option maxRecDepth 20000 in
set_option maxRecDepth 100000 in
theorem ggL_law_X4_turn : GoodIn wsL_law wsX4_turn := goodIn_r _ [136, 18, 137, 116, 117, 118, 2, 119, 19, 120, 121, 122, 123, 25, 124, 50, 52, 57, 58, 59, 517, 518, 519, 520, 521, 522, 523, 524, 549, 550, 551, 552, 553] (by rfl) (by decide +kernel)
set_option maxRecDepth 20000 in
theorem gL_law_X4_turn : GoodIn wsL_law (wsV RL 26 RX4 yX4_turn wsX4_turn) := goodIn_app (goodIn_of _ (by decide +kernel)) ggL_law_X4_turn
set_option maxRecDepth 20000 in
set_option maxRecDepth 100000 in
theorem ggL_law_X5_turn : GoodIn wsL_law wsX5_turn := goodIn_r _ [141, 65, 92, 93, 525, 526, 527, 528, 529, 530, 531, 532, 533, 534, 535, 536, 537, 538, 539, 540, 541, 542, 543, 544] (by rfl) (by decide +kernel)
set_option maxRecDepth 20000 in
theorem gL_law_X5_turn : GoodIn wsL_law (wsV RL 30 RX5 yX5_turn wsX5_turn) := goodIn_app (goodIn_of _ (by decide +kernel)) ggL_law_X5_turn
set_option maxRecDepth 20000 in
set_option maxRecDepth 100000 in
theorem ggL_law_X4_at : GoodIn wsL_law wsX4_at := goodIn_r _ [145, 18, 19, 113, 114, 2, 115, 146, 147, 148, 25, 149, 57, 50, 52, 517, 518, 519, 520, 521, 522, 523, 524, 549, 550, 551, 552, 553] (by rfl) (by decide +kernel)
set_option maxRecDepth 20000 in
theorem gL_law_X4_at : GoodIn wsL_law (wsV RL 31 RX4 yX4_at wsX4_at) := goodIn_app (goodIn_of _ (by decide +kernel)) ggL_law_X4_at
set_option maxRecDepth 20000 in
set_option maxRecDepth 100000 in
theorem ggL_law_X5_at : GoodIn wsL_law wsX5_at := goodIn_r _ [153, 64, 525, 526, 527, 528, 529, 530, 531, 532, 533, 534, 535, 536, 537, 538, 539, 540, 541, 542, 543, 544] (by rfl) (by decide +kernel)
set_option maxRecDepth 20000 in
theorem gL_law_X5_at : GoodIn wsL_law (wsV RL 35 RX5 yX5_at wsX5_at) := goodIn_app (goodIn_of _ (by decide +kernel)) ggL_law_X5_at
set_option maxRecDepth 20000 in
set_option maxRecDepth 100000 in
theorem ggL_law_X4_side : GoodIn wsL_law wsX4_side := goodIn_r _ [157, 18, 19, 137, 517, 518, 519, 520, 521, 522, 523, 524, 549, 550, 551, 552, 553] (by rfl) (by decide +kernel)
set_option maxRecDepth 20000 in
theorem gL_law_X4_side : GoodIn wsL_law (wsV RL 36 RX4 yX4_side wsX4_side) := goodIn_app (goodIn_of _ (by decide +kernel)) ggL_law_X4_side
set_option maxRecDepth 20000 in
set_option maxRecDepth 100000 in
theorem ggL_law_X5_side : GoodIn wsL_law wsX5_side := goodIn_r _ [161, 65, 525, 526, 527, 528, 529, 530, 531, 532, 533, 534, 535, 536, 537, 538, 539, 540, 541, 542, 543, 544] (by rfl) (by decide +kernel)
set_option maxRecDepth 20000 in
theorem gL_law_X5_side : GoodIn wsL_law (wsV RL 40 RX5 yX5_side wsX5_side) := goodIn_app (goodIn_of _ (by decide +kernel)) ggL_law_X5_side
set_option maxRecDepth 20000 in
set_option maxRecDepth 100000 in
theorem ggL_law_X4_moves : GoodIn wsL_law wsX4_moves := goodIn_r _ [165, 15, 18, 19, 23, 166, 167, 168, 169, 14, 170, 171, 172, 173, 174, 25, 175, 58, 50, 52, 176, 177, 178, 179, 180, 181, 34, 35, 182, 183, 184, 185, 186, 187, 188, 189, 190, 191, 192, 193, 57, 194, 195, 196, 197, 198, 199, 22, 200, 201, 42, 202, 203, 204, 205, 517, 518, 519, 520, 521, 522, 523, 524, 547, 548, 549, 550, 551, 552, 553, 545, 546] (by rfl) (by decide +kernel)
set_option maxRecDepth 20000 in
theorem gL_law_X4_moves : GoodIn wsL_law (wsV RL 41 RX4 yX4_moves wsX4_moves) := goodIn_app (goodIn_of _ (by decide +kernel)) ggL_law_X4_moves
set_option maxRecDepth 20000 in
set_option maxRecDepth 100000 in
theorem ggL_law_X5_moves : GoodIn wsL_law wsX5_moves := goodIn_r _ [209, 67, 210, 211, 212, 5, 213, 64, 65, 214, 215, 216, 217, 218, 219, 220, 73, 74, 75, 77, 71, 72, 221, 222, 223, 224, 225, 66, 226, 227, 228, 229, 230, 231, 232, 233, 234, 235, 85, 86, 87, 236, 237, 238, 239, 240, 241, 242, 525, 526, 527, 528, 529, 530, 531, 532, 533, 534, 535, 536, 537, 538, 539, 540, 541, 542, 543, 544] (by rfl) (by decide +kernel)
set_option maxRecDepth 20000 in
theorem gL_law_X5_moves : GoodIn wsL_law (wsV RL 44 RX5 yX5_moves wsX5_moves) := goodIn_app (goodIn_of _ (by decide +kernel)) ggL_law_X5_moves
set_option maxRecDepth 20000 in
set_option maxRecDepth 100000 in
theorem ggL_law_X4_move : GoodIn wsL_law wsX4_move := goodIn_r _ [246, 23, 247, 248, 163, 164, 2, 165, 15, 18, 19, 166, 167, 168, 169, 14, 170, 171, 172, 173, 174, 25, 175, 58, 50, 52, 176, 177, 178, 179, 180, 181, 34, 35, 182, 183, 184, 185, 186, 187, 188, 189, 190, 191, 192, 193, 57, 194, 195, 196, 197, 198, 199, 22, 200, 201, 42, 202, 203, 204, 205, 249, 250, 251, 252, 253, 254, 255, 256, 257, 258, 517, 518, 519, 520, 521, 522, 523, 524, 547, 548, 549, 550, 551, 552, 553, 545, 546] (by rfl) (by decide +kernel)
set_option maxRecDepth 20000 in
theorem gL_law_X4_move : GoodIn wsL_law (wsV RL 45 RX4 yX4_move wsX4_move) := goodIn_app (goodIn_of _ (by decide +kernel)) ggL_law_X4_move
set_option maxRecDepth 20000 in
set_option maxRecDepth 100000 in
theorem ggL_law_X5_move : GoodIn wsL_law wsX5_move := goodIn_r _ [262, 66, 225, 263, 207, 208, 5, 209, 67, 210, 211, 212, 213, 64, 65, 214, 215, 216, 217, 218, 219, 220, 73, 74, 75, 77, 71, 72, 221, 222, 223, 224, 226, 227, 228, 229, 230, 231, 232, 233, 234, 235, 85, 86, 87, 236, 237, 238, 239, 240, 241, 242, 264, 265, 266, 267, 268, 269, 525, 526, 527, 528, 529, 530, 531, 532, 533, 534, 535, 536, 537, 538, 539, 540, 541, 542, 543, 544] (by rfl) (by decide +kernel)
set_option maxRecDepth 20000 in
theorem gL_law_X5_move : GoodIn wsL_law (wsV RL 49 RX5 yX5_move wsX5_move) := goodIn_app (goodIn_of _ (by decide +kernel)) ggL_law_X5_move
set_option maxRecDepth 20000 in
set_option maxRecDepth 100000 in
theorem ggL_law_X4_play : GoodIn wsL_law wsX4_play := goodIn_r _ [273, 19, 23, 247, 18, 274, 275, 276, 2, 277, 15, 137, 120, 278, 279, 280, 14, 281, 172, 173, 174, 25, 175, 58, 50, 52, 282, 283, 284, 285, 180, 181, 34, 35, 182, 183, 184, 185, 186, 187, 188, 189, 190, 191, 192, 193, 57, 194, 195, 196, 248, 163, 164, 165, 166, 167, 168, 169, 170, 171, 176, 177, 178, 179, 197, 198, 199, 22, 200, 201, 42, 202, 203, 204, 205, 286, 287, 288, 289, 290, 59, 291, 250, 251, 292, 253, 254, 293, 256, 257, 258, 255, 294, 295, 296, 297, 298, 299, 300, 517, 518, 519, 520, 521, 522, 523, 524, 547, 548, 549, 550, 551, 552, 553, 545, 546] (by rfl) (by decide +kernel)
set_option maxRecDepth 20000 in
theorem gL_law_X4_play : GoodIn wsL_law (wsV RL 50 RX4 yX4_play wsX4_play) := goodIn_app (goodIn_of _ (by decide +kernel)) ggL_law_X4_play
set_option maxRecDepth 20000 in
set_option maxRecDepth 100000 in
theorem ggL_law_X5_play : GoodIn wsL_law wsX5_play := goodIn_r _ [304, 67, 92, 66, 225, 64, 78, 79, 93, 65, 305, 306, 307, 5, 308, 263, 207, 208, 209, 210, 211, 212, 213, 214, 215, 216, 217, 218, 219, 220, 73, 74, 75, 77, 71, 72, 221, 222, 223, 224, 226, 227, 228, 229, 230, 231, 232, 233, 234, 235, 85, 86, 87, 236, 237, 238, 239, 240, 241, 242, 264, 265, 266, 309, 310, 311, 312, 267, 268, 269, 525, 526, 527, 528, 529, 530, 531, 532, 533, 534, 535, 536, 537, 538, 539, 540, 541, 542, 543, 544] (by rfl) (by decide +kernel)
set_option maxRecDepth 20000 in
theorem gL_law_X5_play : GoodIn wsL_law (wsV RL 53 RX5 yX5_play wsX5_play) := goodIn_app (goodIn_of _ (by decide +kernel)) ggL_law_X5_play
set_option maxRecDepth 20000 in
set_option maxRecDepth 100000 in
theorem ggL_law_X4_undo : GoodIn wsL_law wsX4_undo := goodIn_r _ [316, 19, 517, 518, 519, 520, 521, 522, 523, 524] (by rfl) (by decide +kernel)
set_option maxRecDepth 20000 in
theorem gL_law_X4_undo : GoodIn wsL_law (wsV RL 54 RX4 yX4_undo wsX4_undo) := goodIn_app (goodIn_of _ (by decide +kernel)) ggL_law_X4_undo
set_option maxRecDepth 20000 in
set_option maxRecDepth 100000 in
theorem ggL_law_X5_undo : GoodIn wsL_law wsX5_undo := goodIn_r _ [320, 92, 64, 78, 79, 93, 65, 525, 526, 527, 528, 529, 530, 531, 532, 533, 534, 535, 536, 537, 538, 539, 540, 541, 542, 543, 544] (by rfl) (by decide +kernel)
set_option maxRecDepth 20000 in
theorem gL_law_X5_undo : GoodIn wsL_law (wsV RL 58 RX5 yX5_undo wsX5_undo) := goodIn_app (goodIn_of _ (by decide +kernel)) ggL_law_X5_undo
set_option maxRecDepth 20000 in
set_option maxRecDepth 100000 in
theorem ggL_law_X4_played : GoodIn wsL_law wsX4_played := goodIn_r _ [324, 19, 517, 518, 519, 520, 521, 522, 523, 524] (by rfl) (by decide +kernel)
set_option maxRecDepth 20000 in
theorem gL_law_X4_played : GoodIn wsL_law (wsV RL 59 RX4 yX4_played wsX4_played) := goodIn_app (goodIn_of _ (by decide +kernel)) ggL_law_X4_played
set_option maxRecDepth 20000 in
set_option maxRecDepth 100000 in
theorem ggL_law_X5_played : GoodIn wsL_law wsX5_played := goodIn_r _ [328, 92, 525, 526, 527, 528, 529, 530, 531, 532, 533, 534, 535, 536, 537, 538, 539, 540, 541, 542, 543, 544] (by rfl) (by decide +kernel)
set_option maxRecDepth 20000 in
theorem gL_law_X5_played : GoodIn wsL_law (wsV RL 62 RX5 yX5_played wsX5_played) := goodIn_app (goodIn_of _ (by decide +kernel)) ggL_law_X5_played
set_option maxRecDepth 20000 in
set_option maxRecDepth 100000 in
theorem ggL_law_X4_over : GoodIn wsL_law wsX4_over := goodIn_r _ [277, 18, 19, 15, 137, 120, 278, 279, 280, 14, 281, 172, 173, 174, 25, 175, 58, 50, 52, 282, 283, 284, 285, 180, 181, 34, 35, 182, 183, 184, 185, 186, 187, 188, 189, 190, 191, 192, 193, 57, 194, 195, 196, 517, 518, 519, 520, 521, 522, 523, 524, 549, 550, 551, 552, 553, 545, 546] (by rfl) (by decide +kernel)
set_option maxRecDepth 20000 in
theorem gL_law_X4_over : GoodIn wsL_law (wsV RL 63 RX4 yX4_over wsX4_over) := goodIn_app (goodIn_of _ (by decide +kernel)) ggL_law_X4_over
set_option maxRecDepth 20000 in
set_option maxRecDepth 100000 in
theorem ggL_law_X5_over : GoodIn wsL_law wsX5_over := goodIn_r _ [308, 65, 93, 263, 207, 208, 5, 209, 67, 210, 211, 212, 213, 64, 214, 215, 216, 217, 218, 219, 220, 73, 74, 75, 77, 71, 72, 221, 222, 223, 224, 225, 66, 226, 227, 228, 229, 230, 231, 232, 233, 234, 235, 85, 86, 87, 236, 237, 238, 239, 240, 241, 242, 525, 526, 527, 528, 529, 530, 531, 532, 533, 534, 535, 536, 537, 538, 539, 540, 541, 542, 543, 544] (by rfl) (by decide +kernel)
set_option maxRecDepth 20000 in
theorem gL_law_X5_over : GoodIn wsL_law (wsV RL 66 RX5 yX5_over wsX5_over) := goodIn_app (goodIn_of _ (by decide +kernel)) ggL_law_X5_over
set_option maxRecDepth 20000 in
set_option maxRecDepth 100000 in
theorem ggL_law_X4_quiet : GoodIn wsL_law wsX4_quiet := goodIn_r _ [334, 18, 19, 120, 517, 518, 519, 520, 521, 522, 523, 524, 549, 550, 551, 552, 553] (by rfl) (by decide +kernel)
set_option maxRecDepth 20000 in
theorem gL_law_X4_quiet : GoodIn wsL_law (wsV RL 67 RX4 yX4_quiet wsX4_quiet) := goodIn_app (goodIn_of _ (by decide +kernel)) ggL_law_X4_quiet
set_option maxRecDepth 20000 in
set_option maxRecDepth 100000 in
theorem ggL_law_X5_quiet : GoodIn wsL_law wsX5_quiet := goodIn_r _ [338, 93, 525, 526, 527, 528, 529, 530, 531, 532, 533, 534, 535, 536, 537, 538, 539, 540, 541, 542, 543, 544] (by rfl) (by decide +kernel)
set_option maxRecDepth 20000 in
theorem gL_law_X5_quiet : GoodIn wsL_law (wsV RL 70 RX5 yX5_quiet wsX5_quiet) := goodIn_app (goodIn_of _ (by decide +kernel)) ggL_law_X5_quiet
set_option maxRecDepth 20000 in
set_option maxRecDepth 100000 in
theorem ggL_law_X4_ways : GoodIn wsL_law wsX4_ways := goodIn_r _ [342, 18, 19, 343, 344, 2, 345, 346, 347, 348, 349, 27, 15, 166, 28, 247, 167, 168, 169, 14, 170, 171, 172, 173, 174, 25, 175, 58, 50, 52, 176, 177, 178, 179, 180, 181, 34, 35, 182, 183, 184, 185, 186, 187, 188, 189, 190, 191, 192, 193, 57, 194, 195, 196, 197, 198, 199, 22, 200, 201, 42, 202, 203, 204, 205, 286, 287, 288, 289, 290, 59, 291, 250, 251, 292, 253, 254, 293, 256, 257, 258, 517, 518, 519, 520, 521, 522, 523, 524, 547, 548, 549, 550, 551, 552, 553, 545, 546] (by rfl) (by decide +kernel)
set_option maxRecDepth 20000 in
theorem gL_law_X4_ways : GoodIn wsL_law (wsV RL 71 RX4 yX4_ways wsX4_ways) := goodIn_app (goodIn_of _ (by decide +kernel)) ggL_law_X4_ways
set_option maxRecDepth 20000 in
set_option maxRecDepth 100000 in
theorem ggL_law_X5_ways : GoodIn wsL_law wsX5_ways := goodIn_r _ [353, 69, 67, 210, 211, 212, 5, 213, 64, 65, 214, 215, 216, 217, 218, 219, 220, 73, 74, 75, 77, 71, 72, 221, 222, 223, 224, 225, 66, 226, 227, 228, 229, 230, 231, 232, 233, 234, 235, 85, 86, 87, 236, 237, 238, 239, 240, 241, 242, 309, 310, 311, 312, 264, 265, 266, 267, 268, 269, 525, 526, 527, 528, 529, 530, 531, 532, 533, 534, 535, 536, 537, 538, 539, 540, 541, 542, 543, 544] (by rfl) (by decide +kernel)
set_option maxRecDepth 20000 in
theorem gL_law_X5_ways : GoodIn wsL_law (wsV RL 74 RX5 yX5_ways wsX5_ways) := goodIn_app (goodIn_of _ (by decide +kernel)) ggL_law_X5_ways
set_option maxRecDepth 20000 in
set_option maxRecDepth 100000 in
theorem ggL_law_X4_verdict : GoodIn wsL_law wsX4_verdict := goodIn_r _ [357, 18, 19, 358, 359, 360, 25, 361, 50, 52, 362, 295, 296, 297, 298, 299, 300, 363, 364, 365, 2, 366, 16, 367, 368, 369, 15, 370, 371, 372, 373, 10, 11, 374, 375, 376, 377, 378, 379, 21, 22, 380, 24, 39, 40, 41, 33, 42, 43, 44, 45, 381, 382, 383, 384, 385, 54, 55, 56, 57, 58, 59, 386, 126, 127, 128, 387, 168, 169, 14, 170, 171, 172, 173, 174, 175, 176, 177, 178, 179, 180, 181, 34, 35, 182, 183, 184, 185, 186, 187, 188, 189, 190, 191, 192, 193, 194, 195, 196, 197, 198, 199, 200, 201, 202, 203, 204, 205, 388, 389, 390, 391, 392, 393, 394, 395, 396, 397, 398, 287, 288, 289, 290, 291, 250, 251, 292, 253, 254, 293, 256, 257, 258, 399, 400, 401, 402, 403, 404, 405, 406, 407, 408, 409, 410, 411, 412, 413, 414, 415, 416, 417, 418, 419, 420, 421, 422, 423, 424, 425, 426, 427, 428, 429, 430, 431, 432, 433, 434, 435, 436, 517, 518, 519, 520, 521, 522, 523, 524, 549, 550, 551, 552, 553, 554, 555, 556, 547, 548, 545, 546] (by rfl) (by decide +kernel)
set_option maxRecDepth 20000 in
theorem gL_law_X4_verdict : GoodIn wsL_law (wsV RL 75 RX4 yX4_verdict wsX4_verdict) := goodIn_app (goodIn_of _ (by decide +kernel)) ggL_law_X4_verdict
set_option maxRecDepth 20000 in
set_option maxRecDepth 100000 in
theorem ggL_law_X5_verdict : GoodIn wsL_law wsX5_verdict := goodIn_r _ [440, 81, 441, 442, 443, 5, 444, 64, 65, 214, 215, 216, 229, 230, 231, 445, 446, 447, 448, 449, 450, 451, 452, 80, 453, 454, 455, 456, 71, 72, 85, 86, 87, 236, 237, 238, 457, 458, 459, 460, 461, 462, 463, 464, 465, 466, 467, 468, 525, 526, 527, 528, 529, 530, 531, 532, 533, 534, 535, 536, 537, 538, 539, 540, 541, 542, 543, 544] (by rfl) (by decide +kernel)
set_option maxRecDepth 20000 in
theorem gL_law_X5_verdict : GoodIn wsL_law (wsV RL 78 RX5 yX5_verdict wsX5_verdict) := goodIn_app (goodIn_of _ (by decide +kernel)) ggL_law_X5_verdict
set_option maxRecDepth 20000 in
set_option maxRecDepth 100000 in
theorem ggL_law_X4_value : GoodIn wsL_law wsX4_value := goodIn_r _ [472, 18, 19, 343, 344, 2, 345, 473, 474, 475, 476, 15, 27, 166, 28, 247, 477, 478, 395, 479, 358, 359, 360, 25, 361, 50, 52, 362, 295, 296, 297, 298, 299, 300, 363, 364, 365, 366, 16, 367, 368, 369, 370, 371, 372, 373, 10, 11, 374, 375, 376, 377, 378, 379, 21, 22, 380, 24, 39, 40, 41, 33, 42, 43, 44, 45, 381, 382, 383, 384, 385, 54, 55, 56, 57, 58, 59, 386, 126, 127, 128, 387, 168, 169, 14, 170, 171, 172, 173, 174, 175, 176, 177, 178, 179, 180, 181, 34, 35, 182, 183, 184, 185, 186, 187, 188, 189, 190, 191, 192, 193, 194, 195, 196, 197, 198, 199, 200, 201, 202, 203, 204, 205, 388, 389, 390, 391, 392, 393, 394, 396, 397, 398, 287, 288, 289, 290, 291, 250, 251, 292, 253, 254, 293, 256, 257, 258, 399, 400, 401, 402, 403, 404, 405, 406, 407, 408, 409, 410, 411, 412, 413, 414, 415, 416, 417, 418, 419, 420, 421, 422, 423, 424, 425, 426, 427, 428, 429, 430, 431, 432, 433, 434, 435, 436, 480, 481, 482, 278, 279, 280, 281, 282, 283, 284, 285, 483, 484, 485, 486, 487, 488, 167, 286, 517, 518, 519, 520, 521, 522, 523, 524, 547, 548, 549, 550, 551, 552, 553, 554, 555, 556, 545, 546] (by rfl) (by decide +kernel)
set_option maxRecDepth 20000 in
theorem gL_law_X4_value : GoodIn wsL_law (wsV RL 79 RX4 yX4_value wsX4_value) := goodIn_app (goodIn_of _ (by decide +kernel)) ggL_law_X4_value
set_option maxRecDepth 20000 in
set_option maxRecDepth 100000 in
theorem ggL_law_X5_value : GoodIn wsL_law wsX5_value := goodIn_r _ [492, 493, 494, 495, 5, 496, 68, 69, 70, 67, 497, 498, 499, 500, 501, 502, 503, 504, 81, 441, 442, 443, 444, 64, 65, 214, 215, 216, 229, 230, 231, 445, 446, 447, 448, 449, 450, 451, 452, 80, 453, 454, 455, 456, 71, 72, 85, 86, 87, 236, 237, 238, 457, 458, 459, 460, 461, 462, 463, 464, 465, 466, 467, 468, 210, 211, 212, 213, 217, 218, 219, 220, 73, 74, 75, 77, 221, 222, 223, 224, 225, 66, 226, 227, 228, 232, 233, 234, 235, 239, 240, 241, 242, 505, 506, 507, 508, 309, 310, 311, 312, 264, 265, 266, 267, 268, 269, 525, 526, 527, 528, 529, 530, 531, 532, 533, 534, 535, 536, 537, 538, 539, 540, 541, 542, 543, 544] (by rfl) (by decide +kernel)
set_option maxRecDepth 20000 in
theorem gL_law_X5_value : GoodIn wsL_law (wsV RL 82 RX5 yX5_value wsX5_value) := goodIn_app (goodIn_of _ (by decide +kernel)) ggL_law_X5_value
set_option maxRecDepth 20000 in
set_option maxRecDepth 100000 in
theorem ggL_law_X4_best : GoodIn wsL_law wsX4_best := goodIn_r _ [512, 26, 18, 19, 23, 247, 343, 344, 2, 345, 248, 163, 164, 165, 15, 166, 167, 168, 169, 14, 170, 171, 172, 173, 174, 25, 175, 58, 50, 52, 176, 177, 178, 179, 180, 181, 34, 35, 182, 183, 184, 185, 186, 187, 188, 189, 190, 191, 192, 193, 57, 194, 195, 196, 197, 198, 199, 22, 200, 201, 42, 202, 203, 204, 205, 286, 287, 288, 289, 290, 59, 291, 250, 251, 292, 253, 254, 293, 256, 257, 258, 473, 474, 475, 476, 27, 28, 477, 478, 395, 479, 358, 359, 360, 361, 362, 295, 296, 297, 298, 299, 300, 363, 364, 365, 366, 16, 367, 368, 369, 370, 371, 372, 373, 10, 11, 374, 375, 376, 377, 378, 379, 21, 380, 24, 39, 40, 41, 33, 43, 44, 45, 381, 382, 383, 384, 385, 54, 55, 56, 386, 126, 127, 128, 387, 388, 389, 390, 391, 392, 393, 394, 396, 397, 398, 399, 400, 401, 402, 403, 404, 405, 406, 407, 408, 409, 410, 411, 412, 413, 414, 415, 416, 417, 418, 419, 420, 421, 422, 423, 424, 425, 426, 427, 428, 429, 430, 431, 432, 433, 434, 435, 436, 480, 481, 482, 278, 279, 280, 281, 282, 283, 284, 285, 483, 484, 485, 486, 487, 488, 517, 518, 519, 520, 521, 522, 523, 524, 547, 548, 549, 550, 551, 552, 553, 545, 546, 554, 555, 556] (by rfl) (by decide +kernel)
set_option maxRecDepth 20000 in
theorem gL_law_X4_best : GoodIn wsL_law (wsV RL 83 RX4 yX4_best wsX4_best) := goodIn_app (goodIn_of _ (by decide +kernel)) ggL_law_X4_best
set_option maxRecDepth 20000 in
set_option maxRecDepth 100000 in
theorem ggL_law_X5_best : GoodIn wsL_law wsX5_best := goodIn_r _ [516, 67, 210, 211, 212, 5, 213, 64, 65, 214, 215, 216, 217, 218, 219, 220, 73, 74, 75, 77, 71, 72, 221, 222, 223, 224, 225, 66, 226, 227, 228, 229, 230, 231, 232, 233, 234, 235, 85, 86, 87, 236, 237, 238, 239, 240, 241, 242, 309, 310, 311, 312, 264, 265, 266, 267, 268, 269, 493, 494, 495, 496, 68, 69, 70, 497, 498, 499, 500, 501, 502, 503, 504, 81, 441, 442, 443, 444, 445, 446, 447, 448, 449, 450, 451, 452, 80, 453, 454, 455, 456, 457, 458, 459, 460, 461, 462, 463, 464, 465, 466, 467, 468, 505, 506, 507, 508, 525, 526, 527, 528, 529, 530, 531, 532, 533, 534, 535, 536, 537, 538, 539, 540, 541, 542, 543, 544] (by rfl) (by decide +kernel)
set_option maxRecDepth 20000 in
theorem gL_law_X5_best : GoodIn wsL_law (wsV RL 86 RX5 yX5_best wsX5_best) := goodIn_app (goodIn_of _ (by decide +kernel)) ggL_law_X5_best
