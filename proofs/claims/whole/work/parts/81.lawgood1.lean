set_option maxRecDepth 20000 in
theorem ggL_law_X7_init : GoodIn wsL_law wsX7_init := goodIn_r _ [9, 10, 11, 12, 13, 14, 15, 16, 17, 18, 19, 20, 21, 22, 23, 24, 25, 26, 27, 28, 29, 30, 31, 32, 33, 34, 35, 36, 37, 38, 39, 40, 41, 42, 43, 44, 45, 46, 47, 48, 49, 50, 51, 806, 807, 778, 779, 780, 781, 782, 808, 809, 810, 811, 812, 813, 814, 815, 816, 817, 818] (by decide +kernel) (by decide +kernel)
set_option maxRecDepth 20000 in
theorem gL_law_X7_init : GoodIn wsL_law (wsX7_init) := ggL_law_X7_init
set_option maxRecDepth 20000 in
theorem ggL_law_X8_init : GoodIn wsL_law wsX8_init := goodIn_r _ [54, 55, 11, 12, 26, 56, 31, 57, 58, 59, 39, 60, 61, 62, 63, 64, 65, 66, 67, 68, 69, 70, 71, 72, 73, 74, 75, 76, 5, 77, 78, 79, 80, 81, 783, 784, 785, 786, 787, 788, 789, 790, 791, 792, 793, 794, 795, 796, 797, 798, 799, 800, 801, 802, 803, 804, 805] (by decide +kernel) (by decide +kernel)
set_option maxRecDepth 20000 in
theorem gL_law_X8_init : GoodIn wsL_law (wsX8_init) := ggL_law_X8_init
set_option maxRecDepth 20000 in
theorem ggL_law_X7_write : GoodIn wsL_law wsX7_write := goodIn_r _ [85, 16, 86, 87, 88, 89, 15, 90, 33, 32, 778, 779, 780, 781, 782, 806, 807] (by decide +kernel) (by decide +kernel)
set_option maxRecDepth 20000 in
theorem gL_law_X7_write : GoodIn wsL_law (wsV RL 15 RX7 yX7_write wsX7_write) := goodIn_app (goodIn_of _ (by decide +kernel)) ggL_law_X7_write
set_option maxRecDepth 20000 in
theorem ggL_law_X8_write : GoodIn wsL_law wsX8_write := goodIn_r _ [94, 95, 96, 59, 97, 79, 80, 5, 81, 783, 784, 785, 786, 787, 788, 789, 790, 791, 792, 793, 794, 795, 796, 797, 798, 799, 800, 801, 802, 803, 804, 805] (by decide +kernel) (by decide +kernel)
set_option maxRecDepth 20000 in
theorem gL_law_X8_write : GoodIn wsL_law (wsV RL 19 RX8 yX8_write wsX8_write) := goodIn_app (goodIn_of _ (by decide +kernel)) ggL_law_X8_write
set_option maxRecDepth 20000 in
theorem ggL_law_X7_wipe : GoodIn wsL_law wsX7_wipe := goodIn_r _ [101, 16, 86, 778, 779, 780, 781, 782, 806, 807] (by decide +kernel) (by decide +kernel)
set_option maxRecDepth 20000 in
theorem gL_law_X7_wipe : GoodIn wsL_law (wsV RL 20 RX7 yX7_wipe wsX7_wipe) := goodIn_app (goodIn_of _ (by decide +kernel)) ggL_law_X7_wipe
set_option maxRecDepth 20000 in
theorem ggL_law_X8_wipe : GoodIn wsL_law wsX8_wipe := goodIn_r _ [105, 96, 783, 784, 785, 786, 787, 788, 789, 790, 791, 792, 793, 794, 795, 796, 797, 798, 799, 800, 801, 802, 803, 804, 805] (by decide +kernel) (by decide +kernel)
set_option maxRecDepth 20000 in
theorem gL_law_X8_wipe : GoodIn wsL_law (wsV RL 24 RX8 yX8_wipe wsX8_wipe) := goodIn_app (goodIn_of _ (by decide +kernel)) ggL_law_X8_wipe
set_option maxRecDepth 20000 in
theorem ggL_law_X7_fault : GoodIn wsL_law wsX7_fault := goodIn_r _ [109, 16, 110, 111, 112, 15, 113, 33, 32, 114, 115, 116, 778, 779, 780, 781, 782, 806, 807] (by decide +kernel) (by decide +kernel)
set_option maxRecDepth 20000 in
theorem gL_law_X7_fault : GoodIn wsL_law (wsV RL 25 RX7 yX7_fault wsX7_fault) := goodIn_app (goodIn_of _ (by decide +kernel)) ggL_law_X7_fault
set_option maxRecDepth 20000 in
theorem ggL_law_X8_fault : GoodIn wsL_law wsX8_fault := goodIn_r _ [120, 121, 122, 123, 5, 124, 96, 59, 125, 126, 127, 128, 129, 130, 131, 79, 80, 81, 783, 784, 785, 786, 787, 788, 789, 790, 791, 792, 793, 794, 795, 796, 797, 798, 799, 800, 801, 802, 803, 804, 805] (by decide +kernel) (by decide +kernel)
set_option maxRecDepth 20000 in
theorem gL_law_X8_fault : GoodIn wsL_law (wsV RL 28 RX8 yX8_fault wsX8_fault) := goodIn_app (goodIn_of _ (by decide +kernel)) ggL_law_X8_fault
set_option maxRecDepth 20000 in
theorem ggL_law_X7_word : GoodIn wsL_law wsX7_word := goodIn_r _ [135, 16, 136, 137, 2, 138, 110, 111, 112, 15, 113, 33, 32, 114, 115, 116, 139, 140, 141, 142, 143, 144, 145, 146, 20, 147, 148, 149, 150, 151, 152, 153, 154, 778, 779, 780, 781, 782, 806, 807, 808, 809, 810, 811] (by decide +kernel) (by decide +kernel)
set_option maxRecDepth 20000 in
theorem gL_law_X7_word : GoodIn wsL_law (wsV RL 29 RX7 yX7_word wsX7_word) := goodIn_app (goodIn_of _ (by decide +kernel)) ggL_law_X7_word
set_option maxRecDepth 20000 in
theorem ggL_law_X8_word : GoodIn wsL_law wsX8_word := goodIn_r _ [158, 58, 59, 159, 160, 5, 161, 162, 79, 80, 81, 121, 122, 123, 124, 96, 125, 126, 127, 128, 129, 130, 131, 163, 164, 165, 783, 784, 785, 786, 787, 788, 789, 790, 791, 792, 793, 794, 795, 796, 797, 798, 799, 800, 801, 802, 803, 804, 805] (by decide +kernel) (by decide +kernel)
set_option maxRecDepth 20000 in
theorem gL_law_X8_word : GoodIn wsL_law (wsV RL 33 RX8 yX8_word wsX8_word) := goodIn_app (goodIn_of _ (by decide +kernel)) ggL_law_X8_word
set_option maxRecDepth 20000 in
theorem ggL_law_X7_sign : GoodIn wsL_law wsX7_sign := goodIn_r _ [169, 20, 147, 136, 137, 2, 138, 170, 171, 172, 173, 174, 175, 15, 176, 778, 779, 780, 781, 782, 808, 809, 810, 811] (by decide +kernel) (by decide +kernel)
set_option maxRecDepth 20000 in
theorem gL_law_X7_sign : GoodIn wsL_law (wsV RL 34 RX7 yX7_sign wsX7_sign) := goodIn_app (goodIn_of _ (by decide +kernel)) ggL_law_X7_sign
set_option maxRecDepth 20000 in
theorem ggL_law_X8_sign : GoodIn wsL_law wsX8_sign := goodIn_r _ [180, 181, 58, 159, 160, 5, 161, 162, 79, 80, 81, 783, 784, 785, 786, 787, 788, 789, 790, 791, 792, 793, 794, 795, 796, 797, 798, 799, 800, 801, 802, 803, 804, 805] (by decide +kernel) (by decide +kernel)
set_option maxRecDepth 20000 in
theorem gL_law_X8_sign : GoodIn wsL_law (wsV RL 38 RX8 yX8_sign wsX8_sign) := goodIn_app (goodIn_of _ (by decide +kernel)) ggL_law_X8_sign
set_option maxRecDepth 20000 in
theorem ggL_law_X7_figure : GoodIn wsL_law wsX7_figure := goodIn_r _ [185, 20, 147, 136, 137, 2, 138, 778, 779, 780, 781, 782, 808, 809, 810, 811] (by decide +kernel) (by decide +kernel)
set_option maxRecDepth 20000 in
theorem gL_law_X7_figure : GoodIn wsL_law (wsV RL 39 RX7 yX7_figure wsX7_figure) := goodIn_app (goodIn_of _ (by decide +kernel)) ggL_law_X7_figure
set_option maxRecDepth 20000 in
theorem ggL_law_X8_figure : GoodIn wsL_law wsX8_figure := goodIn_r _ [189, 58, 159, 160, 5, 161, 162, 79, 80, 81, 783, 784, 785, 786, 787, 788, 789, 790, 791, 792, 793, 794, 795, 796, 797, 798, 799, 800, 801, 802, 803, 804, 805] (by decide +kernel) (by decide +kernel)
set_option maxRecDepth 20000 in
theorem gL_law_X8_figure : GoodIn wsL_law (wsV RL 43 RX8 yX8_figure wsX8_figure) := goodIn_app (goodIn_of _ (by decide +kernel)) ggL_law_X8_figure
set_option maxRecDepth 20000 in
theorem ggL_law_X7_set : GoodIn wsL_law wsX7_set := goodIn_r _ [193, 20, 147, 194, 136, 137, 2, 138, 195, 196, 197, 198, 778, 779, 780, 781, 782, 808, 809, 810, 811] (by decide +kernel) (by decide +kernel)
set_option maxRecDepth 20000 in
theorem gL_law_X7_set : GoodIn wsL_law (wsV RL 44 RX7 yX7_set wsX7_set) := goodIn_app (goodIn_of _ (by decide +kernel)) ggL_law_X7_set
set_option maxRecDepth 20000 in
theorem ggL_law_X8_set : GoodIn wsL_law wsX8_set := goodIn_r _ [202, 203, 58, 204, 159, 160, 5, 161, 162, 79, 80, 81, 783, 784, 785, 786, 787, 788, 789, 790, 791, 792, 793, 794, 795, 796, 797, 798, 799, 800, 801, 802, 803, 804, 805] (by decide +kernel) (by decide +kernel)
set_option maxRecDepth 20000 in
theorem gL_law_X8_set : GoodIn wsL_law (wsV RL 48 RX8 yX8_set wsX8_set) := goodIn_app (goodIn_of _ (by decide +kernel)) ggL_law_X8_set
set_option maxRecDepth 20000 in
theorem ggL_law_X7_size : GoodIn wsL_law wsX7_size := goodIn_r _ [208, 20, 147, 136, 137, 2, 138, 148, 149, 150, 151, 152, 153, 154, 778, 779, 780, 781, 782, 808, 809, 810, 811] (by decide +kernel) (by decide +kernel)
set_option maxRecDepth 20000 in
theorem gL_law_X7_size : GoodIn wsL_law (wsV RL 49 RX7 yX7_size wsX7_size) := goodIn_app (goodIn_of _ (by decide +kernel)) ggL_law_X7_size
set_option maxRecDepth 20000 in
theorem ggL_law_X8_size : GoodIn wsL_law wsX8_size := goodIn_r _ [212, 58, 159, 160, 5, 161, 162, 79, 80, 81, 163, 164, 165, 783, 784, 785, 786, 787, 788, 789, 790, 791, 792, 793, 794, 795, 796, 797, 798, 799, 800, 801, 802, 803, 804, 805] (by decide +kernel) (by decide +kernel)
set_option maxRecDepth 20000 in
theorem gL_law_X8_size : GoodIn wsL_law (wsV RL 52 RX8 yX8_size wsX8_size) := goodIn_app (goodIn_of _ (by decide +kernel)) ggL_law_X8_size
set_option maxRecDepth 20000 in
theorem ggL_law_X7_parts : GoodIn wsL_law wsX7_parts := goodIn_r _ [216, 20, 147, 136, 137, 2, 138, 217, 218, 172, 219, 220, 221, 222, 223, 224, 225, 226, 227, 228, 229, 230, 231, 232, 233, 234, 235, 236, 237, 238, 239, 240, 241, 242, 243, 778, 779, 780, 781, 782, 808, 809, 810, 811] (by decide +kernel) (by decide +kernel)
set_option maxRecDepth 20000 in
theorem gL_law_X7_parts : GoodIn wsL_law (wsV RL 53 RX7 yX7_parts wsX7_parts) := goodIn_app (goodIn_of _ (by decide +kernel)) ggL_law_X7_parts
set_option maxRecDepth 20000 in
theorem ggL_law_X8_parts : GoodIn wsL_law wsX8_parts := goodIn_r _ [247, 58, 159, 160, 5, 161, 162, 79, 80, 81, 248, 249, 250, 251, 252, 253, 254, 255, 204, 256, 257, 258, 259, 260, 261, 262, 56, 783, 784, 785, 786, 787, 788, 789, 790, 791, 792, 793, 794, 795, 796, 797, 798, 799, 800, 801, 802, 803, 804, 805] (by decide +kernel) (by decide +kernel)
set_option maxRecDepth 20000 in
theorem gL_law_X8_parts : GoodIn wsL_law (wsV RL 56 RX8 yX8_parts wsX8_parts) := goodIn_app (goodIn_of _ (by decide +kernel)) ggL_law_X8_parts
set_option maxRecDepth 20000 in
theorem ggL_law_X7_holes : GoodIn wsL_law wsX7_holes := goodIn_r _ [266, 20, 147, 136, 137, 2, 138, 267, 268, 172, 269, 220, 270, 221, 222, 223, 224, 225, 226, 227, 228, 229, 230, 231, 232, 233, 234, 235, 236, 237, 238, 239, 240, 241, 242, 243, 778, 779, 780, 781, 782, 808, 809, 810, 811] (by decide +kernel) (by decide +kernel)
set_option maxRecDepth 20000 in
theorem gL_law_X7_holes : GoodIn wsL_law (wsV RL 57 RX7 yX7_holes wsX7_holes) := goodIn_app (goodIn_of _ (by decide +kernel)) ggL_law_X7_holes
set_option maxRecDepth 20000 in
theorem ggL_law_X8_holes : GoodIn wsL_law wsX8_holes := goodIn_r _ [274, 58, 159, 160, 5, 161, 162, 79, 80, 81, 275, 276, 277, 278, 204, 252, 253, 254, 255, 256, 257, 258, 259, 260, 261, 262, 56, 75, 76, 77, 78, 783, 784, 785, 786, 787, 788, 789, 790, 791, 792, 793, 794, 795, 796, 797, 798, 799, 800, 801, 802, 803, 804, 805] (by decide +kernel) (by decide +kernel)
set_option maxRecDepth 20000 in
theorem gL_law_X8_holes : GoodIn wsL_law (wsV RL 60 RX8 yX8_holes wsX8_holes) := goodIn_app (goodIn_of _ (by decide +kernel)) ggL_law_X8_holes
set_option maxRecDepth 20000 in
theorem ggL_law_X7_edges : GoodIn wsL_law wsX7_edges := goodIn_r _ [282, 20, 147, 136, 137, 2, 138, 283, 284, 172, 285, 227, 228, 229, 230, 231, 286, 149, 150, 151, 152, 153, 154, 287, 288, 289, 220, 237, 238, 239, 240, 241, 242, 243, 236, 778, 779, 780, 781, 782, 808, 809, 810, 811] (by decide +kernel) (by decide +kernel)
set_option maxRecDepth 20000 in
theorem gL_law_X7_edges : GoodIn wsL_law (wsV RL 61 RX7 yX7_edges wsX7_edges) := goodIn_app (goodIn_of _ (by decide +kernel)) ggL_law_X7_edges
set_option maxRecDepth 20000 in
theorem ggL_law_X8_edges : GoodIn wsL_law wsX8_edges := goodIn_r _ [293, 58, 159, 160, 5, 161, 162, 79, 80, 81, 256, 257, 258, 75, 76, 77, 78, 783, 784, 785, 786, 787, 788, 789, 790, 791, 792, 793, 794, 795, 796, 797, 798, 799, 800, 801, 802, 803, 804, 805] (by decide +kernel) (by decide +kernel)
set_option maxRecDepth 20000 in
theorem gL_law_X8_edges : GoodIn wsL_law (wsV RL 65 RX8 yX8_edges wsX8_edges) := goodIn_app (goodIn_of _ (by decide +kernel)) ggL_law_X8_edges
set_option maxRecDepth 20000 in
theorem ggL_law_X7_corners : GoodIn wsL_law wsX7_corners := goodIn_r _ [297, 20, 147, 136, 137, 2, 138, 298, 299, 300, 301, 302, 303, 304, 305, 306, 307, 308, 309, 310, 311, 171, 172, 173, 312, 313, 314, 315, 316, 317, 318, 319, 320, 778, 779, 780, 781, 782, 808, 809, 810, 811] (by decide +kernel) (by decide +kernel)
set_option maxRecDepth 20000 in
theorem gL_law_X7_corners : GoodIn wsL_law (wsV RL 66 RX7 yX7_corners wsX7_corners) := goodIn_app (goodIn_of _ (by decide +kernel)) ggL_law_X7_corners
set_option maxRecDepth 20000 in
theorem ggL_law_X8_corners : GoodIn wsL_law wsX8_corners := goodIn_r _ [324, 162, 58, 61, 159, 160, 5, 161, 79, 80, 81, 325, 326, 327, 328, 329, 330, 331, 332, 333, 60, 78, 256, 257, 258, 334, 335, 336, 337, 338, 339, 340, 341, 783, 784, 785, 786, 787, 788, 789, 790, 791, 792, 793, 794, 795, 796, 797, 798, 799, 800, 801, 802, 803, 804, 805] (by decide +kernel) (by decide +kernel)
set_option maxRecDepth 20000 in
theorem gL_law_X8_corners : GoodIn wsL_law (wsV RL 69 RX8 yX8_corners wsX8_corners) := goodIn_app (goodIn_of _ (by decide +kernel)) ggL_law_X8_corners
set_option maxRecDepth 20000 in
theorem ggL_law_X7_convex : GoodIn wsL_law wsX7_convex := goodIn_r _ [345, 20, 147, 136, 137, 2, 138, 217, 218, 172, 219, 220, 221, 222, 223, 224, 225, 226, 227, 228, 229, 230, 231, 232, 233, 234, 235, 236, 237, 238, 239, 240, 241, 242, 243, 267, 268, 269, 270, 346, 347, 300, 348, 302, 303, 304, 305, 306, 307, 308, 309, 310, 311, 171, 173, 312, 313, 314, 349, 350, 351, 315, 316, 317, 318, 319, 320, 778, 779, 780, 781, 782, 808, 809, 810, 811] (by decide +kernel) (by decide +kernel)
set_option maxRecDepth 20000 in
theorem gL_law_X7_convex : GoodIn wsL_law (wsV RL 70 RX7 yX7_convex wsX7_convex) := goodIn_app (goodIn_of _ (by decide +kernel)) ggL_law_X7_convex
set_option maxRecDepth 20000 in
theorem ggL_law_X8_convex : GoodIn wsL_law wsX8_convex := goodIn_r _ [355, 58, 329, 61, 159, 160, 5, 161, 162, 79, 80, 81, 325, 326, 327, 328, 330, 331, 332, 333, 60, 78, 256, 257, 258, 334, 335, 336, 337, 338, 339, 340, 341, 248, 249, 250, 251, 252, 253, 254, 255, 204, 259, 260, 261, 262, 56, 275, 276, 277, 278, 75, 76, 77, 783, 784, 785, 786, 787, 788, 789, 790, 791, 792, 793, 794, 795, 796, 797, 798, 799, 800, 801, 802, 803, 804, 805] (by decide +kernel) (by decide +kernel)
set_option maxRecDepth 20000 in
theorem gL_law_X8_convex : GoodIn wsL_law (wsV RL 73 RX8 yX8_convex wsX8_convex) := goodIn_app (goodIn_of _ (by decide +kernel)) ggL_law_X8_convex
set_option maxRecDepth 20000 in
theorem ggL_law_X7_turn : GoodIn wsL_law wsX7_turn := goodIn_r _ [359, 20, 147, 136, 137, 2, 138, 360, 361, 362, 363, 364, 365, 366, 367, 368, 369, 370, 371, 372, 373, 374, 375, 376, 377, 378, 379, 380, 381, 382, 195, 196, 197, 198, 778, 779, 780, 781, 782, 808, 809, 810, 811] (by decide +kernel) (by decide +kernel)
set_option maxRecDepth 20000 in
theorem gL_law_X7_turn : GoodIn wsL_law (wsV RL 74 RX7 yX7_turn wsX7_turn) := goodIn_app (goodIn_of _ (by decide +kernel)) ggL_law_X7_turn
set_option maxRecDepth 20000 in
theorem ggL_law_X8_turn : GoodIn wsL_law wsX8_turn := goodIn_r _ [386, 162, 58, 159, 160, 5, 161, 79, 80, 81, 387, 388, 389, 390, 57, 256, 257, 258, 783, 784, 785, 786, 787, 788, 789, 790, 791, 792, 793, 794, 795, 796, 797, 798, 799, 800, 801, 802, 803, 804, 805] (by decide +kernel) (by decide +kernel)
set_option maxRecDepth 20000 in
theorem gL_law_X8_turn : GoodIn wsL_law (wsV RL 77 RX8 yX8_turn wsX8_turn) := goodIn_app (goodIn_of _ (by decide +kernel)) ggL_law_X8_turn
set_option maxRecDepth 20000 in
theorem ggL_law_X7_shift : GoodIn wsL_law wsX7_shift := goodIn_r _ [394, 20, 147, 136, 137, 2, 138, 395, 396, 362, 397, 398, 399, 400, 401, 402, 403, 404, 405, 406, 143, 144, 145, 146, 148, 149, 150, 151, 152, 153, 154, 778, 779, 780, 781, 782, 808, 809, 810, 811] (by decide +kernel) (by decide +kernel)
set_option maxRecDepth 20000 in
theorem gL_law_X7_shift : GoodIn wsL_law (wsV RL 78 RX7 yX7_shift wsX7_shift) := goodIn_app (goodIn_of _ (by decide +kernel)) ggL_law_X7_shift
set_option maxRecDepth 20000 in
theorem ggL_law_X8_shift : GoodIn wsL_law wsX8_shift := goodIn_r _ [410, 411, 78, 58, 159, 160, 5, 161, 162, 79, 80, 81, 412, 413, 414, 415, 256, 257, 258, 416, 417, 418, 163, 164, 165, 783, 784, 785, 786, 787, 788, 789, 790, 791, 792, 793, 794, 795, 796, 797, 798, 799, 800, 801, 802, 803, 804, 805] (by decide +kernel) (by decide +kernel)
set_option maxRecDepth 20000 in
theorem gL_law_X8_shift : GoodIn wsL_law (wsV RL 82 RX8 yX8_shift wsX8_shift) := goodIn_app (goodIn_of _ (by decide +kernel)) ggL_law_X8_shift
set_option maxRecDepth 20000 in
theorem ggL_law_X7_form : GoodIn wsL_law wsX7_form := goodIn_r _ [422, 20, 147, 136, 137, 2, 138, 423, 424, 362, 425, 426, 427, 428, 403, 402, 429, 361, 363, 364, 365, 366, 367, 368, 369, 370, 371, 372, 373, 374, 375, 376, 377, 378, 379, 380, 381, 382, 430, 431, 432, 778, 779, 780, 781, 782, 808, 809, 810, 811] (by decide +kernel) (by decide +kernel)
set_option maxRecDepth 20000 in
theorem gL_law_X7_form : GoodIn wsL_law (wsV RL 83 RX7 yX7_form wsX7_form) := goodIn_app (goodIn_of _ (by decide +kernel)) ggL_law_X7_form
set_option maxRecDepth 20000 in
theorem ggL_law_X8_form : GoodIn wsL_law wsX8_form := goodIn_r _ [436, 58, 159, 160, 5, 161, 162, 79, 80, 81, 437, 438, 439, 440, 62, 441, 442, 443, 444, 445, 387, 388, 389, 390, 57, 256, 257, 258, 412, 413, 414, 415, 78, 416, 417, 418, 446, 447, 448, 449, 450, 451, 452, 453, 783, 784, 785, 786, 787, 788, 789, 790, 791, 792, 793, 794, 795, 796, 797, 798, 799, 800, 801, 802, 803, 804, 805] (by decide +kernel) (by decide +kernel)
set_option maxRecDepth 20000 in
theorem gL_law_X8_form : GoodIn wsL_law (wsV RL 86 RX8 yX8_form wsX8_form) := goodIn_app (goodIn_of _ (by decide +kernel)) ggL_law_X8_form
set_option maxRecDepth 20000 in
theorem ggL_law_X7_like : GoodIn wsL_law wsX7_like := goodIn_r _ [457, 20, 147, 136, 137, 2, 138, 423, 424, 362, 425, 426, 427, 428, 403, 402, 429, 361, 363, 364, 365, 366, 367, 368, 369, 370, 371, 372, 373, 374, 375, 376, 377, 378, 379, 380, 381, 382, 430, 431, 432, 778, 779, 780, 781, 782, 808, 809, 810, 811] (by decide +kernel) (by decide +kernel)
set_option maxRecDepth 20000 in
theorem gL_law_X7_like : GoodIn wsL_law (wsV RL 87 RX7 yX7_like wsX7_like) := goodIn_app (goodIn_of _ (by decide +kernel)) ggL_law_X7_like
set_option maxRecDepth 20000 in
theorem ggL_law_X8_like : GoodIn wsL_law wsX8_like := goodIn_r _ [461, 58, 159, 160, 5, 161, 162, 79, 80, 81, 437, 438, 439, 440, 62, 441, 442, 443, 444, 445, 387, 388, 389, 390, 57, 256, 257, 258, 412, 413, 414, 415, 78, 416, 417, 418, 446, 447, 448, 449, 450, 451, 452, 453, 783, 784, 785, 786, 787, 788, 789, 790, 791, 792, 793, 794, 795, 796, 797, 798, 799, 800, 801, 802, 803, 804, 805] (by decide +kernel) (by decide +kernel)
set_option maxRecDepth 20000 in
theorem gL_law_X8_like : GoodIn wsL_law (wsV RL 90 RX8 yX8_like wsX8_like) := goodIn_app (goodIn_of _ (by decide +kernel)) ggL_law_X8_like
set_option maxRecDepth 20000 in
theorem ggL_law_X7_itself : GoodIn wsL_law wsX7_itself := goodIn_r _ [465, 20, 147, 136, 137, 2, 138, 466, 467, 362, 468, 426, 427, 428, 403, 402, 429, 361, 363, 364, 365, 366, 367, 368, 369, 370, 371, 372, 373, 374, 375, 376, 377, 378, 379, 380, 381, 382, 778, 779, 780, 781, 782, 808, 809, 810, 811] (by decide +kernel) (by decide +kernel)
set_option maxRecDepth 20000 in
theorem gL_law_X7_itself : GoodIn wsL_law (wsV RL 91 RX7 yX7_itself wsX7_itself) := goodIn_app (goodIn_of _ (by decide +kernel)) ggL_law_X7_itself
set_option maxRecDepth 20000 in
theorem ggL_law_X8_itself : GoodIn wsL_law wsX8_itself := goodIn_r _ [472, 58, 159, 160, 5, 161, 162, 79, 80, 81, 387, 388, 389, 390, 57, 256, 257, 258, 412, 413, 414, 415, 78, 416, 417, 418, 783, 784, 785, 786, 787, 788, 789, 790, 791, 792, 793, 794, 795, 796, 797, 798, 799, 800, 801, 802, 803, 804, 805] (by decide +kernel) (by decide +kernel)
set_option maxRecDepth 20000 in
theorem gL_law_X8_itself : GoodIn wsL_law (wsV RL 94 RX8 yX8_itself wsX8_itself) := goodIn_app (goodIn_of _ (by decide +kernel)) ggL_law_X8_itself
set_option maxRecDepth 20000 in
theorem ggL_law_X7_both : GoodIn wsL_law wsX7_both := goodIn_r _ [476, 20, 147, 136, 137, 2, 138, 477, 478, 479, 194, 143, 144, 145, 146, 148, 149, 150, 151, 152, 153, 154, 778, 779, 780, 781, 782, 808, 809, 810, 811] (by decide +kernel) (by decide +kernel)
set_option maxRecDepth 20000 in
theorem gL_law_X7_both : GoodIn wsL_law (wsV RL 95 RX7 yX7_both wsX7_both) := goodIn_app (goodIn_of _ (by decide +kernel)) ggL_law_X7_both
