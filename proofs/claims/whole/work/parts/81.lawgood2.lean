set_option maxRecDepth 20000 in
theorem ggL_law_X8_both : GoodIn wsL_law wsX8_both := goodIn_r _ [483, 78, 58, 204, 159, 160, 5, 161, 162, 79, 80, 81, 163, 164, 165, 783, 784, 785, 786, 787, 788, 789, 790, 791, 792, 793, 794, 795, 796, 797, 798, 799, 800, 801, 802, 803, 804, 805] (by decide +kernel) (by decide +kernel)
set_option maxRecDepth 20000 in
theorem gL_law_X8_both : GoodIn wsL_law (wsV RL 99 RX8 yX8_both wsX8_both) := goodIn_app (goodIn_of _ (by decide +kernel)) ggL_law_X8_both
set_option maxRecDepth 20000 in
theorem ggL_law_X7_ahead : GoodIn wsL_law wsX7_ahead := goodIn_r _ [487, 20, 147, 136, 137, 2, 138, 488, 489, 490, 491, 492, 493, 494, 495, 496, 497, 498, 499, 500, 501, 502, 503, 504, 505, 506, 507, 148, 149, 150, 151, 152, 153, 154, 778, 779, 780, 781, 782, 808, 809, 810, 811] (by decide +kernel) (by decide +kernel)
set_option maxRecDepth 20000 in
theorem gL_law_X7_ahead : GoodIn wsL_law (wsV RL 100 RX7 yX7_ahead wsX7_ahead) := goodIn_app (goodIn_of _ (by decide +kernel)) ggL_law_X7_ahead
set_option maxRecDepth 20000 in
theorem ggL_law_X8_ahead : GoodIn wsL_law wsX8_ahead := goodIn_r _ [511, 58, 159, 160, 5, 161, 162, 79, 80, 81, 512, 513, 514, 78, 515, 516, 95, 517, 518, 519, 163, 164, 165, 783, 784, 785, 786, 787, 788, 789, 790, 791, 792, 793, 794, 795, 796, 797, 798, 799, 800, 801, 802, 803, 804, 805] (by decide +kernel) (by decide +kernel)
set_option maxRecDepth 20000 in
theorem gL_law_X8_ahead : GoodIn wsL_law (wsV RL 103 RX8 yX8_ahead wsX8_ahead) := goodIn_app (goodIn_of _ (by decide +kernel)) ggL_law_X8_ahead
set_option maxRecDepth 20000 in
theorem ggL_law_X7_cut : GoodIn wsL_law wsX7_cut := goodIn_r _ [523, 20, 147, 194, 136, 137, 2, 138, 488, 489, 490, 491, 492, 493, 494, 495, 496, 497, 498, 499, 500, 501, 502, 503, 504, 505, 506, 507, 217, 218, 172, 219, 220, 221, 222, 223, 224, 225, 226, 227, 228, 229, 230, 231, 232, 233, 234, 235, 236, 237, 238, 239, 240, 241, 242, 243, 778, 779, 780, 781, 782, 808, 809, 810, 811] (by decide +kernel) (by decide +kernel)
set_option maxRecDepth 20000 in
theorem gL_law_X7_cut : GoodIn wsL_law (wsV RL 104 RX7 yX7_cut wsX7_cut) := goodIn_app (goodIn_of _ (by decide +kernel)) ggL_law_X7_cut
set_option maxRecDepth 20000 in
theorem ggL_law_X8_cut : GoodIn wsL_law wsX8_cut := goodIn_r _ [527, 58, 204, 159, 160, 5, 161, 162, 79, 80, 81, 512, 513, 514, 78, 515, 516, 95, 517, 518, 519, 248, 249, 250, 251, 252, 253, 254, 255, 256, 257, 258, 259, 260, 261, 262, 56, 783, 784, 785, 786, 787, 788, 789, 790, 791, 792, 793, 794, 795, 796, 797, 798, 799, 800, 801, 802, 803, 804, 805] (by decide +kernel) (by decide +kernel)
set_option maxRecDepth 20000 in
theorem gL_law_X8_cut : GoodIn wsL_law (wsV RL 107 RX8 yX8_cut wsX8_cut) := goodIn_app (goodIn_of _ (by decide +kernel)) ggL_law_X8_cut
set_option maxRecDepth 20000 in
theorem ggL_law_X7_halves : GoodIn wsL_law wsX7_halves := goodIn_r _ [531, 20, 147, 136, 137, 2, 138, 532, 533, 490, 534, 535, 492, 493, 494, 495, 496, 497, 536, 499, 500, 501, 502, 503, 504, 505, 506, 507, 537, 149, 150, 151, 152, 153, 154, 778, 779, 780, 781, 782, 808, 809, 810, 811] (by decide +kernel) (by decide +kernel)
set_option maxRecDepth 20000 in
theorem gL_law_X7_halves : GoodIn wsL_law (wsV RL 108 RX7 yX7_halves wsX7_halves) := goodIn_app (goodIn_of _ (by decide +kernel)) ggL_law_X7_halves
set_option maxRecDepth 20000 in
theorem ggL_law_X8_halves : GoodIn wsL_law wsX8_halves := goodIn_r _ [541, 58, 159, 160, 5, 161, 162, 79, 80, 81, 512, 513, 514, 78, 515, 516, 95, 517, 518, 519, 163, 164, 165, 783, 784, 785, 786, 787, 788, 789, 790, 791, 792, 793, 794, 795, 796, 797, 798, 799, 800, 801, 802, 803, 804, 805] (by decide +kernel) (by decide +kernel)
set_option maxRecDepth 20000 in
theorem gL_law_X8_halves : GoodIn wsL_law (wsV RL 111 RX8 yX8_halves wsX8_halves) := goodIn_app (goodIn_of _ (by decide +kernel)) ggL_law_X8_halves
set_option maxRecDepth 20000 in
theorem ggL_law_X7_split : GoodIn wsL_law wsX7_split := goodIn_r _ [545, 20, 147, 194, 136, 137, 2, 138, 488, 489, 490, 491, 492, 493, 494, 495, 496, 497, 498, 499, 500, 501, 502, 503, 504, 505, 506, 507, 143, 144, 145, 146, 148, 149, 150, 151, 152, 153, 154, 778, 779, 780, 781, 782, 808, 809, 810, 811] (by decide +kernel) (by decide +kernel)
set_option maxRecDepth 20000 in
theorem gL_law_X7_split : GoodIn wsL_law (wsV RL 112 RX7 yX7_split wsX7_split) := goodIn_app (goodIn_of _ (by decide +kernel)) ggL_law_X7_split
set_option maxRecDepth 20000 in
theorem ggL_law_X8_split : GoodIn wsL_law wsX8_split := goodIn_r _ [549, 58, 204, 159, 160, 5, 161, 162, 79, 80, 81, 512, 513, 514, 78, 515, 516, 95, 517, 518, 519, 163, 164, 165, 783, 784, 785, 786, 787, 788, 789, 790, 791, 792, 793, 794, 795, 796, 797, 798, 799, 800, 801, 802, 803, 804, 805] (by decide +kernel) (by decide +kernel)
set_option maxRecDepth 20000 in
theorem gL_law_X8_split : GoodIn wsL_law (wsV RL 115 RX8 yX8_split wsX8_split) := goodIn_app (goodIn_of _ (by decide +kernel)) ggL_law_X8_split
set_option maxRecDepth 20000 in
theorem ggL_law_X7_part : GoodIn wsL_law wsX7_part := goodIn_r _ [553, 20, 147, 136, 137, 2, 138, 554, 555, 172, 556, 220, 221, 222, 223, 224, 225, 226, 227, 228, 229, 230, 231, 232, 233, 234, 235, 236, 237, 238, 239, 240, 241, 242, 243, 143, 144, 145, 146, 148, 149, 150, 151, 152, 153, 154, 778, 779, 780, 781, 782, 808, 809, 810, 811] (by decide +kernel) (by decide +kernel)
set_option maxRecDepth 20000 in
theorem gL_law_X7_part : GoodIn wsL_law (wsV RL 116 RX7 yX7_part wsX7_part) := goodIn_app (goodIn_of _ (by decide +kernel)) ggL_law_X7_part
set_option maxRecDepth 20000 in
theorem ggL_law_X8_part : GoodIn wsL_law wsX8_part := goodIn_r _ [560, 58, 159, 160, 5, 161, 162, 79, 80, 81, 252, 253, 254, 255, 204, 256, 257, 258, 259, 260, 261, 262, 56, 163, 164, 165, 783, 784, 785, 786, 787, 788, 789, 790, 791, 792, 793, 794, 795, 796, 797, 798, 799, 800, 801, 802, 803, 804, 805] (by decide +kernel) (by decide +kernel)
set_option maxRecDepth 20000 in
theorem gL_law_X8_part : GoodIn wsL_law (wsV RL 119 RX8 yX8_part wsX8_part) := goodIn_app (goodIn_of _ (by decide +kernel)) ggL_law_X8_part
set_option maxRecDepth 20000 in
theorem ggL_law_X7_lay : GoodIn wsL_law wsX7_lay := goodIn_r _ [564, 20, 147, 565, 566, 567, 136, 137, 2, 138, 778, 779, 780, 781, 782, 808, 809, 810, 811] (by decide +kernel) (by decide +kernel)
set_option maxRecDepth 20000 in
theorem gL_law_X7_lay : GoodIn wsL_law (wsV RL 120 RX7 yX7_lay wsX7_lay) := goodIn_app (goodIn_of _ (by decide +kernel)) ggL_law_X7_lay
set_option maxRecDepth 20000 in
theorem ggL_law_X8_lay : GoodIn wsL_law wsX8_lay := goodIn_r _ [571, 58, 572, 63, 64, 159, 160, 5, 161, 162, 79, 80, 81, 783, 784, 785, 786, 787, 788, 789, 790, 791, 792, 793, 794, 795, 796, 797, 798, 799, 800, 801, 802, 803, 804, 805] (by decide +kernel) (by decide +kernel)
set_option maxRecDepth 20000 in
theorem gL_law_X8_lay : GoodIn wsL_law (wsV RL 123 RX8 yX8_lay wsX8_lay) := goodIn_app (goodIn_of _ (by decide +kernel)) ggL_law_X8_lay
set_option maxRecDepth 20000 in
theorem ggL_law_X7_lift : GoodIn wsL_law wsX7_lift := goodIn_r _ [576, 20, 565, 778, 779, 780, 781, 782, 808, 809, 810, 811] (by decide +kernel) (by decide +kernel)
set_option maxRecDepth 20000 in
theorem gL_law_X7_lift : GoodIn wsL_law (wsV RL 124 RX7 yX7_lift wsX7_lift) := goodIn_app (goodIn_of _ (by decide +kernel)) ggL_law_X7_lift
set_option maxRecDepth 20000 in
theorem ggL_law_X8_lift : GoodIn wsL_law wsX8_lift := goodIn_r _ [580, 572, 783, 784, 785, 786, 787, 788, 789, 790, 791, 792, 793, 794, 795, 796, 797, 798, 799, 800, 801, 802, 803, 804, 805] (by decide +kernel) (by decide +kernel)
set_option maxRecDepth 20000 in
theorem gL_law_X8_lift : GoodIn wsL_law (wsV RL 127 RX8 yX8_lift wsX8_lift) := goodIn_app (goodIn_of _ (by decide +kernel)) ggL_law_X8_lift
set_option maxRecDepth 20000 in
theorem ggL_law_X7_piece : GoodIn wsL_law wsX7_piece := goodIn_r _ [584, 20, 566, 585, 586, 587, 2, 588, 565, 778, 779, 780, 781, 782, 808, 809, 810, 811] (by decide +kernel) (by decide +kernel)
set_option maxRecDepth 20000 in
theorem gL_law_X7_piece : GoodIn wsL_law (wsV RL 128 RX7 yX7_piece wsX7_piece) := goodIn_app (goodIn_of _ (by decide +kernel)) ggL_law_X7_piece
set_option maxRecDepth 20000 in
theorem ggL_law_X8_piece : GoodIn wsL_law wsX8_piece := goodIn_r _ [592, 63, 593, 594, 595, 5, 596, 572, 79, 80, 81, 783, 784, 785, 786, 787, 788, 789, 790, 791, 792, 793, 794, 795, 796, 797, 798, 799, 800, 801, 802, 803, 804, 805] (by decide +kernel) (by decide +kernel)
set_option maxRecDepth 20000 in
theorem gL_law_X8_piece : GoodIn wsL_law (wsV RL 131 RX8 yX8_piece wsX8_piece) := goodIn_app (goodIn_of _ (by decide +kernel)) ggL_law_X8_piece
set_option maxRecDepth 20000 in
theorem ggL_law_X7_places : GoodIn wsL_law wsX7_places := goodIn_r _ [600, 25, 20, 147, 585, 586, 587, 2, 588, 565, 136, 137, 138, 601, 602, 603, 24, 604, 46, 605, 606, 47, 607, 361, 362, 363, 364, 365, 366, 367, 368, 369, 370, 371, 372, 373, 374, 375, 376, 377, 378, 379, 380, 381, 382, 608, 427, 428, 403, 402, 609, 610, 611, 612, 613, 614, 615, 396, 397, 398, 399, 400, 401, 616, 405, 406, 617, 618, 619, 620, 621, 45, 778, 779, 780, 781, 782, 808, 809, 810, 811, 812, 813, 814, 815, 816, 817, 818] (by decide +kernel) (by decide +kernel)
set_option maxRecDepth 20000 in
theorem gL_law_X7_places : GoodIn wsL_law (wsV RL 132 RX7 yX7_places wsX7_places) := goodIn_app (goodIn_of _ (by decide +kernel)) ggL_law_X7_places
set_option maxRecDepth 20000 in
theorem ggL_law_X8_places : GoodIn wsL_law wsX8_places := goodIn_r _ [625, 58, 66, 593, 594, 595, 5, 596, 572, 79, 80, 81, 159, 160, 161, 162, 626, 627, 628, 629, 63, 64, 445, 62, 204, 65, 441, 442, 443, 444, 387, 388, 389, 390, 57, 256, 257, 258, 412, 413, 414, 415, 78, 416, 417, 418, 446, 447, 448, 449, 450, 451, 452, 453, 783, 784, 785, 786, 787, 788, 789, 790, 791, 792, 793, 794, 795, 796, 797, 798, 799, 800, 801, 802, 803, 804, 805] (by decide +kernel) (by decide +kernel)
set_option maxRecDepth 20000 in
theorem gL_law_X8_places : GoodIn wsL_law (wsV RL 135 RX8 yX8_places wsX8_places) := goodIn_app (goodIn_of _ (by decide +kernel)) ggL_law_X8_places
set_option maxRecDepth 20000 in
theorem ggL_law_X7_place : GoodIn wsL_law wsX7_place := goodIn_r _ [633, 25, 20, 147, 585, 586, 587, 2, 588, 565, 136, 137, 138, 601, 602, 603, 24, 604, 46, 605, 606, 47, 607, 361, 362, 363, 364, 365, 366, 367, 368, 369, 370, 371, 372, 373, 374, 375, 376, 377, 378, 379, 380, 381, 382, 608, 427, 428, 403, 402, 609, 610, 611, 612, 613, 614, 615, 396, 397, 398, 399, 400, 401, 616, 405, 406, 617, 618, 619, 620, 621, 45, 634, 635, 636, 637, 430, 431, 432, 778, 779, 780, 781, 782, 808, 809, 810, 811, 812, 813, 814, 815, 816, 817, 818] (by decide +kernel) (by decide +kernel)
set_option maxRecDepth 20000 in
theorem gL_law_X7_place : GoodIn wsL_law (wsV RL 136 RX7 yX7_place wsX7_place) := goodIn_app (goodIn_of _ (by decide +kernel)) ggL_law_X7_place
set_option maxRecDepth 20000 in
theorem ggL_law_X8_place : GoodIn wsL_law wsX8_place := goodIn_r _ [641, 58, 66, 65, 593, 594, 595, 5, 596, 572, 79, 80, 81, 159, 160, 161, 162, 626, 627, 628, 629, 63, 64, 445, 62, 204, 441, 442, 443, 444, 387, 388, 389, 390, 57, 256, 257, 258, 412, 413, 414, 415, 78, 416, 417, 418, 446, 447, 448, 449, 450, 451, 452, 453, 783, 784, 785, 786, 787, 788, 789, 790, 791, 792, 793, 794, 795, 796, 797, 798, 799, 800, 801, 802, 803, 804, 805] (by decide +kernel) (by decide +kernel)
set_option maxRecDepth 20000 in
theorem gL_law_X8_place : GoodIn wsL_law (wsV RL 140 RX8 yX8_place wsX8_place) := goodIn_app (goodIn_of _ (by decide +kernel)) ggL_law_X8_place
set_option maxRecDepth 20000 in
theorem ggL_law_X7_ways : GoodIn wsL_law wsX7_ways := goodIn_r _ [645, 25, 20, 147, 136, 137, 2, 138, 646, 647, 648, 24, 649, 650, 50, 51, 606, 651, 149, 150, 151, 152, 153, 154, 652, 602, 603, 604, 46, 605, 47, 607, 361, 362, 363, 364, 365, 366, 367, 368, 369, 370, 371, 372, 373, 374, 375, 376, 377, 378, 379, 380, 381, 382, 608, 427, 428, 403, 402, 609, 610, 611, 612, 613, 614, 615, 396, 397, 398, 399, 400, 401, 616, 405, 406, 617, 618, 619, 620, 621, 45, 653, 654, 655, 656, 657, 658, 659, 660, 49, 48, 661, 662, 663, 664, 430, 431, 432, 665, 666, 667, 668, 778, 779, 780, 781, 782, 808, 809, 810, 811, 812, 813, 814, 815, 816, 817, 818] (by decide +kernel) (by decide +kernel)
set_option maxRecDepth 20000 in
theorem gL_law_X7_ways : GoodIn wsL_law (wsV RL 141 RX7 yX7_ways wsX7_ways) := goodIn_app (goodIn_of _ (by decide +kernel)) ggL_law_X7_ways
set_option maxRecDepth 20000 in
theorem ggL_law_X8_ways : GoodIn wsL_law wsX8_ways := goodIn_r _ [672, 58, 159, 160, 5, 161, 162, 79, 80, 81, 673, 674, 675, 676, 572, 63, 68, 67, 66, 65, 204, 626, 627, 628, 629, 64, 445, 62, 441, 442, 443, 444, 387, 388, 389, 390, 57, 256, 257, 258, 412, 413, 414, 415, 78, 416, 417, 418, 446, 447, 448, 449, 450, 451, 452, 453, 163, 164, 165, 677, 678, 679, 680, 783, 784, 785, 786, 787, 788, 789, 790, 791, 792, 793, 794, 795, 796, 797, 798, 799, 800, 801, 802, 803, 804, 805] (by decide +kernel) (by decide +kernel)
set_option maxRecDepth 20000 in
theorem gL_law_X8_ways : GoodIn wsL_law (wsV RL 144 RX8 yX8_ways wsX8_ways) := goodIn_app (goodIn_of _ (by decide +kernel)) ggL_law_X8_ways
set_option maxRecDepth 20000 in
theorem ggL_law_X7_first : GoodIn wsL_law wsX7_first := goodIn_r _ [684, 25, 20, 147, 685, 136, 137, 2, 138, 585, 586, 587, 588, 565, 646, 647, 648, 24, 649, 650, 50, 51, 606, 651, 149, 150, 151, 152, 153, 154, 652, 602, 603, 604, 46, 605, 47, 607, 361, 362, 363, 364, 365, 366, 367, 368, 369, 370, 371, 372, 373, 374, 375, 376, 377, 378, 379, 380, 381, 382, 608, 427, 428, 403, 402, 609, 610, 611, 612, 613, 614, 615, 396, 397, 398, 399, 400, 401, 616, 405, 406, 617, 618, 619, 620, 621, 45, 653, 654, 655, 656, 657, 658, 659, 660, 49, 48, 661, 662, 663, 664, 430, 431, 432, 665, 666, 667, 668, 778, 779, 780, 781, 782, 808, 809, 810, 811, 812, 813, 814, 815, 816, 817, 818] (by decide +kernel) (by decide +kernel)
set_option maxRecDepth 20000 in
theorem gL_law_X7_first : GoodIn wsL_law (wsV RL 145 RX7 yX7_first wsX7_first) := goodIn_app (goodIn_of _ (by decide +kernel)) ggL_law_X7_first
set_option maxRecDepth 20000 in
theorem ggL_law_X8_first : GoodIn wsL_law wsX8_first := goodIn_r _ [689, 58, 68, 159, 160, 5, 161, 162, 79, 80, 81, 593, 594, 595, 596, 572, 673, 674, 675, 676, 63, 67, 66, 65, 204, 626, 627, 628, 629, 64, 445, 62, 441, 442, 443, 444, 387, 388, 389, 390, 57, 256, 257, 258, 412, 413, 414, 415, 78, 416, 417, 418, 446, 447, 448, 449, 450, 451, 452, 453, 163, 164, 165, 677, 678, 679, 680, 783, 784, 785, 786, 787, 788, 789, 790, 791, 792, 793, 794, 795, 796, 797, 798, 799, 800, 801, 802, 803, 804, 805] (by decide +kernel) (by decide +kernel)
set_option maxRecDepth 20000 in
theorem gL_law_X8_first : GoodIn wsL_law (wsV RL 148 RX8 yX8_first wsX8_first) := goodIn_app (goodIn_of _ (by decide +kernel)) ggL_law_X8_first
set_option maxRecDepth 20000 in
theorem ggL_law_X7_idle : GoodIn wsL_law wsX7_idle := goodIn_r _ [693, 20, 565, 25, 147, 136, 137, 2, 138, 601, 602, 603, 24, 604, 46, 605, 606, 47, 607, 361, 362, 363, 364, 365, 366, 367, 368, 369, 370, 371, 372, 373, 374, 375, 376, 377, 378, 379, 380, 381, 382, 608, 427, 428, 403, 402, 609, 610, 611, 612, 613, 614, 615, 396, 397, 398, 399, 400, 401, 616, 405, 406, 617, 618, 619, 620, 621, 45, 778, 779, 780, 781, 782, 808, 809, 810, 811, 812, 813, 814, 815, 816, 817, 818] (by decide +kernel) (by decide +kernel)
set_option maxRecDepth 20000 in
theorem gL_law_X7_idle : GoodIn wsL_law (wsV RL 149 RX7 yX7_idle wsX7_idle) := goodIn_app (goodIn_of _ (by decide +kernel)) ggL_law_X7_idle
set_option maxRecDepth 20000 in
theorem ggL_law_X8_idle : GoodIn wsL_law wsX8_idle := goodIn_r _ [697, 572, 58, 66, 159, 160, 5, 161, 162, 79, 80, 81, 626, 627, 628, 629, 63, 64, 445, 62, 204, 65, 441, 442, 443, 444, 387, 388, 389, 390, 57, 256, 257, 258, 412, 413, 414, 415, 78, 416, 417, 418, 446, 447, 448, 449, 450, 451, 452, 453, 783, 784, 785, 786, 787, 788, 789, 790, 791, 792, 793, 794, 795, 796, 797, 798, 799, 800, 801, 802, 803, 804, 805] (by decide +kernel) (by decide +kernel)
set_option maxRecDepth 20000 in
theorem gL_law_X8_idle : GoodIn wsL_law (wsV RL 152 RX8 yX8_idle wsX8_idle) := goodIn_app (goodIn_of _ (by decide +kernel)) ggL_law_X8_idle
set_option maxRecDepth 20000 in
theorem ggL_law_X7_grown : GoodIn wsL_law wsX7_grown := goodIn_r _ [701, 20, 147, 136, 137, 2, 138, 702, 703, 172, 704, 220, 224, 225, 226, 227, 228, 229, 230, 231, 232, 233, 234, 235, 236, 237, 238, 239, 240, 241, 242, 243, 148, 149, 150, 151, 152, 153, 154, 778, 779, 780, 781, 782, 808, 809, 810, 811] (by decide +kernel) (by decide +kernel)
set_option maxRecDepth 20000 in
theorem gL_law_X7_grown : GoodIn wsL_law (wsV RL 153 RX7 yX7_grown wsX7_grown) := goodIn_app (goodIn_of _ (by decide +kernel)) ggL_law_X7_grown
set_option maxRecDepth 20000 in
theorem ggL_law_X8_grown : GoodIn wsL_law wsX8_grown := goodIn_r _ [708, 58, 159, 160, 5, 161, 162, 79, 80, 81, 709, 710, 711, 712, 56, 256, 257, 258, 783, 784, 785, 786, 787, 788, 789, 790, 791, 792, 793, 794, 795, 796, 797, 798, 799, 800, 801, 802, 803, 804, 805] (by decide +kernel) (by decide +kernel)
set_option maxRecDepth 20000 in
theorem gL_law_X8_grown : GoodIn wsL_law (wsV RL 156 RX8 yX8_grown wsX8_grown) := goodIn_app (goodIn_of _ (by decide +kernel)) ggL_law_X8_grown
set_option maxRecDepth 20000 in
theorem ggL_law_X7_forms : GoodIn wsL_law wsX7_forms := goodIn_r _ [716, 20, 147, 136, 137, 2, 138, 717, 718, 719, 720, 27, 702, 703, 172, 704, 220, 224, 225, 226, 227, 228, 229, 230, 231, 232, 233, 234, 235, 236, 237, 238, 239, 240, 241, 242, 243, 423, 424, 362, 425, 426, 427, 428, 403, 402, 429, 361, 363, 364, 365, 366, 367, 368, 369, 370, 371, 372, 373, 374, 375, 376, 377, 378, 379, 380, 381, 382, 430, 431, 432, 721, 609, 610, 778, 779, 780, 781, 782, 808, 809, 810, 811] (by decide +kernel) (by decide +kernel)
set_option maxRecDepth 20000 in
theorem gL_law_X7_forms : GoodIn wsL_law (wsV RL 157 RX7 yX7_forms wsX7_forms) := goodIn_app (goodIn_of _ (by decide +kernel)) ggL_law_X7_forms
set_option maxRecDepth 20000 in
theorem ggL_law_X8_forms : GoodIn wsL_law wsX8_forms := goodIn_r _ [725, 58, 69, 159, 160, 5, 161, 162, 79, 80, 81, 709, 710, 711, 712, 56, 256, 257, 258, 437, 438, 439, 440, 62, 441, 442, 443, 444, 445, 387, 388, 389, 390, 57, 412, 413, 414, 415, 78, 416, 417, 418, 446, 447, 448, 449, 450, 451, 452, 453, 783, 784, 785, 786, 787, 788, 789, 790, 791, 792, 793, 794, 795, 796, 797, 798, 799, 800, 801, 802, 803, 804, 805] (by decide +kernel) (by decide +kernel)
set_option maxRecDepth 20000 in
theorem gL_law_X8_forms : GoodIn wsL_law (wsV RL 160 RX8 yX8_forms wsX8_forms) := goodIn_app (goodIn_of _ (by decide +kernel)) ggL_law_X8_forms
set_option maxRecDepth 20000 in
theorem ggL_law_X7_grow : GoodIn wsL_law wsX7_grow := goodIn_r _ [729, 20, 147, 136, 137, 2, 138, 702, 703, 172, 704, 220, 224, 225, 226, 227, 228, 229, 230, 231, 232, 233, 234, 235, 236, 237, 238, 239, 240, 241, 242, 243, 730, 731, 732, 148, 149, 150, 151, 152, 153, 154, 778, 779, 780, 781, 782, 808, 809, 810, 811] (by decide +kernel) (by decide +kernel)
set_option maxRecDepth 20000 in
theorem gL_law_X7_grow : GoodIn wsL_law (wsV RL 161 RX7 yX7_grow wsX7_grow) := goodIn_app (goodIn_of _ (by decide +kernel)) ggL_law_X7_grow
set_option maxRecDepth 20000 in
theorem ggL_law_X8_grow : GoodIn wsL_law wsX8_grow := goodIn_r _ [736, 58, 159, 160, 5, 161, 162, 79, 80, 81, 709, 710, 711, 712, 56, 256, 257, 258, 783, 784, 785, 786, 787, 788, 789, 790, 791, 792, 793, 794, 795, 796, 797, 798, 799, 800, 801, 802, 803, 804, 805] (by decide +kernel) (by decide +kernel)
set_option maxRecDepth 20000 in
theorem gL_law_X8_grow : GoodIn wsL_law (wsV RL 164 RX8 yX8_grow wsX8_grow) := goodIn_app (goodIn_of _ (by decide +kernel)) ggL_law_X8_grow
set_option maxRecDepth 20000 in
theorem ggL_law_X7_keep : GoodIn wsL_law wsX7_keep := goodIn_r _ [740, 21, 17, 18, 19, 20, 34, 35, 36, 11, 12, 26, 37, 38, 39, 40, 41, 741, 742, 743, 744, 745, 746, 747, 748, 778, 779, 780, 781, 782, 808, 809, 810, 811] (by decide +kernel) (by decide +kernel)
set_option maxRecDepth 20000 in
theorem gL_law_X7_keep : GoodIn wsL_law (wsV RL 165 RX7 yX7_keep wsX7_keep) := goodIn_app (goodIn_of _ (by decide +kernel)) ggL_law_X7_keep
set_option maxRecDepth 20000 in
theorem ggL_law_X8_keep : GoodIn wsL_law wsX8_keep := goodIn_r _ [752, 70, 71, 58, 72, 572, 73, 63, 74, 64, 79, 80, 5, 81, 753, 754, 755, 756, 783, 784, 785, 786, 787, 788, 789, 790, 791, 792, 793, 794, 795, 796, 797, 798, 799, 800, 801, 802, 803, 804, 805] (by decide +kernel) (by decide +kernel)
set_option maxRecDepth 20000 in
theorem gL_law_X8_keep : GoodIn wsL_law (wsV RL 168 RX8 yX8_keep wsX8_keep) := goodIn_app (goodIn_of _ (by decide +kernel)) ggL_law_X8_keep
set_option maxRecDepth 20000 in
theorem ggL_law_X7_again : GoodIn wsL_law wsX7_again := goodIn_r _ [760, 21, 20, 741, 742, 743, 19, 744, 37, 38, 40, 41, 745, 746, 747, 748, 778, 779, 780, 781, 782, 808, 809, 810, 811] (by decide +kernel) (by decide +kernel)
set_option maxRecDepth 20000 in
theorem gL_law_X7_again : GoodIn wsL_law (wsV RL 169 RX7 yX7_again wsX7_again) := goodIn_app (goodIn_of _ (by decide +kernel)) ggL_law_X7_again
set_option maxRecDepth 20000 in
theorem ggL_law_X8_again : GoodIn wsL_law wsX8_again := goodIn_r _ [764, 70, 58, 71, 72, 572, 63, 73, 64, 74, 79, 80, 5, 81, 753, 754, 755, 756, 783, 784, 785, 786, 787, 788, 789, 790, 791, 792, 793, 794, 795, 796, 797, 798, 799, 800, 801, 802, 803, 804, 805] (by decide +kernel) (by decide +kernel)
set_option maxRecDepth 20000 in
theorem gL_law_X8_again : GoodIn wsL_law (wsV RL 172 RX8 yX8_again wsX8_again) := goodIn_app (goodIn_of _ (by decide +kernel)) ggL_law_X8_again
set_option maxRecDepth 20000 in
theorem ggL_law_X7_count : GoodIn wsL_law wsX7_count := goodIn_r _ [768, 16, 86, 20, 565, 745, 746, 747, 19, 748, 37, 769, 770, 771, 772, 773, 149, 150, 151, 152, 153, 154, 778, 779, 780, 781, 782, 806, 807, 808, 809, 810, 811] (by decide +kernel) (by decide +kernel)
set_option maxRecDepth 20000 in
theorem gL_law_X7_count : GoodIn wsL_law (wsV RL 173 RX7 yX7_count wsX7_count) := goodIn_app (goodIn_of _ (by decide +kernel)) ggL_law_X7_count
set_option maxRecDepth 20000 in
theorem ggL_law_X8_count : GoodIn wsL_law wsX8_count := goodIn_r _ [777, 58, 96, 572, 163, 164, 5, 165, 753, 754, 755, 756, 783, 784, 785, 786, 787, 788, 789, 790, 791, 792, 793, 794, 795, 796, 797, 798, 799, 800, 801, 802, 803, 804, 805] (by decide +kernel) (by decide +kernel)
set_option maxRecDepth 20000 in
theorem gL_law_X8_count : GoodIn wsL_law (wsV RL 176 RX8 yX8_count wsX8_count) := goodIn_app (goodIn_of _ (by decide +kernel)) ggL_law_X8_count
