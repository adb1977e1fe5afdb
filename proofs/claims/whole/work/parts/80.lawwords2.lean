set_option maxRecDepth 20000 in
theorem li_r12 : ∀ w ∈ wsL_law_r12, w ∈ lw_tbl := fun w h => (goodIn_p wsL_law_r12 [244, 247, 709, 713, 252, 255] (by decide +kernel) (by decide +kernel) w h).1
set_option maxRecDepth 20000 in
theorem li_r13 : ∀ w ∈ wsL_law_r13, w ∈ lw_tbl := fun w h => (goodIn_p wsL_law_r13 [259, 717, 263, 266, 269, 272, 275] (by decide +kernel) (by decide +kernel) w h).1
set_option maxRecDepth 20000 in
theorem li_r14 : ∀ w ∈ wsL_law_r14, w ∈ lw_tbl := fun w h => (goodIn_p wsL_law_r14 [279, 282, 285, 721, 725, 729] (by decide +kernel) (by decide +kernel) w h).1
set_option maxRecDepth 20000 in
theorem li_r15 : ∀ w ∈ wsL_law_r15, w ∈ lw_tbl := fun w h => (goodIn_p wsL_law_r15 [733, 737, 289, 292, 295, 741, 299] (by decide +kernel) (by decide +kernel) w h).1
set_option maxRecDepth 20000 in
theorem li_r16 : ∀ w ∈ wsL_law_r16, w ∈ lw_tbl := fun w h => (goodIn_p wsL_law_r16 [302, 305, 309, 314, 317] (by decide +kernel) (by decide +kernel) w h).1
set_option maxRecDepth 20000 in
theorem li_r17 : ∀ w ∈ wsL_law_r17, w ∈ lw_tbl := fun w h => (goodIn_p wsL_law_r17 [745, 749, 325, 328, 331, 336] (by decide +kernel) (by decide +kernel) w h).1
set_option maxRecDepth 20000 in
theorem li_r18 : ∀ w ∈ wsL_law_r18, w ∈ lw_tbl := fun w h => (goodIn_p wsL_law_r18 [753, 758, 761, 340, 343, 346, 350] (by decide +kernel) (by decide +kernel) w h).1
set_option maxRecDepth 20000 in
theorem li_r19 : ∀ w ∈ wsL_law_r19, w ∈ lw_tbl := fun w h => (goodIn_p wsL_law_r19 [765, 769, 773, 777, 780] (by decide +kernel) (by decide +kernel) w h).1
set_option maxRecDepth 20000 in
theorem li_r20 : ∀ w ∈ wsL_law_r20, w ∈ lw_tbl := fun w h => (goodIn_p wsL_law_r20 [355, 785, 359, 362, 789, 366, 369] (by decide +kernel) (by decide +kernel) w h).1
set_option maxRecDepth 20000 in
theorem li_r21 : ∀ w ∈ wsL_law_r21, w ∈ lw_tbl := fun w h => (goodIn_p wsL_law_r21 [793, 373, 376, 379, 382, 385, 388] (by decide +kernel) (by decide +kernel) w h).1
set_option maxRecDepth 20000 in
theorem li_r22 : ∀ w ∈ wsL_law_r22, w ∈ lw_tbl := fun w h => (goodIn_p wsL_law_r22 [392, 797, 800, 805, 396, 809] (by decide +kernel) (by decide +kernel) w h).1
