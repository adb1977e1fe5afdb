set_option maxRecDepth 20000 in
theorem ggX7_init_X6_init : GoodIn wsX7_init wsX6_init := goodIn_r _ [20, 21, 2, 3, 22, 23, 24, 43, 44] (by decide +kernel) (by decide +kernel)
set_option maxRecDepth 20000 in
theorem gX7_init_X6_init_n9 : GoodIn wsX7_init (wsX6_init) := ggX7_init_X6_init
set_option maxRecDepth 20000 in
theorem ggX7_init_X5_init : GoodIn wsX7_init wsX5_init := goodIn_r _ [26, 27, 2, 3, 17, 28, 29, 30, 31, 32, 50, 51, 52, 53] (by decide +kernel) (by decide +kernel)
set_option maxRecDepth 20000 in
theorem gX7_init_X5_init_n18 : GoodIn wsX7_init (wsX5_init) := ggX7_init_X5_init
set_option maxRecDepth 20000 in
theorem ggX7_init_X1_init : GoodIn wsX7_init wsX1_init := goodIn_r _ [34, 35, 2, 3, 17, 36, 22, 37, 38, 39, 40, 41, 42, 54, 55, 56, 57, 58, 59, 60] (by decide +kernel) (by decide +kernel)
set_option maxRecDepth 20000 in
theorem gX7_init_X1_init_n29 : GoodIn wsX7_init (wsX1_init) := ggX7_init_X1_init
theorem dX7_init_0 : decode cX7_init 0 = .ok (.aload_n 0, 1) := by decide +kernel
theorem dX7_init_1 : decode cX7_init 1 = .ok (.invokespecial 1, 3) := by decide +kernel
theorem dX7_init_4 : decode cX7_init 4 = .ok (.aload_n 0, 1) := by decide +kernel
theorem dX7_init_5 : decode cX7_init 5 = .ok (.new 7, 3) := by decide +kernel
theorem dX7_init_8 : decode cX7_init 8 = .ok (.dup, 1) := by decide +kernel
theorem dX7_init_9 : decode cX7_init 9 = .ok (.invokespecial 9, 3) := by decide +kernel
theorem dX7_init_12 : decode cX7_init 12 = .ok (.putfield 10, 3) := by decide +kernel
theorem dX7_init_15 : decode cX7_init 15 = .ok (.aload_n 0, 1) := by decide +kernel
theorem dX7_init_16 : decode cX7_init 16 = .ok (.new 16, 3) := by decide +kernel
theorem dX7_init_19 : decode cX7_init 19 = .ok (.dup, 1) := by decide +kernel
theorem dX7_init_20 : decode cX7_init 20 = .ok (.invokespecial 18, 3) := by decide +kernel
theorem dX7_init_23 : decode cX7_init 23 = .ok (.putfield 19, 3) := by decide +kernel
theorem dX7_init_26 : decode cX7_init 26 = .ok (.aload_n 0, 1) := by decide +kernel
theorem dX7_init_27 : decode cX7_init 27 = .ok (.iconst 2, 1) := by decide +kernel
theorem dX7_init_28 : decode cX7_init 28 = .ok (.anewarray 16, 3) := by decide +kernel
theorem dX7_init_31 : decode cX7_init 31 = .ok (.putfield 23, 3) := by decide +kernel
theorem dX7_init_34 : decode cX7_init 34 = .ok (.aload_n 0, 1) := by decide +kernel
theorem dX7_init_35 : decode cX7_init 35 = .ok (.new 27, 3) := by decide +kernel
theorem dX7_init_38 : decode cX7_init 38 = .ok (.dup, 1) := by decide +kernel
theorem dX7_init_39 : decode cX7_init 39 = .ok (.invokespecial 29, 3) := by decide +kernel
theorem dX7_init_42 : decode cX7_init 42 = .ok (.putfield 30, 3) := by decide +kernel
theorem dX7_init_45 : decode cX7_init 45 = .ok (.aload_n 0, 1) := by decide +kernel
theorem dX7_init_46 : decode cX7_init 46 = .ok (.bipush 64, 2) := by decide +kernel
theorem dX7_init_48 : decode cX7_init 48 = .ok (.newarray .long, 2) := by decide +kernel
theorem dX7_init_50 : decode cX7_init 50 = .ok (.putfield 34, 3) := by decide +kernel
theorem dX7_init_53 : decode cX7_init 53 = .ok (.return_, 1) := by decide +kernel
set_option maxRecDepth 20000 in
theorem ggX7_write_X6_append : GoodIn wsX7_write wsX6_append := goodIn_r _ [7, 8, 9, 15, 16] (by decide +kernel) (by decide +kernel)
set_option maxRecDepth 20000 in
theorem gX7_write_X6_append : GoodIn wsX7_write (wsV RX7 42 RX6 yX6_append wsX6_append) := goodIn_app (goodIn_of _ (by decide +kernel)) ggX7_write_X6_append
theorem dX7_write_0 : decode cX7_write 0 = .ok (.iload_n 1, 1) := by decide +kernel
theorem dX7_write_1 : decode cX7_write 1 = .ok (.iconst 1, 1) := by decide +kernel
theorem dX7_write_2 : decode cX7_write 2 = .ok (.if_icmp .lt 9, 3) := by decide +kernel
theorem dX7_write_5 : decode cX7_write 5 = .ok (.iload_n 1, 1) := by decide +kernel
theorem dX7_write_6 : decode cX7_write 6 = .ok (.bipush 8, 2) := by decide +kernel
theorem dX7_write_8 : decode cX7_write 8 = .ok (.if_icmp .le 6, 3) := by decide +kernel
theorem dX7_write_11 : decode cX7_write 11 = .ok (.bipush (-2), 2) := by decide +kernel
theorem dX7_write_13 : decode cX7_write 13 = .ok (.ireturn, 1) := by decide +kernel
theorem dX7_write_14 : decode cX7_write 14 = .ok (.aload_n 0, 1) := by decide +kernel
theorem dX7_write_15 : decode cX7_write 15 = .ok (.getfield 10, 3) := by decide +kernel
theorem dX7_write_18 : decode cX7_write 18 = .ok (.getfield 38, 3) := by decide +kernel
theorem dX7_write_21 : decode cX7_write 21 = .ok (.iload_n 1, 1) := by decide +kernel
theorem dX7_write_22 : decode cX7_write 22 = .ok (.iadd, 1) := by decide +kernel
theorem dX7_write_23 : decode cX7_write 23 = .ok (.bipush 16, 2) := by decide +kernel
theorem dX7_write_25 : decode cX7_write 25 = .ok (.if_icmp .le 6, 3) := by decide +kernel
theorem dX7_write_28 : decode cX7_write 28 = .ok (.bipush (-4), 2) := by decide +kernel
theorem dX7_write_30 : decode cX7_write 30 = .ok (.ireturn, 1) := by decide +kernel
theorem dX7_write_31 : decode cX7_write 31 = .ok (.aload_n 0, 1) := by decide +kernel
theorem dX7_write_32 : decode cX7_write 32 = .ok (.getfield 10, 3) := by decide +kernel
theorem dX7_write_35 : decode cX7_write 35 = .ok (.iload_n 1, 1) := by decide +kernel
theorem dX7_write_36 : decode cX7_write 36 = .ok (.lload_n 2, 1) := by decide +kernel
theorem dX7_write_37 : decode cX7_write 37 = .ok (.invokevirtual 42, 3) := by decide +kernel
theorem dX7_write_40 : decode cX7_write 40 = .ok (.aload_n 0, 1) := by decide +kernel
theorem dX7_write_41 : decode cX7_write 41 = .ok (.getfield 10, 3) := by decide +kernel
theorem dX7_write_44 : decode cX7_write 44 = .ok (.getfield 38, 3) := by decide +kernel
theorem dX7_write_47 : decode cX7_write 47 = .ok (.ireturn, 1) := by decide +kernel
theorem dX7_wipe_0 : decode cX7_wipe 0 = .ok (.aload_n 0, 1) := by decide +kernel
theorem dX7_wipe_1 : decode cX7_wipe 1 = .ok (.getfield 10, 3) := by decide +kernel
theorem dX7_wipe_4 : decode cX7_wipe 4 = .ok (.getfield 38, 3) := by decide +kernel
theorem dX7_wipe_7 : decode cX7_wipe 7 = .ok (.istore_n 1, 1) := by decide +kernel
theorem dX7_wipe_8 : decode cX7_wipe 8 = .ok (.aload_n 0, 1) := by decide +kernel
theorem dX7_wipe_9 : decode cX7_wipe 9 = .ok (.getfield 10, 3) := by decide +kernel
theorem dX7_wipe_12 : decode cX7_wipe 12 = .ok (.iconst 0, 1) := by decide +kernel
theorem dX7_wipe_13 : decode cX7_wipe 13 = .ok (.putfield 38, 3) := by decide +kernel
theorem dX7_wipe_16 : decode cX7_wipe 16 = .ok (.iload_n 1, 1) := by decide +kernel
theorem dX7_wipe_17 : decode cX7_wipe 17 = .ok (.ireturn, 1) := by decide +kernel
set_option maxRecDepth 20000 in
theorem ggX7_fault_X6_firstFault : GoodIn wsX7_fault wsX6_firstFault := goodIn_r _ [6, 7, 8, 9, 10, 5, 11, 17, 18] (by decide +kernel) (by decide +kernel)
set_option maxRecDepth 20000 in
theorem gX7_fault_X6_firstFault : GoodIn wsX7_fault (wsV RX7 46 RX6 yX6_firstFault wsX6_firstFault) := goodIn_app (goodIn_of _ (by decide +kernel)) ggX7_fault_X6_firstFault
theorem dX7_fault_0 : decode cX7_fault 0 = .ok (.aload_n 0, 1) := by decide +kernel
theorem dX7_fault_1 : decode cX7_fault 1 = .ok (.getfield 10, 3) := by decide +kernel
theorem dX7_fault_4 : decode cX7_fault 4 = .ok (.invokevirtual 46, 3) := by decide +kernel
theorem dX7_fault_7 : decode cX7_fault 7 = .ok (.ireturn, 1) := by decide +kernel
set_option maxRecDepth 20000 in
theorem ggX7_word_X7_noFigure : GoodIn wsX7_word wsX7_noFigure := goodIn_r _ [5] (by decide +kernel) (by decide +kernel)
set_option maxRecDepth 20000 in
theorem gX7_word_X7_noFigure : GoodIn wsX7_word (va_wsS RX7 50 yX7_noFigure wsX7_noFigure) := goodIn_app (goodIn_of _ (by decide +kernel)) ggX7_word_X7_noFigure
set_option maxRecDepth 20000 in
theorem ggX7_word_X6_firstFault : GoodIn wsX7_word wsX6_firstFault := goodIn_r _ [10, 11, 12, 13, 14, 9, 15, 38, 39] (by decide +kernel) (by decide +kernel)
set_option maxRecDepth 20000 in
theorem gX7_word_X6_firstFault : GoodIn wsX7_word (wsV RX7 46 RX6 yX6_firstFault wsX6_firstFault) := goodIn_app (goodIn_of _ (by decide +kernel)) ggX7_word_X6_firstFault
set_option maxRecDepth 20000 in
theorem ggX7_word_X6_cells : GoodIn wsX7_word wsX6_cells := goodIn_r _ [19, 11, 12, 13, 14, 9, 15, 38, 39] (by decide +kernel) (by decide +kernel)
set_option maxRecDepth 20000 in
theorem gX7_word_X6_cells : GoodIn wsX7_word (wsV RX7 54 RX6 yX6_cells wsX6_cells) := goodIn_app (goodIn_of _ (by decide +kernel)) ggX7_word_X6_cells
set_option maxRecDepth 20000 in
theorem ggX7_word_X7_become : GoodIn wsX7_word wsX7_become := goodIn_r _ [23, 24, 25, 26, 27, 28, 29, 30, 31, 32, 33, 34, 35, 36, 37, 40, 41, 42, 43] (by decide +kernel) (by decide +kernel)
set_option maxRecDepth 20000 in
theorem gX7_word_X7_become : GoodIn wsX7_word (wsV RX7 58 RX7 yX7_become wsX7_become) := goodIn_app (goodIn_of _ (by decide +kernel)) ggX7_word_X7_become
theorem dX7_word_0 : decode cX7_word 0 = .ok (.iload_n 1, 1) := by decide +kernel
theorem dX7_word_1 : decode cX7_word 1 = .ok (.invokestatic 50, 3) := by decide +kernel
theorem dX7_word_4 : decode cX7_word 4 = .ok (.ifCond .eq 5, 3) := by decide +kernel
theorem dX7_word_7 : decode cX7_word 7 = .ok (.iconst (-1), 1) := by decide +kernel
theorem dX7_word_8 : decode cX7_word 8 = .ok (.ireturn, 1) := by decide +kernel
theorem dX7_word_9 : decode cX7_word 9 = .ok (.aload_n 0, 1) := by decide +kernel
theorem dX7_word_10 : decode cX7_word 10 = .ok (.getfield 10, 3) := by decide +kernel
theorem dX7_word_13 : decode cX7_word 13 = .ok (.invokevirtual 46, 3) := by decide +kernel
theorem dX7_word_16 : decode cX7_word 16 = .ok (.bipush (-9), 2) := by decide +kernel
theorem dX7_word_18 : decode cX7_word 18 = .ok (.if_icmp .eq 6, 3) := by decide +kernel
theorem dX7_word_21 : decode cX7_word 21 = .ok (.bipush (-3), 2) := by decide +kernel
theorem dX7_word_23 : decode cX7_word 23 = .ok (.ireturn, 1) := by decide +kernel
theorem dX7_word_24 : decode cX7_word 24 = .ok (.aload_n 0, 1) := by decide +kernel
theorem dX7_word_25 : decode cX7_word 25 = .ok (.iload_n 1, 1) := by decide +kernel
theorem dX7_word_26 : decode cX7_word 26 = .ok (.aload_n 0, 1) := by decide +kernel
theorem dX7_word_27 : decode cX7_word 27 = .ok (.getfield 10, 3) := by decide +kernel
theorem dX7_word_30 : decode cX7_word 30 = .ok (.invokevirtual 54, 3) := by decide +kernel
theorem dX7_word_33 : decode cX7_word 33 = .ok (.invokevirtual 58, 3) := by decide +kernel
theorem dX7_word_36 : decode cX7_word 36 = .ok (.ireturn, 1) := by decide +kernel
set_option maxRecDepth 20000 in
theorem ggX7_sign_X7_noFigure : GoodIn wsX7_sign wsX7_noFigure := goodIn_r _ [6] (by decide +kernel) (by decide +kernel)
set_option maxRecDepth 20000 in
theorem gX7_sign_X7_noFigure : GoodIn wsX7_sign (va_wsS RX7 50 yX7_noFigure wsX7_noFigure) := goodIn_app (goodIn_of _ (by decide +kernel)) ggX7_sign_X7_noFigure
set_option maxRecDepth 20000 in
theorem ggX7_sign_X0_square : GoodIn wsX7_sign wsX0_square := goodIn_r _ [10] (by decide +kernel) (by decide +kernel)
set_option maxRecDepth 20000 in
theorem gX7_sign_X0_square : GoodIn wsX7_sign (va_wsS RX7 65 yX0_square wsX0_square) := goodIn_app (goodIn_of _ (by decide +kernel)) ggX7_sign_X0_square
set_option maxRecDepth 20000 in
theorem ggX7_sign_X6_signOf : GoodIn wsX7_sign wsX6_signOf := goodIn_r _ [14] (by decide +kernel) (by decide +kernel)
set_option maxRecDepth 20000 in
theorem gX7_sign_X6_signOf : GoodIn wsX7_sign (va_wsS RX7 71 yX6_signOf wsX6_signOf) := goodIn_app (goodIn_of _ (by decide +kernel)) ggX7_sign_X6_signOf
theorem dX7_sign_0 : decode cX7_sign 0 = .ok (.iload_n 1, 1) := by decide +kernel
theorem dX7_sign_1 : decode cX7_sign 1 = .ok (.invokestatic 50, 3) := by decide +kernel
theorem dX7_sign_4 : decode cX7_sign 4 = .ok (.ifCond .eq 5, 3) := by decide +kernel
theorem dX7_sign_7 : decode cX7_sign 7 = .ok (.iconst (-1), 1) := by decide +kernel
theorem dX7_sign_8 : decode cX7_sign 8 = .ok (.ireturn, 1) := by decide +kernel
theorem dX7_sign_9 : decode cX7_sign 9 = .ok (.iload_n 2, 1) := by decide +kernel
theorem dX7_sign_10 : decode cX7_sign 10 = .ok (.ifCond .lt 9, 3) := by decide +kernel
theorem dX7_sign_13 : decode cX7_sign 13 = .ok (.iload_n 2, 1) := by decide +kernel
theorem dX7_sign_14 : decode cX7_sign 14 = .ok (.bipush 16, 2) := by decide +kernel
theorem dX7_sign_16 : decode cX7_sign 16 = .ok (.if_icmp .lt 6, 3) := by decide +kernel
theorem dX7_sign_19 : decode cX7_sign 19 = .ok (.bipush (-2), 2) := by decide +kernel
theorem dX7_sign_21 : decode cX7_sign 21 = .ok (.ireturn, 1) := by decide +kernel
theorem dX7_sign_22 : decode cX7_sign 22 = .ok (.aload_n 0, 1) := by decide +kernel
theorem dX7_sign_23 : decode cX7_sign 23 = .ok (.getfield 19, 3) := by decide +kernel
theorem dX7_sign_26 : decode cX7_sign 26 = .ok (.getfield 62, 3) := by decide +kernel
theorem dX7_sign_29 : decode cX7_sign 29 = .ok (.iload_n 1, 1) := by decide +kernel
theorem dX7_sign_30 : decode cX7_sign 30 = .ok (.laload, 1) := by decide +kernel
theorem dX7_sign_31 : decode cX7_sign 31 = .ok (.iload_n 2, 1) := by decide +kernel
theorem dX7_sign_32 : decode cX7_sign 32 = .ok (.invokestatic 65, 3) := by decide +kernel
theorem dX7_sign_35 : decode cX7_sign 35 = .ok (.invokestatic 71, 3) := by decide +kernel
theorem dX7_sign_38 : decode cX7_sign 38 = .ok (.ireturn, 1) := by decide +kernel
set_option maxRecDepth 20000 in
theorem ggX7_figure_X7_noFigure : GoodIn wsX7_figure wsX7_noFigure := goodIn_r _ [6] (by decide +kernel) (by decide +kernel)
set_option maxRecDepth 20000 in
theorem gX7_figure_X7_noFigure : GoodIn wsX7_figure (va_wsS RX7 50 yX7_noFigure wsX7_noFigure) := goodIn_app (goodIn_of _ (by decide +kernel)) ggX7_figure_X7_noFigure
theorem dX7_figure_0 : decode cX7_figure 0 = .ok (.iload_n 1, 1) := by decide +kernel
theorem dX7_figure_1 : decode cX7_figure 1 = .ok (.invokestatic 50, 3) := by decide +kernel
theorem dX7_figure_4 : decode cX7_figure 4 = .ok (.ifCond .eq 7, 3) := by decide +kernel
theorem dX7_figure_7 : decode cX7_figure 7 = .ok (.lconst 0, 1) := by decide +kernel
theorem dX7_figure_8 : decode cX7_figure 8 = .ok (.goto 12, 3) := by decide +kernel
theorem dX7_figure_11 : decode cX7_figure 11 = .ok (.aload_n 0, 1) := by decide +kernel
theorem dX7_figure_12 : decode cX7_figure 12 = .ok (.getfield 19, 3) := by decide +kernel
theorem dX7_figure_15 : decode cX7_figure 15 = .ok (.getfield 62, 3) := by decide +kernel
theorem dX7_figure_18 : decode cX7_figure 18 = .ok (.iload_n 1, 1) := by decide +kernel
theorem dX7_figure_19 : decode cX7_figure 19 = .ok (.laload, 1) := by decide +kernel
theorem dX7_figure_20 : decode cX7_figure 20 = .ok (.lreturn, 1) := by decide +kernel
set_option maxRecDepth 20000 in
theorem ggX7_set_X7_noFigure : GoodIn wsX7_set wsX7_noFigure := goodIn_r _ [7] (by decide +kernel) (by decide +kernel)
set_option maxRecDepth 20000 in
theorem gX7_set_X7_noFigure : GoodIn wsX7_set (va_wsS RX7 50 yX7_noFigure wsX7_noFigure) := goodIn_app (goodIn_of _ (by decide +kernel)) ggX7_set_X7_noFigure
set_option maxRecDepth 20000 in
theorem ggX7_set_X7_change : GoodIn wsX7_set wsX7_change := goodIn_r _ [11, 1, 2, 12, 13, 14, 15, 16, 17, 18, 19, 20] (by decide +kernel) (by decide +kernel)
set_option maxRecDepth 20000 in
theorem gX7_set_X7_change : GoodIn wsX7_set (wsV RX7 77 RX7 yX7_change wsX7_change) := goodIn_app (goodIn_of _ (by decide +kernel)) ggX7_set_X7_change
theorem dX7_set_0 : decode cX7_set 0 = .ok (.iload_n 1, 1) := by decide +kernel
theorem dX7_set_1 : decode cX7_set 1 = .ok (.invokestatic 50, 3) := by decide +kernel
theorem dX7_set_4 : decode cX7_set 4 = .ok (.ifCond .ne 13, 3) := by decide +kernel
theorem dX7_set_7 : decode cX7_set 7 = .ok (.iload_n 2, 1) := by decide +kernel
theorem dX7_set_8 : decode cX7_set 8 = .ok (.ifCond .lt 9, 3) := by decide +kernel
theorem dX7_set_11 : decode cX7_set 11 = .ok (.iload_n 2, 1) := by decide +kernel
theorem dX7_set_12 : decode cX7_set 12 = .ok (.bipush 64, 2) := by decide +kernel
theorem dX7_set_14 : decode cX7_set 14 = .ok (.if_icmp .lt 5, 3) := by decide +kernel
theorem dX7_set_17 : decode cX7_set 17 = .ok (.iconst (-1), 1) := by decide +kernel
theorem dX7_set_18 : decode cX7_set 18 = .ok (.ireturn, 1) := by decide +kernel
theorem dX7_set_19 : decode cX7_set 19 = .ok (.lconst 1, 1) := by decide +kernel
theorem dX7_set_20 : decode cX7_set 20 = .ok (.iload_n 2, 1) := by decide +kernel
theorem dX7_set_21 : decode cX7_set 21 = .ok (.lshl, 1) := by decide +kernel
theorem dX7_set_22 : decode cX7_set 22 = .ok (.lstore 4, 2) := by decide +kernel
theorem dX7_set_24 : decode cX7_set 24 = .ok (.aload_n 0, 1) := by decide +kernel
theorem dX7_set_25 : decode cX7_set 25 = .ok (.getfield 19, 3) := by decide +kernel
theorem dX7_set_28 : decode cX7_set 28 = .ok (.getfield 62, 3) := by decide +kernel
theorem dX7_set_31 : decode cX7_set 31 = .ok (.iload_n 1, 1) := by decide +kernel
theorem dX7_set_32 : decode cX7_set 32 = .ok (.laload, 1) := by decide +kernel
theorem dX7_set_33 : decode cX7_set 33 = .ok (.lstore 6, 2) := by decide +kernel
theorem dX7_set_35 : decode cX7_set 35 = .ok (.aload_n 0, 1) := by decide +kernel
theorem dX7_set_36 : decode cX7_set 36 = .ok (.iload_n 1, 1) := by decide +kernel
theorem dX7_set_37 : decode cX7_set 37 = .ok (.iload_n 3, 1) := by decide +kernel
theorem dX7_set_38 : decode cX7_set 38 = .ok (.ifCond .eq 11, 3) := by decide +kernel
theorem dX7_set_41 : decode cX7_set 41 = .ok (.lload 6, 2) := by decide +kernel
theorem dX7_set_43 : decode cX7_set 43 = .ok (.lload 4, 2) := by decide +kernel
theorem dX7_set_45 : decode cX7_set 45 = .ok (.lor, 1) := by decide +kernel
theorem dX7_set_46 : decode cX7_set 46 = .ok (.goto 12, 3) := by decide +kernel
theorem dX7_set_49 : decode cX7_set 49 = .ok (.lload 6, 2) := by decide +kernel
theorem dX7_set_51 : decode cX7_set 51 = .ok (.lload 4, 2) := by decide +kernel
theorem dX7_set_53 : decode cX7_set 53 = .ok (.ldc2_w 75, 3) := by decide +kernel
theorem dX7_set_56 : decode cX7_set 56 = .ok (.lxor, 1) := by decide +kernel
theorem dX7_set_57 : decode cX7_set 57 = .ok (.land, 1) := by decide +kernel
theorem dX7_set_58 : decode cX7_set 58 = .ok (.invokevirtual 77, 3) := by decide +kernel
theorem dX7_set_61 : decode cX7_set 61 = .ok (.ireturn, 1) := by decide +kernel
set_option maxRecDepth 20000 in
theorem ggX7_size_X7_noFigure : GoodIn wsX7_size wsX7_noFigure := goodIn_r _ [6] (by decide +kernel) (by decide +kernel)
set_option maxRecDepth 20000 in
theorem gX7_size_X7_noFigure : GoodIn wsX7_size (va_wsS RX7 50 yX7_noFigure wsX7_noFigure) := goodIn_app (goodIn_of _ (by decide +kernel)) ggX7_size_X7_noFigure
set_option maxRecDepth 20000 in
theorem ggX7_size_J13_bitCount_95d88 : GoodIn wsX7_size wsJ13_bitCount_95d88 := goodIn_r _ [10, 11, 12, 13] (by decide +kernel) (by decide +kernel)
set_option maxRecDepth 20000 in
theorem gX7_size_J13_bitCount_95d88 : GoodIn wsX7_size (va_wsS RX7 80 yJ13_bitCount_95d88 wsJ13_bitCount_95d88) := goodIn_app (goodIn_of _ (by decide +kernel)) ggX7_size_J13_bitCount_95d88
theorem dX7_size_0 : decode cX7_size 0 = .ok (.iload_n 1, 1) := by decide +kernel
theorem dX7_size_1 : decode cX7_size 1 = .ok (.invokestatic 50, 3) := by decide +kernel
theorem dX7_size_4 : decode cX7_size 4 = .ok (.ifCond .eq 7, 3) := by decide +kernel
theorem dX7_size_7 : decode cX7_size 7 = .ok (.iconst (-1), 1) := by decide +kernel
theorem dX7_size_8 : decode cX7_size 8 = .ok (.goto 15, 3) := by decide +kernel
theorem dX7_size_11 : decode cX7_size 11 = .ok (.aload_n 0, 1) := by decide +kernel
theorem dX7_size_12 : decode cX7_size 12 = .ok (.getfield 19, 3) := by decide +kernel
theorem dX7_size_15 : decode cX7_size 15 = .ok (.getfield 62, 3) := by decide +kernel
theorem dX7_size_18 : decode cX7_size 18 = .ok (.iload_n 1, 1) := by decide +kernel
theorem dX7_size_19 : decode cX7_size 19 = .ok (.laload, 1) := by decide +kernel
theorem dX7_size_20 : decode cX7_size 20 = .ok (.invokestatic 80, 3) := by decide +kernel
theorem dX7_size_23 : decode cX7_size 23 = .ok (.ireturn, 1) := by decide +kernel
set_option maxRecDepth 20000 in
theorem ggX7_parts_X7_noFigure : GoodIn wsX7_parts wsX7_noFigure := goodIn_r _ [6] (by decide +kernel) (by decide +kernel)
set_option maxRecDepth 20000 in
theorem gX7_parts_X7_noFigure : GoodIn wsX7_parts (va_wsS RX7 50 yX7_noFigure wsX7_noFigure) := goodIn_app (goodIn_of _ (by decide +kernel)) ggX7_parts_X7_noFigure
set_option maxRecDepth 20000 in
theorem ggX7_parts_X0_countParts : GoodIn wsX7_parts wsX0_countParts := goodIn_r _ [10, 11, 12, 13, 9, 14, 15, 16, 17, 18, 19, 20, 21, 22, 23, 24, 25, 26, 27, 28, 29, 30, 31, 32, 33, 34] (by decide +kernel) (by decide +kernel)
set_option maxRecDepth 20000 in
theorem gX7_parts_X0_countParts : GoodIn wsX7_parts (va_wsS RX7 86 yX0_countParts wsX0_countParts) := goodIn_app (goodIn_of _ (by decide +kernel)) ggX7_parts_X0_countParts
theorem dX7_parts_0 : decode cX7_parts 0 = .ok (.iload_n 1, 1) := by decide +kernel
theorem dX7_parts_1 : decode cX7_parts 1 = .ok (.invokestatic 50, 3) := by decide +kernel
theorem dX7_parts_4 : decode cX7_parts 4 = .ok (.ifCond .eq 7, 3) := by decide +kernel
theorem dX7_parts_7 : decode cX7_parts 7 = .ok (.iconst (-1), 1) := by decide +kernel
theorem dX7_parts_8 : decode cX7_parts 8 = .ok (.goto 15, 3) := by decide +kernel
theorem dX7_parts_11 : decode cX7_parts 11 = .ok (.aload_n 0, 1) := by decide +kernel
theorem dX7_parts_12 : decode cX7_parts 12 = .ok (.getfield 19, 3) := by decide +kernel
theorem dX7_parts_15 : decode cX7_parts 15 = .ok (.getfield 62, 3) := by decide +kernel
theorem dX7_parts_18 : decode cX7_parts 18 = .ok (.iload_n 1, 1) := by decide +kernel
theorem dX7_parts_19 : decode cX7_parts 19 = .ok (.laload, 1) := by decide +kernel
theorem dX7_parts_20 : decode cX7_parts 20 = .ok (.invokestatic 86, 3) := by decide +kernel
theorem dX7_parts_23 : decode cX7_parts 23 = .ok (.ireturn, 1) := by decide +kernel
set_option maxRecDepth 20000 in
theorem ggX7_holes_X7_noFigure : GoodIn wsX7_holes wsX7_noFigure := goodIn_r _ [6] (by decide +kernel) (by decide +kernel)
set_option maxRecDepth 20000 in
theorem gX7_holes_X7_noFigure : GoodIn wsX7_holes (va_wsS RX7 50 yX7_noFigure wsX7_noFigure) := goodIn_app (goodIn_of _ (by decide +kernel)) ggX7_holes_X7_noFigure
set_option maxRecDepth 20000 in
theorem ggX7_holes_X0_countHoles : GoodIn wsX7_holes wsX0_countHoles := goodIn_r _ [10, 11, 12, 13, 14, 9, 15, 16, 17, 18, 19, 20, 21, 22, 23, 24, 25, 26, 27, 28, 29, 30, 31, 32, 33, 34, 35] (by decide +kernel) (by decide +kernel)
set_option maxRecDepth 20000 in
theorem gX7_holes_X0_countHoles : GoodIn wsX7_holes (va_wsS RX7 89 yX0_countHoles wsX0_countHoles) := goodIn_app (goodIn_of _ (by decide +kernel)) ggX7_holes_X0_countHoles
theorem dX7_holes_0 : decode cX7_holes 0 = .ok (.iload_n 1, 1) := by decide +kernel
theorem dX7_holes_1 : decode cX7_holes 1 = .ok (.invokestatic 50, 3) := by decide +kernel
theorem dX7_holes_4 : decode cX7_holes 4 = .ok (.ifCond .eq 7, 3) := by decide +kernel
theorem dX7_holes_7 : decode cX7_holes 7 = .ok (.iconst (-1), 1) := by decide +kernel
theorem dX7_holes_8 : decode cX7_holes 8 = .ok (.goto 15, 3) := by decide +kernel
theorem dX7_holes_11 : decode cX7_holes 11 = .ok (.aload_n 0, 1) := by decide +kernel
theorem dX7_holes_12 : decode cX7_holes 12 = .ok (.getfield 19, 3) := by decide +kernel
theorem dX7_holes_15 : decode cX7_holes 15 = .ok (.getfield 62, 3) := by decide +kernel
theorem dX7_holes_18 : decode cX7_holes 18 = .ok (.iload_n 1, 1) := by decide +kernel
theorem dX7_holes_19 : decode cX7_holes 19 = .ok (.laload, 1) := by decide +kernel
theorem dX7_holes_20 : decode cX7_holes 20 = .ok (.invokestatic 89, 3) := by decide +kernel
theorem dX7_holes_23 : decode cX7_holes 23 = .ok (.ireturn, 1) := by decide +kernel
set_option maxRecDepth 20000 in
theorem ggX7_edges_X7_noFigure : GoodIn wsX7_edges wsX7_noFigure := goodIn_r _ [6] (by decide +kernel) (by decide +kernel)
set_option maxRecDepth 20000 in
theorem gX7_edges_X7_noFigure : GoodIn wsX7_edges (va_wsS RX7 50 yX7_noFigure wsX7_noFigure) := goodIn_app (goodIn_of _ (by decide +kernel)) ggX7_edges_X7_noFigure
set_option maxRecDepth 20000 in
theorem ggX7_edges_X0_slantingEdges : GoodIn wsX7_edges wsX0_slantingEdges := goodIn_r _ [10, 11, 12, 9, 13, 14, 15, 16, 17, 18, 19, 20, 21, 22] (by decide +kernel) (by decide +kernel)
set_option maxRecDepth 20000 in
theorem gX7_edges_X0_slantingEdges : GoodIn wsX7_edges (va_wsS RX7 92 yX0_slantingEdges wsX0_slantingEdges) := goodIn_app (goodIn_of _ (by decide +kernel)) ggX7_edges_X0_slantingEdges
set_option maxRecDepth 20000 in
theorem ggX7_edges_X0_straightEdges : GoodIn wsX7_edges wsX0_straightEdges := goodIn_r _ [25, 26, 27, 28, 9, 29, 30, 31, 15, 32, 33, 34, 16, 17, 18, 19, 20, 21, 22] (by decide +kernel) (by decide +kernel)
set_option maxRecDepth 20000 in
theorem gX7_edges_X0_straightEdges : GoodIn wsX7_edges (va_wsS RX7 95 yX0_straightEdges wsX0_straightEdges) := goodIn_app (goodIn_of _ (by decide +kernel)) ggX7_edges_X0_straightEdges
theorem dX7_edges_0 : decode cX7_edges 0 = .ok (.iload_n 1, 1) := by decide +kernel
theorem dX7_edges_1 : decode cX7_edges 1 = .ok (.invokestatic 50, 3) := by decide +kernel
theorem dX7_edges_4 : decode cX7_edges 4 = .ok (.ifCond .eq 5, 3) := by decide +kernel
theorem dX7_edges_7 : decode cX7_edges 7 = .ok (.iconst (-1), 1) := by decide +kernel
theorem dX7_edges_8 : decode cX7_edges 8 = .ok (.ireturn, 1) := by decide +kernel
theorem dX7_edges_9 : decode cX7_edges 9 = .ok (.aload_n 0, 1) := by decide +kernel
theorem dX7_edges_10 : decode cX7_edges 10 = .ok (.getfield 19, 3) := by decide +kernel
theorem dX7_edges_13 : decode cX7_edges 13 = .ok (.getfield 62, 3) := by decide +kernel
theorem dX7_edges_16 : decode cX7_edges 16 = .ok (.iload_n 1, 1) := by decide +kernel
theorem dX7_edges_17 : decode cX7_edges 17 = .ok (.laload, 1) := by decide +kernel
theorem dX7_edges_18 : decode cX7_edges 18 = .ok (.lstore_n 3, 1) := by decide +kernel
theorem dX7_edges_19 : decode cX7_edges 19 = .ok (.iload_n 2, 1) := by decide +kernel
theorem dX7_edges_20 : decode cX7_edges 20 = .ok (.ifCond .eq 10, 3) := by decide +kernel
theorem dX7_edges_23 : decode cX7_edges 23 = .ok (.lload_n 3, 1) := by decide +kernel
theorem dX7_edges_24 : decode cX7_edges 24 = .ok (.invokestatic 92, 3) := by decide +kernel
theorem dX7_edges_27 : decode cX7_edges 27 = .ok (.goto 7, 3) := by decide +kernel
theorem dX7_edges_30 : decode cX7_edges 30 = .ok (.lload_n 3, 1) := by decide +kernel
theorem dX7_edges_31 : decode cX7_edges 31 = .ok (.invokestatic 95, 3) := by decide +kernel
theorem dX7_edges_34 : decode cX7_edges 34 = .ok (.ireturn, 1) := by decide +kernel
set_option maxRecDepth 20000 in
theorem ggX7_corners_X7_noFigure : GoodIn wsX7_corners wsX7_noFigure := goodIn_r _ [6] (by decide +kernel) (by decide +kernel)
set_option maxRecDepth 20000 in
theorem gX7_corners_X7_noFigure : GoodIn wsX7_corners (va_wsS RX7 50 yX7_noFigure wsX7_noFigure) := goodIn_app (goodIn_of _ (by decide +kernel)) ggX7_corners_X7_noFigure
set_option maxRecDepth 20000 in
theorem ggX7_corners_X4_countCorners : GoodIn wsX7_corners wsX4_countCorners := goodIn_r _ [10, 11, 12, 9, 13, 14, 15, 16, 17, 18, 19, 20, 21, 22, 23, 24, 25, 26, 27, 28, 29, 30, 31, 32] (by decide +kernel) (by decide +kernel)
set_option maxRecDepth 20000 in
theorem gX7_corners_X4_countCorners : GoodIn wsX7_corners (va_wsS RX7 98 yX4_countCorners wsX4_countCorners) := goodIn_app (goodIn_of _ (by decide +kernel)) ggX7_corners_X4_countCorners
theorem dX7_corners_0 : decode cX7_corners 0 = .ok (.iload_n 1, 1) := by decide +kernel
theorem dX7_corners_1 : decode cX7_corners 1 = .ok (.invokestatic 50, 3) := by decide +kernel
theorem dX7_corners_4 : decode cX7_corners 4 = .ok (.ifCond .eq 5, 3) := by decide +kernel
theorem dX7_corners_7 : decode cX7_corners 7 = .ok (.iconst (-1), 1) := by decide +kernel
theorem dX7_corners_8 : decode cX7_corners 8 = .ok (.ireturn, 1) := by decide +kernel
theorem dX7_corners_9 : decode cX7_corners 9 = .ok (.iload_n 2, 1) := by decide +kernel
theorem dX7_corners_10 : decode cX7_corners 10 = .ok (.ifCond .lt 9, 3) := by decide +kernel
theorem dX7_corners_13 : decode cX7_corners 13 = .ok (.iload_n 2, 1) := by decide +kernel
theorem dX7_corners_14 : decode cX7_corners 14 = .ok (.bipush 7, 2) := by decide +kernel
theorem dX7_corners_16 : decode cX7_corners 16 = .ok (.if_icmp .le 6, 3) := by decide +kernel
theorem dX7_corners_19 : decode cX7_corners 19 = .ok (.bipush (-2), 2) := by decide +kernel
theorem dX7_corners_21 : decode cX7_corners 21 = .ok (.ireturn, 1) := by decide +kernel
theorem dX7_corners_22 : decode cX7_corners 22 = .ok (.aload_n 0, 1) := by decide +kernel
theorem dX7_corners_23 : decode cX7_corners 23 = .ok (.getfield 19, 3) := by decide +kernel
theorem dX7_corners_26 : decode cX7_corners 26 = .ok (.getfield 62, 3) := by decide +kernel
theorem dX7_corners_29 : decode cX7_corners 29 = .ok (.iload_n 1, 1) := by decide +kernel
theorem dX7_corners_30 : decode cX7_corners 30 = .ok (.laload, 1) := by decide +kernel
theorem dX7_corners_31 : decode cX7_corners 31 = .ok (.iload_n 2, 1) := by decide +kernel
theorem dX7_corners_32 : decode cX7_corners 32 = .ok (.invokestatic 98, 3) := by decide +kernel
theorem dX7_corners_35 : decode cX7_corners 35 = .ok (.ireturn, 1) := by decide +kernel
set_option maxRecDepth 20000 in
theorem ggX7_convex_X7_noFigure : GoodIn wsX7_convex wsX7_noFigure := goodIn_r _ [6] (by decide +kernel) (by decide +kernel)
set_option maxRecDepth 20000 in
theorem gX7_convex_X7_noFigure : GoodIn wsX7_convex (va_wsS RX7 50 yX7_noFigure wsX7_noFigure) := goodIn_app (goodIn_of _ (by decide +kernel)) ggX7_convex_X7_noFigure
set_option maxRecDepth 20000 in
theorem ggX7_convex_X0_countParts : GoodIn wsX7_convex wsX0_countParts := goodIn_r _ [10, 11, 12, 13, 9, 14, 15, 16, 17, 18, 19, 20, 21, 22, 23, 24, 25, 26, 27, 28, 29, 30, 31, 32, 33, 34] (by decide +kernel) (by decide +kernel)
set_option maxRecDepth 20000 in
theorem gX7_convex_X0_countParts : GoodIn wsX7_convex (va_wsS RX7 86 yX0_countParts wsX0_countParts) := goodIn_app (goodIn_of _ (by decide +kernel)) ggX7_convex_X0_countParts
set_option maxRecDepth 20000 in
theorem ggX7_convex_X0_countHoles : GoodIn wsX7_convex wsX0_countHoles := goodIn_r _ [37, 11, 38, 12, 13, 9, 14, 15, 16, 17, 18, 19, 20, 21, 22, 23, 24, 25, 26, 27, 28, 29, 30, 31, 32, 33, 34] (by decide +kernel) (by decide +kernel)
set_option maxRecDepth 20000 in
theorem gX7_convex_X0_countHoles : GoodIn wsX7_convex (va_wsS RX7 89 yX0_countHoles wsX0_countHoles) := goodIn_app (goodIn_of _ (by decide +kernel)) ggX7_convex_X0_countHoles
set_option maxRecDepth 20000 in
theorem ggX7_convex_X4_bulgeOnly : GoodIn wsX7_convex wsX4_bulgeOnly := goodIn_r _ [42, 43, 44, 41, 45, 46, 47, 48, 49, 50, 51, 52, 53, 9, 54, 55, 56, 57, 58, 59, 60, 61, 62, 63, 64, 65, 66] (by decide +kernel) (by decide +kernel)
set_option maxRecDepth 20000 in
theorem gX7_convex_X4_bulgeOnly : GoodIn wsX7_convex (va_wsS RX7 103 yX4_bulgeOnly wsX4_bulgeOnly) := goodIn_app (goodIn_of _ (by decide +kernel)) ggX7_convex_X4_bulgeOnly
theorem dX7_convex_0 : decode cX7_convex 0 = .ok (.iload_n 1, 1) := by decide +kernel
theorem dX7_convex_1 : decode cX7_convex 1 = .ok (.invokestatic 50, 3) := by decide +kernel
theorem dX7_convex_4 : decode cX7_convex 4 = .ok (.ifCond .eq 5, 3) := by decide +kernel
theorem dX7_convex_7 : decode cX7_convex 7 = .ok (.iconst (-1), 1) := by decide +kernel
theorem dX7_convex_8 : decode cX7_convex 8 = .ok (.ireturn, 1) := by decide +kernel
theorem dX7_convex_9 : decode cX7_convex 9 = .ok (.aload_n 0, 1) := by decide +kernel
theorem dX7_convex_10 : decode cX7_convex 10 = .ok (.getfield 19, 3) := by decide +kernel
theorem dX7_convex_13 : decode cX7_convex 13 = .ok (.getfield 62, 3) := by decide +kernel
theorem dX7_convex_16 : decode cX7_convex 16 = .ok (.iload_n 1, 1) := by decide +kernel
theorem dX7_convex_17 : decode cX7_convex 17 = .ok (.laload, 1) := by decide +kernel
theorem dX7_convex_18 : decode cX7_convex 18 = .ok (.lstore_n 2, 1) := by decide +kernel
theorem dX7_convex_19 : decode cX7_convex 19 = .ok (.lload_n 2, 1) := by decide +kernel
theorem dX7_convex_20 : decode cX7_convex 20 = .ok (.invokestatic 86, 3) := by decide +kernel
theorem dX7_convex_23 : decode cX7_convex 23 = .ok (.iconst 1, 1) := by decide +kernel
theorem dX7_convex_24 : decode cX7_convex 24 = .ok (.if_icmp .ne 14, 3) := by decide +kernel
theorem dX7_convex_27 : decode cX7_convex 27 = .ok (.lload_n 2, 1) := by decide +kernel
theorem dX7_convex_28 : decode cX7_convex 28 = .ok (.invokestatic 89, 3) := by decide +kernel
theorem dX7_convex_31 : decode cX7_convex 31 = .ok (.ifCond .ne 7, 3) := by decide +kernel
theorem dX7_convex_34 : decode cX7_convex 34 = .ok (.iconst 1, 1) := by decide +kernel
theorem dX7_convex_35 : decode cX7_convex 35 = .ok (.goto 4, 3) := by decide +kernel
theorem dX7_convex_38 : decode cX7_convex 38 = .ok (.iconst 0, 1) := by decide +kernel
theorem dX7_convex_39 : decode cX7_convex 39 = .ok (.istore 4, 2) := by decide +kernel
theorem dX7_convex_41 : decode cX7_convex 41 = .ok (.iload 4, 2) := by decide +kernel
theorem dX7_convex_43 : decode cX7_convex 43 = .ok (.ifCond .eq 14, 3) := by decide +kernel
theorem dX7_convex_46 : decode cX7_convex 46 = .ok (.lload_n 2, 1) := by decide +kernel
theorem dX7_convex_47 : decode cX7_convex 47 = .ok (.invokestatic 103, 3) := by decide +kernel
theorem dX7_convex_50 : decode cX7_convex 50 = .ok (.ifCond .eq 7, 3) := by decide +kernel
theorem dX7_convex_53 : decode cX7_convex 53 = .ok (.iconst 1, 1) := by decide +kernel
theorem dX7_convex_54 : decode cX7_convex 54 = .ok (.goto 4, 3) := by decide +kernel
theorem dX7_convex_57 : decode cX7_convex 57 = .ok (.iconst 0, 1) := by decide +kernel
theorem dX7_convex_58 : decode cX7_convex 58 = .ok (.ireturn, 1) := by decide +kernel
set_option maxRecDepth 20000 in
theorem ggX7_turn_X7_noFigure : GoodIn wsX7_turn wsX7_noFigure := goodIn_r _ [6] (by decide +kernel) (by decide +kernel)
set_option maxRecDepth 20000 in
theorem gX7_turn_X7_noFigure : GoodIn wsX7_turn (va_wsS RX7 50 yX7_noFigure wsX7_noFigure) := goodIn_app (goodIn_of _ (by decide +kernel)) ggX7_turn_X7_noFigure
set_option maxRecDepth 20000 in
theorem ggX7_turn_X3_turned : GoodIn wsX7_turn wsX3_turned := goodIn_r _ [10, 11, 12, 9, 13, 14, 15, 16, 17, 18, 19, 20, 21, 22, 23, 24, 25, 26, 27, 28, 29] (by decide +kernel) (by decide +kernel)
set_option maxRecDepth 20000 in
theorem gX7_turn_X3_turned : GoodIn wsX7_turn (va_wsS RX7 107 yX3_turned wsX3_turned) := goodIn_app (goodIn_of _ (by decide +kernel)) ggX7_turn_X3_turned
set_option maxRecDepth 20000 in
theorem ggX7_turn_X7_change : GoodIn wsX7_turn wsX7_change := goodIn_r _ [33, 1, 2, 34, 35, 36, 37, 38, 39, 40, 41, 42] (by decide +kernel) (by decide +kernel)
set_option maxRecDepth 20000 in
theorem gX7_turn_X7_change : GoodIn wsX7_turn (wsV RX7 77 RX7 yX7_change wsX7_change) := goodIn_app (goodIn_of _ (by decide +kernel)) ggX7_turn_X7_change
theorem dX7_turn_0 : decode cX7_turn 0 = .ok (.iload_n 1, 1) := by decide +kernel
theorem dX7_turn_1 : decode cX7_turn 1 = .ok (.invokestatic 50, 3) := by decide +kernel
theorem dX7_turn_4 : decode cX7_turn 4 = .ok (.ifCond .eq 5, 3) := by decide +kernel
theorem dX7_turn_7 : decode cX7_turn 7 = .ok (.iconst (-1), 1) := by decide +kernel
theorem dX7_turn_8 : decode cX7_turn 8 = .ok (.ireturn, 1) := by decide +kernel
theorem dX7_turn_9 : decode cX7_turn 9 = .ok (.iload_n 2, 1) := by decide +kernel
theorem dX7_turn_10 : decode cX7_turn 10 = .ok (.ifCond .lt 9, 3) := by decide +kernel
theorem dX7_turn_13 : decode cX7_turn 13 = .ok (.iload_n 2, 1) := by decide +kernel
theorem dX7_turn_14 : decode cX7_turn 14 = .ok (.bipush 8, 2) := by decide +kernel
theorem dX7_turn_16 : decode cX7_turn 16 = .ok (.if_icmp .lt 6, 3) := by decide +kernel
theorem dX7_turn_19 : decode cX7_turn 19 = .ok (.bipush (-2), 2) := by decide +kernel
theorem dX7_turn_21 : decode cX7_turn 21 = .ok (.ireturn, 1) := by decide +kernel
theorem dX7_turn_22 : decode cX7_turn 22 = .ok (.aload_n 0, 1) := by decide +kernel
theorem dX7_turn_23 : decode cX7_turn 23 = .ok (.iload_n 1, 1) := by decide +kernel
theorem dX7_turn_24 : decode cX7_turn 24 = .ok (.aload_n 0, 1) := by decide +kernel
theorem dX7_turn_25 : decode cX7_turn 25 = .ok (.getfield 19, 3) := by decide +kernel
theorem dX7_turn_28 : decode cX7_turn 28 = .ok (.getfield 62, 3) := by decide +kernel
theorem dX7_turn_31 : decode cX7_turn 31 = .ok (.iload_n 1, 1) := by decide +kernel
theorem dX7_turn_32 : decode cX7_turn 32 = .ok (.laload, 1) := by decide +kernel
theorem dX7_turn_33 : decode cX7_turn 33 = .ok (.iload_n 2, 1) := by decide +kernel
theorem dX7_turn_34 : decode cX7_turn 34 = .ok (.invokestatic 107, 3) := by decide +kernel
theorem dX7_turn_37 : decode cX7_turn 37 = .ok (.invokevirtual 77, 3) := by decide +kernel
theorem dX7_turn_40 : decode cX7_turn 40 = .ok (.ireturn, 1) := by decide +kernel
set_option maxRecDepth 20000 in
theorem ggX7_shift_X7_noFigure : GoodIn wsX7_shift wsX7_noFigure := goodIn_r _ [6] (by decide +kernel) (by decide +kernel)
set_option maxRecDepth 20000 in
theorem gX7_shift_X7_noFigure : GoodIn wsX7_shift (va_wsS RX7 50 yX7_noFigure wsX7_noFigure) := goodIn_app (goodIn_of _ (by decide +kernel)) ggX7_shift_X7_noFigure
set_option maxRecDepth 20000 in
theorem ggX7_shift_X3_staysOnBoard : GoodIn wsX7_shift wsX3_staysOnBoard := goodIn_r _ [10, 11, 12, 13, 14, 15, 16] (by decide +kernel) (by decide +kernel)
set_option maxRecDepth 20000 in
theorem gX7_shift_X3_staysOnBoard : GoodIn wsX7_shift (va_wsS RX7 113 yX3_staysOnBoard wsX3_staysOnBoard) := goodIn_app (goodIn_of _ (by decide +kernel)) ggX7_shift_X3_staysOnBoard
set_option maxRecDepth 20000 in
theorem ggX7_shift_X3_shifted : GoodIn wsX7_shift wsX3_shifted := goodIn_r _ [19] (by decide +kernel) (by decide +kernel)
set_option maxRecDepth 20000 in
theorem gX7_shift_X3_shifted : GoodIn wsX7_shift (va_wsS RX7 117 yX3_shifted wsX3_shifted) := goodIn_app (goodIn_of _ (by decide +kernel)) ggX7_shift_X3_shifted
set_option maxRecDepth 20000 in
theorem ggX7_shift_X7_become : GoodIn wsX7_shift wsX7_become := goodIn_r _ [23, 1, 2, 24, 25, 26, 27, 28, 29, 30, 31, 32, 33, 34, 35, 36, 37, 38, 39] (by decide +kernel) (by decide +kernel)
set_option maxRecDepth 20000 in
theorem gX7_shift_X7_become : GoodIn wsX7_shift (wsV RX7 58 RX7 yX7_become wsX7_become) := goodIn_app (goodIn_of _ (by decide +kernel)) ggX7_shift_X7_become
theorem dX7_shift_0 : decode cX7_shift 0 = .ok (.iload_n 1, 1) := by decide +kernel
theorem dX7_shift_1 : decode cX7_shift 1 = .ok (.invokestatic 50, 3) := by decide +kernel
theorem dX7_shift_4 : decode cX7_shift 4 = .ok (.ifCond .eq 5, 3) := by decide +kernel
theorem dX7_shift_7 : decode cX7_shift 7 = .ok (.iconst (-1), 1) := by decide +kernel
theorem dX7_shift_8 : decode cX7_shift 8 = .ok (.ireturn, 1) := by decide +kernel
theorem dX7_shift_9 : decode cX7_shift 9 = .ok (.iload_n 2, 1) := by decide +kernel
theorem dX7_shift_10 : decode cX7_shift 10 = .ok (.bipush (-3), 2) := by decide +kernel
theorem dX7_shift_12 : decode cX7_shift 12 = .ok (.if_icmp .lt 19, 3) := by decide +kernel
theorem dX7_shift_15 : decode cX7_shift 15 = .ok (.iload_n 2, 1) := by decide +kernel
theorem dX7_shift_16 : decode cX7_shift 16 = .ok (.iconst 3, 1) := by decide +kernel
theorem dX7_shift_17 : decode cX7_shift 17 = .ok (.if_icmp .gt 14, 3) := by decide +kernel
theorem dX7_shift_20 : decode cX7_shift 20 = .ok (.iload_n 3, 1) := by decide +kernel
theorem dX7_shift_21 : decode cX7_shift 21 = .ok (.bipush (-3), 2) := by decide +kernel
theorem dX7_shift_23 : decode cX7_shift 23 = .ok (.if_icmp .lt 8, 3) := by decide +kernel
theorem dX7_shift_26 : decode cX7_shift 26 = .ok (.iload_n 3, 1) := by decide +kernel
theorem dX7_shift_27 : decode cX7_shift 27 = .ok (.iconst 3, 1) := by decide +kernel
theorem dX7_shift_28 : decode cX7_shift 28 = .ok (.if_icmp .le 6, 3) := by decide +kernel
theorem dX7_shift_31 : decode cX7_shift 31 = .ok (.bipush (-2), 2) := by decide +kernel
theorem dX7_shift_33 : decode cX7_shift 33 = .ok (.ireturn, 1) := by decide +kernel
theorem dX7_shift_34 : decode cX7_shift 34 = .ok (.aload_n 0, 1) := by decide +kernel
theorem dX7_shift_35 : decode cX7_shift 35 = .ok (.getfield 19, 3) := by decide +kernel
theorem dX7_shift_38 : decode cX7_shift 38 = .ok (.getfield 62, 3) := by decide +kernel
theorem dX7_shift_41 : decode cX7_shift 41 = .ok (.iload_n 1, 1) := by decide +kernel
theorem dX7_shift_42 : decode cX7_shift 42 = .ok (.laload, 1) := by decide +kernel
theorem dX7_shift_43 : decode cX7_shift 43 = .ok (.lstore 4, 2) := by decide +kernel
theorem dX7_shift_45 : decode cX7_shift 45 = .ok (.lload 4, 2) := by decide +kernel
theorem dX7_shift_47 : decode cX7_shift 47 = .ok (.iload_n 2, 1) := by decide +kernel
theorem dX7_shift_48 : decode cX7_shift 48 = .ok (.iload_n 3, 1) := by decide +kernel
theorem dX7_shift_49 : decode cX7_shift 49 = .ok (.invokestatic 113, 3) := by decide +kernel
theorem dX7_shift_52 : decode cX7_shift 52 = .ok (.ifCond .ne 6, 3) := by decide +kernel
theorem dX7_shift_55 : decode cX7_shift 55 = .ok (.bipush (-3), 2) := by decide +kernel
theorem dX7_shift_57 : decode cX7_shift 57 = .ok (.ireturn, 1) := by decide +kernel
theorem dX7_shift_58 : decode cX7_shift 58 = .ok (.aload_n 0, 1) := by decide +kernel
theorem dX7_shift_59 : decode cX7_shift 59 = .ok (.iload_n 1, 1) := by decide +kernel
theorem dX7_shift_60 : decode cX7_shift 60 = .ok (.lload 4, 2) := by decide +kernel
theorem dX7_shift_62 : decode cX7_shift 62 = .ok (.iload_n 2, 1) := by decide +kernel
theorem dX7_shift_63 : decode cX7_shift 63 = .ok (.iload_n 3, 1) := by decide +kernel
theorem dX7_shift_64 : decode cX7_shift 64 = .ok (.invokestatic 117, 3) := by decide +kernel
theorem dX7_shift_67 : decode cX7_shift 67 = .ok (.invokevirtual 58, 3) := by decide +kernel
theorem dX7_shift_70 : decode cX7_shift 70 = .ok (.ireturn, 1) := by decide +kernel
set_option maxRecDepth 20000 in
theorem ggX7_form_X7_noFigure : GoodIn wsX7_form wsX7_noFigure := goodIn_r _ [6] (by decide +kernel) (by decide +kernel)
set_option maxRecDepth 20000 in
theorem gX7_form_X7_noFigure : GoodIn wsX7_form (va_wsS RX7 50 yX7_noFigure wsX7_noFigure) := goodIn_app (goodIn_of _ (by decide +kernel)) ggX7_form_X7_noFigure
set_option maxRecDepth 20000 in
theorem ggX7_form_X3_leastForm : GoodIn wsX7_form wsX3_leastForm := goodIn_r _ [10, 11, 12, 9, 13, 14, 15, 16, 17, 18, 19, 20, 21, 22, 23, 24, 25, 26, 27, 28, 29, 30, 31, 32, 33, 34, 35, 36, 37, 38, 5, 39, 40] (by decide +kernel) (by decide +kernel)
set_option maxRecDepth 20000 in
theorem gX7_form_X3_leastForm : GoodIn wsX7_form (va_wsS RX7 121 yX3_leastForm wsX3_leastForm) := goodIn_app (goodIn_of _ (by decide +kernel)) ggX7_form_X3_leastForm
theorem dX7_form_0 : decode cX7_form 0 = .ok (.iload_n 1, 1) := by decide +kernel
theorem dX7_form_1 : decode cX7_form 1 = .ok (.invokestatic 50, 3) := by decide +kernel
theorem dX7_form_4 : decode cX7_form 4 = .ok (.ifCond .eq 7, 3) := by decide +kernel
theorem dX7_form_7 : decode cX7_form 7 = .ok (.lconst 0, 1) := by decide +kernel
theorem dX7_form_8 : decode cX7_form 8 = .ok (.goto 15, 3) := by decide +kernel
theorem dX7_form_11 : decode cX7_form 11 = .ok (.aload_n 0, 1) := by decide +kernel
theorem dX7_form_12 : decode cX7_form 12 = .ok (.getfield 19, 3) := by decide +kernel
theorem dX7_form_15 : decode cX7_form 15 = .ok (.getfield 62, 3) := by decide +kernel
theorem dX7_form_18 : decode cX7_form 18 = .ok (.iload_n 1, 1) := by decide +kernel
theorem dX7_form_19 : decode cX7_form 19 = .ok (.laload, 1) := by decide +kernel
theorem dX7_form_20 : decode cX7_form 20 = .ok (.invokestatic 121, 3) := by decide +kernel
theorem dX7_form_23 : decode cX7_form 23 = .ok (.lreturn, 1) := by decide +kernel
set_option maxRecDepth 20000 in
theorem ggX7_like_X7_noFigure : GoodIn wsX7_like wsX7_noFigure := goodIn_r _ [6] (by decide +kernel) (by decide +kernel)
set_option maxRecDepth 20000 in
theorem gX7_like_X7_noFigure : GoodIn wsX7_like (va_wsS RX7 50 yX7_noFigure wsX7_noFigure) := goodIn_app (goodIn_of _ (by decide +kernel)) ggX7_like_X7_noFigure
set_option maxRecDepth 20000 in
theorem ggX7_like_X3_leastForm : GoodIn wsX7_like wsX3_leastForm := goodIn_r _ [10, 11, 12, 9, 13, 14, 15, 16, 17, 18, 19, 20, 21, 22, 23, 24, 25, 26, 27, 28, 29, 30, 31, 32, 33, 34, 35, 36, 37, 38, 5, 39, 40] (by decide +kernel) (by decide +kernel)
set_option maxRecDepth 20000 in
theorem gX7_like_X3_leastForm : GoodIn wsX7_like (va_wsS RX7 121 yX3_leastForm wsX3_leastForm) := goodIn_app (goodIn_of _ (by decide +kernel)) ggX7_like_X3_leastForm
theorem dX7_like_0 : decode cX7_like 0 = .ok (.iload_n 1, 1) := by decide +kernel
theorem dX7_like_1 : decode cX7_like 1 = .ok (.invokestatic 50, 3) := by decide +kernel
theorem dX7_like_4 : decode cX7_like 4 = .ok (.ifCond .ne 10, 3) := by decide +kernel
theorem dX7_like_7 : decode cX7_like 7 = .ok (.iload_n 2, 1) := by decide +kernel
theorem dX7_like_8 : decode cX7_like 8 = .ok (.invokestatic 50, 3) := by decide +kernel
theorem dX7_like_11 : decode cX7_like 11 = .ok (.ifCond .eq 5, 3) := by decide +kernel
theorem dX7_like_14 : decode cX7_like 14 = .ok (.iconst (-1), 1) := by decide +kernel
theorem dX7_like_15 : decode cX7_like 15 = .ok (.ireturn, 1) := by decide +kernel
theorem dX7_like_16 : decode cX7_like 16 = .ok (.aload_n 0, 1) := by decide +kernel
theorem dX7_like_17 : decode cX7_like 17 = .ok (.getfield 19, 3) := by decide +kernel
theorem dX7_like_20 : decode cX7_like 20 = .ok (.getfield 62, 3) := by decide +kernel
theorem dX7_like_23 : decode cX7_like 23 = .ok (.iload_n 1, 1) := by decide +kernel
theorem dX7_like_24 : decode cX7_like 24 = .ok (.laload, 1) := by decide +kernel
theorem dX7_like_25 : decode cX7_like 25 = .ok (.invokestatic 121, 3) := by decide +kernel
theorem dX7_like_28 : decode cX7_like 28 = .ok (.aload_n 0, 1) := by decide +kernel
theorem dX7_like_29 : decode cX7_like 29 = .ok (.getfield 19, 3) := by decide +kernel
theorem dX7_like_32 : decode cX7_like 32 = .ok (.getfield 62, 3) := by decide +kernel
theorem dX7_like_35 : decode cX7_like 35 = .ok (.iload_n 2, 1) := by decide +kernel
theorem dX7_like_36 : decode cX7_like 36 = .ok (.laload, 1) := by decide +kernel
theorem dX7_like_37 : decode cX7_like 37 = .ok (.invokestatic 121, 3) := by decide +kernel
theorem dX7_like_40 : decode cX7_like 40 = .ok (.lcmp, 1) := by decide +kernel
theorem dX7_like_41 : decode cX7_like 41 = .ok (.ifCond .ne 7, 3) := by decide +kernel
theorem dX7_like_44 : decode cX7_like 44 = .ok (.iconst 1, 1) := by decide +kernel
theorem dX7_like_45 : decode cX7_like 45 = .ok (.goto 4, 3) := by decide +kernel
theorem dX7_like_48 : decode cX7_like 48 = .ok (.iconst 0, 1) := by decide +kernel
theorem dX7_like_49 : decode cX7_like 49 = .ok (.ireturn, 1) := by decide +kernel
set_option maxRecDepth 20000 in
theorem ggX7_itself_X7_noFigure : GoodIn wsX7_itself wsX7_noFigure := goodIn_r _ [6] (by decide +kernel) (by decide +kernel)
set_option maxRecDepth 20000 in
theorem gX7_itself_X7_noFigure : GoodIn wsX7_itself (va_wsS RX7 50 yX7_noFigure wsX7_noFigure) := goodIn_app (goodIn_of _ (by decide +kernel)) ggX7_itself_X7_noFigure
set_option maxRecDepth 20000 in
theorem ggX7_itself_X3_turnsOntoItself : GoodIn wsX7_itself wsX3_turnsOntoItself := goodIn_r _ [10, 11, 12, 9, 13, 14, 15, 16, 17, 18, 19, 20, 21, 22, 23, 24, 25, 26, 27, 28, 29, 30, 31, 32, 33, 34, 35, 36, 37] (by decide +kernel) (by decide +kernel)
set_option maxRecDepth 20000 in
theorem gX7_itself_X3_turnsOntoItself : GoodIn wsX7_itself (va_wsS RX7 125 yX3_turnsOntoItself wsX3_turnsOntoItself) := goodIn_app (goodIn_of _ (by decide +kernel)) ggX7_itself_X3_turnsOntoItself
theorem dX7_itself_0 : decode cX7_itself 0 = .ok (.iload_n 1, 1) := by decide +kernel
theorem dX7_itself_1 : decode cX7_itself 1 = .ok (.invokestatic 50, 3) := by decide +kernel
theorem dX7_itself_4 : decode cX7_itself 4 = .ok (.ifCond .eq 7, 3) := by decide +kernel
theorem dX7_itself_7 : decode cX7_itself 7 = .ok (.iconst (-1), 1) := by decide +kernel
theorem dX7_itself_8 : decode cX7_itself 8 = .ok (.goto 15, 3) := by decide +kernel
theorem dX7_itself_11 : decode cX7_itself 11 = .ok (.aload_n 0, 1) := by decide +kernel
theorem dX7_itself_12 : decode cX7_itself 12 = .ok (.getfield 19, 3) := by decide +kernel
theorem dX7_itself_15 : decode cX7_itself 15 = .ok (.getfield 62, 3) := by decide +kernel
theorem dX7_itself_18 : decode cX7_itself 18 = .ok (.iload_n 1, 1) := by decide +kernel
theorem dX7_itself_19 : decode cX7_itself 19 = .ok (.laload, 1) := by decide +kernel
theorem dX7_itself_20 : decode cX7_itself 20 = .ok (.invokestatic 125, 3) := by decide +kernel
theorem dX7_itself_23 : decode cX7_itself 23 = .ok (.ireturn, 1) := by decide +kernel
set_option maxRecDepth 20000 in
theorem ggX7_both_X7_noFigure : GoodIn wsX7_both wsX7_noFigure := goodIn_r _ [6] (by decide +kernel) (by decide +kernel)
set_option maxRecDepth 20000 in
theorem gX7_both_X7_noFigure : GoodIn wsX7_both (va_wsS RX7 50 yX7_noFigure wsX7_noFigure) := goodIn_app (goodIn_of _ (by decide +kernel)) ggX7_both_X7_noFigure
set_option maxRecDepth 20000 in
theorem ggX7_both_X7_combined : GoodIn wsX7_both wsX7_combined := goodIn_r _ [9, 10] (by decide +kernel) (by decide +kernel)
set_option maxRecDepth 20000 in
theorem gX7_both_X7_combined : GoodIn wsX7_both (va_wsS RX7 128 yX7_combined wsX7_combined) := goodIn_app (goodIn_of _ (by decide +kernel)) ggX7_both_X7_combined
set_option maxRecDepth 20000 in
theorem ggX7_both_X7_become : GoodIn wsX7_both wsX7_become := goodIn_r _ [14, 1, 2, 15, 16, 17, 18, 19, 20, 21, 22, 23, 24, 25, 26, 27, 28, 29, 30] (by decide +kernel) (by decide +kernel)
set_option maxRecDepth 20000 in
theorem gX7_both_X7_become : GoodIn wsX7_both (wsV RX7 58 RX7 yX7_become wsX7_become) := goodIn_app (goodIn_of _ (by decide +kernel)) ggX7_both_X7_become
theorem dX7_both_0 : decode cX7_both 0 = .ok (.iload_n 1, 1) := by decide +kernel
theorem dX7_both_1 : decode cX7_both 1 = .ok (.invokestatic 50, 3) := by decide +kernel
theorem dX7_both_4 : decode cX7_both 4 = .ok (.ifCond .ne 18, 3) := by decide +kernel
theorem dX7_both_7 : decode cX7_both 7 = .ok (.iload_n 3, 1) := by decide +kernel
theorem dX7_both_8 : decode cX7_both 8 = .ok (.invokestatic 50, 3) := by decide +kernel
theorem dX7_both_11 : decode cX7_both 11 = .ok (.ifCond .ne 11, 3) := by decide +kernel
theorem dX7_both_14 : decode cX7_both 14 = .ok (.iload 4, 2) := by decide +kernel
theorem dX7_both_16 : decode cX7_both 16 = .ok (.invokestatic 50, 3) := by decide +kernel
theorem dX7_both_19 : decode cX7_both 19 = .ok (.ifCond .eq 5, 3) := by decide +kernel
theorem dX7_both_22 : decode cX7_both 22 = .ok (.iconst (-1), 1) := by decide +kernel
theorem dX7_both_23 : decode cX7_both 23 = .ok (.ireturn, 1) := by decide +kernel
theorem dX7_both_24 : decode cX7_both 24 = .ok (.iload_n 2, 1) := by decide +kernel
theorem dX7_both_25 : decode cX7_both 25 = .ok (.ifCond .lt 8, 3) := by decide +kernel
theorem dX7_both_28 : decode cX7_both 28 = .ok (.iload_n 2, 1) := by decide +kernel
theorem dX7_both_29 : decode cX7_both 29 = .ok (.iconst 3, 1) := by decide +kernel
theorem dX7_both_30 : decode cX7_both 30 = .ok (.if_icmp .le 6, 3) := by decide +kernel
theorem dX7_both_33 : decode cX7_both 33 = .ok (.bipush (-2), 2) := by decide +kernel
theorem dX7_both_35 : decode cX7_both 35 = .ok (.ireturn, 1) := by decide +kernel
theorem dX7_both_36 : decode cX7_both 36 = .ok (.aload_n 0, 1) := by decide +kernel
theorem dX7_both_37 : decode cX7_both 37 = .ok (.iload_n 1, 1) := by decide +kernel
theorem dX7_both_38 : decode cX7_both 38 = .ok (.iload_n 2, 1) := by decide +kernel
theorem dX7_both_39 : decode cX7_both 39 = .ok (.aload_n 0, 1) := by decide +kernel
theorem dX7_both_40 : decode cX7_both 40 = .ok (.getfield 19, 3) := by decide +kernel
theorem dX7_both_43 : decode cX7_both 43 = .ok (.getfield 62, 3) := by decide +kernel
theorem dX7_both_46 : decode cX7_both 46 = .ok (.iload_n 3, 1) := by decide +kernel
theorem dX7_both_47 : decode cX7_both 47 = .ok (.laload, 1) := by decide +kernel
theorem dX7_both_48 : decode cX7_both 48 = .ok (.aload_n 0, 1) := by decide +kernel
theorem dX7_both_49 : decode cX7_both 49 = .ok (.getfield 19, 3) := by decide +kernel
theorem dX7_both_52 : decode cX7_both 52 = .ok (.getfield 62, 3) := by decide +kernel
theorem dX7_both_55 : decode cX7_both 55 = .ok (.iload 4, 2) := by decide +kernel
theorem dX7_both_57 : decode cX7_both 57 = .ok (.laload, 1) := by decide +kernel
theorem dX7_both_58 : decode cX7_both 58 = .ok (.invokestatic 128, 3) := by decide +kernel
theorem dX7_both_61 : decode cX7_both 61 = .ok (.invokevirtual 58, 3) := by decide +kernel
theorem dX7_both_64 : decode cX7_both 64 = .ok (.ireturn, 1) := by decide +kernel
set_option maxRecDepth 20000 in
theorem ggX7_ahead_X7_noFigure : GoodIn wsX7_ahead wsX7_noFigure := goodIn_r _ [6] (by decide +kernel) (by decide +kernel)
set_option maxRecDepth 20000 in
theorem gX7_ahead_X7_noFigure : GoodIn wsX7_ahead (va_wsS RX7 50 yX7_noFigure wsX7_noFigure) := goodIn_app (goodIn_of _ (by decide +kernel)) ggX7_ahead_X7_noFigure
set_option maxRecDepth 20000 in
theorem ggX7_ahead_X2_isNone : GoodIn wsX7_ahead wsX2_isNone := goodIn_r _ [10, 11, 12, 9, 13, 14, 15, 16] (by decide +kernel) (by decide +kernel)
set_option maxRecDepth 20000 in
theorem gX7_ahead_X2_isNone : GoodIn wsX7_ahead (va_wsS RX7 132 yX2_isNone wsX2_isNone) := goodIn_app (goodIn_of _ (by decide +kernel)) ggX7_ahead_X2_isNone
set_option maxRecDepth 20000 in
theorem ggX7_ahead_X2_cellsAhead : GoodIn wsX7_ahead wsX2_cellsAhead := goodIn_r _ [19, 20, 21, 9, 22, 23, 24, 25, 26] (by decide +kernel) (by decide +kernel)
set_option maxRecDepth 20000 in
theorem gX7_ahead_X2_cellsAhead : GoodIn wsX7_ahead (va_wsS RX7 138 yX2_cellsAhead wsX2_cellsAhead) := goodIn_app (goodIn_of _ (by decide +kernel)) ggX7_ahead_X2_cellsAhead
set_option maxRecDepth 20000 in
theorem ggX7_ahead_J13_bitCount_95d88 : GoodIn wsX7_ahead wsJ13_bitCount_95d88 := goodIn_r _ [30, 31, 32, 33] (by decide +kernel) (by decide +kernel)
set_option maxRecDepth 20000 in
theorem gX7_ahead_J13_bitCount_95d88 : GoodIn wsX7_ahead (va_wsS RX7 80 yJ13_bitCount_95d88 wsJ13_bitCount_95d88) := goodIn_app (goodIn_of _ (by decide +kernel)) ggX7_ahead_J13_bitCount_95d88
theorem dX7_ahead_0 : decode cX7_ahead 0 = .ok (.iload_n 1, 1) := by decide +kernel
theorem dX7_ahead_1 : decode cX7_ahead 1 = .ok (.invokestatic 50, 3) := by decide +kernel
theorem dX7_ahead_4 : decode cX7_ahead 4 = .ok (.ifCond .eq 5, 3) := by decide +kernel
theorem dX7_ahead_7 : decode cX7_ahead 7 = .ok (.iconst (-1), 1) := by decide +kernel
theorem dX7_ahead_8 : decode cX7_ahead 8 = .ok (.ireturn, 1) := by decide +kernel
theorem dX7_ahead_9 : decode cX7_ahead 9 = .ok (.iload_n 2, 1) := by decide +kernel
theorem dX7_ahead_10 : decode cX7_ahead 10 = .ok (.iload_n 3, 1) := by decide +kernel
theorem dX7_ahead_11 : decode cX7_ahead 11 = .ok (.invokestatic 132, 3) := by decide +kernel
theorem dX7_ahead_14 : decode cX7_ahead 14 = .ok (.ifCond .eq 6, 3) := by decide +kernel
theorem dX7_ahead_17 : decode cX7_ahead 17 = .ok (.bipush (-2), 2) := by decide +kernel
theorem dX7_ahead_19 : decode cX7_ahead 19 = .ok (.ireturn, 1) := by decide +kernel
theorem dX7_ahead_20 : decode cX7_ahead 20 = .ok (.aload_n 0, 1) := by decide +kernel
theorem dX7_ahead_21 : decode cX7_ahead 21 = .ok (.getfield 19, 3) := by decide +kernel
theorem dX7_ahead_24 : decode cX7_ahead 24 = .ok (.getfield 62, 3) := by decide +kernel
theorem dX7_ahead_27 : decode cX7_ahead 27 = .ok (.iload_n 1, 1) := by decide +kernel
theorem dX7_ahead_28 : decode cX7_ahead 28 = .ok (.laload, 1) := by decide +kernel
theorem dX7_ahead_29 : decode cX7_ahead 29 = .ok (.iload_n 2, 1) := by decide +kernel
theorem dX7_ahead_30 : decode cX7_ahead 30 = .ok (.iload_n 3, 1) := by decide +kernel
theorem dX7_ahead_31 : decode cX7_ahead 31 = .ok (.invokestatic 138, 3) := by decide +kernel
theorem dX7_ahead_34 : decode cX7_ahead 34 = .ok (.land, 1) := by decide +kernel
theorem dX7_ahead_35 : decode cX7_ahead 35 = .ok (.invokestatic 80, 3) := by decide +kernel
theorem dX7_ahead_38 : decode cX7_ahead 38 = .ok (.ireturn, 1) := by decide +kernel
set_option maxRecDepth 20000 in
theorem ggX7_cut_X7_noFigure : GoodIn wsX7_cut wsX7_noFigure := goodIn_r _ [7] (by decide +kernel) (by decide +kernel)
set_option maxRecDepth 20000 in
theorem gX7_cut_X7_noFigure : GoodIn wsX7_cut (va_wsS RX7 50 yX7_noFigure wsX7_noFigure) := goodIn_app (goodIn_of _ (by decide +kernel)) ggX7_cut_X7_noFigure
set_option maxRecDepth 20000 in
theorem ggX7_cut_X2_isNone : GoodIn wsX7_cut wsX2_isNone := goodIn_r _ [11, 12, 13, 10, 14, 15, 16, 17] (by decide +kernel) (by decide +kernel)
set_option maxRecDepth 20000 in
theorem gX7_cut_X2_isNone : GoodIn wsX7_cut (va_wsS RX7 132 yX2_isNone wsX2_isNone) := goodIn_app (goodIn_of _ (by decide +kernel)) ggX7_cut_X2_isNone
set_option maxRecDepth 20000 in
theorem ggX7_cut_X2_cellsAhead : GoodIn wsX7_cut wsX2_cellsAhead := goodIn_r _ [20, 21, 22, 10, 23, 24, 25, 26, 27] (by decide +kernel) (by decide +kernel)
set_option maxRecDepth 20000 in
theorem gX7_cut_X2_cellsAhead : GoodIn wsX7_cut (va_wsS RX7 138 yX2_cellsAhead wsX2_cellsAhead) := goodIn_app (goodIn_of _ (by decide +kernel)) ggX7_cut_X2_cellsAhead
set_option maxRecDepth 20000 in
theorem ggX7_cut_X0_countParts : GoodIn wsX7_cut wsX0_countParts := goodIn_r _ [31, 32, 33, 34, 30, 35, 36, 37, 38, 39, 40, 41, 42, 43, 44, 45, 46, 47, 48, 49, 50, 51, 52, 53, 54, 55] (by decide +kernel) (by decide +kernel)
set_option maxRecDepth 20000 in
theorem gX7_cut_X0_countParts : GoodIn wsX7_cut (va_wsS RX7 86 yX0_countParts wsX0_countParts) := goodIn_app (goodIn_of _ (by decide +kernel)) ggX7_cut_X0_countParts
theorem dX7_cut_0 : decode cX7_cut 0 = .ok (.iload_n 1, 1) := by decide +kernel
theorem dX7_cut_1 : decode cX7_cut 1 = .ok (.invokestatic 50, 3) := by decide +kernel
theorem dX7_cut_4 : decode cX7_cut 4 = .ok (.ifCond .eq 5, 3) := by decide +kernel
theorem dX7_cut_7 : decode cX7_cut 7 = .ok (.iconst (-1), 1) := by decide +kernel
theorem dX7_cut_8 : decode cX7_cut 8 = .ok (.ireturn, 1) := by decide +kernel
theorem dX7_cut_9 : decode cX7_cut 9 = .ok (.iload_n 2, 1) := by decide +kernel
theorem dX7_cut_10 : decode cX7_cut 10 = .ok (.iload_n 3, 1) := by decide +kernel
theorem dX7_cut_11 : decode cX7_cut 11 = .ok (.invokestatic 132, 3) := by decide +kernel
theorem dX7_cut_14 : decode cX7_cut 14 = .ok (.ifCond .eq 6, 3) := by decide +kernel
theorem dX7_cut_17 : decode cX7_cut 17 = .ok (.bipush (-2), 2) := by decide +kernel
theorem dX7_cut_19 : decode cX7_cut 19 = .ok (.ireturn, 1) := by decide +kernel
theorem dX7_cut_20 : decode cX7_cut 20 = .ok (.aload_n 0, 1) := by decide +kernel
theorem dX7_cut_21 : decode cX7_cut 21 = .ok (.getfield 19, 3) := by decide +kernel
theorem dX7_cut_24 : decode cX7_cut 24 = .ok (.getfield 62, 3) := by decide +kernel
theorem dX7_cut_27 : decode cX7_cut 27 = .ok (.iload_n 1, 1) := by decide +kernel
theorem dX7_cut_28 : decode cX7_cut 28 = .ok (.laload, 1) := by decide +kernel
theorem dX7_cut_29 : decode cX7_cut 29 = .ok (.lstore 4, 2) := by decide +kernel
theorem dX7_cut_31 : decode cX7_cut 31 = .ok (.iload_n 2, 1) := by decide +kernel
theorem dX7_cut_32 : decode cX7_cut 32 = .ok (.iload_n 3, 1) := by decide +kernel
theorem dX7_cut_33 : decode cX7_cut 33 = .ok (.invokestatic 138, 3) := by decide +kernel
theorem dX7_cut_36 : decode cX7_cut 36 = .ok (.lstore 6, 2) := by decide +kernel
theorem dX7_cut_38 : decode cX7_cut 38 = .ok (.lload 4, 2) := by decide +kernel
theorem dX7_cut_40 : decode cX7_cut 40 = .ok (.lload 6, 2) := by decide +kernel
theorem dX7_cut_42 : decode cX7_cut 42 = .ok (.land, 1) := by decide +kernel
theorem dX7_cut_43 : decode cX7_cut 43 = .ok (.invokestatic 86, 3) := by decide +kernel
theorem dX7_cut_46 : decode cX7_cut 46 = .ok (.lload 4, 2) := by decide +kernel
theorem dX7_cut_48 : decode cX7_cut 48 = .ok (.lload 6, 2) := by decide +kernel
theorem dX7_cut_50 : decode cX7_cut 50 = .ok (.ldc2_w 75, 3) := by decide +kernel
theorem dX7_cut_53 : decode cX7_cut 53 = .ok (.lxor, 1) := by decide +kernel
theorem dX7_cut_54 : decode cX7_cut 54 = .ok (.land, 1) := by decide +kernel
theorem dX7_cut_55 : decode cX7_cut 55 = .ok (.invokestatic 86, 3) := by decide +kernel
theorem dX7_cut_58 : decode cX7_cut 58 = .ok (.iadd, 1) := by decide +kernel
theorem dX7_cut_59 : decode cX7_cut 59 = .ok (.ireturn, 1) := by decide +kernel
set_option maxRecDepth 20000 in
theorem ggX7_halves_X7_noFigure : GoodIn wsX7_halves wsX7_noFigure := goodIn_r _ [6] (by decide +kernel) (by decide +kernel)
set_option maxRecDepth 20000 in
theorem gX7_halves_X7_noFigure : GoodIn wsX7_halves (va_wsS RX7 50 yX7_noFigure wsX7_noFigure) := goodIn_app (goodIn_of _ (by decide +kernel)) ggX7_halves_X7_noFigure
set_option maxRecDepth 20000 in
theorem ggX7_halves_X2_countHalving : GoodIn wsX7_halves wsX2_countHalving := goodIn_r _ [10, 11, 12, 13, 9, 14, 15, 16, 17, 18, 19, 20, 21, 22, 23, 24, 25, 26, 27, 28, 29, 30, 31, 32, 33, 34] (by decide +kernel) (by decide +kernel)
set_option maxRecDepth 20000 in
theorem gX7_halves_X2_countHalving : GoodIn wsX7_halves (va_wsS RX7 142 yX2_countHalving wsX2_countHalving) := goodIn_app (goodIn_of _ (by decide +kernel)) ggX7_halves_X2_countHalving
theorem dX7_halves_0 : decode cX7_halves 0 = .ok (.iload_n 1, 1) := by decide +kernel
theorem dX7_halves_1 : decode cX7_halves 1 = .ok (.invokestatic 50, 3) := by decide +kernel
theorem dX7_halves_4 : decode cX7_halves 4 = .ok (.ifCond .eq 7, 3) := by decide +kernel
theorem dX7_halves_7 : decode cX7_halves 7 = .ok (.iconst (-1), 1) := by decide +kernel
theorem dX7_halves_8 : decode cX7_halves 8 = .ok (.goto 15, 3) := by decide +kernel
theorem dX7_halves_11 : decode cX7_halves 11 = .ok (.aload_n 0, 1) := by decide +kernel
theorem dX7_halves_12 : decode cX7_halves 12 = .ok (.getfield 19, 3) := by decide +kernel
theorem dX7_halves_15 : decode cX7_halves 15 = .ok (.getfield 62, 3) := by decide +kernel
theorem dX7_halves_18 : decode cX7_halves 18 = .ok (.iload_n 1, 1) := by decide +kernel
theorem dX7_halves_19 : decode cX7_halves 19 = .ok (.laload, 1) := by decide +kernel
theorem dX7_halves_20 : decode cX7_halves 20 = .ok (.invokestatic 142, 3) := by decide +kernel
theorem dX7_halves_23 : decode cX7_halves 23 = .ok (.ireturn, 1) := by decide +kernel
set_option maxRecDepth 20000 in
theorem ggX7_split_X7_noFigure : GoodIn wsX7_split wsX7_noFigure := goodIn_r _ [7] (by decide +kernel) (by decide +kernel)
set_option maxRecDepth 20000 in
theorem gX7_split_X7_noFigure : GoodIn wsX7_split (va_wsS RX7 50 yX7_noFigure wsX7_noFigure) := goodIn_app (goodIn_of _ (by decide +kernel)) ggX7_split_X7_noFigure
set_option maxRecDepth 20000 in
theorem ggX7_split_X2_isNone : GoodIn wsX7_split wsX2_isNone := goodIn_r _ [11, 12, 13, 10, 14, 15, 16, 17] (by decide +kernel) (by decide +kernel)
set_option maxRecDepth 20000 in
theorem gX7_split_X2_isNone : GoodIn wsX7_split (va_wsS RX7 132 yX2_isNone wsX2_isNone) := goodIn_app (goodIn_of _ (by decide +kernel)) ggX7_split_X2_isNone
set_option maxRecDepth 20000 in
theorem ggX7_split_X2_cellsAhead : GoodIn wsX7_split wsX2_cellsAhead := goodIn_r _ [20, 21, 22, 10, 23, 24, 25, 26, 27] (by decide +kernel) (by decide +kernel)
set_option maxRecDepth 20000 in
theorem gX7_split_X2_cellsAhead : GoodIn wsX7_split (va_wsS RX7 138 yX2_cellsAhead wsX2_cellsAhead) := goodIn_app (goodIn_of _ (by decide +kernel)) ggX7_split_X2_cellsAhead
set_option maxRecDepth 20000 in
theorem ggX7_split_X7_become : GoodIn wsX7_split wsX7_become := goodIn_r _ [31, 1, 2, 32, 33, 34, 35, 36, 37, 38, 39, 40, 41, 42, 43, 44, 45, 46, 47] (by decide +kernel) (by decide +kernel)
set_option maxRecDepth 20000 in
theorem gX7_split_X7_become : GoodIn wsX7_split (wsV RX7 58 RX7 yX7_become wsX7_become) := goodIn_app (goodIn_of _ (by decide +kernel)) ggX7_split_X7_become
theorem dX7_split_0 : decode cX7_split 0 = .ok (.iload_n 1, 1) := by decide +kernel
theorem dX7_split_1 : decode cX7_split 1 = .ok (.invokestatic 50, 3) := by decide +kernel
theorem dX7_split_4 : decode cX7_split 4 = .ok (.ifCond .ne 11, 3) := by decide +kernel
theorem dX7_split_7 : decode cX7_split 7 = .ok (.iload 4, 2) := by decide +kernel
theorem dX7_split_9 : decode cX7_split 9 = .ok (.invokestatic 50, 3) := by decide +kernel
theorem dX7_split_12 : decode cX7_split 12 = .ok (.ifCond .eq 5, 3) := by decide +kernel
theorem dX7_split_15 : decode cX7_split 15 = .ok (.iconst (-1), 1) := by decide +kernel
theorem dX7_split_16 : decode cX7_split 16 = .ok (.ireturn, 1) := by decide +kernel
theorem dX7_split_17 : decode cX7_split 17 = .ok (.iload_n 2, 1) := by decide +kernel
theorem dX7_split_18 : decode cX7_split 18 = .ok (.iload_n 3, 1) := by decide +kernel
theorem dX7_split_19 : decode cX7_split 19 = .ok (.invokestatic 132, 3) := by decide +kernel
theorem dX7_split_22 : decode cX7_split 22 = .ok (.ifCond .eq 6, 3) := by decide +kernel
theorem dX7_split_25 : decode cX7_split 25 = .ok (.bipush (-2), 2) := by decide +kernel
theorem dX7_split_27 : decode cX7_split 27 = .ok (.ireturn, 1) := by decide +kernel
theorem dX7_split_28 : decode cX7_split 28 = .ok (.iload_n 1, 1) := by decide +kernel
theorem dX7_split_29 : decode cX7_split 29 = .ok (.iload 4, 2) := by decide +kernel
theorem dX7_split_31 : decode cX7_split 31 = .ok (.if_icmp .ne 6, 3) := by decide +kernel
theorem dX7_split_34 : decode cX7_split 34 = .ok (.bipush (-3), 2) := by decide +kernel
theorem dX7_split_36 : decode cX7_split 36 = .ok (.ireturn, 1) := by decide +kernel
theorem dX7_split_37 : decode cX7_split 37 = .ok (.aload_n 0, 1) := by decide +kernel
theorem dX7_split_38 : decode cX7_split 38 = .ok (.getfield 19, 3) := by decide +kernel
theorem dX7_split_41 : decode cX7_split 41 = .ok (.getfield 62, 3) := by decide +kernel
theorem dX7_split_44 : decode cX7_split 44 = .ok (.iload_n 1, 1) := by decide +kernel
theorem dX7_split_45 : decode cX7_split 45 = .ok (.laload, 1) := by decide +kernel
theorem dX7_split_46 : decode cX7_split 46 = .ok (.lstore 5, 2) := by decide +kernel
theorem dX7_split_48 : decode cX7_split 48 = .ok (.iload_n 2, 1) := by decide +kernel
theorem dX7_split_49 : decode cX7_split 49 = .ok (.iload_n 3, 1) := by decide +kernel
theorem dX7_split_50 : decode cX7_split 50 = .ok (.invokestatic 138, 3) := by decide +kernel
theorem dX7_split_53 : decode cX7_split 53 = .ok (.lstore 7, 2) := by decide +kernel
theorem dX7_split_55 : decode cX7_split 55 = .ok (.aload_n 0, 1) := by decide +kernel
theorem dX7_split_56 : decode cX7_split 56 = .ok (.getfield 19, 3) := by decide +kernel
theorem dX7_split_59 : decode cX7_split 59 = .ok (.getfield 62, 3) := by decide +kernel
theorem dX7_split_62 : decode cX7_split 62 = .ok (.iload_n 1, 1) := by decide +kernel
theorem dX7_split_63 : decode cX7_split 63 = .ok (.lload 5, 2) := by decide +kernel
theorem dX7_split_65 : decode cX7_split 65 = .ok (.lload 7, 2) := by decide +kernel
theorem dX7_split_67 : decode cX7_split 67 = .ok (.land, 1) := by decide +kernel
theorem dX7_split_68 : decode cX7_split 68 = .ok (.lastore, 1) := by decide +kernel
theorem dX7_split_69 : decode cX7_split 69 = .ok (.aload_n 0, 1) := by decide +kernel
theorem dX7_split_70 : decode cX7_split 70 = .ok (.iload 4, 2) := by decide +kernel
theorem dX7_split_72 : decode cX7_split 72 = .ok (.lload 5, 2) := by decide +kernel
theorem dX7_split_74 : decode cX7_split 74 = .ok (.lload 7, 2) := by decide +kernel
theorem dX7_split_76 : decode cX7_split 76 = .ok (.ldc2_w 75, 3) := by decide +kernel
theorem dX7_split_79 : decode cX7_split 79 = .ok (.lxor, 1) := by decide +kernel
theorem dX7_split_80 : decode cX7_split 80 = .ok (.land, 1) := by decide +kernel
theorem dX7_split_81 : decode cX7_split 81 = .ok (.invokevirtual 58, 3) := by decide +kernel
theorem dX7_split_84 : decode cX7_split 84 = .ok (.ireturn, 1) := by decide +kernel
set_option maxRecDepth 20000 in
theorem ggX7_part_X7_noFigure : GoodIn wsX7_part wsX7_noFigure := goodIn_r _ [6] (by decide +kernel) (by decide +kernel)
set_option maxRecDepth 20000 in
theorem gX7_part_X7_noFigure : GoodIn wsX7_part (va_wsS RX7 50 yX7_noFigure wsX7_noFigure) := goodIn_app (goodIn_of _ (by decide +kernel)) ggX7_part_X7_noFigure
set_option maxRecDepth 20000 in
theorem ggX7_part_X0_partAt : GoodIn wsX7_part wsX0_partAt := goodIn_r _ [10, 11, 12, 13, 9, 14, 15, 16, 17, 18, 19, 20, 21, 22, 23, 24, 25, 26, 27, 28, 29, 30, 31, 32, 33, 34] (by decide +kernel) (by decide +kernel)
set_option maxRecDepth 20000 in
theorem gX7_part_X0_partAt : GoodIn wsX7_part (va_wsS RX7 145 yX0_partAt wsX0_partAt) := goodIn_app (goodIn_of _ (by decide +kernel)) ggX7_part_X0_partAt
set_option maxRecDepth 20000 in
theorem ggX7_part_X7_become : GoodIn wsX7_part wsX7_become := goodIn_r _ [38, 1, 2, 39, 40, 41, 42, 43, 44, 45, 46, 47, 48, 49, 50, 51, 52, 53, 54] (by decide +kernel) (by decide +kernel)
set_option maxRecDepth 20000 in
theorem gX7_part_X7_become : GoodIn wsX7_part (wsV RX7 58 RX7 yX7_become wsX7_become) := goodIn_app (goodIn_of _ (by decide +kernel)) ggX7_part_X7_become
theorem dX7_part_0 : decode cX7_part 0 = .ok (.iload_n 1, 1) := by decide +kernel
theorem dX7_part_1 : decode cX7_part 1 = .ok (.invokestatic 50, 3) := by decide +kernel
theorem dX7_part_4 : decode cX7_part 4 = .ok (.ifCond .ne 10, 3) := by decide +kernel
theorem dX7_part_7 : decode cX7_part 7 = .ok (.iload_n 2, 1) := by decide +kernel
theorem dX7_part_8 : decode cX7_part 8 = .ok (.invokestatic 50, 3) := by decide +kernel
theorem dX7_part_11 : decode cX7_part 11 = .ok (.ifCond .eq 5, 3) := by decide +kernel
theorem dX7_part_14 : decode cX7_part 14 = .ok (.iconst (-1), 1) := by decide +kernel
theorem dX7_part_15 : decode cX7_part 15 = .ok (.ireturn, 1) := by decide +kernel
theorem dX7_part_16 : decode cX7_part 16 = .ok (.aload_n 0, 1) := by decide +kernel
theorem dX7_part_17 : decode cX7_part 17 = .ok (.getfield 19, 3) := by decide +kernel
theorem dX7_part_20 : decode cX7_part 20 = .ok (.getfield 62, 3) := by decide +kernel
theorem dX7_part_23 : decode cX7_part 23 = .ok (.iload_n 2, 1) := by decide +kernel
theorem dX7_part_24 : decode cX7_part 24 = .ok (.laload, 1) := by decide +kernel
theorem dX7_part_25 : decode cX7_part 25 = .ok (.iload_n 3, 1) := by decide +kernel
theorem dX7_part_26 : decode cX7_part 26 = .ok (.invokestatic 145, 3) := by decide +kernel
theorem dX7_part_29 : decode cX7_part 29 = .ok (.lstore 4, 2) := by decide +kernel
theorem dX7_part_31 : decode cX7_part 31 = .ok (.lload 4, 2) := by decide +kernel
theorem dX7_part_33 : decode cX7_part 33 = .ok (.lconst 0, 1) := by decide +kernel
theorem dX7_part_34 : decode cX7_part 34 = .ok (.lcmp, 1) := by decide +kernel
theorem dX7_part_35 : decode cX7_part 35 = .ok (.ifCond .ne 8, 3) := by decide +kernel
theorem dX7_part_38 : decode cX7_part 38 = .ok (.bipush (-3), 2) := by decide +kernel
theorem dX7_part_40 : decode cX7_part 40 = .ok (.goto 10, 3) := by decide +kernel
theorem dX7_part_43 : decode cX7_part 43 = .ok (.aload_n 0, 1) := by decide +kernel
theorem dX7_part_44 : decode cX7_part 44 = .ok (.iload_n 1, 1) := by decide +kernel
theorem dX7_part_45 : decode cX7_part 45 = .ok (.lload 4, 2) := by decide +kernel
theorem dX7_part_47 : decode cX7_part 47 = .ok (.invokevirtual 58, 3) := by decide +kernel
theorem dX7_part_50 : decode cX7_part 50 = .ok (.ireturn, 1) := by decide +kernel
set_option maxRecDepth 20000 in
theorem ggX7_lay_X7_noFigure : GoodIn wsX7_lay wsX7_noFigure := goodIn_r _ [9] (by decide +kernel) (by decide +kernel)
set_option maxRecDepth 20000 in
theorem gX7_lay_X7_noFigure : GoodIn wsX7_lay (va_wsS RX7 50 yX7_noFigure wsX7_noFigure) := goodIn_app (goodIn_of _ (by decide +kernel)) ggX7_lay_X7_noFigure
theorem dX7_lay_0 : decode cX7_lay 0 = .ok (.iload_n 1, 1) := by decide +kernel
theorem dX7_lay_1 : decode cX7_lay 1 = .ok (.invokestatic 50, 3) := by decide +kernel
theorem dX7_lay_4 : decode cX7_lay 4 = .ok (.ifCond .eq 5, 3) := by decide +kernel
theorem dX7_lay_7 : decode cX7_lay 7 = .ok (.iconst (-1), 1) := by decide +kernel
theorem dX7_lay_8 : decode cX7_lay 8 = .ok (.ireturn, 1) := by decide +kernel
theorem dX7_lay_9 : decode cX7_lay 9 = .ok (.aload_n 0, 1) := by decide +kernel
theorem dX7_lay_10 : decode cX7_lay 10 = .ok (.getfield 19, 3) := by decide +kernel
theorem dX7_lay_13 : decode cX7_lay 13 = .ok (.getfield 62, 3) := by decide +kernel
theorem dX7_lay_16 : decode cX7_lay 16 = .ok (.iload_n 1, 1) := by decide +kernel
theorem dX7_lay_17 : decode cX7_lay 17 = .ok (.laload, 1) := by decide +kernel
theorem dX7_lay_18 : decode cX7_lay 18 = .ok (.lconst 0, 1) := by decide +kernel
theorem dX7_lay_19 : decode cX7_lay 19 = .ok (.lcmp, 1) := by decide +kernel
theorem dX7_lay_20 : decode cX7_lay 20 = .ok (.ifCond .ne 6, 3) := by decide +kernel
theorem dX7_lay_23 : decode cX7_lay 23 = .ok (.bipush (-3), 2) := by decide +kernel
theorem dX7_lay_25 : decode cX7_lay 25 = .ok (.ireturn, 1) := by decide +kernel
theorem dX7_lay_26 : decode cX7_lay 26 = .ok (.aload_n 0, 1) := by decide +kernel
theorem dX7_lay_27 : decode cX7_lay 27 = .ok (.getfield 19, 3) := by decide +kernel
theorem dX7_lay_30 : decode cX7_lay 30 = .ok (.getfield 148, 3) := by decide +kernel
theorem dX7_lay_33 : decode cX7_lay 33 = .ok (.iconst 4, 1) := by decide +kernel
theorem dX7_lay_34 : decode cX7_lay 34 = .ok (.if_icmp .lt 6, 3) := by decide +kernel
theorem dX7_lay_37 : decode cX7_lay 37 = .ok (.bipush (-4), 2) := by decide +kernel
theorem dX7_lay_39 : decode cX7_lay 39 = .ok (.ireturn, 1) := by decide +kernel
theorem dX7_lay_40 : decode cX7_lay 40 = .ok (.aload_n 0, 1) := by decide +kernel
theorem dX7_lay_41 : decode cX7_lay 41 = .ok (.getfield 19, 3) := by decide +kernel
theorem dX7_lay_44 : decode cX7_lay 44 = .ok (.getfield 151, 3) := by decide +kernel
theorem dX7_lay_47 : decode cX7_lay 47 = .ok (.aload_n 0, 1) := by decide +kernel
theorem dX7_lay_48 : decode cX7_lay 48 = .ok (.getfield 19, 3) := by decide +kernel
theorem dX7_lay_51 : decode cX7_lay 51 = .ok (.getfield 148, 3) := by decide +kernel
theorem dX7_lay_54 : decode cX7_lay 54 = .ok (.aload_n 0, 1) := by decide +kernel
theorem dX7_lay_55 : decode cX7_lay 55 = .ok (.getfield 19, 3) := by decide +kernel
theorem dX7_lay_58 : decode cX7_lay 58 = .ok (.getfield 62, 3) := by decide +kernel
theorem dX7_lay_61 : decode cX7_lay 61 = .ok (.iload_n 1, 1) := by decide +kernel
theorem dX7_lay_62 : decode cX7_lay 62 = .ok (.laload, 1) := by decide +kernel
theorem dX7_lay_63 : decode cX7_lay 63 = .ok (.lastore, 1) := by decide +kernel
theorem dX7_lay_64 : decode cX7_lay 64 = .ok (.aload_n 0, 1) := by decide +kernel
theorem dX7_lay_65 : decode cX7_lay 65 = .ok (.getfield 19, 3) := by decide +kernel
theorem dX7_lay_68 : decode cX7_lay 68 = .ok (.getfield 154, 3) := by decide +kernel
theorem dX7_lay_71 : decode cX7_lay 71 = .ok (.aload_n 0, 1) := by decide +kernel
theorem dX7_lay_72 : decode cX7_lay 72 = .ok (.getfield 19, 3) := by decide +kernel
theorem dX7_lay_75 : decode cX7_lay 75 = .ok (.getfield 148, 3) := by decide +kernel
theorem dX7_lay_78 : decode cX7_lay 78 = .ok (.iload_n 2, 1) := by decide +kernel
theorem dX7_lay_79 : decode cX7_lay 79 = .ok (.bastore, 1) := by decide +kernel
theorem dX7_lay_80 : decode cX7_lay 80 = .ok (.aload_n 0, 1) := by decide +kernel
theorem dX7_lay_81 : decode cX7_lay 81 = .ok (.getfield 19, 3) := by decide +kernel
theorem dX7_lay_84 : decode cX7_lay 84 = .ok (.dup, 1) := by decide +kernel
theorem dX7_lay_85 : decode cX7_lay 85 = .ok (.getfield 148, 3) := by decide +kernel
theorem dX7_lay_88 : decode cX7_lay 88 = .ok (.iconst 1, 1) := by decide +kernel
theorem dX7_lay_89 : decode cX7_lay 89 = .ok (.iadd, 1) := by decide +kernel
theorem dX7_lay_90 : decode cX7_lay 90 = .ok (.putfield 148, 3) := by decide +kernel
theorem dX7_lay_93 : decode cX7_lay 93 = .ok (.aload_n 0, 1) := by decide +kernel
theorem dX7_lay_94 : decode cX7_lay 94 = .ok (.getfield 19, 3) := by decide +kernel
theorem dX7_lay_97 : decode cX7_lay 97 = .ok (.getfield 148, 3) := by decide +kernel
theorem dX7_lay_100 : decode cX7_lay 100 = .ok (.iconst 1, 1) := by decide +kernel
theorem dX7_lay_101 : decode cX7_lay 101 = .ok (.isub, 1) := by decide +kernel
theorem dX7_lay_102 : decode cX7_lay 102 = .ok (.ireturn, 1) := by decide +kernel
theorem dX7_lift_0 : decode cX7_lift 0 = .ok (.aload_n 0, 1) := by decide +kernel
theorem dX7_lift_1 : decode cX7_lift 1 = .ok (.getfield 19, 3) := by decide +kernel
theorem dX7_lift_4 : decode cX7_lift 4 = .ok (.getfield 148, 3) := by decide +kernel
theorem dX7_lift_7 : decode cX7_lift 7 = .ok (.iconst 1, 1) := by decide +kernel
theorem dX7_lift_8 : decode cX7_lift 8 = .ok (.if_icmp .ge 6, 3) := by decide +kernel
theorem dX7_lift_11 : decode cX7_lift 11 = .ok (.bipush (-3), 2) := by decide +kernel
theorem dX7_lift_13 : decode cX7_lift 13 = .ok (.ireturn, 1) := by decide +kernel
theorem dX7_lift_14 : decode cX7_lift 14 = .ok (.aload_n 0, 1) := by decide +kernel
theorem dX7_lift_15 : decode cX7_lift 15 = .ok (.getfield 19, 3) := by decide +kernel
theorem dX7_lift_18 : decode cX7_lift 18 = .ok (.dup, 1) := by decide +kernel
theorem dX7_lift_19 : decode cX7_lift 19 = .ok (.getfield 148, 3) := by decide +kernel
theorem dX7_lift_22 : decode cX7_lift 22 = .ok (.iconst 1, 1) := by decide +kernel
theorem dX7_lift_23 : decode cX7_lift 23 = .ok (.isub, 1) := by decide +kernel
theorem dX7_lift_24 : decode cX7_lift 24 = .ok (.putfield 148, 3) := by decide +kernel
theorem dX7_lift_27 : decode cX7_lift 27 = .ok (.aload_n 0, 1) := by decide +kernel
theorem dX7_lift_28 : decode cX7_lift 28 = .ok (.getfield 19, 3) := by decide +kernel
theorem dX7_lift_31 : decode cX7_lift 31 = .ok (.getfield 148, 3) := by decide +kernel
theorem dX7_lift_34 : decode cX7_lift 34 = .ok (.ireturn, 1) := by decide +kernel
set_option maxRecDepth 20000 in
theorem ggX7_piece_X7_noPiece : GoodIn wsX7_piece wsX7_noPiece := goodIn_r _ [7, 1, 8, 9, 10, 11, 12, 13, 14, 15, 16, 17] (by decide +kernel) (by decide +kernel)
set_option maxRecDepth 20000 in
theorem gX7_piece_X7_noPiece : GoodIn wsX7_piece (wsV RX7 158 RX7 yX7_noPiece wsX7_noPiece) := goodIn_app (goodIn_of _ (by decide +kernel)) ggX7_piece_X7_noPiece
theorem dX7_piece_0 : decode cX7_piece 0 = .ok (.aload_n 0, 1) := by decide +kernel
theorem dX7_piece_1 : decode cX7_piece 1 = .ok (.iload_n 1, 1) := by decide +kernel
theorem dX7_piece_2 : decode cX7_piece 2 = .ok (.invokevirtual 158, 3) := by decide +kernel
theorem dX7_piece_5 : decode cX7_piece 5 = .ok (.ifCond .eq 7, 3) := by decide +kernel
theorem dX7_piece_8 : decode cX7_piece 8 = .ok (.lconst 0, 1) := by decide +kernel
theorem dX7_piece_9 : decode cX7_piece 9 = .ok (.goto 12, 3) := by decide +kernel
theorem dX7_piece_12 : decode cX7_piece 12 = .ok (.aload_n 0, 1) := by decide +kernel
theorem dX7_piece_13 : decode cX7_piece 13 = .ok (.getfield 19, 3) := by decide +kernel
theorem dX7_piece_16 : decode cX7_piece 16 = .ok (.getfield 151, 3) := by decide +kernel
theorem dX7_piece_19 : decode cX7_piece 19 = .ok (.iload_n 1, 1) := by decide +kernel
theorem dX7_piece_20 : decode cX7_piece 20 = .ok (.laload, 1) := by decide +kernel
theorem dX7_piece_21 : decode cX7_piece 21 = .ok (.lreturn, 1) := by decide +kernel
set_option maxRecDepth 20000 in
theorem ggX7_places_X7_noPiece : GoodIn wsX7_places wsX7_noPiece := goodIn_r _ [8, 2, 9, 72, 73, 74, 75, 76, 77, 78, 79, 80] (by decide +kernel) (by decide +kernel)
set_option maxRecDepth 20000 in
theorem gX7_places_X7_noPiece : GoodIn wsX7_places (wsV RX7 158 RX7 yX7_noPiece wsX7_noPiece) := goodIn_app (goodIn_of _ (by decide +kernel)) ggX7_places_X7_noPiece
set_option maxRecDepth 20000 in
theorem ggX7_places_X7_noFigure : GoodIn wsX7_places wsX7_noFigure := goodIn_r _ [12] (by decide +kernel) (by decide +kernel)
set_option maxRecDepth 20000 in
theorem gX7_places_X7_noFigure : GoodIn wsX7_places (va_wsS RX7 50 yX7_noFigure wsX7_noFigure) := goodIn_app (goodIn_of _ (by decide +kernel)) ggX7_places_X7_noFigure
set_option maxRecDepth 20000 in
theorem ggX7_places_X1_findSpots : GoodIn wsX7_places wsX1_findSpots := goodIn_r _ [17, 18, 19, 20, 21, 22, 23, 24, 25, 26, 27, 28, 29, 30, 31, 32, 33, 34, 35, 36, 37, 38, 39, 40, 41, 42, 43, 44, 45, 46, 47, 48, 49, 50, 7, 51, 52, 53, 54, 16, 55, 56, 57, 58, 59, 60, 61, 62, 63, 64, 65, 66, 67, 68, 69, 70, 71, 81, 82, 83, 84, 85, 86, 87, 77, 78, 79, 80] (by decide +kernel) (by decide +kernel)
set_option maxRecDepth 20000 in
theorem gX7_places_X1_findSpots : GoodIn wsX7_places (wsV RX7 161 RX1 yX1_findSpots wsX1_findSpots) := goodIn_app (goodIn_of _ (by decide +kernel)) ggX7_places_X1_findSpots
theorem dX7_places_0 : decode cX7_places 0 = .ok (.aload_n 0, 1) := by decide +kernel
theorem dX7_places_1 : decode cX7_places 1 = .ok (.iload_n 1, 1) := by decide +kernel
theorem dX7_places_2 : decode cX7_places 2 = .ok (.invokevirtual 158, 3) := by decide +kernel
theorem dX7_places_5 : decode cX7_places 5 = .ok (.ifCond .ne 10, 3) := by decide +kernel
theorem dX7_places_8 : decode cX7_places 8 = .ok (.iload_n 2, 1) := by decide +kernel
theorem dX7_places_9 : decode cX7_places 9 = .ok (.invokestatic 50, 3) := by decide +kernel
theorem dX7_places_12 : decode cX7_places 12 = .ok (.ifCond .eq 5, 3) := by decide +kernel
theorem dX7_places_15 : decode cX7_places 15 = .ok (.iconst (-1), 1) := by decide +kernel
theorem dX7_places_16 : decode cX7_places 16 = .ok (.ireturn, 1) := by decide +kernel
theorem dX7_places_17 : decode cX7_places 17 = .ok (.aload_n 0, 1) := by decide +kernel
theorem dX7_places_18 : decode cX7_places 18 = .ok (.getfield 30, 3) := by decide +kernel
theorem dX7_places_21 : decode cX7_places 21 = .ok (.aload_n 0, 1) := by decide +kernel
theorem dX7_places_22 : decode cX7_places 22 = .ok (.getfield 19, 3) := by decide +kernel
theorem dX7_places_25 : decode cX7_places 25 = .ok (.iload_n 1, 1) := by decide +kernel
theorem dX7_places_26 : decode cX7_places 26 = .ok (.aload_n 0, 1) := by decide +kernel
theorem dX7_places_27 : decode cX7_places 27 = .ok (.getfield 19, 3) := by decide +kernel
theorem dX7_places_30 : decode cX7_places 30 = .ok (.getfield 62, 3) := by decide +kernel
theorem dX7_places_33 : decode cX7_places 33 = .ok (.iload_n 2, 1) := by decide +kernel
theorem dX7_places_34 : decode cX7_places 34 = .ok (.laload, 1) := by decide +kernel
theorem dX7_places_35 : decode cX7_places 35 = .ok (.invokevirtual 161, 3) := by decide +kernel
theorem dX7_places_38 : decode cX7_places 38 = .ok (.ireturn, 1) := by decide +kernel
set_option maxRecDepth 20000 in
theorem ggX7_place_X7_noPiece : GoodIn wsX7_place wsX7_noPiece := goodIn_r _ [8, 2, 9, 79, 80, 81, 82, 83, 84, 85, 86, 87] (by decide +kernel) (by decide +kernel)
set_option maxRecDepth 20000 in
theorem gX7_place_X7_noPiece : GoodIn wsX7_place (wsV RX7 158 RX7 yX7_noPiece wsX7_noPiece) := goodIn_app (goodIn_of _ (by decide +kernel)) ggX7_place_X7_noPiece
set_option maxRecDepth 20000 in
theorem ggX7_place_X7_noFigure : GoodIn wsX7_place wsX7_noFigure := goodIn_r _ [12] (by decide +kernel) (by decide +kernel)
set_option maxRecDepth 20000 in
theorem gX7_place_X7_noFigure : GoodIn wsX7_place (va_wsS RX7 50 yX7_noFigure wsX7_noFigure) := goodIn_app (goodIn_of _ (by decide +kernel)) ggX7_place_X7_noFigure
set_option maxRecDepth 20000 in
theorem ggX7_place_X1_findSpots : GoodIn wsX7_place wsX1_findSpots := goodIn_r _ [17, 18, 19, 20, 21, 22, 23, 24, 25, 26, 27, 28, 29, 30, 31, 32, 33, 34, 35, 36, 37, 38, 39, 40, 41, 42, 43, 44, 45, 46, 47, 48, 49, 50, 7, 51, 52, 53, 54, 16, 55, 56, 57, 58, 59, 60, 61, 62, 63, 64, 65, 66, 67, 68, 69, 70, 71, 88, 89, 90, 91, 92, 93, 94, 84, 85, 86, 87] (by decide +kernel) (by decide +kernel)
set_option maxRecDepth 20000 in
theorem gX7_place_X1_findSpots : GoodIn wsX7_place (wsV RX7 161 RX1 yX1_findSpots wsX1_findSpots) := goodIn_app (goodIn_of _ (by decide +kernel)) ggX7_place_X1_findSpots
set_option maxRecDepth 20000 in
theorem ggX7_place_X1_leastSpot : GoodIn wsX7_place wsX1_leastSpot := goodIn_r _ [75, 18, 71, 76, 7, 77, 78, 88, 89, 90, 91, 92, 93, 94] (by decide +kernel) (by decide +kernel)
set_option maxRecDepth 20000 in
theorem gX7_place_X1_leastSpot : GoodIn wsX7_place (wsV RX7 165 RX1 yX1_leastSpot wsX1_leastSpot) := goodIn_app (goodIn_of _ (by decide +kernel)) ggX7_place_X1_leastSpot
theorem dX7_place_0 : decode cX7_place 0 = .ok (.aload_n 0, 1) := by decide +kernel
theorem dX7_place_1 : decode cX7_place 1 = .ok (.iload_n 1, 1) := by decide +kernel
theorem dX7_place_2 : decode cX7_place 2 = .ok (.invokevirtual 158, 3) := by decide +kernel
theorem dX7_place_5 : decode cX7_place 5 = .ok (.ifCond .ne 10, 3) := by decide +kernel
theorem dX7_place_8 : decode cX7_place 8 = .ok (.iload_n 2, 1) := by decide +kernel
theorem dX7_place_9 : decode cX7_place 9 = .ok (.invokestatic 50, 3) := by decide +kernel
theorem dX7_place_12 : decode cX7_place 12 = .ok (.ifCond .eq 5, 3) := by decide +kernel
theorem dX7_place_15 : decode cX7_place 15 = .ok (.lconst 0, 1) := by decide +kernel
theorem dX7_place_16 : decode cX7_place 16 = .ok (.lreturn, 1) := by decide +kernel
theorem dX7_place_17 : decode cX7_place 17 = .ok (.aload_n 0, 1) := by decide +kernel
theorem dX7_place_18 : decode cX7_place 18 = .ok (.getfield 30, 3) := by decide +kernel
theorem dX7_place_21 : decode cX7_place 21 = .ok (.aload_n 0, 1) := by decide +kernel
theorem dX7_place_22 : decode cX7_place 22 = .ok (.getfield 19, 3) := by decide +kernel
theorem dX7_place_25 : decode cX7_place 25 = .ok (.iload_n 1, 1) := by decide +kernel
theorem dX7_place_26 : decode cX7_place 26 = .ok (.aload_n 0, 1) := by decide +kernel
theorem dX7_place_27 : decode cX7_place 27 = .ok (.getfield 19, 3) := by decide +kernel
theorem dX7_place_30 : decode cX7_place 30 = .ok (.getfield 62, 3) := by decide +kernel
theorem dX7_place_33 : decode cX7_place 33 = .ok (.iload_n 2, 1) := by decide +kernel
theorem dX7_place_34 : decode cX7_place 34 = .ok (.laload, 1) := by decide +kernel
theorem dX7_place_35 : decode cX7_place 35 = .ok (.invokevirtual 161, 3) := by decide +kernel
theorem dX7_place_38 : decode cX7_place 38 = .ok (.pop, 1) := by decide +kernel
theorem dX7_place_39 : decode cX7_place 39 = .ok (.aload_n 0, 1) := by decide +kernel
theorem dX7_place_40 : decode cX7_place 40 = .ok (.getfield 30, 3) := by decide +kernel
theorem dX7_place_43 : decode cX7_place 43 = .ok (.iload_n 1, 1) := by decide +kernel
theorem dX7_place_44 : decode cX7_place 44 = .ok (.invokevirtual 165, 3) := by decide +kernel
theorem dX7_place_47 : decode cX7_place 47 = .ok (.lreturn, 1) := by decide +kernel
set_option maxRecDepth 20000 in
theorem ggX7_ways_X7_noFigure : GoodIn wsX7_ways wsX7_noFigure := goodIn_r _ [7] (by decide +kernel) (by decide +kernel)
set_option maxRecDepth 20000 in
theorem gX7_ways_X7_noFigure : GoodIn wsX7_ways (va_wsS RX7 50 yX7_noFigure wsX7_noFigure) := goodIn_app (goodIn_of _ (by decide +kernel)) ggX7_ways_X7_noFigure
set_option maxRecDepth 20000 in
theorem ggX7_ways_X1_countWays : GoodIn wsX7_ways wsX1_countWays := goodIn_r _ [12, 13, 14, 15, 16, 17, 18, 19, 20, 21, 22, 23, 24, 25, 26, 11, 27, 28, 29, 30, 31, 32, 33, 34, 35, 36, 37, 38, 39, 40, 41, 42, 43, 44, 45, 46, 47, 48, 49, 50, 51, 52, 53, 54, 55, 56, 57, 58, 59, 6, 60, 61, 62, 63, 64, 65, 66, 67, 68, 69, 70, 71, 72, 73, 74, 75, 76, 77, 78, 79, 80, 81, 82, 83, 84, 85, 86, 87, 88, 89, 90, 91, 92, 93, 94, 95, 96, 97, 98, 99, 100, 101, 107, 108, 109, 110, 111, 112, 113, 114, 115, 116, 117] (by decide +kernel) (by decide +kernel)
set_option maxRecDepth 20000 in
theorem gX7_ways_X1_countWays : GoodIn wsX7_ways (wsV RX7 169 RX1 yX1_countWays wsX1_countWays) := goodIn_app (goodIn_of _ (by decide +kernel)) ggX7_ways_X1_countWays
theorem dX7_ways_0 : decode cX7_ways 0 = .ok (.iload_n 1, 1) := by decide +kernel
theorem dX7_ways_1 : decode cX7_ways 1 = .ok (.invokestatic 50, 3) := by decide +kernel
theorem dX7_ways_4 : decode cX7_ways 4 = .ok (.ifCond .eq 7, 3) := by decide +kernel
theorem dX7_ways_7 : decode cX7_ways 7 = .ok (.iconst (-1), 1) := by decide +kernel
theorem dX7_ways_8 : decode cX7_ways 8 = .ok (.goto 23, 3) := by decide +kernel
theorem dX7_ways_11 : decode cX7_ways 11 = .ok (.aload_n 0, 1) := by decide +kernel
theorem dX7_ways_12 : decode cX7_ways 12 = .ok (.getfield 30, 3) := by decide +kernel
theorem dX7_ways_15 : decode cX7_ways 15 = .ok (.aload_n 0, 1) := by decide +kernel
theorem dX7_ways_16 : decode cX7_ways 16 = .ok (.getfield 19, 3) := by decide +kernel
theorem dX7_ways_19 : decode cX7_ways 19 = .ok (.aload_n 0, 1) := by decide +kernel
theorem dX7_ways_20 : decode cX7_ways 20 = .ok (.getfield 19, 3) := by decide +kernel
theorem dX7_ways_23 : decode cX7_ways 23 = .ok (.getfield 62, 3) := by decide +kernel
theorem dX7_ways_26 : decode cX7_ways 26 = .ok (.iload_n 1, 1) := by decide +kernel
theorem dX7_ways_27 : decode cX7_ways 27 = .ok (.laload, 1) := by decide +kernel
theorem dX7_ways_28 : decode cX7_ways 28 = .ok (.invokevirtual 169, 3) := by decide +kernel
theorem dX7_ways_31 : decode cX7_ways 31 = .ok (.ireturn, 1) := by decide +kernel
set_option maxRecDepth 20000 in
theorem ggX7_first_X7_noFigure : GoodIn wsX7_first wsX7_noFigure := goodIn_r _ [8] (by decide +kernel) (by decide +kernel)
set_option maxRecDepth 20000 in
theorem gX7_first_X7_noFigure : GoodIn wsX7_first (va_wsS RX7 50 yX7_noFigure wsX7_noFigure) := goodIn_app (goodIn_of _ (by decide +kernel)) ggX7_first_X7_noFigure
set_option maxRecDepth 20000 in
theorem ggX7_first_X7_noPiece : GoodIn wsX7_first wsX7_noPiece := goodIn_r _ [12, 2, 13, 108, 109, 110, 111, 112, 113, 114, 115, 116] (by decide +kernel) (by decide +kernel)
set_option maxRecDepth 20000 in
theorem gX7_first_X7_noPiece : GoodIn wsX7_first (wsV RX7 158 RX7 yX7_noPiece wsX7_noPiece) := goodIn_app (goodIn_of _ (by decide +kernel)) ggX7_first_X7_noPiece
set_option maxRecDepth 20000 in
theorem ggX7_first_X1_countWays : GoodIn wsX7_first wsX1_countWays := goodIn_r _ [18, 19, 20, 21, 22, 23, 24, 25, 26, 27, 28, 29, 30, 31, 32, 17, 33, 34, 35, 36, 37, 38, 39, 40, 41, 42, 43, 44, 45, 46, 47, 48, 49, 50, 51, 52, 53, 54, 55, 56, 57, 58, 59, 60, 61, 62, 63, 64, 65, 7, 66, 67, 68, 69, 70, 71, 72, 73, 74, 75, 76, 77, 78, 79, 80, 81, 82, 83, 84, 85, 86, 87, 88, 89, 90, 91, 92, 93, 94, 95, 96, 97, 98, 99, 100, 101, 102, 103, 104, 105, 106, 107, 113, 114, 115, 116, 117, 118, 119, 120, 121, 122, 123] (by decide +kernel) (by decide +kernel)
set_option maxRecDepth 20000 in
theorem gX7_first_X1_countWays : GoodIn wsX7_first (wsV RX7 169 RX1 yX1_countWays wsX1_countWays) := goodIn_app (goodIn_of _ (by decide +kernel)) ggX7_first_X1_countWays
theorem dX7_first_0 : decode cX7_first 0 = .ok (.iload_n 1, 1) := by decide +kernel
theorem dX7_first_1 : decode cX7_first 1 = .ok (.invokestatic 50, 3) := by decide +kernel
theorem dX7_first_4 : decode cX7_first 4 = .ok (.ifCond .ne 11, 3) := by decide +kernel
theorem dX7_first_7 : decode cX7_first 7 = .ok (.aload_n 0, 1) := by decide +kernel
theorem dX7_first_8 : decode cX7_first 8 = .ok (.iload_n 2, 1) := by decide +kernel
theorem dX7_first_9 : decode cX7_first 9 = .ok (.invokevirtual 158, 3) := by decide +kernel
theorem dX7_first_12 : decode cX7_first 12 = .ok (.ifCond .eq 5, 3) := by decide +kernel
theorem dX7_first_15 : decode cX7_first 15 = .ok (.lconst 0, 1) := by decide +kernel
theorem dX7_first_16 : decode cX7_first 16 = .ok (.lreturn, 1) := by decide +kernel
theorem dX7_first_17 : decode cX7_first 17 = .ok (.aload_n 0, 1) := by decide +kernel
theorem dX7_first_18 : decode cX7_first 18 = .ok (.getfield 30, 3) := by decide +kernel
theorem dX7_first_21 : decode cX7_first 21 = .ok (.aload_n 0, 1) := by decide +kernel
theorem dX7_first_22 : decode cX7_first 22 = .ok (.getfield 19, 3) := by decide +kernel
theorem dX7_first_25 : decode cX7_first 25 = .ok (.aload_n 0, 1) := by decide +kernel
theorem dX7_first_26 : decode cX7_first 26 = .ok (.getfield 19, 3) := by decide +kernel
theorem dX7_first_29 : decode cX7_first 29 = .ok (.getfield 62, 3) := by decide +kernel
theorem dX7_first_32 : decode cX7_first 32 = .ok (.iload_n 1, 1) := by decide +kernel
theorem dX7_first_33 : decode cX7_first 33 = .ok (.laload, 1) := by decide +kernel
theorem dX7_first_34 : decode cX7_first 34 = .ok (.invokevirtual 169, 3) := by decide +kernel
theorem dX7_first_37 : decode cX7_first 37 = .ok (.ifCond .ne 7, 3) := by decide +kernel
theorem dX7_first_40 : decode cX7_first 40 = .ok (.lconst 0, 1) := by decide +kernel
theorem dX7_first_41 : decode cX7_first 41 = .ok (.goto 12, 3) := by decide +kernel
theorem dX7_first_44 : decode cX7_first 44 = .ok (.aload_n 0, 1) := by decide +kernel
theorem dX7_first_45 : decode cX7_first 45 = .ok (.getfield 30, 3) := by decide +kernel
theorem dX7_first_48 : decode cX7_first 48 = .ok (.getfield 173, 3) := by decide +kernel
theorem dX7_first_51 : decode cX7_first 51 = .ok (.iload_n 2, 1) := by decide +kernel
theorem dX7_first_52 : decode cX7_first 52 = .ok (.laload, 1) := by decide +kernel
theorem dX7_first_53 : decode cX7_first 53 = .ok (.lreturn, 1) := by decide +kernel
set_option maxRecDepth 20000 in
theorem ggX7_idle_X7_noFigure : GoodIn wsX7_idle wsX7_noFigure := goodIn_r _ [8] (by decide +kernel) (by decide +kernel)
set_option maxRecDepth 20000 in
theorem gX7_idle_X7_noFigure : GoodIn wsX7_idle (va_wsS RX7 50 yX7_noFigure wsX7_noFigure) := goodIn_app (goodIn_of _ (by decide +kernel)) ggX7_idle_X7_noFigure
set_option maxRecDepth 20000 in
theorem ggX7_idle_X1_findSpots : GoodIn wsX7_idle wsX1_findSpots := goodIn_r _ [13, 14, 15, 16, 17, 18, 19, 20, 21, 22, 23, 24, 25, 26, 27, 28, 29, 30, 31, 32, 33, 34, 35, 36, 37, 38, 39, 40, 41, 42, 43, 44, 45, 46, 7, 47, 48, 49, 50, 12, 51, 52, 53, 54, 55, 56, 57, 58, 59, 60, 61, 62, 63, 64, 65, 66, 67, 77, 78, 79, 80, 81, 82, 83, 73, 74, 75, 76] (by decide +kernel) (by decide +kernel)
set_option maxRecDepth 20000 in
theorem gX7_idle_X1_findSpots : GoodIn wsX7_idle (wsV RX7 161 RX1 yX1_findSpots wsX1_findSpots) := goodIn_app (goodIn_of _ (by decide +kernel)) ggX7_idle_X1_findSpots
theorem dX7_idle_0 : decode cX7_idle 0 = .ok (.iload_n 1, 1) := by decide +kernel
theorem dX7_idle_1 : decode cX7_idle 1 = .ok (.invokestatic 50, 3) := by decide +kernel
theorem dX7_idle_4 : decode cX7_idle 4 = .ok (.ifCond .eq 5, 3) := by decide +kernel
theorem dX7_idle_7 : decode cX7_idle 7 = .ok (.iconst (-1), 1) := by decide +kernel
theorem dX7_idle_8 : decode cX7_idle 8 = .ok (.ireturn, 1) := by decide +kernel
theorem dX7_idle_9 : decode cX7_idle 9 = .ok (.iconst 0, 1) := by decide +kernel
theorem dX7_idle_10 : decode cX7_idle 10 = .ok (.istore_n 2, 1) := by decide +kernel
theorem dX7_idle_11 : decode cX7_idle 11 = .ok (.iconst 0, 1) := by decide +kernel
theorem dX7_idle_12 : decode cX7_idle 12 = .ok (.istore_n 3, 1) := by decide +kernel
theorem dX7_idle_13 : decode cX7_idle 13 = .ok (.iload_n 3, 1) := by decide +kernel
theorem dX7_idle_14 : decode cX7_idle 14 = .ok (.aload_n 0, 1) := by decide +kernel
theorem dX7_idle_15 : decode cX7_idle 15 = .ok (.getfield 19, 3) := by decide +kernel
theorem dX7_idle_18 : decode cX7_idle 18 = .ok (.getfield 148, 3) := by decide +kernel
theorem dX7_idle_21 : decode cX7_idle 21 = .ok (.if_icmp .ge 39, 3) := by decide +kernel
theorem dX7_idle_24 : decode cX7_idle 24 = .ok (.aload_n 0, 1) := by decide +kernel
theorem dX7_idle_25 : decode cX7_idle 25 = .ok (.getfield 30, 3) := by decide +kernel
theorem dX7_idle_28 : decode cX7_idle 28 = .ok (.aload_n 0, 1) := by decide +kernel
theorem dX7_idle_29 : decode cX7_idle 29 = .ok (.getfield 19, 3) := by decide +kernel
theorem dX7_idle_32 : decode cX7_idle 32 = .ok (.iload_n 3, 1) := by decide +kernel
theorem dX7_idle_33 : decode cX7_idle 33 = .ok (.aload_n 0, 1) := by decide +kernel
theorem dX7_idle_34 : decode cX7_idle 34 = .ok (.getfield 19, 3) := by decide +kernel
theorem dX7_idle_37 : decode cX7_idle 37 = .ok (.getfield 62, 3) := by decide +kernel
theorem dX7_idle_40 : decode cX7_idle 40 = .ok (.iload_n 1, 1) := by decide +kernel
theorem dX7_idle_41 : decode cX7_idle 41 = .ok (.laload, 1) := by decide +kernel
theorem dX7_idle_42 : decode cX7_idle 42 = .ok (.invokevirtual 161, 3) := by decide +kernel
theorem dX7_idle_45 : decode cX7_idle 45 = .ok (.ifCond .ne 9, 3) := by decide +kernel
theorem dX7_idle_48 : decode cX7_idle 48 = .ok (.iload_n 2, 1) := by decide +kernel
theorem dX7_idle_49 : decode cX7_idle 49 = .ok (.iconst 1, 1) := by decide +kernel
theorem dX7_idle_50 : decode cX7_idle 50 = .ok (.iload_n 3, 1) := by decide +kernel
theorem dX7_idle_51 : decode cX7_idle 51 = .ok (.ishl, 1) := by decide +kernel
theorem dX7_idle_52 : decode cX7_idle 52 = .ok (.ior, 1) := by decide +kernel
theorem dX7_idle_53 : decode cX7_idle 53 = .ok (.istore_n 2, 1) := by decide +kernel
theorem dX7_idle_54 : decode cX7_idle 54 = .ok (.iinc 3 1, 3) := by decide +kernel
theorem dX7_idle_57 : decode cX7_idle 57 = .ok (.goto (-44), 3) := by decide +kernel
theorem dX7_idle_60 : decode cX7_idle 60 = .ok (.iload_n 2, 1) := by decide +kernel
theorem dX7_idle_61 : decode cX7_idle 61 = .ok (.ireturn, 1) := by decide +kernel
set_option maxRecDepth 20000 in
theorem ggX7_grown_X7_noFigure : GoodIn wsX7_grown wsX7_noFigure := goodIn_r _ [6] (by decide +kernel) (by decide +kernel)
set_option maxRecDepth 20000 in
theorem gX7_grown_X7_noFigure : GoodIn wsX7_grown (va_wsS RX7 50 yX7_noFigure wsX7_noFigure) := goodIn_app (goodIn_of _ (by decide +kernel)) ggX7_grown_X7_noFigure
set_option maxRecDepth 20000 in
theorem ggX7_grown_X0_around : GoodIn wsX7_grown wsX0_around := goodIn_r _ [10, 11, 12, 13, 9, 14, 15, 16, 17, 18, 19, 20, 21, 22, 23, 24, 25, 26, 27, 28, 29, 30, 31] (by decide +kernel) (by decide +kernel)
set_option maxRecDepth 20000 in
theorem gX7_grown_X0_around : GoodIn wsX7_grown (va_wsS RX7 176 yX0_around wsX0_around) := goodIn_app (goodIn_of _ (by decide +kernel)) ggX7_grown_X0_around
set_option maxRecDepth 20000 in
theorem ggX7_grown_J13_bitCount_95d88 : GoodIn wsX7_grown wsJ13_bitCount_95d88 := goodIn_r _ [35, 36, 37, 38] (by decide +kernel) (by decide +kernel)
set_option maxRecDepth 20000 in
theorem gX7_grown_J13_bitCount_95d88 : GoodIn wsX7_grown (va_wsS RX7 80 yJ13_bitCount_95d88 wsJ13_bitCount_95d88) := goodIn_app (goodIn_of _ (by decide +kernel)) ggX7_grown_J13_bitCount_95d88
theorem dX7_grown_0 : decode cX7_grown 0 = .ok (.iload_n 1, 1) := by decide +kernel
theorem dX7_grown_1 : decode cX7_grown 1 = .ok (.invokestatic 50, 3) := by decide +kernel
theorem dX7_grown_4 : decode cX7_grown 4 = .ok (.ifCond .eq 7, 3) := by decide +kernel
theorem dX7_grown_7 : decode cX7_grown 7 = .ok (.iconst (-1), 1) := by decide +kernel
theorem dX7_grown_8 : decode cX7_grown 8 = .ok (.goto 18, 3) := by decide +kernel
theorem dX7_grown_11 : decode cX7_grown 11 = .ok (.aload_n 0, 1) := by decide +kernel
theorem dX7_grown_12 : decode cX7_grown 12 = .ok (.getfield 19, 3) := by decide +kernel
theorem dX7_grown_15 : decode cX7_grown 15 = .ok (.getfield 62, 3) := by decide +kernel
theorem dX7_grown_18 : decode cX7_grown 18 = .ok (.iload_n 1, 1) := by decide +kernel
theorem dX7_grown_19 : decode cX7_grown 19 = .ok (.laload, 1) := by decide +kernel
theorem dX7_grown_20 : decode cX7_grown 20 = .ok (.invokestatic 176, 3) := by decide +kernel
theorem dX7_grown_23 : decode cX7_grown 23 = .ok (.invokestatic 80, 3) := by decide +kernel
theorem dX7_grown_26 : decode cX7_grown 26 = .ok (.ireturn, 1) := by decide +kernel
set_option maxRecDepth 20000 in
theorem ggX7_forms_X7_noFigure : GoodIn wsX7_forms wsX7_noFigure := goodIn_r _ [6] (by decide +kernel) (by decide +kernel)
set_option maxRecDepth 20000 in
theorem gX7_forms_X7_noFigure : GoodIn wsX7_forms (va_wsS RX7 50 yX7_noFigure wsX7_noFigure) := goodIn_app (goodIn_of _ (by decide +kernel)) ggX7_forms_X7_noFigure
set_option maxRecDepth 20000 in
theorem ggX7_forms_X7_countGrownForms : GoodIn wsX7_forms wsX7_countGrownForms := goodIn_r _ [10, 11, 12, 13, 14, 15, 16, 17, 18, 19, 20, 21, 22, 23, 24, 25, 26, 27, 28, 29, 30, 31, 32, 33, 34, 35, 36, 37, 38, 39, 40, 41, 42, 43, 44, 45, 46, 47, 48, 49, 50, 51, 52, 53, 54, 55, 56, 57, 58, 59, 60, 61, 62, 63, 64, 65, 66, 67, 68, 5, 69, 70, 71, 72, 73, 74, 75, 76, 77, 78] (by decide +kernel) (by decide +kernel)
set_option maxRecDepth 20000 in
theorem gX7_forms_X7_countGrownForms : GoodIn wsX7_forms (wsV RX7 179 RX7 yX7_countGrownForms wsX7_countGrownForms) := goodIn_app (goodIn_of _ (by decide +kernel)) ggX7_forms_X7_countGrownForms
theorem dX7_forms_0 : decode cX7_forms 0 = .ok (.iload_n 1, 1) := by decide +kernel
theorem dX7_forms_1 : decode cX7_forms 1 = .ok (.invokestatic 50, 3) := by decide +kernel
theorem dX7_forms_4 : decode cX7_forms 4 = .ok (.ifCond .eq 7, 3) := by decide +kernel
theorem dX7_forms_7 : decode cX7_forms 7 = .ok (.iconst (-1), 1) := by decide +kernel
theorem dX7_forms_8 : decode cX7_forms 8 = .ok (.goto 16, 3) := by decide +kernel
theorem dX7_forms_11 : decode cX7_forms 11 = .ok (.aload_n 0, 1) := by decide +kernel
theorem dX7_forms_12 : decode cX7_forms 12 = .ok (.aload_n 0, 1) := by decide +kernel
theorem dX7_forms_13 : decode cX7_forms 13 = .ok (.getfield 19, 3) := by decide +kernel
theorem dX7_forms_16 : decode cX7_forms 16 = .ok (.getfield 62, 3) := by decide +kernel
theorem dX7_forms_19 : decode cX7_forms 19 = .ok (.iload_n 1, 1) := by decide +kernel
theorem dX7_forms_20 : decode cX7_forms 20 = .ok (.laload, 1) := by decide +kernel
theorem dX7_forms_21 : decode cX7_forms 21 = .ok (.invokevirtual 179, 3) := by decide +kernel
theorem dX7_forms_24 : decode cX7_forms 24 = .ok (.ireturn, 1) := by decide +kernel
set_option maxRecDepth 20000 in
theorem ggX7_grow_X7_noFigure : GoodIn wsX7_grow wsX7_noFigure := goodIn_r _ [6] (by decide +kernel) (by decide +kernel)
set_option maxRecDepth 20000 in
theorem gX7_grow_X7_noFigure : GoodIn wsX7_grow (va_wsS RX7 50 yX7_noFigure wsX7_noFigure) := goodIn_app (goodIn_of _ (by decide +kernel)) ggX7_grow_X7_noFigure
set_option maxRecDepth 20000 in
theorem ggX7_grow_X0_around : GoodIn wsX7_grow wsX0_around := goodIn_r _ [10, 11, 12, 13, 9, 14, 15, 16, 17, 18, 19, 20, 21, 22, 23, 24, 25, 26, 27, 28, 29, 30, 31] (by decide +kernel) (by decide +kernel)
set_option maxRecDepth 20000 in
theorem gX7_grow_X0_around : GoodIn wsX7_grow (va_wsS RX7 176 yX0_around wsX0_around) := goodIn_app (goodIn_of _ (by decide +kernel)) ggX7_grow_X0_around
set_option maxRecDepth 20000 in
theorem ggX7_grow_X0_cellAt : GoodIn wsX7_grow wsX0_cellAt := goodIn_r _ [34] (by decide +kernel) (by decide +kernel)
set_option maxRecDepth 20000 in
theorem gX7_grow_X0_cellAt : GoodIn wsX7_grow (va_wsS RX7 182 yX0_cellAt wsX0_cellAt) := goodIn_app (goodIn_of _ (by decide +kernel)) ggX7_grow_X0_cellAt
set_option maxRecDepth 20000 in
theorem ggX7_grow_J13_bitCount_95d88 : GoodIn wsX7_grow wsJ13_bitCount_95d88 := goodIn_r _ [38, 39, 40, 41] (by decide +kernel) (by decide +kernel)
set_option maxRecDepth 20000 in
theorem gX7_grow_J13_bitCount_95d88 : GoodIn wsX7_grow (va_wsS RX7 80 yJ13_bitCount_95d88 wsJ13_bitCount_95d88) := goodIn_app (goodIn_of _ (by decide +kernel)) ggX7_grow_J13_bitCount_95d88
theorem dX7_grow_0 : decode cX7_grow 0 = .ok (.iload_n 1, 1) := by decide +kernel
theorem dX7_grow_1 : decode cX7_grow 1 = .ok (.invokestatic 50, 3) := by decide +kernel
theorem dX7_grow_4 : decode cX7_grow 4 = .ok (.ifCond .eq 5, 3) := by decide +kernel
theorem dX7_grow_7 : decode cX7_grow 7 = .ok (.iconst (-1), 1) := by decide +kernel
theorem dX7_grow_8 : decode cX7_grow 8 = .ok (.ireturn, 1) := by decide +kernel
theorem dX7_grow_9 : decode cX7_grow 9 = .ok (.aload_n 0, 1) := by decide +kernel
theorem dX7_grow_10 : decode cX7_grow 10 = .ok (.getfield 19, 3) := by decide +kernel
theorem dX7_grow_13 : decode cX7_grow 13 = .ok (.getfield 62, 3) := by decide +kernel
theorem dX7_grow_16 : decode cX7_grow 16 = .ok (.iload_n 1, 1) := by decide +kernel
theorem dX7_grow_17 : decode cX7_grow 17 = .ok (.laload, 1) := by decide +kernel
theorem dX7_grow_18 : decode cX7_grow 18 = .ok (.lstore_n 3, 1) := by decide +kernel
theorem dX7_grow_19 : decode cX7_grow 19 = .ok (.lload_n 3, 1) := by decide +kernel
theorem dX7_grow_20 : decode cX7_grow 20 = .ok (.invokestatic 176, 3) := by decide +kernel
theorem dX7_grow_23 : decode cX7_grow 23 = .ok (.iload_n 2, 1) := by decide +kernel
theorem dX7_grow_24 : decode cX7_grow 24 = .ok (.invokestatic 182, 3) := by decide +kernel
theorem dX7_grow_27 : decode cX7_grow 27 = .ok (.lstore 5, 2) := by decide +kernel
theorem dX7_grow_29 : decode cX7_grow 29 = .ok (.lload 5, 2) := by decide +kernel
theorem dX7_grow_31 : decode cX7_grow 31 = .ok (.lconst 0, 1) := by decide +kernel
theorem dX7_grow_32 : decode cX7_grow 32 = .ok (.lcmp, 1) := by decide +kernel
theorem dX7_grow_33 : decode cX7_grow 33 = .ok (.ifCond .ne 6, 3) := by decide +kernel
theorem dX7_grow_36 : decode cX7_grow 36 = .ok (.bipush (-9), 2) := by decide +kernel
theorem dX7_grow_38 : decode cX7_grow 38 = .ok (.ireturn, 1) := by decide +kernel
theorem dX7_grow_39 : decode cX7_grow 39 = .ok (.aload_n 0, 1) := by decide +kernel
theorem dX7_grow_40 : decode cX7_grow 40 = .ok (.getfield 19, 3) := by decide +kernel
theorem dX7_grow_43 : decode cX7_grow 43 = .ok (.getfield 62, 3) := by decide +kernel
theorem dX7_grow_46 : decode cX7_grow 46 = .ok (.iload_n 1, 1) := by decide +kernel
theorem dX7_grow_47 : decode cX7_grow 47 = .ok (.lload_n 3, 1) := by decide +kernel
theorem dX7_grow_48 : decode cX7_grow 48 = .ok (.lload 5, 2) := by decide +kernel
theorem dX7_grow_50 : decode cX7_grow 50 = .ok (.lor, 1) := by decide +kernel
theorem dX7_grow_51 : decode cX7_grow 51 = .ok (.lastore, 1) := by decide +kernel
theorem dX7_grow_52 : decode cX7_grow 52 = .ok (.lload 5, 2) := by decide +kernel
theorem dX7_grow_54 : decode cX7_grow 54 = .ok (.lconst 1, 1) := by decide +kernel
theorem dX7_grow_55 : decode cX7_grow 55 = .ok (.lsub, 1) := by decide +kernel
theorem dX7_grow_56 : decode cX7_grow 56 = .ok (.invokestatic 80, 3) := by decide +kernel
theorem dX7_grow_59 : decode cX7_grow 59 = .ok (.ireturn, 1) := by decide +kernel
set_option maxRecDepth 20000 in
theorem ggX7_keep_X5_init : GoodIn wsX7_keep wsX5_init := goodIn_r _ [7, 8, 9, 10, 11, 12, 13, 14, 15, 16, 30, 31, 32, 33] (by decide +kernel) (by decide +kernel)
set_option maxRecDepth 20000 in
theorem gX7_keep_X5_init_n18 : GoodIn wsX7_keep (wsX5_init) := ggX7_keep_X5_init
set_option maxRecDepth 20000 in
theorem ggX7_keep_X5_copyFrom : GoodIn wsX7_keep wsX5_copyFrom := goodIn_r _ [20, 12, 13, 15, 16, 30, 31, 32, 33] (by decide +kernel) (by decide +kernel)
set_option maxRecDepth 20000 in
theorem gX7_keep_X5_copyFrom : GoodIn wsX7_keep (wsV RX7 185 RX5 yX5_copyFrom wsX5_copyFrom) := goodIn_app (goodIn_of _ (by decide +kernel)) ggX7_keep_X5_copyFrom
set_option maxRecDepth 20000 in
theorem ggX7_keep_X5_countFilled : GoodIn wsX7_keep wsX5_countFilled := goodIn_r _ [24, 12, 30, 31, 32, 33] (by decide +kernel) (by decide +kernel)
set_option maxRecDepth 20000 in
theorem gX7_keep_X5_countFilled : GoodIn wsX7_keep (wsV RX7 189 RX5 yX5_countFilled wsX5_countFilled) := goodIn_app (goodIn_of _ (by decide +kernel)) ggX7_keep_X5_countFilled
theorem dX7_keep_0 : decode cX7_keep 0 = .ok (.iload_n 1, 1) := by decide +kernel
theorem dX7_keep_1 : decode cX7_keep 1 = .ok (.ifCond .lt 8, 3) := by decide +kernel
theorem dX7_keep_4 : decode cX7_keep 4 = .ok (.iload_n 1, 1) := by decide +kernel
theorem dX7_keep_5 : decode cX7_keep 5 = .ok (.iconst 2, 1) := by decide +kernel
theorem dX7_keep_6 : decode cX7_keep 6 = .ok (.if_icmp .lt 5, 3) := by decide +kernel
theorem dX7_keep_9 : decode cX7_keep 9 = .ok (.iconst (-1), 1) := by decide +kernel
theorem dX7_keep_10 : decode cX7_keep 10 = .ok (.ireturn, 1) := by decide +kernel
theorem dX7_keep_11 : decode cX7_keep 11 = .ok (.aload_n 0, 1) := by decide +kernel
theorem dX7_keep_12 : decode cX7_keep 12 = .ok (.getfield 23, 3) := by decide +kernel
theorem dX7_keep_15 : decode cX7_keep 15 = .ok (.iload_n 1, 1) := by decide +kernel
theorem dX7_keep_16 : decode cX7_keep 16 = .ok (.aaload, 1) := by decide +kernel
theorem dX7_keep_17 : decode cX7_keep 17 = .ok (.ifnonnull 16, 3) := by decide +kernel
theorem dX7_keep_20 : decode cX7_keep 20 = .ok (.aload_n 0, 1) := by decide +kernel
theorem dX7_keep_21 : decode cX7_keep 21 = .ok (.getfield 23, 3) := by decide +kernel
theorem dX7_keep_24 : decode cX7_keep 24 = .ok (.iload_n 1, 1) := by decide +kernel
theorem dX7_keep_25 : decode cX7_keep 25 = .ok (.new 16, 3) := by decide +kernel
theorem dX7_keep_28 : decode cX7_keep 28 = .ok (.dup, 1) := by decide +kernel
theorem dX7_keep_29 : decode cX7_keep 29 = .ok (.invokespecial 18, 3) := by decide +kernel
theorem dX7_keep_32 : decode cX7_keep 32 = .ok (.aastore, 1) := by decide +kernel
theorem dX7_keep_33 : decode cX7_keep 33 = .ok (.aload_n 0, 1) := by decide +kernel
theorem dX7_keep_34 : decode cX7_keep 34 = .ok (.getfield 23, 3) := by decide +kernel
theorem dX7_keep_37 : decode cX7_keep 37 = .ok (.iload_n 1, 1) := by decide +kernel
theorem dX7_keep_38 : decode cX7_keep 38 = .ok (.aaload, 1) := by decide +kernel
theorem dX7_keep_39 : decode cX7_keep 39 = .ok (.aload_n 0, 1) := by decide +kernel
theorem dX7_keep_40 : decode cX7_keep 40 = .ok (.getfield 19, 3) := by decide +kernel
theorem dX7_keep_43 : decode cX7_keep 43 = .ok (.invokevirtual 185, 3) := by decide +kernel
theorem dX7_keep_46 : decode cX7_keep 46 = .ok (.aload_n 0, 1) := by decide +kernel
theorem dX7_keep_47 : decode cX7_keep 47 = .ok (.getfield 19, 3) := by decide +kernel
theorem dX7_keep_50 : decode cX7_keep 50 = .ok (.invokevirtual 189, 3) := by decide +kernel
theorem dX7_keep_53 : decode cX7_keep 53 = .ok (.ireturn, 1) := by decide +kernel
set_option maxRecDepth 20000 in
theorem ggX7_again_X5_copyFrom : GoodIn wsX7_again wsX5_copyFrom := goodIn_r _ [7, 8, 9, 10, 11, 21, 22, 23, 24] (by decide +kernel) (by decide +kernel)
set_option maxRecDepth 20000 in
theorem gX7_again_X5_copyFrom : GoodIn wsX7_again (wsV RX7 185 RX5 yX5_copyFrom wsX5_copyFrom) := goodIn_app (goodIn_of _ (by decide +kernel)) ggX7_again_X5_copyFrom
set_option maxRecDepth 20000 in
theorem ggX7_again_X5_countFilled : GoodIn wsX7_again wsX5_countFilled := goodIn_r _ [15, 8, 21, 22, 23, 24] (by decide +kernel) (by decide +kernel)
set_option maxRecDepth 20000 in
theorem gX7_again_X5_countFilled : GoodIn wsX7_again (wsV RX7 189 RX5 yX5_countFilled wsX5_countFilled) := goodIn_app (goodIn_of _ (by decide +kernel)) ggX7_again_X5_countFilled
theorem dX7_again_0 : decode cX7_again 0 = .ok (.iload_n 1, 1) := by decide +kernel
theorem dX7_again_1 : decode cX7_again 1 = .ok (.ifCond .lt 8, 3) := by decide +kernel
theorem dX7_again_4 : decode cX7_again 4 = .ok (.iload_n 1, 1) := by decide +kernel
theorem dX7_again_5 : decode cX7_again 5 = .ok (.iconst 2, 1) := by decide +kernel
theorem dX7_again_6 : decode cX7_again 6 = .ok (.if_icmp .lt 5, 3) := by decide +kernel
theorem dX7_again_9 : decode cX7_again 9 = .ok (.iconst (-1), 1) := by decide +kernel
theorem dX7_again_10 : decode cX7_again 10 = .ok (.ireturn, 1) := by decide +kernel
theorem dX7_again_11 : decode cX7_again 11 = .ok (.aload_n 0, 1) := by decide +kernel
theorem dX7_again_12 : decode cX7_again 12 = .ok (.getfield 23, 3) := by decide +kernel
theorem dX7_again_15 : decode cX7_again 15 = .ok (.iload_n 1, 1) := by decide +kernel
theorem dX7_again_16 : decode cX7_again 16 = .ok (.aaload, 1) := by decide +kernel
theorem dX7_again_17 : decode cX7_again 17 = .ok (.ifnonnull 6, 3) := by decide +kernel
theorem dX7_again_20 : decode cX7_again 20 = .ok (.bipush (-3), 2) := by decide +kernel
theorem dX7_again_22 : decode cX7_again 22 = .ok (.ireturn, 1) := by decide +kernel
theorem dX7_again_23 : decode cX7_again 23 = .ok (.aload_n 0, 1) := by decide +kernel
theorem dX7_again_24 : decode cX7_again 24 = .ok (.getfield 19, 3) := by decide +kernel
theorem dX7_again_27 : decode cX7_again 27 = .ok (.aload_n 0, 1) := by decide +kernel
theorem dX7_again_28 : decode cX7_again 28 = .ok (.getfield 23, 3) := by decide +kernel
theorem dX7_again_31 : decode cX7_again 31 = .ok (.iload_n 1, 1) := by decide +kernel
theorem dX7_again_32 : decode cX7_again 32 = .ok (.aaload, 1) := by decide +kernel
theorem dX7_again_33 : decode cX7_again 33 = .ok (.invokevirtual 185, 3) := by decide +kernel
theorem dX7_again_36 : decode cX7_again 36 = .ok (.aload_n 0, 1) := by decide +kernel
theorem dX7_again_37 : decode cX7_again 37 = .ok (.getfield 19, 3) := by decide +kernel
theorem dX7_again_40 : decode cX7_again 40 = .ok (.invokevirtual 189, 3) := by decide +kernel
theorem dX7_again_43 : decode cX7_again 43 = .ok (.ireturn, 1) := by decide +kernel
set_option maxRecDepth 20000 in
theorem ggX7_count_X5_countFilled : GoodIn wsX7_count wsX5_countFilled := goodIn_r _ [9, 10, 29, 30, 31, 32] (by decide +kernel) (by decide +kernel)
set_option maxRecDepth 20000 in
theorem gX7_count_X5_countFilled : GoodIn wsX7_count (wsV RX7 189 RX5 yX5_countFilled wsX5_countFilled) := goodIn_app (goodIn_of _ (by decide +kernel)) ggX7_count_X5_countFilled
set_option maxRecDepth 20000 in
theorem ggX7_count_X5_countCells : GoodIn wsX7_count wsX5_countCells := goodIn_r _ [14, 10, 15, 16, 17, 18, 19, 20, 21, 29, 30, 31, 32] (by decide +kernel) (by decide +kernel)
set_option maxRecDepth 20000 in
theorem gX7_count_X5_countCells : GoodIn wsX7_count (wsV RX7 192 RX5 yX5_countCells wsX5_countCells) := goodIn_app (goodIn_of _ (by decide +kernel)) ggX7_count_X5_countCells
theorem dX7_count_0 : decode cX7_count 0 = .ok (.iload_n 1, 1) := by decide +kernel
theorem dX7_count_1 : decode cX7_count 1 = .ok (.tableswitch 63 0 3 #[31, 39, 47, 55], 31) := by decide +kernel
theorem dX7_count_32 : decode cX7_count 32 = .ok (.aload_n 0, 1) := by decide +kernel
theorem dX7_count_33 : decode cX7_count 33 = .ok (.getfield 10, 3) := by decide +kernel
theorem dX7_count_36 : decode cX7_count 36 = .ok (.getfield 38, 3) := by decide +kernel
theorem dX7_count_39 : decode cX7_count 39 = .ok (.ireturn, 1) := by decide +kernel
theorem dX7_count_40 : decode cX7_count 40 = .ok (.aload_n 0, 1) := by decide +kernel
theorem dX7_count_41 : decode cX7_count 41 = .ok (.getfield 19, 3) := by decide +kernel
theorem dX7_count_44 : decode cX7_count 44 = .ok (.getfield 148, 3) := by decide +kernel
theorem dX7_count_47 : decode cX7_count 47 = .ok (.ireturn, 1) := by decide +kernel
theorem dX7_count_48 : decode cX7_count 48 = .ok (.aload_n 0, 1) := by decide +kernel
theorem dX7_count_49 : decode cX7_count 49 = .ok (.getfield 19, 3) := by decide +kernel
theorem dX7_count_52 : decode cX7_count 52 = .ok (.invokevirtual 189, 3) := by decide +kernel
theorem dX7_count_55 : decode cX7_count 55 = .ok (.ireturn, 1) := by decide +kernel
theorem dX7_count_56 : decode cX7_count 56 = .ok (.aload_n 0, 1) := by decide +kernel
theorem dX7_count_57 : decode cX7_count 57 = .ok (.getfield 19, 3) := by decide +kernel
theorem dX7_count_60 : decode cX7_count 60 = .ok (.invokevirtual 192, 3) := by decide +kernel
theorem dX7_count_63 : decode cX7_count 63 = .ok (.ireturn, 1) := by decide +kernel
theorem dX7_count_64 : decode cX7_count 64 = .ok (.bipush (-2), 2) := by decide +kernel
theorem dX7_count_66 : decode cX7_count 66 = .ok (.ireturn, 1) := by decide +kernel
theorem dX7_noFigure_0 : decode cX7_noFigure 0 = .ok (.iload_n 0, 1) := by decide +kernel
theorem dX7_noFigure_1 : decode cX7_noFigure 1 = .ok (.ifCond .lt 9, 3) := by decide +kernel
theorem dX7_noFigure_4 : decode cX7_noFigure 4 = .ok (.iload_n 0, 1) := by decide +kernel
theorem dX7_noFigure_5 : decode cX7_noFigure 5 = .ok (.bipush 8, 2) := by decide +kernel
theorem dX7_noFigure_7 : decode cX7_noFigure 7 = .ok (.if_icmp .lt 7, 3) := by decide +kernel
theorem dX7_noFigure_10 : decode cX7_noFigure 10 = .ok (.iconst 1, 1) := by decide +kernel
theorem dX7_noFigure_11 : decode cX7_noFigure 11 = .ok (.goto 4, 3) := by decide +kernel
theorem dX7_noFigure_14 : decode cX7_noFigure 14 = .ok (.iconst 0, 1) := by decide +kernel
theorem dX7_noFigure_15 : decode cX7_noFigure 15 = .ok (.ireturn, 1) := by decide +kernel
theorem dX7_noPiece_0 : decode cX7_noPiece 0 = .ok (.iload_n 1, 1) := by decide +kernel
theorem dX7_noPiece_1 : decode cX7_noPiece 1 = .ok (.ifCond .lt 19, 3) := by decide +kernel
theorem dX7_noPiece_4 : decode cX7_noPiece 4 = .ok (.iload_n 1, 1) := by decide +kernel
theorem dX7_noPiece_5 : decode cX7_noPiece 5 = .ok (.aload_n 0, 1) := by decide +kernel
theorem dX7_noPiece_6 : decode cX7_noPiece 6 = .ok (.getfield 19, 3) := by decide +kernel
theorem dX7_noPiece_9 : decode cX7_noPiece 9 = .ok (.getfield 148, 3) := by decide +kernel
theorem dX7_noPiece_12 : decode cX7_noPiece 12 = .ok (.if_icmp .ge 8, 3) := by decide +kernel
theorem dX7_noPiece_15 : decode cX7_noPiece 15 = .ok (.iload_n 1, 1) := by decide +kernel
theorem dX7_noPiece_16 : decode cX7_noPiece 16 = .ok (.iconst 4, 1) := by decide +kernel
theorem dX7_noPiece_17 : decode cX7_noPiece 17 = .ok (.if_icmp .lt 7, 3) := by decide +kernel
theorem dX7_noPiece_20 : decode cX7_noPiece 20 = .ok (.iconst 1, 1) := by decide +kernel
theorem dX7_noPiece_21 : decode cX7_noPiece 21 = .ok (.goto 4, 3) := by decide +kernel
theorem dX7_noPiece_24 : decode cX7_noPiece 24 = .ok (.iconst 0, 1) := by decide +kernel
theorem dX7_noPiece_25 : decode cX7_noPiece 25 = .ok (.ireturn, 1) := by decide +kernel
set_option maxRecDepth 20000 in
theorem ggX7_become_J13_bitCount_95d88 : GoodIn wsX7_become wsJ13_bitCount_95d88 := goodIn_r _ [6, 7, 8, 9] (by decide +kernel) (by decide +kernel)
set_option maxRecDepth 20000 in
theorem gX7_become_J13_bitCount_95d88 : GoodIn wsX7_become (va_wsS RX7 80 yJ13_bitCount_95d88 wsJ13_bitCount_95d88) := goodIn_app (goodIn_of _ (by decide +kernel)) ggX7_become_J13_bitCount_95d88
theorem dX7_become_0 : decode cX7_become 0 = .ok (.aload_n 0, 1) := by decide +kernel
theorem dX7_become_1 : decode cX7_become 1 = .ok (.getfield 19, 3) := by decide +kernel
theorem dX7_become_4 : decode cX7_become 4 = .ok (.getfield 62, 3) := by decide +kernel
theorem dX7_become_7 : decode cX7_become 7 = .ok (.iload_n 1, 1) := by decide +kernel
theorem dX7_become_8 : decode cX7_become 8 = .ok (.lload_n 2, 1) := by decide +kernel
theorem dX7_become_9 : decode cX7_become 9 = .ok (.lastore, 1) := by decide +kernel
theorem dX7_become_10 : decode cX7_become 10 = .ok (.lload_n 2, 1) := by decide +kernel
theorem dX7_become_11 : decode cX7_become 11 = .ok (.invokestatic 80, 3) := by decide +kernel
theorem dX7_become_14 : decode cX7_become 14 = .ok (.ireturn, 1) := by decide +kernel
theorem dX7_change_0 : decode cX7_change 0 = .ok (.aload_n 0, 1) := by decide +kernel
theorem dX7_change_1 : decode cX7_change 1 = .ok (.getfield 19, 3) := by decide +kernel
theorem dX7_change_4 : decode cX7_change 4 = .ok (.getfield 62, 3) := by decide +kernel
theorem dX7_change_7 : decode cX7_change 7 = .ok (.iload_n 1, 1) := by decide +kernel
theorem dX7_change_8 : decode cX7_change 8 = .ok (.laload, 1) := by decide +kernel
theorem dX7_change_9 : decode cX7_change 9 = .ok (.lload_n 2, 1) := by decide +kernel
theorem dX7_change_10 : decode cX7_change 10 = .ok (.lcmp, 1) := by decide +kernel
theorem dX7_change_11 : decode cX7_change 11 = .ok (.ifCond .eq 7, 3) := by decide +kernel
theorem dX7_change_14 : decode cX7_change 14 = .ok (.iconst 1, 1) := by decide +kernel
theorem dX7_change_15 : decode cX7_change 15 = .ok (.goto 4, 3) := by decide +kernel
theorem dX7_change_18 : decode cX7_change 18 = .ok (.iconst 0, 1) := by decide +kernel
theorem dX7_change_19 : decode cX7_change 19 = .ok (.istore 4, 2) := by decide +kernel
theorem dX7_change_21 : decode cX7_change 21 = .ok (.aload_n 0, 1) := by decide +kernel
theorem dX7_change_22 : decode cX7_change 22 = .ok (.getfield 19, 3) := by decide +kernel
theorem dX7_change_25 : decode cX7_change 25 = .ok (.getfield 62, 3) := by decide +kernel
theorem dX7_change_28 : decode cX7_change 28 = .ok (.iload_n 1, 1) := by decide +kernel
theorem dX7_change_29 : decode cX7_change 29 = .ok (.lload_n 2, 1) := by decide +kernel
theorem dX7_change_30 : decode cX7_change 30 = .ok (.lastore, 1) := by decide +kernel
theorem dX7_change_31 : decode cX7_change 31 = .ok (.iload 4, 2) := by decide +kernel
theorem dX7_change_33 : decode cX7_change 33 = .ok (.ifCond .eq 7, 3) := by decide +kernel
theorem dX7_change_36 : decode cX7_change 36 = .ok (.iconst 1, 1) := by decide +kernel
theorem dX7_change_37 : decode cX7_change 37 = .ok (.goto 4, 3) := by decide +kernel
theorem dX7_change_40 : decode cX7_change 40 = .ok (.iconst 0, 1) := by decide +kernel
theorem dX7_change_41 : decode cX7_change 41 = .ok (.ireturn, 1) := by decide +kernel
theorem dX7_combined_0 : decode cX7_combined 0 = .ok (.iload_n 0, 1) := by decide +kernel
theorem dX7_combined_1 : decode cX7_combined 1 = .ok (.tableswitch 43 0 2 #[27, 31, 35], 27) := by decide +kernel
theorem dX7_combined_28 : decode cX7_combined 28 = .ok (.lload_n 1, 1) := by decide +kernel
theorem dX7_combined_29 : decode cX7_combined 29 = .ok (.lload_n 3, 1) := by decide +kernel
theorem dX7_combined_30 : decode cX7_combined 30 = .ok (.lor, 1) := by decide +kernel
theorem dX7_combined_31 : decode cX7_combined 31 = .ok (.lreturn, 1) := by decide +kernel
theorem dX7_combined_32 : decode cX7_combined 32 = .ok (.lload_n 1, 1) := by decide +kernel
theorem dX7_combined_33 : decode cX7_combined 33 = .ok (.lload_n 3, 1) := by decide +kernel
theorem dX7_combined_34 : decode cX7_combined 34 = .ok (.land, 1) := by decide +kernel
theorem dX7_combined_35 : decode cX7_combined 35 = .ok (.lreturn, 1) := by decide +kernel
theorem dX7_combined_36 : decode cX7_combined 36 = .ok (.lload_n 1, 1) := by decide +kernel
theorem dX7_combined_37 : decode cX7_combined 37 = .ok (.lload_n 3, 1) := by decide +kernel
theorem dX7_combined_38 : decode cX7_combined 38 = .ok (.ldc2_w 75, 3) := by decide +kernel
theorem dX7_combined_41 : decode cX7_combined 41 = .ok (.lxor, 1) := by decide +kernel
theorem dX7_combined_42 : decode cX7_combined 42 = .ok (.land, 1) := by decide +kernel
theorem dX7_combined_43 : decode cX7_combined 43 = .ok (.lreturn, 1) := by decide +kernel
theorem dX7_combined_44 : decode cX7_combined 44 = .ok (.lload_n 1, 1) := by decide +kernel
theorem dX7_combined_45 : decode cX7_combined 45 = .ok (.lload_n 3, 1) := by decide +kernel
theorem dX7_combined_46 : decode cX7_combined 46 = .ok (.lxor, 1) := by decide +kernel
theorem dX7_combined_47 : decode cX7_combined 47 = .ok (.lreturn, 1) := by decide +kernel
set_option maxRecDepth 20000 in
theorem ggX7_countGrownForms_X0_around : GoodIn wsX7_countGrownForms wsX0_around := goodIn_r _ [5, 6, 7, 8, 4, 9, 10, 11, 12, 13, 14, 15, 16, 17, 18, 19, 20, 21, 22, 23, 24, 25, 26] (by decide +kernel) (by decide +kernel)
set_option maxRecDepth 20000 in
theorem gX7_countGrownForms_X0_around : GoodIn wsX7_countGrownForms (va_wsS RX7 176 yX0_around wsX0_around) := goodIn_app (goodIn_of _ (by decide +kernel)) ggX7_countGrownForms_X0_around
set_option maxRecDepth 20000 in
theorem ggX7_countGrownForms_X3_leastForm : GoodIn wsX7_countGrownForms wsX3_leastForm := goodIn_r _ [30, 31, 32, 29, 33, 34, 35, 36, 37, 38, 39, 40, 41, 42, 43, 44, 45, 46, 47, 48, 49, 50, 51, 52, 53, 54, 55, 56, 57, 58, 59, 60, 61] (by decide +kernel) (by decide +kernel)
set_option maxRecDepth 20000 in
theorem gX7_countGrownForms_X3_leastForm : GoodIn wsX7_countGrownForms (va_wsS RX7 121 yX3_leastForm wsX3_leastForm) := goodIn_app (goodIn_of _ (by decide +kernel)) ggX7_countGrownForms_X3_leastForm
set_option maxRecDepth 20000 in
theorem ggX7_countGrownForms_X7_isAmong : GoodIn wsX7_countGrownForms wsX7_isAmong := goodIn_r _ [64] (by decide +kernel) (by decide +kernel)
set_option maxRecDepth 20000 in
theorem gX7_countGrownForms_X7_isAmong : GoodIn wsX7_countGrownForms (va_wsS RX7 195 yX7_isAmong wsX7_isAmong) := goodIn_app (goodIn_of _ (by decide +kernel)) ggX7_countGrownForms_X7_isAmong
theorem dX7_countGrownForms_0 : decode cX7_countGrownForms 0 = .ok (.lload_n 1, 1) := by decide +kernel
theorem dX7_countGrownForms_1 : decode cX7_countGrownForms 1 = .ok (.invokestatic 176, 3) := by decide +kernel
theorem dX7_countGrownForms_4 : decode cX7_countGrownForms 4 = .ok (.lstore_n 3, 1) := by decide +kernel
theorem dX7_countGrownForms_5 : decode cX7_countGrownForms 5 = .ok (.iconst 0, 1) := by decide +kernel
theorem dX7_countGrownForms_6 : decode cX7_countGrownForms 6 = .ok (.istore 5, 2) := by decide +kernel
theorem dX7_countGrownForms_8 : decode cX7_countGrownForms 8 = .ok (.iconst 0, 1) := by decide +kernel
theorem dX7_countGrownForms_9 : decode cX7_countGrownForms 9 = .ok (.istore 6, 2) := by decide +kernel
theorem dX7_countGrownForms_11 : decode cX7_countGrownForms 11 = .ok (.iload 6, 2) := by decide +kernel
theorem dX7_countGrownForms_13 : decode cX7_countGrownForms 13 = .ok (.bipush 64, 2) := by decide +kernel
theorem dX7_countGrownForms_15 : decode cX7_countGrownForms 15 = .ok (.if_icmp .ge 61, 3) := by decide +kernel
theorem dX7_countGrownForms_18 : decode cX7_countGrownForms 18 = .ok (.lload_n 3, 1) := by decide +kernel
theorem dX7_countGrownForms_19 : decode cX7_countGrownForms 19 = .ok (.lconst 0, 1) := by decide +kernel
theorem dX7_countGrownForms_20 : decode cX7_countGrownForms 20 = .ok (.lcmp, 1) := by decide +kernel
theorem dX7_countGrownForms_21 : decode cX7_countGrownForms 21 = .ok (.ifCond .eq 55, 3) := by decide +kernel
theorem dX7_countGrownForms_24 : decode cX7_countGrownForms 24 = .ok (.lload_n 3, 1) := by decide +kernel
theorem dX7_countGrownForms_25 : decode cX7_countGrownForms 25 = .ok (.lload_n 3, 1) := by decide +kernel
theorem dX7_countGrownForms_26 : decode cX7_countGrownForms 26 = .ok (.lneg, 1) := by decide +kernel
theorem dX7_countGrownForms_27 : decode cX7_countGrownForms 27 = .ok (.land, 1) := by decide +kernel
theorem dX7_countGrownForms_28 : decode cX7_countGrownForms 28 = .ok (.lstore 7, 2) := by decide +kernel
theorem dX7_countGrownForms_30 : decode cX7_countGrownForms 30 = .ok (.lload_n 3, 1) := by decide +kernel
theorem dX7_countGrownForms_31 : decode cX7_countGrownForms 31 = .ok (.lload 7, 2) := by decide +kernel
theorem dX7_countGrownForms_33 : decode cX7_countGrownForms 33 = .ok (.lxor, 1) := by decide +kernel
theorem dX7_countGrownForms_34 : decode cX7_countGrownForms 34 = .ok (.lstore_n 3, 1) := by decide +kernel
theorem dX7_countGrownForms_35 : decode cX7_countGrownForms 35 = .ok (.lload_n 1, 1) := by decide +kernel
theorem dX7_countGrownForms_36 : decode cX7_countGrownForms 36 = .ok (.lload 7, 2) := by decide +kernel
theorem dX7_countGrownForms_38 : decode cX7_countGrownForms 38 = .ok (.lor, 1) := by decide +kernel
theorem dX7_countGrownForms_39 : decode cX7_countGrownForms 39 = .ok (.invokestatic 121, 3) := by decide +kernel
theorem dX7_countGrownForms_42 : decode cX7_countGrownForms 42 = .ok (.lstore 9, 2) := by decide +kernel
theorem dX7_countGrownForms_44 : decode cX7_countGrownForms 44 = .ok (.aload_n 0, 1) := by decide +kernel
theorem dX7_countGrownForms_45 : decode cX7_countGrownForms 45 = .ok (.getfield 34, 3) := by decide +kernel
theorem dX7_countGrownForms_48 : decode cX7_countGrownForms 48 = .ok (.iload 5, 2) := by decide +kernel
theorem dX7_countGrownForms_50 : decode cX7_countGrownForms 50 = .ok (.lload 9, 2) := by decide +kernel
theorem dX7_countGrownForms_52 : decode cX7_countGrownForms 52 = .ok (.invokestatic 195, 3) := by decide +kernel
theorem dX7_countGrownForms_55 : decode cX7_countGrownForms 55 = .ok (.ifCond .ne 15, 3) := by decide +kernel
theorem dX7_countGrownForms_58 : decode cX7_countGrownForms 58 = .ok (.aload_n 0, 1) := by decide +kernel
theorem dX7_countGrownForms_59 : decode cX7_countGrownForms 59 = .ok (.getfield 34, 3) := by decide +kernel
theorem dX7_countGrownForms_62 : decode cX7_countGrownForms 62 = .ok (.iload 5, 2) := by decide +kernel
theorem dX7_countGrownForms_64 : decode cX7_countGrownForms 64 = .ok (.lload 9, 2) := by decide +kernel
theorem dX7_countGrownForms_66 : decode cX7_countGrownForms 66 = .ok (.lastore, 1) := by decide +kernel
theorem dX7_countGrownForms_67 : decode cX7_countGrownForms 67 = .ok (.iinc 5 1, 3) := by decide +kernel
theorem dX7_countGrownForms_70 : decode cX7_countGrownForms 70 = .ok (.iinc 6 1, 3) := by decide +kernel
theorem dX7_countGrownForms_73 : decode cX7_countGrownForms 73 = .ok (.goto (-62), 3) := by decide +kernel
theorem dX7_countGrownForms_76 : decode cX7_countGrownForms 76 = .ok (.iload 5, 2) := by decide +kernel
theorem dX7_countGrownForms_78 : decode cX7_countGrownForms 78 = .ok (.ireturn, 1) := by decide +kernel
theorem dX7_isAmong_0 : decode cX7_isAmong 0 = .ok (.iconst 0, 1) := by decide +kernel
theorem dX7_isAmong_1 : decode cX7_isAmong 1 = .ok (.istore 4, 2) := by decide +kernel
theorem dX7_isAmong_3 : decode cX7_isAmong 3 = .ok (.iload 4, 2) := by decide +kernel
theorem dX7_isAmong_5 : decode cX7_isAmong 5 = .ok (.iload_n 1, 1) := by decide +kernel
theorem dX7_isAmong_6 : decode cX7_isAmong 6 = .ok (.if_icmp .ge 27, 3) := by decide +kernel
theorem dX7_isAmong_9 : decode cX7_isAmong 9 = .ok (.iload 4, 2) := by decide +kernel
theorem dX7_isAmong_11 : decode cX7_isAmong 11 = .ok (.aload_n 0, 1) := by decide +kernel
theorem dX7_isAmong_12 : decode cX7_isAmong 12 = .ok (.arraylength, 1) := by decide +kernel
theorem dX7_isAmong_13 : decode cX7_isAmong 13 = .ok (.if_icmp .ge 20, 3) := by decide +kernel
theorem dX7_isAmong_16 : decode cX7_isAmong 16 = .ok (.aload_n 0, 1) := by decide +kernel
theorem dX7_isAmong_17 : decode cX7_isAmong 17 = .ok (.iload 4, 2) := by decide +kernel
theorem dX7_isAmong_19 : decode cX7_isAmong 19 = .ok (.laload, 1) := by decide +kernel
theorem dX7_isAmong_20 : decode cX7_isAmong 20 = .ok (.lload_n 2, 1) := by decide +kernel
theorem dX7_isAmong_21 : decode cX7_isAmong 21 = .ok (.lcmp, 1) := by decide +kernel
theorem dX7_isAmong_22 : decode cX7_isAmong 22 = .ok (.ifCond .ne 5, 3) := by decide +kernel
theorem dX7_isAmong_25 : decode cX7_isAmong 25 = .ok (.iconst 1, 1) := by decide +kernel
theorem dX7_isAmong_26 : decode cX7_isAmong 26 = .ok (.ireturn, 1) := by decide +kernel
theorem dX7_isAmong_27 : decode cX7_isAmong 27 = .ok (.iinc 4 1, 3) := by decide +kernel
theorem dX7_isAmong_30 : decode cX7_isAmong 30 = .ok (.goto (-27), 3) := by decide +kernel
theorem dX7_isAmong_33 : decode cX7_isAmong 33 = .ok (.iconst 0, 1) := by decide +kernel
theorem dX7_isAmong_34 : decode cX7_isAmong 34 = .ok (.ireturn, 1) := by decide +kernel
theorem dX7_isLess_0 : decode cX7_isLess 0 = .ok (.lload_n 0, 1) := by decide +kernel
theorem dX7_isLess_1 : decode cX7_isLess 1 = .ok (.ldc2_w 199, 3) := by decide +kernel
theorem dX7_isLess_4 : decode cX7_isLess 4 = .ok (.lxor, 1) := by decide +kernel
theorem dX7_isLess_5 : decode cX7_isLess 5 = .ok (.lload_n 2, 1) := by decide +kernel
theorem dX7_isLess_6 : decode cX7_isLess 6 = .ok (.ldc2_w 199, 3) := by decide +kernel
theorem dX7_isLess_9 : decode cX7_isLess 9 = .ok (.lxor, 1) := by decide +kernel
theorem dX7_isLess_10 : decode cX7_isLess 10 = .ok (.lcmp, 1) := by decide +kernel
theorem dX7_isLess_11 : decode cX7_isLess 11 = .ok (.ifCond .ge 7, 3) := by decide +kernel
theorem dX7_isLess_14 : decode cX7_isLess 14 = .ok (.iconst 1, 1) := by decide +kernel
theorem dX7_isLess_15 : decode cX7_isLess 15 = .ok (.goto 4, 3) := by decide +kernel
theorem dX7_isLess_18 : decode cX7_isLess 18 = .ok (.iconst 0, 1) := by decide +kernel
theorem dX7_isLess_19 : decode cX7_isLess 19 = .ok (.ireturn, 1) := by decide +kernel
