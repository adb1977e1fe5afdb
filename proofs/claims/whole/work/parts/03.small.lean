theorem dX0_square_0 : decode cX0_square 0 = .ok (.lload_n 0, 1) := by decide +kernel
theorem dX0_square_1 : decode cX0_square 1 = .ok (.iconst 4, 1) := by decide +kernel
theorem dX0_square_2 : decode cX0_square 2 = .ok (.iload_n 2, 1) := by decide +kernel
theorem dX0_square_3 : decode cX0_square 3 = .ok (.imul, 1) := by decide +kernel
theorem dX0_square_4 : decode cX0_square 4 = .ok (.lushr, 1) := by decide +kernel
theorem dX0_square_5 : decode cX0_square 5 = .ok (.l2i, 1) := by decide +kernel
theorem dX0_square_6 : decode cX0_square 6 = .ok (.bipush 15, 2) := by decide +kernel
theorem dX0_square_8 : decode cX0_square 8 = .ok (.iand, 1) := by decide +kernel
theorem dX0_square_9 : decode cX0_square 9 = .ok (.ireturn, 1) := by decide +kernel
theorem dX0_nextInSquare_0 : decode cX0_nextInSquare 0 = .ok (.lload_n 0, 1) := by decide +kernel
theorem dX0_nextInSquare_1 : decode cX0_nextInSquare 1 = .ok (.ldc2_w 11, 3) := by decide +kernel
theorem dX0_nextInSquare_4 : decode cX0_nextInSquare 4 = .ok (.land, 1) := by decide +kernel
theorem dX0_nextInSquare_5 : decode cX0_nextInSquare 5 = .ok (.iconst 1, 1) := by decide +kernel
theorem dX0_nextInSquare_6 : decode cX0_nextInSquare 6 = .ok (.lshl, 1) := by decide +kernel
theorem dX0_nextInSquare_7 : decode cX0_nextInSquare 7 = .ok (.lload_n 0, 1) := by decide +kernel
theorem dX0_nextInSquare_8 : decode cX0_nextInSquare 8 = .ok (.ldc2_w 13, 3) := by decide +kernel
theorem dX0_nextInSquare_11 : decode cX0_nextInSquare 11 = .ok (.land, 1) := by decide +kernel
theorem dX0_nextInSquare_12 : decode cX0_nextInSquare 12 = .ok (.iconst 3, 1) := by decide +kernel
theorem dX0_nextInSquare_13 : decode cX0_nextInSquare 13 = .ok (.lushr, 1) := by decide +kernel
theorem dX0_nextInSquare_14 : decode cX0_nextInSquare 14 = .ok (.lor, 1) := by decide +kernel
theorem dX0_nextInSquare_15 : decode cX0_nextInSquare 15 = .ok (.lreturn, 1) := by decide +kernel
theorem dX0_lastInSquare_0 : decode cX0_lastInSquare 0 = .ok (.lload_n 0, 1) := by decide +kernel
theorem dX0_lastInSquare_1 : decode cX0_lastInSquare 1 = .ok (.ldc2_w 15, 3) := by decide +kernel
theorem dX0_lastInSquare_4 : decode cX0_lastInSquare 4 = .ok (.land, 1) := by decide +kernel
theorem dX0_lastInSquare_5 : decode cX0_lastInSquare 5 = .ok (.iconst 1, 1) := by decide +kernel
theorem dX0_lastInSquare_6 : decode cX0_lastInSquare 6 = .ok (.lushr, 1) := by decide +kernel
theorem dX0_lastInSquare_7 : decode cX0_lastInSquare 7 = .ok (.lload_n 0, 1) := by decide +kernel
theorem dX0_lastInSquare_8 : decode cX0_lastInSquare 8 = .ok (.ldc2_w 17, 3) := by decide +kernel
theorem dX0_lastInSquare_11 : decode cX0_lastInSquare 11 = .ok (.land, 1) := by decide +kernel
theorem dX0_lastInSquare_12 : decode cX0_lastInSquare 12 = .ok (.iconst 3, 1) := by decide +kernel
theorem dX0_lastInSquare_13 : decode cX0_lastInSquare 13 = .ok (.lshl, 1) := by decide +kernel
theorem dX0_lastInSquare_14 : decode cX0_lastInSquare 14 = .ok (.lor, 1) := by decide +kernel
theorem dX0_lastInSquare_15 : decode cX0_lastInSquare 15 = .ok (.lreturn, 1) := by decide +kernel
theorem dX0_acrossSides_0 : decode cX0_acrossSides 0 = .ok (.lload_n 0, 1) := by decide +kernel
theorem dX0_acrossSides_1 : decode cX0_acrossSides 1 = .ok (.ldc2_w 19, 3) := by decide +kernel
theorem dX0_acrossSides_4 : decode cX0_acrossSides 4 = .ok (.land, 1) := by decide +kernel
theorem dX0_acrossSides_5 : decode cX0_acrossSides 5 = .ok (.ldc2_w 21, 3) := by decide +kernel
theorem dX0_acrossSides_8 : decode cX0_acrossSides 8 = .ok (.land, 1) := by decide +kernel
theorem dX0_acrossSides_9 : decode cX0_acrossSides 9 = .ok (.bipush 6, 2) := by decide +kernel
theorem dX0_acrossSides_11 : decode cX0_acrossSides 11 = .ok (.lshl, 1) := by decide +kernel
theorem dX0_acrossSides_12 : decode cX0_acrossSides 12 = .ok (.lload_n 0, 1) := by decide +kernel
theorem dX0_acrossSides_13 : decode cX0_acrossSides 13 = .ok (.ldc2_w 13, 3) := by decide +kernel
theorem dX0_acrossSides_16 : decode cX0_acrossSides 16 = .ok (.land, 1) := by decide +kernel
theorem dX0_acrossSides_17 : decode cX0_acrossSides 17 = .ok (.ldc2_w 23, 3) := by decide +kernel
theorem dX0_acrossSides_20 : decode cX0_acrossSides 20 = .ok (.land, 1) := by decide +kernel
theorem dX0_acrossSides_21 : decode cX0_acrossSides 21 = .ok (.bipush 6, 2) := by decide +kernel
theorem dX0_acrossSides_23 : decode cX0_acrossSides 23 = .ok (.lushr, 1) := by decide +kernel
theorem dX0_acrossSides_24 : decode cX0_acrossSides 24 = .ok (.lor, 1) := by decide +kernel
theorem dX0_acrossSides_25 : decode cX0_acrossSides 25 = .ok (.lload_n 0, 1) := by decide +kernel
theorem dX0_acrossSides_26 : decode cX0_acrossSides 26 = .ok (.ldc2_w 25, 3) := by decide +kernel
theorem dX0_acrossSides_29 : decode cX0_acrossSides 29 = .ok (.land, 1) := by decide +kernel
theorem dX0_acrossSides_30 : decode cX0_acrossSides 30 = .ok (.bipush 14, 2) := by decide +kernel
theorem dX0_acrossSides_32 : decode cX0_acrossSides 32 = .ok (.lshl, 1) := by decide +kernel
theorem dX0_acrossSides_33 : decode cX0_acrossSides 33 = .ok (.lor, 1) := by decide +kernel
theorem dX0_acrossSides_34 : decode cX0_acrossSides 34 = .ok (.lload_n 0, 1) := by decide +kernel
theorem dX0_acrossSides_35 : decode cX0_acrossSides 35 = .ok (.ldc2_w 17, 3) := by decide +kernel
theorem dX0_acrossSides_38 : decode cX0_acrossSides 38 = .ok (.land, 1) := by decide +kernel
theorem dX0_acrossSides_39 : decode cX0_acrossSides 39 = .ok (.bipush 14, 2) := by decide +kernel
theorem dX0_acrossSides_41 : decode cX0_acrossSides 41 = .ok (.lushr, 1) := by decide +kernel
theorem dX0_acrossSides_42 : decode cX0_acrossSides 42 = .ok (.lor, 1) := by decide +kernel
theorem dX0_acrossSides_43 : decode cX0_acrossSides 43 = .ok (.lreturn, 1) := by decide +kernel
set_option maxRecDepth 20000 in
theorem ggX0_neighbours_X0_nextInSquare : GoodIn wsX0_neighbours wsX0_nextInSquare := goodIn_r _ [4, 5, 6] (by decide +kernel) (by decide +kernel)
set_option maxRecDepth 20000 in
theorem gX0_neighbours_X0_nextInSquare : GoodIn wsX0_neighbours (va_wsS RX0 27 yX0_nextInSquare wsX0_nextInSquare) := goodIn_app (goodIn_of _ (by decide +kernel)) ggX0_neighbours_X0_nextInSquare
set_option maxRecDepth 20000 in
theorem ggX0_neighbours_X0_lastInSquare : GoodIn wsX0_neighbours wsX0_lastInSquare := goodIn_r _ [9, 10, 11] (by decide +kernel) (by decide +kernel)
set_option maxRecDepth 20000 in
theorem gX0_neighbours_X0_lastInSquare : GoodIn wsX0_neighbours (va_wsS RX0 31 yX0_lastInSquare wsX0_lastInSquare) := goodIn_app (goodIn_of _ (by decide +kernel)) ggX0_neighbours_X0_lastInSquare
set_option maxRecDepth 20000 in
theorem ggX0_neighbours_X0_acrossSides : GoodIn wsX0_neighbours wsX0_acrossSides := goodIn_r _ [14, 15, 16, 6, 17, 18, 11] (by decide +kernel) (by decide +kernel)
set_option maxRecDepth 20000 in
theorem gX0_neighbours_X0_acrossSides : GoodIn wsX0_neighbours (va_wsS RX0 34 yX0_acrossSides wsX0_acrossSides) := goodIn_app (goodIn_of _ (by decide +kernel)) ggX0_neighbours_X0_acrossSides
theorem dX0_neighbours_0 : decode cX0_neighbours 0 = .ok (.lload_n 0, 1) := by decide +kernel
theorem dX0_neighbours_1 : decode cX0_neighbours 1 = .ok (.invokestatic 27, 3) := by decide +kernel
theorem dX0_neighbours_4 : decode cX0_neighbours 4 = .ok (.lload_n 0, 1) := by decide +kernel
theorem dX0_neighbours_5 : decode cX0_neighbours 5 = .ok (.invokestatic 31, 3) := by decide +kernel
theorem dX0_neighbours_8 : decode cX0_neighbours 8 = .ok (.lor, 1) := by decide +kernel
theorem dX0_neighbours_9 : decode cX0_neighbours 9 = .ok (.lload_n 0, 1) := by decide +kernel
theorem dX0_neighbours_10 : decode cX0_neighbours 10 = .ok (.invokestatic 34, 3) := by decide +kernel
theorem dX0_neighbours_13 : decode cX0_neighbours 13 = .ok (.lor, 1) := by decide +kernel
theorem dX0_neighbours_14 : decode cX0_neighbours 14 = .ok (.lreturn, 1) := by decide +kernel
set_option maxRecDepth 20000 in
theorem ggX0_around_X0_neighbours : GoodIn wsX0_around wsX0_neighbours := goodIn_r _ [5, 6, 7, 4, 8, 9, 10, 11, 12, 13, 14, 15, 16, 17, 18, 19, 20, 21, 22] (by decide +kernel) (by decide +kernel)
set_option maxRecDepth 20000 in
theorem gX0_around_X0_neighbours : GoodIn wsX0_around (va_wsS RX0 37 yX0_neighbours wsX0_neighbours) := goodIn_app (goodIn_of _ (by decide +kernel)) ggX0_around_X0_neighbours
theorem dX0_around_0 : decode cX0_around 0 = .ok (.lload_n 0, 1) := by decide +kernel
theorem dX0_around_1 : decode cX0_around 1 = .ok (.invokestatic 37, 3) := by decide +kernel
theorem dX0_around_4 : decode cX0_around 4 = .ok (.lload_n 0, 1) := by decide +kernel
theorem dX0_around_5 : decode cX0_around 5 = .ok (.ldc2_w 40, 3) := by decide +kernel
theorem dX0_around_8 : decode cX0_around 8 = .ok (.lxor, 1) := by decide +kernel
theorem dX0_around_9 : decode cX0_around 9 = .ok (.land, 1) := by decide +kernel
theorem dX0_around_10 : decode cX0_around 10 = .ok (.lreturn, 1) := by decide +kernel
set_option maxRecDepth 20000 in
theorem ggX0_partFrom_X0_neighbours : GoodIn wsX0_partFrom wsX0_neighbours := goodIn_r _ [4, 5, 6, 3, 7, 8, 9, 10, 11, 12, 13, 14, 15, 16, 17, 18, 19, 20, 21] (by decide +kernel) (by decide +kernel)
set_option maxRecDepth 20000 in
theorem gX0_partFrom_X0_neighbours : GoodIn wsX0_partFrom (va_wsS RX0 37 yX0_neighbours wsX0_neighbours) := goodIn_app (goodIn_of _ (by decide +kernel)) ggX0_partFrom_X0_neighbours
theorem dX0_partFrom_0 : decode cX0_partFrom 0 = .ok (.lload_n 0, 1) := by decide +kernel
theorem dX0_partFrom_1 : decode cX0_partFrom 1 = .ok (.lload_n 2, 1) := by decide +kernel
theorem dX0_partFrom_2 : decode cX0_partFrom 2 = .ok (.land, 1) := by decide +kernel
theorem dX0_partFrom_3 : decode cX0_partFrom 3 = .ok (.lstore 4, 2) := by decide +kernel
theorem dX0_partFrom_5 : decode cX0_partFrom 5 = .ok (.iconst 0, 1) := by decide +kernel
theorem dX0_partFrom_6 : decode cX0_partFrom 6 = .ok (.istore 6, 2) := by decide +kernel
theorem dX0_partFrom_8 : decode cX0_partFrom 8 = .ok (.iload 6, 2) := by decide +kernel
theorem dX0_partFrom_10 : decode cX0_partFrom 10 = .ok (.bipush 64, 2) := by decide +kernel
theorem dX0_partFrom_12 : decode cX0_partFrom 12 = .ok (.if_icmp .ge 36, 3) := by decide +kernel
theorem dX0_partFrom_15 : decode cX0_partFrom 15 = .ok (.lload 4, 2) := by decide +kernel
theorem dX0_partFrom_17 : decode cX0_partFrom 17 = .ok (.lload 4, 2) := by decide +kernel
theorem dX0_partFrom_19 : decode cX0_partFrom 19 = .ok (.invokestatic 37, 3) := by decide +kernel
theorem dX0_partFrom_22 : decode cX0_partFrom 22 = .ok (.lor, 1) := by decide +kernel
theorem dX0_partFrom_23 : decode cX0_partFrom 23 = .ok (.lload_n 2, 1) := by decide +kernel
theorem dX0_partFrom_24 : decode cX0_partFrom 24 = .ok (.land, 1) := by decide +kernel
theorem dX0_partFrom_25 : decode cX0_partFrom 25 = .ok (.lstore 7, 2) := by decide +kernel
theorem dX0_partFrom_27 : decode cX0_partFrom 27 = .ok (.lload 7, 2) := by decide +kernel
theorem dX0_partFrom_29 : decode cX0_partFrom 29 = .ok (.lload 4, 2) := by decide +kernel
theorem dX0_partFrom_31 : decode cX0_partFrom 31 = .ok (.lcmp, 1) := by decide +kernel
theorem dX0_partFrom_32 : decode cX0_partFrom 32 = .ok (.ifCond .ne 6, 3) := by decide +kernel
theorem dX0_partFrom_35 : decode cX0_partFrom 35 = .ok (.lload 4, 2) := by decide +kernel
theorem dX0_partFrom_37 : decode cX0_partFrom 37 = .ok (.lreturn, 1) := by decide +kernel
theorem dX0_partFrom_38 : decode cX0_partFrom 38 = .ok (.lload 7, 2) := by decide +kernel
theorem dX0_partFrom_40 : decode cX0_partFrom 40 = .ok (.lstore 4, 2) := by decide +kernel
theorem dX0_partFrom_42 : decode cX0_partFrom 42 = .ok (.iinc 6 1, 3) := by decide +kernel
theorem dX0_partFrom_45 : decode cX0_partFrom 45 = .ok (.goto (-37), 3) := by decide +kernel
theorem dX0_partFrom_48 : decode cX0_partFrom 48 = .ok (.lload 4, 2) := by decide +kernel
theorem dX0_partFrom_50 : decode cX0_partFrom 50 = .ok (.lreturn, 1) := by decide +kernel
set_option maxRecDepth 20000 in
theorem ggX0_countParts_X0_partFrom : GoodIn wsX0_countParts wsX0_partFrom := goodIn_r _ [5, 6, 7, 4, 8, 9, 10, 11, 12, 13, 14, 15, 16, 17, 18, 19, 20, 21, 22, 23, 24, 25] (by decide +kernel) (by decide +kernel)
set_option maxRecDepth 20000 in
theorem gX0_countParts_X0_partFrom : GoodIn wsX0_countParts (va_wsS RX0 42 yX0_partFrom wsX0_partFrom) := goodIn_app (goodIn_of _ (by decide +kernel)) ggX0_countParts_X0_partFrom
theorem dX0_countParts_0 : decode cX0_countParts 0 = .ok (.lload_n 0, 1) := by decide +kernel
theorem dX0_countParts_1 : decode cX0_countParts 1 = .ok (.lstore_n 2, 1) := by decide +kernel
theorem dX0_countParts_2 : decode cX0_countParts 2 = .ok (.iconst 0, 1) := by decide +kernel
theorem dX0_countParts_3 : decode cX0_countParts 3 = .ok (.istore 4, 2) := by decide +kernel
theorem dX0_countParts_5 : decode cX0_countParts 5 = .ok (.iconst 0, 1) := by decide +kernel
theorem dX0_countParts_6 : decode cX0_countParts 6 = .ok (.istore 5, 2) := by decide +kernel
theorem dX0_countParts_8 : decode cX0_countParts 8 = .ok (.iload 5, 2) := by decide +kernel
theorem dX0_countParts_10 : decode cX0_countParts 10 = .ok (.bipush 64, 2) := by decide +kernel
theorem dX0_countParts_12 : decode cX0_countParts 12 = .ok (.if_icmp .ge 33, 3) := by decide +kernel
theorem dX0_countParts_15 : decode cX0_countParts 15 = .ok (.lload_n 2, 1) := by decide +kernel
theorem dX0_countParts_16 : decode cX0_countParts 16 = .ok (.lconst 0, 1) := by decide +kernel
theorem dX0_countParts_17 : decode cX0_countParts 17 = .ok (.lcmp, 1) := by decide +kernel
theorem dX0_countParts_18 : decode cX0_countParts 18 = .ok (.ifCond .eq 27, 3) := by decide +kernel
theorem dX0_countParts_21 : decode cX0_countParts 21 = .ok (.lload_n 2, 1) := by decide +kernel
theorem dX0_countParts_22 : decode cX0_countParts 22 = .ok (.lload_n 2, 1) := by decide +kernel
theorem dX0_countParts_23 : decode cX0_countParts 23 = .ok (.lload_n 2, 1) := by decide +kernel
theorem dX0_countParts_24 : decode cX0_countParts 24 = .ok (.lneg, 1) := by decide +kernel
theorem dX0_countParts_25 : decode cX0_countParts 25 = .ok (.land, 1) := by decide +kernel
theorem dX0_countParts_26 : decode cX0_countParts 26 = .ok (.lload_n 2, 1) := by decide +kernel
theorem dX0_countParts_27 : decode cX0_countParts 27 = .ok (.invokestatic 42, 3) := by decide +kernel
theorem dX0_countParts_30 : decode cX0_countParts 30 = .ok (.ldc2_w 40, 3) := by decide +kernel
theorem dX0_countParts_33 : decode cX0_countParts 33 = .ok (.lxor, 1) := by decide +kernel
theorem dX0_countParts_34 : decode cX0_countParts 34 = .ok (.land, 1) := by decide +kernel
theorem dX0_countParts_35 : decode cX0_countParts 35 = .ok (.lstore_n 2, 1) := by decide +kernel
theorem dX0_countParts_36 : decode cX0_countParts 36 = .ok (.iinc 4 1, 3) := by decide +kernel
theorem dX0_countParts_39 : decode cX0_countParts 39 = .ok (.iinc 5 1, 3) := by decide +kernel
theorem dX0_countParts_42 : decode cX0_countParts 42 = .ok (.goto (-34), 3) := by decide +kernel
theorem dX0_countParts_45 : decode cX0_countParts 45 = .ok (.iload 4, 2) := by decide +kernel
theorem dX0_countParts_47 : decode cX0_countParts 47 = .ok (.ireturn, 1) := by decide +kernel
set_option maxRecDepth 20000 in
theorem ggX0_partAt_X0_partFrom : GoodIn wsX0_partAt wsX0_partFrom := goodIn_r _ [5, 6, 7, 4, 8, 9, 10, 11, 12, 13, 14, 15, 16, 17, 18, 19, 20, 21, 22, 23, 24, 25] (by decide +kernel) (by decide +kernel)
set_option maxRecDepth 20000 in
theorem gX0_partAt_X0_partFrom : GoodIn wsX0_partAt (va_wsS RX0 42 yX0_partFrom wsX0_partFrom) := goodIn_app (goodIn_of _ (by decide +kernel)) ggX0_partAt_X0_partFrom
theorem dX0_partAt_0 : decode cX0_partAt 0 = .ok (.lload_n 0, 1) := by decide +kernel
theorem dX0_partAt_1 : decode cX0_partAt 1 = .ok (.lstore_n 3, 1) := by decide +kernel
theorem dX0_partAt_2 : decode cX0_partAt 2 = .ok (.iconst 0, 1) := by decide +kernel
theorem dX0_partAt_3 : decode cX0_partAt 3 = .ok (.istore 5, 2) := by decide +kernel
theorem dX0_partAt_5 : decode cX0_partAt 5 = .ok (.iload 5, 2) := by decide +kernel
theorem dX0_partAt_7 : decode cX0_partAt 7 = .ok (.bipush 64, 2) := by decide +kernel
theorem dX0_partAt_9 : decode cX0_partAt 9 = .ok (.if_icmp .ge 43, 3) := by decide +kernel
theorem dX0_partAt_12 : decode cX0_partAt 12 = .ok (.lload_n 3, 1) := by decide +kernel
theorem dX0_partAt_13 : decode cX0_partAt 13 = .ok (.lconst 0, 1) := by decide +kernel
theorem dX0_partAt_14 : decode cX0_partAt 14 = .ok (.lcmp, 1) := by decide +kernel
theorem dX0_partAt_15 : decode cX0_partAt 15 = .ok (.ifCond .eq 37, 3) := by decide +kernel
theorem dX0_partAt_18 : decode cX0_partAt 18 = .ok (.lload_n 3, 1) := by decide +kernel
theorem dX0_partAt_19 : decode cX0_partAt 19 = .ok (.lload_n 3, 1) := by decide +kernel
theorem dX0_partAt_20 : decode cX0_partAt 20 = .ok (.lneg, 1) := by decide +kernel
theorem dX0_partAt_21 : decode cX0_partAt 21 = .ok (.land, 1) := by decide +kernel
theorem dX0_partAt_22 : decode cX0_partAt 22 = .ok (.lload_n 3, 1) := by decide +kernel
theorem dX0_partAt_23 : decode cX0_partAt 23 = .ok (.invokestatic 42, 3) := by decide +kernel
theorem dX0_partAt_26 : decode cX0_partAt 26 = .ok (.lstore 6, 2) := by decide +kernel
theorem dX0_partAt_28 : decode cX0_partAt 28 = .ok (.iload 5, 2) := by decide +kernel
theorem dX0_partAt_30 : decode cX0_partAt 30 = .ok (.iload_n 2, 1) := by decide +kernel
theorem dX0_partAt_31 : decode cX0_partAt 31 = .ok (.if_icmp .ne 6, 3) := by decide +kernel
theorem dX0_partAt_34 : decode cX0_partAt 34 = .ok (.lload 6, 2) := by decide +kernel
theorem dX0_partAt_36 : decode cX0_partAt 36 = .ok (.lreturn, 1) := by decide +kernel
theorem dX0_partAt_37 : decode cX0_partAt 37 = .ok (.lload_n 3, 1) := by decide +kernel
theorem dX0_partAt_38 : decode cX0_partAt 38 = .ok (.lload 6, 2) := by decide +kernel
theorem dX0_partAt_40 : decode cX0_partAt 40 = .ok (.ldc2_w 40, 3) := by decide +kernel
theorem dX0_partAt_43 : decode cX0_partAt 43 = .ok (.lxor, 1) := by decide +kernel
theorem dX0_partAt_44 : decode cX0_partAt 44 = .ok (.land, 1) := by decide +kernel
theorem dX0_partAt_45 : decode cX0_partAt 45 = .ok (.lstore_n 3, 1) := by decide +kernel
theorem dX0_partAt_46 : decode cX0_partAt 46 = .ok (.iinc 5 1, 3) := by decide +kernel
theorem dX0_partAt_49 : decode cX0_partAt 49 = .ok (.goto (-44), 3) := by decide +kernel
theorem dX0_partAt_52 : decode cX0_partAt 52 = .ok (.lconst 0, 1) := by decide +kernel
theorem dX0_partAt_53 : decode cX0_partAt 53 = .ok (.lreturn, 1) := by decide +kernel
set_option maxRecDepth 20000 in
theorem ggX0_countHoles_X0_partFrom : GoodIn wsX0_countHoles wsX0_partFrom := goodIn_r _ [6, 7, 8, 5, 9, 10, 11, 12, 13, 14, 15, 16, 17, 18, 19, 20, 21, 22, 23, 24, 25, 26] (by decide +kernel) (by decide +kernel)
set_option maxRecDepth 20000 in
theorem gX0_countHoles_X0_partFrom : GoodIn wsX0_countHoles (va_wsS RX0 42 yX0_partFrom wsX0_partFrom) := goodIn_app (goodIn_of _ (by decide +kernel)) ggX0_countHoles_X0_partFrom
theorem dX0_countHoles_0 : decode cX0_countHoles 0 = .ok (.lload_n 0, 1) := by decide +kernel
theorem dX0_countHoles_1 : decode cX0_countHoles 1 = .ok (.ldc2_w 40, 3) := by decide +kernel
theorem dX0_countHoles_4 : decode cX0_countHoles 4 = .ok (.lxor, 1) := by decide +kernel
theorem dX0_countHoles_5 : decode cX0_countHoles 5 = .ok (.lstore_n 2, 1) := by decide +kernel
theorem dX0_countHoles_6 : decode cX0_countHoles 6 = .ok (.iconst 0, 1) := by decide +kernel
theorem dX0_countHoles_7 : decode cX0_countHoles 7 = .ok (.istore 4, 2) := by decide +kernel
theorem dX0_countHoles_9 : decode cX0_countHoles 9 = .ok (.iconst 0, 1) := by decide +kernel
theorem dX0_countHoles_10 : decode cX0_countHoles 10 = .ok (.istore 5, 2) := by decide +kernel
theorem dX0_countHoles_12 : decode cX0_countHoles 12 = .ok (.iload 5, 2) := by decide +kernel
theorem dX0_countHoles_14 : decode cX0_countHoles 14 = .ok (.bipush 64, 2) := by decide +kernel
theorem dX0_countHoles_16 : decode cX0_countHoles 16 = .ok (.if_icmp .ge 48, 3) := by decide +kernel
theorem dX0_countHoles_19 : decode cX0_countHoles 19 = .ok (.lload_n 2, 1) := by decide +kernel
theorem dX0_countHoles_20 : decode cX0_countHoles 20 = .ok (.lconst 0, 1) := by decide +kernel
theorem dX0_countHoles_21 : decode cX0_countHoles 21 = .ok (.lcmp, 1) := by decide +kernel
theorem dX0_countHoles_22 : decode cX0_countHoles 22 = .ok (.ifCond .eq 42, 3) := by decide +kernel
theorem dX0_countHoles_25 : decode cX0_countHoles 25 = .ok (.lload_n 2, 1) := by decide +kernel
theorem dX0_countHoles_26 : decode cX0_countHoles 26 = .ok (.lload_n 2, 1) := by decide +kernel
theorem dX0_countHoles_27 : decode cX0_countHoles 27 = .ok (.lneg, 1) := by decide +kernel
theorem dX0_countHoles_28 : decode cX0_countHoles 28 = .ok (.land, 1) := by decide +kernel
theorem dX0_countHoles_29 : decode cX0_countHoles 29 = .ok (.lload_n 2, 1) := by decide +kernel
theorem dX0_countHoles_30 : decode cX0_countHoles 30 = .ok (.invokestatic 42, 3) := by decide +kernel
theorem dX0_countHoles_33 : decode cX0_countHoles 33 = .ok (.lstore 6, 2) := by decide +kernel
theorem dX0_countHoles_35 : decode cX0_countHoles 35 = .ok (.lload_n 2, 1) := by decide +kernel
theorem dX0_countHoles_36 : decode cX0_countHoles 36 = .ok (.lload 6, 2) := by decide +kernel
theorem dX0_countHoles_38 : decode cX0_countHoles 38 = .ok (.ldc2_w 40, 3) := by decide +kernel
theorem dX0_countHoles_41 : decode cX0_countHoles 41 = .ok (.lxor, 1) := by decide +kernel
theorem dX0_countHoles_42 : decode cX0_countHoles 42 = .ok (.land, 1) := by decide +kernel
theorem dX0_countHoles_43 : decode cX0_countHoles 43 = .ok (.lstore_n 2, 1) := by decide +kernel
theorem dX0_countHoles_44 : decode cX0_countHoles 44 = .ok (.lload 6, 2) := by decide +kernel
theorem dX0_countHoles_46 : decode cX0_countHoles 46 = .ok (.ldc2_w 46, 3) := by decide +kernel
theorem dX0_countHoles_49 : decode cX0_countHoles 49 = .ok (.land, 1) := by decide +kernel
theorem dX0_countHoles_50 : decode cX0_countHoles 50 = .ok (.lconst 0, 1) := by decide +kernel
theorem dX0_countHoles_51 : decode cX0_countHoles 51 = .ok (.lcmp, 1) := by decide +kernel
theorem dX0_countHoles_52 : decode cX0_countHoles 52 = .ok (.ifCond .ne 6, 3) := by decide +kernel
theorem dX0_countHoles_55 : decode cX0_countHoles 55 = .ok (.iinc 4 1, 3) := by decide +kernel
theorem dX0_countHoles_58 : decode cX0_countHoles 58 = .ok (.iinc 5 1, 3) := by decide +kernel
theorem dX0_countHoles_61 : decode cX0_countHoles 61 = .ok (.goto (-49), 3) := by decide +kernel
theorem dX0_countHoles_64 : decode cX0_countHoles 64 = .ok (.iload 4, 2) := by decide +kernel
theorem dX0_countHoles_66 : decode cX0_countHoles 66 = .ok (.ireturn, 1) := by decide +kernel
theorem dX0_cellAt_0 : decode cX0_cellAt 0 = .ok (.lload_n 0, 1) := by decide +kernel
theorem dX0_cellAt_1 : decode cX0_cellAt 1 = .ok (.lstore_n 3, 1) := by decide +kernel
theorem dX0_cellAt_2 : decode cX0_cellAt 2 = .ok (.iconst 0, 1) := by decide +kernel
theorem dX0_cellAt_3 : decode cX0_cellAt 3 = .ok (.istore 5, 2) := by decide +kernel
theorem dX0_cellAt_5 : decode cX0_cellAt 5 = .ok (.iload 5, 2) := by decide +kernel
theorem dX0_cellAt_7 : decode cX0_cellAt 7 = .ok (.bipush 64, 2) := by decide +kernel
theorem dX0_cellAt_9 : decode cX0_cellAt 9 = .ok (.if_icmp .ge 35, 3) := by decide +kernel
theorem dX0_cellAt_12 : decode cX0_cellAt 12 = .ok (.lload_n 3, 1) := by decide +kernel
theorem dX0_cellAt_13 : decode cX0_cellAt 13 = .ok (.lconst 0, 1) := by decide +kernel
theorem dX0_cellAt_14 : decode cX0_cellAt 14 = .ok (.lcmp, 1) := by decide +kernel
theorem dX0_cellAt_15 : decode cX0_cellAt 15 = .ok (.ifCond .eq 29, 3) := by decide +kernel
theorem dX0_cellAt_18 : decode cX0_cellAt 18 = .ok (.lload_n 3, 1) := by decide +kernel
theorem dX0_cellAt_19 : decode cX0_cellAt 19 = .ok (.lload_n 3, 1) := by decide +kernel
theorem dX0_cellAt_20 : decode cX0_cellAt 20 = .ok (.lneg, 1) := by decide +kernel
theorem dX0_cellAt_21 : decode cX0_cellAt 21 = .ok (.land, 1) := by decide +kernel
theorem dX0_cellAt_22 : decode cX0_cellAt 22 = .ok (.lstore 6, 2) := by decide +kernel
theorem dX0_cellAt_24 : decode cX0_cellAt 24 = .ok (.iload 5, 2) := by decide +kernel
theorem dX0_cellAt_26 : decode cX0_cellAt 26 = .ok (.iload_n 2, 1) := by decide +kernel
theorem dX0_cellAt_27 : decode cX0_cellAt 27 = .ok (.if_icmp .ne 6, 3) := by decide +kernel
theorem dX0_cellAt_30 : decode cX0_cellAt 30 = .ok (.lload 6, 2) := by decide +kernel
theorem dX0_cellAt_32 : decode cX0_cellAt 32 = .ok (.lreturn, 1) := by decide +kernel
theorem dX0_cellAt_33 : decode cX0_cellAt 33 = .ok (.lload_n 3, 1) := by decide +kernel
theorem dX0_cellAt_34 : decode cX0_cellAt 34 = .ok (.lload 6, 2) := by decide +kernel
theorem dX0_cellAt_36 : decode cX0_cellAt 36 = .ok (.lxor, 1) := by decide +kernel
theorem dX0_cellAt_37 : decode cX0_cellAt 37 = .ok (.lstore_n 3, 1) := by decide +kernel
theorem dX0_cellAt_38 : decode cX0_cellAt 38 = .ok (.iinc 5 1, 3) := by decide +kernel
theorem dX0_cellAt_41 : decode cX0_cellAt 41 = .ok (.goto (-36), 3) := by decide +kernel
theorem dX0_cellAt_44 : decode cX0_cellAt 44 = .ok (.lconst 0, 1) := by decide +kernel
theorem dX0_cellAt_45 : decode cX0_cellAt 45 = .ok (.lreturn, 1) := by decide +kernel
set_option maxRecDepth 20000 in
theorem ggX0_straightEdges_X0_acrossSides : GoodIn wsX0_straightEdges wsX0_acrossSides := goodIn_r _ [5, 6, 7, 8, 9, 10, 11] (by decide +kernel) (by decide +kernel)
set_option maxRecDepth 20000 in
theorem gX0_straightEdges_X0_acrossSides : GoodIn wsX0_straightEdges (va_wsS RX0 34 yX0_acrossSides wsX0_acrossSides) := goodIn_app (goodIn_of _ (by decide +kernel)) ggX0_straightEdges_X0_acrossSides
set_option maxRecDepth 20000 in
theorem ggX0_straightEdges_J13_bitCount_95d88 : GoodIn wsX0_straightEdges wsJ13_bitCount_95d88 := goodIn_r _ [15, 16, 17, 18] (by decide +kernel) (by decide +kernel)
set_option maxRecDepth 20000 in
theorem gX0_straightEdges_J13_bitCount_95d88 : GoodIn wsX0_straightEdges (va_wsS RX0 48 yJ13_bitCount_95d88 wsJ13_bitCount_95d88) := goodIn_app (goodIn_of _ (by decide +kernel)) ggX0_straightEdges_J13_bitCount_95d88
theorem dX0_straightEdges_0 : decode cX0_straightEdges 0 = .ok (.lload_n 0, 1) := by decide +kernel
theorem dX0_straightEdges_1 : decode cX0_straightEdges 1 = .ok (.lload_n 0, 1) := by decide +kernel
theorem dX0_straightEdges_2 : decode cX0_straightEdges 2 = .ok (.invokestatic 34, 3) := by decide +kernel
theorem dX0_straightEdges_5 : decode cX0_straightEdges 5 = .ok (.ldc2_w 40, 3) := by decide +kernel
theorem dX0_straightEdges_8 : decode cX0_straightEdges 8 = .ok (.lxor, 1) := by decide +kernel
theorem dX0_straightEdges_9 : decode cX0_straightEdges 9 = .ok (.land, 1) := by decide +kernel
theorem dX0_straightEdges_10 : decode cX0_straightEdges 10 = .ok (.invokestatic 48, 3) := by decide +kernel
theorem dX0_straightEdges_13 : decode cX0_straightEdges 13 = .ok (.ireturn, 1) := by decide +kernel
set_option maxRecDepth 20000 in
theorem ggX0_slantingEdges_X0_nextInSquare : GoodIn wsX0_slantingEdges wsX0_nextInSquare := goodIn_r _ [4, 5, 6] (by decide +kernel) (by decide +kernel)
set_option maxRecDepth 20000 in
theorem gX0_slantingEdges_X0_nextInSquare : GoodIn wsX0_slantingEdges (va_wsS RX0 27 yX0_nextInSquare wsX0_nextInSquare) := goodIn_app (goodIn_of _ (by decide +kernel)) ggX0_slantingEdges_X0_nextInSquare
set_option maxRecDepth 20000 in
theorem ggX0_slantingEdges_J13_bitCount_95d88 : GoodIn wsX0_slantingEdges wsJ13_bitCount_95d88 := goodIn_r _ [10, 11, 12, 13] (by decide +kernel) (by decide +kernel)
set_option maxRecDepth 20000 in
theorem gX0_slantingEdges_J13_bitCount_95d88 : GoodIn wsX0_slantingEdges (va_wsS RX0 48 yJ13_bitCount_95d88 wsJ13_bitCount_95d88) := goodIn_app (goodIn_of _ (by decide +kernel)) ggX0_slantingEdges_J13_bitCount_95d88
theorem dX0_slantingEdges_0 : decode cX0_slantingEdges 0 = .ok (.lload_n 0, 1) := by decide +kernel
theorem dX0_slantingEdges_1 : decode cX0_slantingEdges 1 = .ok (.lload_n 0, 1) := by decide +kernel
theorem dX0_slantingEdges_2 : decode cX0_slantingEdges 2 = .ok (.invokestatic 27, 3) := by decide +kernel
theorem dX0_slantingEdges_5 : decode cX0_slantingEdges 5 = .ok (.lxor, 1) := by decide +kernel
theorem dX0_slantingEdges_6 : decode cX0_slantingEdges 6 = .ok (.invokestatic 48, 3) := by decide +kernel
theorem dX0_slantingEdges_9 : decode cX0_slantingEdges 9 = .ok (.ireturn, 1) := by decide +kernel
theorem dX1_init_0 : decode cX1_init 0 = .ok (.aload_n 0, 1) := by decide +kernel
theorem dX1_init_1 : decode cX1_init 1 = .ok (.invokespecial 3, 3) := by decide +kernel
theorem dX1_init_4 : decode cX1_init 4 = .ok (.aload_n 0, 1) := by decide +kernel
theorem dX1_init_5 : decode cX1_init 5 = .ok (.sipush 384, 3) := by decide +kernel
theorem dX1_init_8 : decode cX1_init 8 = .ok (.newarray .long, 2) := by decide +kernel
theorem dX1_init_10 : decode cX1_init 10 = .ok (.putfield 11, 3) := by decide +kernel
theorem dX1_init_13 : decode cX1_init 13 = .ok (.aload_n 0, 1) := by decide +kernel
theorem dX1_init_14 : decode cX1_init 14 = .ok (.iconst 4, 1) := by decide +kernel
theorem dX1_init_15 : decode cX1_init 15 = .ok (.newarray .int, 2) := by decide +kernel
theorem dX1_init_17 : decode cX1_init 17 = .ok (.putfield 15, 3) := by decide +kernel
theorem dX1_init_20 : decode cX1_init 20 = .ok (.aload_n 0, 1) := by decide +kernel
theorem dX1_init_21 : decode cX1_init 21 = .ok (.bipush 8, 2) := by decide +kernel
theorem dX1_init_23 : decode cX1_init 23 = .ok (.newarray .long, 2) := by decide +kernel
theorem dX1_init_25 : decode cX1_init 25 = .ok (.putfield 19, 3) := by decide +kernel
theorem dX1_init_28 : decode cX1_init 28 = .ok (.aload_n 0, 1) := by decide +kernel
theorem dX1_init_29 : decode cX1_init 29 = .ok (.iconst 4, 1) := by decide +kernel
theorem dX1_init_30 : decode cX1_init 30 = .ok (.newarray .long, 2) := by decide +kernel
theorem dX1_init_32 : decode cX1_init 32 = .ok (.putfield 22, 3) := by decide +kernel
theorem dX1_init_35 : decode cX1_init 35 = .ok (.aload_n 0, 1) := by decide +kernel
theorem dX1_init_36 : decode cX1_init 36 = .ok (.iconst 4, 1) := by decide +kernel
theorem dX1_init_37 : decode cX1_init 37 = .ok (.newarray .long, 2) := by decide +kernel
theorem dX1_init_39 : decode cX1_init 39 = .ok (.putfield 25, 3) := by decide +kernel
theorem dX1_init_42 : decode cX1_init 42 = .ok (.aload_n 0, 1) := by decide +kernel
theorem dX1_init_43 : decode cX1_init 43 = .ok (.iconst 0, 1) := by decide +kernel
theorem dX1_init_44 : decode cX1_init 44 = .ok (.putfield 28, 3) := by decide +kernel
theorem dX1_init_47 : decode cX1_init 47 = .ok (.aload_n 0, 1) := by decide +kernel
theorem dX1_init_48 : decode cX1_init 48 = .ok (.iconst 0, 1) := by decide +kernel
theorem dX1_init_49 : decode cX1_init 49 = .ok (.putfield 32, 3) := by decide +kernel
theorem dX1_init_52 : decode cX1_init 52 = .ok (.return_, 1) := by decide +kernel
set_option maxRecDepth 20000 in
theorem ggX1_findSpots_X3_turned : GoodIn wsX1_findSpots wsX3_turned := goodIn_r _ [8, 9, 10, 7, 11, 12, 13, 14, 15, 16, 17, 18, 19, 20, 21, 22, 23, 24, 25, 26, 27] (by decide +kernel) (by decide +kernel)
set_option maxRecDepth 20000 in
theorem gX1_findSpots_X3_turned : GoodIn wsX1_findSpots (va_wsS RX1 43 yX3_turned wsX3_turned) := goodIn_app (goodIn_of _ (by decide +kernel)) ggX1_findSpots_X3_turned
set_option maxRecDepth 20000 in
theorem ggX1_findSpots_X3_inCorner : GoodIn wsX1_findSpots wsX3_inCorner := goodIn_r _ [30, 31, 32] (by decide +kernel) (by decide +kernel)
set_option maxRecDepth 20000 in
theorem gX1_findSpots_X3_inCorner : GoodIn wsX1_findSpots (va_wsS RX1 49 yX3_inCorner wsX3_inCorner) := goodIn_app (goodIn_of _ (by decide +kernel)) ggX1_findSpots_X3_inCorner
set_option maxRecDepth 20000 in
theorem ggX1_findSpots_X7_isAmong : GoodIn wsX1_findSpots wsX7_isAmong := goodIn_r _ [35] (by decide +kernel) (by decide +kernel)
set_option maxRecDepth 20000 in
theorem gX1_findSpots_X7_isAmong_n53 : GoodIn wsX1_findSpots (wsX7_isAmong) := ggX1_findSpots_X7_isAmong
set_option maxRecDepth 20000 in
theorem ggX1_findSpots_X1_findShifts : GoodIn wsX1_findSpots wsX1_findShifts := goodIn_r _ [40, 41, 42, 7, 43, 44, 45, 46, 47, 32, 31, 48, 49, 50, 51, 52, 53, 39, 54, 55, 1, 56, 57, 58, 59, 60, 61, 62, 63] (by decide +kernel) (by decide +kernel)
set_option maxRecDepth 20000 in
theorem gX1_findSpots_X1_findShifts : GoodIn wsX1_findSpots (wsV RX1 57 RX1 yX1_findShifts wsX1_findShifts) := goodIn_app (goodIn_of _ (by decide +kernel)) ggX1_findSpots_X1_findShifts
theorem dX1_findSpots_0 : decode cX1_findSpots 0 = .ok (.aload_n 0, 1) := by decide +kernel
theorem dX1_findSpots_1 : decode cX1_findSpots 1 = .ok (.getfield 15, 3) := by decide +kernel
theorem dX1_findSpots_4 : decode cX1_findSpots 4 = .ok (.iload_n 2, 1) := by decide +kernel
theorem dX1_findSpots_5 : decode cX1_findSpots 5 = .ok (.iconst 0, 1) := by decide +kernel
theorem dX1_findSpots_6 : decode cX1_findSpots 6 = .ok (.iastore, 1) := by decide +kernel
theorem dX1_findSpots_7 : decode cX1_findSpots 7 = .ok (.aload_n 1, 1) := by decide +kernel
theorem dX1_findSpots_8 : decode cX1_findSpots 8 = .ok (.getfield 35, 3) := by decide +kernel
theorem dX1_findSpots_11 : decode cX1_findSpots 11 = .ok (.iload_n 2, 1) := by decide +kernel
theorem dX1_findSpots_12 : decode cX1_findSpots 12 = .ok (.baload, 1) := by decide +kernel
theorem dX1_findSpots_13 : decode cX1_findSpots 13 = .ok (.ifCond .eq 8, 3) := by decide +kernel
theorem dX1_findSpots_16 : decode cX1_findSpots 16 = .ok (.bipush 8, 2) := by decide +kernel
theorem dX1_findSpots_18 : decode cX1_findSpots 18 = .ok (.goto 4, 3) := by decide +kernel
theorem dX1_findSpots_21 : decode cX1_findSpots 21 = .ok (.iconst 4, 1) := by decide +kernel
theorem dX1_findSpots_22 : decode cX1_findSpots 22 = .ok (.istore 5, 2) := by decide +kernel
theorem dX1_findSpots_24 : decode cX1_findSpots 24 = .ok (.iconst 0, 1) := by decide +kernel
theorem dX1_findSpots_25 : decode cX1_findSpots 25 = .ok (.istore 6, 2) := by decide +kernel
theorem dX1_findSpots_27 : decode cX1_findSpots 27 = .ok (.iload 6, 2) := by decide +kernel
theorem dX1_findSpots_29 : decode cX1_findSpots 29 = .ok (.iload 5, 2) := by decide +kernel
theorem dX1_findSpots_31 : decode cX1_findSpots 31 = .ok (.if_icmp .ge 56, 3) := by decide +kernel
theorem dX1_findSpots_34 : decode cX1_findSpots 34 = .ok (.aload_n 1, 1) := by decide +kernel
theorem dX1_findSpots_35 : decode cX1_findSpots 35 = .ok (.getfield 41, 3) := by decide +kernel
theorem dX1_findSpots_38 : decode cX1_findSpots 38 = .ok (.iload_n 2, 1) := by decide +kernel
theorem dX1_findSpots_39 : decode cX1_findSpots 39 = .ok (.laload, 1) := by decide +kernel
theorem dX1_findSpots_40 : decode cX1_findSpots 40 = .ok (.iload 6, 2) := by decide +kernel
theorem dX1_findSpots_42 : decode cX1_findSpots 42 = .ok (.invokestatic 43, 3) := by decide +kernel
theorem dX1_findSpots_45 : decode cX1_findSpots 45 = .ok (.invokestatic 49, 3) := by decide +kernel
theorem dX1_findSpots_48 : decode cX1_findSpots 48 = .ok (.lstore 7, 2) := by decide +kernel
theorem dX1_findSpots_50 : decode cX1_findSpots 50 = .ok (.aload_n 0, 1) := by decide +kernel
theorem dX1_findSpots_51 : decode cX1_findSpots 51 = .ok (.getfield 19, 3) := by decide +kernel
theorem dX1_findSpots_54 : decode cX1_findSpots 54 = .ok (.iload 6, 2) := by decide +kernel
theorem dX1_findSpots_56 : decode cX1_findSpots 56 = .ok (.lload 7, 2) := by decide +kernel
theorem dX1_findSpots_58 : decode cX1_findSpots 58 = .ok (.lastore, 1) := by decide +kernel
theorem dX1_findSpots_59 : decode cX1_findSpots 59 = .ok (.aload_n 0, 1) := by decide +kernel
theorem dX1_findSpots_60 : decode cX1_findSpots 60 = .ok (.getfield 19, 3) := by decide +kernel
theorem dX1_findSpots_63 : decode cX1_findSpots 63 = .ok (.iload 6, 2) := by decide +kernel
theorem dX1_findSpots_65 : decode cX1_findSpots 65 = .ok (.lload 7, 2) := by decide +kernel
theorem dX1_findSpots_67 : decode cX1_findSpots 67 = .ok (.invokestatic 53, 3) := by decide +kernel
theorem dX1_findSpots_70 : decode cX1_findSpots 70 = .ok (.ifCond .ne 11, 3) := by decide +kernel
theorem dX1_findSpots_73 : decode cX1_findSpots 73 = .ok (.aload_n 0, 1) := by decide +kernel
theorem dX1_findSpots_74 : decode cX1_findSpots 74 = .ok (.iload_n 2, 1) := by decide +kernel
theorem dX1_findSpots_75 : decode cX1_findSpots 75 = .ok (.lload 7, 2) := by decide +kernel
theorem dX1_findSpots_77 : decode cX1_findSpots 77 = .ok (.lload_n 3, 1) := by decide +kernel
theorem dX1_findSpots_78 : decode cX1_findSpots 78 = .ok (.invokevirtual 57, 3) := by decide +kernel
theorem dX1_findSpots_81 : decode cX1_findSpots 81 = .ok (.iinc 6 1, 3) := by decide +kernel
theorem dX1_findSpots_84 : decode cX1_findSpots 84 = .ok (.goto (-57), 3) := by decide +kernel
theorem dX1_findSpots_87 : decode cX1_findSpots 87 = .ok (.aload_n 0, 1) := by decide +kernel
theorem dX1_findSpots_88 : decode cX1_findSpots 88 = .ok (.getfield 15, 3) := by decide +kernel
theorem dX1_findSpots_91 : decode cX1_findSpots 91 = .ok (.iload_n 2, 1) := by decide +kernel
theorem dX1_findSpots_92 : decode cX1_findSpots 92 = .ok (.iaload, 1) := by decide +kernel
theorem dX1_findSpots_93 : decode cX1_findSpots 93 = .ok (.ireturn, 1) := by decide +kernel
set_option maxRecDepth 20000 in
theorem ggX1_findShifts_X3_staysOnBoard : GoodIn wsX1_findShifts wsX3_staysOnBoard := goodIn_r _ [4, 5, 6, 7, 8, 9, 10] (by decide +kernel) (by decide +kernel)
set_option maxRecDepth 20000 in
theorem gX1_findShifts_X3_staysOnBoard : GoodIn wsX1_findShifts (va_wsS RX1 61 yX3_staysOnBoard wsX3_staysOnBoard) := goodIn_app (goodIn_of _ (by decide +kernel)) ggX1_findShifts_X3_staysOnBoard
set_option maxRecDepth 20000 in
theorem ggX1_findShifts_X3_shifted : GoodIn wsX1_findShifts wsX3_shifted := goodIn_r _ [13] (by decide +kernel) (by decide +kernel)
set_option maxRecDepth 20000 in
theorem gX1_findShifts_X3_shifted : GoodIn wsX1_findShifts (va_wsS RX1 65 yX3_shifted wsX3_shifted) := goodIn_app (goodIn_of _ (by decide +kernel)) ggX1_findShifts_X3_shifted
set_option maxRecDepth 20000 in
theorem ggX1_findShifts_X1_addIfWithin : GoodIn wsX1_findShifts wsX1_addIfWithin := goodIn_r _ [18, 19, 20, 21, 22, 23, 24, 25, 26, 27, 28] (by decide +kernel) (by decide +kernel)
set_option maxRecDepth 20000 in
theorem gX1_findShifts_X1_addIfWithin : GoodIn wsX1_findShifts (wsV RX1 69 RX1 yX1_addIfWithin wsX1_addIfWithin) := goodIn_app (goodIn_of _ (by decide +kernel)) ggX1_findShifts_X1_addIfWithin
theorem dX1_findShifts_0 : decode cX1_findShifts 0 = .ok (.iconst 0, 1) := by decide +kernel
theorem dX1_findShifts_1 : decode cX1_findShifts 1 = .ok (.istore 6, 2) := by decide +kernel
theorem dX1_findShifts_3 : decode cX1_findShifts 3 = .ok (.iload 6, 2) := by decide +kernel
theorem dX1_findShifts_5 : decode cX1_findShifts 5 = .ok (.iconst 4, 1) := by decide +kernel
theorem dX1_findShifts_6 : decode cX1_findShifts 6 = .ok (.if_icmp .ge 50, 3) := by decide +kernel
theorem dX1_findShifts_9 : decode cX1_findShifts 9 = .ok (.iconst 0, 1) := by decide +kernel
theorem dX1_findShifts_10 : decode cX1_findShifts 10 = .ok (.istore 7, 2) := by decide +kernel
theorem dX1_findShifts_12 : decode cX1_findShifts 12 = .ok (.iload 7, 2) := by decide +kernel
theorem dX1_findShifts_14 : decode cX1_findShifts 14 = .ok (.iconst 4, 1) := by decide +kernel
theorem dX1_findShifts_15 : decode cX1_findShifts 15 = .ok (.if_icmp .ge 35, 3) := by decide +kernel
theorem dX1_findShifts_18 : decode cX1_findShifts 18 = .ok (.lload_n 2, 1) := by decide +kernel
theorem dX1_findShifts_19 : decode cX1_findShifts 19 = .ok (.iload 7, 2) := by decide +kernel
theorem dX1_findShifts_21 : decode cX1_findShifts 21 = .ok (.iload 6, 2) := by decide +kernel
theorem dX1_findShifts_23 : decode cX1_findShifts 23 = .ok (.invokestatic 61, 3) := by decide +kernel
theorem dX1_findShifts_26 : decode cX1_findShifts 26 = .ok (.ifCond .eq 18, 3) := by decide +kernel
theorem dX1_findShifts_29 : decode cX1_findShifts 29 = .ok (.aload_n 0, 1) := by decide +kernel
theorem dX1_findShifts_30 : decode cX1_findShifts 30 = .ok (.iload_n 1, 1) := by decide +kernel
theorem dX1_findShifts_31 : decode cX1_findShifts 31 = .ok (.lload_n 2, 1) := by decide +kernel
theorem dX1_findShifts_32 : decode cX1_findShifts 32 = .ok (.iload 7, 2) := by decide +kernel
theorem dX1_findShifts_34 : decode cX1_findShifts 34 = .ok (.iload 6, 2) := by decide +kernel
theorem dX1_findShifts_36 : decode cX1_findShifts 36 = .ok (.invokestatic 65, 3) := by decide +kernel
theorem dX1_findShifts_39 : decode cX1_findShifts 39 = .ok (.lload 4, 2) := by decide +kernel
theorem dX1_findShifts_41 : decode cX1_findShifts 41 = .ok (.invokevirtual 69, 3) := by decide +kernel
theorem dX1_findShifts_44 : decode cX1_findShifts 44 = .ok (.iinc 7 1, 3) := by decide +kernel
theorem dX1_findShifts_47 : decode cX1_findShifts 47 = .ok (.goto (-35), 3) := by decide +kernel
theorem dX1_findShifts_50 : decode cX1_findShifts 50 = .ok (.iinc 6 1, 3) := by decide +kernel
theorem dX1_findShifts_53 : decode cX1_findShifts 53 = .ok (.goto (-50), 3) := by decide +kernel
theorem dX1_findShifts_56 : decode cX1_findShifts 56 = .ok (.return_, 1) := by decide +kernel
theorem dX1_addIfWithin_0 : decode cX1_addIfWithin 0 = .ok (.lload_n 2, 1) := by decide +kernel
theorem dX1_addIfWithin_1 : decode cX1_addIfWithin 1 = .ok (.lload 4, 2) := by decide +kernel
theorem dX1_addIfWithin_3 : decode cX1_addIfWithin 3 = .ok (.ldc2_w 72, 3) := by decide +kernel
theorem dX1_addIfWithin_6 : decode cX1_addIfWithin 6 = .ok (.lxor, 1) := by decide +kernel
theorem dX1_addIfWithin_7 : decode cX1_addIfWithin 7 = .ok (.land, 1) := by decide +kernel
theorem dX1_addIfWithin_8 : decode cX1_addIfWithin 8 = .ok (.lconst 0, 1) := by decide +kernel
theorem dX1_addIfWithin_9 : decode cX1_addIfWithin 9 = .ok (.lcmp, 1) := by decide +kernel
theorem dX1_addIfWithin_10 : decode cX1_addIfWithin 10 = .ok (.ifCond .ne 41, 3) := by decide +kernel
theorem dX1_addIfWithin_13 : decode cX1_addIfWithin 13 = .ok (.aload_n 0, 1) := by decide +kernel
theorem dX1_addIfWithin_14 : decode cX1_addIfWithin 14 = .ok (.getfield 15, 3) := by decide +kernel
theorem dX1_addIfWithin_17 : decode cX1_addIfWithin 17 = .ok (.iload_n 1, 1) := by decide +kernel
theorem dX1_addIfWithin_18 : decode cX1_addIfWithin 18 = .ok (.iaload, 1) := by decide +kernel
theorem dX1_addIfWithin_19 : decode cX1_addIfWithin 19 = .ok (.bipush 96, 2) := by decide +kernel
theorem dX1_addIfWithin_21 : decode cX1_addIfWithin 21 = .ok (.if_icmp .ge 30, 3) := by decide +kernel
theorem dX1_addIfWithin_24 : decode cX1_addIfWithin 24 = .ok (.aload_n 0, 1) := by decide +kernel
theorem dX1_addIfWithin_25 : decode cX1_addIfWithin 25 = .ok (.getfield 11, 3) := by decide +kernel
theorem dX1_addIfWithin_28 : decode cX1_addIfWithin 28 = .ok (.iload_n 1, 1) := by decide +kernel
theorem dX1_addIfWithin_29 : decode cX1_addIfWithin 29 = .ok (.bipush 96, 2) := by decide +kernel
theorem dX1_addIfWithin_31 : decode cX1_addIfWithin 31 = .ok (.imul, 1) := by decide +kernel
theorem dX1_addIfWithin_32 : decode cX1_addIfWithin 32 = .ok (.aload_n 0, 1) := by decide +kernel
theorem dX1_addIfWithin_33 : decode cX1_addIfWithin 33 = .ok (.getfield 15, 3) := by decide +kernel
theorem dX1_addIfWithin_36 : decode cX1_addIfWithin 36 = .ok (.iload_n 1, 1) := by decide +kernel
theorem dX1_addIfWithin_37 : decode cX1_addIfWithin 37 = .ok (.iaload, 1) := by decide +kernel
theorem dX1_addIfWithin_38 : decode cX1_addIfWithin 38 = .ok (.iadd, 1) := by decide +kernel
theorem dX1_addIfWithin_39 : decode cX1_addIfWithin 39 = .ok (.lload_n 2, 1) := by decide +kernel
theorem dX1_addIfWithin_40 : decode cX1_addIfWithin 40 = .ok (.lastore, 1) := by decide +kernel
theorem dX1_addIfWithin_41 : decode cX1_addIfWithin 41 = .ok (.aload_n 0, 1) := by decide +kernel
theorem dX1_addIfWithin_42 : decode cX1_addIfWithin 42 = .ok (.getfield 15, 3) := by decide +kernel
theorem dX1_addIfWithin_45 : decode cX1_addIfWithin 45 = .ok (.iload_n 1, 1) := by decide +kernel
theorem dX1_addIfWithin_46 : decode cX1_addIfWithin 46 = .ok (.dup2, 1) := by decide +kernel
theorem dX1_addIfWithin_47 : decode cX1_addIfWithin 47 = .ok (.iaload, 1) := by decide +kernel
theorem dX1_addIfWithin_48 : decode cX1_addIfWithin 48 = .ok (.iconst 1, 1) := by decide +kernel
theorem dX1_addIfWithin_49 : decode cX1_addIfWithin 49 = .ok (.iadd, 1) := by decide +kernel
theorem dX1_addIfWithin_50 : decode cX1_addIfWithin 50 = .ok (.iastore, 1) := by decide +kernel
theorem dX1_addIfWithin_51 : decode cX1_addIfWithin 51 = .ok (.return_, 1) := by decide +kernel
set_option maxRecDepth 20000 in
theorem ggX1_leastSpot_X7_isLess : GoodIn wsX1_leastSpot wsX7_isLess := goodIn_r _ [5, 6] (by decide +kernel) (by decide +kernel)
set_option maxRecDepth 20000 in
theorem gX1_leastSpot_X7_isLess_n74 : GoodIn wsX1_leastSpot (wsX7_isLess) := ggX1_leastSpot_X7_isLess
theorem dX1_leastSpot_0 : decode cX1_leastSpot 0 = .ok (.lconst 0, 1) := by decide +kernel
theorem dX1_leastSpot_1 : decode cX1_leastSpot 1 = .ok (.lstore_n 2, 1) := by decide +kernel
theorem dX1_leastSpot_2 : decode cX1_leastSpot 2 = .ok (.iconst 0, 1) := by decide +kernel
theorem dX1_leastSpot_3 : decode cX1_leastSpot 3 = .ok (.istore 4, 2) := by decide +kernel
theorem dX1_leastSpot_5 : decode cX1_leastSpot 5 = .ok (.iload 4, 2) := by decide +kernel
theorem dX1_leastSpot_7 : decode cX1_leastSpot 7 = .ok (.aload_n 0, 1) := by decide +kernel
theorem dX1_leastSpot_8 : decode cX1_leastSpot 8 = .ok (.getfield 15, 3) := by decide +kernel
theorem dX1_leastSpot_11 : decode cX1_leastSpot 11 = .ok (.iload_n 1, 1) := by decide +kernel
theorem dX1_leastSpot_12 : decode cX1_leastSpot 12 = .ok (.iaload, 1) := by decide +kernel
theorem dX1_leastSpot_13 : decode cX1_leastSpot 13 = .ok (.if_icmp .ge 40, 3) := by decide +kernel
theorem dX1_leastSpot_16 : decode cX1_leastSpot 16 = .ok (.aload_n 0, 1) := by decide +kernel
theorem dX1_leastSpot_17 : decode cX1_leastSpot 17 = .ok (.getfield 11, 3) := by decide +kernel
theorem dX1_leastSpot_20 : decode cX1_leastSpot 20 = .ok (.iload_n 1, 1) := by decide +kernel
theorem dX1_leastSpot_21 : decode cX1_leastSpot 21 = .ok (.bipush 96, 2) := by decide +kernel
theorem dX1_leastSpot_23 : decode cX1_leastSpot 23 = .ok (.imul, 1) := by decide +kernel
theorem dX1_leastSpot_24 : decode cX1_leastSpot 24 = .ok (.iload 4, 2) := by decide +kernel
theorem dX1_leastSpot_26 : decode cX1_leastSpot 26 = .ok (.iadd, 1) := by decide +kernel
theorem dX1_leastSpot_27 : decode cX1_leastSpot 27 = .ok (.laload, 1) := by decide +kernel
theorem dX1_leastSpot_28 : decode cX1_leastSpot 28 = .ok (.lstore 5, 2) := by decide +kernel
theorem dX1_leastSpot_30 : decode cX1_leastSpot 30 = .ok (.iload 4, 2) := by decide +kernel
theorem dX1_leastSpot_32 : decode cX1_leastSpot 32 = .ok (.ifCond .eq 12, 3) := by decide +kernel
theorem dX1_leastSpot_35 : decode cX1_leastSpot 35 = .ok (.lload 5, 2) := by decide +kernel
theorem dX1_leastSpot_37 : decode cX1_leastSpot 37 = .ok (.lload_n 2, 1) := by decide +kernel
theorem dX1_leastSpot_38 : decode cX1_leastSpot 38 = .ok (.invokestatic 74, 3) := by decide +kernel
theorem dX1_leastSpot_41 : decode cX1_leastSpot 41 = .ok (.ifCond .eq 6, 3) := by decide +kernel
theorem dX1_leastSpot_44 : decode cX1_leastSpot 44 = .ok (.lload 5, 2) := by decide +kernel
theorem dX1_leastSpot_46 : decode cX1_leastSpot 46 = .ok (.lstore_n 2, 1) := by decide +kernel
theorem dX1_leastSpot_47 : decode cX1_leastSpot 47 = .ok (.iinc 4 1, 3) := by decide +kernel
theorem dX1_leastSpot_50 : decode cX1_leastSpot 50 = .ok (.goto (-45), 3) := by decide +kernel
theorem dX1_leastSpot_53 : decode cX1_leastSpot 53 = .ok (.lload_n 2, 1) := by decide +kernel
theorem dX1_leastSpot_54 : decode cX1_leastSpot 54 = .ok (.lreturn, 1) := by decide +kernel
set_option maxRecDepth 20000 in
theorem ggX1_countWays_J13_bitCount_95d88 : GoodIn wsX1_countWays wsJ13_bitCount_95d88 := goodIn_r _ [8, 9, 10, 11] (by decide +kernel) (by decide +kernel)
set_option maxRecDepth 20000 in
theorem gX1_countWays_J13_bitCount_95d88 : GoodIn wsX1_countWays (va_wsS RX1 81 yJ13_bitCount_95d88 wsJ13_bitCount_95d88) := goodIn_app (goodIn_of _ (by decide +kernel)) ggX1_countWays_J13_bitCount_95d88
set_option maxRecDepth 20000 in
theorem ggX1_countWays_X1_findSpots : GoodIn wsX1_countWays wsX1_findSpots := goodIn_r _ [16, 17, 18, 4, 19, 20, 21, 22, 23, 24, 25, 26, 27, 28, 29, 30, 31, 32, 33, 34, 35, 36, 37, 38, 39, 40, 41, 42, 43, 44, 45, 46, 47, 48, 49, 50, 51, 52, 53, 15, 54, 55, 56, 57, 58, 59, 60, 61, 62, 63, 64, 65, 66, 67, 68, 69, 70, 96, 97, 98, 99, 100, 101, 102, 92, 93, 94, 95] (by decide +kernel) (by decide +kernel)
set_option maxRecDepth 20000 in
theorem gX1_countWays_X1_findSpots : GoodIn wsX1_countWays (wsV RX1 87 RX1 yX1_findSpots wsX1_findSpots) := goodIn_app (goodIn_of _ (by decide +kernel)) ggX1_countWays_X1_findSpots
set_option maxRecDepth 20000 in
theorem ggX1_countWays_X1_fill : GoodIn wsX1_countWays wsX1_fill := goodIn_r _ [74, 2, 75, 76, 77, 15, 78, 3, 79, 80, 81, 82, 83, 84, 85, 49, 86, 87, 88, 89, 90, 91, 17, 70, 69, 71, 72, 73, 96, 97, 98, 99, 100, 101, 102] (by decide +kernel) (by decide +kernel)
set_option maxRecDepth 20000 in
theorem gX1_countWays_X1_fill : GoodIn wsX1_countWays (wsV RX1 91 RX1 yX1_fill wsX1_fill) := goodIn_app (goodIn_of _ (by decide +kernel)) ggX1_countWays_X1_fill
theorem dX1_countWays_0 : decode cX1_countWays 0 = .ok (.aload_n 0, 1) := by decide +kernel
theorem dX1_countWays_1 : decode cX1_countWays 1 = .ok (.aload_n 1, 1) := by decide +kernel
theorem dX1_countWays_2 : decode cX1_countWays 2 = .ok (.getfield 78, 3) := by decide +kernel
theorem dX1_countWays_5 : decode cX1_countWays 5 = .ok (.putfield 28, 3) := by decide +kernel
theorem dX1_countWays_8 : decode cX1_countWays 8 = .ok (.aload_n 0, 1) := by decide +kernel
theorem dX1_countWays_9 : decode cX1_countWays 9 = .ok (.iconst 0, 1) := by decide +kernel
theorem dX1_countWays_10 : decode cX1_countWays 10 = .ok (.putfield 32, 3) := by decide +kernel
theorem dX1_countWays_13 : decode cX1_countWays 13 = .ok (.iconst 0, 1) := by decide +kernel
theorem dX1_countWays_14 : decode cX1_countWays 14 = .ok (.istore 4, 2) := by decide +kernel
theorem dX1_countWays_16 : decode cX1_countWays 16 = .ok (.iconst 0, 1) := by decide +kernel
theorem dX1_countWays_17 : decode cX1_countWays 17 = .ok (.istore 5, 2) := by decide +kernel
theorem dX1_countWays_19 : decode cX1_countWays 19 = .ok (.iload 5, 2) := by decide +kernel
theorem dX1_countWays_21 : decode cX1_countWays 21 = .ok (.aload_n 0, 1) := by decide +kernel
theorem dX1_countWays_22 : decode cX1_countWays 22 = .ok (.getfield 28, 3) := by decide +kernel
theorem dX1_countWays_25 : decode cX1_countWays 25 = .ok (.if_icmp .ge 24, 3) := by decide +kernel
theorem dX1_countWays_28 : decode cX1_countWays 28 = .ok (.iload 4, 2) := by decide +kernel
theorem dX1_countWays_30 : decode cX1_countWays 30 = .ok (.aload_n 1, 1) := by decide +kernel
theorem dX1_countWays_31 : decode cX1_countWays 31 = .ok (.getfield 41, 3) := by decide +kernel
theorem dX1_countWays_34 : decode cX1_countWays 34 = .ok (.iload 5, 2) := by decide +kernel
theorem dX1_countWays_36 : decode cX1_countWays 36 = .ok (.laload, 1) := by decide +kernel
theorem dX1_countWays_37 : decode cX1_countWays 37 = .ok (.invokestatic 81, 3) := by decide +kernel
theorem dX1_countWays_40 : decode cX1_countWays 40 = .ok (.iadd, 1) := by decide +kernel
theorem dX1_countWays_41 : decode cX1_countWays 41 = .ok (.istore 4, 2) := by decide +kernel
theorem dX1_countWays_43 : decode cX1_countWays 43 = .ok (.iinc 5 1, 3) := by decide +kernel
theorem dX1_countWays_46 : decode cX1_countWays 46 = .ok (.goto (-27), 3) := by decide +kernel
theorem dX1_countWays_49 : decode cX1_countWays 49 = .ok (.iload 4, 2) := by decide +kernel
theorem dX1_countWays_51 : decode cX1_countWays 51 = .ok (.lload_n 2, 1) := by decide +kernel
theorem dX1_countWays_52 : decode cX1_countWays 52 = .ok (.invokestatic 81, 3) := by decide +kernel
theorem dX1_countWays_55 : decode cX1_countWays 55 = .ok (.if_icmp .eq 5, 3) := by decide +kernel
theorem dX1_countWays_58 : decode cX1_countWays 58 = .ok (.iconst 0, 1) := by decide +kernel
theorem dX1_countWays_59 : decode cX1_countWays 59 = .ok (.ireturn, 1) := by decide +kernel
theorem dX1_countWays_60 : decode cX1_countWays 60 = .ok (.iconst 0, 1) := by decide +kernel
theorem dX1_countWays_61 : decode cX1_countWays 61 = .ok (.istore 5, 2) := by decide +kernel
theorem dX1_countWays_63 : decode cX1_countWays 63 = .ok (.iload 5, 2) := by decide +kernel
theorem dX1_countWays_65 : decode cX1_countWays 65 = .ok (.aload_n 0, 1) := by decide +kernel
theorem dX1_countWays_66 : decode cX1_countWays 66 = .ok (.getfield 28, 3) := by decide +kernel
theorem dX1_countWays_69 : decode cX1_countWays 69 = .ok (.if_icmp .ge 18, 3) := by decide +kernel
theorem dX1_countWays_72 : decode cX1_countWays 72 = .ok (.aload_n 0, 1) := by decide +kernel
theorem dX1_countWays_73 : decode cX1_countWays 73 = .ok (.aload_n 1, 1) := by decide +kernel
theorem dX1_countWays_74 : decode cX1_countWays 74 = .ok (.iload 5, 2) := by decide +kernel
theorem dX1_countWays_76 : decode cX1_countWays 76 = .ok (.lload_n 2, 1) := by decide +kernel
theorem dX1_countWays_77 : decode cX1_countWays 77 = .ok (.invokevirtual 87, 3) := by decide +kernel
theorem dX1_countWays_80 : decode cX1_countWays 80 = .ok (.pop, 1) := by decide +kernel
theorem dX1_countWays_81 : decode cX1_countWays 81 = .ok (.iinc 5 1, 3) := by decide +kernel
theorem dX1_countWays_84 : decode cX1_countWays 84 = .ok (.goto (-21), 3) := by decide +kernel
theorem dX1_countWays_87 : decode cX1_countWays 87 = .ok (.aload_n 0, 1) := by decide +kernel
theorem dX1_countWays_88 : decode cX1_countWays 88 = .ok (.lload_n 2, 1) := by decide +kernel
theorem dX1_countWays_89 : decode cX1_countWays 89 = .ok (.iconst 0, 1) := by decide +kernel
theorem dX1_countWays_90 : decode cX1_countWays 90 = .ok (.iconst 0, 1) := by decide +kernel
theorem dX1_countWays_91 : decode cX1_countWays 91 = .ok (.invokevirtual 91, 3) := by decide +kernel
theorem dX1_countWays_94 : decode cX1_countWays 94 = .ok (.aload_n 0, 1) := by decide +kernel
theorem dX1_countWays_95 : decode cX1_countWays 95 = .ok (.getfield 32, 3) := by decide +kernel
theorem dX1_countWays_98 : decode cX1_countWays 98 = .ok (.ireturn, 1) := by decide +kernel
set_option maxRecDepth 20000 in
theorem ggX1_fill_X1_noteWay : GoodIn wsX1_fill wsX1_noteWay := goodIn_r _ [6, 7, 1, 8, 9, 10, 11, 12, 5, 13, 14, 15, 16, 17, 28, 29, 30, 31, 32, 33, 34] (by decide +kernel) (by decide +kernel)
set_option maxRecDepth 20000 in
theorem gX1_fill_X1_noteWay : GoodIn wsX1_fill (wsV RX1 95 RX1 yX1_noteWay wsX1_noteWay) := goodIn_app (goodIn_of _ (by decide +kernel)) ggX1_fill_X1_noteWay
set_option maxRecDepth 20000 in
theorem ggX1_fill_X1_fillWith : GoodIn wsX1_fill wsX1_fillWith := goodIn_r _ [21, 22, 23, 24, 9, 25, 26, 27, 5, 0, 1, 2, 3, 4, 6, 7, 8, 10, 11, 12, 13, 14, 15, 16, 17, 18, 19, 20, 28, 29, 30, 31, 32, 33, 34] (by decide +kernel) (by decide +kernel)
set_option maxRecDepth 20000 in
theorem gX1_fill_X1_fillWith : GoodIn wsX1_fill (wsV RX1 98 RX1 yX1_fillWith wsX1_fillWith) := goodIn_app (goodIn_of _ (by decide +kernel)) ggX1_fill_X1_fillWith
theorem dX1_fill_0 : decode cX1_fill 0 = .ok (.iload 4, 2) := by decide +kernel
theorem dX1_fill_2 : decode cX1_fill 2 = .ok (.aload_n 0, 1) := by decide +kernel
theorem dX1_fill_3 : decode cX1_fill 3 = .ok (.getfield 28, 3) := by decide +kernel
theorem dX1_fill_6 : decode cX1_fill 6 = .ok (.if_icmp .ge 9, 3) := by decide +kernel
theorem dX1_fill_9 : decode cX1_fill 9 = .ok (.iload 4, 2) := by decide +kernel
theorem dX1_fill_11 : decode cX1_fill 11 = .ok (.iconst 4, 1) := by decide +kernel
theorem dX1_fill_12 : decode cX1_fill 12 = .ok (.if_icmp .lt 14, 3) := by decide +kernel
theorem dX1_fill_15 : decode cX1_fill 15 = .ok (.lload_n 1, 1) := by decide +kernel
theorem dX1_fill_16 : decode cX1_fill 16 = .ok (.lconst 0, 1) := by decide +kernel
theorem dX1_fill_17 : decode cX1_fill 17 = .ok (.lcmp, 1) := by decide +kernel
theorem dX1_fill_18 : decode cX1_fill 18 = .ok (.ifCond .ne 7, 3) := by decide +kernel
theorem dX1_fill_21 : decode cX1_fill 21 = .ok (.aload_n 0, 1) := by decide +kernel
theorem dX1_fill_22 : decode cX1_fill 22 = .ok (.invokevirtual 95, 3) := by decide +kernel
theorem dX1_fill_25 : decode cX1_fill 25 = .ok (.return_, 1) := by decide +kernel
theorem dX1_fill_26 : decode cX1_fill 26 = .ok (.lload_n 1, 1) := by decide +kernel
theorem dX1_fill_27 : decode cX1_fill 27 = .ok (.lload_n 1, 1) := by decide +kernel
theorem dX1_fill_28 : decode cX1_fill 28 = .ok (.lneg, 1) := by decide +kernel
theorem dX1_fill_29 : decode cX1_fill 29 = .ok (.land, 1) := by decide +kernel
theorem dX1_fill_30 : decode cX1_fill 30 = .ok (.lstore 5, 2) := by decide +kernel
theorem dX1_fill_32 : decode cX1_fill 32 = .ok (.iconst 0, 1) := by decide +kernel
theorem dX1_fill_33 : decode cX1_fill 33 = .ok (.istore 7, 2) := by decide +kernel
theorem dX1_fill_35 : decode cX1_fill 35 = .ok (.iload 7, 2) := by decide +kernel
theorem dX1_fill_37 : decode cX1_fill 37 = .ok (.aload_n 0, 1) := by decide +kernel
theorem dX1_fill_38 : decode cX1_fill 38 = .ok (.getfield 28, 3) := by decide +kernel
theorem dX1_fill_41 : decode cX1_fill 41 = .ok (.if_icmp .ge 30, 3) := by decide +kernel
theorem dX1_fill_44 : decode cX1_fill 44 = .ok (.iload_n 3, 1) := by decide +kernel
theorem dX1_fill_45 : decode cX1_fill 45 = .ok (.iload 7, 2) := by decide +kernel
theorem dX1_fill_47 : decode cX1_fill 47 = .ok (.ishr, 1) := by decide +kernel
theorem dX1_fill_48 : decode cX1_fill 48 = .ok (.iconst 1, 1) := by decide +kernel
theorem dX1_fill_49 : decode cX1_fill 49 = .ok (.iand, 1) := by decide +kernel
theorem dX1_fill_50 : decode cX1_fill 50 = .ok (.ifCond .ne 15, 3) := by decide +kernel
theorem dX1_fill_53 : decode cX1_fill 53 = .ok (.aload_n 0, 1) := by decide +kernel
theorem dX1_fill_54 : decode cX1_fill 54 = .ok (.iload 7, 2) := by decide +kernel
theorem dX1_fill_56 : decode cX1_fill 56 = .ok (.lload 5, 2) := by decide +kernel
theorem dX1_fill_58 : decode cX1_fill 58 = .ok (.lload_n 1, 1) := by decide +kernel
theorem dX1_fill_59 : decode cX1_fill 59 = .ok (.iload_n 3, 1) := by decide +kernel
theorem dX1_fill_60 : decode cX1_fill 60 = .ok (.iload 4, 2) := by decide +kernel
theorem dX1_fill_62 : decode cX1_fill 62 = .ok (.invokevirtual 98, 3) := by decide +kernel
theorem dX1_fill_65 : decode cX1_fill 65 = .ok (.iinc 7 1, 3) := by decide +kernel
theorem dX1_fill_68 : decode cX1_fill 68 = .ok (.goto (-33), 3) := by decide +kernel
theorem dX1_fill_71 : decode cX1_fill 71 = .ok (.return_, 1) := by decide +kernel
set_option maxRecDepth 20000 in
theorem ggX1_fillWith_X1_fill : GoodIn wsX1_fillWith wsX1_fill := goodIn_r _ [9, 10, 11, 12, 13, 8, 14, 15, 16, 4, 17, 18, 19, 20, 21, 22, 23, 24, 25, 26, 27, 0, 1, 2, 3, 5, 6, 7, 28, 29, 30, 31, 32, 33, 34] (by decide +kernel) (by decide +kernel)
set_option maxRecDepth 20000 in
theorem gX1_fillWith_X1_fill : GoodIn wsX1_fillWith (wsV RX1 91 RX1 yX1_fill wsX1_fill) := goodIn_app (goodIn_of _ (by decide +kernel)) ggX1_fillWith_X1_fill
theorem dX1_fillWith_0 : decode cX1_fillWith 0 = .ok (.iconst 0, 1) := by decide +kernel
theorem dX1_fillWith_1 : decode cX1_fillWith 1 = .ok (.istore 8, 2) := by decide +kernel
theorem dX1_fillWith_3 : decode cX1_fillWith 3 = .ok (.iload 8, 2) := by decide +kernel
theorem dX1_fillWith_5 : decode cX1_fillWith 5 = .ok (.aload_n 0, 1) := by decide +kernel
theorem dX1_fillWith_6 : decode cX1_fillWith 6 = .ok (.getfield 15, 3) := by decide +kernel
theorem dX1_fillWith_9 : decode cX1_fillWith 9 = .ok (.iload_n 1, 1) := by decide +kernel
theorem dX1_fillWith_10 : decode cX1_fillWith 10 = .ok (.iaload, 1) := by decide +kernel
theorem dX1_fillWith_11 : decode cX1_fillWith 11 = .ok (.if_icmp .ge 73, 3) := by decide +kernel
theorem dX1_fillWith_14 : decode cX1_fillWith 14 = .ok (.aload_n 0, 1) := by decide +kernel
theorem dX1_fillWith_15 : decode cX1_fillWith 15 = .ok (.getfield 11, 3) := by decide +kernel
theorem dX1_fillWith_18 : decode cX1_fillWith 18 = .ok (.iload_n 1, 1) := by decide +kernel
theorem dX1_fillWith_19 : decode cX1_fillWith 19 = .ok (.bipush 96, 2) := by decide +kernel
theorem dX1_fillWith_21 : decode cX1_fillWith 21 = .ok (.imul, 1) := by decide +kernel
theorem dX1_fillWith_22 : decode cX1_fillWith 22 = .ok (.iload 8, 2) := by decide +kernel
theorem dX1_fillWith_24 : decode cX1_fillWith 24 = .ok (.iadd, 1) := by decide +kernel
theorem dX1_fillWith_25 : decode cX1_fillWith 25 = .ok (.laload, 1) := by decide +kernel
theorem dX1_fillWith_26 : decode cX1_fillWith 26 = .ok (.lstore 9, 2) := by decide +kernel
theorem dX1_fillWith_28 : decode cX1_fillWith 28 = .ok (.lload 9, 2) := by decide +kernel
theorem dX1_fillWith_30 : decode cX1_fillWith 30 = .ok (.lload_n 2, 1) := by decide +kernel
theorem dX1_fillWith_31 : decode cX1_fillWith 31 = .ok (.land, 1) := by decide +kernel
theorem dX1_fillWith_32 : decode cX1_fillWith 32 = .ok (.lconst 0, 1) := by decide +kernel
theorem dX1_fillWith_33 : decode cX1_fillWith 33 = .ok (.lcmp, 1) := by decide +kernel
theorem dX1_fillWith_34 : decode cX1_fillWith 34 = .ok (.ifCond .eq 44, 3) := by decide +kernel
theorem dX1_fillWith_37 : decode cX1_fillWith 37 = .ok (.lload 9, 2) := by decide +kernel
theorem dX1_fillWith_39 : decode cX1_fillWith 39 = .ok (.lload 4, 2) := by decide +kernel
theorem dX1_fillWith_41 : decode cX1_fillWith 41 = .ok (.ldc2_w 72, 3) := by decide +kernel
theorem dX1_fillWith_44 : decode cX1_fillWith 44 = .ok (.lxor, 1) := by decide +kernel
theorem dX1_fillWith_45 : decode cX1_fillWith 45 = .ok (.land, 1) := by decide +kernel
theorem dX1_fillWith_46 : decode cX1_fillWith 46 = .ok (.lconst 0, 1) := by decide +kernel
theorem dX1_fillWith_47 : decode cX1_fillWith 47 = .ok (.lcmp, 1) := by decide +kernel
theorem dX1_fillWith_48 : decode cX1_fillWith 48 = .ok (.ifCond .ne 30, 3) := by decide +kernel
theorem dX1_fillWith_51 : decode cX1_fillWith 51 = .ok (.aload_n 0, 1) := by decide +kernel
theorem dX1_fillWith_52 : decode cX1_fillWith 52 = .ok (.getfield 22, 3) := by decide +kernel
theorem dX1_fillWith_55 : decode cX1_fillWith 55 = .ok (.iload_n 1, 1) := by decide +kernel
theorem dX1_fillWith_56 : decode cX1_fillWith 56 = .ok (.lload 9, 2) := by decide +kernel
theorem dX1_fillWith_58 : decode cX1_fillWith 58 = .ok (.lastore, 1) := by decide +kernel
theorem dX1_fillWith_59 : decode cX1_fillWith 59 = .ok (.aload_n 0, 1) := by decide +kernel
theorem dX1_fillWith_60 : decode cX1_fillWith 60 = .ok (.lload 4, 2) := by decide +kernel
theorem dX1_fillWith_62 : decode cX1_fillWith 62 = .ok (.lload 9, 2) := by decide +kernel
theorem dX1_fillWith_64 : decode cX1_fillWith 64 = .ok (.lxor, 1) := by decide +kernel
theorem dX1_fillWith_65 : decode cX1_fillWith 65 = .ok (.iload 6, 2) := by decide +kernel
theorem dX1_fillWith_67 : decode cX1_fillWith 67 = .ok (.iconst 1, 1) := by decide +kernel
theorem dX1_fillWith_68 : decode cX1_fillWith 68 = .ok (.iload_n 1, 1) := by decide +kernel
theorem dX1_fillWith_69 : decode cX1_fillWith 69 = .ok (.ishl, 1) := by decide +kernel
theorem dX1_fillWith_70 : decode cX1_fillWith 70 = .ok (.ior, 1) := by decide +kernel
theorem dX1_fillWith_71 : decode cX1_fillWith 71 = .ok (.iload 7, 2) := by decide +kernel
theorem dX1_fillWith_73 : decode cX1_fillWith 73 = .ok (.iconst 1, 1) := by decide +kernel
theorem dX1_fillWith_74 : decode cX1_fillWith 74 = .ok (.iadd, 1) := by decide +kernel
theorem dX1_fillWith_75 : decode cX1_fillWith 75 = .ok (.invokevirtual 91, 3) := by decide +kernel
theorem dX1_fillWith_78 : decode cX1_fillWith 78 = .ok (.iinc 8 1, 3) := by decide +kernel
theorem dX1_fillWith_81 : decode cX1_fillWith 81 = .ok (.goto (-78), 3) := by decide +kernel
theorem dX1_fillWith_84 : decode cX1_fillWith 84 = .ok (.return_, 1) := by decide +kernel
set_option maxRecDepth 20000 in
theorem ggX1_noteWay_X1_chosenIsBefore : GoodIn wsX1_noteWay wsX1_chosenIsBefore := goodIn_r _ [9, 2, 4, 3, 10, 11, 12, 13, 14, 15, 16, 17, 18, 19, 20] (by decide +kernel) (by decide +kernel)
set_option maxRecDepth 20000 in
theorem gX1_noteWay_X1_chosenIsBefore : GoodIn wsX1_noteWay (wsV RX1 102 RX1 yX1_chosenIsBefore wsX1_chosenIsBefore) := goodIn_app (goodIn_of _ (by decide +kernel)) ggX1_noteWay_X1_chosenIsBefore
theorem dX1_noteWay_0 : decode cX1_noteWay 0 = .ok (.aload_n 0, 1) := by decide +kernel
theorem dX1_noteWay_1 : decode cX1_noteWay 1 = .ok (.dup, 1) := by decide +kernel
theorem dX1_noteWay_2 : decode cX1_noteWay 2 = .ok (.getfield 32, 3) := by decide +kernel
theorem dX1_noteWay_5 : decode cX1_noteWay 5 = .ok (.iconst 1, 1) := by decide +kernel
theorem dX1_noteWay_6 : decode cX1_noteWay 6 = .ok (.iadd, 1) := by decide +kernel
theorem dX1_noteWay_7 : decode cX1_noteWay 7 = .ok (.putfield 32, 3) := by decide +kernel
theorem dX1_noteWay_10 : decode cX1_noteWay 10 = .ok (.aload_n 0, 1) := by decide +kernel
theorem dX1_noteWay_11 : decode cX1_noteWay 11 = .ok (.getfield 32, 3) := by decide +kernel
theorem dX1_noteWay_14 : decode cX1_noteWay 14 = .ok (.iconst 1, 1) := by decide +kernel
theorem dX1_noteWay_15 : decode cX1_noteWay 15 = .ok (.if_icmp .eq 10, 3) := by decide +kernel
theorem dX1_noteWay_18 : decode cX1_noteWay 18 = .ok (.aload_n 0, 1) := by decide +kernel
theorem dX1_noteWay_19 : decode cX1_noteWay 19 = .ok (.invokevirtual 102, 3) := by decide +kernel
theorem dX1_noteWay_22 : decode cX1_noteWay 22 = .ok (.ifCond .eq 31, 3) := by decide +kernel
theorem dX1_noteWay_25 : decode cX1_noteWay 25 = .ok (.iconst 0, 1) := by decide +kernel
theorem dX1_noteWay_26 : decode cX1_noteWay 26 = .ok (.istore_n 1, 1) := by decide +kernel
theorem dX1_noteWay_27 : decode cX1_noteWay 27 = .ok (.iload_n 1, 1) := by decide +kernel
theorem dX1_noteWay_28 : decode cX1_noteWay 28 = .ok (.aload_n 0, 1) := by decide +kernel
theorem dX1_noteWay_29 : decode cX1_noteWay 29 = .ok (.getfield 28, 3) := by decide +kernel
theorem dX1_noteWay_32 : decode cX1_noteWay 32 = .ok (.if_icmp .ge 21, 3) := by decide +kernel
theorem dX1_noteWay_35 : decode cX1_noteWay 35 = .ok (.aload_n 0, 1) := by decide +kernel
theorem dX1_noteWay_36 : decode cX1_noteWay 36 = .ok (.getfield 25, 3) := by decide +kernel
theorem dX1_noteWay_39 : decode cX1_noteWay 39 = .ok (.iload_n 1, 1) := by decide +kernel
theorem dX1_noteWay_40 : decode cX1_noteWay 40 = .ok (.aload_n 0, 1) := by decide +kernel
theorem dX1_noteWay_41 : decode cX1_noteWay 41 = .ok (.getfield 22, 3) := by decide +kernel
theorem dX1_noteWay_44 : decode cX1_noteWay 44 = .ok (.iload_n 1, 1) := by decide +kernel
theorem dX1_noteWay_45 : decode cX1_noteWay 45 = .ok (.laload, 1) := by decide +kernel
theorem dX1_noteWay_46 : decode cX1_noteWay 46 = .ok (.lastore, 1) := by decide +kernel
theorem dX1_noteWay_47 : decode cX1_noteWay 47 = .ok (.iinc 1 1, 3) := by decide +kernel
theorem dX1_noteWay_50 : decode cX1_noteWay 50 = .ok (.goto (-23), 3) := by decide +kernel
theorem dX1_noteWay_53 : decode cX1_noteWay 53 = .ok (.return_, 1) := by decide +kernel
set_option maxRecDepth 20000 in
theorem ggX1_chosenIsBefore_X7_isLess : GoodIn wsX1_chosenIsBefore wsX7_isLess := goodIn_r _ [6, 7] (by decide +kernel) (by decide +kernel)
set_option maxRecDepth 20000 in
theorem gX1_chosenIsBefore_X7_isLess_n74 : GoodIn wsX1_chosenIsBefore (wsX7_isLess) := ggX1_chosenIsBefore_X7_isLess
theorem dX1_chosenIsBefore_0 : decode cX1_chosenIsBefore 0 = .ok (.iconst 0, 1) := by decide +kernel
theorem dX1_chosenIsBefore_1 : decode cX1_chosenIsBefore 1 = .ok (.istore_n 1, 1) := by decide +kernel
theorem dX1_chosenIsBefore_2 : decode cX1_chosenIsBefore 2 = .ok (.iload_n 1, 1) := by decide +kernel
theorem dX1_chosenIsBefore_3 : decode cX1_chosenIsBefore 3 = .ok (.aload_n 0, 1) := by decide +kernel
theorem dX1_chosenIsBefore_4 : decode cX1_chosenIsBefore 4 = .ok (.getfield 28, 3) := by decide +kernel
theorem dX1_chosenIsBefore_7 : decode cX1_chosenIsBefore 7 = .ok (.if_icmp .ge 41, 3) := by decide +kernel
theorem dX1_chosenIsBefore_10 : decode cX1_chosenIsBefore 10 = .ok (.aload_n 0, 1) := by decide +kernel
theorem dX1_chosenIsBefore_11 : decode cX1_chosenIsBefore 11 = .ok (.getfield 22, 3) := by decide +kernel
theorem dX1_chosenIsBefore_14 : decode cX1_chosenIsBefore 14 = .ok (.iload_n 1, 1) := by decide +kernel
theorem dX1_chosenIsBefore_15 : decode cX1_chosenIsBefore 15 = .ok (.laload, 1) := by decide +kernel
theorem dX1_chosenIsBefore_16 : decode cX1_chosenIsBefore 16 = .ok (.aload_n 0, 1) := by decide +kernel
theorem dX1_chosenIsBefore_17 : decode cX1_chosenIsBefore 17 = .ok (.getfield 25, 3) := by decide +kernel
theorem dX1_chosenIsBefore_20 : decode cX1_chosenIsBefore 20 = .ok (.iload_n 1, 1) := by decide +kernel
theorem dX1_chosenIsBefore_21 : decode cX1_chosenIsBefore 21 = .ok (.laload, 1) := by decide +kernel
theorem dX1_chosenIsBefore_22 : decode cX1_chosenIsBefore 22 = .ok (.lcmp, 1) := by decide +kernel
theorem dX1_chosenIsBefore_23 : decode cX1_chosenIsBefore 23 = .ok (.ifCond .eq 19, 3) := by decide +kernel
theorem dX1_chosenIsBefore_26 : decode cX1_chosenIsBefore 26 = .ok (.aload_n 0, 1) := by decide +kernel
theorem dX1_chosenIsBefore_27 : decode cX1_chosenIsBefore 27 = .ok (.getfield 22, 3) := by decide +kernel
theorem dX1_chosenIsBefore_30 : decode cX1_chosenIsBefore 30 = .ok (.iload_n 1, 1) := by decide +kernel
theorem dX1_chosenIsBefore_31 : decode cX1_chosenIsBefore 31 = .ok (.laload, 1) := by decide +kernel
theorem dX1_chosenIsBefore_32 : decode cX1_chosenIsBefore 32 = .ok (.aload_n 0, 1) := by decide +kernel
theorem dX1_chosenIsBefore_33 : decode cX1_chosenIsBefore 33 = .ok (.getfield 25, 3) := by decide +kernel
theorem dX1_chosenIsBefore_36 : decode cX1_chosenIsBefore 36 = .ok (.iload_n 1, 1) := by decide +kernel
theorem dX1_chosenIsBefore_37 : decode cX1_chosenIsBefore 37 = .ok (.laload, 1) := by decide +kernel
theorem dX1_chosenIsBefore_38 : decode cX1_chosenIsBefore 38 = .ok (.invokestatic 74, 3) := by decide +kernel
theorem dX1_chosenIsBefore_41 : decode cX1_chosenIsBefore 41 = .ok (.ireturn, 1) := by decide +kernel
theorem dX1_chosenIsBefore_42 : decode cX1_chosenIsBefore 42 = .ok (.iinc 1 1, 3) := by decide +kernel
theorem dX1_chosenIsBefore_45 : decode cX1_chosenIsBefore 45 = .ok (.goto (-43), 3) := by decide +kernel
theorem dX1_chosenIsBefore_48 : decode cX1_chosenIsBefore 48 = .ok (.iconst 0, 1) := by decide +kernel
theorem dX1_chosenIsBefore_49 : decode cX1_chosenIsBefore 49 = .ok (.ireturn, 1) := by decide +kernel
set_option maxRecDepth 20000 in
theorem ggX2_isNone_X2_lowest : GoodIn wsX2_isNone wsX2_lowest := goodIn_r _ [4] (by decide +kernel) (by decide +kernel)
set_option maxRecDepth 20000 in
theorem gX2_isNone_X2_lowest : GoodIn wsX2_isNone (va_wsS RX2 9 yX2_lowest wsX2_lowest) := goodIn_app (goodIn_of _ (by decide +kernel)) ggX2_isNone_X2_lowest
set_option maxRecDepth 20000 in
theorem ggX2_isNone_X2_highest : GoodIn wsX2_isNone wsX2_highest := goodIn_r _ [7] (by decide +kernel) (by decide +kernel)
set_option maxRecDepth 20000 in
theorem gX2_isNone_X2_highest : GoodIn wsX2_isNone (va_wsS RX2 15 yX2_highest wsX2_highest) := goodIn_app (goodIn_of _ (by decide +kernel)) ggX2_isNone_X2_highest
theorem dX2_isNone_0 : decode cX2_isNone 0 = .ok (.iload_n 0, 1) := by decide +kernel
theorem dX2_isNone_1 : decode cX2_isNone 1 = .ok (.ifCond .lt 24, 3) := by decide +kernel
theorem dX2_isNone_4 : decode cX2_isNone 4 = .ok (.iload_n 0, 1) := by decide +kernel
theorem dX2_isNone_5 : decode cX2_isNone 5 = .ok (.iconst 4, 1) := by decide +kernel
theorem dX2_isNone_6 : decode cX2_isNone 6 = .ok (.if_icmp .ge 19, 3) := by decide +kernel
theorem dX2_isNone_9 : decode cX2_isNone 9 = .ok (.iload_n 1, 1) := by decide +kernel
theorem dX2_isNone_10 : decode cX2_isNone 10 = .ok (.iload_n 0, 1) := by decide +kernel
theorem dX2_isNone_11 : decode cX2_isNone 11 = .ok (.invokestatic 9, 3) := by decide +kernel
theorem dX2_isNone_14 : decode cX2_isNone 14 = .ok (.if_icmp .lt 11, 3) := by decide +kernel
theorem dX2_isNone_17 : decode cX2_isNone 17 = .ok (.iload_n 1, 1) := by decide +kernel
theorem dX2_isNone_18 : decode cX2_isNone 18 = .ok (.iload_n 0, 1) := by decide +kernel
theorem dX2_isNone_19 : decode cX2_isNone 19 = .ok (.invokestatic 15, 3) := by decide +kernel
theorem dX2_isNone_22 : decode cX2_isNone 22 = .ok (.if_icmp .le 7, 3) := by decide +kernel
theorem dX2_isNone_25 : decode cX2_isNone 25 = .ok (.iconst 1, 1) := by decide +kernel
theorem dX2_isNone_26 : decode cX2_isNone 26 = .ok (.goto 4, 3) := by decide +kernel
theorem dX2_isNone_29 : decode cX2_isNone 29 = .ok (.iconst 0, 1) := by decide +kernel
theorem dX2_isNone_30 : decode cX2_isNone 30 = .ok (.ireturn, 1) := by decide +kernel
theorem dX2_lowest_0 : decode cX2_lowest 0 = .ok (.iload_n 0, 1) := by decide +kernel
theorem dX2_lowest_1 : decode cX2_lowest 1 = .ok (.iconst 2, 1) := by decide +kernel
theorem dX2_lowest_2 : decode cX2_lowest 2 = .ok (.if_icmp .ne 8, 3) := by decide +kernel
theorem dX2_lowest_5 : decode cX2_lowest 5 = .ok (.bipush (-4), 2) := by decide +kernel
theorem dX2_lowest_7 : decode cX2_lowest 7 = .ok (.goto 4, 3) := by decide +kernel
theorem dX2_lowest_10 : decode cX2_lowest 10 = .ok (.iconst 0, 1) := by decide +kernel
theorem dX2_lowest_11 : decode cX2_lowest 11 = .ok (.ireturn, 1) := by decide +kernel
theorem dX2_highest_0 : decode cX2_highest 0 = .ok (.iload_n 0, 1) := by decide +kernel
theorem dX2_highest_1 : decode cX2_highest 1 = .ok (.iconst 3, 1) := by decide +kernel
theorem dX2_highest_2 : decode cX2_highest 2 = .ok (.if_icmp .ne 8, 3) := by decide +kernel
theorem dX2_highest_5 : decode cX2_highest 5 = .ok (.bipush 8, 2) := by decide +kernel
theorem dX2_highest_7 : decode cX2_highest 7 = .ok (.goto 4, 3) := by decide +kernel
theorem dX2_highest_10 : decode cX2_highest 10 = .ok (.iconst 4, 1) := by decide +kernel
theorem dX2_highest_11 : decode cX2_highest 11 = .ok (.ireturn, 1) := by decide +kernel
set_option maxRecDepth 20000 in
theorem ggX2_cellsAhead_X2_rowAhead : GoodIn wsX2_cellsAhead wsX2_rowAhead := goodIn_r _ [4, 5, 6, 7, 3, 8] (by decide +kernel) (by decide +kernel)
set_option maxRecDepth 20000 in
theorem gX2_cellsAhead_X2_rowAhead : GoodIn wsX2_cellsAhead (va_wsS RX2 18 yX2_rowAhead wsX2_rowAhead) := goodIn_app (goodIn_of _ (by decide +kernel)) ggX2_cellsAhead_X2_rowAhead
theorem dX2_cellsAhead_0 : decode cX2_cellsAhead 0 = .ok (.lconst 0, 1) := by decide +kernel
theorem dX2_cellsAhead_1 : decode cX2_cellsAhead 1 = .ok (.lstore_n 2, 1) := by decide +kernel
theorem dX2_cellsAhead_2 : decode cX2_cellsAhead 2 = .ok (.iconst 0, 1) := by decide +kernel
theorem dX2_cellsAhead_3 : decode cX2_cellsAhead 3 = .ok (.istore 4, 2) := by decide +kernel
theorem dX2_cellsAhead_5 : decode cX2_cellsAhead 5 = .ok (.iload 4, 2) := by decide +kernel
theorem dX2_cellsAhead_7 : decode cX2_cellsAhead 7 = .ok (.iconst 4, 1) := by decide +kernel
theorem dX2_cellsAhead_8 : decode cX2_cellsAhead 8 = .ok (.if_icmp .ge 25, 3) := by decide +kernel
theorem dX2_cellsAhead_11 : decode cX2_cellsAhead 11 = .ok (.lload_n 2, 1) := by decide +kernel
theorem dX2_cellsAhead_12 : decode cX2_cellsAhead 12 = .ok (.iload_n 0, 1) := by decide +kernel
theorem dX2_cellsAhead_13 : decode cX2_cellsAhead 13 = .ok (.iload_n 1, 1) := by decide +kernel
theorem dX2_cellsAhead_14 : decode cX2_cellsAhead 14 = .ok (.iload 4, 2) := by decide +kernel
theorem dX2_cellsAhead_16 : decode cX2_cellsAhead 16 = .ok (.invokestatic 18, 3) := by decide +kernel
theorem dX2_cellsAhead_19 : decode cX2_cellsAhead 19 = .ok (.bipush 16, 2) := by decide +kernel
theorem dX2_cellsAhead_21 : decode cX2_cellsAhead 21 = .ok (.iload 4, 2) := by decide +kernel
theorem dX2_cellsAhead_23 : decode cX2_cellsAhead 23 = .ok (.imul, 1) := by decide +kernel
theorem dX2_cellsAhead_24 : decode cX2_cellsAhead 24 = .ok (.lshl, 1) := by decide +kernel
theorem dX2_cellsAhead_25 : decode cX2_cellsAhead 25 = .ok (.lor, 1) := by decide +kernel
theorem dX2_cellsAhead_26 : decode cX2_cellsAhead 26 = .ok (.lstore_n 2, 1) := by decide +kernel
theorem dX2_cellsAhead_27 : decode cX2_cellsAhead 27 = .ok (.iinc 4 1, 3) := by decide +kernel
theorem dX2_cellsAhead_30 : decode cX2_cellsAhead 30 = .ok (.goto (-25), 3) := by decide +kernel
theorem dX2_cellsAhead_33 : decode cX2_cellsAhead 33 = .ok (.lload_n 2, 1) := by decide +kernel
theorem dX2_cellsAhead_34 : decode cX2_cellsAhead 34 = .ok (.lreturn, 1) := by decide +kernel
set_option maxRecDepth 20000 in
theorem ggX2_rowAhead_X2_squaresFromLeft : GoodIn wsX2_rowAhead wsX2_squaresFromLeft := goodIn_r _ [5, 1] (by decide +kernel) (by decide +kernel)
set_option maxRecDepth 20000 in
theorem gX2_rowAhead_X2_squaresFromLeft : GoodIn wsX2_rowAhead (va_wsS RX2 26 yX2_squaresFromLeft wsX2_squaresFromLeft) := goodIn_app (goodIn_of _ (by decide +kernel)) ggX2_rowAhead_X2_squaresFromLeft
theorem dX2_rowAhead_0 : decode cX2_rowAhead 0 = .ok (.iload_n 0, 1) := by decide +kernel
theorem dX2_rowAhead_1 : decode cX2_rowAhead 1 = .ok (.tableswitch 55 0 2 #[27, 40, 46], 27) := by decide +kernel
theorem dX2_rowAhead_28 : decode cX2_rowAhead 28 = .ok (.iload_n 2, 1) := by decide +kernel
theorem dX2_rowAhead_29 : decode cX2_rowAhead 29 = .ok (.iload_n 1, 1) := by decide +kernel
theorem dX2_rowAhead_30 : decode cX2_rowAhead 30 = .ok (.if_icmp .ge 9, 3) := by decide +kernel
theorem dX2_rowAhead_33 : decode cX2_rowAhead 33 = .ok (.ldc2_w 24, 3) := by decide +kernel
theorem dX2_rowAhead_36 : decode cX2_rowAhead 36 = .ok (.goto 4, 3) := by decide +kernel
theorem dX2_rowAhead_39 : decode cX2_rowAhead 39 = .ok (.lconst 0, 1) := by decide +kernel
theorem dX2_rowAhead_40 : decode cX2_rowAhead 40 = .ok (.lreturn, 1) := by decide +kernel
theorem dX2_rowAhead_41 : decode cX2_rowAhead 41 = .ok (.iload_n 1, 1) := by decide +kernel
theorem dX2_rowAhead_42 : decode cX2_rowAhead 42 = .ok (.iconst 0, 1) := by decide +kernel
theorem dX2_rowAhead_43 : decode cX2_rowAhead 43 = .ok (.invokestatic 26, 3) := by decide +kernel
theorem dX2_rowAhead_46 : decode cX2_rowAhead 46 = .ok (.lreturn, 1) := by decide +kernel
theorem dX2_rowAhead_47 : decode cX2_rowAhead 47 = .ok (.iload_n 1, 1) := by decide +kernel
theorem dX2_rowAhead_48 : decode cX2_rowAhead 48 = .ok (.iload_n 2, 1) := by decide +kernel
theorem dX2_rowAhead_49 : decode cX2_rowAhead 49 = .ok (.iadd, 1) := by decide +kernel
theorem dX2_rowAhead_50 : decode cX2_rowAhead 50 = .ok (.bipush 12, 2) := by decide +kernel
theorem dX2_rowAhead_52 : decode cX2_rowAhead 52 = .ok (.invokestatic 26, 3) := by decide +kernel
theorem dX2_rowAhead_55 : decode cX2_rowAhead 55 = .ok (.lreturn, 1) := by decide +kernel
theorem dX2_rowAhead_56 : decode cX2_rowAhead 56 = .ok (.iload_n 1, 1) := by decide +kernel
theorem dX2_rowAhead_57 : decode cX2_rowAhead 57 = .ok (.iload_n 2, 1) := by decide +kernel
theorem dX2_rowAhead_58 : decode cX2_rowAhead 58 = .ok (.isub, 1) := by decide +kernel
theorem dX2_rowAhead_59 : decode cX2_rowAhead 59 = .ok (.iconst 1, 1) := by decide +kernel
theorem dX2_rowAhead_60 : decode cX2_rowAhead 60 = .ok (.isub, 1) := by decide +kernel
theorem dX2_rowAhead_61 : decode cX2_rowAhead 61 = .ok (.bipush 9, 2) := by decide +kernel
theorem dX2_rowAhead_63 : decode cX2_rowAhead 63 = .ok (.invokestatic 26, 3) := by decide +kernel
theorem dX2_rowAhead_66 : decode cX2_rowAhead 66 = .ok (.lreturn, 1) := by decide +kernel
theorem dX2_squaresFromLeft_0 : decode cX2_squaresFromLeft 0 = .ok (.iload_n 0, 1) := by decide +kernel
theorem dX2_squaresFromLeft_1 : decode cX2_squaresFromLeft 1 = .ok (.ifCond .ge 5, 3) := by decide +kernel
theorem dX2_squaresFromLeft_4 : decode cX2_squaresFromLeft 4 = .ok (.lconst 0, 1) := by decide +kernel
theorem dX2_squaresFromLeft_5 : decode cX2_squaresFromLeft 5 = .ok (.lreturn, 1) := by decide +kernel
theorem dX2_squaresFromLeft_6 : decode cX2_squaresFromLeft 6 = .ok (.iload_n 0, 1) := by decide +kernel
theorem dX2_squaresFromLeft_7 : decode cX2_squaresFromLeft 7 = .ok (.iconst 3, 1) := by decide +kernel
theorem dX2_squaresFromLeft_8 : decode cX2_squaresFromLeft 8 = .ok (.if_icmp .le 7, 3) := by decide +kernel
theorem dX2_squaresFromLeft_11 : decode cX2_squaresFromLeft 11 = .ok (.ldc2_w 24, 3) := by decide +kernel
theorem dX2_squaresFromLeft_14 : decode cX2_squaresFromLeft 14 = .ok (.lreturn, 1) := by decide +kernel
theorem dX2_squaresFromLeft_15 : decode cX2_squaresFromLeft 15 = .ok (.lconst 1, 1) := by decide +kernel
theorem dX2_squaresFromLeft_16 : decode cX2_squaresFromLeft 16 = .ok (.iconst 4, 1) := by decide +kernel
theorem dX2_squaresFromLeft_17 : decode cX2_squaresFromLeft 17 = .ok (.iload_n 0, 1) := by decide +kernel
theorem dX2_squaresFromLeft_18 : decode cX2_squaresFromLeft 18 = .ok (.imul, 1) := by decide +kernel
theorem dX2_squaresFromLeft_19 : decode cX2_squaresFromLeft 19 = .ok (.lshl, 1) := by decide +kernel
theorem dX2_squaresFromLeft_20 : decode cX2_squaresFromLeft 20 = .ok (.lconst 1, 1) := by decide +kernel
theorem dX2_squaresFromLeft_21 : decode cX2_squaresFromLeft 21 = .ok (.lsub, 1) := by decide +kernel
theorem dX2_squaresFromLeft_22 : decode cX2_squaresFromLeft 22 = .ok (.iload_n 1, 1) := by decide +kernel
theorem dX2_squaresFromLeft_23 : decode cX2_squaresFromLeft 23 = .ok (.i2l, 1) := by decide +kernel
theorem dX2_squaresFromLeft_24 : decode cX2_squaresFromLeft 24 = .ok (.iconst 4, 1) := by decide +kernel
theorem dX2_squaresFromLeft_25 : decode cX2_squaresFromLeft 25 = .ok (.iload_n 0, 1) := by decide +kernel
theorem dX2_squaresFromLeft_26 : decode cX2_squaresFromLeft 26 = .ok (.imul, 1) := by decide +kernel
theorem dX2_squaresFromLeft_27 : decode cX2_squaresFromLeft 27 = .ok (.lshl, 1) := by decide +kernel
theorem dX2_squaresFromLeft_28 : decode cX2_squaresFromLeft 28 = .ok (.lor, 1) := by decide +kernel
theorem dX2_squaresFromLeft_29 : decode cX2_squaresFromLeft 29 = .ok (.lreturn, 1) := by decide +kernel
set_option maxRecDepth 20000 in
theorem ggX2_countHalving_X2_lowest : GoodIn wsX2_countHalving wsX2_lowest := goodIn_r _ [5] (by decide +kernel) (by decide +kernel)
set_option maxRecDepth 20000 in
theorem gX2_countHalving_X2_lowest : GoodIn wsX2_countHalving (va_wsS RX2 9 yX2_lowest wsX2_lowest) := goodIn_app (goodIn_of _ (by decide +kernel)) ggX2_countHalving_X2_lowest
set_option maxRecDepth 20000 in
theorem ggX2_countHalving_X2_highest : GoodIn wsX2_countHalving wsX2_highest := goodIn_r _ [8] (by decide +kernel) (by decide +kernel)
set_option maxRecDepth 20000 in
theorem gX2_countHalving_X2_highest : GoodIn wsX2_countHalving (va_wsS RX2 15 yX2_highest wsX2_highest) := goodIn_app (goodIn_of _ (by decide +kernel)) ggX2_countHalving_X2_highest
set_option maxRecDepth 20000 in
theorem ggX2_countHalving_X2_cellsAhead : GoodIn wsX2_countHalving wsX2_cellsAhead := goodIn_r _ [11, 12, 13, 4, 14, 15, 16, 17, 18] (by decide +kernel) (by decide +kernel)
set_option maxRecDepth 20000 in
theorem gX2_countHalving_X2_cellsAhead : GoodIn wsX2_countHalving (va_wsS RX2 30 yX2_cellsAhead wsX2_cellsAhead) := goodIn_app (goodIn_of _ (by decide +kernel)) ggX2_countHalving_X2_cellsAhead
set_option maxRecDepth 20000 in
theorem ggX2_countHalving_J13_bitCount_95d88 : GoodIn wsX2_countHalving wsJ13_bitCount_95d88 := goodIn_r _ [22, 23, 24, 25] (by decide +kernel) (by decide +kernel)
set_option maxRecDepth 20000 in
theorem gX2_countHalving_J13_bitCount_95d88 : GoodIn wsX2_countHalving (va_wsS RX2 33 yJ13_bitCount_95d88 wsJ13_bitCount_95d88) := goodIn_app (goodIn_of _ (by decide +kernel)) ggX2_countHalving_J13_bitCount_95d88
theorem dX2_countHalving_0 : decode cX2_countHalving 0 = .ok (.lload_n 0, 1) := by decide +kernel
theorem dX2_countHalving_1 : decode cX2_countHalving 1 = .ok (.lconst 0, 1) := by decide +kernel
theorem dX2_countHalving_2 : decode cX2_countHalving 2 = .ok (.lcmp, 1) := by decide +kernel
theorem dX2_countHalving_3 : decode cX2_countHalving 3 = .ok (.ifCond .ne 5, 3) := by decide +kernel
theorem dX2_countHalving_6 : decode cX2_countHalving 6 = .ok (.iconst 0, 1) := by decide +kernel
theorem dX2_countHalving_7 : decode cX2_countHalving 7 = .ok (.ireturn, 1) := by decide +kernel
theorem dX2_countHalving_8 : decode cX2_countHalving 8 = .ok (.iconst 0, 1) := by decide +kernel
theorem dX2_countHalving_9 : decode cX2_countHalving 9 = .ok (.istore_n 2, 1) := by decide +kernel
theorem dX2_countHalving_10 : decode cX2_countHalving 10 = .ok (.iconst 0, 1) := by decide +kernel
theorem dX2_countHalving_11 : decode cX2_countHalving 11 = .ok (.istore_n 3, 1) := by decide +kernel
theorem dX2_countHalving_12 : decode cX2_countHalving 12 = .ok (.iload_n 3, 1) := by decide +kernel
theorem dX2_countHalving_13 : decode cX2_countHalving 13 = .ok (.iconst 4, 1) := by decide +kernel
theorem dX2_countHalving_14 : decode cX2_countHalving 14 = .ok (.if_icmp .ge 62, 3) := by decide +kernel
theorem dX2_countHalving_17 : decode cX2_countHalving 17 = .ok (.iload_n 3, 1) := by decide +kernel
theorem dX2_countHalving_18 : decode cX2_countHalving 18 = .ok (.invokestatic 9, 3) := by decide +kernel
theorem dX2_countHalving_21 : decode cX2_countHalving 21 = .ok (.istore 4, 2) := by decide +kernel
theorem dX2_countHalving_23 : decode cX2_countHalving 23 = .ok (.iload 4, 2) := by decide +kernel
theorem dX2_countHalving_25 : decode cX2_countHalving 25 = .ok (.iload_n 3, 1) := by decide +kernel
theorem dX2_countHalving_26 : decode cX2_countHalving 26 = .ok (.invokestatic 15, 3) := by decide +kernel
theorem dX2_countHalving_29 : decode cX2_countHalving 29 = .ok (.if_icmp .gt 41, 3) := by decide +kernel
theorem dX2_countHalving_32 : decode cX2_countHalving 32 = .ok (.iload_n 3, 1) := by decide +kernel
theorem dX2_countHalving_33 : decode cX2_countHalving 33 = .ok (.iload 4, 2) := by decide +kernel
theorem dX2_countHalving_35 : decode cX2_countHalving 35 = .ok (.invokestatic 30, 3) := by decide +kernel
theorem dX2_countHalving_38 : decode cX2_countHalving 38 = .ok (.lstore 5, 2) := by decide +kernel
theorem dX2_countHalving_40 : decode cX2_countHalving 40 = .ok (.lload_n 0, 1) := by decide +kernel
theorem dX2_countHalving_41 : decode cX2_countHalving 41 = .ok (.lload 5, 2) := by decide +kernel
theorem dX2_countHalving_43 : decode cX2_countHalving 43 = .ok (.land, 1) := by decide +kernel
theorem dX2_countHalving_44 : decode cX2_countHalving 44 = .ok (.invokestatic 33, 3) := by decide +kernel
theorem dX2_countHalving_47 : decode cX2_countHalving 47 = .ok (.lload_n 0, 1) := by decide +kernel
theorem dX2_countHalving_48 : decode cX2_countHalving 48 = .ok (.lload 5, 2) := by decide +kernel
theorem dX2_countHalving_50 : decode cX2_countHalving 50 = .ok (.ldc2_w 39, 3) := by decide +kernel
theorem dX2_countHalving_53 : decode cX2_countHalving 53 = .ok (.lxor, 1) := by decide +kernel
theorem dX2_countHalving_54 : decode cX2_countHalving 54 = .ok (.land, 1) := by decide +kernel
theorem dX2_countHalving_55 : decode cX2_countHalving 55 = .ok (.invokestatic 33, 3) := by decide +kernel
theorem dX2_countHalving_58 : decode cX2_countHalving 58 = .ok (.if_icmp .ne 6, 3) := by decide +kernel
theorem dX2_countHalving_61 : decode cX2_countHalving 61 = .ok (.iinc 2 1, 3) := by decide +kernel
theorem dX2_countHalving_64 : decode cX2_countHalving 64 = .ok (.iinc 4 1, 3) := by decide +kernel
theorem dX2_countHalving_67 : decode cX2_countHalving 67 = .ok (.goto (-44), 3) := by decide +kernel
theorem dX2_countHalving_70 : decode cX2_countHalving 70 = .ok (.iinc 3 1, 3) := by decide +kernel
theorem dX2_countHalving_73 : decode cX2_countHalving 73 = .ok (.goto (-61), 3) := by decide +kernel
theorem dX2_countHalving_76 : decode cX2_countHalving 76 = .ok (.iload_n 2, 1) := by decide +kernel
theorem dX2_countHalving_77 : decode cX2_countHalving 77 = .ok (.ireturn, 1) := by decide +kernel
theorem dX3_swapped_0 : decode cX3_swapped 0 = .ok (.lload_n 0, 1) := by decide +kernel
theorem dX3_swapped_1 : decode cX3_swapped 1 = .ok (.iload 4, 2) := by decide +kernel
theorem dX3_swapped_3 : decode cX3_swapped 3 = .ok (.lushr, 1) := by decide +kernel
theorem dX3_swapped_4 : decode cX3_swapped 4 = .ok (.lload_n 0, 1) := by decide +kernel
theorem dX3_swapped_5 : decode cX3_swapped 5 = .ok (.lxor, 1) := by decide +kernel
theorem dX3_swapped_6 : decode cX3_swapped 6 = .ok (.lload_n 2, 1) := by decide +kernel
theorem dX3_swapped_7 : decode cX3_swapped 7 = .ok (.land, 1) := by decide +kernel
theorem dX3_swapped_8 : decode cX3_swapped 8 = .ok (.lstore 5, 2) := by decide +kernel
theorem dX3_swapped_10 : decode cX3_swapped 10 = .ok (.lload_n 0, 1) := by decide +kernel
theorem dX3_swapped_11 : decode cX3_swapped 11 = .ok (.lload 5, 2) := by decide +kernel
theorem dX3_swapped_13 : decode cX3_swapped 13 = .ok (.lxor, 1) := by decide +kernel
theorem dX3_swapped_14 : decode cX3_swapped 14 = .ok (.lload 5, 2) := by decide +kernel
theorem dX3_swapped_16 : decode cX3_swapped 16 = .ok (.iload 4, 2) := by decide +kernel
theorem dX3_swapped_18 : decode cX3_swapped 18 = .ok (.lshl, 1) := by decide +kernel
theorem dX3_swapped_19 : decode cX3_swapped 19 = .ok (.lxor, 1) := by decide +kernel
theorem dX3_swapped_20 : decode cX3_swapped 20 = .ok (.lreturn, 1) := by decide +kernel
set_option maxRecDepth 20000 in
theorem ggX3_mirrored_X3_swapped : GoodIn wsX3_mirrored wsX3_swapped := goodIn_r _ [7] (by decide +kernel) (by decide +kernel)
set_option maxRecDepth 20000 in
theorem gX3_mirrored_X3_swapped : GoodIn wsX3_mirrored (va_wsS RX3 11 yX3_swapped wsX3_swapped) := goodIn_app (goodIn_of _ (by decide +kernel)) ggX3_mirrored_X3_swapped
theorem dX3_mirrored_0 : decode cX3_mirrored 0 = .ok (.lload_n 0, 1) := by decide +kernel
theorem dX3_mirrored_1 : decode cX3_mirrored 1 = .ok (.ldc2_w 9, 3) := by decide +kernel
theorem dX3_mirrored_4 : decode cX3_mirrored 4 = .ok (.bipush 8, 2) := by decide +kernel
theorem dX3_mirrored_6 : decode cX3_mirrored 6 = .ok (.invokestatic 11, 3) := by decide +kernel
theorem dX3_mirrored_9 : decode cX3_mirrored 9 = .ok (.ldc2_w 17, 3) := by decide +kernel
theorem dX3_mirrored_12 : decode cX3_mirrored 12 = .ok (.iconst 4, 1) := by decide +kernel
theorem dX3_mirrored_13 : decode cX3_mirrored 13 = .ok (.invokestatic 11, 3) := by decide +kernel
theorem dX3_mirrored_16 : decode cX3_mirrored 16 = .ok (.lstore_n 2, 1) := by decide +kernel
theorem dX3_mirrored_17 : decode cX3_mirrored 17 = .ok (.lload_n 2, 1) := by decide +kernel
theorem dX3_mirrored_18 : decode cX3_mirrored 18 = .ok (.ldc2_w 21, 3) := by decide +kernel
theorem dX3_mirrored_21 : decode cX3_mirrored 21 = .ok (.iconst 2, 1) := by decide +kernel
theorem dX3_mirrored_22 : decode cX3_mirrored 22 = .ok (.invokestatic 11, 3) := by decide +kernel
theorem dX3_mirrored_25 : decode cX3_mirrored 25 = .ok (.lreturn, 1) := by decide +kernel
set_option maxRecDepth 20000 in
theorem ggX3_mirroredAslant_X3_swapped : GoodIn wsX3_mirroredAslant wsX3_swapped := goodIn_r _ [8] (by decide +kernel) (by decide +kernel)
set_option maxRecDepth 20000 in
theorem gX3_mirroredAslant_X3_swapped : GoodIn wsX3_mirroredAslant (va_wsS RX3 11 yX3_swapped wsX3_swapped) := goodIn_app (goodIn_of _ (by decide +kernel)) ggX3_mirroredAslant_X3_swapped
theorem dX3_mirroredAslant_0 : decode cX3_mirroredAslant 0 = .ok (.lload_n 0, 1) := by decide +kernel
theorem dX3_mirroredAslant_1 : decode cX3_mirroredAslant 1 = .ok (.ldc2_w 23, 3) := by decide +kernel
theorem dX3_mirroredAslant_4 : decode cX3_mirroredAslant 4 = .ok (.bipush 24, 2) := by decide +kernel
theorem dX3_mirroredAslant_6 : decode cX3_mirroredAslant 6 = .ok (.invokestatic 11, 3) := by decide +kernel
theorem dX3_mirroredAslant_9 : decode cX3_mirroredAslant 9 = .ok (.ldc2_w 25, 3) := by decide +kernel
theorem dX3_mirroredAslant_12 : decode cX3_mirroredAslant 12 = .ok (.bipush 12, 2) := by decide +kernel
theorem dX3_mirroredAslant_14 : decode cX3_mirroredAslant 14 = .ok (.invokestatic 11, 3) := by decide +kernel
theorem dX3_mirroredAslant_17 : decode cX3_mirroredAslant 17 = .ok (.lstore_n 2, 1) := by decide +kernel
theorem dX3_mirroredAslant_18 : decode cX3_mirroredAslant 18 = .ok (.lload_n 2, 1) := by decide +kernel
theorem dX3_mirroredAslant_19 : decode cX3_mirroredAslant 19 = .ok (.ldc2_w 27, 3) := by decide +kernel
theorem dX3_mirroredAslant_22 : decode cX3_mirroredAslant 22 = .ok (.iconst 2, 1) := by decide +kernel
theorem dX3_mirroredAslant_23 : decode cX3_mirroredAslant 23 = .ok (.invokestatic 11, 3) := by decide +kernel
theorem dX3_mirroredAslant_26 : decode cX3_mirroredAslant 26 = .ok (.ldc2_w 29, 3) := by decide +kernel
theorem dX3_mirroredAslant_29 : decode cX3_mirroredAslant 29 = .ok (.iconst 1, 1) := by decide +kernel
theorem dX3_mirroredAslant_30 : decode cX3_mirroredAslant 30 = .ok (.invokestatic 11, 3) := by decide +kernel
theorem dX3_mirroredAslant_33 : decode cX3_mirroredAslant 33 = .ok (.lreturn, 1) := by decide +kernel
set_option maxRecDepth 20000 in
theorem ggX3_quarterRight_X3_mirroredAslant : GoodIn wsX3_quarterRight wsX3_mirroredAslant := goodIn_r _ [4, 5, 6, 7, 8, 9, 10, 3, 11] (by decide +kernel) (by decide +kernel)
set_option maxRecDepth 20000 in
theorem gX3_quarterRight_X3_mirroredAslant : GoodIn wsX3_quarterRight (va_wsS RX3 31 yX3_mirroredAslant wsX3_mirroredAslant) := goodIn_app (goodIn_of _ (by decide +kernel)) ggX3_quarterRight_X3_mirroredAslant
set_option maxRecDepth 20000 in
theorem ggX3_quarterRight_X3_mirrored : GoodIn wsX3_quarterRight wsX3_mirrored := goodIn_r _ [14, 15, 16, 17, 9, 10, 3, 11] (by decide +kernel) (by decide +kernel)
set_option maxRecDepth 20000 in
theorem gX3_quarterRight_X3_mirrored : GoodIn wsX3_quarterRight (va_wsS RX3 35 yX3_mirrored wsX3_mirrored) := goodIn_app (goodIn_of _ (by decide +kernel)) ggX3_quarterRight_X3_mirrored
theorem dX3_quarterRight_0 : decode cX3_quarterRight 0 = .ok (.lload_n 0, 1) := by decide +kernel
theorem dX3_quarterRight_1 : decode cX3_quarterRight 1 = .ok (.invokestatic 31, 3) := by decide +kernel
theorem dX3_quarterRight_4 : decode cX3_quarterRight 4 = .ok (.invokestatic 35, 3) := by decide +kernel
theorem dX3_quarterRight_7 : decode cX3_quarterRight 7 = .ok (.lreturn, 1) := by decide +kernel
set_option maxRecDepth 20000 in
theorem ggX3_turned_X3_mirrored : GoodIn wsX3_turned wsX3_mirrored := goodIn_r _ [4, 5, 6, 7, 8, 9, 3, 10] (by decide +kernel) (by decide +kernel)
set_option maxRecDepth 20000 in
theorem gX3_turned_X3_mirrored : GoodIn wsX3_turned (va_wsS RX3 35 yX3_mirrored wsX3_mirrored) := goodIn_app (goodIn_of _ (by decide +kernel)) ggX3_turned_X3_mirrored
set_option maxRecDepth 20000 in
theorem ggX3_turned_X3_quarterRight : GoodIn wsX3_turned wsX3_quarterRight := goodIn_r _ [13, 14, 15, 3, 16, 17, 18, 19, 20, 8, 9, 10, 1, 2, 4, 5, 6, 7] (by decide +kernel) (by decide +kernel)
set_option maxRecDepth 20000 in
theorem gX3_turned_X3_quarterRight : GoodIn wsX3_turned (va_wsS RX3 38 yX3_quarterRight wsX3_quarterRight) := goodIn_app (goodIn_of _ (by decide +kernel)) ggX3_turned_X3_quarterRight
theorem dX3_turned_0 : decode cX3_turned 0 = .ok (.iload_n 2, 1) := by decide +kernel
theorem dX3_turned_1 : decode cX3_turned 1 = .ok (.iconst 4, 1) := by decide +kernel
theorem dX3_turned_2 : decode cX3_turned 2 = .ok (.if_icmp .lt 10, 3) := by decide +kernel
theorem dX3_turned_5 : decode cX3_turned 5 = .ok (.lload_n 0, 1) := by decide +kernel
theorem dX3_turned_6 : decode cX3_turned 6 = .ok (.invokestatic 35, 3) := by decide +kernel
theorem dX3_turned_9 : decode cX3_turned 9 = .ok (.goto 4, 3) := by decide +kernel
theorem dX3_turned_12 : decode cX3_turned 12 = .ok (.lload_n 0, 1) := by decide +kernel
theorem dX3_turned_13 : decode cX3_turned 13 = .ok (.lstore_n 3, 1) := by decide +kernel
theorem dX3_turned_14 : decode cX3_turned 14 = .ok (.iconst 0, 1) := by decide +kernel
theorem dX3_turned_15 : decode cX3_turned 15 = .ok (.istore 5, 2) := by decide +kernel
theorem dX3_turned_17 : decode cX3_turned 17 = .ok (.iload 5, 2) := by decide +kernel
theorem dX3_turned_19 : decode cX3_turned 19 = .ok (.iload_n 2, 1) := by decide +kernel
theorem dX3_turned_20 : decode cX3_turned 20 = .ok (.iconst 3, 1) := by decide +kernel
theorem dX3_turned_21 : decode cX3_turned 21 = .ok (.iand, 1) := by decide +kernel
theorem dX3_turned_22 : decode cX3_turned 22 = .ok (.if_icmp .ge 14, 3) := by decide +kernel
theorem dX3_turned_25 : decode cX3_turned 25 = .ok (.lload_n 3, 1) := by decide +kernel
theorem dX3_turned_26 : decode cX3_turned 26 = .ok (.invokestatic 38, 3) := by decide +kernel
theorem dX3_turned_29 : decode cX3_turned 29 = .ok (.lstore_n 3, 1) := by decide +kernel
theorem dX3_turned_30 : decode cX3_turned 30 = .ok (.iinc 5 1, 3) := by decide +kernel
theorem dX3_turned_33 : decode cX3_turned 33 = .ok (.goto (-16), 3) := by decide +kernel
theorem dX3_turned_36 : decode cX3_turned 36 = .ok (.lload_n 3, 1) := by decide +kernel
theorem dX3_turned_37 : decode cX3_turned 37 = .ok (.lreturn, 1) := by decide +kernel
theorem dX3_staysOnBoard_0 : decode cX3_staysOnBoard 0 = .ok (.iconst 0, 1) := by decide +kernel
theorem dX3_staysOnBoard_1 : decode cX3_staysOnBoard 1 = .ok (.istore 4, 2) := by decide +kernel
theorem dX3_staysOnBoard_3 : decode cX3_staysOnBoard 3 = .ok (.iload 4, 2) := by decide +kernel
theorem dX3_staysOnBoard_5 : decode cX3_staysOnBoard 5 = .ok (.iload_n 2, 1) := by decide +kernel
theorem dX3_staysOnBoard_6 : decode cX3_staysOnBoard 6 = .ok (.invokestatic 41, 3) := by decide +kernel
theorem dX3_staysOnBoard_9 : decode cX3_staysOnBoard 9 = .ok (.if_icmp .ge 37, 3) := by decide +kernel
theorem dX3_staysOnBoard_12 : decode cX3_staysOnBoard 12 = .ok (.lload_n 0, 1) := by decide +kernel
theorem dX3_staysOnBoard_13 : decode cX3_staysOnBoard 13 = .ok (.ldc2_w 47, 3) := by decide +kernel
theorem dX3_staysOnBoard_16 : decode cX3_staysOnBoard 16 = .ok (.iconst 4, 1) := by decide +kernel
theorem dX3_staysOnBoard_17 : decode cX3_staysOnBoard 17 = .ok (.iload_n 2, 1) := by decide +kernel
theorem dX3_staysOnBoard_18 : decode cX3_staysOnBoard 18 = .ok (.ifCond .le 10, 3) := by decide +kernel
theorem dX3_staysOnBoard_21 : decode cX3_staysOnBoard 21 = .ok (.iconst 3, 1) := by decide +kernel
theorem dX3_staysOnBoard_22 : decode cX3_staysOnBoard 22 = .ok (.iload 4, 2) := by decide +kernel
theorem dX3_staysOnBoard_24 : decode cX3_staysOnBoard 24 = .ok (.isub, 1) := by decide +kernel
theorem dX3_staysOnBoard_25 : decode cX3_staysOnBoard 25 = .ok (.goto 5, 3) := by decide +kernel
theorem dX3_staysOnBoard_28 : decode cX3_staysOnBoard 28 = .ok (.iload 4, 2) := by decide +kernel
theorem dX3_staysOnBoard_30 : decode cX3_staysOnBoard 30 = .ok (.imul, 1) := by decide +kernel
theorem dX3_staysOnBoard_31 : decode cX3_staysOnBoard 31 = .ok (.lshl, 1) := by decide +kernel
theorem dX3_staysOnBoard_32 : decode cX3_staysOnBoard 32 = .ok (.land, 1) := by decide +kernel
theorem dX3_staysOnBoard_33 : decode cX3_staysOnBoard 33 = .ok (.lconst 0, 1) := by decide +kernel
theorem dX3_staysOnBoard_34 : decode cX3_staysOnBoard 34 = .ok (.lcmp, 1) := by decide +kernel
theorem dX3_staysOnBoard_35 : decode cX3_staysOnBoard 35 = .ok (.ifCond .eq 5, 3) := by decide +kernel
theorem dX3_staysOnBoard_38 : decode cX3_staysOnBoard 38 = .ok (.iconst 0, 1) := by decide +kernel
theorem dX3_staysOnBoard_39 : decode cX3_staysOnBoard 39 = .ok (.ireturn, 1) := by decide +kernel
theorem dX3_staysOnBoard_40 : decode cX3_staysOnBoard 40 = .ok (.iinc 4 1, 3) := by decide +kernel
theorem dX3_staysOnBoard_43 : decode cX3_staysOnBoard 43 = .ok (.goto (-40), 3) := by decide +kernel
theorem dX3_staysOnBoard_46 : decode cX3_staysOnBoard 46 = .ok (.iconst 0, 1) := by decide +kernel
theorem dX3_staysOnBoard_47 : decode cX3_staysOnBoard 47 = .ok (.istore 4, 2) := by decide +kernel
theorem dX3_staysOnBoard_49 : decode cX3_staysOnBoard 49 = .ok (.iload 4, 2) := by decide +kernel
theorem dX3_staysOnBoard_51 : decode cX3_staysOnBoard 51 = .ok (.iload_n 3, 1) := by decide +kernel
theorem dX3_staysOnBoard_52 : decode cX3_staysOnBoard 52 = .ok (.invokestatic 41, 3) := by decide +kernel
theorem dX3_staysOnBoard_55 : decode cX3_staysOnBoard 55 = .ok (.if_icmp .ge 38, 3) := by decide +kernel
theorem dX3_staysOnBoard_58 : decode cX3_staysOnBoard 58 = .ok (.lload_n 0, 1) := by decide +kernel
theorem dX3_staysOnBoard_59 : decode cX3_staysOnBoard 59 = .ok (.ldc2_w 49, 3) := by decide +kernel
theorem dX3_staysOnBoard_62 : decode cX3_staysOnBoard 62 = .ok (.bipush 16, 2) := by decide +kernel
theorem dX3_staysOnBoard_64 : decode cX3_staysOnBoard 64 = .ok (.iload_n 3, 1) := by decide +kernel
theorem dX3_staysOnBoard_65 : decode cX3_staysOnBoard 65 = .ok (.ifCond .le 10, 3) := by decide +kernel
theorem dX3_staysOnBoard_68 : decode cX3_staysOnBoard 68 = .ok (.iconst 3, 1) := by decide +kernel
theorem dX3_staysOnBoard_69 : decode cX3_staysOnBoard 69 = .ok (.iload 4, 2) := by decide +kernel
theorem dX3_staysOnBoard_71 : decode cX3_staysOnBoard 71 = .ok (.isub, 1) := by decide +kernel
theorem dX3_staysOnBoard_72 : decode cX3_staysOnBoard 72 = .ok (.goto 5, 3) := by decide +kernel
theorem dX3_staysOnBoard_75 : decode cX3_staysOnBoard 75 = .ok (.iload 4, 2) := by decide +kernel
theorem dX3_staysOnBoard_77 : decode cX3_staysOnBoard 77 = .ok (.imul, 1) := by decide +kernel
theorem dX3_staysOnBoard_78 : decode cX3_staysOnBoard 78 = .ok (.lshl, 1) := by decide +kernel
theorem dX3_staysOnBoard_79 : decode cX3_staysOnBoard 79 = .ok (.land, 1) := by decide +kernel
theorem dX3_staysOnBoard_80 : decode cX3_staysOnBoard 80 = .ok (.lconst 0, 1) := by decide +kernel
theorem dX3_staysOnBoard_81 : decode cX3_staysOnBoard 81 = .ok (.lcmp, 1) := by decide +kernel
theorem dX3_staysOnBoard_82 : decode cX3_staysOnBoard 82 = .ok (.ifCond .eq 5, 3) := by decide +kernel
theorem dX3_staysOnBoard_85 : decode cX3_staysOnBoard 85 = .ok (.iconst 0, 1) := by decide +kernel
theorem dX3_staysOnBoard_86 : decode cX3_staysOnBoard 86 = .ok (.ireturn, 1) := by decide +kernel
theorem dX3_staysOnBoard_87 : decode cX3_staysOnBoard 87 = .ok (.iinc 4 1, 3) := by decide +kernel
theorem dX3_staysOnBoard_90 : decode cX3_staysOnBoard 90 = .ok (.goto (-41), 3) := by decide +kernel
theorem dX3_staysOnBoard_93 : decode cX3_staysOnBoard 93 = .ok (.iconst 1, 1) := by decide +kernel
theorem dX3_staysOnBoard_94 : decode cX3_staysOnBoard 94 = .ok (.ireturn, 1) := by decide +kernel
theorem dX3_shifted_0 : decode cX3_shifted 0 = .ok (.iconst 4, 1) := by decide +kernel
theorem dX3_shifted_1 : decode cX3_shifted 1 = .ok (.iload_n 2, 1) := by decide +kernel
theorem dX3_shifted_2 : decode cX3_shifted 2 = .ok (.imul, 1) := by decide +kernel
theorem dX3_shifted_3 : decode cX3_shifted 3 = .ok (.bipush 16, 2) := by decide +kernel
theorem dX3_shifted_5 : decode cX3_shifted 5 = .ok (.iload_n 3, 1) := by decide +kernel
theorem dX3_shifted_6 : decode cX3_shifted 6 = .ok (.imul, 1) := by decide +kernel
theorem dX3_shifted_7 : decode cX3_shifted 7 = .ok (.iadd, 1) := by decide +kernel
theorem dX3_shifted_8 : decode cX3_shifted 8 = .ok (.istore 4, 2) := by decide +kernel
theorem dX3_shifted_10 : decode cX3_shifted 10 = .ok (.iload 4, 2) := by decide +kernel
theorem dX3_shifted_12 : decode cX3_shifted 12 = .ok (.ifCond .ge 11, 3) := by decide +kernel
theorem dX3_shifted_15 : decode cX3_shifted 15 = .ok (.lload_n 0, 1) := by decide +kernel
theorem dX3_shifted_16 : decode cX3_shifted 16 = .ok (.iload 4, 2) := by decide +kernel
theorem dX3_shifted_18 : decode cX3_shifted 18 = .ok (.ineg, 1) := by decide +kernel
theorem dX3_shifted_19 : decode cX3_shifted 19 = .ok (.lushr, 1) := by decide +kernel
theorem dX3_shifted_20 : decode cX3_shifted 20 = .ok (.goto 7, 3) := by decide +kernel
theorem dX3_shifted_23 : decode cX3_shifted 23 = .ok (.lload_n 0, 1) := by decide +kernel
theorem dX3_shifted_24 : decode cX3_shifted 24 = .ok (.iload 4, 2) := by decide +kernel
theorem dX3_shifted_26 : decode cX3_shifted 26 = .ok (.lshl, 1) := by decide +kernel
theorem dX3_shifted_27 : decode cX3_shifted 27 = .ok (.lreturn, 1) := by decide +kernel
theorem dX3_inCorner_0 : decode cX3_inCorner 0 = .ok (.lload_n 0, 1) := by decide +kernel
theorem dX3_inCorner_1 : decode cX3_inCorner 1 = .ok (.lstore_n 2, 1) := by decide +kernel
theorem dX3_inCorner_2 : decode cX3_inCorner 2 = .ok (.iconst 0, 1) := by decide +kernel
theorem dX3_inCorner_3 : decode cX3_inCorner 3 = .ok (.istore 4, 2) := by decide +kernel
theorem dX3_inCorner_5 : decode cX3_inCorner 5 = .ok (.iload 4, 2) := by decide +kernel
theorem dX3_inCorner_7 : decode cX3_inCorner 7 = .ok (.iconst 3, 1) := by decide +kernel
theorem dX3_inCorner_8 : decode cX3_inCorner 8 = .ok (.if_icmp .ge 24, 3) := by decide +kernel
theorem dX3_inCorner_11 : decode cX3_inCorner 11 = .ok (.lload_n 2, 1) := by decide +kernel
theorem dX3_inCorner_12 : decode cX3_inCorner 12 = .ok (.ldc2_w 49, 3) := by decide +kernel
theorem dX3_inCorner_15 : decode cX3_inCorner 15 = .ok (.land, 1) := by decide +kernel
theorem dX3_inCorner_16 : decode cX3_inCorner 16 = .ok (.lconst 0, 1) := by decide +kernel
theorem dX3_inCorner_17 : decode cX3_inCorner 17 = .ok (.lcmp, 1) := by decide +kernel
theorem dX3_inCorner_18 : decode cX3_inCorner 18 = .ok (.ifCond .ne 14, 3) := by decide +kernel
theorem dX3_inCorner_21 : decode cX3_inCorner 21 = .ok (.lload_n 2, 1) := by decide +kernel
theorem dX3_inCorner_22 : decode cX3_inCorner 22 = .ok (.bipush 16, 2) := by decide +kernel
theorem dX3_inCorner_24 : decode cX3_inCorner 24 = .ok (.lushr, 1) := by decide +kernel
theorem dX3_inCorner_25 : decode cX3_inCorner 25 = .ok (.lstore_n 2, 1) := by decide +kernel
theorem dX3_inCorner_26 : decode cX3_inCorner 26 = .ok (.iinc 4 1, 3) := by decide +kernel
theorem dX3_inCorner_29 : decode cX3_inCorner 29 = .ok (.goto (-24), 3) := by decide +kernel
theorem dX3_inCorner_32 : decode cX3_inCorner 32 = .ok (.iconst 0, 1) := by decide +kernel
theorem dX3_inCorner_33 : decode cX3_inCorner 33 = .ok (.istore 4, 2) := by decide +kernel
theorem dX3_inCorner_35 : decode cX3_inCorner 35 = .ok (.iload 4, 2) := by decide +kernel
theorem dX3_inCorner_37 : decode cX3_inCorner 37 = .ok (.iconst 3, 1) := by decide +kernel
theorem dX3_inCorner_38 : decode cX3_inCorner 38 = .ok (.if_icmp .ge 23, 3) := by decide +kernel
theorem dX3_inCorner_41 : decode cX3_inCorner 41 = .ok (.lload_n 2, 1) := by decide +kernel
theorem dX3_inCorner_42 : decode cX3_inCorner 42 = .ok (.ldc2_w 47, 3) := by decide +kernel
theorem dX3_inCorner_45 : decode cX3_inCorner 45 = .ok (.land, 1) := by decide +kernel
theorem dX3_inCorner_46 : decode cX3_inCorner 46 = .ok (.lconst 0, 1) := by decide +kernel
theorem dX3_inCorner_47 : decode cX3_inCorner 47 = .ok (.lcmp, 1) := by decide +kernel
theorem dX3_inCorner_48 : decode cX3_inCorner 48 = .ok (.ifCond .ne 13, 3) := by decide +kernel
theorem dX3_inCorner_51 : decode cX3_inCorner 51 = .ok (.lload_n 2, 1) := by decide +kernel
theorem dX3_inCorner_52 : decode cX3_inCorner 52 = .ok (.iconst 4, 1) := by decide +kernel
theorem dX3_inCorner_53 : decode cX3_inCorner 53 = .ok (.lushr, 1) := by decide +kernel
theorem dX3_inCorner_54 : decode cX3_inCorner 54 = .ok (.lstore_n 2, 1) := by decide +kernel
theorem dX3_inCorner_55 : decode cX3_inCorner 55 = .ok (.iinc 4 1, 3) := by decide +kernel
theorem dX3_inCorner_58 : decode cX3_inCorner 58 = .ok (.goto (-23), 3) := by decide +kernel
theorem dX3_inCorner_61 : decode cX3_inCorner 61 = .ok (.lload_n 2, 1) := by decide +kernel
theorem dX3_inCorner_62 : decode cX3_inCorner 62 = .ok (.lreturn, 1) := by decide +kernel
set_option maxRecDepth 20000 in
theorem ggX3_leastForm_X3_inCorner : GoodIn wsX3_leastForm wsX3_inCorner := goodIn_r _ [4, 5, 6] (by decide +kernel) (by decide +kernel)
set_option maxRecDepth 20000 in
theorem gX3_leastForm_X3_inCorner : GoodIn wsX3_leastForm (va_wsS RX3 51 yX3_inCorner wsX3_inCorner) := goodIn_app (goodIn_of _ (by decide +kernel)) ggX3_leastForm_X3_inCorner
set_option maxRecDepth 20000 in
theorem ggX3_leastForm_X3_turned : GoodIn wsX3_leastForm wsX3_turned := goodIn_r _ [9, 10, 11, 3, 12, 13, 14, 15, 16, 17, 18, 19, 20, 21, 22, 23, 24, 25, 26, 27, 28] (by decide +kernel) (by decide +kernel)
set_option maxRecDepth 20000 in
theorem gX3_leastForm_X3_turned : GoodIn wsX3_leastForm (va_wsS RX3 54 yX3_turned wsX3_turned) := goodIn_app (goodIn_of _ (by decide +kernel)) ggX3_leastForm_X3_turned
set_option maxRecDepth 20000 in
theorem ggX3_leastForm_X7_isLess : GoodIn wsX3_leastForm wsX7_isLess := goodIn_r _ [31, 32] (by decide +kernel) (by decide +kernel)
set_option maxRecDepth 20000 in
theorem gX3_leastForm_X7_isLess_n58 : GoodIn wsX3_leastForm (wsX7_isLess) := ggX3_leastForm_X7_isLess
theorem dX3_leastForm_0 : decode cX3_leastForm 0 = .ok (.lload_n 0, 1) := by decide +kernel
theorem dX3_leastForm_1 : decode cX3_leastForm 1 = .ok (.invokestatic 51, 3) := by decide +kernel
theorem dX3_leastForm_4 : decode cX3_leastForm 4 = .ok (.lstore_n 2, 1) := by decide +kernel
theorem dX3_leastForm_5 : decode cX3_leastForm 5 = .ok (.iconst 1, 1) := by decide +kernel
theorem dX3_leastForm_6 : decode cX3_leastForm 6 = .ok (.istore 4, 2) := by decide +kernel
theorem dX3_leastForm_8 : decode cX3_leastForm 8 = .ok (.iload 4, 2) := by decide +kernel
theorem dX3_leastForm_10 : decode cX3_leastForm 10 = .ok (.bipush 8, 2) := by decide +kernel
theorem dX3_leastForm_12 : decode cX3_leastForm 12 = .ok (.if_icmp .ge 32, 3) := by decide +kernel
theorem dX3_leastForm_15 : decode cX3_leastForm 15 = .ok (.lload_n 0, 1) := by decide +kernel
theorem dX3_leastForm_16 : decode cX3_leastForm 16 = .ok (.iload 4, 2) := by decide +kernel
theorem dX3_leastForm_18 : decode cX3_leastForm 18 = .ok (.invokestatic 54, 3) := by decide +kernel
theorem dX3_leastForm_21 : decode cX3_leastForm 21 = .ok (.invokestatic 51, 3) := by decide +kernel
theorem dX3_leastForm_24 : decode cX3_leastForm 24 = .ok (.lstore 5, 2) := by decide +kernel
theorem dX3_leastForm_26 : decode cX3_leastForm 26 = .ok (.lload 5, 2) := by decide +kernel
theorem dX3_leastForm_28 : decode cX3_leastForm 28 = .ok (.lload_n 2, 1) := by decide +kernel
theorem dX3_leastForm_29 : decode cX3_leastForm 29 = .ok (.invokestatic 58, 3) := by decide +kernel
theorem dX3_leastForm_32 : decode cX3_leastForm 32 = .ok (.ifCond .eq 6, 3) := by decide +kernel
theorem dX3_leastForm_35 : decode cX3_leastForm 35 = .ok (.lload 5, 2) := by decide +kernel
theorem dX3_leastForm_37 : decode cX3_leastForm 37 = .ok (.lstore_n 2, 1) := by decide +kernel
theorem dX3_leastForm_38 : decode cX3_leastForm 38 = .ok (.iinc 4 1, 3) := by decide +kernel
theorem dX3_leastForm_41 : decode cX3_leastForm 41 = .ok (.goto (-33), 3) := by decide +kernel
theorem dX3_leastForm_44 : decode cX3_leastForm 44 = .ok (.lload_n 2, 1) := by decide +kernel
theorem dX3_leastForm_45 : decode cX3_leastForm 45 = .ok (.lreturn, 1) := by decide +kernel
set_option maxRecDepth 20000 in
theorem ggX3_turnsOntoItself_X3_inCorner : GoodIn wsX3_turnsOntoItself wsX3_inCorner := goodIn_r _ [4, 5, 6] (by decide +kernel) (by decide +kernel)
set_option maxRecDepth 20000 in
theorem gX3_turnsOntoItself_X3_inCorner : GoodIn wsX3_turnsOntoItself (va_wsS RX3 51 yX3_inCorner wsX3_inCorner) := goodIn_app (goodIn_of _ (by decide +kernel)) ggX3_turnsOntoItself_X3_inCorner
set_option maxRecDepth 20000 in
theorem ggX3_turnsOntoItself_X3_turned : GoodIn wsX3_turnsOntoItself wsX3_turned := goodIn_r _ [9, 10, 11, 3, 12, 13, 14, 15, 16, 17, 18, 19, 20, 21, 22, 23, 24, 25, 26, 27, 28] (by decide +kernel) (by decide +kernel)
set_option maxRecDepth 20000 in
theorem gX3_turnsOntoItself_X3_turned : GoodIn wsX3_turnsOntoItself (va_wsS RX3 54 yX3_turned wsX3_turned) := goodIn_app (goodIn_of _ (by decide +kernel)) ggX3_turnsOntoItself_X3_turned
theorem dX3_turnsOntoItself_0 : decode cX3_turnsOntoItself 0 = .ok (.lload_n 0, 1) := by decide +kernel
theorem dX3_turnsOntoItself_1 : decode cX3_turnsOntoItself 1 = .ok (.invokestatic 51, 3) := by decide +kernel
theorem dX3_turnsOntoItself_4 : decode cX3_turnsOntoItself 4 = .ok (.lstore_n 2, 1) := by decide +kernel
theorem dX3_turnsOntoItself_5 : decode cX3_turnsOntoItself 5 = .ok (.iconst 0, 1) := by decide +kernel
theorem dX3_turnsOntoItself_6 : decode cX3_turnsOntoItself 6 = .ok (.istore 4, 2) := by decide +kernel
theorem dX3_turnsOntoItself_8 : decode cX3_turnsOntoItself 8 = .ok (.iconst 0, 1) := by decide +kernel
theorem dX3_turnsOntoItself_9 : decode cX3_turnsOntoItself 9 = .ok (.istore 5, 2) := by decide +kernel
theorem dX3_turnsOntoItself_11 : decode cX3_turnsOntoItself 11 = .ok (.iload 5, 2) := by decide +kernel
theorem dX3_turnsOntoItself_13 : decode cX3_turnsOntoItself 13 = .ok (.bipush 8, 2) := by decide +kernel
theorem dX3_turnsOntoItself_15 : decode cX3_turnsOntoItself 15 = .ok (.if_icmp .ge 26, 3) := by decide +kernel
theorem dX3_turnsOntoItself_18 : decode cX3_turnsOntoItself 18 = .ok (.lload_n 0, 1) := by decide +kernel
theorem dX3_turnsOntoItself_19 : decode cX3_turnsOntoItself 19 = .ok (.iload 5, 2) := by decide +kernel
theorem dX3_turnsOntoItself_21 : decode cX3_turnsOntoItself 21 = .ok (.invokestatic 54, 3) := by decide +kernel
theorem dX3_turnsOntoItself_24 : decode cX3_turnsOntoItself 24 = .ok (.invokestatic 51, 3) := by decide +kernel
theorem dX3_turnsOntoItself_27 : decode cX3_turnsOntoItself 27 = .ok (.lload_n 2, 1) := by decide +kernel
theorem dX3_turnsOntoItself_28 : decode cX3_turnsOntoItself 28 = .ok (.lcmp, 1) := by decide +kernel
theorem dX3_turnsOntoItself_29 : decode cX3_turnsOntoItself 29 = .ok (.ifCond .ne 6, 3) := by decide +kernel
theorem dX3_turnsOntoItself_32 : decode cX3_turnsOntoItself 32 = .ok (.iinc 4 1, 3) := by decide +kernel
theorem dX3_turnsOntoItself_35 : decode cX3_turnsOntoItself 35 = .ok (.iinc 5 1, 3) := by decide +kernel
theorem dX3_turnsOntoItself_38 : decode cX3_turnsOntoItself 38 = .ok (.goto (-27), 3) := by decide +kernel
theorem dX3_turnsOntoItself_41 : decode cX3_turnsOntoItself 41 = .ok (.iload 4, 2) := by decide +kernel
theorem dX3_turnsOntoItself_43 : decode cX3_turnsOntoItself 43 = .ok (.ireturn, 1) := by decide +kernel
set_option maxRecDepth 20000 in
theorem ggX4_countCorners_X4_ringAbout : GoodIn wsX4_countCorners wsX4_ringAbout := goodIn_r _ [4, 5, 6, 3, 7, 8, 9, 10, 11, 12, 13, 14, 15, 16, 17] (by decide +kernel) (by decide +kernel)
set_option maxRecDepth 20000 in
theorem gX4_countCorners_X4_ringAbout : GoodIn wsX4_countCorners (va_wsS RX4 11 yX4_ringAbout wsX4_ringAbout) := goodIn_app (goodIn_of _ (by decide +kernel)) ggX4_countCorners_X4_ringAbout
set_option maxRecDepth 20000 in
theorem ggX4_countCorners_X4_arcFrom : GoodIn wsX4_countCorners wsX4_arcFrom := goodIn_r _ [20, 21, 22, 3, 23] (by decide +kernel) (by decide +kernel)
set_option maxRecDepth 20000 in
theorem gX4_countCorners_X4_arcFrom : GoodIn wsX4_countCorners (va_wsS RX4 15 yX4_arcFrom wsX4_arcFrom) := goodIn_app (goodIn_of _ (by decide +kernel)) ggX4_countCorners_X4_arcFrom
theorem dX4_countCorners_0 : decode cX4_countCorners 0 = .ok (.iconst 0, 1) := by decide +kernel
theorem dX4_countCorners_1 : decode cX4_countCorners 1 = .ok (.istore_n 3, 1) := by decide +kernel
theorem dX4_countCorners_2 : decode cX4_countCorners 2 = .ok (.iconst 0, 1) := by decide +kernel
theorem dX4_countCorners_3 : decode cX4_countCorners 3 = .ok (.istore 4, 2) := by decide +kernel
theorem dX4_countCorners_5 : decode cX4_countCorners 5 = .ok (.iload 4, 2) := by decide +kernel
theorem dX4_countCorners_7 : decode cX4_countCorners 7 = .ok (.bipush 41, 2) := by decide +kernel
theorem dX4_countCorners_9 : decode cX4_countCorners 9 = .ok (.if_icmp .ge 66, 3) := by decide +kernel
theorem dX4_countCorners_12 : decode cX4_countCorners 12 = .ok (.lload_n 0, 1) := by decide +kernel
theorem dX4_countCorners_13 : decode cX4_countCorners 13 = .ok (.iload 4, 2) := by decide +kernel
theorem dX4_countCorners_15 : decode cX4_countCorners 15 = .ok (.invokestatic 11, 3) := by decide +kernel
theorem dX4_countCorners_18 : decode cX4_countCorners 18 = .ok (.istore 5, 2) := by decide +kernel
theorem dX4_countCorners_20 : decode cX4_countCorners 20 = .ok (.iconst 0, 1) := by decide +kernel
theorem dX4_countCorners_21 : decode cX4_countCorners 21 = .ok (.istore 6, 2) := by decide +kernel
theorem dX4_countCorners_23 : decode cX4_countCorners 23 = .ok (.iload 6, 2) := by decide +kernel
theorem dX4_countCorners_25 : decode cX4_countCorners 25 = .ok (.bipush 8, 2) := by decide +kernel
theorem dX4_countCorners_27 : decode cX4_countCorners 27 = .ok (.if_icmp .ge 42, 3) := by decide +kernel
theorem dX4_countCorners_30 : decode cX4_countCorners 30 = .ok (.iload 5, 2) := by decide +kernel
theorem dX4_countCorners_32 : decode cX4_countCorners 32 = .ok (.iload 6, 2) := by decide +kernel
theorem dX4_countCorners_34 : decode cX4_countCorners 34 = .ok (.invokestatic 15, 3) := by decide +kernel
theorem dX4_countCorners_37 : decode cX4_countCorners 37 = .ok (.istore 7, 2) := by decide +kernel
theorem dX4_countCorners_39 : decode cX4_countCorners 39 = .ok (.iload 7, 2) := by decide +kernel
theorem dX4_countCorners_41 : decode cX4_countCorners 41 = .ok (.ifCond .eq 22, 3) := by decide +kernel
theorem dX4_countCorners_44 : decode cX4_countCorners 44 = .ok (.iload 7, 2) := by decide +kernel
theorem dX4_countCorners_46 : decode cX4_countCorners 46 = .ok (.iconst 4, 1) := by decide +kernel
theorem dX4_countCorners_47 : decode cX4_countCorners 47 = .ok (.if_icmp .eq 16, 3) := by decide +kernel
theorem dX4_countCorners_50 : decode cX4_countCorners 50 = .ok (.iload_n 2, 1) := by decide +kernel
theorem dX4_countCorners_51 : decode cX4_countCorners 51 = .ok (.ifCond .eq 9, 3) := by decide +kernel
theorem dX4_countCorners_54 : decode cX4_countCorners 54 = .ok (.iload 7, 2) := by decide +kernel
theorem dX4_countCorners_56 : decode cX4_countCorners 56 = .ok (.iload_n 2, 1) := by decide +kernel
theorem dX4_countCorners_57 : decode cX4_countCorners 57 = .ok (.if_icmp .ne 6, 3) := by decide +kernel
theorem dX4_countCorners_60 : decode cX4_countCorners 60 = .ok (.iinc 3 1, 3) := by decide +kernel
theorem dX4_countCorners_63 : decode cX4_countCorners 63 = .ok (.iinc 6 1, 3) := by decide +kernel
theorem dX4_countCorners_66 : decode cX4_countCorners 66 = .ok (.goto (-43), 3) := by decide +kernel
theorem dX4_countCorners_69 : decode cX4_countCorners 69 = .ok (.iinc 4 1, 3) := by decide +kernel
theorem dX4_countCorners_72 : decode cX4_countCorners 72 = .ok (.goto (-67), 3) := by decide +kernel
theorem dX4_countCorners_75 : decode cX4_countCorners 75 = .ok (.iload_n 3, 1) := by decide +kernel
theorem dX4_countCorners_76 : decode cX4_countCorners 76 = .ok (.ireturn, 1) := by decide +kernel
set_option maxRecDepth 20000 in
theorem ggX4_bulgeOnly_X4_ringAbout : GoodIn wsX4_bulgeOnly wsX4_ringAbout := goodIn_r _ [4, 5, 6, 3, 7, 8, 9, 10, 11, 12, 13, 14, 15, 16, 17] (by decide +kernel) (by decide +kernel)
set_option maxRecDepth 20000 in
theorem gX4_bulgeOnly_X4_ringAbout : GoodIn wsX4_bulgeOnly (va_wsS RX4 11 yX4_ringAbout wsX4_ringAbout) := goodIn_app (goodIn_of _ (by decide +kernel)) ggX4_bulgeOnly_X4_ringAbout
set_option maxRecDepth 20000 in
theorem ggX4_bulgeOnly_X4_bulgesAt : GoodIn wsX4_bulgeOnly wsX4_bulgesAt := goodIn_r _ [20, 21, 22, 3, 23, 24, 25, 26] (by decide +kernel) (by decide +kernel)
set_option maxRecDepth 20000 in
theorem gX4_bulgeOnly_X4_bulgesAt : GoodIn wsX4_bulgeOnly (va_wsS RX4 19 yX4_bulgesAt wsX4_bulgesAt) := goodIn_app (goodIn_of _ (by decide +kernel)) ggX4_bulgeOnly_X4_bulgesAt
theorem dX4_bulgeOnly_0 : decode cX4_bulgeOnly 0 = .ok (.iconst 0, 1) := by decide +kernel
theorem dX4_bulgeOnly_1 : decode cX4_bulgeOnly 1 = .ok (.istore_n 2, 1) := by decide +kernel
theorem dX4_bulgeOnly_2 : decode cX4_bulgeOnly 2 = .ok (.iload_n 2, 1) := by decide +kernel
theorem dX4_bulgeOnly_3 : decode cX4_bulgeOnly 3 = .ok (.bipush 41, 2) := by decide +kernel
theorem dX4_bulgeOnly_5 : decode cX4_bulgeOnly 5 = .ok (.if_icmp .ge 22, 3) := by decide +kernel
theorem dX4_bulgeOnly_8 : decode cX4_bulgeOnly 8 = .ok (.lload_n 0, 1) := by decide +kernel
theorem dX4_bulgeOnly_9 : decode cX4_bulgeOnly 9 = .ok (.iload_n 2, 1) := by decide +kernel
theorem dX4_bulgeOnly_10 : decode cX4_bulgeOnly 10 = .ok (.invokestatic 11, 3) := by decide +kernel
theorem dX4_bulgeOnly_13 : decode cX4_bulgeOnly 13 = .ok (.invokestatic 19, 3) := by decide +kernel
theorem dX4_bulgeOnly_16 : decode cX4_bulgeOnly 16 = .ok (.ifCond .ne 5, 3) := by decide +kernel
theorem dX4_bulgeOnly_19 : decode cX4_bulgeOnly 19 = .ok (.iconst 0, 1) := by decide +kernel
theorem dX4_bulgeOnly_20 : decode cX4_bulgeOnly 20 = .ok (.ireturn, 1) := by decide +kernel
theorem dX4_bulgeOnly_21 : decode cX4_bulgeOnly 21 = .ok (.iinc 2 1, 3) := by decide +kernel
theorem dX4_bulgeOnly_24 : decode cX4_bulgeOnly 24 = .ok (.goto (-22), 3) := by decide +kernel
theorem dX4_bulgeOnly_27 : decode cX4_bulgeOnly 27 = .ok (.iconst 1, 1) := by decide +kernel
theorem dX4_bulgeOnly_28 : decode cX4_bulgeOnly 28 = .ok (.ireturn, 1) := by decide +kernel
set_option maxRecDepth 20000 in
theorem ggX4_bulgesAt_X4_arcFrom : GoodIn wsX4_bulgesAt wsX4_arcFrom := goodIn_r _ [4, 5, 6, 3, 7] (by decide +kernel) (by decide +kernel)
set_option maxRecDepth 20000 in
theorem gX4_bulgesAt_X4_arcFrom : GoodIn wsX4_bulgesAt (va_wsS RX4 15 yX4_arcFrom wsX4_arcFrom) := goodIn_app (goodIn_of _ (by decide +kernel)) ggX4_bulgesAt_X4_arcFrom
theorem dX4_bulgesAt_0 : decode cX4_bulgesAt 0 = .ok (.iconst 0, 1) := by decide +kernel
theorem dX4_bulgesAt_1 : decode cX4_bulgesAt 1 = .ok (.istore_n 1, 1) := by decide +kernel
theorem dX4_bulgesAt_2 : decode cX4_bulgesAt 2 = .ok (.iconst 0, 1) := by decide +kernel
theorem dX4_bulgesAt_3 : decode cX4_bulgesAt 3 = .ok (.istore_n 2, 1) := by decide +kernel
theorem dX4_bulgesAt_4 : decode cX4_bulgesAt 4 = .ok (.iload_n 2, 1) := by decide +kernel
theorem dX4_bulgesAt_5 : decode cX4_bulgesAt 5 = .ok (.bipush 8, 2) := by decide +kernel
theorem dX4_bulgesAt_7 : decode cX4_bulgesAt 7 = .ok (.if_icmp .ge 29, 3) := by decide +kernel
theorem dX4_bulgesAt_10 : decode cX4_bulgesAt 10 = .ok (.iload_n 0, 1) := by decide +kernel
theorem dX4_bulgesAt_11 : decode cX4_bulgesAt 11 = .ok (.iload_n 2, 1) := by decide +kernel
theorem dX4_bulgesAt_12 : decode cX4_bulgesAt 12 = .ok (.invokestatic 15, 3) := by decide +kernel
theorem dX4_bulgesAt_15 : decode cX4_bulgesAt 15 = .ok (.istore_n 3, 1) := by decide +kernel
theorem dX4_bulgesAt_16 : decode cX4_bulgesAt 16 = .ok (.iload_n 3, 1) := by decide +kernel
theorem dX4_bulgesAt_17 : decode cX4_bulgesAt 17 = .ok (.iconst 4, 1) := by decide +kernel
theorem dX4_bulgesAt_18 : decode cX4_bulgesAt 18 = .ok (.if_icmp .le 5, 3) := by decide +kernel
theorem dX4_bulgesAt_21 : decode cX4_bulgesAt 21 = .ok (.iconst 0, 1) := by decide +kernel
theorem dX4_bulgesAt_22 : decode cX4_bulgesAt 22 = .ok (.ireturn, 1) := by decide +kernel
theorem dX4_bulgesAt_23 : decode cX4_bulgesAt 23 = .ok (.iload_n 3, 1) := by decide +kernel
theorem dX4_bulgesAt_24 : decode cX4_bulgesAt 24 = .ok (.ifCond .le 6, 3) := by decide +kernel
theorem dX4_bulgesAt_27 : decode cX4_bulgesAt 27 = .ok (.iinc 1 1, 3) := by decide +kernel
theorem dX4_bulgesAt_30 : decode cX4_bulgesAt 30 = .ok (.iinc 2 1, 3) := by decide +kernel
theorem dX4_bulgesAt_33 : decode cX4_bulgesAt 33 = .ok (.goto (-29), 3) := by decide +kernel
theorem dX4_bulgesAt_36 : decode cX4_bulgesAt 36 = .ok (.iload_n 1, 1) := by decide +kernel
theorem dX4_bulgesAt_37 : decode cX4_bulgesAt 37 = .ok (.iconst 2, 1) := by decide +kernel
theorem dX4_bulgesAt_38 : decode cX4_bulgesAt 38 = .ok (.if_icmp .ge 7, 3) := by decide +kernel
theorem dX4_bulgesAt_41 : decode cX4_bulgesAt 41 = .ok (.iconst 1, 1) := by decide +kernel
theorem dX4_bulgesAt_42 : decode cX4_bulgesAt 42 = .ok (.goto 4, 3) := by decide +kernel
theorem dX4_bulgesAt_45 : decode cX4_bulgesAt 45 = .ok (.iconst 0, 1) := by decide +kernel
theorem dX4_bulgesAt_46 : decode cX4_bulgesAt 46 = .ok (.ireturn, 1) := by decide +kernel
set_option maxRecDepth 20000 in
theorem ggX4_arcFrom_X4_isFull : GoodIn wsX4_arcFrom wsX4_isFull := goodIn_r _ [4] (by decide +kernel) (by decide +kernel)
set_option maxRecDepth 20000 in
theorem gX4_arcFrom_X4_isFull : GoodIn wsX4_arcFrom (va_wsS RX4 23 yX4_isFull wsX4_isFull) := goodIn_app (goodIn_of _ (by decide +kernel)) ggX4_arcFrom_X4_isFull
theorem dX4_arcFrom_0 : decode cX4_arcFrom 0 = .ok (.iload_n 0, 1) := by decide +kernel
theorem dX4_arcFrom_1 : decode cX4_arcFrom 1 = .ok (.iload_n 1, 1) := by decide +kernel
theorem dX4_arcFrom_2 : decode cX4_arcFrom 2 = .ok (.invokestatic 23, 3) := by decide +kernel
theorem dX4_arcFrom_5 : decode cX4_arcFrom 5 = .ok (.ifCond .eq 14, 3) := by decide +kernel
theorem dX4_arcFrom_8 : decode cX4_arcFrom 8 = .ok (.iload_n 0, 1) := by decide +kernel
theorem dX4_arcFrom_9 : decode cX4_arcFrom 9 = .ok (.iload_n 1, 1) := by decide +kernel
theorem dX4_arcFrom_10 : decode cX4_arcFrom 10 = .ok (.bipush 7, 2) := by decide +kernel
theorem dX4_arcFrom_12 : decode cX4_arcFrom 12 = .ok (.iadd, 1) := by decide +kernel
theorem dX4_arcFrom_13 : decode cX4_arcFrom 13 = .ok (.invokestatic 23, 3) := by decide +kernel
theorem dX4_arcFrom_16 : decode cX4_arcFrom 16 = .ok (.ifCond .eq 5, 3) := by decide +kernel
theorem dX4_arcFrom_19 : decode cX4_arcFrom 19 = .ok (.iconst 0, 1) := by decide +kernel
theorem dX4_arcFrom_20 : decode cX4_arcFrom 20 = .ok (.ireturn, 1) := by decide +kernel
theorem dX4_arcFrom_21 : decode cX4_arcFrom 21 = .ok (.iconst 1, 1) := by decide +kernel
theorem dX4_arcFrom_22 : decode cX4_arcFrom 22 = .ok (.istore_n 2, 1) := by decide +kernel
theorem dX4_arcFrom_23 : decode cX4_arcFrom 23 = .ok (.iload_n 2, 1) := by decide +kernel
theorem dX4_arcFrom_24 : decode cX4_arcFrom 24 = .ok (.bipush 8, 2) := by decide +kernel
theorem dX4_arcFrom_26 : decode cX4_arcFrom 26 = .ok (.if_icmp .ge 19, 3) := by decide +kernel
theorem dX4_arcFrom_29 : decode cX4_arcFrom 29 = .ok (.iload_n 0, 1) := by decide +kernel
theorem dX4_arcFrom_30 : decode cX4_arcFrom 30 = .ok (.iload_n 1, 1) := by decide +kernel
theorem dX4_arcFrom_31 : decode cX4_arcFrom 31 = .ok (.iload_n 2, 1) := by decide +kernel
theorem dX4_arcFrom_32 : decode cX4_arcFrom 32 = .ok (.iadd, 1) := by decide +kernel
theorem dX4_arcFrom_33 : decode cX4_arcFrom 33 = .ok (.invokestatic 23, 3) := by decide +kernel
theorem dX4_arcFrom_36 : decode cX4_arcFrom 36 = .ok (.ifCond .eq 9, 3) := by decide +kernel
theorem dX4_arcFrom_39 : decode cX4_arcFrom 39 = .ok (.iinc 2 1, 3) := by decide +kernel
theorem dX4_arcFrom_42 : decode cX4_arcFrom 42 = .ok (.goto (-19), 3) := by decide +kernel
theorem dX4_arcFrom_45 : decode cX4_arcFrom 45 = .ok (.iload_n 2, 1) := by decide +kernel
theorem dX4_arcFrom_46 : decode cX4_arcFrom 46 = .ok (.ireturn, 1) := by decide +kernel
theorem dX4_isFull_0 : decode cX4_isFull 0 = .ok (.iload_n 0, 1) := by decide +kernel
theorem dX4_isFull_1 : decode cX4_isFull 1 = .ok (.iload_n 1, 1) := by decide +kernel
theorem dX4_isFull_2 : decode cX4_isFull 2 = .ok (.bipush 7, 2) := by decide +kernel
theorem dX4_isFull_4 : decode cX4_isFull 4 = .ok (.iand, 1) := by decide +kernel
theorem dX4_isFull_5 : decode cX4_isFull 5 = .ok (.ishr, 1) := by decide +kernel
theorem dX4_isFull_6 : decode cX4_isFull 6 = .ok (.iconst 1, 1) := by decide +kernel
theorem dX4_isFull_7 : decode cX4_isFull 7 = .ok (.iand, 1) := by decide +kernel
theorem dX4_isFull_8 : decode cX4_isFull 8 = .ok (.ifCond .eq 7, 3) := by decide +kernel
theorem dX4_isFull_11 : decode cX4_isFull 11 = .ok (.iconst 1, 1) := by decide +kernel
theorem dX4_isFull_12 : decode cX4_isFull 12 = .ok (.goto 4, 3) := by decide +kernel
theorem dX4_isFull_15 : decode cX4_isFull 15 = .ok (.iconst 0, 1) := by decide +kernel
theorem dX4_isFull_16 : decode cX4_isFull 16 = .ok (.ireturn, 1) := by decide +kernel
set_option maxRecDepth 20000 in
theorem ggX4_ringAbout_X4_ringAboutCorner : GoodIn wsX4_ringAbout wsX4_ringAboutCorner := goodIn_r _ [4, 5, 6, 3, 7, 8, 9, 10, 11] (by decide +kernel) (by decide +kernel)
set_option maxRecDepth 20000 in
theorem gX4_ringAbout_X4_ringAboutCorner : GoodIn wsX4_ringAbout (va_wsS RX4 27 yX4_ringAboutCorner wsX4_ringAboutCorner) := goodIn_app (goodIn_of _ (by decide +kernel)) ggX4_ringAbout_X4_ringAboutCorner
set_option maxRecDepth 20000 in
theorem ggX4_ringAbout_X0_square : GoodIn wsX4_ringAbout wsX0_square := goodIn_r _ [11] (by decide +kernel) (by decide +kernel)
set_option maxRecDepth 20000 in
theorem gX4_ringAbout_X0_square : GoodIn wsX4_ringAbout (va_wsS RX4 31 yX0_square wsX0_square) := goodIn_app (goodIn_of _ (by decide +kernel)) ggX4_ringAbout_X0_square
set_option maxRecDepth 20000 in
theorem ggX4_ringAbout_X4_ringAboutMidst : GoodIn wsX4_ringAbout wsX4_ringAboutMidst := goodIn_r _ [14] (by decide +kernel) (by decide +kernel)
set_option maxRecDepth 20000 in
theorem gX4_ringAbout_X4_ringAboutMidst : GoodIn wsX4_ringAbout (va_wsS RX4 36 yX4_ringAboutMidst wsX4_ringAboutMidst) := goodIn_app (goodIn_of _ (by decide +kernel)) ggX4_ringAbout_X4_ringAboutMidst
theorem dX4_ringAbout_0 : decode cX4_ringAbout 0 = .ok (.iload_n 2, 1) := by decide +kernel
theorem dX4_ringAbout_1 : decode cX4_ringAbout 1 = .ok (.bipush 25, 2) := by decide +kernel
theorem dX4_ringAbout_3 : decode cX4_ringAbout 3 = .ok (.if_icmp .ge 14, 3) := by decide +kernel
theorem dX4_ringAbout_6 : decode cX4_ringAbout 6 = .ok (.lload_n 0, 1) := by decide +kernel
theorem dX4_ringAbout_7 : decode cX4_ringAbout 7 = .ok (.iload_n 2, 1) := by decide +kernel
theorem dX4_ringAbout_8 : decode cX4_ringAbout 8 = .ok (.iconst 5, 1) := by decide +kernel
theorem dX4_ringAbout_9 : decode cX4_ringAbout 9 = .ok (.idiv, 1) := by decide +kernel
theorem dX4_ringAbout_10 : decode cX4_ringAbout 10 = .ok (.iload_n 2, 1) := by decide +kernel
theorem dX4_ringAbout_11 : decode cX4_ringAbout 11 = .ok (.iconst 5, 1) := by decide +kernel
theorem dX4_ringAbout_12 : decode cX4_ringAbout 12 = .ok (.irem, 1) := by decide +kernel
theorem dX4_ringAbout_13 : decode cX4_ringAbout 13 = .ok (.invokestatic 27, 3) := by decide +kernel
theorem dX4_ringAbout_16 : decode cX4_ringAbout 16 = .ok (.ireturn, 1) := by decide +kernel
theorem dX4_ringAbout_17 : decode cX4_ringAbout 17 = .ok (.lload_n 0, 1) := by decide +kernel
theorem dX4_ringAbout_18 : decode cX4_ringAbout 18 = .ok (.iload_n 2, 1) := by decide +kernel
theorem dX4_ringAbout_19 : decode cX4_ringAbout 19 = .ok (.bipush 25, 2) := by decide +kernel
theorem dX4_ringAbout_21 : decode cX4_ringAbout 21 = .ok (.isub, 1) := by decide +kernel
theorem dX4_ringAbout_22 : decode cX4_ringAbout 22 = .ok (.invokestatic 31, 3) := by decide +kernel
theorem dX4_ringAbout_25 : decode cX4_ringAbout 25 = .ok (.invokestatic 36, 3) := by decide +kernel
theorem dX4_ringAbout_28 : decode cX4_ringAbout 28 = .ok (.ireturn, 1) := by decide +kernel
theorem dX4_ringAboutMidst_0 : decode cX4_ringAboutMidst 0 = .ok (.iconst 0, 1) := by decide +kernel
theorem dX4_ringAboutMidst_1 : decode cX4_ringAboutMidst 1 = .ok (.istore_n 1, 1) := by decide +kernel
theorem dX4_ringAboutMidst_2 : decode cX4_ringAboutMidst 2 = .ok (.iconst 0, 1) := by decide +kernel
theorem dX4_ringAboutMidst_3 : decode cX4_ringAboutMidst 3 = .ok (.istore_n 2, 1) := by decide +kernel
theorem dX4_ringAboutMidst_4 : decode cX4_ringAboutMidst 4 = .ok (.iload_n 2, 1) := by decide +kernel
theorem dX4_ringAboutMidst_5 : decode cX4_ringAboutMidst 5 = .ok (.iconst 4, 1) := by decide +kernel
theorem dX4_ringAboutMidst_6 : decode cX4_ringAboutMidst 6 = .ok (.if_icmp .ge 25, 3) := by decide +kernel
theorem dX4_ringAboutMidst_9 : decode cX4_ringAboutMidst 9 = .ok (.iload_n 0, 1) := by decide +kernel
theorem dX4_ringAboutMidst_10 : decode cX4_ringAboutMidst 10 = .ok (.iload_n 2, 1) := by decide +kernel
theorem dX4_ringAboutMidst_11 : decode cX4_ringAboutMidst 11 = .ok (.ishr, 1) := by decide +kernel
theorem dX4_ringAboutMidst_12 : decode cX4_ringAboutMidst 12 = .ok (.iconst 1, 1) := by decide +kernel
theorem dX4_ringAboutMidst_13 : decode cX4_ringAboutMidst 13 = .ok (.iand, 1) := by decide +kernel
theorem dX4_ringAboutMidst_14 : decode cX4_ringAboutMidst 14 = .ok (.ifCond .eq 11, 3) := by decide +kernel
theorem dX4_ringAboutMidst_17 : decode cX4_ringAboutMidst 17 = .ok (.iload_n 1, 1) := by decide +kernel
theorem dX4_ringAboutMidst_18 : decode cX4_ringAboutMidst 18 = .ok (.iconst 3, 1) := by decide +kernel
theorem dX4_ringAboutMidst_19 : decode cX4_ringAboutMidst 19 = .ok (.iconst 2, 1) := by decide +kernel
theorem dX4_ringAboutMidst_20 : decode cX4_ringAboutMidst 20 = .ok (.iload_n 2, 1) := by decide +kernel
theorem dX4_ringAboutMidst_21 : decode cX4_ringAboutMidst 21 = .ok (.imul, 1) := by decide +kernel
theorem dX4_ringAboutMidst_22 : decode cX4_ringAboutMidst 22 = .ok (.ishl, 1) := by decide +kernel
theorem dX4_ringAboutMidst_23 : decode cX4_ringAboutMidst 23 = .ok (.ior, 1) := by decide +kernel
theorem dX4_ringAboutMidst_24 : decode cX4_ringAboutMidst 24 = .ok (.istore_n 1, 1) := by decide +kernel
theorem dX4_ringAboutMidst_25 : decode cX4_ringAboutMidst 25 = .ok (.iinc 2 1, 3) := by decide +kernel
theorem dX4_ringAboutMidst_28 : decode cX4_ringAboutMidst 28 = .ok (.goto (-24), 3) := by decide +kernel
theorem dX4_ringAboutMidst_31 : decode cX4_ringAboutMidst 31 = .ok (.iload_n 1, 1) := by decide +kernel
theorem dX4_ringAboutMidst_32 : decode cX4_ringAboutMidst 32 = .ok (.ireturn, 1) := by decide +kernel
set_option maxRecDepth 20000 in
theorem ggX4_ringAboutCorner_X4_squareAt : GoodIn wsX4_ringAboutCorner wsX4_squareAt := goodIn_r _ [4, 5, 6, 7, 8] (by decide +kernel) (by decide +kernel)
set_option maxRecDepth 20000 in
theorem gX4_ringAboutCorner_X4_squareAt : GoodIn wsX4_ringAboutCorner (va_wsS RX4 40 yX4_squareAt wsX4_squareAt) := goodIn_app (goodIn_of _ (by decide +kernel)) ggX4_ringAboutCorner_X4_squareAt
theorem dX4_ringAboutCorner_0 : decode cX4_ringAboutCorner 0 = .ok (.lload_n 0, 1) := by decide +kernel
theorem dX4_ringAboutCorner_1 : decode cX4_ringAboutCorner 1 = .ok (.iload_n 2, 1) := by decide +kernel
theorem dX4_ringAboutCorner_2 : decode cX4_ringAboutCorner 2 = .ok (.iconst 1, 1) := by decide +kernel
theorem dX4_ringAboutCorner_3 : decode cX4_ringAboutCorner 3 = .ok (.isub, 1) := by decide +kernel
theorem dX4_ringAboutCorner_4 : decode cX4_ringAboutCorner 4 = .ok (.iload_n 3, 1) := by decide +kernel
theorem dX4_ringAboutCorner_5 : decode cX4_ringAboutCorner 5 = .ok (.invokestatic 40, 3) := by decide +kernel
theorem dX4_ringAboutCorner_8 : decode cX4_ringAboutCorner 8 = .ok (.istore 4, 2) := by decide +kernel
theorem dX4_ringAboutCorner_10 : decode cX4_ringAboutCorner 10 = .ok (.lload_n 0, 1) := by decide +kernel
theorem dX4_ringAboutCorner_11 : decode cX4_ringAboutCorner 11 = .ok (.iload_n 2, 1) := by decide +kernel
theorem dX4_ringAboutCorner_12 : decode cX4_ringAboutCorner 12 = .ok (.iload_n 3, 1) := by decide +kernel
theorem dX4_ringAboutCorner_13 : decode cX4_ringAboutCorner 13 = .ok (.invokestatic 40, 3) := by decide +kernel
theorem dX4_ringAboutCorner_16 : decode cX4_ringAboutCorner 16 = .ok (.istore 5, 2) := by decide +kernel
theorem dX4_ringAboutCorner_18 : decode cX4_ringAboutCorner 18 = .ok (.lload_n 0, 1) := by decide +kernel
theorem dX4_ringAboutCorner_19 : decode cX4_ringAboutCorner 19 = .ok (.iload_n 2, 1) := by decide +kernel
theorem dX4_ringAboutCorner_20 : decode cX4_ringAboutCorner 20 = .ok (.iload_n 3, 1) := by decide +kernel
theorem dX4_ringAboutCorner_21 : decode cX4_ringAboutCorner 21 = .ok (.iconst 1, 1) := by decide +kernel
theorem dX4_ringAboutCorner_22 : decode cX4_ringAboutCorner 22 = .ok (.isub, 1) := by decide +kernel
theorem dX4_ringAboutCorner_23 : decode cX4_ringAboutCorner 23 = .ok (.invokestatic 40, 3) := by decide +kernel
theorem dX4_ringAboutCorner_26 : decode cX4_ringAboutCorner 26 = .ok (.istore 6, 2) := by decide +kernel
theorem dX4_ringAboutCorner_28 : decode cX4_ringAboutCorner 28 = .ok (.lload_n 0, 1) := by decide +kernel
theorem dX4_ringAboutCorner_29 : decode cX4_ringAboutCorner 29 = .ok (.iload_n 2, 1) := by decide +kernel
theorem dX4_ringAboutCorner_30 : decode cX4_ringAboutCorner 30 = .ok (.iconst 1, 1) := by decide +kernel
theorem dX4_ringAboutCorner_31 : decode cX4_ringAboutCorner 31 = .ok (.isub, 1) := by decide +kernel
theorem dX4_ringAboutCorner_32 : decode cX4_ringAboutCorner 32 = .ok (.iload_n 3, 1) := by decide +kernel
theorem dX4_ringAboutCorner_33 : decode cX4_ringAboutCorner 33 = .ok (.iconst 1, 1) := by decide +kernel
theorem dX4_ringAboutCorner_34 : decode cX4_ringAboutCorner 34 = .ok (.isub, 1) := by decide +kernel
theorem dX4_ringAboutCorner_35 : decode cX4_ringAboutCorner 35 = .ok (.invokestatic 40, 3) := by decide +kernel
theorem dX4_ringAboutCorner_38 : decode cX4_ringAboutCorner 38 = .ok (.istore 7, 2) := by decide +kernel
theorem dX4_ringAboutCorner_40 : decode cX4_ringAboutCorner 40 = .ok (.iload 4, 2) := by decide +kernel
theorem dX4_ringAboutCorner_42 : decode cX4_ringAboutCorner 42 = .ok (.iconst 3, 1) := by decide +kernel
theorem dX4_ringAboutCorner_43 : decode cX4_ringAboutCorner 43 = .ok (.ishr, 1) := by decide +kernel
theorem dX4_ringAboutCorner_44 : decode cX4_ringAboutCorner 44 = .ok (.iconst 1, 1) := by decide +kernel
theorem dX4_ringAboutCorner_45 : decode cX4_ringAboutCorner 45 = .ok (.iand, 1) := by decide +kernel
theorem dX4_ringAboutCorner_46 : decode cX4_ringAboutCorner 46 = .ok (.iload 4, 2) := by decide +kernel
theorem dX4_ringAboutCorner_48 : decode cX4_ringAboutCorner 48 = .ok (.iconst 2, 1) := by decide +kernel
theorem dX4_ringAboutCorner_49 : decode cX4_ringAboutCorner 49 = .ok (.ishr, 1) := by decide +kernel
theorem dX4_ringAboutCorner_50 : decode cX4_ringAboutCorner 50 = .ok (.iconst 1, 1) := by decide +kernel
theorem dX4_ringAboutCorner_51 : decode cX4_ringAboutCorner 51 = .ok (.iand, 1) := by decide +kernel
theorem dX4_ringAboutCorner_52 : decode cX4_ringAboutCorner 52 = .ok (.iconst 1, 1) := by decide +kernel
theorem dX4_ringAboutCorner_53 : decode cX4_ringAboutCorner 53 = .ok (.ishl, 1) := by decide +kernel
theorem dX4_ringAboutCorner_54 : decode cX4_ringAboutCorner 54 = .ok (.ior, 1) := by decide +kernel
theorem dX4_ringAboutCorner_55 : decode cX4_ringAboutCorner 55 = .ok (.iload 5, 2) := by decide +kernel
theorem dX4_ringAboutCorner_57 : decode cX4_ringAboutCorner 57 = .ok (.iconst 1, 1) := by decide +kernel
theorem dX4_ringAboutCorner_58 : decode cX4_ringAboutCorner 58 = .ok (.iand, 1) := by decide +kernel
theorem dX4_ringAboutCorner_59 : decode cX4_ringAboutCorner 59 = .ok (.iconst 2, 1) := by decide +kernel
theorem dX4_ringAboutCorner_60 : decode cX4_ringAboutCorner 60 = .ok (.ishl, 1) := by decide +kernel
theorem dX4_ringAboutCorner_61 : decode cX4_ringAboutCorner 61 = .ok (.ior, 1) := by decide +kernel
theorem dX4_ringAboutCorner_62 : decode cX4_ringAboutCorner 62 = .ok (.iload 5, 2) := by decide +kernel
theorem dX4_ringAboutCorner_64 : decode cX4_ringAboutCorner 64 = .ok (.iconst 3, 1) := by decide +kernel
theorem dX4_ringAboutCorner_65 : decode cX4_ringAboutCorner 65 = .ok (.ishr, 1) := by decide +kernel
theorem dX4_ringAboutCorner_66 : decode cX4_ringAboutCorner 66 = .ok (.iconst 1, 1) := by decide +kernel
theorem dX4_ringAboutCorner_67 : decode cX4_ringAboutCorner 67 = .ok (.iand, 1) := by decide +kernel
theorem dX4_ringAboutCorner_68 : decode cX4_ringAboutCorner 68 = .ok (.iconst 3, 1) := by decide +kernel
theorem dX4_ringAboutCorner_69 : decode cX4_ringAboutCorner 69 = .ok (.ishl, 1) := by decide +kernel
theorem dX4_ringAboutCorner_70 : decode cX4_ringAboutCorner 70 = .ok (.ior, 1) := by decide +kernel
theorem dX4_ringAboutCorner_71 : decode cX4_ringAboutCorner 71 = .ok (.iload 6, 2) := by decide +kernel
theorem dX4_ringAboutCorner_73 : decode cX4_ringAboutCorner 73 = .ok (.iconst 1, 1) := by decide +kernel
theorem dX4_ringAboutCorner_74 : decode cX4_ringAboutCorner 74 = .ok (.ishr, 1) := by decide +kernel
theorem dX4_ringAboutCorner_75 : decode cX4_ringAboutCorner 75 = .ok (.iconst 1, 1) := by decide +kernel
theorem dX4_ringAboutCorner_76 : decode cX4_ringAboutCorner 76 = .ok (.iand, 1) := by decide +kernel
theorem dX4_ringAboutCorner_77 : decode cX4_ringAboutCorner 77 = .ok (.iconst 4, 1) := by decide +kernel
theorem dX4_ringAboutCorner_78 : decode cX4_ringAboutCorner 78 = .ok (.ishl, 1) := by decide +kernel
theorem dX4_ringAboutCorner_79 : decode cX4_ringAboutCorner 79 = .ok (.ior, 1) := by decide +kernel
theorem dX4_ringAboutCorner_80 : decode cX4_ringAboutCorner 80 = .ok (.iload 6, 2) := by decide +kernel
theorem dX4_ringAboutCorner_82 : decode cX4_ringAboutCorner 82 = .ok (.iconst 1, 1) := by decide +kernel
theorem dX4_ringAboutCorner_83 : decode cX4_ringAboutCorner 83 = .ok (.iand, 1) := by decide +kernel
theorem dX4_ringAboutCorner_84 : decode cX4_ringAboutCorner 84 = .ok (.iconst 5, 1) := by decide +kernel
theorem dX4_ringAboutCorner_85 : decode cX4_ringAboutCorner 85 = .ok (.ishl, 1) := by decide +kernel
theorem dX4_ringAboutCorner_86 : decode cX4_ringAboutCorner 86 = .ok (.ior, 1) := by decide +kernel
theorem dX4_ringAboutCorner_87 : decode cX4_ringAboutCorner 87 = .ok (.iload 7, 2) := by decide +kernel
theorem dX4_ringAboutCorner_89 : decode cX4_ringAboutCorner 89 = .ok (.iconst 2, 1) := by decide +kernel
theorem dX4_ringAboutCorner_90 : decode cX4_ringAboutCorner 90 = .ok (.ishr, 1) := by decide +kernel
theorem dX4_ringAboutCorner_91 : decode cX4_ringAboutCorner 91 = .ok (.iconst 1, 1) := by decide +kernel
theorem dX4_ringAboutCorner_92 : decode cX4_ringAboutCorner 92 = .ok (.iand, 1) := by decide +kernel
theorem dX4_ringAboutCorner_93 : decode cX4_ringAboutCorner 93 = .ok (.bipush 6, 2) := by decide +kernel
theorem dX4_ringAboutCorner_95 : decode cX4_ringAboutCorner 95 = .ok (.ishl, 1) := by decide +kernel
theorem dX4_ringAboutCorner_96 : decode cX4_ringAboutCorner 96 = .ok (.ior, 1) := by decide +kernel
theorem dX4_ringAboutCorner_97 : decode cX4_ringAboutCorner 97 = .ok (.iload 7, 2) := by decide +kernel
theorem dX4_ringAboutCorner_99 : decode cX4_ringAboutCorner 99 = .ok (.iconst 1, 1) := by decide +kernel
theorem dX4_ringAboutCorner_100 : decode cX4_ringAboutCorner 100 = .ok (.ishr, 1) := by decide +kernel
theorem dX4_ringAboutCorner_101 : decode cX4_ringAboutCorner 101 = .ok (.iconst 1, 1) := by decide +kernel
theorem dX4_ringAboutCorner_102 : decode cX4_ringAboutCorner 102 = .ok (.iand, 1) := by decide +kernel
theorem dX4_ringAboutCorner_103 : decode cX4_ringAboutCorner 103 = .ok (.bipush 7, 2) := by decide +kernel
theorem dX4_ringAboutCorner_105 : decode cX4_ringAboutCorner 105 = .ok (.ishl, 1) := by decide +kernel
theorem dX4_ringAboutCorner_106 : decode cX4_ringAboutCorner 106 = .ok (.ior, 1) := by decide +kernel
theorem dX4_ringAboutCorner_107 : decode cX4_ringAboutCorner 107 = .ok (.ireturn, 1) := by decide +kernel
set_option maxRecDepth 20000 in
theorem ggX4_squareAt_X0_square : GoodIn wsX4_squareAt wsX0_square := goodIn_r _ [4] (by decide +kernel) (by decide +kernel)
set_option maxRecDepth 20000 in
theorem gX4_squareAt_X0_square : GoodIn wsX4_squareAt (va_wsS RX4 31 yX0_square wsX0_square) := goodIn_app (goodIn_of _ (by decide +kernel)) ggX4_squareAt_X0_square
theorem dX4_squareAt_0 : decode cX4_squareAt 0 = .ok (.iload_n 2, 1) := by decide +kernel
theorem dX4_squareAt_1 : decode cX4_squareAt 1 = .ok (.ifCond .lt 17, 3) := by decide +kernel
theorem dX4_squareAt_4 : decode cX4_squareAt 4 = .ok (.iload_n 2, 1) := by decide +kernel
theorem dX4_squareAt_5 : decode cX4_squareAt 5 = .ok (.iconst 3, 1) := by decide +kernel
theorem dX4_squareAt_6 : decode cX4_squareAt 6 = .ok (.if_icmp .gt 12, 3) := by decide +kernel
theorem dX4_squareAt_9 : decode cX4_squareAt 9 = .ok (.iload_n 3, 1) := by decide +kernel
theorem dX4_squareAt_10 : decode cX4_squareAt 10 = .ok (.ifCond .lt 8, 3) := by decide +kernel
theorem dX4_squareAt_13 : decode cX4_squareAt 13 = .ok (.iload_n 3, 1) := by decide +kernel
theorem dX4_squareAt_14 : decode cX4_squareAt 14 = .ok (.iconst 3, 1) := by decide +kernel
theorem dX4_squareAt_15 : decode cX4_squareAt 15 = .ok (.if_icmp .le 5, 3) := by decide +kernel
theorem dX4_squareAt_18 : decode cX4_squareAt 18 = .ok (.iconst 0, 1) := by decide +kernel
theorem dX4_squareAt_19 : decode cX4_squareAt 19 = .ok (.ireturn, 1) := by decide +kernel
theorem dX4_squareAt_20 : decode cX4_squareAt 20 = .ok (.lload_n 0, 1) := by decide +kernel
theorem dX4_squareAt_21 : decode cX4_squareAt 21 = .ok (.iconst 4, 1) := by decide +kernel
theorem dX4_squareAt_22 : decode cX4_squareAt 22 = .ok (.iload_n 2, 1) := by decide +kernel
theorem dX4_squareAt_23 : decode cX4_squareAt 23 = .ok (.imul, 1) := by decide +kernel
theorem dX4_squareAt_24 : decode cX4_squareAt 24 = .ok (.iload_n 3, 1) := by decide +kernel
theorem dX4_squareAt_25 : decode cX4_squareAt 25 = .ok (.iadd, 1) := by decide +kernel
theorem dX4_squareAt_26 : decode cX4_squareAt 26 = .ok (.invokestatic 31, 3) := by decide +kernel
theorem dX4_squareAt_29 : decode cX4_squareAt 29 = .ok (.ireturn, 1) := by decide +kernel
theorem dX5_init_0 : decode cX5_init 0 = .ok (.aload_n 0, 1) := by decide +kernel
theorem dX5_init_1 : decode cX5_init 1 = .ok (.invokespecial 3, 3) := by decide +kernel
theorem dX5_init_4 : decode cX5_init 4 = .ok (.aload_n 0, 1) := by decide +kernel
theorem dX5_init_5 : decode cX5_init 5 = .ok (.bipush 8, 2) := by decide +kernel
theorem dX5_init_7 : decode cX5_init 7 = .ok (.newarray .long, 2) := by decide +kernel
theorem dX5_init_9 : decode cX5_init 9 = .ok (.putfield 9, 3) := by decide +kernel
theorem dX5_init_12 : decode cX5_init 12 = .ok (.aload_n 0, 1) := by decide +kernel
theorem dX5_init_13 : decode cX5_init 13 = .ok (.iconst 4, 1) := by decide +kernel
theorem dX5_init_14 : decode cX5_init 14 = .ok (.newarray .long, 2) := by decide +kernel
theorem dX5_init_16 : decode cX5_init 16 = .ok (.putfield 15, 3) := by decide +kernel
theorem dX5_init_19 : decode cX5_init 19 = .ok (.aload_n 0, 1) := by decide +kernel
theorem dX5_init_20 : decode cX5_init 20 = .ok (.iconst 4, 1) := by decide +kernel
theorem dX5_init_21 : decode cX5_init 21 = .ok (.newarray .boolean, 2) := by decide +kernel
theorem dX5_init_23 : decode cX5_init 23 = .ok (.putfield 18, 3) := by decide +kernel
theorem dX5_init_26 : decode cX5_init 26 = .ok (.aload_n 0, 1) := by decide +kernel
theorem dX5_init_27 : decode cX5_init 27 = .ok (.iconst 0, 1) := by decide +kernel
theorem dX5_init_28 : decode cX5_init 28 = .ok (.putfield 22, 3) := by decide +kernel
theorem dX5_init_31 : decode cX5_init 31 = .ok (.return_, 1) := by decide +kernel
theorem dX5_copyFrom_0 : decode cX5_copyFrom 0 = .ok (.iconst 0, 1) := by decide +kernel
theorem dX5_copyFrom_1 : decode cX5_copyFrom 1 = .ok (.istore_n 2, 1) := by decide +kernel
theorem dX5_copyFrom_2 : decode cX5_copyFrom 2 = .ok (.iload_n 2, 1) := by decide +kernel
theorem dX5_copyFrom_3 : decode cX5_copyFrom 3 = .ok (.bipush 8, 2) := by decide +kernel
theorem dX5_copyFrom_5 : decode cX5_copyFrom 5 = .ok (.if_icmp .ge 21, 3) := by decide +kernel
theorem dX5_copyFrom_8 : decode cX5_copyFrom 8 = .ok (.aload_n 0, 1) := by decide +kernel
theorem dX5_copyFrom_9 : decode cX5_copyFrom 9 = .ok (.getfield 9, 3) := by decide +kernel
theorem dX5_copyFrom_12 : decode cX5_copyFrom 12 = .ok (.iload_n 2, 1) := by decide +kernel
theorem dX5_copyFrom_13 : decode cX5_copyFrom 13 = .ok (.aload_n 1, 1) := by decide +kernel
theorem dX5_copyFrom_14 : decode cX5_copyFrom 14 = .ok (.getfield 9, 3) := by decide +kernel
theorem dX5_copyFrom_17 : decode cX5_copyFrom 17 = .ok (.iload_n 2, 1) := by decide +kernel
theorem dX5_copyFrom_18 : decode cX5_copyFrom 18 = .ok (.laload, 1) := by decide +kernel
theorem dX5_copyFrom_19 : decode cX5_copyFrom 19 = .ok (.lastore, 1) := by decide +kernel
theorem dX5_copyFrom_20 : decode cX5_copyFrom 20 = .ok (.iinc 2 1, 3) := by decide +kernel
theorem dX5_copyFrom_23 : decode cX5_copyFrom 23 = .ok (.goto (-21), 3) := by decide +kernel
theorem dX5_copyFrom_26 : decode cX5_copyFrom 26 = .ok (.iconst 0, 1) := by decide +kernel
theorem dX5_copyFrom_27 : decode cX5_copyFrom 27 = .ok (.istore_n 2, 1) := by decide +kernel
theorem dX5_copyFrom_28 : decode cX5_copyFrom 28 = .ok (.iload_n 2, 1) := by decide +kernel
theorem dX5_copyFrom_29 : decode cX5_copyFrom 29 = .ok (.iconst 4, 1) := by decide +kernel
theorem dX5_copyFrom_30 : decode cX5_copyFrom 30 = .ok (.if_icmp .ge 33, 3) := by decide +kernel
theorem dX5_copyFrom_33 : decode cX5_copyFrom 33 = .ok (.aload_n 0, 1) := by decide +kernel
theorem dX5_copyFrom_34 : decode cX5_copyFrom 34 = .ok (.getfield 15, 3) := by decide +kernel
theorem dX5_copyFrom_37 : decode cX5_copyFrom 37 = .ok (.iload_n 2, 1) := by decide +kernel
theorem dX5_copyFrom_38 : decode cX5_copyFrom 38 = .ok (.aload_n 1, 1) := by decide +kernel
theorem dX5_copyFrom_39 : decode cX5_copyFrom 39 = .ok (.getfield 15, 3) := by decide +kernel
theorem dX5_copyFrom_42 : decode cX5_copyFrom 42 = .ok (.iload_n 2, 1) := by decide +kernel
theorem dX5_copyFrom_43 : decode cX5_copyFrom 43 = .ok (.laload, 1) := by decide +kernel
theorem dX5_copyFrom_44 : decode cX5_copyFrom 44 = .ok (.lastore, 1) := by decide +kernel
theorem dX5_copyFrom_45 : decode cX5_copyFrom 45 = .ok (.aload_n 0, 1) := by decide +kernel
theorem dX5_copyFrom_46 : decode cX5_copyFrom 46 = .ok (.getfield 18, 3) := by decide +kernel
theorem dX5_copyFrom_49 : decode cX5_copyFrom 49 = .ok (.iload_n 2, 1) := by decide +kernel
theorem dX5_copyFrom_50 : decode cX5_copyFrom 50 = .ok (.aload_n 1, 1) := by decide +kernel
theorem dX5_copyFrom_51 : decode cX5_copyFrom 51 = .ok (.getfield 18, 3) := by decide +kernel
theorem dX5_copyFrom_54 : decode cX5_copyFrom 54 = .ok (.iload_n 2, 1) := by decide +kernel
theorem dX5_copyFrom_55 : decode cX5_copyFrom 55 = .ok (.baload, 1) := by decide +kernel
theorem dX5_copyFrom_56 : decode cX5_copyFrom 56 = .ok (.bastore, 1) := by decide +kernel
theorem dX5_copyFrom_57 : decode cX5_copyFrom 57 = .ok (.iinc 2 1, 3) := by decide +kernel
theorem dX5_copyFrom_60 : decode cX5_copyFrom 60 = .ok (.goto (-32), 3) := by decide +kernel
theorem dX5_copyFrom_63 : decode cX5_copyFrom 63 = .ok (.aload_n 0, 1) := by decide +kernel
theorem dX5_copyFrom_64 : decode cX5_copyFrom 64 = .ok (.aload_n 1, 1) := by decide +kernel
theorem dX5_copyFrom_65 : decode cX5_copyFrom 65 = .ok (.getfield 22, 3) := by decide +kernel
theorem dX5_copyFrom_68 : decode cX5_copyFrom 68 = .ok (.putfield 22, 3) := by decide +kernel
theorem dX5_copyFrom_71 : decode cX5_copyFrom 71 = .ok (.return_, 1) := by decide +kernel
theorem dX5_countFilled_0 : decode cX5_countFilled 0 = .ok (.iconst 0, 1) := by decide +kernel
theorem dX5_countFilled_1 : decode cX5_countFilled 1 = .ok (.istore_n 1, 1) := by decide +kernel
theorem dX5_countFilled_2 : decode cX5_countFilled 2 = .ok (.iconst 0, 1) := by decide +kernel
theorem dX5_countFilled_3 : decode cX5_countFilled 3 = .ok (.istore_n 2, 1) := by decide +kernel
theorem dX5_countFilled_4 : decode cX5_countFilled 4 = .ok (.iload_n 2, 1) := by decide +kernel
theorem dX5_countFilled_5 : decode cX5_countFilled 5 = .ok (.bipush 8, 2) := by decide +kernel
theorem dX5_countFilled_7 : decode cX5_countFilled 7 = .ok (.if_icmp .ge 23, 3) := by decide +kernel
theorem dX5_countFilled_10 : decode cX5_countFilled 10 = .ok (.aload_n 0, 1) := by decide +kernel
theorem dX5_countFilled_11 : decode cX5_countFilled 11 = .ok (.getfield 9, 3) := by decide +kernel
theorem dX5_countFilled_14 : decode cX5_countFilled 14 = .ok (.iload_n 2, 1) := by decide +kernel
theorem dX5_countFilled_15 : decode cX5_countFilled 15 = .ok (.laload, 1) := by decide +kernel
theorem dX5_countFilled_16 : decode cX5_countFilled 16 = .ok (.lconst 0, 1) := by decide +kernel
theorem dX5_countFilled_17 : decode cX5_countFilled 17 = .ok (.lcmp, 1) := by decide +kernel
theorem dX5_countFilled_18 : decode cX5_countFilled 18 = .ok (.ifCond .eq 6, 3) := by decide +kernel
theorem dX5_countFilled_21 : decode cX5_countFilled 21 = .ok (.iinc 1 1, 3) := by decide +kernel
theorem dX5_countFilled_24 : decode cX5_countFilled 24 = .ok (.iinc 2 1, 3) := by decide +kernel
theorem dX5_countFilled_27 : decode cX5_countFilled 27 = .ok (.goto (-23), 3) := by decide +kernel
theorem dX5_countFilled_30 : decode cX5_countFilled 30 = .ok (.iload_n 1, 1) := by decide +kernel
theorem dX5_countFilled_31 : decode cX5_countFilled 31 = .ok (.ireturn, 1) := by decide +kernel
set_option maxRecDepth 20000 in
theorem ggX5_countCells_J13_bitCount_95d88 : GoodIn wsX5_countCells wsJ13_bitCount_95d88 := goodIn_r _ [5, 6, 7, 8] (by decide +kernel) (by decide +kernel)
set_option maxRecDepth 20000 in
theorem gX5_countCells_J13_bitCount_95d88 : GoodIn wsX5_countCells (va_wsS RX5 26 yJ13_bitCount_95d88 wsJ13_bitCount_95d88) := goodIn_app (goodIn_of _ (by decide +kernel)) ggX5_countCells_J13_bitCount_95d88
theorem dX5_countCells_0 : decode cX5_countCells 0 = .ok (.iconst 0, 1) := by decide +kernel
theorem dX5_countCells_1 : decode cX5_countCells 1 = .ok (.istore_n 1, 1) := by decide +kernel
theorem dX5_countCells_2 : decode cX5_countCells 2 = .ok (.iconst 0, 1) := by decide +kernel
theorem dX5_countCells_3 : decode cX5_countCells 3 = .ok (.istore_n 2, 1) := by decide +kernel
theorem dX5_countCells_4 : decode cX5_countCells 4 = .ok (.iload_n 2, 1) := by decide +kernel
theorem dX5_countCells_5 : decode cX5_countCells 5 = .ok (.bipush 8, 2) := by decide +kernel
theorem dX5_countCells_7 : decode cX5_countCells 7 = .ok (.if_icmp .ge 21, 3) := by decide +kernel
theorem dX5_countCells_10 : decode cX5_countCells 10 = .ok (.iload_n 1, 1) := by decide +kernel
theorem dX5_countCells_11 : decode cX5_countCells 11 = .ok (.aload_n 0, 1) := by decide +kernel
theorem dX5_countCells_12 : decode cX5_countCells 12 = .ok (.getfield 9, 3) := by decide +kernel
theorem dX5_countCells_15 : decode cX5_countCells 15 = .ok (.iload_n 2, 1) := by decide +kernel
theorem dX5_countCells_16 : decode cX5_countCells 16 = .ok (.laload, 1) := by decide +kernel
theorem dX5_countCells_17 : decode cX5_countCells 17 = .ok (.invokestatic 26, 3) := by decide +kernel
theorem dX5_countCells_20 : decode cX5_countCells 20 = .ok (.iadd, 1) := by decide +kernel
theorem dX5_countCells_21 : decode cX5_countCells 21 = .ok (.istore_n 1, 1) := by decide +kernel
theorem dX5_countCells_22 : decode cX5_countCells 22 = .ok (.iinc 2 1, 3) := by decide +kernel
theorem dX5_countCells_25 : decode cX5_countCells 25 = .ok (.goto (-21), 3) := by decide +kernel
theorem dX5_countCells_28 : decode cX5_countCells 28 = .ok (.iload_n 1, 1) := by decide +kernel
theorem dX5_countCells_29 : decode cX5_countCells 29 = .ok (.ireturn, 1) := by decide +kernel
theorem dX6_init_0 : decode cX6_init 0 = .ok (.aload_n 0, 1) := by decide +kernel
theorem dX6_init_1 : decode cX6_init 1 = .ok (.invokespecial 3, 3) := by decide +kernel
theorem dX6_init_4 : decode cX6_init 4 = .ok (.aload_n 0, 1) := by decide +kernel
theorem dX6_init_5 : decode cX6_init 5 = .ok (.bipush 16, 2) := by decide +kernel
theorem dX6_init_7 : decode cX6_init 7 = .ok (.newarray .int, 2) := by decide +kernel
theorem dX6_init_9 : decode cX6_init 9 = .ok (.putfield 9, 3) := by decide +kernel
theorem dX6_init_12 : decode cX6_init 12 = .ok (.aload_n 0, 1) := by decide +kernel
theorem dX6_init_13 : decode cX6_init 13 = .ok (.iconst 0, 1) := by decide +kernel
theorem dX6_init_14 : decode cX6_init 14 = .ok (.putfield 15, 3) := by decide +kernel
theorem dX6_init_17 : decode cX6_init 17 = .ok (.return_, 1) := by decide +kernel
theorem dX6_append_0 : decode cX6_append 0 = .ok (.iload_n 1, 1) := by decide +kernel
theorem dX6_append_1 : decode cX6_append 1 = .ok (.iconst 1, 1) := by decide +kernel
theorem dX6_append_2 : decode cX6_append 2 = .ok (.isub, 1) := by decide +kernel
theorem dX6_append_3 : decode cX6_append 3 = .ok (.istore 4, 2) := by decide +kernel
theorem dX6_append_5 : decode cX6_append 5 = .ok (.iload 4, 2) := by decide +kernel
theorem dX6_append_7 : decode cX6_append 7 = .ok (.ifCond .lt 49, 3) := by decide +kernel
theorem dX6_append_10 : decode cX6_append 10 = .ok (.aload_n 0, 1) := by decide +kernel
theorem dX6_append_11 : decode cX6_append 11 = .ok (.getfield 15, 3) := by decide +kernel
theorem dX6_append_14 : decode cX6_append 14 = .ok (.bipush 16, 2) := by decide +kernel
theorem dX6_append_16 : decode cX6_append 16 = .ok (.if_icmp .ge 40, 3) := by decide +kernel
theorem dX6_append_19 : decode cX6_append 19 = .ok (.aload_n 0, 1) := by decide +kernel
theorem dX6_append_20 : decode cX6_append 20 = .ok (.getfield 9, 3) := by decide +kernel
theorem dX6_append_23 : decode cX6_append 23 = .ok (.aload_n 0, 1) := by decide +kernel
theorem dX6_append_24 : decode cX6_append 24 = .ok (.getfield 15, 3) := by decide +kernel
theorem dX6_append_27 : decode cX6_append 27 = .ok (.lload_n 2, 1) := by decide +kernel
theorem dX6_append_28 : decode cX6_append 28 = .ok (.bipush 8, 2) := by decide +kernel
theorem dX6_append_30 : decode cX6_append 30 = .ok (.iload 4, 2) := by decide +kernel
theorem dX6_append_32 : decode cX6_append 32 = .ok (.imul, 1) := by decide +kernel
theorem dX6_append_33 : decode cX6_append 33 = .ok (.lushr, 1) := by decide +kernel
theorem dX6_append_34 : decode cX6_append 34 = .ok (.l2i, 1) := by decide +kernel
theorem dX6_append_35 : decode cX6_append 35 = .ok (.sipush 255, 3) := by decide +kernel
theorem dX6_append_38 : decode cX6_append 38 = .ok (.iand, 1) := by decide +kernel
theorem dX6_append_39 : decode cX6_append 39 = .ok (.iastore, 1) := by decide +kernel
theorem dX6_append_40 : decode cX6_append 40 = .ok (.aload_n 0, 1) := by decide +kernel
theorem dX6_append_41 : decode cX6_append 41 = .ok (.dup, 1) := by decide +kernel
theorem dX6_append_42 : decode cX6_append 42 = .ok (.getfield 15, 3) := by decide +kernel
theorem dX6_append_45 : decode cX6_append 45 = .ok (.iconst 1, 1) := by decide +kernel
theorem dX6_append_46 : decode cX6_append 46 = .ok (.iadd, 1) := by decide +kernel
theorem dX6_append_47 : decode cX6_append 47 = .ok (.putfield 15, 3) := by decide +kernel
theorem dX6_append_50 : decode cX6_append 50 = .ok (.iinc 4 (-1), 3) := by decide +kernel
theorem dX6_append_53 : decode cX6_append 53 = .ok (.goto (-48), 3) := by decide +kernel
theorem dX6_append_56 : decode cX6_append 56 = .ok (.return_, 1) := by decide +kernel
set_option maxRecDepth 20000 in
theorem ggX6_firstFault_X6_valueOf : GoodIn wsX6_firstFault wsX6_valueOf := goodIn_r _ [6] (by decide +kernel) (by decide +kernel)
set_option maxRecDepth 20000 in
theorem gX6_firstFault_X6_valueOf : GoodIn wsX6_firstFault (va_wsS RX6 19 yX6_valueOf wsX6_valueOf) := goodIn_app (goodIn_of _ (by decide +kernel)) ggX6_firstFault_X6_valueOf
theorem dX6_firstFault_0 : decode cX6_firstFault 0 = .ok (.iconst 0, 1) := by decide +kernel
theorem dX6_firstFault_1 : decode cX6_firstFault 1 = .ok (.istore_n 1, 1) := by decide +kernel
theorem dX6_firstFault_2 : decode cX6_firstFault 2 = .ok (.iload_n 1, 1) := by decide +kernel
theorem dX6_firstFault_3 : decode cX6_firstFault 3 = .ok (.aload_n 0, 1) := by decide +kernel
theorem dX6_firstFault_4 : decode cX6_firstFault 4 = .ok (.getfield 15, 3) := by decide +kernel
theorem dX6_firstFault_7 : decode cX6_firstFault 7 = .ok (.if_icmp .ge 23, 3) := by decide +kernel
theorem dX6_firstFault_10 : decode cX6_firstFault 10 = .ok (.aload_n 0, 1) := by decide +kernel
theorem dX6_firstFault_11 : decode cX6_firstFault 11 = .ok (.getfield 9, 3) := by decide +kernel
theorem dX6_firstFault_14 : decode cX6_firstFault 14 = .ok (.iload_n 1, 1) := by decide +kernel
theorem dX6_firstFault_15 : decode cX6_firstFault 15 = .ok (.iaload, 1) := by decide +kernel
theorem dX6_firstFault_16 : decode cX6_firstFault 16 = .ok (.invokestatic 19, 3) := by decide +kernel
theorem dX6_firstFault_19 : decode cX6_firstFault 19 = .ok (.ifCond .ge 5, 3) := by decide +kernel
theorem dX6_firstFault_22 : decode cX6_firstFault 22 = .ok (.iload_n 1, 1) := by decide +kernel
theorem dX6_firstFault_23 : decode cX6_firstFault 23 = .ok (.ireturn, 1) := by decide +kernel
theorem dX6_firstFault_24 : decode cX6_firstFault 24 = .ok (.iinc 1 1, 3) := by decide +kernel
theorem dX6_firstFault_27 : decode cX6_firstFault 27 = .ok (.goto (-25), 3) := by decide +kernel
theorem dX6_firstFault_30 : decode cX6_firstFault 30 = .ok (.aload_n 0, 1) := by decide +kernel
theorem dX6_firstFault_31 : decode cX6_firstFault 31 = .ok (.getfield 15, 3) := by decide +kernel
theorem dX6_firstFault_34 : decode cX6_firstFault 34 = .ok (.bipush 16, 2) := by decide +kernel
theorem dX6_firstFault_36 : decode cX6_firstFault 36 = .ok (.if_icmp .ge 10, 3) := by decide +kernel
theorem dX6_firstFault_39 : decode cX6_firstFault 39 = .ok (.aload_n 0, 1) := by decide +kernel
theorem dX6_firstFault_40 : decode cX6_firstFault 40 = .ok (.getfield 15, 3) := by decide +kernel
theorem dX6_firstFault_43 : decode cX6_firstFault 43 = .ok (.goto 5, 3) := by decide +kernel
theorem dX6_firstFault_46 : decode cX6_firstFault 46 = .ok (.bipush (-9), 2) := by decide +kernel
theorem dX6_firstFault_48 : decode cX6_firstFault 48 = .ok (.ireturn, 1) := by decide +kernel
set_option maxRecDepth 20000 in
theorem ggX6_cells_X6_valueOf : GoodIn wsX6_cells wsX6_valueOf := goodIn_r _ [6] (by decide +kernel) (by decide +kernel)
set_option maxRecDepth 20000 in
theorem gX6_cells_X6_valueOf : GoodIn wsX6_cells (va_wsS RX6 19 yX6_valueOf wsX6_valueOf) := goodIn_app (goodIn_of _ (by decide +kernel)) ggX6_cells_X6_valueOf
theorem dX6_cells_0 : decode cX6_cells 0 = .ok (.lconst 0, 1) := by decide +kernel
theorem dX6_cells_1 : decode cX6_cells 1 = .ok (.lstore_n 1, 1) := by decide +kernel
theorem dX6_cells_2 : decode cX6_cells 2 = .ok (.iconst 0, 1) := by decide +kernel
theorem dX6_cells_3 : decode cX6_cells 3 = .ok (.istore_n 3, 1) := by decide +kernel
theorem dX6_cells_4 : decode cX6_cells 4 = .ok (.iload_n 3, 1) := by decide +kernel
theorem dX6_cells_5 : decode cX6_cells 5 = .ok (.aload_n 0, 1) := by decide +kernel
theorem dX6_cells_6 : decode cX6_cells 6 = .ok (.getfield 15, 3) := by decide +kernel
theorem dX6_cells_9 : decode cX6_cells 9 = .ok (.if_icmp .ge 26, 3) := by decide +kernel
theorem dX6_cells_12 : decode cX6_cells 12 = .ok (.lload_n 1, 1) := by decide +kernel
theorem dX6_cells_13 : decode cX6_cells 13 = .ok (.aload_n 0, 1) := by decide +kernel
theorem dX6_cells_14 : decode cX6_cells 14 = .ok (.getfield 9, 3) := by decide +kernel
theorem dX6_cells_17 : decode cX6_cells 17 = .ok (.iload_n 3, 1) := by decide +kernel
theorem dX6_cells_18 : decode cX6_cells 18 = .ok (.iaload, 1) := by decide +kernel
theorem dX6_cells_19 : decode cX6_cells 19 = .ok (.invokestatic 19, 3) := by decide +kernel
theorem dX6_cells_22 : decode cX6_cells 22 = .ok (.i2l, 1) := by decide +kernel
theorem dX6_cells_23 : decode cX6_cells 23 = .ok (.iconst 4, 1) := by decide +kernel
theorem dX6_cells_24 : decode cX6_cells 24 = .ok (.iload_n 3, 1) := by decide +kernel
theorem dX6_cells_25 : decode cX6_cells 25 = .ok (.imul, 1) := by decide +kernel
theorem dX6_cells_26 : decode cX6_cells 26 = .ok (.lshl, 1) := by decide +kernel
theorem dX6_cells_27 : decode cX6_cells 27 = .ok (.lor, 1) := by decide +kernel
theorem dX6_cells_28 : decode cX6_cells 28 = .ok (.lstore_n 1, 1) := by decide +kernel
theorem dX6_cells_29 : decode cX6_cells 29 = .ok (.iinc 3 1, 3) := by decide +kernel
theorem dX6_cells_32 : decode cX6_cells 32 = .ok (.goto (-28), 3) := by decide +kernel
theorem dX6_cells_35 : decode cX6_cells 35 = .ok (.lload_n 1, 1) := by decide +kernel
theorem dX6_cells_36 : decode cX6_cells 36 = .ok (.lreturn, 1) := by decide +kernel
theorem dX6_valueOf_0 : decode cX6_valueOf 0 = .ok (.iload_n 0, 1) := by decide +kernel
theorem dX6_valueOf_1 : decode cX6_valueOf 1 = .ok (.bipush 48, 2) := by decide +kernel
theorem dX6_valueOf_3 : decode cX6_valueOf 3 = .ok (.if_icmp .lt 14, 3) := by decide +kernel
theorem dX6_valueOf_6 : decode cX6_valueOf 6 = .ok (.iload_n 0, 1) := by decide +kernel
theorem dX6_valueOf_7 : decode cX6_valueOf 7 = .ok (.bipush 57, 2) := by decide +kernel
theorem dX6_valueOf_9 : decode cX6_valueOf 9 = .ok (.if_icmp .gt 8, 3) := by decide +kernel
theorem dX6_valueOf_12 : decode cX6_valueOf 12 = .ok (.iload_n 0, 1) := by decide +kernel
theorem dX6_valueOf_13 : decode cX6_valueOf 13 = .ok (.bipush 48, 2) := by decide +kernel
theorem dX6_valueOf_15 : decode cX6_valueOf 15 = .ok (.isub, 1) := by decide +kernel
theorem dX6_valueOf_16 : decode cX6_valueOf 16 = .ok (.ireturn, 1) := by decide +kernel
theorem dX6_valueOf_17 : decode cX6_valueOf 17 = .ok (.iload_n 0, 1) := by decide +kernel
theorem dX6_valueOf_18 : decode cX6_valueOf 18 = .ok (.bipush 97, 2) := by decide +kernel
theorem dX6_valueOf_20 : decode cX6_valueOf 20 = .ok (.if_icmp .lt 19, 3) := by decide +kernel
theorem dX6_valueOf_23 : decode cX6_valueOf 23 = .ok (.iload_n 0, 1) := by decide +kernel
theorem dX6_valueOf_24 : decode cX6_valueOf 24 = .ok (.bipush 102, 2) := by decide +kernel
theorem dX6_valueOf_26 : decode cX6_valueOf 26 = .ok (.if_icmp .gt 13, 3) := by decide +kernel
theorem dX6_valueOf_29 : decode cX6_valueOf 29 = .ok (.iload_n 0, 1) := by decide +kernel
theorem dX6_valueOf_30 : decode cX6_valueOf 30 = .ok (.bipush 97, 2) := by decide +kernel
theorem dX6_valueOf_32 : decode cX6_valueOf 32 = .ok (.isub, 1) := by decide +kernel
theorem dX6_valueOf_33 : decode cX6_valueOf 33 = .ok (.bipush 10, 2) := by decide +kernel
theorem dX6_valueOf_35 : decode cX6_valueOf 35 = .ok (.iadd, 1) := by decide +kernel
theorem dX6_valueOf_36 : decode cX6_valueOf 36 = .ok (.goto 4, 3) := by decide +kernel
theorem dX6_valueOf_39 : decode cX6_valueOf 39 = .ok (.iconst (-1), 1) := by decide +kernel
theorem dX6_valueOf_40 : decode cX6_valueOf 40 = .ok (.ireturn, 1) := by decide +kernel
theorem dX6_signOf_0 : decode cX6_signOf 0 = .ok (.iload_n 0, 1) := by decide +kernel
theorem dX6_signOf_1 : decode cX6_signOf 1 = .ok (.bipush 10, 2) := by decide +kernel
theorem dX6_signOf_3 : decode cX6_signOf 3 = .ok (.if_icmp .ge 10, 3) := by decide +kernel
theorem dX6_signOf_6 : decode cX6_signOf 6 = .ok (.bipush 48, 2) := by decide +kernel
theorem dX6_signOf_8 : decode cX6_signOf 8 = .ok (.iload_n 0, 1) := by decide +kernel
theorem dX6_signOf_9 : decode cX6_signOf 9 = .ok (.iadd, 1) := by decide +kernel
theorem dX6_signOf_10 : decode cX6_signOf 10 = .ok (.goto 10, 3) := by decide +kernel
theorem dX6_signOf_13 : decode cX6_signOf 13 = .ok (.bipush 97, 2) := by decide +kernel
theorem dX6_signOf_15 : decode cX6_signOf 15 = .ok (.iload_n 0, 1) := by decide +kernel
theorem dX6_signOf_16 : decode cX6_signOf 16 = .ok (.iadd, 1) := by decide +kernel
theorem dX6_signOf_17 : decode cX6_signOf 17 = .ok (.bipush 10, 2) := by decide +kernel
theorem dX6_signOf_19 : decode cX6_signOf 19 = .ok (.isub, 1) := by decide +kernel
theorem dX6_signOf_20 : decode cX6_signOf 20 = .ok (.ireturn, 1) := by decide +kernel
