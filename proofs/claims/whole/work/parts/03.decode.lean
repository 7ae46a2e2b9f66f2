theorem dX0_init_0 : decode cX0_init 0 = .ok (.aload_n 0, 1) := by decide +kernel
theorem dX0_init_1 : decode cX0_init 1 = .ok (.invokespecial 3, 3) := by decide +kernel
theorem dX0_init_4 : decode cX0_init 4 = .ok (.aload_n 0, 1) := by decide +kernel
theorem dX0_init_5 : decode cX0_init 5 = .ok (.aload_n 1, 1) := by decide +kernel
theorem dX0_init_6 : decode cX0_init 6 = .ok (.putfield 9, 3) := by decide +kernel
theorem dX0_init_9 : decode cX0_init 9 = .ok (.aload_n 0, 1) := by decide +kernel
theorem dX0_init_10 : decode cX0_init 10 = .ok (.aload_n 2, 1) := by decide +kernel
theorem dX0_init_11 : decode cX0_init 11 = .ok (.putfield 15, 3) := by decide +kernel
theorem dX0_init_14 : decode cX0_init 14 = .ok (.aload_n 0, 1) := by decide +kernel
theorem dX0_init_15 : decode cX0_init 15 = .ok (.aload_n 3, 1) := by decide +kernel
theorem dX0_init_16 : decode cX0_init 16 = .ok (.putfield 19, 3) := by decide +kernel
theorem dX0_init_19 : decode cX0_init 19 = .ok (.return_, 1) := by decide +kernel
set_option maxRecDepth 20000 in
theorem ggX0_under_X3_x : GoodIn wsX0_under wsX3_x := goodIn_r _ [7, 8, 50, 51, 52, 53] (by decide +kernel) (by decide +kernel)
set_option maxRecDepth 20000 in
theorem gX0_under_X3_x : GoodIn wsX0_under (wsV RX0 23 RX3 yX3_x wsX3_x) := goodIn_app (goodIn_of _ (by decide +kernel)) ggX0_under_X3_x
set_option maxRecDepth 20000 in
theorem ggX0_under_X3_y : GoodIn wsX0_under wsX3_y := goodIn_r _ [12, 8, 50, 51, 52, 53] (by decide +kernel) (by decide +kernel)
set_option maxRecDepth 20000 in
theorem gX0_under_X3_y : GoodIn wsX0_under (wsV RX0 29 RX3 yX3_y wsX3_y) := goodIn_app (goodIn_of _ (by decide +kernel)) ggX0_under_X3_y
set_option maxRecDepth 20000 in
theorem ggX0_under_X3_standing : GoodIn wsX0_under wsX3_standing := goodIn_r _ [16, 17, 18, 19, 20, 21, 22, 23, 6, 24, 8, 25, 26, 27, 28, 29, 30, 31, 32, 50, 51, 52, 53] (by decide +kernel) (by decide +kernel)
set_option maxRecDepth 20000 in
theorem gX0_under_X3_standing : GoodIn wsX0_under (wsV RX0 32 RX3 yX3_standing wsX3_standing) := goodIn_app (goodIn_of _ (by decide +kernel)) ggX0_under_X3_standing
set_option maxRecDepth 20000 in
theorem ggX0_under_X1_below : GoodIn wsX0_under wsX1_below := goodIn_r _ [37, 38, 39, 40, 41, 42, 36, 43, 44, 45, 46, 54, 55, 56, 57, 58, 59] (by decide +kernel) (by decide +kernel)
set_option maxRecDepth 20000 in
theorem gX0_under_X1_below : GoodIn wsX0_under (wsV RX0 36 RX1 yX1_below wsX1_below) := goodIn_app (goodIn_of _ (by decide +kernel)) ggX0_under_X1_below
theorem dX0_under_0 : decode cX0_under 0 = .ok (.aload_n 0, 1) := by decide +kernel
theorem dX0_under_1 : decode cX0_under 1 = .ok (.getfield 9, 3) := by decide +kernel
theorem dX0_under_4 : decode cX0_under 4 = .ok (.aload_n 0, 1) := by decide +kernel
theorem dX0_under_5 : decode cX0_under 5 = .ok (.getfield 15, 3) := by decide +kernel
theorem dX0_under_8 : decode cX0_under 8 = .ok (.iload_n 1, 1) := by decide +kernel
theorem dX0_under_9 : decode cX0_under 9 = .ok (.invokevirtual 23, 3) := by decide +kernel
theorem dX0_under_12 : decode cX0_under 12 = .ok (.aload_n 0, 1) := by decide +kernel
theorem dX0_under_13 : decode cX0_under 13 = .ok (.getfield 15, 3) := by decide +kernel
theorem dX0_under_16 : decode cX0_under 16 = .ok (.iload_n 1, 1) := by decide +kernel
theorem dX0_under_17 : decode cX0_under 17 = .ok (.invokevirtual 29, 3) := by decide +kernel
theorem dX0_under_20 : decode cX0_under 20 = .ok (.aload_n 0, 1) := by decide +kernel
theorem dX0_under_21 : decode cX0_under 21 = .ok (.getfield 15, 3) := by decide +kernel
theorem dX0_under_24 : decode cX0_under 24 = .ok (.iload_n 1, 1) := by decide +kernel
theorem dX0_under_25 : decode cX0_under 25 = .ok (.iload_n 2, 1) := by decide +kernel
theorem dX0_under_26 : decode cX0_under 26 = .ok (.invokevirtual 32, 3) := by decide +kernel
theorem dX0_under_29 : decode cX0_under 29 = .ok (.invokevirtual 36, 3) := by decide +kernel
theorem dX0_under_32 : decode cX0_under 32 = .ok (.ireturn, 1) := by decide +kernel
set_option maxRecDepth 20000 in
theorem ggX0_covered_X0_coveredBut : GoodIn wsX0_covered wsX0_coveredBut := goodIn_r _ [5, 6, 7, 8, 9, 10, 11, 12, 13, 14, 15, 4, 16, 17, 18, 19, 20, 21, 22, 23, 24, 25, 26, 27, 28, 29, 30, 31, 32, 33, 34, 35, 36, 37, 38, 39, 40, 41, 42, 43, 44, 45, 46, 47, 48, 49, 50, 51, 52, 53, 54, 55, 56, 57, 58, 59, 60, 61, 62, 63, 64, 65, 66, 67, 68, 69, 70, 71, 72] (by decide +kernel) (by decide +kernel)
set_option maxRecDepth 20000 in
theorem gX0_covered_X0_coveredBut : GoodIn wsX0_covered (wsV RX0 42 RX0 yX0_coveredBut wsX0_coveredBut) := goodIn_app (goodIn_of _ (by decide +kernel)) ggX0_covered_X0_coveredBut
theorem dX0_covered_0 : decode cX0_covered 0 = .ok (.aload_n 0, 1) := by decide +kernel
theorem dX0_covered_1 : decode cX0_covered 1 = .ok (.iconst (-1), 1) := by decide +kernel
theorem dX0_covered_2 : decode cX0_covered 2 = .ok (.iload_n 1, 1) := by decide +kernel
theorem dX0_covered_3 : decode cX0_covered 3 = .ok (.invokevirtual 42, 3) := by decide +kernel
theorem dX0_covered_6 : decode cX0_covered 6 = .ok (.ireturn, 1) := by decide +kernel
set_option maxRecDepth 20000 in
theorem ggX0_coveredBut_X3_trees : GoodIn wsX0_coveredBut wsX3_trees := goodIn_r _ [6, 7, 59, 60, 61, 62] (by decide +kernel) (by decide +kernel)
set_option maxRecDepth 20000 in
theorem gX0_coveredBut_X3_trees : GoodIn wsX0_coveredBut (wsV RX0 45 RX3 yX3_trees wsX3_trees) := goodIn_app (goodIn_of _ (by decide +kernel)) ggX0_coveredBut_X3_trees
set_option maxRecDepth 20000 in
theorem ggX0_coveredBut_X0_under : GoodIn wsX0_coveredBut wsX0_under := goodIn_r _ [12, 13, 1, 14, 15, 16, 5, 17, 7, 18, 19, 20, 21, 22, 23, 24, 25, 26, 27, 28, 29, 30, 31, 32, 33, 34, 35, 36, 37, 38, 39, 40, 41, 42, 43, 44, 45, 46, 47, 48, 49, 50, 51, 52, 53, 54, 55, 56, 57, 58, 59, 60, 61, 62, 63, 64, 65, 66, 67, 68] (by decide +kernel) (by decide +kernel)
set_option maxRecDepth 20000 in
theorem gX0_coveredBut_X0_under : GoodIn wsX0_coveredBut (wsV RX0 49 RX0 yX0_under wsX0_under) := goodIn_app (goodIn_of _ (by decide +kernel)) ggX0_coveredBut_X0_under
theorem dX0_coveredBut_0 : decode cX0_coveredBut 0 = .ok (.iconst 0, 1) := by decide +kernel
theorem dX0_coveredBut_1 : decode cX0_coveredBut 1 = .ok (.istore_n 3, 1) := by decide +kernel
theorem dX0_coveredBut_2 : decode cX0_coveredBut 2 = .ok (.iconst 0, 1) := by decide +kernel
theorem dX0_coveredBut_3 : decode cX0_coveredBut 3 = .ok (.istore 4, 2) := by decide +kernel
theorem dX0_coveredBut_5 : decode cX0_coveredBut 5 = .ok (.iload 4, 2) := by decide +kernel
theorem dX0_coveredBut_7 : decode cX0_coveredBut 7 = .ok (.aload_n 0, 1) := by decide +kernel
theorem dX0_coveredBut_8 : decode cX0_coveredBut 8 = .ok (.getfield 15, 3) := by decide +kernel
theorem dX0_coveredBut_11 : decode cX0_coveredBut 11 = .ok (.invokevirtual 45, 3) := by decide +kernel
theorem dX0_coveredBut_14 : decode cX0_coveredBut 14 = .ok (.if_icmp .ge 25, 3) := by decide +kernel
theorem dX0_coveredBut_17 : decode cX0_coveredBut 17 = .ok (.iload 4, 2) := by decide +kernel
theorem dX0_coveredBut_19 : decode cX0_coveredBut 19 = .ok (.iload_n 1, 1) := by decide +kernel
theorem dX0_coveredBut_20 : decode cX0_coveredBut 20 = .ok (.if_icmp .eq 13, 3) := by decide +kernel
theorem dX0_coveredBut_23 : decode cX0_coveredBut 23 = .ok (.iload_n 3, 1) := by decide +kernel
theorem dX0_coveredBut_24 : decode cX0_coveredBut 24 = .ok (.aload_n 0, 1) := by decide +kernel
theorem dX0_coveredBut_25 : decode cX0_coveredBut 25 = .ok (.iload 4, 2) := by decide +kernel
theorem dX0_coveredBut_27 : decode cX0_coveredBut 27 = .ok (.iload_n 2, 1) := by decide +kernel
theorem dX0_coveredBut_28 : decode cX0_coveredBut 28 = .ok (.invokevirtual 49, 3) := by decide +kernel
theorem dX0_coveredBut_31 : decode cX0_coveredBut 31 = .ok (.ior, 1) := by decide +kernel
theorem dX0_coveredBut_32 : decode cX0_coveredBut 32 = .ok (.istore_n 3, 1) := by decide +kernel
theorem dX0_coveredBut_33 : decode cX0_coveredBut 33 = .ok (.iinc 4 1, 3) := by decide +kernel
theorem dX0_coveredBut_36 : decode cX0_coveredBut 36 = .ok (.goto (-31), 3) := by decide +kernel
theorem dX0_coveredBut_39 : decode cX0_coveredBut 39 = .ok (.iload_n 3, 1) := by decide +kernel
theorem dX0_coveredBut_40 : decode cX0_coveredBut 40 = .ok (.ireturn, 1) := by decide +kernel
set_option maxRecDepth 20000 in
theorem ggX0_covers_X3_standing : GoodIn wsX0_covers wsX3_standing := goodIn_r _ [8, 9, 10, 11, 12, 13, 14, 15, 7, 16, 17, 18, 19, 20, 21, 22, 23, 24, 25, 51, 52, 53, 54] (by decide +kernel) (by decide +kernel)
set_option maxRecDepth 20000 in
theorem gX0_covers_X3_standing : GoodIn wsX0_covers (wsV RX0 32 RX3 yX3_standing wsX3_standing) := goodIn_app (goodIn_of _ (by decide +kernel)) ggX0_covers_X3_standing
set_option maxRecDepth 20000 in
theorem ggX0_covers_X3_x : GoodIn wsX0_covers wsX3_x := goodIn_r _ [29, 17, 51, 52, 53, 54] (by decide +kernel) (by decide +kernel)
set_option maxRecDepth 20000 in
theorem gX0_covers_X3_x : GoodIn wsX0_covers (wsV RX0 23 RX3 yX3_x wsX3_x) := goodIn_app (goodIn_of _ (by decide +kernel)) ggX0_covers_X3_x
set_option maxRecDepth 20000 in
theorem ggX0_covers_X3_y : GoodIn wsX0_covers wsX3_y := goodIn_r _ [33, 17, 51, 52, 53, 54] (by decide +kernel) (by decide +kernel)
set_option maxRecDepth 20000 in
theorem gX0_covers_X3_y : GoodIn wsX0_covers (wsV RX0 29 RX3 yX3_y wsX3_y) := goodIn_app (goodIn_of _ (by decide +kernel)) ggX0_covers_X3_y
set_option maxRecDepth 20000 in
theorem ggX0_covers_X1_reaches : GoodIn wsX0_covers wsX1_reaches := goodIn_r _ [38, 39, 40, 41, 45, 46, 47, 48, 49, 50] (by decide +kernel) (by decide +kernel)
set_option maxRecDepth 20000 in
theorem gX0_covers_X1_reaches : GoodIn wsX0_covers (wsV RX0 55 RX1 yX1_reaches wsX1_reaches) := goodIn_app (goodIn_of _ (by decide +kernel)) ggX0_covers_X1_reaches
theorem dX0_covers_0 : decode cX0_covers 0 = .ok (.aload_n 0, 1) := by decide +kernel
theorem dX0_covers_1 : decode cX0_covers 1 = .ok (.getfield 15, 3) := by decide +kernel
theorem dX0_covers_4 : decode cX0_covers 4 = .ok (.iload_n 1, 1) := by decide +kernel
theorem dX0_covers_5 : decode cX0_covers 5 = .ok (.iconst 0, 1) := by decide +kernel
theorem dX0_covers_6 : decode cX0_covers 6 = .ok (.invokevirtual 32, 3) := by decide +kernel
theorem dX0_covers_9 : decode cX0_covers 9 = .ok (.aload_n 0, 1) := by decide +kernel
theorem dX0_covers_10 : decode cX0_covers 10 = .ok (.getfield 9, 3) := by decide +kernel
theorem dX0_covers_13 : decode cX0_covers 13 = .ok (.getfield 52, 3) := by decide +kernel
theorem dX0_covers_16 : decode cX0_covers 16 = .ok (.iload_n 2, 1) := by decide +kernel
theorem dX0_covers_17 : decode cX0_covers 17 = .ok (.iaload, 1) := by decide +kernel
theorem dX0_covers_18 : decode cX0_covers 18 = .ok (.if_icmp .le 34, 3) := by decide +kernel
theorem dX0_covers_21 : decode cX0_covers 21 = .ok (.aload_n 0, 1) := by decide +kernel
theorem dX0_covers_22 : decode cX0_covers 22 = .ok (.getfield 9, 3) := by decide +kernel
theorem dX0_covers_25 : decode cX0_covers 25 = .ok (.aload_n 0, 1) := by decide +kernel
theorem dX0_covers_26 : decode cX0_covers 26 = .ok (.getfield 15, 3) := by decide +kernel
theorem dX0_covers_29 : decode cX0_covers 29 = .ok (.iload_n 1, 1) := by decide +kernel
theorem dX0_covers_30 : decode cX0_covers 30 = .ok (.invokevirtual 23, 3) := by decide +kernel
theorem dX0_covers_33 : decode cX0_covers 33 = .ok (.aload_n 0, 1) := by decide +kernel
theorem dX0_covers_34 : decode cX0_covers 34 = .ok (.getfield 15, 3) := by decide +kernel
theorem dX0_covers_37 : decode cX0_covers 37 = .ok (.iload_n 1, 1) := by decide +kernel
theorem dX0_covers_38 : decode cX0_covers 38 = .ok (.invokevirtual 29, 3) := by decide +kernel
theorem dX0_covers_41 : decode cX0_covers 41 = .ok (.iload_n 2, 1) := by decide +kernel
theorem dX0_covers_42 : decode cX0_covers 42 = .ok (.invokevirtual 55, 3) := by decide +kernel
theorem dX0_covers_45 : decode cX0_covers 45 = .ok (.ifCond .eq 7, 3) := by decide +kernel
theorem dX0_covers_48 : decode cX0_covers 48 = .ok (.iconst 1, 1) := by decide +kernel
theorem dX0_covers_49 : decode cX0_covers 49 = .ok (.goto 4, 3) := by decide +kernel
theorem dX0_covers_52 : decode cX0_covers 52 = .ok (.iconst 0, 1) := by decide +kernel
theorem dX0_covers_53 : decode cX0_covers 53 = .ok (.ireturn, 1) := by decide +kernel
set_option maxRecDepth 20000 in
theorem ggX0_over_X3_trees : GoodIn wsX0_over wsX3_trees := goodIn_r _ [6, 7, 54, 55, 56, 57] (by decide +kernel) (by decide +kernel)
set_option maxRecDepth 20000 in
theorem gX0_over_X3_trees : GoodIn wsX0_over (wsV RX0 45 RX3 yX3_trees wsX3_trees) := goodIn_app (goodIn_of _ (by decide +kernel)) ggX0_over_X3_trees
set_option maxRecDepth 20000 in
theorem ggX0_over_X0_covers : GoodIn wsX0_over wsX0_covers := goodIn_r _ [12, 1, 13, 14, 15, 16, 17, 5, 18, 19, 20, 21, 22, 23, 24, 25, 26, 7, 27, 28, 29, 30, 31, 32, 33, 34, 35, 36, 37, 38, 39, 40, 41, 42, 43, 44, 45, 46, 47, 48, 49, 50, 51, 52, 53, 58, 59, 60, 61, 62, 63, 54, 55, 56, 57] (by decide +kernel) (by decide +kernel)
set_option maxRecDepth 20000 in
theorem gX0_over_X0_covers : GoodIn wsX0_over (wsV RX0 59 RX0 yX0_covers wsX0_covers) := goodIn_app (goodIn_of _ (by decide +kernel)) ggX0_over_X0_covers
theorem dX0_over_0 : decode cX0_over 0 = .ok (.iconst 0, 1) := by decide +kernel
theorem dX0_over_1 : decode cX0_over 1 = .ok (.istore_n 2, 1) := by decide +kernel
theorem dX0_over_2 : decode cX0_over 2 = .ok (.iconst 0, 1) := by decide +kernel
theorem dX0_over_3 : decode cX0_over 3 = .ok (.istore_n 3, 1) := by decide +kernel
theorem dX0_over_4 : decode cX0_over 4 = .ok (.iload_n 3, 1) := by decide +kernel
theorem dX0_over_5 : decode cX0_over 5 = .ok (.aload_n 0, 1) := by decide +kernel
theorem dX0_over_6 : decode cX0_over 6 = .ok (.getfield 15, 3) := by decide +kernel
theorem dX0_over_9 : decode cX0_over 9 = .ok (.invokevirtual 45, 3) := by decide +kernel
theorem dX0_over_12 : decode cX0_over 12 = .ok (.if_icmp .ge 24, 3) := by decide +kernel
theorem dX0_over_15 : decode cX0_over 15 = .ok (.aload_n 0, 1) := by decide +kernel
theorem dX0_over_16 : decode cX0_over 16 = .ok (.iload_n 3, 1) := by decide +kernel
theorem dX0_over_17 : decode cX0_over 17 = .ok (.iload_n 1, 1) := by decide +kernel
theorem dX0_over_18 : decode cX0_over 18 = .ok (.invokevirtual 59, 3) := by decide +kernel
theorem dX0_over_21 : decode cX0_over 21 = .ok (.ifCond .eq 9, 3) := by decide +kernel
theorem dX0_over_24 : decode cX0_over 24 = .ok (.iload_n 2, 1) := by decide +kernel
theorem dX0_over_25 : decode cX0_over 25 = .ok (.iconst 1, 1) := by decide +kernel
theorem dX0_over_26 : decode cX0_over 26 = .ok (.iload_n 3, 1) := by decide +kernel
theorem dX0_over_27 : decode cX0_over 27 = .ok (.ishl, 1) := by decide +kernel
theorem dX0_over_28 : decode cX0_over 28 = .ok (.ior, 1) := by decide +kernel
theorem dX0_over_29 : decode cX0_over 29 = .ok (.istore_n 2, 1) := by decide +kernel
theorem dX0_over_30 : decode cX0_over 30 = .ok (.iinc 3 1, 3) := by decide +kernel
theorem dX0_over_33 : decode cX0_over 33 = .ok (.goto (-29), 3) := by decide +kernel
theorem dX0_over_36 : decode cX0_over 36 = .ok (.iload_n 2, 1) := by decide +kernel
theorem dX0_over_37 : decode cX0_over 37 = .ok (.ireturn, 1) := by decide +kernel
set_option maxRecDepth 20000 in
theorem ggX0_premium_X0_over : GoodIn wsX0_premium wsX0_over := goodIn_r _ [11, 12, 13, 14, 15, 16, 17, 18, 19, 20, 21, 10, 22, 1, 2, 23, 24, 25, 26, 27, 28, 5, 29, 30, 31, 32, 33, 34, 35, 36, 37, 38, 39, 40, 41, 42, 43, 44, 45, 46, 47, 48, 49, 50, 51, 52, 53, 54, 55, 56, 57, 65, 66, 67, 74, 75, 76, 77, 68, 69, 70, 71, 72, 73] (by decide +kernel) (by decide +kernel)
set_option maxRecDepth 20000 in
theorem gX0_premium_X0_over : GoodIn wsX0_premium (wsV RX0 63 RX0 yX0_over wsX0_over) := goodIn_app (goodIn_of _ (by decide +kernel)) ggX0_premium_X0_over
set_option maxRecDepth 20000 in
theorem ggX0_premium_J6_bitCount_0f7a4 : GoodIn wsX0_premium wsJ6_bitCount_0f7a4 := goodIn_r _ [61, 62, 63, 64] (by decide +kernel) (by decide +kernel)
set_option maxRecDepth 20000 in
theorem gX0_premium_J6_bitCount_0f7a4 : GoodIn wsX0_premium (va_wsS RX0 66 yJ6_bitCount_0f7a4 wsJ6_bitCount_0f7a4) := goodIn_app (goodIn_of _ (by decide +kernel)) ggX0_premium_J6_bitCount_0f7a4
theorem dX0_premium_0 : decode cX0_premium 0 = .ok (.iconst 1, 1) := by decide +kernel
theorem dX0_premium_1 : decode cX0_premium 1 = .ok (.aload_n 0, 1) := by decide +kernel
theorem dX0_premium_2 : decode cX0_premium 2 = .ok (.getfield 9, 3) := by decide +kernel
theorem dX0_premium_5 : decode cX0_premium 5 = .ok (.getfield 52, 3) := by decide +kernel
theorem dX0_premium_8 : decode cX0_premium 8 = .ok (.iload_n 1, 1) := by decide +kernel
theorem dX0_premium_9 : decode cX0_premium 9 = .ok (.iaload, 1) := by decide +kernel
theorem dX0_premium_10 : decode cX0_premium 10 = .ok (.bipush 30, 2) := by decide +kernel
theorem dX0_premium_12 : decode cX0_premium 12 = .ok (.iadd, 1) := by decide +kernel
theorem dX0_premium_13 : decode cX0_premium 13 = .ok (.bipush 10, 2) := by decide +kernel
theorem dX0_premium_15 : decode cX0_premium 15 = .ok (.aload_n 0, 1) := by decide +kernel
theorem dX0_premium_16 : decode cX0_premium 16 = .ok (.iload_n 1, 1) := by decide +kernel
theorem dX0_premium_17 : decode cX0_premium 17 = .ok (.invokevirtual 63, 3) := by decide +kernel
theorem dX0_premium_20 : decode cX0_premium 20 = .ok (.invokestatic 66, 3) := by decide +kernel
theorem dX0_premium_23 : decode cX0_premium 23 = .ok (.imul, 1) := by decide +kernel
theorem dX0_premium_24 : decode cX0_premium 24 = .ok (.isub, 1) := by decide +kernel
theorem dX0_premium_25 : decode cX0_premium 25 = .ok (.invokestatic 71, 3) := by decide +kernel
theorem dX0_premium_28 : decode cX0_premium 28 = .ok (.ireturn, 1) := by decide +kernel
set_option maxRecDepth 20000 in
theorem ggX0_premiums_X0_premium : GoodIn wsX0_premiums wsX0_premium := goodIn_r _ [7, 1, 8, 9, 10, 11, 12, 13, 14, 15, 6, 16, 17, 18, 19, 20, 21, 22, 23, 24, 25, 26, 27, 28, 29, 30, 31, 32, 33, 34, 35, 36, 37, 38, 39, 40, 41, 42, 43, 44, 45, 46, 47, 48, 49, 50, 51, 52, 53, 54, 55, 56, 57, 58, 59, 60, 61, 62, 63, 64, 65, 66, 67, 68, 69, 70, 71, 72, 73, 74, 75, 76, 77, 78, 79, 80, 81, 82] (by decide +kernel) (by decide +kernel)
set_option maxRecDepth 20000 in
theorem gX0_premiums_X0_premium : GoodIn wsX0_premiums (wsV RX0 80 RX0 yX0_premium wsX0_premium) := goodIn_app (goodIn_of _ (by decide +kernel)) ggX0_premiums_X0_premium
theorem dX0_premiums_0 : decode cX0_premiums 0 = .ok (.iconst 0, 1) := by decide +kernel
theorem dX0_premiums_1 : decode cX0_premiums 1 = .ok (.istore_n 1, 1) := by decide +kernel
theorem dX0_premiums_2 : decode cX0_premiums 2 = .ok (.iconst 0, 1) := by decide +kernel
theorem dX0_premiums_3 : decode cX0_premiums 3 = .ok (.istore_n 2, 1) := by decide +kernel
theorem dX0_premiums_4 : decode cX0_premiums 4 = .ok (.iload_n 2, 1) := by decide +kernel
theorem dX0_premiums_5 : decode cX0_premiums 5 = .ok (.aload_n 0, 1) := by decide +kernel
theorem dX0_premiums_6 : decode cX0_premiums 6 = .ok (.getfield 9, 3) := by decide +kernel
theorem dX0_premiums_9 : decode cX0_premiums 9 = .ok (.getfield 76, 3) := by decide +kernel
theorem dX0_premiums_12 : decode cX0_premiums 12 = .ok (.if_icmp .ge 17, 3) := by decide +kernel
theorem dX0_premiums_15 : decode cX0_premiums 15 = .ok (.iload_n 1, 1) := by decide +kernel
theorem dX0_premiums_16 : decode cX0_premiums 16 = .ok (.aload_n 0, 1) := by decide +kernel
theorem dX0_premiums_17 : decode cX0_premiums 17 = .ok (.iload_n 2, 1) := by decide +kernel
theorem dX0_premiums_18 : decode cX0_premiums 18 = .ok (.invokevirtual 80, 3) := by decide +kernel
theorem dX0_premiums_21 : decode cX0_premiums 21 = .ok (.iadd, 1) := by decide +kernel
theorem dX0_premiums_22 : decode cX0_premiums 22 = .ok (.istore_n 1, 1) := by decide +kernel
theorem dX0_premiums_23 : decode cX0_premiums 23 = .ok (.iinc 2 1, 3) := by decide +kernel
theorem dX0_premiums_26 : decode cX0_premiums 26 = .ok (.goto (-22), 3) := by decide +kernel
theorem dX0_premiums_29 : decode cX0_premiums 29 = .ok (.iload_n 1, 1) := by decide +kernel
theorem dX0_premiums_30 : decode cX0_premiums 30 = .ok (.ireturn, 1) := by decide +kernel
set_option maxRecDepth 20000 in
theorem ggX0_enough_X3_trees : GoodIn wsX0_enough wsX3_trees := goodIn_r _ [7, 8, 79, 80, 81, 82] (by decide +kernel) (by decide +kernel)
set_option maxRecDepth 20000 in
theorem gX0_enough_X3_trees : GoodIn wsX0_enough (wsV RX0 45 RX3 yX3_trees wsX3_trees) := goodIn_app (goodIn_of _ (by decide +kernel)) ggX0_enough_X3_trees
set_option maxRecDepth 20000 in
theorem ggX0_enough_X0_under : GoodIn wsX0_enough wsX0_under := goodIn_r _ [13, 14, 1, 15, 16, 17, 6, 18, 8, 19, 20, 21, 22, 23, 24, 25, 26, 27, 28, 29, 30, 31, 32, 33, 34, 35, 36, 37, 38, 39, 40, 41, 42, 43, 44, 45, 46, 47, 48, 49, 50, 51, 52, 53, 54, 55, 56, 76, 77, 78, 79, 80, 81, 82, 83, 84, 85, 86, 87, 88] (by decide +kernel) (by decide +kernel)
set_option maxRecDepth 20000 in
theorem gX0_enough_X0_under : GoodIn wsX0_enough (wsV RX0 49 RX0 yX0_under wsX0_under) := goodIn_app (goodIn_of _ (by decide +kernel)) ggX0_enough_X0_under
set_option maxRecDepth 20000 in
theorem ggX0_enough_X0_covered : GoodIn wsX0_enough wsX0_covered := goodIn_r _ [60, 61, 62, 63, 12, 64, 1, 3, 4, 5, 6, 7, 8, 9, 10, 11, 13, 14, 15, 16, 17, 18, 19, 20, 21, 22, 23, 24, 25, 26, 27, 28, 29, 30, 31, 32, 33, 34, 35, 36, 37, 38, 39, 40, 41, 42, 43, 44, 45, 46, 47, 48, 49, 50, 51, 52, 53, 54, 55, 56, 76, 77, 78, 79, 80, 81, 82, 83, 84, 85, 86, 87, 88] (by decide +kernel) (by decide +kernel)
set_option maxRecDepth 20000 in
theorem gX0_enough_X0_covered : GoodIn wsX0_enough (wsV RX0 83 RX0 yX0_covered wsX0_covered) := goodIn_app (goodIn_of _ (by decide +kernel)) ggX0_enough_X0_covered
set_option maxRecDepth 20000 in
theorem ggX0_enough_J6_bitCount_0f7a4 : GoodIn wsX0_enough wsJ6_bitCount_0f7a4 := goodIn_r _ [68, 69, 70, 71] (by decide +kernel) (by decide +kernel)
set_option maxRecDepth 20000 in
theorem gX0_enough_J6_bitCount_0f7a4 : GoodIn wsX0_enough (va_wsS RX0 66 yJ6_bitCount_0f7a4 wsJ6_bitCount_0f7a4) := goodIn_app (goodIn_of _ (by decide +kernel)) ggX0_enough_J6_bitCount_0f7a4
set_option maxRecDepth 20000 in
theorem ggX0_enough_X0_unionOf : GoodIn wsX0_enough wsX0_unionOf := goodIn_r _ [75, 2, 76, 77, 78] (by decide +kernel) (by decide +kernel)
set_option maxRecDepth 20000 in
theorem gX0_enough_X0_unionOf : GoodIn wsX0_enough (wsV RX0 86 RX0 yX0_unionOf wsX0_unionOf) := goodIn_app (goodIn_of _ (by decide +kernel)) ggX0_enough_X0_unionOf
theorem dX0_enough_0 : decode cX0_enough 0 = .ok (.aload_n 0, 1) := by decide +kernel
theorem dX0_enough_1 : decode cX0_enough 1 = .ok (.getfield 15, 3) := by decide +kernel
theorem dX0_enough_4 : decode cX0_enough 4 = .ok (.invokevirtual 45, 3) := by decide +kernel
theorem dX0_enough_7 : decode cX0_enough 7 = .ok (.istore_n 1, 1) := by decide +kernel
theorem dX0_enough_8 : decode cX0_enough 8 = .ok (.iconst 0, 1) := by decide +kernel
theorem dX0_enough_9 : decode cX0_enough 9 = .ok (.istore_n 2, 1) := by decide +kernel
theorem dX0_enough_10 : decode cX0_enough 10 = .ok (.iload_n 2, 1) := by decide +kernel
theorem dX0_enough_11 : decode cX0_enough 11 = .ok (.iload_n 1, 1) := by decide +kernel
theorem dX0_enough_12 : decode cX0_enough 12 = .ok (.if_icmp .ge 21, 3) := by decide +kernel
theorem dX0_enough_15 : decode cX0_enough 15 = .ok (.aload_n 0, 1) := by decide +kernel
theorem dX0_enough_16 : decode cX0_enough 16 = .ok (.getfield 19, 3) := by decide +kernel
theorem dX0_enough_19 : decode cX0_enough 19 = .ok (.iload_n 2, 1) := by decide +kernel
theorem dX0_enough_20 : decode cX0_enough 20 = .ok (.aload_n 0, 1) := by decide +kernel
theorem dX0_enough_21 : decode cX0_enough 21 = .ok (.iload_n 2, 1) := by decide +kernel
theorem dX0_enough_22 : decode cX0_enough 22 = .ok (.iconst 0, 1) := by decide +kernel
theorem dX0_enough_23 : decode cX0_enough 23 = .ok (.invokevirtual 49, 3) := by decide +kernel
theorem dX0_enough_26 : decode cX0_enough 26 = .ok (.iastore, 1) := by decide +kernel
theorem dX0_enough_27 : decode cX0_enough 27 = .ok (.iinc 2 1, 3) := by decide +kernel
theorem dX0_enough_30 : decode cX0_enough 30 = .ok (.goto (-20), 3) := by decide +kernel
theorem dX0_enough_33 : decode cX0_enough 33 = .ok (.aload_n 0, 1) := by decide +kernel
theorem dX0_enough_34 : decode cX0_enough 34 = .ok (.iconst 0, 1) := by decide +kernel
theorem dX0_enough_35 : decode cX0_enough 35 = .ok (.invokevirtual 83, 3) := by decide +kernel
theorem dX0_enough_38 : decode cX0_enough 38 = .ok (.istore_n 2, 1) := by decide +kernel
theorem dX0_enough_39 : decode cX0_enough 39 = .ok (.iconst 1, 1) := by decide +kernel
theorem dX0_enough_40 : decode cX0_enough 40 = .ok (.iload_n 1, 1) := by decide +kernel
theorem dX0_enough_41 : decode cX0_enough 41 = .ok (.ishl, 1) := by decide +kernel
theorem dX0_enough_42 : decode cX0_enough 42 = .ok (.iconst 1, 1) := by decide +kernel
theorem dX0_enough_43 : decode cX0_enough 43 = .ok (.isub, 1) := by decide +kernel
theorem dX0_enough_44 : decode cX0_enough 44 = .ok (.istore_n 3, 1) := by decide +kernel
theorem dX0_enough_45 : decode cX0_enough 45 = .ok (.iload_n 3, 1) := by decide +kernel
theorem dX0_enough_46 : decode cX0_enough 46 = .ok (.iconst 1, 1) := by decide +kernel
theorem dX0_enough_47 : decode cX0_enough 47 = .ok (.isub, 1) := by decide +kernel
theorem dX0_enough_48 : decode cX0_enough 48 = .ok (.istore 4, 2) := by decide +kernel
theorem dX0_enough_50 : decode cX0_enough 50 = .ok (.iload 4, 2) := by decide +kernel
theorem dX0_enough_52 : decode cX0_enough 52 = .ok (.ifCond .lt 35, 3) := by decide +kernel
theorem dX0_enough_55 : decode cX0_enough 55 = .ok (.iload 4, 2) := by decide +kernel
theorem dX0_enough_57 : decode cX0_enough 57 = .ok (.invokestatic 66, 3) := by decide +kernel
theorem dX0_enough_60 : decode cX0_enough 60 = .ok (.iload_n 3, 1) := by decide +kernel
theorem dX0_enough_61 : decode cX0_enough 61 = .ok (.invokestatic 66, 3) := by decide +kernel
theorem dX0_enough_64 : decode cX0_enough 64 = .ok (.if_icmp .gt 17, 3) := by decide +kernel
theorem dX0_enough_67 : decode cX0_enough 67 = .ok (.aload_n 0, 1) := by decide +kernel
theorem dX0_enough_68 : decode cX0_enough 68 = .ok (.iload 4, 2) := by decide +kernel
theorem dX0_enough_70 : decode cX0_enough 70 = .ok (.iload_n 1, 1) := by decide +kernel
theorem dX0_enough_71 : decode cX0_enough 71 = .ok (.invokevirtual 86, 3) := by decide +kernel
theorem dX0_enough_74 : decode cX0_enough 74 = .ok (.iload_n 2, 1) := by decide +kernel
theorem dX0_enough_75 : decode cX0_enough 75 = .ok (.if_icmp .ne 6, 3) := by decide +kernel
theorem dX0_enough_78 : decode cX0_enough 78 = .ok (.iload 4, 2) := by decide +kernel
theorem dX0_enough_80 : decode cX0_enough 80 = .ok (.istore_n 3, 1) := by decide +kernel
theorem dX0_enough_81 : decode cX0_enough 81 = .ok (.iinc 4 (-1), 3) := by decide +kernel
theorem dX0_enough_84 : decode cX0_enough 84 = .ok (.goto (-34), 3) := by decide +kernel
theorem dX0_enough_87 : decode cX0_enough 87 = .ok (.iload_n 3, 1) := by decide +kernel
theorem dX0_enough_88 : decode cX0_enough 88 = .ok (.ireturn, 1) := by decide +kernel
theorem dX0_unionOf_0 : decode cX0_unionOf 0 = .ok (.iconst 0, 1) := by decide +kernel
theorem dX0_unionOf_1 : decode cX0_unionOf 1 = .ok (.istore_n 3, 1) := by decide +kernel
theorem dX0_unionOf_2 : decode cX0_unionOf 2 = .ok (.iconst 0, 1) := by decide +kernel
theorem dX0_unionOf_3 : decode cX0_unionOf 3 = .ok (.istore 4, 2) := by decide +kernel
theorem dX0_unionOf_5 : decode cX0_unionOf 5 = .ok (.iload 4, 2) := by decide +kernel
theorem dX0_unionOf_7 : decode cX0_unionOf 7 = .ok (.iload_n 2, 1) := by decide +kernel
theorem dX0_unionOf_8 : decode cX0_unionOf 8 = .ok (.if_icmp .ge 28, 3) := by decide +kernel
theorem dX0_unionOf_11 : decode cX0_unionOf 11 = .ok (.iload_n 1, 1) := by decide +kernel
theorem dX0_unionOf_12 : decode cX0_unionOf 12 = .ok (.iload 4, 2) := by decide +kernel
theorem dX0_unionOf_14 : decode cX0_unionOf 14 = .ok (.ishr, 1) := by decide +kernel
theorem dX0_unionOf_15 : decode cX0_unionOf 15 = .ok (.iconst 1, 1) := by decide +kernel
theorem dX0_unionOf_16 : decode cX0_unionOf 16 = .ok (.iand, 1) := by decide +kernel
theorem dX0_unionOf_17 : decode cX0_unionOf 17 = .ok (.ifCond .eq 13, 3) := by decide +kernel
theorem dX0_unionOf_20 : decode cX0_unionOf 20 = .ok (.iload_n 3, 1) := by decide +kernel
theorem dX0_unionOf_21 : decode cX0_unionOf 21 = .ok (.aload_n 0, 1) := by decide +kernel
theorem dX0_unionOf_22 : decode cX0_unionOf 22 = .ok (.getfield 19, 3) := by decide +kernel
theorem dX0_unionOf_25 : decode cX0_unionOf 25 = .ok (.iload 4, 2) := by decide +kernel
theorem dX0_unionOf_27 : decode cX0_unionOf 27 = .ok (.iaload, 1) := by decide +kernel
theorem dX0_unionOf_28 : decode cX0_unionOf 28 = .ok (.ior, 1) := by decide +kernel
theorem dX0_unionOf_29 : decode cX0_unionOf 29 = .ok (.istore_n 3, 1) := by decide +kernel
theorem dX0_unionOf_30 : decode cX0_unionOf 30 = .ok (.iinc 4 1, 3) := by decide +kernel
theorem dX0_unionOf_33 : decode cX0_unionOf 33 = .ok (.goto (-28), 3) := by decide +kernel
theorem dX0_unionOf_36 : decode cX0_unionOf 36 = .ok (.iload_n 3, 1) := by decide +kernel
theorem dX0_unionOf_37 : decode cX0_unionOf 37 = .ok (.ireturn, 1) := by decide +kernel
set_option maxRecDepth 20000 in
theorem ggX0_lone_X0_over : GoodIn wsX0_lone wsX0_over := goodIn_r _ [6, 1, 7, 8, 9, 10, 11, 12, 13, 14, 15, 5, 16, 17, 18, 19, 20, 21, 22, 23, 24, 25, 26, 27, 28, 29, 30, 31, 32, 33, 34, 35, 36, 37, 38, 39, 40, 41, 42, 43, 44, 45, 46, 47, 48, 49, 50, 51, 52, 53, 54, 55, 56, 57, 58, 59, 60, 61, 62, 63, 64, 65, 66, 67] (by decide +kernel) (by decide +kernel)
set_option maxRecDepth 20000 in
theorem gX0_lone_X0_over : GoodIn wsX0_lone (wsV RX0 63 RX0 yX0_over wsX0_over) := goodIn_app (goodIn_of _ (by decide +kernel)) ggX0_lone_X0_over
set_option maxRecDepth 20000 in
theorem ggX0_lone_X3_trees : GoodIn wsX0_lone wsX3_trees := goodIn_r _ [11, 12, 58, 59, 60, 61] (by decide +kernel) (by decide +kernel)
set_option maxRecDepth 20000 in
theorem gX0_lone_X3_trees : GoodIn wsX0_lone (wsV RX0 45 RX3 yX3_trees wsX3_trees) := goodIn_app (goodIn_of _ (by decide +kernel)) ggX0_lone_X3_trees
theorem dX0_lone_0 : decode cX0_lone 0 = .ok (.aload_n 0, 1) := by decide +kernel
theorem dX0_lone_1 : decode cX0_lone 1 = .ok (.iload_n 1, 1) := by decide +kernel
theorem dX0_lone_2 : decode cX0_lone 2 = .ok (.invokevirtual 63, 3) := by decide +kernel
theorem dX0_lone_5 : decode cX0_lone 5 = .ok (.istore_n 2, 1) := by decide +kernel
theorem dX0_lone_6 : decode cX0_lone 6 = .ok (.iconst 0, 1) := by decide +kernel
theorem dX0_lone_7 : decode cX0_lone 7 = .ok (.istore_n 3, 1) := by decide +kernel
theorem dX0_lone_8 : decode cX0_lone 8 = .ok (.iload_n 3, 1) := by decide +kernel
theorem dX0_lone_9 : decode cX0_lone 9 = .ok (.aload_n 0, 1) := by decide +kernel
theorem dX0_lone_10 : decode cX0_lone 10 = .ok (.getfield 15, 3) := by decide +kernel
theorem dX0_lone_13 : decode cX0_lone 13 = .ok (.invokevirtual 45, 3) := by decide +kernel
theorem dX0_lone_16 : decode cX0_lone 16 = .ok (.if_icmp .ge 18, 3) := by decide +kernel
theorem dX0_lone_19 : decode cX0_lone 19 = .ok (.iload_n 2, 1) := by decide +kernel
theorem dX0_lone_20 : decode cX0_lone 20 = .ok (.iconst 1, 1) := by decide +kernel
theorem dX0_lone_21 : decode cX0_lone 21 = .ok (.iload_n 3, 1) := by decide +kernel
theorem dX0_lone_22 : decode cX0_lone 22 = .ok (.ishl, 1) := by decide +kernel
theorem dX0_lone_23 : decode cX0_lone 23 = .ok (.if_icmp .ne 5, 3) := by decide +kernel
theorem dX0_lone_26 : decode cX0_lone 26 = .ok (.iload_n 3, 1) := by decide +kernel
theorem dX0_lone_27 : decode cX0_lone 27 = .ok (.ireturn, 1) := by decide +kernel
theorem dX0_lone_28 : decode cX0_lone 28 = .ok (.iinc 3 1, 3) := by decide +kernel
theorem dX0_lone_31 : decode cX0_lone 31 = .ok (.goto (-23), 3) := by decide +kernel
theorem dX0_lone_34 : decode cX0_lone 34 = .ok (.bipush (-9), 2) := by decide +kernel
theorem dX0_lone_36 : decode cX0_lone 36 = .ok (.ireturn, 1) := by decide +kernel
set_option maxRecDepth 20000 in
theorem ggX0_firstYear_X0_covered : GoodIn wsX0_firstYear wsX0_covered := goodIn_r _ [5, 6, 7, 8, 4, 9, 10, 11, 12, 13, 14, 15, 16, 17, 18, 19, 20, 21, 22, 23, 24, 25, 26, 27, 28, 29, 30, 31, 32, 33, 34, 35, 36, 37, 38, 39, 40, 41, 42, 43, 44, 45, 46, 47, 48, 49, 50, 51, 52, 53, 54, 55, 56, 57, 58, 59, 60, 61, 62, 63, 64, 65, 66, 67, 68, 69, 70, 71, 72, 73, 74, 75, 76] (by decide +kernel) (by decide +kernel)
set_option maxRecDepth 20000 in
theorem gX0_firstYear_X0_covered : GoodIn wsX0_firstYear (wsV RX0 83 RX0 yX0_covered wsX0_covered) := goodIn_app (goodIn_of _ (by decide +kernel)) ggX0_firstYear_X0_covered
theorem dX0_firstYear_0 : decode cX0_firstYear 0 = .ok (.iconst 0, 1) := by decide +kernel
theorem dX0_firstYear_1 : decode cX0_firstYear 1 = .ok (.istore_n 2, 1) := by decide +kernel
theorem dX0_firstYear_2 : decode cX0_firstYear 2 = .ok (.iload_n 2, 1) := by decide +kernel
theorem dX0_firstYear_3 : decode cX0_firstYear 3 = .ok (.bipush 60, 2) := by decide +kernel
theorem dX0_firstYear_5 : decode cX0_firstYear 5 = .ok (.if_icmp .gt 23, 3) := by decide +kernel
theorem dX0_firstYear_8 : decode cX0_firstYear 8 = .ok (.aload_n 0, 1) := by decide +kernel
theorem dX0_firstYear_9 : decode cX0_firstYear 9 = .ok (.iload_n 2, 1) := by decide +kernel
theorem dX0_firstYear_10 : decode cX0_firstYear 10 = .ok (.invokevirtual 83, 3) := by decide +kernel
theorem dX0_firstYear_13 : decode cX0_firstYear 13 = .ok (.iload_n 1, 1) := by decide +kernel
theorem dX0_firstYear_14 : decode cX0_firstYear 14 = .ok (.ishr, 1) := by decide +kernel
theorem dX0_firstYear_15 : decode cX0_firstYear 15 = .ok (.iconst 1, 1) := by decide +kernel
theorem dX0_firstYear_16 : decode cX0_firstYear 16 = .ok (.iand, 1) := by decide +kernel
theorem dX0_firstYear_17 : decode cX0_firstYear 17 = .ok (.ifCond .eq 5, 3) := by decide +kernel
theorem dX0_firstYear_20 : decode cX0_firstYear 20 = .ok (.iload_n 2, 1) := by decide +kernel
theorem dX0_firstYear_21 : decode cX0_firstYear 21 = .ok (.ireturn, 1) := by decide +kernel
theorem dX0_firstYear_22 : decode cX0_firstYear 22 = .ok (.iinc 2 1, 3) := by decide +kernel
theorem dX0_firstYear_25 : decode cX0_firstYear 25 = .ok (.goto (-23), 3) := by decide +kernel
theorem dX0_firstYear_28 : decode cX0_firstYear 28 = .ok (.bipush (-9), 2) := by decide +kernel
theorem dX0_firstYear_30 : decode cX0_firstYear 30 = .ok (.ireturn, 1) := by decide +kernel
set_option maxRecDepth 20000 in
theorem ggX0_planting_X1_all : GoodIn wsX0_planting wsX1_all := goodIn_r _ [7, 8, 81, 82, 83, 84, 85, 86] (by decide +kernel) (by decide +kernel)
set_option maxRecDepth 20000 in
theorem gX0_planting_X1_all : GoodIn wsX0_planting (wsV RX0 89 RX1 yX1_all wsX1_all) := goodIn_app (goodIn_of _ (by decide +kernel)) ggX0_planting_X1_all
set_option maxRecDepth 20000 in
theorem ggX0_planting_X0_covered : GoodIn wsX0_planting wsX0_covered := goodIn_r _ [13, 14, 15, 16, 12, 17, 18, 19, 20, 21, 22, 23, 24, 25, 26, 27, 28, 1, 29, 30, 31, 32, 33, 34, 35, 36, 37, 38, 39, 40, 41, 42, 43, 44, 45, 46, 47, 48, 49, 50, 51, 52, 53, 54, 55, 56, 57, 58, 59, 6, 60, 8, 61, 62, 63, 64, 65, 66, 67, 68, 78, 79, 80, 87, 88, 89, 90, 81, 82, 83, 84, 85, 86] (by decide +kernel) (by decide +kernel)
set_option maxRecDepth 20000 in
theorem gX0_planting_X0_covered : GoodIn wsX0_planting (wsV RX0 83 RX0 yX0_covered wsX0_covered) := goodIn_app (goodIn_of _ (by decide +kernel)) ggX0_planting_X0_covered
set_option maxRecDepth 20000 in
theorem ggX0_planting_X0_lookFromPlaces : GoodIn wsX0_planting wsX0_lookFromPlaces := goodIn_r _ [72, 73, 42, 43, 44, 2, 1, 57, 58, 59, 6, 60, 8, 61, 62, 63, 64, 65, 66, 67, 68, 78, 79, 80, 81, 82, 83, 84, 85, 86] (by decide +kernel) (by decide +kernel)
set_option maxRecDepth 20000 in
theorem gX0_planting_X0_lookFromPlaces : GoodIn wsX0_planting (wsV RX0 92 RX0 yX0_lookFromPlaces wsX0_lookFromPlaces) := goodIn_app (goodIn_of _ (by decide +kernel)) ggX0_planting_X0_lookFromPlaces
set_option maxRecDepth 20000 in
theorem ggX0_planting_X0_placeThatCovers : GoodIn wsX0_planting wsX0_placeThatCovers := goodIn_r _ [77, 2, 78, 79, 80] (by decide +kernel) (by decide +kernel)
set_option maxRecDepth 20000 in
theorem gX0_planting_X0_placeThatCovers : GoodIn wsX0_planting (wsV RX0 96 RX0 yX0_placeThatCovers wsX0_placeThatCovers) := goodIn_app (goodIn_of _ (by decide +kernel)) ggX0_planting_X0_placeThatCovers
theorem dX0_planting_0 : decode cX0_planting 0 = .ok (.aload_n 0, 1) := by decide +kernel
theorem dX0_planting_1 : decode cX0_planting 1 = .ok (.getfield 9, 3) := by decide +kernel
theorem dX0_planting_4 : decode cX0_planting 4 = .ok (.invokevirtual 89, 3) := by decide +kernel
theorem dX0_planting_7 : decode cX0_planting 7 = .ok (.aload_n 0, 1) := by decide +kernel
theorem dX0_planting_8 : decode cX0_planting 8 = .ok (.iload_n 1, 1) := by decide +kernel
theorem dX0_planting_9 : decode cX0_planting 9 = .ok (.invokevirtual 83, 3) := by decide +kernel
theorem dX0_planting_12 : decode cX0_planting 12 = .ok (.iconst (-1), 1) := by decide +kernel
theorem dX0_planting_13 : decode cX0_planting 13 = .ok (.ixor, 1) := by decide +kernel
theorem dX0_planting_14 : decode cX0_planting 14 = .ok (.iand, 1) := by decide +kernel
theorem dX0_planting_15 : decode cX0_planting 15 = .ok (.istore_n 3, 1) := by decide +kernel
theorem dX0_planting_16 : decode cX0_planting 16 = .ok (.iload_n 3, 1) := by decide +kernel
theorem dX0_planting_17 : decode cX0_planting 17 = .ok (.ifCond .ne 14, 3) := by decide +kernel
theorem dX0_planting_20 : decode cX0_planting 20 = .ok (.iload_n 2, 1) := by decide +kernel
theorem dX0_planting_21 : decode cX0_planting 21 = .ok (.ifCond .ne 7, 3) := by decide +kernel
theorem dX0_planting_24 : decode cX0_planting 24 = .ok (.iconst 0, 1) := by decide +kernel
theorem dX0_planting_25 : decode cX0_planting 25 = .ok (.goto 5, 3) := by decide +kernel
theorem dX0_planting_28 : decode cX0_planting 28 = .ok (.bipush (-9), 2) := by decide +kernel
theorem dX0_planting_30 : decode cX0_planting 30 = .ok (.ireturn, 1) := by decide +kernel
theorem dX0_planting_31 : decode cX0_planting 31 = .ok (.aload_n 0, 1) := by decide +kernel
theorem dX0_planting_32 : decode cX0_planting 32 = .ok (.iload_n 1, 1) := by decide +kernel
theorem dX0_planting_33 : decode cX0_planting 33 = .ok (.invokevirtual 92, 3) := by decide +kernel
theorem dX0_planting_36 : decode cX0_planting 36 = .ok (.aload_n 0, 1) := by decide +kernel
theorem dX0_planting_37 : decode cX0_planting 37 = .ok (.iload_n 3, 1) := by decide +kernel
theorem dX0_planting_38 : decode cX0_planting 38 = .ok (.iconst 0, 1) := by decide +kernel
theorem dX0_planting_39 : decode cX0_planting 39 = .ok (.invokevirtual 96, 3) := by decide +kernel
theorem dX0_planting_42 : decode cX0_planting 42 = .ok (.istore 4, 2) := by decide +kernel
theorem dX0_planting_44 : decode cX0_planting 44 = .ok (.iload 4, 2) := by decide +kernel
theorem dX0_planting_46 : decode cX0_planting 46 = .ok (.ifCond .lt 24, 3) := by decide +kernel
theorem dX0_planting_49 : decode cX0_planting 49 = .ok (.iload_n 2, 1) := by decide +kernel
theorem dX0_planting_50 : decode cX0_planting 50 = .ok (.ifCond .ne 7, 3) := by decide +kernel
theorem dX0_planting_53 : decode cX0_planting 53 = .ok (.iconst 1, 1) := by decide +kernel
theorem dX0_planting_54 : decode cX0_planting 54 = .ok (.goto 15, 3) := by decide +kernel
theorem dX0_planting_57 : decode cX0_planting 57 = .ok (.iload_n 2, 1) := by decide +kernel
theorem dX0_planting_58 : decode cX0_planting 58 = .ok (.iconst 1, 1) := by decide +kernel
theorem dX0_planting_59 : decode cX0_planting 59 = .ok (.if_icmp .ne 8, 3) := by decide +kernel
theorem dX0_planting_62 : decode cX0_planting 62 = .ok (.iload 4, 2) := by decide +kernel
theorem dX0_planting_64 : decode cX0_planting 64 = .ok (.goto 5, 3) := by decide +kernel
theorem dX0_planting_67 : decode cX0_planting 67 = .ok (.bipush (-9), 2) := by decide +kernel
theorem dX0_planting_69 : decode cX0_planting 69 = .ok (.ireturn, 1) := by decide +kernel
theorem dX0_planting_70 : decode cX0_planting 70 = .ok (.iconst 0, 1) := by decide +kernel
theorem dX0_planting_71 : decode cX0_planting 71 = .ok (.istore 5, 2) := by decide +kernel
theorem dX0_planting_73 : decode cX0_planting 73 = .ok (.iload 5, 2) := by decide +kernel
theorem dX0_planting_75 : decode cX0_planting 75 = .ok (.bipush 100, 2) := by decide +kernel
theorem dX0_planting_77 : decode cX0_planting 77 = .ok (.if_icmp .ge 54, 3) := by decide +kernel
theorem dX0_planting_80 : decode cX0_planting 80 = .ok (.aload_n 0, 1) := by decide +kernel
theorem dX0_planting_81 : decode cX0_planting 81 = .ok (.iload_n 3, 1) := by decide +kernel
theorem dX0_planting_82 : decode cX0_planting 82 = .ok (.aload_n 0, 1) := by decide +kernel
theorem dX0_planting_83 : decode cX0_planting 83 = .ok (.getfield 19, 3) := by decide +kernel
theorem dX0_planting_86 : decode cX0_planting 86 = .ok (.iload 5, 2) := by decide +kernel
theorem dX0_planting_88 : decode cX0_planting 88 = .ok (.iaload, 1) := by decide +kernel
theorem dX0_planting_89 : decode cX0_planting 89 = .ok (.iconst (-1), 1) := by decide +kernel
theorem dX0_planting_90 : decode cX0_planting 90 = .ok (.ixor, 1) := by decide +kernel
theorem dX0_planting_91 : decode cX0_planting 91 = .ok (.iand, 1) := by decide +kernel
theorem dX0_planting_92 : decode cX0_planting 92 = .ok (.iload 5, 2) := by decide +kernel
theorem dX0_planting_94 : decode cX0_planting 94 = .ok (.invokevirtual 96, 3) := by decide +kernel
theorem dX0_planting_97 : decode cX0_planting 97 = .ok (.istore 6, 2) := by decide +kernel
theorem dX0_planting_99 : decode cX0_planting 99 = .ok (.iload 6, 2) := by decide +kernel
theorem dX0_planting_101 : decode cX0_planting 101 = .ok (.ifCond .lt 24, 3) := by decide +kernel
theorem dX0_planting_104 : decode cX0_planting 104 = .ok (.iload_n 2, 1) := by decide +kernel
theorem dX0_planting_105 : decode cX0_planting 105 = .ok (.ifCond .ne 7, 3) := by decide +kernel
theorem dX0_planting_108 : decode cX0_planting 108 = .ok (.iconst 2, 1) := by decide +kernel
theorem dX0_planting_109 : decode cX0_planting 109 = .ok (.goto 15, 3) := by decide +kernel
theorem dX0_planting_112 : decode cX0_planting 112 = .ok (.iload_n 2, 1) := by decide +kernel
theorem dX0_planting_113 : decode cX0_planting 113 = .ok (.iconst 1, 1) := by decide +kernel
theorem dX0_planting_114 : decode cX0_planting 114 = .ok (.if_icmp .ne 8, 3) := by decide +kernel
theorem dX0_planting_117 : decode cX0_planting 117 = .ok (.iload 5, 2) := by decide +kernel
theorem dX0_planting_119 : decode cX0_planting 119 = .ok (.goto 5, 3) := by decide +kernel
theorem dX0_planting_122 : decode cX0_planting 122 = .ok (.iload 6, 2) := by decide +kernel
theorem dX0_planting_124 : decode cX0_planting 124 = .ok (.ireturn, 1) := by decide +kernel
theorem dX0_planting_125 : decode cX0_planting 125 = .ok (.iinc 5 1, 3) := by decide +kernel
theorem dX0_planting_128 : decode cX0_planting 128 = .ok (.goto (-55), 3) := by decide +kernel
theorem dX0_planting_131 : decode cX0_planting 131 = .ok (.bipush (-9), 2) := by decide +kernel
theorem dX0_planting_133 : decode cX0_planting 133 = .ok (.ireturn, 1) := by decide +kernel
set_option maxRecDepth 20000 in
theorem ggX0_lookFromPlaces_X1_below : GoodIn wsX0_lookFromPlaces wsX1_below := goodIn_r _ [11, 12, 13, 14, 15, 16, 10, 17, 18, 19, 20, 24, 25, 26, 27, 28, 29] (by decide +kernel) (by decide +kernel)
set_option maxRecDepth 20000 in
theorem gX0_lookFromPlaces_X1_below : GoodIn wsX0_lookFromPlaces (wsV RX0 36 RX1 yX1_below wsX1_below) := goodIn_app (goodIn_of _ (by decide +kernel)) ggX0_lookFromPlaces_X1_below
theorem dX0_lookFromPlaces_0 : decode cX0_lookFromPlaces 0 = .ok (.bipush 99, 2) := by decide +kernel
theorem dX0_lookFromPlaces_2 : decode cX0_lookFromPlaces 2 = .ok (.iconst 1, 1) := by decide +kernel
theorem dX0_lookFromPlaces_3 : decode cX0_lookFromPlaces 3 = .ok (.iload_n 1, 1) := by decide +kernel
theorem dX0_lookFromPlaces_4 : decode cX0_lookFromPlaces 4 = .ok (.iconst 2, 1) := by decide +kernel
theorem dX0_lookFromPlaces_5 : decode cX0_lookFromPlaces 5 = .ok (.imul, 1) := by decide +kernel
theorem dX0_lookFromPlaces_6 : decode cX0_lookFromPlaces 6 = .ok (.iadd, 1) := by decide +kernel
theorem dX0_lookFromPlaces_7 : decode cX0_lookFromPlaces 7 = .ok (.invokestatic 99, 3) := by decide +kernel
theorem dX0_lookFromPlaces_10 : decode cX0_lookFromPlaces 10 = .ok (.istore_n 2, 1) := by decide +kernel
theorem dX0_lookFromPlaces_11 : decode cX0_lookFromPlaces 11 = .ok (.iconst 0, 1) := by decide +kernel
theorem dX0_lookFromPlaces_12 : decode cX0_lookFromPlaces 12 = .ok (.istore_n 3, 1) := by decide +kernel
theorem dX0_lookFromPlaces_13 : decode cX0_lookFromPlaces 13 = .ok (.iload_n 3, 1) := by decide +kernel
theorem dX0_lookFromPlaces_14 : decode cX0_lookFromPlaces 14 = .ok (.bipush 100, 2) := by decide +kernel
theorem dX0_lookFromPlaces_16 : decode cX0_lookFromPlaces 16 = .ok (.if_icmp .ge 31, 3) := by decide +kernel
theorem dX0_lookFromPlaces_19 : decode cX0_lookFromPlaces 19 = .ok (.aload_n 0, 1) := by decide +kernel
theorem dX0_lookFromPlaces_20 : decode cX0_lookFromPlaces 20 = .ok (.getfield 19, 3) := by decide +kernel
theorem dX0_lookFromPlaces_23 : decode cX0_lookFromPlaces 23 = .ok (.iload_n 3, 1) := by decide +kernel
theorem dX0_lookFromPlaces_24 : decode cX0_lookFromPlaces 24 = .ok (.aload_n 0, 1) := by decide +kernel
theorem dX0_lookFromPlaces_25 : decode cX0_lookFromPlaces 25 = .ok (.getfield 9, 3) := by decide +kernel
theorem dX0_lookFromPlaces_28 : decode cX0_lookFromPlaces 28 = .ok (.iload_n 3, 1) := by decide +kernel
theorem dX0_lookFromPlaces_29 : decode cX0_lookFromPlaces 29 = .ok (.bipush 10, 2) := by decide +kernel
theorem dX0_lookFromPlaces_31 : decode cX0_lookFromPlaces 31 = .ok (.idiv, 1) := by decide +kernel
theorem dX0_lookFromPlaces_32 : decode cX0_lookFromPlaces 32 = .ok (.iload_n 3, 1) := by decide +kernel
theorem dX0_lookFromPlaces_33 : decode cX0_lookFromPlaces 33 = .ok (.bipush 10, 2) := by decide +kernel
theorem dX0_lookFromPlaces_35 : decode cX0_lookFromPlaces 35 = .ok (.irem, 1) := by decide +kernel
theorem dX0_lookFromPlaces_36 : decode cX0_lookFromPlaces 36 = .ok (.iload_n 2, 1) := by decide +kernel
theorem dX0_lookFromPlaces_37 : decode cX0_lookFromPlaces 37 = .ok (.invokevirtual 36, 3) := by decide +kernel
theorem dX0_lookFromPlaces_40 : decode cX0_lookFromPlaces 40 = .ok (.iastore, 1) := by decide +kernel
theorem dX0_lookFromPlaces_41 : decode cX0_lookFromPlaces 41 = .ok (.iinc 3 1, 3) := by decide +kernel
theorem dX0_lookFromPlaces_44 : decode cX0_lookFromPlaces 44 = .ok (.goto (-31), 3) := by decide +kernel
theorem dX0_lookFromPlaces_47 : decode cX0_lookFromPlaces 47 = .ok (.return_, 1) := by decide +kernel
theorem dX0_placeThatCovers_0 : decode cX0_placeThatCovers 0 = .ok (.iload_n 2, 1) := by decide +kernel
theorem dX0_placeThatCovers_1 : decode cX0_placeThatCovers 1 = .ok (.istore_n 3, 1) := by decide +kernel
theorem dX0_placeThatCovers_2 : decode cX0_placeThatCovers 2 = .ok (.iload_n 3, 1) := by decide +kernel
theorem dX0_placeThatCovers_3 : decode cX0_placeThatCovers 3 = .ok (.bipush 100, 2) := by decide +kernel
theorem dX0_placeThatCovers_5 : decode cX0_placeThatCovers 5 = .ok (.if_icmp .ge 24, 3) := by decide +kernel
theorem dX0_placeThatCovers_8 : decode cX0_placeThatCovers 8 = .ok (.iload_n 1, 1) := by decide +kernel
theorem dX0_placeThatCovers_9 : decode cX0_placeThatCovers 9 = .ok (.aload_n 0, 1) := by decide +kernel
theorem dX0_placeThatCovers_10 : decode cX0_placeThatCovers 10 = .ok (.getfield 19, 3) := by decide +kernel
theorem dX0_placeThatCovers_13 : decode cX0_placeThatCovers 13 = .ok (.iload_n 3, 1) := by decide +kernel
theorem dX0_placeThatCovers_14 : decode cX0_placeThatCovers 14 = .ok (.iaload, 1) := by decide +kernel
theorem dX0_placeThatCovers_15 : decode cX0_placeThatCovers 15 = .ok (.iconst (-1), 1) := by decide +kernel
theorem dX0_placeThatCovers_16 : decode cX0_placeThatCovers 16 = .ok (.ixor, 1) := by decide +kernel
theorem dX0_placeThatCovers_17 : decode cX0_placeThatCovers 17 = .ok (.iand, 1) := by decide +kernel
theorem dX0_placeThatCovers_18 : decode cX0_placeThatCovers 18 = .ok (.ifCond .ne 5, 3) := by decide +kernel
theorem dX0_placeThatCovers_21 : decode cX0_placeThatCovers 21 = .ok (.iload_n 3, 1) := by decide +kernel
theorem dX0_placeThatCovers_22 : decode cX0_placeThatCovers 22 = .ok (.ireturn, 1) := by decide +kernel
theorem dX0_placeThatCovers_23 : decode cX0_placeThatCovers 23 = .ok (.iinc 3 1, 3) := by decide +kernel
theorem dX0_placeThatCovers_26 : decode cX0_placeThatCovers 26 = .ok (.goto (-24), 3) := by decide +kernel
theorem dX0_placeThatCovers_29 : decode cX0_placeThatCovers 29 = .ok (.bipush (-9), 2) := by decide +kernel
theorem dX0_placeThatCovers_31 : decode cX0_placeThatCovers 31 = .ok (.ireturn, 1) := by decide +kernel
set_option maxRecDepth 20000 in
theorem ggX0_paidBy_X3_trees : GoodIn wsX0_paidBy wsX3_trees := goodIn_r _ [6, 7, 55, 56, 57, 58] (by decide +kernel) (by decide +kernel)
set_option maxRecDepth 20000 in
theorem gX0_paidBy_X3_trees : GoodIn wsX0_paidBy (wsV RX0 45 RX3 yX3_trees wsX3_trees) := goodIn_app (goodIn_of _ (by decide +kernel)) ggX0_paidBy_X3_trees
set_option maxRecDepth 20000 in
theorem ggX0_paidBy_X0_covers : GoodIn wsX0_paidBy wsX0_covers := goodIn_r _ [12, 1, 13, 14, 15, 16, 17, 5, 18, 19, 20, 21, 22, 23, 24, 25, 26, 7, 27, 28, 29, 30, 31, 32, 33, 34, 35, 36, 37, 38, 39, 40, 41, 42, 43, 44, 45, 46, 47, 48, 49, 50, 52, 53, 54, 59, 60, 61, 62, 63, 64, 55, 56, 57, 58] (by decide +kernel) (by decide +kernel)
set_option maxRecDepth 20000 in
theorem gX0_paidBy_X0_covers : GoodIn wsX0_paidBy (wsV RX0 59 RX0 yX0_covers wsX0_covers) := goodIn_app (goodIn_of _ (by decide +kernel)) ggX0_paidBy_X0_covers
set_option maxRecDepth 20000 in
theorem ggX0_paidBy_X3_high : GoodIn wsX0_paidBy wsX3_high := goodIn_r _ [30, 7, 55, 56, 57, 58] (by decide +kernel) (by decide +kernel)
set_option maxRecDepth 20000 in
theorem gX0_paidBy_X3_high : GoodIn wsX0_paidBy (wsV RX0 102 RX3 yX3_high wsX3_high) := goodIn_app (goodIn_of _ (by decide +kernel)) ggX0_paidBy_X3_high
theorem dX0_paidBy_0 : decode cX0_paidBy 0 = .ok (.bipush (-9), 2) := by decide +kernel
theorem dX0_paidBy_2 : decode cX0_paidBy 2 = .ok (.istore_n 2, 1) := by decide +kernel
theorem dX0_paidBy_3 : decode cX0_paidBy 3 = .ok (.iconst 0, 1) := by decide +kernel
theorem dX0_paidBy_4 : decode cX0_paidBy 4 = .ok (.istore_n 3, 1) := by decide +kernel
theorem dX0_paidBy_5 : decode cX0_paidBy 5 = .ok (.iload_n 3, 1) := by decide +kernel
theorem dX0_paidBy_6 : decode cX0_paidBy 6 = .ok (.aload_n 0, 1) := by decide +kernel
theorem dX0_paidBy_7 : decode cX0_paidBy 7 = .ok (.getfield 15, 3) := by decide +kernel
theorem dX0_paidBy_10 : decode cX0_paidBy 10 = .ok (.invokevirtual 45, 3) := by decide +kernel
theorem dX0_paidBy_13 : decode cX0_paidBy 13 = .ok (.if_icmp .ge 43, 3) := by decide +kernel
theorem dX0_paidBy_16 : decode cX0_paidBy 16 = .ok (.aload_n 0, 1) := by decide +kernel
theorem dX0_paidBy_17 : decode cX0_paidBy 17 = .ok (.iload_n 3, 1) := by decide +kernel
theorem dX0_paidBy_18 : decode cX0_paidBy 18 = .ok (.iload_n 1, 1) := by decide +kernel
theorem dX0_paidBy_19 : decode cX0_paidBy 19 = .ok (.invokevirtual 59, 3) := by decide +kernel
theorem dX0_paidBy_22 : decode cX0_paidBy 22 = .ok (.ifCond .eq 28, 3) := by decide +kernel
theorem dX0_paidBy_25 : decode cX0_paidBy 25 = .ok (.iload_n 2, 1) := by decide +kernel
theorem dX0_paidBy_26 : decode cX0_paidBy 26 = .ok (.ifCond .lt 22, 3) := by decide +kernel
theorem dX0_paidBy_29 : decode cX0_paidBy 29 = .ok (.aload_n 0, 1) := by decide +kernel
theorem dX0_paidBy_30 : decode cX0_paidBy 30 = .ok (.getfield 15, 3) := by decide +kernel
theorem dX0_paidBy_33 : decode cX0_paidBy 33 = .ok (.iload_n 3, 1) := by decide +kernel
theorem dX0_paidBy_34 : decode cX0_paidBy 34 = .ok (.invokevirtual 102, 3) := by decide +kernel
theorem dX0_paidBy_37 : decode cX0_paidBy 37 = .ok (.aload_n 0, 1) := by decide +kernel
theorem dX0_paidBy_38 : decode cX0_paidBy 38 = .ok (.getfield 15, 3) := by decide +kernel
theorem dX0_paidBy_41 : decode cX0_paidBy 41 = .ok (.iload_n 2, 1) := by decide +kernel
theorem dX0_paidBy_42 : decode cX0_paidBy 42 = .ok (.invokevirtual 102, 3) := by decide +kernel
theorem dX0_paidBy_45 : decode cX0_paidBy 45 = .ok (.if_icmp .le 5, 3) := by decide +kernel
theorem dX0_paidBy_48 : decode cX0_paidBy 48 = .ok (.iload_n 3, 1) := by decide +kernel
theorem dX0_paidBy_49 : decode cX0_paidBy 49 = .ok (.istore_n 2, 1) := by decide +kernel
theorem dX0_paidBy_50 : decode cX0_paidBy 50 = .ok (.iinc 3 1, 3) := by decide +kernel
theorem dX0_paidBy_53 : decode cX0_paidBy 53 = .ok (.goto (-48), 3) := by decide +kernel
theorem dX0_paidBy_56 : decode cX0_paidBy 56 = .ok (.iload_n 2, 1) := by decide +kernel
theorem dX0_paidBy_57 : decode cX0_paidBy 57 = .ok (.ireturn, 1) := by decide +kernel
set_option maxRecDepth 20000 in
theorem ggX0_payers_X0_paidBy : GoodIn wsX0_payers wsX0_paidBy := goodIn_r _ [7, 8, 9, 10, 11, 12, 13, 14, 15, 16, 17, 6, 18, 1, 19, 20, 21, 22, 23, 24, 25, 26, 27, 28, 29, 30, 31, 32, 33, 34, 35, 36, 37, 38, 39, 40, 41, 42, 43, 44, 45, 46, 47, 48, 49, 50, 51, 52, 53, 54, 55, 56, 57, 58, 59, 66, 67, 68, 69, 60, 61, 62, 63, 64, 65] (by decide +kernel) (by decide +kernel)
set_option maxRecDepth 20000 in
theorem gX0_payers_X0_paidBy : GoodIn wsX0_payers (wsV RX0 104 RX0 yX0_paidBy wsX0_paidBy) := goodIn_app (goodIn_of _ (by decide +kernel)) ggX0_payers_X0_paidBy
theorem dX0_payers_0 : decode cX0_payers 0 = .ok (.iconst 0, 1) := by decide +kernel
theorem dX0_payers_1 : decode cX0_payers 1 = .ok (.istore_n 2, 1) := by decide +kernel
theorem dX0_payers_2 : decode cX0_payers 2 = .ok (.iconst 0, 1) := by decide +kernel
theorem dX0_payers_3 : decode cX0_payers 3 = .ok (.istore_n 3, 1) := by decide +kernel
theorem dX0_payers_4 : decode cX0_payers 4 = .ok (.iload_n 3, 1) := by decide +kernel
theorem dX0_payers_5 : decode cX0_payers 5 = .ok (.aload_n 0, 1) := by decide +kernel
theorem dX0_payers_6 : decode cX0_payers 6 = .ok (.getfield 9, 3) := by decide +kernel
theorem dX0_payers_9 : decode cX0_payers 9 = .ok (.getfield 76, 3) := by decide +kernel
theorem dX0_payers_12 : decode cX0_payers 12 = .ok (.if_icmp .ge 21, 3) := by decide +kernel
theorem dX0_payers_15 : decode cX0_payers 15 = .ok (.aload_n 0, 1) := by decide +kernel
theorem dX0_payers_16 : decode cX0_payers 16 = .ok (.iload_n 3, 1) := by decide +kernel
theorem dX0_payers_17 : decode cX0_payers 17 = .ok (.invokevirtual 104, 3) := by decide +kernel
theorem dX0_payers_20 : decode cX0_payers 20 = .ok (.iload_n 1, 1) := by decide +kernel
theorem dX0_payers_21 : decode cX0_payers 21 = .ok (.if_icmp .ne 6, 3) := by decide +kernel
theorem dX0_payers_24 : decode cX0_payers 24 = .ok (.iinc 2 1, 3) := by decide +kernel
theorem dX0_payers_27 : decode cX0_payers 27 = .ok (.iinc 3 1, 3) := by decide +kernel
theorem dX0_payers_30 : decode cX0_payers 30 = .ok (.goto (-26), 3) := by decide +kernel
theorem dX0_payers_33 : decode cX0_payers 33 = .ok (.iload_n 2, 1) := by decide +kernel
theorem dX0_payers_34 : decode cX0_payers 34 = .ok (.ireturn, 1) := by decide +kernel
set_option maxRecDepth 20000 in
theorem ggX0_mostPaid_X3_trees : GoodIn wsX0_mostPaid wsX3_trees := goodIn_r _ [6, 7, 64, 65, 66, 67] (by decide +kernel) (by decide +kernel)
set_option maxRecDepth 20000 in
theorem gX0_mostPaid_X3_trees : GoodIn wsX0_mostPaid (wsV RX0 45 RX3 yX3_trees wsX3_trees) := goodIn_app (goodIn_of _ (by decide +kernel)) ggX0_mostPaid_X3_trees
set_option maxRecDepth 20000 in
theorem ggX0_mostPaid_X0_payers : GoodIn wsX0_mostPaid wsX0_payers := goodIn_r _ [12, 13, 14, 15, 16, 17, 11, 18, 1, 2, 3, 4, 5, 6, 7, 19, 20, 21, 22, 23, 24, 25, 26, 27, 28, 29, 30, 31, 32, 33, 34, 35, 36, 37, 38, 39, 40, 41, 42, 43, 44, 45, 46, 47, 48, 49, 50, 51, 52, 53, 54, 55, 56, 57, 58, 59, 60, 61, 62, 63, 68, 69, 70, 71, 72, 73, 64, 65, 66, 67] (by decide +kernel) (by decide +kernel)
set_option maxRecDepth 20000 in
theorem gX0_mostPaid_X0_payers : GoodIn wsX0_mostPaid (wsV RX0 107 RX0 yX0_payers wsX0_payers) := goodIn_app (goodIn_of _ (by decide +kernel)) ggX0_mostPaid_X0_payers
theorem dX0_mostPaid_0 : decode cX0_mostPaid 0 = .ok (.bipush (-9), 2) := by decide +kernel
theorem dX0_mostPaid_2 : decode cX0_mostPaid 2 = .ok (.istore_n 1, 1) := by decide +kernel
theorem dX0_mostPaid_3 : decode cX0_mostPaid 3 = .ok (.iconst 0, 1) := by decide +kernel
theorem dX0_mostPaid_4 : decode cX0_mostPaid 4 = .ok (.istore_n 2, 1) := by decide +kernel
theorem dX0_mostPaid_5 : decode cX0_mostPaid 5 = .ok (.iconst 0, 1) := by decide +kernel
theorem dX0_mostPaid_6 : decode cX0_mostPaid 6 = .ok (.istore_n 3, 1) := by decide +kernel
theorem dX0_mostPaid_7 : decode cX0_mostPaid 7 = .ok (.iload_n 3, 1) := by decide +kernel
theorem dX0_mostPaid_8 : decode cX0_mostPaid 8 = .ok (.aload_n 0, 1) := by decide +kernel
theorem dX0_mostPaid_9 : decode cX0_mostPaid 9 = .ok (.getfield 15, 3) := by decide +kernel
theorem dX0_mostPaid_12 : decode cX0_mostPaid 12 = .ok (.invokevirtual 45, 3) := by decide +kernel
theorem dX0_mostPaid_15 : decode cX0_mostPaid 15 = .ok (.if_icmp .ge 27, 3) := by decide +kernel
theorem dX0_mostPaid_18 : decode cX0_mostPaid 18 = .ok (.aload_n 0, 1) := by decide +kernel
theorem dX0_mostPaid_19 : decode cX0_mostPaid 19 = .ok (.iload_n 3, 1) := by decide +kernel
theorem dX0_mostPaid_20 : decode cX0_mostPaid 20 = .ok (.invokevirtual 107, 3) := by decide +kernel
theorem dX0_mostPaid_23 : decode cX0_mostPaid 23 = .ok (.istore 4, 2) := by decide +kernel
theorem dX0_mostPaid_25 : decode cX0_mostPaid 25 = .ok (.iload 4, 2) := by decide +kernel
theorem dX0_mostPaid_27 : decode cX0_mostPaid 27 = .ok (.iload_n 2, 1) := by decide +kernel
theorem dX0_mostPaid_28 : decode cX0_mostPaid 28 = .ok (.if_icmp .le 8, 3) := by decide +kernel
theorem dX0_mostPaid_31 : decode cX0_mostPaid 31 = .ok (.iload 4, 2) := by decide +kernel
theorem dX0_mostPaid_33 : decode cX0_mostPaid 33 = .ok (.istore_n 2, 1) := by decide +kernel
theorem dX0_mostPaid_34 : decode cX0_mostPaid 34 = .ok (.iload_n 3, 1) := by decide +kernel
theorem dX0_mostPaid_35 : decode cX0_mostPaid 35 = .ok (.istore_n 1, 1) := by decide +kernel
theorem dX0_mostPaid_36 : decode cX0_mostPaid 36 = .ok (.iinc 3 1, 3) := by decide +kernel
theorem dX0_mostPaid_39 : decode cX0_mostPaid 39 = .ok (.goto (-32), 3) := by decide +kernel
theorem dX0_mostPaid_42 : decode cX0_mostPaid 42 = .ok (.iload_n 1, 1) := by decide +kernel
theorem dX0_mostPaid_43 : decode cX0_mostPaid 43 = .ok (.ireturn, 1) := by decide +kernel
set_option maxRecDepth 20000 in
theorem ggX0_leastRibbons_X1_all : GoodIn wsX0_leastRibbons wsX1_all := goodIn_r _ [15, 16, 63, 64, 65, 66, 67, 68] (by decide +kernel) (by decide +kernel)
set_option maxRecDepth 20000 in
theorem gX0_leastRibbons_X1_all : GoodIn wsX0_leastRibbons (wsV RX0 89 RX1 yX1_all wsX1_all) := goodIn_app (goodIn_of _ (by decide +kernel)) ggX0_leastRibbons_X1_all
set_option maxRecDepth 20000 in
theorem ggX0_leastRibbons_X3_trees : GoodIn wsX0_leastRibbons wsX3_trees := goodIn_r _ [21, 22, 69, 70, 71, 72] (by decide +kernel) (by decide +kernel)
set_option maxRecDepth 20000 in
theorem gX0_leastRibbons_X3_trees : GoodIn wsX0_leastRibbons (wsV RX0 45 RX3 yX3_trees wsX3_trees) := goodIn_app (goodIn_of _ (by decide +kernel)) ggX0_leastRibbons_X3_trees
set_option maxRecDepth 20000 in
theorem ggX0_leastRibbons_X3_used : GoodIn wsX0_leastRibbons wsX3_used := goodIn_r _ [26, 22, 69, 70, 71, 72] (by decide +kernel) (by decide +kernel)
set_option maxRecDepth 20000 in
theorem gX0_leastRibbons_X3_used : GoodIn wsX0_leastRibbons (wsV RX0 111 RX3 yX3_used wsX3_used) := goodIn_app (goodIn_of _ (by decide +kernel)) ggX0_leastRibbons_X3_used
set_option maxRecDepth 20000 in
theorem ggX0_leastRibbons_X3_x : GoodIn wsX0_leastRibbons wsX3_x := goodIn_r _ [30, 22, 69, 70, 71, 72] (by decide +kernel) (by decide +kernel)
set_option maxRecDepth 20000 in
theorem gX0_leastRibbons_X3_x : GoodIn wsX0_leastRibbons (wsV RX0 23 RX3 yX3_x wsX3_x) := goodIn_app (goodIn_of _ (by decide +kernel)) ggX0_leastRibbons_X3_x
set_option maxRecDepth 20000 in
theorem ggX0_leastRibbons_X3_y : GoodIn wsX0_leastRibbons wsX3_y := goodIn_r _ [34, 22, 69, 70, 71, 72] (by decide +kernel) (by decide +kernel)
set_option maxRecDepth 20000 in
theorem gX0_leastRibbons_X3_y : GoodIn wsX0_leastRibbons (wsV RX0 29 RX3 yX3_y wsX3_y) := goodIn_app (goodIn_of _ (by decide +kernel)) ggX0_leastRibbons_X3_y
set_option maxRecDepth 20000 in
theorem ggX0_leastRibbons_X1_reaches : GoodIn wsX0_leastRibbons wsX1_reaches := goodIn_r _ [38, 39, 40, 41, 63, 64, 65, 66, 67, 68] (by decide +kernel) (by decide +kernel)
set_option maxRecDepth 20000 in
theorem gX0_leastRibbons_X1_reaches : GoodIn wsX0_leastRibbons (wsV RX0 55 RX1 yX1_reaches wsX1_reaches) := goodIn_app (goodIn_of _ (by decide +kernel)) ggX0_leastRibbons_X1_reaches
set_option maxRecDepth 20000 in
theorem ggX0_leastRibbons_X3_high : GoodIn wsX0_leastRibbons wsX3_high := goodIn_r _ [45, 22, 69, 70, 71, 72] (by decide +kernel) (by decide +kernel)
set_option maxRecDepth 20000 in
theorem gX0_leastRibbons_X3_high : GoodIn wsX0_leastRibbons (wsV RX0 102 RX3 yX3_high wsX3_high) := goodIn_app (goodIn_of _ (by decide +kernel)) ggX0_leastRibbons_X3_high
set_option maxRecDepth 20000 in
theorem ggX0_leastRibbons_X0_raise : GoodIn wsX0_leastRibbons wsX0_raise := goodIn_r _ [50, 1, 4, 2, 51, 52, 9, 53, 27, 28, 29, 20, 30, 22, 31, 32, 33, 34, 54, 55, 56, 14, 57, 16, 58, 59, 36, 37, 38, 39, 40, 41, 42, 43, 44, 45, 60, 61, 62, 69, 70, 71, 72, 63, 64, 65, 66, 67, 68] (by decide +kernel) (by decide +kernel)
set_option maxRecDepth 20000 in
theorem gX0_leastRibbons_X0_raise : GoodIn wsX0_leastRibbons (wsV RX0 114 RX0 yX0_raise wsX0_raise) := goodIn_app (goodIn_of _ (by decide +kernel)) ggX0_leastRibbons_X0_raise
theorem dX0_leastRibbons_0 : decode cX0_leastRibbons 0 = .ok (.aload_n 0, 1) := by decide +kernel
theorem dX0_leastRibbons_1 : decode cX0_leastRibbons 1 = .ok (.getfield 9, 3) := by decide +kernel
theorem dX0_leastRibbons_4 : decode cX0_leastRibbons 4 = .ok (.invokevirtual 89, 3) := by decide +kernel
theorem dX0_leastRibbons_7 : decode cX0_leastRibbons 7 = .ok (.istore_n 1, 1) := by decide +kernel
theorem dX0_leastRibbons_8 : decode cX0_leastRibbons 8 = .ok (.aload_n 0, 1) := by decide +kernel
theorem dX0_leastRibbons_9 : decode cX0_leastRibbons 9 = .ok (.getfield 19, 3) := by decide +kernel
theorem dX0_leastRibbons_12 : decode cX0_leastRibbons 12 = .ok (.iconst 0, 1) := by decide +kernel
theorem dX0_leastRibbons_13 : decode cX0_leastRibbons 13 = .ok (.iconst 0, 1) := by decide +kernel
theorem dX0_leastRibbons_14 : decode cX0_leastRibbons 14 = .ok (.iastore, 1) := by decide +kernel
theorem dX0_leastRibbons_15 : decode cX0_leastRibbons 15 = .ok (.iconst 1, 1) := by decide +kernel
theorem dX0_leastRibbons_16 : decode cX0_leastRibbons 16 = .ok (.istore_n 2, 1) := by decide +kernel
theorem dX0_leastRibbons_17 : decode cX0_leastRibbons 17 = .ok (.iload_n 2, 1) := by decide +kernel
theorem dX0_leastRibbons_18 : decode cX0_leastRibbons 18 = .ok (.iload_n 1, 1) := by decide +kernel
theorem dX0_leastRibbons_19 : decode cX0_leastRibbons 19 = .ok (.if_icmp .gt 17, 3) := by decide +kernel
theorem dX0_leastRibbons_22 : decode cX0_leastRibbons 22 = .ok (.aload_n 0, 1) := by decide +kernel
theorem dX0_leastRibbons_23 : decode cX0_leastRibbons 23 = .ok (.getfield 19, 3) := by decide +kernel
theorem dX0_leastRibbons_26 : decode cX0_leastRibbons 26 = .ok (.iload_n 2, 1) := by decide +kernel
theorem dX0_leastRibbons_27 : decode cX0_leastRibbons 27 = .ok (.ldc 110, 2) := by decide +kernel
theorem dX0_leastRibbons_29 : decode cX0_leastRibbons 29 = .ok (.iastore, 1) := by decide +kernel
theorem dX0_leastRibbons_30 : decode cX0_leastRibbons 30 = .ok (.iinc 2 1, 3) := by decide +kernel
theorem dX0_leastRibbons_33 : decode cX0_leastRibbons 33 = .ok (.goto (-16), 3) := by decide +kernel
theorem dX0_leastRibbons_36 : decode cX0_leastRibbons 36 = .ok (.iconst 0, 1) := by decide +kernel
theorem dX0_leastRibbons_37 : decode cX0_leastRibbons 37 = .ok (.istore_n 2, 1) := by decide +kernel
theorem dX0_leastRibbons_38 : decode cX0_leastRibbons 38 = .ok (.iload_n 2, 1) := by decide +kernel
theorem dX0_leastRibbons_39 : decode cX0_leastRibbons 39 = .ok (.aload_n 0, 1) := by decide +kernel
theorem dX0_leastRibbons_40 : decode cX0_leastRibbons 40 = .ok (.getfield 15, 3) := by decide +kernel
theorem dX0_leastRibbons_43 : decode cX0_leastRibbons 43 = .ok (.invokevirtual 45, 3) := by decide +kernel
theorem dX0_leastRibbons_46 : decode cX0_leastRibbons 46 = .ok (.if_icmp .ge 94, 3) := by decide +kernel
theorem dX0_leastRibbons_49 : decode cX0_leastRibbons 49 = .ok (.iconst 0, 1) := by decide +kernel
theorem dX0_leastRibbons_50 : decode cX0_leastRibbons 50 = .ok (.istore_n 3, 1) := by decide +kernel
theorem dX0_leastRibbons_51 : decode cX0_leastRibbons 51 = .ok (.iload_n 3, 1) := by decide +kernel
theorem dX0_leastRibbons_52 : decode cX0_leastRibbons 52 = .ok (.aload_n 0, 1) := by decide +kernel
theorem dX0_leastRibbons_53 : decode cX0_leastRibbons 53 = .ok (.getfield 9, 3) := by decide +kernel
theorem dX0_leastRibbons_56 : decode cX0_leastRibbons 56 = .ok (.getfield 76, 3) := by decide +kernel
theorem dX0_leastRibbons_59 : decode cX0_leastRibbons 59 = .ok (.if_icmp .ge 75, 3) := by decide +kernel
theorem dX0_leastRibbons_62 : decode cX0_leastRibbons 62 = .ok (.aload_n 0, 1) := by decide +kernel
theorem dX0_leastRibbons_63 : decode cX0_leastRibbons 63 = .ok (.getfield 15, 3) := by decide +kernel
theorem dX0_leastRibbons_66 : decode cX0_leastRibbons 66 = .ok (.iload_n 2, 1) := by decide +kernel
theorem dX0_leastRibbons_67 : decode cX0_leastRibbons 67 = .ok (.invokevirtual 111, 3) := by decide +kernel
theorem dX0_leastRibbons_70 : decode cX0_leastRibbons 70 = .ok (.ifCond .ne 58, 3) := by decide +kernel
theorem dX0_leastRibbons_73 : decode cX0_leastRibbons 73 = .ok (.aload_n 0, 1) := by decide +kernel
theorem dX0_leastRibbons_74 : decode cX0_leastRibbons 74 = .ok (.getfield 9, 3) := by decide +kernel
theorem dX0_leastRibbons_77 : decode cX0_leastRibbons 77 = .ok (.aload_n 0, 1) := by decide +kernel
theorem dX0_leastRibbons_78 : decode cX0_leastRibbons 78 = .ok (.getfield 15, 3) := by decide +kernel
theorem dX0_leastRibbons_81 : decode cX0_leastRibbons 81 = .ok (.iload_n 2, 1) := by decide +kernel
theorem dX0_leastRibbons_82 : decode cX0_leastRibbons 82 = .ok (.invokevirtual 23, 3) := by decide +kernel
theorem dX0_leastRibbons_85 : decode cX0_leastRibbons 85 = .ok (.aload_n 0, 1) := by decide +kernel
theorem dX0_leastRibbons_86 : decode cX0_leastRibbons 86 = .ok (.getfield 15, 3) := by decide +kernel
theorem dX0_leastRibbons_89 : decode cX0_leastRibbons 89 = .ok (.iload_n 2, 1) := by decide +kernel
theorem dX0_leastRibbons_90 : decode cX0_leastRibbons 90 = .ok (.invokevirtual 29, 3) := by decide +kernel
theorem dX0_leastRibbons_93 : decode cX0_leastRibbons 93 = .ok (.iload_n 3, 1) := by decide +kernel
theorem dX0_leastRibbons_94 : decode cX0_leastRibbons 94 = .ok (.invokevirtual 55, 3) := by decide +kernel
theorem dX0_leastRibbons_97 : decode cX0_leastRibbons 97 = .ok (.ifCond .eq 31, 3) := by decide +kernel
theorem dX0_leastRibbons_100 : decode cX0_leastRibbons 100 = .ok (.aload_n 0, 1) := by decide +kernel
theorem dX0_leastRibbons_101 : decode cX0_leastRibbons 101 = .ok (.iload_n 2, 1) := by decide +kernel
theorem dX0_leastRibbons_102 : decode cX0_leastRibbons 102 = .ok (.aload_n 0, 1) := by decide +kernel
theorem dX0_leastRibbons_103 : decode cX0_leastRibbons 103 = .ok (.getfield 15, 3) := by decide +kernel
theorem dX0_leastRibbons_106 : decode cX0_leastRibbons 106 = .ok (.iload_n 2, 1) := by decide +kernel
theorem dX0_leastRibbons_107 : decode cX0_leastRibbons 107 = .ok (.invokevirtual 102, 3) := by decide +kernel
theorem dX0_leastRibbons_110 : decode cX0_leastRibbons 110 = .ok (.aload_n 0, 1) := by decide +kernel
theorem dX0_leastRibbons_111 : decode cX0_leastRibbons 111 = .ok (.getfield 9, 3) := by decide +kernel
theorem dX0_leastRibbons_114 : decode cX0_leastRibbons 114 = .ok (.getfield 52, 3) := by decide +kernel
theorem dX0_leastRibbons_117 : decode cX0_leastRibbons 117 = .ok (.iload_n 3, 1) := by decide +kernel
theorem dX0_leastRibbons_118 : decode cX0_leastRibbons 118 = .ok (.iaload, 1) := by decide +kernel
theorem dX0_leastRibbons_119 : decode cX0_leastRibbons 119 = .ok (.iconst 1, 1) := by decide +kernel
theorem dX0_leastRibbons_120 : decode cX0_leastRibbons 120 = .ok (.iadd, 1) := by decide +kernel
theorem dX0_leastRibbons_121 : decode cX0_leastRibbons 121 = .ok (.invokestatic 71, 3) := by decide +kernel
theorem dX0_leastRibbons_124 : decode cX0_leastRibbons 124 = .ok (.iload_n 1, 1) := by decide +kernel
theorem dX0_leastRibbons_125 : decode cX0_leastRibbons 125 = .ok (.invokevirtual 114, 3) := by decide +kernel
theorem dX0_leastRibbons_128 : decode cX0_leastRibbons 128 = .ok (.iinc 3 1, 3) := by decide +kernel
theorem dX0_leastRibbons_131 : decode cX0_leastRibbons 131 = .ok (.goto (-80), 3) := by decide +kernel
theorem dX0_leastRibbons_134 : decode cX0_leastRibbons 134 = .ok (.iinc 2 1, 3) := by decide +kernel
theorem dX0_leastRibbons_137 : decode cX0_leastRibbons 137 = .ok (.goto (-99), 3) := by decide +kernel
theorem dX0_leastRibbons_140 : decode cX0_leastRibbons 140 = .ok (.aload_n 0, 1) := by decide +kernel
theorem dX0_leastRibbons_141 : decode cX0_leastRibbons 141 = .ok (.getfield 19, 3) := by decide +kernel
theorem dX0_leastRibbons_144 : decode cX0_leastRibbons 144 = .ok (.iload_n 1, 1) := by decide +kernel
theorem dX0_leastRibbons_145 : decode cX0_leastRibbons 145 = .ok (.iaload, 1) := by decide +kernel
theorem dX0_leastRibbons_146 : decode cX0_leastRibbons 146 = .ok (.ldc 110, 2) := by decide +kernel
theorem dX0_leastRibbons_148 : decode cX0_leastRibbons 148 = .ok (.if_icmp .ge 12, 3) := by decide +kernel
theorem dX0_leastRibbons_151 : decode cX0_leastRibbons 151 = .ok (.aload_n 0, 1) := by decide +kernel
theorem dX0_leastRibbons_152 : decode cX0_leastRibbons 152 = .ok (.getfield 19, 3) := by decide +kernel
theorem dX0_leastRibbons_155 : decode cX0_leastRibbons 155 = .ok (.iload_n 1, 1) := by decide +kernel
theorem dX0_leastRibbons_156 : decode cX0_leastRibbons 156 = .ok (.iaload, 1) := by decide +kernel
theorem dX0_leastRibbons_157 : decode cX0_leastRibbons 157 = .ok (.goto 5, 3) := by decide +kernel
theorem dX0_leastRibbons_160 : decode cX0_leastRibbons 160 = .ok (.bipush (-5), 2) := by decide +kernel
theorem dX0_leastRibbons_162 : decode cX0_leastRibbons 162 = .ok (.ireturn, 1) := by decide +kernel
set_option maxRecDepth 20000 in
theorem ggX0_raise_X3_x : GoodIn wsX0_raise wsX3_x := goodIn_r _ [12, 13, 39, 40, 41, 42] (by decide +kernel) (by decide +kernel)
set_option maxRecDepth 20000 in
theorem gX0_raise_X3_x : GoodIn wsX0_raise (wsV RX0 23 RX3 yX3_x wsX3_x) := goodIn_app (goodIn_of _ (by decide +kernel)) ggX0_raise_X3_x
set_option maxRecDepth 20000 in
theorem ggX0_raise_X3_y : GoodIn wsX0_raise wsX3_y := goodIn_r _ [17, 13, 39, 40, 41, 42] (by decide +kernel) (by decide +kernel)
set_option maxRecDepth 20000 in
theorem gX0_raise_X3_y : GoodIn wsX0_raise (wsV RX0 29 RX3 yX3_y wsX3_y) := goodIn_app (goodIn_of _ (by decide +kernel)) ggX0_raise_X3_y
set_option maxRecDepth 20000 in
theorem ggX0_raise_X1_below : GoodIn wsX0_raise wsX1_below := goodIn_r _ [22, 23, 24, 25, 26, 27, 21, 28, 29, 30, 31, 43, 44, 45, 46, 47, 48] (by decide +kernel) (by decide +kernel)
set_option maxRecDepth 20000 in
theorem gX0_raise_X1_below : GoodIn wsX0_raise (wsV RX0 36 RX1 yX1_below wsX1_below) := goodIn_app (goodIn_of _ (by decide +kernel)) ggX0_raise_X1_below
set_option maxRecDepth 20000 in
theorem ggX0_raise_X3_high : GoodIn wsX0_raise wsX3_high := goodIn_r _ [35, 13, 39, 40, 41, 42] (by decide +kernel) (by decide +kernel)
set_option maxRecDepth 20000 in
theorem gX0_raise_X3_high : GoodIn wsX0_raise (wsV RX0 102 RX3 yX3_high wsX3_high) := goodIn_app (goodIn_of _ (by decide +kernel)) ggX0_raise_X3_high
theorem dX0_raise_0 : decode cX0_raise 0 = .ok (.aload_n 0, 1) := by decide +kernel
theorem dX0_raise_1 : decode cX0_raise 1 = .ok (.getfield 9, 3) := by decide +kernel
theorem dX0_raise_4 : decode cX0_raise 4 = .ok (.aload_n 0, 1) := by decide +kernel
theorem dX0_raise_5 : decode cX0_raise 5 = .ok (.getfield 15, 3) := by decide +kernel
theorem dX0_raise_8 : decode cX0_raise 8 = .ok (.iload_n 1, 1) := by decide +kernel
theorem dX0_raise_9 : decode cX0_raise 9 = .ok (.invokevirtual 23, 3) := by decide +kernel
theorem dX0_raise_12 : decode cX0_raise 12 = .ok (.aload_n 0, 1) := by decide +kernel
theorem dX0_raise_13 : decode cX0_raise 13 = .ok (.getfield 15, 3) := by decide +kernel
theorem dX0_raise_16 : decode cX0_raise 16 = .ok (.iload_n 1, 1) := by decide +kernel
theorem dX0_raise_17 : decode cX0_raise 17 = .ok (.invokevirtual 29, 3) := by decide +kernel
theorem dX0_raise_20 : decode cX0_raise 20 = .ok (.iload_n 2, 1) := by decide +kernel
theorem dX0_raise_21 : decode cX0_raise 21 = .ok (.invokevirtual 36, 3) := by decide +kernel
theorem dX0_raise_24 : decode cX0_raise 24 = .ok (.istore 4, 2) := by decide +kernel
theorem dX0_raise_26 : decode cX0_raise 26 = .ok (.iload_n 2, 1) := by decide +kernel
theorem dX0_raise_27 : decode cX0_raise 27 = .ok (.aload_n 0, 1) := by decide +kernel
theorem dX0_raise_28 : decode cX0_raise 28 = .ok (.getfield 15, 3) := by decide +kernel
theorem dX0_raise_31 : decode cX0_raise 31 = .ok (.iload_n 1, 1) := by decide +kernel
theorem dX0_raise_32 : decode cX0_raise 32 = .ok (.invokevirtual 102, 3) := by decide +kernel
theorem dX0_raise_35 : decode cX0_raise 35 = .ok (.isub, 1) := by decide +kernel
theorem dX0_raise_36 : decode cX0_raise 36 = .ok (.istore 5, 2) := by decide +kernel
theorem dX0_raise_38 : decode cX0_raise 38 = .ok (.iconst 0, 1) := by decide +kernel
theorem dX0_raise_39 : decode cX0_raise 39 = .ok (.istore 6, 2) := by decide +kernel
theorem dX0_raise_41 : decode cX0_raise 41 = .ok (.iload 6, 2) := by decide +kernel
theorem dX0_raise_43 : decode cX0_raise 43 = .ok (.iload_n 3, 1) := by decide +kernel
theorem dX0_raise_44 : decode cX0_raise 44 = .ok (.if_icmp .gt 42, 3) := by decide +kernel
theorem dX0_raise_47 : decode cX0_raise 47 = .ok (.aload_n 0, 1) := by decide +kernel
theorem dX0_raise_48 : decode cX0_raise 48 = .ok (.getfield 19, 3) := by decide +kernel
theorem dX0_raise_51 : decode cX0_raise 51 = .ok (.iload 6, 2) := by decide +kernel
theorem dX0_raise_53 : decode cX0_raise 53 = .ok (.iload 4, 2) := by decide +kernel
theorem dX0_raise_55 : decode cX0_raise 55 = .ok (.ior, 1) := by decide +kernel
theorem dX0_raise_56 : decode cX0_raise 56 = .ok (.aload_n 0, 1) := by decide +kernel
theorem dX0_raise_57 : decode cX0_raise 57 = .ok (.getfield 19, 3) := by decide +kernel
theorem dX0_raise_60 : decode cX0_raise 60 = .ok (.iload 6, 2) := by decide +kernel
theorem dX0_raise_62 : decode cX0_raise 62 = .ok (.iload 4, 2) := by decide +kernel
theorem dX0_raise_64 : decode cX0_raise 64 = .ok (.ior, 1) := by decide +kernel
theorem dX0_raise_65 : decode cX0_raise 65 = .ok (.iaload, 1) := by decide +kernel
theorem dX0_raise_66 : decode cX0_raise 66 = .ok (.aload_n 0, 1) := by decide +kernel
theorem dX0_raise_67 : decode cX0_raise 67 = .ok (.getfield 19, 3) := by decide +kernel
theorem dX0_raise_70 : decode cX0_raise 70 = .ok (.iload 6, 2) := by decide +kernel
theorem dX0_raise_72 : decode cX0_raise 72 = .ok (.iaload, 1) := by decide +kernel
theorem dX0_raise_73 : decode cX0_raise 73 = .ok (.iload 5, 2) := by decide +kernel
theorem dX0_raise_75 : decode cX0_raise 75 = .ok (.iadd, 1) := by decide +kernel
theorem dX0_raise_76 : decode cX0_raise 76 = .ok (.invokestatic 99, 3) := by decide +kernel
theorem dX0_raise_79 : decode cX0_raise 79 = .ok (.iastore, 1) := by decide +kernel
theorem dX0_raise_80 : decode cX0_raise 80 = .ok (.iinc 6 1, 3) := by decide +kernel
theorem dX0_raise_83 : decode cX0_raise 83 = .ok (.goto (-42), 3) := by decide +kernel
theorem dX0_raise_86 : decode cX0_raise 86 = .ok (.return_, 1) := by decide +kernel
set_option maxRecDepth 20000 in
theorem ggX0_toppings_X3_trees : GoodIn wsX0_toppings wsX3_trees := goodIn_r _ [6, 7, 75, 76, 77, 78] (by decide +kernel) (by decide +kernel)
set_option maxRecDepth 20000 in
theorem gX0_toppings_X3_trees : GoodIn wsX0_toppings (wsV RX0 45 RX3 yX3_trees wsX3_trees) := goodIn_app (goodIn_of _ (by decide +kernel)) ggX0_toppings_X3_trees
set_option maxRecDepth 20000 in
theorem ggX0_toppings_X0_coveredBut : GoodIn wsX0_toppings wsX0_coveredBut := goodIn_r _ [12, 1, 2, 3, 4, 5, 6, 7, 13, 14, 15, 11, 16, 17, 18, 19, 20, 21, 22, 23, 24, 25, 26, 27, 28, 29, 30, 31, 32, 33, 34, 35, 36, 37, 38, 39, 40, 41, 42, 43, 44, 45, 46, 47, 48, 49, 50, 51, 52, 53, 54, 55, 56, 57, 58, 59, 72, 73, 74, 75, 76, 77, 78, 79, 80, 81, 82, 83, 84] (by decide +kernel) (by decide +kernel)
set_option maxRecDepth 20000 in
theorem gX0_toppings_X0_coveredBut : GoodIn wsX0_toppings (wsV RX0 42 RX0 yX0_coveredBut wsX0_coveredBut) := goodIn_app (goodIn_of _ (by decide +kernel)) ggX0_toppings_X0_coveredBut
set_option maxRecDepth 20000 in
theorem ggX0_toppings_X0_underTopped : GoodIn wsX0_toppings wsX0_underTopped := goodIn_r _ [63, 1, 17, 64, 35, 36, 5, 37, 7, 18, 19, 20, 21, 22, 23, 24, 25, 65, 39, 40, 41, 66, 67, 68, 69, 70, 32, 71, 46, 47, 48, 49, 50, 51, 52, 53, 54, 55, 56, 57, 58, 59, 72, 73, 74, 75, 76, 77, 78, 79, 80, 81, 82, 83, 84] (by decide +kernel) (by decide +kernel)
set_option maxRecDepth 20000 in
theorem gX0_toppings_X0_underTopped : GoodIn wsX0_toppings (wsV RX0 118 RX0 yX0_underTopped wsX0_underTopped) := goodIn_app (goodIn_of _ (by decide +kernel)) ggX0_toppings_X0_underTopped
theorem dX0_toppings_0 : decode cX0_toppings 0 = .ok (.iconst 0, 1) := by decide +kernel
theorem dX0_toppings_1 : decode cX0_toppings 1 = .ok (.istore_n 3, 1) := by decide +kernel
theorem dX0_toppings_2 : decode cX0_toppings 2 = .ok (.bipush (-9), 2) := by decide +kernel
theorem dX0_toppings_4 : decode cX0_toppings 4 = .ok (.istore 4, 2) := by decide +kernel
theorem dX0_toppings_6 : decode cX0_toppings 6 = .ok (.iconst 0, 1) := by decide +kernel
theorem dX0_toppings_7 : decode cX0_toppings 7 = .ok (.istore 5, 2) := by decide +kernel
theorem dX0_toppings_9 : decode cX0_toppings 9 = .ok (.iconst 0, 1) := by decide +kernel
theorem dX0_toppings_10 : decode cX0_toppings 10 = .ok (.istore 6, 2) := by decide +kernel
theorem dX0_toppings_12 : decode cX0_toppings 12 = .ok (.iload 6, 2) := by decide +kernel
theorem dX0_toppings_14 : decode cX0_toppings 14 = .ok (.aload_n 0, 1) := by decide +kernel
theorem dX0_toppings_15 : decode cX0_toppings 15 = .ok (.getfield 15, 3) := by decide +kernel
theorem dX0_toppings_18 : decode cX0_toppings 18 = .ok (.invokevirtual 45, 3) := by decide +kernel
theorem dX0_toppings_21 : decode cX0_toppings 21 = .ok (.if_icmp .ge 80, 3) := by decide +kernel
theorem dX0_toppings_24 : decode cX0_toppings 24 = .ok (.aload_n 0, 1) := by decide +kernel
theorem dX0_toppings_25 : decode cX0_toppings 25 = .ok (.iload 6, 2) := by decide +kernel
theorem dX0_toppings_27 : decode cX0_toppings 27 = .ok (.iconst 0, 1) := by decide +kernel
theorem dX0_toppings_28 : decode cX0_toppings 28 = .ok (.invokevirtual 42, 3) := by decide +kernel
theorem dX0_toppings_31 : decode cX0_toppings 31 = .ok (.istore 7, 2) := by decide +kernel
theorem dX0_toppings_33 : decode cX0_toppings 33 = .ok (.iconst 1, 1) := by decide +kernel
theorem dX0_toppings_34 : decode cX0_toppings 34 = .ok (.istore 8, 2) := by decide +kernel
theorem dX0_toppings_36 : decode cX0_toppings 36 = .ok (.iload 8, 2) := by decide +kernel
theorem dX0_toppings_38 : decode cX0_toppings 38 = .ok (.bipush 40, 2) := by decide +kernel
theorem dX0_toppings_40 : decode cX0_toppings 40 = .ok (.if_icmp .gt 55, 3) := by decide +kernel
theorem dX0_toppings_43 : decode cX0_toppings 43 = .ok (.iload 7, 2) := by decide +kernel
theorem dX0_toppings_45 : decode cX0_toppings 45 = .ok (.aload_n 0, 1) := by decide +kernel
theorem dX0_toppings_46 : decode cX0_toppings 46 = .ok (.iload 6, 2) := by decide +kernel
theorem dX0_toppings_48 : decode cX0_toppings 48 = .ok (.iload 8, 2) := by decide +kernel
theorem dX0_toppings_50 : decode cX0_toppings 50 = .ok (.invokevirtual 118, 3) := by decide +kernel
theorem dX0_toppings_53 : decode cX0_toppings 53 = .ok (.ior, 1) := by decide +kernel
theorem dX0_toppings_54 : decode cX0_toppings 54 = .ok (.iload_n 1, 1) := by decide +kernel
theorem dX0_toppings_55 : decode cX0_toppings 55 = .ok (.if_icmp .ne 34, 3) := by decide +kernel
theorem dX0_toppings_58 : decode cX0_toppings 58 = .ok (.iload_n 3, 1) := by decide +kernel
theorem dX0_toppings_59 : decode cX0_toppings 59 = .ok (.ifCond .ne 14, 3) := by decide +kernel
theorem dX0_toppings_62 : decode cX0_toppings 62 = .ok (.bipush 100, 2) := by decide +kernel
theorem dX0_toppings_64 : decode cX0_toppings 64 = .ok (.iload 6, 2) := by decide +kernel
theorem dX0_toppings_66 : decode cX0_toppings 66 = .ok (.imul, 1) := by decide +kernel
theorem dX0_toppings_67 : decode cX0_toppings 67 = .ok (.iload 8, 2) := by decide +kernel
theorem dX0_toppings_69 : decode cX0_toppings 69 = .ok (.iadd, 1) := by decide +kernel
theorem dX0_toppings_70 : decode cX0_toppings 70 = .ok (.goto 5, 3) := by decide +kernel
theorem dX0_toppings_73 : decode cX0_toppings 73 = .ok (.iload 4, 2) := by decide +kernel
theorem dX0_toppings_75 : decode cX0_toppings 75 = .ok (.istore 4, 2) := by decide +kernel
theorem dX0_toppings_77 : decode cX0_toppings 77 = .ok (.iinc 3 1, 3) := by decide +kernel
theorem dX0_toppings_80 : decode cX0_toppings 80 = .ok (.iload 5, 2) := by decide +kernel
theorem dX0_toppings_82 : decode cX0_toppings 82 = .ok (.iconst 1, 1) := by decide +kernel
theorem dX0_toppings_83 : decode cX0_toppings 83 = .ok (.iload 6, 2) := by decide +kernel
theorem dX0_toppings_85 : decode cX0_toppings 85 = .ok (.ishl, 1) := by decide +kernel
theorem dX0_toppings_86 : decode cX0_toppings 86 = .ok (.ior, 1) := by decide +kernel
theorem dX0_toppings_87 : decode cX0_toppings 87 = .ok (.istore 5, 2) := by decide +kernel
theorem dX0_toppings_89 : decode cX0_toppings 89 = .ok (.iinc 8 1, 3) := by decide +kernel
theorem dX0_toppings_92 : decode cX0_toppings 92 = .ok (.goto (-56), 3) := by decide +kernel
theorem dX0_toppings_95 : decode cX0_toppings 95 = .ok (.iinc 6 1, 3) := by decide +kernel
theorem dX0_toppings_98 : decode cX0_toppings 98 = .ok (.goto (-86), 3) := by decide +kernel
theorem dX0_toppings_101 : decode cX0_toppings 101 = .ok (.iload_n 2, 1) := by decide +kernel
theorem dX0_toppings_102 : decode cX0_toppings 102 = .ok (.ifCond .ne 7, 3) := by decide +kernel
theorem dX0_toppings_105 : decode cX0_toppings 105 = .ok (.iload_n 3, 1) := by decide +kernel
theorem dX0_toppings_106 : decode cX0_toppings 106 = .ok (.goto 15, 3) := by decide +kernel
theorem dX0_toppings_109 : decode cX0_toppings 109 = .ok (.iload_n 2, 1) := by decide +kernel
theorem dX0_toppings_110 : decode cX0_toppings 110 = .ok (.iconst 1, 1) := by decide +kernel
theorem dX0_toppings_111 : decode cX0_toppings 111 = .ok (.if_icmp .ne 8, 3) := by decide +kernel
theorem dX0_toppings_114 : decode cX0_toppings 114 = .ok (.iload 4, 2) := by decide +kernel
theorem dX0_toppings_116 : decode cX0_toppings 116 = .ok (.goto 5, 3) := by decide +kernel
theorem dX0_toppings_119 : decode cX0_toppings 119 = .ok (.iload 5, 2) := by decide +kernel
theorem dX0_toppings_121 : decode cX0_toppings 121 = .ok (.ireturn, 1) := by decide +kernel
set_option maxRecDepth 20000 in
theorem ggX0_underTopped_X3_used : GoodIn wsX0_underTopped wsX3_used := goodIn_r _ [7, 8, 45, 46, 47, 48] (by decide +kernel) (by decide +kernel)
set_option maxRecDepth 20000 in
theorem gX0_underTopped_X3_used : GoodIn wsX0_underTopped (wsV RX0 111 RX3 yX3_used wsX3_used) := goodIn_app (goodIn_of _ (by decide +kernel)) ggX0_underTopped_X3_used
set_option maxRecDepth 20000 in
theorem ggX0_underTopped_X3_x : GoodIn wsX0_underTopped wsX3_x := goodIn_r _ [12, 8, 45, 46, 47, 48] (by decide +kernel) (by decide +kernel)
set_option maxRecDepth 20000 in
theorem gX0_underTopped_X3_x : GoodIn wsX0_underTopped (wsV RX0 23 RX3 yX3_x wsX3_x) := goodIn_app (goodIn_of _ (by decide +kernel)) ggX0_underTopped_X3_x
set_option maxRecDepth 20000 in
theorem ggX0_underTopped_X3_y : GoodIn wsX0_underTopped wsX3_y := goodIn_r _ [16, 8, 45, 46, 47, 48] (by decide +kernel) (by decide +kernel)
set_option maxRecDepth 20000 in
theorem gX0_underTopped_X3_y : GoodIn wsX0_underTopped (wsV RX0 29 RX3 yX3_y wsX3_y) := goodIn_app (goodIn_of _ (by decide +kernel)) ggX0_underTopped_X3_y
set_option maxRecDepth 20000 in
theorem ggX0_underTopped_X3_high : GoodIn wsX0_underTopped wsX3_high := goodIn_r _ [20, 8, 45, 46, 47, 48] (by decide +kernel) (by decide +kernel)
set_option maxRecDepth 20000 in
theorem gX0_underTopped_X3_high : GoodIn wsX0_underTopped (wsV RX0 102 RX3 yX3_high wsX3_high) := goodIn_app (goodIn_of _ (by decide +kernel)) ggX0_underTopped_X3_high
set_option maxRecDepth 20000 in
theorem ggX0_underTopped_X5_toppedHigh : GoodIn wsX0_underTopped wsX5_toppedHigh := goodIn_r _ [23, 24, 25, 26, 27] (by decide +kernel) (by decide +kernel)
set_option maxRecDepth 20000 in
theorem gX0_underTopped_X5_toppedHigh_n121 : GoodIn wsX0_underTopped (wsX5_toppedHigh) := ggX0_underTopped_X5_toppedHigh
set_option maxRecDepth 20000 in
theorem ggX0_underTopped_X1_below : GoodIn wsX0_underTopped wsX1_below := goodIn_r _ [32, 33, 34, 35, 36, 37, 31, 38, 39, 40, 41, 49, 50, 51, 52, 53, 54] (by decide +kernel) (by decide +kernel)
set_option maxRecDepth 20000 in
theorem gX0_underTopped_X1_below : GoodIn wsX0_underTopped (wsV RX0 36 RX1 yX1_below wsX1_below) := goodIn_app (goodIn_of _ (by decide +kernel)) ggX0_underTopped_X1_below
theorem dX0_underTopped_0 : decode cX0_underTopped 0 = .ok (.aload_n 0, 1) := by decide +kernel
theorem dX0_underTopped_1 : decode cX0_underTopped 1 = .ok (.getfield 15, 3) := by decide +kernel
theorem dX0_underTopped_4 : decode cX0_underTopped 4 = .ok (.iload_n 1, 1) := by decide +kernel
theorem dX0_underTopped_5 : decode cX0_underTopped 5 = .ok (.invokevirtual 111, 3) := by decide +kernel
theorem dX0_underTopped_8 : decode cX0_underTopped 8 = .ok (.ifCond .le 7, 3) := by decide +kernel
theorem dX0_underTopped_11 : decode cX0_underTopped 11 = .ok (.iconst 0, 1) := by decide +kernel
theorem dX0_underTopped_12 : decode cX0_underTopped 12 = .ok (.goto 38, 3) := by decide +kernel
theorem dX0_underTopped_15 : decode cX0_underTopped 15 = .ok (.aload_n 0, 1) := by decide +kernel
theorem dX0_underTopped_16 : decode cX0_underTopped 16 = .ok (.getfield 9, 3) := by decide +kernel
theorem dX0_underTopped_19 : decode cX0_underTopped 19 = .ok (.aload_n 0, 1) := by decide +kernel
theorem dX0_underTopped_20 : decode cX0_underTopped 20 = .ok (.getfield 15, 3) := by decide +kernel
theorem dX0_underTopped_23 : decode cX0_underTopped 23 = .ok (.iload_n 1, 1) := by decide +kernel
theorem dX0_underTopped_24 : decode cX0_underTopped 24 = .ok (.invokevirtual 23, 3) := by decide +kernel
theorem dX0_underTopped_27 : decode cX0_underTopped 27 = .ok (.aload_n 0, 1) := by decide +kernel
theorem dX0_underTopped_28 : decode cX0_underTopped 28 = .ok (.getfield 15, 3) := by decide +kernel
theorem dX0_underTopped_31 : decode cX0_underTopped 31 = .ok (.iload_n 1, 1) := by decide +kernel
theorem dX0_underTopped_32 : decode cX0_underTopped 32 = .ok (.invokevirtual 29, 3) := by decide +kernel
theorem dX0_underTopped_35 : decode cX0_underTopped 35 = .ok (.aload_n 0, 1) := by decide +kernel
theorem dX0_underTopped_36 : decode cX0_underTopped 36 = .ok (.getfield 15, 3) := by decide +kernel
theorem dX0_underTopped_39 : decode cX0_underTopped 39 = .ok (.iload_n 1, 1) := by decide +kernel
theorem dX0_underTopped_40 : decode cX0_underTopped 40 = .ok (.invokevirtual 102, 3) := by decide +kernel
theorem dX0_underTopped_43 : decode cX0_underTopped 43 = .ok (.iload_n 2, 1) := by decide +kernel
theorem dX0_underTopped_44 : decode cX0_underTopped 44 = .ok (.invokestatic 121, 3) := by decide +kernel
theorem dX0_underTopped_47 : decode cX0_underTopped 47 = .ok (.invokevirtual 36, 3) := by decide +kernel
theorem dX0_underTopped_50 : decode cX0_underTopped 50 = .ok (.ireturn, 1) := by decide +kernel
set_option maxRecDepth 20000 in
theorem ggX1_init_X1_empty : GoodIn wsX1_init wsX1_empty := goodIn_r _ [12, 13, 14, 15, 16, 17, 18, 19, 20, 21] (by decide +kernel) (by decide +kernel)
set_option maxRecDepth 20000 in
theorem gX1_init_X1_empty : GoodIn wsX1_init (wsV RX1 21 RX1 yX1_empty wsX1_empty) := goodIn_app (goodIn_of _ (by decide +kernel)) ggX1_init_X1_empty
theorem dX1_init_0 : decode cX1_init 0 = .ok (.aload_n 0, 1) := by decide +kernel
theorem dX1_init_1 : decode cX1_init 1 = .ok (.invokespecial 3, 3) := by decide +kernel
theorem dX1_init_4 : decode cX1_init 4 = .ok (.aload_n 0, 1) := by decide +kernel
theorem dX1_init_5 : decode cX1_init 5 = .ok (.bipush 6, 2) := by decide +kernel
theorem dX1_init_7 : decode cX1_init 7 = .ok (.newarray .int, 2) := by decide +kernel
theorem dX1_init_9 : decode cX1_init 9 = .ok (.putfield 9, 3) := by decide +kernel
theorem dX1_init_12 : decode cX1_init 12 = .ok (.aload_n 0, 1) := by decide +kernel
theorem dX1_init_13 : decode cX1_init 13 = .ok (.bipush 6, 2) := by decide +kernel
theorem dX1_init_15 : decode cX1_init 15 = .ok (.newarray .int, 2) := by decide +kernel
theorem dX1_init_17 : decode cX1_init 17 = .ok (.putfield 15, 3) := by decide +kernel
theorem dX1_init_20 : decode cX1_init 20 = .ok (.aload_n 0, 1) := by decide +kernel
theorem dX1_init_21 : decode cX1_init 21 = .ok (.bipush 6, 2) := by decide +kernel
theorem dX1_init_23 : decode cX1_init 23 = .ok (.newarray .int, 2) := by decide +kernel
theorem dX1_init_25 : decode cX1_init 25 = .ok (.putfield 18, 3) := by decide +kernel
theorem dX1_init_28 : decode cX1_init 28 = .ok (.aload_n 0, 1) := by decide +kernel
theorem dX1_init_29 : decode cX1_init 29 = .ok (.invokevirtual 21, 3) := by decide +kernel
theorem dX1_init_32 : decode cX1_init 32 = .ok (.return_, 1) := by decide +kernel
theorem dX1_empty_0 : decode cX1_empty 0 = .ok (.aload_n 0, 1) := by decide +kernel
theorem dX1_empty_1 : decode cX1_empty 1 = .ok (.iconst 0, 1) := by decide +kernel
theorem dX1_empty_2 : decode cX1_empty 2 = .ok (.putfield 24, 3) := by decide +kernel
theorem dX1_empty_5 : decode cX1_empty 5 = .ok (.aload_n 0, 1) := by decide +kernel
theorem dX1_empty_6 : decode cX1_empty 6 = .ok (.iconst 3, 1) := by decide +kernel
theorem dX1_empty_7 : decode cX1_empty 7 = .ok (.putfield 28, 3) := by decide +kernel
theorem dX1_empty_10 : decode cX1_empty 10 = .ok (.aload_n 0, 1) := by decide +kernel
theorem dX1_empty_11 : decode cX1_empty 11 = .ok (.bipush 9, 2) := by decide +kernel
theorem dX1_empty_13 : decode cX1_empty 13 = .ok (.putfield 31, 3) := by decide +kernel
theorem dX1_empty_16 : decode cX1_empty 16 = .ok (.return_, 1) := by decide +kernel
theorem dX1_add_0 : decode cX1_add 0 = .ok (.aload_n 0, 1) := by decide +kernel
theorem dX1_add_1 : decode cX1_add 1 = .ok (.getfield 24, 3) := by decide +kernel
theorem dX1_add_4 : decode cX1_add 4 = .ok (.bipush 6, 2) := by decide +kernel
theorem dX1_add_6 : decode cX1_add 6 = .ok (.if_icmp .lt 4, 3) := by decide +kernel
theorem dX1_add_9 : decode cX1_add 9 = .ok (.return_, 1) := by decide +kernel
theorem dX1_add_10 : decode cX1_add 10 = .ok (.aload_n 0, 1) := by decide +kernel
theorem dX1_add_11 : decode cX1_add 11 = .ok (.getfield 9, 3) := by decide +kernel
theorem dX1_add_14 : decode cX1_add 14 = .ok (.aload_n 0, 1) := by decide +kernel
theorem dX1_add_15 : decode cX1_add 15 = .ok (.getfield 24, 3) := by decide +kernel
theorem dX1_add_18 : decode cX1_add 18 = .ok (.iload_n 1, 1) := by decide +kernel
theorem dX1_add_19 : decode cX1_add 19 = .ok (.iastore, 1) := by decide +kernel
theorem dX1_add_20 : decode cX1_add 20 = .ok (.aload_n 0, 1) := by decide +kernel
theorem dX1_add_21 : decode cX1_add 21 = .ok (.getfield 15, 3) := by decide +kernel
theorem dX1_add_24 : decode cX1_add 24 = .ok (.aload_n 0, 1) := by decide +kernel
theorem dX1_add_25 : decode cX1_add 25 = .ok (.getfield 24, 3) := by decide +kernel
theorem dX1_add_28 : decode cX1_add 28 = .ok (.iload_n 2, 1) := by decide +kernel
theorem dX1_add_29 : decode cX1_add 29 = .ok (.iastore, 1) := by decide +kernel
theorem dX1_add_30 : decode cX1_add 30 = .ok (.aload_n 0, 1) := by decide +kernel
theorem dX1_add_31 : decode cX1_add 31 = .ok (.getfield 18, 3) := by decide +kernel
theorem dX1_add_34 : decode cX1_add 34 = .ok (.aload_n 0, 1) := by decide +kernel
theorem dX1_add_35 : decode cX1_add 35 = .ok (.getfield 24, 3) := by decide +kernel
theorem dX1_add_38 : decode cX1_add 38 = .ok (.iload_n 3, 1) := by decide +kernel
theorem dX1_add_39 : decode cX1_add 39 = .ok (.iastore, 1) := by decide +kernel
theorem dX1_add_40 : decode cX1_add 40 = .ok (.aload_n 0, 1) := by decide +kernel
theorem dX1_add_41 : decode cX1_add 41 = .ok (.dup, 1) := by decide +kernel
theorem dX1_add_42 : decode cX1_add 42 = .ok (.getfield 24, 3) := by decide +kernel
theorem dX1_add_45 : decode cX1_add 45 = .ok (.iconst 1, 1) := by decide +kernel
theorem dX1_add_46 : decode cX1_add 46 = .ok (.iadd, 1) := by decide +kernel
theorem dX1_add_47 : decode cX1_add 47 = .ok (.putfield 24, 3) := by decide +kernel
theorem dX1_add_50 : decode cX1_add 50 = .ok (.return_, 1) := by decide +kernel
theorem dX1_become_0 : decode cX1_become 0 = .ok (.aload_n 1, 1) := by decide +kernel
theorem dX1_become_1 : decode cX1_become 1 = .ok (.getfield 9, 3) := by decide +kernel
theorem dX1_become_4 : decode cX1_become 4 = .ok (.iconst 0, 1) := by decide +kernel
theorem dX1_become_5 : decode cX1_become 5 = .ok (.aload_n 0, 1) := by decide +kernel
theorem dX1_become_6 : decode cX1_become 6 = .ok (.getfield 9, 3) := by decide +kernel
theorem dX1_become_9 : decode cX1_become 9 = .ok (.iconst 0, 1) := by decide +kernel
theorem dX1_become_10 : decode cX1_become 10 = .ok (.bipush 6, 2) := by decide +kernel
theorem dX1_become_12 : decode cX1_become 12 = .ok (.invokestatic 34, 3) := by decide +kernel
theorem dX1_become_15 : decode cX1_become 15 = .ok (.aload_n 1, 1) := by decide +kernel
theorem dX1_become_16 : decode cX1_become 16 = .ok (.getfield 15, 3) := by decide +kernel
theorem dX1_become_19 : decode cX1_become 19 = .ok (.iconst 0, 1) := by decide +kernel
theorem dX1_become_20 : decode cX1_become 20 = .ok (.aload_n 0, 1) := by decide +kernel
theorem dX1_become_21 : decode cX1_become 21 = .ok (.getfield 15, 3) := by decide +kernel
theorem dX1_become_24 : decode cX1_become 24 = .ok (.iconst 0, 1) := by decide +kernel
theorem dX1_become_25 : decode cX1_become 25 = .ok (.bipush 6, 2) := by decide +kernel
theorem dX1_become_27 : decode cX1_become 27 = .ok (.invokestatic 34, 3) := by decide +kernel
theorem dX1_become_30 : decode cX1_become 30 = .ok (.aload_n 1, 1) := by decide +kernel
theorem dX1_become_31 : decode cX1_become 31 = .ok (.getfield 18, 3) := by decide +kernel
theorem dX1_become_34 : decode cX1_become 34 = .ok (.iconst 0, 1) := by decide +kernel
theorem dX1_become_35 : decode cX1_become 35 = .ok (.aload_n 0, 1) := by decide +kernel
theorem dX1_become_36 : decode cX1_become 36 = .ok (.getfield 18, 3) := by decide +kernel
theorem dX1_become_39 : decode cX1_become 39 = .ok (.iconst 0, 1) := by decide +kernel
theorem dX1_become_40 : decode cX1_become 40 = .ok (.bipush 6, 2) := by decide +kernel
theorem dX1_become_42 : decode cX1_become 42 = .ok (.invokestatic 34, 3) := by decide +kernel
theorem dX1_become_45 : decode cX1_become 45 = .ok (.aload_n 0, 1) := by decide +kernel
theorem dX1_become_46 : decode cX1_become 46 = .ok (.aload_n 1, 1) := by decide +kernel
theorem dX1_become_47 : decode cX1_become 47 = .ok (.getfield 24, 3) := by decide +kernel
theorem dX1_become_50 : decode cX1_become 50 = .ok (.putfield 24, 3) := by decide +kernel
theorem dX1_become_53 : decode cX1_become 53 = .ok (.aload_n 0, 1) := by decide +kernel
theorem dX1_become_54 : decode cX1_become 54 = .ok (.aload_n 1, 1) := by decide +kernel
theorem dX1_become_55 : decode cX1_become 55 = .ok (.getfield 28, 3) := by decide +kernel
theorem dX1_become_58 : decode cX1_become 58 = .ok (.putfield 28, 3) := by decide +kernel
theorem dX1_become_61 : decode cX1_become 61 = .ok (.aload_n 0, 1) := by decide +kernel
theorem dX1_become_62 : decode cX1_become 62 = .ok (.aload_n 1, 1) := by decide +kernel
theorem dX1_become_63 : decode cX1_become 63 = .ok (.getfield 31, 3) := by decide +kernel
theorem dX1_become_66 : decode cX1_become 66 = .ok (.putfield 31, 3) := by decide +kernel
theorem dX1_become_69 : decode cX1_become 69 = .ok (.return_, 1) := by decide +kernel
theorem dX1_all_0 : decode cX1_all 0 = .ok (.iconst 1, 1) := by decide +kernel
theorem dX1_all_1 : decode cX1_all 1 = .ok (.aload_n 0, 1) := by decide +kernel
theorem dX1_all_2 : decode cX1_all 2 = .ok (.getfield 24, 3) := by decide +kernel
theorem dX1_all_5 : decode cX1_all 5 = .ok (.ishl, 1) := by decide +kernel
theorem dX1_all_6 : decode cX1_all 6 = .ok (.iconst 1, 1) := by decide +kernel
theorem dX1_all_7 : decode cX1_all 7 = .ok (.isub, 1) := by decide +kernel
theorem dX1_all_8 : decode cX1_all 8 = .ok (.ireturn, 1) := by decide +kernel
theorem dX1_reaches_0 : decode cX1_reaches 0 = .ok (.iload_n 1, 1) := by decide +kernel
theorem dX1_reaches_1 : decode cX1_reaches 1 = .ok (.aload_n 0, 1) := by decide +kernel
theorem dX1_reaches_2 : decode cX1_reaches 2 = .ok (.getfield 9, 3) := by decide +kernel
theorem dX1_reaches_5 : decode cX1_reaches 5 = .ok (.iload_n 3, 1) := by decide +kernel
theorem dX1_reaches_6 : decode cX1_reaches 6 = .ok (.iaload, 1) := by decide +kernel
theorem dX1_reaches_7 : decode cX1_reaches 7 = .ok (.isub, 1) := by decide +kernel
theorem dX1_reaches_8 : decode cX1_reaches 8 = .ok (.istore 4, 2) := by decide +kernel
theorem dX1_reaches_10 : decode cX1_reaches 10 = .ok (.iload_n 2, 1) := by decide +kernel
theorem dX1_reaches_11 : decode cX1_reaches 11 = .ok (.aload_n 0, 1) := by decide +kernel
theorem dX1_reaches_12 : decode cX1_reaches 12 = .ok (.getfield 15, 3) := by decide +kernel
theorem dX1_reaches_15 : decode cX1_reaches 15 = .ok (.iload_n 3, 1) := by decide +kernel
theorem dX1_reaches_16 : decode cX1_reaches 16 = .ok (.iaload, 1) := by decide +kernel
theorem dX1_reaches_17 : decode cX1_reaches 17 = .ok (.isub, 1) := by decide +kernel
theorem dX1_reaches_18 : decode cX1_reaches 18 = .ok (.istore 5, 2) := by decide +kernel
theorem dX1_reaches_20 : decode cX1_reaches 20 = .ok (.iload 4, 2) := by decide +kernel
theorem dX1_reaches_22 : decode cX1_reaches 22 = .ok (.iload 4, 2) := by decide +kernel
theorem dX1_reaches_24 : decode cX1_reaches 24 = .ok (.imul, 1) := by decide +kernel
theorem dX1_reaches_25 : decode cX1_reaches 25 = .ok (.iload 5, 2) := by decide +kernel
theorem dX1_reaches_27 : decode cX1_reaches 27 = .ok (.iload 5, 2) := by decide +kernel
theorem dX1_reaches_29 : decode cX1_reaches 29 = .ok (.imul, 1) := by decide +kernel
theorem dX1_reaches_30 : decode cX1_reaches 30 = .ok (.iadd, 1) := by decide +kernel
theorem dX1_reaches_31 : decode cX1_reaches 31 = .ok (.aload_n 0, 1) := by decide +kernel
theorem dX1_reaches_32 : decode cX1_reaches 32 = .ok (.getfield 28, 3) := by decide +kernel
theorem dX1_reaches_35 : decode cX1_reaches 35 = .ok (.aload_n 0, 1) := by decide +kernel
theorem dX1_reaches_36 : decode cX1_reaches 36 = .ok (.getfield 28, 3) := by decide +kernel
theorem dX1_reaches_39 : decode cX1_reaches 39 = .ok (.imul, 1) := by decide +kernel
theorem dX1_reaches_40 : decode cX1_reaches 40 = .ok (.if_icmp .gt 7, 3) := by decide +kernel
theorem dX1_reaches_43 : decode cX1_reaches 43 = .ok (.iconst 1, 1) := by decide +kernel
theorem dX1_reaches_44 : decode cX1_reaches 44 = .ok (.goto 4, 3) := by decide +kernel
theorem dX1_reaches_47 : decode cX1_reaches 47 = .ok (.iconst 0, 1) := by decide +kernel
theorem dX1_reaches_48 : decode cX1_reaches 48 = .ok (.ireturn, 1) := by decide +kernel
set_option maxRecDepth 20000 in
theorem ggX1_below_X1_reaches : GoodIn wsX1_below wsX1_reaches := goodIn_r _ [7, 8, 9, 10, 11, 12, 13, 14, 15, 16] (by decide +kernel) (by decide +kernel)
set_option maxRecDepth 20000 in
theorem gX1_below_X1_reaches : GoodIn wsX1_below (wsV RX1 40 RX1 yX1_reaches wsX1_reaches) := goodIn_app (goodIn_of _ (by decide +kernel)) ggX1_below_X1_reaches
theorem dX1_below_0 : decode cX1_below 0 = .ok (.iconst 0, 1) := by decide +kernel
theorem dX1_below_1 : decode cX1_below 1 = .ok (.istore 4, 2) := by decide +kernel
theorem dX1_below_3 : decode cX1_below 3 = .ok (.iconst 0, 1) := by decide +kernel
theorem dX1_below_4 : decode cX1_below 4 = .ok (.istore 5, 2) := by decide +kernel
theorem dX1_below_6 : decode cX1_below 6 = .ok (.iload 5, 2) := by decide +kernel
theorem dX1_below_8 : decode cX1_below 8 = .ok (.aload_n 0, 1) := by decide +kernel
theorem dX1_below_9 : decode cX1_below 9 = .ok (.getfield 24, 3) := by decide +kernel
theorem dX1_below_12 : decode cX1_below 12 = .ok (.if_icmp .ge 40, 3) := by decide +kernel
theorem dX1_below_15 : decode cX1_below 15 = .ok (.iload_n 3, 1) := by decide +kernel
theorem dX1_below_16 : decode cX1_below 16 = .ok (.aload_n 0, 1) := by decide +kernel
theorem dX1_below_17 : decode cX1_below 17 = .ok (.getfield 18, 3) := by decide +kernel
theorem dX1_below_20 : decode cX1_below 20 = .ok (.iload 5, 2) := by decide +kernel
theorem dX1_below_22 : decode cX1_below 22 = .ok (.iaload, 1) := by decide +kernel
theorem dX1_below_23 : decode cX1_below 23 = .ok (.if_icmp .le 23, 3) := by decide +kernel
theorem dX1_below_26 : decode cX1_below 26 = .ok (.aload_n 0, 1) := by decide +kernel
theorem dX1_below_27 : decode cX1_below 27 = .ok (.iload_n 1, 1) := by decide +kernel
theorem dX1_below_28 : decode cX1_below 28 = .ok (.iload_n 2, 1) := by decide +kernel
theorem dX1_below_29 : decode cX1_below 29 = .ok (.iload 5, 2) := by decide +kernel
theorem dX1_below_31 : decode cX1_below 31 = .ok (.invokevirtual 40, 3) := by decide +kernel
theorem dX1_below_34 : decode cX1_below 34 = .ok (.ifCond .eq 12, 3) := by decide +kernel
theorem dX1_below_37 : decode cX1_below 37 = .ok (.iload 4, 2) := by decide +kernel
theorem dX1_below_39 : decode cX1_below 39 = .ok (.iconst 1, 1) := by decide +kernel
theorem dX1_below_40 : decode cX1_below 40 = .ok (.iload 5, 2) := by decide +kernel
theorem dX1_below_42 : decode cX1_below 42 = .ok (.ishl, 1) := by decide +kernel
theorem dX1_below_43 : decode cX1_below 43 = .ok (.ior, 1) := by decide +kernel
theorem dX1_below_44 : decode cX1_below 44 = .ok (.istore 4, 2) := by decide +kernel
theorem dX1_below_46 : decode cX1_below 46 = .ok (.iinc 5 1, 3) := by decide +kernel
theorem dX1_below_49 : decode cX1_below 49 = .ok (.goto (-43), 3) := by decide +kernel
theorem dX1_below_52 : decode cX1_below 52 = .ok (.iload 4, 2) := by decide +kernel
theorem dX1_below_54 : decode cX1_below 54 = .ok (.ireturn, 1) := by decide +kernel
set_option maxRecDepth 20000 in
theorem ggX2_init_X1_init : GoodIn wsX2_init wsX1_init := goodIn_r _ [14, 15, 2, 3, 4, 16, 17, 18, 19, 20, 21, 8, 22, 23, 24, 25, 37, 38, 39, 40, 41, 42] (by decide +kernel) (by decide +kernel)
set_option maxRecDepth 20000 in
theorem gX2_init_X1_init : GoodIn wsX2_init (wsX1_init) := ggX2_init_X1_init
theorem dX2_init_0 : decode cX2_init 0 = .ok (.aload_n 0, 1) := by decide +kernel
theorem dX2_init_1 : decode cX2_init 1 = .ok (.invokespecial 3, 3) := by decide +kernel
theorem dX2_init_4 : decode cX2_init 4 = .ok (.aload_n 0, 1) := by decide +kernel
theorem dX2_init_5 : decode cX2_init 5 = .ok (.sipush 150, 3) := by decide +kernel
theorem dX2_init_8 : decode cX2_init 8 = .ok (.newarray .int, 2) := by decide +kernel
theorem dX2_init_10 : decode cX2_init 10 = .ok (.putfield 9, 3) := by decide +kernel
theorem dX2_init_13 : decode cX2_init 13 = .ok (.aload_n 0, 1) := by decide +kernel
theorem dX2_init_14 : decode cX2_init 14 = .ok (.new 15, 3) := by decide +kernel
theorem dX2_init_17 : decode cX2_init 17 = .ok (.dup, 1) := by decide +kernel
theorem dX2_init_18 : decode cX2_init 18 = .ok (.invokespecial 17, 3) := by decide +kernel
theorem dX2_init_21 : decode cX2_init 21 = .ok (.putfield 18, 3) := by decide +kernel
theorem dX2_init_24 : decode cX2_init 24 = .ok (.aload_n 0, 1) := by decide +kernel
theorem dX2_init_25 : decode cX2_init 25 = .ok (.bipush 43, 2) := by decide +kernel
theorem dX2_init_27 : decode cX2_init 27 = .ok (.newarray .int, 2) := by decide +kernel
theorem dX2_init_29 : decode cX2_init 29 = .ok (.putfield 24, 3) := by decide +kernel
theorem dX2_init_32 : decode cX2_init 32 = .ok (.aload_n 0, 1) := by decide +kernel
theorem dX2_init_33 : decode cX2_init 33 = .ok (.iconst 4, 1) := by decide +kernel
theorem dX2_init_34 : decode cX2_init 34 = .ok (.newarray .int, 2) := by decide +kernel
theorem dX2_init_36 : decode cX2_init 36 = .ok (.putfield 27, 3) := by decide +kernel
theorem dX2_init_39 : decode cX2_init 39 = .ok (.return_, 1) := by decide +kernel
theorem dX2_append_0 : decode cX2_append 0 = .ok (.aload_n 0, 1) := by decide +kernel
theorem dX2_append_1 : decode cX2_append 1 = .ok (.getfield 30, 3) := by decide +kernel
theorem dX2_append_4 : decode cX2_append 4 = .ok (.sipush 150, 3) := by decide +kernel
theorem dX2_append_7 : decode cX2_append 7 = .ok (.if_icmp .lt 5, 3) := by decide +kernel
theorem dX2_append_10 : decode cX2_append 10 = .ok (.iconst 0, 1) := by decide +kernel
theorem dX2_append_11 : decode cX2_append 11 = .ok (.ireturn, 1) := by decide +kernel
theorem dX2_append_12 : decode cX2_append 12 = .ok (.aload_n 0, 1) := by decide +kernel
theorem dX2_append_13 : decode cX2_append 13 = .ok (.getfield 9, 3) := by decide +kernel
theorem dX2_append_16 : decode cX2_append 16 = .ok (.aload_n 0, 1) := by decide +kernel
theorem dX2_append_17 : decode cX2_append 17 = .ok (.getfield 30, 3) := by decide +kernel
theorem dX2_append_20 : decode cX2_append 20 = .ok (.iload_n 1, 1) := by decide +kernel
theorem dX2_append_21 : decode cX2_append 21 = .ok (.iastore, 1) := by decide +kernel
theorem dX2_append_22 : decode cX2_append 22 = .ok (.aload_n 0, 1) := by decide +kernel
theorem dX2_append_23 : decode cX2_append 23 = .ok (.dup, 1) := by decide +kernel
theorem dX2_append_24 : decode cX2_append 24 = .ok (.getfield 30, 3) := by decide +kernel
theorem dX2_append_27 : decode cX2_append 27 = .ok (.iconst 1, 1) := by decide +kernel
theorem dX2_append_28 : decode cX2_append 28 = .ok (.iadd, 1) := by decide +kernel
theorem dX2_append_29 : decode cX2_append 29 = .ok (.putfield 30, 3) := by decide +kernel
theorem dX2_append_32 : decode cX2_append 32 = .ok (.iconst 1, 1) := by decide +kernel
theorem dX2_append_33 : decode cX2_append 33 = .ok (.ireturn, 1) := by decide +kernel
set_option maxRecDepth 20000 in
theorem ggX2_read_X2_begin : GoodIn wsX2_read wsX2_begin := goodIn_r _ [8, 9, 10, 11, 12, 13, 14, 15, 16, 17, 18, 19, 20, 21, 80, 81, 82, 83, 84, 85, 86, 87, 88, 89, 90, 91, 92, 93, 94, 95, 96] (by decide +kernel) (by decide +kernel)
set_option maxRecDepth 20000 in
theorem gX2_read_X2_begin : GoodIn wsX2_read (wsV RX2 34 RX2 yX2_begin wsX2_begin) := goodIn_app (goodIn_of _ (by decide +kernel)) ggX2_read_X2_begin
set_option maxRecDepth 20000 in
theorem ggX2_read_X2_toToken : GoodIn wsX2_read wsX2_toToken := goodIn_r _ [25, 13, 3, 26, 2, 27, 1, 28, 29, 30, 31, 32, 33, 7, 34, 35, 36, 37, 38, 80, 81, 82, 83, 84, 85, 86, 87, 88, 89, 90] (by decide +kernel) (by decide +kernel)
set_option maxRecDepth 20000 in
theorem gX2_read_X2_toToken : GoodIn wsX2_read (wsV RX2 37 RX2 yX2_toToken wsX2_toToken) := goodIn_app (goodIn_of _ (by decide +kernel)) ggX2_read_X2_toToken
set_option maxRecDepth 20000 in
theorem ggX2_read_X2_readItem : GoodIn wsX2_read wsX2_readItem := goodIn_r _ [42, 1, 27, 43, 44, 45, 7, 46, 10, 47, 48, 49, 50, 51, 52, 53, 22, 23, 24, 25, 13, 3, 26, 2, 28, 29, 30, 31, 32, 33, 34, 35, 36, 37, 38, 54, 55, 56, 57, 58, 59, 60, 61, 9, 62, 63, 64, 65, 17, 66, 19, 67, 68, 69, 70, 71, 72, 73, 11, 74, 75, 76, 77, 78, 12, 79, 80, 81, 82, 83, 84, 85, 86, 87, 88, 89, 90, 91, 92, 93, 94, 95, 96] (by decide +kernel) (by decide +kernel)
set_option maxRecDepth 20000 in
theorem gX2_read_X2_readItem : GoodIn wsX2_read (wsV RX2 43 RX2 yX2_readItem wsX2_readItem) := goodIn_app (goodIn_of _ (by decide +kernel)) ggX2_read_X2_readItem
theorem dX2_read_0 : decode cX2_read 0 = .ok (.aload_n 0, 1) := by decide +kernel
theorem dX2_read_1 : decode cX2_read 1 = .ok (.invokevirtual 34, 3) := by decide +kernel
theorem dX2_read_4 : decode cX2_read 4 = .ok (.iconst 0, 1) := by decide +kernel
theorem dX2_read_5 : decode cX2_read 5 = .ok (.istore_n 1, 1) := by decide +kernel
theorem dX2_read_6 : decode cX2_read 6 = .ok (.iload_n 1, 1) := by decide +kernel
theorem dX2_read_7 : decode cX2_read 7 = .ok (.sipush 150, 3) := by decide +kernel
theorem dX2_read_10 : decode cX2_read 10 = .ok (.if_icmp .ge 37, 3) := by decide +kernel
theorem dX2_read_13 : decode cX2_read 13 = .ok (.aload_n 0, 1) := by decide +kernel
theorem dX2_read_14 : decode cX2_read 14 = .ok (.invokevirtual 37, 3) := by decide +kernel
theorem dX2_read_17 : decode cX2_read 17 = .ok (.aload_n 0, 1) := by decide +kernel
theorem dX2_read_18 : decode cX2_read 18 = .ok (.getfield 40, 3) := by decide +kernel
theorem dX2_read_21 : decode cX2_read 21 = .ok (.ifCond .ne 5, 3) := by decide +kernel
theorem dX2_read_24 : decode cX2_read 24 = .ok (.iload_n 1, 1) := by decide +kernel
theorem dX2_read_25 : decode cX2_read 25 = .ok (.ireturn, 1) := by decide +kernel
theorem dX2_read_26 : decode cX2_read 26 = .ok (.aload_n 0, 1) := by decide +kernel
theorem dX2_read_27 : decode cX2_read 27 = .ok (.invokevirtual 43, 3) := by decide +kernel
theorem dX2_read_30 : decode cX2_read 30 = .ok (.ifCond .ne 11, 3) := by decide +kernel
theorem dX2_read_33 : decode cX2_read 33 = .ok (.bipush (-10), 2) := by decide +kernel
theorem dX2_read_35 : decode cX2_read 35 = .ok (.aload_n 0, 1) := by decide +kernel
theorem dX2_read_36 : decode cX2_read 36 = .ok (.getfield 47, 3) := by decide +kernel
theorem dX2_read_39 : decode cX2_read 39 = .ok (.isub, 1) := by decide +kernel
theorem dX2_read_40 : decode cX2_read 40 = .ok (.ireturn, 1) := by decide +kernel
theorem dX2_read_41 : decode cX2_read 41 = .ok (.iinc 1 1, 3) := by decide +kernel
theorem dX2_read_44 : decode cX2_read 44 = .ok (.goto (-38), 3) := by decide +kernel
theorem dX2_read_47 : decode cX2_read 47 = .ok (.bipush (-10), 2) := by decide +kernel
theorem dX2_read_49 : decode cX2_read 49 = .ok (.aload_n 0, 1) := by decide +kernel
theorem dX2_read_50 : decode cX2_read 50 = .ok (.getfield 30, 3) := by decide +kernel
theorem dX2_read_53 : decode cX2_read 53 = .ok (.isub, 1) := by decide +kernel
theorem dX2_read_54 : decode cX2_read 54 = .ok (.ireturn, 1) := by decide +kernel
set_option maxRecDepth 20000 in
theorem ggX2_begin_X1_empty : GoodIn wsX2_begin wsX1_empty := goodIn_r _ [10, 11, 12, 13, 25, 26, 27, 28, 29, 30] (by decide +kernel) (by decide +kernel)
set_option maxRecDepth 20000 in
theorem gX2_begin_X1_empty : GoodIn wsX2_begin (wsV RX2 50 RX1 yX1_empty wsX1_empty) := goodIn_app (goodIn_of _ (by decide +kernel)) ggX2_begin_X1_empty
theorem dX2_begin_0 : decode cX2_begin 0 = .ok (.aload_n 0, 1) := by decide +kernel
theorem dX2_begin_1 : decode cX2_begin 1 = .ok (.getfield 18, 3) := by decide +kernel
theorem dX2_begin_4 : decode cX2_begin 4 = .ok (.invokevirtual 50, 3) := by decide +kernel
theorem dX2_begin_7 : decode cX2_begin 7 = .ok (.iconst 0, 1) := by decide +kernel
theorem dX2_begin_8 : decode cX2_begin 8 = .ok (.istore_n 1, 1) := by decide +kernel
theorem dX2_begin_9 : decode cX2_begin 9 = .ok (.iload_n 1, 1) := by decide +kernel
theorem dX2_begin_10 : decode cX2_begin 10 = .ok (.bipush 43, 2) := by decide +kernel
theorem dX2_begin_12 : decode cX2_begin 12 = .ok (.if_icmp .ge 16, 3) := by decide +kernel
theorem dX2_begin_15 : decode cX2_begin 15 = .ok (.aload_n 0, 1) := by decide +kernel
theorem dX2_begin_16 : decode cX2_begin 16 = .ok (.getfield 24, 3) := by decide +kernel
theorem dX2_begin_19 : decode cX2_begin 19 = .ok (.iload_n 1, 1) := by decide +kernel
theorem dX2_begin_20 : decode cX2_begin 20 = .ok (.iconst 0, 1) := by decide +kernel
theorem dX2_begin_21 : decode cX2_begin 21 = .ok (.iastore, 1) := by decide +kernel
theorem dX2_begin_22 : decode cX2_begin 22 = .ok (.iinc 1 1, 3) := by decide +kernel
theorem dX2_begin_25 : decode cX2_begin 25 = .ok (.goto (-16), 3) := by decide +kernel
theorem dX2_begin_28 : decode cX2_begin 28 = .ok (.aload_n 0, 1) := by decide +kernel
theorem dX2_begin_29 : decode cX2_begin 29 = .ok (.iconst 0, 1) := by decide +kernel
theorem dX2_begin_30 : decode cX2_begin 30 = .ok (.putfield 53, 3) := by decide +kernel
theorem dX2_begin_33 : decode cX2_begin 33 = .ok (.aload_n 0, 1) := by decide +kernel
theorem dX2_begin_34 : decode cX2_begin 34 = .ok (.iconst 0, 1) := by decide +kernel
theorem dX2_begin_35 : decode cX2_begin 35 = .ok (.putfield 57, 3) := by decide +kernel
theorem dX2_begin_38 : decode cX2_begin 38 = .ok (.aload_n 0, 1) := by decide +kernel
theorem dX2_begin_39 : decode cX2_begin 39 = .ok (.iconst 0, 1) := by decide +kernel
theorem dX2_begin_40 : decode cX2_begin 40 = .ok (.putfield 60, 3) := by decide +kernel
theorem dX2_begin_43 : decode cX2_begin 43 = .ok (.return_, 1) := by decide +kernel
set_option maxRecDepth 20000 in
theorem ggX2_readItem_X2_readTree : GoodIn wsX2_readItem wsX2_readTree := goodIn_r _ [7, 8, 9, 10, 11, 12, 6, 13, 1, 2, 14, 15, 16, 17, 18, 19, 20, 21, 22, 23, 24, 25, 26, 27, 28, 29, 30, 31, 32, 33, 34, 35, 36, 37, 38, 66, 67, 68, 69, 70, 71, 72, 73, 74, 75, 76] (by decide +kernel) (by decide +kernel)
set_option maxRecDepth 20000 in
theorem gX2_readItem_X2_readTree : GoodIn wsX2_readItem (wsV RX2 66 RX2 yX2_readTree wsX2_readTree) := goodIn_app (goodIn_of _ (by decide +kernel)) ggX2_readItem_X2_readTree
set_option maxRecDepth 20000 in
theorem ggX2_readItem_X2_readHouse : GoodIn wsX2_readItem wsX2_readHouse := goodIn_r _ [42, 43, 44, 9, 10, 11, 12, 6, 13, 1, 2, 14, 15, 16, 17, 18, 19, 20, 21, 22, 23, 24, 25, 26, 27, 28, 29, 30, 31, 32, 33, 34, 45, 46, 47, 48, 49, 50, 51, 52, 53, 66, 67, 68, 69, 70, 71, 72, 73, 74, 75, 76, 77, 78, 79, 80, 81, 82] (by decide +kernel) (by decide +kernel)
set_option maxRecDepth 20000 in
theorem gX2_readItem_X2_readHouse : GoodIn wsX2_readItem (wsV RX2 69 RX2 yX2_readHouse wsX2_readHouse) := goodIn_app (goodIn_of _ (by decide +kernel)) ggX2_readItem_X2_readHouse
set_option maxRecDepth 20000 in
theorem ggX2_readItem_X2_readReach : GoodIn wsX2_readItem wsX2_readReach := goodIn_r _ [57, 58, 43, 9, 59, 10, 11, 12, 6, 13, 1, 2, 14, 15, 16, 17, 18, 19, 20, 21, 22, 23, 24, 25, 26, 27, 28, 29, 30, 31, 32, 33, 34, 66, 67, 68, 69, 70, 71, 72, 73, 74, 75, 76, 77, 78, 79, 80, 81, 82] (by decide +kernel) (by decide +kernel)
set_option maxRecDepth 20000 in
theorem gX2_readItem_X2_readReach : GoodIn wsX2_readItem (wsV RX2 72 RX2 yX2_readReach wsX2_readReach) := goodIn_app (goodIn_of _ (by decide +kernel)) ggX2_readItem_X2_readReach
set_option maxRecDepth 20000 in
theorem ggX2_readItem_X2_readUsed : GoodIn wsX2_readItem wsX2_readUsed := goodIn_r _ [63, 64, 43, 9, 65, 10, 11, 12, 6, 13, 1, 2, 14, 15, 16, 17, 18, 19, 20, 21, 22, 23, 24, 25, 26, 27, 28, 29, 30, 31, 32, 33, 34, 66, 67, 68, 69, 70, 71, 72, 73, 74, 75, 76, 77, 78, 79, 80, 81, 82] (by decide +kernel) (by decide +kernel)
set_option maxRecDepth 20000 in
theorem gX2_readItem_X2_readUsed : GoodIn wsX2_readItem (wsV RX2 75 RX2 yX2_readUsed wsX2_readUsed) := goodIn_app (goodIn_of _ (by decide +kernel)) ggX2_readItem_X2_readUsed
set_option maxRecDepth 20000 in
theorem ggX2_readItem_X2_toToken : GoodIn wsX2_readItem wsX2_toToken := goodIn_r _ [19, 20, 21, 22, 23, 2, 1, 24, 25, 26, 27, 28, 29, 6, 30, 31, 32, 33, 34, 66, 67, 68, 69, 70, 71, 72, 73, 74, 75, 76] (by decide +kernel) (by decide +kernel)
set_option maxRecDepth 20000 in
theorem gX2_readItem_X2_toToken : GoodIn wsX2_readItem (wsV RX2 37 RX2 yX2_toToken wsX2_toToken) := goodIn_app (goodIn_of _ (by decide +kernel)) ggX2_readItem_X2_toToken
theorem dX2_readItem_0 : decode cX2_readItem 0 = .ok (.aload_n 0, 1) := by decide +kernel
theorem dX2_readItem_1 : decode cX2_readItem 1 = .ok (.getfield 40, 3) := by decide +kernel
theorem dX2_readItem_4 : decode cX2_readItem 4 = .ok (.iconst 1, 1) := by decide +kernel
theorem dX2_readItem_5 : decode cX2_readItem 5 = .ok (.if_icmp .eq 5, 3) := by decide +kernel
theorem dX2_readItem_8 : decode cX2_readItem 8 = .ok (.iconst 0, 1) := by decide +kernel
theorem dX2_readItem_9 : decode cX2_readItem 9 = .ok (.ireturn, 1) := by decide +kernel
theorem dX2_readItem_10 : decode cX2_readItem 10 = .ok (.aload_n 0, 1) := by decide +kernel
theorem dX2_readItem_11 : decode cX2_readItem 11 = .ok (.getfield 63, 3) := by decide +kernel
theorem dX2_readItem_14 : decode cX2_readItem 14 = .ok (.lookupswitch 74 #[(104, 50), (114, 58), (116, 42), (117, 66)], 42) := by decide +kernel
theorem dX2_readItem_56 : decode cX2_readItem 56 = .ok (.aload_n 0, 1) := by decide +kernel
theorem dX2_readItem_57 : decode cX2_readItem 57 = .ok (.invokevirtual 66, 3) := by decide +kernel
theorem dX2_readItem_60 : decode cX2_readItem 60 = .ok (.istore_n 1, 1) := by decide +kernel
theorem dX2_readItem_61 : decode cX2_readItem 61 = .ok (.goto 29, 3) := by decide +kernel
theorem dX2_readItem_64 : decode cX2_readItem 64 = .ok (.aload_n 0, 1) := by decide +kernel
theorem dX2_readItem_65 : decode cX2_readItem 65 = .ok (.invokevirtual 69, 3) := by decide +kernel
theorem dX2_readItem_68 : decode cX2_readItem 68 = .ok (.istore_n 1, 1) := by decide +kernel
theorem dX2_readItem_69 : decode cX2_readItem 69 = .ok (.goto 21, 3) := by decide +kernel
theorem dX2_readItem_72 : decode cX2_readItem 72 = .ok (.aload_n 0, 1) := by decide +kernel
theorem dX2_readItem_73 : decode cX2_readItem 73 = .ok (.invokevirtual 72, 3) := by decide +kernel
theorem dX2_readItem_76 : decode cX2_readItem 76 = .ok (.istore_n 1, 1) := by decide +kernel
theorem dX2_readItem_77 : decode cX2_readItem 77 = .ok (.goto 13, 3) := by decide +kernel
theorem dX2_readItem_80 : decode cX2_readItem 80 = .ok (.aload_n 0, 1) := by decide +kernel
theorem dX2_readItem_81 : decode cX2_readItem 81 = .ok (.invokevirtual 75, 3) := by decide +kernel
theorem dX2_readItem_84 : decode cX2_readItem 84 = .ok (.istore_n 1, 1) := by decide +kernel
theorem dX2_readItem_85 : decode cX2_readItem 85 = .ok (.goto 5, 3) := by decide +kernel
theorem dX2_readItem_88 : decode cX2_readItem 88 = .ok (.iconst 0, 1) := by decide +kernel
theorem dX2_readItem_89 : decode cX2_readItem 89 = .ok (.istore_n 1, 1) := by decide +kernel
theorem dX2_readItem_90 : decode cX2_readItem 90 = .ok (.iload_n 1, 1) := by decide +kernel
theorem dX2_readItem_91 : decode cX2_readItem 91 = .ok (.ifCond .ne 5, 3) := by decide +kernel
theorem dX2_readItem_94 : decode cX2_readItem 94 = .ok (.iconst 0, 1) := by decide +kernel
theorem dX2_readItem_95 : decode cX2_readItem 95 = .ok (.ireturn, 1) := by decide +kernel
theorem dX2_readItem_96 : decode cX2_readItem 96 = .ok (.aload_n 0, 1) := by decide +kernel
theorem dX2_readItem_97 : decode cX2_readItem 97 = .ok (.invokevirtual 37, 3) := by decide +kernel
theorem dX2_readItem_100 : decode cX2_readItem 100 = .ok (.aload_n 0, 1) := by decide +kernel
theorem dX2_readItem_101 : decode cX2_readItem 101 = .ok (.getfield 40, 3) := by decide +kernel
theorem dX2_readItem_104 : decode cX2_readItem 104 = .ok (.iconst 3, 1) := by decide +kernel
theorem dX2_readItem_105 : decode cX2_readItem 105 = .ok (.if_icmp .ne 7, 3) := by decide +kernel
theorem dX2_readItem_108 : decode cX2_readItem 108 = .ok (.iconst 1, 1) := by decide +kernel
theorem dX2_readItem_109 : decode cX2_readItem 109 = .ok (.goto 4, 3) := by decide +kernel
theorem dX2_readItem_112 : decode cX2_readItem 112 = .ok (.iconst 0, 1) := by decide +kernel
theorem dX2_readItem_113 : decode cX2_readItem 113 = .ok (.ireturn, 1) := by decide +kernel
set_option maxRecDepth 20000 in
theorem ggX2_readTree_X2_readNumbers : GoodIn wsX2_readTree wsX2_readNumbers := goodIn_r _ [7, 8, 9, 10, 11, 2, 12, 13, 14, 6, 15, 16, 17, 18, 19, 20, 21, 22, 23, 24, 25, 26, 27, 28, 29, 30, 35, 36, 37, 38, 39, 40, 41, 42, 43, 44, 45] (by decide +kernel) (by decide +kernel)
set_option maxRecDepth 20000 in
theorem gX2_readTree_X2_readNumbers : GoodIn wsX2_readTree (wsV RX2 78 RX2 yX2_readNumbers wsX2_readNumbers) := goodIn_app (goodIn_of _ (by decide +kernel)) ggX2_readTree_X2_readNumbers
set_option maxRecDepth 20000 in
theorem ggX2_readTree_X3_put : GoodIn wsX2_readTree wsX3_put := goodIn_r _ [34] (by decide +kernel) (by decide +kernel)
set_option maxRecDepth 20000 in
theorem gX2_readTree_X3_put : GoodIn wsX2_readTree (va_wsS RX2 82 yX3_put wsX3_put) := goodIn_app (goodIn_of _ (by decide +kernel)) ggX2_readTree_X3_put
theorem dX2_readTree_0 : decode cX2_readTree 0 = .ok (.aload_n 0, 1) := by decide +kernel
theorem dX2_readTree_1 : decode cX2_readTree 1 = .ok (.getfield 24, 3) := by decide +kernel
theorem dX2_readTree_4 : decode cX2_readTree 4 = .ok (.iconst 1, 1) := by decide +kernel
theorem dX2_readTree_5 : decode cX2_readTree 5 = .ok (.iaload, 1) := by decide +kernel
theorem dX2_readTree_6 : decode cX2_readTree 6 = .ok (.bipush 7, 2) := by decide +kernel
theorem dX2_readTree_8 : decode cX2_readTree 8 = .ok (.if_icmp .ge 12, 3) := by decide +kernel
theorem dX2_readTree_11 : decode cX2_readTree 11 = .ok (.aload_n 0, 1) := by decide +kernel
theorem dX2_readTree_12 : decode cX2_readTree 12 = .ok (.iconst 0, 1) := by decide +kernel
theorem dX2_readTree_13 : decode cX2_readTree 13 = .ok (.iconst 4, 1) := by decide +kernel
theorem dX2_readTree_14 : decode cX2_readTree 14 = .ok (.invokevirtual 78, 3) := by decide +kernel
theorem dX2_readTree_17 : decode cX2_readTree 17 = .ok (.ifCond .ne 5, 3) := by decide +kernel
theorem dX2_readTree_20 : decode cX2_readTree 20 = .ok (.iconst 0, 1) := by decide +kernel
theorem dX2_readTree_21 : decode cX2_readTree 21 = .ok (.ireturn, 1) := by decide +kernel
theorem dX2_readTree_22 : decode cX2_readTree 22 = .ok (.aload_n 0, 1) := by decide +kernel
theorem dX2_readTree_23 : decode cX2_readTree 23 = .ok (.getfield 24, 3) := by decide +kernel
theorem dX2_readTree_26 : decode cX2_readTree 26 = .ok (.aload_n 0, 1) := by decide +kernel
theorem dX2_readTree_27 : decode cX2_readTree 27 = .ok (.getfield 27, 3) := by decide +kernel
theorem dX2_readTree_30 : decode cX2_readTree 30 = .ok (.iconst 0, 1) := by decide +kernel
theorem dX2_readTree_31 : decode cX2_readTree 31 = .ok (.iaload, 1) := by decide +kernel
theorem dX2_readTree_32 : decode cX2_readTree 32 = .ok (.aload_n 0, 1) := by decide +kernel
theorem dX2_readTree_33 : decode cX2_readTree 33 = .ok (.getfield 27, 3) := by decide +kernel
theorem dX2_readTree_36 : decode cX2_readTree 36 = .ok (.iconst 1, 1) := by decide +kernel
theorem dX2_readTree_37 : decode cX2_readTree 37 = .ok (.iaload, 1) := by decide +kernel
theorem dX2_readTree_38 : decode cX2_readTree 38 = .ok (.aload_n 0, 1) := by decide +kernel
theorem dX2_readTree_39 : decode cX2_readTree 39 = .ok (.getfield 27, 3) := by decide +kernel
theorem dX2_readTree_42 : decode cX2_readTree 42 = .ok (.iconst 2, 1) := by decide +kernel
theorem dX2_readTree_43 : decode cX2_readTree 43 = .ok (.iaload, 1) := by decide +kernel
theorem dX2_readTree_44 : decode cX2_readTree 44 = .ok (.aload_n 0, 1) := by decide +kernel
theorem dX2_readTree_45 : decode cX2_readTree 45 = .ok (.getfield 27, 3) := by decide +kernel
theorem dX2_readTree_48 : decode cX2_readTree 48 = .ok (.iconst 3, 1) := by decide +kernel
theorem dX2_readTree_49 : decode cX2_readTree 49 = .ok (.iaload, 1) := by decide +kernel
theorem dX2_readTree_50 : decode cX2_readTree 50 = .ok (.invokestatic 82, 3) := by decide +kernel
theorem dX2_readTree_53 : decode cX2_readTree 53 = .ok (.iconst 1, 1) := by decide +kernel
theorem dX2_readTree_54 : decode cX2_readTree 54 = .ok (.ireturn, 1) := by decide +kernel
set_option maxRecDepth 20000 in
theorem ggX2_readHouse_X2_readNumbers : GoodIn wsX2_readHouse wsX2_readNumbers := goodIn_r _ [8, 9, 10, 11, 12, 3, 13, 14, 15, 7, 16, 17, 18, 19, 20, 21, 22, 23, 24, 25, 26, 27, 28, 29, 30, 31, 41, 42, 43, 44, 45, 46, 47, 48, 49, 50, 51] (by decide +kernel) (by decide +kernel)
set_option maxRecDepth 20000 in
theorem gX2_readHouse_X2_readNumbers : GoodIn wsX2_readHouse (wsV RX2 78 RX2 yX2_readNumbers wsX2_readNumbers) := goodIn_app (goodIn_of _ (by decide +kernel)) ggX2_readHouse_X2_readNumbers
set_option maxRecDepth 20000 in
theorem ggX2_readHouse_X1_add : GoodIn wsX2_readHouse wsX1_add := goodIn_r _ [36, 37, 38, 39, 40, 52, 53, 54, 55, 56, 57] (by decide +kernel) (by decide +kernel)
set_option maxRecDepth 20000 in
theorem gX2_readHouse_X1_add : GoodIn wsX2_readHouse (wsV RX2 89 RX1 yX1_add wsX1_add) := goodIn_app (goodIn_of _ (by decide +kernel)) ggX2_readHouse_X1_add
theorem dX2_readHouse_0 : decode cX2_readHouse 0 = .ok (.aload_n 0, 1) := by decide +kernel
theorem dX2_readHouse_1 : decode cX2_readHouse 1 = .ok (.getfield 18, 3) := by decide +kernel
theorem dX2_readHouse_4 : decode cX2_readHouse 4 = .ok (.getfield 86, 3) := by decide +kernel
theorem dX2_readHouse_7 : decode cX2_readHouse 7 = .ok (.bipush 6, 2) := by decide +kernel
theorem dX2_readHouse_9 : decode cX2_readHouse 9 = .ok (.if_icmp .ge 12, 3) := by decide +kernel
theorem dX2_readHouse_12 : decode cX2_readHouse 12 = .ok (.aload_n 0, 1) := by decide +kernel
theorem dX2_readHouse_13 : decode cX2_readHouse 13 = .ok (.iconst 0, 1) := by decide +kernel
theorem dX2_readHouse_14 : decode cX2_readHouse 14 = .ok (.iconst 3, 1) := by decide +kernel
theorem dX2_readHouse_15 : decode cX2_readHouse 15 = .ok (.invokevirtual 78, 3) := by decide +kernel
theorem dX2_readHouse_18 : decode cX2_readHouse 18 = .ok (.ifCond .ne 5, 3) := by decide +kernel
theorem dX2_readHouse_21 : decode cX2_readHouse 21 = .ok (.iconst 0, 1) := by decide +kernel
theorem dX2_readHouse_22 : decode cX2_readHouse 22 = .ok (.ireturn, 1) := by decide +kernel
theorem dX2_readHouse_23 : decode cX2_readHouse 23 = .ok (.aload_n 0, 1) := by decide +kernel
theorem dX2_readHouse_24 : decode cX2_readHouse 24 = .ok (.getfield 18, 3) := by decide +kernel
theorem dX2_readHouse_27 : decode cX2_readHouse 27 = .ok (.aload_n 0, 1) := by decide +kernel
theorem dX2_readHouse_28 : decode cX2_readHouse 28 = .ok (.getfield 27, 3) := by decide +kernel
theorem dX2_readHouse_31 : decode cX2_readHouse 31 = .ok (.iconst 0, 1) := by decide +kernel
theorem dX2_readHouse_32 : decode cX2_readHouse 32 = .ok (.iaload, 1) := by decide +kernel
theorem dX2_readHouse_33 : decode cX2_readHouse 33 = .ok (.aload_n 0, 1) := by decide +kernel
theorem dX2_readHouse_34 : decode cX2_readHouse 34 = .ok (.getfield 27, 3) := by decide +kernel
theorem dX2_readHouse_37 : decode cX2_readHouse 37 = .ok (.iconst 1, 1) := by decide +kernel
theorem dX2_readHouse_38 : decode cX2_readHouse 38 = .ok (.iaload, 1) := by decide +kernel
theorem dX2_readHouse_39 : decode cX2_readHouse 39 = .ok (.aload_n 0, 1) := by decide +kernel
theorem dX2_readHouse_40 : decode cX2_readHouse 40 = .ok (.getfield 27, 3) := by decide +kernel
theorem dX2_readHouse_43 : decode cX2_readHouse 43 = .ok (.iconst 2, 1) := by decide +kernel
theorem dX2_readHouse_44 : decode cX2_readHouse 44 = .ok (.iaload, 1) := by decide +kernel
theorem dX2_readHouse_45 : decode cX2_readHouse 45 = .ok (.invokevirtual 89, 3) := by decide +kernel
theorem dX2_readHouse_48 : decode cX2_readHouse 48 = .ok (.iconst 1, 1) := by decide +kernel
theorem dX2_readHouse_49 : decode cX2_readHouse 49 = .ok (.ireturn, 1) := by decide +kernel
set_option maxRecDepth 20000 in
theorem ggX2_readReach_X2_readNumbers : GoodIn wsX2_readReach wsX2_readNumbers := goodIn_r _ [9, 10, 11, 12, 13, 3, 14, 15, 16, 8, 17, 18, 19, 20, 21, 22, 23, 24, 25, 26, 27, 28, 29, 30, 31, 32, 33, 34, 35, 36, 37, 38, 39, 40, 41, 42, 43] (by decide +kernel) (by decide +kernel)
set_option maxRecDepth 20000 in
theorem gX2_readReach_X2_readNumbers : GoodIn wsX2_readReach (wsV RX2 78 RX2 yX2_readNumbers wsX2_readNumbers) := goodIn_app (goodIn_of _ (by decide +kernel)) ggX2_readReach_X2_readNumbers
theorem dX2_readReach_0 : decode cX2_readReach 0 = .ok (.aload_n 0, 1) := by decide +kernel
theorem dX2_readReach_1 : decode cX2_readReach 1 = .ok (.getfield 53, 3) := by decide +kernel
theorem dX2_readReach_4 : decode cX2_readReach 4 = .ok (.ifCond .ne 12, 3) := by decide +kernel
theorem dX2_readReach_7 : decode cX2_readReach 7 = .ok (.aload_n 0, 1) := by decide +kernel
theorem dX2_readReach_8 : decode cX2_readReach 8 = .ok (.iconst 4, 1) := by decide +kernel
theorem dX2_readReach_9 : decode cX2_readReach 9 = .ok (.iconst 1, 1) := by decide +kernel
theorem dX2_readReach_10 : decode cX2_readReach 10 = .ok (.invokevirtual 78, 3) := by decide +kernel
theorem dX2_readReach_13 : decode cX2_readReach 13 = .ok (.ifCond .ne 5, 3) := by decide +kernel
theorem dX2_readReach_16 : decode cX2_readReach 16 = .ok (.iconst 0, 1) := by decide +kernel
theorem dX2_readReach_17 : decode cX2_readReach 17 = .ok (.ireturn, 1) := by decide +kernel
theorem dX2_readReach_18 : decode cX2_readReach 18 = .ok (.aload_n 0, 1) := by decide +kernel
theorem dX2_readReach_19 : decode cX2_readReach 19 = .ok (.iconst 1, 1) := by decide +kernel
theorem dX2_readReach_20 : decode cX2_readReach 20 = .ok (.putfield 53, 3) := by decide +kernel
theorem dX2_readReach_23 : decode cX2_readReach 23 = .ok (.aload_n 0, 1) := by decide +kernel
theorem dX2_readReach_24 : decode cX2_readReach 24 = .ok (.getfield 18, 3) := by decide +kernel
theorem dX2_readReach_27 : decode cX2_readReach 27 = .ok (.aload_n 0, 1) := by decide +kernel
theorem dX2_readReach_28 : decode cX2_readReach 28 = .ok (.getfield 27, 3) := by decide +kernel
theorem dX2_readReach_31 : decode cX2_readReach 31 = .ok (.iconst 0, 1) := by decide +kernel
theorem dX2_readReach_32 : decode cX2_readReach 32 = .ok (.iaload, 1) := by decide +kernel
theorem dX2_readReach_33 : decode cX2_readReach 33 = .ok (.putfield 93, 3) := by decide +kernel
theorem dX2_readReach_36 : decode cX2_readReach 36 = .ok (.iconst 1, 1) := by decide +kernel
theorem dX2_readReach_37 : decode cX2_readReach 37 = .ok (.ireturn, 1) := by decide +kernel
set_option maxRecDepth 20000 in
theorem ggX2_readUsed_X2_readNumbers : GoodIn wsX2_readUsed wsX2_readNumbers := goodIn_r _ [9, 10, 11, 12, 13, 3, 14, 15, 16, 8, 17, 18, 19, 20, 21, 22, 23, 24, 25, 26, 27, 28, 29, 30, 31, 32, 33, 34, 35, 36, 37, 38, 39, 40, 41, 42, 43] (by decide +kernel) (by decide +kernel)
set_option maxRecDepth 20000 in
theorem gX2_readUsed_X2_readNumbers : GoodIn wsX2_readUsed (wsV RX2 78 RX2 yX2_readNumbers wsX2_readNumbers) := goodIn_app (goodIn_of _ (by decide +kernel)) ggX2_readUsed_X2_readNumbers
theorem dX2_readUsed_0 : decode cX2_readUsed 0 = .ok (.aload_n 0, 1) := by decide +kernel
theorem dX2_readUsed_1 : decode cX2_readUsed 1 = .ok (.getfield 57, 3) := by decide +kernel
theorem dX2_readUsed_4 : decode cX2_readUsed 4 = .ok (.ifCond .ne 12, 3) := by decide +kernel
theorem dX2_readUsed_7 : decode cX2_readUsed 7 = .ok (.aload_n 0, 1) := by decide +kernel
theorem dX2_readUsed_8 : decode cX2_readUsed 8 = .ok (.iconst 4, 1) := by decide +kernel
theorem dX2_readUsed_9 : decode cX2_readUsed 9 = .ok (.iconst 1, 1) := by decide +kernel
theorem dX2_readUsed_10 : decode cX2_readUsed 10 = .ok (.invokevirtual 78, 3) := by decide +kernel
theorem dX2_readUsed_13 : decode cX2_readUsed 13 = .ok (.ifCond .ne 5, 3) := by decide +kernel
theorem dX2_readUsed_16 : decode cX2_readUsed 16 = .ok (.iconst 0, 1) := by decide +kernel
theorem dX2_readUsed_17 : decode cX2_readUsed 17 = .ok (.ireturn, 1) := by decide +kernel
theorem dX2_readUsed_18 : decode cX2_readUsed 18 = .ok (.aload_n 0, 1) := by decide +kernel
theorem dX2_readUsed_19 : decode cX2_readUsed 19 = .ok (.iconst 1, 1) := by decide +kernel
theorem dX2_readUsed_20 : decode cX2_readUsed 20 = .ok (.putfield 57, 3) := by decide +kernel
theorem dX2_readUsed_23 : decode cX2_readUsed 23 = .ok (.aload_n 0, 1) := by decide +kernel
theorem dX2_readUsed_24 : decode cX2_readUsed 24 = .ok (.getfield 18, 3) := by decide +kernel
theorem dX2_readUsed_27 : decode cX2_readUsed 27 = .ok (.aload_n 0, 1) := by decide +kernel
theorem dX2_readUsed_28 : decode cX2_readUsed 28 = .ok (.getfield 27, 3) := by decide +kernel
theorem dX2_readUsed_31 : decode cX2_readUsed 31 = .ok (.iconst 0, 1) := by decide +kernel
theorem dX2_readUsed_32 : decode cX2_readUsed 32 = .ok (.iaload, 1) := by decide +kernel
theorem dX2_readUsed_33 : decode cX2_readUsed 33 = .ok (.putfield 96, 3) := by decide +kernel
theorem dX2_readUsed_36 : decode cX2_readUsed 36 = .ok (.iconst 1, 1) := by decide +kernel
theorem dX2_readUsed_37 : decode cX2_readUsed 37 = .ok (.ireturn, 1) := by decide +kernel
set_option maxRecDepth 20000 in
theorem ggX2_readNumbers_X2_toToken : GoodIn wsX2_readNumbers wsX2_toToken := goodIn_r _ [10, 11, 12, 13, 14, 2, 1, 15, 16, 17, 18, 19, 20, 9, 21, 22, 23, 24, 25, 26, 27, 28, 29, 30, 31, 32, 33, 34, 35, 36] (by decide +kernel) (by decide +kernel)
set_option maxRecDepth 20000 in
theorem gX2_readNumbers_X2_toToken : GoodIn wsX2_readNumbers (wsV RX2 37 RX2 yX2_toToken wsX2_toToken) := goodIn_app (goodIn_of _ (by decide +kernel)) ggX2_readNumbers_X2_toToken
set_option maxRecDepth 20000 in
theorem ggX2_readNumbers_X5_isWithin : GoodIn wsX2_readNumbers wsX5_isWithin := goodIn_r _ [17] (by decide +kernel) (by decide +kernel)
set_option maxRecDepth 20000 in
theorem gX2_readNumbers_X5_isWithin_n105 : GoodIn wsX2_readNumbers (wsX5_isWithin) := ggX2_readNumbers_X5_isWithin
theorem dX2_readNumbers_0 : decode cX2_readNumbers 0 = .ok (.iconst 0, 1) := by decide +kernel
theorem dX2_readNumbers_1 : decode cX2_readNumbers 1 = .ok (.istore_n 3, 1) := by decide +kernel
theorem dX2_readNumbers_2 : decode cX2_readNumbers 2 = .ok (.iload_n 3, 1) := by decide +kernel
theorem dX2_readNumbers_3 : decode cX2_readNumbers 3 = .ok (.iload_n 2, 1) := by decide +kernel
theorem dX2_readNumbers_4 : decode cX2_readNumbers 4 = .ok (.if_icmp .ge 57, 3) := by decide +kernel
theorem dX2_readNumbers_7 : decode cX2_readNumbers 7 = .ok (.aload_n 0, 1) := by decide +kernel
theorem dX2_readNumbers_8 : decode cX2_readNumbers 8 = .ok (.invokevirtual 37, 3) := by decide +kernel
theorem dX2_readNumbers_11 : decode cX2_readNumbers 11 = .ok (.aload_n 0, 1) := by decide +kernel
theorem dX2_readNumbers_12 : decode cX2_readNumbers 12 = .ok (.getfield 40, 3) := by decide +kernel
theorem dX2_readNumbers_15 : decode cX2_readNumbers 15 = .ok (.iconst 2, 1) := by decide +kernel
theorem dX2_readNumbers_16 : decode cX2_readNumbers 16 = .ok (.if_icmp .ne 27, 3) := by decide +kernel
theorem dX2_readNumbers_19 : decode cX2_readNumbers 19 = .ok (.aload_n 0, 1) := by decide +kernel
theorem dX2_readNumbers_20 : decode cX2_readNumbers 20 = .ok (.getfield 63, 3) := by decide +kernel
theorem dX2_readNumbers_23 : decode cX2_readNumbers 23 = .ok (.getstatic 99, 3) := by decide +kernel
theorem dX2_readNumbers_26 : decode cX2_readNumbers 26 = .ok (.iload_n 1, 1) := by decide +kernel
theorem dX2_readNumbers_27 : decode cX2_readNumbers 27 = .ok (.iload_n 3, 1) := by decide +kernel
theorem dX2_readNumbers_28 : decode cX2_readNumbers 28 = .ok (.iadd, 1) := by decide +kernel
theorem dX2_readNumbers_29 : decode cX2_readNumbers 29 = .ok (.iaload, 1) := by decide +kernel
theorem dX2_readNumbers_30 : decode cX2_readNumbers 30 = .ok (.getstatic 102, 3) := by decide +kernel
theorem dX2_readNumbers_33 : decode cX2_readNumbers 33 = .ok (.iload_n 1, 1) := by decide +kernel
theorem dX2_readNumbers_34 : decode cX2_readNumbers 34 = .ok (.iload_n 3, 1) := by decide +kernel
theorem dX2_readNumbers_35 : decode cX2_readNumbers 35 = .ok (.iadd, 1) := by decide +kernel
theorem dX2_readNumbers_36 : decode cX2_readNumbers 36 = .ok (.iaload, 1) := by decide +kernel
theorem dX2_readNumbers_37 : decode cX2_readNumbers 37 = .ok (.invokestatic 105, 3) := by decide +kernel
theorem dX2_readNumbers_40 : decode cX2_readNumbers 40 = .ok (.ifCond .ne 5, 3) := by decide +kernel
theorem dX2_readNumbers_43 : decode cX2_readNumbers 43 = .ok (.iconst 0, 1) := by decide +kernel
theorem dX2_readNumbers_44 : decode cX2_readNumbers 44 = .ok (.ireturn, 1) := by decide +kernel
theorem dX2_readNumbers_45 : decode cX2_readNumbers 45 = .ok (.aload_n 0, 1) := by decide +kernel
theorem dX2_readNumbers_46 : decode cX2_readNumbers 46 = .ok (.getfield 27, 3) := by decide +kernel
theorem dX2_readNumbers_49 : decode cX2_readNumbers 49 = .ok (.iload_n 3, 1) := by decide +kernel
theorem dX2_readNumbers_50 : decode cX2_readNumbers 50 = .ok (.aload_n 0, 1) := by decide +kernel
theorem dX2_readNumbers_51 : decode cX2_readNumbers 51 = .ok (.getfield 63, 3) := by decide +kernel
theorem dX2_readNumbers_54 : decode cX2_readNumbers 54 = .ok (.iastore, 1) := by decide +kernel
theorem dX2_readNumbers_55 : decode cX2_readNumbers 55 = .ok (.iinc 3 1, 3) := by decide +kernel
theorem dX2_readNumbers_58 : decode cX2_readNumbers 58 = .ok (.goto (-56), 3) := by decide +kernel
theorem dX2_readNumbers_61 : decode cX2_readNumbers 61 = .ok (.iconst 1, 1) := by decide +kernel
theorem dX2_readNumbers_62 : decode cX2_readNumbers 62 = .ok (.ireturn, 1) := by decide +kernel
set_option maxRecDepth 20000 in
theorem ggX2_toToken_X5_isWithin : GoodIn wsX2_toToken wsX5_isWithin := goodIn_r _ [9] (by decide +kernel) (by decide +kernel)
set_option maxRecDepth 20000 in
theorem gX2_toToken_X5_isWithin_n105 : GoodIn wsX2_toToken (wsX5_isWithin) := ggX2_toToken_X5_isWithin
set_option maxRecDepth 20000 in
theorem ggX2_toToken_X2_toEndOf : GoodIn wsX2_toToken wsX2_toEndOf := goodIn_r _ [14, 1, 2, 3, 19, 20, 21, 22, 23, 24, 25, 26, 27, 28, 29] (by decide +kernel) (by decide +kernel)
set_option maxRecDepth 20000 in
theorem gX2_toToken_X2_toEndOf : GoodIn wsX2_toToken (wsV RX2 109 RX2 yX2_toEndOf wsX2_toEndOf) := goodIn_app (goodIn_of _ (by decide +kernel)) ggX2_toToken_X2_toEndOf
set_option maxRecDepth 20000 in
theorem ggX2_toToken_X2_takeNumber : GoodIn wsX2_toToken wsX2_takeNumber := goodIn_r _ [18, 3, 4, 6, 1, 5, 19, 20, 21, 22, 23, 24, 25, 26, 27, 28, 29] (by decide +kernel) (by decide +kernel)
set_option maxRecDepth 20000 in
theorem gX2_toToken_X2_takeNumber : GoodIn wsX2_toToken (wsV RX2 113 RX2 yX2_takeNumber wsX2_takeNumber) := goodIn_app (goodIn_of _ (by decide +kernel)) ggX2_toToken_X2_takeNumber
theorem dX2_toToken_0 : decode cX2_toToken 0 = .ok (.aload_n 0, 1) := by decide +kernel
theorem dX2_toToken_1 : decode cX2_toToken 1 = .ok (.getfield 60, 3) := by decide +kernel
theorem dX2_toToken_4 : decode cX2_toToken 4 = .ok (.aload_n 0, 1) := by decide +kernel
theorem dX2_toToken_5 : decode cX2_toToken 5 = .ok (.getfield 30, 3) := by decide +kernel
theorem dX2_toToken_8 : decode cX2_toToken 8 = .ok (.if_icmp .ge 30, 3) := by decide +kernel
theorem dX2_toToken_11 : decode cX2_toToken 11 = .ok (.aload_n 0, 1) := by decide +kernel
theorem dX2_toToken_12 : decode cX2_toToken 12 = .ok (.getfield 9, 3) := by decide +kernel
theorem dX2_toToken_15 : decode cX2_toToken 15 = .ok (.aload_n 0, 1) := by decide +kernel
theorem dX2_toToken_16 : decode cX2_toToken 16 = .ok (.getfield 60, 3) := by decide +kernel
theorem dX2_toToken_19 : decode cX2_toToken 19 = .ok (.iaload, 1) := by decide +kernel
theorem dX2_toToken_20 : decode cX2_toToken 20 = .ok (.bipush 32, 2) := by decide +kernel
theorem dX2_toToken_22 : decode cX2_toToken 22 = .ok (.if_icmp .ne 16, 3) := by decide +kernel
theorem dX2_toToken_25 : decode cX2_toToken 25 = .ok (.aload_n 0, 1) := by decide +kernel
theorem dX2_toToken_26 : decode cX2_toToken 26 = .ok (.dup, 1) := by decide +kernel
theorem dX2_toToken_27 : decode cX2_toToken 27 = .ok (.getfield 60, 3) := by decide +kernel
theorem dX2_toToken_30 : decode cX2_toToken 30 = .ok (.iconst 1, 1) := by decide +kernel
theorem dX2_toToken_31 : decode cX2_toToken 31 = .ok (.iadd, 1) := by decide +kernel
theorem dX2_toToken_32 : decode cX2_toToken 32 = .ok (.putfield 60, 3) := by decide +kernel
theorem dX2_toToken_35 : decode cX2_toToken 35 = .ok (.goto (-35), 3) := by decide +kernel
theorem dX2_toToken_38 : decode cX2_toToken 38 = .ok (.aload_n 0, 1) := by decide +kernel
theorem dX2_toToken_39 : decode cX2_toToken 39 = .ok (.aload_n 0, 1) := by decide +kernel
theorem dX2_toToken_40 : decode cX2_toToken 40 = .ok (.getfield 60, 3) := by decide +kernel
theorem dX2_toToken_43 : decode cX2_toToken 43 = .ok (.putfield 47, 3) := by decide +kernel
theorem dX2_toToken_46 : decode cX2_toToken 46 = .ok (.aload_n 0, 1) := by decide +kernel
theorem dX2_toToken_47 : decode cX2_toToken 47 = .ok (.iconst 0, 1) := by decide +kernel
theorem dX2_toToken_48 : decode cX2_toToken 48 = .ok (.putfield 63, 3) := by decide +kernel
theorem dX2_toToken_51 : decode cX2_toToken 51 = .ok (.aload_n 0, 1) := by decide +kernel
theorem dX2_toToken_52 : decode cX2_toToken 52 = .ok (.getfield 60, 3) := by decide +kernel
theorem dX2_toToken_55 : decode cX2_toToken 55 = .ok (.aload_n 0, 1) := by decide +kernel
theorem dX2_toToken_56 : decode cX2_toToken 56 = .ok (.getfield 30, 3) := by decide +kernel
theorem dX2_toToken_59 : decode cX2_toToken 59 = .ok (.if_icmp .lt 11, 3) := by decide +kernel
theorem dX2_toToken_62 : decode cX2_toToken 62 = .ok (.aload_n 0, 1) := by decide +kernel
theorem dX2_toToken_63 : decode cX2_toToken 63 = .ok (.iconst 0, 1) := by decide +kernel
theorem dX2_toToken_64 : decode cX2_toToken 64 = .ok (.putfield 40, 3) := by decide +kernel
theorem dX2_toToken_67 : decode cX2_toToken 67 = .ok (.goto 144, 3) := by decide +kernel
theorem dX2_toToken_70 : decode cX2_toToken 70 = .ok (.aload_n 0, 1) := by decide +kernel
theorem dX2_toToken_71 : decode cX2_toToken 71 = .ok (.getfield 9, 3) := by decide +kernel
theorem dX2_toToken_74 : decode cX2_toToken 74 = .ok (.aload_n 0, 1) := by decide +kernel
theorem dX2_toToken_75 : decode cX2_toToken 75 = .ok (.getfield 60, 3) := by decide +kernel
theorem dX2_toToken_78 : decode cX2_toToken 78 = .ok (.iaload, 1) := by decide +kernel
theorem dX2_toToken_79 : decode cX2_toToken 79 = .ok (.bipush 97, 2) := by decide +kernel
theorem dX2_toToken_81 : decode cX2_toToken 81 = .ok (.bipush 122, 2) := by decide +kernel
theorem dX2_toToken_83 : decode cX2_toToken 83 = .ok (.invokestatic 105, 3) := by decide +kernel
theorem dX2_toToken_86 : decode cX2_toToken 86 = .ok (.ifCond .eq 49, 3) := by decide +kernel
theorem dX2_toToken_89 : decode cX2_toToken 89 = .ok (.aload_n 0, 1) := by decide +kernel
theorem dX2_toToken_90 : decode cX2_toToken 90 = .ok (.iconst 1, 1) := by decide +kernel
theorem dX2_toToken_91 : decode cX2_toToken 91 = .ok (.putfield 40, 3) := by decide +kernel
theorem dX2_toToken_94 : decode cX2_toToken 94 = .ok (.aload_n 0, 1) := by decide +kernel
theorem dX2_toToken_95 : decode cX2_toToken 95 = .ok (.bipush 97, 2) := by decide +kernel
theorem dX2_toToken_97 : decode cX2_toToken 97 = .ok (.bipush 122, 2) := by decide +kernel
theorem dX2_toToken_99 : decode cX2_toToken 99 = .ok (.invokevirtual 109, 3) := by decide +kernel
theorem dX2_toToken_102 : decode cX2_toToken 102 = .ok (.aload_n 0, 1) := by decide +kernel
theorem dX2_toToken_103 : decode cX2_toToken 103 = .ok (.aload_n 0, 1) := by decide +kernel
theorem dX2_toToken_104 : decode cX2_toToken 104 = .ok (.getfield 60, 3) := by decide +kernel
theorem dX2_toToken_107 : decode cX2_toToken 107 = .ok (.aload_n 0, 1) := by decide +kernel
theorem dX2_toToken_108 : decode cX2_toToken 108 = .ok (.getfield 47, 3) := by decide +kernel
theorem dX2_toToken_111 : decode cX2_toToken 111 = .ok (.isub, 1) := by decide +kernel
theorem dX2_toToken_112 : decode cX2_toToken 112 = .ok (.iconst 1, 1) := by decide +kernel
theorem dX2_toToken_113 : decode cX2_toToken 113 = .ok (.if_icmp .ne 15, 3) := by decide +kernel
theorem dX2_toToken_116 : decode cX2_toToken 116 = .ok (.aload_n 0, 1) := by decide +kernel
theorem dX2_toToken_117 : decode cX2_toToken 117 = .ok (.getfield 9, 3) := by decide +kernel
theorem dX2_toToken_120 : decode cX2_toToken 120 = .ok (.aload_n 0, 1) := by decide +kernel
theorem dX2_toToken_121 : decode cX2_toToken 121 = .ok (.getfield 47, 3) := by decide +kernel
theorem dX2_toToken_124 : decode cX2_toToken 124 = .ok (.iaload, 1) := by decide +kernel
theorem dX2_toToken_125 : decode cX2_toToken 125 = .ok (.goto 4, 3) := by decide +kernel
theorem dX2_toToken_128 : decode cX2_toToken 128 = .ok (.iconst 0, 1) := by decide +kernel
theorem dX2_toToken_129 : decode cX2_toToken 129 = .ok (.putfield 63, 3) := by decide +kernel
theorem dX2_toToken_132 : decode cX2_toToken 132 = .ok (.goto 79, 3) := by decide +kernel
theorem dX2_toToken_135 : decode cX2_toToken 135 = .ok (.aload_n 0, 1) := by decide +kernel
theorem dX2_toToken_136 : decode cX2_toToken 136 = .ok (.getfield 9, 3) := by decide +kernel
theorem dX2_toToken_139 : decode cX2_toToken 139 = .ok (.aload_n 0, 1) := by decide +kernel
theorem dX2_toToken_140 : decode cX2_toToken 140 = .ok (.getfield 60, 3) := by decide +kernel
theorem dX2_toToken_143 : decode cX2_toToken 143 = .ok (.iaload, 1) := by decide +kernel
theorem dX2_toToken_144 : decode cX2_toToken 144 = .ok (.bipush 48, 2) := by decide +kernel
theorem dX2_toToken_146 : decode cX2_toToken 146 = .ok (.bipush 57, 2) := by decide +kernel
theorem dX2_toToken_148 : decode cX2_toToken 148 = .ok (.invokestatic 105, 3) := by decide +kernel
theorem dX2_toToken_151 : decode cX2_toToken 151 = .ok (.ifCond .eq 27, 3) := by decide +kernel
theorem dX2_toToken_154 : decode cX2_toToken 154 = .ok (.aload_n 0, 1) := by decide +kernel
theorem dX2_toToken_155 : decode cX2_toToken 155 = .ok (.bipush 48, 2) := by decide +kernel
theorem dX2_toToken_157 : decode cX2_toToken 157 = .ok (.bipush 57, 2) := by decide +kernel
theorem dX2_toToken_159 : decode cX2_toToken 159 = .ok (.invokevirtual 109, 3) := by decide +kernel
theorem dX2_toToken_162 : decode cX2_toToken 162 = .ok (.aload_n 0, 1) := by decide +kernel
theorem dX2_toToken_163 : decode cX2_toToken 163 = .ok (.aload_n 0, 1) := by decide +kernel
theorem dX2_toToken_164 : decode cX2_toToken 164 = .ok (.getfield 60, 3) := by decide +kernel
theorem dX2_toToken_167 : decode cX2_toToken 167 = .ok (.aload_n 0, 1) := by decide +kernel
theorem dX2_toToken_168 : decode cX2_toToken 168 = .ok (.getfield 47, 3) := by decide +kernel
theorem dX2_toToken_171 : decode cX2_toToken 171 = .ok (.isub, 1) := by decide +kernel
theorem dX2_toToken_172 : decode cX2_toToken 172 = .ok (.invokevirtual 113, 3) := by decide +kernel
theorem dX2_toToken_175 : decode cX2_toToken 175 = .ok (.goto 36, 3) := by decide +kernel
theorem dX2_toToken_178 : decode cX2_toToken 178 = .ok (.aload_n 0, 1) := by decide +kernel
theorem dX2_toToken_179 : decode cX2_toToken 179 = .ok (.aload_n 0, 1) := by decide +kernel
theorem dX2_toToken_180 : decode cX2_toToken 180 = .ok (.getfield 9, 3) := by decide +kernel
theorem dX2_toToken_183 : decode cX2_toToken 183 = .ok (.aload_n 0, 1) := by decide +kernel
theorem dX2_toToken_184 : decode cX2_toToken 184 = .ok (.getfield 60, 3) := by decide +kernel
theorem dX2_toToken_187 : decode cX2_toToken 187 = .ok (.iaload, 1) := by decide +kernel
theorem dX2_toToken_188 : decode cX2_toToken 188 = .ok (.bipush 59, 2) := by decide +kernel
theorem dX2_toToken_190 : decode cX2_toToken 190 = .ok (.if_icmp .ne 7, 3) := by decide +kernel
theorem dX2_toToken_193 : decode cX2_toToken 193 = .ok (.iconst 3, 1) := by decide +kernel
theorem dX2_toToken_194 : decode cX2_toToken 194 = .ok (.goto 4, 3) := by decide +kernel
theorem dX2_toToken_197 : decode cX2_toToken 197 = .ok (.iconst 4, 1) := by decide +kernel
theorem dX2_toToken_198 : decode cX2_toToken 198 = .ok (.putfield 40, 3) := by decide +kernel
theorem dX2_toToken_201 : decode cX2_toToken 201 = .ok (.aload_n 0, 1) := by decide +kernel
theorem dX2_toToken_202 : decode cX2_toToken 202 = .ok (.dup, 1) := by decide +kernel
theorem dX2_toToken_203 : decode cX2_toToken 203 = .ok (.getfield 60, 3) := by decide +kernel
theorem dX2_toToken_206 : decode cX2_toToken 206 = .ok (.iconst 1, 1) := by decide +kernel
theorem dX2_toToken_207 : decode cX2_toToken 207 = .ok (.iadd, 1) := by decide +kernel
theorem dX2_toToken_208 : decode cX2_toToken 208 = .ok (.putfield 60, 3) := by decide +kernel
theorem dX2_toToken_211 : decode cX2_toToken 211 = .ok (.return_, 1) := by decide +kernel
theorem dX2_toEndOf_0 : decode cX2_toEndOf 0 = .ok (.aload_n 0, 1) := by decide +kernel
theorem dX2_toEndOf_1 : decode cX2_toEndOf 1 = .ok (.getfield 60, 3) := by decide +kernel
theorem dX2_toEndOf_4 : decode cX2_toEndOf 4 = .ok (.aload_n 0, 1) := by decide +kernel
theorem dX2_toEndOf_5 : decode cX2_toEndOf 5 = .ok (.getfield 30, 3) := by decide +kernel
theorem dX2_toEndOf_8 : decode cX2_toEndOf 8 = .ok (.if_icmp .ge 42, 3) := by decide +kernel
theorem dX2_toEndOf_11 : decode cX2_toEndOf 11 = .ok (.aload_n 0, 1) := by decide +kernel
theorem dX2_toEndOf_12 : decode cX2_toEndOf 12 = .ok (.getfield 9, 3) := by decide +kernel
theorem dX2_toEndOf_15 : decode cX2_toEndOf 15 = .ok (.aload_n 0, 1) := by decide +kernel
theorem dX2_toEndOf_16 : decode cX2_toEndOf 16 = .ok (.getfield 60, 3) := by decide +kernel
theorem dX2_toEndOf_19 : decode cX2_toEndOf 19 = .ok (.iaload, 1) := by decide +kernel
theorem dX2_toEndOf_20 : decode cX2_toEndOf 20 = .ok (.iload_n 1, 1) := by decide +kernel
theorem dX2_toEndOf_21 : decode cX2_toEndOf 21 = .ok (.if_icmp .lt 29, 3) := by decide +kernel
theorem dX2_toEndOf_24 : decode cX2_toEndOf 24 = .ok (.aload_n 0, 1) := by decide +kernel
theorem dX2_toEndOf_25 : decode cX2_toEndOf 25 = .ok (.getfield 9, 3) := by decide +kernel
theorem dX2_toEndOf_28 : decode cX2_toEndOf 28 = .ok (.aload_n 0, 1) := by decide +kernel
theorem dX2_toEndOf_29 : decode cX2_toEndOf 29 = .ok (.getfield 60, 3) := by decide +kernel
theorem dX2_toEndOf_32 : decode cX2_toEndOf 32 = .ok (.iaload, 1) := by decide +kernel
theorem dX2_toEndOf_33 : decode cX2_toEndOf 33 = .ok (.iload_n 2, 1) := by decide +kernel
theorem dX2_toEndOf_34 : decode cX2_toEndOf 34 = .ok (.if_icmp .gt 16, 3) := by decide +kernel
theorem dX2_toEndOf_37 : decode cX2_toEndOf 37 = .ok (.aload_n 0, 1) := by decide +kernel
theorem dX2_toEndOf_38 : decode cX2_toEndOf 38 = .ok (.dup, 1) := by decide +kernel
theorem dX2_toEndOf_39 : decode cX2_toEndOf 39 = .ok (.getfield 60, 3) := by decide +kernel
theorem dX2_toEndOf_42 : decode cX2_toEndOf 42 = .ok (.iconst 1, 1) := by decide +kernel
theorem dX2_toEndOf_43 : decode cX2_toEndOf 43 = .ok (.iadd, 1) := by decide +kernel
theorem dX2_toEndOf_44 : decode cX2_toEndOf 44 = .ok (.putfield 60, 3) := by decide +kernel
theorem dX2_toEndOf_47 : decode cX2_toEndOf 47 = .ok (.goto (-47), 3) := by decide +kernel
theorem dX2_toEndOf_50 : decode cX2_toEndOf 50 = .ok (.return_, 1) := by decide +kernel
theorem dX2_takeNumber_0 : decode cX2_takeNumber 0 = .ok (.iload_n 1, 1) := by decide +kernel
theorem dX2_takeNumber_1 : decode cX2_takeNumber 1 = .ok (.iconst 2, 1) := by decide +kernel
theorem dX2_takeNumber_2 : decode cX2_takeNumber 2 = .ok (.if_icmp .gt 22, 3) := by decide +kernel
theorem dX2_takeNumber_5 : decode cX2_takeNumber 5 = .ok (.iload_n 1, 1) := by decide +kernel
theorem dX2_takeNumber_6 : decode cX2_takeNumber 6 = .ok (.iconst 2, 1) := by decide +kernel
theorem dX2_takeNumber_7 : decode cX2_takeNumber 7 = .ok (.if_icmp .ne 23, 3) := by decide +kernel
theorem dX2_takeNumber_10 : decode cX2_takeNumber 10 = .ok (.aload_n 0, 1) := by decide +kernel
theorem dX2_takeNumber_11 : decode cX2_takeNumber 11 = .ok (.getfield 9, 3) := by decide +kernel
theorem dX2_takeNumber_14 : decode cX2_takeNumber 14 = .ok (.aload_n 0, 1) := by decide +kernel
theorem dX2_takeNumber_15 : decode cX2_takeNumber 15 = .ok (.getfield 47, 3) := by decide +kernel
theorem dX2_takeNumber_18 : decode cX2_takeNumber 18 = .ok (.iaload, 1) := by decide +kernel
theorem dX2_takeNumber_19 : decode cX2_takeNumber 19 = .ok (.bipush 48, 2) := by decide +kernel
theorem dX2_takeNumber_21 : decode cX2_takeNumber 21 = .ok (.if_icmp .ne 9, 3) := by decide +kernel
theorem dX2_takeNumber_24 : decode cX2_takeNumber 24 = .ok (.aload_n 0, 1) := by decide +kernel
theorem dX2_takeNumber_25 : decode cX2_takeNumber 25 = .ok (.iconst 4, 1) := by decide +kernel
theorem dX2_takeNumber_26 : decode cX2_takeNumber 26 = .ok (.putfield 40, 3) := by decide +kernel
theorem dX2_takeNumber_29 : decode cX2_takeNumber 29 = .ok (.return_, 1) := by decide +kernel
theorem dX2_takeNumber_30 : decode cX2_takeNumber 30 = .ok (.aload_n 0, 1) := by decide +kernel
theorem dX2_takeNumber_31 : decode cX2_takeNumber 31 = .ok (.iconst 2, 1) := by decide +kernel
theorem dX2_takeNumber_32 : decode cX2_takeNumber 32 = .ok (.putfield 40, 3) := by decide +kernel
theorem dX2_takeNumber_35 : decode cX2_takeNumber 35 = .ok (.aload_n 0, 1) := by decide +kernel
theorem dX2_takeNumber_36 : decode cX2_takeNumber 36 = .ok (.getfield 47, 3) := by decide +kernel
theorem dX2_takeNumber_39 : decode cX2_takeNumber 39 = .ok (.istore_n 2, 1) := by decide +kernel
theorem dX2_takeNumber_40 : decode cX2_takeNumber 40 = .ok (.iload_n 2, 1) := by decide +kernel
theorem dX2_takeNumber_41 : decode cX2_takeNumber 41 = .ok (.aload_n 0, 1) := by decide +kernel
theorem dX2_takeNumber_42 : decode cX2_takeNumber 42 = .ok (.getfield 60, 3) := by decide +kernel
theorem dX2_takeNumber_45 : decode cX2_takeNumber 45 = .ok (.if_icmp .ge 30, 3) := by decide +kernel
theorem dX2_takeNumber_48 : decode cX2_takeNumber 48 = .ok (.aload_n 0, 1) := by decide +kernel
theorem dX2_takeNumber_49 : decode cX2_takeNumber 49 = .ok (.aload_n 0, 1) := by decide +kernel
theorem dX2_takeNumber_50 : decode cX2_takeNumber 50 = .ok (.getfield 63, 3) := by decide +kernel
theorem dX2_takeNumber_53 : decode cX2_takeNumber 53 = .ok (.bipush 10, 2) := by decide +kernel
theorem dX2_takeNumber_55 : decode cX2_takeNumber 55 = .ok (.imul, 1) := by decide +kernel
theorem dX2_takeNumber_56 : decode cX2_takeNumber 56 = .ok (.aload_n 0, 1) := by decide +kernel
theorem dX2_takeNumber_57 : decode cX2_takeNumber 57 = .ok (.getfield 9, 3) := by decide +kernel
theorem dX2_takeNumber_60 : decode cX2_takeNumber 60 = .ok (.iload_n 2, 1) := by decide +kernel
theorem dX2_takeNumber_61 : decode cX2_takeNumber 61 = .ok (.iaload, 1) := by decide +kernel
theorem dX2_takeNumber_62 : decode cX2_takeNumber 62 = .ok (.iadd, 1) := by decide +kernel
theorem dX2_takeNumber_63 : decode cX2_takeNumber 63 = .ok (.bipush 48, 2) := by decide +kernel
theorem dX2_takeNumber_65 : decode cX2_takeNumber 65 = .ok (.isub, 1) := by decide +kernel
theorem dX2_takeNumber_66 : decode cX2_takeNumber 66 = .ok (.putfield 63, 3) := by decide +kernel
theorem dX2_takeNumber_69 : decode cX2_takeNumber 69 = .ok (.iinc 2 1, 3) := by decide +kernel
theorem dX2_takeNumber_72 : decode cX2_takeNumber 72 = .ok (.goto (-32), 3) := by decide +kernel
theorem dX2_takeNumber_75 : decode cX2_takeNumber 75 = .ok (.return_, 1) := by decide +kernel
theorem dX3_init_0 : decode cX3_init 0 = .ok (.aload_n 0, 1) := by decide +kernel
theorem dX3_init_1 : decode cX3_init 1 = .ok (.invokespecial 5, 3) := by decide +kernel
theorem dX3_init_4 : decode cX3_init 4 = .ok (.aload_n 0, 1) := by decide +kernel
theorem dX3_init_5 : decode cX3_init 5 = .ok (.bipush 43, 2) := by decide +kernel
theorem dX3_init_7 : decode cX3_init 7 = .ok (.newarray .int, 2) := by decide +kernel
theorem dX3_init_9 : decode cX3_init 9 = .ok (.putfield 11, 3) := by decide +kernel
theorem dX3_init_12 : decode cX3_init 12 = .ok (.aload_n 0, 1) := by decide +kernel
theorem dX3_init_13 : decode cX3_init 13 = .ok (.sipush 430, 3) := by decide +kernel
theorem dX3_init_16 : decode cX3_init 16 = .ok (.newarray .int, 2) := by decide +kernel
theorem dX3_init_18 : decode cX3_init 18 = .ok (.putfield 15, 3) := by decide +kernel
theorem dX3_init_21 : decode cX3_init 21 = .ok (.return_, 1) := by decide +kernel
theorem dX3_x_0 : decode cX3_x 0 = .ok (.aload_n 0, 1) := by decide +kernel
theorem dX3_x_1 : decode cX3_x 1 = .ok (.getfield 11, 3) := by decide +kernel
theorem dX3_x_4 : decode cX3_x 4 = .ok (.iconst 2, 1) := by decide +kernel
theorem dX3_x_5 : decode cX3_x 5 = .ok (.iload_n 1, 1) := by decide +kernel
theorem dX3_x_6 : decode cX3_x 6 = .ok (.iadd, 1) := by decide +kernel
theorem dX3_x_7 : decode cX3_x 7 = .ok (.iaload, 1) := by decide +kernel
theorem dX3_x_8 : decode cX3_x 8 = .ok (.ireturn, 1) := by decide +kernel
theorem dX3_y_0 : decode cX3_y 0 = .ok (.aload_n 0, 1) := by decide +kernel
theorem dX3_y_1 : decode cX3_y 1 = .ok (.getfield 11, 3) := by decide +kernel
theorem dX3_y_4 : decode cX3_y 4 = .ok (.bipush 9, 2) := by decide +kernel
theorem dX3_y_6 : decode cX3_y 6 = .ok (.iload_n 1, 1) := by decide +kernel
theorem dX3_y_7 : decode cX3_y 7 = .ok (.iadd, 1) := by decide +kernel
theorem dX3_y_8 : decode cX3_y 8 = .ok (.iaload, 1) := by decide +kernel
theorem dX3_y_9 : decode cX3_y 9 = .ok (.ireturn, 1) := by decide +kernel
theorem dX3_high_0 : decode cX3_high 0 = .ok (.aload_n 0, 1) := by decide +kernel
theorem dX3_high_1 : decode cX3_high 1 = .ok (.getfield 11, 3) := by decide +kernel
theorem dX3_high_4 : decode cX3_high 4 = .ok (.bipush 16, 2) := by decide +kernel
theorem dX3_high_6 : decode cX3_high 6 = .ok (.iload_n 1, 1) := by decide +kernel
theorem dX3_high_7 : decode cX3_high 7 = .ok (.iadd, 1) := by decide +kernel
theorem dX3_high_8 : decode cX3_high 8 = .ok (.iaload, 1) := by decide +kernel
theorem dX3_high_9 : decode cX3_high 9 = .ok (.ireturn, 1) := by decide +kernel
theorem dX3_grows_0 : decode cX3_grows 0 = .ok (.aload_n 0, 1) := by decide +kernel
theorem dX3_grows_1 : decode cX3_grows 1 = .ok (.getfield 11, 3) := by decide +kernel
theorem dX3_grows_4 : decode cX3_grows 4 = .ok (.bipush 23, 2) := by decide +kernel
theorem dX3_grows_6 : decode cX3_grows 6 = .ok (.iload_n 1, 1) := by decide +kernel
theorem dX3_grows_7 : decode cX3_grows 7 = .ok (.iadd, 1) := by decide +kernel
theorem dX3_grows_8 : decode cX3_grows 8 = .ok (.iaload, 1) := by decide +kernel
theorem dX3_grows_9 : decode cX3_grows 9 = .ok (.ireturn, 1) := by decide +kernel
theorem dX3_used_0 : decode cX3_used 0 = .ok (.aload_n 0, 1) := by decide +kernel
theorem dX3_used_1 : decode cX3_used 1 = .ok (.getfield 11, 3) := by decide +kernel
theorem dX3_used_4 : decode cX3_used 4 = .ok (.bipush 30, 2) := by decide +kernel
theorem dX3_used_6 : decode cX3_used 6 = .ok (.iload_n 1, 1) := by decide +kernel
theorem dX3_used_7 : decode cX3_used 7 = .ok (.iadd, 1) := by decide +kernel
theorem dX3_used_8 : decode cX3_used 8 = .ok (.iaload, 1) := by decide +kernel
theorem dX3_used_9 : decode cX3_used 9 = .ok (.ireturn, 1) := by decide +kernel
theorem dX3_struck_0 : decode cX3_struck 0 = .ok (.aload_n 0, 1) := by decide +kernel
theorem dX3_struck_1 : decode cX3_struck 1 = .ok (.getfield 11, 3) := by decide +kernel
theorem dX3_struck_4 : decode cX3_struck 4 = .ok (.bipush 37, 2) := by decide +kernel
theorem dX3_struck_6 : decode cX3_struck 6 = .ok (.iload_n 1, 1) := by decide +kernel
theorem dX3_struck_7 : decode cX3_struck 7 = .ok (.iadd, 1) := by decide +kernel
theorem dX3_struck_8 : decode cX3_struck 8 = .ok (.iaload, 1) := by decide +kernel
theorem dX3_struck_9 : decode cX3_struck 9 = .ok (.ireturn, 1) := by decide +kernel
theorem dX3_trees_0 : decode cX3_trees 0 = .ok (.aload_n 0, 1) := by decide +kernel
theorem dX3_trees_1 : decode cX3_trees 1 = .ok (.getfield 11, 3) := by decide +kernel
theorem dX3_trees_4 : decode cX3_trees 4 = .ok (.iconst 1, 1) := by decide +kernel
theorem dX3_trees_5 : decode cX3_trees 5 = .ok (.iaload, 1) := by decide +kernel
theorem dX3_trees_6 : decode cX3_trees 6 = .ok (.ireturn, 1) := by decide +kernel
theorem dX3_put_0 : decode cX3_put 0 = .ok (.aload_n 0, 1) := by decide +kernel
theorem dX3_put_1 : decode cX3_put 1 = .ok (.iconst 1, 1) := by decide +kernel
theorem dX3_put_2 : decode cX3_put 2 = .ok (.iaload, 1) := by decide +kernel
theorem dX3_put_3 : decode cX3_put 3 = .ok (.istore 5, 2) := by decide +kernel
theorem dX3_put_5 : decode cX3_put 5 = .ok (.iload 5, 2) := by decide +kernel
theorem dX3_put_7 : decode cX3_put 7 = .ok (.ifCond .lt 10, 3) := by decide +kernel
theorem dX3_put_10 : decode cX3_put 10 = .ok (.iload 5, 2) := by decide +kernel
theorem dX3_put_12 : decode cX3_put 12 = .ok (.bipush 7, 2) := by decide +kernel
theorem dX3_put_14 : decode cX3_put 14 = .ok (.if_icmp .lt 4, 3) := by decide +kernel
theorem dX3_put_17 : decode cX3_put 17 = .ok (.return_, 1) := by decide +kernel
theorem dX3_put_18 : decode cX3_put 18 = .ok (.aload_n 0, 1) := by decide +kernel
theorem dX3_put_19 : decode cX3_put 19 = .ok (.iconst 2, 1) := by decide +kernel
theorem dX3_put_20 : decode cX3_put 20 = .ok (.iload 5, 2) := by decide +kernel
theorem dX3_put_22 : decode cX3_put 22 = .ok (.iadd, 1) := by decide +kernel
theorem dX3_put_23 : decode cX3_put 23 = .ok (.iload_n 1, 1) := by decide +kernel
theorem dX3_put_24 : decode cX3_put 24 = .ok (.iastore, 1) := by decide +kernel
theorem dX3_put_25 : decode cX3_put 25 = .ok (.aload_n 0, 1) := by decide +kernel
theorem dX3_put_26 : decode cX3_put 26 = .ok (.bipush 9, 2) := by decide +kernel
theorem dX3_put_28 : decode cX3_put 28 = .ok (.iload 5, 2) := by decide +kernel
theorem dX3_put_30 : decode cX3_put 30 = .ok (.iadd, 1) := by decide +kernel
theorem dX3_put_31 : decode cX3_put 31 = .ok (.iload_n 2, 1) := by decide +kernel
theorem dX3_put_32 : decode cX3_put 32 = .ok (.iastore, 1) := by decide +kernel
theorem dX3_put_33 : decode cX3_put 33 = .ok (.aload_n 0, 1) := by decide +kernel
theorem dX3_put_34 : decode cX3_put 34 = .ok (.bipush 16, 2) := by decide +kernel
theorem dX3_put_36 : decode cX3_put 36 = .ok (.iload 5, 2) := by decide +kernel
theorem dX3_put_38 : decode cX3_put 38 = .ok (.iadd, 1) := by decide +kernel
theorem dX3_put_39 : decode cX3_put 39 = .ok (.iload_n 3, 1) := by decide +kernel
theorem dX3_put_40 : decode cX3_put 40 = .ok (.iastore, 1) := by decide +kernel
theorem dX3_put_41 : decode cX3_put 41 = .ok (.aload_n 0, 1) := by decide +kernel
theorem dX3_put_42 : decode cX3_put 42 = .ok (.bipush 23, 2) := by decide +kernel
theorem dX3_put_44 : decode cX3_put 44 = .ok (.iload 5, 2) := by decide +kernel
theorem dX3_put_46 : decode cX3_put 46 = .ok (.iadd, 1) := by decide +kernel
theorem dX3_put_47 : decode cX3_put 47 = .ok (.iload 4, 2) := by decide +kernel
theorem dX3_put_49 : decode cX3_put 49 = .ok (.iastore, 1) := by decide +kernel
theorem dX3_put_50 : decode cX3_put 50 = .ok (.aload_n 0, 1) := by decide +kernel
theorem dX3_put_51 : decode cX3_put 51 = .ok (.bipush 30, 2) := by decide +kernel
theorem dX3_put_53 : decode cX3_put 53 = .ok (.iload 5, 2) := by decide +kernel
theorem dX3_put_55 : decode cX3_put 55 = .ok (.iadd, 1) := by decide +kernel
theorem dX3_put_56 : decode cX3_put 56 = .ok (.iconst 0, 1) := by decide +kernel
theorem dX3_put_57 : decode cX3_put 57 = .ok (.iastore, 1) := by decide +kernel
theorem dX3_put_58 : decode cX3_put 58 = .ok (.aload_n 0, 1) := by decide +kernel
theorem dX3_put_59 : decode cX3_put 59 = .ok (.iconst 1, 1) := by decide +kernel
theorem dX3_put_60 : decode cX3_put 60 = .ok (.iload 5, 2) := by decide +kernel
theorem dX3_put_62 : decode cX3_put 62 = .ok (.iconst 1, 1) := by decide +kernel
theorem dX3_put_63 : decode cX3_put 63 = .ok (.iadd, 1) := by decide +kernel
theorem dX3_put_64 : decode cX3_put 64 = .ok (.iastore, 1) := by decide +kernel
theorem dX3_put_65 : decode cX3_put 65 = .ok (.return_, 1) := by decide +kernel
set_option maxRecDepth 20000 in
theorem ggX3_usedUp_X3_trees : GoodIn wsX3_usedUp wsX3_trees := goodIn_r _ [5, 6, 11, 12, 13, 14] (by decide +kernel) (by decide +kernel)
set_option maxRecDepth 20000 in
theorem gX3_usedUp_X3_trees : GoodIn wsX3_usedUp (wsV RX3 18 RX3 yX3_trees wsX3_trees) := goodIn_app (goodIn_of _ (by decide +kernel)) ggX3_usedUp_X3_trees
set_option maxRecDepth 20000 in
theorem ggX3_usedUp_X3_used : GoodIn wsX3_usedUp wsX3_used := goodIn_r _ [10, 6, 11, 12, 13, 14] (by decide +kernel) (by decide +kernel)
set_option maxRecDepth 20000 in
theorem gX3_usedUp_X3_used : GoodIn wsX3_usedUp (wsV RX3 22 RX3 yX3_used wsX3_used) := goodIn_app (goodIn_of _ (by decide +kernel)) ggX3_usedUp_X3_used
theorem dX3_usedUp_0 : decode cX3_usedUp 0 = .ok (.iconst 0, 1) := by decide +kernel
theorem dX3_usedUp_1 : decode cX3_usedUp 1 = .ok (.istore_n 1, 1) := by decide +kernel
theorem dX3_usedUp_2 : decode cX3_usedUp 2 = .ok (.iconst 0, 1) := by decide +kernel
theorem dX3_usedUp_3 : decode cX3_usedUp 3 = .ok (.istore_n 2, 1) := by decide +kernel
theorem dX3_usedUp_4 : decode cX3_usedUp 4 = .ok (.iload_n 2, 1) := by decide +kernel
theorem dX3_usedUp_5 : decode cX3_usedUp 5 = .ok (.aload_n 0, 1) := by decide +kernel
theorem dX3_usedUp_6 : decode cX3_usedUp 6 = .ok (.invokevirtual 18, 3) := by decide +kernel
theorem dX3_usedUp_9 : decode cX3_usedUp 9 = .ok (.if_icmp .ge 23, 3) := by decide +kernel
theorem dX3_usedUp_12 : decode cX3_usedUp 12 = .ok (.aload_n 0, 1) := by decide +kernel
theorem dX3_usedUp_13 : decode cX3_usedUp 13 = .ok (.iload_n 2, 1) := by decide +kernel
theorem dX3_usedUp_14 : decode cX3_usedUp 14 = .ok (.invokevirtual 22, 3) := by decide +kernel
theorem dX3_usedUp_17 : decode cX3_usedUp 17 = .ok (.ifCond .le 9, 3) := by decide +kernel
theorem dX3_usedUp_20 : decode cX3_usedUp 20 = .ok (.iload_n 1, 1) := by decide +kernel
theorem dX3_usedUp_21 : decode cX3_usedUp 21 = .ok (.iconst 1, 1) := by decide +kernel
theorem dX3_usedUp_22 : decode cX3_usedUp 22 = .ok (.iload_n 2, 1) := by decide +kernel
theorem dX3_usedUp_23 : decode cX3_usedUp 23 = .ok (.ishl, 1) := by decide +kernel
theorem dX3_usedUp_24 : decode cX3_usedUp 24 = .ok (.ior, 1) := by decide +kernel
theorem dX3_usedUp_25 : decode cX3_usedUp 25 = .ok (.istore_n 1, 1) := by decide +kernel
theorem dX3_usedUp_26 : decode cX3_usedUp 26 = .ok (.iinc 2 1, 3) := by decide +kernel
theorem dX3_usedUp_29 : decode cX3_usedUp 29 = .ok (.goto (-25), 3) := by decide +kernel
theorem dX3_usedUp_32 : decode cX3_usedUp 32 = .ok (.iload_n 1, 1) := by decide +kernel
theorem dX3_usedUp_33 : decode cX3_usedUp 33 = .ok (.ireturn, 1) := by decide +kernel
set_option maxRecDepth 20000 in
theorem ggX3_standing_X3_used : GoodIn wsX3_standing wsX3_used := goodIn_r _ [9, 10, 19, 20, 21, 22] (by decide +kernel) (by decide +kernel)
set_option maxRecDepth 20000 in
theorem gX3_standing_X3_used : GoodIn wsX3_standing (wsV RX3 22 RX3 yX3_used wsX3_used) := goodIn_app (goodIn_of _ (by decide +kernel)) ggX3_standing_X3_used
set_option maxRecDepth 20000 in
theorem ggX3_standing_X3_high : GoodIn wsX3_standing wsX3_high := goodIn_r _ [14, 10, 19, 20, 21, 22] (by decide +kernel) (by decide +kernel)
set_option maxRecDepth 20000 in
theorem gX3_standing_X3_high : GoodIn wsX3_standing (wsV RX3 26 RX3 yX3_high wsX3_high) := goodIn_app (goodIn_of _ (by decide +kernel)) ggX3_standing_X3_high
set_option maxRecDepth 20000 in
theorem ggX3_standing_X3_grows : GoodIn wsX3_standing wsX3_grows := goodIn_r _ [18, 10, 19, 20, 21, 22] (by decide +kernel) (by decide +kernel)
set_option maxRecDepth 20000 in
theorem gX3_standing_X3_grows : GoodIn wsX3_standing (wsV RX3 29 RX3 yX3_grows wsX3_grows) := goodIn_app (goodIn_of _ (by decide +kernel)) ggX3_standing_X3_grows
theorem dX3_standing_0 : decode cX3_standing 0 = .ok (.iload_n 2, 1) := by decide +kernel
theorem dX3_standing_1 : decode cX3_standing 1 = .ok (.aload_n 0, 1) := by decide +kernel
theorem dX3_standing_2 : decode cX3_standing 2 = .ok (.iload_n 1, 1) := by decide +kernel
theorem dX3_standing_3 : decode cX3_standing 3 = .ok (.invokevirtual 22, 3) := by decide +kernel
theorem dX3_standing_6 : decode cX3_standing 6 = .ok (.isub, 1) := by decide +kernel
theorem dX3_standing_7 : decode cX3_standing 7 = .ok (.istore_n 3, 1) := by decide +kernel
theorem dX3_standing_8 : decode cX3_standing 8 = .ok (.iload_n 3, 1) := by decide +kernel
theorem dX3_standing_9 : decode cX3_standing 9 = .ok (.ifCond .ge 7, 3) := by decide +kernel
theorem dX3_standing_12 : decode cX3_standing 12 = .ok (.iconst 0, 1) := by decide +kernel
theorem dX3_standing_13 : decode cX3_standing 13 = .ok (.goto 21, 3) := by decide +kernel
theorem dX3_standing_16 : decode cX3_standing 16 = .ok (.bipush 99, 2) := by decide +kernel
theorem dX3_standing_18 : decode cX3_standing 18 = .ok (.aload_n 0, 1) := by decide +kernel
theorem dX3_standing_19 : decode cX3_standing 19 = .ok (.iload_n 1, 1) := by decide +kernel
theorem dX3_standing_20 : decode cX3_standing 20 = .ok (.invokevirtual 26, 3) := by decide +kernel
theorem dX3_standing_23 : decode cX3_standing 23 = .ok (.iload_n 3, 1) := by decide +kernel
theorem dX3_standing_24 : decode cX3_standing 24 = .ok (.aload_n 0, 1) := by decide +kernel
theorem dX3_standing_25 : decode cX3_standing 25 = .ok (.iload_n 1, 1) := by decide +kernel
theorem dX3_standing_26 : decode cX3_standing 26 = .ok (.invokevirtual 29, 3) := by decide +kernel
theorem dX3_standing_29 : decode cX3_standing 29 = .ok (.imul, 1) := by decide +kernel
theorem dX3_standing_30 : decode cX3_standing 30 = .ok (.iadd, 1) := by decide +kernel
theorem dX3_standing_31 : decode cX3_standing 31 = .ok (.invokestatic 32, 3) := by decide +kernel
theorem dX3_standing_34 : decode cX3_standing 34 = .ok (.ireturn, 1) := by decide +kernel
set_option maxRecDepth 20000 in
theorem ggX3_pass_X3_trees : GoodIn wsX3_pass wsX3_trees := goodIn_r _ [10, 1, 23, 24, 25, 26] (by decide +kernel) (by decide +kernel)
set_option maxRecDepth 20000 in
theorem gX3_pass_X3_trees : GoodIn wsX3_pass (wsV RX3 18 RX3 yX3_trees wsX3_trees) := goodIn_app (goodIn_of _ (by decide +kernel)) ggX3_pass_X3_trees
set_option maxRecDepth 20000 in
theorem ggX3_pass_X3_used : GoodIn wsX3_pass wsX3_used := goodIn_r _ [14, 1, 23, 24, 25, 26] (by decide +kernel) (by decide +kernel)
set_option maxRecDepth 20000 in
theorem gX3_pass_X3_used : GoodIn wsX3_pass (wsV RX3 22 RX3 yX3_used wsX3_used) := goodIn_app (goodIn_of _ (by decide +kernel)) ggX3_pass_X3_used
set_option maxRecDepth 20000 in
theorem ggX3_pass_X3_high : GoodIn wsX3_pass wsX3_high := goodIn_r _ [18, 1, 23, 24, 25, 26] (by decide +kernel) (by decide +kernel)
set_option maxRecDepth 20000 in
theorem gX3_pass_X3_high : GoodIn wsX3_pass (wsV RX3 26 RX3 yX3_high wsX3_high) := goodIn_app (goodIn_of _ (by decide +kernel)) ggX3_pass_X3_high
set_option maxRecDepth 20000 in
theorem ggX3_pass_X3_grows : GoodIn wsX3_pass wsX3_grows := goodIn_r _ [22, 1, 23, 24, 25, 26] (by decide +kernel) (by decide +kernel)
set_option maxRecDepth 20000 in
theorem gX3_pass_X3_grows : GoodIn wsX3_pass (wsV RX3 29 RX3 yX3_grows wsX3_grows) := goodIn_app (goodIn_of _ (by decide +kernel)) ggX3_pass_X3_grows
theorem dX3_pass_0 : decode cX3_pass 0 = .ok (.iconst 0, 1) := by decide +kernel
theorem dX3_pass_1 : decode cX3_pass 1 = .ok (.istore_n 1, 1) := by decide +kernel
theorem dX3_pass_2 : decode cX3_pass 2 = .ok (.iload_n 1, 1) := by decide +kernel
theorem dX3_pass_3 : decode cX3_pass 3 = .ok (.aload_n 0, 1) := by decide +kernel
theorem dX3_pass_4 : decode cX3_pass 4 = .ok (.invokevirtual 18, 3) := by decide +kernel
theorem dX3_pass_7 : decode cX3_pass 7 = .ok (.if_icmp .ge 58, 3) := by decide +kernel
theorem dX3_pass_10 : decode cX3_pass 10 = .ok (.aload_n 0, 1) := by decide +kernel
theorem dX3_pass_11 : decode cX3_pass 11 = .ok (.iload_n 1, 1) := by decide +kernel
theorem dX3_pass_12 : decode cX3_pass 12 = .ok (.invokevirtual 22, 3) := by decide +kernel
theorem dX3_pass_15 : decode cX3_pass 15 = .ok (.ifCond .le 19, 3) := by decide +kernel
theorem dX3_pass_18 : decode cX3_pass 18 = .ok (.aload_n 0, 1) := by decide +kernel
theorem dX3_pass_19 : decode cX3_pass 19 = .ok (.getfield 11, 3) := by decide +kernel
theorem dX3_pass_22 : decode cX3_pass 22 = .ok (.bipush 30, 2) := by decide +kernel
theorem dX3_pass_24 : decode cX3_pass 24 = .ok (.iload_n 1, 1) := by decide +kernel
theorem dX3_pass_25 : decode cX3_pass 25 = .ok (.iadd, 1) := by decide +kernel
theorem dX3_pass_26 : decode cX3_pass 26 = .ok (.dup2, 1) := by decide +kernel
theorem dX3_pass_27 : decode cX3_pass 27 = .ok (.iaload, 1) := by decide +kernel
theorem dX3_pass_28 : decode cX3_pass 28 = .ok (.iconst 1, 1) := by decide +kernel
theorem dX3_pass_29 : decode cX3_pass 29 = .ok (.isub, 1) := by decide +kernel
theorem dX3_pass_30 : decode cX3_pass 30 = .ok (.iastore, 1) := by decide +kernel
theorem dX3_pass_31 : decode cX3_pass 31 = .ok (.goto 28, 3) := by decide +kernel
theorem dX3_pass_34 : decode cX3_pass 34 = .ok (.aload_n 0, 1) := by decide +kernel
theorem dX3_pass_35 : decode cX3_pass 35 = .ok (.getfield 11, 3) := by decide +kernel
theorem dX3_pass_38 : decode cX3_pass 38 = .ok (.bipush 16, 2) := by decide +kernel
theorem dX3_pass_40 : decode cX3_pass 40 = .ok (.iload_n 1, 1) := by decide +kernel
theorem dX3_pass_41 : decode cX3_pass 41 = .ok (.iadd, 1) := by decide +kernel
theorem dX3_pass_42 : decode cX3_pass 42 = .ok (.bipush 99, 2) := by decide +kernel
theorem dX3_pass_44 : decode cX3_pass 44 = .ok (.aload_n 0, 1) := by decide +kernel
theorem dX3_pass_45 : decode cX3_pass 45 = .ok (.iload_n 1, 1) := by decide +kernel
theorem dX3_pass_46 : decode cX3_pass 46 = .ok (.invokevirtual 26, 3) := by decide +kernel
theorem dX3_pass_49 : decode cX3_pass 49 = .ok (.aload_n 0, 1) := by decide +kernel
theorem dX3_pass_50 : decode cX3_pass 50 = .ok (.iload_n 1, 1) := by decide +kernel
theorem dX3_pass_51 : decode cX3_pass 51 = .ok (.invokevirtual 29, 3) := by decide +kernel
theorem dX3_pass_54 : decode cX3_pass 54 = .ok (.iadd, 1) := by decide +kernel
theorem dX3_pass_55 : decode cX3_pass 55 = .ok (.invokestatic 32, 3) := by decide +kernel
theorem dX3_pass_58 : decode cX3_pass 58 = .ok (.iastore, 1) := by decide +kernel
theorem dX3_pass_59 : decode cX3_pass 59 = .ok (.iinc 1 1, 3) := by decide +kernel
theorem dX3_pass_62 : decode cX3_pass 62 = .ok (.goto (-60), 3) := by decide +kernel
theorem dX3_pass_65 : decode cX3_pass 65 = .ok (.aload_n 0, 1) := by decide +kernel
theorem dX3_pass_66 : decode cX3_pass 66 = .ok (.getfield 11, 3) := by decide +kernel
theorem dX3_pass_69 : decode cX3_pass 69 = .ok (.iconst 0, 1) := by decide +kernel
theorem dX3_pass_70 : decode cX3_pass 70 = .ok (.dup2, 1) := by decide +kernel
theorem dX3_pass_71 : decode cX3_pass 71 = .ok (.iaload, 1) := by decide +kernel
theorem dX3_pass_72 : decode cX3_pass 72 = .ok (.iconst 1, 1) := by decide +kernel
theorem dX3_pass_73 : decode cX3_pass 73 = .ok (.iadd, 1) := by decide +kernel
theorem dX3_pass_74 : decode cX3_pass 74 = .ok (.iastore, 1) := by decide +kernel
theorem dX3_pass_75 : decode cX3_pass 75 = .ok (.return_, 1) := by decide +kernel
theorem dX3_begin_0 : decode cX3_begin 0 = .ok (.aload_n 1, 1) := by decide +kernel
theorem dX3_begin_1 : decode cX3_begin 1 = .ok (.iconst 0, 1) := by decide +kernel
theorem dX3_begin_2 : decode cX3_begin 2 = .ok (.aload_n 0, 1) := by decide +kernel
theorem dX3_begin_3 : decode cX3_begin 3 = .ok (.getfield 11, 3) := by decide +kernel
theorem dX3_begin_6 : decode cX3_begin 6 = .ok (.iconst 0, 1) := by decide +kernel
theorem dX3_begin_7 : decode cX3_begin 7 = .ok (.bipush 43, 2) := by decide +kernel
theorem dX3_begin_9 : decode cX3_begin 9 = .ok (.invokestatic 38, 3) := by decide +kernel
theorem dX3_begin_12 : decode cX3_begin 12 = .ok (.aload_n 0, 1) := by decide +kernel
theorem dX3_begin_13 : decode cX3_begin 13 = .ok (.iconst 0, 1) := by decide +kernel
theorem dX3_begin_14 : decode cX3_begin 14 = .ok (.putfield 44, 3) := by decide +kernel
theorem dX3_begin_17 : decode cX3_begin 17 = .ok (.aload_n 0, 1) := by decide +kernel
theorem dX3_begin_18 : decode cX3_begin 18 = .ok (.iconst 0, 1) := by decide +kernel
theorem dX3_begin_19 : decode cX3_begin 19 = .ok (.putfield 48, 3) := by decide +kernel
theorem dX3_begin_22 : decode cX3_begin 22 = .ok (.return_, 1) := by decide +kernel
theorem dX3_remember_0 : decode cX3_remember 0 = .ok (.aload_n 0, 1) := by decide +kernel
theorem dX3_remember_1 : decode cX3_remember 1 = .ok (.getfield 11, 3) := by decide +kernel
theorem dX3_remember_4 : decode cX3_remember 4 = .ok (.iconst 0, 1) := by decide +kernel
theorem dX3_remember_5 : decode cX3_remember 5 = .ok (.aload_n 0, 1) := by decide +kernel
theorem dX3_remember_6 : decode cX3_remember 6 = .ok (.getfield 15, 3) := by decide +kernel
theorem dX3_remember_9 : decode cX3_remember 9 = .ok (.aload_n 0, 1) := by decide +kernel
theorem dX3_remember_10 : decode cX3_remember 10 = .ok (.getfield 48, 3) := by decide +kernel
theorem dX3_remember_13 : decode cX3_remember 13 = .ok (.bipush 43, 2) := by decide +kernel
theorem dX3_remember_15 : decode cX3_remember 15 = .ok (.imul, 1) := by decide +kernel
theorem dX3_remember_16 : decode cX3_remember 16 = .ok (.bipush 43, 2) := by decide +kernel
theorem dX3_remember_18 : decode cX3_remember 18 = .ok (.invokestatic 38, 3) := by decide +kernel
theorem dX3_remember_21 : decode cX3_remember 21 = .ok (.aload_n 0, 1) := by decide +kernel
theorem dX3_remember_22 : decode cX3_remember 22 = .ok (.aload_n 0, 1) := by decide +kernel
theorem dX3_remember_23 : decode cX3_remember 23 = .ok (.getfield 48, 3) := by decide +kernel
theorem dX3_remember_26 : decode cX3_remember 26 = .ok (.iconst 1, 1) := by decide +kernel
theorem dX3_remember_27 : decode cX3_remember 27 = .ok (.iadd, 1) := by decide +kernel
theorem dX3_remember_28 : decode cX3_remember 28 = .ok (.bipush 10, 2) := by decide +kernel
theorem dX3_remember_30 : decode cX3_remember 30 = .ok (.irem, 1) := by decide +kernel
theorem dX3_remember_31 : decode cX3_remember 31 = .ok (.putfield 48, 3) := by decide +kernel
theorem dX3_remember_34 : decode cX3_remember 34 = .ok (.aload_n 0, 1) := by decide +kernel
theorem dX3_remember_35 : decode cX3_remember 35 = .ok (.bipush 10, 2) := by decide +kernel
theorem dX3_remember_37 : decode cX3_remember 37 = .ok (.aload_n 0, 1) := by decide +kernel
theorem dX3_remember_38 : decode cX3_remember 38 = .ok (.getfield 44, 3) := by decide +kernel
theorem dX3_remember_41 : decode cX3_remember 41 = .ok (.iconst 1, 1) := by decide +kernel
theorem dX3_remember_42 : decode cX3_remember 42 = .ok (.iadd, 1) := by decide +kernel
theorem dX3_remember_43 : decode cX3_remember 43 = .ok (.invokestatic 32, 3) := by decide +kernel
theorem dX3_remember_46 : decode cX3_remember 46 = .ok (.putfield 44, 3) := by decide +kernel
theorem dX3_remember_49 : decode cX3_remember 49 = .ok (.return_, 1) := by decide +kernel
theorem dX3_recall_0 : decode cX3_recall 0 = .ok (.aload_n 0, 1) := by decide +kernel
theorem dX3_recall_1 : decode cX3_recall 1 = .ok (.aload_n 0, 1) := by decide +kernel
theorem dX3_recall_2 : decode cX3_recall 2 = .ok (.getfield 48, 3) := by decide +kernel
theorem dX3_recall_5 : decode cX3_recall 5 = .ok (.bipush 10, 2) := by decide +kernel
theorem dX3_recall_7 : decode cX3_recall 7 = .ok (.iadd, 1) := by decide +kernel
theorem dX3_recall_8 : decode cX3_recall 8 = .ok (.iconst 1, 1) := by decide +kernel
theorem dX3_recall_9 : decode cX3_recall 9 = .ok (.isub, 1) := by decide +kernel
theorem dX3_recall_10 : decode cX3_recall 10 = .ok (.bipush 10, 2) := by decide +kernel
theorem dX3_recall_12 : decode cX3_recall 12 = .ok (.irem, 1) := by decide +kernel
theorem dX3_recall_13 : decode cX3_recall 13 = .ok (.putfield 48, 3) := by decide +kernel
theorem dX3_recall_16 : decode cX3_recall 16 = .ok (.aload_n 0, 1) := by decide +kernel
theorem dX3_recall_17 : decode cX3_recall 17 = .ok (.dup, 1) := by decide +kernel
theorem dX3_recall_18 : decode cX3_recall 18 = .ok (.getfield 44, 3) := by decide +kernel
theorem dX3_recall_21 : decode cX3_recall 21 = .ok (.iconst 1, 1) := by decide +kernel
theorem dX3_recall_22 : decode cX3_recall 22 = .ok (.isub, 1) := by decide +kernel
theorem dX3_recall_23 : decode cX3_recall 23 = .ok (.putfield 44, 3) := by decide +kernel
theorem dX3_recall_26 : decode cX3_recall 26 = .ok (.aload_n 0, 1) := by decide +kernel
theorem dX3_recall_27 : decode cX3_recall 27 = .ok (.getfield 15, 3) := by decide +kernel
theorem dX3_recall_30 : decode cX3_recall 30 = .ok (.aload_n 0, 1) := by decide +kernel
theorem dX3_recall_31 : decode cX3_recall 31 = .ok (.getfield 48, 3) := by decide +kernel
theorem dX3_recall_34 : decode cX3_recall 34 = .ok (.bipush 43, 2) := by decide +kernel
theorem dX3_recall_36 : decode cX3_recall 36 = .ok (.imul, 1) := by decide +kernel
theorem dX3_recall_37 : decode cX3_recall 37 = .ok (.aload_n 0, 1) := by decide +kernel
theorem dX3_recall_38 : decode cX3_recall 38 = .ok (.getfield 11, 3) := by decide +kernel
theorem dX3_recall_41 : decode cX3_recall 41 = .ok (.iconst 0, 1) := by decide +kernel
theorem dX3_recall_42 : decode cX3_recall 42 = .ok (.bipush 43, 2) := by decide +kernel
theorem dX3_recall_44 : decode cX3_recall 44 = .ok (.invokestatic 38, 3) := by decide +kernel
theorem dX3_recall_47 : decode cX3_recall 47 = .ok (.return_, 1) := by decide +kernel
theorem dX3_become_0 : decode cX3_become 0 = .ok (.aload_n 1, 1) := by decide +kernel
theorem dX3_become_1 : decode cX3_become 1 = .ok (.getfield 11, 3) := by decide +kernel
theorem dX3_become_4 : decode cX3_become 4 = .ok (.iconst 0, 1) := by decide +kernel
theorem dX3_become_5 : decode cX3_become 5 = .ok (.aload_n 0, 1) := by decide +kernel
theorem dX3_become_6 : decode cX3_become 6 = .ok (.getfield 11, 3) := by decide +kernel
theorem dX3_become_9 : decode cX3_become 9 = .ok (.iconst 0, 1) := by decide +kernel
theorem dX3_become_10 : decode cX3_become 10 = .ok (.bipush 43, 2) := by decide +kernel
theorem dX3_become_12 : decode cX3_become 12 = .ok (.invokestatic 38, 3) := by decide +kernel
theorem dX3_become_15 : decode cX3_become 15 = .ok (.aload_n 1, 1) := by decide +kernel
theorem dX3_become_16 : decode cX3_become 16 = .ok (.getfield 15, 3) := by decide +kernel
theorem dX3_become_19 : decode cX3_become 19 = .ok (.iconst 0, 1) := by decide +kernel
theorem dX3_become_20 : decode cX3_become 20 = .ok (.aload_n 0, 1) := by decide +kernel
theorem dX3_become_21 : decode cX3_become 21 = .ok (.getfield 15, 3) := by decide +kernel
theorem dX3_become_24 : decode cX3_become 24 = .ok (.iconst 0, 1) := by decide +kernel
theorem dX3_become_25 : decode cX3_become 25 = .ok (.sipush 430, 3) := by decide +kernel
theorem dX3_become_28 : decode cX3_become 28 = .ok (.invokestatic 38, 3) := by decide +kernel
theorem dX3_become_31 : decode cX3_become 31 = .ok (.aload_n 0, 1) := by decide +kernel
theorem dX3_become_32 : decode cX3_become 32 = .ok (.aload_n 1, 1) := by decide +kernel
theorem dX3_become_33 : decode cX3_become 33 = .ok (.getfield 44, 3) := by decide +kernel
theorem dX3_become_36 : decode cX3_become 36 = .ok (.putfield 44, 3) := by decide +kernel
theorem dX3_become_39 : decode cX3_become 39 = .ok (.aload_n 0, 1) := by decide +kernel
theorem dX3_become_40 : decode cX3_become 40 = .ok (.aload_n 1, 1) := by decide +kernel
theorem dX3_become_41 : decode cX3_become 41 = .ok (.getfield 48, 3) := by decide +kernel
theorem dX3_become_44 : decode cX3_become 44 = .ok (.putfield 48, 3) := by decide +kernel
theorem dX3_become_47 : decode cX3_become 47 = .ok (.return_, 1) := by decide +kernel
theorem dX4_init_0 : decode cX4_init 0 = .ok (.aload_n 0, 1) := by decide +kernel
theorem dX4_init_1 : decode cX4_init 1 = .ok (.invokespecial 3, 3) := by decide +kernel
theorem dX4_init_4 : decode cX4_init 4 = .ok (.aload_n 0, 1) := by decide +kernel
theorem dX4_init_5 : decode cX4_init 5 = .ok (.aload_n 1, 1) := by decide +kernel
theorem dX4_init_6 : decode cX4_init 6 = .ok (.putfield 9, 3) := by decide +kernel
theorem dX4_init_9 : decode cX4_init 9 = .ok (.aload_n 0, 1) := by decide +kernel
theorem dX4_init_10 : decode cX4_init 10 = .ok (.aload_n 2, 1) := by decide +kernel
theorem dX4_init_11 : decode cX4_init 11 = .ok (.putfield 15, 3) := by decide +kernel
theorem dX4_init_14 : decode cX4_init 14 = .ok (.aload_n 0, 1) := by decide +kernel
theorem dX4_init_15 : decode cX4_init 15 = .ok (.aload_n 3, 1) := by decide +kernel
theorem dX4_init_16 : decode cX4_init 16 = .ok (.putfield 19, 3) := by decide +kernel
theorem dX4_init_19 : decode cX4_init 19 = .ok (.return_, 1) := by decide +kernel
set_option maxRecDepth 20000 in
theorem ggX4_strikes_X3_trees : GoodIn wsX4_strikes wsX3_trees := goodIn_r _ [15, 16, 42, 43, 44, 45] (by decide +kernel) (by decide +kernel)
set_option maxRecDepth 20000 in
theorem gX4_strikes_X3_trees : GoodIn wsX4_strikes (wsV RX4 23 RX3 yX3_trees wsX3_trees) := goodIn_app (goodIn_of _ (by decide +kernel)) ggX4_strikes_X3_trees
set_option maxRecDepth 20000 in
theorem ggX4_strikes_X3_y : GoodIn wsX4_strikes wsX3_y := goodIn_r _ [20, 16, 42, 43, 44, 45] (by decide +kernel) (by decide +kernel)
set_option maxRecDepth 20000 in
theorem gX4_strikes_X3_y : GoodIn wsX4_strikes (wsV RX4 29 RX3 yX3_y wsX3_y) := goodIn_app (goodIn_of _ (by decide +kernel)) ggX4_strikes_X3_y
set_option maxRecDepth 20000 in
theorem ggX4_strikes_X3_high : GoodIn wsX4_strikes wsX3_high := goodIn_r _ [24, 16, 42, 43, 44, 45] (by decide +kernel) (by decide +kernel)
set_option maxRecDepth 20000 in
theorem gX4_strikes_X3_high : GoodIn wsX4_strikes (wsV RX4 38 RX3 yX3_high wsX3_high) := goodIn_app (goodIn_of _ (by decide +kernel)) ggX4_strikes_X3_high
set_option maxRecDepth 20000 in
theorem ggX4_strikes_X3_x : GoodIn wsX4_strikes wsX3_x := goodIn_r _ [28, 16, 42, 43, 44, 45] (by decide +kernel) (by decide +kernel)
set_option maxRecDepth 20000 in
theorem gX4_strikes_X3_x : GoodIn wsX4_strikes (wsV RX4 41 RX3 yX3_x wsX3_x) := goodIn_app (goodIn_of _ (by decide +kernel)) ggX4_strikes_X3_x
set_option maxRecDepth 20000 in
theorem ggX4_strikes_X4_isAhead : GoodIn wsX4_strikes wsX4_isAhead := goodIn_r _ [32] (by decide +kernel) (by decide +kernel)
set_option maxRecDepth 20000 in
theorem gX4_strikes_X4_isAhead : GoodIn wsX4_strikes (va_wsS RX4 44 yX4_isAhead wsX4_isAhead) := goodIn_app (goodIn_of _ (by decide +kernel)) ggX4_strikes_X4_isAhead
theorem dX4_strikes_0 : decode cX4_strikes 0 = .ok (.bipush (-9), 2) := by decide +kernel
theorem dX4_strikes_2 : decode cX4_strikes 2 = .ok (.istore_n 3, 1) := by decide +kernel
theorem dX4_strikes_3 : decode cX4_strikes 3 = .ok (.iconst 0, 1) := by decide +kernel
theorem dX4_strikes_4 : decode cX4_strikes 4 = .ok (.istore 4, 2) := by decide +kernel
theorem dX4_strikes_6 : decode cX4_strikes 6 = .ok (.iconst 0, 1) := by decide +kernel
theorem dX4_strikes_7 : decode cX4_strikes 7 = .ok (.istore 5, 2) := by decide +kernel
theorem dX4_strikes_9 : decode cX4_strikes 9 = .ok (.iconst 0, 1) := by decide +kernel
theorem dX4_strikes_10 : decode cX4_strikes 10 = .ok (.istore 6, 2) := by decide +kernel
theorem dX4_strikes_12 : decode cX4_strikes 12 = .ok (.iload 6, 2) := by decide +kernel
theorem dX4_strikes_14 : decode cX4_strikes 14 = .ok (.aload_n 0, 1) := by decide +kernel
theorem dX4_strikes_15 : decode cX4_strikes 15 = .ok (.getfield 15, 3) := by decide +kernel
theorem dX4_strikes_18 : decode cX4_strikes 18 = .ok (.invokevirtual 23, 3) := by decide +kernel
theorem dX4_strikes_21 : decode cX4_strikes 21 = .ok (.if_icmp .ge 89, 3) := by decide +kernel
theorem dX4_strikes_24 : decode cX4_strikes 24 = .ok (.iload_n 2, 1) := by decide +kernel
theorem dX4_strikes_25 : decode cX4_strikes 25 = .ok (.iload 6, 2) := by decide +kernel
theorem dX4_strikes_27 : decode cX4_strikes 27 = .ok (.ishr, 1) := by decide +kernel
theorem dX4_strikes_28 : decode cX4_strikes 28 = .ok (.iconst 1, 1) := by decide +kernel
theorem dX4_strikes_29 : decode cX4_strikes 29 = .ok (.iand, 1) := by decide +kernel
theorem dX4_strikes_30 : decode cX4_strikes 30 = .ok (.ifCond .ne 74, 3) := by decide +kernel
theorem dX4_strikes_33 : decode cX4_strikes 33 = .ok (.aload_n 0, 1) := by decide +kernel
theorem dX4_strikes_34 : decode cX4_strikes 34 = .ok (.getfield 15, 3) := by decide +kernel
theorem dX4_strikes_37 : decode cX4_strikes 37 = .ok (.iload 6, 2) := by decide +kernel
theorem dX4_strikes_39 : decode cX4_strikes 39 = .ok (.invokevirtual 29, 3) := by decide +kernel
theorem dX4_strikes_42 : decode cX4_strikes 42 = .ok (.iload_n 1, 1) := by decide +kernel
theorem dX4_strikes_43 : decode cX4_strikes 43 = .ok (.isub, 1) := by decide +kernel
theorem dX4_strikes_44 : decode cX4_strikes 44 = .ok (.invokestatic 33, 3) := by decide +kernel
theorem dX4_strikes_47 : decode cX4_strikes 47 = .ok (.iconst 2, 1) := by decide +kernel
theorem dX4_strikes_48 : decode cX4_strikes 48 = .ok (.if_icmp .gt 56, 3) := by decide +kernel
theorem dX4_strikes_51 : decode cX4_strikes 51 = .ok (.aload_n 0, 1) := by decide +kernel
theorem dX4_strikes_52 : decode cX4_strikes 52 = .ok (.getfield 15, 3) := by decide +kernel
theorem dX4_strikes_55 : decode cX4_strikes 55 = .ok (.iload 6, 2) := by decide +kernel
theorem dX4_strikes_57 : decode cX4_strikes 57 = .ok (.invokevirtual 38, 3) := by decide +kernel
theorem dX4_strikes_60 : decode cX4_strikes 60 = .ok (.aload_n 0, 1) := by decide +kernel
theorem dX4_strikes_61 : decode cX4_strikes 61 = .ok (.getfield 15, 3) := by decide +kernel
theorem dX4_strikes_64 : decode cX4_strikes 64 = .ok (.iload 6, 2) := by decide +kernel
theorem dX4_strikes_66 : decode cX4_strikes 66 = .ok (.invokevirtual 41, 3) := by decide +kernel
theorem dX4_strikes_69 : decode cX4_strikes 69 = .ok (.iload 4, 2) := by decide +kernel
theorem dX4_strikes_71 : decode cX4_strikes 71 = .ok (.iload 5, 2) := by decide +kernel
theorem dX4_strikes_73 : decode cX4_strikes 73 = .ok (.invokestatic 44, 3) := by decide +kernel
theorem dX4_strikes_76 : decode cX4_strikes 76 = .ok (.ifCond .eq 28, 3) := by decide +kernel
theorem dX4_strikes_79 : decode cX4_strikes 79 = .ok (.iload 6, 2) := by decide +kernel
theorem dX4_strikes_81 : decode cX4_strikes 81 = .ok (.istore_n 3, 1) := by decide +kernel
theorem dX4_strikes_82 : decode cX4_strikes 82 = .ok (.aload_n 0, 1) := by decide +kernel
theorem dX4_strikes_83 : decode cX4_strikes 83 = .ok (.getfield 15, 3) := by decide +kernel
theorem dX4_strikes_86 : decode cX4_strikes 86 = .ok (.iload 6, 2) := by decide +kernel
theorem dX4_strikes_88 : decode cX4_strikes 88 = .ok (.invokevirtual 38, 3) := by decide +kernel
theorem dX4_strikes_91 : decode cX4_strikes 91 = .ok (.istore 4, 2) := by decide +kernel
theorem dX4_strikes_93 : decode cX4_strikes 93 = .ok (.aload_n 0, 1) := by decide +kernel
theorem dX4_strikes_94 : decode cX4_strikes 94 = .ok (.getfield 15, 3) := by decide +kernel
theorem dX4_strikes_97 : decode cX4_strikes 97 = .ok (.iload 6, 2) := by decide +kernel
theorem dX4_strikes_99 : decode cX4_strikes 99 = .ok (.invokevirtual 41, 3) := by decide +kernel
theorem dX4_strikes_102 : decode cX4_strikes 102 = .ok (.istore 5, 2) := by decide +kernel
theorem dX4_strikes_104 : decode cX4_strikes 104 = .ok (.iinc 6 1, 3) := by decide +kernel
theorem dX4_strikes_107 : decode cX4_strikes 107 = .ok (.goto (-95), 3) := by decide +kernel
theorem dX4_strikes_110 : decode cX4_strikes 110 = .ok (.iconst 0, 1) := by decide +kernel
theorem dX4_strikes_111 : decode cX4_strikes 111 = .ok (.istore 6, 2) := by decide +kernel
theorem dX4_strikes_113 : decode cX4_strikes 113 = .ok (.iload 6, 2) := by decide +kernel
theorem dX4_strikes_115 : decode cX4_strikes 115 = .ok (.aload_n 0, 1) := by decide +kernel
theorem dX4_strikes_116 : decode cX4_strikes 116 = .ok (.getfield 9, 3) := by decide +kernel
theorem dX4_strikes_119 : decode cX4_strikes 119 = .ok (.getfield 48, 3) := by decide +kernel
theorem dX4_strikes_122 : decode cX4_strikes 122 = .ok (.if_icmp .ge 88, 3) := by decide +kernel
theorem dX4_strikes_125 : decode cX4_strikes 125 = .ok (.aload_n 0, 1) := by decide +kernel
theorem dX4_strikes_126 : decode cX4_strikes 126 = .ok (.getfield 9, 3) := by decide +kernel
theorem dX4_strikes_129 : decode cX4_strikes 129 = .ok (.getfield 54, 3) := by decide +kernel
theorem dX4_strikes_132 : decode cX4_strikes 132 = .ok (.iload 6, 2) := by decide +kernel
theorem dX4_strikes_134 : decode cX4_strikes 134 = .ok (.iaload, 1) := by decide +kernel
theorem dX4_strikes_135 : decode cX4_strikes 135 = .ok (.iload_n 1, 1) := by decide +kernel
theorem dX4_strikes_136 : decode cX4_strikes 136 = .ok (.isub, 1) := by decide +kernel
theorem dX4_strikes_137 : decode cX4_strikes 137 = .ok (.invokestatic 33, 3) := by decide +kernel
theorem dX4_strikes_140 : decode cX4_strikes 140 = .ok (.iconst 2, 1) := by decide +kernel
theorem dX4_strikes_141 : decode cX4_strikes 141 = .ok (.if_icmp .gt 63, 3) := by decide +kernel
theorem dX4_strikes_144 : decode cX4_strikes 144 = .ok (.aload_n 0, 1) := by decide +kernel
theorem dX4_strikes_145 : decode cX4_strikes 145 = .ok (.getfield 9, 3) := by decide +kernel
theorem dX4_strikes_148 : decode cX4_strikes 148 = .ok (.getfield 56, 3) := by decide +kernel
theorem dX4_strikes_151 : decode cX4_strikes 151 = .ok (.iload 6, 2) := by decide +kernel
theorem dX4_strikes_153 : decode cX4_strikes 153 = .ok (.iaload, 1) := by decide +kernel
theorem dX4_strikes_154 : decode cX4_strikes 154 = .ok (.aload_n 0, 1) := by decide +kernel
theorem dX4_strikes_155 : decode cX4_strikes 155 = .ok (.getfield 9, 3) := by decide +kernel
theorem dX4_strikes_158 : decode cX4_strikes 158 = .ok (.getfield 58, 3) := by decide +kernel
theorem dX4_strikes_161 : decode cX4_strikes 161 = .ok (.iload 6, 2) := by decide +kernel
theorem dX4_strikes_163 : decode cX4_strikes 163 = .ok (.iaload, 1) := by decide +kernel
theorem dX4_strikes_164 : decode cX4_strikes 164 = .ok (.iload 4, 2) := by decide +kernel
theorem dX4_strikes_166 : decode cX4_strikes 166 = .ok (.iload 5, 2) := by decide +kernel
theorem dX4_strikes_168 : decode cX4_strikes 168 = .ok (.invokestatic 44, 3) := by decide +kernel
theorem dX4_strikes_171 : decode cX4_strikes 171 = .ok (.ifCond .eq 33, 3) := by decide +kernel
theorem dX4_strikes_174 : decode cX4_strikes 174 = .ok (.bipush 100, 2) := by decide +kernel
theorem dX4_strikes_176 : decode cX4_strikes 176 = .ok (.iload 6, 2) := by decide +kernel
theorem dX4_strikes_178 : decode cX4_strikes 178 = .ok (.iadd, 1) := by decide +kernel
theorem dX4_strikes_179 : decode cX4_strikes 179 = .ok (.istore_n 3, 1) := by decide +kernel
theorem dX4_strikes_180 : decode cX4_strikes 180 = .ok (.aload_n 0, 1) := by decide +kernel
theorem dX4_strikes_181 : decode cX4_strikes 181 = .ok (.getfield 9, 3) := by decide +kernel
theorem dX4_strikes_184 : decode cX4_strikes 184 = .ok (.getfield 56, 3) := by decide +kernel
theorem dX4_strikes_187 : decode cX4_strikes 187 = .ok (.iload 6, 2) := by decide +kernel
theorem dX4_strikes_189 : decode cX4_strikes 189 = .ok (.iaload, 1) := by decide +kernel
theorem dX4_strikes_190 : decode cX4_strikes 190 = .ok (.istore 4, 2) := by decide +kernel
theorem dX4_strikes_192 : decode cX4_strikes 192 = .ok (.aload_n 0, 1) := by decide +kernel
theorem dX4_strikes_193 : decode cX4_strikes 193 = .ok (.getfield 9, 3) := by decide +kernel
theorem dX4_strikes_196 : decode cX4_strikes 196 = .ok (.getfield 58, 3) := by decide +kernel
theorem dX4_strikes_199 : decode cX4_strikes 199 = .ok (.iload 6, 2) := by decide +kernel
theorem dX4_strikes_201 : decode cX4_strikes 201 = .ok (.iaload, 1) := by decide +kernel
theorem dX4_strikes_202 : decode cX4_strikes 202 = .ok (.istore 5, 2) := by decide +kernel
theorem dX4_strikes_204 : decode cX4_strikes 204 = .ok (.iinc 6 1, 3) := by decide +kernel
theorem dX4_strikes_207 : decode cX4_strikes 207 = .ok (.goto (-94), 3) := by decide +kernel
theorem dX4_strikes_210 : decode cX4_strikes 210 = .ok (.iload_n 3, 1) := by decide +kernel
theorem dX4_strikes_211 : decode cX4_strikes 211 = .ok (.ireturn, 1) := by decide +kernel
theorem dX4_isAhead_0 : decode cX4_isAhead 0 = .ok (.iload_n 0, 1) := by decide +kernel
theorem dX4_isAhead_1 : decode cX4_isAhead 1 = .ok (.iload_n 2, 1) := by decide +kernel
theorem dX4_isAhead_2 : decode cX4_isAhead 2 = .ok (.if_icmp .gt 13, 3) := by decide +kernel
theorem dX4_isAhead_5 : decode cX4_isAhead 5 = .ok (.iload_n 0, 1) := by decide +kernel
theorem dX4_isAhead_6 : decode cX4_isAhead 6 = .ok (.iload_n 2, 1) := by decide +kernel
theorem dX4_isAhead_7 : decode cX4_isAhead 7 = .ok (.if_icmp .ne 12, 3) := by decide +kernel
theorem dX4_isAhead_10 : decode cX4_isAhead 10 = .ok (.iload_n 1, 1) := by decide +kernel
theorem dX4_isAhead_11 : decode cX4_isAhead 11 = .ok (.iload_n 3, 1) := by decide +kernel
theorem dX4_isAhead_12 : decode cX4_isAhead 12 = .ok (.if_icmp .ge 7, 3) := by decide +kernel
theorem dX4_isAhead_15 : decode cX4_isAhead 15 = .ok (.iconst 1, 1) := by decide +kernel
theorem dX4_isAhead_16 : decode cX4_isAhead 16 = .ok (.goto 4, 3) := by decide +kernel
theorem dX4_isAhead_19 : decode cX4_isAhead 19 = .ok (.iconst 0, 1) := by decide +kernel
theorem dX4_isAhead_20 : decode cX4_isAhead 20 = .ok (.ireturn, 1) := by decide +kernel
set_option maxRecDepth 20000 in
theorem ggX4_tracksOf_X3_usedUp : GoodIn wsX4_tracksOf wsX3_usedUp := goodIn_r _ [6, 7, 8, 9, 5, 10, 11, 12, 13, 14, 15, 49, 50, 51, 52] (by decide +kernel) (by decide +kernel)
set_option maxRecDepth 20000 in
theorem gX4_tracksOf_X3_usedUp : GoodIn wsX4_tracksOf (wsV RX4 60 RX3 yX3_usedUp wsX3_usedUp) := goodIn_app (goodIn_of _ (by decide +kernel)) ggX4_tracksOf_X3_usedUp
set_option maxRecDepth 20000 in
theorem ggX4_tracksOf_X4_strikes : GoodIn wsX4_tracksOf wsX4_strikes := goodIn_r _ [20, 1, 21, 22, 23, 24, 25, 26, 27, 28, 29, 30, 8, 9, 5, 10, 11, 31, 32, 33, 34, 35, 36, 37, 38, 39, 40, 41, 42, 43, 44, 19, 45, 46, 47, 48, 53, 54, 55, 56, 57, 58, 49, 50, 51, 52] (by decide +kernel) (by decide +kernel)
set_option maxRecDepth 20000 in
theorem gX4_tracksOf_X4_strikes : GoodIn wsX4_tracksOf (wsV RX4 63 RX4 yX4_strikes wsX4_strikes) := goodIn_app (goodIn_of _ (by decide +kernel)) ggX4_tracksOf_X4_strikes
theorem dX4_tracksOf_0 : decode cX4_tracksOf 0 = .ok (.aload_n 0, 1) := by decide +kernel
theorem dX4_tracksOf_1 : decode cX4_tracksOf 1 = .ok (.getfield 15, 3) := by decide +kernel
theorem dX4_tracksOf_4 : decode cX4_tracksOf 4 = .ok (.invokevirtual 60, 3) := by decide +kernel
theorem dX4_tracksOf_7 : decode cX4_tracksOf 7 = .ok (.istore_n 2, 1) := by decide +kernel
theorem dX4_tracksOf_8 : decode cX4_tracksOf 8 = .ok (.iconst 0, 1) := by decide +kernel
theorem dX4_tracksOf_9 : decode cX4_tracksOf 9 = .ok (.istore_n 3, 1) := by decide +kernel
theorem dX4_tracksOf_10 : decode cX4_tracksOf 10 = .ok (.iconst 0, 1) := by decide +kernel
theorem dX4_tracksOf_11 : decode cX4_tracksOf 11 = .ok (.istore 4, 2) := by decide +kernel
theorem dX4_tracksOf_13 : decode cX4_tracksOf 13 = .ok (.iload 4, 2) := by decide +kernel
theorem dX4_tracksOf_15 : decode cX4_tracksOf 15 = .ok (.bipush 10, 2) := by decide +kernel
theorem dX4_tracksOf_17 : decode cX4_tracksOf 17 = .ok (.if_icmp .ge 27, 3) := by decide +kernel
theorem dX4_tracksOf_20 : decode cX4_tracksOf 20 = .ok (.aload_n 0, 1) := by decide +kernel
theorem dX4_tracksOf_21 : decode cX4_tracksOf 21 = .ok (.iload 4, 2) := by decide +kernel
theorem dX4_tracksOf_23 : decode cX4_tracksOf 23 = .ok (.iload_n 2, 1) := by decide +kernel
theorem dX4_tracksOf_24 : decode cX4_tracksOf 24 = .ok (.invokevirtual 63, 3) := by decide +kernel
theorem dX4_tracksOf_27 : decode cX4_tracksOf 27 = .ok (.iload_n 1, 1) := by decide +kernel
theorem dX4_tracksOf_28 : decode cX4_tracksOf 28 = .ok (.if_icmp .ne 10, 3) := by decide +kernel
theorem dX4_tracksOf_31 : decode cX4_tracksOf 31 = .ok (.iload_n 3, 1) := by decide +kernel
theorem dX4_tracksOf_32 : decode cX4_tracksOf 32 = .ok (.iconst 1, 1) := by decide +kernel
theorem dX4_tracksOf_33 : decode cX4_tracksOf 33 = .ok (.iload 4, 2) := by decide +kernel
theorem dX4_tracksOf_35 : decode cX4_tracksOf 35 = .ok (.ishl, 1) := by decide +kernel
theorem dX4_tracksOf_36 : decode cX4_tracksOf 36 = .ok (.ior, 1) := by decide +kernel
theorem dX4_tracksOf_37 : decode cX4_tracksOf 37 = .ok (.istore_n 3, 1) := by decide +kernel
theorem dX4_tracksOf_38 : decode cX4_tracksOf 38 = .ok (.iinc 4 1, 3) := by decide +kernel
theorem dX4_tracksOf_41 : decode cX4_tracksOf 41 = .ok (.goto (-28), 3) := by decide +kernel
theorem dX4_tracksOf_44 : decode cX4_tracksOf 44 = .ok (.iload_n 3, 1) := by decide +kernel
theorem dX4_tracksOf_45 : decode cX4_tracksOf 45 = .ok (.ireturn, 1) := by decide +kernel
set_option maxRecDepth 20000 in
theorem ggX4_chance_X4_missing : GoodIn wsX4_chance wsX4_missing := goodIn_r _ [5, 6, 7, 8, 9, 10, 11, 12, 13, 14, 15, 16, 17, 18, 19, 20, 21, 22, 23, 24, 25, 4, 26, 27, 28, 29, 30, 31, 32, 33, 34, 35, 36, 37, 38, 39, 40, 41, 42, 43, 44, 45, 46, 47, 48, 49, 50, 51, 52, 53, 54, 55, 56, 57, 58, 59, 60, 61, 62, 63, 64, 65, 66, 67] (by decide +kernel) (by decide +kernel)
set_option maxRecDepth 20000 in
theorem gX4_chance_X4_missing : GoodIn wsX4_chance (wsV RX4 67 RX4 yX4_missing wsX4_missing) := goodIn_app (goodIn_of _ (by decide +kernel)) ggX4_chance_X4_missing
theorem dX4_chance_0 : decode cX4_chance 0 = .ok (.iconst 1, 1) := by decide +kernel
theorem dX4_chance_1 : decode cX4_chance 1 = .ok (.istore 4, 2) := by decide +kernel
theorem dX4_chance_3 : decode cX4_chance 3 = .ok (.iconst 0, 1) := by decide +kernel
theorem dX4_chance_4 : decode cX4_chance 4 = .ok (.istore 5, 2) := by decide +kernel
theorem dX4_chance_6 : decode cX4_chance 6 = .ok (.iload 5, 2) := by decide +kernel
theorem dX4_chance_8 : decode cX4_chance 8 = .ok (.iload_n 2, 1) := by decide +kernel
theorem dX4_chance_9 : decode cX4_chance 9 = .ok (.if_icmp .ge 16, 3) := by decide +kernel
theorem dX4_chance_12 : decode cX4_chance 12 = .ok (.iload 4, 2) := by decide +kernel
theorem dX4_chance_14 : decode cX4_chance 14 = .ok (.bipush 10, 2) := by decide +kernel
theorem dX4_chance_16 : decode cX4_chance 16 = .ok (.imul, 1) := by decide +kernel
theorem dX4_chance_17 : decode cX4_chance 17 = .ok (.istore 4, 2) := by decide +kernel
theorem dX4_chance_19 : decode cX4_chance 19 = .ok (.iinc 5 1, 3) := by decide +kernel
theorem dX4_chance_22 : decode cX4_chance 22 = .ok (.goto (-16), 3) := by decide +kernel
theorem dX4_chance_25 : decode cX4_chance 25 = .ok (.iload 4, 2) := by decide +kernel
theorem dX4_chance_27 : decode cX4_chance 27 = .ok (.aload_n 0, 1) := by decide +kernel
theorem dX4_chance_28 : decode cX4_chance 28 = .ok (.iload_n 1, 1) := by decide +kernel
theorem dX4_chance_29 : decode cX4_chance 29 = .ok (.iload_n 2, 1) := by decide +kernel
theorem dX4_chance_30 : decode cX4_chance 30 = .ok (.invokevirtual 67, 3) := by decide +kernel
theorem dX4_chance_33 : decode cX4_chance 33 = .ok (.isub, 1) := by decide +kernel
theorem dX4_chance_34 : decode cX4_chance 34 = .ok (.istore 5, 2) := by decide +kernel
theorem dX4_chance_36 : decode cX4_chance 36 = .ok (.iconst 0, 1) := by decide +kernel
theorem dX4_chance_37 : decode cX4_chance 37 = .ok (.istore 6, 2) := by decide +kernel
theorem dX4_chance_39 : decode cX4_chance 39 = .ok (.iload 6, 2) := by decide +kernel
theorem dX4_chance_41 : decode cX4_chance 41 = .ok (.iload_n 2, 1) := by decide +kernel
theorem dX4_chance_42 : decode cX4_chance 42 = .ok (.if_icmp .ge 47, 3) := by decide +kernel
theorem dX4_chance_45 : decode cX4_chance 45 = .ok (.iload 5, 2) := by decide +kernel
theorem dX4_chance_47 : decode cX4_chance 47 = .ok (.iconst 2, 1) := by decide +kernel
theorem dX4_chance_48 : decode cX4_chance 48 = .ok (.irem, 1) := by decide +kernel
theorem dX4_chance_49 : decode cX4_chance 49 = .ok (.ifCond .ne 15, 3) := by decide +kernel
theorem dX4_chance_52 : decode cX4_chance 52 = .ok (.iload 5, 2) := by decide +kernel
theorem dX4_chance_54 : decode cX4_chance 54 = .ok (.iconst 2, 1) := by decide +kernel
theorem dX4_chance_55 : decode cX4_chance 55 = .ok (.idiv, 1) := by decide +kernel
theorem dX4_chance_56 : decode cX4_chance 56 = .ok (.istore 5, 2) := by decide +kernel
theorem dX4_chance_58 : decode cX4_chance 58 = .ok (.iload 4, 2) := by decide +kernel
theorem dX4_chance_60 : decode cX4_chance 60 = .ok (.iconst 2, 1) := by decide +kernel
theorem dX4_chance_61 : decode cX4_chance 61 = .ok (.idiv, 1) := by decide +kernel
theorem dX4_chance_62 : decode cX4_chance 62 = .ok (.istore 4, 2) := by decide +kernel
theorem dX4_chance_64 : decode cX4_chance 64 = .ok (.iload 5, 2) := by decide +kernel
theorem dX4_chance_66 : decode cX4_chance 66 = .ok (.iconst 5, 1) := by decide +kernel
theorem dX4_chance_67 : decode cX4_chance 67 = .ok (.irem, 1) := by decide +kernel
theorem dX4_chance_68 : decode cX4_chance 68 = .ok (.ifCond .ne 15, 3) := by decide +kernel
theorem dX4_chance_71 : decode cX4_chance 71 = .ok (.iload 5, 2) := by decide +kernel
theorem dX4_chance_73 : decode cX4_chance 73 = .ok (.iconst 5, 1) := by decide +kernel
theorem dX4_chance_74 : decode cX4_chance 74 = .ok (.idiv, 1) := by decide +kernel
theorem dX4_chance_75 : decode cX4_chance 75 = .ok (.istore 5, 2) := by decide +kernel
theorem dX4_chance_77 : decode cX4_chance 77 = .ok (.iload 4, 2) := by decide +kernel
theorem dX4_chance_79 : decode cX4_chance 79 = .ok (.iconst 5, 1) := by decide +kernel
theorem dX4_chance_80 : decode cX4_chance 80 = .ok (.idiv, 1) := by decide +kernel
theorem dX4_chance_81 : decode cX4_chance 81 = .ok (.istore 4, 2) := by decide +kernel
theorem dX4_chance_83 : decode cX4_chance 83 = .ok (.iinc 6 1, 3) := by decide +kernel
theorem dX4_chance_86 : decode cX4_chance 86 = .ok (.goto (-47), 3) := by decide +kernel
theorem dX4_chance_89 : decode cX4_chance 89 = .ok (.iload_n 3, 1) := by decide +kernel
theorem dX4_chance_90 : decode cX4_chance 90 = .ok (.ifCond .ne 8, 3) := by decide +kernel
theorem dX4_chance_93 : decode cX4_chance 93 = .ok (.iload 5, 2) := by decide +kernel
theorem dX4_chance_95 : decode cX4_chance 95 = .ok (.goto 5, 3) := by decide +kernel
theorem dX4_chance_98 : decode cX4_chance 98 = .ok (.iload 4, 2) := by decide +kernel
theorem dX4_chance_100 : decode cX4_chance 100 = .ok (.ireturn, 1) := by decide +kernel
set_option maxRecDepth 20000 in
theorem ggX4_missing_X3_trees : GoodIn wsX4_missing wsX3_trees := goodIn_r _ [7, 8, 54, 55, 56, 57] (by decide +kernel) (by decide +kernel)
set_option maxRecDepth 20000 in
theorem gX4_missing_X3_trees : GoodIn wsX4_missing (wsV RX4 23 RX3 yX3_trees wsX3_trees) := goodIn_app (goodIn_of _ (by decide +kernel)) ggX4_missing_X3_trees
set_option maxRecDepth 20000 in
theorem ggX4_missing_X3_usedUp : GoodIn wsX4_missing wsX3_usedUp := goodIn_r _ [12, 13, 4, 5, 6, 7, 8, 14, 15, 16, 17, 54, 55, 56, 57] (by decide +kernel) (by decide +kernel)
set_option maxRecDepth 20000 in
theorem gX4_missing_X3_usedUp : GoodIn wsX4_missing (wsV RX4 60 RX3 yX3_usedUp wsX3_usedUp) := goodIn_app (goodIn_of _ (by decide +kernel)) ggX4_missing_X3_usedUp
set_option maxRecDepth 20000 in
theorem ggX4_missing_X4_spread : GoodIn wsX4_missing wsX4_spread := goodIn_r _ [22, 2, 23, 24, 25, 21, 26, 1, 27, 28, 29, 30, 31, 32, 33, 34, 35, 3, 4, 5, 6, 7, 8, 36, 37, 38, 39, 40, 41, 42, 43, 44, 45, 46, 47, 48, 49, 50, 51, 52, 53, 58, 59, 60, 61, 62, 63, 54, 55, 56, 57] (by decide +kernel) (by decide +kernel)
set_option maxRecDepth 20000 in
theorem gX4_missing_X4_spread : GoodIn wsX4_missing (wsV RX4 70 RX4 yX4_spread wsX4_spread) := goodIn_app (goodIn_of _ (by decide +kernel)) ggX4_missing_X4_spread
theorem dX4_missing_0 : decode cX4_missing 0 = .ok (.iconst 1, 1) := by decide +kernel
theorem dX4_missing_1 : decode cX4_missing 1 = .ok (.aload_n 0, 1) := by decide +kernel
theorem dX4_missing_2 : decode cX4_missing 2 = .ok (.getfield 15, 3) := by decide +kernel
theorem dX4_missing_5 : decode cX4_missing 5 = .ok (.invokevirtual 23, 3) := by decide +kernel
theorem dX4_missing_8 : decode cX4_missing 8 = .ok (.ishl, 1) := by decide +kernel
theorem dX4_missing_9 : decode cX4_missing 9 = .ok (.istore_n 3, 1) := by decide +kernel
theorem dX4_missing_10 : decode cX4_missing 10 = .ok (.iconst 0, 1) := by decide +kernel
theorem dX4_missing_11 : decode cX4_missing 11 = .ok (.istore 4, 2) := by decide +kernel
theorem dX4_missing_13 : decode cX4_missing 13 = .ok (.iload 4, 2) := by decide +kernel
theorem dX4_missing_15 : decode cX4_missing 15 = .ok (.iload_n 3, 1) := by decide +kernel
theorem dX4_missing_16 : decode cX4_missing 16 = .ok (.if_icmp .ge 17, 3) := by decide +kernel
theorem dX4_missing_19 : decode cX4_missing 19 = .ok (.aload_n 0, 1) := by decide +kernel
theorem dX4_missing_20 : decode cX4_missing 20 = .ok (.getfield 19, 3) := by decide +kernel
theorem dX4_missing_23 : decode cX4_missing 23 = .ok (.iload 4, 2) := by decide +kernel
theorem dX4_missing_25 : decode cX4_missing 25 = .ok (.iconst 0, 1) := by decide +kernel
theorem dX4_missing_26 : decode cX4_missing 26 = .ok (.iastore, 1) := by decide +kernel
theorem dX4_missing_27 : decode cX4_missing 27 = .ok (.iinc 4 1, 3) := by decide +kernel
theorem dX4_missing_30 : decode cX4_missing 30 = .ok (.goto (-17), 3) := by decide +kernel
theorem dX4_missing_33 : decode cX4_missing 33 = .ok (.aload_n 0, 1) := by decide +kernel
theorem dX4_missing_34 : decode cX4_missing 34 = .ok (.getfield 19, 3) := by decide +kernel
theorem dX4_missing_37 : decode cX4_missing 37 = .ok (.aload_n 0, 1) := by decide +kernel
theorem dX4_missing_38 : decode cX4_missing 38 = .ok (.getfield 15, 3) := by decide +kernel
theorem dX4_missing_41 : decode cX4_missing 41 = .ok (.invokevirtual 60, 3) := by decide +kernel
theorem dX4_missing_44 : decode cX4_missing 44 = .ok (.iconst 1, 1) := by decide +kernel
theorem dX4_missing_45 : decode cX4_missing 45 = .ok (.iastore, 1) := by decide +kernel
theorem dX4_missing_46 : decode cX4_missing 46 = .ok (.iconst 0, 1) := by decide +kernel
theorem dX4_missing_47 : decode cX4_missing 47 = .ok (.istore 4, 2) := by decide +kernel
theorem dX4_missing_49 : decode cX4_missing 49 = .ok (.iload 4, 2) := by decide +kernel
theorem dX4_missing_51 : decode cX4_missing 51 = .ok (.iload_n 2, 1) := by decide +kernel
theorem dX4_missing_52 : decode cX4_missing 52 = .ok (.if_icmp .ge 42, 3) := by decide +kernel
theorem dX4_missing_55 : decode cX4_missing 55 = .ok (.iload_n 3, 1) := by decide +kernel
theorem dX4_missing_56 : decode cX4_missing 56 = .ok (.iconst 1, 1) := by decide +kernel
theorem dX4_missing_57 : decode cX4_missing 57 = .ok (.isub, 1) := by decide +kernel
theorem dX4_missing_58 : decode cX4_missing 58 = .ok (.istore 5, 2) := by decide +kernel
theorem dX4_missing_60 : decode cX4_missing 60 = .ok (.iload 5, 2) := by decide +kernel
theorem dX4_missing_62 : decode cX4_missing 62 = .ok (.ifCond .lt 26, 3) := by decide +kernel
theorem dX4_missing_65 : decode cX4_missing 65 = .ok (.aload_n 0, 1) := by decide +kernel
theorem dX4_missing_66 : decode cX4_missing 66 = .ok (.getfield 19, 3) := by decide +kernel
theorem dX4_missing_69 : decode cX4_missing 69 = .ok (.iload 5, 2) := by decide +kernel
theorem dX4_missing_71 : decode cX4_missing 71 = .ok (.iaload, 1) := by decide +kernel
theorem dX4_missing_72 : decode cX4_missing 72 = .ok (.ifCond .le 10, 3) := by decide +kernel
theorem dX4_missing_75 : decode cX4_missing 75 = .ok (.aload_n 0, 1) := by decide +kernel
theorem dX4_missing_76 : decode cX4_missing 76 = .ok (.iload_n 1, 1) := by decide +kernel
theorem dX4_missing_77 : decode cX4_missing 77 = .ok (.iload 5, 2) := by decide +kernel
theorem dX4_missing_79 : decode cX4_missing 79 = .ok (.invokevirtual 70, 3) := by decide +kernel
theorem dX4_missing_82 : decode cX4_missing 82 = .ok (.iinc 5 (-1), 3) := by decide +kernel
theorem dX4_missing_85 : decode cX4_missing 85 = .ok (.goto (-25), 3) := by decide +kernel
theorem dX4_missing_88 : decode cX4_missing 88 = .ok (.iinc 4 1, 3) := by decide +kernel
theorem dX4_missing_91 : decode cX4_missing 91 = .ok (.goto (-42), 3) := by decide +kernel
theorem dX4_missing_94 : decode cX4_missing 94 = .ok (.iconst 0, 1) := by decide +kernel
theorem dX4_missing_95 : decode cX4_missing 95 = .ok (.istore 4, 2) := by decide +kernel
theorem dX4_missing_97 : decode cX4_missing 97 = .ok (.iconst 0, 1) := by decide +kernel
theorem dX4_missing_98 : decode cX4_missing 98 = .ok (.istore 5, 2) := by decide +kernel
theorem dX4_missing_100 : decode cX4_missing 100 = .ok (.iload 5, 2) := by decide +kernel
theorem dX4_missing_102 : decode cX4_missing 102 = .ok (.iload_n 3, 1) := by decide +kernel
theorem dX4_missing_103 : decode cX4_missing 103 = .ok (.if_icmp .ge 21, 3) := by decide +kernel
theorem dX4_missing_106 : decode cX4_missing 106 = .ok (.iload 4, 2) := by decide +kernel
theorem dX4_missing_108 : decode cX4_missing 108 = .ok (.aload_n 0, 1) := by decide +kernel
theorem dX4_missing_109 : decode cX4_missing 109 = .ok (.getfield 19, 3) := by decide +kernel
theorem dX4_missing_112 : decode cX4_missing 112 = .ok (.iload 5, 2) := by decide +kernel
theorem dX4_missing_114 : decode cX4_missing 114 = .ok (.iaload, 1) := by decide +kernel
theorem dX4_missing_115 : decode cX4_missing 115 = .ok (.iadd, 1) := by decide +kernel
theorem dX4_missing_116 : decode cX4_missing 116 = .ok (.istore 4, 2) := by decide +kernel
theorem dX4_missing_118 : decode cX4_missing 118 = .ok (.iinc 5 1, 3) := by decide +kernel
theorem dX4_missing_121 : decode cX4_missing 121 = .ok (.goto (-21), 3) := by decide +kernel
theorem dX4_missing_124 : decode cX4_missing 124 = .ok (.iload 4, 2) := by decide +kernel
theorem dX4_missing_126 : decode cX4_missing 126 = .ok (.ireturn, 1) := by decide +kernel
set_option maxRecDepth 20000 in
theorem ggX4_spread_X4_strikes : GoodIn wsX4_spread wsX4_strikes := goodIn_r _ [6, 7, 8, 9, 10, 11, 12, 13, 14, 15, 16, 17, 18, 19, 20, 21, 22, 23, 24, 25, 26, 27, 28, 29, 30, 31, 32, 33, 34, 35, 36, 5, 37, 38, 39, 40, 41, 42, 43, 44, 45, 46, 47, 48, 49, 50] (by decide +kernel) (by decide +kernel)
set_option maxRecDepth 20000 in
theorem gX4_spread_X4_strikes : GoodIn wsX4_spread (wsV RX4 63 RX4 yX4_strikes wsX4_strikes) := goodIn_app (goodIn_of _ (by decide +kernel)) ggX4_spread_X4_strikes
theorem dX4_spread_0 : decode cX4_spread 0 = .ok (.aload_n 0, 1) := by decide +kernel
theorem dX4_spread_1 : decode cX4_spread 1 = .ok (.getfield 19, 3) := by decide +kernel
theorem dX4_spread_4 : decode cX4_spread 4 = .ok (.iload_n 2, 1) := by decide +kernel
theorem dX4_spread_5 : decode cX4_spread 5 = .ok (.iaload, 1) := by decide +kernel
theorem dX4_spread_6 : decode cX4_spread 6 = .ok (.istore_n 3, 1) := by decide +kernel
theorem dX4_spread_7 : decode cX4_spread 7 = .ok (.aload_n 0, 1) := by decide +kernel
theorem dX4_spread_8 : decode cX4_spread 8 = .ok (.getfield 19, 3) := by decide +kernel
theorem dX4_spread_11 : decode cX4_spread 11 = .ok (.iload_n 2, 1) := by decide +kernel
theorem dX4_spread_12 : decode cX4_spread 12 = .ok (.iconst 0, 1) := by decide +kernel
theorem dX4_spread_13 : decode cX4_spread 13 = .ok (.iastore, 1) := by decide +kernel
theorem dX4_spread_14 : decode cX4_spread 14 = .ok (.iconst 0, 1) := by decide +kernel
theorem dX4_spread_15 : decode cX4_spread 15 = .ok (.istore 4, 2) := by decide +kernel
theorem dX4_spread_17 : decode cX4_spread 17 = .ok (.iload 4, 2) := by decide +kernel
theorem dX4_spread_19 : decode cX4_spread 19 = .ok (.bipush 10, 2) := by decide +kernel
theorem dX4_spread_21 : decode cX4_spread 21 = .ok (.if_icmp .ge 67, 3) := by decide +kernel
theorem dX4_spread_24 : decode cX4_spread 24 = .ok (.aload_n 0, 1) := by decide +kernel
theorem dX4_spread_25 : decode cX4_spread 25 = .ok (.iload 4, 2) := by decide +kernel
theorem dX4_spread_27 : decode cX4_spread 27 = .ok (.iload_n 2, 1) := by decide +kernel
theorem dX4_spread_28 : decode cX4_spread 28 = .ok (.invokevirtual 63, 3) := by decide +kernel
theorem dX4_spread_31 : decode cX4_spread 31 = .ok (.istore 5, 2) := by decide +kernel
theorem dX4_spread_33 : decode cX4_spread 33 = .ok (.iload 5, 2) := by decide +kernel
theorem dX4_spread_35 : decode cX4_spread 35 = .ok (.ifCond .lt 28, 3) := by decide +kernel
theorem dX4_spread_38 : decode cX4_spread 38 = .ok (.iload 5, 2) := by decide +kernel
theorem dX4_spread_40 : decode cX4_spread 40 = .ok (.bipush 100, 2) := by decide +kernel
theorem dX4_spread_42 : decode cX4_spread 42 = .ok (.if_icmp .ge 21, 3) := by decide +kernel
theorem dX4_spread_45 : decode cX4_spread 45 = .ok (.aload_n 0, 1) := by decide +kernel
theorem dX4_spread_46 : decode cX4_spread 46 = .ok (.getfield 19, 3) := by decide +kernel
theorem dX4_spread_49 : decode cX4_spread 49 = .ok (.iload_n 2, 1) := by decide +kernel
theorem dX4_spread_50 : decode cX4_spread 50 = .ok (.iconst 1, 1) := by decide +kernel
theorem dX4_spread_51 : decode cX4_spread 51 = .ok (.iload 5, 2) := by decide +kernel
theorem dX4_spread_53 : decode cX4_spread 53 = .ok (.ishl, 1) := by decide +kernel
theorem dX4_spread_54 : decode cX4_spread 54 = .ok (.ior, 1) := by decide +kernel
theorem dX4_spread_55 : decode cX4_spread 55 = .ok (.dup2, 1) := by decide +kernel
theorem dX4_spread_56 : decode cX4_spread 56 = .ok (.iaload, 1) := by decide +kernel
theorem dX4_spread_57 : decode cX4_spread 57 = .ok (.iload_n 3, 1) := by decide +kernel
theorem dX4_spread_58 : decode cX4_spread 58 = .ok (.iadd, 1) := by decide +kernel
theorem dX4_spread_59 : decode cX4_spread 59 = .ok (.iastore, 1) := by decide +kernel
theorem dX4_spread_60 : decode cX4_spread 60 = .ok (.goto 22, 3) := by decide +kernel
theorem dX4_spread_63 : decode cX4_spread 63 = .ok (.iload 5, 2) := by decide +kernel
theorem dX4_spread_65 : decode cX4_spread 65 = .ok (.bipush 100, 2) := by decide +kernel
theorem dX4_spread_67 : decode cX4_spread 67 = .ok (.iload_n 1, 1) := by decide +kernel
theorem dX4_spread_68 : decode cX4_spread 68 = .ok (.iadd, 1) := by decide +kernel
theorem dX4_spread_69 : decode cX4_spread 69 = .ok (.if_icmp .eq 13, 3) := by decide +kernel
theorem dX4_spread_72 : decode cX4_spread 72 = .ok (.aload_n 0, 1) := by decide +kernel
theorem dX4_spread_73 : decode cX4_spread 73 = .ok (.getfield 19, 3) := by decide +kernel
theorem dX4_spread_76 : decode cX4_spread 76 = .ok (.iload_n 2, 1) := by decide +kernel
theorem dX4_spread_77 : decode cX4_spread 77 = .ok (.dup2, 1) := by decide +kernel
theorem dX4_spread_78 : decode cX4_spread 78 = .ok (.iaload, 1) := by decide +kernel
theorem dX4_spread_79 : decode cX4_spread 79 = .ok (.iload_n 3, 1) := by decide +kernel
theorem dX4_spread_80 : decode cX4_spread 80 = .ok (.iadd, 1) := by decide +kernel
theorem dX4_spread_81 : decode cX4_spread 81 = .ok (.iastore, 1) := by decide +kernel
theorem dX4_spread_82 : decode cX4_spread 82 = .ok (.iinc 4 1, 3) := by decide +kernel
theorem dX4_spread_85 : decode cX4_spread 85 = .ok (.goto (-68), 3) := by decide +kernel
theorem dX4_spread_88 : decode cX4_spread 88 = .ok (.return_, 1) := by decide +kernel
set_option maxRecDepth 20000 in
theorem ggX5_init_X2_init : GoodIn wsX5_init wsX2_init := goodIn_r _ [31, 32, 2, 3, 4, 33, 34, 10, 11, 35, 36, 37, 38, 39, 40, 41, 42, 43, 44, 45, 46, 47, 48, 49, 50, 51, 72, 73, 74, 75, 76, 77, 78, 79, 80, 81, 82, 92, 93, 94, 95, 96, 97] (by decide +kernel) (by decide +kernel)
set_option maxRecDepth 20000 in
theorem gX5_init_X2_init_n11 : GoodIn wsX5_init (wsX2_init) := ggX5_init_X2_init
set_option maxRecDepth 20000 in
theorem ggX5_init_X1_init : GoodIn wsX5_init wsX1_init := goodIn_r _ [40, 41, 2, 3, 4, 42, 43, 44, 45, 46, 47, 11, 48, 49, 50, 51, 92, 93, 94, 95, 96, 97] (by decide +kernel) (by decide +kernel)
set_option maxRecDepth 20000 in
theorem gX5_init_X1_init : GoodIn wsX5_init (wsX1_init) := ggX5_init_X1_init
set_option maxRecDepth 20000 in
theorem ggX5_init_X3_init : GoodIn wsX5_init wsX3_init := goodIn_r _ [54, 55, 2, 3, 4, 56, 57, 98, 99, 100, 101] (by decide +kernel) (by decide +kernel)
set_option maxRecDepth 20000 in
theorem gX5_init_X3_init_n25 : GoodIn wsX5_init (wsX3_init) := ggX5_init_X3_init
set_option maxRecDepth 20000 in
theorem ggX5_init_X0_init : GoodIn wsX5_init wsX0_init := goodIn_r _ [60, 61, 2, 3, 62, 63, 64, 102, 103, 104] (by decide +kernel) (by decide +kernel)
set_option maxRecDepth 20000 in
theorem gX5_init_X0_init : GoodIn wsX5_init (wsX0_init) := ggX5_init_X0_init
set_option maxRecDepth 20000 in
theorem ggX5_init_X4_init : GoodIn wsX5_init wsX4_init := goodIn_r _ [67, 68, 2, 3, 69, 70, 71, 105, 106, 107] (by decide +kernel) (by decide +kernel)
set_option maxRecDepth 20000 in
theorem gX5_init_X4_init : GoodIn wsX5_init (wsX4_init) := ggX5_init_X4_init
theorem dX5_init_0 : decode cX5_init 0 = .ok (.aload_n 0, 1) := by decide +kernel
theorem dX5_init_1 : decode cX5_init 1 = .ok (.invokespecial 1, 3) := by decide +kernel
theorem dX5_init_4 : decode cX5_init 4 = .ok (.sipush 128, 3) := by decide +kernel
theorem dX5_init_7 : decode cX5_init 7 = .ok (.newarray .int, 2) := by decide +kernel
theorem dX5_init_9 : decode cX5_init 9 = .ok (.astore_n 1, 1) := by decide +kernel
theorem dX5_init_10 : decode cX5_init 10 = .ok (.aload_n 0, 1) := by decide +kernel
theorem dX5_init_11 : decode cX5_init 11 = .ok (.new 9, 3) := by decide +kernel
theorem dX5_init_14 : decode cX5_init 14 = .ok (.dup, 1) := by decide +kernel
theorem dX5_init_15 : decode cX5_init 15 = .ok (.invokespecial 11, 3) := by decide +kernel
theorem dX5_init_18 : decode cX5_init 18 = .ok (.putfield 12, 3) := by decide +kernel
theorem dX5_init_21 : decode cX5_init 21 = .ok (.aload_n 0, 1) := by decide +kernel
theorem dX5_init_22 : decode cX5_init 22 = .ok (.new 16, 3) := by decide +kernel
theorem dX5_init_25 : decode cX5_init 25 = .ok (.dup, 1) := by decide +kernel
theorem dX5_init_26 : decode cX5_init 26 = .ok (.invokespecial 18, 3) := by decide +kernel
theorem dX5_init_29 : decode cX5_init 29 = .ok (.putfield 19, 3) := by decide +kernel
theorem dX5_init_32 : decode cX5_init 32 = .ok (.aload_n 0, 1) := by decide +kernel
theorem dX5_init_33 : decode cX5_init 33 = .ok (.new 23, 3) := by decide +kernel
theorem dX5_init_36 : decode cX5_init 36 = .ok (.dup, 1) := by decide +kernel
theorem dX5_init_37 : decode cX5_init 37 = .ok (.invokespecial 25, 3) := by decide +kernel
theorem dX5_init_40 : decode cX5_init 40 = .ok (.putfield 26, 3) := by decide +kernel
theorem dX5_init_43 : decode cX5_init 43 = .ok (.aload_n 0, 1) := by decide +kernel
theorem dX5_init_44 : decode cX5_init 44 = .ok (.new 30, 3) := by decide +kernel
theorem dX5_init_47 : decode cX5_init 47 = .ok (.dup, 1) := by decide +kernel
theorem dX5_init_48 : decode cX5_init 48 = .ok (.aload_n 0, 1) := by decide +kernel
theorem dX5_init_49 : decode cX5_init 49 = .ok (.getfield 19, 3) := by decide +kernel
theorem dX5_init_52 : decode cX5_init 52 = .ok (.aload_n 0, 1) := by decide +kernel
theorem dX5_init_53 : decode cX5_init 53 = .ok (.getfield 26, 3) := by decide +kernel
theorem dX5_init_56 : decode cX5_init 56 = .ok (.aload_n 1, 1) := by decide +kernel
theorem dX5_init_57 : decode cX5_init 57 = .ok (.invokespecial 32, 3) := by decide +kernel
theorem dX5_init_60 : decode cX5_init 60 = .ok (.putfield 35, 3) := by decide +kernel
theorem dX5_init_63 : decode cX5_init 63 = .ok (.aload_n 0, 1) := by decide +kernel
theorem dX5_init_64 : decode cX5_init 64 = .ok (.new 39, 3) := by decide +kernel
theorem dX5_init_67 : decode cX5_init 67 = .ok (.dup, 1) := by decide +kernel
theorem dX5_init_68 : decode cX5_init 68 = .ok (.aload_n 0, 1) := by decide +kernel
theorem dX5_init_69 : decode cX5_init 69 = .ok (.getfield 19, 3) := by decide +kernel
theorem dX5_init_72 : decode cX5_init 72 = .ok (.aload_n 0, 1) := by decide +kernel
theorem dX5_init_73 : decode cX5_init 73 = .ok (.getfield 26, 3) := by decide +kernel
theorem dX5_init_76 : decode cX5_init 76 = .ok (.aload_n 1, 1) := by decide +kernel
theorem dX5_init_77 : decode cX5_init 77 = .ok (.invokespecial 41, 3) := by decide +kernel
theorem dX5_init_80 : decode cX5_init 80 = .ok (.putfield 42, 3) := by decide +kernel
theorem dX5_init_83 : decode cX5_init 83 = .ok (.aload_n 0, 1) := by decide +kernel
theorem dX5_init_84 : decode cX5_init 84 = .ok (.iconst 2, 1) := by decide +kernel
theorem dX5_init_85 : decode cX5_init 85 = .ok (.anewarray 23, 3) := by decide +kernel
theorem dX5_init_88 : decode cX5_init 88 = .ok (.putfield 46, 3) := by decide +kernel
theorem dX5_init_91 : decode cX5_init 91 = .ok (.iconst 0, 1) := by decide +kernel
theorem dX5_init_92 : decode cX5_init 92 = .ok (.istore_n 2, 1) := by decide +kernel
theorem dX5_init_93 : decode cX5_init 93 = .ok (.iload_n 2, 1) := by decide +kernel
theorem dX5_init_94 : decode cX5_init 94 = .ok (.iconst 2, 1) := by decide +kernel
theorem dX5_init_95 : decode cX5_init 95 = .ok (.if_icmp .ge 22, 3) := by decide +kernel
theorem dX5_init_98 : decode cX5_init 98 = .ok (.aload_n 0, 1) := by decide +kernel
theorem dX5_init_99 : decode cX5_init 99 = .ok (.getfield 46, 3) := by decide +kernel
theorem dX5_init_102 : decode cX5_init 102 = .ok (.iload_n 2, 1) := by decide +kernel
theorem dX5_init_103 : decode cX5_init 103 = .ok (.new 23, 3) := by decide +kernel
theorem dX5_init_106 : decode cX5_init 106 = .ok (.dup, 1) := by decide +kernel
theorem dX5_init_107 : decode cX5_init 107 = .ok (.invokespecial 25, 3) := by decide +kernel
theorem dX5_init_110 : decode cX5_init 110 = .ok (.aastore, 1) := by decide +kernel
theorem dX5_init_111 : decode cX5_init 111 = .ok (.iinc 2 1, 3) := by decide +kernel
theorem dX5_init_114 : decode cX5_init 114 = .ok (.goto (-21), 3) := by decide +kernel
theorem dX5_init_117 : decode cX5_init 117 = .ok (.aload_n 0, 1) := by decide +kernel
theorem dX5_init_118 : decode cX5_init 118 = .ok (.iconst 2, 1) := by decide +kernel
theorem dX5_init_119 : decode cX5_init 119 = .ok (.newarray .boolean, 2) := by decide +kernel
theorem dX5_init_121 : decode cX5_init 121 = .ok (.putfield 50, 3) := by decide +kernel
theorem dX5_init_124 : decode cX5_init 124 = .ok (.aload_n 0, 1) := by decide +kernel
theorem dX5_init_125 : decode cX5_init 125 = .ok (.bipush (-9), 2) := by decide +kernel
theorem dX5_init_127 : decode cX5_init 127 = .ok (.putfield 54, 3) := by decide +kernel
theorem dX5_init_130 : decode cX5_init 130 = .ok (.aload_n 0, 1) := by decide +kernel
theorem dX5_init_131 : decode cX5_init 131 = .ok (.lconst 0, 1) := by decide +kernel
theorem dX5_init_132 : decode cX5_init 132 = .ok (.putfield 58, 3) := by decide +kernel
theorem dX5_init_135 : decode cX5_init 135 = .ok (.return_, 1) := by decide +kernel
set_option maxRecDepth 20000 in
theorem ggX5_type_X5_isWithin : GoodIn wsX5_type wsX5_isWithin := goodIn_r _ [6] (by decide +kernel) (by decide +kernel)
set_option maxRecDepth 20000 in
theorem gX5_type_X5_isWithin : GoodIn wsX5_type (va_wsS RX5 62 yX5_isWithin wsX5_isWithin) := goodIn_app (goodIn_of _ (by decide +kernel)) ggX5_type_X5_isWithin
set_option maxRecDepth 20000 in
theorem ggX5_type_X2_append : GoodIn wsX5_type wsX2_append := goodIn_r _ [11, 12, 13, 23, 24, 25, 26, 27, 28, 29, 30, 31, 32, 33] (by decide +kernel) (by decide +kernel)
set_option maxRecDepth 20000 in
theorem gX5_type_X2_append : GoodIn wsX5_type (wsV RX5 66 RX2 yX2_append wsX2_append) := goodIn_app (goodIn_of _ (by decide +kernel)) ggX5_type_X2_append
theorem dX5_type_0 : decode cX5_type 0 = .ok (.iload_n 1, 1) := by decide +kernel
theorem dX5_type_1 : decode cX5_type 1 = .ok (.iconst 0, 1) := by decide +kernel
theorem dX5_type_2 : decode cX5_type 2 = .ok (.sipush 255, 3) := by decide +kernel
theorem dX5_type_5 : decode cX5_type 5 = .ok (.invokestatic 62, 3) := by decide +kernel
theorem dX5_type_8 : decode cX5_type 8 = .ok (.ifCond .ne 5, 3) := by decide +kernel
theorem dX5_type_11 : decode cX5_type 11 = .ok (.iconst (-1), 1) := by decide +kernel
theorem dX5_type_12 : decode cX5_type 12 = .ok (.ireturn, 1) := by decide +kernel
theorem dX5_type_13 : decode cX5_type 13 = .ok (.aload_n 0, 1) := by decide +kernel
theorem dX5_type_14 : decode cX5_type 14 = .ok (.getfield 12, 3) := by decide +kernel
theorem dX5_type_17 : decode cX5_type 17 = .ok (.iload_n 1, 1) := by decide +kernel
theorem dX5_type_18 : decode cX5_type 18 = .ok (.invokevirtual 66, 3) := by decide +kernel
theorem dX5_type_21 : decode cX5_type 21 = .ok (.ifCond .eq 13, 3) := by decide +kernel
theorem dX5_type_24 : decode cX5_type 24 = .ok (.aload_n 0, 1) := by decide +kernel
theorem dX5_type_25 : decode cX5_type 25 = .ok (.getfield 12, 3) := by decide +kernel
theorem dX5_type_28 : decode cX5_type 28 = .ok (.getfield 70, 3) := by decide +kernel
theorem dX5_type_31 : decode cX5_type 31 = .ok (.goto 5, 3) := by decide +kernel
theorem dX5_type_34 : decode cX5_type 34 = .ok (.bipush (-3), 2) := by decide +kernel
theorem dX5_type_36 : decode cX5_type 36 = .ok (.ireturn, 1) := by decide +kernel
theorem dX5_clear_0 : decode cX5_clear 0 = .ok (.aload_n 0, 1) := by decide +kernel
theorem dX5_clear_1 : decode cX5_clear 1 = .ok (.getfield 12, 3) := by decide +kernel
theorem dX5_clear_4 : decode cX5_clear 4 = .ok (.getfield 70, 3) := by decide +kernel
theorem dX5_clear_7 : decode cX5_clear 7 = .ok (.istore_n 1, 1) := by decide +kernel
theorem dX5_clear_8 : decode cX5_clear 8 = .ok (.aload_n 0, 1) := by decide +kernel
theorem dX5_clear_9 : decode cX5_clear 9 = .ok (.getfield 12, 3) := by decide +kernel
theorem dX5_clear_12 : decode cX5_clear 12 = .ok (.iconst 0, 1) := by decide +kernel
theorem dX5_clear_13 : decode cX5_clear 13 = .ok (.putfield 70, 3) := by decide +kernel
theorem dX5_clear_16 : decode cX5_clear 16 = .ok (.iload_n 1, 1) := by decide +kernel
theorem dX5_clear_17 : decode cX5_clear 17 = .ok (.ireturn, 1) := by decide +kernel
set_option maxRecDepth 20000 in
theorem ggX5_field_X2_read : GoodIn wsX5_field wsX2_read := goodIn_r _ [13, 14, 15, 16, 17, 18, 19, 12, 20, 21, 22, 23, 24, 25, 26, 27, 28, 29, 30, 31, 32, 33, 34, 35, 36, 37, 38, 39, 40, 41, 42, 43, 44, 45, 46, 47, 48, 49, 50, 51, 52, 53, 54, 55, 56, 57, 58, 59, 60, 61, 62, 63, 64, 65, 66, 67, 68, 69, 70, 71, 72, 73, 74, 75, 76, 77, 78, 79, 80, 81, 82, 83, 84, 85, 86, 87, 88, 89, 90, 91, 117, 118, 119, 120, 121, 122, 123, 124, 125, 126, 127, 128, 129, 130, 131, 132, 133] (by decide +kernel) (by decide +kernel)
set_option maxRecDepth 20000 in
theorem gX5_field_X2_read : GoodIn wsX5_field (wsV RX5 73 RX2 yX2_read wsX2_read) := goodIn_app (goodIn_of _ (by decide +kernel)) ggX5_field_X2_read
set_option maxRecDepth 20000 in
theorem ggX5_field_X1_become : GoodIn wsX5_field wsX1_become := goodIn_r _ [95, 79, 96, 97, 98, 99, 80, 81, 31, 32, 33, 128, 129, 130, 131, 132, 133] (by decide +kernel) (by decide +kernel)
set_option maxRecDepth 20000 in
theorem gX5_field_X1_become : GoodIn wsX5_field (wsV RX5 78 RX1 yX1_become wsX1_become) := goodIn_app (goodIn_of _ (by decide +kernel)) ggX5_field_X1_become
set_option maxRecDepth 20000 in
theorem ggX5_field_X3_begin : GoodIn wsX5_field wsX3_begin := goodIn_r _ [103, 104, 105, 97, 98, 99, 106, 107, 134, 135, 136, 137] (by decide +kernel) (by decide +kernel)
set_option maxRecDepth 20000 in
theorem gX5_field_X3_begin : GoodIn wsX5_field (wsV RX5 86 RX3 yX3_begin wsX3_begin) := goodIn_app (goodIn_of _ (by decide +kernel)) ggX5_field_X3_begin
theorem dX5_field_0 : decode cX5_field 0 = .ok (.aload_n 0, 1) := by decide +kernel
theorem dX5_field_1 : decode cX5_field 1 = .ok (.getfield 12, 3) := by decide +kernel
theorem dX5_field_4 : decode cX5_field 4 = .ok (.invokevirtual 73, 3) := by decide +kernel
theorem dX5_field_7 : decode cX5_field 7 = .ok (.istore_n 1, 1) := by decide +kernel
theorem dX5_field_8 : decode cX5_field 8 = .ok (.iload_n 1, 1) := by decide +kernel
theorem dX5_field_9 : decode cX5_field 9 = .ok (.ifCond .ge 5, 3) := by decide +kernel
theorem dX5_field_12 : decode cX5_field 12 = .ok (.iload_n 1, 1) := by decide +kernel
theorem dX5_field_13 : decode cX5_field 13 = .ok (.ireturn, 1) := by decide +kernel
theorem dX5_field_14 : decode cX5_field 14 = .ok (.aload_n 0, 1) := by decide +kernel
theorem dX5_field_15 : decode cX5_field 15 = .ok (.getfield 19, 3) := by decide +kernel
theorem dX5_field_18 : decode cX5_field 18 = .ok (.aload_n 0, 1) := by decide +kernel
theorem dX5_field_19 : decode cX5_field 19 = .ok (.getfield 12, 3) := by decide +kernel
theorem dX5_field_22 : decode cX5_field 22 = .ok (.getfield 77, 3) := by decide +kernel
theorem dX5_field_25 : decode cX5_field 25 = .ok (.invokevirtual 78, 3) := by decide +kernel
theorem dX5_field_28 : decode cX5_field 28 = .ok (.aload_n 0, 1) := by decide +kernel
theorem dX5_field_29 : decode cX5_field 29 = .ok (.getfield 26, 3) := by decide +kernel
theorem dX5_field_32 : decode cX5_field 32 = .ok (.aload_n 0, 1) := by decide +kernel
theorem dX5_field_33 : decode cX5_field 33 = .ok (.getfield 12, 3) := by decide +kernel
theorem dX5_field_36 : decode cX5_field 36 = .ok (.getfield 82, 3) := by decide +kernel
theorem dX5_field_39 : decode cX5_field 39 = .ok (.invokevirtual 86, 3) := by decide +kernel
theorem dX5_field_42 : decode cX5_field 42 = .ok (.iconst 0, 1) := by decide +kernel
theorem dX5_field_43 : decode cX5_field 43 = .ok (.istore_n 2, 1) := by decide +kernel
theorem dX5_field_44 : decode cX5_field 44 = .ok (.iload_n 2, 1) := by decide +kernel
theorem dX5_field_45 : decode cX5_field 45 = .ok (.iconst 2, 1) := by decide +kernel
theorem dX5_field_46 : decode cX5_field 46 = .ok (.if_icmp .ge 16, 3) := by decide +kernel
theorem dX5_field_49 : decode cX5_field 49 = .ok (.aload_n 0, 1) := by decide +kernel
theorem dX5_field_50 : decode cX5_field 50 = .ok (.getfield 50, 3) := by decide +kernel
theorem dX5_field_53 : decode cX5_field 53 = .ok (.iload_n 2, 1) := by decide +kernel
theorem dX5_field_54 : decode cX5_field 54 = .ok (.iconst 0, 1) := by decide +kernel
theorem dX5_field_55 : decode cX5_field 55 = .ok (.bastore, 1) := by decide +kernel
theorem dX5_field_56 : decode cX5_field 56 = .ok (.iinc 2 1, 3) := by decide +kernel
theorem dX5_field_59 : decode cX5_field 59 = .ok (.goto (-15), 3) := by decide +kernel
theorem dX5_field_62 : decode cX5_field 62 = .ok (.aload_n 0, 1) := by decide +kernel
theorem dX5_field_63 : decode cX5_field 63 = .ok (.bipush (-9), 2) := by decide +kernel
theorem dX5_field_65 : decode cX5_field 65 = .ok (.putfield 54, 3) := by decide +kernel
theorem dX5_field_68 : decode cX5_field 68 = .ok (.aload_n 0, 1) := by decide +kernel
theorem dX5_field_69 : decode cX5_field 69 = .ok (.getfield 12, 3) := by decide +kernel
theorem dX5_field_72 : decode cX5_field 72 = .ok (.iconst 0, 1) := by decide +kernel
theorem dX5_field_73 : decode cX5_field 73 = .ok (.putfield 70, 3) := by decide +kernel
theorem dX5_field_76 : decode cX5_field 76 = .ok (.iload_n 1, 1) := by decide +kernel
theorem dX5_field_77 : decode cX5_field 77 = .ok (.ireturn, 1) := by decide +kernel
set_option maxRecDepth 20000 in
theorem ggX5_tree_X5_isTree : GoodIn wsX5_tree wsX5_isTree := goodIn_r _ [7, 1, 8, 9, 10, 11, 12, 13, 68, 69, 70, 71, 72, 73, 74, 75, 76, 77, 78, 79, 80] (by decide +kernel) (by decide +kernel)
set_option maxRecDepth 20000 in
theorem gX5_tree_X5_isTree : GoodIn wsX5_tree (wsV RX5 90 RX5 yX5_isTree wsX5_isTree) := goodIn_app (goodIn_of _ (by decide +kernel)) ggX5_tree_X5_isTree
set_option maxRecDepth 20000 in
theorem ggX5_tree_X3_x : GoodIn wsX5_tree wsX3_x := goodIn_r _ [17, 13, 77, 78, 79, 80] (by decide +kernel) (by decide +kernel)
set_option maxRecDepth 20000 in
theorem gX5_tree_X3_x : GoodIn wsX5_tree (wsV RX5 93 RX3 yX3_x wsX3_x) := goodIn_app (goodIn_of _ (by decide +kernel)) ggX5_tree_X3_x
set_option maxRecDepth 20000 in
theorem ggX5_tree_X3_y : GoodIn wsX5_tree wsX3_y := goodIn_r _ [21, 13, 77, 78, 79, 80] (by decide +kernel) (by decide +kernel)
set_option maxRecDepth 20000 in
theorem gX5_tree_X3_y : GoodIn wsX5_tree (wsV RX5 97 RX3 yX3_y wsX3_y) := goodIn_app (goodIn_of _ (by decide +kernel)) ggX5_tree_X3_y
set_option maxRecDepth 20000 in
theorem ggX5_tree_X3_high : GoodIn wsX5_tree wsX3_high := goodIn_r _ [25, 13, 77, 78, 79, 80] (by decide +kernel) (by decide +kernel)
set_option maxRecDepth 20000 in
theorem gX5_tree_X3_high : GoodIn wsX5_tree (wsV RX5 100 RX3 yX3_high wsX3_high) := goodIn_app (goodIn_of _ (by decide +kernel)) ggX5_tree_X3_high
set_option maxRecDepth 20000 in
theorem ggX5_tree_X3_grows : GoodIn wsX5_tree wsX3_grows := goodIn_r _ [29, 13, 77, 78, 79, 80] (by decide +kernel) (by decide +kernel)
set_option maxRecDepth 20000 in
theorem gX5_tree_X3_grows : GoodIn wsX5_tree (wsV RX5 103 RX3 yX3_grows wsX3_grows) := goodIn_app (goodIn_of _ (by decide +kernel)) ggX5_tree_X3_grows
set_option maxRecDepth 20000 in
theorem ggX5_tree_X3_used : GoodIn wsX5_tree wsX3_used := goodIn_r _ [33, 13, 77, 78, 79, 80] (by decide +kernel) (by decide +kernel)
set_option maxRecDepth 20000 in
theorem gX5_tree_X3_used : GoodIn wsX5_tree (wsV RX5 106 RX3 yX3_used wsX3_used) := goodIn_app (goodIn_of _ (by decide +kernel)) ggX5_tree_X3_used
set_option maxRecDepth 20000 in
theorem ggX5_tree_X0_under : GoodIn wsX5_tree wsX0_under := goodIn_r _ [38, 39, 40, 41, 15, 16, 11, 17, 13, 42, 19, 20, 21, 43, 44, 45, 46, 47, 48, 49, 50, 51, 31, 32, 33, 52, 23, 24, 25, 53, 27, 28, 29, 54, 55, 56, 57, 58, 59, 60, 61, 62, 63, 64, 65, 66, 67, 81, 82, 83, 77, 78, 79, 80, 84, 85, 86, 87, 88, 89] (by decide +kernel) (by decide +kernel)
set_option maxRecDepth 20000 in
theorem gX5_tree_X0_under : GoodIn wsX5_tree (wsV RX5 109 RX0 yX0_under wsX0_under) := goodIn_app (goodIn_of _ (by decide +kernel)) ggX5_tree_X0_under
theorem dX5_tree_0 : decode cX5_tree 0 = .ok (.aload_n 0, 1) := by decide +kernel
theorem dX5_tree_1 : decode cX5_tree 1 = .ok (.iload_n 1, 1) := by decide +kernel
theorem dX5_tree_2 : decode cX5_tree 2 = .ok (.invokevirtual 90, 3) := by decide +kernel
theorem dX5_tree_5 : decode cX5_tree 5 = .ok (.ifCond .ne 5, 3) := by decide +kernel
theorem dX5_tree_8 : decode cX5_tree 8 = .ok (.iconst (-1), 1) := by decide +kernel
theorem dX5_tree_9 : decode cX5_tree 9 = .ok (.ireturn, 1) := by decide +kernel
theorem dX5_tree_10 : decode cX5_tree 10 = .ok (.iload_n 2, 1) := by decide +kernel
theorem dX5_tree_11 : decode cX5_tree 11 = .ok (.tableswitch 92 0 5 #[37, 46, 55, 64, 73, 82], 37) := by decide +kernel
theorem dX5_tree_48 : decode cX5_tree 48 = .ok (.aload_n 0, 1) := by decide +kernel
theorem dX5_tree_49 : decode cX5_tree 49 = .ok (.getfield 26, 3) := by decide +kernel
theorem dX5_tree_52 : decode cX5_tree 52 = .ok (.iload_n 1, 1) := by decide +kernel
theorem dX5_tree_53 : decode cX5_tree 53 = .ok (.invokevirtual 93, 3) := by decide +kernel
theorem dX5_tree_56 : decode cX5_tree 56 = .ok (.ireturn, 1) := by decide +kernel
theorem dX5_tree_57 : decode cX5_tree 57 = .ok (.aload_n 0, 1) := by decide +kernel
theorem dX5_tree_58 : decode cX5_tree 58 = .ok (.getfield 26, 3) := by decide +kernel
theorem dX5_tree_61 : decode cX5_tree 61 = .ok (.iload_n 1, 1) := by decide +kernel
theorem dX5_tree_62 : decode cX5_tree 62 = .ok (.invokevirtual 97, 3) := by decide +kernel
theorem dX5_tree_65 : decode cX5_tree 65 = .ok (.ireturn, 1) := by decide +kernel
theorem dX5_tree_66 : decode cX5_tree 66 = .ok (.aload_n 0, 1) := by decide +kernel
theorem dX5_tree_67 : decode cX5_tree 67 = .ok (.getfield 26, 3) := by decide +kernel
theorem dX5_tree_70 : decode cX5_tree 70 = .ok (.iload_n 1, 1) := by decide +kernel
theorem dX5_tree_71 : decode cX5_tree 71 = .ok (.invokevirtual 100, 3) := by decide +kernel
theorem dX5_tree_74 : decode cX5_tree 74 = .ok (.ireturn, 1) := by decide +kernel
theorem dX5_tree_75 : decode cX5_tree 75 = .ok (.aload_n 0, 1) := by decide +kernel
theorem dX5_tree_76 : decode cX5_tree 76 = .ok (.getfield 26, 3) := by decide +kernel
theorem dX5_tree_79 : decode cX5_tree 79 = .ok (.iload_n 1, 1) := by decide +kernel
theorem dX5_tree_80 : decode cX5_tree 80 = .ok (.invokevirtual 103, 3) := by decide +kernel
theorem dX5_tree_83 : decode cX5_tree 83 = .ok (.ireturn, 1) := by decide +kernel
theorem dX5_tree_84 : decode cX5_tree 84 = .ok (.aload_n 0, 1) := by decide +kernel
theorem dX5_tree_85 : decode cX5_tree 85 = .ok (.getfield 26, 3) := by decide +kernel
theorem dX5_tree_88 : decode cX5_tree 88 = .ok (.iload_n 1, 1) := by decide +kernel
theorem dX5_tree_89 : decode cX5_tree 89 = .ok (.invokevirtual 106, 3) := by decide +kernel
theorem dX5_tree_92 : decode cX5_tree 92 = .ok (.ireturn, 1) := by decide +kernel
theorem dX5_tree_93 : decode cX5_tree 93 = .ok (.aload_n 0, 1) := by decide +kernel
theorem dX5_tree_94 : decode cX5_tree 94 = .ok (.getfield 35, 3) := by decide +kernel
theorem dX5_tree_97 : decode cX5_tree 97 = .ok (.iload_n 1, 1) := by decide +kernel
theorem dX5_tree_98 : decode cX5_tree 98 = .ok (.iconst 0, 1) := by decide +kernel
theorem dX5_tree_99 : decode cX5_tree 99 = .ok (.invokevirtual 109, 3) := by decide +kernel
theorem dX5_tree_102 : decode cX5_tree 102 = .ok (.ireturn, 1) := by decide +kernel
theorem dX5_tree_103 : decode cX5_tree 103 = .ok (.iconst (-1), 1) := by decide +kernel
theorem dX5_tree_104 : decode cX5_tree 104 = .ok (.ireturn, 1) := by decide +kernel
set_option maxRecDepth 20000 in
theorem ggX5_house_X5_isHouse : GoodIn wsX5_house wsX5_isHouse := goodIn_r _ [11, 1, 12, 86, 87, 88, 89, 90, 91, 92, 93, 94, 95, 96, 97, 98, 99, 100] (by decide +kernel) (by decide +kernel)
set_option maxRecDepth 20000 in
theorem gX5_house_X5_isHouse : GoodIn wsX5_house (wsV RX5 113 RX5 yX5_isHouse wsX5_isHouse) := goodIn_app (goodIn_of _ (by decide +kernel)) ggX5_house_X5_isHouse
set_option maxRecDepth 20000 in
theorem ggX5_house_X3_struck : GoodIn wsX5_house wsX3_struck := goodIn_r _ [17, 18, 101, 102, 103, 104] (by decide +kernel) (by decide +kernel)
set_option maxRecDepth 20000 in
theorem gX5_house_X3_struck : GoodIn wsX5_house (wsV RX5 122 RX3 yX3_struck wsX3_struck) := goodIn_app (goodIn_of _ (by decide +kernel)) ggX5_house_X3_struck
set_option maxRecDepth 20000 in
theorem ggX5_house_X0_over : GoodIn wsX5_house wsX0_over := goodIn_r _ [23, 24, 25, 26, 27, 16, 28, 18, 29, 30, 31, 22, 32, 33, 34, 35, 36, 37, 38, 39, 40, 41, 42, 43, 44, 45, 46, 47, 48, 49, 50, 51, 52, 53, 54, 55, 56, 57, 58, 59, 60, 61, 62, 63, 64, 65, 66, 67, 68, 69, 70, 105, 106, 107, 101, 102, 103, 104, 95, 96, 97, 98, 99, 100] (by decide +kernel) (by decide +kernel)
set_option maxRecDepth 20000 in
theorem gX5_house_X0_over : GoodIn wsX5_house (wsV RX5 125 RX0 yX0_over wsX0_over) := goodIn_app (goodIn_of _ (by decide +kernel)) ggX5_house_X0_over
set_option maxRecDepth 20000 in
theorem ggX5_house_X0_premium : GoodIn wsX5_house wsX0_premium := goodIn_r _ [74, 33, 34, 75, 76, 41, 77, 78, 20, 21, 22, 23, 24, 25, 26, 27, 16, 28, 18, 29, 30, 31, 32, 35, 36, 37, 38, 39, 40, 42, 43, 44, 45, 46, 47, 48, 49, 50, 51, 52, 53, 54, 55, 56, 57, 58, 59, 60, 61, 62, 63, 64, 65, 66, 67, 68, 69, 70, 79, 80, 81, 82, 83, 84, 85, 105, 106, 107, 95, 96, 97, 98, 99, 100, 101, 102, 103, 104] (by decide +kernel) (by decide +kernel)
set_option maxRecDepth 20000 in
theorem gX5_house_X0_premium : GoodIn wsX5_house (wsV RX5 128 RX0 yX0_premium wsX0_premium) := goodIn_app (goodIn_of _ (by decide +kernel)) ggX5_house_X0_premium
theorem dX5_house_0 : decode cX5_house 0 = .ok (.aload_n 0, 1) := by decide +kernel
theorem dX5_house_1 : decode cX5_house 1 = .ok (.iload_n 1, 1) := by decide +kernel
theorem dX5_house_2 : decode cX5_house 2 = .ok (.invokevirtual 113, 3) := by decide +kernel
theorem dX5_house_5 : decode cX5_house 5 = .ok (.ifCond .ne 5, 3) := by decide +kernel
theorem dX5_house_8 : decode cX5_house 8 = .ok (.iconst (-1), 1) := by decide +kernel
theorem dX5_house_9 : decode cX5_house 9 = .ok (.ireturn, 1) := by decide +kernel
theorem dX5_house_10 : decode cX5_house 10 = .ok (.iload_n 2, 1) := by decide +kernel
theorem dX5_house_11 : decode cX5_house 11 = .ok (.tableswitch 94 0 5 #[37, 47, 57, 67, 76, 85], 37) := by decide +kernel
theorem dX5_house_48 : decode cX5_house 48 = .ok (.aload_n 0, 1) := by decide +kernel
theorem dX5_house_49 : decode cX5_house 49 = .ok (.getfield 19, 3) := by decide +kernel
theorem dX5_house_52 : decode cX5_house 52 = .ok (.getfield 116, 3) := by decide +kernel
theorem dX5_house_55 : decode cX5_house 55 = .ok (.iload_n 1, 1) := by decide +kernel
theorem dX5_house_56 : decode cX5_house 56 = .ok (.iaload, 1) := by decide +kernel
theorem dX5_house_57 : decode cX5_house 57 = .ok (.ireturn, 1) := by decide +kernel
theorem dX5_house_58 : decode cX5_house 58 = .ok (.aload_n 0, 1) := by decide +kernel
theorem dX5_house_59 : decode cX5_house 59 = .ok (.getfield 19, 3) := by decide +kernel
theorem dX5_house_62 : decode cX5_house 62 = .ok (.getfield 118, 3) := by decide +kernel
theorem dX5_house_65 : decode cX5_house 65 = .ok (.iload_n 1, 1) := by decide +kernel
theorem dX5_house_66 : decode cX5_house 66 = .ok (.iaload, 1) := by decide +kernel
theorem dX5_house_67 : decode cX5_house 67 = .ok (.ireturn, 1) := by decide +kernel
theorem dX5_house_68 : decode cX5_house 68 = .ok (.aload_n 0, 1) := by decide +kernel
theorem dX5_house_69 : decode cX5_house 69 = .ok (.getfield 19, 3) := by decide +kernel
theorem dX5_house_72 : decode cX5_house 72 = .ok (.getfield 120, 3) := by decide +kernel
theorem dX5_house_75 : decode cX5_house 75 = .ok (.iload_n 1, 1) := by decide +kernel
theorem dX5_house_76 : decode cX5_house 76 = .ok (.iaload, 1) := by decide +kernel
theorem dX5_house_77 : decode cX5_house 77 = .ok (.ireturn, 1) := by decide +kernel
theorem dX5_house_78 : decode cX5_house 78 = .ok (.aload_n 0, 1) := by decide +kernel
theorem dX5_house_79 : decode cX5_house 79 = .ok (.getfield 26, 3) := by decide +kernel
theorem dX5_house_82 : decode cX5_house 82 = .ok (.iload_n 1, 1) := by decide +kernel
theorem dX5_house_83 : decode cX5_house 83 = .ok (.invokevirtual 122, 3) := by decide +kernel
theorem dX5_house_86 : decode cX5_house 86 = .ok (.ireturn, 1) := by decide +kernel
theorem dX5_house_87 : decode cX5_house 87 = .ok (.aload_n 0, 1) := by decide +kernel
theorem dX5_house_88 : decode cX5_house 88 = .ok (.getfield 35, 3) := by decide +kernel
theorem dX5_house_91 : decode cX5_house 91 = .ok (.iload_n 1, 1) := by decide +kernel
theorem dX5_house_92 : decode cX5_house 92 = .ok (.invokevirtual 125, 3) := by decide +kernel
theorem dX5_house_95 : decode cX5_house 95 = .ok (.ireturn, 1) := by decide +kernel
theorem dX5_house_96 : decode cX5_house 96 = .ok (.aload_n 0, 1) := by decide +kernel
theorem dX5_house_97 : decode cX5_house 97 = .ok (.getfield 35, 3) := by decide +kernel
theorem dX5_house_100 : decode cX5_house 100 = .ok (.iload_n 1, 1) := by decide +kernel
theorem dX5_house_101 : decode cX5_house 101 = .ok (.invokevirtual 128, 3) := by decide +kernel
theorem dX5_house_104 : decode cX5_house 104 = .ok (.ireturn, 1) := by decide +kernel
theorem dX5_house_105 : decode cX5_house 105 = .ok (.iconst (-1), 1) := by decide +kernel
theorem dX5_house_106 : decode cX5_house 106 = .ok (.ireturn, 1) := by decide +kernel
set_option maxRecDepth 20000 in
theorem ggX5_year_X3_remember : GoodIn wsX5_year wsX3_remember := goodIn_r _ [8, 9, 10, 11, 12, 13, 14, 15, 16, 17, 18, 19, 20, 92, 93, 94, 95] (by decide +kernel) (by decide +kernel)
set_option maxRecDepth 20000 in
theorem gX5_year_X3_remember : GoodIn wsX5_year (wsV RX5 132 RX3 yX3_remember wsX3_remember) := goodIn_app (goodIn_of _ (by decide +kernel)) ggX5_year_X3_remember
set_option maxRecDepth 20000 in
theorem ggX5_year_X3_pass : GoodIn wsX5_year wsX3_pass := goodIn_r _ [24, 9, 17, 18, 19, 20, 25, 26, 27, 7, 28, 29, 30, 31, 32, 33, 34, 35, 36, 37, 38, 39, 40, 92, 93, 94, 95] (by decide +kernel) (by decide +kernel)
set_option maxRecDepth 20000 in
theorem gX5_year_X3_pass : GoodIn wsX5_year (wsV RX5 135 RX3 yX3_pass wsX3_pass) := goodIn_app (goodIn_of _ (by decide +kernel)) ggX5_year_X3_pass
set_option maxRecDepth 20000 in
theorem ggX5_year_X0_covered : GoodIn wsX5_year wsX0_covered := goodIn_r _ [45, 46, 47, 48, 44, 49, 50, 51, 26, 27, 7, 28, 9, 52, 53, 54, 55, 56, 57, 58, 59, 60, 61, 62, 63, 64, 65, 66, 67, 68, 17, 18, 19, 20, 29, 30, 31, 32, 33, 34, 35, 36, 37, 38, 39, 40, 69, 70, 71, 72, 73, 74, 75, 76, 77, 78, 79, 80, 81, 82, 96, 97, 98, 92, 93, 94, 95, 99, 100, 101, 102, 103, 104] (by decide +kernel) (by decide +kernel)
set_option maxRecDepth 20000 in
theorem gX5_year_X0_covered : GoodIn wsX5_year (wsV RX5 138 RX0 yX0_covered wsX0_covered) := goodIn_app (goodIn_of _ (by decide +kernel)) ggX5_year_X0_covered
theorem dX5_year_0 : decode cX5_year 0 = .ok (.aload_n 0, 1) := by decide +kernel
theorem dX5_year_1 : decode cX5_year 1 = .ok (.getfield 26, 3) := by decide +kernel
theorem dX5_year_4 : decode cX5_year 4 = .ok (.getfield 131, 3) := by decide +kernel
theorem dX5_year_7 : decode cX5_year 7 = .ok (.iconst 0, 1) := by decide +kernel
theorem dX5_year_8 : decode cX5_year 8 = .ok (.iaload, 1) := by decide +kernel
theorem dX5_year_9 : decode cX5_year 9 = .ok (.sipush 200, 3) := by decide +kernel
theorem dX5_year_12 : decode cX5_year 12 = .ok (.if_icmp .lt 6, 3) := by decide +kernel
theorem dX5_year_15 : decode cX5_year 15 = .ok (.bipush (-2), 2) := by decide +kernel
theorem dX5_year_17 : decode cX5_year 17 = .ok (.ireturn, 1) := by decide +kernel
theorem dX5_year_18 : decode cX5_year 18 = .ok (.aload_n 0, 1) := by decide +kernel
theorem dX5_year_19 : decode cX5_year 19 = .ok (.getfield 26, 3) := by decide +kernel
theorem dX5_year_22 : decode cX5_year 22 = .ok (.invokevirtual 132, 3) := by decide +kernel
theorem dX5_year_25 : decode cX5_year 25 = .ok (.aload_n 0, 1) := by decide +kernel
theorem dX5_year_26 : decode cX5_year 26 = .ok (.getfield 26, 3) := by decide +kernel
theorem dX5_year_29 : decode cX5_year 29 = .ok (.invokevirtual 135, 3) := by decide +kernel
theorem dX5_year_32 : decode cX5_year 32 = .ok (.aload_n 0, 1) := by decide +kernel
theorem dX5_year_33 : decode cX5_year 33 = .ok (.getfield 35, 3) := by decide +kernel
theorem dX5_year_36 : decode cX5_year 36 = .ok (.iconst 0, 1) := by decide +kernel
theorem dX5_year_37 : decode cX5_year 37 = .ok (.invokevirtual 138, 3) := by decide +kernel
theorem dX5_year_40 : decode cX5_year 40 = .ok (.ireturn, 1) := by decide +kernel
set_option maxRecDepth 20000 in
theorem ggX5_storm_X5_isWithin : GoodIn wsX5_storm wsX5_isWithin := goodIn_r _ [9] (by decide +kernel) (by decide +kernel)
set_option maxRecDepth 20000 in
theorem gX5_storm_X5_isWithin : GoodIn wsX5_storm (va_wsS RX5 62 yX5_isWithin wsX5_isWithin) := goodIn_app (goodIn_of _ (by decide +kernel)) ggX5_storm_X5_isWithin
set_option maxRecDepth 20000 in
theorem ggX5_storm_X3_remember : GoodIn wsX5_storm wsX3_remember := goodIn_r _ [14, 15, 16, 17, 18, 19, 20, 21, 22, 23, 24, 25, 26, 78, 79, 80, 81] (by decide +kernel) (by decide +kernel)
set_option maxRecDepth 20000 in
theorem gX5_storm_X3_remember : GoodIn wsX5_storm (wsV RX5 132 RX3 yX3_remember wsX3_remember) := goodIn_app (goodIn_of _ (by decide +kernel)) ggX5_storm_X3_remember
set_option maxRecDepth 20000 in
theorem ggX5_storm_X3_usedUp : GoodIn wsX5_storm wsX3_usedUp := goodIn_r _ [30, 31, 32, 33, 13, 34, 15, 35, 36, 37, 38, 78, 79, 80, 81] (by decide +kernel) (by decide +kernel)
set_option maxRecDepth 20000 in
theorem gX5_storm_X3_usedUp : GoodIn wsX5_storm (wsV RX5 141 RX3 yX3_usedUp wsX3_usedUp) := goodIn_app (goodIn_of _ (by decide +kernel)) ggX5_storm_X3_usedUp
set_option maxRecDepth 20000 in
theorem ggX5_storm_X4_strikes : GoodIn wsX5_storm wsX4_strikes := goodIn_r _ [43, 44, 45, 46, 25, 47, 48, 49, 50, 51, 52, 53, 32, 33, 13, 34, 15, 54, 55, 56, 57, 58, 59, 60, 61, 62, 63, 64, 65, 66, 67, 42, 68, 88, 89, 90, 82, 83, 84, 85, 86, 87, 78, 79, 80, 81] (by decide +kernel) (by decide +kernel)
set_option maxRecDepth 20000 in
theorem gX5_storm_X4_strikes : GoodIn wsX5_storm (wsV RX5 144 RX4 yX4_strikes wsX4_strikes) := goodIn_app (goodIn_of _ (by decide +kernel)) ggX5_storm_X4_strikes
theorem dX5_storm_0 : decode cX5_storm 0 = .ok (.iload_n 1, 1) := by decide +kernel
theorem dX5_storm_1 : decode cX5_storm 1 = .ok (.iconst 0, 1) := by decide +kernel
theorem dX5_storm_2 : decode cX5_storm 2 = .ok (.bipush 9, 2) := by decide +kernel
theorem dX5_storm_4 : decode cX5_storm 4 = .ok (.invokestatic 62, 3) := by decide +kernel
theorem dX5_storm_7 : decode cX5_storm 7 = .ok (.ifCond .ne 5, 3) := by decide +kernel
theorem dX5_storm_10 : decode cX5_storm 10 = .ok (.iconst (-1), 1) := by decide +kernel
theorem dX5_storm_11 : decode cX5_storm 11 = .ok (.ireturn, 1) := by decide +kernel
theorem dX5_storm_12 : decode cX5_storm 12 = .ok (.aload_n 0, 1) := by decide +kernel
theorem dX5_storm_13 : decode cX5_storm 13 = .ok (.getfield 26, 3) := by decide +kernel
theorem dX5_storm_16 : decode cX5_storm 16 = .ok (.invokevirtual 132, 3) := by decide +kernel
theorem dX5_storm_19 : decode cX5_storm 19 = .ok (.aload_n 0, 1) := by decide +kernel
theorem dX5_storm_20 : decode cX5_storm 20 = .ok (.getfield 42, 3) := by decide +kernel
theorem dX5_storm_23 : decode cX5_storm 23 = .ok (.iload_n 1, 1) := by decide +kernel
theorem dX5_storm_24 : decode cX5_storm 24 = .ok (.aload_n 0, 1) := by decide +kernel
theorem dX5_storm_25 : decode cX5_storm 25 = .ok (.getfield 26, 3) := by decide +kernel
theorem dX5_storm_28 : decode cX5_storm 28 = .ok (.invokevirtual 141, 3) := by decide +kernel
theorem dX5_storm_31 : decode cX5_storm 31 = .ok (.invokevirtual 144, 3) := by decide +kernel
theorem dX5_storm_34 : decode cX5_storm 34 = .ok (.istore_n 2, 1) := by decide +kernel
theorem dX5_storm_35 : decode cX5_storm 35 = .ok (.iload_n 2, 1) := by decide +kernel
theorem dX5_storm_36 : decode cX5_storm 36 = .ok (.bipush 100, 2) := by decide +kernel
theorem dX5_storm_38 : decode cX5_storm 38 = .ok (.if_icmp .lt 25, 3) := by decide +kernel
theorem dX5_storm_41 : decode cX5_storm 41 = .ok (.aload_n 0, 1) := by decide +kernel
theorem dX5_storm_42 : decode cX5_storm 42 = .ok (.getfield 26, 3) := by decide +kernel
theorem dX5_storm_45 : decode cX5_storm 45 = .ok (.getfield 131, 3) := by decide +kernel
theorem dX5_storm_48 : decode cX5_storm 48 = .ok (.bipush 37, 2) := by decide +kernel
theorem dX5_storm_50 : decode cX5_storm 50 = .ok (.iload_n 2, 1) := by decide +kernel
theorem dX5_storm_51 : decode cX5_storm 51 = .ok (.iadd, 1) := by decide +kernel
theorem dX5_storm_52 : decode cX5_storm 52 = .ok (.bipush 100, 2) := by decide +kernel
theorem dX5_storm_54 : decode cX5_storm 54 = .ok (.isub, 1) := by decide +kernel
theorem dX5_storm_55 : decode cX5_storm 55 = .ok (.dup2, 1) := by decide +kernel
theorem dX5_storm_56 : decode cX5_storm 56 = .ok (.iaload, 1) := by decide +kernel
theorem dX5_storm_57 : decode cX5_storm 57 = .ok (.iconst 1, 1) := by decide +kernel
theorem dX5_storm_58 : decode cX5_storm 58 = .ok (.iadd, 1) := by decide +kernel
theorem dX5_storm_59 : decode cX5_storm 59 = .ok (.iastore, 1) := by decide +kernel
theorem dX5_storm_60 : decode cX5_storm 60 = .ok (.goto 26, 3) := by decide +kernel
theorem dX5_storm_63 : decode cX5_storm 63 = .ok (.iload_n 2, 1) := by decide +kernel
theorem dX5_storm_64 : decode cX5_storm 64 = .ok (.ifCond .lt 22, 3) := by decide +kernel
theorem dX5_storm_67 : decode cX5_storm 67 = .ok (.aload_n 0, 1) := by decide +kernel
theorem dX5_storm_68 : decode cX5_storm 68 = .ok (.getfield 26, 3) := by decide +kernel
theorem dX5_storm_71 : decode cX5_storm 71 = .ok (.getfield 131, 3) := by decide +kernel
theorem dX5_storm_74 : decode cX5_storm 74 = .ok (.bipush 30, 2) := by decide +kernel
theorem dX5_storm_76 : decode cX5_storm 76 = .ok (.iload_n 2, 1) := by decide +kernel
theorem dX5_storm_77 : decode cX5_storm 77 = .ok (.iadd, 1) := by decide +kernel
theorem dX5_storm_78 : decode cX5_storm 78 = .ok (.aload_n 0, 1) := by decide +kernel
theorem dX5_storm_79 : decode cX5_storm 79 = .ok (.getfield 19, 3) := by decide +kernel
theorem dX5_storm_82 : decode cX5_storm 82 = .ok (.getfield 147, 3) := by decide +kernel
theorem dX5_storm_85 : decode cX5_storm 85 = .ok (.iastore, 1) := by decide +kernel
theorem dX5_storm_86 : decode cX5_storm 86 = .ok (.iload_n 2, 1) := by decide +kernel
theorem dX5_storm_87 : decode cX5_storm 87 = .ok (.ireturn, 1) := by decide +kernel
set_option maxRecDepth 20000 in
theorem ggX5_tops_X5_isTree : GoodIn wsX5_tops wsX5_isTree := goodIn_r _ [7, 1, 8, 9, 10, 11, 12, 13, 42, 43, 44, 45, 46, 47, 48, 49, 50, 51, 52, 53, 54] (by decide +kernel) (by decide +kernel)
set_option maxRecDepth 20000 in
theorem gX5_tops_X5_isTree : GoodIn wsX5_tops (wsV RX5 90 RX5 yX5_isTree wsX5_isTree) := goodIn_app (goodIn_of _ (by decide +kernel)) ggX5_tops_X5_isTree
set_option maxRecDepth 20000 in
theorem ggX5_tops_X5_isWithin : GoodIn wsX5_tops wsX5_isWithin := goodIn_r _ [16] (by decide +kernel) (by decide +kernel)
set_option maxRecDepth 20000 in
theorem gX5_tops_X5_isWithin : GoodIn wsX5_tops (va_wsS RX5 62 yX5_isWithin wsX5_isWithin) := goodIn_app (goodIn_of _ (by decide +kernel)) ggX5_tops_X5_isWithin
set_option maxRecDepth 20000 in
theorem ggX5_tops_X3_remember : GoodIn wsX5_tops wsX3_remember := goodIn_r _ [20, 13, 21, 22, 23, 24, 25, 26, 27, 28, 29, 30, 31, 51, 52, 53, 54] (by decide +kernel) (by decide +kernel)
set_option maxRecDepth 20000 in
theorem gX5_tops_X3_remember : GoodIn wsX5_tops (wsV RX5 132 RX3 yX3_remember wsX3_remember) := goodIn_app (goodIn_of _ (by decide +kernel)) ggX5_tops_X3_remember
set_option maxRecDepth 20000 in
theorem ggX5_tops_X3_high : GoodIn wsX5_tops wsX3_high := goodIn_r _ [35, 13, 51, 52, 53, 54] (by decide +kernel) (by decide +kernel)
set_option maxRecDepth 20000 in
theorem gX5_tops_X3_high : GoodIn wsX5_tops (wsV RX5 100 RX3 yX3_high wsX3_high) := goodIn_app (goodIn_of _ (by decide +kernel)) ggX5_tops_X3_high
set_option maxRecDepth 20000 in
theorem ggX5_tops_X5_toppedHigh : GoodIn wsX5_tops wsX5_toppedHigh := goodIn_r _ [38, 39, 40, 30, 41] (by decide +kernel) (by decide +kernel)
set_option maxRecDepth 20000 in
theorem gX5_tops_X5_toppedHigh : GoodIn wsX5_tops (va_wsS RX5 149 yX5_toppedHigh wsX5_toppedHigh) := goodIn_app (goodIn_of _ (by decide +kernel)) ggX5_tops_X5_toppedHigh
theorem dX5_tops_0 : decode cX5_tops 0 = .ok (.aload_n 0, 1) := by decide +kernel
theorem dX5_tops_1 : decode cX5_tops 1 = .ok (.iload_n 1, 1) := by decide +kernel
theorem dX5_tops_2 : decode cX5_tops 2 = .ok (.invokevirtual 90, 3) := by decide +kernel
theorem dX5_tops_5 : decode cX5_tops 5 = .ok (.ifCond .eq 13, 3) := by decide +kernel
theorem dX5_tops_8 : decode cX5_tops 8 = .ok (.iload_n 2, 1) := by decide +kernel
theorem dX5_tops_9 : decode cX5_tops 9 = .ok (.iconst 1, 1) := by decide +kernel
theorem dX5_tops_10 : decode cX5_tops 10 = .ok (.bipush 60, 2) := by decide +kernel
theorem dX5_tops_12 : decode cX5_tops 12 = .ok (.invokestatic 62, 3) := by decide +kernel
theorem dX5_tops_15 : decode cX5_tops 15 = .ok (.ifCond .ne 5, 3) := by decide +kernel
theorem dX5_tops_18 : decode cX5_tops 18 = .ok (.iconst (-1), 1) := by decide +kernel
theorem dX5_tops_19 : decode cX5_tops 19 = .ok (.ireturn, 1) := by decide +kernel
theorem dX5_tops_20 : decode cX5_tops 20 = .ok (.aload_n 0, 1) := by decide +kernel
theorem dX5_tops_21 : decode cX5_tops 21 = .ok (.getfield 26, 3) := by decide +kernel
theorem dX5_tops_24 : decode cX5_tops 24 = .ok (.invokevirtual 132, 3) := by decide +kernel
theorem dX5_tops_27 : decode cX5_tops 27 = .ok (.aload_n 0, 1) := by decide +kernel
theorem dX5_tops_28 : decode cX5_tops 28 = .ok (.getfield 26, 3) := by decide +kernel
theorem dX5_tops_31 : decode cX5_tops 31 = .ok (.getfield 131, 3) := by decide +kernel
theorem dX5_tops_34 : decode cX5_tops 34 = .ok (.bipush 16, 2) := by decide +kernel
theorem dX5_tops_36 : decode cX5_tops 36 = .ok (.iload_n 1, 1) := by decide +kernel
theorem dX5_tops_37 : decode cX5_tops 37 = .ok (.iadd, 1) := by decide +kernel
theorem dX5_tops_38 : decode cX5_tops 38 = .ok (.aload_n 0, 1) := by decide +kernel
theorem dX5_tops_39 : decode cX5_tops 39 = .ok (.getfield 26, 3) := by decide +kernel
theorem dX5_tops_42 : decode cX5_tops 42 = .ok (.iload_n 1, 1) := by decide +kernel
theorem dX5_tops_43 : decode cX5_tops 43 = .ok (.invokevirtual 100, 3) := by decide +kernel
theorem dX5_tops_46 : decode cX5_tops 46 = .ok (.iload_n 2, 1) := by decide +kernel
theorem dX5_tops_47 : decode cX5_tops 47 = .ok (.invokestatic 149, 3) := by decide +kernel
theorem dX5_tops_50 : decode cX5_tops 50 = .ok (.iastore, 1) := by decide +kernel
theorem dX5_tops_51 : decode cX5_tops 51 = .ok (.aload_n 0, 1) := by decide +kernel
theorem dX5_tops_52 : decode cX5_tops 52 = .ok (.getfield 26, 3) := by decide +kernel
theorem dX5_tops_55 : decode cX5_tops 55 = .ok (.iload_n 1, 1) := by decide +kernel
theorem dX5_tops_56 : decode cX5_tops 56 = .ok (.invokevirtual 100, 3) := by decide +kernel
theorem dX5_tops_59 : decode cX5_tops 59 = .ok (.ireturn, 1) := by decide +kernel
set_option maxRecDepth 20000 in
theorem ggX5_plants_X5_isWithin : GoodIn wsX5_plants wsX5_isWithin := goodIn_r _ [6] (by decide +kernel) (by decide +kernel)
set_option maxRecDepth 20000 in
theorem gX5_plants_X5_isWithin : GoodIn wsX5_plants (va_wsS RX5 62 yX5_isWithin wsX5_isWithin) := goodIn_app (goodIn_of _ (by decide +kernel)) ggX5_plants_X5_isWithin
set_option maxRecDepth 20000 in
theorem ggX5_plants_X3_trees : GoodIn wsX5_plants wsX3_trees := goodIn_r _ [11, 12, 40, 41, 42, 43] (by decide +kernel) (by decide +kernel)
set_option maxRecDepth 20000 in
theorem gX5_plants_X3_trees : GoodIn wsX5_plants (wsV RX5 152 RX3 yX3_trees wsX3_trees) := goodIn_app (goodIn_of _ (by decide +kernel)) ggX5_plants_X3_trees
set_option maxRecDepth 20000 in
theorem ggX5_plants_X3_remember : GoodIn wsX5_plants wsX3_remember := goodIn_r _ [16, 12, 17, 18, 19, 20, 21, 22, 23, 24, 25, 26, 27, 40, 41, 42, 43] (by decide +kernel) (by decide +kernel)
set_option maxRecDepth 20000 in
theorem gX5_plants_X3_remember : GoodIn wsX5_plants (wsV RX5 132 RX3 yX3_remember wsX3_remember) := goodIn_app (goodIn_of _ (by decide +kernel)) ggX5_plants_X3_remember
set_option maxRecDepth 20000 in
theorem ggX5_plants_X3_put : GoodIn wsX5_plants wsX3_put := goodIn_r _ [30] (by decide +kernel) (by decide +kernel)
set_option maxRecDepth 20000 in
theorem gX5_plants_X3_put : GoodIn wsX5_plants (va_wsS RX5 155 yX3_put wsX3_put) := goodIn_app (goodIn_of _ (by decide +kernel)) ggX5_plants_X3_put
theorem dX5_plants_0 : decode cX5_plants 0 = .ok (.iload_n 1, 1) := by decide +kernel
theorem dX5_plants_1 : decode cX5_plants 1 = .ok (.iconst 0, 1) := by decide +kernel
theorem dX5_plants_2 : decode cX5_plants 2 = .ok (.bipush 9, 2) := by decide +kernel
theorem dX5_plants_4 : decode cX5_plants 4 = .ok (.invokestatic 62, 3) := by decide +kernel
theorem dX5_plants_7 : decode cX5_plants 7 = .ok (.ifCond .eq 13, 3) := by decide +kernel
theorem dX5_plants_10 : decode cX5_plants 10 = .ok (.iload_n 2, 1) := by decide +kernel
theorem dX5_plants_11 : decode cX5_plants 11 = .ok (.iconst 0, 1) := by decide +kernel
theorem dX5_plants_12 : decode cX5_plants 12 = .ok (.bipush 9, 2) := by decide +kernel
theorem dX5_plants_14 : decode cX5_plants 14 = .ok (.invokestatic 62, 3) := by decide +kernel
theorem dX5_plants_17 : decode cX5_plants 17 = .ok (.ifCond .ne 5, 3) := by decide +kernel
theorem dX5_plants_20 : decode cX5_plants 20 = .ok (.iconst (-1), 1) := by decide +kernel
theorem dX5_plants_21 : decode cX5_plants 21 = .ok (.ireturn, 1) := by decide +kernel
theorem dX5_plants_22 : decode cX5_plants 22 = .ok (.aload_n 0, 1) := by decide +kernel
theorem dX5_plants_23 : decode cX5_plants 23 = .ok (.getfield 26, 3) := by decide +kernel
theorem dX5_plants_26 : decode cX5_plants 26 = .ok (.invokevirtual 152, 3) := by decide +kernel
theorem dX5_plants_29 : decode cX5_plants 29 = .ok (.istore_n 3, 1) := by decide +kernel
theorem dX5_plants_30 : decode cX5_plants 30 = .ok (.iload_n 3, 1) := by decide +kernel
theorem dX5_plants_31 : decode cX5_plants 31 = .ok (.bipush 7, 2) := by decide +kernel
theorem dX5_plants_33 : decode cX5_plants 33 = .ok (.if_icmp .lt 6, 3) := by decide +kernel
theorem dX5_plants_36 : decode cX5_plants 36 = .ok (.bipush (-3), 2) := by decide +kernel
theorem dX5_plants_38 : decode cX5_plants 38 = .ok (.ireturn, 1) := by decide +kernel
theorem dX5_plants_39 : decode cX5_plants 39 = .ok (.aload_n 0, 1) := by decide +kernel
theorem dX5_plants_40 : decode cX5_plants 40 = .ok (.getfield 26, 3) := by decide +kernel
theorem dX5_plants_43 : decode cX5_plants 43 = .ok (.invokevirtual 132, 3) := by decide +kernel
theorem dX5_plants_46 : decode cX5_plants 46 = .ok (.aload_n 0, 1) := by decide +kernel
theorem dX5_plants_47 : decode cX5_plants 47 = .ok (.getfield 26, 3) := by decide +kernel
theorem dX5_plants_50 : decode cX5_plants 50 = .ok (.getfield 131, 3) := by decide +kernel
theorem dX5_plants_53 : decode cX5_plants 53 = .ok (.iload_n 1, 1) := by decide +kernel
theorem dX5_plants_54 : decode cX5_plants 54 = .ok (.iload_n 2, 1) := by decide +kernel
theorem dX5_plants_55 : decode cX5_plants 55 = .ok (.iconst 1, 1) := by decide +kernel
theorem dX5_plants_56 : decode cX5_plants 56 = .ok (.iconst 2, 1) := by decide +kernel
theorem dX5_plants_57 : decode cX5_plants 57 = .ok (.invokestatic 155, 3) := by decide +kernel
theorem dX5_plants_60 : decode cX5_plants 60 = .ok (.iload_n 3, 1) := by decide +kernel
theorem dX5_plants_61 : decode cX5_plants 61 = .ok (.ireturn, 1) := by decide +kernel
set_option maxRecDepth 20000 in
theorem ggX5_undo_X3_recall : GoodIn wsX5_undo wsX3_recall := goodIn_r _ [7, 8, 9, 10, 11, 12, 13, 14, 15, 25, 26, 27, 28] (by decide +kernel) (by decide +kernel)
set_option maxRecDepth 20000 in
theorem gX5_undo_X3_recall : GoodIn wsX5_undo (wsV RX5 162 RX3 yX3_recall wsX3_recall) := goodIn_app (goodIn_of _ (by decide +kernel)) ggX5_undo_X3_recall
theorem dX5_undo_0 : decode cX5_undo 0 = .ok (.aload_n 0, 1) := by decide +kernel
theorem dX5_undo_1 : decode cX5_undo 1 = .ok (.getfield 26, 3) := by decide +kernel
theorem dX5_undo_4 : decode cX5_undo 4 = .ok (.getfield 159, 3) := by decide +kernel
theorem dX5_undo_7 : decode cX5_undo 7 = .ok (.ifCond .ne 6, 3) := by decide +kernel
theorem dX5_undo_10 : decode cX5_undo 10 = .ok (.bipush (-2), 2) := by decide +kernel
theorem dX5_undo_12 : decode cX5_undo 12 = .ok (.ireturn, 1) := by decide +kernel
theorem dX5_undo_13 : decode cX5_undo 13 = .ok (.aload_n 0, 1) := by decide +kernel
theorem dX5_undo_14 : decode cX5_undo 14 = .ok (.getfield 26, 3) := by decide +kernel
theorem dX5_undo_17 : decode cX5_undo 17 = .ok (.invokevirtual 162, 3) := by decide +kernel
theorem dX5_undo_20 : decode cX5_undo 20 = .ok (.aload_n 0, 1) := by decide +kernel
theorem dX5_undo_21 : decode cX5_undo 21 = .ok (.getfield 26, 3) := by decide +kernel
theorem dX5_undo_24 : decode cX5_undo 24 = .ok (.getfield 159, 3) := by decide +kernel
theorem dX5_undo_27 : decode cX5_undo 27 = .ok (.ireturn, 1) := by decide +kernel
set_option maxRecDepth 20000 in
theorem ggX5_now_X0_covered : GoodIn wsX5_now wsX0_covered := goodIn_r _ [8, 9, 10, 11, 7, 12, 13, 14, 15, 16, 17, 18, 19, 20, 21, 22, 23, 24, 25, 26, 27, 28, 29, 30, 31, 32, 33, 34, 35, 36, 37, 38, 39, 40, 41, 42, 43, 44, 45, 46, 47, 48, 49, 50, 51, 52, 53, 54, 55, 56, 57, 58, 59, 60, 61, 62, 63, 64, 65, 66, 135, 136, 137, 131, 132, 133, 134, 138, 139, 140, 141, 142, 143] (by decide +kernel) (by decide +kernel)
set_option maxRecDepth 20000 in
theorem gX5_now_X0_covered : GoodIn wsX5_now (wsV RX5 138 RX0 yX0_covered wsX0_covered) := goodIn_app (goodIn_of _ (by decide +kernel)) ggX5_now_X0_covered
set_option maxRecDepth 20000 in
theorem ggX5_now_X3_usedUp : GoodIn wsX5_now wsX3_usedUp := goodIn_r _ [70, 71, 15, 16, 17, 18, 19, 41, 42, 43, 44, 131, 132, 133, 134] (by decide +kernel) (by decide +kernel)
set_option maxRecDepth 20000 in
theorem gX5_now_X3_usedUp : GoodIn wsX5_now (wsV RX5 141 RX3 yX3_usedUp wsX3_usedUp) := goodIn_app (goodIn_of _ (by decide +kernel)) ggX5_now_X3_usedUp
set_option maxRecDepth 20000 in
theorem ggX5_now_X0_premiums : GoodIn wsX5_now wsX0_premiums := goodIn_r _ [75, 24, 76, 77, 78, 79, 7, 80, 81, 82, 83, 39, 84, 85, 86, 87, 88, 13, 14, 15, 16, 17, 18, 19, 89, 90, 91, 92, 33, 34, 35, 36, 37, 38, 40, 41, 42, 43, 44, 45, 46, 47, 48, 49, 50, 51, 52, 25, 26, 27, 28, 29, 30, 31, 32, 93, 61, 62, 56, 63, 64, 65, 66, 94, 95, 96, 97, 98, 99, 100, 135, 136, 137, 138, 139, 140, 141, 142, 143, 131, 132, 133, 134] (by decide +kernel) (by decide +kernel)
set_option maxRecDepth 20000 in
theorem gX5_now_X0_premiums : GoodIn wsX5_now (wsV RX5 165 RX0 yX0_premiums wsX0_premiums) := goodIn_app (goodIn_of _ (by decide +kernel)) ggX5_now_X0_premiums
set_option maxRecDepth 20000 in
theorem ggX5_now_X5_struckInAll : GoodIn wsX5_now wsX5_struckInAll := goodIn_r _ [105, 106, 107, 1, 108, 109, 110, 17, 111, 19, 122, 123, 124, 125, 126, 127, 128, 129, 130, 138, 139, 140, 141, 142, 143, 131, 132, 133, 134] (by decide +kernel) (by decide +kernel)
set_option maxRecDepth 20000 in
theorem gX5_now_X5_struckInAll : GoodIn wsX5_now (wsV RX5 168 RX5 yX5_struckInAll wsX5_struckInAll) := goodIn_app (goodIn_of _ (by decide +kernel)) ggX5_now_X5_struckInAll
set_option maxRecDepth 20000 in
theorem ggX5_now_X0_enough : GoodIn wsX5_now wsX0_enough := goodIn_r _ [115, 13, 116, 14, 15, 16, 17, 18, 19, 20, 21, 22, 7, 23, 24, 25, 26, 27, 28, 29, 30, 31, 32, 33, 34, 35, 36, 37, 38, 39, 40, 41, 42, 43, 44, 45, 46, 47, 48, 49, 50, 51, 52, 53, 54, 55, 56, 57, 58, 59, 60, 61, 62, 63, 64, 65, 66, 117, 5, 6, 8, 9, 10, 11, 12, 94, 95, 96, 97, 98, 99, 100, 118, 119, 120, 121, 135, 136, 137, 131, 132, 133, 134, 138, 139, 140, 141, 142, 143] (by decide +kernel) (by decide +kernel)
set_option maxRecDepth 20000 in
theorem gX5_now_X0_enough : GoodIn wsX5_now (wsV RX5 171 RX0 yX0_enough wsX0_enough) := goodIn_app (goodIn_of _ (by decide +kernel)) ggX5_now_X0_enough
theorem dX5_now_0 : decode cX5_now 0 = .ok (.iload_n 1, 1) := by decide +kernel
theorem dX5_now_1 : decode cX5_now 1 = .ok (.tableswitch 87 0 5 #[39, 49, 58, 66, 74, 79], 39) := by decide +kernel
theorem dX5_now_40 : decode cX5_now 40 = .ok (.aload_n 0, 1) := by decide +kernel
theorem dX5_now_41 : decode cX5_now 41 = .ok (.getfield 26, 3) := by decide +kernel
theorem dX5_now_44 : decode cX5_now 44 = .ok (.getfield 131, 3) := by decide +kernel
theorem dX5_now_47 : decode cX5_now 47 = .ok (.iconst 0, 1) := by decide +kernel
theorem dX5_now_48 : decode cX5_now 48 = .ok (.iaload, 1) := by decide +kernel
theorem dX5_now_49 : decode cX5_now 49 = .ok (.ireturn, 1) := by decide +kernel
theorem dX5_now_50 : decode cX5_now 50 = .ok (.aload_n 0, 1) := by decide +kernel
theorem dX5_now_51 : decode cX5_now 51 = .ok (.getfield 35, 3) := by decide +kernel
theorem dX5_now_54 : decode cX5_now 54 = .ok (.iconst 0, 1) := by decide +kernel
theorem dX5_now_55 : decode cX5_now 55 = .ok (.invokevirtual 138, 3) := by decide +kernel
theorem dX5_now_58 : decode cX5_now 58 = .ok (.ireturn, 1) := by decide +kernel
theorem dX5_now_59 : decode cX5_now 59 = .ok (.aload_n 0, 1) := by decide +kernel
theorem dX5_now_60 : decode cX5_now 60 = .ok (.getfield 26, 3) := by decide +kernel
theorem dX5_now_63 : decode cX5_now 63 = .ok (.invokevirtual 141, 3) := by decide +kernel
theorem dX5_now_66 : decode cX5_now 66 = .ok (.ireturn, 1) := by decide +kernel
theorem dX5_now_67 : decode cX5_now 67 = .ok (.aload_n 0, 1) := by decide +kernel
theorem dX5_now_68 : decode cX5_now 68 = .ok (.getfield 35, 3) := by decide +kernel
theorem dX5_now_71 : decode cX5_now 71 = .ok (.invokevirtual 165, 3) := by decide +kernel
theorem dX5_now_74 : decode cX5_now 74 = .ok (.ireturn, 1) := by decide +kernel
theorem dX5_now_75 : decode cX5_now 75 = .ok (.aload_n 0, 1) := by decide +kernel
theorem dX5_now_76 : decode cX5_now 76 = .ok (.invokevirtual 168, 3) := by decide +kernel
theorem dX5_now_79 : decode cX5_now 79 = .ok (.ireturn, 1) := by decide +kernel
theorem dX5_now_80 : decode cX5_now 80 = .ok (.aload_n 0, 1) := by decide +kernel
theorem dX5_now_81 : decode cX5_now 81 = .ok (.getfield 35, 3) := by decide +kernel
theorem dX5_now_84 : decode cX5_now 84 = .ok (.invokevirtual 171, 3) := by decide +kernel
theorem dX5_now_87 : decode cX5_now 87 = .ok (.ireturn, 1) := by decide +kernel
theorem dX5_now_88 : decode cX5_now 88 = .ok (.iconst (-1), 1) := by decide +kernel
theorem dX5_now_89 : decode cX5_now 89 = .ok (.ireturn, 1) := by decide +kernel
set_option maxRecDepth 20000 in
theorem ggX5_only_X5_isHouse : GoodIn wsX5_only wsX5_isHouse := goodIn_r _ [6, 7, 8, 67, 68, 69, 70, 71, 72, 73, 74, 75, 76, 77, 78, 79, 80, 81] (by decide +kernel) (by decide +kernel)
set_option maxRecDepth 20000 in
theorem gX5_only_X5_isHouse : GoodIn wsX5_only (wsV RX5 113 RX5 yX5_isHouse wsX5_isHouse) := goodIn_app (goodIn_of _ (by decide +kernel)) ggX5_only_X5_isHouse
set_option maxRecDepth 20000 in
theorem ggX5_only_X0_lone : GoodIn wsX5_only wsX0_lone := goodIn_r _ [13, 14, 15, 16, 17, 12, 18, 19, 20, 21, 22, 23, 24, 25, 26, 27, 28, 29, 30, 31, 32, 33, 34, 35, 36, 37, 38, 39, 40, 41, 42, 43, 44, 45, 46, 47, 48, 49, 50, 51, 52, 53, 54, 55, 56, 57, 58, 59, 60, 61, 62, 63, 64, 65, 66, 82, 83, 84, 85, 86, 87, 88, 76, 77, 78, 79, 80, 81] (by decide +kernel) (by decide +kernel)
set_option maxRecDepth 20000 in
theorem gX5_only_X0_lone : GoodIn wsX5_only (wsV RX5 174 RX0 yX0_lone wsX0_lone) := goodIn_app (goodIn_of _ (by decide +kernel)) ggX5_only_X0_lone
theorem dX5_only_0 : decode cX5_only 0 = .ok (.aload_n 0, 1) := by decide +kernel
theorem dX5_only_1 : decode cX5_only 1 = .ok (.iload_n 1, 1) := by decide +kernel
theorem dX5_only_2 : decode cX5_only 2 = .ok (.invokevirtual 113, 3) := by decide +kernel
theorem dX5_only_5 : decode cX5_only 5 = .ok (.ifCond .eq 14, 3) := by decide +kernel
theorem dX5_only_8 : decode cX5_only 8 = .ok (.aload_n 0, 1) := by decide +kernel
theorem dX5_only_9 : decode cX5_only 9 = .ok (.getfield 35, 3) := by decide +kernel
theorem dX5_only_12 : decode cX5_only 12 = .ok (.iload_n 1, 1) := by decide +kernel
theorem dX5_only_13 : decode cX5_only 13 = .ok (.invokevirtual 174, 3) := by decide +kernel
theorem dX5_only_16 : decode cX5_only 16 = .ok (.goto 4, 3) := by decide +kernel
theorem dX5_only_19 : decode cX5_only 19 = .ok (.iconst (-1), 1) := by decide +kernel
theorem dX5_only_20 : decode cX5_only 20 = .ok (.ireturn, 1) := by decide +kernel
set_option maxRecDepth 20000 in
theorem ggX5_when_X5_isHouse : GoodIn wsX5_when wsX5_isHouse := goodIn_r _ [6, 7, 8, 76, 77, 78, 79, 80, 81, 82, 83, 84, 85, 86, 87, 88, 89, 90] (by decide +kernel) (by decide +kernel)
set_option maxRecDepth 20000 in
theorem gX5_when_X5_isHouse : GoodIn wsX5_when (wsV RX5 113 RX5 yX5_isHouse wsX5_isHouse) := goodIn_app (goodIn_of _ (by decide +kernel)) ggX5_when_X5_isHouse
set_option maxRecDepth 20000 in
theorem ggX5_when_X0_firstYear : GoodIn wsX5_when wsX0_firstYear := goodIn_r _ [13, 14, 15, 16, 12, 17, 18, 19, 20, 21, 22, 23, 24, 25, 26, 27, 28, 29, 30, 31, 32, 33, 34, 35, 36, 37, 38, 39, 40, 41, 42, 43, 44, 45, 46, 47, 48, 49, 50, 51, 52, 53, 54, 55, 56, 57, 58, 59, 60, 61, 62, 63, 64, 65, 66, 67, 68, 69, 70, 71, 72, 73, 74, 75, 91, 92, 93, 94, 95, 96, 97, 85, 86, 87, 88, 89, 90] (by decide +kernel) (by decide +kernel)
set_option maxRecDepth 20000 in
theorem gX5_when_X0_firstYear : GoodIn wsX5_when (wsV RX5 177 RX0 yX0_firstYear wsX0_firstYear) := goodIn_app (goodIn_of _ (by decide +kernel)) ggX5_when_X0_firstYear
theorem dX5_when_0 : decode cX5_when 0 = .ok (.aload_n 0, 1) := by decide +kernel
theorem dX5_when_1 : decode cX5_when 1 = .ok (.iload_n 1, 1) := by decide +kernel
theorem dX5_when_2 : decode cX5_when 2 = .ok (.invokevirtual 113, 3) := by decide +kernel
theorem dX5_when_5 : decode cX5_when 5 = .ok (.ifCond .eq 14, 3) := by decide +kernel
theorem dX5_when_8 : decode cX5_when 8 = .ok (.aload_n 0, 1) := by decide +kernel
theorem dX5_when_9 : decode cX5_when 9 = .ok (.getfield 35, 3) := by decide +kernel
theorem dX5_when_12 : decode cX5_when 12 = .ok (.iload_n 1, 1) := by decide +kernel
theorem dX5_when_13 : decode cX5_when 13 = .ok (.invokevirtual 177, 3) := by decide +kernel
theorem dX5_when_16 : decode cX5_when 16 = .ok (.goto 4, 3) := by decide +kernel
theorem dX5_when_19 : decode cX5_when 19 = .ok (.iconst (-1), 1) := by decide +kernel
theorem dX5_when_20 : decode cX5_when 20 = .ok (.ireturn, 1) := by decide +kernel
set_option maxRecDepth 20000 in
theorem ggX5_where_X5_isWithin : GoodIn wsX5_where wsX5_isWithin := goodIn_r _ [5] (by decide +kernel) (by decide +kernel)
set_option maxRecDepth 20000 in
theorem gX5_where_X5_isWithin : GoodIn wsX5_where (va_wsS RX5 62 yX5_isWithin wsX5_isWithin) := goodIn_app (goodIn_of _ (by decide +kernel)) ggX5_where_X5_isWithin
set_option maxRecDepth 20000 in
theorem ggX5_where_X0_planting : GoodIn wsX5_where wsX0_planting := goodIn_r _ [10, 11, 12, 13, 14, 15, 16, 17, 18, 19, 20, 21, 9, 22, 23, 24, 25, 26, 27, 28, 29, 30, 31, 32, 33, 34, 35, 36, 37, 38, 39, 40, 41, 42, 43, 44, 45, 46, 47, 48, 49, 50, 51, 52, 53, 54, 55, 56, 57, 58, 59, 60, 61, 62, 63, 64, 65, 66, 67, 68, 69, 70, 71, 72, 73, 74, 75, 76, 77, 78, 79, 80, 81, 82, 83, 84, 85, 86, 96, 97, 98, 99, 100, 101, 102, 103, 104, 105, 106, 107, 108] (by decide +kernel) (by decide +kernel)
set_option maxRecDepth 20000 in
theorem gX5_where_X0_planting : GoodIn wsX5_where (wsV RX5 180 RX0 yX0_planting wsX0_planting) := goodIn_app (goodIn_of _ (by decide +kernel)) ggX5_where_X0_planting
theorem dX5_where_0 : decode cX5_where 0 = .ok (.iload_n 1, 1) := by decide +kernel
theorem dX5_where_1 : decode cX5_where 1 = .ok (.iconst 0, 1) := by decide +kernel
theorem dX5_where_2 : decode cX5_where 2 = .ok (.bipush 40, 2) := by decide +kernel
theorem dX5_where_4 : decode cX5_where 4 = .ok (.invokestatic 62, 3) := by decide +kernel
theorem dX5_where_7 : decode cX5_where 7 = .ok (.ifCond .eq 12, 3) := by decide +kernel
theorem dX5_where_10 : decode cX5_where 10 = .ok (.iload_n 2, 1) := by decide +kernel
theorem dX5_where_11 : decode cX5_where 11 = .ok (.iconst 0, 1) := by decide +kernel
theorem dX5_where_12 : decode cX5_where 12 = .ok (.iconst 2, 1) := by decide +kernel
theorem dX5_where_13 : decode cX5_where 13 = .ok (.invokestatic 62, 3) := by decide +kernel
theorem dX5_where_16 : decode cX5_where 16 = .ok (.ifCond .ne 5, 3) := by decide +kernel
theorem dX5_where_19 : decode cX5_where 19 = .ok (.iconst (-1), 1) := by decide +kernel
theorem dX5_where_20 : decode cX5_where 20 = .ok (.ireturn, 1) := by decide +kernel
theorem dX5_where_21 : decode cX5_where 21 = .ok (.aload_n 0, 1) := by decide +kernel
theorem dX5_where_22 : decode cX5_where 22 = .ok (.getfield 35, 3) := by decide +kernel
theorem dX5_where_25 : decode cX5_where 25 = .ok (.iload_n 1, 1) := by decide +kernel
theorem dX5_where_26 : decode cX5_where 26 = .ok (.iload_n 2, 1) := by decide +kernel
theorem dX5_where_27 : decode cX5_where 27 = .ok (.invokevirtual 180, 3) := by decide +kernel
theorem dX5_where_30 : decode cX5_where 30 = .ok (.ireturn, 1) := by decide +kernel
set_option maxRecDepth 20000 in
theorem ggX5_sold_X0_mostPaid : GoodIn wsX5_sold wsX0_mostPaid := goodIn_r _ [6, 7, 8, 9, 10, 11, 12, 13, 14, 15, 16, 5, 17, 18, 19, 20, 21, 22, 23, 24, 25, 26, 27, 28, 29, 30, 31, 32, 33, 34, 35, 36, 37, 38, 39, 40, 41, 42, 43, 44, 45, 46, 47, 48, 49, 50, 51, 52, 53, 54, 55, 56, 57, 58, 59, 60, 61, 62, 63, 64, 65, 83, 84, 85, 86, 87, 88, 89, 90, 91, 92, 93, 94, 95] (by decide +kernel) (by decide +kernel)
set_option maxRecDepth 20000 in
theorem gX5_sold_X0_mostPaid : GoodIn wsX5_sold (wsV RX5 183 RX0 yX0_mostPaid wsX0_mostPaid) := goodIn_app (goodIn_of _ (by decide +kernel)) ggX5_sold_X0_mostPaid
set_option maxRecDepth 20000 in
theorem ggX5_sold_X5_isTree : GoodIn wsX5_sold wsX5_isTree := goodIn_r _ [70, 71, 72, 9, 10, 11, 12, 13, 74, 75, 76, 77, 78, 79, 80, 81, 82, 86, 87, 88, 89] (by decide +kernel) (by decide +kernel)
set_option maxRecDepth 20000 in
theorem gX5_sold_X5_isTree : GoodIn wsX5_sold (wsV RX5 90 RX5 yX5_isTree wsX5_isTree) := goodIn_app (goodIn_of _ (by decide +kernel)) ggX5_sold_X5_isTree
set_option maxRecDepth 20000 in
theorem ggX5_sold_X0_payers : GoodIn wsX5_sold wsX0_payers := goodIn_r _ [17, 18, 19, 20, 21, 22, 5, 23, 7, 8, 9, 10, 11, 12, 13, 24, 25, 26, 27, 28, 29, 30, 31, 32, 33, 34, 35, 36, 37, 38, 39, 40, 41, 42, 43, 44, 45, 46, 47, 48, 49, 50, 51, 52, 53, 54, 55, 56, 57, 58, 59, 60, 61, 62, 63, 64, 65, 83, 84, 85, 90, 91, 92, 93, 94, 95, 86, 87, 88, 89] (by decide +kernel) (by decide +kernel)
set_option maxRecDepth 20000 in
theorem gX5_sold_X0_payers : GoodIn wsX5_sold (wsV RX5 186 RX0 yX0_payers wsX0_payers) := goodIn_app (goodIn_of _ (by decide +kernel)) ggX5_sold_X0_payers
theorem dX5_sold_0 : decode cX5_sold 0 = .ok (.iload_n 1, 1) := by decide +kernel
theorem dX5_sold_1 : decode cX5_sold 1 = .ok (.iconst (-1), 1) := by decide +kernel
theorem dX5_sold_2 : decode cX5_sold 2 = .ok (.if_icmp .ne 11, 3) := by decide +kernel
theorem dX5_sold_5 : decode cX5_sold 5 = .ok (.aload_n 0, 1) := by decide +kernel
theorem dX5_sold_6 : decode cX5_sold 6 = .ok (.getfield 35, 3) := by decide +kernel
theorem dX5_sold_9 : decode cX5_sold 9 = .ok (.invokevirtual 183, 3) := by decide +kernel
theorem dX5_sold_12 : decode cX5_sold 12 = .ok (.ireturn, 1) := by decide +kernel
theorem dX5_sold_13 : decode cX5_sold 13 = .ok (.aload_n 0, 1) := by decide +kernel
theorem dX5_sold_14 : decode cX5_sold 14 = .ok (.iload_n 1, 1) := by decide +kernel
theorem dX5_sold_15 : decode cX5_sold 15 = .ok (.invokevirtual 90, 3) := by decide +kernel
theorem dX5_sold_18 : decode cX5_sold 18 = .ok (.ifCond .eq 14, 3) := by decide +kernel
theorem dX5_sold_21 : decode cX5_sold 21 = .ok (.aload_n 0, 1) := by decide +kernel
theorem dX5_sold_22 : decode cX5_sold 22 = .ok (.getfield 35, 3) := by decide +kernel
theorem dX5_sold_25 : decode cX5_sold 25 = .ok (.iload_n 1, 1) := by decide +kernel
theorem dX5_sold_26 : decode cX5_sold 26 = .ok (.invokevirtual 186, 3) := by decide +kernel
theorem dX5_sold_29 : decode cX5_sold 29 = .ok (.goto 4, 3) := by decide +kernel
theorem dX5_sold_32 : decode cX5_sold 32 = .ok (.iconst (-1), 1) := by decide +kernel
theorem dX5_sold_33 : decode cX5_sold 33 = .ok (.ireturn, 1) := by decide +kernel
set_option maxRecDepth 20000 in
theorem ggX5_ribbons_X0_leastRibbons : GoodIn wsX5_ribbons wsX0_leastRibbons := goodIn_r _ [8, 9, 10, 11, 12, 13, 14, 15, 16, 17, 18, 19, 20, 21, 22, 23, 24, 25, 26, 27, 28, 29, 30, 31, 32, 33, 34, 35, 36, 37, 38, 39, 40, 41, 42, 43, 44, 45, 46, 47, 48, 49, 50, 51, 52, 53, 54, 55, 56, 7, 57, 58, 59, 60, 61, 62, 63, 64, 65, 66, 82, 83, 84, 76, 77, 78, 79, 80, 81, 85, 86, 87, 88] (by decide +kernel) (by decide +kernel)
set_option maxRecDepth 20000 in
theorem gX5_ribbons_X0_leastRibbons : GoodIn wsX5_ribbons (wsV RX5 192 RX0 yX0_leastRibbons wsX0_leastRibbons) := goodIn_app (goodIn_of _ (by decide +kernel)) ggX5_ribbons_X0_leastRibbons
theorem dX5_ribbons_0 : decode cX5_ribbons 0 = .ok (.aload_n 0, 1) := by decide +kernel
theorem dX5_ribbons_1 : decode cX5_ribbons 1 = .ok (.getfield 19, 3) := by decide +kernel
theorem dX5_ribbons_4 : decode cX5_ribbons 4 = .ok (.getfield 189, 3) := by decide +kernel
theorem dX5_ribbons_7 : decode cX5_ribbons 7 = .ok (.ifCond .ne 8, 3) := by decide +kernel
theorem dX5_ribbons_10 : decode cX5_ribbons 10 = .ok (.bipush (-9), 2) := by decide +kernel
theorem dX5_ribbons_12 : decode cX5_ribbons 12 = .ok (.goto 10, 3) := by decide +kernel
theorem dX5_ribbons_15 : decode cX5_ribbons 15 = .ok (.aload_n 0, 1) := by decide +kernel
theorem dX5_ribbons_16 : decode cX5_ribbons 16 = .ok (.getfield 35, 3) := by decide +kernel
theorem dX5_ribbons_19 : decode cX5_ribbons 19 = .ok (.invokevirtual 192, 3) := by decide +kernel
theorem dX5_ribbons_22 : decode cX5_ribbons 22 = .ok (.ireturn, 1) := by decide +kernel
set_option maxRecDepth 20000 in
theorem ggX5_tracks_X5_isTree : GoodIn wsX5_tracks wsX5_isTree := goodIn_r _ [6, 7, 8, 9, 10, 11, 12, 13, 64, 65, 66, 67, 68, 69, 70, 71, 72, 73, 74, 75, 76] (by decide +kernel) (by decide +kernel)
set_option maxRecDepth 20000 in
theorem gX5_tracks_X5_isTree : GoodIn wsX5_tracks (wsV RX5 90 RX5 yX5_isTree wsX5_isTree) := goodIn_app (goodIn_of _ (by decide +kernel)) ggX5_tracks_X5_isTree
set_option maxRecDepth 20000 in
theorem ggX5_tracks_X4_tracksOf : GoodIn wsX5_tracks wsX4_tracksOf := goodIn_r _ [18, 19, 20, 21, 22, 11, 23, 24, 9, 10, 12, 13, 25, 26, 27, 28, 29, 30, 31, 17, 32, 33, 34, 35, 36, 37, 38, 39, 40, 41, 42, 43, 44, 45, 46, 47, 48, 49, 50, 51, 52, 53, 54, 55, 56, 57, 77, 78, 79, 73, 74, 75, 76, 80, 81, 82, 83, 84, 85] (by decide +kernel) (by decide +kernel)
set_option maxRecDepth 20000 in
theorem gX5_tracks_X4_tracksOf : GoodIn wsX5_tracks (wsV RX5 195 RX4 yX4_tracksOf wsX4_tracksOf) := goodIn_app (goodIn_of _ (by decide +kernel)) ggX5_tracks_X4_tracksOf
set_option maxRecDepth 20000 in
theorem ggX5_tracks_X5_isHouse : GoodIn wsX5_tracks wsX5_isHouse := goodIn_r _ [61, 62, 63, 64, 65, 66, 67, 68, 69, 70, 71, 72, 80, 81, 82, 83, 84, 85] (by decide +kernel) (by decide +kernel)
set_option maxRecDepth 20000 in
theorem gX5_tracks_X5_isHouse : GoodIn wsX5_tracks (wsV RX5 113 RX5 yX5_isHouse wsX5_isHouse) := goodIn_app (goodIn_of _ (by decide +kernel)) ggX5_tracks_X5_isHouse
theorem dX5_tracks_0 : decode cX5_tracks 0 = .ok (.iload_n 1, 1) := by decide +kernel
theorem dX5_tracks_1 : decode cX5_tracks 1 = .ok (.ifCond .ne 20, 3) := by decide +kernel
theorem dX5_tracks_4 : decode cX5_tracks 4 = .ok (.aload_n 0, 1) := by decide +kernel
theorem dX5_tracks_5 : decode cX5_tracks 5 = .ok (.iload_n 2, 1) := by decide +kernel
theorem dX5_tracks_6 : decode cX5_tracks 6 = .ok (.invokevirtual 90, 3) := by decide +kernel
theorem dX5_tracks_9 : decode cX5_tracks 9 = .ok (.ifCond .eq 12, 3) := by decide +kernel
theorem dX5_tracks_12 : decode cX5_tracks 12 = .ok (.aload_n 0, 1) := by decide +kernel
theorem dX5_tracks_13 : decode cX5_tracks 13 = .ok (.getfield 42, 3) := by decide +kernel
theorem dX5_tracks_16 : decode cX5_tracks 16 = .ok (.iload_n 2, 1) := by decide +kernel
theorem dX5_tracks_17 : decode cX5_tracks 17 = .ok (.invokevirtual 195, 3) := by decide +kernel
theorem dX5_tracks_20 : decode cX5_tracks 20 = .ok (.ireturn, 1) := by decide +kernel
theorem dX5_tracks_21 : decode cX5_tracks 21 = .ok (.iload_n 1, 1) := by decide +kernel
theorem dX5_tracks_22 : decode cX5_tracks 22 = .ok (.iconst 1, 1) := by decide +kernel
theorem dX5_tracks_23 : decode cX5_tracks 23 = .ok (.if_icmp .ne 23, 3) := by decide +kernel
theorem dX5_tracks_26 : decode cX5_tracks 26 = .ok (.aload_n 0, 1) := by decide +kernel
theorem dX5_tracks_27 : decode cX5_tracks 27 = .ok (.iload_n 2, 1) := by decide +kernel
theorem dX5_tracks_28 : decode cX5_tracks 28 = .ok (.invokevirtual 113, 3) := by decide +kernel
theorem dX5_tracks_31 : decode cX5_tracks 31 = .ok (.ifCond .eq 15, 3) := by decide +kernel
theorem dX5_tracks_34 : decode cX5_tracks 34 = .ok (.aload_n 0, 1) := by decide +kernel
theorem dX5_tracks_35 : decode cX5_tracks 35 = .ok (.getfield 42, 3) := by decide +kernel
theorem dX5_tracks_38 : decode cX5_tracks 38 = .ok (.bipush 100, 2) := by decide +kernel
theorem dX5_tracks_40 : decode cX5_tracks 40 = .ok (.iload_n 2, 1) := by decide +kernel
theorem dX5_tracks_41 : decode cX5_tracks 41 = .ok (.iadd, 1) := by decide +kernel
theorem dX5_tracks_42 : decode cX5_tracks 42 = .ok (.invokevirtual 195, 3) := by decide +kernel
theorem dX5_tracks_45 : decode cX5_tracks 45 = .ok (.ireturn, 1) := by decide +kernel
theorem dX5_tracks_46 : decode cX5_tracks 46 = .ok (.iconst (-1), 1) := by decide +kernel
theorem dX5_tracks_47 : decode cX5_tracks 47 = .ok (.ireturn, 1) := by decide +kernel
set_option maxRecDepth 20000 in
theorem ggX5_odds_X5_isHouse : GoodIn wsX5_odds wsX5_isHouse := goodIn_r _ [6, 7, 8, 70, 71, 72, 73, 74, 75, 76, 77, 78, 79, 80, 81, 82, 83, 84] (by decide +kernel) (by decide +kernel)
set_option maxRecDepth 20000 in
theorem gX5_odds_X5_isHouse : GoodIn wsX5_odds (wsV RX5 113 RX5 yX5_isHouse wsX5_isHouse) := goodIn_app (goodIn_of _ (by decide +kernel)) ggX5_odds_X5_isHouse
set_option maxRecDepth 20000 in
theorem ggX5_odds_X5_isWithin : GoodIn wsX5_odds wsX5_isWithin := goodIn_r _ [11] (by decide +kernel) (by decide +kernel)
set_option maxRecDepth 20000 in
theorem gX5_odds_X5_isWithin : GoodIn wsX5_odds (va_wsS RX5 62 yX5_isWithin wsX5_isWithin) := goodIn_app (goodIn_of _ (by decide +kernel)) ggX5_odds_X5_isWithin
set_option maxRecDepth 20000 in
theorem ggX5_odds_X4_chance : GoodIn wsX5_odds wsX4_chance := goodIn_r _ [16, 17, 18, 19, 15, 20, 21, 22, 23, 24, 25, 26, 27, 28, 29, 30, 31, 32, 33, 34, 35, 36, 37, 38, 39, 40, 41, 42, 43, 44, 45, 46, 47, 48, 49, 50, 51, 52, 53, 54, 55, 56, 57, 58, 59, 60, 61, 62, 63, 64, 65, 66, 67, 68, 69, 85, 86, 87, 88, 89, 90, 91, 79, 80, 81, 82, 83, 84] (by decide +kernel) (by decide +kernel)
set_option maxRecDepth 20000 in
theorem gX5_odds_X4_chance : GoodIn wsX5_odds (wsV RX5 198 RX4 yX4_chance wsX4_chance) := goodIn_app (goodIn_of _ (by decide +kernel)) ggX5_odds_X4_chance
theorem dX5_odds_0 : decode cX5_odds 0 = .ok (.aload_n 0, 1) := by decide +kernel
theorem dX5_odds_1 : decode cX5_odds 1 = .ok (.iload_n 1, 1) := by decide +kernel
theorem dX5_odds_2 : decode cX5_odds 2 = .ok (.invokevirtual 113, 3) := by decide +kernel
theorem dX5_odds_5 : decode cX5_odds 5 = .ok (.ifCond .eq 21, 3) := by decide +kernel
theorem dX5_odds_8 : decode cX5_odds 8 = .ok (.iload_n 2, 1) := by decide +kernel
theorem dX5_odds_9 : decode cX5_odds 9 = .ok (.iconst 0, 1) := by decide +kernel
theorem dX5_odds_10 : decode cX5_odds 10 = .ok (.iconst 3, 1) := by decide +kernel
theorem dX5_odds_11 : decode cX5_odds 11 = .ok (.invokestatic 62, 3) := by decide +kernel
theorem dX5_odds_14 : decode cX5_odds 14 = .ok (.ifCond .eq 12, 3) := by decide +kernel
theorem dX5_odds_17 : decode cX5_odds 17 = .ok (.iload_n 3, 1) := by decide +kernel
theorem dX5_odds_18 : decode cX5_odds 18 = .ok (.iconst 0, 1) := by decide +kernel
theorem dX5_odds_19 : decode cX5_odds 19 = .ok (.iconst 1, 1) := by decide +kernel
theorem dX5_odds_20 : decode cX5_odds 20 = .ok (.invokestatic 62, 3) := by decide +kernel
theorem dX5_odds_23 : decode cX5_odds 23 = .ok (.ifCond .ne 5, 3) := by decide +kernel
theorem dX5_odds_26 : decode cX5_odds 26 = .ok (.iconst (-1), 1) := by decide +kernel
theorem dX5_odds_27 : decode cX5_odds 27 = .ok (.ireturn, 1) := by decide +kernel
theorem dX5_odds_28 : decode cX5_odds 28 = .ok (.aload_n 0, 1) := by decide +kernel
theorem dX5_odds_29 : decode cX5_odds 29 = .ok (.getfield 42, 3) := by decide +kernel
theorem dX5_odds_32 : decode cX5_odds 32 = .ok (.iload_n 1, 1) := by decide +kernel
theorem dX5_odds_33 : decode cX5_odds 33 = .ok (.iload_n 2, 1) := by decide +kernel
theorem dX5_odds_34 : decode cX5_odds 34 = .ok (.iload_n 3, 1) := by decide +kernel
theorem dX5_odds_35 : decode cX5_odds 35 = .ok (.invokevirtual 198, 3) := by decide +kernel
theorem dX5_odds_38 : decode cX5_odds 38 = .ok (.ireturn, 1) := by decide +kernel
set_option maxRecDepth 20000 in
theorem ggX5_war_X5_isTree : GoodIn wsX5_war wsX5_isTree := goodIn_r _ [12, 1, 13, 14, 15, 16, 17, 18, 35, 36, 37, 38, 39, 40, 41, 42, 43, 50, 51, 52, 53] (by decide +kernel) (by decide +kernel)
set_option maxRecDepth 20000 in
theorem gX5_war_X5_isTree : GoodIn wsX5_war (wsV RX5 90 RX5 yX5_isTree wsX5_isTree) := goodIn_app (goodIn_of _ (by decide +kernel)) ggX5_war_X5_isTree
set_option maxRecDepth 20000 in
theorem ggX5_war_X5_isHouse : GoodIn wsX5_war wsX5_isHouse := goodIn_r _ [22, 2, 23, 35, 36, 37, 38, 39, 40, 41, 42, 43, 44, 45, 46, 47, 48, 49] (by decide +kernel) (by decide +kernel)
set_option maxRecDepth 20000 in
theorem gX5_war_X5_isHouse : GoodIn wsX5_war (wsV RX5 113 RX5 yX5_isHouse wsX5_isHouse) := goodIn_app (goodIn_of _ (by decide +kernel)) ggX5_war_X5_isHouse
set_option maxRecDepth 20000 in
theorem ggX5_war_X5_isWithin : GoodIn wsX5_war wsX5_isWithin := goodIn_r _ [26] (by decide +kernel) (by decide +kernel)
set_option maxRecDepth 20000 in
theorem gX5_war_X5_isWithin : GoodIn wsX5_war (va_wsS RX5 62 yX5_isWithin wsX5_isWithin) := goodIn_app (goodIn_of _ (by decide +kernel)) ggX5_war_X5_isWithin
set_option maxRecDepth 20000 in
theorem ggX5_war_X3_high : GoodIn wsX5_war wsX3_high := goodIn_r _ [30, 18, 50, 51, 52, 53] (by decide +kernel) (by decide +kernel)
set_option maxRecDepth 20000 in
theorem gX5_war_X3_high : GoodIn wsX5_war (wsV RX5 100 RX3 yX3_high wsX3_high) := goodIn_app (goodIn_of _ (by decide +kernel)) ggX5_war_X3_high
set_option maxRecDepth 20000 in
theorem ggX5_war_X3_grows : GoodIn wsX5_war wsX3_grows := goodIn_r _ [34, 18, 50, 51, 52, 53] (by decide +kernel) (by decide +kernel)
set_option maxRecDepth 20000 in
theorem gX5_war_X3_grows : GoodIn wsX5_war (wsV RX5 103 RX3 yX3_grows wsX3_grows) := goodIn_app (goodIn_of _ (by decide +kernel)) ggX5_war_X3_grows
theorem dX5_war_0 : decode cX5_war 0 = .ok (.aload_n 0, 1) := by decide +kernel
theorem dX5_war_1 : decode cX5_war 1 = .ok (.iload_n 1, 1) := by decide +kernel
theorem dX5_war_2 : decode cX5_war 2 = .ok (.invokevirtual 90, 3) := by decide +kernel
theorem dX5_war_5 : decode cX5_war 5 = .ok (.ifCond .eq 21, 3) := by decide +kernel
theorem dX5_war_8 : decode cX5_war 8 = .ok (.aload_n 0, 1) := by decide +kernel
theorem dX5_war_9 : decode cX5_war 9 = .ok (.iload_n 2, 1) := by decide +kernel
theorem dX5_war_10 : decode cX5_war 10 = .ok (.invokevirtual 113, 3) := by decide +kernel
theorem dX5_war_13 : decode cX5_war 13 = .ok (.ifCond .eq 13, 3) := by decide +kernel
theorem dX5_war_16 : decode cX5_war 16 = .ok (.iload_n 3, 1) := by decide +kernel
theorem dX5_war_17 : decode cX5_war 17 = .ok (.iconst 0, 1) := by decide +kernel
theorem dX5_war_18 : decode cX5_war 18 = .ok (.bipush 99, 2) := by decide +kernel
theorem dX5_war_20 : decode cX5_war 20 = .ok (.invokestatic 62, 3) := by decide +kernel
theorem dX5_war_23 : decode cX5_war 23 = .ok (.ifCond .ne 5, 3) := by decide +kernel
theorem dX5_war_26 : decode cX5_war 26 = .ok (.iconst (-1), 1) := by decide +kernel
theorem dX5_war_27 : decode cX5_war 27 = .ok (.ireturn, 1) := by decide +kernel
theorem dX5_war_28 : decode cX5_war 28 = .ok (.aload_n 0, 1) := by decide +kernel
theorem dX5_war_29 : decode cX5_war 29 = .ok (.getfield 26, 3) := by decide +kernel
theorem dX5_war_32 : decode cX5_war 32 = .ok (.iload_n 1, 1) := by decide +kernel
theorem dX5_war_33 : decode cX5_war 33 = .ok (.invokevirtual 100, 3) := by decide +kernel
theorem dX5_war_36 : decode cX5_war 36 = .ok (.istore 4, 2) := by decide +kernel
theorem dX5_war_38 : decode cX5_war 38 = .ok (.aload_n 0, 1) := by decide +kernel
theorem dX5_war_39 : decode cX5_war 39 = .ok (.getfield 19, 3) := by decide +kernel
theorem dX5_war_42 : decode cX5_war 42 = .ok (.getfield 120, 3) := by decide +kernel
theorem dX5_war_45 : decode cX5_war 45 = .ok (.iload_n 2, 1) := by decide +kernel
theorem dX5_war_46 : decode cX5_war 46 = .ok (.iaload, 1) := by decide +kernel
theorem dX5_war_47 : decode cX5_war 47 = .ok (.istore 5, 2) := by decide +kernel
theorem dX5_war_49 : decode cX5_war 49 = .ok (.iload_n 3, 1) := by decide +kernel
theorem dX5_war_50 : decode cX5_war 50 = .ok (.istore 6, 2) := by decide +kernel
theorem dX5_war_52 : decode cX5_war 52 = .ok (.iconst 0, 1) := by decide +kernel
theorem dX5_war_53 : decode cX5_war 53 = .ok (.istore 7, 2) := by decide +kernel
theorem dX5_war_55 : decode cX5_war 55 = .ok (.iload 7, 2) := by decide +kernel
theorem dX5_war_57 : decode cX5_war 57 = .ok (.bipush 99, 2) := by decide +kernel
theorem dX5_war_59 : decode cX5_war 59 = .ok (.if_icmp .gt 60, 3) := by decide +kernel
theorem dX5_war_62 : decode cX5_war 62 = .ok (.iload 5, 2) := by decide +kernel
theorem dX5_war_64 : decode cX5_war 64 = .ok (.iload 4, 2) := by decide +kernel
theorem dX5_war_66 : decode cX5_war 66 = .ok (.if_icmp .gt 21, 3) := by decide +kernel
theorem dX5_war_69 : decode cX5_war 69 = .ok (.iload 6, 2) := by decide +kernel
theorem dX5_war_71 : decode cX5_war 71 = .ok (.iload 4, 2) := by decide +kernel
theorem dX5_war_73 : decode cX5_war 73 = .ok (.iconst 1, 1) := by decide +kernel
theorem dX5_war_74 : decode cX5_war 74 = .ok (.iadd, 1) := by decide +kernel
theorem dX5_war_75 : decode cX5_war 75 = .ok (.iload 5, 2) := by decide +kernel
theorem dX5_war_77 : decode cX5_war 77 = .ok (.isub, 1) := by decide +kernel
theorem dX5_war_78 : decode cX5_war 78 = .ok (.isub, 1) := by decide +kernel
theorem dX5_war_79 : decode cX5_war 79 = .ok (.istore 6, 2) := by decide +kernel
theorem dX5_war_81 : decode cX5_war 81 = .ok (.iload 4, 2) := by decide +kernel
theorem dX5_war_83 : decode cX5_war 83 = .ok (.iconst 1, 1) := by decide +kernel
theorem dX5_war_84 : decode cX5_war 84 = .ok (.iadd, 1) := by decide +kernel
theorem dX5_war_85 : decode cX5_war 85 = .ok (.istore 5, 2) := by decide +kernel
theorem dX5_war_87 : decode cX5_war 87 = .ok (.iload 6, 2) := by decide +kernel
theorem dX5_war_89 : decode cX5_war 89 = .ok (.ifCond .ge 6, 3) := by decide +kernel
theorem dX5_war_92 : decode cX5_war 92 = .ok (.iload 7, 2) := by decide +kernel
theorem dX5_war_94 : decode cX5_war 94 = .ok (.ireturn, 1) := by decide +kernel
theorem dX5_war_95 : decode cX5_war 95 = .ok (.bipush 99, 2) := by decide +kernel
theorem dX5_war_97 : decode cX5_war 97 = .ok (.iload 4, 2) := by decide +kernel
theorem dX5_war_99 : decode cX5_war 99 = .ok (.aload_n 0, 1) := by decide +kernel
theorem dX5_war_100 : decode cX5_war 100 = .ok (.getfield 26, 3) := by decide +kernel
theorem dX5_war_103 : decode cX5_war 103 = .ok (.iload_n 1, 1) := by decide +kernel
theorem dX5_war_104 : decode cX5_war 104 = .ok (.invokevirtual 103, 3) := by decide +kernel
theorem dX5_war_107 : decode cX5_war 107 = .ok (.iadd, 1) := by decide +kernel
theorem dX5_war_108 : decode cX5_war 108 = .ok (.invokestatic 202, 3) := by decide +kernel
theorem dX5_war_111 : decode cX5_war 111 = .ok (.istore 4, 2) := by decide +kernel
theorem dX5_war_113 : decode cX5_war 113 = .ok (.iinc 7 1, 3) := by decide +kernel
theorem dX5_war_116 : decode cX5_war 116 = .ok (.goto (-61), 3) := by decide +kernel
theorem dX5_war_119 : decode cX5_war 119 = .ok (.bipush (-9), 2) := by decide +kernel
theorem dX5_war_121 : decode cX5_war 121 = .ok (.ireturn, 1) := by decide +kernel
set_option maxRecDepth 20000 in
theorem ggX5_saw_X1_all : GoodIn wsX5_saw wsX1_all := goodIn_r _ [7, 8, 22, 23, 24, 25, 26, 27] (by decide +kernel) (by decide +kernel)
set_option maxRecDepth 20000 in
theorem gX5_saw_X1_all : GoodIn wsX5_saw (wsV RX5 207 RX1 yX1_all wsX1_all) := goodIn_app (goodIn_of _ (by decide +kernel)) ggX5_saw_X1_all
set_option maxRecDepth 20000 in
theorem ggX5_saw_X5_isWithin : GoodIn wsX5_saw wsX5_isWithin := goodIn_r _ [12] (by decide +kernel) (by decide +kernel)
set_option maxRecDepth 20000 in
theorem gX5_saw_X5_isWithin : GoodIn wsX5_saw (va_wsS RX5 62 yX5_isWithin wsX5_isWithin) := goodIn_app (goodIn_of _ (by decide +kernel)) ggX5_saw_X5_isWithin
theorem dX5_saw_0 : decode cX5_saw 0 = .ok (.iload_n 1, 1) := by decide +kernel
theorem dX5_saw_1 : decode cX5_saw 1 = .ok (.iconst 0, 1) := by decide +kernel
theorem dX5_saw_2 : decode cX5_saw 2 = .ok (.aload_n 0, 1) := by decide +kernel
theorem dX5_saw_3 : decode cX5_saw 3 = .ok (.getfield 19, 3) := by decide +kernel
theorem dX5_saw_6 : decode cX5_saw 6 = .ok (.invokevirtual 207, 3) := by decide +kernel
theorem dX5_saw_9 : decode cX5_saw 9 = .ok (.invokestatic 62, 3) := by decide +kernel
theorem dX5_saw_12 : decode cX5_saw 12 = .ok (.ifCond .ne 5, 3) := by decide +kernel
theorem dX5_saw_15 : decode cX5_saw 15 = .ok (.iconst (-1), 1) := by decide +kernel
theorem dX5_saw_16 : decode cX5_saw 16 = .ok (.ireturn, 1) := by decide +kernel
theorem dX5_saw_17 : decode cX5_saw 17 = .ok (.aload_n 0, 1) := by decide +kernel
theorem dX5_saw_18 : decode cX5_saw 18 = .ok (.getfield 54, 3) := by decide +kernel
theorem dX5_saw_21 : decode cX5_saw 21 = .ok (.istore_n 2, 1) := by decide +kernel
theorem dX5_saw_22 : decode cX5_saw 22 = .ok (.aload_n 0, 1) := by decide +kernel
theorem dX5_saw_23 : decode cX5_saw 23 = .ok (.iload_n 1, 1) := by decide +kernel
theorem dX5_saw_24 : decode cX5_saw 24 = .ok (.putfield 54, 3) := by decide +kernel
theorem dX5_saw_27 : decode cX5_saw 27 = .ok (.iload_n 2, 1) := by decide +kernel
theorem dX5_saw_28 : decode cX5_saw 28 = .ok (.ireturn, 1) := by decide +kernel
set_option maxRecDepth 20000 in
theorem ggX5_whose_X5_isWithin : GoodIn wsX5_whose wsX5_isWithin := goodIn_r _ [6] (by decide +kernel) (by decide +kernel)
set_option maxRecDepth 20000 in
theorem gX5_whose_X5_isWithin : GoodIn wsX5_whose (va_wsS RX5 62 yX5_isWithin wsX5_isWithin) := goodIn_app (goodIn_of _ (by decide +kernel)) ggX5_whose_X5_isWithin
set_option maxRecDepth 20000 in
theorem ggX5_whose_X0_toppings : GoodIn wsX5_whose wsX0_toppings := goodIn_r _ [11, 12, 13, 14, 15, 16, 17, 18, 19, 20, 21, 10, 22, 23, 24, 25, 26, 27, 28, 29, 30, 31, 32, 33, 34, 35, 36, 37, 38, 39, 40, 41, 42, 43, 44, 45, 46, 47, 48, 49, 50, 51, 52, 53, 54, 55, 56, 57, 58, 59, 60, 61, 62, 63, 64, 65, 66, 67, 68, 69, 70, 71, 72, 73, 74, 75, 76, 5, 77, 78, 79, 80, 90, 91, 92, 93, 94, 95, 96, 97, 98, 99, 100, 101, 102] (by decide +kernel) (by decide +kernel)
set_option maxRecDepth 20000 in
theorem gX5_whose_X0_toppings : GoodIn wsX5_whose (wsV RX5 210 RX0 yX0_toppings wsX0_toppings) := goodIn_app (goodIn_of _ (by decide +kernel)) ggX5_whose_X0_toppings
theorem dX5_whose_0 : decode cX5_whose 0 = .ok (.iload_n 1, 1) := by decide +kernel
theorem dX5_whose_1 : decode cX5_whose 1 = .ok (.iconst 0, 1) := by decide +kernel
theorem dX5_whose_2 : decode cX5_whose 2 = .ok (.iconst 2, 1) := by decide +kernel
theorem dX5_whose_3 : decode cX5_whose 3 = .ok (.invokestatic 62, 3) := by decide +kernel
theorem dX5_whose_6 : decode cX5_whose 6 = .ok (.ifCond .eq 18, 3) := by decide +kernel
theorem dX5_whose_9 : decode cX5_whose 9 = .ok (.aload_n 0, 1) := by decide +kernel
theorem dX5_whose_10 : decode cX5_whose 10 = .ok (.getfield 35, 3) := by decide +kernel
theorem dX5_whose_13 : decode cX5_whose 13 = .ok (.aload_n 0, 1) := by decide +kernel
theorem dX5_whose_14 : decode cX5_whose 14 = .ok (.getfield 54, 3) := by decide +kernel
theorem dX5_whose_17 : decode cX5_whose 17 = .ok (.iload_n 1, 1) := by decide +kernel
theorem dX5_whose_18 : decode cX5_whose 18 = .ok (.invokevirtual 210, 3) := by decide +kernel
theorem dX5_whose_21 : decode cX5_whose 21 = .ok (.goto 4, 3) := by decide +kernel
theorem dX5_whose_24 : decode cX5_whose 24 = .ok (.iconst (-1), 1) := by decide +kernel
theorem dX5_whose_25 : decode cX5_whose 25 = .ok (.ireturn, 1) := by decide +kernel
set_option maxRecDepth 20000 in
theorem ggX5_mark_X5_isTree : GoodIn wsX5_mark wsX5_isTree := goodIn_r _ [6, 7, 8, 9, 10, 11, 12, 13, 105, 106, 107, 108, 109, 110, 111, 112, 113, 114, 115, 116, 117] (by decide +kernel) (by decide +kernel)
set_option maxRecDepth 20000 in
theorem gX5_mark_X5_isTree : GoodIn wsX5_mark (wsV RX5 90 RX5 yX5_isTree wsX5_isTree) := goodIn_app (goodIn_of _ (by decide +kernel)) ggX5_mark_X5_isTree
set_option maxRecDepth 20000 in
theorem ggX5_mark_X5_asTree : GoodIn wsX5_mark wsX5_asTree := goodIn_r _ [17, 18, 7, 19, 20, 21, 11, 22, 13, 105, 106, 107, 108, 109, 110, 111, 112, 113, 114, 115, 116, 117] (by decide +kernel) (by decide +kernel)
set_option maxRecDepth 20000 in
theorem gX5_mark_X5_asTree : GoodIn wsX5_mark (wsV RX5 214 RX5 yX5_asTree wsX5_asTree) := goodIn_app (goodIn_of _ (by decide +kernel)) ggX5_mark_X5_asTree
set_option maxRecDepth 20000 in
theorem ggX5_mark_X5_asOak : GoodIn wsX5_mark wsX5_asOak := goodIn_r _ [26, 18, 27, 28, 14, 15, 16, 5, 17, 7, 19, 20, 21, 11, 22, 13, 29, 30, 31, 32, 33, 34, 35, 36, 37, 38, 39, 40, 41, 42, 43, 44, 45, 46, 47, 48, 49, 50, 51, 52, 53, 54, 55, 56, 57, 58, 59, 60, 61, 62, 63, 64, 65, 66, 67, 68, 69, 70, 71, 72, 73, 74, 75, 76, 77, 78, 79, 80, 81, 105, 106, 107, 108, 109, 110, 111, 112, 113, 114, 115, 116, 117, 118, 119, 120, 121, 122, 123, 124, 125, 126] (by decide +kernel) (by decide +kernel)
set_option maxRecDepth 20000 in
theorem gX5_mark_X5_asOak : GoodIn wsX5_mark (wsV RX5 217 RX5 yX5_asOak wsX5_asOak) := goodIn_app (goodIn_of _ (by decide +kernel)) ggX5_mark_X5_asOak
set_option maxRecDepth 20000 in
theorem ggX5_mark_X5_asPoplar : GoodIn wsX5_mark wsX5_asPoplar := goodIn_r _ [85, 18, 86, 7, 14, 15, 16, 5, 17, 19, 20, 21, 11, 22, 13, 87, 37, 38, 39, 105, 106, 107, 108, 109, 110, 111, 112, 113, 114, 115, 116, 117] (by decide +kernel) (by decide +kernel)
set_option maxRecDepth 20000 in
theorem gX5_mark_X5_asPoplar : GoodIn wsX5_mark (wsV RX5 220 RX5 yX5_asPoplar wsX5_asPoplar) := goodIn_app (goodIn_of _ (by decide +kernel)) ggX5_mark_X5_asPoplar
set_option maxRecDepth 20000 in
theorem ggX5_mark_X5_asAsh : GoodIn wsX5_mark wsX5_asAsh := goodIn_r _ [91, 18, 92, 23, 24, 25, 5, 26, 27, 28, 14, 15, 16, 17, 7, 19, 20, 21, 11, 22, 13, 29, 30, 31, 32, 33, 34, 35, 36, 37, 38, 39, 40, 41, 42, 43, 44, 45, 46, 47, 48, 49, 50, 51, 52, 53, 54, 55, 56, 57, 58, 59, 60, 61, 62, 63, 64, 65, 66, 67, 68, 69, 70, 71, 72, 73, 74, 75, 76, 77, 78, 79, 80, 81, 105, 106, 107, 108, 109, 110, 111, 112, 113, 114, 115, 116, 117, 118, 119, 120, 121, 122, 123, 124, 125, 126] (by decide +kernel) (by decide +kernel)
set_option maxRecDepth 20000 in
theorem gX5_mark_X5_asAsh : GoodIn wsX5_mark (wsV RX5 223 RX5 yX5_asAsh wsX5_asAsh) := goodIn_app (goodIn_of _ (by decide +kernel)) ggX5_mark_X5_asAsh
set_option maxRecDepth 20000 in
theorem ggX5_mark_X5_asSapling : GoodIn wsX5_mark wsX5_asSapling := goodIn_r _ [96, 18, 97, 7, 82, 83, 84, 5, 85, 86, 14, 15, 16, 17, 19, 20, 21, 11, 22, 13, 87, 37, 38, 39, 98, 58, 59, 60, 105, 106, 107, 108, 109, 110, 111, 112, 113, 114, 115, 116, 117] (by decide +kernel) (by decide +kernel)
set_option maxRecDepth 20000 in
theorem gX5_mark_X5_asSapling : GoodIn wsX5_mark (wsV RX5 226 RX5 yX5_asSapling wsX5_asSapling) := goodIn_app (goodIn_of _ (by decide +kernel)) ggX5_mark_X5_asSapling
set_option maxRecDepth 20000 in
theorem ggX5_mark_X5_asElm : GoodIn wsX5_mark wsX5_asElm := goodIn_r _ [102, 18, 103, 7, 104, 14, 15, 16, 5, 17, 19, 20, 21, 11, 22, 13, 105, 106, 107, 108, 109, 110, 111, 112, 113, 114, 115, 116, 117] (by decide +kernel) (by decide +kernel)
set_option maxRecDepth 20000 in
theorem gX5_mark_X5_asElm : GoodIn wsX5_mark (wsV RX5 229 RX5 yX5_asElm wsX5_asElm) := goodIn_app (goodIn_of _ (by decide +kernel)) ggX5_mark_X5_asElm
theorem dX5_mark_0 : decode cX5_mark 0 = .ok (.aload_n 0, 1) := by decide +kernel
theorem dX5_mark_1 : decode cX5_mark 1 = .ok (.iload_n 2, 1) := by decide +kernel
theorem dX5_mark_2 : decode cX5_mark 2 = .ok (.invokevirtual 90, 3) := by decide +kernel
theorem dX5_mark_5 : decode cX5_mark 5 = .ok (.ifCond .ne 6, 3) := by decide +kernel
theorem dX5_mark_8 : decode cX5_mark 8 = .ok (.ldc 213, 2) := by decide +kernel
theorem dX5_mark_10 : decode cX5_mark 10 = .ok (.ireturn, 1) := by decide +kernel
theorem dX5_mark_11 : decode cX5_mark 11 = .ok (.iload_n 1, 1) := by decide +kernel
theorem dX5_mark_12 : decode cX5_mark 12 = .ok (.tableswitch 76 0 5 #[40, 46, 52, 58, 64, 70], 40) := by decide +kernel
theorem dX5_mark_52 : decode cX5_mark 52 = .ok (.aload_n 0, 1) := by decide +kernel
theorem dX5_mark_53 : decode cX5_mark 53 = .ok (.iload_n 2, 1) := by decide +kernel
theorem dX5_mark_54 : decode cX5_mark 54 = .ok (.invokevirtual 214, 3) := by decide +kernel
theorem dX5_mark_57 : decode cX5_mark 57 = .ok (.ireturn, 1) := by decide +kernel
theorem dX5_mark_58 : decode cX5_mark 58 = .ok (.aload_n 0, 1) := by decide +kernel
theorem dX5_mark_59 : decode cX5_mark 59 = .ok (.iload_n 2, 1) := by decide +kernel
theorem dX5_mark_60 : decode cX5_mark 60 = .ok (.invokevirtual 217, 3) := by decide +kernel
theorem dX5_mark_63 : decode cX5_mark 63 = .ok (.ireturn, 1) := by decide +kernel
theorem dX5_mark_64 : decode cX5_mark 64 = .ok (.aload_n 0, 1) := by decide +kernel
theorem dX5_mark_65 : decode cX5_mark 65 = .ok (.iload_n 2, 1) := by decide +kernel
theorem dX5_mark_66 : decode cX5_mark 66 = .ok (.invokevirtual 220, 3) := by decide +kernel
theorem dX5_mark_69 : decode cX5_mark 69 = .ok (.ireturn, 1) := by decide +kernel
theorem dX5_mark_70 : decode cX5_mark 70 = .ok (.aload_n 0, 1) := by decide +kernel
theorem dX5_mark_71 : decode cX5_mark 71 = .ok (.iload_n 2, 1) := by decide +kernel
theorem dX5_mark_72 : decode cX5_mark 72 = .ok (.invokevirtual 223, 3) := by decide +kernel
theorem dX5_mark_75 : decode cX5_mark 75 = .ok (.ireturn, 1) := by decide +kernel
theorem dX5_mark_76 : decode cX5_mark 76 = .ok (.aload_n 0, 1) := by decide +kernel
theorem dX5_mark_77 : decode cX5_mark 77 = .ok (.iload_n 2, 1) := by decide +kernel
theorem dX5_mark_78 : decode cX5_mark 78 = .ok (.invokevirtual 226, 3) := by decide +kernel
theorem dX5_mark_81 : decode cX5_mark 81 = .ok (.ireturn, 1) := by decide +kernel
theorem dX5_mark_82 : decode cX5_mark 82 = .ok (.aload_n 0, 1) := by decide +kernel
theorem dX5_mark_83 : decode cX5_mark 83 = .ok (.iload_n 2, 1) := by decide +kernel
theorem dX5_mark_84 : decode cX5_mark 84 = .ok (.invokevirtual 229, 3) := by decide +kernel
theorem dX5_mark_87 : decode cX5_mark 87 = .ok (.ireturn, 1) := by decide +kernel
theorem dX5_mark_88 : decode cX5_mark 88 = .ok (.ldc 213, 2) := by decide +kernel
theorem dX5_mark_90 : decode cX5_mark 90 = .ok (.ireturn, 1) := by decide +kernel
set_option maxRecDepth 20000 in
theorem ggX5_keep_X5_isWithin : GoodIn wsX5_keep wsX5_isWithin := goodIn_r _ [8] (by decide +kernel) (by decide +kernel)
set_option maxRecDepth 20000 in
theorem gX5_keep_X5_isWithin : GoodIn wsX5_keep (va_wsS RX5 62 yX5_isWithin wsX5_isWithin) := goodIn_app (goodIn_of _ (by decide +kernel)) ggX5_keep_X5_isWithin
set_option maxRecDepth 20000 in
theorem ggX5_keep_X3_become : GoodIn wsX5_keep wsX3_become := goodIn_r _ [13, 14, 15, 16, 17, 18, 19, 20, 21, 31, 32, 33, 34] (by decide +kernel) (by decide +kernel)
set_option maxRecDepth 20000 in
theorem gX5_keep_X3_become : GoodIn wsX5_keep (wsV RX5 232 RX3 yX3_become wsX3_become) := goodIn_app (goodIn_of _ (by decide +kernel)) ggX5_keep_X3_become
theorem dX5_keep_0 : decode cX5_keep 0 = .ok (.iload_n 1, 1) := by decide +kernel
theorem dX5_keep_1 : decode cX5_keep 1 = .ok (.iconst 0, 1) := by decide +kernel
theorem dX5_keep_2 : decode cX5_keep 2 = .ok (.iconst 1, 1) := by decide +kernel
theorem dX5_keep_3 : decode cX5_keep 3 = .ok (.invokestatic 62, 3) := by decide +kernel
theorem dX5_keep_6 : decode cX5_keep 6 = .ok (.ifCond .ne 5, 3) := by decide +kernel
theorem dX5_keep_9 : decode cX5_keep 9 = .ok (.iconst (-1), 1) := by decide +kernel
theorem dX5_keep_10 : decode cX5_keep 10 = .ok (.ireturn, 1) := by decide +kernel
theorem dX5_keep_11 : decode cX5_keep 11 = .ok (.aload_n 0, 1) := by decide +kernel
theorem dX5_keep_12 : decode cX5_keep 12 = .ok (.getfield 46, 3) := by decide +kernel
theorem dX5_keep_15 : decode cX5_keep 15 = .ok (.iload_n 1, 1) := by decide +kernel
theorem dX5_keep_16 : decode cX5_keep 16 = .ok (.aaload, 1) := by decide +kernel
theorem dX5_keep_17 : decode cX5_keep 17 = .ok (.aload_n 0, 1) := by decide +kernel
theorem dX5_keep_18 : decode cX5_keep 18 = .ok (.getfield 26, 3) := by decide +kernel
theorem dX5_keep_21 : decode cX5_keep 21 = .ok (.invokevirtual 232, 3) := by decide +kernel
theorem dX5_keep_24 : decode cX5_keep 24 = .ok (.aload_n 0, 1) := by decide +kernel
theorem dX5_keep_25 : decode cX5_keep 25 = .ok (.getfield 50, 3) := by decide +kernel
theorem dX5_keep_28 : decode cX5_keep 28 = .ok (.iload_n 1, 1) := by decide +kernel
theorem dX5_keep_29 : decode cX5_keep 29 = .ok (.iconst 1, 1) := by decide +kernel
theorem dX5_keep_30 : decode cX5_keep 30 = .ok (.bastore, 1) := by decide +kernel
theorem dX5_keep_31 : decode cX5_keep 31 = .ok (.aload_n 0, 1) := by decide +kernel
theorem dX5_keep_32 : decode cX5_keep 32 = .ok (.getfield 26, 3) := by decide +kernel
theorem dX5_keep_35 : decode cX5_keep 35 = .ok (.getfield 131, 3) := by decide +kernel
theorem dX5_keep_38 : decode cX5_keep 38 = .ok (.iconst 0, 1) := by decide +kernel
theorem dX5_keep_39 : decode cX5_keep 39 = .ok (.iaload, 1) := by decide +kernel
theorem dX5_keep_40 : decode cX5_keep 40 = .ok (.ireturn, 1) := by decide +kernel
set_option maxRecDepth 20000 in
theorem ggX5_back_X5_isWithin : GoodIn wsX5_back wsX5_isWithin := goodIn_r _ [8] (by decide +kernel) (by decide +kernel)
set_option maxRecDepth 20000 in
theorem gX5_back_X5_isWithin : GoodIn wsX5_back (va_wsS RX5 62 yX5_isWithin wsX5_isWithin) := goodIn_app (goodIn_of _ (by decide +kernel)) ggX5_back_X5_isWithin
set_option maxRecDepth 20000 in
theorem ggX5_back_X3_become : GoodIn wsX5_back wsX3_become := goodIn_r _ [13, 14, 15, 16, 17, 18, 19, 20, 21, 31, 32, 33, 34] (by decide +kernel) (by decide +kernel)
set_option maxRecDepth 20000 in
theorem gX5_back_X3_become : GoodIn wsX5_back (wsV RX5 232 RX3 yX3_become wsX3_become) := goodIn_app (goodIn_of _ (by decide +kernel)) ggX5_back_X3_become
theorem dX5_back_0 : decode cX5_back 0 = .ok (.iload_n 1, 1) := by decide +kernel
theorem dX5_back_1 : decode cX5_back 1 = .ok (.iconst 0, 1) := by decide +kernel
theorem dX5_back_2 : decode cX5_back 2 = .ok (.iconst 1, 1) := by decide +kernel
theorem dX5_back_3 : decode cX5_back 3 = .ok (.invokestatic 62, 3) := by decide +kernel
theorem dX5_back_6 : decode cX5_back 6 = .ok (.ifCond .ne 5, 3) := by decide +kernel
theorem dX5_back_9 : decode cX5_back 9 = .ok (.iconst (-1), 1) := by decide +kernel
theorem dX5_back_10 : decode cX5_back 10 = .ok (.ireturn, 1) := by decide +kernel
theorem dX5_back_11 : decode cX5_back 11 = .ok (.aload_n 0, 1) := by decide +kernel
theorem dX5_back_12 : decode cX5_back 12 = .ok (.getfield 50, 3) := by decide +kernel
theorem dX5_back_15 : decode cX5_back 15 = .ok (.iload_n 1, 1) := by decide +kernel
theorem dX5_back_16 : decode cX5_back 16 = .ok (.baload, 1) := by decide +kernel
theorem dX5_back_17 : decode cX5_back 17 = .ok (.ifCond .ne 6, 3) := by decide +kernel
theorem dX5_back_20 : decode cX5_back 20 = .ok (.bipush (-2), 2) := by decide +kernel
theorem dX5_back_22 : decode cX5_back 22 = .ok (.ireturn, 1) := by decide +kernel
theorem dX5_back_23 : decode cX5_back 23 = .ok (.aload_n 0, 1) := by decide +kernel
theorem dX5_back_24 : decode cX5_back 24 = .ok (.getfield 26, 3) := by decide +kernel
theorem dX5_back_27 : decode cX5_back 27 = .ok (.aload_n 0, 1) := by decide +kernel
theorem dX5_back_28 : decode cX5_back 28 = .ok (.getfield 46, 3) := by decide +kernel
theorem dX5_back_31 : decode cX5_back 31 = .ok (.iload_n 1, 1) := by decide +kernel
theorem dX5_back_32 : decode cX5_back 32 = .ok (.aaload, 1) := by decide +kernel
theorem dX5_back_33 : decode cX5_back 33 = .ok (.invokevirtual 232, 3) := by decide +kernel
theorem dX5_back_36 : decode cX5_back 36 = .ok (.aload_n 0, 1) := by decide +kernel
theorem dX5_back_37 : decode cX5_back 37 = .ok (.getfield 26, 3) := by decide +kernel
theorem dX5_back_40 : decode cX5_back 40 = .ok (.getfield 131, 3) := by decide +kernel
theorem dX5_back_43 : decode cX5_back 43 = .ok (.iconst 0, 1) := by decide +kernel
theorem dX5_back_44 : decode cX5_back 44 = .ok (.iaload, 1) := by decide +kernel
theorem dX5_back_45 : decode cX5_back 45 = .ok (.ireturn, 1) := by decide +kernel
set_option maxRecDepth 20000 in
theorem ggX5_count_X3_trees : GoodIn wsX5_count wsX3_trees := goodIn_r _ [13, 14, 30, 31, 32, 33] (by decide +kernel) (by decide +kernel)
set_option maxRecDepth 20000 in
theorem gX5_count_X3_trees : GoodIn wsX5_count (wsV RX5 152 RX3 yX3_trees wsX3_trees) := goodIn_app (goodIn_of _ (by decide +kernel)) ggX5_count_X3_trees
theorem dX5_count_0 : decode cX5_count 0 = .ok (.iload_n 1, 1) := by decide +kernel
theorem dX5_count_1 : decode cX5_count 1 = .ok (.tableswitch 87 0 5 #[39, 47, 55, 63, 71, 79], 39) := by decide +kernel
theorem dX5_count_40 : decode cX5_count 40 = .ok (.aload_n 0, 1) := by decide +kernel
theorem dX5_count_41 : decode cX5_count 41 = .ok (.getfield 26, 3) := by decide +kernel
theorem dX5_count_44 : decode cX5_count 44 = .ok (.invokevirtual 152, 3) := by decide +kernel
theorem dX5_count_47 : decode cX5_count 47 = .ok (.ireturn, 1) := by decide +kernel
theorem dX5_count_48 : decode cX5_count 48 = .ok (.aload_n 0, 1) := by decide +kernel
theorem dX5_count_49 : decode cX5_count 49 = .ok (.getfield 19, 3) := by decide +kernel
theorem dX5_count_52 : decode cX5_count 52 = .ok (.getfield 189, 3) := by decide +kernel
theorem dX5_count_55 : decode cX5_count 55 = .ok (.ireturn, 1) := by decide +kernel
theorem dX5_count_56 : decode cX5_count 56 = .ok (.aload_n 0, 1) := by decide +kernel
theorem dX5_count_57 : decode cX5_count 57 = .ok (.getfield 19, 3) := by decide +kernel
theorem dX5_count_60 : decode cX5_count 60 = .ok (.getfield 235, 3) := by decide +kernel
theorem dX5_count_63 : decode cX5_count 63 = .ok (.ireturn, 1) := by decide +kernel
theorem dX5_count_64 : decode cX5_count 64 = .ok (.aload_n 0, 1) := by decide +kernel
theorem dX5_count_65 : decode cX5_count 65 = .ok (.getfield 19, 3) := by decide +kernel
theorem dX5_count_68 : decode cX5_count 68 = .ok (.getfield 147, 3) := by decide +kernel
theorem dX5_count_71 : decode cX5_count 71 = .ok (.ireturn, 1) := by decide +kernel
theorem dX5_count_72 : decode cX5_count 72 = .ok (.aload_n 0, 1) := by decide +kernel
theorem dX5_count_73 : decode cX5_count 73 = .ok (.getfield 26, 3) := by decide +kernel
theorem dX5_count_76 : decode cX5_count 76 = .ok (.getfield 159, 3) := by decide +kernel
theorem dX5_count_79 : decode cX5_count 79 = .ok (.ireturn, 1) := by decide +kernel
theorem dX5_count_80 : decode cX5_count 80 = .ok (.aload_n 0, 1) := by decide +kernel
theorem dX5_count_81 : decode cX5_count 81 = .ok (.getfield 12, 3) := by decide +kernel
theorem dX5_count_84 : decode cX5_count 84 = .ok (.getfield 70, 3) := by decide +kernel
theorem dX5_count_87 : decode cX5_count 87 = .ok (.ireturn, 1) := by decide +kernel
theorem dX5_count_88 : decode cX5_count 88 = .ok (.iconst (-1), 1) := by decide +kernel
theorem dX5_count_89 : decode cX5_count 89 = .ok (.ireturn, 1) := by decide +kernel
theorem dX5_trace_0 : decode cX5_trace 0 = .ok (.aload_n 0, 1) := by decide +kernel
theorem dX5_trace_1 : decode cX5_trace 1 = .ok (.getfield 58, 3) := by decide +kernel
theorem dX5_trace_4 : decode cX5_trace 4 = .ok (.lreturn, 1) := by decide +kernel
theorem dX5_isWithin_0 : decode cX5_isWithin 0 = .ok (.iload_n 0, 1) := by decide +kernel
theorem dX5_isWithin_1 : decode cX5_isWithin 1 = .ok (.iload_n 1, 1) := by decide +kernel
theorem dX5_isWithin_2 : decode cX5_isWithin 2 = .ok (.if_icmp .lt 12, 3) := by decide +kernel
theorem dX5_isWithin_5 : decode cX5_isWithin 5 = .ok (.iload_n 0, 1) := by decide +kernel
theorem dX5_isWithin_6 : decode cX5_isWithin 6 = .ok (.iload_n 2, 1) := by decide +kernel
theorem dX5_isWithin_7 : decode cX5_isWithin 7 = .ok (.if_icmp .gt 7, 3) := by decide +kernel
theorem dX5_isWithin_10 : decode cX5_isWithin 10 = .ok (.iconst 1, 1) := by decide +kernel
theorem dX5_isWithin_11 : decode cX5_isWithin 11 = .ok (.goto 4, 3) := by decide +kernel
theorem dX5_isWithin_14 : decode cX5_isWithin 14 = .ok (.iconst 0, 1) := by decide +kernel
theorem dX5_isWithin_15 : decode cX5_isWithin 15 = .ok (.ireturn, 1) := by decide +kernel
theorem dX5_toppedHigh_0 : decode cX5_toppedHigh 0 = .ok (.iconst 1, 1) := by decide +kernel
theorem dX5_toppedHigh_1 : decode cX5_toppedHigh 1 = .ok (.iload_n 0, 1) := by decide +kernel
theorem dX5_toppedHigh_2 : decode cX5_toppedHigh 2 = .ok (.iload_n 1, 1) := by decide +kernel
theorem dX5_toppedHigh_3 : decode cX5_toppedHigh 3 = .ok (.isub, 1) := by decide +kernel
theorem dX5_toppedHigh_4 : decode cX5_toppedHigh 4 = .ok (.invokestatic 238, 3) := by decide +kernel
theorem dX5_toppedHigh_7 : decode cX5_toppedHigh 7 = .ok (.ireturn, 1) := by decide +kernel
set_option maxRecDepth 20000 in
theorem ggX5_isTree_X3_trees : GoodIn wsX5_isTree wsX3_trees := goodIn_r _ [6, 7, 17, 18, 19, 20] (by decide +kernel) (by decide +kernel)
set_option maxRecDepth 20000 in
theorem gX5_isTree_X3_trees : GoodIn wsX5_isTree (wsV RX5 152 RX3 yX3_trees wsX3_trees) := goodIn_app (goodIn_of _ (by decide +kernel)) ggX5_isTree_X3_trees
theorem dX5_isTree_0 : decode cX5_isTree 0 = .ok (.iload_n 1, 1) := by decide +kernel
theorem dX5_isTree_1 : decode cX5_isTree 1 = .ok (.ifCond .lt 18, 3) := by decide +kernel
theorem dX5_isTree_4 : decode cX5_isTree 4 = .ok (.iload_n 1, 1) := by decide +kernel
theorem dX5_isTree_5 : decode cX5_isTree 5 = .ok (.aload_n 0, 1) := by decide +kernel
theorem dX5_isTree_6 : decode cX5_isTree 6 = .ok (.getfield 26, 3) := by decide +kernel
theorem dX5_isTree_9 : decode cX5_isTree 9 = .ok (.invokevirtual 152, 3) := by decide +kernel
theorem dX5_isTree_12 : decode cX5_isTree 12 = .ok (.if_icmp .ge 7, 3) := by decide +kernel
theorem dX5_isTree_15 : decode cX5_isTree 15 = .ok (.iconst 1, 1) := by decide +kernel
theorem dX5_isTree_16 : decode cX5_isTree 16 = .ok (.goto 4, 3) := by decide +kernel
theorem dX5_isTree_19 : decode cX5_isTree 19 = .ok (.iconst 0, 1) := by decide +kernel
theorem dX5_isTree_20 : decode cX5_isTree 20 = .ok (.ireturn, 1) := by decide +kernel
theorem dX5_isHouse_0 : decode cX5_isHouse 0 = .ok (.iload_n 1, 1) := by decide +kernel
theorem dX5_isHouse_1 : decode cX5_isHouse 1 = .ok (.ifCond .lt 18, 3) := by decide +kernel
theorem dX5_isHouse_4 : decode cX5_isHouse 4 = .ok (.iload_n 1, 1) := by decide +kernel
theorem dX5_isHouse_5 : decode cX5_isHouse 5 = .ok (.aload_n 0, 1) := by decide +kernel
theorem dX5_isHouse_6 : decode cX5_isHouse 6 = .ok (.getfield 19, 3) := by decide +kernel
theorem dX5_isHouse_9 : decode cX5_isHouse 9 = .ok (.getfield 189, 3) := by decide +kernel
theorem dX5_isHouse_12 : decode cX5_isHouse 12 = .ok (.if_icmp .ge 7, 3) := by decide +kernel
theorem dX5_isHouse_15 : decode cX5_isHouse 15 = .ok (.iconst 1, 1) := by decide +kernel
theorem dX5_isHouse_16 : decode cX5_isHouse 16 = .ok (.goto 4, 3) := by decide +kernel
theorem dX5_isHouse_19 : decode cX5_isHouse 19 = .ok (.iconst 0, 1) := by decide +kernel
theorem dX5_isHouse_20 : decode cX5_isHouse 20 = .ok (.ireturn, 1) := by decide +kernel
set_option maxRecDepth 20000 in
theorem ggX5_struckInAll_X3_struck : GoodIn wsX5_struckInAll wsX3_struck := goodIn_r _ [8, 9, 25, 26, 27, 28] (by decide +kernel) (by decide +kernel)
set_option maxRecDepth 20000 in
theorem gX5_struckInAll_X3_struck : GoodIn wsX5_struckInAll (wsV RX5 122 RX3 yX3_struck wsX3_struck) := goodIn_app (goodIn_of _ (by decide +kernel)) ggX5_struckInAll_X3_struck
theorem dX5_struckInAll_0 : decode cX5_struckInAll 0 = .ok (.iconst 0, 1) := by decide +kernel
theorem dX5_struckInAll_1 : decode cX5_struckInAll 1 = .ok (.istore_n 1, 1) := by decide +kernel
theorem dX5_struckInAll_2 : decode cX5_struckInAll 2 = .ok (.iconst 0, 1) := by decide +kernel
theorem dX5_struckInAll_3 : decode cX5_struckInAll 3 = .ok (.istore_n 2, 1) := by decide +kernel
theorem dX5_struckInAll_4 : decode cX5_struckInAll 4 = .ok (.iload_n 2, 1) := by decide +kernel
theorem dX5_struckInAll_5 : decode cX5_struckInAll 5 = .ok (.aload_n 0, 1) := by decide +kernel
theorem dX5_struckInAll_6 : decode cX5_struckInAll 6 = .ok (.getfield 19, 3) := by decide +kernel
theorem dX5_struckInAll_9 : decode cX5_struckInAll 9 = .ok (.getfield 189, 3) := by decide +kernel
theorem dX5_struckInAll_12 : decode cX5_struckInAll 12 = .ok (.if_icmp .ge 20, 3) := by decide +kernel
theorem dX5_struckInAll_15 : decode cX5_struckInAll 15 = .ok (.iload_n 1, 1) := by decide +kernel
theorem dX5_struckInAll_16 : decode cX5_struckInAll 16 = .ok (.aload_n 0, 1) := by decide +kernel
theorem dX5_struckInAll_17 : decode cX5_struckInAll 17 = .ok (.getfield 26, 3) := by decide +kernel
theorem dX5_struckInAll_20 : decode cX5_struckInAll 20 = .ok (.iload_n 2, 1) := by decide +kernel
theorem dX5_struckInAll_21 : decode cX5_struckInAll 21 = .ok (.invokevirtual 122, 3) := by decide +kernel
theorem dX5_struckInAll_24 : decode cX5_struckInAll 24 = .ok (.iadd, 1) := by decide +kernel
theorem dX5_struckInAll_25 : decode cX5_struckInAll 25 = .ok (.istore_n 1, 1) := by decide +kernel
theorem dX5_struckInAll_26 : decode cX5_struckInAll 26 = .ok (.iinc 2 1, 3) := by decide +kernel
theorem dX5_struckInAll_29 : decode cX5_struckInAll 29 = .ok (.goto (-25), 3) := by decide +kernel
theorem dX5_struckInAll_32 : decode cX5_struckInAll 32 = .ok (.iload_n 1, 1) := by decide +kernel
theorem dX5_struckInAll_33 : decode cX5_struckInAll 33 = .ok (.ireturn, 1) := by decide +kernel
set_option maxRecDepth 20000 in
theorem ggX5_asTree_X3_high : GoodIn wsX5_asTree wsX3_high := goodIn_r _ [7, 8, 18, 19, 20, 21] (by decide +kernel) (by decide +kernel)
set_option maxRecDepth 20000 in
theorem gX5_asTree_X3_high : GoodIn wsX5_asTree (wsV RX5 100 RX3 yX3_high wsX3_high) := goodIn_app (goodIn_of _ (by decide +kernel)) ggX5_asTree_X3_high
theorem dX5_asTree_0 : decode cX5_asTree 0 = .ok (.aload_n 0, 1) := by decide +kernel
theorem dX5_asTree_1 : decode cX5_asTree 1 = .ok (.dup, 1) := by decide +kernel
theorem dX5_asTree_2 : decode cX5_asTree 2 = .ok (.getfield 58, 3) := by decide +kernel
theorem dX5_asTree_5 : decode cX5_asTree 5 = .ok (.lconst 1, 1) := by decide +kernel
theorem dX5_asTree_6 : decode cX5_asTree 6 = .ok (.ladd, 1) := by decide +kernel
theorem dX5_asTree_7 : decode cX5_asTree 7 = .ok (.putfield 58, 3) := by decide +kernel
theorem dX5_asTree_10 : decode cX5_asTree 10 = .ok (.aload_n 0, 1) := by decide +kernel
theorem dX5_asTree_11 : decode cX5_asTree 11 = .ok (.getfield 26, 3) := by decide +kernel
theorem dX5_asTree_14 : decode cX5_asTree 14 = .ok (.iload_n 1, 1) := by decide +kernel
theorem dX5_asTree_15 : decode cX5_asTree 15 = .ok (.invokevirtual 100, 3) := by decide +kernel
theorem dX5_asTree_18 : decode cX5_asTree 18 = .ok (.ireturn, 1) := by decide +kernel
set_option maxRecDepth 20000 in
theorem ggX5_asOak_X5_asTree : GoodIn wsX5_asOak wsX5_asTree := goodIn_r _ [8, 1, 9, 10, 11, 12, 13, 14, 15, 69, 70, 71, 72, 73, 74, 75, 76, 77, 78, 79, 80, 81] (by decide +kernel) (by decide +kernel)
set_option maxRecDepth 20000 in
theorem gX5_asOak_X5_asTree : GoodIn wsX5_asOak (wsV RX5 214 RX5 yX5_asTree wsX5_asTree) := goodIn_app (goodIn_of _ (by decide +kernel)) ggX5_asOak_X5_asTree
set_option maxRecDepth 20000 in
theorem ggX5_asOak_X0_under : GoodIn wsX5_asOak wsX0_under := goodIn_r _ [20, 21, 22, 23, 24, 25, 13, 26, 15, 27, 28, 29, 30, 31, 32, 33, 34, 35, 36, 37, 38, 39, 40, 41, 42, 43, 11, 12, 14, 44, 45, 46, 47, 48, 49, 50, 51, 52, 53, 54, 55, 56, 57, 58, 59, 60, 61, 82, 83, 84, 78, 79, 80, 81, 85, 86, 87, 88, 89, 90] (by decide +kernel) (by decide +kernel)
set_option maxRecDepth 20000 in
theorem gX5_asOak_X0_under : GoodIn wsX5_asOak (wsV RX5 109 RX0 yX0_under wsX0_under) := goodIn_app (goodIn_of _ (by decide +kernel)) ggX5_asOak_X0_under
set_option maxRecDepth 20000 in
theorem ggX5_asOak_J6_bitCount_0f7a4 : GoodIn wsX5_asOak wsJ6_bitCount_0f7a4 := goodIn_r _ [65, 66, 67, 68] (by decide +kernel) (by decide +kernel)
set_option maxRecDepth 20000 in
theorem gX5_asOak_J6_bitCount_0f7a4 : GoodIn wsX5_asOak (va_wsS RX5 243 yJ6_bitCount_0f7a4 wsJ6_bitCount_0f7a4) := goodIn_app (goodIn_of _ (by decide +kernel)) ggX5_asOak_J6_bitCount_0f7a4
theorem dX5_asOak_0 : decode cX5_asOak 0 = .ok (.aload_n 0, 1) := by decide +kernel
theorem dX5_asOak_1 : decode cX5_asOak 1 = .ok (.dup, 1) := by decide +kernel
theorem dX5_asOak_2 : decode cX5_asOak 2 = .ok (.getfield 58, 3) := by decide +kernel
theorem dX5_asOak_5 : decode cX5_asOak 5 = .ok (.ldc2_w 241, 3) := by decide +kernel
theorem dX5_asOak_8 : decode cX5_asOak 8 = .ok (.ladd, 1) := by decide +kernel
theorem dX5_asOak_9 : decode cX5_asOak 9 = .ok (.putfield 58, 3) := by decide +kernel
theorem dX5_asOak_12 : decode cX5_asOak 12 = .ok (.aload_n 0, 1) := by decide +kernel
theorem dX5_asOak_13 : decode cX5_asOak 13 = .ok (.iload_n 1, 1) := by decide +kernel
theorem dX5_asOak_14 : decode cX5_asOak 14 = .ok (.invokevirtual 214, 3) := by decide +kernel
theorem dX5_asOak_17 : decode cX5_asOak 17 = .ok (.aload_n 0, 1) := by decide +kernel
theorem dX5_asOak_18 : decode cX5_asOak 18 = .ok (.getfield 35, 3) := by decide +kernel
theorem dX5_asOak_21 : decode cX5_asOak 21 = .ok (.iload_n 1, 1) := by decide +kernel
theorem dX5_asOak_22 : decode cX5_asOak 22 = .ok (.iconst 0, 1) := by decide +kernel
theorem dX5_asOak_23 : decode cX5_asOak 23 = .ok (.invokevirtual 109, 3) := by decide +kernel
theorem dX5_asOak_26 : decode cX5_asOak 26 = .ok (.invokestatic 243, 3) := by decide +kernel
theorem dX5_asOak_29 : decode cX5_asOak 29 = .ok (.iadd, 1) := by decide +kernel
theorem dX5_asOak_30 : decode cX5_asOak 30 = .ok (.ireturn, 1) := by decide +kernel
set_option maxRecDepth 20000 in
theorem ggX5_asPoplar_X5_asTree : GoodIn wsX5_asPoplar wsX5_asTree := goodIn_r _ [8, 1, 3, 9, 10, 11, 12, 13, 14, 19, 20, 21, 22, 23, 24, 25, 26, 27, 28, 29, 30, 31] (by decide +kernel) (by decide +kernel)
set_option maxRecDepth 20000 in
theorem gX5_asPoplar_X5_asTree : GoodIn wsX5_asPoplar (wsV RX5 214 RX5 yX5_asTree wsX5_asTree) := goodIn_app (goodIn_of _ (by decide +kernel)) ggX5_asPoplar_X5_asTree
set_option maxRecDepth 20000 in
theorem ggX5_asPoplar_X3_x : GoodIn wsX5_asPoplar wsX3_x := goodIn_r _ [18, 14, 28, 29, 30, 31] (by decide +kernel) (by decide +kernel)
set_option maxRecDepth 20000 in
theorem gX5_asPoplar_X3_x : GoodIn wsX5_asPoplar (wsV RX5 93 RX3 yX3_x wsX3_x) := goodIn_app (goodIn_of _ (by decide +kernel)) ggX5_asPoplar_X3_x
theorem dX5_asPoplar_0 : decode cX5_asPoplar 0 = .ok (.aload_n 0, 1) := by decide +kernel
theorem dX5_asPoplar_1 : decode cX5_asPoplar 1 = .ok (.dup, 1) := by decide +kernel
theorem dX5_asPoplar_2 : decode cX5_asPoplar 2 = .ok (.getfield 58, 3) := by decide +kernel
theorem dX5_asPoplar_5 : decode cX5_asPoplar 5 = .ok (.ldc2_w 248, 3) := by decide +kernel
theorem dX5_asPoplar_8 : decode cX5_asPoplar 8 = .ok (.ladd, 1) := by decide +kernel
theorem dX5_asPoplar_9 : decode cX5_asPoplar 9 = .ok (.putfield 58, 3) := by decide +kernel
theorem dX5_asPoplar_12 : decode cX5_asPoplar 12 = .ok (.aload_n 0, 1) := by decide +kernel
theorem dX5_asPoplar_13 : decode cX5_asPoplar 13 = .ok (.iload_n 1, 1) := by decide +kernel
theorem dX5_asPoplar_14 : decode cX5_asPoplar 14 = .ok (.invokevirtual 214, 3) := by decide +kernel
theorem dX5_asPoplar_17 : decode cX5_asPoplar 17 = .ok (.aload_n 0, 1) := by decide +kernel
theorem dX5_asPoplar_18 : decode cX5_asPoplar 18 = .ok (.getfield 26, 3) := by decide +kernel
theorem dX5_asPoplar_21 : decode cX5_asPoplar 21 = .ok (.iload_n 1, 1) := by decide +kernel
theorem dX5_asPoplar_22 : decode cX5_asPoplar 22 = .ok (.invokevirtual 93, 3) := by decide +kernel
theorem dX5_asPoplar_25 : decode cX5_asPoplar 25 = .ok (.isub, 1) := by decide +kernel
theorem dX5_asPoplar_26 : decode cX5_asPoplar 26 = .ok (.ireturn, 1) := by decide +kernel
set_option maxRecDepth 20000 in
theorem ggX5_asAsh_X5_asOak : GoodIn wsX5_asAsh wsX5_asOak := goodIn_r _ [7, 1, 8, 9, 10, 11, 12, 6, 13, 14, 15, 16, 17, 18, 19, 20, 21, 22, 23, 24, 25, 26, 27, 28, 29, 30, 31, 32, 33, 34, 35, 36, 37, 38, 39, 40, 41, 42, 43, 44, 45, 46, 47, 48, 49, 50, 51, 52, 53, 54, 55, 56, 57, 58, 59, 60, 61, 62, 63, 64, 65, 66, 67, 68, 69, 70, 71, 72, 73, 74, 75, 76, 77, 78, 79, 80, 81, 82, 83, 84, 85, 86, 87, 88, 89, 90, 91, 92, 93, 94, 95] (by decide +kernel) (by decide +kernel)
set_option maxRecDepth 20000 in
theorem gX5_asAsh_X5_asOak : GoodIn wsX5_asAsh (wsV RX5 217 RX5 yX5_asOak wsX5_asOak) := goodIn_app (goodIn_of _ (by decide +kernel)) ggX5_asAsh_X5_asOak
theorem dX5_asAsh_0 : decode cX5_asAsh 0 = .ok (.aload_n 0, 1) := by decide +kernel
theorem dX5_asAsh_1 : decode cX5_asAsh 1 = .ok (.dup, 1) := by decide +kernel
theorem dX5_asAsh_2 : decode cX5_asAsh 2 = .ok (.getfield 58, 3) := by decide +kernel
theorem dX5_asAsh_5 : decode cX5_asAsh 5 = .ok (.ldc2_w 250, 3) := by decide +kernel
theorem dX5_asAsh_8 : decode cX5_asAsh 8 = .ok (.ladd, 1) := by decide +kernel
theorem dX5_asAsh_9 : decode cX5_asAsh 9 = .ok (.putfield 58, 3) := by decide +kernel
theorem dX5_asAsh_12 : decode cX5_asAsh 12 = .ok (.aload_n 0, 1) := by decide +kernel
theorem dX5_asAsh_13 : decode cX5_asAsh 13 = .ok (.iload_n 1, 1) := by decide +kernel
theorem dX5_asAsh_14 : decode cX5_asAsh 14 = .ok (.invokevirtual 217, 3) := by decide +kernel
theorem dX5_asAsh_17 : decode cX5_asAsh 17 = .ok (.iconst 2, 1) := by decide +kernel
theorem dX5_asAsh_18 : decode cX5_asAsh 18 = .ok (.imul, 1) := by decide +kernel
theorem dX5_asAsh_19 : decode cX5_asAsh 19 = .ok (.ireturn, 1) := by decide +kernel
set_option maxRecDepth 20000 in
theorem ggX5_asSapling_X5_asPoplar : GoodIn wsX5_asSapling wsX5_asPoplar := goodIn_r _ [8, 1, 9, 3, 10, 11, 12, 7, 13, 14, 15, 16, 17, 18, 19, 20, 21, 22, 23, 28, 29, 30, 31, 32, 33, 34, 35, 36, 37, 38, 39, 40] (by decide +kernel) (by decide +kernel)
set_option maxRecDepth 20000 in
theorem gX5_asSapling_X5_asPoplar : GoodIn wsX5_asSapling (wsV RX5 220 RX5 yX5_asPoplar wsX5_asPoplar) := goodIn_app (goodIn_of _ (by decide +kernel)) ggX5_asSapling_X5_asPoplar
set_option maxRecDepth 20000 in
theorem ggX5_asSapling_X3_grows : GoodIn wsX5_asSapling wsX3_grows := goodIn_r _ [27, 19, 37, 38, 39, 40] (by decide +kernel) (by decide +kernel)
set_option maxRecDepth 20000 in
theorem gX5_asSapling_X3_grows : GoodIn wsX5_asSapling (wsV RX5 103 RX3 yX3_grows wsX3_grows) := goodIn_app (goodIn_of _ (by decide +kernel)) ggX5_asSapling_X3_grows
theorem dX5_asSapling_0 : decode cX5_asSapling 0 = .ok (.aload_n 0, 1) := by decide +kernel
theorem dX5_asSapling_1 : decode cX5_asSapling 1 = .ok (.dup, 1) := by decide +kernel
theorem dX5_asSapling_2 : decode cX5_asSapling 2 = .ok (.getfield 58, 3) := by decide +kernel
theorem dX5_asSapling_5 : decode cX5_asSapling 5 = .ok (.ldc2_w 252, 3) := by decide +kernel
theorem dX5_asSapling_8 : decode cX5_asSapling 8 = .ok (.ladd, 1) := by decide +kernel
theorem dX5_asSapling_9 : decode cX5_asSapling 9 = .ok (.putfield 58, 3) := by decide +kernel
theorem dX5_asSapling_12 : decode cX5_asSapling 12 = .ok (.aload_n 0, 1) := by decide +kernel
theorem dX5_asSapling_13 : decode cX5_asSapling 13 = .ok (.iload_n 1, 1) := by decide +kernel
theorem dX5_asSapling_14 : decode cX5_asSapling 14 = .ok (.invokevirtual 220, 3) := by decide +kernel
theorem dX5_asSapling_17 : decode cX5_asSapling 17 = .ok (.aload_n 0, 1) := by decide +kernel
theorem dX5_asSapling_18 : decode cX5_asSapling 18 = .ok (.getfield 26, 3) := by decide +kernel
theorem dX5_asSapling_21 : decode cX5_asSapling 21 = .ok (.iload_n 1, 1) := by decide +kernel
theorem dX5_asSapling_22 : decode cX5_asSapling 22 = .ok (.invokevirtual 103, 3) := by decide +kernel
theorem dX5_asSapling_25 : decode cX5_asSapling 25 = .ok (.iadd, 1) := by decide +kernel
theorem dX5_asSapling_26 : decode cX5_asSapling 26 = .ok (.ireturn, 1) := by decide +kernel
set_option maxRecDepth 20000 in
theorem ggX5_asElm_X5_asTree : GoodIn wsX5_asElm wsX5_asTree := goodIn_r _ [9, 1, 3, 10, 11, 12, 13, 14, 15, 16, 17, 18, 19, 20, 21, 22, 23, 24, 25, 26, 27, 28] (by decide +kernel) (by decide +kernel)
set_option maxRecDepth 20000 in
theorem gX5_asElm_X5_asTree : GoodIn wsX5_asElm (wsV RX5 214 RX5 yX5_asTree wsX5_asTree) := goodIn_app (goodIn_of _ (by decide +kernel)) ggX5_asElm_X5_asTree
theorem dX5_asElm_0 : decode cX5_asElm 0 = .ok (.aload_n 0, 1) := by decide +kernel
theorem dX5_asElm_1 : decode cX5_asElm 1 = .ok (.dup, 1) := by decide +kernel
theorem dX5_asElm_2 : decode cX5_asElm 2 = .ok (.getfield 58, 3) := by decide +kernel
theorem dX5_asElm_5 : decode cX5_asElm 5 = .ok (.ldc2_w 254, 3) := by decide +kernel
theorem dX5_asElm_8 : decode cX5_asElm 8 = .ok (.ladd, 1) := by decide +kernel
theorem dX5_asElm_9 : decode cX5_asElm 9 = .ok (.putfield 58, 3) := by decide +kernel
theorem dX5_asElm_12 : decode cX5_asElm 12 = .ok (.aload_n 0, 1) := by decide +kernel
theorem dX5_asElm_13 : decode cX5_asElm 13 = .ok (.iload_n 1, 1) := by decide +kernel
theorem dX5_asElm_14 : decode cX5_asElm 14 = .ok (.invokevirtual 214, 3) := by decide +kernel
theorem dX5_asElm_17 : decode cX5_asElm 17 = .ok (.aload_n 0, 1) := by decide +kernel
theorem dX5_asElm_18 : decode cX5_asElm 18 = .ok (.getfield 26, 3) := by decide +kernel
theorem dX5_asElm_21 : decode cX5_asElm 21 = .ok (.getfield 131, 3) := by decide +kernel
theorem dX5_asElm_24 : decode cX5_asElm 24 = .ok (.iconst 0, 1) := by decide +kernel
theorem dX5_asElm_25 : decode cX5_asElm 25 = .ok (.iaload, 1) := by decide +kernel
theorem dX5_asElm_26 : decode cX5_asElm 26 = .ok (.iadd, 1) := by decide +kernel
theorem dX5_asElm_27 : decode cX5_asElm 27 = .ok (.ireturn, 1) := by decide +kernel
