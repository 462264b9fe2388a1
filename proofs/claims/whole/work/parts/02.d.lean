theorem dX7_now_124 : decode cX7_now 124 = .ok (.ireturn, 1) := by decide +kernel
theorem dX7_now_125 : decode cX7_now 125 = .ok (.iconst (-1), 1) := by decide +kernel
theorem dX7_now_126 : decode cX7_now 126 = .ok (.ireturn, 1) := by decide +kernel
set_option maxRecDepth 20000 in
theorem ggX7_comes_X7_within : GoodIn wsX7_comes wsX7_within := goodIn_r _ [8] (by decide +kernel) (by decide +kernel)
set_option maxRecDepth 20000 in
theorem gX7_comes_X7_within : GoodIn wsX7_comes (va_wsS RX7 66 yX7_within wsX7_within) := goodIn_app (goodIn_of _ (by decide +kernel)) ggX7_comes_X7_within
set_option maxRecDepth 20000 in
theorem ggX7_comes_X1_stageIn : GoodIn wsX7_comes wsX1_stageIn := goodIn_r _ [13, 14, 15, 16, 17, 18, 19, 20, 21, 22, 23, 24, 25, 26, 27, 28, 29, 30, 31, 32, 33, 34, 35, 36, 37, 38, 39, 40, 41, 42, 43, 44, 45, 46, 47, 48, 49, 50, 51, 52, 53, 54, 55, 56, 7, 57, 58, 59, 60, 61, 62, 63, 64, 65, 66, 67, 68, 69, 70, 71, 72, 73, 74, 75, 76, 77, 78, 79, 80, 81, 82, 83, 84, 85, 86, 111, 112, 113, 114, 97, 98, 99, 100, 101, 102, 103, 104, 105, 106, 107, 108, 109, 110] (by decide +kernel) (by decide +kernel)
set_option maxRecDepth 20000 in
theorem gX7_comes_X1_stageIn : GoodIn wsX7_comes (wsV RX7 201 RX1 yX1_stageIn wsX1_stageIn) := goodIn_app (goodIn_of _ (by decide +kernel)) ggX7_comes_X1_stageIn
theorem dX7_comes_0 : decode cX7_comes 0 = .ok (.iload_n 1, 1) := by decide +kernel
theorem dX7_comes_1 : decode cX7_comes 1 = .ok (.iconst 0, 1) := by decide +kernel
theorem dX7_comes_2 : decode cX7_comes 2 = .ok (.aload_n 0, 1) := by decide +kernel
theorem dX7_comes_3 : decode cX7_comes 3 = .ok (.getfield 16, 3) := by decide +kernel
theorem dX7_comes_6 : decode cX7_comes 6 = .ok (.getfield 129, 3) := by decide +kernel
theorem dX7_comes_9 : decode cX7_comes 9 = .ok (.iconst 1, 1) := by decide +kernel
theorem dX7_comes_10 : decode cX7_comes 10 = .ok (.isub, 1) := by decide +kernel
theorem dX7_comes_11 : decode cX7_comes 11 = .ok (.invokestatic 66, 3) := by decide +kernel
theorem dX7_comes_14 : decode cX7_comes 14 = .ok (.ifCond .eq 13, 3) := by decide +kernel
theorem dX7_comes_17 : decode cX7_comes 17 = .ok (.iload_n 2, 1) := by decide +kernel
theorem dX7_comes_18 : decode cX7_comes 18 = .ok (.iconst 0, 1) := by decide +kernel
theorem dX7_comes_19 : decode cX7_comes 19 = .ok (.bipush 60, 2) := by decide +kernel
theorem dX7_comes_21 : decode cX7_comes 21 = .ok (.invokestatic 66, 3) := by decide +kernel
theorem dX7_comes_24 : decode cX7_comes 24 = .ok (.ifCond .ne 5, 3) := by decide +kernel
theorem dX7_comes_27 : decode cX7_comes 27 = .ok (.iconst (-1), 1) := by decide +kernel
theorem dX7_comes_28 : decode cX7_comes 28 = .ok (.ireturn, 1) := by decide +kernel
theorem dX7_comes_29 : decode cX7_comes 29 = .ok (.aload_n 0, 1) := by decide +kernel
theorem dX7_comes_30 : decode cX7_comes 30 = .ok (.getfield 54, 3) := by decide +kernel
theorem dX7_comes_33 : decode cX7_comes 33 = .ok (.aload_n 0, 1) := by decide +kernel
theorem dX7_comes_34 : decode cX7_comes 34 = .ok (.getfield 34, 3) := by decide +kernel
theorem dX7_comes_37 : decode cX7_comes 37 = .ok (.iload_n 1, 1) := by decide +kernel
theorem dX7_comes_38 : decode cX7_comes 38 = .ok (.iload_n 2, 1) := by decide +kernel
theorem dX7_comes_39 : decode cX7_comes 39 = .ok (.invokevirtual 201, 3) := by decide +kernel
theorem dX7_comes_42 : decode cX7_comes 42 = .ok (.ireturn, 1) := by decide +kernel
set_option maxRecDepth 20000 in
theorem ggX7_first_X7_within : GoodIn wsX7_first wsX7_within := goodIn_r _ [6] (by decide +kernel) (by decide +kernel)
set_option maxRecDepth 20000 in
theorem gX7_first_X7_within : GoodIn wsX7_first (va_wsS RX7 66 yX7_within wsX7_within) := goodIn_app (goodIn_of _ (by decide +kernel)) ggX7_first_X7_within
set_option maxRecDepth 20000 in
theorem ggX7_first_X1_firstVoid : GoodIn wsX7_first wsX1_firstVoid := goodIn_r _ [11, 12, 13, 14, 15, 16, 17, 18, 19, 20, 21, 22, 23, 24, 25, 26, 27, 28, 29, 30, 31, 32, 33, 34, 35, 36, 37, 38, 39, 40, 41, 42, 43, 44, 45, 46, 47, 48, 49, 50, 51, 52, 53, 54, 55, 56, 57, 58, 59, 5, 60, 61, 62, 63, 64, 65, 66, 67, 68, 69, 70, 71, 72, 73, 74, 75, 76, 77, 78, 79, 80, 81, 82, 83, 84, 85, 86, 87, 88, 89, 90, 91, 92, 103, 104, 105, 106, 107, 108, 109, 110, 111, 112, 113, 114, 115, 116, 117, 118, 119, 120] (by decide +kernel) (by decide +kernel)
set_option maxRecDepth 20000 in
theorem gX7_first_X1_firstVoid : GoodIn wsX7_first (wsV RX7 205 RX1 yX1_firstVoid wsX1_firstVoid) := goodIn_app (goodIn_of _ (by decide +kernel)) ggX7_first_X1_firstVoid
theorem dX7_first_0 : decode cX7_first 0 = .ok (.iload_n 1, 1) := by decide +kernel
theorem dX7_first_1 : decode cX7_first 1 = .ok (.iconst 0, 1) := by decide +kernel
theorem dX7_first_2 : decode cX7_first 2 = .ok (.iconst 1, 1) := by decide +kernel
theorem dX7_first_3 : decode cX7_first 3 = .ok (.invokestatic 66, 3) := by decide +kernel
theorem dX7_first_6 : decode cX7_first 6 = .ok (.ifCond .ne 5, 3) := by decide +kernel
theorem dX7_first_9 : decode cX7_first 9 = .ok (.iconst (-1), 1) := by decide +kernel
theorem dX7_first_10 : decode cX7_first 10 = .ok (.ireturn, 1) := by decide +kernel
theorem dX7_first_11 : decode cX7_first 11 = .ok (.aload_n 0, 1) := by decide +kernel
theorem dX7_first_12 : decode cX7_first 12 = .ok (.getfield 54, 3) := by decide +kernel
theorem dX7_first_15 : decode cX7_first 15 = .ok (.aload_n 0, 1) := by decide +kernel
theorem dX7_first_16 : decode cX7_first 16 = .ok (.getfield 34, 3) := by decide +kernel
theorem dX7_first_19 : decode cX7_first 19 = .ok (.iload_n 1, 1) := by decide +kernel
theorem dX7_first_20 : decode cX7_first 20 = .ok (.ifCond .ne 7, 3) := by decide +kernel
theorem dX7_first_23 : decode cX7_first 23 = .ok (.iconst 1, 1) := by decide +kernel
theorem dX7_first_24 : decode cX7_first 24 = .ok (.goto 4, 3) := by decide +kernel
theorem dX7_first_27 : decode cX7_first 27 = .ok (.iconst 0, 1) := by decide +kernel
theorem dX7_first_28 : decode cX7_first 28 = .ok (.invokevirtual 205, 3) := by decide +kernel
theorem dX7_first_31 : decode cX7_first 31 = .ok (.ireturn, 1) := by decide +kernel
set_option maxRecDepth 20000 in
theorem ggX7_bestActs_X7_within : GoodIn wsX7_bestActs wsX7_within := goodIn_r _ [8] (by decide +kernel) (by decide +kernel)
set_option maxRecDepth 20000 in
theorem gX7_bestActs_X7_within : GoodIn wsX7_bestActs (va_wsS RX7 66 yX7_within wsX7_within) := goodIn_app (goodIn_of _ (by decide +kernel)) ggX7_bestActs_X7_within
set_option maxRecDepth 20000 in
theorem ggX7_bestActs_X7_sumOver : GoodIn wsX7_bestActs wsX7_sumOver := goodIn_r _ [11, 12, 13, 7, 14] (by decide +kernel) (by decide +kernel)
set_option maxRecDepth 20000 in
theorem gX7_bestActs_X7_sumOver : GoodIn wsX7_bestActs (va_wsS RX7 197 yX7_sumOver wsX7_sumOver) := goodIn_app (goodIn_of _ (by decide +kernel)) ggX7_bestActs_X7_sumOver
set_option maxRecDepth 20000 in
theorem ggX7_bestActs_X7_canBeDone : GoodIn wsX7_bestActs wsX7_canBeDone := goodIn_r _ [18, 19, 1, 2, 20, 21, 22, 23, 24, 25, 26, 27, 28, 29, 30, 31, 32, 12, 13, 7, 14, 33, 34, 35, 36, 37, 38, 39, 40, 41, 42, 43, 44, 45, 46, 47, 48, 49, 50, 51, 52, 53, 54, 55, 56, 57, 58] (by decide +kernel) (by decide +kernel)
set_option maxRecDepth 20000 in
theorem gX7_bestActs_X7_canBeDone : GoodIn wsX7_bestActs (wsV RX7 209 RX7 yX7_canBeDone wsX7_canBeDone) := goodIn_app (goodIn_of _ (by decide +kernel)) ggX7_bestActs_X7_canBeDone
theorem dX7_bestActs_0 : decode cX7_bestActs 0 = .ok (.iload_n 1, 1) := by decide +kernel
theorem dX7_bestActs_1 : decode cX7_bestActs 1 = .ok (.iconst 0, 1) := by decide +kernel
theorem dX7_bestActs_2 : decode cX7_bestActs 2 = .ok (.bipush 99, 2) := by decide +kernel
theorem dX7_bestActs_4 : decode cX7_bestActs 4 = .ok (.invokestatic 66, 3) := by decide +kernel
theorem dX7_bestActs_7 : decode cX7_bestActs 7 = .ok (.ifCond .eq 12, 3) := by decide +kernel
theorem dX7_bestActs_10 : decode cX7_bestActs 10 = .ok (.iload_n 2, 1) := by decide +kernel
theorem dX7_bestActs_11 : decode cX7_bestActs 11 = .ok (.iconst 0, 1) := by decide +kernel
theorem dX7_bestActs_12 : decode cX7_bestActs 12 = .ok (.iconst 1, 1) := by decide +kernel
theorem dX7_bestActs_13 : decode cX7_bestActs 13 = .ok (.invokestatic 66, 3) := by decide +kernel
theorem dX7_bestActs_16 : decode cX7_bestActs 16 = .ok (.ifCond .ne 5, 3) := by decide +kernel
theorem dX7_bestActs_19 : decode cX7_bestActs 19 = .ok (.iconst (-1), 1) := by decide +kernel
theorem dX7_bestActs_20 : decode cX7_bestActs 20 = .ok (.ireturn, 1) := by decide +kernel
theorem dX7_bestActs_21 : decode cX7_bestActs 21 = .ok (.iconst 0, 1) := by decide +kernel
theorem dX7_bestActs_22 : decode cX7_bestActs 22 = .ok (.istore_n 3, 1) := by decide +kernel
theorem dX7_bestActs_23 : decode cX7_bestActs 23 = .ok (.iconst 0, 1) := by decide +kernel
theorem dX7_bestActs_24 : decode cX7_bestActs 24 = .ok (.istore 4, 2) := by decide +kernel
theorem dX7_bestActs_26 : decode cX7_bestActs 26 = .ok (.iconst 0, 1) := by decide +kernel
theorem dX7_bestActs_27 : decode cX7_bestActs 27 = .ok (.istore 5, 2) := by decide +kernel
theorem dX7_bestActs_29 : decode cX7_bestActs 29 = .ok (.iconst 1, 1) := by decide +kernel
theorem dX7_bestActs_30 : decode cX7_bestActs 30 = .ok (.istore 6, 2) := by decide +kernel
theorem dX7_bestActs_32 : decode cX7_bestActs 32 = .ok (.iload 6, 2) := by decide +kernel
theorem dX7_bestActs_34 : decode cX7_bestActs 34 = .ok (.iconst 1, 1) := by decide +kernel
theorem dX7_bestActs_35 : decode cX7_bestActs 35 = .ok (.aload_n 0, 1) := by decide +kernel
theorem dX7_bestActs_36 : decode cX7_bestActs 36 = .ok (.getfield 16, 3) := by decide +kernel
theorem dX7_bestActs_39 : decode cX7_bestActs 39 = .ok (.getfield 129, 3) := by decide +kernel
theorem dX7_bestActs_42 : decode cX7_bestActs 42 = .ok (.ishl, 1) := by decide +kernel
theorem dX7_bestActs_43 : decode cX7_bestActs 43 = .ok (.if_icmp .ge 87, 3) := by decide +kernel
theorem dX7_bestActs_46 : decode cX7_bestActs 46 = .ok (.aload_n 0, 1) := by decide +kernel
theorem dX7_bestActs_47 : decode cX7_bestActs 47 = .ok (.getfield 16, 3) := by decide +kernel
theorem dX7_bestActs_50 : decode cX7_bestActs 50 = .ok (.getfield 132, 3) := by decide +kernel
theorem dX7_bestActs_53 : decode cX7_bestActs 53 = .ok (.iload 6, 2) := by decide +kernel
theorem dX7_bestActs_55 : decode cX7_bestActs 55 = .ok (.invokestatic 197, 3) := by decide +kernel
theorem dX7_bestActs_58 : decode cX7_bestActs 58 = .ok (.istore 7, 2) := by decide +kernel
theorem dX7_bestActs_60 : decode cX7_bestActs 60 = .ok (.iload 7, 2) := by decide +kernel
theorem dX7_bestActs_62 : decode cX7_bestActs 62 = .ok (.iload_n 1, 1) := by decide +kernel
theorem dX7_bestActs_63 : decode cX7_bestActs 63 = .ok (.if_icmp .gt 61, 3) := by decide +kernel
theorem dX7_bestActs_66 : decode cX7_bestActs 66 = .ok (.aload_n 0, 1) := by decide +kernel
theorem dX7_bestActs_67 : decode cX7_bestActs 67 = .ok (.iload 6, 2) := by decide +kernel
theorem dX7_bestActs_69 : decode cX7_bestActs 69 = .ok (.invokevirtual 209, 3) := by decide +kernel
theorem dX7_bestActs_72 : decode cX7_bestActs 72 = .ok (.ifCond .ne 6, 3) := by decide +kernel
theorem dX7_bestActs_75 : decode cX7_bestActs 75 = .ok (.goto 49, 3) := by decide +kernel
theorem dX7_bestActs_78 : decode cX7_bestActs 78 = .ok (.aload_n 0, 1) := by decide +kernel
theorem dX7_bestActs_79 : decode cX7_bestActs 79 = .ok (.getfield 16, 3) := by decide +kernel
theorem dX7_bestActs_82 : decode cX7_bestActs 82 = .ok (.getfield 135, 3) := by decide +kernel
theorem dX7_bestActs_85 : decode cX7_bestActs 85 = .ok (.iload 6, 2) := by decide +kernel
theorem dX7_bestActs_87 : decode cX7_bestActs 87 = .ok (.invokestatic 197, 3) := by decide +kernel
theorem dX7_bestActs_90 : decode cX7_bestActs 90 = .ok (.istore 8, 2) := by decide +kernel
theorem dX7_bestActs_92 : decode cX7_bestActs 92 = .ok (.iload 8, 2) := by decide +kernel
theorem dX7_bestActs_94 : decode cX7_bestActs 94 = .ok (.iload 4, 2) := by decide +kernel
theorem dX7_bestActs_96 : decode cX7_bestActs 96 = .ok (.if_icmp .gt 17, 3) := by decide +kernel
theorem dX7_bestActs_99 : decode cX7_bestActs 99 = .ok (.iload 8, 2) := by decide +kernel
theorem dX7_bestActs_101 : decode cX7_bestActs 101 = .ok (.iload 4, 2) := by decide +kernel
theorem dX7_bestActs_103 : decode cX7_bestActs 103 = .ok (.if_icmp .ne 21, 3) := by decide +kernel
theorem dX7_bestActs_106 : decode cX7_bestActs 106 = .ok (.iload 7, 2) := by decide +kernel
theorem dX7_bestActs_108 : decode cX7_bestActs 108 = .ok (.iload 5, 2) := by decide +kernel
theorem dX7_bestActs_110 : decode cX7_bestActs 110 = .ok (.if_icmp .ge 14, 3) := by decide +kernel
theorem dX7_bestActs_113 : decode cX7_bestActs 113 = .ok (.iload 6, 2) := by decide +kernel
theorem dX7_bestActs_115 : decode cX7_bestActs 115 = .ok (.istore_n 3, 1) := by decide +kernel
theorem dX7_bestActs_116 : decode cX7_bestActs 116 = .ok (.iload 8, 2) := by decide +kernel
theorem dX7_bestActs_118 : decode cX7_bestActs 118 = .ok (.istore 4, 2) := by decide +kernel
theorem dX7_bestActs_120 : decode cX7_bestActs 120 = .ok (.iload 7, 2) := by decide +kernel
theorem dX7_bestActs_122 : decode cX7_bestActs 122 = .ok (.istore 5, 2) := by decide +kernel
theorem dX7_bestActs_124 : decode cX7_bestActs 124 = .ok (.iinc 6 1, 3) := by decide +kernel
theorem dX7_bestActs_127 : decode cX7_bestActs 127 = .ok (.goto (-95), 3) := by decide +kernel
theorem dX7_bestActs_130 : decode cX7_bestActs 130 = .ok (.iload_n 2, 1) := by decide +kernel
theorem dX7_bestActs_131 : decode cX7_bestActs 131 = .ok (.ifCond .ne 7, 3) := by decide +kernel
theorem dX7_bestActs_134 : decode cX7_bestActs 134 = .ok (.iload_n 3, 1) := by decide +kernel
theorem dX7_bestActs_135 : decode cX7_bestActs 135 = .ok (.goto 5, 3) := by decide +kernel
theorem dX7_bestActs_138 : decode cX7_bestActs 138 = .ok (.iload 4, 2) := by decide +kernel
theorem dX7_bestActs_140 : decode cX7_bestActs 140 = .ok (.ireturn, 1) := by decide +kernel
set_option maxRecDepth 20000 in
theorem ggX7_plot_X7_within : GoodIn wsX7_plot wsX7_within := goodIn_r _ [9] (by decide +kernel) (by decide +kernel)
set_option maxRecDepth 20000 in
theorem gX7_plot_X7_within : GoodIn wsX7_plot (va_wsS RX7 66 yX7_within wsX7_within) := goodIn_app (goodIn_of _ (by decide +kernel)) ggX7_plot_X7_within
set_option maxRecDepth 20000 in
theorem ggX7_plot_X4_isEnded : GoodIn wsX7_plot wsX4_isEnded := goodIn_r _ [14, 15, 16, 17, 13, 18, 19, 135, 136] (by decide +kernel) (by decide +kernel)
set_option maxRecDepth 20000 in
theorem gX7_plot_X4_isEnded : GoodIn wsX7_plot (wsV RX7 213 RX4 yX4_isEnded wsX4_isEnded) := goodIn_app (goodIn_of _ (by decide +kernel)) ggX7_plot_X4_isEnded
set_option maxRecDepth 20000 in
theorem ggX7_plot_X1_fewestTurned : GoodIn wsX7_plot wsX1_fewestTurned := goodIn_r _ [24, 25, 26, 27, 28, 29, 30, 31, 32, 33, 34, 35, 36, 37, 38, 13, 39, 19, 40, 41, 42, 43, 44, 45, 46, 23, 47, 48, 49, 50, 51, 15, 16, 17, 18, 52, 11, 12, 14, 53, 8, 54, 55, 56, 57, 58, 59, 60, 61, 62, 63, 64, 65, 66, 67, 68, 69, 70, 71, 72, 73, 74, 75, 76, 77, 78, 79, 80, 81, 82, 83, 84, 85, 86, 87, 88, 89, 90, 91, 92, 93, 94, 95, 96, 97, 98, 99, 100, 101, 102, 103, 104, 105, 106, 107, 108, 109, 110, 137, 138, 121, 122, 123, 124, 125, 126, 127, 128, 129, 130, 131, 132, 133, 134, 135, 136] (by decide +kernel) (by decide +kernel)
set_option maxRecDepth 20000 in
theorem gX7_plot_X1_fewestTurned : GoodIn wsX7_plot (wsV RX7 216 RX1 yX1_fewestTurned wsX1_fewestTurned) := goodIn_app (goodIn_of _ (by decide +kernel)) ggX7_plot_X1_fewestTurned
theorem dX7_plot_0 : decode cX7_plot 0 = .ok (.iload_n 1, 1) := by decide +kernel
theorem dX7_plot_1 : decode cX7_plot 1 = .ok (.iconst 0, 1) := by decide +kernel
theorem dX7_plot_2 : decode cX7_plot 2 = .ok (.aload_n 0, 1) := by decide +kernel
theorem dX7_plot_3 : decode cX7_plot 3 = .ok (.getfield 16, 3) := by decide +kernel
theorem dX7_plot_6 : decode cX7_plot 6 = .ok (.getfield 129, 3) := by decide +kernel
theorem dX7_plot_9 : decode cX7_plot 9 = .ok (.iconst 1, 1) := by decide +kernel
theorem dX7_plot_10 : decode cX7_plot 10 = .ok (.isub, 1) := by decide +kernel
theorem dX7_plot_11 : decode cX7_plot 11 = .ok (.invokestatic 66, 3) := by decide +kernel
theorem dX7_plot_14 : decode cX7_plot 14 = .ok (.ifCond .ne 5, 3) := by decide +kernel
theorem dX7_plot_17 : decode cX7_plot 17 = .ok (.iconst (-1), 1) := by decide +kernel
theorem dX7_plot_18 : decode cX7_plot 18 = .ok (.ireturn, 1) := by decide +kernel
theorem dX7_plot_19 : decode cX7_plot 19 = .ok (.aload_n 0, 1) := by decide +kernel
theorem dX7_plot_20 : decode cX7_plot 20 = .ok (.getfield 34, 3) := by decide +kernel
theorem dX7_plot_23 : decode cX7_plot 23 = .ok (.iload_n 1, 1) := by decide +kernel
theorem dX7_plot_24 : decode cX7_plot 24 = .ok (.invokevirtual 213, 3) := by decide +kernel
theorem dX7_plot_27 : decode cX7_plot 27 = .ok (.ifCond .eq 8, 3) := by decide +kernel
theorem dX7_plot_30 : decode cX7_plot 30 = .ok (.bipush (-2), 2) := by decide +kernel
theorem dX7_plot_32 : decode cX7_plot 32 = .ok (.goto 27, 3) := by decide +kernel
theorem dX7_plot_35 : decode cX7_plot 35 = .ok (.aload_n 0, 1) := by decide +kernel
theorem dX7_plot_36 : decode cX7_plot 36 = .ok (.getfield 54, 3) := by decide +kernel
theorem dX7_plot_39 : decode cX7_plot 39 = .ok (.aload_n 0, 1) := by decide +kernel
theorem dX7_plot_40 : decode cX7_plot 40 = .ok (.getfield 34, 3) := by decide +kernel
theorem dX7_plot_43 : decode cX7_plot 43 = .ok (.iload_n 1, 1) := by decide +kernel
theorem dX7_plot_44 : decode cX7_plot 44 = .ok (.aload_n 0, 1) := by decide +kernel
theorem dX7_plot_45 : decode cX7_plot 45 = .ok (.getfield 34, 3) := by decide +kernel
theorem dX7_plot_48 : decode cX7_plot 48 = .ok (.getfield 113, 3) := by decide +kernel
theorem dX7_plot_51 : decode cX7_plot 51 = .ok (.iconst 3, 1) := by decide +kernel
theorem dX7_plot_52 : decode cX7_plot 52 = .ok (.iaload, 1) := by decide +kernel
theorem dX7_plot_53 : decode cX7_plot 53 = .ok (.iconst (-1), 1) := by decide +kernel
theorem dX7_plot_54 : decode cX7_plot 54 = .ok (.ixor, 1) := by decide +kernel
theorem dX7_plot_55 : decode cX7_plot 55 = .ok (.iconst 0, 1) := by decide +kernel
theorem dX7_plot_56 : decode cX7_plot 56 = .ok (.invokevirtual 216, 3) := by decide +kernel
theorem dX7_plot_59 : decode cX7_plot 59 = .ok (.ireturn, 1) := by decide +kernel
set_option maxRecDepth 20000 in
theorem ggX7_guard_X7_within : GoodIn wsX7_guard wsX7_within := goodIn_r _ [9] (by decide +kernel) (by decide +kernel)
set_option maxRecDepth 20000 in
theorem gX7_guard_X7_within : GoodIn wsX7_guard (va_wsS RX7 66 yX7_within wsX7_within) := goodIn_app (goodIn_of _ (by decide +kernel)) ggX7_guard_X7_within
set_option maxRecDepth 20000 in
theorem ggX7_guard_X4_isEnded : GoodIn wsX7_guard wsX4_isEnded := goodIn_r _ [14, 15, 16, 17, 13, 18, 19, 135, 136] (by decide +kernel) (by decide +kernel)
set_option maxRecDepth 20000 in
theorem gX7_guard_X4_isEnded : GoodIn wsX7_guard (wsV RX7 213 RX4 yX4_isEnded wsX4_isEnded) := goodIn_app (goodIn_of _ (by decide +kernel)) ggX7_guard_X4_isEnded
set_option maxRecDepth 20000 in
theorem ggX7_guard_X1_fewestTurned : GoodIn wsX7_guard wsX1_fewestTurned := goodIn_r _ [24, 25, 26, 27, 28, 29, 30, 31, 32, 33, 34, 35, 36, 37, 38, 13, 39, 19, 40, 41, 42, 43, 44, 45, 46, 23, 47, 48, 49, 50, 51, 15, 16, 17, 18, 52, 11, 12, 14, 53, 8, 54, 55, 56, 57, 58, 59, 60, 61, 62, 63, 64, 65, 66, 67, 68, 69, 70, 71, 72, 73, 74, 75, 76, 77, 78, 79, 80, 81, 82, 83, 84, 85, 86, 87, 88, 89, 90, 91, 92, 93, 94, 95, 96, 97, 98, 99, 100, 101, 102, 103, 104, 105, 106, 107, 108, 109, 110, 137, 138, 121, 122, 123, 124, 125, 126, 127, 128, 129, 130, 131, 132, 133, 134, 135, 136] (by decide +kernel) (by decide +kernel)
set_option maxRecDepth 20000 in
theorem gX7_guard_X1_fewestTurned : GoodIn wsX7_guard (wsV RX7 216 RX1 yX1_fewestTurned wsX1_fewestTurned) := goodIn_app (goodIn_of _ (by decide +kernel)) ggX7_guard_X1_fewestTurned
theorem dX7_guard_0 : decode cX7_guard 0 = .ok (.iload_n 1, 1) := by decide +kernel
theorem dX7_guard_1 : decode cX7_guard 1 = .ok (.iconst 0, 1) := by decide +kernel
theorem dX7_guard_2 : decode cX7_guard 2 = .ok (.aload_n 0, 1) := by decide +kernel
theorem dX7_guard_3 : decode cX7_guard 3 = .ok (.getfield 16, 3) := by decide +kernel
theorem dX7_guard_6 : decode cX7_guard 6 = .ok (.getfield 129, 3) := by decide +kernel
theorem dX7_guard_9 : decode cX7_guard 9 = .ok (.iconst 1, 1) := by decide +kernel
theorem dX7_guard_10 : decode cX7_guard 10 = .ok (.isub, 1) := by decide +kernel
theorem dX7_guard_11 : decode cX7_guard 11 = .ok (.invokestatic 66, 3) := by decide +kernel
theorem dX7_guard_14 : decode cX7_guard 14 = .ok (.ifCond .ne 5, 3) := by decide +kernel
theorem dX7_guard_17 : decode cX7_guard 17 = .ok (.iconst (-1), 1) := by decide +kernel
theorem dX7_guard_18 : decode cX7_guard 18 = .ok (.ireturn, 1) := by decide +kernel
theorem dX7_guard_19 : decode cX7_guard 19 = .ok (.aload_n 0, 1) := by decide +kernel
theorem dX7_guard_20 : decode cX7_guard 20 = .ok (.getfield 34, 3) := by decide +kernel
theorem dX7_guard_23 : decode cX7_guard 23 = .ok (.iload_n 1, 1) := by decide +kernel
theorem dX7_guard_24 : decode cX7_guard 24 = .ok (.invokevirtual 213, 3) := by decide +kernel
theorem dX7_guard_27 : decode cX7_guard 27 = .ok (.ifCond .eq 8, 3) := by decide +kernel
theorem dX7_guard_30 : decode cX7_guard 30 = .ok (.bipush (-2), 2) := by decide +kernel
theorem dX7_guard_32 : decode cX7_guard 32 = .ok (.goto 25, 3) := by decide +kernel
theorem dX7_guard_35 : decode cX7_guard 35 = .ok (.aload_n 0, 1) := by decide +kernel
theorem dX7_guard_36 : decode cX7_guard 36 = .ok (.getfield 54, 3) := by decide +kernel
theorem dX7_guard_39 : decode cX7_guard 39 = .ok (.aload_n 0, 1) := by decide +kernel
theorem dX7_guard_40 : decode cX7_guard 40 = .ok (.getfield 34, 3) := by decide +kernel
theorem dX7_guard_43 : decode cX7_guard 43 = .ok (.iload_n 1, 1) := by decide +kernel
theorem dX7_guard_44 : decode cX7_guard 44 = .ok (.aload_n 0, 1) := by decide +kernel
theorem dX7_guard_45 : decode cX7_guard 45 = .ok (.getfield 34, 3) := by decide +kernel
theorem dX7_guard_48 : decode cX7_guard 48 = .ok (.getfield 113, 3) := by decide +kernel
theorem dX7_guard_51 : decode cX7_guard 51 = .ok (.iconst 3, 1) := by decide +kernel
theorem dX7_guard_52 : decode cX7_guard 52 = .ok (.iaload, 1) := by decide +kernel
theorem dX7_guard_53 : decode cX7_guard 53 = .ok (.iconst 1, 1) := by decide +kernel
theorem dX7_guard_54 : decode cX7_guard 54 = .ok (.invokevirtual 216, 3) := by decide +kernel
theorem dX7_guard_57 : decode cX7_guard 57 = .ok (.ireturn, 1) := by decide +kernel
set_option maxRecDepth 20000 in
theorem ggX7_falls_X7_within : GoodIn wsX7_falls wsX7_within := goodIn_r _ [7] (by decide +kernel) (by decide +kernel)
set_option maxRecDepth 20000 in
theorem gX7_falls_X7_within : GoodIn wsX7_falls (va_wsS RX7 66 yX7_within wsX7_within) := goodIn_app (goodIn_of _ (by decide +kernel)) ggX7_falls_X7_within
set_option maxRecDepth 20000 in
theorem ggX7_falls_X7_bit : GoodIn wsX7_falls wsX7_bit := goodIn_r _ [10] (by decide +kernel) (by decide +kernel)
set_option maxRecDepth 20000 in
theorem gX7_falls_X7_bit : GoodIn wsX7_falls (va_wsS RX7 116 yX7_bit wsX7_bit) := goodIn_app (goodIn_of _ (by decide +kernel)) ggX7_falls_X7_bit
theorem dX7_falls_0 : decode cX7_falls 0 = .ok (.iload_n 1, 1) := by decide +kernel
theorem dX7_falls_1 : decode cX7_falls 1 = .ok (.iconst 0, 1) := by decide +kernel
theorem dX7_falls_2 : decode cX7_falls 2 = .ok (.aload_n 0, 1) := by decide +kernel
theorem dX7_falls_3 : decode cX7_falls 3 = .ok (.getfield 16, 3) := by decide +kernel
theorem dX7_falls_6 : decode cX7_falls 6 = .ok (.getfield 129, 3) := by decide +kernel
theorem dX7_falls_9 : decode cX7_falls 9 = .ok (.iconst 1, 1) := by decide +kernel
theorem dX7_falls_10 : decode cX7_falls 10 = .ok (.isub, 1) := by decide +kernel
theorem dX7_falls_11 : decode cX7_falls 11 = .ok (.invokestatic 66, 3) := by decide +kernel
theorem dX7_falls_14 : decode cX7_falls 14 = .ok (.ifCond .ne 5, 3) := by decide +kernel
theorem dX7_falls_17 : decode cX7_falls 17 = .ok (.iconst (-1), 1) := by decide +kernel
theorem dX7_falls_18 : decode cX7_falls 18 = .ok (.ireturn, 1) := by decide +kernel
theorem dX7_falls_19 : decode cX7_falls 19 = .ok (.iconst 1, 1) := by decide +kernel
theorem dX7_falls_20 : decode cX7_falls 20 = .ok (.iload_n 1, 1) := by decide +kernel
theorem dX7_falls_21 : decode cX7_falls 21 = .ok (.ishl, 1) := by decide +kernel
theorem dX7_falls_22 : decode cX7_falls 22 = .ok (.istore_n 2, 1) := by decide +kernel
theorem dX7_falls_23 : decode cX7_falls 23 = .ok (.iload_n 1, 1) := by decide +kernel
theorem dX7_falls_24 : decode cX7_falls 24 = .ok (.iconst 1, 1) := by decide +kernel
theorem dX7_falls_25 : decode cX7_falls 25 = .ok (.iadd, 1) := by decide +kernel
theorem dX7_falls_26 : decode cX7_falls 26 = .ok (.istore_n 3, 1) := by decide +kernel
theorem dX7_falls_27 : decode cX7_falls 27 = .ok (.iload_n 3, 1) := by decide +kernel
theorem dX7_falls_28 : decode cX7_falls 28 = .ok (.aload_n 0, 1) := by decide +kernel
theorem dX7_falls_29 : decode cX7_falls 29 = .ok (.getfield 16, 3) := by decide +kernel
theorem dX7_falls_32 : decode cX7_falls 32 = .ok (.getfield 129, 3) := by decide +kernel
theorem dX7_falls_35 : decode cX7_falls 35 = .ok (.if_icmp .ge 46, 3) := by decide +kernel
theorem dX7_falls_38 : decode cX7_falls 38 = .ok (.aload_n 0, 1) := by decide +kernel
theorem dX7_falls_39 : decode cX7_falls 39 = .ok (.getfield 16, 3) := by decide +kernel
theorem dX7_falls_42 : decode cX7_falls 42 = .ok (.getfield 141, 3) := by decide +kernel
theorem dX7_falls_45 : decode cX7_falls 45 = .ok (.iload_n 3, 1) := by decide +kernel
theorem dX7_falls_46 : decode cX7_falls 46 = .ok (.iaload, 1) := by decide +kernel
theorem dX7_falls_47 : decode cX7_falls 47 = .ok (.bipush 9, 2) := by decide +kernel
theorem dX7_falls_49 : decode cX7_falls 49 = .ok (.if_icmp .eq 26, 3) := by decide +kernel
theorem dX7_falls_52 : decode cX7_falls 52 = .ok (.iload_n 2, 1) := by decide +kernel
theorem dX7_falls_53 : decode cX7_falls 53 = .ok (.aload_n 0, 1) := by decide +kernel
theorem dX7_falls_54 : decode cX7_falls 54 = .ok (.getfield 16, 3) := by decide +kernel
theorem dX7_falls_57 : decode cX7_falls 57 = .ok (.getfield 141, 3) := by decide +kernel
theorem dX7_falls_60 : decode cX7_falls 60 = .ok (.iload_n 3, 1) := by decide +kernel
theorem dX7_falls_61 : decode cX7_falls 61 = .ok (.iaload, 1) := by decide +kernel
theorem dX7_falls_62 : decode cX7_falls 62 = .ok (.invokestatic 116, 3) := by decide +kernel
theorem dX7_falls_65 : decode cX7_falls 65 = .ok (.iconst 1, 1) := by decide +kernel
theorem dX7_falls_66 : decode cX7_falls 66 = .ok (.if_icmp .ne 9, 3) := by decide +kernel
theorem dX7_falls_69 : decode cX7_falls 69 = .ok (.iload_n 2, 1) := by decide +kernel
theorem dX7_falls_70 : decode cX7_falls 70 = .ok (.iconst 1, 1) := by decide +kernel
theorem dX7_falls_71 : decode cX7_falls 71 = .ok (.iload_n 3, 1) := by decide +kernel
theorem dX7_falls_72 : decode cX7_falls 72 = .ok (.ishl, 1) := by decide +kernel
theorem dX7_falls_73 : decode cX7_falls 73 = .ok (.ior, 1) := by decide +kernel
theorem dX7_falls_74 : decode cX7_falls 74 = .ok (.istore_n 2, 1) := by decide +kernel
theorem dX7_falls_75 : decode cX7_falls 75 = .ok (.iinc 3 1, 3) := by decide +kernel
theorem dX7_falls_78 : decode cX7_falls 78 = .ok (.goto (-51), 3) := by decide +kernel
theorem dX7_falls_81 : decode cX7_falls 81 = .ok (.iload_n 2, 1) := by decide +kernel
theorem dX7_falls_82 : decode cX7_falls 82 = .ok (.ireturn, 1) := by decide +kernel
set_option maxRecDepth 20000 in
theorem ggX7_wants_X7_within : GoodIn wsX7_wants wsX7_within := goodIn_r _ [7] (by decide +kernel) (by decide +kernel)
set_option maxRecDepth 20000 in
theorem gX7_wants_X7_within : GoodIn wsX7_wants (va_wsS RX7 66 yX7_within wsX7_within) := goodIn_app (goodIn_of _ (by decide +kernel)) ggX7_wants_X7_within
theorem dX7_wants_0 : decode cX7_wants 0 = .ok (.iload_n 1, 1) := by decide +kernel
theorem dX7_wants_1 : decode cX7_wants 1 = .ok (.iconst 1, 1) := by decide +kernel
theorem dX7_wants_2 : decode cX7_wants 2 = .ok (.bipush 60, 2) := by decide +kernel
theorem dX7_wants_4 : decode cX7_wants 4 = .ok (.invokestatic 66, 3) := by decide +kernel
theorem dX7_wants_7 : decode cX7_wants 7 = .ok (.ifCond .ne 5, 3) := by decide +kernel
theorem dX7_wants_10 : decode cX7_wants 10 = .ok (.iconst (-1), 1) := by decide +kernel
theorem dX7_wants_11 : decode cX7_wants 11 = .ok (.ireturn, 1) := by decide +kernel
theorem dX7_wants_12 : decode cX7_wants 12 = .ok (.aload_n 0, 1) := by decide +kernel
theorem dX7_wants_13 : decode cX7_wants 13 = .ok (.getfield 61, 3) := by decide +kernel
theorem dX7_wants_16 : decode cX7_wants 16 = .ok (.getfield 93, 3) := by decide +kernel
theorem dX7_wants_19 : decode cX7_wants 19 = .ok (.bipush 6, 2) := by decide +kernel
theorem dX7_wants_21 : decode cX7_wants 21 = .ok (.if_icmp .lt 6, 3) := by decide +kernel
theorem dX7_wants_24 : decode cX7_wants 24 = .ok (.bipush (-3), 2) := by decide +kernel
theorem dX7_wants_26 : decode cX7_wants 26 = .ok (.ireturn, 1) := by decide +kernel
theorem dX7_wants_27 : decode cX7_wants 27 = .ok (.aload_n 0, 1) := by decide +kernel
theorem dX7_wants_28 : decode cX7_wants 28 = .ok (.getfield 61, 3) := by decide +kernel
theorem dX7_wants_31 : decode cX7_wants 31 = .ok (.getfield 220, 3) := by decide +kernel
theorem dX7_wants_34 : decode cX7_wants 34 = .ok (.aload_n 0, 1) := by decide +kernel
theorem dX7_wants_35 : decode cX7_wants 35 = .ok (.getfield 61, 3) := by decide +kernel
theorem dX7_wants_38 : decode cX7_wants 38 = .ok (.getfield 93, 3) := by decide +kernel
theorem dX7_wants_41 : decode cX7_wants 41 = .ok (.iload_n 1, 1) := by decide +kernel
theorem dX7_wants_42 : decode cX7_wants 42 = .ok (.iastore, 1) := by decide +kernel
theorem dX7_wants_43 : decode cX7_wants 43 = .ok (.aload_n 0, 1) := by decide +kernel
theorem dX7_wants_44 : decode cX7_wants 44 = .ok (.getfield 61, 3) := by decide +kernel
theorem dX7_wants_47 : decode cX7_wants 47 = .ok (.dup, 1) := by decide +kernel
theorem dX7_wants_48 : decode cX7_wants 48 = .ok (.getfield 93, 3) := by decide +kernel
theorem dX7_wants_51 : decode cX7_wants 51 = .ok (.iconst 1, 1) := by decide +kernel
theorem dX7_wants_52 : decode cX7_wants 52 = .ok (.iadd, 1) := by decide +kernel
theorem dX7_wants_53 : decode cX7_wants 53 = .ok (.putfield 93, 3) := by decide +kernel
theorem dX7_wants_56 : decode cX7_wants 56 = .ok (.aload_n 0, 1) := by decide +kernel
theorem dX7_wants_57 : decode cX7_wants 57 = .ok (.getfield 61, 3) := by decide +kernel
theorem dX7_wants_60 : decode cX7_wants 60 = .ok (.getfield 93, 3) := by decide +kernel
theorem dX7_wants_63 : decode cX7_wants 63 = .ok (.ireturn, 1) := by decide +kernel
theorem dX7_forget_0 : decode cX7_forget 0 = .ok (.aload_n 0, 1) := by decide +kernel
theorem dX7_forget_1 : decode cX7_forget 1 = .ok (.getfield 61, 3) := by decide +kernel
theorem dX7_forget_4 : decode cX7_forget 4 = .ok (.getfield 93, 3) := by decide +kernel
theorem dX7_forget_7 : decode cX7_forget 7 = .ok (.istore_n 1, 1) := by decide +kernel
theorem dX7_forget_8 : decode cX7_forget 8 = .ok (.aload_n 0, 1) := by decide +kernel
theorem dX7_forget_9 : decode cX7_forget 9 = .ok (.getfield 61, 3) := by decide +kernel
theorem dX7_forget_12 : decode cX7_forget 12 = .ok (.iconst 0, 1) := by decide +kernel
theorem dX7_forget_13 : decode cX7_forget 13 = .ok (.putfield 93, 3) := by decide +kernel
theorem dX7_forget_16 : decode cX7_forget 16 = .ok (.iload_n 1, 1) := by decide +kernel
theorem dX7_forget_17 : decode cX7_forget 17 = .ok (.ireturn, 1) := by decide +kernel
set_option maxRecDepth 20000 in
theorem ggX7_cut_X7_within : GoodIn wsX7_cut wsX7_within := goodIn_r _ [9] (by decide +kernel) (by decide +kernel)
set_option maxRecDepth 20000 in
theorem gX7_cut_X7_within : GoodIn wsX7_cut (va_wsS RX7 66 yX7_within wsX7_within) := goodIn_app (goodIn_of _ (by decide +kernel)) ggX7_cut_X7_within
set_option maxRecDepth 20000 in
theorem ggX7_cut_X0_findWay : GoodIn wsX7_cut wsX0_findWay := goodIn_r _ [14, 15, 16, 17, 18, 19, 20, 8, 21, 22, 23, 24, 25, 26, 27, 28, 29, 30, 13, 31, 32, 33, 34, 35, 36, 37, 38, 39, 40, 41, 42, 43, 44, 45, 46, 47, 48, 49, 50, 51, 52, 53, 68, 69, 70, 71, 72, 73, 74, 75, 76, 77] (by decide +kernel) (by decide +kernel)
set_option maxRecDepth 20000 in
theorem gX7_cut_X0_findWay : GoodIn wsX7_cut (wsV RX7 223 RX0 yX0_findWay wsX0_findWay) := goodIn_app (goodIn_of _ (by decide +kernel)) ggX7_cut_X0_findWay
set_option maxRecDepth 20000 in
theorem ggX7_cut_X0_over : GoodIn wsX7_cut wsX0_over := goodIn_r _ [57, 19, 28, 29, 30, 13, 31, 32, 33, 68, 69, 70, 71, 72, 73, 74, 75] (by decide +kernel) (by decide +kernel)
set_option maxRecDepth 20000 in
theorem gX7_cut_X0_over : GoodIn wsX7_cut (wsV RX7 230 RX0 yX0_over wsX0_over) := goodIn_app (goodIn_of _ (by decide +kernel)) ggX7_cut_X0_over
theorem dX7_cut_0 : decode cX7_cut 0 = .ok (.iload_n 1, 1) := by decide +kernel
theorem dX7_cut_1 : decode cX7_cut 1 = .ok (.bipush (-2), 2) := by decide +kernel
theorem dX7_cut_3 : decode cX7_cut 3 = .ok (.aload_n 0, 1) := by decide +kernel
theorem dX7_cut_4 : decode cX7_cut 4 = .ok (.getfield 61, 3) := by decide +kernel
theorem dX7_cut_7 : decode cX7_cut 7 = .ok (.getfield 93, 3) := by decide +kernel
theorem dX7_cut_10 : decode cX7_cut 10 = .ok (.iconst 1, 1) := by decide +kernel
theorem dX7_cut_11 : decode cX7_cut 11 = .ok (.isub, 1) := by decide +kernel
theorem dX7_cut_12 : decode cX7_cut 12 = .ok (.invokestatic 66, 3) := by decide +kernel
theorem dX7_cut_15 : decode cX7_cut 15 = .ok (.ifCond .ne 5, 3) := by decide +kernel
theorem dX7_cut_18 : decode cX7_cut 18 = .ok (.iconst (-1), 1) := by decide +kernel
theorem dX7_cut_19 : decode cX7_cut 19 = .ok (.ireturn, 1) := by decide +kernel
theorem dX7_cut_20 : decode cX7_cut 20 = .ok (.aload_n 0, 1) := by decide +kernel
theorem dX7_cut_21 : decode cX7_cut 21 = .ok (.getfield 61, 3) := by decide +kernel
theorem dX7_cut_24 : decode cX7_cut 24 = .ok (.aload_n 0, 1) := by decide +kernel
theorem dX7_cut_25 : decode cX7_cut 25 = .ok (.getfield 34, 3) := by decide +kernel
theorem dX7_cut_28 : decode cX7_cut 28 = .ok (.invokevirtual 223, 3) := by decide +kernel
theorem dX7_cut_31 : decode cX7_cut 31 = .ok (.ifCond .ne 6, 3) := by decide +kernel
theorem dX7_cut_34 : decode cX7_cut 34 = .ok (.bipush (-9), 2) := by decide +kernel
theorem dX7_cut_36 : decode cX7_cut 36 = .ok (.ireturn, 1) := by decide +kernel
theorem dX7_cut_37 : decode cX7_cut 37 = .ok (.iload_n 1, 1) := by decide +kernel
theorem dX7_cut_38 : decode cX7_cut 38 = .ok (.iconst (-1), 1) := by decide +kernel
theorem dX7_cut_39 : decode cX7_cut 39 = .ok (.if_icmp .ne 11, 3) := by decide +kernel
theorem dX7_cut_42 : decode cX7_cut 42 = .ok (.aload_n 0, 1) := by decide +kernel
theorem dX7_cut_43 : decode cX7_cut 43 = .ok (.getfield 61, 3) := by decide +kernel
theorem dX7_cut_46 : decode cX7_cut 46 = .ok (.getfield 227, 3) := by decide +kernel
theorem dX7_cut_49 : decode cX7_cut 49 = .ok (.ireturn, 1) := by decide +kernel
theorem dX7_cut_50 : decode cX7_cut 50 = .ok (.iload_n 1, 1) := by decide +kernel
theorem dX7_cut_51 : decode cX7_cut 51 = .ok (.bipush (-2), 2) := by decide +kernel
theorem dX7_cut_53 : decode cX7_cut 53 = .ok (.if_icmp .ne 13, 3) := by decide +kernel
theorem dX7_cut_56 : decode cX7_cut 56 = .ok (.aload_n 0, 1) := by decide +kernel
theorem dX7_cut_57 : decode cX7_cut 57 = .ok (.getfield 61, 3) := by decide +kernel
theorem dX7_cut_60 : decode cX7_cut 60 = .ok (.invokevirtual 230, 3) := by decide +kernel
theorem dX7_cut_63 : decode cX7_cut 63 = .ok (.goto 12, 3) := by decide +kernel
theorem dX7_cut_66 : decode cX7_cut 66 = .ok (.aload_n 0, 1) := by decide +kernel
theorem dX7_cut_67 : decode cX7_cut 67 = .ok (.getfield 61, 3) := by decide +kernel
theorem dX7_cut_70 : decode cX7_cut 70 = .ok (.getfield 233, 3) := by decide +kernel
theorem dX7_cut_73 : decode cX7_cut 73 = .ok (.iload_n 1, 1) := by decide +kernel
theorem dX7_cut_74 : decode cX7_cut 74 = .ok (.iaload, 1) := by decide +kernel
theorem dX7_cut_75 : decode cX7_cut 75 = .ok (.ireturn, 1) := by decide +kernel
set_option maxRecDepth 20000 in
theorem ggX7_shown_X7_within : GoodIn wsX7_shown wsX7_within := goodIn_r _ [8] (by decide +kernel) (by decide +kernel)
set_option maxRecDepth 20000 in
theorem gX7_shown_X7_within : GoodIn wsX7_shown (va_wsS RX7 66 yX7_within wsX7_within) := goodIn_app (goodIn_of _ (by decide +kernel)) ggX7_shown_X7_within
set_option maxRecDepth 20000 in
theorem ggX7_shown_X4_burnedBy : GoodIn wsX7_shown wsX4_burnedBy := goodIn_r _ [13, 14, 15, 16, 17, 7, 18, 19, 20, 21, 12, 22, 23, 52, 53, 38, 39, 40, 41, 42, 43, 44, 45, 46, 47, 48, 49, 50, 51] (by decide +kernel) (by decide +kernel)
set_option maxRecDepth 20000 in
theorem gX7_shown_X4_burnedBy : GoodIn wsX7_shown (wsV RX7 236 RX4 yX4_burnedBy wsX4_burnedBy) := goodIn_app (goodIn_of _ (by decide +kernel)) ggX7_shown_X4_burnedBy
set_option maxRecDepth 20000 in
theorem ggX7_shown_X4_wax : GoodIn wsX7_shown wsX4_wax := goodIn_r _ [27, 23, 52, 53] (by decide +kernel) (by decide +kernel)
set_option maxRecDepth 20000 in
theorem gX7_shown_X4_wax : GoodIn wsX7_shown (wsV RX7 150 RX4 yX4_wax wsX4_wax) := goodIn_app (goodIn_of _ (by decide +kernel)) ggX7_shown_X4_wax
theorem dX7_shown_0 : decode cX7_shown 0 = .ok (.iload_n 1, 1) := by decide +kernel
theorem dX7_shown_1 : decode cX7_shown 1 = .ok (.iconst 0, 1) := by decide +kernel
theorem dX7_shown_2 : decode cX7_shown 2 = .ok (.aload_n 0, 1) := by decide +kernel
theorem dX7_shown_3 : decode cX7_shown 3 = .ok (.getfield 16, 3) := by decide +kernel
theorem dX7_shown_6 : decode cX7_shown 6 = .ok (.getfield 147, 3) := by decide +kernel
theorem dX7_shown_9 : decode cX7_shown 9 = .ok (.iconst 1, 1) := by decide +kernel
theorem dX7_shown_10 : decode cX7_shown 10 = .ok (.isub, 1) := by decide +kernel
theorem dX7_shown_11 : decode cX7_shown 11 = .ok (.invokestatic 66, 3) := by decide +kernel
theorem dX7_shown_14 : decode cX7_shown 14 = .ok (.ifCond .eq 12, 3) := by decide +kernel
theorem dX7_shown_17 : decode cX7_shown 17 = .ok (.iload_n 2, 1) := by decide +kernel
theorem dX7_shown_18 : decode cX7_shown 18 = .ok (.iconst 0, 1) := by decide +kernel
theorem dX7_shown_19 : decode cX7_shown 19 = .ok (.iconst 1, 1) := by decide +kernel
theorem dX7_shown_20 : decode cX7_shown 20 = .ok (.invokestatic 66, 3) := by decide +kernel
theorem dX7_shown_23 : decode cX7_shown 23 = .ok (.ifCond .ne 5, 3) := by decide +kernel
theorem dX7_shown_26 : decode cX7_shown 26 = .ok (.iconst (-1), 1) := by decide +kernel
theorem dX7_shown_27 : decode cX7_shown 27 = .ok (.ireturn, 1) := by decide +kernel
theorem dX7_shown_28 : decode cX7_shown 28 = .ok (.iconst 0, 1) := by decide +kernel
theorem dX7_shown_29 : decode cX7_shown 29 = .ok (.istore_n 3, 1) := by decide +kernel
theorem dX7_shown_30 : decode cX7_shown 30 = .ok (.bipush (-9), 2) := by decide +kernel
theorem dX7_shown_32 : decode cX7_shown 32 = .ok (.istore 4, 2) := by decide +kernel
theorem dX7_shown_34 : decode cX7_shown 34 = .ok (.iconst 0, 1) := by decide +kernel
theorem dX7_shown_35 : decode cX7_shown 35 = .ok (.istore 5, 2) := by decide +kernel
theorem dX7_shown_37 : decode cX7_shown 37 = .ok (.iload 5, 2) := by decide +kernel
theorem dX7_shown_39 : decode cX7_shown 39 = .ok (.iconst 1, 1) := by decide +kernel
theorem dX7_shown_40 : decode cX7_shown 40 = .ok (.aload_n 0, 1) := by decide +kernel
theorem dX7_shown_41 : decode cX7_shown 41 = .ok (.getfield 16, 3) := by decide +kernel
theorem dX7_shown_44 : decode cX7_shown 44 = .ok (.getfield 100, 3) := by decide +kernel
theorem dX7_shown_47 : decode cX7_shown 47 = .ok (.ishl, 1) := by decide +kernel
theorem dX7_shown_48 : decode cX7_shown 48 = .ok (.if_icmp .ge 45, 3) := by decide +kernel
theorem dX7_shown_51 : decode cX7_shown 51 = .ok (.aload_n 0, 1) := by decide +kernel
theorem dX7_shown_52 : decode cX7_shown 52 = .ok (.getfield 34, 3) := by decide +kernel
theorem dX7_shown_55 : decode cX7_shown 55 = .ok (.iload 5, 2) := by decide +kernel
theorem dX7_shown_57 : decode cX7_shown 57 = .ok (.invokevirtual 236, 3) := by decide +kernel
theorem dX7_shown_60 : decode cX7_shown 60 = .ok (.aload_n 0, 1) := by decide +kernel
theorem dX7_shown_61 : decode cX7_shown 61 = .ok (.getfield 34, 3) := by decide +kernel
theorem dX7_shown_64 : decode cX7_shown 64 = .ok (.iload_n 1, 1) := by decide +kernel
theorem dX7_shown_65 : decode cX7_shown 65 = .ok (.invokevirtual 150, 3) := by decide +kernel
theorem dX7_shown_68 : decode cX7_shown 68 = .ok (.if_icmp .ne 19, 3) := by decide +kernel
theorem dX7_shown_71 : decode cX7_shown 71 = .ok (.iload_n 3, 1) := by decide +kernel
theorem dX7_shown_72 : decode cX7_shown 72 = .ok (.ifCond .ne 8, 3) := by decide +kernel
theorem dX7_shown_75 : decode cX7_shown 75 = .ok (.iload 5, 2) := by decide +kernel
theorem dX7_shown_77 : decode cX7_shown 77 = .ok (.goto 5, 3) := by decide +kernel
theorem dX7_shown_80 : decode cX7_shown 80 = .ok (.iload 4, 2) := by decide +kernel
theorem dX7_shown_82 : decode cX7_shown 82 = .ok (.istore 4, 2) := by decide +kernel
theorem dX7_shown_84 : decode cX7_shown 84 = .ok (.iinc 3 1, 3) := by decide +kernel
theorem dX7_shown_87 : decode cX7_shown 87 = .ok (.iinc 5 1, 3) := by decide +kernel
theorem dX7_shown_90 : decode cX7_shown 90 = .ok (.goto (-53), 3) := by decide +kernel
theorem dX7_shown_93 : decode cX7_shown 93 = .ok (.iload_n 2, 1) := by decide +kernel
theorem dX7_shown_94 : decode cX7_shown 94 = .ok (.ifCond .ne 7, 3) := by decide +kernel
theorem dX7_shown_97 : decode cX7_shown 97 = .ok (.iload_n 3, 1) := by decide +kernel
theorem dX7_shown_98 : decode cX7_shown 98 = .ok (.goto 5, 3) := by decide +kernel
theorem dX7_shown_101 : decode cX7_shown 101 = .ok (.iload 4, 2) := by decide +kernel
theorem dX7_shown_103 : decode cX7_shown 103 = .ok (.ireturn, 1) := by decide +kernel
set_option maxRecDepth 20000 in
theorem ggX7_odds_X7_within : GoodIn wsX7_odds wsX7_within := goodIn_r _ [8] (by decide +kernel) (by decide +kernel)
set_option maxRecDepth 20000 in
theorem gX7_odds_X7_within : GoodIn wsX7_odds (va_wsS RX7 66 yX7_within wsX7_within) := goodIn_app (goodIn_of _ (by decide +kernel)) ggX7_odds_X7_within
set_option maxRecDepth 20000 in
theorem ggX7_odds_X4_isEnded : GoodIn wsX7_odds wsX4_isEnded := goodIn_r _ [13, 14, 15, 16, 12, 17, 18, 137, 138] (by decide +kernel) (by decide +kernel)
set_option maxRecDepth 20000 in
theorem gX7_odds_X4_isEnded : GoodIn wsX7_odds (wsV RX7 213 RX4 yX4_isEnded wsX4_isEnded) := goodIn_app (goodIn_of _ (by decide +kernel)) ggX7_odds_X4_isEnded
set_option maxRecDepth 20000 in
theorem ggX7_odds_X1_waysWhole : GoodIn wsX7_odds wsX1_waysWhole := goodIn_r _ [23, 24, 25, 26, 27, 28, 29, 30, 31, 32, 7, 33, 34, 35, 36, 12, 37, 18, 38, 39, 40, 41, 42, 43, 44, 22, 45, 46, 47, 48, 49, 14, 15, 16, 17, 50, 10, 11, 13, 51, 52, 53, 54, 55, 56, 57, 58, 59, 60, 61, 62, 63, 64, 65, 66, 67, 68, 69, 70, 71, 72, 73, 74, 75, 76, 77, 78, 79, 80, 81, 82, 83, 84, 85, 86, 87, 88, 89, 90, 91, 92, 93, 94, 95, 96, 97, 98, 99, 100, 101, 102, 103, 104, 105, 106, 107, 108, 139, 140, 137, 138, 123, 124, 125, 126, 127, 128, 129, 130, 131, 132, 133, 134, 135, 136] (by decide +kernel) (by decide +kernel)
set_option maxRecDepth 20000 in
theorem gX7_odds_X1_waysWhole : GoodIn wsX7_odds (wsV RX7 239 RX1 yX1_waysWhole wsX1_waysWhole) := goodIn_app (goodIn_of _ (by decide +kernel)) ggX7_odds_X1_waysWhole
set_option maxRecDepth 20000 in
theorem ggX7_odds_X7_power : GoodIn wsX7_odds wsX7_power := goodIn_r _ [33] (by decide +kernel) (by decide +kernel)
set_option maxRecDepth 20000 in
theorem gX7_odds_X7_power : GoodIn wsX7_odds (va_wsS RX7 243 yX7_power wsX7_power) := goodIn_app (goodIn_of _ (by decide +kernel)) ggX7_odds_X7_power
set_option maxRecDepth 20000 in
theorem ggX7_odds_X7_greatestDivisor : GoodIn wsX7_odds wsX7_greatestDivisor := goodIn_r _ [112] (by decide +kernel) (by decide +kernel)
set_option maxRecDepth 20000 in
theorem gX7_odds_X7_greatestDivisor : GoodIn wsX7_odds (va_wsS RX7 246 yX7_greatestDivisor wsX7_greatestDivisor) := goodIn_app (goodIn_of _ (by decide +kernel)) ggX7_odds_X7_greatestDivisor
theorem dX7_odds_0 : decode cX7_odds 0 = .ok (.iload_n 1, 1) := by decide +kernel
theorem dX7_odds_1 : decode cX7_odds 1 = .ok (.iconst 0, 1) := by decide +kernel
theorem dX7_odds_2 : decode cX7_odds 2 = .ok (.aload_n 0, 1) := by decide +kernel
theorem dX7_odds_3 : decode cX7_odds 3 = .ok (.getfield 16, 3) := by decide +kernel
theorem dX7_odds_6 : decode cX7_odds 6 = .ok (.getfield 129, 3) := by decide +kernel
theorem dX7_odds_9 : decode cX7_odds 9 = .ok (.iconst 1, 1) := by decide +kernel
theorem dX7_odds_10 : decode cX7_odds 10 = .ok (.isub, 1) := by decide +kernel
theorem dX7_odds_11 : decode cX7_odds 11 = .ok (.invokestatic 66, 3) := by decide +kernel
theorem dX7_odds_14 : decode cX7_odds 14 = .ok (.ifCond .eq 33, 3) := by decide +kernel
theorem dX7_odds_17 : decode cX7_odds 17 = .ok (.iload_n 2, 1) := by decide +kernel
theorem dX7_odds_18 : decode cX7_odds 18 = .ok (.iconst 0, 1) := by decide +kernel
theorem dX7_odds_19 : decode cX7_odds 19 = .ok (.bipush 10, 2) := by decide +kernel
theorem dX7_odds_21 : decode cX7_odds 21 = .ok (.invokestatic 66, 3) := by decide +kernel
theorem dX7_odds_24 : decode cX7_odds 24 = .ok (.ifCond .eq 23, 3) := by decide +kernel
theorem dX7_odds_27 : decode cX7_odds 27 = .ok (.iload_n 3, 1) := by decide +kernel
theorem dX7_odds_28 : decode cX7_odds 28 = .ok (.iconst 0, 1) := by decide +kernel
theorem dX7_odds_29 : decode cX7_odds 29 = .ok (.bipush 6, 2) := by decide +kernel
theorem dX7_odds_31 : decode cX7_odds 31 = .ok (.invokestatic 66, 3) := by decide +kernel
theorem dX7_odds_34 : decode cX7_odds 34 = .ok (.ifCond .eq 13, 3) := by decide +kernel
theorem dX7_odds_37 : decode cX7_odds 37 = .ok (.iload 4, 2) := by decide +kernel
theorem dX7_odds_39 : decode cX7_odds 39 = .ok (.iconst 0, 1) := by decide +kernel
theorem dX7_odds_40 : decode cX7_odds 40 = .ok (.iconst 1, 1) := by decide +kernel
theorem dX7_odds_41 : decode cX7_odds 41 = .ok (.invokestatic 66, 3) := by decide +kernel
theorem dX7_odds_44 : decode cX7_odds 44 = .ok (.ifCond .ne 5, 3) := by decide +kernel
theorem dX7_odds_47 : decode cX7_odds 47 = .ok (.iconst (-1), 1) := by decide +kernel
theorem dX7_odds_48 : decode cX7_odds 48 = .ok (.ireturn, 1) := by decide +kernel
theorem dX7_odds_49 : decode cX7_odds 49 = .ok (.aload_n 0, 1) := by decide +kernel
theorem dX7_odds_50 : decode cX7_odds 50 = .ok (.getfield 34, 3) := by decide +kernel
theorem dX7_odds_53 : decode cX7_odds 53 = .ok (.iload_n 1, 1) := by decide +kernel
theorem dX7_odds_54 : decode cX7_odds 54 = .ok (.invokevirtual 213, 3) := by decide +kernel
theorem dX7_odds_57 : decode cX7_odds 57 = .ok (.ifCond .eq 6, 3) := by decide +kernel
theorem dX7_odds_60 : decode cX7_odds 60 = .ok (.bipush (-2), 2) := by decide +kernel
theorem dX7_odds_62 : decode cX7_odds 62 = .ok (.ireturn, 1) := by decide +kernel
theorem dX7_odds_63 : decode cX7_odds 63 = .ok (.aload_n 0, 1) := by decide +kernel
theorem dX7_odds_64 : decode cX7_odds 64 = .ok (.getfield 54, 3) := by decide +kernel
theorem dX7_odds_67 : decode cX7_odds 67 = .ok (.aload_n 0, 1) := by decide +kernel
theorem dX7_odds_68 : decode cX7_odds 68 = .ok (.getfield 34, 3) := by decide +kernel
theorem dX7_odds_71 : decode cX7_odds 71 = .ok (.iload_n 1, 1) := by decide +kernel
theorem dX7_odds_72 : decode cX7_odds 72 = .ok (.iload_n 2, 1) := by decide +kernel
theorem dX7_odds_73 : decode cX7_odds 73 = .ok (.iload_n 3, 1) := by decide +kernel
theorem dX7_odds_74 : decode cX7_odds 74 = .ok (.invokevirtual 239, 3) := by decide +kernel
theorem dX7_odds_77 : decode cX7_odds 77 = .ok (.istore 5, 2) := by decide +kernel
theorem dX7_odds_79 : decode cX7_odds 79 = .ok (.bipush 10, 2) := by decide +kernel
theorem dX7_odds_81 : decode cX7_odds 81 = .ok (.iload_n 3, 1) := by decide +kernel
theorem dX7_odds_82 : decode cX7_odds 82 = .ok (.invokestatic 243, 3) := by decide +kernel
theorem dX7_odds_85 : decode cX7_odds 85 = .ok (.istore 6, 2) := by decide +kernel
theorem dX7_odds_87 : decode cX7_odds 87 = .ok (.iload 5, 2) := by decide +kernel
theorem dX7_odds_89 : decode cX7_odds 89 = .ok (.iload 6, 2) := by decide +kernel
theorem dX7_odds_91 : decode cX7_odds 91 = .ok (.invokestatic 246, 3) := by decide +kernel
theorem dX7_odds_94 : decode cX7_odds 94 = .ok (.istore 7, 2) := by decide +kernel
theorem dX7_odds_96 : decode cX7_odds 96 = .ok (.iload 7, 2) := by decide +kernel
theorem dX7_odds_98 : decode cX7_odds 98 = .ok (.iconst 1, 1) := by decide +kernel
theorem dX7_odds_99 : decode cX7_odds 99 = .ok (.if_icmp .ge 5, 3) := by decide +kernel
theorem dX7_odds_102 : decode cX7_odds 102 = .ok (.iconst (-1), 1) := by decide +kernel
theorem dX7_odds_103 : decode cX7_odds 103 = .ok (.ireturn, 1) := by decide +kernel
theorem dX7_odds_104 : decode cX7_odds 104 = .ok (.iload 4, 2) := by decide +kernel
theorem dX7_odds_106 : decode cX7_odds 106 = .ok (.ifCond .ne 11, 3) := by decide +kernel
theorem dX7_odds_109 : decode cX7_odds 109 = .ok (.iload 5, 2) := by decide +kernel
theorem dX7_odds_111 : decode cX7_odds 111 = .ok (.iload 7, 2) := by decide +kernel
theorem dX7_odds_113 : decode cX7_odds 113 = .ok (.idiv, 1) := by decide +kernel
theorem dX7_odds_114 : decode cX7_odds 114 = .ok (.goto 8, 3) := by decide +kernel
theorem dX7_odds_117 : decode cX7_odds 117 = .ok (.iload 6, 2) := by decide +kernel
theorem dX7_odds_119 : decode cX7_odds 119 = .ok (.iload 7, 2) := by decide +kernel
theorem dX7_odds_121 : decode cX7_odds 121 = .ok (.idiv, 1) := by decide +kernel
theorem dX7_odds_122 : decode cX7_odds 122 = .ok (.ireturn, 1) := by decide +kernel
set_option maxRecDepth 20000 in
theorem ggX7_mark_X7_within : GoodIn wsX7_mark wsX7_within := goodIn_r _ [7] (by decide +kernel) (by decide +kernel)
set_option maxRecDepth 20000 in
theorem gX7_mark_X7_within : GoodIn wsX7_mark (va_wsS RX7 66 yX7_within wsX7_within) := goodIn_app (goodIn_of _ (by decide +kernel)) ggX7_mark_X7_within
set_option maxRecDepth 20000 in
theorem ggX7_mark_X7_candleMark : GoodIn wsX7_mark wsX7_candleMark := goodIn_r _ [11, 12, 13, 14, 15, 16, 17, 18, 19, 62, 63, 64, 65, 66, 67, 68, 69, 70, 71, 86, 87] (by decide +kernel) (by decide +kernel)
set_option maxRecDepth 20000 in
theorem gX7_mark_X7_candleMark : GoodIn wsX7_mark (wsV RX7 250 RX7 yX7_candleMark wsX7_candleMark) := goodIn_app (goodIn_of _ (by decide +kernel)) ggX7_mark_X7_candleMark
set_option maxRecDepth 20000 in
theorem ggX7_mark_X7_tallowMark : GoodIn wsX7_mark wsX7_tallowMark := goodIn_r _ [23, 12, 24, 1, 25, 8, 9, 10, 6, 11, 13, 14, 15, 16, 17, 18, 19, 62, 63, 64, 65, 66, 67, 68, 69, 70, 71, 72, 73, 74, 75, 76, 77, 78, 79, 80, 81, 82, 83, 84, 85, 86, 87] (by decide +kernel) (by decide +kernel)
set_option maxRecDepth 20000 in
theorem gX7_mark_X7_tallowMark : GoodIn wsX7_mark (wsV RX7 253 RX7 yX7_tallowMark wsX7_tallowMark) := goodIn_app (goodIn_of _ (by decide +kernel)) ggX7_mark_X7_tallowMark
set_option maxRecDepth 20000 in
theorem ggX7_mark_X7_beeswaxMark : GoodIn wsX7_mark wsX7_beeswaxMark := goodIn_r _ [29, 12, 30, 13, 8, 9, 10, 6, 11, 14, 15, 16, 17, 18, 19, 31, 32, 33, 34, 62, 63, 64, 65, 66, 67, 68, 69, 70, 71, 86, 87] (by decide +kernel) (by decide +kernel)
set_option maxRecDepth 20000 in
theorem gX7_mark_X7_beeswaxMark : GoodIn wsX7_mark (wsV RX7 256 RX7 yX7_beeswaxMark wsX7_beeswaxMark) := goodIn_app (goodIn_of _ (by decide +kernel)) ggX7_mark_X7_beeswaxMark
set_option maxRecDepth 20000 in
theorem ggX7_mark_X7_stubMark : GoodIn wsX7_mark wsX7_stubMark := goodIn_r _ [38, 12, 39, 20, 21, 22, 6, 23, 24, 1, 25, 8, 9, 10, 11, 13, 14, 15, 16, 17, 18, 19, 62, 63, 64, 65, 66, 67, 68, 69, 70, 71, 72, 73, 74, 75, 76, 77, 78, 79, 80, 81, 82, 83, 84, 85, 86, 87] (by decide +kernel) (by decide +kernel)
set_option maxRecDepth 20000 in
theorem gX7_mark_X7_stubMark : GoodIn wsX7_mark (wsV RX7 259 RX7 yX7_stubMark wsX7_stubMark) := goodIn_app (goodIn_of _ (by decide +kernel)) ggX7_mark_X7_stubMark
set_option maxRecDepth 20000 in
theorem ggX7_mark_X7_churchMark : GoodIn wsX7_mark wsX7_churchMark := goodIn_r _ [43, 12, 44, 13, 45, 26, 27, 28, 6, 29, 30, 8, 9, 10, 11, 14, 15, 16, 17, 18, 19, 31, 32, 33, 34, 46, 47, 48, 49, 50, 51, 52, 62, 63, 64, 65, 66, 67, 68, 69, 70, 71, 86, 87] (by decide +kernel) (by decide +kernel)
set_option maxRecDepth 20000 in
theorem gX7_mark_X7_churchMark : GoodIn wsX7_mark (wsV RX7 262 RX7 yX7_churchMark wsX7_churchMark) := goodIn_app (goodIn_of _ (by decide +kernel)) ggX7_mark_X7_churchMark
set_option maxRecDepth 20000 in
theorem ggX7_mark_X7_lampMark : GoodIn wsX7_mark wsX7_lampMark := goodIn_r _ [56, 12, 57, 13, 8, 9, 10, 6, 11, 14, 15, 16, 17, 18, 19, 58, 59, 60, 61, 62, 63, 64, 65, 66, 67, 68, 69, 70, 71, 86, 87] (by decide +kernel) (by decide +kernel)
set_option maxRecDepth 20000 in
theorem gX7_mark_X7_lampMark : GoodIn wsX7_mark (wsV RX7 265 RX7 yX7_lampMark wsX7_lampMark) := goodIn_app (goodIn_of _ (by decide +kernel)) ggX7_mark_X7_lampMark
theorem dX7_mark_0 : decode cX7_mark 0 = .ok (.iload_n 2, 1) := by decide +kernel
theorem dX7_mark_1 : decode cX7_mark 1 = .ok (.iconst 0, 1) := by decide +kernel
theorem dX7_mark_2 : decode cX7_mark 2 = .ok (.aload_n 0, 1) := by decide +kernel
theorem dX7_mark_3 : decode cX7_mark 3 = .ok (.getfield 16, 3) := by decide +kernel
theorem dX7_mark_6 : decode cX7_mark 6 = .ok (.getfield 100, 3) := by decide +kernel
theorem dX7_mark_9 : decode cX7_mark 9 = .ok (.iconst 1, 1) := by decide +kernel
theorem dX7_mark_10 : decode cX7_mark 10 = .ok (.isub, 1) := by decide +kernel
theorem dX7_mark_11 : decode cX7_mark 11 = .ok (.invokestatic 66, 3) := by decide +kernel
theorem dX7_mark_14 : decode cX7_mark 14 = .ok (.ifCond .ne 6, 3) := by decide +kernel
theorem dX7_mark_17 : decode cX7_mark 17 = .ok (.ldc 249, 2) := by decide +kernel
theorem dX7_mark_19 : decode cX7_mark 19 = .ok (.ireturn, 1) := by decide +kernel
theorem dX7_mark_20 : decode cX7_mark 20 = .ok (.iload_n 1, 1) := by decide +kernel
theorem dX7_mark_21 : decode cX7_mark 21 = .ok (.tableswitch 75 0 5 #[39, 45, 51, 57, 63, 69], 39) := by decide +kernel
theorem dX7_mark_60 : decode cX7_mark 60 = .ok (.aload_n 0, 1) := by decide +kernel
theorem dX7_mark_61 : decode cX7_mark 61 = .ok (.iload_n 2, 1) := by decide +kernel
theorem dX7_mark_62 : decode cX7_mark 62 = .ok (.invokevirtual 250, 3) := by decide +kernel
theorem dX7_mark_65 : decode cX7_mark 65 = .ok (.ireturn, 1) := by decide +kernel
theorem dX7_mark_66 : decode cX7_mark 66 = .ok (.aload_n 0, 1) := by decide +kernel
theorem dX7_mark_67 : decode cX7_mark 67 = .ok (.iload_n 2, 1) := by decide +kernel
theorem dX7_mark_68 : decode cX7_mark 68 = .ok (.invokevirtual 253, 3) := by decide +kernel
theorem dX7_mark_71 : decode cX7_mark 71 = .ok (.ireturn, 1) := by decide +kernel
theorem dX7_mark_72 : decode cX7_mark 72 = .ok (.aload_n 0, 1) := by decide +kernel
theorem dX7_mark_73 : decode cX7_mark 73 = .ok (.iload_n 2, 1) := by decide +kernel
theorem dX7_mark_74 : decode cX7_mark 74 = .ok (.invokevirtual 256, 3) := by decide +kernel
theorem dX7_mark_77 : decode cX7_mark 77 = .ok (.ireturn, 1) := by decide +kernel
theorem dX7_mark_78 : decode cX7_mark 78 = .ok (.aload_n 0, 1) := by decide +kernel
theorem dX7_mark_79 : decode cX7_mark 79 = .ok (.iload_n 2, 1) := by decide +kernel
theorem dX7_mark_80 : decode cX7_mark 80 = .ok (.invokevirtual 259, 3) := by decide +kernel
theorem dX7_mark_83 : decode cX7_mark 83 = .ok (.ireturn, 1) := by decide +kernel
theorem dX7_mark_84 : decode cX7_mark 84 = .ok (.aload_n 0, 1) := by decide +kernel
theorem dX7_mark_85 : decode cX7_mark 85 = .ok (.iload_n 2, 1) := by decide +kernel
theorem dX7_mark_86 : decode cX7_mark 86 = .ok (.invokevirtual 262, 3) := by decide +kernel
theorem dX7_mark_89 : decode cX7_mark 89 = .ok (.ireturn, 1) := by decide +kernel
theorem dX7_mark_90 : decode cX7_mark 90 = .ok (.aload_n 0, 1) := by decide +kernel
theorem dX7_mark_91 : decode cX7_mark 91 = .ok (.iload_n 2, 1) := by decide +kernel
theorem dX7_mark_92 : decode cX7_mark 92 = .ok (.invokevirtual 265, 3) := by decide +kernel
theorem dX7_mark_95 : decode cX7_mark 95 = .ok (.ireturn, 1) := by decide +kernel
theorem dX7_mark_96 : decode cX7_mark 96 = .ok (.ldc 249, 2) := by decide +kernel
theorem dX7_mark_98 : decode cX7_mark 98 = .ok (.ireturn, 1) := by decide +kernel
set_option maxRecDepth 20000 in
theorem ggX7_keep_X7_within : GoodIn wsX7_keep wsX7_within := goodIn_r _ [7] (by decide +kernel) (by decide +kernel)
set_option maxRecDepth 20000 in
theorem gX7_keep_X7_within : GoodIn wsX7_keep (va_wsS RX7 66 yX7_within wsX7_within) := goodIn_app (goodIn_of _ (by decide +kernel)) ggX7_keep_X7_within
set_option maxRecDepth 20000 in
theorem ggX7_keep_X3_take : GoodIn wsX7_keep wsX3_take := goodIn_r _ [12, 13, 14, 15, 16, 17, 18, 19, 20, 21, 22, 23, 24, 25, 26, 27, 28, 29, 46, 47, 48, 49, 50, 51, 52, 53] (by decide +kernel) (by decide +kernel)
set_option maxRecDepth 20000 in
theorem gX7_keep_X3_take : GoodIn wsX7_keep (wsV RX7 268 RX3 yX3_take wsX3_take) := goodIn_app (goodIn_of _ (by decide +kernel)) ggX7_keep_X3_take
set_option maxRecDepth 20000 in
theorem ggX7_keep_X4_minute : GoodIn wsX7_keep wsX4_minute := goodIn_r _ [34, 35, 49, 50] (by decide +kernel) (by decide +kernel)
set_option maxRecDepth 20000 in
theorem gX7_keep_X4_minute : GoodIn wsX7_keep (wsV RX7 183 RX4 yX4_minute wsX4_minute) := goodIn_app (goodIn_of _ (by decide +kernel)) ggX7_keep_X4_minute
theorem dX7_keep_0 : decode cX7_keep 0 = .ok (.iload_n 1, 1) := by decide +kernel
theorem dX7_keep_1 : decode cX7_keep 1 = .ok (.iconst 0, 1) := by decide +kernel
theorem dX7_keep_2 : decode cX7_keep 2 = .ok (.iconst 1, 1) := by decide +kernel
theorem dX7_keep_3 : decode cX7_keep 3 = .ok (.invokestatic 66, 3) := by decide +kernel
theorem dX7_keep_6 : decode cX7_keep 6 = .ok (.ifCond .ne 5, 3) := by decide +kernel
theorem dX7_keep_9 : decode cX7_keep 9 = .ok (.iconst (-1), 1) := by decide +kernel
theorem dX7_keep_10 : decode cX7_keep 10 = .ok (.ireturn, 1) := by decide +kernel
theorem dX7_keep_11 : decode cX7_keep 11 = .ok (.aload_n 0, 1) := by decide +kernel
theorem dX7_keep_12 : decode cX7_keep 12 = .ok (.getfield 47, 3) := by decide +kernel
theorem dX7_keep_15 : decode cX7_keep 15 = .ok (.iload_n 1, 1) := by decide +kernel
theorem dX7_keep_16 : decode cX7_keep 16 = .ok (.aaload, 1) := by decide +kernel
theorem dX7_keep_17 : decode cX7_keep 17 = .ok (.aload_n 0, 1) := by decide +kernel
theorem dX7_keep_18 : decode cX7_keep 18 = .ok (.getfield 34, 3) := by decide +kernel
theorem dX7_keep_21 : decode cX7_keep 21 = .ok (.aload_n 0, 1) := by decide +kernel
theorem dX7_keep_22 : decode cX7_keep 22 = .ok (.getfield 41, 3) := by decide +kernel
theorem dX7_keep_25 : decode cX7_keep 25 = .ok (.invokevirtual 268, 3) := by decide +kernel
theorem dX7_keep_28 : decode cX7_keep 28 = .ok (.aload_n 0, 1) := by decide +kernel
theorem dX7_keep_29 : decode cX7_keep 29 = .ok (.getfield 34, 3) := by decide +kernel
theorem dX7_keep_32 : decode cX7_keep 32 = .ok (.invokevirtual 183, 3) := by decide +kernel
theorem dX7_keep_35 : decode cX7_keep 35 = .ok (.ireturn, 1) := by decide +kernel
set_option maxRecDepth 20000 in
theorem ggX7_back_X7_within : GoodIn wsX7_back wsX7_within := goodIn_r _ [8] (by decide +kernel) (by decide +kernel)
set_option maxRecDepth 20000 in
theorem gX7_back_X7_within : GoodIn wsX7_back (va_wsS RX7 66 yX7_within wsX7_within) := goodIn_app (goodIn_of _ (by decide +kernel)) ggX7_back_X7_within
set_option maxRecDepth 20000 in
theorem ggX7_back_X3_giveTo : GoodIn wsX7_back wsX3_giveTo := goodIn_r _ [13, 14, 15, 16, 17, 18, 19, 20, 21, 22, 23, 24, 25, 26, 27, 28, 29, 46, 47, 48, 49, 50, 51, 52, 53] (by decide +kernel) (by decide +kernel)
set_option maxRecDepth 20000 in
theorem gX7_back_X3_giveTo : GoodIn wsX7_back (wsV RX7 272 RX3 yX3_giveTo wsX3_giveTo) := goodIn_app (goodIn_of _ (by decide +kernel)) ggX7_back_X3_giveTo
set_option maxRecDepth 20000 in
theorem ggX7_back_X4_minute : GoodIn wsX7_back wsX4_minute := goodIn_r _ [34, 35, 49, 50] (by decide +kernel) (by decide +kernel)
set_option maxRecDepth 20000 in
theorem gX7_back_X4_minute : GoodIn wsX7_back (wsV RX7 183 RX4 yX4_minute wsX4_minute) := goodIn_app (goodIn_of _ (by decide +kernel)) ggX7_back_X4_minute
theorem dX7_back_0 : decode cX7_back 0 = .ok (.iload_n 1, 1) := by decide +kernel
theorem dX7_back_1 : decode cX7_back 1 = .ok (.iconst 0, 1) := by decide +kernel
theorem dX7_back_2 : decode cX7_back 2 = .ok (.iconst 1, 1) := by decide +kernel
theorem dX7_back_3 : decode cX7_back 3 = .ok (.invokestatic 66, 3) := by decide +kernel
theorem dX7_back_6 : decode cX7_back 6 = .ok (.ifCond .ne 5, 3) := by decide +kernel
theorem dX7_back_9 : decode cX7_back 9 = .ok (.iconst (-1), 1) := by decide +kernel
theorem dX7_back_10 : decode cX7_back 10 = .ok (.ireturn, 1) := by decide +kernel
theorem dX7_back_11 : decode cX7_back 11 = .ok (.aload_n 0, 1) := by decide +kernel
theorem dX7_back_12 : decode cX7_back 12 = .ok (.getfield 47, 3) := by decide +kernel
theorem dX7_back_15 : decode cX7_back 15 = .ok (.iload_n 1, 1) := by decide +kernel
theorem dX7_back_16 : decode cX7_back 16 = .ok (.aaload, 1) := by decide +kernel
theorem dX7_back_17 : decode cX7_back 17 = .ok (.getfield 96, 3) := by decide +kernel
theorem dX7_back_20 : decode cX7_back 20 = .ok (.ifCond .ne 6, 3) := by decide +kernel
theorem dX7_back_23 : decode cX7_back 23 = .ok (.bipush (-2), 2) := by decide +kernel
theorem dX7_back_25 : decode cX7_back 25 = .ok (.ireturn, 1) := by decide +kernel
theorem dX7_back_26 : decode cX7_back 26 = .ok (.aload_n 0, 1) := by decide +kernel
theorem dX7_back_27 : decode cX7_back 27 = .ok (.getfield 47, 3) := by decide +kernel
theorem dX7_back_30 : decode cX7_back 30 = .ok (.iload_n 1, 1) := by decide +kernel
theorem dX7_back_31 : decode cX7_back 31 = .ok (.aaload, 1) := by decide +kernel
theorem dX7_back_32 : decode cX7_back 32 = .ok (.aload_n 0, 1) := by decide +kernel
theorem dX7_back_33 : decode cX7_back 33 = .ok (.getfield 34, 3) := by decide +kernel
theorem dX7_back_36 : decode cX7_back 36 = .ok (.aload_n 0, 1) := by decide +kernel
theorem dX7_back_37 : decode cX7_back 37 = .ok (.getfield 41, 3) := by decide +kernel
theorem dX7_back_40 : decode cX7_back 40 = .ok (.invokevirtual 272, 3) := by decide +kernel
theorem dX7_back_43 : decode cX7_back 43 = .ok (.aload_n 0, 1) := by decide +kernel
theorem dX7_back_44 : decode cX7_back 44 = .ok (.getfield 34, 3) := by decide +kernel
theorem dX7_back_47 : decode cX7_back 47 = .ok (.invokevirtual 183, 3) := by decide +kernel
theorem dX7_back_50 : decode cX7_back 50 = .ok (.ireturn, 1) := by decide +kernel
theorem dX7_count_0 : decode cX7_count 0 = .ok (.iload_n 1, 1) := by decide +kernel
theorem dX7_count_1 : decode cX7_count 1 = .ok (.tableswitch 108 0 7 #[47, 55, 63, 71, 79, 87, 95, 103], 47) := by decide +kernel
theorem dX7_count_48 : decode cX7_count 48 = .ok (.aload_n 0, 1) := by decide +kernel
theorem dX7_count_49 : decode cX7_count 49 = .ok (.getfield 16, 3) := by decide +kernel
theorem dX7_count_52 : decode cX7_count 52 = .ok (.getfield 147, 3) := by decide +kernel
theorem dX7_count_55 : decode cX7_count 55 = .ok (.ireturn, 1) := by decide +kernel
theorem dX7_count_56 : decode cX7_count 56 = .ok (.aload_n 0, 1) := by decide +kernel
theorem dX7_count_57 : decode cX7_count 57 = .ok (.getfield 16, 3) := by decide +kernel
theorem dX7_count_60 : decode cX7_count 60 = .ok (.getfield 120, 3) := by decide +kernel
theorem dX7_count_63 : decode cX7_count 63 = .ok (.ireturn, 1) := by decide +kernel
theorem dX7_count_64 : decode cX7_count 64 = .ok (.aload_n 0, 1) := by decide +kernel
theorem dX7_count_65 : decode cX7_count 65 = .ok (.getfield 16, 3) := by decide +kernel
theorem dX7_count_68 : decode cX7_count 68 = .ok (.getfield 100, 3) := by decide +kernel
theorem dX7_count_71 : decode cX7_count 71 = .ok (.ireturn, 1) := by decide +kernel
theorem dX7_count_72 : decode cX7_count 72 = .ok (.aload_n 0, 1) := by decide +kernel
theorem dX7_count_73 : decode cX7_count 73 = .ok (.getfield 16, 3) := by decide +kernel
theorem dX7_count_76 : decode cX7_count 76 = .ok (.getfield 129, 3) := by decide +kernel
theorem dX7_count_79 : decode cX7_count 79 = .ok (.ireturn, 1) := by decide +kernel
theorem dX7_count_80 : decode cX7_count 80 = .ok (.aload_n 0, 1) := by decide +kernel
theorem dX7_count_81 : decode cX7_count 81 = .ok (.getfield 16, 3) := by decide +kernel
theorem dX7_count_84 : decode cX7_count 84 = .ok (.getfield 275, 3) := by decide +kernel
theorem dX7_count_87 : decode cX7_count 87 = .ok (.ireturn, 1) := by decide +kernel
theorem dX7_count_88 : decode cX7_count 88 = .ok (.aload_n 0, 1) := by decide +kernel
theorem dX7_count_89 : decode cX7_count 89 = .ok (.getfield 61, 3) := by decide +kernel
theorem dX7_count_92 : decode cX7_count 92 = .ok (.getfield 93, 3) := by decide +kernel
theorem dX7_count_95 : decode cX7_count 95 = .ok (.ireturn, 1) := by decide +kernel
theorem dX7_count_96 : decode cX7_count 96 = .ok (.aload_n 0, 1) := by decide +kernel
theorem dX7_count_97 : decode cX7_count 97 = .ok (.getfield 41, 3) := by decide +kernel
theorem dX7_count_100 : decode cX7_count 100 = .ok (.getfield 90, 3) := by decide +kernel
theorem dX7_count_103 : decode cX7_count 103 = .ok (.ireturn, 1) := by decide +kernel
theorem dX7_count_104 : decode cX7_count 104 = .ok (.aload_n 0, 1) := by decide +kernel
theorem dX7_count_105 : decode cX7_count 105 = .ok (.getfield 70, 3) := by decide +kernel
theorem dX7_count_108 : decode cX7_count 108 = .ok (.ireturn, 1) := by decide +kernel
theorem dX7_count_109 : decode cX7_count 109 = .ok (.iconst (-1), 1) := by decide +kernel
theorem dX7_count_110 : decode cX7_count 110 = .ok (.ireturn, 1) := by decide +kernel
theorem dX7_trace_0 : decode cX7_trace 0 = .ok (.aload_n 0, 1) := by decide +kernel
theorem dX7_trace_1 : decode cX7_trace 1 = .ok (.getfield 278, 3) := by decide +kernel
theorem dX7_trace_4 : decode cX7_trace 4 = .ok (.lreturn, 1) := by decide +kernel
set_option maxRecDepth 20000 in
theorem ggX7_turn_X5_remember : GoodIn wsX7_turn wsX5_remember := goodIn_r _ [8, 9, 10, 11, 12, 13, 14, 15, 16, 17, 18, 19, 20, 38, 39, 40, 41, 42] (by decide +kernel) (by decide +kernel)
set_option maxRecDepth 20000 in
theorem gX7_turn_X5_remember : GoodIn wsX7_turn (wsV RX7 167 RX5 yX5_remember wsX5_remember) := goodIn_app (goodIn_of _ (by decide +kernel)) ggX7_turn_X5_remember
set_option maxRecDepth 20000 in
theorem ggX7_turn_J6_bitCount_0f7a4 : GoodIn wsX7_turn wsJ6_bitCount_0f7a4 := goodIn_r _ [24, 25, 26, 27] (by decide +kernel) (by decide +kernel)
set_option maxRecDepth 20000 in
theorem gX7_turn_J6_bitCount_0f7a4 : GoodIn wsX7_turn (va_wsS RX7 178 yJ6_bitCount_0f7a4 wsJ6_bitCount_0f7a4) := goodIn_app (goodIn_of _ (by decide +kernel)) ggX7_turn_J6_bitCount_0f7a4
theorem dX7_turn_0 : decode cX7_turn 0 = .ok (.aload_n 0, 1) := by decide +kernel
theorem dX7_turn_1 : decode cX7_turn 1 = .ok (.getfield 41, 3) := by decide +kernel
theorem dX7_turn_4 : decode cX7_turn 4 = .ok (.aload_n 0, 1) := by decide +kernel
theorem dX7_turn_5 : decode cX7_turn 5 = .ok (.getfield 34, 3) := by decide +kernel
theorem dX7_turn_8 : decode cX7_turn 8 = .ok (.invokevirtual 167, 3) := by decide +kernel
theorem dX7_turn_11 : decode cX7_turn 11 = .ok (.aload_n 0, 1) := by decide +kernel
theorem dX7_turn_12 : decode cX7_turn 12 = .ok (.getfield 34, 3) := by decide +kernel
theorem dX7_turn_15 : decode cX7_turn 15 = .ok (.getfield 113, 3) := by decide +kernel
theorem dX7_turn_18 : decode cX7_turn 18 = .ok (.iload_n 1, 1) := by decide +kernel
theorem dX7_turn_19 : decode cX7_turn 19 = .ok (.dup2, 1) := by decide +kernel
theorem dX7_turn_20 : decode cX7_turn 20 = .ok (.iaload, 1) := by decide +kernel
theorem dX7_turn_21 : decode cX7_turn 21 = .ok (.iconst 1, 1) := by decide +kernel
theorem dX7_turn_22 : decode cX7_turn 22 = .ok (.iload_n 2, 1) := by decide +kernel
theorem dX7_turn_23 : decode cX7_turn 23 = .ok (.ishl, 1) := by decide +kernel
theorem dX7_turn_24 : decode cX7_turn 24 = .ok (.ixor, 1) := by decide +kernel
theorem dX7_turn_25 : decode cX7_turn 25 = .ok (.iastore, 1) := by decide +kernel
theorem dX7_turn_26 : decode cX7_turn 26 = .ok (.aload_n 0, 1) := by decide +kernel
theorem dX7_turn_27 : decode cX7_turn 27 = .ok (.getfield 34, 3) := by decide +kernel
theorem dX7_turn_30 : decode cX7_turn 30 = .ok (.getfield 113, 3) := by decide +kernel
theorem dX7_turn_33 : decode cX7_turn 33 = .ok (.iload_n 1, 1) := by decide +kernel
theorem dX7_turn_34 : decode cX7_turn 34 = .ok (.iaload, 1) := by decide +kernel
theorem dX7_turn_35 : decode cX7_turn 35 = .ok (.invokestatic 178, 3) := by decide +kernel
theorem dX7_turn_38 : decode cX7_turn 38 = .ok (.ireturn, 1) := by decide +kernel
set_option maxRecDepth 20000 in
theorem ggX7_canBeDone_X4_actsThatAre : GoodIn wsX7_canBeDone wsX4_actsThatAre := goodIn_r _ [9, 10, 11, 12, 13, 14, 8, 15, 16, 45, 46, 31, 32, 33, 34, 35, 36, 37, 38, 39, 40, 41, 42, 43, 44] (by decide +kernel) (by decide +kernel)
set_option maxRecDepth 20000 in
theorem gX7_canBeDone_X4_actsThatAre : GoodIn wsX7_canBeDone (wsV RX7 175 RX4 yX4_actsThatAre wsX4_actsThatAre) := goodIn_app (goodIn_of _ (by decide +kernel)) ggX7_canBeDone_X4_actsThatAre
set_option maxRecDepth 20000 in
theorem ggX7_canBeDone_X7_bit : GoodIn wsX7_canBeDone wsX7_bit := goodIn_r _ [20] (by decide +kernel) (by decide +kernel)
set_option maxRecDepth 20000 in
theorem gX7_canBeDone_X7_bit : GoodIn wsX7_canBeDone (va_wsS RX7 116 yX7_bit wsX7_bit) := goodIn_app (goodIn_of _ (by decide +kernel)) ggX7_canBeDone_X7_bit
theorem dX7_canBeDone_0 : decode cX7_canBeDone 0 = .ok (.aload_n 0, 1) := by decide +kernel
theorem dX7_canBeDone_1 : decode cX7_canBeDone 1 = .ok (.getfield 34, 3) := by decide +kernel
theorem dX7_canBeDone_4 : decode cX7_canBeDone 4 = .ok (.iconst 2, 1) := by decide +kernel
theorem dX7_canBeDone_5 : decode cX7_canBeDone 5 = .ok (.invokevirtual 175, 3) := by decide +kernel
theorem dX7_canBeDone_8 : decode cX7_canBeDone 8 = .ok (.istore_n 2, 1) := by decide +kernel
theorem dX7_canBeDone_9 : decode cX7_canBeDone 9 = .ok (.iload_n 1, 1) := by decide +kernel
theorem dX7_canBeDone_10 : decode cX7_canBeDone 10 = .ok (.iload_n 2, 1) := by decide +kernel
theorem dX7_canBeDone_11 : decode cX7_canBeDone 11 = .ok (.aload_n 0, 1) := by decide +kernel
theorem dX7_canBeDone_12 : decode cX7_canBeDone 12 = .ok (.getfield 34, 3) := by decide +kernel
theorem dX7_canBeDone_15 : decode cX7_canBeDone 15 = .ok (.iconst 3, 1) := by decide +kernel
theorem dX7_canBeDone_16 : decode cX7_canBeDone 16 = .ok (.invokevirtual 175, 3) := by decide +kernel
theorem dX7_canBeDone_19 : decode cX7_canBeDone 19 = .ok (.ior, 1) := by decide +kernel
theorem dX7_canBeDone_20 : decode cX7_canBeDone 20 = .ok (.iand, 1) := by decide +kernel
theorem dX7_canBeDone_21 : decode cX7_canBeDone 21 = .ok (.ifCond .eq 5, 3) := by decide +kernel
theorem dX7_canBeDone_24 : decode cX7_canBeDone 24 = .ok (.iconst 0, 1) := by decide +kernel
theorem dX7_canBeDone_25 : decode cX7_canBeDone 25 = .ok (.ireturn, 1) := by decide +kernel
theorem dX7_canBeDone_26 : decode cX7_canBeDone 26 = .ok (.iconst 0, 1) := by decide +kernel
theorem dX7_canBeDone_27 : decode cX7_canBeDone 27 = .ok (.istore_n 3, 1) := by decide +kernel
theorem dX7_canBeDone_28 : decode cX7_canBeDone 28 = .ok (.iload_n 3, 1) := by decide +kernel
theorem dX7_canBeDone_29 : decode cX7_canBeDone 29 = .ok (.aload_n 0, 1) := by decide +kernel
theorem dX7_canBeDone_30 : decode cX7_canBeDone 30 = .ok (.getfield 16, 3) := by decide +kernel
theorem dX7_canBeDone_33 : decode cX7_canBeDone 33 = .ok (.getfield 129, 3) := by decide +kernel
theorem dX7_canBeDone_36 : decode cX7_canBeDone 36 = .ok (.if_icmp .ge 49, 3) := by decide +kernel
theorem dX7_canBeDone_39 : decode cX7_canBeDone 39 = .ok (.aload_n 0, 1) := by decide +kernel
theorem dX7_canBeDone_40 : decode cX7_canBeDone 40 = .ok (.getfield 16, 3) := by decide +kernel
theorem dX7_canBeDone_43 : decode cX7_canBeDone 43 = .ok (.getfield 141, 3) := by decide +kernel
theorem dX7_canBeDone_46 : decode cX7_canBeDone 46 = .ok (.iload_n 3, 1) := by decide +kernel
theorem dX7_canBeDone_47 : decode cX7_canBeDone 47 = .ok (.iaload, 1) := by decide +kernel
theorem dX7_canBeDone_48 : decode cX7_canBeDone 48 = .ok (.istore 4, 2) := by decide +kernel
theorem dX7_canBeDone_50 : decode cX7_canBeDone 50 = .ok (.iload_n 1, 1) := by decide +kernel
theorem dX7_canBeDone_51 : decode cX7_canBeDone 51 = .ok (.iload_n 3, 1) := by decide +kernel
theorem dX7_canBeDone_52 : decode cX7_canBeDone 52 = .ok (.invokestatic 116, 3) := by decide +kernel
theorem dX7_canBeDone_55 : decode cX7_canBeDone 55 = .ok (.iconst 1, 1) := by decide +kernel
theorem dX7_canBeDone_56 : decode cX7_canBeDone 56 = .ok (.if_icmp .ne 23, 3) := by decide +kernel
theorem dX7_canBeDone_59 : decode cX7_canBeDone 59 = .ok (.iload 4, 2) := by decide +kernel
theorem dX7_canBeDone_61 : decode cX7_canBeDone 61 = .ok (.bipush 9, 2) := by decide +kernel
theorem dX7_canBeDone_63 : decode cX7_canBeDone 63 = .ok (.if_icmp .eq 16, 3) := by decide +kernel
theorem dX7_canBeDone_66 : decode cX7_canBeDone 66 = .ok (.iload_n 1, 1) := by decide +kernel
theorem dX7_canBeDone_67 : decode cX7_canBeDone 67 = .ok (.iload_n 2, 1) := by decide +kernel
theorem dX7_canBeDone_68 : decode cX7_canBeDone 68 = .ok (.ior, 1) := by decide +kernel
theorem dX7_canBeDone_69 : decode cX7_canBeDone 69 = .ok (.iload 4, 2) := by decide +kernel
theorem dX7_canBeDone_71 : decode cX7_canBeDone 71 = .ok (.invokestatic 116, 3) := by decide +kernel
theorem dX7_canBeDone_74 : decode cX7_canBeDone 74 = .ok (.ifCond .ne 5, 3) := by decide +kernel
theorem dX7_canBeDone_77 : decode cX7_canBeDone 77 = .ok (.iconst 0, 1) := by decide +kernel
theorem dX7_canBeDone_78 : decode cX7_canBeDone 78 = .ok (.ireturn, 1) := by decide +kernel
theorem dX7_canBeDone_79 : decode cX7_canBeDone 79 = .ok (.iinc 3 1, 3) := by decide +kernel
theorem dX7_canBeDone_82 : decode cX7_canBeDone 82 = .ok (.goto (-54), 3) := by decide +kernel
theorem dX7_canBeDone_85 : decode cX7_canBeDone 85 = .ok (.iconst 1, 1) := by decide +kernel
theorem dX7_canBeDone_86 : decode cX7_canBeDone 86 = .ok (.ireturn, 1) := by decide +kernel
set_option maxRecDepth 20000 in
theorem ggX7_candleMark_X4_left : GoodIn wsX7_candleMark wsX4_left := goodIn_r _ [7, 8, 19, 20] (by decide +kernel) (by decide +kernel)
set_option maxRecDepth 20000 in
theorem gX7_candleMark_X4_left : GoodIn wsX7_candleMark (wsV RX7 107 RX4 yX4_left wsX4_left) := goodIn_app (goodIn_of _ (by decide +kernel)) ggX7_candleMark_X4_left
theorem dX7_candleMark_0 : decode cX7_candleMark 0 = .ok (.aload_n 0, 1) := by decide +kernel
theorem dX7_candleMark_1 : decode cX7_candleMark 1 = .ok (.dup, 1) := by decide +kernel
theorem dX7_candleMark_2 : decode cX7_candleMark 2 = .ok (.getfield 278, 3) := by decide +kernel
theorem dX7_candleMark_5 : decode cX7_candleMark 5 = .ok (.lconst 1, 1) := by decide +kernel
theorem dX7_candleMark_6 : decode cX7_candleMark 6 = .ok (.ladd, 1) := by decide +kernel
theorem dX7_candleMark_7 : decode cX7_candleMark 7 = .ok (.putfield 278, 3) := by decide +kernel
theorem dX7_candleMark_10 : decode cX7_candleMark 10 = .ok (.aload_n 0, 1) := by decide +kernel
theorem dX7_candleMark_11 : decode cX7_candleMark 11 = .ok (.getfield 34, 3) := by decide +kernel
theorem dX7_candleMark_14 : decode cX7_candleMark 14 = .ok (.iload_n 1, 1) := by decide +kernel
theorem dX7_candleMark_15 : decode cX7_candleMark 15 = .ok (.invokevirtual 107, 3) := by decide +kernel
theorem dX7_candleMark_18 : decode cX7_candleMark 18 = .ok (.ireturn, 1) := by decide +kernel
set_option maxRecDepth 20000 in
theorem ggX7_tallowMark_X7_candleMark : GoodIn wsX7_tallowMark wsX7_candleMark := goodIn_r _ [9, 1, 10, 11, 12, 13, 14, 15, 16, 17, 18, 19, 20, 21, 22, 23, 24, 25, 26, 41, 42] (by decide +kernel) (by decide +kernel)
set_option maxRecDepth 20000 in
theorem gX7_tallowMark_X7_candleMark : GoodIn wsX7_tallowMark (wsV RX7 250 RX7 yX7_candleMark wsX7_candleMark) := goodIn_app (goodIn_of _ (by decide +kernel)) ggX7_tallowMark_X7_candleMark
theorem dX7_tallowMark_0 : decode cX7_tallowMark 0 = .ok (.aload_n 0, 1) := by decide +kernel
theorem dX7_tallowMark_1 : decode cX7_tallowMark 1 = .ok (.dup, 1) := by decide +kernel
theorem dX7_tallowMark_2 : decode cX7_tallowMark 2 = .ok (.getfield 278, 3) := by decide +kernel
theorem dX7_tallowMark_5 : decode cX7_tallowMark 5 = .ok (.ldc2_w 282, 3) := by decide +kernel
theorem dX7_tallowMark_8 : decode cX7_tallowMark 8 = .ok (.ladd, 1) := by decide +kernel
theorem dX7_tallowMark_9 : decode cX7_tallowMark 9 = .ok (.putfield 278, 3) := by decide +kernel
theorem dX7_tallowMark_12 : decode cX7_tallowMark 12 = .ok (.aload_n 0, 1) := by decide +kernel
theorem dX7_tallowMark_13 : decode cX7_tallowMark 13 = .ok (.iload_n 1, 1) := by decide +kernel
theorem dX7_tallowMark_14 : decode cX7_tallowMark 14 = .ok (.invokevirtual 250, 3) := by decide +kernel
theorem dX7_tallowMark_17 : decode cX7_tallowMark 17 = .ok (.aload_n 0, 1) := by decide +kernel
theorem dX7_tallowMark_18 : decode cX7_tallowMark 18 = .ok (.getfield 16, 3) := by decide +kernel
theorem dX7_tallowMark_21 : decode cX7_tallowMark 21 = .ok (.getfield 103, 3) := by decide +kernel
theorem dX7_tallowMark_24 : decode cX7_tallowMark 24 = .ok (.iload_n 1, 1) := by decide +kernel
theorem dX7_tallowMark_25 : decode cX7_tallowMark 25 = .ok (.iaload, 1) := by decide +kernel
theorem dX7_tallowMark_26 : decode cX7_tallowMark 26 = .ok (.iadd, 1) := by decide +kernel
theorem dX7_tallowMark_27 : decode cX7_tallowMark 27 = .ok (.ireturn, 1) := by decide +kernel
set_option maxRecDepth 20000 in
theorem ggX7_beeswaxMark_X7_candleMark : GoodIn wsX7_beeswaxMark wsX7_candleMark := goodIn_r _ [8, 1, 3, 9, 10, 11, 12, 13, 14, 19, 20, 21, 22, 23, 24, 25, 26, 27, 28, 29, 30] (by decide +kernel) (by decide +kernel)
set_option maxRecDepth 20000 in
theorem gX7_beeswaxMark_X7_candleMark : GoodIn wsX7_beeswaxMark (wsV RX7 250 RX7 yX7_candleMark wsX7_candleMark) := goodIn_app (goodIn_of _ (by decide +kernel)) ggX7_beeswaxMark_X7_candleMark
set_option maxRecDepth 20000 in
theorem ggX7_beeswaxMark_X4_roomOf : GoodIn wsX7_beeswaxMark wsX4_roomOf := goodIn_r _ [18, 14, 29, 30] (by decide +kernel) (by decide +kernel)
set_option maxRecDepth 20000 in
theorem gX7_beeswaxMark_X4_roomOf : GoodIn wsX7_beeswaxMark (wsV RX7 110 RX4 yX4_roomOf wsX4_roomOf) := goodIn_app (goodIn_of _ (by decide +kernel)) ggX7_beeswaxMark_X4_roomOf
theorem dX7_beeswaxMark_0 : decode cX7_beeswaxMark 0 = .ok (.aload_n 0, 1) := by decide +kernel
theorem dX7_beeswaxMark_1 : decode cX7_beeswaxMark 1 = .ok (.dup, 1) := by decide +kernel
theorem dX7_beeswaxMark_2 : decode cX7_beeswaxMark 2 = .ok (.getfield 278, 3) := by decide +kernel
theorem dX7_beeswaxMark_5 : decode cX7_beeswaxMark 5 = .ok (.ldc2_w 284, 3) := by decide +kernel
theorem dX7_beeswaxMark_8 : decode cX7_beeswaxMark 8 = .ok (.ladd, 1) := by decide +kernel
theorem dX7_beeswaxMark_9 : decode cX7_beeswaxMark 9 = .ok (.putfield 278, 3) := by decide +kernel
theorem dX7_beeswaxMark_12 : decode cX7_beeswaxMark 12 = .ok (.aload_n 0, 1) := by decide +kernel
theorem dX7_beeswaxMark_13 : decode cX7_beeswaxMark 13 = .ok (.iload_n 1, 1) := by decide +kernel
theorem dX7_beeswaxMark_14 : decode cX7_beeswaxMark 14 = .ok (.invokevirtual 250, 3) := by decide +kernel
theorem dX7_beeswaxMark_17 : decode cX7_beeswaxMark 17 = .ok (.aload_n 0, 1) := by decide +kernel
theorem dX7_beeswaxMark_18 : decode cX7_beeswaxMark 18 = .ok (.getfield 34, 3) := by decide +kernel
theorem dX7_beeswaxMark_21 : decode cX7_beeswaxMark 21 = .ok (.iload_n 1, 1) := by decide +kernel
theorem dX7_beeswaxMark_22 : decode cX7_beeswaxMark 22 = .ok (.invokevirtual 110, 3) := by decide +kernel
theorem dX7_beeswaxMark_25 : decode cX7_beeswaxMark 25 = .ok (.isub, 1) := by decide +kernel
theorem dX7_beeswaxMark_26 : decode cX7_beeswaxMark 26 = .ok (.ireturn, 1) := by decide +kernel
set_option maxRecDepth 20000 in
theorem ggX7_stubMark_X7_tallowMark : GoodIn wsX7_stubMark wsX7_tallowMark := goodIn_r _ [7, 1, 8, 9, 10, 11, 12, 13, 6, 14, 15, 16, 17, 18, 19, 20, 21, 22, 23, 24, 25, 26, 27, 28, 29, 30, 31, 32, 33, 34, 35, 36, 37, 38, 39, 40, 41, 42, 43, 44, 45, 46, 47] (by decide +kernel) (by decide +kernel)
set_option maxRecDepth 20000 in
theorem gX7_stubMark_X7_tallowMark : GoodIn wsX7_stubMark (wsV RX7 253 RX7 yX7_tallowMark wsX7_tallowMark) := goodIn_app (goodIn_of _ (by decide +kernel)) ggX7_stubMark_X7_tallowMark
theorem dX7_stubMark_0 : decode cX7_stubMark 0 = .ok (.aload_n 0, 1) := by decide +kernel
theorem dX7_stubMark_1 : decode cX7_stubMark 1 = .ok (.dup, 1) := by decide +kernel
theorem dX7_stubMark_2 : decode cX7_stubMark 2 = .ok (.getfield 278, 3) := by decide +kernel
theorem dX7_stubMark_5 : decode cX7_stubMark 5 = .ok (.ldc2_w 286, 3) := by decide +kernel
theorem dX7_stubMark_8 : decode cX7_stubMark 8 = .ok (.ladd, 1) := by decide +kernel
theorem dX7_stubMark_9 : decode cX7_stubMark 9 = .ok (.putfield 278, 3) := by decide +kernel
theorem dX7_stubMark_12 : decode cX7_stubMark 12 = .ok (.aload_n 0, 1) := by decide +kernel
theorem dX7_stubMark_13 : decode cX7_stubMark 13 = .ok (.iload_n 1, 1) := by decide +kernel
theorem dX7_stubMark_14 : decode cX7_stubMark 14 = .ok (.invokevirtual 253, 3) := by decide +kernel
theorem dX7_stubMark_17 : decode cX7_stubMark 17 = .ok (.iconst 2, 1) := by decide +kernel
theorem dX7_stubMark_18 : decode cX7_stubMark 18 = .ok (.imul, 1) := by decide +kernel
theorem dX7_stubMark_19 : decode cX7_stubMark 19 = .ok (.ireturn, 1) := by decide +kernel
set_option maxRecDepth 20000 in
theorem ggX7_churchMark_X7_beeswaxMark : GoodIn wsX7_churchMark wsX7_beeswaxMark := goodIn_r _ [9, 1, 10, 3, 11, 12, 13, 8, 14, 15, 16, 17, 18, 19, 20, 21, 22, 23, 24, 32, 33, 34, 35, 36, 37, 38, 39, 40, 41, 42, 43] (by decide +kernel) (by decide +kernel)
set_option maxRecDepth 20000 in
theorem gX7_churchMark_X7_beeswaxMark : GoodIn wsX7_churchMark (wsV RX7 256 RX7 yX7_beeswaxMark wsX7_beeswaxMark) := goodIn_app (goodIn_of _ (by decide +kernel)) ggX7_churchMark_X7_beeswaxMark
set_option maxRecDepth 20000 in
theorem ggX7_churchMark_J6_bitCount_0f7a4 : GoodIn wsX7_churchMark wsJ6_bitCount_0f7a4 := goodIn_r _ [28, 29, 30, 31] (by decide +kernel) (by decide +kernel)
set_option maxRecDepth 20000 in
theorem gX7_churchMark_J6_bitCount_0f7a4 : GoodIn wsX7_churchMark (va_wsS RX7 178 yJ6_bitCount_0f7a4 wsJ6_bitCount_0f7a4) := goodIn_app (goodIn_of _ (by decide +kernel)) ggX7_churchMark_J6_bitCount_0f7a4
theorem dX7_churchMark_0 : decode cX7_churchMark 0 = .ok (.aload_n 0, 1) := by decide +kernel
theorem dX7_churchMark_1 : decode cX7_churchMark 1 = .ok (.dup, 1) := by decide +kernel
theorem dX7_churchMark_2 : decode cX7_churchMark 2 = .ok (.getfield 278, 3) := by decide +kernel
theorem dX7_churchMark_5 : decode cX7_churchMark 5 = .ok (.ldc2_w 288, 3) := by decide +kernel
theorem dX7_churchMark_8 : decode cX7_churchMark 8 = .ok (.ladd, 1) := by decide +kernel
theorem dX7_churchMark_9 : decode cX7_churchMark 9 = .ok (.putfield 278, 3) := by decide +kernel
theorem dX7_churchMark_12 : decode cX7_churchMark 12 = .ok (.aload_n 0, 1) := by decide +kernel
theorem dX7_churchMark_13 : decode cX7_churchMark 13 = .ok (.iload_n 1, 1) := by decide +kernel
theorem dX7_churchMark_14 : decode cX7_churchMark 14 = .ok (.invokevirtual 256, 3) := by decide +kernel
theorem dX7_churchMark_17 : decode cX7_churchMark 17 = .ok (.aload_n 0, 1) := by decide +kernel
theorem dX7_churchMark_18 : decode cX7_churchMark 18 = .ok (.getfield 34, 3) := by decide +kernel
theorem dX7_churchMark_21 : decode cX7_churchMark 21 = .ok (.getfield 113, 3) := by decide +kernel
theorem dX7_churchMark_24 : decode cX7_churchMark 24 = .ok (.iconst 1, 1) := by decide +kernel
theorem dX7_churchMark_25 : decode cX7_churchMark 25 = .ok (.iaload, 1) := by decide +kernel
theorem dX7_churchMark_26 : decode cX7_churchMark 26 = .ok (.invokestatic 178, 3) := by decide +kernel
theorem dX7_churchMark_29 : decode cX7_churchMark 29 = .ok (.iadd, 1) := by decide +kernel
theorem dX7_churchMark_30 : decode cX7_churchMark 30 = .ok (.ireturn, 1) := by decide +kernel
set_option maxRecDepth 20000 in
theorem ggX7_lampMark_X7_candleMark : GoodIn wsX7_lampMark wsX7_candleMark := goodIn_r _ [8, 1, 3, 9, 10, 11, 12, 13, 14, 19, 20, 21, 22, 23, 24, 25, 26, 27, 28, 29, 30] (by decide +kernel) (by decide +kernel)
set_option maxRecDepth 20000 in
theorem gX7_lampMark_X7_candleMark : GoodIn wsX7_lampMark (wsV RX7 250 RX7 yX7_candleMark wsX7_candleMark) := goodIn_app (goodIn_of _ (by decide +kernel)) ggX7_lampMark_X7_candleMark
set_option maxRecDepth 20000 in
theorem ggX7_lampMark_X4_minute : GoodIn wsX7_lampMark wsX4_minute := goodIn_r _ [18, 14, 29, 30] (by decide +kernel) (by decide +kernel)
set_option maxRecDepth 20000 in
theorem gX7_lampMark_X4_minute : GoodIn wsX7_lampMark (wsV RX7 183 RX4 yX4_minute wsX4_minute) := goodIn_app (goodIn_of _ (by decide +kernel)) ggX7_lampMark_X4_minute
theorem dX7_lampMark_0 : decode cX7_lampMark 0 = .ok (.aload_n 0, 1) := by decide +kernel
theorem dX7_lampMark_1 : decode cX7_lampMark 1 = .ok (.dup, 1) := by decide +kernel
theorem dX7_lampMark_2 : decode cX7_lampMark 2 = .ok (.getfield 278, 3) := by decide +kernel
theorem dX7_lampMark_5 : decode cX7_lampMark 5 = .ok (.ldc2_w 290, 3) := by decide +kernel
theorem dX7_lampMark_8 : decode cX7_lampMark 8 = .ok (.ladd, 1) := by decide +kernel
theorem dX7_lampMark_9 : decode cX7_lampMark 9 = .ok (.putfield 278, 3) := by decide +kernel
theorem dX7_lampMark_12 : decode cX7_lampMark 12 = .ok (.aload_n 0, 1) := by decide +kernel
theorem dX7_lampMark_13 : decode cX7_lampMark 13 = .ok (.iload_n 1, 1) := by decide +kernel
theorem dX7_lampMark_14 : decode cX7_lampMark 14 = .ok (.invokevirtual 250, 3) := by decide +kernel
theorem dX7_lampMark_17 : decode cX7_lampMark 17 = .ok (.aload_n 0, 1) := by decide +kernel
theorem dX7_lampMark_18 : decode cX7_lampMark 18 = .ok (.getfield 34, 3) := by decide +kernel
theorem dX7_lampMark_21 : decode cX7_lampMark 21 = .ok (.invokevirtual 183, 3) := by decide +kernel
theorem dX7_lampMark_24 : decode cX7_lampMark 24 = .ok (.iadd, 1) := by decide +kernel
theorem dX7_lampMark_25 : decode cX7_lampMark 25 = .ok (.ireturn, 1) := by decide +kernel
theorem dX7_within_0 : decode cX7_within 0 = .ok (.iload_n 0, 1) := by decide +kernel
theorem dX7_within_1 : decode cX7_within 1 = .ok (.iload_n 1, 1) := by decide +kernel
theorem dX7_within_2 : decode cX7_within 2 = .ok (.if_icmp .lt 12, 3) := by decide +kernel
theorem dX7_within_5 : decode cX7_within 5 = .ok (.iload_n 0, 1) := by decide +kernel
theorem dX7_within_6 : decode cX7_within 6 = .ok (.iload_n 2, 1) := by decide +kernel
theorem dX7_within_7 : decode cX7_within 7 = .ok (.if_icmp .gt 7, 3) := by decide +kernel
theorem dX7_within_10 : decode cX7_within 10 = .ok (.iconst 1, 1) := by decide +kernel
theorem dX7_within_11 : decode cX7_within 11 = .ok (.goto 4, 3) := by decide +kernel
theorem dX7_within_14 : decode cX7_within 14 = .ok (.iconst 0, 1) := by decide +kernel
theorem dX7_within_15 : decode cX7_within 15 = .ok (.ireturn, 1) := by decide +kernel
theorem dX7_bit_0 : decode cX7_bit 0 = .ok (.iload_n 0, 1) := by decide +kernel
theorem dX7_bit_1 : decode cX7_bit 1 = .ok (.iload_n 1, 1) := by decide +kernel
theorem dX7_bit_2 : decode cX7_bit 2 = .ok (.ishr, 1) := by decide +kernel
theorem dX7_bit_3 : decode cX7_bit 3 = .ok (.iconst 1, 1) := by decide +kernel
theorem dX7_bit_4 : decode cX7_bit 4 = .ok (.iand, 1) := by decide +kernel
theorem dX7_bit_5 : decode cX7_bit 5 = .ok (.ireturn, 1) := by decide +kernel
set_option maxRecDepth 20000 in
theorem ggX7_sumOver_X7_bit : GoodIn wsX7_sumOver wsX7_bit := goodIn_r _ [4] (by decide +kernel) (by decide +kernel)
set_option maxRecDepth 20000 in
theorem gX7_sumOver_X7_bit : GoodIn wsX7_sumOver (va_wsS RX7 116 yX7_bit wsX7_bit) := goodIn_app (goodIn_of _ (by decide +kernel)) ggX7_sumOver_X7_bit
theorem dX7_sumOver_0 : decode cX7_sumOver 0 = .ok (.iconst 0, 1) := by decide +kernel
theorem dX7_sumOver_1 : decode cX7_sumOver 1 = .ok (.istore_n 2, 1) := by decide +kernel
theorem dX7_sumOver_2 : decode cX7_sumOver 2 = .ok (.iconst 0, 1) := by decide +kernel
theorem dX7_sumOver_3 : decode cX7_sumOver 3 = .ok (.istore_n 3, 1) := by decide +kernel
theorem dX7_sumOver_4 : decode cX7_sumOver 4 = .ok (.iload_n 3, 1) := by decide +kernel
theorem dX7_sumOver_5 : decode cX7_sumOver 5 = .ok (.aload_n 0, 1) := by decide +kernel
theorem dX7_sumOver_6 : decode cX7_sumOver 6 = .ok (.arraylength, 1) := by decide +kernel
theorem dX7_sumOver_7 : decode cX7_sumOver 7 = .ok (.if_icmp .ge 21, 3) := by decide +kernel
theorem dX7_sumOver_10 : decode cX7_sumOver 10 = .ok (.iload_n 2, 1) := by decide +kernel
theorem dX7_sumOver_11 : decode cX7_sumOver 11 = .ok (.iload_n 1, 1) := by decide +kernel
theorem dX7_sumOver_12 : decode cX7_sumOver 12 = .ok (.iload_n 3, 1) := by decide +kernel
theorem dX7_sumOver_13 : decode cX7_sumOver 13 = .ok (.invokestatic 116, 3) := by decide +kernel
theorem dX7_sumOver_16 : decode cX7_sumOver 16 = .ok (.aload_n 0, 1) := by decide +kernel
theorem dX7_sumOver_17 : decode cX7_sumOver 17 = .ok (.iload_n 3, 1) := by decide +kernel
theorem dX7_sumOver_18 : decode cX7_sumOver 18 = .ok (.iaload, 1) := by decide +kernel
theorem dX7_sumOver_19 : decode cX7_sumOver 19 = .ok (.imul, 1) := by decide +kernel
theorem dX7_sumOver_20 : decode cX7_sumOver 20 = .ok (.iadd, 1) := by decide +kernel
theorem dX7_sumOver_21 : decode cX7_sumOver 21 = .ok (.istore_n 2, 1) := by decide +kernel
theorem dX7_sumOver_22 : decode cX7_sumOver 22 = .ok (.iinc 3 1, 3) := by decide +kernel
theorem dX7_sumOver_25 : decode cX7_sumOver 25 = .ok (.goto (-21), 3) := by decide +kernel
theorem dX7_sumOver_28 : decode cX7_sumOver 28 = .ok (.iload_n 2, 1) := by decide +kernel
theorem dX7_sumOver_29 : decode cX7_sumOver 29 = .ok (.ireturn, 1) := by decide +kernel
theorem dX7_power_0 : decode cX7_power 0 = .ok (.iconst 1, 1) := by decide +kernel
theorem dX7_power_1 : decode cX7_power 1 = .ok (.istore_n 2, 1) := by decide +kernel
theorem dX7_power_2 : decode cX7_power 2 = .ok (.iconst 0, 1) := by decide +kernel
theorem dX7_power_3 : decode cX7_power 3 = .ok (.istore_n 3, 1) := by decide +kernel
theorem dX7_power_4 : decode cX7_power 4 = .ok (.iload_n 3, 1) := by decide +kernel
theorem dX7_power_5 : decode cX7_power 5 = .ok (.iload_n 1, 1) := by decide +kernel
theorem dX7_power_6 : decode cX7_power 6 = .ok (.if_icmp .ge 13, 3) := by decide +kernel
theorem dX7_power_9 : decode cX7_power 9 = .ok (.iload_n 2, 1) := by decide +kernel
theorem dX7_power_10 : decode cX7_power 10 = .ok (.iload_n 0, 1) := by decide +kernel
theorem dX7_power_11 : decode cX7_power 11 = .ok (.imul, 1) := by decide +kernel
theorem dX7_power_12 : decode cX7_power 12 = .ok (.istore_n 2, 1) := by decide +kernel
theorem dX7_power_13 : decode cX7_power 13 = .ok (.iinc 3 1, 3) := by decide +kernel
theorem dX7_power_16 : decode cX7_power 16 = .ok (.goto (-12), 3) := by decide +kernel
theorem dX7_power_19 : decode cX7_power 19 = .ok (.iload_n 2, 1) := by decide +kernel
theorem dX7_power_20 : decode cX7_power 20 = .ok (.ireturn, 1) := by decide +kernel
theorem dX7_greatestDivisor_0 : decode cX7_greatestDivisor 0 = .ok (.iload_n 0, 1) := by decide +kernel
theorem dX7_greatestDivisor_1 : decode cX7_greatestDivisor 1 = .ok (.istore_n 2, 1) := by decide +kernel
theorem dX7_greatestDivisor_2 : decode cX7_greatestDivisor 2 = .ok (.iload_n 1, 1) := by decide +kernel
theorem dX7_greatestDivisor_3 : decode cX7_greatestDivisor 3 = .ok (.istore_n 3, 1) := by decide +kernel
theorem dX7_greatestDivisor_4 : decode cX7_greatestDivisor 4 = .ok (.iconst 0, 1) := by decide +kernel
theorem dX7_greatestDivisor_5 : decode cX7_greatestDivisor 5 = .ok (.istore 4, 2) := by decide +kernel
theorem dX7_greatestDivisor_7 : decode cX7_greatestDivisor 7 = .ok (.iload 4, 2) := by decide +kernel
theorem dX7_greatestDivisor_9 : decode cX7_greatestDivisor 9 = .ok (.bipush 64, 2) := by decide +kernel
theorem dX7_greatestDivisor_11 : decode cX7_greatestDivisor 11 = .ok (.if_icmp .ge 23, 3) := by decide +kernel
theorem dX7_greatestDivisor_14 : decode cX7_greatestDivisor 14 = .ok (.iload_n 3, 1) := by decide +kernel
theorem dX7_greatestDivisor_15 : decode cX7_greatestDivisor 15 = .ok (.ifCond .eq 19, 3) := by decide +kernel
theorem dX7_greatestDivisor_18 : decode cX7_greatestDivisor 18 = .ok (.iload_n 2, 1) := by decide +kernel
theorem dX7_greatestDivisor_19 : decode cX7_greatestDivisor 19 = .ok (.iload_n 3, 1) := by decide +kernel
theorem dX7_greatestDivisor_20 : decode cX7_greatestDivisor 20 = .ok (.irem, 1) := by decide +kernel
theorem dX7_greatestDivisor_21 : decode cX7_greatestDivisor 21 = .ok (.istore 5, 2) := by decide +kernel
theorem dX7_greatestDivisor_23 : decode cX7_greatestDivisor 23 = .ok (.iload_n 3, 1) := by decide +kernel
theorem dX7_greatestDivisor_24 : decode cX7_greatestDivisor 24 = .ok (.istore_n 2, 1) := by decide +kernel
theorem dX7_greatestDivisor_25 : decode cX7_greatestDivisor 25 = .ok (.iload 5, 2) := by decide +kernel
theorem dX7_greatestDivisor_27 : decode cX7_greatestDivisor 27 = .ok (.istore_n 3, 1) := by decide +kernel
theorem dX7_greatestDivisor_28 : decode cX7_greatestDivisor 28 = .ok (.iinc 4 1, 3) := by decide +kernel
theorem dX7_greatestDivisor_31 : decode cX7_greatestDivisor 31 = .ok (.goto (-24), 3) := by decide +kernel
theorem dX7_greatestDivisor_34 : decode cX7_greatestDivisor 34 = .ok (.iload_n 2, 1) := by decide +kernel
theorem dX7_greatestDivisor_35 : decode cX7_greatestDivisor 35 = .ok (.ireturn, 1) := by decide +kernel
theorem dX8_in_0 : decode cX8_in 0 = .ok (.lload_n 0, 1) := by decide +kernel
theorem dX8_in_1 : decode cX8_in 1 = .ok (.lload_n 2, 1) := by decide +kernel
theorem dX8_in_2 : decode cX8_in 2 = .ok (.lcmp, 1) := by decide +kernel
theorem dX8_in_3 : decode cX8_in 3 = .ok (.ifCond .lt 14, 3) := by decide +kernel
theorem dX8_in_6 : decode cX8_in 6 = .ok (.lload_n 0, 1) := by decide +kernel
