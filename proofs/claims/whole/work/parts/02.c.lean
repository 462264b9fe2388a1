set_option maxRecDepth 20000 in
theorem gX6_readsNumber_X6_step : GoodIn wsX6_readsNumber (wsV RX6 38 RX6 yX6_step wsX6_step) := goodIn_app (goodIn_of _ (by decide +kernel)) ggX6_readsNumber_X6_step
set_option maxRecDepth 20000 in
theorem ggX6_readsNumber_X7_within : GoodIn wsX6_readsNumber wsX7_within := goodIn_r _ [22] (by decide +kernel) (by decide +kernel)
set_option maxRecDepth 20000 in
theorem gX6_readsNumber_X7_within_n116 : GoodIn wsX6_readsNumber (wsX7_within) := ggX6_readsNumber_X7_within
theorem dX6_readsNumber_0 : decode cX6_readsNumber 0 = .ok (.aload_n 0, 1) := by decide +kernel
theorem dX6_readsNumber_1 : decode cX6_readsNumber 1 = .ok (.invokevirtual 38, 3) := by decide +kernel
theorem dX6_readsNumber_4 : decode cX6_readsNumber 4 = .ok (.aload_n 0, 1) := by decide +kernel
theorem dX6_readsNumber_5 : decode cX6_readsNumber 5 = .ok (.getfield 41, 3) := by decide +kernel
theorem dX6_readsNumber_8 : decode cX6_readsNumber 8 = .ok (.iconst 2, 1) := by decide +kernel
theorem dX6_readsNumber_9 : decode cX6_readsNumber 9 = .ok (.if_icmp .ne 19, 3) := by decide +kernel
theorem dX6_readsNumber_12 : decode cX6_readsNumber 12 = .ok (.aload_n 0, 1) := by decide +kernel
theorem dX6_readsNumber_13 : decode cX6_readsNumber 13 = .ok (.getfield 48, 3) := by decide +kernel
theorem dX6_readsNumber_16 : decode cX6_readsNumber 16 = .ok (.iload_n 1, 1) := by decide +kernel
theorem dX6_readsNumber_17 : decode cX6_readsNumber 17 = .ok (.iload_n 2, 1) := by decide +kernel
theorem dX6_readsNumber_18 : decode cX6_readsNumber 18 = .ok (.invokestatic 116, 3) := by decide +kernel
theorem dX6_readsNumber_21 : decode cX6_readsNumber 21 = .ok (.ifCond .eq 7, 3) := by decide +kernel
theorem dX6_readsNumber_24 : decode cX6_readsNumber 24 = .ok (.iconst 1, 1) := by decide +kernel
theorem dX6_readsNumber_25 : decode cX6_readsNumber 25 = .ok (.goto 4, 3) := by decide +kernel
theorem dX6_readsNumber_28 : decode cX6_readsNumber 28 = .ok (.iconst 0, 1) := by decide +kernel
theorem dX6_readsNumber_29 : decode cX6_readsNumber 29 = .ok (.ireturn, 1) := by decide +kernel
set_option maxRecDepth 20000 in
theorem ggX6_readsEnd_X6_step : GoodIn wsX6_readsEnd wsX6_step := goodIn_r _ [6, 7, 8, 9, 10, 1, 11, 12, 13, 14, 5, 15, 16, 17, 18, 19, 20, 21, 22, 23, 24, 25, 26] (by decide +kernel) (by decide +kernel)
set_option maxRecDepth 20000 in
theorem gX6_readsEnd_X6_step : GoodIn wsX6_readsEnd (wsV RX6 38 RX6 yX6_step wsX6_step) := goodIn_app (goodIn_of _ (by decide +kernel)) ggX6_readsEnd_X6_step
theorem dX6_readsEnd_0 : decode cX6_readsEnd 0 = .ok (.aload_n 0, 1) := by decide +kernel
theorem dX6_readsEnd_1 : decode cX6_readsEnd 1 = .ok (.invokevirtual 38, 3) := by decide +kernel
theorem dX6_readsEnd_4 : decode cX6_readsEnd 4 = .ok (.aload_n 0, 1) := by decide +kernel
theorem dX6_readsEnd_5 : decode cX6_readsEnd 5 = .ok (.getfield 41, 3) := by decide +kernel
theorem dX6_readsEnd_8 : decode cX6_readsEnd 8 = .ok (.iconst 3, 1) := by decide +kernel
theorem dX6_readsEnd_9 : decode cX6_readsEnd 9 = .ok (.if_icmp .ne 7, 3) := by decide +kernel
theorem dX6_readsEnd_12 : decode cX6_readsEnd 12 = .ok (.iconst 1, 1) := by decide +kernel
theorem dX6_readsEnd_13 : decode cX6_readsEnd 13 = .ok (.goto 4, 3) := by decide +kernel
theorem dX6_readsEnd_16 : decode cX6_readsEnd 16 = .ok (.iconst 0, 1) := by decide +kernel
theorem dX6_readsEnd_17 : decode cX6_readsEnd 17 = .ok (.ireturn, 1) := by decide +kernel
set_option maxRecDepth 20000 in
theorem ggX6_step_X6_skipRun : GoodIn wsX6_step wsX6_skipRun := goodIn_r _ [11, 1, 4, 6, 16, 17, 18, 19, 20, 21, 22] (by decide +kernel) (by decide +kernel)
set_option maxRecDepth 20000 in
theorem gX6_step_X6_skipRun : GoodIn wsX6_step (wsV RX6 120 RX6 yX6_skipRun wsX6_skipRun) := goodIn_app (goodIn_of _ (by decide +kernel)) ggX6_step_X6_skipRun
set_option maxRecDepth 20000 in
theorem ggX6_step_X6_takeNumber : GoodIn wsX6_step wsX6_takeNumber := goodIn_r _ [15, 5, 6, 2, 3, 16, 17, 18, 19, 20, 21, 22] (by decide +kernel) (by decide +kernel)
set_option maxRecDepth 20000 in
theorem gX6_step_X6_takeNumber : GoodIn wsX6_step (wsV RX6 127 RX6 yX6_takeNumber wsX6_takeNumber) := goodIn_app (goodIn_of _ (by decide +kernel)) ggX6_step_X6_takeNumber
theorem dX6_step_0 : decode cX6_step 0 = .ok (.aload_n 0, 1) := by decide +kernel
theorem dX6_step_1 : decode cX6_step 1 = .ok (.bipush 32, 2) := by decide +kernel
theorem dX6_step_3 : decode cX6_step 3 = .ok (.bipush 32, 2) := by decide +kernel
theorem dX6_step_5 : decode cX6_step 5 = .ok (.invokevirtual 120, 3) := by decide +kernel
theorem dX6_step_8 : decode cX6_step 8 = .ok (.aload_n 0, 1) := by decide +kernel
theorem dX6_step_9 : decode cX6_step 9 = .ok (.aload_n 0, 1) := by decide +kernel
theorem dX6_step_10 : decode cX6_step 10 = .ok (.getfield 32, 3) := by decide +kernel
theorem dX6_step_13 : decode cX6_step 13 = .ok (.putfield 124, 3) := by decide +kernel
theorem dX6_step_16 : decode cX6_step 16 = .ok (.aload_n 0, 1) := by decide +kernel
theorem dX6_step_17 : decode cX6_step 17 = .ok (.iconst 0, 1) := by decide +kernel
theorem dX6_step_18 : decode cX6_step 18 = .ok (.putfield 48, 3) := by decide +kernel
theorem dX6_step_21 : decode cX6_step 21 = .ok (.aload_n 0, 1) := by decide +kernel
theorem dX6_step_22 : decode cX6_step 22 = .ok (.getfield 32, 3) := by decide +kernel
theorem dX6_step_25 : decode cX6_step 25 = .ok (.aload_n 0, 1) := by decide +kernel
theorem dX6_step_26 : decode cX6_step 26 = .ok (.getfield 28, 3) := by decide +kernel
theorem dX6_step_29 : decode cX6_step 29 = .ok (.if_icmp .lt 9, 3) := by decide +kernel
theorem dX6_step_32 : decode cX6_step 32 = .ok (.aload_n 0, 1) := by decide +kernel
theorem dX6_step_33 : decode cX6_step 33 = .ok (.iconst 0, 1) := by decide +kernel
theorem dX6_step_34 : decode cX6_step 34 = .ok (.putfield 41, 3) := by decide +kernel
theorem dX6_step_37 : decode cX6_step 37 = .ok (.return_, 1) := by decide +kernel
theorem dX6_step_38 : decode cX6_step 38 = .ok (.aload_n 0, 1) := by decide +kernel
theorem dX6_step_39 : decode cX6_step 39 = .ok (.getfield 18, 3) := by decide +kernel
theorem dX6_step_42 : decode cX6_step 42 = .ok (.aload_n 0, 1) := by decide +kernel
theorem dX6_step_43 : decode cX6_step 43 = .ok (.getfield 32, 3) := by decide +kernel
theorem dX6_step_46 : decode cX6_step 46 = .ok (.baload, 1) := by decide +kernel
theorem dX6_step_47 : decode cX6_step 47 = .ok (.istore_n 1, 1) := by decide +kernel
theorem dX6_step_48 : decode cX6_step 48 = .ok (.aload_n 0, 1) := by decide +kernel
theorem dX6_step_49 : decode cX6_step 49 = .ok (.dup, 1) := by decide +kernel
theorem dX6_step_50 : decode cX6_step 50 = .ok (.getfield 32, 3) := by decide +kernel
theorem dX6_step_53 : decode cX6_step 53 = .ok (.iconst 1, 1) := by decide +kernel
theorem dX6_step_54 : decode cX6_step 54 = .ok (.iadd, 1) := by decide +kernel
theorem dX6_step_55 : decode cX6_step 55 = .ok (.putfield 32, 3) := by decide +kernel
theorem dX6_step_58 : decode cX6_step 58 = .ok (.iload_n 1, 1) := by decide +kernel
theorem dX6_step_59 : decode cX6_step 59 = .ok (.bipush 97, 2) := by decide +kernel
theorem dX6_step_61 : decode cX6_step 61 = .ok (.if_icmp .lt 47, 3) := by decide +kernel
theorem dX6_step_64 : decode cX6_step 64 = .ok (.iload_n 1, 1) := by decide +kernel
theorem dX6_step_65 : decode cX6_step 65 = .ok (.bipush 122, 2) := by decide +kernel
theorem dX6_step_67 : decode cX6_step 67 = .ok (.if_icmp .gt 41, 3) := by decide +kernel
theorem dX6_step_70 : decode cX6_step 70 = .ok (.aload_n 0, 1) := by decide +kernel
theorem dX6_step_71 : decode cX6_step 71 = .ok (.bipush 97, 2) := by decide +kernel
theorem dX6_step_73 : decode cX6_step 73 = .ok (.bipush 122, 2) := by decide +kernel
theorem dX6_step_75 : decode cX6_step 75 = .ok (.invokevirtual 120, 3) := by decide +kernel
theorem dX6_step_78 : decode cX6_step 78 = .ok (.aload_n 0, 1) := by decide +kernel
theorem dX6_step_79 : decode cX6_step 79 = .ok (.iconst 1, 1) := by decide +kernel
theorem dX6_step_80 : decode cX6_step 80 = .ok (.putfield 41, 3) := by decide +kernel
theorem dX6_step_83 : decode cX6_step 83 = .ok (.aload_n 0, 1) := by decide +kernel
theorem dX6_step_84 : decode cX6_step 84 = .ok (.aload_n 0, 1) := by decide +kernel
theorem dX6_step_85 : decode cX6_step 85 = .ok (.getfield 32, 3) := by decide +kernel
theorem dX6_step_88 : decode cX6_step 88 = .ok (.aload_n 0, 1) := by decide +kernel
theorem dX6_step_89 : decode cX6_step 89 = .ok (.getfield 124, 3) := by decide +kernel
theorem dX6_step_92 : decode cX6_step 92 = .ok (.iconst 1, 1) := by decide +kernel
theorem dX6_step_93 : decode cX6_step 93 = .ok (.iadd, 1) := by decide +kernel
theorem dX6_step_94 : decode cX6_step 94 = .ok (.if_icmp .ne 7, 3) := by decide +kernel
theorem dX6_step_97 : decode cX6_step 97 = .ok (.iload_n 1, 1) := by decide +kernel
theorem dX6_step_98 : decode cX6_step 98 = .ok (.goto 4, 3) := by decide +kernel
theorem dX6_step_101 : decode cX6_step 101 = .ok (.iconst 0, 1) := by decide +kernel
theorem dX6_step_102 : decode cX6_step 102 = .ok (.putfield 48, 3) := by decide +kernel
theorem dX6_step_105 : decode cX6_step 105 = .ok (.goto 58, 3) := by decide +kernel
theorem dX6_step_108 : decode cX6_step 108 = .ok (.iload_n 1, 1) := by decide +kernel
theorem dX6_step_109 : decode cX6_step 109 = .ok (.bipush 48, 2) := by decide +kernel
theorem dX6_step_111 : decode cX6_step 111 = .ok (.if_icmp .lt 37, 3) := by decide +kernel
theorem dX6_step_114 : decode cX6_step 114 = .ok (.iload_n 1, 1) := by decide +kernel
theorem dX6_step_115 : decode cX6_step 115 = .ok (.bipush 57, 2) := by decide +kernel
theorem dX6_step_117 : decode cX6_step 117 = .ok (.if_icmp .gt 31, 3) := by decide +kernel
theorem dX6_step_120 : decode cX6_step 120 = .ok (.aload_n 0, 1) := by decide +kernel
theorem dX6_step_121 : decode cX6_step 121 = .ok (.bipush 48, 2) := by decide +kernel
theorem dX6_step_123 : decode cX6_step 123 = .ok (.bipush 57, 2) := by decide +kernel
theorem dX6_step_125 : decode cX6_step 125 = .ok (.invokevirtual 120, 3) := by decide +kernel
theorem dX6_step_128 : decode cX6_step 128 = .ok (.aload_n 0, 1) := by decide +kernel
theorem dX6_step_129 : decode cX6_step 129 = .ok (.iload_n 1, 1) := by decide +kernel
theorem dX6_step_130 : decode cX6_step 130 = .ok (.bipush 48, 2) := by decide +kernel
theorem dX6_step_132 : decode cX6_step 132 = .ok (.isub, 1) := by decide +kernel
theorem dX6_step_133 : decode cX6_step 133 = .ok (.aload_n 0, 1) := by decide +kernel
theorem dX6_step_134 : decode cX6_step 134 = .ok (.getfield 32, 3) := by decide +kernel
theorem dX6_step_137 : decode cX6_step 137 = .ok (.aload_n 0, 1) := by decide +kernel
theorem dX6_step_138 : decode cX6_step 138 = .ok (.getfield 124, 3) := by decide +kernel
theorem dX6_step_141 : decode cX6_step 141 = .ok (.isub, 1) := by decide +kernel
theorem dX6_step_142 : decode cX6_step 142 = .ok (.invokevirtual 127, 3) := by decide +kernel
theorem dX6_step_145 : decode cX6_step 145 = .ok (.goto 18, 3) := by decide +kernel
theorem dX6_step_148 : decode cX6_step 148 = .ok (.aload_n 0, 1) := by decide +kernel
theorem dX6_step_149 : decode cX6_step 149 = .ok (.iload_n 1, 1) := by decide +kernel
theorem dX6_step_150 : decode cX6_step 150 = .ok (.bipush 59, 2) := by decide +kernel
theorem dX6_step_152 : decode cX6_step 152 = .ok (.if_icmp .ne 7, 3) := by decide +kernel
theorem dX6_step_155 : decode cX6_step 155 = .ok (.iconst 3, 1) := by decide +kernel
theorem dX6_step_156 : decode cX6_step 156 = .ok (.goto 4, 3) := by decide +kernel
theorem dX6_step_159 : decode cX6_step 159 = .ok (.iconst 4, 1) := by decide +kernel
theorem dX6_step_160 : decode cX6_step 160 = .ok (.putfield 41, 3) := by decide +kernel
theorem dX6_step_163 : decode cX6_step 163 = .ok (.return_, 1) := by decide +kernel
theorem dX6_skipRun_0 : decode cX6_skipRun 0 = .ok (.aload_n 0, 1) := by decide +kernel
theorem dX6_skipRun_1 : decode cX6_skipRun 1 = .ok (.getfield 32, 3) := by decide +kernel
theorem dX6_skipRun_4 : decode cX6_skipRun 4 = .ok (.aload_n 0, 1) := by decide +kernel
theorem dX6_skipRun_5 : decode cX6_skipRun 5 = .ok (.getfield 28, 3) := by decide +kernel
theorem dX6_skipRun_8 : decode cX6_skipRun 8 = .ok (.if_icmp .ge 42, 3) := by decide +kernel
theorem dX6_skipRun_11 : decode cX6_skipRun 11 = .ok (.aload_n 0, 1) := by decide +kernel
theorem dX6_skipRun_12 : decode cX6_skipRun 12 = .ok (.getfield 18, 3) := by decide +kernel
theorem dX6_skipRun_15 : decode cX6_skipRun 15 = .ok (.aload_n 0, 1) := by decide +kernel
theorem dX6_skipRun_16 : decode cX6_skipRun 16 = .ok (.getfield 32, 3) := by decide +kernel
theorem dX6_skipRun_19 : decode cX6_skipRun 19 = .ok (.baload, 1) := by decide +kernel
theorem dX6_skipRun_20 : decode cX6_skipRun 20 = .ok (.iload_n 1, 1) := by decide +kernel
theorem dX6_skipRun_21 : decode cX6_skipRun 21 = .ok (.if_icmp .lt 29, 3) := by decide +kernel
theorem dX6_skipRun_24 : decode cX6_skipRun 24 = .ok (.aload_n 0, 1) := by decide +kernel
theorem dX6_skipRun_25 : decode cX6_skipRun 25 = .ok (.getfield 18, 3) := by decide +kernel
theorem dX6_skipRun_28 : decode cX6_skipRun 28 = .ok (.aload_n 0, 1) := by decide +kernel
theorem dX6_skipRun_29 : decode cX6_skipRun 29 = .ok (.getfield 32, 3) := by decide +kernel
theorem dX6_skipRun_32 : decode cX6_skipRun 32 = .ok (.baload, 1) := by decide +kernel
theorem dX6_skipRun_33 : decode cX6_skipRun 33 = .ok (.iload_n 2, 1) := by decide +kernel
theorem dX6_skipRun_34 : decode cX6_skipRun 34 = .ok (.if_icmp .gt 16, 3) := by decide +kernel
theorem dX6_skipRun_37 : decode cX6_skipRun 37 = .ok (.aload_n 0, 1) := by decide +kernel
theorem dX6_skipRun_38 : decode cX6_skipRun 38 = .ok (.dup, 1) := by decide +kernel
theorem dX6_skipRun_39 : decode cX6_skipRun 39 = .ok (.getfield 32, 3) := by decide +kernel
theorem dX6_skipRun_42 : decode cX6_skipRun 42 = .ok (.iconst 1, 1) := by decide +kernel
theorem dX6_skipRun_43 : decode cX6_skipRun 43 = .ok (.iadd, 1) := by decide +kernel
theorem dX6_skipRun_44 : decode cX6_skipRun 44 = .ok (.putfield 32, 3) := by decide +kernel
theorem dX6_skipRun_47 : decode cX6_skipRun 47 = .ok (.goto (-47), 3) := by decide +kernel
theorem dX6_skipRun_50 : decode cX6_skipRun 50 = .ok (.return_, 1) := by decide +kernel
theorem dX6_takeNumber_0 : decode cX6_takeNumber 0 = .ok (.aload_n 0, 1) := by decide +kernel
theorem dX6_takeNumber_1 : decode cX6_takeNumber 1 = .ok (.iload_n 2, 1) := by decide +kernel
theorem dX6_takeNumber_2 : decode cX6_takeNumber 2 = .ok (.iconst 1, 1) := by decide +kernel
theorem dX6_takeNumber_3 : decode cX6_takeNumber 3 = .ok (.if_icmp .eq 12, 3) := by decide +kernel
theorem dX6_takeNumber_6 : decode cX6_takeNumber 6 = .ok (.iload_n 2, 1) := by decide +kernel
theorem dX6_takeNumber_7 : decode cX6_takeNumber 7 = .ok (.iconst 2, 1) := by decide +kernel
theorem dX6_takeNumber_8 : decode cX6_takeNumber 8 = .ok (.if_icmp .ne 11, 3) := by decide +kernel
theorem dX6_takeNumber_11 : decode cX6_takeNumber 11 = .ok (.iload_n 1, 1) := by decide +kernel
theorem dX6_takeNumber_12 : decode cX6_takeNumber 12 = .ok (.ifCond .le 7, 3) := by decide +kernel
theorem dX6_takeNumber_15 : decode cX6_takeNumber 15 = .ok (.iconst 2, 1) := by decide +kernel
theorem dX6_takeNumber_16 : decode cX6_takeNumber 16 = .ok (.goto 4, 3) := by decide +kernel
theorem dX6_takeNumber_19 : decode cX6_takeNumber 19 = .ok (.iconst 4, 1) := by decide +kernel
theorem dX6_takeNumber_20 : decode cX6_takeNumber 20 = .ok (.putfield 41, 3) := by decide +kernel
theorem dX6_takeNumber_23 : decode cX6_takeNumber 23 = .ok (.aload_n 0, 1) := by decide +kernel
theorem dX6_takeNumber_24 : decode cX6_takeNumber 24 = .ok (.iload_n 2, 1) := by decide +kernel
theorem dX6_takeNumber_25 : decode cX6_takeNumber 25 = .ok (.iconst 1, 1) := by decide +kernel
theorem dX6_takeNumber_26 : decode cX6_takeNumber 26 = .ok (.if_icmp .ne 7, 3) := by decide +kernel
theorem dX6_takeNumber_29 : decode cX6_takeNumber 29 = .ok (.iload_n 1, 1) := by decide +kernel
theorem dX6_takeNumber_30 : decode cX6_takeNumber 30 = .ok (.goto 22, 3) := by decide +kernel
theorem dX6_takeNumber_33 : decode cX6_takeNumber 33 = .ok (.iload_n 1, 1) := by decide +kernel
theorem dX6_takeNumber_34 : decode cX6_takeNumber 34 = .ok (.bipush 10, 2) := by decide +kernel
theorem dX6_takeNumber_36 : decode cX6_takeNumber 36 = .ok (.imul, 1) := by decide +kernel
theorem dX6_takeNumber_37 : decode cX6_takeNumber 37 = .ok (.aload_n 0, 1) := by decide +kernel
theorem dX6_takeNumber_38 : decode cX6_takeNumber 38 = .ok (.getfield 18, 3) := by decide +kernel
theorem dX6_takeNumber_41 : decode cX6_takeNumber 41 = .ok (.aload_n 0, 1) := by decide +kernel
theorem dX6_takeNumber_42 : decode cX6_takeNumber 42 = .ok (.getfield 124, 3) := by decide +kernel
theorem dX6_takeNumber_45 : decode cX6_takeNumber 45 = .ok (.iconst 1, 1) := by decide +kernel
theorem dX6_takeNumber_46 : decode cX6_takeNumber 46 = .ok (.iadd, 1) := by decide +kernel
theorem dX6_takeNumber_47 : decode cX6_takeNumber 47 = .ok (.baload, 1) := by decide +kernel
theorem dX6_takeNumber_48 : decode cX6_takeNumber 48 = .ok (.iadd, 1) := by decide +kernel
theorem dX6_takeNumber_49 : decode cX6_takeNumber 49 = .ok (.bipush 48, 2) := by decide +kernel
theorem dX6_takeNumber_51 : decode cX6_takeNumber 51 = .ok (.isub, 1) := by decide +kernel
theorem dX6_takeNumber_52 : decode cX6_takeNumber 52 = .ok (.putfield 48, 3) := by decide +kernel
theorem dX6_takeNumber_55 : decode cX6_takeNumber 55 = .ok (.return_, 1) := by decide +kernel
set_option maxRecDepth 20000 in
theorem ggX7_init_X2_init : GoodIn wsX7_init wsX2_init := goodIn_r _ [35, 36, 2, 3, 37, 38, 39, 40, 41, 42, 43, 44, 45, 46, 97, 98, 99, 100, 101, 102, 103, 104, 105, 106, 107, 108, 109, 110] (by decide +kernel) (by decide +kernel)
set_option maxRecDepth 20000 in
theorem gX7_init_X2_init_n15 : GoodIn wsX7_init (wsX2_init) := ggX7_init_X2_init
set_option maxRecDepth 20000 in
theorem ggX7_init_X6_init : GoodIn wsX7_init wsX6_init := goodIn_r _ [49, 50, 2, 3, 51, 7, 8, 52, 53, 34, 35, 36, 37, 38, 39, 40, 41, 42, 43, 44, 45, 46, 97, 98, 99, 100, 101, 102, 103, 104, 105, 106, 107, 108, 109, 110, 111, 112, 113, 114, 115, 116, 117] (by decide +kernel) (by decide +kernel)
set_option maxRecDepth 20000 in
theorem gX7_init_X6_init : GoodIn wsX7_init (wsX6_init) := ggX7_init_X6_init
set_option maxRecDepth 20000 in
theorem ggX7_init_X4_init : GoodIn wsX7_init wsX4_init := goodIn_r _ [56, 57, 2, 3, 37, 58, 59, 118, 119] (by decide +kernel) (by decide +kernel)
set_option maxRecDepth 20000 in
theorem gX7_init_X4_init : GoodIn wsX7_init (wsX4_init) := ggX7_init_X4_init
set_option maxRecDepth 20000 in
theorem ggX7_init_X5_init : GoodIn wsX7_init wsX5_init := goodIn_r _ [61, 62, 2, 3, 63, 37, 64, 120, 121, 122] (by decide +kernel) (by decide +kernel)
set_option maxRecDepth 20000 in
theorem gX7_init_X5_init_n40 : GoodIn wsX7_init (wsX5_init) := ggX7_init_X5_init
set_option maxRecDepth 20000 in
theorem ggX7_init_X1_init : GoodIn wsX7_init wsX1_init := goodIn_r _ [67, 68, 2, 3, 69, 70, 15, 16, 71, 72, 55, 56, 57, 37, 58, 59, 123, 124, 118, 119] (by decide +kernel) (by decide +kernel)
set_option maxRecDepth 20000 in
theorem gX7_init_X1_init : GoodIn wsX7_init (wsX1_init) := ggX7_init_X1_init
set_option maxRecDepth 20000 in
theorem ggX7_init_X0_init : GoodIn wsX7_init wsX0_init := goodIn_r _ [74, 75, 2, 3, 37, 76, 77, 78, 79, 80, 125, 126, 127, 128, 129, 130, 131, 132] (by decide +kernel) (by decide +kernel)
set_option maxRecDepth 20000 in
theorem gX7_init_X0_init_n60 : GoodIn wsX7_init (wsX0_init) := ggX7_init_X0_init
set_option maxRecDepth 20000 in
theorem ggX7_init_X3_init : GoodIn wsX7_init wsX3_init := goodIn_r _ [82, 83, 2, 3, 37, 84, 85, 19, 20, 86, 60, 61, 62, 63, 64, 133, 134, 135, 120, 121, 122] (by decide +kernel) (by decide +kernel)
set_option maxRecDepth 20000 in
theorem gX7_init_X3_init_n65 : GoodIn wsX7_init (wsX3_init) := ggX7_init_X3_init
theorem dX7_init_0 : decode cX7_init 0 = .ok (.aload_n 0, 1) := by decide +kernel
theorem dX7_init_1 : decode cX7_init 1 = .ok (.invokespecial 1, 3) := by decide +kernel
theorem dX7_init_4 : decode cX7_init 4 = .ok (.aload_n 0, 1) := by decide +kernel
theorem dX7_init_5 : decode cX7_init 5 = .ok (.sipush 200, 3) := by decide +kernel
theorem dX7_init_8 : decode cX7_init 8 = .ok (.newarray .byte, 2) := by decide +kernel
theorem dX7_init_10 : decode cX7_init 10 = .ok (.putfield 9, 3) := by decide +kernel
theorem dX7_init_13 : decode cX7_init 13 = .ok (.aload_n 0, 1) := by decide +kernel
theorem dX7_init_14 : decode cX7_init 14 = .ok (.new 13, 3) := by decide +kernel
theorem dX7_init_17 : decode cX7_init 17 = .ok (.dup, 1) := by decide +kernel
theorem dX7_init_18 : decode cX7_init 18 = .ok (.invokespecial 15, 3) := by decide +kernel
theorem dX7_init_21 : decode cX7_init 21 = .ok (.putfield 16, 3) := by decide +kernel
theorem dX7_init_24 : decode cX7_init 24 = .ok (.aload_n 0, 1) := by decide +kernel
theorem dX7_init_25 : decode cX7_init 25 = .ok (.new 20, 3) := by decide +kernel
theorem dX7_init_28 : decode cX7_init 28 = .ok (.dup, 1) := by decide +kernel
theorem dX7_init_29 : decode cX7_init 29 = .ok (.aload_n 0, 1) := by decide +kernel
theorem dX7_init_30 : decode cX7_init 30 = .ok (.getfield 9, 3) := by decide +kernel
theorem dX7_init_33 : decode cX7_init 33 = .ok (.invokespecial 22, 3) := by decide +kernel
theorem dX7_init_36 : decode cX7_init 36 = .ok (.putfield 25, 3) := by decide +kernel
theorem dX7_init_39 : decode cX7_init 39 = .ok (.aload_n 0, 1) := by decide +kernel
theorem dX7_init_40 : decode cX7_init 40 = .ok (.new 29, 3) := by decide +kernel
theorem dX7_init_43 : decode cX7_init 43 = .ok (.dup, 1) := by decide +kernel
theorem dX7_init_44 : decode cX7_init 44 = .ok (.aload_n 0, 1) := by decide +kernel
theorem dX7_init_45 : decode cX7_init 45 = .ok (.getfield 16, 3) := by decide +kernel
theorem dX7_init_48 : decode cX7_init 48 = .ok (.invokespecial 31, 3) := by decide +kernel
theorem dX7_init_51 : decode cX7_init 51 = .ok (.putfield 34, 3) := by decide +kernel
theorem dX7_init_54 : decode cX7_init 54 = .ok (.aload_n 0, 1) := by decide +kernel
theorem dX7_init_55 : decode cX7_init 55 = .ok (.new 38, 3) := by decide +kernel
theorem dX7_init_58 : decode cX7_init 58 = .ok (.dup, 1) := by decide +kernel
theorem dX7_init_59 : decode cX7_init 59 = .ok (.invokespecial 40, 3) := by decide +kernel
theorem dX7_init_62 : decode cX7_init 62 = .ok (.putfield 41, 3) := by decide +kernel
theorem dX7_init_65 : decode cX7_init 65 = .ok (.aload_n 0, 1) := by decide +kernel
theorem dX7_init_66 : decode cX7_init 66 = .ok (.iconst 2, 1) := by decide +kernel
theorem dX7_init_67 : decode cX7_init 67 = .ok (.anewarray 45, 3) := by decide +kernel
theorem dX7_init_70 : decode cX7_init 70 = .ok (.putfield 47, 3) := by decide +kernel
theorem dX7_init_73 : decode cX7_init 73 = .ok (.aload_n 0, 1) := by decide +kernel
theorem dX7_init_74 : decode cX7_init 74 = .ok (.new 51, 3) := by decide +kernel
theorem dX7_init_77 : decode cX7_init 77 = .ok (.dup, 1) := by decide +kernel
theorem dX7_init_78 : decode cX7_init 78 = .ok (.aload_n 0, 1) := by decide +kernel
theorem dX7_init_79 : decode cX7_init 79 = .ok (.getfield 16, 3) := by decide +kernel
theorem dX7_init_82 : decode cX7_init 82 = .ok (.invokespecial 53, 3) := by decide +kernel
theorem dX7_init_85 : decode cX7_init 85 = .ok (.putfield 54, 3) := by decide +kernel
theorem dX7_init_88 : decode cX7_init 88 = .ok (.aload_n 0, 1) := by decide +kernel
theorem dX7_init_89 : decode cX7_init 89 = .ok (.new 58, 3) := by decide +kernel
theorem dX7_init_92 : decode cX7_init 92 = .ok (.dup, 1) := by decide +kernel
theorem dX7_init_93 : decode cX7_init 93 = .ok (.invokespecial 60, 3) := by decide +kernel
theorem dX7_init_96 : decode cX7_init 96 = .ok (.putfield 61, 3) := by decide +kernel
theorem dX7_init_99 : decode cX7_init 99 = .ok (.iconst 0, 1) := by decide +kernel
theorem dX7_init_100 : decode cX7_init 100 = .ok (.istore_n 1, 1) := by decide +kernel
theorem dX7_init_101 : decode cX7_init 101 = .ok (.iload_n 1, 1) := by decide +kernel
theorem dX7_init_102 : decode cX7_init 102 = .ok (.iconst 2, 1) := by decide +kernel
theorem dX7_init_103 : decode cX7_init 103 = .ok (.if_icmp .ge 22, 3) := by decide +kernel
theorem dX7_init_106 : decode cX7_init 106 = .ok (.aload_n 0, 1) := by decide +kernel
theorem dX7_init_107 : decode cX7_init 107 = .ok (.getfield 47, 3) := by decide +kernel
theorem dX7_init_110 : decode cX7_init 110 = .ok (.iload_n 1, 1) := by decide +kernel
theorem dX7_init_111 : decode cX7_init 111 = .ok (.new 45, 3) := by decide +kernel
theorem dX7_init_114 : decode cX7_init 114 = .ok (.dup, 1) := by decide +kernel
theorem dX7_init_115 : decode cX7_init 115 = .ok (.invokespecial 65, 3) := by decide +kernel
theorem dX7_init_118 : decode cX7_init 118 = .ok (.aastore, 1) := by decide +kernel
theorem dX7_init_119 : decode cX7_init 119 = .ok (.iinc 1 1, 3) := by decide +kernel
theorem dX7_init_122 : decode cX7_init 122 = .ok (.goto (-21), 3) := by decide +kernel
theorem dX7_init_125 : decode cX7_init 125 = .ok (.return_, 1) := by decide +kernel
set_option maxRecDepth 20000 in
theorem ggX7_type_X7_within : GoodIn wsX7_type wsX7_within := goodIn_r _ [6] (by decide +kernel) (by decide +kernel)
set_option maxRecDepth 20000 in
theorem gX7_type_X7_within : GoodIn wsX7_type (va_wsS RX7 66 yX7_within wsX7_within) := goodIn_app (goodIn_of _ (by decide +kernel)) ggX7_type_X7_within
theorem dX7_type_0 : decode cX7_type 0 = .ok (.iload_n 1, 1) := by decide +kernel
theorem dX7_type_1 : decode cX7_type 1 = .ok (.iconst 0, 1) := by decide +kernel
theorem dX7_type_2 : decode cX7_type 2 = .ok (.sipush 255, 3) := by decide +kernel
theorem dX7_type_5 : decode cX7_type 5 = .ok (.invokestatic 66, 3) := by decide +kernel
theorem dX7_type_8 : decode cX7_type 8 = .ok (.ifCond .ne 5, 3) := by decide +kernel
theorem dX7_type_11 : decode cX7_type 11 = .ok (.iconst (-1), 1) := by decide +kernel
theorem dX7_type_12 : decode cX7_type 12 = .ok (.ireturn, 1) := by decide +kernel
theorem dX7_type_13 : decode cX7_type 13 = .ok (.aload_n 0, 1) := by decide +kernel
theorem dX7_type_14 : decode cX7_type 14 = .ok (.getfield 70, 3) := by decide +kernel
theorem dX7_type_17 : decode cX7_type 17 = .ok (.sipush 200, 3) := by decide +kernel
theorem dX7_type_20 : decode cX7_type 20 = .ok (.if_icmp .lt 6, 3) := by decide +kernel
theorem dX7_type_23 : decode cX7_type 23 = .ok (.bipush (-3), 2) := by decide +kernel
theorem dX7_type_25 : decode cX7_type 25 = .ok (.ireturn, 1) := by decide +kernel
theorem dX7_type_26 : decode cX7_type 26 = .ok (.aload_n 0, 1) := by decide +kernel
theorem dX7_type_27 : decode cX7_type 27 = .ok (.getfield 9, 3) := by decide +kernel
theorem dX7_type_30 : decode cX7_type 30 = .ok (.aload_n 0, 1) := by decide +kernel
theorem dX7_type_31 : decode cX7_type 31 = .ok (.getfield 70, 3) := by decide +kernel
theorem dX7_type_34 : decode cX7_type 34 = .ok (.iload_n 1, 1) := by decide +kernel
theorem dX7_type_35 : decode cX7_type 35 = .ok (.i2b, 1) := by decide +kernel
theorem dX7_type_36 : decode cX7_type 36 = .ok (.bastore, 1) := by decide +kernel
theorem dX7_type_37 : decode cX7_type 37 = .ok (.aload_n 0, 1) := by decide +kernel
theorem dX7_type_38 : decode cX7_type 38 = .ok (.dup, 1) := by decide +kernel
theorem dX7_type_39 : decode cX7_type 39 = .ok (.getfield 70, 3) := by decide +kernel
theorem dX7_type_42 : decode cX7_type 42 = .ok (.iconst 1, 1) := by decide +kernel
theorem dX7_type_43 : decode cX7_type 43 = .ok (.iadd, 1) := by decide +kernel
theorem dX7_type_44 : decode cX7_type 44 = .ok (.putfield 70, 3) := by decide +kernel
theorem dX7_type_47 : decode cX7_type 47 = .ok (.aload_n 0, 1) := by decide +kernel
theorem dX7_type_48 : decode cX7_type 48 = .ok (.getfield 70, 3) := by decide +kernel
theorem dX7_type_51 : decode cX7_type 51 = .ok (.ireturn, 1) := by decide +kernel
theorem dX7_clear_0 : decode cX7_clear 0 = .ok (.aload_n 0, 1) := by decide +kernel
theorem dX7_clear_1 : decode cX7_clear 1 = .ok (.getfield 70, 3) := by decide +kernel
theorem dX7_clear_4 : decode cX7_clear 4 = .ok (.istore_n 1, 1) := by decide +kernel
theorem dX7_clear_5 : decode cX7_clear 5 = .ok (.aload_n 0, 1) := by decide +kernel
theorem dX7_clear_6 : decode cX7_clear 6 = .ok (.iconst 0, 1) := by decide +kernel
theorem dX7_clear_7 : decode cX7_clear 7 = .ok (.putfield 70, 3) := by decide +kernel
theorem dX7_clear_10 : decode cX7_clear 10 = .ok (.iload_n 1, 1) := by decide +kernel
theorem dX7_clear_11 : decode cX7_clear 11 = .ok (.ireturn, 1) := by decide +kernel
set_option maxRecDepth 20000 in
theorem ggX7_house_X6_read : GoodIn wsX7_house wsX6_read := goodIn_r _ [17, 18, 19, 20, 21, 22, 23, 24, 25, 26, 27, 28, 29, 30, 31, 32, 33, 34, 35, 36, 37, 38, 39, 16, 40, 41, 42, 43, 44, 45, 46, 47, 48, 49, 50, 51, 52, 53, 54, 55, 56, 57, 58, 59, 60, 61, 62, 63, 64, 65, 66, 67, 68, 69, 70, 71, 72, 73, 74, 75, 76, 77, 78, 79, 80, 81, 82, 83, 84, 85, 86, 87, 88, 89, 90, 91, 92, 93, 94, 95, 96, 97, 98, 99, 141, 142, 143, 144, 145, 146, 147, 162, 163, 164, 165, 166, 167, 168, 169, 170, 171, 172, 173, 174, 175] (by decide +kernel) (by decide +kernel)
set_option maxRecDepth 20000 in
theorem gX7_house_X6_read : GoodIn wsX7_house (wsV RX7 74 RX6 yX6_read wsX6_read) := goodIn_app (goodIn_of _ (by decide +kernel)) ggX7_house_X6_read
set_option maxRecDepth 20000 in
theorem ggX7_house_X2_copyFrom : GoodIn wsX7_house wsX2_copyFrom := goodIn_r _ [103, 32, 33, 34, 35, 36, 104, 105, 106, 107, 108, 109, 110, 111, 112, 113, 114, 115, 116, 162, 163, 164, 165, 166, 167, 168, 169, 170, 171, 172, 173, 174, 175] (by decide +kernel) (by decide +kernel)
set_option maxRecDepth 20000 in
theorem gX7_house_X2_copyFrom : GoodIn wsX7_house (wsV RX7 84 RX2 yX2_copyFrom wsX2_copyFrom) := goodIn_app (goodIn_of _ (by decide +kernel)) ggX7_house_X2_copyFrom
set_option maxRecDepth 20000 in
theorem ggX7_house_X4_startAnew : GoodIn wsX7_house wsX4_startAnew := goodIn_r _ [121, 122, 123, 124, 125, 126, 127, 128, 129, 130, 176, 177, 162, 163, 164, 165, 166, 167, 168, 169, 170, 171, 172, 173, 174, 175] (by decide +kernel) (by decide +kernel)
set_option maxRecDepth 20000 in
theorem gX7_house_X4_startAnew : GoodIn wsX7_house (wsV RX7 87 RX4 yX4_startAnew wsX4_startAnew) := goodIn_app (goodIn_of _ (by decide +kernel)) ggX7_house_X4_startAnew
theorem dX7_house_0 : decode cX7_house 0 = .ok (.aload_n 0, 1) := by decide +kernel
theorem dX7_house_1 : decode cX7_house 1 = .ok (.getfield 25, 3) := by decide +kernel
theorem dX7_house_4 : decode cX7_house 4 = .ok (.aload_n 0, 1) := by decide +kernel
theorem dX7_house_5 : decode cX7_house 5 = .ok (.getfield 70, 3) := by decide +kernel
theorem dX7_house_8 : decode cX7_house 8 = .ok (.invokevirtual 74, 3) := by decide +kernel
theorem dX7_house_11 : decode cX7_house 11 = .ok (.istore_n 1, 1) := by decide +kernel
theorem dX7_house_12 : decode cX7_house 12 = .ok (.iload_n 1, 1) := by decide +kernel
theorem dX7_house_13 : decode cX7_house 13 = .ok (.ifCond .ge 14, 3) := by decide +kernel
theorem dX7_house_16 : decode cX7_house 16 = .ok (.bipush (-10), 2) := by decide +kernel
theorem dX7_house_18 : decode cX7_house 18 = .ok (.aload_n 0, 1) := by decide +kernel
theorem dX7_house_19 : decode cX7_house 19 = .ok (.getfield 25, 3) := by decide +kernel
theorem dX7_house_22 : decode cX7_house 22 = .ok (.getfield 78, 3) := by decide +kernel
theorem dX7_house_25 : decode cX7_house 25 = .ok (.isub, 1) := by decide +kernel
theorem dX7_house_26 : decode cX7_house 26 = .ok (.ireturn, 1) := by decide +kernel
theorem dX7_house_27 : decode cX7_house 27 = .ok (.aload_n 0, 1) := by decide +kernel
theorem dX7_house_28 : decode cX7_house 28 = .ok (.iconst 0, 1) := by decide +kernel
theorem dX7_house_29 : decode cX7_house 29 = .ok (.putfield 70, 3) := by decide +kernel
theorem dX7_house_32 : decode cX7_house 32 = .ok (.aload_n 0, 1) := by decide +kernel
theorem dX7_house_33 : decode cX7_house 33 = .ok (.getfield 16, 3) := by decide +kernel
theorem dX7_house_36 : decode cX7_house 36 = .ok (.aload_n 0, 1) := by decide +kernel
theorem dX7_house_37 : decode cX7_house 37 = .ok (.getfield 25, 3) := by decide +kernel
theorem dX7_house_40 : decode cX7_house 40 = .ok (.getfield 81, 3) := by decide +kernel
theorem dX7_house_43 : decode cX7_house 43 = .ok (.invokevirtual 84, 3) := by decide +kernel
theorem dX7_house_46 : decode cX7_house 46 = .ok (.aload_n 0, 1) := by decide +kernel
theorem dX7_house_47 : decode cX7_house 47 = .ok (.getfield 34, 3) := by decide +kernel
theorem dX7_house_50 : decode cX7_house 50 = .ok (.invokevirtual 87, 3) := by decide +kernel
theorem dX7_house_53 : decode cX7_house 53 = .ok (.aload_n 0, 1) := by decide +kernel
theorem dX7_house_54 : decode cX7_house 54 = .ok (.getfield 41, 3) := by decide +kernel
theorem dX7_house_57 : decode cX7_house 57 = .ok (.iconst 0, 1) := by decide +kernel
theorem dX7_house_58 : decode cX7_house 58 = .ok (.putfield 90, 3) := by decide +kernel
theorem dX7_house_61 : decode cX7_house 61 = .ok (.aload_n 0, 1) := by decide +kernel
theorem dX7_house_62 : decode cX7_house 62 = .ok (.getfield 61, 3) := by decide +kernel
theorem dX7_house_65 : decode cX7_house 65 = .ok (.iconst 0, 1) := by decide +kernel
theorem dX7_house_66 : decode cX7_house 66 = .ok (.putfield 93, 3) := by decide +kernel
theorem dX7_house_69 : decode cX7_house 69 = .ok (.iconst 0, 1) := by decide +kernel
theorem dX7_house_70 : decode cX7_house 70 = .ok (.istore_n 2, 1) := by decide +kernel
theorem dX7_house_71 : decode cX7_house 71 = .ok (.iload_n 2, 1) := by decide +kernel
theorem dX7_house_72 : decode cX7_house 72 = .ok (.iconst 2, 1) := by decide +kernel
theorem dX7_house_73 : decode cX7_house 73 = .ok (.if_icmp .ge 19, 3) := by decide +kernel
theorem dX7_house_76 : decode cX7_house 76 = .ok (.aload_n 0, 1) := by decide +kernel
theorem dX7_house_77 : decode cX7_house 77 = .ok (.getfield 47, 3) := by decide +kernel
theorem dX7_house_80 : decode cX7_house 80 = .ok (.iload_n 2, 1) := by decide +kernel
theorem dX7_house_81 : decode cX7_house 81 = .ok (.aaload, 1) := by decide +kernel
theorem dX7_house_82 : decode cX7_house 82 = .ok (.iconst 0, 1) := by decide +kernel
theorem dX7_house_83 : decode cX7_house 83 = .ok (.putfield 96, 3) := by decide +kernel
theorem dX7_house_86 : decode cX7_house 86 = .ok (.iinc 2 1, 3) := by decide +kernel
theorem dX7_house_89 : decode cX7_house 89 = .ok (.goto (-18), 3) := by decide +kernel
theorem dX7_house_92 : decode cX7_house 92 = .ok (.iload_n 1, 1) := by decide +kernel
theorem dX7_house_93 : decode cX7_house 93 = .ok (.ireturn, 1) := by decide +kernel
set_option maxRecDepth 20000 in
theorem ggX7_candle_X7_within : GoodIn wsX7_candle wsX7_within := goodIn_r _ [9] (by decide +kernel) (by decide +kernel)
set_option maxRecDepth 20000 in
theorem gX7_candle_X7_within : GoodIn wsX7_candle (va_wsS RX7 66 yX7_within wsX7_within) := goodIn_app (goodIn_of _ (by decide +kernel)) ggX7_candle_X7_within
set_option maxRecDepth 20000 in
theorem ggX7_candle_X4_left : GoodIn wsX7_candle wsX4_left := goodIn_r _ [14, 15, 47, 48] (by decide +kernel) (by decide +kernel)
set_option maxRecDepth 20000 in
theorem gX7_candle_X4_left : GoodIn wsX7_candle (wsV RX7 107 RX4 yX4_left wsX4_left) := goodIn_app (goodIn_of _ (by decide +kernel)) ggX7_candle_X4_left
set_option maxRecDepth 20000 in
theorem ggX7_candle_X4_roomOf : GoodIn wsX7_candle wsX4_roomOf := goodIn_r _ [19, 15, 47, 48] (by decide +kernel) (by decide +kernel)
set_option maxRecDepth 20000 in
theorem gX7_candle_X4_roomOf : GoodIn wsX7_candle (wsV RX7 110 RX4 yX4_roomOf wsX4_roomOf) := goodIn_app (goodIn_of _ (by decide +kernel)) ggX7_candle_X4_roomOf
set_option maxRecDepth 20000 in
theorem ggX7_candle_X7_bit : GoodIn wsX7_candle wsX7_bit := goodIn_r _ [22] (by decide +kernel) (by decide +kernel)
set_option maxRecDepth 20000 in
theorem gX7_candle_X7_bit : GoodIn wsX7_candle (va_wsS RX7 116 yX7_bit wsX7_bit) := goodIn_app (goodIn_of _ (by decide +kernel)) ggX7_candle_X7_bit
theorem dX7_candle_0 : decode cX7_candle 0 = .ok (.iload_n 1, 1) := by decide +kernel
theorem dX7_candle_1 : decode cX7_candle 1 = .ok (.iconst 0, 1) := by decide +kernel
theorem dX7_candle_2 : decode cX7_candle 2 = .ok (.aload_n 0, 1) := by decide +kernel
theorem dX7_candle_3 : decode cX7_candle 3 = .ok (.getfield 16, 3) := by decide +kernel
theorem dX7_candle_6 : decode cX7_candle 6 = .ok (.getfield 100, 3) := by decide +kernel
theorem dX7_candle_9 : decode cX7_candle 9 = .ok (.iconst 1, 1) := by decide +kernel
theorem dX7_candle_10 : decode cX7_candle 10 = .ok (.isub, 1) := by decide +kernel
theorem dX7_candle_11 : decode cX7_candle 11 = .ok (.invokestatic 66, 3) := by decide +kernel
theorem dX7_candle_14 : decode cX7_candle 14 = .ok (.ifCond .ne 5, 3) := by decide +kernel
theorem dX7_candle_17 : decode cX7_candle 17 = .ok (.iconst (-1), 1) := by decide +kernel
theorem dX7_candle_18 : decode cX7_candle 18 = .ok (.ireturn, 1) := by decide +kernel
theorem dX7_candle_19 : decode cX7_candle 19 = .ok (.iload_n 2, 1) := by decide +kernel
theorem dX7_candle_20 : decode cX7_candle 20 = .ok (.tableswitch 92 0 4 #[36, 46, 55, 64, 78], 36) := by decide +kernel
theorem dX7_candle_56 : decode cX7_candle 56 = .ok (.aload_n 0, 1) := by decide +kernel
theorem dX7_candle_57 : decode cX7_candle 57 = .ok (.getfield 16, 3) := by decide +kernel
theorem dX7_candle_60 : decode cX7_candle 60 = .ok (.getfield 103, 3) := by decide +kernel
theorem dX7_candle_63 : decode cX7_candle 63 = .ok (.iload_n 1, 1) := by decide +kernel
theorem dX7_candle_64 : decode cX7_candle 64 = .ok (.iaload, 1) := by decide +kernel
theorem dX7_candle_65 : decode cX7_candle 65 = .ok (.ireturn, 1) := by decide +kernel
theorem dX7_candle_66 : decode cX7_candle 66 = .ok (.aload_n 0, 1) := by decide +kernel
theorem dX7_candle_67 : decode cX7_candle 67 = .ok (.getfield 34, 3) := by decide +kernel
theorem dX7_candle_70 : decode cX7_candle 70 = .ok (.iload_n 1, 1) := by decide +kernel
theorem dX7_candle_71 : decode cX7_candle 71 = .ok (.invokevirtual 107, 3) := by decide +kernel
theorem dX7_candle_74 : decode cX7_candle 74 = .ok (.ireturn, 1) := by decide +kernel
theorem dX7_candle_75 : decode cX7_candle 75 = .ok (.aload_n 0, 1) := by decide +kernel
theorem dX7_candle_76 : decode cX7_candle 76 = .ok (.getfield 34, 3) := by decide +kernel
theorem dX7_candle_79 : decode cX7_candle 79 = .ok (.iload_n 1, 1) := by decide +kernel
theorem dX7_candle_80 : decode cX7_candle 80 = .ok (.invokevirtual 110, 3) := by decide +kernel
theorem dX7_candle_83 : decode cX7_candle 83 = .ok (.ireturn, 1) := by decide +kernel
theorem dX7_candle_84 : decode cX7_candle 84 = .ok (.aload_n 0, 1) := by decide +kernel
theorem dX7_candle_85 : decode cX7_candle 85 = .ok (.getfield 34, 3) := by decide +kernel
theorem dX7_candle_88 : decode cX7_candle 88 = .ok (.getfield 113, 3) := by decide +kernel
theorem dX7_candle_91 : decode cX7_candle 91 = .ok (.iconst 1, 1) := by decide +kernel
theorem dX7_candle_92 : decode cX7_candle 92 = .ok (.iaload, 1) := by decide +kernel
theorem dX7_candle_93 : decode cX7_candle 93 = .ok (.iload_n 1, 1) := by decide +kernel
theorem dX7_candle_94 : decode cX7_candle 94 = .ok (.invokestatic 116, 3) := by decide +kernel
theorem dX7_candle_97 : decode cX7_candle 97 = .ok (.ireturn, 1) := by decide +kernel
theorem dX7_candle_98 : decode cX7_candle 98 = .ok (.aload_n 0, 1) := by decide +kernel
theorem dX7_candle_99 : decode cX7_candle 99 = .ok (.getfield 34, 3) := by decide +kernel
theorem dX7_candle_102 : decode cX7_candle 102 = .ok (.getfield 113, 3) := by decide +kernel
theorem dX7_candle_105 : decode cX7_candle 105 = .ok (.iconst 2, 1) := by decide +kernel
theorem dX7_candle_106 : decode cX7_candle 106 = .ok (.iaload, 1) := by decide +kernel
theorem dX7_candle_107 : decode cX7_candle 107 = .ok (.iload_n 1, 1) := by decide +kernel
theorem dX7_candle_108 : decode cX7_candle 108 = .ok (.invokestatic 116, 3) := by decide +kernel
theorem dX7_candle_111 : decode cX7_candle 111 = .ok (.ireturn, 1) := by decide +kernel
theorem dX7_candle_112 : decode cX7_candle 112 = .ok (.iconst (-1), 1) := by decide +kernel
theorem dX7_candle_113 : decode cX7_candle 113 = .ok (.ireturn, 1) := by decide +kernel
set_option maxRecDepth 20000 in
theorem ggX7_door_X7_within : GoodIn wsX7_door wsX7_within := goodIn_r _ [10] (by decide +kernel) (by decide +kernel)
set_option maxRecDepth 20000 in
theorem gX7_door_X7_within : GoodIn wsX7_door (va_wsS RX7 66 yX7_within wsX7_within) := goodIn_app (goodIn_of _ (by decide +kernel)) ggX7_door_X7_within
set_option maxRecDepth 20000 in
theorem ggX7_door_X7_bit : GoodIn wsX7_door wsX7_bit := goodIn_r _ [13] (by decide +kernel) (by decide +kernel)
set_option maxRecDepth 20000 in
theorem gX7_door_X7_bit : GoodIn wsX7_door (va_wsS RX7 116 yX7_bit wsX7_bit) := goodIn_app (goodIn_of _ (by decide +kernel)) ggX7_door_X7_bit
theorem dX7_door_0 : decode cX7_door 0 = .ok (.iload_n 1, 1) := by decide +kernel
theorem dX7_door_1 : decode cX7_door 1 = .ok (.iconst 0, 1) := by decide +kernel
theorem dX7_door_2 : decode cX7_door 2 = .ok (.aload_n 0, 1) := by decide +kernel
theorem dX7_door_3 : decode cX7_door 3 = .ok (.getfield 16, 3) := by decide +kernel
theorem dX7_door_6 : decode cX7_door 6 = .ok (.getfield 120, 3) := by decide +kernel
theorem dX7_door_9 : decode cX7_door 9 = .ok (.iconst 1, 1) := by decide +kernel
theorem dX7_door_10 : decode cX7_door 10 = .ok (.isub, 1) := by decide +kernel
theorem dX7_door_11 : decode cX7_door 11 = .ok (.invokestatic 66, 3) := by decide +kernel
theorem dX7_door_14 : decode cX7_door 14 = .ok (.ifCond .ne 5, 3) := by decide +kernel
theorem dX7_door_17 : decode cX7_door 17 = .ok (.iconst (-1), 1) := by decide +kernel
theorem dX7_door_18 : decode cX7_door 18 = .ok (.ireturn, 1) := by decide +kernel
theorem dX7_door_19 : decode cX7_door 19 = .ok (.iload_n 2, 1) := by decide +kernel
theorem dX7_door_20 : decode cX7_door 20 = .ok (.tableswitch 62 0 2 #[28, 38, 48], 28) := by decide +kernel
theorem dX7_door_48 : decode cX7_door 48 = .ok (.aload_n 0, 1) := by decide +kernel
theorem dX7_door_49 : decode cX7_door 49 = .ok (.getfield 16, 3) := by decide +kernel
theorem dX7_door_52 : decode cX7_door 52 = .ok (.getfield 123, 3) := by decide +kernel
theorem dX7_door_55 : decode cX7_door 55 = .ok (.iload_n 1, 1) := by decide +kernel
theorem dX7_door_56 : decode cX7_door 56 = .ok (.iaload, 1) := by decide +kernel
theorem dX7_door_57 : decode cX7_door 57 = .ok (.ireturn, 1) := by decide +kernel
theorem dX7_door_58 : decode cX7_door 58 = .ok (.aload_n 0, 1) := by decide +kernel
theorem dX7_door_59 : decode cX7_door 59 = .ok (.getfield 16, 3) := by decide +kernel
theorem dX7_door_62 : decode cX7_door 62 = .ok (.getfield 126, 3) := by decide +kernel
theorem dX7_door_65 : decode cX7_door 65 = .ok (.iload_n 1, 1) := by decide +kernel
theorem dX7_door_66 : decode cX7_door 66 = .ok (.iaload, 1) := by decide +kernel
theorem dX7_door_67 : decode cX7_door 67 = .ok (.ireturn, 1) := by decide +kernel
theorem dX7_door_68 : decode cX7_door 68 = .ok (.aload_n 0, 1) := by decide +kernel
theorem dX7_door_69 : decode cX7_door 69 = .ok (.getfield 34, 3) := by decide +kernel
theorem dX7_door_72 : decode cX7_door 72 = .ok (.getfield 113, 3) := by decide +kernel
theorem dX7_door_75 : decode cX7_door 75 = .ok (.iconst 3, 1) := by decide +kernel
theorem dX7_door_76 : decode cX7_door 76 = .ok (.iaload, 1) := by decide +kernel
theorem dX7_door_77 : decode cX7_door 77 = .ok (.iload_n 1, 1) := by decide +kernel
theorem dX7_door_78 : decode cX7_door 78 = .ok (.invokestatic 116, 3) := by decide +kernel
theorem dX7_door_81 : decode cX7_door 81 = .ok (.ireturn, 1) := by decide +kernel
theorem dX7_door_82 : decode cX7_door 82 = .ok (.iconst (-1), 1) := by decide +kernel
theorem dX7_door_83 : decode cX7_door 83 = .ok (.ireturn, 1) := by decide +kernel
set_option maxRecDepth 20000 in
theorem ggX7_act_X7_within : GoodIn wsX7_act wsX7_within := goodIn_r _ [12] (by decide +kernel) (by decide +kernel)
set_option maxRecDepth 20000 in
theorem gX7_act_X7_within : GoodIn wsX7_act (va_wsS RX7 66 yX7_within wsX7_within) := goodIn_app (goodIn_of _ (by decide +kernel)) ggX7_act_X7_within
set_option maxRecDepth 20000 in
theorem ggX7_act_X4_stage : GoodIn wsX7_act wsX4_stage := goodIn_r _ [17, 18, 43, 44] (by decide +kernel) (by decide +kernel)
set_option maxRecDepth 20000 in
theorem gX7_act_X4_stage : GoodIn wsX7_act (wsV RX7 144 RX4 yX4_stage wsX4_stage) := goodIn_app (goodIn_of _ (by decide +kernel)) ggX7_act_X4_stage
theorem dX7_act_0 : decode cX7_act 0 = .ok (.iload_n 1, 1) := by decide +kernel
theorem dX7_act_1 : decode cX7_act 1 = .ok (.iconst 0, 1) := by decide +kernel
theorem dX7_act_2 : decode cX7_act 2 = .ok (.aload_n 0, 1) := by decide +kernel
theorem dX7_act_3 : decode cX7_act 3 = .ok (.getfield 16, 3) := by decide +kernel
theorem dX7_act_6 : decode cX7_act 6 = .ok (.getfield 129, 3) := by decide +kernel
theorem dX7_act_9 : decode cX7_act 9 = .ok (.iconst 1, 1) := by decide +kernel
theorem dX7_act_10 : decode cX7_act 10 = .ok (.isub, 1) := by decide +kernel
theorem dX7_act_11 : decode cX7_act 11 = .ok (.invokestatic 66, 3) := by decide +kernel
theorem dX7_act_14 : decode cX7_act 14 = .ok (.ifCond .ne 5, 3) := by decide +kernel
theorem dX7_act_17 : decode cX7_act 17 = .ok (.iconst (-1), 1) := by decide +kernel
theorem dX7_act_18 : decode cX7_act 18 = .ok (.ireturn, 1) := by decide +kernel
theorem dX7_act_19 : decode cX7_act 19 = .ok (.iload_n 2, 1) := by decide +kernel
theorem dX7_act_20 : decode cX7_act 20 = .ok (.tableswitch 102 0 5 #[40, 50, 60, 70, 80, 89], 40) := by decide +kernel
theorem dX7_act_60 : decode cX7_act 60 = .ok (.aload_n 0, 1) := by decide +kernel
theorem dX7_act_61 : decode cX7_act 61 = .ok (.getfield 16, 3) := by decide +kernel
theorem dX7_act_64 : decode cX7_act 64 = .ok (.getfield 132, 3) := by decide +kernel
theorem dX7_act_67 : decode cX7_act 67 = .ok (.iload_n 1, 1) := by decide +kernel
theorem dX7_act_68 : decode cX7_act 68 = .ok (.iaload, 1) := by decide +kernel
theorem dX7_act_69 : decode cX7_act 69 = .ok (.ireturn, 1) := by decide +kernel
theorem dX7_act_70 : decode cX7_act 70 = .ok (.aload_n 0, 1) := by decide +kernel
theorem dX7_act_71 : decode cX7_act 71 = .ok (.getfield 16, 3) := by decide +kernel
theorem dX7_act_74 : decode cX7_act 74 = .ok (.getfield 135, 3) := by decide +kernel
theorem dX7_act_77 : decode cX7_act 77 = .ok (.iload_n 1, 1) := by decide +kernel
theorem dX7_act_78 : decode cX7_act 78 = .ok (.iaload, 1) := by decide +kernel
theorem dX7_act_79 : decode cX7_act 79 = .ok (.ireturn, 1) := by decide +kernel
theorem dX7_act_80 : decode cX7_act 80 = .ok (.aload_n 0, 1) := by decide +kernel
theorem dX7_act_81 : decode cX7_act 81 = .ok (.getfield 16, 3) := by decide +kernel
theorem dX7_act_84 : decode cX7_act 84 = .ok (.getfield 138, 3) := by decide +kernel
theorem dX7_act_87 : decode cX7_act 87 = .ok (.iload_n 1, 1) := by decide +kernel
theorem dX7_act_88 : decode cX7_act 88 = .ok (.iaload, 1) := by decide +kernel
theorem dX7_act_89 : decode cX7_act 89 = .ok (.ireturn, 1) := by decide +kernel
theorem dX7_act_90 : decode cX7_act 90 = .ok (.aload_n 0, 1) := by decide +kernel
theorem dX7_act_91 : decode cX7_act 91 = .ok (.getfield 16, 3) := by decide +kernel
theorem dX7_act_94 : decode cX7_act 94 = .ok (.getfield 141, 3) := by decide +kernel
theorem dX7_act_97 : decode cX7_act 97 = .ok (.iload_n 1, 1) := by decide +kernel
theorem dX7_act_98 : decode cX7_act 98 = .ok (.iaload, 1) := by decide +kernel
theorem dX7_act_99 : decode cX7_act 99 = .ok (.ireturn, 1) := by decide +kernel
theorem dX7_act_100 : decode cX7_act 100 = .ok (.aload_n 0, 1) := by decide +kernel
theorem dX7_act_101 : decode cX7_act 101 = .ok (.getfield 34, 3) := by decide +kernel
theorem dX7_act_104 : decode cX7_act 104 = .ok (.iload_n 1, 1) := by decide +kernel
theorem dX7_act_105 : decode cX7_act 105 = .ok (.invokevirtual 144, 3) := by decide +kernel
theorem dX7_act_108 : decode cX7_act 108 = .ok (.ireturn, 1) := by decide +kernel
theorem dX7_act_109 : decode cX7_act 109 = .ok (.aload_n 0, 1) := by decide +kernel
theorem dX7_act_110 : decode cX7_act 110 = .ok (.getfield 34, 3) := by decide +kernel
theorem dX7_act_113 : decode cX7_act 113 = .ok (.getfield 113, 3) := by decide +kernel
theorem dX7_act_116 : decode cX7_act 116 = .ok (.bipush 22, 2) := by decide +kernel
theorem dX7_act_118 : decode cX7_act 118 = .ok (.iload_n 1, 1) := by decide +kernel
theorem dX7_act_119 : decode cX7_act 119 = .ok (.iadd, 1) := by decide +kernel
theorem dX7_act_120 : decode cX7_act 120 = .ok (.iaload, 1) := by decide +kernel
theorem dX7_act_121 : decode cX7_act 121 = .ok (.ireturn, 1) := by decide +kernel
theorem dX7_act_122 : decode cX7_act 122 = .ok (.iconst (-1), 1) := by decide +kernel
theorem dX7_act_123 : decode cX7_act 123 = .ok (.ireturn, 1) := by decide +kernel
set_option maxRecDepth 20000 in
theorem ggX7_room_X7_within : GoodIn wsX7_room wsX7_within := goodIn_r _ [8] (by decide +kernel) (by decide +kernel)
set_option maxRecDepth 20000 in
theorem gX7_room_X7_within : GoodIn wsX7_room (va_wsS RX7 66 yX7_within wsX7_within) := goodIn_app (goodIn_of _ (by decide +kernel)) ggX7_room_X7_within
set_option maxRecDepth 20000 in
theorem ggX7_room_X4_wax : GoodIn wsX7_room wsX4_wax := goodIn_r _ [13, 14, 59, 60] (by decide +kernel) (by decide +kernel)
set_option maxRecDepth 20000 in
theorem gX7_room_X4_wax : GoodIn wsX7_room (wsV RX7 150 RX4 yX4_wax wsX4_wax) := goodIn_app (goodIn_of _ (by decide +kernel)) ggX7_room_X4_wax
set_option maxRecDepth 20000 in
theorem ggX7_room_X4_candlesIn : GoodIn wsX7_room wsX4_candlesIn := goodIn_r _ [18, 19, 20, 21, 22, 23, 12, 24, 14, 59, 60, 45, 46, 47, 48, 49, 50, 51, 52, 53, 54, 55, 56, 57, 58] (by decide +kernel) (by decide +kernel)
set_option maxRecDepth 20000 in
theorem gX7_room_X4_candlesIn : GoodIn wsX7_room (wsV RX7 153 RX4 yX4_candlesIn wsX4_candlesIn) := goodIn_app (goodIn_of _ (by decide +kernel)) ggX7_room_X4_candlesIn
set_option maxRecDepth 20000 in
theorem ggX7_room_X4_draughtyRooms : GoodIn wsX7_room wsX4_draughtyRooms := goodIn_r _ [28, 19, 29, 14, 30, 31, 32, 7, 33, 59, 60, 45, 46, 47, 48, 49, 50, 51, 52, 53, 54, 55, 56, 57, 58] (by decide +kernel) (by decide +kernel)
set_option maxRecDepth 20000 in
theorem gX7_room_X4_draughtyRooms : GoodIn wsX7_room (wsV RX7 156 RX4 yX4_draughtyRooms wsX4_draughtyRooms) := goodIn_app (goodIn_of _ (by decide +kernel)) ggX7_room_X4_draughtyRooms
set_option maxRecDepth 20000 in
theorem ggX7_room_X7_bit : GoodIn wsX7_room wsX7_bit := goodIn_r _ [33] (by decide +kernel) (by decide +kernel)
set_option maxRecDepth 20000 in
theorem gX7_room_X7_bit : GoodIn wsX7_room (va_wsS RX7 116 yX7_bit wsX7_bit) := goodIn_app (goodIn_of _ (by decide +kernel)) ggX7_room_X7_bit
theorem dX7_room_0 : decode cX7_room 0 = .ok (.iload_n 1, 1) := by decide +kernel
theorem dX7_room_1 : decode cX7_room 1 = .ok (.iconst 0, 1) := by decide +kernel
theorem dX7_room_2 : decode cX7_room 2 = .ok (.aload_n 0, 1) := by decide +kernel
theorem dX7_room_3 : decode cX7_room 3 = .ok (.getfield 16, 3) := by decide +kernel
theorem dX7_room_6 : decode cX7_room 6 = .ok (.getfield 147, 3) := by decide +kernel
theorem dX7_room_9 : decode cX7_room 9 = .ok (.iconst 1, 1) := by decide +kernel
theorem dX7_room_10 : decode cX7_room 10 = .ok (.isub, 1) := by decide +kernel
theorem dX7_room_11 : decode cX7_room 11 = .ok (.invokestatic 66, 3) := by decide +kernel
theorem dX7_room_14 : decode cX7_room 14 = .ok (.ifCond .ne 5, 3) := by decide +kernel
theorem dX7_room_17 : decode cX7_room 17 = .ok (.iconst (-1), 1) := by decide +kernel
theorem dX7_room_18 : decode cX7_room 18 = .ok (.ireturn, 1) := by decide +kernel
theorem dX7_room_19 : decode cX7_room 19 = .ok (.iload_n 2, 1) := by decide +kernel
theorem dX7_room_20 : decode cX7_room 20 = .ok (.tableswitch 81 0 3 #[32, 41, 50, 69], 32) := by decide +kernel
theorem dX7_room_52 : decode cX7_room 52 = .ok (.aload_n 0, 1) := by decide +kernel
theorem dX7_room_53 : decode cX7_room 53 = .ok (.getfield 34, 3) := by decide +kernel
theorem dX7_room_56 : decode cX7_room 56 = .ok (.iload_n 1, 1) := by decide +kernel
theorem dX7_room_57 : decode cX7_room 57 = .ok (.invokevirtual 150, 3) := by decide +kernel
theorem dX7_room_60 : decode cX7_room 60 = .ok (.ireturn, 1) := by decide +kernel
theorem dX7_room_61 : decode cX7_room 61 = .ok (.aload_n 0, 1) := by decide +kernel
theorem dX7_room_62 : decode cX7_room 62 = .ok (.getfield 34, 3) := by decide +kernel
theorem dX7_room_65 : decode cX7_room 65 = .ok (.iload_n 1, 1) := by decide +kernel
theorem dX7_room_66 : decode cX7_room 66 = .ok (.invokevirtual 153, 3) := by decide +kernel
theorem dX7_room_69 : decode cX7_room 69 = .ok (.ireturn, 1) := by decide +kernel
theorem dX7_room_70 : decode cX7_room 70 = .ok (.aload_n 0, 1) := by decide +kernel
theorem dX7_room_71 : decode cX7_room 71 = .ok (.getfield 34, 3) := by decide +kernel
theorem dX7_room_74 : decode cX7_room 74 = .ok (.iload_n 1, 1) := by decide +kernel
theorem dX7_room_75 : decode cX7_room 75 = .ok (.invokevirtual 153, 3) := by decide +kernel
theorem dX7_room_78 : decode cX7_room 78 = .ok (.aload_n 0, 1) := by decide +kernel
theorem dX7_room_79 : decode cX7_room 79 = .ok (.getfield 34, 3) := by decide +kernel
theorem dX7_room_82 : decode cX7_room 82 = .ok (.getfield 113, 3) := by decide +kernel
theorem dX7_room_85 : decode cX7_room 85 = .ok (.iconst 1, 1) := by decide +kernel
theorem dX7_room_86 : decode cX7_room 86 = .ok (.iaload, 1) := by decide +kernel
theorem dX7_room_87 : decode cX7_room 87 = .ok (.iand, 1) := by decide +kernel
theorem dX7_room_88 : decode cX7_room 88 = .ok (.ireturn, 1) := by decide +kernel
theorem dX7_room_89 : decode cX7_room 89 = .ok (.aload_n 0, 1) := by decide +kernel
theorem dX7_room_90 : decode cX7_room 90 = .ok (.getfield 34, 3) := by decide +kernel
theorem dX7_room_93 : decode cX7_room 93 = .ok (.invokevirtual 156, 3) := by decide +kernel
theorem dX7_room_96 : decode cX7_room 96 = .ok (.iload_n 1, 1) := by decide +kernel
theorem dX7_room_97 : decode cX7_room 97 = .ok (.invokestatic 116, 3) := by decide +kernel
theorem dX7_room_100 : decode cX7_room 100 = .ok (.ireturn, 1) := by decide +kernel
theorem dX7_room_101 : decode cX7_room 101 = .ok (.iconst (-1), 1) := by decide +kernel
theorem dX7_room_102 : decode cX7_room 102 = .ok (.ireturn, 1) := by decide +kernel
set_option maxRecDepth 20000 in
theorem ggX7_lights_X7_within : GoodIn wsX7_lights wsX7_within := goodIn_r _ [8] (by decide +kernel) (by decide +kernel)
set_option maxRecDepth 20000 in
theorem gX7_lights_X7_within : GoodIn wsX7_lights (va_wsS RX7 66 yX7_within wsX7_within) := goodIn_app (goodIn_of _ (by decide +kernel)) ggX7_lights_X7_within
set_option maxRecDepth 20000 in
theorem ggX7_lights_X7_bit : GoodIn wsX7_lights wsX7_bit := goodIn_r _ [11] (by decide +kernel) (by decide +kernel)
set_option maxRecDepth 20000 in
theorem gX7_lights_X7_bit : GoodIn wsX7_lights (va_wsS RX7 116 yX7_bit wsX7_bit) := goodIn_app (goodIn_of _ (by decide +kernel)) ggX7_lights_X7_bit
set_option maxRecDepth 20000 in
theorem ggX7_lights_X4_left : GoodIn wsX7_lights wsX4_left := goodIn_r _ [16, 17, 71, 72] (by decide +kernel) (by decide +kernel)
set_option maxRecDepth 20000 in
theorem gX7_lights_X4_left : GoodIn wsX7_lights (wsV RX7 107 RX4 yX4_left wsX4_left) := goodIn_app (goodIn_of _ (by decide +kernel)) ggX7_lights_X4_left
set_option maxRecDepth 20000 in
theorem ggX7_lights_X7_turn : GoodIn wsX7_lights wsX7_turn := goodIn_r _ [21, 22, 3, 4, 23, 24, 25, 26, 27, 28, 29, 30, 31, 32, 33, 34, 35, 36, 37, 38, 39, 40, 41, 42, 43, 44, 45, 46, 47, 48, 49, 50, 51, 52, 53, 54, 55, 56, 71, 72, 73, 74, 75] (by decide +kernel) (by decide +kernel)
set_option maxRecDepth 20000 in
theorem gX7_lights_X7_turn : GoodIn wsX7_lights (wsV RX7 160 RX7 yX7_turn wsX7_turn) := goodIn_app (goodIn_of _ (by decide +kernel)) ggX7_lights_X7_turn
theorem dX7_lights_0 : decode cX7_lights 0 = .ok (.iload_n 1, 1) := by decide +kernel
theorem dX7_lights_1 : decode cX7_lights 1 = .ok (.iconst 0, 1) := by decide +kernel
theorem dX7_lights_2 : decode cX7_lights 2 = .ok (.aload_n 0, 1) := by decide +kernel
theorem dX7_lights_3 : decode cX7_lights 3 = .ok (.getfield 16, 3) := by decide +kernel
theorem dX7_lights_6 : decode cX7_lights 6 = .ok (.getfield 100, 3) := by decide +kernel
theorem dX7_lights_9 : decode cX7_lights 9 = .ok (.iconst 1, 1) := by decide +kernel
theorem dX7_lights_10 : decode cX7_lights 10 = .ok (.isub, 1) := by decide +kernel
theorem dX7_lights_11 : decode cX7_lights 11 = .ok (.invokestatic 66, 3) := by decide +kernel
theorem dX7_lights_14 : decode cX7_lights 14 = .ok (.ifCond .eq 12, 3) := by decide +kernel
theorem dX7_lights_17 : decode cX7_lights 17 = .ok (.iload_n 2, 1) := by decide +kernel
theorem dX7_lights_18 : decode cX7_lights 18 = .ok (.iconst 0, 1) := by decide +kernel
theorem dX7_lights_19 : decode cX7_lights 19 = .ok (.iconst 1, 1) := by decide +kernel
theorem dX7_lights_20 : decode cX7_lights 20 = .ok (.invokestatic 66, 3) := by decide +kernel
theorem dX7_lights_23 : decode cX7_lights 23 = .ok (.ifCond .ne 5, 3) := by decide +kernel
theorem dX7_lights_26 : decode cX7_lights 26 = .ok (.iconst (-1), 1) := by decide +kernel
theorem dX7_lights_27 : decode cX7_lights 27 = .ok (.ireturn, 1) := by decide +kernel
theorem dX7_lights_28 : decode cX7_lights 28 = .ok (.aload_n 0, 1) := by decide +kernel
theorem dX7_lights_29 : decode cX7_lights 29 = .ok (.getfield 34, 3) := by decide +kernel
theorem dX7_lights_32 : decode cX7_lights 32 = .ok (.getfield 113, 3) := by decide +kernel
theorem dX7_lights_35 : decode cX7_lights 35 = .ok (.iconst 1, 1) := by decide +kernel
theorem dX7_lights_36 : decode cX7_lights 36 = .ok (.iaload, 1) := by decide +kernel
theorem dX7_lights_37 : decode cX7_lights 37 = .ok (.iload_n 1, 1) := by decide +kernel
theorem dX7_lights_38 : decode cX7_lights 38 = .ok (.invokestatic 116, 3) := by decide +kernel
theorem dX7_lights_41 : decode cX7_lights 41 = .ok (.iload_n 2, 1) := by decide +kernel
theorem dX7_lights_42 : decode cX7_lights 42 = .ok (.if_icmp .eq 14, 3) := by decide +kernel
theorem dX7_lights_45 : decode cX7_lights 45 = .ok (.aload_n 0, 1) := by decide +kernel
theorem dX7_lights_46 : decode cX7_lights 46 = .ok (.getfield 34, 3) := by decide +kernel
theorem dX7_lights_49 : decode cX7_lights 49 = .ok (.iload_n 1, 1) := by decide +kernel
theorem dX7_lights_50 : decode cX7_lights 50 = .ok (.invokevirtual 107, 3) := by decide +kernel
theorem dX7_lights_53 : decode cX7_lights 53 = .ok (.ifCond .ne 6, 3) := by decide +kernel
theorem dX7_lights_56 : decode cX7_lights 56 = .ok (.bipush (-2), 2) := by decide +kernel
theorem dX7_lights_58 : decode cX7_lights 58 = .ok (.ireturn, 1) := by decide +kernel
theorem dX7_lights_59 : decode cX7_lights 59 = .ok (.aload_n 0, 1) := by decide +kernel
theorem dX7_lights_60 : decode cX7_lights 60 = .ok (.iconst 1, 1) := by decide +kernel
theorem dX7_lights_61 : decode cX7_lights 61 = .ok (.iload_n 1, 1) := by decide +kernel
theorem dX7_lights_62 : decode cX7_lights 62 = .ok (.invokevirtual 160, 3) := by decide +kernel
theorem dX7_lights_65 : decode cX7_lights 65 = .ok (.ireturn, 1) := by decide +kernel
set_option maxRecDepth 20000 in
theorem ggX7_carries_X7_within : GoodIn wsX7_carries wsX7_within := goodIn_r _ [10] (by decide +kernel) (by decide +kernel)
set_option maxRecDepth 20000 in
theorem gX7_carries_X7_within : GoodIn wsX7_carries (va_wsS RX7 66 yX7_within wsX7_within) := goodIn_app (goodIn_of _ (by decide +kernel)) ggX7_carries_X7_within
set_option maxRecDepth 20000 in
theorem ggX7_carries_X4_roomOf : GoodIn wsX7_carries wsX4_roomOf := goodIn_r _ [15, 16, 68, 69] (by decide +kernel) (by decide +kernel)
set_option maxRecDepth 20000 in
theorem gX7_carries_X4_roomOf : GoodIn wsX7_carries (wsV RX7 110 RX4 yX4_roomOf wsX4_roomOf) := goodIn_app (goodIn_of _ (by decide +kernel)) ggX7_carries_X4_roomOf
set_option maxRecDepth 20000 in
theorem ggX7_carries_X4_openBetween : GoodIn wsX7_carries wsX4_openBetween := goodIn_r _ [20, 21, 22, 23, 24, 16, 25, 9, 26, 68, 69, 54, 55, 56, 57, 58, 59, 60, 61, 62, 63, 64, 65, 66, 67] (by decide +kernel) (by decide +kernel)
set_option maxRecDepth 20000 in
theorem gX7_carries_X4_openBetween : GoodIn wsX7_carries (wsV RX7 163 RX4 yX4_openBetween wsX4_openBetween) := goodIn_app (goodIn_of _ (by decide +kernel)) ggX7_carries_X4_openBetween
set_option maxRecDepth 20000 in
theorem ggX7_carries_X5_remember : GoodIn wsX7_carries wsX5_remember := goodIn_r _ [31, 32, 33, 34, 35, 36, 37, 38, 39, 40, 41, 42, 43, 68, 69, 70, 71, 72] (by decide +kernel) (by decide +kernel)
set_option maxRecDepth 20000 in
theorem gX7_carries_X5_remember : GoodIn wsX7_carries (wsV RX7 167 RX5 yX5_remember wsX5_remember) := goodIn_app (goodIn_of _ (by decide +kernel)) ggX7_carries_X5_remember
theorem dX7_carries_0 : decode cX7_carries 0 = .ok (.iload_n 1, 1) := by decide +kernel
theorem dX7_carries_1 : decode cX7_carries 1 = .ok (.iconst 0, 1) := by decide +kernel
theorem dX7_carries_2 : decode cX7_carries 2 = .ok (.aload_n 0, 1) := by decide +kernel
theorem dX7_carries_3 : decode cX7_carries 3 = .ok (.getfield 16, 3) := by decide +kernel
theorem dX7_carries_6 : decode cX7_carries 6 = .ok (.getfield 100, 3) := by decide +kernel
theorem dX7_carries_9 : decode cX7_carries 9 = .ok (.iconst 1, 1) := by decide +kernel
theorem dX7_carries_10 : decode cX7_carries 10 = .ok (.isub, 1) := by decide +kernel
theorem dX7_carries_11 : decode cX7_carries 11 = .ok (.invokestatic 66, 3) := by decide +kernel
theorem dX7_carries_14 : decode cX7_carries 14 = .ok (.ifCond .eq 20, 3) := by decide +kernel
theorem dX7_carries_17 : decode cX7_carries 17 = .ok (.iload_n 2, 1) := by decide +kernel
theorem dX7_carries_18 : decode cX7_carries 18 = .ok (.iconst 0, 1) := by decide +kernel
theorem dX7_carries_19 : decode cX7_carries 19 = .ok (.aload_n 0, 1) := by decide +kernel
theorem dX7_carries_20 : decode cX7_carries 20 = .ok (.getfield 16, 3) := by decide +kernel
theorem dX7_carries_23 : decode cX7_carries 23 = .ok (.getfield 147, 3) := by decide +kernel
theorem dX7_carries_26 : decode cX7_carries 26 = .ok (.iconst 1, 1) := by decide +kernel
theorem dX7_carries_27 : decode cX7_carries 27 = .ok (.isub, 1) := by decide +kernel
theorem dX7_carries_28 : decode cX7_carries 28 = .ok (.invokestatic 66, 3) := by decide +kernel
theorem dX7_carries_31 : decode cX7_carries 31 = .ok (.ifCond .ne 5, 3) := by decide +kernel
theorem dX7_carries_34 : decode cX7_carries 34 = .ok (.iconst (-1), 1) := by decide +kernel
theorem dX7_carries_35 : decode cX7_carries 35 = .ok (.ireturn, 1) := by decide +kernel
theorem dX7_carries_36 : decode cX7_carries 36 = .ok (.aload_n 0, 1) := by decide +kernel
theorem dX7_carries_37 : decode cX7_carries 37 = .ok (.getfield 34, 3) := by decide +kernel
theorem dX7_carries_40 : decode cX7_carries 40 = .ok (.iload_n 1, 1) := by decide +kernel
theorem dX7_carries_41 : decode cX7_carries 41 = .ok (.invokevirtual 110, 3) := by decide +kernel
theorem dX7_carries_44 : decode cX7_carries 44 = .ok (.istore_n 3, 1) := by decide +kernel
theorem dX7_carries_45 : decode cX7_carries 45 = .ok (.iload_n 3, 1) := by decide +kernel
theorem dX7_carries_46 : decode cX7_carries 46 = .ok (.iload_n 2, 1) := by decide +kernel
theorem dX7_carries_47 : decode cX7_carries 47 = .ok (.if_icmp .eq 15, 3) := by decide +kernel
theorem dX7_carries_50 : decode cX7_carries 50 = .ok (.aload_n 0, 1) := by decide +kernel
theorem dX7_carries_51 : decode cX7_carries 51 = .ok (.getfield 34, 3) := by decide +kernel
theorem dX7_carries_54 : decode cX7_carries 54 = .ok (.iload_n 3, 1) := by decide +kernel
theorem dX7_carries_55 : decode cX7_carries 55 = .ok (.iload_n 2, 1) := by decide +kernel
theorem dX7_carries_56 : decode cX7_carries 56 = .ok (.invokevirtual 163, 3) := by decide +kernel
theorem dX7_carries_59 : decode cX7_carries 59 = .ok (.ifCond .ne 6, 3) := by decide +kernel
theorem dX7_carries_62 : decode cX7_carries 62 = .ok (.bipush (-2), 2) := by decide +kernel
theorem dX7_carries_64 : decode cX7_carries 64 = .ok (.ireturn, 1) := by decide +kernel
theorem dX7_carries_65 : decode cX7_carries 65 = .ok (.aload_n 0, 1) := by decide +kernel
theorem dX7_carries_66 : decode cX7_carries 66 = .ok (.getfield 41, 3) := by decide +kernel
theorem dX7_carries_69 : decode cX7_carries 69 = .ok (.aload_n 0, 1) := by decide +kernel
theorem dX7_carries_70 : decode cX7_carries 70 = .ok (.getfield 34, 3) := by decide +kernel
theorem dX7_carries_73 : decode cX7_carries 73 = .ok (.invokevirtual 167, 3) := by decide +kernel
theorem dX7_carries_76 : decode cX7_carries 76 = .ok (.aload_n 0, 1) := by decide +kernel
theorem dX7_carries_77 : decode cX7_carries 77 = .ok (.getfield 34, 3) := by decide +kernel
theorem dX7_carries_80 : decode cX7_carries 80 = .ok (.getfield 113, 3) := by decide +kernel
theorem dX7_carries_83 : decode cX7_carries 83 = .ok (.bipush 10, 2) := by decide +kernel
theorem dX7_carries_85 : decode cX7_carries 85 = .ok (.iload_n 1, 1) := by decide +kernel
theorem dX7_carries_86 : decode cX7_carries 86 = .ok (.iadd, 1) := by decide +kernel
theorem dX7_carries_87 : decode cX7_carries 87 = .ok (.iload_n 2, 1) := by decide +kernel
theorem dX7_carries_88 : decode cX7_carries 88 = .ok (.iastore, 1) := by decide +kernel
theorem dX7_carries_89 : decode cX7_carries 89 = .ok (.iload_n 3, 1) := by decide +kernel
theorem dX7_carries_90 : decode cX7_carries 90 = .ok (.ireturn, 1) := by decide +kernel
set_option maxRecDepth 20000 in
theorem ggX7_shields_X7_within : GoodIn wsX7_shields wsX7_within := goodIn_r _ [8] (by decide +kernel) (by decide +kernel)
set_option maxRecDepth 20000 in
theorem gX7_shields_X7_within : GoodIn wsX7_shields (va_wsS RX7 66 yX7_within wsX7_within) := goodIn_app (goodIn_of _ (by decide +kernel)) ggX7_shields_X7_within
set_option maxRecDepth 20000 in
theorem ggX7_shields_X7_bit : GoodIn wsX7_shields wsX7_bit := goodIn_r _ [11] (by decide +kernel) (by decide +kernel)
set_option maxRecDepth 20000 in
theorem gX7_shields_X7_bit : GoodIn wsX7_shields (va_wsS RX7 116 yX7_bit wsX7_bit) := goodIn_app (goodIn_of _ (by decide +kernel)) ggX7_shields_X7_bit
set_option maxRecDepth 20000 in
theorem ggX7_shields_X7_turn : GoodIn wsX7_shields wsX7_turn := goodIn_r _ [15, 16, 3, 4, 17, 18, 19, 20, 21, 22, 23, 24, 25, 26, 27, 28, 29, 30, 31, 32, 33, 34, 35, 36, 37, 38, 39, 40, 41, 42, 43, 44, 45, 46, 47, 48, 49, 50, 65, 66, 67, 68, 69] (by decide +kernel) (by decide +kernel)
set_option maxRecDepth 20000 in
theorem gX7_shields_X7_turn : GoodIn wsX7_shields (wsV RX7 160 RX7 yX7_turn wsX7_turn) := goodIn_app (goodIn_of _ (by decide +kernel)) ggX7_shields_X7_turn
theorem dX7_shields_0 : decode cX7_shields 0 = .ok (.iload_n 1, 1) := by decide +kernel
theorem dX7_shields_1 : decode cX7_shields 1 = .ok (.iconst 0, 1) := by decide +kernel
theorem dX7_shields_2 : decode cX7_shields 2 = .ok (.aload_n 0, 1) := by decide +kernel
theorem dX7_shields_3 : decode cX7_shields 3 = .ok (.getfield 16, 3) := by decide +kernel
theorem dX7_shields_6 : decode cX7_shields 6 = .ok (.getfield 100, 3) := by decide +kernel
theorem dX7_shields_9 : decode cX7_shields 9 = .ok (.iconst 1, 1) := by decide +kernel
theorem dX7_shields_10 : decode cX7_shields 10 = .ok (.isub, 1) := by decide +kernel
theorem dX7_shields_11 : decode cX7_shields 11 = .ok (.invokestatic 66, 3) := by decide +kernel
theorem dX7_shields_14 : decode cX7_shields 14 = .ok (.ifCond .eq 12, 3) := by decide +kernel
theorem dX7_shields_17 : decode cX7_shields 17 = .ok (.iload_n 2, 1) := by decide +kernel
theorem dX7_shields_18 : decode cX7_shields 18 = .ok (.iconst 0, 1) := by decide +kernel
theorem dX7_shields_19 : decode cX7_shields 19 = .ok (.iconst 1, 1) := by decide +kernel
theorem dX7_shields_20 : decode cX7_shields 20 = .ok (.invokestatic 66, 3) := by decide +kernel
theorem dX7_shields_23 : decode cX7_shields 23 = .ok (.ifCond .ne 5, 3) := by decide +kernel
theorem dX7_shields_26 : decode cX7_shields 26 = .ok (.iconst (-1), 1) := by decide +kernel
theorem dX7_shields_27 : decode cX7_shields 27 = .ok (.ireturn, 1) := by decide +kernel
theorem dX7_shields_28 : decode cX7_shields 28 = .ok (.aload_n 0, 1) := by decide +kernel
theorem dX7_shields_29 : decode cX7_shields 29 = .ok (.getfield 34, 3) := by decide +kernel
theorem dX7_shields_32 : decode cX7_shields 32 = .ok (.getfield 113, 3) := by decide +kernel
theorem dX7_shields_35 : decode cX7_shields 35 = .ok (.iconst 2, 1) := by decide +kernel
theorem dX7_shields_36 : decode cX7_shields 36 = .ok (.iaload, 1) := by decide +kernel
theorem dX7_shields_37 : decode cX7_shields 37 = .ok (.iload_n 1, 1) := by decide +kernel
theorem dX7_shields_38 : decode cX7_shields 38 = .ok (.invokestatic 116, 3) := by decide +kernel
theorem dX7_shields_41 : decode cX7_shields 41 = .ok (.iload_n 2, 1) := by decide +kernel
theorem dX7_shields_42 : decode cX7_shields 42 = .ok (.if_icmp .ne 6, 3) := by decide +kernel
theorem dX7_shields_45 : decode cX7_shields 45 = .ok (.bipush (-2), 2) := by decide +kernel
theorem dX7_shields_47 : decode cX7_shields 47 = .ok (.ireturn, 1) := by decide +kernel
theorem dX7_shields_48 : decode cX7_shields 48 = .ok (.aload_n 0, 1) := by decide +kernel
theorem dX7_shields_49 : decode cX7_shields 49 = .ok (.iconst 2, 1) := by decide +kernel
theorem dX7_shields_50 : decode cX7_shields 50 = .ok (.iload_n 1, 1) := by decide +kernel
theorem dX7_shields_51 : decode cX7_shields 51 = .ok (.invokevirtual 160, 3) := by decide +kernel
theorem dX7_shields_54 : decode cX7_shields 54 = .ok (.ireturn, 1) := by decide +kernel
set_option maxRecDepth 20000 in
theorem ggX7_opens_X7_within : GoodIn wsX7_opens wsX7_within := goodIn_r _ [8] (by decide +kernel) (by decide +kernel)
set_option maxRecDepth 20000 in
theorem gX7_opens_X7_within : GoodIn wsX7_opens (va_wsS RX7 66 yX7_within wsX7_within) := goodIn_app (goodIn_of _ (by decide +kernel)) ggX7_opens_X7_within
set_option maxRecDepth 20000 in
theorem ggX7_opens_X7_bit : GoodIn wsX7_opens wsX7_bit := goodIn_r _ [11] (by decide +kernel) (by decide +kernel)
set_option maxRecDepth 20000 in
theorem gX7_opens_X7_bit : GoodIn wsX7_opens (va_wsS RX7 116 yX7_bit wsX7_bit) := goodIn_app (goodIn_of _ (by decide +kernel)) ggX7_opens_X7_bit
set_option maxRecDepth 20000 in
theorem ggX7_opens_X7_turn : GoodIn wsX7_opens wsX7_turn := goodIn_r _ [15, 16, 3, 4, 17, 18, 19, 20, 21, 22, 23, 24, 25, 26, 27, 28, 29, 30, 31, 32, 33, 34, 35, 36, 37, 38, 39, 40, 41, 42, 43, 44, 45, 46, 47, 48, 49, 50, 65, 66, 67, 68, 69] (by decide +kernel) (by decide +kernel)
set_option maxRecDepth 20000 in
theorem gX7_opens_X7_turn : GoodIn wsX7_opens (wsV RX7 160 RX7 yX7_turn wsX7_turn) := goodIn_app (goodIn_of _ (by decide +kernel)) ggX7_opens_X7_turn
theorem dX7_opens_0 : decode cX7_opens 0 = .ok (.iload_n 1, 1) := by decide +kernel
theorem dX7_opens_1 : decode cX7_opens 1 = .ok (.iconst 0, 1) := by decide +kernel
theorem dX7_opens_2 : decode cX7_opens 2 = .ok (.aload_n 0, 1) := by decide +kernel
theorem dX7_opens_3 : decode cX7_opens 3 = .ok (.getfield 16, 3) := by decide +kernel
theorem dX7_opens_6 : decode cX7_opens 6 = .ok (.getfield 120, 3) := by decide +kernel
theorem dX7_opens_9 : decode cX7_opens 9 = .ok (.iconst 1, 1) := by decide +kernel
theorem dX7_opens_10 : decode cX7_opens 10 = .ok (.isub, 1) := by decide +kernel
theorem dX7_opens_11 : decode cX7_opens 11 = .ok (.invokestatic 66, 3) := by decide +kernel
theorem dX7_opens_14 : decode cX7_opens 14 = .ok (.ifCond .eq 12, 3) := by decide +kernel
theorem dX7_opens_17 : decode cX7_opens 17 = .ok (.iload_n 2, 1) := by decide +kernel
theorem dX7_opens_18 : decode cX7_opens 18 = .ok (.iconst 0, 1) := by decide +kernel
theorem dX7_opens_19 : decode cX7_opens 19 = .ok (.iconst 1, 1) := by decide +kernel
theorem dX7_opens_20 : decode cX7_opens 20 = .ok (.invokestatic 66, 3) := by decide +kernel
theorem dX7_opens_23 : decode cX7_opens 23 = .ok (.ifCond .ne 5, 3) := by decide +kernel
theorem dX7_opens_26 : decode cX7_opens 26 = .ok (.iconst (-1), 1) := by decide +kernel
theorem dX7_opens_27 : decode cX7_opens 27 = .ok (.ireturn, 1) := by decide +kernel
theorem dX7_opens_28 : decode cX7_opens 28 = .ok (.aload_n 0, 1) := by decide +kernel
theorem dX7_opens_29 : decode cX7_opens 29 = .ok (.getfield 34, 3) := by decide +kernel
theorem dX7_opens_32 : decode cX7_opens 32 = .ok (.getfield 113, 3) := by decide +kernel
theorem dX7_opens_35 : decode cX7_opens 35 = .ok (.iconst 3, 1) := by decide +kernel
theorem dX7_opens_36 : decode cX7_opens 36 = .ok (.iaload, 1) := by decide +kernel
theorem dX7_opens_37 : decode cX7_opens 37 = .ok (.iload_n 1, 1) := by decide +kernel
theorem dX7_opens_38 : decode cX7_opens 38 = .ok (.invokestatic 116, 3) := by decide +kernel
theorem dX7_opens_41 : decode cX7_opens 41 = .ok (.iload_n 2, 1) := by decide +kernel
theorem dX7_opens_42 : decode cX7_opens 42 = .ok (.if_icmp .ne 6, 3) := by decide +kernel
theorem dX7_opens_45 : decode cX7_opens 45 = .ok (.bipush (-2), 2) := by decide +kernel
theorem dX7_opens_47 : decode cX7_opens 47 = .ok (.ireturn, 1) := by decide +kernel
theorem dX7_opens_48 : decode cX7_opens 48 = .ok (.aload_n 0, 1) := by decide +kernel
theorem dX7_opens_49 : decode cX7_opens 49 = .ok (.iconst 3, 1) := by decide +kernel
theorem dX7_opens_50 : decode cX7_opens 50 = .ok (.iload_n 1, 1) := by decide +kernel
theorem dX7_opens_51 : decode cX7_opens 51 = .ok (.invokevirtual 160, 3) := by decide +kernel
theorem dX7_opens_54 : decode cX7_opens 54 = .ok (.ireturn, 1) := by decide +kernel
set_option maxRecDepth 20000 in
theorem ggX7_begins_X7_within : GoodIn wsX7_begins wsX7_within := goodIn_r _ [8] (by decide +kernel) (by decide +kernel)
set_option maxRecDepth 20000 in
theorem gX7_begins_X7_within : GoodIn wsX7_begins (va_wsS RX7 66 yX7_within wsX7_within) := goodIn_app (goodIn_of _ (by decide +kernel)) ggX7_begins_X7_within
set_option maxRecDepth 20000 in
theorem ggX7_begins_X4_stage : GoodIn wsX7_begins wsX4_stage := goodIn_r _ [13, 14, 74, 75] (by decide +kernel) (by decide +kernel)
set_option maxRecDepth 20000 in
theorem gX7_begins_X4_stage : GoodIn wsX7_begins (wsV RX7 144 RX4 yX4_stage wsX4_stage) := goodIn_app (goodIn_of _ (by decide +kernel)) ggX7_begins_X4_stage
set_option maxRecDepth 20000 in
theorem ggX7_begins_X5_remember : GoodIn wsX7_begins wsX5_remember := goodIn_r _ [19, 20, 21, 22, 23, 24, 25, 26, 27, 28, 29, 30, 31, 74, 75, 76, 77, 78] (by decide +kernel) (by decide +kernel)
set_option maxRecDepth 20000 in
theorem gX7_begins_X5_remember : GoodIn wsX7_begins (wsV RX7 167 RX5 yX5_remember wsX5_remember) := goodIn_app (goodIn_of _ (by decide +kernel)) ggX7_begins_X5_remember
set_option maxRecDepth 20000 in
theorem ggX7_begins_X4_beginIfNot : GoodIn wsX7_begins wsX4_beginIfNot := goodIn_r _ [35, 14, 36, 10, 11, 12, 13, 74, 75] (by decide +kernel) (by decide +kernel)
set_option maxRecDepth 20000 in
theorem gX7_begins_X4_beginIfNot : GoodIn wsX7_begins (wsV RX7 171 RX4 yX4_beginIfNot wsX4_beginIfNot) := goodIn_app (goodIn_of _ (by decide +kernel)) ggX7_begins_X4_beginIfNot
set_option maxRecDepth 20000 in
theorem ggX7_begins_X4_actsThatAre : GoodIn wsX7_begins wsX4_actsThatAre := goodIn_r _ [40, 41, 42, 36, 10, 11, 12, 13, 14, 74, 75, 60, 61, 62, 63, 64, 65, 66, 67, 68, 69, 70, 71, 72, 73] (by decide +kernel) (by decide +kernel)
set_option maxRecDepth 20000 in
theorem gX7_begins_X4_actsThatAre : GoodIn wsX7_begins (wsV RX7 175 RX4 yX4_actsThatAre wsX4_actsThatAre) := goodIn_app (goodIn_of _ (by decide +kernel)) ggX7_begins_X4_actsThatAre
set_option maxRecDepth 20000 in
theorem ggX7_begins_J6_bitCount_0f7a4 : GoodIn wsX7_begins wsJ6_bitCount_0f7a4 := goodIn_r _ [46, 47, 48, 49] (by decide +kernel) (by decide +kernel)
set_option maxRecDepth 20000 in
theorem gX7_begins_J6_bitCount_0f7a4 : GoodIn wsX7_begins (va_wsS RX7 178 yJ6_bitCount_0f7a4 wsJ6_bitCount_0f7a4) := goodIn_app (goodIn_of _ (by decide +kernel)) ggX7_begins_J6_bitCount_0f7a4
theorem dX7_begins_0 : decode cX7_begins 0 = .ok (.iload_n 1, 1) := by decide +kernel
theorem dX7_begins_1 : decode cX7_begins 1 = .ok (.iconst 0, 1) := by decide +kernel
theorem dX7_begins_2 : decode cX7_begins 2 = .ok (.aload_n 0, 1) := by decide +kernel
theorem dX7_begins_3 : decode cX7_begins 3 = .ok (.getfield 16, 3) := by decide +kernel
theorem dX7_begins_6 : decode cX7_begins 6 = .ok (.getfield 129, 3) := by decide +kernel
theorem dX7_begins_9 : decode cX7_begins 9 = .ok (.iconst 1, 1) := by decide +kernel
theorem dX7_begins_10 : decode cX7_begins 10 = .ok (.isub, 1) := by decide +kernel
theorem dX7_begins_11 : decode cX7_begins 11 = .ok (.invokestatic 66, 3) := by decide +kernel
theorem dX7_begins_14 : decode cX7_begins 14 = .ok (.ifCond .ne 5, 3) := by decide +kernel
theorem dX7_begins_17 : decode cX7_begins 17 = .ok (.iconst (-1), 1) := by decide +kernel
theorem dX7_begins_18 : decode cX7_begins 18 = .ok (.ireturn, 1) := by decide +kernel
theorem dX7_begins_19 : decode cX7_begins 19 = .ok (.aload_n 0, 1) := by decide +kernel
theorem dX7_begins_20 : decode cX7_begins 20 = .ok (.getfield 34, 3) := by decide +kernel
theorem dX7_begins_23 : decode cX7_begins 23 = .ok (.iload_n 1, 1) := by decide +kernel
theorem dX7_begins_24 : decode cX7_begins 24 = .ok (.invokevirtual 144, 3) := by decide +kernel
theorem dX7_begins_27 : decode cX7_begins 27 = .ok (.ifCond .eq 6, 3) := by decide +kernel
theorem dX7_begins_30 : decode cX7_begins 30 = .ok (.bipush (-2), 2) := by decide +kernel
theorem dX7_begins_32 : decode cX7_begins 32 = .ok (.ireturn, 1) := by decide +kernel
theorem dX7_begins_33 : decode cX7_begins 33 = .ok (.aload_n 0, 1) := by decide +kernel
theorem dX7_begins_34 : decode cX7_begins 34 = .ok (.getfield 41, 3) := by decide +kernel
theorem dX7_begins_37 : decode cX7_begins 37 = .ok (.aload_n 0, 1) := by decide +kernel
theorem dX7_begins_38 : decode cX7_begins 38 = .ok (.getfield 34, 3) := by decide +kernel
theorem dX7_begins_41 : decode cX7_begins 41 = .ok (.invokevirtual 167, 3) := by decide +kernel
theorem dX7_begins_44 : decode cX7_begins 44 = .ok (.aload_n 0, 1) := by decide +kernel
theorem dX7_begins_45 : decode cX7_begins 45 = .ok (.getfield 34, 3) := by decide +kernel
theorem dX7_begins_48 : decode cX7_begins 48 = .ok (.iload_n 1, 1) := by decide +kernel
theorem dX7_begins_49 : decode cX7_begins 49 = .ok (.invokevirtual 171, 3) := by decide +kernel
theorem dX7_begins_52 : decode cX7_begins 52 = .ok (.aload_n 0, 1) := by decide +kernel
theorem dX7_begins_53 : decode cX7_begins 53 = .ok (.getfield 34, 3) := by decide +kernel
theorem dX7_begins_56 : decode cX7_begins 56 = .ok (.iconst 1, 1) := by decide +kernel
theorem dX7_begins_57 : decode cX7_begins 57 = .ok (.invokevirtual 175, 3) := by decide +kernel
theorem dX7_begins_60 : decode cX7_begins 60 = .ok (.invokestatic 178, 3) := by decide +kernel
theorem dX7_begins_63 : decode cX7_begins 63 = .ok (.ireturn, 1) := by decide +kernel
set_option maxRecDepth 20000 in
theorem ggX7_minutes_X7_within : GoodIn wsX7_minutes wsX7_within := goodIn_r _ [6] (by decide +kernel) (by decide +kernel)
set_option maxRecDepth 20000 in
theorem gX7_minutes_X7_within : GoodIn wsX7_minutes (va_wsS RX7 66 yX7_within wsX7_within) := goodIn_app (goodIn_of _ (by decide +kernel)) ggX7_minutes_X7_within
set_option maxRecDepth 20000 in
theorem ggX7_minutes_X4_minute : GoodIn wsX7_minutes wsX4_minute := goodIn_r _ [11, 12, 98, 99] (by decide +kernel) (by decide +kernel)
set_option maxRecDepth 20000 in
theorem gX7_minutes_X4_minute : GoodIn wsX7_minutes (wsV RX7 183 RX4 yX4_minute wsX4_minute) := goodIn_app (goodIn_of _ (by decide +kernel)) ggX7_minutes_X4_minute
set_option maxRecDepth 20000 in
theorem ggX7_minutes_X5_remember : GoodIn wsX7_minutes wsX5_remember := goodIn_r _ [17, 18, 19, 20, 21, 22, 23, 24, 25, 26, 27, 28, 29, 98, 99, 100, 101, 102] (by decide +kernel) (by decide +kernel)
set_option maxRecDepth 20000 in
theorem gX7_minutes_X5_remember : GoodIn wsX7_minutes (wsV RX7 167 RX5 yX5_remember wsX5_remember) := goodIn_app (goodIn_of _ (by decide +kernel)) ggX7_minutes_X5_remember
set_option maxRecDepth 20000 in
theorem ggX7_minutes_X4_windBlows : GoodIn wsX7_minutes wsX4_windBlows := goodIn_r _ [33, 34, 35, 36, 37, 8, 9, 10, 11, 12, 98, 99, 103, 104, 105, 106, 107, 108, 109, 110, 111, 112, 113, 114, 115, 116] (by decide +kernel) (by decide +kernel)
set_option maxRecDepth 20000 in
theorem gX7_minutes_X4_windBlows : GoodIn wsX7_minutes (wsV RX7 186 RX4 yX4_windBlows wsX4_windBlows) := goodIn_app (goodIn_of _ (by decide +kernel)) ggX7_minutes_X4_windBlows
set_option maxRecDepth 20000 in
theorem ggX7_minutes_X4_pass : GoodIn wsX7_minutes wsX4_pass := goodIn_r _ [41, 12, 42, 43, 44, 10, 45, 34, 46, 47, 48, 49, 50, 51, 52, 53, 54, 5, 55, 56, 57, 58, 59, 60, 61, 62, 63, 64, 65, 66, 67, 68, 69, 70, 71, 72, 73, 74, 75, 76, 77, 78, 79, 80, 81, 82, 83, 84, 85, 86, 87, 98, 99, 103, 104, 105, 106, 107, 108, 109, 110, 111, 112, 113, 114, 115, 116] (by decide +kernel) (by decide +kernel)
set_option maxRecDepth 20000 in
theorem gX7_minutes_X4_pass : GoodIn wsX7_minutes (wsV RX7 190 RX4 yX4_pass wsX4_pass) := goodIn_app (goodIn_of _ (by decide +kernel)) ggX7_minutes_X4_pass
theorem dX7_minutes_0 : decode cX7_minutes 0 = .ok (.iload_n 1, 1) := by decide +kernel
theorem dX7_minutes_1 : decode cX7_minutes 1 = .ok (.iconst 1, 1) := by decide +kernel
theorem dX7_minutes_2 : decode cX7_minutes 2 = .ok (.bipush 60, 2) := by decide +kernel
theorem dX7_minutes_4 : decode cX7_minutes 4 = .ok (.invokestatic 66, 3) := by decide +kernel
theorem dX7_minutes_7 : decode cX7_minutes 7 = .ok (.ifCond .ne 5, 3) := by decide +kernel
theorem dX7_minutes_10 : decode cX7_minutes 10 = .ok (.iconst (-1), 1) := by decide +kernel
theorem dX7_minutes_11 : decode cX7_minutes 11 = .ok (.ireturn, 1) := by decide +kernel
theorem dX7_minutes_12 : decode cX7_minutes 12 = .ok (.aload_n 0, 1) := by decide +kernel
theorem dX7_minutes_13 : decode cX7_minutes 13 = .ok (.getfield 34, 3) := by decide +kernel
theorem dX7_minutes_16 : decode cX7_minutes 16 = .ok (.invokevirtual 183, 3) := by decide +kernel
theorem dX7_minutes_19 : decode cX7_minutes 19 = .ok (.iload_n 1, 1) := by decide +kernel
theorem dX7_minutes_20 : decode cX7_minutes 20 = .ok (.iadd, 1) := by decide +kernel
theorem dX7_minutes_21 : decode cX7_minutes 21 = .ok (.sipush 999, 3) := by decide +kernel
theorem dX7_minutes_24 : decode cX7_minutes 24 = .ok (.if_icmp .le 6, 3) := by decide +kernel
theorem dX7_minutes_27 : decode cX7_minutes 27 = .ok (.bipush (-2), 2) := by decide +kernel
theorem dX7_minutes_29 : decode cX7_minutes 29 = .ok (.ireturn, 1) := by decide +kernel
theorem dX7_minutes_30 : decode cX7_minutes 30 = .ok (.iconst 0, 1) := by decide +kernel
theorem dX7_minutes_31 : decode cX7_minutes 31 = .ok (.istore_n 2, 1) := by decide +kernel
theorem dX7_minutes_32 : decode cX7_minutes 32 = .ok (.iconst 0, 1) := by decide +kernel
theorem dX7_minutes_33 : decode cX7_minutes 33 = .ok (.istore_n 3, 1) := by decide +kernel
theorem dX7_minutes_34 : decode cX7_minutes 34 = .ok (.iload_n 3, 1) := by decide +kernel
theorem dX7_minutes_35 : decode cX7_minutes 35 = .ok (.iload_n 1, 1) := by decide +kernel
theorem dX7_minutes_36 : decode cX7_minutes 36 = .ok (.if_icmp .ge 37, 3) := by decide +kernel
theorem dX7_minutes_39 : decode cX7_minutes 39 = .ok (.aload_n 0, 1) := by decide +kernel
theorem dX7_minutes_40 : decode cX7_minutes 40 = .ok (.getfield 41, 3) := by decide +kernel
theorem dX7_minutes_43 : decode cX7_minutes 43 = .ok (.aload_n 0, 1) := by decide +kernel
theorem dX7_minutes_44 : decode cX7_minutes 44 = .ok (.getfield 34, 3) := by decide +kernel
theorem dX7_minutes_47 : decode cX7_minutes 47 = .ok (.invokevirtual 167, 3) := by decide +kernel
theorem dX7_minutes_50 : decode cX7_minutes 50 = .ok (.iload_n 2, 1) := by decide +kernel
theorem dX7_minutes_51 : decode cX7_minutes 51 = .ok (.aload_n 0, 1) := by decide +kernel
theorem dX7_minutes_52 : decode cX7_minutes 52 = .ok (.getfield 34, 3) := by decide +kernel
theorem dX7_minutes_55 : decode cX7_minutes 55 = .ok (.aload_n 0, 1) := by decide +kernel
theorem dX7_minutes_56 : decode cX7_minutes 56 = .ok (.getfield 34, 3) := by decide +kernel
theorem dX7_minutes_59 : decode cX7_minutes 59 = .ok (.invokevirtual 186, 3) := by decide +kernel
theorem dX7_minutes_62 : decode cX7_minutes 62 = .ok (.invokevirtual 190, 3) := by decide +kernel
theorem dX7_minutes_65 : decode cX7_minutes 65 = .ok (.iadd, 1) := by decide +kernel
theorem dX7_minutes_66 : decode cX7_minutes 66 = .ok (.istore_n 2, 1) := by decide +kernel
theorem dX7_minutes_67 : decode cX7_minutes 67 = .ok (.iinc 3 1, 3) := by decide +kernel
theorem dX7_minutes_70 : decode cX7_minutes 70 = .ok (.goto (-36), 3) := by decide +kernel
theorem dX7_minutes_73 : decode cX7_minutes 73 = .ok (.iload_n 2, 1) := by decide +kernel
theorem dX7_minutes_74 : decode cX7_minutes 74 = .ok (.ireturn, 1) := by decide +kernel
set_option maxRecDepth 20000 in
theorem ggX7_undo_X5_takeBack : GoodIn wsX7_undo wsX5_takeBack := goodIn_r _ [8, 9, 10, 11, 12, 13, 14, 15, 16, 27, 28, 29, 30, 31] (by decide +kernel) (by decide +kernel)
set_option maxRecDepth 20000 in
theorem gX7_undo_X5_takeBack : GoodIn wsX7_undo (wsV RX7 194 RX5 yX5_takeBack wsX5_takeBack) := goodIn_app (goodIn_of _ (by decide +kernel)) ggX7_undo_X5_takeBack
theorem dX7_undo_0 : decode cX7_undo 0 = .ok (.aload_n 0, 1) := by decide +kernel
theorem dX7_undo_1 : decode cX7_undo 1 = .ok (.getfield 41, 3) := by decide +kernel
theorem dX7_undo_4 : decode cX7_undo 4 = .ok (.getfield 90, 3) := by decide +kernel
theorem dX7_undo_7 : decode cX7_undo 7 = .ok (.ifCond .ne 6, 3) := by decide +kernel
theorem dX7_undo_10 : decode cX7_undo 10 = .ok (.bipush (-2), 2) := by decide +kernel
theorem dX7_undo_12 : decode cX7_undo 12 = .ok (.ireturn, 1) := by decide +kernel
theorem dX7_undo_13 : decode cX7_undo 13 = .ok (.aload_n 0, 1) := by decide +kernel
theorem dX7_undo_14 : decode cX7_undo 14 = .ok (.getfield 41, 3) := by decide +kernel
theorem dX7_undo_17 : decode cX7_undo 17 = .ok (.aload_n 0, 1) := by decide +kernel
theorem dX7_undo_18 : decode cX7_undo 18 = .ok (.getfield 34, 3) := by decide +kernel
theorem dX7_undo_21 : decode cX7_undo 21 = .ok (.invokevirtual 194, 3) := by decide +kernel
theorem dX7_undo_24 : decode cX7_undo 24 = .ok (.aload_n 0, 1) := by decide +kernel
theorem dX7_undo_25 : decode cX7_undo 25 = .ok (.getfield 41, 3) := by decide +kernel
theorem dX7_undo_28 : decode cX7_undo 28 = .ok (.getfield 90, 3) := by decide +kernel
theorem dX7_undo_31 : decode cX7_undo 31 = .ok (.ireturn, 1) := by decide +kernel
set_option maxRecDepth 20000 in
theorem ggX7_now_X4_minute : GoodIn wsX7_now wsX4_minute := goodIn_r _ [9, 10, 45, 46] (by decide +kernel) (by decide +kernel)
set_option maxRecDepth 20000 in
theorem gX7_now_X4_minute : GoodIn wsX7_now (wsV RX7 183 RX4 yX4_minute wsX4_minute) := goodIn_app (goodIn_of _ (by decide +kernel)) ggX7_now_X4_minute
set_option maxRecDepth 20000 in
theorem ggX7_now_X4_windBlows : GoodIn wsX7_now wsX4_windBlows := goodIn_r _ [14, 15, 16, 17, 18, 6, 7, 8, 9, 10, 45, 46, 47, 48, 49, 50, 51, 52, 53, 54, 55, 56, 57, 58, 59, 60] (by decide +kernel) (by decide +kernel)
set_option maxRecDepth 20000 in
theorem gX7_now_X4_windBlows : GoodIn wsX7_now (wsV RX7 186 RX4 yX4_windBlows wsX4_windBlows) := goodIn_app (goodIn_of _ (by decide +kernel)) ggX7_now_X4_windBlows
set_option maxRecDepth 20000 in
theorem ggX7_now_X4_actsThatAre : GoodIn wsX7_now wsX4_actsThatAre := goodIn_r _ [22, 15, 23, 24, 25, 26, 8, 27, 10, 45, 46, 47, 48, 49, 50, 51, 52, 53, 54, 55, 56, 57, 58, 59, 60] (by decide +kernel) (by decide +kernel)
set_option maxRecDepth 20000 in
theorem gX7_now_X4_actsThatAre : GoodIn wsX7_now (wsV RX7 175 RX4 yX4_actsThatAre wsX4_actsThatAre) := goodIn_app (goodIn_of _ (by decide +kernel)) ggX7_now_X4_actsThatAre
set_option maxRecDepth 20000 in
theorem ggX7_now_X7_sumOver : GoodIn wsX7_now wsX7_sumOver := goodIn_r _ [31, 32, 33, 30, 34] (by decide +kernel) (by decide +kernel)
set_option maxRecDepth 20000 in
theorem gX7_now_X7_sumOver : GoodIn wsX7_now (va_wsS RX7 197 yX7_sumOver wsX7_sumOver) := goodIn_app (goodIn_of _ (by decide +kernel)) ggX7_now_X7_sumOver
theorem dX7_now_0 : decode cX7_now 0 = .ok (.iload_n 1, 1) := by decide +kernel
theorem dX7_now_1 : decode cX7_now 1 = .ok (.tableswitch 124 0 6 #[43, 51, 67, 77, 87, 96, 105], 43) := by decide +kernel
theorem dX7_now_44 : decode cX7_now 44 = .ok (.aload_n 0, 1) := by decide +kernel
theorem dX7_now_45 : decode cX7_now 45 = .ok (.getfield 34, 3) := by decide +kernel
theorem dX7_now_48 : decode cX7_now 48 = .ok (.invokevirtual 183, 3) := by decide +kernel
theorem dX7_now_51 : decode cX7_now 51 = .ok (.ireturn, 1) := by decide +kernel
theorem dX7_now_52 : decode cX7_now 52 = .ok (.aload_n 0, 1) := by decide +kernel
theorem dX7_now_53 : decode cX7_now 53 = .ok (.getfield 34, 3) := by decide +kernel
theorem dX7_now_56 : decode cX7_now 56 = .ok (.invokevirtual 186, 3) := by decide +kernel
theorem dX7_now_59 : decode cX7_now 59 = .ok (.ifCond .eq 7, 3) := by decide +kernel
theorem dX7_now_62 : decode cX7_now 62 = .ok (.iconst 1, 1) := by decide +kernel
theorem dX7_now_63 : decode cX7_now 63 = .ok (.goto 4, 3) := by decide +kernel
theorem dX7_now_66 : decode cX7_now 66 = .ok (.iconst 0, 1) := by decide +kernel
theorem dX7_now_67 : decode cX7_now 67 = .ok (.ireturn, 1) := by decide +kernel
theorem dX7_now_68 : decode cX7_now 68 = .ok (.aload_n 0, 1) := by decide +kernel
theorem dX7_now_69 : decode cX7_now 69 = .ok (.getfield 34, 3) := by decide +kernel
theorem dX7_now_72 : decode cX7_now 72 = .ok (.getfield 113, 3) := by decide +kernel
theorem dX7_now_75 : decode cX7_now 75 = .ok (.iconst 1, 1) := by decide +kernel
theorem dX7_now_76 : decode cX7_now 76 = .ok (.iaload, 1) := by decide +kernel
theorem dX7_now_77 : decode cX7_now 77 = .ok (.ireturn, 1) := by decide +kernel
theorem dX7_now_78 : decode cX7_now 78 = .ok (.aload_n 0, 1) := by decide +kernel
theorem dX7_now_79 : decode cX7_now 79 = .ok (.getfield 34, 3) := by decide +kernel
theorem dX7_now_82 : decode cX7_now 82 = .ok (.getfield 113, 3) := by decide +kernel
theorem dX7_now_85 : decode cX7_now 85 = .ok (.iconst 3, 1) := by decide +kernel
theorem dX7_now_86 : decode cX7_now 86 = .ok (.iaload, 1) := by decide +kernel
theorem dX7_now_87 : decode cX7_now 87 = .ok (.ireturn, 1) := by decide +kernel
theorem dX7_now_88 : decode cX7_now 88 = .ok (.aload_n 0, 1) := by decide +kernel
theorem dX7_now_89 : decode cX7_now 89 = .ok (.getfield 34, 3) := by decide +kernel
theorem dX7_now_92 : decode cX7_now 92 = .ok (.iconst 2, 1) := by decide +kernel
theorem dX7_now_93 : decode cX7_now 93 = .ok (.invokevirtual 175, 3) := by decide +kernel
theorem dX7_now_96 : decode cX7_now 96 = .ok (.ireturn, 1) := by decide +kernel
theorem dX7_now_97 : decode cX7_now 97 = .ok (.aload_n 0, 1) := by decide +kernel
theorem dX7_now_98 : decode cX7_now 98 = .ok (.getfield 34, 3) := by decide +kernel
theorem dX7_now_101 : decode cX7_now 101 = .ok (.iconst 3, 1) := by decide +kernel
theorem dX7_now_102 : decode cX7_now 102 = .ok (.invokevirtual 175, 3) := by decide +kernel
theorem dX7_now_105 : decode cX7_now 105 = .ok (.ireturn, 1) := by decide +kernel
theorem dX7_now_106 : decode cX7_now 106 = .ok (.aload_n 0, 1) := by decide +kernel
theorem dX7_now_107 : decode cX7_now 107 = .ok (.getfield 16, 3) := by decide +kernel
theorem dX7_now_110 : decode cX7_now 110 = .ok (.getfield 135, 3) := by decide +kernel
theorem dX7_now_113 : decode cX7_now 113 = .ok (.aload_n 0, 1) := by decide +kernel
theorem dX7_now_114 : decode cX7_now 114 = .ok (.getfield 34, 3) := by decide +kernel
theorem dX7_now_117 : decode cX7_now 117 = .ok (.iconst 2, 1) := by decide +kernel
theorem dX7_now_118 : decode cX7_now 118 = .ok (.invokevirtual 175, 3) := by decide +kernel
theorem dX7_now_121 : decode cX7_now 121 = .ok (.invokestatic 197, 3) := by decide +kernel
