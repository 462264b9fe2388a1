theorem dX0_init_0 : decode cX0_init 0 = .ok (.aload_n 0, 1) := by decide +kernel
theorem dX0_init_1 : decode cX0_init 1 = .ok (.invokespecial 3, 3) := by decide +kernel
theorem dX0_init_4 : decode cX0_init 4 = .ok (.aload_n 0, 1) := by decide +kernel
theorem dX0_init_5 : decode cX0_init 5 = .ok (.bipush 6, 2) := by decide +kernel
theorem dX0_init_7 : decode cX0_init 7 = .ok (.newarray .int, 2) := by decide +kernel
theorem dX0_init_9 : decode cX0_init 9 = .ok (.putfield 9, 3) := by decide +kernel
theorem dX0_init_12 : decode cX0_init 12 = .ok (.aload_n 0, 1) := by decide +kernel
theorem dX0_init_13 : decode cX0_init 13 = .ok (.bipush 6, 2) := by decide +kernel
theorem dX0_init_15 : decode cX0_init 15 = .ok (.newarray .int, 2) := by decide +kernel
theorem dX0_init_17 : decode cX0_init 17 = .ok (.putfield 15, 3) := by decide +kernel
theorem dX0_init_20 : decode cX0_init 20 = .ok (.aload_n 0, 1) := by decide +kernel
theorem dX0_init_21 : decode cX0_init 21 = .ok (.bipush 6, 2) := by decide +kernel
theorem dX0_init_23 : decode cX0_init 23 = .ok (.newarray .int, 2) := by decide +kernel
theorem dX0_init_25 : decode cX0_init 25 = .ok (.putfield 18, 3) := by decide +kernel
theorem dX0_init_28 : decode cX0_init 28 = .ok (.aload_n 0, 1) := by decide +kernel
theorem dX0_init_29 : decode cX0_init 29 = .ok (.bipush 6, 2) := by decide +kernel
theorem dX0_init_31 : decode cX0_init 31 = .ok (.newarray .int, 2) := by decide +kernel
theorem dX0_init_33 : decode cX0_init 33 = .ok (.putfield 21, 3) := by decide +kernel
theorem dX0_init_36 : decode cX0_init 36 = .ok (.aload_n 0, 1) := by decide +kernel
theorem dX0_init_37 : decode cX0_init 37 = .ok (.bipush 6, 2) := by decide +kernel
theorem dX0_init_39 : decode cX0_init 39 = .ok (.newarray .int, 2) := by decide +kernel
theorem dX0_init_41 : decode cX0_init 41 = .ok (.putfield 24, 3) := by decide +kernel
theorem dX0_init_44 : decode cX0_init 44 = .ok (.return_, 1) := by decide +kernel
set_option maxRecDepth 20000 in
theorem ggX0_findWay_X7_bit : GoodIn wsX0_findWay wsX7_bit := goodIn_r _ [8] (by decide +kernel) (by decide +kernel)
set_option maxRecDepth 20000 in
theorem gX0_findWay_X7_bit_n32 : GoodIn wsX0_findWay (wsX7_bit) := ggX0_findWay_X7_bit
set_option maxRecDepth 20000 in
theorem ggX0_findWay_X4_left : GoodIn wsX0_findWay wsX4_left := goodIn_r _ [13, 14, 50, 51] (by decide +kernel) (by decide +kernel)
set_option maxRecDepth 20000 in
theorem gX0_findWay_X4_left : GoodIn wsX0_findWay (wsV RX0 36 RX4 yX4_left wsX4_left) := goodIn_app (goodIn_of _ (by decide +kernel)) ggX0_findWay_X4_left
set_option maxRecDepth 20000 in
theorem ggX0_findWay_X0_length : GoodIn wsX0_findWay wsX0_length := goodIn_r _ [19, 20, 21, 42, 43, 44, 45, 46, 47, 48, 49] (by decide +kernel) (by decide +kernel)
set_option maxRecDepth 20000 in
theorem gX0_findWay_X0_length : GoodIn wsX0_findWay (wsV RX0 47 RX0 yX0_length wsX0_length) := goodIn_app (goodIn_of _ (by decide +kernel)) ggX0_findWay_X0_length
set_option maxRecDepth 20000 in
theorem ggX0_findWay_X0_place : GoodIn wsX0_findWay wsX0_place := goodIn_r _ [24, 20, 4, 5, 25, 26, 27, 28, 29, 30, 21, 3, 1, 31, 32, 33, 34, 35, 36, 37, 38, 39, 40, 18, 41, 6, 7, 8, 22, 23, 42, 43, 44, 45, 46, 47, 48, 49] (by decide +kernel) (by decide +kernel)
set_option maxRecDepth 20000 in
theorem gX0_findWay_X0_place : GoodIn wsX0_findWay (va_wsS RX0 51 yX0_place wsX0_place) := goodIn_app (goodIn_of _ (by decide +kernel)) ggX0_findWay_X0_place
theorem dX0_findWay_0 : decode cX0_findWay 0 = .ok (.iconst 0, 1) := by decide +kernel
theorem dX0_findWay_1 : decode cX0_findWay 1 = .ok (.istore_n 2, 1) := by decide +kernel
theorem dX0_findWay_2 : decode cX0_findWay 2 = .ok (.iconst 0, 1) := by decide +kernel
theorem dX0_findWay_3 : decode cX0_findWay 3 = .ok (.istore_n 3, 1) := by decide +kernel
theorem dX0_findWay_4 : decode cX0_findWay 4 = .ok (.iload_n 3, 1) := by decide +kernel
theorem dX0_findWay_5 : decode cX0_findWay 5 = .ok (.bipush 6, 2) := by decide +kernel
theorem dX0_findWay_7 : decode cX0_findWay 7 = .ok (.if_icmp .ge 59, 3) := by decide +kernel
theorem dX0_findWay_10 : decode cX0_findWay 10 = .ok (.aload_n 0, 1) := by decide +kernel
theorem dX0_findWay_11 : decode cX0_findWay 11 = .ok (.getfield 18, 3) := by decide +kernel
theorem dX0_findWay_14 : decode cX0_findWay 14 = .ok (.iload_n 3, 1) := by decide +kernel
theorem dX0_findWay_15 : decode cX0_findWay 15 = .ok (.aload_n 1, 1) := by decide +kernel
theorem dX0_findWay_16 : decode cX0_findWay 16 = .ok (.getfield 27, 3) := by decide +kernel
theorem dX0_findWay_19 : decode cX0_findWay 19 = .ok (.iconst 1, 1) := by decide +kernel
theorem dX0_findWay_20 : decode cX0_findWay 20 = .ok (.iaload, 1) := by decide +kernel
theorem dX0_findWay_21 : decode cX0_findWay 21 = .ok (.iload_n 3, 1) := by decide +kernel
theorem dX0_findWay_22 : decode cX0_findWay 22 = .ok (.invokestatic 32, 3) := by decide +kernel
theorem dX0_findWay_25 : decode cX0_findWay 25 = .ok (.iconst 1, 1) := by decide +kernel
theorem dX0_findWay_26 : decode cX0_findWay 26 = .ok (.if_icmp .ne 7, 3) := by decide +kernel
theorem dX0_findWay_29 : decode cX0_findWay 29 = .ok (.iconst 0, 1) := by decide +kernel
theorem dX0_findWay_30 : decode cX0_findWay 30 = .ok (.goto 8, 3) := by decide +kernel
theorem dX0_findWay_33 : decode cX0_findWay 33 = .ok (.aload_n 1, 1) := by decide +kernel
theorem dX0_findWay_34 : decode cX0_findWay 34 = .ok (.iload_n 3, 1) := by decide +kernel
theorem dX0_findWay_35 : decode cX0_findWay 35 = .ok (.invokevirtual 36, 3) := by decide +kernel
theorem dX0_findWay_38 : decode cX0_findWay 38 = .ok (.iastore, 1) := by decide +kernel
theorem dX0_findWay_39 : decode cX0_findWay 39 = .ok (.aload_n 0, 1) := by decide +kernel
theorem dX0_findWay_40 : decode cX0_findWay 40 = .ok (.getfield 21, 3) := by decide +kernel
theorem dX0_findWay_43 : decode cX0_findWay 43 = .ok (.iload_n 3, 1) := by decide +kernel
theorem dX0_findWay_44 : decode cX0_findWay 44 = .ok (.aload_n 0, 1) := by decide +kernel
theorem dX0_findWay_45 : decode cX0_findWay 45 = .ok (.getfield 18, 3) := by decide +kernel
theorem dX0_findWay_48 : decode cX0_findWay 48 = .ok (.iload_n 3, 1) := by decide +kernel
theorem dX0_findWay_49 : decode cX0_findWay 49 = .ok (.iaload, 1) := by decide +kernel
theorem dX0_findWay_50 : decode cX0_findWay 50 = .ok (.iastore, 1) := by decide +kernel
theorem dX0_findWay_51 : decode cX0_findWay 51 = .ok (.iload_n 2, 1) := by decide +kernel
theorem dX0_findWay_52 : decode cX0_findWay 52 = .ok (.aload_n 0, 1) := by decide +kernel
theorem dX0_findWay_53 : decode cX0_findWay 53 = .ok (.getfield 18, 3) := by decide +kernel
theorem dX0_findWay_56 : decode cX0_findWay 56 = .ok (.iload_n 3, 1) := by decide +kernel
theorem dX0_findWay_57 : decode cX0_findWay 57 = .ok (.iaload, 1) := by decide +kernel
theorem dX0_findWay_58 : decode cX0_findWay 58 = .ok (.iadd, 1) := by decide +kernel
theorem dX0_findWay_59 : decode cX0_findWay 59 = .ok (.istore_n 2, 1) := by decide +kernel
theorem dX0_findWay_60 : decode cX0_findWay 60 = .ok (.iinc 3 1, 3) := by decide +kernel
theorem dX0_findWay_63 : decode cX0_findWay 63 = .ok (.goto (-59), 3) := by decide +kernel
theorem dX0_findWay_66 : decode cX0_findWay 66 = .ok (.aload_n 0, 1) := by decide +kernel
theorem dX0_findWay_67 : decode cX0_findWay 67 = .ok (.bipush 7, 2) := by decide +kernel
theorem dX0_findWay_69 : decode cX0_findWay 69 = .ok (.putfield 40, 3) := by decide +kernel
theorem dX0_findWay_72 : decode cX0_findWay 72 = .ok (.aload_n 0, 1) := by decide +kernel
theorem dX0_findWay_73 : decode cX0_findWay 73 = .ok (.iconst 0, 1) := by decide +kernel
theorem dX0_findWay_74 : decode cX0_findWay 74 = .ok (.putfield 44, 3) := by decide +kernel
theorem dX0_findWay_77 : decode cX0_findWay 77 = .ok (.iload_n 2, 1) := by decide +kernel
theorem dX0_findWay_78 : decode cX0_findWay 78 = .ok (.aload_n 0, 1) := by decide +kernel
theorem dX0_findWay_79 : decode cX0_findWay 79 = .ok (.invokevirtual 47, 3) := by decide +kernel
theorem dX0_findWay_82 : decode cX0_findWay 82 = .ok (.if_icmp .lt 10, 3) := by decide +kernel
theorem dX0_findWay_85 : decode cX0_findWay 85 = .ok (.aload_n 0, 1) := by decide +kernel
theorem dX0_findWay_86 : decode cX0_findWay 86 = .ok (.iconst 0, 1) := by decide +kernel
theorem dX0_findWay_87 : decode cX0_findWay 87 = .ok (.iconst 0, 1) := by decide +kernel
theorem dX0_findWay_88 : decode cX0_findWay 88 = .ok (.iconst 0, 1) := by decide +kernel
theorem dX0_findWay_89 : decode cX0_findWay 89 = .ok (.invokestatic 51, 3) := by decide +kernel
theorem dX0_findWay_92 : decode cX0_findWay 92 = .ok (.aload_n 0, 1) := by decide +kernel
theorem dX0_findWay_93 : decode cX0_findWay 93 = .ok (.getfield 40, 3) := by decide +kernel
theorem dX0_findWay_96 : decode cX0_findWay 96 = .ok (.bipush 6, 2) := by decide +kernel
theorem dX0_findWay_98 : decode cX0_findWay 98 = .ok (.if_icmp .gt 7, 3) := by decide +kernel
theorem dX0_findWay_101 : decode cX0_findWay 101 = .ok (.iconst 1, 1) := by decide +kernel
theorem dX0_findWay_102 : decode cX0_findWay 102 = .ok (.goto 4, 3) := by decide +kernel
theorem dX0_findWay_105 : decode cX0_findWay 105 = .ok (.iconst 0, 1) := by decide +kernel
theorem dX0_findWay_106 : decode cX0_findWay 106 = .ok (.ireturn, 1) := by decide +kernel
set_option maxRecDepth 20000 in
theorem ggX0_over_X0_length : GoodIn wsX0_over wsX0_length := goodIn_r _ [6, 7, 8, 9, 10, 11, 12, 13, 14, 15, 16] (by decide +kernel) (by decide +kernel)
set_option maxRecDepth 20000 in
theorem gX0_over_X0_length : GoodIn wsX0_over (wsV RX0 47 RX0 yX0_length wsX0_length) := goodIn_app (goodIn_of _ (by decide +kernel)) ggX0_over_X0_length
theorem dX0_over_0 : decode cX0_over 0 = .ok (.aload_n 0, 1) := by decide +kernel
theorem dX0_over_1 : decode cX0_over 1 = .ok (.getfield 44, 3) := by decide +kernel
theorem dX0_over_4 : decode cX0_over 4 = .ok (.aload_n 0, 1) := by decide +kernel
theorem dX0_over_5 : decode cX0_over 5 = .ok (.invokevirtual 47, 3) := by decide +kernel
theorem dX0_over_8 : decode cX0_over 8 = .ok (.isub, 1) := by decide +kernel
theorem dX0_over_9 : decode cX0_over 9 = .ok (.ireturn, 1) := by decide +kernel
theorem dX0_length_0 : decode cX0_length 0 = .ok (.iconst 0, 1) := by decide +kernel
theorem dX0_length_1 : decode cX0_length 1 = .ok (.istore_n 1, 1) := by decide +kernel
theorem dX0_length_2 : decode cX0_length 2 = .ok (.iconst 0, 1) := by decide +kernel
theorem dX0_length_3 : decode cX0_length 3 = .ok (.istore_n 2, 1) := by decide +kernel
theorem dX0_length_4 : decode cX0_length 4 = .ok (.iload_n 2, 1) := by decide +kernel
theorem dX0_length_5 : decode cX0_length 5 = .ok (.aload_n 0, 1) := by decide +kernel
theorem dX0_length_6 : decode cX0_length 6 = .ok (.getfield 55, 3) := by decide +kernel
theorem dX0_length_9 : decode cX0_length 9 = .ok (.if_icmp .ge 18, 3) := by decide +kernel
theorem dX0_length_12 : decode cX0_length 12 = .ok (.iload_n 1, 1) := by decide +kernel
theorem dX0_length_13 : decode cX0_length 13 = .ok (.aload_n 0, 1) := by decide +kernel
theorem dX0_length_14 : decode cX0_length 14 = .ok (.getfield 9, 3) := by decide +kernel
theorem dX0_length_17 : decode cX0_length 17 = .ok (.iload_n 2, 1) := by decide +kernel
theorem dX0_length_18 : decode cX0_length 18 = .ok (.iaload, 1) := by decide +kernel
theorem dX0_length_19 : decode cX0_length 19 = .ok (.iadd, 1) := by decide +kernel
theorem dX0_length_20 : decode cX0_length 20 = .ok (.istore_n 1, 1) := by decide +kernel
theorem dX0_length_21 : decode cX0_length 21 = .ok (.iinc 2 1, 3) := by decide +kernel
theorem dX0_length_24 : decode cX0_length 24 = .ok (.goto (-20), 3) := by decide +kernel
theorem dX0_length_27 : decode cX0_length 27 = .ok (.iload_n 1, 1) := by decide +kernel
theorem dX0_length_28 : decode cX0_length 28 = .ok (.ireturn, 1) := by decide +kernel
set_option maxRecDepth 20000 in
theorem ggX0_place_J6_bitCount_0f7a4 : GoodIn wsX0_place wsJ6_bitCount_0f7a4 := goodIn_r _ [16, 17, 18, 19] (by decide +kernel) (by decide +kernel)
set_option maxRecDepth 20000 in
theorem gX0_place_J6_bitCount_0f7a4 : GoodIn wsX0_place (va_wsS RX0 58 yJ6_bitCount_0f7a4 wsJ6_bitCount_0f7a4) := goodIn_app (goodIn_of _ (by decide +kernel)) ggX0_place_J6_bitCount_0f7a4
set_option maxRecDepth 20000 in
theorem ggX0_place_X0_isBetter : GoodIn wsX0_place wsX0_isBetter := goodIn_r _ [24, 2, 3, 30, 31, 32, 33, 34, 35, 36, 37] (by decide +kernel) (by decide +kernel)
set_option maxRecDepth 20000 in
theorem gX0_place_X0_isBetter : GoodIn wsX0_place (wsV RX0 63 RX0 yX0_isBetter wsX0_isBetter) := goodIn_app (goodIn_of _ (by decide +kernel)) ggX0_place_X0_isBetter
set_option maxRecDepth 20000 in
theorem ggX0_place_X7_bit : GoodIn wsX0_place wsX7_bit := goodIn_r _ [27] (by decide +kernel) (by decide +kernel)
set_option maxRecDepth 20000 in
theorem gX0_place_X7_bit_n32 : GoodIn wsX0_place (wsX7_bit) := ggX0_place_X7_bit
set_option maxRecDepth 20000 in
theorem ggX0_place_X0_place : GoodIn wsX0_place wsX0_place := goodIn_r _ [0, 1, 2, 3, 4, 5, 6, 7, 8, 9, 10, 11, 12, 13, 14, 15, 16, 17, 18, 19, 20, 21, 22, 23, 24, 25, 26, 27, 28, 29, 30, 31, 32, 33, 34, 35, 36, 37] (by decide +kernel) (by decide +kernel)
set_option maxRecDepth 20000 in
theorem gX0_place_X0_place : GoodIn wsX0_place (va_wsS RX0 51 yX0_place wsX0_place) := goodIn_app (goodIn_of _ (by decide +kernel)) ggX0_place_X0_place
theorem dX0_place_0 : decode cX0_place 0 = .ok (.aload_n 0, 1) := by decide +kernel
theorem dX0_place_1 : decode cX0_place 1 = .ok (.iload_n 2, 1) := by decide +kernel
theorem dX0_place_2 : decode cX0_place 2 = .ok (.invokestatic 58, 3) := by decide +kernel
theorem dX0_place_5 : decode cX0_place 5 = .ok (.iload_n 3, 1) := by decide +kernel
theorem dX0_place_6 : decode cX0_place 6 = .ok (.invokevirtual 63, 3) := by decide +kernel
theorem dX0_place_9 : decode cX0_place 9 = .ok (.ifCond .ne 4, 3) := by decide +kernel
theorem dX0_place_12 : decode cX0_place 12 = .ok (.return_, 1) := by decide +kernel
theorem dX0_place_13 : decode cX0_place 13 = .ok (.iload_n 1, 1) := by decide +kernel
theorem dX0_place_14 : decode cX0_place 14 = .ok (.aload_n 0, 1) := by decide +kernel
theorem dX0_place_15 : decode cX0_place 15 = .ok (.getfield 55, 3) := by decide +kernel
theorem dX0_place_18 : decode cX0_place 18 = .ok (.if_icmp .ge 9, 3) := by decide +kernel
theorem dX0_place_21 : decode cX0_place 21 = .ok (.iload_n 1, 1) := by decide +kernel
theorem dX0_place_22 : decode cX0_place 22 = .ok (.bipush 6, 2) := by decide +kernel
theorem dX0_place_24 : decode cX0_place 24 = .ok (.if_icmp .lt 32, 3) := by decide +kernel
theorem dX0_place_27 : decode cX0_place 27 = .ok (.aload_n 0, 1) := by decide +kernel
theorem dX0_place_28 : decode cX0_place 28 = .ok (.iload_n 2, 1) := by decide +kernel
theorem dX0_place_29 : decode cX0_place 29 = .ok (.invokestatic 58, 3) := by decide +kernel
theorem dX0_place_32 : decode cX0_place 32 = .ok (.putfield 40, 3) := by decide +kernel
theorem dX0_place_35 : decode cX0_place 35 = .ok (.aload_n 0, 1) := by decide +kernel
theorem dX0_place_36 : decode cX0_place 36 = .ok (.iload_n 3, 1) := by decide +kernel
theorem dX0_place_37 : decode cX0_place 37 = .ok (.putfield 44, 3) := by decide +kernel
theorem dX0_place_40 : decode cX0_place 40 = .ok (.aload_n 0, 1) := by decide +kernel
theorem dX0_place_41 : decode cX0_place 41 = .ok (.getfield 24, 3) := by decide +kernel
theorem dX0_place_44 : decode cX0_place 44 = .ok (.iconst 0, 1) := by decide +kernel
theorem dX0_place_45 : decode cX0_place 45 = .ok (.aload_n 0, 1) := by decide +kernel
theorem dX0_place_46 : decode cX0_place 46 = .ok (.getfield 15, 3) := by decide +kernel
theorem dX0_place_49 : decode cX0_place 49 = .ok (.iconst 0, 1) := by decide +kernel
theorem dX0_place_50 : decode cX0_place 50 = .ok (.bipush 6, 2) := by decide +kernel
theorem dX0_place_52 : decode cX0_place 52 = .ok (.invokestatic 67, 3) := by decide +kernel
theorem dX0_place_55 : decode cX0_place 55 = .ok (.return_, 1) := by decide +kernel
theorem dX0_place_56 : decode cX0_place 56 = .ok (.aload_n 0, 1) := by decide +kernel
theorem dX0_place_57 : decode cX0_place 57 = .ok (.getfield 9, 3) := by decide +kernel
theorem dX0_place_60 : decode cX0_place 60 = .ok (.iload_n 1, 1) := by decide +kernel
theorem dX0_place_61 : decode cX0_place 61 = .ok (.iaload, 1) := by decide +kernel
theorem dX0_place_62 : decode cX0_place 62 = .ok (.istore 4, 2) := by decide +kernel
theorem dX0_place_64 : decode cX0_place 64 = .ok (.iconst 0, 1) := by decide +kernel
theorem dX0_place_65 : decode cX0_place 65 = .ok (.istore 5, 2) := by decide +kernel
theorem dX0_place_67 : decode cX0_place 67 = .ok (.iload 5, 2) := by decide +kernel
theorem dX0_place_69 : decode cX0_place 69 = .ok (.bipush 6, 2) := by decide +kernel
theorem dX0_place_71 : decode cX0_place 71 = .ok (.if_icmp .ge 93, 3) := by decide +kernel
theorem dX0_place_74 : decode cX0_place 74 = .ok (.aload_n 0, 1) := by decide +kernel
theorem dX0_place_75 : decode cX0_place 75 = .ok (.getfield 21, 3) := by decide +kernel
theorem dX0_place_78 : decode cX0_place 78 = .ok (.iload 5, 2) := by decide +kernel
theorem dX0_place_80 : decode cX0_place 80 = .ok (.iaload, 1) := by decide +kernel
theorem dX0_place_81 : decode cX0_place 81 = .ok (.iload 4, 2) := by decide +kernel
theorem dX0_place_83 : decode cX0_place 83 = .ok (.if_icmp .lt 75, 3) := by decide +kernel
theorem dX0_place_86 : decode cX0_place 86 = .ok (.iload_n 2, 1) := by decide +kernel
theorem dX0_place_87 : decode cX0_place 87 = .ok (.iload 5, 2) := by decide +kernel
theorem dX0_place_89 : decode cX0_place 89 = .ok (.invokestatic 32, 3) := by decide +kernel
theorem dX0_place_92 : decode cX0_place 92 = .ok (.iconst 1, 1) := by decide +kernel
theorem dX0_place_93 : decode cX0_place 93 = .ok (.if_icmp .ne 7, 3) := by decide +kernel
theorem dX0_place_96 : decode cX0_place 96 = .ok (.iconst 0, 1) := by decide +kernel
theorem dX0_place_97 : decode cX0_place 97 = .ok (.goto 10, 3) := by decide +kernel
theorem dX0_place_100 : decode cX0_place 100 = .ok (.aload_n 0, 1) := by decide +kernel
theorem dX0_place_101 : decode cX0_place 101 = .ok (.getfield 18, 3) := by decide +kernel
theorem dX0_place_104 : decode cX0_place 104 = .ok (.iload 5, 2) := by decide +kernel
theorem dX0_place_106 : decode cX0_place 106 = .ok (.iaload, 1) := by decide +kernel
theorem dX0_place_107 : decode cX0_place 107 = .ok (.istore 6, 2) := by decide +kernel
theorem dX0_place_109 : decode cX0_place 109 = .ok (.aload_n 0, 1) := by decide +kernel
theorem dX0_place_110 : decode cX0_place 110 = .ok (.getfield 21, 3) := by decide +kernel
theorem dX0_place_113 : decode cX0_place 113 = .ok (.iload 5, 2) := by decide +kernel
theorem dX0_place_115 : decode cX0_place 115 = .ok (.dup2, 1) := by decide +kernel
theorem dX0_place_116 : decode cX0_place 116 = .ok (.iaload, 1) := by decide +kernel
theorem dX0_place_117 : decode cX0_place 117 = .ok (.iload 4, 2) := by decide +kernel
theorem dX0_place_119 : decode cX0_place 119 = .ok (.isub, 1) := by decide +kernel
theorem dX0_place_120 : decode cX0_place 120 = .ok (.iastore, 1) := by decide +kernel
theorem dX0_place_121 : decode cX0_place 121 = .ok (.aload_n 0, 1) := by decide +kernel
theorem dX0_place_122 : decode cX0_place 122 = .ok (.getfield 24, 3) := by decide +kernel
theorem dX0_place_125 : decode cX0_place 125 = .ok (.iload_n 1, 1) := by decide +kernel
theorem dX0_place_126 : decode cX0_place 126 = .ok (.iload 5, 2) := by decide +kernel
theorem dX0_place_128 : decode cX0_place 128 = .ok (.iastore, 1) := by decide +kernel
theorem dX0_place_129 : decode cX0_place 129 = .ok (.aload_n 0, 1) := by decide +kernel
theorem dX0_place_130 : decode cX0_place 130 = .ok (.iload_n 1, 1) := by decide +kernel
theorem dX0_place_131 : decode cX0_place 131 = .ok (.iconst 1, 1) := by decide +kernel
theorem dX0_place_132 : decode cX0_place 132 = .ok (.iadd, 1) := by decide +kernel
theorem dX0_place_133 : decode cX0_place 133 = .ok (.iload_n 2, 1) := by decide +kernel
theorem dX0_place_134 : decode cX0_place 134 = .ok (.iconst 1, 1) := by decide +kernel
theorem dX0_place_135 : decode cX0_place 135 = .ok (.iload 5, 2) := by decide +kernel
theorem dX0_place_137 : decode cX0_place 137 = .ok (.ishl, 1) := by decide +kernel
theorem dX0_place_138 : decode cX0_place 138 = .ok (.ior, 1) := by decide +kernel
theorem dX0_place_139 : decode cX0_place 139 = .ok (.iload_n 3, 1) := by decide +kernel
theorem dX0_place_140 : decode cX0_place 140 = .ok (.iload 6, 2) := by decide +kernel
theorem dX0_place_142 : decode cX0_place 142 = .ok (.iadd, 1) := by decide +kernel
theorem dX0_place_143 : decode cX0_place 143 = .ok (.invokestatic 51, 3) := by decide +kernel
theorem dX0_place_146 : decode cX0_place 146 = .ok (.aload_n 0, 1) := by decide +kernel
theorem dX0_place_147 : decode cX0_place 147 = .ok (.getfield 21, 3) := by decide +kernel
theorem dX0_place_150 : decode cX0_place 150 = .ok (.iload 5, 2) := by decide +kernel
theorem dX0_place_152 : decode cX0_place 152 = .ok (.dup2, 1) := by decide +kernel
theorem dX0_place_153 : decode cX0_place 153 = .ok (.iaload, 1) := by decide +kernel
theorem dX0_place_154 : decode cX0_place 154 = .ok (.iload 4, 2) := by decide +kernel
theorem dX0_place_156 : decode cX0_place 156 = .ok (.iadd, 1) := by decide +kernel
theorem dX0_place_157 : decode cX0_place 157 = .ok (.iastore, 1) := by decide +kernel
theorem dX0_place_158 : decode cX0_place 158 = .ok (.iinc 5 1, 3) := by decide +kernel
theorem dX0_place_161 : decode cX0_place 161 = .ok (.goto (-94), 3) := by decide +kernel
theorem dX0_place_164 : decode cX0_place 164 = .ok (.return_, 1) := by decide +kernel
theorem dX0_isBetter_0 : decode cX0_isBetter 0 = .ok (.iload_n 1, 1) := by decide +kernel
theorem dX0_isBetter_1 : decode cX0_isBetter 1 = .ok (.aload_n 0, 1) := by decide +kernel
theorem dX0_isBetter_2 : decode cX0_isBetter 2 = .ok (.getfield 40, 3) := by decide +kernel
theorem dX0_isBetter_5 : decode cX0_isBetter 5 = .ok (.if_icmp .lt 19, 3) := by decide +kernel
theorem dX0_isBetter_8 : decode cX0_isBetter 8 = .ok (.iload_n 1, 1) := by decide +kernel
theorem dX0_isBetter_9 : decode cX0_isBetter 9 = .ok (.aload_n 0, 1) := by decide +kernel
theorem dX0_isBetter_10 : decode cX0_isBetter 10 = .ok (.getfield 40, 3) := by decide +kernel
theorem dX0_isBetter_13 : decode cX0_isBetter 13 = .ok (.if_icmp .ne 15, 3) := by decide +kernel
theorem dX0_isBetter_16 : decode cX0_isBetter 16 = .ok (.iload_n 2, 1) := by decide +kernel
theorem dX0_isBetter_17 : decode cX0_isBetter 17 = .ok (.aload_n 0, 1) := by decide +kernel
theorem dX0_isBetter_18 : decode cX0_isBetter 18 = .ok (.getfield 44, 3) := by decide +kernel
theorem dX0_isBetter_21 : decode cX0_isBetter 21 = .ok (.if_icmp .ge 7, 3) := by decide +kernel
theorem dX0_isBetter_24 : decode cX0_isBetter 24 = .ok (.iconst 1, 1) := by decide +kernel
theorem dX0_isBetter_25 : decode cX0_isBetter 25 = .ok (.goto 4, 3) := by decide +kernel
theorem dX0_isBetter_28 : decode cX0_isBetter 28 = .ok (.iconst 0, 1) := by decide +kernel
theorem dX0_isBetter_29 : decode cX0_isBetter 29 = .ok (.ireturn, 1) := by decide +kernel
set_option maxRecDepth 20000 in
theorem ggX1_init_X4_init : GoodIn wsX1_init wsX4_init := goodIn_r _ [11, 12, 2, 3, 13, 14, 15, 18, 19] (by decide +kernel) (by decide +kernel)
set_option maxRecDepth 20000 in
theorem gX1_init_X4_init : GoodIn wsX1_init (wsX4_init) := ggX1_init_X4_init
theorem dX1_init_0 : decode cX1_init 0 = .ok (.aload_n 0, 1) := by decide +kernel
theorem dX1_init_1 : decode cX1_init 1 = .ok (.invokespecial 3, 3) := by decide +kernel
theorem dX1_init_4 : decode cX1_init 4 = .ok (.aload_n 0, 1) := by decide +kernel
theorem dX1_init_5 : decode cX1_init 5 = .ok (.aload_n 1, 1) := by decide +kernel
theorem dX1_init_6 : decode cX1_init 6 = .ok (.putfield 9, 3) := by decide +kernel
theorem dX1_init_9 : decode cX1_init 9 = .ok (.aload_n 0, 1) := by decide +kernel
theorem dX1_init_10 : decode cX1_init 10 = .ok (.new 15, 3) := by decide +kernel
theorem dX1_init_13 : decode cX1_init 13 = .ok (.dup, 1) := by decide +kernel
theorem dX1_init_14 : decode cX1_init 14 = .ok (.aload_n 1, 1) := by decide +kernel
theorem dX1_init_15 : decode cX1_init 15 = .ok (.invokespecial 17, 3) := by decide +kernel
theorem dX1_init_18 : decode cX1_init 18 = .ok (.putfield 20, 3) := by decide +kernel
theorem dX1_init_21 : decode cX1_init 21 = .ok (.return_, 1) := by decide +kernel
set_option maxRecDepth 20000 in
theorem ggX1_stageIn_X4_copyFrom : GoodIn wsX1_stageIn wsX4_copyFrom := goodIn_r _ [6, 7, 8, 9, 10, 11, 77, 78] (by decide +kernel) (by decide +kernel)
set_option maxRecDepth 20000 in
theorem gX1_stageIn_X4_copyFrom : GoodIn wsX1_stageIn (wsV RX1 24 RX4 yX4_copyFrom wsX4_copyFrom) := goodIn_app (goodIn_of _ (by decide +kernel)) ggX1_stageIn_X4_copyFrom
set_option maxRecDepth 20000 in
theorem ggX1_stageIn_X4_stage : GoodIn wsX1_stageIn wsX4_stage := goodIn_r _ [15, 7, 77, 78] (by decide +kernel) (by decide +kernel)
set_option maxRecDepth 20000 in
theorem gX1_stageIn_X4_stage : GoodIn wsX1_stageIn (wsV RX1 28 RX4 yX4_stage wsX4_stage) := goodIn_app (goodIn_of _ (by decide +kernel)) ggX1_stageIn_X4_stage
set_option maxRecDepth 20000 in
theorem ggX1_stageIn_X4_windBlows : GoodIn wsX1_stageIn wsX4_windBlows := goodIn_r _ [19, 20, 21, 22, 23, 24, 25, 5, 26, 7, 77, 78, 79, 80, 81, 82, 83, 84, 85, 86, 87, 88, 89, 90, 91, 92] (by decide +kernel) (by decide +kernel)
set_option maxRecDepth 20000 in
theorem gX1_stageIn_X4_windBlows : GoodIn wsX1_stageIn (wsV RX1 32 RX4 yX4_windBlows wsX4_windBlows) := goodIn_app (goodIn_of _ (by decide +kernel)) ggX1_stageIn_X4_windBlows
set_option maxRecDepth 20000 in
theorem ggX1_stageIn_X4_pass : GoodIn wsX1_stageIn wsX4_pass := goodIn_r _ [30, 7, 31, 32, 33, 5, 34, 20, 35, 36, 37, 38, 39, 40, 41, 42, 43, 44, 45, 46, 47, 48, 49, 50, 51, 52, 53, 54, 55, 56, 57, 58, 59, 60, 13, 14, 15, 61, 62, 63, 64, 65, 66, 67, 68, 69, 70, 71, 72, 73, 74, 77, 78, 79, 80, 81, 82, 83, 84, 85, 86, 87, 88, 89, 90, 91, 92] (by decide +kernel) (by decide +kernel)
set_option maxRecDepth 20000 in
theorem gX1_stageIn_X4_pass : GoodIn wsX1_stageIn (wsV RX1 36 RX4 yX4_pass wsX4_pass) := goodIn_app (goodIn_of _ (by decide +kernel)) ggX1_stageIn_X4_pass
theorem dX1_stageIn_0 : decode cX1_stageIn 0 = .ok (.aload_n 0, 1) := by decide +kernel
theorem dX1_stageIn_1 : decode cX1_stageIn 1 = .ok (.getfield 20, 3) := by decide +kernel
theorem dX1_stageIn_4 : decode cX1_stageIn 4 = .ok (.aload_n 1, 1) := by decide +kernel
theorem dX1_stageIn_5 : decode cX1_stageIn 5 = .ok (.invokevirtual 24, 3) := by decide +kernel
theorem dX1_stageIn_8 : decode cX1_stageIn 8 = .ok (.iconst 0, 1) := by decide +kernel
theorem dX1_stageIn_9 : decode cX1_stageIn 9 = .ok (.istore 4, 2) := by decide +kernel
theorem dX1_stageIn_11 : decode cX1_stageIn 11 = .ok (.iload 4, 2) := by decide +kernel
theorem dX1_stageIn_13 : decode cX1_stageIn 13 = .ok (.iload_n 3, 1) := by decide +kernel
theorem dX1_stageIn_14 : decode cX1_stageIn 14 = .ok (.if_icmp .ge 36, 3) := by decide +kernel
theorem dX1_stageIn_17 : decode cX1_stageIn 17 = .ok (.aload_n 0, 1) := by decide +kernel
theorem dX1_stageIn_18 : decode cX1_stageIn 18 = .ok (.getfield 20, 3) := by decide +kernel
theorem dX1_stageIn_21 : decode cX1_stageIn 21 = .ok (.iload_n 2, 1) := by decide +kernel
theorem dX1_stageIn_22 : decode cX1_stageIn 22 = .ok (.invokevirtual 28, 3) := by decide +kernel
theorem dX1_stageIn_25 : decode cX1_stageIn 25 = .ok (.iconst 1, 1) := by decide +kernel
theorem dX1_stageIn_26 : decode cX1_stageIn 26 = .ok (.if_icmp .ne 24, 3) := by decide +kernel
theorem dX1_stageIn_29 : decode cX1_stageIn 29 = .ok (.aload_n 0, 1) := by decide +kernel
theorem dX1_stageIn_30 : decode cX1_stageIn 30 = .ok (.getfield 20, 3) := by decide +kernel
theorem dX1_stageIn_33 : decode cX1_stageIn 33 = .ok (.aload_n 0, 1) := by decide +kernel
theorem dX1_stageIn_34 : decode cX1_stageIn 34 = .ok (.getfield 20, 3) := by decide +kernel
theorem dX1_stageIn_37 : decode cX1_stageIn 37 = .ok (.invokevirtual 32, 3) := by decide +kernel
theorem dX1_stageIn_40 : decode cX1_stageIn 40 = .ok (.invokevirtual 36, 3) := by decide +kernel
theorem dX1_stageIn_43 : decode cX1_stageIn 43 = .ok (.pop, 1) := by decide +kernel
theorem dX1_stageIn_44 : decode cX1_stageIn 44 = .ok (.iinc 4 1, 3) := by decide +kernel
theorem dX1_stageIn_47 : decode cX1_stageIn 47 = .ok (.goto (-36), 3) := by decide +kernel
theorem dX1_stageIn_50 : decode cX1_stageIn 50 = .ok (.aload_n 0, 1) := by decide +kernel
theorem dX1_stageIn_51 : decode cX1_stageIn 51 = .ok (.getfield 20, 3) := by decide +kernel
theorem dX1_stageIn_54 : decode cX1_stageIn 54 = .ok (.iload_n 2, 1) := by decide +kernel
theorem dX1_stageIn_55 : decode cX1_stageIn 55 = .ok (.invokevirtual 28, 3) := by decide +kernel
theorem dX1_stageIn_58 : decode cX1_stageIn 58 = .ok (.ireturn, 1) := by decide +kernel
set_option maxRecDepth 20000 in
theorem ggX1_firstVoid_X4_copyFrom : GoodIn wsX1_firstVoid wsX4_copyFrom := goodIn_r _ [6, 7, 8, 9, 10, 11, 85, 86] (by decide +kernel) (by decide +kernel)
set_option maxRecDepth 20000 in
theorem gX1_firstVoid_X4_copyFrom : GoodIn wsX1_firstVoid (wsV RX1 24 RX4 yX4_copyFrom wsX4_copyFrom) := goodIn_app (goodIn_of _ (by decide +kernel)) ggX1_firstVoid_X4_copyFrom
set_option maxRecDepth 20000 in
theorem ggX1_firstVoid_X4_actsThatAre : GoodIn wsX1_firstVoid wsX4_actsThatAre := goodIn_r _ [15, 16, 17, 18, 19, 20, 5, 21, 7, 85, 86, 87, 88, 89, 90, 91, 92, 93, 94, 95, 96, 97, 98, 99, 100] (by decide +kernel) (by decide +kernel)
set_option maxRecDepth 20000 in
theorem gX1_firstVoid_X4_actsThatAre : GoodIn wsX1_firstVoid (wsV RX1 40 RX4 yX4_actsThatAre wsX4_actsThatAre) := goodIn_app (goodIn_of _ (by decide +kernel)) ggX1_firstVoid_X4_actsThatAre
set_option maxRecDepth 20000 in
theorem ggX1_firstVoid_X4_windBlows : GoodIn wsX1_firstVoid wsX4_windBlows := goodIn_r _ [25, 16, 26, 27, 28, 29, 30, 5, 31, 7, 85, 86, 87, 88, 89, 90, 91, 92, 93, 94, 95, 96, 97, 98, 99, 100] (by decide +kernel) (by decide +kernel)
set_option maxRecDepth 20000 in
theorem gX1_firstVoid_X4_windBlows : GoodIn wsX1_firstVoid (wsV RX1 32 RX4 yX4_windBlows wsX4_windBlows) := goodIn_app (goodIn_of _ (by decide +kernel)) ggX1_firstVoid_X4_windBlows
set_option maxRecDepth 20000 in
theorem ggX1_firstVoid_X4_pass : GoodIn wsX1_firstVoid wsX4_pass := goodIn_r _ [35, 7, 36, 37, 38, 5, 39, 16, 40, 41, 42, 43, 44, 45, 46, 47, 48, 49, 50, 51, 52, 53, 54, 55, 56, 57, 58, 17, 59, 60, 61, 62, 63, 18, 19, 20, 21, 64, 65, 66, 67, 68, 69, 70, 71, 72, 73, 74, 75, 76, 77, 85, 86, 87, 88, 89, 90, 91, 92, 93, 94, 95, 96, 97, 98, 99, 100] (by decide +kernel) (by decide +kernel)
set_option maxRecDepth 20000 in
theorem gX1_firstVoid_X4_pass : GoodIn wsX1_firstVoid (wsV RX1 36 RX4 yX4_pass wsX4_pass) := goodIn_app (goodIn_of _ (by decide +kernel)) ggX1_firstVoid_X4_pass
set_option maxRecDepth 20000 in
theorem ggX1_firstVoid_J6_numberOfTrailingZeros_0f7a4 : GoodIn wsX1_firstVoid wsJ6_numberOfTrailingZeros_0f7a4 := goodIn_r _ [81, 82] (by decide +kernel) (by decide +kernel)
set_option maxRecDepth 20000 in
theorem gX1_firstVoid_J6_numberOfTrailingZeros_0f7a4 : GoodIn wsX1_firstVoid (va_wsS RX1 43 yJ6_numberOfTrailingZeros_0f7a4 wsJ6_numberOfTrailingZeros_0f7a4) := goodIn_app (goodIn_of _ (by decide +kernel)) ggX1_firstVoid_J6_numberOfTrailingZeros_0f7a4
theorem dX1_firstVoid_0 : decode cX1_firstVoid 0 = .ok (.aload_n 0, 1) := by decide +kernel
theorem dX1_firstVoid_1 : decode cX1_firstVoid 1 = .ok (.getfield 20, 3) := by decide +kernel
theorem dX1_firstVoid_4 : decode cX1_firstVoid 4 = .ok (.aload_n 1, 1) := by decide +kernel
theorem dX1_firstVoid_5 : decode cX1_firstVoid 5 = .ok (.invokevirtual 24, 3) := by decide +kernel
theorem dX1_firstVoid_8 : decode cX1_firstVoid 8 = .ok (.aload_n 0, 1) := by decide +kernel
theorem dX1_firstVoid_9 : decode cX1_firstVoid 9 = .ok (.getfield 20, 3) := by decide +kernel
theorem dX1_firstVoid_12 : decode cX1_firstVoid 12 = .ok (.iconst 3, 1) := by decide +kernel
theorem dX1_firstVoid_13 : decode cX1_firstVoid 13 = .ok (.invokevirtual 40, 3) := by decide +kernel
theorem dX1_firstVoid_16 : decode cX1_firstVoid 16 = .ok (.istore_n 3, 1) := by decide +kernel
theorem dX1_firstVoid_17 : decode cX1_firstVoid 17 = .ok (.iconst 1, 1) := by decide +kernel
theorem dX1_firstVoid_18 : decode cX1_firstVoid 18 = .ok (.istore 4, 2) := by decide +kernel
theorem dX1_firstVoid_20 : decode cX1_firstVoid 20 = .ok (.iload 4, 2) := by decide +kernel
theorem dX1_firstVoid_22 : decode cX1_firstVoid 22 = .ok (.bipush 60, 2) := by decide +kernel
theorem dX1_firstVoid_24 : decode cX1_firstVoid 24 = .ok (.if_icmp .gt 66, 3) := by decide +kernel
theorem dX1_firstVoid_27 : decode cX1_firstVoid 27 = .ok (.aload_n 0, 1) := by decide +kernel
theorem dX1_firstVoid_28 : decode cX1_firstVoid 28 = .ok (.getfield 20, 3) := by decide +kernel
theorem dX1_firstVoid_31 : decode cX1_firstVoid 31 = .ok (.iconst 1, 1) := by decide +kernel
theorem dX1_firstVoid_32 : decode cX1_firstVoid 32 = .ok (.invokevirtual 40, 3) := by decide +kernel
theorem dX1_firstVoid_35 : decode cX1_firstVoid 35 = .ok (.ifCond .eq 55, 3) := by decide +kernel
theorem dX1_firstVoid_38 : decode cX1_firstVoid 38 = .ok (.aload_n 0, 1) := by decide +kernel
theorem dX1_firstVoid_39 : decode cX1_firstVoid 39 = .ok (.getfield 20, 3) := by decide +kernel
theorem dX1_firstVoid_42 : decode cX1_firstVoid 42 = .ok (.aload_n 0, 1) := by decide +kernel
theorem dX1_firstVoid_43 : decode cX1_firstVoid 43 = .ok (.getfield 20, 3) := by decide +kernel
theorem dX1_firstVoid_46 : decode cX1_firstVoid 46 = .ok (.invokevirtual 32, 3) := by decide +kernel
theorem dX1_firstVoid_49 : decode cX1_firstVoid 49 = .ok (.invokevirtual 36, 3) := by decide +kernel
theorem dX1_firstVoid_52 : decode cX1_firstVoid 52 = .ok (.ifCond .le 32, 3) := by decide +kernel
theorem dX1_firstVoid_55 : decode cX1_firstVoid 55 = .ok (.aload_n 0, 1) := by decide +kernel
theorem dX1_firstVoid_56 : decode cX1_firstVoid 56 = .ok (.getfield 20, 3) := by decide +kernel
theorem dX1_firstVoid_59 : decode cX1_firstVoid 59 = .ok (.iconst 3, 1) := by decide +kernel
theorem dX1_firstVoid_60 : decode cX1_firstVoid 60 = .ok (.invokevirtual 40, 3) := by decide +kernel
theorem dX1_firstVoid_63 : decode cX1_firstVoid 63 = .ok (.iload_n 3, 1) := by decide +kernel
theorem dX1_firstVoid_64 : decode cX1_firstVoid 64 = .ok (.iconst (-1), 1) := by decide +kernel
theorem dX1_firstVoid_65 : decode cX1_firstVoid 65 = .ok (.ixor, 1) := by decide +kernel
theorem dX1_firstVoid_66 : decode cX1_firstVoid 66 = .ok (.iand, 1) := by decide +kernel
theorem dX1_firstVoid_67 : decode cX1_firstVoid 67 = .ok (.istore 5, 2) := by decide +kernel
theorem dX1_firstVoid_69 : decode cX1_firstVoid 69 = .ok (.iload_n 2, 1) := by decide +kernel
theorem dX1_firstVoid_70 : decode cX1_firstVoid 70 = .ok (.ifCond .eq 11, 3) := by decide +kernel
theorem dX1_firstVoid_73 : decode cX1_firstVoid 73 = .ok (.iload 5, 2) := by decide +kernel
theorem dX1_firstVoid_75 : decode cX1_firstVoid 75 = .ok (.invokestatic 43, 3) := by decide +kernel
theorem dX1_firstVoid_78 : decode cX1_firstVoid 78 = .ok (.goto 5, 3) := by decide +kernel
theorem dX1_firstVoid_81 : decode cX1_firstVoid 81 = .ok (.iload 4, 2) := by decide +kernel
theorem dX1_firstVoid_83 : decode cX1_firstVoid 83 = .ok (.ireturn, 1) := by decide +kernel
theorem dX1_firstVoid_84 : decode cX1_firstVoid 84 = .ok (.iinc 4 1, 3) := by decide +kernel
theorem dX1_firstVoid_87 : decode cX1_firstVoid 87 = .ok (.goto (-67), 3) := by decide +kernel
theorem dX1_firstVoid_90 : decode cX1_firstVoid 90 = .ok (.bipush (-9), 2) := by decide +kernel
theorem dX1_firstVoid_92 : decode cX1_firstVoid 92 = .ok (.ireturn, 1) := by decide +kernel
set_option maxRecDepth 20000 in
theorem ggX1_fewestTurned_J6_bitCount_0f7a4 : GoodIn wsX1_fewestTurned wsJ6_bitCount_0f7a4 := goodIn_r _ [8, 9, 10, 11] (by decide +kernel) (by decide +kernel)
set_option maxRecDepth 20000 in
theorem gX1_fewestTurned_J6_bitCount_0f7a4 : GoodIn wsX1_fewestTurned (va_wsS RX1 54 yJ6_bitCount_0f7a4 wsJ6_bitCount_0f7a4) := goodIn_app (goodIn_of _ (by decide +kernel)) ggX1_fewestTurned_J6_bitCount_0f7a4
set_option maxRecDepth 20000 in
theorem ggX1_fewestTurned_X4_copyFrom : GoodIn wsX1_fewestTurned wsX4_copyFrom := goodIn_r _ [16, 17, 18, 19, 20, 21, 114, 115] (by decide +kernel) (by decide +kernel)
set_option maxRecDepth 20000 in
theorem gX1_fewestTurned_X4_copyFrom : GoodIn wsX1_fewestTurned (wsV RX1 24 RX4 yX4_copyFrom wsX4_copyFrom) := goodIn_app (goodIn_of _ (by decide +kernel)) ggX1_fewestTurned_X4_copyFrom
set_option maxRecDepth 20000 in
theorem ggX1_fewestTurned_X1_endsWhole : GoodIn wsX1_fewestTurned wsX1_endsWhole := goodIn_r _ [26, 3, 27, 28, 29, 15, 30, 17, 31, 32, 33, 34, 35, 36, 37, 38, 39, 40, 41, 42, 43, 44, 45, 46, 47, 48, 49, 50, 51, 52, 53, 54, 55, 56, 57, 58, 59, 60, 61, 62, 63, 64, 65, 66, 67, 68, 69, 70, 71, 72, 73, 74, 75, 76, 77, 78, 79, 80, 81, 82, 83, 84, 85, 86, 87, 88, 89, 90, 91, 92, 93, 94, 95, 96, 97, 98, 99, 114, 115, 100, 101, 102, 103, 104, 105, 106, 107, 108, 109, 110, 111, 112, 113] (by decide +kernel) (by decide +kernel)
set_option maxRecDepth 20000 in
theorem gX1_fewestTurned_X1_endsWhole : GoodIn wsX1_fewestTurned (wsV RX1 61 RX1 yX1_endsWhole wsX1_endsWhole) := goodIn_app (goodIn_of _ (by decide +kernel)) ggX1_fewestTurned_X1_endsWhole
theorem dX1_fewestTurned_0 : decode cX1_fewestTurned 0 = .ok (.iconst 0, 1) := by decide +kernel
theorem dX1_fewestTurned_1 : decode cX1_fewestTurned 1 = .ok (.istore 5, 2) := by decide +kernel
theorem dX1_fewestTurned_3 : decode cX1_fewestTurned 3 = .ok (.iload 5, 2) := by decide +kernel
theorem dX1_fewestTurned_5 : decode cX1_fewestTurned 5 = .ok (.aload_n 0, 1) := by decide +kernel
theorem dX1_fewestTurned_6 : decode cX1_fewestTurned 6 = .ok (.getfield 9, 3) := by decide +kernel
theorem dX1_fewestTurned_9 : decode cX1_fewestTurned 9 = .ok (.getfield 48, 3) := by decide +kernel
theorem dX1_fewestTurned_12 : decode cX1_fewestTurned 12 = .ok (.if_icmp .gt 88, 3) := by decide +kernel
theorem dX1_fewestTurned_15 : decode cX1_fewestTurned 15 = .ok (.iconst 0, 1) := by decide +kernel
theorem dX1_fewestTurned_16 : decode cX1_fewestTurned 16 = .ok (.istore 6, 2) := by decide +kernel
theorem dX1_fewestTurned_18 : decode cX1_fewestTurned 18 = .ok (.iload 6, 2) := by decide +kernel
theorem dX1_fewestTurned_20 : decode cX1_fewestTurned 20 = .ok (.iconst 1, 1) := by decide +kernel
theorem dX1_fewestTurned_21 : decode cX1_fewestTurned 21 = .ok (.aload_n 0, 1) := by decide +kernel
theorem dX1_fewestTurned_22 : decode cX1_fewestTurned 22 = .ok (.getfield 9, 3) := by decide +kernel
theorem dX1_fewestTurned_25 : decode cX1_fewestTurned 25 = .ok (.getfield 48, 3) := by decide +kernel
theorem dX1_fewestTurned_28 : decode cX1_fewestTurned 28 = .ok (.ishl, 1) := by decide +kernel
theorem dX1_fewestTurned_29 : decode cX1_fewestTurned 29 = .ok (.if_icmp .ge 65, 3) := by decide +kernel
theorem dX1_fewestTurned_32 : decode cX1_fewestTurned 32 = .ok (.iload 6, 2) := by decide +kernel
theorem dX1_fewestTurned_34 : decode cX1_fewestTurned 34 = .ok (.invokestatic 54, 3) := by decide +kernel
theorem dX1_fewestTurned_37 : decode cX1_fewestTurned 37 = .ok (.iload 5, 2) := by decide +kernel
theorem dX1_fewestTurned_39 : decode cX1_fewestTurned 39 = .ok (.if_icmp .ne 49, 3) := by decide +kernel
theorem dX1_fewestTurned_42 : decode cX1_fewestTurned 42 = .ok (.iload 6, 2) := by decide +kernel
theorem dX1_fewestTurned_44 : decode cX1_fewestTurned 44 = .ok (.iload_n 3, 1) := by decide +kernel
theorem dX1_fewestTurned_45 : decode cX1_fewestTurned 45 = .ok (.iconst (-1), 1) := by decide +kernel
theorem dX1_fewestTurned_46 : decode cX1_fewestTurned 46 = .ok (.ixor, 1) := by decide +kernel
theorem dX1_fewestTurned_47 : decode cX1_fewestTurned 47 = .ok (.iand, 1) := by decide +kernel
theorem dX1_fewestTurned_48 : decode cX1_fewestTurned 48 = .ok (.ifCond .ne 40, 3) := by decide +kernel
theorem dX1_fewestTurned_51 : decode cX1_fewestTurned 51 = .ok (.aload_n 0, 1) := by decide +kernel
theorem dX1_fewestTurned_52 : decode cX1_fewestTurned 52 = .ok (.getfield 20, 3) := by decide +kernel
theorem dX1_fewestTurned_55 : decode cX1_fewestTurned 55 = .ok (.aload_n 1, 1) := by decide +kernel
theorem dX1_fewestTurned_56 : decode cX1_fewestTurned 56 = .ok (.invokevirtual 24, 3) := by decide +kernel
theorem dX1_fewestTurned_59 : decode cX1_fewestTurned 59 = .ok (.aload_n 0, 1) := by decide +kernel
theorem dX1_fewestTurned_60 : decode cX1_fewestTurned 60 = .ok (.getfield 20, 3) := by decide +kernel
theorem dX1_fewestTurned_63 : decode cX1_fewestTurned 63 = .ok (.getfield 57, 3) := by decide +kernel
theorem dX1_fewestTurned_66 : decode cX1_fewestTurned 66 = .ok (.iconst 3, 1) := by decide +kernel
theorem dX1_fewestTurned_67 : decode cX1_fewestTurned 67 = .ok (.dup2, 1) := by decide +kernel
theorem dX1_fewestTurned_68 : decode cX1_fewestTurned 68 = .ok (.iaload, 1) := by decide +kernel
theorem dX1_fewestTurned_69 : decode cX1_fewestTurned 69 = .ok (.iload 6, 2) := by decide +kernel
theorem dX1_fewestTurned_71 : decode cX1_fewestTurned 71 = .ok (.ixor, 1) := by decide +kernel
theorem dX1_fewestTurned_72 : decode cX1_fewestTurned 72 = .ok (.iastore, 1) := by decide +kernel
theorem dX1_fewestTurned_73 : decode cX1_fewestTurned 73 = .ok (.aload_n 0, 1) := by decide +kernel
theorem dX1_fewestTurned_74 : decode cX1_fewestTurned 74 = .ok (.iload_n 2, 1) := by decide +kernel
theorem dX1_fewestTurned_75 : decode cX1_fewestTurned 75 = .ok (.iconst 0, 1) := by decide +kernel
theorem dX1_fewestTurned_76 : decode cX1_fewestTurned 76 = .ok (.iconst 0, 1) := by decide +kernel
theorem dX1_fewestTurned_77 : decode cX1_fewestTurned 77 = .ok (.invokevirtual 61, 3) := by decide +kernel
theorem dX1_fewestTurned_80 : decode cX1_fewestTurned 80 = .ok (.iload 4, 2) := by decide +kernel
theorem dX1_fewestTurned_82 : decode cX1_fewestTurned 82 = .ok (.if_icmp .ne 6, 3) := by decide +kernel
theorem dX1_fewestTurned_85 : decode cX1_fewestTurned 85 = .ok (.iload 6, 2) := by decide +kernel
theorem dX1_fewestTurned_87 : decode cX1_fewestTurned 87 = .ok (.ireturn, 1) := by decide +kernel
theorem dX1_fewestTurned_88 : decode cX1_fewestTurned 88 = .ok (.iinc 6 1, 3) := by decide +kernel
theorem dX1_fewestTurned_91 : decode cX1_fewestTurned 91 = .ok (.goto (-73), 3) := by decide +kernel
theorem dX1_fewestTurned_94 : decode cX1_fewestTurned 94 = .ok (.iinc 5 1, 3) := by decide +kernel
theorem dX1_fewestTurned_97 : decode cX1_fewestTurned 97 = .ok (.goto (-94), 3) := by decide +kernel
theorem dX1_fewestTurned_100 : decode cX1_fewestTurned 100 = .ok (.bipush (-9), 2) := by decide +kernel
theorem dX1_fewestTurned_102 : decode cX1_fewestTurned 102 = .ok (.ireturn, 1) := by decide +kernel
set_option maxRecDepth 20000 in
theorem ggX1_waysWhole_J6_bitCount_0f7a4 : GoodIn wsX1_waysWhole wsJ6_bitCount_0f7a4 := goodIn_r _ [5, 6, 7, 8] (by decide +kernel) (by decide +kernel)
set_option maxRecDepth 20000 in
theorem gX1_waysWhole_J6_bitCount_0f7a4 : GoodIn wsX1_waysWhole (va_wsS RX1 54 yJ6_bitCount_0f7a4 wsJ6_bitCount_0f7a4) := goodIn_app (goodIn_of _ (by decide +kernel)) ggX1_waysWhole_J6_bitCount_0f7a4
set_option maxRecDepth 20000 in
theorem ggX1_waysWhole_X7_power : GoodIn wsX1_waysWhole wsX7_power := goodIn_r _ [11] (by decide +kernel) (by decide +kernel)
set_option maxRecDepth 20000 in
theorem gX1_waysWhole_X7_power_n65 : GoodIn wsX1_waysWhole (wsX7_power) := ggX1_waysWhole_X7_power
set_option maxRecDepth 20000 in
theorem ggX1_waysWhole_X4_copyFrom : GoodIn wsX1_waysWhole wsX4_copyFrom := goodIn_r _ [16, 17, 18, 19, 20, 21, 99, 100] (by decide +kernel) (by decide +kernel)
set_option maxRecDepth 20000 in
theorem gX1_waysWhole_X4_copyFrom : GoodIn wsX1_waysWhole (wsV RX1 24 RX4 yX4_copyFrom wsX4_copyFrom) := goodIn_app (goodIn_of _ (by decide +kernel)) ggX1_waysWhole_X4_copyFrom
set_option maxRecDepth 20000 in
theorem ggX1_waysWhole_X1_endsWhole : GoodIn wsX1_waysWhole wsX1_endsWhole := goodIn_r _ [26, 1, 27, 28, 29, 15, 30, 17, 31, 32, 33, 34, 35, 36, 37, 38, 39, 10, 40, 41, 42, 43, 44, 45, 46, 47, 48, 49, 50, 51, 52, 53, 54, 55, 56, 57, 58, 59, 60, 61, 62, 63, 64, 65, 66, 67, 68, 69, 70, 71, 72, 73, 74, 75, 76, 77, 78, 79, 80, 81, 82, 83, 84, 85, 86, 87, 88, 89, 90, 91, 92, 93, 94, 95, 96, 97, 98, 99, 100, 101, 102, 103, 104, 105, 106, 107, 108, 109, 110, 111, 112, 113, 114] (by decide +kernel) (by decide +kernel)
set_option maxRecDepth 20000 in
theorem gX1_waysWhole_X1_endsWhole : GoodIn wsX1_waysWhole (wsV RX1 61 RX1 yX1_endsWhole wsX1_endsWhole) := goodIn_app (goodIn_of _ (by decide +kernel)) ggX1_waysWhole_X1_endsWhole
theorem dX1_waysWhole_0 : decode cX1_waysWhole 0 = .ok (.iconst 0, 1) := by decide +kernel
theorem dX1_waysWhole_1 : decode cX1_waysWhole 1 = .ok (.istore 5, 2) := by decide +kernel
theorem dX1_waysWhole_3 : decode cX1_waysWhole 3 = .ok (.iconst 0, 1) := by decide +kernel
theorem dX1_waysWhole_4 : decode cX1_waysWhole 4 = .ok (.istore 6, 2) := by decide +kernel
theorem dX1_waysWhole_6 : decode cX1_waysWhole 6 = .ok (.iload 6, 2) := by decide +kernel
theorem dX1_waysWhole_8 : decode cX1_waysWhole 8 = .ok (.iconst 1, 1) := by decide +kernel
theorem dX1_waysWhole_9 : decode cX1_waysWhole 9 = .ok (.iload 4, 2) := by decide +kernel
theorem dX1_waysWhole_11 : decode cX1_waysWhole 11 = .ok (.ishl, 1) := by decide +kernel
theorem dX1_waysWhole_12 : decode cX1_waysWhole 12 = .ok (.if_icmp .ge 73, 3) := by decide +kernel
theorem dX1_waysWhole_15 : decode cX1_waysWhole 15 = .ok (.iload 6, 2) := by decide +kernel
theorem dX1_waysWhole_17 : decode cX1_waysWhole 17 = .ok (.invokestatic 54, 3) := by decide +kernel
theorem dX1_waysWhole_20 : decode cX1_waysWhole 20 = .ok (.istore 7, 2) := by decide +kernel
theorem dX1_waysWhole_22 : decode cX1_waysWhole 22 = .ok (.iload_n 3, 1) := by decide +kernel
theorem dX1_waysWhole_23 : decode cX1_waysWhole 23 = .ok (.iload 7, 2) := by decide +kernel
theorem dX1_waysWhole_25 : decode cX1_waysWhole 25 = .ok (.invokestatic 65, 3) := by decide +kernel
theorem dX1_waysWhole_28 : decode cX1_waysWhole 28 = .ok (.bipush 10, 2) := by decide +kernel
theorem dX1_waysWhole_30 : decode cX1_waysWhole 30 = .ok (.iload_n 3, 1) := by decide +kernel
theorem dX1_waysWhole_31 : decode cX1_waysWhole 31 = .ok (.isub, 1) := by decide +kernel
theorem dX1_waysWhole_32 : decode cX1_waysWhole 32 = .ok (.iload 4, 2) := by decide +kernel
theorem dX1_waysWhole_34 : decode cX1_waysWhole 34 = .ok (.iload 7, 2) := by decide +kernel
theorem dX1_waysWhole_36 : decode cX1_waysWhole 36 = .ok (.isub, 1) := by decide +kernel
theorem dX1_waysWhole_37 : decode cX1_waysWhole 37 = .ok (.invokestatic 65, 3) := by decide +kernel
theorem dX1_waysWhole_40 : decode cX1_waysWhole 40 = .ok (.imul, 1) := by decide +kernel
theorem dX1_waysWhole_41 : decode cX1_waysWhole 41 = .ok (.istore 8, 2) := by decide +kernel
theorem dX1_waysWhole_43 : decode cX1_waysWhole 43 = .ok (.iload 8, 2) := by decide +kernel
theorem dX1_waysWhole_45 : decode cX1_waysWhole 45 = .ok (.ifCond .le 34, 3) := by decide +kernel
theorem dX1_waysWhole_48 : decode cX1_waysWhole 48 = .ok (.aload_n 0, 1) := by decide +kernel
theorem dX1_waysWhole_49 : decode cX1_waysWhole 49 = .ok (.getfield 20, 3) := by decide +kernel
theorem dX1_waysWhole_52 : decode cX1_waysWhole 52 = .ok (.aload_n 1, 1) := by decide +kernel
theorem dX1_waysWhole_53 : decode cX1_waysWhole 53 = .ok (.invokevirtual 24, 3) := by decide +kernel
theorem dX1_waysWhole_56 : decode cX1_waysWhole 56 = .ok (.iload 5, 2) := by decide +kernel
theorem dX1_waysWhole_58 : decode cX1_waysWhole 58 = .ok (.aload_n 0, 1) := by decide +kernel
theorem dX1_waysWhole_59 : decode cX1_waysWhole 59 = .ok (.iload_n 2, 1) := by decide +kernel
theorem dX1_waysWhole_60 : decode cX1_waysWhole 60 = .ok (.iload 6, 2) := by decide +kernel
theorem dX1_waysWhole_62 : decode cX1_waysWhole 62 = .ok (.iload 4, 2) := by decide +kernel
theorem dX1_waysWhole_64 : decode cX1_waysWhole 64 = .ok (.invokevirtual 61, 3) := by decide +kernel
theorem dX1_waysWhole_67 : decode cX1_waysWhole 67 = .ok (.ifCond .eq 8, 3) := by decide +kernel
theorem dX1_waysWhole_70 : decode cX1_waysWhole 70 = .ok (.iload 8, 2) := by decide +kernel
theorem dX1_waysWhole_72 : decode cX1_waysWhole 72 = .ok (.goto 4, 3) := by decide +kernel
theorem dX1_waysWhole_75 : decode cX1_waysWhole 75 = .ok (.iconst 0, 1) := by decide +kernel
theorem dX1_waysWhole_76 : decode cX1_waysWhole 76 = .ok (.iadd, 1) := by decide +kernel
theorem dX1_waysWhole_77 : decode cX1_waysWhole 77 = .ok (.istore 5, 2) := by decide +kernel
theorem dX1_waysWhole_79 : decode cX1_waysWhole 79 = .ok (.iinc 6 1, 3) := by decide +kernel
theorem dX1_waysWhole_82 : decode cX1_waysWhole 82 = .ok (.goto (-76), 3) := by decide +kernel
theorem dX1_waysWhole_85 : decode cX1_waysWhole 85 = .ok (.iload 5, 2) := by decide +kernel
theorem dX1_waysWhole_87 : decode cX1_waysWhole 87 = .ok (.ireturn, 1) := by decide +kernel
set_option maxRecDepth 20000 in
theorem ggX1_endsWhole_X4_beginIfNot : GoodIn wsX1_endsWhole wsX4_beginIfNot := goodIn_r _ [6, 7, 8, 9, 10, 5, 11, 77, 78] (by decide +kernel) (by decide +kernel)
set_option maxRecDepth 20000 in
theorem gX1_endsWhole_X4_beginIfNot : GoodIn wsX1_endsWhole (wsV RX1 69 RX4 yX4_beginIfNot wsX4_beginIfNot) := goodIn_app (goodIn_of _ (by decide +kernel)) ggX1_endsWhole_X4_beginIfNot
set_option maxRecDepth 20000 in
theorem ggX1_endsWhole_X4_isEnded : GoodIn wsX1_endsWhole wsX4_isEnded := goodIn_r _ [15, 8, 9, 10, 5, 11, 7, 77, 78] (by decide +kernel) (by decide +kernel)
set_option maxRecDepth 20000 in
theorem gX1_endsWhole_X4_isEnded : GoodIn wsX1_endsWhole (wsV RX1 73 RX4 yX4_isEnded wsX4_isEnded) := goodIn_app (goodIn_of _ (by decide +kernel)) ggX1_endsWhole_X4_isEnded
set_option maxRecDepth 20000 in
theorem ggX1_endsWhole_X7_bit : GoodIn wsX1_endsWhole wsX7_bit := goodIn_r _ [18] (by decide +kernel) (by decide +kernel)
set_option maxRecDepth 20000 in
theorem gX1_endsWhole_X7_bit_n77 : GoodIn wsX1_endsWhole (wsX7_bit) := ggX1_endsWhole_X7_bit
set_option maxRecDepth 20000 in
theorem ggX1_endsWhole_X4_windBlows : GoodIn wsX1_endsWhole wsX4_windBlows := goodIn_r _ [22, 23, 24, 25, 26, 27, 28, 5, 29, 7, 77, 78, 79, 80, 81, 82, 83, 84, 85, 86, 87, 88, 89, 90, 91, 92] (by decide +kernel) (by decide +kernel)
set_option maxRecDepth 20000 in
theorem gX1_endsWhole_X4_windBlows : GoodIn wsX1_endsWhole (wsV RX1 32 RX4 yX4_windBlows wsX4_windBlows) := goodIn_app (goodIn_of _ (by decide +kernel)) ggX1_endsWhole_X4_windBlows
set_option maxRecDepth 20000 in
theorem ggX1_endsWhole_X4_pass : GoodIn wsX1_endsWhole wsX4_pass := goodIn_r _ [33, 7, 34, 35, 36, 5, 37, 23, 38, 39, 40, 41, 42, 43, 44, 45, 16, 17, 18, 46, 47, 48, 49, 50, 51, 52, 53, 54, 55, 56, 57, 58, 59, 8, 9, 10, 11, 60, 61, 62, 63, 64, 65, 66, 67, 68, 69, 70, 71, 72, 73, 77, 78, 79, 80, 81, 82, 83, 84, 85, 86, 87, 88, 89, 90, 91, 92] (by decide +kernel) (by decide +kernel)
set_option maxRecDepth 20000 in
theorem gX1_endsWhole_X4_pass : GoodIn wsX1_endsWhole (wsV RX1 36 RX4 yX4_pass wsX4_pass) := goodIn_app (goodIn_of _ (by decide +kernel)) ggX1_endsWhole_X4_pass
set_option maxRecDepth 20000 in
theorem ggX1_endsWhole_X4_stage : GoodIn wsX1_endsWhole wsX4_stage := goodIn_r _ [11, 7, 77, 78] (by decide +kernel) (by decide +kernel)
set_option maxRecDepth 20000 in
theorem gX1_endsWhole_X4_stage : GoodIn wsX1_endsWhole (wsV RX1 28 RX4 yX4_stage wsX4_stage) := goodIn_app (goodIn_of _ (by decide +kernel)) ggX1_endsWhole_X4_stage
theorem dX1_endsWhole_0 : decode cX1_endsWhole 0 = .ok (.aload_n 0, 1) := by decide +kernel
theorem dX1_endsWhole_1 : decode cX1_endsWhole 1 = .ok (.getfield 20, 3) := by decide +kernel
theorem dX1_endsWhole_4 : decode cX1_endsWhole 4 = .ok (.iload_n 1, 1) := by decide +kernel
theorem dX1_endsWhole_5 : decode cX1_endsWhole 5 = .ok (.invokevirtual 69, 3) := by decide +kernel
theorem dX1_endsWhole_8 : decode cX1_endsWhole 8 = .ok (.iconst 0, 1) := by decide +kernel
theorem dX1_endsWhole_9 : decode cX1_endsWhole 9 = .ok (.istore 4, 2) := by decide +kernel
theorem dX1_endsWhole_11 : decode cX1_endsWhole 11 = .ok (.iload 4, 2) := by decide +kernel
theorem dX1_endsWhole_13 : decode cX1_endsWhole 13 = .ok (.bipush 60, 2) := by decide +kernel
theorem dX1_endsWhole_15 : decode cX1_endsWhole 15 = .ok (.if_icmp .ge 59, 3) := by decide +kernel
theorem dX1_endsWhole_18 : decode cX1_endsWhole 18 = .ok (.aload_n 0, 1) := by decide +kernel
theorem dX1_endsWhole_19 : decode cX1_endsWhole 19 = .ok (.getfield 20, 3) := by decide +kernel
theorem dX1_endsWhole_22 : decode cX1_endsWhole 22 = .ok (.iload_n 1, 1) := by decide +kernel
theorem dX1_endsWhole_23 : decode cX1_endsWhole 23 = .ok (.invokevirtual 73, 3) := by decide +kernel
theorem dX1_endsWhole_26 : decode cX1_endsWhole 26 = .ok (.ifCond .ne 48, 3) := by decide +kernel
theorem dX1_endsWhole_29 : decode cX1_endsWhole 29 = .ok (.aload_n 0, 1) := by decide +kernel
theorem dX1_endsWhole_30 : decode cX1_endsWhole 30 = .ok (.getfield 20, 3) := by decide +kernel
theorem dX1_endsWhole_33 : decode cX1_endsWhole 33 = .ok (.iload 4, 2) := by decide +kernel
theorem dX1_endsWhole_35 : decode cX1_endsWhole 35 = .ok (.iload_n 3, 1) := by decide +kernel
theorem dX1_endsWhole_36 : decode cX1_endsWhole 36 = .ok (.if_icmp .ge 21, 3) := by decide +kernel
theorem dX1_endsWhole_39 : decode cX1_endsWhole 39 = .ok (.iload_n 2, 1) := by decide +kernel
theorem dX1_endsWhole_40 : decode cX1_endsWhole 40 = .ok (.iload 4, 2) := by decide +kernel
theorem dX1_endsWhole_42 : decode cX1_endsWhole 42 = .ok (.invokestatic 77, 3) := by decide +kernel
theorem dX1_endsWhole_45 : decode cX1_endsWhole 45 = .ok (.iconst 1, 1) := by decide +kernel
theorem dX1_endsWhole_46 : decode cX1_endsWhole 46 = .ok (.if_icmp .ne 7, 3) := by decide +kernel
theorem dX1_endsWhole_49 : decode cX1_endsWhole 49 = .ok (.iconst 1, 1) := by decide +kernel
theorem dX1_endsWhole_50 : decode cX1_endsWhole 50 = .ok (.goto 14, 3) := by decide +kernel
theorem dX1_endsWhole_53 : decode cX1_endsWhole 53 = .ok (.iconst 0, 1) := by decide +kernel
theorem dX1_endsWhole_54 : decode cX1_endsWhole 54 = .ok (.goto 10, 3) := by decide +kernel
theorem dX1_endsWhole_57 : decode cX1_endsWhole 57 = .ok (.aload_n 0, 1) := by decide +kernel
theorem dX1_endsWhole_58 : decode cX1_endsWhole 58 = .ok (.getfield 20, 3) := by decide +kernel
theorem dX1_endsWhole_61 : decode cX1_endsWhole 61 = .ok (.invokevirtual 32, 3) := by decide +kernel
theorem dX1_endsWhole_64 : decode cX1_endsWhole 64 = .ok (.invokevirtual 36, 3) := by decide +kernel
theorem dX1_endsWhole_67 : decode cX1_endsWhole 67 = .ok (.pop, 1) := by decide +kernel
theorem dX1_endsWhole_68 : decode cX1_endsWhole 68 = .ok (.iinc 4 1, 3) := by decide +kernel
theorem dX1_endsWhole_71 : decode cX1_endsWhole 71 = .ok (.goto (-60), 3) := by decide +kernel
theorem dX1_endsWhole_74 : decode cX1_endsWhole 74 = .ok (.aload_n 0, 1) := by decide +kernel
theorem dX1_endsWhole_75 : decode cX1_endsWhole 75 = .ok (.getfield 20, 3) := by decide +kernel
theorem dX1_endsWhole_78 : decode cX1_endsWhole 78 = .ok (.iload_n 1, 1) := by decide +kernel
theorem dX1_endsWhole_79 : decode cX1_endsWhole 79 = .ok (.invokevirtual 28, 3) := by decide +kernel
theorem dX1_endsWhole_82 : decode cX1_endsWhole 82 = .ok (.iconst 2, 1) := by decide +kernel
theorem dX1_endsWhole_83 : decode cX1_endsWhole 83 = .ok (.if_icmp .ne 7, 3) := by decide +kernel
theorem dX1_endsWhole_86 : decode cX1_endsWhole 86 = .ok (.iconst 1, 1) := by decide +kernel
theorem dX1_endsWhole_87 : decode cX1_endsWhole 87 = .ok (.goto 4, 3) := by decide +kernel
theorem dX1_endsWhole_90 : decode cX1_endsWhole 90 = .ok (.iconst 0, 1) := by decide +kernel
theorem dX1_endsWhole_91 : decode cX1_endsWhole 91 = .ok (.ireturn, 1) := by decide +kernel
theorem dX2_init_0 : decode cX2_init 0 = .ok (.aload_n 0, 1) := by decide +kernel
theorem dX2_init_1 : decode cX2_init 1 = .ok (.invokespecial 3, 3) := by decide +kernel
theorem dX2_init_4 : decode cX2_init 4 = .ok (.aload_n 0, 1) := by decide +kernel
theorem dX2_init_5 : decode cX2_init 5 = .ok (.iconst 5, 1) := by decide +kernel
theorem dX2_init_6 : decode cX2_init 6 = .ok (.newarray .int, 2) := by decide +kernel
theorem dX2_init_8 : decode cX2_init 8 = .ok (.putfield 9, 3) := by decide +kernel
theorem dX2_init_11 : decode cX2_init 11 = .ok (.aload_n 0, 1) := by decide +kernel
theorem dX2_init_12 : decode cX2_init 12 = .ok (.iconst 5, 1) := by decide +kernel
theorem dX2_init_13 : decode cX2_init 13 = .ok (.newarray .int, 2) := by decide +kernel
theorem dX2_init_15 : decode cX2_init 15 = .ok (.putfield 15, 3) := by decide +kernel
theorem dX2_init_18 : decode cX2_init 18 = .ok (.aload_n 0, 1) := by decide +kernel
theorem dX2_init_19 : decode cX2_init 19 = .ok (.bipush 6, 2) := by decide +kernel
theorem dX2_init_21 : decode cX2_init 21 = .ok (.newarray .int, 2) := by decide +kernel
theorem dX2_init_23 : decode cX2_init 23 = .ok (.putfield 18, 3) := by decide +kernel
theorem dX2_init_26 : decode cX2_init 26 = .ok (.aload_n 0, 1) := by decide +kernel
theorem dX2_init_27 : decode cX2_init 27 = .ok (.bipush 6, 2) := by decide +kernel
theorem dX2_init_29 : decode cX2_init 29 = .ok (.newarray .int, 2) := by decide +kernel
theorem dX2_init_31 : decode cX2_init 31 = .ok (.putfield 21, 3) := by decide +kernel
theorem dX2_init_34 : decode cX2_init 34 = .ok (.aload_n 0, 1) := by decide +kernel
theorem dX2_init_35 : decode cX2_init 35 = .ok (.bipush 6, 2) := by decide +kernel
theorem dX2_init_37 : decode cX2_init 37 = .ok (.newarray .int, 2) := by decide +kernel
theorem dX2_init_39 : decode cX2_init 39 = .ok (.putfield 24, 3) := by decide +kernel
theorem dX2_init_42 : decode cX2_init 42 = .ok (.aload_n 0, 1) := by decide +kernel
theorem dX2_init_43 : decode cX2_init 43 = .ok (.bipush 6, 2) := by decide +kernel
theorem dX2_init_45 : decode cX2_init 45 = .ok (.newarray .int, 2) := by decide +kernel
theorem dX2_init_47 : decode cX2_init 47 = .ok (.putfield 27, 3) := by decide +kernel
theorem dX2_init_50 : decode cX2_init 50 = .ok (.aload_n 0, 1) := by decide +kernel
theorem dX2_init_51 : decode cX2_init 51 = .ok (.bipush 6, 2) := by decide +kernel
theorem dX2_init_53 : decode cX2_init 53 = .ok (.newarray .int, 2) := by decide +kernel
theorem dX2_init_55 : decode cX2_init 55 = .ok (.putfield 30, 3) := by decide +kernel
theorem dX2_init_58 : decode cX2_init 58 = .ok (.aload_n 0, 1) := by decide +kernel
theorem dX2_init_59 : decode cX2_init 59 = .ok (.bipush 6, 2) := by decide +kernel
theorem dX2_init_61 : decode cX2_init 61 = .ok (.newarray .int, 2) := by decide +kernel
theorem dX2_init_63 : decode cX2_init 63 = .ok (.putfield 33, 3) := by decide +kernel
theorem dX2_init_66 : decode cX2_init 66 = .ok (.aload_n 0, 1) := by decide +kernel
theorem dX2_init_67 : decode cX2_init 67 = .ok (.bipush 8, 2) := by decide +kernel
theorem dX2_init_69 : decode cX2_init 69 = .ok (.newarray .int, 2) := by decide +kernel
theorem dX2_init_71 : decode cX2_init 71 = .ok (.putfield 36, 3) := by decide +kernel
theorem dX2_init_74 : decode cX2_init 74 = .ok (.return_, 1) := by decide +kernel
theorem dX2_empty_0 : decode cX2_empty 0 = .ok (.aload_n 0, 1) := by decide +kernel
theorem dX2_empty_1 : decode cX2_empty 1 = .ok (.iconst 0, 1) := by decide +kernel
theorem dX2_empty_2 : decode cX2_empty 2 = .ok (.putfield 39, 3) := by decide +kernel
theorem dX2_empty_5 : decode cX2_empty 5 = .ok (.aload_n 0, 1) := by decide +kernel
theorem dX2_empty_6 : decode cX2_empty 6 = .ok (.iconst 0, 1) := by decide +kernel
theorem dX2_empty_7 : decode cX2_empty 7 = .ok (.putfield 43, 3) := by decide +kernel
theorem dX2_empty_10 : decode cX2_empty 10 = .ok (.aload_n 0, 1) := by decide +kernel
theorem dX2_empty_11 : decode cX2_empty 11 = .ok (.iconst 0, 1) := by decide +kernel
theorem dX2_empty_12 : decode cX2_empty 12 = .ok (.putfield 46, 3) := by decide +kernel
theorem dX2_empty_15 : decode cX2_empty 15 = .ok (.aload_n 0, 1) := by decide +kernel
theorem dX2_empty_16 : decode cX2_empty 16 = .ok (.iconst 0, 1) := by decide +kernel
theorem dX2_empty_17 : decode cX2_empty 17 = .ok (.putfield 49, 3) := by decide +kernel
theorem dX2_empty_20 : decode cX2_empty 20 = .ok (.aload_n 0, 1) := by decide +kernel
theorem dX2_empty_21 : decode cX2_empty 21 = .ok (.iconst 0, 1) := by decide +kernel
theorem dX2_empty_22 : decode cX2_empty 22 = .ok (.putfield 52, 3) := by decide +kernel
theorem dX2_empty_25 : decode cX2_empty 25 = .ok (.return_, 1) := by decide +kernel
theorem dX2_copyFrom_0 : decode cX2_copyFrom 0 = .ok (.aload_n 0, 1) := by decide +kernel
theorem dX2_copyFrom_1 : decode cX2_copyFrom 1 = .ok (.aload_n 1, 1) := by decide +kernel
theorem dX2_copyFrom_2 : decode cX2_copyFrom 2 = .ok (.getfield 39, 3) := by decide +kernel
theorem dX2_copyFrom_5 : decode cX2_copyFrom 5 = .ok (.putfield 39, 3) := by decide +kernel
theorem dX2_copyFrom_8 : decode cX2_copyFrom 8 = .ok (.aload_n 0, 1) := by decide +kernel
theorem dX2_copyFrom_9 : decode cX2_copyFrom 9 = .ok (.aload_n 1, 1) := by decide +kernel
theorem dX2_copyFrom_10 : decode cX2_copyFrom 10 = .ok (.getfield 43, 3) := by decide +kernel
theorem dX2_copyFrom_13 : decode cX2_copyFrom 13 = .ok (.putfield 43, 3) := by decide +kernel
theorem dX2_copyFrom_16 : decode cX2_copyFrom 16 = .ok (.aload_n 0, 1) := by decide +kernel
theorem dX2_copyFrom_17 : decode cX2_copyFrom 17 = .ok (.aload_n 1, 1) := by decide +kernel
theorem dX2_copyFrom_18 : decode cX2_copyFrom 18 = .ok (.getfield 46, 3) := by decide +kernel
theorem dX2_copyFrom_21 : decode cX2_copyFrom 21 = .ok (.putfield 46, 3) := by decide +kernel
theorem dX2_copyFrom_24 : decode cX2_copyFrom 24 = .ok (.aload_n 0, 1) := by decide +kernel
theorem dX2_copyFrom_25 : decode cX2_copyFrom 25 = .ok (.aload_n 1, 1) := by decide +kernel
theorem dX2_copyFrom_26 : decode cX2_copyFrom 26 = .ok (.getfield 49, 3) := by decide +kernel
theorem dX2_copyFrom_29 : decode cX2_copyFrom 29 = .ok (.putfield 49, 3) := by decide +kernel
theorem dX2_copyFrom_32 : decode cX2_copyFrom 32 = .ok (.aload_n 0, 1) := by decide +kernel
theorem dX2_copyFrom_33 : decode cX2_copyFrom 33 = .ok (.aload_n 1, 1) := by decide +kernel
theorem dX2_copyFrom_34 : decode cX2_copyFrom 34 = .ok (.getfield 52, 3) := by decide +kernel
theorem dX2_copyFrom_37 : decode cX2_copyFrom 37 = .ok (.putfield 52, 3) := by decide +kernel
theorem dX2_copyFrom_40 : decode cX2_copyFrom 40 = .ok (.aload_n 1, 1) := by decide +kernel
theorem dX2_copyFrom_41 : decode cX2_copyFrom 41 = .ok (.getfield 9, 3) := by decide +kernel
theorem dX2_copyFrom_44 : decode cX2_copyFrom 44 = .ok (.iconst 0, 1) := by decide +kernel
theorem dX2_copyFrom_45 : decode cX2_copyFrom 45 = .ok (.aload_n 0, 1) := by decide +kernel
theorem dX2_copyFrom_46 : decode cX2_copyFrom 46 = .ok (.getfield 9, 3) := by decide +kernel
theorem dX2_copyFrom_49 : decode cX2_copyFrom 49 = .ok (.iconst 0, 1) := by decide +kernel
theorem dX2_copyFrom_50 : decode cX2_copyFrom 50 = .ok (.iconst 5, 1) := by decide +kernel
theorem dX2_copyFrom_51 : decode cX2_copyFrom 51 = .ok (.invokestatic 55, 3) := by decide +kernel
theorem dX2_copyFrom_54 : decode cX2_copyFrom 54 = .ok (.aload_n 1, 1) := by decide +kernel
theorem dX2_copyFrom_55 : decode cX2_copyFrom 55 = .ok (.getfield 15, 3) := by decide +kernel
theorem dX2_copyFrom_58 : decode cX2_copyFrom 58 = .ok (.iconst 0, 1) := by decide +kernel
theorem dX2_copyFrom_59 : decode cX2_copyFrom 59 = .ok (.aload_n 0, 1) := by decide +kernel
theorem dX2_copyFrom_60 : decode cX2_copyFrom 60 = .ok (.getfield 15, 3) := by decide +kernel
theorem dX2_copyFrom_63 : decode cX2_copyFrom 63 = .ok (.iconst 0, 1) := by decide +kernel
theorem dX2_copyFrom_64 : decode cX2_copyFrom 64 = .ok (.iconst 5, 1) := by decide +kernel
theorem dX2_copyFrom_65 : decode cX2_copyFrom 65 = .ok (.invokestatic 55, 3) := by decide +kernel
theorem dX2_copyFrom_68 : decode cX2_copyFrom 68 = .ok (.aload_n 1, 1) := by decide +kernel
theorem dX2_copyFrom_69 : decode cX2_copyFrom 69 = .ok (.getfield 18, 3) := by decide +kernel
theorem dX2_copyFrom_72 : decode cX2_copyFrom 72 = .ok (.iconst 0, 1) := by decide +kernel
theorem dX2_copyFrom_73 : decode cX2_copyFrom 73 = .ok (.aload_n 0, 1) := by decide +kernel
theorem dX2_copyFrom_74 : decode cX2_copyFrom 74 = .ok (.getfield 18, 3) := by decide +kernel
theorem dX2_copyFrom_77 : decode cX2_copyFrom 77 = .ok (.iconst 0, 1) := by decide +kernel
theorem dX2_copyFrom_78 : decode cX2_copyFrom 78 = .ok (.bipush 6, 2) := by decide +kernel
theorem dX2_copyFrom_80 : decode cX2_copyFrom 80 = .ok (.invokestatic 55, 3) := by decide +kernel
theorem dX2_copyFrom_83 : decode cX2_copyFrom 83 = .ok (.aload_n 1, 1) := by decide +kernel
theorem dX2_copyFrom_84 : decode cX2_copyFrom 84 = .ok (.getfield 21, 3) := by decide +kernel
theorem dX2_copyFrom_87 : decode cX2_copyFrom 87 = .ok (.iconst 0, 1) := by decide +kernel
theorem dX2_copyFrom_88 : decode cX2_copyFrom 88 = .ok (.aload_n 0, 1) := by decide +kernel
theorem dX2_copyFrom_89 : decode cX2_copyFrom 89 = .ok (.getfield 21, 3) := by decide +kernel
theorem dX2_copyFrom_92 : decode cX2_copyFrom 92 = .ok (.iconst 0, 1) := by decide +kernel
theorem dX2_copyFrom_93 : decode cX2_copyFrom 93 = .ok (.bipush 6, 2) := by decide +kernel
theorem dX2_copyFrom_95 : decode cX2_copyFrom 95 = .ok (.invokestatic 55, 3) := by decide +kernel
theorem dX2_copyFrom_98 : decode cX2_copyFrom 98 = .ok (.aload_n 1, 1) := by decide +kernel
theorem dX2_copyFrom_99 : decode cX2_copyFrom 99 = .ok (.getfield 24, 3) := by decide +kernel
theorem dX2_copyFrom_102 : decode cX2_copyFrom 102 = .ok (.iconst 0, 1) := by decide +kernel
theorem dX2_copyFrom_103 : decode cX2_copyFrom 103 = .ok (.aload_n 0, 1) := by decide +kernel
theorem dX2_copyFrom_104 : decode cX2_copyFrom 104 = .ok (.getfield 24, 3) := by decide +kernel
theorem dX2_copyFrom_107 : decode cX2_copyFrom 107 = .ok (.iconst 0, 1) := by decide +kernel
theorem dX2_copyFrom_108 : decode cX2_copyFrom 108 = .ok (.bipush 6, 2) := by decide +kernel
theorem dX2_copyFrom_110 : decode cX2_copyFrom 110 = .ok (.invokestatic 55, 3) := by decide +kernel
theorem dX2_copyFrom_113 : decode cX2_copyFrom 113 = .ok (.aload_n 1, 1) := by decide +kernel
theorem dX2_copyFrom_114 : decode cX2_copyFrom 114 = .ok (.getfield 27, 3) := by decide +kernel
theorem dX2_copyFrom_117 : decode cX2_copyFrom 117 = .ok (.iconst 0, 1) := by decide +kernel
theorem dX2_copyFrom_118 : decode cX2_copyFrom 118 = .ok (.aload_n 0, 1) := by decide +kernel
theorem dX2_copyFrom_119 : decode cX2_copyFrom 119 = .ok (.getfield 27, 3) := by decide +kernel
theorem dX2_copyFrom_122 : decode cX2_copyFrom 122 = .ok (.iconst 0, 1) := by decide +kernel
theorem dX2_copyFrom_123 : decode cX2_copyFrom 123 = .ok (.bipush 6, 2) := by decide +kernel
theorem dX2_copyFrom_125 : decode cX2_copyFrom 125 = .ok (.invokestatic 55, 3) := by decide +kernel
theorem dX2_copyFrom_128 : decode cX2_copyFrom 128 = .ok (.aload_n 1, 1) := by decide +kernel
theorem dX2_copyFrom_129 : decode cX2_copyFrom 129 = .ok (.getfield 30, 3) := by decide +kernel
theorem dX2_copyFrom_132 : decode cX2_copyFrom 132 = .ok (.iconst 0, 1) := by decide +kernel
theorem dX2_copyFrom_133 : decode cX2_copyFrom 133 = .ok (.aload_n 0, 1) := by decide +kernel
theorem dX2_copyFrom_134 : decode cX2_copyFrom 134 = .ok (.getfield 30, 3) := by decide +kernel
theorem dX2_copyFrom_137 : decode cX2_copyFrom 137 = .ok (.iconst 0, 1) := by decide +kernel
theorem dX2_copyFrom_138 : decode cX2_copyFrom 138 = .ok (.bipush 6, 2) := by decide +kernel
theorem dX2_copyFrom_140 : decode cX2_copyFrom 140 = .ok (.invokestatic 55, 3) := by decide +kernel
theorem dX2_copyFrom_143 : decode cX2_copyFrom 143 = .ok (.aload_n 1, 1) := by decide +kernel
theorem dX2_copyFrom_144 : decode cX2_copyFrom 144 = .ok (.getfield 33, 3) := by decide +kernel
theorem dX2_copyFrom_147 : decode cX2_copyFrom 147 = .ok (.iconst 0, 1) := by decide +kernel
theorem dX2_copyFrom_148 : decode cX2_copyFrom 148 = .ok (.aload_n 0, 1) := by decide +kernel
theorem dX2_copyFrom_149 : decode cX2_copyFrom 149 = .ok (.getfield 33, 3) := by decide +kernel
theorem dX2_copyFrom_152 : decode cX2_copyFrom 152 = .ok (.iconst 0, 1) := by decide +kernel
theorem dX2_copyFrom_153 : decode cX2_copyFrom 153 = .ok (.bipush 6, 2) := by decide +kernel
theorem dX2_copyFrom_155 : decode cX2_copyFrom 155 = .ok (.invokestatic 55, 3) := by decide +kernel
theorem dX2_copyFrom_158 : decode cX2_copyFrom 158 = .ok (.aload_n 1, 1) := by decide +kernel
theorem dX2_copyFrom_159 : decode cX2_copyFrom 159 = .ok (.getfield 36, 3) := by decide +kernel
theorem dX2_copyFrom_162 : decode cX2_copyFrom 162 = .ok (.iconst 0, 1) := by decide +kernel
theorem dX2_copyFrom_163 : decode cX2_copyFrom 163 = .ok (.aload_n 0, 1) := by decide +kernel
theorem dX2_copyFrom_164 : decode cX2_copyFrom 164 = .ok (.getfield 36, 3) := by decide +kernel
theorem dX2_copyFrom_167 : decode cX2_copyFrom 167 = .ok (.iconst 0, 1) := by decide +kernel
theorem dX2_copyFrom_168 : decode cX2_copyFrom 168 = .ok (.bipush 8, 2) := by decide +kernel
theorem dX2_copyFrom_170 : decode cX2_copyFrom 170 = .ok (.invokestatic 55, 3) := by decide +kernel
theorem dX2_copyFrom_173 : decode cX2_copyFrom 173 = .ok (.return_, 1) := by decide +kernel
set_option maxRecDepth 20000 in
theorem ggX3_init_X5_init : GoodIn wsX3_init wsX5_init := goodIn_r _ [11, 12, 2, 3, 13, 4, 14, 18, 19, 20] (by decide +kernel) (by decide +kernel)
set_option maxRecDepth 20000 in
theorem gX3_init_X5_init_n17 : GoodIn wsX3_init (wsX5_init) := ggX3_init_X5_init
theorem dX3_init_0 : decode cX3_init 0 = .ok (.aload_n 0, 1) := by decide +kernel
theorem dX3_init_1 : decode cX3_init 1 = .ok (.invokespecial 1, 3) := by decide +kernel
theorem dX3_init_4 : decode cX3_init 4 = .ok (.aload_n 0, 1) := by decide +kernel
theorem dX3_init_5 : decode cX3_init 5 = .ok (.bipush 33, 2) := by decide +kernel
theorem dX3_init_7 : decode cX3_init 7 = .ok (.newarray .int, 2) := by decide +kernel
theorem dX3_init_9 : decode cX3_init 9 = .ok (.putfield 9, 3) := by decide +kernel
theorem dX3_init_12 : decode cX3_init 12 = .ok (.aload_n 0, 1) := by decide +kernel
theorem dX3_init_13 : decode cX3_init 13 = .ok (.new 15, 3) := by decide +kernel
theorem dX3_init_16 : decode cX3_init 16 = .ok (.dup, 1) := by decide +kernel
theorem dX3_init_17 : decode cX3_init 17 = .ok (.invokespecial 17, 3) := by decide +kernel
theorem dX3_init_20 : decode cX3_init 20 = .ok (.putfield 18, 3) := by decide +kernel
theorem dX3_init_23 : decode cX3_init 23 = .ok (.return_, 1) := by decide +kernel
set_option maxRecDepth 20000 in
theorem ggX3_take_X5_copyFrom : GoodIn wsX3_take wsX5_copyFrom := goodIn_r _ [13, 14, 15, 16, 17, 5, 6, 7, 23, 24, 25] (by decide +kernel) (by decide +kernel)
set_option maxRecDepth 20000 in
theorem gX3_take_X5_copyFrom : GoodIn wsX3_take (wsV RX3 33 RX5 yX5_copyFrom wsX5_copyFrom) := goodIn_app (goodIn_of _ (by decide +kernel)) ggX3_take_X5_copyFrom
theorem dX3_take_0 : decode cX3_take 0 = .ok (.aload_n 0, 1) := by decide +kernel
theorem dX3_take_1 : decode cX3_take 1 = .ok (.iconst 1, 1) := by decide +kernel
theorem dX3_take_2 : decode cX3_take 2 = .ok (.putfield 22, 3) := by decide +kernel
theorem dX3_take_5 : decode cX3_take 5 = .ok (.aload_n 1, 1) := by decide +kernel
theorem dX3_take_6 : decode cX3_take 6 = .ok (.getfield 26, 3) := by decide +kernel
theorem dX3_take_9 : decode cX3_take 9 = .ok (.iconst 0, 1) := by decide +kernel
theorem dX3_take_10 : decode cX3_take 10 = .ok (.aload_n 0, 1) := by decide +kernel
theorem dX3_take_11 : decode cX3_take 11 = .ok (.getfield 9, 3) := by decide +kernel
theorem dX3_take_14 : decode cX3_take 14 = .ok (.iconst 0, 1) := by decide +kernel
theorem dX3_take_15 : decode cX3_take 15 = .ok (.bipush 33, 2) := by decide +kernel
theorem dX3_take_17 : decode cX3_take 17 = .ok (.invokestatic 27, 3) := by decide +kernel
theorem dX3_take_20 : decode cX3_take 20 = .ok (.aload_n 0, 1) := by decide +kernel
theorem dX3_take_21 : decode cX3_take 21 = .ok (.getfield 18, 3) := by decide +kernel
theorem dX3_take_24 : decode cX3_take 24 = .ok (.aload_n 2, 1) := by decide +kernel
theorem dX3_take_25 : decode cX3_take 25 = .ok (.invokevirtual 33, 3) := by decide +kernel
theorem dX3_take_28 : decode cX3_take 28 = .ok (.return_, 1) := by decide +kernel
set_option maxRecDepth 20000 in
theorem ggX3_giveTo_X5_copyFrom : GoodIn wsX3_giveTo wsX5_copyFrom := goodIn_r _ [12, 13, 14, 15, 16, 4, 5, 6, 22, 23, 24] (by decide +kernel) (by decide +kernel)
set_option maxRecDepth 20000 in
theorem gX3_giveTo_X5_copyFrom : GoodIn wsX3_giveTo (wsV RX3 33 RX5 yX5_copyFrom wsX5_copyFrom) := goodIn_app (goodIn_of _ (by decide +kernel)) ggX3_giveTo_X5_copyFrom
theorem dX3_giveTo_0 : decode cX3_giveTo 0 = .ok (.aload_n 0, 1) := by decide +kernel
theorem dX3_giveTo_1 : decode cX3_giveTo 1 = .ok (.getfield 9, 3) := by decide +kernel
theorem dX3_giveTo_4 : decode cX3_giveTo 4 = .ok (.iconst 0, 1) := by decide +kernel
theorem dX3_giveTo_5 : decode cX3_giveTo 5 = .ok (.aload_n 1, 1) := by decide +kernel
theorem dX3_giveTo_6 : decode cX3_giveTo 6 = .ok (.getfield 26, 3) := by decide +kernel
theorem dX3_giveTo_9 : decode cX3_giveTo 9 = .ok (.iconst 0, 1) := by decide +kernel
theorem dX3_giveTo_10 : decode cX3_giveTo 10 = .ok (.bipush 33, 2) := by decide +kernel
theorem dX3_giveTo_12 : decode cX3_giveTo 12 = .ok (.invokestatic 27, 3) := by decide +kernel
theorem dX3_giveTo_15 : decode cX3_giveTo 15 = .ok (.aload_n 2, 1) := by decide +kernel
theorem dX3_giveTo_16 : decode cX3_giveTo 16 = .ok (.aload_n 0, 1) := by decide +kernel
theorem dX3_giveTo_17 : decode cX3_giveTo 17 = .ok (.getfield 18, 3) := by decide +kernel
theorem dX3_giveTo_20 : decode cX3_giveTo 20 = .ok (.invokevirtual 33, 3) := by decide +kernel
theorem dX3_giveTo_23 : decode cX3_giveTo 23 = .ok (.return_, 1) := by decide +kernel
theorem dX4_init_0 : decode cX4_init 0 = .ok (.aload_n 0, 1) := by decide +kernel
theorem dX4_init_1 : decode cX4_init 1 = .ok (.invokespecial 5, 3) := by decide +kernel
theorem dX4_init_4 : decode cX4_init 4 = .ok (.aload_n 0, 1) := by decide +kernel
theorem dX4_init_5 : decode cX4_init 5 = .ok (.bipush 33, 2) := by decide +kernel
theorem dX4_init_7 : decode cX4_init 7 = .ok (.newarray .int, 2) := by decide +kernel
theorem dX4_init_9 : decode cX4_init 9 = .ok (.putfield 11, 3) := by decide +kernel
theorem dX4_init_12 : decode cX4_init 12 = .ok (.aload_n 0, 1) := by decide +kernel
theorem dX4_init_13 : decode cX4_init 13 = .ok (.aload_n 1, 1) := by decide +kernel
theorem dX4_init_14 : decode cX4_init 14 = .ok (.putfield 15, 3) := by decide +kernel
theorem dX4_init_17 : decode cX4_init 17 = .ok (.return_, 1) := by decide +kernel
set_option maxRecDepth 20000 in
theorem ggX4_startAnew_J7_fill_53178 : GoodIn wsX4_startAnew wsJ7_fill_53178 := goodIn_r _ [9] (by decide +kernel) (by decide +kernel)
set_option maxRecDepth 20000 in
theorem gX4_startAnew_J7_fill_53178 : GoodIn wsX4_startAnew (va_wsS RX4 19 yJ7_fill_53178 wsJ7_fill_53178) := goodIn_app (goodIn_of _ (by decide +kernel)) ggX4_startAnew_J7_fill_53178
theorem dX4_startAnew_0 : decode cX4_startAnew 0 = .ok (.aload_n 0, 1) := by decide +kernel
theorem dX4_startAnew_1 : decode cX4_startAnew 1 = .ok (.getfield 11, 3) := by decide +kernel
theorem dX4_startAnew_4 : decode cX4_startAnew 4 = .ok (.iconst 0, 1) := by decide +kernel
theorem dX4_startAnew_5 : decode cX4_startAnew 5 = .ok (.invokestatic 19, 3) := by decide +kernel
theorem dX4_startAnew_8 : decode cX4_startAnew 8 = .ok (.iconst 0, 1) := by decide +kernel
theorem dX4_startAnew_9 : decode cX4_startAnew 9 = .ok (.istore_n 1, 1) := by decide +kernel
theorem dX4_startAnew_10 : decode cX4_startAnew 10 = .ok (.iload_n 1, 1) := by decide +kernel
theorem dX4_startAnew_11 : decode cX4_startAnew 11 = .ok (.aload_n 0, 1) := by decide +kernel
theorem dX4_startAnew_12 : decode cX4_startAnew 12 = .ok (.getfield 15, 3) := by decide +kernel
theorem dX4_startAnew_15 : decode cX4_startAnew 15 = .ok (.getfield 25, 3) := by decide +kernel
theorem dX4_startAnew_18 : decode cX4_startAnew 18 = .ok (.if_icmp .ge 44, 3) := by decide +kernel
theorem dX4_startAnew_21 : decode cX4_startAnew 21 = .ok (.aload_n 0, 1) := by decide +kernel
theorem dX4_startAnew_22 : decode cX4_startAnew 22 = .ok (.getfield 11, 3) := by decide +kernel
theorem dX4_startAnew_25 : decode cX4_startAnew 25 = .ok (.iconst 4, 1) := by decide +kernel
theorem dX4_startAnew_26 : decode cX4_startAnew 26 = .ok (.iload_n 1, 1) := by decide +kernel
theorem dX4_startAnew_27 : decode cX4_startAnew 27 = .ok (.iadd, 1) := by decide +kernel
theorem dX4_startAnew_28 : decode cX4_startAnew 28 = .ok (.aload_n 0, 1) := by decide +kernel
theorem dX4_startAnew_29 : decode cX4_startAnew 29 = .ok (.getfield 15, 3) := by decide +kernel
theorem dX4_startAnew_32 : decode cX4_startAnew 32 = .ok (.getfield 31, 3) := by decide +kernel
theorem dX4_startAnew_35 : decode cX4_startAnew 35 = .ok (.iload_n 1, 1) := by decide +kernel
theorem dX4_startAnew_36 : decode cX4_startAnew 36 = .ok (.iaload, 1) := by decide +kernel
theorem dX4_startAnew_37 : decode cX4_startAnew 37 = .ok (.iastore, 1) := by decide +kernel
theorem dX4_startAnew_38 : decode cX4_startAnew 38 = .ok (.aload_n 0, 1) := by decide +kernel
theorem dX4_startAnew_39 : decode cX4_startAnew 39 = .ok (.getfield 11, 3) := by decide +kernel
theorem dX4_startAnew_42 : decode cX4_startAnew 42 = .ok (.bipush 10, 2) := by decide +kernel
theorem dX4_startAnew_44 : decode cX4_startAnew 44 = .ok (.iload_n 1, 1) := by decide +kernel
theorem dX4_startAnew_45 : decode cX4_startAnew 45 = .ok (.iadd, 1) := by decide +kernel
theorem dX4_startAnew_46 : decode cX4_startAnew 46 = .ok (.aload_n 0, 1) := by decide +kernel
theorem dX4_startAnew_47 : decode cX4_startAnew 47 = .ok (.getfield 15, 3) := by decide +kernel
theorem dX4_startAnew_50 : decode cX4_startAnew 50 = .ok (.getfield 34, 3) := by decide +kernel
theorem dX4_startAnew_53 : decode cX4_startAnew 53 = .ok (.iload_n 1, 1) := by decide +kernel
theorem dX4_startAnew_54 : decode cX4_startAnew 54 = .ok (.iaload, 1) := by decide +kernel
theorem dX4_startAnew_55 : decode cX4_startAnew 55 = .ok (.iastore, 1) := by decide +kernel
theorem dX4_startAnew_56 : decode cX4_startAnew 56 = .ok (.iinc 1 1, 3) := by decide +kernel
theorem dX4_startAnew_59 : decode cX4_startAnew 59 = .ok (.goto (-49), 3) := by decide +kernel
theorem dX4_startAnew_62 : decode cX4_startAnew 62 = .ok (.return_, 1) := by decide +kernel
theorem dX4_copyFrom_0 : decode cX4_copyFrom 0 = .ok (.aload_n 1, 1) := by decide +kernel
theorem dX4_copyFrom_1 : decode cX4_copyFrom 1 = .ok (.getfield 11, 3) := by decide +kernel
theorem dX4_copyFrom_4 : decode cX4_copyFrom 4 = .ok (.iconst 0, 1) := by decide +kernel
theorem dX4_copyFrom_5 : decode cX4_copyFrom 5 = .ok (.aload_n 0, 1) := by decide +kernel
theorem dX4_copyFrom_6 : decode cX4_copyFrom 6 = .ok (.getfield 11, 3) := by decide +kernel
theorem dX4_copyFrom_9 : decode cX4_copyFrom 9 = .ok (.iconst 0, 1) := by decide +kernel
theorem dX4_copyFrom_10 : decode cX4_copyFrom 10 = .ok (.bipush 33, 2) := by decide +kernel
theorem dX4_copyFrom_12 : decode cX4_copyFrom 12 = .ok (.invokestatic 37, 3) := by decide +kernel
theorem dX4_copyFrom_15 : decode cX4_copyFrom 15 = .ok (.return_, 1) := by decide +kernel
theorem dX4_minute_0 : decode cX4_minute 0 = .ok (.aload_n 0, 1) := by decide +kernel
theorem dX4_minute_1 : decode cX4_minute 1 = .ok (.getfield 11, 3) := by decide +kernel
theorem dX4_minute_4 : decode cX4_minute 4 = .ok (.iconst 0, 1) := by decide +kernel
theorem dX4_minute_5 : decode cX4_minute 5 = .ok (.iaload, 1) := by decide +kernel
theorem dX4_minute_6 : decode cX4_minute 6 = .ok (.ireturn, 1) := by decide +kernel
theorem dX4_left_0 : decode cX4_left 0 = .ok (.aload_n 0, 1) := by decide +kernel
theorem dX4_left_1 : decode cX4_left 1 = .ok (.getfield 11, 3) := by decide +kernel
theorem dX4_left_4 : decode cX4_left 4 = .ok (.iconst 4, 1) := by decide +kernel
theorem dX4_left_5 : decode cX4_left 5 = .ok (.iload_n 1, 1) := by decide +kernel
theorem dX4_left_6 : decode cX4_left 6 = .ok (.iadd, 1) := by decide +kernel
theorem dX4_left_7 : decode cX4_left 7 = .ok (.iaload, 1) := by decide +kernel
theorem dX4_left_8 : decode cX4_left 8 = .ok (.ireturn, 1) := by decide +kernel
theorem dX4_roomOf_0 : decode cX4_roomOf 0 = .ok (.aload_n 0, 1) := by decide +kernel
theorem dX4_roomOf_1 : decode cX4_roomOf 1 = .ok (.getfield 11, 3) := by decide +kernel
theorem dX4_roomOf_4 : decode cX4_roomOf 4 = .ok (.bipush 10, 2) := by decide +kernel
theorem dX4_roomOf_6 : decode cX4_roomOf 6 = .ok (.iload_n 1, 1) := by decide +kernel
theorem dX4_roomOf_7 : decode cX4_roomOf 7 = .ok (.iadd, 1) := by decide +kernel
theorem dX4_roomOf_8 : decode cX4_roomOf 8 = .ok (.iaload, 1) := by decide +kernel
theorem dX4_roomOf_9 : decode cX4_roomOf 9 = .ok (.ireturn, 1) := by decide +kernel
theorem dX4_stage_0 : decode cX4_stage 0 = .ok (.aload_n 0, 1) := by decide +kernel
theorem dX4_stage_1 : decode cX4_stage 1 = .ok (.getfield 11, 3) := by decide +kernel
theorem dX4_stage_4 : decode cX4_stage 4 = .ok (.bipush 16, 2) := by decide +kernel
theorem dX4_stage_6 : decode cX4_stage 6 = .ok (.iload_n 1, 1) := by decide +kernel
theorem dX4_stage_7 : decode cX4_stage 7 = .ok (.iadd, 1) := by decide +kernel
theorem dX4_stage_8 : decode cX4_stage 8 = .ok (.iaload, 1) := by decide +kernel
theorem dX4_stage_9 : decode cX4_stage 9 = .ok (.ireturn, 1) := by decide +kernel
theorem dX4_wax_0 : decode cX4_wax 0 = .ok (.aload_n 0, 1) := by decide +kernel
theorem dX4_wax_1 : decode cX4_wax 1 = .ok (.getfield 11, 3) := by decide +kernel
theorem dX4_wax_4 : decode cX4_wax 4 = .ok (.bipush 28, 2) := by decide +kernel
theorem dX4_wax_6 : decode cX4_wax 6 = .ok (.iload_n 1, 1) := by decide +kernel
theorem dX4_wax_7 : decode cX4_wax 7 = .ok (.iadd, 1) := by decide +kernel
theorem dX4_wax_8 : decode cX4_wax 8 = .ok (.iaload, 1) := by decide +kernel
theorem dX4_wax_9 : decode cX4_wax 9 = .ok (.ireturn, 1) := by decide +kernel
set_option maxRecDepth 20000 in
theorem ggX4_isEnded_X4_stage : GoodIn wsX4_isEnded wsX4_stage := goodIn_r _ [5, 6, 7, 8] (by decide +kernel) (by decide +kernel)
set_option maxRecDepth 20000 in
theorem gX4_isEnded_X4_stage : GoodIn wsX4_isEnded (wsV RX4 43 RX4 yX4_stage wsX4_stage) := goodIn_app (goodIn_of _ (by decide +kernel)) ggX4_isEnded_X4_stage
theorem dX4_isEnded_0 : decode cX4_isEnded 0 = .ok (.aload_n 0, 1) := by decide +kernel
theorem dX4_isEnded_1 : decode cX4_isEnded 1 = .ok (.iload_n 1, 1) := by decide +kernel
theorem dX4_isEnded_2 : decode cX4_isEnded 2 = .ok (.invokevirtual 43, 3) := by decide +kernel
theorem dX4_isEnded_5 : decode cX4_isEnded 5 = .ok (.iconst 2, 1) := by decide +kernel
theorem dX4_isEnded_6 : decode cX4_isEnded 6 = .ok (.if_icmp .eq 12, 3) := by decide +kernel
theorem dX4_isEnded_9 : decode cX4_isEnded 9 = .ok (.aload_n 0, 1) := by decide +kernel
theorem dX4_isEnded_10 : decode cX4_isEnded 10 = .ok (.iload_n 1, 1) := by decide +kernel
theorem dX4_isEnded_11 : decode cX4_isEnded 11 = .ok (.invokevirtual 43, 3) := by decide +kernel
theorem dX4_isEnded_14 : decode cX4_isEnded 14 = .ok (.iconst 3, 1) := by decide +kernel
theorem dX4_isEnded_15 : decode cX4_isEnded 15 = .ok (.if_icmp .ne 7, 3) := by decide +kernel
theorem dX4_isEnded_18 : decode cX4_isEnded 18 = .ok (.iconst 1, 1) := by decide +kernel
theorem dX4_isEnded_19 : decode cX4_isEnded 19 = .ok (.goto 4, 3) := by decide +kernel
theorem dX4_isEnded_22 : decode cX4_isEnded 22 = .ok (.iconst 0, 1) := by decide +kernel
theorem dX4_isEnded_23 : decode cX4_isEnded 23 = .ok (.ireturn, 1) := by decide +kernel
set_option maxRecDepth 20000 in
theorem ggX4_beginIfNot_X4_stage : GoodIn wsX4_beginIfNot wsX4_stage := goodIn_r _ [6, 1, 7, 8] (by decide +kernel) (by decide +kernel)
set_option maxRecDepth 20000 in
theorem gX4_beginIfNot_X4_stage : GoodIn wsX4_beginIfNot (wsV RX4 43 RX4 yX4_stage wsX4_stage) := goodIn_app (goodIn_of _ (by decide +kernel)) ggX4_beginIfNot_X4_stage
theorem dX4_beginIfNot_0 : decode cX4_beginIfNot 0 = .ok (.aload_n 0, 1) := by decide +kernel
theorem dX4_beginIfNot_1 : decode cX4_beginIfNot 1 = .ok (.iload_n 1, 1) := by decide +kernel
theorem dX4_beginIfNot_2 : decode cX4_beginIfNot 2 = .ok (.invokevirtual 43, 3) := by decide +kernel
theorem dX4_beginIfNot_5 : decode cX4_beginIfNot 5 = .ok (.ifCond .ne 13, 3) := by decide +kernel
theorem dX4_beginIfNot_8 : decode cX4_beginIfNot 8 = .ok (.aload_n 0, 1) := by decide +kernel
theorem dX4_beginIfNot_9 : decode cX4_beginIfNot 9 = .ok (.getfield 11, 3) := by decide +kernel
theorem dX4_beginIfNot_12 : decode cX4_beginIfNot 12 = .ok (.bipush 16, 2) := by decide +kernel
theorem dX4_beginIfNot_14 : decode cX4_beginIfNot 14 = .ok (.iload_n 1, 1) := by decide +kernel
theorem dX4_beginIfNot_15 : decode cX4_beginIfNot 15 = .ok (.iadd, 1) := by decide +kernel
theorem dX4_beginIfNot_16 : decode cX4_beginIfNot 16 = .ok (.iconst 1, 1) := by decide +kernel
theorem dX4_beginIfNot_17 : decode cX4_beginIfNot 17 = .ok (.iastore, 1) := by decide +kernel
theorem dX4_beginIfNot_18 : decode cX4_beginIfNot 18 = .ok (.return_, 1) := by decide +kernel
set_option maxRecDepth 20000 in
theorem ggX4_windBlows_X4_minute : GoodIn wsX4_windBlows wsX4_minute := goodIn_r _ [8, 9, 10, 11] (by decide +kernel) (by decide +kernel)
set_option maxRecDepth 20000 in
theorem gX4_windBlows_X4_minute : GoodIn wsX4_windBlows (wsV RX4 53 RX4 yX4_minute wsX4_minute) := goodIn_app (goodIn_of _ (by decide +kernel)) ggX4_windBlows_X4_minute
theorem dX4_windBlows_0 : decode cX4_windBlows 0 = .ok (.aload_n 0, 1) := by decide +kernel
theorem dX4_windBlows_1 : decode cX4_windBlows 1 = .ok (.getfield 15, 3) := by decide +kernel
theorem dX4_windBlows_4 : decode cX4_windBlows 4 = .ok (.getfield 47, 3) := by decide +kernel
theorem dX4_windBlows_7 : decode cX4_windBlows 7 = .ok (.ifCond .le 31, 3) := by decide +kernel
theorem dX4_windBlows_10 : decode cX4_windBlows 10 = .ok (.aload_n 0, 1) := by decide +kernel
theorem dX4_windBlows_11 : decode cX4_windBlows 11 = .ok (.getfield 15, 3) := by decide +kernel
theorem dX4_windBlows_14 : decode cX4_windBlows 14 = .ok (.getfield 50, 3) := by decide +kernel
theorem dX4_windBlows_17 : decode cX4_windBlows 17 = .ok (.aload_n 0, 1) := by decide +kernel
theorem dX4_windBlows_18 : decode cX4_windBlows 18 = .ok (.invokevirtual 53, 3) := by decide +kernel
theorem dX4_windBlows_21 : decode cX4_windBlows 21 = .ok (.aload_n 0, 1) := by decide +kernel
theorem dX4_windBlows_22 : decode cX4_windBlows 22 = .ok (.getfield 15, 3) := by decide +kernel
theorem dX4_windBlows_25 : decode cX4_windBlows 25 = .ok (.getfield 47, 3) := by decide +kernel
theorem dX4_windBlows_28 : decode cX4_windBlows 28 = .ok (.irem, 1) := by decide +kernel
theorem dX4_windBlows_29 : decode cX4_windBlows 29 = .ok (.iaload, 1) := by decide +kernel
theorem dX4_windBlows_30 : decode cX4_windBlows 30 = .ok (.iconst 1, 1) := by decide +kernel
theorem dX4_windBlows_31 : decode cX4_windBlows 31 = .ok (.if_icmp .ne 7, 3) := by decide +kernel
theorem dX4_windBlows_34 : decode cX4_windBlows 34 = .ok (.iconst 1, 1) := by decide +kernel
theorem dX4_windBlows_35 : decode cX4_windBlows 35 = .ok (.goto 4, 3) := by decide +kernel
theorem dX4_windBlows_38 : decode cX4_windBlows 38 = .ok (.iconst 0, 1) := by decide +kernel
theorem dX4_windBlows_39 : decode cX4_windBlows 39 = .ok (.ireturn, 1) := by decide +kernel
set_option maxRecDepth 20000 in
theorem ggX4_candlesIn_X4_roomOf : GoodIn wsX4_candlesIn wsX4_roomOf := goodIn_r _ [7, 8, 9, 10] (by decide +kernel) (by decide +kernel)
set_option maxRecDepth 20000 in
theorem gX4_candlesIn_X4_roomOf : GoodIn wsX4_candlesIn (wsV RX4 57 RX4 yX4_roomOf wsX4_roomOf) := goodIn_app (goodIn_of _ (by decide +kernel)) ggX4_candlesIn_X4_roomOf
theorem dX4_candlesIn_0 : decode cX4_candlesIn 0 = .ok (.iconst 0, 1) := by decide +kernel
theorem dX4_candlesIn_1 : decode cX4_candlesIn 1 = .ok (.istore_n 2, 1) := by decide +kernel
theorem dX4_candlesIn_2 : decode cX4_candlesIn 2 = .ok (.iconst 0, 1) := by decide +kernel
theorem dX4_candlesIn_3 : decode cX4_candlesIn 3 = .ok (.istore_n 3, 1) := by decide +kernel
theorem dX4_candlesIn_4 : decode cX4_candlesIn 4 = .ok (.iload_n 3, 1) := by decide +kernel
theorem dX4_candlesIn_5 : decode cX4_candlesIn 5 = .ok (.aload_n 0, 1) := by decide +kernel
theorem dX4_candlesIn_6 : decode cX4_candlesIn 6 = .ok (.getfield 15, 3) := by decide +kernel
theorem dX4_candlesIn_9 : decode cX4_candlesIn 9 = .ok (.getfield 25, 3) := by decide +kernel
theorem dX4_candlesIn_12 : decode cX4_candlesIn 12 = .ok (.if_icmp .ge 28, 3) := by decide +kernel
theorem dX4_candlesIn_15 : decode cX4_candlesIn 15 = .ok (.iload_n 2, 1) := by decide +kernel
theorem dX4_candlesIn_16 : decode cX4_candlesIn 16 = .ok (.aload_n 0, 1) := by decide +kernel
theorem dX4_candlesIn_17 : decode cX4_candlesIn 17 = .ok (.iload_n 3, 1) := by decide +kernel
theorem dX4_candlesIn_18 : decode cX4_candlesIn 18 = .ok (.invokevirtual 57, 3) := by decide +kernel
theorem dX4_candlesIn_21 : decode cX4_candlesIn 21 = .ok (.iload_n 1, 1) := by decide +kernel
theorem dX4_candlesIn_22 : decode cX4_candlesIn 22 = .ok (.if_icmp .ne 9, 3) := by decide +kernel
theorem dX4_candlesIn_25 : decode cX4_candlesIn 25 = .ok (.iconst 1, 1) := by decide +kernel
theorem dX4_candlesIn_26 : decode cX4_candlesIn 26 = .ok (.iload_n 3, 1) := by decide +kernel
theorem dX4_candlesIn_27 : decode cX4_candlesIn 27 = .ok (.ishl, 1) := by decide +kernel
theorem dX4_candlesIn_28 : decode cX4_candlesIn 28 = .ok (.goto 4, 3) := by decide +kernel
theorem dX4_candlesIn_31 : decode cX4_candlesIn 31 = .ok (.iconst 0, 1) := by decide +kernel
theorem dX4_candlesIn_32 : decode cX4_candlesIn 32 = .ok (.ior, 1) := by decide +kernel
theorem dX4_candlesIn_33 : decode cX4_candlesIn 33 = .ok (.istore_n 2, 1) := by decide +kernel
theorem dX4_candlesIn_34 : decode cX4_candlesIn 34 = .ok (.iinc 3 1, 3) := by decide +kernel
theorem dX4_candlesIn_37 : decode cX4_candlesIn 37 = .ok (.goto (-33), 3) := by decide +kernel
theorem dX4_candlesIn_40 : decode cX4_candlesIn 40 = .ok (.iload_n 2, 1) := by decide +kernel
theorem dX4_candlesIn_41 : decode cX4_candlesIn 41 = .ok (.ireturn, 1) := by decide +kernel
set_option maxRecDepth 20000 in
theorem ggX4_actsThatAre_X4_stage : GoodIn wsX4_actsThatAre wsX4_stage := goodIn_r _ [7, 8, 9, 10] (by decide +kernel) (by decide +kernel)
set_option maxRecDepth 20000 in
theorem gX4_actsThatAre_X4_stage : GoodIn wsX4_actsThatAre (wsV RX4 43 RX4 yX4_stage wsX4_stage) := goodIn_app (goodIn_of _ (by decide +kernel)) ggX4_actsThatAre_X4_stage
theorem dX4_actsThatAre_0 : decode cX4_actsThatAre 0 = .ok (.iconst 0, 1) := by decide +kernel
theorem dX4_actsThatAre_1 : decode cX4_actsThatAre 1 = .ok (.istore_n 2, 1) := by decide +kernel
theorem dX4_actsThatAre_2 : decode cX4_actsThatAre 2 = .ok (.iconst 0, 1) := by decide +kernel
theorem dX4_actsThatAre_3 : decode cX4_actsThatAre 3 = .ok (.istore_n 3, 1) := by decide +kernel
theorem dX4_actsThatAre_4 : decode cX4_actsThatAre 4 = .ok (.iload_n 3, 1) := by decide +kernel
theorem dX4_actsThatAre_5 : decode cX4_actsThatAre 5 = .ok (.aload_n 0, 1) := by decide +kernel
theorem dX4_actsThatAre_6 : decode cX4_actsThatAre 6 = .ok (.getfield 15, 3) := by decide +kernel
theorem dX4_actsThatAre_9 : decode cX4_actsThatAre 9 = .ok (.getfield 60, 3) := by decide +kernel
theorem dX4_actsThatAre_12 : decode cX4_actsThatAre 12 = .ok (.if_icmp .ge 28, 3) := by decide +kernel
theorem dX4_actsThatAre_15 : decode cX4_actsThatAre 15 = .ok (.iload_n 2, 1) := by decide +kernel
theorem dX4_actsThatAre_16 : decode cX4_actsThatAre 16 = .ok (.aload_n 0, 1) := by decide +kernel
theorem dX4_actsThatAre_17 : decode cX4_actsThatAre 17 = .ok (.iload_n 3, 1) := by decide +kernel
theorem dX4_actsThatAre_18 : decode cX4_actsThatAre 18 = .ok (.invokevirtual 43, 3) := by decide +kernel
theorem dX4_actsThatAre_21 : decode cX4_actsThatAre 21 = .ok (.iload_n 1, 1) := by decide +kernel
