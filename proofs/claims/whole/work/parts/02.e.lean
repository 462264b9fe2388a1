theorem dX8_in_7 : decode cX8_in 7 = .ok (.lload 4, 2) := by decide +kernel
theorem dX8_in_9 : decode cX8_in 9 = .ok (.lcmp, 1) := by decide +kernel
theorem dX8_in_10 : decode cX8_in 10 = .ok (.ifCond .gt 7, 3) := by decide +kernel
theorem dX8_in_13 : decode cX8_in 13 = .ok (.iconst 1, 1) := by decide +kernel
theorem dX8_in_14 : decode cX8_in 14 = .ok (.goto 4, 3) := by decide +kernel
theorem dX8_in_17 : decode cX8_in 17 = .ok (.iconst 0, 1) := by decide +kernel
theorem dX8_in_18 : decode cX8_in 18 = .ok (.ireturn, 1) := by decide +kernel
set_option maxRecDepth 20000 in
theorem ggX8_init_X8_plain : GoodIn wsX8_init wsX8_plain := goodIn_r _ [19, 6, 26, 27, 28, 29, 30, 31, 32, 33, 34, 35, 36, 37, 38, 39, 40, 41, 42, 43] (by decide +kernel) (by decide +kernel)
set_option maxRecDepth 20000 in
theorem gX8_init_X8_plain : GoodIn wsX8_init (wsV RX8 40 RX8 yX8_plain wsX8_plain) := goodIn_app (goodIn_of _ (by decide +kernel)) ggX8_init_X8_plain
set_option maxRecDepth 20000 in
theorem ggX8_init_X8_takes : GoodIn wsX8_init wsX8_takes := goodIn_r _ [23, 7, 6, 8, 24, 25, 14, 26, 27, 28, 29, 30, 31, 32, 33, 34, 35, 36, 37, 38, 39, 40, 41, 42, 43] (by decide +kernel) (by decide +kernel)
set_option maxRecDepth 20000 in
theorem gX8_init_X8_takes : GoodIn wsX8_init (wsV RX8 43 RX8 yX8_takes wsX8_takes) := goodIn_app (goodIn_of _ (by decide +kernel)) ggX8_init_X8_takes
theorem dX8_init_0 : decode cX8_init 0 = .ok (.aload_n 0, 1) := by decide +kernel
theorem dX8_init_1 : decode cX8_init 1 = .ok (.invokespecial 1, 3) := by decide +kernel
theorem dX8_init_4 : decode cX8_init 4 = .ok (.aload_n 0, 1) := by decide +kernel
theorem dX8_init_5 : decode cX8_init 5 = .ok (.sipush 200, 3) := by decide +kernel
theorem dX8_init_8 : decode cX8_init 8 = .ok (.newarray .int, 2) := by decide +kernel
theorem dX8_init_10 : decode cX8_init 10 = .ok (.putfield 7, 3) := by decide +kernel
theorem dX8_init_13 : decode cX8_init 13 = .ok (.aload_n 0, 1) := by decide +kernel
theorem dX8_init_14 : decode cX8_init 14 = .ok (.bipush 59, 2) := by decide +kernel
theorem dX8_init_16 : decode cX8_init 16 = .ok (.newarray .int, 2) := by decide +kernel
theorem dX8_init_18 : decode cX8_init 18 = .ok (.putfield 13, 3) := by decide +kernel
theorem dX8_init_21 : decode cX8_init 21 = .ok (.aload_n 0, 1) := by decide +kernel
theorem dX8_init_22 : decode cX8_init 22 = .ok (.bipush 59, 2) := by decide +kernel
theorem dX8_init_24 : decode cX8_init 24 = .ok (.newarray .int, 2) := by decide +kernel
theorem dX8_init_26 : decode cX8_init 26 = .ok (.putfield 16, 3) := by decide +kernel
theorem dX8_init_29 : decode cX8_init 29 = .ok (.aload_n 0, 1) := by decide +kernel
theorem dX8_init_30 : decode cX8_init 30 = .ok (.bipush 47, 2) := by decide +kernel
theorem dX8_init_32 : decode cX8_init 32 = .ok (.newarray .int, 2) := by decide +kernel
theorem dX8_init_34 : decode cX8_init 34 = .ok (.putfield 19, 3) := by decide +kernel
theorem dX8_init_37 : decode cX8_init 37 = .ok (.aload_n 0, 1) := by decide +kernel
theorem dX8_init_38 : decode cX8_init 38 = .ok (.sipush 470, 3) := by decide +kernel
theorem dX8_init_41 : decode cX8_init 41 = .ok (.newarray .int, 2) := by decide +kernel
theorem dX8_init_43 : decode cX8_init 43 = .ok (.putfield 22, 3) := by decide +kernel
theorem dX8_init_46 : decode cX8_init 46 = .ok (.aload_n 0, 1) := by decide +kernel
theorem dX8_init_47 : decode cX8_init 47 = .ok (.bipush 47, 2) := by decide +kernel
theorem dX8_init_49 : decode cX8_init 49 = .ok (.newarray .int, 2) := by decide +kernel
theorem dX8_init_51 : decode cX8_init 51 = .ok (.putfield 25, 3) := by decide +kernel
theorem dX8_init_54 : decode cX8_init 54 = .ok (.aload_n 0, 1) := by decide +kernel
theorem dX8_init_55 : decode cX8_init 55 = .ok (.bipush 6, 2) := by decide +kernel
theorem dX8_init_57 : decode cX8_init 57 = .ok (.newarray .int, 2) := by decide +kernel
theorem dX8_init_59 : decode cX8_init 59 = .ok (.putfield 28, 3) := by decide +kernel
theorem dX8_init_62 : decode cX8_init 62 = .ok (.aload_n 0, 1) := by decide +kernel
theorem dX8_init_63 : decode cX8_init 63 = .ok (.bipush 6, 2) := by decide +kernel
theorem dX8_init_65 : decode cX8_init 65 = .ok (.newarray .int, 2) := by decide +kernel
theorem dX8_init_67 : decode cX8_init 67 = .ok (.putfield 31, 3) := by decide +kernel
theorem dX8_init_70 : decode cX8_init 70 = .ok (.aload_n 0, 1) := by decide +kernel
theorem dX8_init_71 : decode cX8_init 71 = .ok (.bipush 6, 2) := by decide +kernel
theorem dX8_init_73 : decode cX8_init 73 = .ok (.newarray .int, 2) := by decide +kernel
theorem dX8_init_75 : decode cX8_init 75 = .ok (.putfield 34, 3) := by decide +kernel
theorem dX8_init_78 : decode cX8_init 78 = .ok (.aload_n 0, 1) := by decide +kernel
theorem dX8_init_79 : decode cX8_init 79 = .ok (.sipush 1038, 3) := by decide +kernel
theorem dX8_init_82 : decode cX8_init 82 = .ok (.newarray .int, 2) := by decide +kernel
theorem dX8_init_84 : decode cX8_init 84 = .ok (.putfield 37, 3) := by decide +kernel
theorem dX8_init_87 : decode cX8_init 87 = .ok (.aload_n 0, 1) := by decide +kernel
theorem dX8_init_88 : decode cX8_init 88 = .ok (.invokevirtual 40, 3) := by decide +kernel
theorem dX8_init_91 : decode cX8_init 91 = .ok (.aload_n 0, 1) := by decide +kernel
theorem dX8_init_92 : decode cX8_init 92 = .ok (.invokevirtual 43, 3) := by decide +kernel
theorem dX8_init_95 : decode cX8_init 95 = .ok (.return_, 1) := by decide +kernel
set_option maxRecDepth 20000 in
theorem ggX8_type_X8_in : GoodIn wsX8_type wsX8_in := goodIn_r _ [7] (by decide +kernel) (by decide +kernel)
set_option maxRecDepth 20000 in
theorem gX8_type_X8_in : GoodIn wsX8_type (va_wsS RX8 48 yX8_in wsX8_in) := goodIn_app (goodIn_of _ (by decide +kernel)) ggX8_type_X8_in
theorem dX8_type_0 : decode cX8_type 0 = .ok (.iload_n 1, 1) := by decide +kernel
theorem dX8_type_1 : decode cX8_type 1 = .ok (.i2l, 1) := by decide +kernel
theorem dX8_type_2 : decode cX8_type 2 = .ok (.lconst 0, 1) := by decide +kernel
theorem dX8_type_3 : decode cX8_type 3 = .ok (.ldc2_w 46, 3) := by decide +kernel
theorem dX8_type_6 : decode cX8_type 6 = .ok (.invokestatic 48, 3) := by decide +kernel
theorem dX8_type_9 : decode cX8_type 9 = .ok (.ifCond .ne 5, 3) := by decide +kernel
theorem dX8_type_12 : decode cX8_type 12 = .ok (.iconst (-1), 1) := by decide +kernel
theorem dX8_type_13 : decode cX8_type 13 = .ok (.ireturn, 1) := by decide +kernel
theorem dX8_type_14 : decode cX8_type 14 = .ok (.aload_n 0, 1) := by decide +kernel
theorem dX8_type_15 : decode cX8_type 15 = .ok (.getfield 52, 3) := by decide +kernel
theorem dX8_type_18 : decode cX8_type 18 = .ok (.sipush 200, 3) := by decide +kernel
theorem dX8_type_21 : decode cX8_type 21 = .ok (.if_icmp .ne 6, 3) := by decide +kernel
theorem dX8_type_24 : decode cX8_type 24 = .ok (.bipush (-3), 2) := by decide +kernel
theorem dX8_type_26 : decode cX8_type 26 = .ok (.ireturn, 1) := by decide +kernel
theorem dX8_type_27 : decode cX8_type 27 = .ok (.aload_n 0, 1) := by decide +kernel
theorem dX8_type_28 : decode cX8_type 28 = .ok (.getfield 7, 3) := by decide +kernel
theorem dX8_type_31 : decode cX8_type 31 = .ok (.aload_n 0, 1) := by decide +kernel
theorem dX8_type_32 : decode cX8_type 32 = .ok (.getfield 52, 3) := by decide +kernel
theorem dX8_type_35 : decode cX8_type 35 = .ok (.iload_n 1, 1) := by decide +kernel
theorem dX8_type_36 : decode cX8_type 36 = .ok (.iastore, 1) := by decide +kernel
theorem dX8_type_37 : decode cX8_type 37 = .ok (.aload_n 0, 1) := by decide +kernel
theorem dX8_type_38 : decode cX8_type 38 = .ok (.dup, 1) := by decide +kernel
theorem dX8_type_39 : decode cX8_type 39 = .ok (.getfield 52, 3) := by decide +kernel
theorem dX8_type_42 : decode cX8_type 42 = .ok (.iconst 1, 1) := by decide +kernel
theorem dX8_type_43 : decode cX8_type 43 = .ok (.iadd, 1) := by decide +kernel
theorem dX8_type_44 : decode cX8_type 44 = .ok (.putfield 52, 3) := by decide +kernel
theorem dX8_type_47 : decode cX8_type 47 = .ok (.aload_n 0, 1) := by decide +kernel
theorem dX8_type_48 : decode cX8_type 48 = .ok (.getfield 52, 3) := by decide +kernel
theorem dX8_type_51 : decode cX8_type 51 = .ok (.ireturn, 1) := by decide +kernel
theorem dX8_clear_0 : decode cX8_clear 0 = .ok (.aload_n 0, 1) := by decide +kernel
theorem dX8_clear_1 : decode cX8_clear 1 = .ok (.getfield 52, 3) := by decide +kernel
theorem dX8_clear_4 : decode cX8_clear 4 = .ok (.istore_n 1, 1) := by decide +kernel
theorem dX8_clear_5 : decode cX8_clear 5 = .ok (.aload_n 0, 1) := by decide +kernel
theorem dX8_clear_6 : decode cX8_clear 6 = .ok (.iconst 0, 1) := by decide +kernel
theorem dX8_clear_7 : decode cX8_clear 7 = .ok (.putfield 52, 3) := by decide +kernel
theorem dX8_clear_10 : decode cX8_clear 10 = .ok (.iload_n 1, 1) := by decide +kernel
theorem dX8_clear_11 : decode cX8_clear 11 = .ok (.ireturn, 1) := by decide +kernel
set_option maxRecDepth 20000 in
theorem ggX8_isLetter_X8_in : GoodIn wsX8_isLetter wsX8_in := goodIn_r _ [6] (by decide +kernel) (by decide +kernel)
set_option maxRecDepth 20000 in
theorem gX8_isLetter_X8_in : GoodIn wsX8_isLetter (va_wsS RX8 48 yX8_in wsX8_in) := goodIn_app (goodIn_of _ (by decide +kernel)) ggX8_isLetter_X8_in
theorem dX8_isLetter_0 : decode cX8_isLetter 0 = .ok (.iload_n 0, 1) := by decide +kernel
theorem dX8_isLetter_1 : decode cX8_isLetter 1 = .ok (.i2l, 1) := by decide +kernel
theorem dX8_isLetter_2 : decode cX8_isLetter 2 = .ok (.ldc2_w 56, 3) := by decide +kernel
theorem dX8_isLetter_5 : decode cX8_isLetter 5 = .ok (.ldc2_w 58, 3) := by decide +kernel
theorem dX8_isLetter_8 : decode cX8_isLetter 8 = .ok (.invokestatic 48, 3) := by decide +kernel
theorem dX8_isLetter_11 : decode cX8_isLetter 11 = .ok (.ireturn, 1) := by decide +kernel
set_option maxRecDepth 20000 in
theorem ggX8_isFigure_X8_in : GoodIn wsX8_isFigure wsX8_in := goodIn_r _ [6] (by decide +kernel) (by decide +kernel)
set_option maxRecDepth 20000 in
theorem gX8_isFigure_X8_in : GoodIn wsX8_isFigure (va_wsS RX8 48 yX8_in wsX8_in) := goodIn_app (goodIn_of _ (by decide +kernel)) ggX8_isFigure_X8_in
theorem dX8_isFigure_0 : decode cX8_isFigure 0 = .ok (.iload_n 0, 1) := by decide +kernel
theorem dX8_isFigure_1 : decode cX8_isFigure 1 = .ok (.i2l, 1) := by decide +kernel
theorem dX8_isFigure_2 : decode cX8_isFigure 2 = .ok (.ldc2_w 60, 3) := by decide +kernel
theorem dX8_isFigure_5 : decode cX8_isFigure 5 = .ok (.ldc2_w 62, 3) := by decide +kernel
theorem dX8_isFigure_8 : decode cX8_isFigure 8 = .ok (.invokestatic 48, 3) := by decide +kernel
theorem dX8_isFigure_11 : decode cX8_isFigure 11 = .ok (.ireturn, 1) := by decide +kernel
set_option maxRecDepth 20000 in
theorem ggX8_readLetters_X8_isLetter : GoodIn wsX8_readLetters wsX8_isLetter := goodIn_r _ [10, 11, 12, 13, 14, 9, 15] (by decide +kernel) (by decide +kernel)
set_option maxRecDepth 20000 in
theorem gX8_readLetters_X8_isLetter : GoodIn wsX8_readLetters (va_wsS RX8 70 yX8_isLetter wsX8_isLetter) := goodIn_app (goodIn_of _ (by decide +kernel)) ggX8_readLetters_X8_isLetter
theorem dX8_readLetters_0 : decode cX8_readLetters 0 = .ok (.aload_n 0, 1) := by decide +kernel
theorem dX8_readLetters_1 : decode cX8_readLetters 1 = .ok (.aload_n 0, 1) := by decide +kernel
theorem dX8_readLetters_2 : decode cX8_readLetters 2 = .ok (.getfield 7, 3) := by decide +kernel
theorem dX8_readLetters_5 : decode cX8_readLetters 5 = .ok (.aload_n 0, 1) := by decide +kernel
theorem dX8_readLetters_6 : decode cX8_readLetters 6 = .ok (.getfield 64, 3) := by decide +kernel
theorem dX8_readLetters_9 : decode cX8_readLetters 9 = .ok (.iaload, 1) := by decide +kernel
theorem dX8_readLetters_10 : decode cX8_readLetters 10 = .ok (.putfield 67, 3) := by decide +kernel
theorem dX8_readLetters_13 : decode cX8_readLetters 13 = .ok (.aload_n 0, 1) := by decide +kernel
theorem dX8_readLetters_14 : decode cX8_readLetters 14 = .ok (.getfield 64, 3) := by decide +kernel
theorem dX8_readLetters_17 : decode cX8_readLetters 17 = .ok (.aload_n 0, 1) := by decide +kernel
theorem dX8_readLetters_18 : decode cX8_readLetters 18 = .ok (.getfield 52, 3) := by decide +kernel
theorem dX8_readLetters_21 : decode cX8_readLetters 21 = .ok (.if_icmp .ge 31, 3) := by decide +kernel
theorem dX8_readLetters_24 : decode cX8_readLetters 24 = .ok (.aload_n 0, 1) := by decide +kernel
theorem dX8_readLetters_25 : decode cX8_readLetters 25 = .ok (.getfield 7, 3) := by decide +kernel
theorem dX8_readLetters_28 : decode cX8_readLetters 28 = .ok (.aload_n 0, 1) := by decide +kernel
theorem dX8_readLetters_29 : decode cX8_readLetters 29 = .ok (.getfield 64, 3) := by decide +kernel
theorem dX8_readLetters_32 : decode cX8_readLetters 32 = .ok (.iaload, 1) := by decide +kernel
theorem dX8_readLetters_33 : decode cX8_readLetters 33 = .ok (.invokestatic 70, 3) := by decide +kernel
theorem dX8_readLetters_36 : decode cX8_readLetters 36 = .ok (.ifCond .eq 16, 3) := by decide +kernel
theorem dX8_readLetters_39 : decode cX8_readLetters 39 = .ok (.aload_n 0, 1) := by decide +kernel
theorem dX8_readLetters_40 : decode cX8_readLetters 40 = .ok (.dup, 1) := by decide +kernel
theorem dX8_readLetters_41 : decode cX8_readLetters 41 = .ok (.getfield 64, 3) := by decide +kernel
theorem dX8_readLetters_44 : decode cX8_readLetters 44 = .ok (.iconst 1, 1) := by decide +kernel
theorem dX8_readLetters_45 : decode cX8_readLetters 45 = .ok (.iadd, 1) := by decide +kernel
theorem dX8_readLetters_46 : decode cX8_readLetters 46 = .ok (.putfield 64, 3) := by decide +kernel
theorem dX8_readLetters_49 : decode cX8_readLetters 49 = .ok (.goto (-36), 3) := by decide +kernel
theorem dX8_readLetters_52 : decode cX8_readLetters 52 = .ok (.aload_n 0, 1) := by decide +kernel
theorem dX8_readLetters_53 : decode cX8_readLetters 53 = .ok (.getfield 67, 3) := by decide +kernel
theorem dX8_readLetters_56 : decode cX8_readLetters 56 = .ok (.bipush 114, 2) := by decide +kernel
theorem dX8_readLetters_58 : decode cX8_readLetters 58 = .ok (.if_icmp .eq 39, 3) := by decide +kernel
theorem dX8_readLetters_61 : decode cX8_readLetters 61 = .ok (.aload_n 0, 1) := by decide +kernel
theorem dX8_readLetters_62 : decode cX8_readLetters 62 = .ok (.getfield 67, 3) := by decide +kernel
theorem dX8_readLetters_65 : decode cX8_readLetters 65 = .ok (.bipush 100, 2) := by decide +kernel
theorem dX8_readLetters_67 : decode cX8_readLetters 67 = .ok (.if_icmp .eq 30, 3) := by decide +kernel
theorem dX8_readLetters_70 : decode cX8_readLetters 70 = .ok (.aload_n 0, 1) := by decide +kernel
theorem dX8_readLetters_71 : decode cX8_readLetters 71 = .ok (.getfield 67, 3) := by decide +kernel
theorem dX8_readLetters_74 : decode cX8_readLetters 74 = .ok (.bipush 99, 2) := by decide +kernel
theorem dX8_readLetters_76 : decode cX8_readLetters 76 = .ok (.if_icmp .eq 21, 3) := by decide +kernel
theorem dX8_readLetters_79 : decode cX8_readLetters 79 = .ok (.aload_n 0, 1) := by decide +kernel
theorem dX8_readLetters_80 : decode cX8_readLetters 80 = .ok (.getfield 67, 3) := by decide +kernel
theorem dX8_readLetters_83 : decode cX8_readLetters 83 = .ok (.bipush 97, 2) := by decide +kernel
theorem dX8_readLetters_85 : decode cX8_readLetters 85 = .ok (.if_icmp .eq 12, 3) := by decide +kernel
theorem dX8_readLetters_88 : decode cX8_readLetters 88 = .ok (.aload_n 0, 1) := by decide +kernel
theorem dX8_readLetters_89 : decode cX8_readLetters 89 = .ok (.getfield 67, 3) := by decide +kernel
theorem dX8_readLetters_92 : decode cX8_readLetters 92 = .ok (.bipush 119, 2) := by decide +kernel
theorem dX8_readLetters_94 : decode cX8_readLetters 94 = .ok (.if_icmp .ne 7, 3) := by decide +kernel
theorem dX8_readLetters_97 : decode cX8_readLetters 97 = .ok (.iconst 1, 1) := by decide +kernel
theorem dX8_readLetters_98 : decode cX8_readLetters 98 = .ok (.goto 4, 3) := by decide +kernel
theorem dX8_readLetters_101 : decode cX8_readLetters 101 = .ok (.iconst 0, 1) := by decide +kernel
theorem dX8_readLetters_102 : decode cX8_readLetters 102 = .ok (.istore_n 1, 1) := by decide +kernel
theorem dX8_readLetters_103 : decode cX8_readLetters 103 = .ok (.aload_n 0, 1) := by decide +kernel
theorem dX8_readLetters_104 : decode cX8_readLetters 104 = .ok (.iload_n 1, 1) := by decide +kernel
theorem dX8_readLetters_105 : decode cX8_readLetters 105 = .ok (.ifCond .eq 20, 3) := by decide +kernel
theorem dX8_readLetters_108 : decode cX8_readLetters 108 = .ok (.aload_n 0, 1) := by decide +kernel
theorem dX8_readLetters_109 : decode cX8_readLetters 109 = .ok (.getfield 64, 3) := by decide +kernel
theorem dX8_readLetters_112 : decode cX8_readLetters 112 = .ok (.aload_n 0, 1) := by decide +kernel
theorem dX8_readLetters_113 : decode cX8_readLetters 113 = .ok (.getfield 74, 3) := by decide +kernel
theorem dX8_readLetters_116 : decode cX8_readLetters 116 = .ok (.isub, 1) := by decide +kernel
theorem dX8_readLetters_117 : decode cX8_readLetters 117 = .ok (.iconst 1, 1) := by decide +kernel
theorem dX8_readLetters_118 : decode cX8_readLetters 118 = .ok (.if_icmp .ne 7, 3) := by decide +kernel
theorem dX8_readLetters_121 : decode cX8_readLetters 121 = .ok (.iconst 1, 1) := by decide +kernel
theorem dX8_readLetters_122 : decode cX8_readLetters 122 = .ok (.goto 4, 3) := by decide +kernel
theorem dX8_readLetters_125 : decode cX8_readLetters 125 = .ok (.iconst 4, 1) := by decide +kernel
theorem dX8_readLetters_126 : decode cX8_readLetters 126 = .ok (.putfield 77, 3) := by decide +kernel
theorem dX8_readLetters_129 : decode cX8_readLetters 129 = .ok (.return_, 1) := by decide +kernel
set_option maxRecDepth 20000 in
theorem ggX8_readNumber_X8_isFigure : GoodIn wsX8_readNumber wsX8_isFigure := goodIn_r _ [10, 11, 12, 13, 14, 9, 15] (by decide +kernel) (by decide +kernel)
set_option maxRecDepth 20000 in
theorem gX8_readNumber_X8_isFigure : GoodIn wsX8_readNumber (va_wsS RX8 80 yX8_isFigure wsX8_isFigure) := goodIn_app (goodIn_of _ (by decide +kernel)) ggX8_readNumber_X8_isFigure
theorem dX8_readNumber_0 : decode cX8_readNumber 0 = .ok (.iconst 0, 1) := by decide +kernel
theorem dX8_readNumber_1 : decode cX8_readNumber 1 = .ok (.istore_n 1, 1) := by decide +kernel
theorem dX8_readNumber_2 : decode cX8_readNumber 2 = .ok (.aload_n 0, 1) := by decide +kernel
theorem dX8_readNumber_3 : decode cX8_readNumber 3 = .ok (.getfield 64, 3) := by decide +kernel
theorem dX8_readNumber_6 : decode cX8_readNumber 6 = .ok (.aload_n 0, 1) := by decide +kernel
theorem dX8_readNumber_7 : decode cX8_readNumber 7 = .ok (.getfield 52, 3) := by decide +kernel
theorem dX8_readNumber_10 : decode cX8_readNumber 10 = .ok (.if_icmp .ge 59, 3) := by decide +kernel
theorem dX8_readNumber_13 : decode cX8_readNumber 13 = .ok (.aload_n 0, 1) := by decide +kernel
theorem dX8_readNumber_14 : decode cX8_readNumber 14 = .ok (.getfield 7, 3) := by decide +kernel
theorem dX8_readNumber_17 : decode cX8_readNumber 17 = .ok (.aload_n 0, 1) := by decide +kernel
theorem dX8_readNumber_18 : decode cX8_readNumber 18 = .ok (.getfield 64, 3) := by decide +kernel
theorem dX8_readNumber_21 : decode cX8_readNumber 21 = .ok (.iaload, 1) := by decide +kernel
theorem dX8_readNumber_22 : decode cX8_readNumber 22 = .ok (.invokestatic 80, 3) := by decide +kernel
theorem dX8_readNumber_25 : decode cX8_readNumber 25 = .ok (.ifCond .eq 44, 3) := by decide +kernel
theorem dX8_readNumber_28 : decode cX8_readNumber 28 = .ok (.iload_n 1, 1) := by decide +kernel
theorem dX8_readNumber_29 : decode cX8_readNumber 29 = .ok (.bipush 99, 2) := by decide +kernel
theorem dX8_readNumber_31 : decode cX8_readNumber 31 = .ok (.if_icmp .le 7, 3) := by decide +kernel
theorem dX8_readNumber_34 : decode cX8_readNumber 34 = .ok (.iload_n 1, 1) := by decide +kernel
theorem dX8_readNumber_35 : decode cX8_readNumber 35 = .ok (.goto 20, 3) := by decide +kernel
theorem dX8_readNumber_38 : decode cX8_readNumber 38 = .ok (.bipush 10, 2) := by decide +kernel
theorem dX8_readNumber_40 : decode cX8_readNumber 40 = .ok (.iload_n 1, 1) := by decide +kernel
theorem dX8_readNumber_41 : decode cX8_readNumber 41 = .ok (.imul, 1) := by decide +kernel
theorem dX8_readNumber_42 : decode cX8_readNumber 42 = .ok (.aload_n 0, 1) := by decide +kernel
theorem dX8_readNumber_43 : decode cX8_readNumber 43 = .ok (.getfield 7, 3) := by decide +kernel
theorem dX8_readNumber_46 : decode cX8_readNumber 46 = .ok (.aload_n 0, 1) := by decide +kernel
theorem dX8_readNumber_47 : decode cX8_readNumber 47 = .ok (.getfield 64, 3) := by decide +kernel
theorem dX8_readNumber_50 : decode cX8_readNumber 50 = .ok (.iaload, 1) := by decide +kernel
theorem dX8_readNumber_51 : decode cX8_readNumber 51 = .ok (.iadd, 1) := by decide +kernel
theorem dX8_readNumber_52 : decode cX8_readNumber 52 = .ok (.bipush 48, 2) := by decide +kernel
theorem dX8_readNumber_54 : decode cX8_readNumber 54 = .ok (.isub, 1) := by decide +kernel
theorem dX8_readNumber_55 : decode cX8_readNumber 55 = .ok (.istore_n 1, 1) := by decide +kernel
theorem dX8_readNumber_56 : decode cX8_readNumber 56 = .ok (.aload_n 0, 1) := by decide +kernel
theorem dX8_readNumber_57 : decode cX8_readNumber 57 = .ok (.dup, 1) := by decide +kernel
theorem dX8_readNumber_58 : decode cX8_readNumber 58 = .ok (.getfield 64, 3) := by decide +kernel
theorem dX8_readNumber_61 : decode cX8_readNumber 61 = .ok (.iconst 1, 1) := by decide +kernel
theorem dX8_readNumber_62 : decode cX8_readNumber 62 = .ok (.iadd, 1) := by decide +kernel
theorem dX8_readNumber_63 : decode cX8_readNumber 63 = .ok (.putfield 64, 3) := by decide +kernel
theorem dX8_readNumber_66 : decode cX8_readNumber 66 = .ok (.goto (-64), 3) := by decide +kernel
theorem dX8_readNumber_69 : decode cX8_readNumber 69 = .ok (.aload_n 0, 1) := by decide +kernel
theorem dX8_readNumber_70 : decode cX8_readNumber 70 = .ok (.iload_n 1, 1) := by decide +kernel
theorem dX8_readNumber_71 : decode cX8_readNumber 71 = .ok (.bipush 99, 2) := by decide +kernel
theorem dX8_readNumber_73 : decode cX8_readNumber 73 = .ok (.if_icmp .gt 30, 3) := by decide +kernel
theorem dX8_readNumber_76 : decode cX8_readNumber 76 = .ok (.aload_n 0, 1) := by decide +kernel
theorem dX8_readNumber_77 : decode cX8_readNumber 77 = .ok (.getfield 64, 3) := by decide +kernel
theorem dX8_readNumber_80 : decode cX8_readNumber 80 = .ok (.aload_n 0, 1) := by decide +kernel
theorem dX8_readNumber_81 : decode cX8_readNumber 81 = .ok (.getfield 74, 3) := by decide +kernel
theorem dX8_readNumber_84 : decode cX8_readNumber 84 = .ok (.isub, 1) := by decide +kernel
theorem dX8_readNumber_85 : decode cX8_readNumber 85 = .ok (.iconst 1, 1) := by decide +kernel
theorem dX8_readNumber_86 : decode cX8_readNumber 86 = .ok (.if_icmp .le 21, 3) := by decide +kernel
theorem dX8_readNumber_89 : decode cX8_readNumber 89 = .ok (.aload_n 0, 1) := by decide +kernel
theorem dX8_readNumber_90 : decode cX8_readNumber 90 = .ok (.getfield 7, 3) := by decide +kernel
theorem dX8_readNumber_93 : decode cX8_readNumber 93 = .ok (.aload_n 0, 1) := by decide +kernel
theorem dX8_readNumber_94 : decode cX8_readNumber 94 = .ok (.getfield 74, 3) := by decide +kernel
theorem dX8_readNumber_97 : decode cX8_readNumber 97 = .ok (.iaload, 1) := by decide +kernel
theorem dX8_readNumber_98 : decode cX8_readNumber 98 = .ok (.bipush 48, 2) := by decide +kernel
theorem dX8_readNumber_100 : decode cX8_readNumber 100 = .ok (.if_icmp .ne 7, 3) := by decide +kernel
theorem dX8_readNumber_103 : decode cX8_readNumber 103 = .ok (.iconst 4, 1) := by decide +kernel
theorem dX8_readNumber_104 : decode cX8_readNumber 104 = .ok (.goto 4, 3) := by decide +kernel
theorem dX8_readNumber_107 : decode cX8_readNumber 107 = .ok (.iconst 2, 1) := by decide +kernel
theorem dX8_readNumber_108 : decode cX8_readNumber 108 = .ok (.putfield 77, 3) := by decide +kernel
theorem dX8_readNumber_111 : decode cX8_readNumber 111 = .ok (.aload_n 0, 1) := by decide +kernel
theorem dX8_readNumber_112 : decode cX8_readNumber 112 = .ok (.iload_n 1, 1) := by decide +kernel
theorem dX8_readNumber_113 : decode cX8_readNumber 113 = .ok (.putfield 67, 3) := by decide +kernel
theorem dX8_readNumber_116 : decode cX8_readNumber 116 = .ok (.return_, 1) := by decide +kernel
set_option maxRecDepth 20000 in
theorem ggX8_reads_X8_isLetter : GoodIn wsX8_reads wsX8_isLetter := goodIn_r _ [9, 10, 11, 12, 13, 8, 14] (by decide +kernel) (by decide +kernel)
set_option maxRecDepth 20000 in
theorem gX8_reads_X8_isLetter : GoodIn wsX8_reads (va_wsS RX8 70 yX8_isLetter wsX8_isLetter) := goodIn_app (goodIn_of _ (by decide +kernel)) ggX8_reads_X8_isLetter
set_option maxRecDepth 20000 in
theorem ggX8_reads_X8_readLetters : GoodIn wsX8_reads wsX8_readLetters := goodIn_r _ [18, 3, 1, 19, 2, 4, 5, 6, 7, 8, 9, 10, 11, 12, 13, 14, 29, 30, 31, 32, 33, 34, 35, 36, 37, 38, 39, 40, 41, 42, 43, 44, 45, 46] (by decide +kernel) (by decide +kernel)
set_option maxRecDepth 20000 in
theorem gX8_reads_X8_readLetters : GoodIn wsX8_reads (wsV RX8 83 RX8 yX8_readLetters wsX8_readLetters) := goodIn_app (goodIn_of _ (by decide +kernel)) ggX8_reads_X8_readLetters
set_option maxRecDepth 20000 in
theorem ggX8_reads_X8_isFigure : GoodIn wsX8_reads wsX8_isFigure := goodIn_r _ [22, 23, 24, 12, 13, 8, 14] (by decide +kernel) (by decide +kernel)
set_option maxRecDepth 20000 in
theorem gX8_reads_X8_isFigure : GoodIn wsX8_reads (va_wsS RX8 80 yX8_isFigure wsX8_isFigure) := goodIn_app (goodIn_of _ (by decide +kernel)) ggX8_reads_X8_isFigure
set_option maxRecDepth 20000 in
theorem ggX8_reads_X8_readNumber : GoodIn wsX8_reads wsX8_readNumber := goodIn_r _ [28, 1, 2, 3, 4, 5, 19, 20, 21, 8, 22, 23, 24, 12, 13, 14, 29, 30, 31, 32, 33, 34, 35, 36, 37, 38, 39, 40, 41, 42, 43, 44, 45, 46] (by decide +kernel) (by decide +kernel)
set_option maxRecDepth 20000 in
theorem gX8_reads_X8_readNumber : GoodIn wsX8_reads (wsV RX8 86 RX8 yX8_readNumber wsX8_readNumber) := goodIn_app (goodIn_of _ (by decide +kernel)) ggX8_reads_X8_readNumber
theorem dX8_reads_0 : decode cX8_reads 0 = .ok (.aload_n 0, 1) := by decide +kernel
theorem dX8_reads_1 : decode cX8_reads 1 = .ok (.getfield 64, 3) := by decide +kernel
theorem dX8_reads_4 : decode cX8_reads 4 = .ok (.aload_n 0, 1) := by decide +kernel
theorem dX8_reads_5 : decode cX8_reads 5 = .ok (.getfield 52, 3) := by decide +kernel
theorem dX8_reads_8 : decode cX8_reads 8 = .ok (.if_icmp .ge 30, 3) := by decide +kernel
theorem dX8_reads_11 : decode cX8_reads 11 = .ok (.aload_n 0, 1) := by decide +kernel
theorem dX8_reads_12 : decode cX8_reads 12 = .ok (.getfield 7, 3) := by decide +kernel
theorem dX8_reads_15 : decode cX8_reads 15 = .ok (.aload_n 0, 1) := by decide +kernel
theorem dX8_reads_16 : decode cX8_reads 16 = .ok (.getfield 64, 3) := by decide +kernel
theorem dX8_reads_19 : decode cX8_reads 19 = .ok (.iaload, 1) := by decide +kernel
theorem dX8_reads_20 : decode cX8_reads 20 = .ok (.bipush 32, 2) := by decide +kernel
theorem dX8_reads_22 : decode cX8_reads 22 = .ok (.if_icmp .ne 16, 3) := by decide +kernel
theorem dX8_reads_25 : decode cX8_reads 25 = .ok (.aload_n 0, 1) := by decide +kernel
theorem dX8_reads_26 : decode cX8_reads 26 = .ok (.dup, 1) := by decide +kernel
theorem dX8_reads_27 : decode cX8_reads 27 = .ok (.getfield 64, 3) := by decide +kernel
theorem dX8_reads_30 : decode cX8_reads 30 = .ok (.iconst 1, 1) := by decide +kernel
theorem dX8_reads_31 : decode cX8_reads 31 = .ok (.iadd, 1) := by decide +kernel
theorem dX8_reads_32 : decode cX8_reads 32 = .ok (.putfield 64, 3) := by decide +kernel
theorem dX8_reads_35 : decode cX8_reads 35 = .ok (.goto (-35), 3) := by decide +kernel
theorem dX8_reads_38 : decode cX8_reads 38 = .ok (.aload_n 0, 1) := by decide +kernel
theorem dX8_reads_39 : decode cX8_reads 39 = .ok (.aload_n 0, 1) := by decide +kernel
theorem dX8_reads_40 : decode cX8_reads 40 = .ok (.getfield 64, 3) := by decide +kernel
theorem dX8_reads_43 : decode cX8_reads 43 = .ok (.putfield 74, 3) := by decide +kernel
theorem dX8_reads_46 : decode cX8_reads 46 = .ok (.aload_n 0, 1) := by decide +kernel
theorem dX8_reads_47 : decode cX8_reads 47 = .ok (.getfield 64, 3) := by decide +kernel
theorem dX8_reads_50 : decode cX8_reads 50 = .ok (.aload_n 0, 1) := by decide +kernel
theorem dX8_reads_51 : decode cX8_reads 51 = .ok (.getfield 52, 3) := by decide +kernel
theorem dX8_reads_54 : decode cX8_reads 54 = .ok (.if_icmp .ne 11, 3) := by decide +kernel
theorem dX8_reads_57 : decode cX8_reads 57 = .ok (.aload_n 0, 1) := by decide +kernel
theorem dX8_reads_58 : decode cX8_reads 58 = .ok (.iconst 0, 1) := by decide +kernel
theorem dX8_reads_59 : decode cX8_reads 59 = .ok (.putfield 77, 3) := by decide +kernel
theorem dX8_reads_62 : decode cX8_reads 62 = .ok (.goto 92, 3) := by decide +kernel
theorem dX8_reads_65 : decode cX8_reads 65 = .ok (.aload_n 0, 1) := by decide +kernel
theorem dX8_reads_66 : decode cX8_reads 66 = .ok (.getfield 7, 3) := by decide +kernel
theorem dX8_reads_69 : decode cX8_reads 69 = .ok (.aload_n 0, 1) := by decide +kernel
theorem dX8_reads_70 : decode cX8_reads 70 = .ok (.getfield 64, 3) := by decide +kernel
theorem dX8_reads_73 : decode cX8_reads 73 = .ok (.iaload, 1) := by decide +kernel
theorem dX8_reads_74 : decode cX8_reads 74 = .ok (.invokestatic 70, 3) := by decide +kernel
theorem dX8_reads_77 : decode cX8_reads 77 = .ok (.ifCond .eq 10, 3) := by decide +kernel
theorem dX8_reads_80 : decode cX8_reads 80 = .ok (.aload_n 0, 1) := by decide +kernel
theorem dX8_reads_81 : decode cX8_reads 81 = .ok (.invokevirtual 83, 3) := by decide +kernel
theorem dX8_reads_84 : decode cX8_reads 84 = .ok (.goto 70, 3) := by decide +kernel
theorem dX8_reads_87 : decode cX8_reads 87 = .ok (.aload_n 0, 1) := by decide +kernel
theorem dX8_reads_88 : decode cX8_reads 88 = .ok (.getfield 7, 3) := by decide +kernel
theorem dX8_reads_91 : decode cX8_reads 91 = .ok (.aload_n 0, 1) := by decide +kernel
theorem dX8_reads_92 : decode cX8_reads 92 = .ok (.getfield 64, 3) := by decide +kernel
theorem dX8_reads_95 : decode cX8_reads 95 = .ok (.iaload, 1) := by decide +kernel
theorem dX8_reads_96 : decode cX8_reads 96 = .ok (.invokestatic 80, 3) := by decide +kernel
theorem dX8_reads_99 : decode cX8_reads 99 = .ok (.ifCond .eq 10, 3) := by decide +kernel
theorem dX8_reads_102 : decode cX8_reads 102 = .ok (.aload_n 0, 1) := by decide +kernel
theorem dX8_reads_103 : decode cX8_reads 103 = .ok (.invokevirtual 86, 3) := by decide +kernel
theorem dX8_reads_106 : decode cX8_reads 106 = .ok (.goto 48, 3) := by decide +kernel
theorem dX8_reads_109 : decode cX8_reads 109 = .ok (.aload_n 0, 1) := by decide +kernel
theorem dX8_reads_110 : decode cX8_reads 110 = .ok (.aload_n 0, 1) := by decide +kernel
theorem dX8_reads_111 : decode cX8_reads 111 = .ok (.getfield 7, 3) := by decide +kernel
theorem dX8_reads_114 : decode cX8_reads 114 = .ok (.aload_n 0, 1) := by decide +kernel
theorem dX8_reads_115 : decode cX8_reads 115 = .ok (.getfield 64, 3) := by decide +kernel
theorem dX8_reads_118 : decode cX8_reads 118 = .ok (.iaload, 1) := by decide +kernel
theorem dX8_reads_119 : decode cX8_reads 119 = .ok (.bipush 59, 2) := by decide +kernel
theorem dX8_reads_121 : decode cX8_reads 121 = .ok (.if_icmp .ne 7, 3) := by decide +kernel
theorem dX8_reads_124 : decode cX8_reads 124 = .ok (.iconst 3, 1) := by decide +kernel
theorem dX8_reads_125 : decode cX8_reads 125 = .ok (.goto 4, 3) := by decide +kernel
theorem dX8_reads_128 : decode cX8_reads 128 = .ok (.iconst 4, 1) := by decide +kernel
theorem dX8_reads_129 : decode cX8_reads 129 = .ok (.putfield 77, 3) := by decide +kernel
theorem dX8_reads_132 : decode cX8_reads 132 = .ok (.aload_n 0, 1) := by decide +kernel
theorem dX8_reads_133 : decode cX8_reads 133 = .ok (.dup, 1) := by decide +kernel
theorem dX8_reads_134 : decode cX8_reads 134 = .ok (.getfield 64, 3) := by decide +kernel
theorem dX8_reads_137 : decode cX8_reads 137 = .ok (.aload_n 0, 1) := by decide +kernel
theorem dX8_reads_138 : decode cX8_reads 138 = .ok (.getfield 77, 3) := by decide +kernel
theorem dX8_reads_141 : decode cX8_reads 141 = .ok (.iconst 3, 1) := by decide +kernel
theorem dX8_reads_142 : decode cX8_reads 142 = .ok (.if_icmp .ne 7, 3) := by decide +kernel
theorem dX8_reads_145 : decode cX8_reads 145 = .ok (.iconst 1, 1) := by decide +kernel
theorem dX8_reads_146 : decode cX8_reads 146 = .ok (.goto 4, 3) := by decide +kernel
theorem dX8_reads_149 : decode cX8_reads 149 = .ok (.iconst 0, 1) := by decide +kernel
theorem dX8_reads_150 : decode cX8_reads 150 = .ok (.iadd, 1) := by decide +kernel
theorem dX8_reads_151 : decode cX8_reads 151 = .ok (.putfield 64, 3) := by decide +kernel
theorem dX8_reads_154 : decode cX8_reads 154 = .ok (.return_, 1) := by decide +kernel
set_option maxRecDepth 20000 in
theorem ggX8_number_X8_reads : GoodIn wsX8_number wsX8_reads := goodIn_r _ [7, 8, 9, 10, 11, 1, 12, 13, 6, 14, 15, 16, 17, 18, 19, 20, 21, 22, 23, 2, 24, 25, 26, 27, 28, 29, 30, 31, 32, 33, 34, 35, 36, 37, 38, 39, 40, 41, 42, 43, 44, 45, 46, 47, 48, 49, 50] (by decide +kernel) (by decide +kernel)
set_option maxRecDepth 20000 in
theorem gX8_number_X8_reads : GoodIn wsX8_number (wsV RX8 89 RX8 yX8_reads wsX8_reads) := goodIn_app (goodIn_of _ (by decide +kernel)) ggX8_number_X8_reads
set_option maxRecDepth 20000 in
theorem ggX8_number_X8_in : GoodIn wsX8_number wsX8_in := goodIn_r _ [19] (by decide +kernel) (by decide +kernel)
set_option maxRecDepth 20000 in
theorem gX8_number_X8_in : GoodIn wsX8_number (va_wsS RX8 48 yX8_in wsX8_in) := goodIn_app (goodIn_of _ (by decide +kernel)) ggX8_number_X8_in
theorem dX8_number_0 : decode cX8_number 0 = .ok (.aload_n 0, 1) := by decide +kernel
theorem dX8_number_1 : decode cX8_number 1 = .ok (.invokevirtual 89, 3) := by decide +kernel
theorem dX8_number_4 : decode cX8_number 4 = .ok (.aload_n 0, 1) := by decide +kernel
theorem dX8_number_5 : decode cX8_number 5 = .ok (.getfield 77, 3) := by decide +kernel
theorem dX8_number_8 : decode cX8_number 8 = .ok (.iconst 2, 1) := by decide +kernel
theorem dX8_number_9 : decode cX8_number 9 = .ok (.if_icmp .ne 22, 3) := by decide +kernel
theorem dX8_number_12 : decode cX8_number 12 = .ok (.aload_n 0, 1) := by decide +kernel
theorem dX8_number_13 : decode cX8_number 13 = .ok (.getfield 67, 3) := by decide +kernel
theorem dX8_number_16 : decode cX8_number 16 = .ok (.i2l, 1) := by decide +kernel
theorem dX8_number_17 : decode cX8_number 17 = .ok (.iload_n 1, 1) := by decide +kernel
theorem dX8_number_18 : decode cX8_number 18 = .ok (.i2l, 1) := by decide +kernel
theorem dX8_number_19 : decode cX8_number 19 = .ok (.iload_n 2, 1) := by decide +kernel
theorem dX8_number_20 : decode cX8_number 20 = .ok (.i2l, 1) := by decide +kernel
theorem dX8_number_21 : decode cX8_number 21 = .ok (.invokestatic 48, 3) := by decide +kernel
theorem dX8_number_24 : decode cX8_number 24 = .ok (.ifCond .eq 7, 3) := by decide +kernel
theorem dX8_number_27 : decode cX8_number 27 = .ok (.iconst 1, 1) := by decide +kernel
theorem dX8_number_28 : decode cX8_number 28 = .ok (.goto 4, 3) := by decide +kernel
theorem dX8_number_31 : decode cX8_number 31 = .ok (.iconst 0, 1) := by decide +kernel
theorem dX8_number_32 : decode cX8_number 32 = .ok (.ireturn, 1) := by decide +kernel
set_option maxRecDepth 20000 in
theorem ggX8_ends_X8_reads : GoodIn wsX8_ends wsX8_reads := goodIn_r _ [6, 7, 8, 9, 10, 1, 11, 12, 5, 13, 14, 15, 16, 17, 18, 19, 20, 21, 22, 23, 24, 25, 26, 27, 28, 29, 30, 31, 32, 33, 34, 35, 36, 37, 38, 39, 40, 41, 42, 43, 44, 45, 46, 47, 48, 49, 50] (by decide +kernel) (by decide +kernel)
set_option maxRecDepth 20000 in
theorem gX8_ends_X8_reads : GoodIn wsX8_ends (wsV RX8 89 RX8 yX8_reads wsX8_reads) := goodIn_app (goodIn_of _ (by decide +kernel)) ggX8_ends_X8_reads
theorem dX8_ends_0 : decode cX8_ends 0 = .ok (.aload_n 0, 1) := by decide +kernel
theorem dX8_ends_1 : decode cX8_ends 1 = .ok (.invokevirtual 89, 3) := by decide +kernel
theorem dX8_ends_4 : decode cX8_ends 4 = .ok (.aload_n 0, 1) := by decide +kernel
theorem dX8_ends_5 : decode cX8_ends 5 = .ok (.getfield 77, 3) := by decide +kernel
theorem dX8_ends_8 : decode cX8_ends 8 = .ok (.iconst 3, 1) := by decide +kernel
theorem dX8_ends_9 : decode cX8_ends 9 = .ok (.if_icmp .ne 7, 3) := by decide +kernel
theorem dX8_ends_12 : decode cX8_ends 12 = .ok (.iconst 1, 1) := by decide +kernel
theorem dX8_ends_13 : decode cX8_ends 13 = .ok (.goto 4, 3) := by decide +kernel
theorem dX8_ends_16 : decode cX8_ends 16 = .ok (.iconst 0, 1) := by decide +kernel
theorem dX8_ends_17 : decode cX8_ends 17 = .ok (.ireturn, 1) := by decide +kernel
theorem dX8_plain_0 : decode cX8_plain 0 = .ok (.iconst 0, 1) := by decide +kernel
theorem dX8_plain_1 : decode cX8_plain 1 = .ok (.istore_n 1, 1) := by decide +kernel
theorem dX8_plain_2 : decode cX8_plain 2 = .ok (.iload_n 1, 1) := by decide +kernel
theorem dX8_plain_3 : decode cX8_plain 3 = .ok (.bipush 59, 2) := by decide +kernel
theorem dX8_plain_5 : decode cX8_plain 5 = .ok (.if_icmp .ge 16, 3) := by decide +kernel
theorem dX8_plain_8 : decode cX8_plain 8 = .ok (.aload_n 0, 1) := by decide +kernel
theorem dX8_plain_9 : decode cX8_plain 9 = .ok (.getfield 13, 3) := by decide +kernel
theorem dX8_plain_12 : decode cX8_plain 12 = .ok (.iload_n 1, 1) := by decide +kernel
theorem dX8_plain_13 : decode cX8_plain 13 = .ok (.iconst 0, 1) := by decide +kernel
theorem dX8_plain_14 : decode cX8_plain 14 = .ok (.iastore, 1) := by decide +kernel
theorem dX8_plain_15 : decode cX8_plain 15 = .ok (.iinc 1 1, 3) := by decide +kernel
theorem dX8_plain_18 : decode cX8_plain 18 = .ok (.goto (-16), 3) := by decide +kernel
theorem dX8_plain_21 : decode cX8_plain 21 = .ok (.return_, 1) := by decide +kernel
set_option maxRecDepth 20000 in
theorem ggX8_readDoor_X8_number : GoodIn wsX8_readDoor wsX8_number := goodIn_r _ [7, 8, 2, 9, 10, 11, 6, 12, 13, 14, 15, 16, 17, 18, 19, 20, 21, 22, 23, 24, 25, 26, 27, 28, 29, 30, 31, 32, 33, 34, 35, 36, 37, 42, 43, 44, 45, 46, 47, 48, 49, 50, 51, 52, 53, 54, 55, 56, 57, 58, 59] (by decide +kernel) (by decide +kernel)
set_option maxRecDepth 20000 in
theorem gX8_readDoor_X8_number : GoodIn wsX8_readDoor (wsV RX8 92 RX8 yX8_number wsX8_number) := goodIn_app (goodIn_of _ (by decide +kernel)) ggX8_readDoor_X8_number
set_option maxRecDepth 20000 in
theorem ggX8_readDoor_X8_ends : GoodIn wsX8_readDoor wsX8_ends := goodIn_r _ [41, 8, 9, 10, 11, 6, 12, 13, 14, 15, 16, 17, 18, 19, 20, 21, 22, 23, 24, 25, 26, 27, 28, 2, 29, 30, 31, 32, 33, 34, 35, 36, 37, 42, 43, 44, 45, 46, 47, 48, 49, 50, 51, 52, 53, 54, 55, 56, 57, 58, 59] (by decide +kernel) (by decide +kernel)
set_option maxRecDepth 20000 in
theorem gX8_readDoor_X8_ends : GoodIn wsX8_readDoor (wsV RX8 96 RX8 yX8_ends wsX8_ends) := goodIn_app (goodIn_of _ (by decide +kernel)) ggX8_readDoor_X8_ends
theorem dX8_readDoor_0 : decode cX8_readDoor 0 = .ok (.iconst 5, 1) := by decide +kernel
theorem dX8_readDoor_1 : decode cX8_readDoor 1 = .ok (.iconst 2, 1) := by decide +kernel
theorem dX8_readDoor_2 : decode cX8_readDoor 2 = .ok (.aload_n 0, 1) := by decide +kernel
theorem dX8_readDoor_3 : decode cX8_readDoor 3 = .ok (.getfield 13, 3) := by decide +kernel
theorem dX8_readDoor_6 : decode cX8_readDoor 6 = .ok (.iconst 1, 1) := by decide +kernel
theorem dX8_readDoor_7 : decode cX8_readDoor 7 = .ok (.iaload, 1) := by decide +kernel
theorem dX8_readDoor_8 : decode cX8_readDoor 8 = .ok (.imul, 1) := by decide +kernel
theorem dX8_readDoor_9 : decode cX8_readDoor 9 = .ok (.iadd, 1) := by decide +kernel
theorem dX8_readDoor_10 : decode cX8_readDoor 10 = .ok (.istore_n 1, 1) := by decide +kernel
theorem dX8_readDoor_11 : decode cX8_readDoor 11 = .ok (.aload_n 0, 1) := by decide +kernel
theorem dX8_readDoor_12 : decode cX8_readDoor 12 = .ok (.getfield 13, 3) := by decide +kernel
theorem dX8_readDoor_15 : decode cX8_readDoor 15 = .ok (.iconst 1, 1) := by decide +kernel
theorem dX8_readDoor_16 : decode cX8_readDoor 16 = .ok (.iaload, 1) := by decide +kernel
theorem dX8_readDoor_17 : decode cX8_readDoor 17 = .ok (.iconst 5, 1) := by decide +kernel
theorem dX8_readDoor_18 : decode cX8_readDoor 18 = .ok (.if_icmp .eq 19, 3) := by decide +kernel
theorem dX8_readDoor_21 : decode cX8_readDoor 21 = .ok (.aload_n 0, 1) := by decide +kernel
theorem dX8_readDoor_22 : decode cX8_readDoor 22 = .ok (.iconst 0, 1) := by decide +kernel
theorem dX8_readDoor_23 : decode cX8_readDoor 23 = .ok (.aload_n 0, 1) := by decide +kernel
theorem dX8_readDoor_24 : decode cX8_readDoor 24 = .ok (.getfield 13, 3) := by decide +kernel
theorem dX8_readDoor_27 : decode cX8_readDoor 27 = .ok (.iconst 0, 1) := by decide +kernel
theorem dX8_readDoor_28 : decode cX8_readDoor 28 = .ok (.iaload, 1) := by decide +kernel
theorem dX8_readDoor_29 : decode cX8_readDoor 29 = .ok (.iconst 1, 1) := by decide +kernel
theorem dX8_readDoor_30 : decode cX8_readDoor 30 = .ok (.isub, 1) := by decide +kernel
theorem dX8_readDoor_31 : decode cX8_readDoor 31 = .ok (.invokevirtual 92, 3) := by decide +kernel
theorem dX8_readDoor_34 : decode cX8_readDoor 34 = .ok (.ifCond .ne 5, 3) := by decide +kernel
theorem dX8_readDoor_37 : decode cX8_readDoor 37 = .ok (.iconst 0, 1) := by decide +kernel
theorem dX8_readDoor_38 : decode cX8_readDoor 38 = .ok (.ireturn, 1) := by decide +kernel
theorem dX8_readDoor_39 : decode cX8_readDoor 39 = .ok (.aload_n 0, 1) := by decide +kernel
theorem dX8_readDoor_40 : decode cX8_readDoor 40 = .ok (.getfield 13, 3) := by decide +kernel
theorem dX8_readDoor_43 : decode cX8_readDoor 43 = .ok (.iload_n 1, 1) := by decide +kernel
theorem dX8_readDoor_44 : decode cX8_readDoor 44 = .ok (.aload_n 0, 1) := by decide +kernel
theorem dX8_readDoor_45 : decode cX8_readDoor 45 = .ok (.getfield 67, 3) := by decide +kernel
theorem dX8_readDoor_48 : decode cX8_readDoor 48 = .ok (.iastore, 1) := by decide +kernel
theorem dX8_readDoor_49 : decode cX8_readDoor 49 = .ok (.aload_n 0, 1) := by decide +kernel
theorem dX8_readDoor_50 : decode cX8_readDoor 50 = .ok (.iconst 0, 1) := by decide +kernel
theorem dX8_readDoor_51 : decode cX8_readDoor 51 = .ok (.aload_n 0, 1) := by decide +kernel
theorem dX8_readDoor_52 : decode cX8_readDoor 52 = .ok (.getfield 13, 3) := by decide +kernel
theorem dX8_readDoor_55 : decode cX8_readDoor 55 = .ok (.iconst 0, 1) := by decide +kernel
theorem dX8_readDoor_56 : decode cX8_readDoor 56 = .ok (.iaload, 1) := by decide +kernel
theorem dX8_readDoor_57 : decode cX8_readDoor 57 = .ok (.iconst 1, 1) := by decide +kernel
theorem dX8_readDoor_58 : decode cX8_readDoor 58 = .ok (.isub, 1) := by decide +kernel
theorem dX8_readDoor_59 : decode cX8_readDoor 59 = .ok (.invokevirtual 92, 3) := by decide +kernel
theorem dX8_readDoor_62 : decode cX8_readDoor 62 = .ok (.ifCond .ne 5, 3) := by decide +kernel
theorem dX8_readDoor_65 : decode cX8_readDoor 65 = .ok (.iconst 0, 1) := by decide +kernel
theorem dX8_readDoor_66 : decode cX8_readDoor 66 = .ok (.ireturn, 1) := by decide +kernel
theorem dX8_readDoor_67 : decode cX8_readDoor 67 = .ok (.aload_n 0, 1) := by decide +kernel
theorem dX8_readDoor_68 : decode cX8_readDoor 68 = .ok (.getfield 13, 3) := by decide +kernel
theorem dX8_readDoor_71 : decode cX8_readDoor 71 = .ok (.iload_n 1, 1) := by decide +kernel
theorem dX8_readDoor_72 : decode cX8_readDoor 72 = .ok (.iconst 1, 1) := by decide +kernel
theorem dX8_readDoor_73 : decode cX8_readDoor 73 = .ok (.iadd, 1) := by decide +kernel
theorem dX8_readDoor_74 : decode cX8_readDoor 74 = .ok (.aload_n 0, 1) := by decide +kernel
theorem dX8_readDoor_75 : decode cX8_readDoor 75 = .ok (.getfield 67, 3) := by decide +kernel
theorem dX8_readDoor_78 : decode cX8_readDoor 78 = .ok (.iastore, 1) := by decide +kernel
theorem dX8_readDoor_79 : decode cX8_readDoor 79 = .ok (.aload_n 0, 1) := by decide +kernel
theorem dX8_readDoor_80 : decode cX8_readDoor 80 = .ok (.getfield 13, 3) := by decide +kernel
theorem dX8_readDoor_83 : decode cX8_readDoor 83 = .ok (.iconst 1, 1) := by decide +kernel
theorem dX8_readDoor_84 : decode cX8_readDoor 84 = .ok (.dup2, 1) := by decide +kernel
theorem dX8_readDoor_85 : decode cX8_readDoor 85 = .ok (.iaload, 1) := by decide +kernel
theorem dX8_readDoor_86 : decode cX8_readDoor 86 = .ok (.iconst 1, 1) := by decide +kernel
theorem dX8_readDoor_87 : decode cX8_readDoor 87 = .ok (.iadd, 1) := by decide +kernel
theorem dX8_readDoor_88 : decode cX8_readDoor 88 = .ok (.iastore, 1) := by decide +kernel
theorem dX8_readDoor_89 : decode cX8_readDoor 89 = .ok (.aload_n 0, 1) := by decide +kernel
theorem dX8_readDoor_90 : decode cX8_readDoor 90 = .ok (.invokevirtual 96, 3) := by decide +kernel
theorem dX8_readDoor_93 : decode cX8_readDoor 93 = .ok (.ireturn, 1) := by decide +kernel
set_option maxRecDepth 20000 in
theorem ggX8_readCandle_X8_number : GoodIn wsX8_readCandle wsX8_number := goodIn_r _ [7, 8, 2, 9, 10, 11, 6, 12, 13, 14, 15, 16, 17, 18, 19, 20, 21, 22, 23, 24, 25, 26, 27, 28, 29, 30, 31, 32, 33, 34, 35, 36, 37, 42, 43, 44, 45, 46, 47, 48, 49, 50, 51, 52, 53, 54, 55, 56, 57, 58, 59] (by decide +kernel) (by decide +kernel)
set_option maxRecDepth 20000 in
theorem gX8_readCandle_X8_number : GoodIn wsX8_readCandle (wsV RX8 92 RX8 yX8_number wsX8_number) := goodIn_app (goodIn_of _ (by decide +kernel)) ggX8_readCandle_X8_number
set_option maxRecDepth 20000 in
theorem ggX8_readCandle_X8_ends : GoodIn wsX8_readCandle wsX8_ends := goodIn_r _ [41, 8, 9, 10, 11, 6, 12, 13, 14, 15, 16, 17, 18, 19, 20, 21, 22, 23, 24, 25, 26, 27, 28, 2, 29, 30, 31, 32, 33, 34, 35, 36, 37, 42, 43, 44, 45, 46, 47, 48, 49, 50, 51, 52, 53, 54, 55, 56, 57, 58, 59] (by decide +kernel) (by decide +kernel)
set_option maxRecDepth 20000 in
theorem gX8_readCandle_X8_ends : GoodIn wsX8_readCandle (wsV RX8 96 RX8 yX8_ends wsX8_ends) := goodIn_app (goodIn_of _ (by decide +kernel)) ggX8_readCandle_X8_ends
theorem dX8_readCandle_0 : decode cX8_readCandle 0 = .ok (.bipush 15, 2) := by decide +kernel
theorem dX8_readCandle_2 : decode cX8_readCandle 2 = .ok (.iconst 2, 1) := by decide +kernel
theorem dX8_readCandle_3 : decode cX8_readCandle 3 = .ok (.aload_n 0, 1) := by decide +kernel
theorem dX8_readCandle_4 : decode cX8_readCandle 4 = .ok (.getfield 13, 3) := by decide +kernel
theorem dX8_readCandle_7 : decode cX8_readCandle 7 = .ok (.iconst 2, 1) := by decide +kernel
theorem dX8_readCandle_8 : decode cX8_readCandle 8 = .ok (.iaload, 1) := by decide +kernel
theorem dX8_readCandle_9 : decode cX8_readCandle 9 = .ok (.imul, 1) := by decide +kernel
theorem dX8_readCandle_10 : decode cX8_readCandle 10 = .ok (.iadd, 1) := by decide +kernel
theorem dX8_readCandle_11 : decode cX8_readCandle 11 = .ok (.istore_n 1, 1) := by decide +kernel
theorem dX8_readCandle_12 : decode cX8_readCandle 12 = .ok (.aload_n 0, 1) := by decide +kernel
theorem dX8_readCandle_13 : decode cX8_readCandle 13 = .ok (.getfield 13, 3) := by decide +kernel
theorem dX8_readCandle_16 : decode cX8_readCandle 16 = .ok (.iconst 2, 1) := by decide +kernel
theorem dX8_readCandle_17 : decode cX8_readCandle 17 = .ok (.iaload, 1) := by decide +kernel
theorem dX8_readCandle_18 : decode cX8_readCandle 18 = .ok (.bipush 6, 2) := by decide +kernel
theorem dX8_readCandle_20 : decode cX8_readCandle 20 = .ok (.if_icmp .eq 13, 3) := by decide +kernel
theorem dX8_readCandle_23 : decode cX8_readCandle 23 = .ok (.aload_n 0, 1) := by decide +kernel
theorem dX8_readCandle_24 : decode cX8_readCandle 24 = .ok (.iconst 1, 1) := by decide +kernel
theorem dX8_readCandle_25 : decode cX8_readCandle 25 = .ok (.bipush 60, 2) := by decide +kernel
theorem dX8_readCandle_27 : decode cX8_readCandle 27 = .ok (.invokevirtual 92, 3) := by decide +kernel
theorem dX8_readCandle_30 : decode cX8_readCandle 30 = .ok (.ifCond .ne 5, 3) := by decide +kernel
theorem dX8_readCandle_33 : decode cX8_readCandle 33 = .ok (.iconst 0, 1) := by decide +kernel
theorem dX8_readCandle_34 : decode cX8_readCandle 34 = .ok (.ireturn, 1) := by decide +kernel
theorem dX8_readCandle_35 : decode cX8_readCandle 35 = .ok (.aload_n 0, 1) := by decide +kernel
theorem dX8_readCandle_36 : decode cX8_readCandle 36 = .ok (.getfield 13, 3) := by decide +kernel
theorem dX8_readCandle_39 : decode cX8_readCandle 39 = .ok (.iload_n 1, 1) := by decide +kernel
theorem dX8_readCandle_40 : decode cX8_readCandle 40 = .ok (.aload_n 0, 1) := by decide +kernel
theorem dX8_readCandle_41 : decode cX8_readCandle 41 = .ok (.getfield 67, 3) := by decide +kernel
theorem dX8_readCandle_44 : decode cX8_readCandle 44 = .ok (.iastore, 1) := by decide +kernel
theorem dX8_readCandle_45 : decode cX8_readCandle 45 = .ok (.aload_n 0, 1) := by decide +kernel
theorem dX8_readCandle_46 : decode cX8_readCandle 46 = .ok (.iconst 0, 1) := by decide +kernel
theorem dX8_readCandle_47 : decode cX8_readCandle 47 = .ok (.aload_n 0, 1) := by decide +kernel
theorem dX8_readCandle_48 : decode cX8_readCandle 48 = .ok (.getfield 13, 3) := by decide +kernel
theorem dX8_readCandle_51 : decode cX8_readCandle 51 = .ok (.iconst 0, 1) := by decide +kernel
theorem dX8_readCandle_52 : decode cX8_readCandle 52 = .ok (.iaload, 1) := by decide +kernel
theorem dX8_readCandle_53 : decode cX8_readCandle 53 = .ok (.iconst 1, 1) := by decide +kernel
theorem dX8_readCandle_54 : decode cX8_readCandle 54 = .ok (.isub, 1) := by decide +kernel
theorem dX8_readCandle_55 : decode cX8_readCandle 55 = .ok (.invokevirtual 92, 3) := by decide +kernel
theorem dX8_readCandle_58 : decode cX8_readCandle 58 = .ok (.ifCond .ne 5, 3) := by decide +kernel
theorem dX8_readCandle_61 : decode cX8_readCandle 61 = .ok (.iconst 0, 1) := by decide +kernel
theorem dX8_readCandle_62 : decode cX8_readCandle 62 = .ok (.ireturn, 1) := by decide +kernel
theorem dX8_readCandle_63 : decode cX8_readCandle 63 = .ok (.aload_n 0, 1) := by decide +kernel
theorem dX8_readCandle_64 : decode cX8_readCandle 64 = .ok (.getfield 13, 3) := by decide +kernel
theorem dX8_readCandle_67 : decode cX8_readCandle 67 = .ok (.iload_n 1, 1) := by decide +kernel
theorem dX8_readCandle_68 : decode cX8_readCandle 68 = .ok (.iconst 1, 1) := by decide +kernel
theorem dX8_readCandle_69 : decode cX8_readCandle 69 = .ok (.iadd, 1) := by decide +kernel
theorem dX8_readCandle_70 : decode cX8_readCandle 70 = .ok (.aload_n 0, 1) := by decide +kernel
theorem dX8_readCandle_71 : decode cX8_readCandle 71 = .ok (.getfield 67, 3) := by decide +kernel
theorem dX8_readCandle_74 : decode cX8_readCandle 74 = .ok (.iastore, 1) := by decide +kernel
theorem dX8_readCandle_75 : decode cX8_readCandle 75 = .ok (.aload_n 0, 1) := by decide +kernel
theorem dX8_readCandle_76 : decode cX8_readCandle 76 = .ok (.getfield 13, 3) := by decide +kernel
theorem dX8_readCandle_79 : decode cX8_readCandle 79 = .ok (.iconst 2, 1) := by decide +kernel
theorem dX8_readCandle_80 : decode cX8_readCandle 80 = .ok (.dup2, 1) := by decide +kernel
theorem dX8_readCandle_81 : decode cX8_readCandle 81 = .ok (.iaload, 1) := by decide +kernel
theorem dX8_readCandle_82 : decode cX8_readCandle 82 = .ok (.iconst 1, 1) := by decide +kernel
theorem dX8_readCandle_83 : decode cX8_readCandle 83 = .ok (.iadd, 1) := by decide +kernel
theorem dX8_readCandle_84 : decode cX8_readCandle 84 = .ok (.iastore, 1) := by decide +kernel
theorem dX8_readCandle_85 : decode cX8_readCandle 85 = .ok (.aload_n 0, 1) := by decide +kernel
theorem dX8_readCandle_86 : decode cX8_readCandle 86 = .ok (.invokevirtual 96, 3) := by decide +kernel
theorem dX8_readCandle_89 : decode cX8_readCandle 89 = .ok (.ireturn, 1) := by decide +kernel
set_option maxRecDepth 20000 in
theorem ggX8_readAct_X8_number : GoodIn wsX8_readAct wsX8_number := goodIn_r _ [8, 3, 2, 9, 10, 11, 7, 12, 13, 14, 15, 16, 17, 18, 19, 20, 21, 22, 23, 24, 25, 26, 27, 28, 29, 30, 31, 32, 33, 34, 35, 36, 37, 42, 43, 44, 45, 46, 47, 48, 49, 50, 51, 52, 53, 54, 55, 56, 57, 58, 59] (by decide +kernel) (by decide +kernel)
set_option maxRecDepth 20000 in
theorem gX8_readAct_X8_number : GoodIn wsX8_readAct (wsV RX8 92 RX8 yX8_number wsX8_number) := goodIn_app (goodIn_of _ (by decide +kernel)) ggX8_readAct_X8_number
set_option maxRecDepth 20000 in
theorem ggX8_readAct_X8_reads : GoodIn wsX8_readAct wsX8_reads := goodIn_r _ [12, 13, 14, 15, 16, 3, 17, 18, 7, 19, 20, 21, 22, 23, 24, 25, 26, 27, 28, 2, 29, 30, 31, 32, 33, 34, 35, 36, 37, 42, 43, 44, 45, 46, 47, 48, 49, 50, 51, 52, 53, 54, 55, 56, 57, 58, 59] (by decide +kernel) (by decide +kernel)
set_option maxRecDepth 20000 in
theorem gX8_readAct_X8_reads : GoodIn wsX8_readAct (wsV RX8 89 RX8 yX8_reads wsX8_reads) := goodIn_app (goodIn_of _ (by decide +kernel)) ggX8_readAct_X8_reads
set_option maxRecDepth 20000 in
theorem ggX8_readAct_X8_ends : GoodIn wsX8_readAct wsX8_ends := goodIn_r _ [41, 3, 9, 10, 11, 7, 12, 13, 14, 15, 16, 17, 18, 19, 20, 21, 22, 23, 24, 25, 26, 27, 28, 2, 29, 30, 31, 32, 33, 34, 35, 36, 37, 42, 43, 44, 45, 46, 47, 48, 49, 50, 51, 52, 53, 54, 55, 56, 57, 58, 59] (by decide +kernel) (by decide +kernel)
set_option maxRecDepth 20000 in
theorem gX8_readAct_X8_ends : GoodIn wsX8_readAct (wsV RX8 96 RX8 yX8_ends wsX8_ends) := goodIn_app (goodIn_of _ (by decide +kernel)) ggX8_readAct_X8_ends
theorem dX8_readAct_0 : decode cX8_readAct 0 = .ok (.bipush 27, 2) := by decide +kernel
theorem dX8_readAct_2 : decode cX8_readAct 2 = .ok (.iconst 4, 1) := by decide +kernel
theorem dX8_readAct_3 : decode cX8_readAct 3 = .ok (.aload_n 0, 1) := by decide +kernel
theorem dX8_readAct_4 : decode cX8_readAct 4 = .ok (.getfield 13, 3) := by decide +kernel
theorem dX8_readAct_7 : decode cX8_readAct 7 = .ok (.iconst 3, 1) := by decide +kernel
theorem dX8_readAct_8 : decode cX8_readAct 8 = .ok (.iaload, 1) := by decide +kernel
theorem dX8_readAct_9 : decode cX8_readAct 9 = .ok (.imul, 1) := by decide +kernel
theorem dX8_readAct_10 : decode cX8_readAct 10 = .ok (.iadd, 1) := by decide +kernel
theorem dX8_readAct_11 : decode cX8_readAct 11 = .ok (.istore_n 1, 1) := by decide +kernel
theorem dX8_readAct_12 : decode cX8_readAct 12 = .ok (.aload_n 0, 1) := by decide +kernel
theorem dX8_readAct_13 : decode cX8_readAct 13 = .ok (.getfield 13, 3) := by decide +kernel
theorem dX8_readAct_16 : decode cX8_readAct 16 = .ok (.iconst 3, 1) := by decide +kernel
theorem dX8_readAct_17 : decode cX8_readAct 17 = .ok (.iaload, 1) := by decide +kernel
theorem dX8_readAct_18 : decode cX8_readAct 18 = .ok (.bipush 6, 2) := by decide +kernel
theorem dX8_readAct_20 : decode cX8_readAct 20 = .ok (.if_icmp .eq 13, 3) := by decide +kernel
theorem dX8_readAct_23 : decode cX8_readAct 23 = .ok (.aload_n 0, 1) := by decide +kernel
theorem dX8_readAct_24 : decode cX8_readAct 24 = .ok (.iconst 1, 1) := by decide +kernel
theorem dX8_readAct_25 : decode cX8_readAct 25 = .ok (.bipush 20, 2) := by decide +kernel
theorem dX8_readAct_27 : decode cX8_readAct 27 = .ok (.invokevirtual 92, 3) := by decide +kernel
theorem dX8_readAct_30 : decode cX8_readAct 30 = .ok (.ifCond .ne 5, 3) := by decide +kernel
theorem dX8_readAct_33 : decode cX8_readAct 33 = .ok (.iconst 0, 1) := by decide +kernel
theorem dX8_readAct_34 : decode cX8_readAct 34 = .ok (.ireturn, 1) := by decide +kernel
theorem dX8_readAct_35 : decode cX8_readAct 35 = .ok (.aload_n 0, 1) := by decide +kernel
theorem dX8_readAct_36 : decode cX8_readAct 36 = .ok (.getfield 13, 3) := by decide +kernel
theorem dX8_readAct_39 : decode cX8_readAct 39 = .ok (.iload_n 1, 1) := by decide +kernel
theorem dX8_readAct_40 : decode cX8_readAct 40 = .ok (.aload_n 0, 1) := by decide +kernel
theorem dX8_readAct_41 : decode cX8_readAct 41 = .ok (.getfield 67, 3) := by decide +kernel
theorem dX8_readAct_44 : decode cX8_readAct 44 = .ok (.iastore, 1) := by decide +kernel
theorem dX8_readAct_45 : decode cX8_readAct 45 = .ok (.aload_n 0, 1) := by decide +kernel
theorem dX8_readAct_46 : decode cX8_readAct 46 = .ok (.iconst 0, 1) := by decide +kernel
theorem dX8_readAct_47 : decode cX8_readAct 47 = .ok (.bipush 9, 2) := by decide +kernel
theorem dX8_readAct_49 : decode cX8_readAct 49 = .ok (.invokevirtual 92, 3) := by decide +kernel
theorem dX8_readAct_52 : decode cX8_readAct 52 = .ok (.ifCond .ne 5, 3) := by decide +kernel
theorem dX8_readAct_55 : decode cX8_readAct 55 = .ok (.iconst 0, 1) := by decide +kernel
theorem dX8_readAct_56 : decode cX8_readAct 56 = .ok (.ireturn, 1) := by decide +kernel
theorem dX8_readAct_57 : decode cX8_readAct 57 = .ok (.aload_n 0, 1) := by decide +kernel
theorem dX8_readAct_58 : decode cX8_readAct 58 = .ok (.getfield 13, 3) := by decide +kernel
theorem dX8_readAct_61 : decode cX8_readAct 61 = .ok (.iload_n 1, 1) := by decide +kernel
theorem dX8_readAct_62 : decode cX8_readAct 62 = .ok (.iconst 1, 1) := by decide +kernel
theorem dX8_readAct_63 : decode cX8_readAct 63 = .ok (.iadd, 1) := by decide +kernel
theorem dX8_readAct_64 : decode cX8_readAct 64 = .ok (.aload_n 0, 1) := by decide +kernel
theorem dX8_readAct_65 : decode cX8_readAct 65 = .ok (.getfield 67, 3) := by decide +kernel
theorem dX8_readAct_68 : decode cX8_readAct 68 = .ok (.iastore, 1) := by decide +kernel
theorem dX8_readAct_69 : decode cX8_readAct 69 = .ok (.aload_n 0, 1) := by decide +kernel
theorem dX8_readAct_70 : decode cX8_readAct 70 = .ok (.iconst 0, 1) := by decide +kernel
theorem dX8_readAct_71 : decode cX8_readAct 71 = .ok (.aload_n 0, 1) := by decide +kernel
theorem dX8_readAct_72 : decode cX8_readAct 72 = .ok (.getfield 13, 3) := by decide +kernel
theorem dX8_readAct_75 : decode cX8_readAct 75 = .ok (.iconst 0, 1) := by decide +kernel
theorem dX8_readAct_76 : decode cX8_readAct 76 = .ok (.iaload, 1) := by decide +kernel
theorem dX8_readAct_77 : decode cX8_readAct 77 = .ok (.iconst 1, 1) := by decide +kernel
theorem dX8_readAct_78 : decode cX8_readAct 78 = .ok (.isub, 1) := by decide +kernel
theorem dX8_readAct_79 : decode cX8_readAct 79 = .ok (.invokevirtual 92, 3) := by decide +kernel
theorem dX8_readAct_82 : decode cX8_readAct 82 = .ok (.ifCond .ne 5, 3) := by decide +kernel
theorem dX8_readAct_85 : decode cX8_readAct 85 = .ok (.iconst 0, 1) := by decide +kernel
theorem dX8_readAct_86 : decode cX8_readAct 86 = .ok (.ireturn, 1) := by decide +kernel
theorem dX8_readAct_87 : decode cX8_readAct 87 = .ok (.aload_n 0, 1) := by decide +kernel
theorem dX8_readAct_88 : decode cX8_readAct 88 = .ok (.getfield 13, 3) := by decide +kernel
theorem dX8_readAct_91 : decode cX8_readAct 91 = .ok (.iload_n 1, 1) := by decide +kernel
theorem dX8_readAct_92 : decode cX8_readAct 92 = .ok (.iconst 2, 1) := by decide +kernel
theorem dX8_readAct_93 : decode cX8_readAct 93 = .ok (.iadd, 1) := by decide +kernel
theorem dX8_readAct_94 : decode cX8_readAct 94 = .ok (.aload_n 0, 1) := by decide +kernel
theorem dX8_readAct_95 : decode cX8_readAct 95 = .ok (.getfield 67, 3) := by decide +kernel
theorem dX8_readAct_98 : decode cX8_readAct 98 = .ok (.iastore, 1) := by decide +kernel
theorem dX8_readAct_99 : decode cX8_readAct 99 = .ok (.aload_n 0, 1) := by decide +kernel
theorem dX8_readAct_100 : decode cX8_readAct 100 = .ok (.invokevirtual 89, 3) := by decide +kernel
theorem dX8_readAct_103 : decode cX8_readAct 103 = .ok (.aload_n 0, 1) := by decide +kernel
theorem dX8_readAct_104 : decode cX8_readAct 104 = .ok (.getfield 77, 3) := by decide +kernel
theorem dX8_readAct_107 : decode cX8_readAct 107 = .ok (.iconst 2, 1) := by decide +kernel
theorem dX8_readAct_108 : decode cX8_readAct 108 = .ok (.if_icmp .ne 25, 3) := by decide +kernel
theorem dX8_readAct_111 : decode cX8_readAct 111 = .ok (.aload_n 0, 1) := by decide +kernel
theorem dX8_readAct_112 : decode cX8_readAct 112 = .ok (.getfield 67, 3) := by decide +kernel
theorem dX8_readAct_115 : decode cX8_readAct 115 = .ok (.bipush 9, 2) := by decide +kernel
theorem dX8_readAct_117 : decode cX8_readAct 117 = .ok (.if_icmp .eq 18, 3) := by decide +kernel
theorem dX8_readAct_120 : decode cX8_readAct 120 = .ok (.aload_n 0, 1) := by decide +kernel
theorem dX8_readAct_121 : decode cX8_readAct 121 = .ok (.getfield 67, 3) := by decide +kernel
theorem dX8_readAct_124 : decode cX8_readAct 124 = .ok (.aload_n 0, 1) := by decide +kernel
theorem dX8_readAct_125 : decode cX8_readAct 125 = .ok (.getfield 13, 3) := by decide +kernel
theorem dX8_readAct_128 : decode cX8_readAct 128 = .ok (.iconst 3, 1) := by decide +kernel
theorem dX8_readAct_129 : decode cX8_readAct 129 = .ok (.iaload, 1) := by decide +kernel
theorem dX8_readAct_130 : decode cX8_readAct 130 = .ok (.if_icmp .lt 5, 3) := by decide +kernel
theorem dX8_readAct_133 : decode cX8_readAct 133 = .ok (.iconst 0, 1) := by decide +kernel
theorem dX8_readAct_134 : decode cX8_readAct 134 = .ok (.ireturn, 1) := by decide +kernel
theorem dX8_readAct_135 : decode cX8_readAct 135 = .ok (.aload_n 0, 1) := by decide +kernel
theorem dX8_readAct_136 : decode cX8_readAct 136 = .ok (.getfield 13, 3) := by decide +kernel
theorem dX8_readAct_139 : decode cX8_readAct 139 = .ok (.iload_n 1, 1) := by decide +kernel
theorem dX8_readAct_140 : decode cX8_readAct 140 = .ok (.iconst 3, 1) := by decide +kernel
theorem dX8_readAct_141 : decode cX8_readAct 141 = .ok (.iadd, 1) := by decide +kernel
theorem dX8_readAct_142 : decode cX8_readAct 142 = .ok (.aload_n 0, 1) := by decide +kernel
theorem dX8_readAct_143 : decode cX8_readAct 143 = .ok (.getfield 67, 3) := by decide +kernel
theorem dX8_readAct_146 : decode cX8_readAct 146 = .ok (.iastore, 1) := by decide +kernel
theorem dX8_readAct_147 : decode cX8_readAct 147 = .ok (.aload_n 0, 1) := by decide +kernel
theorem dX8_readAct_148 : decode cX8_readAct 148 = .ok (.getfield 13, 3) := by decide +kernel
theorem dX8_readAct_151 : decode cX8_readAct 151 = .ok (.iconst 3, 1) := by decide +kernel
theorem dX8_readAct_152 : decode cX8_readAct 152 = .ok (.dup2, 1) := by decide +kernel
theorem dX8_readAct_153 : decode cX8_readAct 153 = .ok (.iaload, 1) := by decide +kernel
theorem dX8_readAct_154 : decode cX8_readAct 154 = .ok (.iconst 1, 1) := by decide +kernel
theorem dX8_readAct_155 : decode cX8_readAct 155 = .ok (.iadd, 1) := by decide +kernel
theorem dX8_readAct_156 : decode cX8_readAct 156 = .ok (.iastore, 1) := by decide +kernel
theorem dX8_readAct_157 : decode cX8_readAct 157 = .ok (.aload_n 0, 1) := by decide +kernel
theorem dX8_readAct_158 : decode cX8_readAct 158 = .ok (.invokevirtual 96, 3) := by decide +kernel
theorem dX8_readAct_161 : decode cX8_readAct 161 = .ok (.ireturn, 1) := by decide +kernel
set_option maxRecDepth 20000 in
theorem ggX8_readWind_X8_number : GoodIn wsX8_readWind wsX8_number := goodIn_r _ [8, 2, 3, 9, 10, 11, 7, 12, 13, 14, 15, 16, 17, 18, 19, 20, 21, 22, 23, 24, 25, 26, 27, 28, 29, 30, 31, 32, 33, 34, 35, 36, 37, 38, 39, 40, 41, 42, 43, 44, 45, 46, 47, 48, 49, 50, 51, 52, 53, 54, 55] (by decide +kernel) (by decide +kernel)
set_option maxRecDepth 20000 in
theorem gX8_readWind_X8_number : GoodIn wsX8_readWind (wsV RX8 92 RX8 yX8_number wsX8_number) := goodIn_app (goodIn_of _ (by decide +kernel)) ggX8_readWind_X8_number
set_option maxRecDepth 20000 in
theorem ggX8_readWind_X8_reads : GoodIn wsX8_readWind wsX8_reads := goodIn_r _ [12, 13, 14, 15, 16, 2, 17, 18, 7, 19, 20, 21, 22, 23, 24, 25, 26, 27, 28, 3, 29, 30, 31, 32, 33, 34, 35, 36, 37, 38, 39, 40, 41, 42, 43, 44, 45, 46, 47, 48, 49, 50, 51, 52, 53, 54, 55] (by decide +kernel) (by decide +kernel)
set_option maxRecDepth 20000 in
theorem gX8_readWind_X8_reads : GoodIn wsX8_readWind (wsV RX8 89 RX8 yX8_reads wsX8_reads) := goodIn_app (goodIn_of _ (by decide +kernel)) ggX8_readWind_X8_reads
theorem dX8_readWind_0 : decode cX8_readWind 0 = .ok (.aload_n 0, 1) := by decide +kernel
theorem dX8_readWind_1 : decode cX8_readWind 1 = .ok (.getfield 13, 3) := by decide +kernel
theorem dX8_readWind_4 : decode cX8_readWind 4 = .ok (.iconst 4, 1) := by decide +kernel
theorem dX8_readWind_5 : decode cX8_readWind 5 = .ok (.iaload, 1) := by decide +kernel
theorem dX8_readWind_6 : decode cX8_readWind 6 = .ok (.ifCond .gt 12, 3) := by decide +kernel
theorem dX8_readWind_9 : decode cX8_readWind 9 = .ok (.aload_n 0, 1) := by decide +kernel
theorem dX8_readWind_10 : decode cX8_readWind 10 = .ok (.iconst 0, 1) := by decide +kernel
theorem dX8_readWind_11 : decode cX8_readWind 11 = .ok (.iconst 1, 1) := by decide +kernel
theorem dX8_readWind_12 : decode cX8_readWind 12 = .ok (.invokevirtual 92, 3) := by decide +kernel
theorem dX8_readWind_15 : decode cX8_readWind 15 = .ok (.ifCond .ne 5, 3) := by decide +kernel
theorem dX8_readWind_18 : decode cX8_readWind 18 = .ok (.iconst 0, 1) := by decide +kernel
theorem dX8_readWind_19 : decode cX8_readWind 19 = .ok (.ireturn, 1) := by decide +kernel
theorem dX8_readWind_20 : decode cX8_readWind 20 = .ok (.aload_n 0, 1) := by decide +kernel
theorem dX8_readWind_21 : decode cX8_readWind 21 = .ok (.getfield 77, 3) := by decide +kernel
theorem dX8_readWind_24 : decode cX8_readWind 24 = .ok (.iconst 2, 1) := by decide +kernel
theorem dX8_readWind_25 : decode cX8_readWind 25 = .ok (.if_icmp .ne 59, 3) := by decide +kernel
theorem dX8_readWind_28 : decode cX8_readWind 28 = .ok (.aload_n 0, 1) := by decide +kernel
theorem dX8_readWind_29 : decode cX8_readWind 29 = .ok (.getfield 13, 3) := by decide +kernel
theorem dX8_readWind_32 : decode cX8_readWind 32 = .ok (.iconst 4, 1) := by decide +kernel
theorem dX8_readWind_33 : decode cX8_readWind 33 = .ok (.iaload, 1) := by decide +kernel
theorem dX8_readWind_34 : decode cX8_readWind 34 = .ok (.bipush 8, 2) := by decide +kernel
theorem dX8_readWind_36 : decode cX8_readWind 36 = .ok (.if_icmp .eq 11, 3) := by decide +kernel
theorem dX8_readWind_39 : decode cX8_readWind 39 = .ok (.aload_n 0, 1) := by decide +kernel
theorem dX8_readWind_40 : decode cX8_readWind 40 = .ok (.getfield 67, 3) := by decide +kernel
theorem dX8_readWind_43 : decode cX8_readWind 43 = .ok (.iconst 1, 1) := by decide +kernel
theorem dX8_readWind_44 : decode cX8_readWind 44 = .ok (.if_icmp .le 5, 3) := by decide +kernel
theorem dX8_readWind_47 : decode cX8_readWind 47 = .ok (.iconst 0, 1) := by decide +kernel
theorem dX8_readWind_48 : decode cX8_readWind 48 = .ok (.ireturn, 1) := by decide +kernel
theorem dX8_readWind_49 : decode cX8_readWind 49 = .ok (.aload_n 0, 1) := by decide +kernel
theorem dX8_readWind_50 : decode cX8_readWind 50 = .ok (.getfield 13, 3) := by decide +kernel
theorem dX8_readWind_53 : decode cX8_readWind 53 = .ok (.bipush 51, 2) := by decide +kernel
theorem dX8_readWind_55 : decode cX8_readWind 55 = .ok (.aload_n 0, 1) := by decide +kernel
theorem dX8_readWind_56 : decode cX8_readWind 56 = .ok (.getfield 13, 3) := by decide +kernel
theorem dX8_readWind_59 : decode cX8_readWind 59 = .ok (.iconst 4, 1) := by decide +kernel
theorem dX8_readWind_60 : decode cX8_readWind 60 = .ok (.iaload, 1) := by decide +kernel
theorem dX8_readWind_61 : decode cX8_readWind 61 = .ok (.iadd, 1) := by decide +kernel
theorem dX8_readWind_62 : decode cX8_readWind 62 = .ok (.aload_n 0, 1) := by decide +kernel
theorem dX8_readWind_63 : decode cX8_readWind 63 = .ok (.getfield 67, 3) := by decide +kernel
theorem dX8_readWind_66 : decode cX8_readWind 66 = .ok (.iastore, 1) := by decide +kernel
theorem dX8_readWind_67 : decode cX8_readWind 67 = .ok (.aload_n 0, 1) := by decide +kernel
theorem dX8_readWind_68 : decode cX8_readWind 68 = .ok (.getfield 13, 3) := by decide +kernel
theorem dX8_readWind_71 : decode cX8_readWind 71 = .ok (.iconst 4, 1) := by decide +kernel
theorem dX8_readWind_72 : decode cX8_readWind 72 = .ok (.dup2, 1) := by decide +kernel
theorem dX8_readWind_73 : decode cX8_readWind 73 = .ok (.iaload, 1) := by decide +kernel
theorem dX8_readWind_74 : decode cX8_readWind 74 = .ok (.iconst 1, 1) := by decide +kernel
theorem dX8_readWind_75 : decode cX8_readWind 75 = .ok (.iadd, 1) := by decide +kernel
theorem dX8_readWind_76 : decode cX8_readWind 76 = .ok (.iastore, 1) := by decide +kernel
theorem dX8_readWind_77 : decode cX8_readWind 77 = .ok (.aload_n 0, 1) := by decide +kernel
theorem dX8_readWind_78 : decode cX8_readWind 78 = .ok (.invokevirtual 89, 3) := by decide +kernel
theorem dX8_readWind_81 : decode cX8_readWind 81 = .ok (.goto (-61), 3) := by decide +kernel
theorem dX8_readWind_84 : decode cX8_readWind 84 = .ok (.aload_n 0, 1) := by decide +kernel
theorem dX8_readWind_85 : decode cX8_readWind 85 = .ok (.getfield 77, 3) := by decide +kernel
theorem dX8_readWind_88 : decode cX8_readWind 88 = .ok (.iconst 3, 1) := by decide +kernel
theorem dX8_readWind_89 : decode cX8_readWind 89 = .ok (.if_icmp .ne 7, 3) := by decide +kernel
theorem dX8_readWind_92 : decode cX8_readWind 92 = .ok (.iconst 1, 1) := by decide +kernel
theorem dX8_readWind_93 : decode cX8_readWind 93 = .ok (.goto 4, 3) := by decide +kernel
theorem dX8_readWind_96 : decode cX8_readWind 96 = .ok (.iconst 0, 1) := by decide +kernel
theorem dX8_readWind_97 : decode cX8_readWind 97 = .ok (.ireturn, 1) := by decide +kernel
set_option maxRecDepth 20000 in
theorem ggX8_readItem_X8_ends : GoodIn wsX8_readItem wsX8_ends := goodIn_r _ [8, 1, 9, 10, 11, 7, 12, 13, 14, 15, 16, 17, 18, 19, 20, 21, 22, 23, 24, 25, 26, 27, 28, 2, 29, 30, 31, 32, 33, 34, 35, 36, 37, 58, 59, 60, 61, 62, 63, 64, 65, 66, 67, 68, 69, 70, 71, 72, 73, 74, 75] (by decide +kernel) (by decide +kernel)
set_option maxRecDepth 20000 in
theorem gX8_readItem_X8_ends : GoodIn wsX8_readItem (wsV RX8 96 RX8 yX8_ends wsX8_ends) := goodIn_app (goodIn_of _ (by decide +kernel)) ggX8_readItem_X8_ends
set_option maxRecDepth 20000 in
theorem ggX8_readItem_X8_readDoor : GoodIn wsX8_readItem wsX8_readDoor := goodIn_r _ [41, 3, 2, 42, 43, 44, 7, 45, 1, 9, 10, 11, 12, 13, 14, 15, 16, 17, 18, 19, 20, 21, 22, 23, 24, 25, 26, 27, 28, 29, 30, 31, 32, 33, 34, 35, 36, 37, 4, 5, 6, 8, 58, 59, 60, 61, 62, 63, 64, 65, 66, 67, 68, 69, 70, 71, 72, 73, 74, 75] (by decide +kernel) (by decide +kernel)
set_option maxRecDepth 20000 in
theorem gX8_readItem_X8_readDoor : GoodIn wsX8_readItem (wsV RX8 100 RX8 yX8_readDoor wsX8_readDoor) := goodIn_app (goodIn_of _ (by decide +kernel)) ggX8_readItem_X8_readDoor
set_option maxRecDepth 20000 in
theorem ggX8_readItem_X8_readCandle : GoodIn wsX8_readItem wsX8_readCandle := goodIn_r _ [49, 3, 2, 42, 43, 44, 7, 45, 1, 9, 10, 11, 12, 13, 14, 15, 16, 17, 18, 19, 20, 21, 22, 23, 24, 25, 26, 27, 28, 29, 30, 31, 32, 33, 34, 35, 36, 37, 4, 5, 6, 8, 58, 59, 60, 61, 62, 63, 64, 65, 66, 67, 68, 69, 70, 71, 72, 73, 74, 75] (by decide +kernel) (by decide +kernel)
set_option maxRecDepth 20000 in
theorem gX8_readItem_X8_readCandle : GoodIn wsX8_readItem (wsV RX8 103 RX8 yX8_readCandle wsX8_readCandle) := goodIn_app (goodIn_of _ (by decide +kernel)) ggX8_readItem_X8_readCandle
set_option maxRecDepth 20000 in
theorem ggX8_readItem_X8_readAct : GoodIn wsX8_readItem wsX8_readAct := goodIn_r _ [53, 3, 2, 1, 42, 43, 44, 7, 45, 9, 10, 11, 12, 13, 14, 15, 16, 17, 18, 19, 20, 21, 22, 23, 24, 25, 26, 27, 28, 29, 30, 31, 32, 33, 34, 35, 36, 37, 4, 5, 6, 8, 58, 59, 60, 61, 62, 63, 64, 65, 66, 67, 68, 69, 70, 71, 72, 73, 74, 75] (by decide +kernel) (by decide +kernel)
set_option maxRecDepth 20000 in
theorem gX8_readItem_X8_readAct : GoodIn wsX8_readItem (wsV RX8 106 RX8 yX8_readAct wsX8_readAct) := goodIn_app (goodIn_of _ (by decide +kernel)) ggX8_readItem_X8_readAct
set_option maxRecDepth 20000 in
theorem ggX8_readItem_X8_readWind : GoodIn wsX8_readItem wsX8_readWind := goodIn_r _ [57, 3, 1, 2, 42, 43, 44, 7, 45, 9, 10, 11, 12, 13, 14, 15, 16, 17, 18, 19, 20, 21, 22, 23, 24, 25, 26, 27, 28, 29, 30, 31, 32, 33, 34, 35, 36, 37, 58, 59, 60, 61, 62, 63, 64, 65, 66, 67, 68, 69, 70, 71, 72, 73, 74, 75] (by decide +kernel) (by decide +kernel)
set_option maxRecDepth 20000 in
theorem gX8_readItem_X8_readWind : GoodIn wsX8_readItem (wsV RX8 109 RX8 yX8_readWind wsX8_readWind) := goodIn_app (goodIn_of _ (by decide +kernel)) ggX8_readItem_X8_readWind
theorem dX8_readItem_0 : decode cX8_readItem 0 = .ok (.aload_n 0, 1) := by decide +kernel
theorem dX8_readItem_1 : decode cX8_readItem 1 = .ok (.getfield 77, 3) := by decide +kernel
theorem dX8_readItem_4 : decode cX8_readItem 4 = .ok (.iconst 1, 1) := by decide +kernel
theorem dX8_readItem_5 : decode cX8_readItem 5 = .ok (.if_icmp .eq 5, 3) := by decide +kernel
theorem dX8_readItem_8 : decode cX8_readItem 8 = .ok (.iconst 0, 1) := by decide +kernel
theorem dX8_readItem_9 : decode cX8_readItem 9 = .ok (.ireturn, 1) := by decide +kernel
theorem dX8_readItem_10 : decode cX8_readItem 10 = .ok (.aload_n 0, 1) := by decide +kernel
theorem dX8_readItem_11 : decode cX8_readItem 11 = .ok (.getfield 67, 3) := by decide +kernel
theorem dX8_readItem_14 : decode cX8_readItem 14 = .ok (.lookupswitch 84 #[(97, 79), (99, 74), (100, 69), (114, 42)], 42) := by decide +kernel
theorem dX8_readItem_56 : decode cX8_readItem 56 = .ok (.aload_n 0, 1) := by decide +kernel
theorem dX8_readItem_57 : decode cX8_readItem 57 = .ok (.getfield 13, 3) := by decide +kernel
theorem dX8_readItem_60 : decode cX8_readItem 60 = .ok (.iconst 0, 1) := by decide +kernel
theorem dX8_readItem_61 : decode cX8_readItem 61 = .ok (.iaload, 1) := by decide +kernel
theorem dX8_readItem_62 : decode cX8_readItem 62 = .ok (.iconst 5, 1) := by decide +kernel
theorem dX8_readItem_63 : decode cX8_readItem 63 = .ok (.if_icmp .ne 5, 3) := by decide +kernel
theorem dX8_readItem_66 : decode cX8_readItem 66 = .ok (.iconst 0, 1) := by decide +kernel
theorem dX8_readItem_67 : decode cX8_readItem 67 = .ok (.ireturn, 1) := by decide +kernel
theorem dX8_readItem_68 : decode cX8_readItem 68 = .ok (.aload_n 0, 1) := by decide +kernel
theorem dX8_readItem_69 : decode cX8_readItem 69 = .ok (.getfield 13, 3) := by decide +kernel
theorem dX8_readItem_72 : decode cX8_readItem 72 = .ok (.iconst 0, 1) := by decide +kernel
theorem dX8_readItem_73 : decode cX8_readItem 73 = .ok (.dup2, 1) := by decide +kernel
theorem dX8_readItem_74 : decode cX8_readItem 74 = .ok (.iaload, 1) := by decide +kernel
theorem dX8_readItem_75 : decode cX8_readItem 75 = .ok (.iconst 1, 1) := by decide +kernel
theorem dX8_readItem_76 : decode cX8_readItem 76 = .ok (.iadd, 1) := by decide +kernel
theorem dX8_readItem_77 : decode cX8_readItem 77 = .ok (.iastore, 1) := by decide +kernel
theorem dX8_readItem_78 : decode cX8_readItem 78 = .ok (.aload_n 0, 1) := by decide +kernel
theorem dX8_readItem_79 : decode cX8_readItem 79 = .ok (.invokevirtual 96, 3) := by decide +kernel
theorem dX8_readItem_82 : decode cX8_readItem 82 = .ok (.ireturn, 1) := by decide +kernel
theorem dX8_readItem_83 : decode cX8_readItem 83 = .ok (.aload_n 0, 1) := by decide +kernel
theorem dX8_readItem_84 : decode cX8_readItem 84 = .ok (.invokevirtual 100, 3) := by decide +kernel
theorem dX8_readItem_87 : decode cX8_readItem 87 = .ok (.ireturn, 1) := by decide +kernel
theorem dX8_readItem_88 : decode cX8_readItem 88 = .ok (.aload_n 0, 1) := by decide +kernel
theorem dX8_readItem_89 : decode cX8_readItem 89 = .ok (.invokevirtual 103, 3) := by decide +kernel
theorem dX8_readItem_92 : decode cX8_readItem 92 = .ok (.ireturn, 1) := by decide +kernel
theorem dX8_readItem_93 : decode cX8_readItem 93 = .ok (.aload_n 0, 1) := by decide +kernel
theorem dX8_readItem_94 : decode cX8_readItem 94 = .ok (.invokevirtual 106, 3) := by decide +kernel
theorem dX8_readItem_97 : decode cX8_readItem 97 = .ok (.ireturn, 1) := by decide +kernel
theorem dX8_readItem_98 : decode cX8_readItem 98 = .ok (.aload_n 0, 1) := by decide +kernel
theorem dX8_readItem_99 : decode cX8_readItem 99 = .ok (.invokevirtual 109, 3) := by decide +kernel
theorem dX8_readItem_102 : decode cX8_readItem 102 = .ok (.ireturn, 1) := by decide +kernel
set_option maxRecDepth 20000 in
theorem ggX8_house_X8_plain : GoodIn wsX8_house wsX8_plain := goodIn_r _ [9, 10, 75, 76, 77, 78, 79, 80, 81, 82, 83, 84, 85, 86, 87, 88, 89, 90, 91, 92] (by decide +kernel) (by decide +kernel)
set_option maxRecDepth 20000 in
theorem gX8_house_X8_plain : GoodIn wsX8_house (wsV RX8 40 RX8 yX8_plain wsX8_plain) := goodIn_app (goodIn_of _ (by decide +kernel)) ggX8_house_X8_plain
set_option maxRecDepth 20000 in
theorem ggX8_house_X8_reads : GoodIn wsX8_house wsX8_reads := goodIn_r _ [14, 1, 4, 15, 3, 2, 16, 17, 8, 18, 19, 20, 21, 22, 23, 24, 25, 26, 27, 28, 29, 30, 31, 32, 33, 34, 35, 36, 37, 75, 76, 77, 78, 79, 80, 81, 82, 83, 84, 85, 86, 87, 88, 89, 90, 91, 92] (by decide +kernel) (by decide +kernel)
set_option maxRecDepth 20000 in
theorem gX8_house_X8_reads : GoodIn wsX8_house (wsV RX8 89 RX8 yX8_reads wsX8_reads) := goodIn_app (goodIn_of _ (by decide +kernel)) ggX8_house_X8_reads
set_option maxRecDepth 20000 in
theorem ggX8_house_X8_readItem : GoodIn wsX8_house wsX8_readItem := goodIn_r _ [41, 2, 28, 10, 42, 43, 44, 8, 45, 11, 12, 13, 14, 1, 4, 15, 3, 16, 17, 18, 19, 20, 21, 22, 23, 24, 25, 26, 27, 29, 30, 31, 32, 33, 34, 35, 36, 37, 46, 47, 48, 49, 50, 51, 52, 53, 54, 55, 56, 57, 58, 59, 60, 61, 62, 63, 64, 65, 75, 76, 77, 78, 79, 80, 81, 82, 83, 84, 85, 86, 87, 88, 89, 90, 91, 92] (by decide +kernel) (by decide +kernel)
set_option maxRecDepth 20000 in
theorem gX8_house_X8_readItem : GoodIn wsX8_house (wsV RX8 112 RX8 yX8_readItem wsX8_readItem) := goodIn_app (goodIn_of _ (by decide +kernel)) ggX8_house_X8_readItem
set_option maxRecDepth 20000 in
theorem ggX8_house_X8_takes : GoodIn wsX8_house wsX8_takes := goodIn_r _ [69, 70, 10, 71, 72, 73, 74, 75, 76, 77, 78, 79, 80, 81, 82, 83, 84, 85, 86, 87, 88, 89, 90, 91, 92] (by decide +kernel) (by decide +kernel)
set_option maxRecDepth 20000 in
theorem gX8_house_X8_takes : GoodIn wsX8_house (wsV RX8 43 RX8 yX8_takes wsX8_takes) := goodIn_app (goodIn_of _ (by decide +kernel)) ggX8_house_X8_takes
theorem dX8_house_0 : decode cX8_house 0 = .ok (.aload_n 0, 1) := by decide +kernel
theorem dX8_house_1 : decode cX8_house 1 = .ok (.invokevirtual 40, 3) := by decide +kernel
theorem dX8_house_4 : decode cX8_house 4 = .ok (.aload_n 0, 1) := by decide +kernel
theorem dX8_house_5 : decode cX8_house 5 = .ok (.iconst 0, 1) := by decide +kernel
theorem dX8_house_6 : decode cX8_house 6 = .ok (.putfield 64, 3) := by decide +kernel
theorem dX8_house_9 : decode cX8_house 9 = .ok (.iconst 0, 1) := by decide +kernel
theorem dX8_house_10 : decode cX8_house 10 = .ok (.istore_n 1, 1) := by decide +kernel
theorem dX8_house_11 : decode cX8_house 11 = .ok (.aload_n 0, 1) := by decide +kernel
theorem dX8_house_12 : decode cX8_house 12 = .ok (.invokevirtual 89, 3) := by decide +kernel
theorem dX8_house_15 : decode cX8_house 15 = .ok (.aload_n 0, 1) := by decide +kernel
theorem dX8_house_16 : decode cX8_house 16 = .ok (.getfield 77, 3) := by decide +kernel
theorem dX8_house_19 : decode cX8_house 19 = .ok (.ifCond .eq 28, 3) := by decide +kernel
theorem dX8_house_22 : decode cX8_house 22 = .ok (.aload_n 0, 1) := by decide +kernel
theorem dX8_house_23 : decode cX8_house 23 = .ok (.invokevirtual 112, 3) := by decide +kernel
theorem dX8_house_26 : decode cX8_house 26 = .ok (.ifCond .ne 11, 3) := by decide +kernel
theorem dX8_house_29 : decode cX8_house 29 = .ok (.bipush (-10), 2) := by decide +kernel
theorem dX8_house_31 : decode cX8_house 31 = .ok (.aload_n 0, 1) := by decide +kernel
theorem dX8_house_32 : decode cX8_house 32 = .ok (.getfield 74, 3) := by decide +kernel
theorem dX8_house_35 : decode cX8_house 35 = .ok (.isub, 1) := by decide +kernel
theorem dX8_house_36 : decode cX8_house 36 = .ok (.ireturn, 1) := by decide +kernel
theorem dX8_house_37 : decode cX8_house 37 = .ok (.iinc 1 1, 3) := by decide +kernel
theorem dX8_house_40 : decode cX8_house 40 = .ok (.aload_n 0, 1) := by decide +kernel
theorem dX8_house_41 : decode cX8_house 41 = .ok (.invokevirtual 89, 3) := by decide +kernel
theorem dX8_house_44 : decode cX8_house 44 = .ok (.goto (-29), 3) := by decide +kernel
theorem dX8_house_47 : decode cX8_house 47 = .ok (.aload_n 0, 1) := by decide +kernel
theorem dX8_house_48 : decode cX8_house 48 = .ok (.iconst 0, 1) := by decide +kernel
theorem dX8_house_49 : decode cX8_house 49 = .ok (.putfield 52, 3) := by decide +kernel
theorem dX8_house_52 : decode cX8_house 52 = .ok (.aload_n 0, 1) := by decide +kernel
theorem dX8_house_53 : decode cX8_house 53 = .ok (.invokevirtual 43, 3) := by decide +kernel
theorem dX8_house_56 : decode cX8_house 56 = .ok (.iload_n 1, 1) := by decide +kernel
theorem dX8_house_57 : decode cX8_house 57 = .ok (.ireturn, 1) := by decide +kernel
theorem dX8_takes_0 : decode cX8_takes 0 = .ok (.iconst 0, 1) := by decide +kernel
theorem dX8_takes_1 : decode cX8_takes 1 = .ok (.istore_n 1, 1) := by decide +kernel
theorem dX8_takes_2 : decode cX8_takes 2 = .ok (.iload_n 1, 1) := by decide +kernel
theorem dX8_takes_3 : decode cX8_takes 3 = .ok (.bipush 59, 2) := by decide +kernel
theorem dX8_takes_5 : decode cX8_takes 5 = .ok (.if_icmp .ge 21, 3) := by decide +kernel
theorem dX8_takes_8 : decode cX8_takes 8 = .ok (.aload_n 0, 1) := by decide +kernel
theorem dX8_takes_9 : decode cX8_takes 9 = .ok (.getfield 16, 3) := by decide +kernel
theorem dX8_takes_12 : decode cX8_takes 12 = .ok (.iload_n 1, 1) := by decide +kernel
theorem dX8_takes_13 : decode cX8_takes 13 = .ok (.aload_n 0, 1) := by decide +kernel
theorem dX8_takes_14 : decode cX8_takes 14 = .ok (.getfield 13, 3) := by decide +kernel
theorem dX8_takes_17 : decode cX8_takes 17 = .ok (.iload_n 1, 1) := by decide +kernel
theorem dX8_takes_18 : decode cX8_takes 18 = .ok (.iaload, 1) := by decide +kernel
theorem dX8_takes_19 : decode cX8_takes 19 = .ok (.iastore, 1) := by decide +kernel
theorem dX8_takes_20 : decode cX8_takes 20 = .ok (.iinc 1 1, 3) := by decide +kernel
theorem dX8_takes_23 : decode cX8_takes 23 = .ok (.goto (-21), 3) := by decide +kernel
theorem dX8_takes_26 : decode cX8_takes 26 = .ok (.iconst 0, 1) := by decide +kernel
theorem dX8_takes_27 : decode cX8_takes 27 = .ok (.istore_n 1, 1) := by decide +kernel
theorem dX8_takes_28 : decode cX8_takes 28 = .ok (.iload_n 1, 1) := by decide +kernel
theorem dX8_takes_29 : decode cX8_takes 29 = .ok (.bipush 47, 2) := by decide +kernel
theorem dX8_takes_31 : decode cX8_takes 31 = .ok (.if_icmp .ge 16, 3) := by decide +kernel
theorem dX8_takes_34 : decode cX8_takes 34 = .ok (.aload_n 0, 1) := by decide +kernel
theorem dX8_takes_35 : decode cX8_takes 35 = .ok (.getfield 19, 3) := by decide +kernel
theorem dX8_takes_38 : decode cX8_takes 38 = .ok (.iload_n 1, 1) := by decide +kernel
theorem dX8_takes_39 : decode cX8_takes 39 = .ok (.iconst 0, 1) := by decide +kernel
theorem dX8_takes_40 : decode cX8_takes 40 = .ok (.iastore, 1) := by decide +kernel
theorem dX8_takes_41 : decode cX8_takes 41 = .ok (.iinc 1 1, 3) := by decide +kernel
theorem dX8_takes_44 : decode cX8_takes 44 = .ok (.goto (-16), 3) := by decide +kernel
theorem dX8_takes_47 : decode cX8_takes 47 = .ok (.iconst 0, 1) := by decide +kernel
theorem dX8_takes_48 : decode cX8_takes 48 = .ok (.istore_n 1, 1) := by decide +kernel
theorem dX8_takes_49 : decode cX8_takes 49 = .ok (.iload_n 1, 1) := by decide +kernel
theorem dX8_takes_50 : decode cX8_takes 50 = .ok (.aload_n 0, 1) := by decide +kernel
theorem dX8_takes_51 : decode cX8_takes 51 = .ok (.getfield 16, 3) := by decide +kernel
theorem dX8_takes_54 : decode cX8_takes 54 = .ok (.iconst 2, 1) := by decide +kernel
theorem dX8_takes_55 : decode cX8_takes 55 = .ok (.iaload, 1) := by decide +kernel
theorem dX8_takes_56 : decode cX8_takes 56 = .ok (.if_icmp .ge 53, 3) := by decide +kernel
theorem dX8_takes_59 : decode cX8_takes 59 = .ok (.aload_n 0, 1) := by decide +kernel
theorem dX8_takes_60 : decode cX8_takes 60 = .ok (.getfield 19, 3) := by decide +kernel
theorem dX8_takes_63 : decode cX8_takes 63 = .ok (.iconst 1, 1) := by decide +kernel
theorem dX8_takes_64 : decode cX8_takes 64 = .ok (.iconst 4, 1) := by decide +kernel
theorem dX8_takes_65 : decode cX8_takes 65 = .ok (.iload_n 1, 1) := by decide +kernel
theorem dX8_takes_66 : decode cX8_takes 66 = .ok (.imul, 1) := by decide +kernel
theorem dX8_takes_67 : decode cX8_takes 67 = .ok (.iadd, 1) := by decide +kernel
theorem dX8_takes_68 : decode cX8_takes 68 = .ok (.aload_n 0, 1) := by decide +kernel
theorem dX8_takes_69 : decode cX8_takes 69 = .ok (.getfield 16, 3) := by decide +kernel
theorem dX8_takes_72 : decode cX8_takes 72 = .ok (.bipush 15, 2) := by decide +kernel
theorem dX8_takes_74 : decode cX8_takes 74 = .ok (.iconst 2, 1) := by decide +kernel
theorem dX8_takes_75 : decode cX8_takes 75 = .ok (.iload_n 1, 1) := by decide +kernel
theorem dX8_takes_76 : decode cX8_takes 76 = .ok (.imul, 1) := by decide +kernel
theorem dX8_takes_77 : decode cX8_takes 77 = .ok (.iadd, 1) := by decide +kernel
theorem dX8_takes_78 : decode cX8_takes 78 = .ok (.iaload, 1) := by decide +kernel
theorem dX8_takes_79 : decode cX8_takes 79 = .ok (.iastore, 1) := by decide +kernel
theorem dX8_takes_80 : decode cX8_takes 80 = .ok (.aload_n 0, 1) := by decide +kernel
theorem dX8_takes_81 : decode cX8_takes 81 = .ok (.getfield 19, 3) := by decide +kernel
theorem dX8_takes_84 : decode cX8_takes 84 = .ok (.iconst 2, 1) := by decide +kernel
theorem dX8_takes_85 : decode cX8_takes 85 = .ok (.iconst 4, 1) := by decide +kernel
theorem dX8_takes_86 : decode cX8_takes 86 = .ok (.iload_n 1, 1) := by decide +kernel
theorem dX8_takes_87 : decode cX8_takes 87 = .ok (.imul, 1) := by decide +kernel
theorem dX8_takes_88 : decode cX8_takes 88 = .ok (.iadd, 1) := by decide +kernel
theorem dX8_takes_89 : decode cX8_takes 89 = .ok (.aload_n 0, 1) := by decide +kernel
theorem dX8_takes_90 : decode cX8_takes 90 = .ok (.getfield 16, 3) := by decide +kernel
theorem dX8_takes_93 : decode cX8_takes 93 = .ok (.bipush 15, 2) := by decide +kernel
theorem dX8_takes_95 : decode cX8_takes 95 = .ok (.iconst 2, 1) := by decide +kernel
theorem dX8_takes_96 : decode cX8_takes 96 = .ok (.iload_n 1, 1) := by decide +kernel
theorem dX8_takes_97 : decode cX8_takes 97 = .ok (.imul, 1) := by decide +kernel
theorem dX8_takes_98 : decode cX8_takes 98 = .ok (.iadd, 1) := by decide +kernel
theorem dX8_takes_99 : decode cX8_takes 99 = .ok (.iconst 1, 1) := by decide +kernel
theorem dX8_takes_100 : decode cX8_takes 100 = .ok (.iadd, 1) := by decide +kernel
theorem dX8_takes_101 : decode cX8_takes 101 = .ok (.iaload, 1) := by decide +kernel
theorem dX8_takes_102 : decode cX8_takes 102 = .ok (.iastore, 1) := by decide +kernel
theorem dX8_takes_103 : decode cX8_takes 103 = .ok (.iinc 1 1, 3) := by decide +kernel
theorem dX8_takes_106 : decode cX8_takes 106 = .ok (.goto (-57), 3) := by decide +kernel
theorem dX8_takes_109 : decode cX8_takes 109 = .ok (.aload_n 0, 1) := by decide +kernel
theorem dX8_takes_110 : decode cX8_takes 110 = .ok (.iconst 0, 1) := by decide +kernel
theorem dX8_takes_111 : decode cX8_takes 111 = .ok (.putfield 115, 3) := by decide +kernel
theorem dX8_takes_114 : decode cX8_takes 114 = .ok (.aload_n 0, 1) := by decide +kernel
theorem dX8_takes_115 : decode cX8_takes 115 = .ok (.iconst 0, 1) := by decide +kernel
theorem dX8_takes_116 : decode cX8_takes 116 = .ok (.putfield 118, 3) := by decide +kernel
theorem dX8_takes_119 : decode cX8_takes 119 = .ok (.aload_n 0, 1) := by decide +kernel
theorem dX8_takes_120 : decode cX8_takes 120 = .ok (.getfield 37, 3) := by decide +kernel
theorem dX8_takes_123 : decode cX8_takes 123 = .ok (.iconst 0, 1) := by decide +kernel
theorem dX8_takes_124 : decode cX8_takes 124 = .ok (.iconst 0, 1) := by decide +kernel
theorem dX8_takes_125 : decode cX8_takes 125 = .ok (.iastore, 1) := by decide +kernel
theorem dX8_takes_126 : decode cX8_takes 126 = .ok (.aload_n 0, 1) := by decide +kernel
theorem dX8_takes_127 : decode cX8_takes 127 = .ok (.getfield 37, 3) := by decide +kernel
theorem dX8_takes_130 : decode cX8_takes 130 = .ok (.sipush 519, 3) := by decide +kernel
theorem dX8_takes_133 : decode cX8_takes 133 = .ok (.iconst 0, 1) := by decide +kernel
theorem dX8_takes_134 : decode cX8_takes 134 = .ok (.iastore, 1) := by decide +kernel
theorem dX8_takes_135 : decode cX8_takes 135 = .ok (.return_, 1) := by decide +kernel
set_option maxRecDepth 20000 in
theorem ggX8_isRoom_X8_in : GoodIn wsX8_isRoom wsX8_in := goodIn_r _ [5] (by decide +kernel) (by decide +kernel)
set_option maxRecDepth 20000 in
theorem gX8_isRoom_X8_in : GoodIn wsX8_isRoom (va_wsS RX8 48 yX8_in wsX8_in) := goodIn_app (goodIn_of _ (by decide +kernel)) ggX8_isRoom_X8_in
theorem dX8_isRoom_0 : decode cX8_isRoom 0 = .ok (.iload_n 1, 1) := by decide +kernel
theorem dX8_isRoom_1 : decode cX8_isRoom 1 = .ok (.i2l, 1) := by decide +kernel
theorem dX8_isRoom_2 : decode cX8_isRoom 2 = .ok (.lconst 0, 1) := by decide +kernel
theorem dX8_isRoom_3 : decode cX8_isRoom 3 = .ok (.aload_n 0, 1) := by decide +kernel
theorem dX8_isRoom_4 : decode cX8_isRoom 4 = .ok (.getfield 16, 3) := by decide +kernel
theorem dX8_isRoom_7 : decode cX8_isRoom 7 = .ok (.iconst 0, 1) := by decide +kernel
theorem dX8_isRoom_8 : decode cX8_isRoom 8 = .ok (.iaload, 1) := by decide +kernel
theorem dX8_isRoom_9 : decode cX8_isRoom 9 = .ok (.iconst 1, 1) := by decide +kernel
theorem dX8_isRoom_10 : decode cX8_isRoom 10 = .ok (.isub, 1) := by decide +kernel
theorem dX8_isRoom_11 : decode cX8_isRoom 11 = .ok (.i2l, 1) := by decide +kernel
theorem dX8_isRoom_12 : decode cX8_isRoom 12 = .ok (.invokestatic 48, 3) := by decide +kernel
theorem dX8_isRoom_15 : decode cX8_isRoom 15 = .ok (.ireturn, 1) := by decide +kernel
set_option maxRecDepth 20000 in
theorem ggX8_isDoor_X8_in : GoodIn wsX8_isDoor wsX8_in := goodIn_r _ [5] (by decide +kernel) (by decide +kernel)
set_option maxRecDepth 20000 in
theorem gX8_isDoor_X8_in : GoodIn wsX8_isDoor (va_wsS RX8 48 yX8_in wsX8_in) := goodIn_app (goodIn_of _ (by decide +kernel)) ggX8_isDoor_X8_in
theorem dX8_isDoor_0 : decode cX8_isDoor 0 = .ok (.iload_n 1, 1) := by decide +kernel
theorem dX8_isDoor_1 : decode cX8_isDoor 1 = .ok (.i2l, 1) := by decide +kernel
theorem dX8_isDoor_2 : decode cX8_isDoor 2 = .ok (.lconst 0, 1) := by decide +kernel
theorem dX8_isDoor_3 : decode cX8_isDoor 3 = .ok (.aload_n 0, 1) := by decide +kernel
theorem dX8_isDoor_4 : decode cX8_isDoor 4 = .ok (.getfield 16, 3) := by decide +kernel
theorem dX8_isDoor_7 : decode cX8_isDoor 7 = .ok (.iconst 1, 1) := by decide +kernel
theorem dX8_isDoor_8 : decode cX8_isDoor 8 = .ok (.iaload, 1) := by decide +kernel
theorem dX8_isDoor_9 : decode cX8_isDoor 9 = .ok (.iconst 1, 1) := by decide +kernel
theorem dX8_isDoor_10 : decode cX8_isDoor 10 = .ok (.isub, 1) := by decide +kernel
theorem dX8_isDoor_11 : decode cX8_isDoor 11 = .ok (.i2l, 1) := by decide +kernel
theorem dX8_isDoor_12 : decode cX8_isDoor 12 = .ok (.invokestatic 48, 3) := by decide +kernel
theorem dX8_isDoor_15 : decode cX8_isDoor 15 = .ok (.ireturn, 1) := by decide +kernel
set_option maxRecDepth 20000 in
theorem ggX8_isCandle_X8_in : GoodIn wsX8_isCandle wsX8_in := goodIn_r _ [5] (by decide +kernel) (by decide +kernel)
set_option maxRecDepth 20000 in
theorem gX8_isCandle_X8_in : GoodIn wsX8_isCandle (va_wsS RX8 48 yX8_in wsX8_in) := goodIn_app (goodIn_of _ (by decide +kernel)) ggX8_isCandle_X8_in
theorem dX8_isCandle_0 : decode cX8_isCandle 0 = .ok (.iload_n 1, 1) := by decide +kernel
theorem dX8_isCandle_1 : decode cX8_isCandle 1 = .ok (.i2l, 1) := by decide +kernel
theorem dX8_isCandle_2 : decode cX8_isCandle 2 = .ok (.lconst 0, 1) := by decide +kernel
theorem dX8_isCandle_3 : decode cX8_isCandle 3 = .ok (.aload_n 0, 1) := by decide +kernel
theorem dX8_isCandle_4 : decode cX8_isCandle 4 = .ok (.getfield 16, 3) := by decide +kernel
theorem dX8_isCandle_7 : decode cX8_isCandle 7 = .ok (.iconst 2, 1) := by decide +kernel
theorem dX8_isCandle_8 : decode cX8_isCandle 8 = .ok (.iaload, 1) := by decide +kernel
theorem dX8_isCandle_9 : decode cX8_isCandle 9 = .ok (.iconst 1, 1) := by decide +kernel
theorem dX8_isCandle_10 : decode cX8_isCandle 10 = .ok (.isub, 1) := by decide +kernel
theorem dX8_isCandle_11 : decode cX8_isCandle 11 = .ok (.i2l, 1) := by decide +kernel
theorem dX8_isCandle_12 : decode cX8_isCandle 12 = .ok (.invokestatic 48, 3) := by decide +kernel
theorem dX8_isCandle_15 : decode cX8_isCandle 15 = .ok (.ireturn, 1) := by decide +kernel
set_option maxRecDepth 20000 in
theorem ggX8_isAct_X8_in : GoodIn wsX8_isAct wsX8_in := goodIn_r _ [5] (by decide +kernel) (by decide +kernel)
set_option maxRecDepth 20000 in
theorem gX8_isAct_X8_in : GoodIn wsX8_isAct (va_wsS RX8 48 yX8_in wsX8_in) := goodIn_app (goodIn_of _ (by decide +kernel)) ggX8_isAct_X8_in
