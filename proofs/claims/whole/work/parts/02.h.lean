theorem dX8_guard_28 : decode cX8_guard 28 = .ok (.iconst 1, 1) := by decide +kernel
theorem dX8_guard_29 : decode cX8_guard 29 = .ok (.invokevirtual 193, 3) := by decide +kernel
theorem dX8_guard_32 : decode cX8_guard 32 = .ok (.ireturn, 1) := by decide +kernel
set_option maxRecDepth 20000 in
theorem ggX8_falls_X8_isAct : GoodIn wsX8_falls wsX8_isAct := goodIn_r _ [6, 1, 7, 8, 5, 9, 10, 11, 12, 13, 14, 15, 16, 17, 18, 19, 20, 21, 22, 23, 24, 25, 26, 27] (by decide +kernel) (by decide +kernel)
set_option maxRecDepth 20000 in
theorem gX8_falls_X8_isAct : GoodIn wsX8_falls (wsV RX8 131 RX8 yX8_isAct wsX8_isAct) := goodIn_app (goodIn_of _ (by decide +kernel)) ggX8_falls_X8_isAct
theorem dX8_falls_0 : decode cX8_falls 0 = .ok (.aload_n 0, 1) := by decide +kernel
theorem dX8_falls_1 : decode cX8_falls 1 = .ok (.iload_n 1, 1) := by decide +kernel
theorem dX8_falls_2 : decode cX8_falls 2 = .ok (.invokevirtual 131, 3) := by decide +kernel
theorem dX8_falls_5 : decode cX8_falls 5 = .ok (.ifCond .ne 5, 3) := by decide +kernel
theorem dX8_falls_8 : decode cX8_falls 8 = .ok (.iconst (-1), 1) := by decide +kernel
theorem dX8_falls_9 : decode cX8_falls 9 = .ok (.ireturn, 1) := by decide +kernel
theorem dX8_falls_10 : decode cX8_falls 10 = .ok (.iconst 1, 1) := by decide +kernel
theorem dX8_falls_11 : decode cX8_falls 11 = .ok (.iload_n 1, 1) := by decide +kernel
theorem dX8_falls_12 : decode cX8_falls 12 = .ok (.ishl, 1) := by decide +kernel
theorem dX8_falls_13 : decode cX8_falls 13 = .ok (.istore_n 2, 1) := by decide +kernel
theorem dX8_falls_14 : decode cX8_falls 14 = .ok (.iload_n 1, 1) := by decide +kernel
theorem dX8_falls_15 : decode cX8_falls 15 = .ok (.iconst 1, 1) := by decide +kernel
theorem dX8_falls_16 : decode cX8_falls 16 = .ok (.iadd, 1) := by decide +kernel
theorem dX8_falls_17 : decode cX8_falls 17 = .ok (.istore_n 3, 1) := by decide +kernel
theorem dX8_falls_18 : decode cX8_falls 18 = .ok (.iload_n 3, 1) := by decide +kernel
theorem dX8_falls_19 : decode cX8_falls 19 = .ok (.aload_n 0, 1) := by decide +kernel
theorem dX8_falls_20 : decode cX8_falls 20 = .ok (.getfield 16, 3) := by decide +kernel
theorem dX8_falls_23 : decode cX8_falls 23 = .ok (.iconst 3, 1) := by decide +kernel
theorem dX8_falls_24 : decode cX8_falls 24 = .ok (.iaload, 1) := by decide +kernel
theorem dX8_falls_25 : decode cX8_falls 25 = .ok (.if_icmp .ge 51, 3) := by decide +kernel
theorem dX8_falls_28 : decode cX8_falls 28 = .ok (.aload_n 0, 1) := by decide +kernel
theorem dX8_falls_29 : decode cX8_falls 29 = .ok (.getfield 16, 3) := by decide +kernel
theorem dX8_falls_32 : decode cX8_falls 32 = .ok (.bipush 27, 2) := by decide +kernel
theorem dX8_falls_34 : decode cX8_falls 34 = .ok (.iconst 4, 1) := by decide +kernel
theorem dX8_falls_35 : decode cX8_falls 35 = .ok (.iload_n 3, 1) := by decide +kernel
theorem dX8_falls_36 : decode cX8_falls 36 = .ok (.imul, 1) := by decide +kernel
theorem dX8_falls_37 : decode cX8_falls 37 = .ok (.iadd, 1) := by decide +kernel
theorem dX8_falls_38 : decode cX8_falls 38 = .ok (.iconst 3, 1) := by decide +kernel
theorem dX8_falls_39 : decode cX8_falls 39 = .ok (.iadd, 1) := by decide +kernel
theorem dX8_falls_40 : decode cX8_falls 40 = .ok (.iaload, 1) := by decide +kernel
theorem dX8_falls_41 : decode cX8_falls 41 = .ok (.istore 4, 2) := by decide +kernel
theorem dX8_falls_43 : decode cX8_falls 43 = .ok (.iload_n 2, 1) := by decide +kernel
theorem dX8_falls_44 : decode cX8_falls 44 = .ok (.iload 4, 2) := by decide +kernel
theorem dX8_falls_46 : decode cX8_falls 46 = .ok (.bipush 9, 2) := by decide +kernel
theorem dX8_falls_48 : decode cX8_falls 48 = .ok (.if_icmp .ge 19, 3) := by decide +kernel
theorem dX8_falls_51 : decode cX8_falls 51 = .ok (.iload_n 2, 1) := by decide +kernel
theorem dX8_falls_52 : decode cX8_falls 52 = .ok (.iload 4, 2) := by decide +kernel
theorem dX8_falls_54 : decode cX8_falls 54 = .ok (.ishr, 1) := by decide +kernel
theorem dX8_falls_55 : decode cX8_falls 55 = .ok (.iconst 1, 1) := by decide +kernel
theorem dX8_falls_56 : decode cX8_falls 56 = .ok (.iand, 1) := by decide +kernel
theorem dX8_falls_57 : decode cX8_falls 57 = .ok (.iconst 1, 1) := by decide +kernel
theorem dX8_falls_58 : decode cX8_falls 58 = .ok (.if_icmp .ne 9, 3) := by decide +kernel
theorem dX8_falls_61 : decode cX8_falls 61 = .ok (.iconst 1, 1) := by decide +kernel
theorem dX8_falls_62 : decode cX8_falls 62 = .ok (.iload_n 3, 1) := by decide +kernel
theorem dX8_falls_63 : decode cX8_falls 63 = .ok (.ishl, 1) := by decide +kernel
theorem dX8_falls_64 : decode cX8_falls 64 = .ok (.goto 4, 3) := by decide +kernel
theorem dX8_falls_67 : decode cX8_falls 67 = .ok (.iconst 0, 1) := by decide +kernel
theorem dX8_falls_68 : decode cX8_falls 68 = .ok (.ior, 1) := by decide +kernel
theorem dX8_falls_69 : decode cX8_falls 69 = .ok (.istore_n 2, 1) := by decide +kernel
theorem dX8_falls_70 : decode cX8_falls 70 = .ok (.iinc 3 1, 3) := by decide +kernel
theorem dX8_falls_73 : decode cX8_falls 73 = .ok (.goto (-55), 3) := by decide +kernel
theorem dX8_falls_76 : decode cX8_falls 76 = .ok (.iload_n 2, 1) := by decide +kernel
theorem dX8_falls_77 : decode cX8_falls 77 = .ok (.ireturn, 1) := by decide +kernel
set_option maxRecDepth 20000 in
theorem ggX8_wants_X8_in : GoodIn wsX8_wants wsX8_in := goodIn_r _ [7] (by decide +kernel) (by decide +kernel)
set_option maxRecDepth 20000 in
theorem gX8_wants_X8_in : GoodIn wsX8_wants (va_wsS RX8 48 yX8_in wsX8_in) := goodIn_app (goodIn_of _ (by decide +kernel)) ggX8_wants_X8_in
theorem dX8_wants_0 : decode cX8_wants 0 = .ok (.iload_n 1, 1) := by decide +kernel
theorem dX8_wants_1 : decode cX8_wants 1 = .ok (.i2l, 1) := by decide +kernel
theorem dX8_wants_2 : decode cX8_wants 2 = .ok (.lconst 1, 1) := by decide +kernel
theorem dX8_wants_3 : decode cX8_wants 3 = .ok (.ldc2_w 164, 3) := by decide +kernel
theorem dX8_wants_6 : decode cX8_wants 6 = .ok (.invokestatic 48, 3) := by decide +kernel
theorem dX8_wants_9 : decode cX8_wants 9 = .ok (.ifCond .ne 5, 3) := by decide +kernel
theorem dX8_wants_12 : decode cX8_wants 12 = .ok (.iconst (-1), 1) := by decide +kernel
theorem dX8_wants_13 : decode cX8_wants 13 = .ok (.ireturn, 1) := by decide +kernel
theorem dX8_wants_14 : decode cX8_wants 14 = .ok (.aload_n 0, 1) := by decide +kernel
theorem dX8_wants_15 : decode cX8_wants 15 = .ok (.getfield 115, 3) := by decide +kernel
theorem dX8_wants_18 : decode cX8_wants 18 = .ok (.bipush 6, 2) := by decide +kernel
theorem dX8_wants_20 : decode cX8_wants 20 = .ok (.if_icmp .ne 6, 3) := by decide +kernel
theorem dX8_wants_23 : decode cX8_wants 23 = .ok (.bipush (-3), 2) := by decide +kernel
theorem dX8_wants_25 : decode cX8_wants 25 = .ok (.ireturn, 1) := by decide +kernel
theorem dX8_wants_26 : decode cX8_wants 26 = .ok (.aload_n 0, 1) := by decide +kernel
theorem dX8_wants_27 : decode cX8_wants 27 = .ok (.getfield 28, 3) := by decide +kernel
theorem dX8_wants_30 : decode cX8_wants 30 = .ok (.aload_n 0, 1) := by decide +kernel
theorem dX8_wants_31 : decode cX8_wants 31 = .ok (.getfield 115, 3) := by decide +kernel
theorem dX8_wants_34 : decode cX8_wants 34 = .ok (.iload_n 1, 1) := by decide +kernel
theorem dX8_wants_35 : decode cX8_wants 35 = .ok (.iastore, 1) := by decide +kernel
theorem dX8_wants_36 : decode cX8_wants 36 = .ok (.aload_n 0, 1) := by decide +kernel
theorem dX8_wants_37 : decode cX8_wants 37 = .ok (.dup, 1) := by decide +kernel
theorem dX8_wants_38 : decode cX8_wants 38 = .ok (.getfield 115, 3) := by decide +kernel
theorem dX8_wants_41 : decode cX8_wants 41 = .ok (.iconst 1, 1) := by decide +kernel
theorem dX8_wants_42 : decode cX8_wants 42 = .ok (.iadd, 1) := by decide +kernel
theorem dX8_wants_43 : decode cX8_wants 43 = .ok (.putfield 115, 3) := by decide +kernel
theorem dX8_wants_46 : decode cX8_wants 46 = .ok (.aload_n 0, 1) := by decide +kernel
theorem dX8_wants_47 : decode cX8_wants 47 = .ok (.getfield 115, 3) := by decide +kernel
theorem dX8_wants_50 : decode cX8_wants 50 = .ok (.ireturn, 1) := by decide +kernel
theorem dX8_forget_0 : decode cX8_forget 0 = .ok (.aload_n 0, 1) := by decide +kernel
theorem dX8_forget_1 : decode cX8_forget 1 = .ok (.getfield 115, 3) := by decide +kernel
theorem dX8_forget_4 : decode cX8_forget 4 = .ok (.istore_n 1, 1) := by decide +kernel
theorem dX8_forget_5 : decode cX8_forget 5 = .ok (.aload_n 0, 1) := by decide +kernel
theorem dX8_forget_6 : decode cX8_forget 6 = .ok (.iconst 0, 1) := by decide +kernel
theorem dX8_forget_7 : decode cX8_forget 7 = .ok (.putfield 115, 3) := by decide +kernel
theorem dX8_forget_10 : decode cX8_forget 10 = .ok (.iload_n 1, 1) := by decide +kernel
theorem dX8_forget_11 : decode cX8_forget 11 = .ok (.ireturn, 1) := by decide +kernel
set_option maxRecDepth 20000 in
theorem ggX8_cut_X8_in : GoodIn wsX8_cut wsX8_in := goodIn_r _ [10] (by decide +kernel) (by decide +kernel)
set_option maxRecDepth 20000 in
theorem gX8_cut_X8_in : GoodIn wsX8_cut (va_wsS RX8 48 yX8_in wsX8_in) := goodIn_app (goodIn_of _ (by decide +kernel)) ggX8_cut_X8_in
set_option maxRecDepth 20000 in
theorem ggX8_cut_X8_isLit : GoodIn wsX8_cut wsX8_isLit := goodIn_r _ [14, 15, 23, 24, 25, 26, 27, 28, 29, 30, 31, 32, 33, 34, 35, 36, 37, 38, 39, 40] (by decide +kernel) (by decide +kernel)
set_option maxRecDepth 20000 in
theorem gX8_cut_X8_isLit : GoodIn wsX8_cut (wsV RX8 145 RX8 yX8_isLit wsX8_isLit) := goodIn_app (goodIn_of _ (by decide +kernel)) ggX8_cut_X8_isLit
set_option maxRecDepth 20000 in
theorem ggX8_cut_X8_left : GoodIn wsX8_cut wsX8_left := goodIn_r _ [19, 15, 23, 24, 25, 26, 27, 28, 29, 30, 31, 32, 33, 34, 35, 36, 37, 38, 39, 40] (by decide +kernel) (by decide +kernel)
set_option maxRecDepth 20000 in
theorem gX8_cut_X8_left : GoodIn wsX8_cut (wsV RX8 151 RX8 yX8_left wsX8_left) := goodIn_app (goodIn_of _ (by decide +kernel)) ggX8_cut_X8_left
set_option maxRecDepth 20000 in
theorem ggX8_cut_X8_ones : GoodIn wsX8_cut wsX8_ones := goodIn_r _ [22] (by decide +kernel) (by decide +kernel)
set_option maxRecDepth 20000 in
theorem gX8_cut_X8_ones : GoodIn wsX8_cut (va_wsS RX8 184 yX8_ones wsX8_ones) := goodIn_app (goodIn_of _ (by decide +kernel)) ggX8_cut_X8_ones
theorem dX8_cut_0 : decode cX8_cut 0 = .ok (.iload_n 1, 1) := by decide +kernel
theorem dX8_cut_1 : decode cX8_cut 1 = .ok (.i2l, 1) := by decide +kernel
theorem dX8_cut_2 : decode cX8_cut 2 = .ok (.ldc2_w 197, 3) := by decide +kernel
theorem dX8_cut_5 : decode cX8_cut 5 = .ok (.aload_n 0, 1) := by decide +kernel
theorem dX8_cut_6 : decode cX8_cut 6 = .ok (.getfield 115, 3) := by decide +kernel
theorem dX8_cut_9 : decode cX8_cut 9 = .ok (.iconst 1, 1) := by decide +kernel
theorem dX8_cut_10 : decode cX8_cut 10 = .ok (.isub, 1) := by decide +kernel
theorem dX8_cut_11 : decode cX8_cut 11 = .ok (.i2l, 1) := by decide +kernel
theorem dX8_cut_12 : decode cX8_cut 12 = .ok (.invokestatic 48, 3) := by decide +kernel
theorem dX8_cut_15 : decode cX8_cut 15 = .ok (.ifCond .ne 5, 3) := by decide +kernel
theorem dX8_cut_18 : decode cX8_cut 18 = .ok (.iconst (-1), 1) := by decide +kernel
theorem dX8_cut_19 : decode cX8_cut 19 = .ok (.ireturn, 1) := by decide +kernel
theorem dX8_cut_20 : decode cX8_cut 20 = .ok (.iconst 1, 1) := by decide +kernel
theorem dX8_cut_21 : decode cX8_cut 21 = .ok (.istore_n 2, 1) := by decide +kernel
theorem dX8_cut_22 : decode cX8_cut 22 = .ok (.iconst 0, 1) := by decide +kernel
theorem dX8_cut_23 : decode cX8_cut 23 = .ok (.istore_n 3, 1) := by decide +kernel
theorem dX8_cut_24 : decode cX8_cut 24 = .ok (.iload_n 3, 1) := by decide +kernel
theorem dX8_cut_25 : decode cX8_cut 25 = .ok (.aload_n 0, 1) := by decide +kernel
theorem dX8_cut_26 : decode cX8_cut 26 = .ok (.getfield 115, 3) := by decide +kernel
theorem dX8_cut_29 : decode cX8_cut 29 = .ok (.if_icmp .ge 18, 3) := by decide +kernel
theorem dX8_cut_32 : decode cX8_cut 32 = .ok (.iload_n 2, 1) := by decide +kernel
theorem dX8_cut_33 : decode cX8_cut 33 = .ok (.aload_n 0, 1) := by decide +kernel
theorem dX8_cut_34 : decode cX8_cut 34 = .ok (.getfield 16, 3) := by decide +kernel
theorem dX8_cut_37 : decode cX8_cut 37 = .ok (.iconst 2, 1) := by decide +kernel
theorem dX8_cut_38 : decode cX8_cut 38 = .ok (.iaload, 1) := by decide +kernel
theorem dX8_cut_39 : decode cX8_cut 39 = .ok (.imul, 1) := by decide +kernel
theorem dX8_cut_40 : decode cX8_cut 40 = .ok (.istore_n 2, 1) := by decide +kernel
theorem dX8_cut_41 : decode cX8_cut 41 = .ok (.iinc 3 1, 3) := by decide +kernel
theorem dX8_cut_44 : decode cX8_cut 44 = .ok (.goto (-20), 3) := by decide +kernel
theorem dX8_cut_47 : decode cX8_cut 47 = .ok (.bipush 99, 2) := by decide +kernel
theorem dX8_cut_49 : decode cX8_cut 49 = .ok (.istore_n 3, 1) := by decide +kernel
theorem dX8_cut_50 : decode cX8_cut 50 = .ok (.iconst 0, 1) := by decide +kernel
theorem dX8_cut_51 : decode cX8_cut 51 = .ok (.istore 4, 2) := by decide +kernel
theorem dX8_cut_53 : decode cX8_cut 53 = .ok (.iconst 0, 1) := by decide +kernel
theorem dX8_cut_54 : decode cX8_cut 54 = .ok (.istore 5, 2) := by decide +kernel
theorem dX8_cut_56 : decode cX8_cut 56 = .ok (.iload 5, 2) := by decide +kernel
theorem dX8_cut_58 : decode cX8_cut 58 = .ok (.iload_n 2, 1) := by decide +kernel
theorem dX8_cut_59 : decode cX8_cut 59 = .ok (.if_icmp .ge 294, 3) := by decide +kernel
theorem dX8_cut_62 : decode cX8_cut 62 = .ok (.iconst 0, 1) := by decide +kernel
theorem dX8_cut_63 : decode cX8_cut 63 = .ok (.istore 6, 2) := by decide +kernel
theorem dX8_cut_65 : decode cX8_cut 65 = .ok (.iload 6, 2) := by decide +kernel
theorem dX8_cut_67 : decode cX8_cut 67 = .ok (.aload_n 0, 1) := by decide +kernel
theorem dX8_cut_68 : decode cX8_cut 68 = .ok (.getfield 16, 3) := by decide +kernel
theorem dX8_cut_71 : decode cX8_cut 71 = .ok (.iconst 2, 1) := by decide +kernel
theorem dX8_cut_72 : decode cX8_cut 72 = .ok (.iaload, 1) := by decide +kernel
theorem dX8_cut_73 : decode cX8_cut 73 = .ok (.if_icmp .ge 35, 3) := by decide +kernel
theorem dX8_cut_76 : decode cX8_cut 76 = .ok (.aload_n 0, 1) := by decide +kernel
theorem dX8_cut_77 : decode cX8_cut 77 = .ok (.getfield 34, 3) := by decide +kernel
theorem dX8_cut_80 : decode cX8_cut 80 = .ok (.iload 6, 2) := by decide +kernel
theorem dX8_cut_82 : decode cX8_cut 82 = .ok (.aload_n 0, 1) := by decide +kernel
theorem dX8_cut_83 : decode cX8_cut 83 = .ok (.iload 6, 2) := by decide +kernel
theorem dX8_cut_85 : decode cX8_cut 85 = .ok (.invokevirtual 145, 3) := by decide +kernel
theorem dX8_cut_88 : decode cX8_cut 88 = .ok (.ifCond .eq 7, 3) := by decide +kernel
theorem dX8_cut_91 : decode cX8_cut 91 = .ok (.iconst (-1), 1) := by decide +kernel
theorem dX8_cut_92 : decode cX8_cut 92 = .ok (.goto 9, 3) := by decide +kernel
theorem dX8_cut_95 : decode cX8_cut 95 = .ok (.aload_n 0, 1) := by decide +kernel
theorem dX8_cut_96 : decode cX8_cut 96 = .ok (.iload 6, 2) := by decide +kernel
theorem dX8_cut_98 : decode cX8_cut 98 = .ok (.invokevirtual 151, 3) := by decide +kernel
theorem dX8_cut_101 : decode cX8_cut 101 = .ok (.iastore, 1) := by decide +kernel
theorem dX8_cut_102 : decode cX8_cut 102 = .ok (.iinc 6 1, 3) := by decide +kernel
theorem dX8_cut_105 : decode cX8_cut 105 = .ok (.goto (-40), 3) := by decide +kernel
theorem dX8_cut_108 : decode cX8_cut 108 = .ok (.iconst 0, 1) := by decide +kernel
theorem dX8_cut_109 : decode cX8_cut 109 = .ok (.istore 6, 2) := by decide +kernel
theorem dX8_cut_111 : decode cX8_cut 111 = .ok (.iload 5, 2) := by decide +kernel
theorem dX8_cut_113 : decode cX8_cut 113 = .ok (.istore 7, 2) := by decide +kernel
theorem dX8_cut_115 : decode cX8_cut 115 = .ok (.iconst 1, 1) := by decide +kernel
theorem dX8_cut_116 : decode cX8_cut 116 = .ok (.istore 8, 2) := by decide +kernel
theorem dX8_cut_118 : decode cX8_cut 118 = .ok (.aload_n 0, 1) := by decide +kernel
theorem dX8_cut_119 : decode cX8_cut 119 = .ok (.getfield 115, 3) := by decide +kernel
theorem dX8_cut_122 : decode cX8_cut 122 = .ok (.iconst 1, 1) := by decide +kernel
theorem dX8_cut_123 : decode cX8_cut 123 = .ok (.isub, 1) := by decide +kernel
theorem dX8_cut_124 : decode cX8_cut 124 = .ok (.istore 9, 2) := by decide +kernel
theorem dX8_cut_126 : decode cX8_cut 126 = .ok (.iload 9, 2) := by decide +kernel
theorem dX8_cut_128 : decode cX8_cut 128 = .ok (.ifCond .lt 79, 3) := by decide +kernel
theorem dX8_cut_131 : decode cX8_cut 131 = .ok (.iload 8, 2) := by decide +kernel
theorem dX8_cut_133 : decode cX8_cut 133 = .ok (.ifCond .eq 74, 3) := by decide +kernel
theorem dX8_cut_136 : decode cX8_cut 136 = .ok (.iload 7, 2) := by decide +kernel
theorem dX8_cut_138 : decode cX8_cut 138 = .ok (.aload_n 0, 1) := by decide +kernel
theorem dX8_cut_139 : decode cX8_cut 139 = .ok (.getfield 16, 3) := by decide +kernel
theorem dX8_cut_142 : decode cX8_cut 142 = .ok (.iconst 2, 1) := by decide +kernel
theorem dX8_cut_143 : decode cX8_cut 143 = .ok (.iaload, 1) := by decide +kernel
theorem dX8_cut_144 : decode cX8_cut 144 = .ok (.irem, 1) := by decide +kernel
theorem dX8_cut_145 : decode cX8_cut 145 = .ok (.istore 10, 2) := by decide +kernel
theorem dX8_cut_147 : decode cX8_cut 147 = .ok (.iload 7, 2) := by decide +kernel
theorem dX8_cut_149 : decode cX8_cut 149 = .ok (.aload_n 0, 1) := by decide +kernel
theorem dX8_cut_150 : decode cX8_cut 150 = .ok (.getfield 16, 3) := by decide +kernel
theorem dX8_cut_153 : decode cX8_cut 153 = .ok (.iconst 2, 1) := by decide +kernel
theorem dX8_cut_154 : decode cX8_cut 154 = .ok (.iaload, 1) := by decide +kernel
theorem dX8_cut_155 : decode cX8_cut 155 = .ok (.idiv, 1) := by decide +kernel
theorem dX8_cut_156 : decode cX8_cut 156 = .ok (.istore 7, 2) := by decide +kernel
theorem dX8_cut_158 : decode cX8_cut 158 = .ok (.aload_n 0, 1) := by decide +kernel
theorem dX8_cut_159 : decode cX8_cut 159 = .ok (.getfield 34, 3) := by decide +kernel
theorem dX8_cut_162 : decode cX8_cut 162 = .ok (.iload 10, 2) := by decide +kernel
theorem dX8_cut_164 : decode cX8_cut 164 = .ok (.dup2, 1) := by decide +kernel
theorem dX8_cut_165 : decode cX8_cut 165 = .ok (.iaload, 1) := by decide +kernel
theorem dX8_cut_166 : decode cX8_cut 166 = .ok (.aload_n 0, 1) := by decide +kernel
theorem dX8_cut_167 : decode cX8_cut 167 = .ok (.getfield 28, 3) := by decide +kernel
theorem dX8_cut_170 : decode cX8_cut 170 = .ok (.iload 9, 2) := by decide +kernel
theorem dX8_cut_172 : decode cX8_cut 172 = .ok (.iaload, 1) := by decide +kernel
theorem dX8_cut_173 : decode cX8_cut 173 = .ok (.isub, 1) := by decide +kernel
theorem dX8_cut_174 : decode cX8_cut 174 = .ok (.iastore, 1) := by decide +kernel
theorem dX8_cut_175 : decode cX8_cut 175 = .ok (.iload 6, 2) := by decide +kernel
theorem dX8_cut_177 : decode cX8_cut 177 = .ok (.iconst 1, 1) := by decide +kernel
theorem dX8_cut_178 : decode cX8_cut 178 = .ok (.iload 10, 2) := by decide +kernel
theorem dX8_cut_180 : decode cX8_cut 180 = .ok (.ishl, 1) := by decide +kernel
theorem dX8_cut_181 : decode cX8_cut 181 = .ok (.ior, 1) := by decide +kernel
theorem dX8_cut_182 : decode cX8_cut 182 = .ok (.istore 6, 2) := by decide +kernel
theorem dX8_cut_184 : decode cX8_cut 184 = .ok (.aload_n 0, 1) := by decide +kernel
theorem dX8_cut_185 : decode cX8_cut 185 = .ok (.getfield 34, 3) := by decide +kernel
theorem dX8_cut_188 : decode cX8_cut 188 = .ok (.iload 10, 2) := by decide +kernel
theorem dX8_cut_190 : decode cX8_cut 190 = .ok (.iaload, 1) := by decide +kernel
theorem dX8_cut_191 : decode cX8_cut 191 = .ok (.ifCond .lt 7, 3) := by decide +kernel
theorem dX8_cut_194 : decode cX8_cut 194 = .ok (.iconst 1, 1) := by decide +kernel
theorem dX8_cut_195 : decode cX8_cut 195 = .ok (.goto 4, 3) := by decide +kernel
theorem dX8_cut_198 : decode cX8_cut 198 = .ok (.iconst 0, 1) := by decide +kernel
theorem dX8_cut_199 : decode cX8_cut 199 = .ok (.istore 8, 2) := by decide +kernel
theorem dX8_cut_201 : decode cX8_cut 201 = .ok (.iinc 9 (-1), 3) := by decide +kernel
theorem dX8_cut_204 : decode cX8_cut 204 = .ok (.goto (-78), 3) := by decide +kernel
theorem dX8_cut_207 : decode cX8_cut 207 = .ok (.iconst 0, 1) := by decide +kernel
theorem dX8_cut_208 : decode cX8_cut 208 = .ok (.istore 9, 2) := by decide +kernel
theorem dX8_cut_210 : decode cX8_cut 210 = .ok (.iconst 0, 1) := by decide +kernel
theorem dX8_cut_211 : decode cX8_cut 211 = .ok (.istore 10, 2) := by decide +kernel
theorem dX8_cut_213 : decode cX8_cut 213 = .ok (.iload 10, 2) := by decide +kernel
theorem dX8_cut_215 : decode cX8_cut 215 = .ok (.aload_n 0, 1) := by decide +kernel
theorem dX8_cut_216 : decode cX8_cut 216 = .ok (.getfield 16, 3) := by decide +kernel
theorem dX8_cut_219 : decode cX8_cut 219 = .ok (.iconst 2, 1) := by decide +kernel
theorem dX8_cut_220 : decode cX8_cut 220 = .ok (.iaload, 1) := by decide +kernel
theorem dX8_cut_221 : decode cX8_cut 221 = .ok (.if_icmp .ge 36, 3) := by decide +kernel
theorem dX8_cut_224 : decode cX8_cut 224 = .ok (.iload 9, 2) := by decide +kernel
theorem dX8_cut_226 : decode cX8_cut 226 = .ok (.iload 6, 2) := by decide +kernel
theorem dX8_cut_228 : decode cX8_cut 228 = .ok (.iload 10, 2) := by decide +kernel
theorem dX8_cut_230 : decode cX8_cut 230 = .ok (.ishr, 1) := by decide +kernel
theorem dX8_cut_231 : decode cX8_cut 231 = .ok (.iconst 1, 1) := by decide +kernel
theorem dX8_cut_232 : decode cX8_cut 232 = .ok (.iand, 1) := by decide +kernel
theorem dX8_cut_233 : decode cX8_cut 233 = .ok (.iconst 1, 1) := by decide +kernel
theorem dX8_cut_234 : decode cX8_cut 234 = .ok (.if_icmp .ne 13, 3) := by decide +kernel
theorem dX8_cut_237 : decode cX8_cut 237 = .ok (.aload_n 0, 1) := by decide +kernel
theorem dX8_cut_238 : decode cX8_cut 238 = .ok (.getfield 34, 3) := by decide +kernel
theorem dX8_cut_241 : decode cX8_cut 241 = .ok (.iload 10, 2) := by decide +kernel
theorem dX8_cut_243 : decode cX8_cut 243 = .ok (.iaload, 1) := by decide +kernel
theorem dX8_cut_244 : decode cX8_cut 244 = .ok (.goto 4, 3) := by decide +kernel
theorem dX8_cut_247 : decode cX8_cut 247 = .ok (.iconst 0, 1) := by decide +kernel
theorem dX8_cut_248 : decode cX8_cut 248 = .ok (.iadd, 1) := by decide +kernel
theorem dX8_cut_249 : decode cX8_cut 249 = .ok (.istore 9, 2) := by decide +kernel
theorem dX8_cut_251 : decode cX8_cut 251 = .ok (.iinc 10 1, 3) := by decide +kernel
theorem dX8_cut_254 : decode cX8_cut 254 = .ok (.goto (-41), 3) := by decide +kernel
theorem dX8_cut_257 : decode cX8_cut 257 = .ok (.iload 8, 2) := by decide +kernel
theorem dX8_cut_259 : decode cX8_cut 259 = .ok (.ifCond .eq 88, 3) := by decide +kernel
theorem dX8_cut_262 : decode cX8_cut 262 = .ok (.iload 6, 2) := by decide +kernel
theorem dX8_cut_264 : decode cX8_cut 264 = .ok (.invokestatic 184, 3) := by decide +kernel
theorem dX8_cut_267 : decode cX8_cut 267 = .ok (.iload_n 3, 1) := by decide +kernel
theorem dX8_cut_268 : decode cX8_cut 268 = .ok (.if_icmp .lt 19, 3) := by decide +kernel
theorem dX8_cut_271 : decode cX8_cut 271 = .ok (.iload 6, 2) := by decide +kernel
theorem dX8_cut_273 : decode cX8_cut 273 = .ok (.invokestatic 184, 3) := by decide +kernel
theorem dX8_cut_276 : decode cX8_cut 276 = .ok (.iload_n 3, 1) := by decide +kernel
theorem dX8_cut_277 : decode cX8_cut 277 = .ok (.if_icmp .ne 70, 3) := by decide +kernel
theorem dX8_cut_280 : decode cX8_cut 280 = .ok (.iload 9, 2) := by decide +kernel
theorem dX8_cut_282 : decode cX8_cut 282 = .ok (.iload 4, 2) := by decide +kernel
theorem dX8_cut_284 : decode cX8_cut 284 = .ok (.if_icmp .ge 63, 3) := by decide +kernel
theorem dX8_cut_287 : decode cX8_cut 287 = .ok (.iload 6, 2) := by decide +kernel
theorem dX8_cut_289 : decode cX8_cut 289 = .ok (.invokestatic 184, 3) := by decide +kernel
theorem dX8_cut_292 : decode cX8_cut 292 = .ok (.istore_n 3, 1) := by decide +kernel
theorem dX8_cut_293 : decode cX8_cut 293 = .ok (.iload 9, 2) := by decide +kernel
theorem dX8_cut_295 : decode cX8_cut 295 = .ok (.istore 4, 2) := by decide +kernel
theorem dX8_cut_297 : decode cX8_cut 297 = .ok (.iload 5, 2) := by decide +kernel
theorem dX8_cut_299 : decode cX8_cut 299 = .ok (.istore 7, 2) := by decide +kernel
theorem dX8_cut_301 : decode cX8_cut 301 = .ok (.aload_n 0, 1) := by decide +kernel
theorem dX8_cut_302 : decode cX8_cut 302 = .ok (.getfield 115, 3) := by decide +kernel
theorem dX8_cut_305 : decode cX8_cut 305 = .ok (.iconst 1, 1) := by decide +kernel
theorem dX8_cut_306 : decode cX8_cut 306 = .ok (.isub, 1) := by decide +kernel
theorem dX8_cut_307 : decode cX8_cut 307 = .ok (.istore 10, 2) := by decide +kernel
theorem dX8_cut_309 : decode cX8_cut 309 = .ok (.iload 10, 2) := by decide +kernel
theorem dX8_cut_311 : decode cX8_cut 311 = .ok (.ifCond .lt 36, 3) := by decide +kernel
theorem dX8_cut_314 : decode cX8_cut 314 = .ok (.aload_n 0, 1) := by decide +kernel
theorem dX8_cut_315 : decode cX8_cut 315 = .ok (.getfield 31, 3) := by decide +kernel
theorem dX8_cut_318 : decode cX8_cut 318 = .ok (.iload 10, 2) := by decide +kernel
theorem dX8_cut_320 : decode cX8_cut 320 = .ok (.iload 7, 2) := by decide +kernel
theorem dX8_cut_322 : decode cX8_cut 322 = .ok (.aload_n 0, 1) := by decide +kernel
theorem dX8_cut_323 : decode cX8_cut 323 = .ok (.getfield 16, 3) := by decide +kernel
theorem dX8_cut_326 : decode cX8_cut 326 = .ok (.iconst 2, 1) := by decide +kernel
theorem dX8_cut_327 : decode cX8_cut 327 = .ok (.iaload, 1) := by decide +kernel
theorem dX8_cut_328 : decode cX8_cut 328 = .ok (.irem, 1) := by decide +kernel
theorem dX8_cut_329 : decode cX8_cut 329 = .ok (.iastore, 1) := by decide +kernel
theorem dX8_cut_330 : decode cX8_cut 330 = .ok (.iload 7, 2) := by decide +kernel
theorem dX8_cut_332 : decode cX8_cut 332 = .ok (.aload_n 0, 1) := by decide +kernel
theorem dX8_cut_333 : decode cX8_cut 333 = .ok (.getfield 16, 3) := by decide +kernel
theorem dX8_cut_336 : decode cX8_cut 336 = .ok (.iconst 2, 1) := by decide +kernel
theorem dX8_cut_337 : decode cX8_cut 337 = .ok (.iaload, 1) := by decide +kernel
theorem dX8_cut_338 : decode cX8_cut 338 = .ok (.idiv, 1) := by decide +kernel
theorem dX8_cut_339 : decode cX8_cut 339 = .ok (.istore 7, 2) := by decide +kernel
theorem dX8_cut_341 : decode cX8_cut 341 = .ok (.iinc 10 (-1), 3) := by decide +kernel
theorem dX8_cut_344 : decode cX8_cut 344 = .ok (.goto (-35), 3) := by decide +kernel
theorem dX8_cut_347 : decode cX8_cut 347 = .ok (.iinc 5 1, 3) := by decide +kernel
theorem dX8_cut_350 : decode cX8_cut 350 = .ok (.goto (-294), 3) := by decide +kernel
theorem dX8_cut_353 : decode cX8_cut 353 = .ok (.iload_n 3, 1) := by decide +kernel
theorem dX8_cut_354 : decode cX8_cut 354 = .ok (.bipush 99, 2) := by decide +kernel
theorem dX8_cut_356 : decode cX8_cut 356 = .ok (.if_icmp .ne 8, 3) := by decide +kernel
theorem dX8_cut_359 : decode cX8_cut 359 = .ok (.bipush (-9), 2) := by decide +kernel
theorem dX8_cut_361 : decode cX8_cut 361 = .ok (.goto 29, 3) := by decide +kernel
theorem dX8_cut_364 : decode cX8_cut 364 = .ok (.iload_n 1, 1) := by decide +kernel
theorem dX8_cut_365 : decode cX8_cut 365 = .ok (.iconst (-1), 1) := by decide +kernel
theorem dX8_cut_366 : decode cX8_cut 366 = .ok (.if_icmp .ne 7, 3) := by decide +kernel
theorem dX8_cut_369 : decode cX8_cut 369 = .ok (.iload_n 3, 1) := by decide +kernel
theorem dX8_cut_370 : decode cX8_cut 370 = .ok (.goto 20, 3) := by decide +kernel
theorem dX8_cut_373 : decode cX8_cut 373 = .ok (.iload_n 1, 1) := by decide +kernel
theorem dX8_cut_374 : decode cX8_cut 374 = .ok (.bipush (-2), 2) := by decide +kernel
theorem dX8_cut_376 : decode cX8_cut 376 = .ok (.if_icmp .ne 8, 3) := by decide +kernel
theorem dX8_cut_379 : decode cX8_cut 379 = .ok (.iload 4, 2) := by decide +kernel
theorem dX8_cut_381 : decode cX8_cut 381 = .ok (.goto 9, 3) := by decide +kernel
theorem dX8_cut_384 : decode cX8_cut 384 = .ok (.aload_n 0, 1) := by decide +kernel
theorem dX8_cut_385 : decode cX8_cut 385 = .ok (.getfield 31, 3) := by decide +kernel
theorem dX8_cut_388 : decode cX8_cut 388 = .ok (.iload_n 1, 1) := by decide +kernel
theorem dX8_cut_389 : decode cX8_cut 389 = .ok (.iaload, 1) := by decide +kernel
theorem dX8_cut_390 : decode cX8_cut 390 = .ok (.ireturn, 1) := by decide +kernel
set_option maxRecDepth 20000 in
theorem ggX8_shown_X8_isRoom : GoodIn wsX8_shown wsX8_isRoom := goodIn_r _ [7, 1, 8, 9, 6, 10, 15, 16, 17, 18, 19, 20, 21, 22, 23, 24, 25, 26, 27, 28, 29, 30, 31, 32] (by decide +kernel) (by decide +kernel)
set_option maxRecDepth 20000 in
theorem gX8_shown_X8_isRoom : GoodIn wsX8_shown (wsV RX8 136 RX8 yX8_isRoom wsX8_isRoom) := goodIn_app (goodIn_of _ (by decide +kernel)) ggX8_shown_X8_isRoom
set_option maxRecDepth 20000 in
theorem ggX8_shown_X8_in : GoodIn wsX8_shown wsX8_in := goodIn_r _ [10] (by decide +kernel) (by decide +kernel)
set_option maxRecDepth 20000 in
theorem gX8_shown_X8_in : GoodIn wsX8_shown (va_wsS RX8 48 yX8_in wsX8_in) := goodIn_app (goodIn_of _ (by decide +kernel)) ggX8_shown_X8_in
set_option maxRecDepth 20000 in
theorem ggX8_shown_X8_left : GoodIn wsX8_shown wsX8_left := goodIn_r _ [14, 2, 15, 16, 17, 18, 19, 20, 21, 22, 23, 24, 25, 26, 27, 28, 29, 30, 31, 32] (by decide +kernel) (by decide +kernel)
set_option maxRecDepth 20000 in
theorem gX8_shown_X8_left : GoodIn wsX8_shown (wsV RX8 151 RX8 yX8_left wsX8_left) := goodIn_app (goodIn_of _ (by decide +kernel)) ggX8_shown_X8_left
theorem dX8_shown_0 : decode cX8_shown 0 = .ok (.aload_n 0, 1) := by decide +kernel
theorem dX8_shown_1 : decode cX8_shown 1 = .ok (.iload_n 1, 1) := by decide +kernel
theorem dX8_shown_2 : decode cX8_shown 2 = .ok (.invokevirtual 136, 3) := by decide +kernel
theorem dX8_shown_5 : decode cX8_shown 5 = .ok (.ifCond .eq 13, 3) := by decide +kernel
theorem dX8_shown_8 : decode cX8_shown 8 = .ok (.iload_n 2, 1) := by decide +kernel
theorem dX8_shown_9 : decode cX8_shown 9 = .ok (.i2l, 1) := by decide +kernel
theorem dX8_shown_10 : decode cX8_shown 10 = .ok (.lconst 0, 1) := by decide +kernel
theorem dX8_shown_11 : decode cX8_shown 11 = .ok (.lconst 1, 1) := by decide +kernel
theorem dX8_shown_12 : decode cX8_shown 12 = .ok (.invokestatic 48, 3) := by decide +kernel
theorem dX8_shown_15 : decode cX8_shown 15 = .ok (.ifCond .ne 5, 3) := by decide +kernel
theorem dX8_shown_18 : decode cX8_shown 18 = .ok (.iconst (-1), 1) := by decide +kernel
theorem dX8_shown_19 : decode cX8_shown 19 = .ok (.ireturn, 1) := by decide +kernel
theorem dX8_shown_20 : decode cX8_shown 20 = .ok (.iconst 0, 1) := by decide +kernel
theorem dX8_shown_21 : decode cX8_shown 21 = .ok (.istore_n 3, 1) := by decide +kernel
theorem dX8_shown_22 : decode cX8_shown 22 = .ok (.bipush (-9), 2) := by decide +kernel
theorem dX8_shown_24 : decode cX8_shown 24 = .ok (.istore 4, 2) := by decide +kernel
theorem dX8_shown_26 : decode cX8_shown 26 = .ok (.iconst 0, 1) := by decide +kernel
theorem dX8_shown_27 : decode cX8_shown 27 = .ok (.istore 5, 2) := by decide +kernel
theorem dX8_shown_29 : decode cX8_shown 29 = .ok (.iload 5, 2) := by decide +kernel
theorem dX8_shown_31 : decode cX8_shown 31 = .ok (.iconst 1, 1) := by decide +kernel
theorem dX8_shown_32 : decode cX8_shown 32 = .ok (.aload_n 0, 1) := by decide +kernel
theorem dX8_shown_33 : decode cX8_shown 33 = .ok (.getfield 16, 3) := by decide +kernel
theorem dX8_shown_36 : decode cX8_shown 36 = .ok (.iconst 2, 1) := by decide +kernel
theorem dX8_shown_37 : decode cX8_shown 37 = .ok (.iaload, 1) := by decide +kernel
theorem dX8_shown_38 : decode cX8_shown 38 = .ok (.ishl, 1) := by decide +kernel
theorem dX8_shown_39 : decode cX8_shown 39 = .ok (.if_icmp .ge 123, 3) := by decide +kernel
theorem dX8_shown_42 : decode cX8_shown 42 = .ok (.iconst 0, 1) := by decide +kernel
theorem dX8_shown_43 : decode cX8_shown 43 = .ok (.istore 6, 2) := by decide +kernel
theorem dX8_shown_45 : decode cX8_shown 45 = .ok (.iconst 0, 1) := by decide +kernel
theorem dX8_shown_46 : decode cX8_shown 46 = .ok (.istore 7, 2) := by decide +kernel
theorem dX8_shown_48 : decode cX8_shown 48 = .ok (.iload 7, 2) := by decide +kernel
theorem dX8_shown_50 : decode cX8_shown 50 = .ok (.aload_n 0, 1) := by decide +kernel
theorem dX8_shown_51 : decode cX8_shown 51 = .ok (.getfield 16, 3) := by decide +kernel
theorem dX8_shown_54 : decode cX8_shown 54 = .ok (.iconst 2, 1) := by decide +kernel
theorem dX8_shown_55 : decode cX8_shown 55 = .ok (.iaload, 1) := by decide +kernel
theorem dX8_shown_56 : decode cX8_shown 56 = .ok (.if_icmp .ge 48, 3) := by decide +kernel
theorem dX8_shown_59 : decode cX8_shown 59 = .ok (.iload 6, 2) := by decide +kernel
theorem dX8_shown_61 : decode cX8_shown 61 = .ok (.iload 5, 2) := by decide +kernel
theorem dX8_shown_63 : decode cX8_shown 63 = .ok (.iload 7, 2) := by decide +kernel
theorem dX8_shown_65 : decode cX8_shown 65 = .ok (.ishr, 1) := by decide +kernel
theorem dX8_shown_66 : decode cX8_shown 66 = .ok (.iconst 1, 1) := by decide +kernel
theorem dX8_shown_67 : decode cX8_shown 67 = .ok (.iand, 1) := by decide +kernel
theorem dX8_shown_68 : decode cX8_shown 68 = .ok (.iconst 1, 1) := by decide +kernel
theorem dX8_shown_69 : decode cX8_shown 69 = .ok (.if_icmp .ne 25, 3) := by decide +kernel
theorem dX8_shown_72 : decode cX8_shown 72 = .ok (.aload_n 0, 1) := by decide +kernel
theorem dX8_shown_73 : decode cX8_shown 73 = .ok (.getfield 16, 3) := by decide +kernel
theorem dX8_shown_76 : decode cX8_shown 76 = .ok (.bipush 15, 2) := by decide +kernel
theorem dX8_shown_78 : decode cX8_shown 78 = .ok (.iconst 2, 1) := by decide +kernel
theorem dX8_shown_79 : decode cX8_shown 79 = .ok (.iload 7, 2) := by decide +kernel
theorem dX8_shown_81 : decode cX8_shown 81 = .ok (.imul, 1) := by decide +kernel
theorem dX8_shown_82 : decode cX8_shown 82 = .ok (.iadd, 1) := by decide +kernel
theorem dX8_shown_83 : decode cX8_shown 83 = .ok (.iaload, 1) := by decide +kernel
theorem dX8_shown_84 : decode cX8_shown 84 = .ok (.aload_n 0, 1) := by decide +kernel
theorem dX8_shown_85 : decode cX8_shown 85 = .ok (.iload 7, 2) := by decide +kernel
theorem dX8_shown_87 : decode cX8_shown 87 = .ok (.invokevirtual 151, 3) := by decide +kernel
theorem dX8_shown_90 : decode cX8_shown 90 = .ok (.isub, 1) := by decide +kernel
theorem dX8_shown_91 : decode cX8_shown 91 = .ok (.goto 4, 3) := by decide +kernel
theorem dX8_shown_94 : decode cX8_shown 94 = .ok (.iconst 0, 1) := by decide +kernel
theorem dX8_shown_95 : decode cX8_shown 95 = .ok (.iadd, 1) := by decide +kernel
theorem dX8_shown_96 : decode cX8_shown 96 = .ok (.istore 6, 2) := by decide +kernel
theorem dX8_shown_98 : decode cX8_shown 98 = .ok (.iinc 7 1, 3) := by decide +kernel
theorem dX8_shown_101 : decode cX8_shown 101 = .ok (.goto (-53), 3) := by decide +kernel
theorem dX8_shown_104 : decode cX8_shown 104 = .ok (.iload 6, 2) := by decide +kernel
theorem dX8_shown_106 : decode cX8_shown 106 = .ok (.aload_n 0, 1) := by decide +kernel
theorem dX8_shown_107 : decode cX8_shown 107 = .ok (.getfield 19, 3) := by decide +kernel
theorem dX8_shown_110 : decode cX8_shown 110 = .ok (.bipush 42, 2) := by decide +kernel
theorem dX8_shown_112 : decode cX8_shown 112 = .ok (.iload_n 1, 1) := by decide +kernel
theorem dX8_shown_113 : decode cX8_shown 113 = .ok (.iadd, 1) := by decide +kernel
theorem dX8_shown_114 : decode cX8_shown 114 = .ok (.iaload, 1) := by decide +kernel
theorem dX8_shown_115 : decode cX8_shown 115 = .ok (.if_icmp .ne 7, 3) := by decide +kernel
theorem dX8_shown_118 : decode cX8_shown 118 = .ok (.iconst 1, 1) := by decide +kernel
theorem dX8_shown_119 : decode cX8_shown 119 = .ok (.goto 4, 3) := by decide +kernel
theorem dX8_shown_122 : decode cX8_shown 122 = .ok (.iconst 0, 1) := by decide +kernel
theorem dX8_shown_123 : decode cX8_shown 123 = .ok (.istore 7, 2) := by decide +kernel
theorem dX8_shown_125 : decode cX8_shown 125 = .ok (.iload 7, 2) := by decide +kernel
theorem dX8_shown_127 : decode cX8_shown 127 = .ok (.ifCond .eq 12, 3) := by decide +kernel
theorem dX8_shown_130 : decode cX8_shown 130 = .ok (.iload_n 3, 1) := by decide +kernel
theorem dX8_shown_131 : decode cX8_shown 131 = .ok (.ifCond .ne 8, 3) := by decide +kernel
theorem dX8_shown_134 : decode cX8_shown 134 = .ok (.iload 5, 2) := by decide +kernel
theorem dX8_shown_136 : decode cX8_shown 136 = .ok (.goto 5, 3) := by decide +kernel
theorem dX8_shown_139 : decode cX8_shown 139 = .ok (.iload 4, 2) := by decide +kernel
theorem dX8_shown_141 : decode cX8_shown 141 = .ok (.istore 4, 2) := by decide +kernel
theorem dX8_shown_143 : decode cX8_shown 143 = .ok (.iload_n 3, 1) := by decide +kernel
theorem dX8_shown_144 : decode cX8_shown 144 = .ok (.iload 7, 2) := by decide +kernel
theorem dX8_shown_146 : decode cX8_shown 146 = .ok (.ifCond .eq 7, 3) := by decide +kernel
theorem dX8_shown_149 : decode cX8_shown 149 = .ok (.iconst 1, 1) := by decide +kernel
theorem dX8_shown_150 : decode cX8_shown 150 = .ok (.goto 4, 3) := by decide +kernel
theorem dX8_shown_153 : decode cX8_shown 153 = .ok (.iconst 0, 1) := by decide +kernel
theorem dX8_shown_154 : decode cX8_shown 154 = .ok (.iadd, 1) := by decide +kernel
theorem dX8_shown_155 : decode cX8_shown 155 = .ok (.istore_n 3, 1) := by decide +kernel
theorem dX8_shown_156 : decode cX8_shown 156 = .ok (.iinc 5 1, 3) := by decide +kernel
theorem dX8_shown_159 : decode cX8_shown 159 = .ok (.goto (-130), 3) := by decide +kernel
theorem dX8_shown_162 : decode cX8_shown 162 = .ok (.iload_n 2, 1) := by decide +kernel
theorem dX8_shown_163 : decode cX8_shown 163 = .ok (.ifCond .ne 7, 3) := by decide +kernel
theorem dX8_shown_166 : decode cX8_shown 166 = .ok (.iload_n 3, 1) := by decide +kernel
theorem dX8_shown_167 : decode cX8_shown 167 = .ok (.goto 5, 3) := by decide +kernel
theorem dX8_shown_170 : decode cX8_shown 170 = .ok (.iload 4, 2) := by decide +kernel
theorem dX8_shown_172 : decode cX8_shown 172 = .ok (.ireturn, 1) := by decide +kernel
set_option maxRecDepth 20000 in
theorem ggX8_odds_X8_isAct : GoodIn wsX8_odds wsX8_isAct := goodIn_r _ [8, 9, 10, 11, 7, 12, 54, 55, 56, 57, 58, 59, 60, 61, 62, 63, 64, 65, 66, 67, 68, 69, 70, 71] (by decide +kernel) (by decide +kernel)
set_option maxRecDepth 20000 in
theorem gX8_odds_X8_isAct : GoodIn wsX8_odds (wsV RX8 131 RX8 yX8_isAct wsX8_isAct) := goodIn_app (goodIn_of _ (by decide +kernel)) ggX8_odds_X8_isAct
set_option maxRecDepth 20000 in
theorem ggX8_odds_X8_in : GoodIn wsX8_odds wsX8_in := goodIn_r _ [12] (by decide +kernel) (by decide +kernel)
set_option maxRecDepth 20000 in
theorem gX8_odds_X8_in : GoodIn wsX8_odds (va_wsS RX8 48 yX8_in wsX8_in) := goodIn_app (goodIn_of _ (by decide +kernel)) ggX8_odds_X8_in
set_option maxRecDepth 20000 in
theorem ggX8_odds_X8_isOver : GoodIn wsX8_odds wsX8_isOver := goodIn_r _ [16, 3, 54, 55, 56, 57, 58, 59, 60, 61, 62, 63, 64, 65, 66, 67, 68, 69, 70, 71] (by decide +kernel) (by decide +kernel)
set_option maxRecDepth 20000 in
theorem gX8_odds_X8_isOver : GoodIn wsX8_odds (wsV RX8 190 RX8 yX8_isOver wsX8_isOver) := goodIn_app (goodIn_of _ (by decide +kernel)) ggX8_odds_X8_isOver
set_option maxRecDepth 20000 in
theorem ggX8_odds_X8_asides : GoodIn wsX8_odds wsX8_asides := goodIn_r _ [20, 21, 3, 54, 55, 56, 57, 58, 59, 60, 61, 62, 63, 64, 65, 66, 67, 68, 69, 70, 71] (by decide +kernel) (by decide +kernel)
set_option maxRecDepth 20000 in
theorem gX8_odds_X8_asides : GoodIn wsX8_odds (wsV RX8 176 RX8 yX8_asides wsX8_asides) := goodIn_app (goodIn_of _ (by decide +kernel)) ggX8_odds_X8_asides
set_option maxRecDepth 20000 in
theorem ggX8_odds_X8_goesOn : GoodIn wsX8_odds wsX8_goesOn := goodIn_r _ [25, 9, 3, 26, 27, 28, 7, 29, 30, 31, 32, 33, 34, 35, 36, 37, 38, 39, 40, 41, 42, 43, 44, 45, 54, 55, 56, 57, 58, 59, 60, 61, 62, 63, 64, 65, 66, 67, 68, 69, 70, 71] (by decide +kernel) (by decide +kernel)
set_option maxRecDepth 20000 in
theorem gX8_odds_X8_goesOn : GoodIn wsX8_odds (wsV RX8 169 RX8 yX8_goesOn wsX8_goesOn) := goodIn_app (goodIn_of _ (by decide +kernel)) ggX8_odds_X8_goesOn
set_option maxRecDepth 20000 in
theorem ggX8_odds_X8_isWind : GoodIn wsX8_odds wsX8_isWind := goodIn_r _ [49, 9, 54, 55, 56, 57, 58, 59, 60, 61, 62, 63, 64, 65, 66, 67, 68, 69, 70, 71] (by decide +kernel) (by decide +kernel)
set_option maxRecDepth 20000 in
theorem gX8_odds_X8_isWind : GoodIn wsX8_odds (wsV RX8 166 RX8 yX8_isWind wsX8_isWind) := goodIn_app (goodIn_of _ (by decide +kernel)) ggX8_odds_X8_isWind
set_option maxRecDepth 20000 in
theorem ggX8_odds_X8_backs : GoodIn wsX8_odds wsX8_backs := goodIn_r _ [53, 3, 21, 54, 55, 56, 57, 58, 59, 60, 61, 62, 63, 64, 65, 66, 67, 68, 69, 70, 71] (by decide +kernel) (by decide +kernel)
set_option maxRecDepth 20000 in
theorem gX8_odds_X8_backs : GoodIn wsX8_odds (wsV RX8 179 RX8 yX8_backs wsX8_backs) := goodIn_app (goodIn_of _ (by decide +kernel)) ggX8_odds_X8_backs
theorem dX8_odds_0 : decode cX8_odds 0 = .ok (.aload_n 0, 1) := by decide +kernel
theorem dX8_odds_1 : decode cX8_odds 1 = .ok (.iload_n 1, 1) := by decide +kernel
theorem dX8_odds_2 : decode cX8_odds 2 = .ok (.invokevirtual 131, 3) := by decide +kernel
theorem dX8_odds_5 : decode cX8_odds 5 = .ok (.ifCond .eq 38, 3) := by decide +kernel
theorem dX8_odds_8 : decode cX8_odds 8 = .ok (.iload_n 2, 1) := by decide +kernel
theorem dX8_odds_9 : decode cX8_odds 9 = .ok (.i2l, 1) := by decide +kernel
theorem dX8_odds_10 : decode cX8_odds 10 = .ok (.lconst 0, 1) := by decide +kernel
theorem dX8_odds_11 : decode cX8_odds 11 = .ok (.ldc2_w 199, 3) := by decide +kernel
theorem dX8_odds_14 : decode cX8_odds 14 = .ok (.invokestatic 48, 3) := by decide +kernel
theorem dX8_odds_17 : decode cX8_odds 17 = .ok (.ifCond .eq 26, 3) := by decide +kernel
theorem dX8_odds_20 : decode cX8_odds 20 = .ok (.iload_n 3, 1) := by decide +kernel
theorem dX8_odds_21 : decode cX8_odds 21 = .ok (.i2l, 1) := by decide +kernel
theorem dX8_odds_22 : decode cX8_odds 22 = .ok (.lconst 0, 1) := by decide +kernel
theorem dX8_odds_23 : decode cX8_odds 23 = .ok (.ldc2_w 201, 3) := by decide +kernel
theorem dX8_odds_26 : decode cX8_odds 26 = .ok (.invokestatic 48, 3) := by decide +kernel
theorem dX8_odds_29 : decode cX8_odds 29 = .ok (.ifCond .eq 14, 3) := by decide +kernel
theorem dX8_odds_32 : decode cX8_odds 32 = .ok (.iload 4, 2) := by decide +kernel
theorem dX8_odds_34 : decode cX8_odds 34 = .ok (.i2l, 1) := by decide +kernel
theorem dX8_odds_35 : decode cX8_odds 35 = .ok (.lconst 0, 1) := by decide +kernel
theorem dX8_odds_36 : decode cX8_odds 36 = .ok (.lconst 1, 1) := by decide +kernel
theorem dX8_odds_37 : decode cX8_odds 37 = .ok (.invokestatic 48, 3) := by decide +kernel
theorem dX8_odds_40 : decode cX8_odds 40 = .ok (.ifCond .ne 5, 3) := by decide +kernel
theorem dX8_odds_43 : decode cX8_odds 43 = .ok (.iconst (-1), 1) := by decide +kernel
theorem dX8_odds_44 : decode cX8_odds 44 = .ok (.ireturn, 1) := by decide +kernel
theorem dX8_odds_45 : decode cX8_odds 45 = .ok (.aload_n 0, 1) := by decide +kernel
theorem dX8_odds_46 : decode cX8_odds 46 = .ok (.iload_n 1, 1) := by decide +kernel
theorem dX8_odds_47 : decode cX8_odds 47 = .ok (.invokevirtual 190, 3) := by decide +kernel
theorem dX8_odds_50 : decode cX8_odds 50 = .ok (.ifCond .eq 6, 3) := by decide +kernel
theorem dX8_odds_53 : decode cX8_odds 53 = .ok (.bipush (-2), 2) := by decide +kernel
theorem dX8_odds_55 : decode cX8_odds 55 = .ok (.ireturn, 1) := by decide +kernel
theorem dX8_odds_56 : decode cX8_odds 56 = .ok (.aload_n 0, 1) := by decide +kernel
theorem dX8_odds_57 : decode cX8_odds 57 = .ok (.invokevirtual 176, 3) := by decide +kernel
theorem dX8_odds_60 : decode cX8_odds 60 = .ok (.iconst 0, 1) := by decide +kernel
theorem dX8_odds_61 : decode cX8_odds 61 = .ok (.istore 5, 2) := by decide +kernel
theorem dX8_odds_63 : decode cX8_odds 63 = .ok (.iconst 1, 1) := by decide +kernel
theorem dX8_odds_64 : decode cX8_odds 64 = .ok (.istore 6, 2) := by decide +kernel
theorem dX8_odds_66 : decode cX8_odds 66 = .ok (.iconst 0, 1) := by decide +kernel
theorem dX8_odds_67 : decode cX8_odds 67 = .ok (.istore 7, 2) := by decide +kernel
theorem dX8_odds_69 : decode cX8_odds 69 = .ok (.iload 7, 2) := by decide +kernel
theorem dX8_odds_71 : decode cX8_odds 71 = .ok (.iload_n 3, 1) := by decide +kernel
theorem dX8_odds_72 : decode cX8_odds 72 = .ok (.if_icmp .ge 16, 3) := by decide +kernel
theorem dX8_odds_75 : decode cX8_odds 75 = .ok (.iload 6, 2) := by decide +kernel
theorem dX8_odds_77 : decode cX8_odds 77 = .ok (.bipush 10, 2) := by decide +kernel
theorem dX8_odds_79 : decode cX8_odds 79 = .ok (.imul, 1) := by decide +kernel
theorem dX8_odds_80 : decode cX8_odds 80 = .ok (.istore 6, 2) := by decide +kernel
theorem dX8_odds_82 : decode cX8_odds 82 = .ok (.iinc 7 1, 3) := by decide +kernel
theorem dX8_odds_85 : decode cX8_odds 85 = .ok (.goto (-16), 3) := by decide +kernel
theorem dX8_odds_88 : decode cX8_odds 88 = .ok (.iconst 0, 1) := by decide +kernel
theorem dX8_odds_89 : decode cX8_odds 89 = .ok (.istore 7, 2) := by decide +kernel
theorem dX8_odds_91 : decode cX8_odds 91 = .ok (.iload 7, 2) := by decide +kernel
theorem dX8_odds_93 : decode cX8_odds 93 = .ok (.iconst 1, 1) := by decide +kernel
theorem dX8_odds_94 : decode cX8_odds 94 = .ok (.iload_n 3, 1) := by decide +kernel
theorem dX8_odds_95 : decode cX8_odds 95 = .ok (.ishl, 1) := by decide +kernel
theorem dX8_odds_96 : decode cX8_odds 96 = .ok (.if_icmp .ge 169, 3) := by decide +kernel
theorem dX8_odds_99 : decode cX8_odds 99 = .ok (.aload_n 0, 1) := by decide +kernel
theorem dX8_odds_100 : decode cX8_odds 100 = .ok (.getfield 19, 3) := by decide +kernel
theorem dX8_odds_103 : decode cX8_odds 103 = .ok (.bipush 30, 2) := by decide +kernel
theorem dX8_odds_105 : decode cX8_odds 105 = .ok (.iconst 2, 1) := by decide +kernel
theorem dX8_odds_106 : decode cX8_odds 106 = .ok (.iload_n 1, 1) := by decide +kernel
theorem dX8_odds_107 : decode cX8_odds 107 = .ok (.imul, 1) := by decide +kernel
theorem dX8_odds_108 : decode cX8_odds 108 = .ok (.iadd, 1) := by decide +kernel
theorem dX8_odds_109 : decode cX8_odds 109 = .ok (.aload_n 0, 1) := by decide +kernel
theorem dX8_odds_110 : decode cX8_odds 110 = .ok (.getfield 19, 3) := by decide +kernel
theorem dX8_odds_113 : decode cX8_odds 113 = .ok (.bipush 30, 2) := by decide +kernel
theorem dX8_odds_115 : decode cX8_odds 115 = .ok (.iconst 2, 1) := by decide +kernel
theorem dX8_odds_116 : decode cX8_odds 116 = .ok (.iload_n 1, 1) := by decide +kernel
theorem dX8_odds_117 : decode cX8_odds 117 = .ok (.imul, 1) := by decide +kernel
theorem dX8_odds_118 : decode cX8_odds 118 = .ok (.iadd, 1) := by decide +kernel
theorem dX8_odds_119 : decode cX8_odds 119 = .ok (.iaload, 1) := by decide +kernel
theorem dX8_odds_120 : decode cX8_odds 120 = .ok (.ifCond .ne 7, 3) := by decide +kernel
theorem dX8_odds_123 : decode cX8_odds 123 = .ok (.iconst 1, 1) := by decide +kernel
theorem dX8_odds_124 : decode cX8_odds 124 = .ok (.goto 14, 3) := by decide +kernel
theorem dX8_odds_127 : decode cX8_odds 127 = .ok (.aload_n 0, 1) := by decide +kernel
theorem dX8_odds_128 : decode cX8_odds 128 = .ok (.getfield 19, 3) := by decide +kernel
theorem dX8_odds_131 : decode cX8_odds 131 = .ok (.bipush 30, 2) := by decide +kernel
theorem dX8_odds_133 : decode cX8_odds 133 = .ok (.iconst 2, 1) := by decide +kernel
theorem dX8_odds_134 : decode cX8_odds 134 = .ok (.iload_n 1, 1) := by decide +kernel
theorem dX8_odds_135 : decode cX8_odds 135 = .ok (.imul, 1) := by decide +kernel
theorem dX8_odds_136 : decode cX8_odds 136 = .ok (.iadd, 1) := by decide +kernel
theorem dX8_odds_137 : decode cX8_odds 137 = .ok (.iaload, 1) := by decide +kernel
theorem dX8_odds_138 : decode cX8_odds 138 = .ok (.iastore, 1) := by decide +kernel
theorem dX8_odds_139 : decode cX8_odds 139 = .ok (.iconst 1, 1) := by decide +kernel
theorem dX8_odds_140 : decode cX8_odds 140 = .ok (.istore 8, 2) := by decide +kernel
theorem dX8_odds_142 : decode cX8_odds 142 = .ok (.iconst 0, 1) := by decide +kernel
theorem dX8_odds_143 : decode cX8_odds 143 = .ok (.istore 9, 2) := by decide +kernel
theorem dX8_odds_145 : decode cX8_odds 145 = .ok (.iload 9, 2) := by decide +kernel
theorem dX8_odds_147 : decode cX8_odds 147 = .ok (.iload_n 3, 1) := by decide +kernel
theorem dX8_odds_148 : decode cX8_odds 148 = .ok (.if_icmp .ge 51, 3) := by decide +kernel
theorem dX8_odds_151 : decode cX8_odds 151 = .ok (.iload 7, 2) := by decide +kernel
theorem dX8_odds_153 : decode cX8_odds 153 = .ok (.iload 9, 2) := by decide +kernel
theorem dX8_odds_155 : decode cX8_odds 155 = .ok (.ishr, 1) := by decide +kernel
theorem dX8_odds_156 : decode cX8_odds 156 = .ok (.iconst 1, 1) := by decide +kernel
theorem dX8_odds_157 : decode cX8_odds 157 = .ok (.iand, 1) := by decide +kernel
theorem dX8_odds_158 : decode cX8_odds 158 = .ok (.iconst 1, 1) := by decide +kernel
theorem dX8_odds_159 : decode cX8_odds 159 = .ok (.if_icmp .ne 7, 3) := by decide +kernel
theorem dX8_odds_162 : decode cX8_odds 162 = .ok (.iconst 1, 1) := by decide +kernel
theorem dX8_odds_163 : decode cX8_odds 163 = .ok (.goto 4, 3) := by decide +kernel
theorem dX8_odds_166 : decode cX8_odds 166 = .ok (.iconst 0, 1) := by decide +kernel
theorem dX8_odds_167 : decode cX8_odds 167 = .ok (.istore 10, 2) := by decide +kernel
theorem dX8_odds_169 : decode cX8_odds 169 = .ok (.iload 8, 2) := by decide +kernel
theorem dX8_odds_171 : decode cX8_odds 171 = .ok (.iload 10, 2) := by decide +kernel
theorem dX8_odds_173 : decode cX8_odds 173 = .ok (.ifCond .eq 7, 3) := by decide +kernel
theorem dX8_odds_176 : decode cX8_odds 176 = .ok (.iload_n 2, 1) := by decide +kernel
theorem dX8_odds_177 : decode cX8_odds 177 = .ok (.goto 7, 3) := by decide +kernel
theorem dX8_odds_180 : decode cX8_odds 180 = .ok (.bipush 10, 2) := by decide +kernel
theorem dX8_odds_182 : decode cX8_odds 182 = .ok (.iload_n 2, 1) := by decide +kernel
theorem dX8_odds_183 : decode cX8_odds 183 = .ok (.isub, 1) := by decide +kernel
theorem dX8_odds_184 : decode cX8_odds 184 = .ok (.imul, 1) := by decide +kernel
theorem dX8_odds_185 : decode cX8_odds 185 = .ok (.istore 8, 2) := by decide +kernel
theorem dX8_odds_187 : decode cX8_odds 187 = .ok (.aload_n 0, 1) := by decide +kernel
theorem dX8_odds_188 : decode cX8_odds 188 = .ok (.iload 10, 2) := by decide +kernel
theorem dX8_odds_190 : decode cX8_odds 190 = .ok (.invokevirtual 169, 3) := by decide +kernel
theorem dX8_odds_193 : decode cX8_odds 193 = .ok (.iinc 9 1, 3) := by decide +kernel
theorem dX8_odds_196 : decode cX8_odds 196 = .ok (.goto (-51), 3) := by decide +kernel
theorem dX8_odds_199 : decode cX8_odds 199 = .ok (.iload_n 3, 1) := by decide +kernel
theorem dX8_odds_200 : decode cX8_odds 200 = .ok (.istore 9, 2) := by decide +kernel
theorem dX8_odds_202 : decode cX8_odds 202 = .ok (.iload 9, 2) := by decide +kernel
theorem dX8_odds_204 : decode cX8_odds 204 = .ok (.bipush 60, 2) := by decide +kernel
theorem dX8_odds_206 : decode cX8_odds 206 = .ok (.if_icmp .ge 23, 3) := by decide +kernel
theorem dX8_odds_209 : decode cX8_odds 209 = .ok (.aload_n 0, 1) := by decide +kernel
theorem dX8_odds_210 : decode cX8_odds 210 = .ok (.aload_n 0, 1) := by decide +kernel
theorem dX8_odds_211 : decode cX8_odds 211 = .ok (.aload_n 0, 1) := by decide +kernel
theorem dX8_odds_212 : decode cX8_odds 212 = .ok (.getfield 19, 3) := by decide +kernel
theorem dX8_odds_215 : decode cX8_odds 215 = .ok (.iconst 0, 1) := by decide +kernel
theorem dX8_odds_216 : decode cX8_odds 216 = .ok (.iaload, 1) := by decide +kernel
theorem dX8_odds_217 : decode cX8_odds 217 = .ok (.invokevirtual 166, 3) := by decide +kernel
theorem dX8_odds_220 : decode cX8_odds 220 = .ok (.invokevirtual 169, 3) := by decide +kernel
theorem dX8_odds_223 : decode cX8_odds 223 = .ok (.iinc 9 1, 3) := by decide +kernel
theorem dX8_odds_226 : decode cX8_odds 226 = .ok (.goto (-24), 3) := by decide +kernel
theorem dX8_odds_229 : decode cX8_odds 229 = .ok (.iload 5, 2) := by decide +kernel
theorem dX8_odds_231 : decode cX8_odds 231 = .ok (.aload_n 0, 1) := by decide +kernel
theorem dX8_odds_232 : decode cX8_odds 232 = .ok (.getfield 19, 3) := by decide +kernel
theorem dX8_odds_235 : decode cX8_odds 235 = .ok (.bipush 30, 2) := by decide +kernel
theorem dX8_odds_237 : decode cX8_odds 237 = .ok (.iconst 2, 1) := by decide +kernel
theorem dX8_odds_238 : decode cX8_odds 238 = .ok (.iload_n 1, 1) := by decide +kernel
theorem dX8_odds_239 : decode cX8_odds 239 = .ok (.imul, 1) := by decide +kernel
theorem dX8_odds_240 : decode cX8_odds 240 = .ok (.iadd, 1) := by decide +kernel
theorem dX8_odds_241 : decode cX8_odds 241 = .ok (.iaload, 1) := by decide +kernel
theorem dX8_odds_242 : decode cX8_odds 242 = .ok (.iconst 2, 1) := by decide +kernel
theorem dX8_odds_243 : decode cX8_odds 243 = .ok (.if_icmp .ne 8, 3) := by decide +kernel
theorem dX8_odds_246 : decode cX8_odds 246 = .ok (.iload 8, 2) := by decide +kernel
theorem dX8_odds_248 : decode cX8_odds 248 = .ok (.goto 4, 3) := by decide +kernel
theorem dX8_odds_251 : decode cX8_odds 251 = .ok (.iconst 0, 1) := by decide +kernel
theorem dX8_odds_252 : decode cX8_odds 252 = .ok (.iadd, 1) := by decide +kernel
theorem dX8_odds_253 : decode cX8_odds 253 = .ok (.istore 5, 2) := by decide +kernel
theorem dX8_odds_255 : decode cX8_odds 255 = .ok (.aload_n 0, 1) := by decide +kernel
theorem dX8_odds_256 : decode cX8_odds 256 = .ok (.invokevirtual 179, 3) := by decide +kernel
theorem dX8_odds_259 : decode cX8_odds 259 = .ok (.iinc 7 1, 3) := by decide +kernel
theorem dX8_odds_262 : decode cX8_odds 262 = .ok (.goto (-171), 3) := by decide +kernel
theorem dX8_odds_265 : decode cX8_odds 265 = .ok (.iload 5, 2) := by decide +kernel
theorem dX8_odds_267 : decode cX8_odds 267 = .ok (.istore 7, 2) := by decide +kernel
theorem dX8_odds_269 : decode cX8_odds 269 = .ok (.iload 6, 2) := by decide +kernel
theorem dX8_odds_271 : decode cX8_odds 271 = .ok (.istore 8, 2) := by decide +kernel
theorem dX8_odds_273 : decode cX8_odds 273 = .ok (.iload 8, 2) := by decide +kernel
theorem dX8_odds_275 : decode cX8_odds 275 = .ok (.ifCond .eq 21, 3) := by decide +kernel
theorem dX8_odds_278 : decode cX8_odds 278 = .ok (.iload 7, 2) := by decide +kernel
theorem dX8_odds_280 : decode cX8_odds 280 = .ok (.iload 8, 2) := by decide +kernel
theorem dX8_odds_282 : decode cX8_odds 282 = .ok (.irem, 1) := by decide +kernel
theorem dX8_odds_283 : decode cX8_odds 283 = .ok (.istore 9, 2) := by decide +kernel
theorem dX8_odds_285 : decode cX8_odds 285 = .ok (.iload 8, 2) := by decide +kernel
theorem dX8_odds_287 : decode cX8_odds 287 = .ok (.istore 7, 2) := by decide +kernel
theorem dX8_odds_289 : decode cX8_odds 289 = .ok (.iload 9, 2) := by decide +kernel
theorem dX8_odds_291 : decode cX8_odds 291 = .ok (.istore 8, 2) := by decide +kernel
theorem dX8_odds_293 : decode cX8_odds 293 = .ok (.goto (-20), 3) := by decide +kernel
theorem dX8_odds_296 : decode cX8_odds 296 = .ok (.iload 4, 2) := by decide +kernel
theorem dX8_odds_298 : decode cX8_odds 298 = .ok (.ifCond .ne 11, 3) := by decide +kernel
theorem dX8_odds_301 : decode cX8_odds 301 = .ok (.iload 5, 2) := by decide +kernel
theorem dX8_odds_303 : decode cX8_odds 303 = .ok (.iload 7, 2) := by decide +kernel
theorem dX8_odds_305 : decode cX8_odds 305 = .ok (.idiv, 1) := by decide +kernel
theorem dX8_odds_306 : decode cX8_odds 306 = .ok (.goto 8, 3) := by decide +kernel
theorem dX8_odds_309 : decode cX8_odds 309 = .ok (.iload 6, 2) := by decide +kernel
theorem dX8_odds_311 : decode cX8_odds 311 = .ok (.iload 7, 2) := by decide +kernel
theorem dX8_odds_313 : decode cX8_odds 313 = .ok (.idiv, 1) := by decide +kernel
theorem dX8_odds_314 : decode cX8_odds 314 = .ok (.ireturn, 1) := by decide +kernel
set_option maxRecDepth 20000 in
theorem ggX8_mark_X8_in : GoodIn wsX8_mark wsX8_in := goodIn_r _ [14] (by decide +kernel) (by decide +kernel)
set_option maxRecDepth 20000 in
theorem gX8_mark_X8_in : GoodIn wsX8_mark (va_wsS RX8 48 yX8_in wsX8_in) := goodIn_app (goodIn_of _ (by decide +kernel)) ggX8_mark_X8_in
set_option maxRecDepth 20000 in
theorem ggX8_mark_X8_isCandle : GoodIn wsX8_mark wsX8_isCandle := goodIn_r _ [18, 9, 11, 12, 13, 14, 31, 32, 33, 34, 35, 36, 37, 38, 39, 40, 41, 42, 43, 44, 45, 46, 47, 48] (by decide +kernel) (by decide +kernel)
set_option maxRecDepth 20000 in
theorem gX8_mark_X8_isCandle : GoodIn wsX8_mark (wsV RX8 121 RX8 yX8_isCandle wsX8_isCandle) := goodIn_app (goodIn_of _ (by decide +kernel)) ggX8_mark_X8_isCandle
set_option maxRecDepth 20000 in
theorem ggX8_mark_X8_left : GoodIn wsX8_mark wsX8_left := goodIn_r _ [22, 10, 31, 32, 33, 34, 35, 36, 37, 38, 39, 40, 41, 42, 43, 44, 45, 46, 47, 48] (by decide +kernel) (by decide +kernel)
set_option maxRecDepth 20000 in
theorem gX8_mark_X8_left : GoodIn wsX8_mark (wsV RX8 151 RX8 yX8_left wsX8_left) := goodIn_app (goodIn_of _ (by decide +kernel)) ggX8_mark_X8_left
set_option maxRecDepth 20000 in
theorem ggX8_mark_X8_roomOf : GoodIn wsX8_mark wsX8_roomOf := goodIn_r _ [26, 10, 31, 32, 33, 34, 35, 36, 37, 38, 39, 40, 41, 42, 43, 44, 45, 46, 47, 48] (by decide +kernel) (by decide +kernel)
set_option maxRecDepth 20000 in
theorem gX8_mark_X8_roomOf : GoodIn wsX8_mark (wsV RX8 141 RX8 yX8_roomOf wsX8_roomOf) := goodIn_app (goodIn_of _ (by decide +kernel)) ggX8_mark_X8_roomOf
set_option maxRecDepth 20000 in
theorem ggX8_mark_X8_many : GoodIn wsX8_mark wsX8_many := goodIn_r _ [30, 10, 31, 32, 33, 34, 35, 36, 37, 38, 39, 40, 41, 42, 43, 44, 45, 46, 47, 48] (by decide +kernel) (by decide +kernel)
set_option maxRecDepth 20000 in
theorem gX8_mark_X8_many : GoodIn wsX8_mark (wsV RX8 157 RX8 yX8_many wsX8_many) := goodIn_app (goodIn_of _ (by decide +kernel)) ggX8_mark_X8_many
theorem dX8_mark_0 : decode cX8_mark 0 = .ok (.iload_n 1, 1) := by decide +kernel
theorem dX8_mark_1 : decode cX8_mark 1 = .ok (.i2l, 1) := by decide +kernel
theorem dX8_mark_2 : decode cX8_mark 2 = .ok (.lconst 0, 1) := by decide +kernel
theorem dX8_mark_3 : decode cX8_mark 3 = .ok (.ldc2_w 134, 3) := by decide +kernel
theorem dX8_mark_6 : decode cX8_mark 6 = .ok (.invokestatic 48, 3) := by decide +kernel
theorem dX8_mark_9 : decode cX8_mark 9 = .ok (.ifCond .eq 11, 3) := by decide +kernel
theorem dX8_mark_12 : decode cX8_mark 12 = .ok (.aload_n 0, 1) := by decide +kernel
theorem dX8_mark_13 : decode cX8_mark 13 = .ok (.iload_n 2, 1) := by decide +kernel
theorem dX8_mark_14 : decode cX8_mark 14 = .ok (.invokevirtual 121, 3) := by decide +kernel
theorem dX8_mark_17 : decode cX8_mark 17 = .ok (.ifCond .ne 6, 3) := by decide +kernel
theorem dX8_mark_20 : decode cX8_mark 20 = .ok (.ldc 203, 2) := by decide +kernel
theorem dX8_mark_22 : decode cX8_mark 22 = .ok (.ireturn, 1) := by decide +kernel
theorem dX8_mark_23 : decode cX8_mark 23 = .ok (.aload_n 0, 1) := by decide +kernel
theorem dX8_mark_24 : decode cX8_mark 24 = .ok (.dup, 1) := by decide +kernel
theorem dX8_mark_25 : decode cX8_mark 25 = .ok (.getfield 204, 3) := by decide +kernel
theorem dX8_mark_28 : decode cX8_mark 28 = .ok (.iload_n 1, 1) := by decide +kernel
theorem dX8_mark_29 : decode cX8_mark 29 = .ok (.ifCond .ne 7, 3) := by decide +kernel
theorem dX8_mark_32 : decode cX8_mark 32 = .ok (.lconst 1, 1) := by decide +kernel
theorem dX8_mark_33 : decode cX8_mark 33 = .ok (.goto 50, 3) := by decide +kernel
theorem dX8_mark_36 : decode cX8_mark 36 = .ok (.iload_n 1, 1) := by decide +kernel
theorem dX8_mark_37 : decode cX8_mark 37 = .ok (.iconst 1, 1) := by decide +kernel
theorem dX8_mark_38 : decode cX8_mark 38 = .ok (.if_icmp .ne 9, 3) := by decide +kernel
theorem dX8_mark_41 : decode cX8_mark 41 = .ok (.ldc2_w 208, 3) := by decide +kernel
theorem dX8_mark_44 : decode cX8_mark 44 = .ok (.goto 39, 3) := by decide +kernel
theorem dX8_mark_47 : decode cX8_mark 47 = .ok (.iload_n 1, 1) := by decide +kernel
theorem dX8_mark_48 : decode cX8_mark 48 = .ok (.iconst 2, 1) := by decide +kernel
theorem dX8_mark_49 : decode cX8_mark 49 = .ok (.if_icmp .ne 9, 3) := by decide +kernel
theorem dX8_mark_52 : decode cX8_mark 52 = .ok (.ldc2_w 210, 3) := by decide +kernel
theorem dX8_mark_55 : decode cX8_mark 55 = .ok (.goto 28, 3) := by decide +kernel
theorem dX8_mark_58 : decode cX8_mark 58 = .ok (.iload_n 1, 1) := by decide +kernel
theorem dX8_mark_59 : decode cX8_mark 59 = .ok (.iconst 3, 1) := by decide +kernel
theorem dX8_mark_60 : decode cX8_mark 60 = .ok (.if_icmp .ne 9, 3) := by decide +kernel
theorem dX8_mark_63 : decode cX8_mark 63 = .ok (.ldc2_w 212, 3) := by decide +kernel
theorem dX8_mark_66 : decode cX8_mark 66 = .ok (.goto 17, 3) := by decide +kernel
theorem dX8_mark_69 : decode cX8_mark 69 = .ok (.iload_n 1, 1) := by decide +kernel
theorem dX8_mark_70 : decode cX8_mark 70 = .ok (.iconst 4, 1) := by decide +kernel
theorem dX8_mark_71 : decode cX8_mark 71 = .ok (.if_icmp .ne 9, 3) := by decide +kernel
theorem dX8_mark_74 : decode cX8_mark 74 = .ok (.ldc2_w 214, 3) := by decide +kernel
theorem dX8_mark_77 : decode cX8_mark 77 = .ok (.goto 6, 3) := by decide +kernel
theorem dX8_mark_80 : decode cX8_mark 80 = .ok (.ldc2_w 216, 3) := by decide +kernel
theorem dX8_mark_83 : decode cX8_mark 83 = .ok (.ladd, 1) := by decide +kernel
theorem dX8_mark_84 : decode cX8_mark 84 = .ok (.putfield 204, 3) := by decide +kernel
theorem dX8_mark_87 : decode cX8_mark 87 = .ok (.aload_n 0, 1) := by decide +kernel
theorem dX8_mark_88 : decode cX8_mark 88 = .ok (.getfield 16, 3) := by decide +kernel
theorem dX8_mark_91 : decode cX8_mark 91 = .ok (.bipush 15, 2) := by decide +kernel
theorem dX8_mark_93 : decode cX8_mark 93 = .ok (.iconst 2, 1) := by decide +kernel
theorem dX8_mark_94 : decode cX8_mark 94 = .ok (.iload_n 2, 1) := by decide +kernel
theorem dX8_mark_95 : decode cX8_mark 95 = .ok (.imul, 1) := by decide +kernel
theorem dX8_mark_96 : decode cX8_mark 96 = .ok (.iadd, 1) := by decide +kernel
theorem dX8_mark_97 : decode cX8_mark 97 = .ok (.iaload, 1) := by decide +kernel
theorem dX8_mark_98 : decode cX8_mark 98 = .ok (.istore_n 3, 1) := by decide +kernel
theorem dX8_mark_99 : decode cX8_mark 99 = .ok (.iload_n 1, 1) := by decide +kernel
theorem dX8_mark_100 : decode cX8_mark 100 = .ok (.tableswitch 98 0 4 #[36, 42, 50, 62, 72], 36) := by decide +kernel
theorem dX8_mark_136 : decode cX8_mark 136 = .ok (.aload_n 0, 1) := by decide +kernel
theorem dX8_mark_137 : decode cX8_mark 137 = .ok (.iload_n 2, 1) := by decide +kernel
theorem dX8_mark_138 : decode cX8_mark 138 = .ok (.invokevirtual 151, 3) := by decide +kernel
theorem dX8_mark_141 : decode cX8_mark 141 = .ok (.ireturn, 1) := by decide +kernel
theorem dX8_mark_142 : decode cX8_mark 142 = .ok (.aload_n 0, 1) := by decide +kernel
theorem dX8_mark_143 : decode cX8_mark 143 = .ok (.iload_n 2, 1) := by decide +kernel
theorem dX8_mark_144 : decode cX8_mark 144 = .ok (.invokevirtual 151, 3) := by decide +kernel
theorem dX8_mark_147 : decode cX8_mark 147 = .ok (.iload_n 3, 1) := by decide +kernel
theorem dX8_mark_148 : decode cX8_mark 148 = .ok (.iadd, 1) := by decide +kernel
theorem dX8_mark_149 : decode cX8_mark 149 = .ok (.ireturn, 1) := by decide +kernel
theorem dX8_mark_150 : decode cX8_mark 150 = .ok (.aload_n 0, 1) := by decide +kernel
theorem dX8_mark_151 : decode cX8_mark 151 = .ok (.iload_n 2, 1) := by decide +kernel
theorem dX8_mark_152 : decode cX8_mark 152 = .ok (.invokevirtual 151, 3) := by decide +kernel
theorem dX8_mark_155 : decode cX8_mark 155 = .ok (.aload_n 0, 1) := by decide +kernel
theorem dX8_mark_156 : decode cX8_mark 156 = .ok (.iload_n 2, 1) := by decide +kernel
theorem dX8_mark_157 : decode cX8_mark 157 = .ok (.invokevirtual 141, 3) := by decide +kernel
theorem dX8_mark_160 : decode cX8_mark 160 = .ok (.isub, 1) := by decide +kernel
theorem dX8_mark_161 : decode cX8_mark 161 = .ok (.ireturn, 1) := by decide +kernel
theorem dX8_mark_162 : decode cX8_mark 162 = .ok (.iconst 2, 1) := by decide +kernel
theorem dX8_mark_163 : decode cX8_mark 163 = .ok (.aload_n 0, 1) := by decide +kernel
theorem dX8_mark_164 : decode cX8_mark 164 = .ok (.iload_n 2, 1) := by decide +kernel
theorem dX8_mark_165 : decode cX8_mark 165 = .ok (.invokevirtual 151, 3) := by decide +kernel
theorem dX8_mark_168 : decode cX8_mark 168 = .ok (.iload_n 3, 1) := by decide +kernel
theorem dX8_mark_169 : decode cX8_mark 169 = .ok (.iadd, 1) := by decide +kernel
theorem dX8_mark_170 : decode cX8_mark 170 = .ok (.imul, 1) := by decide +kernel
theorem dX8_mark_171 : decode cX8_mark 171 = .ok (.ireturn, 1) := by decide +kernel
theorem dX8_mark_172 : decode cX8_mark 172 = .ok (.aload_n 0, 1) := by decide +kernel
theorem dX8_mark_173 : decode cX8_mark 173 = .ok (.iload_n 2, 1) := by decide +kernel
theorem dX8_mark_174 : decode cX8_mark 174 = .ok (.invokevirtual 151, 3) := by decide +kernel
theorem dX8_mark_177 : decode cX8_mark 177 = .ok (.aload_n 0, 1) := by decide +kernel
theorem dX8_mark_178 : decode cX8_mark 178 = .ok (.iload_n 2, 1) := by decide +kernel
theorem dX8_mark_179 : decode cX8_mark 179 = .ok (.invokevirtual 141, 3) := by decide +kernel
theorem dX8_mark_182 : decode cX8_mark 182 = .ok (.isub, 1) := by decide +kernel
theorem dX8_mark_183 : decode cX8_mark 183 = .ok (.aload_n 0, 1) := by decide +kernel
theorem dX8_mark_184 : decode cX8_mark 184 = .ok (.iconst 3, 1) := by decide +kernel
theorem dX8_mark_185 : decode cX8_mark 185 = .ok (.iconst 4, 1) := by decide +kernel
theorem dX8_mark_186 : decode cX8_mark 186 = .ok (.aload_n 0, 1) := by decide +kernel
theorem dX8_mark_187 : decode cX8_mark 187 = .ok (.getfield 16, 3) := by decide +kernel
theorem dX8_mark_190 : decode cX8_mark 190 = .ok (.iconst 2, 1) := by decide +kernel
theorem dX8_mark_191 : decode cX8_mark 191 = .ok (.iaload, 1) := by decide +kernel
theorem dX8_mark_192 : decode cX8_mark 192 = .ok (.iconst 1, 1) := by decide +kernel
theorem dX8_mark_193 : decode cX8_mark 193 = .ok (.invokevirtual 157, 3) := by decide +kernel
theorem dX8_mark_196 : decode cX8_mark 196 = .ok (.iadd, 1) := by decide +kernel
theorem dX8_mark_197 : decode cX8_mark 197 = .ok (.ireturn, 1) := by decide +kernel
theorem dX8_mark_198 : decode cX8_mark 198 = .ok (.aload_n 0, 1) := by decide +kernel
theorem dX8_mark_199 : decode cX8_mark 199 = .ok (.iload_n 2, 1) := by decide +kernel
theorem dX8_mark_200 : decode cX8_mark 200 = .ok (.invokevirtual 151, 3) := by decide +kernel
theorem dX8_mark_203 : decode cX8_mark 203 = .ok (.aload_n 0, 1) := by decide +kernel
theorem dX8_mark_204 : decode cX8_mark 204 = .ok (.getfield 19, 3) := by decide +kernel
theorem dX8_mark_207 : decode cX8_mark 207 = .ok (.iconst 0, 1) := by decide +kernel
theorem dX8_mark_208 : decode cX8_mark 208 = .ok (.iaload, 1) := by decide +kernel
theorem dX8_mark_209 : decode cX8_mark 209 = .ok (.iadd, 1) := by decide +kernel
theorem dX8_mark_210 : decode cX8_mark 210 = .ok (.ireturn, 1) := by decide +kernel
theorem dX8_trace_0 : decode cX8_trace 0 = .ok (.aload_n 0, 1) := by decide +kernel
theorem dX8_trace_1 : decode cX8_trace 1 = .ok (.getfield 204, 3) := by decide +kernel
theorem dX8_trace_4 : decode cX8_trace 4 = .ok (.lreturn, 1) := by decide +kernel
set_option maxRecDepth 20000 in
theorem ggX8_keep_X8_in : GoodIn wsX8_keep wsX8_in := goodIn_r _ [8] (by decide +kernel) (by decide +kernel)
set_option maxRecDepth 20000 in
theorem gX8_keep_X8_in : GoodIn wsX8_keep (va_wsS RX8 48 yX8_in wsX8_in) := goodIn_app (goodIn_of _ (by decide +kernel)) ggX8_keep_X8_in
theorem dX8_keep_0 : decode cX8_keep 0 = .ok (.iload_n 1, 1) := by decide +kernel
theorem dX8_keep_1 : decode cX8_keep 1 = .ok (.i2l, 1) := by decide +kernel
theorem dX8_keep_2 : decode cX8_keep 2 = .ok (.lconst 0, 1) := by decide +kernel
theorem dX8_keep_3 : decode cX8_keep 3 = .ok (.lconst 1, 1) := by decide +kernel
theorem dX8_keep_4 : decode cX8_keep 4 = .ok (.invokestatic 48, 3) := by decide +kernel
theorem dX8_keep_7 : decode cX8_keep 7 = .ok (.ifCond .ne 5, 3) := by decide +kernel
theorem dX8_keep_10 : decode cX8_keep 10 = .ok (.iconst (-1), 1) := by decide +kernel
theorem dX8_keep_11 : decode cX8_keep 11 = .ok (.ireturn, 1) := by decide +kernel
theorem dX8_keep_12 : decode cX8_keep 12 = .ok (.sipush 519, 3) := by decide +kernel
theorem dX8_keep_15 : decode cX8_keep 15 = .ok (.iload_n 1, 1) := by decide +kernel
theorem dX8_keep_16 : decode cX8_keep 16 = .ok (.imul, 1) := by decide +kernel
theorem dX8_keep_17 : decode cX8_keep 17 = .ok (.istore_n 2, 1) := by decide +kernel
theorem dX8_keep_18 : decode cX8_keep 18 = .ok (.aload_n 0, 1) := by decide +kernel
theorem dX8_keep_19 : decode cX8_keep 19 = .ok (.getfield 37, 3) := by decide +kernel
theorem dX8_keep_22 : decode cX8_keep 22 = .ok (.iload_n 2, 1) := by decide +kernel
theorem dX8_keep_23 : decode cX8_keep 23 = .ok (.iconst 1, 1) := by decide +kernel
theorem dX8_keep_24 : decode cX8_keep 24 = .ok (.iastore, 1) := by decide +kernel
theorem dX8_keep_25 : decode cX8_keep 25 = .ok (.aload_n 0, 1) := by decide +kernel
theorem dX8_keep_26 : decode cX8_keep 26 = .ok (.getfield 37, 3) := by decide +kernel
theorem dX8_keep_29 : decode cX8_keep 29 = .ok (.iload_n 2, 1) := by decide +kernel
theorem dX8_keep_30 : decode cX8_keep 30 = .ok (.iconst 1, 1) := by decide +kernel
theorem dX8_keep_31 : decode cX8_keep 31 = .ok (.iadd, 1) := by decide +kernel
theorem dX8_keep_32 : decode cX8_keep 32 = .ok (.aload_n 0, 1) := by decide +kernel
theorem dX8_keep_33 : decode cX8_keep 33 = .ok (.getfield 118, 3) := by decide +kernel
theorem dX8_keep_36 : decode cX8_keep 36 = .ok (.iastore, 1) := by decide +kernel
theorem dX8_keep_37 : decode cX8_keep 37 = .ok (.iconst 0, 1) := by decide +kernel
theorem dX8_keep_38 : decode cX8_keep 38 = .ok (.istore_n 3, 1) := by decide +kernel
theorem dX8_keep_39 : decode cX8_keep 39 = .ok (.iload_n 3, 1) := by decide +kernel
theorem dX8_keep_40 : decode cX8_keep 40 = .ok (.bipush 47, 2) := by decide +kernel
theorem dX8_keep_42 : decode cX8_keep 42 = .ok (.if_icmp .ge 25, 3) := by decide +kernel
theorem dX8_keep_45 : decode cX8_keep 45 = .ok (.aload_n 0, 1) := by decide +kernel
theorem dX8_keep_46 : decode cX8_keep 46 = .ok (.getfield 37, 3) := by decide +kernel
theorem dX8_keep_49 : decode cX8_keep 49 = .ok (.iload_n 2, 1) := by decide +kernel
theorem dX8_keep_50 : decode cX8_keep 50 = .ok (.iconst 2, 1) := by decide +kernel
theorem dX8_keep_51 : decode cX8_keep 51 = .ok (.iadd, 1) := by decide +kernel
theorem dX8_keep_52 : decode cX8_keep 52 = .ok (.iload_n 3, 1) := by decide +kernel
theorem dX8_keep_53 : decode cX8_keep 53 = .ok (.iadd, 1) := by decide +kernel
theorem dX8_keep_54 : decode cX8_keep 54 = .ok (.aload_n 0, 1) := by decide +kernel
theorem dX8_keep_55 : decode cX8_keep 55 = .ok (.getfield 19, 3) := by decide +kernel
theorem dX8_keep_58 : decode cX8_keep 58 = .ok (.iload_n 3, 1) := by decide +kernel
theorem dX8_keep_59 : decode cX8_keep 59 = .ok (.iaload, 1) := by decide +kernel
theorem dX8_keep_60 : decode cX8_keep 60 = .ok (.iastore, 1) := by decide +kernel
theorem dX8_keep_61 : decode cX8_keep 61 = .ok (.iinc 3 1, 3) := by decide +kernel
theorem dX8_keep_64 : decode cX8_keep 64 = .ok (.goto (-25), 3) := by decide +kernel
theorem dX8_keep_67 : decode cX8_keep 67 = .ok (.iconst 0, 1) := by decide +kernel
theorem dX8_keep_68 : decode cX8_keep 68 = .ok (.istore_n 3, 1) := by decide +kernel
theorem dX8_keep_69 : decode cX8_keep 69 = .ok (.iload_n 3, 1) := by decide +kernel
theorem dX8_keep_70 : decode cX8_keep 70 = .ok (.sipush 470, 3) := by decide +kernel
theorem dX8_keep_73 : decode cX8_keep 73 = .ok (.if_icmp .ge 26, 3) := by decide +kernel
theorem dX8_keep_76 : decode cX8_keep 76 = .ok (.aload_n 0, 1) := by decide +kernel
theorem dX8_keep_77 : decode cX8_keep 77 = .ok (.getfield 37, 3) := by decide +kernel
theorem dX8_keep_80 : decode cX8_keep 80 = .ok (.iload_n 2, 1) := by decide +kernel
theorem dX8_keep_81 : decode cX8_keep 81 = .ok (.bipush 49, 2) := by decide +kernel
theorem dX8_keep_83 : decode cX8_keep 83 = .ok (.iadd, 1) := by decide +kernel
theorem dX8_keep_84 : decode cX8_keep 84 = .ok (.iload_n 3, 1) := by decide +kernel
theorem dX8_keep_85 : decode cX8_keep 85 = .ok (.iadd, 1) := by decide +kernel
theorem dX8_keep_86 : decode cX8_keep 86 = .ok (.aload_n 0, 1) := by decide +kernel
theorem dX8_keep_87 : decode cX8_keep 87 = .ok (.getfield 22, 3) := by decide +kernel
theorem dX8_keep_90 : decode cX8_keep 90 = .ok (.iload_n 3, 1) := by decide +kernel
theorem dX8_keep_91 : decode cX8_keep 91 = .ok (.iaload, 1) := by decide +kernel
theorem dX8_keep_92 : decode cX8_keep 92 = .ok (.iastore, 1) := by decide +kernel
theorem dX8_keep_93 : decode cX8_keep 93 = .ok (.iinc 3 1, 3) := by decide +kernel
theorem dX8_keep_96 : decode cX8_keep 96 = .ok (.goto (-27), 3) := by decide +kernel
theorem dX8_keep_99 : decode cX8_keep 99 = .ok (.aload_n 0, 1) := by decide +kernel
theorem dX8_keep_100 : decode cX8_keep 100 = .ok (.getfield 19, 3) := by decide +kernel
theorem dX8_keep_103 : decode cX8_keep 103 = .ok (.iconst 0, 1) := by decide +kernel
theorem dX8_keep_104 : decode cX8_keep 104 = .ok (.iaload, 1) := by decide +kernel
theorem dX8_keep_105 : decode cX8_keep 105 = .ok (.ireturn, 1) := by decide +kernel
set_option maxRecDepth 20000 in
theorem ggX8_back_X8_in : GoodIn wsX8_back wsX8_in := goodIn_r _ [8] (by decide +kernel) (by decide +kernel)
set_option maxRecDepth 20000 in
theorem gX8_back_X8_in : GoodIn wsX8_back (va_wsS RX8 48 yX8_in wsX8_in) := goodIn_app (goodIn_of _ (by decide +kernel)) ggX8_back_X8_in
theorem dX8_back_0 : decode cX8_back 0 = .ok (.iload_n 1, 1) := by decide +kernel
theorem dX8_back_1 : decode cX8_back 1 = .ok (.i2l, 1) := by decide +kernel
theorem dX8_back_2 : decode cX8_back 2 = .ok (.lconst 0, 1) := by decide +kernel
theorem dX8_back_3 : decode cX8_back 3 = .ok (.lconst 1, 1) := by decide +kernel
theorem dX8_back_4 : decode cX8_back 4 = .ok (.invokestatic 48, 3) := by decide +kernel
theorem dX8_back_7 : decode cX8_back 7 = .ok (.ifCond .ne 5, 3) := by decide +kernel
theorem dX8_back_10 : decode cX8_back 10 = .ok (.iconst (-1), 1) := by decide +kernel
theorem dX8_back_11 : decode cX8_back 11 = .ok (.ireturn, 1) := by decide +kernel
theorem dX8_back_12 : decode cX8_back 12 = .ok (.sipush 519, 3) := by decide +kernel
theorem dX8_back_15 : decode cX8_back 15 = .ok (.iload_n 1, 1) := by decide +kernel
theorem dX8_back_16 : decode cX8_back 16 = .ok (.imul, 1) := by decide +kernel
theorem dX8_back_17 : decode cX8_back 17 = .ok (.istore_n 2, 1) := by decide +kernel
theorem dX8_back_18 : decode cX8_back 18 = .ok (.aload_n 0, 1) := by decide +kernel
theorem dX8_back_19 : decode cX8_back 19 = .ok (.getfield 37, 3) := by decide +kernel
theorem dX8_back_22 : decode cX8_back 22 = .ok (.iload_n 2, 1) := by decide +kernel
theorem dX8_back_23 : decode cX8_back 23 = .ok (.iaload, 1) := by decide +kernel
theorem dX8_back_24 : decode cX8_back 24 = .ok (.ifCond .ne 6, 3) := by decide +kernel
theorem dX8_back_27 : decode cX8_back 27 = .ok (.bipush (-2), 2) := by decide +kernel
theorem dX8_back_29 : decode cX8_back 29 = .ok (.ireturn, 1) := by decide +kernel
theorem dX8_back_30 : decode cX8_back 30 = .ok (.aload_n 0, 1) := by decide +kernel
theorem dX8_back_31 : decode cX8_back 31 = .ok (.aload_n 0, 1) := by decide +kernel
theorem dX8_back_32 : decode cX8_back 32 = .ok (.getfield 37, 3) := by decide +kernel
theorem dX8_back_35 : decode cX8_back 35 = .ok (.iload_n 2, 1) := by decide +kernel
theorem dX8_back_36 : decode cX8_back 36 = .ok (.iconst 1, 1) := by decide +kernel
theorem dX8_back_37 : decode cX8_back 37 = .ok (.iadd, 1) := by decide +kernel
theorem dX8_back_38 : decode cX8_back 38 = .ok (.iaload, 1) := by decide +kernel
theorem dX8_back_39 : decode cX8_back 39 = .ok (.putfield 118, 3) := by decide +kernel
theorem dX8_back_42 : decode cX8_back 42 = .ok (.iconst 0, 1) := by decide +kernel
theorem dX8_back_43 : decode cX8_back 43 = .ok (.istore_n 3, 1) := by decide +kernel
theorem dX8_back_44 : decode cX8_back 44 = .ok (.iload_n 3, 1) := by decide +kernel
theorem dX8_back_45 : decode cX8_back 45 = .ok (.bipush 47, 2) := by decide +kernel
theorem dX8_back_47 : decode cX8_back 47 = .ok (.if_icmp .ge 25, 3) := by decide +kernel
theorem dX8_back_50 : decode cX8_back 50 = .ok (.aload_n 0, 1) := by decide +kernel
theorem dX8_back_51 : decode cX8_back 51 = .ok (.getfield 19, 3) := by decide +kernel
theorem dX8_back_54 : decode cX8_back 54 = .ok (.iload_n 3, 1) := by decide +kernel
theorem dX8_back_55 : decode cX8_back 55 = .ok (.aload_n 0, 1) := by decide +kernel
theorem dX8_back_56 : decode cX8_back 56 = .ok (.getfield 37, 3) := by decide +kernel
theorem dX8_back_59 : decode cX8_back 59 = .ok (.iload_n 2, 1) := by decide +kernel
theorem dX8_back_60 : decode cX8_back 60 = .ok (.iconst 2, 1) := by decide +kernel
theorem dX8_back_61 : decode cX8_back 61 = .ok (.iadd, 1) := by decide +kernel
theorem dX8_back_62 : decode cX8_back 62 = .ok (.iload_n 3, 1) := by decide +kernel
theorem dX8_back_63 : decode cX8_back 63 = .ok (.iadd, 1) := by decide +kernel
theorem dX8_back_64 : decode cX8_back 64 = .ok (.iaload, 1) := by decide +kernel
theorem dX8_back_65 : decode cX8_back 65 = .ok (.iastore, 1) := by decide +kernel
theorem dX8_back_66 : decode cX8_back 66 = .ok (.iinc 3 1, 3) := by decide +kernel
theorem dX8_back_69 : decode cX8_back 69 = .ok (.goto (-25), 3) := by decide +kernel
theorem dX8_back_72 : decode cX8_back 72 = .ok (.iconst 0, 1) := by decide +kernel
theorem dX8_back_73 : decode cX8_back 73 = .ok (.istore_n 3, 1) := by decide +kernel
theorem dX8_back_74 : decode cX8_back 74 = .ok (.iload_n 3, 1) := by decide +kernel
theorem dX8_back_75 : decode cX8_back 75 = .ok (.sipush 470, 3) := by decide +kernel
theorem dX8_back_78 : decode cX8_back 78 = .ok (.if_icmp .ge 26, 3) := by decide +kernel
theorem dX8_back_81 : decode cX8_back 81 = .ok (.aload_n 0, 1) := by decide +kernel
theorem dX8_back_82 : decode cX8_back 82 = .ok (.getfield 22, 3) := by decide +kernel
theorem dX8_back_85 : decode cX8_back 85 = .ok (.iload_n 3, 1) := by decide +kernel
theorem dX8_back_86 : decode cX8_back 86 = .ok (.aload_n 0, 1) := by decide +kernel
theorem dX8_back_87 : decode cX8_back 87 = .ok (.getfield 37, 3) := by decide +kernel
theorem dX8_back_90 : decode cX8_back 90 = .ok (.iload_n 2, 1) := by decide +kernel
theorem dX8_back_91 : decode cX8_back 91 = .ok (.bipush 49, 2) := by decide +kernel
theorem dX8_back_93 : decode cX8_back 93 = .ok (.iadd, 1) := by decide +kernel
theorem dX8_back_94 : decode cX8_back 94 = .ok (.iload_n 3, 1) := by decide +kernel
theorem dX8_back_95 : decode cX8_back 95 = .ok (.iadd, 1) := by decide +kernel
theorem dX8_back_96 : decode cX8_back 96 = .ok (.iaload, 1) := by decide +kernel
theorem dX8_back_97 : decode cX8_back 97 = .ok (.iastore, 1) := by decide +kernel
theorem dX8_back_98 : decode cX8_back 98 = .ok (.iinc 3 1, 3) := by decide +kernel
theorem dX8_back_101 : decode cX8_back 101 = .ok (.goto (-27), 3) := by decide +kernel
theorem dX8_back_104 : decode cX8_back 104 = .ok (.aload_n 0, 1) := by decide +kernel
theorem dX8_back_105 : decode cX8_back 105 = .ok (.getfield 19, 3) := by decide +kernel
theorem dX8_back_108 : decode cX8_back 108 = .ok (.iconst 0, 1) := by decide +kernel
theorem dX8_back_109 : decode cX8_back 109 = .ok (.iaload, 1) := by decide +kernel
theorem dX8_back_110 : decode cX8_back 110 = .ok (.ireturn, 1) := by decide +kernel
theorem dX8_count_0 : decode cX8_count 0 = .ok (.iload_n 1, 1) := by decide +kernel
theorem dX8_count_1 : decode cX8_count 1 = .ok (.tableswitch 69 0 7 #[47, 47, 47, 47, 47, 54, 59, 64], 47) := by decide +kernel
theorem dX8_count_48 : decode cX8_count 48 = .ok (.aload_n 0, 1) := by decide +kernel
theorem dX8_count_49 : decode cX8_count 49 = .ok (.getfield 16, 3) := by decide +kernel
theorem dX8_count_52 : decode cX8_count 52 = .ok (.iload_n 1, 1) := by decide +kernel
theorem dX8_count_53 : decode cX8_count 53 = .ok (.iaload, 1) := by decide +kernel
theorem dX8_count_54 : decode cX8_count 54 = .ok (.ireturn, 1) := by decide +kernel
theorem dX8_count_55 : decode cX8_count 55 = .ok (.aload_n 0, 1) := by decide +kernel
theorem dX8_count_56 : decode cX8_count 56 = .ok (.getfield 115, 3) := by decide +kernel
theorem dX8_count_59 : decode cX8_count 59 = .ok (.ireturn, 1) := by decide +kernel
theorem dX8_count_60 : decode cX8_count 60 = .ok (.aload_n 0, 1) := by decide +kernel
theorem dX8_count_61 : decode cX8_count 61 = .ok (.getfield 118, 3) := by decide +kernel
theorem dX8_count_64 : decode cX8_count 64 = .ok (.ireturn, 1) := by decide +kernel
theorem dX8_count_65 : decode cX8_count 65 = .ok (.aload_n 0, 1) := by decide +kernel
theorem dX8_count_66 : decode cX8_count 66 = .ok (.getfield 52, 3) := by decide +kernel
theorem dX8_count_69 : decode cX8_count 69 = .ok (.ireturn, 1) := by decide +kernel
theorem dX8_count_70 : decode cX8_count 70 = .ok (.iconst (-1), 1) := by decide +kernel
theorem dX8_count_71 : decode cX8_count 71 = .ok (.ireturn, 1) := by decide +kernel
theorem dJ6_numberOfTrailingZeros_0f7a4_0 : decode cJ6_numberOfTrailingZeros_0f7a4 0 = .ok (.iload_n 0, 1) := by decide +kernel
theorem dJ6_numberOfTrailingZeros_0f7a4_1 : decode cJ6_numberOfTrailingZeros_0f7a4 1 = .ok (.iconst (-1), 1) := by decide +kernel
theorem dJ6_numberOfTrailingZeros_0f7a4_2 : decode cJ6_numberOfTrailingZeros_0f7a4 2 = .ok (.ixor, 1) := by decide +kernel
theorem dJ6_numberOfTrailingZeros_0f7a4_3 : decode cJ6_numberOfTrailingZeros_0f7a4 3 = .ok (.iload_n 0, 1) := by decide +kernel
theorem dJ6_numberOfTrailingZeros_0f7a4_4 : decode cJ6_numberOfTrailingZeros_0f7a4 4 = .ok (.iconst 1, 1) := by decide +kernel
theorem dJ6_numberOfTrailingZeros_0f7a4_5 : decode cJ6_numberOfTrailingZeros_0f7a4 5 = .ok (.isub, 1) := by decide +kernel
theorem dJ6_numberOfTrailingZeros_0f7a4_6 : decode cJ6_numberOfTrailingZeros_0f7a4 6 = .ok (.iand, 1) := by decide +kernel
theorem dJ6_numberOfTrailingZeros_0f7a4_7 : decode cJ6_numberOfTrailingZeros_0f7a4 7 = .ok (.istore_n 0, 1) := by decide +kernel
theorem dJ6_numberOfTrailingZeros_0f7a4_8 : decode cJ6_numberOfTrailingZeros_0f7a4 8 = .ok (.iload_n 0, 1) := by decide +kernel
theorem dJ6_numberOfTrailingZeros_0f7a4_9 : decode cJ6_numberOfTrailingZeros_0f7a4 9 = .ok (.ifCond .gt 8, 3) := by decide +kernel
