theorem dX8_isAct_0 : decode cX8_isAct 0 = .ok (.iload_n 1, 1) := by decide +kernel
theorem dX8_isAct_1 : decode cX8_isAct 1 = .ok (.i2l, 1) := by decide +kernel
theorem dX8_isAct_2 : decode cX8_isAct 2 = .ok (.lconst 0, 1) := by decide +kernel
theorem dX8_isAct_3 : decode cX8_isAct 3 = .ok (.aload_n 0, 1) := by decide +kernel
theorem dX8_isAct_4 : decode cX8_isAct 4 = .ok (.getfield 16, 3) := by decide +kernel
theorem dX8_isAct_7 : decode cX8_isAct 7 = .ok (.iconst 3, 1) := by decide +kernel
theorem dX8_isAct_8 : decode cX8_isAct 8 = .ok (.iaload, 1) := by decide +kernel
theorem dX8_isAct_9 : decode cX8_isAct 9 = .ok (.iconst 1, 1) := by decide +kernel
theorem dX8_isAct_10 : decode cX8_isAct 10 = .ok (.isub, 1) := by decide +kernel
theorem dX8_isAct_11 : decode cX8_isAct 11 = .ok (.i2l, 1) := by decide +kernel
theorem dX8_isAct_12 : decode cX8_isAct 12 = .ok (.invokestatic 48, 3) := by decide +kernel
theorem dX8_isAct_15 : decode cX8_isAct 15 = .ok (.ireturn, 1) := by decide +kernel
theorem dX8_left_0 : decode cX8_left 0 = .ok (.aload_n 0, 1) := by decide +kernel
theorem dX8_left_1 : decode cX8_left 1 = .ok (.getfield 19, 3) := by decide +kernel
theorem dX8_left_4 : decode cX8_left 4 = .ok (.iconst 1, 1) := by decide +kernel
theorem dX8_left_5 : decode cX8_left 5 = .ok (.iconst 4, 1) := by decide +kernel
theorem dX8_left_6 : decode cX8_left 6 = .ok (.iload_n 1, 1) := by decide +kernel
theorem dX8_left_7 : decode cX8_left 7 = .ok (.imul, 1) := by decide +kernel
theorem dX8_left_8 : decode cX8_left 8 = .ok (.iadd, 1) := by decide +kernel
theorem dX8_left_9 : decode cX8_left 9 = .ok (.iaload, 1) := by decide +kernel
theorem dX8_left_10 : decode cX8_left 10 = .ok (.ireturn, 1) := by decide +kernel
theorem dX8_roomOf_0 : decode cX8_roomOf 0 = .ok (.aload_n 0, 1) := by decide +kernel
theorem dX8_roomOf_1 : decode cX8_roomOf 1 = .ok (.getfield 19, 3) := by decide +kernel
theorem dX8_roomOf_4 : decode cX8_roomOf 4 = .ok (.iconst 2, 1) := by decide +kernel
theorem dX8_roomOf_5 : decode cX8_roomOf 5 = .ok (.iconst 4, 1) := by decide +kernel
theorem dX8_roomOf_6 : decode cX8_roomOf 6 = .ok (.iload_n 1, 1) := by decide +kernel
theorem dX8_roomOf_7 : decode cX8_roomOf 7 = .ok (.imul, 1) := by decide +kernel
theorem dX8_roomOf_8 : decode cX8_roomOf 8 = .ok (.iadd, 1) := by decide +kernel
theorem dX8_roomOf_9 : decode cX8_roomOf 9 = .ok (.iaload, 1) := by decide +kernel
theorem dX8_roomOf_10 : decode cX8_roomOf 10 = .ok (.ireturn, 1) := by decide +kernel
theorem dX8_isLit_0 : decode cX8_isLit 0 = .ok (.aload_n 0, 1) := by decide +kernel
theorem dX8_isLit_1 : decode cX8_isLit 1 = .ok (.getfield 19, 3) := by decide +kernel
theorem dX8_isLit_4 : decode cX8_isLit 4 = .ok (.iconst 3, 1) := by decide +kernel
theorem dX8_isLit_5 : decode cX8_isLit 5 = .ok (.iconst 4, 1) := by decide +kernel
theorem dX8_isLit_6 : decode cX8_isLit 6 = .ok (.iload_n 1, 1) := by decide +kernel
theorem dX8_isLit_7 : decode cX8_isLit 7 = .ok (.imul, 1) := by decide +kernel
theorem dX8_isLit_8 : decode cX8_isLit 8 = .ok (.iadd, 1) := by decide +kernel
theorem dX8_isLit_9 : decode cX8_isLit 9 = .ok (.iaload, 1) := by decide +kernel
theorem dX8_isLit_10 : decode cX8_isLit 10 = .ok (.iconst 1, 1) := by decide +kernel
theorem dX8_isLit_11 : decode cX8_isLit 11 = .ok (.if_icmp .ne 7, 3) := by decide +kernel
theorem dX8_isLit_14 : decode cX8_isLit 14 = .ok (.iconst 1, 1) := by decide +kernel
theorem dX8_isLit_15 : decode cX8_isLit 15 = .ok (.goto 4, 3) := by decide +kernel
theorem dX8_isLit_18 : decode cX8_isLit 18 = .ok (.iconst 0, 1) := by decide +kernel
theorem dX8_isLit_19 : decode cX8_isLit 19 = .ok (.ireturn, 1) := by decide +kernel
set_option maxRecDepth 20000 in
theorem ggX8_candle_X8_isCandle : GoodIn wsX8_candle wsX8_isCandle := goodIn_r _ [8, 2, 9, 10, 7, 11, 12, 13, 14, 15, 16, 17, 18, 19, 20, 21, 22, 23, 24, 25, 26, 27, 28, 29] (by decide +kernel) (by decide +kernel)
set_option maxRecDepth 20000 in
theorem gX8_candle_X8_isCandle : GoodIn wsX8_candle (wsV RX8 121 RX8 yX8_isCandle wsX8_isCandle) := goodIn_app (goodIn_of _ (by decide +kernel)) ggX8_candle_X8_isCandle
set_option maxRecDepth 20000 in
theorem ggX8_candle_X8_in : GoodIn wsX8_candle wsX8_in := goodIn_r _ [11] (by decide +kernel) (by decide +kernel)
set_option maxRecDepth 20000 in
theorem gX8_candle_X8_in : GoodIn wsX8_candle (va_wsS RX8 48 yX8_in wsX8_in) := goodIn_app (goodIn_of _ (by decide +kernel)) ggX8_candle_X8_in
theorem dX8_candle_0 : decode cX8_candle 0 = .ok (.aload_n 0, 1) := by decide +kernel
theorem dX8_candle_1 : decode cX8_candle 1 = .ok (.iload_n 1, 1) := by decide +kernel
theorem dX8_candle_2 : decode cX8_candle 2 = .ok (.invokevirtual 121, 3) := by decide +kernel
theorem dX8_candle_5 : decode cX8_candle 5 = .ok (.ifCond .eq 15, 3) := by decide +kernel
theorem dX8_candle_8 : decode cX8_candle 8 = .ok (.iload_n 2, 1) := by decide +kernel
theorem dX8_candle_9 : decode cX8_candle 9 = .ok (.i2l, 1) := by decide +kernel
theorem dX8_candle_10 : decode cX8_candle 10 = .ok (.lconst 0, 1) := by decide +kernel
theorem dX8_candle_11 : decode cX8_candle 11 = .ok (.ldc2_w 124, 3) := by decide +kernel
theorem dX8_candle_14 : decode cX8_candle 14 = .ok (.invokestatic 48, 3) := by decide +kernel
theorem dX8_candle_17 : decode cX8_candle 17 = .ok (.ifCond .ne 5, 3) := by decide +kernel
theorem dX8_candle_20 : decode cX8_candle 20 = .ok (.iconst (-1), 1) := by decide +kernel
theorem dX8_candle_21 : decode cX8_candle 21 = .ok (.ireturn, 1) := by decide +kernel
theorem dX8_candle_22 : decode cX8_candle 22 = .ok (.iload_n 2, 1) := by decide +kernel
theorem dX8_candle_23 : decode cX8_candle 23 = .ok (.ifCond .ne 17, 3) := by decide +kernel
theorem dX8_candle_26 : decode cX8_candle 26 = .ok (.aload_n 0, 1) := by decide +kernel
theorem dX8_candle_27 : decode cX8_candle 27 = .ok (.getfield 16, 3) := by decide +kernel
theorem dX8_candle_30 : decode cX8_candle 30 = .ok (.bipush 15, 2) := by decide +kernel
theorem dX8_candle_32 : decode cX8_candle 32 = .ok (.iconst 2, 1) := by decide +kernel
theorem dX8_candle_33 : decode cX8_candle 33 = .ok (.iload_n 1, 1) := by decide +kernel
theorem dX8_candle_34 : decode cX8_candle 34 = .ok (.imul, 1) := by decide +kernel
theorem dX8_candle_35 : decode cX8_candle 35 = .ok (.iadd, 1) := by decide +kernel
theorem dX8_candle_36 : decode cX8_candle 36 = .ok (.iaload, 1) := by decide +kernel
theorem dX8_candle_37 : decode cX8_candle 37 = .ok (.goto 13, 3) := by decide +kernel
theorem dX8_candle_40 : decode cX8_candle 40 = .ok (.aload_n 0, 1) := by decide +kernel
theorem dX8_candle_41 : decode cX8_candle 41 = .ok (.getfield 19, 3) := by decide +kernel
theorem dX8_candle_44 : decode cX8_candle 44 = .ok (.iconst 4, 1) := by decide +kernel
theorem dX8_candle_45 : decode cX8_candle 45 = .ok (.iload_n 1, 1) := by decide +kernel
theorem dX8_candle_46 : decode cX8_candle 46 = .ok (.imul, 1) := by decide +kernel
theorem dX8_candle_47 : decode cX8_candle 47 = .ok (.iload_n 2, 1) := by decide +kernel
theorem dX8_candle_48 : decode cX8_candle 48 = .ok (.iadd, 1) := by decide +kernel
theorem dX8_candle_49 : decode cX8_candle 49 = .ok (.iaload, 1) := by decide +kernel
theorem dX8_candle_50 : decode cX8_candle 50 = .ok (.ireturn, 1) := by decide +kernel
set_option maxRecDepth 20000 in
theorem ggX8_door_X8_isDoor : GoodIn wsX8_door wsX8_isDoor := goodIn_r _ [8, 3, 9, 10, 7, 11, 12, 13, 14, 15, 16, 17, 18, 19, 20, 21, 22, 23, 24, 25, 26, 27, 28, 29] (by decide +kernel) (by decide +kernel)
set_option maxRecDepth 20000 in
theorem gX8_door_X8_isDoor : GoodIn wsX8_door (wsV RX8 126 RX8 yX8_isDoor wsX8_isDoor) := goodIn_app (goodIn_of _ (by decide +kernel)) ggX8_door_X8_isDoor
set_option maxRecDepth 20000 in
theorem ggX8_door_X8_in : GoodIn wsX8_door wsX8_in := goodIn_r _ [11] (by decide +kernel) (by decide +kernel)
set_option maxRecDepth 20000 in
theorem gX8_door_X8_in : GoodIn wsX8_door (va_wsS RX8 48 yX8_in wsX8_in) := goodIn_app (goodIn_of _ (by decide +kernel)) ggX8_door_X8_in
theorem dX8_door_0 : decode cX8_door 0 = .ok (.aload_n 0, 1) := by decide +kernel
theorem dX8_door_1 : decode cX8_door 1 = .ok (.iload_n 1, 1) := by decide +kernel
theorem dX8_door_2 : decode cX8_door 2 = .ok (.invokevirtual 126, 3) := by decide +kernel
theorem dX8_door_5 : decode cX8_door 5 = .ok (.ifCond .eq 15, 3) := by decide +kernel
theorem dX8_door_8 : decode cX8_door 8 = .ok (.iload_n 2, 1) := by decide +kernel
theorem dX8_door_9 : decode cX8_door 9 = .ok (.i2l, 1) := by decide +kernel
theorem dX8_door_10 : decode cX8_door 10 = .ok (.lconst 0, 1) := by decide +kernel
theorem dX8_door_11 : decode cX8_door 11 = .ok (.ldc2_w 129, 3) := by decide +kernel
theorem dX8_door_14 : decode cX8_door 14 = .ok (.invokestatic 48, 3) := by decide +kernel
theorem dX8_door_17 : decode cX8_door 17 = .ok (.ifCond .ne 5, 3) := by decide +kernel
theorem dX8_door_20 : decode cX8_door 20 = .ok (.iconst (-1), 1) := by decide +kernel
theorem dX8_door_21 : decode cX8_door 21 = .ok (.ireturn, 1) := by decide +kernel
theorem dX8_door_22 : decode cX8_door 22 = .ok (.iload_n 2, 1) := by decide +kernel
theorem dX8_door_23 : decode cX8_door 23 = .ok (.iconst 2, 1) := by decide +kernel
theorem dX8_door_24 : decode cX8_door 24 = .ok (.if_icmp .ne 15, 3) := by decide +kernel
theorem dX8_door_27 : decode cX8_door 27 = .ok (.aload_n 0, 1) := by decide +kernel
theorem dX8_door_28 : decode cX8_door 28 = .ok (.getfield 19, 3) := by decide +kernel
theorem dX8_door_31 : decode cX8_door 31 = .ok (.bipush 25, 2) := by decide +kernel
theorem dX8_door_33 : decode cX8_door 33 = .ok (.iload_n 1, 1) := by decide +kernel
theorem dX8_door_34 : decode cX8_door 34 = .ok (.iadd, 1) := by decide +kernel
theorem dX8_door_35 : decode cX8_door 35 = .ok (.iaload, 1) := by decide +kernel
theorem dX8_door_36 : decode cX8_door 36 = .ok (.goto 15, 3) := by decide +kernel
theorem dX8_door_39 : decode cX8_door 39 = .ok (.aload_n 0, 1) := by decide +kernel
theorem dX8_door_40 : decode cX8_door 40 = .ok (.getfield 16, 3) := by decide +kernel
theorem dX8_door_43 : decode cX8_door 43 = .ok (.iconst 5, 1) := by decide +kernel
theorem dX8_door_44 : decode cX8_door 44 = .ok (.iconst 2, 1) := by decide +kernel
theorem dX8_door_45 : decode cX8_door 45 = .ok (.iload_n 1, 1) := by decide +kernel
theorem dX8_door_46 : decode cX8_door 46 = .ok (.imul, 1) := by decide +kernel
theorem dX8_door_47 : decode cX8_door 47 = .ok (.iadd, 1) := by decide +kernel
theorem dX8_door_48 : decode cX8_door 48 = .ok (.iload_n 2, 1) := by decide +kernel
theorem dX8_door_49 : decode cX8_door 49 = .ok (.iadd, 1) := by decide +kernel
theorem dX8_door_50 : decode cX8_door 50 = .ok (.iaload, 1) := by decide +kernel
theorem dX8_door_51 : decode cX8_door 51 = .ok (.ireturn, 1) := by decide +kernel
set_option maxRecDepth 20000 in
theorem ggX8_act_X8_isAct : GoodIn wsX8_act wsX8_isAct := goodIn_r _ [8, 2, 9, 10, 7, 11, 12, 13, 14, 15, 16, 17, 18, 19, 20, 21, 22, 23, 24, 25, 26, 27, 28, 29] (by decide +kernel) (by decide +kernel)
set_option maxRecDepth 20000 in
theorem gX8_act_X8_isAct : GoodIn wsX8_act (wsV RX8 131 RX8 yX8_isAct wsX8_isAct) := goodIn_app (goodIn_of _ (by decide +kernel)) ggX8_act_X8_isAct
set_option maxRecDepth 20000 in
theorem ggX8_act_X8_in : GoodIn wsX8_act wsX8_in := goodIn_r _ [11] (by decide +kernel) (by decide +kernel)
set_option maxRecDepth 20000 in
theorem gX8_act_X8_in : GoodIn wsX8_act (va_wsS RX8 48 yX8_in wsX8_in) := goodIn_app (goodIn_of _ (by decide +kernel)) ggX8_act_X8_in
theorem dX8_act_0 : decode cX8_act 0 = .ok (.aload_n 0, 1) := by decide +kernel
theorem dX8_act_1 : decode cX8_act 1 = .ok (.iload_n 1, 1) := by decide +kernel
theorem dX8_act_2 : decode cX8_act 2 = .ok (.invokevirtual 131, 3) := by decide +kernel
theorem dX8_act_5 : decode cX8_act 5 = .ok (.ifCond .eq 15, 3) := by decide +kernel
theorem dX8_act_8 : decode cX8_act 8 = .ok (.iload_n 2, 1) := by decide +kernel
theorem dX8_act_9 : decode cX8_act 9 = .ok (.i2l, 1) := by decide +kernel
theorem dX8_act_10 : decode cX8_act 10 = .ok (.lconst 0, 1) := by decide +kernel
theorem dX8_act_11 : decode cX8_act 11 = .ok (.ldc2_w 134, 3) := by decide +kernel
theorem dX8_act_14 : decode cX8_act 14 = .ok (.invokestatic 48, 3) := by decide +kernel
theorem dX8_act_17 : decode cX8_act 17 = .ok (.ifCond .ne 5, 3) := by decide +kernel
theorem dX8_act_20 : decode cX8_act 20 = .ok (.iconst (-1), 1) := by decide +kernel
theorem dX8_act_21 : decode cX8_act 21 = .ok (.ireturn, 1) := by decide +kernel
theorem dX8_act_22 : decode cX8_act 22 = .ok (.iload_n 2, 1) := by decide +kernel
theorem dX8_act_23 : decode cX8_act 23 = .ok (.iconst 4, 1) := by decide +kernel
theorem dX8_act_24 : decode cX8_act 24 = .ok (.if_icmp .ge 19, 3) := by decide +kernel
theorem dX8_act_27 : decode cX8_act 27 = .ok (.aload_n 0, 1) := by decide +kernel
theorem dX8_act_28 : decode cX8_act 28 = .ok (.getfield 16, 3) := by decide +kernel
theorem dX8_act_31 : decode cX8_act 31 = .ok (.bipush 27, 2) := by decide +kernel
theorem dX8_act_33 : decode cX8_act 33 = .ok (.iconst 4, 1) := by decide +kernel
theorem dX8_act_34 : decode cX8_act 34 = .ok (.iload_n 1, 1) := by decide +kernel
theorem dX8_act_35 : decode cX8_act 35 = .ok (.imul, 1) := by decide +kernel
theorem dX8_act_36 : decode cX8_act 36 = .ok (.iadd, 1) := by decide +kernel
theorem dX8_act_37 : decode cX8_act 37 = .ok (.iload_n 2, 1) := by decide +kernel
theorem dX8_act_38 : decode cX8_act 38 = .ok (.iadd, 1) := by decide +kernel
theorem dX8_act_39 : decode cX8_act 39 = .ok (.iaload, 1) := by decide +kernel
theorem dX8_act_40 : decode cX8_act 40 = .ok (.goto 18, 3) := by decide +kernel
theorem dX8_act_43 : decode cX8_act 43 = .ok (.aload_n 0, 1) := by decide +kernel
theorem dX8_act_44 : decode cX8_act 44 = .ok (.getfield 19, 3) := by decide +kernel
theorem dX8_act_47 : decode cX8_act 47 = .ok (.bipush 30, 2) := by decide +kernel
theorem dX8_act_49 : decode cX8_act 49 = .ok (.iconst 2, 1) := by decide +kernel
theorem dX8_act_50 : decode cX8_act 50 = .ok (.iload_n 1, 1) := by decide +kernel
theorem dX8_act_51 : decode cX8_act 51 = .ok (.imul, 1) := by decide +kernel
theorem dX8_act_52 : decode cX8_act 52 = .ok (.iadd, 1) := by decide +kernel
theorem dX8_act_53 : decode cX8_act 53 = .ok (.iload_n 2, 1) := by decide +kernel
theorem dX8_act_54 : decode cX8_act 54 = .ok (.iadd, 1) := by decide +kernel
theorem dX8_act_55 : decode cX8_act 55 = .ok (.iconst 4, 1) := by decide +kernel
theorem dX8_act_56 : decode cX8_act 56 = .ok (.isub, 1) := by decide +kernel
theorem dX8_act_57 : decode cX8_act 57 = .ok (.iaload, 1) := by decide +kernel
theorem dX8_act_58 : decode cX8_act 58 = .ok (.ireturn, 1) := by decide +kernel
theorem dX8_isDraughty_0 : decode cX8_isDraughty 0 = .ok (.iconst 0, 1) := by decide +kernel
theorem dX8_isDraughty_1 : decode cX8_isDraughty 1 = .ok (.istore_n 2, 1) := by decide +kernel
theorem dX8_isDraughty_2 : decode cX8_isDraughty 2 = .ok (.iconst 0, 1) := by decide +kernel
theorem dX8_isDraughty_3 : decode cX8_isDraughty 3 = .ok (.istore_n 3, 1) := by decide +kernel
theorem dX8_isDraughty_4 : decode cX8_isDraughty 4 = .ok (.iload_n 3, 1) := by decide +kernel
theorem dX8_isDraughty_5 : decode cX8_isDraughty 5 = .ok (.aload_n 0, 1) := by decide +kernel
theorem dX8_isDraughty_6 : decode cX8_isDraughty 6 = .ok (.getfield 16, 3) := by decide +kernel
theorem dX8_isDraughty_9 : decode cX8_isDraughty 9 = .ok (.iconst 1, 1) := by decide +kernel
theorem dX8_isDraughty_10 : decode cX8_isDraughty 10 = .ok (.iaload, 1) := by decide +kernel
theorem dX8_isDraughty_11 : decode cX8_isDraughty 11 = .ok (.if_icmp .ge 62, 3) := by decide +kernel
theorem dX8_isDraughty_14 : decode cX8_isDraughty 14 = .ok (.iload_n 2, 1) := by decide +kernel
theorem dX8_isDraughty_15 : decode cX8_isDraughty 15 = .ok (.ifCond .ne 46, 3) := by decide +kernel
theorem dX8_isDraughty_18 : decode cX8_isDraughty 18 = .ok (.aload_n 0, 1) := by decide +kernel
theorem dX8_isDraughty_19 : decode cX8_isDraughty 19 = .ok (.getfield 19, 3) := by decide +kernel
theorem dX8_isDraughty_22 : decode cX8_isDraughty 22 = .ok (.bipush 25, 2) := by decide +kernel
theorem dX8_isDraughty_24 : decode cX8_isDraughty 24 = .ok (.iload_n 3, 1) := by decide +kernel
theorem dX8_isDraughty_25 : decode cX8_isDraughty 25 = .ok (.iadd, 1) := by decide +kernel
theorem dX8_isDraughty_26 : decode cX8_isDraughty 26 = .ok (.iaload, 1) := by decide +kernel
theorem dX8_isDraughty_27 : decode cX8_isDraughty 27 = .ok (.iconst 1, 1) := by decide +kernel
theorem dX8_isDraughty_28 : decode cX8_isDraughty 28 = .ok (.if_icmp .ne 37, 3) := by decide +kernel
theorem dX8_isDraughty_31 : decode cX8_isDraughty 31 = .ok (.aload_n 0, 1) := by decide +kernel
theorem dX8_isDraughty_32 : decode cX8_isDraughty 32 = .ok (.getfield 16, 3) := by decide +kernel
theorem dX8_isDraughty_35 : decode cX8_isDraughty 35 = .ok (.iconst 5, 1) := by decide +kernel
theorem dX8_isDraughty_36 : decode cX8_isDraughty 36 = .ok (.iconst 2, 1) := by decide +kernel
theorem dX8_isDraughty_37 : decode cX8_isDraughty 37 = .ok (.iload_n 3, 1) := by decide +kernel
theorem dX8_isDraughty_38 : decode cX8_isDraughty 38 = .ok (.imul, 1) := by decide +kernel
theorem dX8_isDraughty_39 : decode cX8_isDraughty 39 = .ok (.iadd, 1) := by decide +kernel
theorem dX8_isDraughty_40 : decode cX8_isDraughty 40 = .ok (.iaload, 1) := by decide +kernel
theorem dX8_isDraughty_41 : decode cX8_isDraughty 41 = .ok (.iload_n 1, 1) := by decide +kernel
theorem dX8_isDraughty_42 : decode cX8_isDraughty 42 = .ok (.if_icmp .eq 19, 3) := by decide +kernel
theorem dX8_isDraughty_45 : decode cX8_isDraughty 45 = .ok (.aload_n 0, 1) := by decide +kernel
theorem dX8_isDraughty_46 : decode cX8_isDraughty 46 = .ok (.getfield 16, 3) := by decide +kernel
theorem dX8_isDraughty_49 : decode cX8_isDraughty 49 = .ok (.iconst 5, 1) := by decide +kernel
theorem dX8_isDraughty_50 : decode cX8_isDraughty 50 = .ok (.iconst 2, 1) := by decide +kernel
theorem dX8_isDraughty_51 : decode cX8_isDraughty 51 = .ok (.iload_n 3, 1) := by decide +kernel
theorem dX8_isDraughty_52 : decode cX8_isDraughty 52 = .ok (.imul, 1) := by decide +kernel
theorem dX8_isDraughty_53 : decode cX8_isDraughty 53 = .ok (.iadd, 1) := by decide +kernel
theorem dX8_isDraughty_54 : decode cX8_isDraughty 54 = .ok (.iconst 1, 1) := by decide +kernel
theorem dX8_isDraughty_55 : decode cX8_isDraughty 55 = .ok (.iadd, 1) := by decide +kernel
theorem dX8_isDraughty_56 : decode cX8_isDraughty 56 = .ok (.iaload, 1) := by decide +kernel
theorem dX8_isDraughty_57 : decode cX8_isDraughty 57 = .ok (.iload_n 1, 1) := by decide +kernel
theorem dX8_isDraughty_58 : decode cX8_isDraughty 58 = .ok (.if_icmp .ne 7, 3) := by decide +kernel
theorem dX8_isDraughty_61 : decode cX8_isDraughty 61 = .ok (.iconst 1, 1) := by decide +kernel
theorem dX8_isDraughty_62 : decode cX8_isDraughty 62 = .ok (.goto 4, 3) := by decide +kernel
theorem dX8_isDraughty_65 : decode cX8_isDraughty 65 = .ok (.iconst 0, 1) := by decide +kernel
theorem dX8_isDraughty_66 : decode cX8_isDraughty 66 = .ok (.istore_n 2, 1) := by decide +kernel
theorem dX8_isDraughty_67 : decode cX8_isDraughty 67 = .ok (.iinc 3 1, 3) := by decide +kernel
theorem dX8_isDraughty_70 : decode cX8_isDraughty 70 = .ok (.goto (-66), 3) := by decide +kernel
theorem dX8_isDraughty_73 : decode cX8_isDraughty 73 = .ok (.iload_n 2, 1) := by decide +kernel
theorem dX8_isDraughty_74 : decode cX8_isDraughty 74 = .ok (.ireturn, 1) := by decide +kernel
set_option maxRecDepth 20000 in
theorem ggX8_room_X8_isRoom : GoodIn wsX8_room wsX8_isRoom := goodIn_r _ [8, 2, 9, 10, 7, 11, 24, 25, 26, 27, 28, 29, 30, 31, 32, 33, 34, 35, 36, 37, 38, 39, 40, 41] (by decide +kernel) (by decide +kernel)
set_option maxRecDepth 20000 in
theorem gX8_room_X8_isRoom : GoodIn wsX8_room (wsV RX8 136 RX8 yX8_isRoom wsX8_isRoom) := goodIn_app (goodIn_of _ (by decide +kernel)) ggX8_room_X8_isRoom
set_option maxRecDepth 20000 in
theorem ggX8_room_X8_in : GoodIn wsX8_room wsX8_in := goodIn_r _ [11] (by decide +kernel) (by decide +kernel)
set_option maxRecDepth 20000 in
theorem gX8_room_X8_in : GoodIn wsX8_room (va_wsS RX8 48 yX8_in wsX8_in) := goodIn_app (goodIn_of _ (by decide +kernel)) ggX8_room_X8_in
set_option maxRecDepth 20000 in
theorem ggX8_room_X8_roomOf : GoodIn wsX8_room wsX8_roomOf := goodIn_r _ [15, 3, 24, 25, 26, 27, 28, 29, 30, 31, 32, 33, 34, 35, 36, 37, 38, 39, 40, 41] (by decide +kernel) (by decide +kernel)
set_option maxRecDepth 20000 in
theorem gX8_room_X8_roomOf : GoodIn wsX8_room (wsV RX8 141 RX8 yX8_roomOf wsX8_roomOf) := goodIn_app (goodIn_of _ (by decide +kernel)) ggX8_room_X8_roomOf
set_option maxRecDepth 20000 in
theorem ggX8_room_X8_isLit : GoodIn wsX8_room wsX8_isLit := goodIn_r _ [19, 3, 24, 25, 26, 27, 28, 29, 30, 31, 32, 33, 34, 35, 36, 37, 38, 39, 40, 41] (by decide +kernel) (by decide +kernel)
set_option maxRecDepth 20000 in
theorem gX8_room_X8_isLit : GoodIn wsX8_room (wsV RX8 145 RX8 yX8_isLit wsX8_isLit) := goodIn_app (goodIn_of _ (by decide +kernel)) ggX8_room_X8_isLit
set_option maxRecDepth 20000 in
theorem ggX8_room_X8_isDraughty : GoodIn wsX8_room wsX8_isDraughty := goodIn_r _ [23, 2, 3, 24, 25, 26, 27, 28, 29, 30, 31, 32, 33, 34, 35, 36, 37, 38, 39, 40, 41] (by decide +kernel) (by decide +kernel)
set_option maxRecDepth 20000 in
theorem gX8_room_X8_isDraughty : GoodIn wsX8_room (wsV RX8 148 RX8 yX8_isDraughty wsX8_isDraughty) := goodIn_app (goodIn_of _ (by decide +kernel)) ggX8_room_X8_isDraughty
theorem dX8_room_0 : decode cX8_room 0 = .ok (.aload_n 0, 1) := by decide +kernel
theorem dX8_room_1 : decode cX8_room 1 = .ok (.iload_n 1, 1) := by decide +kernel
theorem dX8_room_2 : decode cX8_room 2 = .ok (.invokevirtual 136, 3) := by decide +kernel
theorem dX8_room_5 : decode cX8_room 5 = .ok (.ifCond .eq 15, 3) := by decide +kernel
theorem dX8_room_8 : decode cX8_room 8 = .ok (.iload_n 2, 1) := by decide +kernel
theorem dX8_room_9 : decode cX8_room 9 = .ok (.i2l, 1) := by decide +kernel
theorem dX8_room_10 : decode cX8_room 10 = .ok (.lconst 0, 1) := by decide +kernel
theorem dX8_room_11 : decode cX8_room 11 = .ok (.ldc2_w 139, 3) := by decide +kernel
theorem dX8_room_14 : decode cX8_room 14 = .ok (.invokestatic 48, 3) := by decide +kernel
theorem dX8_room_17 : decode cX8_room 17 = .ok (.ifCond .ne 5, 3) := by decide +kernel
theorem dX8_room_20 : decode cX8_room 20 = .ok (.iconst (-1), 1) := by decide +kernel
theorem dX8_room_21 : decode cX8_room 21 = .ok (.ireturn, 1) := by decide +kernel
theorem dX8_room_22 : decode cX8_room 22 = .ok (.iconst 0, 1) := by decide +kernel
theorem dX8_room_23 : decode cX8_room 23 = .ok (.istore_n 3, 1) := by decide +kernel
theorem dX8_room_24 : decode cX8_room 24 = .ok (.iconst 0, 1) := by decide +kernel
theorem dX8_room_25 : decode cX8_room 25 = .ok (.istore 4, 2) := by decide +kernel
theorem dX8_room_27 : decode cX8_room 27 = .ok (.iconst 0, 1) := by decide +kernel
theorem dX8_room_28 : decode cX8_room 28 = .ok (.istore 5, 2) := by decide +kernel
theorem dX8_room_30 : decode cX8_room 30 = .ok (.iload 5, 2) := by decide +kernel
theorem dX8_room_32 : decode cX8_room 32 = .ok (.aload_n 0, 1) := by decide +kernel
theorem dX8_room_33 : decode cX8_room 33 = .ok (.getfield 16, 3) := by decide +kernel
theorem dX8_room_36 : decode cX8_room 36 = .ok (.iconst 2, 1) := by decide +kernel
theorem dX8_room_37 : decode cX8_room 37 = .ok (.iaload, 1) := by decide +kernel
theorem dX8_room_38 : decode cX8_room 38 = .ok (.if_icmp .ge 62, 3) := by decide +kernel
theorem dX8_room_41 : decode cX8_room 41 = .ok (.iload_n 3, 1) := by decide +kernel
theorem dX8_room_42 : decode cX8_room 42 = .ok (.aload_n 0, 1) := by decide +kernel
theorem dX8_room_43 : decode cX8_room 43 = .ok (.iload 5, 2) := by decide +kernel
theorem dX8_room_45 : decode cX8_room 45 = .ok (.invokevirtual 141, 3) := by decide +kernel
theorem dX8_room_48 : decode cX8_room 48 = .ok (.iload_n 1, 1) := by decide +kernel
theorem dX8_room_49 : decode cX8_room 49 = .ok (.if_icmp .ne 10, 3) := by decide +kernel
theorem dX8_room_52 : decode cX8_room 52 = .ok (.iconst 1, 1) := by decide +kernel
theorem dX8_room_53 : decode cX8_room 53 = .ok (.iload 5, 2) := by decide +kernel
theorem dX8_room_55 : decode cX8_room 55 = .ok (.ishl, 1) := by decide +kernel
theorem dX8_room_56 : decode cX8_room 56 = .ok (.goto 4, 3) := by decide +kernel
theorem dX8_room_59 : decode cX8_room 59 = .ok (.iconst 0, 1) := by decide +kernel
theorem dX8_room_60 : decode cX8_room 60 = .ok (.ior, 1) := by decide +kernel
theorem dX8_room_61 : decode cX8_room 61 = .ok (.istore_n 3, 1) := by decide +kernel
theorem dX8_room_62 : decode cX8_room 62 = .ok (.iload 4, 2) := by decide +kernel
theorem dX8_room_64 : decode cX8_room 64 = .ok (.aload_n 0, 1) := by decide +kernel
theorem dX8_room_65 : decode cX8_room 65 = .ok (.iload 5, 2) := by decide +kernel
theorem dX8_room_67 : decode cX8_room 67 = .ok (.invokevirtual 141, 3) := by decide +kernel
theorem dX8_room_70 : decode cX8_room 70 = .ok (.iload_n 1, 1) := by decide +kernel
theorem dX8_room_71 : decode cX8_room 71 = .ok (.if_icmp .ne 19, 3) := by decide +kernel
theorem dX8_room_74 : decode cX8_room 74 = .ok (.aload_n 0, 1) := by decide +kernel
theorem dX8_room_75 : decode cX8_room 75 = .ok (.iload 5, 2) := by decide +kernel
theorem dX8_room_77 : decode cX8_room 77 = .ok (.invokevirtual 145, 3) := by decide +kernel
theorem dX8_room_80 : decode cX8_room 80 = .ok (.ifCond .eq 10, 3) := by decide +kernel
theorem dX8_room_83 : decode cX8_room 83 = .ok (.iconst 1, 1) := by decide +kernel
theorem dX8_room_84 : decode cX8_room 84 = .ok (.iload 5, 2) := by decide +kernel
theorem dX8_room_86 : decode cX8_room 86 = .ok (.ishl, 1) := by decide +kernel
theorem dX8_room_87 : decode cX8_room 87 = .ok (.goto 4, 3) := by decide +kernel
theorem dX8_room_90 : decode cX8_room 90 = .ok (.iconst 0, 1) := by decide +kernel
theorem dX8_room_91 : decode cX8_room 91 = .ok (.ior, 1) := by decide +kernel
theorem dX8_room_92 : decode cX8_room 92 = .ok (.istore 4, 2) := by decide +kernel
theorem dX8_room_94 : decode cX8_room 94 = .ok (.iinc 5 1, 3) := by decide +kernel
theorem dX8_room_97 : decode cX8_room 97 = .ok (.goto (-67), 3) := by decide +kernel
theorem dX8_room_100 : decode cX8_room 100 = .ok (.iload_n 2, 1) := by decide +kernel
theorem dX8_room_101 : decode cX8_room 101 = .ok (.ifCond .ne 15, 3) := by decide +kernel
theorem dX8_room_104 : decode cX8_room 104 = .ok (.aload_n 0, 1) := by decide +kernel
theorem dX8_room_105 : decode cX8_room 105 = .ok (.getfield 19, 3) := by decide +kernel
theorem dX8_room_108 : decode cX8_room 108 = .ok (.bipush 42, 2) := by decide +kernel
theorem dX8_room_110 : decode cX8_room 110 = .ok (.iload_n 1, 1) := by decide +kernel
theorem dX8_room_111 : decode cX8_room 111 = .ok (.iadd, 1) := by decide +kernel
theorem dX8_room_112 : decode cX8_room 112 = .ok (.iaload, 1) := by decide +kernel
theorem dX8_room_113 : decode cX8_room 113 = .ok (.goto 35, 3) := by decide +kernel
theorem dX8_room_116 : decode cX8_room 116 = .ok (.iload_n 2, 1) := by decide +kernel
theorem dX8_room_117 : decode cX8_room 117 = .ok (.iconst 1, 1) := by decide +kernel
theorem dX8_room_118 : decode cX8_room 118 = .ok (.if_icmp .ne 7, 3) := by decide +kernel
theorem dX8_room_121 : decode cX8_room 121 = .ok (.iload_n 3, 1) := by decide +kernel
theorem dX8_room_122 : decode cX8_room 122 = .ok (.goto 26, 3) := by decide +kernel
theorem dX8_room_125 : decode cX8_room 125 = .ok (.iload_n 2, 1) := by decide +kernel
theorem dX8_room_126 : decode cX8_room 126 = .ok (.iconst 2, 1) := by decide +kernel
theorem dX8_room_127 : decode cX8_room 127 = .ok (.if_icmp .ne 8, 3) := by decide +kernel
theorem dX8_room_130 : decode cX8_room 130 = .ok (.iload 4, 2) := by decide +kernel
theorem dX8_room_132 : decode cX8_room 132 = .ok (.goto 16, 3) := by decide +kernel
theorem dX8_room_135 : decode cX8_room 135 = .ok (.aload_n 0, 1) := by decide +kernel
theorem dX8_room_136 : decode cX8_room 136 = .ok (.iload_n 1, 1) := by decide +kernel
theorem dX8_room_137 : decode cX8_room 137 = .ok (.invokevirtual 148, 3) := by decide +kernel
theorem dX8_room_140 : decode cX8_room 140 = .ok (.ifCond .eq 7, 3) := by decide +kernel
theorem dX8_room_143 : decode cX8_room 143 = .ok (.iconst 1, 1) := by decide +kernel
theorem dX8_room_144 : decode cX8_room 144 = .ok (.goto 4, 3) := by decide +kernel
theorem dX8_room_147 : decode cX8_room 147 = .ok (.iconst 0, 1) := by decide +kernel
theorem dX8_room_148 : decode cX8_room 148 = .ok (.ireturn, 1) := by decide +kernel
theorem dX8_notes_0 : decode cX8_notes 0 = .ok (.aload_n 0, 1) := by decide +kernel
theorem dX8_notes_1 : decode cX8_notes 1 = .ok (.getfield 118, 3) := by decide +kernel
theorem dX8_notes_4 : decode cX8_notes 4 = .ok (.bipush 10, 2) := by decide +kernel
theorem dX8_notes_6 : decode cX8_notes 6 = .ok (.if_icmp .ne 40, 3) := by decide +kernel
theorem dX8_notes_9 : decode cX8_notes 9 = .ok (.bipush 47, 2) := by decide +kernel
theorem dX8_notes_11 : decode cX8_notes 11 = .ok (.istore_n 1, 1) := by decide +kernel
theorem dX8_notes_12 : decode cX8_notes 12 = .ok (.iload_n 1, 1) := by decide +kernel
theorem dX8_notes_13 : decode cX8_notes 13 = .ok (.sipush 470, 3) := by decide +kernel
theorem dX8_notes_16 : decode cX8_notes 16 = .ok (.if_icmp .ge 24, 3) := by decide +kernel
theorem dX8_notes_19 : decode cX8_notes 19 = .ok (.aload_n 0, 1) := by decide +kernel
theorem dX8_notes_20 : decode cX8_notes 20 = .ok (.getfield 22, 3) := by decide +kernel
theorem dX8_notes_23 : decode cX8_notes 23 = .ok (.iload_n 1, 1) := by decide +kernel
theorem dX8_notes_24 : decode cX8_notes 24 = .ok (.bipush 47, 2) := by decide +kernel
theorem dX8_notes_26 : decode cX8_notes 26 = .ok (.isub, 1) := by decide +kernel
theorem dX8_notes_27 : decode cX8_notes 27 = .ok (.aload_n 0, 1) := by decide +kernel
theorem dX8_notes_28 : decode cX8_notes 28 = .ok (.getfield 22, 3) := by decide +kernel
theorem dX8_notes_31 : decode cX8_notes 31 = .ok (.iload_n 1, 1) := by decide +kernel
theorem dX8_notes_32 : decode cX8_notes 32 = .ok (.iaload, 1) := by decide +kernel
theorem dX8_notes_33 : decode cX8_notes 33 = .ok (.iastore, 1) := by decide +kernel
theorem dX8_notes_34 : decode cX8_notes 34 = .ok (.iinc 1 1, 3) := by decide +kernel
theorem dX8_notes_37 : decode cX8_notes 37 = .ok (.goto (-25), 3) := by decide +kernel
theorem dX8_notes_40 : decode cX8_notes 40 = .ok (.aload_n 0, 1) := by decide +kernel
theorem dX8_notes_41 : decode cX8_notes 41 = .ok (.bipush 9, 2) := by decide +kernel
theorem dX8_notes_43 : decode cX8_notes 43 = .ok (.putfield 118, 3) := by decide +kernel
theorem dX8_notes_46 : decode cX8_notes 46 = .ok (.iconst 0, 1) := by decide +kernel
theorem dX8_notes_47 : decode cX8_notes 47 = .ok (.istore_n 1, 1) := by decide +kernel
theorem dX8_notes_48 : decode cX8_notes 48 = .ok (.iload_n 1, 1) := by decide +kernel
theorem dX8_notes_49 : decode cX8_notes 49 = .ok (.bipush 47, 2) := by decide +kernel
theorem dX8_notes_51 : decode cX8_notes 51 = .ok (.if_icmp .ge 29, 3) := by decide +kernel
theorem dX8_notes_54 : decode cX8_notes 54 = .ok (.aload_n 0, 1) := by decide +kernel
theorem dX8_notes_55 : decode cX8_notes 55 = .ok (.getfield 22, 3) := by decide +kernel
theorem dX8_notes_58 : decode cX8_notes 58 = .ok (.bipush 47, 2) := by decide +kernel
theorem dX8_notes_60 : decode cX8_notes 60 = .ok (.aload_n 0, 1) := by decide +kernel
theorem dX8_notes_61 : decode cX8_notes 61 = .ok (.getfield 118, 3) := by decide +kernel
theorem dX8_notes_64 : decode cX8_notes 64 = .ok (.imul, 1) := by decide +kernel
theorem dX8_notes_65 : decode cX8_notes 65 = .ok (.iload_n 1, 1) := by decide +kernel
theorem dX8_notes_66 : decode cX8_notes 66 = .ok (.iadd, 1) := by decide +kernel
theorem dX8_notes_67 : decode cX8_notes 67 = .ok (.aload_n 0, 1) := by decide +kernel
theorem dX8_notes_68 : decode cX8_notes 68 = .ok (.getfield 19, 3) := by decide +kernel
theorem dX8_notes_71 : decode cX8_notes 71 = .ok (.iload_n 1, 1) := by decide +kernel
theorem dX8_notes_72 : decode cX8_notes 72 = .ok (.iaload, 1) := by decide +kernel
theorem dX8_notes_73 : decode cX8_notes 73 = .ok (.iastore, 1) := by decide +kernel
theorem dX8_notes_74 : decode cX8_notes 74 = .ok (.iinc 1 1, 3) := by decide +kernel
theorem dX8_notes_77 : decode cX8_notes 77 = .ok (.goto (-29), 3) := by decide +kernel
theorem dX8_notes_80 : decode cX8_notes 80 = .ok (.aload_n 0, 1) := by decide +kernel
theorem dX8_notes_81 : decode cX8_notes 81 = .ok (.dup, 1) := by decide +kernel
theorem dX8_notes_82 : decode cX8_notes 82 = .ok (.getfield 118, 3) := by decide +kernel
theorem dX8_notes_85 : decode cX8_notes 85 = .ok (.iconst 1, 1) := by decide +kernel
theorem dX8_notes_86 : decode cX8_notes 86 = .ok (.iadd, 1) := by decide +kernel
theorem dX8_notes_87 : decode cX8_notes 87 = .ok (.putfield 118, 3) := by decide +kernel
theorem dX8_notes_90 : decode cX8_notes 90 = .ok (.return_, 1) := by decide +kernel
theorem dX8_many_0 : decode cX8_many 0 = .ok (.iconst 0, 1) := by decide +kernel
theorem dX8_many_1 : decode cX8_many 1 = .ok (.istore 5, 2) := by decide +kernel
theorem dX8_many_3 : decode cX8_many 3 = .ok (.iconst 0, 1) := by decide +kernel
theorem dX8_many_4 : decode cX8_many 4 = .ok (.istore 6, 2) := by decide +kernel
theorem dX8_many_6 : decode cX8_many 6 = .ok (.iload 6, 2) := by decide +kernel
theorem dX8_many_8 : decode cX8_many 8 = .ok (.iload_n 3, 1) := by decide +kernel
theorem dX8_many_9 : decode cX8_many 9 = .ok (.if_icmp .ge 35, 3) := by decide +kernel
theorem dX8_many_12 : decode cX8_many 12 = .ok (.iload 5, 2) := by decide +kernel
theorem dX8_many_14 : decode cX8_many 14 = .ok (.aload_n 0, 1) := by decide +kernel
theorem dX8_many_15 : decode cX8_many 15 = .ok (.getfield 19, 3) := by decide +kernel
theorem dX8_many_18 : decode cX8_many 18 = .ok (.iload_n 1, 1) := by decide +kernel
theorem dX8_many_19 : decode cX8_many 19 = .ok (.iload_n 2, 1) := by decide +kernel
theorem dX8_many_20 : decode cX8_many 20 = .ok (.iload 6, 2) := by decide +kernel
theorem dX8_many_22 : decode cX8_many 22 = .ok (.imul, 1) := by decide +kernel
theorem dX8_many_23 : decode cX8_many 23 = .ok (.iadd, 1) := by decide +kernel
theorem dX8_many_24 : decode cX8_many 24 = .ok (.iaload, 1) := by decide +kernel
theorem dX8_many_25 : decode cX8_many 25 = .ok (.iload 4, 2) := by decide +kernel
theorem dX8_many_27 : decode cX8_many 27 = .ok (.if_icmp .ne 7, 3) := by decide +kernel
theorem dX8_many_30 : decode cX8_many 30 = .ok (.iconst 1, 1) := by decide +kernel
theorem dX8_many_31 : decode cX8_many 31 = .ok (.goto 4, 3) := by decide +kernel
theorem dX8_many_34 : decode cX8_many 34 = .ok (.iconst 0, 1) := by decide +kernel
theorem dX8_many_35 : decode cX8_many 35 = .ok (.iadd, 1) := by decide +kernel
theorem dX8_many_36 : decode cX8_many 36 = .ok (.istore 5, 2) := by decide +kernel
theorem dX8_many_38 : decode cX8_many 38 = .ok (.iinc 6 1, 3) := by decide +kernel
theorem dX8_many_41 : decode cX8_many 41 = .ok (.goto (-35), 3) := by decide +kernel
theorem dX8_many_44 : decode cX8_many 44 = .ok (.iload 5, 2) := by decide +kernel
theorem dX8_many_46 : decode cX8_many 46 = .ok (.ireturn, 1) := by decide +kernel
set_option maxRecDepth 20000 in
theorem ggX8_lights_X8_isCandle : GoodIn wsX8_lights wsX8_isCandle := goodIn_r _ [7, 2, 8, 9, 6, 10, 25, 26, 27, 28, 29, 30, 31, 32, 33, 34, 35, 36, 37, 38, 39, 40, 41, 42] (by decide +kernel) (by decide +kernel)
set_option maxRecDepth 20000 in
theorem gX8_lights_X8_isCandle : GoodIn wsX8_lights (wsV RX8 121 RX8 yX8_isCandle wsX8_isCandle) := goodIn_app (goodIn_of _ (by decide +kernel)) ggX8_lights_X8_isCandle
set_option maxRecDepth 20000 in
theorem ggX8_lights_X8_in : GoodIn wsX8_lights wsX8_in := goodIn_r _ [10] (by decide +kernel) (by decide +kernel)
set_option maxRecDepth 20000 in
theorem gX8_lights_X8_in : GoodIn wsX8_lights (va_wsS RX8 48 yX8_in wsX8_in) := goodIn_app (goodIn_of _ (by decide +kernel)) ggX8_lights_X8_in
set_option maxRecDepth 20000 in
theorem ggX8_lights_X8_left : GoodIn wsX8_lights wsX8_left := goodIn_r _ [14, 1, 25, 26, 27, 28, 29, 30, 31, 32, 33, 34, 35, 36, 37, 38, 39, 40, 41, 42] (by decide +kernel) (by decide +kernel)
set_option maxRecDepth 20000 in
theorem gX8_lights_X8_left : GoodIn wsX8_lights (wsV RX8 151 RX8 yX8_left wsX8_left) := goodIn_app (goodIn_of _ (by decide +kernel)) ggX8_lights_X8_left
set_option maxRecDepth 20000 in
theorem ggX8_lights_X8_notes : GoodIn wsX8_lights wsX8_notes := goodIn_r _ [18, 19, 20, 1, 25, 26, 27, 28, 29, 30, 31, 32, 33, 34, 35, 36, 37, 38, 39, 40, 41, 42] (by decide +kernel) (by decide +kernel)
set_option maxRecDepth 20000 in
theorem gX8_lights_X8_notes : GoodIn wsX8_lights (wsV RX8 154 RX8 yX8_notes wsX8_notes) := goodIn_app (goodIn_of _ (by decide +kernel)) ggX8_lights_X8_notes
set_option maxRecDepth 20000 in
theorem ggX8_lights_X8_many : GoodIn wsX8_lights wsX8_many := goodIn_r _ [24, 1, 25, 26, 27, 28, 29, 30, 31, 32, 33, 34, 35, 36, 37, 38, 39, 40, 41, 42] (by decide +kernel) (by decide +kernel)
set_option maxRecDepth 20000 in
theorem gX8_lights_X8_many : GoodIn wsX8_lights (wsV RX8 157 RX8 yX8_many wsX8_many) := goodIn_app (goodIn_of _ (by decide +kernel)) ggX8_lights_X8_many
theorem dX8_lights_0 : decode cX8_lights 0 = .ok (.aload_n 0, 1) := by decide +kernel
theorem dX8_lights_1 : decode cX8_lights 1 = .ok (.iload_n 1, 1) := by decide +kernel
theorem dX8_lights_2 : decode cX8_lights 2 = .ok (.invokevirtual 121, 3) := by decide +kernel
theorem dX8_lights_5 : decode cX8_lights 5 = .ok (.ifCond .eq 13, 3) := by decide +kernel
theorem dX8_lights_8 : decode cX8_lights 8 = .ok (.iload_n 2, 1) := by decide +kernel
theorem dX8_lights_9 : decode cX8_lights 9 = .ok (.i2l, 1) := by decide +kernel
theorem dX8_lights_10 : decode cX8_lights 10 = .ok (.lconst 0, 1) := by decide +kernel
theorem dX8_lights_11 : decode cX8_lights 11 = .ok (.lconst 1, 1) := by decide +kernel
theorem dX8_lights_12 : decode cX8_lights 12 = .ok (.invokestatic 48, 3) := by decide +kernel
theorem dX8_lights_15 : decode cX8_lights 15 = .ok (.ifCond .ne 5, 3) := by decide +kernel
theorem dX8_lights_18 : decode cX8_lights 18 = .ok (.iconst (-1), 1) := by decide +kernel
theorem dX8_lights_19 : decode cX8_lights 19 = .ok (.ireturn, 1) := by decide +kernel
theorem dX8_lights_20 : decode cX8_lights 20 = .ok (.aload_n 0, 1) := by decide +kernel
theorem dX8_lights_21 : decode cX8_lights 21 = .ok (.getfield 19, 3) := by decide +kernel
theorem dX8_lights_24 : decode cX8_lights 24 = .ok (.iconst 3, 1) := by decide +kernel
theorem dX8_lights_25 : decode cX8_lights 25 = .ok (.iconst 4, 1) := by decide +kernel
theorem dX8_lights_26 : decode cX8_lights 26 = .ok (.iload_n 1, 1) := by decide +kernel
theorem dX8_lights_27 : decode cX8_lights 27 = .ok (.imul, 1) := by decide +kernel
theorem dX8_lights_28 : decode cX8_lights 28 = .ok (.iadd, 1) := by decide +kernel
theorem dX8_lights_29 : decode cX8_lights 29 = .ok (.iaload, 1) := by decide +kernel
theorem dX8_lights_30 : decode cX8_lights 30 = .ok (.iload_n 2, 1) := by decide +kernel
theorem dX8_lights_31 : decode cX8_lights 31 = .ok (.if_icmp .eq 11, 3) := by decide +kernel
theorem dX8_lights_34 : decode cX8_lights 34 = .ok (.aload_n 0, 1) := by decide +kernel
theorem dX8_lights_35 : decode cX8_lights 35 = .ok (.iload_n 1, 1) := by decide +kernel
theorem dX8_lights_36 : decode cX8_lights 36 = .ok (.invokevirtual 151, 3) := by decide +kernel
theorem dX8_lights_39 : decode cX8_lights 39 = .ok (.ifCond .ne 6, 3) := by decide +kernel
theorem dX8_lights_42 : decode cX8_lights 42 = .ok (.bipush (-2), 2) := by decide +kernel
theorem dX8_lights_44 : decode cX8_lights 44 = .ok (.ireturn, 1) := by decide +kernel
theorem dX8_lights_45 : decode cX8_lights 45 = .ok (.aload_n 0, 1) := by decide +kernel
theorem dX8_lights_46 : decode cX8_lights 46 = .ok (.invokevirtual 154, 3) := by decide +kernel
theorem dX8_lights_49 : decode cX8_lights 49 = .ok (.aload_n 0, 1) := by decide +kernel
theorem dX8_lights_50 : decode cX8_lights 50 = .ok (.getfield 19, 3) := by decide +kernel
theorem dX8_lights_53 : decode cX8_lights 53 = .ok (.iconst 3, 1) := by decide +kernel
theorem dX8_lights_54 : decode cX8_lights 54 = .ok (.iconst 4, 1) := by decide +kernel
theorem dX8_lights_55 : decode cX8_lights 55 = .ok (.iload_n 1, 1) := by decide +kernel
theorem dX8_lights_56 : decode cX8_lights 56 = .ok (.imul, 1) := by decide +kernel
theorem dX8_lights_57 : decode cX8_lights 57 = .ok (.iadd, 1) := by decide +kernel
theorem dX8_lights_58 : decode cX8_lights 58 = .ok (.iload_n 2, 1) := by decide +kernel
theorem dX8_lights_59 : decode cX8_lights 59 = .ok (.iastore, 1) := by decide +kernel
theorem dX8_lights_60 : decode cX8_lights 60 = .ok (.aload_n 0, 1) := by decide +kernel
theorem dX8_lights_61 : decode cX8_lights 61 = .ok (.iconst 3, 1) := by decide +kernel
theorem dX8_lights_62 : decode cX8_lights 62 = .ok (.iconst 4, 1) := by decide +kernel
theorem dX8_lights_63 : decode cX8_lights 63 = .ok (.aload_n 0, 1) := by decide +kernel
theorem dX8_lights_64 : decode cX8_lights 64 = .ok (.getfield 16, 3) := by decide +kernel
theorem dX8_lights_67 : decode cX8_lights 67 = .ok (.iconst 2, 1) := by decide +kernel
theorem dX8_lights_68 : decode cX8_lights 68 = .ok (.iaload, 1) := by decide +kernel
theorem dX8_lights_69 : decode cX8_lights 69 = .ok (.iconst 1, 1) := by decide +kernel
theorem dX8_lights_70 : decode cX8_lights 70 = .ok (.invokevirtual 157, 3) := by decide +kernel
theorem dX8_lights_73 : decode cX8_lights 73 = .ok (.ireturn, 1) := by decide +kernel
set_option maxRecDepth 20000 in
theorem ggX8_carries_X8_isCandle : GoodIn wsX8_carries wsX8_isCandle := goodIn_r _ [7, 1, 8, 9, 6, 10, 25, 26, 27, 28, 29, 30, 31, 32, 33, 34, 35, 36, 37, 38, 39, 40, 41, 42] (by decide +kernel) (by decide +kernel)
set_option maxRecDepth 20000 in
theorem gX8_carries_X8_isCandle : GoodIn wsX8_carries (wsV RX8 121 RX8 yX8_isCandle wsX8_isCandle) := goodIn_app (goodIn_of _ (by decide +kernel)) ggX8_carries_X8_isCandle
set_option maxRecDepth 20000 in
theorem ggX8_carries_X8_isRoom : GoodIn wsX8_carries wsX8_isRoom := goodIn_r _ [14, 1, 8, 9, 6, 10, 25, 26, 27, 28, 29, 30, 31, 32, 33, 34, 35, 36, 37, 38, 39, 40, 41, 42] (by decide +kernel) (by decide +kernel)
set_option maxRecDepth 20000 in
theorem gX8_carries_X8_isRoom : GoodIn wsX8_carries (wsV RX8 136 RX8 yX8_isRoom wsX8_isRoom) := goodIn_app (goodIn_of _ (by decide +kernel)) ggX8_carries_X8_isRoom
set_option maxRecDepth 20000 in
theorem ggX8_carries_X8_roomOf : GoodIn wsX8_carries wsX8_roomOf := goodIn_r _ [18, 2, 25, 26, 27, 28, 29, 30, 31, 32, 33, 34, 35, 36, 37, 38, 39, 40, 41, 42] (by decide +kernel) (by decide +kernel)
set_option maxRecDepth 20000 in
theorem gX8_carries_X8_roomOf : GoodIn wsX8_carries (wsV RX8 141 RX8 yX8_roomOf wsX8_roomOf) := goodIn_app (goodIn_of _ (by decide +kernel)) ggX8_carries_X8_roomOf
set_option maxRecDepth 20000 in
theorem ggX8_carries_X8_notes : GoodIn wsX8_carries wsX8_notes := goodIn_r _ [22, 23, 24, 2, 25, 26, 27, 28, 29, 30, 31, 32, 33, 34, 35, 36, 37, 38, 39, 40, 41, 42] (by decide +kernel) (by decide +kernel)
set_option maxRecDepth 20000 in
theorem gX8_carries_X8_notes : GoodIn wsX8_carries (wsV RX8 154 RX8 yX8_notes wsX8_notes) := goodIn_app (goodIn_of _ (by decide +kernel)) ggX8_carries_X8_notes
theorem dX8_carries_0 : decode cX8_carries 0 = .ok (.aload_n 0, 1) := by decide +kernel
theorem dX8_carries_1 : decode cX8_carries 1 = .ok (.iload_n 1, 1) := by decide +kernel
theorem dX8_carries_2 : decode cX8_carries 2 = .ok (.invokevirtual 121, 3) := by decide +kernel
theorem dX8_carries_5 : decode cX8_carries 5 = .ok (.ifCond .eq 11, 3) := by decide +kernel
theorem dX8_carries_8 : decode cX8_carries 8 = .ok (.aload_n 0, 1) := by decide +kernel
theorem dX8_carries_9 : decode cX8_carries 9 = .ok (.iload_n 2, 1) := by decide +kernel
theorem dX8_carries_10 : decode cX8_carries 10 = .ok (.invokevirtual 136, 3) := by decide +kernel
theorem dX8_carries_13 : decode cX8_carries 13 = .ok (.ifCond .ne 5, 3) := by decide +kernel
theorem dX8_carries_16 : decode cX8_carries 16 = .ok (.iconst (-1), 1) := by decide +kernel
theorem dX8_carries_17 : decode cX8_carries 17 = .ok (.ireturn, 1) := by decide +kernel
theorem dX8_carries_18 : decode cX8_carries 18 = .ok (.aload_n 0, 1) := by decide +kernel
theorem dX8_carries_19 : decode cX8_carries 19 = .ok (.iload_n 1, 1) := by decide +kernel
theorem dX8_carries_20 : decode cX8_carries 20 = .ok (.invokevirtual 141, 3) := by decide +kernel
theorem dX8_carries_23 : decode cX8_carries 23 = .ok (.istore_n 3, 1) := by decide +kernel
theorem dX8_carries_24 : decode cX8_carries 24 = .ok (.iconst 0, 1) := by decide +kernel
theorem dX8_carries_25 : decode cX8_carries 25 = .ok (.istore 4, 2) := by decide +kernel
theorem dX8_carries_27 : decode cX8_carries 27 = .ok (.iconst 0, 1) := by decide +kernel
theorem dX8_carries_28 : decode cX8_carries 28 = .ok (.istore 5, 2) := by decide +kernel
theorem dX8_carries_30 : decode cX8_carries 30 = .ok (.iload 5, 2) := by decide +kernel
theorem dX8_carries_32 : decode cX8_carries 32 = .ok (.aload_n 0, 1) := by decide +kernel
theorem dX8_carries_33 : decode cX8_carries 33 = .ok (.getfield 16, 3) := by decide +kernel
theorem dX8_carries_36 : decode cX8_carries 36 = .ok (.iconst 1, 1) := by decide +kernel
theorem dX8_carries_37 : decode cX8_carries 37 = .ok (.iaload, 1) := by decide +kernel
theorem dX8_carries_38 : decode cX8_carries 38 = .ok (.if_icmp .ge 87, 3) := by decide +kernel
theorem dX8_carries_41 : decode cX8_carries 41 = .ok (.aload_n 0, 1) := by decide +kernel
theorem dX8_carries_42 : decode cX8_carries 42 = .ok (.getfield 16, 3) := by decide +kernel
theorem dX8_carries_45 : decode cX8_carries 45 = .ok (.iconst 5, 1) := by decide +kernel
theorem dX8_carries_46 : decode cX8_carries 46 = .ok (.iconst 2, 1) := by decide +kernel
theorem dX8_carries_47 : decode cX8_carries 47 = .ok (.iload 5, 2) := by decide +kernel
theorem dX8_carries_49 : decode cX8_carries 49 = .ok (.imul, 1) := by decide +kernel
theorem dX8_carries_50 : decode cX8_carries 50 = .ok (.iadd, 1) := by decide +kernel
theorem dX8_carries_51 : decode cX8_carries 51 = .ok (.iaload, 1) := by decide +kernel
theorem dX8_carries_52 : decode cX8_carries 52 = .ok (.istore 6, 2) := by decide +kernel
theorem dX8_carries_54 : decode cX8_carries 54 = .ok (.aload_n 0, 1) := by decide +kernel
theorem dX8_carries_55 : decode cX8_carries 55 = .ok (.getfield 16, 3) := by decide +kernel
theorem dX8_carries_58 : decode cX8_carries 58 = .ok (.iconst 5, 1) := by decide +kernel
theorem dX8_carries_59 : decode cX8_carries 59 = .ok (.iconst 2, 1) := by decide +kernel
theorem dX8_carries_60 : decode cX8_carries 60 = .ok (.iload 5, 2) := by decide +kernel
theorem dX8_carries_62 : decode cX8_carries 62 = .ok (.imul, 1) := by decide +kernel
theorem dX8_carries_63 : decode cX8_carries 63 = .ok (.iadd, 1) := by decide +kernel
theorem dX8_carries_64 : decode cX8_carries 64 = .ok (.iconst 1, 1) := by decide +kernel
theorem dX8_carries_65 : decode cX8_carries 65 = .ok (.iadd, 1) := by decide +kernel
theorem dX8_carries_66 : decode cX8_carries 66 = .ok (.iaload, 1) := by decide +kernel
theorem dX8_carries_67 : decode cX8_carries 67 = .ok (.istore 7, 2) := by decide +kernel
theorem dX8_carries_69 : decode cX8_carries 69 = .ok (.iload 4, 2) := by decide +kernel
theorem dX8_carries_71 : decode cX8_carries 71 = .ok (.ifCond .ne 41, 3) := by decide +kernel
theorem dX8_carries_74 : decode cX8_carries 74 = .ok (.aload_n 0, 1) := by decide +kernel
theorem dX8_carries_75 : decode cX8_carries 75 = .ok (.getfield 19, 3) := by decide +kernel
theorem dX8_carries_78 : decode cX8_carries 78 = .ok (.bipush 25, 2) := by decide +kernel
theorem dX8_carries_80 : decode cX8_carries 80 = .ok (.iload 5, 2) := by decide +kernel
theorem dX8_carries_82 : decode cX8_carries 82 = .ok (.iadd, 1) := by decide +kernel
theorem dX8_carries_83 : decode cX8_carries 83 = .ok (.iaload, 1) := by decide +kernel
theorem dX8_carries_84 : decode cX8_carries 84 = .ok (.iconst 1, 1) := by decide +kernel
theorem dX8_carries_85 : decode cX8_carries 85 = .ok (.if_icmp .ne 31, 3) := by decide +kernel
theorem dX8_carries_88 : decode cX8_carries 88 = .ok (.iload 6, 2) := by decide +kernel
theorem dX8_carries_90 : decode cX8_carries 90 = .ok (.iload_n 3, 1) := by decide +kernel
theorem dX8_carries_91 : decode cX8_carries 91 = .ok (.if_icmp .ne 9, 3) := by decide +kernel
theorem dX8_carries_94 : decode cX8_carries 94 = .ok (.iload 7, 2) := by decide +kernel
theorem dX8_carries_96 : decode cX8_carries 96 = .ok (.iload_n 2, 1) := by decide +kernel
theorem dX8_carries_97 : decode cX8_carries 97 = .ok (.if_icmp .eq 15, 3) := by decide +kernel
theorem dX8_carries_100 : decode cX8_carries 100 = .ok (.iload 6, 2) := by decide +kernel
theorem dX8_carries_102 : decode cX8_carries 102 = .ok (.iload_n 2, 1) := by decide +kernel
theorem dX8_carries_103 : decode cX8_carries 103 = .ok (.if_icmp .ne 13, 3) := by decide +kernel
theorem dX8_carries_106 : decode cX8_carries 106 = .ok (.iload 7, 2) := by decide +kernel
theorem dX8_carries_108 : decode cX8_carries 108 = .ok (.iload_n 3, 1) := by decide +kernel
theorem dX8_carries_109 : decode cX8_carries 109 = .ok (.if_icmp .ne 7, 3) := by decide +kernel
theorem dX8_carries_112 : decode cX8_carries 112 = .ok (.iconst 1, 1) := by decide +kernel
theorem dX8_carries_113 : decode cX8_carries 113 = .ok (.goto 4, 3) := by decide +kernel
theorem dX8_carries_116 : decode cX8_carries 116 = .ok (.iconst 0, 1) := by decide +kernel
theorem dX8_carries_117 : decode cX8_carries 117 = .ok (.istore 4, 2) := by decide +kernel
theorem dX8_carries_119 : decode cX8_carries 119 = .ok (.iinc 5 1, 3) := by decide +kernel
theorem dX8_carries_122 : decode cX8_carries 122 = .ok (.goto (-92), 3) := by decide +kernel
theorem dX8_carries_125 : decode cX8_carries 125 = .ok (.iload_n 3, 1) := by decide +kernel
theorem dX8_carries_126 : decode cX8_carries 126 = .ok (.iload_n 2, 1) := by decide +kernel
theorem dX8_carries_127 : decode cX8_carries 127 = .ok (.if_icmp .eq 8, 3) := by decide +kernel
theorem dX8_carries_130 : decode cX8_carries 130 = .ok (.iload 4, 2) := by decide +kernel
theorem dX8_carries_132 : decode cX8_carries 132 = .ok (.ifCond .ne 6, 3) := by decide +kernel
theorem dX8_carries_135 : decode cX8_carries 135 = .ok (.bipush (-2), 2) := by decide +kernel
theorem dX8_carries_137 : decode cX8_carries 137 = .ok (.ireturn, 1) := by decide +kernel
theorem dX8_carries_138 : decode cX8_carries 138 = .ok (.aload_n 0, 1) := by decide +kernel
theorem dX8_carries_139 : decode cX8_carries 139 = .ok (.invokevirtual 154, 3) := by decide +kernel
theorem dX8_carries_142 : decode cX8_carries 142 = .ok (.aload_n 0, 1) := by decide +kernel
theorem dX8_carries_143 : decode cX8_carries 143 = .ok (.getfield 19, 3) := by decide +kernel
theorem dX8_carries_146 : decode cX8_carries 146 = .ok (.iconst 2, 1) := by decide +kernel
theorem dX8_carries_147 : decode cX8_carries 147 = .ok (.iconst 4, 1) := by decide +kernel
theorem dX8_carries_148 : decode cX8_carries 148 = .ok (.iload_n 1, 1) := by decide +kernel
theorem dX8_carries_149 : decode cX8_carries 149 = .ok (.imul, 1) := by decide +kernel
theorem dX8_carries_150 : decode cX8_carries 150 = .ok (.iadd, 1) := by decide +kernel
theorem dX8_carries_151 : decode cX8_carries 151 = .ok (.iload_n 2, 1) := by decide +kernel
theorem dX8_carries_152 : decode cX8_carries 152 = .ok (.iastore, 1) := by decide +kernel
theorem dX8_carries_153 : decode cX8_carries 153 = .ok (.iload_n 3, 1) := by decide +kernel
theorem dX8_carries_154 : decode cX8_carries 154 = .ok (.ireturn, 1) := by decide +kernel
set_option maxRecDepth 20000 in
theorem ggX8_shields_X8_isCandle : GoodIn wsX8_shields wsX8_isCandle := goodIn_r _ [7, 2, 8, 9, 6, 10, 21, 22, 23, 24, 25, 26, 27, 28, 29, 30, 31, 32, 33, 34, 35, 36, 37, 38] (by decide +kernel) (by decide +kernel)
set_option maxRecDepth 20000 in
theorem gX8_shields_X8_isCandle : GoodIn wsX8_shields (wsV RX8 121 RX8 yX8_isCandle wsX8_isCandle) := goodIn_app (goodIn_of _ (by decide +kernel)) ggX8_shields_X8_isCandle
set_option maxRecDepth 20000 in
theorem ggX8_shields_X8_in : GoodIn wsX8_shields wsX8_in := goodIn_r _ [10] (by decide +kernel) (by decide +kernel)
set_option maxRecDepth 20000 in
theorem gX8_shields_X8_in : GoodIn wsX8_shields (va_wsS RX8 48 yX8_in wsX8_in) := goodIn_app (goodIn_of _ (by decide +kernel)) ggX8_shields_X8_in
set_option maxRecDepth 20000 in
theorem ggX8_shields_X8_notes : GoodIn wsX8_shields wsX8_notes := goodIn_r _ [14, 15, 16, 1, 21, 22, 23, 24, 25, 26, 27, 28, 29, 30, 31, 32, 33, 34, 35, 36, 37, 38] (by decide +kernel) (by decide +kernel)
set_option maxRecDepth 20000 in
theorem gX8_shields_X8_notes : GoodIn wsX8_shields (wsV RX8 154 RX8 yX8_notes wsX8_notes) := goodIn_app (goodIn_of _ (by decide +kernel)) ggX8_shields_X8_notes
set_option maxRecDepth 20000 in
theorem ggX8_shields_X8_many : GoodIn wsX8_shields wsX8_many := goodIn_r _ [20, 1, 21, 22, 23, 24, 25, 26, 27, 28, 29, 30, 31, 32, 33, 34, 35, 36, 37, 38] (by decide +kernel) (by decide +kernel)
set_option maxRecDepth 20000 in
theorem gX8_shields_X8_many : GoodIn wsX8_shields (wsV RX8 157 RX8 yX8_many wsX8_many) := goodIn_app (goodIn_of _ (by decide +kernel)) ggX8_shields_X8_many
theorem dX8_shields_0 : decode cX8_shields 0 = .ok (.aload_n 0, 1) := by decide +kernel
theorem dX8_shields_1 : decode cX8_shields 1 = .ok (.iload_n 1, 1) := by decide +kernel
theorem dX8_shields_2 : decode cX8_shields 2 = .ok (.invokevirtual 121, 3) := by decide +kernel
theorem dX8_shields_5 : decode cX8_shields 5 = .ok (.ifCond .eq 13, 3) := by decide +kernel
theorem dX8_shields_8 : decode cX8_shields 8 = .ok (.iload_n 2, 1) := by decide +kernel
theorem dX8_shields_9 : decode cX8_shields 9 = .ok (.i2l, 1) := by decide +kernel
theorem dX8_shields_10 : decode cX8_shields 10 = .ok (.lconst 0, 1) := by decide +kernel
theorem dX8_shields_11 : decode cX8_shields 11 = .ok (.lconst 1, 1) := by decide +kernel
theorem dX8_shields_12 : decode cX8_shields 12 = .ok (.invokestatic 48, 3) := by decide +kernel
theorem dX8_shields_15 : decode cX8_shields 15 = .ok (.ifCond .ne 5, 3) := by decide +kernel
theorem dX8_shields_18 : decode cX8_shields 18 = .ok (.iconst (-1), 1) := by decide +kernel
theorem dX8_shields_19 : decode cX8_shields 19 = .ok (.ireturn, 1) := by decide +kernel
theorem dX8_shields_20 : decode cX8_shields 20 = .ok (.aload_n 0, 1) := by decide +kernel
theorem dX8_shields_21 : decode cX8_shields 21 = .ok (.getfield 19, 3) := by decide +kernel
theorem dX8_shields_24 : decode cX8_shields 24 = .ok (.iconst 4, 1) := by decide +kernel
theorem dX8_shields_25 : decode cX8_shields 25 = .ok (.iconst 4, 1) := by decide +kernel
theorem dX8_shields_26 : decode cX8_shields 26 = .ok (.iload_n 1, 1) := by decide +kernel
theorem dX8_shields_27 : decode cX8_shields 27 = .ok (.imul, 1) := by decide +kernel
theorem dX8_shields_28 : decode cX8_shields 28 = .ok (.iadd, 1) := by decide +kernel
theorem dX8_shields_29 : decode cX8_shields 29 = .ok (.iaload, 1) := by decide +kernel
theorem dX8_shields_30 : decode cX8_shields 30 = .ok (.iload_n 2, 1) := by decide +kernel
theorem dX8_shields_31 : decode cX8_shields 31 = .ok (.if_icmp .ne 6, 3) := by decide +kernel
theorem dX8_shields_34 : decode cX8_shields 34 = .ok (.bipush (-2), 2) := by decide +kernel
theorem dX8_shields_36 : decode cX8_shields 36 = .ok (.ireturn, 1) := by decide +kernel
theorem dX8_shields_37 : decode cX8_shields 37 = .ok (.aload_n 0, 1) := by decide +kernel
theorem dX8_shields_38 : decode cX8_shields 38 = .ok (.invokevirtual 154, 3) := by decide +kernel
theorem dX8_shields_41 : decode cX8_shields 41 = .ok (.aload_n 0, 1) := by decide +kernel
theorem dX8_shields_42 : decode cX8_shields 42 = .ok (.getfield 19, 3) := by decide +kernel
theorem dX8_shields_45 : decode cX8_shields 45 = .ok (.iconst 4, 1) := by decide +kernel
theorem dX8_shields_46 : decode cX8_shields 46 = .ok (.iconst 4, 1) := by decide +kernel
theorem dX8_shields_47 : decode cX8_shields 47 = .ok (.iload_n 1, 1) := by decide +kernel
theorem dX8_shields_48 : decode cX8_shields 48 = .ok (.imul, 1) := by decide +kernel
theorem dX8_shields_49 : decode cX8_shields 49 = .ok (.iadd, 1) := by decide +kernel
theorem dX8_shields_50 : decode cX8_shields 50 = .ok (.iload_n 2, 1) := by decide +kernel
theorem dX8_shields_51 : decode cX8_shields 51 = .ok (.iastore, 1) := by decide +kernel
theorem dX8_shields_52 : decode cX8_shields 52 = .ok (.aload_n 0, 1) := by decide +kernel
theorem dX8_shields_53 : decode cX8_shields 53 = .ok (.iconst 4, 1) := by decide +kernel
theorem dX8_shields_54 : decode cX8_shields 54 = .ok (.iconst 4, 1) := by decide +kernel
theorem dX8_shields_55 : decode cX8_shields 55 = .ok (.aload_n 0, 1) := by decide +kernel
theorem dX8_shields_56 : decode cX8_shields 56 = .ok (.getfield 16, 3) := by decide +kernel
theorem dX8_shields_59 : decode cX8_shields 59 = .ok (.iconst 2, 1) := by decide +kernel
theorem dX8_shields_60 : decode cX8_shields 60 = .ok (.iaload, 1) := by decide +kernel
theorem dX8_shields_61 : decode cX8_shields 61 = .ok (.iconst 1, 1) := by decide +kernel
theorem dX8_shields_62 : decode cX8_shields 62 = .ok (.invokevirtual 157, 3) := by decide +kernel
theorem dX8_shields_65 : decode cX8_shields 65 = .ok (.ireturn, 1) := by decide +kernel
set_option maxRecDepth 20000 in
theorem ggX8_opens_X8_isDoor : GoodIn wsX8_opens wsX8_isDoor := goodIn_r _ [7, 2, 8, 9, 6, 10, 21, 22, 23, 24, 25, 26, 27, 28, 29, 30, 31, 32, 33, 34, 35, 36, 37, 38] (by decide +kernel) (by decide +kernel)
set_option maxRecDepth 20000 in
theorem gX8_opens_X8_isDoor : GoodIn wsX8_opens (wsV RX8 126 RX8 yX8_isDoor wsX8_isDoor) := goodIn_app (goodIn_of _ (by decide +kernel)) ggX8_opens_X8_isDoor
set_option maxRecDepth 20000 in
theorem ggX8_opens_X8_in : GoodIn wsX8_opens wsX8_in := goodIn_r _ [10] (by decide +kernel) (by decide +kernel)
set_option maxRecDepth 20000 in
theorem gX8_opens_X8_in : GoodIn wsX8_opens (va_wsS RX8 48 yX8_in wsX8_in) := goodIn_app (goodIn_of _ (by decide +kernel)) ggX8_opens_X8_in
set_option maxRecDepth 20000 in
theorem ggX8_opens_X8_notes : GoodIn wsX8_opens wsX8_notes := goodIn_r _ [14, 15, 16, 1, 21, 22, 23, 24, 25, 26, 27, 28, 29, 30, 31, 32, 33, 34, 35, 36, 37, 38] (by decide +kernel) (by decide +kernel)
set_option maxRecDepth 20000 in
theorem gX8_opens_X8_notes : GoodIn wsX8_opens (wsV RX8 154 RX8 yX8_notes wsX8_notes) := goodIn_app (goodIn_of _ (by decide +kernel)) ggX8_opens_X8_notes
set_option maxRecDepth 20000 in
theorem ggX8_opens_X8_many : GoodIn wsX8_opens wsX8_many := goodIn_r _ [20, 1, 21, 22, 23, 24, 25, 26, 27, 28, 29, 30, 31, 32, 33, 34, 35, 36, 37, 38] (by decide +kernel) (by decide +kernel)
set_option maxRecDepth 20000 in
theorem gX8_opens_X8_many : GoodIn wsX8_opens (wsV RX8 157 RX8 yX8_many wsX8_many) := goodIn_app (goodIn_of _ (by decide +kernel)) ggX8_opens_X8_many
theorem dX8_opens_0 : decode cX8_opens 0 = .ok (.aload_n 0, 1) := by decide +kernel
theorem dX8_opens_1 : decode cX8_opens 1 = .ok (.iload_n 1, 1) := by decide +kernel
theorem dX8_opens_2 : decode cX8_opens 2 = .ok (.invokevirtual 126, 3) := by decide +kernel
theorem dX8_opens_5 : decode cX8_opens 5 = .ok (.ifCond .eq 13, 3) := by decide +kernel
theorem dX8_opens_8 : decode cX8_opens 8 = .ok (.iload_n 2, 1) := by decide +kernel
theorem dX8_opens_9 : decode cX8_opens 9 = .ok (.i2l, 1) := by decide +kernel
theorem dX8_opens_10 : decode cX8_opens 10 = .ok (.lconst 0, 1) := by decide +kernel
theorem dX8_opens_11 : decode cX8_opens 11 = .ok (.lconst 1, 1) := by decide +kernel
theorem dX8_opens_12 : decode cX8_opens 12 = .ok (.invokestatic 48, 3) := by decide +kernel
theorem dX8_opens_15 : decode cX8_opens 15 = .ok (.ifCond .ne 5, 3) := by decide +kernel
theorem dX8_opens_18 : decode cX8_opens 18 = .ok (.iconst (-1), 1) := by decide +kernel
theorem dX8_opens_19 : decode cX8_opens 19 = .ok (.ireturn, 1) := by decide +kernel
theorem dX8_opens_20 : decode cX8_opens 20 = .ok (.aload_n 0, 1) := by decide +kernel
theorem dX8_opens_21 : decode cX8_opens 21 = .ok (.getfield 19, 3) := by decide +kernel
theorem dX8_opens_24 : decode cX8_opens 24 = .ok (.bipush 25, 2) := by decide +kernel
theorem dX8_opens_26 : decode cX8_opens 26 = .ok (.iload_n 1, 1) := by decide +kernel
theorem dX8_opens_27 : decode cX8_opens 27 = .ok (.iadd, 1) := by decide +kernel
theorem dX8_opens_28 : decode cX8_opens 28 = .ok (.iaload, 1) := by decide +kernel
theorem dX8_opens_29 : decode cX8_opens 29 = .ok (.iload_n 2, 1) := by decide +kernel
theorem dX8_opens_30 : decode cX8_opens 30 = .ok (.if_icmp .ne 6, 3) := by decide +kernel
theorem dX8_opens_33 : decode cX8_opens 33 = .ok (.bipush (-2), 2) := by decide +kernel
theorem dX8_opens_35 : decode cX8_opens 35 = .ok (.ireturn, 1) := by decide +kernel
theorem dX8_opens_36 : decode cX8_opens 36 = .ok (.aload_n 0, 1) := by decide +kernel
theorem dX8_opens_37 : decode cX8_opens 37 = .ok (.invokevirtual 154, 3) := by decide +kernel
theorem dX8_opens_40 : decode cX8_opens 40 = .ok (.aload_n 0, 1) := by decide +kernel
theorem dX8_opens_41 : decode cX8_opens 41 = .ok (.getfield 19, 3) := by decide +kernel
theorem dX8_opens_44 : decode cX8_opens 44 = .ok (.bipush 25, 2) := by decide +kernel
theorem dX8_opens_46 : decode cX8_opens 46 = .ok (.iload_n 1, 1) := by decide +kernel
theorem dX8_opens_47 : decode cX8_opens 47 = .ok (.iadd, 1) := by decide +kernel
theorem dX8_opens_48 : decode cX8_opens 48 = .ok (.iload_n 2, 1) := by decide +kernel
theorem dX8_opens_49 : decode cX8_opens 49 = .ok (.iastore, 1) := by decide +kernel
theorem dX8_opens_50 : decode cX8_opens 50 = .ok (.aload_n 0, 1) := by decide +kernel
theorem dX8_opens_51 : decode cX8_opens 51 = .ok (.bipush 25, 2) := by decide +kernel
theorem dX8_opens_53 : decode cX8_opens 53 = .ok (.iconst 1, 1) := by decide +kernel
theorem dX8_opens_54 : decode cX8_opens 54 = .ok (.aload_n 0, 1) := by decide +kernel
theorem dX8_opens_55 : decode cX8_opens 55 = .ok (.getfield 16, 3) := by decide +kernel
theorem dX8_opens_58 : decode cX8_opens 58 = .ok (.iconst 1, 1) := by decide +kernel
theorem dX8_opens_59 : decode cX8_opens 59 = .ok (.iaload, 1) := by decide +kernel
theorem dX8_opens_60 : decode cX8_opens 60 = .ok (.iconst 1, 1) := by decide +kernel
theorem dX8_opens_61 : decode cX8_opens 61 = .ok (.invokevirtual 157, 3) := by decide +kernel
theorem dX8_opens_64 : decode cX8_opens 64 = .ok (.ireturn, 1) := by decide +kernel
set_option maxRecDepth 20000 in
theorem ggX8_begins_X8_isAct : GoodIn wsX8_begins wsX8_isAct := goodIn_r _ [7, 2, 8, 9, 6, 10, 21, 22, 23, 24, 25, 26, 27, 28, 29, 30, 31, 32, 33, 34, 35, 36, 37, 38] (by decide +kernel) (by decide +kernel)
set_option maxRecDepth 20000 in
theorem gX8_begins_X8_isAct : GoodIn wsX8_begins (wsV RX8 131 RX8 yX8_isAct wsX8_isAct) := goodIn_app (goodIn_of _ (by decide +kernel)) ggX8_begins_X8_isAct
set_option maxRecDepth 20000 in
theorem ggX8_begins_X8_notes : GoodIn wsX8_begins wsX8_notes := goodIn_r _ [14, 15, 16, 1, 21, 22, 23, 24, 25, 26, 27, 28, 29, 30, 31, 32, 33, 34, 35, 36, 37, 38] (by decide +kernel) (by decide +kernel)
set_option maxRecDepth 20000 in
theorem gX8_begins_X8_notes : GoodIn wsX8_begins (wsV RX8 154 RX8 yX8_notes wsX8_notes) := goodIn_app (goodIn_of _ (by decide +kernel)) ggX8_begins_X8_notes
set_option maxRecDepth 20000 in
theorem ggX8_begins_X8_many : GoodIn wsX8_begins wsX8_many := goodIn_r _ [20, 1, 21, 22, 23, 24, 25, 26, 27, 28, 29, 30, 31, 32, 33, 34, 35, 36, 37, 38] (by decide +kernel) (by decide +kernel)
set_option maxRecDepth 20000 in
theorem gX8_begins_X8_many : GoodIn wsX8_begins (wsV RX8 157 RX8 yX8_many wsX8_many) := goodIn_app (goodIn_of _ (by decide +kernel)) ggX8_begins_X8_many
theorem dX8_begins_0 : decode cX8_begins 0 = .ok (.aload_n 0, 1) := by decide +kernel
theorem dX8_begins_1 : decode cX8_begins 1 = .ok (.iload_n 1, 1) := by decide +kernel
theorem dX8_begins_2 : decode cX8_begins 2 = .ok (.invokevirtual 131, 3) := by decide +kernel
theorem dX8_begins_5 : decode cX8_begins 5 = .ok (.ifCond .ne 5, 3) := by decide +kernel
theorem dX8_begins_8 : decode cX8_begins 8 = .ok (.iconst (-1), 1) := by decide +kernel
theorem dX8_begins_9 : decode cX8_begins 9 = .ok (.ireturn, 1) := by decide +kernel
theorem dX8_begins_10 : decode cX8_begins 10 = .ok (.aload_n 0, 1) := by decide +kernel
theorem dX8_begins_11 : decode cX8_begins 11 = .ok (.getfield 19, 3) := by decide +kernel
theorem dX8_begins_14 : decode cX8_begins 14 = .ok (.bipush 30, 2) := by decide +kernel
theorem dX8_begins_16 : decode cX8_begins 16 = .ok (.iconst 2, 1) := by decide +kernel
theorem dX8_begins_17 : decode cX8_begins 17 = .ok (.iload_n 1, 1) := by decide +kernel
theorem dX8_begins_18 : decode cX8_begins 18 = .ok (.imul, 1) := by decide +kernel
theorem dX8_begins_19 : decode cX8_begins 19 = .ok (.iadd, 1) := by decide +kernel
theorem dX8_begins_20 : decode cX8_begins 20 = .ok (.iaload, 1) := by decide +kernel
theorem dX8_begins_21 : decode cX8_begins 21 = .ok (.ifCond .eq 6, 3) := by decide +kernel
theorem dX8_begins_24 : decode cX8_begins 24 = .ok (.bipush (-2), 2) := by decide +kernel
theorem dX8_begins_26 : decode cX8_begins 26 = .ok (.ireturn, 1) := by decide +kernel
theorem dX8_begins_27 : decode cX8_begins 27 = .ok (.aload_n 0, 1) := by decide +kernel
theorem dX8_begins_28 : decode cX8_begins 28 = .ok (.invokevirtual 154, 3) := by decide +kernel
theorem dX8_begins_31 : decode cX8_begins 31 = .ok (.aload_n 0, 1) := by decide +kernel
theorem dX8_begins_32 : decode cX8_begins 32 = .ok (.getfield 19, 3) := by decide +kernel
theorem dX8_begins_35 : decode cX8_begins 35 = .ok (.bipush 30, 2) := by decide +kernel
theorem dX8_begins_37 : decode cX8_begins 37 = .ok (.iconst 2, 1) := by decide +kernel
theorem dX8_begins_38 : decode cX8_begins 38 = .ok (.iload_n 1, 1) := by decide +kernel
theorem dX8_begins_39 : decode cX8_begins 39 = .ok (.imul, 1) := by decide +kernel
theorem dX8_begins_40 : decode cX8_begins 40 = .ok (.iadd, 1) := by decide +kernel
theorem dX8_begins_41 : decode cX8_begins 41 = .ok (.iconst 1, 1) := by decide +kernel
theorem dX8_begins_42 : decode cX8_begins 42 = .ok (.iastore, 1) := by decide +kernel
theorem dX8_begins_43 : decode cX8_begins 43 = .ok (.aload_n 0, 1) := by decide +kernel
theorem dX8_begins_44 : decode cX8_begins 44 = .ok (.bipush 30, 2) := by decide +kernel
theorem dX8_begins_46 : decode cX8_begins 46 = .ok (.iconst 2, 1) := by decide +kernel
theorem dX8_begins_47 : decode cX8_begins 47 = .ok (.aload_n 0, 1) := by decide +kernel
theorem dX8_begins_48 : decode cX8_begins 48 = .ok (.getfield 16, 3) := by decide +kernel
theorem dX8_begins_51 : decode cX8_begins 51 = .ok (.iconst 3, 1) := by decide +kernel
theorem dX8_begins_52 : decode cX8_begins 52 = .ok (.iaload, 1) := by decide +kernel
theorem dX8_begins_53 : decode cX8_begins 53 = .ok (.iconst 1, 1) := by decide +kernel
theorem dX8_begins_54 : decode cX8_begins 54 = .ok (.invokevirtual 157, 3) := by decide +kernel
theorem dX8_begins_57 : decode cX8_begins 57 = .ok (.ireturn, 1) := by decide +kernel
theorem dX8_isWind_0 : decode cX8_isWind 0 = .ok (.aload_n 0, 1) := by decide +kernel
theorem dX8_isWind_1 : decode cX8_isWind 1 = .ok (.getfield 16, 3) := by decide +kernel
theorem dX8_isWind_4 : decode cX8_isWind 4 = .ok (.iconst 4, 1) := by decide +kernel
theorem dX8_isWind_5 : decode cX8_isWind 5 = .ok (.iaload, 1) := by decide +kernel
theorem dX8_isWind_6 : decode cX8_isWind 6 = .ok (.ifCond .le 27, 3) := by decide +kernel
theorem dX8_isWind_9 : decode cX8_isWind 9 = .ok (.aload_n 0, 1) := by decide +kernel
theorem dX8_isWind_10 : decode cX8_isWind 10 = .ok (.getfield 16, 3) := by decide +kernel
theorem dX8_isWind_13 : decode cX8_isWind 13 = .ok (.bipush 51, 2) := by decide +kernel
theorem dX8_isWind_15 : decode cX8_isWind 15 = .ok (.iload_n 1, 1) := by decide +kernel
theorem dX8_isWind_16 : decode cX8_isWind 16 = .ok (.aload_n 0, 1) := by decide +kernel
theorem dX8_isWind_17 : decode cX8_isWind 17 = .ok (.getfield 16, 3) := by decide +kernel
theorem dX8_isWind_20 : decode cX8_isWind 20 = .ok (.iconst 4, 1) := by decide +kernel
theorem dX8_isWind_21 : decode cX8_isWind 21 = .ok (.iaload, 1) := by decide +kernel
theorem dX8_isWind_22 : decode cX8_isWind 22 = .ok (.irem, 1) := by decide +kernel
theorem dX8_isWind_23 : decode cX8_isWind 23 = .ok (.iadd, 1) := by decide +kernel
theorem dX8_isWind_24 : decode cX8_isWind 24 = .ok (.iaload, 1) := by decide +kernel
theorem dX8_isWind_25 : decode cX8_isWind 25 = .ok (.iconst 1, 1) := by decide +kernel
theorem dX8_isWind_26 : decode cX8_isWind 26 = .ok (.if_icmp .ne 7, 3) := by decide +kernel
theorem dX8_isWind_29 : decode cX8_isWind 29 = .ok (.iconst 1, 1) := by decide +kernel
theorem dX8_isWind_30 : decode cX8_isWind 30 = .ok (.goto 4, 3) := by decide +kernel
theorem dX8_isWind_33 : decode cX8_isWind 33 = .ok (.iconst 0, 1) := by decide +kernel
theorem dX8_isWind_34 : decode cX8_isWind 34 = .ok (.ireturn, 1) := by decide +kernel
set_option maxRecDepth 20000 in
theorem ggX8_isLight_X8_isLit : GoodIn wsX8_isLight wsX8_isLit := goodIn_r _ [6, 7, 12, 13, 14, 15, 16, 17, 18, 19, 20, 21, 22, 23, 24, 25, 26, 27, 28, 29] (by decide +kernel) (by decide +kernel)
set_option maxRecDepth 20000 in
theorem gX8_isLight_X8_isLit : GoodIn wsX8_isLight (wsV RX8 145 RX8 yX8_isLit wsX8_isLit) := goodIn_app (goodIn_of _ (by decide +kernel)) ggX8_isLight_X8_isLit
set_option maxRecDepth 20000 in
theorem ggX8_isLight_X8_roomOf : GoodIn wsX8_isLight wsX8_roomOf := goodIn_r _ [11, 7, 12, 13, 14, 15, 16, 17, 18, 19, 20, 21, 22, 23, 24, 25, 26, 27, 28, 29] (by decide +kernel) (by decide +kernel)
set_option maxRecDepth 20000 in
theorem gX8_isLight_X8_roomOf : GoodIn wsX8_isLight (wsV RX8 141 RX8 yX8_roomOf wsX8_roomOf) := goodIn_app (goodIn_of _ (by decide +kernel)) ggX8_isLight_X8_roomOf
theorem dX8_isLight_0 : decode cX8_isLight 0 = .ok (.iconst 0, 1) := by decide +kernel
theorem dX8_isLight_1 : decode cX8_isLight 1 = .ok (.istore_n 2, 1) := by decide +kernel
theorem dX8_isLight_2 : decode cX8_isLight 2 = .ok (.iconst 0, 1) := by decide +kernel
theorem dX8_isLight_3 : decode cX8_isLight 3 = .ok (.istore_n 3, 1) := by decide +kernel
theorem dX8_isLight_4 : decode cX8_isLight 4 = .ok (.iload_n 3, 1) := by decide +kernel
theorem dX8_isLight_5 : decode cX8_isLight 5 = .ok (.aload_n 0, 1) := by decide +kernel
theorem dX8_isLight_6 : decode cX8_isLight 6 = .ok (.getfield 16, 3) := by decide +kernel
theorem dX8_isLight_9 : decode cX8_isLight 9 = .ok (.iconst 2, 1) := by decide +kernel
theorem dX8_isLight_10 : decode cX8_isLight 10 = .ok (.iaload, 1) := by decide +kernel
theorem dX8_isLight_11 : decode cX8_isLight 11 = .ok (.if_icmp .ge 36, 3) := by decide +kernel
theorem dX8_isLight_14 : decode cX8_isLight 14 = .ok (.iload_n 2, 1) := by decide +kernel
theorem dX8_isLight_15 : decode cX8_isLight 15 = .ok (.ifCond .ne 20, 3) := by decide +kernel
theorem dX8_isLight_18 : decode cX8_isLight 18 = .ok (.aload_n 0, 1) := by decide +kernel
theorem dX8_isLight_19 : decode cX8_isLight 19 = .ok (.iload_n 3, 1) := by decide +kernel
theorem dX8_isLight_20 : decode cX8_isLight 20 = .ok (.invokevirtual 145, 3) := by decide +kernel
theorem dX8_isLight_23 : decode cX8_isLight 23 = .ok (.ifCond .eq 16, 3) := by decide +kernel
theorem dX8_isLight_26 : decode cX8_isLight 26 = .ok (.aload_n 0, 1) := by decide +kernel
theorem dX8_isLight_27 : decode cX8_isLight 27 = .ok (.iload_n 3, 1) := by decide +kernel
theorem dX8_isLight_28 : decode cX8_isLight 28 = .ok (.invokevirtual 141, 3) := by decide +kernel
theorem dX8_isLight_31 : decode cX8_isLight 31 = .ok (.iload_n 1, 1) := by decide +kernel
theorem dX8_isLight_32 : decode cX8_isLight 32 = .ok (.if_icmp .ne 7, 3) := by decide +kernel
theorem dX8_isLight_35 : decode cX8_isLight 35 = .ok (.iconst 1, 1) := by decide +kernel
theorem dX8_isLight_36 : decode cX8_isLight 36 = .ok (.goto 4, 3) := by decide +kernel
theorem dX8_isLight_39 : decode cX8_isLight 39 = .ok (.iconst 0, 1) := by decide +kernel
theorem dX8_isLight_40 : decode cX8_isLight 40 = .ok (.istore_n 2, 1) := by decide +kernel
theorem dX8_isLight_41 : decode cX8_isLight 41 = .ok (.iinc 3 1, 3) := by decide +kernel
theorem dX8_isLight_44 : decode cX8_isLight 44 = .ok (.goto (-40), 3) := by decide +kernel
theorem dX8_isLight_47 : decode cX8_isLight 47 = .ok (.iload_n 2, 1) := by decide +kernel
theorem dX8_isLight_48 : decode cX8_isLight 48 = .ok (.ireturn, 1) := by decide +kernel
set_option maxRecDepth 20000 in
theorem ggX8_goesOn_X8_roomOf : GoodIn wsX8_goesOn wsX8_roomOf := goodIn_r _ [7, 2, 24, 25, 26, 27, 28, 29, 30, 31, 32, 33, 34, 35, 36, 37, 38, 39, 40, 41] (by decide +kernel) (by decide +kernel)
set_option maxRecDepth 20000 in
theorem gX8_goesOn_X8_roomOf : GoodIn wsX8_goesOn (wsV RX8 141 RX8 yX8_roomOf wsX8_roomOf) := goodIn_app (goodIn_of _ (by decide +kernel)) ggX8_goesOn_X8_roomOf
set_option maxRecDepth 20000 in
theorem ggX8_goesOn_X8_isDraughty : GoodIn wsX8_goesOn wsX8_isDraughty := goodIn_r _ [11, 1, 2, 24, 25, 26, 27, 28, 29, 30, 31, 32, 33, 34, 35, 36, 37, 38, 39, 40, 41] (by decide +kernel) (by decide +kernel)
set_option maxRecDepth 20000 in
theorem gX8_goesOn_X8_isDraughty : GoodIn wsX8_goesOn (wsV RX8 148 RX8 yX8_isDraughty wsX8_isDraughty) := goodIn_app (goodIn_of _ (by decide +kernel)) ggX8_goesOn_X8_isDraughty
set_option maxRecDepth 20000 in
theorem ggX8_goesOn_X8_isLight : GoodIn wsX8_goesOn wsX8_isLight := goodIn_r _ [15, 1, 16, 17, 18, 6, 19, 2, 3, 4, 5, 7, 24, 25, 26, 27, 28, 29, 30, 31, 32, 33, 34, 35, 36, 37, 38, 39, 40, 41] (by decide +kernel) (by decide +kernel)
set_option maxRecDepth 20000 in
theorem gX8_goesOn_X8_isLight : GoodIn wsX8_goesOn (wsV RX8 161 RX8 yX8_isLight wsX8_isLight) := goodIn_app (goodIn_of _ (by decide +kernel)) ggX8_goesOn_X8_isLight
set_option maxRecDepth 20000 in
theorem ggX8_goesOn_X8_isLit : GoodIn wsX8_goesOn wsX8_isLit := goodIn_r _ [19, 2, 24, 25, 26, 27, 28, 29, 30, 31, 32, 33, 34, 35, 36, 37, 38, 39, 40, 41] (by decide +kernel) (by decide +kernel)
set_option maxRecDepth 20000 in
theorem gX8_goesOn_X8_isLit : GoodIn wsX8_goesOn (wsV RX8 145 RX8 yX8_isLit wsX8_isLit) := goodIn_app (goodIn_of _ (by decide +kernel)) ggX8_goesOn_X8_isLit
set_option maxRecDepth 20000 in
theorem ggX8_goesOn_X8_left : GoodIn wsX8_goesOn wsX8_left := goodIn_r _ [23, 2, 24, 25, 26, 27, 28, 29, 30, 31, 32, 33, 34, 35, 36, 37, 38, 39, 40, 41] (by decide +kernel) (by decide +kernel)
set_option maxRecDepth 20000 in
theorem gX8_goesOn_X8_left : GoodIn wsX8_goesOn (wsV RX8 151 RX8 yX8_left wsX8_left) := goodIn_app (goodIn_of _ (by decide +kernel)) ggX8_goesOn_X8_left
theorem dX8_goesOn_0 : decode cX8_goesOn 0 = .ok (.iconst 0, 1) := by decide +kernel
theorem dX8_goesOn_1 : decode cX8_goesOn 1 = .ok (.istore_n 2, 1) := by decide +kernel
theorem dX8_goesOn_2 : decode cX8_goesOn 2 = .ok (.iload_n 2, 1) := by decide +kernel
theorem dX8_goesOn_3 : decode cX8_goesOn 3 = .ok (.aload_n 0, 1) := by decide +kernel
theorem dX8_goesOn_4 : decode cX8_goesOn 4 = .ok (.getfield 16, 3) := by decide +kernel
theorem dX8_goesOn_7 : decode cX8_goesOn 7 = .ok (.iconst 2, 1) := by decide +kernel
theorem dX8_goesOn_8 : decode cX8_goesOn 8 = .ok (.iaload, 1) := by decide +kernel
theorem dX8_goesOn_9 : decode cX8_goesOn 9 = .ok (.if_icmp .ge 62, 3) := by decide +kernel
theorem dX8_goesOn_12 : decode cX8_goesOn 12 = .ok (.iload_n 1, 1) := by decide +kernel
theorem dX8_goesOn_13 : decode cX8_goesOn 13 = .ok (.ifCond .eq 58, 3) := by decide +kernel
theorem dX8_goesOn_16 : decode cX8_goesOn 16 = .ok (.aload_n 0, 1) := by decide +kernel
theorem dX8_goesOn_17 : decode cX8_goesOn 17 = .ok (.getfield 19, 3) := by decide +kernel
theorem dX8_goesOn_20 : decode cX8_goesOn 20 = .ok (.iconst 3, 1) := by decide +kernel
theorem dX8_goesOn_21 : decode cX8_goesOn 21 = .ok (.iconst 4, 1) := by decide +kernel
theorem dX8_goesOn_22 : decode cX8_goesOn 22 = .ok (.iload_n 2, 1) := by decide +kernel
theorem dX8_goesOn_23 : decode cX8_goesOn 23 = .ok (.imul, 1) := by decide +kernel
theorem dX8_goesOn_24 : decode cX8_goesOn 24 = .ok (.iadd, 1) := by decide +kernel
theorem dX8_goesOn_25 : decode cX8_goesOn 25 = .ok (.aload_n 0, 1) := by decide +kernel
theorem dX8_goesOn_26 : decode cX8_goesOn 26 = .ok (.getfield 19, 3) := by decide +kernel
theorem dX8_goesOn_29 : decode cX8_goesOn 29 = .ok (.iconst 4, 1) := by decide +kernel
theorem dX8_goesOn_30 : decode cX8_goesOn 30 = .ok (.iconst 4, 1) := by decide +kernel
theorem dX8_goesOn_31 : decode cX8_goesOn 31 = .ok (.iload_n 2, 1) := by decide +kernel
theorem dX8_goesOn_32 : decode cX8_goesOn 32 = .ok (.imul, 1) := by decide +kernel
theorem dX8_goesOn_33 : decode cX8_goesOn 33 = .ok (.iadd, 1) := by decide +kernel
theorem dX8_goesOn_34 : decode cX8_goesOn 34 = .ok (.iaload, 1) := by decide +kernel
theorem dX8_goesOn_35 : decode cX8_goesOn 35 = .ok (.ifCond .ne 19, 3) := by decide +kernel
theorem dX8_goesOn_38 : decode cX8_goesOn 38 = .ok (.aload_n 0, 1) := by decide +kernel
theorem dX8_goesOn_39 : decode cX8_goesOn 39 = .ok (.aload_n 0, 1) := by decide +kernel
theorem dX8_goesOn_40 : decode cX8_goesOn 40 = .ok (.iload_n 2, 1) := by decide +kernel
theorem dX8_goesOn_41 : decode cX8_goesOn 41 = .ok (.invokevirtual 141, 3) := by decide +kernel
theorem dX8_goesOn_44 : decode cX8_goesOn 44 = .ok (.invokevirtual 148, 3) := by decide +kernel
theorem dX8_goesOn_47 : decode cX8_goesOn 47 = .ok (.ifCond .eq 7, 3) := by decide +kernel
theorem dX8_goesOn_50 : decode cX8_goesOn 50 = .ok (.iconst 0, 1) := by decide +kernel
theorem dX8_goesOn_51 : decode cX8_goesOn 51 = .ok (.goto 13, 3) := by decide +kernel
theorem dX8_goesOn_54 : decode cX8_goesOn 54 = .ok (.aload_n 0, 1) := by decide +kernel
theorem dX8_goesOn_55 : decode cX8_goesOn 55 = .ok (.getfield 19, 3) := by decide +kernel
theorem dX8_goesOn_58 : decode cX8_goesOn 58 = .ok (.iconst 3, 1) := by decide +kernel
theorem dX8_goesOn_59 : decode cX8_goesOn 59 = .ok (.iconst 4, 1) := by decide +kernel
theorem dX8_goesOn_60 : decode cX8_goesOn 60 = .ok (.iload_n 2, 1) := by decide +kernel
theorem dX8_goesOn_61 : decode cX8_goesOn 61 = .ok (.imul, 1) := by decide +kernel
theorem dX8_goesOn_62 : decode cX8_goesOn 62 = .ok (.iadd, 1) := by decide +kernel
theorem dX8_goesOn_63 : decode cX8_goesOn 63 = .ok (.iaload, 1) := by decide +kernel
theorem dX8_goesOn_64 : decode cX8_goesOn 64 = .ok (.iastore, 1) := by decide +kernel
theorem dX8_goesOn_65 : decode cX8_goesOn 65 = .ok (.iinc 2 1, 3) := by decide +kernel
theorem dX8_goesOn_68 : decode cX8_goesOn 68 = .ok (.goto (-66), 3) := by decide +kernel
theorem dX8_goesOn_71 : decode cX8_goesOn 71 = .ok (.iconst 0, 1) := by decide +kernel
theorem dX8_goesOn_72 : decode cX8_goesOn 72 = .ok (.istore_n 2, 1) := by decide +kernel
theorem dX8_goesOn_73 : decode cX8_goesOn 73 = .ok (.iload_n 2, 1) := by decide +kernel
theorem dX8_goesOn_74 : decode cX8_goesOn 74 = .ok (.aload_n 0, 1) := by decide +kernel
theorem dX8_goesOn_75 : decode cX8_goesOn 75 = .ok (.getfield 16, 3) := by decide +kernel
theorem dX8_goesOn_78 : decode cX8_goesOn 78 = .ok (.iconst 3, 1) := by decide +kernel
theorem dX8_goesOn_79 : decode cX8_goesOn 79 = .ok (.iaload, 1) := by decide +kernel
theorem dX8_goesOn_80 : decode cX8_goesOn 80 = .ok (.if_icmp .ge 180, 3) := by decide +kernel
theorem dX8_goesOn_83 : decode cX8_goesOn 83 = .ok (.bipush 30, 2) := by decide +kernel
theorem dX8_goesOn_85 : decode cX8_goesOn 85 = .ok (.iconst 2, 1) := by decide +kernel
theorem dX8_goesOn_86 : decode cX8_goesOn 86 = .ok (.iload_n 2, 1) := by decide +kernel
theorem dX8_goesOn_87 : decode cX8_goesOn 87 = .ok (.imul, 1) := by decide +kernel
theorem dX8_goesOn_88 : decode cX8_goesOn 88 = .ok (.iadd, 1) := by decide +kernel
theorem dX8_goesOn_89 : decode cX8_goesOn 89 = .ok (.istore_n 3, 1) := by decide +kernel
theorem dX8_goesOn_90 : decode cX8_goesOn 90 = .ok (.aload_n 0, 1) := by decide +kernel
theorem dX8_goesOn_91 : decode cX8_goesOn 91 = .ok (.getfield 19, 3) := by decide +kernel
theorem dX8_goesOn_94 : decode cX8_goesOn 94 = .ok (.iload_n 3, 1) := by decide +kernel
theorem dX8_goesOn_95 : decode cX8_goesOn 95 = .ok (.iaload, 1) := by decide +kernel
theorem dX8_goesOn_96 : decode cX8_goesOn 96 = .ok (.iconst 1, 1) := by decide +kernel
theorem dX8_goesOn_97 : decode cX8_goesOn 97 = .ok (.if_icmp .ne 157, 3) := by decide +kernel
theorem dX8_goesOn_100 : decode cX8_goesOn 100 = .ok (.aload_n 0, 1) := by decide +kernel
theorem dX8_goesOn_101 : decode cX8_goesOn 101 = .ok (.aload_n 0, 1) := by decide +kernel
theorem dX8_goesOn_102 : decode cX8_goesOn 102 = .ok (.getfield 16, 3) := by decide +kernel
theorem dX8_goesOn_105 : decode cX8_goesOn 105 = .ok (.bipush 27, 2) := by decide +kernel
theorem dX8_goesOn_107 : decode cX8_goesOn 107 = .ok (.iconst 4, 1) := by decide +kernel
theorem dX8_goesOn_108 : decode cX8_goesOn 108 = .ok (.iload_n 2, 1) := by decide +kernel
theorem dX8_goesOn_109 : decode cX8_goesOn 109 = .ok (.imul, 1) := by decide +kernel
theorem dX8_goesOn_110 : decode cX8_goesOn 110 = .ok (.iadd, 1) := by decide +kernel
theorem dX8_goesOn_111 : decode cX8_goesOn 111 = .ok (.iconst 2, 1) := by decide +kernel
theorem dX8_goesOn_112 : decode cX8_goesOn 112 = .ok (.iadd, 1) := by decide +kernel
theorem dX8_goesOn_113 : decode cX8_goesOn 113 = .ok (.iaload, 1) := by decide +kernel
theorem dX8_goesOn_114 : decode cX8_goesOn 114 = .ok (.invokevirtual 161, 3) := by decide +kernel
theorem dX8_goesOn_117 : decode cX8_goesOn 117 = .ok (.istore 4, 2) := by decide +kernel
theorem dX8_goesOn_119 : decode cX8_goesOn 119 = .ok (.aload_n 0, 1) := by decide +kernel
theorem dX8_goesOn_120 : decode cX8_goesOn 120 = .ok (.getfield 16, 3) := by decide +kernel
theorem dX8_goesOn_123 : decode cX8_goesOn 123 = .ok (.bipush 27, 2) := by decide +kernel
theorem dX8_goesOn_125 : decode cX8_goesOn 125 = .ok (.iconst 4, 1) := by decide +kernel
theorem dX8_goesOn_126 : decode cX8_goesOn 126 = .ok (.iload_n 2, 1) := by decide +kernel
theorem dX8_goesOn_127 : decode cX8_goesOn 127 = .ok (.imul, 1) := by decide +kernel
theorem dX8_goesOn_128 : decode cX8_goesOn 128 = .ok (.iadd, 1) := by decide +kernel
theorem dX8_goesOn_129 : decode cX8_goesOn 129 = .ok (.iconst 3, 1) := by decide +kernel
theorem dX8_goesOn_130 : decode cX8_goesOn 130 = .ok (.iadd, 1) := by decide +kernel
theorem dX8_goesOn_131 : decode cX8_goesOn 131 = .ok (.iaload, 1) := by decide +kernel
theorem dX8_goesOn_132 : decode cX8_goesOn 132 = .ok (.istore 5, 2) := by decide +kernel
theorem dX8_goesOn_134 : decode cX8_goesOn 134 = .ok (.aload_n 0, 1) := by decide +kernel
theorem dX8_goesOn_135 : decode cX8_goesOn 135 = .ok (.getfield 19, 3) := by decide +kernel
theorem dX8_goesOn_138 : decode cX8_goesOn 138 = .ok (.iload_n 3, 1) := by decide +kernel
theorem dX8_goesOn_139 : decode cX8_goesOn 139 = .ok (.iconst 1, 1) := by decide +kernel
theorem dX8_goesOn_140 : decode cX8_goesOn 140 = .ok (.iadd, 1) := by decide +kernel
theorem dX8_goesOn_141 : decode cX8_goesOn 141 = .ok (.dup2, 1) := by decide +kernel
theorem dX8_goesOn_142 : decode cX8_goesOn 142 = .ok (.iaload, 1) := by decide +kernel
theorem dX8_goesOn_143 : decode cX8_goesOn 143 = .ok (.iload 4, 2) := by decide +kernel
theorem dX8_goesOn_145 : decode cX8_goesOn 145 = .ok (.ifCond .eq 7, 3) := by decide +kernel
theorem dX8_goesOn_148 : decode cX8_goesOn 148 = .ok (.iconst 1, 1) := by decide +kernel
theorem dX8_goesOn_149 : decode cX8_goesOn 149 = .ok (.goto 4, 3) := by decide +kernel
theorem dX8_goesOn_152 : decode cX8_goesOn 152 = .ok (.iconst 0, 1) := by decide +kernel
theorem dX8_goesOn_153 : decode cX8_goesOn 153 = .ok (.iadd, 1) := by decide +kernel
theorem dX8_goesOn_154 : decode cX8_goesOn 154 = .ok (.iastore, 1) := by decide +kernel
theorem dX8_goesOn_155 : decode cX8_goesOn 155 = .ok (.iload 4, 2) := by decide +kernel
theorem dX8_goesOn_157 : decode cX8_goesOn 157 = .ok (.ifCond .eq 29, 3) := by decide +kernel
theorem dX8_goesOn_160 : decode cX8_goesOn 160 = .ok (.aload_n 0, 1) := by decide +kernel
theorem dX8_goesOn_161 : decode cX8_goesOn 161 = .ok (.getfield 19, 3) := by decide +kernel
theorem dX8_goesOn_164 : decode cX8_goesOn 164 = .ok (.iload_n 3, 1) := by decide +kernel
theorem dX8_goesOn_165 : decode cX8_goesOn 165 = .ok (.iconst 1, 1) := by decide +kernel
theorem dX8_goesOn_166 : decode cX8_goesOn 166 = .ok (.iadd, 1) := by decide +kernel
theorem dX8_goesOn_167 : decode cX8_goesOn 167 = .ok (.iaload, 1) := by decide +kernel
theorem dX8_goesOn_168 : decode cX8_goesOn 168 = .ok (.aload_n 0, 1) := by decide +kernel
theorem dX8_goesOn_169 : decode cX8_goesOn 169 = .ok (.getfield 16, 3) := by decide +kernel
theorem dX8_goesOn_172 : decode cX8_goesOn 172 = .ok (.bipush 27, 2) := by decide +kernel
theorem dX8_goesOn_174 : decode cX8_goesOn 174 = .ok (.iconst 4, 1) := by decide +kernel
theorem dX8_goesOn_175 : decode cX8_goesOn 175 = .ok (.iload_n 2, 1) := by decide +kernel
theorem dX8_goesOn_176 : decode cX8_goesOn 176 = .ok (.imul, 1) := by decide +kernel
theorem dX8_goesOn_177 : decode cX8_goesOn 177 = .ok (.iadd, 1) := by decide +kernel
theorem dX8_goesOn_178 : decode cX8_goesOn 178 = .ok (.iaload, 1) := by decide +kernel
theorem dX8_goesOn_179 : decode cX8_goesOn 179 = .ok (.if_icmp .ne 7, 3) := by decide +kernel
theorem dX8_goesOn_182 : decode cX8_goesOn 182 = .ok (.iconst 1, 1) := by decide +kernel
theorem dX8_goesOn_183 : decode cX8_goesOn 183 = .ok (.goto 4, 3) := by decide +kernel
theorem dX8_goesOn_186 : decode cX8_goesOn 186 = .ok (.iconst 0, 1) := by decide +kernel
theorem dX8_goesOn_187 : decode cX8_goesOn 187 = .ok (.istore 6, 2) := by decide +kernel
theorem dX8_goesOn_189 : decode cX8_goesOn 189 = .ok (.iload 5, 2) := by decide +kernel
theorem dX8_goesOn_191 : decode cX8_goesOn 191 = .ok (.bipush 9, 2) := by decide +kernel
theorem dX8_goesOn_193 : decode cX8_goesOn 193 = .ok (.if_icmp .eq 19, 3) := by decide +kernel
theorem dX8_goesOn_196 : decode cX8_goesOn 196 = .ok (.aload_n 0, 1) := by decide +kernel
theorem dX8_goesOn_197 : decode cX8_goesOn 197 = .ok (.getfield 19, 3) := by decide +kernel
theorem dX8_goesOn_200 : decode cX8_goesOn 200 = .ok (.bipush 30, 2) := by decide +kernel
theorem dX8_goesOn_202 : decode cX8_goesOn 202 = .ok (.iconst 2, 1) := by decide +kernel
theorem dX8_goesOn_203 : decode cX8_goesOn 203 = .ok (.iload 5, 2) := by decide +kernel
theorem dX8_goesOn_205 : decode cX8_goesOn 205 = .ok (.imul, 1) := by decide +kernel
theorem dX8_goesOn_206 : decode cX8_goesOn 206 = .ok (.iadd, 1) := by decide +kernel
theorem dX8_goesOn_207 : decode cX8_goesOn 207 = .ok (.iaload, 1) := by decide +kernel
theorem dX8_goesOn_208 : decode cX8_goesOn 208 = .ok (.iconst 2, 1) := by decide +kernel
theorem dX8_goesOn_209 : decode cX8_goesOn 209 = .ok (.if_icmp .ne 7, 3) := by decide +kernel
theorem dX8_goesOn_212 : decode cX8_goesOn 212 = .ok (.iconst 1, 1) := by decide +kernel
theorem dX8_goesOn_213 : decode cX8_goesOn 213 = .ok (.goto 4, 3) := by decide +kernel
theorem dX8_goesOn_216 : decode cX8_goesOn 216 = .ok (.iconst 0, 1) := by decide +kernel
theorem dX8_goesOn_217 : decode cX8_goesOn 217 = .ok (.istore 7, 2) := by decide +kernel
theorem dX8_goesOn_219 : decode cX8_goesOn 219 = .ok (.aload_n 0, 1) := by decide +kernel
theorem dX8_goesOn_220 : decode cX8_goesOn 220 = .ok (.getfield 19, 3) := by decide +kernel
theorem dX8_goesOn_223 : decode cX8_goesOn 223 = .ok (.iload_n 3, 1) := by decide +kernel
theorem dX8_goesOn_224 : decode cX8_goesOn 224 = .ok (.iload 4, 2) := by decide +kernel
theorem dX8_goesOn_226 : decode cX8_goesOn 226 = .ok (.ifCond .eq 13, 3) := by decide +kernel
theorem dX8_goesOn_229 : decode cX8_goesOn 229 = .ok (.iload 6, 2) := by decide +kernel
theorem dX8_goesOn_231 : decode cX8_goesOn 231 = .ok (.ifCond .eq 12, 3) := by decide +kernel
theorem dX8_goesOn_234 : decode cX8_goesOn 234 = .ok (.iload 7, 2) := by decide +kernel
