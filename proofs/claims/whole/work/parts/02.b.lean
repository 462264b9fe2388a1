theorem dX4_actsThatAre_22 : decode cX4_actsThatAre 22 = .ok (.if_icmp .ne 9, 3) := by decide +kernel
theorem dX4_actsThatAre_25 : decode cX4_actsThatAre 25 = .ok (.iconst 1, 1) := by decide +kernel
theorem dX4_actsThatAre_26 : decode cX4_actsThatAre 26 = .ok (.iload_n 3, 1) := by decide +kernel
theorem dX4_actsThatAre_27 : decode cX4_actsThatAre 27 = .ok (.ishl, 1) := by decide +kernel
theorem dX4_actsThatAre_28 : decode cX4_actsThatAre 28 = .ok (.goto 4, 3) := by decide +kernel
theorem dX4_actsThatAre_31 : decode cX4_actsThatAre 31 = .ok (.iconst 0, 1) := by decide +kernel
theorem dX4_actsThatAre_32 : decode cX4_actsThatAre 32 = .ok (.ior, 1) := by decide +kernel
theorem dX4_actsThatAre_33 : decode cX4_actsThatAre 33 = .ok (.istore_n 2, 1) := by decide +kernel
theorem dX4_actsThatAre_34 : decode cX4_actsThatAre 34 = .ok (.iinc 3 1, 3) := by decide +kernel
theorem dX4_actsThatAre_37 : decode cX4_actsThatAre 37 = .ok (.goto (-33), 3) := by decide +kernel
theorem dX4_actsThatAre_40 : decode cX4_actsThatAre 40 = .ok (.iload_n 2, 1) := by decide +kernel
theorem dX4_actsThatAre_41 : decode cX4_actsThatAre 41 = .ok (.ireturn, 1) := by decide +kernel
set_option maxRecDepth 20000 in
theorem ggX4_burnedBy_X7_bit : GoodIn wsX4_burnedBy wsX7_bit := goodIn_r _ [6] (by decide +kernel) (by decide +kernel)
set_option maxRecDepth 20000 in
theorem gX4_burnedBy_X7_bit_n63 : GoodIn wsX4_burnedBy (wsX7_bit) := ggX4_burnedBy_X7_bit
set_option maxRecDepth 20000 in
theorem ggX4_burnedBy_X4_left : GoodIn wsX4_burnedBy wsX4_left := goodIn_r _ [11, 12, 13, 14] (by decide +kernel) (by decide +kernel)
set_option maxRecDepth 20000 in
theorem gX4_burnedBy_X4_left : GoodIn wsX4_burnedBy (wsV RX4 67 RX4 yX4_left wsX4_left) := goodIn_app (goodIn_of _ (by decide +kernel)) ggX4_burnedBy_X4_left
theorem dX4_burnedBy_0 : decode cX4_burnedBy 0 = .ok (.iconst 0, 1) := by decide +kernel
theorem dX4_burnedBy_1 : decode cX4_burnedBy 1 = .ok (.istore_n 2, 1) := by decide +kernel
theorem dX4_burnedBy_2 : decode cX4_burnedBy 2 = .ok (.iconst 0, 1) := by decide +kernel
theorem dX4_burnedBy_3 : decode cX4_burnedBy 3 = .ok (.istore_n 3, 1) := by decide +kernel
theorem dX4_burnedBy_4 : decode cX4_burnedBy 4 = .ok (.iload_n 3, 1) := by decide +kernel
theorem dX4_burnedBy_5 : decode cX4_burnedBy 5 = .ok (.aload_n 0, 1) := by decide +kernel
theorem dX4_burnedBy_6 : decode cX4_burnedBy 6 = .ok (.getfield 15, 3) := by decide +kernel
theorem dX4_burnedBy_9 : decode cX4_burnedBy 9 = .ok (.getfield 25, 3) := by decide +kernel
theorem dX4_burnedBy_12 : decode cX4_burnedBy 12 = .ok (.if_icmp .ge 33, 3) := by decide +kernel
theorem dX4_burnedBy_15 : decode cX4_burnedBy 15 = .ok (.iload_n 2, 1) := by decide +kernel
theorem dX4_burnedBy_16 : decode cX4_burnedBy 16 = .ok (.iload_n 1, 1) := by decide +kernel
theorem dX4_burnedBy_17 : decode cX4_burnedBy 17 = .ok (.iload_n 3, 1) := by decide +kernel
theorem dX4_burnedBy_18 : decode cX4_burnedBy 18 = .ok (.invokestatic 63, 3) := by decide +kernel
theorem dX4_burnedBy_21 : decode cX4_burnedBy 21 = .ok (.aload_n 0, 1) := by decide +kernel
theorem dX4_burnedBy_22 : decode cX4_burnedBy 22 = .ok (.getfield 15, 3) := by decide +kernel
theorem dX4_burnedBy_25 : decode cX4_burnedBy 25 = .ok (.getfield 31, 3) := by decide +kernel
theorem dX4_burnedBy_28 : decode cX4_burnedBy 28 = .ok (.iload_n 3, 1) := by decide +kernel
theorem dX4_burnedBy_29 : decode cX4_burnedBy 29 = .ok (.iaload, 1) := by decide +kernel
theorem dX4_burnedBy_30 : decode cX4_burnedBy 30 = .ok (.aload_n 0, 1) := by decide +kernel
theorem dX4_burnedBy_31 : decode cX4_burnedBy 31 = .ok (.iload_n 3, 1) := by decide +kernel
theorem dX4_burnedBy_32 : decode cX4_burnedBy 32 = .ok (.invokevirtual 67, 3) := by decide +kernel
theorem dX4_burnedBy_35 : decode cX4_burnedBy 35 = .ok (.isub, 1) := by decide +kernel
theorem dX4_burnedBy_36 : decode cX4_burnedBy 36 = .ok (.imul, 1) := by decide +kernel
theorem dX4_burnedBy_37 : decode cX4_burnedBy 37 = .ok (.iadd, 1) := by decide +kernel
theorem dX4_burnedBy_38 : decode cX4_burnedBy 38 = .ok (.istore_n 2, 1) := by decide +kernel
theorem dX4_burnedBy_39 : decode cX4_burnedBy 39 = .ok (.iinc 3 1, 3) := by decide +kernel
theorem dX4_burnedBy_42 : decode cX4_burnedBy 42 = .ok (.goto (-38), 3) := by decide +kernel
theorem dX4_burnedBy_45 : decode cX4_burnedBy 45 = .ok (.iload_n 2, 1) := by decide +kernel
theorem dX4_burnedBy_46 : decode cX4_burnedBy 46 = .ok (.ireturn, 1) := by decide +kernel
set_option maxRecDepth 20000 in
theorem ggX4_draughtyRooms_X7_bit : GoodIn wsX4_draughtyRooms wsX7_bit := goodIn_r _ [8] (by decide +kernel) (by decide +kernel)
set_option maxRecDepth 20000 in
theorem gX4_draughtyRooms_X7_bit_n63 : GoodIn wsX4_draughtyRooms (wsX7_bit) := ggX4_draughtyRooms_X7_bit
theorem dX4_draughtyRooms_0 : decode cX4_draughtyRooms 0 = .ok (.iconst 0, 1) := by decide +kernel
theorem dX4_draughtyRooms_1 : decode cX4_draughtyRooms 1 = .ok (.istore_n 1, 1) := by decide +kernel
theorem dX4_draughtyRooms_2 : decode cX4_draughtyRooms 2 = .ok (.iconst 0, 1) := by decide +kernel
theorem dX4_draughtyRooms_3 : decode cX4_draughtyRooms 3 = .ok (.istore_n 2, 1) := by decide +kernel
theorem dX4_draughtyRooms_4 : decode cX4_draughtyRooms 4 = .ok (.iload_n 2, 1) := by decide +kernel
theorem dX4_draughtyRooms_5 : decode cX4_draughtyRooms 5 = .ok (.aload_n 0, 1) := by decide +kernel
theorem dX4_draughtyRooms_6 : decode cX4_draughtyRooms 6 = .ok (.getfield 15, 3) := by decide +kernel
theorem dX4_draughtyRooms_9 : decode cX4_draughtyRooms 9 = .ok (.getfield 70, 3) := by decide +kernel
theorem dX4_draughtyRooms_12 : decode cX4_draughtyRooms 12 = .ok (.if_icmp .ge 49, 3) := by decide +kernel
theorem dX4_draughtyRooms_15 : decode cX4_draughtyRooms 15 = .ok (.aload_n 0, 1) := by decide +kernel
theorem dX4_draughtyRooms_16 : decode cX4_draughtyRooms 16 = .ok (.getfield 11, 3) := by decide +kernel
theorem dX4_draughtyRooms_19 : decode cX4_draughtyRooms 19 = .ok (.iconst 3, 1) := by decide +kernel
theorem dX4_draughtyRooms_20 : decode cX4_draughtyRooms 20 = .ok (.iaload, 1) := by decide +kernel
theorem dX4_draughtyRooms_21 : decode cX4_draughtyRooms 21 = .ok (.iload_n 2, 1) := by decide +kernel
theorem dX4_draughtyRooms_22 : decode cX4_draughtyRooms 22 = .ok (.invokestatic 63, 3) := by decide +kernel
theorem dX4_draughtyRooms_25 : decode cX4_draughtyRooms 25 = .ok (.iconst 1, 1) := by decide +kernel
theorem dX4_draughtyRooms_26 : decode cX4_draughtyRooms 26 = .ok (.if_icmp .ne 29, 3) := by decide +kernel
theorem dX4_draughtyRooms_29 : decode cX4_draughtyRooms 29 = .ok (.iload_n 1, 1) := by decide +kernel
theorem dX4_draughtyRooms_30 : decode cX4_draughtyRooms 30 = .ok (.iconst 1, 1) := by decide +kernel
theorem dX4_draughtyRooms_31 : decode cX4_draughtyRooms 31 = .ok (.aload_n 0, 1) := by decide +kernel
theorem dX4_draughtyRooms_32 : decode cX4_draughtyRooms 32 = .ok (.getfield 15, 3) := by decide +kernel
theorem dX4_draughtyRooms_35 : decode cX4_draughtyRooms 35 = .ok (.getfield 73, 3) := by decide +kernel
theorem dX4_draughtyRooms_38 : decode cX4_draughtyRooms 38 = .ok (.iload_n 2, 1) := by decide +kernel
theorem dX4_draughtyRooms_39 : decode cX4_draughtyRooms 39 = .ok (.iaload, 1) := by decide +kernel
theorem dX4_draughtyRooms_40 : decode cX4_draughtyRooms 40 = .ok (.ishl, 1) := by decide +kernel
theorem dX4_draughtyRooms_41 : decode cX4_draughtyRooms 41 = .ok (.iconst 1, 1) := by decide +kernel
theorem dX4_draughtyRooms_42 : decode cX4_draughtyRooms 42 = .ok (.aload_n 0, 1) := by decide +kernel
theorem dX4_draughtyRooms_43 : decode cX4_draughtyRooms 43 = .ok (.getfield 15, 3) := by decide +kernel
theorem dX4_draughtyRooms_46 : decode cX4_draughtyRooms 46 = .ok (.getfield 76, 3) := by decide +kernel
theorem dX4_draughtyRooms_49 : decode cX4_draughtyRooms 49 = .ok (.iload_n 2, 1) := by decide +kernel
theorem dX4_draughtyRooms_50 : decode cX4_draughtyRooms 50 = .ok (.iaload, 1) := by decide +kernel
theorem dX4_draughtyRooms_51 : decode cX4_draughtyRooms 51 = .ok (.ishl, 1) := by decide +kernel
theorem dX4_draughtyRooms_52 : decode cX4_draughtyRooms 52 = .ok (.ior, 1) := by decide +kernel
theorem dX4_draughtyRooms_53 : decode cX4_draughtyRooms 53 = .ok (.ior, 1) := by decide +kernel
theorem dX4_draughtyRooms_54 : decode cX4_draughtyRooms 54 = .ok (.istore_n 1, 1) := by decide +kernel
theorem dX4_draughtyRooms_55 : decode cX4_draughtyRooms 55 = .ok (.iinc 2 1, 3) := by decide +kernel
theorem dX4_draughtyRooms_58 : decode cX4_draughtyRooms 58 = .ok (.goto (-54), 3) := by decide +kernel
theorem dX4_draughtyRooms_61 : decode cX4_draughtyRooms 61 = .ok (.iload_n 1, 1) := by decide +kernel
theorem dX4_draughtyRooms_62 : decode cX4_draughtyRooms 62 = .ok (.ireturn, 1) := by decide +kernel
set_option maxRecDepth 20000 in
theorem ggX4_openBetween_X7_bit : GoodIn wsX4_openBetween wsX7_bit := goodIn_r _ [8] (by decide +kernel) (by decide +kernel)
set_option maxRecDepth 20000 in
theorem gX4_openBetween_X7_bit_n63 : GoodIn wsX4_openBetween (wsX7_bit) := ggX4_openBetween_X7_bit
theorem dX4_openBetween_0 : decode cX4_openBetween 0 = .ok (.iconst 0, 1) := by decide +kernel
theorem dX4_openBetween_1 : decode cX4_openBetween 1 = .ok (.istore_n 3, 1) := by decide +kernel
theorem dX4_openBetween_2 : decode cX4_openBetween 2 = .ok (.iload_n 3, 1) := by decide +kernel
theorem dX4_openBetween_3 : decode cX4_openBetween 3 = .ok (.aload_n 0, 1) := by decide +kernel
theorem dX4_openBetween_4 : decode cX4_openBetween 4 = .ok (.getfield 15, 3) := by decide +kernel
theorem dX4_openBetween_7 : decode cX4_openBetween 7 = .ok (.getfield 70, 3) := by decide +kernel
theorem dX4_openBetween_10 : decode cX4_openBetween 10 = .ok (.if_icmp .ge 89, 3) := by decide +kernel
theorem dX4_openBetween_13 : decode cX4_openBetween 13 = .ok (.aload_n 0, 1) := by decide +kernel
theorem dX4_openBetween_14 : decode cX4_openBetween 14 = .ok (.getfield 15, 3) := by decide +kernel
theorem dX4_openBetween_17 : decode cX4_openBetween 17 = .ok (.getfield 73, 3) := by decide +kernel
theorem dX4_openBetween_20 : decode cX4_openBetween 20 = .ok (.iload_n 3, 1) := by decide +kernel
theorem dX4_openBetween_21 : decode cX4_openBetween 21 = .ok (.iaload, 1) := by decide +kernel
theorem dX4_openBetween_22 : decode cX4_openBetween 22 = .ok (.iload_n 1, 1) := by decide +kernel
theorem dX4_openBetween_23 : decode cX4_openBetween 23 = .ok (.if_icmp .ne 16, 3) := by decide +kernel
theorem dX4_openBetween_26 : decode cX4_openBetween 26 = .ok (.aload_n 0, 1) := by decide +kernel
theorem dX4_openBetween_27 : decode cX4_openBetween 27 = .ok (.getfield 15, 3) := by decide +kernel
theorem dX4_openBetween_30 : decode cX4_openBetween 30 = .ok (.getfield 76, 3) := by decide +kernel
theorem dX4_openBetween_33 : decode cX4_openBetween 33 = .ok (.iload_n 3, 1) := by decide +kernel
theorem dX4_openBetween_34 : decode cX4_openBetween 34 = .ok (.iaload, 1) := by decide +kernel
theorem dX4_openBetween_35 : decode cX4_openBetween 35 = .ok (.iload_n 2, 1) := by decide +kernel
theorem dX4_openBetween_36 : decode cX4_openBetween 36 = .ok (.if_icmp .eq 29, 3) := by decide +kernel
theorem dX4_openBetween_39 : decode cX4_openBetween 39 = .ok (.aload_n 0, 1) := by decide +kernel
theorem dX4_openBetween_40 : decode cX4_openBetween 40 = .ok (.getfield 15, 3) := by decide +kernel
theorem dX4_openBetween_43 : decode cX4_openBetween 43 = .ok (.getfield 73, 3) := by decide +kernel
theorem dX4_openBetween_46 : decode cX4_openBetween 46 = .ok (.iload_n 3, 1) := by decide +kernel
theorem dX4_openBetween_47 : decode cX4_openBetween 47 = .ok (.iaload, 1) := by decide +kernel
theorem dX4_openBetween_48 : decode cX4_openBetween 48 = .ok (.iload_n 2, 1) := by decide +kernel
theorem dX4_openBetween_49 : decode cX4_openBetween 49 = .ok (.if_icmp .ne 20, 3) := by decide +kernel
theorem dX4_openBetween_52 : decode cX4_openBetween 52 = .ok (.aload_n 0, 1) := by decide +kernel
theorem dX4_openBetween_53 : decode cX4_openBetween 53 = .ok (.getfield 15, 3) := by decide +kernel
theorem dX4_openBetween_56 : decode cX4_openBetween 56 = .ok (.getfield 76, 3) := by decide +kernel
theorem dX4_openBetween_59 : decode cX4_openBetween 59 = .ok (.iload_n 3, 1) := by decide +kernel
theorem dX4_openBetween_60 : decode cX4_openBetween 60 = .ok (.iaload, 1) := by decide +kernel
theorem dX4_openBetween_61 : decode cX4_openBetween 61 = .ok (.iload_n 1, 1) := by decide +kernel
theorem dX4_openBetween_62 : decode cX4_openBetween 62 = .ok (.if_icmp .ne 7, 3) := by decide +kernel
theorem dX4_openBetween_65 : decode cX4_openBetween 65 = .ok (.iconst 1, 1) := by decide +kernel
theorem dX4_openBetween_66 : decode cX4_openBetween 66 = .ok (.goto 4, 3) := by decide +kernel
theorem dX4_openBetween_69 : decode cX4_openBetween 69 = .ok (.iconst 0, 1) := by decide +kernel
theorem dX4_openBetween_70 : decode cX4_openBetween 70 = .ok (.istore 4, 2) := by decide +kernel
theorem dX4_openBetween_72 : decode cX4_openBetween 72 = .ok (.iload 4, 2) := by decide +kernel
theorem dX4_openBetween_74 : decode cX4_openBetween 74 = .ok (.ifCond .eq 19, 3) := by decide +kernel
theorem dX4_openBetween_77 : decode cX4_openBetween 77 = .ok (.aload_n 0, 1) := by decide +kernel
theorem dX4_openBetween_78 : decode cX4_openBetween 78 = .ok (.getfield 11, 3) := by decide +kernel
theorem dX4_openBetween_81 : decode cX4_openBetween 81 = .ok (.iconst 3, 1) := by decide +kernel
theorem dX4_openBetween_82 : decode cX4_openBetween 82 = .ok (.iaload, 1) := by decide +kernel
theorem dX4_openBetween_83 : decode cX4_openBetween 83 = .ok (.iload_n 3, 1) := by decide +kernel
theorem dX4_openBetween_84 : decode cX4_openBetween 84 = .ok (.invokestatic 63, 3) := by decide +kernel
theorem dX4_openBetween_87 : decode cX4_openBetween 87 = .ok (.iconst 1, 1) := by decide +kernel
theorem dX4_openBetween_88 : decode cX4_openBetween 88 = .ok (.if_icmp .ne 5, 3) := by decide +kernel
theorem dX4_openBetween_91 : decode cX4_openBetween 91 = .ok (.iconst 1, 1) := by decide +kernel
theorem dX4_openBetween_92 : decode cX4_openBetween 92 = .ok (.ireturn, 1) := by decide +kernel
theorem dX4_openBetween_93 : decode cX4_openBetween 93 = .ok (.iinc 3 1, 3) := by decide +kernel
theorem dX4_openBetween_96 : decode cX4_openBetween 96 = .ok (.goto (-94), 3) := by decide +kernel
theorem dX4_openBetween_99 : decode cX4_openBetween 99 = .ok (.iconst 0, 1) := by decide +kernel
theorem dX4_openBetween_100 : decode cX4_openBetween 100 = .ok (.ireturn, 1) := by decide +kernel
set_option maxRecDepth 20000 in
theorem ggX4_pass_X4_blowOut : GoodIn wsX4_pass wsX4_blowOut := goodIn_r _ [6, 7, 8, 1, 9, 10, 11, 5, 12, 13, 14, 15, 16, 17, 18, 19, 20, 21, 22, 51, 52, 53, 54, 55, 56, 57, 58, 59, 60, 61, 62, 63, 64, 65, 66] (by decide +kernel) (by decide +kernel)
set_option maxRecDepth 20000 in
theorem gX4_pass_X4_blowOut : GoodIn wsX4_pass (wsV RX4 79 RX4 yX4_blowOut wsX4_blowOut) := goodIn_app (goodIn_of _ (by decide +kernel)) ggX4_pass_X4_blowOut
set_option maxRecDepth 20000 in
theorem ggX4_pass_X4_judgeActs : GoodIn wsX4_pass wsX4_judgeActs := goodIn_r _ [26, 7, 27, 28, 29, 30, 31, 5, 32, 8, 1, 16, 17, 18, 19, 20, 21, 22, 33, 34, 35, 36, 37, 38, 39, 40, 41, 42, 51, 52, 53, 54, 55, 56, 57, 58, 59, 60, 61, 62, 63, 64, 65, 66] (by decide +kernel) (by decide +kernel)
set_option maxRecDepth 20000 in
theorem gX4_pass_X4_judgeActs : GoodIn wsX4_pass (wsV RX4 82 RX4 yX4_judgeActs wsX4_judgeActs) := goodIn_app (goodIn_of _ (by decide +kernel)) ggX4_pass_X4_judgeActs
set_option maxRecDepth 20000 in
theorem ggX4_pass_X4_burn : GoodIn wsX4_pass wsX4_burn := goodIn_r _ [46, 7, 8, 1, 16, 17, 18, 19, 20, 21, 5, 22, 47, 48, 49, 50, 51, 52, 53, 54, 55, 56, 57, 58, 59, 60, 61, 62, 63, 64, 65, 66] (by decide +kernel) (by decide +kernel)
set_option maxRecDepth 20000 in
theorem gX4_pass_X4_burn : GoodIn wsX4_pass (wsV RX4 85 RX4 yX4_burn wsX4_burn) := goodIn_app (goodIn_of _ (by decide +kernel)) ggX4_pass_X4_burn
theorem dX4_pass_0 : decode cX4_pass 0 = .ok (.iload_n 1, 1) := by decide +kernel
theorem dX4_pass_1 : decode cX4_pass 1 = .ok (.ifCond .eq 7, 3) := by decide +kernel
theorem dX4_pass_4 : decode cX4_pass 4 = .ok (.aload_n 0, 1) := by decide +kernel
theorem dX4_pass_5 : decode cX4_pass 5 = .ok (.invokevirtual 79, 3) := by decide +kernel
theorem dX4_pass_8 : decode cX4_pass 8 = .ok (.aload_n 0, 1) := by decide +kernel
theorem dX4_pass_9 : decode cX4_pass 9 = .ok (.invokevirtual 82, 3) := by decide +kernel
theorem dX4_pass_12 : decode cX4_pass 12 = .ok (.istore_n 2, 1) := by decide +kernel
theorem dX4_pass_13 : decode cX4_pass 13 = .ok (.aload_n 0, 1) := by decide +kernel
theorem dX4_pass_14 : decode cX4_pass 14 = .ok (.invokevirtual 85, 3) := by decide +kernel
theorem dX4_pass_17 : decode cX4_pass 17 = .ok (.aload_n 0, 1) := by decide +kernel
theorem dX4_pass_18 : decode cX4_pass 18 = .ok (.getfield 11, 3) := by decide +kernel
theorem dX4_pass_21 : decode cX4_pass 21 = .ok (.iconst 0, 1) := by decide +kernel
theorem dX4_pass_22 : decode cX4_pass 22 = .ok (.dup2, 1) := by decide +kernel
theorem dX4_pass_23 : decode cX4_pass 23 = .ok (.iaload, 1) := by decide +kernel
theorem dX4_pass_24 : decode cX4_pass 24 = .ok (.iconst 1, 1) := by decide +kernel
theorem dX4_pass_25 : decode cX4_pass 25 = .ok (.iadd, 1) := by decide +kernel
theorem dX4_pass_26 : decode cX4_pass 26 = .ok (.iastore, 1) := by decide +kernel
theorem dX4_pass_27 : decode cX4_pass 27 = .ok (.iload_n 2, 1) := by decide +kernel
theorem dX4_pass_28 : decode cX4_pass 28 = .ok (.ireturn, 1) := by decide +kernel
set_option maxRecDepth 20000 in
theorem ggX4_blowOut_X4_draughtyRooms : GoodIn wsX4_blowOut wsX4_draughtyRooms := goodIn_r _ [8, 1, 9, 3, 10, 11, 12, 13, 14, 19, 20, 21, 22, 23, 24, 25, 26, 27, 28, 29, 30, 31, 32, 33, 34] (by decide +kernel) (by decide +kernel)
set_option maxRecDepth 20000 in
theorem gX4_blowOut_X4_draughtyRooms : GoodIn wsX4_blowOut (wsV RX4 88 RX4 yX4_draughtyRooms wsX4_draughtyRooms) := goodIn_app (goodIn_of _ (by decide +kernel)) ggX4_blowOut_X4_draughtyRooms
set_option maxRecDepth 20000 in
theorem ggX4_blowOut_X4_roomOf : GoodIn wsX4_blowOut wsX4_roomOf := goodIn_r _ [18, 3, 19, 20] (by decide +kernel) (by decide +kernel)
set_option maxRecDepth 20000 in
theorem gX4_blowOut_X4_roomOf : GoodIn wsX4_blowOut (wsV RX4 57 RX4 yX4_roomOf wsX4_roomOf) := goodIn_app (goodIn_of _ (by decide +kernel)) ggX4_blowOut_X4_roomOf
set_option maxRecDepth 20000 in
theorem ggX4_blowOut_X7_bit : GoodIn wsX4_blowOut wsX7_bit := goodIn_r _ [14] (by decide +kernel) (by decide +kernel)
set_option maxRecDepth 20000 in
theorem gX4_blowOut_X7_bit_n63 : GoodIn wsX4_blowOut (wsX7_bit) := ggX4_blowOut_X7_bit
theorem dX4_blowOut_0 : decode cX4_blowOut 0 = .ok (.aload_n 0, 1) := by decide +kernel
theorem dX4_blowOut_1 : decode cX4_blowOut 1 = .ok (.invokevirtual 88, 3) := by decide +kernel
theorem dX4_blowOut_4 : decode cX4_blowOut 4 = .ok (.istore_n 1, 1) := by decide +kernel
theorem dX4_blowOut_5 : decode cX4_blowOut 5 = .ok (.iconst 0, 1) := by decide +kernel
theorem dX4_blowOut_6 : decode cX4_blowOut 6 = .ok (.istore_n 2, 1) := by decide +kernel
theorem dX4_blowOut_7 : decode cX4_blowOut 7 = .ok (.iload_n 2, 1) := by decide +kernel
theorem dX4_blowOut_8 : decode cX4_blowOut 8 = .ok (.aload_n 0, 1) := by decide +kernel
theorem dX4_blowOut_9 : decode cX4_blowOut 9 = .ok (.getfield 15, 3) := by decide +kernel
theorem dX4_blowOut_12 : decode cX4_blowOut 12 = .ok (.getfield 25, 3) := by decide +kernel
theorem dX4_blowOut_15 : decode cX4_blowOut 15 = .ok (.if_icmp .ge 49, 3) := by decide +kernel
theorem dX4_blowOut_18 : decode cX4_blowOut 18 = .ok (.iload_n 1, 1) := by decide +kernel
theorem dX4_blowOut_19 : decode cX4_blowOut 19 = .ok (.aload_n 0, 1) := by decide +kernel
theorem dX4_blowOut_20 : decode cX4_blowOut 20 = .ok (.iload_n 2, 1) := by decide +kernel
theorem dX4_blowOut_21 : decode cX4_blowOut 21 = .ok (.invokevirtual 57, 3) := by decide +kernel
theorem dX4_blowOut_24 : decode cX4_blowOut 24 = .ok (.invokestatic 63, 3) := by decide +kernel
theorem dX4_blowOut_27 : decode cX4_blowOut 27 = .ok (.iconst 1, 1) := by decide +kernel
theorem dX4_blowOut_28 : decode cX4_blowOut 28 = .ok (.if_icmp .ne 30, 3) := by decide +kernel
theorem dX4_blowOut_31 : decode cX4_blowOut 31 = .ok (.aload_n 0, 1) := by decide +kernel
theorem dX4_blowOut_32 : decode cX4_blowOut 32 = .ok (.getfield 11, 3) := by decide +kernel
theorem dX4_blowOut_35 : decode cX4_blowOut 35 = .ok (.iconst 2, 1) := by decide +kernel
theorem dX4_blowOut_36 : decode cX4_blowOut 36 = .ok (.iaload, 1) := by decide +kernel
theorem dX4_blowOut_37 : decode cX4_blowOut 37 = .ok (.iload_n 2, 1) := by decide +kernel
theorem dX4_blowOut_38 : decode cX4_blowOut 38 = .ok (.invokestatic 63, 3) := by decide +kernel
theorem dX4_blowOut_41 : decode cX4_blowOut 41 = .ok (.ifCond .ne 17, 3) := by decide +kernel
theorem dX4_blowOut_44 : decode cX4_blowOut 44 = .ok (.aload_n 0, 1) := by decide +kernel
theorem dX4_blowOut_45 : decode cX4_blowOut 45 = .ok (.getfield 11, 3) := by decide +kernel
theorem dX4_blowOut_48 : decode cX4_blowOut 48 = .ok (.iconst 1, 1) := by decide +kernel
theorem dX4_blowOut_49 : decode cX4_blowOut 49 = .ok (.dup2, 1) := by decide +kernel
theorem dX4_blowOut_50 : decode cX4_blowOut 50 = .ok (.iaload, 1) := by decide +kernel
theorem dX4_blowOut_51 : decode cX4_blowOut 51 = .ok (.iconst 1, 1) := by decide +kernel
theorem dX4_blowOut_52 : decode cX4_blowOut 52 = .ok (.iload_n 2, 1) := by decide +kernel
theorem dX4_blowOut_53 : decode cX4_blowOut 53 = .ok (.ishl, 1) := by decide +kernel
theorem dX4_blowOut_54 : decode cX4_blowOut 54 = .ok (.iconst (-1), 1) := by decide +kernel
theorem dX4_blowOut_55 : decode cX4_blowOut 55 = .ok (.ixor, 1) := by decide +kernel
theorem dX4_blowOut_56 : decode cX4_blowOut 56 = .ok (.iand, 1) := by decide +kernel
theorem dX4_blowOut_57 : decode cX4_blowOut 57 = .ok (.iastore, 1) := by decide +kernel
theorem dX4_blowOut_58 : decode cX4_blowOut 58 = .ok (.iinc 2 1, 3) := by decide +kernel
theorem dX4_blowOut_61 : decode cX4_blowOut 61 = .ok (.goto (-54), 3) := by decide +kernel
theorem dX4_blowOut_64 : decode cX4_blowOut 64 = .ok (.return_, 1) := by decide +kernel
set_option maxRecDepth 20000 in
theorem ggX4_judgeActs_X4_brightRooms : GoodIn wsX4_judgeActs wsX4_brightRooms := goodIn_r _ [8, 1, 9, 10, 11, 12, 13, 14, 15, 16, 7, 17, 28, 29, 30, 31, 32, 33, 34, 35, 36, 37, 38, 39, 40, 41, 42, 43] (by decide +kernel) (by decide +kernel)
set_option maxRecDepth 20000 in
theorem gX4_judgeActs_X4_brightRooms : GoodIn wsX4_judgeActs (wsV RX4 91 RX4 yX4_brightRooms wsX4_brightRooms) := goodIn_app (goodIn_of _ (by decide +kernel)) ggX4_judgeActs_X4_brightRooms
set_option maxRecDepth 20000 in
theorem ggX4_judgeActs_X4_stage : GoodIn wsX4_judgeActs wsX4_stage := goodIn_r _ [21, 10, 28, 29] (by decide +kernel) (by decide +kernel)
set_option maxRecDepth 20000 in
theorem gX4_judgeActs_X4_stage : GoodIn wsX4_judgeActs (wsV RX4 43 RX4 yX4_stage wsX4_stage) := goodIn_app (goodIn_of _ (by decide +kernel)) ggX4_judgeActs_X4_stage
set_option maxRecDepth 20000 in
theorem ggX4_judgeActs_X7_bit : GoodIn wsX4_judgeActs wsX7_bit := goodIn_r _ [13] (by decide +kernel) (by decide +kernel)
set_option maxRecDepth 20000 in
theorem gX4_judgeActs_X7_bit_n63 : GoodIn wsX4_judgeActs (wsX7_bit) := ggX4_judgeActs_X7_bit
set_option maxRecDepth 20000 in
theorem ggX4_judgeActs_X4_judge : GoodIn wsX4_judgeActs wsX4_judge := goodIn_r _ [25, 10, 1, 26, 27, 18, 19, 20, 7, 21, 28, 29, 30, 31, 32, 33, 34, 35, 36, 37, 38, 39, 40, 41, 42, 43] (by decide +kernel) (by decide +kernel)
set_option maxRecDepth 20000 in
theorem gX4_judgeActs_X4_judge : GoodIn wsX4_judgeActs (wsV RX4 97 RX4 yX4_judge wsX4_judge) := goodIn_app (goodIn_of _ (by decide +kernel)) ggX4_judgeActs_X4_judge
theorem dX4_judgeActs_0 : decode cX4_judgeActs 0 = .ok (.aload_n 0, 1) := by decide +kernel
theorem dX4_judgeActs_1 : decode cX4_judgeActs 1 = .ok (.invokevirtual 91, 3) := by decide +kernel
theorem dX4_judgeActs_4 : decode cX4_judgeActs 4 = .ok (.istore_n 1, 1) := by decide +kernel
theorem dX4_judgeActs_5 : decode cX4_judgeActs 5 = .ok (.iconst 0, 1) := by decide +kernel
theorem dX4_judgeActs_6 : decode cX4_judgeActs 6 = .ok (.istore_n 2, 1) := by decide +kernel
theorem dX4_judgeActs_7 : decode cX4_judgeActs 7 = .ok (.iconst 0, 1) := by decide +kernel
theorem dX4_judgeActs_8 : decode cX4_judgeActs 8 = .ok (.istore_n 3, 1) := by decide +kernel
theorem dX4_judgeActs_9 : decode cX4_judgeActs 9 = .ok (.iload_n 3, 1) := by decide +kernel
theorem dX4_judgeActs_10 : decode cX4_judgeActs 10 = .ok (.aload_n 0, 1) := by decide +kernel
theorem dX4_judgeActs_11 : decode cX4_judgeActs 11 = .ok (.getfield 15, 3) := by decide +kernel
theorem dX4_judgeActs_14 : decode cX4_judgeActs 14 = .ok (.getfield 60, 3) := by decide +kernel
theorem dX4_judgeActs_17 : decode cX4_judgeActs 17 = .ok (.if_icmp .ge 62, 3) := by decide +kernel
theorem dX4_judgeActs_20 : decode cX4_judgeActs 20 = .ok (.aload_n 0, 1) := by decide +kernel
theorem dX4_judgeActs_21 : decode cX4_judgeActs 21 = .ok (.iload_n 3, 1) := by decide +kernel
theorem dX4_judgeActs_22 : decode cX4_judgeActs 22 = .ok (.invokevirtual 43, 3) := by decide +kernel
theorem dX4_judgeActs_25 : decode cX4_judgeActs 25 = .ok (.iconst 1, 1) := by decide +kernel
theorem dX4_judgeActs_26 : decode cX4_judgeActs 26 = .ok (.if_icmp .ne 47, 3) := by decide +kernel
theorem dX4_judgeActs_29 : decode cX4_judgeActs 29 = .ok (.aload_n 0, 1) := by decide +kernel
theorem dX4_judgeActs_30 : decode cX4_judgeActs 30 = .ok (.iload_n 3, 1) := by decide +kernel
theorem dX4_judgeActs_31 : decode cX4_judgeActs 31 = .ok (.iload_n 1, 1) := by decide +kernel
theorem dX4_judgeActs_32 : decode cX4_judgeActs 32 = .ok (.aload_n 0, 1) := by decide +kernel
theorem dX4_judgeActs_33 : decode cX4_judgeActs 33 = .ok (.getfield 15, 3) := by decide +kernel
theorem dX4_judgeActs_36 : decode cX4_judgeActs 36 = .ok (.getfield 94, 3) := by decide +kernel
theorem dX4_judgeActs_39 : decode cX4_judgeActs 39 = .ok (.iload_n 3, 1) := by decide +kernel
theorem dX4_judgeActs_40 : decode cX4_judgeActs 40 = .ok (.iaload, 1) := by decide +kernel
theorem dX4_judgeActs_41 : decode cX4_judgeActs 41 = .ok (.invokestatic 63, 3) := by decide +kernel
theorem dX4_judgeActs_44 : decode cX4_judgeActs 44 = .ok (.iconst 1, 1) := by decide +kernel
theorem dX4_judgeActs_45 : decode cX4_judgeActs 45 = .ok (.if_icmp .ne 7, 3) := by decide +kernel
theorem dX4_judgeActs_48 : decode cX4_judgeActs 48 = .ok (.iconst 1, 1) := by decide +kernel
theorem dX4_judgeActs_49 : decode cX4_judgeActs 49 = .ok (.goto 4, 3) := by decide +kernel
theorem dX4_judgeActs_52 : decode cX4_judgeActs 52 = .ok (.iconst 0, 1) := by decide +kernel
theorem dX4_judgeActs_53 : decode cX4_judgeActs 53 = .ok (.invokevirtual 97, 3) := by decide +kernel
theorem dX4_judgeActs_56 : decode cX4_judgeActs 56 = .ok (.iload_n 2, 1) := by decide +kernel
theorem dX4_judgeActs_57 : decode cX4_judgeActs 57 = .ok (.aload_n 0, 1) := by decide +kernel
theorem dX4_judgeActs_58 : decode cX4_judgeActs 58 = .ok (.iload_n 3, 1) := by decide +kernel
theorem dX4_judgeActs_59 : decode cX4_judgeActs 59 = .ok (.invokevirtual 43, 3) := by decide +kernel
theorem dX4_judgeActs_62 : decode cX4_judgeActs 62 = .ok (.iconst 3, 1) := by decide +kernel
theorem dX4_judgeActs_63 : decode cX4_judgeActs 63 = .ok (.if_icmp .ne 7, 3) := by decide +kernel
theorem dX4_judgeActs_66 : decode cX4_judgeActs 66 = .ok (.iconst 1, 1) := by decide +kernel
theorem dX4_judgeActs_67 : decode cX4_judgeActs 67 = .ok (.goto 4, 3) := by decide +kernel
theorem dX4_judgeActs_70 : decode cX4_judgeActs 70 = .ok (.iconst 0, 1) := by decide +kernel
theorem dX4_judgeActs_71 : decode cX4_judgeActs 71 = .ok (.iadd, 1) := by decide +kernel
theorem dX4_judgeActs_72 : decode cX4_judgeActs 72 = .ok (.istore_n 2, 1) := by decide +kernel
theorem dX4_judgeActs_73 : decode cX4_judgeActs 73 = .ok (.iinc 3 1, 3) := by decide +kernel
theorem dX4_judgeActs_76 : decode cX4_judgeActs 76 = .ok (.goto (-67), 3) := by decide +kernel
theorem dX4_judgeActs_79 : decode cX4_judgeActs 79 = .ok (.iload_n 2, 1) := by decide +kernel
theorem dX4_judgeActs_80 : decode cX4_judgeActs 80 = .ok (.ireturn, 1) := by decide +kernel
set_option maxRecDepth 20000 in
theorem ggX4_brightRooms_X7_bit : GoodIn wsX4_brightRooms wsX7_bit := goodIn_r _ [6] (by decide +kernel) (by decide +kernel)
set_option maxRecDepth 20000 in
theorem gX4_brightRooms_X7_bit_n63 : GoodIn wsX4_brightRooms (wsX7_bit) := ggX4_brightRooms_X7_bit
set_option maxRecDepth 20000 in
theorem ggX4_brightRooms_X4_roomOf : GoodIn wsX4_brightRooms wsX4_roomOf := goodIn_r _ [11, 3, 12, 13] (by decide +kernel) (by decide +kernel)
set_option maxRecDepth 20000 in
theorem gX4_brightRooms_X4_roomOf : GoodIn wsX4_brightRooms (wsV RX4 57 RX4 yX4_roomOf wsX4_roomOf) := goodIn_app (goodIn_of _ (by decide +kernel)) ggX4_brightRooms_X4_roomOf
theorem dX4_brightRooms_0 : decode cX4_brightRooms 0 = .ok (.iconst 0, 1) := by decide +kernel
theorem dX4_brightRooms_1 : decode cX4_brightRooms 1 = .ok (.istore_n 1, 1) := by decide +kernel
theorem dX4_brightRooms_2 : decode cX4_brightRooms 2 = .ok (.iconst 0, 1) := by decide +kernel
theorem dX4_brightRooms_3 : decode cX4_brightRooms 3 = .ok (.istore_n 2, 1) := by decide +kernel
theorem dX4_brightRooms_4 : decode cX4_brightRooms 4 = .ok (.iload_n 2, 1) := by decide +kernel
theorem dX4_brightRooms_5 : decode cX4_brightRooms 5 = .ok (.aload_n 0, 1) := by decide +kernel
theorem dX4_brightRooms_6 : decode cX4_brightRooms 6 = .ok (.getfield 15, 3) := by decide +kernel
theorem dX4_brightRooms_9 : decode cX4_brightRooms 9 = .ok (.getfield 25, 3) := by decide +kernel
theorem dX4_brightRooms_12 : decode cX4_brightRooms 12 = .ok (.if_icmp .ge 28, 3) := by decide +kernel
theorem dX4_brightRooms_15 : decode cX4_brightRooms 15 = .ok (.iload_n 1, 1) := by decide +kernel
theorem dX4_brightRooms_16 : decode cX4_brightRooms 16 = .ok (.aload_n 0, 1) := by decide +kernel
theorem dX4_brightRooms_17 : decode cX4_brightRooms 17 = .ok (.getfield 11, 3) := by decide +kernel
theorem dX4_brightRooms_20 : decode cX4_brightRooms 20 = .ok (.iconst 1, 1) := by decide +kernel
theorem dX4_brightRooms_21 : decode cX4_brightRooms 21 = .ok (.iaload, 1) := by decide +kernel
theorem dX4_brightRooms_22 : decode cX4_brightRooms 22 = .ok (.iload_n 2, 1) := by decide +kernel
theorem dX4_brightRooms_23 : decode cX4_brightRooms 23 = .ok (.invokestatic 63, 3) := by decide +kernel
theorem dX4_brightRooms_26 : decode cX4_brightRooms 26 = .ok (.aload_n 0, 1) := by decide +kernel
theorem dX4_brightRooms_27 : decode cX4_brightRooms 27 = .ok (.iload_n 2, 1) := by decide +kernel
theorem dX4_brightRooms_28 : decode cX4_brightRooms 28 = .ok (.invokevirtual 57, 3) := by decide +kernel
theorem dX4_brightRooms_31 : decode cX4_brightRooms 31 = .ok (.ishl, 1) := by decide +kernel
theorem dX4_brightRooms_32 : decode cX4_brightRooms 32 = .ok (.ior, 1) := by decide +kernel
theorem dX4_brightRooms_33 : decode cX4_brightRooms 33 = .ok (.istore_n 1, 1) := by decide +kernel
theorem dX4_brightRooms_34 : decode cX4_brightRooms 34 = .ok (.iinc 2 1, 3) := by decide +kernel
theorem dX4_brightRooms_37 : decode cX4_brightRooms 37 = .ok (.goto (-33), 3) := by decide +kernel
theorem dX4_brightRooms_40 : decode cX4_brightRooms 40 = .ok (.iload_n 1, 1) := by decide +kernel
theorem dX4_brightRooms_41 : decode cX4_brightRooms 41 = .ok (.ireturn, 1) := by decide +kernel
set_option maxRecDepth 20000 in
theorem ggX4_judge_X4_stage : GoodIn wsX4_judge wsX4_stage := goodIn_r _ [9, 1, 10, 11] (by decide +kernel) (by decide +kernel)
set_option maxRecDepth 20000 in
theorem gX4_judge_X4_stage : GoodIn wsX4_judge (wsV RX4 43 RX4 yX4_stage wsX4_stage) := goodIn_app (goodIn_of _ (by decide +kernel)) ggX4_judge_X4_stage
theorem dX4_judge_0 : decode cX4_judge 0 = .ok (.iload_n 2, 1) := by decide +kernel
theorem dX4_judge_1 : decode cX4_judge 1 = .ok (.ifCond .ne 14, 3) := by decide +kernel
theorem dX4_judge_4 : decode cX4_judge 4 = .ok (.aload_n 0, 1) := by decide +kernel
theorem dX4_judge_5 : decode cX4_judge 5 = .ok (.getfield 11, 3) := by decide +kernel
theorem dX4_judge_8 : decode cX4_judge 8 = .ok (.bipush 16, 2) := by decide +kernel
theorem dX4_judge_10 : decode cX4_judge 10 = .ok (.iload_n 1, 1) := by decide +kernel
theorem dX4_judge_11 : decode cX4_judge 11 = .ok (.iadd, 1) := by decide +kernel
theorem dX4_judge_12 : decode cX4_judge 12 = .ok (.iconst 3, 1) := by decide +kernel
theorem dX4_judge_13 : decode cX4_judge 13 = .ok (.iastore, 1) := by decide +kernel
theorem dX4_judge_14 : decode cX4_judge 14 = .ok (.return_, 1) := by decide +kernel
theorem dX4_judge_15 : decode cX4_judge 15 = .ok (.aload_n 0, 1) := by decide +kernel
theorem dX4_judge_16 : decode cX4_judge 16 = .ok (.getfield 11, 3) := by decide +kernel
theorem dX4_judge_19 : decode cX4_judge 19 = .ok (.bipush 22, 2) := by decide +kernel
theorem dX4_judge_21 : decode cX4_judge 21 = .ok (.iload_n 1, 1) := by decide +kernel
theorem dX4_judge_22 : decode cX4_judge 22 = .ok (.iadd, 1) := by decide +kernel
theorem dX4_judge_23 : decode cX4_judge 23 = .ok (.dup2, 1) := by decide +kernel
theorem dX4_judge_24 : decode cX4_judge 24 = .ok (.iaload, 1) := by decide +kernel
theorem dX4_judge_25 : decode cX4_judge 25 = .ok (.iconst 1, 1) := by decide +kernel
theorem dX4_judge_26 : decode cX4_judge 26 = .ok (.iadd, 1) := by decide +kernel
theorem dX4_judge_27 : decode cX4_judge 27 = .ok (.iastore, 1) := by decide +kernel
theorem dX4_judge_28 : decode cX4_judge 28 = .ok (.aload_n 0, 1) := by decide +kernel
theorem dX4_judge_29 : decode cX4_judge 29 = .ok (.getfield 11, 3) := by decide +kernel
theorem dX4_judge_32 : decode cX4_judge 32 = .ok (.bipush 22, 2) := by decide +kernel
theorem dX4_judge_34 : decode cX4_judge 34 = .ok (.iload_n 1, 1) := by decide +kernel
theorem dX4_judge_35 : decode cX4_judge 35 = .ok (.iadd, 1) := by decide +kernel
theorem dX4_judge_36 : decode cX4_judge 36 = .ok (.iaload, 1) := by decide +kernel
theorem dX4_judge_37 : decode cX4_judge 37 = .ok (.aload_n 0, 1) := by decide +kernel
theorem dX4_judge_38 : decode cX4_judge 38 = .ok (.getfield 15, 3) := by decide +kernel
theorem dX4_judge_41 : decode cX4_judge 41 = .ok (.getfield 101, 3) := by decide +kernel
theorem dX4_judge_44 : decode cX4_judge 44 = .ok (.iload_n 1, 1) := by decide +kernel
theorem dX4_judge_45 : decode cX4_judge 45 = .ok (.iaload, 1) := by decide +kernel
theorem dX4_judge_46 : decode cX4_judge 46 = .ok (.if_icmp .lt 54, 3) := by decide +kernel
theorem dX4_judge_49 : decode cX4_judge 49 = .ok (.aload_n 0, 1) := by decide +kernel
theorem dX4_judge_50 : decode cX4_judge 50 = .ok (.getfield 15, 3) := by decide +kernel
theorem dX4_judge_53 : decode cX4_judge 53 = .ok (.getfield 104, 3) := by decide +kernel
theorem dX4_judge_56 : decode cX4_judge 56 = .ok (.iload_n 1, 1) := by decide +kernel
theorem dX4_judge_57 : decode cX4_judge 57 = .ok (.iaload, 1) := by decide +kernel
theorem dX4_judge_58 : decode cX4_judge 58 = .ok (.istore_n 3, 1) := by decide +kernel
theorem dX4_judge_59 : decode cX4_judge 59 = .ok (.iload_n 3, 1) := by decide +kernel
theorem dX4_judge_60 : decode cX4_judge 60 = .ok (.bipush 9, 2) := by decide +kernel
theorem dX4_judge_62 : decode cX4_judge 62 = .ok (.if_icmp .eq 12, 3) := by decide +kernel
theorem dX4_judge_65 : decode cX4_judge 65 = .ok (.aload_n 0, 1) := by decide +kernel
theorem dX4_judge_66 : decode cX4_judge 66 = .ok (.iload_n 3, 1) := by decide +kernel
theorem dX4_judge_67 : decode cX4_judge 67 = .ok (.invokevirtual 43, 3) := by decide +kernel
theorem dX4_judge_70 : decode cX4_judge 70 = .ok (.iconst 2, 1) := by decide +kernel
theorem dX4_judge_71 : decode cX4_judge 71 = .ok (.if_icmp .ne 7, 3) := by decide +kernel
theorem dX4_judge_74 : decode cX4_judge 74 = .ok (.iconst 1, 1) := by decide +kernel
theorem dX4_judge_75 : decode cX4_judge 75 = .ok (.goto 4, 3) := by decide +kernel
theorem dX4_judge_78 : decode cX4_judge 78 = .ok (.iconst 0, 1) := by decide +kernel
theorem dX4_judge_79 : decode cX4_judge 79 = .ok (.istore 4, 2) := by decide +kernel
theorem dX4_judge_81 : decode cX4_judge 81 = .ok (.aload_n 0, 1) := by decide +kernel
theorem dX4_judge_82 : decode cX4_judge 82 = .ok (.getfield 11, 3) := by decide +kernel
theorem dX4_judge_85 : decode cX4_judge 85 = .ok (.bipush 16, 2) := by decide +kernel
theorem dX4_judge_87 : decode cX4_judge 87 = .ok (.iload_n 1, 1) := by decide +kernel
theorem dX4_judge_88 : decode cX4_judge 88 = .ok (.iadd, 1) := by decide +kernel
theorem dX4_judge_89 : decode cX4_judge 89 = .ok (.iload 4, 2) := by decide +kernel
theorem dX4_judge_91 : decode cX4_judge 91 = .ok (.ifCond .eq 7, 3) := by decide +kernel
theorem dX4_judge_94 : decode cX4_judge 94 = .ok (.iconst 2, 1) := by decide +kernel
theorem dX4_judge_95 : decode cX4_judge 95 = .ok (.goto 4, 3) := by decide +kernel
theorem dX4_judge_98 : decode cX4_judge 98 = .ok (.iconst 3, 1) := by decide +kernel
theorem dX4_judge_99 : decode cX4_judge 99 = .ok (.iastore, 1) := by decide +kernel
theorem dX4_judge_100 : decode cX4_judge 100 = .ok (.return_, 1) := by decide +kernel
set_option maxRecDepth 20000 in
theorem ggX4_burn_X7_bit : GoodIn wsX4_burn wsX7_bit := goodIn_r _ [6] (by decide +kernel) (by decide +kernel)
set_option maxRecDepth 20000 in
theorem gX4_burn_X7_bit_n63 : GoodIn wsX4_burn (wsX7_bit) := ggX4_burn_X7_bit
set_option maxRecDepth 20000 in
theorem ggX4_burn_X4_roomOf : GoodIn wsX4_burn wsX4_roomOf := goodIn_r _ [11, 3, 16, 17] (by decide +kernel) (by decide +kernel)
set_option maxRecDepth 20000 in
theorem gX4_burn_X4_roomOf : GoodIn wsX4_burn (wsV RX4 57 RX4 yX4_roomOf wsX4_roomOf) := goodIn_app (goodIn_of _ (by decide +kernel)) ggX4_burn_X4_roomOf
set_option maxRecDepth 20000 in
theorem ggX4_burn_X4_left : GoodIn wsX4_burn wsX4_left := goodIn_r _ [15, 3, 16, 17] (by decide +kernel) (by decide +kernel)
set_option maxRecDepth 20000 in
theorem gX4_burn_X4_left : GoodIn wsX4_burn (wsV RX4 67 RX4 yX4_left wsX4_left) := goodIn_app (goodIn_of _ (by decide +kernel)) ggX4_burn_X4_left
theorem dX4_burn_0 : decode cX4_burn 0 = .ok (.iconst 0, 1) := by decide +kernel
theorem dX4_burn_1 : decode cX4_burn 1 = .ok (.istore_n 1, 1) := by decide +kernel
theorem dX4_burn_2 : decode cX4_burn 2 = .ok (.iload_n 1, 1) := by decide +kernel
theorem dX4_burn_3 : decode cX4_burn 3 = .ok (.aload_n 0, 1) := by decide +kernel
theorem dX4_burn_4 : decode cX4_burn 4 = .ok (.getfield 15, 3) := by decide +kernel
theorem dX4_burn_7 : decode cX4_burn 7 = .ok (.getfield 25, 3) := by decide +kernel
theorem dX4_burn_10 : decode cX4_burn 10 = .ok (.if_icmp .ge 74, 3) := by decide +kernel
theorem dX4_burn_13 : decode cX4_burn 13 = .ok (.aload_n 0, 1) := by decide +kernel
theorem dX4_burn_14 : decode cX4_burn 14 = .ok (.getfield 11, 3) := by decide +kernel
theorem dX4_burn_17 : decode cX4_burn 17 = .ok (.iconst 1, 1) := by decide +kernel
theorem dX4_burn_18 : decode cX4_burn 18 = .ok (.iaload, 1) := by decide +kernel
theorem dX4_burn_19 : decode cX4_burn 19 = .ok (.iload_n 1, 1) := by decide +kernel
theorem dX4_burn_20 : decode cX4_burn 20 = .ok (.invokestatic 63, 3) := by decide +kernel
theorem dX4_burn_23 : decode cX4_burn 23 = .ok (.iconst 1, 1) := by decide +kernel
theorem dX4_burn_24 : decode cX4_burn 24 = .ok (.if_icmp .ne 54, 3) := by decide +kernel
theorem dX4_burn_27 : decode cX4_burn 27 = .ok (.aload_n 0, 1) := by decide +kernel
theorem dX4_burn_28 : decode cX4_burn 28 = .ok (.getfield 11, 3) := by decide +kernel
theorem dX4_burn_31 : decode cX4_burn 31 = .ok (.iconst 4, 1) := by decide +kernel
theorem dX4_burn_32 : decode cX4_burn 32 = .ok (.iload_n 1, 1) := by decide +kernel
theorem dX4_burn_33 : decode cX4_burn 33 = .ok (.iadd, 1) := by decide +kernel
theorem dX4_burn_34 : decode cX4_burn 34 = .ok (.dup2, 1) := by decide +kernel
theorem dX4_burn_35 : decode cX4_burn 35 = .ok (.iaload, 1) := by decide +kernel
theorem dX4_burn_36 : decode cX4_burn 36 = .ok (.iconst 1, 1) := by decide +kernel
theorem dX4_burn_37 : decode cX4_burn 37 = .ok (.isub, 1) := by decide +kernel
theorem dX4_burn_38 : decode cX4_burn 38 = .ok (.iastore, 1) := by decide +kernel
theorem dX4_burn_39 : decode cX4_burn 39 = .ok (.aload_n 0, 1) := by decide +kernel
theorem dX4_burn_40 : decode cX4_burn 40 = .ok (.getfield 11, 3) := by decide +kernel
theorem dX4_burn_43 : decode cX4_burn 43 = .ok (.bipush 28, 2) := by decide +kernel
theorem dX4_burn_45 : decode cX4_burn 45 = .ok (.aload_n 0, 1) := by decide +kernel
theorem dX4_burn_46 : decode cX4_burn 46 = .ok (.iload_n 1, 1) := by decide +kernel
theorem dX4_burn_47 : decode cX4_burn 47 = .ok (.invokevirtual 57, 3) := by decide +kernel
theorem dX4_burn_50 : decode cX4_burn 50 = .ok (.iadd, 1) := by decide +kernel
theorem dX4_burn_51 : decode cX4_burn 51 = .ok (.dup2, 1) := by decide +kernel
theorem dX4_burn_52 : decode cX4_burn 52 = .ok (.iaload, 1) := by decide +kernel
theorem dX4_burn_53 : decode cX4_burn 53 = .ok (.iconst 1, 1) := by decide +kernel
theorem dX4_burn_54 : decode cX4_burn 54 = .ok (.iadd, 1) := by decide +kernel
theorem dX4_burn_55 : decode cX4_burn 55 = .ok (.iastore, 1) := by decide +kernel
theorem dX4_burn_56 : decode cX4_burn 56 = .ok (.aload_n 0, 1) := by decide +kernel
theorem dX4_burn_57 : decode cX4_burn 57 = .ok (.iload_n 1, 1) := by decide +kernel
theorem dX4_burn_58 : decode cX4_burn 58 = .ok (.invokevirtual 67, 3) := by decide +kernel
theorem dX4_burn_61 : decode cX4_burn 61 = .ok (.ifCond .ne 17, 3) := by decide +kernel
theorem dX4_burn_64 : decode cX4_burn 64 = .ok (.aload_n 0, 1) := by decide +kernel
theorem dX4_burn_65 : decode cX4_burn 65 = .ok (.getfield 11, 3) := by decide +kernel
theorem dX4_burn_68 : decode cX4_burn 68 = .ok (.iconst 1, 1) := by decide +kernel
theorem dX4_burn_69 : decode cX4_burn 69 = .ok (.dup2, 1) := by decide +kernel
theorem dX4_burn_70 : decode cX4_burn 70 = .ok (.iaload, 1) := by decide +kernel
theorem dX4_burn_71 : decode cX4_burn 71 = .ok (.iconst 1, 1) := by decide +kernel
theorem dX4_burn_72 : decode cX4_burn 72 = .ok (.iload_n 1, 1) := by decide +kernel
theorem dX4_burn_73 : decode cX4_burn 73 = .ok (.ishl, 1) := by decide +kernel
theorem dX4_burn_74 : decode cX4_burn 74 = .ok (.iconst (-1), 1) := by decide +kernel
theorem dX4_burn_75 : decode cX4_burn 75 = .ok (.ixor, 1) := by decide +kernel
theorem dX4_burn_76 : decode cX4_burn 76 = .ok (.iand, 1) := by decide +kernel
theorem dX4_burn_77 : decode cX4_burn 77 = .ok (.iastore, 1) := by decide +kernel
theorem dX4_burn_78 : decode cX4_burn 78 = .ok (.iinc 1 1, 3) := by decide +kernel
theorem dX4_burn_81 : decode cX4_burn 81 = .ok (.goto (-79), 3) := by decide +kernel
theorem dX4_burn_84 : decode cX4_burn 84 = .ok (.return_, 1) := by decide +kernel
theorem dX5_init_0 : decode cX5_init 0 = .ok (.aload_n 0, 1) := by decide +kernel
theorem dX5_init_1 : decode cX5_init 1 = .ok (.invokespecial 3, 3) := by decide +kernel
theorem dX5_init_4 : decode cX5_init 4 = .ok (.aload_n 0, 1) := by decide +kernel
theorem dX5_init_5 : decode cX5_init 5 = .ok (.bipush 10, 2) := by decide +kernel
theorem dX5_init_7 : decode cX5_init 7 = .ok (.bipush 33, 2) := by decide +kernel
theorem dX5_init_9 : decode cX5_init 9 = .ok (.multianewarray 11 2, 4) := by decide +kernel
theorem dX5_init_13 : decode cX5_init 13 = .ok (.putfield 13, 3) := by decide +kernel
theorem dX5_init_16 : decode cX5_init 16 = .ok (.return_, 1) := by decide +kernel
theorem dX5_remember_0 : decode cX5_remember 0 = .ok (.aload_n 1, 1) := by decide +kernel
theorem dX5_remember_1 : decode cX5_remember 1 = .ok (.getfield 18, 3) := by decide +kernel
theorem dX5_remember_4 : decode cX5_remember 4 = .ok (.iconst 0, 1) := by decide +kernel
theorem dX5_remember_5 : decode cX5_remember 5 = .ok (.aload_n 0, 1) := by decide +kernel
theorem dX5_remember_6 : decode cX5_remember 6 = .ok (.getfield 13, 3) := by decide +kernel
theorem dX5_remember_9 : decode cX5_remember 9 = .ok (.aload_n 0, 1) := by decide +kernel
theorem dX5_remember_10 : decode cX5_remember 10 = .ok (.getfield 22, 3) := by decide +kernel
theorem dX5_remember_13 : decode cX5_remember 13 = .ok (.aaload, 1) := by decide +kernel
theorem dX5_remember_14 : decode cX5_remember 14 = .ok (.iconst 0, 1) := by decide +kernel
theorem dX5_remember_15 : decode cX5_remember 15 = .ok (.bipush 33, 2) := by decide +kernel
theorem dX5_remember_17 : decode cX5_remember 17 = .ok (.invokestatic 26, 3) := by decide +kernel
theorem dX5_remember_20 : decode cX5_remember 20 = .ok (.aload_n 0, 1) := by decide +kernel
theorem dX5_remember_21 : decode cX5_remember 21 = .ok (.aload_n 0, 1) := by decide +kernel
theorem dX5_remember_22 : decode cX5_remember 22 = .ok (.getfield 22, 3) := by decide +kernel
theorem dX5_remember_25 : decode cX5_remember 25 = .ok (.iconst 1, 1) := by decide +kernel
theorem dX5_remember_26 : decode cX5_remember 26 = .ok (.iadd, 1) := by decide +kernel
theorem dX5_remember_27 : decode cX5_remember 27 = .ok (.bipush 10, 2) := by decide +kernel
theorem dX5_remember_29 : decode cX5_remember 29 = .ok (.irem, 1) := by decide +kernel
theorem dX5_remember_30 : decode cX5_remember 30 = .ok (.putfield 22, 3) := by decide +kernel
theorem dX5_remember_33 : decode cX5_remember 33 = .ok (.aload_n 0, 1) := by decide +kernel
theorem dX5_remember_34 : decode cX5_remember 34 = .ok (.aload_n 0, 1) := by decide +kernel
theorem dX5_remember_35 : decode cX5_remember 35 = .ok (.getfield 32, 3) := by decide +kernel
theorem dX5_remember_38 : decode cX5_remember 38 = .ok (.iconst 1, 1) := by decide +kernel
theorem dX5_remember_39 : decode cX5_remember 39 = .ok (.iadd, 1) := by decide +kernel
theorem dX5_remember_40 : decode cX5_remember 40 = .ok (.bipush 10, 2) := by decide +kernel
theorem dX5_remember_42 : decode cX5_remember 42 = .ok (.invokestatic 35, 3) := by decide +kernel
theorem dX5_remember_45 : decode cX5_remember 45 = .ok (.putfield 32, 3) := by decide +kernel
theorem dX5_remember_48 : decode cX5_remember 48 = .ok (.return_, 1) := by decide +kernel
theorem dX5_takeBack_0 : decode cX5_takeBack 0 = .ok (.aload_n 0, 1) := by decide +kernel
theorem dX5_takeBack_1 : decode cX5_takeBack 1 = .ok (.aload_n 0, 1) := by decide +kernel
theorem dX5_takeBack_2 : decode cX5_takeBack 2 = .ok (.getfield 22, 3) := by decide +kernel
theorem dX5_takeBack_5 : decode cX5_takeBack 5 = .ok (.bipush 10, 2) := by decide +kernel
theorem dX5_takeBack_7 : decode cX5_takeBack 7 = .ok (.iadd, 1) := by decide +kernel
theorem dX5_takeBack_8 : decode cX5_takeBack 8 = .ok (.iconst 1, 1) := by decide +kernel
theorem dX5_takeBack_9 : decode cX5_takeBack 9 = .ok (.isub, 1) := by decide +kernel
theorem dX5_takeBack_10 : decode cX5_takeBack 10 = .ok (.bipush 10, 2) := by decide +kernel
theorem dX5_takeBack_12 : decode cX5_takeBack 12 = .ok (.irem, 1) := by decide +kernel
theorem dX5_takeBack_13 : decode cX5_takeBack 13 = .ok (.putfield 22, 3) := by decide +kernel
theorem dX5_takeBack_16 : decode cX5_takeBack 16 = .ok (.aload_n 0, 1) := by decide +kernel
theorem dX5_takeBack_17 : decode cX5_takeBack 17 = .ok (.dup, 1) := by decide +kernel
theorem dX5_takeBack_18 : decode cX5_takeBack 18 = .ok (.getfield 32, 3) := by decide +kernel
theorem dX5_takeBack_21 : decode cX5_takeBack 21 = .ok (.iconst 1, 1) := by decide +kernel
theorem dX5_takeBack_22 : decode cX5_takeBack 22 = .ok (.isub, 1) := by decide +kernel
theorem dX5_takeBack_23 : decode cX5_takeBack 23 = .ok (.putfield 32, 3) := by decide +kernel
theorem dX5_takeBack_26 : decode cX5_takeBack 26 = .ok (.aload_n 0, 1) := by decide +kernel
theorem dX5_takeBack_27 : decode cX5_takeBack 27 = .ok (.getfield 13, 3) := by decide +kernel
theorem dX5_takeBack_30 : decode cX5_takeBack 30 = .ok (.aload_n 0, 1) := by decide +kernel
theorem dX5_takeBack_31 : decode cX5_takeBack 31 = .ok (.getfield 22, 3) := by decide +kernel
theorem dX5_takeBack_34 : decode cX5_takeBack 34 = .ok (.aaload, 1) := by decide +kernel
theorem dX5_takeBack_35 : decode cX5_takeBack 35 = .ok (.iconst 0, 1) := by decide +kernel
theorem dX5_takeBack_36 : decode cX5_takeBack 36 = .ok (.aload_n 1, 1) := by decide +kernel
theorem dX5_takeBack_37 : decode cX5_takeBack 37 = .ok (.getfield 18, 3) := by decide +kernel
theorem dX5_takeBack_40 : decode cX5_takeBack 40 = .ok (.iconst 0, 1) := by decide +kernel
theorem dX5_takeBack_41 : decode cX5_takeBack 41 = .ok (.bipush 33, 2) := by decide +kernel
theorem dX5_takeBack_43 : decode cX5_takeBack 43 = .ok (.invokestatic 26, 3) := by decide +kernel
theorem dX5_takeBack_46 : decode cX5_takeBack 46 = .ok (.return_, 1) := by decide +kernel
theorem dX5_copyFrom_0 : decode cX5_copyFrom 0 = .ok (.aload_n 0, 1) := by decide +kernel
theorem dX5_copyFrom_1 : decode cX5_copyFrom 1 = .ok (.aload_n 1, 1) := by decide +kernel
theorem dX5_copyFrom_2 : decode cX5_copyFrom 2 = .ok (.getfield 32, 3) := by decide +kernel
theorem dX5_copyFrom_5 : decode cX5_copyFrom 5 = .ok (.putfield 32, 3) := by decide +kernel
theorem dX5_copyFrom_8 : decode cX5_copyFrom 8 = .ok (.aload_n 0, 1) := by decide +kernel
theorem dX5_copyFrom_9 : decode cX5_copyFrom 9 = .ok (.aload_n 1, 1) := by decide +kernel
theorem dX5_copyFrom_10 : decode cX5_copyFrom 10 = .ok (.getfield 22, 3) := by decide +kernel
theorem dX5_copyFrom_13 : decode cX5_copyFrom 13 = .ok (.putfield 22, 3) := by decide +kernel
theorem dX5_copyFrom_16 : decode cX5_copyFrom 16 = .ok (.iconst 0, 1) := by decide +kernel
theorem dX5_copyFrom_17 : decode cX5_copyFrom 17 = .ok (.istore_n 2, 1) := by decide +kernel
theorem dX5_copyFrom_18 : decode cX5_copyFrom 18 = .ok (.iload_n 2, 1) := by decide +kernel
theorem dX5_copyFrom_19 : decode cX5_copyFrom 19 = .ok (.bipush 10, 2) := by decide +kernel
theorem dX5_copyFrom_21 : decode cX5_copyFrom 21 = .ok (.if_icmp .ge 28, 3) := by decide +kernel
theorem dX5_copyFrom_24 : decode cX5_copyFrom 24 = .ok (.aload_n 1, 1) := by decide +kernel
theorem dX5_copyFrom_25 : decode cX5_copyFrom 25 = .ok (.getfield 13, 3) := by decide +kernel
theorem dX5_copyFrom_28 : decode cX5_copyFrom 28 = .ok (.iload_n 2, 1) := by decide +kernel
theorem dX5_copyFrom_29 : decode cX5_copyFrom 29 = .ok (.aaload, 1) := by decide +kernel
theorem dX5_copyFrom_30 : decode cX5_copyFrom 30 = .ok (.iconst 0, 1) := by decide +kernel
theorem dX5_copyFrom_31 : decode cX5_copyFrom 31 = .ok (.aload_n 0, 1) := by decide +kernel
theorem dX5_copyFrom_32 : decode cX5_copyFrom 32 = .ok (.getfield 13, 3) := by decide +kernel
theorem dX5_copyFrom_35 : decode cX5_copyFrom 35 = .ok (.iload_n 2, 1) := by decide +kernel
theorem dX5_copyFrom_36 : decode cX5_copyFrom 36 = .ok (.aaload, 1) := by decide +kernel
theorem dX5_copyFrom_37 : decode cX5_copyFrom 37 = .ok (.iconst 0, 1) := by decide +kernel
theorem dX5_copyFrom_38 : decode cX5_copyFrom 38 = .ok (.bipush 33, 2) := by decide +kernel
theorem dX5_copyFrom_40 : decode cX5_copyFrom 40 = .ok (.invokestatic 26, 3) := by decide +kernel
theorem dX5_copyFrom_43 : decode cX5_copyFrom 43 = .ok (.iinc 2 1, 3) := by decide +kernel
theorem dX5_copyFrom_46 : decode cX5_copyFrom 46 = .ok (.goto (-28), 3) := by decide +kernel
theorem dX5_copyFrom_49 : decode cX5_copyFrom 49 = .ok (.return_, 1) := by decide +kernel
set_option maxRecDepth 20000 in
theorem ggX6_init_X2_init : GoodIn wsX6_init wsX2_init := goodIn_r _ [10, 11, 2, 3, 12, 13, 14, 15, 16, 17, 18, 19, 20, 21, 22, 23, 24, 25, 26, 27, 28, 29, 30, 31, 32, 33, 34, 35] (by decide +kernel) (by decide +kernel)
set_option maxRecDepth 20000 in
theorem gX6_init_X2_init_n11 : GoodIn wsX6_init (wsX2_init) := ggX6_init_X2_init
theorem dX6_init_0 : decode cX6_init 0 = .ok (.aload_n 0, 1) := by decide +kernel
theorem dX6_init_1 : decode cX6_init 1 = .ok (.invokespecial 3, 3) := by decide +kernel
theorem dX6_init_4 : decode cX6_init 4 = .ok (.aload_n 0, 1) := by decide +kernel
theorem dX6_init_5 : decode cX6_init 5 = .ok (.new 9, 3) := by decide +kernel
theorem dX6_init_8 : decode cX6_init 8 = .ok (.dup, 1) := by decide +kernel
theorem dX6_init_9 : decode cX6_init 9 = .ok (.invokespecial 11, 3) := by decide +kernel
theorem dX6_init_12 : decode cX6_init 12 = .ok (.putfield 12, 3) := by decide +kernel
theorem dX6_init_15 : decode cX6_init 15 = .ok (.aload_n 0, 1) := by decide +kernel
theorem dX6_init_16 : decode cX6_init 16 = .ok (.aload_n 1, 1) := by decide +kernel
theorem dX6_init_17 : decode cX6_init 17 = .ok (.putfield 18, 3) := by decide +kernel
theorem dX6_init_20 : decode cX6_init 20 = .ok (.return_, 1) := by decide +kernel
set_option maxRecDepth 20000 in
theorem ggX6_read_X2_empty : GoodIn wsX6_read wsX2_empty := goodIn_r _ [14, 15, 16, 17, 18, 19, 91, 92, 93, 94, 95, 96, 97, 98, 99, 100, 101, 102, 103, 104] (by decide +kernel) (by decide +kernel)
set_option maxRecDepth 20000 in
theorem gX6_read_X2_empty : GoodIn wsX6_read (wsV RX6 35 RX2 yX2_empty wsX2_empty) := goodIn_app (goodIn_of _ (by decide +kernel)) ggX6_read_X2_empty
set_option maxRecDepth 20000 in
theorem ggX6_read_X6_step : GoodIn wsX6_read wsX6_step := goodIn_r _ [24, 7, 25, 26, 6, 9, 1, 27, 28, 29, 23, 30, 31, 32, 33, 34, 84, 85, 86, 87, 88, 89, 90] (by decide +kernel) (by decide +kernel)
set_option maxRecDepth 20000 in
theorem gX6_read_X6_step : GoodIn wsX6_read (wsV RX6 38 RX6 yX6_step wsX6_step) := goodIn_app (goodIn_of _ (by decide +kernel)) ggX6_read_X6_step
set_option maxRecDepth 20000 in
theorem ggX6_read_X6_readsItem : GoodIn wsX6_read wsX6_readsItem := goodIn_r _ [38, 9, 26, 39, 40, 41, 23, 42, 8, 43, 44, 45, 46, 47, 20, 21, 22, 24, 7, 25, 6, 1, 27, 28, 29, 30, 31, 32, 33, 34, 48, 49, 50, 51, 52, 53, 54, 55, 56, 57, 58, 59, 60, 61, 62, 63, 64, 65, 66, 67, 68, 69, 70, 71, 72, 73, 74, 75, 76, 77, 78, 79, 80, 81, 82, 83, 84, 85, 86, 87, 88, 89, 90, 91, 92, 93, 94, 95, 96, 97, 98, 99, 100, 101, 102, 103, 104] (by decide +kernel) (by decide +kernel)
set_option maxRecDepth 20000 in
theorem gX6_read_X6_readsItem : GoodIn wsX6_read (wsV RX6 44 RX6 yX6_readsItem wsX6_readsItem) := goodIn_app (goodIn_of _ (by decide +kernel)) ggX6_read_X6_readsItem
theorem dX6_read_0 : decode cX6_read 0 = .ok (.aload_n 0, 1) := by decide +kernel
theorem dX6_read_1 : decode cX6_read 1 = .ok (.iload_n 1, 1) := by decide +kernel
theorem dX6_read_2 : decode cX6_read 2 = .ok (.aload_n 0, 1) := by decide +kernel
theorem dX6_read_3 : decode cX6_read 3 = .ok (.getfield 18, 3) := by decide +kernel
theorem dX6_read_6 : decode cX6_read 6 = .ok (.arraylength, 1) := by decide +kernel
theorem dX6_read_7 : decode cX6_read 7 = .ok (.invokestatic 22, 3) := by decide +kernel
theorem dX6_read_10 : decode cX6_read 10 = .ok (.putfield 28, 3) := by decide +kernel
theorem dX6_read_13 : decode cX6_read 13 = .ok (.aload_n 0, 1) := by decide +kernel
theorem dX6_read_14 : decode cX6_read 14 = .ok (.iconst 0, 1) := by decide +kernel
theorem dX6_read_15 : decode cX6_read 15 = .ok (.putfield 32, 3) := by decide +kernel
theorem dX6_read_18 : decode cX6_read 18 = .ok (.aload_n 0, 1) := by decide +kernel
theorem dX6_read_19 : decode cX6_read 19 = .ok (.getfield 12, 3) := by decide +kernel
theorem dX6_read_22 : decode cX6_read 22 = .ok (.invokevirtual 35, 3) := by decide +kernel
theorem dX6_read_25 : decode cX6_read 25 = .ok (.iconst 0, 1) := by decide +kernel
theorem dX6_read_26 : decode cX6_read 26 = .ok (.istore_n 2, 1) := by decide +kernel
theorem dX6_read_27 : decode cX6_read 27 = .ok (.iconst 0, 1) := by decide +kernel
theorem dX6_read_28 : decode cX6_read 28 = .ok (.istore_n 3, 1) := by decide +kernel
theorem dX6_read_29 : decode cX6_read 29 = .ok (.iload_n 3, 1) := by decide +kernel
theorem dX6_read_30 : decode cX6_read 30 = .ok (.aload_n 0, 1) := by decide +kernel
theorem dX6_read_31 : decode cX6_read 31 = .ok (.getfield 28, 3) := by decide +kernel
theorem dX6_read_34 : decode cX6_read 34 = .ok (.if_icmp .gt 35, 3) := by decide +kernel
theorem dX6_read_37 : decode cX6_read 37 = .ok (.aload_n 0, 1) := by decide +kernel
theorem dX6_read_38 : decode cX6_read 38 = .ok (.invokevirtual 38, 3) := by decide +kernel
theorem dX6_read_41 : decode cX6_read 41 = .ok (.aload_n 0, 1) := by decide +kernel
theorem dX6_read_42 : decode cX6_read 42 = .ok (.getfield 41, 3) := by decide +kernel
theorem dX6_read_45 : decode cX6_read 45 = .ok (.ifCond .ne 6, 3) := by decide +kernel
theorem dX6_read_48 : decode cX6_read 48 = .ok (.goto 21, 3) := by decide +kernel
theorem dX6_read_51 : decode cX6_read 51 = .ok (.aload_n 0, 1) := by decide +kernel
theorem dX6_read_52 : decode cX6_read 52 = .ok (.invokevirtual 44, 3) := by decide +kernel
theorem dX6_read_55 : decode cX6_read 55 = .ok (.ifCond .ne 5, 3) := by decide +kernel
theorem dX6_read_58 : decode cX6_read 58 = .ok (.iconst (-1), 1) := by decide +kernel
theorem dX6_read_59 : decode cX6_read 59 = .ok (.ireturn, 1) := by decide +kernel
theorem dX6_read_60 : decode cX6_read 60 = .ok (.iinc 2 1, 3) := by decide +kernel
theorem dX6_read_63 : decode cX6_read 63 = .ok (.iinc 3 1, 3) := by decide +kernel
theorem dX6_read_66 : decode cX6_read 66 = .ok (.goto (-37), 3) := by decide +kernel
theorem dX6_read_69 : decode cX6_read 69 = .ok (.iload_n 2, 1) := by decide +kernel
theorem dX6_read_70 : decode cX6_read 70 = .ok (.ireturn, 1) := by decide +kernel
set_option maxRecDepth 20000 in
theorem ggX6_readsItem_X6_readsRoom : GoodIn wsX6_readsItem wsX6_readsRoom := goodIn_r _ [7, 8, 9, 10, 11, 12, 6, 13, 1, 14, 15, 16, 17, 18, 19, 2, 20, 21, 22, 23, 24, 25, 26, 27, 28, 29, 66, 67, 68, 69, 70, 71, 72, 73, 74, 75, 76, 77, 78, 79, 80, 81, 82, 83, 84, 85, 86] (by decide +kernel) (by decide +kernel)
set_option maxRecDepth 20000 in
theorem gX6_readsItem_X6_readsRoom : GoodIn wsX6_readsItem (wsV RX6 51 RX6 yX6_readsRoom wsX6_readsRoom) := goodIn_app (goodIn_of _ (by decide +kernel)) ggX6_readsItem_X6_readsRoom
set_option maxRecDepth 20000 in
theorem ggX6_readsItem_X6_readsDoor : GoodIn wsX6_readsItem wsX6_readsDoor := goodIn_r _ [33, 8, 34, 9, 35, 2, 36, 37, 38, 39, 6, 40, 1, 14, 15, 16, 17, 18, 19, 20, 21, 22, 23, 24, 25, 26, 27, 28, 29, 41, 42, 43, 10, 11, 12, 13, 66, 67, 68, 69, 70, 71, 72, 73, 74, 75, 76, 77, 78, 79, 80, 81, 82, 83, 84, 85, 86] (by decide +kernel) (by decide +kernel)
set_option maxRecDepth 20000 in
theorem gX6_readsItem_X6_readsDoor : GoodIn wsX6_readsItem (wsV RX6 54 RX6 yX6_readsDoor wsX6_readsDoor) := goodIn_app (goodIn_of _ (by decide +kernel)) ggX6_readsItem_X6_readsDoor
set_option maxRecDepth 20000 in
theorem ggX6_readsItem_X6_readsCandle : GoodIn wsX6_readsItem wsX6_readsCandle := goodIn_r _ [47, 8, 48, 49, 2, 9, 50, 37, 38, 39, 6, 40, 1, 14, 15, 16, 17, 18, 19, 20, 21, 22, 23, 24, 25, 26, 27, 28, 29, 41, 42, 43, 10, 11, 12, 13, 66, 67, 68, 69, 70, 71, 72, 73, 74, 75, 76, 77, 78, 79, 80, 81, 82, 83, 84, 85, 86] (by decide +kernel) (by decide +kernel)
set_option maxRecDepth 20000 in
theorem gX6_readsItem_X6_readsCandle : GoodIn wsX6_readsItem (wsV RX6 57 RX6 yX6_readsCandle wsX6_readsCandle) := goodIn_app (goodIn_of _ (by decide +kernel)) ggX6_readsItem_X6_readsCandle
set_option maxRecDepth 20000 in
theorem ggX6_readsItem_X6_readsAct : GoodIn wsX6_readsItem wsX6_readsAct := goodIn_r _ [54, 8, 55, 56, 2, 57, 9, 58, 1, 59, 37, 38, 39, 6, 40, 14, 15, 16, 17, 18, 19, 20, 21, 22, 23, 24, 25, 26, 27, 28, 29, 41, 42, 43, 10, 11, 12, 13, 66, 67, 68, 69, 70, 71, 72, 73, 74, 75, 76, 77, 78, 79, 80, 81, 82, 83, 84, 85, 86] (by decide +kernel) (by decide +kernel)
set_option maxRecDepth 20000 in
theorem gX6_readsItem_X6_readsAct : GoodIn wsX6_readsItem (wsV RX6 60 RX6 yX6_readsAct wsX6_readsAct) := goodIn_app (goodIn_of _ (by decide +kernel)) ggX6_readsItem_X6_readsAct
set_option maxRecDepth 20000 in
theorem ggX6_readsItem_X6_readsWind : GoodIn wsX6_readsItem wsX6_readsWind := goodIn_r _ [63, 8, 64, 65, 2, 1, 37, 38, 39, 6, 40, 14, 15, 16, 17, 18, 19, 20, 21, 22, 23, 24, 25, 26, 27, 28, 29, 41, 42, 43, 10, 11, 12, 13, 66, 67, 68, 69, 70, 71, 72, 73, 74, 75, 76, 77, 78, 79, 80, 81, 82, 83, 84, 85, 86] (by decide +kernel) (by decide +kernel)
set_option maxRecDepth 20000 in
theorem gX6_readsItem_X6_readsWind : GoodIn wsX6_readsItem (wsV RX6 63 RX6 yX6_readsWind wsX6_readsWind) := goodIn_app (goodIn_of _ (by decide +kernel)) ggX6_readsItem_X6_readsWind
theorem dX6_readsItem_0 : decode cX6_readsItem 0 = .ok (.aload_n 0, 1) := by decide +kernel
theorem dX6_readsItem_1 : decode cX6_readsItem 1 = .ok (.getfield 41, 3) := by decide +kernel
theorem dX6_readsItem_4 : decode cX6_readsItem 4 = .ok (.iconst 1, 1) := by decide +kernel
theorem dX6_readsItem_5 : decode cX6_readsItem 5 = .ok (.if_icmp .eq 5, 3) := by decide +kernel
theorem dX6_readsItem_8 : decode cX6_readsItem 8 = .ok (.iconst 0, 1) := by decide +kernel
theorem dX6_readsItem_9 : decode cX6_readsItem 9 = .ok (.ireturn, 1) := by decide +kernel
theorem dX6_readsItem_10 : decode cX6_readsItem 10 = .ok (.aload_n 0, 1) := by decide +kernel
theorem dX6_readsItem_11 : decode cX6_readsItem 11 = .ok (.getfield 48, 3) := by decide +kernel
theorem dX6_readsItem_14 : decode cX6_readsItem 14 = .ok (.lookupswitch 75 #[(97, 65), (99, 60), (100, 55), (114, 50), (119, 70)], 50) := by decide +kernel
theorem dX6_readsItem_64 : decode cX6_readsItem 64 = .ok (.aload_n 0, 1) := by decide +kernel
theorem dX6_readsItem_65 : decode cX6_readsItem 65 = .ok (.invokevirtual 51, 3) := by decide +kernel
theorem dX6_readsItem_68 : decode cX6_readsItem 68 = .ok (.ireturn, 1) := by decide +kernel
theorem dX6_readsItem_69 : decode cX6_readsItem 69 = .ok (.aload_n 0, 1) := by decide +kernel
theorem dX6_readsItem_70 : decode cX6_readsItem 70 = .ok (.invokevirtual 54, 3) := by decide +kernel
theorem dX6_readsItem_73 : decode cX6_readsItem 73 = .ok (.ireturn, 1) := by decide +kernel
theorem dX6_readsItem_74 : decode cX6_readsItem 74 = .ok (.aload_n 0, 1) := by decide +kernel
theorem dX6_readsItem_75 : decode cX6_readsItem 75 = .ok (.invokevirtual 57, 3) := by decide +kernel
theorem dX6_readsItem_78 : decode cX6_readsItem 78 = .ok (.ireturn, 1) := by decide +kernel
theorem dX6_readsItem_79 : decode cX6_readsItem 79 = .ok (.aload_n 0, 1) := by decide +kernel
theorem dX6_readsItem_80 : decode cX6_readsItem 80 = .ok (.invokevirtual 60, 3) := by decide +kernel
theorem dX6_readsItem_83 : decode cX6_readsItem 83 = .ok (.ireturn, 1) := by decide +kernel
theorem dX6_readsItem_84 : decode cX6_readsItem 84 = .ok (.aload_n 0, 1) := by decide +kernel
theorem dX6_readsItem_85 : decode cX6_readsItem 85 = .ok (.invokevirtual 63, 3) := by decide +kernel
theorem dX6_readsItem_88 : decode cX6_readsItem 88 = .ok (.ireturn, 1) := by decide +kernel
theorem dX6_readsItem_89 : decode cX6_readsItem 89 = .ok (.iconst 0, 1) := by decide +kernel
theorem dX6_readsItem_90 : decode cX6_readsItem 90 = .ok (.ireturn, 1) := by decide +kernel
set_option maxRecDepth 20000 in
theorem ggX6_readsRoom_X6_readsEnd : GoodIn wsX6_readsRoom wsX6_readsEnd := goodIn_r _ [7, 8, 9, 10, 11, 6, 12, 13, 14, 15, 16, 17, 18, 19, 20, 21, 22, 23, 24, 25, 26, 27, 28, 29, 30, 31, 32] (by decide +kernel) (by decide +kernel)
set_option maxRecDepth 20000 in
theorem gX6_readsRoom_X6_readsEnd : GoodIn wsX6_readsRoom (wsV RX6 69 RX6 yX6_readsEnd wsX6_readsEnd) := goodIn_app (goodIn_of _ (by decide +kernel)) ggX6_readsRoom_X6_readsEnd
theorem dX6_readsRoom_0 : decode cX6_readsRoom 0 = .ok (.aload_n 0, 1) := by decide +kernel
theorem dX6_readsRoom_1 : decode cX6_readsRoom 1 = .ok (.getfield 12, 3) := by decide +kernel
theorem dX6_readsRoom_4 : decode cX6_readsRoom 4 = .ok (.getfield 66, 3) := by decide +kernel
theorem dX6_readsRoom_7 : decode cX6_readsRoom 7 = .ok (.iconst 5, 1) := by decide +kernel
theorem dX6_readsRoom_8 : decode cX6_readsRoom 8 = .ok (.if_icmp .lt 5, 3) := by decide +kernel
theorem dX6_readsRoom_11 : decode cX6_readsRoom 11 = .ok (.iconst 0, 1) := by decide +kernel
theorem dX6_readsRoom_12 : decode cX6_readsRoom 12 = .ok (.ireturn, 1) := by decide +kernel
theorem dX6_readsRoom_13 : decode cX6_readsRoom 13 = .ok (.aload_n 0, 1) := by decide +kernel
theorem dX6_readsRoom_14 : decode cX6_readsRoom 14 = .ok (.getfield 12, 3) := by decide +kernel
theorem dX6_readsRoom_17 : decode cX6_readsRoom 17 = .ok (.dup, 1) := by decide +kernel
theorem dX6_readsRoom_18 : decode cX6_readsRoom 18 = .ok (.getfield 66, 3) := by decide +kernel
theorem dX6_readsRoom_21 : decode cX6_readsRoom 21 = .ok (.iconst 1, 1) := by decide +kernel
theorem dX6_readsRoom_22 : decode cX6_readsRoom 22 = .ok (.iadd, 1) := by decide +kernel
theorem dX6_readsRoom_23 : decode cX6_readsRoom 23 = .ok (.putfield 66, 3) := by decide +kernel
theorem dX6_readsRoom_26 : decode cX6_readsRoom 26 = .ok (.aload_n 0, 1) := by decide +kernel
theorem dX6_readsRoom_27 : decode cX6_readsRoom 27 = .ok (.invokevirtual 69, 3) := by decide +kernel
theorem dX6_readsRoom_30 : decode cX6_readsRoom 30 = .ok (.ireturn, 1) := by decide +kernel
set_option maxRecDepth 20000 in
theorem ggX6_readsDoor_X6_readsNumber : GoodIn wsX6_readsDoor wsX6_readsNumber := goodIn_r _ [11, 12, 5, 13, 14, 15, 10, 16, 17, 18, 19, 20, 21, 22, 23, 24, 25, 26, 27, 28, 29, 30, 31, 36, 37, 38, 39, 40, 41, 42] (by decide +kernel) (by decide +kernel)
set_option maxRecDepth 20000 in
theorem gX6_readsDoor_X6_readsNumber : GoodIn wsX6_readsDoor (wsV RX6 75 RX6 yX6_readsNumber wsX6_readsNumber) := goodIn_app (goodIn_of _ (by decide +kernel)) ggX6_readsDoor_X6_readsNumber
set_option maxRecDepth 20000 in
theorem ggX6_readsDoor_X6_readsEnd : GoodIn wsX6_readsDoor wsX6_readsEnd := goodIn_r _ [35, 12, 13, 14, 15, 10, 16, 17, 18, 5, 19, 20, 21, 22, 23, 24, 25, 26, 27, 28, 36, 37, 38, 39, 40, 41, 42] (by decide +kernel) (by decide +kernel)
set_option maxRecDepth 20000 in
theorem gX6_readsDoor_X6_readsEnd : GoodIn wsX6_readsDoor (wsV RX6 69 RX6 yX6_readsEnd wsX6_readsEnd) := goodIn_app (goodIn_of _ (by decide +kernel)) ggX6_readsDoor_X6_readsEnd
theorem dX6_readsDoor_0 : decode cX6_readsDoor 0 = .ok (.aload_n 0, 1) := by decide +kernel
theorem dX6_readsDoor_1 : decode cX6_readsDoor 1 = .ok (.getfield 12, 3) := by decide +kernel
theorem dX6_readsDoor_4 : decode cX6_readsDoor 4 = .ok (.getfield 72, 3) := by decide +kernel
theorem dX6_readsDoor_7 : decode cX6_readsDoor 7 = .ok (.istore_n 1, 1) := by decide +kernel
theorem dX6_readsDoor_8 : decode cX6_readsDoor 8 = .ok (.iload_n 1, 1) := by decide +kernel
theorem dX6_readsDoor_9 : decode cX6_readsDoor 9 = .ok (.iconst 5, 1) := by decide +kernel
theorem dX6_readsDoor_10 : decode cX6_readsDoor 10 = .ok (.if_icmp .ge 20, 3) := by decide +kernel
theorem dX6_readsDoor_13 : decode cX6_readsDoor 13 = .ok (.aload_n 0, 1) := by decide +kernel
theorem dX6_readsDoor_14 : decode cX6_readsDoor 14 = .ok (.iconst 0, 1) := by decide +kernel
theorem dX6_readsDoor_15 : decode cX6_readsDoor 15 = .ok (.aload_n 0, 1) := by decide +kernel
theorem dX6_readsDoor_16 : decode cX6_readsDoor 16 = .ok (.getfield 12, 3) := by decide +kernel
theorem dX6_readsDoor_19 : decode cX6_readsDoor 19 = .ok (.getfield 66, 3) := by decide +kernel
theorem dX6_readsDoor_22 : decode cX6_readsDoor 22 = .ok (.iconst 1, 1) := by decide +kernel
theorem dX6_readsDoor_23 : decode cX6_readsDoor 23 = .ok (.isub, 1) := by decide +kernel
theorem dX6_readsDoor_24 : decode cX6_readsDoor 24 = .ok (.invokevirtual 75, 3) := by decide +kernel
theorem dX6_readsDoor_27 : decode cX6_readsDoor 27 = .ok (.ifCond .ne 5, 3) := by decide +kernel
theorem dX6_readsDoor_30 : decode cX6_readsDoor 30 = .ok (.iconst 0, 1) := by decide +kernel
theorem dX6_readsDoor_31 : decode cX6_readsDoor 31 = .ok (.ireturn, 1) := by decide +kernel
theorem dX6_readsDoor_32 : decode cX6_readsDoor 32 = .ok (.aload_n 0, 1) := by decide +kernel
theorem dX6_readsDoor_33 : decode cX6_readsDoor 33 = .ok (.getfield 12, 3) := by decide +kernel
theorem dX6_readsDoor_36 : decode cX6_readsDoor 36 = .ok (.getfield 79, 3) := by decide +kernel
theorem dX6_readsDoor_39 : decode cX6_readsDoor 39 = .ok (.iload_n 1, 1) := by decide +kernel
theorem dX6_readsDoor_40 : decode cX6_readsDoor 40 = .ok (.aload_n 0, 1) := by decide +kernel
theorem dX6_readsDoor_41 : decode cX6_readsDoor 41 = .ok (.getfield 48, 3) := by decide +kernel
theorem dX6_readsDoor_44 : decode cX6_readsDoor 44 = .ok (.iastore, 1) := by decide +kernel
theorem dX6_readsDoor_45 : decode cX6_readsDoor 45 = .ok (.aload_n 0, 1) := by decide +kernel
theorem dX6_readsDoor_46 : decode cX6_readsDoor 46 = .ok (.iconst 0, 1) := by decide +kernel
theorem dX6_readsDoor_47 : decode cX6_readsDoor 47 = .ok (.aload_n 0, 1) := by decide +kernel
theorem dX6_readsDoor_48 : decode cX6_readsDoor 48 = .ok (.getfield 12, 3) := by decide +kernel
theorem dX6_readsDoor_51 : decode cX6_readsDoor 51 = .ok (.getfield 66, 3) := by decide +kernel
theorem dX6_readsDoor_54 : decode cX6_readsDoor 54 = .ok (.iconst 1, 1) := by decide +kernel
theorem dX6_readsDoor_55 : decode cX6_readsDoor 55 = .ok (.isub, 1) := by decide +kernel
theorem dX6_readsDoor_56 : decode cX6_readsDoor 56 = .ok (.invokevirtual 75, 3) := by decide +kernel
theorem dX6_readsDoor_59 : decode cX6_readsDoor 59 = .ok (.ifCond .ne 5, 3) := by decide +kernel
theorem dX6_readsDoor_62 : decode cX6_readsDoor 62 = .ok (.iconst 0, 1) := by decide +kernel
theorem dX6_readsDoor_63 : decode cX6_readsDoor 63 = .ok (.ireturn, 1) := by decide +kernel
theorem dX6_readsDoor_64 : decode cX6_readsDoor 64 = .ok (.aload_n 0, 1) := by decide +kernel
theorem dX6_readsDoor_65 : decode cX6_readsDoor 65 = .ok (.getfield 12, 3) := by decide +kernel
theorem dX6_readsDoor_68 : decode cX6_readsDoor 68 = .ok (.getfield 83, 3) := by decide +kernel
theorem dX6_readsDoor_71 : decode cX6_readsDoor 71 = .ok (.iload_n 1, 1) := by decide +kernel
theorem dX6_readsDoor_72 : decode cX6_readsDoor 72 = .ok (.aload_n 0, 1) := by decide +kernel
theorem dX6_readsDoor_73 : decode cX6_readsDoor 73 = .ok (.getfield 48, 3) := by decide +kernel
theorem dX6_readsDoor_76 : decode cX6_readsDoor 76 = .ok (.iastore, 1) := by decide +kernel
theorem dX6_readsDoor_77 : decode cX6_readsDoor 77 = .ok (.aload_n 0, 1) := by decide +kernel
theorem dX6_readsDoor_78 : decode cX6_readsDoor 78 = .ok (.getfield 12, 3) := by decide +kernel
theorem dX6_readsDoor_81 : decode cX6_readsDoor 81 = .ok (.dup, 1) := by decide +kernel
theorem dX6_readsDoor_82 : decode cX6_readsDoor 82 = .ok (.getfield 72, 3) := by decide +kernel
theorem dX6_readsDoor_85 : decode cX6_readsDoor 85 = .ok (.iconst 1, 1) := by decide +kernel
theorem dX6_readsDoor_86 : decode cX6_readsDoor 86 = .ok (.iadd, 1) := by decide +kernel
theorem dX6_readsDoor_87 : decode cX6_readsDoor 87 = .ok (.putfield 72, 3) := by decide +kernel
theorem dX6_readsDoor_90 : decode cX6_readsDoor 90 = .ok (.aload_n 0, 1) := by decide +kernel
theorem dX6_readsDoor_91 : decode cX6_readsDoor 91 = .ok (.invokevirtual 69, 3) := by decide +kernel
theorem dX6_readsDoor_94 : decode cX6_readsDoor 94 = .ok (.ireturn, 1) := by decide +kernel
set_option maxRecDepth 20000 in
theorem ggX6_readsCandle_X6_readsNumber : GoodIn wsX6_readsCandle wsX6_readsNumber := goodIn_r _ [11, 12, 4, 13, 14, 15, 10, 16, 17, 18, 19, 20, 21, 22, 23, 24, 25, 26, 27, 28, 29, 30, 31, 36, 37, 38, 39, 40, 41, 42] (by decide +kernel) (by decide +kernel)
set_option maxRecDepth 20000 in
theorem gX6_readsCandle_X6_readsNumber : GoodIn wsX6_readsCandle (wsV RX6 75 RX6 yX6_readsNumber wsX6_readsNumber) := goodIn_app (goodIn_of _ (by decide +kernel)) ggX6_readsCandle_X6_readsNumber
set_option maxRecDepth 20000 in
theorem ggX6_readsCandle_X6_readsEnd : GoodIn wsX6_readsCandle wsX6_readsEnd := goodIn_r _ [35, 12, 13, 14, 15, 10, 16, 17, 18, 4, 19, 20, 21, 22, 23, 24, 25, 26, 27, 28, 36, 37, 38, 39, 40, 41, 42] (by decide +kernel) (by decide +kernel)
set_option maxRecDepth 20000 in
theorem gX6_readsCandle_X6_readsEnd : GoodIn wsX6_readsCandle (wsV RX6 69 RX6 yX6_readsEnd wsX6_readsEnd) := goodIn_app (goodIn_of _ (by decide +kernel)) ggX6_readsCandle_X6_readsEnd
theorem dX6_readsCandle_0 : decode cX6_readsCandle 0 = .ok (.aload_n 0, 1) := by decide +kernel
theorem dX6_readsCandle_1 : decode cX6_readsCandle 1 = .ok (.getfield 12, 3) := by decide +kernel
theorem dX6_readsCandle_4 : decode cX6_readsCandle 4 = .ok (.getfield 86, 3) := by decide +kernel
theorem dX6_readsCandle_7 : decode cX6_readsCandle 7 = .ok (.istore_n 1, 1) := by decide +kernel
theorem dX6_readsCandle_8 : decode cX6_readsCandle 8 = .ok (.iload_n 1, 1) := by decide +kernel
theorem dX6_readsCandle_9 : decode cX6_readsCandle 9 = .ok (.bipush 6, 2) := by decide +kernel
theorem dX6_readsCandle_11 : decode cX6_readsCandle 11 = .ok (.if_icmp .ge 13, 3) := by decide +kernel
theorem dX6_readsCandle_14 : decode cX6_readsCandle 14 = .ok (.aload_n 0, 1) := by decide +kernel
theorem dX6_readsCandle_15 : decode cX6_readsCandle 15 = .ok (.iconst 1, 1) := by decide +kernel
theorem dX6_readsCandle_16 : decode cX6_readsCandle 16 = .ok (.bipush 60, 2) := by decide +kernel
theorem dX6_readsCandle_18 : decode cX6_readsCandle 18 = .ok (.invokevirtual 75, 3) := by decide +kernel
theorem dX6_readsCandle_21 : decode cX6_readsCandle 21 = .ok (.ifCond .ne 5, 3) := by decide +kernel
theorem dX6_readsCandle_24 : decode cX6_readsCandle 24 = .ok (.iconst 0, 1) := by decide +kernel
theorem dX6_readsCandle_25 : decode cX6_readsCandle 25 = .ok (.ireturn, 1) := by decide +kernel
theorem dX6_readsCandle_26 : decode cX6_readsCandle 26 = .ok (.aload_n 0, 1) := by decide +kernel
theorem dX6_readsCandle_27 : decode cX6_readsCandle 27 = .ok (.getfield 12, 3) := by decide +kernel
theorem dX6_readsCandle_30 : decode cX6_readsCandle 30 = .ok (.getfield 89, 3) := by decide +kernel
theorem dX6_readsCandle_33 : decode cX6_readsCandle 33 = .ok (.iload_n 1, 1) := by decide +kernel
theorem dX6_readsCandle_34 : decode cX6_readsCandle 34 = .ok (.aload_n 0, 1) := by decide +kernel
theorem dX6_readsCandle_35 : decode cX6_readsCandle 35 = .ok (.getfield 48, 3) := by decide +kernel
theorem dX6_readsCandle_38 : decode cX6_readsCandle 38 = .ok (.iastore, 1) := by decide +kernel
theorem dX6_readsCandle_39 : decode cX6_readsCandle 39 = .ok (.aload_n 0, 1) := by decide +kernel
theorem dX6_readsCandle_40 : decode cX6_readsCandle 40 = .ok (.iconst 0, 1) := by decide +kernel
theorem dX6_readsCandle_41 : decode cX6_readsCandle 41 = .ok (.aload_n 0, 1) := by decide +kernel
theorem dX6_readsCandle_42 : decode cX6_readsCandle 42 = .ok (.getfield 12, 3) := by decide +kernel
theorem dX6_readsCandle_45 : decode cX6_readsCandle 45 = .ok (.getfield 66, 3) := by decide +kernel
theorem dX6_readsCandle_48 : decode cX6_readsCandle 48 = .ok (.iconst 1, 1) := by decide +kernel
theorem dX6_readsCandle_49 : decode cX6_readsCandle 49 = .ok (.isub, 1) := by decide +kernel
theorem dX6_readsCandle_50 : decode cX6_readsCandle 50 = .ok (.invokevirtual 75, 3) := by decide +kernel
theorem dX6_readsCandle_53 : decode cX6_readsCandle 53 = .ok (.ifCond .ne 5, 3) := by decide +kernel
theorem dX6_readsCandle_56 : decode cX6_readsCandle 56 = .ok (.iconst 0, 1) := by decide +kernel
theorem dX6_readsCandle_57 : decode cX6_readsCandle 57 = .ok (.ireturn, 1) := by decide +kernel
theorem dX6_readsCandle_58 : decode cX6_readsCandle 58 = .ok (.aload_n 0, 1) := by decide +kernel
theorem dX6_readsCandle_59 : decode cX6_readsCandle 59 = .ok (.getfield 12, 3) := by decide +kernel
theorem dX6_readsCandle_62 : decode cX6_readsCandle 62 = .ok (.getfield 92, 3) := by decide +kernel
theorem dX6_readsCandle_65 : decode cX6_readsCandle 65 = .ok (.iload_n 1, 1) := by decide +kernel
theorem dX6_readsCandle_66 : decode cX6_readsCandle 66 = .ok (.aload_n 0, 1) := by decide +kernel
theorem dX6_readsCandle_67 : decode cX6_readsCandle 67 = .ok (.getfield 48, 3) := by decide +kernel
theorem dX6_readsCandle_70 : decode cX6_readsCandle 70 = .ok (.iastore, 1) := by decide +kernel
theorem dX6_readsCandle_71 : decode cX6_readsCandle 71 = .ok (.aload_n 0, 1) := by decide +kernel
theorem dX6_readsCandle_72 : decode cX6_readsCandle 72 = .ok (.getfield 12, 3) := by decide +kernel
theorem dX6_readsCandle_75 : decode cX6_readsCandle 75 = .ok (.dup, 1) := by decide +kernel
theorem dX6_readsCandle_76 : decode cX6_readsCandle 76 = .ok (.getfield 86, 3) := by decide +kernel
theorem dX6_readsCandle_79 : decode cX6_readsCandle 79 = .ok (.iconst 1, 1) := by decide +kernel
theorem dX6_readsCandle_80 : decode cX6_readsCandle 80 = .ok (.iadd, 1) := by decide +kernel
theorem dX6_readsCandle_81 : decode cX6_readsCandle 81 = .ok (.putfield 86, 3) := by decide +kernel
theorem dX6_readsCandle_84 : decode cX6_readsCandle 84 = .ok (.aload_n 0, 1) := by decide +kernel
theorem dX6_readsCandle_85 : decode cX6_readsCandle 85 = .ok (.invokevirtual 69, 3) := by decide +kernel
theorem dX6_readsCandle_88 : decode cX6_readsCandle 88 = .ok (.ireturn, 1) := by decide +kernel
set_option maxRecDepth 20000 in
theorem ggX6_readsAct_X6_readsNumber : GoodIn wsX6_readsAct wsX6_readsNumber := goodIn_r _ [14, 8, 4, 15, 16, 17, 13, 18, 19, 20, 21, 22, 23, 24, 25, 26, 27, 28, 29, 30, 31, 32, 33, 38, 39, 40, 41, 42, 43, 44] (by decide +kernel) (by decide +kernel)
set_option maxRecDepth 20000 in
theorem gX6_readsAct_X6_readsNumber : GoodIn wsX6_readsAct (wsV RX6 75 RX6 yX6_readsNumber wsX6_readsNumber) := goodIn_app (goodIn_of _ (by decide +kernel)) ggX6_readsAct_X6_readsNumber
set_option maxRecDepth 20000 in
theorem ggX6_readsAct_X6_step : GoodIn wsX6_readsAct wsX6_step := goodIn_r _ [18, 19, 20, 4, 21, 8, 22, 23, 24, 25, 13, 26, 27, 28, 29, 30, 38, 39, 40, 41, 42, 43, 44] (by decide +kernel) (by decide +kernel)
set_option maxRecDepth 20000 in
theorem gX6_readsAct_X6_step : GoodIn wsX6_readsAct (wsV RX6 38 RX6 yX6_step wsX6_step) := goodIn_app (goodIn_of _ (by decide +kernel)) ggX6_readsAct_X6_step
set_option maxRecDepth 20000 in
theorem ggX6_readsAct_X6_readsEnd : GoodIn wsX6_readsAct wsX6_readsEnd := goodIn_r _ [37, 8, 15, 16, 17, 13, 18, 19, 20, 4, 21, 22, 23, 24, 25, 26, 27, 28, 29, 30, 38, 39, 40, 41, 42, 43, 44] (by decide +kernel) (by decide +kernel)
set_option maxRecDepth 20000 in
theorem gX6_readsAct_X6_readsEnd : GoodIn wsX6_readsAct (wsV RX6 69 RX6 yX6_readsEnd wsX6_readsEnd) := goodIn_app (goodIn_of _ (by decide +kernel)) ggX6_readsAct_X6_readsEnd
theorem dX6_readsAct_0 : decode cX6_readsAct 0 = .ok (.aload_n 0, 1) := by decide +kernel
theorem dX6_readsAct_1 : decode cX6_readsAct 1 = .ok (.getfield 12, 3) := by decide +kernel
theorem dX6_readsAct_4 : decode cX6_readsAct 4 = .ok (.getfield 95, 3) := by decide +kernel
theorem dX6_readsAct_7 : decode cX6_readsAct 7 = .ok (.istore_n 1, 1) := by decide +kernel
theorem dX6_readsAct_8 : decode cX6_readsAct 8 = .ok (.iload_n 1, 1) := by decide +kernel
theorem dX6_readsAct_9 : decode cX6_readsAct 9 = .ok (.bipush 6, 2) := by decide +kernel
theorem dX6_readsAct_11 : decode cX6_readsAct 11 = .ok (.if_icmp .ge 13, 3) := by decide +kernel
theorem dX6_readsAct_14 : decode cX6_readsAct 14 = .ok (.aload_n 0, 1) := by decide +kernel
theorem dX6_readsAct_15 : decode cX6_readsAct 15 = .ok (.iconst 1, 1) := by decide +kernel
theorem dX6_readsAct_16 : decode cX6_readsAct 16 = .ok (.bipush 20, 2) := by decide +kernel
theorem dX6_readsAct_18 : decode cX6_readsAct 18 = .ok (.invokevirtual 75, 3) := by decide +kernel
theorem dX6_readsAct_21 : decode cX6_readsAct 21 = .ok (.ifCond .ne 5, 3) := by decide +kernel
theorem dX6_readsAct_24 : decode cX6_readsAct 24 = .ok (.iconst 0, 1) := by decide +kernel
theorem dX6_readsAct_25 : decode cX6_readsAct 25 = .ok (.ireturn, 1) := by decide +kernel
theorem dX6_readsAct_26 : decode cX6_readsAct 26 = .ok (.aload_n 0, 1) := by decide +kernel
theorem dX6_readsAct_27 : decode cX6_readsAct 27 = .ok (.getfield 12, 3) := by decide +kernel
theorem dX6_readsAct_30 : decode cX6_readsAct 30 = .ok (.getfield 98, 3) := by decide +kernel
theorem dX6_readsAct_33 : decode cX6_readsAct 33 = .ok (.iload_n 1, 1) := by decide +kernel
theorem dX6_readsAct_34 : decode cX6_readsAct 34 = .ok (.aload_n 0, 1) := by decide +kernel
theorem dX6_readsAct_35 : decode cX6_readsAct 35 = .ok (.getfield 48, 3) := by decide +kernel
theorem dX6_readsAct_38 : decode cX6_readsAct 38 = .ok (.iastore, 1) := by decide +kernel
theorem dX6_readsAct_39 : decode cX6_readsAct 39 = .ok (.aload_n 0, 1) := by decide +kernel
theorem dX6_readsAct_40 : decode cX6_readsAct 40 = .ok (.iconst 0, 1) := by decide +kernel
theorem dX6_readsAct_41 : decode cX6_readsAct 41 = .ok (.bipush 9, 2) := by decide +kernel
theorem dX6_readsAct_43 : decode cX6_readsAct 43 = .ok (.invokevirtual 75, 3) := by decide +kernel
theorem dX6_readsAct_46 : decode cX6_readsAct 46 = .ok (.ifCond .ne 5, 3) := by decide +kernel
theorem dX6_readsAct_49 : decode cX6_readsAct 49 = .ok (.iconst 0, 1) := by decide +kernel
theorem dX6_readsAct_50 : decode cX6_readsAct 50 = .ok (.ireturn, 1) := by decide +kernel
theorem dX6_readsAct_51 : decode cX6_readsAct 51 = .ok (.aload_n 0, 1) := by decide +kernel
theorem dX6_readsAct_52 : decode cX6_readsAct 52 = .ok (.getfield 12, 3) := by decide +kernel
theorem dX6_readsAct_55 : decode cX6_readsAct 55 = .ok (.getfield 101, 3) := by decide +kernel
theorem dX6_readsAct_58 : decode cX6_readsAct 58 = .ok (.iload_n 1, 1) := by decide +kernel
theorem dX6_readsAct_59 : decode cX6_readsAct 59 = .ok (.aload_n 0, 1) := by decide +kernel
theorem dX6_readsAct_60 : decode cX6_readsAct 60 = .ok (.getfield 48, 3) := by decide +kernel
theorem dX6_readsAct_63 : decode cX6_readsAct 63 = .ok (.iastore, 1) := by decide +kernel
theorem dX6_readsAct_64 : decode cX6_readsAct 64 = .ok (.aload_n 0, 1) := by decide +kernel
theorem dX6_readsAct_65 : decode cX6_readsAct 65 = .ok (.iconst 0, 1) := by decide +kernel
theorem dX6_readsAct_66 : decode cX6_readsAct 66 = .ok (.aload_n 0, 1) := by decide +kernel
theorem dX6_readsAct_67 : decode cX6_readsAct 67 = .ok (.getfield 12, 3) := by decide +kernel
theorem dX6_readsAct_70 : decode cX6_readsAct 70 = .ok (.getfield 66, 3) := by decide +kernel
theorem dX6_readsAct_73 : decode cX6_readsAct 73 = .ok (.iconst 1, 1) := by decide +kernel
theorem dX6_readsAct_74 : decode cX6_readsAct 74 = .ok (.isub, 1) := by decide +kernel
theorem dX6_readsAct_75 : decode cX6_readsAct 75 = .ok (.invokevirtual 75, 3) := by decide +kernel
theorem dX6_readsAct_78 : decode cX6_readsAct 78 = .ok (.ifCond .ne 5, 3) := by decide +kernel
theorem dX6_readsAct_81 : decode cX6_readsAct 81 = .ok (.iconst 0, 1) := by decide +kernel
theorem dX6_readsAct_82 : decode cX6_readsAct 82 = .ok (.ireturn, 1) := by decide +kernel
theorem dX6_readsAct_83 : decode cX6_readsAct 83 = .ok (.aload_n 0, 1) := by decide +kernel
theorem dX6_readsAct_84 : decode cX6_readsAct 84 = .ok (.getfield 12, 3) := by decide +kernel
theorem dX6_readsAct_87 : decode cX6_readsAct 87 = .ok (.getfield 104, 3) := by decide +kernel
theorem dX6_readsAct_90 : decode cX6_readsAct 90 = .ok (.iload_n 1, 1) := by decide +kernel
theorem dX6_readsAct_91 : decode cX6_readsAct 91 = .ok (.aload_n 0, 1) := by decide +kernel
theorem dX6_readsAct_92 : decode cX6_readsAct 92 = .ok (.getfield 48, 3) := by decide +kernel
theorem dX6_readsAct_95 : decode cX6_readsAct 95 = .ok (.iastore, 1) := by decide +kernel
theorem dX6_readsAct_96 : decode cX6_readsAct 96 = .ok (.aload_n 0, 1) := by decide +kernel
theorem dX6_readsAct_97 : decode cX6_readsAct 97 = .ok (.invokevirtual 38, 3) := by decide +kernel
theorem dX6_readsAct_100 : decode cX6_readsAct 100 = .ok (.aload_n 0, 1) := by decide +kernel
theorem dX6_readsAct_101 : decode cX6_readsAct 101 = .ok (.getfield 41, 3) := by decide +kernel
theorem dX6_readsAct_104 : decode cX6_readsAct 104 = .ok (.iconst 2, 1) := by decide +kernel
theorem dX6_readsAct_105 : decode cX6_readsAct 105 = .ok (.if_icmp .ne 20, 3) := by decide +kernel
theorem dX6_readsAct_108 : decode cX6_readsAct 108 = .ok (.aload_n 0, 1) := by decide +kernel
theorem dX6_readsAct_109 : decode cX6_readsAct 109 = .ok (.getfield 48, 3) := by decide +kernel
theorem dX6_readsAct_112 : decode cX6_readsAct 112 = .ok (.iload_n 1, 1) := by decide +kernel
theorem dX6_readsAct_113 : decode cX6_readsAct 113 = .ok (.if_icmp .lt 14, 3) := by decide +kernel
theorem dX6_readsAct_116 : decode cX6_readsAct 116 = .ok (.aload_n 0, 1) := by decide +kernel
theorem dX6_readsAct_117 : decode cX6_readsAct 117 = .ok (.getfield 48, 3) := by decide +kernel
theorem dX6_readsAct_120 : decode cX6_readsAct 120 = .ok (.bipush 9, 2) := by decide +kernel
theorem dX6_readsAct_122 : decode cX6_readsAct 122 = .ok (.if_icmp .eq 5, 3) := by decide +kernel
theorem dX6_readsAct_125 : decode cX6_readsAct 125 = .ok (.iconst 0, 1) := by decide +kernel
theorem dX6_readsAct_126 : decode cX6_readsAct 126 = .ok (.ireturn, 1) := by decide +kernel
theorem dX6_readsAct_127 : decode cX6_readsAct 127 = .ok (.aload_n 0, 1) := by decide +kernel
theorem dX6_readsAct_128 : decode cX6_readsAct 128 = .ok (.getfield 12, 3) := by decide +kernel
theorem dX6_readsAct_131 : decode cX6_readsAct 131 = .ok (.getfield 107, 3) := by decide +kernel
theorem dX6_readsAct_134 : decode cX6_readsAct 134 = .ok (.iload_n 1, 1) := by decide +kernel
theorem dX6_readsAct_135 : decode cX6_readsAct 135 = .ok (.aload_n 0, 1) := by decide +kernel
theorem dX6_readsAct_136 : decode cX6_readsAct 136 = .ok (.getfield 48, 3) := by decide +kernel
theorem dX6_readsAct_139 : decode cX6_readsAct 139 = .ok (.iastore, 1) := by decide +kernel
theorem dX6_readsAct_140 : decode cX6_readsAct 140 = .ok (.aload_n 0, 1) := by decide +kernel
theorem dX6_readsAct_141 : decode cX6_readsAct 141 = .ok (.getfield 12, 3) := by decide +kernel
theorem dX6_readsAct_144 : decode cX6_readsAct 144 = .ok (.dup, 1) := by decide +kernel
theorem dX6_readsAct_145 : decode cX6_readsAct 145 = .ok (.getfield 95, 3) := by decide +kernel
theorem dX6_readsAct_148 : decode cX6_readsAct 148 = .ok (.iconst 1, 1) := by decide +kernel
theorem dX6_readsAct_149 : decode cX6_readsAct 149 = .ok (.iadd, 1) := by decide +kernel
theorem dX6_readsAct_150 : decode cX6_readsAct 150 = .ok (.putfield 95, 3) := by decide +kernel
theorem dX6_readsAct_153 : decode cX6_readsAct 153 = .ok (.aload_n 0, 1) := by decide +kernel
theorem dX6_readsAct_154 : decode cX6_readsAct 154 = .ok (.invokevirtual 69, 3) := by decide +kernel
theorem dX6_readsAct_157 : decode cX6_readsAct 157 = .ok (.ireturn, 1) := by decide +kernel
set_option maxRecDepth 20000 in
theorem ggX6_readsWind_X6_readsNumber : GoodIn wsX6_readsWind wsX6_readsNumber := goodIn_r _ [10, 5, 4, 11, 12, 13, 9, 14, 15, 16, 17, 18, 19, 20, 21, 22, 23, 24, 25, 26, 27, 28, 29, 34, 35, 36, 37, 38, 39, 40] (by decide +kernel) (by decide +kernel)
set_option maxRecDepth 20000 in
theorem gX6_readsWind_X6_readsNumber : GoodIn wsX6_readsWind (wsV RX6 75 RX6 yX6_readsNumber wsX6_readsNumber) := goodIn_app (goodIn_of _ (by decide +kernel)) ggX6_readsWind_X6_readsNumber
set_option maxRecDepth 20000 in
theorem ggX6_readsWind_X6_step : GoodIn wsX6_readsWind wsX6_step := goodIn_r _ [14, 15, 16, 4, 17, 5, 18, 19, 20, 21, 9, 22, 23, 24, 25, 26, 34, 35, 36, 37, 38, 39, 40] (by decide +kernel) (by decide +kernel)
set_option maxRecDepth 20000 in
theorem gX6_readsWind_X6_step : GoodIn wsX6_readsWind (wsV RX6 38 RX6 yX6_step wsX6_step) := goodIn_app (goodIn_of _ (by decide +kernel)) ggX6_readsWind_X6_step
set_option maxRecDepth 20000 in
theorem ggX6_readsWind_X6_readsEnd : GoodIn wsX6_readsWind wsX6_readsEnd := goodIn_r _ [33, 5, 11, 12, 13, 9, 14, 15, 16, 4, 17, 18, 19, 20, 21, 22, 23, 24, 25, 26, 34, 35, 36, 37, 38, 39, 40] (by decide +kernel) (by decide +kernel)
set_option maxRecDepth 20000 in
theorem gX6_readsWind_X6_readsEnd : GoodIn wsX6_readsWind (wsV RX6 69 RX6 yX6_readsEnd wsX6_readsEnd) := goodIn_app (goodIn_of _ (by decide +kernel)) ggX6_readsWind_X6_readsEnd
theorem dX6_readsWind_0 : decode cX6_readsWind 0 = .ok (.aload_n 0, 1) := by decide +kernel
theorem dX6_readsWind_1 : decode cX6_readsWind 1 = .ok (.getfield 12, 3) := by decide +kernel
theorem dX6_readsWind_4 : decode cX6_readsWind 4 = .ok (.getfield 110, 3) := by decide +kernel
theorem dX6_readsWind_7 : decode cX6_readsWind 7 = .ok (.ifCond .gt 12, 3) := by decide +kernel
theorem dX6_readsWind_10 : decode cX6_readsWind 10 = .ok (.aload_n 0, 1) := by decide +kernel
theorem dX6_readsWind_11 : decode cX6_readsWind 11 = .ok (.iconst 0, 1) := by decide +kernel
theorem dX6_readsWind_12 : decode cX6_readsWind 12 = .ok (.iconst 1, 1) := by decide +kernel
theorem dX6_readsWind_13 : decode cX6_readsWind 13 = .ok (.invokevirtual 75, 3) := by decide +kernel
theorem dX6_readsWind_16 : decode cX6_readsWind 16 = .ok (.ifCond .ne 5, 3) := by decide +kernel
theorem dX6_readsWind_19 : decode cX6_readsWind 19 = .ok (.iconst 0, 1) := by decide +kernel
theorem dX6_readsWind_20 : decode cX6_readsWind 20 = .ok (.ireturn, 1) := by decide +kernel
theorem dX6_readsWind_21 : decode cX6_readsWind 21 = .ok (.aload_n 0, 1) := by decide +kernel
theorem dX6_readsWind_22 : decode cX6_readsWind 22 = .ok (.getfield 12, 3) := by decide +kernel
theorem dX6_readsWind_25 : decode cX6_readsWind 25 = .ok (.getfield 113, 3) := by decide +kernel
theorem dX6_readsWind_28 : decode cX6_readsWind 28 = .ok (.iconst 0, 1) := by decide +kernel
theorem dX6_readsWind_29 : decode cX6_readsWind 29 = .ok (.aload_n 0, 1) := by decide +kernel
theorem dX6_readsWind_30 : decode cX6_readsWind 30 = .ok (.getfield 48, 3) := by decide +kernel
theorem dX6_readsWind_33 : decode cX6_readsWind 33 = .ok (.iastore, 1) := by decide +kernel
theorem dX6_readsWind_34 : decode cX6_readsWind 34 = .ok (.aload_n 0, 1) := by decide +kernel
theorem dX6_readsWind_35 : decode cX6_readsWind 35 = .ok (.getfield 12, 3) := by decide +kernel
theorem dX6_readsWind_38 : decode cX6_readsWind 38 = .ok (.iconst 1, 1) := by decide +kernel
theorem dX6_readsWind_39 : decode cX6_readsWind 39 = .ok (.putfield 110, 3) := by decide +kernel
theorem dX6_readsWind_42 : decode cX6_readsWind 42 = .ok (.iconst 1, 1) := by decide +kernel
theorem dX6_readsWind_43 : decode cX6_readsWind 43 = .ok (.istore_n 1, 1) := by decide +kernel
theorem dX6_readsWind_44 : decode cX6_readsWind 44 = .ok (.iload_n 1, 1) := by decide +kernel
theorem dX6_readsWind_45 : decode cX6_readsWind 45 = .ok (.bipush 8, 2) := by decide +kernel
theorem dX6_readsWind_47 : decode cX6_readsWind 47 = .ok (.if_icmp .ge 67, 3) := by decide +kernel
theorem dX6_readsWind_50 : decode cX6_readsWind 50 = .ok (.aload_n 0, 1) := by decide +kernel
theorem dX6_readsWind_51 : decode cX6_readsWind 51 = .ok (.invokevirtual 38, 3) := by decide +kernel
theorem dX6_readsWind_54 : decode cX6_readsWind 54 = .ok (.aload_n 0, 1) := by decide +kernel
theorem dX6_readsWind_55 : decode cX6_readsWind 55 = .ok (.getfield 41, 3) := by decide +kernel
theorem dX6_readsWind_58 : decode cX6_readsWind 58 = .ok (.iconst 3, 1) := by decide +kernel
theorem dX6_readsWind_59 : decode cX6_readsWind 59 = .ok (.if_icmp .ne 5, 3) := by decide +kernel
theorem dX6_readsWind_62 : decode cX6_readsWind 62 = .ok (.iconst 1, 1) := by decide +kernel
theorem dX6_readsWind_63 : decode cX6_readsWind 63 = .ok (.ireturn, 1) := by decide +kernel
theorem dX6_readsWind_64 : decode cX6_readsWind 64 = .ok (.aload_n 0, 1) := by decide +kernel
theorem dX6_readsWind_65 : decode cX6_readsWind 65 = .ok (.getfield 41, 3) := by decide +kernel
theorem dX6_readsWind_68 : decode cX6_readsWind 68 = .ok (.iconst 2, 1) := by decide +kernel
theorem dX6_readsWind_69 : decode cX6_readsWind 69 = .ok (.if_icmp .ne 11, 3) := by decide +kernel
theorem dX6_readsWind_72 : decode cX6_readsWind 72 = .ok (.aload_n 0, 1) := by decide +kernel
theorem dX6_readsWind_73 : decode cX6_readsWind 73 = .ok (.getfield 48, 3) := by decide +kernel
theorem dX6_readsWind_76 : decode cX6_readsWind 76 = .ok (.iconst 1, 1) := by decide +kernel
theorem dX6_readsWind_77 : decode cX6_readsWind 77 = .ok (.if_icmp .le 5, 3) := by decide +kernel
theorem dX6_readsWind_80 : decode cX6_readsWind 80 = .ok (.iconst 0, 1) := by decide +kernel
theorem dX6_readsWind_81 : decode cX6_readsWind 81 = .ok (.ireturn, 1) := by decide +kernel
theorem dX6_readsWind_82 : decode cX6_readsWind 82 = .ok (.aload_n 0, 1) := by decide +kernel
theorem dX6_readsWind_83 : decode cX6_readsWind 83 = .ok (.getfield 12, 3) := by decide +kernel
theorem dX6_readsWind_86 : decode cX6_readsWind 86 = .ok (.getfield 113, 3) := by decide +kernel
theorem dX6_readsWind_89 : decode cX6_readsWind 89 = .ok (.iload_n 1, 1) := by decide +kernel
theorem dX6_readsWind_90 : decode cX6_readsWind 90 = .ok (.aload_n 0, 1) := by decide +kernel
theorem dX6_readsWind_91 : decode cX6_readsWind 91 = .ok (.getfield 48, 3) := by decide +kernel
theorem dX6_readsWind_94 : decode cX6_readsWind 94 = .ok (.iastore, 1) := by decide +kernel
theorem dX6_readsWind_95 : decode cX6_readsWind 95 = .ok (.aload_n 0, 1) := by decide +kernel
theorem dX6_readsWind_96 : decode cX6_readsWind 96 = .ok (.getfield 12, 3) := by decide +kernel
theorem dX6_readsWind_99 : decode cX6_readsWind 99 = .ok (.dup, 1) := by decide +kernel
theorem dX6_readsWind_100 : decode cX6_readsWind 100 = .ok (.getfield 110, 3) := by decide +kernel
theorem dX6_readsWind_103 : decode cX6_readsWind 103 = .ok (.iconst 1, 1) := by decide +kernel
theorem dX6_readsWind_104 : decode cX6_readsWind 104 = .ok (.iadd, 1) := by decide +kernel
theorem dX6_readsWind_105 : decode cX6_readsWind 105 = .ok (.putfield 110, 3) := by decide +kernel
theorem dX6_readsWind_108 : decode cX6_readsWind 108 = .ok (.iinc 1 1, 3) := by decide +kernel
theorem dX6_readsWind_111 : decode cX6_readsWind 111 = .ok (.goto (-67), 3) := by decide +kernel
theorem dX6_readsWind_114 : decode cX6_readsWind 114 = .ok (.aload_n 0, 1) := by decide +kernel
theorem dX6_readsWind_115 : decode cX6_readsWind 115 = .ok (.invokevirtual 69, 3) := by decide +kernel
theorem dX6_readsWind_118 : decode cX6_readsWind 118 = .ok (.ireturn, 1) := by decide +kernel
set_option maxRecDepth 20000 in
theorem ggX6_readsNumber_X6_step : GoodIn wsX6_readsNumber wsX6_step := goodIn_r _ [7, 8, 9, 2, 10, 1, 11, 12, 13, 14, 6, 15, 16, 17, 18, 19, 23, 24, 25, 26, 27, 28, 29] (by decide +kernel) (by decide +kernel)
