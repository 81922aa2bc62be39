theorem dX5_init_0 : decode cX5_init 0 = .ok (.aload_n 0, 1) := by decide +kernel
theorem dX5_init_1 : decode cX5_init 1 = .ok (.invokespecial 1, 3) := by decide +kernel
theorem dX5_init_4 : decode cX5_init 4 = .ok (.aload_n 0, 1) := by decide +kernel
theorem dX5_init_5 : decode cX5_init 5 = .ok (.bipush 67, 2) := by decide +kernel
theorem dX5_init_7 : decode cX5_init 7 = .ok (.newarray .int, 2) := by decide +kernel
theorem dX5_init_9 : decode cX5_init 9 = .ok (.putfield 7, 3) := by decide +kernel
theorem dX5_init_12 : decode cX5_init 12 = .ok (.aload_n 0, 1) := by decide +kernel
theorem dX5_init_13 : decode cX5_init 13 = .ok (.sipush 402, 3) := by decide +kernel
theorem dX5_init_16 : decode cX5_init 16 = .ok (.newarray .int, 2) := by decide +kernel
theorem dX5_init_18 : decode cX5_init 18 = .ok (.putfield 13, 3) := by decide +kernel
theorem dX5_init_21 : decode cX5_init 21 = .ok (.aload_n 0, 1) := by decide +kernel
theorem dX5_init_22 : decode cX5_init 22 = .ok (.sipush 134, 3) := by decide +kernel
theorem dX5_init_25 : decode cX5_init 25 = .ok (.newarray .int, 2) := by decide +kernel
theorem dX5_init_27 : decode cX5_init 27 = .ok (.putfield 16, 3) := by decide +kernel
theorem dX5_init_30 : decode cX5_init 30 = .ok (.aload_n 0, 1) := by decide +kernel
theorem dX5_init_31 : decode cX5_init 31 = .ok (.iconst 2, 1) := by decide +kernel
theorem dX5_init_32 : decode cX5_init 32 = .ok (.newarray .int, 2) := by decide +kernel
theorem dX5_init_34 : decode cX5_init 34 = .ok (.putfield 19, 3) := by decide +kernel
theorem dX5_init_37 : decode cX5_init 37 = .ok (.aload_n 0, 1) := by decide +kernel
theorem dX5_init_38 : decode cX5_init 38 = .ok (.bipush 80, 2) := by decide +kernel
theorem dX5_init_40 : decode cX5_init 40 = .ok (.newarray .int, 2) := by decide +kernel
theorem dX5_init_42 : decode cX5_init 42 = .ok (.putfield 22, 3) := by decide +kernel
theorem dX5_init_45 : decode cX5_init 45 = .ok (.aload_n 0, 1) := by decide +kernel
theorem dX5_init_46 : decode cX5_init 46 = .ok (.bipush 123, 2) := by decide +kernel
theorem dX5_init_48 : decode cX5_init 48 = .ok (.newarray .int, 2) := by decide +kernel
theorem dX5_init_50 : decode cX5_init 50 = .ok (.putfield 25, 3) := by decide +kernel
theorem dX5_init_53 : decode cX5_init 53 = .ok (.aload_n 0, 1) := by decide +kernel
theorem dX5_init_54 : decode cX5_init 54 = .ok (.bipush 64, 2) := by decide +kernel
theorem dX5_init_56 : decode cX5_init 56 = .ok (.newarray .int, 2) := by decide +kernel
theorem dX5_init_58 : decode cX5_init 58 = .ok (.putfield 28, 3) := by decide +kernel
theorem dX5_init_61 : decode cX5_init 61 = .ok (.aload_n 0, 1) := by decide +kernel
theorem dX5_init_62 : decode cX5_init 62 = .ok (.bipush 64, 2) := by decide +kernel
theorem dX5_init_64 : decode cX5_init 64 = .ok (.newarray .int, 2) := by decide +kernel
theorem dX5_init_66 : decode cX5_init 66 = .ok (.putfield 31, 3) := by decide +kernel
theorem dX5_init_69 : decode cX5_init 69 = .ok (.aload_n 0, 1) := by decide +kernel
theorem dX5_init_70 : decode cX5_init 70 = .ok (.getfield 7, 3) := by decide +kernel
theorem dX5_init_73 : decode cX5_init 73 = .ok (.bipush 64, 2) := by decide +kernel
theorem dX5_init_75 : decode cX5_init 75 = .ok (.iconst 2, 1) := by decide +kernel
theorem dX5_init_76 : decode cX5_init 76 = .ok (.iastore, 1) := by decide +kernel
theorem dX5_init_77 : decode cX5_init 77 = .ok (.aload_n 0, 1) := by decide +kernel
theorem dX5_init_78 : decode cX5_init 78 = .ok (.getfield 7, 3) := by decide +kernel
theorem dX5_init_81 : decode cX5_init 81 = .ok (.bipush 65, 2) := by decide +kernel
theorem dX5_init_83 : decode cX5_init 83 = .ok (.sipush 128, 3) := by decide +kernel
theorem dX5_init_86 : decode cX5_init 86 = .ok (.iastore, 1) := by decide +kernel
theorem dX5_init_87 : decode cX5_init 87 = .ok (.return_, 1) := by decide +kernel
theorem dX5_thrown_0 : decode cX5_thrown 0 = .ok (.aload_n 0, 1) := by decide +kernel
theorem dX5_thrown_1 : decode cX5_thrown 1 = .ok (.getfield 34, 3) := by decide +kernel
theorem dX5_thrown_4 : decode cX5_thrown 4 = .ok (.ireturn, 1) := by decide +kernel
theorem dX5_fails_0 : decode cX5_fails 0 = .ok (.aload_n 0, 1) := by decide +kernel
theorem dX5_fails_1 : decode cX5_fails 1 = .ok (.iload_n 1, 1) := by decide +kernel
theorem dX5_fails_2 : decode cX5_fails 2 = .ok (.putfield 34, 3) := by decide +kernel
theorem dX5_fails_5 : decode cX5_fails 5 = .ok (.iconst 0, 1) := by decide +kernel
theorem dX5_fails_6 : decode cX5_fails 6 = .ok (.ireturn, 1) := by decide +kernel
theorem dX5_in_0 : decode cX5_in 0 = .ok (.iload_n 0, 1) := by decide +kernel
theorem dX5_in_1 : decode cX5_in 1 = .ok (.iload_n 1, 1) := by decide +kernel
theorem dX5_in_2 : decode cX5_in 2 = .ok (.if_icmp .lt 12, 3) := by decide +kernel
theorem dX5_in_5 : decode cX5_in 5 = .ok (.iload_n 0, 1) := by decide +kernel
theorem dX5_in_6 : decode cX5_in 6 = .ok (.iload_n 2, 1) := by decide +kernel
theorem dX5_in_7 : decode cX5_in 7 = .ok (.if_icmp .gt 7, 3) := by decide +kernel
theorem dX5_in_10 : decode cX5_in 10 = .ok (.iconst 1, 1) := by decide +kernel
theorem dX5_in_11 : decode cX5_in 11 = .ok (.goto 4, 3) := by decide +kernel
theorem dX5_in_14 : decode cX5_in 14 = .ok (.iconst 0, 1) := by decide +kernel
theorem dX5_in_15 : decode cX5_in 15 = .ok (.ireturn, 1) := by decide +kernel
set_option maxRecDepth 20000 in
theorem ggX5_isGrey_X5_in : GoodIn wsX5_isGrey wsX5_in := goodIn_r _ [4] (by decide +kernel) (by decide +kernel)
set_option maxRecDepth 20000 in
theorem gX5_isGrey_X5_in : GoodIn wsX5_isGrey (va_wsS RX5 38 yX5_in wsX5_in) := goodIn_app (goodIn_of _ (by decide +kernel)) ggX5_isGrey_X5_in
theorem dX5_isGrey_0 : decode cX5_isGrey 0 = .ok (.iload_n 0, 1) := by decide +kernel
theorem dX5_isGrey_1 : decode cX5_isGrey 1 = .ok (.iconst 0, 1) := by decide +kernel
theorem dX5_isGrey_2 : decode cX5_isGrey 2 = .ok (.sipush 255, 3) := by decide +kernel
theorem dX5_isGrey_5 : decode cX5_isGrey 5 = .ok (.invokestatic 38, 3) := by decide +kernel
theorem dX5_isGrey_8 : decode cX5_isGrey 8 = .ok (.ireturn, 1) := by decide +kernel
set_option maxRecDepth 20000 in
theorem ggX5_isCell_X5_in : GoodIn wsX5_isCell wsX5_in := goodIn_r _ [5] (by decide +kernel) (by decide +kernel)
set_option maxRecDepth 20000 in
theorem gX5_isCell_X5_in : GoodIn wsX5_isCell (va_wsS RX5 38 yX5_in wsX5_in) := goodIn_app (goodIn_of _ (by decide +kernel)) ggX5_isCell_X5_in
theorem dX5_isCell_0 : decode cX5_isCell 0 = .ok (.aload_n 0, 1) := by decide +kernel
theorem dX5_isCell_1 : decode cX5_isCell 1 = .ok (.iload_n 1, 1) := by decide +kernel
theorem dX5_isCell_2 : decode cX5_isCell 2 = .ok (.iconst 0, 1) := by decide +kernel
theorem dX5_isCell_3 : decode cX5_isCell 3 = .ok (.bipush 63, 2) := by decide +kernel
theorem dX5_isCell_5 : decode cX5_isCell 5 = .ok (.invokestatic 38, 3) := by decide +kernel
theorem dX5_isCell_8 : decode cX5_isCell 8 = .ok (.ifCond .eq 7, 3) := by decide +kernel
theorem dX5_isCell_11 : decode cX5_isCell 11 = .ok (.iconst 0, 1) := by decide +kernel
theorem dX5_isCell_12 : decode cX5_isCell 12 = .ok (.goto 4, 3) := by decide +kernel
theorem dX5_isCell_15 : decode cX5_isCell 15 = .ok (.iconst 1, 1) := by decide +kernel
theorem dX5_isCell_16 : decode cX5_isCell 16 = .ok (.putfield 34, 3) := by decide +kernel
theorem dX5_isCell_19 : decode cX5_isCell 19 = .ok (.aload_n 0, 1) := by decide +kernel
theorem dX5_isCell_20 : decode cX5_isCell 20 = .ok (.getfield 34, 3) := by decide +kernel
theorem dX5_isCell_23 : decode cX5_isCell 23 = .ok (.ifCond .ne 7, 3) := by decide +kernel
theorem dX5_isCell_26 : decode cX5_isCell 26 = .ok (.iconst 1, 1) := by decide +kernel
theorem dX5_isCell_27 : decode cX5_isCell 27 = .ok (.goto 4, 3) := by decide +kernel
theorem dX5_isCell_30 : decode cX5_isCell 30 = .ok (.iconst 0, 1) := by decide +kernel
theorem dX5_isCell_31 : decode cX5_isCell 31 = .ok (.ireturn, 1) := by decide +kernel
theorem dX5_copies_0 : decode cX5_copies 0 = .ok (.iconst 0, 1) := by decide +kernel
theorem dX5_copies_1 : decode cX5_copies 1 = .ok (.istore 4, 2) := by decide +kernel
theorem dX5_copies_3 : decode cX5_copies 3 = .ok (.iload 4, 2) := by decide +kernel
theorem dX5_copies_5 : decode cX5_copies 5 = .ok (.bipush 67, 2) := by decide +kernel
theorem dX5_copies_7 : decode cX5_copies 7 = .ok (.if_icmp .ge 21, 3) := by decide +kernel
theorem dX5_copies_10 : decode cX5_copies 10 = .ok (.aload_n 2, 1) := by decide +kernel
theorem dX5_copies_11 : decode cX5_copies 11 = .ok (.iload_n 3, 1) := by decide +kernel
theorem dX5_copies_12 : decode cX5_copies 12 = .ok (.iload 4, 2) := by decide +kernel
theorem dX5_copies_14 : decode cX5_copies 14 = .ok (.iadd, 1) := by decide +kernel
theorem dX5_copies_15 : decode cX5_copies 15 = .ok (.aload_n 0, 1) := by decide +kernel
theorem dX5_copies_16 : decode cX5_copies 16 = .ok (.iload_n 1, 1) := by decide +kernel
theorem dX5_copies_17 : decode cX5_copies 17 = .ok (.iload 4, 2) := by decide +kernel
theorem dX5_copies_19 : decode cX5_copies 19 = .ok (.iadd, 1) := by decide +kernel
theorem dX5_copies_20 : decode cX5_copies 20 = .ok (.iaload, 1) := by decide +kernel
theorem dX5_copies_21 : decode cX5_copies 21 = .ok (.iastore, 1) := by decide +kernel
theorem dX5_copies_22 : decode cX5_copies 22 = .ok (.iinc 4 1, 3) := by decide +kernel
theorem dX5_copies_25 : decode cX5_copies 25 = .ok (.goto (-22), 3) := by decide +kernel
theorem dX5_copies_28 : decode cX5_copies 28 = .ok (.return_, 1) := by decide +kernel
set_option maxRecDepth 20000 in
theorem ggX5_keepsState_X5_copies : GoodIn wsX5_keepsState wsX5_copies := goodIn_r _ [7] (by decide +kernel) (by decide +kernel)
set_option maxRecDepth 20000 in
theorem gX5_keepsState_X5_copies : GoodIn wsX5_keepsState (va_wsS RX5 45 yX5_copies wsX5_copies) := goodIn_app (goodIn_of _ (by decide +kernel)) ggX5_keepsState_X5_copies
theorem dX5_keepsState_0 : decode cX5_keepsState 0 = .ok (.aload_n 0, 1) := by decide +kernel
theorem dX5_keepsState_1 : decode cX5_keepsState 1 = .ok (.getfield 42, 3) := by decide +kernel
theorem dX5_keepsState_4 : decode cX5_keepsState 4 = .ok (.bipush 6, 2) := by decide +kernel
theorem dX5_keepsState_6 : decode cX5_keepsState 6 = .ok (.if_icmp .ne 43, 3) := by decide +kernel
theorem dX5_keepsState_9 : decode cX5_keepsState 9 = .ok (.iconst 0, 1) := by decide +kernel
theorem dX5_keepsState_10 : decode cX5_keepsState 10 = .ok (.istore_n 1, 1) := by decide +kernel
theorem dX5_keepsState_11 : decode cX5_keepsState 11 = .ok (.iload_n 1, 1) := by decide +kernel
theorem dX5_keepsState_12 : decode cX5_keepsState 12 = .ok (.sipush 335, 3) := by decide +kernel
theorem dX5_keepsState_15 : decode cX5_keepsState 15 = .ok (.if_icmp .ge 24, 3) := by decide +kernel
theorem dX5_keepsState_18 : decode cX5_keepsState 18 = .ok (.aload_n 0, 1) := by decide +kernel
theorem dX5_keepsState_19 : decode cX5_keepsState 19 = .ok (.getfield 13, 3) := by decide +kernel
theorem dX5_keepsState_22 : decode cX5_keepsState 22 = .ok (.iload_n 1, 1) := by decide +kernel
theorem dX5_keepsState_23 : decode cX5_keepsState 23 = .ok (.aload_n 0, 1) := by decide +kernel
theorem dX5_keepsState_24 : decode cX5_keepsState 24 = .ok (.getfield 13, 3) := by decide +kernel
theorem dX5_keepsState_27 : decode cX5_keepsState 27 = .ok (.iload_n 1, 1) := by decide +kernel
theorem dX5_keepsState_28 : decode cX5_keepsState 28 = .ok (.bipush 67, 2) := by decide +kernel
theorem dX5_keepsState_30 : decode cX5_keepsState 30 = .ok (.iadd, 1) := by decide +kernel
theorem dX5_keepsState_31 : decode cX5_keepsState 31 = .ok (.iaload, 1) := by decide +kernel
theorem dX5_keepsState_32 : decode cX5_keepsState 32 = .ok (.iastore, 1) := by decide +kernel
theorem dX5_keepsState_33 : decode cX5_keepsState 33 = .ok (.iinc 1 1, 3) := by decide +kernel
theorem dX5_keepsState_36 : decode cX5_keepsState 36 = .ok (.goto (-25), 3) := by decide +kernel
theorem dX5_keepsState_39 : decode cX5_keepsState 39 = .ok (.aload_n 0, 1) := by decide +kernel
theorem dX5_keepsState_40 : decode cX5_keepsState 40 = .ok (.dup, 1) := by decide +kernel
theorem dX5_keepsState_41 : decode cX5_keepsState 41 = .ok (.getfield 42, 3) := by decide +kernel
theorem dX5_keepsState_44 : decode cX5_keepsState 44 = .ok (.iconst 1, 1) := by decide +kernel
theorem dX5_keepsState_45 : decode cX5_keepsState 45 = .ok (.isub, 1) := by decide +kernel
theorem dX5_keepsState_46 : decode cX5_keepsState 46 = .ok (.putfield 42, 3) := by decide +kernel
theorem dX5_keepsState_49 : decode cX5_keepsState 49 = .ok (.aload_n 0, 1) := by decide +kernel
theorem dX5_keepsState_50 : decode cX5_keepsState 50 = .ok (.getfield 7, 3) := by decide +kernel
theorem dX5_keepsState_53 : decode cX5_keepsState 53 = .ok (.iconst 0, 1) := by decide +kernel
theorem dX5_keepsState_54 : decode cX5_keepsState 54 = .ok (.aload_n 0, 1) := by decide +kernel
theorem dX5_keepsState_55 : decode cX5_keepsState 55 = .ok (.getfield 13, 3) := by decide +kernel
theorem dX5_keepsState_58 : decode cX5_keepsState 58 = .ok (.bipush 67, 2) := by decide +kernel
theorem dX5_keepsState_60 : decode cX5_keepsState 60 = .ok (.aload_n 0, 1) := by decide +kernel
theorem dX5_keepsState_61 : decode cX5_keepsState 61 = .ok (.getfield 42, 3) := by decide +kernel
theorem dX5_keepsState_64 : decode cX5_keepsState 64 = .ok (.imul, 1) := by decide +kernel
theorem dX5_keepsState_65 : decode cX5_keepsState 65 = .ok (.invokestatic 45, 3) := by decide +kernel
theorem dX5_keepsState_68 : decode cX5_keepsState 68 = .ok (.aload_n 0, 1) := by decide +kernel
theorem dX5_keepsState_69 : decode cX5_keepsState 69 = .ok (.dup, 1) := by decide +kernel
theorem dX5_keepsState_70 : decode cX5_keepsState 70 = .ok (.getfield 42, 3) := by decide +kernel
theorem dX5_keepsState_73 : decode cX5_keepsState 73 = .ok (.iconst 1, 1) := by decide +kernel
theorem dX5_keepsState_74 : decode cX5_keepsState 74 = .ok (.iadd, 1) := by decide +kernel
theorem dX5_keepsState_75 : decode cX5_keepsState 75 = .ok (.putfield 42, 3) := by decide +kernel
theorem dX5_keepsState_78 : decode cX5_keepsState 78 = .ok (.return_, 1) := by decide +kernel
theorem dX5_neighbours_0 : decode cX5_neighbours 0 = .ok (.iload_n 0, 1) := by decide +kernel
theorem dX5_neighbours_1 : decode cX5_neighbours 1 = .ok (.ifCond .ne 7, 3) := by decide +kernel
theorem dX5_neighbours_4 : decode cX5_neighbours 4 = .ok (.iconst 1, 1) := by decide +kernel
theorem dX5_neighbours_5 : decode cX5_neighbours 5 = .ok (.goto 22, 3) := by decide +kernel
theorem dX5_neighbours_8 : decode cX5_neighbours 8 = .ok (.iload_n 0, 1) := by decide +kernel
theorem dX5_neighbours_9 : decode cX5_neighbours 9 = .ok (.iconst 1, 1) := by decide +kernel
theorem dX5_neighbours_10 : decode cX5_neighbours 10 = .ok (.if_icmp .ne 7, 3) := by decide +kernel
theorem dX5_neighbours_13 : decode cX5_neighbours 13 = .ok (.iconst 2, 1) := by decide +kernel
theorem dX5_neighbours_14 : decode cX5_neighbours 14 = .ok (.goto 13, 3) := by decide +kernel
theorem dX5_neighbours_17 : decode cX5_neighbours 17 = .ok (.iload_n 0, 1) := by decide +kernel
theorem dX5_neighbours_18 : decode cX5_neighbours 18 = .ok (.iconst 2, 1) := by decide +kernel
theorem dX5_neighbours_19 : decode cX5_neighbours 19 = .ok (.if_icmp .ne 7, 3) := by decide +kernel
theorem dX5_neighbours_22 : decode cX5_neighbours 22 = .ok (.iconst 4, 1) := by decide +kernel
theorem dX5_neighbours_23 : decode cX5_neighbours 23 = .ok (.goto 4, 3) := by decide +kernel
theorem dX5_neighbours_26 : decode cX5_neighbours 26 = .ok (.iconst 5, 1) := by decide +kernel
theorem dX5_neighbours_27 : decode cX5_neighbours 27 = .ok (.ireturn, 1) := by decide +kernel
set_option maxRecDepth 20000 in
theorem ggX5_down_X5_neighbours : GoodIn wsX5_down wsX5_neighbours := goodIn_r _ [4] (by decide +kernel) (by decide +kernel)
set_option maxRecDepth 20000 in
theorem gX5_down_X5_neighbours : GoodIn wsX5_down (va_wsS RX5 49 yX5_neighbours wsX5_neighbours) := goodIn_app (goodIn_of _ (by decide +kernel)) ggX5_down_X5_neighbours
theorem dX5_down_0 : decode cX5_down 0 = .ok (.iload_n 1, 1) := by decide +kernel
theorem dX5_down_1 : decode cX5_down 1 = .ok (.iload_n 0, 1) := by decide +kernel
theorem dX5_down_2 : decode cX5_down 2 = .ok (.invokestatic 49, 3) := by decide +kernel
theorem dX5_down_5 : decode cX5_down 5 = .ok (.iconst 1, 1) := by decide +kernel
theorem dX5_down_6 : decode cX5_down 6 = .ok (.isub, 1) := by decide +kernel
theorem dX5_down_7 : decode cX5_down 7 = .ok (.if_icmp .ne 7, 3) := by decide +kernel
theorem dX5_down_10 : decode cX5_down 10 = .ok (.iconst 0, 1) := by decide +kernel
theorem dX5_down_11 : decode cX5_down 11 = .ok (.goto 30, 3) := by decide +kernel
theorem dX5_down_14 : decode cX5_down 14 = .ok (.iload_n 0, 1) := by decide +kernel
theorem dX5_down_15 : decode cX5_down 15 = .ok (.iconst 3, 1) := by decide +kernel
theorem dX5_down_16 : decode cX5_down 16 = .ok (.if_icmp .eq 7, 3) := by decide +kernel
theorem dX5_down_19 : decode cX5_down 19 = .ok (.iconst 1, 1) := by decide +kernel
theorem dX5_down_20 : decode cX5_down 20 = .ok (.goto 21, 3) := by decide +kernel
theorem dX5_down_23 : decode cX5_down 23 = .ok (.iload_n 1, 1) := by decide +kernel
theorem dX5_down_24 : decode cX5_down 24 = .ok (.ifCond .ne 7, 3) := by decide +kernel
theorem dX5_down_27 : decode cX5_down 27 = .ok (.iconst 2, 1) := by decide +kernel
theorem dX5_down_28 : decode cX5_down 28 = .ok (.goto 13, 3) := by decide +kernel
theorem dX5_down_31 : decode cX5_down 31 = .ok (.iload_n 1, 1) := by decide +kernel
theorem dX5_down_32 : decode cX5_down 32 = .ok (.iconst 3, 1) := by decide +kernel
theorem dX5_down_33 : decode cX5_down 33 = .ok (.if_icmp .ne 7, 3) := by decide +kernel
theorem dX5_down_36 : decode cX5_down 36 = .ok (.iconst 0, 1) := by decide +kernel
theorem dX5_down_37 : decode cX5_down 37 = .ok (.goto 4, 3) := by decide +kernel
theorem dX5_down_40 : decode cX5_down 40 = .ok (.iconst 1, 1) := by decide +kernel
theorem dX5_down_41 : decode cX5_down 41 = .ok (.ireturn, 1) := by decide +kernel
set_option maxRecDepth 20000 in
theorem ggX5_ahead_X5_neighbours : GoodIn wsX5_ahead wsX5_neighbours := goodIn_r _ [4] (by decide +kernel) (by decide +kernel)
set_option maxRecDepth 20000 in
theorem gX5_ahead_X5_neighbours : GoodIn wsX5_ahead (va_wsS RX5 49 yX5_neighbours wsX5_neighbours) := goodIn_app (goodIn_of _ (by decide +kernel)) ggX5_ahead_X5_neighbours
theorem dX5_ahead_0 : decode cX5_ahead 0 = .ok (.iload_n 1, 1) := by decide +kernel
theorem dX5_ahead_1 : decode cX5_ahead 1 = .ok (.iload_n 0, 1) := by decide +kernel
theorem dX5_ahead_2 : decode cX5_ahead 2 = .ok (.invokestatic 49, 3) := by decide +kernel
theorem dX5_ahead_5 : decode cX5_ahead 5 = .ok (.iconst 1, 1) := by decide +kernel
theorem dX5_ahead_6 : decode cX5_ahead 6 = .ok (.isub, 1) := by decide +kernel
theorem dX5_ahead_7 : decode cX5_ahead 7 = .ok (.if_icmp .ne 5, 3) := by decide +kernel
theorem dX5_ahead_10 : decode cX5_ahead 10 = .ok (.iconst 1, 1) := by decide +kernel
theorem dX5_ahead_11 : decode cX5_ahead 11 = .ok (.ireturn, 1) := by decide +kernel
theorem dX5_ahead_12 : decode cX5_ahead 12 = .ok (.iload_n 0, 1) := by decide +kernel
theorem dX5_ahead_13 : decode cX5_ahead 13 = .ok (.iconst 1, 1) := by decide +kernel
theorem dX5_ahead_14 : decode cX5_ahead 14 = .ok (.if_icmp .ne 5, 3) := by decide +kernel
theorem dX5_ahead_17 : decode cX5_ahead 17 = .ok (.iconst 0, 1) := by decide +kernel
theorem dX5_ahead_18 : decode cX5_ahead 18 = .ok (.ireturn, 1) := by decide +kernel
theorem dX5_ahead_19 : decode cX5_ahead 19 = .ok (.iload_n 0, 1) := by decide +kernel
theorem dX5_ahead_20 : decode cX5_ahead 20 = .ok (.iconst 2, 1) := by decide +kernel
theorem dX5_ahead_21 : decode cX5_ahead 21 = .ok (.if_icmp .ne 22, 3) := by decide +kernel
theorem dX5_ahead_24 : decode cX5_ahead 24 = .ok (.iload_n 1, 1) := by decide +kernel
theorem dX5_ahead_25 : decode cX5_ahead 25 = .ok (.ifCond .ne 7, 3) := by decide +kernel
theorem dX5_ahead_28 : decode cX5_ahead 28 = .ok (.iconst 1, 1) := by decide +kernel
theorem dX5_ahead_29 : decode cX5_ahead 29 = .ok (.goto 13, 3) := by decide +kernel
theorem dX5_ahead_32 : decode cX5_ahead 32 = .ok (.iload_n 1, 1) := by decide +kernel
theorem dX5_ahead_33 : decode cX5_ahead 33 = .ok (.iconst 1, 1) := by decide +kernel
theorem dX5_ahead_34 : decode cX5_ahead 34 = .ok (.if_icmp .ne 7, 3) := by decide +kernel
theorem dX5_ahead_37 : decode cX5_ahead 37 = .ok (.iconst 0, 1) := by decide +kernel
theorem dX5_ahead_38 : decode cX5_ahead 38 = .ok (.goto 4, 3) := by decide +kernel
theorem dX5_ahead_41 : decode cX5_ahead 41 = .ok (.iconst (-1), 1) := by decide +kernel
theorem dX5_ahead_42 : decode cX5_ahead 42 = .ok (.ireturn, 1) := by decide +kernel
theorem dX5_ahead_43 : decode cX5_ahead 43 = .ok (.iload_n 1, 1) := by decide +kernel
theorem dX5_ahead_44 : decode cX5_ahead 44 = .ok (.iconst 1, 1) := by decide +kernel
theorem dX5_ahead_45 : decode cX5_ahead 45 = .ok (.if_icmp .ne 7, 3) := by decide +kernel
theorem dX5_ahead_48 : decode cX5_ahead 48 = .ok (.iconst 1, 1) := by decide +kernel
theorem dX5_ahead_49 : decode cX5_ahead 49 = .ok (.goto 13, 3) := by decide +kernel
theorem dX5_ahead_52 : decode cX5_ahead 52 = .ok (.iload_n 1, 1) := by decide +kernel
theorem dX5_ahead_53 : decode cX5_ahead 53 = .ok (.iconst 3, 1) := by decide +kernel
theorem dX5_ahead_54 : decode cX5_ahead 54 = .ok (.if_icmp .ne 7, 3) := by decide +kernel
theorem dX5_ahead_57 : decode cX5_ahead 57 = .ok (.iconst 2, 1) := by decide +kernel
theorem dX5_ahead_58 : decode cX5_ahead 58 = .ok (.goto 4, 3) := by decide +kernel
theorem dX5_ahead_61 : decode cX5_ahead 61 = .ok (.iconst 0, 1) := by decide +kernel
theorem dX5_ahead_62 : decode cX5_ahead 62 = .ok (.ireturn, 1) := by decide +kernel
theorem dX5_weight_0 : decode cX5_weight 0 = .ok (.iload_n 0, 1) := by decide +kernel
theorem dX5_weight_1 : decode cX5_weight 1 = .ok (.iconst 1, 1) := by decide +kernel
theorem dX5_weight_2 : decode cX5_weight 2 = .ok (.if_icmp .ne 6, 3) := by decide +kernel
theorem dX5_weight_5 : decode cX5_weight 5 = .ok (.bipush 8, 2) := by decide +kernel
theorem dX5_weight_7 : decode cX5_weight 7 = .ok (.ireturn, 1) := by decide +kernel
theorem dX5_weight_8 : decode cX5_weight 8 = .ok (.iload_n 0, 1) := by decide +kernel
theorem dX5_weight_9 : decode cX5_weight 9 = .ok (.iconst 2, 1) := by decide +kernel
theorem dX5_weight_10 : decode cX5_weight 10 = .ok (.if_icmp .ne 22, 3) := by decide +kernel
theorem dX5_weight_13 : decode cX5_weight 13 = .ok (.iload_n 1, 1) := by decide +kernel
theorem dX5_weight_14 : decode cX5_weight 14 = .ok (.ifCond .ne 7, 3) := by decide +kernel
theorem dX5_weight_17 : decode cX5_weight 17 = .ok (.iconst 1, 1) := by decide +kernel
theorem dX5_weight_18 : decode cX5_weight 18 = .ok (.goto 13, 3) := by decide +kernel
theorem dX5_weight_21 : decode cX5_weight 21 = .ok (.iload_n 1, 1) := by decide +kernel
theorem dX5_weight_22 : decode cX5_weight 22 = .ok (.iconst 1, 1) := by decide +kernel
theorem dX5_weight_23 : decode cX5_weight 23 = .ok (.if_icmp .ne 7, 3) := by decide +kernel
theorem dX5_weight_26 : decode cX5_weight 26 = .ok (.iconst 5, 1) := by decide +kernel
theorem dX5_weight_27 : decode cX5_weight 27 = .ok (.goto 4, 3) := by decide +kernel
theorem dX5_weight_30 : decode cX5_weight 30 = .ok (.iconst 3, 1) := by decide +kernel
theorem dX5_weight_31 : decode cX5_weight 31 = .ok (.ireturn, 1) := by decide +kernel
theorem dX5_weight_32 : decode cX5_weight 32 = .ok (.iload_n 1, 1) := by decide +kernel
theorem dX5_weight_33 : decode cX5_weight 33 = .ok (.iconst 2, 1) := by decide +kernel
theorem dX5_weight_34 : decode cX5_weight 34 = .ok (.if_icmp .ne 7, 3) := by decide +kernel
theorem dX5_weight_37 : decode cX5_weight 37 = .ok (.iconst 4, 1) := by decide +kernel
theorem dX5_weight_38 : decode cX5_weight 38 = .ok (.goto 4, 3) := by decide +kernel
theorem dX5_weight_41 : decode cX5_weight 41 = .ok (.iconst 2, 1) := by decide +kernel
theorem dX5_weight_42 : decode cX5_weight 42 = .ok (.ireturn, 1) := by decide +kernel
set_option maxRecDepth 20000 in
theorem ggX5_part_X5_neighbours : GoodIn wsX5_part wsX5_neighbours := goodIn_r _ [4] (by decide +kernel) (by decide +kernel)
set_option maxRecDepth 20000 in
theorem gX5_part_X5_neighbours : GoodIn wsX5_part (va_wsS RX5 49 yX5_neighbours wsX5_neighbours) := goodIn_app (goodIn_of _ (by decide +kernel)) ggX5_part_X5_neighbours
set_option maxRecDepth 20000 in
theorem ggX5_part_X5_weight : GoodIn wsX5_part wsX5_weight := goodIn_r _ [7] (by decide +kernel) (by decide +kernel)
set_option maxRecDepth 20000 in
theorem gX5_part_X5_weight : GoodIn wsX5_part (va_wsS RX5 53 yX5_weight wsX5_weight) := goodIn_app (goodIn_of _ (by decide +kernel)) ggX5_part_X5_weight
theorem dX5_part_0 : decode cX5_part 0 = .ok (.iload_n 0, 1) := by decide +kernel
theorem dX5_part_1 : decode cX5_part 1 = .ok (.invokestatic 49, 3) := by decide +kernel
theorem dX5_part_4 : decode cX5_part 4 = .ok (.iconst 1, 1) := by decide +kernel
theorem dX5_part_5 : decode cX5_part 5 = .ok (.isub, 1) := by decide +kernel
theorem dX5_part_6 : decode cX5_part 6 = .ok (.istore_n 3, 1) := by decide +kernel
theorem dX5_part_7 : decode cX5_part 7 = .ok (.iload_n 1, 1) := by decide +kernel
theorem dX5_part_8 : decode cX5_part 8 = .ok (.iload_n 3, 1) := by decide +kernel
theorem dX5_part_9 : decode cX5_part 9 = .ok (.if_icmp .ge 14, 3) := by decide +kernel
theorem dX5_part_12 : decode cX5_part 12 = .ok (.iload_n 2, 1) := by decide +kernel
theorem dX5_part_13 : decode cX5_part 13 = .ok (.iload_n 0, 1) := by decide +kernel
theorem dX5_part_14 : decode cX5_part 14 = .ok (.iload_n 1, 1) := by decide +kernel
theorem dX5_part_15 : decode cX5_part 15 = .ok (.invokestatic 53, 3) := by decide +kernel
theorem dX5_part_18 : decode cX5_part 18 = .ok (.imul, 1) := by decide +kernel
theorem dX5_part_19 : decode cX5_part 19 = .ok (.bipush 16, 2) := by decide +kernel
theorem dX5_part_21 : decode cX5_part 21 = .ok (.idiv, 1) := by decide +kernel
theorem dX5_part_22 : decode cX5_part 22 = .ok (.ireturn, 1) := by decide +kernel
theorem dX5_part_23 : decode cX5_part 23 = .ok (.iload_n 2, 1) := by decide +kernel
theorem dX5_part_24 : decode cX5_part 24 = .ok (.istore 4, 2) := by decide +kernel
theorem dX5_part_26 : decode cX5_part 26 = .ok (.iconst 0, 1) := by decide +kernel
theorem dX5_part_27 : decode cX5_part 27 = .ok (.istore 5, 2) := by decide +kernel
theorem dX5_part_29 : decode cX5_part 29 = .ok (.iload 5, 2) := by decide +kernel
theorem dX5_part_31 : decode cX5_part 31 = .ok (.iload_n 3, 1) := by decide +kernel
theorem dX5_part_32 : decode cX5_part 32 = .ok (.if_icmp .ge 25, 3) := by decide +kernel
theorem dX5_part_35 : decode cX5_part 35 = .ok (.iload 4, 2) := by decide +kernel
theorem dX5_part_37 : decode cX5_part 37 = .ok (.iload_n 2, 1) := by decide +kernel
theorem dX5_part_38 : decode cX5_part 38 = .ok (.iload_n 0, 1) := by decide +kernel
theorem dX5_part_39 : decode cX5_part 39 = .ok (.iload 5, 2) := by decide +kernel
theorem dX5_part_41 : decode cX5_part 41 = .ok (.invokestatic 53, 3) := by decide +kernel
theorem dX5_part_44 : decode cX5_part 44 = .ok (.imul, 1) := by decide +kernel
theorem dX5_part_45 : decode cX5_part 45 = .ok (.bipush 16, 2) := by decide +kernel
theorem dX5_part_47 : decode cX5_part 47 = .ok (.idiv, 1) := by decide +kernel
theorem dX5_part_48 : decode cX5_part 48 = .ok (.isub, 1) := by decide +kernel
theorem dX5_part_49 : decode cX5_part 49 = .ok (.istore 4, 2) := by decide +kernel
theorem dX5_part_51 : decode cX5_part 51 = .ok (.iinc 5 1, 3) := by decide +kernel
theorem dX5_part_54 : decode cX5_part 54 = .ok (.goto (-25), 3) := by decide +kernel
theorem dX5_part_57 : decode cX5_part 57 = .ok (.iload 4, 2) := by decide +kernel
theorem dX5_part_59 : decode cX5_part 59 = .ok (.ireturn, 1) := by decide +kernel
theorem dX5_ways_0 : decode cX5_ways 0 = .ok (.aload_n 0, 1) := by decide +kernel
theorem dX5_ways_1 : decode cX5_ways 1 = .ok (.getfield 7, 3) := by decide +kernel
theorem dX5_ways_4 : decode cX5_ways 4 = .ok (.bipush 66, 2) := by decide +kernel
theorem dX5_ways_6 : decode cX5_ways 6 = .ok (.iaload, 1) := by decide +kernel
theorem dX5_ways_7 : decode cX5_ways 7 = .ok (.iconst 1, 1) := by decide +kernel
theorem dX5_ways_8 : decode cX5_ways 8 = .ok (.if_icmp .ne 14, 3) := by decide +kernel
theorem dX5_ways_11 : decode cX5_ways 11 = .ok (.iload_n 1, 1) := by decide +kernel
theorem dX5_ways_12 : decode cX5_ways 12 = .ok (.iconst 2, 1) := by decide +kernel
theorem dX5_ways_13 : decode cX5_ways 13 = .ok (.irem, 1) := by decide +kernel
theorem dX5_ways_14 : decode cX5_ways 14 = .ok (.iconst 1, 1) := by decide +kernel
theorem dX5_ways_15 : decode cX5_ways 15 = .ok (.if_icmp .ne 7, 3) := by decide +kernel
theorem dX5_ways_18 : decode cX5_ways 18 = .ok (.iconst (-1), 1) := by decide +kernel
theorem dX5_ways_19 : decode cX5_ways 19 = .ok (.goto 4, 3) := by decide +kernel
theorem dX5_ways_22 : decode cX5_ways 22 = .ok (.iconst 1, 1) := by decide +kernel
theorem dX5_ways_23 : decode cX5_ways 23 = .ok (.ireturn, 1) := by decide +kernel
set_option maxRecDepth 20000 in
theorem ggX5_neighbour_X5_down : GoodIn wsX5_neighbour wsX5_down := goodIn_r _ [4, 5, 6, 3, 7] (by decide +kernel) (by decide +kernel)
set_option maxRecDepth 20000 in
theorem gX5_neighbour_X5_down : GoodIn wsX5_neighbour (va_wsS RX5 57 yX5_down wsX5_down) := goodIn_app (goodIn_of _ (by decide +kernel)) ggX5_neighbour_X5_down
set_option maxRecDepth 20000 in
theorem ggX5_neighbour_X5_ways : GoodIn wsX5_neighbour wsX5_ways := goodIn_r _ [11, 12, 19, 20, 21, 22, 23, 24, 25, 26, 27, 28, 29, 30, 31, 32] (by decide +kernel) (by decide +kernel)
set_option maxRecDepth 20000 in
theorem gX5_neighbour_X5_ways : GoodIn wsX5_neighbour (wsV RX5 60 RX5 yX5_ways wsX5_ways) := goodIn_app (goodIn_of _ (by decide +kernel)) ggX5_neighbour_X5_ways
set_option maxRecDepth 20000 in
theorem ggX5_neighbour_X5_ahead : GoodIn wsX5_neighbour wsX5_ahead := goodIn_r _ [15, 5, 6, 3, 7] (by decide +kernel) (by decide +kernel)
set_option maxRecDepth 20000 in
theorem gX5_neighbour_X5_ahead : GoodIn wsX5_neighbour (va_wsS RX5 63 yX5_ahead wsX5_ahead) := goodIn_app (goodIn_of _ (by decide +kernel)) ggX5_neighbour_X5_ahead
set_option maxRecDepth 20000 in
theorem ggX5_neighbour_X5_in : GoodIn wsX5_neighbour wsX5_in := goodIn_r _ [18] (by decide +kernel) (by decide +kernel)
set_option maxRecDepth 20000 in
theorem gX5_neighbour_X5_in : GoodIn wsX5_neighbour (va_wsS RX5 38 yX5_in wsX5_in) := goodIn_app (goodIn_of _ (by decide +kernel)) ggX5_neighbour_X5_in
theorem dX5_neighbour_0 : decode cX5_neighbour 0 = .ok (.iload_n 3, 1) := by decide +kernel
theorem dX5_neighbour_1 : decode cX5_neighbour 1 = .ok (.bipush 8, 2) := by decide +kernel
theorem dX5_neighbour_3 : decode cX5_neighbour 3 = .ok (.idiv, 1) := by decide +kernel
theorem dX5_neighbour_4 : decode cX5_neighbour 4 = .ok (.iload_n 1, 1) := by decide +kernel
theorem dX5_neighbour_5 : decode cX5_neighbour 5 = .ok (.iload_n 2, 1) := by decide +kernel
theorem dX5_neighbour_6 : decode cX5_neighbour 6 = .ok (.invokestatic 57, 3) := by decide +kernel
theorem dX5_neighbour_9 : decode cX5_neighbour 9 = .ok (.iadd, 1) := by decide +kernel
theorem dX5_neighbour_10 : decode cX5_neighbour 10 = .ok (.istore 4, 2) := by decide +kernel
theorem dX5_neighbour_12 : decode cX5_neighbour 12 = .ok (.iload_n 3, 1) := by decide +kernel
theorem dX5_neighbour_13 : decode cX5_neighbour 13 = .ok (.bipush 8, 2) := by decide +kernel
theorem dX5_neighbour_15 : decode cX5_neighbour 15 = .ok (.irem, 1) := by decide +kernel
theorem dX5_neighbour_16 : decode cX5_neighbour 16 = .ok (.aload_n 0, 1) := by decide +kernel
theorem dX5_neighbour_17 : decode cX5_neighbour 17 = .ok (.iload_n 3, 1) := by decide +kernel
theorem dX5_neighbour_18 : decode cX5_neighbour 18 = .ok (.bipush 8, 2) := by decide +kernel
theorem dX5_neighbour_20 : decode cX5_neighbour 20 = .ok (.idiv, 1) := by decide +kernel
theorem dX5_neighbour_21 : decode cX5_neighbour 21 = .ok (.invokevirtual 60, 3) := by decide +kernel
theorem dX5_neighbour_24 : decode cX5_neighbour 24 = .ok (.iload_n 1, 1) := by decide +kernel
theorem dX5_neighbour_25 : decode cX5_neighbour 25 = .ok (.iload_n 2, 1) := by decide +kernel
theorem dX5_neighbour_26 : decode cX5_neighbour 26 = .ok (.invokestatic 63, 3) := by decide +kernel
theorem dX5_neighbour_29 : decode cX5_neighbour 29 = .ok (.imul, 1) := by decide +kernel
theorem dX5_neighbour_30 : decode cX5_neighbour 30 = .ok (.iadd, 1) := by decide +kernel
theorem dX5_neighbour_31 : decode cX5_neighbour 31 = .ok (.istore 5, 2) := by decide +kernel
theorem dX5_neighbour_33 : decode cX5_neighbour 33 = .ok (.iload 4, 2) := by decide +kernel
theorem dX5_neighbour_35 : decode cX5_neighbour 35 = .ok (.iconst 0, 1) := by decide +kernel
theorem dX5_neighbour_36 : decode cX5_neighbour 36 = .ok (.bipush 7, 2) := by decide +kernel
theorem dX5_neighbour_38 : decode cX5_neighbour 38 = .ok (.invokestatic 38, 3) := by decide +kernel
theorem dX5_neighbour_41 : decode cX5_neighbour 41 = .ok (.ifCond .eq 25, 3) := by decide +kernel
theorem dX5_neighbour_44 : decode cX5_neighbour 44 = .ok (.iload 5, 2) := by decide +kernel
theorem dX5_neighbour_46 : decode cX5_neighbour 46 = .ok (.iconst 0, 1) := by decide +kernel
theorem dX5_neighbour_47 : decode cX5_neighbour 47 = .ok (.bipush 7, 2) := by decide +kernel
theorem dX5_neighbour_49 : decode cX5_neighbour 49 = .ok (.invokestatic 38, 3) := by decide +kernel
theorem dX5_neighbour_52 : decode cX5_neighbour 52 = .ok (.ifCond .eq 14, 3) := by decide +kernel
theorem dX5_neighbour_55 : decode cX5_neighbour 55 = .ok (.bipush 8, 2) := by decide +kernel
theorem dX5_neighbour_57 : decode cX5_neighbour 57 = .ok (.iload 4, 2) := by decide +kernel
theorem dX5_neighbour_59 : decode cX5_neighbour 59 = .ok (.imul, 1) := by decide +kernel
theorem dX5_neighbour_60 : decode cX5_neighbour 60 = .ok (.iload 5, 2) := by decide +kernel
theorem dX5_neighbour_62 : decode cX5_neighbour 62 = .ok (.iadd, 1) := by decide +kernel
theorem dX5_neighbour_63 : decode cX5_neighbour 63 = .ok (.goto 4, 3) := by decide +kernel
theorem dX5_neighbour_66 : decode cX5_neighbour 66 = .ok (.iconst (-1), 1) := by decide +kernel
theorem dX5_neighbour_67 : decode cX5_neighbour 67 = .ok (.ireturn, 1) := by decide +kernel
set_option maxRecDepth 20000 in
theorem ggX5_painted_X5_ways : GoodIn wsX5_painted wsX5_ways := goodIn_r _ [5, 6, 7, 8, 9, 10, 11, 12, 13, 14, 15, 16, 17, 18, 19, 20] (by decide +kernel) (by decide +kernel)
set_option maxRecDepth 20000 in
theorem gX5_painted_X5_ways : GoodIn wsX5_painted (wsV RX5 60 RX5 yX5_ways wsX5_ways) := goodIn_app (goodIn_of _ (by decide +kernel)) ggX5_painted_X5_ways
theorem dX5_painted_0 : decode cX5_painted 0 = .ok (.iload_n 1, 1) := by decide +kernel
theorem dX5_painted_1 : decode cX5_painted 1 = .ok (.bipush 8, 2) := by decide +kernel
theorem dX5_painted_3 : decode cX5_painted 3 = .ok (.idiv, 1) := by decide +kernel
theorem dX5_painted_4 : decode cX5_painted 4 = .ok (.istore_n 2, 1) := by decide +kernel
theorem dX5_painted_5 : decode cX5_painted 5 = .ok (.aload_n 0, 1) := by decide +kernel
theorem dX5_painted_6 : decode cX5_painted 6 = .ok (.iload_n 2, 1) := by decide +kernel
theorem dX5_painted_7 : decode cX5_painted 7 = .ok (.invokevirtual 60, 3) := by decide +kernel
theorem dX5_painted_10 : decode cX5_painted 10 = .ok (.iconst 1, 1) := by decide +kernel
theorem dX5_painted_11 : decode cX5_painted 11 = .ok (.if_icmp .ne 7, 3) := by decide +kernel
theorem dX5_painted_14 : decode cX5_painted 14 = .ok (.iload_n 1, 1) := by decide +kernel
theorem dX5_painted_15 : decode cX5_painted 15 = .ok (.goto 17, 3) := by decide +kernel
theorem dX5_painted_18 : decode cX5_painted 18 = .ok (.bipush 8, 2) := by decide +kernel
theorem dX5_painted_20 : decode cX5_painted 20 = .ok (.iload_n 2, 1) := by decide +kernel
theorem dX5_painted_21 : decode cX5_painted 21 = .ok (.imul, 1) := by decide +kernel
theorem dX5_painted_22 : decode cX5_painted 22 = .ok (.bipush 8, 2) := by decide +kernel
theorem dX5_painted_24 : decode cX5_painted 24 = .ok (.iadd, 1) := by decide +kernel
theorem dX5_painted_25 : decode cX5_painted 25 = .ok (.iconst 1, 1) := by decide +kernel
theorem dX5_painted_26 : decode cX5_painted 26 = .ok (.isub, 1) := by decide +kernel
theorem dX5_painted_27 : decode cX5_painted 27 = .ok (.iload_n 1, 1) := by decide +kernel
theorem dX5_painted_28 : decode cX5_painted 28 = .ok (.bipush 8, 2) := by decide +kernel
theorem dX5_painted_30 : decode cX5_painted 30 = .ok (.irem, 1) := by decide +kernel
theorem dX5_painted_31 : decode cX5_painted 31 = .ok (.isub, 1) := by decide +kernel
theorem dX5_painted_32 : decode cX5_painted 32 = .ok (.ireturn, 1) := by decide +kernel
set_option maxRecDepth 20000 in
theorem ggX5_paints_X5_painted : GoodIn wsX5_paints wsX5_painted := goodIn_r _ [9, 10, 11, 12, 8, 13, 3, 36, 37, 38, 39, 40, 41, 42, 43, 44, 45, 46, 47, 48, 49] (by decide +kernel) (by decide +kernel)
set_option maxRecDepth 20000 in
theorem gX5_paints_X5_painted : GoodIn wsX5_paints (wsV RX5 69 RX5 yX5_painted wsX5_painted) := goodIn_app (goodIn_of _ (by decide +kernel)) ggX5_paints_X5_painted
set_option maxRecDepth 20000 in
theorem ggX5_paints_X5_neighbours : GoodIn wsX5_paints wsX5_neighbours := goodIn_r _ [16] (by decide +kernel) (by decide +kernel)
set_option maxRecDepth 20000 in
theorem gX5_paints_X5_neighbours : GoodIn wsX5_paints (va_wsS RX5 49 yX5_neighbours wsX5_neighbours) := goodIn_app (goodIn_of _ (by decide +kernel)) ggX5_paints_X5_neighbours
set_option maxRecDepth 20000 in
theorem ggX5_paints_X5_neighbour : GoodIn wsX5_paints wsX5_neighbour := goodIn_r _ [20, 21, 22, 8, 23, 14, 15, 16, 10, 11, 12, 13, 3, 24, 25, 26, 27, 28, 29, 36, 37, 38, 39, 40, 41, 42, 43, 44, 45, 46, 47, 48, 49] (by decide +kernel) (by decide +kernel)
set_option maxRecDepth 20000 in
theorem gX5_paints_X5_neighbour : GoodIn wsX5_paints (wsV RX5 72 RX5 yX5_neighbour wsX5_neighbour) := goodIn_app (goodIn_of _ (by decide +kernel)) ggX5_paints_X5_neighbour
set_option maxRecDepth 20000 in
theorem ggX5_paints_X5_part : GoodIn wsX5_paints wsX5_part := goodIn_r _ [32, 14, 15, 8, 16, 33, 34, 35] (by decide +kernel) (by decide +kernel)
set_option maxRecDepth 20000 in
theorem gX5_paints_X5_part : GoodIn wsX5_paints (va_wsS RX5 76 yX5_part wsX5_part) := goodIn_app (goodIn_of _ (by decide +kernel)) ggX5_paints_X5_part
theorem dX5_paints_0 : decode cX5_paints 0 = .ok (.aload_n 0, 1) := by decide +kernel
theorem dX5_paints_1 : decode cX5_paints 1 = .ok (.iconst 0, 1) := by decide +kernel
theorem dX5_paints_2 : decode cX5_paints 2 = .ok (.putfield 66, 3) := by decide +kernel
theorem dX5_paints_5 : decode cX5_paints 5 = .ok (.iconst 0, 1) := by decide +kernel
theorem dX5_paints_6 : decode cX5_paints 6 = .ok (.istore_n 3, 1) := by decide +kernel
theorem dX5_paints_7 : decode cX5_paints 7 = .ok (.iload_n 3, 1) := by decide +kernel
theorem dX5_paints_8 : decode cX5_paints 8 = .ok (.bipush 64, 2) := by decide +kernel
theorem dX5_paints_10 : decode cX5_paints 10 = .ok (.if_icmp .ge 21, 3) := by decide +kernel
theorem dX5_paints_13 : decode cX5_paints 13 = .ok (.aload_n 0, 1) := by decide +kernel
theorem dX5_paints_14 : decode cX5_paints 14 = .ok (.getfield 28, 3) := by decide +kernel
theorem dX5_paints_17 : decode cX5_paints 17 = .ok (.iload_n 3, 1) := by decide +kernel
theorem dX5_paints_18 : decode cX5_paints 18 = .ok (.aload_n 0, 1) := by decide +kernel
theorem dX5_paints_19 : decode cX5_paints 19 = .ok (.getfield 7, 3) := by decide +kernel
theorem dX5_paints_22 : decode cX5_paints 22 = .ok (.iload_n 3, 1) := by decide +kernel
theorem dX5_paints_23 : decode cX5_paints 23 = .ok (.iaload, 1) := by decide +kernel
theorem dX5_paints_24 : decode cX5_paints 24 = .ok (.iastore, 1) := by decide +kernel
theorem dX5_paints_25 : decode cX5_paints 25 = .ok (.iinc 3 1, 3) := by decide +kernel
theorem dX5_paints_28 : decode cX5_paints 28 = .ok (.goto (-21), 3) := by decide +kernel
theorem dX5_paints_31 : decode cX5_paints 31 = .ok (.iconst 0, 1) := by decide +kernel
theorem dX5_paints_32 : decode cX5_paints 32 = .ok (.istore_n 3, 1) := by decide +kernel
theorem dX5_paints_33 : decode cX5_paints 33 = .ok (.iload_n 3, 1) := by decide +kernel
theorem dX5_paints_34 : decode cX5_paints 34 = .ok (.bipush 64, 2) := by decide +kernel
theorem dX5_paints_36 : decode cX5_paints 36 = .ok (.if_icmp .ge 131, 3) := by decide +kernel
theorem dX5_paints_39 : decode cX5_paints 39 = .ok (.aload_n 0, 1) := by decide +kernel
theorem dX5_paints_40 : decode cX5_paints 40 = .ok (.iload_n 3, 1) := by decide +kernel
theorem dX5_paints_41 : decode cX5_paints 41 = .ok (.invokevirtual 69, 3) := by decide +kernel
theorem dX5_paints_44 : decode cX5_paints 44 = .ok (.istore 4, 2) := by decide +kernel
theorem dX5_paints_46 : decode cX5_paints 46 = .ok (.aload_n 0, 1) := by decide +kernel
theorem dX5_paints_47 : decode cX5_paints 47 = .ok (.getfield 31, 3) := by decide +kernel
theorem dX5_paints_50 : decode cX5_paints 50 = .ok (.iload 4, 2) := by decide +kernel
theorem dX5_paints_52 : decode cX5_paints 52 = .ok (.aload_n 0, 1) := by decide +kernel
theorem dX5_paints_53 : decode cX5_paints 53 = .ok (.getfield 28, 3) := by decide +kernel
theorem dX5_paints_56 : decode cX5_paints 56 = .ok (.iload 4, 2) := by decide +kernel
theorem dX5_paints_58 : decode cX5_paints 58 = .ok (.iaload, 1) := by decide +kernel
theorem dX5_paints_59 : decode cX5_paints 59 = .ok (.iload_n 2, 1) := by decide +kernel
theorem dX5_paints_60 : decode cX5_paints 60 = .ok (.if_icmp .lt 17, 3) := by decide +kernel
theorem dX5_paints_63 : decode cX5_paints 63 = .ok (.aload_n 0, 1) := by decide +kernel
theorem dX5_paints_64 : decode cX5_paints 64 = .ok (.getfield 28, 3) := by decide +kernel
theorem dX5_paints_67 : decode cX5_paints 67 = .ok (.iload 4, 2) := by decide +kernel
theorem dX5_paints_69 : decode cX5_paints 69 = .ok (.iaload, 1) := by decide +kernel
theorem dX5_paints_70 : decode cX5_paints 70 = .ok (.sipush 255, 3) := by decide +kernel
theorem dX5_paints_73 : decode cX5_paints 73 = .ok (.isub, 1) := by decide +kernel
theorem dX5_paints_74 : decode cX5_paints 74 = .ok (.goto 10, 3) := by decide +kernel
theorem dX5_paints_77 : decode cX5_paints 77 = .ok (.aload_n 0, 1) := by decide +kernel
theorem dX5_paints_78 : decode cX5_paints 78 = .ok (.getfield 28, 3) := by decide +kernel
theorem dX5_paints_81 : decode cX5_paints 81 = .ok (.iload 4, 2) := by decide +kernel
theorem dX5_paints_83 : decode cX5_paints 83 = .ok (.iaload, 1) := by decide +kernel
theorem dX5_paints_84 : decode cX5_paints 84 = .ok (.iastore, 1) := by decide +kernel
theorem dX5_paints_85 : decode cX5_paints 85 = .ok (.iconst 0, 1) := by decide +kernel
theorem dX5_paints_86 : decode cX5_paints 86 = .ok (.istore 5, 2) := by decide +kernel
theorem dX5_paints_88 : decode cX5_paints 88 = .ok (.iload 5, 2) := by decide +kernel
theorem dX5_paints_90 : decode cX5_paints 90 = .ok (.iload_n 1, 1) := by decide +kernel
theorem dX5_paints_91 : decode cX5_paints 91 = .ok (.invokestatic 49, 3) := by decide +kernel
theorem dX5_paints_94 : decode cX5_paints 94 = .ok (.if_icmp .ge 67, 3) := by decide +kernel
theorem dX5_paints_97 : decode cX5_paints 97 = .ok (.aload_n 0, 1) := by decide +kernel
theorem dX5_paints_98 : decode cX5_paints 98 = .ok (.iload_n 1, 1) := by decide +kernel
theorem dX5_paints_99 : decode cX5_paints 99 = .ok (.iload 5, 2) := by decide +kernel
theorem dX5_paints_101 : decode cX5_paints 101 = .ok (.iload 4, 2) := by decide +kernel
theorem dX5_paints_103 : decode cX5_paints 103 = .ok (.invokevirtual 72, 3) := by decide +kernel
theorem dX5_paints_106 : decode cX5_paints 106 = .ok (.istore 6, 2) := by decide +kernel
theorem dX5_paints_108 : decode cX5_paints 108 = .ok (.iload_n 1, 1) := by decide +kernel
theorem dX5_paints_109 : decode cX5_paints 109 = .ok (.iload 5, 2) := by decide +kernel
theorem dX5_paints_111 : decode cX5_paints 111 = .ok (.aload_n 0, 1) := by decide +kernel
theorem dX5_paints_112 : decode cX5_paints 112 = .ok (.getfield 31, 3) := by decide +kernel
theorem dX5_paints_115 : decode cX5_paints 115 = .ok (.iload 4, 2) := by decide +kernel
theorem dX5_paints_117 : decode cX5_paints 117 = .ok (.iaload, 1) := by decide +kernel
theorem dX5_paints_118 : decode cX5_paints 118 = .ok (.invokestatic 76, 3) := by decide +kernel
theorem dX5_paints_121 : decode cX5_paints 121 = .ok (.istore 7, 2) := by decide +kernel
theorem dX5_paints_123 : decode cX5_paints 123 = .ok (.iload 6, 2) := by decide +kernel
theorem dX5_paints_125 : decode cX5_paints 125 = .ok (.iconst (-1), 1) := by decide +kernel
theorem dX5_paints_126 : decode cX5_paints 126 = .ok (.if_icmp .ne 17, 3) := by decide +kernel
theorem dX5_paints_129 : decode cX5_paints 129 = .ok (.aload_n 0, 1) := by decide +kernel
theorem dX5_paints_130 : decode cX5_paints 130 = .ok (.dup, 1) := by decide +kernel
theorem dX5_paints_131 : decode cX5_paints 131 = .ok (.getfield 66, 3) := by decide +kernel
theorem dX5_paints_134 : decode cX5_paints 134 = .ok (.iload 7, 2) := by decide +kernel
theorem dX5_paints_136 : decode cX5_paints 136 = .ok (.iadd, 1) := by decide +kernel
theorem dX5_paints_137 : decode cX5_paints 137 = .ok (.putfield 66, 3) := by decide +kernel
theorem dX5_paints_140 : decode cX5_paints 140 = .ok (.goto 15, 3) := by decide +kernel
theorem dX5_paints_143 : decode cX5_paints 143 = .ok (.aload_n 0, 1) := by decide +kernel
theorem dX5_paints_144 : decode cX5_paints 144 = .ok (.getfield 28, 3) := by decide +kernel
theorem dX5_paints_147 : decode cX5_paints 147 = .ok (.iload 6, 2) := by decide +kernel
theorem dX5_paints_149 : decode cX5_paints 149 = .ok (.dup2, 1) := by decide +kernel
theorem dX5_paints_150 : decode cX5_paints 150 = .ok (.iaload, 1) := by decide +kernel
theorem dX5_paints_151 : decode cX5_paints 151 = .ok (.iload 7, 2) := by decide +kernel
theorem dX5_paints_153 : decode cX5_paints 153 = .ok (.iadd, 1) := by decide +kernel
theorem dX5_paints_154 : decode cX5_paints 154 = .ok (.iastore, 1) := by decide +kernel
theorem dX5_paints_155 : decode cX5_paints 155 = .ok (.iinc 5 1, 3) := by decide +kernel
theorem dX5_paints_158 : decode cX5_paints 158 = .ok (.goto (-70), 3) := by decide +kernel
theorem dX5_paints_161 : decode cX5_paints 161 = .ok (.iinc 3 1, 3) := by decide +kernel
theorem dX5_paints_164 : decode cX5_paints 164 = .ok (.goto (-131), 3) := by decide +kernel
theorem dX5_paints_167 : decode cX5_paints 167 = .ok (.return_, 1) := by decide +kernel
set_option maxRecDepth 20000 in
theorem ggX5_paintsNow_X5_paints : GoodIn wsX5_paintsNow wsX5_paints := goodIn_r _ [6, 7, 8, 1, 9, 10, 11, 12, 5, 13, 14, 15, 16, 17, 18, 19, 20, 21, 22, 23, 24, 25, 26, 27, 28, 29, 30, 31, 32, 33, 34, 35, 36, 37, 38, 39, 40, 41, 42, 43, 44, 45, 46, 47, 48, 49, 50, 51, 52, 53] (by decide +kernel) (by decide +kernel)
set_option maxRecDepth 20000 in
theorem gX5_paintsNow_X5_paints : GoodIn wsX5_paintsNow (wsV RX5 79 RX5 yX5_paints wsX5_paints) := goodIn_app (goodIn_of _ (by decide +kernel)) ggX5_paintsNow_X5_paints
theorem dX5_paintsNow_0 : decode cX5_paintsNow 0 = .ok (.aload_n 0, 1) := by decide +kernel
theorem dX5_paintsNow_1 : decode cX5_paintsNow 1 = .ok (.aload_n 0, 1) := by decide +kernel
theorem dX5_paintsNow_2 : decode cX5_paintsNow 2 = .ok (.getfield 7, 3) := by decide +kernel
theorem dX5_paintsNow_5 : decode cX5_paintsNow 5 = .ok (.bipush 64, 2) := by decide +kernel
theorem dX5_paintsNow_7 : decode cX5_paintsNow 7 = .ok (.iaload, 1) := by decide +kernel
theorem dX5_paintsNow_8 : decode cX5_paintsNow 8 = .ok (.aload_n 0, 1) := by decide +kernel
theorem dX5_paintsNow_9 : decode cX5_paintsNow 9 = .ok (.getfield 7, 3) := by decide +kernel
theorem dX5_paintsNow_12 : decode cX5_paintsNow 12 = .ok (.bipush 65, 2) := by decide +kernel
theorem dX5_paintsNow_14 : decode cX5_paintsNow 14 = .ok (.iaload, 1) := by decide +kernel
theorem dX5_paintsNow_15 : decode cX5_paintsNow 15 = .ok (.invokevirtual 79, 3) := by decide +kernel
theorem dX5_paintsNow_18 : decode cX5_paintsNow 18 = .ok (.return_, 1) := by decide +kernel
theorem dX5_flake_0 : decode cX5_flake 0 = .ok (.aload_n 0, 1) := by decide +kernel
theorem dX5_flake_1 : decode cX5_flake 1 = .ok (.getfield 31, 3) := by decide +kernel
theorem dX5_flake_4 : decode cX5_flake 4 = .ok (.iload_n 1, 1) := by decide +kernel
theorem dX5_flake_5 : decode cX5_flake 5 = .ok (.iaload, 1) := by decide +kernel
theorem dX5_flake_6 : decode cX5_flake 6 = .ok (.aload_n 0, 1) := by decide +kernel
theorem dX5_flake_7 : decode cX5_flake 7 = .ok (.getfield 28, 3) := by decide +kernel
theorem dX5_flake_10 : decode cX5_flake 10 = .ok (.iload_n 1, 1) := by decide +kernel
theorem dX5_flake_11 : decode cX5_flake 11 = .ok (.iaload, 1) := by decide +kernel
theorem dX5_flake_12 : decode cX5_flake 12 = .ok (.if_icmp .eq 7, 3) := by decide +kernel
theorem dX5_flake_15 : decode cX5_flake 15 = .ok (.iconst 1, 1) := by decide +kernel
theorem dX5_flake_16 : decode cX5_flake 16 = .ok (.goto 4, 3) := by decide +kernel
theorem dX5_flake_19 : decode cX5_flake 19 = .ok (.iconst 0, 1) := by decide +kernel
theorem dX5_flake_20 : decode cX5_flake 20 = .ok (.ireturn, 1) := by decide +kernel
set_option maxRecDepth 20000 in
theorem ggX5_many_X5_flake : GoodIn wsX5_many wsX5_flake := goodIn_r _ [5, 6, 7, 8, 9, 10, 11, 12, 13, 14, 15, 16, 17, 18, 19, 20, 21] (by decide +kernel) (by decide +kernel)
set_option maxRecDepth 20000 in
theorem gX5_many_X5_flake : GoodIn wsX5_many (wsV RX5 83 RX5 yX5_flake wsX5_flake) := goodIn_app (goodIn_of _ (by decide +kernel)) ggX5_many_X5_flake
theorem dX5_many_0 : decode cX5_many 0 = .ok (.iconst 0, 1) := by decide +kernel
theorem dX5_many_1 : decode cX5_many 1 = .ok (.istore_n 1, 1) := by decide +kernel
theorem dX5_many_2 : decode cX5_many 2 = .ok (.iconst 0, 1) := by decide +kernel
theorem dX5_many_3 : decode cX5_many 3 = .ok (.istore_n 2, 1) := by decide +kernel
theorem dX5_many_4 : decode cX5_many 4 = .ok (.iload_n 2, 1) := by decide +kernel
theorem dX5_many_5 : decode cX5_many 5 = .ok (.bipush 64, 2) := by decide +kernel
theorem dX5_many_7 : decode cX5_many 7 = .ok (.if_icmp .ge 25, 3) := by decide +kernel
theorem dX5_many_10 : decode cX5_many 10 = .ok (.iload_n 1, 1) := by decide +kernel
theorem dX5_many_11 : decode cX5_many 11 = .ok (.aload_n 0, 1) := by decide +kernel
theorem dX5_many_12 : decode cX5_many 12 = .ok (.iload_n 2, 1) := by decide +kernel
theorem dX5_many_13 : decode cX5_many 13 = .ok (.invokevirtual 83, 3) := by decide +kernel
theorem dX5_many_16 : decode cX5_many 16 = .ok (.ifCond .eq 7, 3) := by decide +kernel
theorem dX5_many_19 : decode cX5_many 19 = .ok (.iconst 1, 1) := by decide +kernel
theorem dX5_many_20 : decode cX5_many 20 = .ok (.goto 4, 3) := by decide +kernel
theorem dX5_many_23 : decode cX5_many 23 = .ok (.iconst 0, 1) := by decide +kernel
theorem dX5_many_24 : decode cX5_many 24 = .ok (.iadd, 1) := by decide +kernel
theorem dX5_many_25 : decode cX5_many 25 = .ok (.istore_n 1, 1) := by decide +kernel
theorem dX5_many_26 : decode cX5_many 26 = .ok (.iinc 2 1, 3) := by decide +kernel
theorem dX5_many_29 : decode cX5_many 29 = .ok (.goto (-25), 3) := by decide +kernel
theorem dX5_many_32 : decode cX5_many 32 = .ok (.iload_n 1, 1) := by decide +kernel
theorem dX5_many_33 : decode cX5_many 33 = .ok (.ireturn, 1) := by decide +kernel
set_option maxRecDepth 20000 in
theorem ggX5_off_X5_flake : GoodIn wsX5_off wsX5_flake := goodIn_r _ [6, 7, 8, 9, 10, 11, 12, 13, 14, 15, 16, 17, 18, 19, 20, 21, 22] (by decide +kernel) (by decide +kernel)
set_option maxRecDepth 20000 in
theorem gX5_off_X5_flake : GoodIn wsX5_off (wsV RX5 83 RX5 yX5_flake wsX5_flake) := goodIn_app (goodIn_of _ (by decide +kernel)) ggX5_off_X5_flake
theorem dX5_off_0 : decode cX5_off 0 = .ok (.iconst 0, 1) := by decide +kernel
theorem dX5_off_1 : decode cX5_off 1 = .ok (.istore_n 2, 1) := by decide +kernel
theorem dX5_off_2 : decode cX5_off 2 = .ok (.iconst 0, 1) := by decide +kernel
theorem dX5_off_3 : decode cX5_off 3 = .ok (.istore_n 3, 1) := by decide +kernel
theorem dX5_off_4 : decode cX5_off 4 = .ok (.iload_n 3, 1) := by decide +kernel
theorem dX5_off_5 : decode cX5_off 5 = .ok (.iconst 4, 1) := by decide +kernel
theorem dX5_off_6 : decode cX5_off 6 = .ok (.if_icmp .ge 60, 3) := by decide +kernel
theorem dX5_off_9 : decode cX5_off 9 = .ok (.bipush 8, 2) := by decide +kernel
theorem dX5_off_11 : decode cX5_off 11 = .ok (.iconst 2, 1) := by decide +kernel
theorem dX5_off_12 : decode cX5_off 12 = .ok (.iload_n 1, 1) := by decide +kernel
theorem dX5_off_13 : decode cX5_off 13 = .ok (.iconst 4, 1) := by decide +kernel
theorem dX5_off_14 : decode cX5_off 14 = .ok (.idiv, 1) := by decide +kernel
theorem dX5_off_15 : decode cX5_off 15 = .ok (.imul, 1) := by decide +kernel
theorem dX5_off_16 : decode cX5_off 16 = .ok (.iload_n 3, 1) := by decide +kernel
theorem dX5_off_17 : decode cX5_off 17 = .ok (.iconst 2, 1) := by decide +kernel
theorem dX5_off_18 : decode cX5_off 18 = .ok (.idiv, 1) := by decide +kernel
theorem dX5_off_19 : decode cX5_off 19 = .ok (.iadd, 1) := by decide +kernel
theorem dX5_off_20 : decode cX5_off 20 = .ok (.imul, 1) := by decide +kernel
theorem dX5_off_21 : decode cX5_off 21 = .ok (.iconst 2, 1) := by decide +kernel
theorem dX5_off_22 : decode cX5_off 22 = .ok (.iload_n 1, 1) := by decide +kernel
theorem dX5_off_23 : decode cX5_off 23 = .ok (.iconst 4, 1) := by decide +kernel
theorem dX5_off_24 : decode cX5_off 24 = .ok (.irem, 1) := by decide +kernel
theorem dX5_off_25 : decode cX5_off 25 = .ok (.imul, 1) := by decide +kernel
theorem dX5_off_26 : decode cX5_off 26 = .ok (.iadd, 1) := by decide +kernel
theorem dX5_off_27 : decode cX5_off 27 = .ok (.iload_n 3, 1) := by decide +kernel
theorem dX5_off_28 : decode cX5_off 28 = .ok (.iconst 2, 1) := by decide +kernel
theorem dX5_off_29 : decode cX5_off 29 = .ok (.irem, 1) := by decide +kernel
theorem dX5_off_30 : decode cX5_off 30 = .ok (.iadd, 1) := by decide +kernel
theorem dX5_off_31 : decode cX5_off 31 = .ok (.istore 4, 2) := by decide +kernel
theorem dX5_off_33 : decode cX5_off 33 = .ok (.iload_n 2, 1) := by decide +kernel
theorem dX5_off_34 : decode cX5_off 34 = .ok (.aload_n 0, 1) := by decide +kernel
theorem dX5_off_35 : decode cX5_off 35 = .ok (.getfield 7, 3) := by decide +kernel
theorem dX5_off_38 : decode cX5_off 38 = .ok (.iload 4, 2) := by decide +kernel
theorem dX5_off_40 : decode cX5_off 40 = .ok (.iaload, 1) := by decide +kernel
theorem dX5_off_41 : decode cX5_off 41 = .ok (.aload_n 0, 1) := by decide +kernel
theorem dX5_off_42 : decode cX5_off 42 = .ok (.iload 4, 2) := by decide +kernel
theorem dX5_off_44 : decode cX5_off 44 = .ok (.invokevirtual 83, 3) := by decide +kernel
theorem dX5_off_47 : decode cX5_off 47 = .ok (.ifCond .eq 9, 3) := by decide +kernel
theorem dX5_off_50 : decode cX5_off 50 = .ok (.sipush 255, 3) := by decide +kernel
theorem dX5_off_53 : decode cX5_off 53 = .ok (.goto 4, 3) := by decide +kernel
theorem dX5_off_56 : decode cX5_off 56 = .ok (.iconst 0, 1) := by decide +kernel
theorem dX5_off_57 : decode cX5_off 57 = .ok (.isub, 1) := by decide +kernel
theorem dX5_off_58 : decode cX5_off 58 = .ok (.iadd, 1) := by decide +kernel
theorem dX5_off_59 : decode cX5_off 59 = .ok (.istore_n 2, 1) := by decide +kernel
theorem dX5_off_60 : decode cX5_off 60 = .ok (.iinc 3 1, 3) := by decide +kernel
theorem dX5_off_63 : decode cX5_off 63 = .ok (.goto (-59), 3) := by decide +kernel
theorem dX5_off_66 : decode cX5_off 66 = .ok (.iload_n 2, 1) := by decide +kernel
theorem dX5_off_67 : decode cX5_off 67 = .ok (.ifCond .ge 8, 3) := by decide +kernel
theorem dX5_off_70 : decode cX5_off 70 = .ok (.iload_n 2, 1) := by decide +kernel
theorem dX5_off_71 : decode cX5_off 71 = .ok (.ineg, 1) := by decide +kernel
theorem dX5_off_72 : decode cX5_off 72 = .ok (.goto 4, 3) := by decide +kernel
theorem dX5_off_75 : decode cX5_off 75 = .ok (.iload_n 2, 1) := by decide +kernel
theorem dX5_off_76 : decode cX5_off 76 = .ok (.ireturn, 1) := by decide +kernel
set_option maxRecDepth 20000 in
theorem ggX5_allOff_X5_off : GoodIn wsX5_allOff wsX5_off := goodIn_r _ [5, 6, 7, 8, 9, 4, 10, 11, 12, 13, 14, 15, 16, 17, 18, 19, 20, 21, 22, 23, 24, 25, 26] (by decide +kernel) (by decide +kernel)
set_option maxRecDepth 20000 in
theorem gX5_allOff_X5_off : GoodIn wsX5_allOff (wsV RX5 87 RX5 yX5_off wsX5_off) := goodIn_app (goodIn_of _ (by decide +kernel)) ggX5_allOff_X5_off
theorem dX5_allOff_0 : decode cX5_allOff 0 = .ok (.iconst 0, 1) := by decide +kernel
theorem dX5_allOff_1 : decode cX5_allOff 1 = .ok (.istore_n 1, 1) := by decide +kernel
theorem dX5_allOff_2 : decode cX5_allOff 2 = .ok (.iconst 0, 1) := by decide +kernel
theorem dX5_allOff_3 : decode cX5_allOff 3 = .ok (.istore_n 2, 1) := by decide +kernel
theorem dX5_allOff_4 : decode cX5_allOff 4 = .ok (.iload_n 2, 1) := by decide +kernel
theorem dX5_allOff_5 : decode cX5_allOff 5 = .ok (.bipush 16, 2) := by decide +kernel
theorem dX5_allOff_7 : decode cX5_allOff 7 = .ok (.if_icmp .ge 17, 3) := by decide +kernel
theorem dX5_allOff_10 : decode cX5_allOff 10 = .ok (.iload_n 1, 1) := by decide +kernel
theorem dX5_allOff_11 : decode cX5_allOff 11 = .ok (.aload_n 0, 1) := by decide +kernel
theorem dX5_allOff_12 : decode cX5_allOff 12 = .ok (.iload_n 2, 1) := by decide +kernel
theorem dX5_allOff_13 : decode cX5_allOff 13 = .ok (.invokevirtual 87, 3) := by decide +kernel
theorem dX5_allOff_16 : decode cX5_allOff 16 = .ok (.iadd, 1) := by decide +kernel
theorem dX5_allOff_17 : decode cX5_allOff 17 = .ok (.istore_n 1, 1) := by decide +kernel
theorem dX5_allOff_18 : decode cX5_allOff 18 = .ok (.iinc 2 1, 3) := by decide +kernel
theorem dX5_allOff_21 : decode cX5_allOff 21 = .ok (.goto (-17), 3) := by decide +kernel
theorem dX5_allOff_24 : decode cX5_allOff 24 = .ok (.iload_n 1, 1) := by decide +kernel
theorem dX5_allOff_25 : decode cX5_allOff 25 = .ok (.ireturn, 1) := by decide +kernel
theorem dX5_sum_0 : decode cX5_sum 0 = .ok (.iconst 0, 1) := by decide +kernel
theorem dX5_sum_1 : decode cX5_sum 1 = .ok (.istore_n 1, 1) := by decide +kernel
theorem dX5_sum_2 : decode cX5_sum 2 = .ok (.iconst 0, 1) := by decide +kernel
theorem dX5_sum_3 : decode cX5_sum 3 = .ok (.istore_n 2, 1) := by decide +kernel
theorem dX5_sum_4 : decode cX5_sum 4 = .ok (.iload_n 2, 1) := by decide +kernel
theorem dX5_sum_5 : decode cX5_sum 5 = .ok (.bipush 64, 2) := by decide +kernel
theorem dX5_sum_7 : decode cX5_sum 7 = .ok (.if_icmp .ge 18, 3) := by decide +kernel
theorem dX5_sum_10 : decode cX5_sum 10 = .ok (.iload_n 1, 1) := by decide +kernel
theorem dX5_sum_11 : decode cX5_sum 11 = .ok (.aload_n 0, 1) := by decide +kernel
theorem dX5_sum_12 : decode cX5_sum 12 = .ok (.getfield 7, 3) := by decide +kernel
theorem dX5_sum_15 : decode cX5_sum 15 = .ok (.iload_n 2, 1) := by decide +kernel
theorem dX5_sum_16 : decode cX5_sum 16 = .ok (.iaload, 1) := by decide +kernel
theorem dX5_sum_17 : decode cX5_sum 17 = .ok (.iadd, 1) := by decide +kernel
theorem dX5_sum_18 : decode cX5_sum 18 = .ok (.istore_n 1, 1) := by decide +kernel
theorem dX5_sum_19 : decode cX5_sum 19 = .ok (.iinc 2 1, 3) := by decide +kernel
theorem dX5_sum_22 : decode cX5_sum 22 = .ok (.goto (-18), 3) := by decide +kernel
theorem dX5_sum_25 : decode cX5_sum 25 = .ok (.iload_n 1, 1) := by decide +kernel
theorem dX5_sum_26 : decode cX5_sum 26 = .ok (.ireturn, 1) := by decide +kernel
set_option maxRecDepth 20000 in
theorem ggX5_setGrey_X5_isCell : GoodIn wsX5_setGrey wsX5_isCell := goodIn_r _ [6, 7, 8, 9, 5, 10, 27, 28, 29, 30, 31, 32, 33, 34, 35, 36, 37, 38, 39, 40] (by decide +kernel) (by decide +kernel)
set_option maxRecDepth 20000 in
theorem gX5_setGrey_X5_isCell : GoodIn wsX5_setGrey (wsV RX5 90 RX5 yX5_isCell wsX5_isCell) := goodIn_app (goodIn_of _ (by decide +kernel)) ggX5_setGrey_X5_isCell
set_option maxRecDepth 20000 in
theorem ggX5_setGrey_X5_isGrey : GoodIn wsX5_setGrey wsX5_isGrey := goodIn_r _ [13, 8, 9, 5, 10] (by decide +kernel) (by decide +kernel)
set_option maxRecDepth 20000 in
theorem gX5_setGrey_X5_isGrey : GoodIn wsX5_setGrey (va_wsS RX5 93 yX5_isGrey wsX5_isGrey) := goodIn_app (goodIn_of _ (by decide +kernel)) ggX5_setGrey_X5_isGrey
set_option maxRecDepth 20000 in
theorem ggX5_setGrey_X5_fails : GoodIn wsX5_setGrey wsX5_fails := goodIn_r _ [17, 7, 27, 28, 29, 30, 31, 32, 33, 34, 35, 36, 37, 38, 39, 40] (by decide +kernel) (by decide +kernel)
set_option maxRecDepth 20000 in
theorem gX5_setGrey_X5_fails : GoodIn wsX5_setGrey (wsV RX5 96 RX5 yX5_fails wsX5_fails) := goodIn_app (goodIn_of _ (by decide +kernel)) ggX5_setGrey_X5_fails
set_option maxRecDepth 20000 in
theorem ggX5_setGrey_X5_keepsState : GoodIn wsX5_setGrey wsX5_keepsState := goodIn_r _ [21, 22, 23, 1, 24, 25, 5, 26, 27, 28, 29, 30, 31, 32, 33, 34, 35, 36, 37, 38, 39, 40] (by decide +kernel) (by decide +kernel)
set_option maxRecDepth 20000 in
theorem gX5_setGrey_X5_keepsState : GoodIn wsX5_setGrey (wsV RX5 99 RX5 yX5_keepsState wsX5_keepsState) := goodIn_app (goodIn_of _ (by decide +kernel)) ggX5_setGrey_X5_keepsState
theorem dX5_setGrey_0 : decode cX5_setGrey 0 = .ok (.aload_n 0, 1) := by decide +kernel
theorem dX5_setGrey_1 : decode cX5_setGrey 1 = .ok (.iload_n 1, 1) := by decide +kernel
theorem dX5_setGrey_2 : decode cX5_setGrey 2 = .ok (.invokevirtual 90, 3) := by decide +kernel
theorem dX5_setGrey_5 : decode cX5_setGrey 5 = .ok (.ifCond .ne 5, 3) := by decide +kernel
theorem dX5_setGrey_8 : decode cX5_setGrey 8 = .ok (.iconst 0, 1) := by decide +kernel
theorem dX5_setGrey_9 : decode cX5_setGrey 9 = .ok (.ireturn, 1) := by decide +kernel
theorem dX5_setGrey_10 : decode cX5_setGrey 10 = .ok (.iload_n 2, 1) := by decide +kernel
theorem dX5_setGrey_11 : decode cX5_setGrey 11 = .ok (.invokestatic 93, 3) := by decide +kernel
theorem dX5_setGrey_14 : decode cX5_setGrey 14 = .ok (.ifCond .ne 9, 3) := by decide +kernel
theorem dX5_setGrey_17 : decode cX5_setGrey 17 = .ok (.aload_n 0, 1) := by decide +kernel
theorem dX5_setGrey_18 : decode cX5_setGrey 18 = .ok (.iconst 2, 1) := by decide +kernel
theorem dX5_setGrey_19 : decode cX5_setGrey 19 = .ok (.invokevirtual 96, 3) := by decide +kernel
theorem dX5_setGrey_22 : decode cX5_setGrey 22 = .ok (.ireturn, 1) := by decide +kernel
theorem dX5_setGrey_23 : decode cX5_setGrey 23 = .ok (.aload_n 0, 1) := by decide +kernel
theorem dX5_setGrey_24 : decode cX5_setGrey 24 = .ok (.invokevirtual 99, 3) := by decide +kernel
theorem dX5_setGrey_27 : decode cX5_setGrey 27 = .ok (.aload_n 0, 1) := by decide +kernel
theorem dX5_setGrey_28 : decode cX5_setGrey 28 = .ok (.getfield 7, 3) := by decide +kernel
theorem dX5_setGrey_31 : decode cX5_setGrey 31 = .ok (.iload_n 1, 1) := by decide +kernel
theorem dX5_setGrey_32 : decode cX5_setGrey 32 = .ok (.iaload, 1) := by decide +kernel
theorem dX5_setGrey_33 : decode cX5_setGrey 33 = .ok (.istore_n 3, 1) := by decide +kernel
theorem dX5_setGrey_34 : decode cX5_setGrey 34 = .ok (.aload_n 0, 1) := by decide +kernel
theorem dX5_setGrey_35 : decode cX5_setGrey 35 = .ok (.getfield 7, 3) := by decide +kernel
theorem dX5_setGrey_38 : decode cX5_setGrey 38 = .ok (.iload_n 1, 1) := by decide +kernel
theorem dX5_setGrey_39 : decode cX5_setGrey 39 = .ok (.iload_n 2, 1) := by decide +kernel
theorem dX5_setGrey_40 : decode cX5_setGrey 40 = .ok (.iastore, 1) := by decide +kernel
theorem dX5_setGrey_41 : decode cX5_setGrey 41 = .ok (.iload_n 3, 1) := by decide +kernel
theorem dX5_setGrey_42 : decode cX5_setGrey 42 = .ok (.ireturn, 1) := by decide +kernel
set_option maxRecDepth 20000 in
theorem ggX5_shadeRow_X5_in : GoodIn wsX5_shadeRow wsX5_in := goodIn_r _ [6] (by decide +kernel) (by decide +kernel)
set_option maxRecDepth 20000 in
theorem gX5_shadeRow_X5_in : GoodIn wsX5_shadeRow (va_wsS RX5 38 yX5_in wsX5_in) := goodIn_app (goodIn_of _ (by decide +kernel)) ggX5_shadeRow_X5_in
set_option maxRecDepth 20000 in
theorem ggX5_shadeRow_X5_fails : GoodIn wsX5_shadeRow wsX5_fails := goodIn_r _ [10, 1, 23, 24, 25, 26, 27, 28, 29, 30, 31, 32, 33, 34, 35, 36] (by decide +kernel) (by decide +kernel)
set_option maxRecDepth 20000 in
theorem gX5_shadeRow_X5_fails : GoodIn wsX5_shadeRow (wsV RX5 96 RX5 yX5_fails wsX5_fails) := goodIn_app (goodIn_of _ (by decide +kernel)) ggX5_shadeRow_X5_fails
set_option maxRecDepth 20000 in
theorem ggX5_shadeRow_X5_isGrey : GoodIn wsX5_shadeRow wsX5_isGrey := goodIn_r _ [13, 3, 4, 5, 6] (by decide +kernel) (by decide +kernel)
set_option maxRecDepth 20000 in
theorem gX5_shadeRow_X5_isGrey : GoodIn wsX5_shadeRow (va_wsS RX5 93 yX5_isGrey wsX5_isGrey) := goodIn_app (goodIn_of _ (by decide +kernel)) ggX5_shadeRow_X5_isGrey
set_option maxRecDepth 20000 in
theorem ggX5_shadeRow_X5_keepsState : GoodIn wsX5_shadeRow wsX5_keepsState := goodIn_r _ [17, 18, 19, 2, 20, 21, 5, 22, 23, 24, 25, 26, 27, 28, 29, 30, 31, 32, 33, 34, 35, 36] (by decide +kernel) (by decide +kernel)
set_option maxRecDepth 20000 in
theorem gX5_shadeRow_X5_keepsState : GoodIn wsX5_shadeRow (wsV RX5 99 RX5 yX5_keepsState wsX5_keepsState) := goodIn_app (goodIn_of _ (by decide +kernel)) ggX5_shadeRow_X5_keepsState
theorem dX5_shadeRow_0 : decode cX5_shadeRow 0 = .ok (.aload_n 0, 1) := by decide +kernel
theorem dX5_shadeRow_1 : decode cX5_shadeRow 1 = .ok (.iconst 0, 1) := by decide +kernel
theorem dX5_shadeRow_2 : decode cX5_shadeRow 2 = .ok (.putfield 34, 3) := by decide +kernel
theorem dX5_shadeRow_5 : decode cX5_shadeRow 5 = .ok (.iload_n 1, 1) := by decide +kernel
theorem dX5_shadeRow_6 : decode cX5_shadeRow 6 = .ok (.iconst 0, 1) := by decide +kernel
theorem dX5_shadeRow_7 : decode cX5_shadeRow 7 = .ok (.bipush 7, 2) := by decide +kernel
theorem dX5_shadeRow_9 : decode cX5_shadeRow 9 = .ok (.invokestatic 38, 3) := by decide +kernel
theorem dX5_shadeRow_12 : decode cX5_shadeRow 12 = .ok (.ifCond .ne 9, 3) := by decide +kernel
theorem dX5_shadeRow_15 : decode cX5_shadeRow 15 = .ok (.aload_n 0, 1) := by decide +kernel
theorem dX5_shadeRow_16 : decode cX5_shadeRow 16 = .ok (.iconst 1, 1) := by decide +kernel
theorem dX5_shadeRow_17 : decode cX5_shadeRow 17 = .ok (.invokevirtual 96, 3) := by decide +kernel
theorem dX5_shadeRow_20 : decode cX5_shadeRow 20 = .ok (.ireturn, 1) := by decide +kernel
theorem dX5_shadeRow_21 : decode cX5_shadeRow 21 = .ok (.iload_n 2, 1) := by decide +kernel
theorem dX5_shadeRow_22 : decode cX5_shadeRow 22 = .ok (.invokestatic 93, 3) := by decide +kernel
theorem dX5_shadeRow_25 : decode cX5_shadeRow 25 = .ok (.ifCond .eq 10, 3) := by decide +kernel
theorem dX5_shadeRow_28 : decode cX5_shadeRow 28 = .ok (.iload_n 3, 1) := by decide +kernel
theorem dX5_shadeRow_29 : decode cX5_shadeRow 29 = .ok (.invokestatic 93, 3) := by decide +kernel
theorem dX5_shadeRow_32 : decode cX5_shadeRow 32 = .ok (.ifCond .ne 9, 3) := by decide +kernel
theorem dX5_shadeRow_35 : decode cX5_shadeRow 35 = .ok (.aload_n 0, 1) := by decide +kernel
theorem dX5_shadeRow_36 : decode cX5_shadeRow 36 = .ok (.iconst 2, 1) := by decide +kernel
theorem dX5_shadeRow_37 : decode cX5_shadeRow 37 = .ok (.invokevirtual 96, 3) := by decide +kernel
theorem dX5_shadeRow_40 : decode cX5_shadeRow 40 = .ok (.ireturn, 1) := by decide +kernel
theorem dX5_shadeRow_41 : decode cX5_shadeRow 41 = .ok (.aload_n 0, 1) := by decide +kernel
theorem dX5_shadeRow_42 : decode cX5_shadeRow 42 = .ok (.invokevirtual 99, 3) := by decide +kernel
theorem dX5_shadeRow_45 : decode cX5_shadeRow 45 = .ok (.iconst 0, 1) := by decide +kernel
theorem dX5_shadeRow_46 : decode cX5_shadeRow 46 = .ok (.istore 4, 2) := by decide +kernel
theorem dX5_shadeRow_48 : decode cX5_shadeRow 48 = .ok (.iconst 0, 1) := by decide +kernel
theorem dX5_shadeRow_49 : decode cX5_shadeRow 49 = .ok (.istore 5, 2) := by decide +kernel
theorem dX5_shadeRow_51 : decode cX5_shadeRow 51 = .ok (.iload 5, 2) := by decide +kernel
theorem dX5_shadeRow_53 : decode cX5_shadeRow 53 = .ok (.bipush 8, 2) := by decide +kernel
theorem dX5_shadeRow_55 : decode cX5_shadeRow 55 = .ok (.if_icmp .ge 49, 3) := by decide +kernel
theorem dX5_shadeRow_58 : decode cX5_shadeRow 58 = .ok (.aload_n 0, 1) := by decide +kernel
theorem dX5_shadeRow_59 : decode cX5_shadeRow 59 = .ok (.getfield 7, 3) := by decide +kernel
theorem dX5_shadeRow_62 : decode cX5_shadeRow 62 = .ok (.bipush 8, 2) := by decide +kernel
theorem dX5_shadeRow_64 : decode cX5_shadeRow 64 = .ok (.iload_n 1, 1) := by decide +kernel
theorem dX5_shadeRow_65 : decode cX5_shadeRow 65 = .ok (.imul, 1) := by decide +kernel
theorem dX5_shadeRow_66 : decode cX5_shadeRow 66 = .ok (.iload 5, 2) := by decide +kernel
theorem dX5_shadeRow_68 : decode cX5_shadeRow 68 = .ok (.iadd, 1) := by decide +kernel
theorem dX5_shadeRow_69 : decode cX5_shadeRow 69 = .ok (.iload_n 2, 1) := by decide +kernel
theorem dX5_shadeRow_70 : decode cX5_shadeRow 70 = .ok (.iload_n 3, 1) := by decide +kernel
theorem dX5_shadeRow_71 : decode cX5_shadeRow 71 = .ok (.iload_n 2, 1) := by decide +kernel
theorem dX5_shadeRow_72 : decode cX5_shadeRow 72 = .ok (.isub, 1) := by decide +kernel
theorem dX5_shadeRow_73 : decode cX5_shadeRow 73 = .ok (.iload 5, 2) := by decide +kernel
theorem dX5_shadeRow_75 : decode cX5_shadeRow 75 = .ok (.imul, 1) := by decide +kernel
theorem dX5_shadeRow_76 : decode cX5_shadeRow 76 = .ok (.bipush 7, 2) := by decide +kernel
theorem dX5_shadeRow_78 : decode cX5_shadeRow 78 = .ok (.idiv, 1) := by decide +kernel
theorem dX5_shadeRow_79 : decode cX5_shadeRow 79 = .ok (.iadd, 1) := by decide +kernel
theorem dX5_shadeRow_80 : decode cX5_shadeRow 80 = .ok (.iastore, 1) := by decide +kernel
theorem dX5_shadeRow_81 : decode cX5_shadeRow 81 = .ok (.iload 4, 2) := by decide +kernel
theorem dX5_shadeRow_83 : decode cX5_shadeRow 83 = .ok (.aload_n 0, 1) := by decide +kernel
theorem dX5_shadeRow_84 : decode cX5_shadeRow 84 = .ok (.getfield 7, 3) := by decide +kernel
theorem dX5_shadeRow_87 : decode cX5_shadeRow 87 = .ok (.bipush 8, 2) := by decide +kernel
theorem dX5_shadeRow_89 : decode cX5_shadeRow 89 = .ok (.iload_n 1, 1) := by decide +kernel
theorem dX5_shadeRow_90 : decode cX5_shadeRow 90 = .ok (.imul, 1) := by decide +kernel
theorem dX5_shadeRow_91 : decode cX5_shadeRow 91 = .ok (.iload 5, 2) := by decide +kernel
theorem dX5_shadeRow_93 : decode cX5_shadeRow 93 = .ok (.iadd, 1) := by decide +kernel
theorem dX5_shadeRow_94 : decode cX5_shadeRow 94 = .ok (.iaload, 1) := by decide +kernel
theorem dX5_shadeRow_95 : decode cX5_shadeRow 95 = .ok (.iadd, 1) := by decide +kernel
theorem dX5_shadeRow_96 : decode cX5_shadeRow 96 = .ok (.istore 4, 2) := by decide +kernel
theorem dX5_shadeRow_98 : decode cX5_shadeRow 98 = .ok (.iinc 5 1, 3) := by decide +kernel
theorem dX5_shadeRow_101 : decode cX5_shadeRow 101 = .ok (.goto (-50), 3) := by decide +kernel
theorem dX5_shadeRow_104 : decode cX5_shadeRow 104 = .ok (.iload 4, 2) := by decide +kernel
theorem dX5_shadeRow_106 : decode cX5_shadeRow 106 = .ok (.ireturn, 1) := by decide +kernel
set_option maxRecDepth 20000 in
theorem ggX5_fill_X5_isCell : GoodIn wsX5_fill wsX5_isCell := goodIn_r _ [6, 7, 8, 9, 5, 10, 27, 28, 29, 30, 31, 32, 33, 34, 35, 36, 37, 38, 39, 40] (by decide +kernel) (by decide +kernel)
set_option maxRecDepth 20000 in
theorem gX5_fill_X5_isCell : GoodIn wsX5_fill (wsV RX5 90 RX5 yX5_isCell wsX5_isCell) := goodIn_app (goodIn_of _ (by decide +kernel)) ggX5_fill_X5_isCell
set_option maxRecDepth 20000 in
theorem ggX5_fill_X5_in : GoodIn wsX5_fill wsX5_in := goodIn_r _ [10] (by decide +kernel) (by decide +kernel)
set_option maxRecDepth 20000 in
theorem gX5_fill_X5_in : GoodIn wsX5_fill (va_wsS RX5 38 yX5_in wsX5_in) := goodIn_app (goodIn_of _ (by decide +kernel)) ggX5_fill_X5_in
set_option maxRecDepth 20000 in
theorem ggX5_fill_X5_isGrey : GoodIn wsX5_fill wsX5_isGrey := goodIn_r _ [13, 8, 9, 5, 10] (by decide +kernel) (by decide +kernel)
set_option maxRecDepth 20000 in
theorem gX5_fill_X5_isGrey : GoodIn wsX5_fill (va_wsS RX5 93 yX5_isGrey wsX5_isGrey) := goodIn_app (goodIn_of _ (by decide +kernel)) ggX5_fill_X5_isGrey
set_option maxRecDepth 20000 in
theorem ggX5_fill_X5_fails : GoodIn wsX5_fill wsX5_fails := goodIn_r _ [17, 7, 27, 28, 29, 30, 31, 32, 33, 34, 35, 36, 37, 38, 39, 40] (by decide +kernel) (by decide +kernel)
set_option maxRecDepth 20000 in
theorem gX5_fill_X5_fails : GoodIn wsX5_fill (wsV RX5 96 RX5 yX5_fails wsX5_fails) := goodIn_app (goodIn_of _ (by decide +kernel)) ggX5_fill_X5_fails
set_option maxRecDepth 20000 in
theorem ggX5_fill_X5_keepsState : GoodIn wsX5_fill wsX5_keepsState := goodIn_r _ [21, 22, 23, 1, 24, 25, 5, 26, 27, 28, 29, 30, 31, 32, 33, 34, 35, 36, 37, 38, 39, 40] (by decide +kernel) (by decide +kernel)
set_option maxRecDepth 20000 in
theorem gX5_fill_X5_keepsState : GoodIn wsX5_fill (wsV RX5 99 RX5 yX5_keepsState wsX5_keepsState) := goodIn_app (goodIn_of _ (by decide +kernel)) ggX5_fill_X5_keepsState
theorem dX5_fill_0 : decode cX5_fill 0 = .ok (.aload_n 0, 1) := by decide +kernel
theorem dX5_fill_1 : decode cX5_fill 1 = .ok (.iload_n 1, 1) := by decide +kernel
theorem dX5_fill_2 : decode cX5_fill 2 = .ok (.invokevirtual 90, 3) := by decide +kernel
theorem dX5_fill_5 : decode cX5_fill 5 = .ok (.ifCond .ne 5, 3) := by decide +kernel
theorem dX5_fill_8 : decode cX5_fill 8 = .ok (.iconst 0, 1) := by decide +kernel
theorem dX5_fill_9 : decode cX5_fill 9 = .ok (.ireturn, 1) := by decide +kernel
theorem dX5_fill_10 : decode cX5_fill 10 = .ok (.iload_n 2, 1) := by decide +kernel
theorem dX5_fill_11 : decode cX5_fill 11 = .ok (.iconst 1, 1) := by decide +kernel
theorem dX5_fill_12 : decode cX5_fill 12 = .ok (.bipush 8, 2) := by decide +kernel
theorem dX5_fill_14 : decode cX5_fill 14 = .ok (.invokestatic 38, 3) := by decide +kernel
theorem dX5_fill_17 : decode cX5_fill 17 = .ok (.ifCond .eq 21, 3) := by decide +kernel
theorem dX5_fill_20 : decode cX5_fill 20 = .ok (.iload_n 3, 1) := by decide +kernel
theorem dX5_fill_21 : decode cX5_fill 21 = .ok (.iconst 1, 1) := by decide +kernel
theorem dX5_fill_22 : decode cX5_fill 22 = .ok (.bipush 8, 2) := by decide +kernel
theorem dX5_fill_24 : decode cX5_fill 24 = .ok (.invokestatic 38, 3) := by decide +kernel
theorem dX5_fill_27 : decode cX5_fill 27 = .ok (.ifCond .eq 11, 3) := by decide +kernel
theorem dX5_fill_30 : decode cX5_fill 30 = .ok (.iload 4, 2) := by decide +kernel
theorem dX5_fill_32 : decode cX5_fill 32 = .ok (.invokestatic 93, 3) := by decide +kernel
theorem dX5_fill_35 : decode cX5_fill 35 = .ok (.ifCond .ne 9, 3) := by decide +kernel
theorem dX5_fill_38 : decode cX5_fill 38 = .ok (.aload_n 0, 1) := by decide +kernel
theorem dX5_fill_39 : decode cX5_fill 39 = .ok (.iconst 2, 1) := by decide +kernel
theorem dX5_fill_40 : decode cX5_fill 40 = .ok (.invokevirtual 96, 3) := by decide +kernel
theorem dX5_fill_43 : decode cX5_fill 43 = .ok (.ireturn, 1) := by decide +kernel
theorem dX5_fill_44 : decode cX5_fill 44 = .ok (.aload_n 0, 1) := by decide +kernel
theorem dX5_fill_45 : decode cX5_fill 45 = .ok (.invokevirtual 99, 3) := by decide +kernel
theorem dX5_fill_48 : decode cX5_fill 48 = .ok (.iconst 0, 1) := by decide +kernel
theorem dX5_fill_49 : decode cX5_fill 49 = .ok (.istore 5, 2) := by decide +kernel
theorem dX5_fill_51 : decode cX5_fill 51 = .ok (.iconst 0, 1) := by decide +kernel
theorem dX5_fill_52 : decode cX5_fill 52 = .ok (.istore 6, 2) := by decide +kernel
theorem dX5_fill_54 : decode cX5_fill 54 = .ok (.iload 6, 2) := by decide +kernel
theorem dX5_fill_56 : decode cX5_fill 56 = .ok (.bipush 64, 2) := by decide +kernel
theorem dX5_fill_58 : decode cX5_fill 58 = .ok (.if_icmp .ge 115, 3) := by decide +kernel
theorem dX5_fill_61 : decode cX5_fill 61 = .ok (.iload 6, 2) := by decide +kernel
theorem dX5_fill_63 : decode cX5_fill 63 = .ok (.bipush 8, 2) := by decide +kernel
theorem dX5_fill_65 : decode cX5_fill 65 = .ok (.idiv, 1) := by decide +kernel
theorem dX5_fill_66 : decode cX5_fill 66 = .ok (.iload_n 1, 1) := by decide +kernel
theorem dX5_fill_67 : decode cX5_fill 67 = .ok (.bipush 8, 2) := by decide +kernel
theorem dX5_fill_69 : decode cX5_fill 69 = .ok (.idiv, 1) := by decide +kernel
theorem dX5_fill_70 : decode cX5_fill 70 = .ok (.isub, 1) := by decide +kernel
theorem dX5_fill_71 : decode cX5_fill 71 = .ok (.istore 7, 2) := by decide +kernel
theorem dX5_fill_73 : decode cX5_fill 73 = .ok (.iload 6, 2) := by decide +kernel
theorem dX5_fill_75 : decode cX5_fill 75 = .ok (.bipush 8, 2) := by decide +kernel
theorem dX5_fill_77 : decode cX5_fill 77 = .ok (.irem, 1) := by decide +kernel
theorem dX5_fill_78 : decode cX5_fill 78 = .ok (.iload_n 1, 1) := by decide +kernel
theorem dX5_fill_79 : decode cX5_fill 79 = .ok (.bipush 8, 2) := by decide +kernel
theorem dX5_fill_81 : decode cX5_fill 81 = .ok (.irem, 1) := by decide +kernel
theorem dX5_fill_82 : decode cX5_fill 82 = .ok (.isub, 1) := by decide +kernel
theorem dX5_fill_83 : decode cX5_fill 83 = .ok (.istore 8, 2) := by decide +kernel
theorem dX5_fill_85 : decode cX5_fill 85 = .ok (.iload 7, 2) := by decide +kernel
theorem dX5_fill_87 : decode cX5_fill 87 = .ok (.iconst 0, 1) := by decide +kernel
theorem dX5_fill_88 : decode cX5_fill 88 = .ok (.iload_n 2, 1) := by decide +kernel
theorem dX5_fill_89 : decode cX5_fill 89 = .ok (.iconst 1, 1) := by decide +kernel
theorem dX5_fill_90 : decode cX5_fill 90 = .ok (.isub, 1) := by decide +kernel
theorem dX5_fill_91 : decode cX5_fill 91 = .ok (.invokestatic 38, 3) := by decide +kernel
theorem dX5_fill_94 : decode cX5_fill 94 = .ok (.ifCond .eq 19, 3) := by decide +kernel
theorem dX5_fill_97 : decode cX5_fill 97 = .ok (.iload 8, 2) := by decide +kernel
theorem dX5_fill_99 : decode cX5_fill 99 = .ok (.iconst 0, 1) := by decide +kernel
theorem dX5_fill_100 : decode cX5_fill 100 = .ok (.iload_n 3, 1) := by decide +kernel
theorem dX5_fill_101 : decode cX5_fill 101 = .ok (.iconst 1, 1) := by decide +kernel
theorem dX5_fill_102 : decode cX5_fill 102 = .ok (.isub, 1) := by decide +kernel
theorem dX5_fill_103 : decode cX5_fill 103 = .ok (.invokestatic 38, 3) := by decide +kernel
theorem dX5_fill_106 : decode cX5_fill 106 = .ok (.ifCond .eq 7, 3) := by decide +kernel
theorem dX5_fill_109 : decode cX5_fill 109 = .ok (.iconst 1, 1) := by decide +kernel
theorem dX5_fill_110 : decode cX5_fill 110 = .ok (.goto 4, 3) := by decide +kernel
theorem dX5_fill_113 : decode cX5_fill 113 = .ok (.iconst 0, 1) := by decide +kernel
theorem dX5_fill_114 : decode cX5_fill 114 = .ok (.istore 9, 2) := by decide +kernel
theorem dX5_fill_116 : decode cX5_fill 116 = .ok (.iload 5, 2) := by decide +kernel
theorem dX5_fill_118 : decode cX5_fill 118 = .ok (.iload 9, 2) := by decide +kernel
theorem dX5_fill_120 : decode cX5_fill 120 = .ok (.ifCond .eq 19, 3) := by decide +kernel
theorem dX5_fill_123 : decode cX5_fill 123 = .ok (.aload_n 0, 1) := by decide +kernel
theorem dX5_fill_124 : decode cX5_fill 124 = .ok (.getfield 7, 3) := by decide +kernel
theorem dX5_fill_127 : decode cX5_fill 127 = .ok (.iload 6, 2) := by decide +kernel
theorem dX5_fill_129 : decode cX5_fill 129 = .ok (.iaload, 1) := by decide +kernel
theorem dX5_fill_130 : decode cX5_fill 130 = .ok (.iload 4, 2) := by decide +kernel
theorem dX5_fill_132 : decode cX5_fill 132 = .ok (.if_icmp .eq 7, 3) := by decide +kernel
theorem dX5_fill_135 : decode cX5_fill 135 = .ok (.iconst 1, 1) := by decide +kernel
theorem dX5_fill_136 : decode cX5_fill 136 = .ok (.goto 4, 3) := by decide +kernel
theorem dX5_fill_139 : decode cX5_fill 139 = .ok (.iconst 0, 1) := by decide +kernel
theorem dX5_fill_140 : decode cX5_fill 140 = .ok (.iadd, 1) := by decide +kernel
theorem dX5_fill_141 : decode cX5_fill 141 = .ok (.istore 5, 2) := by decide +kernel
theorem dX5_fill_143 : decode cX5_fill 143 = .ok (.aload_n 0, 1) := by decide +kernel
theorem dX5_fill_144 : decode cX5_fill 144 = .ok (.getfield 7, 3) := by decide +kernel
theorem dX5_fill_147 : decode cX5_fill 147 = .ok (.iload 6, 2) := by decide +kernel
theorem dX5_fill_149 : decode cX5_fill 149 = .ok (.iload 9, 2) := by decide +kernel
theorem dX5_fill_151 : decode cX5_fill 151 = .ok (.ifCond .eq 8, 3) := by decide +kernel
theorem dX5_fill_154 : decode cX5_fill 154 = .ok (.iload 4, 2) := by decide +kernel
theorem dX5_fill_156 : decode cX5_fill 156 = .ok (.goto 10, 3) := by decide +kernel
theorem dX5_fill_159 : decode cX5_fill 159 = .ok (.aload_n 0, 1) := by decide +kernel
theorem dX5_fill_160 : decode cX5_fill 160 = .ok (.getfield 7, 3) := by decide +kernel
theorem dX5_fill_163 : decode cX5_fill 163 = .ok (.iload 6, 2) := by decide +kernel
theorem dX5_fill_165 : decode cX5_fill 165 = .ok (.iaload, 1) := by decide +kernel
theorem dX5_fill_166 : decode cX5_fill 166 = .ok (.iastore, 1) := by decide +kernel
theorem dX5_fill_167 : decode cX5_fill 167 = .ok (.iinc 6 1, 3) := by decide +kernel
theorem dX5_fill_170 : decode cX5_fill 170 = .ok (.goto (-116), 3) := by decide +kernel
theorem dX5_fill_173 : decode cX5_fill 173 = .ok (.iload 5, 2) := by decide +kernel
theorem dX5_fill_175 : decode cX5_fill 175 = .ok (.ireturn, 1) := by decide +kernel
set_option maxRecDepth 20000 in
theorem ggX5_inverts_X5_sum : GoodIn wsX5_inverts wsX5_sum := goodIn_r _ [6, 1, 7, 8, 9, 10, 11, 12, 13, 14, 15, 16, 17, 18, 19, 20] (by decide +kernel) (by decide +kernel)
set_option maxRecDepth 20000 in
theorem gX5_inverts_X5_sum : GoodIn wsX5_inverts (wsV RX5 102 RX5 yX5_sum wsX5_sum) := goodIn_app (goodIn_of _ (by decide +kernel)) ggX5_inverts_X5_sum
theorem dX5_inverts_0 : decode cX5_inverts 0 = .ok (.iconst 0, 1) := by decide +kernel
theorem dX5_inverts_1 : decode cX5_inverts 1 = .ok (.istore_n 1, 1) := by decide +kernel
theorem dX5_inverts_2 : decode cX5_inverts 2 = .ok (.iload_n 1, 1) := by decide +kernel
theorem dX5_inverts_3 : decode cX5_inverts 3 = .ok (.bipush 64, 2) := by decide +kernel
theorem dX5_inverts_5 : decode cX5_inverts 5 = .ok (.if_icmp .ge 25, 3) := by decide +kernel
theorem dX5_inverts_8 : decode cX5_inverts 8 = .ok (.aload_n 0, 1) := by decide +kernel
theorem dX5_inverts_9 : decode cX5_inverts 9 = .ok (.getfield 7, 3) := by decide +kernel
theorem dX5_inverts_12 : decode cX5_inverts 12 = .ok (.iload_n 1, 1) := by decide +kernel
theorem dX5_inverts_13 : decode cX5_inverts 13 = .ok (.sipush 255, 3) := by decide +kernel
theorem dX5_inverts_16 : decode cX5_inverts 16 = .ok (.aload_n 0, 1) := by decide +kernel
theorem dX5_inverts_17 : decode cX5_inverts 17 = .ok (.getfield 7, 3) := by decide +kernel
theorem dX5_inverts_20 : decode cX5_inverts 20 = .ok (.iload_n 1, 1) := by decide +kernel
theorem dX5_inverts_21 : decode cX5_inverts 21 = .ok (.iaload, 1) := by decide +kernel
theorem dX5_inverts_22 : decode cX5_inverts 22 = .ok (.isub, 1) := by decide +kernel
theorem dX5_inverts_23 : decode cX5_inverts 23 = .ok (.iastore, 1) := by decide +kernel
theorem dX5_inverts_24 : decode cX5_inverts 24 = .ok (.iinc 1 1, 3) := by decide +kernel
theorem dX5_inverts_27 : decode cX5_inverts 27 = .ok (.goto (-25), 3) := by decide +kernel
theorem dX5_inverts_30 : decode cX5_inverts 30 = .ok (.aload_n 0, 1) := by decide +kernel
theorem dX5_inverts_31 : decode cX5_inverts 31 = .ok (.invokevirtual 102, 3) := by decide +kernel
theorem dX5_inverts_34 : decode cX5_inverts 34 = .ok (.ireturn, 1) := by decide +kernel
set_option maxRecDepth 20000 in
theorem ggX5_invert_X5_keepsState : GoodIn wsX5_invert wsX5_keepsState := goodIn_r _ [6, 7, 8, 9, 10, 11, 5, 12, 21, 22, 23, 24, 25, 26, 27, 28, 29, 30, 31, 32, 33, 34] (by decide +kernel) (by decide +kernel)
set_option maxRecDepth 20000 in
theorem gX5_invert_X5_keepsState : GoodIn wsX5_invert (wsV RX5 99 RX5 yX5_keepsState wsX5_keepsState) := goodIn_app (goodIn_of _ (by decide +kernel)) ggX5_invert_X5_keepsState
set_option maxRecDepth 20000 in
theorem ggX5_invert_X5_inverts : GoodIn wsX5_invert wsX5_inverts := goodIn_r _ [16, 9, 17, 18, 19, 5, 20, 21, 22, 23, 24, 25, 26, 27, 28, 29, 30, 31, 32, 33, 34] (by decide +kernel) (by decide +kernel)
set_option maxRecDepth 20000 in
theorem gX5_invert_X5_inverts : GoodIn wsX5_invert (wsV RX5 106 RX5 yX5_inverts wsX5_inverts) := goodIn_app (goodIn_of _ (by decide +kernel)) ggX5_invert_X5_inverts
theorem dX5_invert_0 : decode cX5_invert 0 = .ok (.aload_n 0, 1) := by decide +kernel
theorem dX5_invert_1 : decode cX5_invert 1 = .ok (.iconst 0, 1) := by decide +kernel
theorem dX5_invert_2 : decode cX5_invert 2 = .ok (.putfield 34, 3) := by decide +kernel
theorem dX5_invert_5 : decode cX5_invert 5 = .ok (.aload_n 0, 1) := by decide +kernel
theorem dX5_invert_6 : decode cX5_invert 6 = .ok (.invokevirtual 99, 3) := by decide +kernel
theorem dX5_invert_9 : decode cX5_invert 9 = .ok (.aload_n 0, 1) := by decide +kernel
theorem dX5_invert_10 : decode cX5_invert 10 = .ok (.invokevirtual 106, 3) := by decide +kernel
theorem dX5_invert_13 : decode cX5_invert 13 = .ok (.ireturn, 1) := by decide +kernel
theorem dX5_thaws_0 : decode cX5_thaws 0 = .ok (.iconst 0, 1) := by decide +kernel
theorem dX5_thaws_1 : decode cX5_thaws 1 = .ok (.istore_n 2, 1) := by decide +kernel
theorem dX5_thaws_2 : decode cX5_thaws 2 = .ok (.iconst 0, 1) := by decide +kernel
theorem dX5_thaws_3 : decode cX5_thaws 3 = .ok (.istore_n 3, 1) := by decide +kernel
theorem dX5_thaws_4 : decode cX5_thaws 4 = .ok (.iload_n 3, 1) := by decide +kernel
theorem dX5_thaws_5 : decode cX5_thaws 5 = .ok (.bipush 64, 2) := by decide +kernel
theorem dX5_thaws_7 : decode cX5_thaws 7 = .ok (.if_icmp .ge 54, 3) := by decide +kernel
theorem dX5_thaws_10 : decode cX5_thaws 10 = .ok (.aload_n 0, 1) := by decide +kernel
theorem dX5_thaws_11 : decode cX5_thaws 11 = .ok (.getfield 7, 3) := by decide +kernel
theorem dX5_thaws_14 : decode cX5_thaws 14 = .ok (.iload_n 3, 1) := by decide +kernel
theorem dX5_thaws_15 : decode cX5_thaws 15 = .ok (.aload_n 0, 1) := by decide +kernel
theorem dX5_thaws_16 : decode cX5_thaws 16 = .ok (.getfield 7, 3) := by decide +kernel
theorem dX5_thaws_19 : decode cX5_thaws 19 = .ok (.iload_n 3, 1) := by decide +kernel
theorem dX5_thaws_20 : decode cX5_thaws 20 = .ok (.iaload, 1) := by decide +kernel
theorem dX5_thaws_21 : decode cX5_thaws 21 = .ok (.iload_n 1, 1) := by decide +kernel
theorem dX5_thaws_22 : decode cX5_thaws 22 = .ok (.if_icmp .le 14, 3) := by decide +kernel
theorem dX5_thaws_25 : decode cX5_thaws 25 = .ok (.aload_n 0, 1) := by decide +kernel
theorem dX5_thaws_26 : decode cX5_thaws 26 = .ok (.getfield 7, 3) := by decide +kernel
theorem dX5_thaws_29 : decode cX5_thaws 29 = .ok (.iload_n 3, 1) := by decide +kernel
theorem dX5_thaws_30 : decode cX5_thaws 30 = .ok (.iaload, 1) := by decide +kernel
theorem dX5_thaws_31 : decode cX5_thaws 31 = .ok (.iload_n 1, 1) := by decide +kernel
theorem dX5_thaws_32 : decode cX5_thaws 32 = .ok (.isub, 1) := by decide +kernel
theorem dX5_thaws_33 : decode cX5_thaws 33 = .ok (.goto 4, 3) := by decide +kernel
theorem dX5_thaws_36 : decode cX5_thaws 36 = .ok (.iconst 0, 1) := by decide +kernel
theorem dX5_thaws_37 : decode cX5_thaws 37 = .ok (.iastore, 1) := by decide +kernel
theorem dX5_thaws_38 : decode cX5_thaws 38 = .ok (.iload_n 2, 1) := by decide +kernel
theorem dX5_thaws_39 : decode cX5_thaws 39 = .ok (.aload_n 0, 1) := by decide +kernel
theorem dX5_thaws_40 : decode cX5_thaws 40 = .ok (.getfield 7, 3) := by decide +kernel
theorem dX5_thaws_43 : decode cX5_thaws 43 = .ok (.iload_n 3, 1) := by decide +kernel
theorem dX5_thaws_44 : decode cX5_thaws 44 = .ok (.iaload, 1) := by decide +kernel
theorem dX5_thaws_45 : decode cX5_thaws 45 = .ok (.ifCond .ne 7, 3) := by decide +kernel
theorem dX5_thaws_48 : decode cX5_thaws 48 = .ok (.iconst 1, 1) := by decide +kernel
theorem dX5_thaws_49 : decode cX5_thaws 49 = .ok (.goto 4, 3) := by decide +kernel
theorem dX5_thaws_52 : decode cX5_thaws 52 = .ok (.iconst 0, 1) := by decide +kernel
theorem dX5_thaws_53 : decode cX5_thaws 53 = .ok (.iadd, 1) := by decide +kernel
theorem dX5_thaws_54 : decode cX5_thaws 54 = .ok (.istore_n 2, 1) := by decide +kernel
theorem dX5_thaws_55 : decode cX5_thaws 55 = .ok (.iinc 3 1, 3) := by decide +kernel
theorem dX5_thaws_58 : decode cX5_thaws 58 = .ok (.goto (-54), 3) := by decide +kernel
theorem dX5_thaws_61 : decode cX5_thaws 61 = .ok (.iload_n 2, 1) := by decide +kernel
theorem dX5_thaws_62 : decode cX5_thaws 62 = .ok (.ireturn, 1) := by decide +kernel
set_option maxRecDepth 20000 in
theorem ggX5_thaw_X5_in : GoodIn wsX5_thaw wsX5_in := goodIn_r _ [5] (by decide +kernel) (by decide +kernel)
set_option maxRecDepth 20000 in
theorem gX5_thaw_X5_in : GoodIn wsX5_thaw (va_wsS RX5 38 yX5_in wsX5_in) := goodIn_app (goodIn_of _ (by decide +kernel)) ggX5_thaw_X5_in
set_option maxRecDepth 20000 in
theorem ggX5_thaw_X5_fails : GoodIn wsX5_thaw wsX5_fails := goodIn_r _ [9, 1, 24, 25, 26, 27, 28, 29, 30, 31, 32, 33, 34, 35, 36, 37] (by decide +kernel) (by decide +kernel)
set_option maxRecDepth 20000 in
theorem gX5_thaw_X5_fails : GoodIn wsX5_thaw (wsV RX5 96 RX5 yX5_fails wsX5_fails) := goodIn_app (goodIn_of _ (by decide +kernel)) ggX5_thaw_X5_fails
set_option maxRecDepth 20000 in
theorem ggX5_thaw_X5_keepsState : GoodIn wsX5_thaw wsX5_keepsState := goodIn_r _ [13, 14, 15, 16, 17, 18, 4, 19, 24, 25, 26, 27, 28, 29, 30, 31, 32, 33, 34, 35, 36, 37] (by decide +kernel) (by decide +kernel)
set_option maxRecDepth 20000 in
theorem gX5_thaw_X5_keepsState : GoodIn wsX5_thaw (wsV RX5 99 RX5 yX5_keepsState wsX5_keepsState) := goodIn_app (goodIn_of _ (by decide +kernel)) ggX5_thaw_X5_keepsState
set_option maxRecDepth 20000 in
theorem ggX5_thaw_X5_thaws : GoodIn wsX5_thaw wsX5_thaws := goodIn_r _ [23, 16, 24, 25, 26, 27, 28, 29, 30, 31, 32, 33, 34, 35, 36, 37] (by decide +kernel) (by decide +kernel)
set_option maxRecDepth 20000 in
theorem gX5_thaw_X5_thaws : GoodIn wsX5_thaw (wsV RX5 109 RX5 yX5_thaws wsX5_thaws) := goodIn_app (goodIn_of _ (by decide +kernel)) ggX5_thaw_X5_thaws
theorem dX5_thaw_0 : decode cX5_thaw 0 = .ok (.aload_n 0, 1) := by decide +kernel
theorem dX5_thaw_1 : decode cX5_thaw 1 = .ok (.iconst 0, 1) := by decide +kernel
theorem dX5_thaw_2 : decode cX5_thaw 2 = .ok (.putfield 34, 3) := by decide +kernel
theorem dX5_thaw_5 : decode cX5_thaw 5 = .ok (.iload_n 1, 1) := by decide +kernel
theorem dX5_thaw_6 : decode cX5_thaw 6 = .ok (.iconst 1, 1) := by decide +kernel
theorem dX5_thaw_7 : decode cX5_thaw 7 = .ok (.sipush 255, 3) := by decide +kernel
theorem dX5_thaw_10 : decode cX5_thaw 10 = .ok (.invokestatic 38, 3) := by decide +kernel
theorem dX5_thaw_13 : decode cX5_thaw 13 = .ok (.ifCond .ne 9, 3) := by decide +kernel
theorem dX5_thaw_16 : decode cX5_thaw 16 = .ok (.aload_n 0, 1) := by decide +kernel
theorem dX5_thaw_17 : decode cX5_thaw 17 = .ok (.iconst 1, 1) := by decide +kernel
theorem dX5_thaw_18 : decode cX5_thaw 18 = .ok (.invokevirtual 96, 3) := by decide +kernel
theorem dX5_thaw_21 : decode cX5_thaw 21 = .ok (.ireturn, 1) := by decide +kernel
theorem dX5_thaw_22 : decode cX5_thaw 22 = .ok (.aload_n 0, 1) := by decide +kernel
theorem dX5_thaw_23 : decode cX5_thaw 23 = .ok (.invokevirtual 99, 3) := by decide +kernel
theorem dX5_thaw_26 : decode cX5_thaw 26 = .ok (.aload_n 0, 1) := by decide +kernel
theorem dX5_thaw_27 : decode cX5_thaw 27 = .ok (.iload_n 1, 1) := by decide +kernel
theorem dX5_thaw_28 : decode cX5_thaw 28 = .ok (.invokevirtual 109, 3) := by decide +kernel
theorem dX5_thaw_31 : decode cX5_thaw 31 = .ok (.ireturn, 1) := by decide +kernel
set_option maxRecDepth 20000 in
theorem ggX5_setRule_X5_in : GoodIn wsX5_setRule wsX5_in := goodIn_r _ [6] (by decide +kernel) (by decide +kernel)
set_option maxRecDepth 20000 in
theorem gX5_setRule_X5_in : GoodIn wsX5_setRule (va_wsS RX5 38 yX5_in wsX5_in) := goodIn_app (goodIn_of _ (by decide +kernel)) ggX5_setRule_X5_in
set_option maxRecDepth 20000 in
theorem ggX5_setRule_X5_fails : GoodIn wsX5_setRule wsX5_fails := goodIn_r _ [10, 1, 20, 21, 22, 23, 24, 25, 26, 27, 28, 29, 30, 31, 32, 33] (by decide +kernel) (by decide +kernel)
set_option maxRecDepth 20000 in
theorem gX5_setRule_X5_fails : GoodIn wsX5_setRule (wsV RX5 96 RX5 yX5_fails wsX5_fails) := goodIn_app (goodIn_of _ (by decide +kernel)) ggX5_setRule_X5_fails
set_option maxRecDepth 20000 in
theorem ggX5_setRule_X5_keepsState : GoodIn wsX5_setRule wsX5_keepsState := goodIn_r _ [14, 15, 16, 2, 17, 18, 5, 19, 20, 21, 22, 23, 24, 25, 26, 27, 28, 29, 30, 31, 32, 33] (by decide +kernel) (by decide +kernel)
set_option maxRecDepth 20000 in
theorem gX5_setRule_X5_keepsState : GoodIn wsX5_setRule (wsV RX5 99 RX5 yX5_keepsState wsX5_keepsState) := goodIn_app (goodIn_of _ (by decide +kernel)) ggX5_setRule_X5_keepsState
theorem dX5_setRule_0 : decode cX5_setRule 0 = .ok (.aload_n 0, 1) := by decide +kernel
theorem dX5_setRule_1 : decode cX5_setRule 1 = .ok (.iconst 0, 1) := by decide +kernel
theorem dX5_setRule_2 : decode cX5_setRule 2 = .ok (.putfield 34, 3) := by decide +kernel
theorem dX5_setRule_5 : decode cX5_setRule 5 = .ok (.iload_n 1, 1) := by decide +kernel
theorem dX5_setRule_6 : decode cX5_setRule 6 = .ok (.iconst 0, 1) := by decide +kernel
theorem dX5_setRule_7 : decode cX5_setRule 7 = .ok (.iconst 3, 1) := by decide +kernel
theorem dX5_setRule_8 : decode cX5_setRule 8 = .ok (.invokestatic 38, 3) := by decide +kernel
theorem dX5_setRule_11 : decode cX5_setRule 11 = .ok (.ifCond .ne 9, 3) := by decide +kernel
theorem dX5_setRule_14 : decode cX5_setRule 14 = .ok (.aload_n 0, 1) := by decide +kernel
theorem dX5_setRule_15 : decode cX5_setRule 15 = .ok (.iconst 1, 1) := by decide +kernel
theorem dX5_setRule_16 : decode cX5_setRule 16 = .ok (.invokevirtual 96, 3) := by decide +kernel
theorem dX5_setRule_19 : decode cX5_setRule 19 = .ok (.ireturn, 1) := by decide +kernel
theorem dX5_setRule_20 : decode cX5_setRule 20 = .ok (.aload_n 0, 1) := by decide +kernel
theorem dX5_setRule_21 : decode cX5_setRule 21 = .ok (.invokevirtual 99, 3) := by decide +kernel
theorem dX5_setRule_24 : decode cX5_setRule 24 = .ok (.aload_n 0, 1) := by decide +kernel
theorem dX5_setRule_25 : decode cX5_setRule 25 = .ok (.getfield 7, 3) := by decide +kernel
theorem dX5_setRule_28 : decode cX5_setRule 28 = .ok (.bipush 64, 2) := by decide +kernel
theorem dX5_setRule_30 : decode cX5_setRule 30 = .ok (.iaload, 1) := by decide +kernel
theorem dX5_setRule_31 : decode cX5_setRule 31 = .ok (.istore_n 2, 1) := by decide +kernel
theorem dX5_setRule_32 : decode cX5_setRule 32 = .ok (.aload_n 0, 1) := by decide +kernel
theorem dX5_setRule_33 : decode cX5_setRule 33 = .ok (.getfield 7, 3) := by decide +kernel
theorem dX5_setRule_36 : decode cX5_setRule 36 = .ok (.bipush 64, 2) := by decide +kernel
theorem dX5_setRule_38 : decode cX5_setRule 38 = .ok (.iload_n 1, 1) := by decide +kernel
theorem dX5_setRule_39 : decode cX5_setRule 39 = .ok (.iastore, 1) := by decide +kernel
theorem dX5_setRule_40 : decode cX5_setRule 40 = .ok (.iload_n 2, 1) := by decide +kernel
theorem dX5_setRule_41 : decode cX5_setRule 41 = .ok (.ireturn, 1) := by decide +kernel
set_option maxRecDepth 20000 in
theorem ggX5_setThreshold_X5_in : GoodIn wsX5_setThreshold wsX5_in := goodIn_r _ [6] (by decide +kernel) (by decide +kernel)
set_option maxRecDepth 20000 in
theorem gX5_setThreshold_X5_in : GoodIn wsX5_setThreshold (va_wsS RX5 38 yX5_in wsX5_in) := goodIn_app (goodIn_of _ (by decide +kernel)) ggX5_setThreshold_X5_in
set_option maxRecDepth 20000 in
theorem ggX5_setThreshold_X5_fails : GoodIn wsX5_setThreshold wsX5_fails := goodIn_r _ [10, 1, 20, 21, 22, 23, 24, 25, 26, 27, 28, 29, 30, 31, 32, 33] (by decide +kernel) (by decide +kernel)
set_option maxRecDepth 20000 in
theorem gX5_setThreshold_X5_fails : GoodIn wsX5_setThreshold (wsV RX5 96 RX5 yX5_fails wsX5_fails) := goodIn_app (goodIn_of _ (by decide +kernel)) ggX5_setThreshold_X5_fails
set_option maxRecDepth 20000 in
theorem ggX5_setThreshold_X5_keepsState : GoodIn wsX5_setThreshold wsX5_keepsState := goodIn_r _ [14, 15, 16, 2, 17, 18, 5, 19, 20, 21, 22, 23, 24, 25, 26, 27, 28, 29, 30, 31, 32, 33] (by decide +kernel) (by decide +kernel)
set_option maxRecDepth 20000 in
theorem gX5_setThreshold_X5_keepsState : GoodIn wsX5_setThreshold (wsV RX5 99 RX5 yX5_keepsState wsX5_keepsState) := goodIn_app (goodIn_of _ (by decide +kernel)) ggX5_setThreshold_X5_keepsState
theorem dX5_setThreshold_0 : decode cX5_setThreshold 0 = .ok (.aload_n 0, 1) := by decide +kernel
theorem dX5_setThreshold_1 : decode cX5_setThreshold 1 = .ok (.iconst 0, 1) := by decide +kernel
theorem dX5_setThreshold_2 : decode cX5_setThreshold 2 = .ok (.putfield 34, 3) := by decide +kernel
theorem dX5_setThreshold_5 : decode cX5_setThreshold 5 = .ok (.iload_n 1, 1) := by decide +kernel
theorem dX5_setThreshold_6 : decode cX5_setThreshold 6 = .ok (.iconst 1, 1) := by decide +kernel
theorem dX5_setThreshold_7 : decode cX5_setThreshold 7 = .ok (.sipush 255, 3) := by decide +kernel
theorem dX5_setThreshold_10 : decode cX5_setThreshold 10 = .ok (.invokestatic 38, 3) := by decide +kernel
theorem dX5_setThreshold_13 : decode cX5_setThreshold 13 = .ok (.ifCond .ne 9, 3) := by decide +kernel
theorem dX5_setThreshold_16 : decode cX5_setThreshold 16 = .ok (.aload_n 0, 1) := by decide +kernel
theorem dX5_setThreshold_17 : decode cX5_setThreshold 17 = .ok (.iconst 1, 1) := by decide +kernel
theorem dX5_setThreshold_18 : decode cX5_setThreshold 18 = .ok (.invokevirtual 96, 3) := by decide +kernel
theorem dX5_setThreshold_21 : decode cX5_setThreshold 21 = .ok (.ireturn, 1) := by decide +kernel
theorem dX5_setThreshold_22 : decode cX5_setThreshold 22 = .ok (.aload_n 0, 1) := by decide +kernel
theorem dX5_setThreshold_23 : decode cX5_setThreshold 23 = .ok (.invokevirtual 99, 3) := by decide +kernel
theorem dX5_setThreshold_26 : decode cX5_setThreshold 26 = .ok (.aload_n 0, 1) := by decide +kernel
theorem dX5_setThreshold_27 : decode cX5_setThreshold 27 = .ok (.getfield 7, 3) := by decide +kernel
theorem dX5_setThreshold_30 : decode cX5_setThreshold 30 = .ok (.bipush 65, 2) := by decide +kernel
theorem dX5_setThreshold_32 : decode cX5_setThreshold 32 = .ok (.iaload, 1) := by decide +kernel
theorem dX5_setThreshold_33 : decode cX5_setThreshold 33 = .ok (.istore_n 2, 1) := by decide +kernel
theorem dX5_setThreshold_34 : decode cX5_setThreshold 34 = .ok (.aload_n 0, 1) := by decide +kernel
theorem dX5_setThreshold_35 : decode cX5_setThreshold 35 = .ok (.getfield 7, 3) := by decide +kernel
theorem dX5_setThreshold_38 : decode cX5_setThreshold 38 = .ok (.bipush 65, 2) := by decide +kernel
theorem dX5_setThreshold_40 : decode cX5_setThreshold 40 = .ok (.iload_n 1, 1) := by decide +kernel
theorem dX5_setThreshold_41 : decode cX5_setThreshold 41 = .ok (.iastore, 1) := by decide +kernel
theorem dX5_setThreshold_42 : decode cX5_setThreshold 42 = .ok (.iload_n 2, 1) := by decide +kernel
theorem dX5_setThreshold_43 : decode cX5_setThreshold 43 = .ok (.ireturn, 1) := by decide +kernel
set_option maxRecDepth 20000 in
theorem ggX5_turnWinding_X5_keepsState : GoodIn wsX5_turnWinding wsX5_keepsState := goodIn_r _ [7, 8, 9, 2, 10, 11, 6, 12, 13, 14, 15, 16, 17, 18, 19, 20, 21, 22, 23, 24, 25, 26] (by decide +kernel) (by decide +kernel)
set_option maxRecDepth 20000 in
theorem gX5_turnWinding_X5_keepsState : GoodIn wsX5_turnWinding (wsV RX5 99 RX5 yX5_keepsState wsX5_keepsState) := goodIn_app (goodIn_of _ (by decide +kernel)) ggX5_turnWinding_X5_keepsState
theorem dX5_turnWinding_0 : decode cX5_turnWinding 0 = .ok (.aload_n 0, 1) := by decide +kernel
theorem dX5_turnWinding_1 : decode cX5_turnWinding 1 = .ok (.iconst 0, 1) := by decide +kernel
theorem dX5_turnWinding_2 : decode cX5_turnWinding 2 = .ok (.putfield 34, 3) := by decide +kernel
theorem dX5_turnWinding_5 : decode cX5_turnWinding 5 = .ok (.aload_n 0, 1) := by decide +kernel
theorem dX5_turnWinding_6 : decode cX5_turnWinding 6 = .ok (.invokevirtual 99, 3) := by decide +kernel
theorem dX5_turnWinding_9 : decode cX5_turnWinding 9 = .ok (.aload_n 0, 1) := by decide +kernel
theorem dX5_turnWinding_10 : decode cX5_turnWinding 10 = .ok (.getfield 7, 3) := by decide +kernel
theorem dX5_turnWinding_13 : decode cX5_turnWinding 13 = .ok (.bipush 66, 2) := by decide +kernel
theorem dX5_turnWinding_15 : decode cX5_turnWinding 15 = .ok (.iconst 1, 1) := by decide +kernel
theorem dX5_turnWinding_16 : decode cX5_turnWinding 16 = .ok (.aload_n 0, 1) := by decide +kernel
theorem dX5_turnWinding_17 : decode cX5_turnWinding 17 = .ok (.getfield 7, 3) := by decide +kernel
theorem dX5_turnWinding_20 : decode cX5_turnWinding 20 = .ok (.bipush 66, 2) := by decide +kernel
theorem dX5_turnWinding_22 : decode cX5_turnWinding 22 = .ok (.iaload, 1) := by decide +kernel
theorem dX5_turnWinding_23 : decode cX5_turnWinding 23 = .ok (.isub, 1) := by decide +kernel
theorem dX5_turnWinding_24 : decode cX5_turnWinding 24 = .ok (.iastore, 1) := by decide +kernel
theorem dX5_turnWinding_25 : decode cX5_turnWinding 25 = .ok (.aload_n 0, 1) := by decide +kernel
theorem dX5_turnWinding_26 : decode cX5_turnWinding 26 = .ok (.getfield 7, 3) := by decide +kernel
theorem dX5_turnWinding_29 : decode cX5_turnWinding 29 = .ok (.bipush 66, 2) := by decide +kernel
theorem dX5_turnWinding_31 : decode cX5_turnWinding 31 = .ok (.iaload, 1) := by decide +kernel
theorem dX5_turnWinding_32 : decode cX5_turnWinding 32 = .ok (.iconst 1, 1) := by decide +kernel
theorem dX5_turnWinding_33 : decode cX5_turnWinding 33 = .ok (.if_icmp .ne 7, 3) := by decide +kernel
theorem dX5_turnWinding_36 : decode cX5_turnWinding 36 = .ok (.iconst 1, 1) := by decide +kernel
theorem dX5_turnWinding_37 : decode cX5_turnWinding 37 = .ok (.goto 4, 3) := by decide +kernel
theorem dX5_turnWinding_40 : decode cX5_turnWinding 40 = .ok (.iconst 0, 1) := by decide +kernel
theorem dX5_turnWinding_41 : decode cX5_turnWinding 41 = .ok (.ireturn, 1) := by decide +kernel
set_option maxRecDepth 20000 in
theorem ggX5_greyOf_X5_isCell : GoodIn wsX5_greyOf wsX5_isCell := goodIn_r _ [6, 7, 8, 9, 5, 10, 11, 12, 13, 14, 15, 16, 17, 18, 19, 20, 21, 22, 23, 24] (by decide +kernel) (by decide +kernel)
set_option maxRecDepth 20000 in
theorem gX5_greyOf_X5_isCell : GoodIn wsX5_greyOf (wsV RX5 90 RX5 yX5_isCell wsX5_isCell) := goodIn_app (goodIn_of _ (by decide +kernel)) ggX5_greyOf_X5_isCell
theorem dX5_greyOf_0 : decode cX5_greyOf 0 = .ok (.aload_n 0, 1) := by decide +kernel
theorem dX5_greyOf_1 : decode cX5_greyOf 1 = .ok (.iload_n 1, 1) := by decide +kernel
theorem dX5_greyOf_2 : decode cX5_greyOf 2 = .ok (.invokevirtual 90, 3) := by decide +kernel
theorem dX5_greyOf_5 : decode cX5_greyOf 5 = .ok (.ifCond .eq 12, 3) := by decide +kernel
theorem dX5_greyOf_8 : decode cX5_greyOf 8 = .ok (.aload_n 0, 1) := by decide +kernel
theorem dX5_greyOf_9 : decode cX5_greyOf 9 = .ok (.getfield 7, 3) := by decide +kernel
theorem dX5_greyOf_12 : decode cX5_greyOf 12 = .ok (.iload_n 1, 1) := by decide +kernel
theorem dX5_greyOf_13 : decode cX5_greyOf 13 = .ok (.iaload, 1) := by decide +kernel
theorem dX5_greyOf_14 : decode cX5_greyOf 14 = .ok (.goto 4, 3) := by decide +kernel
theorem dX5_greyOf_17 : decode cX5_greyOf 17 = .ok (.iconst 0, 1) := by decide +kernel
theorem dX5_greyOf_18 : decode cX5_greyOf 18 = .ok (.ireturn, 1) := by decide +kernel
set_option maxRecDepth 20000 in
theorem ggX5_greySum_X5_sum : GoodIn wsX5_greySum wsX5_sum := goodIn_r _ [6, 7, 8, 9, 10, 11, 12, 13, 14, 15, 16, 17, 18, 19, 20, 21] (by decide +kernel) (by decide +kernel)
set_option maxRecDepth 20000 in
theorem gX5_greySum_X5_sum : GoodIn wsX5_greySum (wsV RX5 102 RX5 yX5_sum wsX5_sum) := goodIn_app (goodIn_of _ (by decide +kernel)) ggX5_greySum_X5_sum
theorem dX5_greySum_0 : decode cX5_greySum 0 = .ok (.aload_n 0, 1) := by decide +kernel
theorem dX5_greySum_1 : decode cX5_greySum 1 = .ok (.iconst 0, 1) := by decide +kernel
theorem dX5_greySum_2 : decode cX5_greySum 2 = .ok (.putfield 34, 3) := by decide +kernel
theorem dX5_greySum_5 : decode cX5_greySum 5 = .ok (.aload_n 0, 1) := by decide +kernel
theorem dX5_greySum_6 : decode cX5_greySum 6 = .ok (.invokevirtual 102, 3) := by decide +kernel
theorem dX5_greySum_9 : decode cX5_greySum 9 = .ok (.ireturn, 1) := by decide +kernel
set_option maxRecDepth 20000 in
theorem ggX5_cellAt_X5_isCell : GoodIn wsX5_cellAt wsX5_isCell := goodIn_r _ [5, 6, 7, 8, 4, 9, 19, 20, 21, 22, 23, 24, 25, 26, 27, 28, 29, 30, 31, 32] (by decide +kernel) (by decide +kernel)
set_option maxRecDepth 20000 in
theorem gX5_cellAt_X5_isCell : GoodIn wsX5_cellAt (wsV RX5 90 RX5 yX5_isCell wsX5_isCell) := goodIn_app (goodIn_of _ (by decide +kernel)) ggX5_cellAt_X5_isCell
set_option maxRecDepth 20000 in
theorem ggX5_cellAt_X5_painted : GoodIn wsX5_cellAt wsX5_painted := goodIn_r _ [13, 14, 15, 16, 4, 17, 18, 19, 20, 21, 22, 23, 24, 25, 26, 27, 28, 29, 30, 31, 32] (by decide +kernel) (by decide +kernel)
set_option maxRecDepth 20000 in
theorem gX5_cellAt_X5_painted : GoodIn wsX5_cellAt (wsV RX5 69 RX5 yX5_painted wsX5_painted) := goodIn_app (goodIn_of _ (by decide +kernel)) ggX5_cellAt_X5_painted
theorem dX5_cellAt_0 : decode cX5_cellAt 0 = .ok (.aload_n 0, 1) := by decide +kernel
theorem dX5_cellAt_1 : decode cX5_cellAt 1 = .ok (.iload_n 1, 1) := by decide +kernel
theorem dX5_cellAt_2 : decode cX5_cellAt 2 = .ok (.invokevirtual 90, 3) := by decide +kernel
theorem dX5_cellAt_5 : decode cX5_cellAt 5 = .ok (.ifCond .eq 11, 3) := by decide +kernel
theorem dX5_cellAt_8 : decode cX5_cellAt 8 = .ok (.aload_n 0, 1) := by decide +kernel
theorem dX5_cellAt_9 : decode cX5_cellAt 9 = .ok (.iload_n 1, 1) := by decide +kernel
theorem dX5_cellAt_10 : decode cX5_cellAt 10 = .ok (.invokevirtual 69, 3) := by decide +kernel
theorem dX5_cellAt_13 : decode cX5_cellAt 13 = .ok (.goto 4, 3) := by decide +kernel
theorem dX5_cellAt_16 : decode cX5_cellAt 16 = .ok (.iconst 0, 1) := by decide +kernel
theorem dX5_cellAt_17 : decode cX5_cellAt 17 = .ok (.ireturn, 1) := by decide +kernel
set_option maxRecDepth 20000 in
theorem ggX5_mask_X5_paintsNow : GoodIn wsX5_mask wsX5_paintsNow := goodIn_r _ [6, 7, 8, 9, 10, 5, 11, 12, 13, 14, 15, 16, 17, 18, 19, 20, 21, 22, 23, 24, 25, 26, 27, 28, 29, 30, 31, 32, 33, 34, 35, 36, 37, 38, 39, 40, 41, 42, 43, 44, 49, 50, 51, 52, 53, 54, 55, 56, 57, 58, 59, 60, 61, 62] (by decide +kernel) (by decide +kernel)
set_option maxRecDepth 20000 in
theorem gX5_mask_X5_paintsNow : GoodIn wsX5_mask (wsV RX5 112 RX5 yX5_paintsNow wsX5_paintsNow) := goodIn_app (goodIn_of _ (by decide +kernel)) ggX5_mask_X5_paintsNow
set_option maxRecDepth 20000 in
theorem ggX5_mask_X5_flake : GoodIn wsX5_mask wsX5_flake := goodIn_r _ [48, 14, 13, 49, 50, 51, 52, 53, 54, 55, 56, 57, 58, 59, 60, 61, 62] (by decide +kernel) (by decide +kernel)
set_option maxRecDepth 20000 in
theorem gX5_mask_X5_flake : GoodIn wsX5_mask (wsV RX5 83 RX5 yX5_flake wsX5_flake) := goodIn_app (goodIn_of _ (by decide +kernel)) ggX5_mask_X5_flake
theorem dX5_mask_0 : decode cX5_mask 0 = .ok (.aload_n 0, 1) := by decide +kernel
theorem dX5_mask_1 : decode cX5_mask 1 = .ok (.iconst 0, 1) := by decide +kernel
theorem dX5_mask_2 : decode cX5_mask 2 = .ok (.putfield 34, 3) := by decide +kernel
theorem dX5_mask_5 : decode cX5_mask 5 = .ok (.aload_n 0, 1) := by decide +kernel
theorem dX5_mask_6 : decode cX5_mask 6 = .ok (.invokevirtual 112, 3) := by decide +kernel
theorem dX5_mask_9 : decode cX5_mask 9 = .ok (.lconst 0, 1) := by decide +kernel
theorem dX5_mask_10 : decode cX5_mask 10 = .ok (.lstore_n 1, 1) := by decide +kernel
theorem dX5_mask_11 : decode cX5_mask 11 = .ok (.iconst 0, 1) := by decide +kernel
theorem dX5_mask_12 : decode cX5_mask 12 = .ok (.istore_n 3, 1) := by decide +kernel
theorem dX5_mask_13 : decode cX5_mask 13 = .ok (.iload_n 3, 1) := by decide +kernel
theorem dX5_mask_14 : decode cX5_mask 14 = .ok (.bipush 64, 2) := by decide +kernel
theorem dX5_mask_16 : decode cX5_mask 16 = .ok (.if_icmp .ge 27, 3) := by decide +kernel
theorem dX5_mask_19 : decode cX5_mask 19 = .ok (.lload_n 1, 1) := by decide +kernel
theorem dX5_mask_20 : decode cX5_mask 20 = .ok (.aload_n 0, 1) := by decide +kernel
theorem dX5_mask_21 : decode cX5_mask 21 = .ok (.iload_n 3, 1) := by decide +kernel
theorem dX5_mask_22 : decode cX5_mask 22 = .ok (.invokevirtual 83, 3) := by decide +kernel
theorem dX5_mask_25 : decode cX5_mask 25 = .ok (.ifCond .eq 9, 3) := by decide +kernel
theorem dX5_mask_28 : decode cX5_mask 28 = .ok (.lconst 1, 1) := by decide +kernel
theorem dX5_mask_29 : decode cX5_mask 29 = .ok (.iload_n 3, 1) := by decide +kernel
theorem dX5_mask_30 : decode cX5_mask 30 = .ok (.lshl, 1) := by decide +kernel
theorem dX5_mask_31 : decode cX5_mask 31 = .ok (.goto 4, 3) := by decide +kernel
theorem dX5_mask_34 : decode cX5_mask 34 = .ok (.lconst 0, 1) := by decide +kernel
theorem dX5_mask_35 : decode cX5_mask 35 = .ok (.lor, 1) := by decide +kernel
theorem dX5_mask_36 : decode cX5_mask 36 = .ok (.lstore_n 1, 1) := by decide +kernel
theorem dX5_mask_37 : decode cX5_mask 37 = .ok (.iinc 3 1, 3) := by decide +kernel
theorem dX5_mask_40 : decode cX5_mask 40 = .ok (.goto (-27), 3) := by decide +kernel
theorem dX5_mask_43 : decode cX5_mask 43 = .ok (.lload_n 1, 1) := by decide +kernel
theorem dX5_mask_44 : decode cX5_mask 44 = .ok (.lreturn, 1) := by decide +kernel
set_option maxRecDepth 20000 in
theorem ggX5_flakes_X5_mask : GoodIn wsX5_flakes wsX5_mask := goodIn_r _ [5, 6, 7, 8, 9, 4, 10, 11, 12, 13, 14, 15, 16, 17, 18, 19, 20, 21, 22, 23, 24, 25, 26, 27, 28, 29, 30, 31, 32, 33, 34, 35, 36, 37, 38, 39, 40, 41, 42, 43, 44, 45, 46, 47, 48, 49, 50, 51, 52, 53, 54, 55, 56, 57, 58, 59, 60, 61, 62, 63, 64, 65, 66] (by decide +kernel) (by decide +kernel)
set_option maxRecDepth 20000 in
theorem gX5_flakes_X5_mask : GoodIn wsX5_flakes (wsV RX5 115 RX5 yX5_mask wsX5_mask) := goodIn_app (goodIn_of _ (by decide +kernel)) ggX5_flakes_X5_mask
theorem dX5_flakes_0 : decode cX5_flakes 0 = .ok (.aload_n 0, 1) := by decide +kernel
theorem dX5_flakes_1 : decode cX5_flakes 1 = .ok (.invokevirtual 115, 3) := by decide +kernel
theorem dX5_flakes_4 : decode cX5_flakes 4 = .ok (.lreturn, 1) := by decide +kernel
set_option maxRecDepth 20000 in
theorem ggX5_flakesByCollecting_X5_mask : GoodIn wsX5_flakesByCollecting wsX5_mask := goodIn_r _ [5, 6, 7, 8, 9, 4, 10, 11, 12, 13, 14, 15, 16, 17, 18, 19, 20, 21, 22, 23, 24, 25, 26, 27, 28, 29, 30, 31, 32, 33, 34, 35, 36, 37, 38, 39, 40, 41, 42, 43, 44, 45, 46, 47, 48, 49, 50, 51, 52, 53, 54, 55, 56, 57, 58, 59, 60, 61, 62, 63, 64, 65, 66] (by decide +kernel) (by decide +kernel)
set_option maxRecDepth 20000 in
theorem gX5_flakesByCollecting_X5_mask : GoodIn wsX5_flakesByCollecting (wsV RX5 115 RX5 yX5_mask wsX5_mask) := goodIn_app (goodIn_of _ (by decide +kernel)) ggX5_flakesByCollecting_X5_mask
theorem dX5_flakesByCollecting_0 : decode cX5_flakesByCollecting 0 = .ok (.aload_n 0, 1) := by decide +kernel
theorem dX5_flakesByCollecting_1 : decode cX5_flakesByCollecting 1 = .ok (.invokevirtual 115, 3) := by decide +kernel
theorem dX5_flakesByCollecting_4 : decode cX5_flakesByCollecting 4 = .ok (.lreturn, 1) := by decide +kernel
set_option maxRecDepth 20000 in
theorem ggX5_flakeCount_X5_paintsNow : GoodIn wsX5_flakeCount wsX5_paintsNow := goodIn_r _ [6, 7, 8, 9, 10, 5, 11, 12, 13, 14, 15, 16, 17, 18, 19, 20, 21, 22, 23, 24, 25, 26, 27, 28, 29, 30, 31, 32, 33, 34, 35, 36, 37, 38, 39, 40, 41, 42, 43, 44, 53, 54, 55, 56, 57, 58, 59, 60, 61, 62, 63, 64, 65, 66] (by decide +kernel) (by decide +kernel)
set_option maxRecDepth 20000 in
theorem gX5_flakeCount_X5_paintsNow : GoodIn wsX5_flakeCount (wsV RX5 112 RX5 yX5_paintsNow wsX5_paintsNow) := goodIn_app (goodIn_of _ (by decide +kernel)) ggX5_flakeCount_X5_paintsNow
set_option maxRecDepth 20000 in
theorem ggX5_flakeCount_X5_many : GoodIn wsX5_flakeCount wsX5_many := goodIn_r _ [48, 49, 50, 51, 5, 52, 14, 13, 53, 54, 55, 56, 57, 58, 59, 60, 61, 62, 63, 64, 65, 66] (by decide +kernel) (by decide +kernel)
set_option maxRecDepth 20000 in
theorem gX5_flakeCount_X5_many : GoodIn wsX5_flakeCount (wsV RX5 119 RX5 yX5_many wsX5_many) := goodIn_app (goodIn_of _ (by decide +kernel)) ggX5_flakeCount_X5_many
theorem dX5_flakeCount_0 : decode cX5_flakeCount 0 = .ok (.aload_n 0, 1) := by decide +kernel
theorem dX5_flakeCount_1 : decode cX5_flakeCount 1 = .ok (.iconst 0, 1) := by decide +kernel
theorem dX5_flakeCount_2 : decode cX5_flakeCount 2 = .ok (.putfield 34, 3) := by decide +kernel
theorem dX5_flakeCount_5 : decode cX5_flakeCount 5 = .ok (.aload_n 0, 1) := by decide +kernel
theorem dX5_flakeCount_6 : decode cX5_flakeCount 6 = .ok (.invokevirtual 112, 3) := by decide +kernel
theorem dX5_flakeCount_9 : decode cX5_flakeCount 9 = .ok (.aload_n 0, 1) := by decide +kernel
theorem dX5_flakeCount_10 : decode cX5_flakeCount 10 = .ok (.invokevirtual 119, 3) := by decide +kernel
theorem dX5_flakeCount_13 : decode cX5_flakeCount 13 = .ok (.ireturn, 1) := by decide +kernel
set_option maxRecDepth 20000 in
theorem ggX5_valueOf_X5_paintsNow : GoodIn wsX5_valueOf wsX5_paintsNow := goodIn_r _ [6, 7, 8, 9, 10, 5, 11, 12, 1, 13, 14, 15, 16, 17, 18, 19, 20, 21, 22, 23, 24, 25, 26, 27, 28, 29, 30, 31, 32, 33, 34, 35, 36, 37, 38, 39, 40, 41, 42, 43, 49, 50, 51, 52, 53, 54, 55, 56, 57, 58, 59, 60, 61, 62] (by decide +kernel) (by decide +kernel)
set_option maxRecDepth 20000 in
theorem gX5_valueOf_X5_paintsNow : GoodIn wsX5_valueOf (wsV RX5 112 RX5 yX5_paintsNow wsX5_paintsNow) := goodIn_app (goodIn_of _ (by decide +kernel)) ggX5_valueOf_X5_paintsNow
set_option maxRecDepth 20000 in
theorem ggX5_valueOf_X5_isCell : GoodIn wsX5_valueOf wsX5_isCell := goodIn_r _ [47, 48, 35, 36, 5, 37, 49, 50, 51, 52, 53, 54, 55, 56, 57, 58, 59, 60, 61, 62] (by decide +kernel) (by decide +kernel)
set_option maxRecDepth 20000 in
theorem gX5_valueOf_X5_isCell : GoodIn wsX5_valueOf (wsV RX5 90 RX5 yX5_isCell wsX5_isCell) := goodIn_app (goodIn_of _ (by decide +kernel)) ggX5_valueOf_X5_isCell
theorem dX5_valueOf_0 : decode cX5_valueOf 0 = .ok (.aload_n 0, 1) := by decide +kernel
theorem dX5_valueOf_1 : decode cX5_valueOf 1 = .ok (.invokevirtual 112, 3) := by decide +kernel
theorem dX5_valueOf_4 : decode cX5_valueOf 4 = .ok (.aload_n 0, 1) := by decide +kernel
theorem dX5_valueOf_5 : decode cX5_valueOf 5 = .ok (.iload_n 1, 1) := by decide +kernel
theorem dX5_valueOf_6 : decode cX5_valueOf 6 = .ok (.invokevirtual 90, 3) := by decide +kernel
theorem dX5_valueOf_9 : decode cX5_valueOf 9 = .ok (.ifCond .eq 12, 3) := by decide +kernel
theorem dX5_valueOf_12 : decode cX5_valueOf 12 = .ok (.aload_n 0, 1) := by decide +kernel
theorem dX5_valueOf_13 : decode cX5_valueOf 13 = .ok (.getfield 28, 3) := by decide +kernel
theorem dX5_valueOf_16 : decode cX5_valueOf 16 = .ok (.iload_n 1, 1) := by decide +kernel
theorem dX5_valueOf_17 : decode cX5_valueOf 17 = .ok (.iaload, 1) := by decide +kernel
theorem dX5_valueOf_18 : decode cX5_valueOf 18 = .ok (.goto 4, 3) := by decide +kernel
theorem dX5_valueOf_21 : decode cX5_valueOf 21 = .ok (.iconst 0, 1) := by decide +kernel
theorem dX5_valueOf_22 : decode cX5_valueOf 22 = .ok (.ireturn, 1) := by decide +kernel
set_option maxRecDepth 20000 in
theorem ggX5_errorOf_X5_paintsNow : GoodIn wsX5_errorOf wsX5_paintsNow := goodIn_r _ [6, 7, 8, 9, 10, 5, 11, 12, 13, 1, 14, 15, 16, 17, 18, 19, 20, 21, 22, 23, 24, 25, 26, 27, 28, 29, 30, 31, 32, 33, 34, 35, 36, 37, 38, 39, 40, 41, 42, 43, 49, 50, 51, 52, 53, 54, 55, 56, 57, 58, 59, 60, 61, 62] (by decide +kernel) (by decide +kernel)
set_option maxRecDepth 20000 in
theorem gX5_errorOf_X5_paintsNow : GoodIn wsX5_errorOf (wsV RX5 112 RX5 yX5_paintsNow wsX5_paintsNow) := goodIn_app (goodIn_of _ (by decide +kernel)) ggX5_errorOf_X5_paintsNow
set_option maxRecDepth 20000 in
theorem ggX5_errorOf_X5_isCell : GoodIn wsX5_errorOf wsX5_isCell := goodIn_r _ [47, 48, 35, 36, 5, 37, 49, 50, 51, 52, 53, 54, 55, 56, 57, 58, 59, 60, 61, 62] (by decide +kernel) (by decide +kernel)
set_option maxRecDepth 20000 in
theorem gX5_errorOf_X5_isCell : GoodIn wsX5_errorOf (wsV RX5 90 RX5 yX5_isCell wsX5_isCell) := goodIn_app (goodIn_of _ (by decide +kernel)) ggX5_errorOf_X5_isCell
theorem dX5_errorOf_0 : decode cX5_errorOf 0 = .ok (.aload_n 0, 1) := by decide +kernel
theorem dX5_errorOf_1 : decode cX5_errorOf 1 = .ok (.invokevirtual 112, 3) := by decide +kernel
theorem dX5_errorOf_4 : decode cX5_errorOf 4 = .ok (.aload_n 0, 1) := by decide +kernel
theorem dX5_errorOf_5 : decode cX5_errorOf 5 = .ok (.iload_n 1, 1) := by decide +kernel
theorem dX5_errorOf_6 : decode cX5_errorOf 6 = .ok (.invokevirtual 90, 3) := by decide +kernel
theorem dX5_errorOf_9 : decode cX5_errorOf 9 = .ok (.ifCond .eq 12, 3) := by decide +kernel
theorem dX5_errorOf_12 : decode cX5_errorOf 12 = .ok (.aload_n 0, 1) := by decide +kernel
theorem dX5_errorOf_13 : decode cX5_errorOf 13 = .ok (.getfield 31, 3) := by decide +kernel
theorem dX5_errorOf_16 : decode cX5_errorOf 16 = .ok (.iload_n 1, 1) := by decide +kernel
theorem dX5_errorOf_17 : decode cX5_errorOf 17 = .ok (.iaload, 1) := by decide +kernel
theorem dX5_errorOf_18 : decode cX5_errorOf 18 = .ok (.goto 4, 3) := by decide +kernel
theorem dX5_errorOf_21 : decode cX5_errorOf 21 = .ok (.iconst 0, 1) := by decide +kernel
theorem dX5_errorOf_22 : decode cX5_errorOf 22 = .ok (.ireturn, 1) := by decide +kernel
set_option maxRecDepth 20000 in
theorem ggX5_lost_X5_paintsNow : GoodIn wsX5_lost wsX5_paintsNow := goodIn_r _ [7, 8, 9, 10, 11, 6, 12, 2, 13, 14, 15, 16, 17, 18, 19, 20, 21, 22, 23, 24, 25, 26, 27, 28, 29, 30, 31, 32, 33, 34, 35, 36, 37, 38, 39, 40, 41, 42, 43, 44, 45, 46, 47, 48, 49, 50, 51, 52, 53, 54, 55, 56, 57, 58] (by decide +kernel) (by decide +kernel)
set_option maxRecDepth 20000 in
theorem gX5_lost_X5_paintsNow : GoodIn wsX5_lost (wsV RX5 112 RX5 yX5_paintsNow wsX5_paintsNow) := goodIn_app (goodIn_of _ (by decide +kernel)) ggX5_lost_X5_paintsNow
theorem dX5_lost_0 : decode cX5_lost 0 = .ok (.aload_n 0, 1) := by decide +kernel
theorem dX5_lost_1 : decode cX5_lost 1 = .ok (.iconst 0, 1) := by decide +kernel
theorem dX5_lost_2 : decode cX5_lost 2 = .ok (.putfield 34, 3) := by decide +kernel
theorem dX5_lost_5 : decode cX5_lost 5 = .ok (.aload_n 0, 1) := by decide +kernel
theorem dX5_lost_6 : decode cX5_lost 6 = .ok (.invokevirtual 112, 3) := by decide +kernel
theorem dX5_lost_9 : decode cX5_lost 9 = .ok (.aload_n 0, 1) := by decide +kernel
theorem dX5_lost_10 : decode cX5_lost 10 = .ok (.getfield 66, 3) := by decide +kernel
theorem dX5_lost_13 : decode cX5_lost 13 = .ok (.ireturn, 1) := by decide +kernel
set_option maxRecDepth 20000 in
theorem ggX5_handedOn_X5_isCell : GoodIn wsX5_handedOn wsX5_isCell := goodIn_r _ [7, 8, 9, 10, 6, 11, 49, 50, 51, 52, 53, 54, 55, 56, 57, 58, 59, 60, 61, 62] (by decide +kernel) (by decide +kernel)
set_option maxRecDepth 20000 in
theorem gX5_handedOn_X5_isCell : GoodIn wsX5_handedOn (wsV RX5 90 RX5 yX5_isCell wsX5_isCell) := goodIn_app (goodIn_of _ (by decide +kernel)) ggX5_handedOn_X5_isCell
set_option maxRecDepth 20000 in
theorem ggX5_handedOn_X5_paintsNow : GoodIn wsX5_handedOn wsX5_paintsNow := goodIn_r _ [15, 1, 16, 17, 18, 6, 19, 20, 21, 2, 22, 23, 24, 25, 26, 27, 28, 29, 30, 31, 32, 33, 34, 35, 36, 37, 38, 39, 40, 41, 42, 9, 10, 11, 43, 44, 45, 46, 47, 48, 49, 50, 51, 52, 53, 54, 55, 56, 57, 58, 59, 60, 61, 62] (by decide +kernel) (by decide +kernel)
set_option maxRecDepth 20000 in
theorem gX5_handedOn_X5_paintsNow : GoodIn wsX5_handedOn (wsV RX5 112 RX5 yX5_paintsNow wsX5_paintsNow) := goodIn_app (goodIn_of _ (by decide +kernel)) ggX5_handedOn_X5_paintsNow
set_option maxRecDepth 20000 in
theorem ggX5_handedOn_X5_neighbours : GoodIn wsX5_handedOn wsX5_neighbours := goodIn_r _ [32] (by decide +kernel) (by decide +kernel)
set_option maxRecDepth 20000 in
theorem gX5_handedOn_X5_neighbours : GoodIn wsX5_handedOn (va_wsS RX5 49 yX5_neighbours wsX5_neighbours) := goodIn_app (goodIn_of _ (by decide +kernel)) ggX5_handedOn_X5_neighbours
set_option maxRecDepth 20000 in
theorem ggX5_handedOn_X5_neighbour : GoodIn wsX5_handedOn wsX5_neighbour := goodIn_r _ [36, 37, 38, 6, 39, 30, 31, 32, 26, 27, 28, 29, 1, 40, 41, 42, 9, 10, 11, 49, 50, 51, 52, 53, 54, 55, 56, 57, 58, 59, 60, 61, 62] (by decide +kernel) (by decide +kernel)
set_option maxRecDepth 20000 in
theorem gX5_handedOn_X5_neighbour : GoodIn wsX5_handedOn (wsV RX5 72 RX5 yX5_neighbour wsX5_neighbour) := goodIn_app (goodIn_of _ (by decide +kernel)) ggX5_handedOn_X5_neighbour
set_option maxRecDepth 20000 in
theorem ggX5_handedOn_X5_part : GoodIn wsX5_handedOn wsX5_part := goodIn_r _ [45, 30, 31, 6, 32, 46, 47, 48] (by decide +kernel) (by decide +kernel)
set_option maxRecDepth 20000 in
theorem gX5_handedOn_X5_part : GoodIn wsX5_handedOn (va_wsS RX5 76 yX5_part wsX5_part) := goodIn_app (goodIn_of _ (by decide +kernel)) ggX5_handedOn_X5_part
theorem dX5_handedOn_0 : decode cX5_handedOn 0 = .ok (.aload_n 0, 1) := by decide +kernel
theorem dX5_handedOn_1 : decode cX5_handedOn 1 = .ok (.iload_n 1, 1) := by decide +kernel
theorem dX5_handedOn_2 : decode cX5_handedOn 2 = .ok (.invokevirtual 90, 3) := by decide +kernel
theorem dX5_handedOn_5 : decode cX5_handedOn 5 = .ok (.ifCond .eq 11, 3) := by decide +kernel
theorem dX5_handedOn_8 : decode cX5_handedOn 8 = .ok (.aload_n 0, 1) := by decide +kernel
theorem dX5_handedOn_9 : decode cX5_handedOn 9 = .ok (.iload_n 2, 1) := by decide +kernel
theorem dX5_handedOn_10 : decode cX5_handedOn 10 = .ok (.invokevirtual 90, 3) := by decide +kernel
theorem dX5_handedOn_13 : decode cX5_handedOn 13 = .ok (.ifCond .ne 5, 3) := by decide +kernel
theorem dX5_handedOn_16 : decode cX5_handedOn 16 = .ok (.iconst 0, 1) := by decide +kernel
theorem dX5_handedOn_17 : decode cX5_handedOn 17 = .ok (.ireturn, 1) := by decide +kernel
theorem dX5_handedOn_18 : decode cX5_handedOn 18 = .ok (.aload_n 0, 1) := by decide +kernel
theorem dX5_handedOn_19 : decode cX5_handedOn 19 = .ok (.invokevirtual 112, 3) := by decide +kernel
theorem dX5_handedOn_22 : decode cX5_handedOn 22 = .ok (.iconst 0, 1) := by decide +kernel
theorem dX5_handedOn_23 : decode cX5_handedOn 23 = .ok (.istore_n 3, 1) := by decide +kernel
theorem dX5_handedOn_24 : decode cX5_handedOn 24 = .ok (.iconst 0, 1) := by decide +kernel
theorem dX5_handedOn_25 : decode cX5_handedOn 25 = .ok (.istore 4, 2) := by decide +kernel
theorem dX5_handedOn_27 : decode cX5_handedOn 27 = .ok (.iload 4, 2) := by decide +kernel
theorem dX5_handedOn_29 : decode cX5_handedOn 29 = .ok (.aload_n 0, 1) := by decide +kernel
theorem dX5_handedOn_30 : decode cX5_handedOn 30 = .ok (.getfield 7, 3) := by decide +kernel
theorem dX5_handedOn_33 : decode cX5_handedOn 33 = .ok (.bipush 64, 2) := by decide +kernel
theorem dX5_handedOn_35 : decode cX5_handedOn 35 = .ok (.iaload, 1) := by decide +kernel
theorem dX5_handedOn_36 : decode cX5_handedOn 36 = .ok (.invokestatic 49, 3) := by decide +kernel
theorem dX5_handedOn_39 : decode cX5_handedOn 39 = .ok (.if_icmp .ge 52, 3) := by decide +kernel
theorem dX5_handedOn_42 : decode cX5_handedOn 42 = .ok (.iload_n 3, 1) := by decide +kernel
theorem dX5_handedOn_43 : decode cX5_handedOn 43 = .ok (.aload_n 0, 1) := by decide +kernel
theorem dX5_handedOn_44 : decode cX5_handedOn 44 = .ok (.aload_n 0, 1) := by decide +kernel
theorem dX5_handedOn_45 : decode cX5_handedOn 45 = .ok (.getfield 7, 3) := by decide +kernel
theorem dX5_handedOn_48 : decode cX5_handedOn 48 = .ok (.bipush 64, 2) := by decide +kernel
theorem dX5_handedOn_50 : decode cX5_handedOn 50 = .ok (.iaload, 1) := by decide +kernel
theorem dX5_handedOn_51 : decode cX5_handedOn 51 = .ok (.iload 4, 2) := by decide +kernel
theorem dX5_handedOn_53 : decode cX5_handedOn 53 = .ok (.iload_n 1, 1) := by decide +kernel
theorem dX5_handedOn_54 : decode cX5_handedOn 54 = .ok (.invokevirtual 72, 3) := by decide +kernel
theorem dX5_handedOn_57 : decode cX5_handedOn 57 = .ok (.iload_n 2, 1) := by decide +kernel
theorem dX5_handedOn_58 : decode cX5_handedOn 58 = .ok (.if_icmp .ne 24, 3) := by decide +kernel
theorem dX5_handedOn_61 : decode cX5_handedOn 61 = .ok (.aload_n 0, 1) := by decide +kernel
theorem dX5_handedOn_62 : decode cX5_handedOn 62 = .ok (.getfield 7, 3) := by decide +kernel
theorem dX5_handedOn_65 : decode cX5_handedOn 65 = .ok (.bipush 64, 2) := by decide +kernel
theorem dX5_handedOn_67 : decode cX5_handedOn 67 = .ok (.iaload, 1) := by decide +kernel
theorem dX5_handedOn_68 : decode cX5_handedOn 68 = .ok (.iload 4, 2) := by decide +kernel
theorem dX5_handedOn_70 : decode cX5_handedOn 70 = .ok (.aload_n 0, 1) := by decide +kernel
theorem dX5_handedOn_71 : decode cX5_handedOn 71 = .ok (.getfield 31, 3) := by decide +kernel
theorem dX5_handedOn_74 : decode cX5_handedOn 74 = .ok (.iload_n 1, 1) := by decide +kernel
theorem dX5_handedOn_75 : decode cX5_handedOn 75 = .ok (.iaload, 1) := by decide +kernel
theorem dX5_handedOn_76 : decode cX5_handedOn 76 = .ok (.invokestatic 76, 3) := by decide +kernel
theorem dX5_handedOn_79 : decode cX5_handedOn 79 = .ok (.goto 4, 3) := by decide +kernel
theorem dX5_handedOn_82 : decode cX5_handedOn 82 = .ok (.iconst 0, 1) := by decide +kernel
theorem dX5_handedOn_83 : decode cX5_handedOn 83 = .ok (.iadd, 1) := by decide +kernel
theorem dX5_handedOn_84 : decode cX5_handedOn 84 = .ok (.istore_n 3, 1) := by decide +kernel
theorem dX5_handedOn_85 : decode cX5_handedOn 85 = .ok (.iinc 4 1, 3) := by decide +kernel
theorem dX5_handedOn_88 : decode cX5_handedOn 88 = .ok (.goto (-61), 3) := by decide +kernel
theorem dX5_handedOn_91 : decode cX5_handedOn 91 = .ok (.iload_n 3, 1) := by decide +kernel
theorem dX5_handedOn_92 : decode cX5_handedOn 92 = .ok (.ireturn, 1) := by decide +kernel
set_option maxRecDepth 20000 in
theorem ggX5_squareError_X5_in : GoodIn wsX5_squareError wsX5_in := goodIn_r _ [5] (by decide +kernel) (by decide +kernel)
set_option maxRecDepth 20000 in
theorem gX5_squareError_X5_in : GoodIn wsX5_squareError (va_wsS RX5 38 yX5_in wsX5_in) := goodIn_app (goodIn_of _ (by decide +kernel)) ggX5_squareError_X5_in
set_option maxRecDepth 20000 in
theorem ggX5_squareError_X5_paintsNow : GoodIn wsX5_squareError wsX5_paintsNow := goodIn_r _ [9, 10, 11, 12, 13, 4, 14, 15, 16, 17, 18, 19, 20, 21, 22, 23, 24, 25, 26, 27, 28, 29, 30, 31, 32, 33, 34, 35, 36, 37, 38, 2, 3, 5, 39, 40, 41, 42, 43, 44, 53, 54, 55, 56, 57, 58, 59, 60, 61, 62, 63, 64, 65, 66] (by decide +kernel) (by decide +kernel)
set_option maxRecDepth 20000 in
theorem gX5_squareError_X5_paintsNow : GoodIn wsX5_squareError (wsV RX5 112 RX5 yX5_paintsNow wsX5_paintsNow) := goodIn_app (goodIn_of _ (by decide +kernel)) ggX5_squareError_X5_paintsNow
set_option maxRecDepth 20000 in
theorem ggX5_squareError_X5_off : GoodIn wsX5_squareError wsX5_off := goodIn_r _ [48, 10, 49, 50, 51, 4, 52, 17, 16, 53, 54, 55, 56, 57, 58, 59, 60, 61, 62, 63, 64, 65, 66] (by decide +kernel) (by decide +kernel)
set_option maxRecDepth 20000 in
theorem gX5_squareError_X5_off : GoodIn wsX5_squareError (wsV RX5 87 RX5 yX5_off wsX5_off) := goodIn_app (goodIn_of _ (by decide +kernel)) ggX5_squareError_X5_off
theorem dX5_squareError_0 : decode cX5_squareError 0 = .ok (.aload_n 0, 1) := by decide +kernel
theorem dX5_squareError_1 : decode cX5_squareError 1 = .ok (.iload_n 1, 1) := by decide +kernel
theorem dX5_squareError_2 : decode cX5_squareError 2 = .ok (.iconst 0, 1) := by decide +kernel
theorem dX5_squareError_3 : decode cX5_squareError 3 = .ok (.bipush 15, 2) := by decide +kernel
theorem dX5_squareError_5 : decode cX5_squareError 5 = .ok (.invokestatic 38, 3) := by decide +kernel
theorem dX5_squareError_8 : decode cX5_squareError 8 = .ok (.ifCond .eq 7, 3) := by decide +kernel
theorem dX5_squareError_11 : decode cX5_squareError 11 = .ok (.iconst 0, 1) := by decide +kernel
theorem dX5_squareError_12 : decode cX5_squareError 12 = .ok (.goto 4, 3) := by decide +kernel
theorem dX5_squareError_15 : decode cX5_squareError 15 = .ok (.iconst 1, 1) := by decide +kernel
theorem dX5_squareError_16 : decode cX5_squareError 16 = .ok (.putfield 34, 3) := by decide +kernel
theorem dX5_squareError_19 : decode cX5_squareError 19 = .ok (.aload_n 0, 1) := by decide +kernel
theorem dX5_squareError_20 : decode cX5_squareError 20 = .ok (.invokevirtual 112, 3) := by decide +kernel
theorem dX5_squareError_23 : decode cX5_squareError 23 = .ok (.aload_n 0, 1) := by decide +kernel
theorem dX5_squareError_24 : decode cX5_squareError 24 = .ok (.getfield 34, 3) := by decide +kernel
theorem dX5_squareError_27 : decode cX5_squareError 27 = .ok (.ifCond .ne 11, 3) := by decide +kernel
theorem dX5_squareError_30 : decode cX5_squareError 30 = .ok (.aload_n 0, 1) := by decide +kernel
theorem dX5_squareError_31 : decode cX5_squareError 31 = .ok (.iload_n 1, 1) := by decide +kernel
theorem dX5_squareError_32 : decode cX5_squareError 32 = .ok (.invokevirtual 87, 3) := by decide +kernel
theorem dX5_squareError_35 : decode cX5_squareError 35 = .ok (.goto 4, 3) := by decide +kernel
theorem dX5_squareError_38 : decode cX5_squareError 38 = .ok (.iconst 0, 1) := by decide +kernel
theorem dX5_squareError_39 : decode cX5_squareError 39 = .ok (.ireturn, 1) := by decide +kernel
set_option maxRecDepth 20000 in
theorem ggX5_roughness_X5_paintsNow : GoodIn wsX5_roughness wsX5_paintsNow := goodIn_r _ [6, 7, 8, 9, 10, 5, 11, 12, 13, 14, 15, 16, 17, 18, 19, 20, 21, 22, 23, 24, 25, 26, 27, 28, 29, 30, 31, 32, 33, 34, 35, 36, 37, 38, 39, 40, 41, 42, 43, 44, 57, 58, 59, 60, 61, 62, 63, 64, 65, 66, 67, 68, 69, 70] (by decide +kernel) (by decide +kernel)
set_option maxRecDepth 20000 in
theorem gX5_roughness_X5_paintsNow : GoodIn wsX5_roughness (wsV RX5 112 RX5 yX5_paintsNow wsX5_paintsNow) := goodIn_app (goodIn_of _ (by decide +kernel)) ggX5_roughness_X5_paintsNow
set_option maxRecDepth 20000 in
theorem ggX5_roughness_X5_allOff : GoodIn wsX5_roughness wsX5_allOff := goodIn_r _ [48, 49, 50, 51, 5, 52, 7, 53, 54, 55, 56, 14, 13, 57, 58, 59, 60, 61, 62, 63, 64, 65, 66, 67, 68, 69, 70] (by decide +kernel) (by decide +kernel)
set_option maxRecDepth 20000 in
theorem gX5_roughness_X5_allOff : GoodIn wsX5_roughness (wsV RX5 122 RX5 yX5_allOff wsX5_allOff) := goodIn_app (goodIn_of _ (by decide +kernel)) ggX5_roughness_X5_allOff
theorem dX5_roughness_0 : decode cX5_roughness 0 = .ok (.aload_n 0, 1) := by decide +kernel
theorem dX5_roughness_1 : decode cX5_roughness 1 = .ok (.iconst 0, 1) := by decide +kernel
theorem dX5_roughness_2 : decode cX5_roughness 2 = .ok (.putfield 34, 3) := by decide +kernel
theorem dX5_roughness_5 : decode cX5_roughness 5 = .ok (.aload_n 0, 1) := by decide +kernel
theorem dX5_roughness_6 : decode cX5_roughness 6 = .ok (.invokevirtual 112, 3) := by decide +kernel
theorem dX5_roughness_9 : decode cX5_roughness 9 = .ok (.aload_n 0, 1) := by decide +kernel
theorem dX5_roughness_10 : decode cX5_roughness 10 = .ok (.invokevirtual 122, 3) := by decide +kernel
theorem dX5_roughness_13 : decode cX5_roughness 13 = .ok (.ireturn, 1) := by decide +kernel
set_option maxRecDepth 20000 in
theorem ggX5_smoothestRule_X5_paints : GoodIn wsX5_smoothestRule wsX5_paints := goodIn_r _ [7, 8, 9, 2, 10, 11, 12, 13, 6, 14, 15, 16, 17, 18, 19, 20, 21, 22, 23, 24, 25, 26, 27, 28, 29, 30, 31, 32, 33, 34, 35, 36, 37, 38, 39, 40, 53, 54, 55, 56, 57, 58, 59, 60, 61, 62, 63, 64, 65, 66] (by decide +kernel) (by decide +kernel)
set_option maxRecDepth 20000 in
theorem gX5_smoothestRule_X5_paints : GoodIn wsX5_smoothestRule (wsV RX5 79 RX5 yX5_paints wsX5_paints) := goodIn_app (goodIn_of _ (by decide +kernel)) ggX5_smoothestRule_X5_paints
set_option maxRecDepth 20000 in
theorem ggX5_smoothestRule_X5_allOff : GoodIn wsX5_smoothestRule wsX5_allOff := goodIn_r _ [44, 45, 46, 47, 6, 48, 2, 49, 50, 51, 52, 10, 9, 53, 54, 55, 56, 57, 58, 59, 60, 61, 62, 63, 64, 65, 66] (by decide +kernel) (by decide +kernel)
set_option maxRecDepth 20000 in
theorem gX5_smoothestRule_X5_allOff : GoodIn wsX5_smoothestRule (wsV RX5 122 RX5 yX5_allOff wsX5_allOff) := goodIn_app (goodIn_of _ (by decide +kernel)) ggX5_smoothestRule_X5_allOff
theorem dX5_smoothestRule_0 : decode cX5_smoothestRule 0 = .ok (.aload_n 0, 1) := by decide +kernel
theorem dX5_smoothestRule_1 : decode cX5_smoothestRule 1 = .ok (.iconst 0, 1) := by decide +kernel
theorem dX5_smoothestRule_2 : decode cX5_smoothestRule 2 = .ok (.putfield 34, 3) := by decide +kernel
theorem dX5_smoothestRule_5 : decode cX5_smoothestRule 5 = .ok (.iconst 0, 1) := by decide +kernel
theorem dX5_smoothestRule_6 : decode cX5_smoothestRule 6 = .ok (.istore_n 1, 1) := by decide +kernel
theorem dX5_smoothestRule_7 : decode cX5_smoothestRule 7 = .ok (.iconst 0, 1) := by decide +kernel
theorem dX5_smoothestRule_8 : decode cX5_smoothestRule 8 = .ok (.istore_n 2, 1) := by decide +kernel
theorem dX5_smoothestRule_9 : decode cX5_smoothestRule 9 = .ok (.iconst 0, 1) := by decide +kernel
theorem dX5_smoothestRule_10 : decode cX5_smoothestRule 10 = .ok (.istore_n 3, 1) := by decide +kernel
theorem dX5_smoothestRule_11 : decode cX5_smoothestRule 11 = .ok (.iload_n 3, 1) := by decide +kernel
theorem dX5_smoothestRule_12 : decode cX5_smoothestRule 12 = .ok (.iconst 3, 1) := by decide +kernel
theorem dX5_smoothestRule_13 : decode cX5_smoothestRule 13 = .ok (.if_icmp .gt 60, 3) := by decide +kernel
theorem dX5_smoothestRule_16 : decode cX5_smoothestRule 16 = .ok (.aload_n 0, 1) := by decide +kernel
theorem dX5_smoothestRule_17 : decode cX5_smoothestRule 17 = .ok (.iload_n 3, 1) := by decide +kernel
theorem dX5_smoothestRule_18 : decode cX5_smoothestRule 18 = .ok (.aload_n 0, 1) := by decide +kernel
theorem dX5_smoothestRule_19 : decode cX5_smoothestRule 19 = .ok (.getfield 7, 3) := by decide +kernel
theorem dX5_smoothestRule_22 : decode cX5_smoothestRule 22 = .ok (.bipush 65, 2) := by decide +kernel
theorem dX5_smoothestRule_24 : decode cX5_smoothestRule 24 = .ok (.iaload, 1) := by decide +kernel
theorem dX5_smoothestRule_25 : decode cX5_smoothestRule 25 = .ok (.invokevirtual 79, 3) := by decide +kernel
theorem dX5_smoothestRule_28 : decode cX5_smoothestRule 28 = .ok (.aload_n 0, 1) := by decide +kernel
theorem dX5_smoothestRule_29 : decode cX5_smoothestRule 29 = .ok (.invokevirtual 122, 3) := by decide +kernel
theorem dX5_smoothestRule_32 : decode cX5_smoothestRule 32 = .ok (.istore 4, 2) := by decide +kernel
theorem dX5_smoothestRule_34 : decode cX5_smoothestRule 34 = .ok (.iload_n 3, 1) := by decide +kernel
theorem dX5_smoothestRule_35 : decode cX5_smoothestRule 35 = .ok (.ifCond .eq 9, 3) := by decide +kernel
theorem dX5_smoothestRule_38 : decode cX5_smoothestRule 38 = .ok (.iload 4, 2) := by decide +kernel
theorem dX5_smoothestRule_40 : decode cX5_smoothestRule 40 = .ok (.iload_n 2, 1) := by decide +kernel
theorem dX5_smoothestRule_41 : decode cX5_smoothestRule 41 = .ok (.if_icmp .ge 7, 3) := by decide +kernel
theorem dX5_smoothestRule_44 : decode cX5_smoothestRule 44 = .ok (.iload_n 3, 1) := by decide +kernel
theorem dX5_smoothestRule_45 : decode cX5_smoothestRule 45 = .ok (.goto 4, 3) := by decide +kernel
theorem dX5_smoothestRule_48 : decode cX5_smoothestRule 48 = .ok (.iload_n 1, 1) := by decide +kernel
theorem dX5_smoothestRule_49 : decode cX5_smoothestRule 49 = .ok (.istore_n 1, 1) := by decide +kernel
theorem dX5_smoothestRule_50 : decode cX5_smoothestRule 50 = .ok (.iload_n 3, 1) := by decide +kernel
theorem dX5_smoothestRule_51 : decode cX5_smoothestRule 51 = .ok (.ifCond .eq 9, 3) := by decide +kernel
theorem dX5_smoothestRule_54 : decode cX5_smoothestRule 54 = .ok (.iload 4, 2) := by decide +kernel
theorem dX5_smoothestRule_56 : decode cX5_smoothestRule 56 = .ok (.iload_n 2, 1) := by decide +kernel
theorem dX5_smoothestRule_57 : decode cX5_smoothestRule 57 = .ok (.if_icmp .ge 8, 3) := by decide +kernel
theorem dX5_smoothestRule_60 : decode cX5_smoothestRule 60 = .ok (.iload 4, 2) := by decide +kernel
theorem dX5_smoothestRule_62 : decode cX5_smoothestRule 62 = .ok (.goto 4, 3) := by decide +kernel
theorem dX5_smoothestRule_65 : decode cX5_smoothestRule 65 = .ok (.iload_n 2, 1) := by decide +kernel
theorem dX5_smoothestRule_66 : decode cX5_smoothestRule 66 = .ok (.istore_n 2, 1) := by decide +kernel
theorem dX5_smoothestRule_67 : decode cX5_smoothestRule 67 = .ok (.iinc 3 1, 3) := by decide +kernel
theorem dX5_smoothestRule_70 : decode cX5_smoothestRule 70 = .ok (.goto (-59), 3) := by decide +kernel
theorem dX5_smoothestRule_73 : decode cX5_smoothestRule 73 = .ok (.iload_n 1, 1) := by decide +kernel
theorem dX5_smoothestRule_74 : decode cX5_smoothestRule 74 = .ok (.ireturn, 1) := by decide +kernel
set_option maxRecDepth 20000 in
theorem ggX5_thresholdFor_X5_in : GoodIn wsX5_thresholdFor wsX5_in := goodIn_r _ [6] (by decide +kernel) (by decide +kernel)
set_option maxRecDepth 20000 in
theorem gX5_thresholdFor_X5_in : GoodIn wsX5_thresholdFor (va_wsS RX5 38 yX5_in wsX5_in) := goodIn_app (goodIn_of _ (by decide +kernel)) ggX5_thresholdFor_X5_in
set_option maxRecDepth 20000 in
theorem ggX5_thresholdFor_X5_fails : GoodIn wsX5_thresholdFor wsX5_fails := goodIn_r _ [10, 1, 53, 54, 55, 56, 57, 58, 59, 60, 61, 62, 63, 64, 65, 66] (by decide +kernel) (by decide +kernel)
set_option maxRecDepth 20000 in
theorem gX5_thresholdFor_X5_fails : GoodIn wsX5_thresholdFor (wsV RX5 96 RX5 yX5_fails wsX5_fails) := goodIn_app (goodIn_of _ (by decide +kernel)) ggX5_thresholdFor_X5_fails
set_option maxRecDepth 20000 in
theorem ggX5_thresholdFor_X5_paints : GoodIn wsX5_thresholdFor wsX5_paints := goodIn_r _ [14, 15, 16, 2, 17, 18, 19, 20, 5, 21, 22, 23, 24, 25, 26, 27, 28, 29, 30, 31, 32, 33, 34, 35, 36, 37, 38, 3, 4, 6, 39, 40, 41, 42, 43, 44, 53, 54, 55, 56, 57, 58, 59, 60, 61, 62, 63, 64, 65, 66] (by decide +kernel) (by decide +kernel)
set_option maxRecDepth 20000 in
theorem gX5_thresholdFor_X5_paints : GoodIn wsX5_thresholdFor (wsV RX5 79 RX5 yX5_paints wsX5_paints) := goodIn_app (goodIn_of _ (by decide +kernel)) ggX5_thresholdFor_X5_paints
set_option maxRecDepth 20000 in
theorem ggX5_thresholdFor_X5_many : GoodIn wsX5_thresholdFor wsX5_many := goodIn_r _ [48, 49, 50, 51, 5, 52, 17, 16, 53, 54, 55, 56, 57, 58, 59, 60, 61, 62, 63, 64, 65, 66] (by decide +kernel) (by decide +kernel)
set_option maxRecDepth 20000 in
theorem gX5_thresholdFor_X5_many : GoodIn wsX5_thresholdFor (wsV RX5 119 RX5 yX5_many wsX5_many) := goodIn_app (goodIn_of _ (by decide +kernel)) ggX5_thresholdFor_X5_many
theorem dX5_thresholdFor_0 : decode cX5_thresholdFor 0 = .ok (.aload_n 0, 1) := by decide +kernel
theorem dX5_thresholdFor_1 : decode cX5_thresholdFor 1 = .ok (.iconst 0, 1) := by decide +kernel
theorem dX5_thresholdFor_2 : decode cX5_thresholdFor 2 = .ok (.putfield 34, 3) := by decide +kernel
theorem dX5_thresholdFor_5 : decode cX5_thresholdFor 5 = .ok (.iload_n 1, 1) := by decide +kernel
theorem dX5_thresholdFor_6 : decode cX5_thresholdFor 6 = .ok (.iconst 0, 1) := by decide +kernel
theorem dX5_thresholdFor_7 : decode cX5_thresholdFor 7 = .ok (.bipush 64, 2) := by decide +kernel
theorem dX5_thresholdFor_9 : decode cX5_thresholdFor 9 = .ok (.invokestatic 38, 3) := by decide +kernel
theorem dX5_thresholdFor_12 : decode cX5_thresholdFor 12 = .ok (.ifCond .ne 9, 3) := by decide +kernel
theorem dX5_thresholdFor_15 : decode cX5_thresholdFor 15 = .ok (.aload_n 0, 1) := by decide +kernel
theorem dX5_thresholdFor_16 : decode cX5_thresholdFor 16 = .ok (.iconst 1, 1) := by decide +kernel
theorem dX5_thresholdFor_17 : decode cX5_thresholdFor 17 = .ok (.invokevirtual 96, 3) := by decide +kernel
theorem dX5_thresholdFor_20 : decode cX5_thresholdFor 20 = .ok (.ireturn, 1) := by decide +kernel
theorem dX5_thresholdFor_21 : decode cX5_thresholdFor 21 = .ok (.iconst 1, 1) := by decide +kernel
theorem dX5_thresholdFor_22 : decode cX5_thresholdFor 22 = .ok (.istore_n 2, 1) := by decide +kernel
theorem dX5_thresholdFor_23 : decode cX5_thresholdFor 23 = .ok (.iload_n 2, 1) := by decide +kernel
theorem dX5_thresholdFor_24 : decode cX5_thresholdFor 24 = .ok (.sipush 255, 3) := by decide +kernel
theorem dX5_thresholdFor_27 : decode cX5_thresholdFor 27 = .ok (.if_icmp .gt 31, 3) := by decide +kernel
theorem dX5_thresholdFor_30 : decode cX5_thresholdFor 30 = .ok (.aload_n 0, 1) := by decide +kernel
theorem dX5_thresholdFor_31 : decode cX5_thresholdFor 31 = .ok (.aload_n 0, 1) := by decide +kernel
theorem dX5_thresholdFor_32 : decode cX5_thresholdFor 32 = .ok (.getfield 7, 3) := by decide +kernel
theorem dX5_thresholdFor_35 : decode cX5_thresholdFor 35 = .ok (.bipush 64, 2) := by decide +kernel
theorem dX5_thresholdFor_37 : decode cX5_thresholdFor 37 = .ok (.iaload, 1) := by decide +kernel
theorem dX5_thresholdFor_38 : decode cX5_thresholdFor 38 = .ok (.iload_n 2, 1) := by decide +kernel
theorem dX5_thresholdFor_39 : decode cX5_thresholdFor 39 = .ok (.invokevirtual 79, 3) := by decide +kernel
theorem dX5_thresholdFor_42 : decode cX5_thresholdFor 42 = .ok (.aload_n 0, 1) := by decide +kernel
theorem dX5_thresholdFor_43 : decode cX5_thresholdFor 43 = .ok (.invokevirtual 119, 3) := by decide +kernel
theorem dX5_thresholdFor_46 : decode cX5_thresholdFor 46 = .ok (.iload_n 1, 1) := by decide +kernel
theorem dX5_thresholdFor_47 : decode cX5_thresholdFor 47 = .ok (.if_icmp .gt 5, 3) := by decide +kernel
theorem dX5_thresholdFor_50 : decode cX5_thresholdFor 50 = .ok (.iload_n 2, 1) := by decide +kernel
theorem dX5_thresholdFor_51 : decode cX5_thresholdFor 51 = .ok (.ireturn, 1) := by decide +kernel
theorem dX5_thresholdFor_52 : decode cX5_thresholdFor 52 = .ok (.iinc 2 1, 3) := by decide +kernel
theorem dX5_thresholdFor_55 : decode cX5_thresholdFor 55 = .ok (.goto (-32), 3) := by decide +kernel
theorem dX5_thresholdFor_58 : decode cX5_thresholdFor 58 = .ok (.iconst (-1), 1) := by decide +kernel
theorem dX5_thresholdFor_59 : decode cX5_thresholdFor 59 = .ok (.ireturn, 1) := by decide +kernel
set_option maxRecDepth 20000 in
theorem ggX5_excess_X5_paintsNow : GoodIn wsX5_excess wsX5_paintsNow := goodIn_r _ [8, 9, 10, 11, 12, 7, 13, 14, 15, 16, 17, 18, 19, 20, 21, 22, 23, 24, 25, 26, 27, 28, 29, 30, 31, 32, 33, 34, 35, 36, 37, 38, 39, 40, 41, 42, 43, 44, 45, 46, 59, 60, 61, 62, 63, 64, 65, 66, 67, 68, 69, 70, 71, 72] (by decide +kernel) (by decide +kernel)
set_option maxRecDepth 20000 in
theorem gX5_excess_X5_paintsNow : GoodIn wsX5_excess (wsV RX5 112 RX5 yX5_paintsNow wsX5_paintsNow) := goodIn_app (goodIn_of _ (by decide +kernel)) ggX5_excess_X5_paintsNow
set_option maxRecDepth 20000 in
theorem ggX5_excess_X5_many : GoodIn wsX5_excess wsX5_many := goodIn_r _ [50, 51, 52, 53, 7, 54, 16, 15, 59, 60, 61, 62, 63, 64, 65, 66, 67, 68, 69, 70, 71, 72] (by decide +kernel) (by decide +kernel)
set_option maxRecDepth 20000 in
theorem gX5_excess_X5_many : GoodIn wsX5_excess (wsV RX5 119 RX5 yX5_many wsX5_many) := goodIn_app (goodIn_of _ (by decide +kernel)) ggX5_excess_X5_many
set_option maxRecDepth 20000 in
theorem ggX5_excess_X5_sum : GoodIn wsX5_excess wsX5_sum := goodIn_r _ [58, 9, 59, 60, 61, 62, 63, 64, 65, 66, 67, 68, 69, 70, 71, 72] (by decide +kernel) (by decide +kernel)
set_option maxRecDepth 20000 in
theorem gX5_excess_X5_sum : GoodIn wsX5_excess (wsV RX5 102 RX5 yX5_sum wsX5_sum) := goodIn_app (goodIn_of _ (by decide +kernel)) ggX5_excess_X5_sum
theorem dX5_excess_0 : decode cX5_excess 0 = .ok (.aload_n 0, 1) := by decide +kernel
theorem dX5_excess_1 : decode cX5_excess 1 = .ok (.iconst 0, 1) := by decide +kernel
theorem dX5_excess_2 : decode cX5_excess 2 = .ok (.putfield 34, 3) := by decide +kernel
theorem dX5_excess_5 : decode cX5_excess 5 = .ok (.aload_n 0, 1) := by decide +kernel
theorem dX5_excess_6 : decode cX5_excess 6 = .ok (.invokevirtual 112, 3) := by decide +kernel
theorem dX5_excess_9 : decode cX5_excess 9 = .ok (.aload_n 0, 1) := by decide +kernel
theorem dX5_excess_10 : decode cX5_excess 10 = .ok (.invokevirtual 119, 3) := by decide +kernel
theorem dX5_excess_13 : decode cX5_excess 13 = .ok (.i2d, 1) := by decide +kernel
theorem dX5_excess_14 : decode cX5_excess 14 = .ok (.ldc2_w 125, 3) := by decide +kernel
theorem dX5_excess_17 : decode cX5_excess 17 = .ok (.ddiv, 1) := by decide +kernel
theorem dX5_excess_18 : decode cX5_excess 18 = .ok (.aload_n 0, 1) := by decide +kernel
theorem dX5_excess_19 : decode cX5_excess 19 = .ok (.invokevirtual 102, 3) := by decide +kernel
theorem dX5_excess_22 : decode cX5_excess 22 = .ok (.i2d, 1) := by decide +kernel
theorem dX5_excess_23 : decode cX5_excess 23 = .ok (.ldc2_w 127, 3) := by decide +kernel
theorem dX5_excess_26 : decode cX5_excess 26 = .ok (.ddiv, 1) := by decide +kernel
theorem dX5_excess_27 : decode cX5_excess 27 = .ok (.dsub, 1) := by decide +kernel
theorem dX5_excess_28 : decode cX5_excess 28 = .ok (.dreturn, 1) := by decide +kernel
set_option maxRecDepth 20000 in
theorem ggX5_appendText_X5_in : GoodIn wsX5_appendText wsX5_in := goodIn_r _ [8] (by decide +kernel) (by decide +kernel)
set_option maxRecDepth 20000 in
theorem gX5_appendText_X5_in : GoodIn wsX5_appendText (va_wsS RX5 38 yX5_in wsX5_in) := goodIn_app (goodIn_of _ (by decide +kernel)) ggX5_appendText_X5_in
set_option maxRecDepth 20000 in
theorem ggX5_appendText_X5_fails : GoodIn wsX5_appendText wsX5_fails := goodIn_r _ [12, 1, 13, 14, 15, 16, 17, 18, 19, 20, 21, 22, 23, 24, 25, 26] (by decide +kernel) (by decide +kernel)
set_option maxRecDepth 20000 in
theorem gX5_appendText_X5_fails : GoodIn wsX5_appendText (wsV RX5 96 RX5 yX5_fails wsX5_fails) := goodIn_app (goodIn_of _ (by decide +kernel)) ggX5_appendText_X5_fails
theorem dX5_appendText_0 : decode cX5_appendText 0 = .ok (.aload_n 0, 1) := by decide +kernel
theorem dX5_appendText_1 : decode cX5_appendText 1 = .ok (.iconst 0, 1) := by decide +kernel
theorem dX5_appendText_2 : decode cX5_appendText 2 = .ok (.putfield 34, 3) := by decide +kernel
theorem dX5_appendText_5 : decode cX5_appendText 5 = .ok (.iconst 0, 1) := by decide +kernel
theorem dX5_appendText_6 : decode cX5_appendText 6 = .ok (.istore_n 3, 1) := by decide +kernel
theorem dX5_appendText_7 : decode cX5_appendText 7 = .ok (.iconst 1, 1) := by decide +kernel
theorem dX5_appendText_8 : decode cX5_appendText 8 = .ok (.istore 4, 2) := by decide +kernel
theorem dX5_appendText_10 : decode cX5_appendText 10 = .ok (.lload_n 1, 1) := by decide +kernel
theorem dX5_appendText_11 : decode cX5_appendText 11 = .ok (.lstore 5, 2) := by decide +kernel
theorem dX5_appendText_13 : decode cX5_appendText 13 = .ok (.iload_n 3, 1) := by decide +kernel
theorem dX5_appendText_14 : decode cX5_appendText 14 = .ok (.bipush 8, 2) := by decide +kernel
theorem dX5_appendText_16 : decode cX5_appendText 16 = .ok (.if_icmp .ge 56, 3) := by decide +kernel
theorem dX5_appendText_19 : decode cX5_appendText 19 = .ok (.lload 5, 2) := by decide +kernel
theorem dX5_appendText_21 : decode cX5_appendText 21 = .ok (.ldc2_w 129, 3) := by decide +kernel
theorem dX5_appendText_24 : decode cX5_appendText 24 = .ok (.land, 1) := by decide +kernel
theorem dX5_appendText_25 : decode cX5_appendText 25 = .ok (.lconst 0, 1) := by decide +kernel
theorem dX5_appendText_26 : decode cX5_appendText 26 = .ok (.lcmp, 1) := by decide +kernel
theorem dX5_appendText_27 : decode cX5_appendText 27 = .ok (.ifCond .eq 45, 3) := by decide +kernel
theorem dX5_appendText_30 : decode cX5_appendText 30 = .ok (.iload 4, 2) := by decide +kernel
theorem dX5_appendText_32 : decode cX5_appendText 32 = .ok (.ifCond .eq 24, 3) := by decide +kernel
theorem dX5_appendText_35 : decode cX5_appendText 35 = .ok (.lload 5, 2) := by decide +kernel
theorem dX5_appendText_37 : decode cX5_appendText 37 = .ok (.ldc2_w 129, 3) := by decide +kernel
theorem dX5_appendText_40 : decode cX5_appendText 40 = .ok (.land, 1) := by decide +kernel
theorem dX5_appendText_41 : decode cX5_appendText 41 = .ok (.l2i, 1) := by decide +kernel
theorem dX5_appendText_42 : decode cX5_appendText 42 = .ok (.bipush 33, 2) := by decide +kernel
theorem dX5_appendText_44 : decode cX5_appendText 44 = .ok (.bipush 126, 2) := by decide +kernel
theorem dX5_appendText_46 : decode cX5_appendText 46 = .ok (.invokestatic 38, 3) := by decide +kernel
theorem dX5_appendText_49 : decode cX5_appendText 49 = .ok (.ifCond .eq 7, 3) := by decide +kernel
theorem dX5_appendText_52 : decode cX5_appendText 52 = .ok (.iconst 1, 1) := by decide +kernel
theorem dX5_appendText_53 : decode cX5_appendText 53 = .ok (.goto 4, 3) := by decide +kernel
theorem dX5_appendText_56 : decode cX5_appendText 56 = .ok (.iconst 0, 1) := by decide +kernel
theorem dX5_appendText_57 : decode cX5_appendText 57 = .ok (.istore 4, 2) := by decide +kernel
theorem dX5_appendText_59 : decode cX5_appendText 59 = .ok (.lload 5, 2) := by decide +kernel
theorem dX5_appendText_61 : decode cX5_appendText 61 = .ok (.bipush 8, 2) := by decide +kernel
theorem dX5_appendText_63 : decode cX5_appendText 63 = .ok (.lushr, 1) := by decide +kernel
theorem dX5_appendText_64 : decode cX5_appendText 64 = .ok (.lstore 5, 2) := by decide +kernel
theorem dX5_appendText_66 : decode cX5_appendText 66 = .ok (.iinc 3 1, 3) := by decide +kernel
theorem dX5_appendText_69 : decode cX5_appendText 69 = .ok (.goto (-56), 3) := by decide +kernel
theorem dX5_appendText_72 : decode cX5_appendText 72 = .ok (.iload 4, 2) := by decide +kernel
theorem dX5_appendText_74 : decode cX5_appendText 74 = .ok (.ifCond .eq 14, 3) := by decide +kernel
theorem dX5_appendText_77 : decode cX5_appendText 77 = .ok (.iload_n 3, 1) := by decide +kernel
theorem dX5_appendText_78 : decode cX5_appendText 78 = .ok (.ifCond .eq 10, 3) := by decide +kernel
theorem dX5_appendText_81 : decode cX5_appendText 81 = .ok (.lload 5, 2) := by decide +kernel
theorem dX5_appendText_83 : decode cX5_appendText 83 = .ok (.lconst 0, 1) := by decide +kernel
theorem dX5_appendText_84 : decode cX5_appendText 84 = .ok (.lcmp, 1) := by decide +kernel
theorem dX5_appendText_85 : decode cX5_appendText 85 = .ok (.ifCond .eq 9, 3) := by decide +kernel
theorem dX5_appendText_88 : decode cX5_appendText 88 = .ok (.aload_n 0, 1) := by decide +kernel
theorem dX5_appendText_89 : decode cX5_appendText 89 = .ok (.iconst 1, 1) := by decide +kernel
theorem dX5_appendText_90 : decode cX5_appendText 90 = .ok (.invokevirtual 96, 3) := by decide +kernel
theorem dX5_appendText_93 : decode cX5_appendText 93 = .ok (.ireturn, 1) := by decide +kernel
theorem dX5_appendText_94 : decode cX5_appendText 94 = .ok (.aload_n 0, 1) := by decide +kernel
theorem dX5_appendText_95 : decode cX5_appendText 95 = .ok (.getfield 131, 3) := by decide +kernel
theorem dX5_appendText_98 : decode cX5_appendText 98 = .ok (.iload_n 3, 1) := by decide +kernel
theorem dX5_appendText_99 : decode cX5_appendText 99 = .ok (.iadd, 1) := by decide +kernel
theorem dX5_appendText_100 : decode cX5_appendText 100 = .ok (.bipush 80, 2) := by decide +kernel
theorem dX5_appendText_102 : decode cX5_appendText 102 = .ok (.if_icmp .le 9, 3) := by decide +kernel
theorem dX5_appendText_105 : decode cX5_appendText 105 = .ok (.aload_n 0, 1) := by decide +kernel
theorem dX5_appendText_106 : decode cX5_appendText 106 = .ok (.iconst 2, 1) := by decide +kernel
theorem dX5_appendText_107 : decode cX5_appendText 107 = .ok (.invokevirtual 96, 3) := by decide +kernel
theorem dX5_appendText_110 : decode cX5_appendText 110 = .ok (.ireturn, 1) := by decide +kernel
theorem dX5_appendText_111 : decode cX5_appendText 111 = .ok (.iload_n 3, 1) := by decide +kernel
theorem dX5_appendText_112 : decode cX5_appendText 112 = .ok (.iconst 1, 1) := by decide +kernel
theorem dX5_appendText_113 : decode cX5_appendText 113 = .ok (.isub, 1) := by decide +kernel
theorem dX5_appendText_114 : decode cX5_appendText 114 = .ok (.istore 7, 2) := by decide +kernel
theorem dX5_appendText_116 : decode cX5_appendText 116 = .ok (.iload 7, 2) := by decide +kernel
theorem dX5_appendText_118 : decode cX5_appendText 118 = .ok (.ifCond .lt 40, 3) := by decide +kernel
theorem dX5_appendText_121 : decode cX5_appendText 121 = .ok (.aload_n 0, 1) := by decide +kernel
theorem dX5_appendText_122 : decode cX5_appendText 122 = .ok (.getfield 22, 3) := by decide +kernel
theorem dX5_appendText_125 : decode cX5_appendText 125 = .ok (.aload_n 0, 1) := by decide +kernel
theorem dX5_appendText_126 : decode cX5_appendText 126 = .ok (.getfield 131, 3) := by decide +kernel
theorem dX5_appendText_129 : decode cX5_appendText 129 = .ok (.lload_n 1, 1) := by decide +kernel
theorem dX5_appendText_130 : decode cX5_appendText 130 = .ok (.bipush 8, 2) := by decide +kernel
theorem dX5_appendText_132 : decode cX5_appendText 132 = .ok (.iload 7, 2) := by decide +kernel
theorem dX5_appendText_134 : decode cX5_appendText 134 = .ok (.imul, 1) := by decide +kernel
theorem dX5_appendText_135 : decode cX5_appendText 135 = .ok (.lushr, 1) := by decide +kernel
theorem dX5_appendText_136 : decode cX5_appendText 136 = .ok (.ldc2_w 129, 3) := by decide +kernel
theorem dX5_appendText_139 : decode cX5_appendText 139 = .ok (.land, 1) := by decide +kernel
theorem dX5_appendText_140 : decode cX5_appendText 140 = .ok (.l2i, 1) := by decide +kernel
theorem dX5_appendText_141 : decode cX5_appendText 141 = .ok (.iastore, 1) := by decide +kernel
theorem dX5_appendText_142 : decode cX5_appendText 142 = .ok (.aload_n 0, 1) := by decide +kernel
theorem dX5_appendText_143 : decode cX5_appendText 143 = .ok (.dup, 1) := by decide +kernel
theorem dX5_appendText_144 : decode cX5_appendText 144 = .ok (.getfield 131, 3) := by decide +kernel
theorem dX5_appendText_147 : decode cX5_appendText 147 = .ok (.iconst 1, 1) := by decide +kernel
theorem dX5_appendText_148 : decode cX5_appendText 148 = .ok (.iadd, 1) := by decide +kernel
theorem dX5_appendText_149 : decode cX5_appendText 149 = .ok (.putfield 131, 3) := by decide +kernel
theorem dX5_appendText_152 : decode cX5_appendText 152 = .ok (.iinc 7 (-1), 3) := by decide +kernel
theorem dX5_appendText_155 : decode cX5_appendText 155 = .ok (.goto (-39), 3) := by decide +kernel
theorem dX5_appendText_158 : decode cX5_appendText 158 = .ok (.aload_n 0, 1) := by decide +kernel
theorem dX5_appendText_159 : decode cX5_appendText 159 = .ok (.getfield 131, 3) := by decide +kernel
theorem dX5_appendText_162 : decode cX5_appendText 162 = .ok (.ireturn, 1) := by decide +kernel
theorem dX5_clearText_0 : decode cX5_clearText 0 = .ok (.aload_n 0, 1) := by decide +kernel
theorem dX5_clearText_1 : decode cX5_clearText 1 = .ok (.iconst 0, 1) := by decide +kernel
theorem dX5_clearText_2 : decode cX5_clearText 2 = .ok (.putfield 34, 3) := by decide +kernel
theorem dX5_clearText_5 : decode cX5_clearText 5 = .ok (.aload_n 0, 1) := by decide +kernel
theorem dX5_clearText_6 : decode cX5_clearText 6 = .ok (.getfield 131, 3) := by decide +kernel
theorem dX5_clearText_9 : decode cX5_clearText 9 = .ok (.istore_n 1, 1) := by decide +kernel
theorem dX5_clearText_10 : decode cX5_clearText 10 = .ok (.aload_n 0, 1) := by decide +kernel
theorem dX5_clearText_11 : decode cX5_clearText 11 = .ok (.iconst 0, 1) := by decide +kernel
theorem dX5_clearText_12 : decode cX5_clearText 12 = .ok (.putfield 131, 3) := by decide +kernel
theorem dX5_clearText_15 : decode cX5_clearText 15 = .ok (.iload_n 1, 1) := by decide +kernel
theorem dX5_clearText_16 : decode cX5_clearText 16 = .ok (.ireturn, 1) := by decide +kernel
theorem dX5_textLength_0 : decode cX5_textLength 0 = .ok (.aload_n 0, 1) := by decide +kernel
theorem dX5_textLength_1 : decode cX5_textLength 1 = .ok (.iconst 0, 1) := by decide +kernel
theorem dX5_textLength_2 : decode cX5_textLength 2 = .ok (.putfield 34, 3) := by decide +kernel
theorem dX5_textLength_5 : decode cX5_textLength 5 = .ok (.aload_n 0, 1) := by decide +kernel
theorem dX5_textLength_6 : decode cX5_textLength 6 = .ok (.getfield 131, 3) := by decide +kernel
theorem dX5_textLength_9 : decode cX5_textLength 9 = .ok (.ireturn, 1) := by decide +kernel
theorem dX5_sees_0 : decode cX5_sees 0 = .ok (.aload_n 0, 1) := by decide +kernel
theorem dX5_sees_1 : decode cX5_sees 1 = .ok (.getfield 134, 3) := by decide +kernel
theorem dX5_sees_4 : decode cX5_sees 4 = .ok (.aload_n 0, 1) := by decide +kernel
theorem dX5_sees_5 : decode cX5_sees 5 = .ok (.getfield 131, 3) := by decide +kernel
theorem dX5_sees_8 : decode cX5_sees 8 = .ok (.if_icmp .ge 20, 3) := by decide +kernel
theorem dX5_sees_11 : decode cX5_sees 11 = .ok (.aload_n 0, 1) := by decide +kernel
theorem dX5_sees_12 : decode cX5_sees 12 = .ok (.getfield 22, 3) := by decide +kernel
theorem dX5_sees_15 : decode cX5_sees 15 = .ok (.aload_n 0, 1) := by decide +kernel
theorem dX5_sees_16 : decode cX5_sees 16 = .ok (.getfield 134, 3) := by decide +kernel
theorem dX5_sees_19 : decode cX5_sees 19 = .ok (.iaload, 1) := by decide +kernel
theorem dX5_sees_20 : decode cX5_sees 20 = .ok (.iload_n 1, 1) := by decide +kernel
theorem dX5_sees_21 : decode cX5_sees 21 = .ok (.if_icmp .ne 7, 3) := by decide +kernel
theorem dX5_sees_24 : decode cX5_sees 24 = .ok (.iconst 1, 1) := by decide +kernel
theorem dX5_sees_25 : decode cX5_sees 25 = .ok (.goto 4, 3) := by decide +kernel
theorem dX5_sees_28 : decode cX5_sees 28 = .ok (.iconst 0, 1) := by decide +kernel
theorem dX5_sees_29 : decode cX5_sees 29 = .ok (.istore_n 2, 1) := by decide +kernel
theorem dX5_sees_30 : decode cX5_sees 30 = .ok (.aload_n 0, 1) := by decide +kernel
theorem dX5_sees_31 : decode cX5_sees 31 = .ok (.dup, 1) := by decide +kernel
theorem dX5_sees_32 : decode cX5_sees 32 = .ok (.getfield 134, 3) := by decide +kernel
theorem dX5_sees_35 : decode cX5_sees 35 = .ok (.iload_n 2, 1) := by decide +kernel
theorem dX5_sees_36 : decode cX5_sees 36 = .ok (.ifCond .eq 7, 3) := by decide +kernel
theorem dX5_sees_39 : decode cX5_sees 39 = .ok (.iconst 1, 1) := by decide +kernel
theorem dX5_sees_40 : decode cX5_sees 40 = .ok (.goto 4, 3) := by decide +kernel
theorem dX5_sees_43 : decode cX5_sees 43 = .ok (.iconst 0, 1) := by decide +kernel
theorem dX5_sees_44 : decode cX5_sees 44 = .ok (.iadd, 1) := by decide +kernel
theorem dX5_sees_45 : decode cX5_sees 45 = .ok (.putfield 134, 3) := by decide +kernel
theorem dX5_sees_48 : decode cX5_sees 48 = .ok (.iload_n 2, 1) := by decide +kernel
theorem dX5_sees_49 : decode cX5_sees 49 = .ok (.ireturn, 1) := by decide +kernel
set_option maxRecDepth 20000 in
theorem ggX5_number_X5_in : GoodIn wsX5_number wsX5_in := goodIn_r _ [7] (by decide +kernel) (by decide +kernel)
set_option maxRecDepth 20000 in
theorem gX5_number_X5_in : GoodIn wsX5_number (va_wsS RX5 38 yX5_in wsX5_in) := goodIn_app (goodIn_of _ (by decide +kernel)) ggX5_number_X5_in
theorem dX5_number_0 : decode cX5_number 0 = .ok (.aload_n 0, 1) := by decide +kernel
theorem dX5_number_1 : decode cX5_number 1 = .ok (.getfield 134, 3) := by decide +kernel
theorem dX5_number_4 : decode cX5_number 4 = .ok (.aload_n 0, 1) := by decide +kernel
theorem dX5_number_5 : decode cX5_number 5 = .ok (.getfield 131, 3) := by decide +kernel
theorem dX5_number_8 : decode cX5_number 8 = .ok (.if_icmp .eq 22, 3) := by decide +kernel
theorem dX5_number_11 : decode cX5_number 11 = .ok (.aload_n 0, 1) := by decide +kernel
theorem dX5_number_12 : decode cX5_number 12 = .ok (.getfield 22, 3) := by decide +kernel
theorem dX5_number_15 : decode cX5_number 15 = .ok (.aload_n 0, 1) := by decide +kernel
theorem dX5_number_16 : decode cX5_number 16 = .ok (.getfield 134, 3) := by decide +kernel
theorem dX5_number_19 : decode cX5_number 19 = .ok (.iaload, 1) := by decide +kernel
theorem dX5_number_20 : decode cX5_number 20 = .ok (.bipush 48, 2) := by decide +kernel
theorem dX5_number_22 : decode cX5_number 22 = .ok (.bipush 57, 2) := by decide +kernel
theorem dX5_number_24 : decode cX5_number 24 = .ok (.invokestatic 38, 3) := by decide +kernel
theorem dX5_number_27 : decode cX5_number 27 = .ok (.ifCond .ne 5, 3) := by decide +kernel
theorem dX5_number_30 : decode cX5_number 30 = .ok (.iconst (-1), 1) := by decide +kernel
theorem dX5_number_31 : decode cX5_number 31 = .ok (.ireturn, 1) := by decide +kernel
theorem dX5_number_32 : decode cX5_number 32 = .ok (.aload_n 0, 1) := by decide +kernel
theorem dX5_number_33 : decode cX5_number 33 = .ok (.getfield 22, 3) := by decide +kernel
theorem dX5_number_36 : decode cX5_number 36 = .ok (.aload_n 0, 1) := by decide +kernel
theorem dX5_number_37 : decode cX5_number 37 = .ok (.getfield 134, 3) := by decide +kernel
theorem dX5_number_40 : decode cX5_number 40 = .ok (.iaload, 1) := by decide +kernel
theorem dX5_number_41 : decode cX5_number 41 = .ok (.bipush 48, 2) := by decide +kernel
theorem dX5_number_43 : decode cX5_number 43 = .ok (.isub, 1) := by decide +kernel
theorem dX5_number_44 : decode cX5_number 44 = .ok (.istore_n 2, 1) := by decide +kernel
theorem dX5_number_45 : decode cX5_number 45 = .ok (.aload_n 0, 1) := by decide +kernel
theorem dX5_number_46 : decode cX5_number 46 = .ok (.dup, 1) := by decide +kernel
theorem dX5_number_47 : decode cX5_number 47 = .ok (.getfield 134, 3) := by decide +kernel
theorem dX5_number_50 : decode cX5_number 50 = .ok (.iconst 1, 1) := by decide +kernel
theorem dX5_number_51 : decode cX5_number 51 = .ok (.iadd, 1) := by decide +kernel
theorem dX5_number_52 : decode cX5_number 52 = .ok (.putfield 134, 3) := by decide +kernel
theorem dX5_number_55 : decode cX5_number 55 = .ok (.iload_n 2, 1) := by decide +kernel
theorem dX5_number_56 : decode cX5_number 56 = .ok (.ifCond .le 85, 3) := by decide +kernel
theorem dX5_number_59 : decode cX5_number 59 = .ok (.aload_n 0, 1) := by decide +kernel
theorem dX5_number_60 : decode cX5_number 60 = .ok (.getfield 134, 3) := by decide +kernel
theorem dX5_number_63 : decode cX5_number 63 = .ok (.aload_n 0, 1) := by decide +kernel
theorem dX5_number_64 : decode cX5_number 64 = .ok (.getfield 131, 3) := by decide +kernel
theorem dX5_number_67 : decode cX5_number 67 = .ok (.if_icmp .ge 74, 3) := by decide +kernel
theorem dX5_number_70 : decode cX5_number 70 = .ok (.aload_n 0, 1) := by decide +kernel
theorem dX5_number_71 : decode cX5_number 71 = .ok (.getfield 22, 3) := by decide +kernel
theorem dX5_number_74 : decode cX5_number 74 = .ok (.aload_n 0, 1) := by decide +kernel
theorem dX5_number_75 : decode cX5_number 75 = .ok (.getfield 134, 3) := by decide +kernel
theorem dX5_number_78 : decode cX5_number 78 = .ok (.iaload, 1) := by decide +kernel
theorem dX5_number_79 : decode cX5_number 79 = .ok (.bipush 48, 2) := by decide +kernel
theorem dX5_number_81 : decode cX5_number 81 = .ok (.bipush 57, 2) := by decide +kernel
theorem dX5_number_83 : decode cX5_number 83 = .ok (.invokestatic 38, 3) := by decide +kernel
theorem dX5_number_86 : decode cX5_number 86 = .ok (.ifCond .eq 55, 3) := by decide +kernel
theorem dX5_number_89 : decode cX5_number 89 = .ok (.bipush 10, 2) := by decide +kernel
theorem dX5_number_91 : decode cX5_number 91 = .ok (.iload_n 2, 1) := by decide +kernel
theorem dX5_number_92 : decode cX5_number 92 = .ok (.imul, 1) := by decide +kernel
theorem dX5_number_93 : decode cX5_number 93 = .ok (.aload_n 0, 1) := by decide +kernel
theorem dX5_number_94 : decode cX5_number 94 = .ok (.getfield 22, 3) := by decide +kernel
theorem dX5_number_97 : decode cX5_number 97 = .ok (.aload_n 0, 1) := by decide +kernel
theorem dX5_number_98 : decode cX5_number 98 = .ok (.getfield 134, 3) := by decide +kernel
theorem dX5_number_101 : decode cX5_number 101 = .ok (.iaload, 1) := by decide +kernel
theorem dX5_number_102 : decode cX5_number 102 = .ok (.iadd, 1) := by decide +kernel
theorem dX5_number_103 : decode cX5_number 103 = .ok (.bipush 48, 2) := by decide +kernel
theorem dX5_number_105 : decode cX5_number 105 = .ok (.isub, 1) := by decide +kernel
theorem dX5_number_106 : decode cX5_number 106 = .ok (.iload_n 1, 1) := by decide +kernel
theorem dX5_number_107 : decode cX5_number 107 = .ok (.if_icmp .gt 34, 3) := by decide +kernel
theorem dX5_number_110 : decode cX5_number 110 = .ok (.bipush 10, 2) := by decide +kernel
theorem dX5_number_112 : decode cX5_number 112 = .ok (.iload_n 2, 1) := by decide +kernel
theorem dX5_number_113 : decode cX5_number 113 = .ok (.imul, 1) := by decide +kernel
theorem dX5_number_114 : decode cX5_number 114 = .ok (.aload_n 0, 1) := by decide +kernel
theorem dX5_number_115 : decode cX5_number 115 = .ok (.getfield 22, 3) := by decide +kernel
theorem dX5_number_118 : decode cX5_number 118 = .ok (.aload_n 0, 1) := by decide +kernel
theorem dX5_number_119 : decode cX5_number 119 = .ok (.getfield 134, 3) := by decide +kernel
theorem dX5_number_122 : decode cX5_number 122 = .ok (.iaload, 1) := by decide +kernel
theorem dX5_number_123 : decode cX5_number 123 = .ok (.iadd, 1) := by decide +kernel
theorem dX5_number_124 : decode cX5_number 124 = .ok (.bipush 48, 2) := by decide +kernel
theorem dX5_number_126 : decode cX5_number 126 = .ok (.isub, 1) := by decide +kernel
theorem dX5_number_127 : decode cX5_number 127 = .ok (.istore_n 2, 1) := by decide +kernel
theorem dX5_number_128 : decode cX5_number 128 = .ok (.aload_n 0, 1) := by decide +kernel
theorem dX5_number_129 : decode cX5_number 129 = .ok (.dup, 1) := by decide +kernel
theorem dX5_number_130 : decode cX5_number 130 = .ok (.getfield 134, 3) := by decide +kernel
theorem dX5_number_133 : decode cX5_number 133 = .ok (.iconst 1, 1) := by decide +kernel
theorem dX5_number_134 : decode cX5_number 134 = .ok (.iadd, 1) := by decide +kernel
theorem dX5_number_135 : decode cX5_number 135 = .ok (.putfield 134, 3) := by decide +kernel
theorem dX5_number_138 : decode cX5_number 138 = .ok (.goto (-83), 3) := by decide +kernel
theorem dX5_number_141 : decode cX5_number 141 = .ok (.iload_n 2, 1) := by decide +kernel
theorem dX5_number_142 : decode cX5_number 142 = .ok (.ireturn, 1) := by decide +kernel
set_option maxRecDepth 20000 in
theorem ggX5_command_X5_sees : GoodIn wsX5_command wsX5_sees := goodIn_r _ [7, 8, 9, 10, 18, 19, 20, 21, 22, 23, 24, 25, 26, 27, 28, 29, 30, 31] (by decide +kernel) (by decide +kernel)
set_option maxRecDepth 20000 in
theorem gX5_command_X5_sees : GoodIn wsX5_command (wsV RX5 137 RX5 yX5_sees wsX5_sees) := goodIn_app (goodIn_of _ (by decide +kernel)) ggX5_command_X5_sees
set_option maxRecDepth 20000 in
theorem ggX5_command_X5_number : GoodIn wsX5_command wsX5_number := goodIn_r _ [14, 8, 9, 10, 15, 16, 6, 17, 18, 19, 20, 21, 22, 23, 24, 25, 26, 27, 28, 29, 30, 31] (by decide +kernel) (by decide +kernel)
set_option maxRecDepth 20000 in
theorem gX5_command_X5_number : GoodIn wsX5_command (wsV RX5 141 RX5 yX5_number wsX5_number) := goodIn_app (goodIn_of _ (by decide +kernel)) ggX5_command_X5_number
theorem dX5_command_0 : decode cX5_command 0 = .ok (.aload_n 0, 1) := by decide +kernel
theorem dX5_command_1 : decode cX5_command 1 = .ok (.bipush 103, 2) := by decide +kernel
theorem dX5_command_3 : decode cX5_command 3 = .ok (.invokevirtual 137, 3) := by decide +kernel
theorem dX5_command_6 : decode cX5_command 6 = .ok (.ifCond .eq 8, 3) := by decide +kernel
theorem dX5_command_9 : decode cX5_command 9 = .ok (.bipush 103, 2) := by decide +kernel
theorem dX5_command_11 : decode cX5_command 11 = .ok (.goto 60, 3) := by decide +kernel
theorem dX5_command_14 : decode cX5_command 14 = .ok (.aload_n 0, 1) := by decide +kernel
theorem dX5_command_15 : decode cX5_command 15 = .ok (.bipush 105, 2) := by decide +kernel
theorem dX5_command_17 : decode cX5_command 17 = .ok (.invokevirtual 137, 3) := by decide +kernel
theorem dX5_command_20 : decode cX5_command 20 = .ok (.ifCond .eq 8, 3) := by decide +kernel
theorem dX5_command_23 : decode cX5_command 23 = .ok (.bipush 105, 2) := by decide +kernel
theorem dX5_command_25 : decode cX5_command 25 = .ok (.goto 46, 3) := by decide +kernel
theorem dX5_command_28 : decode cX5_command 28 = .ok (.aload_n 0, 1) := by decide +kernel
theorem dX5_command_29 : decode cX5_command 29 = .ok (.bipush 116, 2) := by decide +kernel
theorem dX5_command_31 : decode cX5_command 31 = .ok (.invokevirtual 137, 3) := by decide +kernel
theorem dX5_command_34 : decode cX5_command 34 = .ok (.ifCond .eq 8, 3) := by decide +kernel
theorem dX5_command_37 : decode cX5_command 37 = .ok (.bipush 116, 2) := by decide +kernel
theorem dX5_command_39 : decode cX5_command 39 = .ok (.goto 32, 3) := by decide +kernel
theorem dX5_command_42 : decode cX5_command 42 = .ok (.aload_n 0, 1) := by decide +kernel
theorem dX5_command_43 : decode cX5_command 43 = .ok (.bipush 119, 2) := by decide +kernel
theorem dX5_command_45 : decode cX5_command 45 = .ok (.invokevirtual 137, 3) := by decide +kernel
theorem dX5_command_48 : decode cX5_command 48 = .ok (.ifCond .eq 8, 3) := by decide +kernel
theorem dX5_command_51 : decode cX5_command 51 = .ok (.bipush 119, 2) := by decide +kernel
theorem dX5_command_53 : decode cX5_command 53 = .ok (.goto 18, 3) := by decide +kernel
theorem dX5_command_56 : decode cX5_command 56 = .ok (.aload_n 0, 1) := by decide +kernel
theorem dX5_command_57 : decode cX5_command 57 = .ok (.bipush 114, 2) := by decide +kernel
theorem dX5_command_59 : decode cX5_command 59 = .ok (.invokevirtual 137, 3) := by decide +kernel
theorem dX5_command_62 : decode cX5_command 62 = .ok (.ifCond .eq 8, 3) := by decide +kernel
theorem dX5_command_65 : decode cX5_command 65 = .ok (.bipush 114, 2) := by decide +kernel
theorem dX5_command_67 : decode cX5_command 67 = .ok (.goto 4, 3) := by decide +kernel
theorem dX5_command_70 : decode cX5_command 70 = .ok (.iconst 0, 1) := by decide +kernel
theorem dX5_command_71 : decode cX5_command 71 = .ok (.istore_n 1, 1) := by decide +kernel
theorem dX5_command_72 : decode cX5_command 72 = .ok (.iload_n 1, 1) := by decide +kernel
theorem dX5_command_73 : decode cX5_command 73 = .ok (.bipush 105, 2) := by decide +kernel
theorem dX5_command_75 : decode cX5_command 75 = .ok (.if_icmp .eq 9, 3) := by decide +kernel
theorem dX5_command_78 : decode cX5_command 78 = .ok (.iload_n 1, 1) := by decide +kernel
theorem dX5_command_79 : decode cX5_command 79 = .ok (.bipush 119, 2) := by decide +kernel
theorem dX5_command_81 : decode cX5_command 81 = .ok (.if_icmp .ne 7, 3) := by decide +kernel
theorem dX5_command_84 : decode cX5_command 84 = .ok (.iconst 1, 1) := by decide +kernel
theorem dX5_command_85 : decode cX5_command 85 = .ok (.goto 4, 3) := by decide +kernel
theorem dX5_command_88 : decode cX5_command 88 = .ok (.iconst 0, 1) := by decide +kernel
theorem dX5_command_89 : decode cX5_command 89 = .ok (.istore_n 2, 1) := by decide +kernel
theorem dX5_command_90 : decode cX5_command 90 = .ok (.iload_n 1, 1) := by decide +kernel
theorem dX5_command_91 : decode cX5_command 91 = .ok (.ifCond .ne 7, 3) := by decide +kernel
theorem dX5_command_94 : decode cX5_command 94 = .ok (.iconst (-1), 1) := by decide +kernel
theorem dX5_command_95 : decode cX5_command 95 = .ok (.goto 29, 3) := by decide +kernel
theorem dX5_command_98 : decode cX5_command 98 = .ok (.iload_n 2, 1) := by decide +kernel
theorem dX5_command_99 : decode cX5_command 99 = .ok (.ifCond .eq 7, 3) := by decide +kernel
theorem dX5_command_102 : decode cX5_command 102 = .ok (.iconst 0, 1) := by decide +kernel
theorem dX5_command_103 : decode cX5_command 103 = .ok (.goto 21, 3) := by decide +kernel
theorem dX5_command_106 : decode cX5_command 106 = .ok (.aload_n 0, 1) := by decide +kernel
theorem dX5_command_107 : decode cX5_command 107 = .ok (.iload_n 1, 1) := by decide +kernel
theorem dX5_command_108 : decode cX5_command 108 = .ok (.bipush 114, 2) := by decide +kernel
theorem dX5_command_110 : decode cX5_command 110 = .ok (.if_icmp .ne 8, 3) := by decide +kernel
theorem dX5_command_113 : decode cX5_command 113 = .ok (.bipush 9, 2) := by decide +kernel
theorem dX5_command_115 : decode cX5_command 115 = .ok (.goto 6, 3) := by decide +kernel
theorem dX5_command_118 : decode cX5_command 118 = .ok (.sipush 999, 3) := by decide +kernel
theorem dX5_command_121 : decode cX5_command 121 = .ok (.invokevirtual 141, 3) := by decide +kernel
theorem dX5_command_124 : decode cX5_command 124 = .ok (.istore_n 3, 1) := by decide +kernel
theorem dX5_command_125 : decode cX5_command 125 = .ok (.iload_n 1, 1) := by decide +kernel
theorem dX5_command_126 : decode cX5_command 126 = .ok (.bipush 103, 2) := by decide +kernel
theorem dX5_command_128 : decode cX5_command 128 = .ok (.if_icmp .eq 7, 3) := by decide +kernel
theorem dX5_command_131 : decode cX5_command 131 = .ok (.iconst 0, 1) := by decide +kernel
theorem dX5_command_132 : decode cX5_command 132 = .ok (.goto 27, 3) := by decide +kernel
theorem dX5_command_135 : decode cX5_command 135 = .ok (.iload_n 3, 1) := by decide +kernel
theorem dX5_command_136 : decode cX5_command 136 = .ok (.ifCond .lt 22, 3) := by decide +kernel
theorem dX5_command_139 : decode cX5_command 139 = .ok (.aload_n 0, 1) := by decide +kernel
theorem dX5_command_140 : decode cX5_command 140 = .ok (.bipush 61, 2) := by decide +kernel
theorem dX5_command_142 : decode cX5_command 142 = .ok (.invokevirtual 137, 3) := by decide +kernel
theorem dX5_command_145 : decode cX5_command 145 = .ok (.ifCond .eq 13, 3) := by decide +kernel
theorem dX5_command_148 : decode cX5_command 148 = .ok (.aload_n 0, 1) := by decide +kernel
theorem dX5_command_149 : decode cX5_command 149 = .ok (.sipush 999, 3) := by decide +kernel
theorem dX5_command_152 : decode cX5_command 152 = .ok (.invokevirtual 141, 3) := by decide +kernel
theorem dX5_command_155 : decode cX5_command 155 = .ok (.goto 4, 3) := by decide +kernel
theorem dX5_command_158 : decode cX5_command 158 = .ok (.iconst (-1), 1) := by decide +kernel
theorem dX5_command_159 : decode cX5_command 159 = .ok (.istore 4, 2) := by decide +kernel
theorem dX5_command_161 : decode cX5_command 161 = .ok (.aload_n 0, 1) := by decide +kernel
theorem dX5_command_162 : decode cX5_command 162 = .ok (.getfield 25, 3) := by decide +kernel
theorem dX5_command_165 : decode cX5_command 165 = .ok (.iconst 3, 1) := by decide +kernel
theorem dX5_command_166 : decode cX5_command 166 = .ok (.aload_n 0, 1) := by decide +kernel
theorem dX5_command_167 : decode cX5_command 167 = .ok (.getfield 144, 3) := by decide +kernel
theorem dX5_command_170 : decode cX5_command 170 = .ok (.imul, 1) := by decide +kernel
theorem dX5_command_171 : decode cX5_command 171 = .ok (.iload_n 1, 1) := by decide +kernel
theorem dX5_command_172 : decode cX5_command 172 = .ok (.iastore, 1) := by decide +kernel
theorem dX5_command_173 : decode cX5_command 173 = .ok (.aload_n 0, 1) := by decide +kernel
theorem dX5_command_174 : decode cX5_command 174 = .ok (.getfield 25, 3) := by decide +kernel
theorem dX5_command_177 : decode cX5_command 177 = .ok (.iconst 3, 1) := by decide +kernel
theorem dX5_command_178 : decode cX5_command 178 = .ok (.aload_n 0, 1) := by decide +kernel
theorem dX5_command_179 : decode cX5_command 179 = .ok (.getfield 144, 3) := by decide +kernel
theorem dX5_command_182 : decode cX5_command 182 = .ok (.imul, 1) := by decide +kernel
theorem dX5_command_183 : decode cX5_command 183 = .ok (.iconst 1, 1) := by decide +kernel
theorem dX5_command_184 : decode cX5_command 184 = .ok (.iadd, 1) := by decide +kernel
theorem dX5_command_185 : decode cX5_command 185 = .ok (.iload_n 3, 1) := by decide +kernel
theorem dX5_command_186 : decode cX5_command 186 = .ok (.iastore, 1) := by decide +kernel
theorem dX5_command_187 : decode cX5_command 187 = .ok (.aload_n 0, 1) := by decide +kernel
theorem dX5_command_188 : decode cX5_command 188 = .ok (.getfield 25, 3) := by decide +kernel
theorem dX5_command_191 : decode cX5_command 191 = .ok (.iconst 3, 1) := by decide +kernel
theorem dX5_command_192 : decode cX5_command 192 = .ok (.aload_n 0, 1) := by decide +kernel
theorem dX5_command_193 : decode cX5_command 193 = .ok (.getfield 144, 3) := by decide +kernel
theorem dX5_command_196 : decode cX5_command 196 = .ok (.imul, 1) := by decide +kernel
theorem dX5_command_197 : decode cX5_command 197 = .ok (.iconst 2, 1) := by decide +kernel
theorem dX5_command_198 : decode cX5_command 198 = .ok (.iadd, 1) := by decide +kernel
theorem dX5_command_199 : decode cX5_command 199 = .ok (.iload 4, 2) := by decide +kernel
theorem dX5_command_201 : decode cX5_command 201 = .ok (.iastore, 1) := by decide +kernel
theorem dX5_command_202 : decode cX5_command 202 = .ok (.aload_n 0, 1) := by decide +kernel
theorem dX5_command_203 : decode cX5_command 203 = .ok (.dup, 1) := by decide +kernel
theorem dX5_command_204 : decode cX5_command 204 = .ok (.getfield 144, 3) := by decide +kernel
theorem dX5_command_207 : decode cX5_command 207 = .ok (.iconst 1, 1) := by decide +kernel
theorem dX5_command_208 : decode cX5_command 208 = .ok (.iadd, 1) := by decide +kernel
theorem dX5_command_209 : decode cX5_command 209 = .ok (.putfield 144, 3) := by decide +kernel
theorem dX5_command_212 : decode cX5_command 212 = .ok (.iload_n 3, 1) := by decide +kernel
theorem dX5_command_213 : decode cX5_command 213 = .ok (.ifCond .lt 12, 3) := by decide +kernel
theorem dX5_command_216 : decode cX5_command 216 = .ok (.iload 4, 2) := by decide +kernel
theorem dX5_command_218 : decode cX5_command 218 = .ok (.ifCond .lt 7, 3) := by decide +kernel
theorem dX5_command_221 : decode cX5_command 221 = .ok (.iconst 1, 1) := by decide +kernel
theorem dX5_command_222 : decode cX5_command 222 = .ok (.goto 4, 3) := by decide +kernel
theorem dX5_command_225 : decode cX5_command 225 = .ok (.iconst 0, 1) := by decide +kernel
theorem dX5_command_226 : decode cX5_command 226 = .ok (.ireturn, 1) := by decide +kernel
set_option maxRecDepth 20000 in
theorem ggX5_reads_X5_command : GoodIn wsX5_reads wsX5_command := goodIn_r _ [8, 9, 2, 10, 11, 12, 7, 13, 1, 3, 14, 15, 16, 17, 18, 19, 20, 21, 22, 23, 24, 25, 26, 27, 28, 29, 30, 31, 32, 33, 34, 35] (by decide +kernel) (by decide +kernel)
set_option maxRecDepth 20000 in
theorem gX5_reads_X5_command : GoodIn wsX5_reads (wsV RX5 147 RX5 yX5_command wsX5_command) := goodIn_app (goodIn_of _ (by decide +kernel)) ggX5_reads_X5_command
set_option maxRecDepth 20000 in
theorem ggX5_reads_X5_sees : GoodIn wsX5_reads wsX5_sees := goodIn_r _ [13, 1, 3, 14, 22, 23, 24, 25, 26, 27, 28, 29, 30, 31, 32, 33, 34, 35] (by decide +kernel) (by decide +kernel)
set_option maxRecDepth 20000 in
theorem gX5_reads_X5_sees : GoodIn wsX5_reads (wsV RX5 137 RX5 yX5_sees wsX5_sees) := goodIn_app (goodIn_of _ (by decide +kernel)) ggX5_reads_X5_sees
theorem dX5_reads_0 : decode cX5_reads 0 = .ok (.aload_n 0, 1) := by decide +kernel
theorem dX5_reads_1 : decode cX5_reads 1 = .ok (.iconst 0, 1) := by decide +kernel
theorem dX5_reads_2 : decode cX5_reads 2 = .ok (.putfield 134, 3) := by decide +kernel
theorem dX5_reads_5 : decode cX5_reads 5 = .ok (.aload_n 0, 1) := by decide +kernel
theorem dX5_reads_6 : decode cX5_reads 6 = .ok (.iconst 0, 1) := by decide +kernel
theorem dX5_reads_7 : decode cX5_reads 7 = .ok (.putfield 144, 3) := by decide +kernel
theorem dX5_reads_10 : decode cX5_reads 10 = .ok (.aload_n 0, 1) := by decide +kernel
theorem dX5_reads_11 : decode cX5_reads 11 = .ok (.invokevirtual 147, 3) := by decide +kernel
theorem dX5_reads_14 : decode cX5_reads 14 = .ok (.istore_n 1, 1) := by decide +kernel
theorem dX5_reads_15 : decode cX5_reads 15 = .ok (.iload_n 1, 1) := by decide +kernel
theorem dX5_reads_16 : decode cX5_reads 16 = .ok (.ifCond .eq 20, 3) := by decide +kernel
theorem dX5_reads_19 : decode cX5_reads 19 = .ok (.aload_n 0, 1) := by decide +kernel
theorem dX5_reads_20 : decode cX5_reads 20 = .ok (.bipush 59, 2) := by decide +kernel
theorem dX5_reads_22 : decode cX5_reads 22 = .ok (.invokevirtual 137, 3) := by decide +kernel
theorem dX5_reads_25 : decode cX5_reads 25 = .ok (.ifCond .eq 11, 3) := by decide +kernel
theorem dX5_reads_28 : decode cX5_reads 28 = .ok (.aload_n 0, 1) := by decide +kernel
theorem dX5_reads_29 : decode cX5_reads 29 = .ok (.invokevirtual 147, 3) := by decide +kernel
theorem dX5_reads_32 : decode cX5_reads 32 = .ok (.istore_n 1, 1) := by decide +kernel
theorem dX5_reads_33 : decode cX5_reads 33 = .ok (.goto (-18), 3) := by decide +kernel
theorem dX5_reads_36 : decode cX5_reads 36 = .ok (.iload_n 1, 1) := by decide +kernel
theorem dX5_reads_37 : decode cX5_reads 37 = .ok (.ifCond .eq 18, 3) := by decide +kernel
theorem dX5_reads_40 : decode cX5_reads 40 = .ok (.aload_n 0, 1) := by decide +kernel
theorem dX5_reads_41 : decode cX5_reads 41 = .ok (.getfield 134, 3) := by decide +kernel
theorem dX5_reads_44 : decode cX5_reads 44 = .ok (.aload_n 0, 1) := by decide +kernel
theorem dX5_reads_45 : decode cX5_reads 45 = .ok (.getfield 131, 3) := by decide +kernel
theorem dX5_reads_48 : decode cX5_reads 48 = .ok (.if_icmp .ne 7, 3) := by decide +kernel
theorem dX5_reads_51 : decode cX5_reads 51 = .ok (.iconst 1, 1) := by decide +kernel
theorem dX5_reads_52 : decode cX5_reads 52 = .ok (.goto 4, 3) := by decide +kernel
theorem dX5_reads_55 : decode cX5_reads 55 = .ok (.iconst 0, 1) := by decide +kernel
theorem dX5_reads_56 : decode cX5_reads 56 = .ok (.ireturn, 1) := by decide +kernel
set_option maxRecDepth 20000 in
theorem ggX5_textError_X5_reads : GoodIn wsX5_textError wsX5_reads := goodIn_r _ [7, 2, 8, 9, 10, 11, 12, 6, 13, 14, 15, 16, 17, 18, 19, 20, 21, 22, 23, 24, 25, 26, 27, 28, 29, 30, 31, 32, 33, 34, 35, 36, 37, 38, 39, 40] (by decide +kernel) (by decide +kernel)
set_option maxRecDepth 20000 in
theorem gX5_textError_X5_reads : GoodIn wsX5_textError (wsV RX5 151 RX5 yX5_reads wsX5_reads) := goodIn_app (goodIn_of _ (by decide +kernel)) ggX5_textError_X5_reads
theorem dX5_textError_0 : decode cX5_textError 0 = .ok (.aload_n 0, 1) := by decide +kernel
theorem dX5_textError_1 : decode cX5_textError 1 = .ok (.iconst 0, 1) := by decide +kernel
theorem dX5_textError_2 : decode cX5_textError 2 = .ok (.putfield 34, 3) := by decide +kernel
theorem dX5_textError_5 : decode cX5_textError 5 = .ok (.aload_n 0, 1) := by decide +kernel
theorem dX5_textError_6 : decode cX5_textError 6 = .ok (.invokevirtual 151, 3) := by decide +kernel
theorem dX5_textError_9 : decode cX5_textError 9 = .ok (.ifCond .eq 7, 3) := by decide +kernel
theorem dX5_textError_12 : decode cX5_textError 12 = .ok (.iconst (-1), 1) := by decide +kernel
theorem dX5_textError_13 : decode cX5_textError 13 = .ok (.goto 7, 3) := by decide +kernel
theorem dX5_textError_16 : decode cX5_textError 16 = .ok (.aload_n 0, 1) := by decide +kernel
theorem dX5_textError_17 : decode cX5_textError 17 = .ok (.getfield 134, 3) := by decide +kernel
theorem dX5_textError_20 : decode cX5_textError 20 = .ok (.ireturn, 1) := by decide +kernel
set_option maxRecDepth 20000 in
theorem ggX5_does_X5_isGrey : GoodIn wsX5_does wsX5_isGrey := goodIn_r _ [6, 7, 8, 5, 9] (by decide +kernel) (by decide +kernel)
set_option maxRecDepth 20000 in
theorem gX5_does_X5_isGrey : GoodIn wsX5_does (va_wsS RX5 93 yX5_isGrey wsX5_isGrey) := goodIn_app (goodIn_of _ (by decide +kernel)) ggX5_does_X5_isGrey
set_option maxRecDepth 20000 in
theorem ggX5_does_X5_in : GoodIn wsX5_does wsX5_in := goodIn_r _ [9] (by decide +kernel) (by decide +kernel)
set_option maxRecDepth 20000 in
theorem gX5_does_X5_in : GoodIn wsX5_does (va_wsS RX5 38 yX5_in wsX5_in) := goodIn_app (goodIn_of _ (by decide +kernel)) ggX5_does_X5_in
set_option maxRecDepth 20000 in
theorem ggX5_does_X5_inverts : GoodIn wsX5_does wsX5_inverts := goodIn_r _ [13, 2, 14, 15, 16, 5, 17, 22, 23, 24, 25, 26, 27, 28, 29, 30, 31, 32, 33, 34, 35] (by decide +kernel) (by decide +kernel)
set_option maxRecDepth 20000 in
theorem gX5_does_X5_inverts : GoodIn wsX5_does (wsV RX5 106 RX5 yX5_inverts wsX5_inverts) := goodIn_app (goodIn_of _ (by decide +kernel)) ggX5_does_X5_inverts
set_option maxRecDepth 20000 in
theorem ggX5_does_X5_thaws : GoodIn wsX5_does wsX5_thaws := goodIn_r _ [21, 2, 22, 23, 24, 25, 26, 27, 28, 29, 30, 31, 32, 33, 34, 35] (by decide +kernel) (by decide +kernel)
set_option maxRecDepth 20000 in
theorem gX5_does_X5_thaws : GoodIn wsX5_does (wsV RX5 109 RX5 yX5_thaws wsX5_thaws) := goodIn_app (goodIn_of _ (by decide +kernel)) ggX5_does_X5_thaws
theorem dX5_does_0 : decode cX5_does 0 = .ok (.aload_n 0, 1) := by decide +kernel
theorem dX5_does_1 : decode cX5_does 1 = .ok (.getfield 25, 3) := by decide +kernel
theorem dX5_does_4 : decode cX5_does 4 = .ok (.iload_n 1, 1) := by decide +kernel
theorem dX5_does_5 : decode cX5_does 5 = .ok (.iaload, 1) := by decide +kernel
theorem dX5_does_6 : decode cX5_does 6 = .ok (.istore_n 2, 1) := by decide +kernel
theorem dX5_does_7 : decode cX5_does 7 = .ok (.aload_n 0, 1) := by decide +kernel
theorem dX5_does_8 : decode cX5_does 8 = .ok (.getfield 25, 3) := by decide +kernel
theorem dX5_does_11 : decode cX5_does 11 = .ok (.iload_n 1, 1) := by decide +kernel
theorem dX5_does_12 : decode cX5_does 12 = .ok (.iconst 1, 1) := by decide +kernel
theorem dX5_does_13 : decode cX5_does 13 = .ok (.iadd, 1) := by decide +kernel
theorem dX5_does_14 : decode cX5_does 14 = .ok (.iaload, 1) := by decide +kernel
theorem dX5_does_15 : decode cX5_does 15 = .ok (.istore_n 3, 1) := by decide +kernel
theorem dX5_does_16 : decode cX5_does 16 = .ok (.aload_n 0, 1) := by decide +kernel
theorem dX5_does_17 : decode cX5_does 17 = .ok (.getfield 25, 3) := by decide +kernel
theorem dX5_does_20 : decode cX5_does 20 = .ok (.iload_n 1, 1) := by decide +kernel
theorem dX5_does_21 : decode cX5_does 21 = .ok (.iconst 2, 1) := by decide +kernel
theorem dX5_does_22 : decode cX5_does 22 = .ok (.iadd, 1) := by decide +kernel
theorem dX5_does_23 : decode cX5_does 23 = .ok (.iaload, 1) := by decide +kernel
theorem dX5_does_24 : decode cX5_does 24 = .ok (.istore 4, 2) := by decide +kernel
theorem dX5_does_26 : decode cX5_does 26 = .ok (.iload_n 2, 1) := by decide +kernel
theorem dX5_does_27 : decode cX5_does 27 = .ok (.bipush 103, 2) := by decide +kernel
theorem dX5_does_29 : decode cX5_does 29 = .ok (.if_icmp .ne 25, 3) := by decide +kernel
theorem dX5_does_32 : decode cX5_does 32 = .ok (.iload_n 3, 1) := by decide +kernel
theorem dX5_does_33 : decode cX5_does 33 = .ok (.bipush 64, 2) := by decide +kernel
theorem dX5_does_35 : decode cX5_does 35 = .ok (.if_icmp .ge 15, 3) := by decide +kernel
theorem dX5_does_38 : decode cX5_does 38 = .ok (.iload 4, 2) := by decide +kernel
theorem dX5_does_40 : decode cX5_does 40 = .ok (.invokestatic 93, 3) := by decide +kernel
theorem dX5_does_43 : decode cX5_does 43 = .ok (.ifCond .eq 7, 3) := by decide +kernel
theorem dX5_does_46 : decode cX5_does 46 = .ok (.iconst 1, 1) := by decide +kernel
theorem dX5_does_47 : decode cX5_does 47 = .ok (.goto 40, 3) := by decide +kernel
theorem dX5_does_50 : decode cX5_does 50 = .ok (.iconst 0, 1) := by decide +kernel
theorem dX5_does_51 : decode cX5_does 51 = .ok (.goto 36, 3) := by decide +kernel
theorem dX5_does_54 : decode cX5_does 54 = .ok (.iload_n 2, 1) := by decide +kernel
theorem dX5_does_55 : decode cX5_does 55 = .ok (.bipush 116, 2) := by decide +kernel
theorem dX5_does_57 : decode cX5_does 57 = .ok (.if_icmp .ne 14, 3) := by decide +kernel
theorem dX5_does_60 : decode cX5_does 60 = .ok (.iload_n 3, 1) := by decide +kernel
theorem dX5_does_61 : decode cX5_does 61 = .ok (.iconst 1, 1) := by decide +kernel
theorem dX5_does_62 : decode cX5_does 62 = .ok (.sipush 255, 3) := by decide +kernel
theorem dX5_does_65 : decode cX5_does 65 = .ok (.invokestatic 38, 3) := by decide +kernel
theorem dX5_does_68 : decode cX5_does 68 = .ok (.goto 19, 3) := by decide +kernel
theorem dX5_does_71 : decode cX5_does 71 = .ok (.iload_n 2, 1) := by decide +kernel
theorem dX5_does_72 : decode cX5_does 72 = .ok (.bipush 114, 2) := by decide +kernel
theorem dX5_does_74 : decode cX5_does 74 = .ok (.if_icmp .ne 8, 3) := by decide +kernel
theorem dX5_does_77 : decode cX5_does 77 = .ok (.iload_n 3, 1) := by decide +kernel
theorem dX5_does_78 : decode cX5_does 78 = .ok (.iconst 3, 1) := by decide +kernel
theorem dX5_does_79 : decode cX5_does 79 = .ok (.if_icmp .gt 7, 3) := by decide +kernel
theorem dX5_does_82 : decode cX5_does 82 = .ok (.iconst 1, 1) := by decide +kernel
theorem dX5_does_83 : decode cX5_does 83 = .ok (.goto 4, 3) := by decide +kernel
theorem dX5_does_86 : decode cX5_does 86 = .ok (.iconst 0, 1) := by decide +kernel
theorem dX5_does_87 : decode cX5_does 87 = .ok (.istore 5, 2) := by decide +kernel
theorem dX5_does_89 : decode cX5_does 89 = .ok (.iload 5, 2) := by decide +kernel
theorem dX5_does_91 : decode cX5_does 91 = .ok (.ifCond .eq 17, 3) := by decide +kernel
theorem dX5_does_94 : decode cX5_does 94 = .ok (.iload_n 2, 1) := by decide +kernel
theorem dX5_does_95 : decode cX5_does 95 = .ok (.bipush 103, 2) := by decide +kernel
theorem dX5_does_97 : decode cX5_does 97 = .ok (.if_icmp .ne 11, 3) := by decide +kernel
theorem dX5_does_100 : decode cX5_does 100 = .ok (.aload_n 0, 1) := by decide +kernel
theorem dX5_does_101 : decode cX5_does 101 = .ok (.getfield 7, 3) := by decide +kernel
theorem dX5_does_104 : decode cX5_does 104 = .ok (.iload_n 3, 1) := by decide +kernel
theorem dX5_does_105 : decode cX5_does 105 = .ok (.iload 4, 2) := by decide +kernel
theorem dX5_does_107 : decode cX5_does 107 = .ok (.iastore, 1) := by decide +kernel
theorem dX5_does_108 : decode cX5_does 108 = .ok (.iload 5, 2) := by decide +kernel
theorem dX5_does_110 : decode cX5_does 110 = .ok (.ifCond .eq 14, 3) := by decide +kernel
theorem dX5_does_113 : decode cX5_does 113 = .ok (.iload_n 2, 1) := by decide +kernel
theorem dX5_does_114 : decode cX5_does 114 = .ok (.bipush 105, 2) := by decide +kernel
theorem dX5_does_116 : decode cX5_does 116 = .ok (.if_icmp .ne 8, 3) := by decide +kernel
theorem dX5_does_119 : decode cX5_does 119 = .ok (.aload_n 0, 1) := by decide +kernel
theorem dX5_does_120 : decode cX5_does 120 = .ok (.invokevirtual 106, 3) := by decide +kernel
theorem dX5_does_123 : decode cX5_does 123 = .ok (.pop, 1) := by decide +kernel
theorem dX5_does_124 : decode cX5_does 124 = .ok (.iload 5, 2) := by decide +kernel
theorem dX5_does_126 : decode cX5_does 126 = .ok (.ifCond .eq 15, 3) := by decide +kernel
theorem dX5_does_129 : decode cX5_does 129 = .ok (.iload_n 2, 1) := by decide +kernel
theorem dX5_does_130 : decode cX5_does 130 = .ok (.bipush 116, 2) := by decide +kernel
theorem dX5_does_132 : decode cX5_does 132 = .ok (.if_icmp .ne 9, 3) := by decide +kernel
theorem dX5_does_135 : decode cX5_does 135 = .ok (.aload_n 0, 1) := by decide +kernel
theorem dX5_does_136 : decode cX5_does 136 = .ok (.iload_n 3, 1) := by decide +kernel
theorem dX5_does_137 : decode cX5_does 137 = .ok (.invokevirtual 109, 3) := by decide +kernel
theorem dX5_does_140 : decode cX5_does 140 = .ok (.pop, 1) := by decide +kernel
theorem dX5_does_141 : decode cX5_does 141 = .ok (.aload_n 0, 1) := by decide +kernel
theorem dX5_does_142 : decode cX5_does 142 = .ok (.getfield 7, 3) := by decide +kernel
theorem dX5_does_145 : decode cX5_does 145 = .ok (.bipush 66, 2) := by decide +kernel
theorem dX5_does_147 : decode cX5_does 147 = .ok (.iload 5, 2) := by decide +kernel
theorem dX5_does_149 : decode cX5_does 149 = .ok (.ifCond .eq 21, 3) := by decide +kernel
theorem dX5_does_152 : decode cX5_does 152 = .ok (.iload_n 2, 1) := by decide +kernel
theorem dX5_does_153 : decode cX5_does 153 = .ok (.bipush 119, 2) := by decide +kernel
theorem dX5_does_155 : decode cX5_does 155 = .ok (.if_icmp .ne 15, 3) := by decide +kernel
theorem dX5_does_158 : decode cX5_does 158 = .ok (.iconst 1, 1) := by decide +kernel
theorem dX5_does_159 : decode cX5_does 159 = .ok (.aload_n 0, 1) := by decide +kernel
theorem dX5_does_160 : decode cX5_does 160 = .ok (.getfield 7, 3) := by decide +kernel
theorem dX5_does_163 : decode cX5_does 163 = .ok (.bipush 66, 2) := by decide +kernel
theorem dX5_does_165 : decode cX5_does 165 = .ok (.iaload, 1) := by decide +kernel
theorem dX5_does_166 : decode cX5_does 166 = .ok (.isub, 1) := by decide +kernel
theorem dX5_does_167 : decode cX5_does 167 = .ok (.goto 10, 3) := by decide +kernel
theorem dX5_does_170 : decode cX5_does 170 = .ok (.aload_n 0, 1) := by decide +kernel
theorem dX5_does_171 : decode cX5_does 171 = .ok (.getfield 7, 3) := by decide +kernel
theorem dX5_does_174 : decode cX5_does 174 = .ok (.bipush 66, 2) := by decide +kernel
theorem dX5_does_176 : decode cX5_does 176 = .ok (.iaload, 1) := by decide +kernel
theorem dX5_does_177 : decode cX5_does 177 = .ok (.iastore, 1) := by decide +kernel
theorem dX5_does_178 : decode cX5_does 178 = .ok (.aload_n 0, 1) := by decide +kernel
theorem dX5_does_179 : decode cX5_does 179 = .ok (.getfield 7, 3) := by decide +kernel
theorem dX5_does_182 : decode cX5_does 182 = .ok (.bipush 64, 2) := by decide +kernel
theorem dX5_does_184 : decode cX5_does 184 = .ok (.iload 5, 2) := by decide +kernel
theorem dX5_does_186 : decode cX5_does 186 = .ok (.ifCond .eq 13, 3) := by decide +kernel
theorem dX5_does_189 : decode cX5_does 189 = .ok (.iload_n 2, 1) := by decide +kernel
theorem dX5_does_190 : decode cX5_does 190 = .ok (.bipush 114, 2) := by decide +kernel
theorem dX5_does_192 : decode cX5_does 192 = .ok (.if_icmp .ne 7, 3) := by decide +kernel
theorem dX5_does_195 : decode cX5_does 195 = .ok (.iload_n 3, 1) := by decide +kernel
theorem dX5_does_196 : decode cX5_does 196 = .ok (.goto 10, 3) := by decide +kernel
theorem dX5_does_199 : decode cX5_does 199 = .ok (.aload_n 0, 1) := by decide +kernel
theorem dX5_does_200 : decode cX5_does 200 = .ok (.getfield 7, 3) := by decide +kernel
theorem dX5_does_203 : decode cX5_does 203 = .ok (.bipush 64, 2) := by decide +kernel
theorem dX5_does_205 : decode cX5_does 205 = .ok (.iaload, 1) := by decide +kernel
theorem dX5_does_206 : decode cX5_does 206 = .ok (.iastore, 1) := by decide +kernel
theorem dX5_does_207 : decode cX5_does 207 = .ok (.iload 5, 2) := by decide +kernel
theorem dX5_does_209 : decode cX5_does 209 = .ok (.ireturn, 1) := by decide +kernel
set_option maxRecDepth 20000 in
theorem ggX5_runText_X5_reads : GoodIn wsX5_runText wsX5_reads := goodIn_r _ [8, 9, 3, 2, 10, 11, 12, 7, 13, 14, 15, 16, 17, 18, 19, 20, 21, 22, 23, 24, 25, 26, 60, 61, 62, 63, 64, 65, 66, 67, 68, 69, 70, 71, 72, 73] (by decide +kernel) (by decide +kernel)
set_option maxRecDepth 20000 in
theorem gX5_runText_X5_reads : GoodIn wsX5_runText (wsV RX5 151 RX5 yX5_reads wsX5_reads) := goodIn_app (goodIn_of _ (by decide +kernel)) ggX5_runText_X5_reads
set_option maxRecDepth 20000 in
theorem ggX5_runText_X5_fails : GoodIn wsX5_runText wsX5_fails := goodIn_r _ [30, 1, 60, 61, 62, 63, 64, 65, 66, 67, 68, 69, 70, 71, 72, 73] (by decide +kernel) (by decide +kernel)
set_option maxRecDepth 20000 in
theorem gX5_runText_X5_fails : GoodIn wsX5_runText (wsV RX5 96 RX5 yX5_fails wsX5_fails) := goodIn_app (goodIn_of _ (by decide +kernel)) ggX5_runText_X5_fails
set_option maxRecDepth 20000 in
theorem ggX5_runText_X5_keepsState : GoodIn wsX5_runText wsX5_keepsState := goodIn_r _ [34, 35, 36, 37, 38, 39, 7, 40, 60, 61, 62, 63, 64, 65, 66, 67, 68, 69, 70, 71, 72, 73] (by decide +kernel) (by decide +kernel)
set_option maxRecDepth 20000 in
theorem gX5_runText_X5_keepsState : GoodIn wsX5_runText (wsV RX5 99 RX5 yX5_keepsState wsX5_keepsState) := goodIn_app (goodIn_of _ (by decide +kernel)) ggX5_runText_X5_keepsState
set_option maxRecDepth 20000 in
theorem ggX5_runText_X5_does : GoodIn wsX5_runText wsX5_does := goodIn_r _ [44, 14, 37, 45, 46, 7, 47, 24, 25, 26, 48, 49, 50, 51, 52, 53, 54, 55, 56, 57, 58, 59, 60, 61, 62, 63, 64, 65, 66, 67, 68, 69, 70, 71, 72, 73] (by decide +kernel) (by decide +kernel)
set_option maxRecDepth 20000 in
theorem gX5_runText_X5_does : GoodIn wsX5_runText (wsV RX5 154 RX5 yX5_does wsX5_does) := goodIn_app (goodIn_of _ (by decide +kernel)) ggX5_runText_X5_does
theorem dX5_runText_0 : decode cX5_runText 0 = .ok (.aload_n 0, 1) := by decide +kernel
theorem dX5_runText_1 : decode cX5_runText 1 = .ok (.iconst 0, 1) := by decide +kernel
theorem dX5_runText_2 : decode cX5_runText 2 = .ok (.putfield 34, 3) := by decide +kernel
theorem dX5_runText_5 : decode cX5_runText 5 = .ok (.aload_n 0, 1) := by decide +kernel
theorem dX5_runText_6 : decode cX5_runText 6 = .ok (.invokevirtual 151, 3) := by decide +kernel
theorem dX5_runText_9 : decode cX5_runText 9 = .ok (.ifCond .ne 9, 3) := by decide +kernel
theorem dX5_runText_12 : decode cX5_runText 12 = .ok (.aload_n 0, 1) := by decide +kernel
theorem dX5_runText_13 : decode cX5_runText 13 = .ok (.iconst 1, 1) := by decide +kernel
theorem dX5_runText_14 : decode cX5_runText 14 = .ok (.invokevirtual 96, 3) := by decide +kernel
theorem dX5_runText_17 : decode cX5_runText 17 = .ok (.ireturn, 1) := by decide +kernel
theorem dX5_runText_18 : decode cX5_runText 18 = .ok (.aload_n 0, 1) := by decide +kernel
theorem dX5_runText_19 : decode cX5_runText 19 = .ok (.invokevirtual 99, 3) := by decide +kernel
theorem dX5_runText_22 : decode cX5_runText 22 = .ok (.aload_n 0, 1) := by decide +kernel
theorem dX5_runText_23 : decode cX5_runText 23 = .ok (.iconst 0, 1) := by decide +kernel
theorem dX5_runText_24 : decode cX5_runText 24 = .ok (.putfield 131, 3) := by decide +kernel
theorem dX5_runText_27 : decode cX5_runText 27 = .ok (.iconst 0, 1) := by decide +kernel
theorem dX5_runText_28 : decode cX5_runText 28 = .ok (.istore_n 1, 1) := by decide +kernel
theorem dX5_runText_29 : decode cX5_runText 29 = .ok (.iload_n 1, 1) := by decide +kernel
theorem dX5_runText_30 : decode cX5_runText 30 = .ok (.aload_n 0, 1) := by decide +kernel
theorem dX5_runText_31 : decode cX5_runText 31 = .ok (.getfield 144, 3) := by decide +kernel
theorem dX5_runText_34 : decode cX5_runText 34 = .ok (.if_icmp .ge 19, 3) := by decide +kernel
theorem dX5_runText_37 : decode cX5_runText 37 = .ok (.aload_n 0, 1) := by decide +kernel
theorem dX5_runText_38 : decode cX5_runText 38 = .ok (.iconst 3, 1) := by decide +kernel
theorem dX5_runText_39 : decode cX5_runText 39 = .ok (.iload_n 1, 1) := by decide +kernel
theorem dX5_runText_40 : decode cX5_runText 40 = .ok (.imul, 1) := by decide +kernel
theorem dX5_runText_41 : decode cX5_runText 41 = .ok (.invokevirtual 154, 3) := by decide +kernel
theorem dX5_runText_44 : decode cX5_runText 44 = .ok (.ifCond .eq 9, 3) := by decide +kernel
theorem dX5_runText_47 : decode cX5_runText 47 = .ok (.iinc 1 1, 3) := by decide +kernel
theorem dX5_runText_50 : decode cX5_runText 50 = .ok (.goto (-21), 3) := by decide +kernel
theorem dX5_runText_53 : decode cX5_runText 53 = .ok (.iload_n 1, 1) := by decide +kernel
theorem dX5_runText_54 : decode cX5_runText 54 = .ok (.ireturn, 1) := by decide +kernel
set_option maxRecDepth 20000 in
theorem ggX5_undo_X5_fails : GoodIn wsX5_undo wsX5_fails := goodIn_r _ [9, 1, 13, 14, 15, 16, 17, 18, 19, 20, 21, 22, 23, 24, 25, 26] (by decide +kernel) (by decide +kernel)
set_option maxRecDepth 20000 in
theorem gX5_undo_X5_fails : GoodIn wsX5_undo (wsV RX5 96 RX5 yX5_fails wsX5_fails) := goodIn_app (goodIn_of _ (by decide +kernel)) ggX5_undo_X5_fails
set_option maxRecDepth 20000 in
theorem ggX5_undo_X5_copies : GoodIn wsX5_undo wsX5_copies := goodIn_r _ [12] (by decide +kernel) (by decide +kernel)
set_option maxRecDepth 20000 in
theorem gX5_undo_X5_copies : GoodIn wsX5_undo (va_wsS RX5 45 yX5_copies wsX5_copies) := goodIn_app (goodIn_of _ (by decide +kernel)) ggX5_undo_X5_copies
theorem dX5_undo_0 : decode cX5_undo 0 = .ok (.aload_n 0, 1) := by decide +kernel
theorem dX5_undo_1 : decode cX5_undo 1 = .ok (.iconst 0, 1) := by decide +kernel
theorem dX5_undo_2 : decode cX5_undo 2 = .ok (.putfield 34, 3) := by decide +kernel
theorem dX5_undo_5 : decode cX5_undo 5 = .ok (.aload_n 0, 1) := by decide +kernel
theorem dX5_undo_6 : decode cX5_undo 6 = .ok (.getfield 42, 3) := by decide +kernel
theorem dX5_undo_9 : decode cX5_undo 9 = .ok (.ifCond .ne 9, 3) := by decide +kernel
theorem dX5_undo_12 : decode cX5_undo 12 = .ok (.aload_n 0, 1) := by decide +kernel
theorem dX5_undo_13 : decode cX5_undo 13 = .ok (.iconst 1, 1) := by decide +kernel
theorem dX5_undo_14 : decode cX5_undo 14 = .ok (.invokevirtual 96, 3) := by decide +kernel
theorem dX5_undo_17 : decode cX5_undo 17 = .ok (.ireturn, 1) := by decide +kernel
theorem dX5_undo_18 : decode cX5_undo 18 = .ok (.aload_n 0, 1) := by decide +kernel
theorem dX5_undo_19 : decode cX5_undo 19 = .ok (.dup, 1) := by decide +kernel
theorem dX5_undo_20 : decode cX5_undo 20 = .ok (.getfield 42, 3) := by decide +kernel
theorem dX5_undo_23 : decode cX5_undo 23 = .ok (.iconst 1, 1) := by decide +kernel
theorem dX5_undo_24 : decode cX5_undo 24 = .ok (.isub, 1) := by decide +kernel
theorem dX5_undo_25 : decode cX5_undo 25 = .ok (.putfield 42, 3) := by decide +kernel
theorem dX5_undo_28 : decode cX5_undo 28 = .ok (.aload_n 0, 1) := by decide +kernel
theorem dX5_undo_29 : decode cX5_undo 29 = .ok (.getfield 13, 3) := by decide +kernel
theorem dX5_undo_32 : decode cX5_undo 32 = .ok (.bipush 67, 2) := by decide +kernel
theorem dX5_undo_34 : decode cX5_undo 34 = .ok (.aload_n 0, 1) := by decide +kernel
theorem dX5_undo_35 : decode cX5_undo 35 = .ok (.getfield 42, 3) := by decide +kernel
theorem dX5_undo_38 : decode cX5_undo 38 = .ok (.imul, 1) := by decide +kernel
theorem dX5_undo_39 : decode cX5_undo 39 = .ok (.aload_n 0, 1) := by decide +kernel
theorem dX5_undo_40 : decode cX5_undo 40 = .ok (.getfield 7, 3) := by decide +kernel
theorem dX5_undo_43 : decode cX5_undo 43 = .ok (.iconst 0, 1) := by decide +kernel
theorem dX5_undo_44 : decode cX5_undo 44 = .ok (.invokestatic 45, 3) := by decide +kernel
theorem dX5_undo_47 : decode cX5_undo 47 = .ok (.aload_n 0, 1) := by decide +kernel
theorem dX5_undo_48 : decode cX5_undo 48 = .ok (.getfield 42, 3) := by decide +kernel
theorem dX5_undo_51 : decode cX5_undo 51 = .ok (.ireturn, 1) := by decide +kernel
theorem dX5_undoCount_0 : decode cX5_undoCount 0 = .ok (.aload_n 0, 1) := by decide +kernel
theorem dX5_undoCount_1 : decode cX5_undoCount 1 = .ok (.iconst 0, 1) := by decide +kernel
theorem dX5_undoCount_2 : decode cX5_undoCount 2 = .ok (.putfield 34, 3) := by decide +kernel
theorem dX5_undoCount_5 : decode cX5_undoCount 5 = .ok (.aload_n 0, 1) := by decide +kernel
theorem dX5_undoCount_6 : decode cX5_undoCount 6 = .ok (.getfield 42, 3) := by decide +kernel
theorem dX5_undoCount_9 : decode cX5_undoCount 9 = .ok (.ireturn, 1) := by decide +kernel
set_option maxRecDepth 20000 in
theorem ggX5_saveState_X5_in : GoodIn wsX5_saveState wsX5_in := goodIn_r _ [8] (by decide +kernel) (by decide +kernel)
set_option maxRecDepth 20000 in
theorem gX5_saveState_X5_in : GoodIn wsX5_saveState (va_wsS RX5 38 yX5_in wsX5_in) := goodIn_app (goodIn_of _ (by decide +kernel)) ggX5_saveState_X5_in
set_option maxRecDepth 20000 in
theorem ggX5_saveState_X5_fails : GoodIn wsX5_saveState wsX5_fails := goodIn_r _ [12, 1, 20, 21, 22, 23, 24, 25, 26, 27, 28, 29, 30, 31, 32, 33] (by decide +kernel) (by decide +kernel)
set_option maxRecDepth 20000 in
theorem gX5_saveState_X5_fails : GoodIn wsX5_saveState (wsV RX5 96 RX5 yX5_fails wsX5_fails) := goodIn_app (goodIn_of _ (by decide +kernel)) ggX5_saveState_X5_fails
set_option maxRecDepth 20000 in
theorem ggX5_saveState_X5_copies : GoodIn wsX5_saveState wsX5_copies := goodIn_r _ [15] (by decide +kernel) (by decide +kernel)
set_option maxRecDepth 20000 in
theorem gX5_saveState_X5_copies : GoodIn wsX5_saveState (va_wsS RX5 45 yX5_copies wsX5_copies) := goodIn_app (goodIn_of _ (by decide +kernel)) ggX5_saveState_X5_copies
set_option maxRecDepth 20000 in
theorem ggX5_saveState_X5_sum : GoodIn wsX5_saveState wsX5_sum := goodIn_r _ [19, 2, 20, 21, 22, 23, 24, 25, 26, 27, 28, 29, 30, 31, 32, 33] (by decide +kernel) (by decide +kernel)
set_option maxRecDepth 20000 in
theorem gX5_saveState_X5_sum : GoodIn wsX5_saveState (wsV RX5 102 RX5 yX5_sum wsX5_sum) := goodIn_app (goodIn_of _ (by decide +kernel)) ggX5_saveState_X5_sum
theorem dX5_saveState_0 : decode cX5_saveState 0 = .ok (.aload_n 0, 1) := by decide +kernel
theorem dX5_saveState_1 : decode cX5_saveState 1 = .ok (.iconst 0, 1) := by decide +kernel
theorem dX5_saveState_2 : decode cX5_saveState 2 = .ok (.putfield 34, 3) := by decide +kernel
theorem dX5_saveState_5 : decode cX5_saveState 5 = .ok (.iload_n 1, 1) := by decide +kernel
theorem dX5_saveState_6 : decode cX5_saveState 6 = .ok (.iconst 0, 1) := by decide +kernel
theorem dX5_saveState_7 : decode cX5_saveState 7 = .ok (.iconst 1, 1) := by decide +kernel
theorem dX5_saveState_8 : decode cX5_saveState 8 = .ok (.invokestatic 38, 3) := by decide +kernel
theorem dX5_saveState_11 : decode cX5_saveState 11 = .ok (.ifCond .ne 9, 3) := by decide +kernel
theorem dX5_saveState_14 : decode cX5_saveState 14 = .ok (.aload_n 0, 1) := by decide +kernel
theorem dX5_saveState_15 : decode cX5_saveState 15 = .ok (.iconst 1, 1) := by decide +kernel
theorem dX5_saveState_16 : decode cX5_saveState 16 = .ok (.invokevirtual 96, 3) := by decide +kernel
theorem dX5_saveState_19 : decode cX5_saveState 19 = .ok (.ireturn, 1) := by decide +kernel
theorem dX5_saveState_20 : decode cX5_saveState 20 = .ok (.aload_n 0, 1) := by decide +kernel
theorem dX5_saveState_21 : decode cX5_saveState 21 = .ok (.getfield 7, 3) := by decide +kernel
theorem dX5_saveState_24 : decode cX5_saveState 24 = .ok (.iconst 0, 1) := by decide +kernel
theorem dX5_saveState_25 : decode cX5_saveState 25 = .ok (.aload_n 0, 1) := by decide +kernel
theorem dX5_saveState_26 : decode cX5_saveState 26 = .ok (.getfield 16, 3) := by decide +kernel
theorem dX5_saveState_29 : decode cX5_saveState 29 = .ok (.bipush 67, 2) := by decide +kernel
theorem dX5_saveState_31 : decode cX5_saveState 31 = .ok (.iload_n 1, 1) := by decide +kernel
theorem dX5_saveState_32 : decode cX5_saveState 32 = .ok (.imul, 1) := by decide +kernel
theorem dX5_saveState_33 : decode cX5_saveState 33 = .ok (.invokestatic 45, 3) := by decide +kernel
theorem dX5_saveState_36 : decode cX5_saveState 36 = .ok (.aload_n 0, 1) := by decide +kernel
theorem dX5_saveState_37 : decode cX5_saveState 37 = .ok (.getfield 19, 3) := by decide +kernel
theorem dX5_saveState_40 : decode cX5_saveState 40 = .ok (.iload_n 1, 1) := by decide +kernel
theorem dX5_saveState_41 : decode cX5_saveState 41 = .ok (.iconst 1, 1) := by decide +kernel
theorem dX5_saveState_42 : decode cX5_saveState 42 = .ok (.iastore, 1) := by decide +kernel
theorem dX5_saveState_43 : decode cX5_saveState 43 = .ok (.aload_n 0, 1) := by decide +kernel
theorem dX5_saveState_44 : decode cX5_saveState 44 = .ok (.invokevirtual 102, 3) := by decide +kernel
theorem dX5_saveState_47 : decode cX5_saveState 47 = .ok (.ireturn, 1) := by decide +kernel
set_option maxRecDepth 20000 in
theorem ggX5_loadState_X5_in : GoodIn wsX5_loadState wsX5_in := goodIn_r _ [8] (by decide +kernel) (by decide +kernel)
set_option maxRecDepth 20000 in
theorem gX5_loadState_X5_in : GoodIn wsX5_loadState (va_wsS RX5 38 yX5_in wsX5_in) := goodIn_app (goodIn_of _ (by decide +kernel)) ggX5_loadState_X5_in
set_option maxRecDepth 20000 in
theorem ggX5_loadState_X5_fails : GoodIn wsX5_loadState wsX5_fails := goodIn_r _ [12, 1, 26, 27, 28, 29, 30, 31, 32, 33, 34, 35, 36, 37, 38, 39] (by decide +kernel) (by decide +kernel)
set_option maxRecDepth 20000 in
theorem gX5_loadState_X5_fails : GoodIn wsX5_loadState (wsV RX5 96 RX5 yX5_fails wsX5_fails) := goodIn_app (goodIn_of _ (by decide +kernel)) ggX5_loadState_X5_fails
set_option maxRecDepth 20000 in
theorem ggX5_loadState_X5_keepsState : GoodIn wsX5_loadState wsX5_keepsState := goodIn_r _ [16, 17, 18, 4, 19, 20, 7, 21, 26, 27, 28, 29, 30, 31, 32, 33, 34, 35, 36, 37, 38, 39] (by decide +kernel) (by decide +kernel)
set_option maxRecDepth 20000 in
theorem gX5_loadState_X5_keepsState : GoodIn wsX5_loadState (wsV RX5 99 RX5 yX5_keepsState wsX5_keepsState) := goodIn_app (goodIn_of _ (by decide +kernel)) ggX5_loadState_X5_keepsState
set_option maxRecDepth 20000 in
theorem ggX5_loadState_X5_copies : GoodIn wsX5_loadState wsX5_copies := goodIn_r _ [21] (by decide +kernel) (by decide +kernel)
set_option maxRecDepth 20000 in
theorem gX5_loadState_X5_copies : GoodIn wsX5_loadState (va_wsS RX5 45 yX5_copies wsX5_copies) := goodIn_app (goodIn_of _ (by decide +kernel)) ggX5_loadState_X5_copies
set_option maxRecDepth 20000 in
theorem ggX5_loadState_X5_sum : GoodIn wsX5_loadState wsX5_sum := goodIn_r _ [25, 4, 26, 27, 28, 29, 30, 31, 32, 33, 34, 35, 36, 37, 38, 39] (by decide +kernel) (by decide +kernel)
set_option maxRecDepth 20000 in
theorem gX5_loadState_X5_sum : GoodIn wsX5_loadState (wsV RX5 102 RX5 yX5_sum wsX5_sum) := goodIn_app (goodIn_of _ (by decide +kernel)) ggX5_loadState_X5_sum
theorem dX5_loadState_0 : decode cX5_loadState 0 = .ok (.aload_n 0, 1) := by decide +kernel
theorem dX5_loadState_1 : decode cX5_loadState 1 = .ok (.iconst 0, 1) := by decide +kernel
theorem dX5_loadState_2 : decode cX5_loadState 2 = .ok (.putfield 34, 3) := by decide +kernel
theorem dX5_loadState_5 : decode cX5_loadState 5 = .ok (.iload_n 1, 1) := by decide +kernel
theorem dX5_loadState_6 : decode cX5_loadState 6 = .ok (.iconst 0, 1) := by decide +kernel
theorem dX5_loadState_7 : decode cX5_loadState 7 = .ok (.iconst 1, 1) := by decide +kernel
theorem dX5_loadState_8 : decode cX5_loadState 8 = .ok (.invokestatic 38, 3) := by decide +kernel
theorem dX5_loadState_11 : decode cX5_loadState 11 = .ok (.ifCond .ne 9, 3) := by decide +kernel
theorem dX5_loadState_14 : decode cX5_loadState 14 = .ok (.aload_n 0, 1) := by decide +kernel
theorem dX5_loadState_15 : decode cX5_loadState 15 = .ok (.iconst 1, 1) := by decide +kernel
theorem dX5_loadState_16 : decode cX5_loadState 16 = .ok (.invokevirtual 96, 3) := by decide +kernel
theorem dX5_loadState_19 : decode cX5_loadState 19 = .ok (.ireturn, 1) := by decide +kernel
theorem dX5_loadState_20 : decode cX5_loadState 20 = .ok (.aload_n 0, 1) := by decide +kernel
theorem dX5_loadState_21 : decode cX5_loadState 21 = .ok (.getfield 19, 3) := by decide +kernel
theorem dX5_loadState_24 : decode cX5_loadState 24 = .ok (.iload_n 1, 1) := by decide +kernel
theorem dX5_loadState_25 : decode cX5_loadState 25 = .ok (.iaload, 1) := by decide +kernel
theorem dX5_loadState_26 : decode cX5_loadState 26 = .ok (.ifCond .ne 9, 3) := by decide +kernel
theorem dX5_loadState_29 : decode cX5_loadState 29 = .ok (.aload_n 0, 1) := by decide +kernel
theorem dX5_loadState_30 : decode cX5_loadState 30 = .ok (.iconst 2, 1) := by decide +kernel
theorem dX5_loadState_31 : decode cX5_loadState 31 = .ok (.invokevirtual 96, 3) := by decide +kernel
theorem dX5_loadState_34 : decode cX5_loadState 34 = .ok (.ireturn, 1) := by decide +kernel
theorem dX5_loadState_35 : decode cX5_loadState 35 = .ok (.aload_n 0, 1) := by decide +kernel
theorem dX5_loadState_36 : decode cX5_loadState 36 = .ok (.invokevirtual 99, 3) := by decide +kernel
theorem dX5_loadState_39 : decode cX5_loadState 39 = .ok (.aload_n 0, 1) := by decide +kernel
theorem dX5_loadState_40 : decode cX5_loadState 40 = .ok (.getfield 16, 3) := by decide +kernel
theorem dX5_loadState_43 : decode cX5_loadState 43 = .ok (.bipush 67, 2) := by decide +kernel
theorem dX5_loadState_45 : decode cX5_loadState 45 = .ok (.iload_n 1, 1) := by decide +kernel
theorem dX5_loadState_46 : decode cX5_loadState 46 = .ok (.imul, 1) := by decide +kernel
theorem dX5_loadState_47 : decode cX5_loadState 47 = .ok (.aload_n 0, 1) := by decide +kernel
theorem dX5_loadState_48 : decode cX5_loadState 48 = .ok (.getfield 7, 3) := by decide +kernel
theorem dX5_loadState_51 : decode cX5_loadState 51 = .ok (.iconst 0, 1) := by decide +kernel
theorem dX5_loadState_52 : decode cX5_loadState 52 = .ok (.invokestatic 45, 3) := by decide +kernel
theorem dX5_loadState_55 : decode cX5_loadState 55 = .ok (.aload_n 0, 1) := by decide +kernel
theorem dX5_loadState_56 : decode cX5_loadState 56 = .ok (.invokevirtual 102, 3) := by decide +kernel
theorem dX5_loadState_59 : decode cX5_loadState 59 = .ok (.ireturn, 1) := by decide +kernel
