theorem dX0_init_0 : decode cX0_init 0 = .ok (.aload_n 0, 1) := by decide +kernel
theorem dX0_init_1 : decode cX0_init 1 = .ok (.invokespecial 3, 3) := by decide +kernel
theorem dX0_init_4 : decode cX0_init 4 = .ok (.aload_n 0, 1) := by decide +kernel
theorem dX0_init_5 : decode cX0_init 5 = .ok (.bipush 80, 2) := by decide +kernel
theorem dX0_init_7 : decode cX0_init 7 = .ok (.newarray .char, 2) := by decide +kernel
theorem dX0_init_9 : decode cX0_init 9 = .ok (.putfield 11, 3) := by decide +kernel
theorem dX0_init_12 : decode cX0_init 12 = .ok (.return_, 1) := by decide +kernel
theorem dX0_countCharacters_0 : decode cX0_countCharacters 0 = .ok (.lload_n 0, 1) := by decide +kernel
theorem dX0_countCharacters_1 : decode cX0_countCharacters 1 = .ok (.lstore_n 2, 1) := by decide +kernel
theorem dX0_countCharacters_2 : decode cX0_countCharacters 2 = .ok (.iconst 0, 1) := by decide +kernel
theorem dX0_countCharacters_3 : decode cX0_countCharacters 3 = .ok (.istore 4, 2) := by decide +kernel
theorem dX0_countCharacters_5 : decode cX0_countCharacters 5 = .ok (.iload 4, 2) := by decide +kernel
theorem dX0_countCharacters_7 : decode cX0_countCharacters 7 = .ok (.bipush 8, 2) := by decide +kernel
theorem dX0_countCharacters_9 : decode cX0_countCharacters 9 = .ok (.if_icmp .ge 51, 3) := by decide +kernel
theorem dX0_countCharacters_12 : decode cX0_countCharacters 12 = .ok (.lload_n 2, 1) := by decide +kernel
theorem dX0_countCharacters_13 : decode cX0_countCharacters 13 = .ok (.ldc2_w 15, 3) := by decide +kernel
theorem dX0_countCharacters_16 : decode cX0_countCharacters 16 = .ok (.land, 1) := by decide +kernel
theorem dX0_countCharacters_17 : decode cX0_countCharacters 17 = .ok (.lconst 0, 1) := by decide +kernel
theorem dX0_countCharacters_18 : decode cX0_countCharacters 18 = .ok (.lcmp, 1) := by decide +kernel
theorem dX0_countCharacters_19 : decode cX0_countCharacters 19 = .ok (.ifCond .eq 41, 3) := by decide +kernel
theorem dX0_countCharacters_22 : decode cX0_countCharacters 22 = .ok (.lload_n 2, 1) := by decide +kernel
theorem dX0_countCharacters_23 : decode cX0_countCharacters 23 = .ok (.ldc2_w 15, 3) := by decide +kernel
theorem dX0_countCharacters_26 : decode cX0_countCharacters 26 = .ok (.land, 1) := by decide +kernel
theorem dX0_countCharacters_27 : decode cX0_countCharacters 27 = .ok (.lstore 5, 2) := by decide +kernel
theorem dX0_countCharacters_29 : decode cX0_countCharacters 29 = .ok (.lload 5, 2) := by decide +kernel
theorem dX0_countCharacters_31 : decode cX0_countCharacters 31 = .ok (.ldc2_w 17, 3) := by decide +kernel
theorem dX0_countCharacters_34 : decode cX0_countCharacters 34 = .ok (.lcmp, 1) := by decide +kernel
theorem dX0_countCharacters_35 : decode cX0_countCharacters 35 = .ok (.ifCond .lt 12, 3) := by decide +kernel
theorem dX0_countCharacters_38 : decode cX0_countCharacters 38 = .ok (.lload 5, 2) := by decide +kernel
theorem dX0_countCharacters_40 : decode cX0_countCharacters 40 = .ok (.ldc2_w 19, 3) := by decide +kernel
theorem dX0_countCharacters_43 : decode cX0_countCharacters 43 = .ok (.lcmp, 1) := by decide +kernel
theorem dX0_countCharacters_44 : decode cX0_countCharacters 44 = .ok (.ifCond .le 5, 3) := by decide +kernel
theorem dX0_countCharacters_47 : decode cX0_countCharacters 47 = .ok (.iconst (-1), 1) := by decide +kernel
theorem dX0_countCharacters_48 : decode cX0_countCharacters 48 = .ok (.ireturn, 1) := by decide +kernel
theorem dX0_countCharacters_49 : decode cX0_countCharacters 49 = .ok (.lload_n 2, 1) := by decide +kernel
theorem dX0_countCharacters_50 : decode cX0_countCharacters 50 = .ok (.bipush 8, 2) := by decide +kernel
theorem dX0_countCharacters_52 : decode cX0_countCharacters 52 = .ok (.lushr, 1) := by decide +kernel
theorem dX0_countCharacters_53 : decode cX0_countCharacters 53 = .ok (.lstore_n 2, 1) := by decide +kernel
theorem dX0_countCharacters_54 : decode cX0_countCharacters 54 = .ok (.iinc 4 1, 3) := by decide +kernel
theorem dX0_countCharacters_57 : decode cX0_countCharacters 57 = .ok (.goto (-52), 3) := by decide +kernel
theorem dX0_countCharacters_60 : decode cX0_countCharacters 60 = .ok (.iload 4, 2) := by decide +kernel
theorem dX0_countCharacters_62 : decode cX0_countCharacters 62 = .ok (.ifCond .eq 9, 3) := by decide +kernel
theorem dX0_countCharacters_65 : decode cX0_countCharacters 65 = .ok (.lload_n 2, 1) := by decide +kernel
theorem dX0_countCharacters_66 : decode cX0_countCharacters 66 = .ok (.lconst 0, 1) := by decide +kernel
theorem dX0_countCharacters_67 : decode cX0_countCharacters 67 = .ok (.lcmp, 1) := by decide +kernel
theorem dX0_countCharacters_68 : decode cX0_countCharacters 68 = .ok (.ifCond .eq 7, 3) := by decide +kernel
theorem dX0_countCharacters_71 : decode cX0_countCharacters 71 = .ok (.iconst (-1), 1) := by decide +kernel
theorem dX0_countCharacters_72 : decode cX0_countCharacters 72 = .ok (.goto 5, 3) := by decide +kernel
theorem dX0_countCharacters_75 : decode cX0_countCharacters 75 = .ok (.iload 4, 2) := by decide +kernel
theorem dX0_countCharacters_77 : decode cX0_countCharacters 77 = .ok (.ireturn, 1) := by decide +kernel
theorem dX0_hasRoomFor_0 : decode cX0_hasRoomFor 0 = .ok (.aload_n 0, 1) := by decide +kernel
theorem dX0_hasRoomFor_1 : decode cX0_hasRoomFor 1 = .ok (.getfield 21, 3) := by decide +kernel
theorem dX0_hasRoomFor_4 : decode cX0_hasRoomFor 4 = .ok (.iload_n 1, 1) := by decide +kernel
theorem dX0_hasRoomFor_5 : decode cX0_hasRoomFor 5 = .ok (.iadd, 1) := by decide +kernel
theorem dX0_hasRoomFor_6 : decode cX0_hasRoomFor 6 = .ok (.bipush 80, 2) := by decide +kernel
theorem dX0_hasRoomFor_8 : decode cX0_hasRoomFor 8 = .ok (.if_icmp .gt 7, 3) := by decide +kernel
theorem dX0_hasRoomFor_11 : decode cX0_hasRoomFor 11 = .ok (.iconst 1, 1) := by decide +kernel
theorem dX0_hasRoomFor_12 : decode cX0_hasRoomFor 12 = .ok (.goto 4, 3) := by decide +kernel
theorem dX0_hasRoomFor_15 : decode cX0_hasRoomFor 15 = .ok (.iconst 0, 1) := by decide +kernel
theorem dX0_hasRoomFor_16 : decode cX0_hasRoomFor 16 = .ok (.ireturn, 1) := by decide +kernel
theorem dX0_append_0 : decode cX0_append 0 = .ok (.iload_n 3, 1) := by decide +kernel
theorem dX0_append_1 : decode cX0_append 1 = .ok (.iconst 1, 1) := by decide +kernel
theorem dX0_append_2 : decode cX0_append 2 = .ok (.isub, 1) := by decide +kernel
theorem dX0_append_3 : decode cX0_append 3 = .ok (.istore 4, 2) := by decide +kernel
theorem dX0_append_5 : decode cX0_append 5 = .ok (.iload 4, 2) := by decide +kernel
theorem dX0_append_7 : decode cX0_append 7 = .ok (.ifCond .lt 50, 3) := by decide +kernel
theorem dX0_append_10 : decode cX0_append 10 = .ok (.aload_n 0, 1) := by decide +kernel
theorem dX0_append_11 : decode cX0_append 11 = .ok (.getfield 21, 3) := by decide +kernel
theorem dX0_append_14 : decode cX0_append 14 = .ok (.bipush 80, 2) := by decide +kernel
theorem dX0_append_16 : decode cX0_append 16 = .ok (.if_icmp .ge 41, 3) := by decide +kernel
theorem dX0_append_19 : decode cX0_append 19 = .ok (.aload_n 0, 1) := by decide +kernel
theorem dX0_append_20 : decode cX0_append 20 = .ok (.getfield 11, 3) := by decide +kernel
theorem dX0_append_23 : decode cX0_append 23 = .ok (.aload_n 0, 1) := by decide +kernel
theorem dX0_append_24 : decode cX0_append 24 = .ok (.getfield 21, 3) := by decide +kernel
theorem dX0_append_27 : decode cX0_append 27 = .ok (.lload_n 1, 1) := by decide +kernel
theorem dX0_append_28 : decode cX0_append 28 = .ok (.bipush 8, 2) := by decide +kernel
theorem dX0_append_30 : decode cX0_append 30 = .ok (.iload 4, 2) := by decide +kernel
theorem dX0_append_32 : decode cX0_append 32 = .ok (.imul, 1) := by decide +kernel
theorem dX0_append_33 : decode cX0_append 33 = .ok (.lushr, 1) := by decide +kernel
theorem dX0_append_34 : decode cX0_append 34 = .ok (.ldc2_w 15, 3) := by decide +kernel
theorem dX0_append_37 : decode cX0_append 37 = .ok (.land, 1) := by decide +kernel
theorem dX0_append_38 : decode cX0_append 38 = .ok (.l2i, 1) := by decide +kernel
theorem dX0_append_39 : decode cX0_append 39 = .ok (.i2c, 1) := by decide +kernel
theorem dX0_append_40 : decode cX0_append 40 = .ok (.castore, 1) := by decide +kernel
theorem dX0_append_41 : decode cX0_append 41 = .ok (.aload_n 0, 1) := by decide +kernel
theorem dX0_append_42 : decode cX0_append 42 = .ok (.dup, 1) := by decide +kernel
theorem dX0_append_43 : decode cX0_append 43 = .ok (.getfield 21, 3) := by decide +kernel
theorem dX0_append_46 : decode cX0_append 46 = .ok (.iconst 1, 1) := by decide +kernel
theorem dX0_append_47 : decode cX0_append 47 = .ok (.iadd, 1) := by decide +kernel
theorem dX0_append_48 : decode cX0_append 48 = .ok (.putfield 21, 3) := by decide +kernel
theorem dX0_append_51 : decode cX0_append 51 = .ok (.iinc 4 (-1), 3) := by decide +kernel
theorem dX0_append_54 : decode cX0_append 54 = .ok (.goto (-49), 3) := by decide +kernel
theorem dX0_append_57 : decode cX0_append 57 = .ok (.return_, 1) := by decide +kernel
set_option maxRecDepth 20000 in
theorem ggX0_firstError_X0_awaitedAfter : GoodIn wsX0_firstError wsX0_awaitedAfter := goodIn_r _ [6, 7, 8, 5, 9, 10, 11, 12, 13, 14, 15, 16, 17, 18] (by decide +kernel) (by decide +kernel)
set_option maxRecDepth 20000 in
theorem gX0_firstError_X0_awaitedAfter : GoodIn wsX0_firstError (va_wsS RX0 25 yX0_awaitedAfter wsX0_awaitedAfter) := goodIn_app (goodIn_of _ (by decide +kernel)) ggX0_firstError_X0_awaitedAfter
theorem dX0_firstError_0 : decode cX0_firstError 0 = .ok (.iconst 0, 1) := by decide +kernel
theorem dX0_firstError_1 : decode cX0_firstError 1 = .ok (.istore_n 1, 1) := by decide +kernel
theorem dX0_firstError_2 : decode cX0_firstError 2 = .ok (.iconst 0, 1) := by decide +kernel
theorem dX0_firstError_3 : decode cX0_firstError 3 = .ok (.istore_n 2, 1) := by decide +kernel
theorem dX0_firstError_4 : decode cX0_firstError 4 = .ok (.iload_n 2, 1) := by decide +kernel
theorem dX0_firstError_5 : decode cX0_firstError 5 = .ok (.aload_n 0, 1) := by decide +kernel
theorem dX0_firstError_6 : decode cX0_firstError 6 = .ok (.getfield 21, 3) := by decide +kernel
theorem dX0_firstError_9 : decode cX0_firstError 9 = .ok (.if_icmp .ge 27, 3) := by decide +kernel
theorem dX0_firstError_12 : decode cX0_firstError 12 = .ok (.iload_n 1, 1) := by decide +kernel
theorem dX0_firstError_13 : decode cX0_firstError 13 = .ok (.aload_n 0, 1) := by decide +kernel
theorem dX0_firstError_14 : decode cX0_firstError 14 = .ok (.getfield 11, 3) := by decide +kernel
theorem dX0_firstError_17 : decode cX0_firstError 17 = .ok (.iload_n 2, 1) := by decide +kernel
theorem dX0_firstError_18 : decode cX0_firstError 18 = .ok (.caload, 1) := by decide +kernel
theorem dX0_firstError_19 : decode cX0_firstError 19 = .ok (.invokestatic 25, 3) := by decide +kernel
theorem dX0_firstError_22 : decode cX0_firstError 22 = .ok (.istore_n 1, 1) := by decide +kernel
theorem dX0_firstError_23 : decode cX0_firstError 23 = .ok (.iload_n 1, 1) := by decide +kernel
theorem dX0_firstError_24 : decode cX0_firstError 24 = .ok (.iconst (-1), 1) := by decide +kernel
theorem dX0_firstError_25 : decode cX0_firstError 25 = .ok (.if_icmp .ne 5, 3) := by decide +kernel
theorem dX0_firstError_28 : decode cX0_firstError 28 = .ok (.iload_n 2, 1) := by decide +kernel
theorem dX0_firstError_29 : decode cX0_firstError 29 = .ok (.ireturn, 1) := by decide +kernel
theorem dX0_firstError_30 : decode cX0_firstError 30 = .ok (.iinc 2 1, 3) := by decide +kernel
theorem dX0_firstError_33 : decode cX0_firstError 33 = .ok (.goto (-29), 3) := by decide +kernel
theorem dX0_firstError_36 : decode cX0_firstError 36 = .ok (.iload_n 1, 1) := by decide +kernel
theorem dX0_firstError_37 : decode cX0_firstError 37 = .ok (.bipush 9, 2) := by decide +kernel
theorem dX0_firstError_39 : decode cX0_firstError 39 = .ok (.if_icmp .eq 15, 3) := by decide +kernel
theorem dX0_firstError_42 : decode cX0_firstError 42 = .ok (.iload_n 1, 1) := by decide +kernel
theorem dX0_firstError_43 : decode cX0_firstError 43 = .ok (.bipush 6, 2) := by decide +kernel
theorem dX0_firstError_45 : decode cX0_firstError 45 = .ok (.if_icmp .eq 9, 3) := by decide +kernel
theorem dX0_firstError_48 : decode cX0_firstError 48 = .ok (.iload_n 1, 1) := by decide +kernel
theorem dX0_firstError_49 : decode cX0_firstError 49 = .ok (.bipush 7, 2) := by decide +kernel
theorem dX0_firstError_51 : decode cX0_firstError 51 = .ok (.if_icmp .ne 7, 3) := by decide +kernel
theorem dX0_firstError_54 : decode cX0_firstError 54 = .ok (.iconst 1, 1) := by decide +kernel
theorem dX0_firstError_55 : decode cX0_firstError 55 = .ok (.goto 4, 3) := by decide +kernel
theorem dX0_firstError_58 : decode cX0_firstError 58 = .ok (.iconst 0, 1) := by decide +kernel
theorem dX0_firstError_59 : decode cX0_firstError 59 = .ok (.istore_n 2, 1) := by decide +kernel
theorem dX0_firstError_60 : decode cX0_firstError 60 = .ok (.iload_n 2, 1) := by decide +kernel
theorem dX0_firstError_61 : decode cX0_firstError 61 = .ok (.ifCond .eq 7, 3) := by decide +kernel
theorem dX0_firstError_64 : decode cX0_firstError 64 = .ok (.iconst (-1), 1) := by decide +kernel
theorem dX0_firstError_65 : decode cX0_firstError 65 = .ok (.goto 7, 3) := by decide +kernel
theorem dX0_firstError_68 : decode cX0_firstError 68 = .ok (.aload_n 0, 1) := by decide +kernel
theorem dX0_firstError_69 : decode cX0_firstError 69 = .ok (.getfield 21, 3) := by decide +kernel
theorem dX0_firstError_72 : decode cX0_firstError 72 = .ok (.ireturn, 1) := by decide +kernel
set_option maxRecDepth 20000 in
theorem ggX0_awaitedAfter_X0_awaitedAfterCommand : GoodIn wsX0_awaitedAfter wsX0_awaitedAfterCommand := goodIn_r _ [4] (by decide +kernel) (by decide +kernel)
set_option maxRecDepth 20000 in
theorem gX0_awaitedAfter_X0_awaitedAfterCommand : GoodIn wsX0_awaitedAfter (va_wsS RX0 29 yX0_awaitedAfterCommand wsX0_awaitedAfterCommand) := goodIn_app (goodIn_of _ (by decide +kernel)) ggX0_awaitedAfter_X0_awaitedAfterCommand
set_option maxRecDepth 20000 in
theorem ggX0_awaitedAfter_X0_awaitedInNumber : GoodIn wsX0_awaitedAfter wsX0_awaitedInNumber := goodIn_r _ [7, 8, 9, 3, 10, 11, 12, 13] (by decide +kernel) (by decide +kernel)
set_option maxRecDepth 20000 in
theorem gX0_awaitedAfter_X0_awaitedInNumber : GoodIn wsX0_awaitedAfter (va_wsS RX0 33 yX0_awaitedInNumber wsX0_awaitedInNumber) := goodIn_app (goodIn_of _ (by decide +kernel)) ggX0_awaitedAfter_X0_awaitedInNumber
set_option maxRecDepth 20000 in
theorem ggX0_awaitedAfter_X0_awaitedAfterDigit : GoodIn wsX0_awaitedAfter wsX0_awaitedAfterDigit := goodIn_r _ [10, 11, 12, 3, 13] (by decide +kernel) (by decide +kernel)
set_option maxRecDepth 20000 in
theorem gX0_awaitedAfter_X0_awaitedAfterDigit : GoodIn wsX0_awaitedAfter (va_wsS RX0 37 yX0_awaitedAfterDigit wsX0_awaitedAfterDigit) := goodIn_app (goodIn_of _ (by decide +kernel)) ggX0_awaitedAfter_X0_awaitedAfterDigit
theorem dX0_awaitedAfter_0 : decode cX0_awaitedAfter 0 = .ok (.iload_n 0, 1) := by decide +kernel
theorem dX0_awaitedAfter_1 : decode cX0_awaitedAfter 1 = .ok (.tableswitch 157 0 8 #[51, 56, 63, 79, 95, 107, 116, 133, 150], 51) := by decide +kernel
theorem dX0_awaitedAfter_52 : decode cX0_awaitedAfter 52 = .ok (.iload_n 1, 1) := by decide +kernel
theorem dX0_awaitedAfter_53 : decode cX0_awaitedAfter 53 = .ok (.invokestatic 29, 3) := by decide +kernel
theorem dX0_awaitedAfter_56 : decode cX0_awaitedAfter 56 = .ok (.ireturn, 1) := by decide +kernel
theorem dX0_awaitedAfter_57 : decode cX0_awaitedAfter 57 = .ok (.iload_n 1, 1) := by decide +kernel
theorem dX0_awaitedAfter_58 : decode cX0_awaitedAfter 58 = .ok (.iconst 4, 1) := by decide +kernel
theorem dX0_awaitedAfter_59 : decode cX0_awaitedAfter 59 = .ok (.iconst 2, 1) := by decide +kernel
theorem dX0_awaitedAfter_60 : decode cX0_awaitedAfter 60 = .ok (.invokestatic 33, 3) := by decide +kernel
theorem dX0_awaitedAfter_63 : decode cX0_awaitedAfter 63 = .ok (.ireturn, 1) := by decide +kernel
theorem dX0_awaitedAfter_64 : decode cX0_awaitedAfter 64 = .ok (.iload_n 1, 1) := by decide +kernel
theorem dX0_awaitedAfter_65 : decode cX0_awaitedAfter 65 = .ok (.bipush 61, 2) := by decide +kernel
theorem dX0_awaitedAfter_67 : decode cX0_awaitedAfter 67 = .ok (.if_icmp .ne 7, 3) := by decide +kernel
theorem dX0_awaitedAfter_70 : decode cX0_awaitedAfter 70 = .ok (.iconst 5, 1) := by decide +kernel
theorem dX0_awaitedAfter_71 : decode cX0_awaitedAfter 71 = .ok (.goto 8, 3) := by decide +kernel
theorem dX0_awaitedAfter_74 : decode cX0_awaitedAfter 74 = .ok (.iload_n 1, 1) := by decide +kernel
theorem dX0_awaitedAfter_75 : decode cX0_awaitedAfter 75 = .ok (.iconst 3, 1) := by decide +kernel
theorem dX0_awaitedAfter_76 : decode cX0_awaitedAfter 76 = .ok (.invokestatic 37, 3) := by decide +kernel
theorem dX0_awaitedAfter_79 : decode cX0_awaitedAfter 79 = .ok (.ireturn, 1) := by decide +kernel
theorem dX0_awaitedAfter_80 : decode cX0_awaitedAfter 80 = .ok (.iload_n 1, 1) := by decide +kernel
theorem dX0_awaitedAfter_81 : decode cX0_awaitedAfter 81 = .ok (.bipush 61, 2) := by decide +kernel
theorem dX0_awaitedAfter_83 : decode cX0_awaitedAfter 83 = .ok (.if_icmp .ne 7, 3) := by decide +kernel
theorem dX0_awaitedAfter_86 : decode cX0_awaitedAfter 86 = .ok (.iconst 5, 1) := by decide +kernel
theorem dX0_awaitedAfter_87 : decode cX0_awaitedAfter 87 = .ok (.goto 8, 3) := by decide +kernel
theorem dX0_awaitedAfter_90 : decode cX0_awaitedAfter 90 = .ok (.iload_n 1, 1) := by decide +kernel
theorem dX0_awaitedAfter_91 : decode cX0_awaitedAfter 91 = .ok (.iconst 4, 1) := by decide +kernel
theorem dX0_awaitedAfter_92 : decode cX0_awaitedAfter 92 = .ok (.invokestatic 37, 3) := by decide +kernel
theorem dX0_awaitedAfter_95 : decode cX0_awaitedAfter 95 = .ok (.ireturn, 1) := by decide +kernel
theorem dX0_awaitedAfter_96 : decode cX0_awaitedAfter 96 = .ok (.iload_n 1, 1) := by decide +kernel
theorem dX0_awaitedAfter_97 : decode cX0_awaitedAfter 97 = .ok (.bipush 61, 2) := by decide +kernel
theorem dX0_awaitedAfter_99 : decode cX0_awaitedAfter 99 = .ok (.if_icmp .ne 7, 3) := by decide +kernel
theorem dX0_awaitedAfter_102 : decode cX0_awaitedAfter 102 = .ok (.iconst 5, 1) := by decide +kernel
theorem dX0_awaitedAfter_103 : decode cX0_awaitedAfter 103 = .ok (.goto 4, 3) := by decide +kernel
theorem dX0_awaitedAfter_106 : decode cX0_awaitedAfter 106 = .ok (.iconst (-1), 1) := by decide +kernel
theorem dX0_awaitedAfter_107 : decode cX0_awaitedAfter 107 = .ok (.ireturn, 1) := by decide +kernel
theorem dX0_awaitedAfter_108 : decode cX0_awaitedAfter 108 = .ok (.iload_n 1, 1) := by decide +kernel
theorem dX0_awaitedAfter_109 : decode cX0_awaitedAfter 109 = .ok (.bipush 9, 2) := by decide +kernel
theorem dX0_awaitedAfter_111 : decode cX0_awaitedAfter 111 = .ok (.bipush 6, 2) := by decide +kernel
theorem dX0_awaitedAfter_113 : decode cX0_awaitedAfter 113 = .ok (.invokestatic 33, 3) := by decide +kernel
theorem dX0_awaitedAfter_116 : decode cX0_awaitedAfter 116 = .ok (.ireturn, 1) := by decide +kernel
theorem dX0_awaitedAfter_117 : decode cX0_awaitedAfter 117 = .ok (.iload_n 1, 1) := by decide +kernel
theorem dX0_awaitedAfter_118 : decode cX0_awaitedAfter 118 = .ok (.bipush 59, 2) := by decide +kernel
theorem dX0_awaitedAfter_120 : decode cX0_awaitedAfter 120 = .ok (.if_icmp .ne 7, 3) := by decide +kernel
theorem dX0_awaitedAfter_123 : decode cX0_awaitedAfter 123 = .ok (.iconst 0, 1) := by decide +kernel
theorem dX0_awaitedAfter_124 : decode cX0_awaitedAfter 124 = .ok (.goto 9, 3) := by decide +kernel
theorem dX0_awaitedAfter_127 : decode cX0_awaitedAfter 127 = .ok (.iload_n 1, 1) := by decide +kernel
theorem dX0_awaitedAfter_128 : decode cX0_awaitedAfter 128 = .ok (.bipush 7, 2) := by decide +kernel
theorem dX0_awaitedAfter_130 : decode cX0_awaitedAfter 130 = .ok (.invokestatic 37, 3) := by decide +kernel
theorem dX0_awaitedAfter_133 : decode cX0_awaitedAfter 133 = .ok (.ireturn, 1) := by decide +kernel
theorem dX0_awaitedAfter_134 : decode cX0_awaitedAfter 134 = .ok (.iload_n 1, 1) := by decide +kernel
theorem dX0_awaitedAfter_135 : decode cX0_awaitedAfter 135 = .ok (.bipush 59, 2) := by decide +kernel
theorem dX0_awaitedAfter_137 : decode cX0_awaitedAfter 137 = .ok (.if_icmp .ne 7, 3) := by decide +kernel
theorem dX0_awaitedAfter_140 : decode cX0_awaitedAfter 140 = .ok (.iconst 0, 1) := by decide +kernel
theorem dX0_awaitedAfter_141 : decode cX0_awaitedAfter 141 = .ok (.goto 9, 3) := by decide +kernel
theorem dX0_awaitedAfter_144 : decode cX0_awaitedAfter 144 = .ok (.iload_n 1, 1) := by decide +kernel
theorem dX0_awaitedAfter_145 : decode cX0_awaitedAfter 145 = .ok (.bipush 9, 2) := by decide +kernel
theorem dX0_awaitedAfter_147 : decode cX0_awaitedAfter 147 = .ok (.invokestatic 37, 3) := by decide +kernel
theorem dX0_awaitedAfter_150 : decode cX0_awaitedAfter 150 = .ok (.ireturn, 1) := by decide +kernel
theorem dX0_awaitedAfter_151 : decode cX0_awaitedAfter 151 = .ok (.iload_n 1, 1) := by decide +kernel
theorem dX0_awaitedAfter_152 : decode cX0_awaitedAfter 152 = .ok (.bipush 9, 2) := by decide +kernel
theorem dX0_awaitedAfter_154 : decode cX0_awaitedAfter 154 = .ok (.invokestatic 37, 3) := by decide +kernel
theorem dX0_awaitedAfter_157 : decode cX0_awaitedAfter 157 = .ok (.ireturn, 1) := by decide +kernel
theorem dX0_awaitedAfter_158 : decode cX0_awaitedAfter 158 = .ok (.iload_n 1, 1) := by decide +kernel
theorem dX0_awaitedAfter_159 : decode cX0_awaitedAfter 159 = .ok (.bipush 59, 2) := by decide +kernel
theorem dX0_awaitedAfter_161 : decode cX0_awaitedAfter 161 = .ok (.if_icmp .ne 7, 3) := by decide +kernel
theorem dX0_awaitedAfter_164 : decode cX0_awaitedAfter 164 = .ok (.iconst 0, 1) := by decide +kernel
theorem dX0_awaitedAfter_165 : decode cX0_awaitedAfter 165 = .ok (.goto 4, 3) := by decide +kernel
theorem dX0_awaitedAfter_168 : decode cX0_awaitedAfter 168 = .ok (.iconst (-1), 1) := by decide +kernel
theorem dX0_awaitedAfter_169 : decode cX0_awaitedAfter 169 = .ok (.ireturn, 1) := by decide +kernel
theorem dX0_awaitedAfterCommand_0 : decode cX0_awaitedAfterCommand 0 = .ok (.iload_n 0, 1) := by decide +kernel
theorem dX0_awaitedAfterCommand_1 : decode cX0_awaitedAfterCommand 1 = .ok (.lookupswitch 61 #[(103, 51), (105, 58), (114, 55), (116, 53), (119, 58)], 51) := by decide +kernel
theorem dX0_awaitedAfterCommand_52 : decode cX0_awaitedAfterCommand 52 = .ok (.iconst 1, 1) := by decide +kernel
theorem dX0_awaitedAfterCommand_53 : decode cX0_awaitedAfterCommand 53 = .ok (.ireturn, 1) := by decide +kernel
theorem dX0_awaitedAfterCommand_54 : decode cX0_awaitedAfterCommand 54 = .ok (.iconst 5, 1) := by decide +kernel
theorem dX0_awaitedAfterCommand_55 : decode cX0_awaitedAfterCommand 55 = .ok (.ireturn, 1) := by decide +kernel
theorem dX0_awaitedAfterCommand_56 : decode cX0_awaitedAfterCommand 56 = .ok (.bipush 8, 2) := by decide +kernel
theorem dX0_awaitedAfterCommand_58 : decode cX0_awaitedAfterCommand 58 = .ok (.ireturn, 1) := by decide +kernel
theorem dX0_awaitedAfterCommand_59 : decode cX0_awaitedAfterCommand 59 = .ok (.bipush 9, 2) := by decide +kernel
theorem dX0_awaitedAfterCommand_61 : decode cX0_awaitedAfterCommand 61 = .ok (.ireturn, 1) := by decide +kernel
theorem dX0_awaitedAfterCommand_62 : decode cX0_awaitedAfterCommand 62 = .ok (.iconst (-1), 1) := by decide +kernel
theorem dX0_awaitedAfterCommand_63 : decode cX0_awaitedAfterCommand 63 = .ok (.ireturn, 1) := by decide +kernel
set_option maxRecDepth 20000 in
theorem ggX0_awaitedInNumber_X0_awaitedAfterDigit : GoodIn wsX0_awaitedInNumber wsX0_awaitedAfterDigit := goodIn_r _ [4, 5, 6, 3, 7] (by decide +kernel) (by decide +kernel)
set_option maxRecDepth 20000 in
theorem gX0_awaitedInNumber_X0_awaitedAfterDigit : GoodIn wsX0_awaitedInNumber (va_wsS RX0 37 yX0_awaitedAfterDigit wsX0_awaitedAfterDigit) := goodIn_app (goodIn_of _ (by decide +kernel)) ggX0_awaitedInNumber_X0_awaitedAfterDigit
theorem dX0_awaitedInNumber_0 : decode cX0_awaitedInNumber 0 = .ok (.iload_n 0, 1) := by decide +kernel
theorem dX0_awaitedInNumber_1 : decode cX0_awaitedInNumber 1 = .ok (.bipush 48, 2) := by decide +kernel
theorem dX0_awaitedInNumber_3 : decode cX0_awaitedInNumber 3 = .ok (.if_icmp .ne 7, 3) := by decide +kernel
theorem dX0_awaitedInNumber_6 : decode cX0_awaitedInNumber 6 = .ok (.iload_n 1, 1) := by decide +kernel
theorem dX0_awaitedInNumber_7 : decode cX0_awaitedInNumber 7 = .ok (.goto 8, 3) := by decide +kernel
theorem dX0_awaitedInNumber_10 : decode cX0_awaitedInNumber 10 = .ok (.iload_n 0, 1) := by decide +kernel
theorem dX0_awaitedInNumber_11 : decode cX0_awaitedInNumber 11 = .ok (.iload_n 2, 1) := by decide +kernel
theorem dX0_awaitedInNumber_12 : decode cX0_awaitedInNumber 12 = .ok (.invokestatic 37, 3) := by decide +kernel
theorem dX0_awaitedInNumber_15 : decode cX0_awaitedInNumber 15 = .ok (.ireturn, 1) := by decide +kernel
set_option maxRecDepth 20000 in
theorem ggX0_awaitedAfterDigit_X0_isDigit : GoodIn wsX0_awaitedAfterDigit wsX0_isDigit := goodIn_r _ [4] (by decide +kernel) (by decide +kernel)
set_option maxRecDepth 20000 in
theorem gX0_awaitedAfterDigit_X0_isDigit : GoodIn wsX0_awaitedAfterDigit (va_wsS RX0 41 yX0_isDigit wsX0_isDigit) := goodIn_app (goodIn_of _ (by decide +kernel)) ggX0_awaitedAfterDigit_X0_isDigit
theorem dX0_awaitedAfterDigit_0 : decode cX0_awaitedAfterDigit 0 = .ok (.iload_n 0, 1) := by decide +kernel
theorem dX0_awaitedAfterDigit_1 : decode cX0_awaitedAfterDigit 1 = .ok (.invokestatic 41, 3) := by decide +kernel
theorem dX0_awaitedAfterDigit_4 : decode cX0_awaitedAfterDigit 4 = .ok (.ifCond .eq 7, 3) := by decide +kernel
theorem dX0_awaitedAfterDigit_7 : decode cX0_awaitedAfterDigit 7 = .ok (.iload_n 1, 1) := by decide +kernel
theorem dX0_awaitedAfterDigit_8 : decode cX0_awaitedAfterDigit 8 = .ok (.goto 4, 3) := by decide +kernel
theorem dX0_awaitedAfterDigit_11 : decode cX0_awaitedAfterDigit 11 = .ok (.iconst (-1), 1) := by decide +kernel
theorem dX0_awaitedAfterDigit_12 : decode cX0_awaitedAfterDigit 12 = .ok (.ireturn, 1) := by decide +kernel
theorem dX0_isDigit_0 : decode cX0_isDigit 0 = .ok (.iload_n 0, 1) := by decide +kernel
theorem dX0_isDigit_1 : decode cX0_isDigit 1 = .ok (.bipush 48, 2) := by decide +kernel
theorem dX0_isDigit_3 : decode cX0_isDigit 3 = .ok (.if_icmp .lt 13, 3) := by decide +kernel
theorem dX0_isDigit_6 : decode cX0_isDigit 6 = .ok (.iload_n 0, 1) := by decide +kernel
theorem dX0_isDigit_7 : decode cX0_isDigit 7 = .ok (.bipush 57, 2) := by decide +kernel
theorem dX0_isDigit_9 : decode cX0_isDigit 9 = .ok (.if_icmp .gt 7, 3) := by decide +kernel
theorem dX0_isDigit_12 : decode cX0_isDigit 12 = .ok (.iconst 1, 1) := by decide +kernel
theorem dX0_isDigit_13 : decode cX0_isDigit 13 = .ok (.goto 4, 3) := by decide +kernel
theorem dX0_isDigit_16 : decode cX0_isDigit 16 = .ok (.iconst 0, 1) := by decide +kernel
theorem dX0_isDigit_17 : decode cX0_isDigit 17 = .ok (.ireturn, 1) := by decide +kernel
theorem dX0_characterAt_0 : decode cX0_characterAt 0 = .ok (.iload_n 1, 1) := by decide +kernel
theorem dX0_characterAt_1 : decode cX0_characterAt 1 = .ok (.ifCond .lt 20, 3) := by decide +kernel
theorem dX0_characterAt_4 : decode cX0_characterAt 4 = .ok (.iload_n 1, 1) := by decide +kernel
theorem dX0_characterAt_5 : decode cX0_characterAt 5 = .ok (.aload_n 0, 1) := by decide +kernel
theorem dX0_characterAt_6 : decode cX0_characterAt 6 = .ok (.getfield 21, 3) := by decide +kernel
theorem dX0_characterAt_9 : decode cX0_characterAt 9 = .ok (.if_icmp .ge 12, 3) := by decide +kernel
theorem dX0_characterAt_12 : decode cX0_characterAt 12 = .ok (.aload_n 0, 1) := by decide +kernel
theorem dX0_characterAt_13 : decode cX0_characterAt 13 = .ok (.getfield 11, 3) := by decide +kernel
theorem dX0_characterAt_16 : decode cX0_characterAt 16 = .ok (.iload_n 1, 1) := by decide +kernel
theorem dX0_characterAt_17 : decode cX0_characterAt 17 = .ok (.caload, 1) := by decide +kernel
theorem dX0_characterAt_18 : decode cX0_characterAt 18 = .ok (.goto 5, 3) := by decide +kernel
theorem dX0_characterAt_21 : decode cX0_characterAt 21 = .ok (.bipush 32, 2) := by decide +kernel
theorem dX0_characterAt_23 : decode cX0_characterAt 23 = .ok (.ireturn, 1) := by decide +kernel
set_option maxRecDepth 20000 in
theorem ggX0_beginsCommand_X0_characterAt : GoodIn wsX0_beginsCommand wsX0_characterAt := goodIn_r _ [5, 6, 7, 8, 9] (by decide +kernel) (by decide +kernel)
set_option maxRecDepth 20000 in
theorem gX0_beginsCommand_X0_characterAt : GoodIn wsX0_beginsCommand (wsV RX0 45 RX0 yX0_characterAt wsX0_characterAt) := goodIn_app (goodIn_of _ (by decide +kernel)) ggX0_beginsCommand_X0_characterAt
theorem dX0_beginsCommand_0 : decode cX0_beginsCommand 0 = .ok (.iload_n 1, 1) := by decide +kernel
theorem dX0_beginsCommand_1 : decode cX0_beginsCommand 1 = .ok (.ifCond .eq 15, 3) := by decide +kernel
theorem dX0_beginsCommand_4 : decode cX0_beginsCommand 4 = .ok (.aload_n 0, 1) := by decide +kernel
theorem dX0_beginsCommand_5 : decode cX0_beginsCommand 5 = .ok (.iload_n 1, 1) := by decide +kernel
theorem dX0_beginsCommand_6 : decode cX0_beginsCommand 6 = .ok (.iconst 1, 1) := by decide +kernel
theorem dX0_beginsCommand_7 : decode cX0_beginsCommand 7 = .ok (.isub, 1) := by decide +kernel
theorem dX0_beginsCommand_8 : decode cX0_beginsCommand 8 = .ok (.invokevirtual 45, 3) := by decide +kernel
theorem dX0_beginsCommand_11 : decode cX0_beginsCommand 11 = .ok (.bipush 59, 2) := by decide +kernel
theorem dX0_beginsCommand_13 : decode cX0_beginsCommand 13 = .ok (.if_icmp .ne 7, 3) := by decide +kernel
theorem dX0_beginsCommand_16 : decode cX0_beginsCommand 16 = .ok (.iconst 1, 1) := by decide +kernel
theorem dX0_beginsCommand_17 : decode cX0_beginsCommand 17 = .ok (.goto 4, 3) := by decide +kernel
theorem dX0_beginsCommand_20 : decode cX0_beginsCommand 20 = .ok (.iconst 0, 1) := by decide +kernel
theorem dX0_beginsCommand_21 : decode cX0_beginsCommand 21 = .ok (.ireturn, 1) := by decide +kernel
theorem dX0_find_0 : decode cX0_find 0 = .ok (.iload_n 2, 1) := by decide +kernel
theorem dX0_find_1 : decode cX0_find 1 = .ok (.iconst 0, 1) := by decide +kernel
theorem dX0_find_2 : decode cX0_find 2 = .ok (.invokestatic 49, 3) := by decide +kernel
theorem dX0_find_5 : decode cX0_find 5 = .ok (.istore_n 3, 1) := by decide +kernel
theorem dX0_find_6 : decode cX0_find 6 = .ok (.iload_n 3, 1) := by decide +kernel
theorem dX0_find_7 : decode cX0_find 7 = .ok (.aload_n 0, 1) := by decide +kernel
theorem dX0_find_8 : decode cX0_find 8 = .ok (.getfield 21, 3) := by decide +kernel
theorem dX0_find_11 : decode cX0_find 11 = .ok (.if_icmp .ge 19, 3) := by decide +kernel
theorem dX0_find_14 : decode cX0_find 14 = .ok (.aload_n 0, 1) := by decide +kernel
theorem dX0_find_15 : decode cX0_find 15 = .ok (.getfield 11, 3) := by decide +kernel
theorem dX0_find_18 : decode cX0_find 18 = .ok (.iload_n 3, 1) := by decide +kernel
theorem dX0_find_19 : decode cX0_find 19 = .ok (.caload, 1) := by decide +kernel
theorem dX0_find_20 : decode cX0_find 20 = .ok (.iload_n 1, 1) := by decide +kernel
theorem dX0_find_21 : decode cX0_find 21 = .ok (.if_icmp .eq 9, 3) := by decide +kernel
theorem dX0_find_24 : decode cX0_find 24 = .ok (.iinc 3 1, 3) := by decide +kernel
theorem dX0_find_27 : decode cX0_find 27 = .ok (.goto (-21), 3) := by decide +kernel
theorem dX0_find_30 : decode cX0_find 30 = .ok (.iload_n 3, 1) := by decide +kernel
theorem dX0_find_31 : decode cX0_find 31 = .ok (.ireturn, 1) := by decide +kernel
set_option maxRecDepth 20000 in
theorem ggX0_numberAt_X0_isDigit : GoodIn wsX0_numberAt wsX0_isDigit := goodIn_r _ [10] (by decide +kernel) (by decide +kernel)
set_option maxRecDepth 20000 in
theorem gX0_numberAt_X0_isDigit : GoodIn wsX0_numberAt (va_wsS RX0 41 yX0_isDigit wsX0_isDigit) := goodIn_app (goodIn_of _ (by decide +kernel)) ggX0_numberAt_X0_isDigit
theorem dX0_numberAt_0 : decode cX0_numberAt 0 = .ok (.iconst 0, 1) := by decide +kernel
theorem dX0_numberAt_1 : decode cX0_numberAt 1 = .ok (.istore_n 2, 1) := by decide +kernel
theorem dX0_numberAt_2 : decode cX0_numberAt 2 = .ok (.iload_n 1, 1) := by decide +kernel
theorem dX0_numberAt_3 : decode cX0_numberAt 3 = .ok (.iconst 0, 1) := by decide +kernel
theorem dX0_numberAt_4 : decode cX0_numberAt 4 = .ok (.invokestatic 49, 3) := by decide +kernel
theorem dX0_numberAt_7 : decode cX0_numberAt 7 = .ok (.istore_n 3, 1) := by decide +kernel
theorem dX0_numberAt_8 : decode cX0_numberAt 8 = .ok (.iload_n 3, 1) := by decide +kernel
theorem dX0_numberAt_9 : decode cX0_numberAt 9 = .ok (.aload_n 0, 1) := by decide +kernel
theorem dX0_numberAt_10 : decode cX0_numberAt 10 = .ok (.getfield 21, 3) := by decide +kernel
theorem dX0_numberAt_13 : decode cX0_numberAt 13 = .ok (.if_icmp .ge 36, 3) := by decide +kernel
theorem dX0_numberAt_16 : decode cX0_numberAt 16 = .ok (.aload_n 0, 1) := by decide +kernel
theorem dX0_numberAt_17 : decode cX0_numberAt 17 = .ok (.getfield 11, 3) := by decide +kernel
theorem dX0_numberAt_20 : decode cX0_numberAt 20 = .ok (.iload_n 3, 1) := by decide +kernel
theorem dX0_numberAt_21 : decode cX0_numberAt 21 = .ok (.caload, 1) := by decide +kernel
theorem dX0_numberAt_22 : decode cX0_numberAt 22 = .ok (.invokestatic 41, 3) := by decide +kernel
theorem dX0_numberAt_25 : decode cX0_numberAt 25 = .ok (.ifCond .eq 24, 3) := by decide +kernel
theorem dX0_numberAt_28 : decode cX0_numberAt 28 = .ok (.bipush 10, 2) := by decide +kernel
theorem dX0_numberAt_30 : decode cX0_numberAt 30 = .ok (.iload_n 2, 1) := by decide +kernel
theorem dX0_numberAt_31 : decode cX0_numberAt 31 = .ok (.imul, 1) := by decide +kernel
theorem dX0_numberAt_32 : decode cX0_numberAt 32 = .ok (.aload_n 0, 1) := by decide +kernel
theorem dX0_numberAt_33 : decode cX0_numberAt 33 = .ok (.getfield 11, 3) := by decide +kernel
theorem dX0_numberAt_36 : decode cX0_numberAt 36 = .ok (.iload_n 3, 1) := by decide +kernel
theorem dX0_numberAt_37 : decode cX0_numberAt 37 = .ok (.caload, 1) := by decide +kernel
theorem dX0_numberAt_38 : decode cX0_numberAt 38 = .ok (.bipush 48, 2) := by decide +kernel
theorem dX0_numberAt_40 : decode cX0_numberAt 40 = .ok (.isub, 1) := by decide +kernel
theorem dX0_numberAt_41 : decode cX0_numberAt 41 = .ok (.iadd, 1) := by decide +kernel
theorem dX0_numberAt_42 : decode cX0_numberAt 42 = .ok (.istore_n 2, 1) := by decide +kernel
theorem dX0_numberAt_43 : decode cX0_numberAt 43 = .ok (.iinc 3 1, 3) := by decide +kernel
theorem dX0_numberAt_46 : decode cX0_numberAt 46 = .ok (.goto (-38), 3) := by decide +kernel
theorem dX0_numberAt_49 : decode cX0_numberAt 49 = .ok (.iload_n 2, 1) := by decide +kernel
theorem dX0_numberAt_50 : decode cX0_numberAt 50 = .ok (.ireturn, 1) := by decide +kernel
set_option maxRecDepth 20000 in
theorem ggX1_init_X3_init : GoodIn wsX1_init wsX3_init := goodIn_r _ [10, 11, 2, 3, 12, 13, 14, 15, 18, 19, 20, 21] (by decide +kernel) (by decide +kernel)
set_option maxRecDepth 20000 in
theorem gX1_init_X3_init : GoodIn wsX1_init (wsX3_init) := ggX1_init_X3_init
theorem dX1_init_0 : decode cX1_init 0 = .ok (.aload_n 0, 1) := by decide +kernel
theorem dX1_init_1 : decode cX1_init 1 = .ok (.invokespecial 3, 3) := by decide +kernel
theorem dX1_init_4 : decode cX1_init 4 = .ok (.aload_n 0, 1) := by decide +kernel
theorem dX1_init_5 : decode cX1_init 5 = .ok (.bipush 6, 2) := by decide +kernel
theorem dX1_init_7 : decode cX1_init 7 = .ok (.anewarray 9, 3) := by decide +kernel
theorem dX1_init_10 : decode cX1_init 10 = .ok (.putfield 11, 3) := by decide +kernel
theorem dX1_init_13 : decode cX1_init 13 = .ok (.iconst 0, 1) := by decide +kernel
theorem dX1_init_14 : decode cX1_init 14 = .ok (.istore_n 1, 1) := by decide +kernel
theorem dX1_init_15 : decode cX1_init 15 = .ok (.iload_n 1, 1) := by decide +kernel
theorem dX1_init_16 : decode cX1_init 16 = .ok (.bipush 6, 2) := by decide +kernel
theorem dX1_init_18 : decode cX1_init 18 = .ok (.if_icmp .ge 22, 3) := by decide +kernel
theorem dX1_init_21 : decode cX1_init 21 = .ok (.aload_n 0, 1) := by decide +kernel
theorem dX1_init_22 : decode cX1_init 22 = .ok (.getfield 11, 3) := by decide +kernel
theorem dX1_init_25 : decode cX1_init 25 = .ok (.iload_n 1, 1) := by decide +kernel
theorem dX1_init_26 : decode cX1_init 26 = .ok (.new 9, 3) := by decide +kernel
theorem dX1_init_29 : decode cX1_init 29 = .ok (.dup, 1) := by decide +kernel
theorem dX1_init_30 : decode cX1_init 30 = .ok (.invokespecial 17, 3) := by decide +kernel
theorem dX1_init_33 : decode cX1_init 33 = .ok (.aastore, 1) := by decide +kernel
theorem dX1_init_34 : decode cX1_init 34 = .ok (.iinc 1 1, 3) := by decide +kernel
theorem dX1_init_37 : decode cX1_init 37 = .ok (.goto (-22), 3) := by decide +kernel
theorem dX1_init_40 : decode cX1_init 40 = .ok (.return_, 1) := by decide +kernel
set_option maxRecDepth 20000 in
theorem ggX1_keep_X1_dropOldest : GoodIn wsX1_keep wsX1_dropOldest := goodIn_r _ [7, 2, 1, 21, 22] (by decide +kernel) (by decide +kernel)
set_option maxRecDepth 20000 in
theorem gX1_keep_X1_dropOldest : GoodIn wsX1_keep (wsV RX1 22 RX1 yX1_dropOldest wsX1_dropOldest) := goodIn_app (goodIn_of _ (by decide +kernel)) ggX1_keep_X1_dropOldest
set_option maxRecDepth 20000 in
theorem ggX1_keep_X3_copyFrom : GoodIn wsX1_keep wsX3_copyFrom := goodIn_r _ [12, 13, 14, 15, 16, 17, 18, 19, 20, 23, 24, 25, 26] (by decide +kernel) (by decide +kernel)
set_option maxRecDepth 20000 in
theorem gX1_keep_X3_copyFrom : GoodIn wsX1_keep (wsV RX1 25 RX3 yX3_copyFrom wsX3_copyFrom) := goodIn_app (goodIn_of _ (by decide +kernel)) ggX1_keep_X3_copyFrom
theorem dX1_keep_0 : decode cX1_keep 0 = .ok (.aload_n 0, 1) := by decide +kernel
theorem dX1_keep_1 : decode cX1_keep 1 = .ok (.getfield 18, 3) := by decide +kernel
theorem dX1_keep_4 : decode cX1_keep 4 = .ok (.bipush 6, 2) := by decide +kernel
theorem dX1_keep_6 : decode cX1_keep 6 = .ok (.if_icmp .ne 7, 3) := by decide +kernel
theorem dX1_keep_9 : decode cX1_keep 9 = .ok (.aload_n 0, 1) := by decide +kernel
theorem dX1_keep_10 : decode cX1_keep 10 = .ok (.invokevirtual 22, 3) := by decide +kernel
theorem dX1_keep_13 : decode cX1_keep 13 = .ok (.aload_n 0, 1) := by decide +kernel
theorem dX1_keep_14 : decode cX1_keep 14 = .ok (.getfield 11, 3) := by decide +kernel
theorem dX1_keep_17 : decode cX1_keep 17 = .ok (.aload_n 0, 1) := by decide +kernel
theorem dX1_keep_18 : decode cX1_keep 18 = .ok (.getfield 18, 3) := by decide +kernel
theorem dX1_keep_21 : decode cX1_keep 21 = .ok (.aaload, 1) := by decide +kernel
theorem dX1_keep_22 : decode cX1_keep 22 = .ok (.aload_n 1, 1) := by decide +kernel
theorem dX1_keep_23 : decode cX1_keep 23 = .ok (.invokevirtual 25, 3) := by decide +kernel
theorem dX1_keep_26 : decode cX1_keep 26 = .ok (.aload_n 0, 1) := by decide +kernel
theorem dX1_keep_27 : decode cX1_keep 27 = .ok (.dup, 1) := by decide +kernel
theorem dX1_keep_28 : decode cX1_keep 28 = .ok (.getfield 18, 3) := by decide +kernel
theorem dX1_keep_31 : decode cX1_keep 31 = .ok (.iconst 1, 1) := by decide +kernel
theorem dX1_keep_32 : decode cX1_keep 32 = .ok (.iadd, 1) := by decide +kernel
theorem dX1_keep_33 : decode cX1_keep 33 = .ok (.putfield 18, 3) := by decide +kernel
theorem dX1_keep_36 : decode cX1_keep 36 = .ok (.return_, 1) := by decide +kernel
theorem dX1_dropOldest_0 : decode cX1_dropOldest 0 = .ok (.aload_n 0, 1) := by decide +kernel
theorem dX1_dropOldest_1 : decode cX1_dropOldest 1 = .ok (.getfield 11, 3) := by decide +kernel
theorem dX1_dropOldest_4 : decode cX1_dropOldest 4 = .ok (.iconst 0, 1) := by decide +kernel
theorem dX1_dropOldest_5 : decode cX1_dropOldest 5 = .ok (.aaload, 1) := by decide +kernel
theorem dX1_dropOldest_6 : decode cX1_dropOldest 6 = .ok (.astore_n 1, 1) := by decide +kernel
theorem dX1_dropOldest_7 : decode cX1_dropOldest 7 = .ok (.iconst 1, 1) := by decide +kernel
theorem dX1_dropOldest_8 : decode cX1_dropOldest 8 = .ok (.istore_n 2, 1) := by decide +kernel
theorem dX1_dropOldest_9 : decode cX1_dropOldest 9 = .ok (.iload_n 2, 1) := by decide +kernel
theorem dX1_dropOldest_10 : decode cX1_dropOldest 10 = .ok (.bipush 6, 2) := by decide +kernel
theorem dX1_dropOldest_12 : decode cX1_dropOldest 12 = .ok (.if_icmp .ge 23, 3) := by decide +kernel
theorem dX1_dropOldest_15 : decode cX1_dropOldest 15 = .ok (.aload_n 0, 1) := by decide +kernel
theorem dX1_dropOldest_16 : decode cX1_dropOldest 16 = .ok (.getfield 11, 3) := by decide +kernel
theorem dX1_dropOldest_19 : decode cX1_dropOldest 19 = .ok (.iload_n 2, 1) := by decide +kernel
theorem dX1_dropOldest_20 : decode cX1_dropOldest 20 = .ok (.iconst 1, 1) := by decide +kernel
theorem dX1_dropOldest_21 : decode cX1_dropOldest 21 = .ok (.isub, 1) := by decide +kernel
theorem dX1_dropOldest_22 : decode cX1_dropOldest 22 = .ok (.aload_n 0, 1) := by decide +kernel
theorem dX1_dropOldest_23 : decode cX1_dropOldest 23 = .ok (.getfield 11, 3) := by decide +kernel
theorem dX1_dropOldest_26 : decode cX1_dropOldest 26 = .ok (.iload_n 2, 1) := by decide +kernel
theorem dX1_dropOldest_27 : decode cX1_dropOldest 27 = .ok (.aaload, 1) := by decide +kernel
theorem dX1_dropOldest_28 : decode cX1_dropOldest 28 = .ok (.aastore, 1) := by decide +kernel
theorem dX1_dropOldest_29 : decode cX1_dropOldest 29 = .ok (.iinc 2 1, 3) := by decide +kernel
theorem dX1_dropOldest_32 : decode cX1_dropOldest 32 = .ok (.goto (-23), 3) := by decide +kernel
theorem dX1_dropOldest_35 : decode cX1_dropOldest 35 = .ok (.aload_n 0, 1) := by decide +kernel
theorem dX1_dropOldest_36 : decode cX1_dropOldest 36 = .ok (.getfield 11, 3) := by decide +kernel
theorem dX1_dropOldest_39 : decode cX1_dropOldest 39 = .ok (.iconst 5, 1) := by decide +kernel
theorem dX1_dropOldest_40 : decode cX1_dropOldest 40 = .ok (.aload_n 1, 1) := by decide +kernel
theorem dX1_dropOldest_41 : decode cX1_dropOldest 41 = .ok (.aastore, 1) := by decide +kernel
theorem dX1_dropOldest_42 : decode cX1_dropOldest 42 = .ok (.aload_n 0, 1) := by decide +kernel
theorem dX1_dropOldest_43 : decode cX1_dropOldest 43 = .ok (.dup, 1) := by decide +kernel
theorem dX1_dropOldest_44 : decode cX1_dropOldest 44 = .ok (.getfield 18, 3) := by decide +kernel
theorem dX1_dropOldest_47 : decode cX1_dropOldest 47 = .ok (.iconst 1, 1) := by decide +kernel
theorem dX1_dropOldest_48 : decode cX1_dropOldest 48 = .ok (.isub, 1) := by decide +kernel
theorem dX1_dropOldest_49 : decode cX1_dropOldest 49 = .ok (.putfield 18, 3) := by decide +kernel
theorem dX1_dropOldest_52 : decode cX1_dropOldest 52 = .ok (.return_, 1) := by decide +kernel
set_option maxRecDepth 20000 in
theorem ggX1_takeBack_X3_copyFrom : GoodIn wsX1_takeBack wsX3_copyFrom := goodIn_r _ [7, 8, 9, 10, 11, 12, 13, 14, 15, 18, 19, 20, 21] (by decide +kernel) (by decide +kernel)
set_option maxRecDepth 20000 in
theorem gX1_takeBack_X3_copyFrom : GoodIn wsX1_takeBack (wsV RX1 25 RX3 yX3_copyFrom wsX3_copyFrom) := goodIn_app (goodIn_of _ (by decide +kernel)) ggX1_takeBack_X3_copyFrom
theorem dX1_takeBack_0 : decode cX1_takeBack 0 = .ok (.aload_n 0, 1) := by decide +kernel
theorem dX1_takeBack_1 : decode cX1_takeBack 1 = .ok (.getfield 18, 3) := by decide +kernel
theorem dX1_takeBack_4 : decode cX1_takeBack 4 = .ok (.ifCond .le 26, 3) := by decide +kernel
theorem dX1_takeBack_7 : decode cX1_takeBack 7 = .ok (.aload_n 0, 1) := by decide +kernel
theorem dX1_takeBack_8 : decode cX1_takeBack 8 = .ok (.dup, 1) := by decide +kernel
theorem dX1_takeBack_9 : decode cX1_takeBack 9 = .ok (.getfield 18, 3) := by decide +kernel
theorem dX1_takeBack_12 : decode cX1_takeBack 12 = .ok (.iconst 1, 1) := by decide +kernel
theorem dX1_takeBack_13 : decode cX1_takeBack 13 = .ok (.isub, 1) := by decide +kernel
theorem dX1_takeBack_14 : decode cX1_takeBack 14 = .ok (.putfield 18, 3) := by decide +kernel
theorem dX1_takeBack_17 : decode cX1_takeBack 17 = .ok (.aload_n 1, 1) := by decide +kernel
theorem dX1_takeBack_18 : decode cX1_takeBack 18 = .ok (.aload_n 0, 1) := by decide +kernel
theorem dX1_takeBack_19 : decode cX1_takeBack 19 = .ok (.getfield 11, 3) := by decide +kernel
theorem dX1_takeBack_22 : decode cX1_takeBack 22 = .ok (.aload_n 0, 1) := by decide +kernel
theorem dX1_takeBack_23 : decode cX1_takeBack 23 = .ok (.getfield 18, 3) := by decide +kernel
theorem dX1_takeBack_26 : decode cX1_takeBack 26 = .ok (.aaload, 1) := by decide +kernel
theorem dX1_takeBack_27 : decode cX1_takeBack 27 = .ok (.invokevirtual 25, 3) := by decide +kernel
theorem dX1_takeBack_30 : decode cX1_takeBack 30 = .ok (.return_, 1) := by decide +kernel
theorem dX2_init_0 : decode cX2_init 0 = .ok (.aload_n 0, 1) := by decide +kernel
theorem dX2_init_1 : decode cX2_init 1 = .ok (.invokespecial 3, 3) := by decide +kernel
theorem dX2_init_4 : decode cX2_init 4 = .ok (.aload_n 0, 1) := by decide +kernel
theorem dX2_init_5 : decode cX2_init 5 = .ok (.bipush 64, 2) := by decide +kernel
theorem dX2_init_7 : decode cX2_init 7 = .ok (.newarray .int, 2) := by decide +kernel
theorem dX2_init_9 : decode cX2_init 9 = .ok (.putfield 9, 3) := by decide +kernel
theorem dX2_init_12 : decode cX2_init 12 = .ok (.aload_n 0, 1) := by decide +kernel
theorem dX2_init_13 : decode cX2_init 13 = .ok (.bipush 64, 2) := by decide +kernel
theorem dX2_init_15 : decode cX2_init 15 = .ok (.newarray .int, 2) := by decide +kernel
theorem dX2_init_17 : decode cX2_init 17 = .ok (.putfield 15, 3) := by decide +kernel
theorem dX2_init_20 : decode cX2_init 20 = .ok (.return_, 1) := by decide +kernel
set_option maxRecDepth 20000 in
theorem ggX2_paintByHandingOn_X3_cellPaintedAt : GoodIn wsX2_paintByHandingOn wsX3_cellPaintedAt := goodIn_r _ [13, 14, 15, 16, 12, 17, 18, 42, 43, 44, 45] (by decide +kernel) (by decide +kernel)
set_option maxRecDepth 20000 in
theorem gX2_paintByHandingOn_X3_cellPaintedAt : GoodIn wsX2_paintByHandingOn (wsV RX2 37 RX3 yX3_cellPaintedAt wsX3_cellPaintedAt) := goodIn_app (goodIn_of _ (by decide +kernel)) ggX2_paintByHandingOn_X3_cellPaintedAt
set_option maxRecDepth 20000 in
theorem ggX2_paintByHandingOn_X2_decide : GoodIn wsX2_paintByHandingOn wsX2_decide := goodIn_r _ [23, 2, 7, 24, 46, 47, 48, 49] (by decide +kernel) (by decide +kernel)
set_option maxRecDepth 20000 in
theorem gX2_paintByHandingOn_X2_decide : GoodIn wsX2_paintByHandingOn (wsV RX2 41 RX2 yX2_decide wsX2_decide) := goodIn_app (goodIn_of _ (by decide +kernel)) ggX2_paintByHandingOn_X2_decide
set_option maxRecDepth 20000 in
theorem ggX2_paintByHandingOn_X3_directionOfRow : GoodIn wsX2_paintByHandingOn wsX3_directionOfRow := goodIn_r _ [17, 18, 42, 43, 44, 45] (by decide +kernel) (by decide +kernel)
set_option maxRecDepth 20000 in
theorem gX2_paintByHandingOn_X3_directionOfRow : GoodIn wsX2_paintByHandingOn (wsV RX2 45 RX3 yX3_directionOfRow wsX3_directionOfRow) := goodIn_app (goodIn_of _ (by decide +kernel)) ggX2_paintByHandingOn_X3_directionOfRow
set_option maxRecDepth 20000 in
theorem ggX2_paintByHandingOn_X2_handOn : GoodIn wsX2_paintByHandingOn wsX2_handOn := goodIn_r _ [29, 24, 8, 2, 30, 31, 32, 33, 34, 35, 36, 37, 38, 39, 40, 41, 46, 47, 48, 49] (by decide +kernel) (by decide +kernel)
set_option maxRecDepth 20000 in
theorem gX2_paintByHandingOn_X2_handOn : GoodIn wsX2_paintByHandingOn (wsV RX2 48 RX2 yX2_handOn wsX2_handOn) := goodIn_app (goodIn_of _ (by decide +kernel)) ggX2_paintByHandingOn_X2_handOn
theorem dX2_paintByHandingOn_0 : decode cX2_paintByHandingOn 0 = .ok (.aload_n 1, 1) := by decide +kernel
theorem dX2_paintByHandingOn_1 : decode cX2_paintByHandingOn 1 = .ok (.getfield 18, 3) := by decide +kernel
theorem dX2_paintByHandingOn_4 : decode cX2_paintByHandingOn 4 = .ok (.iconst 0, 1) := by decide +kernel
theorem dX2_paintByHandingOn_5 : decode cX2_paintByHandingOn 5 = .ok (.aload_n 0, 1) := by decide +kernel
theorem dX2_paintByHandingOn_6 : decode cX2_paintByHandingOn 6 = .ok (.getfield 9, 3) := by decide +kernel
theorem dX2_paintByHandingOn_9 : decode cX2_paintByHandingOn 9 = .ok (.iconst 0, 1) := by decide +kernel
theorem dX2_paintByHandingOn_10 : decode cX2_paintByHandingOn 10 = .ok (.bipush 64, 2) := by decide +kernel
theorem dX2_paintByHandingOn_12 : decode cX2_paintByHandingOn 12 = .ok (.invokestatic 23, 3) := by decide +kernel
theorem dX2_paintByHandingOn_15 : decode cX2_paintByHandingOn 15 = .ok (.aload_n 0, 1) := by decide +kernel
theorem dX2_paintByHandingOn_16 : decode cX2_paintByHandingOn 16 = .ok (.lconst 0, 1) := by decide +kernel
theorem dX2_paintByHandingOn_17 : decode cX2_paintByHandingOn 17 = .ok (.putfield 29, 3) := by decide +kernel
theorem dX2_paintByHandingOn_20 : decode cX2_paintByHandingOn 20 = .ok (.aload_n 0, 1) := by decide +kernel
theorem dX2_paintByHandingOn_21 : decode cX2_paintByHandingOn 21 = .ok (.iconst 0, 1) := by decide +kernel
theorem dX2_paintByHandingOn_22 : decode cX2_paintByHandingOn 22 = .ok (.putfield 33, 3) := by decide +kernel
theorem dX2_paintByHandingOn_25 : decode cX2_paintByHandingOn 25 = .ok (.iconst 0, 1) := by decide +kernel
theorem dX2_paintByHandingOn_26 : decode cX2_paintByHandingOn 26 = .ok (.istore 4, 2) := by decide +kernel
theorem dX2_paintByHandingOn_28 : decode cX2_paintByHandingOn 28 = .ok (.iload 4, 2) := by decide +kernel
theorem dX2_paintByHandingOn_30 : decode cX2_paintByHandingOn 30 = .ok (.bipush 64, 2) := by decide +kernel
theorem dX2_paintByHandingOn_32 : decode cX2_paintByHandingOn 32 = .ok (.if_icmp .ge 40, 3) := by decide +kernel
theorem dX2_paintByHandingOn_35 : decode cX2_paintByHandingOn 35 = .ok (.aload_n 1, 1) := by decide +kernel
theorem dX2_paintByHandingOn_36 : decode cX2_paintByHandingOn 36 = .ok (.iload 4, 2) := by decide +kernel
theorem dX2_paintByHandingOn_38 : decode cX2_paintByHandingOn 38 = .ok (.invokevirtual 37, 3) := by decide +kernel
theorem dX2_paintByHandingOn_41 : decode cX2_paintByHandingOn 41 = .ok (.istore 5, 2) := by decide +kernel
theorem dX2_paintByHandingOn_43 : decode cX2_paintByHandingOn 43 = .ok (.aload_n 0, 1) := by decide +kernel
theorem dX2_paintByHandingOn_44 : decode cX2_paintByHandingOn 44 = .ok (.iload 5, 2) := by decide +kernel
theorem dX2_paintByHandingOn_46 : decode cX2_paintByHandingOn 46 = .ok (.iload_n 3, 1) := by decide +kernel
theorem dX2_paintByHandingOn_47 : decode cX2_paintByHandingOn 47 = .ok (.invokevirtual 41, 3) := by decide +kernel
theorem dX2_paintByHandingOn_50 : decode cX2_paintByHandingOn 50 = .ok (.aload_n 0, 1) := by decide +kernel
theorem dX2_paintByHandingOn_51 : decode cX2_paintByHandingOn 51 = .ok (.iload 5, 2) := by decide +kernel
theorem dX2_paintByHandingOn_53 : decode cX2_paintByHandingOn 53 = .ok (.iload_n 2, 1) := by decide +kernel
theorem dX2_paintByHandingOn_54 : decode cX2_paintByHandingOn 54 = .ok (.aload_n 1, 1) := by decide +kernel
theorem dX2_paintByHandingOn_55 : decode cX2_paintByHandingOn 55 = .ok (.iload 5, 2) := by decide +kernel
theorem dX2_paintByHandingOn_57 : decode cX2_paintByHandingOn 57 = .ok (.bipush 8, 2) := by decide +kernel
theorem dX2_paintByHandingOn_59 : decode cX2_paintByHandingOn 59 = .ok (.idiv, 1) := by decide +kernel
theorem dX2_paintByHandingOn_60 : decode cX2_paintByHandingOn 60 = .ok (.invokevirtual 45, 3) := by decide +kernel
theorem dX2_paintByHandingOn_63 : decode cX2_paintByHandingOn 63 = .ok (.invokevirtual 48, 3) := by decide +kernel
theorem dX2_paintByHandingOn_66 : decode cX2_paintByHandingOn 66 = .ok (.iinc 4 1, 3) := by decide +kernel
theorem dX2_paintByHandingOn_69 : decode cX2_paintByHandingOn 69 = .ok (.goto (-41), 3) := by decide +kernel
theorem dX2_paintByHandingOn_72 : decode cX2_paintByHandingOn 72 = .ok (.return_, 1) := by decide +kernel
set_option maxRecDepth 20000 in
theorem ggX2_paintByCollecting_X3_cellPaintedAt : GoodIn wsX2_paintByCollecting wsX3_cellPaintedAt := goodIn_r _ [8, 9, 10, 11, 7, 12, 13, 36, 37, 38, 39] (by decide +kernel) (by decide +kernel)
set_option maxRecDepth 20000 in
theorem gX2_paintByCollecting_X3_cellPaintedAt : GoodIn wsX2_paintByCollecting (wsV RX2 37 RX3 yX3_cellPaintedAt wsX3_cellPaintedAt) := goodIn_app (goodIn_of _ (by decide +kernel)) ggX2_paintByCollecting_X3_cellPaintedAt
set_option maxRecDepth 20000 in
theorem ggX2_paintByCollecting_X2_collect : GoodIn wsX2_paintByCollecting wsX2_collect := goodIn_r _ [18, 19, 20, 10, 11, 7, 12, 13, 21, 22, 23, 24, 25, 26, 27, 32, 33, 34, 35, 36, 37, 38, 39] (by decide +kernel) (by decide +kernel)
set_option maxRecDepth 20000 in
theorem gX2_paintByCollecting_X2_collect : GoodIn wsX2_paintByCollecting (wsV RX2 52 RX2 yX2_collect wsX2_collect) := goodIn_app (goodIn_of _ (by decide +kernel)) ggX2_paintByCollecting_X2_collect
set_option maxRecDepth 20000 in
theorem ggX2_paintByCollecting_X2_decide : GoodIn wsX2_paintByCollecting wsX2_decide := goodIn_r _ [31, 2, 1, 19, 32, 33, 34, 35] (by decide +kernel) (by decide +kernel)
set_option maxRecDepth 20000 in
theorem gX2_paintByCollecting_X2_decide : GoodIn wsX2_paintByCollecting (wsV RX2 41 RX2 yX2_decide wsX2_decide) := goodIn_app (goodIn_of _ (by decide +kernel)) ggX2_paintByCollecting_X2_decide
theorem dX2_paintByCollecting_0 : decode cX2_paintByCollecting 0 = .ok (.aload_n 0, 1) := by decide +kernel
theorem dX2_paintByCollecting_1 : decode cX2_paintByCollecting 1 = .ok (.lconst 0, 1) := by decide +kernel
theorem dX2_paintByCollecting_2 : decode cX2_paintByCollecting 2 = .ok (.putfield 29, 3) := by decide +kernel
theorem dX2_paintByCollecting_5 : decode cX2_paintByCollecting 5 = .ok (.iconst 0, 1) := by decide +kernel
theorem dX2_paintByCollecting_6 : decode cX2_paintByCollecting 6 = .ok (.istore 4, 2) := by decide +kernel
theorem dX2_paintByCollecting_8 : decode cX2_paintByCollecting 8 = .ok (.iload 4, 2) := by decide +kernel
theorem dX2_paintByCollecting_10 : decode cX2_paintByCollecting 10 = .ok (.bipush 64, 2) := by decide +kernel
theorem dX2_paintByCollecting_12 : decode cX2_paintByCollecting 12 = .ok (.if_icmp .ge 47, 3) := by decide +kernel
theorem dX2_paintByCollecting_15 : decode cX2_paintByCollecting 15 = .ok (.aload_n 1, 1) := by decide +kernel
theorem dX2_paintByCollecting_16 : decode cX2_paintByCollecting 16 = .ok (.iload 4, 2) := by decide +kernel
theorem dX2_paintByCollecting_18 : decode cX2_paintByCollecting 18 = .ok (.invokevirtual 37, 3) := by decide +kernel
theorem dX2_paintByCollecting_21 : decode cX2_paintByCollecting 21 = .ok (.istore 5, 2) := by decide +kernel
theorem dX2_paintByCollecting_23 : decode cX2_paintByCollecting 23 = .ok (.aload_n 0, 1) := by decide +kernel
theorem dX2_paintByCollecting_24 : decode cX2_paintByCollecting 24 = .ok (.getfield 9, 3) := by decide +kernel
theorem dX2_paintByCollecting_27 : decode cX2_paintByCollecting 27 = .ok (.iload 5, 2) := by decide +kernel
theorem dX2_paintByCollecting_29 : decode cX2_paintByCollecting 29 = .ok (.aload_n 1, 1) := by decide +kernel
theorem dX2_paintByCollecting_30 : decode cX2_paintByCollecting 30 = .ok (.getfield 18, 3) := by decide +kernel
theorem dX2_paintByCollecting_33 : decode cX2_paintByCollecting 33 = .ok (.iload 5, 2) := by decide +kernel
theorem dX2_paintByCollecting_35 : decode cX2_paintByCollecting 35 = .ok (.iaload, 1) := by decide +kernel
theorem dX2_paintByCollecting_36 : decode cX2_paintByCollecting 36 = .ok (.aload_n 0, 1) := by decide +kernel
theorem dX2_paintByCollecting_37 : decode cX2_paintByCollecting 37 = .ok (.aload_n 1, 1) := by decide +kernel
theorem dX2_paintByCollecting_38 : decode cX2_paintByCollecting 38 = .ok (.iload 5, 2) := by decide +kernel
theorem dX2_paintByCollecting_40 : decode cX2_paintByCollecting 40 = .ok (.iload_n 2, 1) := by decide +kernel
theorem dX2_paintByCollecting_41 : decode cX2_paintByCollecting 41 = .ok (.invokevirtual 52, 3) := by decide +kernel
theorem dX2_paintByCollecting_44 : decode cX2_paintByCollecting 44 = .ok (.iadd, 1) := by decide +kernel
theorem dX2_paintByCollecting_45 : decode cX2_paintByCollecting 45 = .ok (.iastore, 1) := by decide +kernel
theorem dX2_paintByCollecting_46 : decode cX2_paintByCollecting 46 = .ok (.aload_n 0, 1) := by decide +kernel
theorem dX2_paintByCollecting_47 : decode cX2_paintByCollecting 47 = .ok (.iload 5, 2) := by decide +kernel
theorem dX2_paintByCollecting_49 : decode cX2_paintByCollecting 49 = .ok (.iload_n 3, 1) := by decide +kernel
theorem dX2_paintByCollecting_50 : decode cX2_paintByCollecting 50 = .ok (.invokevirtual 41, 3) := by decide +kernel
theorem dX2_paintByCollecting_53 : decode cX2_paintByCollecting 53 = .ok (.iinc 4 1, 3) := by decide +kernel
theorem dX2_paintByCollecting_56 : decode cX2_paintByCollecting 56 = .ok (.goto (-48), 3) := by decide +kernel
theorem dX2_paintByCollecting_59 : decode cX2_paintByCollecting 59 = .ok (.return_, 1) := by decide +kernel
theorem dX2_decide_0 : decode cX2_decide 0 = .ok (.aload_n 0, 1) := by decide +kernel
theorem dX2_decide_1 : decode cX2_decide 1 = .ok (.getfield 9, 3) := by decide +kernel
theorem dX2_decide_4 : decode cX2_decide 4 = .ok (.iload_n 1, 1) := by decide +kernel
theorem dX2_decide_5 : decode cX2_decide 5 = .ok (.iaload, 1) := by decide +kernel
theorem dX2_decide_6 : decode cX2_decide 6 = .ok (.iload_n 2, 1) := by decide +kernel
theorem dX2_decide_7 : decode cX2_decide 7 = .ok (.if_icmp .lt 34, 3) := by decide +kernel
theorem dX2_decide_10 : decode cX2_decide 10 = .ok (.aload_n 0, 1) := by decide +kernel
theorem dX2_decide_11 : decode cX2_decide 11 = .ok (.dup, 1) := by decide +kernel
theorem dX2_decide_12 : decode cX2_decide 12 = .ok (.getfield 29, 3) := by decide +kernel
theorem dX2_decide_15 : decode cX2_decide 15 = .ok (.lconst 1, 1) := by decide +kernel
theorem dX2_decide_16 : decode cX2_decide 16 = .ok (.iload_n 1, 1) := by decide +kernel
theorem dX2_decide_17 : decode cX2_decide 17 = .ok (.lshl, 1) := by decide +kernel
theorem dX2_decide_18 : decode cX2_decide 18 = .ok (.lor, 1) := by decide +kernel
theorem dX2_decide_19 : decode cX2_decide 19 = .ok (.putfield 29, 3) := by decide +kernel
theorem dX2_decide_22 : decode cX2_decide 22 = .ok (.aload_n 0, 1) := by decide +kernel
theorem dX2_decide_23 : decode cX2_decide 23 = .ok (.getfield 15, 3) := by decide +kernel
theorem dX2_decide_26 : decode cX2_decide 26 = .ok (.iload_n 1, 1) := by decide +kernel
theorem dX2_decide_27 : decode cX2_decide 27 = .ok (.aload_n 0, 1) := by decide +kernel
theorem dX2_decide_28 : decode cX2_decide 28 = .ok (.getfield 9, 3) := by decide +kernel
theorem dX2_decide_31 : decode cX2_decide 31 = .ok (.iload_n 1, 1) := by decide +kernel
theorem dX2_decide_32 : decode cX2_decide 32 = .ok (.iaload, 1) := by decide +kernel
theorem dX2_decide_33 : decode cX2_decide 33 = .ok (.sipush 255, 3) := by decide +kernel
theorem dX2_decide_36 : decode cX2_decide 36 = .ok (.isub, 1) := by decide +kernel
theorem dX2_decide_37 : decode cX2_decide 37 = .ok (.iastore, 1) := by decide +kernel
theorem dX2_decide_38 : decode cX2_decide 38 = .ok (.goto 15, 3) := by decide +kernel
theorem dX2_decide_41 : decode cX2_decide 41 = .ok (.aload_n 0, 1) := by decide +kernel
theorem dX2_decide_42 : decode cX2_decide 42 = .ok (.getfield 15, 3) := by decide +kernel
theorem dX2_decide_45 : decode cX2_decide 45 = .ok (.iload_n 1, 1) := by decide +kernel
theorem dX2_decide_46 : decode cX2_decide 46 = .ok (.aload_n 0, 1) := by decide +kernel
theorem dX2_decide_47 : decode cX2_decide 47 = .ok (.getfield 9, 3) := by decide +kernel
theorem dX2_decide_50 : decode cX2_decide 50 = .ok (.iload_n 1, 1) := by decide +kernel
theorem dX2_decide_51 : decode cX2_decide 51 = .ok (.iaload, 1) := by decide +kernel
theorem dX2_decide_52 : decode cX2_decide 52 = .ok (.iastore, 1) := by decide +kernel
theorem dX2_decide_53 : decode cX2_decide 53 = .ok (.return_, 1) := by decide +kernel
set_option maxRecDepth 20000 in
theorem ggX2_handOn_X4_shareOf : GoodIn wsX2_handOn wsX4_shareOf := goodIn_r _ [6, 7, 8] (by decide +kernel) (by decide +kernel)
set_option maxRecDepth 20000 in
theorem gX2_handOn_X4_shareOf_n59 : GoodIn wsX2_handOn (wsX4_shareOf) := ggX2_handOn_X4_shareOf
set_option maxRecDepth 20000 in
theorem ggX2_handOn_X4_cellTowards : GoodIn wsX2_handOn wsX4_cellTowards := goodIn_r _ [10, 11, 12, 13, 14, 5, 15] (by decide +kernel) (by decide +kernel)
set_option maxRecDepth 20000 in
theorem gX2_handOn_X4_cellTowards_n63 : GoodIn wsX2_handOn (wsX4_cellTowards) := ggX2_handOn_X4_cellTowards
theorem dX2_handOn_0 : decode cX2_handOn 0 = .ok (.getstatic 56, 3) := by decide +kernel
theorem dX2_handOn_3 : decode cX2_handOn 3 = .ok (.iload_n 2, 1) := by decide +kernel
theorem dX2_handOn_4 : decode cX2_handOn 4 = .ok (.iconst 1, 1) := by decide +kernel
theorem dX2_handOn_5 : decode cX2_handOn 5 = .ok (.iadd, 1) := by decide +kernel
theorem dX2_handOn_6 : decode cX2_handOn 6 = .ok (.iaload, 1) := by decide +kernel
theorem dX2_handOn_7 : decode cX2_handOn 7 = .ok (.istore 4, 2) := by decide +kernel
theorem dX2_handOn_9 : decode cX2_handOn 9 = .ok (.getstatic 56, 3) := by decide +kernel
theorem dX2_handOn_12 : decode cX2_handOn 12 = .ok (.iload_n 2, 1) := by decide +kernel
theorem dX2_handOn_13 : decode cX2_handOn 13 = .ok (.iaload, 1) := by decide +kernel
theorem dX2_handOn_14 : decode cX2_handOn 14 = .ok (.istore 5, 2) := by decide +kernel
theorem dX2_handOn_16 : decode cX2_handOn 16 = .ok (.iload 5, 2) := by decide +kernel
theorem dX2_handOn_18 : decode cX2_handOn 18 = .ok (.iload 4, 2) := by decide +kernel
theorem dX2_handOn_20 : decode cX2_handOn 20 = .ok (.if_icmp .ge 64, 3) := by decide +kernel
theorem dX2_handOn_23 : decode cX2_handOn 23 = .ok (.aload_n 0, 1) := by decide +kernel
theorem dX2_handOn_24 : decode cX2_handOn 24 = .ok (.getfield 15, 3) := by decide +kernel
theorem dX2_handOn_27 : decode cX2_handOn 27 = .ok (.iload_n 1, 1) := by decide +kernel
theorem dX2_handOn_28 : decode cX2_handOn 28 = .ok (.iaload, 1) := by decide +kernel
theorem dX2_handOn_29 : decode cX2_handOn 29 = .ok (.iload_n 2, 1) := by decide +kernel
theorem dX2_handOn_30 : decode cX2_handOn 30 = .ok (.iload 5, 2) := by decide +kernel
theorem dX2_handOn_32 : decode cX2_handOn 32 = .ok (.invokestatic 59, 3) := by decide +kernel
theorem dX2_handOn_35 : decode cX2_handOn 35 = .ok (.istore 6, 2) := by decide +kernel
theorem dX2_handOn_37 : decode cX2_handOn 37 = .ok (.iload_n 1, 1) := by decide +kernel
theorem dX2_handOn_38 : decode cX2_handOn 38 = .ok (.iload 5, 2) := by decide +kernel
theorem dX2_handOn_40 : decode cX2_handOn 40 = .ok (.iload_n 3, 1) := by decide +kernel
theorem dX2_handOn_41 : decode cX2_handOn 41 = .ok (.invokestatic 63, 3) := by decide +kernel
theorem dX2_handOn_44 : decode cX2_handOn 44 = .ok (.istore 7, 2) := by decide +kernel
theorem dX2_handOn_46 : decode cX2_handOn 46 = .ok (.iload 7, 2) := by decide +kernel
theorem dX2_handOn_48 : decode cX2_handOn 48 = .ok (.iconst (-1), 1) := by decide +kernel
theorem dX2_handOn_49 : decode cX2_handOn 49 = .ok (.if_icmp .ne 17, 3) := by decide +kernel
theorem dX2_handOn_52 : decode cX2_handOn 52 = .ok (.aload_n 0, 1) := by decide +kernel
theorem dX2_handOn_53 : decode cX2_handOn 53 = .ok (.dup, 1) := by decide +kernel
theorem dX2_handOn_54 : decode cX2_handOn 54 = .ok (.getfield 33, 3) := by decide +kernel
theorem dX2_handOn_57 : decode cX2_handOn 57 = .ok (.iload 6, 2) := by decide +kernel
theorem dX2_handOn_59 : decode cX2_handOn 59 = .ok (.iadd, 1) := by decide +kernel
theorem dX2_handOn_60 : decode cX2_handOn 60 = .ok (.putfield 33, 3) := by decide +kernel
theorem dX2_handOn_63 : decode cX2_handOn 63 = .ok (.goto 15, 3) := by decide +kernel
theorem dX2_handOn_66 : decode cX2_handOn 66 = .ok (.aload_n 0, 1) := by decide +kernel
theorem dX2_handOn_67 : decode cX2_handOn 67 = .ok (.getfield 9, 3) := by decide +kernel
theorem dX2_handOn_70 : decode cX2_handOn 70 = .ok (.iload 7, 2) := by decide +kernel
theorem dX2_handOn_72 : decode cX2_handOn 72 = .ok (.dup2, 1) := by decide +kernel
theorem dX2_handOn_73 : decode cX2_handOn 73 = .ok (.iaload, 1) := by decide +kernel
theorem dX2_handOn_74 : decode cX2_handOn 74 = .ok (.iload 6, 2) := by decide +kernel
theorem dX2_handOn_76 : decode cX2_handOn 76 = .ok (.iadd, 1) := by decide +kernel
theorem dX2_handOn_77 : decode cX2_handOn 77 = .ok (.iastore, 1) := by decide +kernel
theorem dX2_handOn_78 : decode cX2_handOn 78 = .ok (.iinc 5 1, 3) := by decide +kernel
theorem dX2_handOn_81 : decode cX2_handOn 81 = .ok (.goto (-65), 3) := by decide +kernel
theorem dX2_handOn_84 : decode cX2_handOn 84 = .ok (.return_, 1) := by decide +kernel
set_option maxRecDepth 20000 in
theorem ggX2_collect_X3_directionOfRow : GoodIn wsX2_collect wsX3_directionOfRow := goodIn_r _ [6, 7, 19, 20, 21, 22] (by decide +kernel) (by decide +kernel)
set_option maxRecDepth 20000 in
theorem gX2_collect_X3_directionOfRow : GoodIn wsX2_collect (wsV RX2 45 RX3 yX3_directionOfRow wsX3_directionOfRow) := goodIn_app (goodIn_of _ (by decide +kernel)) ggX2_collect_X3_directionOfRow
set_option maxRecDepth 20000 in
theorem ggX2_collect_X4_cellIn : GoodIn wsX2_collect wsX4_cellIn := goodIn_r _ [10] (by decide +kernel) (by decide +kernel)
set_option maxRecDepth 20000 in
theorem gX2_collect_X4_cellIn_n72 : GoodIn wsX2_collect (wsX4_cellIn) := ggX2_collect_X4_cellIn
set_option maxRecDepth 20000 in
theorem ggX2_collect_X4_shareOf : GoodIn wsX2_collect wsX4_shareOf := goodIn_r _ [12, 13, 14] (by decide +kernel) (by decide +kernel)
set_option maxRecDepth 20000 in
theorem gX2_collect_X4_shareOf_n59 : GoodIn wsX2_collect (wsX4_shareOf) := ggX2_collect_X4_shareOf
theorem dX2_collect_0 : decode cX2_collect 0 = .ok (.iconst 0, 1) := by decide +kernel
theorem dX2_collect_1 : decode cX2_collect 1 = .ok (.istore 4, 2) := by decide +kernel
theorem dX2_collect_3 : decode cX2_collect 3 = .ok (.getstatic 56, 3) := by decide +kernel
theorem dX2_collect_6 : decode cX2_collect 6 = .ok (.iload_n 3, 1) := by decide +kernel
theorem dX2_collect_7 : decode cX2_collect 7 = .ok (.iconst 1, 1) := by decide +kernel
theorem dX2_collect_8 : decode cX2_collect 8 = .ok (.iadd, 1) := by decide +kernel
theorem dX2_collect_9 : decode cX2_collect 9 = .ok (.iaload, 1) := by decide +kernel
theorem dX2_collect_10 : decode cX2_collect 10 = .ok (.istore 5, 2) := by decide +kernel
theorem dX2_collect_12 : decode cX2_collect 12 = .ok (.getstatic 56, 3) := by decide +kernel
theorem dX2_collect_15 : decode cX2_collect 15 = .ok (.iload_n 3, 1) := by decide +kernel
theorem dX2_collect_16 : decode cX2_collect 16 = .ok (.iaload, 1) := by decide +kernel
theorem dX2_collect_17 : decode cX2_collect 17 = .ok (.istore 6, 2) := by decide +kernel
theorem dX2_collect_19 : decode cX2_collect 19 = .ok (.iload 6, 2) := by decide +kernel
theorem dX2_collect_21 : decode cX2_collect 21 = .ok (.iload 5, 2) := by decide +kernel
theorem dX2_collect_23 : decode cX2_collect 23 = .ok (.if_icmp .ge 84, 3) := by decide +kernel
theorem dX2_collect_26 : decode cX2_collect 26 = .ok (.iload_n 2, 1) := by decide +kernel
theorem dX2_collect_27 : decode cX2_collect 27 = .ok (.bipush 8, 2) := by decide +kernel
theorem dX2_collect_29 : decode cX2_collect 29 = .ok (.idiv, 1) := by decide +kernel
theorem dX2_collect_30 : decode cX2_collect 30 = .ok (.getstatic 66, 3) := by decide +kernel
theorem dX2_collect_33 : decode cX2_collect 33 = .ok (.iload 6, 2) := by decide +kernel
theorem dX2_collect_35 : decode cX2_collect 35 = .ok (.iaload, 1) := by decide +kernel
theorem dX2_collect_36 : decode cX2_collect 36 = .ok (.isub, 1) := by decide +kernel
theorem dX2_collect_37 : decode cX2_collect 37 = .ok (.istore 7, 2) := by decide +kernel
theorem dX2_collect_39 : decode cX2_collect 39 = .ok (.iload 7, 2) := by decide +kernel
theorem dX2_collect_41 : decode cX2_collect 41 = .ok (.ifCond .lt 12, 3) := by decide +kernel
theorem dX2_collect_44 : decode cX2_collect 44 = .ok (.aload_n 1, 1) := by decide +kernel
theorem dX2_collect_45 : decode cX2_collect 45 = .ok (.iload 7, 2) := by decide +kernel
theorem dX2_collect_47 : decode cX2_collect 47 = .ok (.invokevirtual 45, 3) := by decide +kernel
theorem dX2_collect_50 : decode cX2_collect 50 = .ok (.goto 4, 3) := by decide +kernel
theorem dX2_collect_53 : decode cX2_collect 53 = .ok (.iconst 1, 1) := by decide +kernel
theorem dX2_collect_54 : decode cX2_collect 54 = .ok (.istore 8, 2) := by decide +kernel
theorem dX2_collect_56 : decode cX2_collect 56 = .ok (.iload 7, 2) := by decide +kernel
theorem dX2_collect_58 : decode cX2_collect 58 = .ok (.iload_n 2, 1) := by decide +kernel
theorem dX2_collect_59 : decode cX2_collect 59 = .ok (.bipush 8, 2) := by decide +kernel
theorem dX2_collect_61 : decode cX2_collect 61 = .ok (.irem, 1) := by decide +kernel
theorem dX2_collect_62 : decode cX2_collect 62 = .ok (.getstatic 69, 3) := by decide +kernel
theorem dX2_collect_65 : decode cX2_collect 65 = .ok (.iload 6, 2) := by decide +kernel
theorem dX2_collect_67 : decode cX2_collect 67 = .ok (.iaload, 1) := by decide +kernel
theorem dX2_collect_68 : decode cX2_collect 68 = .ok (.iload 8, 2) := by decide +kernel
theorem dX2_collect_70 : decode cX2_collect 70 = .ok (.imul, 1) := by decide +kernel
theorem dX2_collect_71 : decode cX2_collect 71 = .ok (.isub, 1) := by decide +kernel
theorem dX2_collect_72 : decode cX2_collect 72 = .ok (.invokestatic 72, 3) := by decide +kernel
theorem dX2_collect_75 : decode cX2_collect 75 = .ok (.istore 9, 2) := by decide +kernel
theorem dX2_collect_77 : decode cX2_collect 77 = .ok (.iload 9, 2) := by decide +kernel
theorem dX2_collect_79 : decode cX2_collect 79 = .ok (.iconst (-1), 1) := by decide +kernel
theorem dX2_collect_80 : decode cX2_collect 80 = .ok (.if_icmp .eq 21, 3) := by decide +kernel
theorem dX2_collect_83 : decode cX2_collect 83 = .ok (.iload 4, 2) := by decide +kernel
theorem dX2_collect_85 : decode cX2_collect 85 = .ok (.aload_n 0, 1) := by decide +kernel
theorem dX2_collect_86 : decode cX2_collect 86 = .ok (.getfield 15, 3) := by decide +kernel
theorem dX2_collect_89 : decode cX2_collect 89 = .ok (.iload 9, 2) := by decide +kernel
theorem dX2_collect_91 : decode cX2_collect 91 = .ok (.iaload, 1) := by decide +kernel
theorem dX2_collect_92 : decode cX2_collect 92 = .ok (.iload_n 3, 1) := by decide +kernel
theorem dX2_collect_93 : decode cX2_collect 93 = .ok (.iload 6, 2) := by decide +kernel
theorem dX2_collect_95 : decode cX2_collect 95 = .ok (.invokestatic 59, 3) := by decide +kernel
theorem dX2_collect_98 : decode cX2_collect 98 = .ok (.iadd, 1) := by decide +kernel
theorem dX2_collect_99 : decode cX2_collect 99 = .ok (.istore 4, 2) := by decide +kernel
theorem dX2_collect_101 : decode cX2_collect 101 = .ok (.iinc 6 1, 3) := by decide +kernel
theorem dX2_collect_104 : decode cX2_collect 104 = .ok (.goto (-85), 3) := by decide +kernel
theorem dX2_collect_107 : decode cX2_collect 107 = .ok (.iload 4, 2) := by decide +kernel
theorem dX2_collect_109 : decode cX2_collect 109 = .ok (.ireturn, 1) := by decide +kernel
set_option maxRecDepth 20000 in
theorem ggX2_differenceOfSquare_X2_differenceOf : GoodIn wsX2_differenceOfSquare wsX2_differenceOf := goodIn_r _ [9, 10, 11, 12, 13, 14, 15, 16, 17, 18, 19] (by decide +kernel) (by decide +kernel)
set_option maxRecDepth 20000 in
theorem gX2_differenceOfSquare_X2_differenceOf : GoodIn wsX2_differenceOfSquare (wsV RX2 76 RX2 yX2_differenceOf wsX2_differenceOf) := goodIn_app (goodIn_of _ (by decide +kernel)) ggX2_differenceOfSquare_X2_differenceOf
theorem dX2_differenceOfSquare_0 : decode cX2_differenceOfSquare 0 = .ok (.bipush 16, 2) := by decide +kernel
theorem dX2_differenceOfSquare_2 : decode cX2_differenceOfSquare 2 = .ok (.iload_n 2, 1) := by decide +kernel
theorem dX2_differenceOfSquare_3 : decode cX2_differenceOfSquare 3 = .ok (.iconst 4, 1) := by decide +kernel
theorem dX2_differenceOfSquare_4 : decode cX2_differenceOfSquare 4 = .ok (.idiv, 1) := by decide +kernel
theorem dX2_differenceOfSquare_5 : decode cX2_differenceOfSquare 5 = .ok (.imul, 1) := by decide +kernel
theorem dX2_differenceOfSquare_6 : decode cX2_differenceOfSquare 6 = .ok (.iconst 2, 1) := by decide +kernel
theorem dX2_differenceOfSquare_7 : decode cX2_differenceOfSquare 7 = .ok (.iload_n 2, 1) := by decide +kernel
theorem dX2_differenceOfSquare_8 : decode cX2_differenceOfSquare 8 = .ok (.iconst 4, 1) := by decide +kernel
theorem dX2_differenceOfSquare_9 : decode cX2_differenceOfSquare 9 = .ok (.irem, 1) := by decide +kernel
theorem dX2_differenceOfSquare_10 : decode cX2_differenceOfSquare 10 = .ok (.imul, 1) := by decide +kernel
theorem dX2_differenceOfSquare_11 : decode cX2_differenceOfSquare 11 = .ok (.iadd, 1) := by decide +kernel
theorem dX2_differenceOfSquare_12 : decode cX2_differenceOfSquare 12 = .ok (.istore_n 3, 1) := by decide +kernel
theorem dX2_differenceOfSquare_13 : decode cX2_differenceOfSquare 13 = .ok (.aload_n 0, 1) := by decide +kernel
theorem dX2_differenceOfSquare_14 : decode cX2_differenceOfSquare 14 = .ok (.aload_n 1, 1) := by decide +kernel
theorem dX2_differenceOfSquare_15 : decode cX2_differenceOfSquare 15 = .ok (.iload_n 3, 1) := by decide +kernel
theorem dX2_differenceOfSquare_16 : decode cX2_differenceOfSquare 16 = .ok (.invokevirtual 76, 3) := by decide +kernel
theorem dX2_differenceOfSquare_19 : decode cX2_differenceOfSquare 19 = .ok (.aload_n 0, 1) := by decide +kernel
theorem dX2_differenceOfSquare_20 : decode cX2_differenceOfSquare 20 = .ok (.aload_n 1, 1) := by decide +kernel
theorem dX2_differenceOfSquare_21 : decode cX2_differenceOfSquare 21 = .ok (.iload_n 3, 1) := by decide +kernel
theorem dX2_differenceOfSquare_22 : decode cX2_differenceOfSquare 22 = .ok (.iconst 1, 1) := by decide +kernel
theorem dX2_differenceOfSquare_23 : decode cX2_differenceOfSquare 23 = .ok (.iadd, 1) := by decide +kernel
theorem dX2_differenceOfSquare_24 : decode cX2_differenceOfSquare 24 = .ok (.invokevirtual 76, 3) := by decide +kernel
theorem dX2_differenceOfSquare_27 : decode cX2_differenceOfSquare 27 = .ok (.iadd, 1) := by decide +kernel
theorem dX2_differenceOfSquare_28 : decode cX2_differenceOfSquare 28 = .ok (.aload_n 0, 1) := by decide +kernel
theorem dX2_differenceOfSquare_29 : decode cX2_differenceOfSquare 29 = .ok (.aload_n 1, 1) := by decide +kernel
theorem dX2_differenceOfSquare_30 : decode cX2_differenceOfSquare 30 = .ok (.iload_n 3, 1) := by decide +kernel
theorem dX2_differenceOfSquare_31 : decode cX2_differenceOfSquare 31 = .ok (.bipush 8, 2) := by decide +kernel
theorem dX2_differenceOfSquare_33 : decode cX2_differenceOfSquare 33 = .ok (.iadd, 1) := by decide +kernel
theorem dX2_differenceOfSquare_34 : decode cX2_differenceOfSquare 34 = .ok (.invokevirtual 76, 3) := by decide +kernel
theorem dX2_differenceOfSquare_37 : decode cX2_differenceOfSquare 37 = .ok (.iadd, 1) := by decide +kernel
theorem dX2_differenceOfSquare_38 : decode cX2_differenceOfSquare 38 = .ok (.aload_n 0, 1) := by decide +kernel
theorem dX2_differenceOfSquare_39 : decode cX2_differenceOfSquare 39 = .ok (.aload_n 1, 1) := by decide +kernel
theorem dX2_differenceOfSquare_40 : decode cX2_differenceOfSquare 40 = .ok (.iload_n 3, 1) := by decide +kernel
theorem dX2_differenceOfSquare_41 : decode cX2_differenceOfSquare 41 = .ok (.bipush 8, 2) := by decide +kernel
theorem dX2_differenceOfSquare_43 : decode cX2_differenceOfSquare 43 = .ok (.iadd, 1) := by decide +kernel
theorem dX2_differenceOfSquare_44 : decode cX2_differenceOfSquare 44 = .ok (.iconst 1, 1) := by decide +kernel
theorem dX2_differenceOfSquare_45 : decode cX2_differenceOfSquare 45 = .ok (.iadd, 1) := by decide +kernel
theorem dX2_differenceOfSquare_46 : decode cX2_differenceOfSquare 46 = .ok (.invokevirtual 76, 3) := by decide +kernel
theorem dX2_differenceOfSquare_49 : decode cX2_differenceOfSquare 49 = .ok (.iadd, 1) := by decide +kernel
theorem dX2_differenceOfSquare_50 : decode cX2_differenceOfSquare 50 = .ok (.invokestatic 80, 3) := by decide +kernel
theorem dX2_differenceOfSquare_53 : decode cX2_differenceOfSquare 53 = .ok (.ireturn, 1) := by decide +kernel
theorem dX2_differenceOf_0 : decode cX2_differenceOf 0 = .ok (.aload_n 0, 1) := by decide +kernel
theorem dX2_differenceOf_1 : decode cX2_differenceOf 1 = .ok (.getfield 29, 3) := by decide +kernel
theorem dX2_differenceOf_4 : decode cX2_differenceOf 4 = .ok (.iload_n 2, 1) := by decide +kernel
theorem dX2_differenceOf_5 : decode cX2_differenceOf 5 = .ok (.lushr, 1) := by decide +kernel
theorem dX2_differenceOf_6 : decode cX2_differenceOf 6 = .ok (.lconst 1, 1) := by decide +kernel
theorem dX2_differenceOf_7 : decode cX2_differenceOf 7 = .ok (.land, 1) := by decide +kernel
theorem dX2_differenceOf_8 : decode cX2_differenceOf 8 = .ok (.lconst 1, 1) := by decide +kernel
theorem dX2_differenceOf_9 : decode cX2_differenceOf 9 = .ok (.lcmp, 1) := by decide +kernel
theorem dX2_differenceOf_10 : decode cX2_differenceOf 10 = .ok (.ifCond .ne 7, 3) := by decide +kernel
theorem dX2_differenceOf_13 : decode cX2_differenceOf 13 = .ok (.iconst 1, 1) := by decide +kernel
theorem dX2_differenceOf_14 : decode cX2_differenceOf 14 = .ok (.goto 4, 3) := by decide +kernel
theorem dX2_differenceOf_17 : decode cX2_differenceOf 17 = .ok (.iconst 0, 1) := by decide +kernel
theorem dX2_differenceOf_18 : decode cX2_differenceOf 18 = .ok (.istore_n 3, 1) := by decide +kernel
theorem dX2_differenceOf_19 : decode cX2_differenceOf 19 = .ok (.iload_n 3, 1) := by decide +kernel
theorem dX2_differenceOf_20 : decode cX2_differenceOf 20 = .ok (.ifCond .eq 16, 3) := by decide +kernel
theorem dX2_differenceOf_23 : decode cX2_differenceOf 23 = .ok (.aload_n 1, 1) := by decide +kernel
theorem dX2_differenceOf_24 : decode cX2_differenceOf 24 = .ok (.getfield 18, 3) := by decide +kernel
theorem dX2_differenceOf_27 : decode cX2_differenceOf 27 = .ok (.iload_n 2, 1) := by decide +kernel
theorem dX2_differenceOf_28 : decode cX2_differenceOf 28 = .ok (.iaload, 1) := by decide +kernel
theorem dX2_differenceOf_29 : decode cX2_differenceOf 29 = .ok (.sipush 255, 3) := by decide +kernel
theorem dX2_differenceOf_32 : decode cX2_differenceOf 32 = .ok (.isub, 1) := by decide +kernel
theorem dX2_differenceOf_33 : decode cX2_differenceOf 33 = .ok (.goto 9, 3) := by decide +kernel
theorem dX2_differenceOf_36 : decode cX2_differenceOf 36 = .ok (.aload_n 1, 1) := by decide +kernel
theorem dX2_differenceOf_37 : decode cX2_differenceOf 37 = .ok (.getfield 18, 3) := by decide +kernel
theorem dX2_differenceOf_40 : decode cX2_differenceOf 40 = .ok (.iload_n 2, 1) := by decide +kernel
theorem dX2_differenceOf_41 : decode cX2_differenceOf 41 = .ok (.iaload, 1) := by decide +kernel
theorem dX2_differenceOf_42 : decode cX2_differenceOf 42 = .ok (.ireturn, 1) := by decide +kernel
set_option maxRecDepth 20000 in
theorem ggX2_differenceOfAllSquares_X2_differenceOfSquare : GoodIn wsX2_differenceOfAllSquares wsX2_differenceOfSquare := goodIn_r _ [5, 6, 7, 8, 9, 10, 11, 12, 4, 13, 14, 15, 16, 17, 18, 19, 20, 21, 22, 23] (by decide +kernel) (by decide +kernel)
set_option maxRecDepth 20000 in
theorem gX2_differenceOfAllSquares_X2_differenceOfSquare : GoodIn wsX2_differenceOfAllSquares (wsV RX2 85 RX2 yX2_differenceOfSquare wsX2_differenceOfSquare) := goodIn_app (goodIn_of _ (by decide +kernel)) ggX2_differenceOfAllSquares_X2_differenceOfSquare
theorem dX2_differenceOfAllSquares_0 : decode cX2_differenceOfAllSquares 0 = .ok (.iconst 0, 1) := by decide +kernel
theorem dX2_differenceOfAllSquares_1 : decode cX2_differenceOfAllSquares 1 = .ok (.istore_n 2, 1) := by decide +kernel
theorem dX2_differenceOfAllSquares_2 : decode cX2_differenceOfAllSquares 2 = .ok (.iconst 0, 1) := by decide +kernel
theorem dX2_differenceOfAllSquares_3 : decode cX2_differenceOfAllSquares 3 = .ok (.istore_n 3, 1) := by decide +kernel
theorem dX2_differenceOfAllSquares_4 : decode cX2_differenceOfAllSquares 4 = .ok (.iload_n 3, 1) := by decide +kernel
theorem dX2_differenceOfAllSquares_5 : decode cX2_differenceOfAllSquares 5 = .ok (.bipush 16, 2) := by decide +kernel
theorem dX2_differenceOfAllSquares_7 : decode cX2_differenceOfAllSquares 7 = .ok (.if_icmp .ge 18, 3) := by decide +kernel
theorem dX2_differenceOfAllSquares_10 : decode cX2_differenceOfAllSquares 10 = .ok (.iload_n 2, 1) := by decide +kernel
theorem dX2_differenceOfAllSquares_11 : decode cX2_differenceOfAllSquares 11 = .ok (.aload_n 0, 1) := by decide +kernel
theorem dX2_differenceOfAllSquares_12 : decode cX2_differenceOfAllSquares 12 = .ok (.aload_n 1, 1) := by decide +kernel
theorem dX2_differenceOfAllSquares_13 : decode cX2_differenceOfAllSquares 13 = .ok (.iload_n 3, 1) := by decide +kernel
theorem dX2_differenceOfAllSquares_14 : decode cX2_differenceOfAllSquares 14 = .ok (.invokevirtual 85, 3) := by decide +kernel
theorem dX2_differenceOfAllSquares_17 : decode cX2_differenceOfAllSquares 17 = .ok (.iadd, 1) := by decide +kernel
theorem dX2_differenceOfAllSquares_18 : decode cX2_differenceOfAllSquares 18 = .ok (.istore_n 2, 1) := by decide +kernel
theorem dX2_differenceOfAllSquares_19 : decode cX2_differenceOfAllSquares 19 = .ok (.iinc 3 1, 3) := by decide +kernel
theorem dX2_differenceOfAllSquares_22 : decode cX2_differenceOfAllSquares 22 = .ok (.goto (-18), 3) := by decide +kernel
theorem dX2_differenceOfAllSquares_25 : decode cX2_differenceOfAllSquares 25 = .ok (.iload_n 2, 1) := by decide +kernel
theorem dX2_differenceOfAllSquares_26 : decode cX2_differenceOfAllSquares 26 = .ok (.ireturn, 1) := by decide +kernel
theorem dX3_init_0 : decode cX3_init 0 = .ok (.aload_n 0, 1) := by decide +kernel
theorem dX3_init_1 : decode cX3_init 1 = .ok (.invokespecial 3, 3) := by decide +kernel
theorem dX3_init_4 : decode cX3_init 4 = .ok (.aload_n 0, 1) := by decide +kernel
theorem dX3_init_5 : decode cX3_init 5 = .ok (.bipush 64, 2) := by decide +kernel
theorem dX3_init_7 : decode cX3_init 7 = .ok (.newarray .int, 2) := by decide +kernel
theorem dX3_init_9 : decode cX3_init 9 = .ok (.putfield 9, 3) := by decide +kernel
theorem dX3_init_12 : decode cX3_init 12 = .ok (.aload_n 0, 1) := by decide +kernel
theorem dX3_init_13 : decode cX3_init 13 = .ok (.iconst 2, 1) := by decide +kernel
theorem dX3_init_14 : decode cX3_init 14 = .ok (.putfield 15, 3) := by decide +kernel
theorem dX3_init_17 : decode cX3_init 17 = .ok (.aload_n 0, 1) := by decide +kernel
theorem dX3_init_18 : decode cX3_init 18 = .ok (.sipush 128, 3) := by decide +kernel
theorem dX3_init_21 : decode cX3_init 21 = .ok (.putfield 19, 3) := by decide +kernel
theorem dX3_init_24 : decode cX3_init 24 = .ok (.return_, 1) := by decide +kernel
theorem dX3_copyFrom_0 : decode cX3_copyFrom 0 = .ok (.aload_n 1, 1) := by decide +kernel
theorem dX3_copyFrom_1 : decode cX3_copyFrom 1 = .ok (.getfield 9, 3) := by decide +kernel
theorem dX3_copyFrom_4 : decode cX3_copyFrom 4 = .ok (.iconst 0, 1) := by decide +kernel
theorem dX3_copyFrom_5 : decode cX3_copyFrom 5 = .ok (.aload_n 0, 1) := by decide +kernel
theorem dX3_copyFrom_6 : decode cX3_copyFrom 6 = .ok (.getfield 9, 3) := by decide +kernel
theorem dX3_copyFrom_9 : decode cX3_copyFrom 9 = .ok (.iconst 0, 1) := by decide +kernel
theorem dX3_copyFrom_10 : decode cX3_copyFrom 10 = .ok (.bipush 64, 2) := by decide +kernel
theorem dX3_copyFrom_12 : decode cX3_copyFrom 12 = .ok (.invokestatic 22, 3) := by decide +kernel
theorem dX3_copyFrom_15 : decode cX3_copyFrom 15 = .ok (.aload_n 0, 1) := by decide +kernel
theorem dX3_copyFrom_16 : decode cX3_copyFrom 16 = .ok (.aload_n 1, 1) := by decide +kernel
theorem dX3_copyFrom_17 : decode cX3_copyFrom 17 = .ok (.getfield 15, 3) := by decide +kernel
theorem dX3_copyFrom_20 : decode cX3_copyFrom 20 = .ok (.putfield 15, 3) := by decide +kernel
theorem dX3_copyFrom_23 : decode cX3_copyFrom 23 = .ok (.aload_n 0, 1) := by decide +kernel
theorem dX3_copyFrom_24 : decode cX3_copyFrom 24 = .ok (.aload_n 1, 1) := by decide +kernel
theorem dX3_copyFrom_25 : decode cX3_copyFrom 25 = .ok (.getfield 19, 3) := by decide +kernel
theorem dX3_copyFrom_28 : decode cX3_copyFrom 28 = .ok (.putfield 19, 3) := by decide +kernel
theorem dX3_copyFrom_31 : decode cX3_copyFrom 31 = .ok (.aload_n 0, 1) := by decide +kernel
theorem dX3_copyFrom_32 : decode cX3_copyFrom 32 = .ok (.aload_n 1, 1) := by decide +kernel
theorem dX3_copyFrom_33 : decode cX3_copyFrom 33 = .ok (.getfield 28, 3) := by decide +kernel
theorem dX3_copyFrom_36 : decode cX3_copyFrom 36 = .ok (.putfield 28, 3) := by decide +kernel
theorem dX3_copyFrom_39 : decode cX3_copyFrom 39 = .ok (.return_, 1) := by decide +kernel
theorem dX3_putGrey_0 : decode cX3_putGrey 0 = .ok (.aload_n 0, 1) := by decide +kernel
theorem dX3_putGrey_1 : decode cX3_putGrey 1 = .ok (.getfield 9, 3) := by decide +kernel
theorem dX3_putGrey_4 : decode cX3_putGrey 4 = .ok (.iload_n 1, 1) := by decide +kernel
theorem dX3_putGrey_5 : decode cX3_putGrey 5 = .ok (.iaload, 1) := by decide +kernel
theorem dX3_putGrey_6 : decode cX3_putGrey 6 = .ok (.istore_n 3, 1) := by decide +kernel
theorem dX3_putGrey_7 : decode cX3_putGrey 7 = .ok (.aload_n 0, 1) := by decide +kernel
theorem dX3_putGrey_8 : decode cX3_putGrey 8 = .ok (.getfield 9, 3) := by decide +kernel
theorem dX3_putGrey_11 : decode cX3_putGrey 11 = .ok (.iload_n 1, 1) := by decide +kernel
theorem dX3_putGrey_12 : decode cX3_putGrey 12 = .ok (.iload_n 2, 1) := by decide +kernel
theorem dX3_putGrey_13 : decode cX3_putGrey 13 = .ok (.iastore, 1) := by decide +kernel
theorem dX3_putGrey_14 : decode cX3_putGrey 14 = .ok (.iload_n 3, 1) := by decide +kernel
theorem dX3_putGrey_15 : decode cX3_putGrey 15 = .ok (.ireturn, 1) := by decide +kernel
theorem dX3_turnOver_0 : decode cX3_turnOver 0 = .ok (.iconst 0, 1) := by decide +kernel
theorem dX3_turnOver_1 : decode cX3_turnOver 1 = .ok (.istore_n 1, 1) := by decide +kernel
theorem dX3_turnOver_2 : decode cX3_turnOver 2 = .ok (.iload_n 1, 1) := by decide +kernel
theorem dX3_turnOver_3 : decode cX3_turnOver 3 = .ok (.bipush 64, 2) := by decide +kernel
theorem dX3_turnOver_5 : decode cX3_turnOver 5 = .ok (.if_icmp .ge 25, 3) := by decide +kernel
theorem dX3_turnOver_8 : decode cX3_turnOver 8 = .ok (.aload_n 0, 1) := by decide +kernel
theorem dX3_turnOver_9 : decode cX3_turnOver 9 = .ok (.getfield 9, 3) := by decide +kernel
theorem dX3_turnOver_12 : decode cX3_turnOver 12 = .ok (.iload_n 1, 1) := by decide +kernel
theorem dX3_turnOver_13 : decode cX3_turnOver 13 = .ok (.sipush 255, 3) := by decide +kernel
theorem dX3_turnOver_16 : decode cX3_turnOver 16 = .ok (.aload_n 0, 1) := by decide +kernel
theorem dX3_turnOver_17 : decode cX3_turnOver 17 = .ok (.getfield 9, 3) := by decide +kernel
theorem dX3_turnOver_20 : decode cX3_turnOver 20 = .ok (.iload_n 1, 1) := by decide +kernel
theorem dX3_turnOver_21 : decode cX3_turnOver 21 = .ok (.iaload, 1) := by decide +kernel
theorem dX3_turnOver_22 : decode cX3_turnOver 22 = .ok (.isub, 1) := by decide +kernel
theorem dX3_turnOver_23 : decode cX3_turnOver 23 = .ok (.iastore, 1) := by decide +kernel
theorem dX3_turnOver_24 : decode cX3_turnOver 24 = .ok (.iinc 1 1, 3) := by decide +kernel
theorem dX3_turnOver_27 : decode cX3_turnOver 27 = .ok (.goto (-25), 3) := by decide +kernel
theorem dX3_turnOver_30 : decode cX3_turnOver 30 = .ok (.return_, 1) := by decide +kernel
theorem dX3_lessen_0 : decode cX3_lessen 0 = .ok (.iconst 0, 1) := by decide +kernel
theorem dX3_lessen_1 : decode cX3_lessen 1 = .ok (.istore_n 2, 1) := by decide +kernel
theorem dX3_lessen_2 : decode cX3_lessen 2 = .ok (.iload_n 2, 1) := by decide +kernel
theorem dX3_lessen_3 : decode cX3_lessen 3 = .ok (.bipush 64, 2) := by decide +kernel
theorem dX3_lessen_5 : decode cX3_lessen 5 = .ok (.if_icmp .ge 27, 3) := by decide +kernel
theorem dX3_lessen_8 : decode cX3_lessen 8 = .ok (.aload_n 0, 1) := by decide +kernel
theorem dX3_lessen_9 : decode cX3_lessen 9 = .ok (.getfield 9, 3) := by decide +kernel
theorem dX3_lessen_12 : decode cX3_lessen 12 = .ok (.iload_n 2, 1) := by decide +kernel
theorem dX3_lessen_13 : decode cX3_lessen 13 = .ok (.aload_n 0, 1) := by decide +kernel
theorem dX3_lessen_14 : decode cX3_lessen 14 = .ok (.getfield 9, 3) := by decide +kernel
theorem dX3_lessen_17 : decode cX3_lessen 17 = .ok (.iload_n 2, 1) := by decide +kernel
theorem dX3_lessen_18 : decode cX3_lessen 18 = .ok (.iaload, 1) := by decide +kernel
theorem dX3_lessen_19 : decode cX3_lessen 19 = .ok (.iload_n 1, 1) := by decide +kernel
theorem dX3_lessen_20 : decode cX3_lessen 20 = .ok (.isub, 1) := by decide +kernel
theorem dX3_lessen_21 : decode cX3_lessen 21 = .ok (.iconst 0, 1) := by decide +kernel
theorem dX3_lessen_22 : decode cX3_lessen 22 = .ok (.invokestatic 32, 3) := by decide +kernel
theorem dX3_lessen_25 : decode cX3_lessen 25 = .ok (.iastore, 1) := by decide +kernel
theorem dX3_lessen_26 : decode cX3_lessen 26 = .ok (.iinc 2 1, 3) := by decide +kernel
theorem dX3_lessen_29 : decode cX3_lessen 29 = .ok (.goto (-27), 3) := by decide +kernel
theorem dX3_lessen_32 : decode cX3_lessen 32 = .ok (.return_, 1) := by decide +kernel
theorem dX3_sumOfGreys_0 : decode cX3_sumOfGreys 0 = .ok (.iconst 0, 1) := by decide +kernel
theorem dX3_sumOfGreys_1 : decode cX3_sumOfGreys 1 = .ok (.istore_n 1, 1) := by decide +kernel
theorem dX3_sumOfGreys_2 : decode cX3_sumOfGreys 2 = .ok (.iconst 0, 1) := by decide +kernel
theorem dX3_sumOfGreys_3 : decode cX3_sumOfGreys 3 = .ok (.istore_n 2, 1) := by decide +kernel
theorem dX3_sumOfGreys_4 : decode cX3_sumOfGreys 4 = .ok (.iload_n 2, 1) := by decide +kernel
theorem dX3_sumOfGreys_5 : decode cX3_sumOfGreys 5 = .ok (.bipush 64, 2) := by decide +kernel
theorem dX3_sumOfGreys_7 : decode cX3_sumOfGreys 7 = .ok (.if_icmp .ge 18, 3) := by decide +kernel
theorem dX3_sumOfGreys_10 : decode cX3_sumOfGreys 10 = .ok (.iload_n 1, 1) := by decide +kernel
theorem dX3_sumOfGreys_11 : decode cX3_sumOfGreys 11 = .ok (.aload_n 0, 1) := by decide +kernel
theorem dX3_sumOfGreys_12 : decode cX3_sumOfGreys 12 = .ok (.getfield 9, 3) := by decide +kernel
theorem dX3_sumOfGreys_15 : decode cX3_sumOfGreys 15 = .ok (.iload_n 2, 1) := by decide +kernel
theorem dX3_sumOfGreys_16 : decode cX3_sumOfGreys 16 = .ok (.iaload, 1) := by decide +kernel
theorem dX3_sumOfGreys_17 : decode cX3_sumOfGreys 17 = .ok (.iadd, 1) := by decide +kernel
theorem dX3_sumOfGreys_18 : decode cX3_sumOfGreys 18 = .ok (.istore_n 1, 1) := by decide +kernel
theorem dX3_sumOfGreys_19 : decode cX3_sumOfGreys 19 = .ok (.iinc 2 1, 3) := by decide +kernel
theorem dX3_sumOfGreys_22 : decode cX3_sumOfGreys 22 = .ok (.goto (-18), 3) := by decide +kernel
theorem dX3_sumOfGreys_25 : decode cX3_sumOfGreys 25 = .ok (.iload_n 1, 1) := by decide +kernel
theorem dX3_sumOfGreys_26 : decode cX3_sumOfGreys 26 = .ok (.ireturn, 1) := by decide +kernel
theorem dX3_cellsWithoutGrey_0 : decode cX3_cellsWithoutGrey 0 = .ok (.iconst 0, 1) := by decide +kernel
theorem dX3_cellsWithoutGrey_1 : decode cX3_cellsWithoutGrey 1 = .ok (.istore_n 1, 1) := by decide +kernel
theorem dX3_cellsWithoutGrey_2 : decode cX3_cellsWithoutGrey 2 = .ok (.iconst 0, 1) := by decide +kernel
theorem dX3_cellsWithoutGrey_3 : decode cX3_cellsWithoutGrey 3 = .ok (.istore_n 2, 1) := by decide +kernel
theorem dX3_cellsWithoutGrey_4 : decode cX3_cellsWithoutGrey 4 = .ok (.iload_n 2, 1) := by decide +kernel
theorem dX3_cellsWithoutGrey_5 : decode cX3_cellsWithoutGrey 5 = .ok (.bipush 64, 2) := by decide +kernel
theorem dX3_cellsWithoutGrey_7 : decode cX3_cellsWithoutGrey 7 = .ok (.if_icmp .ge 21, 3) := by decide +kernel
theorem dX3_cellsWithoutGrey_10 : decode cX3_cellsWithoutGrey 10 = .ok (.aload_n 0, 1) := by decide +kernel
theorem dX3_cellsWithoutGrey_11 : decode cX3_cellsWithoutGrey 11 = .ok (.getfield 9, 3) := by decide +kernel
theorem dX3_cellsWithoutGrey_14 : decode cX3_cellsWithoutGrey 14 = .ok (.iload_n 2, 1) := by decide +kernel
theorem dX3_cellsWithoutGrey_15 : decode cX3_cellsWithoutGrey 15 = .ok (.iaload, 1) := by decide +kernel
theorem dX3_cellsWithoutGrey_16 : decode cX3_cellsWithoutGrey 16 = .ok (.ifCond .ne 6, 3) := by decide +kernel
theorem dX3_cellsWithoutGrey_19 : decode cX3_cellsWithoutGrey 19 = .ok (.iinc 1 1, 3) := by decide +kernel
theorem dX3_cellsWithoutGrey_22 : decode cX3_cellsWithoutGrey 22 = .ok (.iinc 2 1, 3) := by decide +kernel
theorem dX3_cellsWithoutGrey_25 : decode cX3_cellsWithoutGrey 25 = .ok (.goto (-21), 3) := by decide +kernel
theorem dX3_cellsWithoutGrey_28 : decode cX3_cellsWithoutGrey 28 = .ok (.iload_n 1, 1) := by decide +kernel
theorem dX3_cellsWithoutGrey_29 : decode cX3_cellsWithoutGrey 29 = .ok (.ireturn, 1) := by decide +kernel
theorem dX3_directionOfRow_0 : decode cX3_directionOfRow 0 = .ok (.aload_n 0, 1) := by decide +kernel
theorem dX3_directionOfRow_1 : decode cX3_directionOfRow 1 = .ok (.getfield 28, 3) := by decide +kernel
theorem dX3_directionOfRow_4 : decode cX3_directionOfRow 4 = .ok (.ifCond .eq 14, 3) := by decide +kernel
theorem dX3_directionOfRow_7 : decode cX3_directionOfRow 7 = .ok (.iload_n 1, 1) := by decide +kernel
theorem dX3_directionOfRow_8 : decode cX3_directionOfRow 8 = .ok (.iconst 2, 1) := by decide +kernel
theorem dX3_directionOfRow_9 : decode cX3_directionOfRow 9 = .ok (.irem, 1) := by decide +kernel
theorem dX3_directionOfRow_10 : decode cX3_directionOfRow 10 = .ok (.iconst 1, 1) := by decide +kernel
theorem dX3_directionOfRow_11 : decode cX3_directionOfRow 11 = .ok (.if_icmp .ne 7, 3) := by decide +kernel
theorem dX3_directionOfRow_14 : decode cX3_directionOfRow 14 = .ok (.iconst (-1), 1) := by decide +kernel
theorem dX3_directionOfRow_15 : decode cX3_directionOfRow 15 = .ok (.goto 4, 3) := by decide +kernel
theorem dX3_directionOfRow_18 : decode cX3_directionOfRow 18 = .ok (.iconst 1, 1) := by decide +kernel
theorem dX3_directionOfRow_19 : decode cX3_directionOfRow 19 = .ok (.ireturn, 1) := by decide +kernel
set_option maxRecDepth 20000 in
theorem ggX3_cellPaintedAt_X3_directionOfRow : GoodIn wsX3_cellPaintedAt wsX3_directionOfRow := goodIn_r _ [5, 6, 7, 8, 9, 10] (by decide +kernel) (by decide +kernel)
set_option maxRecDepth 20000 in
theorem gX3_cellPaintedAt_X3_directionOfRow : GoodIn wsX3_cellPaintedAt (wsV RX3 38 RX3 yX3_directionOfRow wsX3_directionOfRow) := goodIn_app (goodIn_of _ (by decide +kernel)) ggX3_cellPaintedAt_X3_directionOfRow
theorem dX3_cellPaintedAt_0 : decode cX3_cellPaintedAt 0 = .ok (.iload_n 1, 1) := by decide +kernel
theorem dX3_cellPaintedAt_1 : decode cX3_cellPaintedAt 1 = .ok (.bipush 8, 2) := by decide +kernel
theorem dX3_cellPaintedAt_3 : decode cX3_cellPaintedAt 3 = .ok (.idiv, 1) := by decide +kernel
theorem dX3_cellPaintedAt_4 : decode cX3_cellPaintedAt 4 = .ok (.istore_n 2, 1) := by decide +kernel
theorem dX3_cellPaintedAt_5 : decode cX3_cellPaintedAt 5 = .ok (.iload_n 1, 1) := by decide +kernel
theorem dX3_cellPaintedAt_6 : decode cX3_cellPaintedAt 6 = .ok (.bipush 8, 2) := by decide +kernel
theorem dX3_cellPaintedAt_8 : decode cX3_cellPaintedAt 8 = .ok (.irem, 1) := by decide +kernel
theorem dX3_cellPaintedAt_9 : decode cX3_cellPaintedAt 9 = .ok (.istore_n 3, 1) := by decide +kernel
theorem dX3_cellPaintedAt_10 : decode cX3_cellPaintedAt 10 = .ok (.bipush 8, 2) := by decide +kernel
theorem dX3_cellPaintedAt_12 : decode cX3_cellPaintedAt 12 = .ok (.iload_n 2, 1) := by decide +kernel
theorem dX3_cellPaintedAt_13 : decode cX3_cellPaintedAt 13 = .ok (.imul, 1) := by decide +kernel
theorem dX3_cellPaintedAt_14 : decode cX3_cellPaintedAt 14 = .ok (.aload_n 0, 1) := by decide +kernel
theorem dX3_cellPaintedAt_15 : decode cX3_cellPaintedAt 15 = .ok (.iload_n 2, 1) := by decide +kernel
theorem dX3_cellPaintedAt_16 : decode cX3_cellPaintedAt 16 = .ok (.invokevirtual 38, 3) := by decide +kernel
theorem dX3_cellPaintedAt_19 : decode cX3_cellPaintedAt 19 = .ok (.iconst 1, 1) := by decide +kernel
theorem dX3_cellPaintedAt_20 : decode cX3_cellPaintedAt 20 = .ok (.if_icmp .ne 7, 3) := by decide +kernel
theorem dX3_cellPaintedAt_23 : decode cX3_cellPaintedAt 23 = .ok (.iload_n 3, 1) := by decide +kernel
theorem dX3_cellPaintedAt_24 : decode cX3_cellPaintedAt 24 = .ok (.goto 7, 3) := by decide +kernel
theorem dX3_cellPaintedAt_27 : decode cX3_cellPaintedAt 27 = .ok (.bipush 7, 2) := by decide +kernel
theorem dX3_cellPaintedAt_29 : decode cX3_cellPaintedAt 29 = .ok (.iload_n 3, 1) := by decide +kernel
theorem dX3_cellPaintedAt_30 : decode cX3_cellPaintedAt 30 = .ok (.isub, 1) := by decide +kernel
theorem dX3_cellPaintedAt_31 : decode cX3_cellPaintedAt 31 = .ok (.iadd, 1) := by decide +kernel
theorem dX3_cellPaintedAt_32 : decode cX3_cellPaintedAt 32 = .ok (.ireturn, 1) := by decide +kernel
set_option maxRecDepth 20000 in
theorem ggX4_init_X3_init : GoodIn wsX4_init wsX3_init := goodIn_r _ [25, 26, 2, 3, 27, 28, 29, 30, 50, 51, 52, 53] (by decide +kernel) (by decide +kernel)
set_option maxRecDepth 20000 in
theorem gX4_init_X3_init : GoodIn wsX4_init (wsX3_init) := ggX4_init_X3_init
set_option maxRecDepth 20000 in
theorem ggX4_init_X2_init : GoodIn wsX4_init wsX2_init := goodIn_r _ [33, 34, 2, 3, 27, 35, 36, 60, 61, 62, 63] (by decide +kernel) (by decide +kernel)
set_option maxRecDepth 20000 in
theorem gX4_init_X2_init : GoodIn wsX4_init (wsX2_init) := ggX4_init_X2_init
set_option maxRecDepth 20000 in
theorem ggX4_init_X1_init : GoodIn wsX4_init wsX1_init := goodIn_r _ [39, 40, 2, 3, 41, 42, 5, 6, 43, 24, 25, 26, 27, 28, 29, 30, 64, 65, 50, 51, 52, 53] (by decide +kernel) (by decide +kernel)
set_option maxRecDepth 20000 in
theorem gX4_init_X1_init : GoodIn wsX4_init (wsX1_init) := ggX4_init_X1_init
set_option maxRecDepth 20000 in
theorem ggX4_init_X0_init : GoodIn wsX4_init wsX0_init := goodIn_r _ [46, 47, 2, 3, 48, 49, 66, 67] (by decide +kernel) (by decide +kernel)
set_option maxRecDepth 20000 in
theorem gX4_init_X0_init : GoodIn wsX4_init (wsX0_init) := ggX4_init_X0_init
theorem dX4_init_0 : decode cX4_init 0 = .ok (.aload_n 0, 1) := by decide +kernel
theorem dX4_init_1 : decode cX4_init 1 = .ok (.invokespecial 1, 3) := by decide +kernel
theorem dX4_init_4 : decode cX4_init 4 = .ok (.aload_n 0, 1) := by decide +kernel
theorem dX4_init_5 : decode cX4_init 5 = .ok (.new 7, 3) := by decide +kernel
theorem dX4_init_8 : decode cX4_init 8 = .ok (.dup, 1) := by decide +kernel
theorem dX4_init_9 : decode cX4_init 9 = .ok (.invokespecial 9, 3) := by decide +kernel
theorem dX4_init_12 : decode cX4_init 12 = .ok (.putfield 10, 3) := by decide +kernel
theorem dX4_init_15 : decode cX4_init 15 = .ok (.aload_n 0, 1) := by decide +kernel
theorem dX4_init_16 : decode cX4_init 16 = .ok (.new 16, 3) := by decide +kernel
theorem dX4_init_19 : decode cX4_init 19 = .ok (.dup, 1) := by decide +kernel
theorem dX4_init_20 : decode cX4_init 20 = .ok (.invokespecial 18, 3) := by decide +kernel
theorem dX4_init_23 : decode cX4_init 23 = .ok (.putfield 19, 3) := by decide +kernel
theorem dX4_init_26 : decode cX4_init 26 = .ok (.aload_n 0, 1) := by decide +kernel
theorem dX4_init_27 : decode cX4_init 27 = .ok (.new 23, 3) := by decide +kernel
theorem dX4_init_30 : decode cX4_init 30 = .ok (.dup, 1) := by decide +kernel
theorem dX4_init_31 : decode cX4_init 31 = .ok (.invokespecial 25, 3) := by decide +kernel
theorem dX4_init_34 : decode cX4_init 34 = .ok (.putfield 26, 3) := by decide +kernel
theorem dX4_init_37 : decode cX4_init 37 = .ok (.aload_n 0, 1) := by decide +kernel
theorem dX4_init_38 : decode cX4_init 38 = .ok (.iconst 2, 1) := by decide +kernel
theorem dX4_init_39 : decode cX4_init 39 = .ok (.anewarray 7, 3) := by decide +kernel
theorem dX4_init_42 : decode cX4_init 42 = .ok (.putfield 30, 3) := by decide +kernel
theorem dX4_init_45 : decode cX4_init 45 = .ok (.iconst 0, 1) := by decide +kernel
theorem dX4_init_46 : decode cX4_init 46 = .ok (.istore_n 1, 1) := by decide +kernel
theorem dX4_init_47 : decode cX4_init 47 = .ok (.iload_n 1, 1) := by decide +kernel
theorem dX4_init_48 : decode cX4_init 48 = .ok (.iconst 2, 1) := by decide +kernel
theorem dX4_init_49 : decode cX4_init 49 = .ok (.if_icmp .ge 22, 3) := by decide +kernel
theorem dX4_init_52 : decode cX4_init 52 = .ok (.aload_n 0, 1) := by decide +kernel
theorem dX4_init_53 : decode cX4_init 53 = .ok (.getfield 30, 3) := by decide +kernel
theorem dX4_init_56 : decode cX4_init 56 = .ok (.iload_n 1, 1) := by decide +kernel
theorem dX4_init_57 : decode cX4_init 57 = .ok (.new 7, 3) := by decide +kernel
theorem dX4_init_60 : decode cX4_init 60 = .ok (.dup, 1) := by decide +kernel
theorem dX4_init_61 : decode cX4_init 61 = .ok (.invokespecial 9, 3) := by decide +kernel
theorem dX4_init_64 : decode cX4_init 64 = .ok (.aastore, 1) := by decide +kernel
theorem dX4_init_65 : decode cX4_init 65 = .ok (.iinc 1 1, 3) := by decide +kernel
theorem dX4_init_68 : decode cX4_init 68 = .ok (.goto (-21), 3) := by decide +kernel
theorem dX4_init_71 : decode cX4_init 71 = .ok (.aload_n 0, 1) := by decide +kernel
theorem dX4_init_72 : decode cX4_init 72 = .ok (.iconst 2, 1) := by decide +kernel
theorem dX4_init_73 : decode cX4_init 73 = .ok (.newarray .boolean, 2) := by decide +kernel
theorem dX4_init_75 : decode cX4_init 75 = .ok (.putfield 34, 3) := by decide +kernel
theorem dX4_init_78 : decode cX4_init 78 = .ok (.aload_n 0, 1) := by decide +kernel
theorem dX4_init_79 : decode cX4_init 79 = .ok (.new 38, 3) := by decide +kernel
theorem dX4_init_82 : decode cX4_init 82 = .ok (.dup, 1) := by decide +kernel
theorem dX4_init_83 : decode cX4_init 83 = .ok (.invokespecial 40, 3) := by decide +kernel
theorem dX4_init_86 : decode cX4_init 86 = .ok (.putfield 41, 3) := by decide +kernel
theorem dX4_init_89 : decode cX4_init 89 = .ok (.return_, 1) := by decide +kernel
set_option maxRecDepth 20000 in
theorem ggX4_setGrey_X4_requireCell : GoodIn wsX4_setGrey wsX4_requireCell := goodIn_ca (goodIn_r _ [6, 7, 8, 5, 9, 10, 11, 12, 13, 14] (by decide +kernel) (by decide +kernel)) (goodIn_sub (fun _ h => List.mem_cons_of_mem _ (List.mem_append_left _ (List.mem_append_right _ h))) (by decide +kernel))
set_option maxRecDepth 20000 in
theorem gX4_setGrey_X4_requireCell : GoodIn wsX4_setGrey (va_wsS RX4 45 yX4_requireCell wsX4_requireCell) := goodIn_app (goodIn_of _ (by decide +kernel)) ggX4_setGrey_X4_requireCell
set_option maxRecDepth 20000 in
theorem ggX4_setGrey_X4_isGrey : GoodIn wsX4_setGrey wsX4_isGrey := goodIn_r _ [17] (by decide +kernel) (by decide +kernel)
set_option maxRecDepth 20000 in
theorem gX4_setGrey_X4_isGrey : GoodIn wsX4_setGrey (va_wsS RX4 49 yX4_isGrey wsX4_isGrey) := goodIn_app (goodIn_of _ (by decide +kernel)) ggX4_setGrey_X4_isGrey
set_option maxRecDepth 20000 in
theorem ggX4_setGrey_X4_requireArgument : GoodIn wsX4_setGrey wsX4_requireArgument := goodIn_ca (goodIn_r _ [20, 21, 22] (by decide +kernel) (by decide +kernel)) (goodIn_sub (fun _ h => List.mem_cons_of_mem _ (List.mem_append_right _ h)) (by decide +kernel))
set_option maxRecDepth 20000 in
theorem gX4_setGrey_X4_requireArgument : GoodIn wsX4_setGrey (va_wsS RX4 53 yX4_requireArgument wsX4_requireArgument) := goodIn_app (goodIn_of _ (by decide +kernel)) ggX4_setGrey_X4_requireArgument
set_option maxRecDepth 20000 in
theorem ggX4_setGrey_X1_keep : GoodIn wsX4_setGrey wsX1_keep := goodIn_r _ [27, 28, 29, 30, 31, 32, 26, 33, 34, 35, 36, 37, 38, 39, 40, 41, 42, 43, 44, 45, 46, 57, 58, 59, 60, 61, 62] (by decide +kernel) (by decide +kernel)
set_option maxRecDepth 20000 in
theorem gX4_setGrey_X1_keep : GoodIn wsX4_setGrey (wsV RX4 57 RX1 yX1_keep wsX1_keep) := goodIn_app (goodIn_of _ (by decide +kernel)) ggX4_setGrey_X1_keep
set_option maxRecDepth 20000 in
theorem ggX4_setGrey_X3_putGrey : GoodIn wsX4_setGrey wsX3_putGrey := goodIn_r _ [50, 39, 59, 60, 61, 62] (by decide +kernel) (by decide +kernel)
set_option maxRecDepth 20000 in
theorem gX4_setGrey_X3_putGrey : GoodIn wsX4_setGrey (wsV RX4 61 RX3 yX3_putGrey wsX3_putGrey) := goodIn_app (goodIn_of _ (by decide +kernel)) ggX4_setGrey_X3_putGrey
theorem dX4_setGrey_0 : decode cX4_setGrey 0 = .ok (.iload_n 1, 1) := by decide +kernel
theorem dX4_setGrey_1 : decode cX4_setGrey 1 = .ok (.invokestatic 45, 3) := by decide +kernel
theorem dX4_setGrey_4 : decode cX4_setGrey 4 = .ok (.iload_n 2, 1) := by decide +kernel
theorem dX4_setGrey_5 : decode cX4_setGrey 5 = .ok (.invokestatic 49, 3) := by decide +kernel
theorem dX4_setGrey_8 : decode cX4_setGrey 8 = .ok (.invokestatic 53, 3) := by decide +kernel
theorem dX4_setGrey_11 : decode cX4_setGrey 11 = .ok (.aload_n 0, 1) := by decide +kernel
theorem dX4_setGrey_12 : decode cX4_setGrey 12 = .ok (.getfield 26, 3) := by decide +kernel
theorem dX4_setGrey_15 : decode cX4_setGrey 15 = .ok (.aload_n 0, 1) := by decide +kernel
theorem dX4_setGrey_16 : decode cX4_setGrey 16 = .ok (.getfield 10, 3) := by decide +kernel
theorem dX4_setGrey_19 : decode cX4_setGrey 19 = .ok (.invokevirtual 57, 3) := by decide +kernel
theorem dX4_setGrey_22 : decode cX4_setGrey 22 = .ok (.aload_n 0, 1) := by decide +kernel
theorem dX4_setGrey_23 : decode cX4_setGrey 23 = .ok (.getfield 10, 3) := by decide +kernel
theorem dX4_setGrey_26 : decode cX4_setGrey 26 = .ok (.iload_n 1, 1) := by decide +kernel
theorem dX4_setGrey_27 : decode cX4_setGrey 27 = .ok (.iload_n 2, 1) := by decide +kernel
theorem dX4_setGrey_28 : decode cX4_setGrey 28 = .ok (.invokevirtual 61, 3) := by decide +kernel
theorem dX4_setGrey_31 : decode cX4_setGrey 31 = .ok (.ireturn, 1) := by decide +kernel
set_option maxRecDepth 20000 in
theorem ggX4_shadeRow_X4_requireIndex : GoodIn wsX4_shadeRow wsX4_requireIndex := goodIn_ca (goodIn_r _ [6, 7, 8] (by decide +kernel) (by decide +kernel)) (goodIn_sub (fun _ h => List.mem_cons_of_mem _ (List.mem_append_left _ (List.mem_append_right _ h))) (by decide +kernel))
set_option maxRecDepth 20000 in
theorem gX4_shadeRow_X4_requireIndex : GoodIn wsX4_shadeRow (va_wsS RX4 65 yX4_requireIndex wsX4_requireIndex) := goodIn_app (goodIn_of _ (by decide +kernel)) ggX4_shadeRow_X4_requireIndex
set_option maxRecDepth 20000 in
theorem ggX4_shadeRow_X4_isGrey : GoodIn wsX4_shadeRow wsX4_isGrey := goodIn_r _ [11] (by decide +kernel) (by decide +kernel)
set_option maxRecDepth 20000 in
theorem gX4_shadeRow_X4_isGrey : GoodIn wsX4_shadeRow (va_wsS RX4 49 yX4_isGrey wsX4_isGrey) := goodIn_app (goodIn_of _ (by decide +kernel)) ggX4_shadeRow_X4_isGrey
set_option maxRecDepth 20000 in
theorem ggX4_shadeRow_X4_requireArgument : GoodIn wsX4_shadeRow wsX4_requireArgument := goodIn_ca (goodIn_r _ [14, 15, 16] (by decide +kernel) (by decide +kernel)) (goodIn_sub (fun _ h => List.mem_cons_of_mem _ (List.mem_append_right _ h)) (by decide +kernel))
set_option maxRecDepth 20000 in
theorem gX4_shadeRow_X4_requireArgument : GoodIn wsX4_shadeRow (va_wsS RX4 53 yX4_requireArgument wsX4_requireArgument) := goodIn_app (goodIn_of _ (by decide +kernel)) ggX4_shadeRow_X4_requireArgument
set_option maxRecDepth 20000 in
theorem ggX4_shadeRow_X1_keep : GoodIn wsX4_shadeRow wsX1_keep := goodIn_r _ [21, 22, 23, 24, 25, 26, 20, 27, 28, 29, 30, 31, 32, 33, 34, 35, 36, 37, 38, 39, 40, 51, 52, 53, 54, 55, 56] (by decide +kernel) (by decide +kernel)
set_option maxRecDepth 20000 in
theorem gX4_shadeRow_X1_keep : GoodIn wsX4_shadeRow (wsV RX4 57 RX1 yX1_keep wsX1_keep) := goodIn_app (goodIn_of _ (by decide +kernel)) ggX4_shadeRow_X1_keep
set_option maxRecDepth 20000 in
theorem ggX4_shadeRow_X3_putGrey : GoodIn wsX4_shadeRow wsX3_putGrey := goodIn_r _ [44, 33, 53, 54, 55, 56] (by decide +kernel) (by decide +kernel)
set_option maxRecDepth 20000 in
theorem gX4_shadeRow_X3_putGrey : GoodIn wsX4_shadeRow (wsV RX4 61 RX3 yX3_putGrey wsX3_putGrey) := goodIn_app (goodIn_of _ (by decide +kernel)) ggX4_shadeRow_X3_putGrey
theorem dX4_shadeRow_0 : decode cX4_shadeRow 0 = .ok (.iload_n 1, 1) := by decide +kernel
theorem dX4_shadeRow_1 : decode cX4_shadeRow 1 = .ok (.ifCond .lt 13, 3) := by decide +kernel
theorem dX4_shadeRow_4 : decode cX4_shadeRow 4 = .ok (.iload_n 1, 1) := by decide +kernel
theorem dX4_shadeRow_5 : decode cX4_shadeRow 5 = .ok (.bipush 8, 2) := by decide +kernel
theorem dX4_shadeRow_7 : decode cX4_shadeRow 7 = .ok (.if_icmp .ge 7, 3) := by decide +kernel
theorem dX4_shadeRow_10 : decode cX4_shadeRow 10 = .ok (.iconst 1, 1) := by decide +kernel
theorem dX4_shadeRow_11 : decode cX4_shadeRow 11 = .ok (.goto 4, 3) := by decide +kernel
theorem dX4_shadeRow_14 : decode cX4_shadeRow 14 = .ok (.iconst 0, 1) := by decide +kernel
theorem dX4_shadeRow_15 : decode cX4_shadeRow 15 = .ok (.invokestatic 65, 3) := by decide +kernel
theorem dX4_shadeRow_18 : decode cX4_shadeRow 18 = .ok (.iload_n 2, 1) := by decide +kernel
theorem dX4_shadeRow_19 : decode cX4_shadeRow 19 = .ok (.invokestatic 49, 3) := by decide +kernel
theorem dX4_shadeRow_22 : decode cX4_shadeRow 22 = .ok (.ifCond .eq 14, 3) := by decide +kernel
theorem dX4_shadeRow_25 : decode cX4_shadeRow 25 = .ok (.iload_n 3, 1) := by decide +kernel
theorem dX4_shadeRow_26 : decode cX4_shadeRow 26 = .ok (.invokestatic 49, 3) := by decide +kernel
theorem dX4_shadeRow_29 : decode cX4_shadeRow 29 = .ok (.ifCond .eq 7, 3) := by decide +kernel
theorem dX4_shadeRow_32 : decode cX4_shadeRow 32 = .ok (.iconst 1, 1) := by decide +kernel
theorem dX4_shadeRow_33 : decode cX4_shadeRow 33 = .ok (.goto 4, 3) := by decide +kernel
theorem dX4_shadeRow_36 : decode cX4_shadeRow 36 = .ok (.iconst 0, 1) := by decide +kernel
theorem dX4_shadeRow_37 : decode cX4_shadeRow 37 = .ok (.invokestatic 53, 3) := by decide +kernel
theorem dX4_shadeRow_40 : decode cX4_shadeRow 40 = .ok (.aload_n 0, 1) := by decide +kernel
theorem dX4_shadeRow_41 : decode cX4_shadeRow 41 = .ok (.getfield 26, 3) := by decide +kernel
theorem dX4_shadeRow_44 : decode cX4_shadeRow 44 = .ok (.aload_n 0, 1) := by decide +kernel
theorem dX4_shadeRow_45 : decode cX4_shadeRow 45 = .ok (.getfield 10, 3) := by decide +kernel
theorem dX4_shadeRow_48 : decode cX4_shadeRow 48 = .ok (.invokevirtual 57, 3) := by decide +kernel
theorem dX4_shadeRow_51 : decode cX4_shadeRow 51 = .ok (.iconst 0, 1) := by decide +kernel
theorem dX4_shadeRow_52 : decode cX4_shadeRow 52 = .ok (.istore 4, 2) := by decide +kernel
theorem dX4_shadeRow_54 : decode cX4_shadeRow 54 = .ok (.iconst 0, 1) := by decide +kernel
theorem dX4_shadeRow_55 : decode cX4_shadeRow 55 = .ok (.istore 5, 2) := by decide +kernel
theorem dX4_shadeRow_57 : decode cX4_shadeRow 57 = .ok (.iload 5, 2) := by decide +kernel
theorem dX4_shadeRow_59 : decode cX4_shadeRow 59 = .ok (.bipush 8, 2) := by decide +kernel
theorem dX4_shadeRow_61 : decode cX4_shadeRow 61 = .ok (.if_icmp .ge 46, 3) := by decide +kernel
theorem dX4_shadeRow_64 : decode cX4_shadeRow 64 = .ok (.iload_n 2, 1) := by decide +kernel
theorem dX4_shadeRow_65 : decode cX4_shadeRow 65 = .ok (.iload_n 3, 1) := by decide +kernel
theorem dX4_shadeRow_66 : decode cX4_shadeRow 66 = .ok (.iload_n 2, 1) := by decide +kernel
theorem dX4_shadeRow_67 : decode cX4_shadeRow 67 = .ok (.isub, 1) := by decide +kernel
theorem dX4_shadeRow_68 : decode cX4_shadeRow 68 = .ok (.iload 5, 2) := by decide +kernel
theorem dX4_shadeRow_70 : decode cX4_shadeRow 70 = .ok (.imul, 1) := by decide +kernel
theorem dX4_shadeRow_71 : decode cX4_shadeRow 71 = .ok (.bipush 7, 2) := by decide +kernel
theorem dX4_shadeRow_73 : decode cX4_shadeRow 73 = .ok (.idiv, 1) := by decide +kernel
theorem dX4_shadeRow_74 : decode cX4_shadeRow 74 = .ok (.iadd, 1) := by decide +kernel
theorem dX4_shadeRow_75 : decode cX4_shadeRow 75 = .ok (.istore 6, 2) := by decide +kernel
theorem dX4_shadeRow_77 : decode cX4_shadeRow 77 = .ok (.aload_n 0, 1) := by decide +kernel
theorem dX4_shadeRow_78 : decode cX4_shadeRow 78 = .ok (.getfield 10, 3) := by decide +kernel
theorem dX4_shadeRow_81 : decode cX4_shadeRow 81 = .ok (.bipush 8, 2) := by decide +kernel
theorem dX4_shadeRow_83 : decode cX4_shadeRow 83 = .ok (.iload_n 1, 1) := by decide +kernel
theorem dX4_shadeRow_84 : decode cX4_shadeRow 84 = .ok (.imul, 1) := by decide +kernel
theorem dX4_shadeRow_85 : decode cX4_shadeRow 85 = .ok (.iload 5, 2) := by decide +kernel
theorem dX4_shadeRow_87 : decode cX4_shadeRow 87 = .ok (.iadd, 1) := by decide +kernel
theorem dX4_shadeRow_88 : decode cX4_shadeRow 88 = .ok (.iload 6, 2) := by decide +kernel
theorem dX4_shadeRow_90 : decode cX4_shadeRow 90 = .ok (.invokevirtual 61, 3) := by decide +kernel
theorem dX4_shadeRow_93 : decode cX4_shadeRow 93 = .ok (.pop, 1) := by decide +kernel
theorem dX4_shadeRow_94 : decode cX4_shadeRow 94 = .ok (.iload 4, 2) := by decide +kernel
theorem dX4_shadeRow_96 : decode cX4_shadeRow 96 = .ok (.iload 6, 2) := by decide +kernel
theorem dX4_shadeRow_98 : decode cX4_shadeRow 98 = .ok (.iadd, 1) := by decide +kernel
theorem dX4_shadeRow_99 : decode cX4_shadeRow 99 = .ok (.istore 4, 2) := by decide +kernel
theorem dX4_shadeRow_101 : decode cX4_shadeRow 101 = .ok (.iinc 5 1, 3) := by decide +kernel
theorem dX4_shadeRow_104 : decode cX4_shadeRow 104 = .ok (.goto (-47), 3) := by decide +kernel
theorem dX4_shadeRow_107 : decode cX4_shadeRow 107 = .ok (.iload 4, 2) := by decide +kernel
theorem dX4_shadeRow_109 : decode cX4_shadeRow 109 = .ok (.ireturn, 1) := by decide +kernel
set_option maxRecDepth 20000 in
theorem ggX4_fill_X4_requireCell : GoodIn wsX4_fill wsX4_requireCell := goodIn_ca (goodIn_r _ [10, 11, 12, 9, 13, 14, 15, 16, 17, 18] (by decide +kernel) (by decide +kernel)) (goodIn_sub (fun _ h => List.mem_cons_of_mem _ (List.mem_append_left _ (List.mem_append_right _ h))) (by decide +kernel))
set_option maxRecDepth 20000 in
theorem gX4_fill_X4_requireCell : GoodIn wsX4_fill (va_wsS RX4 45 yX4_requireCell wsX4_requireCell) := goodIn_app (goodIn_of _ (by decide +kernel)) ggX4_fill_X4_requireCell
set_option maxRecDepth 20000 in
theorem ggX4_fill_X4_isLengthOfSide : GoodIn wsX4_fill wsX4_isLengthOfSide := goodIn_r _ [21] (by decide +kernel) (by decide +kernel)
set_option maxRecDepth 20000 in
theorem gX4_fill_X4_isLengthOfSide : GoodIn wsX4_fill (va_wsS RX4 68 yX4_isLengthOfSide wsX4_isLengthOfSide) := goodIn_app (goodIn_of _ (by decide +kernel)) ggX4_fill_X4_isLengthOfSide
set_option maxRecDepth 20000 in
theorem ggX4_fill_X4_isGrey : GoodIn wsX4_fill wsX4_isGrey := goodIn_r _ [24] (by decide +kernel) (by decide +kernel)
set_option maxRecDepth 20000 in
theorem gX4_fill_X4_isGrey : GoodIn wsX4_fill (va_wsS RX4 49 yX4_isGrey wsX4_isGrey) := goodIn_app (goodIn_of _ (by decide +kernel)) ggX4_fill_X4_isGrey
set_option maxRecDepth 20000 in
theorem ggX4_fill_X4_requireArgument : GoodIn wsX4_fill wsX4_requireArgument := goodIn_ca (goodIn_r _ [27, 28, 29] (by decide +kernel) (by decide +kernel)) (goodIn_sub (fun _ h => List.mem_cons_of_mem _ (List.mem_append_right _ h)) (by decide +kernel))
set_option maxRecDepth 20000 in
theorem gX4_fill_X4_requireArgument : GoodIn wsX4_fill (va_wsS RX4 53 yX4_requireArgument wsX4_requireArgument) := goodIn_app (goodIn_of _ (by decide +kernel)) ggX4_fill_X4_requireArgument
set_option maxRecDepth 20000 in
theorem ggX4_fill_X1_keep : GoodIn wsX4_fill wsX1_keep := goodIn_r _ [34, 35, 36, 37, 38, 39, 33, 40, 41, 42, 43, 44, 45, 46, 47, 48, 49, 50, 51, 52, 53, 64, 65, 66, 67, 68, 69] (by decide +kernel) (by decide +kernel)
set_option maxRecDepth 20000 in
theorem gX4_fill_X1_keep : GoodIn wsX4_fill (wsV RX4 57 RX1 yX1_keep wsX1_keep) := goodIn_app (goodIn_of _ (by decide +kernel)) ggX4_fill_X1_keep
set_option maxRecDepth 20000 in
theorem ggX4_fill_X3_putGrey : GoodIn wsX4_fill wsX3_putGrey := goodIn_r _ [57, 46, 66, 67, 68, 69] (by decide +kernel) (by decide +kernel)
set_option maxRecDepth 20000 in
theorem gX4_fill_X3_putGrey : GoodIn wsX4_fill (wsV RX4 61 RX3 yX3_putGrey wsX3_putGrey) := goodIn_app (goodIn_of _ (by decide +kernel)) ggX4_fill_X3_putGrey
theorem dX4_fill_0 : decode cX4_fill 0 = .ok (.iload_n 1, 1) := by decide +kernel
theorem dX4_fill_1 : decode cX4_fill 1 = .ok (.invokestatic 45, 3) := by decide +kernel
theorem dX4_fill_4 : decode cX4_fill 4 = .ok (.iload_n 2, 1) := by decide +kernel
theorem dX4_fill_5 : decode cX4_fill 5 = .ok (.invokestatic 68, 3) := by decide +kernel
theorem dX4_fill_8 : decode cX4_fill 8 = .ok (.ifCond .eq 22, 3) := by decide +kernel
theorem dX4_fill_11 : decode cX4_fill 11 = .ok (.iload_n 3, 1) := by decide +kernel
theorem dX4_fill_12 : decode cX4_fill 12 = .ok (.invokestatic 68, 3) := by decide +kernel
theorem dX4_fill_15 : decode cX4_fill 15 = .ok (.ifCond .eq 15, 3) := by decide +kernel
theorem dX4_fill_18 : decode cX4_fill 18 = .ok (.iload 4, 2) := by decide +kernel
theorem dX4_fill_20 : decode cX4_fill 20 = .ok (.invokestatic 49, 3) := by decide +kernel
theorem dX4_fill_23 : decode cX4_fill 23 = .ok (.ifCond .eq 7, 3) := by decide +kernel
theorem dX4_fill_26 : decode cX4_fill 26 = .ok (.iconst 1, 1) := by decide +kernel
theorem dX4_fill_27 : decode cX4_fill 27 = .ok (.goto 4, 3) := by decide +kernel
theorem dX4_fill_30 : decode cX4_fill 30 = .ok (.iconst 0, 1) := by decide +kernel
theorem dX4_fill_31 : decode cX4_fill 31 = .ok (.invokestatic 53, 3) := by decide +kernel
theorem dX4_fill_34 : decode cX4_fill 34 = .ok (.aload_n 0, 1) := by decide +kernel
theorem dX4_fill_35 : decode cX4_fill 35 = .ok (.getfield 26, 3) := by decide +kernel
theorem dX4_fill_38 : decode cX4_fill 38 = .ok (.aload_n 0, 1) := by decide +kernel
theorem dX4_fill_39 : decode cX4_fill 39 = .ok (.getfield 10, 3) := by decide +kernel
theorem dX4_fill_42 : decode cX4_fill 42 = .ok (.invokevirtual 57, 3) := by decide +kernel
theorem dX4_fill_45 : decode cX4_fill 45 = .ok (.iload_n 1, 1) := by decide +kernel
theorem dX4_fill_46 : decode cX4_fill 46 = .ok (.bipush 8, 2) := by decide +kernel
theorem dX4_fill_48 : decode cX4_fill 48 = .ok (.idiv, 1) := by decide +kernel
theorem dX4_fill_49 : decode cX4_fill 49 = .ok (.iload_n 2, 1) := by decide +kernel
theorem dX4_fill_50 : decode cX4_fill 50 = .ok (.iadd, 1) := by decide +kernel
theorem dX4_fill_51 : decode cX4_fill 51 = .ok (.bipush 8, 2) := by decide +kernel
theorem dX4_fill_53 : decode cX4_fill 53 = .ok (.invokestatic 71, 3) := by decide +kernel
theorem dX4_fill_56 : decode cX4_fill 56 = .ok (.istore 5, 2) := by decide +kernel
theorem dX4_fill_58 : decode cX4_fill 58 = .ok (.iload_n 1, 1) := by decide +kernel
theorem dX4_fill_59 : decode cX4_fill 59 = .ok (.bipush 8, 2) := by decide +kernel
theorem dX4_fill_61 : decode cX4_fill 61 = .ok (.irem, 1) := by decide +kernel
theorem dX4_fill_62 : decode cX4_fill 62 = .ok (.iload_n 3, 1) := by decide +kernel
theorem dX4_fill_63 : decode cX4_fill 63 = .ok (.iadd, 1) := by decide +kernel
theorem dX4_fill_64 : decode cX4_fill 64 = .ok (.bipush 8, 2) := by decide +kernel
theorem dX4_fill_66 : decode cX4_fill 66 = .ok (.invokestatic 71, 3) := by decide +kernel
theorem dX4_fill_69 : decode cX4_fill 69 = .ok (.istore 6, 2) := by decide +kernel
theorem dX4_fill_71 : decode cX4_fill 71 = .ok (.iconst 0, 1) := by decide +kernel
theorem dX4_fill_72 : decode cX4_fill 72 = .ok (.istore 7, 2) := by decide +kernel
theorem dX4_fill_74 : decode cX4_fill 74 = .ok (.iload_n 1, 1) := by decide +kernel
theorem dX4_fill_75 : decode cX4_fill 75 = .ok (.bipush 8, 2) := by decide +kernel
theorem dX4_fill_77 : decode cX4_fill 77 = .ok (.idiv, 1) := by decide +kernel
theorem dX4_fill_78 : decode cX4_fill 78 = .ok (.istore 8, 2) := by decide +kernel
theorem dX4_fill_80 : decode cX4_fill 80 = .ok (.iload 8, 2) := by decide +kernel
theorem dX4_fill_82 : decode cX4_fill 82 = .ok (.iload 5, 2) := by decide +kernel
theorem dX4_fill_84 : decode cX4_fill 84 = .ok (.if_icmp .ge 53, 3) := by decide +kernel
theorem dX4_fill_87 : decode cX4_fill 87 = .ok (.iload_n 1, 1) := by decide +kernel
theorem dX4_fill_88 : decode cX4_fill 88 = .ok (.bipush 8, 2) := by decide +kernel
theorem dX4_fill_90 : decode cX4_fill 90 = .ok (.irem, 1) := by decide +kernel
theorem dX4_fill_91 : decode cX4_fill 91 = .ok (.istore 9, 2) := by decide +kernel
theorem dX4_fill_93 : decode cX4_fill 93 = .ok (.iload 9, 2) := by decide +kernel
theorem dX4_fill_95 : decode cX4_fill 95 = .ok (.iload 6, 2) := by decide +kernel
theorem dX4_fill_97 : decode cX4_fill 97 = .ok (.if_icmp .ge 34, 3) := by decide +kernel
theorem dX4_fill_100 : decode cX4_fill 100 = .ok (.aload_n 0, 1) := by decide +kernel
theorem dX4_fill_101 : decode cX4_fill 101 = .ok (.getfield 10, 3) := by decide +kernel
theorem dX4_fill_104 : decode cX4_fill 104 = .ok (.bipush 8, 2) := by decide +kernel
theorem dX4_fill_106 : decode cX4_fill 106 = .ok (.iload 8, 2) := by decide +kernel
theorem dX4_fill_108 : decode cX4_fill 108 = .ok (.imul, 1) := by decide +kernel
theorem dX4_fill_109 : decode cX4_fill 109 = .ok (.iload 9, 2) := by decide +kernel
theorem dX4_fill_111 : decode cX4_fill 111 = .ok (.iadd, 1) := by decide +kernel
theorem dX4_fill_112 : decode cX4_fill 112 = .ok (.iload 4, 2) := by decide +kernel
theorem dX4_fill_114 : decode cX4_fill 114 = .ok (.invokevirtual 61, 3) := by decide +kernel
theorem dX4_fill_117 : decode cX4_fill 117 = .ok (.iload 4, 2) := by decide +kernel
theorem dX4_fill_119 : decode cX4_fill 119 = .ok (.if_icmp .eq 6, 3) := by decide +kernel
theorem dX4_fill_122 : decode cX4_fill 122 = .ok (.iinc 7 1, 3) := by decide +kernel
theorem dX4_fill_125 : decode cX4_fill 125 = .ok (.iinc 9 1, 3) := by decide +kernel
theorem dX4_fill_128 : decode cX4_fill 128 = .ok (.goto (-35), 3) := by decide +kernel
theorem dX4_fill_131 : decode cX4_fill 131 = .ok (.iinc 8 1, 3) := by decide +kernel
theorem dX4_fill_134 : decode cX4_fill 134 = .ok (.goto (-54), 3) := by decide +kernel
theorem dX4_fill_137 : decode cX4_fill 137 = .ok (.iload 7, 2) := by decide +kernel
theorem dX4_fill_139 : decode cX4_fill 139 = .ok (.ireturn, 1) := by decide +kernel
set_option maxRecDepth 20000 in
theorem ggX4_invert_X1_keep : GoodIn wsX4_invert wsX1_keep := goodIn_r _ [7, 8, 9, 10, 11, 12, 6, 13, 14, 15, 16, 17, 18, 19, 20, 21, 22, 23, 24, 25, 26, 41, 42, 43, 44, 45, 46] (by decide +kernel) (by decide +kernel)
set_option maxRecDepth 20000 in
theorem gX4_invert_X1_keep : GoodIn wsX4_invert (wsV RX4 57 RX1 yX1_keep wsX1_keep) := goodIn_app (goodIn_of _ (by decide +kernel)) ggX4_invert_X1_keep
set_option maxRecDepth 20000 in
theorem ggX4_invert_X3_turnOver : GoodIn wsX4_invert wsX3_turnOver := goodIn_r _ [30, 19, 43, 44, 45, 46] (by decide +kernel) (by decide +kernel)
set_option maxRecDepth 20000 in
theorem gX4_invert_X3_turnOver : GoodIn wsX4_invert (wsV RX4 76 RX3 yX3_turnOver wsX3_turnOver) := goodIn_app (goodIn_of _ (by decide +kernel)) ggX4_invert_X3_turnOver
set_option maxRecDepth 20000 in
theorem ggX4_invert_X3_sumOfGreys : GoodIn wsX4_invert wsX3_sumOfGreys := goodIn_r _ [34, 19, 43, 44, 45, 46] (by decide +kernel) (by decide +kernel)
set_option maxRecDepth 20000 in
theorem gX4_invert_X3_sumOfGreys : GoodIn wsX4_invert (wsV RX4 79 RX3 yX3_sumOfGreys wsX3_sumOfGreys) := goodIn_app (goodIn_of _ (by decide +kernel)) ggX4_invert_X3_sumOfGreys
theorem dX4_invert_0 : decode cX4_invert 0 = .ok (.aload_n 0, 1) := by decide +kernel
theorem dX4_invert_1 : decode cX4_invert 1 = .ok (.getfield 26, 3) := by decide +kernel
theorem dX4_invert_4 : decode cX4_invert 4 = .ok (.aload_n 0, 1) := by decide +kernel
theorem dX4_invert_5 : decode cX4_invert 5 = .ok (.getfield 10, 3) := by decide +kernel
theorem dX4_invert_8 : decode cX4_invert 8 = .ok (.invokevirtual 57, 3) := by decide +kernel
theorem dX4_invert_11 : decode cX4_invert 11 = .ok (.aload_n 0, 1) := by decide +kernel
theorem dX4_invert_12 : decode cX4_invert 12 = .ok (.getfield 10, 3) := by decide +kernel
theorem dX4_invert_15 : decode cX4_invert 15 = .ok (.invokevirtual 76, 3) := by decide +kernel
theorem dX4_invert_18 : decode cX4_invert 18 = .ok (.aload_n 0, 1) := by decide +kernel
theorem dX4_invert_19 : decode cX4_invert 19 = .ok (.getfield 10, 3) := by decide +kernel
theorem dX4_invert_22 : decode cX4_invert 22 = .ok (.invokevirtual 79, 3) := by decide +kernel
theorem dX4_invert_25 : decode cX4_invert 25 = .ok (.ireturn, 1) := by decide +kernel
set_option maxRecDepth 20000 in
theorem ggX4_thaw_X4_isAmount : GoodIn wsX4_thaw wsX4_isAmount := goodIn_r _ [6] (by decide +kernel) (by decide +kernel)
set_option maxRecDepth 20000 in
theorem gX4_thaw_X4_isAmount : GoodIn wsX4_thaw (va_wsS RX4 83 yX4_isAmount wsX4_isAmount) := goodIn_app (goodIn_of _ (by decide +kernel)) ggX4_thaw_X4_isAmount
set_option maxRecDepth 20000 in
theorem ggX4_thaw_X4_requireArgument : GoodIn wsX4_thaw wsX4_requireArgument := goodIn_ca (goodIn_r _ [9, 10, 11] (by decide +kernel) (by decide +kernel)) (goodIn_sub (fun _ h => List.mem_cons_of_mem _ (List.mem_append_right _ h)) (by decide +kernel))
set_option maxRecDepth 20000 in
theorem gX4_thaw_X4_requireArgument : GoodIn wsX4_thaw (va_wsS RX4 53 yX4_requireArgument wsX4_requireArgument) := goodIn_app (goodIn_of _ (by decide +kernel)) ggX4_thaw_X4_requireArgument
set_option maxRecDepth 20000 in
theorem ggX4_thaw_X1_keep : GoodIn wsX4_thaw wsX1_keep := goodIn_r _ [16, 17, 18, 19, 20, 21, 15, 22, 23, 24, 25, 26, 27, 28, 29, 30, 31, 32, 33, 34, 35, 54, 55, 56, 57, 58, 59] (by decide +kernel) (by decide +kernel)
set_option maxRecDepth 20000 in
theorem gX4_thaw_X1_keep : GoodIn wsX4_thaw (wsV RX4 57 RX1 yX1_keep wsX1_keep) := goodIn_app (goodIn_of _ (by decide +kernel)) ggX4_thaw_X1_keep
set_option maxRecDepth 20000 in
theorem ggX4_thaw_X3_lessen : GoodIn wsX4_thaw wsX3_lessen := goodIn_r _ [39, 28, 40, 41, 42, 43, 56, 57, 58, 59] (by decide +kernel) (by decide +kernel)
set_option maxRecDepth 20000 in
theorem gX4_thaw_X3_lessen : GoodIn wsX4_thaw (wsV RX4 86 RX3 yX3_lessen wsX3_lessen) := goodIn_app (goodIn_of _ (by decide +kernel)) ggX4_thaw_X3_lessen
set_option maxRecDepth 20000 in
theorem ggX4_thaw_X3_cellsWithoutGrey : GoodIn wsX4_thaw wsX3_cellsWithoutGrey := goodIn_r _ [47, 28, 56, 57, 58, 59] (by decide +kernel) (by decide +kernel)
set_option maxRecDepth 20000 in
theorem gX4_thaw_X3_cellsWithoutGrey : GoodIn wsX4_thaw (wsV RX4 89 RX3 yX3_cellsWithoutGrey wsX3_cellsWithoutGrey) := goodIn_app (goodIn_of _ (by decide +kernel)) ggX4_thaw_X3_cellsWithoutGrey
theorem dX4_thaw_0 : decode cX4_thaw 0 = .ok (.iload_n 1, 1) := by decide +kernel
theorem dX4_thaw_1 : decode cX4_thaw 1 = .ok (.invokestatic 83, 3) := by decide +kernel
theorem dX4_thaw_4 : decode cX4_thaw 4 = .ok (.invokestatic 53, 3) := by decide +kernel
theorem dX4_thaw_7 : decode cX4_thaw 7 = .ok (.aload_n 0, 1) := by decide +kernel
theorem dX4_thaw_8 : decode cX4_thaw 8 = .ok (.getfield 26, 3) := by decide +kernel
theorem dX4_thaw_11 : decode cX4_thaw 11 = .ok (.aload_n 0, 1) := by decide +kernel
theorem dX4_thaw_12 : decode cX4_thaw 12 = .ok (.getfield 10, 3) := by decide +kernel
theorem dX4_thaw_15 : decode cX4_thaw 15 = .ok (.invokevirtual 57, 3) := by decide +kernel
theorem dX4_thaw_18 : decode cX4_thaw 18 = .ok (.aload_n 0, 1) := by decide +kernel
theorem dX4_thaw_19 : decode cX4_thaw 19 = .ok (.getfield 10, 3) := by decide +kernel
theorem dX4_thaw_22 : decode cX4_thaw 22 = .ok (.iload_n 1, 1) := by decide +kernel
theorem dX4_thaw_23 : decode cX4_thaw 23 = .ok (.invokevirtual 86, 3) := by decide +kernel
theorem dX4_thaw_26 : decode cX4_thaw 26 = .ok (.aload_n 0, 1) := by decide +kernel
theorem dX4_thaw_27 : decode cX4_thaw 27 = .ok (.getfield 10, 3) := by decide +kernel
theorem dX4_thaw_30 : decode cX4_thaw 30 = .ok (.invokevirtual 89, 3) := by decide +kernel
theorem dX4_thaw_33 : decode cX4_thaw 33 = .ok (.ireturn, 1) := by decide +kernel
set_option maxRecDepth 20000 in
theorem ggX4_setRule_X4_isRule : GoodIn wsX4_setRule wsX4_isRule := goodIn_r _ [7] (by decide +kernel) (by decide +kernel)
set_option maxRecDepth 20000 in
theorem gX4_setRule_X4_isRule : GoodIn wsX4_setRule (va_wsS RX4 92 yX4_isRule wsX4_isRule) := goodIn_app (goodIn_of _ (by decide +kernel)) ggX4_setRule_X4_isRule
set_option maxRecDepth 20000 in
theorem ggX4_setRule_X4_requireArgument : GoodIn wsX4_setRule wsX4_requireArgument := goodIn_ca (goodIn_r _ [10, 11, 12] (by decide +kernel) (by decide +kernel)) (goodIn_sub (fun _ h => List.mem_cons_of_mem _ (List.mem_append_right _ h)) (by decide +kernel))
set_option maxRecDepth 20000 in
theorem gX4_setRule_X4_requireArgument : GoodIn wsX4_setRule (va_wsS RX4 53 yX4_requireArgument wsX4_requireArgument) := goodIn_app (goodIn_of _ (by decide +kernel)) ggX4_setRule_X4_requireArgument
set_option maxRecDepth 20000 in
theorem ggX4_setRule_X1_keep : GoodIn wsX4_setRule wsX1_keep := goodIn_r _ [17, 18, 19, 20, 21, 22, 16, 23, 24, 25, 26, 27, 28, 29, 30, 31, 32, 33, 34, 35, 36, 47, 48, 43, 44, 45, 46] (by decide +kernel) (by decide +kernel)
set_option maxRecDepth 20000 in
theorem gX4_setRule_X1_keep : GoodIn wsX4_setRule (wsV RX4 57 RX1 yX1_keep wsX1_keep) := goodIn_app (goodIn_of _ (by decide +kernel)) ggX4_setRule_X1_keep
theorem dX4_setRule_0 : decode cX4_setRule 0 = .ok (.iload_n 1, 1) := by decide +kernel
theorem dX4_setRule_1 : decode cX4_setRule 1 = .ok (.invokestatic 92, 3) := by decide +kernel
theorem dX4_setRule_4 : decode cX4_setRule 4 = .ok (.invokestatic 53, 3) := by decide +kernel
theorem dX4_setRule_7 : decode cX4_setRule 7 = .ok (.aload_n 0, 1) := by decide +kernel
theorem dX4_setRule_8 : decode cX4_setRule 8 = .ok (.getfield 26, 3) := by decide +kernel
theorem dX4_setRule_11 : decode cX4_setRule 11 = .ok (.aload_n 0, 1) := by decide +kernel
theorem dX4_setRule_12 : decode cX4_setRule 12 = .ok (.getfield 10, 3) := by decide +kernel
theorem dX4_setRule_15 : decode cX4_setRule 15 = .ok (.invokevirtual 57, 3) := by decide +kernel
theorem dX4_setRule_18 : decode cX4_setRule 18 = .ok (.aload_n 0, 1) := by decide +kernel
theorem dX4_setRule_19 : decode cX4_setRule 19 = .ok (.getfield 10, 3) := by decide +kernel
theorem dX4_setRule_22 : decode cX4_setRule 22 = .ok (.getfield 95, 3) := by decide +kernel
theorem dX4_setRule_25 : decode cX4_setRule 25 = .ok (.istore_n 2, 1) := by decide +kernel
theorem dX4_setRule_26 : decode cX4_setRule 26 = .ok (.aload_n 0, 1) := by decide +kernel
theorem dX4_setRule_27 : decode cX4_setRule 27 = .ok (.getfield 10, 3) := by decide +kernel
theorem dX4_setRule_30 : decode cX4_setRule 30 = .ok (.iload_n 1, 1) := by decide +kernel
theorem dX4_setRule_31 : decode cX4_setRule 31 = .ok (.putfield 95, 3) := by decide +kernel
theorem dX4_setRule_34 : decode cX4_setRule 34 = .ok (.iload_n 2, 1) := by decide +kernel
theorem dX4_setRule_35 : decode cX4_setRule 35 = .ok (.ireturn, 1) := by decide +kernel
set_option maxRecDepth 20000 in
theorem ggX4_setThreshold_X4_requireArgument : GoodIn wsX4_setThreshold wsX4_requireArgument := goodIn_ca (goodIn_r _ [7, 8, 9] (by decide +kernel) (by decide +kernel)) (goodIn_sub (fun _ h => List.mem_cons_of_mem _ (List.mem_append_right _ h)) (by decide +kernel))
set_option maxRecDepth 20000 in
theorem gX4_setThreshold_X4_requireArgument : GoodIn wsX4_setThreshold (va_wsS RX4 53 yX4_requireArgument wsX4_requireArgument) := goodIn_app (goodIn_of _ (by decide +kernel)) ggX4_setThreshold_X4_requireArgument
set_option maxRecDepth 20000 in
theorem ggX4_setThreshold_X1_keep : GoodIn wsX4_setThreshold wsX1_keep := goodIn_r _ [14, 15, 16, 17, 18, 19, 13, 20, 21, 22, 23, 24, 25, 26, 27, 28, 29, 30, 31, 32, 33, 44, 45, 40, 41, 42, 43] (by decide +kernel) (by decide +kernel)
set_option maxRecDepth 20000 in
theorem gX4_setThreshold_X1_keep : GoodIn wsX4_setThreshold (wsV RX4 57 RX1 yX1_keep wsX1_keep) := goodIn_app (goodIn_of _ (by decide +kernel)) ggX4_setThreshold_X1_keep
theorem dX4_setThreshold_0 : decode cX4_setThreshold 0 = .ok (.iload_n 1, 1) := by decide +kernel
theorem dX4_setThreshold_1 : decode cX4_setThreshold 1 = .ok (.iconst 1, 1) := by decide +kernel
theorem dX4_setThreshold_2 : decode cX4_setThreshold 2 = .ok (.if_icmp .lt 14, 3) := by decide +kernel
theorem dX4_setThreshold_5 : decode cX4_setThreshold 5 = .ok (.iload_n 1, 1) := by decide +kernel
theorem dX4_setThreshold_6 : decode cX4_setThreshold 6 = .ok (.sipush 255, 3) := by decide +kernel
theorem dX4_setThreshold_9 : decode cX4_setThreshold 9 = .ok (.if_icmp .gt 7, 3) := by decide +kernel
theorem dX4_setThreshold_12 : decode cX4_setThreshold 12 = .ok (.iconst 1, 1) := by decide +kernel
theorem dX4_setThreshold_13 : decode cX4_setThreshold 13 = .ok (.goto 4, 3) := by decide +kernel
theorem dX4_setThreshold_16 : decode cX4_setThreshold 16 = .ok (.iconst 0, 1) := by decide +kernel
theorem dX4_setThreshold_17 : decode cX4_setThreshold 17 = .ok (.invokestatic 53, 3) := by decide +kernel
theorem dX4_setThreshold_20 : decode cX4_setThreshold 20 = .ok (.aload_n 0, 1) := by decide +kernel
theorem dX4_setThreshold_21 : decode cX4_setThreshold 21 = .ok (.getfield 26, 3) := by decide +kernel
theorem dX4_setThreshold_24 : decode cX4_setThreshold 24 = .ok (.aload_n 0, 1) := by decide +kernel
theorem dX4_setThreshold_25 : decode cX4_setThreshold 25 = .ok (.getfield 10, 3) := by decide +kernel
theorem dX4_setThreshold_28 : decode cX4_setThreshold 28 = .ok (.invokevirtual 57, 3) := by decide +kernel
theorem dX4_setThreshold_31 : decode cX4_setThreshold 31 = .ok (.aload_n 0, 1) := by decide +kernel
theorem dX4_setThreshold_32 : decode cX4_setThreshold 32 = .ok (.getfield 10, 3) := by decide +kernel
theorem dX4_setThreshold_35 : decode cX4_setThreshold 35 = .ok (.getfield 99, 3) := by decide +kernel
theorem dX4_setThreshold_38 : decode cX4_setThreshold 38 = .ok (.istore_n 2, 1) := by decide +kernel
theorem dX4_setThreshold_39 : decode cX4_setThreshold 39 = .ok (.aload_n 0, 1) := by decide +kernel
theorem dX4_setThreshold_40 : decode cX4_setThreshold 40 = .ok (.getfield 10, 3) := by decide +kernel
theorem dX4_setThreshold_43 : decode cX4_setThreshold 43 = .ok (.iload_n 1, 1) := by decide +kernel
theorem dX4_setThreshold_44 : decode cX4_setThreshold 44 = .ok (.putfield 99, 3) := by decide +kernel
theorem dX4_setThreshold_47 : decode cX4_setThreshold 47 = .ok (.iload_n 2, 1) := by decide +kernel
theorem dX4_setThreshold_48 : decode cX4_setThreshold 48 = .ok (.ireturn, 1) := by decide +kernel
set_option maxRecDepth 20000 in
theorem ggX4_turnWinding_X1_keep : GoodIn wsX4_turnWinding wsX1_keep := goodIn_r _ [8, 9, 10, 11, 12, 13, 7, 14, 15, 16, 17, 18, 19, 20, 21, 22, 23, 24, 25, 26, 27, 38, 39, 34, 35, 36, 37] (by decide +kernel) (by decide +kernel)
set_option maxRecDepth 20000 in
theorem gX4_turnWinding_X1_keep : GoodIn wsX4_turnWinding (wsV RX4 57 RX1 yX1_keep wsX1_keep) := goodIn_app (goodIn_of _ (by decide +kernel)) ggX4_turnWinding_X1_keep
theorem dX4_turnWinding_0 : decode cX4_turnWinding 0 = .ok (.aload_n 0, 1) := by decide +kernel
theorem dX4_turnWinding_1 : decode cX4_turnWinding 1 = .ok (.getfield 26, 3) := by decide +kernel
theorem dX4_turnWinding_4 : decode cX4_turnWinding 4 = .ok (.aload_n 0, 1) := by decide +kernel
theorem dX4_turnWinding_5 : decode cX4_turnWinding 5 = .ok (.getfield 10, 3) := by decide +kernel
theorem dX4_turnWinding_8 : decode cX4_turnWinding 8 = .ok (.invokevirtual 57, 3) := by decide +kernel
theorem dX4_turnWinding_11 : decode cX4_turnWinding 11 = .ok (.aload_n 0, 1) := by decide +kernel
theorem dX4_turnWinding_12 : decode cX4_turnWinding 12 = .ok (.getfield 10, 3) := by decide +kernel
theorem dX4_turnWinding_15 : decode cX4_turnWinding 15 = .ok (.aload_n 0, 1) := by decide +kernel
theorem dX4_turnWinding_16 : decode cX4_turnWinding 16 = .ok (.getfield 10, 3) := by decide +kernel
theorem dX4_turnWinding_19 : decode cX4_turnWinding 19 = .ok (.getfield 102, 3) := by decide +kernel
theorem dX4_turnWinding_22 : decode cX4_turnWinding 22 = .ok (.ifCond .ne 7, 3) := by decide +kernel
theorem dX4_turnWinding_25 : decode cX4_turnWinding 25 = .ok (.iconst 1, 1) := by decide +kernel
theorem dX4_turnWinding_26 : decode cX4_turnWinding 26 = .ok (.goto 4, 3) := by decide +kernel
theorem dX4_turnWinding_29 : decode cX4_turnWinding 29 = .ok (.iconst 0, 1) := by decide +kernel
theorem dX4_turnWinding_30 : decode cX4_turnWinding 30 = .ok (.putfield 102, 3) := by decide +kernel
theorem dX4_turnWinding_33 : decode cX4_turnWinding 33 = .ok (.aload_n 0, 1) := by decide +kernel
theorem dX4_turnWinding_34 : decode cX4_turnWinding 34 = .ok (.getfield 10, 3) := by decide +kernel
theorem dX4_turnWinding_37 : decode cX4_turnWinding 37 = .ok (.getfield 102, 3) := by decide +kernel
theorem dX4_turnWinding_40 : decode cX4_turnWinding 40 = .ok (.ireturn, 1) := by decide +kernel
set_option maxRecDepth 20000 in
theorem ggX4_greyOf_X4_requireCell : GoodIn wsX4_greyOf wsX4_requireCell := goodIn_ca (goodIn_r _ [6, 7, 8, 5, 9, 10, 11, 12, 13, 14] (by decide +kernel) (by decide +kernel)) (goodIn_sub (fun _ h => List.mem_cons_of_mem _ (List.mem_append_right _ h)) (by decide +kernel))
set_option maxRecDepth 20000 in
theorem gX4_greyOf_X4_requireCell : GoodIn wsX4_greyOf (va_wsS RX4 45 yX4_requireCell wsX4_requireCell) := goodIn_app (goodIn_of _ (by decide +kernel)) ggX4_greyOf_X4_requireCell
theorem dX4_greyOf_0 : decode cX4_greyOf 0 = .ok (.iload_n 1, 1) := by decide +kernel
theorem dX4_greyOf_1 : decode cX4_greyOf 1 = .ok (.invokestatic 45, 3) := by decide +kernel
theorem dX4_greyOf_4 : decode cX4_greyOf 4 = .ok (.aload_n 0, 1) := by decide +kernel
theorem dX4_greyOf_5 : decode cX4_greyOf 5 = .ok (.getfield 10, 3) := by decide +kernel
theorem dX4_greyOf_8 : decode cX4_greyOf 8 = .ok (.getfield 106, 3) := by decide +kernel
theorem dX4_greyOf_11 : decode cX4_greyOf 11 = .ok (.iload_n 1, 1) := by decide +kernel
theorem dX4_greyOf_12 : decode cX4_greyOf 12 = .ok (.iaload, 1) := by decide +kernel
theorem dX4_greyOf_13 : decode cX4_greyOf 13 = .ok (.ireturn, 1) := by decide +kernel
set_option maxRecDepth 20000 in
theorem ggX4_greySum_X3_sumOfGreys : GoodIn wsX4_greySum wsX3_sumOfGreys := goodIn_r _ [6, 7, 14, 15, 16, 17] (by decide +kernel) (by decide +kernel)
set_option maxRecDepth 20000 in
theorem gX4_greySum_X3_sumOfGreys : GoodIn wsX4_greySum (wsV RX4 79 RX3 yX3_sumOfGreys wsX3_sumOfGreys) := goodIn_app (goodIn_of _ (by decide +kernel)) ggX4_greySum_X3_sumOfGreys
theorem dX4_greySum_0 : decode cX4_greySum 0 = .ok (.aload_n 0, 1) := by decide +kernel
theorem dX4_greySum_1 : decode cX4_greySum 1 = .ok (.getfield 10, 3) := by decide +kernel
theorem dX4_greySum_4 : decode cX4_greySum 4 = .ok (.invokevirtual 79, 3) := by decide +kernel
theorem dX4_greySum_7 : decode cX4_greySum 7 = .ok (.ireturn, 1) := by decide +kernel
set_option maxRecDepth 20000 in
theorem ggX4_cellAt_X4_requireIndex : GoodIn wsX4_cellAt wsX4_requireIndex := goodIn_ca (goodIn_r _ [5, 6, 7] (by decide +kernel) (by decide +kernel)) (goodIn_sub (fun _ h => List.mem_cons_of_mem _ (List.mem_append_right _ h)) (by decide +kernel))
set_option maxRecDepth 20000 in
theorem gX4_cellAt_X4_requireIndex : GoodIn wsX4_cellAt (va_wsS RX4 65 yX4_requireIndex wsX4_requireIndex) := goodIn_app (goodIn_of _ (by decide +kernel)) ggX4_cellAt_X4_requireIndex
set_option maxRecDepth 20000 in
theorem ggX4_cellAt_X3_cellPaintedAt : GoodIn wsX4_cellAt wsX3_cellPaintedAt := goodIn_r _ [12, 13, 14, 15, 11, 16, 17, 24, 25, 26, 27] (by decide +kernel) (by decide +kernel)
set_option maxRecDepth 20000 in
theorem gX4_cellAt_X3_cellPaintedAt : GoodIn wsX4_cellAt (wsV RX4 110 RX3 yX3_cellPaintedAt wsX3_cellPaintedAt) := goodIn_app (goodIn_of _ (by decide +kernel)) ggX4_cellAt_X3_cellPaintedAt
theorem dX4_cellAt_0 : decode cX4_cellAt 0 = .ok (.iload_n 1, 1) := by decide +kernel
theorem dX4_cellAt_1 : decode cX4_cellAt 1 = .ok (.ifCond .lt 13, 3) := by decide +kernel
theorem dX4_cellAt_4 : decode cX4_cellAt 4 = .ok (.iload_n 1, 1) := by decide +kernel
theorem dX4_cellAt_5 : decode cX4_cellAt 5 = .ok (.bipush 64, 2) := by decide +kernel
theorem dX4_cellAt_7 : decode cX4_cellAt 7 = .ok (.if_icmp .ge 7, 3) := by decide +kernel
theorem dX4_cellAt_10 : decode cX4_cellAt 10 = .ok (.iconst 1, 1) := by decide +kernel
theorem dX4_cellAt_11 : decode cX4_cellAt 11 = .ok (.goto 4, 3) := by decide +kernel
theorem dX4_cellAt_14 : decode cX4_cellAt 14 = .ok (.iconst 0, 1) := by decide +kernel
theorem dX4_cellAt_15 : decode cX4_cellAt 15 = .ok (.invokestatic 65, 3) := by decide +kernel
theorem dX4_cellAt_18 : decode cX4_cellAt 18 = .ok (.aload_n 0, 1) := by decide +kernel
theorem dX4_cellAt_19 : decode cX4_cellAt 19 = .ok (.getfield 10, 3) := by decide +kernel
theorem dX4_cellAt_22 : decode cX4_cellAt 22 = .ok (.iload_n 1, 1) := by decide +kernel
theorem dX4_cellAt_23 : decode cX4_cellAt 23 = .ok (.invokevirtual 110, 3) := by decide +kernel
theorem dX4_cellAt_26 : decode cX4_cellAt 26 = .ok (.ireturn, 1) := by decide +kernel
set_option maxRecDepth 20000 in
theorem ggX4_flakes_X4_paint : GoodIn wsX4_flakes wsX4_paint := goodIn_r _ [7, 1, 8, 9, 10, 11, 12, 13, 14, 15, 16, 17, 18, 19, 20, 21, 22, 23, 24, 25, 26, 27, 28, 29, 30, 31, 32, 33, 34, 35, 36, 37, 38, 39, 40, 41, 42, 43, 44, 6, 45, 46, 47, 48, 49, 50, 51, 52, 53, 54, 55, 56, 57, 58, 59, 60, 65, 66, 67, 68, 61, 62, 63, 64] (by decide +kernel) (by decide +kernel)
set_option maxRecDepth 20000 in
theorem gX4_flakes_X4_paint : GoodIn wsX4_flakes (wsV RX4 114 RX4 yX4_paint wsX4_paint) := goodIn_app (goodIn_of _ (by decide +kernel)) ggX4_flakes_X4_paint
theorem dX4_flakes_0 : decode cX4_flakes 0 = .ok (.aload_n 0, 1) := by decide +kernel
theorem dX4_flakes_1 : decode cX4_flakes 1 = .ok (.invokevirtual 114, 3) := by decide +kernel
theorem dX4_flakes_4 : decode cX4_flakes 4 = .ok (.aload_n 0, 1) := by decide +kernel
theorem dX4_flakes_5 : decode cX4_flakes 5 = .ok (.getfield 19, 3) := by decide +kernel
theorem dX4_flakes_8 : decode cX4_flakes 8 = .ok (.getfield 117, 3) := by decide +kernel
theorem dX4_flakes_11 : decode cX4_flakes 11 = .ok (.lreturn, 1) := by decide +kernel
set_option maxRecDepth 20000 in
theorem ggX4_flakesByCollecting_X2_paintByCollecting : GoodIn wsX4_flakesByCollecting wsX2_paintByCollecting := goodIn_r _ [10, 11, 12, 13, 14, 15, 16, 17, 18, 19, 20, 21, 22, 23, 24, 25, 26, 9, 27, 28, 29, 30, 31, 32, 33, 34, 35, 36, 37, 38, 39, 40, 51, 52, 53, 54, 47, 48, 49, 50] (by decide +kernel) (by decide +kernel)
set_option maxRecDepth 20000 in
theorem gX4_flakesByCollecting_X2_paintByCollecting : GoodIn wsX4_flakesByCollecting (wsV RX4 121 RX2 yX2_paintByCollecting wsX2_paintByCollecting) := goodIn_app (goodIn_of _ (by decide +kernel)) ggX4_flakesByCollecting_X2_paintByCollecting
theorem dX4_flakesByCollecting_0 : decode cX4_flakesByCollecting 0 = .ok (.aload_n 0, 1) := by decide +kernel
theorem dX4_flakesByCollecting_1 : decode cX4_flakesByCollecting 1 = .ok (.getfield 19, 3) := by decide +kernel
theorem dX4_flakesByCollecting_4 : decode cX4_flakesByCollecting 4 = .ok (.aload_n 0, 1) := by decide +kernel
theorem dX4_flakesByCollecting_5 : decode cX4_flakesByCollecting 5 = .ok (.getfield 10, 3) := by decide +kernel
theorem dX4_flakesByCollecting_8 : decode cX4_flakesByCollecting 8 = .ok (.aload_n 0, 1) := by decide +kernel
theorem dX4_flakesByCollecting_9 : decode cX4_flakesByCollecting 9 = .ok (.getfield 10, 3) := by decide +kernel
theorem dX4_flakesByCollecting_12 : decode cX4_flakesByCollecting 12 = .ok (.getfield 95, 3) := by decide +kernel
theorem dX4_flakesByCollecting_15 : decode cX4_flakesByCollecting 15 = .ok (.aload_n 0, 1) := by decide +kernel
theorem dX4_flakesByCollecting_16 : decode cX4_flakesByCollecting 16 = .ok (.getfield 10, 3) := by decide +kernel
theorem dX4_flakesByCollecting_19 : decode cX4_flakesByCollecting 19 = .ok (.getfield 99, 3) := by decide +kernel
theorem dX4_flakesByCollecting_22 : decode cX4_flakesByCollecting 22 = .ok (.invokevirtual 121, 3) := by decide +kernel
theorem dX4_flakesByCollecting_25 : decode cX4_flakesByCollecting 25 = .ok (.aload_n 0, 1) := by decide +kernel
theorem dX4_flakesByCollecting_26 : decode cX4_flakesByCollecting 26 = .ok (.getfield 19, 3) := by decide +kernel
theorem dX4_flakesByCollecting_29 : decode cX4_flakesByCollecting 29 = .ok (.getfield 117, 3) := by decide +kernel
theorem dX4_flakesByCollecting_32 : decode cX4_flakesByCollecting 32 = .ok (.lreturn, 1) := by decide +kernel
set_option maxRecDepth 20000 in
theorem ggX4_flakeCount_X4_paint : GoodIn wsX4_flakeCount wsX4_paint := goodIn_r _ [7, 1, 8, 9, 10, 11, 12, 13, 14, 15, 16, 17, 18, 19, 20, 21, 22, 23, 24, 25, 26, 27, 28, 29, 30, 31, 32, 33, 34, 35, 36, 37, 38, 39, 40, 41, 42, 43, 44, 6, 45, 46, 47, 48, 49, 50, 51, 52, 53, 54, 62, 63, 64, 65, 66, 67, 72, 73, 74, 75, 68, 69, 70, 71] (by decide +kernel) (by decide +kernel)
set_option maxRecDepth 20000 in
theorem gX4_flakeCount_X4_paint : GoodIn wsX4_flakeCount (wsV RX4 114 RX4 yX4_paint wsX4_paint) := goodIn_app (goodIn_of _ (by decide +kernel)) ggX4_flakeCount_X4_paint
set_option maxRecDepth 20000 in
theorem ggX4_flakeCount_J13_bitCount_95d88 : GoodIn wsX4_flakeCount wsJ13_bitCount_95d88 := goodIn_r _ [58, 59, 60, 61] (by decide +kernel) (by decide +kernel)
set_option maxRecDepth 20000 in
theorem gX4_flakeCount_J13_bitCount_95d88 : GoodIn wsX4_flakeCount (va_wsS RX4 125 yJ13_bitCount_95d88 wsJ13_bitCount_95d88) := goodIn_app (goodIn_of _ (by decide +kernel)) ggX4_flakeCount_J13_bitCount_95d88
theorem dX4_flakeCount_0 : decode cX4_flakeCount 0 = .ok (.aload_n 0, 1) := by decide +kernel
theorem dX4_flakeCount_1 : decode cX4_flakeCount 1 = .ok (.invokevirtual 114, 3) := by decide +kernel
theorem dX4_flakeCount_4 : decode cX4_flakeCount 4 = .ok (.aload_n 0, 1) := by decide +kernel
theorem dX4_flakeCount_5 : decode cX4_flakeCount 5 = .ok (.getfield 19, 3) := by decide +kernel
theorem dX4_flakeCount_8 : decode cX4_flakeCount 8 = .ok (.getfield 117, 3) := by decide +kernel
theorem dX4_flakeCount_11 : decode cX4_flakeCount 11 = .ok (.invokestatic 125, 3) := by decide +kernel
theorem dX4_flakeCount_14 : decode cX4_flakeCount 14 = .ok (.ireturn, 1) := by decide +kernel
set_option maxRecDepth 20000 in
theorem ggX4_valueOf_X4_requireCell : GoodIn wsX4_valueOf wsX4_requireCell := goodIn_ca (goodIn_r _ [6, 7, 8, 5, 9, 10, 11, 12, 13, 14] (by decide +kernel) (by decide +kernel)) (goodIn_sub (fun _ h => List.mem_cons_of_mem _ (List.mem_append_right _ h)) (by decide +kernel))
set_option maxRecDepth 20000 in
theorem gX4_valueOf_X4_requireCell : GoodIn wsX4_valueOf (va_wsS RX4 45 yX4_requireCell wsX4_requireCell) := goodIn_app (goodIn_of _ (by decide +kernel)) ggX4_valueOf_X4_requireCell
set_option maxRecDepth 20000 in
theorem ggX4_valueOf_X4_paint : GoodIn wsX4_valueOf wsX4_paint := goodIn_r _ [18, 1, 19, 20, 21, 22, 23, 24, 25, 26, 27, 28, 29, 30, 31, 32, 33, 34, 35, 36, 37, 38, 39, 40, 41, 42, 43, 44, 45, 46, 47, 48, 49, 50, 51, 52, 53, 54, 55, 5, 56, 57, 58, 59, 60, 61, 62, 63, 64, 65, 66, 67, 68, 69, 70, 71, 76, 77, 78, 79, 72, 73, 74, 75] (by decide +kernel) (by decide +kernel)
set_option maxRecDepth 20000 in
theorem gX4_valueOf_X4_paint : GoodIn wsX4_valueOf (wsV RX4 114 RX4 yX4_paint wsX4_paint) := goodIn_app (goodIn_of _ (by decide +kernel)) ggX4_valueOf_X4_paint
theorem dX4_valueOf_0 : decode cX4_valueOf 0 = .ok (.iload_n 1, 1) := by decide +kernel
theorem dX4_valueOf_1 : decode cX4_valueOf 1 = .ok (.invokestatic 45, 3) := by decide +kernel
theorem dX4_valueOf_4 : decode cX4_valueOf 4 = .ok (.aload_n 0, 1) := by decide +kernel
theorem dX4_valueOf_5 : decode cX4_valueOf 5 = .ok (.invokevirtual 114, 3) := by decide +kernel
theorem dX4_valueOf_8 : decode cX4_valueOf 8 = .ok (.aload_n 0, 1) := by decide +kernel
theorem dX4_valueOf_9 : decode cX4_valueOf 9 = .ok (.getfield 19, 3) := by decide +kernel
theorem dX4_valueOf_12 : decode cX4_valueOf 12 = .ok (.getfield 131, 3) := by decide +kernel
theorem dX4_valueOf_15 : decode cX4_valueOf 15 = .ok (.iload_n 1, 1) := by decide +kernel
theorem dX4_valueOf_16 : decode cX4_valueOf 16 = .ok (.iaload, 1) := by decide +kernel
theorem dX4_valueOf_17 : decode cX4_valueOf 17 = .ok (.ireturn, 1) := by decide +kernel
set_option maxRecDepth 20000 in
theorem ggX4_errorOf_X4_requireCell : GoodIn wsX4_errorOf wsX4_requireCell := goodIn_ca (goodIn_r _ [6, 7, 8, 5, 9, 10, 11, 12, 13, 14] (by decide +kernel) (by decide +kernel)) (goodIn_sub (fun _ h => List.mem_cons_of_mem _ (List.mem_append_right _ h)) (by decide +kernel))
set_option maxRecDepth 20000 in
theorem gX4_errorOf_X4_requireCell : GoodIn wsX4_errorOf (va_wsS RX4 45 yX4_requireCell wsX4_requireCell) := goodIn_app (goodIn_of _ (by decide +kernel)) ggX4_errorOf_X4_requireCell
set_option maxRecDepth 20000 in
theorem ggX4_errorOf_X4_paint : GoodIn wsX4_errorOf wsX4_paint := goodIn_r _ [18, 1, 19, 20, 21, 22, 23, 24, 25, 26, 27, 28, 29, 30, 31, 32, 33, 34, 35, 36, 37, 38, 39, 40, 41, 42, 43, 44, 45, 46, 47, 48, 49, 50, 51, 52, 53, 54, 55, 5, 56, 57, 58, 59, 60, 61, 62, 63, 64, 65, 66, 67, 68, 69, 70, 71, 76, 77, 78, 79, 72, 73, 74, 75] (by decide +kernel) (by decide +kernel)
set_option maxRecDepth 20000 in
theorem gX4_errorOf_X4_paint : GoodIn wsX4_errorOf (wsV RX4 114 RX4 yX4_paint wsX4_paint) := goodIn_app (goodIn_of _ (by decide +kernel)) ggX4_errorOf_X4_paint
theorem dX4_errorOf_0 : decode cX4_errorOf 0 = .ok (.iload_n 1, 1) := by decide +kernel
theorem dX4_errorOf_1 : decode cX4_errorOf 1 = .ok (.invokestatic 45, 3) := by decide +kernel
theorem dX4_errorOf_4 : decode cX4_errorOf 4 = .ok (.aload_n 0, 1) := by decide +kernel
theorem dX4_errorOf_5 : decode cX4_errorOf 5 = .ok (.invokevirtual 114, 3) := by decide +kernel
theorem dX4_errorOf_8 : decode cX4_errorOf 8 = .ok (.aload_n 0, 1) := by decide +kernel
theorem dX4_errorOf_9 : decode cX4_errorOf 9 = .ok (.getfield 19, 3) := by decide +kernel
theorem dX4_errorOf_12 : decode cX4_errorOf 12 = .ok (.getfield 134, 3) := by decide +kernel
theorem dX4_errorOf_15 : decode cX4_errorOf 15 = .ok (.iload_n 1, 1) := by decide +kernel
theorem dX4_errorOf_16 : decode cX4_errorOf 16 = .ok (.iaload, 1) := by decide +kernel
theorem dX4_errorOf_17 : decode cX4_errorOf 17 = .ok (.ireturn, 1) := by decide +kernel
set_option maxRecDepth 20000 in
theorem ggX4_lost_X4_paint : GoodIn wsX4_lost wsX4_paint := goodIn_r _ [7, 1, 8, 9, 10, 11, 12, 13, 14, 15, 16, 17, 18, 19, 20, 21, 22, 23, 24, 25, 26, 27, 28, 29, 30, 31, 32, 33, 34, 35, 36, 37, 38, 39, 40, 41, 42, 43, 44, 6, 45, 46, 47, 48, 49, 50, 51, 52, 53, 54, 55, 56, 57, 58, 59, 60, 65, 66, 67, 68, 61, 62, 63, 64] (by decide +kernel) (by decide +kernel)
set_option maxRecDepth 20000 in
theorem gX4_lost_X4_paint : GoodIn wsX4_lost (wsV RX4 114 RX4 yX4_paint wsX4_paint) := goodIn_app (goodIn_of _ (by decide +kernel)) ggX4_lost_X4_paint
theorem dX4_lost_0 : decode cX4_lost 0 = .ok (.aload_n 0, 1) := by decide +kernel
theorem dX4_lost_1 : decode cX4_lost 1 = .ok (.invokevirtual 114, 3) := by decide +kernel
theorem dX4_lost_4 : decode cX4_lost 4 = .ok (.aload_n 0, 1) := by decide +kernel
theorem dX4_lost_5 : decode cX4_lost 5 = .ok (.getfield 19, 3) := by decide +kernel
theorem dX4_lost_8 : decode cX4_lost 8 = .ok (.getfield 137, 3) := by decide +kernel
theorem dX4_lost_11 : decode cX4_lost 11 = .ok (.ireturn, 1) := by decide +kernel
set_option maxRecDepth 20000 in
theorem ggX4_handedOn_X4_requireCell : GoodIn wsX4_handedOn wsX4_requireCell := goodIn_ca (goodIn_r _ [9, 10, 11, 8, 12, 13, 14, 15, 16, 17] (by decide +kernel) (by decide +kernel)) (goodIn_sub (fun _ h => List.mem_cons_of_mem _ (List.mem_append_right _ h)) (by decide +kernel))
set_option maxRecDepth 20000 in
theorem gX4_handedOn_X4_requireCell : GoodIn wsX4_handedOn (va_wsS RX4 45 yX4_requireCell wsX4_requireCell) := goodIn_app (goodIn_of _ (by decide +kernel)) ggX4_handedOn_X4_requireCell
set_option maxRecDepth 20000 in
theorem ggX4_handedOn_X4_paint : GoodIn wsX4_handedOn wsX4_paint := goodIn_r _ [21, 4, 1, 3, 22, 23, 24, 25, 26, 27, 28, 29, 30, 31, 32, 33, 34, 35, 36, 37, 38, 39, 40, 41, 42, 43, 44, 45, 46, 47, 48, 49, 50, 51, 52, 53, 54, 55, 56, 8, 57, 2, 58, 59, 60, 61, 62, 63, 64, 65, 69, 70, 71, 72, 73, 74, 75, 76, 77, 78, 79, 80, 81, 82] (by decide +kernel) (by decide +kernel)
set_option maxRecDepth 20000 in
theorem gX4_handedOn_X4_paint : GoodIn wsX4_handedOn (wsV RX4 114 RX4 yX4_paint wsX4_paint) := goodIn_app (goodIn_of _ (by decide +kernel)) ggX4_handedOn_X4_paint
set_option maxRecDepth 20000 in
theorem ggX4_handedOn_X3_directionOfRow : GoodIn wsX4_handedOn wsX3_directionOfRow := goodIn_r _ [44, 45, 75, 76, 77, 78] (by decide +kernel) (by decide +kernel)
set_option maxRecDepth 20000 in
theorem gX4_handedOn_X3_directionOfRow : GoodIn wsX4_handedOn (wsV RX4 140 RX3 yX3_directionOfRow wsX3_directionOfRow) := goodIn_app (goodIn_of _ (by decide +kernel)) ggX4_handedOn_X3_directionOfRow
set_option maxRecDepth 20000 in
theorem ggX4_handedOn_X4_cellTowards : GoodIn wsX4_handedOn wsX4_cellTowards := goodIn_r _ [60, 61, 62, 63, 64, 8, 65] (by decide +kernel) (by decide +kernel)
set_option maxRecDepth 20000 in
theorem gX4_handedOn_X4_cellTowards : GoodIn wsX4_handedOn (va_wsS RX4 146 yX4_cellTowards wsX4_cellTowards) := goodIn_app (goodIn_of _ (by decide +kernel)) ggX4_handedOn_X4_cellTowards
set_option maxRecDepth 20000 in
theorem ggX4_handedOn_X4_shareOf : GoodIn wsX4_handedOn wsX4_shareOf := goodIn_r _ [57, 2, 58] (by decide +kernel) (by decide +kernel)
set_option maxRecDepth 20000 in
theorem gX4_handedOn_X4_shareOf : GoodIn wsX4_handedOn (va_wsS RX4 150 yX4_shareOf wsX4_shareOf) := goodIn_app (goodIn_of _ (by decide +kernel)) ggX4_handedOn_X4_shareOf
theorem dX4_handedOn_0 : decode cX4_handedOn 0 = .ok (.iload_n 1, 1) := by decide +kernel
theorem dX4_handedOn_1 : decode cX4_handedOn 1 = .ok (.invokestatic 45, 3) := by decide +kernel
theorem dX4_handedOn_4 : decode cX4_handedOn 4 = .ok (.iload_n 2, 1) := by decide +kernel
theorem dX4_handedOn_5 : decode cX4_handedOn 5 = .ok (.invokestatic 45, 3) := by decide +kernel
theorem dX4_handedOn_8 : decode cX4_handedOn 8 = .ok (.aload_n 0, 1) := by decide +kernel
theorem dX4_handedOn_9 : decode cX4_handedOn 9 = .ok (.invokevirtual 114, 3) := by decide +kernel
theorem dX4_handedOn_12 : decode cX4_handedOn 12 = .ok (.aload_n 0, 1) := by decide +kernel
theorem dX4_handedOn_13 : decode cX4_handedOn 13 = .ok (.getfield 10, 3) := by decide +kernel
theorem dX4_handedOn_16 : decode cX4_handedOn 16 = .ok (.iload_n 1, 1) := by decide +kernel
theorem dX4_handedOn_17 : decode cX4_handedOn 17 = .ok (.bipush 8, 2) := by decide +kernel
theorem dX4_handedOn_19 : decode cX4_handedOn 19 = .ok (.idiv, 1) := by decide +kernel
theorem dX4_handedOn_20 : decode cX4_handedOn 20 = .ok (.invokevirtual 140, 3) := by decide +kernel
theorem dX4_handedOn_23 : decode cX4_handedOn 23 = .ok (.istore_n 3, 1) := by decide +kernel
theorem dX4_handedOn_24 : decode cX4_handedOn 24 = .ok (.getstatic 143, 3) := by decide +kernel
theorem dX4_handedOn_27 : decode cX4_handedOn 27 = .ok (.aload_n 0, 1) := by decide +kernel
theorem dX4_handedOn_28 : decode cX4_handedOn 28 = .ok (.getfield 10, 3) := by decide +kernel
theorem dX4_handedOn_31 : decode cX4_handedOn 31 = .ok (.getfield 95, 3) := by decide +kernel
theorem dX4_handedOn_34 : decode cX4_handedOn 34 = .ok (.iconst 1, 1) := by decide +kernel
theorem dX4_handedOn_35 : decode cX4_handedOn 35 = .ok (.iadd, 1) := by decide +kernel
theorem dX4_handedOn_36 : decode cX4_handedOn 36 = .ok (.iaload, 1) := by decide +kernel
theorem dX4_handedOn_37 : decode cX4_handedOn 37 = .ok (.istore 4, 2) := by decide +kernel
theorem dX4_handedOn_39 : decode cX4_handedOn 39 = .ok (.getstatic 143, 3) := by decide +kernel
theorem dX4_handedOn_42 : decode cX4_handedOn 42 = .ok (.aload_n 0, 1) := by decide +kernel
theorem dX4_handedOn_43 : decode cX4_handedOn 43 = .ok (.getfield 10, 3) := by decide +kernel
theorem dX4_handedOn_46 : decode cX4_handedOn 46 = .ok (.getfield 95, 3) := by decide +kernel
theorem dX4_handedOn_49 : decode cX4_handedOn 49 = .ok (.iaload, 1) := by decide +kernel
theorem dX4_handedOn_50 : decode cX4_handedOn 50 = .ok (.istore 5, 2) := by decide +kernel
theorem dX4_handedOn_52 : decode cX4_handedOn 52 = .ok (.iload 5, 2) := by decide +kernel
theorem dX4_handedOn_54 : decode cX4_handedOn 54 = .ok (.iload 4, 2) := by decide +kernel
theorem dX4_handedOn_56 : decode cX4_handedOn 56 = .ok (.if_icmp .ge 42, 3) := by decide +kernel
theorem dX4_handedOn_59 : decode cX4_handedOn 59 = .ok (.iload_n 1, 1) := by decide +kernel
theorem dX4_handedOn_60 : decode cX4_handedOn 60 = .ok (.iload 5, 2) := by decide +kernel
theorem dX4_handedOn_62 : decode cX4_handedOn 62 = .ok (.iload_n 3, 1) := by decide +kernel
theorem dX4_handedOn_63 : decode cX4_handedOn 63 = .ok (.invokestatic 146, 3) := by decide +kernel
theorem dX4_handedOn_66 : decode cX4_handedOn 66 = .ok (.iload_n 2, 1) := by decide +kernel
theorem dX4_handedOn_67 : decode cX4_handedOn 67 = .ok (.if_icmp .ne 25, 3) := by decide +kernel
theorem dX4_handedOn_70 : decode cX4_handedOn 70 = .ok (.aload_n 0, 1) := by decide +kernel
theorem dX4_handedOn_71 : decode cX4_handedOn 71 = .ok (.getfield 19, 3) := by decide +kernel
theorem dX4_handedOn_74 : decode cX4_handedOn 74 = .ok (.getfield 134, 3) := by decide +kernel
theorem dX4_handedOn_77 : decode cX4_handedOn 77 = .ok (.iload_n 1, 1) := by decide +kernel
theorem dX4_handedOn_78 : decode cX4_handedOn 78 = .ok (.iaload, 1) := by decide +kernel
theorem dX4_handedOn_79 : decode cX4_handedOn 79 = .ok (.aload_n 0, 1) := by decide +kernel
theorem dX4_handedOn_80 : decode cX4_handedOn 80 = .ok (.getfield 10, 3) := by decide +kernel
theorem dX4_handedOn_83 : decode cX4_handedOn 83 = .ok (.getfield 95, 3) := by decide +kernel
theorem dX4_handedOn_86 : decode cX4_handedOn 86 = .ok (.iload 5, 2) := by decide +kernel
theorem dX4_handedOn_88 : decode cX4_handedOn 88 = .ok (.invokestatic 150, 3) := by decide +kernel
theorem dX4_handedOn_91 : decode cX4_handedOn 91 = .ok (.ireturn, 1) := by decide +kernel
theorem dX4_handedOn_92 : decode cX4_handedOn 92 = .ok (.iinc 5 1, 3) := by decide +kernel
theorem dX4_handedOn_95 : decode cX4_handedOn 95 = .ok (.goto (-43), 3) := by decide +kernel
theorem dX4_handedOn_98 : decode cX4_handedOn 98 = .ok (.iconst 0, 1) := by decide +kernel
theorem dX4_handedOn_99 : decode cX4_handedOn 99 = .ok (.ireturn, 1) := by decide +kernel
set_option maxRecDepth 20000 in
theorem ggX4_squareError_X4_requireIndex : GoodIn wsX4_squareError wsX4_requireIndex := goodIn_ca (goodIn_r _ [6, 7, 8] (by decide +kernel) (by decide +kernel)) (goodIn_sub (fun _ h => List.mem_cons_of_mem _ (List.mem_append_right _ h)) (by decide +kernel))
set_option maxRecDepth 20000 in
theorem gX4_squareError_X4_requireIndex : GoodIn wsX4_squareError (va_wsS RX4 65 yX4_requireIndex wsX4_requireIndex) := goodIn_app (goodIn_of _ (by decide +kernel)) ggX4_squareError_X4_requireIndex
set_option maxRecDepth 20000 in
theorem ggX4_squareError_X4_paint : GoodIn wsX4_squareError wsX4_paint := goodIn_r _ [12, 1, 2, 13, 14, 15, 16, 17, 18, 19, 20, 21, 22, 23, 24, 25, 26, 27, 28, 29, 30, 31, 32, 33, 34, 35, 36, 37, 38, 39, 40, 41, 42, 43, 44, 45, 46, 47, 48, 5, 49, 50, 51, 52, 53, 54, 55, 56, 57, 58, 71, 72, 73, 74, 75, 76, 77, 78, 79, 80, 81, 82, 83, 84] (by decide +kernel) (by decide +kernel)
set_option maxRecDepth 20000 in
theorem gX4_squareError_X4_paint : GoodIn wsX4_squareError (wsV RX4 114 RX4 yX4_paint wsX4_paint) := goodIn_app (goodIn_of _ (by decide +kernel)) ggX4_squareError_X4_paint
set_option maxRecDepth 20000 in
theorem ggX4_squareError_X2_differenceOfSquare : GoodIn wsX4_squareError wsX2_differenceOfSquare := goodIn_r _ [62, 63, 64, 65, 66, 67, 68, 69, 18, 70, 26, 20, 81, 82, 83, 84, 77, 78, 79, 80] (by decide +kernel) (by decide +kernel)
set_option maxRecDepth 20000 in
theorem gX4_squareError_X2_differenceOfSquare : GoodIn wsX4_squareError (wsV RX4 153 RX2 yX2_differenceOfSquare wsX2_differenceOfSquare) := goodIn_app (goodIn_of _ (by decide +kernel)) ggX4_squareError_X2_differenceOfSquare
theorem dX4_squareError_0 : decode cX4_squareError 0 = .ok (.iload_n 1, 1) := by decide +kernel
theorem dX4_squareError_1 : decode cX4_squareError 1 = .ok (.ifCond .lt 13, 3) := by decide +kernel
theorem dX4_squareError_4 : decode cX4_squareError 4 = .ok (.iload_n 1, 1) := by decide +kernel
theorem dX4_squareError_5 : decode cX4_squareError 5 = .ok (.bipush 16, 2) := by decide +kernel
theorem dX4_squareError_7 : decode cX4_squareError 7 = .ok (.if_icmp .ge 7, 3) := by decide +kernel
theorem dX4_squareError_10 : decode cX4_squareError 10 = .ok (.iconst 1, 1) := by decide +kernel
theorem dX4_squareError_11 : decode cX4_squareError 11 = .ok (.goto 4, 3) := by decide +kernel
theorem dX4_squareError_14 : decode cX4_squareError 14 = .ok (.iconst 0, 1) := by decide +kernel
theorem dX4_squareError_15 : decode cX4_squareError 15 = .ok (.invokestatic 65, 3) := by decide +kernel
theorem dX4_squareError_18 : decode cX4_squareError 18 = .ok (.aload_n 0, 1) := by decide +kernel
theorem dX4_squareError_19 : decode cX4_squareError 19 = .ok (.invokevirtual 114, 3) := by decide +kernel
theorem dX4_squareError_22 : decode cX4_squareError 22 = .ok (.aload_n 0, 1) := by decide +kernel
theorem dX4_squareError_23 : decode cX4_squareError 23 = .ok (.getfield 19, 3) := by decide +kernel
theorem dX4_squareError_26 : decode cX4_squareError 26 = .ok (.aload_n 0, 1) := by decide +kernel
theorem dX4_squareError_27 : decode cX4_squareError 27 = .ok (.getfield 10, 3) := by decide +kernel
theorem dX4_squareError_30 : decode cX4_squareError 30 = .ok (.iload_n 1, 1) := by decide +kernel
theorem dX4_squareError_31 : decode cX4_squareError 31 = .ok (.invokevirtual 153, 3) := by decide +kernel
theorem dX4_squareError_34 : decode cX4_squareError 34 = .ok (.ireturn, 1) := by decide +kernel
set_option maxRecDepth 20000 in
theorem ggX4_roughness_X4_roughnessWith : GoodIn wsX4_roughness wsX4_roughnessWith := goodIn_r _ [7, 8, 1, 9, 10, 11, 12, 13, 14, 15, 16, 17, 18, 19, 20, 21, 22, 23, 24, 25, 26, 27, 28, 29, 30, 31, 32, 33, 34, 35, 36, 37, 38, 39, 40, 41, 42, 43, 6, 44, 45, 46, 47, 48, 49, 50, 51, 52, 53, 54, 55, 56, 57, 58, 59, 60, 61, 62, 63, 64, 65, 66, 67, 68, 69, 70, 71, 72, 73, 74, 75, 76, 77, 78, 79, 80, 81, 82, 83] (by decide +kernel) (by decide +kernel)
set_option maxRecDepth 20000 in
theorem gX4_roughness_X4_roughnessWith : GoodIn wsX4_roughness (wsV RX4 157 RX4 yX4_roughnessWith wsX4_roughnessWith) := goodIn_app (goodIn_of _ (by decide +kernel)) ggX4_roughness_X4_roughnessWith
theorem dX4_roughness_0 : decode cX4_roughness 0 = .ok (.aload_n 0, 1) := by decide +kernel
theorem dX4_roughness_1 : decode cX4_roughness 1 = .ok (.aload_n 0, 1) := by decide +kernel
theorem dX4_roughness_2 : decode cX4_roughness 2 = .ok (.getfield 10, 3) := by decide +kernel
theorem dX4_roughness_5 : decode cX4_roughness 5 = .ok (.getfield 95, 3) := by decide +kernel
theorem dX4_roughness_8 : decode cX4_roughness 8 = .ok (.invokevirtual 157, 3) := by decide +kernel
theorem dX4_roughness_11 : decode cX4_roughness 11 = .ok (.ireturn, 1) := by decide +kernel
set_option maxRecDepth 20000 in
theorem ggX4_smoothestRule_X4_roughnessWith : GoodIn wsX4_smoothestRule wsX4_roughnessWith := goodIn_r _ [5, 6, 7, 8, 9, 10, 11, 12, 13, 14, 15, 16, 17, 18, 19, 20, 21, 22, 23, 24, 25, 26, 27, 28, 29, 30, 31, 32, 33, 34, 35, 36, 37, 38, 39, 40, 41, 42, 4, 43, 44, 45, 46, 47, 48, 49, 50, 51, 52, 53, 54, 55, 56, 57, 58, 59, 60, 61, 62, 63, 64, 65, 66, 67, 68, 69, 70, 71, 72, 73, 74, 75, 76, 77, 78, 79, 80, 81, 82] (by decide +kernel) (by decide +kernel)
set_option maxRecDepth 20000 in
theorem gX4_smoothestRule_X4_roughnessWith : GoodIn wsX4_smoothestRule (wsV RX4 157 RX4 yX4_roughnessWith wsX4_roughnessWith) := goodIn_app (goodIn_of _ (by decide +kernel)) ggX4_smoothestRule_X4_roughnessWith
theorem dX4_smoothestRule_0 : decode cX4_smoothestRule 0 = .ok (.iconst 0, 1) := by decide +kernel
theorem dX4_smoothestRule_1 : decode cX4_smoothestRule 1 = .ok (.istore_n 1, 1) := by decide +kernel
theorem dX4_smoothestRule_2 : decode cX4_smoothestRule 2 = .ok (.aload_n 0, 1) := by decide +kernel
theorem dX4_smoothestRule_3 : decode cX4_smoothestRule 3 = .ok (.iconst 0, 1) := by decide +kernel
theorem dX4_smoothestRule_4 : decode cX4_smoothestRule 4 = .ok (.invokevirtual 157, 3) := by decide +kernel
theorem dX4_smoothestRule_7 : decode cX4_smoothestRule 7 = .ok (.istore_n 2, 1) := by decide +kernel
theorem dX4_smoothestRule_8 : decode cX4_smoothestRule 8 = .ok (.iconst 1, 1) := by decide +kernel
theorem dX4_smoothestRule_9 : decode cX4_smoothestRule 9 = .ok (.istore_n 3, 1) := by decide +kernel
theorem dX4_smoothestRule_10 : decode cX4_smoothestRule 10 = .ok (.iload_n 3, 1) := by decide +kernel
theorem dX4_smoothestRule_11 : decode cX4_smoothestRule 11 = .ok (.iconst 4, 1) := by decide +kernel
theorem dX4_smoothestRule_12 : decode cX4_smoothestRule 12 = .ok (.if_icmp .ge 27, 3) := by decide +kernel
theorem dX4_smoothestRule_15 : decode cX4_smoothestRule 15 = .ok (.aload_n 0, 1) := by decide +kernel
theorem dX4_smoothestRule_16 : decode cX4_smoothestRule 16 = .ok (.iload_n 3, 1) := by decide +kernel
theorem dX4_smoothestRule_17 : decode cX4_smoothestRule 17 = .ok (.invokevirtual 157, 3) := by decide +kernel
theorem dX4_smoothestRule_20 : decode cX4_smoothestRule 20 = .ok (.istore 4, 2) := by decide +kernel
theorem dX4_smoothestRule_22 : decode cX4_smoothestRule 22 = .ok (.iload 4, 2) := by decide +kernel
theorem dX4_smoothestRule_24 : decode cX4_smoothestRule 24 = .ok (.iload_n 2, 1) := by decide +kernel
theorem dX4_smoothestRule_25 : decode cX4_smoothestRule 25 = .ok (.if_icmp .ge 8, 3) := by decide +kernel
theorem dX4_smoothestRule_28 : decode cX4_smoothestRule 28 = .ok (.iload 4, 2) := by decide +kernel
theorem dX4_smoothestRule_30 : decode cX4_smoothestRule 30 = .ok (.istore_n 2, 1) := by decide +kernel
theorem dX4_smoothestRule_31 : decode cX4_smoothestRule 31 = .ok (.iload_n 3, 1) := by decide +kernel
theorem dX4_smoothestRule_32 : decode cX4_smoothestRule 32 = .ok (.istore_n 1, 1) := by decide +kernel
theorem dX4_smoothestRule_33 : decode cX4_smoothestRule 33 = .ok (.iinc 3 1, 3) := by decide +kernel
theorem dX4_smoothestRule_36 : decode cX4_smoothestRule 36 = .ok (.goto (-26), 3) := by decide +kernel
theorem dX4_smoothestRule_39 : decode cX4_smoothestRule 39 = .ok (.iload_n 1, 1) := by decide +kernel
theorem dX4_smoothestRule_40 : decode cX4_smoothestRule 40 = .ok (.ireturn, 1) := by decide +kernel
set_option maxRecDepth 20000 in
theorem ggX4_thresholdFor_X4_requireArgument : GoodIn wsX4_thresholdFor wsX4_requireArgument := goodIn_ca (goodIn_r _ [8, 9, 10] (by decide +kernel) (by decide +kernel)) (goodIn_sub (fun _ h => List.mem_cons_of_mem _ (List.mem_append_right _ h)) (by decide +kernel))
set_option maxRecDepth 20000 in
theorem gX4_thresholdFor_X4_requireArgument : GoodIn wsX4_thresholdFor (va_wsS RX4 53 yX4_requireArgument wsX4_requireArgument) := goodIn_app (goodIn_of _ (by decide +kernel)) ggX4_thresholdFor_X4_requireArgument
set_option maxRecDepth 20000 in
theorem ggX4_thresholdFor_X2_paintByHandingOn : GoodIn wsX4_thresholdFor wsX2_paintByHandingOn := goodIn_r _ [15, 16, 17, 18, 19, 20, 21, 22, 23, 24, 25, 26, 27, 28, 29, 30, 31, 32, 33, 34, 35, 36, 14, 37, 38, 39, 40, 41, 42, 43, 44, 7, 45, 46, 47, 48, 49, 50, 51, 52, 53, 54, 68, 69, 70, 71, 72, 73, 74, 75] (by decide +kernel) (by decide +kernel)
set_option maxRecDepth 20000 in
theorem gX4_thresholdFor_X2_paintByHandingOn : GoodIn wsX4_thresholdFor (wsV RX4 160 RX2 yX2_paintByHandingOn wsX2_paintByHandingOn) := goodIn_app (goodIn_of _ (by decide +kernel)) ggX4_thresholdFor_X2_paintByHandingOn
set_option maxRecDepth 20000 in
theorem ggX4_thresholdFor_J13_bitCount_95d88 : GoodIn wsX4_thresholdFor wsJ13_bitCount_95d88 := goodIn_r _ [58, 59, 60, 61] (by decide +kernel) (by decide +kernel)
set_option maxRecDepth 20000 in
theorem gX4_thresholdFor_J13_bitCount_95d88 : GoodIn wsX4_thresholdFor (va_wsS RX4 125 yJ13_bitCount_95d88 wsJ13_bitCount_95d88) := goodIn_app (goodIn_of _ (by decide +kernel)) ggX4_thresholdFor_J13_bitCount_95d88
theorem dX4_thresholdFor_0 : decode cX4_thresholdFor 0 = .ok (.iload_n 1, 1) := by decide +kernel
theorem dX4_thresholdFor_1 : decode cX4_thresholdFor 1 = .ok (.ifCond .lt 13, 3) := by decide +kernel
theorem dX4_thresholdFor_4 : decode cX4_thresholdFor 4 = .ok (.iload_n 1, 1) := by decide +kernel
theorem dX4_thresholdFor_5 : decode cX4_thresholdFor 5 = .ok (.bipush 64, 2) := by decide +kernel
theorem dX4_thresholdFor_7 : decode cX4_thresholdFor 7 = .ok (.if_icmp .gt 7, 3) := by decide +kernel
theorem dX4_thresholdFor_10 : decode cX4_thresholdFor 10 = .ok (.iconst 1, 1) := by decide +kernel
theorem dX4_thresholdFor_11 : decode cX4_thresholdFor 11 = .ok (.goto 4, 3) := by decide +kernel
theorem dX4_thresholdFor_14 : decode cX4_thresholdFor 14 = .ok (.iconst 0, 1) := by decide +kernel
theorem dX4_thresholdFor_15 : decode cX4_thresholdFor 15 = .ok (.invokestatic 53, 3) := by decide +kernel
theorem dX4_thresholdFor_18 : decode cX4_thresholdFor 18 = .ok (.iconst 1, 1) := by decide +kernel
theorem dX4_thresholdFor_19 : decode cX4_thresholdFor 19 = .ok (.istore_n 2, 1) := by decide +kernel
theorem dX4_thresholdFor_20 : decode cX4_thresholdFor 20 = .ok (.iload_n 2, 1) := by decide +kernel
theorem dX4_thresholdFor_21 : decode cX4_thresholdFor 21 = .ok (.sipush 255, 3) := by decide +kernel
theorem dX4_thresholdFor_24 : decode cX4_thresholdFor 24 = .ok (.if_icmp .gt 44, 3) := by decide +kernel
theorem dX4_thresholdFor_27 : decode cX4_thresholdFor 27 = .ok (.aload_n 0, 1) := by decide +kernel
theorem dX4_thresholdFor_28 : decode cX4_thresholdFor 28 = .ok (.getfield 19, 3) := by decide +kernel
theorem dX4_thresholdFor_31 : decode cX4_thresholdFor 31 = .ok (.aload_n 0, 1) := by decide +kernel
theorem dX4_thresholdFor_32 : decode cX4_thresholdFor 32 = .ok (.getfield 10, 3) := by decide +kernel
theorem dX4_thresholdFor_35 : decode cX4_thresholdFor 35 = .ok (.aload_n 0, 1) := by decide +kernel
theorem dX4_thresholdFor_36 : decode cX4_thresholdFor 36 = .ok (.getfield 10, 3) := by decide +kernel
theorem dX4_thresholdFor_39 : decode cX4_thresholdFor 39 = .ok (.getfield 95, 3) := by decide +kernel
theorem dX4_thresholdFor_42 : decode cX4_thresholdFor 42 = .ok (.iload_n 2, 1) := by decide +kernel
theorem dX4_thresholdFor_43 : decode cX4_thresholdFor 43 = .ok (.invokevirtual 160, 3) := by decide +kernel
theorem dX4_thresholdFor_46 : decode cX4_thresholdFor 46 = .ok (.aload_n 0, 1) := by decide +kernel
theorem dX4_thresholdFor_47 : decode cX4_thresholdFor 47 = .ok (.getfield 19, 3) := by decide +kernel
theorem dX4_thresholdFor_50 : decode cX4_thresholdFor 50 = .ok (.getfield 117, 3) := by decide +kernel
theorem dX4_thresholdFor_53 : decode cX4_thresholdFor 53 = .ok (.invokestatic 125, 3) := by decide +kernel
theorem dX4_thresholdFor_56 : decode cX4_thresholdFor 56 = .ok (.iload_n 1, 1) := by decide +kernel
theorem dX4_thresholdFor_57 : decode cX4_thresholdFor 57 = .ok (.if_icmp .gt 5, 3) := by decide +kernel
theorem dX4_thresholdFor_60 : decode cX4_thresholdFor 60 = .ok (.iload_n 2, 1) := by decide +kernel
theorem dX4_thresholdFor_61 : decode cX4_thresholdFor 61 = .ok (.ireturn, 1) := by decide +kernel
theorem dX4_thresholdFor_62 : decode cX4_thresholdFor 62 = .ok (.iinc 2 1, 3) := by decide +kernel
theorem dX4_thresholdFor_65 : decode cX4_thresholdFor 65 = .ok (.goto (-45), 3) := by decide +kernel
theorem dX4_thresholdFor_68 : decode cX4_thresholdFor 68 = .ok (.iconst (-1), 1) := by decide +kernel
theorem dX4_thresholdFor_69 : decode cX4_thresholdFor 69 = .ok (.ireturn, 1) := by decide +kernel
set_option maxRecDepth 20000 in
theorem ggX4_excess_X4_paint : GoodIn wsX4_excess wsX4_paint := goodIn_r _ [10, 1, 4, 11, 12, 13, 14, 15, 16, 17, 18, 19, 20, 21, 22, 23, 24, 25, 26, 27, 28, 29, 30, 31, 32, 33, 34, 35, 36, 37, 38, 39, 40, 41, 42, 43, 44, 45, 46, 9, 47, 48, 49, 50, 51, 52, 53, 54, 55, 56, 69, 70, 71, 72, 73, 74, 79, 80, 81, 82, 75, 76, 77, 78] (by decide +kernel) (by decide +kernel)
set_option maxRecDepth 20000 in
theorem gX4_excess_X4_paint : GoodIn wsX4_excess (wsV RX4 114 RX4 yX4_paint wsX4_paint) := goodIn_app (goodIn_of _ (by decide +kernel)) ggX4_excess_X4_paint
set_option maxRecDepth 20000 in
theorem ggX4_excess_J13_bitCount_95d88 : GoodIn wsX4_excess wsJ13_bitCount_95d88 := goodIn_r _ [60, 61, 62, 63] (by decide +kernel) (by decide +kernel)
set_option maxRecDepth 20000 in
theorem gX4_excess_J13_bitCount_95d88 : GoodIn wsX4_excess (va_wsS RX4 125 yJ13_bitCount_95d88 wsJ13_bitCount_95d88) := goodIn_app (goodIn_of _ (by decide +kernel)) ggX4_excess_J13_bitCount_95d88
set_option maxRecDepth 20000 in
theorem ggX4_excess_X3_sumOfGreys : GoodIn wsX4_excess wsX3_sumOfGreys := goodIn_r _ [67, 68, 79, 80, 81, 82] (by decide +kernel) (by decide +kernel)
set_option maxRecDepth 20000 in
theorem gX4_excess_X3_sumOfGreys : GoodIn wsX4_excess (wsV RX4 79 RX3 yX3_sumOfGreys wsX3_sumOfGreys) := goodIn_app (goodIn_of _ (by decide +kernel)) ggX4_excess_X3_sumOfGreys
theorem dX4_excess_0 : decode cX4_excess 0 = .ok (.aload_n 0, 1) := by decide +kernel
theorem dX4_excess_1 : decode cX4_excess 1 = .ok (.invokevirtual 114, 3) := by decide +kernel
theorem dX4_excess_4 : decode cX4_excess 4 = .ok (.aload_n 0, 1) := by decide +kernel
theorem dX4_excess_5 : decode cX4_excess 5 = .ok (.getfield 19, 3) := by decide +kernel
theorem dX4_excess_8 : decode cX4_excess 8 = .ok (.getfield 117, 3) := by decide +kernel
theorem dX4_excess_11 : decode cX4_excess 11 = .ok (.invokestatic 125, 3) := by decide +kernel
theorem dX4_excess_14 : decode cX4_excess 14 = .ok (.i2d, 1) := by decide +kernel
theorem dX4_excess_15 : decode cX4_excess 15 = .ok (.ldc2_w 163, 3) := by decide +kernel
theorem dX4_excess_18 : decode cX4_excess 18 = .ok (.ddiv, 1) := by decide +kernel
theorem dX4_excess_19 : decode cX4_excess 19 = .ok (.dstore_n 1, 1) := by decide +kernel
theorem dX4_excess_20 : decode cX4_excess 20 = .ok (.dload_n 1, 1) := by decide +kernel
theorem dX4_excess_21 : decode cX4_excess 21 = .ok (.aload_n 0, 1) := by decide +kernel
theorem dX4_excess_22 : decode cX4_excess 22 = .ok (.getfield 10, 3) := by decide +kernel
theorem dX4_excess_25 : decode cX4_excess 25 = .ok (.invokevirtual 79, 3) := by decide +kernel
theorem dX4_excess_28 : decode cX4_excess 28 = .ok (.i2d, 1) := by decide +kernel
theorem dX4_excess_29 : decode cX4_excess 29 = .ok (.ldc2_w 165, 3) := by decide +kernel
theorem dX4_excess_32 : decode cX4_excess 32 = .ok (.ddiv, 1) := by decide +kernel
theorem dX4_excess_33 : decode cX4_excess 33 = .ok (.dsub, 1) := by decide +kernel
theorem dX4_excess_34 : decode cX4_excess 34 = .ok (.dreturn, 1) := by decide +kernel
set_option maxRecDepth 20000 in
theorem ggX4_appendText_X0_countCharacters : GoodIn wsX4_appendText wsX0_countCharacters := goodIn_r _ [6, 7, 8, 9] (by decide +kernel) (by decide +kernel)
set_option maxRecDepth 20000 in
theorem gX4_appendText_X0_countCharacters : GoodIn wsX4_appendText (va_wsS RX4 167 yX0_countCharacters wsX0_countCharacters) := goodIn_app (goodIn_of _ (by decide +kernel)) ggX4_appendText_X0_countCharacters
set_option maxRecDepth 20000 in
theorem ggX4_appendText_X4_requireArgument : GoodIn wsX4_appendText wsX4_requireArgument := goodIn_ca (goodIn_r _ [13, 14, 15] (by decide +kernel) (by decide +kernel)) (goodIn_sub (fun _ h => List.mem_cons_of_mem _ (List.mem_append_left _ (List.mem_append_right _ h))) (by decide +kernel))
set_option maxRecDepth 20000 in
theorem gX4_appendText_X4_requireArgument : GoodIn wsX4_appendText (va_wsS RX4 53 yX4_requireArgument wsX4_requireArgument) := goodIn_app (goodIn_of _ (by decide +kernel)) ggX4_appendText_X4_requireArgument
set_option maxRecDepth 20000 in
theorem ggX4_appendText_X0_hasRoomFor : GoodIn wsX4_appendText wsX0_hasRoomFor := goodIn_r _ [19, 20, 37, 38] (by decide +kernel) (by decide +kernel)
set_option maxRecDepth 20000 in
theorem gX4_appendText_X0_hasRoomFor : GoodIn wsX4_appendText (wsV RX4 170 RX0 yX0_hasRoomFor wsX0_hasRoomFor) := goodIn_app (goodIn_of _ (by decide +kernel)) ggX4_appendText_X0_hasRoomFor
set_option maxRecDepth 20000 in
theorem ggX4_appendText_X4_requireState : GoodIn wsX4_appendText wsX4_requireState := goodIn_ca (goodIn_r _ [23, 24, 25] (by decide +kernel) (by decide +kernel)) (goodIn_sub (fun _ h => List.mem_cons_of_mem _ (List.mem_append_right _ h)) (by decide +kernel))
set_option maxRecDepth 20000 in
theorem gX4_appendText_X4_requireState : GoodIn wsX4_appendText (va_wsS RX4 173 yX4_requireState wsX4_requireState) := goodIn_app (goodIn_of _ (by decide +kernel)) ggX4_appendText_X4_requireState
set_option maxRecDepth 20000 in
theorem ggX4_appendText_X0_append : GoodIn wsX4_appendText wsX0_append := goodIn_r _ [29, 20, 30, 7, 37, 38] (by decide +kernel) (by decide +kernel)
set_option maxRecDepth 20000 in
theorem gX4_appendText_X0_append : GoodIn wsX4_appendText (wsV RX4 176 RX0 yX0_append wsX0_append) := goodIn_app (goodIn_of _ (by decide +kernel)) ggX4_appendText_X0_append
theorem dX4_appendText_0 : decode cX4_appendText 0 = .ok (.lload_n 1, 1) := by decide +kernel
theorem dX4_appendText_1 : decode cX4_appendText 1 = .ok (.invokestatic 167, 3) := by decide +kernel
theorem dX4_appendText_4 : decode cX4_appendText 4 = .ok (.istore_n 3, 1) := by decide +kernel
theorem dX4_appendText_5 : decode cX4_appendText 5 = .ok (.iload_n 3, 1) := by decide +kernel
theorem dX4_appendText_6 : decode cX4_appendText 6 = .ok (.iconst (-1), 1) := by decide +kernel
theorem dX4_appendText_7 : decode cX4_appendText 7 = .ok (.if_icmp .eq 7, 3) := by decide +kernel
theorem dX4_appendText_10 : decode cX4_appendText 10 = .ok (.iconst 1, 1) := by decide +kernel
theorem dX4_appendText_11 : decode cX4_appendText 11 = .ok (.goto 4, 3) := by decide +kernel
theorem dX4_appendText_14 : decode cX4_appendText 14 = .ok (.iconst 0, 1) := by decide +kernel
theorem dX4_appendText_15 : decode cX4_appendText 15 = .ok (.invokestatic 53, 3) := by decide +kernel
theorem dX4_appendText_18 : decode cX4_appendText 18 = .ok (.aload_n 0, 1) := by decide +kernel
theorem dX4_appendText_19 : decode cX4_appendText 19 = .ok (.getfield 41, 3) := by decide +kernel
theorem dX4_appendText_22 : decode cX4_appendText 22 = .ok (.iload_n 3, 1) := by decide +kernel
theorem dX4_appendText_23 : decode cX4_appendText 23 = .ok (.invokevirtual 170, 3) := by decide +kernel
theorem dX4_appendText_26 : decode cX4_appendText 26 = .ok (.invokestatic 173, 3) := by decide +kernel
theorem dX4_appendText_29 : decode cX4_appendText 29 = .ok (.aload_n 0, 1) := by decide +kernel
theorem dX4_appendText_30 : decode cX4_appendText 30 = .ok (.getfield 41, 3) := by decide +kernel
theorem dX4_appendText_33 : decode cX4_appendText 33 = .ok (.lload_n 1, 1) := by decide +kernel
theorem dX4_appendText_34 : decode cX4_appendText 34 = .ok (.iload_n 3, 1) := by decide +kernel
theorem dX4_appendText_35 : decode cX4_appendText 35 = .ok (.invokevirtual 176, 3) := by decide +kernel
theorem dX4_appendText_38 : decode cX4_appendText 38 = .ok (.aload_n 0, 1) := by decide +kernel
theorem dX4_appendText_39 : decode cX4_appendText 39 = .ok (.getfield 41, 3) := by decide +kernel
theorem dX4_appendText_42 : decode cX4_appendText 42 = .ok (.getfield 180, 3) := by decide +kernel
theorem dX4_appendText_45 : decode cX4_appendText 45 = .ok (.ireturn, 1) := by decide +kernel
theorem dX4_clearText_0 : decode cX4_clearText 0 = .ok (.aload_n 0, 1) := by decide +kernel
theorem dX4_clearText_1 : decode cX4_clearText 1 = .ok (.getfield 41, 3) := by decide +kernel
theorem dX4_clearText_4 : decode cX4_clearText 4 = .ok (.getfield 180, 3) := by decide +kernel
theorem dX4_clearText_7 : decode cX4_clearText 7 = .ok (.istore_n 1, 1) := by decide +kernel
theorem dX4_clearText_8 : decode cX4_clearText 8 = .ok (.aload_n 0, 1) := by decide +kernel
theorem dX4_clearText_9 : decode cX4_clearText 9 = .ok (.getfield 41, 3) := by decide +kernel
theorem dX4_clearText_12 : decode cX4_clearText 12 = .ok (.iconst 0, 1) := by decide +kernel
theorem dX4_clearText_13 : decode cX4_clearText 13 = .ok (.putfield 180, 3) := by decide +kernel
theorem dX4_clearText_16 : decode cX4_clearText 16 = .ok (.iload_n 1, 1) := by decide +kernel
theorem dX4_clearText_17 : decode cX4_clearText 17 = .ok (.ireturn, 1) := by decide +kernel
theorem dX4_textLength_0 : decode cX4_textLength 0 = .ok (.aload_n 0, 1) := by decide +kernel
theorem dX4_textLength_1 : decode cX4_textLength 1 = .ok (.getfield 41, 3) := by decide +kernel
theorem dX4_textLength_4 : decode cX4_textLength 4 = .ok (.getfield 180, 3) := by decide +kernel
theorem dX4_textLength_7 : decode cX4_textLength 7 = .ok (.ireturn, 1) := by decide +kernel
set_option maxRecDepth 20000 in
theorem ggX4_textError_X0_firstError : GoodIn wsX4_textError wsX0_firstError := goodIn_r _ [6, 7, 8, 9, 10, 5, 11, 12, 13, 14, 15, 16, 17, 18, 19, 20, 21, 22, 23, 30, 31] (by decide +kernel) (by decide +kernel)
set_option maxRecDepth 20000 in
theorem gX4_textError_X0_firstError : GoodIn wsX4_textError (wsV RX4 183 RX0 yX0_firstError wsX0_firstError) := goodIn_app (goodIn_of _ (by decide +kernel)) ggX4_textError_X0_firstError
theorem dX4_textError_0 : decode cX4_textError 0 = .ok (.aload_n 0, 1) := by decide +kernel
theorem dX4_textError_1 : decode cX4_textError 1 = .ok (.getfield 41, 3) := by decide +kernel
theorem dX4_textError_4 : decode cX4_textError 4 = .ok (.invokevirtual 183, 3) := by decide +kernel
theorem dX4_textError_7 : decode cX4_textError 7 = .ok (.ireturn, 1) := by decide +kernel
set_option maxRecDepth 20000 in
theorem ggX4_runText_X0_firstError : GoodIn wsX4_runText wsX0_firstError := goodIn_r _ [9, 10, 11, 12, 13, 8, 14, 15, 16, 17, 18, 19, 20, 21, 22, 23, 24, 25, 26, 131, 132] (by decide +kernel) (by decide +kernel)
set_option maxRecDepth 20000 in
theorem gX4_runText_X0_firstError : GoodIn wsX4_runText (wsV RX4 183 RX0 yX0_firstError wsX0_firstError) := goodIn_app (goodIn_of _ (by decide +kernel)) ggX4_runText_X0_firstError
set_option maxRecDepth 20000 in
theorem ggX4_runText_X4_requireState : GoodIn wsX4_runText wsX4_requireState := goodIn_ca (goodIn_r _ [30, 31, 32] (by decide +kernel) (by decide +kernel)) (goodIn_sub (fun _ h => List.mem_cons_of_mem _ (List.mem_append_right _ h)) (by decide +kernel))
set_option maxRecDepth 20000 in
theorem gX4_runText_X4_requireState : GoodIn wsX4_runText (va_wsS RX4 173 yX4_requireState wsX4_requireState) := goodIn_app (goodIn_of _ (by decide +kernel)) ggX4_runText_X4_requireState
set_option maxRecDepth 20000 in
theorem ggX4_runText_X1_keep : GoodIn wsX4_runText wsX1_keep := goodIn_r _ [37, 38, 39, 40, 41, 42, 36, 43, 44, 45, 46, 47, 48, 49, 50, 51, 52, 53, 54, 55, 56, 133, 134, 135, 136, 137, 138] (by decide +kernel) (by decide +kernel)
set_option maxRecDepth 20000 in
theorem gX4_runText_X1_keep : GoodIn wsX4_runText (wsV RX4 57 RX1 yX1_keep wsX1_keep) := goodIn_app (goodIn_of _ (by decide +kernel)) ggX4_runText_X1_keep
set_option maxRecDepth 20000 in
theorem ggX4_runText_X4_executeCommands : GoodIn wsX4_runText wsX4_executeCommands := goodIn_r _ [60, 1, 4, 61, 62, 63, 8, 64, 65, 66, 67, 68, 10, 11, 69, 70, 71, 29, 72, 3, 73, 74, 75, 76, 77, 78, 79, 80, 81, 82, 24, 25, 26, 83, 84, 85, 86, 87, 88, 89, 90, 91, 92, 93, 94, 95, 96, 97, 98, 99, 47, 100, 49, 101, 102, 103, 104, 105, 106, 107, 108, 109, 110, 111, 112, 113, 114, 115, 116, 117, 118, 119, 120, 121, 122, 123, 124, 125, 126, 127, 128, 129, 130, 131, 132, 135, 136, 137, 138] (by decide +kernel) (by decide +kernel)
set_option maxRecDepth 20000 in
theorem gX4_runText_X4_executeCommands : GoodIn wsX4_runText (wsV RX4 186 RX4 yX4_executeCommands wsX4_executeCommands) := goodIn_app (goodIn_of _ (by decide +kernel)) ggX4_runText_X4_executeCommands
theorem dX4_runText_0 : decode cX4_runText 0 = .ok (.aload_n 0, 1) := by decide +kernel
theorem dX4_runText_1 : decode cX4_runText 1 = .ok (.getfield 41, 3) := by decide +kernel
theorem dX4_runText_4 : decode cX4_runText 4 = .ok (.invokevirtual 183, 3) := by decide +kernel
theorem dX4_runText_7 : decode cX4_runText 7 = .ok (.iconst (-1), 1) := by decide +kernel
theorem dX4_runText_8 : decode cX4_runText 8 = .ok (.if_icmp .ne 7, 3) := by decide +kernel
theorem dX4_runText_11 : decode cX4_runText 11 = .ok (.iconst 1, 1) := by decide +kernel
theorem dX4_runText_12 : decode cX4_runText 12 = .ok (.goto 4, 3) := by decide +kernel
theorem dX4_runText_15 : decode cX4_runText 15 = .ok (.iconst 0, 1) := by decide +kernel
theorem dX4_runText_16 : decode cX4_runText 16 = .ok (.invokestatic 173, 3) := by decide +kernel
theorem dX4_runText_19 : decode cX4_runText 19 = .ok (.aload_n 0, 1) := by decide +kernel
theorem dX4_runText_20 : decode cX4_runText 20 = .ok (.getfield 26, 3) := by decide +kernel
theorem dX4_runText_23 : decode cX4_runText 23 = .ok (.aload_n 0, 1) := by decide +kernel
theorem dX4_runText_24 : decode cX4_runText 24 = .ok (.getfield 10, 3) := by decide +kernel
theorem dX4_runText_27 : decode cX4_runText 27 = .ok (.invokevirtual 57, 3) := by decide +kernel
theorem dX4_runText_30 : decode cX4_runText 30 = .ok (.aload_n 0, 1) := by decide +kernel
theorem dX4_runText_31 : decode cX4_runText 31 = .ok (.invokevirtual 186, 3) := by decide +kernel
theorem dX4_runText_34 : decode cX4_runText 34 = .ok (.istore_n 1, 1) := by decide +kernel
theorem dX4_runText_35 : decode cX4_runText 35 = .ok (.aload_n 0, 1) := by decide +kernel
theorem dX4_runText_36 : decode cX4_runText 36 = .ok (.getfield 41, 3) := by decide +kernel
theorem dX4_runText_39 : decode cX4_runText 39 = .ok (.iconst 0, 1) := by decide +kernel
theorem dX4_runText_40 : decode cX4_runText 40 = .ok (.putfield 180, 3) := by decide +kernel
theorem dX4_runText_43 : decode cX4_runText 43 = .ok (.iload_n 1, 1) := by decide +kernel
theorem dX4_runText_44 : decode cX4_runText 44 = .ok (.ireturn, 1) := by decide +kernel
set_option maxRecDepth 20000 in
theorem ggX4_undo_X4_requireState : GoodIn wsX4_undo wsX4_requireState := goodIn_ca (goodIn_r _ [7, 8, 9] (by decide +kernel) (by decide +kernel)) (goodIn_sub (fun _ h => List.mem_cons_of_mem _ (List.mem_append_right _ h)) (by decide +kernel))
set_option maxRecDepth 20000 in
theorem gX4_undo_X4_requireState : GoodIn wsX4_undo (va_wsS RX4 173 yX4_requireState wsX4_requireState) := goodIn_app (goodIn_of _ (by decide +kernel)) ggX4_undo_X4_requireState
set_option maxRecDepth 20000 in
theorem ggX4_undo_X1_takeBack : GoodIn wsX4_undo wsX1_takeBack := goodIn_r _ [14, 15, 16, 17, 18, 19, 20, 21, 22, 23, 24, 25, 26, 27, 28, 29, 36, 37, 38, 39, 40, 41] (by decide +kernel) (by decide +kernel)
set_option maxRecDepth 20000 in
theorem gX4_undo_X1_takeBack : GoodIn wsX4_undo (wsV RX4 192 RX1 yX1_takeBack wsX1_takeBack) := goodIn_app (goodIn_of _ (by decide +kernel)) ggX4_undo_X1_takeBack
theorem dX4_undo_0 : decode cX4_undo 0 = .ok (.aload_n 0, 1) := by decide +kernel
theorem dX4_undo_1 : decode cX4_undo 1 = .ok (.getfield 26, 3) := by decide +kernel
theorem dX4_undo_4 : decode cX4_undo 4 = .ok (.getfield 189, 3) := by decide +kernel
theorem dX4_undo_7 : decode cX4_undo 7 = .ok (.ifCond .le 7, 3) := by decide +kernel
theorem dX4_undo_10 : decode cX4_undo 10 = .ok (.iconst 1, 1) := by decide +kernel
theorem dX4_undo_11 : decode cX4_undo 11 = .ok (.goto 4, 3) := by decide +kernel
theorem dX4_undo_14 : decode cX4_undo 14 = .ok (.iconst 0, 1) := by decide +kernel
theorem dX4_undo_15 : decode cX4_undo 15 = .ok (.invokestatic 173, 3) := by decide +kernel
theorem dX4_undo_18 : decode cX4_undo 18 = .ok (.aload_n 0, 1) := by decide +kernel
theorem dX4_undo_19 : decode cX4_undo 19 = .ok (.getfield 26, 3) := by decide +kernel
theorem dX4_undo_22 : decode cX4_undo 22 = .ok (.aload_n 0, 1) := by decide +kernel
theorem dX4_undo_23 : decode cX4_undo 23 = .ok (.getfield 10, 3) := by decide +kernel
theorem dX4_undo_26 : decode cX4_undo 26 = .ok (.invokevirtual 192, 3) := by decide +kernel
theorem dX4_undo_29 : decode cX4_undo 29 = .ok (.aload_n 0, 1) := by decide +kernel
theorem dX4_undo_30 : decode cX4_undo 30 = .ok (.getfield 26, 3) := by decide +kernel
theorem dX4_undo_33 : decode cX4_undo 33 = .ok (.getfield 189, 3) := by decide +kernel
theorem dX4_undo_36 : decode cX4_undo 36 = .ok (.ireturn, 1) := by decide +kernel
theorem dX4_undoCount_0 : decode cX4_undoCount 0 = .ok (.aload_n 0, 1) := by decide +kernel
theorem dX4_undoCount_1 : decode cX4_undoCount 1 = .ok (.getfield 26, 3) := by decide +kernel
theorem dX4_undoCount_4 : decode cX4_undoCount 4 = .ok (.getfield 189, 3) := by decide +kernel
theorem dX4_undoCount_7 : decode cX4_undoCount 7 = .ok (.ireturn, 1) := by decide +kernel
set_option maxRecDepth 20000 in
theorem ggX4_saveState_X4_isSlot : GoodIn wsX4_saveState wsX4_isSlot := goodIn_r _ [7] (by decide +kernel) (by decide +kernel)
set_option maxRecDepth 20000 in
theorem gX4_saveState_X4_isSlot : GoodIn wsX4_saveState (va_wsS RX4 195 yX4_isSlot wsX4_isSlot) := goodIn_app (goodIn_of _ (by decide +kernel)) ggX4_saveState_X4_isSlot
set_option maxRecDepth 20000 in
theorem ggX4_saveState_X4_requireIndex : GoodIn wsX4_saveState wsX4_requireIndex := goodIn_ca (goodIn_r _ [10, 11, 12] (by decide +kernel) (by decide +kernel)) (goodIn_sub (fun _ h => List.mem_cons_of_mem _ (List.mem_append_right _ h)) (by decide +kernel))
set_option maxRecDepth 20000 in
theorem gX4_saveState_X4_requireIndex : GoodIn wsX4_saveState (va_wsS RX4 65 yX4_requireIndex wsX4_requireIndex) := goodIn_app (goodIn_of _ (by decide +kernel)) ggX4_saveState_X4_requireIndex
set_option maxRecDepth 20000 in
theorem ggX4_saveState_X3_copyFrom : GoodIn wsX4_saveState wsX3_copyFrom := goodIn_r _ [17, 18, 19, 20, 21, 22, 23, 24, 25, 36, 37, 38, 39] (by decide +kernel) (by decide +kernel)
set_option maxRecDepth 20000 in
theorem gX4_saveState_X3_copyFrom : GoodIn wsX4_saveState (wsV RX4 198 RX3 yX3_copyFrom wsX3_copyFrom) := goodIn_app (goodIn_of _ (by decide +kernel)) ggX4_saveState_X3_copyFrom
set_option maxRecDepth 20000 in
theorem ggX4_saveState_X3_sumOfGreys : GoodIn wsX4_saveState wsX3_sumOfGreys := goodIn_r _ [29, 18, 36, 37, 38, 39] (by decide +kernel) (by decide +kernel)
set_option maxRecDepth 20000 in
theorem gX4_saveState_X3_sumOfGreys : GoodIn wsX4_saveState (wsV RX4 79 RX3 yX3_sumOfGreys wsX3_sumOfGreys) := goodIn_app (goodIn_of _ (by decide +kernel)) ggX4_saveState_X3_sumOfGreys
theorem dX4_saveState_0 : decode cX4_saveState 0 = .ok (.iload_n 1, 1) := by decide +kernel
theorem dX4_saveState_1 : decode cX4_saveState 1 = .ok (.invokestatic 195, 3) := by decide +kernel
theorem dX4_saveState_4 : decode cX4_saveState 4 = .ok (.invokestatic 65, 3) := by decide +kernel
theorem dX4_saveState_7 : decode cX4_saveState 7 = .ok (.aload_n 0, 1) := by decide +kernel
theorem dX4_saveState_8 : decode cX4_saveState 8 = .ok (.getfield 30, 3) := by decide +kernel
theorem dX4_saveState_11 : decode cX4_saveState 11 = .ok (.iload_n 1, 1) := by decide +kernel
theorem dX4_saveState_12 : decode cX4_saveState 12 = .ok (.aaload, 1) := by decide +kernel
theorem dX4_saveState_13 : decode cX4_saveState 13 = .ok (.aload_n 0, 1) := by decide +kernel
theorem dX4_saveState_14 : decode cX4_saveState 14 = .ok (.getfield 10, 3) := by decide +kernel
theorem dX4_saveState_17 : decode cX4_saveState 17 = .ok (.invokevirtual 198, 3) := by decide +kernel
theorem dX4_saveState_20 : decode cX4_saveState 20 = .ok (.aload_n 0, 1) := by decide +kernel
theorem dX4_saveState_21 : decode cX4_saveState 21 = .ok (.getfield 34, 3) := by decide +kernel
theorem dX4_saveState_24 : decode cX4_saveState 24 = .ok (.iload_n 1, 1) := by decide +kernel
theorem dX4_saveState_25 : decode cX4_saveState 25 = .ok (.iconst 1, 1) := by decide +kernel
theorem dX4_saveState_26 : decode cX4_saveState 26 = .ok (.bastore, 1) := by decide +kernel
theorem dX4_saveState_27 : decode cX4_saveState 27 = .ok (.aload_n 0, 1) := by decide +kernel
theorem dX4_saveState_28 : decode cX4_saveState 28 = .ok (.getfield 10, 3) := by decide +kernel
theorem dX4_saveState_31 : decode cX4_saveState 31 = .ok (.invokevirtual 79, 3) := by decide +kernel
theorem dX4_saveState_34 : decode cX4_saveState 34 = .ok (.ireturn, 1) := by decide +kernel
set_option maxRecDepth 20000 in
theorem ggX4_loadState_X4_isSlot : GoodIn wsX4_loadState wsX4_isSlot := goodIn_r _ [8] (by decide +kernel) (by decide +kernel)
set_option maxRecDepth 20000 in
theorem gX4_loadState_X4_isSlot : GoodIn wsX4_loadState (va_wsS RX4 195 yX4_isSlot wsX4_isSlot) := goodIn_app (goodIn_of _ (by decide +kernel)) ggX4_loadState_X4_isSlot
set_option maxRecDepth 20000 in
theorem ggX4_loadState_X4_requireIndex : GoodIn wsX4_loadState wsX4_requireIndex := goodIn_ca (goodIn_r _ [11, 12, 13] (by decide +kernel) (by decide +kernel)) (goodIn_sub (fun _ h => List.mem_cons_of_mem _ (List.mem_append_left _ (List.mem_append_right _ h))) (by decide +kernel))
set_option maxRecDepth 20000 in
theorem gX4_loadState_X4_requireIndex : GoodIn wsX4_loadState (va_wsS RX4 65 yX4_requireIndex wsX4_requireIndex) := goodIn_app (goodIn_of _ (by decide +kernel)) ggX4_loadState_X4_requireIndex
set_option maxRecDepth 20000 in
theorem ggX4_loadState_X4_requireState : GoodIn wsX4_loadState wsX4_requireState := goodIn_ca (goodIn_r _ [16, 17, 18] (by decide +kernel) (by decide +kernel)) (goodIn_sub (fun _ h => List.mem_cons_of_mem _ (List.mem_append_right _ h)) (by decide +kernel))
set_option maxRecDepth 20000 in
theorem gX4_loadState_X4_requireState : GoodIn wsX4_loadState (va_wsS RX4 173 yX4_requireState wsX4_requireState) := goodIn_app (goodIn_of _ (by decide +kernel)) ggX4_loadState_X4_requireState
set_option maxRecDepth 20000 in
theorem ggX4_loadState_X1_keep : GoodIn wsX4_loadState wsX1_keep := goodIn_r _ [23, 24, 25, 26, 27, 28, 22, 29, 30, 31, 32, 33, 34, 35, 36, 37, 38, 39, 40, 41, 42, 54, 55, 56, 57, 58, 59] (by decide +kernel) (by decide +kernel)
set_option maxRecDepth 20000 in
theorem gX4_loadState_X1_keep : GoodIn wsX4_loadState (wsV RX4 57 RX1 yX1_keep wsX1_keep) := goodIn_app (goodIn_of _ (by decide +kernel)) ggX4_loadState_X1_keep
set_option maxRecDepth 20000 in
theorem ggX4_loadState_X3_copyFrom : GoodIn wsX4_loadState wsX3_copyFrom := goodIn_r _ [34, 35, 36, 37, 38, 39, 40, 41, 42, 56, 57, 58, 59] (by decide +kernel) (by decide +kernel)
set_option maxRecDepth 20000 in
theorem gX4_loadState_X3_copyFrom : GoodIn wsX4_loadState (wsV RX4 198 RX3 yX3_copyFrom wsX3_copyFrom) := goodIn_app (goodIn_of _ (by decide +kernel)) ggX4_loadState_X3_copyFrom
set_option maxRecDepth 20000 in
theorem ggX4_loadState_X3_sumOfGreys : GoodIn wsX4_loadState wsX3_sumOfGreys := goodIn_r _ [47, 35, 56, 57, 58, 59] (by decide +kernel) (by decide +kernel)
set_option maxRecDepth 20000 in
theorem gX4_loadState_X3_sumOfGreys : GoodIn wsX4_loadState (wsV RX4 79 RX3 yX3_sumOfGreys wsX3_sumOfGreys) := goodIn_app (goodIn_of _ (by decide +kernel)) ggX4_loadState_X3_sumOfGreys
theorem dX4_loadState_0 : decode cX4_loadState 0 = .ok (.iload_n 1, 1) := by decide +kernel
theorem dX4_loadState_1 : decode cX4_loadState 1 = .ok (.invokestatic 195, 3) := by decide +kernel
theorem dX4_loadState_4 : decode cX4_loadState 4 = .ok (.invokestatic 65, 3) := by decide +kernel
theorem dX4_loadState_7 : decode cX4_loadState 7 = .ok (.aload_n 0, 1) := by decide +kernel
theorem dX4_loadState_8 : decode cX4_loadState 8 = .ok (.getfield 34, 3) := by decide +kernel
theorem dX4_loadState_11 : decode cX4_loadState 11 = .ok (.iload_n 1, 1) := by decide +kernel
theorem dX4_loadState_12 : decode cX4_loadState 12 = .ok (.baload, 1) := by decide +kernel
theorem dX4_loadState_13 : decode cX4_loadState 13 = .ok (.invokestatic 173, 3) := by decide +kernel
theorem dX4_loadState_16 : decode cX4_loadState 16 = .ok (.aload_n 0, 1) := by decide +kernel
theorem dX4_loadState_17 : decode cX4_loadState 17 = .ok (.getfield 26, 3) := by decide +kernel
theorem dX4_loadState_20 : decode cX4_loadState 20 = .ok (.aload_n 0, 1) := by decide +kernel
theorem dX4_loadState_21 : decode cX4_loadState 21 = .ok (.getfield 10, 3) := by decide +kernel
theorem dX4_loadState_24 : decode cX4_loadState 24 = .ok (.invokevirtual 57, 3) := by decide +kernel
theorem dX4_loadState_27 : decode cX4_loadState 27 = .ok (.aload_n 0, 1) := by decide +kernel
theorem dX4_loadState_28 : decode cX4_loadState 28 = .ok (.getfield 10, 3) := by decide +kernel
theorem dX4_loadState_31 : decode cX4_loadState 31 = .ok (.aload_n 0, 1) := by decide +kernel
theorem dX4_loadState_32 : decode cX4_loadState 32 = .ok (.getfield 30, 3) := by decide +kernel
theorem dX4_loadState_35 : decode cX4_loadState 35 = .ok (.iload_n 1, 1) := by decide +kernel
theorem dX4_loadState_36 : decode cX4_loadState 36 = .ok (.aaload, 1) := by decide +kernel
theorem dX4_loadState_37 : decode cX4_loadState 37 = .ok (.invokevirtual 198, 3) := by decide +kernel
theorem dX4_loadState_40 : decode cX4_loadState 40 = .ok (.aload_n 0, 1) := by decide +kernel
theorem dX4_loadState_41 : decode cX4_loadState 41 = .ok (.getfield 10, 3) := by decide +kernel
theorem dX4_loadState_44 : decode cX4_loadState 44 = .ok (.invokevirtual 79, 3) := by decide +kernel
theorem dX4_loadState_47 : decode cX4_loadState 47 = .ok (.ireturn, 1) := by decide +kernel
theorem dX4_isCell_0 : decode cX4_isCell 0 = .ok (.iload_n 0, 1) := by decide +kernel
theorem dX4_isCell_1 : decode cX4_isCell 1 = .ok (.ifCond .lt 13, 3) := by decide +kernel
theorem dX4_isCell_4 : decode cX4_isCell 4 = .ok (.iload_n 0, 1) := by decide +kernel
theorem dX4_isCell_5 : decode cX4_isCell 5 = .ok (.bipush 64, 2) := by decide +kernel
theorem dX4_isCell_7 : decode cX4_isCell 7 = .ok (.if_icmp .ge 7, 3) := by decide +kernel
theorem dX4_isCell_10 : decode cX4_isCell 10 = .ok (.iconst 1, 1) := by decide +kernel
theorem dX4_isCell_11 : decode cX4_isCell 11 = .ok (.goto 4, 3) := by decide +kernel
theorem dX4_isCell_14 : decode cX4_isCell 14 = .ok (.iconst 0, 1) := by decide +kernel
theorem dX4_isCell_15 : decode cX4_isCell 15 = .ok (.ireturn, 1) := by decide +kernel
theorem dX4_isGrey_0 : decode cX4_isGrey 0 = .ok (.iload_n 0, 1) := by decide +kernel
theorem dX4_isGrey_1 : decode cX4_isGrey 1 = .ok (.ifCond .lt 14, 3) := by decide +kernel
theorem dX4_isGrey_4 : decode cX4_isGrey 4 = .ok (.iload_n 0, 1) := by decide +kernel
theorem dX4_isGrey_5 : decode cX4_isGrey 5 = .ok (.sipush 255, 3) := by decide +kernel
theorem dX4_isGrey_8 : decode cX4_isGrey 8 = .ok (.if_icmp .gt 7, 3) := by decide +kernel
theorem dX4_isGrey_11 : decode cX4_isGrey 11 = .ok (.iconst 1, 1) := by decide +kernel
theorem dX4_isGrey_12 : decode cX4_isGrey 12 = .ok (.goto 4, 3) := by decide +kernel
theorem dX4_isGrey_15 : decode cX4_isGrey 15 = .ok (.iconst 0, 1) := by decide +kernel
theorem dX4_isGrey_16 : decode cX4_isGrey 16 = .ok (.ireturn, 1) := by decide +kernel
theorem dX4_isAmount_0 : decode cX4_isAmount 0 = .ok (.iload_n 0, 1) := by decide +kernel
theorem dX4_isAmount_1 : decode cX4_isAmount 1 = .ok (.iconst 1, 1) := by decide +kernel
theorem dX4_isAmount_2 : decode cX4_isAmount 2 = .ok (.if_icmp .lt 14, 3) := by decide +kernel
theorem dX4_isAmount_5 : decode cX4_isAmount 5 = .ok (.iload_n 0, 1) := by decide +kernel
theorem dX4_isAmount_6 : decode cX4_isAmount 6 = .ok (.sipush 255, 3) := by decide +kernel
theorem dX4_isAmount_9 : decode cX4_isAmount 9 = .ok (.if_icmp .gt 7, 3) := by decide +kernel
theorem dX4_isAmount_12 : decode cX4_isAmount 12 = .ok (.iconst 1, 1) := by decide +kernel
theorem dX4_isAmount_13 : decode cX4_isAmount 13 = .ok (.goto 4, 3) := by decide +kernel
theorem dX4_isAmount_16 : decode cX4_isAmount 16 = .ok (.iconst 0, 1) := by decide +kernel
theorem dX4_isAmount_17 : decode cX4_isAmount 17 = .ok (.ireturn, 1) := by decide +kernel
theorem dX4_isRule_0 : decode cX4_isRule 0 = .ok (.iload_n 0, 1) := by decide +kernel
theorem dX4_isRule_1 : decode cX4_isRule 1 = .ok (.ifCond .lt 12, 3) := by decide +kernel
theorem dX4_isRule_4 : decode cX4_isRule 4 = .ok (.iload_n 0, 1) := by decide +kernel
theorem dX4_isRule_5 : decode cX4_isRule 5 = .ok (.iconst 4, 1) := by decide +kernel
theorem dX4_isRule_6 : decode cX4_isRule 6 = .ok (.if_icmp .ge 7, 3) := by decide +kernel
theorem dX4_isRule_9 : decode cX4_isRule 9 = .ok (.iconst 1, 1) := by decide +kernel
theorem dX4_isRule_10 : decode cX4_isRule 10 = .ok (.goto 4, 3) := by decide +kernel
theorem dX4_isRule_13 : decode cX4_isRule 13 = .ok (.iconst 0, 1) := by decide +kernel
theorem dX4_isRule_14 : decode cX4_isRule 14 = .ok (.ireturn, 1) := by decide +kernel
theorem dX4_isLengthOfSide_0 : decode cX4_isLengthOfSide 0 = .ok (.iload_n 0, 1) := by decide +kernel
theorem dX4_isLengthOfSide_1 : decode cX4_isLengthOfSide 1 = .ok (.iconst 1, 1) := by decide +kernel
theorem dX4_isLengthOfSide_2 : decode cX4_isLengthOfSide 2 = .ok (.if_icmp .lt 13, 3) := by decide +kernel
theorem dX4_isLengthOfSide_5 : decode cX4_isLengthOfSide 5 = .ok (.iload_n 0, 1) := by decide +kernel
theorem dX4_isLengthOfSide_6 : decode cX4_isLengthOfSide 6 = .ok (.bipush 8, 2) := by decide +kernel
theorem dX4_isLengthOfSide_8 : decode cX4_isLengthOfSide 8 = .ok (.if_icmp .gt 7, 3) := by decide +kernel
theorem dX4_isLengthOfSide_11 : decode cX4_isLengthOfSide 11 = .ok (.iconst 1, 1) := by decide +kernel
theorem dX4_isLengthOfSide_12 : decode cX4_isLengthOfSide 12 = .ok (.goto 4, 3) := by decide +kernel
theorem dX4_isLengthOfSide_15 : decode cX4_isLengthOfSide 15 = .ok (.iconst 0, 1) := by decide +kernel
theorem dX4_isLengthOfSide_16 : decode cX4_isLengthOfSide 16 = .ok (.ireturn, 1) := by decide +kernel
theorem dX4_isSlot_0 : decode cX4_isSlot 0 = .ok (.iload_n 0, 1) := by decide +kernel
theorem dX4_isSlot_1 : decode cX4_isSlot 1 = .ok (.ifCond .lt 12, 3) := by decide +kernel
theorem dX4_isSlot_4 : decode cX4_isSlot 4 = .ok (.iload_n 0, 1) := by decide +kernel
theorem dX4_isSlot_5 : decode cX4_isSlot 5 = .ok (.iconst 2, 1) := by decide +kernel
theorem dX4_isSlot_6 : decode cX4_isSlot 6 = .ok (.if_icmp .ge 7, 3) := by decide +kernel
theorem dX4_isSlot_9 : decode cX4_isSlot 9 = .ok (.iconst 1, 1) := by decide +kernel
theorem dX4_isSlot_10 : decode cX4_isSlot 10 = .ok (.goto 4, 3) := by decide +kernel
theorem dX4_isSlot_13 : decode cX4_isSlot 13 = .ok (.iconst 0, 1) := by decide +kernel
theorem dX4_isSlot_14 : decode cX4_isSlot 14 = .ok (.ireturn, 1) := by decide +kernel
set_option maxRecDepth 20000 in
theorem ggX4_requireCell_X4_isCell : GoodIn wsX4_requireCell wsX4_isCell := goodIn_r _ [4] (by decide +kernel) (by decide +kernel)
set_option maxRecDepth 20000 in
theorem gX4_requireCell_X4_isCell : GoodIn wsX4_requireCell (va_wsS RX4 201 yX4_isCell wsX4_isCell) := goodIn_app (goodIn_of _ (by decide +kernel)) ggX4_requireCell_X4_isCell
set_option maxRecDepth 20000 in
theorem ggX4_requireCell_X4_requireIndex : GoodIn wsX4_requireCell wsX4_requireIndex := goodIn_ca (goodIn_r _ [7, 8, 9] (by decide +kernel) (by decide +kernel)) (goodIn_sub (fun _ h => List.mem_cons_of_mem _ (List.mem_append_right _ h)) (by decide +kernel))
set_option maxRecDepth 20000 in
theorem gX4_requireCell_X4_requireIndex : GoodIn wsX4_requireCell (va_wsS RX4 65 yX4_requireIndex wsX4_requireIndex) := goodIn_app (goodIn_of _ (by decide +kernel)) ggX4_requireCell_X4_requireIndex
theorem dX4_requireCell_0 : decode cX4_requireCell 0 = .ok (.iload_n 0, 1) := by decide +kernel
theorem dX4_requireCell_1 : decode cX4_requireCell 1 = .ok (.invokestatic 201, 3) := by decide +kernel
theorem dX4_requireCell_4 : decode cX4_requireCell 4 = .ok (.invokestatic 65, 3) := by decide +kernel
theorem dX4_requireCell_7 : decode cX4_requireCell 7 = .ok (.return_, 1) := by decide +kernel
theorem dX4_requireIndex_0 : decode cX4_requireIndex 0 = .ok (.iload_n 0, 1) := by decide +kernel
theorem dX4_requireIndex_1 : decode cX4_requireIndex 1 = .ok (.ifCond .ne 13, 3) := by decide +kernel
theorem dX4_requireIndex_4 : decode cX4_requireIndex 4 = .ok (.new 204, 3) := by decide +kernel
theorem dX4_requireIndex_7 : decode cX4_requireIndex 7 = .ok (.dup, 1) := by decide +kernel
theorem dX4_requireIndex_8 : decode cX4_requireIndex 8 = .ok (.ldc 206, 2) := by decide +kernel
theorem dX4_requireIndex_10 : decode cX4_requireIndex 10 = .ok (.invokespecial 208, 3) := by decide +kernel
theorem dX4_requireIndex_13 : decode cX4_requireIndex 13 = .ok (.athrow, 1) := by decide +kernel
theorem dX4_requireIndex_14 : decode cX4_requireIndex 14 = .ok (.return_, 1) := by decide +kernel
theorem dX4_requireArgument_0 : decode cX4_requireArgument 0 = .ok (.iload_n 0, 1) := by decide +kernel
theorem dX4_requireArgument_1 : decode cX4_requireArgument 1 = .ok (.ifCond .ne 13, 3) := by decide +kernel
theorem dX4_requireArgument_4 : decode cX4_requireArgument 4 = .ok (.new 211, 3) := by decide +kernel
theorem dX4_requireArgument_7 : decode cX4_requireArgument 7 = .ok (.dup, 1) := by decide +kernel
theorem dX4_requireArgument_8 : decode cX4_requireArgument 8 = .ok (.ldc 213, 2) := by decide +kernel
theorem dX4_requireArgument_10 : decode cX4_requireArgument 10 = .ok (.invokespecial 215, 3) := by decide +kernel
theorem dX4_requireArgument_13 : decode cX4_requireArgument 13 = .ok (.athrow, 1) := by decide +kernel
theorem dX4_requireArgument_14 : decode cX4_requireArgument 14 = .ok (.return_, 1) := by decide +kernel
theorem dX4_requireState_0 : decode cX4_requireState 0 = .ok (.iload_n 0, 1) := by decide +kernel
theorem dX4_requireState_1 : decode cX4_requireState 1 = .ok (.ifCond .ne 13, 3) := by decide +kernel
theorem dX4_requireState_4 : decode cX4_requireState 4 = .ok (.new 216, 3) := by decide +kernel
theorem dX4_requireState_7 : decode cX4_requireState 7 = .ok (.dup, 1) := by decide +kernel
theorem dX4_requireState_8 : decode cX4_requireState 8 = .ok (.ldc 218, 2) := by decide +kernel
theorem dX4_requireState_10 : decode cX4_requireState 10 = .ok (.invokespecial 220, 3) := by decide +kernel
theorem dX4_requireState_13 : decode cX4_requireState 13 = .ok (.athrow, 1) := by decide +kernel
theorem dX4_requireState_14 : decode cX4_requireState 14 = .ok (.return_, 1) := by decide +kernel
set_option maxRecDepth 20000 in
theorem ggX4_paint_X2_paintByHandingOn : GoodIn wsX4_paint wsX2_paintByHandingOn := goodIn_r _ [9, 10, 11, 12, 13, 14, 15, 16, 17, 18, 19, 20, 21, 22, 23, 24, 25, 26, 27, 28, 29, 30, 8, 31, 32, 33, 34, 35, 36, 37, 38, 39, 40, 41, 42, 43, 44, 45, 46, 47, 48, 49, 56, 57, 58, 59, 60, 61, 62, 63] (by decide +kernel) (by decide +kernel)
set_option maxRecDepth 20000 in
theorem gX4_paint_X2_paintByHandingOn : GoodIn wsX4_paint (wsV RX4 160 RX2 yX2_paintByHandingOn wsX2_paintByHandingOn) := goodIn_app (goodIn_of _ (by decide +kernel)) ggX4_paint_X2_paintByHandingOn
theorem dX4_paint_0 : decode cX4_paint 0 = .ok (.aload_n 0, 1) := by decide +kernel
theorem dX4_paint_1 : decode cX4_paint 1 = .ok (.getfield 19, 3) := by decide +kernel
theorem dX4_paint_4 : decode cX4_paint 4 = .ok (.aload_n 0, 1) := by decide +kernel
theorem dX4_paint_5 : decode cX4_paint 5 = .ok (.getfield 10, 3) := by decide +kernel
theorem dX4_paint_8 : decode cX4_paint 8 = .ok (.aload_n 0, 1) := by decide +kernel
theorem dX4_paint_9 : decode cX4_paint 9 = .ok (.getfield 10, 3) := by decide +kernel
theorem dX4_paint_12 : decode cX4_paint 12 = .ok (.getfield 95, 3) := by decide +kernel
theorem dX4_paint_15 : decode cX4_paint 15 = .ok (.aload_n 0, 1) := by decide +kernel
theorem dX4_paint_16 : decode cX4_paint 16 = .ok (.getfield 10, 3) := by decide +kernel
theorem dX4_paint_19 : decode cX4_paint 19 = .ok (.getfield 99, 3) := by decide +kernel
theorem dX4_paint_22 : decode cX4_paint 22 = .ok (.invokevirtual 160, 3) := by decide +kernel
theorem dX4_paint_25 : decode cX4_paint 25 = .ok (.return_, 1) := by decide +kernel
set_option maxRecDepth 20000 in
theorem ggX4_roughnessWith_X2_paintByHandingOn : GoodIn wsX4_roughnessWith wsX2_paintByHandingOn := goodIn_r _ [8, 9, 10, 11, 12, 13, 14, 15, 16, 17, 18, 19, 20, 21, 22, 23, 24, 25, 26, 27, 28, 29, 7, 30, 31, 32, 33, 34, 35, 36, 37, 38, 39, 40, 41, 42, 43, 44, 45, 46, 47, 48, 71, 72, 73, 74, 75, 76, 77, 78] (by decide +kernel) (by decide +kernel)
set_option maxRecDepth 20000 in
theorem gX4_roughnessWith_X2_paintByHandingOn : GoodIn wsX4_roughnessWith (wsV RX4 160 RX2 yX2_paintByHandingOn wsX2_paintByHandingOn) := goodIn_app (goodIn_of _ (by decide +kernel)) ggX4_roughnessWith_X2_paintByHandingOn
set_option maxRecDepth 20000 in
theorem ggX4_roughnessWith_X2_differenceOfAllSquares : GoodIn wsX4_roughnessWith wsX2_differenceOfAllSquares := goodIn_r _ [52, 53, 54, 55, 7, 56, 57, 58, 59, 60, 61, 62, 63, 64, 15, 9, 75, 76, 77, 78, 71, 72, 73, 74] (by decide +kernel) (by decide +kernel)
set_option maxRecDepth 20000 in
theorem gX4_roughnessWith_X2_differenceOfAllSquares : GoodIn wsX4_roughnessWith (wsV RX4 221 RX2 yX2_differenceOfAllSquares wsX2_differenceOfAllSquares) := goodIn_app (goodIn_of _ (by decide +kernel)) ggX4_roughnessWith_X2_differenceOfAllSquares
theorem dX4_roughnessWith_0 : decode cX4_roughnessWith 0 = .ok (.aload_n 0, 1) := by decide +kernel
theorem dX4_roughnessWith_1 : decode cX4_roughnessWith 1 = .ok (.getfield 19, 3) := by decide +kernel
theorem dX4_roughnessWith_4 : decode cX4_roughnessWith 4 = .ok (.aload_n 0, 1) := by decide +kernel
theorem dX4_roughnessWith_5 : decode cX4_roughnessWith 5 = .ok (.getfield 10, 3) := by decide +kernel
theorem dX4_roughnessWith_8 : decode cX4_roughnessWith 8 = .ok (.iload_n 1, 1) := by decide +kernel
theorem dX4_roughnessWith_9 : decode cX4_roughnessWith 9 = .ok (.aload_n 0, 1) := by decide +kernel
theorem dX4_roughnessWith_10 : decode cX4_roughnessWith 10 = .ok (.getfield 10, 3) := by decide +kernel
theorem dX4_roughnessWith_13 : decode cX4_roughnessWith 13 = .ok (.getfield 99, 3) := by decide +kernel
theorem dX4_roughnessWith_16 : decode cX4_roughnessWith 16 = .ok (.invokevirtual 160, 3) := by decide +kernel
theorem dX4_roughnessWith_19 : decode cX4_roughnessWith 19 = .ok (.aload_n 0, 1) := by decide +kernel
theorem dX4_roughnessWith_20 : decode cX4_roughnessWith 20 = .ok (.getfield 19, 3) := by decide +kernel
theorem dX4_roughnessWith_23 : decode cX4_roughnessWith 23 = .ok (.aload_n 0, 1) := by decide +kernel
theorem dX4_roughnessWith_24 : decode cX4_roughnessWith 24 = .ok (.getfield 10, 3) := by decide +kernel
theorem dX4_roughnessWith_27 : decode cX4_roughnessWith 27 = .ok (.invokevirtual 221, 3) := by decide +kernel
theorem dX4_roughnessWith_30 : decode cX4_roughnessWith 30 = .ok (.ireturn, 1) := by decide +kernel
set_option maxRecDepth 20000 in
theorem ggX4_executeCommands_X0_beginsCommand : GoodIn wsX4_executeCommands wsX0_beginsCommand := goodIn_r _ [7, 8, 9, 10, 6, 11, 12, 13, 83, 84] (by decide +kernel) (by decide +kernel)
set_option maxRecDepth 20000 in
theorem gX4_executeCommands_X0_beginsCommand : GoodIn wsX4_executeCommands (wsV RX4 225 RX0 yX0_beginsCommand wsX0_beginsCommand) := goodIn_app (goodIn_of _ (by decide +kernel)) ggX4_executeCommands_X0_beginsCommand
set_option maxRecDepth 20000 in
theorem ggX4_executeCommands_X4_execute : GoodIn wsX4_executeCommands wsX4_execute := goodIn_r _ [18, 1, 19, 20, 21, 9, 10, 6, 11, 12, 13, 22, 23, 24, 25, 26, 27, 28, 29, 30, 31, 32, 33, 34, 35, 36, 37, 38, 39, 17, 40, 41, 42, 43, 44, 45, 46, 47, 48, 49, 50, 51, 52, 53, 54, 55, 56, 57, 58, 59, 60, 61, 62, 63, 64, 65, 66, 67, 68, 69, 70, 71, 72, 73, 74, 75, 76, 77, 78, 79, 80, 81, 82, 85, 86, 87, 88, 83, 84] (by decide +kernel) (by decide +kernel)
set_option maxRecDepth 20000 in
theorem gX4_executeCommands_X4_execute : GoodIn wsX4_executeCommands (wsV RX4 228 RX4 yX4_execute wsX4_execute) := goodIn_app (goodIn_of _ (by decide +kernel)) ggX4_executeCommands_X4_execute
theorem dX4_executeCommands_0 : decode cX4_executeCommands 0 = .ok (.iconst 0, 1) := by decide +kernel
theorem dX4_executeCommands_1 : decode cX4_executeCommands 1 = .ok (.istore_n 1, 1) := by decide +kernel
theorem dX4_executeCommands_2 : decode cX4_executeCommands 2 = .ok (.iconst 0, 1) := by decide +kernel
theorem dX4_executeCommands_3 : decode cX4_executeCommands 3 = .ok (.istore_n 2, 1) := by decide +kernel
theorem dX4_executeCommands_4 : decode cX4_executeCommands 4 = .ok (.iload_n 2, 1) := by decide +kernel
theorem dX4_executeCommands_5 : decode cX4_executeCommands 5 = .ok (.aload_n 0, 1) := by decide +kernel
theorem dX4_executeCommands_6 : decode cX4_executeCommands 6 = .ok (.getfield 41, 3) := by decide +kernel
theorem dX4_executeCommands_9 : decode cX4_executeCommands 9 = .ok (.getfield 180, 3) := by decide +kernel
theorem dX4_executeCommands_12 : decode cX4_executeCommands 12 = .ok (.if_icmp .ge 33, 3) := by decide +kernel
theorem dX4_executeCommands_15 : decode cX4_executeCommands 15 = .ok (.aload_n 0, 1) := by decide +kernel
theorem dX4_executeCommands_16 : decode cX4_executeCommands 16 = .ok (.getfield 41, 3) := by decide +kernel
theorem dX4_executeCommands_19 : decode cX4_executeCommands 19 = .ok (.iload_n 2, 1) := by decide +kernel
theorem dX4_executeCommands_20 : decode cX4_executeCommands 20 = .ok (.invokevirtual 225, 3) := by decide +kernel
theorem dX4_executeCommands_23 : decode cX4_executeCommands 23 = .ok (.ifCond .eq 16, 3) := by decide +kernel
theorem dX4_executeCommands_26 : decode cX4_executeCommands 26 = .ok (.aload_n 0, 1) := by decide +kernel
theorem dX4_executeCommands_27 : decode cX4_executeCommands 27 = .ok (.iload_n 2, 1) := by decide +kernel
theorem dX4_executeCommands_28 : decode cX4_executeCommands 28 = .ok (.invokevirtual 228, 3) := by decide +kernel
theorem dX4_executeCommands_31 : decode cX4_executeCommands 31 = .ok (.ifCond .ne 5, 3) := by decide +kernel
theorem dX4_executeCommands_34 : decode cX4_executeCommands 34 = .ok (.iload_n 1, 1) := by decide +kernel
theorem dX4_executeCommands_35 : decode cX4_executeCommands 35 = .ok (.ireturn, 1) := by decide +kernel
theorem dX4_executeCommands_36 : decode cX4_executeCommands 36 = .ok (.iinc 1 1, 3) := by decide +kernel
theorem dX4_executeCommands_39 : decode cX4_executeCommands 39 = .ok (.iinc 2 1, 3) := by decide +kernel
theorem dX4_executeCommands_42 : decode cX4_executeCommands 42 = .ok (.goto (-38), 3) := by decide +kernel
theorem dX4_executeCommands_45 : decode cX4_executeCommands 45 = .ok (.iload_n 1, 1) := by decide +kernel
theorem dX4_executeCommands_46 : decode cX4_executeCommands 46 = .ok (.ireturn, 1) := by decide +kernel
set_option maxRecDepth 20000 in
theorem ggX4_execute_X0_characterAt : GoodIn wsX4_execute wsX0_characterAt := goodIn_r _ [8, 9, 10, 77, 78] (by decide +kernel) (by decide +kernel)
set_option maxRecDepth 20000 in
theorem gX4_execute_X0_characterAt : GoodIn wsX4_execute (wsV RX4 231 RX0 yX0_characterAt wsX0_characterAt) := goodIn_app (goodIn_of _ (by decide +kernel)) ggX4_execute_X0_characterAt
set_option maxRecDepth 20000 in
theorem ggX4_execute_X0_numberAt : GoodIn wsX4_execute wsX0_numberAt := goodIn_r _ [14, 15, 16, 17, 18, 9, 10, 19, 20, 7, 21, 77, 78] (by decide +kernel) (by decide +kernel)
set_option maxRecDepth 20000 in
theorem gX4_execute_X0_numberAt : GoodIn wsX4_execute (wsV RX4 235 RX0 yX0_numberAt wsX0_numberAt) := goodIn_app (goodIn_of _ (by decide +kernel)) ggX4_execute_X0_numberAt
set_option maxRecDepth 20000 in
theorem ggX4_execute_X0_find : GoodIn wsX4_execute wsX0_find := goodIn_r _ [25, 15, 16, 17, 18, 9, 10, 77, 78] (by decide +kernel) (by decide +kernel)
set_option maxRecDepth 20000 in
theorem gX4_execute_X0_find : GoodIn wsX4_execute (wsV RX4 238 RX0 yX0_find wsX0_find) := goodIn_app (goodIn_of _ (by decide +kernel)) ggX4_execute_X0_find
set_option maxRecDepth 20000 in
theorem ggX4_execute_X4_executeGrey : GoodIn wsX4_execute wsX4_executeGrey := goodIn_r _ [30, 2, 31, 32, 29, 33, 34, 35, 36, 37, 38, 39, 40, 41, 42, 67, 68, 69, 70, 71, 72, 73, 74, 75, 76] (by decide +kernel) (by decide +kernel)
set_option maxRecDepth 20000 in
theorem gX4_execute_X4_executeGrey : GoodIn wsX4_execute (wsV RX4 242 RX4 yX4_executeGrey wsX4_executeGrey) := goodIn_app (goodIn_of _ (by decide +kernel)) ggX4_execute_X4_executeGrey
set_option maxRecDepth 20000 in
theorem ggX4_execute_X3_turnOver : GoodIn wsX4_execute wsX3_turnOver := goodIn_r _ [46, 42, 73, 74, 75, 76] (by decide +kernel) (by decide +kernel)
set_option maxRecDepth 20000 in
theorem gX4_execute_X3_turnOver : GoodIn wsX4_execute (wsV RX4 76 RX3 yX3_turnOver wsX3_turnOver) := goodIn_app (goodIn_of _ (by decide +kernel)) ggX4_execute_X3_turnOver
set_option maxRecDepth 20000 in
theorem ggX4_execute_X4_executeThaw : GoodIn wsX4_execute wsX4_executeThaw := goodIn_r _ [50, 2, 51, 52, 29, 53, 54, 55, 56, 40, 57, 42, 58, 16, 17, 18, 67, 68, 69, 70, 71, 72, 73, 74, 75, 76] (by decide +kernel) (by decide +kernel)
set_option maxRecDepth 20000 in
theorem gX4_execute_X4_executeThaw : GoodIn wsX4_execute (wsV RX4 246 RX4 yX4_executeThaw wsX4_executeThaw) := goodIn_app (goodIn_of _ (by decide +kernel)) ggX4_execute_X4_executeThaw
set_option maxRecDepth 20000 in
theorem ggX4_execute_X4_executeRule : GoodIn wsX4_execute wsX4_executeRule := goodIn_r _ [62, 2, 63, 64, 65, 29, 66, 67, 68, 69, 70, 71, 72, 73, 74, 75, 76] (by decide +kernel) (by decide +kernel)
set_option maxRecDepth 20000 in
theorem gX4_execute_X4_executeRule : GoodIn wsX4_execute (wsV RX4 249 RX4 yX4_executeRule wsX4_executeRule) := goodIn_app (goodIn_of _ (by decide +kernel)) ggX4_execute_X4_executeRule
theorem dX4_execute_0 : decode cX4_execute 0 = .ok (.aload_n 0, 1) := by decide +kernel
theorem dX4_execute_1 : decode cX4_execute 1 = .ok (.getfield 41, 3) := by decide +kernel
theorem dX4_execute_4 : decode cX4_execute 4 = .ok (.iload_n 1, 1) := by decide +kernel
theorem dX4_execute_5 : decode cX4_execute 5 = .ok (.invokevirtual 231, 3) := by decide +kernel
theorem dX4_execute_8 : decode cX4_execute 8 = .ok (.lookupswitch 149 #[(103, 52), (105, 86), (114, 134), (116, 95), (119, 110)], 52) := by decide +kernel
theorem dX4_execute_60 : decode cX4_execute 60 = .ok (.aload_n 0, 1) := by decide +kernel
theorem dX4_execute_61 : decode cX4_execute 61 = .ok (.aload_n 0, 1) := by decide +kernel
theorem dX4_execute_62 : decode cX4_execute 62 = .ok (.getfield 41, 3) := by decide +kernel
theorem dX4_execute_65 : decode cX4_execute 65 = .ok (.iload_n 1, 1) := by decide +kernel
theorem dX4_execute_66 : decode cX4_execute 66 = .ok (.iconst 1, 1) := by decide +kernel
theorem dX4_execute_67 : decode cX4_execute 67 = .ok (.iadd, 1) := by decide +kernel
theorem dX4_execute_68 : decode cX4_execute 68 = .ok (.invokevirtual 235, 3) := by decide +kernel
theorem dX4_execute_71 : decode cX4_execute 71 = .ok (.aload_n 0, 1) := by decide +kernel
theorem dX4_execute_72 : decode cX4_execute 72 = .ok (.getfield 41, 3) := by decide +kernel
theorem dX4_execute_75 : decode cX4_execute 75 = .ok (.aload_n 0, 1) := by decide +kernel
theorem dX4_execute_76 : decode cX4_execute 76 = .ok (.getfield 41, 3) := by decide +kernel
theorem dX4_execute_79 : decode cX4_execute 79 = .ok (.bipush 61, 2) := by decide +kernel
theorem dX4_execute_81 : decode cX4_execute 81 = .ok (.iload_n 1, 1) := by decide +kernel
theorem dX4_execute_82 : decode cX4_execute 82 = .ok (.invokevirtual 238, 3) := by decide +kernel
theorem dX4_execute_85 : decode cX4_execute 85 = .ok (.iconst 1, 1) := by decide +kernel
theorem dX4_execute_86 : decode cX4_execute 86 = .ok (.iadd, 1) := by decide +kernel
theorem dX4_execute_87 : decode cX4_execute 87 = .ok (.invokevirtual 235, 3) := by decide +kernel
theorem dX4_execute_90 : decode cX4_execute 90 = .ok (.invokevirtual 242, 3) := by decide +kernel
theorem dX4_execute_93 : decode cX4_execute 93 = .ok (.ireturn, 1) := by decide +kernel
theorem dX4_execute_94 : decode cX4_execute 94 = .ok (.aload_n 0, 1) := by decide +kernel
theorem dX4_execute_95 : decode cX4_execute 95 = .ok (.getfield 10, 3) := by decide +kernel
theorem dX4_execute_98 : decode cX4_execute 98 = .ok (.invokevirtual 76, 3) := by decide +kernel
theorem dX4_execute_101 : decode cX4_execute 101 = .ok (.iconst 1, 1) := by decide +kernel
theorem dX4_execute_102 : decode cX4_execute 102 = .ok (.ireturn, 1) := by decide +kernel
theorem dX4_execute_103 : decode cX4_execute 103 = .ok (.aload_n 0, 1) := by decide +kernel
theorem dX4_execute_104 : decode cX4_execute 104 = .ok (.aload_n 0, 1) := by decide +kernel
theorem dX4_execute_105 : decode cX4_execute 105 = .ok (.getfield 41, 3) := by decide +kernel
theorem dX4_execute_108 : decode cX4_execute 108 = .ok (.iload_n 1, 1) := by decide +kernel
theorem dX4_execute_109 : decode cX4_execute 109 = .ok (.iconst 1, 1) := by decide +kernel
theorem dX4_execute_110 : decode cX4_execute 110 = .ok (.iadd, 1) := by decide +kernel
theorem dX4_execute_111 : decode cX4_execute 111 = .ok (.invokevirtual 235, 3) := by decide +kernel
theorem dX4_execute_114 : decode cX4_execute 114 = .ok (.invokevirtual 246, 3) := by decide +kernel
theorem dX4_execute_117 : decode cX4_execute 117 = .ok (.ireturn, 1) := by decide +kernel
theorem dX4_execute_118 : decode cX4_execute 118 = .ok (.aload_n 0, 1) := by decide +kernel
theorem dX4_execute_119 : decode cX4_execute 119 = .ok (.getfield 10, 3) := by decide +kernel
theorem dX4_execute_122 : decode cX4_execute 122 = .ok (.aload_n 0, 1) := by decide +kernel
theorem dX4_execute_123 : decode cX4_execute 123 = .ok (.getfield 10, 3) := by decide +kernel
theorem dX4_execute_126 : decode cX4_execute 126 = .ok (.getfield 102, 3) := by decide +kernel
theorem dX4_execute_129 : decode cX4_execute 129 = .ok (.ifCond .ne 7, 3) := by decide +kernel
theorem dX4_execute_132 : decode cX4_execute 132 = .ok (.iconst 1, 1) := by decide +kernel
theorem dX4_execute_133 : decode cX4_execute 133 = .ok (.goto 4, 3) := by decide +kernel
theorem dX4_execute_136 : decode cX4_execute 136 = .ok (.iconst 0, 1) := by decide +kernel
theorem dX4_execute_137 : decode cX4_execute 137 = .ok (.putfield 102, 3) := by decide +kernel
theorem dX4_execute_140 : decode cX4_execute 140 = .ok (.iconst 1, 1) := by decide +kernel
theorem dX4_execute_141 : decode cX4_execute 141 = .ok (.ireturn, 1) := by decide +kernel
theorem dX4_execute_142 : decode cX4_execute 142 = .ok (.aload_n 0, 1) := by decide +kernel
theorem dX4_execute_143 : decode cX4_execute 143 = .ok (.aload_n 0, 1) := by decide +kernel
theorem dX4_execute_144 : decode cX4_execute 144 = .ok (.getfield 41, 3) := by decide +kernel
theorem dX4_execute_147 : decode cX4_execute 147 = .ok (.iload_n 1, 1) := by decide +kernel
theorem dX4_execute_148 : decode cX4_execute 148 = .ok (.iconst 1, 1) := by decide +kernel
theorem dX4_execute_149 : decode cX4_execute 149 = .ok (.iadd, 1) := by decide +kernel
theorem dX4_execute_150 : decode cX4_execute 150 = .ok (.invokevirtual 235, 3) := by decide +kernel
theorem dX4_execute_153 : decode cX4_execute 153 = .ok (.invokevirtual 249, 3) := by decide +kernel
theorem dX4_execute_156 : decode cX4_execute 156 = .ok (.ireturn, 1) := by decide +kernel
theorem dX4_execute_157 : decode cX4_execute 157 = .ok (.iconst 0, 1) := by decide +kernel
theorem dX4_execute_158 : decode cX4_execute 158 = .ok (.ireturn, 1) := by decide +kernel
set_option maxRecDepth 20000 in
theorem ggX4_executeGrey_X4_isCell : GoodIn wsX4_executeGrey wsX4_isCell := goodIn_r _ [5] (by decide +kernel) (by decide +kernel)
set_option maxRecDepth 20000 in
theorem gX4_executeGrey_X4_isCell : GoodIn wsX4_executeGrey (va_wsS RX4 201 yX4_isCell wsX4_isCell) := goodIn_app (goodIn_of _ (by decide +kernel)) ggX4_executeGrey_X4_isCell
set_option maxRecDepth 20000 in
theorem ggX4_executeGrey_X4_isGrey : GoodIn wsX4_executeGrey wsX4_isGrey := goodIn_r _ [8] (by decide +kernel) (by decide +kernel)
set_option maxRecDepth 20000 in
theorem gX4_executeGrey_X4_isGrey : GoodIn wsX4_executeGrey (va_wsS RX4 49 yX4_isGrey wsX4_isGrey) := goodIn_app (goodIn_of _ (by decide +kernel)) ggX4_executeGrey_X4_isGrey
set_option maxRecDepth 20000 in
theorem ggX4_executeGrey_X3_putGrey : GoodIn wsX4_executeGrey wsX3_putGrey := goodIn_r _ [13, 14, 21, 22, 23, 24] (by decide +kernel) (by decide +kernel)
set_option maxRecDepth 20000 in
theorem gX4_executeGrey_X3_putGrey : GoodIn wsX4_executeGrey (wsV RX4 61 RX3 yX3_putGrey wsX3_putGrey) := goodIn_app (goodIn_of _ (by decide +kernel)) ggX4_executeGrey_X3_putGrey
theorem dX4_executeGrey_0 : decode cX4_executeGrey 0 = .ok (.iload_n 1, 1) := by decide +kernel
theorem dX4_executeGrey_1 : decode cX4_executeGrey 1 = .ok (.invokestatic 201, 3) := by decide +kernel
theorem dX4_executeGrey_4 : decode cX4_executeGrey 4 = .ok (.ifCond .eq 10, 3) := by decide +kernel
theorem dX4_executeGrey_7 : decode cX4_executeGrey 7 = .ok (.iload_n 2, 1) := by decide +kernel
theorem dX4_executeGrey_8 : decode cX4_executeGrey 8 = .ok (.invokestatic 49, 3) := by decide +kernel
theorem dX4_executeGrey_11 : decode cX4_executeGrey 11 = .ok (.ifCond .ne 5, 3) := by decide +kernel
theorem dX4_executeGrey_14 : decode cX4_executeGrey 14 = .ok (.iconst 0, 1) := by decide +kernel
theorem dX4_executeGrey_15 : decode cX4_executeGrey 15 = .ok (.ireturn, 1) := by decide +kernel
theorem dX4_executeGrey_16 : decode cX4_executeGrey 16 = .ok (.aload_n 0, 1) := by decide +kernel
theorem dX4_executeGrey_17 : decode cX4_executeGrey 17 = .ok (.getfield 10, 3) := by decide +kernel
theorem dX4_executeGrey_20 : decode cX4_executeGrey 20 = .ok (.iload_n 1, 1) := by decide +kernel
theorem dX4_executeGrey_21 : decode cX4_executeGrey 21 = .ok (.iload_n 2, 1) := by decide +kernel
theorem dX4_executeGrey_22 : decode cX4_executeGrey 22 = .ok (.invokevirtual 61, 3) := by decide +kernel
theorem dX4_executeGrey_25 : decode cX4_executeGrey 25 = .ok (.pop, 1) := by decide +kernel
theorem dX4_executeGrey_26 : decode cX4_executeGrey 26 = .ok (.iconst 1, 1) := by decide +kernel
theorem dX4_executeGrey_27 : decode cX4_executeGrey 27 = .ok (.ireturn, 1) := by decide +kernel
set_option maxRecDepth 20000 in
theorem ggX4_executeThaw_X4_isAmount : GoodIn wsX4_executeThaw wsX4_isAmount := goodIn_r _ [5] (by decide +kernel) (by decide +kernel)
set_option maxRecDepth 20000 in
theorem gX4_executeThaw_X4_isAmount : GoodIn wsX4_executeThaw (va_wsS RX4 83 yX4_isAmount wsX4_isAmount) := goodIn_app (goodIn_of _ (by decide +kernel)) ggX4_executeThaw_X4_isAmount
set_option maxRecDepth 20000 in
theorem ggX4_executeThaw_X3_lessen : GoodIn wsX4_executeThaw wsX3_lessen := goodIn_r _ [10, 11, 12, 13, 14, 15, 22, 23, 24, 25] (by decide +kernel) (by decide +kernel)
set_option maxRecDepth 20000 in
theorem gX4_executeThaw_X3_lessen : GoodIn wsX4_executeThaw (wsV RX4 86 RX3 yX3_lessen wsX3_lessen) := goodIn_app (goodIn_of _ (by decide +kernel)) ggX4_executeThaw_X3_lessen
theorem dX4_executeThaw_0 : decode cX4_executeThaw 0 = .ok (.iload_n 1, 1) := by decide +kernel
theorem dX4_executeThaw_1 : decode cX4_executeThaw 1 = .ok (.invokestatic 83, 3) := by decide +kernel
theorem dX4_executeThaw_4 : decode cX4_executeThaw 4 = .ok (.ifCond .ne 5, 3) := by decide +kernel
theorem dX4_executeThaw_7 : decode cX4_executeThaw 7 = .ok (.iconst 0, 1) := by decide +kernel
theorem dX4_executeThaw_8 : decode cX4_executeThaw 8 = .ok (.ireturn, 1) := by decide +kernel
theorem dX4_executeThaw_9 : decode cX4_executeThaw 9 = .ok (.aload_n 0, 1) := by decide +kernel
theorem dX4_executeThaw_10 : decode cX4_executeThaw 10 = .ok (.getfield 10, 3) := by decide +kernel
theorem dX4_executeThaw_13 : decode cX4_executeThaw 13 = .ok (.iload_n 1, 1) := by decide +kernel
theorem dX4_executeThaw_14 : decode cX4_executeThaw 14 = .ok (.invokevirtual 86, 3) := by decide +kernel
theorem dX4_executeThaw_17 : decode cX4_executeThaw 17 = .ok (.iconst 1, 1) := by decide +kernel
theorem dX4_executeThaw_18 : decode cX4_executeThaw 18 = .ok (.ireturn, 1) := by decide +kernel
set_option maxRecDepth 20000 in
theorem ggX4_executeRule_X4_isRule : GoodIn wsX4_executeRule wsX4_isRule := goodIn_r _ [6] (by decide +kernel) (by decide +kernel)
set_option maxRecDepth 20000 in
theorem gX4_executeRule_X4_isRule : GoodIn wsX4_executeRule (va_wsS RX4 92 yX4_isRule wsX4_isRule) := goodIn_app (goodIn_of _ (by decide +kernel)) ggX4_executeRule_X4_isRule
theorem dX4_executeRule_0 : decode cX4_executeRule 0 = .ok (.iload_n 1, 1) := by decide +kernel
theorem dX4_executeRule_1 : decode cX4_executeRule 1 = .ok (.invokestatic 92, 3) := by decide +kernel
theorem dX4_executeRule_4 : decode cX4_executeRule 4 = .ok (.ifCond .ne 5, 3) := by decide +kernel
theorem dX4_executeRule_7 : decode cX4_executeRule 7 = .ok (.iconst 0, 1) := by decide +kernel
theorem dX4_executeRule_8 : decode cX4_executeRule 8 = .ok (.ireturn, 1) := by decide +kernel
theorem dX4_executeRule_9 : decode cX4_executeRule 9 = .ok (.aload_n 0, 1) := by decide +kernel
theorem dX4_executeRule_10 : decode cX4_executeRule 10 = .ok (.getfield 10, 3) := by decide +kernel
theorem dX4_executeRule_13 : decode cX4_executeRule 13 = .ok (.iload_n 1, 1) := by decide +kernel
theorem dX4_executeRule_14 : decode cX4_executeRule 14 = .ok (.putfield 95, 3) := by decide +kernel
theorem dX4_executeRule_17 : decode cX4_executeRule 17 = .ok (.iconst 1, 1) := by decide +kernel
theorem dX4_executeRule_18 : decode cX4_executeRule 18 = .ok (.ireturn, 1) := by decide +kernel
set_option maxRecDepth 20000 in
theorem ggX4_cellTowards_X4_cellIn : GoodIn wsX4_cellTowards wsX4_cellIn := goodIn_r _ [6] (by decide +kernel) (by decide +kernel)
set_option maxRecDepth 20000 in
theorem gX4_cellTowards_X4_cellIn : GoodIn wsX4_cellTowards (va_wsS RX4 258 yX4_cellIn wsX4_cellIn) := goodIn_app (goodIn_of _ (by decide +kernel)) ggX4_cellTowards_X4_cellIn
theorem dX4_cellTowards_0 : decode cX4_cellTowards 0 = .ok (.iload_n 0, 1) := by decide +kernel
theorem dX4_cellTowards_1 : decode cX4_cellTowards 1 = .ok (.bipush 8, 2) := by decide +kernel
theorem dX4_cellTowards_3 : decode cX4_cellTowards 3 = .ok (.idiv, 1) := by decide +kernel
theorem dX4_cellTowards_4 : decode cX4_cellTowards 4 = .ok (.getstatic 252, 3) := by decide +kernel
theorem dX4_cellTowards_7 : decode cX4_cellTowards 7 = .ok (.iload_n 1, 1) := by decide +kernel
theorem dX4_cellTowards_8 : decode cX4_cellTowards 8 = .ok (.iaload, 1) := by decide +kernel
theorem dX4_cellTowards_9 : decode cX4_cellTowards 9 = .ok (.iadd, 1) := by decide +kernel
theorem dX4_cellTowards_10 : decode cX4_cellTowards 10 = .ok (.iload_n 0, 1) := by decide +kernel
theorem dX4_cellTowards_11 : decode cX4_cellTowards 11 = .ok (.bipush 8, 2) := by decide +kernel
theorem dX4_cellTowards_13 : decode cX4_cellTowards 13 = .ok (.irem, 1) := by decide +kernel
theorem dX4_cellTowards_14 : decode cX4_cellTowards 14 = .ok (.getstatic 255, 3) := by decide +kernel
theorem dX4_cellTowards_17 : decode cX4_cellTowards 17 = .ok (.iload_n 1, 1) := by decide +kernel
theorem dX4_cellTowards_18 : decode cX4_cellTowards 18 = .ok (.iaload, 1) := by decide +kernel
theorem dX4_cellTowards_19 : decode cX4_cellTowards 19 = .ok (.iload_n 2, 1) := by decide +kernel
theorem dX4_cellTowards_20 : decode cX4_cellTowards 20 = .ok (.imul, 1) := by decide +kernel
theorem dX4_cellTowards_21 : decode cX4_cellTowards 21 = .ok (.iadd, 1) := by decide +kernel
theorem dX4_cellTowards_22 : decode cX4_cellTowards 22 = .ok (.invokestatic 258, 3) := by decide +kernel
theorem dX4_cellTowards_25 : decode cX4_cellTowards 25 = .ok (.ireturn, 1) := by decide +kernel
theorem dX4_cellIn_0 : decode cX4_cellIn 0 = .ok (.iload_n 0, 1) := by decide +kernel
theorem dX4_cellIn_1 : decode cX4_cellIn 1 = .ok (.ifCond .lt 23, 3) := by decide +kernel
theorem dX4_cellIn_4 : decode cX4_cellIn 4 = .ok (.iload_n 0, 1) := by decide +kernel
theorem dX4_cellIn_5 : decode cX4_cellIn 5 = .ok (.bipush 8, 2) := by decide +kernel
theorem dX4_cellIn_7 : decode cX4_cellIn 7 = .ok (.if_icmp .ge 17, 3) := by decide +kernel
theorem dX4_cellIn_10 : decode cX4_cellIn 10 = .ok (.iload_n 1, 1) := by decide +kernel
theorem dX4_cellIn_11 : decode cX4_cellIn 11 = .ok (.ifCond .lt 13, 3) := by decide +kernel
theorem dX4_cellIn_14 : decode cX4_cellIn 14 = .ok (.iload_n 1, 1) := by decide +kernel
theorem dX4_cellIn_15 : decode cX4_cellIn 15 = .ok (.bipush 8, 2) := by decide +kernel
theorem dX4_cellIn_17 : decode cX4_cellIn 17 = .ok (.if_icmp .ge 7, 3) := by decide +kernel
theorem dX4_cellIn_20 : decode cX4_cellIn 20 = .ok (.iconst 1, 1) := by decide +kernel
theorem dX4_cellIn_21 : decode cX4_cellIn 21 = .ok (.goto 4, 3) := by decide +kernel
theorem dX4_cellIn_24 : decode cX4_cellIn 24 = .ok (.iconst 0, 1) := by decide +kernel
theorem dX4_cellIn_25 : decode cX4_cellIn 25 = .ok (.istore_n 2, 1) := by decide +kernel
theorem dX4_cellIn_26 : decode cX4_cellIn 26 = .ok (.iload_n 2, 1) := by decide +kernel
theorem dX4_cellIn_27 : decode cX4_cellIn 27 = .ok (.ifCond .eq 12, 3) := by decide +kernel
theorem dX4_cellIn_30 : decode cX4_cellIn 30 = .ok (.bipush 8, 2) := by decide +kernel
theorem dX4_cellIn_32 : decode cX4_cellIn 32 = .ok (.iload_n 0, 1) := by decide +kernel
theorem dX4_cellIn_33 : decode cX4_cellIn 33 = .ok (.imul, 1) := by decide +kernel
theorem dX4_cellIn_34 : decode cX4_cellIn 34 = .ok (.iload_n 1, 1) := by decide +kernel
theorem dX4_cellIn_35 : decode cX4_cellIn 35 = .ok (.iadd, 1) := by decide +kernel
theorem dX4_cellIn_36 : decode cX4_cellIn 36 = .ok (.goto 4, 3) := by decide +kernel
theorem dX4_cellIn_39 : decode cX4_cellIn 39 = .ok (.iconst (-1), 1) := by decide +kernel
theorem dX4_cellIn_40 : decode cX4_cellIn 40 = .ok (.ireturn, 1) := by decide +kernel
theorem dX4_shareOf_0 : decode cX4_shareOf 0 = .ok (.getstatic 143, 3) := by decide +kernel
theorem dX4_shareOf_3 : decode cX4_shareOf 3 = .ok (.iload_n 1, 1) := by decide +kernel
theorem dX4_shareOf_4 : decode cX4_shareOf 4 = .ok (.iconst 1, 1) := by decide +kernel
theorem dX4_shareOf_5 : decode cX4_shareOf 5 = .ok (.iadd, 1) := by decide +kernel
theorem dX4_shareOf_6 : decode cX4_shareOf 6 = .ok (.iaload, 1) := by decide +kernel
theorem dX4_shareOf_7 : decode cX4_shareOf 7 = .ok (.iconst 1, 1) := by decide +kernel
theorem dX4_shareOf_8 : decode cX4_shareOf 8 = .ok (.isub, 1) := by decide +kernel
theorem dX4_shareOf_9 : decode cX4_shareOf 9 = .ok (.istore_n 3, 1) := by decide +kernel
theorem dX4_shareOf_10 : decode cX4_shareOf 10 = .ok (.iload_n 2, 1) := by decide +kernel
theorem dX4_shareOf_11 : decode cX4_shareOf 11 = .ok (.iload_n 3, 1) := by decide +kernel
theorem dX4_shareOf_12 : decode cX4_shareOf 12 = .ok (.if_icmp .ge 14, 3) := by decide +kernel
theorem dX4_shareOf_15 : decode cX4_shareOf 15 = .ok (.iload_n 0, 1) := by decide +kernel
theorem dX4_shareOf_16 : decode cX4_shareOf 16 = .ok (.getstatic 261, 3) := by decide +kernel
theorem dX4_shareOf_19 : decode cX4_shareOf 19 = .ok (.iload_n 2, 1) := by decide +kernel
theorem dX4_shareOf_20 : decode cX4_shareOf 20 = .ok (.iaload, 1) := by decide +kernel
theorem dX4_shareOf_21 : decode cX4_shareOf 21 = .ok (.imul, 1) := by decide +kernel
theorem dX4_shareOf_22 : decode cX4_shareOf 22 = .ok (.bipush 16, 2) := by decide +kernel
theorem dX4_shareOf_24 : decode cX4_shareOf 24 = .ok (.idiv, 1) := by decide +kernel
theorem dX4_shareOf_25 : decode cX4_shareOf 25 = .ok (.ireturn, 1) := by decide +kernel
theorem dX4_shareOf_26 : decode cX4_shareOf 26 = .ok (.iload_n 0, 1) := by decide +kernel
theorem dX4_shareOf_27 : decode cX4_shareOf 27 = .ok (.istore 4, 2) := by decide +kernel
theorem dX4_shareOf_29 : decode cX4_shareOf 29 = .ok (.getstatic 143, 3) := by decide +kernel
theorem dX4_shareOf_32 : decode cX4_shareOf 32 = .ok (.iload_n 1, 1) := by decide +kernel
theorem dX4_shareOf_33 : decode cX4_shareOf 33 = .ok (.iaload, 1) := by decide +kernel
theorem dX4_shareOf_34 : decode cX4_shareOf 34 = .ok (.istore 5, 2) := by decide +kernel
theorem dX4_shareOf_36 : decode cX4_shareOf 36 = .ok (.iload 5, 2) := by decide +kernel
theorem dX4_shareOf_38 : decode cX4_shareOf 38 = .ok (.iload_n 3, 1) := by decide +kernel
theorem dX4_shareOf_39 : decode cX4_shareOf 39 = .ok (.if_icmp .ge 25, 3) := by decide +kernel
theorem dX4_shareOf_42 : decode cX4_shareOf 42 = .ok (.iload 4, 2) := by decide +kernel
theorem dX4_shareOf_44 : decode cX4_shareOf 44 = .ok (.iload_n 0, 1) := by decide +kernel
theorem dX4_shareOf_45 : decode cX4_shareOf 45 = .ok (.getstatic 261, 3) := by decide +kernel
theorem dX4_shareOf_48 : decode cX4_shareOf 48 = .ok (.iload 5, 2) := by decide +kernel
theorem dX4_shareOf_50 : decode cX4_shareOf 50 = .ok (.iaload, 1) := by decide +kernel
theorem dX4_shareOf_51 : decode cX4_shareOf 51 = .ok (.imul, 1) := by decide +kernel
theorem dX4_shareOf_52 : decode cX4_shareOf 52 = .ok (.bipush 16, 2) := by decide +kernel
theorem dX4_shareOf_54 : decode cX4_shareOf 54 = .ok (.idiv, 1) := by decide +kernel
theorem dX4_shareOf_55 : decode cX4_shareOf 55 = .ok (.isub, 1) := by decide +kernel
theorem dX4_shareOf_56 : decode cX4_shareOf 56 = .ok (.istore 4, 2) := by decide +kernel
theorem dX4_shareOf_58 : decode cX4_shareOf 58 = .ok (.iinc 5 1, 3) := by decide +kernel
theorem dX4_shareOf_61 : decode cX4_shareOf 61 = .ok (.goto (-25), 3) := by decide +kernel
theorem dX4_shareOf_64 : decode cX4_shareOf 64 = .ok (.iload 4, 2) := by decide +kernel
theorem dX4_shareOf_66 : decode cX4_shareOf 66 = .ok (.ireturn, 1) := by decide +kernel
theorem dJ13_bitCount_95d88_0 : decode cJ13_bitCount_95d88 0 = .ok (.lload_n 0, 1) := by decide +kernel
theorem dJ13_bitCount_95d88_1 : decode cJ13_bitCount_95d88 1 = .ok (.lload_n 0, 1) := by decide +kernel
theorem dJ13_bitCount_95d88_2 : decode cJ13_bitCount_95d88 2 = .ok (.iconst 1, 1) := by decide +kernel
theorem dJ13_bitCount_95d88_3 : decode cJ13_bitCount_95d88 3 = .ok (.lushr, 1) := by decide +kernel
theorem dJ13_bitCount_95d88_4 : decode cJ13_bitCount_95d88 4 = .ok (.ldc2_w 314, 3) := by decide +kernel
theorem dJ13_bitCount_95d88_7 : decode cJ13_bitCount_95d88 7 = .ok (.land, 1) := by decide +kernel
theorem dJ13_bitCount_95d88_8 : decode cJ13_bitCount_95d88 8 = .ok (.lsub, 1) := by decide +kernel
theorem dJ13_bitCount_95d88_9 : decode cJ13_bitCount_95d88 9 = .ok (.lstore_n 0, 1) := by decide +kernel
theorem dJ13_bitCount_95d88_10 : decode cJ13_bitCount_95d88 10 = .ok (.lload_n 0, 1) := by decide +kernel
theorem dJ13_bitCount_95d88_11 : decode cJ13_bitCount_95d88 11 = .ok (.ldc2_w 316, 3) := by decide +kernel
theorem dJ13_bitCount_95d88_14 : decode cJ13_bitCount_95d88 14 = .ok (.land, 1) := by decide +kernel
theorem dJ13_bitCount_95d88_15 : decode cJ13_bitCount_95d88 15 = .ok (.lload_n 0, 1) := by decide +kernel
theorem dJ13_bitCount_95d88_16 : decode cJ13_bitCount_95d88 16 = .ok (.iconst 2, 1) := by decide +kernel
theorem dJ13_bitCount_95d88_17 : decode cJ13_bitCount_95d88 17 = .ok (.lushr, 1) := by decide +kernel
theorem dJ13_bitCount_95d88_18 : decode cJ13_bitCount_95d88 18 = .ok (.ldc2_w 316, 3) := by decide +kernel
theorem dJ13_bitCount_95d88_21 : decode cJ13_bitCount_95d88 21 = .ok (.land, 1) := by decide +kernel
theorem dJ13_bitCount_95d88_22 : decode cJ13_bitCount_95d88 22 = .ok (.ladd, 1) := by decide +kernel
theorem dJ13_bitCount_95d88_23 : decode cJ13_bitCount_95d88 23 = .ok (.lstore_n 0, 1) := by decide +kernel
theorem dJ13_bitCount_95d88_24 : decode cJ13_bitCount_95d88 24 = .ok (.lload_n 0, 1) := by decide +kernel
theorem dJ13_bitCount_95d88_25 : decode cJ13_bitCount_95d88 25 = .ok (.lload_n 0, 1) := by decide +kernel
theorem dJ13_bitCount_95d88_26 : decode cJ13_bitCount_95d88 26 = .ok (.iconst 4, 1) := by decide +kernel
theorem dJ13_bitCount_95d88_27 : decode cJ13_bitCount_95d88 27 = .ok (.lushr, 1) := by decide +kernel
theorem dJ13_bitCount_95d88_28 : decode cJ13_bitCount_95d88 28 = .ok (.ladd, 1) := by decide +kernel
theorem dJ13_bitCount_95d88_29 : decode cJ13_bitCount_95d88 29 = .ok (.ldc2_w 318, 3) := by decide +kernel
theorem dJ13_bitCount_95d88_32 : decode cJ13_bitCount_95d88 32 = .ok (.land, 1) := by decide +kernel
theorem dJ13_bitCount_95d88_33 : decode cJ13_bitCount_95d88 33 = .ok (.lstore_n 0, 1) := by decide +kernel
theorem dJ13_bitCount_95d88_34 : decode cJ13_bitCount_95d88 34 = .ok (.lload_n 0, 1) := by decide +kernel
theorem dJ13_bitCount_95d88_35 : decode cJ13_bitCount_95d88 35 = .ok (.lload_n 0, 1) := by decide +kernel
theorem dJ13_bitCount_95d88_36 : decode cJ13_bitCount_95d88 36 = .ok (.bipush 8, 2) := by decide +kernel
theorem dJ13_bitCount_95d88_38 : decode cJ13_bitCount_95d88 38 = .ok (.lushr, 1) := by decide +kernel
theorem dJ13_bitCount_95d88_39 : decode cJ13_bitCount_95d88 39 = .ok (.ladd, 1) := by decide +kernel
theorem dJ13_bitCount_95d88_40 : decode cJ13_bitCount_95d88 40 = .ok (.lstore_n 0, 1) := by decide +kernel
theorem dJ13_bitCount_95d88_41 : decode cJ13_bitCount_95d88 41 = .ok (.lload_n 0, 1) := by decide +kernel
theorem dJ13_bitCount_95d88_42 : decode cJ13_bitCount_95d88 42 = .ok (.lload_n 0, 1) := by decide +kernel
theorem dJ13_bitCount_95d88_43 : decode cJ13_bitCount_95d88 43 = .ok (.bipush 16, 2) := by decide +kernel
theorem dJ13_bitCount_95d88_45 : decode cJ13_bitCount_95d88 45 = .ok (.lushr, 1) := by decide +kernel
theorem dJ13_bitCount_95d88_46 : decode cJ13_bitCount_95d88 46 = .ok (.ladd, 1) := by decide +kernel
theorem dJ13_bitCount_95d88_47 : decode cJ13_bitCount_95d88 47 = .ok (.lstore_n 0, 1) := by decide +kernel
theorem dJ13_bitCount_95d88_48 : decode cJ13_bitCount_95d88 48 = .ok (.lload_n 0, 1) := by decide +kernel
theorem dJ13_bitCount_95d88_49 : decode cJ13_bitCount_95d88 49 = .ok (.lload_n 0, 1) := by decide +kernel
theorem dJ13_bitCount_95d88_50 : decode cJ13_bitCount_95d88 50 = .ok (.bipush 32, 2) := by decide +kernel
theorem dJ13_bitCount_95d88_52 : decode cJ13_bitCount_95d88 52 = .ok (.lushr, 1) := by decide +kernel
theorem dJ13_bitCount_95d88_53 : decode cJ13_bitCount_95d88 53 = .ok (.ladd, 1) := by decide +kernel
theorem dJ13_bitCount_95d88_54 : decode cJ13_bitCount_95d88 54 = .ok (.lstore_n 0, 1) := by decide +kernel
theorem dJ13_bitCount_95d88_55 : decode cJ13_bitCount_95d88 55 = .ok (.lload_n 0, 1) := by decide +kernel
theorem dJ13_bitCount_95d88_56 : decode cJ13_bitCount_95d88 56 = .ok (.l2i, 1) := by decide +kernel
theorem dJ13_bitCount_95d88_57 : decode cJ13_bitCount_95d88 57 = .ok (.bipush 127, 2) := by decide +kernel
theorem dJ13_bitCount_95d88_59 : decode cJ13_bitCount_95d88 59 = .ok (.iand, 1) := by decide +kernel
theorem dJ13_bitCount_95d88_60 : decode cJ13_bitCount_95d88 60 = .ok (.ireturn, 1) := by decide +kernel
theorem dJ9_abs_0f7a4_0 : decode cJ9_abs_0f7a4 0 = .ok (.iload_n 0, 1) := by decide +kernel
theorem dJ9_abs_0f7a4_1 : decode cJ9_abs_0f7a4 1 = .ok (.ifCond .ge 8, 3) := by decide +kernel
theorem dJ9_abs_0f7a4_4 : decode cJ9_abs_0f7a4 4 = .ok (.iload_n 0, 1) := by decide +kernel
theorem dJ9_abs_0f7a4_5 : decode cJ9_abs_0f7a4 5 = .ok (.ineg, 1) := by decide +kernel
theorem dJ9_abs_0f7a4_6 : decode cJ9_abs_0f7a4 6 = .ok (.goto 4, 3) := by decide +kernel
theorem dJ9_abs_0f7a4_9 : decode cJ9_abs_0f7a4 9 = .ok (.iload_n 0, 1) := by decide +kernel
theorem dJ9_abs_0f7a4_10 : decode cJ9_abs_0f7a4 10 = .ok (.ireturn, 1) := by decide +kernel
theorem dJ9_max_7cf53_0 : decode cJ9_max_7cf53 0 = .ok (.iload_n 0, 1) := by decide +kernel
theorem dJ9_max_7cf53_1 : decode cJ9_max_7cf53 1 = .ok (.iload_n 1, 1) := by decide +kernel
theorem dJ9_max_7cf53_2 : decode cJ9_max_7cf53 2 = .ok (.if_icmp .lt 7, 3) := by decide +kernel
theorem dJ9_max_7cf53_5 : decode cJ9_max_7cf53 5 = .ok (.iload_n 0, 1) := by decide +kernel
theorem dJ9_max_7cf53_6 : decode cJ9_max_7cf53 6 = .ok (.goto 4, 3) := by decide +kernel
theorem dJ9_max_7cf53_9 : decode cJ9_max_7cf53 9 = .ok (.iload_n 1, 1) := by decide +kernel
theorem dJ9_max_7cf53_10 : decode cJ9_max_7cf53 10 = .ok (.ireturn, 1) := by decide +kernel
theorem dJ9_min_7cf53_0 : decode cJ9_min_7cf53 0 = .ok (.iload_n 0, 1) := by decide +kernel
theorem dJ9_min_7cf53_1 : decode cJ9_min_7cf53 1 = .ok (.iload_n 1, 1) := by decide +kernel
theorem dJ9_min_7cf53_2 : decode cJ9_min_7cf53 2 = .ok (.if_icmp .gt 7, 3) := by decide +kernel
theorem dJ9_min_7cf53_5 : decode cJ9_min_7cf53 5 = .ok (.iload_n 0, 1) := by decide +kernel
theorem dJ9_min_7cf53_6 : decode cJ9_min_7cf53 6 = .ok (.goto 4, 3) := by decide +kernel
theorem dJ9_min_7cf53_9 : decode cJ9_min_7cf53 9 = .ok (.iload_n 1, 1) := by decide +kernel
theorem dJ9_min_7cf53_10 : decode cJ9_min_7cf53 10 = .ok (.ireturn, 1) := by decide +kernel
