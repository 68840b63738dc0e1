theorem dX9_linesOf_15 : decode cX9_linesOf 15 = .ok (.iaload, 1) := by decide +kernel
theorem dX9_linesOf_16 : decode cX9_linesOf 16 = .ok (.iconst 4, 1) := by decide +kernel
theorem dX9_linesOf_17 : decode cX9_linesOf 17 = .ok (.if_icmp .ne 16, 3) := by decide +kernel
theorem dX9_linesOf_20 : decode cX9_linesOf 20 = .ok (.aload_n 0, 1) := by decide +kernel
theorem dX9_linesOf_21 : decode cX9_linesOf 21 = .ok (.getfield 29, 3) := by decide +kernel
theorem dX9_linesOf_24 : decode cX9_linesOf 24 = .ok (.iload_n 3, 1) := by decide +kernel
theorem dX9_linesOf_25 : decode cX9_linesOf 25 = .ok (.iaload, 1) := by decide +kernel
theorem dX9_linesOf_26 : decode cX9_linesOf 26 = .ok (.iload_n 1, 1) := by decide +kernel
theorem dX9_linesOf_27 : decode cX9_linesOf 27 = .ok (.if_icmp .ne 6, 3) := by decide +kernel
theorem dX9_linesOf_30 : decode cX9_linesOf 30 = .ok (.iinc 2 1, 3) := by decide +kernel
theorem dX9_linesOf_33 : decode cX9_linesOf 33 = .ok (.iinc 3 1, 3) := by decide +kernel
theorem dX9_linesOf_36 : decode cX9_linesOf 36 = .ok (.goto (-32), 3) := by decide +kernel
theorem dX9_linesOf_39 : decode cX9_linesOf 39 = .ok (.iload_n 2, 1) := by decide +kernel
theorem dX9_linesOf_40 : decode cX9_linesOf 40 = .ok (.ireturn, 1) := by decide +kernel
set_option maxRecDepth 20000 in
theorem ggX9_lend_X9_say : GoodIn wsX9_lend wsX9_say := goodIn_r _ [15, 16, 17, 4, 18, 19, 20, 21, 22, 23, 24, 25, 26, 27, 28, 29, 30, 31, 32, 33, 34, 35, 36, 37, 38, 39, 40, 41, 42, 43, 44, 45, 46, 47, 48, 49, 50, 51, 52, 53, 54, 55, 56] (by decide +kernel) (by decide +kernel)
set_option maxRecDepth 20000 in
theorem gX9_lend_X9_say : GoodIn wsX9_lend (wsV RX9 121 RX9 yX9_say wsX9_say) := goodIn_app (goodIn_of _ (by decide +kernel)) ggX9_lend_X9_say
theorem dX9_lend_0 : decode cX9_lend 0 = .ok (.aload_n 0, 1) := by decide +kernel
theorem dX9_lend_1 : decode cX9_lend 1 = .ok (.getfield 22, 3) := by decide +kernel
theorem dX9_lend_4 : decode cX9_lend 4 = .ok (.iload_n 1, 1) := by decide +kernel
theorem dX9_lend_5 : decode cX9_lend 5 = .ok (.iconst 4, 1) := by decide +kernel
theorem dX9_lend_6 : decode cX9_lend 6 = .ok (.iastore, 1) := by decide +kernel
theorem dX9_lend_7 : decode cX9_lend 7 = .ok (.aload_n 0, 1) := by decide +kernel
theorem dX9_lend_8 : decode cX9_lend 8 = .ok (.getfield 29, 3) := by decide +kernel
theorem dX9_lend_11 : decode cX9_lend 11 = .ok (.iload_n 1, 1) := by decide +kernel
theorem dX9_lend_12 : decode cX9_lend 12 = .ok (.iload_n 2, 1) := by decide +kernel
theorem dX9_lend_13 : decode cX9_lend 13 = .ok (.iastore, 1) := by decide +kernel
theorem dX9_lend_14 : decode cX9_lend 14 = .ok (.aload_n 0, 1) := by decide +kernel
theorem dX9_lend_15 : decode cX9_lend 15 = .ok (.getfield 35, 3) := by decide +kernel
theorem dX9_lend_18 : decode cX9_lend 18 = .ok (.iload_n 1, 1) := by decide +kernel
theorem dX9_lend_19 : decode cX9_lend 19 = .ok (.aload_n 0, 1) := by decide +kernel
theorem dX9_lend_20 : decode cX9_lend 20 = .ok (.getfield 87, 3) := by decide +kernel
theorem dX9_lend_23 : decode cX9_lend 23 = .ok (.iastore, 1) := by decide +kernel
theorem dX9_lend_24 : decode cX9_lend 24 = .ok (.aload_n 0, 1) := by decide +kernel
theorem dX9_lend_25 : decode cX9_lend 25 = .ok (.getfield 53, 3) := by decide +kernel
theorem dX9_lend_28 : decode cX9_lend 28 = .ok (.iload_n 2, 1) := by decide +kernel
theorem dX9_lend_29 : decode cX9_lend 29 = .ok (.iconst 3, 1) := by decide +kernel
theorem dX9_lend_30 : decode cX9_lend 30 = .ok (.iastore, 1) := by decide +kernel
theorem dX9_lend_31 : decode cX9_lend 31 = .ok (.aload_n 0, 1) := by decide +kernel
theorem dX9_lend_32 : decode cX9_lend 32 = .ok (.iconst 1, 1) := by decide +kernel
theorem dX9_lend_33 : decode cX9_lend 33 = .ok (.iload_n 2, 1) := by decide +kernel
theorem dX9_lend_34 : decode cX9_lend 34 = .ok (.iload_n 1, 1) := by decide +kernel
theorem dX9_lend_35 : decode cX9_lend 35 = .ok (.invokevirtual 121, 3) := by decide +kernel
theorem dX9_lend_38 : decode cX9_lend 38 = .ok (.aload_n 0, 1) := by decide +kernel
theorem dX9_lend_39 : decode cX9_lend 39 = .ok (.getfield 62, 3) := by decide +kernel
theorem dX9_lend_42 : decode cX9_lend 42 = .ok (.iload_n 2, 1) := by decide +kernel
theorem dX9_lend_43 : decode cX9_lend 43 = .ok (.baload, 1) := by decide +kernel
theorem dX9_lend_44 : decode cX9_lend 44 = .ok (.ifCond .eq 4, 3) := by decide +kernel
theorem dX9_lend_47 : decode cX9_lend 47 = .ok (.return_, 1) := by decide +kernel
theorem dX9_lend_48 : decode cX9_lend 48 = .ok (.aload_n 0, 1) := by decide +kernel
theorem dX9_lend_49 : decode cX9_lend 49 = .ok (.getfield 87, 3) := by decide +kernel
theorem dX9_lend_52 : decode cX9_lend 52 = .ok (.aload_n 0, 1) := by decide +kernel
theorem dX9_lend_53 : decode cX9_lend 53 = .ok (.getfield 50, 3) := by decide +kernel
theorem dX9_lend_56 : decode cX9_lend 56 = .ok (.iload_n 2, 1) := by decide +kernel
theorem dX9_lend_57 : decode cX9_lend 57 = .ok (.iaload, 1) := by decide +kernel
theorem dX9_lend_58 : decode cX9_lend 58 = .ok (.isub, 1) := by decide +kernel
theorem dX9_lend_59 : decode cX9_lend 59 = .ok (.istore_n 3, 1) := by decide +kernel
theorem dX9_lend_60 : decode cX9_lend 60 = .ok (.aload_n 0, 1) := by decide +kernel
theorem dX9_lend_61 : decode cX9_lend 61 = .ok (.dup, 1) := by decide +kernel
theorem dX9_lend_62 : decode cX9_lend 62 = .ok (.getfield 108, 3) := by decide +kernel
theorem dX9_lend_65 : decode cX9_lend 65 = .ok (.iload_n 3, 1) := by decide +kernel
theorem dX9_lend_66 : decode cX9_lend 66 = .ok (.i2l, 1) := by decide +kernel
theorem dX9_lend_67 : decode cX9_lend 67 = .ok (.ladd, 1) := by decide +kernel
theorem dX9_lend_68 : decode cX9_lend 68 = .ok (.putfield 108, 3) := by decide +kernel
theorem dX9_lend_71 : decode cX9_lend 71 = .ok (.aload_n 0, 1) := by decide +kernel
theorem dX9_lend_72 : decode cX9_lend 72 = .ok (.dup, 1) := by decide +kernel
theorem dX9_lend_73 : decode cX9_lend 73 = .ok (.getfield 112, 3) := by decide +kernel
theorem dX9_lend_76 : decode cX9_lend 76 = .ok (.iconst 1, 1) := by decide +kernel
theorem dX9_lend_77 : decode cX9_lend 77 = .ok (.iadd, 1) := by decide +kernel
theorem dX9_lend_78 : decode cX9_lend 78 = .ok (.putfield 112, 3) := by decide +kernel
theorem dX9_lend_81 : decode cX9_lend 81 = .ok (.aload_n 0, 1) := by decide +kernel
theorem dX9_lend_82 : decode cX9_lend 82 = .ok (.iload_n 3, 1) := by decide +kernel
theorem dX9_lend_83 : decode cX9_lend 83 = .ok (.aload_n 0, 1) := by decide +kernel
theorem dX9_lend_84 : decode cX9_lend 84 = .ok (.getfield 115, 3) := by decide +kernel
theorem dX9_lend_87 : decode cX9_lend 87 = .ok (.if_icmp .le 7, 3) := by decide +kernel
theorem dX9_lend_90 : decode cX9_lend 90 = .ok (.iload_n 3, 1) := by decide +kernel
theorem dX9_lend_91 : decode cX9_lend 91 = .ok (.goto 7, 3) := by decide +kernel
theorem dX9_lend_94 : decode cX9_lend 94 = .ok (.aload_n 0, 1) := by decide +kernel
theorem dX9_lend_95 : decode cX9_lend 95 = .ok (.getfield 115, 3) := by decide +kernel
theorem dX9_lend_98 : decode cX9_lend 98 = .ok (.putfield 115, 3) := by decide +kernel
theorem dX9_lend_101 : decode cX9_lend 101 = .ok (.return_, 1) := by decide +kernel
set_option maxRecDepth 20000 in
theorem ggX9_turnSlots_X9_rest : GoodIn wsX9_turnSlots wsX9_rest := goodIn_r _ [10, 1, 11, 12, 33, 34, 35, 36, 37, 38, 39, 40, 41, 42, 43, 44, 45, 46, 47, 48, 49, 50, 51, 52, 53, 54, 55, 56, 57, 58, 59, 60, 61, 62, 63, 64, 65, 66, 67, 68, 69, 70, 71] (by decide +kernel) (by decide +kernel)
set_option maxRecDepth 20000 in
theorem gX9_turnSlots_X9_rest : GoodIn wsX9_turnSlots (wsV RX9 129 RX9 yX9_rest wsX9_rest) := goodIn_app (goodIn_of _ (by decide +kernel)) ggX9_turnSlots_X9_rest
set_option maxRecDepth 20000 in
theorem ggX9_turnSlots_X9_go : GoodIn wsX9_turnSlots wsX9_go := goodIn_r _ [16, 1, 3, 17, 18, 19, 20, 9, 21, 22, 23, 12, 33, 34, 35, 36, 37, 38, 39, 40, 41, 42, 43, 44, 45, 46, 47, 48, 49, 50, 51, 52, 53, 54, 55, 56, 57, 58, 59, 60, 61, 62, 63, 64, 65, 66, 67, 68, 69, 70, 71] (by decide +kernel) (by decide +kernel)
set_option maxRecDepth 20000 in
theorem gX9_turnSlots_X9_go : GoodIn wsX9_turnSlots (wsV RX9 125 RX9 yX9_go wsX9_go) := goodIn_app (goodIn_of _ (by decide +kernel)) ggX9_turnSlots_X9_go
set_option maxRecDepth 20000 in
theorem ggX9_turnSlots_X9_lend : GoodIn wsX9_turnSlots wsX9_lend := goodIn_r _ [27, 1, 5, 11, 12, 4, 28, 29, 30, 31, 32, 18, 19, 20, 9, 21, 22, 23, 33, 34, 35, 36, 37, 38, 39, 40, 41, 42, 43, 44, 45, 46, 47, 48, 49, 50, 51, 52, 53, 54, 55, 56, 57, 58, 59, 60, 61, 62, 63, 64, 65, 66, 67, 68, 69, 70, 71] (by decide +kernel) (by decide +kernel)
set_option maxRecDepth 20000 in
theorem gX9_turnSlots_X9_lend : GoodIn wsX9_turnSlots (wsV RX9 132 RX9 yX9_lend wsX9_lend) := goodIn_app (goodIn_of _ (by decide +kernel)) ggX9_turnSlots_X9_lend
theorem dX9_turnSlots_0 : decode cX9_turnSlots 0 = .ok (.iconst 0, 1) := by decide +kernel
theorem dX9_turnSlots_1 : decode cX9_turnSlots 1 = .ok (.istore_n 1, 1) := by decide +kernel
theorem dX9_turnSlots_2 : decode cX9_turnSlots 2 = .ok (.iload_n 1, 1) := by decide +kernel
theorem dX9_turnSlots_3 : decode cX9_turnSlots 3 = .ok (.bipush 12, 2) := by decide +kernel
theorem dX9_turnSlots_5 : decode cX9_turnSlots 5 = .ok (.if_icmp .ge 112, 3) := by decide +kernel
theorem dX9_turnSlots_8 : decode cX9_turnSlots 8 = .ok (.aload_n 0, 1) := by decide +kernel
theorem dX9_turnSlots_9 : decode cX9_turnSlots 9 = .ok (.getfield 22, 3) := by decide +kernel
theorem dX9_turnSlots_12 : decode cX9_turnSlots 12 = .ok (.iload_n 1, 1) := by decide +kernel
theorem dX9_turnSlots_13 : decode cX9_turnSlots 13 = .ok (.iaload, 1) := by decide +kernel
theorem dX9_turnSlots_14 : decode cX9_turnSlots 14 = .ok (.iconst 1, 1) := by decide +kernel
theorem dX9_turnSlots_15 : decode cX9_turnSlots 15 = .ok (.if_icmp .eq 16, 3) := by decide +kernel
theorem dX9_turnSlots_18 : decode cX9_turnSlots 18 = .ok (.aload_n 0, 1) := by decide +kernel
theorem dX9_turnSlots_19 : decode cX9_turnSlots 19 = .ok (.getfield 22, 3) := by decide +kernel
theorem dX9_turnSlots_22 : decode cX9_turnSlots 22 = .ok (.iload_n 1, 1) := by decide +kernel
theorem dX9_turnSlots_23 : decode cX9_turnSlots 23 = .ok (.iaload, 1) := by decide +kernel
theorem dX9_turnSlots_24 : decode cX9_turnSlots 24 = .ok (.iconst 3, 1) := by decide +kernel
theorem dX9_turnSlots_25 : decode cX9_turnSlots 25 = .ok (.if_icmp .eq 6, 3) := by decide +kernel
theorem dX9_turnSlots_28 : decode cX9_turnSlots 28 = .ok (.goto 83, 3) := by decide +kernel
theorem dX9_turnSlots_31 : decode cX9_turnSlots 31 = .ok (.aload_n 0, 1) := by decide +kernel
theorem dX9_turnSlots_32 : decode cX9_turnSlots 32 = .ok (.getfield 32, 3) := by decide +kernel
theorem dX9_turnSlots_35 : decode cX9_turnSlots 35 = .ok (.iload_n 1, 1) := by decide +kernel
theorem dX9_turnSlots_36 : decode cX9_turnSlots 36 = .ok (.dup2, 1) := by decide +kernel
theorem dX9_turnSlots_37 : decode cX9_turnSlots 37 = .ok (.iaload, 1) := by decide +kernel
theorem dX9_turnSlots_38 : decode cX9_turnSlots 38 = .ok (.iconst 1, 1) := by decide +kernel
theorem dX9_turnSlots_39 : decode cX9_turnSlots 39 = .ok (.isub, 1) := by decide +kernel
theorem dX9_turnSlots_40 : decode cX9_turnSlots 40 = .ok (.iastore, 1) := by decide +kernel
theorem dX9_turnSlots_41 : decode cX9_turnSlots 41 = .ok (.aload_n 0, 1) := by decide +kernel
theorem dX9_turnSlots_42 : decode cX9_turnSlots 42 = .ok (.getfield 32, 3) := by decide +kernel
theorem dX9_turnSlots_45 : decode cX9_turnSlots 45 = .ok (.iload_n 1, 1) := by decide +kernel
theorem dX9_turnSlots_46 : decode cX9_turnSlots 46 = .ok (.iaload, 1) := by decide +kernel
theorem dX9_turnSlots_47 : decode cX9_turnSlots 47 = .ok (.ifCond .le 6, 3) := by decide +kernel
theorem dX9_turnSlots_50 : decode cX9_turnSlots 50 = .ok (.goto 61, 3) := by decide +kernel
theorem dX9_turnSlots_53 : decode cX9_turnSlots 53 = .ok (.aload_n 0, 1) := by decide +kernel
theorem dX9_turnSlots_54 : decode cX9_turnSlots 54 = .ok (.getfield 22, 3) := by decide +kernel
theorem dX9_turnSlots_57 : decode cX9_turnSlots 57 = .ok (.iload_n 1, 1) := by decide +kernel
theorem dX9_turnSlots_58 : decode cX9_turnSlots 58 = .ok (.iaload, 1) := by decide +kernel
theorem dX9_turnSlots_59 : decode cX9_turnSlots 59 = .ok (.iconst 1, 1) := by decide +kernel
theorem dX9_turnSlots_60 : decode cX9_turnSlots 60 = .ok (.if_icmp .ne 11, 3) := by decide +kernel
theorem dX9_turnSlots_63 : decode cX9_turnSlots 63 = .ok (.aload_n 0, 1) := by decide +kernel
theorem dX9_turnSlots_64 : decode cX9_turnSlots 64 = .ok (.iload_n 1, 1) := by decide +kernel
theorem dX9_turnSlots_65 : decode cX9_turnSlots 65 = .ok (.invokevirtual 129, 3) := by decide +kernel
theorem dX9_turnSlots_68 : decode cX9_turnSlots 68 = .ok (.goto 43, 3) := by decide +kernel
theorem dX9_turnSlots_71 : decode cX9_turnSlots 71 = .ok (.aload_n 0, 1) := by decide +kernel
theorem dX9_turnSlots_72 : decode cX9_turnSlots 72 = .ok (.getfield 25, 3) := by decide +kernel
theorem dX9_turnSlots_75 : decode cX9_turnSlots 75 = .ok (.iload_n 1, 1) := by decide +kernel
theorem dX9_turnSlots_76 : decode cX9_turnSlots 76 = .ok (.baload, 1) := by decide +kernel
theorem dX9_turnSlots_77 : decode cX9_turnSlots 77 = .ok (.ifCond .eq 23, 3) := by decide +kernel
theorem dX9_turnSlots_80 : decode cX9_turnSlots 80 = .ok (.aload_n 0, 1) := by decide +kernel
theorem dX9_turnSlots_81 : decode cX9_turnSlots 81 = .ok (.getfield 53, 3) := by decide +kernel
theorem dX9_turnSlots_84 : decode cX9_turnSlots 84 = .ok (.aload_n 0, 1) := by decide +kernel
theorem dX9_turnSlots_85 : decode cX9_turnSlots 85 = .ok (.getfield 29, 3) := by decide +kernel
theorem dX9_turnSlots_88 : decode cX9_turnSlots 88 = .ok (.iload_n 1, 1) := by decide +kernel
theorem dX9_turnSlots_89 : decode cX9_turnSlots 89 = .ok (.iaload, 1) := by decide +kernel
theorem dX9_turnSlots_90 : decode cX9_turnSlots 90 = .ok (.iconst 1, 1) := by decide +kernel
theorem dX9_turnSlots_91 : decode cX9_turnSlots 91 = .ok (.iastore, 1) := by decide +kernel
theorem dX9_turnSlots_92 : decode cX9_turnSlots 92 = .ok (.aload_n 0, 1) := by decide +kernel
theorem dX9_turnSlots_93 : decode cX9_turnSlots 93 = .ok (.iload_n 1, 1) := by decide +kernel
theorem dX9_turnSlots_94 : decode cX9_turnSlots 94 = .ok (.invokevirtual 125, 3) := by decide +kernel
theorem dX9_turnSlots_97 : decode cX9_turnSlots 97 = .ok (.goto 14, 3) := by decide +kernel
theorem dX9_turnSlots_100 : decode cX9_turnSlots 100 = .ok (.aload_n 0, 1) := by decide +kernel
theorem dX9_turnSlots_101 : decode cX9_turnSlots 101 = .ok (.iload_n 1, 1) := by decide +kernel
theorem dX9_turnSlots_102 : decode cX9_turnSlots 102 = .ok (.aload_n 0, 1) := by decide +kernel
theorem dX9_turnSlots_103 : decode cX9_turnSlots 103 = .ok (.getfield 29, 3) := by decide +kernel
theorem dX9_turnSlots_106 : decode cX9_turnSlots 106 = .ok (.iload_n 1, 1) := by decide +kernel
theorem dX9_turnSlots_107 : decode cX9_turnSlots 107 = .ok (.iaload, 1) := by decide +kernel
theorem dX9_turnSlots_108 : decode cX9_turnSlots 108 = .ok (.invokevirtual 132, 3) := by decide +kernel
theorem dX9_turnSlots_111 : decode cX9_turnSlots 111 = .ok (.iinc 1 1, 3) := by decide +kernel
theorem dX9_turnSlots_114 : decode cX9_turnSlots 114 = .ok (.goto (-112), 3) := by decide +kernel
theorem dX9_turnSlots_117 : decode cX9_turnSlots 117 = .ok (.return_, 1) := by decide +kernel
theorem dX9_hasBroken_0 : decode cX9_hasBroken 0 = .ok (.iconst 0, 1) := by decide +kernel
theorem dX9_hasBroken_1 : decode cX9_hasBroken 1 = .ok (.istore_n 2, 1) := by decide +kernel
theorem dX9_hasBroken_2 : decode cX9_hasBroken 2 = .ok (.iload_n 2, 1) := by decide +kernel
theorem dX9_hasBroken_3 : decode cX9_hasBroken 3 = .ok (.bipush 12, 2) := by decide +kernel
theorem dX9_hasBroken_5 : decode cX9_hasBroken 5 = .ok (.if_icmp .ge 40, 3) := by decide +kernel
theorem dX9_hasBroken_8 : decode cX9_hasBroken 8 = .ok (.aload_n 0, 1) := by decide +kernel
theorem dX9_hasBroken_9 : decode cX9_hasBroken 9 = .ok (.getfield 22, 3) := by decide +kernel
theorem dX9_hasBroken_12 : decode cX9_hasBroken 12 = .ok (.iload_n 2, 1) := by decide +kernel
theorem dX9_hasBroken_13 : decode cX9_hasBroken 13 = .ok (.iaload, 1) := by decide +kernel
theorem dX9_hasBroken_14 : decode cX9_hasBroken 14 = .ok (.iconst 4, 1) := by decide +kernel
theorem dX9_hasBroken_15 : decode cX9_hasBroken 15 = .ok (.if_icmp .ne 24, 3) := by decide +kernel
theorem dX9_hasBroken_18 : decode cX9_hasBroken 18 = .ok (.aload_n 0, 1) := by decide +kernel
theorem dX9_hasBroken_19 : decode cX9_hasBroken 19 = .ok (.getfield 29, 3) := by decide +kernel
theorem dX9_hasBroken_22 : decode cX9_hasBroken 22 = .ok (.iload_n 2, 1) := by decide +kernel
theorem dX9_hasBroken_23 : decode cX9_hasBroken 23 = .ok (.iaload, 1) := by decide +kernel
theorem dX9_hasBroken_24 : decode cX9_hasBroken 24 = .ok (.iload_n 1, 1) := by decide +kernel
theorem dX9_hasBroken_25 : decode cX9_hasBroken 25 = .ok (.if_icmp .ne 14, 3) := by decide +kernel
theorem dX9_hasBroken_28 : decode cX9_hasBroken 28 = .ok (.aload_n 0, 1) := by decide +kernel
theorem dX9_hasBroken_29 : decode cX9_hasBroken 29 = .ok (.getfield 25, 3) := by decide +kernel
theorem dX9_hasBroken_32 : decode cX9_hasBroken 32 = .ok (.iload_n 2, 1) := by decide +kernel
theorem dX9_hasBroken_33 : decode cX9_hasBroken 33 = .ok (.baload, 1) := by decide +kernel
theorem dX9_hasBroken_34 : decode cX9_hasBroken 34 = .ok (.ifCond .eq 5, 3) := by decide +kernel
theorem dX9_hasBroken_37 : decode cX9_hasBroken 37 = .ok (.iconst 1, 1) := by decide +kernel
theorem dX9_hasBroken_38 : decode cX9_hasBroken 38 = .ok (.ireturn, 1) := by decide +kernel
theorem dX9_hasBroken_39 : decode cX9_hasBroken 39 = .ok (.iinc 2 1, 3) := by decide +kernel
theorem dX9_hasBroken_42 : decode cX9_hasBroken 42 = .ok (.goto (-40), 3) := by decide +kernel
theorem dX9_hasBroken_45 : decode cX9_hasBroken 45 = .ok (.iconst 0, 1) := by decide +kernel
theorem dX9_hasBroken_46 : decode cX9_hasBroken 46 = .ok (.ireturn, 1) := by decide +kernel
set_option maxRecDepth 20000 in
theorem ggX9_doWork_X9_hasBroken : GoodIn wsX9_doWork wsX9_hasBroken := goodIn_r _ [9, 10, 11, 12, 34, 35, 36, 37, 38, 39, 40, 41, 42, 43, 44, 45, 46, 47, 48, 49, 50, 51, 52, 53, 54, 55, 56, 57, 58, 59, 60, 61, 62, 63, 64, 65, 66, 67, 68, 69, 70, 71, 72] (by decide +kernel) (by decide +kernel)
set_option maxRecDepth 20000 in
theorem gX9_doWork_X9_hasBroken : GoodIn wsX9_doWork (wsV RX9 136 RX9 yX9_hasBroken wsX9_hasBroken) := goodIn_app (goodIn_of _ (by decide +kernel)) ggX9_doWork_X9_hasBroken
set_option maxRecDepth 20000 in
theorem ggX9_doWork_X9_say : GoodIn wsX9_doWork wsX9_say := goodIn_r _ [16, 17, 18, 19, 34, 35, 36, 37, 38, 39, 40, 41, 42, 43, 44, 45, 46, 47, 48, 49, 50, 51, 52, 53, 54, 55, 56, 57, 58, 59, 60, 61, 62, 63, 64, 65, 66, 67, 68, 69, 70, 71, 72] (by decide +kernel) (by decide +kernel)
set_option maxRecDepth 20000 in
theorem gX9_doWork_X9_say : GoodIn wsX9_doWork (wsV RX9 121 RX9 yX9_say wsX9_say) := goodIn_app (goodIn_of _ (by decide +kernel)) ggX9_doWork_X9_say
set_option maxRecDepth 20000 in
theorem ggX9_doWork_X9_free : GoodIn wsX9_doWork wsX9_free := goodIn_r _ [23, 10, 11, 12, 24, 25, 26, 8, 27, 28, 13, 14, 15, 16, 17, 18, 19, 29, 30, 31, 32, 33, 34, 35, 36, 37, 38, 39, 40, 41, 42, 43, 44, 45, 46, 47, 48, 49, 50, 51, 52, 53, 54, 55, 56, 57, 58, 59, 60, 61, 62, 63, 64, 65, 66, 67, 68, 69, 70, 71, 72] (by decide +kernel) (by decide +kernel)
set_option maxRecDepth 20000 in
theorem gX9_doWork_X9_free : GoodIn wsX9_doWork (wsV RX9 140 RX9 yX9_free wsX9_free) := goodIn_app (goodIn_of _ (by decide +kernel)) ggX9_doWork_X9_free
theorem dX9_doWork_0 : decode cX9_doWork 0 = .ok (.iconst 0, 1) := by decide +kernel
theorem dX9_doWork_1 : decode cX9_doWork 1 = .ok (.istore_n 1, 1) := by decide +kernel
theorem dX9_doWork_2 : decode cX9_doWork 2 = .ok (.iload_n 1, 1) := by decide +kernel
theorem dX9_doWork_3 : decode cX9_doWork 3 = .ok (.aload_n 0, 1) := by decide +kernel
theorem dX9_doWork_4 : decode cX9_doWork 4 = .ok (.getfield 90, 3) := by decide +kernel
theorem dX9_doWork_7 : decode cX9_doWork 7 = .ok (.if_icmp .ge 51, 3) := by decide +kernel
theorem dX9_doWork_10 : decode cX9_doWork 10 = .ok (.aload_n 0, 1) := by decide +kernel
theorem dX9_doWork_11 : decode cX9_doWork 11 = .ok (.getfield 53, 3) := by decide +kernel
theorem dX9_doWork_14 : decode cX9_doWork 14 = .ok (.iload_n 1, 1) := by decide +kernel
theorem dX9_doWork_15 : decode cX9_doWork 15 = .ok (.iaload, 1) := by decide +kernel
theorem dX9_doWork_16 : decode cX9_doWork 16 = .ok (.iconst 3, 1) := by decide +kernel
theorem dX9_doWork_17 : decode cX9_doWork 17 = .ok (.if_icmp .ne 35, 3) := by decide +kernel
theorem dX9_doWork_20 : decode cX9_doWork 20 = .ok (.aload_n 0, 1) := by decide +kernel
theorem dX9_doWork_21 : decode cX9_doWork 21 = .ok (.iload_n 1, 1) := by decide +kernel
theorem dX9_doWork_22 : decode cX9_doWork 22 = .ok (.invokevirtual 136, 3) := by decide +kernel
theorem dX9_doWork_25 : decode cX9_doWork 25 = .ok (.ifCond .ne 6, 3) := by decide +kernel
theorem dX9_doWork_28 : decode cX9_doWork 28 = .ok (.goto 24, 3) := by decide +kernel
theorem dX9_doWork_31 : decode cX9_doWork 31 = .ok (.aload_n 0, 1) := by decide +kernel
theorem dX9_doWork_32 : decode cX9_doWork 32 = .ok (.getfield 53, 3) := by decide +kernel
theorem dX9_doWork_35 : decode cX9_doWork 35 = .ok (.iload_n 1, 1) := by decide +kernel
theorem dX9_doWork_36 : decode cX9_doWork 36 = .ok (.bipush 6, 2) := by decide +kernel
theorem dX9_doWork_38 : decode cX9_doWork 38 = .ok (.iastore, 1) := by decide +kernel
theorem dX9_doWork_39 : decode cX9_doWork 39 = .ok (.aload_n 0, 1) := by decide +kernel
theorem dX9_doWork_40 : decode cX9_doWork 40 = .ok (.iconst 3, 1) := by decide +kernel
theorem dX9_doWork_41 : decode cX9_doWork 41 = .ok (.iload_n 1, 1) := by decide +kernel
theorem dX9_doWork_42 : decode cX9_doWork 42 = .ok (.iconst (-1), 1) := by decide +kernel
theorem dX9_doWork_43 : decode cX9_doWork 43 = .ok (.invokevirtual 121, 3) := by decide +kernel
theorem dX9_doWork_46 : decode cX9_doWork 46 = .ok (.aload_n 0, 1) := by decide +kernel
theorem dX9_doWork_47 : decode cX9_doWork 47 = .ok (.iload_n 1, 1) := by decide +kernel
theorem dX9_doWork_48 : decode cX9_doWork 48 = .ok (.iconst 1, 1) := by decide +kernel
theorem dX9_doWork_49 : decode cX9_doWork 49 = .ok (.invokevirtual 140, 3) := by decide +kernel
theorem dX9_doWork_52 : decode cX9_doWork 52 = .ok (.iinc 1 1, 3) := by decide +kernel
theorem dX9_doWork_55 : decode cX9_doWork 55 = .ok (.goto (-53), 3) := by decide +kernel
theorem dX9_doWork_58 : decode cX9_doWork 58 = .ok (.iconst 0, 1) := by decide +kernel
theorem dX9_doWork_59 : decode cX9_doWork 59 = .ok (.istore_n 1, 1) := by decide +kernel
theorem dX9_doWork_60 : decode cX9_doWork 60 = .ok (.iconst 0, 1) := by decide +kernel
theorem dX9_doWork_61 : decode cX9_doWork 61 = .ok (.istore_n 2, 1) := by decide +kernel
theorem dX9_doWork_62 : decode cX9_doWork 62 = .ok (.iload_n 2, 1) := by decide +kernel
theorem dX9_doWork_63 : decode cX9_doWork 63 = .ok (.aload_n 0, 1) := by decide +kernel
theorem dX9_doWork_64 : decode cX9_doWork 64 = .ok (.getfield 90, 3) := by decide +kernel
theorem dX9_doWork_67 : decode cX9_doWork 67 = .ok (.if_icmp .ge 22, 3) := by decide +kernel
theorem dX9_doWork_70 : decode cX9_doWork 70 = .ok (.aload_n 0, 1) := by decide +kernel
theorem dX9_doWork_71 : decode cX9_doWork 71 = .ok (.getfield 53, 3) := by decide +kernel
theorem dX9_doWork_74 : decode cX9_doWork 74 = .ok (.iload_n 2, 1) := by decide +kernel
theorem dX9_doWork_75 : decode cX9_doWork 75 = .ok (.iaload, 1) := by decide +kernel
theorem dX9_doWork_76 : decode cX9_doWork 76 = .ok (.iconst 3, 1) := by decide +kernel
theorem dX9_doWork_77 : decode cX9_doWork 77 = .ok (.if_icmp .ne 6, 3) := by decide +kernel
theorem dX9_doWork_80 : decode cX9_doWork 80 = .ok (.iinc 1 1, 3) := by decide +kernel
theorem dX9_doWork_83 : decode cX9_doWork 83 = .ok (.iinc 2 1, 3) := by decide +kernel
theorem dX9_doWork_86 : decode cX9_doWork 86 = .ok (.goto (-24), 3) := by decide +kernel
theorem dX9_doWork_89 : decode cX9_doWork 89 = .ok (.aload_n 0, 1) := by decide +kernel
theorem dX9_doWork_90 : decode cX9_doWork 90 = .ok (.getfield 19, 3) := by decide +kernel
theorem dX9_doWork_93 : decode cX9_doWork 93 = .ok (.iload_n 1, 1) := by decide +kernel
theorem dX9_doWork_94 : decode cX9_doWork 94 = .ok (.bipush 12, 2) := by decide +kernel
theorem dX9_doWork_96 : decode cX9_doWork 96 = .ok (.if_icmp .le 8, 3) := by decide +kernel
theorem dX9_doWork_99 : decode cX9_doWork 99 = .ok (.bipush 12, 2) := by decide +kernel
theorem dX9_doWork_101 : decode cX9_doWork 101 = .ok (.goto 4, 3) := by decide +kernel
theorem dX9_doWork_104 : decode cX9_doWork 104 = .ok (.iload_n 1, 1) := by decide +kernel
theorem dX9_doWork_105 : decode cX9_doWork 105 = .ok (.iaload, 1) := by decide +kernel
theorem dX9_doWork_106 : decode cX9_doWork 106 = .ok (.istore_n 2, 1) := by decide +kernel
theorem dX9_doWork_107 : decode cX9_doWork 107 = .ok (.iconst 0, 1) := by decide +kernel
theorem dX9_doWork_108 : decode cX9_doWork 108 = .ok (.istore_n 3, 1) := by decide +kernel
theorem dX9_doWork_109 : decode cX9_doWork 109 = .ok (.iload_n 3, 1) := by decide +kernel
theorem dX9_doWork_110 : decode cX9_doWork 110 = .ok (.aload_n 0, 1) := by decide +kernel
theorem dX9_doWork_111 : decode cX9_doWork 111 = .ok (.getfield 90, 3) := by decide +kernel
theorem dX9_doWork_114 : decode cX9_doWork 114 = .ok (.if_icmp .ge 50, 3) := by decide +kernel
theorem dX9_doWork_117 : decode cX9_doWork 117 = .ok (.aload_n 0, 1) := by decide +kernel
theorem dX9_doWork_118 : decode cX9_doWork 118 = .ok (.getfield 53, 3) := by decide +kernel
theorem dX9_doWork_121 : decode cX9_doWork 121 = .ok (.iload_n 3, 1) := by decide +kernel
theorem dX9_doWork_122 : decode cX9_doWork 122 = .ok (.iaload, 1) := by decide +kernel
theorem dX9_doWork_123 : decode cX9_doWork 123 = .ok (.iconst 3, 1) := by decide +kernel
theorem dX9_doWork_124 : decode cX9_doWork 124 = .ok (.if_icmp .eq 6, 3) := by decide +kernel
theorem dX9_doWork_127 : decode cX9_doWork 127 = .ok (.goto 31, 3) := by decide +kernel
theorem dX9_doWork_130 : decode cX9_doWork 130 = .ok (.aload_n 0, 1) := by decide +kernel
theorem dX9_doWork_131 : decode cX9_doWork 131 = .ok (.getfield 56, 3) := by decide +kernel
theorem dX9_doWork_134 : decode cX9_doWork 134 = .ok (.iload_n 3, 1) := by decide +kernel
theorem dX9_doWork_135 : decode cX9_doWork 135 = .ok (.aload_n 0, 1) := by decide +kernel
theorem dX9_doWork_136 : decode cX9_doWork 136 = .ok (.getfield 56, 3) := by decide +kernel
theorem dX9_doWork_139 : decode cX9_doWork 139 = .ok (.iload_n 3, 1) := by decide +kernel
theorem dX9_doWork_140 : decode cX9_doWork 140 = .ok (.iaload, 1) := by decide +kernel
theorem dX9_doWork_141 : decode cX9_doWork 141 = .ok (.iload_n 2, 1) := by decide +kernel
theorem dX9_doWork_142 : decode cX9_doWork 142 = .ok (.if_icmp .le 14, 3) := by decide +kernel
theorem dX9_doWork_145 : decode cX9_doWork 145 = .ok (.aload_n 0, 1) := by decide +kernel
theorem dX9_doWork_146 : decode cX9_doWork 146 = .ok (.getfield 56, 3) := by decide +kernel
theorem dX9_doWork_149 : decode cX9_doWork 149 = .ok (.iload_n 3, 1) := by decide +kernel
theorem dX9_doWork_150 : decode cX9_doWork 150 = .ok (.iaload, 1) := by decide +kernel
theorem dX9_doWork_151 : decode cX9_doWork 151 = .ok (.iload_n 2, 1) := by decide +kernel
theorem dX9_doWork_152 : decode cX9_doWork 152 = .ok (.isub, 1) := by decide +kernel
theorem dX9_doWork_153 : decode cX9_doWork 153 = .ok (.goto 4, 3) := by decide +kernel
theorem dX9_doWork_156 : decode cX9_doWork 156 = .ok (.iconst 0, 1) := by decide +kernel
theorem dX9_doWork_157 : decode cX9_doWork 157 = .ok (.iastore, 1) := by decide +kernel
theorem dX9_doWork_158 : decode cX9_doWork 158 = .ok (.iinc 3 1, 3) := by decide +kernel
theorem dX9_doWork_161 : decode cX9_doWork 161 = .ok (.goto (-52), 3) := by decide +kernel
theorem dX9_doWork_164 : decode cX9_doWork 164 = .ok (.return_, 1) := by decide +kernel
set_option maxRecDepth 20000 in
theorem ggX9_finish_X9_say : GoodIn wsX9_finish wsX9_say := goodIn_r _ [17, 18, 19, 7, 34, 35, 36, 37, 38, 39, 40, 41, 42, 43, 44, 45, 46, 47, 48, 49, 50, 51, 52, 53, 54, 55, 56, 57, 58, 59, 60, 61, 62, 63, 64, 65, 66, 67, 68, 69, 70, 71, 72] (by decide +kernel) (by decide +kernel)
set_option maxRecDepth 20000 in
theorem gX9_finish_X9_say : GoodIn wsX9_finish (wsV RX9 121 RX9 yX9_say wsX9_say) := goodIn_app (goodIn_of _ (by decide +kernel)) ggX9_finish_X9_say
set_option maxRecDepth 20000 in
theorem ggX9_finish_X9_free : GoodIn wsX9_finish wsX9_free := goodIn_r _ [23, 9, 10, 24, 25, 26, 27, 16, 28, 29, 13, 14, 15, 17, 18, 19, 7, 30, 31, 32, 33, 11, 34, 35, 36, 37, 38, 39, 40, 41, 42, 43, 44, 45, 46, 47, 48, 49, 50, 51, 52, 53, 54, 55, 56, 57, 58, 59, 60, 61, 62, 63, 64, 65, 66, 67, 68, 69, 70, 71, 72] (by decide +kernel) (by decide +kernel)
set_option maxRecDepth 20000 in
theorem gX9_finish_X9_free : GoodIn wsX9_finish (wsV RX9 140 RX9 yX9_free wsX9_free) := goodIn_app (goodIn_of _ (by decide +kernel)) ggX9_finish_X9_free
theorem dX9_finish_0 : decode cX9_finish 0 = .ok (.iconst 0, 1) := by decide +kernel
theorem dX9_finish_1 : decode cX9_finish 1 = .ok (.istore_n 1, 1) := by decide +kernel
theorem dX9_finish_2 : decode cX9_finish 2 = .ok (.iload_n 1, 1) := by decide +kernel
theorem dX9_finish_3 : decode cX9_finish 3 = .ok (.aload_n 0, 1) := by decide +kernel
theorem dX9_finish_4 : decode cX9_finish 4 = .ok (.getfield 90, 3) := by decide +kernel
theorem dX9_finish_7 : decode cX9_finish 7 = .ok (.if_icmp .ge 129, 3) := by decide +kernel
theorem dX9_finish_10 : decode cX9_finish 10 = .ok (.aload_n 0, 1) := by decide +kernel
theorem dX9_finish_11 : decode cX9_finish 11 = .ok (.getfield 53, 3) := by decide +kernel
theorem dX9_finish_14 : decode cX9_finish 14 = .ok (.iload_n 1, 1) := by decide +kernel
theorem dX9_finish_15 : decode cX9_finish 15 = .ok (.iaload, 1) := by decide +kernel
theorem dX9_finish_16 : decode cX9_finish 16 = .ok (.iconst 3, 1) := by decide +kernel
theorem dX9_finish_17 : decode cX9_finish 17 = .ok (.if_icmp .ne 113, 3) := by decide +kernel
theorem dX9_finish_20 : decode cX9_finish 20 = .ok (.aload_n 0, 1) := by decide +kernel
theorem dX9_finish_21 : decode cX9_finish 21 = .ok (.getfield 56, 3) := by decide +kernel
theorem dX9_finish_24 : decode cX9_finish 24 = .ok (.iload_n 1, 1) := by decide +kernel
theorem dX9_finish_25 : decode cX9_finish 25 = .ok (.iaload, 1) := by decide +kernel
theorem dX9_finish_26 : decode cX9_finish 26 = .ok (.ifCond .le 6, 3) := by decide +kernel
theorem dX9_finish_29 : decode cX9_finish 29 = .ok (.goto 101, 3) := by decide +kernel
theorem dX9_finish_32 : decode cX9_finish 32 = .ok (.aload_n 0, 1) := by decide +kernel
theorem dX9_finish_33 : decode cX9_finish 33 = .ok (.getfield 38, 3) := by decide +kernel
theorem dX9_finish_36 : decode cX9_finish 36 = .ok (.iload_n 1, 1) := by decide +kernel
theorem dX9_finish_37 : decode cX9_finish 37 = .ok (.iaload, 1) := by decide +kernel
theorem dX9_finish_38 : decode cX9_finish 38 = .ok (.iconst 1, 1) := by decide +kernel
theorem dX9_finish_39 : decode cX9_finish 39 = .ok (.if_icmp .ne 13, 3) := by decide +kernel
theorem dX9_finish_42 : decode cX9_finish 42 = .ok (.aload_n 0, 1) := by decide +kernel
theorem dX9_finish_43 : decode cX9_finish 43 = .ok (.getfield 53, 3) := by decide +kernel
theorem dX9_finish_46 : decode cX9_finish 46 = .ok (.iload_n 1, 1) := by decide +kernel
theorem dX9_finish_47 : decode cX9_finish 47 = .ok (.iconst 4, 1) := by decide +kernel
theorem dX9_finish_48 : decode cX9_finish 48 = .ok (.iastore, 1) := by decide +kernel
theorem dX9_finish_49 : decode cX9_finish 49 = .ok (.goto 81, 3) := by decide +kernel
theorem dX9_finish_52 : decode cX9_finish 52 = .ok (.aload_n 0, 1) := by decide +kernel
theorem dX9_finish_53 : decode cX9_finish 53 = .ok (.getfield 38, 3) := by decide +kernel
theorem dX9_finish_56 : decode cX9_finish 56 = .ok (.iload_n 1, 1) := by decide +kernel
theorem dX9_finish_57 : decode cX9_finish 57 = .ok (.iaload, 1) := by decide +kernel
theorem dX9_finish_58 : decode cX9_finish 58 = .ok (.iconst 2, 1) := by decide +kernel
theorem dX9_finish_59 : decode cX9_finish 59 = .ok (.if_icmp .ne 51, 3) := by decide +kernel
theorem dX9_finish_62 : decode cX9_finish 62 = .ok (.aload_n 0, 1) := by decide +kernel
theorem dX9_finish_63 : decode cX9_finish 63 = .ok (.getfield 62, 3) := by decide +kernel
theorem dX9_finish_66 : decode cX9_finish 66 = .ok (.iload_n 1, 1) := by decide +kernel
theorem dX9_finish_67 : decode cX9_finish 67 = .ok (.baload, 1) := by decide +kernel
theorem dX9_finish_68 : decode cX9_finish 68 = .ok (.ifCond .ne 42, 3) := by decide +kernel
theorem dX9_finish_71 : decode cX9_finish 71 = .ok (.aload_n 0, 1) := by decide +kernel
theorem dX9_finish_72 : decode cX9_finish 72 = .ok (.getfield 62, 3) := by decide +kernel
theorem dX9_finish_75 : decode cX9_finish 75 = .ok (.iload_n 1, 1) := by decide +kernel
theorem dX9_finish_76 : decode cX9_finish 76 = .ok (.iconst 1, 1) := by decide +kernel
theorem dX9_finish_77 : decode cX9_finish 77 = .ok (.bastore, 1) := by decide +kernel
theorem dX9_finish_78 : decode cX9_finish 78 = .ok (.aload_n 0, 1) := by decide +kernel
theorem dX9_finish_79 : decode cX9_finish 79 = .ok (.getfield 53, 3) := by decide +kernel
theorem dX9_finish_82 : decode cX9_finish 82 = .ok (.iload_n 1, 1) := by decide +kernel
theorem dX9_finish_83 : decode cX9_finish 83 = .ok (.iconst 1, 1) := by decide +kernel
theorem dX9_finish_84 : decode cX9_finish 84 = .ok (.iastore, 1) := by decide +kernel
theorem dX9_finish_85 : decode cX9_finish 85 = .ok (.aload_n 0, 1) := by decide +kernel
theorem dX9_finish_86 : decode cX9_finish 86 = .ok (.getfield 59, 3) := by decide +kernel
theorem dX9_finish_89 : decode cX9_finish 89 = .ok (.iload_n 1, 1) := by decide +kernel
theorem dX9_finish_90 : decode cX9_finish 90 = .ok (.aload_n 0, 1) := by decide +kernel
theorem dX9_finish_91 : decode cX9_finish 91 = .ok (.getfield 87, 3) := by decide +kernel
theorem dX9_finish_94 : decode cX9_finish 94 = .ok (.iastore, 1) := by decide +kernel
theorem dX9_finish_95 : decode cX9_finish 95 = .ok (.aload_n 0, 1) := by decide +kernel
theorem dX9_finish_96 : decode cX9_finish 96 = .ok (.getfield 56, 3) := by decide +kernel
theorem dX9_finish_99 : decode cX9_finish 99 = .ok (.iload_n 1, 1) := by decide +kernel
theorem dX9_finish_100 : decode cX9_finish 100 = .ok (.aload_n 0, 1) := by decide +kernel
theorem dX9_finish_101 : decode cX9_finish 101 = .ok (.getfield 47, 3) := by decide +kernel
theorem dX9_finish_104 : decode cX9_finish 104 = .ok (.iload_n 1, 1) := by decide +kernel
theorem dX9_finish_105 : decode cX9_finish 105 = .ok (.iaload, 1) := by decide +kernel
theorem dX9_finish_106 : decode cX9_finish 106 = .ok (.iastore, 1) := by decide +kernel
theorem dX9_finish_107 : decode cX9_finish 107 = .ok (.goto 23, 3) := by decide +kernel
theorem dX9_finish_110 : decode cX9_finish 110 = .ok (.aload_n 0, 1) := by decide +kernel
theorem dX9_finish_111 : decode cX9_finish 111 = .ok (.getfield 53, 3) := by decide +kernel
theorem dX9_finish_114 : decode cX9_finish 114 = .ok (.iload_n 1, 1) := by decide +kernel
theorem dX9_finish_115 : decode cX9_finish 115 = .ok (.iconst 5, 1) := by decide +kernel
theorem dX9_finish_116 : decode cX9_finish 116 = .ok (.iastore, 1) := by decide +kernel
theorem dX9_finish_117 : decode cX9_finish 117 = .ok (.aload_n 0, 1) := by decide +kernel
theorem dX9_finish_118 : decode cX9_finish 118 = .ok (.iconst 2, 1) := by decide +kernel
theorem dX9_finish_119 : decode cX9_finish 119 = .ok (.iload_n 1, 1) := by decide +kernel
theorem dX9_finish_120 : decode cX9_finish 120 = .ok (.iconst (-1), 1) := by decide +kernel
theorem dX9_finish_121 : decode cX9_finish 121 = .ok (.invokevirtual 121, 3) := by decide +kernel
theorem dX9_finish_124 : decode cX9_finish 124 = .ok (.aload_n 0, 1) := by decide +kernel
theorem dX9_finish_125 : decode cX9_finish 125 = .ok (.iload_n 1, 1) := by decide +kernel
theorem dX9_finish_126 : decode cX9_finish 126 = .ok (.iconst 0, 1) := by decide +kernel
theorem dX9_finish_127 : decode cX9_finish 127 = .ok (.invokevirtual 140, 3) := by decide +kernel
theorem dX9_finish_130 : decode cX9_finish 130 = .ok (.iinc 1 1, 3) := by decide +kernel
theorem dX9_finish_133 : decode cX9_finish 133 = .ok (.goto (-131), 3) := by decide +kernel
theorem dX9_finish_136 : decode cX9_finish 136 = .ok (.iconst 0, 1) := by decide +kernel
theorem dX9_finish_137 : decode cX9_finish 137 = .ok (.istore_n 1, 1) := by decide +kernel
theorem dX9_finish_138 : decode cX9_finish 138 = .ok (.iload_n 1, 1) := by decide +kernel
theorem dX9_finish_139 : decode cX9_finish 139 = .ok (.aload_n 0, 1) := by decide +kernel
theorem dX9_finish_140 : decode cX9_finish 140 = .ok (.getfield 90, 3) := by decide +kernel
theorem dX9_finish_143 : decode cX9_finish 143 = .ok (.if_icmp .ge 103, 3) := by decide +kernel
theorem dX9_finish_146 : decode cX9_finish 146 = .ok (.iconst 0, 1) := by decide +kernel
theorem dX9_finish_147 : decode cX9_finish 147 = .ok (.istore_n 2, 1) := by decide +kernel
theorem dX9_finish_148 : decode cX9_finish 148 = .ok (.iconst 0, 1) := by decide +kernel
theorem dX9_finish_149 : decode cX9_finish 149 = .ok (.istore_n 3, 1) := by decide +kernel
theorem dX9_finish_150 : decode cX9_finish 150 = .ok (.iload_n 3, 1) := by decide +kernel
theorem dX9_finish_151 : decode cX9_finish 151 = .ok (.bipush 12, 2) := by decide +kernel
theorem dX9_finish_153 : decode cX9_finish 153 = .ok (.if_icmp .ge 59, 3) := by decide +kernel
theorem dX9_finish_156 : decode cX9_finish 156 = .ok (.iload_n 2, 1) := by decide +kernel
theorem dX9_finish_157 : decode cX9_finish 157 = .ok (.ifCond .ne 43, 3) := by decide +kernel
theorem dX9_finish_160 : decode cX9_finish 160 = .ok (.aload_n 0, 1) := by decide +kernel
theorem dX9_finish_161 : decode cX9_finish 161 = .ok (.getfield 22, 3) := by decide +kernel
theorem dX9_finish_164 : decode cX9_finish 164 = .ok (.iload_n 3, 1) := by decide +kernel
theorem dX9_finish_165 : decode cX9_finish 165 = .ok (.iaload, 1) := by decide +kernel
theorem dX9_finish_166 : decode cX9_finish 166 = .ok (.iconst 4, 1) := by decide +kernel
theorem dX9_finish_167 : decode cX9_finish 167 = .ok (.if_icmp .ne 37, 3) := by decide +kernel
theorem dX9_finish_170 : decode cX9_finish 170 = .ok (.aload_n 0, 1) := by decide +kernel
theorem dX9_finish_171 : decode cX9_finish 171 = .ok (.getfield 29, 3) := by decide +kernel
theorem dX9_finish_174 : decode cX9_finish 174 = .ok (.iload_n 3, 1) := by decide +kernel
theorem dX9_finish_175 : decode cX9_finish 175 = .ok (.iaload, 1) := by decide +kernel
theorem dX9_finish_176 : decode cX9_finish 176 = .ok (.iload_n 1, 1) := by decide +kernel
theorem dX9_finish_177 : decode cX9_finish 177 = .ok (.if_icmp .ne 27, 3) := by decide +kernel
theorem dX9_finish_180 : decode cX9_finish 180 = .ok (.aload_n 0, 1) := by decide +kernel
theorem dX9_finish_181 : decode cX9_finish 181 = .ok (.getfield 87, 3) := by decide +kernel
theorem dX9_finish_184 : decode cX9_finish 184 = .ok (.aload_n 0, 1) := by decide +kernel
theorem dX9_finish_185 : decode cX9_finish 185 = .ok (.getfield 35, 3) := by decide +kernel
theorem dX9_finish_188 : decode cX9_finish 188 = .ok (.iload_n 3, 1) := by decide +kernel
theorem dX9_finish_189 : decode cX9_finish 189 = .ok (.iaload, 1) := by decide +kernel
theorem dX9_finish_190 : decode cX9_finish 190 = .ok (.isub, 1) := by decide +kernel
theorem dX9_finish_191 : decode cX9_finish 191 = .ok (.aload_n 0, 1) := by decide +kernel
theorem dX9_finish_192 : decode cX9_finish 192 = .ok (.getfield 7, 3) := by decide +kernel
theorem dX9_finish_195 : decode cX9_finish 195 = .ok (.iconst 3, 1) := by decide +kernel
theorem dX9_finish_196 : decode cX9_finish 196 = .ok (.iaload, 1) := by decide +kernel
theorem dX9_finish_197 : decode cX9_finish 197 = .ok (.if_icmp .lt 7, 3) := by decide +kernel
theorem dX9_finish_200 : decode cX9_finish 200 = .ok (.iconst 1, 1) := by decide +kernel
theorem dX9_finish_201 : decode cX9_finish 201 = .ok (.goto 4, 3) := by decide +kernel
theorem dX9_finish_204 : decode cX9_finish 204 = .ok (.iconst 0, 1) := by decide +kernel
theorem dX9_finish_205 : decode cX9_finish 205 = .ok (.istore_n 2, 1) := by decide +kernel
theorem dX9_finish_206 : decode cX9_finish 206 = .ok (.iinc 3 1, 3) := by decide +kernel
theorem dX9_finish_209 : decode cX9_finish 209 = .ok (.goto (-59), 3) := by decide +kernel
theorem dX9_finish_212 : decode cX9_finish 212 = .ok (.iload_n 2, 1) := by decide +kernel
theorem dX9_finish_213 : decode cX9_finish 213 = .ok (.ifCond .ne 6, 3) := by decide +kernel
theorem dX9_finish_216 : decode cX9_finish 216 = .ok (.goto 24, 3) := by decide +kernel
theorem dX9_finish_219 : decode cX9_finish 219 = .ok (.aload_n 0, 1) := by decide +kernel
theorem dX9_finish_220 : decode cX9_finish 220 = .ok (.getfield 53, 3) := by decide +kernel
theorem dX9_finish_223 : decode cX9_finish 223 = .ok (.iload_n 1, 1) := by decide +kernel
theorem dX9_finish_224 : decode cX9_finish 224 = .ok (.bipush 7, 2) := by decide +kernel
theorem dX9_finish_226 : decode cX9_finish 226 = .ok (.iastore, 1) := by decide +kernel
theorem dX9_finish_227 : decode cX9_finish 227 = .ok (.aload_n 0, 1) := by decide +kernel
theorem dX9_finish_228 : decode cX9_finish 228 = .ok (.iconst 4, 1) := by decide +kernel
theorem dX9_finish_229 : decode cX9_finish 229 = .ok (.iload_n 1, 1) := by decide +kernel
theorem dX9_finish_230 : decode cX9_finish 230 = .ok (.iconst (-1), 1) := by decide +kernel
theorem dX9_finish_231 : decode cX9_finish 231 = .ok (.invokevirtual 121, 3) := by decide +kernel
theorem dX9_finish_234 : decode cX9_finish 234 = .ok (.aload_n 0, 1) := by decide +kernel
theorem dX9_finish_235 : decode cX9_finish 235 = .ok (.iload_n 1, 1) := by decide +kernel
theorem dX9_finish_236 : decode cX9_finish 236 = .ok (.iconst 0, 1) := by decide +kernel
theorem dX9_finish_237 : decode cX9_finish 237 = .ok (.invokevirtual 140, 3) := by decide +kernel
theorem dX9_finish_240 : decode cX9_finish 240 = .ok (.iinc 1 1, 3) := by decide +kernel
theorem dX9_finish_243 : decode cX9_finish 243 = .ok (.goto (-105), 3) := by decide +kernel
theorem dX9_finish_246 : decode cX9_finish 246 = .ok (.return_, 1) := by decide +kernel
set_option maxRecDepth 20000 in
theorem ggX9_come_X9_say : GoodIn wsX9_come wsX9_say := goodIn_r _ [11, 12, 13, 4, 31, 32, 33, 34, 35, 36, 37, 38, 39, 40, 41, 42, 43, 44, 45, 46, 47, 48, 49, 50, 51, 52, 53, 54, 55, 56, 57, 58, 59, 60, 61, 62, 63, 64, 65, 66, 67, 68, 69] (by decide +kernel) (by decide +kernel)
set_option maxRecDepth 20000 in
theorem gX9_come_X9_say : GoodIn wsX9_come (wsV RX9 121 RX9 yX9_say wsX9_say) := goodIn_app (goodIn_of _ (by decide +kernel)) ggX9_come_X9_say
set_option maxRecDepth 20000 in
theorem ggX9_come_X9_free : GoodIn wsX9_come wsX9_free := goodIn_r _ [17, 18, 19, 20, 21, 22, 23, 10, 24, 25, 7, 8, 9, 11, 12, 13, 4, 26, 27, 28, 29, 30, 31, 32, 33, 34, 35, 36, 37, 38, 39, 40, 41, 42, 43, 44, 45, 46, 47, 48, 49, 50, 51, 52, 53, 54, 55, 56, 57, 58, 59, 60, 61, 62, 63, 64, 65, 66, 67, 68, 69] (by decide +kernel) (by decide +kernel)
set_option maxRecDepth 20000 in
theorem gX9_come_X9_free : GoodIn wsX9_come (wsV RX9 140 RX9 yX9_free wsX9_free) := goodIn_app (goodIn_of _ (by decide +kernel)) ggX9_come_X9_free
theorem dX9_come_0 : decode cX9_come 0 = .ok (.iconst 0, 1) := by decide +kernel
theorem dX9_come_1 : decode cX9_come 1 = .ok (.istore_n 1, 1) := by decide +kernel
theorem dX9_come_2 : decode cX9_come 2 = .ok (.iload_n 1, 1) := by decide +kernel
theorem dX9_come_3 : decode cX9_come 3 = .ok (.aload_n 0, 1) := by decide +kernel
theorem dX9_come_4 : decode cX9_come 4 = .ok (.getfield 90, 3) := by decide +kernel
theorem dX9_come_7 : decode cX9_come 7 = .ok (.if_icmp .ge 58, 3) := by decide +kernel
theorem dX9_come_10 : decode cX9_come 10 = .ok (.aload_n 0, 1) := by decide +kernel
theorem dX9_come_11 : decode cX9_come 11 = .ok (.getfield 53, 3) := by decide +kernel
theorem dX9_come_14 : decode cX9_come 14 = .ok (.iload_n 1, 1) := by decide +kernel
theorem dX9_come_15 : decode cX9_come 15 = .ok (.iaload, 1) := by decide +kernel
theorem dX9_come_16 : decode cX9_come 16 = .ok (.ifCond .ne 43, 3) := by decide +kernel
theorem dX9_come_19 : decode cX9_come 19 = .ok (.aload_n 0, 1) := by decide +kernel
theorem dX9_come_20 : decode cX9_come 20 = .ok (.getfield 50, 3) := by decide +kernel
theorem dX9_come_23 : decode cX9_come 23 = .ok (.iload_n 1, 1) := by decide +kernel
theorem dX9_come_24 : decode cX9_come 24 = .ok (.iaload, 1) := by decide +kernel
theorem dX9_come_25 : decode cX9_come 25 = .ok (.aload_n 0, 1) := by decide +kernel
theorem dX9_come_26 : decode cX9_come 26 = .ok (.getfield 87, 3) := by decide +kernel
theorem dX9_come_29 : decode cX9_come 29 = .ok (.if_icmp .eq 6, 3) := by decide +kernel
theorem dX9_come_32 : decode cX9_come 32 = .ok (.goto 27, 3) := by decide +kernel
theorem dX9_come_35 : decode cX9_come 35 = .ok (.aload_n 0, 1) := by decide +kernel
theorem dX9_come_36 : decode cX9_come 36 = .ok (.getfield 53, 3) := by decide +kernel
theorem dX9_come_39 : decode cX9_come 39 = .ok (.iload_n 1, 1) := by decide +kernel
theorem dX9_come_40 : decode cX9_come 40 = .ok (.iconst 1, 1) := by decide +kernel
theorem dX9_come_41 : decode cX9_come 41 = .ok (.iastore, 1) := by decide +kernel
theorem dX9_come_42 : decode cX9_come 42 = .ok (.aload_n 0, 1) := by decide +kernel
theorem dX9_come_43 : decode cX9_come 43 = .ok (.getfield 59, 3) := by decide +kernel
theorem dX9_come_46 : decode cX9_come 46 = .ok (.iload_n 1, 1) := by decide +kernel
theorem dX9_come_47 : decode cX9_come 47 = .ok (.aload_n 0, 1) := by decide +kernel
theorem dX9_come_48 : decode cX9_come 48 = .ok (.getfield 87, 3) := by decide +kernel
theorem dX9_come_51 : decode cX9_come 51 = .ok (.iastore, 1) := by decide +kernel
theorem dX9_come_52 : decode cX9_come 52 = .ok (.aload_n 0, 1) := by decide +kernel
theorem dX9_come_53 : decode cX9_come 53 = .ok (.iconst 0, 1) := by decide +kernel
theorem dX9_come_54 : decode cX9_come 54 = .ok (.iload_n 1, 1) := by decide +kernel
theorem dX9_come_55 : decode cX9_come 55 = .ok (.iconst (-1), 1) := by decide +kernel
theorem dX9_come_56 : decode cX9_come 56 = .ok (.invokevirtual 121, 3) := by decide +kernel
theorem dX9_come_59 : decode cX9_come 59 = .ok (.iinc 1 1, 3) := by decide +kernel
theorem dX9_come_62 : decode cX9_come 62 = .ok (.goto (-60), 3) := by decide +kernel
theorem dX9_come_65 : decode cX9_come 65 = .ok (.iconst 0, 1) := by decide +kernel
theorem dX9_come_66 : decode cX9_come 66 = .ok (.istore_n 1, 1) := by decide +kernel
theorem dX9_come_67 : decode cX9_come 67 = .ok (.iload_n 1, 1) := by decide +kernel
theorem dX9_come_68 : decode cX9_come 68 = .ok (.aload_n 0, 1) := by decide +kernel
theorem dX9_come_69 : decode cX9_come 69 = .ok (.getfield 90, 3) := by decide +kernel
theorem dX9_come_72 : decode cX9_come 72 = .ok (.if_icmp .ge 63, 3) := by decide +kernel
theorem dX9_come_75 : decode cX9_come 75 = .ok (.aload_n 0, 1) := by decide +kernel
theorem dX9_come_76 : decode cX9_come 76 = .ok (.getfield 53, 3) := by decide +kernel
theorem dX9_come_79 : decode cX9_come 79 = .ok (.iload_n 1, 1) := by decide +kernel
theorem dX9_come_80 : decode cX9_come 80 = .ok (.iaload, 1) := by decide +kernel
theorem dX9_come_81 : decode cX9_come 81 = .ok (.iconst 1, 1) := by decide +kernel
theorem dX9_come_82 : decode cX9_come 82 = .ok (.if_icmp .ne 47, 3) := by decide +kernel
theorem dX9_come_85 : decode cX9_come 85 = .ok (.aload_n 0, 1) := by decide +kernel
theorem dX9_come_86 : decode cX9_come 86 = .ok (.getfield 87, 3) := by decide +kernel
theorem dX9_come_89 : decode cX9_come 89 = .ok (.aload_n 0, 1) := by decide +kernel
theorem dX9_come_90 : decode cX9_come 90 = .ok (.getfield 59, 3) := by decide +kernel
theorem dX9_come_93 : decode cX9_come 93 = .ok (.iload_n 1, 1) := by decide +kernel
theorem dX9_come_94 : decode cX9_come 94 = .ok (.iaload, 1) := by decide +kernel
theorem dX9_come_95 : decode cX9_come 95 = .ok (.isub, 1) := by decide +kernel
theorem dX9_come_96 : decode cX9_come 96 = .ok (.aload_n 0, 1) := by decide +kernel
theorem dX9_come_97 : decode cX9_come 97 = .ok (.getfield 44, 3) := by decide +kernel
theorem dX9_come_100 : decode cX9_come 100 = .ok (.iload_n 1, 1) := by decide +kernel
theorem dX9_come_101 : decode cX9_come 101 = .ok (.iaload, 1) := by decide +kernel
theorem dX9_come_102 : decode cX9_come 102 = .ok (.if_icmp .gt 6, 3) := by decide +kernel
theorem dX9_come_105 : decode cX9_come 105 = .ok (.goto 24, 3) := by decide +kernel
theorem dX9_come_108 : decode cX9_come 108 = .ok (.aload_n 0, 1) := by decide +kernel
theorem dX9_come_109 : decode cX9_come 109 = .ok (.getfield 53, 3) := by decide +kernel
theorem dX9_come_112 : decode cX9_come 112 = .ok (.iload_n 1, 1) := by decide +kernel
theorem dX9_come_113 : decode cX9_come 113 = .ok (.bipush 8, 2) := by decide +kernel
theorem dX9_come_115 : decode cX9_come 115 = .ok (.iastore, 1) := by decide +kernel
theorem dX9_come_116 : decode cX9_come 116 = .ok (.aload_n 0, 1) := by decide +kernel
theorem dX9_come_117 : decode cX9_come 117 = .ok (.iconst 5, 1) := by decide +kernel
theorem dX9_come_118 : decode cX9_come 118 = .ok (.iload_n 1, 1) := by decide +kernel
theorem dX9_come_119 : decode cX9_come 119 = .ok (.iconst (-1), 1) := by decide +kernel
theorem dX9_come_120 : decode cX9_come 120 = .ok (.invokevirtual 121, 3) := by decide +kernel
theorem dX9_come_123 : decode cX9_come 123 = .ok (.aload_n 0, 1) := by decide +kernel
theorem dX9_come_124 : decode cX9_come 124 = .ok (.iload_n 1, 1) := by decide +kernel
theorem dX9_come_125 : decode cX9_come 125 = .ok (.iconst 0, 1) := by decide +kernel
theorem dX9_come_126 : decode cX9_come 126 = .ok (.invokevirtual 140, 3) := by decide +kernel
theorem dX9_come_129 : decode cX9_come 129 = .ok (.iinc 1 1, 3) := by decide +kernel
theorem dX9_come_132 : decode cX9_come 132 = .ok (.goto (-65), 3) := by decide +kernel
theorem dX9_come_135 : decode cX9_come 135 = .ok (.return_, 1) := by decide +kernel
theorem dX9_firstWaiting_0 : decode cX9_firstWaiting 0 = .ok (.iconst (-1), 1) := by decide +kernel
theorem dX9_firstWaiting_1 : decode cX9_firstWaiting 1 = .ok (.istore_n 1, 1) := by decide +kernel
theorem dX9_firstWaiting_2 : decode cX9_firstWaiting 2 = .ok (.iconst 0, 1) := by decide +kernel
theorem dX9_firstWaiting_3 : decode cX9_firstWaiting 3 = .ok (.istore_n 2, 1) := by decide +kernel
theorem dX9_firstWaiting_4 : decode cX9_firstWaiting 4 = .ok (.iload_n 2, 1) := by decide +kernel
theorem dX9_firstWaiting_5 : decode cX9_firstWaiting 5 = .ok (.aload_n 0, 1) := by decide +kernel
theorem dX9_firstWaiting_6 : decode cX9_firstWaiting 6 = .ok (.getfield 90, 3) := by decide +kernel
theorem dX9_firstWaiting_9 : decode cX9_firstWaiting 9 = .ok (.if_icmp .ge 41, 3) := by decide +kernel
theorem dX9_firstWaiting_12 : decode cX9_firstWaiting 12 = .ok (.aload_n 0, 1) := by decide +kernel
theorem dX9_firstWaiting_13 : decode cX9_firstWaiting 13 = .ok (.getfield 53, 3) := by decide +kernel
theorem dX9_firstWaiting_16 : decode cX9_firstWaiting 16 = .ok (.iload_n 2, 1) := by decide +kernel
theorem dX9_firstWaiting_17 : decode cX9_firstWaiting 17 = .ok (.iaload, 1) := by decide +kernel
theorem dX9_firstWaiting_18 : decode cX9_firstWaiting 18 = .ok (.iconst 1, 1) := by decide +kernel
theorem dX9_firstWaiting_19 : decode cX9_firstWaiting 19 = .ok (.if_icmp .ne 25, 3) := by decide +kernel
theorem dX9_firstWaiting_22 : decode cX9_firstWaiting 22 = .ok (.iload_n 1, 1) := by decide +kernel
theorem dX9_firstWaiting_23 : decode cX9_firstWaiting 23 = .ok (.iconst (-1), 1) := by decide +kernel
theorem dX9_firstWaiting_24 : decode cX9_firstWaiting 24 = .ok (.if_icmp .eq 18, 3) := by decide +kernel
theorem dX9_firstWaiting_27 : decode cX9_firstWaiting 27 = .ok (.aload_n 0, 1) := by decide +kernel
theorem dX9_firstWaiting_28 : decode cX9_firstWaiting 28 = .ok (.getfield 41, 3) := by decide +kernel
theorem dX9_firstWaiting_31 : decode cX9_firstWaiting 31 = .ok (.iload_n 2, 1) := by decide +kernel
theorem dX9_firstWaiting_32 : decode cX9_firstWaiting 32 = .ok (.iaload, 1) := by decide +kernel
theorem dX9_firstWaiting_33 : decode cX9_firstWaiting 33 = .ok (.aload_n 0, 1) := by decide +kernel
theorem dX9_firstWaiting_34 : decode cX9_firstWaiting 34 = .ok (.getfield 41, 3) := by decide +kernel
theorem dX9_firstWaiting_37 : decode cX9_firstWaiting 37 = .ok (.iload_n 1, 1) := by decide +kernel
theorem dX9_firstWaiting_38 : decode cX9_firstWaiting 38 = .ok (.iaload, 1) := by decide +kernel
theorem dX9_firstWaiting_39 : decode cX9_firstWaiting 39 = .ok (.if_icmp .ge 5, 3) := by decide +kernel
theorem dX9_firstWaiting_42 : decode cX9_firstWaiting 42 = .ok (.iload_n 2, 1) := by decide +kernel
theorem dX9_firstWaiting_43 : decode cX9_firstWaiting 43 = .ok (.istore_n 1, 1) := by decide +kernel
theorem dX9_firstWaiting_44 : decode cX9_firstWaiting 44 = .ok (.iinc 2 1, 3) := by decide +kernel
theorem dX9_firstWaiting_47 : decode cX9_firstWaiting 47 = .ok (.goto (-43), 3) := by decide +kernel
theorem dX9_firstWaiting_50 : decode cX9_firstWaiting 50 = .ok (.iload_n 1, 1) := by decide +kernel
theorem dX9_firstWaiting_51 : decode cX9_firstWaiting 51 = .ok (.ireturn, 1) := by decide +kernel
theorem dX9_latestIdle_0 : decode cX9_latestIdle 0 = .ok (.iconst (-1), 1) := by decide +kernel
theorem dX9_latestIdle_1 : decode cX9_latestIdle 1 = .ok (.istore_n 1, 1) := by decide +kernel
theorem dX9_latestIdle_2 : decode cX9_latestIdle 2 = .ok (.iconst 0, 1) := by decide +kernel
theorem dX9_latestIdle_3 : decode cX9_latestIdle 3 = .ok (.istore_n 2, 1) := by decide +kernel
theorem dX9_latestIdle_4 : decode cX9_latestIdle 4 = .ok (.iload_n 2, 1) := by decide +kernel
theorem dX9_latestIdle_5 : decode cX9_latestIdle 5 = .ok (.bipush 12, 2) := by decide +kernel
theorem dX9_latestIdle_7 : decode cX9_latestIdle 7 = .ok (.if_icmp .ge 41, 3) := by decide +kernel
theorem dX9_latestIdle_10 : decode cX9_latestIdle 10 = .ok (.aload_n 0, 1) := by decide +kernel
theorem dX9_latestIdle_11 : decode cX9_latestIdle 11 = .ok (.getfield 22, 3) := by decide +kernel
theorem dX9_latestIdle_14 : decode cX9_latestIdle 14 = .ok (.iload_n 2, 1) := by decide +kernel
theorem dX9_latestIdle_15 : decode cX9_latestIdle 15 = .ok (.iaload, 1) := by decide +kernel
theorem dX9_latestIdle_16 : decode cX9_latestIdle 16 = .ok (.iconst 2, 1) := by decide +kernel
theorem dX9_latestIdle_17 : decode cX9_latestIdle 17 = .ok (.if_icmp .ne 25, 3) := by decide +kernel
theorem dX9_latestIdle_20 : decode cX9_latestIdle 20 = .ok (.iload_n 1, 1) := by decide +kernel
theorem dX9_latestIdle_21 : decode cX9_latestIdle 21 = .ok (.iconst (-1), 1) := by decide +kernel
theorem dX9_latestIdle_22 : decode cX9_latestIdle 22 = .ok (.if_icmp .eq 18, 3) := by decide +kernel
theorem dX9_latestIdle_25 : decode cX9_latestIdle 25 = .ok (.aload_n 0, 1) := by decide +kernel
theorem dX9_latestIdle_26 : decode cX9_latestIdle 26 = .ok (.getfield 35, 3) := by decide +kernel
theorem dX9_latestIdle_29 : decode cX9_latestIdle 29 = .ok (.iload_n 2, 1) := by decide +kernel
theorem dX9_latestIdle_30 : decode cX9_latestIdle 30 = .ok (.iaload, 1) := by decide +kernel
theorem dX9_latestIdle_31 : decode cX9_latestIdle 31 = .ok (.aload_n 0, 1) := by decide +kernel
theorem dX9_latestIdle_32 : decode cX9_latestIdle 32 = .ok (.getfield 35, 3) := by decide +kernel
theorem dX9_latestIdle_35 : decode cX9_latestIdle 35 = .ok (.iload_n 1, 1) := by decide +kernel
theorem dX9_latestIdle_36 : decode cX9_latestIdle 36 = .ok (.iaload, 1) := by decide +kernel
theorem dX9_latestIdle_37 : decode cX9_latestIdle 37 = .ok (.if_icmp .le 5, 3) := by decide +kernel
theorem dX9_latestIdle_40 : decode cX9_latestIdle 40 = .ok (.iload_n 2, 1) := by decide +kernel
theorem dX9_latestIdle_41 : decode cX9_latestIdle 41 = .ok (.istore_n 1, 1) := by decide +kernel
theorem dX9_latestIdle_42 : decode cX9_latestIdle 42 = .ok (.iinc 2 1, 3) := by decide +kernel
theorem dX9_latestIdle_45 : decode cX9_latestIdle 45 = .ok (.goto (-41), 3) := by decide +kernel
theorem dX9_latestIdle_48 : decode cX9_latestIdle 48 = .ok (.iload_n 1, 1) := by decide +kernel
theorem dX9_latestIdle_49 : decode cX9_latestIdle 49 = .ok (.ireturn, 1) := by decide +kernel
set_option maxRecDepth 20000 in
theorem ggX9_share_X9_firstWaiting : GoodIn wsX9_share wsX9_firstWaiting := goodIn_r _ [12, 13, 6, 14, 41, 42, 43, 44, 45, 46, 47, 48, 49, 50, 51, 52, 53, 54, 55, 56, 57, 58, 59, 60, 61, 62, 63, 64, 65, 66, 67, 68, 69, 70, 71, 72, 73, 74, 75, 76, 77, 78, 79] (by decide +kernel) (by decide +kernel)
set_option maxRecDepth 20000 in
theorem gX9_share_X9_firstWaiting : GoodIn wsX9_share (wsV RX9 144 RX9 yX9_firstWaiting wsX9_firstWaiting) := goodIn_app (goodIn_of _ (by decide +kernel)) ggX9_share_X9_firstWaiting
set_option maxRecDepth 20000 in
theorem ggX9_share_X9_latestIdle : GoodIn wsX9_share wsX9_latestIdle := goodIn_r _ [18, 3, 19, 41, 42, 43, 44, 45, 46, 47, 48, 49, 50, 51, 52, 53, 54, 55, 56, 57, 58, 59, 60, 61, 62, 63, 64, 65, 66, 67, 68, 69, 70, 71, 72, 73, 74, 75, 76, 77, 78, 79] (by decide +kernel) (by decide +kernel)
set_option maxRecDepth 20000 in
theorem gX9_share_X9_latestIdle : GoodIn wsX9_share (wsV RX9 148 RX9 yX9_latestIdle wsX9_latestIdle) := goodIn_app (goodIn_of _ (by decide +kernel)) ggX9_share_X9_latestIdle
set_option maxRecDepth 20000 in
theorem ggX9_share_X9_say : GoodIn wsX9_share wsX9_say := goodIn_r _ [23, 24, 25, 26, 41, 42, 43, 44, 45, 46, 47, 48, 49, 50, 51, 52, 53, 54, 55, 56, 57, 58, 59, 60, 61, 62, 63, 64, 65, 66, 67, 68, 69, 70, 71, 72, 73, 74, 75, 76, 77, 78, 79] (by decide +kernel) (by decide +kernel)
set_option maxRecDepth 20000 in
theorem gX9_share_X9_say : GoodIn wsX9_share (wsV RX9 121 RX9 yX9_say wsX9_say) := goodIn_app (goodIn_of _ (by decide +kernel)) ggX9_share_X9_say
set_option maxRecDepth 20000 in
theorem ggX9_share_X9_go : GoodIn wsX9_share wsX9_go := goodIn_r _ [30, 3, 7, 31, 20, 21, 22, 11, 23, 24, 25, 26, 41, 42, 43, 44, 45, 46, 47, 48, 49, 50, 51, 52, 53, 54, 55, 56, 57, 58, 59, 60, 61, 62, 63, 64, 65, 66, 67, 68, 69, 70, 71, 72, 73, 74, 75, 76, 77, 78, 79] (by decide +kernel) (by decide +kernel)
set_option maxRecDepth 20000 in
theorem gX9_share_X9_go : GoodIn wsX9_share (wsV RX9 125 RX9 yX9_go wsX9_go) := goodIn_app (goodIn_of _ (by decide +kernel)) ggX9_share_X9_go
set_option maxRecDepth 20000 in
theorem ggX9_share_X9_lend : GoodIn wsX9_share wsX9_lend := goodIn_r _ [35, 3, 4, 19, 26, 6, 36, 37, 38, 39, 40, 20, 21, 22, 11, 23, 24, 25, 41, 42, 43, 44, 45, 46, 47, 48, 49, 50, 51, 52, 53, 54, 55, 56, 57, 58, 59, 60, 61, 62, 63, 64, 65, 66, 67, 68, 69, 70, 71, 72, 73, 74, 75, 76, 77, 78, 79] (by decide +kernel) (by decide +kernel)
set_option maxRecDepth 20000 in
theorem gX9_share_X9_lend : GoodIn wsX9_share (wsV RX9 132 RX9 yX9_lend wsX9_lend) := goodIn_app (goodIn_of _ (by decide +kernel)) ggX9_share_X9_lend
theorem dX9_share_0 : decode cX9_share 0 = .ok (.aload_n 0, 1) := by decide +kernel
theorem dX9_share_1 : decode cX9_share 1 = .ok (.invokevirtual 144, 3) := by decide +kernel
theorem dX9_share_4 : decode cX9_share 4 = .ok (.istore_n 1, 1) := by decide +kernel
theorem dX9_share_5 : decode cX9_share 5 = .ok (.aload_n 0, 1) := by decide +kernel
theorem dX9_share_6 : decode cX9_share 6 = .ok (.invokevirtual 148, 3) := by decide +kernel
theorem dX9_share_9 : decode cX9_share 9 = .ok (.istore_n 2, 1) := by decide +kernel
theorem dX9_share_10 : decode cX9_share 10 = .ok (.iload_n 1, 1) := by decide +kernel
theorem dX9_share_11 : decode cX9_share 11 = .ok (.iconst (-1), 1) := by decide +kernel
theorem dX9_share_12 : decode cX9_share 12 = .ok (.if_icmp .eq 112, 3) := by decide +kernel
theorem dX9_share_15 : decode cX9_share 15 = .ok (.iload_n 2, 1) := by decide +kernel
theorem dX9_share_16 : decode cX9_share 16 = .ok (.iconst (-1), 1) := by decide +kernel
theorem dX9_share_17 : decode cX9_share 17 = .ok (.if_icmp .eq 107, 3) := by decide +kernel
theorem dX9_share_20 : decode cX9_share 20 = .ok (.aload_n 0, 1) := by decide +kernel
theorem dX9_share_21 : decode cX9_share 21 = .ok (.getfield 7, 3) := by decide +kernel
theorem dX9_share_24 : decode cX9_share 24 = .ok (.iconst 2, 1) := by decide +kernel
theorem dX9_share_25 : decode cX9_share 25 = .ok (.iaload, 1) := by decide +kernel
theorem dX9_share_26 : decode cX9_share 26 = .ok (.istore_n 3, 1) := by decide +kernel
theorem dX9_share_27 : decode cX9_share 27 = .ok (.iload_n 3, 1) := by decide +kernel
theorem dX9_share_28 : decode cX9_share 28 = .ok (.ifCond .lt 13, 3) := by decide +kernel
theorem dX9_share_31 : decode cX9_share 31 = .ok (.aload_n 0, 1) := by decide +kernel
theorem dX9_share_32 : decode cX9_share 32 = .ok (.dup, 1) := by decide +kernel
theorem dX9_share_33 : decode cX9_share 33 = .ok (.getfield 99, 3) := by decide +kernel
theorem dX9_share_36 : decode cX9_share 36 = .ok (.iconst 1, 1) := by decide +kernel
theorem dX9_share_37 : decode cX9_share 37 = .ok (.iadd, 1) := by decide +kernel
theorem dX9_share_38 : decode cX9_share 38 = .ok (.putfield 99, 3) := by decide +kernel
theorem dX9_share_41 : decode cX9_share 41 = .ok (.iload_n 3, 1) := by decide +kernel
theorem dX9_share_42 : decode cX9_share 42 = .ok (.ifCond .le 42, 3) := by decide +kernel
theorem dX9_share_45 : decode cX9_share 45 = .ok (.aload_n 0, 1) := by decide +kernel
theorem dX9_share_46 : decode cX9_share 46 = .ok (.getfield 22, 3) := by decide +kernel
theorem dX9_share_49 : decode cX9_share 49 = .ok (.iload_n 2, 1) := by decide +kernel
theorem dX9_share_50 : decode cX9_share 50 = .ok (.iconst 3, 1) := by decide +kernel
theorem dX9_share_51 : decode cX9_share 51 = .ok (.iastore, 1) := by decide +kernel
theorem dX9_share_52 : decode cX9_share 52 = .ok (.aload_n 0, 1) := by decide +kernel
theorem dX9_share_53 : decode cX9_share 53 = .ok (.getfield 29, 3) := by decide +kernel
theorem dX9_share_56 : decode cX9_share 56 = .ok (.iload_n 2, 1) := by decide +kernel
theorem dX9_share_57 : decode cX9_share 57 = .ok (.iload_n 1, 1) := by decide +kernel
theorem dX9_share_58 : decode cX9_share 58 = .ok (.iastore, 1) := by decide +kernel
theorem dX9_share_59 : decode cX9_share 59 = .ok (.aload_n 0, 1) := by decide +kernel
theorem dX9_share_60 : decode cX9_share 60 = .ok (.getfield 32, 3) := by decide +kernel
theorem dX9_share_63 : decode cX9_share 63 = .ok (.iload_n 2, 1) := by decide +kernel
theorem dX9_share_64 : decode cX9_share 64 = .ok (.iload_n 3, 1) := by decide +kernel
theorem dX9_share_65 : decode cX9_share 65 = .ok (.iastore, 1) := by decide +kernel
theorem dX9_share_66 : decode cX9_share 66 = .ok (.aload_n 0, 1) := by decide +kernel
theorem dX9_share_67 : decode cX9_share 67 = .ok (.getfield 53, 3) := by decide +kernel
theorem dX9_share_70 : decode cX9_share 70 = .ok (.iload_n 1, 1) := by decide +kernel
theorem dX9_share_71 : decode cX9_share 71 = .ok (.iconst 2, 1) := by decide +kernel
theorem dX9_share_72 : decode cX9_share 72 = .ok (.iastore, 1) := by decide +kernel
theorem dX9_share_73 : decode cX9_share 73 = .ok (.aload_n 0, 1) := by decide +kernel
theorem dX9_share_74 : decode cX9_share 74 = .ok (.bipush 8, 2) := by decide +kernel
theorem dX9_share_76 : decode cX9_share 76 = .ok (.iload_n 1, 1) := by decide +kernel
theorem dX9_share_77 : decode cX9_share 77 = .ok (.iload_n 2, 1) := by decide +kernel
theorem dX9_share_78 : decode cX9_share 78 = .ok (.invokevirtual 121, 3) := by decide +kernel
theorem dX9_share_81 : decode cX9_share 81 = .ok (.goto 30, 3) := by decide +kernel
theorem dX9_share_84 : decode cX9_share 84 = .ok (.iload_n 3, 1) := by decide +kernel
theorem dX9_share_85 : decode cX9_share 85 = .ok (.ifCond .ne 20, 3) := by decide +kernel
theorem dX9_share_88 : decode cX9_share 88 = .ok (.aload_n 0, 1) := by decide +kernel
theorem dX9_share_89 : decode cX9_share 89 = .ok (.getfield 25, 3) := by decide +kernel
theorem dX9_share_92 : decode cX9_share 92 = .ok (.iload_n 2, 1) := by decide +kernel
theorem dX9_share_93 : decode cX9_share 93 = .ok (.baload, 1) := by decide +kernel
theorem dX9_share_94 : decode cX9_share 94 = .ok (.ifCond .eq 11, 3) := by decide +kernel
theorem dX9_share_97 : decode cX9_share 97 = .ok (.aload_n 0, 1) := by decide +kernel
theorem dX9_share_98 : decode cX9_share 98 = .ok (.iload_n 2, 1) := by decide +kernel
theorem dX9_share_99 : decode cX9_share 99 = .ok (.invokevirtual 125, 3) := by decide +kernel
theorem dX9_share_102 : decode cX9_share 102 = .ok (.goto 9, 3) := by decide +kernel
theorem dX9_share_105 : decode cX9_share 105 = .ok (.aload_n 0, 1) := by decide +kernel
theorem dX9_share_106 : decode cX9_share 106 = .ok (.iload_n 2, 1) := by decide +kernel
theorem dX9_share_107 : decode cX9_share 107 = .ok (.iload_n 1, 1) := by decide +kernel
theorem dX9_share_108 : decode cX9_share 108 = .ok (.invokevirtual 132, 3) := by decide +kernel
theorem dX9_share_111 : decode cX9_share 111 = .ok (.aload_n 0, 1) := by decide +kernel
theorem dX9_share_112 : decode cX9_share 112 = .ok (.invokevirtual 144, 3) := by decide +kernel
theorem dX9_share_115 : decode cX9_share 115 = .ok (.istore_n 1, 1) := by decide +kernel
theorem dX9_share_116 : decode cX9_share 116 = .ok (.aload_n 0, 1) := by decide +kernel
theorem dX9_share_117 : decode cX9_share 117 = .ok (.invokevirtual 148, 3) := by decide +kernel
theorem dX9_share_120 : decode cX9_share 120 = .ok (.istore_n 2, 1) := by decide +kernel
theorem dX9_share_121 : decode cX9_share 121 = .ok (.goto (-111), 3) := by decide +kernel
theorem dX9_share_124 : decode cX9_share 124 = .ok (.return_, 1) := by decide +kernel
theorem dX9_lines_0 : decode cX9_lines 0 = .ok (.iconst 0, 1) := by decide +kernel
theorem dX9_lines_1 : decode cX9_lines 1 = .ok (.istore_n 1, 1) := by decide +kernel
theorem dX9_lines_2 : decode cX9_lines 2 = .ok (.iconst 0, 1) := by decide +kernel
theorem dX9_lines_3 : decode cX9_lines 3 = .ok (.istore_n 2, 1) := by decide +kernel
theorem dX9_lines_4 : decode cX9_lines 4 = .ok (.iload_n 2, 1) := by decide +kernel
theorem dX9_lines_5 : decode cX9_lines 5 = .ok (.bipush 12, 2) := by decide +kernel
theorem dX9_lines_7 : decode cX9_lines 7 = .ok (.if_icmp .ge 21, 3) := by decide +kernel
theorem dX9_lines_10 : decode cX9_lines 10 = .ok (.aload_n 0, 1) := by decide +kernel
theorem dX9_lines_11 : decode cX9_lines 11 = .ok (.getfield 22, 3) := by decide +kernel
theorem dX9_lines_14 : decode cX9_lines 14 = .ok (.iload_n 2, 1) := by decide +kernel
theorem dX9_lines_15 : decode cX9_lines 15 = .ok (.iaload, 1) := by decide +kernel
theorem dX9_lines_16 : decode cX9_lines 16 = .ok (.ifCond .le 6, 3) := by decide +kernel
theorem dX9_lines_19 : decode cX9_lines 19 = .ok (.iinc 1 1, 3) := by decide +kernel
theorem dX9_lines_22 : decode cX9_lines 22 = .ok (.iinc 2 1, 3) := by decide +kernel
theorem dX9_lines_25 : decode cX9_lines 25 = .ok (.goto (-21), 3) := by decide +kernel
theorem dX9_lines_28 : decode cX9_lines 28 = .ok (.iload_n 1, 1) := by decide +kernel
theorem dX9_lines_29 : decode cX9_lines 29 = .ok (.ireturn, 1) := by decide +kernel
theorem dX9_wanted_0 : decode cX9_wanted 0 = .ok (.iconst 0, 1) := by decide +kernel
theorem dX9_wanted_1 : decode cX9_wanted 1 = .ok (.istore_n 1, 1) := by decide +kernel
theorem dX9_wanted_2 : decode cX9_wanted 2 = .ok (.iconst 0, 1) := by decide +kernel
theorem dX9_wanted_3 : decode cX9_wanted 3 = .ok (.istore_n 2, 1) := by decide +kernel
theorem dX9_wanted_4 : decode cX9_wanted 4 = .ok (.iload_n 2, 1) := by decide +kernel
theorem dX9_wanted_5 : decode cX9_wanted 5 = .ok (.bipush 12, 2) := by decide +kernel
theorem dX9_wanted_7 : decode cX9_wanted 7 = .ok (.if_icmp .ge 22, 3) := by decide +kernel
theorem dX9_wanted_10 : decode cX9_wanted 10 = .ok (.aload_n 0, 1) := by decide +kernel
theorem dX9_wanted_11 : decode cX9_wanted 11 = .ok (.getfield 22, 3) := by decide +kernel
theorem dX9_wanted_14 : decode cX9_wanted 14 = .ok (.iload_n 2, 1) := by decide +kernel
theorem dX9_wanted_15 : decode cX9_wanted 15 = .ok (.iaload, 1) := by decide +kernel
theorem dX9_wanted_16 : decode cX9_wanted 16 = .ok (.iconst 3, 1) := by decide +kernel
theorem dX9_wanted_17 : decode cX9_wanted 17 = .ok (.if_icmp .lt 6, 3) := by decide +kernel
theorem dX9_wanted_20 : decode cX9_wanted 20 = .ok (.iinc 1 1, 3) := by decide +kernel
theorem dX9_wanted_23 : decode cX9_wanted 23 = .ok (.iinc 2 1, 3) := by decide +kernel
theorem dX9_wanted_26 : decode cX9_wanted 26 = .ok (.goto (-22), 3) := by decide +kernel
theorem dX9_wanted_29 : decode cX9_wanted 29 = .ok (.iconst 0, 1) := by decide +kernel
theorem dX9_wanted_30 : decode cX9_wanted 30 = .ok (.istore_n 2, 1) := by decide +kernel
theorem dX9_wanted_31 : decode cX9_wanted 31 = .ok (.iload_n 2, 1) := by decide +kernel
theorem dX9_wanted_32 : decode cX9_wanted 32 = .ok (.aload_n 0, 1) := by decide +kernel
theorem dX9_wanted_33 : decode cX9_wanted 33 = .ok (.getfield 90, 3) := by decide +kernel
theorem dX9_wanted_36 : decode cX9_wanted 36 = .ok (.if_icmp .ge 22, 3) := by decide +kernel
theorem dX9_wanted_39 : decode cX9_wanted 39 = .ok (.aload_n 0, 1) := by decide +kernel
theorem dX9_wanted_40 : decode cX9_wanted 40 = .ok (.getfield 53, 3) := by decide +kernel
theorem dX9_wanted_43 : decode cX9_wanted 43 = .ok (.iload_n 2, 1) := by decide +kernel
theorem dX9_wanted_44 : decode cX9_wanted 44 = .ok (.iaload, 1) := by decide +kernel
theorem dX9_wanted_45 : decode cX9_wanted 45 = .ok (.iconst 1, 1) := by decide +kernel
theorem dX9_wanted_46 : decode cX9_wanted 46 = .ok (.if_icmp .ne 6, 3) := by decide +kernel
theorem dX9_wanted_49 : decode cX9_wanted 49 = .ok (.iinc 1 1, 3) := by decide +kernel
theorem dX9_wanted_52 : decode cX9_wanted 52 = .ok (.iinc 2 1, 3) := by decide +kernel
theorem dX9_wanted_55 : decode cX9_wanted 55 = .ok (.goto (-24), 3) := by decide +kernel
theorem dX9_wanted_58 : decode cX9_wanted 58 = .ok (.iload_n 1, 1) := by decide +kernel
theorem dX9_wanted_59 : decode cX9_wanted 59 = .ok (.ireturn, 1) := by decide +kernel
set_option maxRecDepth 20000 in
theorem ggX9_tend_X9_lines : GoodIn wsX9_tend wsX9_lines := goodIn_r _ [12, 1, 34, 35, 36, 37, 38, 39, 40, 41, 42, 43, 44, 45, 46, 47, 48, 49, 50, 51, 52, 53, 54, 55, 56, 57, 58, 59, 60, 61, 62, 63, 64, 65, 66, 67, 68, 69, 70, 71, 72] (by decide +kernel) (by decide +kernel)
set_option maxRecDepth 20000 in
theorem gX9_tend_X9_lines : GoodIn wsX9_tend (wsV RX9 151 RX9 yX9_lines wsX9_lines) := goodIn_app (goodIn_of _ (by decide +kernel)) ggX9_tend_X9_lines
set_option maxRecDepth 20000 in
theorem ggX9_tend_X9_go : GoodIn wsX9_tend wsX9_go := goodIn_r _ [16, 1, 5, 17, 18, 19, 20, 11, 21, 22, 23, 2, 34, 35, 36, 37, 38, 39, 40, 41, 42, 43, 44, 45, 46, 47, 48, 49, 50, 51, 52, 53, 54, 55, 56, 57, 58, 59, 60, 61, 62, 63, 64, 65, 66, 67, 68, 69, 70, 71, 72] (by decide +kernel) (by decide +kernel)
set_option maxRecDepth 20000 in
theorem gX9_tend_X9_go : GoodIn wsX9_tend (wsV RX9 125 RX9 yX9_go wsX9_go) := goodIn_app (goodIn_of _ (by decide +kernel)) ggX9_tend_X9_go
set_option maxRecDepth 20000 in
theorem ggX9_tend_X9_wanted : GoodIn wsX9_tend wsX9_wanted := goodIn_r _ [27, 1, 28, 29, 34, 35, 36, 37, 38, 39, 40, 41, 42, 43, 44, 45, 46, 47, 48, 49, 50, 51, 52, 53, 54, 55, 56, 57, 58, 59, 60, 61, 62, 63, 64, 65, 66, 67, 68, 69, 70, 71, 72] (by decide +kernel) (by decide +kernel)
set_option maxRecDepth 20000 in
theorem gX9_tend_X9_wanted : GoodIn wsX9_tend (wsV RX9 154 RX9 yX9_wanted wsX9_wanted) := goodIn_app (goodIn_of _ (by decide +kernel)) ggX9_tend_X9_wanted
set_option maxRecDepth 20000 in
theorem ggX9_tend_X9_say : GoodIn wsX9_tend wsX9_say := goodIn_r _ [21, 22, 23, 2, 34, 35, 36, 37, 38, 39, 40, 41, 42, 43, 44, 45, 46, 47, 48, 49, 50, 51, 52, 53, 54, 55, 56, 57, 58, 59, 60, 61, 62, 63, 64, 65, 66, 67, 68, 69, 70, 71, 72] (by decide +kernel) (by decide +kernel)
set_option maxRecDepth 20000 in
theorem gX9_tend_X9_say : GoodIn wsX9_tend (wsV RX9 121 RX9 yX9_say wsX9_say) := goodIn_app (goodIn_of _ (by decide +kernel)) ggX9_tend_X9_say
set_option maxRecDepth 20000 in
theorem ggX9_tend_X9_rest : GoodIn wsX9_tend wsX9_rest := goodIn_r _ [33, 1, 3, 2, 34, 35, 36, 37, 38, 39, 40, 41, 42, 43, 44, 45, 46, 47, 48, 49, 50, 51, 52, 53, 54, 55, 56, 57, 58, 59, 60, 61, 62, 63, 64, 65, 66, 67, 68, 69, 70, 71, 72] (by decide +kernel) (by decide +kernel)
set_option maxRecDepth 20000 in
theorem gX9_tend_X9_rest : GoodIn wsX9_tend (wsV RX9 129 RX9 yX9_rest wsX9_rest) := goodIn_app (goodIn_of _ (by decide +kernel)) ggX9_tend_X9_rest
theorem dX9_tend_0 : decode cX9_tend 0 = .ok (.iconst 0, 1) := by decide +kernel
theorem dX9_tend_1 : decode cX9_tend 1 = .ok (.istore_n 1, 1) := by decide +kernel
theorem dX9_tend_2 : decode cX9_tend 2 = .ok (.iload_n 1, 1) := by decide +kernel
theorem dX9_tend_3 : decode cX9_tend 3 = .ok (.bipush 12, 2) := by decide +kernel
theorem dX9_tend_5 : decode cX9_tend 5 = .ok (.if_icmp .ge 57, 3) := by decide +kernel
theorem dX9_tend_8 : decode cX9_tend 8 = .ok (.aload_n 0, 1) := by decide +kernel
theorem dX9_tend_9 : decode cX9_tend 9 = .ok (.getfield 22, 3) := by decide +kernel
theorem dX9_tend_12 : decode cX9_tend 12 = .ok (.iload_n 1, 1) := by decide +kernel
theorem dX9_tend_13 : decode cX9_tend 13 = .ok (.iaload, 1) := by decide +kernel
theorem dX9_tend_14 : decode cX9_tend 14 = .ok (.iconst 2, 1) := by decide +kernel
theorem dX9_tend_15 : decode cX9_tend 15 = .ok (.if_icmp .ne 41, 3) := by decide +kernel
theorem dX9_tend_18 : decode cX9_tend 18 = .ok (.aload_n 0, 1) := by decide +kernel
theorem dX9_tend_19 : decode cX9_tend 19 = .ok (.getfield 87, 3) := by decide +kernel
theorem dX9_tend_22 : decode cX9_tend 22 = .ok (.aload_n 0, 1) := by decide +kernel
theorem dX9_tend_23 : decode cX9_tend 23 = .ok (.getfield 35, 3) := by decide +kernel
theorem dX9_tend_26 : decode cX9_tend 26 = .ok (.iload_n 1, 1) := by decide +kernel
theorem dX9_tend_27 : decode cX9_tend 27 = .ok (.iaload, 1) := by decide +kernel
theorem dX9_tend_28 : decode cX9_tend 28 = .ok (.isub, 1) := by decide +kernel
theorem dX9_tend_29 : decode cX9_tend 29 = .ok (.aload_n 0, 1) := by decide +kernel
theorem dX9_tend_30 : decode cX9_tend 30 = .ok (.getfield 7, 3) := by decide +kernel
theorem dX9_tend_33 : decode cX9_tend 33 = .ok (.iconst 4, 1) := by decide +kernel
theorem dX9_tend_34 : decode cX9_tend 34 = .ok (.iaload, 1) := by decide +kernel
theorem dX9_tend_35 : decode cX9_tend 35 = .ok (.if_icmp .lt 21, 3) := by decide +kernel
theorem dX9_tend_38 : decode cX9_tend 38 = .ok (.aload_n 0, 1) := by decide +kernel
theorem dX9_tend_39 : decode cX9_tend 39 = .ok (.invokevirtual 151, 3) := by decide +kernel
theorem dX9_tend_42 : decode cX9_tend 42 = .ok (.aload_n 0, 1) := by decide +kernel
theorem dX9_tend_43 : decode cX9_tend 43 = .ok (.getfield 7, 3) := by decide +kernel
theorem dX9_tend_46 : decode cX9_tend 46 = .ok (.iconst 5, 1) := by decide +kernel
theorem dX9_tend_47 : decode cX9_tend 47 = .ok (.iaload, 1) := by decide +kernel
theorem dX9_tend_48 : decode cX9_tend 48 = .ok (.if_icmp .le 8, 3) := by decide +kernel
theorem dX9_tend_51 : decode cX9_tend 51 = .ok (.aload_n 0, 1) := by decide +kernel
theorem dX9_tend_52 : decode cX9_tend 52 = .ok (.iload_n 1, 1) := by decide +kernel
theorem dX9_tend_53 : decode cX9_tend 53 = .ok (.invokevirtual 125, 3) := by decide +kernel
theorem dX9_tend_56 : decode cX9_tend 56 = .ok (.iinc 1 1, 3) := by decide +kernel
theorem dX9_tend_59 : decode cX9_tend 59 = .ok (.goto (-57), 3) := by decide +kernel
theorem dX9_tend_62 : decode cX9_tend 62 = .ok (.bipush 11, 2) := by decide +kernel
theorem dX9_tend_64 : decode cX9_tend 64 = .ok (.istore_n 1, 1) := by decide +kernel
theorem dX9_tend_65 : decode cX9_tend 65 = .ok (.iload_n 1, 1) := by decide +kernel
theorem dX9_tend_66 : decode cX9_tend 66 = .ok (.ifCond .lt 37, 3) := by decide +kernel
theorem dX9_tend_69 : decode cX9_tend 69 = .ok (.aload_n 0, 1) := by decide +kernel
theorem dX9_tend_70 : decode cX9_tend 70 = .ok (.getfield 22, 3) := by decide +kernel
theorem dX9_tend_73 : decode cX9_tend 73 = .ok (.iload_n 1, 1) := by decide +kernel
theorem dX9_tend_74 : decode cX9_tend 74 = .ok (.iaload, 1) := by decide +kernel
theorem dX9_tend_75 : decode cX9_tend 75 = .ok (.iconst 2, 1) := by decide +kernel
theorem dX9_tend_76 : decode cX9_tend 76 = .ok (.if_icmp .ne 21, 3) := by decide +kernel
theorem dX9_tend_79 : decode cX9_tend 79 = .ok (.aload_n 0, 1) := by decide +kernel
theorem dX9_tend_80 : decode cX9_tend 80 = .ok (.invokevirtual 151, 3) := by decide +kernel
theorem dX9_tend_83 : decode cX9_tend 83 = .ok (.aload_n 0, 1) := by decide +kernel
theorem dX9_tend_84 : decode cX9_tend 84 = .ok (.getfield 7, 3) := by decide +kernel
theorem dX9_tend_87 : decode cX9_tend 87 = .ok (.iconst 0, 1) := by decide +kernel
theorem dX9_tend_88 : decode cX9_tend 88 = .ok (.iaload, 1) := by decide +kernel
theorem dX9_tend_89 : decode cX9_tend 89 = .ok (.if_icmp .le 8, 3) := by decide +kernel
theorem dX9_tend_92 : decode cX9_tend 92 = .ok (.aload_n 0, 1) := by decide +kernel
theorem dX9_tend_93 : decode cX9_tend 93 = .ok (.iload_n 1, 1) := by decide +kernel
theorem dX9_tend_94 : decode cX9_tend 94 = .ok (.invokevirtual 125, 3) := by decide +kernel
theorem dX9_tend_97 : decode cX9_tend 97 = .ok (.iinc 1 (-1), 3) := by decide +kernel
theorem dX9_tend_100 : decode cX9_tend 100 = .ok (.goto (-35), 3) := by decide +kernel
theorem dX9_tend_103 : decode cX9_tend 103 = .ok (.aload_n 0, 1) := by decide +kernel
theorem dX9_tend_104 : decode cX9_tend 104 = .ok (.invokevirtual 151, 3) := by decide +kernel
theorem dX9_tend_107 : decode cX9_tend 107 = .ok (.aload_n 0, 1) := by decide +kernel
theorem dX9_tend_108 : decode cX9_tend 108 = .ok (.getfield 7, 3) := by decide +kernel
theorem dX9_tend_111 : decode cX9_tend 111 = .ok (.iconst 0, 1) := by decide +kernel
theorem dX9_tend_112 : decode cX9_tend 112 = .ok (.iaload, 1) := by decide +kernel
theorem dX9_tend_113 : decode cX9_tend 113 = .ok (.if_icmp .ge 108, 3) := by decide +kernel
theorem dX9_tend_116 : decode cX9_tend 116 = .ok (.aload_n 0, 1) := by decide +kernel
theorem dX9_tend_117 : decode cX9_tend 117 = .ok (.invokevirtual 151, 3) := by decide +kernel
theorem dX9_tend_120 : decode cX9_tend 120 = .ok (.aload_n 0, 1) := by decide +kernel
theorem dX9_tend_121 : decode cX9_tend 121 = .ok (.getfield 7, 3) := by decide +kernel
theorem dX9_tend_124 : decode cX9_tend 124 = .ok (.iconst 5, 1) := by decide +kernel
theorem dX9_tend_125 : decode cX9_tend 125 = .ok (.iaload, 1) := by decide +kernel
theorem dX9_tend_126 : decode cX9_tend 126 = .ok (.if_icmp .lt 14, 3) := by decide +kernel
theorem dX9_tend_129 : decode cX9_tend 129 = .ok (.aload_n 0, 1) := by decide +kernel
theorem dX9_tend_130 : decode cX9_tend 130 = .ok (.invokevirtual 151, 3) := by decide +kernel
theorem dX9_tend_133 : decode cX9_tend 133 = .ok (.aload_n 0, 1) := by decide +kernel
theorem dX9_tend_134 : decode cX9_tend 134 = .ok (.invokevirtual 154, 3) := by decide +kernel
theorem dX9_tend_137 : decode cX9_tend 137 = .ok (.if_icmp .ge 84, 3) := by decide +kernel
theorem dX9_tend_140 : decode cX9_tend 140 = .ok (.iconst 0, 1) := by decide +kernel
theorem dX9_tend_141 : decode cX9_tend 141 = .ok (.istore_n 1, 1) := by decide +kernel
theorem dX9_tend_142 : decode cX9_tend 142 = .ok (.aload_n 0, 1) := by decide +kernel
theorem dX9_tend_143 : decode cX9_tend 143 = .ok (.getfield 22, 3) := by decide +kernel
theorem dX9_tend_146 : decode cX9_tend 146 = .ok (.iload_n 1, 1) := by decide +kernel
theorem dX9_tend_147 : decode cX9_tend 147 = .ok (.iaload, 1) := by decide +kernel
theorem dX9_tend_148 : decode cX9_tend 148 = .ok (.ifCond .le 9, 3) := by decide +kernel
theorem dX9_tend_151 : decode cX9_tend 151 = .ok (.iinc 1 1, 3) := by decide +kernel
theorem dX9_tend_154 : decode cX9_tend 154 = .ok (.goto (-12), 3) := by decide +kernel
theorem dX9_tend_157 : decode cX9_tend 157 = .ok (.aload_n 0, 1) := by decide +kernel
theorem dX9_tend_158 : decode cX9_tend 158 = .ok (.getfield 25, 3) := by decide +kernel
theorem dX9_tend_161 : decode cX9_tend 161 = .ok (.iload_n 1, 1) := by decide +kernel
theorem dX9_tend_162 : decode cX9_tend 162 = .ok (.iconst 0, 1) := by decide +kernel
theorem dX9_tend_163 : decode cX9_tend 163 = .ok (.bastore, 1) := by decide +kernel
theorem dX9_tend_164 : decode cX9_tend 164 = .ok (.aload_n 0, 1) := by decide +kernel
theorem dX9_tend_165 : decode cX9_tend 165 = .ok (.dup, 1) := by decide +kernel
theorem dX9_tend_166 : decode cX9_tend 166 = .ok (.getfield 102, 3) := by decide +kernel
theorem dX9_tend_169 : decode cX9_tend 169 = .ok (.iconst 1, 1) := by decide +kernel
theorem dX9_tend_170 : decode cX9_tend 170 = .ok (.iadd, 1) := by decide +kernel
theorem dX9_tend_171 : decode cX9_tend 171 = .ok (.putfield 102, 3) := by decide +kernel
theorem dX9_tend_174 : decode cX9_tend 174 = .ok (.aload_n 0, 1) := by decide +kernel
theorem dX9_tend_175 : decode cX9_tend 175 = .ok (.bipush 6, 2) := by decide +kernel
theorem dX9_tend_177 : decode cX9_tend 177 = .ok (.iconst (-1), 1) := by decide +kernel
theorem dX9_tend_178 : decode cX9_tend 178 = .ok (.iload_n 1, 1) := by decide +kernel
theorem dX9_tend_179 : decode cX9_tend 179 = .ok (.invokevirtual 121, 3) := by decide +kernel
theorem dX9_tend_182 : decode cX9_tend 182 = .ok (.aload_n 0, 1) := by decide +kernel
theorem dX9_tend_183 : decode cX9_tend 183 = .ok (.getfield 7, 3) := by decide +kernel
theorem dX9_tend_186 : decode cX9_tend 186 = .ok (.iconst 1, 1) := by decide +kernel
theorem dX9_tend_187 : decode cX9_tend 187 = .ok (.iaload, 1) := by decide +kernel
theorem dX9_tend_188 : decode cX9_tend 188 = .ok (.ifCond .ne 11, 3) := by decide +kernel
theorem dX9_tend_191 : decode cX9_tend 191 = .ok (.aload_n 0, 1) := by decide +kernel
theorem dX9_tend_192 : decode cX9_tend 192 = .ok (.iload_n 1, 1) := by decide +kernel
theorem dX9_tend_193 : decode cX9_tend 193 = .ok (.invokevirtual 129, 3) := by decide +kernel
theorem dX9_tend_196 : decode cX9_tend 196 = .ok (.goto 22, 3) := by decide +kernel
theorem dX9_tend_199 : decode cX9_tend 199 = .ok (.aload_n 0, 1) := by decide +kernel
theorem dX9_tend_200 : decode cX9_tend 200 = .ok (.getfield 22, 3) := by decide +kernel
theorem dX9_tend_203 : decode cX9_tend 203 = .ok (.iload_n 1, 1) := by decide +kernel
theorem dX9_tend_204 : decode cX9_tend 204 = .ok (.iconst 1, 1) := by decide +kernel
theorem dX9_tend_205 : decode cX9_tend 205 = .ok (.iastore, 1) := by decide +kernel
theorem dX9_tend_206 : decode cX9_tend 206 = .ok (.aload_n 0, 1) := by decide +kernel
theorem dX9_tend_207 : decode cX9_tend 207 = .ok (.getfield 32, 3) := by decide +kernel
theorem dX9_tend_210 : decode cX9_tend 210 = .ok (.iload_n 1, 1) := by decide +kernel
theorem dX9_tend_211 : decode cX9_tend 211 = .ok (.aload_n 0, 1) := by decide +kernel
theorem dX9_tend_212 : decode cX9_tend 212 = .ok (.getfield 7, 3) := by decide +kernel
theorem dX9_tend_215 : decode cX9_tend 215 = .ok (.iconst 1, 1) := by decide +kernel
theorem dX9_tend_216 : decode cX9_tend 216 = .ok (.iaload, 1) := by decide +kernel
theorem dX9_tend_217 : decode cX9_tend 217 = .ok (.iastore, 1) := by decide +kernel
theorem dX9_tend_218 : decode cX9_tend 218 = .ok (.goto (-115), 3) := by decide +kernel
theorem dX9_tend_221 : decode cX9_tend 221 = .ok (.return_, 1) := by decide +kernel
set_option maxRecDepth 20000 in
theorem ggX9_run_X9_many : GoodIn wsX9_run wsX9_many := goodIn_r _ [12, 13, 14, 100, 101, 102, 103, 104, 105, 106, 107, 108, 109, 110, 111, 112, 113, 114, 115, 116, 117, 118, 119, 120, 121, 122, 123, 124, 125, 126, 127, 128, 129, 130, 131, 132, 133, 134, 135, 136, 137, 138] (by decide +kernel) (by decide +kernel)
set_option maxRecDepth 20000 in
theorem gX9_run_X9_many : GoodIn wsX9_run (wsV RX9 157 RX9 yX9_many wsX9_many) := goodIn_app (goodIn_of _ (by decide +kernel)) ggX9_run_X9_many
set_option maxRecDepth 20000 in
theorem ggX9_run_X9_turnSlots : GoodIn wsX9_run wsX9_turnSlots := goodIn_r _ [18, 5, 19, 7, 14, 20, 21, 22, 23, 11, 24, 25, 2, 26, 27, 28, 29, 30, 31, 32, 33, 34, 35, 36, 37, 38, 39, 40, 41, 42, 43, 44, 45, 100, 101, 102, 103, 104, 105, 106, 107, 108, 109, 110, 111, 112, 113, 114, 115, 116, 117, 118, 119, 120, 121, 122, 123, 124, 125, 126, 127, 128, 129, 130, 131, 132, 133, 134, 135, 136, 137, 138] (by decide +kernel) (by decide +kernel)
set_option maxRecDepth 20000 in
theorem gX9_run_X9_turnSlots : GoodIn wsX9_run (wsV RX9 161 RX9 yX9_turnSlots wsX9_turnSlots) := goodIn_app (goodIn_of _ (by decide +kernel)) ggX9_run_X9_turnSlots
set_option maxRecDepth 20000 in
theorem ggX9_run_X9_doWork : GoodIn wsX9_run wsX9_doWork := goodIn_r _ [49, 13, 14, 50, 51, 52, 53, 54, 11, 55, 5, 20, 7, 31, 32, 33, 34, 35, 36, 2, 56, 57, 58, 59, 26, 27, 28, 29, 30, 21, 22, 23, 24, 25, 100, 101, 102, 103, 104, 105, 106, 107, 108, 109, 110, 111, 112, 113, 114, 115, 116, 117, 118, 119, 120, 121, 122, 123, 124, 125, 126, 127, 128, 129, 130, 131, 132, 133, 134, 135, 136, 137, 138] (by decide +kernel) (by decide +kernel)
set_option maxRecDepth 20000 in
theorem gX9_run_X9_doWork : GoodIn wsX9_run (wsV RX9 164 RX9 yX9_doWork wsX9_doWork) := goodIn_app (goodIn_of _ (by decide +kernel)) ggX9_run_X9_doWork
set_option maxRecDepth 20000 in
theorem ggX9_run_X9_finish : GoodIn wsX9_run wsX9_finish := goodIn_r _ [63, 13, 14, 51, 64, 41, 65, 2, 66, 5, 20, 25, 67, 31, 32, 33, 11, 34, 35, 36, 56, 57, 58, 59, 7, 26, 27, 28, 29, 30, 21, 22, 23, 24, 100, 101, 102, 103, 104, 105, 106, 107, 108, 109, 110, 111, 112, 113, 114, 115, 116, 117, 118, 119, 120, 121, 122, 123, 124, 125, 126, 127, 128, 129, 130, 131, 132, 133, 134, 135, 136, 137, 138] (by decide +kernel) (by decide +kernel)
set_option maxRecDepth 20000 in
theorem gX9_run_X9_finish : GoodIn wsX9_run (wsV RX9 167 RX9 yX9_finish wsX9_finish) := goodIn_app (goodIn_of _ (by decide +kernel)) ggX9_run_X9_finish
set_option maxRecDepth 20000 in
theorem ggX9_run_X9_come : GoodIn wsX9_run wsX9_come := goodIn_r _ [71, 13, 14, 42, 2, 65, 72, 31, 32, 33, 11, 34, 35, 36, 56, 57, 58, 59, 5, 20, 7, 26, 27, 28, 29, 30, 21, 22, 23, 24, 25, 100, 101, 102, 103, 104, 105, 106, 107, 108, 109, 110, 111, 112, 113, 114, 115, 116, 117, 118, 119, 120, 121, 122, 123, 124, 125, 126, 127, 128, 129, 130, 131, 132, 133, 134, 135, 136, 137, 138] (by decide +kernel) (by decide +kernel)
set_option maxRecDepth 20000 in
theorem gX9_run_X9_come : GoodIn wsX9_run (wsV RX9 170 RX9 yX9_come wsX9_come) := goodIn_app (goodIn_of _ (by decide +kernel)) ggX9_run_X9_come
set_option maxRecDepth 20000 in
theorem ggX9_run_X9_share : GoodIn wsX9_run wsX9_share := goodIn_r _ [76, 67, 77, 5, 20, 19, 14, 7, 78, 79, 80, 11, 81, 13, 82, 83, 84, 85, 86, 25, 31, 32, 33, 34, 35, 36, 2, 26, 27, 28, 29, 30, 37, 38, 39, 40, 41, 42, 43, 44, 45, 100, 101, 102, 103, 104, 105, 106, 107, 108, 109, 110, 111, 112, 113, 114, 115, 116, 117, 118, 119, 120, 121, 122, 123, 124, 125, 126, 127, 128, 129, 130, 131, 132, 133, 134, 135, 136, 137, 138] (by decide +kernel) (by decide +kernel)
set_option maxRecDepth 20000 in
theorem gX9_run_X9_share : GoodIn wsX9_run (wsV RX9 173 RX9 yX9_share wsX9_share) := goodIn_app (goodIn_of _ (by decide +kernel)) ggX9_run_X9_share
set_option maxRecDepth 20000 in
theorem ggX9_run_X9_tend : GoodIn wsX9_run wsX9_tend := goodIn_r _ [90, 5, 2, 25, 67, 7, 91, 19, 92, 93, 94, 11, 95, 26, 27, 28, 29, 30, 31, 32, 33, 34, 35, 36, 96, 97, 98, 99, 13, 14, 21, 22, 23, 24, 100, 101, 102, 103, 104, 105, 106, 107, 108, 109, 110, 111, 112, 113, 114, 115, 116, 117, 118, 119, 120, 121, 122, 123, 124, 125, 126, 127, 128, 129, 130, 131, 132, 133, 134, 135, 136, 137, 138] (by decide +kernel) (by decide +kernel)
set_option maxRecDepth 20000 in
theorem gX9_run_X9_tend : GoodIn wsX9_run (wsV RX9 176 RX9 yX9_tend wsX9_tend) := goodIn_app (goodIn_of _ (by decide +kernel)) ggX9_run_X9_tend
theorem dX9_run_0 : decode cX9_run 0 = .ok (.aload_n 0, 1) := by decide +kernel
