theorem dX5_bestSize_31 : decode cX5_bestSize 31 = .ok (.aload_n 0, 1) := by decide +kernel
theorem dX5_bestSize_32 : decode cX5_bestSize 32 = .ok (.iload_n 1, 1) := by decide +kernel
theorem dX5_bestSize_33 : decode cX5_bestSize 33 = .ok (.iload_n 2, 1) := by decide +kernel
theorem dX5_bestSize_34 : decode cX5_bestSize 34 = .ok (.iload 9, 2) := by decide +kernel
theorem dX5_bestSize_36 : decode cX5_bestSize 36 = .ok (.invokevirtual 37, 3) := by decide +kernel
theorem dX5_bestSize_39 : decode cX5_bestSize 39 = .ok (.aload_n 0, 1) := by decide +kernel
theorem dX5_bestSize_40 : decode cX5_bestSize 40 = .ok (.getfield 13, 3) := by decide +kernel
theorem dX5_bestSize_43 : decode cX5_bestSize 43 = .ok (.aload_n 0, 1) := by decide +kernel
theorem dX5_bestSize_44 : decode cX5_bestSize 44 = .ok (.getfield 17, 3) := by decide +kernel
theorem dX5_bestSize_47 : decode cX5_bestSize 47 = .ok (.lload 5, 2) := by decide +kernel
theorem dX5_bestSize_49 : decode cX5_bestSize 49 = .ok (.lload 7, 2) := by decide +kernel
theorem dX5_bestSize_51 : decode cX5_bestSize 51 = .ok (.invokestatic 41, 3) := by decide +kernel
theorem dX5_bestSize_54 : decode cX5_bestSize 54 = .ok (.ifCond .eq 19, 3) := by decide +kernel
theorem dX5_bestSize_57 : decode cX5_bestSize 57 = .ok (.iload 9, 2) := by decide +kernel
theorem dX5_bestSize_59 : decode cX5_bestSize 59 = .ok (.istore 4, 2) := by decide +kernel
theorem dX5_bestSize_61 : decode cX5_bestSize 61 = .ok (.aload_n 0, 1) := by decide +kernel
theorem dX5_bestSize_62 : decode cX5_bestSize 62 = .ok (.getfield 13, 3) := by decide +kernel
theorem dX5_bestSize_65 : decode cX5_bestSize 65 = .ok (.lstore 5, 2) := by decide +kernel
theorem dX5_bestSize_67 : decode cX5_bestSize 67 = .ok (.aload_n 0, 1) := by decide +kernel
theorem dX5_bestSize_68 : decode cX5_bestSize 68 = .ok (.getfield 17, 3) := by decide +kernel
theorem dX5_bestSize_71 : decode cX5_bestSize 71 = .ok (.lstore 7, 2) := by decide +kernel
theorem dX5_bestSize_73 : decode cX5_bestSize 73 = .ok (.iinc 9 1, 3) := by decide +kernel
theorem dX5_bestSize_76 : decode cX5_bestSize 76 = .ok (.goto (-51), 3) := by decide +kernel
theorem dX5_bestSize_79 : decode cX5_bestSize 79 = .ok (.iload 4, 2) := by decide +kernel
theorem dX5_bestSize_81 : decode cX5_bestSize 81 = .ok (.ireturn, 1) := by decide +kernel
set_option maxRecDepth 20000 in
theorem ggX5_share_X5_endRate : GoodIn wsX5_share wsX5_endRate := goodIn_r _ [5, 6, 7, 8, 9, 10, 11, 12, 13, 14, 15, 16, 17, 18, 19, 20, 21, 22, 23, 24, 25] (by decide +kernel) (by decide +kernel)
set_option maxRecDepth 20000 in
theorem gX5_share_X5_endRate : GoodIn wsX5_share (wsV RX5 30 RX5 yX5_endRate wsX5_endRate) := goodIn_app (goodIn_of _ (by decide +kernel)) ggX5_share_X5_endRate
theorem dX5_share_0 : decode cX5_share 0 = .ok (.lconst 1, 1) := by decide +kernel
theorem dX5_share_1 : decode cX5_share 1 = .ok (.lstore 5, 2) := by decide +kernel
theorem dX5_share_3 : decode cX5_share 3 = .ok (.iconst 0, 1) := by decide +kernel
theorem dX5_share_4 : decode cX5_share 4 = .ok (.istore 7, 2) := by decide +kernel
theorem dX5_share_6 : decode cX5_share 6 = .ok (.iload 7, 2) := by decide +kernel
theorem dX5_share_8 : decode cX5_share 8 = .ok (.iload 4, 2) := by decide +kernel
theorem dX5_share_10 : decode cX5_share 10 = .ok (.if_icmp .ge 21, 3) := by decide +kernel
theorem dX5_share_13 : decode cX5_share 13 = .ok (.lload 5, 2) := by decide +kernel
theorem dX5_share_15 : decode cX5_share 15 = .ok (.iload_n 1, 1) := by decide +kernel
theorem dX5_share_16 : decode cX5_share 16 = .ok (.iload 7, 2) := by decide +kernel
theorem dX5_share_18 : decode cX5_share 18 = .ok (.isub, 1) := by decide +kernel
theorem dX5_share_19 : decode cX5_share 19 = .ok (.iload_n 2, 1) := by decide +kernel
theorem dX5_share_20 : decode cX5_share 20 = .ok (.imul, 1) := by decide +kernel
theorem dX5_share_21 : decode cX5_share 21 = .ok (.i2l, 1) := by decide +kernel
theorem dX5_share_22 : decode cX5_share 22 = .ok (.lmul, 1) := by decide +kernel
theorem dX5_share_23 : decode cX5_share 23 = .ok (.lstore 5, 2) := by decide +kernel
theorem dX5_share_25 : decode cX5_share 25 = .ok (.iinc 7 1, 3) := by decide +kernel
theorem dX5_share_28 : decode cX5_share 28 = .ok (.goto (-22), 3) := by decide +kernel
theorem dX5_share_31 : decode cX5_share 31 = .ok (.iload 4, 2) := by decide +kernel
theorem dX5_share_33 : decode cX5_share 33 = .ok (.iconst 1, 1) := by decide +kernel
theorem dX5_share_34 : decode cX5_share 34 = .ok (.iadd, 1) := by decide +kernel
theorem dX5_share_35 : decode cX5_share 35 = .ok (.istore 7, 2) := by decide +kernel
theorem dX5_share_37 : decode cX5_share 37 = .ok (.iload 7, 2) := by decide +kernel
theorem dX5_share_39 : decode cX5_share 39 = .ok (.iload_n 1, 1) := by decide +kernel
theorem dX5_share_40 : decode cX5_share 40 = .ok (.if_icmp .gt 22, 3) := by decide +kernel
theorem dX5_share_43 : decode cX5_share 43 = .ok (.lload 5, 2) := by decide +kernel
theorem dX5_share_45 : decode cX5_share 45 = .ok (.aload_n 0, 1) := by decide +kernel
theorem dX5_share_46 : decode cX5_share 46 = .ok (.iload_n 3, 1) := by decide +kernel
theorem dX5_share_47 : decode cX5_share 47 = .ok (.iload 7, 2) := by decide +kernel
theorem dX5_share_49 : decode cX5_share 49 = .ok (.invokevirtual 30, 3) := by decide +kernel
theorem dX5_share_52 : decode cX5_share 52 = .ok (.i2l, 1) := by decide +kernel
theorem dX5_share_53 : decode cX5_share 53 = .ok (.lmul, 1) := by decide +kernel
theorem dX5_share_54 : decode cX5_share 54 = .ok (.lstore 5, 2) := by decide +kernel
theorem dX5_share_56 : decode cX5_share 56 = .ok (.iinc 7 1, 3) := by decide +kernel
theorem dX5_share_59 : decode cX5_share 59 = .ok (.goto (-22), 3) := by decide +kernel
theorem dX5_share_62 : decode cX5_share 62 = .ok (.lload 5, 2) := by decide +kernel
theorem dX5_share_64 : decode cX5_share 64 = .ok (.lreturn, 1) := by decide +kernel
set_option maxRecDepth 20000 in
theorem ggX5_endRate_X7_speedOf : GoodIn wsX5_endRate wsX7_speedOf := goodIn_r _ [10, 11, 12, 2, 3, 4, 13, 14, 15, 19, 20] (by decide +kernel) (by decide +kernel)
set_option maxRecDepth 20000 in
theorem gX5_endRate_X7_speedOf : GoodIn wsX5_endRate (wsV RX5 48 RX7 yX7_speedOf wsX7_speedOf) := goodIn_app (goodIn_of _ (by decide +kernel)) ggX5_endRate_X7_speedOf
theorem dX5_endRate_0 : decode cX5_endRate 0 = .ok (.iload_n 1, 1) := by decide +kernel
theorem dX5_endRate_1 : decode cX5_endRate 1 = .ok (.iload_n 2, 1) := by decide +kernel
theorem dX5_endRate_2 : decode cX5_endRate 2 = .ok (.invokestatic 45, 3) := by decide +kernel
theorem dX5_endRate_5 : decode cX5_endRate 5 = .ok (.istore_n 3, 1) := by decide +kernel
theorem dX5_endRate_6 : decode cX5_endRate 6 = .ok (.iload_n 3, 1) := by decide +kernel
theorem dX5_endRate_7 : decode cX5_endRate 7 = .ok (.aload_n 0, 1) := by decide +kernel
theorem dX5_endRate_8 : decode cX5_endRate 8 = .ok (.getfield 7, 3) := by decide +kernel
theorem dX5_endRate_11 : decode cX5_endRate 11 = .ok (.iload_n 3, 1) := by decide +kernel
theorem dX5_endRate_12 : decode cX5_endRate 12 = .ok (.invokevirtual 48, 3) := by decide +kernel
theorem dX5_endRate_15 : decode cX5_endRate 15 = .ok (.bipush 9, 2) := by decide +kernel
theorem dX5_endRate_17 : decode cX5_endRate 17 = .ok (.invokestatic 45, 3) := by decide +kernel
theorem dX5_endRate_20 : decode cX5_endRate 20 = .ok (.imul, 1) := by decide +kernel
theorem dX5_endRate_21 : decode cX5_endRate 21 = .ok (.ireturn, 1) := by decide +kernel
theorem dX5_commonDivisor_0 : decode cX5_commonDivisor 0 = .ok (.iconst 0, 1) := by decide +kernel
theorem dX5_commonDivisor_1 : decode cX5_commonDivisor 1 = .ok (.istore 4, 2) := by decide +kernel
theorem dX5_commonDivisor_3 : decode cX5_commonDivisor 3 = .ok (.iload 4, 2) := by decide +kernel
theorem dX5_commonDivisor_5 : decode cX5_commonDivisor 5 = .ok (.sipush 200, 3) := by decide +kernel
theorem dX5_commonDivisor_8 : decode cX5_commonDivisor 8 = .ok (.if_icmp .ge 25, 3) := by decide +kernel
theorem dX5_commonDivisor_11 : decode cX5_commonDivisor 11 = .ok (.lload_n 2, 1) := by decide +kernel
theorem dX5_commonDivisor_12 : decode cX5_commonDivisor 12 = .ok (.lconst 0, 1) := by decide +kernel
theorem dX5_commonDivisor_13 : decode cX5_commonDivisor 13 = .ok (.lcmp, 1) := by decide +kernel
theorem dX5_commonDivisor_14 : decode cX5_commonDivisor 14 = .ok (.ifCond .eq 19, 3) := by decide +kernel
theorem dX5_commonDivisor_17 : decode cX5_commonDivisor 17 = .ok (.lload_n 0, 1) := by decide +kernel
theorem dX5_commonDivisor_18 : decode cX5_commonDivisor 18 = .ok (.lload_n 2, 1) := by decide +kernel
theorem dX5_commonDivisor_19 : decode cX5_commonDivisor 19 = .ok (.lrem, 1) := by decide +kernel
theorem dX5_commonDivisor_20 : decode cX5_commonDivisor 20 = .ok (.lstore 5, 2) := by decide +kernel
theorem dX5_commonDivisor_22 : decode cX5_commonDivisor 22 = .ok (.lload_n 2, 1) := by decide +kernel
theorem dX5_commonDivisor_23 : decode cX5_commonDivisor 23 = .ok (.lstore_n 0, 1) := by decide +kernel
theorem dX5_commonDivisor_24 : decode cX5_commonDivisor 24 = .ok (.lload 5, 2) := by decide +kernel
theorem dX5_commonDivisor_26 : decode cX5_commonDivisor 26 = .ok (.lstore_n 2, 1) := by decide +kernel
theorem dX5_commonDivisor_27 : decode cX5_commonDivisor 27 = .ok (.iinc 4 1, 3) := by decide +kernel
theorem dX5_commonDivisor_30 : decode cX5_commonDivisor 30 = .ok (.goto (-27), 3) := by decide +kernel
theorem dX5_commonDivisor_33 : decode cX5_commonDivisor 33 = .ok (.lload_n 0, 1) := by decide +kernel
theorem dX5_commonDivisor_34 : decode cX5_commonDivisor 34 = .ok (.lreturn, 1) := by decide +kernel
theorem dX5_isLess_0 : decode cX5_isLess 0 = .ok (.iconst 0, 1) := by decide +kernel
theorem dX5_isLess_1 : decode cX5_isLess 1 = .ok (.istore 8, 2) := by decide +kernel
theorem dX5_isLess_3 : decode cX5_isLess 3 = .ok (.iload 8, 2) := by decide +kernel
theorem dX5_isLess_5 : decode cX5_isLess 5 = .ok (.sipush 200, 3) := by decide +kernel
theorem dX5_isLess_8 : decode cX5_isLess 8 = .ok (.if_icmp .ge 99, 3) := by decide +kernel
theorem dX5_isLess_11 : decode cX5_isLess 11 = .ok (.lload_n 2, 1) := by decide +kernel
theorem dX5_isLess_12 : decode cX5_isLess 12 = .ok (.lconst 0, 1) := by decide +kernel
theorem dX5_isLess_13 : decode cX5_isLess 13 = .ok (.lcmp, 1) := by decide +kernel
theorem dX5_isLess_14 : decode cX5_isLess 14 = .ok (.ifCond .eq 10, 3) := by decide +kernel
theorem dX5_isLess_17 : decode cX5_isLess 17 = .ok (.lload 6, 2) := by decide +kernel
theorem dX5_isLess_19 : decode cX5_isLess 19 = .ok (.lconst 0, 1) := by decide +kernel
theorem dX5_isLess_20 : decode cX5_isLess 20 = .ok (.lcmp, 1) := by decide +kernel
theorem dX5_isLess_21 : decode cX5_isLess 21 = .ok (.ifCond .ne 15, 3) := by decide +kernel
theorem dX5_isLess_24 : decode cX5_isLess 24 = .ok (.lload_n 2, 1) := by decide +kernel
theorem dX5_isLess_25 : decode cX5_isLess 25 = .ok (.lconst 0, 1) := by decide +kernel
theorem dX5_isLess_26 : decode cX5_isLess 26 = .ok (.lcmp, 1) := by decide +kernel
theorem dX5_isLess_27 : decode cX5_isLess 27 = .ok (.ifCond .eq 7, 3) := by decide +kernel
theorem dX5_isLess_30 : decode cX5_isLess 30 = .ok (.iconst 1, 1) := by decide +kernel
theorem dX5_isLess_31 : decode cX5_isLess 31 = .ok (.goto 4, 3) := by decide +kernel
theorem dX5_isLess_34 : decode cX5_isLess 34 = .ok (.iconst 0, 1) := by decide +kernel
theorem dX5_isLess_35 : decode cX5_isLess 35 = .ok (.ireturn, 1) := by decide +kernel
theorem dX5_isLess_36 : decode cX5_isLess 36 = .ok (.lload_n 0, 1) := by decide +kernel
theorem dX5_isLess_37 : decode cX5_isLess 37 = .ok (.lload_n 2, 1) := by decide +kernel
theorem dX5_isLess_38 : decode cX5_isLess 38 = .ok (.ldiv, 1) := by decide +kernel
theorem dX5_isLess_39 : decode cX5_isLess 39 = .ok (.lstore 9, 2) := by decide +kernel
theorem dX5_isLess_41 : decode cX5_isLess 41 = .ok (.lload 4, 2) := by decide +kernel
theorem dX5_isLess_43 : decode cX5_isLess 43 = .ok (.lload 6, 2) := by decide +kernel
theorem dX5_isLess_45 : decode cX5_isLess 45 = .ok (.ldiv, 1) := by decide +kernel
theorem dX5_isLess_46 : decode cX5_isLess 46 = .ok (.lstore 11, 2) := by decide +kernel
theorem dX5_isLess_48 : decode cX5_isLess 48 = .ok (.lload 9, 2) := by decide +kernel
theorem dX5_isLess_50 : decode cX5_isLess 50 = .ok (.lload 11, 2) := by decide +kernel
theorem dX5_isLess_52 : decode cX5_isLess 52 = .ok (.lcmp, 1) := by decide +kernel
theorem dX5_isLess_53 : decode cX5_isLess 53 = .ok (.ifCond .eq 17, 3) := by decide +kernel
theorem dX5_isLess_56 : decode cX5_isLess 56 = .ok (.lload 9, 2) := by decide +kernel
theorem dX5_isLess_58 : decode cX5_isLess 58 = .ok (.lload 11, 2) := by decide +kernel
theorem dX5_isLess_60 : decode cX5_isLess 60 = .ok (.lcmp, 1) := by decide +kernel
theorem dX5_isLess_61 : decode cX5_isLess 61 = .ok (.ifCond .ge 7, 3) := by decide +kernel
theorem dX5_isLess_64 : decode cX5_isLess 64 = .ok (.iconst 1, 1) := by decide +kernel
theorem dX5_isLess_65 : decode cX5_isLess 65 = .ok (.goto 4, 3) := by decide +kernel
theorem dX5_isLess_68 : decode cX5_isLess 68 = .ok (.iconst 0, 1) := by decide +kernel
theorem dX5_isLess_69 : decode cX5_isLess 69 = .ok (.ireturn, 1) := by decide +kernel
theorem dX5_isLess_70 : decode cX5_isLess 70 = .ok (.lload_n 0, 1) := by decide +kernel
theorem dX5_isLess_71 : decode cX5_isLess 71 = .ok (.lload 9, 2) := by decide +kernel
theorem dX5_isLess_73 : decode cX5_isLess 73 = .ok (.lload_n 2, 1) := by decide +kernel
theorem dX5_isLess_74 : decode cX5_isLess 74 = .ok (.lmul, 1) := by decide +kernel
theorem dX5_isLess_75 : decode cX5_isLess 75 = .ok (.lsub, 1) := by decide +kernel
theorem dX5_isLess_76 : decode cX5_isLess 76 = .ok (.lstore 13, 2) := by decide +kernel
theorem dX5_isLess_78 : decode cX5_isLess 78 = .ok (.lload 4, 2) := by decide +kernel
theorem dX5_isLess_80 : decode cX5_isLess 80 = .ok (.lload 11, 2) := by decide +kernel
theorem dX5_isLess_82 : decode cX5_isLess 82 = .ok (.lload 6, 2) := by decide +kernel
theorem dX5_isLess_84 : decode cX5_isLess 84 = .ok (.lmul, 1) := by decide +kernel
theorem dX5_isLess_85 : decode cX5_isLess 85 = .ok (.lsub, 1) := by decide +kernel
theorem dX5_isLess_86 : decode cX5_isLess 86 = .ok (.lstore 15, 2) := by decide +kernel
theorem dX5_isLess_88 : decode cX5_isLess 88 = .ok (.lload 6, 2) := by decide +kernel
theorem dX5_isLess_90 : decode cX5_isLess 90 = .ok (.lstore_n 0, 1) := by decide +kernel
theorem dX5_isLess_91 : decode cX5_isLess 91 = .ok (.lload_n 2, 1) := by decide +kernel
theorem dX5_isLess_92 : decode cX5_isLess 92 = .ok (.lstore 4, 2) := by decide +kernel
theorem dX5_isLess_94 : decode cX5_isLess 94 = .ok (.lload 15, 2) := by decide +kernel
theorem dX5_isLess_96 : decode cX5_isLess 96 = .ok (.lstore_n 2, 1) := by decide +kernel
theorem dX5_isLess_97 : decode cX5_isLess 97 = .ok (.lload 13, 2) := by decide +kernel
theorem dX5_isLess_99 : decode cX5_isLess 99 = .ok (.lstore 6, 2) := by decide +kernel
theorem dX5_isLess_101 : decode cX5_isLess 101 = .ok (.iinc 8 1, 3) := by decide +kernel
theorem dX5_isLess_104 : decode cX5_isLess 104 = .ok (.goto (-101), 3) := by decide +kernel
theorem dX5_isLess_107 : decode cX5_isLess 107 = .ok (.iconst 0, 1) := by decide +kernel
theorem dX5_isLess_108 : decode cX5_isLess 108 = .ok (.ireturn, 1) := by decide +kernel
set_option maxRecDepth 20000 in
theorem ggX6_init_X3_init : GoodIn wsX6_init wsX3_init := goodIn_r _ [23, 24, 2, 3, 25, 55, 56, 57, 58, 59, 60] (by decide +kernel) (by decide +kernel)
set_option maxRecDepth 20000 in
theorem gX6_init_X3_init : GoodIn wsX6_init (wsX3_init) := ggX6_init_X3_init
set_option maxRecDepth 20000 in
theorem ggX6_init_X1_init : GoodIn wsX6_init wsX1_init := goodIn_r _ [28, 29, 2, 3, 30, 61, 62, 63, 64, 65, 66, 67, 68, 69, 70] (by decide +kernel) (by decide +kernel)
set_option maxRecDepth 20000 in
theorem gX6_init_X1_init : GoodIn wsX6_init (wsX1_init) := ggX6_init_X1_init
set_option maxRecDepth 20000 in
theorem ggX6_init_X0_init : GoodIn wsX6_init wsX0_init := goodIn_r _ [33, 34, 2, 3, 35, 36, 37, 71, 72, 73] (by decide +kernel) (by decide +kernel)
set_option maxRecDepth 20000 in
theorem gX6_init_X0_init : GoodIn wsX6_init (wsX0_init) := ggX6_init_X0_init
set_option maxRecDepth 20000 in
theorem ggX6_init_X4_init : GoodIn wsX6_init wsX4_init := goodIn_r _ [40, 41, 2, 3, 35, 42, 43, 74, 75, 76] (by decide +kernel) (by decide +kernel)
set_option maxRecDepth 20000 in
theorem gX6_init_X4_init : GoodIn wsX6_init (wsX4_init) := ggX6_init_X4_init
theorem dX6_init_0 : decode cX6_init 0 = .ok (.aload_n 0, 1) := by decide +kernel
theorem dX6_init_1 : decode cX6_init 1 = .ok (.invokespecial 3, 3) := by decide +kernel
theorem dX6_init_4 : decode cX6_init 4 = .ok (.aload_n 0, 1) := by decide +kernel
theorem dX6_init_5 : decode cX6_init 5 = .ok (.aload_n 1, 1) := by decide +kernel
theorem dX6_init_6 : decode cX6_init 6 = .ok (.putfield 9, 3) := by decide +kernel
theorem dX6_init_9 : decode cX6_init 9 = .ok (.aload_n 0, 1) := by decide +kernel
theorem dX6_init_10 : decode cX6_init 10 = .ok (.bipush 12, 2) := by decide +kernel
theorem dX6_init_12 : decode cX6_init 12 = .ok (.anewarray 15, 3) := by decide +kernel
theorem dX6_init_15 : decode cX6_init 15 = .ok (.putfield 17, 3) := by decide +kernel
theorem dX6_init_18 : decode cX6_init 18 = .ok (.iconst 0, 1) := by decide +kernel
theorem dX6_init_19 : decode cX6_init 19 = .ok (.istore_n 2, 1) := by decide +kernel
theorem dX6_init_20 : decode cX6_init 20 = .ok (.iload_n 2, 1) := by decide +kernel
theorem dX6_init_21 : decode cX6_init 21 = .ok (.bipush 12, 2) := by decide +kernel
theorem dX6_init_23 : decode cX6_init 23 = .ok (.if_icmp .ge 23, 3) := by decide +kernel
theorem dX6_init_26 : decode cX6_init 26 = .ok (.aload_n 0, 1) := by decide +kernel
theorem dX6_init_27 : decode cX6_init 27 = .ok (.getfield 17, 3) := by decide +kernel
theorem dX6_init_30 : decode cX6_init 30 = .ok (.iload_n 2, 1) := by decide +kernel
theorem dX6_init_31 : decode cX6_init 31 = .ok (.new 15, 3) := by decide +kernel
theorem dX6_init_34 : decode cX6_init 34 = .ok (.dup, 1) := by decide +kernel
theorem dX6_init_35 : decode cX6_init 35 = .ok (.iload_n 2, 1) := by decide +kernel
theorem dX6_init_36 : decode cX6_init 36 = .ok (.invokespecial 21, 3) := by decide +kernel
theorem dX6_init_39 : decode cX6_init 39 = .ok (.aastore, 1) := by decide +kernel
theorem dX6_init_40 : decode cX6_init 40 = .ok (.iinc 2 1, 3) := by decide +kernel
theorem dX6_init_43 : decode cX6_init 43 = .ok (.goto (-23), 3) := by decide +kernel
theorem dX6_init_46 : decode cX6_init 46 = .ok (.aload_n 0, 1) := by decide +kernel
theorem dX6_init_47 : decode cX6_init 47 = .ok (.bipush 60, 2) := by decide +kernel
theorem dX6_init_49 : decode cX6_init 49 = .ok (.anewarray 24, 3) := by decide +kernel
theorem dX6_init_52 : decode cX6_init 52 = .ok (.putfield 26, 3) := by decide +kernel
theorem dX6_init_55 : decode cX6_init 55 = .ok (.iconst 0, 1) := by decide +kernel
theorem dX6_init_56 : decode cX6_init 56 = .ok (.istore_n 2, 1) := by decide +kernel
theorem dX6_init_57 : decode cX6_init 57 = .ok (.iload_n 2, 1) := by decide +kernel
theorem dX6_init_58 : decode cX6_init 58 = .ok (.bipush 60, 2) := by decide +kernel
theorem dX6_init_60 : decode cX6_init 60 = .ok (.if_icmp .ge 23, 3) := by decide +kernel
theorem dX6_init_63 : decode cX6_init 63 = .ok (.aload_n 0, 1) := by decide +kernel
theorem dX6_init_64 : decode cX6_init 64 = .ok (.getfield 26, 3) := by decide +kernel
theorem dX6_init_67 : decode cX6_init 67 = .ok (.iload_n 2, 1) := by decide +kernel
theorem dX6_init_68 : decode cX6_init 68 = .ok (.new 24, 3) := by decide +kernel
theorem dX6_init_71 : decode cX6_init 71 = .ok (.dup, 1) := by decide +kernel
theorem dX6_init_72 : decode cX6_init 72 = .ok (.iload_n 2, 1) := by decide +kernel
theorem dX6_init_73 : decode cX6_init 73 = .ok (.invokespecial 30, 3) := by decide +kernel
theorem dX6_init_76 : decode cX6_init 76 = .ok (.aastore, 1) := by decide +kernel
theorem dX6_init_77 : decode cX6_init 77 = .ok (.iinc 2 1, 3) := by decide +kernel
theorem dX6_init_80 : decode cX6_init 80 = .ok (.goto (-23), 3) := by decide +kernel
theorem dX6_init_83 : decode cX6_init 83 = .ok (.aload_n 0, 1) := by decide +kernel
theorem dX6_init_84 : decode cX6_init 84 = .ok (.new 31, 3) := by decide +kernel
theorem dX6_init_87 : decode cX6_init 87 = .ok (.dup, 1) := by decide +kernel
theorem dX6_init_88 : decode cX6_init 88 = .ok (.invokespecial 33, 3) := by decide +kernel
theorem dX6_init_91 : decode cX6_init 91 = .ok (.putfield 34, 3) := by decide +kernel
theorem dX6_init_94 : decode cX6_init 94 = .ok (.aload_n 0, 1) := by decide +kernel
theorem dX6_init_95 : decode cX6_init 95 = .ok (.new 38, 3) := by decide +kernel
theorem dX6_init_98 : decode cX6_init 98 = .ok (.dup, 1) := by decide +kernel
theorem dX6_init_99 : decode cX6_init 99 = .ok (.invokespecial 40, 3) := by decide +kernel
theorem dX6_init_102 : decode cX6_init 102 = .ok (.putfield 41, 3) := by decide +kernel
theorem dX6_init_105 : decode cX6_init 105 = .ok (.return_, 1) := by decide +kernel
set_option maxRecDepth 20000 in
theorem ggX6_reset_X3_vanish : GoodIn wsX6_reset wsX3_vanish := goodIn_r _ [14, 15, 16, 17, 18, 13, 19, 20, 21, 22, 23, 48, 49, 50, 51, 52, 53] (by decide +kernel) (by decide +kernel)
set_option maxRecDepth 20000 in
theorem gX6_reset_X3_vanish : GoodIn wsX6_reset (wsV RX6 45 RX3 yX3_vanish wsX3_vanish) := goodIn_app (goodIn_of _ (by decide +kernel)) ggX6_reset_X3_vanish
set_option maxRecDepth 20000 in
theorem ggX6_reset_X0_forget : GoodIn wsX6_reset wsX0_forget := goodIn_r _ [28, 29, 54, 55, 56] (by decide +kernel) (by decide +kernel)
set_option maxRecDepth 20000 in
theorem gX6_reset_X0_forget : GoodIn wsX6_reset (wsV RX6 48 RX0 yX0_forget wsX0_forget) := goodIn_app (goodIn_of _ (by decide +kernel)) ggX6_reset_X0_forget
set_option maxRecDepth 20000 in
theorem ggX6_reset_X4_forget : GoodIn wsX6_reset wsX4_forget := goodIn_r _ [34, 35, 36, 57, 58, 59] (by decide +kernel) (by decide +kernel)
set_option maxRecDepth 20000 in
theorem gX6_reset_X4_forget : GoodIn wsX6_reset (wsV RX6 51 RX4 yX4_forget wsX4_forget) := goodIn_app (goodIn_of _ (by decide +kernel)) ggX6_reset_X4_forget
theorem dX6_reset_0 : decode cX6_reset 0 = .ok (.iconst 0, 1) := by decide +kernel
theorem dX6_reset_1 : decode cX6_reset 1 = .ok (.istore_n 1, 1) := by decide +kernel
theorem dX6_reset_2 : decode cX6_reset 2 = .ok (.iload_n 1, 1) := by decide +kernel
theorem dX6_reset_3 : decode cX6_reset 3 = .ok (.bipush 12, 2) := by decide +kernel
theorem dX6_reset_5 : decode cX6_reset 5 = .ok (.if_icmp .ge 18, 3) := by decide +kernel
theorem dX6_reset_8 : decode cX6_reset 8 = .ok (.aload_n 0, 1) := by decide +kernel
theorem dX6_reset_9 : decode cX6_reset 9 = .ok (.getfield 17, 3) := by decide +kernel
theorem dX6_reset_12 : decode cX6_reset 12 = .ok (.iload_n 1, 1) := by decide +kernel
theorem dX6_reset_13 : decode cX6_reset 13 = .ok (.aaload, 1) := by decide +kernel
theorem dX6_reset_14 : decode cX6_reset 14 = .ok (.invokevirtual 45, 3) := by decide +kernel
theorem dX6_reset_17 : decode cX6_reset 17 = .ok (.iinc 1 1, 3) := by decide +kernel
theorem dX6_reset_20 : decode cX6_reset 20 = .ok (.goto (-18), 3) := by decide +kernel
theorem dX6_reset_23 : decode cX6_reset 23 = .ok (.aload_n 0, 1) := by decide +kernel
theorem dX6_reset_24 : decode cX6_reset 24 = .ok (.getfield 34, 3) := by decide +kernel
theorem dX6_reset_27 : decode cX6_reset 27 = .ok (.invokevirtual 48, 3) := by decide +kernel
theorem dX6_reset_30 : decode cX6_reset 30 = .ok (.aload_n 0, 1) := by decide +kernel
theorem dX6_reset_31 : decode cX6_reset 31 = .ok (.getfield 41, 3) := by decide +kernel
theorem dX6_reset_34 : decode cX6_reset 34 = .ok (.invokevirtual 51, 3) := by decide +kernel
theorem dX6_reset_37 : decode cX6_reset 37 = .ok (.aload_n 0, 1) := by decide +kernel
theorem dX6_reset_38 : decode cX6_reset 38 = .ok (.iconst 0, 1) := by decide +kernel
theorem dX6_reset_39 : decode cX6_reset 39 = .ok (.putfield 52, 3) := by decide +kernel
theorem dX6_reset_42 : decode cX6_reset 42 = .ok (.aload_n 0, 1) := by decide +kernel
theorem dX6_reset_43 : decode cX6_reset 43 = .ok (.iconst 0, 1) := by decide +kernel
theorem dX6_reset_44 : decode cX6_reset 44 = .ok (.putfield 56, 3) := by decide +kernel
theorem dX6_reset_47 : decode cX6_reset 47 = .ok (.aload_n 0, 1) := by decide +kernel
theorem dX6_reset_48 : decode cX6_reset 48 = .ok (.iconst 0, 1) := by decide +kernel
theorem dX6_reset_49 : decode cX6_reset 49 = .ok (.putfield 59, 3) := by decide +kernel
theorem dX6_reset_52 : decode cX6_reset 52 = .ok (.aload_n 0, 1) := by decide +kernel
theorem dX6_reset_53 : decode cX6_reset 53 = .ok (.lconst 0, 1) := by decide +kernel
theorem dX6_reset_54 : decode cX6_reset 54 = .ok (.putfield 62, 3) := by decide +kernel
theorem dX6_reset_57 : decode cX6_reset 57 = .ok (.aload_n 0, 1) := by decide +kernel
theorem dX6_reset_58 : decode cX6_reset 58 = .ok (.iconst 0, 1) := by decide +kernel
theorem dX6_reset_59 : decode cX6_reset 59 = .ok (.putfield 66, 3) := by decide +kernel
theorem dX6_reset_62 : decode cX6_reset 62 = .ok (.aload_n 0, 1) := by decide +kernel
theorem dX6_reset_63 : decode cX6_reset 63 = .ok (.iconst 0, 1) := by decide +kernel
theorem dX6_reset_64 : decode cX6_reset 64 = .ok (.putfield 69, 3) := by decide +kernel
theorem dX6_reset_67 : decode cX6_reset 67 = .ok (.return_, 1) := by decide +kernel
theorem dX6_isAhead_0 : decode cX6_isAhead 0 = .ok (.iload_n 1, 1) := by decide +kernel
theorem dX6_isAhead_1 : decode cX6_isAhead 1 = .ok (.aload_n 0, 1) := by decide +kernel
theorem dX6_isAhead_2 : decode cX6_isAhead 2 = .ok (.getfield 56, 3) := by decide +kernel
theorem dX6_isAhead_5 : decode cX6_isAhead 5 = .ok (.if_icmp .le 14, 3) := by decide +kernel
theorem dX6_isAhead_8 : decode cX6_isAhead 8 = .ok (.iload_n 1, 1) := by decide +kernel
theorem dX6_isAhead_9 : decode cX6_isAhead 9 = .ok (.sipush 5000, 3) := by decide +kernel
theorem dX6_isAhead_12 : decode cX6_isAhead 12 = .ok (.if_icmp .gt 7, 3) := by decide +kernel
theorem dX6_isAhead_15 : decode cX6_isAhead 15 = .ok (.iconst 1, 1) := by decide +kernel
theorem dX6_isAhead_16 : decode cX6_isAhead 16 = .ok (.goto 4, 3) := by decide +kernel
theorem dX6_isAhead_19 : decode cX6_isAhead 19 = .ok (.iconst 0, 1) := by decide +kernel
theorem dX6_isAhead_20 : decode cX6_isAhead 20 = .ok (.ireturn, 1) := by decide +kernel
set_option maxRecDepth 20000 in
theorem ggX6_addCaller_X1_tell : GoodIn wsX6_addCaller wsX1_tell := goodIn_r _ [7, 8, 9, 10, 11, 12, 13, 14, 15, 16, 28, 29, 30, 31, 32, 33, 34, 35, 36, 37] (by decide +kernel) (by decide +kernel)
set_option maxRecDepth 20000 in
theorem gX6_addCaller_X1_tell : GoodIn wsX6_addCaller (wsV RX6 72 RX1 yX1_tell wsX1_tell) := goodIn_app (goodIn_of _ (by decide +kernel)) ggX6_addCaller_X1_tell
theorem dX6_addCaller_0 : decode cX6_addCaller 0 = .ok (.aload_n 0, 1) := by decide +kernel
theorem dX6_addCaller_1 : decode cX6_addCaller 1 = .ok (.getfield 52, 3) := by decide +kernel
theorem dX6_addCaller_4 : decode cX6_addCaller 4 = .ok (.bipush 60, 2) := by decide +kernel
theorem dX6_addCaller_6 : decode cX6_addCaller 6 = .ok (.if_icmp .lt 5, 3) := by decide +kernel
theorem dX6_addCaller_9 : decode cX6_addCaller 9 = .ok (.iconst (-1), 1) := by decide +kernel
theorem dX6_addCaller_10 : decode cX6_addCaller 10 = .ok (.ireturn, 1) := by decide +kernel
theorem dX6_addCaller_11 : decode cX6_addCaller 11 = .ok (.aload_n 0, 1) := by decide +kernel
theorem dX6_addCaller_12 : decode cX6_addCaller 12 = .ok (.getfield 26, 3) := by decide +kernel
theorem dX6_addCaller_15 : decode cX6_addCaller 15 = .ok (.aload_n 0, 1) := by decide +kernel
theorem dX6_addCaller_16 : decode cX6_addCaller 16 = .ok (.getfield 52, 3) := by decide +kernel
theorem dX6_addCaller_19 : decode cX6_addCaller 19 = .ok (.aaload, 1) := by decide +kernel
theorem dX6_addCaller_20 : decode cX6_addCaller 20 = .ok (.iload_n 1, 1) := by decide +kernel
theorem dX6_addCaller_21 : decode cX6_addCaller 21 = .ok (.iload_n 2, 1) := by decide +kernel
theorem dX6_addCaller_22 : decode cX6_addCaller 22 = .ok (.iload_n 3, 1) := by decide +kernel
theorem dX6_addCaller_23 : decode cX6_addCaller 23 = .ok (.iload 4, 2) := by decide +kernel
theorem dX6_addCaller_25 : decode cX6_addCaller 25 = .ok (.iload 5, 2) := by decide +kernel
theorem dX6_addCaller_27 : decode cX6_addCaller 27 = .ok (.invokevirtual 72, 3) := by decide +kernel
theorem dX6_addCaller_30 : decode cX6_addCaller 30 = .ok (.aload_n 0, 1) := by decide +kernel
theorem dX6_addCaller_31 : decode cX6_addCaller 31 = .ok (.dup, 1) := by decide +kernel
theorem dX6_addCaller_32 : decode cX6_addCaller 32 = .ok (.getfield 52, 3) := by decide +kernel
theorem dX6_addCaller_35 : decode cX6_addCaller 35 = .ok (.iconst 1, 1) := by decide +kernel
theorem dX6_addCaller_36 : decode cX6_addCaller 36 = .ok (.iadd, 1) := by decide +kernel
theorem dX6_addCaller_37 : decode cX6_addCaller 37 = .ok (.putfield 52, 3) := by decide +kernel
theorem dX6_addCaller_40 : decode cX6_addCaller 40 = .ok (.aload_n 0, 1) := by decide +kernel
theorem dX6_addCaller_41 : decode cX6_addCaller 41 = .ok (.getfield 52, 3) := by decide +kernel
theorem dX6_addCaller_44 : decode cX6_addCaller 44 = .ok (.iconst 1, 1) := by decide +kernel
theorem dX6_addCaller_45 : decode cX6_addCaller 45 = .ok (.isub, 1) := by decide +kernel
theorem dX6_addCaller_46 : decode cX6_addCaller 46 = .ok (.ireturn, 1) := by decide +kernel
set_option maxRecDepth 20000 in
theorem ggX6_addBreak_X8_within : GoodIn wsX6_addBreak wsX8_within := goodIn_r _ [4] (by decide +kernel) (by decide +kernel)
set_option maxRecDepth 20000 in
theorem gX6_addBreak_X8_within_n76 : GoodIn wsX6_addBreak (wsX8_within) := ggX6_addBreak_X8_within
set_option maxRecDepth 20000 in
theorem ggX6_addBreak_X0_add : GoodIn wsX6_addBreak wsX0_add := goodIn_r _ [9, 10, 11, 12, 24, 25, 26] (by decide +kernel) (by decide +kernel)
set_option maxRecDepth 20000 in
theorem gX6_addBreak_X0_add : GoodIn wsX6_addBreak (wsV RX6 80 RX0 yX0_add wsX0_add) := goodIn_app (goodIn_of _ (by decide +kernel)) ggX6_addBreak_X0_add
theorem dX6_addBreak_0 : decode cX6_addBreak 0 = .ok (.iload_n 2, 1) := by decide +kernel
theorem dX6_addBreak_1 : decode cX6_addBreak 1 = .ok (.iconst 0, 1) := by decide +kernel
theorem dX6_addBreak_2 : decode cX6_addBreak 2 = .ok (.bipush 11, 2) := by decide +kernel
theorem dX6_addBreak_4 : decode cX6_addBreak 4 = .ok (.invokestatic 76, 3) := by decide +kernel
theorem dX6_addBreak_7 : decode cX6_addBreak 7 = .ok (.ifCond .eq 19, 3) := by decide +kernel
theorem dX6_addBreak_10 : decode cX6_addBreak 10 = .ok (.aload_n 0, 1) := by decide +kernel
theorem dX6_addBreak_11 : decode cX6_addBreak 11 = .ok (.getfield 34, 3) := by decide +kernel
theorem dX6_addBreak_14 : decode cX6_addBreak 14 = .ok (.iload_n 1, 1) := by decide +kernel
theorem dX6_addBreak_15 : decode cX6_addBreak 15 = .ok (.iload_n 2, 1) := by decide +kernel
theorem dX6_addBreak_16 : decode cX6_addBreak 16 = .ok (.invokevirtual 80, 3) := by decide +kernel
theorem dX6_addBreak_19 : decode cX6_addBreak 19 = .ok (.ifCond .eq 7, 3) := by decide +kernel
theorem dX6_addBreak_22 : decode cX6_addBreak 22 = .ok (.iconst 1, 1) := by decide +kernel
theorem dX6_addBreak_23 : decode cX6_addBreak 23 = .ok (.goto 4, 3) := by decide +kernel
theorem dX6_addBreak_26 : decode cX6_addBreak 26 = .ok (.iconst 0, 1) := by decide +kernel
theorem dX6_addBreak_27 : decode cX6_addBreak 27 = .ok (.ireturn, 1) := by decide +kernel
set_option maxRecDepth 20000 in
theorem ggX6_passTicks_X4_total : GoodIn wsX6_passTicks wsX4_total := goodIn_r _ [7, 8, 248, 249, 250] (by decide +kernel) (by decide +kernel)
set_option maxRecDepth 20000 in
theorem gX6_passTicks_X4_total : GoodIn wsX6_passTicks (wsV RX6 84 RX4 yX4_total wsX4_total) := goodIn_app (goodIn_of _ (by decide +kernel)) ggX6_passTicks_X4_total
set_option maxRecDepth 20000 in
theorem ggX6_passTicks_X6_breakLines : GoodIn wsX6_passTicks wsX6_breakLines := goodIn_r _ [13, 14, 15, 16, 2, 17, 18, 19, 20, 21, 22, 23, 24, 25, 237, 238, 239, 240, 241, 242, 243, 244, 245, 246, 247, 251, 252, 253, 254, 255, 256, 257, 258, 259] (by decide +kernel) (by decide +kernel)
set_option maxRecDepth 20000 in
theorem gX6_passTicks_X6_breakLines : GoodIn wsX6_passTicks (wsV RX6 88 RX6 yX6_breakLines wsX6_breakLines) := goodIn_app (goodIn_of _ (by decide +kernel)) ggX6_passTicks_X6_breakLines
set_option maxRecDepth 20000 in
theorem ggX6_passTicks_X6_advanceLines : GoodIn wsX6_passTicks wsX6_advanceLines := goodIn_r _ [29, 14, 15, 30, 31, 32, 33, 12, 34, 35, 2, 17, 36, 37, 38, 39, 40, 41, 42, 43, 44, 45, 46, 47, 48, 49, 50, 51, 52, 53, 1, 54, 55, 56, 57, 58, 59, 60, 61, 62, 6, 63, 64, 65, 8, 66, 67, 68, 69, 70, 71, 72, 73, 74, 75, 76, 77, 78, 79, 80, 81, 82, 83, 84, 85, 86, 87, 88, 89, 90, 91, 237, 238, 239, 240, 241, 242, 243, 244, 245, 246, 247, 251, 252, 253, 254, 255, 256, 260, 261, 262, 263, 264, 265, 266, 267, 268, 269, 248, 249, 250] (by decide +kernel) (by decide +kernel)
set_option maxRecDepth 20000 in
theorem gX6_passTicks_X6_advanceLines : GoodIn wsX6_passTicks (wsV RX6 91 RX6 yX6_advanceLines wsX6_advanceLines) := goodIn_app (goodIn_of _ (by decide +kernel)) ggX6_passTicks_X6_advanceLines
set_option maxRecDepth 20000 in
theorem ggX6_passTicks_X6_failBroken : GoodIn wsX6_passTicks wsX6_failBroken := goodIn_r _ [95, 96, 97, 36, 98, 99, 100, 12, 101, 14, 35, 17, 102, 103, 104, 105, 1, 2, 76, 60, 61, 62, 6, 63, 64, 65, 8, 66, 67, 68, 69, 106, 107, 108, 109, 50, 51, 52, 53, 54, 55, 56, 57, 40, 58, 59, 42, 43, 44, 45, 46, 47, 48, 49, 110, 111, 112, 113, 37, 38, 39, 41, 237, 238, 239, 240, 241, 242, 243, 244, 245, 246, 247, 260, 261, 262, 263, 264, 265, 266, 267, 268, 269, 251, 252, 253, 254, 255, 256, 248, 249, 250] (by decide +kernel) (by decide +kernel)
set_option maxRecDepth 20000 in
theorem gX6_passTicks_X6_failBroken : GoodIn wsX6_passTicks (wsV RX6 94 RX6 yX6_failBroken wsX6_failBroken) := goodIn_app (goodIn_of _ (by decide +kernel)) ggX6_passTicks_X6_failBroken
set_option maxRecDepth 20000 in
theorem ggX6_passTicks_X6_doWork : GoodIn wsX6_passTicks wsX6_doWork := goodIn_r _ [117, 118, 96, 97, 36, 119, 88, 89, 90, 91, 120, 121, 122, 12, 123, 124, 125, 126, 127, 128, 129, 130, 131, 132, 133, 237, 238, 239, 240, 241, 242, 243, 244, 245, 246, 247, 260, 261, 262, 263, 264, 265, 266, 267, 268, 269, 270, 271] (by decide +kernel) (by decide +kernel)
set_option maxRecDepth 20000 in
theorem gX6_passTicks_X6_doWork : GoodIn wsX6_passTicks (wsV RX6 97 RX6 yX6_doWork wsX6_doWork) := goodIn_app (goodIn_of _ (by decide +kernel)) ggX6_passTicks_X6_doWork
set_option maxRecDepth 20000 in
theorem ggX6_passTicks_X6_finishWork : GoodIn wsX6_passTicks wsX6_finishWork := goodIn_r _ [137, 96, 97, 36, 119, 138, 139, 140, 12, 141, 142, 74, 2, 143, 144, 145, 146, 147, 148, 149, 150, 151, 152, 153, 154, 155, 156, 102, 103, 104, 105, 1, 76, 60, 61, 62, 6, 63, 64, 65, 8, 66, 67, 68, 69, 110, 111, 112, 113, 14, 35, 37, 38, 39, 40, 41, 42, 43, 44, 45, 46, 47, 48, 49, 237, 238, 239, 240, 241, 242, 243, 244, 245, 246, 247, 260, 261, 262, 263, 264, 265, 266, 267, 268, 269, 248, 249, 250, 251, 252, 253, 254, 255, 256] (by decide +kernel) (by decide +kernel)
set_option maxRecDepth 20000 in
theorem gX6_passTicks_X6_finishWork : GoodIn wsX6_passTicks (wsV RX6 100 RX6 yX6_finishWork wsX6_finishWork) := goodIn_app (goodIn_of _ (by decide +kernel)) ggX6_passTicks_X6_finishWork
set_option maxRecDepth 20000 in
theorem ggX6_passTicks_X6_endLeaks : GoodIn wsX6_passTicks wsX6_endLeaks := goodIn_r _ [160, 96, 97, 161, 162, 163, 12, 164, 118, 14, 2, 165, 166, 167, 168, 127, 169, 170, 171, 172, 173, 40, 174, 46, 47, 102, 103, 104, 105, 36, 1, 76, 60, 61, 62, 6, 63, 64, 65, 8, 66, 67, 68, 69, 110, 111, 112, 113, 35, 37, 38, 39, 41, 42, 43, 44, 45, 48, 49, 237, 238, 239, 240, 241, 242, 243, 244, 245, 246, 247, 251, 252, 253, 254, 255, 256, 270, 271, 260, 261, 262, 263, 264, 265, 266, 267, 268, 269, 248, 249, 250] (by decide +kernel) (by decide +kernel)
set_option maxRecDepth 20000 in
theorem gX6_passTicks_X6_endLeaks : GoodIn wsX6_passTicks (wsV RX6 103 RX6 yX6_endLeaks wsX6_endLeaks) := goodIn_app (goodIn_of _ (by decide +kernel)) ggX6_passTicks_X6_endLeaks
set_option maxRecDepth 20000 in
theorem ggX6_passTicks_X6_letCome : GoodIn wsX6_passTicks wsX6_letCome := goodIn_r _ [178, 96, 97, 36, 75, 2, 1, 76, 179, 152, 153, 146, 154, 155, 156, 60, 61, 62, 6, 63, 64, 65, 8, 66, 67, 68, 69, 237, 238, 239, 240, 241, 242, 243, 244, 245, 246, 247, 260, 261, 262, 263, 264, 265, 266, 267, 268, 269, 248, 249, 250] (by decide +kernel) (by decide +kernel)
set_option maxRecDepth 20000 in
theorem gX6_passTicks_X6_letCome : GoodIn wsX6_passTicks (wsV RX6 106 RX6 yX6_letCome wsX6_letCome) := goodIn_app (goodIn_of _ (by decide +kernel)) ggX6_passTicks_X6_letCome
set_option maxRecDepth 20000 in
theorem ggX6_passTicks_X6_giveUp : GoodIn wsX6_passTicks wsX6_giveUp := goodIn_r _ [183, 96, 97, 36, 2, 184, 185, 102, 103, 104, 12, 105, 1, 76, 60, 61, 62, 6, 63, 64, 65, 8, 66, 67, 68, 69, 110, 111, 112, 113, 14, 35, 37, 38, 39, 40, 41, 42, 43, 44, 45, 46, 47, 48, 49, 237, 238, 239, 240, 241, 242, 243, 244, 245, 246, 247, 260, 261, 262, 263, 264, 265, 266, 267, 268, 269, 248, 249, 250, 251, 252, 253, 254, 255, 256] (by decide +kernel) (by decide +kernel)
set_option maxRecDepth 20000 in
theorem gX6_passTicks_X6_giveUp : GoodIn wsX6_passTicks (wsV RX6 109 RX6 yX6_giveUp wsX6_giveUp) := goodIn_app (goodIn_of _ (by decide +kernel)) ggX6_passTicks_X6_giveUp
set_option maxRecDepth 20000 in
theorem ggX6_passTicks_X6_handOut : GoodIn wsX6_passTicks wsX6_handOut := goodIn_r _ [189, 190, 191, 192, 12, 193, 96, 97, 36, 194, 195, 196, 197, 198, 14, 15, 165, 199, 200, 201, 202, 118, 203, 1, 2, 76, 54, 17, 166, 167, 168, 127, 169, 170, 204, 205, 206, 40, 207, 42, 43, 44, 45, 46, 47, 48, 49, 60, 61, 62, 6, 63, 64, 65, 8, 66, 67, 68, 69, 50, 51, 52, 53, 55, 56, 57, 58, 59, 70, 71, 72, 73, 74, 75, 77, 78, 79, 80, 81, 82, 83, 84, 85, 86, 87, 88, 89, 90, 91, 237, 238, 239, 240, 241, 242, 243, 244, 245, 246, 247, 260, 261, 262, 263, 264, 265, 266, 267, 268, 269, 251, 252, 253, 254, 255, 256, 270, 271, 248, 249, 250] (by decide +kernel) (by decide +kernel)
set_option maxRecDepth 20000 in
theorem gX6_passTicks_X6_handOut : GoodIn wsX6_passTicks (wsV RX6 112 RX6 yX6_handOut wsX6_handOut) := goodIn_app (goodIn_of _ (by decide +kernel)) ggX6_passTicks_X6_handOut
set_option maxRecDepth 20000 in
theorem ggX6_passTicks_X6_closeRested : GoodIn wsX6_passTicks wsX6_closeRested := goodIn_r _ [211, 118, 14, 15, 2, 165, 212, 213, 214, 12, 215, 216, 217, 218, 219, 166, 167, 168, 127, 169, 170, 50, 51, 52, 53, 1, 54, 55, 56, 57, 40, 58, 59, 42, 43, 44, 45, 46, 47, 48, 49, 60, 61, 62, 6, 63, 64, 65, 8, 66, 67, 68, 69, 237, 238, 239, 240, 241, 242, 243, 244, 245, 246, 247, 251, 252, 253, 254, 255, 256, 270, 271, 248, 249, 250] (by decide +kernel) (by decide +kernel)
set_option maxRecDepth 20000 in
theorem gX6_passTicks_X6_closeRested : GoodIn wsX6_passTicks (wsV RX6 115 RX6 yX6_closeRested wsX6_closeRested) := goodIn_app (goodIn_of _ (by decide +kernel)) ggX6_passTicks_X6_closeRested
set_option maxRecDepth 20000 in
theorem ggX6_passTicks_X6_closeSurplus : GoodIn wsX6_passTicks wsX6_closeSurplus := goodIn_r _ [223, 118, 14, 15, 212, 213, 214, 12, 215, 216, 217, 218, 219, 166, 167, 168, 127, 169, 170, 50, 51, 52, 53, 1, 2, 54, 55, 56, 57, 40, 58, 59, 42, 43, 44, 45, 46, 47, 48, 49, 60, 61, 62, 6, 63, 64, 65, 8, 66, 67, 68, 69, 237, 238, 239, 240, 241, 242, 243, 244, 245, 246, 247, 251, 252, 253, 254, 255, 256, 270, 271, 248, 249, 250] (by decide +kernel) (by decide +kernel)
set_option maxRecDepth 20000 in
theorem gX6_passTicks_X6_closeSurplus : GoodIn wsX6_passTicks (wsV RX6 118 RX6 yX6_closeSurplus wsX6_closeSurplus) := goodIn_app (goodIn_of _ (by decide +kernel)) ggX6_passTicks_X6_closeSurplus
set_option maxRecDepth 20000 in
theorem ggX6_passTicks_X6_openWanted : GoodIn wsX6_passTicks wsX6_openWanted := goodIn_r _ [227, 118, 88, 89, 90, 91, 228, 131, 132, 14, 15, 216, 217, 218, 12, 219, 120, 121, 122, 123, 96, 97, 36, 166, 167, 168, 127, 169, 170, 212, 213, 214, 215, 229, 230, 231, 232, 1, 2, 54, 60, 61, 62, 6, 63, 64, 65, 8, 66, 67, 68, 69, 233, 234, 235, 40, 236, 42, 43, 44, 45, 46, 47, 48, 49, 37, 38, 39, 41, 237, 238, 239, 240, 241, 242, 243, 244, 245, 246, 247, 251, 252, 253, 254, 255, 256, 260, 261, 262, 263, 264, 265, 266, 267, 268, 269, 270, 271, 248, 249, 250] (by decide +kernel) (by decide +kernel)
set_option maxRecDepth 20000 in
theorem gX6_passTicks_X6_openWanted : GoodIn wsX6_passTicks (wsV RX6 121 RX6 yX6_openWanted wsX6_openWanted) := goodIn_app (goodIn_of _ (by decide +kernel)) ggX6_passTicks_X6_openWanted
theorem dX6_passTicks_0 : decode cX6_passTicks 0 = .ok (.aload_n 0, 1) := by decide +kernel
theorem dX6_passTicks_1 : decode cX6_passTicks 1 = .ok (.getfield 41, 3) := by decide +kernel
theorem dX6_passTicks_4 : decode cX6_passTicks 4 = .ok (.iconst 2, 1) := by decide +kernel
theorem dX6_passTicks_5 : decode cX6_passTicks 5 = .ok (.invokevirtual 84, 3) := by decide +kernel
theorem dX6_passTicks_8 : decode cX6_passTicks 8 = .ok (.istore_n 2, 1) := by decide +kernel
theorem dX6_passTicks_9 : decode cX6_passTicks 9 = .ok (.iconst 0, 1) := by decide +kernel
theorem dX6_passTicks_10 : decode cX6_passTicks 10 = .ok (.istore_n 3, 1) := by decide +kernel
theorem dX6_passTicks_11 : decode cX6_passTicks 11 = .ok (.iload_n 3, 1) := by decide +kernel
theorem dX6_passTicks_12 : decode cX6_passTicks 12 = .ok (.iload_n 1, 1) := by decide +kernel
theorem dX6_passTicks_13 : decode cX6_passTicks 13 = .ok (.if_icmp .ge 67, 3) := by decide +kernel
theorem dX6_passTicks_16 : decode cX6_passTicks 16 = .ok (.aload_n 0, 1) := by decide +kernel
theorem dX6_passTicks_17 : decode cX6_passTicks 17 = .ok (.dup, 1) := by decide +kernel
theorem dX6_passTicks_18 : decode cX6_passTicks 18 = .ok (.getfield 56, 3) := by decide +kernel
theorem dX6_passTicks_21 : decode cX6_passTicks 21 = .ok (.iconst 1, 1) := by decide +kernel
theorem dX6_passTicks_22 : decode cX6_passTicks 22 = .ok (.iadd, 1) := by decide +kernel
theorem dX6_passTicks_23 : decode cX6_passTicks 23 = .ok (.putfield 56, 3) := by decide +kernel
theorem dX6_passTicks_26 : decode cX6_passTicks 26 = .ok (.aload_n 0, 1) := by decide +kernel
theorem dX6_passTicks_27 : decode cX6_passTicks 27 = .ok (.invokevirtual 88, 3) := by decide +kernel
theorem dX6_passTicks_30 : decode cX6_passTicks 30 = .ok (.aload_n 0, 1) := by decide +kernel
theorem dX6_passTicks_31 : decode cX6_passTicks 31 = .ok (.invokevirtual 91, 3) := by decide +kernel
theorem dX6_passTicks_34 : decode cX6_passTicks 34 = .ok (.aload_n 0, 1) := by decide +kernel
theorem dX6_passTicks_35 : decode cX6_passTicks 35 = .ok (.invokevirtual 94, 3) := by decide +kernel
theorem dX6_passTicks_38 : decode cX6_passTicks 38 = .ok (.aload_n 0, 1) := by decide +kernel
theorem dX6_passTicks_39 : decode cX6_passTicks 39 = .ok (.invokevirtual 97, 3) := by decide +kernel
theorem dX6_passTicks_42 : decode cX6_passTicks 42 = .ok (.aload_n 0, 1) := by decide +kernel
theorem dX6_passTicks_43 : decode cX6_passTicks 43 = .ok (.invokevirtual 100, 3) := by decide +kernel
theorem dX6_passTicks_46 : decode cX6_passTicks 46 = .ok (.aload_n 0, 1) := by decide +kernel
theorem dX6_passTicks_47 : decode cX6_passTicks 47 = .ok (.invokevirtual 103, 3) := by decide +kernel
theorem dX6_passTicks_50 : decode cX6_passTicks 50 = .ok (.aload_n 0, 1) := by decide +kernel
theorem dX6_passTicks_51 : decode cX6_passTicks 51 = .ok (.invokevirtual 106, 3) := by decide +kernel
theorem dX6_passTicks_54 : decode cX6_passTicks 54 = .ok (.aload_n 0, 1) := by decide +kernel
theorem dX6_passTicks_55 : decode cX6_passTicks 55 = .ok (.invokevirtual 109, 3) := by decide +kernel
theorem dX6_passTicks_58 : decode cX6_passTicks 58 = .ok (.aload_n 0, 1) := by decide +kernel
theorem dX6_passTicks_59 : decode cX6_passTicks 59 = .ok (.invokevirtual 112, 3) := by decide +kernel
theorem dX6_passTicks_62 : decode cX6_passTicks 62 = .ok (.aload_n 0, 1) := by decide +kernel
theorem dX6_passTicks_63 : decode cX6_passTicks 63 = .ok (.invokevirtual 115, 3) := by decide +kernel
theorem dX6_passTicks_66 : decode cX6_passTicks 66 = .ok (.aload_n 0, 1) := by decide +kernel
theorem dX6_passTicks_67 : decode cX6_passTicks 67 = .ok (.invokevirtual 118, 3) := by decide +kernel
theorem dX6_passTicks_70 : decode cX6_passTicks 70 = .ok (.aload_n 0, 1) := by decide +kernel
theorem dX6_passTicks_71 : decode cX6_passTicks 71 = .ok (.invokevirtual 121, 3) := by decide +kernel
theorem dX6_passTicks_74 : decode cX6_passTicks 74 = .ok (.iinc 3 1, 3) := by decide +kernel
theorem dX6_passTicks_77 : decode cX6_passTicks 77 = .ok (.goto (-66), 3) := by decide +kernel
theorem dX6_passTicks_80 : decode cX6_passTicks 80 = .ok (.aload_n 0, 1) := by decide +kernel
theorem dX6_passTicks_81 : decode cX6_passTicks 81 = .ok (.getfield 41, 3) := by decide +kernel
theorem dX6_passTicks_84 : decode cX6_passTicks 84 = .ok (.iconst 2, 1) := by decide +kernel
theorem dX6_passTicks_85 : decode cX6_passTicks 85 = .ok (.invokevirtual 84, 3) := by decide +kernel
theorem dX6_passTicks_88 : decode cX6_passTicks 88 = .ok (.iload_n 2, 1) := by decide +kernel
theorem dX6_passTicks_89 : decode cX6_passTicks 89 = .ok (.isub, 1) := by decide +kernel
theorem dX6_passTicks_90 : decode cX6_passTicks 90 = .ok (.ireturn, 1) := by decide +kernel
set_option maxRecDepth 20000 in
theorem ggX6_breakLines_X0_strike : GoodIn wsX6_breakLines wsX0_strike := goodIn_r _ [10, 11, 12, 13, 31, 32, 33] (by decide +kernel) (by decide +kernel)
set_option maxRecDepth 20000 in
theorem gX6_breakLines_X0_strike : GoodIn wsX6_breakLines (wsV RX6 127 RX0 yX0_strike wsX0_strike) := goodIn_app (goodIn_of _ (by decide +kernel)) ggX6_breakLines_X0_strike
theorem dX6_breakLines_0 : decode cX6_breakLines 0 = .ok (.iconst 0, 1) := by decide +kernel
theorem dX6_breakLines_1 : decode cX6_breakLines 1 = .ok (.istore_n 1, 1) := by decide +kernel
theorem dX6_breakLines_2 : decode cX6_breakLines 2 = .ok (.iload_n 1, 1) := by decide +kernel
theorem dX6_breakLines_3 : decode cX6_breakLines 3 = .ok (.bipush 12, 2) := by decide +kernel
theorem dX6_breakLines_5 : decode cX6_breakLines 5 = .ok (.if_icmp .ge 43, 3) := by decide +kernel
theorem dX6_breakLines_8 : decode cX6_breakLines 8 = .ok (.aload_n 0, 1) := by decide +kernel
theorem dX6_breakLines_9 : decode cX6_breakLines 9 = .ok (.getfield 17, 3) := by decide +kernel
theorem dX6_breakLines_12 : decode cX6_breakLines 12 = .ok (.iload_n 1, 1) := by decide +kernel
theorem dX6_breakLines_13 : decode cX6_breakLines 13 = .ok (.aaload, 1) := by decide +kernel
theorem dX6_breakLines_14 : decode cX6_breakLines 14 = .ok (.astore_n 2, 1) := by decide +kernel
theorem dX6_breakLines_15 : decode cX6_breakLines 15 = .ok (.aload_n 2, 1) := by decide +kernel
theorem dX6_breakLines_16 : decode cX6_breakLines 16 = .ok (.getfield 124, 3) := by decide +kernel
theorem dX6_breakLines_19 : decode cX6_breakLines 19 = .ok (.ifCond .eq 23, 3) := by decide +kernel
theorem dX6_breakLines_22 : decode cX6_breakLines 22 = .ok (.aload_n 0, 1) := by decide +kernel
theorem dX6_breakLines_23 : decode cX6_breakLines 23 = .ok (.getfield 34, 3) := by decide +kernel
theorem dX6_breakLines_26 : decode cX6_breakLines 26 = .ok (.aload_n 0, 1) := by decide +kernel
theorem dX6_breakLines_27 : decode cX6_breakLines 27 = .ok (.getfield 56, 3) := by decide +kernel
theorem dX6_breakLines_30 : decode cX6_breakLines 30 = .ok (.iload_n 1, 1) := by decide +kernel
theorem dX6_breakLines_31 : decode cX6_breakLines 31 = .ok (.invokevirtual 127, 3) := by decide +kernel
theorem dX6_breakLines_34 : decode cX6_breakLines 34 = .ok (.ifCond .eq 8, 3) := by decide +kernel
theorem dX6_breakLines_37 : decode cX6_breakLines 37 = .ok (.aload_n 2, 1) := by decide +kernel
theorem dX6_breakLines_38 : decode cX6_breakLines 38 = .ok (.iconst 1, 1) := by decide +kernel
theorem dX6_breakLines_39 : decode cX6_breakLines 39 = .ok (.putfield 130, 3) := by decide +kernel
theorem dX6_breakLines_42 : decode cX6_breakLines 42 = .ok (.iinc 1 1, 3) := by decide +kernel
theorem dX6_breakLines_45 : decode cX6_breakLines 45 = .ok (.goto (-43), 3) := by decide +kernel
theorem dX6_breakLines_48 : decode cX6_breakLines 48 = .ok (.return_, 1) := by decide +kernel
set_option maxRecDepth 20000 in
theorem ggX6_advanceLines_X6_endStep : GoodIn wsX6_advanceLines wsX6_endStep := goodIn_r _ [8, 9, 10, 11, 12, 13, 14, 15, 16, 17, 18, 19, 20, 21, 22, 23, 24, 25, 26, 27, 28, 7, 29, 30, 31, 32, 33, 34, 35, 36, 37, 38, 39, 40, 41, 42, 43, 44, 45, 46, 47, 48, 49, 50, 51, 52, 53, 54, 55, 56, 57, 58, 59, 60, 61, 62, 63, 64, 65, 66, 67, 68, 69, 70, 82, 83, 84, 85, 86, 87, 71, 72, 73, 74, 75, 76, 77, 78, 79, 80, 81, 88, 89, 90, 91, 92, 93, 94, 95, 96, 97, 98, 99, 100] (by decide +kernel) (by decide +kernel)
set_option maxRecDepth 20000 in
theorem gX6_advanceLines_X6_endStep : GoodIn wsX6_advanceLines (wsV RX6 137 RX6 yX6_endStep wsX6_endStep) := goodIn_app (goodIn_of _ (by decide +kernel)) ggX6_advanceLines_X6_endStep
theorem dX6_advanceLines_0 : decode cX6_advanceLines 0 = .ok (.iconst 0, 1) := by decide +kernel
theorem dX6_advanceLines_1 : decode cX6_advanceLines 1 = .ok (.istore_n 1, 1) := by decide +kernel
theorem dX6_advanceLines_2 : decode cX6_advanceLines 2 = .ok (.iload_n 1, 1) := by decide +kernel
theorem dX6_advanceLines_3 : decode cX6_advanceLines 3 = .ok (.bipush 12, 2) := by decide +kernel
theorem dX6_advanceLines_5 : decode cX6_advanceLines 5 = .ok (.if_icmp .ge 54, 3) := by decide +kernel
theorem dX6_advanceLines_8 : decode cX6_advanceLines 8 = .ok (.aload_n 0, 1) := by decide +kernel
theorem dX6_advanceLines_9 : decode cX6_advanceLines 9 = .ok (.getfield 17, 3) := by decide +kernel
theorem dX6_advanceLines_12 : decode cX6_advanceLines 12 = .ok (.iload_n 1, 1) := by decide +kernel
theorem dX6_advanceLines_13 : decode cX6_advanceLines 13 = .ok (.aaload, 1) := by decide +kernel
theorem dX6_advanceLines_14 : decode cX6_advanceLines 14 = .ok (.astore_n 2, 1) := by decide +kernel
theorem dX6_advanceLines_15 : decode cX6_advanceLines 15 = .ok (.aload_n 2, 1) := by decide +kernel
theorem dX6_advanceLines_16 : decode cX6_advanceLines 16 = .ok (.getfield 124, 3) := by decide +kernel
theorem dX6_advanceLines_19 : decode cX6_advanceLines 19 = .ok (.iconst 1, 1) := by decide +kernel
theorem dX6_advanceLines_20 : decode cX6_advanceLines 20 = .ok (.if_icmp .eq 11, 3) := by decide +kernel
theorem dX6_advanceLines_23 : decode cX6_advanceLines 23 = .ok (.aload_n 2, 1) := by decide +kernel
theorem dX6_advanceLines_24 : decode cX6_advanceLines 24 = .ok (.getfield 124, 3) := by decide +kernel
theorem dX6_advanceLines_27 : decode cX6_advanceLines 27 = .ok (.iconst 3, 1) := by decide +kernel
theorem dX6_advanceLines_28 : decode cX6_advanceLines 28 = .ok (.if_icmp .ne 25, 3) := by decide +kernel
theorem dX6_advanceLines_31 : decode cX6_advanceLines 31 = .ok (.aload_n 2, 1) := by decide +kernel
theorem dX6_advanceLines_32 : decode cX6_advanceLines 32 = .ok (.dup, 1) := by decide +kernel
theorem dX6_advanceLines_33 : decode cX6_advanceLines 33 = .ok (.getfield 134, 3) := by decide +kernel
theorem dX6_advanceLines_36 : decode cX6_advanceLines 36 = .ok (.iconst 1, 1) := by decide +kernel
theorem dX6_advanceLines_37 : decode cX6_advanceLines 37 = .ok (.isub, 1) := by decide +kernel
theorem dX6_advanceLines_38 : decode cX6_advanceLines 38 = .ok (.putfield 134, 3) := by decide +kernel
theorem dX6_advanceLines_41 : decode cX6_advanceLines 41 = .ok (.aload_n 2, 1) := by decide +kernel
theorem dX6_advanceLines_42 : decode cX6_advanceLines 42 = .ok (.getfield 134, 3) := by decide +kernel
theorem dX6_advanceLines_45 : decode cX6_advanceLines 45 = .ok (.ifCond .gt 8, 3) := by decide +kernel
theorem dX6_advanceLines_48 : decode cX6_advanceLines 48 = .ok (.aload_n 0, 1) := by decide +kernel
theorem dX6_advanceLines_49 : decode cX6_advanceLines 49 = .ok (.aload_n 2, 1) := by decide +kernel
theorem dX6_advanceLines_50 : decode cX6_advanceLines 50 = .ok (.invokevirtual 137, 3) := by decide +kernel
theorem dX6_advanceLines_53 : decode cX6_advanceLines 53 = .ok (.iinc 1 1, 3) := by decide +kernel
theorem dX6_advanceLines_56 : decode cX6_advanceLines 56 = .ok (.goto (-54), 3) := by decide +kernel
theorem dX6_advanceLines_59 : decode cX6_advanceLines 59 = .ok (.return_, 1) := by decide +kernel
set_option maxRecDepth 20000 in
theorem ggX6_endStep_X3_idleFrom : GoodIn wsX6_endStep wsX3_idleFrom := goodIn_r _ [9, 10, 11, 12, 8, 13, 14, 15, 16, 17, 64, 65, 66, 67, 68, 69] (by decide +kernel) (by decide +kernel)
set_option maxRecDepth 20000 in
theorem gX6_endStep_X3_idleFrom : GoodIn wsX6_endStep (wsV RX6 145 RX3 yX3_idleFrom wsX3_idleFrom) := goodIn_app (goodIn_of _ (by decide +kernel)) ggX6_endStep_X3_idleFrom
set_option maxRecDepth 20000 in
theorem ggX6_endStep_X6_drop : GoodIn wsX6_endStep wsX6_drop := goodIn_r _ [22, 23, 2, 24, 25, 26, 27, 8, 28, 29, 10, 11, 12, 13, 14, 15, 16, 17, 30, 31, 32, 33, 34, 35, 36, 37, 38, 39, 40, 41, 70, 71, 72, 73, 74, 75, 76, 77, 78, 79, 80, 64, 65, 66, 67, 68, 69, 91, 92, 93] (by decide +kernel) (by decide +kernel)
set_option maxRecDepth 20000 in
theorem gX6_endStep_X6_drop : GoodIn wsX6_endStep (wsV RX6 148 RX6 yX6_drop wsX6_drop) := goodIn_app (goodIn_of _ (by decide +kernel)) ggX6_endStep_X6_drop
set_option maxRecDepth 20000 in
theorem ggX6_endStep_X6_lend : GoodIn wsX6_endStep wsX6_lend := goodIn_r _ [45, 2, 4, 46, 47, 23, 48, 24, 49, 50, 51, 8, 52, 10, 11, 12, 13, 14, 15, 16, 17, 53, 54, 55, 21, 56, 57, 58, 59, 60, 61, 62, 63, 30, 31, 32, 33, 34, 35, 36, 37, 38, 39, 40, 41, 70, 71, 72, 73, 74, 75, 76, 77, 78, 79, 80, 81, 82, 83, 84, 85, 86, 87, 88, 89, 90, 64, 65, 66, 67, 68, 69, 91, 92, 93] (by decide +kernel) (by decide +kernel)
set_option maxRecDepth 20000 in
theorem gX6_endStep_X6_lend : GoodIn wsX6_endStep (wsV RX6 152 RX6 yX6_lend wsX6_lend) := goodIn_app (goodIn_of _ (by decide +kernel)) ggX6_endStep_X6_lend
theorem dX6_endStep_0 : decode cX6_endStep 0 = .ok (.aload_n 1, 1) := by decide +kernel
theorem dX6_endStep_1 : decode cX6_endStep 1 = .ok (.getfield 141, 3) := by decide +kernel
theorem dX6_endStep_4 : decode cX6_endStep 4 = .ok (.astore_n 2, 1) := by decide +kernel
theorem dX6_endStep_5 : decode cX6_endStep 5 = .ok (.aload_n 2, 1) := by decide +kernel
theorem dX6_endStep_6 : decode cX6_endStep 6 = .ok (.ifnonnull 14, 3) := by decide +kernel
theorem dX6_endStep_9 : decode cX6_endStep 9 = .ok (.aload_n 1, 1) := by decide +kernel
theorem dX6_endStep_10 : decode cX6_endStep 10 = .ok (.aload_n 0, 1) := by decide +kernel
theorem dX6_endStep_11 : decode cX6_endStep 11 = .ok (.getfield 56, 3) := by decide +kernel
theorem dX6_endStep_14 : decode cX6_endStep 14 = .ok (.invokevirtual 145, 3) := by decide +kernel
theorem dX6_endStep_17 : decode cX6_endStep 17 = .ok (.goto 29, 3) := by decide +kernel
theorem dX6_endStep_20 : decode cX6_endStep 20 = .ok (.aload_n 1, 1) := by decide +kernel
theorem dX6_endStep_21 : decode cX6_endStep 21 = .ok (.getfield 130, 3) := by decide +kernel
theorem dX6_endStep_24 : decode cX6_endStep 24 = .ok (.ifCond .eq 16, 3) := by decide +kernel
theorem dX6_endStep_27 : decode cX6_endStep 27 = .ok (.aload_n 0, 1) := by decide +kernel
theorem dX6_endStep_28 : decode cX6_endStep 28 = .ok (.aload_n 1, 1) := by decide +kernel
theorem dX6_endStep_29 : decode cX6_endStep 29 = .ok (.invokevirtual 148, 3) := by decide +kernel
theorem dX6_endStep_32 : decode cX6_endStep 32 = .ok (.aload_n 2, 1) := by decide +kernel
theorem dX6_endStep_33 : decode cX6_endStep 33 = .ok (.iconst 1, 1) := by decide +kernel
theorem dX6_endStep_34 : decode cX6_endStep 34 = .ok (.putfield 151, 3) := by decide +kernel
theorem dX6_endStep_37 : decode cX6_endStep 37 = .ok (.goto 9, 3) := by decide +kernel
theorem dX6_endStep_40 : decode cX6_endStep 40 = .ok (.aload_n 0, 1) := by decide +kernel
theorem dX6_endStep_41 : decode cX6_endStep 41 = .ok (.aload_n 1, 1) := by decide +kernel
theorem dX6_endStep_42 : decode cX6_endStep 42 = .ok (.aload_n 2, 1) := by decide +kernel
theorem dX6_endStep_43 : decode cX6_endStep 43 = .ok (.invokevirtual 152, 3) := by decide +kernel
theorem dX6_endStep_46 : decode cX6_endStep 46 = .ok (.return_, 1) := by decide +kernel
set_option maxRecDepth 20000 in
theorem ggX6_failBroken_X6_hasBroken : GoodIn wsX6_failBroken wsX6_hasBroken := goodIn_r _ [8, 9, 10, 11, 62, 63, 64, 65, 66, 67, 68, 69, 70, 71, 72, 83, 84, 85, 86, 87, 88] (by decide +kernel) (by decide +kernel)
set_option maxRecDepth 20000 in
theorem gX6_failBroken_X6_hasBroken : GoodIn wsX6_failBroken (wsV RX6 156 RX6 yX6_hasBroken wsX6_hasBroken) := goodIn_app (goodIn_of _ (by decide +kernel)) ggX6_failBroken_X6_hasBroken
set_option maxRecDepth 20000 in
theorem ggX6_failBroken_X6_leave : GoodIn wsX6_failBroken wsX6_leave := goodIn_r _ [15, 3, 16, 17, 18, 19, 20, 21, 22, 23, 24, 25, 26, 27, 28, 29, 30, 73, 74, 75, 76, 77, 78, 79, 80, 81, 82, 62, 63, 64, 65, 66, 67, 68, 69, 70, 71, 72, 89, 90, 91] (by decide +kernel) (by decide +kernel)
set_option maxRecDepth 20000 in
theorem gX6_failBroken_X6_leave : GoodIn wsX6_failBroken (wsV RX6 160 RX6 yX6_leave wsX6_leave) := goodIn_app (goodIn_of _ (by decide +kernel)) ggX6_failBroken_X6_leave
set_option maxRecDepth 20000 in
theorem ggX6_failBroken_X6_dropBroken : GoodIn wsX6_failBroken wsX6_dropBroken := goodIn_r _ [34, 9, 10, 11, 35, 36, 37, 7, 38, 16, 17, 39, 40, 41, 42, 43, 44, 45, 46, 47, 48, 49, 50, 51, 52, 53, 19, 20, 21, 22, 23, 24, 25, 26, 27, 28, 29, 30, 62, 63, 64, 65, 66, 67, 68, 69, 70, 71, 72, 83, 84, 85, 86, 87, 88, 89, 90, 91] (by decide +kernel) (by decide +kernel)
set_option maxRecDepth 20000 in
theorem gX6_failBroken_X6_dropBroken : GoodIn wsX6_failBroken (wsV RX6 164 RX6 yX6_dropBroken wsX6_dropBroken) := goodIn_app (goodIn_of _ (by decide +kernel)) ggX6_failBroken_X6_dropBroken
set_option maxRecDepth 20000 in
theorem ggX6_failBroken_X6_giveBack : GoodIn wsX6_failBroken wsX6_giveBack := goodIn_r _ [57, 9, 10, 17, 58, 59, 60, 43, 61, 46, 47, 48, 49, 50, 51, 52, 53, 62, 63, 64, 65, 66, 67, 68, 69, 70, 71, 72, 83, 84, 85, 86, 87, 88] (by decide +kernel) (by decide +kernel)
set_option maxRecDepth 20000 in
theorem gX6_failBroken_X6_giveBack : GoodIn wsX6_failBroken (wsV RX6 168 RX6 yX6_giveBack wsX6_giveBack) := goodIn_app (goodIn_of _ (by decide +kernel)) ggX6_failBroken_X6_giveBack
theorem dX6_failBroken_0 : decode cX6_failBroken 0 = .ok (.iconst 0, 1) := by decide +kernel
theorem dX6_failBroken_1 : decode cX6_failBroken 1 = .ok (.istore_n 1, 1) := by decide +kernel
theorem dX6_failBroken_2 : decode cX6_failBroken 2 = .ok (.iload_n 1, 1) := by decide +kernel
theorem dX6_failBroken_3 : decode cX6_failBroken 3 = .ok (.aload_n 0, 1) := by decide +kernel
theorem dX6_failBroken_4 : decode cX6_failBroken 4 = .ok (.getfield 52, 3) := by decide +kernel
theorem dX6_failBroken_7 : decode cX6_failBroken 7 = .ok (.if_icmp .ge 50, 3) := by decide +kernel
theorem dX6_failBroken_10 : decode cX6_failBroken 10 = .ok (.aload_n 0, 1) := by decide +kernel
theorem dX6_failBroken_11 : decode cX6_failBroken 11 = .ok (.getfield 26, 3) := by decide +kernel
theorem dX6_failBroken_14 : decode cX6_failBroken 14 = .ok (.iload_n 1, 1) := by decide +kernel
theorem dX6_failBroken_15 : decode cX6_failBroken 15 = .ok (.aaload, 1) := by decide +kernel
theorem dX6_failBroken_16 : decode cX6_failBroken 16 = .ok (.astore_n 2, 1) := by decide +kernel
theorem dX6_failBroken_17 : decode cX6_failBroken 17 = .ok (.aload_n 2, 1) := by decide +kernel
theorem dX6_failBroken_18 : decode cX6_failBroken 18 = .ok (.getfield 151, 3) := by decide +kernel
theorem dX6_failBroken_21 : decode cX6_failBroken 21 = .ok (.iconst 3, 1) := by decide +kernel
theorem dX6_failBroken_22 : decode cX6_failBroken 22 = .ok (.if_icmp .ne 29, 3) := by decide +kernel
theorem dX6_failBroken_25 : decode cX6_failBroken 25 = .ok (.aload_n 0, 1) := by decide +kernel
theorem dX6_failBroken_26 : decode cX6_failBroken 26 = .ok (.aload_n 2, 1) := by decide +kernel
theorem dX6_failBroken_27 : decode cX6_failBroken 27 = .ok (.invokevirtual 156, 3) := by decide +kernel
theorem dX6_failBroken_30 : decode cX6_failBroken 30 = .ok (.ifCond .eq 21, 3) := by decide +kernel
theorem dX6_failBroken_33 : decode cX6_failBroken 33 = .ok (.aload_n 0, 1) := by decide +kernel
theorem dX6_failBroken_34 : decode cX6_failBroken 34 = .ok (.aload_n 2, 1) := by decide +kernel
theorem dX6_failBroken_35 : decode cX6_failBroken 35 = .ok (.bipush 6, 2) := by decide +kernel
theorem dX6_failBroken_37 : decode cX6_failBroken 37 = .ok (.iconst 3, 1) := by decide +kernel
theorem dX6_failBroken_38 : decode cX6_failBroken 38 = .ok (.invokevirtual 160, 3) := by decide +kernel
theorem dX6_failBroken_41 : decode cX6_failBroken 41 = .ok (.aload_n 0, 1) := by decide +kernel
theorem dX6_failBroken_42 : decode cX6_failBroken 42 = .ok (.aload_n 2, 1) := by decide +kernel
theorem dX6_failBroken_43 : decode cX6_failBroken 43 = .ok (.invokevirtual 164, 3) := by decide +kernel
theorem dX6_failBroken_46 : decode cX6_failBroken 46 = .ok (.aload_n 0, 1) := by decide +kernel
theorem dX6_failBroken_47 : decode cX6_failBroken 47 = .ok (.aload_n 2, 1) := by decide +kernel
theorem dX6_failBroken_48 : decode cX6_failBroken 48 = .ok (.invokevirtual 168, 3) := by decide +kernel
theorem dX6_failBroken_51 : decode cX6_failBroken 51 = .ok (.iinc 1 1, 3) := by decide +kernel
theorem dX6_failBroken_54 : decode cX6_failBroken 54 = .ok (.goto (-52), 3) := by decide +kernel
theorem dX6_failBroken_57 : decode cX6_failBroken 57 = .ok (.return_, 1) := by decide +kernel
theorem dX6_hasBroken_0 : decode cX6_hasBroken 0 = .ok (.iconst 0, 1) := by decide +kernel
theorem dX6_hasBroken_1 : decode cX6_hasBroken 1 = .ok (.istore_n 2, 1) := by decide +kernel
theorem dX6_hasBroken_2 : decode cX6_hasBroken 2 = .ok (.iload_n 2, 1) := by decide +kernel
theorem dX6_hasBroken_3 : decode cX6_hasBroken 3 = .ok (.bipush 12, 2) := by decide +kernel
theorem dX6_hasBroken_5 : decode cX6_hasBroken 5 = .ok (.if_icmp .ge 36, 3) := by decide +kernel
theorem dX6_hasBroken_8 : decode cX6_hasBroken 8 = .ok (.aload_n 0, 1) := by decide +kernel
theorem dX6_hasBroken_9 : decode cX6_hasBroken 9 = .ok (.getfield 17, 3) := by decide +kernel
theorem dX6_hasBroken_12 : decode cX6_hasBroken 12 = .ok (.iload_n 2, 1) := by decide +kernel
theorem dX6_hasBroken_13 : decode cX6_hasBroken 13 = .ok (.aaload, 1) := by decide +kernel
theorem dX6_hasBroken_14 : decode cX6_hasBroken 14 = .ok (.getfield 141, 3) := by decide +kernel
theorem dX6_hasBroken_17 : decode cX6_hasBroken 17 = .ok (.aload_n 1, 1) := by decide +kernel
theorem dX6_hasBroken_18 : decode cX6_hasBroken 18 = .ok (.if_acmp .ne 17, 3) := by decide +kernel
theorem dX6_hasBroken_21 : decode cX6_hasBroken 21 = .ok (.aload_n 0, 1) := by decide +kernel
theorem dX6_hasBroken_22 : decode cX6_hasBroken 22 = .ok (.getfield 17, 3) := by decide +kernel
theorem dX6_hasBroken_25 : decode cX6_hasBroken 25 = .ok (.iload_n 2, 1) := by decide +kernel
theorem dX6_hasBroken_26 : decode cX6_hasBroken 26 = .ok (.aaload, 1) := by decide +kernel
theorem dX6_hasBroken_27 : decode cX6_hasBroken 27 = .ok (.getfield 130, 3) := by decide +kernel
theorem dX6_hasBroken_30 : decode cX6_hasBroken 30 = .ok (.ifCond .eq 5, 3) := by decide +kernel
theorem dX6_hasBroken_33 : decode cX6_hasBroken 33 = .ok (.iconst 1, 1) := by decide +kernel
theorem dX6_hasBroken_34 : decode cX6_hasBroken 34 = .ok (.ireturn, 1) := by decide +kernel
theorem dX6_hasBroken_35 : decode cX6_hasBroken 35 = .ok (.iinc 2 1, 3) := by decide +kernel
theorem dX6_hasBroken_38 : decode cX6_hasBroken 38 = .ok (.goto (-36), 3) := by decide +kernel
theorem dX6_hasBroken_41 : decode cX6_hasBroken 41 = .ok (.iconst 0, 1) := by decide +kernel
theorem dX6_hasBroken_42 : decode cX6_hasBroken 42 = .ok (.ireturn, 1) := by decide +kernel
set_option maxRecDepth 20000 in
theorem ggX6_dropBroken_X6_drop : GoodIn wsX6_dropBroken wsX6_drop := goodIn_r _ [8, 9, 10, 11, 12, 13, 14, 15, 16, 17, 18, 19, 20, 21, 22, 23, 24, 25, 26, 27, 28, 29, 30, 31, 32, 33, 34, 35, 36, 37, 38, 39, 40, 41, 42, 43, 44, 45, 46, 47, 48, 49, 50, 51, 52, 53, 54, 55, 56, 57] (by decide +kernel) (by decide +kernel)
set_option maxRecDepth 20000 in
theorem gX6_dropBroken_X6_drop : GoodIn wsX6_dropBroken (wsV RX6 148 RX6 yX6_drop wsX6_drop) := goodIn_app (goodIn_of _ (by decide +kernel)) ggX6_dropBroken_X6_drop
theorem dX6_dropBroken_0 : decode cX6_dropBroken 0 = .ok (.iconst 0, 1) := by decide +kernel
theorem dX6_dropBroken_1 : decode cX6_dropBroken 1 = .ok (.istore_n 2, 1) := by decide +kernel
theorem dX6_dropBroken_2 : decode cX6_dropBroken 2 = .ok (.iload_n 2, 1) := by decide +kernel
theorem dX6_dropBroken_3 : decode cX6_dropBroken 3 = .ok (.bipush 12, 2) := by decide +kernel
theorem dX6_dropBroken_5 : decode cX6_dropBroken 5 = .ok (.if_icmp .ge 44, 3) := by decide +kernel
theorem dX6_dropBroken_8 : decode cX6_dropBroken 8 = .ok (.aload_n 0, 1) := by decide +kernel
theorem dX6_dropBroken_9 : decode cX6_dropBroken 9 = .ok (.getfield 17, 3) := by decide +kernel
theorem dX6_dropBroken_12 : decode cX6_dropBroken 12 = .ok (.iload_n 2, 1) := by decide +kernel
theorem dX6_dropBroken_13 : decode cX6_dropBroken 13 = .ok (.aaload, 1) := by decide +kernel
theorem dX6_dropBroken_14 : decode cX6_dropBroken 14 = .ok (.getfield 141, 3) := by decide +kernel
theorem dX6_dropBroken_17 : decode cX6_dropBroken 17 = .ok (.aload_n 1, 1) := by decide +kernel
theorem dX6_dropBroken_18 : decode cX6_dropBroken 18 = .ok (.if_acmp .ne 25, 3) := by decide +kernel
theorem dX6_dropBroken_21 : decode cX6_dropBroken 21 = .ok (.aload_n 0, 1) := by decide +kernel
theorem dX6_dropBroken_22 : decode cX6_dropBroken 22 = .ok (.getfield 17, 3) := by decide +kernel
theorem dX6_dropBroken_25 : decode cX6_dropBroken 25 = .ok (.iload_n 2, 1) := by decide +kernel
theorem dX6_dropBroken_26 : decode cX6_dropBroken 26 = .ok (.aaload, 1) := by decide +kernel
theorem dX6_dropBroken_27 : decode cX6_dropBroken 27 = .ok (.getfield 130, 3) := by decide +kernel
theorem dX6_dropBroken_30 : decode cX6_dropBroken 30 = .ok (.ifCond .eq 13, 3) := by decide +kernel
theorem dX6_dropBroken_33 : decode cX6_dropBroken 33 = .ok (.aload_n 0, 1) := by decide +kernel
theorem dX6_dropBroken_34 : decode cX6_dropBroken 34 = .ok (.aload_n 0, 1) := by decide +kernel
theorem dX6_dropBroken_35 : decode cX6_dropBroken 35 = .ok (.getfield 17, 3) := by decide +kernel
theorem dX6_dropBroken_38 : decode cX6_dropBroken 38 = .ok (.iload_n 2, 1) := by decide +kernel
theorem dX6_dropBroken_39 : decode cX6_dropBroken 39 = .ok (.aaload, 1) := by decide +kernel
theorem dX6_dropBroken_40 : decode cX6_dropBroken 40 = .ok (.invokevirtual 148, 3) := by decide +kernel
theorem dX6_dropBroken_43 : decode cX6_dropBroken 43 = .ok (.iinc 2 1, 3) := by decide +kernel
theorem dX6_dropBroken_46 : decode cX6_dropBroken 46 = .ok (.goto (-44), 3) := by decide +kernel
theorem dX6_dropBroken_49 : decode cX6_dropBroken 49 = .ok (.return_, 1) := by decide +kernel
set_option maxRecDepth 20000 in
theorem ggX6_doWork_X6_callersIn : GoodIn wsX6_doWork wsX6_callersIn := goodIn_r _ [14, 2, 3, 4, 25, 26, 27, 28, 29, 30, 31, 32, 33, 34, 35, 36, 37, 38, 39, 40, 41, 42, 43, 44, 45] (by decide +kernel) (by decide +kernel)
set_option maxRecDepth 20000 in
theorem gX6_doWork_X6_callersIn : GoodIn wsX6_doWork (wsV RX6 171 RX6 yX6_callersIn wsX6_callersIn) := goodIn_app (goodIn_of _ (by decide +kernel)) ggX6_doWork_X6_callersIn
set_option maxRecDepth 20000 in
theorem ggX6_doWork_X7_speedOf : GoodIn wsX6_doWork wsX7_speedOf := goodIn_r _ [19, 20, 21, 22, 8, 23, 24, 7, 9, 46, 47] (by decide +kernel) (by decide +kernel)
set_option maxRecDepth 20000 in
theorem gX6_doWork_X7_speedOf : GoodIn wsX6_doWork (wsV RX6 174 RX7 yX7_speedOf wsX7_speedOf) := goodIn_app (goodIn_of _ (by decide +kernel)) ggX6_doWork_X7_speedOf
theorem dX6_doWork_0 : decode cX6_doWork 0 = .ok (.aload_n 0, 1) := by decide +kernel
theorem dX6_doWork_1 : decode cX6_doWork 1 = .ok (.getfield 9, 3) := by decide +kernel
theorem dX6_doWork_4 : decode cX6_doWork 4 = .ok (.aload_n 0, 1) := by decide +kernel
theorem dX6_doWork_5 : decode cX6_doWork 5 = .ok (.iconst 3, 1) := by decide +kernel
theorem dX6_doWork_6 : decode cX6_doWork 6 = .ok (.invokevirtual 171, 3) := by decide +kernel
theorem dX6_doWork_9 : decode cX6_doWork 9 = .ok (.invokevirtual 174, 3) := by decide +kernel
theorem dX6_doWork_12 : decode cX6_doWork 12 = .ok (.istore_n 1, 1) := by decide +kernel
theorem dX6_doWork_13 : decode cX6_doWork 13 = .ok (.iconst 0, 1) := by decide +kernel
theorem dX6_doWork_14 : decode cX6_doWork 14 = .ok (.istore_n 2, 1) := by decide +kernel
theorem dX6_doWork_15 : decode cX6_doWork 15 = .ok (.iload_n 2, 1) := by decide +kernel
theorem dX6_doWork_16 : decode cX6_doWork 16 = .ok (.aload_n 0, 1) := by decide +kernel
theorem dX6_doWork_17 : decode cX6_doWork 17 = .ok (.getfield 52, 3) := by decide +kernel
theorem dX6_doWork_20 : decode cX6_doWork 20 = .ok (.if_icmp .ge 38, 3) := by decide +kernel
theorem dX6_doWork_23 : decode cX6_doWork 23 = .ok (.aload_n 0, 1) := by decide +kernel
theorem dX6_doWork_24 : decode cX6_doWork 24 = .ok (.getfield 26, 3) := by decide +kernel
theorem dX6_doWork_27 : decode cX6_doWork 27 = .ok (.iload_n 2, 1) := by decide +kernel
theorem dX6_doWork_28 : decode cX6_doWork 28 = .ok (.aaload, 1) := by decide +kernel
theorem dX6_doWork_29 : decode cX6_doWork 29 = .ok (.astore_n 3, 1) := by decide +kernel
theorem dX6_doWork_30 : decode cX6_doWork 30 = .ok (.aload_n 3, 1) := by decide +kernel
theorem dX6_doWork_31 : decode cX6_doWork 31 = .ok (.getfield 151, 3) := by decide +kernel
theorem dX6_doWork_34 : decode cX6_doWork 34 = .ok (.iconst 3, 1) := by decide +kernel
theorem dX6_doWork_35 : decode cX6_doWork 35 = .ok (.if_icmp .ne 17, 3) := by decide +kernel
theorem dX6_doWork_38 : decode cX6_doWork 38 = .ok (.aload_n 3, 1) := by decide +kernel
theorem dX6_doWork_39 : decode cX6_doWork 39 = .ok (.iconst 0, 1) := by decide +kernel
theorem dX6_doWork_40 : decode cX6_doWork 40 = .ok (.aload_n 3, 1) := by decide +kernel
theorem dX6_doWork_41 : decode cX6_doWork 41 = .ok (.getfield 179, 3) := by decide +kernel
theorem dX6_doWork_44 : decode cX6_doWork 44 = .ok (.iload_n 1, 1) := by decide +kernel
theorem dX6_doWork_45 : decode cX6_doWork 45 = .ok (.isub, 1) := by decide +kernel
theorem dX6_doWork_46 : decode cX6_doWork 46 = .ok (.invokestatic 182, 3) := by decide +kernel
theorem dX6_doWork_49 : decode cX6_doWork 49 = .ok (.putfield 179, 3) := by decide +kernel
theorem dX6_doWork_52 : decode cX6_doWork 52 = .ok (.iinc 2 1, 3) := by decide +kernel
theorem dX6_doWork_55 : decode cX6_doWork 55 = .ok (.goto (-40), 3) := by decide +kernel
theorem dX6_doWork_58 : decode cX6_doWork 58 = .ok (.return_, 1) := by decide +kernel
set_option maxRecDepth 20000 in
theorem ggX6_finishWork_X6_finish : GoodIn wsX6_finishWork wsX6_finish := goodIn_r _ [9, 10, 3, 11, 12, 13, 14, 15, 16, 17, 18, 19, 20, 21, 22, 23, 24, 25, 26, 27, 28, 29, 8, 30, 31, 32, 33, 34, 35, 36, 37, 38, 39, 40, 41, 42, 43, 44, 45, 46, 47, 48, 49, 50, 51, 52, 53, 54, 55, 56, 57, 58, 59, 60, 61, 62, 63, 75, 76, 77, 78, 79, 80, 81, 82, 83, 84, 64, 65, 66, 67, 68, 69, 70, 71, 72, 73, 74, 85, 86, 87, 88, 89, 90, 91, 92, 93] (by decide +kernel) (by decide +kernel)
set_option maxRecDepth 20000 in
theorem gX6_finishWork_X6_finish : GoodIn wsX6_finishWork (wsV RX6 188 RX6 yX6_finish wsX6_finish) := goodIn_app (goodIn_of _ (by decide +kernel)) ggX6_finishWork_X6_finish
theorem dX6_finishWork_0 : decode cX6_finishWork 0 = .ok (.iconst 0, 1) := by decide +kernel
theorem dX6_finishWork_1 : decode cX6_finishWork 1 = .ok (.istore_n 1, 1) := by decide +kernel
theorem dX6_finishWork_2 : decode cX6_finishWork 2 = .ok (.iload_n 1, 1) := by decide +kernel
theorem dX6_finishWork_3 : decode cX6_finishWork 3 = .ok (.aload_n 0, 1) := by decide +kernel
theorem dX6_finishWork_4 : decode cX6_finishWork 4 = .ok (.getfield 52, 3) := by decide +kernel
theorem dX6_finishWork_7 : decode cX6_finishWork 7 = .ok (.if_icmp .ge 36, 3) := by decide +kernel
theorem dX6_finishWork_10 : decode cX6_finishWork 10 = .ok (.aload_n 0, 1) := by decide +kernel
theorem dX6_finishWork_11 : decode cX6_finishWork 11 = .ok (.getfield 26, 3) := by decide +kernel
theorem dX6_finishWork_14 : decode cX6_finishWork 14 = .ok (.iload_n 1, 1) := by decide +kernel
theorem dX6_finishWork_15 : decode cX6_finishWork 15 = .ok (.aaload, 1) := by decide +kernel
theorem dX6_finishWork_16 : decode cX6_finishWork 16 = .ok (.astore_n 2, 1) := by decide +kernel
theorem dX6_finishWork_17 : decode cX6_finishWork 17 = .ok (.aload_n 2, 1) := by decide +kernel
theorem dX6_finishWork_18 : decode cX6_finishWork 18 = .ok (.getfield 151, 3) := by decide +kernel
theorem dX6_finishWork_21 : decode cX6_finishWork 21 = .ok (.iconst 3, 1) := by decide +kernel
theorem dX6_finishWork_22 : decode cX6_finishWork 22 = .ok (.if_icmp .ne 15, 3) := by decide +kernel
theorem dX6_finishWork_25 : decode cX6_finishWork 25 = .ok (.aload_n 2, 1) := by decide +kernel
theorem dX6_finishWork_26 : decode cX6_finishWork 26 = .ok (.getfield 179, 3) := by decide +kernel
theorem dX6_finishWork_29 : decode cX6_finishWork 29 = .ok (.ifCond .ne 8, 3) := by decide +kernel
theorem dX6_finishWork_32 : decode cX6_finishWork 32 = .ok (.aload_n 0, 1) := by decide +kernel
theorem dX6_finishWork_33 : decode cX6_finishWork 33 = .ok (.aload_n 2, 1) := by decide +kernel
theorem dX6_finishWork_34 : decode cX6_finishWork 34 = .ok (.invokevirtual 188, 3) := by decide +kernel
theorem dX6_finishWork_37 : decode cX6_finishWork 37 = .ok (.iinc 1 1, 3) := by decide +kernel
theorem dX6_finishWork_40 : decode cX6_finishWork 40 = .ok (.goto (-38), 3) := by decide +kernel
theorem dX6_finishWork_43 : decode cX6_finishWork 43 = .ok (.return_, 1) := by decide +kernel
set_option maxRecDepth 20000 in
theorem ggX6_finish_X1_wantSecond : GoodIn wsX6_finish wsX1_wantSecond := goodIn_r _ [9, 10, 11, 12, 13, 14, 15, 8, 16, 17, 18, 57, 58, 59, 60, 61, 62, 63, 64, 65, 66] (by decide +kernel) (by decide +kernel)
set_option maxRecDepth 20000 in
theorem gX6_finish_X1_wantSecond : GoodIn wsX6_finish (wsV RX6 197 RX1 yX1_wantSecond wsX1_wantSecond) := goodIn_app (goodIn_of _ (by decide +kernel)) ggX6_finish_X1_wantSecond
set_option maxRecDepth 20000 in
theorem ggX6_finish_X6_leave : GoodIn wsX6_finish wsX6_leave := goodIn_r _ [23, 2, 24, 4, 25, 26, 27, 28, 29, 30, 31, 32, 33, 34, 35, 36, 37, 57, 58, 59, 60, 61, 62, 63, 64, 65, 66, 67, 68, 69, 70, 71, 72, 73, 74, 75, 76, 77, 78, 79, 80] (by decide +kernel) (by decide +kernel)
set_option maxRecDepth 20000 in
theorem gX6_finish_X6_leave : GoodIn wsX6_finish (wsV RX6 160 RX6 yX6_leave wsX6_leave) := goodIn_app (goodIn_of _ (by decide +kernel)) ggX6_finish_X6_leave
set_option maxRecDepth 20000 in
theorem ggX6_finish_X6_giveBack : GoodIn wsX6_finish wsX6_giveBack := goodIn_r _ [41, 42, 43, 4, 44, 45, 46, 47, 48, 49, 50, 51, 52, 53, 54, 55, 56, 67, 68, 69, 70, 71, 72, 73, 74, 75, 76, 77, 81, 82, 83, 84, 85, 86] (by decide +kernel) (by decide +kernel)
set_option maxRecDepth 20000 in
theorem gX6_finish_X6_giveBack : GoodIn wsX6_finish (wsV RX6 168 RX6 yX6_giveBack wsX6_giveBack) := goodIn_app (goodIn_of _ (by decide +kernel)) ggX6_finish_X6_giveBack
theorem dX6_finish_0 : decode cX6_finish 0 = .ok (.aload_n 1, 1) := by decide +kernel
theorem dX6_finish_1 : decode cX6_finish 1 = .ok (.getfield 191, 3) := by decide +kernel
theorem dX6_finish_4 : decode cX6_finish 4 = .ok (.iconst 1, 1) := by decide +kernel
theorem dX6_finish_5 : decode cX6_finish 5 = .ok (.if_icmp .ne 11, 3) := by decide +kernel
theorem dX6_finish_8 : decode cX6_finish 8 = .ok (.aload_n 1, 1) := by decide +kernel
theorem dX6_finish_9 : decode cX6_finish 9 = .ok (.iconst 4, 1) := by decide +kernel
theorem dX6_finish_10 : decode cX6_finish 10 = .ok (.putfield 151, 3) := by decide +kernel
theorem dX6_finish_13 : decode cX6_finish 13 = .ok (.goto 41, 3) := by decide +kernel
theorem dX6_finish_16 : decode cX6_finish 16 = .ok (.aload_n 1, 1) := by decide +kernel
theorem dX6_finish_17 : decode cX6_finish 17 = .ok (.getfield 191, 3) := by decide +kernel
theorem dX6_finish_20 : decode cX6_finish 20 = .ok (.iconst 2, 1) := by decide +kernel
theorem dX6_finish_21 : decode cX6_finish 21 = .ok (.if_icmp .ne 21, 3) := by decide +kernel
theorem dX6_finish_24 : decode cX6_finish 24 = .ok (.aload_n 1, 1) := by decide +kernel
theorem dX6_finish_25 : decode cX6_finish 25 = .ok (.getfield 194, 3) := by decide +kernel
theorem dX6_finish_28 : decode cX6_finish 28 = .ok (.ifCond .ne 14, 3) := by decide +kernel
theorem dX6_finish_31 : decode cX6_finish 31 = .ok (.aload_n 1, 1) := by decide +kernel
theorem dX6_finish_32 : decode cX6_finish 32 = .ok (.aload_n 0, 1) := by decide +kernel
theorem dX6_finish_33 : decode cX6_finish 33 = .ok (.getfield 56, 3) := by decide +kernel
theorem dX6_finish_36 : decode cX6_finish 36 = .ok (.invokevirtual 197, 3) := by decide +kernel
theorem dX6_finish_39 : decode cX6_finish 39 = .ok (.goto 15, 3) := by decide +kernel
theorem dX6_finish_42 : decode cX6_finish 42 = .ok (.aload_n 0, 1) := by decide +kernel
theorem dX6_finish_43 : decode cX6_finish 43 = .ok (.aload_n 1, 1) := by decide +kernel
theorem dX6_finish_44 : decode cX6_finish 44 = .ok (.iconst 5, 1) := by decide +kernel
theorem dX6_finish_45 : decode cX6_finish 45 = .ok (.iconst 2, 1) := by decide +kernel
theorem dX6_finish_46 : decode cX6_finish 46 = .ok (.invokevirtual 160, 3) := by decide +kernel
theorem dX6_finish_49 : decode cX6_finish 49 = .ok (.aload_n 0, 1) := by decide +kernel
theorem dX6_finish_50 : decode cX6_finish 50 = .ok (.aload_n 1, 1) := by decide +kernel
theorem dX6_finish_51 : decode cX6_finish 51 = .ok (.invokevirtual 168, 3) := by decide +kernel
theorem dX6_finish_54 : decode cX6_finish 54 = .ok (.return_, 1) := by decide +kernel
set_option maxRecDepth 20000 in
theorem ggX6_endLeaks_X6_holdsTooLong : GoodIn wsX6_endLeaks wsX6_holdsTooLong := goodIn_r _ [7, 8, 9, 10, 11, 12, 13, 14, 15, 16, 17, 18, 19, 20, 21, 22, 23, 24, 59, 60, 61, 62, 63, 64, 65, 66, 67, 68, 69, 70, 71, 72, 73, 74, 75, 76, 77] (by decide +kernel) (by decide +kernel)
set_option maxRecDepth 20000 in
theorem gX6_endLeaks_X6_holdsTooLong : GoodIn wsX6_endLeaks (wsV RX6 200 RX6 yX6_holdsTooLong wsX6_holdsTooLong) := goodIn_app (goodIn_of _ (by decide +kernel)) ggX6_endLeaks_X6_holdsTooLong
set_option maxRecDepth 20000 in
theorem ggX6_endLeaks_X6_leave : GoodIn wsX6_endLeaks wsX6_leave := goodIn_r _ [28, 29, 30, 10, 31, 32, 33, 34, 35, 36, 37, 38, 39, 40, 41, 42, 43, 78, 79, 80, 81, 82, 83, 84, 85, 86, 87, 59, 60, 61, 62, 63, 64, 65, 66, 67, 68, 69, 88, 89, 90] (by decide +kernel) (by decide +kernel)
set_option maxRecDepth 20000 in
theorem gX6_endLeaks_X6_leave : GoodIn wsX6_endLeaks (wsV RX6 160 RX6 yX6_leave wsX6_leave) := goodIn_app (goodIn_of _ (by decide +kernel)) ggX6_endLeaks_X6_leave
set_option maxRecDepth 20000 in
theorem ggX6_endLeaks_X6_giveBack : GoodIn wsX6_endLeaks wsX6_giveBack := goodIn_r _ [47, 9, 48, 10, 49, 50, 51, 21, 52, 53, 54, 55, 56, 23, 24, 57, 58, 59, 60, 61, 62, 63, 64, 65, 66, 67, 68, 69, 70, 71, 72, 73, 74, 75] (by decide +kernel) (by decide +kernel)
set_option maxRecDepth 20000 in
theorem gX6_endLeaks_X6_giveBack : GoodIn wsX6_endLeaks (wsV RX6 168 RX6 yX6_giveBack wsX6_giveBack) := goodIn_app (goodIn_of _ (by decide +kernel)) ggX6_endLeaks_X6_giveBack
theorem dX6_endLeaks_0 : decode cX6_endLeaks 0 = .ok (.iconst 0, 1) := by decide +kernel
theorem dX6_endLeaks_1 : decode cX6_endLeaks 1 = .ok (.istore_n 1, 1) := by decide +kernel
theorem dX6_endLeaks_2 : decode cX6_endLeaks 2 = .ok (.iload_n 1, 1) := by decide +kernel
theorem dX6_endLeaks_3 : decode cX6_endLeaks 3 = .ok (.aload_n 0, 1) := by decide +kernel
theorem dX6_endLeaks_4 : decode cX6_endLeaks 4 = .ok (.getfield 52, 3) := by decide +kernel
theorem dX6_endLeaks_7 : decode cX6_endLeaks 7 = .ok (.if_icmp .ge 37, 3) := by decide +kernel
theorem dX6_endLeaks_10 : decode cX6_endLeaks 10 = .ok (.aload_n 0, 1) := by decide +kernel
theorem dX6_endLeaks_11 : decode cX6_endLeaks 11 = .ok (.getfield 26, 3) := by decide +kernel
theorem dX6_endLeaks_14 : decode cX6_endLeaks 14 = .ok (.iload_n 1, 1) := by decide +kernel
theorem dX6_endLeaks_15 : decode cX6_endLeaks 15 = .ok (.aaload, 1) := by decide +kernel
theorem dX6_endLeaks_16 : decode cX6_endLeaks 16 = .ok (.astore_n 2, 1) := by decide +kernel
theorem dX6_endLeaks_17 : decode cX6_endLeaks 17 = .ok (.aload_n 0, 1) := by decide +kernel
theorem dX6_endLeaks_18 : decode cX6_endLeaks 18 = .ok (.aload_n 2, 1) := by decide +kernel
theorem dX6_endLeaks_19 : decode cX6_endLeaks 19 = .ok (.invokevirtual 200, 3) := by decide +kernel
theorem dX6_endLeaks_22 : decode cX6_endLeaks 22 = .ok (.ifCond .eq 16, 3) := by decide +kernel
theorem dX6_endLeaks_25 : decode cX6_endLeaks 25 = .ok (.aload_n 0, 1) := by decide +kernel
theorem dX6_endLeaks_26 : decode cX6_endLeaks 26 = .ok (.aload_n 2, 1) := by decide +kernel
theorem dX6_endLeaks_27 : decode cX6_endLeaks 27 = .ok (.bipush 7, 2) := by decide +kernel
theorem dX6_endLeaks_29 : decode cX6_endLeaks 29 = .ok (.iconst 4, 1) := by decide +kernel
theorem dX6_endLeaks_30 : decode cX6_endLeaks 30 = .ok (.invokevirtual 160, 3) := by decide +kernel
theorem dX6_endLeaks_33 : decode cX6_endLeaks 33 = .ok (.aload_n 0, 1) := by decide +kernel
theorem dX6_endLeaks_34 : decode cX6_endLeaks 34 = .ok (.aload_n 2, 1) := by decide +kernel
theorem dX6_endLeaks_35 : decode cX6_endLeaks 35 = .ok (.invokevirtual 168, 3) := by decide +kernel
theorem dX6_endLeaks_38 : decode cX6_endLeaks 38 = .ok (.iinc 1 1, 3) := by decide +kernel
theorem dX6_endLeaks_41 : decode cX6_endLeaks 41 = .ok (.goto (-39), 3) := by decide +kernel
theorem dX6_endLeaks_44 : decode cX6_endLeaks 44 = .ok (.return_, 1) := by decide +kernel
set_option maxRecDepth 20000 in
theorem ggX6_holdsTooLong_X7_number : GoodIn wsX6_holdsTooLong wsX7_number := goodIn_r _ [9, 10, 35, 36] (by decide +kernel) (by decide +kernel)
set_option maxRecDepth 20000 in
theorem gX6_holdsTooLong_X7_number : GoodIn wsX6_holdsTooLong (wsV RX6 203 RX7 yX7_number wsX7_number) := goodIn_app (goodIn_of _ (by decide +kernel)) ggX6_holdsTooLong_X7_number
set_option maxRecDepth 20000 in
theorem ggX6_holdsTooLong_X3_isLentTo : GoodIn wsX6_holdsTooLong wsX3_isLentTo := goodIn_r _ [15, 16, 17, 29, 30, 31, 32, 33, 34] (by decide +kernel) (by decide +kernel)
set_option maxRecDepth 20000 in
theorem gX6_holdsTooLong_X3_isLentTo : GoodIn wsX6_holdsTooLong (wsV RX6 206 RX3 yX3_isLentTo wsX3_isLentTo) := goodIn_app (goodIn_of _ (by decide +kernel)) ggX6_holdsTooLong_X3_isLentTo
theorem dX6_holdsTooLong_0 : decode cX6_holdsTooLong 0 = .ok (.aload_n 0, 1) := by decide +kernel
theorem dX6_holdsTooLong_1 : decode cX6_holdsTooLong 1 = .ok (.getfield 9, 3) := by decide +kernel
theorem dX6_holdsTooLong_4 : decode cX6_holdsTooLong 4 = .ok (.iconst 3, 1) := by decide +kernel
theorem dX6_holdsTooLong_5 : decode cX6_holdsTooLong 5 = .ok (.invokevirtual 203, 3) := by decide +kernel
theorem dX6_holdsTooLong_8 : decode cX6_holdsTooLong 8 = .ok (.istore_n 2, 1) := by decide +kernel
theorem dX6_holdsTooLong_9 : decode cX6_holdsTooLong 9 = .ok (.iconst 0, 1) := by decide +kernel
theorem dX6_holdsTooLong_10 : decode cX6_holdsTooLong 10 = .ok (.istore_n 3, 1) := by decide +kernel
theorem dX6_holdsTooLong_11 : decode cX6_holdsTooLong 11 = .ok (.iload_n 3, 1) := by decide +kernel
theorem dX6_holdsTooLong_12 : decode cX6_holdsTooLong 12 = .ok (.bipush 12, 2) := by decide +kernel
theorem dX6_holdsTooLong_14 : decode cX6_holdsTooLong 14 = .ok (.if_icmp .ge 42, 3) := by decide +kernel
theorem dX6_holdsTooLong_17 : decode cX6_holdsTooLong 17 = .ok (.aload_n 0, 1) := by decide +kernel
theorem dX6_holdsTooLong_18 : decode cX6_holdsTooLong 18 = .ok (.getfield 17, 3) := by decide +kernel
theorem dX6_holdsTooLong_21 : decode cX6_holdsTooLong 21 = .ok (.iload_n 3, 1) := by decide +kernel
theorem dX6_holdsTooLong_22 : decode cX6_holdsTooLong 22 = .ok (.aaload, 1) := by decide +kernel
theorem dX6_holdsTooLong_23 : decode cX6_holdsTooLong 23 = .ok (.aload_n 1, 1) := by decide +kernel
theorem dX6_holdsTooLong_24 : decode cX6_holdsTooLong 24 = .ok (.invokevirtual 206, 3) := by decide +kernel
theorem dX6_holdsTooLong_27 : decode cX6_holdsTooLong 27 = .ok (.ifCond .eq 23, 3) := by decide +kernel
theorem dX6_holdsTooLong_30 : decode cX6_holdsTooLong 30 = .ok (.aload_n 0, 1) := by decide +kernel
theorem dX6_holdsTooLong_31 : decode cX6_holdsTooLong 31 = .ok (.getfield 56, 3) := by decide +kernel
theorem dX6_holdsTooLong_34 : decode cX6_holdsTooLong 34 = .ok (.aload_n 0, 1) := by decide +kernel
theorem dX6_holdsTooLong_35 : decode cX6_holdsTooLong 35 = .ok (.getfield 17, 3) := by decide +kernel
theorem dX6_holdsTooLong_38 : decode cX6_holdsTooLong 38 = .ok (.iload_n 3, 1) := by decide +kernel
theorem dX6_holdsTooLong_39 : decode cX6_holdsTooLong 39 = .ok (.aaload, 1) := by decide +kernel
theorem dX6_holdsTooLong_40 : decode cX6_holdsTooLong 40 = .ok (.getfield 209, 3) := by decide +kernel
theorem dX6_holdsTooLong_43 : decode cX6_holdsTooLong 43 = .ok (.isub, 1) := by decide +kernel
theorem dX6_holdsTooLong_44 : decode cX6_holdsTooLong 44 = .ok (.iload_n 2, 1) := by decide +kernel
theorem dX6_holdsTooLong_45 : decode cX6_holdsTooLong 45 = .ok (.if_icmp .lt 5, 3) := by decide +kernel
theorem dX6_holdsTooLong_48 : decode cX6_holdsTooLong 48 = .ok (.iconst 1, 1) := by decide +kernel
theorem dX6_holdsTooLong_49 : decode cX6_holdsTooLong 49 = .ok (.ireturn, 1) := by decide +kernel
theorem dX6_holdsTooLong_50 : decode cX6_holdsTooLong 50 = .ok (.iinc 3 1, 3) := by decide +kernel
theorem dX6_holdsTooLong_53 : decode cX6_holdsTooLong 53 = .ok (.goto (-42), 3) := by decide +kernel
theorem dX6_holdsTooLong_56 : decode cX6_holdsTooLong 56 = .ok (.iconst 0, 1) := by decide +kernel
theorem dX6_holdsTooLong_57 : decode cX6_holdsTooLong 57 = .ok (.ireturn, 1) := by decide +kernel
set_option maxRecDepth 20000 in
theorem ggX6_letCome_X1_waitFrom : GoodIn wsX6_letCome wsX1_waitFrom := goodIn_r _ [12, 13, 14, 38, 39, 40, 41, 42, 43, 44, 45, 46, 47] (by decide +kernel) (by decide +kernel)
set_option maxRecDepth 20000 in
theorem gX6_letCome_X1_waitFrom : GoodIn wsX6_letCome (wsV RX6 215 RX1 yX1_waitFrom wsX1_waitFrom) := goodIn_app (goodIn_of _ (by decide +kernel)) ggX6_letCome_X1_waitFrom
set_option maxRecDepth 20000 in
theorem ggX6_letCome_X4_add : GoodIn wsX6_letCome wsX4_add := goodIn_r _ [19, 20, 21, 22, 23, 24, 25, 26, 48, 49, 50] (by decide +kernel) (by decide +kernel)
set_option maxRecDepth 20000 in
theorem gX6_letCome_X4_add : GoodIn wsX6_letCome (wsV RX6 220 RX4 yX4_add wsX4_add) := goodIn_app (goodIn_of _ (by decide +kernel)) ggX6_letCome_X4_add
theorem dX6_letCome_0 : decode cX6_letCome 0 = .ok (.iconst 0, 1) := by decide +kernel
theorem dX6_letCome_1 : decode cX6_letCome 1 = .ok (.istore_n 1, 1) := by decide +kernel
theorem dX6_letCome_2 : decode cX6_letCome 2 = .ok (.iload_n 1, 1) := by decide +kernel
theorem dX6_letCome_3 : decode cX6_letCome 3 = .ok (.aload_n 0, 1) := by decide +kernel
theorem dX6_letCome_4 : decode cX6_letCome 4 = .ok (.getfield 52, 3) := by decide +kernel
theorem dX6_letCome_7 : decode cX6_letCome 7 = .ok (.if_icmp .ge 59, 3) := by decide +kernel
theorem dX6_letCome_10 : decode cX6_letCome 10 = .ok (.aload_n 0, 1) := by decide +kernel
theorem dX6_letCome_11 : decode cX6_letCome 11 = .ok (.getfield 26, 3) := by decide +kernel
theorem dX6_letCome_14 : decode cX6_letCome 14 = .ok (.iload_n 1, 1) := by decide +kernel
theorem dX6_letCome_15 : decode cX6_letCome 15 = .ok (.aaload, 1) := by decide +kernel
theorem dX6_letCome_16 : decode cX6_letCome 16 = .ok (.astore_n 2, 1) := by decide +kernel
theorem dX6_letCome_17 : decode cX6_letCome 17 = .ok (.aload_n 2, 1) := by decide +kernel
theorem dX6_letCome_18 : decode cX6_letCome 18 = .ok (.getfield 151, 3) := by decide +kernel
theorem dX6_letCome_21 : decode cX6_letCome 21 = .ok (.ifCond .ne 39, 3) := by decide +kernel
theorem dX6_letCome_24 : decode cX6_letCome 24 = .ok (.aload_n 2, 1) := by decide +kernel
theorem dX6_letCome_25 : decode cX6_letCome 25 = .ok (.getfield 212, 3) := by decide +kernel
theorem dX6_letCome_28 : decode cX6_letCome 28 = .ok (.aload_n 0, 1) := by decide +kernel
theorem dX6_letCome_29 : decode cX6_letCome 29 = .ok (.getfield 56, 3) := by decide +kernel
theorem dX6_letCome_32 : decode cX6_letCome 32 = .ok (.if_icmp .ne 28, 3) := by decide +kernel
theorem dX6_letCome_35 : decode cX6_letCome 35 = .ok (.aload_n 2, 1) := by decide +kernel
theorem dX6_letCome_36 : decode cX6_letCome 36 = .ok (.aload_n 0, 1) := by decide +kernel
theorem dX6_letCome_37 : decode cX6_letCome 37 = .ok (.getfield 56, 3) := by decide +kernel
theorem dX6_letCome_40 : decode cX6_letCome 40 = .ok (.invokevirtual 215, 3) := by decide +kernel
theorem dX6_letCome_43 : decode cX6_letCome 43 = .ok (.aload_n 0, 1) := by decide +kernel
theorem dX6_letCome_44 : decode cX6_letCome 44 = .ok (.getfield 41, 3) := by decide +kernel
theorem dX6_letCome_47 : decode cX6_letCome 47 = .ok (.iconst 0, 1) := by decide +kernel
theorem dX6_letCome_48 : decode cX6_letCome 48 = .ok (.aload_n 0, 1) := by decide +kernel
theorem dX6_letCome_49 : decode cX6_letCome 49 = .ok (.getfield 56, 3) := by decide +kernel
theorem dX6_letCome_52 : decode cX6_letCome 52 = .ok (.aload_n 2, 1) := by decide +kernel
theorem dX6_letCome_53 : decode cX6_letCome 53 = .ok (.getfield 218, 3) := by decide +kernel
theorem dX6_letCome_56 : decode cX6_letCome 56 = .ok (.iconst (-1), 1) := by decide +kernel
theorem dX6_letCome_57 : decode cX6_letCome 57 = .ok (.invokevirtual 220, 3) := by decide +kernel
theorem dX6_letCome_60 : decode cX6_letCome 60 = .ok (.iinc 1 1, 3) := by decide +kernel
theorem dX6_letCome_63 : decode cX6_letCome 63 = .ok (.goto (-61), 3) := by decide +kernel
theorem dX6_letCome_66 : decode cX6_letCome 66 = .ok (.return_, 1) := by decide +kernel
set_option maxRecDepth 20000 in
theorem ggX6_giveUp_X6_leave : GoodIn wsX6_giveUp wsX6_leave := goodIn_r _ [11, 3, 12, 4, 13, 14, 15, 16, 17, 18, 19, 20, 21, 22, 23, 24, 25, 56, 57, 58, 59, 60, 61, 62, 63, 64, 65, 45, 46, 47, 48, 49, 50, 51, 52, 53, 54, 55, 66, 67, 68] (by decide +kernel) (by decide +kernel)
set_option maxRecDepth 20000 in
theorem gX6_giveUp_X6_leave : GoodIn wsX6_giveUp (wsV RX6 160 RX6 yX6_leave wsX6_leave) := goodIn_app (goodIn_of _ (by decide +kernel)) ggX6_giveUp_X6_leave
set_option maxRecDepth 20000 in
theorem ggX6_giveUp_X6_giveBack : GoodIn wsX6_giveUp wsX6_giveBack := goodIn_r _ [29, 30, 31, 4, 32, 33, 34, 35, 36, 37, 38, 39, 40, 41, 42, 43, 44, 45, 46, 47, 48, 49, 50, 51, 52, 53, 54, 55, 69, 70, 71, 72, 73, 74] (by decide +kernel) (by decide +kernel)
set_option maxRecDepth 20000 in
theorem gX6_giveUp_X6_giveBack : GoodIn wsX6_giveUp (wsV RX6 168 RX6 yX6_giveBack wsX6_giveBack) := goodIn_app (goodIn_of _ (by decide +kernel)) ggX6_giveUp_X6_giveBack
theorem dX6_giveUp_0 : decode cX6_giveUp 0 = .ok (.iconst 0, 1) := by decide +kernel
