theorem dX6_giveUp_1 : decode cX6_giveUp 1 = .ok (.istore_n 1, 1) := by decide +kernel
theorem dX6_giveUp_2 : decode cX6_giveUp 2 = .ok (.iload_n 1, 1) := by decide +kernel
theorem dX6_giveUp_3 : decode cX6_giveUp 3 = .ok (.aload_n 0, 1) := by decide +kernel
theorem dX6_giveUp_4 : decode cX6_giveUp 4 = .ok (.getfield 52, 3) := by decide +kernel
theorem dX6_giveUp_7 : decode cX6_giveUp 7 = .ok (.if_icmp .ge 53, 3) := by decide +kernel
theorem dX6_giveUp_10 : decode cX6_giveUp 10 = .ok (.aload_n 0, 1) := by decide +kernel
theorem dX6_giveUp_11 : decode cX6_giveUp 11 = .ok (.getfield 26, 3) := by decide +kernel
theorem dX6_giveUp_14 : decode cX6_giveUp 14 = .ok (.iload_n 1, 1) := by decide +kernel
theorem dX6_giveUp_15 : decode cX6_giveUp 15 = .ok (.aaload, 1) := by decide +kernel
theorem dX6_giveUp_16 : decode cX6_giveUp 16 = .ok (.astore_n 2, 1) := by decide +kernel
theorem dX6_giveUp_17 : decode cX6_giveUp 17 = .ok (.aload_n 2, 1) := by decide +kernel
theorem dX6_giveUp_18 : decode cX6_giveUp 18 = .ok (.getfield 151, 3) := by decide +kernel
theorem dX6_giveUp_21 : decode cX6_giveUp 21 = .ok (.iconst 1, 1) := by decide +kernel
theorem dX6_giveUp_22 : decode cX6_giveUp 22 = .ok (.if_icmp .ne 32, 3) := by decide +kernel
theorem dX6_giveUp_25 : decode cX6_giveUp 25 = .ok (.aload_n 0, 1) := by decide +kernel
theorem dX6_giveUp_26 : decode cX6_giveUp 26 = .ok (.getfield 56, 3) := by decide +kernel
theorem dX6_giveUp_29 : decode cX6_giveUp 29 = .ok (.aload_n 2, 1) := by decide +kernel
theorem dX6_giveUp_30 : decode cX6_giveUp 30 = .ok (.getfield 223, 3) := by decide +kernel
theorem dX6_giveUp_33 : decode cX6_giveUp 33 = .ok (.isub, 1) := by decide +kernel
theorem dX6_giveUp_34 : decode cX6_giveUp 34 = .ok (.aload_n 2, 1) := by decide +kernel
theorem dX6_giveUp_35 : decode cX6_giveUp 35 = .ok (.getfield 224, 3) := by decide +kernel
theorem dX6_giveUp_38 : decode cX6_giveUp 38 = .ok (.if_icmp .le 16, 3) := by decide +kernel
theorem dX6_giveUp_41 : decode cX6_giveUp 41 = .ok (.aload_n 0, 1) := by decide +kernel
theorem dX6_giveUp_42 : decode cX6_giveUp 42 = .ok (.aload_n 2, 1) := by decide +kernel
theorem dX6_giveUp_43 : decode cX6_giveUp 43 = .ok (.bipush 8, 2) := by decide +kernel
theorem dX6_giveUp_45 : decode cX6_giveUp 45 = .ok (.iconst 5, 1) := by decide +kernel
theorem dX6_giveUp_46 : decode cX6_giveUp 46 = .ok (.invokevirtual 160, 3) := by decide +kernel
theorem dX6_giveUp_49 : decode cX6_giveUp 49 = .ok (.aload_n 0, 1) := by decide +kernel
theorem dX6_giveUp_50 : decode cX6_giveUp 50 = .ok (.aload_n 2, 1) := by decide +kernel
theorem dX6_giveUp_51 : decode cX6_giveUp 51 = .ok (.invokevirtual 168, 3) := by decide +kernel
theorem dX6_giveUp_54 : decode cX6_giveUp 54 = .ok (.iinc 1 1, 3) := by decide +kernel
theorem dX6_giveUp_57 : decode cX6_giveUp 57 = .ok (.goto (-55), 3) := by decide +kernel
theorem dX6_giveUp_60 : decode cX6_giveUp 60 = .ok (.return_, 1) := by decide +kernel
set_option maxRecDepth 20000 in
theorem ggX6_handOut_X6_firstWaiting : GoodIn wsX6_handOut wsX6_firstWaiting := goodIn_r _ [5, 6, 7, 8, 9, 89, 90, 91, 92, 93, 94, 95, 96, 97, 98, 99, 100, 101, 102, 103, 104, 105, 106, 107, 108, 109] (by decide +kernel) (by decide +kernel)
set_option maxRecDepth 20000 in
theorem gX6_handOut_X6_firstWaiting : GoodIn wsX6_handOut (wsV RX6 227 RX6 yX6_firstWaiting wsX6_firstWaiting) := goodIn_app (goodIn_of _ (by decide +kernel)) ggX6_handOut_X6_firstWaiting
set_option maxRecDepth 20000 in
theorem ggX6_handOut_X6_freshestIdle : GoodIn wsX6_handOut wsX6_freshestIdle := goodIn_r _ [13, 14, 15, 16, 89, 90, 91, 92, 93, 94, 95, 96, 97, 98, 99, 110, 111, 112, 113, 114, 115] (by decide +kernel) (by decide +kernel)
set_option maxRecDepth 20000 in
theorem gX6_handOut_X6_freshestIdle : GoodIn wsX6_handOut (wsV RX6 231 RX6 yX6_freshestIdle wsX6_freshestIdle) := goodIn_app (goodIn_of _ (by decide +kernel)) ggX6_handOut_X6_freshestIdle
set_option maxRecDepth 20000 in
theorem ggX6_handOut_X6_handTo : GoodIn wsX6_handOut wsX6_handTo := goodIn_r _ [20, 21, 22, 8, 23, 24, 25, 26, 27, 28, 29, 30, 31, 32, 33, 34, 35, 36, 37, 38, 39, 40, 41, 42, 43, 44, 45, 46, 47, 48, 49, 50, 51, 52, 53, 54, 55, 56, 57, 58, 59, 60, 61, 4, 62, 63, 64, 65, 66, 67, 68, 69, 70, 71, 72, 73, 74, 75, 76, 77, 78, 79, 80, 81, 82, 83, 84, 85, 86, 87, 88, 89, 90, 91, 92, 93, 94, 95, 96, 97, 98, 99, 100, 101, 102, 103, 104, 105, 106, 107, 108, 109, 110, 111, 112, 113, 114, 115, 116, 117, 118, 119, 120] (by decide +kernel) (by decide +kernel)
set_option maxRecDepth 20000 in
theorem gX6_handOut_X6_handTo : GoodIn wsX6_handOut (wsV RX6 235 RX6 yX6_handTo wsX6_handTo) := goodIn_app (goodIn_of _ (by decide +kernel)) ggX6_handOut_X6_handTo
theorem dX6_handOut_0 : decode cX6_handOut 0 = .ok (.iconst 0, 1) := by decide +kernel
theorem dX6_handOut_1 : decode cX6_handOut 1 = .ok (.istore_n 1, 1) := by decide +kernel
theorem dX6_handOut_2 : decode cX6_handOut 2 = .ok (.iload_n 1, 1) := by decide +kernel
theorem dX6_handOut_3 : decode cX6_handOut 3 = .ok (.bipush 12, 2) := by decide +kernel
theorem dX6_handOut_5 : decode cX6_handOut 5 = .ok (.if_icmp .ge 34, 3) := by decide +kernel
theorem dX6_handOut_8 : decode cX6_handOut 8 = .ok (.aload_n 0, 1) := by decide +kernel
theorem dX6_handOut_9 : decode cX6_handOut 9 = .ok (.invokevirtual 227, 3) := by decide +kernel
theorem dX6_handOut_12 : decode cX6_handOut 12 = .ok (.astore_n 2, 1) := by decide +kernel
theorem dX6_handOut_13 : decode cX6_handOut 13 = .ok (.aload_n 0, 1) := by decide +kernel
theorem dX6_handOut_14 : decode cX6_handOut 14 = .ok (.invokevirtual 231, 3) := by decide +kernel
theorem dX6_handOut_17 : decode cX6_handOut 17 = .ok (.astore_n 3, 1) := by decide +kernel
theorem dX6_handOut_18 : decode cX6_handOut 18 = .ok (.aload_n 2, 1) := by decide +kernel
theorem dX6_handOut_19 : decode cX6_handOut 19 = .ok (.ifnull 7, 3) := by decide +kernel
theorem dX6_handOut_22 : decode cX6_handOut 22 = .ok (.aload_n 3, 1) := by decide +kernel
theorem dX6_handOut_23 : decode cX6_handOut 23 = .ok (.ifnonnull 4, 3) := by decide +kernel
theorem dX6_handOut_26 : decode cX6_handOut 26 = .ok (.return_, 1) := by decide +kernel
theorem dX6_handOut_27 : decode cX6_handOut 27 = .ok (.aload_n 0, 1) := by decide +kernel
theorem dX6_handOut_28 : decode cX6_handOut 28 = .ok (.aload_n 2, 1) := by decide +kernel
theorem dX6_handOut_29 : decode cX6_handOut 29 = .ok (.aload_n 3, 1) := by decide +kernel
theorem dX6_handOut_30 : decode cX6_handOut 30 = .ok (.invokevirtual 235, 3) := by decide +kernel
theorem dX6_handOut_33 : decode cX6_handOut 33 = .ok (.iinc 1 1, 3) := by decide +kernel
theorem dX6_handOut_36 : decode cX6_handOut 36 = .ok (.goto (-34), 3) := by decide +kernel
theorem dX6_handOut_39 : decode cX6_handOut 39 = .ok (.return_, 1) := by decide +kernel
theorem dX6_firstWaiting_0 : decode cX6_firstWaiting 0 = .ok (.aconst_null, 1) := by decide +kernel
theorem dX6_firstWaiting_1 : decode cX6_firstWaiting 1 = .ok (.astore_n 1, 1) := by decide +kernel
theorem dX6_firstWaiting_2 : decode cX6_firstWaiting 2 = .ok (.iconst 0, 1) := by decide +kernel
theorem dX6_firstWaiting_3 : decode cX6_firstWaiting 3 = .ok (.istore_n 2, 1) := by decide +kernel
theorem dX6_firstWaiting_4 : decode cX6_firstWaiting 4 = .ok (.iload_n 2, 1) := by decide +kernel
theorem dX6_firstWaiting_5 : decode cX6_firstWaiting 5 = .ok (.aload_n 0, 1) := by decide +kernel
theorem dX6_firstWaiting_6 : decode cX6_firstWaiting 6 = .ok (.getfield 52, 3) := by decide +kernel
theorem dX6_firstWaiting_9 : decode cX6_firstWaiting 9 = .ok (.if_icmp .ge 41, 3) := by decide +kernel
theorem dX6_firstWaiting_12 : decode cX6_firstWaiting 12 = .ok (.aload_n 0, 1) := by decide +kernel
theorem dX6_firstWaiting_13 : decode cX6_firstWaiting 13 = .ok (.getfield 26, 3) := by decide +kernel
theorem dX6_firstWaiting_16 : decode cX6_firstWaiting 16 = .ok (.iload_n 2, 1) := by decide +kernel
theorem dX6_firstWaiting_17 : decode cX6_firstWaiting 17 = .ok (.aaload, 1) := by decide +kernel
theorem dX6_firstWaiting_18 : decode cX6_firstWaiting 18 = .ok (.astore_n 3, 1) := by decide +kernel
theorem dX6_firstWaiting_19 : decode cX6_firstWaiting 19 = .ok (.aload_n 3, 1) := by decide +kernel
theorem dX6_firstWaiting_20 : decode cX6_firstWaiting 20 = .ok (.getfield 151, 3) := by decide +kernel
theorem dX6_firstWaiting_23 : decode cX6_firstWaiting 23 = .ok (.iconst 1, 1) := by decide +kernel
theorem dX6_firstWaiting_24 : decode cX6_firstWaiting 24 = .ok (.if_icmp .ne 20, 3) := by decide +kernel
theorem dX6_firstWaiting_27 : decode cX6_firstWaiting 27 = .ok (.aload_n 1, 1) := by decide +kernel
theorem dX6_firstWaiting_28 : decode cX6_firstWaiting 28 = .ok (.ifnull 14, 3) := by decide +kernel
theorem dX6_firstWaiting_31 : decode cX6_firstWaiting 31 = .ok (.aload_n 3, 1) := by decide +kernel
theorem dX6_firstWaiting_32 : decode cX6_firstWaiting 32 = .ok (.getfield 239, 3) := by decide +kernel
theorem dX6_firstWaiting_35 : decode cX6_firstWaiting 35 = .ok (.aload_n 1, 1) := by decide +kernel
theorem dX6_firstWaiting_36 : decode cX6_firstWaiting 36 = .ok (.getfield 239, 3) := by decide +kernel
theorem dX6_firstWaiting_39 : decode cX6_firstWaiting 39 = .ok (.if_icmp .ge 5, 3) := by decide +kernel
theorem dX6_firstWaiting_42 : decode cX6_firstWaiting 42 = .ok (.aload_n 3, 1) := by decide +kernel
theorem dX6_firstWaiting_43 : decode cX6_firstWaiting 43 = .ok (.astore_n 1, 1) := by decide +kernel
theorem dX6_firstWaiting_44 : decode cX6_firstWaiting 44 = .ok (.iinc 2 1, 3) := by decide +kernel
theorem dX6_firstWaiting_47 : decode cX6_firstWaiting 47 = .ok (.goto (-43), 3) := by decide +kernel
theorem dX6_firstWaiting_50 : decode cX6_firstWaiting 50 = .ok (.aload_n 1, 1) := by decide +kernel
theorem dX6_firstWaiting_51 : decode cX6_firstWaiting 51 = .ok (.areturn, 1) := by decide +kernel
theorem dX6_freshestIdle_0 : decode cX6_freshestIdle 0 = .ok (.aconst_null, 1) := by decide +kernel
theorem dX6_freshestIdle_1 : decode cX6_freshestIdle 1 = .ok (.astore_n 1, 1) := by decide +kernel
theorem dX6_freshestIdle_2 : decode cX6_freshestIdle 2 = .ok (.iconst 0, 1) := by decide +kernel
theorem dX6_freshestIdle_3 : decode cX6_freshestIdle 3 = .ok (.istore_n 2, 1) := by decide +kernel
theorem dX6_freshestIdle_4 : decode cX6_freshestIdle 4 = .ok (.iload_n 2, 1) := by decide +kernel
theorem dX6_freshestIdle_5 : decode cX6_freshestIdle 5 = .ok (.bipush 12, 2) := by decide +kernel
theorem dX6_freshestIdle_7 : decode cX6_freshestIdle 7 = .ok (.if_icmp .ge 41, 3) := by decide +kernel
theorem dX6_freshestIdle_10 : decode cX6_freshestIdle 10 = .ok (.aload_n 0, 1) := by decide +kernel
theorem dX6_freshestIdle_11 : decode cX6_freshestIdle 11 = .ok (.getfield 17, 3) := by decide +kernel
theorem dX6_freshestIdle_14 : decode cX6_freshestIdle 14 = .ok (.iload_n 2, 1) := by decide +kernel
theorem dX6_freshestIdle_15 : decode cX6_freshestIdle 15 = .ok (.aaload, 1) := by decide +kernel
theorem dX6_freshestIdle_16 : decode cX6_freshestIdle 16 = .ok (.astore_n 3, 1) := by decide +kernel
theorem dX6_freshestIdle_17 : decode cX6_freshestIdle 17 = .ok (.aload_n 3, 1) := by decide +kernel
theorem dX6_freshestIdle_18 : decode cX6_freshestIdle 18 = .ok (.getfield 124, 3) := by decide +kernel
theorem dX6_freshestIdle_21 : decode cX6_freshestIdle 21 = .ok (.iconst 2, 1) := by decide +kernel
theorem dX6_freshestIdle_22 : decode cX6_freshestIdle 22 = .ok (.if_icmp .ne 20, 3) := by decide +kernel
theorem dX6_freshestIdle_25 : decode cX6_freshestIdle 25 = .ok (.aload_n 1, 1) := by decide +kernel
theorem dX6_freshestIdle_26 : decode cX6_freshestIdle 26 = .ok (.ifnull 14, 3) := by decide +kernel
theorem dX6_freshestIdle_29 : decode cX6_freshestIdle 29 = .ok (.aload_n 3, 1) := by decide +kernel
theorem dX6_freshestIdle_30 : decode cX6_freshestIdle 30 = .ok (.getfield 209, 3) := by decide +kernel
theorem dX6_freshestIdle_33 : decode cX6_freshestIdle 33 = .ok (.aload_n 1, 1) := by decide +kernel
theorem dX6_freshestIdle_34 : decode cX6_freshestIdle 34 = .ok (.getfield 209, 3) := by decide +kernel
theorem dX6_freshestIdle_37 : decode cX6_freshestIdle 37 = .ok (.if_icmp .le 5, 3) := by decide +kernel
theorem dX6_freshestIdle_40 : decode cX6_freshestIdle 40 = .ok (.aload_n 3, 1) := by decide +kernel
theorem dX6_freshestIdle_41 : decode cX6_freshestIdle 41 = .ok (.astore_n 1, 1) := by decide +kernel
theorem dX6_freshestIdle_42 : decode cX6_freshestIdle 42 = .ok (.iinc 2 1, 3) := by decide +kernel
theorem dX6_freshestIdle_45 : decode cX6_freshestIdle 45 = .ok (.goto (-41), 3) := by decide +kernel
theorem dX6_freshestIdle_48 : decode cX6_freshestIdle 48 = .ok (.aload_n 1, 1) := by decide +kernel
theorem dX6_freshestIdle_49 : decode cX6_freshestIdle 49 = .ok (.areturn, 1) := by decide +kernel
set_option maxRecDepth 20000 in
theorem ggX6_handTo_X7_number : GoodIn wsX6_handTo wsX7_number := goodIn_r _ [13, 14, 98, 99] (by decide +kernel) (by decide +kernel)
set_option maxRecDepth 20000 in
theorem gX6_handTo_X7_number : GoodIn wsX6_handTo (wsV RX6 203 RX7 yX7_number wsX7_number) := goodIn_app (goodIn_of _ (by decide +kernel)) ggX6_handTo_X7_number
set_option maxRecDepth 20000 in
theorem ggX6_handTo_X3_tryFor : GoodIn wsX6_handTo wsX3_tryFor := goodIn_r _ [19, 20, 21, 22, 18, 23, 24, 25, 26, 27, 92, 93, 94, 95, 96, 97] (by decide +kernel) (by decide +kernel)
set_option maxRecDepth 20000 in
theorem gX6_handTo_X3_tryFor : GoodIn wsX6_handTo (wsV RX6 242 RX3 yX3_tryFor wsX3_tryFor) := goodIn_app (goodIn_of _ (by decide +kernel)) ggX6_handTo_X3_tryFor
set_option maxRecDepth 20000 in
theorem ggX6_handTo_X4_add : GoodIn wsX6_handTo wsX4_add := goodIn_r _ [32, 33, 34, 35, 36, 37, 38, 39, 100, 101, 102] (by decide +kernel) (by decide +kernel)
set_option maxRecDepth 20000 in
theorem gX6_handTo_X4_add : GoodIn wsX6_handTo (wsV RX6 220 RX4 yX4_add wsX4_add) := goodIn_app (goodIn_of _ (by decide +kernel)) ggX6_handTo_X4_add
set_option maxRecDepth 20000 in
theorem ggX6_handTo_X6_drop : GoodIn wsX6_handTo wsX6_drop := goodIn_r _ [44, 4, 5, 7, 45, 46, 47, 18, 48, 49, 20, 21, 22, 23, 24, 25, 26, 27, 28, 29, 30, 31, 32, 33, 34, 35, 36, 37, 38, 39, 71, 72, 73, 74, 75, 76, 77, 78, 79, 80, 81, 92, 93, 94, 95, 96, 97, 100, 101, 102] (by decide +kernel) (by decide +kernel)
set_option maxRecDepth 20000 in
theorem gX6_handTo_X6_drop : GoodIn wsX6_handTo (wsV RX6 148 RX6 yX6_drop wsX6_drop) := goodIn_app (goodIn_of _ (by decide +kernel)) ggX6_handTo_X6_drop
set_option maxRecDepth 20000 in
theorem ggX6_handTo_X6_lend : GoodIn wsX6_handTo wsX6_lend := goodIn_r _ [53, 5, 3, 54, 55, 4, 6, 7, 56, 57, 58, 18, 59, 20, 21, 22, 23, 24, 25, 26, 27, 60, 61, 62, 43, 63, 64, 65, 66, 67, 68, 69, 70, 28, 29, 30, 31, 32, 33, 34, 35, 36, 37, 38, 39, 71, 72, 73, 74, 75, 76, 77, 78, 79, 80, 81, 82, 83, 84, 85, 86, 87, 88, 89, 90, 91, 92, 93, 94, 95, 96, 97, 100, 101, 102] (by decide +kernel) (by decide +kernel)
set_option maxRecDepth 20000 in
theorem gX6_handTo_X6_lend : GoodIn wsX6_handTo (wsV RX6 152 RX6 yX6_lend wsX6_lend) := goodIn_app (goodIn_of _ (by decide +kernel)) ggX6_handTo_X6_lend
theorem dX6_handTo_0 : decode cX6_handTo 0 = .ok (.aload_n 0, 1) := by decide +kernel
theorem dX6_handTo_1 : decode cX6_handTo 1 = .ok (.getfield 9, 3) := by decide +kernel
theorem dX6_handTo_4 : decode cX6_handTo 4 = .ok (.iconst 2, 1) := by decide +kernel
theorem dX6_handTo_5 : decode cX6_handTo 5 = .ok (.invokevirtual 203, 3) := by decide +kernel
theorem dX6_handTo_8 : decode cX6_handTo 8 = .ok (.istore_n 3, 1) := by decide +kernel
theorem dX6_handTo_9 : decode cX6_handTo 9 = .ok (.iload_n 3, 1) := by decide +kernel
theorem dX6_handTo_10 : decode cX6_handTo 10 = .ok (.ifCond .lt 13, 3) := by decide +kernel
theorem dX6_handTo_13 : decode cX6_handTo 13 = .ok (.aload_n 0, 1) := by decide +kernel
theorem dX6_handTo_14 : decode cX6_handTo 14 = .ok (.dup, 1) := by decide +kernel
theorem dX6_handTo_15 : decode cX6_handTo 15 = .ok (.getfield 59, 3) := by decide +kernel
theorem dX6_handTo_18 : decode cX6_handTo 18 = .ok (.iconst 1, 1) := by decide +kernel
theorem dX6_handTo_19 : decode cX6_handTo 19 = .ok (.iadd, 1) := by decide +kernel
theorem dX6_handTo_20 : decode cX6_handTo 20 = .ok (.putfield 59, 3) := by decide +kernel
theorem dX6_handTo_23 : decode cX6_handTo 23 = .ok (.iload_n 3, 1) := by decide +kernel
theorem dX6_handTo_24 : decode cX6_handTo 24 = .ok (.ifCond .le 38, 3) := by decide +kernel
theorem dX6_handTo_27 : decode cX6_handTo 27 = .ok (.aload_n 2, 1) := by decide +kernel
theorem dX6_handTo_28 : decode cX6_handTo 28 = .ok (.aload_n 1, 1) := by decide +kernel
theorem dX6_handTo_29 : decode cX6_handTo 29 = .ok (.iload_n 3, 1) := by decide +kernel
theorem dX6_handTo_30 : decode cX6_handTo 30 = .ok (.invokevirtual 242, 3) := by decide +kernel
theorem dX6_handTo_33 : decode cX6_handTo 33 = .ok (.aload_n 1, 1) := by decide +kernel
theorem dX6_handTo_34 : decode cX6_handTo 34 = .ok (.iconst 2, 1) := by decide +kernel
theorem dX6_handTo_35 : decode cX6_handTo 35 = .ok (.putfield 151, 3) := by decide +kernel
theorem dX6_handTo_38 : decode cX6_handTo 38 = .ok (.aload_n 0, 1) := by decide +kernel
theorem dX6_handTo_39 : decode cX6_handTo 39 = .ok (.getfield 41, 3) := by decide +kernel
theorem dX6_handTo_42 : decode cX6_handTo 42 = .ok (.bipush 8, 2) := by decide +kernel
theorem dX6_handTo_44 : decode cX6_handTo 44 = .ok (.aload_n 0, 1) := by decide +kernel
theorem dX6_handTo_45 : decode cX6_handTo 45 = .ok (.getfield 56, 3) := by decide +kernel
theorem dX6_handTo_48 : decode cX6_handTo 48 = .ok (.aload_n 1, 1) := by decide +kernel
theorem dX6_handTo_49 : decode cX6_handTo 49 = .ok (.getfield 218, 3) := by decide +kernel
theorem dX6_handTo_52 : decode cX6_handTo 52 = .ok (.aload_n 2, 1) := by decide +kernel
theorem dX6_handTo_53 : decode cX6_handTo 53 = .ok (.getfield 246, 3) := by decide +kernel
theorem dX6_handTo_56 : decode cX6_handTo 56 = .ok (.invokevirtual 220, 3) := by decide +kernel
theorem dX6_handTo_59 : decode cX6_handTo 59 = .ok (.goto 28, 3) := by decide +kernel
theorem dX6_handTo_62 : decode cX6_handTo 62 = .ok (.iload_n 3, 1) := by decide +kernel
theorem dX6_handTo_63 : decode cX6_handTo 63 = .ok (.ifCond .ne 18, 3) := by decide +kernel
theorem dX6_handTo_66 : decode cX6_handTo 66 = .ok (.aload_n 2, 1) := by decide +kernel
theorem dX6_handTo_67 : decode cX6_handTo 67 = .ok (.getfield 130, 3) := by decide +kernel
theorem dX6_handTo_70 : decode cX6_handTo 70 = .ok (.ifCond .eq 11, 3) := by decide +kernel
theorem dX6_handTo_73 : decode cX6_handTo 73 = .ok (.aload_n 0, 1) := by decide +kernel
theorem dX6_handTo_74 : decode cX6_handTo 74 = .ok (.aload_n 2, 1) := by decide +kernel
theorem dX6_handTo_75 : decode cX6_handTo 75 = .ok (.invokevirtual 148, 3) := by decide +kernel
theorem dX6_handTo_78 : decode cX6_handTo 78 = .ok (.goto 9, 3) := by decide +kernel
theorem dX6_handTo_81 : decode cX6_handTo 81 = .ok (.aload_n 0, 1) := by decide +kernel
theorem dX6_handTo_82 : decode cX6_handTo 82 = .ok (.aload_n 2, 1) := by decide +kernel
theorem dX6_handTo_83 : decode cX6_handTo 83 = .ok (.aload_n 1, 1) := by decide +kernel
theorem dX6_handTo_84 : decode cX6_handTo 84 = .ok (.invokevirtual 152, 3) := by decide +kernel
theorem dX6_handTo_87 : decode cX6_handTo 87 = .ok (.return_, 1) := by decide +kernel
set_option maxRecDepth 20000 in
theorem ggX6_closeRested_X6_linesThere : GoodIn wsX6_closeRested wsX6_linesThere := goodIn_r _ [10, 11, 12, 13, 9, 14, 2, 3, 53, 54, 55, 56, 57, 58, 59, 60, 61, 62, 63, 64, 65, 66, 67, 68, 69] (by decide +kernel) (by decide +kernel)
set_option maxRecDepth 20000 in
theorem gX6_closeRested_X6_linesThere : GoodIn wsX6_closeRested (wsV RX6 249 RX6 yX6_linesThere wsX6_linesThere) := goodIn_app (goodIn_of _ (by decide +kernel)) ggX6_closeRested_X6_linesThere
set_option maxRecDepth 20000 in
theorem ggX6_closeRested_X7_number : GoodIn wsX6_closeRested wsX7_number := goodIn_r _ [19, 20, 70, 71] (by decide +kernel) (by decide +kernel)
set_option maxRecDepth 20000 in
theorem gX6_closeRested_X7_number : GoodIn wsX6_closeRested (wsV RX6 203 RX7 yX7_number wsX7_number) := goodIn_app (goodIn_of _ (by decide +kernel)) ggX6_closeRested_X7_number
set_option maxRecDepth 20000 in
theorem ggX6_closeRested_X6_drop : GoodIn wsX6_closeRested wsX6_drop := goodIn_r _ [24, 25, 4, 26, 27, 28, 29, 30, 31, 32, 33, 34, 35, 36, 37, 38, 39, 40, 41, 42, 43, 44, 45, 46, 47, 48, 49, 50, 51, 52, 53, 54, 55, 56, 57, 58, 59, 60, 61, 62, 63, 64, 65, 66, 67, 68, 69, 72, 73, 74] (by decide +kernel) (by decide +kernel)
set_option maxRecDepth 20000 in
theorem gX6_closeRested_X6_drop : GoodIn wsX6_closeRested (wsV RX6 148 RX6 yX6_drop wsX6_drop) := goodIn_app (goodIn_of _ (by decide +kernel)) ggX6_closeRested_X6_drop
theorem dX6_closeRested_0 : decode cX6_closeRested 0 = .ok (.aload_n 0, 1) := by decide +kernel
theorem dX6_closeRested_1 : decode cX6_closeRested 1 = .ok (.invokevirtual 249, 3) := by decide +kernel
theorem dX6_closeRested_4 : decode cX6_closeRested 4 = .ok (.aload_n 0, 1) := by decide +kernel
theorem dX6_closeRested_5 : decode cX6_closeRested 5 = .ok (.getfield 9, 3) := by decide +kernel
theorem dX6_closeRested_8 : decode cX6_closeRested 8 = .ok (.iconst 5, 1) := by decide +kernel
theorem dX6_closeRested_9 : decode cX6_closeRested 9 = .ok (.invokevirtual 203, 3) := by decide +kernel
theorem dX6_closeRested_12 : decode cX6_closeRested 12 = .ok (.isub, 1) := by decide +kernel
theorem dX6_closeRested_13 : decode cX6_closeRested 13 = .ok (.istore_n 1, 1) := by decide +kernel
theorem dX6_closeRested_14 : decode cX6_closeRested 14 = .ok (.iconst 0, 1) := by decide +kernel
theorem dX6_closeRested_15 : decode cX6_closeRested 15 = .ok (.istore_n 2, 1) := by decide +kernel
theorem dX6_closeRested_16 : decode cX6_closeRested 16 = .ok (.iload_n 2, 1) := by decide +kernel
theorem dX6_closeRested_17 : decode cX6_closeRested 17 = .ok (.bipush 12, 2) := by decide +kernel
theorem dX6_closeRested_19 : decode cX6_closeRested 19 = .ok (.if_icmp .ge 56, 3) := by decide +kernel
theorem dX6_closeRested_22 : decode cX6_closeRested 22 = .ok (.iload_n 1, 1) := by decide +kernel
theorem dX6_closeRested_23 : decode cX6_closeRested 23 = .ok (.ifCond .le 52, 3) := by decide +kernel
theorem dX6_closeRested_26 : decode cX6_closeRested 26 = .ok (.aload_n 0, 1) := by decide +kernel
theorem dX6_closeRested_27 : decode cX6_closeRested 27 = .ok (.getfield 17, 3) := by decide +kernel
theorem dX6_closeRested_30 : decode cX6_closeRested 30 = .ok (.iload_n 2, 1) := by decide +kernel
theorem dX6_closeRested_31 : decode cX6_closeRested 31 = .ok (.aaload, 1) := by decide +kernel
theorem dX6_closeRested_32 : decode cX6_closeRested 32 = .ok (.astore_n 3, 1) := by decide +kernel
theorem dX6_closeRested_33 : decode cX6_closeRested 33 = .ok (.aload_n 3, 1) := by decide +kernel
theorem dX6_closeRested_34 : decode cX6_closeRested 34 = .ok (.getfield 124, 3) := by decide +kernel
theorem dX6_closeRested_37 : decode cX6_closeRested 37 = .ok (.iconst 2, 1) := by decide +kernel
theorem dX6_closeRested_38 : decode cX6_closeRested 38 = .ok (.if_icmp .ne 31, 3) := by decide +kernel
theorem dX6_closeRested_41 : decode cX6_closeRested 41 = .ok (.aload_n 0, 1) := by decide +kernel
theorem dX6_closeRested_42 : decode cX6_closeRested 42 = .ok (.getfield 56, 3) := by decide +kernel
theorem dX6_closeRested_45 : decode cX6_closeRested 45 = .ok (.aload_n 3, 1) := by decide +kernel
theorem dX6_closeRested_46 : decode cX6_closeRested 46 = .ok (.getfield 209, 3) := by decide +kernel
theorem dX6_closeRested_49 : decode cX6_closeRested 49 = .ok (.isub, 1) := by decide +kernel
theorem dX6_closeRested_50 : decode cX6_closeRested 50 = .ok (.aload_n 0, 1) := by decide +kernel
theorem dX6_closeRested_51 : decode cX6_closeRested 51 = .ok (.getfield 9, 3) := by decide +kernel
theorem dX6_closeRested_54 : decode cX6_closeRested 54 = .ok (.iconst 4, 1) := by decide +kernel
theorem dX6_closeRested_55 : decode cX6_closeRested 55 = .ok (.invokevirtual 203, 3) := by decide +kernel
theorem dX6_closeRested_58 : decode cX6_closeRested 58 = .ok (.if_icmp .lt 11, 3) := by decide +kernel
theorem dX6_closeRested_61 : decode cX6_closeRested 61 = .ok (.aload_n 0, 1) := by decide +kernel
theorem dX6_closeRested_62 : decode cX6_closeRested 62 = .ok (.aload_n 3, 1) := by decide +kernel
theorem dX6_closeRested_63 : decode cX6_closeRested 63 = .ok (.invokevirtual 148, 3) := by decide +kernel
theorem dX6_closeRested_66 : decode cX6_closeRested 66 = .ok (.iinc 1 (-1), 3) := by decide +kernel
theorem dX6_closeRested_69 : decode cX6_closeRested 69 = .ok (.iinc 2 1, 3) := by decide +kernel
theorem dX6_closeRested_72 : decode cX6_closeRested 72 = .ok (.goto (-56), 3) := by decide +kernel
theorem dX6_closeRested_75 : decode cX6_closeRested 75 = .ok (.return_, 1) := by decide +kernel
set_option maxRecDepth 20000 in
theorem ggX6_closeSurplus_X6_linesThere : GoodIn wsX6_closeSurplus wsX6_linesThere := goodIn_r _ [8, 9, 10, 11, 7, 12, 2, 3, 52, 53, 54, 55, 56, 57, 58, 59, 60, 61, 62, 63, 64, 65, 66, 67, 68] (by decide +kernel) (by decide +kernel)
set_option maxRecDepth 20000 in
theorem gX6_closeSurplus_X6_linesThere : GoodIn wsX6_closeSurplus (wsV RX6 249 RX6 yX6_linesThere wsX6_linesThere) := goodIn_app (goodIn_of _ (by decide +kernel)) ggX6_closeSurplus_X6_linesThere
set_option maxRecDepth 20000 in
theorem ggX6_closeSurplus_X7_number : GoodIn wsX6_closeSurplus wsX7_number := goodIn_r _ [17, 18, 69, 70] (by decide +kernel) (by decide +kernel)
set_option maxRecDepth 20000 in
theorem gX6_closeSurplus_X7_number : GoodIn wsX6_closeSurplus (wsV RX6 203 RX7 yX7_number wsX7_number) := goodIn_app (goodIn_of _ (by decide +kernel)) ggX6_closeSurplus_X7_number
set_option maxRecDepth 20000 in
theorem ggX6_closeSurplus_X6_drop : GoodIn wsX6_closeSurplus wsX6_drop := goodIn_r _ [22, 23, 24, 25, 26, 27, 28, 29, 30, 31, 32, 33, 34, 35, 36, 37, 38, 39, 40, 41, 42, 43, 44, 45, 46, 47, 48, 49, 50, 51, 52, 53, 54, 55, 56, 57, 58, 59, 60, 61, 62, 63, 64, 65, 66, 67, 68, 71, 72, 73] (by decide +kernel) (by decide +kernel)
set_option maxRecDepth 20000 in
theorem gX6_closeSurplus_X6_drop : GoodIn wsX6_closeSurplus (wsV RX6 148 RX6 yX6_drop wsX6_drop) := goodIn_app (goodIn_of _ (by decide +kernel)) ggX6_closeSurplus_X6_drop
theorem dX6_closeSurplus_0 : decode cX6_closeSurplus 0 = .ok (.aload_n 0, 1) := by decide +kernel
theorem dX6_closeSurplus_1 : decode cX6_closeSurplus 1 = .ok (.invokevirtual 249, 3) := by decide +kernel
theorem dX6_closeSurplus_4 : decode cX6_closeSurplus 4 = .ok (.aload_n 0, 1) := by decide +kernel
theorem dX6_closeSurplus_5 : decode cX6_closeSurplus 5 = .ok (.getfield 9, 3) := by decide +kernel
theorem dX6_closeSurplus_8 : decode cX6_closeSurplus 8 = .ok (.iconst 0, 1) := by decide +kernel
theorem dX6_closeSurplus_9 : decode cX6_closeSurplus 9 = .ok (.invokevirtual 203, 3) := by decide +kernel
theorem dX6_closeSurplus_12 : decode cX6_closeSurplus 12 = .ok (.isub, 1) := by decide +kernel
theorem dX6_closeSurplus_13 : decode cX6_closeSurplus 13 = .ok (.istore_n 1, 1) := by decide +kernel
theorem dX6_closeSurplus_14 : decode cX6_closeSurplus 14 = .ok (.bipush 11, 2) := by decide +kernel
theorem dX6_closeSurplus_16 : decode cX6_closeSurplus 16 = .ok (.istore_n 2, 1) := by decide +kernel
theorem dX6_closeSurplus_17 : decode cX6_closeSurplus 17 = .ok (.iload_n 2, 1) := by decide +kernel
theorem dX6_closeSurplus_18 : decode cX6_closeSurplus 18 = .ok (.ifCond .lt 39, 3) := by decide +kernel
theorem dX6_closeSurplus_21 : decode cX6_closeSurplus 21 = .ok (.iload_n 1, 1) := by decide +kernel
theorem dX6_closeSurplus_22 : decode cX6_closeSurplus 22 = .ok (.ifCond .le 35, 3) := by decide +kernel
theorem dX6_closeSurplus_25 : decode cX6_closeSurplus 25 = .ok (.aload_n 0, 1) := by decide +kernel
theorem dX6_closeSurplus_26 : decode cX6_closeSurplus 26 = .ok (.getfield 17, 3) := by decide +kernel
theorem dX6_closeSurplus_29 : decode cX6_closeSurplus 29 = .ok (.iload_n 2, 1) := by decide +kernel
theorem dX6_closeSurplus_30 : decode cX6_closeSurplus 30 = .ok (.aaload, 1) := by decide +kernel
theorem dX6_closeSurplus_31 : decode cX6_closeSurplus 31 = .ok (.getfield 124, 3) := by decide +kernel
theorem dX6_closeSurplus_34 : decode cX6_closeSurplus 34 = .ok (.iconst 2, 1) := by decide +kernel
theorem dX6_closeSurplus_35 : decode cX6_closeSurplus 35 = .ok (.if_icmp .ne 16, 3) := by decide +kernel
theorem dX6_closeSurplus_38 : decode cX6_closeSurplus 38 = .ok (.aload_n 0, 1) := by decide +kernel
theorem dX6_closeSurplus_39 : decode cX6_closeSurplus 39 = .ok (.aload_n 0, 1) := by decide +kernel
theorem dX6_closeSurplus_40 : decode cX6_closeSurplus 40 = .ok (.getfield 17, 3) := by decide +kernel
theorem dX6_closeSurplus_43 : decode cX6_closeSurplus 43 = .ok (.iload_n 2, 1) := by decide +kernel
theorem dX6_closeSurplus_44 : decode cX6_closeSurplus 44 = .ok (.aaload, 1) := by decide +kernel
theorem dX6_closeSurplus_45 : decode cX6_closeSurplus 45 = .ok (.invokevirtual 148, 3) := by decide +kernel
theorem dX6_closeSurplus_48 : decode cX6_closeSurplus 48 = .ok (.iinc 1 (-1), 3) := by decide +kernel
theorem dX6_closeSurplus_51 : decode cX6_closeSurplus 51 = .ok (.iinc 2 (-1), 3) := by decide +kernel
theorem dX6_closeSurplus_54 : decode cX6_closeSurplus 54 = .ok (.goto (-37), 3) := by decide +kernel
theorem dX6_closeSurplus_57 : decode cX6_closeSurplus 57 = .ok (.return_, 1) := by decide +kernel
set_option maxRecDepth 20000 in
theorem ggX6_openWanted_X6_linesIn : GoodIn wsX6_openWanted wsX6_linesIn := goodIn_r _ [15, 9, 10, 69, 70, 71, 72, 73, 74, 75, 76, 77, 78, 79, 80, 81, 82, 83, 84, 85] (by decide +kernel) (by decide +kernel)
set_option maxRecDepth 20000 in
theorem gX6_openWanted_X6_linesIn : GoodIn wsX6_openWanted (wsV RX6 253 RX6 yX6_linesIn wsX6_linesIn) := goodIn_app (goodIn_of _ (by decide +kernel)) ggX6_openWanted_X6_linesIn
set_option maxRecDepth 20000 in
theorem ggX6_openWanted_X6_callersIn : GoodIn wsX6_openWanted wsX6_callersIn := goodIn_r _ [19, 20, 21, 22, 69, 70, 71, 72, 73, 74, 75, 76, 77, 78, 79, 86, 87, 88, 89, 90, 91, 92, 93, 94, 95] (by decide +kernel) (by decide +kernel)
set_option maxRecDepth 20000 in
theorem gX6_openWanted_X6_callersIn : GoodIn wsX6_openWanted (wsV RX6 171 RX6 yX6_callersIn wsX6_callersIn) := goodIn_app (goodIn_of _ (by decide +kernel)) ggX6_openWanted_X6_callersIn
set_option maxRecDepth 20000 in
theorem ggX6_openWanted_X7_number : GoodIn wsX6_openWanted wsX7_number := goodIn_r _ [27, 28, 96, 97] (by decide +kernel) (by decide +kernel)
set_option maxRecDepth 20000 in
theorem gX6_openWanted_X7_number : GoodIn wsX6_openWanted (wsV RX6 203 RX7 yX7_number wsX7_number) := goodIn_app (goodIn_of _ (by decide +kernel)) ggX6_openWanted_X7_number
set_option maxRecDepth 20000 in
theorem ggX6_openWanted_X6_linesThere : GoodIn wsX6_openWanted wsX6_linesThere := goodIn_r _ [32, 11, 12, 13, 14, 15, 9, 10, 69, 70, 71, 72, 73, 74, 75, 76, 77, 78, 79, 80, 81, 82, 83, 84, 85] (by decide +kernel) (by decide +kernel)
set_option maxRecDepth 20000 in
theorem gX6_openWanted_X6_linesThere : GoodIn wsX6_openWanted (wsV RX6 249 RX6 yX6_linesThere wsX6_linesThere) := goodIn_app (goodIn_of _ (by decide +kernel)) ggX6_openWanted_X6_linesThere
set_option maxRecDepth 20000 in
theorem ggX6_openWanted_X6_openLine : GoodIn wsX6_openWanted wsX6_openLine := goodIn_r _ [36, 1, 37, 38, 39, 23, 24, 25, 26, 27, 28, 40, 41, 42, 43, 44, 45, 46, 47, 48, 49, 50, 51, 52, 53, 54, 55, 56, 57, 58, 59, 60, 61, 62, 63, 64, 65, 66, 67, 68, 69, 70, 71, 72, 73, 74, 75, 76, 77, 78, 79, 80, 81, 82, 83, 84, 85, 96, 97, 98, 99, 100] (by decide +kernel) (by decide +kernel)
set_option maxRecDepth 20000 in
theorem gX6_openWanted_X6_openLine : GoodIn wsX6_openWanted (wsV RX6 259 RX6 yX6_openLine wsX6_openLine) := goodIn_app (goodIn_of _ (by decide +kernel)) ggX6_openWanted_X6_openLine
theorem dX6_openWanted_0 : decode cX6_openWanted 0 = .ok (.aload_n 0, 1) := by decide +kernel
theorem dX6_openWanted_1 : decode cX6_openWanted 1 = .ok (.iconst 4, 1) := by decide +kernel
theorem dX6_openWanted_2 : decode cX6_openWanted 2 = .ok (.invokevirtual 253, 3) := by decide +kernel
theorem dX6_openWanted_5 : decode cX6_openWanted 5 = .ok (.aload_n 0, 1) := by decide +kernel
theorem dX6_openWanted_6 : decode cX6_openWanted 6 = .ok (.iconst 3, 1) := by decide +kernel
theorem dX6_openWanted_7 : decode cX6_openWanted 7 = .ok (.invokevirtual 253, 3) := by decide +kernel
theorem dX6_openWanted_10 : decode cX6_openWanted 10 = .ok (.iadd, 1) := by decide +kernel
theorem dX6_openWanted_11 : decode cX6_openWanted 11 = .ok (.aload_n 0, 1) := by decide +kernel
theorem dX6_openWanted_12 : decode cX6_openWanted 12 = .ok (.iconst 1, 1) := by decide +kernel
theorem dX6_openWanted_13 : decode cX6_openWanted 13 = .ok (.invokevirtual 171, 3) := by decide +kernel
theorem dX6_openWanted_16 : decode cX6_openWanted 16 = .ok (.iadd, 1) := by decide +kernel
theorem dX6_openWanted_17 : decode cX6_openWanted 17 = .ok (.istore_n 1, 1) := by decide +kernel
theorem dX6_openWanted_18 : decode cX6_openWanted 18 = .ok (.aload_n 0, 1) := by decide +kernel
theorem dX6_openWanted_19 : decode cX6_openWanted 19 = .ok (.getfield 9, 3) := by decide +kernel
theorem dX6_openWanted_22 : decode cX6_openWanted 22 = .ok (.iconst 0, 1) := by decide +kernel
theorem dX6_openWanted_23 : decode cX6_openWanted 23 = .ok (.invokevirtual 203, 3) := by decide +kernel
theorem dX6_openWanted_26 : decode cX6_openWanted 26 = .ok (.aload_n 0, 1) := by decide +kernel
theorem dX6_openWanted_27 : decode cX6_openWanted 27 = .ok (.getfield 9, 3) := by decide +kernel
theorem dX6_openWanted_30 : decode cX6_openWanted 30 = .ok (.iconst 5, 1) := by decide +kernel
theorem dX6_openWanted_31 : decode cX6_openWanted 31 = .ok (.invokevirtual 203, 3) := by decide +kernel
theorem dX6_openWanted_34 : decode cX6_openWanted 34 = .ok (.iload_n 1, 1) := by decide +kernel
theorem dX6_openWanted_35 : decode cX6_openWanted 35 = .ok (.invokestatic 182, 3) := by decide +kernel
theorem dX6_openWanted_38 : decode cX6_openWanted 38 = .ok (.invokestatic 256, 3) := by decide +kernel
theorem dX6_openWanted_41 : decode cX6_openWanted 41 = .ok (.istore_n 2, 1) := by decide +kernel
theorem dX6_openWanted_42 : decode cX6_openWanted 42 = .ok (.iload_n 2, 1) := by decide +kernel
theorem dX6_openWanted_43 : decode cX6_openWanted 43 = .ok (.aload_n 0, 1) := by decide +kernel
theorem dX6_openWanted_44 : decode cX6_openWanted 44 = .ok (.invokevirtual 249, 3) := by decide +kernel
theorem dX6_openWanted_47 : decode cX6_openWanted 47 = .ok (.isub, 1) := by decide +kernel
theorem dX6_openWanted_48 : decode cX6_openWanted 48 = .ok (.istore_n 3, 1) := by decide +kernel
theorem dX6_openWanted_49 : decode cX6_openWanted 49 = .ok (.iconst 0, 1) := by decide +kernel
theorem dX6_openWanted_50 : decode cX6_openWanted 50 = .ok (.istore 4, 2) := by decide +kernel
theorem dX6_openWanted_52 : decode cX6_openWanted 52 = .ok (.iload 4, 2) := by decide +kernel
theorem dX6_openWanted_54 : decode cX6_openWanted 54 = .ok (.bipush 12, 2) := by decide +kernel
theorem dX6_openWanted_56 : decode cX6_openWanted 56 = .ok (.if_icmp .ge 40, 3) := by decide +kernel
theorem dX6_openWanted_59 : decode cX6_openWanted 59 = .ok (.iload_n 3, 1) := by decide +kernel
theorem dX6_openWanted_60 : decode cX6_openWanted 60 = .ok (.ifCond .le 36, 3) := by decide +kernel
theorem dX6_openWanted_63 : decode cX6_openWanted 63 = .ok (.aload_n 0, 1) := by decide +kernel
theorem dX6_openWanted_64 : decode cX6_openWanted 64 = .ok (.getfield 17, 3) := by decide +kernel
theorem dX6_openWanted_67 : decode cX6_openWanted 67 = .ok (.iload 4, 2) := by decide +kernel
theorem dX6_openWanted_69 : decode cX6_openWanted 69 = .ok (.aaload, 1) := by decide +kernel
theorem dX6_openWanted_70 : decode cX6_openWanted 70 = .ok (.getfield 124, 3) := by decide +kernel
theorem dX6_openWanted_73 : decode cX6_openWanted 73 = .ok (.ifCond .ne 17, 3) := by decide +kernel
theorem dX6_openWanted_76 : decode cX6_openWanted 76 = .ok (.aload_n 0, 1) := by decide +kernel
theorem dX6_openWanted_77 : decode cX6_openWanted 77 = .ok (.aload_n 0, 1) := by decide +kernel
theorem dX6_openWanted_78 : decode cX6_openWanted 78 = .ok (.getfield 17, 3) := by decide +kernel
theorem dX6_openWanted_81 : decode cX6_openWanted 81 = .ok (.iload 4, 2) := by decide +kernel
theorem dX6_openWanted_83 : decode cX6_openWanted 83 = .ok (.aaload, 1) := by decide +kernel
theorem dX6_openWanted_84 : decode cX6_openWanted 84 = .ok (.invokevirtual 259, 3) := by decide +kernel
theorem dX6_openWanted_87 : decode cX6_openWanted 87 = .ok (.iinc 3 (-1), 3) := by decide +kernel
theorem dX6_openWanted_90 : decode cX6_openWanted 90 = .ok (.iinc 4 1, 3) := by decide +kernel
theorem dX6_openWanted_93 : decode cX6_openWanted 93 = .ok (.goto (-41), 3) := by decide +kernel
theorem dX6_openWanted_96 : decode cX6_openWanted 96 = .ok (.return_, 1) := by decide +kernel
set_option maxRecDepth 20000 in
theorem ggX6_openLine_X7_number : GoodIn wsX6_openLine wsX7_number := goodIn_r _ [9, 10, 57, 58] (by decide +kernel) (by decide +kernel)
set_option maxRecDepth 20000 in
theorem gX6_openLine_X7_number : GoodIn wsX6_openLine (wsV RX6 203 RX7 yX7_number wsX7_number) := goodIn_app (goodIn_of _ (by decide +kernel)) ggX6_openLine_X7_number
set_option maxRecDepth 20000 in
theorem ggX6_openLine_X4_add : GoodIn wsX6_openLine wsX4_add := goodIn_r _ [15, 16, 17, 18, 19, 20, 21, 22, 59, 60, 61] (by decide +kernel) (by decide +kernel)
set_option maxRecDepth 20000 in
theorem gX6_openLine_X4_add : GoodIn wsX6_openLine (wsV RX6 220 RX4 yX4_add wsX4_add) := goodIn_app (goodIn_of _ (by decide +kernel)) ggX6_openLine_X4_add
set_option maxRecDepth 20000 in
theorem ggX6_openLine_X3_openFor : GoodIn wsX6_openLine wsX3_openFor := goodIn_r _ [27, 28, 29, 30, 26, 31, 32, 33, 34, 35, 51, 52, 53, 54, 55, 56] (by decide +kernel) (by decide +kernel)
set_option maxRecDepth 20000 in
theorem gX6_openLine_X3_openFor : GoodIn wsX6_openLine (wsV RX6 262 RX3 yX3_openFor wsX3_openFor) := goodIn_app (goodIn_of _ (by decide +kernel)) ggX6_openLine_X3_openFor
set_option maxRecDepth 20000 in
theorem ggX6_openLine_X3_idleFrom : GoodIn wsX6_openLine wsX3_idleFrom := goodIn_r _ [39, 28, 29, 30, 26, 31, 32, 33, 34, 35, 51, 52, 53, 54, 55, 56] (by decide +kernel) (by decide +kernel)
set_option maxRecDepth 20000 in
theorem gX6_openLine_X3_idleFrom : GoodIn wsX6_openLine (wsV RX6 145 RX3 yX3_idleFrom wsX3_idleFrom) := goodIn_app (goodIn_of _ (by decide +kernel)) ggX6_openLine_X3_idleFrom
theorem dX6_openLine_0 : decode cX6_openLine 0 = .ok (.aload_n 0, 1) := by decide +kernel
theorem dX6_openLine_1 : decode cX6_openLine 1 = .ok (.getfield 9, 3) := by decide +kernel
theorem dX6_openLine_4 : decode cX6_openLine 4 = .ok (.iconst 1, 1) := by decide +kernel
theorem dX6_openLine_5 : decode cX6_openLine 5 = .ok (.invokevirtual 203, 3) := by decide +kernel
theorem dX6_openLine_8 : decode cX6_openLine 8 = .ok (.istore_n 2, 1) := by decide +kernel
theorem dX6_openLine_9 : decode cX6_openLine 9 = .ok (.aload_n 0, 1) := by decide +kernel
theorem dX6_openLine_10 : decode cX6_openLine 10 = .ok (.getfield 41, 3) := by decide +kernel
theorem dX6_openLine_13 : decode cX6_openLine 13 = .ok (.bipush 6, 2) := by decide +kernel
theorem dX6_openLine_15 : decode cX6_openLine 15 = .ok (.aload_n 0, 1) := by decide +kernel
theorem dX6_openLine_16 : decode cX6_openLine 16 = .ok (.getfield 56, 3) := by decide +kernel
theorem dX6_openLine_19 : decode cX6_openLine 19 = .ok (.iconst (-1), 1) := by decide +kernel
theorem dX6_openLine_20 : decode cX6_openLine 20 = .ok (.aload_n 1, 1) := by decide +kernel
theorem dX6_openLine_21 : decode cX6_openLine 21 = .ok (.getfield 246, 3) := by decide +kernel
theorem dX6_openLine_24 : decode cX6_openLine 24 = .ok (.invokevirtual 220, 3) := by decide +kernel
theorem dX6_openLine_27 : decode cX6_openLine 27 = .ok (.iload_n 2, 1) := by decide +kernel
theorem dX6_openLine_28 : decode cX6_openLine 28 = .ok (.ifCond .le 11, 3) := by decide +kernel
theorem dX6_openLine_31 : decode cX6_openLine 31 = .ok (.aload_n 1, 1) := by decide +kernel
theorem dX6_openLine_32 : decode cX6_openLine 32 = .ok (.iload_n 2, 1) := by decide +kernel
theorem dX6_openLine_33 : decode cX6_openLine 33 = .ok (.invokevirtual 262, 3) := by decide +kernel
theorem dX6_openLine_36 : decode cX6_openLine 36 = .ok (.goto 11, 3) := by decide +kernel
theorem dX6_openLine_39 : decode cX6_openLine 39 = .ok (.aload_n 1, 1) := by decide +kernel
theorem dX6_openLine_40 : decode cX6_openLine 40 = .ok (.aload_n 0, 1) := by decide +kernel
theorem dX6_openLine_41 : decode cX6_openLine 41 = .ok (.getfield 56, 3) := by decide +kernel
theorem dX6_openLine_44 : decode cX6_openLine 44 = .ok (.invokevirtual 145, 3) := by decide +kernel
theorem dX6_openLine_47 : decode cX6_openLine 47 = .ok (.return_, 1) := by decide +kernel
set_option maxRecDepth 20000 in
theorem ggX6_lend_X3_lendTo : GoodIn wsX6_lend wsX3_lendTo := goodIn_r _ [12, 13, 14, 15, 11, 16, 17, 18, 19, 20, 66, 67, 68, 69, 70, 71] (by decide +kernel) (by decide +kernel)
set_option maxRecDepth 20000 in
theorem gX6_lend_X3_lendTo : GoodIn wsX6_lend (wsV RX6 265 RX3 yX3_lendTo wsX3_lendTo) := goodIn_app (goodIn_of _ (by decide +kernel)) ggX6_lend_X3_lendTo
set_option maxRecDepth 20000 in
theorem ggX6_lend_X6_noteWait : GoodIn wsX6_lend wsX6_noteWait := goodIn_r _ [25, 26, 27, 28, 29, 30, 31, 32, 45, 46, 47, 48, 49, 50, 51, 52, 53, 54, 55] (by decide +kernel) (by decide +kernel)
set_option maxRecDepth 20000 in
theorem gX6_lend_X6_noteWait : GoodIn wsX6_lend (wsV RX6 268 RX6 yX6_noteWait wsX6_noteWait) := goodIn_app (goodIn_of _ (by decide +kernel)) ggX6_lend_X6_noteWait
set_option maxRecDepth 20000 in
theorem ggX6_lend_X4_add : GoodIn wsX6_lend wsX4_add := goodIn_r _ [37, 38, 39, 40, 41, 42, 43, 44, 72, 73, 74] (by decide +kernel) (by decide +kernel)
set_option maxRecDepth 20000 in
theorem gX6_lend_X4_add : GoodIn wsX6_lend (wsV RX6 220 RX4 yX4_add wsX4_add) := goodIn_app (goodIn_of _ (by decide +kernel)) ggX6_lend_X4_add
theorem dX6_lend_0 : decode cX6_lend 0 = .ok (.aload_n 1, 1) := by decide +kernel
theorem dX6_lend_1 : decode cX6_lend 1 = .ok (.aload_n 2, 1) := by decide +kernel
theorem dX6_lend_2 : decode cX6_lend 2 = .ok (.aload_n 0, 1) := by decide +kernel
theorem dX6_lend_3 : decode cX6_lend 3 = .ok (.getfield 56, 3) := by decide +kernel
theorem dX6_lend_6 : decode cX6_lend 6 = .ok (.invokevirtual 265, 3) := by decide +kernel
theorem dX6_lend_9 : decode cX6_lend 9 = .ok (.aload_n 2, 1) := by decide +kernel
theorem dX6_lend_10 : decode cX6_lend 10 = .ok (.iconst 3, 1) := by decide +kernel
theorem dX6_lend_11 : decode cX6_lend 11 = .ok (.putfield 151, 3) := by decide +kernel
theorem dX6_lend_14 : decode cX6_lend 14 = .ok (.aload_n 2, 1) := by decide +kernel
theorem dX6_lend_15 : decode cX6_lend 15 = .ok (.getfield 194, 3) := by decide +kernel
theorem dX6_lend_18 : decode cX6_lend 18 = .ok (.ifCond .ne 16, 3) := by decide +kernel
theorem dX6_lend_21 : decode cX6_lend 21 = .ok (.aload_n 0, 1) := by decide +kernel
theorem dX6_lend_22 : decode cX6_lend 22 = .ok (.aload_n 0, 1) := by decide +kernel
theorem dX6_lend_23 : decode cX6_lend 23 = .ok (.getfield 56, 3) := by decide +kernel
theorem dX6_lend_26 : decode cX6_lend 26 = .ok (.aload_n 2, 1) := by decide +kernel
theorem dX6_lend_27 : decode cX6_lend 27 = .ok (.getfield 212, 3) := by decide +kernel
theorem dX6_lend_30 : decode cX6_lend 30 = .ok (.isub, 1) := by decide +kernel
theorem dX6_lend_31 : decode cX6_lend 31 = .ok (.invokevirtual 268, 3) := by decide +kernel
theorem dX6_lend_34 : decode cX6_lend 34 = .ok (.aload_n 0, 1) := by decide +kernel
theorem dX6_lend_35 : decode cX6_lend 35 = .ok (.getfield 41, 3) := by decide +kernel
theorem dX6_lend_38 : decode cX6_lend 38 = .ok (.iconst 1, 1) := by decide +kernel
theorem dX6_lend_39 : decode cX6_lend 39 = .ok (.aload_n 0, 1) := by decide +kernel
theorem dX6_lend_40 : decode cX6_lend 40 = .ok (.getfield 56, 3) := by decide +kernel
theorem dX6_lend_43 : decode cX6_lend 43 = .ok (.aload_n 2, 1) := by decide +kernel
theorem dX6_lend_44 : decode cX6_lend 44 = .ok (.getfield 218, 3) := by decide +kernel
theorem dX6_lend_47 : decode cX6_lend 47 = .ok (.aload_n 1, 1) := by decide +kernel
theorem dX6_lend_48 : decode cX6_lend 48 = .ok (.getfield 246, 3) := by decide +kernel
theorem dX6_lend_51 : decode cX6_lend 51 = .ok (.invokevirtual 220, 3) := by decide +kernel
theorem dX6_lend_54 : decode cX6_lend 54 = .ok (.return_, 1) := by decide +kernel
theorem dX6_noteWait_0 : decode cX6_noteWait 0 = .ok (.aload_n 0, 1) := by decide +kernel
theorem dX6_noteWait_1 : decode cX6_noteWait 1 = .ok (.dup, 1) := by decide +kernel
theorem dX6_noteWait_2 : decode cX6_noteWait 2 = .ok (.getfield 62, 3) := by decide +kernel
theorem dX6_noteWait_5 : decode cX6_noteWait 5 = .ok (.iload_n 1, 1) := by decide +kernel
theorem dX6_noteWait_6 : decode cX6_noteWait 6 = .ok (.i2l, 1) := by decide +kernel
theorem dX6_noteWait_7 : decode cX6_noteWait 7 = .ok (.ladd, 1) := by decide +kernel
theorem dX6_noteWait_8 : decode cX6_noteWait 8 = .ok (.putfield 62, 3) := by decide +kernel
theorem dX6_noteWait_11 : decode cX6_noteWait 11 = .ok (.aload_n 0, 1) := by decide +kernel
theorem dX6_noteWait_12 : decode cX6_noteWait 12 = .ok (.dup, 1) := by decide +kernel
theorem dX6_noteWait_13 : decode cX6_noteWait 13 = .ok (.getfield 66, 3) := by decide +kernel
theorem dX6_noteWait_16 : decode cX6_noteWait 16 = .ok (.iconst 1, 1) := by decide +kernel
theorem dX6_noteWait_17 : decode cX6_noteWait 17 = .ok (.iadd, 1) := by decide +kernel
theorem dX6_noteWait_18 : decode cX6_noteWait 18 = .ok (.putfield 66, 3) := by decide +kernel
theorem dX6_noteWait_21 : decode cX6_noteWait 21 = .ok (.aload_n 0, 1) := by decide +kernel
theorem dX6_noteWait_22 : decode cX6_noteWait 22 = .ok (.aload_n 0, 1) := by decide +kernel
theorem dX6_noteWait_23 : decode cX6_noteWait 23 = .ok (.getfield 69, 3) := by decide +kernel
theorem dX6_noteWait_26 : decode cX6_noteWait 26 = .ok (.iload_n 1, 1) := by decide +kernel
theorem dX6_noteWait_27 : decode cX6_noteWait 27 = .ok (.invokestatic 182, 3) := by decide +kernel
theorem dX6_noteWait_30 : decode cX6_noteWait 30 = .ok (.putfield 69, 3) := by decide +kernel
theorem dX6_noteWait_33 : decode cX6_noteWait 33 = .ok (.return_, 1) := by decide +kernel
set_option maxRecDepth 20000 in
theorem ggX6_drop_X3_vanish : GoodIn wsX6_drop wsX3_vanish := goodIn_r _ [8, 9, 10, 11, 12, 7, 13, 14, 15, 16, 17, 41, 42, 43, 44, 45, 46] (by decide +kernel) (by decide +kernel)
set_option maxRecDepth 20000 in
theorem gX6_drop_X3_vanish : GoodIn wsX6_drop (wsV RX6 45 RX3 yX3_vanish wsX3_vanish) := goodIn_app (goodIn_of _ (by decide +kernel)) ggX6_drop_X3_vanish
set_option maxRecDepth 20000 in
theorem ggX6_drop_X4_add : GoodIn wsX6_drop wsX4_add := goodIn_r _ [22, 23, 24, 25, 26, 27, 28, 29, 47, 48, 49] (by decide +kernel) (by decide +kernel)
set_option maxRecDepth 20000 in
theorem gX6_drop_X4_add : GoodIn wsX6_drop (wsV RX6 220 RX4 yX4_add wsX4_add) := goodIn_app (goodIn_of _ (by decide +kernel)) ggX6_drop_X4_add
theorem dX6_drop_0 : decode cX6_drop 0 = .ok (.aload_n 1, 1) := by decide +kernel
theorem dX6_drop_1 : decode cX6_drop 1 = .ok (.invokevirtual 45, 3) := by decide +kernel
theorem dX6_drop_4 : decode cX6_drop 4 = .ok (.aload_n 0, 1) := by decide +kernel
theorem dX6_drop_5 : decode cX6_drop 5 = .ok (.getfield 41, 3) := by decide +kernel
theorem dX6_drop_8 : decode cX6_drop 8 = .ok (.bipush 7, 2) := by decide +kernel
theorem dX6_drop_10 : decode cX6_drop 10 = .ok (.aload_n 0, 1) := by decide +kernel
theorem dX6_drop_11 : decode cX6_drop 11 = .ok (.getfield 56, 3) := by decide +kernel
theorem dX6_drop_14 : decode cX6_drop 14 = .ok (.iconst (-1), 1) := by decide +kernel
theorem dX6_drop_15 : decode cX6_drop 15 = .ok (.aload_n 1, 1) := by decide +kernel
theorem dX6_drop_16 : decode cX6_drop 16 = .ok (.getfield 246, 3) := by decide +kernel
theorem dX6_drop_19 : decode cX6_drop 19 = .ok (.invokevirtual 220, 3) := by decide +kernel
theorem dX6_drop_22 : decode cX6_drop 22 = .ok (.return_, 1) := by decide +kernel
set_option maxRecDepth 20000 in
theorem ggX6_leave_X4_add : GoodIn wsX6_leave wsX4_add := goodIn_r _ [9, 10, 11, 12, 13, 14, 15, 16, 38, 39, 40] (by decide +kernel) (by decide +kernel)
set_option maxRecDepth 20000 in
theorem gX6_leave_X4_add : GoodIn wsX6_leave (wsV RX6 220 RX4 yX4_add wsX4_add) := goodIn_app (goodIn_of _ (by decide +kernel)) ggX6_leave_X4_add
theorem dX6_leave_0 : decode cX6_leave 0 = .ok (.aload_n 1, 1) := by decide +kernel
theorem dX6_leave_1 : decode cX6_leave 1 = .ok (.iload_n 2, 1) := by decide +kernel
theorem dX6_leave_2 : decode cX6_leave 2 = .ok (.putfield 151, 3) := by decide +kernel
theorem dX6_leave_5 : decode cX6_leave 5 = .ok (.aload_n 0, 1) := by decide +kernel
theorem dX6_leave_6 : decode cX6_leave 6 = .ok (.getfield 41, 3) := by decide +kernel
theorem dX6_leave_9 : decode cX6_leave 9 = .ok (.iload_n 3, 1) := by decide +kernel
theorem dX6_leave_10 : decode cX6_leave 10 = .ok (.aload_n 0, 1) := by decide +kernel
theorem dX6_leave_11 : decode cX6_leave 11 = .ok (.getfield 56, 3) := by decide +kernel
theorem dX6_leave_14 : decode cX6_leave 14 = .ok (.aload_n 1, 1) := by decide +kernel
theorem dX6_leave_15 : decode cX6_leave 15 = .ok (.getfield 218, 3) := by decide +kernel
theorem dX6_leave_18 : decode cX6_leave 18 = .ok (.iconst (-1), 1) := by decide +kernel
theorem dX6_leave_19 : decode cX6_leave 19 = .ok (.invokevirtual 220, 3) := by decide +kernel
theorem dX6_leave_22 : decode cX6_leave 22 = .ok (.return_, 1) := by decide +kernel
set_option maxRecDepth 20000 in
theorem ggX6_giveBack_X3_idleFrom : GoodIn wsX6_giveBack wsX3_idleFrom := goodIn_r _ [8, 9, 10, 11, 7, 12, 13, 14, 15, 16, 28, 29, 30, 31, 32, 33] (by decide +kernel) (by decide +kernel)
set_option maxRecDepth 20000 in
theorem gX6_giveBack_X3_idleFrom : GoodIn wsX6_giveBack (wsV RX6 145 RX3 yX3_idleFrom wsX3_idleFrom) := goodIn_app (goodIn_of _ (by decide +kernel)) ggX6_giveBack_X3_idleFrom
theorem dX6_giveBack_0 : decode cX6_giveBack 0 = .ok (.iconst 0, 1) := by decide +kernel
theorem dX6_giveBack_1 : decode cX6_giveBack 1 = .ok (.istore_n 2, 1) := by decide +kernel
theorem dX6_giveBack_2 : decode cX6_giveBack 2 = .ok (.iload_n 2, 1) := by decide +kernel
theorem dX6_giveBack_3 : decode cX6_giveBack 3 = .ok (.bipush 12, 2) := by decide +kernel
theorem dX6_giveBack_5 : decode cX6_giveBack 5 = .ok (.if_icmp .ge 35, 3) := by decide +kernel
theorem dX6_giveBack_8 : decode cX6_giveBack 8 = .ok (.aload_n 0, 1) := by decide +kernel
theorem dX6_giveBack_9 : decode cX6_giveBack 9 = .ok (.getfield 17, 3) := by decide +kernel
theorem dX6_giveBack_12 : decode cX6_giveBack 12 = .ok (.iload_n 2, 1) := by decide +kernel
theorem dX6_giveBack_13 : decode cX6_giveBack 13 = .ok (.aaload, 1) := by decide +kernel
theorem dX6_giveBack_14 : decode cX6_giveBack 14 = .ok (.getfield 141, 3) := by decide +kernel
theorem dX6_giveBack_17 : decode cX6_giveBack 17 = .ok (.aload_n 1, 1) := by decide +kernel
theorem dX6_giveBack_18 : decode cX6_giveBack 18 = .ok (.if_acmp .ne 16, 3) := by decide +kernel
theorem dX6_giveBack_21 : decode cX6_giveBack 21 = .ok (.aload_n 0, 1) := by decide +kernel
theorem dX6_giveBack_22 : decode cX6_giveBack 22 = .ok (.getfield 17, 3) := by decide +kernel
theorem dX6_giveBack_25 : decode cX6_giveBack 25 = .ok (.iload_n 2, 1) := by decide +kernel
theorem dX6_giveBack_26 : decode cX6_giveBack 26 = .ok (.aaload, 1) := by decide +kernel
theorem dX6_giveBack_27 : decode cX6_giveBack 27 = .ok (.aload_n 0, 1) := by decide +kernel
theorem dX6_giveBack_28 : decode cX6_giveBack 28 = .ok (.getfield 56, 3) := by decide +kernel
theorem dX6_giveBack_31 : decode cX6_giveBack 31 = .ok (.invokevirtual 145, 3) := by decide +kernel
theorem dX6_giveBack_34 : decode cX6_giveBack 34 = .ok (.iinc 2 1, 3) := by decide +kernel
theorem dX6_giveBack_37 : decode cX6_giveBack 37 = .ok (.goto (-35), 3) := by decide +kernel
theorem dX6_giveBack_40 : decode cX6_giveBack 40 = .ok (.return_, 1) := by decide +kernel
theorem dX6_callersIn_0 : decode cX6_callersIn 0 = .ok (.iconst 0, 1) := by decide +kernel
theorem dX6_callersIn_1 : decode cX6_callersIn 1 = .ok (.istore_n 2, 1) := by decide +kernel
theorem dX6_callersIn_2 : decode cX6_callersIn 2 = .ok (.iconst 0, 1) := by decide +kernel
theorem dX6_callersIn_3 : decode cX6_callersIn 3 = .ok (.istore_n 3, 1) := by decide +kernel
theorem dX6_callersIn_4 : decode cX6_callersIn 4 = .ok (.iload_n 3, 1) := by decide +kernel
theorem dX6_callersIn_5 : decode cX6_callersIn 5 = .ok (.aload_n 0, 1) := by decide +kernel
theorem dX6_callersIn_6 : decode cX6_callersIn 6 = .ok (.getfield 52, 3) := by decide +kernel
theorem dX6_callersIn_9 : decode cX6_callersIn 9 = .ok (.if_icmp .ge 25, 3) := by decide +kernel
theorem dX6_callersIn_12 : decode cX6_callersIn 12 = .ok (.aload_n 0, 1) := by decide +kernel
theorem dX6_callersIn_13 : decode cX6_callersIn 13 = .ok (.getfield 26, 3) := by decide +kernel
theorem dX6_callersIn_16 : decode cX6_callersIn 16 = .ok (.iload_n 3, 1) := by decide +kernel
theorem dX6_callersIn_17 : decode cX6_callersIn 17 = .ok (.aaload, 1) := by decide +kernel
theorem dX6_callersIn_18 : decode cX6_callersIn 18 = .ok (.getfield 151, 3) := by decide +kernel
theorem dX6_callersIn_21 : decode cX6_callersIn 21 = .ok (.iload_n 1, 1) := by decide +kernel
theorem dX6_callersIn_22 : decode cX6_callersIn 22 = .ok (.if_icmp .ne 6, 3) := by decide +kernel
theorem dX6_callersIn_25 : decode cX6_callersIn 25 = .ok (.iinc 2 1, 3) := by decide +kernel
theorem dX6_callersIn_28 : decode cX6_callersIn 28 = .ok (.iinc 3 1, 3) := by decide +kernel
theorem dX6_callersIn_31 : decode cX6_callersIn 31 = .ok (.goto (-27), 3) := by decide +kernel
theorem dX6_callersIn_34 : decode cX6_callersIn 34 = .ok (.iload_n 2, 1) := by decide +kernel
theorem dX6_callersIn_35 : decode cX6_callersIn 35 = .ok (.ireturn, 1) := by decide +kernel
theorem dX6_linesIn_0 : decode cX6_linesIn 0 = .ok (.iconst 0, 1) := by decide +kernel
theorem dX6_linesIn_1 : decode cX6_linesIn 1 = .ok (.istore_n 2, 1) := by decide +kernel
theorem dX6_linesIn_2 : decode cX6_linesIn 2 = .ok (.iconst 0, 1) := by decide +kernel
theorem dX6_linesIn_3 : decode cX6_linesIn 3 = .ok (.istore_n 3, 1) := by decide +kernel
theorem dX6_linesIn_4 : decode cX6_linesIn 4 = .ok (.iload_n 3, 1) := by decide +kernel
theorem dX6_linesIn_5 : decode cX6_linesIn 5 = .ok (.bipush 12, 2) := by decide +kernel
theorem dX6_linesIn_7 : decode cX6_linesIn 7 = .ok (.if_icmp .ge 25, 3) := by decide +kernel
theorem dX6_linesIn_10 : decode cX6_linesIn 10 = .ok (.aload_n 0, 1) := by decide +kernel
theorem dX6_linesIn_11 : decode cX6_linesIn 11 = .ok (.getfield 17, 3) := by decide +kernel
theorem dX6_linesIn_14 : decode cX6_linesIn 14 = .ok (.iload_n 3, 1) := by decide +kernel
theorem dX6_linesIn_15 : decode cX6_linesIn 15 = .ok (.aaload, 1) := by decide +kernel
theorem dX6_linesIn_16 : decode cX6_linesIn 16 = .ok (.getfield 124, 3) := by decide +kernel
theorem dX6_linesIn_19 : decode cX6_linesIn 19 = .ok (.iload_n 1, 1) := by decide +kernel
theorem dX6_linesIn_20 : decode cX6_linesIn 20 = .ok (.if_icmp .ne 6, 3) := by decide +kernel
theorem dX6_linesIn_23 : decode cX6_linesIn 23 = .ok (.iinc 2 1, 3) := by decide +kernel
theorem dX6_linesIn_26 : decode cX6_linesIn 26 = .ok (.iinc 3 1, 3) := by decide +kernel
theorem dX6_linesIn_29 : decode cX6_linesIn 29 = .ok (.goto (-25), 3) := by decide +kernel
theorem dX6_linesIn_32 : decode cX6_linesIn 32 = .ok (.iload_n 2, 1) := by decide +kernel
theorem dX6_linesIn_33 : decode cX6_linesIn 33 = .ok (.ireturn, 1) := by decide +kernel
set_option maxRecDepth 20000 in
theorem ggX6_linesThere_X6_linesIn : GoodIn wsX6_linesThere wsX6_linesIn := goodIn_r _ [5, 6, 7, 8, 9, 10, 11, 12, 13, 14, 15, 16, 17, 18, 19, 20, 21, 22, 23, 24] (by decide +kernel) (by decide +kernel)
set_option maxRecDepth 20000 in
theorem gX6_linesThere_X6_linesIn : GoodIn wsX6_linesThere (wsV RX6 253 RX6 yX6_linesIn wsX6_linesIn) := goodIn_app (goodIn_of _ (by decide +kernel)) ggX6_linesThere_X6_linesIn
theorem dX6_linesThere_0 : decode cX6_linesThere 0 = .ok (.bipush 12, 2) := by decide +kernel
theorem dX6_linesThere_2 : decode cX6_linesThere 2 = .ok (.aload_n 0, 1) := by decide +kernel
theorem dX6_linesThere_3 : decode cX6_linesThere 3 = .ok (.iconst 0, 1) := by decide +kernel
theorem dX6_linesThere_4 : decode cX6_linesThere 4 = .ok (.invokevirtual 253, 3) := by decide +kernel
theorem dX6_linesThere_7 : decode cX6_linesThere 7 = .ok (.isub, 1) := by decide +kernel
theorem dX6_linesThere_8 : decode cX6_linesThere 8 = .ok (.ireturn, 1) := by decide +kernel
set_option maxRecDepth 20000 in
theorem ggX6_linesLentTo_X3_isLentTo : GoodIn wsX6_linesLentTo wsX3_isLentTo := goodIn_r _ [6, 7, 8, 20, 21, 22, 23, 24, 25] (by decide +kernel) (by decide +kernel)
set_option maxRecDepth 20000 in
theorem gX6_linesLentTo_X3_isLentTo : GoodIn wsX6_linesLentTo (wsV RX6 206 RX3 yX3_isLentTo wsX3_isLentTo) := goodIn_app (goodIn_of _ (by decide +kernel)) ggX6_linesLentTo_X3_isLentTo
theorem dX6_linesLentTo_0 : decode cX6_linesLentTo 0 = .ok (.iconst 0, 1) := by decide +kernel
theorem dX6_linesLentTo_1 : decode cX6_linesLentTo 1 = .ok (.istore_n 2, 1) := by decide +kernel
theorem dX6_linesLentTo_2 : decode cX6_linesLentTo 2 = .ok (.iconst 0, 1) := by decide +kernel
theorem dX6_linesLentTo_3 : decode cX6_linesLentTo 3 = .ok (.istore_n 3, 1) := by decide +kernel
theorem dX6_linesLentTo_4 : decode cX6_linesLentTo 4 = .ok (.iload_n 3, 1) := by decide +kernel
theorem dX6_linesLentTo_5 : decode cX6_linesLentTo 5 = .ok (.bipush 12, 2) := by decide +kernel
theorem dX6_linesLentTo_7 : decode cX6_linesLentTo 7 = .ok (.if_icmp .ge 25, 3) := by decide +kernel
theorem dX6_linesLentTo_10 : decode cX6_linesLentTo 10 = .ok (.aload_n 0, 1) := by decide +kernel
theorem dX6_linesLentTo_11 : decode cX6_linesLentTo 11 = .ok (.getfield 17, 3) := by decide +kernel
theorem dX6_linesLentTo_14 : decode cX6_linesLentTo 14 = .ok (.iload_n 3, 1) := by decide +kernel
theorem dX6_linesLentTo_15 : decode cX6_linesLentTo 15 = .ok (.aaload, 1) := by decide +kernel
theorem dX6_linesLentTo_16 : decode cX6_linesLentTo 16 = .ok (.aload_n 1, 1) := by decide +kernel
theorem dX6_linesLentTo_17 : decode cX6_linesLentTo 17 = .ok (.invokevirtual 206, 3) := by decide +kernel
theorem dX6_linesLentTo_20 : decode cX6_linesLentTo 20 = .ok (.ifCond .eq 6, 3) := by decide +kernel
theorem dX6_linesLentTo_23 : decode cX6_linesLentTo 23 = .ok (.iinc 2 1, 3) := by decide +kernel
theorem dX6_linesLentTo_26 : decode cX6_linesLentTo 26 = .ok (.iinc 3 1, 3) := by decide +kernel
theorem dX6_linesLentTo_29 : decode cX6_linesLentTo 29 = .ok (.goto (-25), 3) := by decide +kernel
theorem dX6_linesLentTo_32 : decode cX6_linesLentTo 32 = .ok (.iload_n 2, 1) := by decide +kernel
theorem dX6_linesLentTo_33 : decode cX6_linesLentTo 33 = .ok (.ireturn, 1) := by decide +kernel
set_option maxRecDepth 20000 in
theorem ggX6_figure_X6_callersIn : GoodIn wsX6_figure wsX6_callersIn := goodIn_r _ [13, 2, 14, 15, 32, 33, 34, 35, 36, 37, 38, 39, 40, 41, 42, 46, 47, 48, 49, 50, 51, 52, 53, 54, 55] (by decide +kernel) (by decide +kernel)
set_option maxRecDepth 20000 in
theorem gX6_figure_X6_callersIn : GoodIn wsX6_figure (wsV RX6 171 RX6 yX6_callersIn wsX6_callersIn) := goodIn_app (goodIn_of _ (by decide +kernel)) ggX6_figure_X6_callersIn
set_option maxRecDepth 20000 in
theorem ggX6_figure_X6_linesThere : GoodIn wsX6_figure wsX6_linesThere := goodIn_r _ [19, 20, 21, 22, 12, 23, 24, 25, 32, 33, 34, 35, 36, 37, 38, 39, 40, 41, 42, 56, 57, 58, 59, 60, 61] (by decide +kernel) (by decide +kernel)
set_option maxRecDepth 20000 in
theorem gX6_figure_X6_linesThere : GoodIn wsX6_figure (wsV RX6 249 RX6 yX6_linesThere wsX6_linesThere) := goodIn_app (goodIn_of _ (by decide +kernel)) ggX6_figure_X6_linesThere
set_option maxRecDepth 20000 in
theorem ggX6_figure_X6_linesIn : GoodIn wsX6_figure wsX6_linesIn := goodIn_r _ [23, 24, 25, 32, 33, 34, 35, 36, 37, 38, 39, 40, 41, 42, 56, 57, 58, 59, 60, 61] (by decide +kernel) (by decide +kernel)
set_option maxRecDepth 20000 in
theorem gX6_figure_X6_linesIn : GoodIn wsX6_figure (wsV RX6 253 RX6 yX6_linesIn wsX6_linesIn) := goodIn_app (goodIn_of _ (by decide +kernel)) ggX6_figure_X6_linesIn
set_option maxRecDepth 20000 in
theorem ggX6_figure_X4_total : GoodIn wsX6_figure wsX4_total := goodIn_r _ [30, 31, 43, 44, 45] (by decide +kernel) (by decide +kernel)
set_option maxRecDepth 20000 in
theorem gX6_figure_X4_total : GoodIn wsX6_figure (wsV RX6 84 RX4 yX4_total wsX4_total) := goodIn_app (goodIn_of _ (by decide +kernel)) ggX6_figure_X4_total
theorem dX6_figure_0 : decode cX6_figure 0 = .ok (.iload_n 1, 1) := by decide +kernel
theorem dX6_figure_1 : decode cX6_figure 1 = .ok (.tableswitch 227 0 17 #[87, 93, 99, 106, 113, 119, 126, 133, 143, 153, 163, 173, 179, 190, 201, 206, 212, 218], 87) := by decide +kernel
theorem dX6_figure_88 : decode cX6_figure 88 = .ok (.aload_n 0, 1) := by decide +kernel
theorem dX6_figure_89 : decode cX6_figure 89 = .ok (.getfield 56, 3) := by decide +kernel
theorem dX6_figure_92 : decode cX6_figure 92 = .ok (.i2l, 1) := by decide +kernel
theorem dX6_figure_93 : decode cX6_figure 93 = .ok (.lreturn, 1) := by decide +kernel
theorem dX6_figure_94 : decode cX6_figure 94 = .ok (.aload_n 0, 1) := by decide +kernel
theorem dX6_figure_95 : decode cX6_figure 95 = .ok (.getfield 52, 3) := by decide +kernel
theorem dX6_figure_98 : decode cX6_figure 98 = .ok (.i2l, 1) := by decide +kernel
theorem dX6_figure_99 : decode cX6_figure 99 = .ok (.lreturn, 1) := by decide +kernel
theorem dX6_figure_100 : decode cX6_figure 100 = .ok (.aload_n 0, 1) := by decide +kernel
theorem dX6_figure_101 : decode cX6_figure 101 = .ok (.iconst 1, 1) := by decide +kernel
theorem dX6_figure_102 : decode cX6_figure 102 = .ok (.invokevirtual 171, 3) := by decide +kernel
theorem dX6_figure_105 : decode cX6_figure 105 = .ok (.i2l, 1) := by decide +kernel
theorem dX6_figure_106 : decode cX6_figure 106 = .ok (.lreturn, 1) := by decide +kernel
theorem dX6_figure_107 : decode cX6_figure 107 = .ok (.aload_n 0, 1) := by decide +kernel
theorem dX6_figure_108 : decode cX6_figure 108 = .ok (.iconst 3, 1) := by decide +kernel
theorem dX6_figure_109 : decode cX6_figure 109 = .ok (.invokevirtual 171, 3) := by decide +kernel
theorem dX6_figure_112 : decode cX6_figure 112 = .ok (.i2l, 1) := by decide +kernel
theorem dX6_figure_113 : decode cX6_figure 113 = .ok (.lreturn, 1) := by decide +kernel
theorem dX6_figure_114 : decode cX6_figure 114 = .ok (.aload_n 0, 1) := by decide +kernel
theorem dX6_figure_115 : decode cX6_figure 115 = .ok (.invokevirtual 249, 3) := by decide +kernel
theorem dX6_figure_118 : decode cX6_figure 118 = .ok (.i2l, 1) := by decide +kernel
theorem dX6_figure_119 : decode cX6_figure 119 = .ok (.lreturn, 1) := by decide +kernel
theorem dX6_figure_120 : decode cX6_figure 120 = .ok (.aload_n 0, 1) := by decide +kernel
theorem dX6_figure_121 : decode cX6_figure 121 = .ok (.iconst 2, 1) := by decide +kernel
theorem dX6_figure_122 : decode cX6_figure 122 = .ok (.invokevirtual 253, 3) := by decide +kernel
theorem dX6_figure_125 : decode cX6_figure 125 = .ok (.i2l, 1) := by decide +kernel
theorem dX6_figure_126 : decode cX6_figure 126 = .ok (.lreturn, 1) := by decide +kernel
theorem dX6_figure_127 : decode cX6_figure 127 = .ok (.aload_n 0, 1) := by decide +kernel
theorem dX6_figure_128 : decode cX6_figure 128 = .ok (.iconst 4, 1) := by decide +kernel
theorem dX6_figure_129 : decode cX6_figure 129 = .ok (.invokevirtual 253, 3) := by decide +kernel
theorem dX6_figure_132 : decode cX6_figure 132 = .ok (.i2l, 1) := by decide +kernel
theorem dX6_figure_133 : decode cX6_figure 133 = .ok (.lreturn, 1) := by decide +kernel
theorem dX6_figure_134 : decode cX6_figure 134 = .ok (.aload_n 0, 1) := by decide +kernel
theorem dX6_figure_135 : decode cX6_figure 135 = .ok (.getfield 41, 3) := by decide +kernel
theorem dX6_figure_138 : decode cX6_figure 138 = .ok (.iconst 2, 1) := by decide +kernel
theorem dX6_figure_139 : decode cX6_figure 139 = .ok (.invokevirtual 84, 3) := by decide +kernel
theorem dX6_figure_142 : decode cX6_figure 142 = .ok (.i2l, 1) := by decide +kernel
theorem dX6_figure_143 : decode cX6_figure 143 = .ok (.lreturn, 1) := by decide +kernel
theorem dX6_figure_144 : decode cX6_figure 144 = .ok (.aload_n 0, 1) := by decide +kernel
theorem dX6_figure_145 : decode cX6_figure 145 = .ok (.getfield 41, 3) := by decide +kernel
theorem dX6_figure_148 : decode cX6_figure 148 = .ok (.iconst 3, 1) := by decide +kernel
theorem dX6_figure_149 : decode cX6_figure 149 = .ok (.invokevirtual 84, 3) := by decide +kernel
theorem dX6_figure_152 : decode cX6_figure 152 = .ok (.i2l, 1) := by decide +kernel
theorem dX6_figure_153 : decode cX6_figure 153 = .ok (.lreturn, 1) := by decide +kernel
theorem dX6_figure_154 : decode cX6_figure 154 = .ok (.aload_n 0, 1) := by decide +kernel
theorem dX6_figure_155 : decode cX6_figure 155 = .ok (.getfield 41, 3) := by decide +kernel
theorem dX6_figure_158 : decode cX6_figure 158 = .ok (.iconst 4, 1) := by decide +kernel
theorem dX6_figure_159 : decode cX6_figure 159 = .ok (.invokevirtual 84, 3) := by decide +kernel
theorem dX6_figure_162 : decode cX6_figure 162 = .ok (.i2l, 1) := by decide +kernel
theorem dX6_figure_163 : decode cX6_figure 163 = .ok (.lreturn, 1) := by decide +kernel
theorem dX6_figure_164 : decode cX6_figure 164 = .ok (.aload_n 0, 1) := by decide +kernel
theorem dX6_figure_165 : decode cX6_figure 165 = .ok (.getfield 41, 3) := by decide +kernel
theorem dX6_figure_168 : decode cX6_figure 168 = .ok (.iconst 5, 1) := by decide +kernel
theorem dX6_figure_169 : decode cX6_figure 169 = .ok (.invokevirtual 84, 3) := by decide +kernel
theorem dX6_figure_172 : decode cX6_figure 172 = .ok (.i2l, 1) := by decide +kernel
theorem dX6_figure_173 : decode cX6_figure 173 = .ok (.lreturn, 1) := by decide +kernel
theorem dX6_figure_174 : decode cX6_figure 174 = .ok (.aload_n 0, 1) := by decide +kernel
theorem dX6_figure_175 : decode cX6_figure 175 = .ok (.getfield 59, 3) := by decide +kernel
theorem dX6_figure_178 : decode cX6_figure 178 = .ok (.i2l, 1) := by decide +kernel
theorem dX6_figure_179 : decode cX6_figure 179 = .ok (.lreturn, 1) := by decide +kernel
theorem dX6_figure_180 : decode cX6_figure 180 = .ok (.aload_n 0, 1) := by decide +kernel
theorem dX6_figure_181 : decode cX6_figure 181 = .ok (.getfield 41, 3) := by decide +kernel
theorem dX6_figure_184 : decode cX6_figure 184 = .ok (.bipush 6, 2) := by decide +kernel
theorem dX6_figure_186 : decode cX6_figure 186 = .ok (.invokevirtual 84, 3) := by decide +kernel
theorem dX6_figure_189 : decode cX6_figure 189 = .ok (.i2l, 1) := by decide +kernel
theorem dX6_figure_190 : decode cX6_figure 190 = .ok (.lreturn, 1) := by decide +kernel
theorem dX6_figure_191 : decode cX6_figure 191 = .ok (.aload_n 0, 1) := by decide +kernel
theorem dX6_figure_192 : decode cX6_figure 192 = .ok (.getfield 41, 3) := by decide +kernel
theorem dX6_figure_195 : decode cX6_figure 195 = .ok (.bipush 7, 2) := by decide +kernel
theorem dX6_figure_197 : decode cX6_figure 197 = .ok (.invokevirtual 84, 3) := by decide +kernel
theorem dX6_figure_200 : decode cX6_figure 200 = .ok (.i2l, 1) := by decide +kernel
theorem dX6_figure_201 : decode cX6_figure 201 = .ok (.lreturn, 1) := by decide +kernel
theorem dX6_figure_202 : decode cX6_figure 202 = .ok (.aload_n 0, 1) := by decide +kernel
theorem dX6_figure_203 : decode cX6_figure 203 = .ok (.getfield 62, 3) := by decide +kernel
theorem dX6_figure_206 : decode cX6_figure 206 = .ok (.lreturn, 1) := by decide +kernel
theorem dX6_figure_207 : decode cX6_figure 207 = .ok (.aload_n 0, 1) := by decide +kernel
theorem dX6_figure_208 : decode cX6_figure 208 = .ok (.getfield 66, 3) := by decide +kernel
theorem dX6_figure_211 : decode cX6_figure 211 = .ok (.i2l, 1) := by decide +kernel
theorem dX6_figure_212 : decode cX6_figure 212 = .ok (.lreturn, 1) := by decide +kernel
theorem dX6_figure_213 : decode cX6_figure 213 = .ok (.aload_n 0, 1) := by decide +kernel
theorem dX6_figure_214 : decode cX6_figure 214 = .ok (.getfield 69, 3) := by decide +kernel
theorem dX6_figure_217 : decode cX6_figure 217 = .ok (.i2l, 1) := by decide +kernel
theorem dX6_figure_218 : decode cX6_figure 218 = .ok (.lreturn, 1) := by decide +kernel
theorem dX6_figure_219 : decode cX6_figure 219 = .ok (.aload_n 0, 1) := by decide +kernel
theorem dX6_figure_220 : decode cX6_figure 220 = .ok (.getfield 41, 3) := by decide +kernel
theorem dX6_figure_223 : decode cX6_figure 223 = .ok (.getfield 271, 3) := by decide +kernel
theorem dX6_figure_226 : decode cX6_figure 226 = .ok (.i2l, 1) := by decide +kernel
theorem dX6_figure_227 : decode cX6_figure 227 = .ok (.lreturn, 1) := by decide +kernel
theorem dX6_figure_228 : decode cX6_figure 228 = .ok (.ldc2_w 274, 3) := by decide +kernel
theorem dX6_figure_231 : decode cX6_figure 231 = .ok (.lreturn, 1) := by decide +kernel
set_option maxRecDepth 20000 in
theorem ggX6_lineFigure_X8_within : GoodIn wsX6_lineFigure wsX8_within := goodIn_r _ [4] (by decide +kernel) (by decide +kernel)
set_option maxRecDepth 20000 in
theorem gX6_lineFigure_X8_within_n76 : GoodIn wsX6_lineFigure (wsX8_within) := ggX6_lineFigure_X8_within
set_option maxRecDepth 20000 in
theorem ggX6_lineFigure_X3_figure : GoodIn wsX6_lineFigure wsX3_figure := goodIn_r _ [9, 10, 11, 12, 13, 14, 15, 27, 28, 29, 30, 31, 32, 33, 34, 35, 36, 37, 38, 39, 40, 41, 42] (by decide +kernel) (by decide +kernel)
set_option maxRecDepth 20000 in
theorem gX6_lineFigure_X3_figure : GoodIn wsX6_lineFigure (wsV RX6 276 RX3 yX3_figure wsX3_figure) := goodIn_app (goodIn_of _ (by decide +kernel)) ggX6_lineFigure_X3_figure
theorem dX6_lineFigure_0 : decode cX6_lineFigure 0 = .ok (.iload_n 1, 1) := by decide +kernel
theorem dX6_lineFigure_1 : decode cX6_lineFigure 1 = .ok (.iconst 0, 1) := by decide +kernel
theorem dX6_lineFigure_2 : decode cX6_lineFigure 2 = .ok (.bipush 11, 2) := by decide +kernel
theorem dX6_lineFigure_4 : decode cX6_lineFigure 4 = .ok (.invokestatic 76, 3) := by decide +kernel
theorem dX6_lineFigure_7 : decode cX6_lineFigure 7 = .ok (.ifCond .eq 16, 3) := by decide +kernel
theorem dX6_lineFigure_10 : decode cX6_lineFigure 10 = .ok (.aload_n 0, 1) := by decide +kernel
theorem dX6_lineFigure_11 : decode cX6_lineFigure 11 = .ok (.getfield 17, 3) := by decide +kernel
theorem dX6_lineFigure_14 : decode cX6_lineFigure 14 = .ok (.iload_n 1, 1) := by decide +kernel
theorem dX6_lineFigure_15 : decode cX6_lineFigure 15 = .ok (.aaload, 1) := by decide +kernel
theorem dX6_lineFigure_16 : decode cX6_lineFigure 16 = .ok (.iload_n 2, 1) := by decide +kernel
theorem dX6_lineFigure_17 : decode cX6_lineFigure 17 = .ok (.invokevirtual 276, 3) := by decide +kernel
theorem dX6_lineFigure_20 : decode cX6_lineFigure 20 = .ok (.goto 4, 3) := by decide +kernel
theorem dX6_lineFigure_23 : decode cX6_lineFigure 23 = .ok (.iconst (-1), 1) := by decide +kernel
theorem dX6_lineFigure_24 : decode cX6_lineFigure 24 = .ok (.ireturn, 1) := by decide +kernel
set_option maxRecDepth 20000 in
theorem ggX6_eventFigure_X4_figure : GoodIn wsX6_eventFigure wsX4_figure := goodIn_r _ [6, 7, 8, 9, 10, 11, 12, 13, 14, 15, 16, 17, 18, 19, 31, 32, 33] (by decide +kernel) (by decide +kernel)
set_option maxRecDepth 20000 in
theorem gX6_eventFigure_X4_figure : GoodIn wsX6_eventFigure (wsV RX6 279 RX4 yX4_figure wsX4_figure) := goodIn_app (goodIn_of _ (by decide +kernel)) ggX6_eventFigure_X4_figure
theorem dX6_eventFigure_0 : decode cX6_eventFigure 0 = .ok (.aload_n 0, 1) := by decide +kernel
theorem dX6_eventFigure_1 : decode cX6_eventFigure 1 = .ok (.getfield 41, 3) := by decide +kernel
theorem dX6_eventFigure_4 : decode cX6_eventFigure 4 = .ok (.iload_n 1, 1) := by decide +kernel
theorem dX6_eventFigure_5 : decode cX6_eventFigure 5 = .ok (.iload_n 2, 1) := by decide +kernel
theorem dX6_eventFigure_6 : decode cX6_eventFigure 6 = .ok (.invokevirtual 279, 3) := by decide +kernel
theorem dX6_eventFigure_9 : decode cX6_eventFigure 9 = .ok (.ireturn, 1) := by decide +kernel
set_option maxRecDepth 20000 in
theorem ggX6_hasCaller_X8_within : GoodIn wsX6_hasCaller wsX8_within := goodIn_r _ [4] (by decide +kernel) (by decide +kernel)
set_option maxRecDepth 20000 in
theorem gX6_hasCaller_X8_within_n76 : GoodIn wsX6_hasCaller (wsX8_within) := ggX6_hasCaller_X8_within
theorem dX6_hasCaller_0 : decode cX6_hasCaller 0 = .ok (.iload_n 1, 1) := by decide +kernel
theorem dX6_hasCaller_1 : decode cX6_hasCaller 1 = .ok (.iconst 0, 1) := by decide +kernel
theorem dX6_hasCaller_2 : decode cX6_hasCaller 2 = .ok (.aload_n 0, 1) := by decide +kernel
theorem dX6_hasCaller_3 : decode cX6_hasCaller 3 = .ok (.getfield 52, 3) := by decide +kernel
theorem dX6_hasCaller_6 : decode cX6_hasCaller 6 = .ok (.iconst 1, 1) := by decide +kernel
theorem dX6_hasCaller_7 : decode cX6_hasCaller 7 = .ok (.isub, 1) := by decide +kernel
theorem dX6_hasCaller_8 : decode cX6_hasCaller 8 = .ok (.invokestatic 76, 3) := by decide +kernel
theorem dX6_hasCaller_11 : decode cX6_hasCaller 11 = .ok (.ireturn, 1) := by decide +kernel
set_option maxRecDepth 20000 in
theorem ggX6_callerFigure_X6_linesLentTo : GoodIn wsX6_callerFigure wsX6_linesLentTo := goodIn_r _ [11, 12, 13, 14, 15, 16, 17, 18, 19, 20, 21, 22, 23, 24, 25, 26, 27, 28, 29, 30, 41, 42, 43, 44, 45, 46] (by decide +kernel) (by decide +kernel)
set_option maxRecDepth 20000 in
theorem gX6_callerFigure_X6_linesLentTo : GoodIn wsX6_callerFigure (wsV RX6 281 RX6 yX6_linesLentTo wsX6_linesLentTo) := goodIn_app (goodIn_of _ (by decide +kernel)) ggX6_callerFigure_X6_linesLentTo
theorem dX6_callerFigure_0 : decode cX6_callerFigure 0 = .ok (.aload_n 0, 1) := by decide +kernel
theorem dX6_callerFigure_1 : decode cX6_callerFigure 1 = .ok (.getfield 26, 3) := by decide +kernel
theorem dX6_callerFigure_4 : decode cX6_callerFigure 4 = .ok (.iload_n 1, 1) := by decide +kernel
theorem dX6_callerFigure_5 : decode cX6_callerFigure 5 = .ok (.aaload, 1) := by decide +kernel
theorem dX6_callerFigure_6 : decode cX6_callerFigure 6 = .ok (.astore_n 3, 1) := by decide +kernel
theorem dX6_callerFigure_7 : decode cX6_callerFigure 7 = .ok (.iload_n 2, 1) := by decide +kernel
theorem dX6_callerFigure_8 : decode cX6_callerFigure 8 = .ok (.tableswitch 71 0 5 #[40, 45, 50, 56, 61, 66], 40) := by decide +kernel
theorem dX6_callerFigure_48 : decode cX6_callerFigure 48 = .ok (.aload_n 3, 1) := by decide +kernel
theorem dX6_callerFigure_49 : decode cX6_callerFigure 49 = .ok (.getfield 151, 3) := by decide +kernel
theorem dX6_callerFigure_52 : decode cX6_callerFigure 52 = .ok (.ireturn, 1) := by decide +kernel
theorem dX6_callerFigure_53 : decode cX6_callerFigure 53 = .ok (.aload_n 3, 1) := by decide +kernel
theorem dX6_callerFigure_54 : decode cX6_callerFigure 54 = .ok (.getfield 179, 3) := by decide +kernel
theorem dX6_callerFigure_57 : decode cX6_callerFigure 57 = .ok (.ireturn, 1) := by decide +kernel
theorem dX6_callerFigure_58 : decode cX6_callerFigure 58 = .ok (.aload_n 0, 1) := by decide +kernel
theorem dX6_callerFigure_59 : decode cX6_callerFigure 59 = .ok (.aload_n 3, 1) := by decide +kernel
theorem dX6_callerFigure_60 : decode cX6_callerFigure 60 = .ok (.invokevirtual 281, 3) := by decide +kernel
theorem dX6_callerFigure_63 : decode cX6_callerFigure 63 = .ok (.ireturn, 1) := by decide +kernel
theorem dX6_callerFigure_64 : decode cX6_callerFigure 64 = .ok (.aload_n 3, 1) := by decide +kernel
theorem dX6_callerFigure_65 : decode cX6_callerFigure 65 = .ok (.getfield 223, 3) := by decide +kernel
theorem dX6_callerFigure_68 : decode cX6_callerFigure 68 = .ok (.ireturn, 1) := by decide +kernel
theorem dX6_callerFigure_69 : decode cX6_callerFigure 69 = .ok (.aload_n 3, 1) := by decide +kernel
theorem dX6_callerFigure_70 : decode cX6_callerFigure 70 = .ok (.getfield 191, 3) := by decide +kernel
theorem dX6_callerFigure_73 : decode cX6_callerFigure 73 = .ok (.ireturn, 1) := by decide +kernel
theorem dX6_callerFigure_74 : decode cX6_callerFigure 74 = .ok (.aload_n 3, 1) := by decide +kernel
theorem dX6_callerFigure_75 : decode cX6_callerFigure 75 = .ok (.getfield 239, 3) := by decide +kernel
theorem dX6_callerFigure_78 : decode cX6_callerFigure 78 = .ok (.ireturn, 1) := by decide +kernel
theorem dX6_callerFigure_79 : decode cX6_callerFigure 79 = .ok (.iconst (-1), 1) := by decide +kernel
theorem dX6_callerFigure_80 : decode cX6_callerFigure 80 = .ok (.ireturn, 1) := by decide +kernel
theorem dX7_init_0 : decode cX7_init 0 = .ok (.aload_n 0, 1) := by decide +kernel
theorem dX7_init_1 : decode cX7_init 1 = .ok (.invokespecial 3, 3) := by decide +kernel
theorem dX7_init_4 : decode cX7_init 4 = .ok (.aload_n 0, 1) := by decide +kernel
theorem dX7_init_5 : decode cX7_init 5 = .ok (.getstatic 9, 3) := by decide +kernel
theorem dX7_init_8 : decode cX7_init 8 = .ok (.invokevirtual 15, 3) := by decide +kernel
theorem dX7_init_11 : decode cX7_init 11 = .ok (.checkcast 16, 3) := by decide +kernel
theorem dX7_init_14 : decode cX7_init 14 = .ok (.putfield 20, 3) := by decide +kernel
theorem dX7_init_17 : decode cX7_init 17 = .ok (.aload_n 0, 1) := by decide +kernel
theorem dX7_init_18 : decode cX7_init 18 = .ok (.bipush 12, 2) := by decide +kernel
theorem dX7_init_20 : decode cX7_init 20 = .ok (.newarray .int, 2) := by decide +kernel
theorem dX7_init_22 : decode cX7_init 22 = .ok (.putfield 23, 3) := by decide +kernel
theorem dX7_init_25 : decode cX7_init 25 = .ok (.iconst 0, 1) := by decide +kernel
theorem dX7_init_26 : decode cX7_init 26 = .ok (.istore_n 1, 1) := by decide +kernel
theorem dX7_init_27 : decode cX7_init 27 = .ok (.iload_n 1, 1) := by decide +kernel
theorem dX7_init_28 : decode cX7_init 28 = .ok (.bipush 12, 2) := by decide +kernel
theorem dX7_init_30 : decode cX7_init 30 = .ok (.if_icmp .ge 17, 3) := by decide +kernel
theorem dX7_init_33 : decode cX7_init 33 = .ok (.aload_n 0, 1) := by decide +kernel
theorem dX7_init_34 : decode cX7_init 34 = .ok (.getfield 23, 3) := by decide +kernel
theorem dX7_init_37 : decode cX7_init 37 = .ok (.iload_n 1, 1) := by decide +kernel
theorem dX7_init_38 : decode cX7_init 38 = .ok (.bipush 10, 2) := by decide +kernel
theorem dX7_init_40 : decode cX7_init 40 = .ok (.iastore, 1) := by decide +kernel
theorem dX7_init_41 : decode cX7_init 41 = .ok (.iinc 1 1, 3) := by decide +kernel
theorem dX7_init_44 : decode cX7_init 44 = .ok (.goto (-17), 3) := by decide +kernel
theorem dX7_init_47 : decode cX7_init 47 = .ok (.return_, 1) := by decide +kernel
set_option maxRecDepth 20000 in
theorem ggX7_change_X8_within : GoodIn wsX7_change wsX8_within := goodIn_r _ [6] (by decide +kernel) (by decide +kernel)
set_option maxRecDepth 20000 in
theorem gX7_change_X8_within_n26 : GoodIn wsX7_change (wsX8_within) := ggX7_change_X8_within
theorem dX7_change_0 : decode cX7_change 0 = .ok (.iload_n 1, 1) := by decide +kernel
theorem dX7_change_1 : decode cX7_change 1 = .ok (.iconst 0, 1) := by decide +kernel
theorem dX7_change_2 : decode cX7_change 2 = .ok (.iconst 5, 1) := by decide +kernel
theorem dX7_change_3 : decode cX7_change 3 = .ok (.invokestatic 26, 3) := by decide +kernel
theorem dX7_change_6 : decode cX7_change 6 = .ok (.ifCond .eq 20, 3) := by decide +kernel
theorem dX7_change_9 : decode cX7_change 9 = .ok (.iload_n 2, 1) := by decide +kernel
theorem dX7_change_10 : decode cX7_change 10 = .ok (.getstatic 30, 3) := by decide +kernel
theorem dX7_change_13 : decode cX7_change 13 = .ok (.iload_n 1, 1) := by decide +kernel
theorem dX7_change_14 : decode cX7_change 14 = .ok (.iaload, 1) := by decide +kernel
theorem dX7_change_15 : decode cX7_change 15 = .ok (.getstatic 33, 3) := by decide +kernel
theorem dX7_change_18 : decode cX7_change 18 = .ok (.iload_n 1, 1) := by decide +kernel
theorem dX7_change_19 : decode cX7_change 19 = .ok (.iaload, 1) := by decide +kernel
theorem dX7_change_20 : decode cX7_change 20 = .ok (.invokestatic 26, 3) := by decide +kernel
theorem dX7_change_23 : decode cX7_change 23 = .ok (.ifCond .ne 6, 3) := by decide +kernel
theorem dX7_change_26 : decode cX7_change 26 = .ok (.bipush (-2), 2) := by decide +kernel
theorem dX7_change_28 : decode cX7_change 28 = .ok (.ireturn, 1) := by decide +kernel
theorem dX7_change_29 : decode cX7_change 29 = .ok (.aload_n 0, 1) := by decide +kernel
theorem dX7_change_30 : decode cX7_change 30 = .ok (.getfield 20, 3) := by decide +kernel
theorem dX7_change_33 : decode cX7_change 33 = .ok (.iload_n 1, 1) := by decide +kernel
theorem dX7_change_34 : decode cX7_change 34 = .ok (.iaload, 1) := by decide +kernel
theorem dX7_change_35 : decode cX7_change 35 = .ok (.istore_n 3, 1) := by decide +kernel
theorem dX7_change_36 : decode cX7_change 36 = .ok (.aload_n 0, 1) := by decide +kernel
theorem dX7_change_37 : decode cX7_change 37 = .ok (.getfield 20, 3) := by decide +kernel
theorem dX7_change_40 : decode cX7_change 40 = .ok (.iload_n 1, 1) := by decide +kernel
theorem dX7_change_41 : decode cX7_change 41 = .ok (.iload_n 2, 1) := by decide +kernel
theorem dX7_change_42 : decode cX7_change 42 = .ok (.iastore, 1) := by decide +kernel
theorem dX7_change_43 : decode cX7_change 43 = .ok (.iload_n 3, 1) := by decide +kernel
theorem dX7_change_44 : decode cX7_change 44 = .ok (.ireturn, 1) := by decide +kernel
set_option maxRecDepth 20000 in
theorem ggX7_changeSpeed_X8_within : GoodIn wsX7_changeSpeed wsX8_within := goodIn_r _ [4] (by decide +kernel) (by decide +kernel)
set_option maxRecDepth 20000 in
theorem gX7_changeSpeed_X8_within_n26 : GoodIn wsX7_changeSpeed (wsX8_within) := ggX7_changeSpeed_X8_within
theorem dX7_changeSpeed_0 : decode cX7_changeSpeed 0 = .ok (.iload_n 1, 1) := by decide +kernel
theorem dX7_changeSpeed_1 : decode cX7_changeSpeed 1 = .ok (.iconst 1, 1) := by decide +kernel
theorem dX7_changeSpeed_2 : decode cX7_changeSpeed 2 = .ok (.bipush 12, 2) := by decide +kernel
theorem dX7_changeSpeed_4 : decode cX7_changeSpeed 4 = .ok (.invokestatic 26, 3) := by decide +kernel
theorem dX7_changeSpeed_7 : decode cX7_changeSpeed 7 = .ok (.ifCond .eq 13, 3) := by decide +kernel
theorem dX7_changeSpeed_10 : decode cX7_changeSpeed 10 = .ok (.iload_n 2, 1) := by decide +kernel
theorem dX7_changeSpeed_11 : decode cX7_changeSpeed 11 = .ok (.iconst 1, 1) := by decide +kernel
theorem dX7_changeSpeed_12 : decode cX7_changeSpeed 12 = .ok (.bipush 100, 2) := by decide +kernel
theorem dX7_changeSpeed_14 : decode cX7_changeSpeed 14 = .ok (.invokestatic 26, 3) := by decide +kernel
theorem dX7_changeSpeed_17 : decode cX7_changeSpeed 17 = .ok (.ifCond .ne 5, 3) := by decide +kernel
theorem dX7_changeSpeed_20 : decode cX7_changeSpeed 20 = .ok (.iconst 0, 1) := by decide +kernel
theorem dX7_changeSpeed_21 : decode cX7_changeSpeed 21 = .ok (.ireturn, 1) := by decide +kernel
theorem dX7_changeSpeed_22 : decode cX7_changeSpeed 22 = .ok (.aload_n 0, 1) := by decide +kernel
theorem dX7_changeSpeed_23 : decode cX7_changeSpeed 23 = .ok (.getfield 23, 3) := by decide +kernel
theorem dX7_changeSpeed_26 : decode cX7_changeSpeed 26 = .ok (.iload_n 1, 1) := by decide +kernel
theorem dX7_changeSpeed_27 : decode cX7_changeSpeed 27 = .ok (.iconst 1, 1) := by decide +kernel
theorem dX7_changeSpeed_28 : decode cX7_changeSpeed 28 = .ok (.isub, 1) := by decide +kernel
theorem dX7_changeSpeed_29 : decode cX7_changeSpeed 29 = .ok (.iload_n 2, 1) := by decide +kernel
theorem dX7_changeSpeed_30 : decode cX7_changeSpeed 30 = .ok (.iastore, 1) := by decide +kernel
theorem dX7_changeSpeed_31 : decode cX7_changeSpeed 31 = .ok (.iconst 1, 1) := by decide +kernel
theorem dX7_changeSpeed_32 : decode cX7_changeSpeed 32 = .ok (.ireturn, 1) := by decide +kernel
theorem dX7_number_0 : decode cX7_number 0 = .ok (.aload_n 0, 1) := by decide +kernel
theorem dX7_number_1 : decode cX7_number 1 = .ok (.getfield 20, 3) := by decide +kernel
theorem dX7_number_4 : decode cX7_number 4 = .ok (.iload_n 1, 1) := by decide +kernel
theorem dX7_number_5 : decode cX7_number 5 = .ok (.iaload, 1) := by decide +kernel
theorem dX7_number_6 : decode cX7_number 6 = .ok (.ireturn, 1) := by decide +kernel
theorem dX7_speedOf_0 : decode cX7_speedOf 0 = .ok (.aload_n 0, 1) := by decide +kernel
theorem dX7_speedOf_1 : decode cX7_speedOf 1 = .ok (.getfield 23, 3) := by decide +kernel
theorem dX7_speedOf_4 : decode cX7_speedOf 4 = .ok (.iconst 1, 1) := by decide +kernel
theorem dX7_speedOf_5 : decode cX7_speedOf 5 = .ok (.iload_n 1, 1) := by decide +kernel
theorem dX7_speedOf_6 : decode cX7_speedOf 6 = .ok (.bipush 12, 2) := by decide +kernel
theorem dX7_speedOf_8 : decode cX7_speedOf 8 = .ok (.invokestatic 36, 3) := by decide +kernel
theorem dX7_speedOf_11 : decode cX7_speedOf 11 = .ok (.invokestatic 42, 3) := by decide +kernel
theorem dX7_speedOf_14 : decode cX7_speedOf 14 = .ok (.iconst 1, 1) := by decide +kernel
theorem dX7_speedOf_15 : decode cX7_speedOf 15 = .ok (.isub, 1) := by decide +kernel
theorem dX7_speedOf_16 : decode cX7_speedOf 16 = .ok (.iaload, 1) := by decide +kernel
theorem dX7_speedOf_17 : decode cX7_speedOf 17 = .ok (.ireturn, 1) := by decide +kernel
set_option maxRecDepth 20000 in
theorem ggX8_init_X7_init : GoodIn wsX8_init wsX7_init := goodIn_r _ [22, 23, 2, 3, 24, 25, 26, 27, 28, 29, 30, 31, 32, 33, 90, 91] (by decide +kernel) (by decide +kernel)
set_option maxRecDepth 20000 in
theorem gX8_init_X7_init : GoodIn wsX8_init (wsX7_init) := ggX8_init_X7_init
set_option maxRecDepth 20000 in
theorem ggX8_init_X6_init : GoodIn wsX8_init wsX6_init := goodIn_r _ [36, 37, 2, 3, 38, 39, 40, 41, 42, 43, 44, 45, 46, 47, 48, 49, 50, 51, 52, 53, 54, 55, 56, 57, 58, 59, 60, 61, 62, 63, 64, 65, 66, 67, 68, 32, 69, 70, 71, 72, 73, 74, 75, 76, 96, 97, 98, 99, 100, 101, 102, 103, 104, 105, 106, 117, 118, 119, 120, 121, 122, 123, 124, 125, 126, 127, 128, 129, 130, 131, 132, 133, 134, 135, 136, 137, 138] (by decide +kernel) (by decide +kernel)
set_option maxRecDepth 20000 in
theorem gX8_init_X6_init : GoodIn wsX8_init (wsX6_init) := ggX8_init_X6_init
set_option maxRecDepth 20000 in
theorem ggX8_init_X5_init : GoodIn wsX8_init wsX5_init := goodIn_r _ [79, 80, 2, 3, 81, 107, 108, 109] (by decide +kernel) (by decide +kernel)
set_option maxRecDepth 20000 in
theorem gX8_init_X5_init : GoodIn wsX8_init (wsX5_init) := ggX8_init_X5_init
set_option maxRecDepth 20000 in
theorem ggX8_init_X2_init : GoodIn wsX8_init wsX2_init := goodIn_r _ [84, 85, 2, 3, 32, 86, 87, 88, 89, 110, 111, 112, 113, 114, 115, 116] (by decide +kernel) (by decide +kernel)
set_option maxRecDepth 20000 in
theorem gX8_init_X2_init : GoodIn wsX8_init (wsX2_init) := ggX8_init_X2_init
theorem dX8_init_0 : decode cX8_init 0 = .ok (.aload_n 0, 1) := by decide +kernel
theorem dX8_init_1 : decode cX8_init 1 = .ok (.invokespecial 1, 3) := by decide +kernel
theorem dX8_init_4 : decode cX8_init 4 = .ok (.aload_n 0, 1) := by decide +kernel
theorem dX8_init_5 : decode cX8_init 5 = .ok (.new 7, 3) := by decide +kernel
